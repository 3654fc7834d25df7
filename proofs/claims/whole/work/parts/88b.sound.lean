/-! Every run of the small machine is one of the real machine: with the calls that are proved apart told by their kind. -/
section PVS6
variable {tab : Nat → Option pv_M} {ext : Nat → List Value → pv_H → Option pv_O} {X : pv_X} {dft : Nat → List Value} {LT : List (Nat × Nat × Nat × Nat × Nat × Nat)} {NW : List (String × Nat × MethodName × String)}
/-- which kinds of calls are proved apart -/
def ok15 (x : Nat × pv_I) : Bool := match x with
  | (_, .invokevirtual _, _, i1, _, _, i4) => !(decide (i4 = 15) && decide (i1 = 903))
  | (_, .invokestatic _, _, i1, _, _, i4) => !(decide (i4 = 15) && !decide (i1 = 903))
  | _ => true
def pv_EXT2 (l : Launch) (D : va_G) (ad : Nat → Nat) (base : Nat) (cyf : Nat → ClassId) (X : pv_X) (NW : List (String × Nat × MethodName × String)) (Ks : State → Prop) (LT : List (Nat × Nat × Nat × Nat × Nat × Nat)) (ext : Nat → List Value → pv_H → Option pv_O) : Prop :=
  (∀ mid as h q, ext mid as h = some q → h.length ≤ q.2.length ∧ pv_sz h ≤ pv_sz q.2) ∧
  ∀ (p : Program) (e : Env) (R : Room) (s : State) (m : MethodId) (args : Array Value) (below : List Frame) (meth : Method) (c : Code) (cc : ByteArray) (o nL n0 z0 : Nat) (nm : String) (ret : Option FieldType) (pc idx i1 i2 i3 : Nat) (ins : Instr) (H : Heap) (locs : List Loc) (lsA : Array Slot) (ls : pv_L) (as rest : List Value) (h : pv_H) (q : pv_O),
    pv_Cx D ad base cyf X NW Ks p s m args meth c cc o nm nL ret → (o, idx, 15, i1, i2, i3) ∈ LT → ((ins = .invokevirtual idx ∧ i1 ≠ 903) ∨ (ins = .invokestatic idx ∧ i1 = 903)) → decode cc pc = .ok (ins, 3) → ext i1 as h = some q → as.length = i2 → (rest.map fun v => v.category).sum ≤ 8 → 13 ≤ R.frames → 13 * 200 ≤ R.locals →
    h.length - n0 + (q.2.length - h.length) ≤ R.cells → pv_sz h - z0 + (pv_sz q.2 - pv_sz h) ≤ R.slots → pv_Rel D ad base cyf h H → H.size = base + h.length → va_S (pv_A base) s.heap H locs → pv_ls ad lsA nL ls →
    va_Run p l e R s m args below meth c H locs (h.length - n0) (pv_sz h - z0) (q.2.length - h.length) (pv_sz q.2 - pv_sz h) (F0 m pc lsA ((as.reverse ++ rest).map (pv_tr ad))) (rest.map (pv_tr ad)) (pv_Qc D ad base cyf X NW Ks q (as.map (pv_tr ad)).toArray) (pv_A base)
theorem pv_sound2 {D : va_G} {ad : Nat → Nat} {base : Nat} {cyf : Nat → ClassId} {Ks : State → Prop} {l : Launch} (hKs : pv_KsOK base Ks) (hCL : pv_CL dft) (hLT : ∀ q ∈ LT, pv_LV tab NW q) (hW0 : pv_W0) (hSTR : pv_STR l D ad base cyf X NW Ks LT) (hEXT : pv_EXT2 l D ad base cyf X NW Ks LT ext) (hTab : ∀ mid M, tab mid = some M → pv_MOK LT M) (hno : ∀ q ∈ LT, q.2.2.1 = 15 → tab q.2.2.2.1 = none) (hAd : ∀ k, k < pv_scr → ad k = base + k) (hT15 : ∀ mid M, tab mid = some M → ∀ x ∈ M.2.2.2.2.1, ok15 x = true) :
    ∀ (n r : Nat) (ret : Option FieldType) (P : pv_P) (pc : Nat) (ls : pv_L) (st : List Value) (h : pv_H) (q : pv_O), pv_run tab ext X dft n r ret P pc ls st h = some q →
    ∀ (p : Program) (e : Env) (R : Room) (s : State) (m : MethodId) (args : Array Value) (below : List Frame) (meth : Method) (c : Code) (cc : ByteArray) (o nL n0 z0 : Nat) (nm : String), pv_Cx D ad base cyf X NW Ks p s m args meth c cc o nm nL ret → (∀ x ∈ P, pv_ok LT o nm cc x) → (∀ x ∈ P, ok15 x = true) → s.heap.size = base + n0 → n0 ≤ h.length → z0 ≤ pv_sz h → q.2.length - n0 ≤ R.cells → pv_sz q.2 - z0 ≤ R.slots → 1 ≤ r → r ≤ R.frames → r * 200 ≤ R.locals →
    pv_Kt D ad base cyf p l e R s m args below meth c nL n0 z0 (MQ below (pv_Qc D ad base cyf X NW Ks q) args s (q.2.length - n0) (pv_sz q.2 - z0) (pv_A base)) pc ls st h := by
  intro n
  induction n with
  | zero => intro r ret P pc ls st h q er; simp [pv_run] at er
  | succ n ih =>
    intro r ret P pc ls st h q er p e R s m args below meth c cc o nL n0 z0 nm C hP hP15 hs0 hn0 hz0 hc1 hc2 hr1 hR1 hR2
    have hgr := pv_grow (tab := tab) (X := X) (dft := dft) hEXT.1
    have hgAll := hgr _ _ _ _ _ _ _ _ _ er
    rw [pv_run] at er
    cases ha : pv_at P pc with
    | none => rw [ha] at er; cases er
    | some i =>
      rw [ha] at er
      dsimp only at er
      have hok := hP _ (pv_at_mem ha)
      have h15 := hP15 _ (pv_at_mem ha)
      cases hn : pv_next X dft ret i pc ls st h with
      | none => rw [hn] at er; cases er
      | some RR =>
        rw [hn] at er
        match RR, hn, er with
        | .inl (pc', ls', st', h'), hn, er =>
          have g1 := pm_next hn
          have g2 := hgr _ _ _ _ _ _ _ _ _ er
          exact sn_next C hCL hLT hW0 hSTR hok hs0 hn0 hz0 (by have := g2.1; omega) (by have := g2.2; omega) (by omega) (by omega) hn (ih _ _ _ _ _ _ _ _ er p e R s m args below meth c cc o nL n0 z0 nm C hP hP15 hs0 (by omega) (by omega) hc1 hc2 hr1 hR1 hR2)
        | .inr (.inl o'), hn, er =>
          cases er
          obtain ⟨hd, hok⟩ := hok
          rcases pm_ret hn with ⟨hi, v, rfl, rfl, hret⟩ | ⟨hi, rfl, rfl, hret⟩
          · obtain ⟨ins, len, i1, i2, i3, i4⟩ := i
            dsimp only at hi
            subst hi
            have hlen : len = 1 := hok
            subst hlen
            intro H locs lsA hR hS hL
            refine pv_sized hR hS hs0 hn0 (fun hz => ?_)
            have hq : ∀ t : State, t.heap = H → s.WarmedH t.vm → pv_Qc D ad base cyf X NW Ks (some (.int v), h) args s (.returned (some (.int v))) t := fun t ht hW => ⟨rfl, ⟨by rw [ht]; exact hR, by rw [ht]; exact hz, pv_K_move hKs hW (fun x hx => by rw [ht]; exact hS.2.1 x (Nat.lt_of_lt_of_le hx C.2.2.2.2.2.2.2.2.1.2.2.2.2.2.1) (fun z => by have : base ≤ x := z; omega)) (by rw [ht, hz]; omega) C.2.2.2.2.2.2.2.2.1⟩, hS.F ht⟩
            have hlk := C.2.2.2.2.2.2.1
            rcases hret with rfl | ⟨rfl, hv⟩
            · exact W.iret C.1 C.2.1 C.2.2.2.2.2.1 hq hS.2.2 hd
            · exact W.zret C.1 C.2.1 C.2.2.2.2.2.1 (by rcases hv with rfl | rfl <;> rfl) hq hS.2.2 hd
          · obtain ⟨ins, len, i1, i2, i3, i4⟩ := i
            dsimp only at hi
            subst hi
            have hlen : len = 1 := hok
            subst hlen
            subst hret
            intro H locs lsA hR hS hL
            refine pv_sized hR hS hs0 hn0 (fun hz => ?_)
            have hlk := C.2.2.2.2.2.2.1
            exact W.vret C.1 C.2.1 C.2.2.2.2.2.1 (fun t ht hW => ⟨rfl, ⟨by rw [ht]; exact hR, by rw [ht]; exact hz, pv_K_move hKs hW (fun x hx => by rw [ht]; exact hS.2.1 x (Nat.lt_of_lt_of_le hx C.2.2.2.2.2.2.2.2.1.2.2.2.2.2.1) (fun z => by have : base ≤ x := z; omega)) (by rw [ht, hz]; omega) C.2.2.2.2.2.2.2.2.1⟩, hS.F ht⟩) hS.2.2 hd
        | .inr (.inr (mid, as, pc', ls', rest)), hn, er =>
          dsimp only at er
          obtain ⟨ins, len, i1, i2, i3, i4⟩ := i
          obtain ⟨hd, hok⟩ := hok
          have hcs := pm_call hn
          dsimp only at hcs
          obtain ⟨idx, ci, hins, hinv, hlen3, hmem, hci, hkk⟩ : ∃ idx ci, (ins = .invokevirtual idx ∨ ins = .invokestatic idx ∨ ins = .invokespecial idx) ∧ pv_inv i1 i2 ci pc ls st h = some (.inr (.inr (mid, as, pc', ls', rest))) ∧ len = 3 ∧ (o, idx, i4, i1, i2, i3) ∈ LT ∧ (ci = i3 ∨ ci = 99 ∧ (i4 = 4 ∨ i4 = 5 ∨ i4 = 15)) ∧ (((ins = .invokevirtual idx ∧ (i4 = 2 ∨ i4 = 3)) ∨ (ins = .invokestatic idx ∧ (i4 = 4 ∨ i4 = 5)) ∨ (ins = .invokespecial idx ∧ (i4 = 6 ∨ i4 = 7))) ∨ (i4 = 15 ∧ (ins = .invokevirtual idx ∨ ins = .invokestatic idx))) := by
            rcases hcs with ⟨ix, rfl, hv⟩ | ⟨ix, rfl, h9, hv⟩ | ⟨ix, rfl, h9, hv⟩
            · obtain ⟨h3, hm, hk⟩ := hok
              refine ⟨ix, i3, Or.inl rfl, hv, h3, hm, Or.inl rfl, ?_⟩
              rcases hk with hk | hk | hk
              · exact Or.inl (Or.inl ⟨rfl, Or.inl hk⟩)
              · exact Or.inl (Or.inl ⟨rfl, Or.inr hk⟩)
              · exact Or.inr ⟨hk, Or.inl rfl⟩
            · obtain ⟨h3, hm, hk⟩ := hok
              refine ⟨ix, 99, Or.inr (Or.inl rfl), hv, h3, hm, Or.inr ⟨rfl, by omega⟩, ?_⟩
              rcases hk with hk | hk | hk | hk
              · exact Or.inl (Or.inr (Or.inl ⟨rfl, Or.inl hk⟩))
              · exact Or.inl (Or.inr (Or.inl ⟨rfl, Or.inr hk⟩))
              · exact absurd hk h9
              · exact Or.inr ⟨hk, Or.inr rfl⟩
            · obtain ⟨h3, hm, hk⟩ := hok
              refine ⟨ix, i3, Or.inr (Or.inr rfl), hv, h3, hm, Or.inl rfl, ?_⟩
              rcases hk with hk | hk | hk
              · exact Or.inl (Or.inr (Or.inr ⟨rfl, Or.inl hk⟩))
              · exact Or.inl (Or.inr (Or.inr ⟨rfl, Or.inr hk⟩))
              · exact absurd hk h9
          subst hlen3
          obtain ⟨rfl, rfl, rfl, hal, rfl, hcat, hrc⟩ := pv_inv_ok hinv
          have hLV := hLT _ hmem
          cases ht : tab mid with
          | none =>
            rw [ht] at er
            dsimp only at er
            split at er
            · cases er
            · rename_i v h' hq
              split at hq
              · rename_i h12
                have g1 := hEXT.1 _ _ _ _ hq
                have g2 := hgr _ _ _ _ _ _ _ _ _ er
                dsimp only at g1
                have hk15 : i4 = 15 ∧ (ins = .invokevirtual idx ∨ ins = .invokestatic idx) := by
                  rcases hkk with hkk | hkk
                  · obtain ⟨M', hM', -⟩ := hLV.2.1 (by rcases hkk with ⟨-, h | h⟩ | ⟨-, h | h⟩ | ⟨-, h | h⟩ <;> omega)
                    rw [ht] at hM'
                    cases hM'
                  · exact hkk
                obtain ⟨rfl, hins'⟩ := hk15
                have hins : (ins = .invokevirtual idx ∧ mid ≠ 903) ∨ (ins = .invokestatic idx ∧ mid = 903) := by
                  rcases hins' with rfl | rfl
                  · exact Or.inl ⟨rfl, fun z => by rw [z] at h15; exact absurd h15 (by simp [ok15])⟩
                  · refine Or.inr ⟨rfl, ?_⟩
                    by_cases z : mid = 903
                    · exact z
                    · exact absurd h15 (by simp [ok15, z])
                intro H locs lsA hR hS hL
                refine pv_sized hR hS hs0 hn0 (fun hz => ?_)
                exact sn_called (q := (v, h')) hn0 hz0 g1 (hEXT.2 p e R s m args below meth c cc o nL n0 z0 nm ret pc idx mid i2 i3 ins H locs lsA ls' as rest h (v, h') C hmem hins hd hq hal hcat (by omega) (by omega) (by (try dsimp only); omega) (by (try dsimp only); omega) hR hz hS hL) hS hL (ih _ _ _ _ _ _ _ _ er p e R s m args below meth c cc o nL n0 z0 nm C hP hP15 hs0 (by (try dsimp only); omega) (by (try dsimp only); omega) hc1 hc2 hr1 hR1 hR2)
              · cases hq
          | some M =>
            rw [ht] at er
            dsimp only at er
            split at er
            · cases er
            · rename_i v h' hq
              split at hq
              · rename_i hrk
                have g1 := hgr _ _ _ _ _ _ _ _ _ hq
                have g2 := hgr _ _ _ _ _ _ _ _ _ er
                dsimp only at g1
                obtain ⟨o1, ho1, hpl, hml, hPM, hrM⟩ := hTab _ _ ht
                have hct : pv_Ct l D ad base cyf X NW Ks M (M.2.2.2.2.2 as) as h (v, h') := by
                  refine pv_ofW (cc := M.2.1) (maxL := M.2.2.1) (ret := M.2.2.2.1) hpl rfl ?_
                  intro p2 e2 s2 m2 args2 below2 meth2 c2 s₁ B hml2 hv2
                  obtain ⟨rfl, hR2', hz2, hK2⟩ := hv2
                  have hts := atoms_spec (ws := Cond.code M.1 M.2.1 M.2.2.1 M.2.2.2.1 :: pv_G) B.pre
                  have hown : s2.vm.findClass M.1.cls = some m2.cls := findClass_of_methodNamed B.named
                  have C2 : pv_Cx D ad base cyf X NW Ks p2 s2 m2 (as.map (pv_tr ad)).toArray meth2 c2 M.2.1 o1 M.1.name M.2.2.1 M.2.2.2.1 := ⟨B.exec, B.bytes, hml2, by rw [ho1]; exact hown, fun w hw => hts w (List.mem_cons_of_mem _ hw), B.returns, B.notSynchronized, (name_of_methodNamed B.named B.method).1, hK2, hAd⟩
                  have hw := ih _ _ _ _ _ _ _ _ hq p2 e2 ((headSpec (Cond.code M.1 M.2.1 M.2.2.1 M.2.2.2.1 :: pv_G) ({ frames := M.2.2.2.2.2 as, cells := h'.length - h.length, slots := pv_sz h' - pv_sz h, locals := M.2.2.2.2.2 as * 200 })).room) s2 m2 (as.map (pv_tr ad)).toArray below2 meth2 c2 M.2.1 o1 M.2.2.1 h.length (pv_sz h) M.1.name C2 hPM (hT15 _ _ ht) hz2 (Nat.le_refl _) (Nat.le_refl _) (Nat.le_refl _) (Nat.le_refl _) (hrM as) (Nat.le_refl _) (Nat.le_refl _)
                  have := hw s2.heap [] _ hR2' va_S.rf (pv_ent_ok hrk.2)
                  rw [Nat.sub_self, Nat.sub_self] at this
                  rw [lg_entry_eq]
                  exact this
                have hk2 : (ins = .invokevirtual idx ∧ (i4 = 2 ∨ i4 = 3)) ∨ (ins = .invokestatic idx ∧ (i4 = 4 ∨ i4 = 5)) ∨ (ins = .invokespecial idx ∧ (i4 = 6 ∨ i4 = 7)) := by
                  rcases hkk with hkk | ⟨h15, -⟩
                  · exact hkk
                  · have := hno _ hmem h15
                    dsimp only at this
                    rw [ht] at this
                    cases this
                intro H locs lsA hR hS hL
                refine pv_sized hR hS hs0 hn0 (fun hz => ?_)
                have hrc' : (ins = .invokevirtual idx ∨ ins = .invokespecial idx) → i3 ≠ 99 → ∃ b as' fs, as = .ref b :: as' ∧ h[b]? = some (.inr (i3, fs)) := by
                  intro hi h99
                  have hci' : ci = i3 := by
                    rcases hci with hci | ⟨-, hci⟩
                    · exact hci
                    · rcases hi with rfl | rfl <;> rcases hk2 with ⟨h1, h2⟩ | ⟨h1, h2⟩ | ⟨h1, h2⟩ <;> first | omega | cases h1
                  exact hci' ▸ hrc (by rw [hci']; exact h99)
                exact sn_called (q := (v, h')) hn0 hz0 g1 (sn_runs C hKs hLV ht hml hct hrk.1 hR1 hR2 (by (try dsimp only); omega) (by (try dsimp only); omega) hR hz hS hL hal hcat hrc' hk2 hd) hS hL (ih _ _ _ _ _ _ _ _ er p e R s m args below meth c cc o nL n0 z0 nm C hP hP15 hs0 (by (try dsimp only); omega) (by (try dsimp only); omega) hc1 hc2 hr1 hR1 hR2)
              · cases hq
end PVS6
