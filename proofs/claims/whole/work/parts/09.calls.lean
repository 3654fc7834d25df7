section PVS3
variable {D : va_G} {ad : Nat → Nat} {base : Nat} {cyf : Nat → ClassId} {X : pv_X} {NW : List (String × Nat × MethodName × String)} {Ks : State → Prop} {p : Program} {l : Launch} {e : Env} {R : Room} {s : State} {m : MethodId} {args : Array Value} {below : List Frame} {meth : Method} {c : Code} {cc : ByteArray} {o nL n0 z0 : Nat} {nm : String} {ret : Option FieldType} {Q : State → Prop} {pc : Nat} {ls : pv_L} {t : List Value} {h : pv_H} {tab : Nat → Option pv_M} {ext : Nat → List Value → pv_H → Option pv_O} {dft : Nat → List Value} {LT : List (Nat × Nat × Nat × Nat × Nat × Nat)}
def pv_RU (D : va_G) (ad : Nat → Nat) (base : Nat) (cyf : Nat → ClassId) (X : pv_X) (NW : List (String × Nat × MethodName × String)) (Ks : State → Prop) (h : pv_H) (U : State) : Prop := pv_Rel D ad base cyf h U.heap ∧ U.heap.size = base + h.length ∧ pv_K D ad base cyf X NW Ks U
def pv_Qc (D : va_G) (ad : Nat → Nat) (base : Nat) (cyf : Nat → ClassId) (X : pv_X) (NW : List (String × Nat × MethodName × String)) (Ks : State → Prop) (q : pv_O) : Array Value → State → Outcome → State → Prop := fun _ st oc t => oc = .returned (q.1.map (pv_tr ad)) ∧ pv_RU D ad base cyf X NW Ks q.2 t ∧ va_F (pv_A base) st t
/-- a method's contract at one call: these arguments, this heap, that answer -/
def pv_Ct (l : Launch) (D : va_G) (ad : Nat → Nat) (base : Nat) (cyf : Nat → ClassId) (X : pv_X) (NW : List (String × Nat × MethodName × String)) (Ks : State → Prop) (M : pv_M) (r : Nat) (as : List Value) (h : pv_H) (q : pv_O) : Prop :=
  Met l M.1 (Cond.code M.1 M.2.1 M.2.2.1 M.2.2.2.1 :: pv_G) ({ frames := r, cells := q.2.length - h.length, slots := pv_sz q.2 - pv_sz h, locals := r * 200 }) (va_Pc (as.map (pv_tr ad)) (pv_RU D ad base cyf X NW Ks h)) (pv_Qc D ad base cyf X NW Ks q) (q.2.length - h.length) (pv_sz q.2 - pv_sz h) (pv_A base)
def pv_KsOK (base : Nat) (Ks : State → Prop) : Prop := ∀ (s U : State), s.WarmedH U.vm → (∀ q : Nat, q < base → U.heap[q]? = s.heap[q]?) → base ≤ s.heap.size → base ≤ U.heap.size → Ks s → Ks U
theorem pv_K_move {U : State} (hKs : pv_KsOK base Ks) (hW : s.WarmedH U.vm) (hh : ∀ q : Nat, q < base → U.heap[q]? = s.heap[q]?) (hz : base ≤ U.heap.size) (hK : pv_K D ad base cyf X NW Ks s) : pv_K D ad base cyf X NW Ks U := by
  obtain ⟨k1, k2, ⟨k3, k4⟩, k5, k6, k7, k8⟩ := hK
  exact ⟨va_K.moved hW.alike k1, fun q hq => va_Nw.warmM hW (k2 q hq), ⟨va_AO.moved hW.alike k3, va_AO.moved hW.alike k4⟩, (va_X.moved hW.alike k5).kept (hh _ k6), k6, hz, hKs s U hW hh k7 hz k8⟩
theorem pv_blind (hKs : pv_KsOK base Ks) (avs : List Value) : FrameBlind (va_Pc avs (pv_RU D ad base cyf X NW Ks h)) := by
  intro a U g mk hq
  exact ⟨hq.1, hq.2.1, hq.2.2.1, pv_K_move (U := U.calling g mk a) hKs (State.WarmedH.refl U) (fun _ _ => rfl) hq.2.2.2.2.2.2.2.2.1 hq.2.2.2⟩
theorem pv_cats (ad : Nat → Nat) (t : List Value) : ((t.map (pv_tr ad)).map fun v => v.category).sum = (t.map fun v => v.category).sum := by
  rw [List.map_map, show ((fun v => v.category) ∘ pv_tr ad) = (fun v => Value.category v) from funext (fun v => pv_tr_cat ad v)]
theorem sn_called {H : Heap} {locs : List Loc} {lsA : Array Slot} {stA rest : List Value} {aa : Array Value} {q : pv_O} (hn0 : n0 ≤ h.length) (hz0 : z0 ≤ pv_sz h) (hgr : h.length ≤ q.2.length ∧ pv_sz h ≤ pv_sz q.2)
    (hr : va_Run p l e R s m args below meth c H locs (h.length - n0) (pv_sz h - z0) (q.2.length - h.length) (pv_sz q.2 - pv_sz h) (F0 m pc lsA stA) (rest.map (pv_tr ad)) (pv_Qc D ad base cyf X NW Ks q aa) (pv_A base)) (hS : va_S (pv_A base) s.heap H locs) (hL : pv_ls ad lsA nL ls)
    (k : pv_Kt D ad base cyf p l e R s m args below meth c nL n0 z0 Q (pc + 3) ls (q.1.toList ++ rest) q.2) : W p l e R s m args below meth c H locs (h.length - n0) (pv_sz h - z0) Q (F0 m pc lsA stA) := by
  intro T hT X0
  obtain ⟨v, st₀, t1, T', L, h0, X', hL', e1, e2, ⟨hv, hRU, hz, hk⟩, stp⟩ := hr T hT X0
  have hv' : v = q.1.map (pv_tr ad) := by cases hv; rfl
  subst hv'
  rw [h0] at hz hk
  have hS1 : va_S (pv_A base) s.heap T'.heap (locs ++ L) := ⟨Nat.le_trans hS.1 (by rw [e1]; exact hz), fun x h1 h2 => by rw [e1, hk x (Nat.lt_of_lt_of_le h1 hS.1) h2]; exact hS.2.1 x h1 h2, fun x hx => by
    rcases List.mem_append.mp hx with hx | hx
    · exact hS.2.2 x hx
    · exact hL' x hx⟩
  have ec : h.length - n0 + (q.2.length - h.length) = q.2.length - n0 := by omega
  have es : pv_sz h - z0 + (pv_sz q.2 - pv_sz h) = pv_sz q.2 - z0 := by omega
  rw [ec, es] at X'
  obtain ⟨t2, a1, b1⟩ := k T'.heap (locs ++ L) lsA (by rw [e1]; exact hRU.1) hS1 hL T' rfl X'
  refine ⟨t2, stp t2 ?_, b1⟩
  have e3 : (q.1.map (pv_tr ad)).toList ++ rest.map (pv_tr ad) = (q.1.toList ++ rest).map (pv_tr ad) := by cases q.1 <;> simp
  rw [e3]
  exact a1
theorem sn_runs (C : pv_Cx D ad base cyf X NW Ks p s m args meth c cc o nm nL ret) {H : Heap} {locs : List Loc} {lsA : Array Slot} {as rest : List Value} {q : pv_O} {M : pv_M} {r r' idx i1 i2 i3 i4 : Nat} {ins : Instr} (hKs : pv_KsOK base Ks) (hLV : pv_LV tab NW (o, idx, i4, i1, i2, i3)) (ht : tab i1 = some M) (hM : M.2.2.1 ≤ 100) (hct : pv_Ct l D ad base cyf X NW Ks M r' as h q) (hrr : r' < r) (hR1 : r ≤ R.frames) (hR2 : r * 200 ≤ R.locals)
    (hc1 : h.length - n0 + (q.2.length - h.length) ≤ R.cells) (hc2 : pv_sz h - z0 + (pv_sz q.2 - pv_sz h) ≤ R.slots) (hR : pv_Rel D ad base cyf h H) (hz : H.size = base + h.length) (hS : va_S (pv_A base) s.heap H locs) (hL : pv_ls ad lsA nL ls) (hlen : as.length = i2) (hcat : (rest.map fun v => v.category).sum ≤ 8) (hrc : (ins = .invokevirtual idx ∨ ins = .invokespecial idx) → i3 ≠ 99 → ∃ b as' fs, as = .ref b :: as' ∧ h[b]? = some (.inr (i3, fs)))
    (hk : (ins = .invokevirtual idx ∧ (i4 = 2 ∨ i4 = 3)) ∨ (ins = .invokestatic idx ∧ (i4 = 4 ∨ i4 = 5)) ∨ (ins = .invokespecial idx ∧ (i4 = 6 ∨ i4 = 7))) (hd : decode cc pc = .ok (ins, 3)) :
    va_Run p l e R s m args below meth c H locs (h.length - n0) (pv_sz h - z0) (q.2.length - h.length) (pv_sz q.2 - pv_sz h) (F0 m pc lsA ((as.reverse ++ rest).map (pv_tr ad))) (rest.map (pv_tr ad)) (pv_Qc D ad base cyf X NW Ks q (as.map (pv_tr ad)).toArray) (pv_A base) := by
  obtain ⟨M', hM', hcode, hini, hdd, hl1, hl2, hvv, hss, hii⟩ := hLV.2.1 (by rcases hk with ⟨-, h | h⟩ | ⟨-, h | h⟩ | ⟨-, h | h⟩ <;> omega)
  cases ht.symm.trans hM'
  have hG := pv_G_good hcode
  have hts := C.2.2.2.2.1
  have hFix : CallFix p m c cc nL s args pv_G (pv_own o) := ⟨C.1, C.2.1, C.2.2.1, C.2.2.2.1, hts⟩
  have hroom : r' + 1 ≤ R.frames ∧ 8 + (M.2.2.1 + 11) + r' * 200 ≤ R.locals := ⟨by omega, by omega⟩
  have hstk : ((as.reverse ++ rest).map (pv_tr ad)) = (as.map (pv_tr ad)).reverse ++ rest.map (pv_tr ad) := by simp
  have hcat' := lv_room (m := m) (pc := pc) (ls := lsA) (rest := ((as.reverse ++ rest).map (pv_tr ad))) (st := rest.map (pv_tr ad)) (by rw [pv_cats]; exact hcat)
  have hPc : ∀ U : State, U.heap = H → s.WarmedH U.vm → va_Pc (as.map (pv_tr ad)) (pv_RU D ad base cyf X NW Ks h) (as.map (pv_tr ad)).toArray U := by
    intro U hU hW
    refine ⟨rfl, by rw [hU]; exact hR, by rw [hU]; exact hz, pv_K_move (U := U) hKs hW (fun x hx => ?_) (by rw [hU, hz]; omega) C.2.2.2.2.2.2.2.2.1⟩
    rw [hU]
    exact hS.2.1 x (Nat.lt_of_lt_of_le hx C.2.2.2.2.2.2.2.2.1.2.2.2.2.2.1) (fun z => by have : base ≤ x := z; omega)
  have hbl := pv_blind (D := D) (ad := ad) (cyf := cyf) (X := X) (NW := NW) (h := h) hKs (as.map (pv_tr ad))
  rcases hk with ⟨rfl, hk⟩ | ⟨rfl, hk⟩ | ⟨rfl, hk⟩
  · obtain ⟨hi2, hin, hse, h99, TT, N, hcl⟩ := hvv hk
    obtain ⟨b, as', fs, rfl, hb⟩ := hrc (Or.inl rfl) h99
    have hPV : PreV s H M.1.cls (ad b) (va_Pc ((.ref b :: as').map (pv_tr ad)) (pv_RU D ad base cyf X NW Ks h)) (as'.map (pv_tr ad)) := by
      refine ⟨hbl, ?_, hPc⟩
      rw [pv_adr C hR hb]
      exact va_recv (q := (M.1.cls, TT, N)) C.2.2.2.2.2.2.2.2.1.1 hR.1 hcl (pv_ws_at hb)
    have hstk' : ((Value.ref b :: as').reverse ++ rest).map (pv_tr ad) = (as'.map (pv_tr ad)).reverse ++ .ref (ad b) :: rest.map (pv_tr ad) := by simp [pv_tr]
    rcases hk with rfl | rfl
    · exact va_runV (As := as'.map (pv_tr ad)) (C := M.1.cls) (n := i2 - 1) hFix hct ⟨callB_of (i2 - 1) hts hG rfl rfl rfl (hts _ hini) (hts _ (hl1 (by omega))) (by simpa using hdd) hroom, hts _ hin, hts _ hse⟩ hPV rfl (by simp at hlen ⊢; omega) hL.1 hstk' hcat' hd ⟨hc1, hc2⟩
    · obtain ⟨host, hnw⟩ := hl2 (by omega)
      exact va_runVN (As := as'.map (pv_tr ad)) (C := M.1.cls) (n := i2 - 1) hFix hct ⟨va_cnB (i2 - 1) hts hG rfl rfl rfl (C.2.2.2.2.2.2.2.2.1.2.1 _ hnw) (hts _ hini) (by simpa using hdd) hroom, hts _ hin, hts _ hse⟩ hPV rfl (by simp at hlen ⊢; omega) hL.1 hstk' hcat' hd ⟨hc1, hc2⟩
  · have hst := hss hk
    rcases hk with rfl | rfl
    · exact va_runS (As := as.map (pv_tr ad)) (n := i2) hFix hct ⟨callB_of i2 hts hG rfl rfl rfl (hts _ hini) (hts _ (hl1 (by omega))) (by simpa using hdd) hroom, hts _ hst⟩ ⟨hbl, hPc⟩ rfl (by simp; omega) hL.1 hstk hcat' hd ⟨hc1, hc2⟩
    · obtain ⟨host, hnw⟩ := hl2 (by omega)
      exact va_runSN (As := as.map (pv_tr ad)) (n := i2) hFix hct ⟨va_cnB i2 hts hG rfl rfl rfl (C.2.2.2.2.2.2.2.2.1.2.1 _ hnw) (hts _ hini) (by simpa using hdd) hroom, hts _ hst, trivial⟩ ⟨hbl, hPc⟩ rfl (by simp; omega) hL.1 hstk hcat' hd ⟨hc1, hc2⟩
  · obtain ⟨hi2, hnm, hin, hret, h99⟩ := hii hk
    obtain ⟨b, as', fs, rfl, hb⟩ := hrc (Or.inr rfl) h99
    have hstk' : ((Value.ref b :: as').reverse ++ rest).map (pv_tr ad) = (as'.map (pv_tr ad)).reverse ++ .ref (ad b) :: rest.map (pv_tr ad) := by simp [pv_tr]
    obtain ⟨my, mb, ml, mr, mP, mk⟩ := M
    dsimp only at hret
    subst hret
    rcases hk with rfl | rfl
    · exact va_runI (As := as'.map (pv_tr ad)) (n := i2 - 1) hFix hct ⟨callB_of (i2 - 1) hts hG rfl rfl rfl (hts _ hini) (hts _ (hl1 (by omega))) (by simpa using hdd) hroom, hnm, hts _ hin⟩ ⟨hbl, hPc⟩ rfl (by simp at hlen ⊢; omega) hL.1 hstk' hcat' hd ⟨hc1, hc2⟩
    · obtain ⟨host, hnw⟩ := hl2 (by omega)
      exact va_runIN (As := as'.map (pv_tr ad)) (n := i2 - 1) hFix hct ⟨va_cnB (i2 - 1) hts hG rfl rfl rfl (C.2.2.2.2.2.2.2.2.1.2.1 _ hnw) (hts _ hini) (by simpa using hdd) hroom, hnm, hts _ hin⟩ ⟨hbl, hPc⟩ rfl (by simp at hlen ⊢; omega) hL.1 hstk' hcat' hd ⟨hc1, hc2⟩
end PVS3
