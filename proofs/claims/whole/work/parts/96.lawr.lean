/-! The law's own rests: it tells by its answer whether the class's threw. -/
theorem pv_ofWH {l : Launch} {y : MethodName} {ws ws' : List Cond} {rm : Room} {Pc : Array Value → State → Prop} {Qc : Array Value → State → Outcome → State → Prop} {mc ms : Nat} {free : Addr → Prop} {cc : ByteArray} {maxL : Nat} {ret : Option FieldType} {hh : List (Nat × Nat × Nat × Nat)} (hy : plainFor y = true) (hw : ws = Cond.codeWith y cc maxL ret hh :: ws')
    (body : ∀ p e s m args below meth c s₁, BodyLoose p l y (headSpec ws rm) cc maxL ret e s m args below meth c s₁ → c.maxLocals = maxL → Pc args s → W p l e (headSpec ws rm).room s m args below meth c s.heap [] 0 0 (MQ below Qc args s mc ms free) (entryFrame m args maxL)) : Met l y ws rm Pc Qc mc ms free := by
  refine MetFree.of_bodySF (code := cc) (maxLocals := maxL) (ret := ret) hy ?_ ?_
  · intro args s m h hn
    obtain ⟨m9, meth, c, hn9, h1, h2, h3, h4, -, h5, h6, -⟩ := Cond.codeWith_spec (atoms_spec (ws := ws) h _ (by rw [hw]; exact List.mem_cons_self))
    cases hn.symm.trans hn9
    exact ⟨meth, c, h1, h2, h3, h4, h5, h6⟩
  · intro p e s m args below meth c s₁ B hml hP _
    have hh0 : s₁.heap = s.heap := by rw [B.state]; rfl
    obtain ⟨t, a1, o, b1, b2, b3⟩ := body p e s m args below meth c s₁ B hml hP s₁ hh0 (Stand.of_body B)
    exact ⟨t, o, a1, b1, b2, ⟨b3.1, b3.2⟩⟩
def yL_rests : MethodName := ⟨"WristPortLaw", "rests", "(LWristPort;IIII[J)I"⟩
def hhL : List (Nat × Nat × Nat × Nat) := [(0, 14, 17, 13)]
theorem wL_rests : Cond.codeWith yL_rests method_3_code 7 (some .int) hhL ∈ pv_G := pv_G_in (by decide +kernel) (by decide +kernel)
theorem wX_rests : j_W 12 7 4 mW_rests := ⟨pv_G_in (by decide +kernel) (by decide +kernel), pv_G_in (by decide +kernel) (by decide +kernel), by decide +kernel, pv_G_in (by decide +kernel) (by decide +kernel), by decide⟩
theorem vX_rests : vJ mW_rests := ⟨pv_G_in (by decide +kernel) (by decide +kernel), pv_G_in (by decide +kernel) (by decide +kernel)⟩
section LWR
variable {D : va_G} {ad : Nat → Nat} {base : Nat} {cyf : Nat → ClassId} {X : pv_X} {NW : List (String × Nat × MethodName × String)} {fv : Value} {p : Program} {l : Launch} {e : Env} {R : Room} {s : State} {m : MethodId} {args : Array Value} {below : List Frame} {meth : Method} {c : Code} {cc : ByteArray} {o nL n0 z0 : Nat} {nm : String} {ret : Option FieldType} {Q : State → Prop} {pc : Nat} {ls : pv_L} {t : List Value} {h : pv_H}
/-- the end of a method, any heap -/
theorem j_retG (C : pv_Cx D ad base cyf X NW (KSt ad base fv) p s m args meth c cc o nm nL ret) {v : Int32} {ty : FieldType} (hs0 : s.heap.size = base + n0) (hn0 : n0 ≤ h.length) (hr : ret = some ty) (hn : narrow ty (.int v) = .int v) (hd : decode cc pc = .ok (.ireturn, 1)) : pv_Kt D ad base cyf p l e R s m args below meth c nL n0 z0 (MQ below (pv_Qc D ad base cyf X NW (KSt ad base fv) (some (.int v), h)) args s (h.length - n0) (pv_sz h - z0) (pv_A base)) pc ls [.int v] h := by
  intro H locs lsA hR hS hL
  refine pv_sized hR hS hs0 hn0 (fun hz => ?_)
  have hq : ∀ t : State, t.heap = H → s.WarmedH t.vm → pv_Qc D ad base cyf X NW (KSt ad base fv) (some (.int v), h) args s (.returned (some (.int v))) t := fun t ht hW => ⟨rfl, ⟨by rw [ht]; exact hR, by rw [ht]; exact hz, pv_K_move (KSt_ok ad base fv) hW (fun x hx => by rw [ht]; exact hS.2.1 x (Nat.lt_of_lt_of_le hx C.2.2.2.2.2.2.2.2.1.2.2.2.2.2.1) (fun z => by have : base ≤ x := z; omega)) (by rw [ht, hz]; omega) C.2.2.2.2.2.2.2.2.1⟩, hS.F ht⟩
  have hlk := C.2.2.2.2.2.2.1
  subst hr
  exact W.zret C.1 C.2.1 C.2.2.2.2.2.1 hn hq hS.2.2 hd
theorem j_runH (C : pv_Cx D ad base cyf X NW (KSt ad base fv) p s m args meth c cc o nm nL ret) {H : Heap} {locs : List Loc} {lsA : Array Slot} {b ci N : Nat} {TT : u_T} {fs : List Value} {as rest : List Value} {q : pv_O} {M : pv_M} {r idx n : Nat} (hb : h[b]? = some (.inr (ci, fs))) (hcl : vwCl[ci]? = some (M.1.cls, TT, N)) (hw : j_W o idx n M) (hin : Cond.instanceMethod M.1 ∈ pv_G) (hse : Cond.selects M.1.cls M.1 M.1 ∈ pv_G) (hct : pv_Ct l D ad base cyf X NW (KSt ad base fv) M r (.ref b :: as) h q) (hR1 : r + 1 ≤ R.frames) (hR2 : (r + 1) * 200 ≤ R.locals)
    (hc1 : h.length - n0 + (q.2.length - h.length) ≤ R.cells) (hc2 : pv_sz h - z0 + (pv_sz q.2 - pv_sz h) ≤ R.slots) (hR : pv_Rel D ad base cyf h H) (hz : H.size = base + h.length) (hS : va_S (pv_A base) s.heap H locs) (hL : pv_ls ad lsA nL ls) (hlen : as.length = n) (hcat : (rest.map fun v => v.category).sum ≤ 8) (hd : decode cc pc = .ok (.invokevirtual idx, 3)) :
    va_Run p l e R s m args below meth c H locs (h.length - n0) (pv_sz h - z0) (q.2.length - h.length) (pv_sz q.2 - pv_sz h) (F0 m pc lsA (((.ref b :: as).reverse ++ rest).map (pv_tr ad))) (rest.map (pv_tr ad)) (pv_Qc D ad base cyf X NW (KSt ad base fv) q ((Value.ref b :: as).map (pv_tr ad)).toArray) (pv_A base) := by
  obtain ⟨hcode, hini, hdd, hl1, hM⟩ := hw
  have hG := pv_G_good hcode
  have hts := C.2.2.2.2.1
  have hFix : CallFix p m c cc nL s args pv_G (pv_own o) := ⟨C.1, C.2.1, C.2.2.1, C.2.2.2.1, hts⟩
  have hroom : r + 1 ≤ R.frames ∧ 8 + (M.2.2.1 + 11) + r * 200 ≤ R.locals := ⟨by omega, by omega⟩
  have hcat' := lv_room (m := m) (pc := pc) (ls := lsA) (rest := (((.ref b :: as).reverse ++ rest).map (pv_tr ad))) (st := rest.map (pv_tr ad)) (by rw [pv_cats]; exact hcat)
  have hbl := pv_blind (D := D) (ad := ad) (cyf := cyf) (X := X) (NW := NW) (h := h) (KSt_ok ad base fv) ((Value.ref b :: as).map (pv_tr ad))
  have hPV : PreV s H M.1.cls (ad b) (va_Pc ((Value.ref b :: as).map (pv_tr ad)) (pv_RU D ad base cyf X NW (KSt ad base fv) h)) (as.map (pv_tr ad)) := by
    refine ⟨hbl, ?_, j_Pc C hR hz hS⟩
    rw [pv_adr C hR hb]
    exact va_recv (q := (M.1.cls, TT, N)) C.2.2.2.2.2.2.2.2.1.1 hR.1 hcl (pv_ws_at hb)
  have hstk' : ((Value.ref b :: as).reverse ++ rest).map (pv_tr ad) = (as.map (pv_tr ad)).reverse ++ .ref (ad b) :: rest.map (pv_tr ad) := by simp [pv_tr]
  exact va_runV (As := as.map (pv_tr ad)) (C := M.1.cls) (n := n) hFix hct ⟨callB_of n hts hG rfl rfl rfl (hts _ hini) (hts _ hl1) hdd hroom, hts _ hin, hts _ hse⟩ hPV rfl (by simp; omega) hL.1 hstk' hcat' hd ⟨hc1, hc2⟩
/-- a contract of the law's rests, out of a walk -/
theorem jCtH {as : List Value} {q : pv_O} (hAd : ∀ k, k < pv_scr → ad k = base + k) (hsl : (pv_sl as).length ≤ 7)
    (body : ∀ (p : Program) (e : Env) (R : Room) (s : State) (m : MethodId) (args : Array Value) (below : List Frame) (meth : Method) (c : Code), pv_Cx D ad base cyf X NW (KSt ad base fv) p s m args meth c method_3_code 12 "rests" 7 (some .int) → c.exceptionTable.toList = [⟨0, 14, 17, 13⟩] → s.heap.size = base + h.length → 9 ≤ R.frames → 1800 ≤ R.locals → R.cells = q.2.length - h.length → R.slots = pv_sz q.2 - pv_sz h → pv_Kt D ad base cyf p l e R s m args below meth c 7 h.length (pv_sz h) (MQ below (pv_Qc D ad base cyf X NW (KSt ad base fv) q) args s (q.2.length - h.length) (pv_sz q.2 - pv_sz h) (pv_A base)) 0 (pv_ent 7 as) [] h) :
    Met l yL_rests (Cond.codeWith yL_rests method_3_code 7 (some .int) hhL :: pv_G) ({ frames := 9, cells := q.2.length - h.length, slots := pv_sz q.2 - pv_sz h, locals := 1800 }) (va_Pc (as.map (pv_tr ad)) (pv_RU D ad base cyf X NW (KSt ad base fv) h)) (pv_Qc D ad base cyf X NW (KSt ad base fv) q) (q.2.length - h.length) (pv_sz q.2 - pv_sz h) (pv_A base) := by
  refine pv_ofWH (cc := method_3_code) (maxL := 7) (ret := some .int) (hh := hhL) (by decide +kernel) rfl ?_
  intro p2 e2 s2 m2 args2 below2 meth2 c2 s₁ B hml2 hv2
  obtain ⟨rfl, hR2', hz2, hK2⟩ := hv2
  have hts := atoms_spec (ws := Cond.codeWith yL_rests method_3_code 7 (some .int) hhL :: pv_G) B.pre
  have hown : s2.vm.findClass yL_rests.cls = some m2.cls := findClass_of_methodNamed B.named
  have htab : c2.exceptionTable.toList = [⟨0, 14, 17, 13⟩] := vx_table (x := yL_rests) B (hts _ List.mem_cons_self)
  have C2 : pv_Cx D ad base cyf X NW (KSt ad base fv) p2 s2 m2 (as.map (pv_tr ad)).toArray meth2 c2 method_3_code 12 "rests" 7 (some .int) := ⟨B.exec, B.bytes, hml2, hown, fun w hw => hts w (List.mem_cons_of_mem _ hw), B.returns, B.notSynchronized, (name_of_methodNamed B.named B.method).1, hK2, hAd⟩
  have hw := body p2 e2 ((headSpec (Cond.codeWith yL_rests method_3_code 7 (some .int) hhL :: pv_G) ({ frames := 9, cells := q.2.length - h.length, slots := pv_sz q.2 - pv_sz h, locals := 1800 })).room) s2 m2 (as.map (pv_tr ad)).toArray below2 meth2 c2 C2 htab hz2 (Nat.le_refl _) (Nat.le_refl _) rfl rfl
  have := hw s2.heap [] _ hR2' va_S.rf (pv_ent_ok hsl)
  rw [Nat.sub_self, Nat.sub_self] at this
  rw [lg_entry_eq]
  exact this
theorem sJ_len {h' : pv_H} {a : Nat} {i : Int32} {x : Int64} (e : pv_sJ h a i x = some h') : h'.length = h.length ∧ pv_sz h' = pv_sz h := by
  obtain ⟨n, f, h1, h2, h3⟩ := pv_sJ_ok e
  rw [h3]
  exact ⟨by simp, pv_sz_set h1 rfl⟩
theorem c_lr1 (hAd : ∀ k, k < pv_scr → ad k = base + k) {x qa : Nat} {fs : List Value} {a b g w v : Int32} {h' : pv_H} (hx : h[x]? = some (.inr (10, fs))) (hv : pv_rv a b g w = some v) (hq : pv_sJ h qa 0 v.toInt64 = some h') : Met l yL_rests (Cond.codeWith yL_rests method_3_code 7 (some .int) hhL :: pv_G) ({ frames := 9, cells := h'.length - h.length, slots := pv_sz h' - pv_sz h, locals := 1800 }) (va_Pc ([Value.ref x, .int a, .int b, .int g, .int w, .ref qa].map (pv_tr ad)) (pv_RU D ad base cyf X NW (KSt ad base fv) h)) (pv_Qc D ad base cyf X NW (KSt ad base fv) (some (.int 0), h')) (h'.length - h.length) (pv_sz h' - pv_sz h) (pv_A base) := by
  obtain ⟨l1, l2⟩ := sJ_len hq
  refine jCtH (q := (some (.int 0), h')) hAd (Nat.le_of_ble_eq_true rfl) ?_
  intro p e R s m args below meth c C htab hs0 hR1 hR2 hRc hRs
  refine sn_aload C (i := 5) (x := qa) rfl (by decide +kernel) ?_
  refine sn_iconst C (n := 0) (by decide +kernel) ?_
  refine sn_aload_n C (i := 0) (x := x) rfl (by decide +kernel) ?_
  refine sn_iload_n C (i := 1) (x := a) rfl (by decide +kernel) ?_
  refine sn_iload_n C (i := 2) (x := b) rfl (by decide +kernel) ?_
  refine sn_iload_n C (i := 3) (x := g) rfl (by decide +kernel) ?_
  refine sn_iload C (i := 4) (x := w) rfl (by decide +kernel) ?_
  have k : pv_Kt D ad base cyf p l e R s m args below meth c 7 h.length (pv_sz h) (MQ below (pv_Qc D ad base cyf X NW (KSt ad base fv) (some (.int 0), h')) args s (h'.length - h.length) (pv_sz h' - pv_sz h) (pv_A base)) (9 + 3) (pv_ent 7 [Value.ref x, .int a, .int b, .int g, .int w, .ref qa]) ((some (Value.int v)).toList ++ [.int 0, .ref qa]) h := by
    refine sn_i2l C (x := v) (by decide +kernel) ?_
    refine sn_last C hq (by decide +kernel) ?_
    refine sn_goto C (off := 7) (tgt := 21) (by decide) (by decide +kernel) ?_
    refine sn_iconst C (n := 0) (by decide +kernel) ?_
    exact j_retG C hs0 (by omega) rfl rfl (by decide +kernel)
  intro H locs lsA hR hS hL
  refine pv_sized hR hS hs0 (Nat.le_refl _) (fun hz => ?_)
  exact sn_called (q := (some (.int v), h)) (Nat.le_refl _) (Nat.le_refl _) ⟨Nat.le_refl _, Nat.le_refl _⟩ (j_runH C (as := [.int a, .int b, .int g, .int w]) (rest := [.int 0, .ref qa]) hx rfl wX_rests vX_rests.1 vX_rests.2 (c_rests hAd hv) (by omega) (by omega) (by dsimp only; omega) (by dsimp only; omega) hR hz hS hL rfl (Nat.le_of_ble_eq_true rfl) (by decide +kernel)) hS hL k
end LWR
