section PVS2
variable {D : va_G} {ad : Nat → Nat} {base : Nat} {cyf : Nat → ClassId} {X : pv_X} {NW : List (String × Nat × MethodName × String)} {Ks : State → Prop} {p : Program} {l : Launch} {e : Env} {R : Room} {s : State} {m : MethodId} {args : Array Value} {below : List Frame} {meth : Method} {c : Code} {cc : ByteArray} {o nL n0 z0 : Nat} {nm : String} {ret : Option FieldType} {Q : State → Prop} {pc : Nat} {ls : pv_L} {t : List Value} {h : pv_H}
/-- the heap's size, off the machine's own book -/
theorem pv_sized {H : Heap} {locs : List Loc} {sl : Nat} {g : JFrame} (hR : pv_Rel D ad base cyf h H) (hS : va_S (pv_A base) s.heap H locs) (hs0 : s.heap.size = base + n0) (hn0 : n0 ≤ h.length)
    (k : H.size = base + h.length → W p l e R s m args below meth c H locs (h.length - n0) sl Q g) : W p l e R s m args below meth c H locs (h.length - n0) sl Q g := by
  intro T hT X0
  refine k ?_ T hT X0
  have h1 : T.heap.size ≤ s.heap.size + (h.length - n0) := X0.same.2.2.1
  rw [hT] at h1
  have h2 := hS.1
  rcases Nat.eq_or_lt_of_le hn0 with q | q
  · omega
  · have h3 : h.length - 1 < h.length := by omega
    have h4 := (hR.1 (h.length - 1) _ (pv_ws_at (List.getElem?_eq_getElem h3))).lt
    dsimp only at h4
    omega
/-- a new cell stands at the next place -/
theorem pv_newAt {H1 : Heap} {q : Nat} {ec : va_E} (hP : va_P D vwCl (pv_ws ad base cyf h ++ [(q, ec)]) H1) (hD : va_D (pv_A base) (pv_ws ad base cyf h ++ [(q, ec)])) (hz : H1.size ≤ base + h.length + 1) : q = base + h.length := by
  have hl : (pv_ws ad base cyf h).length = h.length := by simp [pv_ws]
  have hq : (pv_ws ad base cyf h ++ [(q, ec)])[h.length]? = some (q, ec) := by rw [List.getElem?_append_right (by omega), hl]; simp
  have h1 := (hP _ _ hq).lt
  have h2 : base ≤ q := hD.2 _ _ hq
  dsimp only at h1
  rcases Nat.lt_or_ge (q - base) h.length with hlt | hge
  · have h3 : (pv_ws ad base cyf h ++ [(q, ec)])[q - base]? = some (base + (q - base), pv_enc ad cyf h[q - base]) := by
      rw [List.getElem?_append_left (by omega)]
      exact pv_ws_at (List.getElem?_eq_getElem hlt)
    have := hD.1 _ _ _ _ h3 hq (by dsimp only; omega)
    omega
  · omega
theorem pv_Rel_app {H1 : Heap} {q : Nat} {cn : pv_C} (hl : h.length < pv_scr) (hq : q = base + h.length) (hP : va_P D vwCl (pv_ws ad base cyf h ++ [(q, pv_enc ad cyf cn)]) H1) (hD : va_D (pv_A base) (pv_ws ad base cyf h ++ [(q, pv_enc ad cyf cn)])) : pv_Rel D ad base cyf (h ++ [cn]) H1 := by
  subst hq
  rw [pv_ws_app] at hP hD
  exact ⟨hP, hD, by simp; omega⟩
/-- a step that makes a cell: what comes behind it -/
theorem pv_made (C : pv_Cx D ad base cyf X NW Ks p s m args meth c cc o nm nL ret) {H1 : Heap} {locs : List Loc} {lsA : Array Slot} {q pc' : Nat} {cn : pv_C} (hl : h.length < pv_scr) (hs0 : s.heap.size = base + n0) (hn0 : n0 ≤ h.length) (hz0 : z0 ≤ pv_sz h) (hL : pv_ls ad lsA nL ls)
    (hP : va_P D vwCl (pv_ws ad base cyf h ++ [(q, pv_enc ad cyf cn)]) H1) (hD : va_D (pv_A base) (pv_ws ad base cyf h ++ [(q, pv_enc ad cyf cn)])) (hS : va_S (pv_A base) s.heap H1 locs)
    (k : pv_Kt D ad base cyf p l e R s m args below meth c nL n0 z0 Q pc' ls (.ref h.length :: t) (h ++ [cn])) : W p l e R s m args below meth c H1 locs (h.length - n0 + 1) (pv_sz h - z0 + pv_sz1 cn) Q (F0 m pc' lsA (.ref q :: t.map (pv_tr ad))) := by
  intro T hT X0
  have h1 : T.heap.size ≤ s.heap.size + (h.length - n0 + 1) := X0.same.2.2.1
  rw [hT] at h1
  have hq : q = base + h.length := pv_newAt hP hD (by omega)
  have hR := pv_Rel_app hl hq hP hD
  have h2 := k H1 locs lsA hR hS hL
  have e1 : (h ++ [cn]).length - n0 = h.length - n0 + 1 := by simp; omega
  have e2 : pv_sz (h ++ [cn]) - z0 = pv_sz h - z0 + pv_sz1 cn := by rw [pv_sz_app]; omega
  rw [e1, e2] at h2
  have e3 : ((.ref h.length :: t).map (pv_tr ad) : List Value) = .ref q :: t.map (pv_tr ad) := by
    rw [hq, ← C.2.2.2.2.2.2.2.2.2 h.length hl]; rfl
  rw [e3] at h2
  exact h2 T hT X0
theorem sn_new (C : pv_Cx D ad base cyf X NW Ks p s m args meth c cc o nm nL ret) {dft : Nat → List Value} (hCL : pv_CL dft) {idx i1 : Nat} {h' : pv_H} {CC : String} {TT : u_T} {N : Nat} (hs0 : s.heap.size = base + n0) (hn0 : n0 ≤ h.length) (hz0 : z0 ≤ pv_sz h) (hc1 : h'.length - n0 ≤ R.cells) (hc2 : pv_sz h' - z0 ≤ R.slots) (hcl : vwCl[i1]? = some (CC, TT, N)) (hw1 : Cond.classLink (pv_own o) idx CC ∈ pv_G) (hw2 : Cond.instantiable CC N ∈ pv_G) (hw3 : Cond.initialized CC ∈ pv_G) (hv : pv_no h i1 (dft i1) = some h') (hd : decode cc pc = .ok (.new idx, 3)) (k : pv_Kt D ad base cyf p l e R s m args below meth c nL n0 z0 Q (pc + 3) ls (.ref h.length :: t) h') : pv_Kt D ad base cyf p l e R s m args below meth c nL n0 z0 Q pc ls t h := by
  intro H locs lsA hR hS hL
  unfold pv_no at hv
  split at hv
  · rename_i hl
    cases hv
    obtain ⟨ty0, h1, h2, hin, h4, h5, h6⟩ := hCL i1 CC TT N hcl
    have e1 : (dft i1).map (pv_tr ad) = dft i1 := by
      refine (List.map_congr_left (fun v hv => h6 v hv ad)).trans (List.map_id _)
    have e2 : pv_sz1 (.inr (i1, dft i1)) = N := h5
    have c1 : h.length - n0 + 1 ≤ R.cells := by simp at hc1; omega
    have c2 : pv_sz h - z0 + N ≤ R.slots := by rw [pv_sz_app, e2] at hc2; omega
    refine va_new (ci := i1) (fs := dft i1) (C := CC) (T := TT) (N := N) (Ts := pv_G) C.1 C.2.1 C.2.2.2.2.1 hin ty0 h1 C.2.2.2.1 (C.2.2.2.2.1 _ hw1) (C.2.2.2.2.1 _ hw2) (C.2.2.2.2.1 _ hw3) C.2.2.2.2.2.2.2.2.1.1 hR.1 hR.2.1 hS (fun q hq => by show base ≤ q; omega) hcl h4 c1 c2 hd (fun q H1 hP hD hS1 => ?_)
    have := pv_made (cn := .inr (i1, dft i1)) C hl hs0 hn0 hz0 hL (by simpa [pv_enc, e1] using hP) (by simpa [pv_enc, e1] using hD) hS1 k
    rwa [e2] at this
  · cases hv
theorem sn_newa (C : pv_Cx D ad base cyf X NW Ks p s m args meth c cc o nm nL ret) {i1 : Nat} {n : Int32} {h' : pv_H} (hi : i1 < 4) (hs0 : s.heap.size = base + n0) (hn0 : n0 ≤ h.length) (hz0 : z0 ≤ pv_sz h) (hc1 : h'.length - n0 ≤ R.cells) (hc2 : pv_sz h' - z0 ≤ R.slots) (hw : Cond.arrayClass (newarray.typeOf (pv_aty i1)) ∈ pv_G) (hv : pv_na h i1 n = some h') (hd : decode cc pc = .ok (.newarray (pv_aty i1), 2)) (k : pv_Kt D ad base cyf p l e R s m args below meth c nL n0 z0 Q (pc + 2) ls (.ref h.length :: t) h') : pv_Kt D ad base cyf p l e R s m args below meth c nL n0 z0 Q pc ls (.int n :: t) h := by
  intro H locs lsA hR hS hL
  unfold pv_na at hv
  split at hv
  · rename_i hc
    obtain ⟨hn, hN, hl⟩ := hc
    obtain ⟨cn, hcn, rfl⟩ := Option.map_eq_some_iff.mp hv
    have hsz : pv_sz1 cn = n.toNatClampNeg := by
      match i1, hi, hcn with
      | 0, _, hcn => cases hcn; rfl
      | 1, _, hcn => cases hcn; rfl
      | 2, _, hcn => cases hcn; rfl
      | 3, _, hcn => cases hcn; rfl
    have c1 : h.length - n0 + 1 ≤ R.cells := by simp at hc1; omega
    have c2 : pv_sz h - z0 + n.toNatClampNeg ≤ R.slots := by rw [pv_sz_app, hsz] at hc2; omega
    obtain ⟨ft, a0, hft, hty, ha0, hcy, hbytes⟩ : ∃ ft a0, (pv_tys cyf)[i1]? = some (cyf i1, ft) ∧ newarray.typeOf (pv_aty i1) = ft ∧ (∀ cA : ClassId, vp_cell cA a0 = arrV cA n.toNatClampNeg (fun _ => defaultValue ft)) ∧ cn = .inl (i1, a0) ∧ n.toNatClampNeg * componentBytes ft ≤ 536870912 := by
      match i1, hi, hcn with
      | 0, _, hcn => cases hcn; exact ⟨_, _, rfl, rfl, fun _ => rfl, rfl, by simp [componentBytes]; omega⟩
      | 1, _, hcn => cases hcn; exact ⟨_, _, rfl, rfl, fun _ => rfl, rfl, by simp [componentBytes]; omega⟩
      | 2, _, hcn => cases hcn; exact ⟨_, _, rfl, rfl, fun _ => rfl, rfl, by simp [componentBytes]; omega⟩
      | 3, _, hcn => cases hcn; exact ⟨_, _, rfl, rfl, fun _ => rfl, rfl, by simp [componentBytes]; omega⟩
    have etA : pv_tA ad a0 = a0 := by
      match i1, hi, hcn with
      | 0, _, hcn => cases hcn; cases hcy; rfl
      | 1, _, hcn => cases hcn; cases hcy; rfl
      | 2, _, hcn => cases hcn; cases hcy; rfl
      | 3, _, hcn => cases hcn; cases hcy; rfl
    refine va_newa (atype := pv_aty i1) (ty := ft) (tys := pv_tys cyf) (ws := pv_ws ad base cyf h) C.1 C.2.1 (C.2.2.2.2.1 _ hw) hty C.2.2.2.2.2.2.2.2.1.1 hR.1 hR.2.1 hS (fun q hq => by show base ≤ q; omega) ha0 hn rfl hbytes c1 c2 hd (fun q cA H1 hK1 hP hD hS1 => ?_)
    have hcA : cA = cyf i1 := by
      have g1 := (hK1.2 (pv_tys cyf).length (cA, ft) (by simp)).2
      have g2 := (C.2.2.2.2.2.2.2.2.1.1.2 i1 _ hft).2
      match i1, hi, hft with
      | 0, _, hft => cases hft; exact Option.some.inj (g1.symm.trans g2)
      | 1, _, hft => cases hft; exact Option.some.inj (g1.symm.trans g2)
      | 2, _, hft => cases hft; exact Option.some.inj (g1.symm.trans g2)
      | 3, _, hft => cases hft; exact Option.some.inj (g1.symm.trans g2)
    subst hcA
    have e2 : (pv_enc ad cyf cn : va_E) = .inl (cyf i1, a0) := by rw [hcy]; show (.inl (cyf i1, pv_tA ad a0) : va_E) = _; rw [etA]
    have := pv_made (cn := cn) C hl hs0 hn0 hz0 hL (by rw [e2]; exact hP) (by rw [e2]; exact hD) hS1 k
    rwa [hsz] at this
  · cases hv
theorem sn_newq (C : pv_Cx D ad base cyf X NW Ks p s m args meth c cc o nm nL ret) {idx i1 : Nat} {n : Int32} {h' : pv_H} (hi : i1 = 4 ∨ i1 = 5) (hs0 : s.heap.size = base + n0) (hn0 : n0 ≤ h.length) (hz0 : z0 ≤ pv_sz h) (hc1 : h'.length - n0 ≤ R.cells) (hc2 : pv_sz h' - z0 ≤ R.slots) (hw : Cond.classLink (pv_own o) idx (if i1 = 4 then "WristPort$Mark" else "WristPort$State") ∈ pv_G) (hv : pv_na h i1 n = some h') (hd : decode cc pc = .ok (.anewarray idx, 3)) (k : pv_Kt D ad base cyf p l e R s m args below meth c nL n0 z0 Q (pc + 3) ls (.ref h.length :: t) h') : pv_Kt D ad base cyf p l e R s m args below meth c nL n0 z0 Q pc ls (.int n :: t) h := by
  intro H locs lsA hR hS hL
  unfold pv_na at hv
  split at hv
  · rename_i hc
    obtain ⟨hn, hN, hl⟩ := hc
    obtain ⟨cn, hcn, rfl⟩ := Option.map_eq_some_iff.mp hv
    have hcn' : cn = .inl (i1, n.toNatClampNeg, .inr (.inr (.inr (.inr (fun _ => none))))) := by
      rcases hi with rfl | rfl <;> (cases hcn; rfl)
    have hsz : pv_sz1 cn = n.toNatClampNeg := by rw [hcn']; rfl
    have c1 : h.length - n0 + 1 ≤ R.cells := by simp at hc1; omega
    have c2 : pv_sz h - z0 + n.toNatClampNeg ≤ R.slots := by rw [pv_sz_app, hsz] at hc2; omega
    have hao : va_AO (if i1 = 4 then "WristPort$Mark" else "WristPort$State") s := by
      rcases hi with rfl | rfl
      · exact C.2.2.2.2.2.2.2.2.1.2.2.1.1
      · exact C.2.2.2.2.2.2.2.2.1.2.2.1.2
    refine va_newq (tys := pv_tys cyf) (ws := pv_ws ad base cyf h) C.1 C.2.1 C.2.2.2.1 (C.2.2.2.2.1 _ hw) hao C.2.2.2.2.2.2.2.2.1.1 hR.1 hR.2.1 hS (fun q hq => by show base ≤ q; omega) hn rfl (by omega) c1 c2 hd (fun q cA H1 hK1 hP hD hS1 => ?_)
    have hcA : cA = cyf i1 := by
      have g1 := (hK1.2 (pv_tys cyf).length (cA, .object (if i1 = 4 then "WristPort$Mark" else "WristPort$State")) (by simp)).2
      rcases hi with rfl | rfl
      · have g2 := (C.2.2.2.2.2.2.2.2.1.1.2 4 (cyf 4, .object "WristPort$Mark") rfl).2
        obtain ⟨_, _, -, -, -, g1⟩ := g1
        obtain ⟨_, _, -, -, -, g2⟩ := g2
        exact Option.some.inj (g1.symm.trans g2)
      · have g2 := (C.2.2.2.2.2.2.2.2.1.1.2 5 (cyf 5, .object "WristPort$State") rfl).2
        obtain ⟨_, _, -, -, -, g1⟩ := g1
        obtain ⟨_, _, -, -, -, g2⟩ := g2
        exact Option.some.inj (g1.symm.trans g2)
    subst hcA
    have e2 : (pv_enc ad cyf cn : va_E) = .inl (cyf i1, n.toNatClampNeg, .inr (.inr (.inr (.inr (fun _ => none))))) := by rw [hcn']; rfl
    have := pv_made (cn := cn) C hl hs0 hn0 hz0 hL (by rw [e2]; exact hP) (by rw [e2]; exact hD) hS1 k
    rwa [hsz] at this
  · cases hv
theorem sn_copy (C : pv_Cx D ad base cyf X NW Ks p s m args meth c cc o nm nL ret) {idx a0 a1 : Nat} {sp dp n : Int32} {h' : pv_H} (hf1 : 1 ≤ R.frames) (hf2 : 200 ≤ R.locals) (hw : Cond.methodLink (pv_own o) idx arraycopyName ∈ pv_G) (hw2 : Cond.native arraycopyName ∈ pv_G ∧ Cond.static arraycopyName ∈ pv_G ∧ Cond.initialized "java/lang/System" ∈ pv_G) (hst : (t.map fun v => v.category).sum ≤ 8) (hv : pv_cp h a0 sp a1 dp n = some h') (hd : decode cc pc = .ok (.invokestatic idx, 3)) (k : pv_Kt D ad base cyf p l e R s m args below meth c nL n0 z0 Q (pc + 3) ls t h') : pv_Kt D ad base cyf p l e R s m args below meth c nL n0 z0 Q pc ls (.int n :: .int dp :: .ref a1 :: .int sp :: .ref a0 :: t) h := by
  intro H locs lsA hR hS hL
  obtain ⟨m0, m1, f, g, h0, h1, c1, c2, c3, c4, c5, rfl⟩ := pv_cp_ok hv
  show W p l e R s m args below meth c H locs _ _ Q (F0 m pc lsA (.int n :: .int dp :: .ref (ad a1) :: .int sp :: .ref (ad a0) :: t.map (pv_tr ad)))
  rw [pv_adr C hR h0, pv_adr C hR h1]
  have e1 : pv_sz (h.set a1 (.inl (1, m1, .inl (va_cpy f g sp.toNatClampNeg dp.toNatClampNeg n.toNatClampNeg)))) = pv_sz h := pv_sz_set h1 rfl
  have e2 : (h.set a1 (.inl (1, m1, .inl (va_cpy f g sp.toNatClampNeg dp.toNatClampNeg n.toNatClampNeg)))).length = h.length := by simp
  have e4 : nativeFrameWords "java/lang/System" "arraycopy" 5 ≤ 100 := by decide +kernel
  have e5 : ((t.map (pv_tr ad)).map fun v => v.category).sum ≤ 8 := by
    rw [List.map_map]
    rw [show ((fun v => v.category) ∘ pv_tr ad) = (fun v => Value.category v) from funext (fun v => pv_tr_cat ad v)]
    exact hst
  refine va_copyi (tys := pv_tys cyf) (ws := pv_ws ad base cyf h) (ty := .int) C.1 C.2.1 (C.2.2.1.trans hL.1.symm) C.2.2.2.1 (C.2.2.2.2.1 _ hw) (C.2.2.2.2.1 _ hw2.1) (C.2.2.2.2.1 _ hw2.2.1) (C.2.2.2.2.1 _ hw2.2.2) C.2.2.2.2.2.2.2.2.1.1 hR.1 hR.2.1 hS a0 a1 1 1 (pv_ws_at h0) (pv_ws_at h1) rfl rfl rfl c1 c2 c3 c4 c5 (fun _ _ => rfl) hf1 (by omega) hd (fun H1 locs1 hP hD hS1 => ?_)
  have := k H1 locs1 lsA (pv_Rel_set (q := .inl (1, m1, .inl (va_cpy f g sp.toNatClampNeg dp.toNatClampNeg n.toNatClampNeg))) hR.2.2 hP hD) hS1 hL
  rwa [e1, e2] at this
theorem sn_oinit (C : pv_Cx D ad base cyf X NW Ks p s m args meth c cc o nm nL ret) {idx a : Nat} (hf1 : 1 ≤ R.frames) (hf2 : 200 ≤ R.locals) (hw : Cond.methodLink (pv_own o) idx objectInit ∈ pv_G) (hw2 : Cond.instanceMethod objectInit ∈ pv_G ∧ Cond.code objectInit ⟨#[0xb1]⟩ 1 none ∈ pv_G) (hst : (t.map fun v => v.category).sum ≤ 8) (hd : decode cc pc = .ok (.invokespecial idx, 3)) (k : pv_Kt D ad base cyf p l e R s m args below meth c nL n0 z0 Q (pc + 3) ls t h) : pv_Kt D ad base cyf p l e R s m args below meth c nL n0 z0 Q pc ls (.ref a :: t) h := by
  intro H locs lsA hR hS hL
  have e5 : ((t.map (pv_tr ad)).map fun v => v.category).sum ≤ 8 := by
    rw [List.map_map]
    rw [show ((fun v => v.category) ∘ pv_tr ad) = (fun v => Value.category v) from funext (fun v => pv_tr_cat ad v)]
    exact hst
  refine W.objInit C.1 C.2.1 C.2.2.2.1 (C.2.2.2.2.1 _ hw) (C.2.2.2.2.1 _ hw2.1) (C.2.2.2.2.1 _ hw2.2) rfl (hL.1.trans C.2.2.1.symm) rfl hd hf1 ?_ (k H locs lsA hR hS hL)
  have := lv_room (m := m) (pc := pc) (ls := lsA) (rest := (.ref (ad a) :: t.map (pv_tr ad))) e5
  exact Nat.le_trans (Nat.add_le_add_right this 12) (by omega)
end PVS2
