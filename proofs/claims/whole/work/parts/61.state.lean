/-! ask, fright, soothe, quarter, undo. -/
section HIS
variable {m : pm_M} {X : pv_X} {c P a : Nat} {π : aP} {s b : aS} {C T : aC} {D : aD} {hs : List aS} {mk : aK} {tp : aT} {nm : aN}
def tk (s : aS) (hs : List aS) : List aS := (s :: hs).take 16
theorem tk_len (s : aS) (hs : List aS) : (tk s hs).length = min 16 (hs.length + 1) := by unfold tk; rw [List.length_take]; rfl
theorem tk_0 (s : aS) (hs : List aS) : (tk s hs).getD 0 aS0 = s := rfl
theorem tk_s (s : aS) (hs : List aS) {j : Nat} (h : j + 1 < 16) : (tk s hs).getD (j + 1) aS0 = hs.getD j aS0 := by
  unfold tk
  rw [List.getD_eq_getElem?_getD, List.getElem?_take, if_pos h, List.getElem?_cons_succ, ← List.getD_eq_getElem?_getD]
theorem T_44 : pm_T[44]? = some (.inl (5, 16)) := rfl
theorem Hi_f0 : pv_fR (hp m) 43 3 0 = some 44 := hp_fR Hi_T rfl
theorem Hi_f1 : pv_fI (hp m) 43 3 1 = some (gI m 43 1) := hp_fI Hi_T rfl
theorem Hi_f2 : pv_fI (hp m) 43 3 2 = some (gI m 43 2) := hp_fI Hi_T rfl
theorem Hi_p1 {v : Int32} : pv_fp (hp m) 43 3 1 (.int v) = some (hp (sI m 43 1 v)) := hp_pI Hi_T rfl
theorem Hi_p2 {v : Int32} : pv_fp (hp m) 43 3 2 (.int v) = some (hp (sI m 43 2 v)) := hp_pI Hi_T rfl
theorem Hi_rc : pv_rc (hp m) 43 3 = true := hp_rc Hi_T
theorem Hi_ld {x : Nat} (hx : x < 16) : pv_aR (hp m) 44 (nI x) = some (45 + 4 * x) := by
  rw [hp_aR (Or.inr rfl) T_44, if_pos (pv_in_nI hx (by decide)), nI_clamp (by omega)]
  unfold pm_rr
  rw [if_pos rfl, if_pos hx]
theorem mn_nI {x y : Nat} (hx : x < 2 ^ 31) (hy : y < 2 ^ 31) : mn (nI x) (nI y) = nI (min x y) := by
  unfold mn
  simp only [nI_ltI hy hx]
  by_cases h : y < x
  · rw [if_pos h, Nat.min_eq_right (by omega)]
  · rw [if_neg h, Nat.min_eq_left (by omega)]
theorem w_keep (hv : vw m 35 = s) (h : cHis m hs) (h16 : hs.length ≤ 16) : ∃ m', pM X m_Hi_keep [.ref 43, .ref 35] (hp m) = some (none, hp m') ∧ Same KHis m m' ∧ cHis m' (tk s hs) := by
  obtain ⟨x, h1, h2, h3, h4⟩ := h
  obtain ⟨m1, e1, v1, q1⟩ := s_copy (X := X) (m := m) (a := 45 + 4 * x) (b := 35) (isSt_h x h1) isSt_35 (by omega)
  have q1' : Same KHis m m1 := q1.mono (fun k hk => by
    simp only [cSt, List.mem_cons, List.not_mem_nil, or_false] at hk
    exact KHis_in (by omega) (by omega))
  have n43 : 43 ∉ cSt (45 + 4 * x) := by simp [cSt]; omega
  have i1 : gI m1 43 1 = nI x := by rw [q1.I n43]; exact h2
  have i2 : gI m1 43 2 = nI hs.length := by rw [q1.I n43]; exact h3
  refine ⟨sI (sI m1 43 1 (nI ((x + 1) % 16))) 43 2 (nI (min 16 (hs.length + 1))), ?_, (q1'.tr (Same.sI (by decide))).tr (Same.sI (by decide)), (x + 1) % 16, Nat.mod_lt _ (by decide), ?_, ?_, fun j hj => ?_⟩
  · rw [e_Hi_keep, u_Hi_keep_0]
    simp only [tIs, tVs, bs, if_true, true_or, or_true, i10, if_false, not_false_eq_true, not_true_eq_false, Hi_f0, Hi_f1, h2, Hi_ld h1, St_rc (isSt_h x h1), e1, i1]
    rw [nI_1, show ((16 : Int32)) = nI 16 from rfl, pk_rem (by omega) (by decide) (by decide), Hi_p1]
    simp only [tIs, tVs, bs, if_true, true_or, or_true, i10, if_false, not_false_eq_true, not_true_eq_false, Hi_f2]
    rw [gI_sI_ne (Or.inr (by decide)), i2, nI_1]
    simp only [c_min, tIs, tVs, bs, if_true, true_or, or_true, i10, if_false, not_false_eq_true, not_true_eq_false, mn_nI (show (16 : Nat) < 2 ^ 31 by decide) (show hs.length + 1 < 2 ^ 31 by omega), Hi_p2]
  · rw [gI_sI_ne (Or.inr (by decide)), gI_sI_eq]
  · rw [gI_sI_eq, tk_len]
  · rw [tk_len] at hj
    have vv : ∀ y, vw (sI (sI m1 43 1 (nI ((x + 1) % 16))) 43 2 (nI (min 16 (hs.length + 1)))) (45 + 4 * y) = vw m1 (45 + 4 * y) := fun y => vw_same ((Same.sI (L := [43]) (by decide)).tr (Same.sI (by decide))) (fun c hc => by simp [cSt] at hc; simp; omega)
    rw [vv]
    cases j with
    | zero =>
      rw [show ((x + 1) % 16 + 15 - 0) % 16 = x by omega, v1, hv, tk_0]
    | succ j =>
      rw [tk_s s hs (by omega), ← h4 j (by omega), show ((x + 1) % 16 + 15 - (j + 1)) % 16 = (x + 15 - j) % 16 by omega]
      refine vw_same q1 (fun c hc => ?_)
      simp [cSt] at hc ⊢
      omega
theorem m_keeps (hv : vm m 0 = s) (h : dHis m hs) (h16 : hs.length ≤ 16) : ∃ m', pM X m_Md_keeps [.ref 175] (hp m) = some (none, hp m') ∧ Same [175, 189] m m' ∧ (∀ j, j ≠ 22 → gI m' 175 j = gI m 175 j) ∧ (∀ i, i < 255 ∨ 1071 ≤ i → gA m' 189 i = gA m 189 i) ∧ dHis m' (tk s hs) := by
  obtain ⟨h1, h2⟩ := h
  have last : ∀ (m1 : pm_M) (u : Nat) (o : Option Value), u < 16 → gI m1 175 22 = nI u → ∃ m', f_Md_keeps_53 X 175 o (hp m1) = some (none, hp m') ∧ Same [175, 189] m1 m' ∧ (∀ j, j ≠ 22 → gI m' 175 j = gI m1 175 j) ∧ gI m' 175 22 = nI (u + 1) ∧ ∀ i, gA m' 189 i = if 51 * (5 + u) ≤ i ∧ i < 51 * (5 + u) + 19 then gA m1 189 (0 + (i - 51 * (5 + u))) else gA m1 189 i := by
    intro m1 u o hu hg
    obtain ⟨m2, e2, q2, g2⟩ := m_copies (X := X) (m := m1) (f := 0) (g := 51 * (5 + u)) (n := 19) (vf := 0) (vg := 51 * (5 + nI u)) (vn := 19) rfl (by rw [show (5 : Int32) = nI 5 from rfl, show (51 : Int32) = nI 51 from rfl, nI_add, pk_mul]) rfl (by omega) (by omega) (by omega)
    refine ⟨sI m2 175 22 (nI (u + 1)), ?_, (q2.mono (by decide)).tr (Same.sI (by decide)), fun j hj => ?_, gI_sI_eq, fun i => ?_⟩
    · rw [u_Md_keeps_53]
      simp only [tIs, tVs, bs, if_true, true_or, or_true, i10, if_false, not_false_eq_true, not_true_eq_false, Md_rc, Md_f1, Md_f4, Md_f5, Md_f6, Md_f9, Md_f10, Md_f11, Md_f12, Md_f14, Md_f15, Md_f18, Md_f19, Md_f20, Md_f21, Md_f23, Md_f24, Md_f25, Md_f26, Md_f28, Md_f22, hg, e2]
      rw [q2.I (by decide), hg, nI_1, Md_p22]
      simp only [tIs, tVs, bs, if_true, true_or, or_true, i10, if_false, not_false_eq_true, not_true_eq_false, Md_rc, Md_f1, Md_f4, Md_f5, Md_f6, Md_f9, Md_f10, Md_f11, Md_f12, Md_f14, Md_f15, Md_f18, Md_f19, Md_f20, Md_f21, Md_f23, Md_f24, Md_f25, Md_f26, Md_f28]
    · rw [gI_sI_ne (Or.inr hj), q2.I (by decide)]
    · rw [gA_sI]; exact g2 i
  rcases Nat.lt_or_ge hs.length 16 with hl | hl
  · obtain ⟨m', e1, s1, g1, g2, g3⟩ := last m hs.length none hl h1
    refine ⟨m', ?_, s1, g1, fun i hi => by rw [g3, if_neg (by omega)], by rw [g2, tk_len, Nat.min_eq_right (by omega)], fun j hj => ?_⟩
    · rw [e_Md_keeps, u_Md_keeps_0]
      simp only [tIs, tVs, bs, if_true, true_or, or_true, i10, if_false, not_false_eq_true, not_true_eq_false, Md_rc, Md_f1, Md_f4, Md_f5, Md_f6, Md_f9, Md_f10, Md_f11, Md_f12, Md_f14, Md_f15, Md_f18, Md_f19, Md_f20, Md_f21, Md_f23, Md_f24, Md_f25, Md_f26, Md_f28, Md_f22, h1]
      rw [if_pos (fun z => by have := (nI_eq (a := hs.length) (b := 16) (by omega) (by decide)).mp z; omega)]
      exact e1
    · rw [tk_len, Nat.min_eq_right (by omega)] at hj ⊢
      cases j with
      | zero =>
        rw [tk_0, ← hv, show hs.length + 1 - 1 - 0 = hs.length by omega]
        exact vm_copied (f := 0) (n := 19) (by decide) g3
      | succ j =>
        rw [tk_s s hs (by omega), ← h2 j (by omega), show hs.length + 1 - 1 - (j + 1) = hs.length - 1 - j by omega]
        exact vm_eq (fun i a1 a2 => by rw [g3, if_neg (by omega)])
  · have h16' : hs.length = 16 := by omega
    obtain ⟨m1, e1, r1, r2, r3, r4⟩ := lpi (n := 16) (F := fun (_ : Unit) k m => f_Md_keeps_11 X 175 (nI k) (hp m)) (R := fun k _ m' => Same [189] m m' ∧ (∀ i, i < 255 ∨ 1071 ≤ i → gA m' 189 i = gA m 189 i) ∧ (∀ p, p < 16 → vm m' (51 * (5 + p)) = if p + 1 < k then vm m (51 * (5 + (p + 1))) else vm m (51 * (5 + p))) ∧ 1 ≤ k) (g := fun _ u => u) (fun _ k m1 hk hr => by
      obtain ⟨r1, r2, r3, r4⟩ := hr
      obtain ⟨m2, e2, q2, g2⟩ := m_copies (X := X) (m := m1) (f := 51 * (5 + k)) (g := 51 * (5 + k - 1)) (n := 19) (vf := 51 * (5 + nI k)) (vg := 51 * (5 + nI k - 1)) (vn := 19) (by rw [show (5 : Int32) = nI 5 from rfl, show (51 : Int32) = nI 51 from rfl, nI_add, pk_mul]) (by rw [show (5 : Int32) = nI 5 from rfl, show (51 : Int32) = nI 51 from rfl, nI_add, show (1 : Int32) = nI 1 from rfl, pk_sub (by omega), pk_mul]) rfl (by omega) (by omega) (by omega)
      refine ⟨m2, ?_, r1.tr q2, fun i hi => by rw [g2, if_neg (by omega)]; exact r2 i hi, fun p hp' => ?_, by omega⟩
      · rw [u_Md_keeps_11, if_neg (show ¬ (16 : Int32) ≤ nI k from nI_ge (b := 16) hk (by decide))]
        simp only [tIs, tVs, bs, if_true, true_or, or_true, i10, if_false, not_false_eq_true, not_true_eq_false, Md_rc, Md_f1, Md_f4, Md_f5, Md_f6, Md_f9, Md_f10, Md_f11, Md_f12, Md_f14, Md_f15, Md_f18, Md_f19, Md_f20, Md_f21, Md_f23, Md_f24, Md_f25, Md_f26, Md_f28, e2, nI_1]
      · by_cases hpk : p + 1 = k
        · rw [if_pos (by omega)]
          have e0 : vm m2 (51 * (5 + k - 1)) = vm m1 (51 * (5 + k)) := vm_copied (by decide) g2
          rw [show 51 * (5 + p) = 51 * (5 + k - 1) by omega, e0, r3 k hk, if_neg (by omega), hpk]
        · have e0 : vm m2 (51 * (5 + p)) = vm m1 (51 * (5 + p)) := vm_eq (fun i a1 a2 => by rw [g2, if_neg (by omega)])
          rw [e0, r3 p hp']
          by_cases hlt : p + 1 < k
          · rw [if_pos hlt, if_pos (by omega)]
          · rw [if_neg hlt, if_neg (by omega)]) 15 1 () m (by omega) ⟨Same.rf, fun _ _ => rfl, fun p _ => by rw [if_neg (by omega)], by omega⟩
    have k1 : gI m1 175 22 = nI 16 := by rw [r1.I (by decide), h1, h16']
    have sg : Same [175, 189] m (sI m1 175 22 (nI 15)) := (r1.mono (by decide)).tr (Same.sI (by decide))
    have gg : ∀ j, j ≠ 22 → gI (sI m1 175 22 (nI 15)) 175 j = gI m 175 j := fun j hj => by rw [gI_sI_ne (Or.inr hj), r1.I (by decide)]
    have gv : gA (sI m1 175 22 (nI 15)) 189 = gA m1 189 := by rw [gA_sI]
    have gu : gI (sI m1 175 22 (nI 15)) 175 22 = nI 15 := gI_sI_eq
    have pu : pv_fp (hp m1) 175 11 22 (.int (nI 15)) = some (hp (sI m1 175 22 (nI 15))) := Md_p22
    generalize sI m1 175 22 (nI 15) = m2 at sg gg gv gu pu
    obtain ⟨m', e3, s3, g3, g4, g5⟩ := last m2 15 (some (.int (nI 16))) (by decide) gu
    refine ⟨m', ?_, sg.tr s3, fun j hj => by rw [g3 j hj, gg j hj], fun i hi => ?_, by rw [g4, tk_len, h16']; rfl, fun j hj => ?_⟩
    · rw [e_Md_keeps, u_Md_keeps_0]
      simp only [tIs, tVs, bs, if_true, true_or, or_true, i10, if_false, not_false_eq_true, not_true_eq_false, Md_rc, Md_f1, Md_f4, Md_f5, Md_f6, Md_f9, Md_f10, Md_f11, Md_f12, Md_f14, Md_f15, Md_f18, Md_f19, Md_f20, Md_f21, Md_f23, Md_f24, Md_f25, Md_f26, Md_f28, Md_f22, h1]
      rw [if_neg (fun z => z (by rw [h16']; rfl))]
      refine Eq.trans (b := f_Md_keeps_11 X 175 (nI 1) (hp m)) rfl ?_
      rw [e1, u_Md_keeps_11, if_pos (by decide)]
      simp only [tIs, tVs, bs, if_true, true_or, or_true, i10, if_false, not_false_eq_true, not_true_eq_false, Md_rc, Md_f1, Md_f4, Md_f5, Md_f6, Md_f9, Md_f10, Md_f11, Md_f12, Md_f14, Md_f15, Md_f18, Md_f19, Md_f20, Md_f21, Md_f23, Md_f24, Md_f25, Md_f26, Md_f28, Md_f22, k1]
      rw [show (nI 16 - 1 : Int32) = nI 15 from rfl, pu]
      simp only [tIs, tVs, bs, if_true, true_or, or_true, i10, if_false, not_false_eq_true, not_true_eq_false, Md_rc, Md_f1, Md_f4, Md_f5, Md_f6, Md_f9, Md_f10, Md_f11, Md_f12, Md_f14, Md_f15, Md_f18, Md_f19, Md_f20, Md_f21, Md_f23, Md_f24, Md_f25, Md_f26, Md_f28]
      exact e3
    · rw [g5, if_neg (by omega), gv]; exact r2 i hi
    · rw [tk_len, h16'] at hj ⊢
      have hj' : j < 16 := hj
      cases j with
      | zero =>
        rw [tk_0, ← hv]
        have e0 : vm m' (51 * (5 + 15)) = vm m2 0 := vm_copied (f := 0) (n := 19) (by decide) g5
        refine Eq.trans (b := vm m' (51 * (5 + 15))) rfl ?_
        rw [e0]
        exact vm_eq (fun i a1 a2 => by rw [gv]; exact r2 i (by omega))
      | succ j =>
        rw [tk_s s hs (by omega), ← h2 j (by omega), h16', show min 16 (16 + 1) - 1 - (j + 1) = 14 - j by omega, show 16 - 1 - j = 14 - j + 1 by omega]
        have e0 : vm m' (51 * (5 + (14 - j))) = vm m1 (51 * (5 + (14 - j))) := vm_eq (fun i a1 a2 => by rw [g5, if_neg (by omega), gv])
        rw [e0, r3 (14 - j) (by omega), if_pos (by omega)]
/-- the class's side behind a change of how it is now, and of what can be undone -/
theorem CLS.st {s' : aS} {hs' : List aS} {m' : pm_M} {L : List Nat} (h : CLS m P a π s b C T D hs mk tp nm) (hS : Same L m m') (hL : ∀ c ∈ L, c ∈ KHis ++ [8, 20, 35, 36, 37, 38]) (hv : vw m' 35 = s') (hh : cHis m' hs') : CLS m' P a π s' b C T D hs' mk tp nm := by
  obtain ⟨h1, h2, h3, h4, h5, h6, h7, h8⟩ := h
  have hS' := hS.mono hL
  exact ⟨h1.same hS' (by decide), hv, h3.same hS' (by decide) (by decide) (by decide) (by decide), h4.same hS' (by decide) (by decide) (by decide), h5.same hS' (by decide), hh, h7.same hS' (by decide), h8.same hS' (by decide) (by decide)⟩
/-- the reference's side so -/
theorem MDS.st {s' : aS} {hs' : List aS} {m' : pm_M} (h : MDS m π s b C T D hs mk tp nm) (ok : OKS c π s b C T D hs mk tp nm) (hS : Same [175, 187, 188, 189, 191] m m') (h0 : ∀ j, j ≠ 0 → j ≠ 22 → gI m' 175 j = gI m 175 j) (he : ∀ i, (19 ≤ i ∧ i < 255) → gA m' 189 i = gA m 189 i) (hv : vm m' 0 = s') (hh : dHis m' hs') : MDS m' π s' b C T D hs' mk tp nm := by
  obtain ⟨h1, h2, h3, h4, h5, h6, h7, h8⟩ := h
  obtain ⟨o1, o2, o3, o4, o5, o6, o7, o8, -⟩ := ok
  exact ⟨h1.same hS (h0 _ (by decide) (by decide)) (by decide), hv, h3.same o4.1 o5.1 (fun i _ _ => he i (by omega)), h4.same (hS.A (by decide)), hh, h6.same o8 (hS.A (by decide)) (fun i _ _ => he i (by omega)), h7.same (h0 _ (by decide) (by decide)) (hS.A (by decide)), h8.same (hS.Lr (by decide))⟩
theorem OKS.st {s' : aS} {hs' : List aS} (ok : OKS c π s b C T D hs mk tp nm) (hc : c < 600) (hs1 : okS π.1 (c + 1) s') (hl : hs'.length ≤ 16) (hh : ∀ x ∈ hs', okS π.1 (c + 1) x) : OKS (c + 1) π s' b C T D hs' mk tp nm := by
  obtain ⟨o1, o2, o3, o4, o5, o6, o7, o8, o9⟩ := ok.up hc
  exact ⟨o1, hs1, o3, o4, o5, o6, ⟨hl, hh⟩, o8, o9⟩
theorem tk_ok (ok : OKS c π s b C T D hs mk tp nm) : (tk s hs).length ≤ 16 ∧ ∀ x ∈ tk s hs, okS π.1 (c + 1) x := by
  refine ⟨by rw [tk_len]; omega, fun x hx => ?_⟩
  have := List.mem_of_mem_take hx
  rcases List.mem_cons.mp this with rfl | h
  · exact ok.2.1.up
  · exact (ok.2.2.2.2.2.2.1.2 x h).up
theorem SL1 : ∀ c ∈ KHis, c ∈ KHis ++ [8, 20, 35, 36, 37, 38] := by decide
theorem SL2 : ∀ c ∈ cSt 35, c ∈ KHis ++ [8, 20, 35, 36, 37, 38] := by decide
/-- the class keeps how it is, then changes it -/
theorem w_kept {s' : aS} {m1 m2 : pm_M} {L : List Nat} (hq1 : Same KHis m m1) (hh : cHis m1 (tk s hs)) (hq2 : Same L m1 m2) (hL : ∀ c ∈ L, c ∈ [8, 20, 35, 36, 37, 38]) (hv : vw m2 35 = s') (h : CLS m P a π s b C T D hs mk tp nm) : CLS m2 P a π s' b C T D (tk s hs) mk tp nm ∧ Same (KHis ++ [8, 20, 35, 36, 37, 38]) m m2 := by
  have q2' : Same [8, 20, 35, 36, 37, 38] m1 m2 := hq2.mono hL
  have q : Same (KHis ++ [8, 20, 35, 36, 37, 38]) m m2 := (hq1.mono SL1).tr (q2'.mono (by decide))
  exact ⟨h.st q (fun _ h => h) hv (hh.same q2' (by decide)), q⟩
/-- the reference so -/
theorem m_kept {s' : aS} {m0 m1 m2 : pm_M} (h : MDS m π s b C T D hs mk tp nm) (ok : OKS c π s b C T D hs mk tp nm) (q0 : m0 = sI m 175 0 0) (q1 : Same [175, 189] m0 m1) (j1 : ∀ j, j ≠ 22 → gI m1 175 j = gI m0 175 j) (a1 : ∀ i, i < 255 ∨ 1071 ≤ i → gA m1 189 i = gA m0 189 i) (d1 : dHis m1 (tk s hs)) (q2 : SameM 0 m1 m2) (v2 : vm m2 0 = s') : MDS m2 π s' b C T D (tk s hs) mk tp nm ∧ Same [175, 187, 188, 189, 191] m m2 := by
  have z0 : Same [175, 187, 188, 189, 191] m m0 := by rw [q0]; exact Same.sI (by decide)
  have zz : Same [175, 187, 188, 189, 191] m m2 := (z0.tr (q1.mono (by decide))).tr (q2.1.mono (by decide))
  refine ⟨h.st ok zz (fun j h0 h22 => ?_) (fun i hi => ?_) v2 (d1.same (tk_ok ok).1 (q2.1.I (by decide)) (fun i h1 h2 => q2.2 i (by omega))), zz⟩
  · rw [q2.1.I (by decide), j1 j h22, q0, gI_sI_ne (Or.inr h0)]
  · rw [q2.2 i (by omega), a1 i (by omega), q0, gA_sI]
theorem k_inv {s' : aS} {hs' : List aS} {m' : pm_M} {k : Nat} (hC : CLS m' P a π s' b C T D hs' mk tp nm) (hM : MDS m' π s' b C T D hs' mk tp nm) (ok : OKS (c + 1) π s' b C T D hs' mk tp nm) (hk : k ≤ c) (hg : gG m' = List.replicate k pv_exc) : INV m' (c + 1) := ⟨⟨P, a, π, s', b, C, T, D, hs', mk, tp, nm, hC, hM, ok⟩, k, by omega, hg⟩
theorem Same175 : ∀ c ∈ [175, 187, 188, 189, 191], 175 ≤ c := by decide
theorem Same35 : ∀ c ∈ KHis ++ [8, 20, 35, 36, 37, 38], c < 175 := by decide
theorem k_ask (h : INV m c) (hc : c < 600) (p o : Int32) : AgI X m_Wp_ask m_Md_ask [.int p, .int o] m c := by
  obtain ⟨⟨P, a, π, s, b, C, T, D, hs, mk, tp, nm, h1, h2, h3⟩, g, hg, hgg⟩ := id h
  have hC := h1.hc
  have hM := h2.hm h3
  have hn := hC.n6
  have bad : ((p < 0 ∨ nI π.1 ≤ p) ∨ (o < 0 ∨ nI π.1 ≤ o) ∨ p = o) → AgI X m_Wp_ask m_Md_ask [.int p, .int o] m c := by
    intro hb
    refine Ag.inv h hc (Ag.mk (-1) ⟨m, ?_, Q.rf⟩ (fun m1 hq => ?_))
    · rw [e_Wp_ask, u_Wp_ask_0]
      simp only [tIs, tVs, bs, if_true, true_or, or_true, i10, if_false, not_false_eq_true, not_true_eq_false, Wp_rc, Wp_f5, Wp_f6, Wp_f7, Wp_f8, Wp_f9, Wp_f10, Wp_f11, Wp_f12, Wp_f13, Wp_f14, w_two0 hC hb]
    · obtain ⟨m2, e2, q2⟩ := m_t0 (m := m1)
      have hR := (hM.q (hq.tr q2)).1
      refine ⟨m2, ?_, q2⟩
      rw [e_Md_ask, u_Md_ask_0]
      simp only [tIs, tVs, bs, if_true, true_or, or_true, i10, if_false, not_false_eq_true, not_true_eq_false, Md_rc, Md_f1, Md_f4, Md_f5, Md_f6, Md_f9, Md_f10, Md_f11, Md_f12, Md_f14, Md_f15, Md_f18, Md_f19, Md_f20, Md_f21, Md_f23, Md_f24, Md_f25, Md_f26, Md_f28, e2, u_Md_ask_26]
      rcases prs p hn with ⟨k, hk, rfl⟩ | hb1
      · simp only [m_isP1 hR hk, tIs, tVs, bs, if_true, true_or, or_true, i10, if_false, not_false_eq_true, not_true_eq_false, Md_rc, Md_f1, Md_f4, Md_f5, Md_f6, Md_f9, Md_f10, Md_f11, Md_f12, Md_f14, Md_f15, Md_f18, Md_f19, Md_f20, Md_f21, Md_f23, Md_f24, Md_f25, Md_f26, Md_f28]
        rcases prs o hn with ⟨k', hk', rfl⟩ | hb2
        · simp only [m_isP1 hR hk', tIs, tVs, bs, if_true, true_or, or_true, i10, if_false, not_false_eq_true, not_true_eq_false, Md_rc, Md_f1, Md_f4, Md_f5, Md_f6, Md_f9, Md_f10, Md_f11, Md_f12, Md_f14, Md_f15, Md_f18, Md_f19, Md_f20, Md_f21, Md_f23, Md_f24, Md_f25, Md_f26, Md_f28]
          rcases hb with (hb | hb) | (hb | hb) | hb
          · exact absurd hb (nI_pos (by omega))
          · exact absurd hb (nI_ge hk (by omega))
          · exact absurd hb (nI_pos (by omega))
          · exact absurd hb (nI_ge hk' (by omega))
          · rw [if_neg (fun z => z hb)]
        · simp only [m_isP0 hR hb2, tIs, tVs, bs, if_true, true_or, or_true, i10, if_false, not_false_eq_true, not_true_eq_false, Md_rc, Md_f1, Md_f4, Md_f5, Md_f6, Md_f9, Md_f10, Md_f11, Md_f12, Md_f14, Md_f15, Md_f18, Md_f19, Md_f20, Md_f21, Md_f23, Md_f24, Md_f25, Md_f26, Md_f28]
      · simp only [m_isP0 hR hb1, tIs, tVs, bs, if_true, true_or, or_true, i10, if_false, not_false_eq_true, not_true_eq_false, Md_rc, Md_f1, Md_f4, Md_f5, Md_f6, Md_f9, Md_f10, Md_f11, Md_f12, Md_f14, Md_f15, Md_f18, Md_f19, Md_f20, Md_f21, Md_f23, Md_f24, Md_f25, Md_f26, Md_f28]
  rcases prs p hn with ⟨k, hk, rfl⟩ | hb1
  · rcases prs o hn with ⟨k', hk', rfl⟩ | hb2
    · by_cases hne : k = k'
      · exact bad (Or.inr (Or.inr (by rw [hne])))
      · obtain ⟨m1, e1, q1, d1⟩ := w_keep (X := X) h1.2.1 h1.2.2.2.2.2.1 h3.2.2.2.2.2.2.1.1
        have v1 : vw m1 35 = s := by rw [vw_same q1 (by decide)]; exact h1.2.1
        obtain ⟨m2, e2, v2, q2⟩ := s_takeTime (X := X) (m := m1) (k := k) (o := k') isSt_35 (by omega) (by omega)
        rw [v1] at v2
        obtain ⟨c1, c2⟩ := w_kept q1 d1 q2 (by decide) v2 h1
        have b2 := h2.same h3 c2 Same35
        obtain ⟨m4, e4, q4, j4, a4, d4⟩ := m_keeps (X := X) (m := sI m2 175 0 0) (s := s) (by rw [← b2.2.1]; unfold vm; rw [gA_sI]) (hs := hs) ⟨by rw [gI_sI_ne (Or.inr (by decide))]; exact b2.2.2.2.2.1.1, fun j hj => by rw [← b2.2.2.2.2.1.2 j hj]; unfold vm; rw [gA_sI]⟩ h3.2.2.2.2.2.2.1.1
        have v4 : vm m4 0 = s := by rw [← b2.2.1]; exact vm_eq (fun i _ _ => by rw [a4 i (by omega), gA_sI])
        obtain ⟨m5, e5, q5, v5⟩ := n_ask (X := X) (B := 0) (k := k) (o := k') v4 rfl (by decide) (by omega) (by omega)
        obtain ⟨b5, s5⟩ := m_kept b2 h3 rfl q4 j4 a4 d4 q5 v5
        have R2 : RM (sI m2 175 0 0) π := b2.1.1.same (L := [175]) (Same.sI (by decide)) (by decide) (by decide) (by decide)
        refine ⟨(aAsk s k k').1 k, m2, m5, ?_, ?_, k_inv (c1.same s5 Same175) b5 (h3.st hc (okS_ask h3.2.1 hk').up (tk_ok h3).1 (tk_ok h3).2) hg (by rw [s5.1, c2.1]; exact hgg)⟩
        · rw [e_Wp_ask, u_Wp_ask_0]
          simp only [tIs, tVs, bs, if_true, true_or, or_true, i10, if_false, not_false_eq_true, not_true_eq_false, Wp_rc, Wp_f5, Wp_f6, Wp_f7, Wp_f8, Wp_f9, Wp_f10, Wp_f11, Wp_f12, Wp_f13, Wp_f14, w_two1 hC hk hk' hne, Hi_rc, e1, St_rc isSt_35, e2, St_f0 isSt_35, vw_a1 (X := X) isSt_35 (show k < 6 by omega) v2]
        · rw [e_Md_ask, u_Md_ask_0, Md_p0]
          simp only [tIs, tVs, bs, if_true, true_or, or_true, i10, if_false, not_false_eq_true, not_true_eq_false, Md_rc, Md_f1, Md_f4, Md_f5, Md_f6, Md_f9, Md_f10, Md_f11, Md_f12, Md_f14, Md_f15, Md_f18, Md_f19, Md_f20, Md_f21, Md_f23, Md_f24, Md_f25, Md_f26, Md_f28, m_isP1 R2 hk, m_isP1 R2 hk']
          rw [if_pos (fun z => hne ((nI_eq (by omega) (by omega)).mp z)), e4]
          simp only [tIs, tVs, bs, if_true, true_or, or_true, i10, if_false, not_false_eq_true, not_true_eq_false, Md_rc, Md_f1, Md_f4, Md_f5, Md_f6, Md_f9, Md_f10, Md_f11, Md_f12, Md_f14, Md_f15, Md_f18, Md_f19, Md_f20, Md_f21, Md_f23, Md_f24, Md_f25, Md_f26, Md_f28, e5]
          rw [show (7 + nI k : Int32) = nI (0 + 7 + k) from by rw [show (7 : Int32) = nI 7 from rfl, nI_add], vm_a7 v5 (by omega) (by decide) rfl]
          simp only [tIs, tVs, bs, if_true, true_or, or_true, i10, if_false, not_false_eq_true, not_true_eq_false, Md_rc, Md_f1, Md_f4, Md_f5, Md_f6, Md_f9, Md_f10, Md_f11, Md_f12, Md_f14, Md_f15, Md_f18, Md_f19, Md_f20, Md_f21, Md_f23, Md_f24, Md_f25, Md_f26, Md_f28]
    · exact bad (Or.inr (Or.inl hb2))
  · exact bad (Or.inl hb1)
theorem w_moved {k : Nat} {v : Int32} (h1 : CLS m P a π s b C T D hs mk tp nm) (h3 : OKS c π s b C T D hs mk tp nm) (hk : k < π.1) : ∃ m2, pM X m_Wp_moved [.ref 0, .int (nI k), .int v] (hp m) = some (some (.int ((aMov s k v).2.1 k)), hp m2) ∧ CLS m2 P a π (aMov s k v) b C T D (tk s hs) mk tp nm ∧ Same (KHis ++ [8, 20, 35, 36, 37, 38]) m m2 := by
  have hC := h1.hc
  have hn := hC.n6
  obtain ⟨m1, e1, q1, d1⟩ := w_keep (X := X) h1.2.1 h1.2.2.2.2.2.1 h3.2.2.2.2.2.2.1.1
  have v1 : vw m1 35 = s := by rw [vw_same q1 (by decide)]; exact h1.2.1
  obtain ⟨m2, e2, v2, q2⟩ := s_moveBeats (X := X) (m := m1) (k := k) (v := v) isSt_35 (by omega)
  rw [v1] at v2
  obtain ⟨c1, c2⟩ := w_kept q1 d1 q2 (by decide) v2 h1
  refine ⟨m2, ?_, c1, c2⟩
  have va : pv_aX X (hp m2) 37 (nI k) = some ((aMov s k v).2.1 k) := by rw [← v2]; show _ = some (nr (gA m2 37) k); rw [nr_lt (by omega)]; exact St_a2 isSt_35 (by omega)
  rw [e_Wp_moved, u_Wp_moved_0]
  simp only [tIs, tVs, bs, if_true, true_or, or_true, i10, if_false, not_false_eq_true, not_true_eq_false, Wp_rc, Wp_f5, Wp_f6, Wp_f7, Wp_f8, Wp_f9, Wp_f10, Wp_f11, Wp_f12, Wp_f13, Wp_f14, w_isP1 hC hk, Hi_rc, e1, St_rc isSt_35, e2, St_f1 isSt_35]
  rw [va]
  simp only [tIs, tVs, bs, if_true, true_or, or_true, i10, if_false, not_false_eq_true, not_true_eq_false, Wp_rc, Wp_f5, Wp_f6, Wp_f7, Wp_f8, Wp_f9, Wp_f10, Wp_f11, Wp_f12, Wp_f13, Wp_f14]
theorem m_moved {k : Nat} {v : Int32} (b2 : MDS m π s b C T D hs mk tp nm) (h3 : OKS c π s b C T D hs mk tp nm) (hk : k < 6) : ∃ m4 m5, pM X m_Md_keeps [.ref 175] (hp (sI m 175 0 0)) = some (none, hp m4) ∧ pM X m_Md_beatsMore [.ref 175, .int 0, .int (nI k), .int v] (hp m4) = some (none, hp m5) ∧ vm m5 0 = aMov s k v ∧ MDS m5 π (aMov s k v) b C T D (tk s hs) mk tp nm ∧ Same [175, 187, 188, 189, 191] m m5 := by
  obtain ⟨m4, e4, q4, j4, a4, d4⟩ := m_keeps (X := X) (m := sI m 175 0 0) (s := s) (by rw [← b2.2.1]; unfold vm; rw [gA_sI]) (hs := hs) ⟨by rw [gI_sI_ne (Or.inr (by decide))]; exact b2.2.2.2.2.1.1, fun j hj => by rw [← b2.2.2.2.2.1.2 j hj]; unfold vm; rw [gA_sI]⟩ h3.2.2.2.2.2.2.1.1
  have v4 : vm m4 0 = s := by rw [← b2.2.1]; exact vm_eq (fun i _ _ => by rw [a4 i (by omega), gA_sI])
  obtain ⟨m5, e5, q5, v5⟩ := n_move (X := X) (B := 0) (k := k) (v := v) v4 rfl (by decide) hk
  obtain ⟨b5, s5⟩ := m_kept b2 h3 rfl q4 j4 a4 d4 q5 v5
  exact ⟨m4, m5, e4, e5, v5, b5, s5⟩
theorem k_fright (h : INV m c) (hc : c < 600) (p v : Int32) : AgI X m_Wp_fright m_Md_fright [.int p, .int v] m c := by
  obtain ⟨⟨P, a, π, s, b, C, T, D, hs, mk, tp, nm, h1, h2, h3⟩, g, hg, hgg⟩ := id h
  have hC := h1.hc
  have hM := h2.hm h3
  have hn := hC.n6
  rcases wthL v (L := 1) (U := 60) (l := 1) (u := 60) rfl rfl (by decide) (by decide) with ⟨q, b0, b1, rfl⟩ | hb
  · rcases prs p hn with ⟨k, hk, rfl⟩ | hb1
    · obtain ⟨m2, e2, c1, c2⟩ := w_moved (X := X) (v := nI q) h1 h3 hk
      have b2 := h2.same h3 c2 Same35
      obtain ⟨m4, m5, e4, e5, v5, b5, s5⟩ := m_moved (X := X) (v := nI q) b2 h3 (show k < 6 by omega)
      have R2 : RM (sI m2 175 0 0) π := b2.1.1.same (L := [175]) (Same.sI (by decide)) (by decide) (by decide) (by decide)
      refine ⟨(aMov s k (nI q)).2.1 k, m2, m5, ?_, ?_, k_inv (c1.same s5 Same175) b5 (h3.st hc (okS_mov h3.2.1).up (tk_ok h3).1 (tk_ok h3).2) hg (by rw [s5.1, c2.1]; exact hgg)⟩
      · rw [e_Wp_fright, u_Wp_fright_0]
        simp only [tIs, tVs, bs, if_true, true_or, or_true, i10, if_false, not_false_eq_true, not_true_eq_false, Wp_rc, Wp_f5, Wp_f6, Wp_f7, Wp_f8, Wp_f9, Wp_f10, Wp_f11, Wp_f12, Wp_f13, Wp_f14, w_in1 (in_l (L := 1) rfl b0 (by omega)) (in_u (U := 60) rfl b1 (by decide)), e2, u_Wp_fright_20]
      · rw [e_Md_fright, u_Md_fright_0, Md_p0]
        simp only [tIs, tVs, bs, if_true, true_or, or_true, i10, if_false, not_false_eq_true, not_true_eq_false, Md_rc, Md_f1, Md_f4, Md_f5, Md_f6, Md_f9, Md_f10, Md_f11, Md_f12, Md_f14, Md_f15, Md_f18, Md_f19, Md_f20, Md_f21, Md_f23, Md_f24, Md_f25, Md_f26, Md_f28, m_isP1 R2 hk, m_in1 (in_l (L := 1) rfl b0 (by omega)) (in_u (U := 60) rfl b1 (by decide)), e4, e5]
        rw [show (1 + nI k : Int32) = nI (0 + 1 + k) from by rw [show (1 : Int32) = nI 1 from rfl, nI_add], vm_a1 v5 (by omega) (by decide) rfl]
        simp only [tIs, tVs, bs, if_true, true_or, or_true, i10, if_false, not_false_eq_true, not_true_eq_false, Md_rc, Md_f1, Md_f4, Md_f5, Md_f6, Md_f9, Md_f10, Md_f11, Md_f12, Md_f14, Md_f15, Md_f18, Md_f19, Md_f20, Md_f21, Md_f23, Md_f24, Md_f25, Md_f26, Md_f28]
    · refine Ag.inv h hc (Ag.mk (-1) ⟨m, ?_, Q.rf⟩ (fun m1 hq => ?_))
      · rw [e_Wp_fright, u_Wp_fright_0]
        simp only [tIs, tVs, bs, if_true, true_or, or_true, i10, if_false, not_false_eq_true, not_true_eq_false, Wp_rc, Wp_f5, Wp_f6, Wp_f7, Wp_f8, Wp_f9, Wp_f10, Wp_f11, Wp_f12, Wp_f13, Wp_f14, w_in1 (in_l (L := 1) rfl b0 (by omega)) (in_u (U := 60) rfl b1 (by decide)), e_Wp_moved, u_Wp_moved_0, w_isP0 hC hb1, u_Wp_fright_20]
      · obtain ⟨m2, e2, q2⟩ := m_t0 (m := m1)
        refine ⟨m2, ?_, q2⟩
        rw [e_Md_fright, u_Md_fright_0]
        simp only [tIs, tVs, bs, if_true, true_or, or_true, i10, if_false, not_false_eq_true, not_true_eq_false, Md_rc, Md_f1, Md_f4, Md_f5, Md_f6, Md_f9, Md_f10, Md_f11, Md_f12, Md_f14, Md_f15, Md_f18, Md_f19, Md_f20, Md_f21, Md_f23, Md_f24, Md_f25, Md_f26, Md_f28, e2, m_isP0 (hM.q (hq.tr q2)).1 hb1, u_Md_fright_23]
  · refine Ag.inv h hc (Ag.mk (-1) ⟨m, ?_, Q.rf⟩ (fun m1 hq => ?_))
    · rw [e_Wp_fright, u_Wp_fright_0]
      simp only [tIs, tVs, bs, if_true, true_or, or_true, i10, if_false, not_false_eq_true, not_true_eq_false, Wp_rc, Wp_f5, Wp_f6, Wp_f7, Wp_f8, Wp_f9, Wp_f10, Wp_f11, Wp_f12, Wp_f13, Wp_f14, w_in0 hb, u_Wp_fright_20]
    · obtain ⟨m2, e2, q2⟩ := m_t0 (m := m1)
      have hR := (hM.q (hq.tr q2)).1
      refine ⟨m2, ?_, q2⟩
      rw [e_Md_fright, u_Md_fright_0]
      rcases prs p hn with ⟨k, hk, rfl⟩ | hb1
      · simp only [tIs, tVs, bs, if_true, true_or, or_true, i10, if_false, not_false_eq_true, not_true_eq_false, Md_rc, Md_f1, Md_f4, Md_f5, Md_f6, Md_f9, Md_f10, Md_f11, Md_f12, Md_f14, Md_f15, Md_f18, Md_f19, Md_f20, Md_f21, Md_f23, Md_f24, Md_f25, Md_f26, Md_f28, e2, m_isP1 hR hk, m_in0 hb, u_Md_fright_23]
      · simp only [tIs, tVs, bs, if_true, true_or, or_true, i10, if_false, not_false_eq_true, not_true_eq_false, Md_rc, Md_f1, Md_f4, Md_f5, Md_f6, Md_f9, Md_f10, Md_f11, Md_f12, Md_f14, Md_f15, Md_f18, Md_f19, Md_f20, Md_f21, Md_f23, Md_f24, Md_f25, Md_f26, Md_f28, e2, m_isP0 hR hb1, u_Md_fright_23]
theorem k_soothe (h : INV m c) (hc : c < 600) (p v : Int32) : AgI X m_Wp_soothe m_Md_soothe [.int p, .int v] m c := by
  obtain ⟨⟨P, a, π, s, b, C, T, D, hs, mk, tp, nm, h1, h2, h3⟩, g, hg, hgg⟩ := id h
  have hC := h1.hc
  have hM := h2.hm h3
  have hn := hC.n6
  rcases wthL v (L := 1) (U := 60) (l := 1) (u := 60) rfl rfl (by decide) (by decide) with ⟨q, b0, b1, rfl⟩ | hb
  · rcases prs p hn with ⟨k, hk, rfl⟩ | hb1
    · obtain ⟨m2, e2, c1, c2⟩ := w_moved (X := X) (v := -nI q) h1 h3 hk
      have b2 := h2.same h3 c2 Same35
      obtain ⟨m4, m5, e4, e5, v5, b5, s5⟩ := m_moved (X := X) (v := -nI q) b2 h3 (show k < 6 by omega)
      have R2 : RM (sI m2 175 0 0) π := b2.1.1.same (L := [175]) (Same.sI (by decide)) (by decide) (by decide) (by decide)
      refine ⟨(aMov s k (-nI q)).2.1 k, m2, m5, ?_, ?_, k_inv (c1.same s5 Same175) b5 (h3.st hc (okS_mov h3.2.1).up (tk_ok h3).1 (tk_ok h3).2) hg (by rw [s5.1, c2.1]; exact hgg)⟩
      · rw [e_Wp_soothe, u_Wp_soothe_0]
        simp only [tIs, tVs, bs, if_true, true_or, or_true, i10, if_false, not_false_eq_true, not_true_eq_false, Wp_rc, Wp_f5, Wp_f6, Wp_f7, Wp_f8, Wp_f9, Wp_f10, Wp_f11, Wp_f12, Wp_f13, Wp_f14, w_in1 (in_l (L := 1) rfl b0 (by omega)) (in_u (U := 60) rfl b1 (by decide)), e2, u_Wp_soothe_21]
      · rw [e_Md_soothe, u_Md_soothe_0, Md_p0]
        simp only [tIs, tVs, bs, if_true, true_or, or_true, i10, if_false, not_false_eq_true, not_true_eq_false, Md_rc, Md_f1, Md_f4, Md_f5, Md_f6, Md_f9, Md_f10, Md_f11, Md_f12, Md_f14, Md_f15, Md_f18, Md_f19, Md_f20, Md_f21, Md_f23, Md_f24, Md_f25, Md_f26, Md_f28, m_isP1 R2 hk, m_in1 (in_l (L := 1) rfl b0 (by omega)) (in_u (U := 60) rfl b1 (by decide)), e4, e5]
        rw [show (1 + nI k : Int32) = nI (0 + 1 + k) from by rw [show (1 : Int32) = nI 1 from rfl, nI_add], vm_a1 v5 (by omega) (by decide) rfl]
        simp only [tIs, tVs, bs, if_true, true_or, or_true, i10, if_false, not_false_eq_true, not_true_eq_false, Md_rc, Md_f1, Md_f4, Md_f5, Md_f6, Md_f9, Md_f10, Md_f11, Md_f12, Md_f14, Md_f15, Md_f18, Md_f19, Md_f20, Md_f21, Md_f23, Md_f24, Md_f25, Md_f26, Md_f28]
    · refine Ag.inv h hc (Ag.mk (-1) ⟨m, ?_, Q.rf⟩ (fun m1 hq => ?_))
      · rw [e_Wp_soothe, u_Wp_soothe_0]
        simp only [tIs, tVs, bs, if_true, true_or, or_true, i10, if_false, not_false_eq_true, not_true_eq_false, Wp_rc, Wp_f5, Wp_f6, Wp_f7, Wp_f8, Wp_f9, Wp_f10, Wp_f11, Wp_f12, Wp_f13, Wp_f14, w_in1 (in_l (L := 1) rfl b0 (by omega)) (in_u (U := 60) rfl b1 (by decide)), e_Wp_moved, u_Wp_moved_0, w_isP0 hC hb1, u_Wp_soothe_21]
      · obtain ⟨m2, e2, q2⟩ := m_t0 (m := m1)
        refine ⟨m2, ?_, q2⟩
        rw [e_Md_soothe, u_Md_soothe_0]
        simp only [tIs, tVs, bs, if_true, true_or, or_true, i10, if_false, not_false_eq_true, not_true_eq_false, Md_rc, Md_f1, Md_f4, Md_f5, Md_f6, Md_f9, Md_f10, Md_f11, Md_f12, Md_f14, Md_f15, Md_f18, Md_f19, Md_f20, Md_f21, Md_f23, Md_f24, Md_f25, Md_f26, Md_f28, e2, m_isP0 (hM.q (hq.tr q2)).1 hb1, u_Md_soothe_23]
  · refine Ag.inv h hc (Ag.mk (-1) ⟨m, ?_, Q.rf⟩ (fun m1 hq => ?_))
    · rw [e_Wp_soothe, u_Wp_soothe_0]
      simp only [tIs, tVs, bs, if_true, true_or, or_true, i10, if_false, not_false_eq_true, not_true_eq_false, Wp_rc, Wp_f5, Wp_f6, Wp_f7, Wp_f8, Wp_f9, Wp_f10, Wp_f11, Wp_f12, Wp_f13, Wp_f14, w_in0 hb, u_Wp_soothe_21]
    · obtain ⟨m2, e2, q2⟩ := m_t0 (m := m1)
      have hR := (hM.q (hq.tr q2)).1
      refine ⟨m2, ?_, q2⟩
      rw [e_Md_soothe, u_Md_soothe_0]
      rcases prs p hn with ⟨k, hk, rfl⟩ | hb1
      · simp only [tIs, tVs, bs, if_true, true_or, or_true, i10, if_false, not_false_eq_true, not_true_eq_false, Md_rc, Md_f1, Md_f4, Md_f5, Md_f6, Md_f9, Md_f10, Md_f11, Md_f12, Md_f14, Md_f15, Md_f18, Md_f19, Md_f20, Md_f21, Md_f23, Md_f24, Md_f25, Md_f26, Md_f28, e2, m_isP1 hR hk, m_in0 hb, u_Md_soothe_23]
      · simp only [tIs, tVs, bs, if_true, true_or, or_true, i10, if_false, not_false_eq_true, not_true_eq_false, Md_rc, Md_f1, Md_f4, Md_f5, Md_f6, Md_f9, Md_f10, Md_f11, Md_f12, Md_f14, Md_f15, Md_f18, Md_f19, Md_f20, Md_f21, Md_f23, Md_f24, Md_f25, Md_f26, Md_f28, e2, m_isP0 hR hb1, u_Md_soothe_23]
theorem k_quarter (h : INV m c) (hc : c < 600) : AgI X m_Wp_quarter m_Md_quarter [] m c := by
  obtain ⟨⟨P, a, π, s, b, C, T, D, hs, mk, tp, nm, h1, h2, h3⟩, g, hg, hgg⟩ := id h
  have hC := h1.hc
  have hM := h2.hm h3
  have hn := hC.n6
  have hl := hC.lt
  obtain ⟨m1, e1, q1, d1⟩ := w_keep (X := X) h1.2.1 h1.2.2.2.2.2.1 h3.2.2.2.2.2.2.1.1
  have v1 : vw m1 35 = s := by rw [vw_same q1 (by decide)]; exact h1.2.1
  have p1 := h1.1.same q1 (by decide)
  have hC1 : HC m1 P π s := ⟨p1.1, p1.2.1, p1.2.2.2.1, p1.2.2.2.2.1, v1⟩
  obtain ⟨m2, e2, v2, q2⟩ := s_passQuarter (X := X) (m := m1) (a := 35) hC1.po isSt_35 (by omega) hC1.2.2.1
  rw [hC1.2.2.2.1, v1] at v2 e2
  obtain ⟨c1, c2⟩ := w_kept q1 d1 q2 (by rcases hC.2.1 with rfl | rfl <;> decide) v2 h1
  have b2 := h2.same h3 c2 Same35
  obtain ⟨m4, e4, q4, j4, a4, d4⟩ := m_keeps (X := X) (m := sI m2 175 0 0) (s := s) (by rw [← b2.2.1]; unfold vm; rw [gA_sI]) (hs := hs) ⟨by rw [gI_sI_ne (Or.inr (by decide))]; exact b2.2.2.2.2.1.1, fun j hj => by rw [← b2.2.2.2.2.1.2 j hj]; unfold vm; rw [gA_sI]⟩ h3.2.2.2.2.2.2.1.1
  have v4 : vm m4 0 = s := by rw [← b2.2.1]; exact vm_eq (fun i _ _ => by rw [a4 i (by omega), gA_sI])
  have R4 : RM m4 π := b2.1.1.same (L := [175, 189]) ((Same.sI (by decide)).tr q4) (by decide) (by decide) (by decide)
  obtain ⟨m5, e5, q5, v5⟩ := n_pass (X := X) (B := 0) R4 v4 h3.2.1 rfl (by decide) (by omega)
  obtain ⟨b5, s5⟩ := m_kept b2 h3 rfl q4 j4 a4 d4 q5 v5
  refine ⟨tt (aPQ π s).1.2.2.2, m2, m5, ?_, ?_, k_inv (c1.same s5 Same175) b5 (h3.st hc (okS_aPQ hC.okA h3.2.1) (tk_ok h3).1 (tk_ok h3).2) hg (by rw [s5.1, c2.1]; exact hgg)⟩
  · rw [e_Wp_quarter, u_Wp_quarter_0]
    have ht : pM X m_St_trueTime [.ref 35] (hp m2) = some (some (.int (tt (aPQ π s).1.2.2.2)), hp m2) := by rw [c_trueTime isSt_35, ← v2]; rfl
    simp only [tIs, tVs, bs, if_true, true_or, or_true, i10, if_false, not_false_eq_true, not_true_eq_false, Wp_rc, Wp_f5, Wp_f6, Wp_f7, Wp_f8, Wp_f9, Wp_f10, Wp_f11, Wp_f12, Wp_f13, Wp_f14, Hi_rc, e1, hC1.f1, hC1.rc, e2, St_rc isSt_35, ht]
  · have ht : pM X m_Md_trueOf [.ref 175, .int 0] (hp m5) = some (some (.int (tt (aPQ π s).1.2.2.2)), hp m5) := by rw [show (0 : Int32) = nI 0 from rfl, d_trueOf (by decide), v5, tt_comm]
    rw [e_Md_quarter, u_Md_quarter_0, Md_p0]
    simp only [tIs, tVs, bs, if_true, true_or, or_true, i10, if_false, not_false_eq_true, not_true_eq_false, Md_rc, Md_f1, Md_f4, Md_f5, Md_f6, Md_f9, Md_f10, Md_f11, Md_f12, Md_f14, Md_f15, Md_f18, Md_f19, Md_f20, Md_f21, Md_f23, Md_f24, Md_f25, Md_f26, Md_f28, e4, e5, ht]
theorem k_undo (h : INV m c) (hc : c < 600) : AgI X m_Wp_undo m_Md_undo [] m c := by
  obtain ⟨⟨P, a, π, s, b, C, T, D, hs, mk, tp, nm, h1, h2, h3⟩, g, hg, hgg⟩ := id h
  have hC := h1.hc
  have hM := h2.hm h3
  obtain ⟨x, x1, x2, x3, x4⟩ := h1.2.2.2.2.2.1
  have h16 := h3.2.2.2.2.2.2.1.1
  cases hs with
  | nil =>
    refine Ag.inv h hc (Ag.mk 0 ⟨m, ?_, Q.rf⟩ (fun m1 hq => ?_))
    · rw [e_Wp_undo, u_Wp_undo_0]
      simp only [tIs, tVs, bs, if_true, true_or, or_true, i10, if_false, not_false_eq_true, not_true_eq_false, Wp_rc, Wp_f5, Wp_f6, Wp_f7, Wp_f8, Wp_f9, Wp_f10, Wp_f11, Wp_f12, Wp_f13, Wp_f14, Hi_rc, e_Hi_bringBack, u_Hi_bringBack_0, Hi_f2, x3]
      rw [if_neg (fun z => z rfl)]
      simp only [tIs, tVs, bs, if_true, true_or, or_true, i10, if_false, not_false_eq_true, not_true_eq_false, Wp_rc, Wp_f5, Wp_f6, Wp_f7, Wp_f8, Wp_f9, Wp_f10, Wp_f11, Wp_f12, Wp_f13, Wp_f14]
    · obtain ⟨m2, e2, q2⟩ := m_t0 (m := m1)
      have h5 := (h2.q h3 (hq.tr q2)).2.2.2.2.1.1
      refine ⟨m2, ?_, q2⟩
      rw [e_Md_undo, u_Md_undo_0, e2]
      simp only [tIs, tVs, bs, if_true, true_or, or_true, i10, if_false, not_false_eq_true, not_true_eq_false, Md_rc, Md_f1, Md_f4, Md_f5, Md_f6, Md_f9, Md_f10, Md_f11, Md_f12, Md_f14, Md_f15, Md_f18, Md_f19, Md_f20, Md_f21, Md_f23, Md_f24, Md_f25, Md_f26, Md_f28, Md_f22, h5]
      rw [if_neg (fun z => z rfl)]
  | cons y tl =>
    have hlen : (y :: tl).length = tl.length + 1 := rfl
    rw [hlen] at h16 x3
    have y0 : vw m (45 + 4 * ((x + 15) % 16)) = y := x4 0 (by rw [hlen]; omega)
    have lx : (x + 15) % 16 < 16 := Nat.mod_lt _ (by decide)
    have sg : Same KHis m (sI (sI m 43 1 (nI ((x + 15) % 16))) 43 2 (nI tl.length)) := (Same.sI (by decide)).tr (Same.sI (by decide))
    have sg' : Same [43] m (sI (sI m 43 1 (nI ((x + 15) % 16))) 43 2 (nI tl.length)) := (Same.sI (by decide)).tr (Same.sI (by decide))
    have g1 : gI (sI (sI m 43 1 (nI ((x + 15) % 16))) 43 2 (nI tl.length)) 43 1 = nI ((x + 15) % 16) := by rw [gI_sI_ne (Or.inr (by decide)), gI_sI_eq]
    have g2 : gI (sI (sI m 43 1 (nI ((x + 15) % 16))) 43 2 (nI tl.length)) 43 2 = nI tl.length := gI_sI_eq
    have f2 : pv_fI (hp (sI m 43 1 (nI ((x + 15) % 16)))) 43 3 2 = some (nI (tl.length + 1)) := by rw [Hi_f2, gI_sI_ne (Or.inr (by decide)), x3]
    have p2 : pv_fp (hp (sI m 43 1 (nI ((x + 15) % 16)))) 43 3 2 (.int (nI tl.length)) = some (hp (sI (sI m 43 1 (nI ((x + 15) % 16))) 43 2 (nI tl.length))) := Hi_p2
    generalize sI (sI m 43 1 (nI ((x + 15) % 16))) 43 2 (nI tl.length) = m1 at sg sg' g1 g2 p2
    obtain ⟨m2, e2, v2, q2⟩ := s_copy (X := X) (m := m1) (a := 35) (b := 45 + 4 * ((x + 15) % 16)) isSt_35 (isSt_h _ lx) (by omega)
    have y1 : vw m1 (45 + 4 * ((x + 15) % 16)) = y := by rw [← y0]; exact vw_same sg' (fun c hc => by simp [cSt] at hc; simp; omega)
    rw [y1] at v2
    have hq2 : Same (KHis ++ [8, 20, 35, 36, 37, 38]) m m2 := (sg.mono SL1).tr (q2.mono SL2)
    have ch : cHis m2 tl := by
      refine ⟨(x + 15) % 16, lx, by rw [q2.I (by decide)]; exact g1, by rw [q2.I (by decide)]; exact g2, fun j hj => ?_⟩
      have e := x4 (j + 1) (by rw [hlen]; omega)
      rw [vw_same q2 (fun c hc => by simp [cSt] at hc ⊢; omega), vw_same sg' (fun c hc => by simp [cSt] at hc; simp; omega), show ((x + 15) % 16 + 15 - j) % 16 = (x + 15 - (j + 1)) % 16 by omega, e]
      rfl
    have c1 := h1.st hq2 (fun _ h => h) v2 ch
    have b2 := h2.same h3 hq2 Same35
    have u0 : gI m2 175 22 = nI (tl.length + 1) := b2.2.2.2.2.1.1
    have z3 : Same [175] m2 (sI (sI m2 175 0 0) 175 22 (nI tl.length)) := (Same.sI (by decide)).tr (Same.sI (by decide))
    have k3 : ∀ j, j ≠ 0 → j ≠ 22 → gI (sI (sI m2 175 0 0) 175 22 (nI tl.length)) 175 j = gI m2 175 j := fun j h0 h2 => by rw [gI_sI_ne (Or.inr h2), gI_sI_ne (Or.inr h0)]
    have u3 : gI (sI (sI m2 175 0 0) 175 22 (nI tl.length)) 175 22 = nI tl.length := gI_sI_eq
    have a3 : gA (sI (sI m2 175 0 0) 175 22 (nI tl.length)) 189 = gA m2 189 := by rw [gA_sI, gA_sI]
    have p3 : pv_fp (hp (sI m2 175 0 0)) 175 11 22 (.int (nI tl.length)) = some (hp (sI (sI m2 175 0 0) 175 22 (nI tl.length))) := Md_p22
    have f3 : pv_fI (hp (sI m2 175 0 0)) 175 11 22 = some (nI (tl.length + 1)) := by rw [Md_f22, gI_sI_ne (Or.inr (by decide)), u0]
    generalize sI (sI m2 175 0 0) 175 22 (nI tl.length) = m3 at z3 k3 u3 a3 p3
    obtain ⟨m4, e4, q4, g4⟩ := m_copies (X := X) (m := m3) (f := 51 * (5 + tl.length)) (g := 0) (n := 19) (vf := 51 * (5 + nI tl.length)) (vg := 0) (vn := 19) (by rw [show (5 : Int32) = nI 5 from rfl, show (51 : Int32) = nI 51 from rfl, nI_add, pk_mul]) rfl rfl (by omega) (by omega) (by omega)
    have v4 : vm m4 0 = y := by
      rw [vm_copied (f := 51 * (5 + tl.length)) (n := 19) (by decide) g4]
      have := b2.2.2.2.2.1.2 0 (by rw [hlen]; omega)
      rw [hlen, show tl.length + 1 - 1 - 0 = tl.length by omega] at this
      have e : (y :: tl).getD 0 aS0 = y := rfl
      rw [e] at this
      rw [← this]
      exact vm_eq (fun i _ _ => by rw [a3])
    have s4 : Same [175, 187, 188, 189, 191] m2 m4 := (z3.mono (by decide)).tr (q4.mono (by decide))
    have d4 : dHis m4 tl := by
      refine ⟨by rw [q4.I (by decide)]; exact u3, fun j hj => ?_⟩
      have := b2.2.2.2.2.1.2 (j + 1) (by rw [hlen]; omega)
      rw [hlen, show tl.length + 1 - 1 - (j + 1) = tl.length - 1 - j by omega] at this
      have e : (y :: tl).getD (j + 1) aS0 = tl.getD j aS0 := rfl
      rw [e] at this
      rw [← this]
      exact vm_eq (fun i a1 a2 => by rw [g4, if_neg (by omega), a3])
    have b5 := b2.st h3 s4 (fun j h0 h2 => by rw [q4.I (by decide), k3 j h0 h2]) (fun i hi => by rw [g4, if_neg (by omega), a3]) v4 d4
    have oh := h3.2.2.2.2.2.2.1.2
    refine ⟨1, m2, m4, ?_, ?_, k_inv (c1.same s4 Same175) b5 (h3.st hc (oh y (by simp)).up (by omega) (fun z hz => (oh z (by simp [hz])).up)) hg (by rw [s4.1, hq2.1]; exact hgg)⟩
    · rw [e_Wp_undo, u_Wp_undo_0]
      simp only [tIs, tVs, bs, if_true, true_or, or_true, i10, if_false, not_false_eq_true, not_true_eq_false, Wp_rc, Wp_f5, Wp_f6, Wp_f7, Wp_f8, Wp_f9, Wp_f10, Wp_f11, Wp_f12, Wp_f13, Wp_f14, Hi_rc, e_Hi_bringBack, u_Hi_bringBack_0, Hi_f2, x3]
      rw [if_pos (nI_ne0 (by omega) (by omega)), Hi_f1, x2]
      simp only [tIs, tVs, bs, if_true, true_or, or_true, i10, if_false, not_false_eq_true, not_true_eq_false, Wp_rc, Wp_f5, Wp_f6, Wp_f7, Wp_f8, Wp_f9, Wp_f10, Wp_f11, Wp_f12, Wp_f13, Wp_f14]
      rw [show (nI x + 16 - 1 : Int32) = nI (x + 15) from by rw [show (16 : Int32) = nI 16 from rfl, nI_add]; exact nI_pred (x + 15), show ((16 : Int32)) = nI 16 from rfl, pk_rem (by omega) (by decide) (by decide), Hi_p1]
      simp only [tIs, tVs, bs, if_true, true_or, or_true, i10, if_false, not_false_eq_true, not_true_eq_false, Wp_rc, Wp_f5, Wp_f6, Wp_f7, Wp_f8, Wp_f9, Wp_f10, Wp_f11, Wp_f12, Wp_f13, Wp_f14, f2, nI_pred, p2, Hi_f0, Hi_f1, g1, Hi_ld lx, St_rc isSt_35, e2]
    · rw [e_Md_undo, u_Md_undo_0, Md_p0]
      simp only [tIs, tVs, bs, if_true, true_or, or_true, i10, if_false, not_false_eq_true, not_true_eq_false, Md_rc, Md_f1, Md_f4, Md_f5, Md_f6, Md_f9, Md_f10, Md_f11, Md_f12, Md_f14, Md_f15, Md_f18, Md_f19, Md_f20, Md_f21, Md_f23, Md_f24, Md_f25, Md_f26, Md_f28, f3]
      rw [if_pos (nI_ne0 (by omega) (by omega))]
      simp only [nI_pred, p3, tIs, tVs, bs, if_true, true_or, or_true, i10, if_false, not_false_eq_true, not_true_eq_false, Md_rc, Md_f1, Md_f4, Md_f5, Md_f6, Md_f9, Md_f10, Md_f11, Md_f12, Md_f14, Md_f15, Md_f18, Md_f19, Md_f20, Md_f21, Md_f23, Md_f24, Md_f25, Md_f26, Md_f28, Md_f22, u3, e4]
end HIS
