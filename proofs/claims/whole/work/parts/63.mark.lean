/-! mark. -/
theorem isCl_m : ∀ i, i < 4 → isCl (128 + 13 * i) ∧ isCl (132 + 13 * i) ∧ pm_T[123 + 13 * i]? = some (.inr (4, [(2, 124 + 13 * i), (2, 128 + 13 * i), (2, 132 + 13 * i), (0, 0)])) := fun i hi => match i, hi with
  | 0, _ => ⟨⟨rfl, rfl, rfl, rfl⟩, ⟨rfl, rfl, rfl, rfl⟩, rfl⟩
  | 1, _ => ⟨⟨rfl, rfl, rfl, rfl⟩, ⟨rfl, rfl, rfl, rfl⟩, rfl⟩
  | 2, _ => ⟨⟨rfl, rfl, rfl, rfl⟩, ⟨rfl, rfl, rfl, rfl⟩, rfl⟩
  | 3, _ => ⟨⟨rfl, rfl, rfl, rfl⟩, ⟨rfl, rfl, rfl, rfl⟩, rfl⟩
  | n + 4, h => absurd h (by omega)
theorem T_117 : pm_T[117]? = some (.inl (4, 4)) := rfl
theorem Mk_ld {m : pm_M} {x : Nat} (hx : x < 4) : pv_aR (hp m) 117 (nI x) = some (123 + 13 * x) := by
  rw [hp_aR (Or.inl rfl) T_117, if_pos (pv_in_nI hx (by decide)), nI_clamp (by omega)]
  unfold pm_rr
  rw [if_neg (by decide), if_pos rfl, if_pos hx]
section MRK
variable {m : pm_M} {X : pv_X} {c P a : Nat} {π : aP} {s b : aS} {C T : aC} {D : aD} {hs : List aS} {mk : aK} {tp : aT} {nm : aN}
theorem w_clcopy {e d : Nat} (he : isCl e) (hd : isCl d) (hed : e + 4 ≤ d ∨ d + 4 ≤ e) : ∃ m', pM X m_Cl_copy [.ref e, .ref d] (hp m) = some (none, hp m') ∧ Same [e, e + 1, e + 2, e + 3] m m' ∧ (clC m d C → clC m' e C) ∧ (clS m d C → clS m' e C) := by
  have z0 : Int32.toNatClampNeg 0 = 0 := rfl
  have z6 : Int32.toNatClampNeg 6 = 6 := rfl
  have k1 : ¬ d + 2 = e + 1 := by omega
  have k2 : ¬ d + 3 = e + 1 := by omega
  have k3 : ¬ d + 3 = e + 2 := by omega
  have key : ∃ m', pM X m_Cl_copy [.ref e, .ref d] (hp m) = some (none, hp m') ∧ Same [e, e + 1, e + 2, e + 3] m m' ∧ gI m' e 3 = gI m d 3 ∧ gA m' (e + 1) = va_cpy (gA m (d + 1)) (gA m (e + 1)) 0 0 6 ∧ gA m' (e + 2) = va_cpy (gA m (d + 2)) (gA m (e + 2)) 0 0 6 ∧ gA m' (e + 3) = va_cpy (gA m (d + 3)) (gA m (e + 3)) 0 0 6 := by
    rw [e_Cl_copy, u_Cl_copy_0]
    simp only [Cl_f0 he, Cl_f0 hd, Cl_f1 he, Cl_f1 hd, Cl_f2 he, Cl_f2 hd, Cl_f3 hd, Option.bind_some, hp_cp hd.2.1 he.2.1 (sp := 0) (dp := 0) (q := 6) (by decide) (by decide) (by decide) (by decide) (by decide), hp_cp hd.2.2.1 he.2.2.1 (sp := 0) (dp := 0) (q := 6) (by decide) (by decide) (by decide) (by decide) (by decide), hp_cp hd.2.2.2 he.2.2.2 (sp := 0) (dp := 0) (q := 6) (by decide) (by decide) (by decide) (by decide) (by decide), Cl_p3 he]
    refine ⟨_, rfl, ((Same.sA (by simp)).tr (Same.sA (by simp))).tr ((Same.sA (by simp)).tr (Same.sI (by simp))), ?_, ?_, ?_, ?_⟩
    · simp [gI_sI, gI_sA]
    · simp [gA_sI, gA_sA, z0, z6]
    · simp [gA_sI, gA_sA, k1, z0, z6]
    · simp [gA_sI, gA_sA, k2, k3, z0, z6]
  obtain ⟨m', e1, q1, g0, g1, g2, g3⟩ := key
  have kc : clC m d C → clC m' e C := by
    rintro ⟨c1, c2, c3⟩
    refine ⟨c1, by rw [g0]; exact c2, fun i hi => ?_⟩
    rw [g2, g3, sb_cpy0 (by omega), sb_cpy0 (by omega)]
    exact c3 i hi
  refine ⟨m', e1, q1, kc, fun h => ⟨kc h.1, fun i hi => ?_⟩⟩
  have := h.1.1
  rw [g1, sb_cpy0 (by omega)]
  exact h.2 i hi
def cM (i : Nat) : List Nat := [123 + 13 * i, 124 + 13 * i, 125 + 13 * i, 126 + 13 * i, 127 + 13 * i, 128 + 13 * i, 129 + 13 * i, 130 + 13 * i, 131 + 13 * i, 132 + 13 * i, 133 + 13 * i, 134 + 13 * i, 135 + 13 * i]
theorem cM_in {i k : Nat} (h : k ∈ cM i) : 123 + 13 * i ≤ k ∧ k < 136 + 13 * i := by
  simp only [cM, List.mem_cons, List.not_mem_nil, or_false] at h
  omega
theorem in_cM {i k : Nat} (h : 123 + 13 * i ≤ k) (h' : k < 136 + 13 * i) : k ∈ cM i := by
  simp only [cM, List.mem_cons, List.not_mem_nil, or_false]
  omega
def mkS (mk : aK) (i : Nat) (y : aS × aC × aC) : aK := fun j => if j = i then some y else mk j
theorem w_lay {i : Nat} (hi : i < 4) (h : CLS m P a π s b C T D hs mk tp nm) : ∃ m', pM X m_Mk_lay [.ref (123 + 13 * i), .ref 35, .ref 109, .ref 113] (hp m) = some (none, hp m') ∧ Same KMrk m m' ∧ CLS m' P a π s b C T D hs (mkS mk i (s, C, T)) tp nm := by
  obtain ⟨k1, k2, k3⟩ := isCl_m i hi
  have k4 := isSt_m i hi
  obtain ⟨m1, e1, v1, q1⟩ := s_copy (X := X) (m := m) (a := 124 + 13 * i) (b := 35) k4 isSt_35 (by omega)
  obtain ⟨m2, e2, q2, -, c2⟩ := w_clcopy (X := X) (m := m1) (C := C) k1 isCl_109 (by omega)
  obtain ⟨m3, e3, q3, c3, -⟩ := w_clcopy (X := X) (m := m2) (C := T) k2 isCl_113 (by omega)
  have f0 : ∀ m, pv_fR (hp m) (123 + 13 * i) 4 0 = some (124 + 13 * i) := fun m => hp_fR k3 rfl
  have f1 : ∀ m, pv_fR (hp m) (123 + 13 * i) 4 1 = some (128 + 13 * i) := fun m => hp_fR k3 rfl
  have f2 : ∀ m, pv_fR (hp m) (123 + 13 * i) 4 2 = some (132 + 13 * i) := fun m => hp_fR k3 rfl
  have p3 : pv_fp (hp m3) (123 + 13 * i) 4 3 (.int 1) = some (hp (sI m3 (123 + 13 * i) 3 1)) := hp_pI k3 rfl
  have q4 : Same [123 + 13 * i] m3 (sI m3 (123 + 13 * i) 3 1) := Same.sI (by simp)
  have g4 : gI (sI m3 (123 + 13 * i) 3 1) (123 + 13 * i) 3 = 1 := gI_sI_eq
  generalize sI m3 (123 + 13 * i) 3 1 = m4 at p3 q4 g4
  have l1 : ∀ k, k ∈ cSt (124 + 13 * i) → k ∈ cM i := fun k hk => by simp [cSt] at hk; exact in_cM (by omega) (by omega)
  have l2 : ∀ k, k ∈ [128 + 13 * i, 128 + 13 * i + 1, 128 + 13 * i + 2, 128 + 13 * i + 3] → k ∈ cM i := fun k hk => by simp at hk; exact in_cM (by omega) (by omega)
  have l3 : ∀ k, k ∈ [132 + 13 * i, 132 + 13 * i + 1, 132 + 13 * i + 2, 132 + 13 * i + 3] → k ∈ cM i := fun k hk => by simp at hk; exact in_cM (by omega) (by omega)
  have l4 : ∀ k, k ∈ [123 + 13 * i] → k ∈ cM i := fun k hk => by simp at hk; exact in_cM (by omega) (by omega)
  have q : Same (cM i) m m4 := (((q1.mono l1).tr (q2.mono l2)).tr (q3.mono l3)).tr (q4.mono l4)
  have qK : Same KMrk m m4 := q.mono (fun k hk => by have := cM_in hk; exact KMrk_in (by omega) (by omega))
  refine ⟨m4, ?_, qK, ?_⟩
  · rw [e_Mk_lay, u_Mk_lay_0]
    simp only [tIs, tVs, bs, if_true, true_or, or_true, i10, if_false, not_false_eq_true, not_true_eq_false, f0, f1, f2, St_rc k4, e1, Cl_rc k1, e2, Cl_rc k2, e3, p3]
  · obtain ⟨h1, h2, h3, h4, h5, h6, h7, h8⟩ := h
    refine ⟨h1.same qK (by decide), by rw [vw_same qK (by decide)]; exact h2, h3.same qK (by decide) (by decide) (by decide) (by decide), h4.same qK (by decide) (by decide) (by decide), h5.same qK (by decide), h6.same qK (by decide), fun j hj => ?_, h8.same qK (by decide) (by decide)⟩
    by_cases hji : j = i
    · subst hji
      unfold mkS
      rw [if_pos rfl]
      refine ⟨g4, fun y hy => ?_⟩
      cases hy
      refine ⟨?_, ?_, ?_⟩
      · rw [vw_same q4 (fun k hk => by simp [cSt] at hk; simp; omega), vw_same q3 (fun k hk => by simp [cSt] at hk; simp; omega), vw_same q2 (fun k hk => by simp [cSt] at hk; simp; omega), v1, h2]
      · have z1 : clS m1 109 C := h3.same q1 (by simp [cSt]; omega) (by simp [cSt]; omega) (by simp [cSt]; omega) (by simp [cSt]; omega)
        have z3 : clS m3 (128 + 13 * j) C := (c2 z1).same q3 (by simp; omega) (by simp; omega) (by simp; omega) (by simp; omega)
        exact z3.same q4 (by simp) (by simp; omega) (by simp; omega) (by simp; omega)
      · have z1 : clC m1 113 T := h4.same q1 (by simp [cSt]; omega) (by simp [cSt]; omega) (by simp [cSt]; omega)
        have z2 : clC m2 113 T := z1.same q2 (by simp; omega) (by simp; omega) (by simp; omega)
        exact (c3 z2).same q4 (by simp) (by simp; omega) (by simp; omega)
    · have : mkS mk i (s, C, T) j = mk j := by unfold mkS; rw [if_neg hji]
      rw [this]
      exact cMrk1.same hj (h7 j hj) q (fun d hd hm => by have := cM_in hm; omega)
theorem dClu_cp {m' : pm_M} {f g : Nat} (h : dClu m f C T) (hC : C.1 ≤ 6) (hT : T.1 ≤ 6) (he : ∀ i, gA m' 189 i = if g ≤ i ∧ i < g + 51 then gA m 189 (f + (i - g)) else gA m 189 i) : dClu m' g C T := by
  obtain ⟨h1, h2, h3, h4⟩ := h
  have e : ∀ j, j < 51 → gA m' 189 (g + j) = gA m 189 (f + j) := fun j hj => by rw [he, if_pos (by omega), show f + (g + j - g) = f + j by omega]
  refine ⟨?_, fun i hi => ?_, ?_, fun i hi => ?_⟩
  · rw [e 19 (by omega)]; exact h1
  · have := h2 i hi
    rw [show g + 20 + 3 * i = g + (20 + 3 * i) by omega, show g + (20 + 3 * i) + 1 = g + (21 + 3 * i) by omega, show g + (20 + 3 * i) + 2 = g + (22 + 3 * i) by omega, e _ (by omega), e _ (by omega), e _ (by omega)]
    rw [show f + 20 + 3 * i = f + (20 + 3 * i) by omega, show f + (20 + 3 * i) + 1 = f + (21 + 3 * i) by omega, show f + (20 + 3 * i) + 2 = f + (22 + 3 * i) by omega] at this
    exact this
  · rw [e 38 (by omega)]; exact h3
  · have := h4 i hi
    rw [show g + 39 + 2 * i = g + (39 + 2 * i) by omega, show g + (39 + 2 * i) + 1 = g + (40 + 2 * i) by omega, e _ (by omega), e _ (by omega)]
    rw [show f + 39 + 2 * i = f + (39 + 2 * i) by omega, show f + (39 + 2 * i) + 1 = f + (40 + 2 * i) by omega] at this
    exact this
theorem k_mark (h : INV m c) (hc : c < 600) (v w : Int32) : AgI X m_Wp_mark m_Md_mark [.int v, .int w] m c := by
  obtain ⟨⟨P, a, π, s, b, C, T, D, hs, mk, tp, nm, h1, h2, h3⟩, g, hg, hgg⟩ := id h
  have hC := h1.hc
  have hM := h2.hm h3
  have hn := hC.n6
  rcases wthL v (L := 0) (U := 3) (l := 0) (u := 3) rfl rfl (by decide) (by decide) with ⟨i, b0, b1, rfl⟩ | hb
  · have hi : i < 4 := by omega
    obtain ⟨k1, k2, k3⟩ := isCl_m i hi
    have k4 := isSt_m i hi
    have iw := w_in1 (X := X) (h := hp m) (in_l (L := 0) rfl b0 (show i < 2 ^ 31 by omega)) (in_u (U := 3) rfl b1 (by decide))
    have im : ∀ h, pM X m_Md_within [.int (nI i), .int 0, .int 3] h = some (some (.int 1), h) := fun h => m_in1 (in_l (L := 0) rfl b0 (by omega)) (in_u (U := 3) rfl b1 (by decide))
    have e51 : (51 * (1 + nI i) : Int32) = nI (51 * (1 + i)) := by rw [show (1 : Int32) = nI 1 from rfl, show (51 : Int32) = nI 51 from rfl, nI_add, pk_mul]
    by_cases hw : w = 0
    · obtain ⟨m1, e1, q1, c1⟩ := w_lay (X := X) hi h1
      have b1' := h2.same h3 q1 (by decide)
      have s2 : Same [175, 190] m1 (sA (sI m1 175 0 0) 190 (upd (gA m1 190) i 1)) := (Same.sI (by decide)).tr (Same.sA (by decide))
      have st : pv_sZ (hp (sI m1 175 0 0)) 190 (nI i) 1 = some (hp (sA (sI m1 175 0 0) 190 (upd (gA m1 190) i 1))) := st_190 hi
      have g2 : gA (sA (sI m1 175 0 0) 190 (upd (gA m1 190) i 1)) 190 = upd (gA m1 190) i 1 := by rw [gA_sA, if_pos rfl]
      have j2 : ∀ j, j ≠ 0 → gI (sA (sI m1 175 0 0) 190 (upd (gA m1 190) i 1)) 175 j = gI m1 175 j := fun j hj => by rw [gI_sA, gI_sI_ne (Or.inr hj)]
      generalize sA (sI m1 175 0 0) 190 (upd (gA m1 190) i 1) = m2 at s2 st g2 j2
      obtain ⟨m3, e3, q3, g3⟩ := m_copies (X := X) (m := m2) (f := 0) (g := 51 * (1 + i)) (n := 51) (vf := 0) (vg := nI (51 * (1 + i))) (vn := 51) rfl rfl rfl (by omega) (by omega) (by omega)
      have q4 : Same [175] m3 (sI m3 175 22 (gI m3 175 22)) := Same.sI (by decide)
      have p4 : pv_fp (hp m3) 175 11 22 (.int (gI m3 175 22)) = some (hp (sI m3 175 22 (gI m3 175 22))) := Md_p22
      have j4 : ∀ j, gI (sI m3 175 22 (gI m3 175 22)) 175 j = gI m3 175 j := fun j => by
        by_cases hj : j = 22
        · rw [hj, gI_sI_eq]
        · rw [gI_sI_ne (Or.inr hj)]
      generalize sI m3 175 22 (gI m3 175 22) = m4 at q4 p4 j4
      have s4 : Same [175, 189, 190] m1 m4 := ((s2.mono (by decide)).tr (q3.mono (by decide))).tr (q4.mono (by decide))
      have a4 : ∀ k, gA m4 189 k = if 51 * (1 + i) ≤ k ∧ k < 51 * (1 + i) + 51 then gA m1 189 (0 + (k - 51 * (1 + i))) else gA m1 189 k := fun k => by rw [q4.A (by decide), g3, s2.A (by decide)]
      have j5 : ∀ j, j ≠ 0 → gI m4 175 j = gI m1 175 j := fun j hj => by rw [j4, q3.I (by decide), j2 j hj]
      obtain ⟨o1, o2, o3, o4, o5, o6, o7, o8, o9⟩ := h3.up hc
      obtain ⟨d1, d2, d3, d4, d5, d6, d7, d8⟩ := b1'
      refine ⟨1, m1, m4, ?_, ?_, k_inv (c := c) (mk := mkS mk i (s, C, T)) (c1.same s4 (by decide)) ⟨d1.same s4 (j5 _ (by decide)) (by decide), ?_, d3.same o4.1 o5.1 (fun k _ _ => by rw [a4, if_neg (by omega)]), d4.same (s4.A (by decide)), d5.same o7.1 (j5 _ (by decide)) (fun k _ _ => by rw [a4, if_neg (by omega)]), fun j hj => ?_, d7.same (j5 _ (by decide)) (s4.A (by decide)), d8.same (s4.Lr (by decide))⟩ ⟨o1, o2, o3, o4, o5, o6, o7, fun j y hj hy => ?_, o9⟩ hg (by rw [s4.1, q1.1]; exact hgg)⟩
      · rw [e_Wp_mark, u_Wp_mark_0]
        simp only [tIs, tVs, bs, if_true, true_or, or_true, i10, if_false, not_false_eq_true, not_true_eq_false, Wp_rc, Wp_f5, Wp_f6, Wp_f7, Wp_f8, Wp_f9, Wp_f10, Wp_f11, Wp_f12, Wp_f13, Wp_f14, iw, Mk_ld hi]
        rw [if_neg (fun z => z hw), hp_rc k3]
        simp only [tIs, tVs, bs, if_true, true_or, or_true, i10, if_false, not_false_eq_true, not_true_eq_false, Wp_rc, Wp_f5, Wp_f6, Wp_f7, Wp_f8, Wp_f9, Wp_f10, Wp_f11, Wp_f12, Wp_f13, Wp_f14, e1]
      · rw [e_Md_mark, u_Md_mark_0, Md_p0]
        simp only [tIs, tVs, bs, if_true, true_or, or_true, i10, if_false, not_false_eq_true, not_true_eq_false, Md_rc, Md_f1, Md_f4, Md_f5, Md_f6, Md_f9, Md_f10, Md_f11, Md_f12, Md_f14, Md_f15, Md_f18, Md_f19, Md_f20, Md_f21, Md_f23, Md_f24, Md_f25, Md_f26, Md_f28, im]
        rw [if_pos hw, u_Md_mark_29]
        simp only [tIs, tVs, bs, if_true, true_or, or_true, i10, if_false, not_false_eq_true, not_true_eq_false, Md_rc, Md_f1, Md_f4, Md_f5, Md_f6, Md_f9, Md_f10, Md_f11, Md_f12, Md_f14, Md_f15, Md_f18, Md_f19, Md_f20, Md_f21, Md_f23, Md_f24, Md_f25, Md_f26, Md_f28, st]
        rw [if_pos hw, u_Md_mark_51, if_pos hw, u_Md_mark_65, e51]
        simp only [tIs, tVs, bs, if_true, true_or, or_true, i10, if_false, not_false_eq_true, not_true_eq_false, Md_rc, Md_f1, Md_f4, Md_f5, Md_f6, Md_f9, Md_f10, Md_f11, Md_f12, Md_f14, Md_f15, Md_f18, Md_f19, Md_f20, Md_f21, Md_f23, Md_f24, Md_f25, Md_f26, Md_f28, e3]
        rw [if_pos hw]
        simp only [Md_f22, tIs, tVs, bs, if_true, true_or, or_true, i10, if_false, not_false_eq_true, not_true_eq_false, Md_rc, Md_f1, Md_f4, Md_f5, Md_f6, Md_f9, Md_f10, Md_f11, Md_f12, Md_f14, Md_f15, Md_f18, Md_f19, Md_f20, Md_f21, Md_f23, Md_f24, Md_f25, Md_f26, Md_f28, u_Md_mark_83, p4]
      · rw [← d2]; exact vm_eq (fun k _ _ => by rw [a4, if_neg (by omega)])
      · by_cases hji : j = i
        · subst hji
          have e0 : mkS mk j (s, C, T) j = some (s, C, T) := by unfold mkS; rw [if_pos rfl]
          rw [e0]
          refine ⟨by rw [q4.A (by decide), q3.A (by decide), g2, pk_us]; rfl, fun y hy => ?_⟩
          cases hy
          exact ⟨by rw [vm_copied (f := 0) (n := 51) (by decide) a4]; exact d2, dClu_cp d3 o4.1 o5.1 a4⟩
        · have e0 : mkS mk i (s, C, T) j = mk j := by unfold mkS; rw [if_neg hji]
          rw [e0]
          refine ⟨by rw [q4.A (by decide), q3.A (by decide), g2, pk_un hji]; exact (d6 j hj).1, fun y hy => ?_⟩
          obtain ⟨y1, y2⟩ := (d6 j hj).2 y hy
          obtain ⟨-, y3, y4⟩ := o8 j y hj hy
          exact ⟨by rw [← y1]; exact vm_eq (fun k _ _ => by rw [a4, if_neg (by omega)]), y2.same y3.1 y4.1 (fun k _ _ => by rw [a4, if_neg (by omega)])⟩
      · by_cases hji : j = i
        · have e0 : mkS mk i (s, C, T) j = some (s, C, T) := by unfold mkS; rw [if_pos hji]
          rw [e0] at hy
          cases hy
          exact ⟨o2, o4, o5⟩
        · have e0 : mkS mk i (s, C, T) j = mk j := by unfold mkS; rw [if_neg hji]
          rw [e0] at hy
          exact o8 j y hj hy
    · cases hmk : mk i with
      | none =>
        refine Ag.inv h hc (Ag.mk 0 ⟨m, ?_, Q.rf⟩ (fun m1 hq => ?_))
        · have f3 : pv_fI (hp m) (123 + 13 * i) 4 3 = some 0 := by rw [hp_fI k3 rfl, (h1.2.2.2.2.2.2.1 i hi).1, hmk]; rfl
          rw [e_Wp_mark, u_Wp_mark_0]
          simp only [tIs, tVs, bs, if_true, true_or, or_true, i10, if_false, not_false_eq_true, not_true_eq_false, Wp_rc, Wp_f5, Wp_f6, Wp_f7, Wp_f8, Wp_f9, Wp_f10, Wp_f11, Wp_f12, Wp_f13, Wp_f14, iw, Mk_ld hi, f3]
          rw [if_pos hw]
        · obtain ⟨m2, e2, q2⟩ := m_t0 (m := m1)
          have d6 := ((h2.q h3 (hq.tr q2)).2.2.2.2.2.1 i hi).1
          rw [hmk] at d6
          have f1 : pv_aI (hp m2) 3 190 (nI i) = some 0 := by rw [ld_190 hi, d6]; rfl
          refine ⟨m2, ?_, q2⟩
          rw [e_Md_mark, u_Md_mark_0, e2]
          simp only [tIs, tVs, bs, if_true, true_or, or_true, i10, if_false, not_false_eq_true, not_true_eq_false, Md_rc, Md_f1, Md_f4, Md_f5, Md_f6, Md_f9, Md_f10, Md_f11, Md_f12, Md_f14, Md_f15, Md_f18, Md_f19, Md_f20, Md_f21, Md_f23, Md_f24, Md_f25, Md_f26, Md_f28, im]
          rw [if_neg hw, f1]
          simp only [tIs, tVs, bs, if_true, true_or, or_true, i10, if_false, not_false_eq_true, not_true_eq_false, Md_rc, Md_f1, Md_f4, Md_f5, Md_f6, Md_f9, Md_f10, Md_f11, Md_f12, Md_f14, Md_f15, Md_f18, Md_f19, Md_f20, Md_f21, Md_f23, Md_f24, Md_f25, Md_f26, Md_f28, u_Md_mark_27]
      | some y =>
        obtain ⟨y0, y1, y2, y3⟩ : gI m (123 + 13 * i) 3 = 1 ∧ vw m (124 + 13 * i) = y.1 ∧ clS m (128 + 13 * i) y.2.1 ∧ clC m (132 + 13 * i) y.2.2 := by
          obtain ⟨z1, z2⟩ := h1.2.2.2.2.2.2.1 i hi
          rw [hmk] at z1
          exact ⟨z1, z2 y hmk⟩
        obtain ⟨w1, w2, w3⟩ := h3.2.2.2.2.2.2.2.1 i y hi hmk
        obtain ⟨m1, e1, v1, q1⟩ := s_copy (X := X) (m := m) (a := 35) (b := 124 + 13 * i) isSt_35 k4 (by omega)
        obtain ⟨m2, e2, q2, -, c2⟩ := w_clcopy (X := X) (m := m1) (C := y.2.1) isCl_109 k1 (by omega)
        obtain ⟨m3, e3, q3, c3, -⟩ := w_clcopy (X := X) (m := m2) (C := y.2.2) isCl_113 k2 (by omega)
        have q1' : Same [35, 36, 37, 38] m m1 := q1
        have q2' : Same [109, 110, 111, 112] m1 m2 := q2
        have q3' : Same [113, 114, 115, 116] m2 m3 := q3
        have q4 : Same [43] m3 (sI m3 43 2 0) := Same.sI (by decide)
        have p4 : pv_fp (hp m3) 43 3 2 (.int 0) = some (hp (sI m3 43 2 0)) := Hi_p2
        have g4 : gI (sI m3 43 2 0) 43 2 = 0 := gI_sI_eq
        have g4' : gI (sI m3 43 2 0) 43 1 = gI m3 43 1 := gI_sI_ne (Or.inr (by decide))
        generalize sI m3 43 2 0 = m4 at q4 p4 g4 g4'
        have z2 : clS m2 109 y.2.1 := c2 (y2.same q1' (by simp; omega) (by simp; omega) (by simp; omega) (by simp; omega))
        have z3 : clC m3 113 y.2.2 := c3 ((y3.same q1' (by simp; omega) (by simp; omega) (by simp; omega)).same q2' (by simp; omega) (by simp; omega) (by simp; omega))
        have q : Same [35, 36, 37, 38, 43, 109, 110, 111, 112, 113, 114, 115, 116] m m4 := (((q1'.mono (by decide)).tr (q2'.mono (by decide))).tr (q3'.mono (by decide))).tr (q4.mono (by decide))
        obtain ⟨c1, c2', c3', c4, c5, c6, c7, c8⟩ := h1
        obtain ⟨x, x1, x2, x3, x4⟩ := c6
        have CL : CLS m4 P a π y.1 b y.2.1 y.2.2 D [] mk tp nm := ⟨c1.same q (by decide), by rw [vw_same q4 (by decide), vw_same q3' (by decide), vw_same q2' (by decide), v1, y1], (z2.same q3' (by decide) (by decide) (by decide) (by decide)).same q4 (by decide) (by decide) (by decide) (by decide), z3.same q4 (by decide) (by decide) (by decide), c5.same q (by decide), ⟨x, x1, by rw [g4', q3'.I (by decide), q2'.I (by decide), q1'.I (by decide)]; exact x2, g4, fun j hj => absurd hj (by simp)⟩, c7.same q (by decide), c8.same q (by decide) (by decide)⟩
        have b4 := h2.same h3 q (by decide)
        have s5 : Same [175, 190] m4 (sA (sI m4 175 0 0) 190 (upd (gA m4 190) i 1)) := (Same.sI (by decide)).tr (Same.sA (by decide))
        have st : pv_sZ (hp (sI m4 175 0 0)) 190 (nI i) 1 = some (hp (sA (sI m4 175 0 0) 190 (upd (gA m4 190) i 1))) := st_190 hi
        have ld : pv_aI (hp (sI m4 175 0 0)) 3 190 (nI i) = some 1 := by
          have := (b4.2.2.2.2.2.1 i hi).1
          rw [hmk] at this
          rw [ld_190 hi, gA_sI, this]
          rfl
        have g5 : gA (sA (sI m4 175 0 0) 190 (upd (gA m4 190) i 1)) 190 = upd (gA m4 190) i 1 := by rw [gA_sA, if_pos rfl]
        have j5 : ∀ j, j ≠ 0 → gI (sA (sI m4 175 0 0) 190 (upd (gA m4 190) i 1)) 175 j = gI m4 175 j := fun j hj => by rw [gI_sA, gI_sI_ne (Or.inr hj)]
        generalize sA (sI m4 175 0 0) 190 (upd (gA m4 190) i 1) = m5 at s5 st g5 j5
        obtain ⟨m6, e6, q6, g6⟩ := m_copies (X := X) (m := m5) (f := 51 * (1 + i)) (g := 0) (n := 51) (vf := nI (51 * (1 + i))) (vg := 0) (vn := 51) rfl rfl rfl (by omega) (by omega) (by omega)
        have q7 : Same [175] m6 (sI m6 175 22 0) := Same.sI (by decide)
        have p7 : pv_fp (hp m6) 175 11 22 (.int 0) = some (hp (sI m6 175 22 0)) := Md_p22
        have j7 : ∀ j, j ≠ 22 → gI (sI m6 175 22 0) 175 j = gI m6 175 j := fun j hj => gI_sI_ne (Or.inr hj)
        have u7 : gI (sI m6 175 22 0) 175 22 = 0 := gI_sI_eq
        generalize sI m6 175 22 0 = m7 at q7 p7 j7 u7
        have s7 : Same [175, 189, 190] m4 m7 := ((s5.mono (by decide)).tr (q6.mono (by decide))).tr (q7.mono (by decide))
        have a7 : ∀ k, gA m7 189 k = if 0 ≤ k ∧ k < 0 + 51 then gA m4 189 (51 * (1 + i) + (k - 0)) else gA m4 189 k := fun k => by rw [q7.A (by decide), g6, s5.A (by decide)]
        have jj : ∀ j, j ≠ 0 → j ≠ 22 → gI m7 175 j = gI m4 175 j := fun j h0 h22 => by rw [j7 j h22, q6.I (by decide), j5 j h0]
        have m190 : gA m7 190 = gA m4 190 := by
          rw [q7.A (by decide), q6.A (by decide), g5]
          funext k
          by_cases hk : k = i
          · have := (b4.2.2.2.2.2.1 i hi).1
            rw [hmk] at this
            rw [hk, pk_us, this]
            rfl
          · rw [pk_un hk]
        obtain ⟨o1, o2, o3, o4, o5, o6, o7, o8, o9⟩ := h3.up hc
        obtain ⟨d1, d2, d3, d4, d5, d6, d7, d8⟩ := b4
        obtain ⟨dy1, dy2⟩ := (d6 i hi).2 y hmk
        refine ⟨1, m4, m7, ?_, ?_, k_inv (c := c) (CL.same s7 (by decide)) ⟨d1.same s7 (jj _ (by decide) (by decide)) (by decide), ?_, dClu_cp dy2 w2.1 w3.1 a7, d4.same (s7.A (by decide)), ⟨u7, fun j hj => absurd hj (by simp)⟩, d6.same o8 m190 (fun k _ _ => by rw [a7, if_neg (by omega)]), d7.same (jj _ (by decide) (by decide)) (s7.A (by decide)), d8.same (s7.Lr (by decide))⟩ ⟨o1, w1.up, o3, w2, w3, o6, ⟨by simp, fun x hx => absurd hx (by simp)⟩, o8, o9⟩ hg (by rw [s7.1, q.1]; exact hgg)⟩
        · have f3 : pv_fI (hp m) (123 + 13 * i) 4 3 = some 1 := by rw [hp_fI k3 rfl, y0]
          have f0 : ∀ m, pv_fR (hp m) (123 + 13 * i) 4 0 = some (124 + 13 * i) := fun m => hp_fR k3 rfl
          have f1 : ∀ m, pv_fR (hp m) (123 + 13 * i) 4 1 = some (128 + 13 * i) := fun m => hp_fR k3 rfl
          have f2 : ∀ m, pv_fR (hp m) (123 + 13 * i) 4 2 = some (132 + 13 * i) := fun m => hp_fR k3 rfl
          rw [e_Wp_mark, u_Wp_mark_0]
          simp only [tIs, tVs, bs, if_true, true_or, or_true, i10, if_false, not_false_eq_true, not_true_eq_false, Wp_rc, Wp_f5, Wp_f6, Wp_f7, Wp_f8, Wp_f9, Wp_f10, Wp_f11, Wp_f12, Wp_f13, Wp_f14, iw, Mk_ld hi, f3]
          rw [if_pos hw]
          simp only [tIs, tVs, bs, if_true, true_or, or_true, i10, if_false, not_false_eq_true, not_true_eq_false, Wp_rc, Wp_f5, Wp_f6, Wp_f7, Wp_f8, Wp_f9, Wp_f10, Wp_f11, Wp_f12, Wp_f13, Wp_f14, f0, f1, f2, St_rc isSt_35, e1, Cl_rc isCl_109, e2, Cl_rc isCl_113, e3, p4]
        · rw [e_Md_mark, u_Md_mark_0, Md_p0]
          simp only [tIs, tVs, bs, if_true, true_or, or_true, i10, if_false, not_false_eq_true, not_true_eq_false, Md_rc, Md_f1, Md_f4, Md_f5, Md_f6, Md_f9, Md_f10, Md_f11, Md_f12, Md_f14, Md_f15, Md_f18, Md_f19, Md_f20, Md_f21, Md_f23, Md_f24, Md_f25, Md_f26, Md_f28, im]
          rw [if_neg hw, ld]
          simp only [tIs, tVs, bs, if_true, true_or, or_true, i10, if_false, not_false_eq_true, not_true_eq_false, Md_rc, Md_f1, Md_f4, Md_f5, Md_f6, Md_f9, Md_f10, Md_f11, Md_f12, Md_f14, Md_f15, Md_f18, Md_f19, Md_f20, Md_f21, Md_f23, Md_f24, Md_f25, Md_f26, Md_f28, u_Md_mark_29, st]
          rw [if_neg hw, u_Md_mark_51, if_neg hw, u_Md_mark_65, e51]
          simp only [tIs, tVs, bs, if_true, true_or, or_true, i10, if_false, not_false_eq_true, not_true_eq_false, Md_rc, Md_f1, Md_f4, Md_f5, Md_f6, Md_f9, Md_f10, Md_f11, Md_f12, Md_f14, Md_f15, Md_f18, Md_f19, Md_f20, Md_f21, Md_f23, Md_f24, Md_f25, Md_f26, Md_f28, e6]
          rw [if_neg hw]
          simp only [u_Md_mark_83, p7, tIs, tVs, bs, if_true, true_or, or_true, i10, if_false, not_false_eq_true, not_true_eq_false, Md_rc, Md_f1, Md_f4, Md_f5, Md_f6, Md_f9, Md_f10, Md_f11, Md_f12, Md_f14, Md_f15, Md_f18, Md_f19, Md_f20, Md_f21, Md_f23, Md_f24, Md_f25, Md_f26, Md_f28]
        · rw [vm_copied (f := 51 * (1 + i)) (n := 51) (by decide) a7]; exact dy1
  · refine Ag.inv h hc (Ag.mk 0 ⟨m, ?_, Q.rf⟩ (fun m1 hq => ?_))
    · rw [e_Wp_mark, u_Wp_mark_0]
      simp only [tIs, tVs, bs, if_true, true_or, or_true, i10, if_false, not_false_eq_true, not_true_eq_false, Wp_rc, Wp_f5, Wp_f6, Wp_f7, Wp_f8, Wp_f9, Wp_f10, Wp_f11, Wp_f12, Wp_f13, Wp_f14, w_in0 hb]
    · obtain ⟨m2, e2, q2⟩ := m_t0 (m := m1)
      refine ⟨m2, ?_, q2⟩
      rw [e_Md_mark, u_Md_mark_0, e2]
      simp only [tIs, tVs, bs, if_true, true_or, or_true, i10, if_false, not_false_eq_true, not_true_eq_false, Md_rc, Md_f1, Md_f4, Md_f5, Md_f6, Md_f9, Md_f10, Md_f11, Md_f12, Md_f14, Md_f15, Md_f18, Md_f19, Md_f20, Md_f21, Md_f23, Md_f24, Md_f25, Md_f26, Md_f28, m_in0 hb, u_Md_mark_27]
end MRK
