/-! later, drift, train, missed, worst, ordered, middle, person. -/
section Q1
variable {m : pm_M} {X : pv_X} {P c : Nat} {π : aP} {s : aS}
theorem q_later (hC : HC m P π s) (hM : HM m π s c) (p v : Int32) : Ag X m_Wp_later m_Md_later [.int p, .int v] m := by
  have hn := hC.n6
  rcases prs p hn with ⟨k, hk, rfl⟩ | hb
  · rcases wthL v (L := 0) (U := 96) (l := 0) (u := 96) rfl rfl (by decide) (by decide) with ⟨q, h0, h1, rfl⟩ | hb
    · refine Ag.mk (aOut (pqn π q s) k) ?_ (fun m1 hq => ?_)
      · obtain ⟨m1, e1, q1, v1⟩ := w_outLater (X := X) hC (show k < 6 by omega) (show q < 2 ^ 31 by omega)
        refine ⟨m1, ?_, q1⟩
        rw [e_Wp_later, u_Wp_later_0]
        simp only [tIs, tVs, bs, if_true, true_or, or_true, i10, if_false, not_false_eq_true, not_true_eq_false, Wp_rc, Wp_f5, Wp_f6, Wp_f7, Wp_f8, Wp_f9, Wp_f10, Wp_f11, Wp_f12, Wp_f13, Wp_f14, w_isP1 hC hk, w_in1 (in_l (L := 0) rfl h0 (by omega)) (in_u (U := 96) rfl h1 (by decide)), e1]
      · obtain ⟨m2, e2, q2⟩ := m_t0 (m := m1)
        have hM2 := hM.q (hq.tr q2)
        obtain ⟨m3, e3, q3, v3⟩ := m_outBehind (X := X) (q := q) hM2 hk (by omega)
        refine ⟨m3, ?_, q2.tr q3⟩
        rw [e_Md_later, u_Md_later_0]
        simp only [tIs, tVs, bs, if_true, true_or, or_true, i10, if_false, not_false_eq_true, not_true_eq_false, Md_rc, Md_f1, Md_f4, Md_f5, Md_f6, Md_f9, Md_f10, Md_f11, Md_f12, Md_f14, Md_f15, Md_f18, Md_f19, Md_f20, Md_f21, Md_f23, Md_f24, Md_f25, Md_f26, Md_f28, e2, m_isP1 hM2.1 hk, m_in1 (in_l (L := 0) rfl h0 (by omega)) (in_u (U := 96) rfl h1 (by decide)), e3, u_Md_later_35]
    · refine Ag.mk (-1000) ⟨m, ?_, Q.rf⟩ (fun m1 hq => ?_)
      · rw [e_Wp_later, u_Wp_later_0]
        simp only [tIs, tVs, bs, if_true, true_or, or_true, i10, if_false, not_false_eq_true, not_true_eq_false, Wp_rc, Wp_f5, Wp_f6, Wp_f7, Wp_f8, Wp_f9, Wp_f10, Wp_f11, Wp_f12, Wp_f13, Wp_f14, w_isP1 hC hk, w_in0 hb, u_Wp_later_18]
      · obtain ⟨m2, e2, q2⟩ := m_t0 (m := m1)
        refine ⟨m2, ?_, q2⟩
        rw [e_Md_later, u_Md_later_0]
        simp only [tIs, tVs, bs, if_true, true_or, or_true, i10, if_false, not_false_eq_true, not_true_eq_false, Md_rc, Md_f1, Md_f4, Md_f5, Md_f6, Md_f9, Md_f10, Md_f11, Md_f12, Md_f14, Md_f15, Md_f18, Md_f19, Md_f20, Md_f21, Md_f23, Md_f24, Md_f25, Md_f26, Md_f28, e2, m_isP1 (hM.q (hq.tr q2)).1 hk, m_in0 hb, u_Md_later_32, u_Md_later_35]
  · refine Ag.mk (-1000) ⟨m, ?_, Q.rf⟩ (fun m1 hq => ?_)
    · rw [e_Wp_later, u_Wp_later_0]
      simp only [tIs, tVs, bs, if_true, true_or, or_true, i10, if_false, not_false_eq_true, not_true_eq_false, Wp_rc, Wp_f5, Wp_f6, Wp_f7, Wp_f8, Wp_f9, Wp_f10, Wp_f11, Wp_f12, Wp_f13, Wp_f14, w_isP0 hC hb, u_Wp_later_18]
    · obtain ⟨m2, e2, q2⟩ := m_t0 (m := m1)
      refine ⟨m2, ?_, q2⟩
      rw [e_Md_later, u_Md_later_0]
      simp only [tIs, tVs, bs, if_true, true_or, or_true, i10, if_false, not_false_eq_true, not_true_eq_false, Md_rc, Md_f1, Md_f4, Md_f5, Md_f6, Md_f9, Md_f10, Md_f11, Md_f12, Md_f14, Md_f15, Md_f18, Md_f19, Md_f20, Md_f21, Md_f23, Md_f24, Md_f25, Md_f26, Md_f28, e2, m_isP0 (hM.q (hq.tr q2)).1 hb, u_Md_later_32, u_Md_later_35]
theorem q_drift (hC : HC m P π s) (hM : HM m π s c) (p v : Int32) : Ag X m_Wp_drift m_Md_drift [.int p, .int v] m := by
  have hn := hC.n6
  have hc := hM.2.2.2
  rcases prs p hn with ⟨k, hk, rfl⟩ | hb
  · rcases wthL v (L := 1) (U := 96) (l := 1) (u := 96) rfl rfl (by decide) (by decide) with ⟨q, h0, h1, rfl⟩ | hb
    · refine Ag.mk (ab (aOut (pqn π q s) k) - ab (aOut s k)) ?_ (fun m1 hq => ?_)
      · obtain ⟨m1, e1, q1, v1⟩ := w_outLater (X := X) hC (show k < 6 by omega) (show q < 2 ^ 31 by omega)
        refine ⟨m1, ?_, q1⟩
        rw [e_Wp_drift, u_Wp_drift_0]
        simp only [tIs, tVs, bs, if_true, true_or, or_true, i10, if_false, not_false_eq_true, not_true_eq_false, Wp_rc, Wp_f5, Wp_f6, Wp_f7, Wp_f8, Wp_f9, Wp_f10, Wp_f11, Wp_f12, Wp_f13, Wp_f14, w_isP1 hC hk, w_in1 (in_l (L := 1) rfl h0 (by omega)) (in_u (U := 96) rfl h1 (by decide)), e1, c_abs, vw_far isSt_35 (show k < 6 by omega) (hC.q q1).2.2.2.2]
      · obtain ⟨m2, e2, q2⟩ := m_t0 (m := m1)
        have hM2 := hM.q (hq.tr q2)
        obtain ⟨m3, e3, q3, v3⟩ := m_outBehind (X := X) (q := q) hM2 hk (by omega)
        refine ⟨m3, ?_, q2.tr q3⟩
        rw [e_Md_drift, u_Md_drift_0]
        simp only [tIs, tVs, bs, if_true, true_or, or_true, i10, if_false, not_false_eq_true, not_true_eq_false, Md_rc, Md_f1, Md_f4, Md_f5, Md_f6, Md_f9, Md_f10, Md_f11, Md_f12, Md_f14, Md_f15, Md_f18, Md_f19, Md_f20, Md_f21, Md_f23, Md_f24, Md_f25, Md_f26, Md_f28, e2, m_isP1 hM2.1 hk, m_in1 (in_l (L := 1) rfl h0 (by omega)) (in_u (U := 96) rfl h1 (by decide)), e3, d_unsigned, m_out (B := 0) (hM2.q q3).1 (hM2.q q3).2.1 hM.2.2.1 rfl (by decide) (by omega) hk, u_Md_drift_48]
    · refine Ag.mk (-1000) ⟨m, ?_, Q.rf⟩ (fun m1 hq => ?_)
      · rw [e_Wp_drift, u_Wp_drift_0]
        simp only [tIs, tVs, bs, if_true, true_or, or_true, i10, if_false, not_false_eq_true, not_true_eq_false, Wp_rc, Wp_f5, Wp_f6, Wp_f7, Wp_f8, Wp_f9, Wp_f10, Wp_f11, Wp_f12, Wp_f13, Wp_f14, w_isP1 hC hk, w_in0 hb, u_Wp_drift_18]
      · obtain ⟨m2, e2, q2⟩ := m_t0 (m := m1)
        refine ⟨m2, ?_, q2⟩
        rw [e_Md_drift, u_Md_drift_0]
        simp only [tIs, tVs, bs, if_true, true_or, or_true, i10, if_false, not_false_eq_true, not_true_eq_false, Md_rc, Md_f1, Md_f4, Md_f5, Md_f6, Md_f9, Md_f10, Md_f11, Md_f12, Md_f14, Md_f15, Md_f18, Md_f19, Md_f20, Md_f21, Md_f23, Md_f24, Md_f25, Md_f26, Md_f28, e2, m_isP1 (hM.q (hq.tr q2)).1 hk, m_in0 hb, u_Md_drift_45, u_Md_drift_48]
  · refine Ag.mk (-1000) ⟨m, ?_, Q.rf⟩ (fun m1 hq => ?_)
    · rw [e_Wp_drift, u_Wp_drift_0]
      simp only [tIs, tVs, bs, if_true, true_or, or_true, i10, if_false, not_false_eq_true, not_true_eq_false, Wp_rc, Wp_f5, Wp_f6, Wp_f7, Wp_f8, Wp_f9, Wp_f10, Wp_f11, Wp_f12, Wp_f13, Wp_f14, w_isP0 hC hb, u_Wp_drift_18]
    · obtain ⟨m2, e2, q2⟩ := m_t0 (m := m1)
      refine ⟨m2, ?_, q2⟩
      rw [e_Md_drift, u_Md_drift_0]
      simp only [tIs, tVs, bs, if_true, true_or, or_true, i10, if_false, not_false_eq_true, not_true_eq_false, Md_rc, Md_f1, Md_f4, Md_f5, Md_f6, Md_f9, Md_f10, Md_f11, Md_f12, Md_f14, Md_f15, Md_f18, Md_f19, Md_f20, Md_f21, Md_f23, Md_f24, Md_f25, Md_f26, Md_f28, e2, m_isP0 (hM.q (hq.tr q2)).1 hb, u_Md_drift_45, u_Md_drift_48]
theorem mx_0 (v : Int32) (h : -1000 < v.toInt) (h' : v.toInt < 1000) : mx 0 (-v) = if 0 ≤ v then 0 else -v := by
  unfold mx
  by_cases h0 : 0 ≤ v
  · rw [if_pos h0, if_neg]
    rw [Int32.lt_iff_toInt_lt, Int32.toInt_neg, Int.bmod_eq_of_le (by omega) (by omega)]
    rw [Int32.le_iff_toInt_le] at h0
    simp at h0 ⊢
    exact h0
  · rw [if_neg h0, if_pos]
    rw [Int32.lt_iff_toInt_lt, Int32.toInt_neg, Int.bmod_eq_of_le (by omega) (by omega)]
    rw [Int32.le_iff_toInt_le] at h0
    simp at h0 ⊢
    exact h0
theorem out_rng {n : Nat} (ok : okS n c s) (hc : c ≤ 1000000) {k : Nat} (hk : k < n) : -360 ≤ (aOut s k).toInt ∧ (aOut s k).toInt ≤ 359 := by
  obtain ⟨t, ht, et⟩ := ok.1 k hk
  obtain ⟨q, hq, eq⟩ := ok.2.2
  unfold aOut
  rw [et, eq, tt_nI (by omega)]
  exact oc_rng ht (Nat.mod_lt _ (by decide))
theorem q_train (hC : HC m P π s) (hM : HM m π s c) (p v : Int32) : Ag X m_Wp_train m_Md_train [.int p, .int v] m := by
  have hn := hC.n6
  have hc := hM.2.2.2
  rcases prs p hn with ⟨k, hk, rfl⟩ | hb
  · rcases wthL v (L := 1) (U := 96) (l := 1) (u := 96) rfl rfl (by decide) (by decide) with ⟨q, h0, h1, rfl⟩ | hb
    · refine Ag.mk (mx 0 (-aOut (pqn π q s) k)) ?_ (fun m1 hq => ?_)
      · obtain ⟨m1, e1, q1, v1⟩ := w_outLater (X := X) hC (show k < 6 by omega) (show q < 2 ^ 31 by omega)
        refine ⟨m1, ?_, q1⟩
        rw [e_Wp_train, u_Wp_train_0]
        simp only [tIs, tVs, bs, if_true, true_or, or_true, i10, if_false, not_false_eq_true, not_true_eq_false, Wp_rc, Wp_f5, Wp_f6, Wp_f7, Wp_f8, Wp_f9, Wp_f10, Wp_f11, Wp_f12, Wp_f13, Wp_f14, w_isP1 hC hk, w_in1 (in_l (L := 1) rfl h0 (by omega)) (in_u (U := 96) rfl h1 (by decide)), e1, c_max]
      · obtain ⟨m2, e2, q2⟩ := m_t0 (m := m1)
        have hM2 := hM.q (hq.tr q2)
        obtain ⟨m3, e3, q3, v3⟩ := m_outBehind (X := X) (q := q) hM2 hk (by omega)
        refine ⟨m3, ?_, q2.tr q3⟩
        have hr := out_rng (pqn_ok (RM_okA hM.1) q s hM.2.2.1) (by omega) hk
        rw [e_Md_train, u_Md_train_0, mx_0 _ (by omega) (by omega)]
        simp only [tIs, tVs, bs, if_true, true_or, or_true, i10, if_false, not_false_eq_true, not_true_eq_false, Md_rc, Md_f1, Md_f4, Md_f5, Md_f6, Md_f9, Md_f10, Md_f11, Md_f12, Md_f14, Md_f15, Md_f18, Md_f19, Md_f20, Md_f21, Md_f23, Md_f24, Md_f25, Md_f26, Md_f28, e2, m_isP1 hM2.1 hk, m_in1 (in_l (L := 1) rfl h0 (by omega)) (in_u (U := 96) rfl h1 (by decide)), e3, u_Md_train_42]
        split <;> rfl
    · refine Ag.mk (-1) ⟨m, ?_, Q.rf⟩ (fun m1 hq => ?_)
      · rw [e_Wp_train, u_Wp_train_0]
        simp only [tIs, tVs, bs, if_true, true_or, or_true, i10, if_false, not_false_eq_true, not_true_eq_false, Wp_rc, Wp_f5, Wp_f6, Wp_f7, Wp_f8, Wp_f9, Wp_f10, Wp_f11, Wp_f12, Wp_f13, Wp_f14, w_isP1 hC hk, w_in0 hb, u_Wp_train_18]
      · obtain ⟨m2, e2, q2⟩ := m_t0 (m := m1)
        refine ⟨m2, ?_, q2⟩
        rw [e_Md_train, u_Md_train_0]
        simp only [tIs, tVs, bs, if_true, true_or, or_true, i10, if_false, not_false_eq_true, not_true_eq_false, Md_rc, Md_f1, Md_f4, Md_f5, Md_f6, Md_f9, Md_f10, Md_f11, Md_f12, Md_f14, Md_f15, Md_f18, Md_f19, Md_f20, Md_f21, Md_f23, Md_f24, Md_f25, Md_f26, Md_f28, e2, m_isP1 (hM.q (hq.tr q2)).1 hk, m_in0 hb, u_Md_train_23]
  · refine Ag.mk (-1) ⟨m, ?_, Q.rf⟩ (fun m1 hq => ?_)
    · rw [e_Wp_train, u_Wp_train_0]
      simp only [tIs, tVs, bs, if_true, true_or, or_true, i10, if_false, not_false_eq_true, not_true_eq_false, Wp_rc, Wp_f5, Wp_f6, Wp_f7, Wp_f8, Wp_f9, Wp_f10, Wp_f11, Wp_f12, Wp_f13, Wp_f14, w_isP0 hC hb, u_Wp_train_18]
    · obtain ⟨m2, e2, q2⟩ := m_t0 (m := m1)
      refine ⟨m2, ?_, q2⟩
      rw [e_Md_train, u_Md_train_0]
      simp only [tIs, tVs, bs, if_true, true_or, or_true, i10, if_false, not_false_eq_true, not_true_eq_false, Md_rc, Md_f1, Md_f4, Md_f5, Md_f6, Md_f9, Md_f10, Md_f11, Md_f12, Md_f14, Md_f15, Md_f18, Md_f19, Md_f20, Md_f21, Md_f23, Md_f24, Md_f25, Md_f26, Md_f28, e2, m_isP0 (hM.q (hq.tr q2)).1 hb, u_Md_train_23]
/-- bits of those of whom c holds -/
def bts (n : Nat) (c : Nat → Bool) : Int32 := fr (fun i v => if c i then v ||| ((1 : Int32) <<< (nI i &&& 31)) else v) n 0 0
theorem q_missed (hC : HC m P π s) (hM : HM m π s c) (v : Int32) : Ag X m_Wp_missed m_Md_missed [.int v] m := by
  have hn := hC.n6
  have hc := hM.2.2.2
  rcases wthL v (L := 1) (U := 96) (l := 1) (u := 96) rfl rfl (by decide) (by decide) with ⟨q, h0, h1, rfl⟩ | hb
  · refine Ag.mk (bts π.1 (fun i => decide (aOut (pqn π q s) i < 0))) ?_ (fun m1 hq => ?_)
    · obtain ⟨m1, e1, q1, v1⟩ := w_copy (X := X) hC
      obtain ⟨m2, e2, q2, v2⟩ := w_passQs (X := X) (q := q) (hC.q q1) v1 (by omega)
      refine ⟨m2, ?_, q1.tr q2⟩
      have hC2 := hC.q (q1.tr q2)
      rw [e_Wp_missed, u_Wp_missed_0]
      simp only [tIs, tVs, bs, if_true, true_or, or_true, i10, if_false, not_false_eq_true, not_true_eq_false, Wp_rc, Wp_f5, Wp_f6, Wp_f7, Wp_f8, Wp_f9, Wp_f10, Wp_f11, Wp_f12, Wp_f13, Wp_f14, w_in1 (in_l (L := 1) rfl h0 (by omega)) (in_u (U := 96) rfl h1 (by decide)), St_rc isSt_39, e1, e2]
      have := lp0 (n := π.1) (F := fun (b : Int32) i => f_Wp_missed_32 X 0 (nI q) b (nI i) (hp m2)) (g := fun i v => if decide (aOut (pqn π q s) i < 0) then v ||| ((1 : Int32) <<< (nI i &&& 31)) else v) (fun b i hi => by
        rw [u_Wp_missed_32]
        simp only [tIs, tVs, bs, if_true, true_or, or_true, i10, if_false, not_false_eq_true, not_true_eq_false, Wp_rc, Wp_f5, Wp_f6, Wp_f7, Wp_f8, Wp_f9, Wp_f10, Wp_f11, Wp_f12, Wp_f13, Wp_f14, hC2.f1, hC2.sz]
        rw [if_neg (nI_ge hi (by omega))]
        simp only [tIs, tVs, bs, if_true, true_or, or_true, i10, if_false, not_false_eq_true, not_true_eq_false, Wp_rc, Wp_f5, Wp_f6, Wp_f7, Wp_f8, Wp_f9, Wp_f10, Wp_f11, Wp_f12, Wp_f13, Wp_f14, St_rc isSt_39, vw_out isSt_39 (show i < 6 by omega) v2, u_Wp_missed_60, nI_1, decide_eq_true_eq]
        by_cases hz : aOut (pqn π q s) i < 0
        · rw [if_neg (by simpa using hz), if_pos hz]
        · rw [if_pos (by simpa using hz), if_neg hz]) π.1 0 0 (by omega)
      rw [show f_Wp_missed_32 X 0 (nI q) 0 0 (hp m2) = f_Wp_missed_32 X 0 (nI q) 0 (nI 0) (hp m2) from rfl, this, u_Wp_missed_32]
      simp only [tIs, tVs, bs, if_true, true_or, or_true, i10, if_false, not_false_eq_true, not_true_eq_false, Wp_rc, Wp_f5, Wp_f6, Wp_f7, Wp_f8, Wp_f9, Wp_f10, Wp_f11, Wp_f12, Wp_f13, Wp_f14, hC2.f1, hC2.sz]
      rw [if_pos (nI_le (Nat.le_refl _) (by omega))]
      rfl
    · obtain ⟨m2, e2, q2⟩ := m_t0 (m := m1)
      have hM2 := hM.q (hq.tr q2)
      obtain ⟨m3, e3, q3, v3⟩ := m_tries (X := X) hM2
      obtain ⟨m4, e4, q4, v4⟩ := m_runs (X := X) (q := q) (hM2.q q3).1 v3 hM.2.2.1 (by omega)
      refine ⟨m4, ?_, q2.tr (q3.tr q4)⟩
      have hM4 := hM2.q (q3.tr q4)
      rw [e_Md_missed, u_Md_missed_0]
      simp only [tIs, tVs, bs, if_true, true_or, or_true, i10, if_false, not_false_eq_true, not_true_eq_false, Md_rc, Md_f1, Md_f4, Md_f5, Md_f6, Md_f9, Md_f10, Md_f11, Md_f12, Md_f14, Md_f15, Md_f18, Md_f19, Md_f20, Md_f21, Md_f23, Md_f24, Md_f25, Md_f26, Md_f28, e2, m_in1 (in_l (L := 1) rfl h0 (by omega)) (in_u (U := 96) rfl h1 (by decide)), e3, e4]
      have := lp0 (n := π.1) (F := fun (b : Int32) i => f_Md_missed_30 X 175 (nI q) b (nI i) (hp m4)) (g := fun i v => if decide (aOut (pqn π q s) i < 0) then v ||| ((1 : Int32) <<< (nI i &&& 31)) else v) (fun b i hi => by
        rw [u_Md_missed_30]
        simp only [tIs, tVs, bs, if_true, true_or, or_true, i10, if_false, not_false_eq_true, not_true_eq_false, Md_rc, Md_f1, Md_f4, Md_f5, Md_f6, Md_f9, Md_f10, Md_f11, Md_f12, Md_f14, Md_f15, Md_f18, Md_f19, Md_f20, Md_f21, Md_f23, Md_f24, Md_f25, Md_f26, Md_f28, m_n hM4.1]
        rw [if_neg (nI_ge hi (by omega))]
        simp only [tIs, tVs, bs, if_true, true_or, or_true, i10, if_false, not_false_eq_true, not_true_eq_false, Md_rc, Md_f1, Md_f4, Md_f5, Md_f6, Md_f9, Md_f10, Md_f11, Md_f12, Md_f14, Md_f15, Md_f18, Md_f19, Md_f20, Md_f21, Md_f23, Md_f24, Md_f25, Md_f26, Md_f28, m_out (B := 1071) hM4.1 v4 (pqn_ok (RM_okA hM.1) q s hM.2.2.1) rfl (by decide) (by omega) hi, u_Md_missed_57, nI_1, decide_eq_true_eq]
        by_cases hz : aOut (pqn π q s) i < 0
        · rw [if_neg (by simpa using hz), if_pos hz]
        · rw [if_pos (by simpa using hz), if_neg hz, Int32.or_zero]) π.1 0 0 (by omega)
      rw [show f_Md_missed_30 X 175 (nI q) 0 0 (hp m4) = f_Md_missed_30 X 175 (nI q) 0 (nI 0) (hp m4) from rfl, this, u_Md_missed_30]
      simp only [tIs, tVs, bs, if_true, true_or, or_true, i10, if_false, not_false_eq_true, not_true_eq_false, Md_rc, Md_f1, Md_f4, Md_f5, Md_f6, Md_f9, Md_f10, Md_f11, Md_f12, Md_f14, Md_f15, Md_f18, Md_f19, Md_f20, Md_f21, Md_f23, Md_f24, Md_f25, Md_f26, Md_f28, m_n hM4.1]
      rw [if_pos (nI_le (Nat.le_refl _) (by omega))]
      rfl
  · refine Ag.mk (-1) ⟨m, ?_, Q.rf⟩ (fun m1 hq => ?_)
    · rw [e_Wp_missed, u_Wp_missed_0]
      simp only [tIs, tVs, bs, if_true, true_or, or_true, i10, if_false, not_false_eq_true, not_true_eq_false, Wp_rc, Wp_f5, Wp_f6, Wp_f7, Wp_f8, Wp_f9, Wp_f10, Wp_f11, Wp_f12, Wp_f13, Wp_f14, w_in0 hb]
    · obtain ⟨m2, e2, q2⟩ := m_t0 (m := m1)
      refine ⟨m2, ?_, q2⟩
      rw [e_Md_missed, u_Md_missed_0]
      simp only [tIs, tVs, bs, if_true, true_or, or_true, i10, if_false, not_false_eq_true, not_true_eq_false, Md_rc, Md_f1, Md_f4, Md_f5, Md_f6, Md_f9, Md_f10, Md_f11, Md_f12, Md_f14, Md_f15, Md_f18, Md_f19, Md_f20, Md_f21, Md_f23, Md_f24, Md_f25, Md_f26, Md_f28, e2, m_in0 hb]
end Q1
