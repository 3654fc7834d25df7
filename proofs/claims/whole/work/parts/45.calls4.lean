/-! meet, right, noon, first, passes, teacher, steady. -/
/-- the first of the QUARTERS to come at which c holds -/
def fq (π : aP) (c : aS → Bool) : Nat → Nat → aS → Option Nat
  | 0, _, _ => none
  | d + 1, i, t => if c t then some i else fq π c d (i + 1) (aPQ π t).1
theorem fq_rng {π : aP} {c : aS → Bool} : ∀ (d i : Nat) (t : aS) (q : Nat), fq π c d i t = some q → i ≤ q ∧ q < i + d
  | 0, _, _, _, h => by simp only [fq] at h; cases h
  | d + 1, i, t, q, h => by
    simp only [fq] at h
    split at h
    · cases h; omega
    · have := fq_rng d (i + 1) _ q h; omega
theorem fx_fq {π : aP} {c : aS → Bool} : ∀ (d i : Nat) (t : aS), fx (fun i t => if c t then some (nI i) else none) (fun _ t => (aPQ π t).1) (fun _ => (-1 : Int32)) d i t = enc (fq π c d i t)
  | 0, _, _ => by simp only [fx, fq, enc]
  | d + 1, i, t => by
    simp only [fx, fq]
    by_cases h : c t
    · rw [if_pos h]; simp only [h, if_true, enc]
    · rw [if_neg h]
      simp only [Bool.not_eq_true] at h
      simp only [h]
      exact fx_fq d (i + 1) _
section Q4
variable {m : pm_M} {X : pv_X} {P c : Nat} {π : aP} {s : aS}
theorem q_meet (hC : HC m P π s) (hM : HM m π s c) (p p' : Int32) : Ag X m_Wp_meet m_Md_meet [.int p, .int p'] m := by
  have hn := hC.n6
  have hc := hM.2.2.2
  by_cases hg : ∃ k o, k < π.1 ∧ o < π.1 ∧ k ≠ o ∧ p = nI k ∧ p' = nI o
  · obtain ⟨k, o, hk, ho, hko, rfl, rfl⟩ := hg
    refine Ag.mk (fx (fun i (t : aS) => if decide (t.1 k = t.1 o) then some (nI i) else none) (fun _ t => (aPQ π t).1) (fun _ => (-1 : Int32)) 97 0 s) ?_ (fun m1 hq => ?_)
    · obtain ⟨m1, e1, q1, v1⟩ := w_copy (X := X) hC
      unfold Gi
      rw [e_Wp_meet, u_Wp_meet_0]
      simp only [tIs, tVs, bs, if_true, true_or, or_true, i10, if_false, not_false_eq_true, not_true_eq_false, Wp_rc, Wp_f5, Wp_f6, Wp_f7, Wp_f8, Wp_f9, Wp_f10, Wp_f11, Wp_f12, Wp_f13, Wp_f14, w_two1 hC hk ho hko, St_rc isSt_39, e1]
      refine lgx (n := 97) (F := fun (_ : Unit) (t : aS) i m => f_Wp_meet_24 X 0 (nI k) (nI o) (nI i) (hp m)) (R := fun _ t m' => Q m m' ∧ vw m' 39 = t) (Z := Q m) (c := fun i (t : aS) => if decide (t.1 k = t.1 o) then some (nI i) else none) (fun _ t i m2 hi hr => ?_) (fun _ t m2 hr => ⟨m2, ?_, hr.1⟩) 97 0 () s m1 (by omega) ⟨q1, v1⟩
      · have hC2 := hC.q hr.1
        have e : f_Wp_meet_24 X 0 (nI k) (nI o) (nI i) (hp m2) = if ¬ t.1 k = t.1 o then (pv_tI (pM X m_Po_passQuarter [.ref P, .ref 39] (hp m2))).bind (fun q9 => f_Wp_meet_24 X 0 (nI k) (nI o) (nI (i + 1)) q9.2) else some (some (.int (nI i)), hp m2) := by
          rw [u_Wp_meet_24, if_neg (in_u (U := 96) rfl (show i ≤ 96 by omega) (by decide))]
          simp only [tIs, tVs, bs, if_true, true_or, or_true, i10, if_false, not_false_eq_true, not_true_eq_false, Wp_rc, Wp_f5, Wp_f6, Wp_f7, Wp_f8, Wp_f9, Wp_f10, Wp_f11, Wp_f12, Wp_f13, Wp_f14, St_f0 isSt_39, vw_a1 isSt_39 (show k < 6 by omega) hr.2, vw_a1 isSt_39 (show o < 6 by omega) hr.2, hC2.f1, hC2.rc, nI_1]
        by_cases h : t.1 k = t.1 o
        · exact Or.inl ⟨nI i, m2, by rw [if_pos (by simpa using h)], by rw [e, if_neg (fun z => z h)], hr.1⟩
        · obtain ⟨m3, e3, q3, v3⟩ := w_pass (X := X) hC2 hr.2
          refine Or.inr ⟨by rw [if_neg (by simpa using h)], (), m3, ?_, hr.1.tr q3, v3⟩
          rw [e, if_pos h, e3]
          simp only [tIs, tVs, bs, if_true, true_or, or_true, i10, if_false, not_false_eq_true, not_true_eq_false]
      · rw [u_Wp_meet_24, if_pos (by decide)]
    · obtain ⟨m2, e2, q2⟩ := m_t0 (m := m1)
      have hM2 := hM.q (hq.tr q2)
      obtain ⟨m3, e3, q3, v3⟩ := m_tries (X := X) hM2
      unfold Gi
      rw [e_Md_meet, u_Md_meet_0, e2]
      simp only [tIs, tVs, bs, if_true, true_or, or_true, i10, if_false, not_false_eq_true, not_true_eq_false, Md_rc, Md_f1, Md_f4, Md_f5, Md_f6, Md_f9, Md_f10, Md_f11, Md_f12, Md_f14, Md_f15, Md_f18, Md_f19, Md_f20, Md_f21, Md_f23, Md_f24, Md_f25, Md_f26, Md_f28, e3]
      refine lgx (n := 97) (F := fun (_ : Unit) (t : aS) i m => f_Md_meet_11 X 175 (nI k) (nI o) (nI i) (hp m)) (R := fun i t m' => Q m1 m' ∧ vm m' 1071 = t ∧ okS π.1 (c + i) t) (Z := Q m1) (c := fun i (t : aS) => if decide (t.1 k = t.1 o) then some (nI i) else none) (fun _ t i m4 hi hr => ?_) (fun _ t m4 hr => ⟨m4, ?_, hr.1⟩) 97 0 () s m3 (by omega) ⟨q2.tr q3, v3, hM.2.2.1⟩
      · have hR := ((hM.q hq).q hr.1).1
        have e : f_Md_meet_11 X 175 (nI k) (nI o) (nI i) (hp m4) = if ¬ t.1 k = t.1 o then (pv_tV (pM X m_Md_passes_1 [.ref 175, .int 1071] (hp m4))).bind (fun h7 => f_Md_meet_11 X 175 (nI k) (nI o) (nI (i + 1)) h7) else some (some (.int (nI i)), hp m4) := by
          rw [u_Md_meet_11, if_neg (in_u (U := 96) rfl (show i ≤ 96 by omega) (by decide))]
          simp only [tIs, tVs, bs, if_true, true_or, or_true, i10, if_false, not_false_eq_true, not_true_eq_false, Md_rc, Md_f1, Md_f4, Md_f5, Md_f6, Md_f9, Md_f10, Md_f11, Md_f12, Md_f14, Md_f15, Md_f18, Md_f19, Md_f20, Md_f21, Md_f23, Md_f24, Md_f25, Md_f26, Md_f28, m_isP1 hR hk, m_isP1 hR ho]
          rw [if_neg (by rw [nI_eq (by omega) (by omega)]; exact hko)]
          simp only [tIs, tVs, bs, if_true, true_or, or_true, i10, if_false, not_false_eq_true, not_true_eq_false, Md_rc, Md_f1, Md_f4, Md_f5, Md_f6, Md_f9, Md_f10, Md_f11, Md_f12, Md_f14, Md_f15, Md_f18, Md_f19, Md_f20, Md_f21, Md_f23, Md_f24, Md_f25, Md_f26, Md_f28, vm_a7 (B := 1078 + nI k) hr.2.1 (show k < 6 by omega) (by decide) (by rw [show (1078 : Int32) = nI 1078 from rfl, nI_add]), vm_a7 (B := 1078 + nI o) hr.2.1 (show o < 6 by omega) (by decide) (by rw [show (1078 : Int32) = nI 1078 from rfl, nI_add]), nI_1]
        by_cases h : t.1 k = t.1 o
        · exact Or.inl ⟨nI i, m4, by rw [if_pos (by simpa using h)], by rw [e, if_neg (fun z => z h)], hr.1⟩
        · obtain ⟨m5, e5, q5, v5⟩ := m_pass (X := X) (B := 1071) hR hr.2.1 hr.2.2 rfl (by decide) (by decide) (by omega)
          refine Or.inr ⟨by rw [if_neg (by simpa using h)], (), m5, ?_, hr.1.tr q5, v5, okS_aPQ (RM_okA hR) hr.2.2⟩
          rw [e, if_pos h, e5]
          simp only [tIs, tVs, bs, if_true, true_or, or_true, i10, if_false, not_false_eq_true, not_true_eq_false]
      · rw [u_Md_meet_11, if_pos (by decide), u_Md_meet_76]
  · have hb : (p < 0 ∨ nI π.1 ≤ p) ∨ (p' < 0 ∨ nI π.1 ≤ p') ∨ p = p' := by
      rcases prs p hn with ⟨k, hk, rfl⟩ | h
      · rcases prs p' hn with ⟨o, ho, rfl⟩ | h
        · by_cases h : k = o
          · exact Or.inr (Or.inr (by rw [h]))
          · exact absurd ⟨k, o, hk, ho, h, rfl, rfl⟩ hg
        · exact Or.inr (Or.inl h)
      · exact Or.inl h
    refine Ag.mk (-1) ⟨m, ?_, Q.rf⟩ (fun m1 hq => ?_)
    · rw [e_Wp_meet, u_Wp_meet_0]
      simp only [tIs, tVs, bs, if_true, true_or, or_true, i10, if_false, not_false_eq_true, not_true_eq_false, Wp_rc, Wp_f5, Wp_f6, Wp_f7, Wp_f8, Wp_f9, Wp_f10, Wp_f11, Wp_f12, Wp_f13, Wp_f14, w_two0 hC hb]
    · obtain ⟨m2, e2, q2⟩ := m_t0 (m := m1)
      have hM2 := hM.q (hq.tr q2)
      obtain ⟨m3, e3, q3, v3⟩ := m_tries (X := X) hM2
      refine ⟨m3, ?_, q2.tr q3⟩
      have hR := (hM2.q q3).1
      rw [e_Md_meet, u_Md_meet_0, e2]
      simp only [tIs, tVs, bs, if_true, true_or, or_true, i10, if_false, not_false_eq_true, not_true_eq_false, Md_rc, Md_f1, Md_f4, Md_f5, Md_f6, Md_f9, Md_f10, Md_f11, Md_f12, Md_f14, Md_f15, Md_f18, Md_f19, Md_f20, Md_f21, Md_f23, Md_f24, Md_f25, Md_f26, Md_f28, e3]
      rw [u_Md_meet_11, if_neg (by decide)]
      simp only [tIs, tVs, bs, if_true, true_or, or_true, i10, if_false, not_false_eq_true, not_true_eq_false, Md_rc, Md_f1, Md_f4, Md_f5, Md_f6, Md_f9, Md_f10, Md_f11, Md_f12, Md_f14, Md_f15, Md_f18, Md_f19, Md_f20, Md_f21, Md_f23, Md_f24, Md_f25, Md_f26, Md_f28]
      rcases prs p hn with ⟨k, hk, rfl⟩ | h
      · simp only [tIs, tVs, bs, if_true, true_or, or_true, i10, if_false, not_false_eq_true, not_true_eq_false, Md_rc, Md_f1, Md_f4, Md_f5, Md_f6, Md_f9, Md_f10, Md_f11, Md_f12, Md_f14, Md_f15, Md_f18, Md_f19, Md_f20, Md_f21, Md_f23, Md_f24, Md_f25, Md_f26, Md_f28, m_isP1 hR hk]
        rcases prs p' hn with ⟨o, ho, rfl⟩ | h
        · simp only [tIs, tVs, bs, if_true, true_or, or_true, i10, if_false, not_false_eq_true, not_true_eq_false, Md_rc, Md_f1, Md_f4, Md_f5, Md_f6, Md_f9, Md_f10, Md_f11, Md_f12, Md_f14, Md_f15, Md_f18, Md_f19, Md_f20, Md_f21, Md_f23, Md_f24, Md_f25, Md_f26, Md_f28, m_isP1 hR ho]
          have : k = o := by
            by_cases h : k = o
            · exact h
            · exact absurd ⟨k, o, hk, ho, h, rfl, rfl⟩ hg
          rw [if_pos (by rw [this]), u_Md_meet_76]
        · simp only [tIs, tVs, bs, if_true, true_or, or_true, i10, if_false, not_false_eq_true, not_true_eq_false, Md_rc, Md_f1, Md_f4, Md_f5, Md_f6, Md_f9, Md_f10, Md_f11, Md_f12, Md_f14, Md_f15, Md_f18, Md_f19, Md_f20, Md_f21, Md_f23, Md_f24, Md_f25, Md_f26, Md_f28, m_isP0 hR h, u_Md_meet_76]
      · simp only [tIs, tVs, bs, if_true, true_or, or_true, i10, if_false, not_false_eq_true, not_true_eq_false, Md_rc, Md_f1, Md_f4, Md_f5, Md_f6, Md_f9, Md_f10, Md_f11, Md_f12, Md_f14, Md_f15, Md_f18, Md_f19, Md_f20, Md_f21, Md_f23, Md_f24, Md_f25, Md_f26, Md_f28, m_isP0 hR h, u_Md_meet_76]
theorem q_right (hC : HC m P π s) (hM : HM m π s c) (p : Int32) : Ag X m_Wp_right m_Md_right [.int p] m := by
  have hn := hC.n6
  have hc := hM.2.2.2
  rcases prs p hn with ⟨k, hk, rfl⟩ | hb
  · refine Ag.mk (fx (fun i (t : aS) => if decide (aOut t k = 0) then some (nI i) else none) (fun _ t => (aPQ π t).1) (fun _ => (-1 : Int32)) 97 0 s) ?_ (fun m1 hq => ?_)
    · obtain ⟨m1, e1, q1, v1⟩ := w_copy (X := X) hC
      unfold Gi
      rw [e_Wp_right, u_Wp_right_0]
      simp only [tIs, tVs, bs, if_true, true_or, or_true, i10, if_false, not_false_eq_true, not_true_eq_false, Wp_rc, Wp_f5, Wp_f6, Wp_f7, Wp_f8, Wp_f9, Wp_f10, Wp_f11, Wp_f12, Wp_f13, Wp_f14, w_isP1 hC hk, St_rc isSt_39, e1]
      refine lgx (n := 97) (F := fun (_ : Unit) (t : aS) i m => f_Wp_right_23 X 0 (nI k) (nI i) (hp m)) (R := fun _ t m' => Q m m' ∧ vw m' 39 = t) (Z := Q m) (c := fun i (t : aS) => if decide (aOut t k = 0) then some (nI i) else none) (fun _ t i m2 hi hr => ?_) (fun _ t m2 hr => ⟨m2, ?_, hr.1⟩) 97 0 () s m1 (by omega) ⟨q1, v1⟩
      · have hC2 := hC.q hr.1
        have e : f_Wp_right_23 X 0 (nI k) (nI i) (hp m2) = if ¬ aOut t k = 0 then (pv_tI (pM X m_Po_passQuarter [.ref P, .ref 39] (hp m2))).bind (fun q9 => f_Wp_right_23 X 0 (nI k) (nI (i + 1)) q9.2) else some (some (.int (nI i)), hp m2) := by
          rw [u_Wp_right_23, if_neg (in_u (U := 96) rfl (show i ≤ 96 by omega) (by decide))]
          simp only [tIs, tVs, bs, if_true, true_or, or_true, i10, if_false, not_false_eq_true, not_true_eq_false, Wp_rc, Wp_f5, Wp_f6, Wp_f7, Wp_f8, Wp_f9, Wp_f10, Wp_f11, Wp_f12, Wp_f13, Wp_f14, St_rc isSt_39, vw_out isSt_39 (show k < 6 by omega) hr.2, hC2.f1, hC2.rc, nI_1]
        by_cases h : aOut t k = 0
        · exact Or.inl ⟨nI i, m2, by rw [if_pos (by simpa using h)], by rw [e, if_neg (fun z => z h)], hr.1⟩
        · obtain ⟨m3, e3, q3, v3⟩ := w_pass (X := X) hC2 hr.2
          refine Or.inr ⟨by rw [if_neg (by simpa using h)], (), m3, ?_, hr.1.tr q3, v3⟩
          rw [e, if_pos h, e3]
          simp only [tIs, tVs, bs, if_true, true_or, or_true, i10, if_false, not_false_eq_true, not_true_eq_false]
      · rw [u_Wp_right_23, if_pos (by decide)]
    · obtain ⟨m2, e2, q2⟩ := m_t0 (m := m1)
      have hM2 := hM.q (hq.tr q2)
      obtain ⟨m3, e3, q3, v3⟩ := m_tries (X := X) hM2
      unfold Gi
      rw [e_Md_right, u_Md_right_0, e2]
      simp only [tIs, tVs, bs, if_true, true_or, or_true, i10, if_false, not_false_eq_true, not_true_eq_false, Md_rc, Md_f1, Md_f4, Md_f5, Md_f6, Md_f9, Md_f10, Md_f11, Md_f12, Md_f14, Md_f15, Md_f18, Md_f19, Md_f20, Md_f21, Md_f23, Md_f24, Md_f25, Md_f26, Md_f28, e3]
      refine lgx (n := 97) (F := fun (_ : Unit) (t : aS) i m => f_Md_right_11 X 175 (nI k) (nI i) (hp m)) (R := fun i t m' => Q m1 m' ∧ vm m' 1071 = t ∧ okS π.1 (c + i) t) (Z := Q m1) (c := fun i (t : aS) => if decide (aOut t k = 0) then some (nI i) else none) (fun _ t i m4 hi hr => ?_) (fun _ t m4 hr => ⟨m4, ?_, hr.1⟩) 97 0 () s m3 (by omega) ⟨q2.tr q3, v3, hM.2.2.1⟩
      · have hR := ((hM.q hq).q hr.1).1
        have e : f_Md_right_11 X 175 (nI k) (nI i) (hp m4) = if ¬ aOut t k = 0 then (pv_tV (pM X m_Md_passes_1 [.ref 175, .int 1071] (hp m4))).bind (fun h7 => f_Md_right_11 X 175 (nI k) (nI (i + 1)) h7) else some (some (.int (nI i)), hp m4) := by
          rw [u_Md_right_11, if_neg (in_u (U := 96) rfl (show i ≤ 96 by omega) (by decide))]
          simp only [tIs, tVs, bs, if_true, true_or, or_true, i10, if_false, not_false_eq_true, not_true_eq_false, Md_rc, Md_f1, Md_f4, Md_f5, Md_f6, Md_f9, Md_f10, Md_f11, Md_f12, Md_f14, Md_f15, Md_f18, Md_f19, Md_f20, Md_f21, Md_f23, Md_f24, Md_f25, Md_f26, Md_f28, m_isP1 hR hk, m_out (B := 1071) hR hr.2.1 hr.2.2 rfl (by decide) (by omega) hk, nI_1]
        by_cases h : aOut t k = 0
        · exact Or.inl ⟨nI i, m4, by rw [if_pos (by simpa using h)], by rw [e, if_neg (fun z => z h)], hr.1⟩
        · obtain ⟨m5, e5, q5, v5⟩ := m_pass (X := X) (B := 1071) hR hr.2.1 hr.2.2 rfl (by decide) (by decide) (by omega)
          refine Or.inr ⟨by rw [if_neg (by simpa using h)], (), m5, ?_, hr.1.tr q5, v5, okS_aPQ (RM_okA hR) hr.2.2⟩
          rw [e, if_pos h, e5]
          simp only [tIs, tVs, bs, if_true, true_or, or_true, i10, if_false, not_false_eq_true, not_true_eq_false]
      · rw [u_Md_right_11, if_pos (by decide), u_Md_right_51]
  · refine Ag.mk (-1) ⟨m, ?_, Q.rf⟩ (fun m1 hq => ?_)
    · rw [e_Wp_right, u_Wp_right_0]
      simp only [tIs, tVs, bs, if_true, true_or, or_true, i10, if_false, not_false_eq_true, not_true_eq_false, Wp_rc, Wp_f5, Wp_f6, Wp_f7, Wp_f8, Wp_f9, Wp_f10, Wp_f11, Wp_f12, Wp_f13, Wp_f14, w_isP0 hC hb]
    · obtain ⟨m2, e2, q2⟩ := m_t0 (m := m1)
      have hM2 := hM.q (hq.tr q2)
      obtain ⟨m3, e3, q3, v3⟩ := m_tries (X := X) hM2
      refine ⟨m3, ?_, q2.tr q3⟩
      rw [e_Md_right, u_Md_right_0, e2]
      simp only [tIs, tVs, bs, if_true, true_or, or_true, i10, if_false, not_false_eq_true, not_true_eq_false, Md_rc, Md_f1, Md_f4, Md_f5, Md_f6, Md_f9, Md_f10, Md_f11, Md_f12, Md_f14, Md_f15, Md_f18, Md_f19, Md_f20, Md_f21, Md_f23, Md_f24, Md_f25, Md_f26, Md_f28, e3]
      rw [u_Md_right_11, if_neg (by decide)]
      simp only [tIs, tVs, bs, if_true, true_or, or_true, i10, if_false, not_false_eq_true, not_true_eq_false, Md_rc, Md_f1, Md_f4, Md_f5, Md_f6, Md_f9, Md_f10, Md_f11, Md_f12, Md_f14, Md_f15, Md_f18, Md_f19, Md_f20, Md_f21, Md_f23, Md_f24, Md_f25, Md_f26, Md_f28, m_isP0 (hM2.q q3).1 hb, u_Md_right_51]
/-- on which side of another one -/
def sg (t : aS) (k o : Nat) : Int32 := if aOut t o ≤ aOut t k then (if aOut t k = aOut t o then 0 else 1) else -1
theorem c_compare {x y : Int32} {h : pv_H} : pM X m_In_compare [.int x, .int y] h = some (some (.int (if y ≤ x then (if x = y then 0 else 1) else -1)), h) := by
  rw [e_In_compare, u_In_compare_0]
  simp only [u_In_compare_19]
  by_cases h1 : y ≤ x
  · rw [if_pos h1, if_pos h1]
    by_cases h2 : x = y
    · rw [if_neg (fun z => z h2), if_pos h2]
    · rw [if_pos h2, if_neg h2]
  · rw [if_neg h1, if_neg h1]
theorem m_sign {k o c' : Nat} {t : aS} (hR : RM m π) (hv : vm m 1071 = t) (ok : okS π.1 c' t) (hc : c' ≤ 1000000) (hk : k < π.1) (ho : o < π.1) : pM X m_Md_signBetween [.ref 175, .int (nI k), .int (nI o)] (hp m) = some (some (.int (sg t k o)), hp m) := by
  have r1 := out_k ok hc hk
  have r2 := out_k ok hc ho
  rw [e_Md_signBetween, u_Md_signBetween_0]
  simp only [tIs, tVs, bs, if_true, true_or, or_true, i10, if_false, not_false_eq_true, not_true_eq_false, Md_rc, Md_f1, Md_f4, Md_f5, Md_f6, Md_f9, Md_f10, Md_f11, Md_f12, Md_f14, Md_f15, Md_f18, Md_f19, Md_f20, Md_f21, Md_f23, Md_f24, Md_f25, Md_f26, Md_f28, m_out (B := 1071) hR hv ok rfl (by decide) hc hk, m_out (B := 1071) hR hv ok rfl (by decide) hc ho, u_Md_signBetween_35]
  unfold sg
  have z : (0 : Int32).toInt = 0 := by decide
  simp only [Int32.le_iff_toInt_le, sub_pos r1 r2, z, ← Int32.toInt_inj]
  by_cases h1 : (aOut t o).toInt ≤ (aOut t k).toInt
  · rw [if_pos (by omega), if_pos h1]
    by_cases h2 : (aOut t k).toInt = (aOut t o).toInt
    · rw [if_pos (by omega), if_pos h2]
    · rw [if_neg (by omega), if_neg h2]
  · rw [if_neg (by omega), if_neg h1]
def gPs (π : aP) (k o : Nat) (x : aS × Int32) : aS × Int32 := ((aPQ π x.1).1, if sg (aPQ π x.1).1 k o = sg x.1 k o then x.2 else x.2 + 1)
theorem q_passes (hC : HC m P π s) (hM : HM m π s c) (p p' v : Int32) : Ag X m_Wp_passes m_Md_passes_3 [.int p, .int p', .int v] m := by
  have hn := hC.n6
  have hc := hM.2.2.2
  by_cases hg : ∃ k o, k < π.1 ∧ o < π.1 ∧ k ≠ o ∧ p = nI k ∧ p' = nI o
  · obtain ⟨k, o, hk, ho, hko, rfl, rfl⟩ := hg
    have hne : ¬ nI k = nI o := by rw [nI_eq (by omega) (by omega)]; exact hko
    rcases wthL v (L := 1) (U := 96) (l := 1) (u := 96) rfl rfl (by decide) (by decide) with ⟨q, h0, h1, rfl⟩ | hb
    · refine Ag.mk (fr (fun _ => gPs π k o) q 0 (s, 0)).2 ?_ (fun m1 hq => ?_)
      · obtain ⟨m1, e1, q1, v1⟩ := w_copy (X := X) hC
        unfold Gi
        rw [e_Wp_passes, u_Wp_passes_0]
        simp only [tIs, tVs, bs, if_true, true_or, or_true, i10, if_false, not_false_eq_true, not_true_eq_false, Wp_rc, Wp_f5, Wp_f6, Wp_f7, Wp_f8, Wp_f9, Wp_f10, Wp_f11, Wp_f12, Wp_f13, Wp_f14, w_two1 hC hk ho hko, w_in1 (in_l (L := 1) rfl h0 (by omega)) (in_u (U := 96) rfl h1 (by decide)), St_rc isSt_39, e1, vw_out isSt_39 (show k < 6 by omega) v1, vw_out isSt_39 (show o < 6 by omega) v1, c_compare]
        obtain ⟨g', m', h2, h3⟩ := lg (n := q) (F := fun (g : Option Value) (x : aS × Int32) i m => f_Wp_passes_59 X 0 (nI k) (nI o) (nI q) x.2 (sg x.1 k o) (nI i) g (hp m)) (R := fun _ x m' => Q m m' ∧ vw m' 39 = x.1) (g := fun _ => gPs π k o) (fun g x i m2 hi hr => by
          have hC2 := hC.q hr.1
          obtain ⟨m3, e3, q3, v3⟩ := w_pass (X := X) hC2 hr.2
          refine ⟨some (.int (sg (aPQ π x.1).1 k o)), m3, ?_, hr.1.tr q3, v3⟩
          rw [u_Wp_passes_59, if_neg (nI_ge hi (by omega))]
          simp only [tIs, tVs, bs, if_true, true_or, or_true, i10, if_false, not_false_eq_true, not_true_eq_false, Wp_rc, Wp_f5, Wp_f6, Wp_f7, Wp_f8, Wp_f9, Wp_f10, Wp_f11, Wp_f12, Wp_f13, Wp_f14, hC2.f1, hC2.rc, e3, St_rc isSt_39, vw_out isSt_39 (show k < 6 by omega) v3, vw_out isSt_39 (show o < 6 by omega) v3, c_compare, u_Wp_passes_108, nI_1]
          unfold gPs
          dsimp only
          rw [show (if aOut (aPQ π x.1).1 o ≤ aOut (aPQ π x.1).1 k then if aOut (aPQ π x.1).1 k = aOut (aPQ π x.1).1 o then (0 : Int32) else 1 else -1) = sg (aPQ π x.1).1 k o from rfl]
          by_cases hh : sg (aPQ π x.1).1 k o = sg x.1 k o
          · rw [if_pos hh, if_pos hh]
          · rw [if_neg hh, if_neg hh]) q 0 none (s, 0) m1 (by omega) ⟨q1, v1⟩
        refine ⟨m', ?_, h3.1⟩
        refine Eq.trans (b := f_Wp_passes_59 X 0 (nI k) (nI o) (nI q) 0 (sg s k o) (nI 0) none (hp m1)) rfl ?_
        rw [show f_Wp_passes_59 X 0 (nI k) (nI o) (nI q) 0 (sg s k o) (nI 0) none (hp m1) = _ from h2, u_Wp_passes_59, if_pos (nI_le (Nat.le_refl _) (by omega))]
      · obtain ⟨m2, e2, q2⟩ := m_t0 (m := m1)
        have hM2 := hM.q (hq.tr q2)
        obtain ⟨m3, e3, q3, v3⟩ := m_tries (X := X) hM2
        unfold Gi
        rw [e_Md_passes_3, u_Md_passes_3_0, e2]
        simp only [tIs, tVs, bs, if_true, true_or, or_true, i10, if_false, not_false_eq_true, not_true_eq_false, Md_rc, Md_f1, Md_f4, Md_f5, Md_f6, Md_f9, Md_f10, Md_f11, Md_f12, Md_f14, Md_f15, Md_f18, Md_f19, Md_f20, Md_f21, Md_f23, Md_f24, Md_f25, Md_f26, Md_f28, m_isP1 hM2.1 hk, m_isP1 hM2.1 ho]
        rw [if_neg hne]
        simp only [tIs, tVs, bs, if_true, true_or, or_true, i10, if_false, not_false_eq_true, not_true_eq_false, Md_rc, Md_f1, Md_f4, Md_f5, Md_f6, Md_f9, Md_f10, Md_f11, Md_f12, Md_f14, Md_f15, Md_f18, Md_f19, Md_f20, Md_f21, Md_f23, Md_f24, Md_f25, Md_f26, Md_f28, m_in1 (in_l (L := 1) rfl h0 (by omega)) (in_u (U := 96) rfl h1 (by decide)), e3]
        obtain ⟨g', m', h2, h3⟩ := lg (n := q) (F := fun (g : Option Value) (x : aS × Int32) i m => f_Md_passes_3_48 X 175 (nI k) (nI o) (nI q) x.2 (nI i) g (hp m)) (R := fun i x m' => Q m1 m' ∧ vm m' 1071 = x.1 ∧ okS π.1 (c + i) x.1) (g := fun _ => gPs π k o) (fun g x i m4 hi hr => by
          have hR := ((hM.q hq).q hr.1).1
          obtain ⟨m5, e5, q5, v5⟩ := m_pass (X := X) (B := 1071) hR hr.2.1 hr.2.2 rfl (by decide) (by decide) (by omega)
          have ok5 := okS_aPQ (RM_okA hR) hr.2.2
          have hR5 := (((hM.q hq).q hr.1).q q5).1
          refine ⟨some (.int (sg x.1 k o)), m5, ?_, hr.1.tr q5, v5, ok5⟩
          rw [u_Md_passes_3_48, if_neg (nI_ge hi (by omega))]
          simp only [tIs, tVs, bs, if_true, true_or, or_true, i10, if_false, not_false_eq_true, not_true_eq_false, Md_rc, Md_f1, Md_f4, Md_f5, Md_f6, Md_f9, Md_f10, Md_f11, Md_f12, Md_f14, Md_f15, Md_f18, Md_f19, Md_f20, Md_f21, Md_f23, Md_f24, Md_f25, Md_f26, Md_f28, m_sign hR hr.2.1 hr.2.2 (by omega) hk ho, e5, m_sign hR5 v5 ok5 (by omega) hk ho, u_Md_passes_3_87, nI_1]
          unfold gPs
          dsimp only
          by_cases hh : sg (aPQ π x.1).1 k o = sg x.1 k o
          · rw [if_pos hh, if_pos hh, Int32.add_zero]
          · rw [if_neg hh, if_neg hh]) q 0 none (s, 0) m3 (by omega) ⟨q2.tr q3, v3, hM.2.2.1⟩
        refine ⟨m', ?_, h3.1⟩
        refine Eq.trans (b := f_Md_passes_3_48 X 175 (nI k) (nI o) (nI q) 0 (nI 0) none (hp m3)) rfl ?_
        rw [show f_Md_passes_3_48 X 175 (nI k) (nI o) (nI q) 0 (nI 0) none (hp m3) = _ from h2, u_Md_passes_3_48, if_pos (nI_le (Nat.le_refl _) (by omega))]
    · refine Ag.mk (-1) ⟨m, ?_, Q.rf⟩ (fun m1 hq => ?_)
      · rw [e_Wp_passes, u_Wp_passes_0]
        simp only [tIs, tVs, bs, if_true, true_or, or_true, i10, if_false, not_false_eq_true, not_true_eq_false, Wp_rc, Wp_f5, Wp_f6, Wp_f7, Wp_f8, Wp_f9, Wp_f10, Wp_f11, Wp_f12, Wp_f13, Wp_f14, w_two1 hC hk ho hko, w_in0 hb, u_Wp_passes_19]
      · obtain ⟨m2, e2, q2⟩ := m_t0 (m := m1)
        have hM2 := hM.q (hq.tr q2)
        refine ⟨m2, ?_, q2⟩
        rw [e_Md_passes_3, u_Md_passes_3_0, e2]
        simp only [tIs, tVs, bs, if_true, true_or, or_true, i10, if_false, not_false_eq_true, not_true_eq_false, Md_rc, Md_f1, Md_f4, Md_f5, Md_f6, Md_f9, Md_f10, Md_f11, Md_f12, Md_f14, Md_f15, Md_f18, Md_f19, Md_f20, Md_f21, Md_f23, Md_f24, Md_f25, Md_f26, Md_f28, m_isP1 hM2.1 hk, m_isP1 hM2.1 ho]
        rw [if_neg hne]
        simp only [tIs, tVs, bs, if_true, true_or, or_true, i10, if_false, not_false_eq_true, not_true_eq_false, Md_rc, Md_f1, Md_f4, Md_f5, Md_f6, Md_f9, Md_f10, Md_f11, Md_f12, Md_f14, Md_f15, Md_f18, Md_f19, Md_f20, Md_f21, Md_f23, Md_f24, Md_f25, Md_f26, Md_f28, m_in0 hb, u_Md_passes_3_36]
  · have hb : (p < 0 ∨ nI π.1 ≤ p) ∨ (p' < 0 ∨ nI π.1 ≤ p') ∨ p = p' := by
      rcases prs p hn with ⟨k, hk, rfl⟩ | h
      · rcases prs p' hn with ⟨o, ho, rfl⟩ | h
        · by_cases h : k = o
          · exact Or.inr (Or.inr (by rw [h]))
          · exact absurd ⟨k, o, hk, ho, h, rfl, rfl⟩ hg
        · exact Or.inr (Or.inl h)
      · exact Or.inl h
    refine Ag.mk (-1) ⟨m, ?_, Q.rf⟩ (fun m1 hq => ?_)
    · rw [e_Wp_passes, u_Wp_passes_0]
      simp only [tIs, tVs, bs, if_true, true_or, or_true, i10, if_false, not_false_eq_true, not_true_eq_false, Wp_rc, Wp_f5, Wp_f6, Wp_f7, Wp_f8, Wp_f9, Wp_f10, Wp_f11, Wp_f12, Wp_f13, Wp_f14, w_two0 hC hb, u_Wp_passes_19]
    · obtain ⟨m2, e2, q2⟩ := m_t0 (m := m1)
      have hM2 := hM.q (hq.tr q2)
      have hR := hM2.1
      refine ⟨m2, ?_, q2⟩
      rw [e_Md_passes_3, u_Md_passes_3_0, e2]
      simp only [tIs, tVs, bs, if_true, true_or, or_true, i10, if_false, not_false_eq_true, not_true_eq_false, Md_rc, Md_f1, Md_f4, Md_f5, Md_f6, Md_f9, Md_f10, Md_f11, Md_f12, Md_f14, Md_f15, Md_f18, Md_f19, Md_f20, Md_f21, Md_f23, Md_f24, Md_f25, Md_f26, Md_f28]
      rcases prs p hn with ⟨k, hk, rfl⟩ | h
      · simp only [tIs, tVs, bs, if_true, true_or, or_true, i10, if_false, not_false_eq_true, not_true_eq_false, Md_rc, Md_f1, Md_f4, Md_f5, Md_f6, Md_f9, Md_f10, Md_f11, Md_f12, Md_f14, Md_f15, Md_f18, Md_f19, Md_f20, Md_f21, Md_f23, Md_f24, Md_f25, Md_f26, Md_f28, m_isP1 hR hk]
        rcases prs p' hn with ⟨o, ho, rfl⟩ | h
        · simp only [tIs, tVs, bs, if_true, true_or, or_true, i10, if_false, not_false_eq_true, not_true_eq_false, Md_rc, Md_f1, Md_f4, Md_f5, Md_f6, Md_f9, Md_f10, Md_f11, Md_f12, Md_f14, Md_f15, Md_f18, Md_f19, Md_f20, Md_f21, Md_f23, Md_f24, Md_f25, Md_f26, Md_f28, m_isP1 hR ho]
          have : k = o := by
            by_cases h : k = o
            · exact h
            · exact absurd ⟨k, o, hk, ho, h, rfl, rfl⟩ hg
          rw [if_pos (by rw [this]), u_Md_passes_3_36]
        · simp only [tIs, tVs, bs, if_true, true_or, or_true, i10, if_false, not_false_eq_true, not_true_eq_false, Md_rc, Md_f1, Md_f4, Md_f5, Md_f6, Md_f9, Md_f10, Md_f11, Md_f12, Md_f14, Md_f15, Md_f18, Md_f19, Md_f20, Md_f21, Md_f23, Md_f24, Md_f25, Md_f26, Md_f28, m_isP0 hR h, u_Md_passes_3_36]
      · simp only [tIs, tVs, bs, if_true, true_or, or_true, i10, if_false, not_false_eq_true, not_true_eq_false, Md_rc, Md_f1, Md_f4, Md_f5, Md_f6, Md_f9, Md_f10, Md_f11, Md_f12, Md_f14, Md_f15, Md_f18, Md_f19, Md_f20, Md_f21, Md_f23, Md_f24, Md_f25, Md_f26, Md_f28, m_isP0 hR h, u_Md_passes_3_36]
end Q4
