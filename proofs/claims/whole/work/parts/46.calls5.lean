/-! teacher, steady, noon, first. -/
section Q5
variable {m : pm_M} {X : pv_X} {P c : Nat} {π : aP} {s : aS}
def gTe (π : aP) (s : aS) (k i : Nat) (x : Int32 × Int32) : Int32 × Int32 := if i = k then x else if ab (aOut (pqn π 24 (aAsk s k i)) k) < x.2 then (nI i, ab (aOut (pqn π 24 (aAsk s k i)) k)) else x
theorem m_askedFor {k o q : Nat} (hM : HM m π s c) (hk : k < π.1) (ho : o < π.1) (hq : q < 1000) : ∃ m', pM X m_Md_askedFor [.ref 175, .int (nI k), .int (nI o), .int (nI q)] (hp m) = some (none, hp m') ∧ Q m m' ∧ vm m' 1071 = pqn π q (aAsk s k o) ∧ okS π.1 (c + q) (pqn π q (aAsk s k o)) := by
  have hn := hM.1.1
  have hc := hM.2.2.2
  obtain ⟨m1, e1, q1, v1⟩ := m_tries (X := X) hM
  obtain ⟨m2, e2, q2, v2⟩ := m_ask (X := X) (m := m1) (B := 1071) (k := k) (o := o) v1 rfl (by decide) (by decide) (by omega) (by omega)
  have ok2 : okS π.1 c (aAsk s k o) := okS_ask hM.2.2.1 ho
  obtain ⟨m3, e3, q3, v3⟩ := m_runs (X := X) (q := q) (hM.q (q1.tr q2)).1 v2 ok2 (by omega)
  refine ⟨m3, ?_, q1.tr (q2.tr q3), v3, pqn_ok (RM_okA hM.1) q _ ok2⟩
  rw [e_Md_askedFor, u_Md_askedFor_0]
  simp only [tIs, tVs, bs, if_true, true_or, or_true, i10, if_false, not_false_eq_true, not_true_eq_false, Md_rc, Md_f1, Md_f4, Md_f5, Md_f6, Md_f9, Md_f10, Md_f11, Md_f12, Md_f14, Md_f15, Md_f18, Md_f19, Md_f20, Md_f21, Md_f23, Md_f24, Md_f25, Md_f26, Md_f28, e1, e2, e3]
theorem q_teacher (hC : HC m P π s) (hM : HM m π s c) (p : Int32) : Ag X m_Wp_teacher m_Md_teacher [.int p] m := by
  have hn := hC.n6
  have hc := hM.2.2.2
  rcases prs p hn with ⟨k, hk, rfl⟩ | hb
  · refine Ag.mk (fr (gTe π s k) π.1 0 (-1, ab (aOut (pqn π 24 s) k))).1 ?_ (fun m1 hq => ?_)
    · obtain ⟨m1, e1, q1, v1⟩ := w_outLater (X := X) (q := 24) hC (show k < 6 by omega) (by decide)
      rw [show (nI 24 : Int32) = 24 from rfl] at e1
      unfold Gi
      rw [e_Wp_teacher, u_Wp_teacher_0]
      simp only [tIs, tVs, bs, if_true, true_or, or_true, i10, if_false, not_false_eq_true, not_true_eq_false, Wp_rc, Wp_f5, Wp_f6, Wp_f7, Wp_f8, Wp_f9, Wp_f10, Wp_f11, Wp_f12, Wp_f13, Wp_f14, w_isP1 hC hk, e1, c_abs]
      obtain ⟨-, m', h2, h3⟩ := lg (n := π.1) (F := fun (_ : Unit) (x : Int32 × Int32) i m => f_Wp_teacher_26 X 0 (nI k) x.1 x.2 (nI i) (hp m)) (R := fun _ _ m' => Q m m') (g := gTe π s k) (fun _ x i m2 hi hr => by
        have hC2 := hC.q hr
        by_cases hik : i = k
        · refine ⟨(), m2, ?_, hr⟩
          rw [u_Wp_teacher_26]
          simp only [tIs, tVs, bs, if_true, true_or, or_true, i10, if_false, not_false_eq_true, not_true_eq_false, Wp_rc, Wp_f5, Wp_f6, Wp_f7, Wp_f8, Wp_f9, Wp_f10, Wp_f11, Wp_f12, Wp_f13, Wp_f14, hC2.f1, hC2.sz]
          rw [if_neg (nI_ge hi (by omega)), if_pos (by rw [hik]), u_Wp_teacher_95, nI_1]
          unfold gTe
          rw [if_pos hik]
        · obtain ⟨m3, e3, q3, v3⟩ := w_copy (X := X) hC2
          obtain ⟨m4, e4, q4, v4⟩ := w_take (X := X) (m := m3) (k := k) (o := i) v3 (by omega) (by omega)
          obtain ⟨m5, e5, q5, v5⟩ := w_passQs (X := X) (q := 24) (hC2.q (q3.tr q4)) v4 (by decide)
          rw [show (nI 24 : Int32) = 24 from rfl] at e5
          refine ⟨(), m5, ?_, hr.tr (q3.tr (q4.tr q5))⟩
          rw [u_Wp_teacher_26]
          simp only [tIs, tVs, bs, if_true, true_or, or_true, i10, if_false, not_false_eq_true, not_true_eq_false, Wp_rc, Wp_f5, Wp_f6, Wp_f7, Wp_f8, Wp_f9, Wp_f10, Wp_f11, Wp_f12, Wp_f13, Wp_f14, hC2.f1, hC2.sz]
          rw [if_neg (nI_ge hi (by omega)), if_neg (by rw [nI_eq (by omega) (by omega)]; exact hik)]
          simp only [tIs, tVs, bs, if_true, true_or, or_true, i10, if_false, not_false_eq_true, not_true_eq_false, Wp_rc, Wp_f5, Wp_f6, Wp_f7, Wp_f8, Wp_f9, Wp_f10, Wp_f11, Wp_f12, Wp_f13, Wp_f14, St_rc isSt_39, e3, e4, e5, vw_far isSt_39 (show k < 6 by omega) v5, u_Wp_teacher_95, nI_1]
          unfold gTe
          rw [if_neg hik]
          by_cases h : ab (aOut (pqn π 24 (aAsk s k i)) k) < x.2
          · rw [if_neg (Int32.not_le.mpr h), if_pos h]
          · rw [if_pos (Int32.not_lt.mp h), if_neg h]) π.1 0 () (-1, ab (aOut (pqn π 24 s) k)) m1 (by omega) q1
      refine ⟨m', ?_, h3⟩
      refine Eq.trans (b := f_Wp_teacher_26 X 0 (nI k) (-1) (ab (aOut (pqn π 24 s) k)) (nI 0) (hp m1)) rfl ?_
      rw [show f_Wp_teacher_26 X 0 (nI k) (-1) (ab (aOut (pqn π 24 s) k)) (nI 0) (hp m1) = _ from h2, u_Wp_teacher_26]
      simp only [tIs, tVs, bs, if_true, true_or, or_true, i10, if_false, not_false_eq_true, not_true_eq_false, Wp_rc, Wp_f5, Wp_f6, Wp_f7, Wp_f8, Wp_f9, Wp_f10, Wp_f11, Wp_f12, Wp_f13, Wp_f14, (hC.q h3).f1, (hC.q h3).sz]
      rw [if_pos (nI_le (Nat.le_refl _) (by omega))]
    · obtain ⟨m2, e2, q2⟩ := m_t0 (m := m1)
      have hM2 := hM.q (hq.tr q2)
      obtain ⟨m3, e3, q3, v3⟩ := m_outBehind (X := X) (q := 24) hM2 hk (by decide)
      rw [show (nI 24 : Int32) = 24 from rfl] at e3
      unfold Gi
      rw [e_Md_teacher, u_Md_teacher_0, e2]
      simp only [tIs, tVs, bs, if_true, true_or, or_true, i10, if_false, not_false_eq_true, not_true_eq_false, Md_rc, Md_f1, Md_f4, Md_f5, Md_f6, Md_f9, Md_f10, Md_f11, Md_f12, Md_f14, Md_f15, Md_f18, Md_f19, Md_f20, Md_f21, Md_f23, Md_f24, Md_f25, Md_f26, Md_f28, m_isP1 hM2.1 hk, e3, d_unsigned]
      obtain ⟨g', m', h2, h3⟩ := lg (n := π.1) (F := fun (g : Option Value) (x : Int32 × Int32) i m => f_Md_teacher_31 X 175 (nI k) x.1 x.2 (nI i) g (hp m)) (R := fun _ _ m' => Q m1 m') (g := gTe π s k) (fun g x i m4 hi hr => by
        have hM4 := (hM.q hq).q hr
        by_cases hik : i = k
        · refine ⟨g, m4, ?_, hr⟩
          rw [u_Md_teacher_31]
          simp only [tIs, tVs, bs, if_true, true_or, or_true, i10, if_false, not_false_eq_true, not_true_eq_false, Md_rc, Md_f1, Md_f4, Md_f5, Md_f6, Md_f9, Md_f10, Md_f11, Md_f12, Md_f14, Md_f15, Md_f18, Md_f19, Md_f20, Md_f21, Md_f23, Md_f24, Md_f25, Md_f26, Md_f28, m_n hM4.1]
          rw [if_neg (nI_ge hi (by omega)), if_pos (by rw [hik]), u_Md_teacher_94, nI_1]
          unfold gTe
          rw [if_pos hik]
        · obtain ⟨m5, e5, q5, v5, ok5⟩ := m_askedFor (X := X) (q := 24) hM4 hk hi (by decide)
          rw [show (nI 24 : Int32) = 24 from rfl] at e5
          refine ⟨some (.int (ab (aOut (pqn π 24 (aAsk s k i)) k))), m5, ?_, hr.tr q5⟩
          rw [u_Md_teacher_31]
          simp only [tIs, tVs, bs, if_true, true_or, or_true, i10, if_false, not_false_eq_true, not_true_eq_false, Md_rc, Md_f1, Md_f4, Md_f5, Md_f6, Md_f9, Md_f10, Md_f11, Md_f12, Md_f14, Md_f15, Md_f18, Md_f19, Md_f20, Md_f21, Md_f23, Md_f24, Md_f25, Md_f26, Md_f28, m_n hM4.1]
          rw [if_neg (nI_ge hi (by omega)), if_neg (by rw [nI_eq (by omega) (by omega)]; exact hik)]
          simp only [tIs, tVs, bs, if_true, true_or, or_true, i10, if_false, not_false_eq_true, not_true_eq_false, Md_rc, Md_f1, Md_f4, Md_f5, Md_f6, Md_f9, Md_f10, Md_f11, Md_f12, Md_f14, Md_f15, Md_f18, Md_f19, Md_f20, Md_f21, Md_f23, Md_f24, Md_f25, Md_f26, Md_f28, e5, m_out (B := 1071) (hM4.q q5).1 v5 ok5 rfl (by decide) (by omega) hk, d_unsigned, u_Md_teacher_80, u_Md_teacher_93, u_Md_teacher_94, nI_1]
          unfold gTe
          rw [if_neg hik]
          by_cases h : ab (aOut (pqn π 24 (aAsk s k i)) k) < x.2
          · rw [if_neg (Int32.not_le.mpr h), if_neg (Int32.not_le.mpr h), if_pos h]
          · rw [if_pos (Int32.not_lt.mp h), if_pos (Int32.not_lt.mp h), if_neg h]) π.1 0 none (-1, ab (aOut (pqn π 24 s) k)) m3 (by omega) (q2.tr q3)
      refine ⟨m', ?_, h3⟩
      refine Eq.trans (b := f_Md_teacher_31 X 175 (nI k) (-1) (ab (aOut (pqn π 24 s) k)) (nI 0) none (hp m3)) rfl ?_
      rw [show f_Md_teacher_31 X 175 (nI k) (-1) (ab (aOut (pqn π 24 s) k)) (nI 0) none (hp m3) = _ from h2, u_Md_teacher_31]
      simp only [tIs, tVs, bs, if_true, true_or, or_true, i10, if_false, not_false_eq_true, not_true_eq_false, Md_rc, Md_f1, Md_f4, Md_f5, Md_f6, Md_f9, Md_f10, Md_f11, Md_f12, Md_f14, Md_f15, Md_f18, Md_f19, Md_f20, Md_f21, Md_f23, Md_f24, Md_f25, Md_f26, Md_f28, m_n ((hM.q hq).q h3).1]
      rw [if_pos (nI_le (Nat.le_refl _) (by omega))]
  · refine Ag.mk (-1) ⟨m, ?_, Q.rf⟩ (fun m1 hq => ?_)
    · rw [e_Wp_teacher, u_Wp_teacher_0]
      simp only [tIs, tVs, bs, if_true, true_or, or_true, i10, if_false, not_false_eq_true, not_true_eq_false, Wp_rc, Wp_f5, Wp_f6, Wp_f7, Wp_f8, Wp_f9, Wp_f10, Wp_f11, Wp_f12, Wp_f13, Wp_f14, w_isP0 hC hb]
    · obtain ⟨m2, e2, q2⟩ := m_t0 (m := m1)
      refine ⟨m2, ?_, q2⟩
      rw [e_Md_teacher, u_Md_teacher_0]
      simp only [tIs, tVs, bs, if_true, true_or, or_true, i10, if_false, not_false_eq_true, not_true_eq_false, Md_rc, Md_f1, Md_f4, Md_f5, Md_f6, Md_f9, Md_f10, Md_f11, Md_f12, Md_f14, Md_f15, Md_f18, Md_f19, Md_f20, Md_f21, Md_f23, Md_f24, Md_f25, Md_f26, Md_f28, e2, m_isP0 (hM.q (hq.tr q2)).1 hb]
def gSt (s t : aS) (i : Nat) (x : Option Nat × Int32) : Option Nat × Int32 := match x.1 with
  | none => (some i, ab (aOut t i - aOut s i))
  | some k => if ab (aOut t i - aOut s i) < x.2 then (some i, ab (aOut t i - aOut s i)) else (some k, x.2)
theorem gSt_lt {s t : aS} {i : Nat} {x : Option Nat × Int32} (h : ∀ k, x.1 = some k → k < i) : ∀ k, (gSt s t i x).1 = some k → k < i + 1 := by
  intro k hk
  unfold gSt at hk
  split at hk
  · cases hk; omega
  · rename_i j e
    have := h j e
    split at hk <;> cases hk <;> omega
theorem q_steady (hC : HC m P π s) (hM : HM m π s c) : Ag X m_Wp_steady m_Md_steady [] m := by
  have hn := hC.n6
  have hv := hC.2.2.2.2
  have hc := hM.2.2.2
  refine Ag.mk (enc (fr (gSt s (aPQ π s).1) π.1 0 (none, 0)).1) ?_ (fun m1 hq => ?_)
  · obtain ⟨m1, e1, q1, v1⟩ := w_copy (X := X) hC
    obtain ⟨m2, e2, q2, v2⟩ := w_pass (X := X) (hC.q q1) v1
    refine ⟨m2, ?_, q1.tr q2⟩
    have hC1 := hC.q q1
    have hC2 := hC.q (q1.tr q2)
    rw [e_Wp_steady, u_Wp_steady_0]
    simp only [tIs, tVs, bs, if_true, true_or, or_true, i10, if_false, not_false_eq_true, not_true_eq_false, Wp_rc, Wp_f5, Wp_f6, Wp_f7, Wp_f8, Wp_f9, Wp_f10, Wp_f11, Wp_f12, Wp_f13, Wp_f14, St_rc isSt_39, e1, hC1.f1, hC1.rc, e2]
    obtain ⟨⟨g', h1⟩, -⟩ := lg0 (n := π.1) (F := fun (g : Option Value) (x : Option Nat × Int32) i => f_Wp_steady_29 X 0 (enc x.1) x.2 (nI i) g (hp m2)) (R := fun i x => ∀ k, x.1 = some k → k < i) (g := gSt s (aPQ π s).1) (fun g x i hi hr => ⟨⟨some (.int (ab (aOut (aPQ π s).1 i - aOut s i))), by
      rw [u_Wp_steady_29]
      simp only [tIs, tVs, bs, if_true, true_or, or_true, i10, if_false, not_false_eq_true, not_true_eq_false, Wp_rc, Wp_f5, Wp_f6, Wp_f7, Wp_f8, Wp_f9, Wp_f10, Wp_f11, Wp_f12, Wp_f13, Wp_f14, hC2.f1, hC2.sz]
      rw [if_neg (nI_ge hi (by omega))]
      simp only [tIs, tVs, bs, if_true, true_or, or_true, i10, if_false, not_false_eq_true, not_true_eq_false, Wp_rc, Wp_f5, Wp_f6, Wp_f7, Wp_f8, Wp_f9, Wp_f10, Wp_f11, Wp_f12, Wp_f13, Wp_f14, St_rc isSt_39, St_rc isSt_35, vw_out isSt_39 (show i < 6 by omega) v2, vw_out isSt_35 (show i < 6 by omega) hC2.2.2.2.2, c_abs, u_Wp_steady_73, u_Wp_steady_78, nI_1]
      obtain ⟨o, l⟩ := x
      unfold gSt
      cases o with
      | none => rw [if_pos (show enc none = -1 from rfl)]; rfl
      | some k =>
        have hk := hr k rfl
        dsimp only
        rw [show enc (some k) = nI k from rfl, if_neg (enc_m1 (by omega))]
        by_cases h : ab (aOut (aPQ π s).1 i - aOut s i) < l
        · rw [if_neg (Int32.not_le.mpr h), if_pos h]; rfl
        · rw [if_pos (Int32.not_lt.mp h), if_neg h]; rfl⟩, gSt_lt hr⟩) π.1 0 none (none, 0) (by omega) (fun _ h => by cases h)
    refine Eq.trans (b := f_Wp_steady_29 X 0 (enc none) 0 (nI 0) none (hp m2)) rfl ?_
    rw [show f_Wp_steady_29 X 0 (enc none) 0 (nI 0) none (hp m2) = _ from h1, u_Wp_steady_29]
    simp only [tIs, tVs, bs, if_true, true_or, or_true, i10, if_false, not_false_eq_true, not_true_eq_false, Wp_rc, Wp_f5, Wp_f6, Wp_f7, Wp_f8, Wp_f9, Wp_f10, Wp_f11, Wp_f12, Wp_f13, Wp_f14, hC2.f1, hC2.sz]
    rw [if_pos (nI_le (Nat.le_refl _) (by omega))]
  · obtain ⟨m2, e2, q2⟩ := m_t0 (m := m1)
    have hM2 := hM.q (hq.tr q2)
    obtain ⟨m3, e3, q3, v3⟩ := m_tries (X := X) hM2
    obtain ⟨m4, e4, q4, v4⟩ := m_pass (X := X) (B := 1071) (hM2.q q3).1 v3 hM.2.2.1 rfl (by decide) (by decide) (by omega)
    have ok4 := okS_aPQ (RM_okA hM.1) hM.2.2.1
    refine ⟨m4, ?_, q2.tr (q3.tr q4)⟩
    have hM4 := hM2.q (q3.tr q4)
    rw [e_Md_steady, u_Md_steady_0, e2]
    simp only [tIs, tVs, bs, if_true, true_or, or_true, i10, if_false, not_false_eq_true, not_true_eq_false, Md_rc, Md_f1, Md_f4, Md_f5, Md_f6, Md_f9, Md_f10, Md_f11, Md_f12, Md_f14, Md_f15, Md_f18, Md_f19, Md_f20, Md_f21, Md_f23, Md_f24, Md_f25, Md_f26, Md_f28, e3, e4]
    obtain ⟨⟨⟨g1, g2⟩, h1⟩, -⟩ := lg0 (n := π.1) (F := fun (g : Option Value × Option Value) (x : Option Nat × Int32) i => f_Md_steady_22 X 175 (enc x.1) x.2 (nI i) g.1 g.2 (hp m4)) (R := fun i x => ∀ k, x.1 = some k → k < i) (g := gSt s (aPQ π s).1) (fun g x i hi hr => ⟨by
      rw [u_Md_steady_22]
      simp only [tIs, tVs, bs, if_true, true_or, or_true, i10, if_false, not_false_eq_true, not_true_eq_false, Md_rc, Md_f1, Md_f4, Md_f5, Md_f6, Md_f9, Md_f10, Md_f11, Md_f12, Md_f14, Md_f15, Md_f18, Md_f19, Md_f20, Md_f21, Md_f23, Md_f24, Md_f25, Md_f26, Md_f28, m_n hM4.1]
      rw [if_neg (nI_ge hi (by omega))]
      simp only [tIs, tVs, bs, if_true, true_or, or_true, i10, if_false, not_false_eq_true, not_true_eq_false, Md_rc, Md_f1, Md_f4, Md_f5, Md_f6, Md_f9, Md_f10, Md_f11, Md_f12, Md_f14, Md_f15, Md_f18, Md_f19, Md_f20, Md_f21, Md_f23, Md_f24, Md_f25, Md_f26, Md_f28, m_out (B := 1071) hM4.1 v4 ok4 rfl (by decide) (by omega) hi, m_out (B := 0) hM4.1 hM4.2.1 hM.2.2.1 rfl (by decide) (by omega) hi, d_unsigned, u_Md_steady_60, u_Md_steady_65, u_Md_steady_77, u_Md_steady_89, nI_1]
      obtain ⟨o, l⟩ := x
      unfold gSt
      cases o with
      | none => exact ⟨(_, _), by rw [if_pos (show enc none < 0 by decide)]; rfl⟩
      | some k =>
        have hk := hr k rfl
        dsimp only
        rw [show enc (some k) = nI k from rfl, if_neg (nI_pos (by omega))]
        by_cases h : ab (aOut (aPQ π s).1 i - aOut s i) < l
        · exact ⟨(_, _), by rw [if_neg (Int32.not_le.mpr h), if_pos h]; rfl⟩
        · exact ⟨(_, _), by rw [if_pos (Int32.not_lt.mp h), if_neg h]; rfl⟩, gSt_lt hr⟩) π.1 0 (none, none) (none, 0) (by omega) (fun _ h => by cases h)
    refine Eq.trans (b := f_Md_steady_22 X 175 (enc none) 0 (nI 0) none none (hp m4)) rfl ?_
    rw [show f_Md_steady_22 X 175 (enc none) 0 (nI 0) none none (hp m4) = _ from h1, u_Md_steady_22]
    simp only [tIs, tVs, bs, if_true, true_or, or_true, i10, if_false, not_false_eq_true, not_true_eq_false, Md_rc, Md_f1, Md_f4, Md_f5, Md_f6, Md_f9, Md_f10, Md_f11, Md_f12, Md_f14, Md_f15, Md_f18, Md_f19, Md_f20, Md_f21, Md_f23, Md_f24, Md_f25, Md_f26, Md_f28, m_n hM4.1]
    rw [if_pos (nI_le (Nat.le_refl _) (by omega))]
/-- one's time goes on to 0, or past it, in this QUARTER -/
def cr (π : aP) (k : Nat) (t : aS) : Bool := !decide (t.1 k + t.2.1 k / 4 + stp (π.2.1 k) < 720)
theorem or_nI : ∀ w, w < 64 → ∀ i, i < 6 → nI w ||| ((1 : Int32) <<< (nI i &&& 31)) = nI (w ||| 2 ^ i) ∧ w ||| 2 ^ i < 64 := by decide +kernel
theorem has_nI : ∀ w, w < 64 → ∀ k, k < 6 → ((nI w >>> (nI k &&& 31)) &&& 1 = 0) = (w.testBit k = false) := by decide +kernel
theorem past_bits {K : Nat → Int32} {n : Nat} (hn : n ≤ 6) : ∀ (d i w : Nat) (t : aS), i + d = n → w < 64 → ∃ w', w' < 64 ∧ (fr (tm1 K) d i (t, nI w)).2 = nI w' ∧ ∀ k, k < 6 → w'.testBit k = (w.testBit k || (decide (i ≤ k ∧ k < n) && !decide (t.1 k + t.2.1 k / 4 + stp (K k) < 720))) := by
  intro d
  induction d with
  | zero =>
    intro i w t hi hw
    refine ⟨w, hw, by simp only [fr], fun k hk => ?_⟩
    rw [show decide (i ≤ k ∧ k < n) = false from decide_eq_false (by omega)]
    simp
  | succ d ih =>
    intro i w t hi hw
    simp only [fr]
    unfold tm1
    dsimp only
    by_cases h7 : t.1 i + t.2.1 i / 4 + stp (K i) < 720
    · rw [if_pos h7]
      obtain ⟨w', h1, h2, h3⟩ := ih (i + 1) w _ (by omega) hw
      refine ⟨w', h1, h2, fun k hk => ?_⟩
      rw [h3 k hk]
      dsimp only
      by_cases hki : k = i
      · subst hki
        rw [show decide (k + 1 ≤ k ∧ k < n) = false from decide_eq_false (by omega), decide_eq_true h7]
        simp
      · have e : ∀ x, upd t.1 i x k = t.1 k := fun x => pk_un hki
        simp only [e]
        have : decide (i + 1 ≤ k ∧ k < n) = decide (i ≤ k ∧ k < n) := by simp only [decide_eq_decide]; omega
        rw [this]
    · rw [if_neg h7]
      obtain ⟨o1, o2⟩ := or_nI w hw i (by omega)
      rw [o1]
      obtain ⟨w', h1, h2, h3⟩ := ih (i + 1) (w ||| 2 ^ i) _ (by omega) o2
      refine ⟨w', h1, h2, fun k hk => ?_⟩
      rw [h3 k hk, Nat.testBit_or, Nat.testBit_two_pow]
      dsimp only
      by_cases hki : k = i
      · subst hki
        rw [show decide (k + 1 ≤ k ∧ k < n) = false from decide_eq_false (by omega), decide_eq_false h7, show decide (k ≤ k ∧ k < n) = true from decide_eq_true (by omega)]
        simp
      · have e : ∀ x, upd t.1 i x k = t.1 k := fun x => pk_un hki
        simp only [e]
        rw [decide_eq_false (show ¬ i = k by omega)]
        have : decide (i + 1 ≤ k ∧ k < n) = decide (i ≤ k ∧ k < n) := by simp only [decide_eq_decide]; omega
        rw [this]
        simp
theorem aPQ_bits (hn : π.1 ≤ 6) (t : aS) : ∃ w, w < 64 ∧ (aPQ π t).2 = nI w ∧ ∀ k, k < 6 → w.testBit k = (decide (k < π.1) && cr π k t) := by
  obtain ⟨w, h1, h2, h3⟩ := past_bits (K := π.2.1) hn π.1 0 0 t (by omega) (by decide)
  refine ⟨w, h1, h2, fun k hk => ?_⟩
  rw [h3 k hk]
  unfold cr
  simp
theorem c_has {v : Int32} {k : Nat} {h : pv_H} : pM X m_Wp_has [.int v, .int (nI k)] h = some (some (.int (if (v >>> (nI k &&& 31)) &&& 1 = 0 then 0 else 1)), h) := by
  rw [e_Wp_has, u_Wp_has_0]
  simp only [u_Wp_has_13, tIs, tVs, bs, if_true, true_or, or_true, i10, if_false, not_false_eq_true, not_true_eq_false]
  split <;> rfl
theorem w_noonLoop {k : Nat} (hC : HC m P π s) (hk : k < π.1) {m1 : pm_M} (q1 : Q m m1) (v1 : vw m1 39 = s) : ∃ m', f_Wp_noon_23 X 0 (nI k) (nI 1) (hp m1) = some (some (.int (enc (fq π (cr π k) 96 1 s))), hp m') ∧ Q m m' := by
  have hn := hC.n6
  rw [← fx_fq]
  refine lgx (n := 97) (F := fun (_ : Unit) (t : aS) i m => f_Wp_noon_23 X 0 (nI k) (nI i) (hp m)) (R := fun _ t m' => Q m m' ∧ vw m' 39 = t) (Z := Q m) (c := fun i (t : aS) => if cr π k t then some (nI i) else none) (fun _ t i m2 hi hr => ?_) (fun _ t m2 hr => ⟨m2, ?_, hr.1⟩) 96 1 () s m1 (by omega) ⟨q1, v1⟩
  · have hC2 := hC.q hr.1
    obtain ⟨m3, e3, q3, v3⟩ := w_pass (X := X) hC2 hr.2
    obtain ⟨w, w1, w2, w3⟩ := aPQ_bits hn t
    have e : f_Wp_noon_23 X 0 (nI k) (nI i) (hp m2) = if cr π k t then some (some (.int (nI i)), hp m3) else f_Wp_noon_23 X 0 (nI k) (nI (i + 1)) (hp m3) := by
      rw [u_Wp_noon_23, if_neg (in_u (U := 96) rfl (show i ≤ 96 by omega) (by decide))]
      simp only [tIs, tVs, bs, if_true, true_or, or_true, i10, if_false, not_false_eq_true, not_true_eq_false, Wp_rc, Wp_f5, Wp_f6, Wp_f7, Wp_f8, Wp_f9, Wp_f10, Wp_f11, Wp_f12, Wp_f13, Wp_f14, hC2.f1, hC2.rc, e3, c_has, nI_1]
      rw [w2]
      have hz := has_nI w w1 k (by omega)
      rw [w3 k (by omega), decide_eq_true hk, Bool.true_and] at hz
      simp only [hz]
      cases cr π k t <;> simp
    by_cases h : cr π k t
    · exact Or.inl ⟨nI i, m3, by rw [if_pos h], by rw [e, if_pos h], hr.1.tr q3⟩
    · exact Or.inr ⟨by rw [if_neg h], (), m3, by rw [e, if_neg h], hr.1.tr q3, v3⟩
  · rw [u_Wp_noon_23, if_pos (by decide)]
theorem m_noonOf {k : Nat} (hM : HM m π s c) (hk : k < π.1) : ∃ m', pM X m_Md_noonOf [.ref 175, .int (nI k)] (hp m) = some (some (.int (enc (fq π (cr π k) 96 1 s))), hp m') ∧ Q m m' := by
  have hn := hM.1.1
  have hc := hM.2.2.2
  obtain ⟨m1, e1, q1, v1⟩ := m_tries (X := X) hM
  rw [e_Md_noonOf, u_Md_noonOf_0]
  simp only [tIs, tVs, bs, if_true, true_or, or_true, i10, if_false, not_false_eq_true, not_true_eq_false, Md_rc, Md_f1, Md_f4, Md_f5, Md_f6, Md_f9, Md_f10, Md_f11, Md_f12, Md_f14, Md_f15, Md_f18, Md_f19, Md_f20, Md_f21, Md_f23, Md_f24, Md_f25, Md_f26, Md_f28, e1]
  rw [← fx_fq]
  refine lgx (n := 97) (F := fun (_ : Unit) (t : aS) i m => f_Md_noonOf_6 X 175 (nI k) (nI i) (hp m)) (R := fun i t m' => Q m m' ∧ vm m' 1071 = t ∧ okS π.1 (c + i) t) (Z := Q m) (c := fun i (t : aS) => if cr π k t then some (nI i) else none) (fun _ t i m2 hi hr => ?_) (fun _ t m2 hr => ⟨m2, ?_, hr.1⟩) 96 1 () s m1 (by omega) ⟨q1, v1, ?_⟩
  · have hM2 := hM.q hr.1
    obtain ⟨m3, e3, q3, v3⟩ := m_pass (X := X) (B := 1071) hM2.1 hr.2.1 hr.2.2 rfl (by decide) (by decide) (by omega)
    have e : f_Md_noonOf_6 X 175 (nI k) (nI i) (hp m2) = if cr π k t then some (some (.int (nI i)), hp m2) else f_Md_noonOf_6 X 175 (nI k) (nI (i + 1)) (hp m3) := by
      rw [u_Md_noonOf_6, if_neg (in_u (U := 96) rfl (show i ≤ 96 by omega) (by decide))]
      simp only [tIs, tVs, bs, if_true, true_or, or_true, i10, if_false, not_false_eq_true, not_true_eq_false, Md_rc, Md_f1, Md_f4, Md_f5, Md_f6, Md_f9, Md_f10, Md_f11, Md_f12, Md_f14, Md_f15, Md_f18, Md_f19, Md_f20, Md_f21, Md_f23, Md_f24, Md_f25, Md_f26, Md_f28, vm_a7 (B := 1078 + nI k) hr.2.1 (show k < 6 by omega) (by decide) (by rw [show (1078 : Int32) = nI 1078 from rfl, nI_add])]
      have es := d_stepOf (X := X) (m := m2) (b := 1071) (k := k) (by decide) (by omega)
      rw [hr.2.1, hM2.1.2.2.1 k hk, show (nI 1071 : Int32) = 1071 from rfl] at es
      simp only [tIs, tVs, bs, if_true, true_or, or_true, i10, if_false, not_false_eq_true, not_true_eq_false, Md_rc, Md_f1, Md_f4, Md_f5, Md_f6, Md_f9, Md_f10, Md_f11, Md_f12, Md_f14, Md_f15, Md_f18, Md_f19, Md_f20, Md_f21, Md_f23, Md_f24, Md_f25, Md_f26, Md_f28, es, e3, nI_1]
      rw [← Int32.add_assoc]
      unfold cr
      by_cases h7 : t.1 k + t.2.1 k / 4 + stp (π.2.1 k) < 720
      · rw [if_pos h7, decide_eq_true h7]; rfl
      · rw [if_neg h7, decide_eq_false h7]; rfl
    by_cases h : cr π k t
    · exact Or.inl ⟨nI i, m2, by rw [if_pos h], by rw [e, if_pos h], hr.1⟩
    · exact Or.inr ⟨by rw [if_neg h], (), m3, by rw [e, if_neg h], hr.1.tr q3, v3, okS_aPQ (RM_okA hM.1) hr.2.2⟩
  · rw [u_Md_noonOf_6, if_pos (by decide)]
  · obtain ⟨a1, a2, q, a3, a4⟩ := hM.2.2.1
    exact ⟨a1, a2, q, by omega, a4⟩
theorem q_noon (hC : HC m P π s) (hM : HM m π s c) (p : Int32) : Ag X m_Wp_noon m_Md_noon [.int p] m := by
  have hn := hC.n6
  rcases prs p hn with ⟨k, hk, rfl⟩ | hb
  · refine Ag.mk (enc (fq π (cr π k) 96 1 s)) ?_ (fun m1 hq => ?_)
    · obtain ⟨m1, e1, q1, v1⟩ := w_copy (X := X) hC
      obtain ⟨m2, e2, q2⟩ := w_noonLoop (X := X) hC hk q1 v1
      refine ⟨m2, ?_, q2⟩
      rw [show (nI 1 : Int32) = 1 from rfl] at e2
      rw [e_Wp_noon, u_Wp_noon_0]
      simp only [tIs, tVs, bs, if_true, true_or, or_true, i10, if_false, not_false_eq_true, not_true_eq_false, Wp_rc, Wp_f5, Wp_f6, Wp_f7, Wp_f8, Wp_f9, Wp_f10, Wp_f11, Wp_f12, Wp_f13, Wp_f14, w_isP1 hC hk, St_rc isSt_39, e1, e2]
    · obtain ⟨m2, e2, q2⟩ := m_t0 (m := m1)
      have hM2 := hM.q (hq.tr q2)
      obtain ⟨m3, e3, q3⟩ := m_noonOf (X := X) hM2 hk
      refine ⟨m3, ?_, q2.tr q3⟩
      rw [e_Md_noon, u_Md_noon_0, e2]
      simp only [tIs, tVs, bs, if_true, true_or, or_true, i10, if_false, not_false_eq_true, not_true_eq_false, Md_rc, Md_f1, Md_f4, Md_f5, Md_f6, Md_f9, Md_f10, Md_f11, Md_f12, Md_f14, Md_f15, Md_f18, Md_f19, Md_f20, Md_f21, Md_f23, Md_f24, Md_f25, Md_f26, Md_f28, m_isP1 hM2.1 hk, e3, u_Md_noon_22]
  · refine Ag.mk (-1) ⟨m, ?_, Q.rf⟩ (fun m1 hq => ?_)
    · rw [e_Wp_noon, u_Wp_noon_0]
      simp only [tIs, tVs, bs, if_true, true_or, or_true, i10, if_false, not_false_eq_true, not_true_eq_false, Wp_rc, Wp_f5, Wp_f6, Wp_f7, Wp_f8, Wp_f9, Wp_f10, Wp_f11, Wp_f12, Wp_f13, Wp_f14, w_isP0 hC hb]
    · obtain ⟨m2, e2, q2⟩ := m_t0 (m := m1)
      refine ⟨m2, ?_, q2⟩
      rw [e_Md_noon, u_Md_noon_0]
      simp only [tIs, tVs, bs, if_true, true_or, or_true, i10, if_false, not_false_eq_true, not_true_eq_false, Md_rc, Md_f1, Md_f4, Md_f5, Md_f6, Md_f9, Md_f10, Md_f11, Md_f12, Md_f14, Md_f15, Md_f18, Md_f19, Md_f20, Md_f21, Md_f23, Md_f24, Md_f25, Md_f26, Md_f28, e2, m_isP0 (hM.q (hq.tr q2)).1 hb, u_Md_noon_22]
end Q5
