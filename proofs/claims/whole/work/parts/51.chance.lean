/-! chance. -/
theorem has1_nI : ∀ w, w < 64 → ∀ k, k < 6 → ((nI w >>> (nI k &&& 31)) &&& 1 = 1) = (w.testBit k = true) := by decide +kernel
theorem shl_nI : ∀ q, q ≤ 6 → (1 : Int32) <<< (nI q &&& 31) = nI (2 ^ q) ∧ 2 ^ q ≤ 64 := by decide +kernel
theorem pow_le6 : ∀ q, q ≤ 6 → 10 ^ (6 - q) * 10 ^ q = 1000000 ∧ 0 < 10 ^ q ∧ 10 ^ q ≤ 1000000 := by decide
section QA
variable {m : pm_M} {X : pv_X} {P c k o q f : Nat} {π : aP} {s : aS}
def gCh (π : aP) (k o f i : Nat) (y : aS × Nat) : aS × Nat := ((aPQ π (aMov y.1 k (if f.testBit i then 20 else 0))).1, y.2 * (if f.testBit i then o else 10 - o))
def gCc (π : aP) (k o q f i : Nat) (y : aS × Nat) : aS × Nat := if i < q then gCh π k o f i y else (y.1, y.2 * 10)
def rCh (π : aP) (s : aS) (k o q f : Nat) : aS × Nat := fr (gCh π k o f) q 0 (s, 1)
theorem fr_add {σ : Type} {g : Nat → σ → σ} : ∀ (a b i : Nat) (x : σ), fr g (a + b) i x = fr g b (i + a) (fr g a i x)
  | 0, b, i, x => by simp only [Nat.zero_add, fr, Nat.add_zero]
  | a + 1, b, i, x => by rw [show a + 1 + b = (a + b) + 1 by omega, fr, fr_add a b (i + 1)]; simp only [fr]; rw [show i + 1 + a = i + (a + 1) by omega]
theorem gCc_eq (hq : q ≤ 6) : fr (gCc π k o q f) 6 0 (s, 1) = ((rCh π s k o q f).1, (rCh π s k o q f).2 * 10 ^ (6 - q)) := by
  rw [show (6 : Nat) = q + (6 - q) by omega, fr_add q (6 - q) 0, Nat.zero_add]
  have e1 : fr (gCc π k o q f) q 0 (s, 1) = rCh π s k o q f := fr_ext (fun i y hi => by unfold gCc; rw [if_pos hi]) _
  rw [e1]
  have : ∀ (d i : Nat) (y : aS × Nat), q ≤ i → fr (gCc π k o q f) d i y = (y.1, y.2 * 10 ^ d) := by
    intro d
    induction d with
    | zero => intro i y _; simp only [fr, Nat.pow_zero, Nat.mul_one]
    | succ d ih =>
      intro i y hi
      simp only [fr]
      rw [ih (i + 1) _ (by omega)]
      unfold gCc
      rw [if_neg (by omega)]
      dsimp only
      rw [Nat.pow_succ, Nat.mul_comm (10 ^ d) 10, Nat.mul_assoc]
  rw [this (6 - q) q _ (Nat.le_refl _), show q + (6 - q) - q = 6 - q by omega]
theorem rCh_le (ho : o ≤ 10) (hq : q ≤ 6) : (rCh π s k o q f).2 ≤ 1000000 := by
  have : (rCh π s k o q f).2 ≤ 10 ^ q := fr_inv (n := q) (R := fun i (y : aS × Nat) => y.2 ≤ 10 ^ i) (fun i y hi hr => by
    unfold gCh
    dsimp only
    rw [Nat.pow_succ]
    refine Nat.mul_le_mul hr ?_
    split <;> omega) q 0 (s, 1) (by omega) (by simp)
  exact Nat.le_trans this (pow_le6 q hq).2.2
def gSm (π : aP) (s : aS) (k o q : Nat) (mi : Int32) (f S : Nat) : Nat := if ab (aOut (rCh π s k o q f).1 k) < mi then S else S + (rCh π s k o q f).2
theorem sub_10 : ∀ o, o ≤ 10 → (10 : Int32) - nI o = nI (10 - o) := by decide
theorem q_chance (hC : HC m P π s) (hM : HM m π s c) (p1 p2 p3 p4 : Int32) : Ag X m_Wp_chance m_Md_chance [.int p1, .int p2, .int p3, .int p4] m := by
  have hn := hC.n6
  have hc := hM.2.2.2
  rcases prs p1 hn with ⟨k, hk, rfl⟩ | hb
  · rcases wthL p2 (L := 1) (U := 60) (l := 1) (u := 60) rfl rfl (by decide) (by decide) with ⟨w, a0, a1, rfl⟩ | hb
    · have iw : ∀ h, pM X m_Wp_isWithin [.int (nI w), .int 1, .int 60] h = some (some (.int 1), h) := fun h => w_in1 (in_l (L := 1) rfl a0 (by omega)) (in_u (U := 60) rfl a1 (by decide))
      have jw : ∀ h, pM X m_Md_within [.int (nI w), .int 1, .int 60] h = some (some (.int 1), h) := fun h => m_in1 (in_l (L := 1) rfl a0 (by omega)) (in_u (U := 60) rfl a1 (by decide))
      rcases wthL p3 (L := 1) (U := 6) (l := 1) (u := 6) rfl rfl (by decide) (by decide) with ⟨q, b0, b1, rfl⟩ | hb
      · have iq : ∀ h, pM X m_Wp_isWithin [.int (nI q), .int 1, .int 6] h = some (some (.int 1), h) := fun h => w_in1 (in_l (L := 1) rfl b0 (by omega)) (in_u (U := 6) rfl b1 (by decide))
        have jq : ∀ h, pM X m_Md_within [.int (nI q), .int 1, .int 6] h = some (some (.int 1), h) := fun h => m_in1 (in_l (L := 1) rfl b0 (by omega)) (in_u (U := 6) rfl b1 (by decide))
        rcases wthL p4 (L := 0) (U := 10) (l := 0) (u := 10) rfl rfl (by decide) (by decide) with ⟨o, c0, c1, rfl⟩ | hb
        · have io : ∀ h, pM X m_Wp_isWithin [.int (nI o), .int 0, .int 10] h = some (some (.int 1), h) := fun h => w_in1 (in_l (L := 0) rfl c0 (by omega)) (in_u (U := 10) rfl c1 (by decide))
          have jo : ∀ h, pM X m_Md_within [.int (nI o), .int 0, .int 10] h = some (some (.int 1), h) := fun h => m_in1 (in_l (L := 0) rfl c0 (by omega)) (in_u (U := 10) rfl c1 (by decide))
          obtain ⟨sh1, sh2⟩ := shl_nI q b1
          obtain ⟨pw1, pw2, pw3⟩ := pow_le6 q b1
          refine Ag.mk (nI (fr (gSm π s k o q (nI w)) (2 ^ q) 0 0 * 10 ^ (6 - q))) ?_ (fun m1 hq => ?_)
          · unfold Gi
            rw [e_Wp_chance, u_Wp_chance_0]
            simp only [tIs, tVs, bs, if_true, true_or, or_true, i10, if_false, not_false_eq_true, not_true_eq_false, Wp_rc, Wp_f5, Wp_f6, Wp_f7, Wp_f8, Wp_f9, Wp_f10, Wp_f11, Wp_f12, Wp_f13, Wp_f14, w_isP1 hC hk, iw, iq, io]
            obtain ⟨⟨g1, g2⟩, m', h2, h3⟩ := lg (n := 2 ^ q) (F := fun (g : Option Value × Option Value) (S : Nat) f m => f_Wp_chance_49 X 0 (nI k) (nI w) (nI q) (nI o) (nI (S * 10 ^ (6 - q))) (nI f) g.1 g.2 (hp m)) (R := fun _ _ m' => Q m m') (g := gSm π s k o q (nI w)) (fun g S f m2 hf hr => by
              have hC2 := hC.q hr
              obtain ⟨m3, e3, q3, v3⟩ := w_copy (X := X) hC2
              obtain ⟨-, m4, h4, q4, v4⟩ := lg (n := 6) (F := fun (_ : Unit) (y : aS × Nat) i m => f_Wp_chance_74 X 0 (nI k) (nI w) (nI q) (nI o) (nI (S * 10 ^ (6 - q))) (nI f) (nI y.2) (nI i) (hp m)) (R := fun _ y m' => Q m m' ∧ vw m' 39 = y.1) (g := gCc π k o q f) (fun _ y i m4 hi hr4 => by
                have hC4 := hC.q hr4.1
                rw [u_Wp_chance_74, if_neg (show ¬ (6 : Int32) ≤ nI i from nI_ge (b := 6) hi (by decide))]
                unfold gCc
                by_cases hiq : i < q
                · rw [if_pos (nI_lt hiq (by omega)), if_pos hiq]
                  obtain ⟨m5, e5, q5, v5⟩ := w_move (X := X) (m := m4) (k := k) (v := if f.testBit i then 20 else 0) hr4.2 (by omega)
                  obtain ⟨m6, e6, q6, v6⟩ := w_pass (X := X) (hC4.q q5) v5
                  refine ⟨(), m6, ?_, hr4.1.tr (q5.tr q6), v6⟩
                  simp only [tIs, tVs, bs, if_true, true_or, or_true, i10, if_false, not_false_eq_true, not_true_eq_false, Wp_rc, Wp_f5, Wp_f6, Wp_f7, Wp_f8, Wp_f9, Wp_f10, Wp_f11, Wp_f12, Wp_f13, Wp_f14, c_has, u_Wp_chance_119, has_nI f (by omega) i hi]
                  unfold gCh
                  cases hb : f.testBit i with
                  | true =>
                    rw [hb] at e5
                    simp only [if_true] at e5
                    simp only [tIs, tVs, bs, if_true, true_or, or_true, i10, if_false, not_false_eq_true, not_true_eq_false, Wp_rc, Wp_f5, Wp_f6, Wp_f7, Wp_f8, Wp_f9, Wp_f10, Wp_f11, Wp_f12, Wp_f13, Wp_f14, Bool.true_eq_false, u_Wp_chance_143, St_rc isSt_39, e5, (hC4.q q5).f1, (hC4.q q5).rc, e6, u_Wp_chance_158, nI_1, pk_mul]
                  | false =>
                    rw [hb] at e5
                    simp only [Bool.false_eq_true, if_false] at e5
                    simp only [tIs, tVs, bs, if_true, true_or, or_true, i10, if_false, not_false_eq_true, not_true_eq_false, Wp_rc, Wp_f5, Wp_f6, Wp_f7, Wp_f8, Wp_f9, Wp_f10, Wp_f11, Wp_f12, Wp_f13, Wp_f14, Bool.false_eq_true, u_Wp_chance_143, St_rc isSt_39, e5, (hC4.q q5).f1, (hC4.q q5).rc, e6, u_Wp_chance_158, nI_1, sub_10 o c1, pk_mul]
                · rw [if_neg (nI_nlt (by omega) (by omega)), if_neg hiq, u_Wp_chance_158, nI_1, show (10 : Int32) = nI 10 from rfl, pk_mul]
                  exact ⟨(), m4, rfl, hr4⟩) 6 0 () (s, 1) m3 (by omega) ⟨hr.tr q3, v3⟩
              rw [gCc_eq b1] at h4 v4
              dsimp only at v4
              refine ⟨(some (.int (nI ((rCh π s k o q f).2 * 10 ^ (6 - q)))), some (.int (nI 6))), m4, ?_, q4⟩
              rw [u_Wp_chance_49, sh1, if_neg (nI_ge hf (by omega))]
              simp only [tIs, tVs, bs, if_true, true_or, or_true, i10, if_false, not_false_eq_true, not_true_eq_false, Wp_rc, Wp_f5, Wp_f6, Wp_f7, Wp_f8, Wp_f9, Wp_f10, Wp_f11, Wp_f12, Wp_f13, Wp_f14, St_rc isSt_39, e3]
              refine Eq.trans (b := f_Wp_chance_74 X 0 (nI k) (nI w) (nI q) (nI o) (nI (S * 10 ^ (6 - q))) (nI f) (nI 1) (nI 0) (hp m3)) rfl ?_
              rw [show f_Wp_chance_74 X 0 (nI k) (nI w) (nI q) (nI o) (nI (S * 10 ^ (6 - q))) (nI f) (nI 1) (nI 0) (hp m3) = _ from h4, u_Wp_chance_74, if_pos (by decide)]
              simp only [tIs, tVs, bs, if_true, true_or, or_true, i10, if_false, not_false_eq_true, not_true_eq_false, Wp_rc, Wp_f5, Wp_f6, Wp_f7, Wp_f8, Wp_f9, Wp_f10, Wp_f11, Wp_f12, Wp_f13, Wp_f14, vw_far isSt_39 (show k < 6 by omega) v4, u_Wp_chance_183, nI_1, nI_add]
              unfold gSm
              by_cases hf' : ab (aOut (rCh π s k o q f).1 k) < nI w
              · rw [if_pos hf', if_pos hf']
              · rw [if_neg hf', if_neg hf', Nat.add_mul]) (2 ^ q) 0 (none, none) 0 m (by omega) Q.rf
            refine ⟨m', ?_, h3⟩
            refine Eq.trans (b := f_Wp_chance_49 X 0 (nI k) (nI w) (nI q) (nI o) (nI (0 * 10 ^ (6 - q))) (nI 0) none none (hp m)) (by rw [Nat.zero_mul]; rfl) ?_
            rw [show f_Wp_chance_49 X 0 (nI k) (nI w) (nI q) (nI o) (nI (0 * 10 ^ (6 - q))) (nI 0) none none (hp m) = _ from h2, u_Wp_chance_49, sh1, if_pos (nI_le (Nat.le_refl _) (by omega))]
          · obtain ⟨m2, e2, q2⟩ := m_t0 (m := m1)
            have hM2 := hM.q (hq.tr q2)
            unfold Gi
            rw [e_Md_chance, u_Md_chance_0, e2]
            simp only [tIs, tVs, bs, if_true, true_or, or_true, i10, if_false, not_false_eq_true, not_true_eq_false, Md_rc, Md_f1, Md_f4, Md_f5, Md_f6, Md_f9, Md_f10, Md_f11, Md_f12, Md_f14, Md_f15, Md_f18, Md_f19, Md_f20, Md_f21, Md_f23, Md_f24, Md_f25, Md_f26, Md_f28, m_isP1 hM2.1 hk, jw, jq, jo]
            have hall := lp0 (n := q) (F := fun (A : Nat) i => f_Md_chance_55 X 175 (nI k) (nI w) (nI q) (nI o) (lN A) 0 (nI i) (hp m2)) (g := fun _ A => A * 10) (fun A i hi => by
              rw [u_Md_chance_55, if_neg (nI_ge hi (by omega)), show (10 : Int64) = lN 10 from rfl, lN_mul, nI_1]) q 0 1 (by omega)
            have hA : fr (fun _ A => A * 10) q 0 1 = 10 ^ q := by
              have := fr_inv (n := q) (R := fun i (A : Nat) => A = 10 ^ i) (g := fun _ A => A * 10) (fun i A _ h => by rw [h, Nat.pow_succ]) q 0 1 (by omega) rfl
              exact this
            rw [hA] at hall
            obtain ⟨⟨g1, g2, g3⟩, m', h2, h3, h5⟩ := lg (n := 2 ^ q) (F := fun (g : Option Value × Option Value × Option Value) (S : Nat) f m => f_Md_chance_78 X 175 (nI k) (nI w) (nI q) (nI o) (lN (10 ^ q)) (lN S) (nI f) g.1 g.2.1 g.2.2 (hp m)) (R := fun f S m' => Q m1 m' ∧ S ≤ f * 1000000) (g := gSm π s k o q (nI w)) (fun g S f m4 hf hr => by
              have hM4 := (hM.q hq).q hr.1
              obtain ⟨m5, e5, q5, v5⟩ := m_tries (X := X) hM4
              obtain ⟨g6, m6, h6, q6, v6, ok6⟩ := lg (n := q) (F := fun (g : Option Value) (y : aS × Nat) i m => f_Md_chance_96 X 175 (nI k) (nI w) (nI q) (nI o) (lN (10 ^ q)) (lN S) (nI f) (lN y.2) (nI i) g (hp m)) (R := fun i y m' => Q m1 m' ∧ vm m' 1071 = y.1 ∧ okS π.1 (c + i) y.1) (g := gCh π k o f) (fun g y i m6 hi hr6 => by
                have hM6 := (hM.q hq).q hr6.1
                obtain ⟨m7, e7, q7, v7⟩ := m_move (X := X) (m := m6) (B := 1071) (k := k) (v := if f.testBit i then 20 else 0) hr6.2.1 rfl (by decide) (by decide) (by omega)
                obtain ⟨m8, e8, q8, v8⟩ := m_pass (X := X) (B := 1071) (hM6.q q7).1 v7 (okS_mov hr6.2.2) rfl (by decide) (by decide) (by omega)
                refine ⟨some (.int (if f.testBit i then 1 else 0)), m8, ?_, hr6.1.tr (q7.tr q8), v8, okS_aPQ (RM_okA hM.1) (okS_mov hr6.2.2)⟩
                rw [u_Md_chance_96, if_neg (nI_ge hi (by omega))]
                simp only [has1_nI f (show f < 64 by omega) i (show i < 6 by omega)]
                unfold gCh
                cases hb : f.testBit i with
                | true =>
                  rw [hb] at e7
                  simp only [if_true] at e7
                  simp only [tIs, tVs, bs, if_true, true_or, or_true, i10, if_false, not_false_eq_true, not_true_eq_false, Md_rc, Md_f1, Md_f4, Md_f5, Md_f6, Md_f9, Md_f10, Md_f11, Md_f12, Md_f14, Md_f15, Md_f18, Md_f19, Md_f20, Md_f21, Md_f23, Md_f24, Md_f25, Md_f26, Md_f28, u_Md_chance_118, u_Md_chance_139, u_Md_chance_158, e7, e8, nI_1, nI_l (show o < 2 ^ 31 by omega), lN_mul]
                | false =>
                  rw [hb] at e7
                  simp only [Bool.false_eq_true, if_false] at e7
                  simp only [tIs, tVs, bs, if_true, true_or, or_true, i10, if_false, not_false_eq_true, not_true_eq_false, Md_rc, Md_f1, Md_f4, Md_f5, Md_f6, Md_f9, Md_f10, Md_f11, Md_f12, Md_f14, Md_f15, Md_f18, Md_f19, Md_f20, Md_f21, Md_f23, Md_f24, Md_f25, Md_f26, Md_f28, Bool.false_eq_true, u_Md_chance_118, u_Md_chance_139, u_Md_chance_158, e7, e8, nI_1, sub_10 o c1, nI_l (show 10 - o < 2 ^ 31 by omega), lN_mul]) q 0 g.2.2 (s, 1) m5 (by omega) ⟨hr.1.tr q5, v5, hM.2.2.1⟩
              rw [show fr (gCh π k o f) q 0 (s, 1) = rCh π s k o q f from rfl] at h6 v6 ok6
              have hrc := rCh_le (π := π) (s := s) (k := k) (f := f) c1 b1
              refine ⟨(some (.long (lN (rCh π s k o q f).2)), some (.int (nI q)), g6), m6, ?_, q6, ?_⟩
              · rw [u_Md_chance_78, sh1, if_neg (nI_ge hf (by omega))]
                simp only [tIs, tVs, bs, if_true, true_or, or_true, i10, if_false, not_false_eq_true, not_true_eq_false, Md_rc, Md_f1, Md_f4, Md_f5, Md_f6, Md_f9, Md_f10, Md_f11, Md_f12, Md_f14, Md_f15, Md_f18, Md_f19, Md_f20, Md_f21, Md_f23, Md_f24, Md_f25, Md_f26, Md_f28, e5]
                refine Eq.trans (b := f_Md_chance_96 X 175 (nI k) (nI w) (nI q) (nI o) (lN (10 ^ q)) (lN S) (nI f) (lN 1) (nI 0) g.2.2 (hp m5)) rfl ?_
                rw [show f_Md_chance_96 X 175 (nI k) (nI w) (nI q) (nI o) (lN (10 ^ q)) (lN S) (nI f) (lN 1) (nI 0) g.2.2 (hp m5) = _ from h6, u_Md_chance_96, if_pos (nI_le (Nat.le_refl _) (by omega))]
                simp only [tIs, tVs, bs, if_true, true_or, or_true, i10, if_false, not_false_eq_true, not_true_eq_false, Md_rc, Md_f1, Md_f4, Md_f5, Md_f6, Md_f9, Md_f10, Md_f11, Md_f12, Md_f14, Md_f15, Md_f18, Md_f19, Md_f20, Md_f21, Md_f23, Md_f24, Md_f25, Md_f26, Md_f28, m_out (B := 1071) ((hM.q hq).q q6).1 v6 ok6 rfl (by decide) (by omega) hk, d_unsigned, u_Md_chance_197, nI_1]
                unfold gSm
                by_cases hf' : ab (aOut (rCh π s k o q f).1 k) < nI w
                · rw [if_pos hf', if_pos hf', Int64.add_zero]
                · rw [if_neg hf', if_neg hf', lN_add]
              · have := hr.2
                unfold gSm
                rw [Nat.succ_mul]
                split
                · exact Nat.le_trans this (Nat.le_add_right _ _)
                · exact Nat.add_le_add this hrc) (2 ^ q) 0 (none, none, none) 0 m2 (Nat.zero_add _) ⟨q2, Nat.zero_le _⟩
            refine ⟨m', ?_, h3⟩
            refine Eq.trans (b := f_Md_chance_55 X 175 (nI k) (nI w) (nI q) (nI o) (lN 1) 0 (nI 0) (hp m2)) rfl ?_
            rw [hall, u_Md_chance_55, if_pos (nI_le (Nat.le_refl _) (by omega))]
            refine Eq.trans (b := f_Md_chance_78 X 175 (nI k) (nI w) (nI q) (nI o) (lN (10 ^ q)) (lN 0) (nI 0) none none none (hp m2)) rfl ?_
            rw [show f_Md_chance_78 X 175 (nI k) (nI w) (nI q) (nI o) (lN (10 ^ q)) (lN 0) (nI 0) none none none (hp m2) = _ from h2, u_Md_chance_78, sh1, if_pos (nI_le (Nat.le_refl _) (by omega)), if_neg (fun z => by
              have := (pk_lEQ (a := 10 ^ q) (b := 0) (by omega) (by decide)).mp z
              omega)]
            generalize fr (gSm π s k o q (nI w)) (2 ^ q) 0 0 = S at h5
            have hS : S ≤ 64 * 1000000 := Nat.le_trans h5 (Nat.mul_le_mul_right _ sh2)
            rw [show (1000000 : Int64) = lN 1000000 from rfl, lN_mul, pk_lDiv (by omega) pw2 (by omega), lN_i]
            have : S * 1000000 / 10 ^ q = S * 10 ^ (6 - q) := by
              rw [← pw1, ← Nat.mul_assoc, Nat.mul_div_cancel _ pw2]
            rw [this]
        · refine Ag.mk (-1) ⟨m, ?_, Q.rf⟩ (fun m1 hq => ?_)
          · rw [e_Wp_chance, u_Wp_chance_0]
            simp only [tIs, tVs, bs, if_true, true_or, or_true, i10, if_false, not_false_eq_true, not_true_eq_false, Wp_rc, Wp_f5, Wp_f6, Wp_f7, Wp_f8, Wp_f9, Wp_f10, Wp_f11, Wp_f12, Wp_f13, Wp_f14, w_isP1 hC hk, iw, iq, w_in0 hb, u_Wp_chance_41]
          · obtain ⟨m2, e2, q2⟩ := m_t0 (m := m1)
            refine ⟨m2, ?_, q2⟩
            rw [e_Md_chance, u_Md_chance_0]
            simp only [tIs, tVs, bs, if_true, true_or, or_true, i10, if_false, not_false_eq_true, not_true_eq_false, Md_rc, Md_f1, Md_f4, Md_f5, Md_f6, Md_f9, Md_f10, Md_f11, Md_f12, Md_f14, Md_f15, Md_f18, Md_f19, Md_f20, Md_f21, Md_f23, Md_f24, Md_f25, Md_f26, Md_f28, e2, m_isP1 (hM.q (hq.tr q2)).1 hk, jw, jq, m_in0 hb, u_Md_chance_44]
      · refine Ag.mk (-1) ⟨m, ?_, Q.rf⟩ (fun m1 hq => ?_)
        · rw [e_Wp_chance, u_Wp_chance_0]
          simp only [tIs, tVs, bs, if_true, true_or, or_true, i10, if_false, not_false_eq_true, not_true_eq_false, Wp_rc, Wp_f5, Wp_f6, Wp_f7, Wp_f8, Wp_f9, Wp_f10, Wp_f11, Wp_f12, Wp_f13, Wp_f14, w_isP1 hC hk, iw, w_in0 hb, u_Wp_chance_41]
        · obtain ⟨m2, e2, q2⟩ := m_t0 (m := m1)
          refine ⟨m2, ?_, q2⟩
          rw [e_Md_chance, u_Md_chance_0]
          simp only [tIs, tVs, bs, if_true, true_or, or_true, i10, if_false, not_false_eq_true, not_true_eq_false, Md_rc, Md_f1, Md_f4, Md_f5, Md_f6, Md_f9, Md_f10, Md_f11, Md_f12, Md_f14, Md_f15, Md_f18, Md_f19, Md_f20, Md_f21, Md_f23, Md_f24, Md_f25, Md_f26, Md_f28, e2, m_isP1 (hM.q (hq.tr q2)).1 hk, jw, m_in0 hb, u_Md_chance_44]
    · refine Ag.mk (-1) ⟨m, ?_, Q.rf⟩ (fun m1 hq => ?_)
      · rw [e_Wp_chance, u_Wp_chance_0]
        simp only [tIs, tVs, bs, if_true, true_or, or_true, i10, if_false, not_false_eq_true, not_true_eq_false, Wp_rc, Wp_f5, Wp_f6, Wp_f7, Wp_f8, Wp_f9, Wp_f10, Wp_f11, Wp_f12, Wp_f13, Wp_f14, w_isP1 hC hk, w_in0 hb, u_Wp_chance_18]
      · obtain ⟨m2, e2, q2⟩ := m_t0 (m := m1)
        refine ⟨m2, ?_, q2⟩
        rw [e_Md_chance, u_Md_chance_0]
        simp only [tIs, tVs, bs, if_true, true_or, or_true, i10, if_false, not_false_eq_true, not_true_eq_false, Md_rc, Md_f1, Md_f4, Md_f5, Md_f6, Md_f9, Md_f10, Md_f11, Md_f12, Md_f14, Md_f15, Md_f18, Md_f19, Md_f20, Md_f21, Md_f23, Md_f24, Md_f25, Md_f26, Md_f28, e2, m_isP1 (hM.q (hq.tr q2)).1 hk, m_in0 hb, u_Md_chance_44]
  · refine Ag.mk (-1) ⟨m, ?_, Q.rf⟩ (fun m1 hq => ?_)
    · rw [e_Wp_chance, u_Wp_chance_0]
      simp only [tIs, tVs, bs, if_true, true_or, or_true, i10, if_false, not_false_eq_true, not_true_eq_false, Wp_rc, Wp_f5, Wp_f6, Wp_f7, Wp_f8, Wp_f9, Wp_f10, Wp_f11, Wp_f12, Wp_f13, Wp_f14, w_isP0 hC hb, u_Wp_chance_18]
    · obtain ⟨m2, e2, q2⟩ := m_t0 (m := m1)
      refine ⟨m2, ?_, q2⟩
      rw [e_Md_chance, u_Md_chance_0]
      simp only [tIs, tVs, bs, if_true, true_or, or_true, i10, if_false, not_false_eq_true, not_true_eq_false, Md_rc, Md_f1, Md_f4, Md_f5, Md_f6, Md_f9, Md_f10, Md_f11, Md_f12, Md_f14, Md_f15, Md_f18, Md_f19, Md_f20, Md_f21, Md_f23, Md_f24, Md_f25, Md_f26, Md_f28, e2, m_isP0 (hM.q (hq.tr q2)).1 hb, u_Md_chance_44]
end QA
