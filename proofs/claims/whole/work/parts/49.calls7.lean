/-! cure, person, sums, years. -/
theorem fr2 {σ : Type} {g : Nat → σ → σ} : ∀ (d i : Nat) (x : σ), fr g (2 * d) (2 * i) x = fr (fun e x => g (2 * e + 1) (g (2 * e) x)) d i x
  | 0, _, _ => by simp only [Nat.mul_zero, fr]
  | d + 1, i, x => by
    rw [show 2 * (d + 1) = 2 * d + 1 + 1 by omega, fr, fr, show 2 * i + 1 + 1 = 2 * (i + 1) by omega, fr2 d (i + 1)]
    simp only [fr]
section Q8
variable {m : pm_M} {X : pv_X} {P c : Nat} {π : aP} {s : aS}
/-- how far out one is, some QUARTERS behind beats moved -/
def vC (π : aP) (s : aS) (k : Nat) (v : Int32) : Int32 := ab (aOut (pqn π 24 (aMov s k v)) k)
def mst (π : aP) (s : aS) (k : Nat) (v : Int32) (x : Int32 × Int32) : Int32 × Int32 := if vC π s k v < x.2 then (v, vC π s k v) else x
def cst (π : aP) (s : aS) (k : Nat) (v : Int32) (x : Int32 × Int32) : Int32 × Int32 := if s.2.1 k + v < 20 ∨ 160 < s.2.1 k + v then x else mst π s k v x
theorem neg_nI : ∀ e, e < 61 → (-1 : Int32) * nI e = -nI e ∧ (1 : Int32) * nI e = nI e := by decide +kernel
def bmK (v e : Nat) : Bool := decide (bm (nI v) (-nI e) = nI (max 20 (v - e))) && decide (bm (nI v) (nI e) = nI (min 160 (v + e))) && (decide (nI v + -nI e < 20 ∨ 160 < nI v + -nI e) == decide (v < 20 + e)) && (decide (nI v + nI e < 20 ∨ 160 < nI v + nI e) == decide (160 < v + e))
theorem bmK_all : ((List.range 141).all fun v => (List.range 61).all fun e => bmK (v + 20) e) = true := by decide +kernel
theorem bm_all (v : Nat) (h1 : v < 161) (h2 : 20 ≤ v) (e : Nat) (he : e < 61) : bm (nI v) (-nI e) = nI (max 20 (v - e)) ∧ bm (nI v) (nI e) = nI (min 160 (v + e)) ∧ ((nI v + -nI e < 20 ∨ 160 < nI v + -nI e) ↔ v < 20 + e) ∧ ((nI v + nI e < 20 ∨ 160 < nI v + nI e) ↔ 160 < v + e) := by
  have h := List.all_eq_true.mp (List.all_eq_true.mp bmK_all (v - 20) (by simp; omega)) e (by simpa using he)
  rw [show v - 20 + 20 = v by omega] at h
  unfold bmK at h
  simp only [Bool.and_eq_true, decide_eq_true_eq, beq_iff_eq, decide_eq_decide] at h
  exact ⟨h.1.1.1, h.1.1.2, h.1.2, h.2⟩
theorem mst_le (v : Int32) (k : Nat) (x : Int32 × Int32) : (mst π s k v x).2 ≤ x.2 ∧ (mst π s k v x).2 ≤ vC π s k v := by
  unfold mst
  by_cases h : vC π s k v < x.2
  · rw [if_pos h]; exact ⟨Int32.le_of_lt h, Int32.le_refl _⟩
  · rw [if_neg h]; exact ⟨Int32.le_refl _, Int32.not_lt.mp h⟩
theorem cst_mst {k : Nat} {v : Int32} {x : Int32 × Int32} (h : (s.2.1 k + v < 20 ∨ 160 < s.2.1 k + v) → x.2 ≤ vC π s k v) : cst π s k v x = mst π s k v x := by
  unfold cst
  by_cases hb : s.2.1 k + v < 20 ∨ 160 < s.2.1 k + v
  · rw [if_pos hb]; unfold mst; rw [if_neg (Int32.not_lt.mpr (h hb))]
  · rw [if_neg hb]
theorem cure_eq {n k : Nat} (ok : okS n c s) (hk : k < n) : fr (fun e x => cst π s k (nI e) (cst π s k (-nI e) x)) 60 1 (0, vC π s k 0) = fr (fun e x => mst π s k (nI e) (mst π s k (-nI e) x)) 60 1 (0, vC π s k 0) := by
  obtain ⟨v, hv1, hv2, ev⟩ := ok.2.1 k hk
  have mv : ∀ a b : Int32, bm (nI v) a = bm (nI v) b → vC π s k a = vC π s k b := fun a b h => by unfold vC aMov; rw [ev, h]
  have h := fr_rel (n := 61) (R := fun e (x y : Int32 × Int32) => x = y ∧ ∀ e', e' < e → y.2 ≤ vC π s k (nI e') ∧ y.2 ≤ vC π s k (-nI e')) (g := fun e x => cst π s k (nI e) (cst π s k (-nI e) x)) (g' := fun e x => mst π s k (nI e) (mst π s k (-nI e) x)) (fun e x y he hr => by
    obtain ⟨rfl, h2⟩ := hr
    obtain ⟨b1, b2, b3, b4⟩ := bm_all v (by omega) hv1 e he
    have s1 : cst π s k (-nI e) x = mst π s k (-nI e) x := cst_mst (fun hb => by
      rw [ev, b3] at hb
      have := bm_all v (by omega) hv1 (v - 20) (by omega)
      rw [mv (-nI e) (-nI (v - 20)) (by rw [b1, this.1, show max 20 (v - e) = max 20 (v - (v - 20)) by omega])]
      exact (h2 (v - 20) (by omega)).2)
    have m1 := mst_le (π := π) (s := s) (-nI e) k x
    have s2 : cst π s k (nI e) (mst π s k (-nI e) x) = mst π s k (nI e) (mst π s k (-nI e) x) := cst_mst (fun hb => by
      rw [ev, b4] at hb
      have := bm_all v (by omega) hv1 (160 - v) (by omega)
      rw [mv (nI e) (nI (160 - v)) (by rw [b2, this.2.1, show min 160 (v + e) = min 160 (v + (160 - v)) by omega])]
      exact Int32.le_trans m1.1 (h2 (160 - v) (by omega)).1)
    have m2 := mst_le (π := π) (s := s) (nI e) k (mst π s k (-nI e) x)
    rw [s1, s2]
    refine ⟨rfl, fun e' he' => ?_⟩
    by_cases hee : e' = e
    · subst hee
      exact ⟨m2.2, Int32.le_trans m2.1 m1.2⟩
    · have := h2 e' (by omega)
      exact ⟨Int32.le_trans m2.1 (Int32.le_trans m1.1 this.1), Int32.le_trans m2.1 (Int32.le_trans m1.1 this.2)⟩) 60 1 (0, vC π s k 0) (0, vC π s k 0) (by omega) ⟨rfl, fun e' he' => by
      have : e' = 0 := by omega
      subst this
      exact ⟨Int32.le_refl _, Int32.le_refl _⟩⟩
  exact h.1
theorem q_cure (hC : HC m P π s) (hM : HM m π s c) (p : Int32) : Ag X m_Wp_cure m_Md_cure [.int p] m := by
  have hn := hC.n6
  have hv := hC.2.2.2.2
  have hc := hM.2.2.2
  rcases prs p hn with ⟨k, hk, rfl⟩ | hb
  · have v0 : vC π s k 0 = ab (aOut (pqn π 24 s) k) := by unfold vC; rw [aMov_0 hM.2.2.1 hk]
    refine Ag.mk (fr (fun e x => cst π s k (nI e) (cst π s k (-nI e) x)) 60 1 (0, vC π s k 0)).1 ?_ (fun m1 hq => ?_)
    · obtain ⟨m1, e1, q1, v1⟩ := w_outLater (X := X) (q := 24) hC (show k < 6 by omega) (by decide)
      rw [show (nI 24 : Int32) = 24 from rfl] at e1
      unfold Gi
      rw [e_Wp_cure, u_Wp_cure_0]
      simp only [tIs, tVs, bs, if_true, true_or, or_true, i10, if_false, not_false_eq_true, not_true_eq_false, Wp_rc, Wp_f5, Wp_f6, Wp_f7, Wp_f8, Wp_f9, Wp_f10, Wp_f11, Wp_f12, Wp_f13, Wp_f14, w_isP1 hC hk, e1, c_abs]
      have half : ∀ (e : Nat) (sgn v : Int32) (x : Int32 × Int32) (g : Option Value) (m2 : pm_M), e < 61 → Q m m2 → ¬ 1 < sgn → sgn * nI e = v → ∃ g' m3, f_Wp_cure_38 X 0 (nI k) x.1 x.2 (nI e) sgn g (hp m2) = f_Wp_cure_38 X 0 (nI k) (cst π s k v x).1 (cst π s k v x).2 (nI e) (sgn + 2) g' (hp m3) ∧ Q m m3 := by
        intro e sgn v x g m2 he hr hs hv'
        have hC2 := hC.q hr
        refine ⟨some (.int v), ?_⟩
        rw [u_Wp_cure_38, if_neg hs]
        simp only [tIs, tVs, bs, if_true, true_or, or_true, i10, if_false, not_false_eq_true, not_true_eq_false, Wp_rc, Wp_f5, Wp_f6, Wp_f7, Wp_f8, Wp_f9, Wp_f10, Wp_f11, Wp_f12, Wp_f13, Wp_f14, St_f1 isSt_35, vw_a2 isSt_35 (show k < 6 by omega) hC2.2.2.2.2, hv']
        by_cases hb : s.2.1 k + v < 20 ∨ 160 < s.2.1 k + v
        · refine ⟨m2, ?_, hr⟩
          have ec : cst π s k v x = x := by unfold cst; rw [if_pos hb]
          simp only [tIs, tVs, bs, if_true, true_or, or_true, i10, if_false, not_false_eq_true, not_true_eq_false, Wp_rc, Wp_f5, Wp_f6, Wp_f7, Wp_f8, Wp_f9, Wp_f10, Wp_f11, Wp_f12, Wp_f13, Wp_f14, w_in0 hb, u_Wp_cure_125, ec]
        · rw [not_or] at hb
          obtain ⟨m3, e3, q3, v3⟩ := w_copy (X := X) hC2
          obtain ⟨m4, e4, q4, v4⟩ := w_move (X := X) (m := m3) (k := k) (v := v) v3 (by omega)
          obtain ⟨m5, e5, q5, v5⟩ := w_passQs (X := X) (q := 24) (hC2.q (q3.tr q4)) v4 (by decide)
          rw [show (nI 24 : Int32) = 24 from rfl] at e5
          refine ⟨m5, ?_, hr.tr (q3.tr (q4.tr q5))⟩
          have ec : cst π s k v x = mst π s k v x := by unfold cst; rw [if_neg (by rw [not_or]; exact hb)]
          simp only [tIs, tVs, bs, if_true, true_or, or_true, i10, if_false, not_false_eq_true, not_true_eq_false, Wp_rc, Wp_f5, Wp_f6, Wp_f7, Wp_f8, Wp_f9, Wp_f10, Wp_f11, Wp_f12, Wp_f13, Wp_f14, w_in1 hb.1 hb.2, St_rc isSt_39, e3, e4, e5, vw_far isSt_39 (show k < 6 by omega) v5, u_Wp_cure_125, ec]
          rw [show ab (aOut (pqn π 24 (aMov s k v)) k) = vC π s k v from rfl]
          unfold mst
          by_cases h : vC π s k v < x.2
          · rw [if_neg (Int32.not_le.mpr h), if_pos h]
          · rw [if_pos (Int32.not_lt.mp h), if_neg h]
      obtain ⟨⟨g1, g2⟩, m', h2, h3⟩ := lg (n := 61) (F := fun (g : Option Value × Option Value) (x : Int32 × Int32) e m => f_Wp_cure_28 X 0 (nI k) x.1 x.2 (nI e) g.1 g.2 (hp m)) (R := fun _ _ m' => Q m m') (g := fun e x => cst π s k (nI e) (cst π s k (-nI e) x)) (fun g x e m2 he hr => by
        obtain ⟨g3, m3, e3, q3⟩ := half e (-1) (-nI e) x g.2 m2 he hr (by decide) (neg_nI e he).1
        obtain ⟨g4, m4, e4, q4⟩ := half e (-1 + 2) (nI e) (cst π s k (-nI e) x) g3 m3 he q3 (by decide) (by rw [show (-1 + 2 : Int32) = 1 by decide]; exact (neg_nI e he).2)
        refine ⟨(some (.int (-1 + 2 + 2)), g4), m4, ?_, q4⟩
        rw [u_Wp_cure_28, if_neg (in_u (U := 60) rfl (show e ≤ 60 by omega) (by decide)), e3, e4, u_Wp_cure_38, if_pos (by decide), nI_1]) 60 1 (none, none) (0, vC π s k 0) m1 (by omega) q1
      refine ⟨m', ?_, h3⟩
      refine Eq.trans (b := f_Wp_cure_28 X 0 (nI k) 0 (vC π s k 0) (nI 1) none none (hp m1)) (by rw [v0]; rfl) ?_
      rw [show f_Wp_cure_28 X 0 (nI k) 0 (vC π s k 0) (nI 1) none none (hp m1) = _ from h2, u_Wp_cure_28, if_pos (by decide)]
    · obtain ⟨m2, e2, q2⟩ := m_t0 (m := m1)
      have hM2 := hM.q (hq.tr q2)
      obtain ⟨m3, e3, q3, v3⟩ := m_outBehind (X := X) (q := 24) hM2 hk (by decide)
      rw [show (nI 24 : Int32) = 24 from rfl] at e3
      unfold Gi
      rw [e_Md_cure, u_Md_cure_0, e2]
      simp only [tIs, tVs, bs, if_true, true_or, or_true, i10, if_false, not_false_eq_true, not_true_eq_false, Md_rc, Md_f1, Md_f4, Md_f5, Md_f6, Md_f9, Md_f10, Md_f11, Md_f12, Md_f14, Md_f15, Md_f18, Md_f19, Md_f20, Md_f21, Md_f23, Md_f24, Md_f25, Md_f26, Md_f28, m_isP1 hM2.1 hk, e3, d_unsigned]
      rw [cure_eq hM.2.2.1 hk]
      obtain ⟨⟨g1, g2⟩, m', h2, h3⟩ := lg (n := 122) (F := fun (g : Option Value × Option Value) (x : Int32 × Int32) e m => f_Md_cure_33 X 175 (nI k) x.1 x.2 (nI e) g.1 g.2 (hp m)) (R := fun _ _ m' => Q m1 m') (g := fun e x => mst π s k (if e % 2 = 0 then -nI (e / 2) else nI (e / 2)) x) (fun g x e m4 he hr => by
        have hM4 := (hM.q hq).q hr
        generalize hw : (if e % 2 = 0 then -nI (e / 2) else nI (e / 2) : Int32) = w
        obtain ⟨m5, e5, q5, v5⟩ := m_tries (X := X) hM4
        obtain ⟨m6, e6, q6, v6⟩ := m_move (X := X) (m := m5) (B := 1071) (k := k) (v := w) v5 rfl (by decide) (by decide) (by omega)
        obtain ⟨m7, e7, q7, v7⟩ := m_runs (X := X) (q := 24) (hM4.q (q5.tr q6)).1 v6 (okS_mov hM.2.2.1) (by omega)
        rw [show (nI 24 : Int32) = 24 from rfl] at e7
        refine ⟨(some (.int w), some (.int (vC π s k w))), m7, ?_, hr.tr (q5.tr (q6.tr q7))⟩
        have e59 : f_Md_cure_59 X 175 (nI k) x.1 x.2 (nI e) g.1 g.2 w (hp m4) = f_Md_cure_33 X 175 (nI k) (mst π s k w x).1 (mst π s k w x).2 (nI (e + 1)) (some (.int w)) (some (.int (vC π s k w))) (hp m7) := by
          rw [u_Md_cure_59]
          simp only [tIs, tVs, bs, if_true, true_or, or_true, i10, if_false, not_false_eq_true, not_true_eq_false, Md_rc, Md_f1, Md_f4, Md_f5, Md_f6, Md_f9, Md_f10, Md_f11, Md_f12, Md_f14, Md_f15, Md_f18, Md_f19, Md_f20, Md_f21, Md_f23, Md_f24, Md_f25, Md_f26, Md_f28, e5, e6, e7, m_out (B := 1071) (hM4.q (q5.tr (q6.tr q7))).1 v7 (pqn_ok (RM_okA hM.1) 24 _ (okS_mov hM.2.2.1)) rfl (by decide) (by omega) hk, d_unsigned, u_Md_cure_106, u_Md_cure_119, nI_1]
          unfold mst
          rw [show ab (aOut (pqn π 24 (aMov s k w)) k) = vC π s k w from rfl]
          by_cases h : vC π s k w < x.2
          · rw [if_neg (Int32.not_le.mpr h), if_neg (Int32.not_le.mpr h), if_pos h]
          · rw [if_pos (Int32.not_lt.mp h), if_pos (Int32.not_lt.mp h), if_neg h]
        have er : (nI e - nI e / 2 * 2 : Int32) = nI (e % 2) := rm_nI (d := 2) (by omega) (by decide) (by decide)
        have ed : (nI e / 2 : Int32) = nI (e / 2) := pk_div (d := 2) (by omega) (by decide) (by decide)
        rw [u_Md_cure_33, if_neg (in_u (U := 121) rfl (show e ≤ 121 by omega) (by decide)), er, ed]
        by_cases h2 : e % 2 = 0
        · rw [if_neg (fun z => z (by rw [h2]; rfl))]
          rw [if_pos h2] at hw
          rw [hw, e59]
        · rw [if_pos (by rw [show e % 2 = 1 by omega]; decide)]
          rw [if_neg h2] at hw
          rw [hw, e59]) 120 2 (none, none) (0, vC π s k 0) m3 (by omega) (q2.tr q3)
      refine ⟨m', ?_, h3⟩
      refine Eq.trans (b := f_Md_cure_33 X 175 (nI k) 0 (vC π s k 0) (nI 2) none none (hp m3)) (by rw [v0]; rfl) ?_
      rw [show f_Md_cure_33 X 175 (nI k) 0 (vC π s k 0) (nI 2) none none (hp m3) = _ from h2, u_Md_cure_33, if_pos (by decide), fr2 60 1]
      refine congrArg (fun z => some (some (Value.int z), hp m')) (congrArg Prod.fst ?_)
      have hg : (fun e x => mst π s k (if (2 * e + 1) % 2 = 0 then -nI ((2 * e + 1) / 2) else nI ((2 * e + 1) / 2)) (mst π s k (if 2 * e % 2 = 0 then -nI (2 * e / 2) else nI (2 * e / 2)) x)) = fun e x => mst π s k (nI e) (mst π s k (-nI e) x) := by
        funext e x
        rw [if_neg (by omega), if_pos (by omega), show (2 * e + 1) / 2 = e by omega, show 2 * e / 2 = e by omega]
      rw [hg]
  · refine Ag.mk (-1000) ⟨m, ?_, Q.rf⟩ (fun m1 hq => ?_)
    · rw [e_Wp_cure, u_Wp_cure_0]
      simp only [tIs, tVs, bs, if_true, true_or, or_true, i10, if_false, not_false_eq_true, not_true_eq_false, Wp_rc, Wp_f5, Wp_f6, Wp_f7, Wp_f8, Wp_f9, Wp_f10, Wp_f11, Wp_f12, Wp_f13, Wp_f14, w_isP0 hC hb]
    · obtain ⟨m2, e2, q2⟩ := m_t0 (m := m1)
      refine ⟨m2, ?_, q2⟩
      rw [e_Md_cure, u_Md_cure_0]
      simp only [tIs, tVs, bs, if_true, true_or, or_true, i10, if_false, not_false_eq_true, not_true_eq_false, Md_rc, Md_f1, Md_f4, Md_f5, Md_f6, Md_f9, Md_f10, Md_f11, Md_f12, Md_f14, Md_f15, Md_f18, Md_f19, Md_f20, Md_f21, Md_f23, Md_f24, Md_f25, Md_f26, Md_f28, e2, m_isP0 (hM.q (hq.tr q2)).1 hb]
theorem q_person (hC : HC m P π s) (hM : HM m π s c) (p v : Int32) : Ag X m_Wp_person m_Md_person [.int p, .int v] m := by
  have hn := hC.n6
  have hv := hC.2.2.2.2
  have hc := hM.2.2.2
  rcases prs p hn with ⟨k, hk, rfl⟩ | hb
  · have k6 : k < 6 := by omega
    have cls : ∀ r, (if v = 0 then π.2.1 k else if v = 1 then s.2.1 k else if v = 2 then s.1 k else if v = 3 then aOut s k else if v = 4 then s.2.2.1 k else if v = 5 then π.2.2.1 k else -1000) = r → Gi X m_Wp_person [.ref 0, .int (nI k), .int v] m r := by
      intro r hr
      refine ⟨m, ?_, Q.rf⟩
      rw [e_Wp_person, u_Wp_person_0]
      simp only [tIs, tVs, bs, if_true, true_or, or_true, i10, if_false, not_false_eq_true, not_true_eq_false, Wp_rc, Wp_f5, Wp_f6, Wp_f7, Wp_f8, Wp_f9, Wp_f10, Wp_f11, Wp_f12, Wp_f13, Wp_f14, w_isP1 hC hk, hC.f1, Po_f3 hC.po, hC.kd k6, St_f0 isSt_35, St_f1 isSt_35, St_f2 isSt_35, vw_a1 isSt_35 k6 hv, vw_a2 isSt_35 k6 hv, vw_a3 isSt_35 k6 hv, St_rc isSt_35, vw_out isSt_35 k6 hv, Po_f4 hC.po, hC.as k6]
      rw [← hr]
      by_cases h0 : v = 0
      · simp only [h0, if_true]
      · by_cases h1 : v = 1
        · simp only [h1, if_true, if_neg (show ¬ (1 : Int32) = 0 by decide)]
        · by_cases h2 : v = 2
          · simp only [if_neg h0, if_neg h1, if_pos h2]
          · by_cases h3 : v = 3
            · simp only [if_neg h0, if_neg h1, if_neg h2, if_pos h3]
            · by_cases h4 : v = 4
              · simp only [if_neg h0, if_neg h1, if_neg h2, if_neg h3, if_pos h4]
              · by_cases h5 : v = 5
                · simp only [if_neg h0, if_neg h1, if_neg h2, if_neg h3, if_neg h4, if_pos h5]
                · simp only [if_neg h0, if_neg h1, if_neg h2, if_neg h3, if_neg h4, if_neg h5]
    refine Ag.mk _ (cls _ rfl) (fun m1 hq => ?_)
    obtain ⟨m2, e2, q2⟩ := m_t0 (m := m1)
    have hM2 := hM.q (hq.tr q2)
    refine ⟨m2, ?_, q2⟩
    rw [e_Md_person, u_Md_person_0, e2]
    have p0 := d_personOf (X := X) (m := m2) (k := k) (j := 0) k6 (by decide)
    have p2 := d_personOf (X := X) (m := m2) (k := k) (j := 2) k6 (by decide)
    rw [nI_0, Nat.add_zero, hM2.1.2.2.1 k hk] at p0
    rw [show (nI 2 : Int32) = 2 from rfl, (hM2.1.2.2.2.1 k hk).1] at p2
    simp only [tIs, tVs, bs, if_true, true_or, or_true, i10, if_false, not_false_eq_true, not_true_eq_false, Md_rc, Md_f1, Md_f4, Md_f5, Md_f6, Md_f9, Md_f10, Md_f11, Md_f12, Md_f14, Md_f15, Md_f18, Md_f19, Md_f20, Md_f21, Md_f23, Md_f24, Md_f25, Md_f26, Md_f28, m_isP1 hM2.1 hk]
    rcases wthL v (L := 0) (U := 5) (l := 0) (u := 5) rfl rfl (by decide) (by decide) with ⟨q, h0, h1, rfl⟩ | hb
    · simp only [tIs, tVs, bs, if_true, true_or, or_true, i10, if_false, not_false_eq_true, not_true_eq_false, Md_rc, Md_f1, Md_f4, Md_f5, Md_f6, Md_f9, Md_f10, Md_f11, Md_f12, Md_f14, Md_f15, Md_f18, Md_f19, Md_f20, Md_f21, Md_f23, Md_f24, Md_f25, Md_f26, Md_f28, m_in1 (in_l (L := 0) rfl h0 (by omega)) (in_u (U := 5) rfl h1 (by decide)), p0, p2, vm_a1 (B := 1 + nI k) hM2.2.1 k6 (by decide) (by rw [show (1 : Int32) = nI 1 from rfl, nI_add]), vm_a7 (B := 7 + nI k) hM2.2.1 k6 (by decide) (by rw [show (7 : Int32) = nI 7 from rfl, nI_add]), vm_a13 (B := 13 + nI k) hM2.2.1 k6 (by decide) (by rw [show (13 : Int32) = nI 13 from rfl, nI_add]), m_out (B := 0) hM2.1 hM2.2.1 hM.2.2.1 rfl (by decide) (show c ≤ 1000000 by omega) hk]
      have : q = 0 ∨ q = 1 ∨ q = 2 ∨ q = 3 ∨ q = 4 ∨ q = 5 := by omega
      rcases this with rfl | rfl | rfl | rfl | rfl | rfl <;> rfl
    · simp only [tIs, tVs, bs, if_true, true_or, or_true, i10, if_false, not_false_eq_true, not_true_eq_false, Md_rc, Md_f1, Md_f4, Md_f5, Md_f6, Md_f9, Md_f10, Md_f11, Md_f12, Md_f14, Md_f15, Md_f18, Md_f19, Md_f20, Md_f21, Md_f23, Md_f24, Md_f25, Md_f26, Md_f28, m_in0 hb, u_Md_person_22]
      have hne : ∀ j : Nat, j ≤ 5 → ¬ v = nI j := by
        intro j hj hvj
        subst hvj
        rcases hb with hb | hb
        · exact in_l (L := 0) (l := 0) rfl (Nat.zero_le _) (by omega) hb
        · exact in_u (U := 5) (u := 5) rfl hj (by decide) hb
      rw [if_neg (show ¬ v = 0 from hne 0 (by decide)), if_neg (show ¬ v = 1 from hne 1 (by decide)), if_neg (show ¬ v = 2 from hne 2 (by decide)), if_neg (show ¬ v = 3 from hne 3 (by decide)), if_neg (show ¬ v = 4 from hne 4 (by decide)), if_neg (show ¬ v = 5 from hne 5 (by decide))]
  · refine Ag.mk (-1000) ⟨m, ?_, Q.rf⟩ (fun m1 hq => ?_)
    · rw [e_Wp_person, u_Wp_person_0]
      simp only [tIs, tVs, bs, if_true, true_or, or_true, i10, if_false, not_false_eq_true, not_true_eq_false, Wp_rc, Wp_f5, Wp_f6, Wp_f7, Wp_f8, Wp_f9, Wp_f10, Wp_f11, Wp_f12, Wp_f13, Wp_f14, w_isP0 hC hb]
    · obtain ⟨m2, e2, q2⟩ := m_t0 (m := m1)
      refine ⟨m2, ?_, q2⟩
      rw [e_Md_person, u_Md_person_0]
      simp only [tIs, tVs, bs, if_true, true_or, or_true, i10, if_false, not_false_eq_true, not_true_eq_false, Md_rc, Md_f1, Md_f4, Md_f5, Md_f6, Md_f9, Md_f10, Md_f11, Md_f12, Md_f14, Md_f15, Md_f18, Md_f19, Md_f20, Md_f21, Md_f23, Md_f24, Md_f25, Md_f26, Md_f28, e2, m_isP0 (hM.q (hq.tr q2)).1 hb, u_Md_person_22]
end Q8
