/-! spread, together, askings. -/
/-- the farthest behind, the farthest ahead, of those of whom b holds -/
def lh (s : aS) (b : Nat → Bool) (i : Nat) (x : Int32 × Int32) : Int32 × Int32 := if b i then (if aOut s i < x.1 then aOut s i else x.1, if x.2 < aOut s i then aOut s i else x.2) else x
def lhs (n : Nat) (s : aS) (b : Nat → Bool) : Int32 × Int32 := fr (lh s b) n 0 (360, -361)
def spr (n : Nat) (s : aS) (b : Nat → Bool) : Int32 := if (lhs n s b).1 ≤ (lhs n s b).2 then (lhs n s b).2 - (lhs n s b).1 else 0
def chb (s : aS) (b : Nat → Bool) (i : Nat) (x : Int32 × Int32) : Int32 × Int32 := if b i then (mx x.1 (aOut s i), mn x.2 (aOut s i)) else x
section Q6
variable {m : pm_M} {X : pv_X} {P c n : Nat} {π : aP} {s : aS}
def lhR (i : Nat) (a b : Int32 × Int32) : Prop := (a = (-360, 359) ∧ b = (360, -361)) ∨ (a = (b.2, b.1) ∧ -360 ≤ b.1.toInt ∧ b.1.toInt ≤ b.2.toInt ∧ b.2.toInt ≤ 359)
theorem lh_rel (ok : okS n c s) (hc : c ≤ 1000000) (b : Nat → Bool) : lhR n (fr (chb s b) n 0 (-360, 359)) (lhs n s b) := by
  refine fr_rel (R := lhR) (fun i a x hi hr => ?_) n 0 _ _ (by omega) (Or.inl ⟨rfl, rfl⟩)
  unfold chb lh
  by_cases hb : b i
  · rw [if_pos hb, if_pos hb]
    have hv := out_rng ok hc hi
    generalize aOut s i = v at hv
    have k1 : (360 : Int32).toInt = 360 := by decide
    have k2 : (-361 : Int32).toInt = -361 := by decide
    have k3 : (-360 : Int32).toInt = -360 := by decide
    have k4 : (359 : Int32).toInt = 359 := by decide
    rcases hr with ⟨rfl, rfl⟩ | ⟨ha, h1, h2, h3⟩
    · right
      have e1 : v < 360 := by rw [Int32.lt_iff_toInt_lt, k1]; omega
      have e2 : -361 < v := by rw [Int32.lt_iff_toInt_lt, k2]; omega
      rw [if_pos e1, if_pos e2]
      dsimp only
      refine ⟨?_, by omega, by omega, by omega⟩
      unfold mx mn
      simp only [Int32.lt_iff_toInt_lt, k3, k4]
      have e3 : (if -360 < v.toInt then v else -360) = v := by
        by_cases h : -360 < v.toInt
        · rw [if_pos h]
        · rw [if_neg h]; exact Int32.toInt_inj.mp (by rw [k3]; omega)
      have e4 : (if v.toInt < 359 then v else 359) = v := by
        by_cases h : v.toInt < 359
        · rw [if_pos h]
        · rw [if_neg h]; exact Int32.toInt_inj.mp (by rw [k4]; omega)
      rw [e3, e4]
    · right
      obtain ⟨l, h⟩ := x
      subst ha
      dsimp only at h1 h2 h3 ⊢
      unfold mx mn
      simp only [Int32.lt_iff_toInt_lt]
      refine ⟨trivial, ?_, ?_, ?_⟩
      · split <;> omega
      · split <;> split <;> omega
      · split <;> omega
  · rw [if_neg hb, if_neg hb]
    exact hr
theorem ch_spr (ok : okS n c s) (hc : c ≤ 1000000) (b : Nat → Bool) : mx 0 ((fr (chb s b) n 0 (-360, 359)).1 - (fr (chb s b) n 0 (-360, 359)).2) = spr n s b := by
  unfold spr
  rcases lh_rel ok hc b with ⟨h1, h2⟩ | ⟨h1, h2, h3, h4⟩
  · rw [h1, h2]; decide
  · rw [h1]
    generalize lhs n s b = x at h2 h3 h4
    dsimp only
    rw [if_pos (Int32.le_iff_toInt_le.mpr h3)]
    unfold mx
    have e := sub_pos (a := x.2) (b := x.1) (by omega) (by omega)
    by_cases h : 0 < x.2 - x.1
    · rw [if_pos h]
    · rw [if_neg h]
      rw [Int32.lt_iff_toInt_lt, e, show (0 : Int32).toInt = 0 by decide] at h
      exact Int32.toInt_inj.mp (by rw [e, show (0 : Int32).toInt = 0 by decide]; omega)
theorem lh_ext {b b' : Nat → Bool} (h : ∀ i, i < n → b i = b' i) : lhs n s b = lhs n s b' := fr_ext (fun i x hi => by unfold lh; rw [h i hi]) _
theorem spr_ext {b b' : Nat → Bool} (h : ∀ i, i < n → b i = b' i) : spr n s b = spr n s b' := by unfold spr; rw [lh_ext h]
theorem w_spreadOf {a w : Nat} {t : aS} (hC : HC m P π s) (ha : isSt a) (hv : vw m a = t) (ok : okS π.1 c t) (hc : c ≤ 1000000) (hw : w < 64) : pM X m_Wp_spreadOf [.ref 0, .ref a, .int (nI w)] (hp m) = some (some (.int (spr π.1 t (fun i => w.testBit i))), hp m) := by
  have hn := hC.n6
  rw [e_Wp_spreadOf, u_Wp_spreadOf_0]
  obtain ⟨⟨-, h1⟩, -⟩ := lg0 (n := π.1) (F := fun (_ : Unit) (x : Int32 × Int32) i => f_Wp_spreadOf_12 X 0 a (nI w) x.1 x.2 (nI i) (hp m)) (R := fun _ _ => True) (g := chb t (fun i => w.testBit i)) (fun _ x i hi _ => ⟨⟨(), by
    rw [u_Wp_spreadOf_12]
    simp only [tIs, tVs, bs, if_true, true_or, or_true, i10, if_false, not_false_eq_true, not_true_eq_false, Wp_rc, Wp_f5, Wp_f6, Wp_f7, Wp_f8, Wp_f9, Wp_f10, Wp_f11, Wp_f12, Wp_f13, Wp_f14, hC.f1, hC.sz]
    rw [if_neg (nI_ge hi (by omega))]
    simp only [tIs, tVs, bs, if_true, true_or, or_true, i10, if_false, not_false_eq_true, not_true_eq_false, Wp_rc, Wp_f5, Wp_f6, Wp_f7, Wp_f8, Wp_f9, Wp_f10, Wp_f11, Wp_f12, Wp_f13, Wp_f14, c_has, St_rc ha, vw_out ha (show i < 6 by omega) hv, c_max, c_min, u_Wp_spreadOf_57, nI_1, has_nI w hw i (show i < 6 by omega)]
    cases hb : w.testBit i with
    | false =>
      have e : chb t (fun i => w.testBit i) i x = x := by unfold chb; simp [hb]
      rw [e]; simp
    | true =>
      have e : chb t (fun i => w.testBit i) i x = (mx x.1 (aOut t i), mn x.2 (aOut t i)) := by unfold chb; simp [hb]
      rw [e]; simp [i10]⟩, trivial⟩) π.1 0 () (-360, 359) (by omega) trivial
  refine Eq.trans (b := f_Wp_spreadOf_12 X 0 a (nI w) (-360) 359 (nI 0) (hp m)) rfl ?_
  rw [show f_Wp_spreadOf_12 X 0 a (nI w) (-360) 359 (nI 0) (hp m) = _ from h1, u_Wp_spreadOf_12]
  simp only [tIs, tVs, bs, if_true, true_or, or_true, i10, if_false, not_false_eq_true, not_true_eq_false, Wp_rc, Wp_f5, Wp_f6, Wp_f7, Wp_f8, Wp_f9, Wp_f10, Wp_f11, Wp_f12, Wp_f13, Wp_f14, hC.f1, hC.sz]
  rw [if_pos (nI_le (Nat.le_refl _) (by omega))]
  simp only [tIs, tVs, bs, if_true, true_or, or_true, i10, if_false, not_false_eq_true, not_true_eq_false, Wp_rc, Wp_f5, Wp_f6, Wp_f7, Wp_f8, Wp_f9, Wp_f10, Wp_f11, Wp_f12, Wp_f13, Wp_f14, c_max]
  rw [ch_spr ok hc]
theorem all_nI : ∀ n, n ≤ 6 → ((1 : Int32) <<< (nI n &&& 31)) - 1 = nI (2 ^ n - 1) ∧ 2 ^ n - 1 < 64 ∧ ∀ i, i < 6 → (2 ^ n - 1).testBit i = decide (i < n) := by decide +kernel
theorem w_everybody (hC : HC m P π s) : pM X m_Wp_everybody [.ref 0] (hp m) = some (some (.int (nI (2 ^ π.1 - 1))), hp m) := by
  rw [e_Wp_everybody, u_Wp_everybody_0]
  simp only [tIs, tVs, bs, if_true, true_or, or_true, i10, if_false, not_false_eq_true, not_true_eq_false, Wp_rc, Wp_f5, Wp_f6, Wp_f7, Wp_f8, Wp_f9, Wp_f10, Wp_f11, Wp_f12, Wp_f13, Wp_f14, hC.f1, hC.sz, (all_nI π.1 hC.n6).1]
theorem w_spreadAll {a : Nat} {t : aS} (hC : HC m P π s) (ha : isSt a) (hv : vw m a = t) (ok : okS π.1 c t) (hc : c ≤ 1000000) : pM X m_Wp_spreadOf [.ref 0, .ref a, .int (nI (2 ^ π.1 - 1))] (hp m) = some (some (.int (spr π.1 t (fun _ => true))), hp m) := by
  have hn := hC.n6
  obtain ⟨-, h1, h2⟩ := all_nI π.1 hn
  rw [w_spreadOf hC ha hv ok hc h1, spr_ext (fun i hi => by rw [h2 i (by omega), decide_eq_true hi])]
theorem m_spreadBut {w : Nat} (hM : HM m π s c) (hw : w < 64) : pM X m_Md_spreadBut [.ref 175, .int (nI w)] (hp m) = some (some (.int (spr π.1 s (fun i => !w.testBit i))), hp m) := by
  have hn := hM.1.1
  have hc := hM.2.2.2
  rw [e_Md_spreadBut, u_Md_spreadBut_0]
  obtain ⟨⟨⟨g1, g2⟩, h1⟩, -⟩ := lg0 (n := π.1) (F := fun (g : Option Value × Option Value) (x : Int32 × Int32) i => f_Md_spreadBut_11 X 175 (nI w) x.1 x.2 (nI i) g.1 g.2 (hp m)) (R := fun _ _ => True) (g := lh s (fun i => !w.testBit i)) (fun g x i hi _ => ⟨by
    rw [u_Md_spreadBut_11]
    simp only [tIs, tVs, bs, if_true, true_or, or_true, i10, if_false, not_false_eq_true, not_true_eq_false, Md_rc, Md_f1, Md_f4, Md_f5, Md_f6, Md_f9, Md_f10, Md_f11, Md_f12, Md_f14, Md_f15, Md_f18, Md_f19, Md_f20, Md_f21, Md_f23, Md_f24, Md_f25, Md_f26, Md_f28, m_n hM.1]
    rw [if_neg (nI_ge hi (by omega))]
    simp only [tIs, tVs, bs, if_true, true_or, or_true, i10, if_false, not_false_eq_true, not_true_eq_false, Md_rc, Md_f1, Md_f4, Md_f5, Md_f6, Md_f9, Md_f10, Md_f11, Md_f12, Md_f14, Md_f15, Md_f18, Md_f19, Md_f20, Md_f21, Md_f23, Md_f24, Md_f25, Md_f26, Md_f28, m_out (B := 0) hM.1 hM.2.1 hM.2.2.1 rfl (by decide) (by omega) hi, u_Md_spreadBut_43, u_Md_spreadBut_61, u_Md_spreadBut_62, u_Md_spreadBut_79, u_Md_spreadBut_80, nI_1, has_nI w hw i (show i < 6 by omega)]
    cases hb : w.testBit i with
    | true =>
      have e : lh s (fun i => !w.testBit i) i x = x := by unfold lh; simp [hb]
      exact ⟨(some (.int (aOut s i)), some (.int 0)), by rw [e]; simp⟩
    | false =>
      have e : lh s (fun i => !w.testBit i) i x = (if aOut s i < x.1 then aOut s i else x.1, if x.2 < aOut s i then aOut s i else x.2) := by unfold lh; simp [hb]
      refine ⟨(some (.int (aOut s i)), some (.int 1)), ?_⟩
      rw [e]
      simp only [if_true, not_true_eq_false, if_false, i10]
      by_cases a1 : aOut s i < x.1
      · rw [if_neg (Int32.not_le.mpr a1), if_pos a1]
        by_cases a2 : x.2 < aOut s i
        · rw [if_neg (Int32.not_le.mpr a2), if_pos a2]
        · rw [if_pos (Int32.not_lt.mp a2), if_neg a2]
      · rw [if_pos (Int32.not_lt.mp a1), if_neg a1]
        by_cases a2 : x.2 < aOut s i
        · rw [if_neg (Int32.not_le.mpr a2), if_pos a2]
        · rw [if_pos (Int32.not_lt.mp a2), if_neg a2], trivial⟩) π.1 0 (none, none) (360, -361) (by omega) trivial
  refine Eq.trans (b := f_Md_spreadBut_11 X 175 (nI w) 360 (-361) (nI 0) none none (hp m)) rfl ?_
  rw [show f_Md_spreadBut_11 X 175 (nI w) 360 (-361) (nI 0) none none (hp m) = _ from h1, u_Md_spreadBut_11]
  simp only [tIs, tVs, bs, if_true, true_or, or_true, i10, if_false, not_false_eq_true, not_true_eq_false, Md_rc, Md_f1, Md_f4, Md_f5, Md_f6, Md_f9, Md_f10, Md_f11, Md_f12, Md_f14, Md_f15, Md_f18, Md_f19, Md_f20, Md_f21, Md_f23, Md_f24, Md_f25, Md_f26, Md_f28, m_n hM.1]
  rw [if_pos (nI_le (Nat.le_refl _) (by omega))]
  simp only [u_Md_spreadBut_99]
  unfold spr lhs
  split <;> rfl
theorem q_spread (hC : HC m P π s) (hM : HM m π s c) : Ag X m_Wp_spread m_Md_spread [] m := by
  have hc := hM.2.2.2
  refine Ag.mk (spr π.1 s (fun _ => true)) ⟨m, ?_, Q.rf⟩ (fun m1 hq => ?_)
  · rw [e_Wp_spread, u_Wp_spread_0]
    simp only [tIs, tVs, bs, if_true, true_or, or_true, i10, if_false, not_false_eq_true, not_true_eq_false, Wp_rc, Wp_f5, Wp_f6, Wp_f7, Wp_f8, Wp_f9, Wp_f10, Wp_f11, Wp_f12, Wp_f13, Wp_f14, w_everybody hC, w_spreadAll hC isSt_35 hC.2.2.2.2 hM.2.2.1 (show c ≤ 1000000 by omega)]
  · obtain ⟨m2, e2, q2⟩ := m_t0 (m := m1)
    refine ⟨m2, ?_, q2⟩
    have e := m_spreadBut (X := X) (w := 0) (hM.q (hq.tr q2)) (by decide)
    rw [nI_0] at e
    rw [e_Md_spread, u_Md_spread_0, e2]
    simp only [tIs, tVs, bs, if_true, true_or, or_true, i10, if_false, not_false_eq_true, not_true_eq_false, Md_rc, Md_f1, Md_f4, Md_f5, Md_f6, Md_f9, Md_f10, Md_f11, Md_f12, Md_f14, Md_f15, Md_f18, Md_f19, Md_f20, Md_f21, Md_f23, Md_f24, Md_f25, Md_f26, Md_f28, e]
    rw [spr_ext (b' := fun _ => true) (fun i _ => by simp)]
/-- together -/
def gTc (π : aP) (i : Nat) (x : aS × Int32 × Int32) : aS × Int32 × Int32 := ((aPQ π x.1).1, if spr π.1 (aPQ π x.1).1 (fun _ => true) < x.2.2 then (nI i, spr π.1 (aPQ π x.1).1 (fun _ => true)) else x.2)
def dif (n : Nat) (s : aS) : Int32 := (lhs n s (fun _ => true)).2 - (lhs n s (fun _ => true)).1
def gTm (π : aP) (i : Nat) (x : aS × Int32 × Int32) : aS × Int32 × Int32 := ((aPQ π x.1).1, if dif π.1 x.1 < x.2.2 then (nI i, dif π.1 x.1) else x.2)
theorem dif_spr (ok : okS n c s) (hc : c ≤ 1000000) (hn : 0 < n) : dif n s = spr n s (fun _ => true) ∧ (dif n s).toInt < 720 := by
  unfold dif spr
  have h0 := lh_rel ok hc (fun _ => true)
  rcases h0 with ⟨h1, h2⟩ | ⟨h1, h2, h3, h4⟩
  · exfalso
    have : ∀ (d i : Nat) (x : Int32 × Int32), i + d = n → x.2.toInt ≤ 359 → (0 < d → True) → (i = 0 ∧ 0 < d) ∨ (-360 ≤ x.2.toInt) → -360 ≤ (fr (lh s (fun _ => true)) d i x).2.toInt := by
      intro d
      induction d with
      | zero => intro i x hi _ _ h; simp only [fr]; omega
      | succ d ih =>
        intro i x hi hx _ h
        simp only [fr]
        have hv := out_rng ok hc (show i < n by omega)
        refine ih (i + 1) _ (by omega) ?_ (fun _ => trivial) (Or.inr ?_)
        · unfold lh; simp only [if_true]; split <;> omega
        · unfold lh
          simp only [if_true]
          by_cases hl : x.2 < aOut s i
          · rw [if_pos hl]; omega
          · rw [if_neg hl]
            rw [Int32.lt_iff_toInt_lt] at hl
            omega
    have := this n 0 (360, -361) (by omega) (by decide) (fun _ => trivial) (Or.inl ⟨rfl, hn⟩)
    rw [show fr (lh s (fun _ => true)) n 0 (360, -361) = lhs n s (fun _ => true) from rfl, h2] at this
    exact absurd this (by decide)
  · generalize lhs n s (fun _ => true) = x at h2 h3 h4
    rw [if_pos (Int32.le_iff_toInt_le.mpr h3)]
    refine ⟨rfl, ?_⟩
    rw [sub_pos (by omega) (by omega)]
    omega
theorem tog_eq (hn : π.1 ≤ 6) (hA : okA π) (ok : okS π.1 c s) (hc : c ≤ 1000) : (fr (gTc π) 96 1 (s, 0, spr π.1 s (fun _ => true))).2.1 = (fr (gTm π) 97 0 (s, 0, 720)).2.1 := by
  rw [show fr (gTm π) 97 0 (s, 0, 720) = fr (gTm π) 96 1 (gTm π 0 (s, 0, 720)) from by simp only [fr]]
  have h := fr_rel (n := 97) (R := fun i (a b : aS × Int32 × Int32) => b.1 = (aPQ π a.1).1 ∧ okS π.1 (c + i) a.1 ∧ b.2.1 = a.2.1 ∧ ((0 < π.1 ∧ b.2.2 = a.2.2) ∨ (π.1 = 0 ∧ a.2 = (0, 0) ∧ b.2 = (0, -721)))) (g := gTc π) (g' := gTm π) (fun i a b hi hr => by
    obtain ⟨h1, h2, h3, h4⟩ := hr
    have ok' := okS_aPQ hA h2
    unfold gTc gTm
    dsimp only
    rw [h1]
    refine ⟨rfl, ?_, ?_⟩
    · exact ok'
    · rcases h4 with ⟨hp0, h4⟩ | ⟨hp0, h4, h5⟩
      · rw [(dif_spr ok' (by omega) hp0).1, h4]
        split
        · exact ⟨rfl, Or.inl ⟨hp0, rfl⟩⟩
        · exact ⟨h3, Or.inl ⟨hp0, h4⟩⟩
      · have e1 : ∀ t, spr π.1 t (fun _ => true) = 0 := fun t => by unfold spr lhs; rw [hp0]; simp only [fr]; exact if_neg (by decide)
        have e2 : ∀ t, dif π.1 t = -721 := fun t => by unfold dif lhs; rw [hp0]; simp only [fr]; decide
        rw [e1, e2, h4, h5]
        dsimp only
        rw [if_neg (by decide), if_neg (by decide)]
        exact ⟨rfl, Or.inr ⟨hp0, rfl, rfl⟩⟩) 96 1 (s, 0, spr π.1 s (fun _ => true)) (gTm π 0 (s, 0, 720)) (by omega) (by
      unfold gTm
      dsimp only
      refine ⟨rfl, ?_, ?_⟩
      · obtain ⟨a1, a2, q, a3, a4⟩ := ok
        exact ⟨a1, a2, q, by omega, a4⟩
      · rcases Nat.eq_zero_or_pos π.1 with hz | hp0
        · have e1 : spr π.1 s (fun _ => true) = 0 := by unfold spr lhs; rw [hz]; simp only [fr]; exact if_neg (by decide)
          have e2 : dif π.1 s = -721 := by unfold dif lhs; rw [hz]; simp only [fr]; decide
          rw [e1, e2, if_pos (by decide)]
          exact ⟨rfl, Or.inr ⟨hz, rfl, rfl⟩⟩
        · obtain ⟨d1, d2⟩ := dif_spr ok (show c ≤ 1000000 by omega) hp0
          rw [if_pos (by rw [Int32.lt_iff_toInt_lt]; exact d2)]
          exact ⟨rfl, Or.inl ⟨hp0, d1⟩⟩)
  exact h.2.2.1.symm
theorem q_together (hC : HC m P π s) (hM : HM m π s c) : Ag X m_Wp_together m_Md_together [] m := by
  have hn := hC.n6
  have hc := hM.2.2.2
  refine Ag.mk (fr (gTc π) 96 1 (s, 0, spr π.1 s (fun _ => true))).2.1 ?_ (fun m1 hq => ?_)
  · obtain ⟨m1, e1, q1, v1⟩ := w_copy (X := X) hC
    have hC1 := hC.q q1
    unfold Gi
    rw [e_Wp_together, u_Wp_together_0]
    simp only [tIs, tVs, bs, if_true, true_or, or_true, i10, if_false, not_false_eq_true, not_true_eq_false, Wp_rc, Wp_f5, Wp_f6, Wp_f7, Wp_f8, Wp_f9, Wp_f10, Wp_f11, Wp_f12, Wp_f13, Wp_f14, St_rc isSt_39, e1, w_everybody hC1, w_spreadAll hC1 isSt_39 v1 hM.2.2.1 (show c ≤ 1000000 by omega)]
    obtain ⟨g', m', h2, h3⟩ := lg (n := 97) (F := fun (g : Option Value) (x : aS × Int32 × Int32) i m => f_Wp_together_28 X 0 x.2.1 x.2.2 (nI i) g (hp m)) (R := fun i x m' => Q m m' ∧ vw m' 39 = x.1 ∧ okS π.1 (c + i) x.1) (g := gTc π) (fun g x i m2 hi hr => by
      have hC2 := hC.q hr.1
      obtain ⟨m3, e3, q3, v3⟩ := w_pass (X := X) hC2 hr.2.1
      have hC3 := hC2.q q3
      have ok3 := okS_aPQ hC.okA hr.2.2
      refine ⟨some (.int (spr π.1 (aPQ π x.1).1 (fun _ => true))), m3, ?_, hr.1.tr q3, v3, ok3⟩
      rw [u_Wp_together_28, if_neg (in_u (U := 96) rfl (show i ≤ 96 by omega) (by decide))]
      simp only [tIs, tVs, bs, if_true, true_or, or_true, i10, if_false, not_false_eq_true, not_true_eq_false, Wp_rc, Wp_f5, Wp_f6, Wp_f7, Wp_f8, Wp_f9, Wp_f10, Wp_f11, Wp_f12, Wp_f13, Wp_f14, hC2.f1, hC2.rc, e3, w_everybody hC3, w_spreadAll hC3 isSt_39 v3 ok3 (show c + i + 1 ≤ 1000000 by omega), u_Wp_together_71, nI_1]
      unfold gTc
      dsimp only
      by_cases h : spr π.1 (aPQ π x.1).1 (fun _ => true) < x.2.2
      · rw [if_neg (Int32.not_le.mpr h), if_pos h]
      · rw [if_pos (Int32.not_lt.mp h), if_neg h]) 96 1 none (s, 0, spr π.1 s (fun _ => true)) m1 (by omega) ⟨q1, v1, by
        obtain ⟨a1, a2, q, a3, a4⟩ := hM.2.2.1
        exact ⟨a1, a2, q, by omega, a4⟩⟩
    refine ⟨m', ?_, h3.1⟩
    refine Eq.trans (b := f_Wp_together_28 X 0 0 (spr π.1 s (fun _ => true)) (nI 1) none (hp m1)) rfl ?_
    rw [show f_Wp_together_28 X 0 0 (spr π.1 s (fun _ => true)) (nI 1) none (hp m1) = _ from h2, u_Wp_together_28, if_pos (by decide)]
  · obtain ⟨m2, e2, q2⟩ := m_t0 (m := m1)
    have hM2 := hM.q (hq.tr q2)
    obtain ⟨m3, e3, q3, v3⟩ := m_tries (X := X) hM2
    unfold Gi
    rw [e_Md_together, u_Md_together_0, e2]
    simp only [tIs, tVs, bs, if_true, true_or, or_true, i10, if_false, not_false_eq_true, not_true_eq_false, Md_rc, Md_f1, Md_f4, Md_f5, Md_f6, Md_f9, Md_f10, Md_f11, Md_f12, Md_f14, Md_f15, Md_f18, Md_f19, Md_f20, Md_f21, Md_f23, Md_f24, Md_f25, Md_f26, Md_f28, e3]
    obtain ⟨⟨g1, g2, g3, g4⟩, m', h2, h3⟩ := lg (n := 97) (F := fun (g : Option Value × Option Value × Option Value × Option Value) (x : aS × Int32 × Int32) i m => f_Md_together_17 X 175 x.2.1 x.2.2 (nI i) g.1 g.2.1 g.2.2.1 g.2.2.2 (hp m)) (R := fun i x m' => Q m1 m' ∧ vm m' 1071 = x.1 ∧ okS π.1 (c + i) x.1) (g := gTm π) (fun g x i m4 hi hr => by
      have hM4 := (hM.q hq).q hr.1
      obtain ⟨m5, e5, q5, v5⟩ := m_pass (X := X) (B := 1071) hM4.1 hr.2.1 hr.2.2 rfl (by decide) (by decide) (by omega)
      have ok5 := okS_aPQ hC.okA hr.2.2
      obtain ⟨⟨g7, h7⟩, -⟩ := lg0 (n := π.1) (F := fun (g : Option Value) (y : Int32 × Int32) j => f_Md_together_36 X 175 x.2.1 x.2.2 (nI i) y.1 y.2 (nI j) g (hp m4)) (R := fun _ _ => True) (g := lh x.1 (fun _ => true)) (fun g y j hj _ => ⟨⟨some (.int (aOut x.1 j)), by
        rw [u_Md_together_36]
        simp only [tIs, tVs, bs, if_true, true_or, or_true, i10, if_false, not_false_eq_true, not_true_eq_false, Md_rc, Md_f1, Md_f4, Md_f5, Md_f6, Md_f9, Md_f10, Md_f11, Md_f12, Md_f14, Md_f15, Md_f18, Md_f19, Md_f20, Md_f21, Md_f23, Md_f24, Md_f25, Md_f26, Md_f28, m_n hM4.1]
        rw [if_neg (nI_ge hj (by omega))]
        simp only [tIs, tVs, bs, if_true, true_or, or_true, i10, if_false, not_false_eq_true, not_true_eq_false, Md_rc, Md_f1, Md_f4, Md_f5, Md_f6, Md_f9, Md_f10, Md_f11, Md_f12, Md_f14, Md_f15, Md_f18, Md_f19, Md_f20, Md_f21, Md_f23, Md_f24, Md_f25, Md_f26, Md_f28, m_out (B := 1071) hM4.1 hr.2.1 hr.2.2 rfl (by decide) (by omega) hj, u_Md_together_70, u_Md_together_86, nI_1]
        unfold lh
        rw [if_pos rfl]
        dsimp only
        by_cases a1 : aOut x.1 j < y.1
        · rw [if_neg (Int32.not_le.mpr a1), if_pos a1]
          by_cases a2 : y.2 < aOut x.1 j
          · rw [if_neg (Int32.not_le.mpr a2), if_pos a2]
          · rw [if_pos (Int32.not_lt.mp a2), if_neg a2]
        · rw [if_pos (Int32.not_lt.mp a1), if_neg a1]
          by_cases a2 : y.2 < aOut x.1 j
          · rw [if_neg (Int32.not_le.mpr a2), if_pos a2]
          · rw [if_pos (Int32.not_lt.mp a2), if_neg a2]⟩, trivial⟩) π.1 0 g.2.2.2 (360, -361) (by omega) trivial
      refine ⟨(some (.int (lhs π.1 x.1 (fun _ => true)).1), some (.int (lhs π.1 x.1 (fun _ => true)).2), some (.int (nI π.1)), g7), m5, ?_, hr.1.tr q5, v5, ok5⟩
      rw [u_Md_together_17, if_neg (in_u (U := 96) rfl (show i ≤ 96 by omega) (by decide))]
      refine Eq.trans (b := f_Md_together_36 X 175 x.2.1 x.2.2 (nI i) 360 (-361) (nI 0) g.2.2.2 (hp m4)) rfl ?_
      rw [show f_Md_together_36 X 175 x.2.1 x.2.2 (nI i) 360 (-361) (nI 0) g.2.2.2 (hp m4) = _ from h7, u_Md_together_36]
      simp only [tIs, tVs, bs, if_true, true_or, or_true, i10, if_false, not_false_eq_true, not_true_eq_false, Md_rc, Md_f1, Md_f4, Md_f5, Md_f6, Md_f9, Md_f10, Md_f11, Md_f12, Md_f14, Md_f15, Md_f18, Md_f19, Md_f20, Md_f21, Md_f23, Md_f24, Md_f25, Md_f26, Md_f28, m_n hM4.1]
      rw [if_pos (nI_le (Nat.le_refl _) (by omega))]
      simp only [u_Md_together_108, u_Md_together_127, tIs, tVs, bs, if_true, true_or, or_true, i10, if_false, not_false_eq_true, not_true_eq_false, Md_rc, Md_f1, Md_f4, Md_f5, Md_f6, Md_f9, Md_f10, Md_f11, Md_f12, Md_f14, Md_f15, Md_f18, Md_f19, Md_f20, Md_f21, Md_f23, Md_f24, Md_f25, Md_f26, Md_f28, e5, nI_1]
      rw [show fr (lh x.1 (fun _ => true)) π.1 0 (360, -361) = lhs π.1 x.1 (fun _ => true) from rfl]
      unfold gTm
      dsimp only
      rw [show (lhs π.1 x.1 (fun _ => true)).2 - (lhs π.1 x.1 (fun _ => true)).1 = dif π.1 x.1 from rfl]
      by_cases h : dif π.1 x.1 < x.2.2
      · rw [if_neg (Int32.not_le.mpr h), if_neg (Int32.not_le.mpr h), if_pos h]
      · rw [if_pos (Int32.not_lt.mp h), if_pos (Int32.not_lt.mp h), if_neg h]) 97 0 (none, none, none, none) (s, 0, 720) m3 (by omega) ⟨q2.tr q3, v3, hM.2.2.1⟩
    refine ⟨m', ?_, h3.1⟩
    refine Eq.trans (b := f_Md_together_17 X 175 0 720 (nI 0) none none none none (hp m3)) rfl ?_
    rw [show f_Md_together_17 X 175 0 720 (nI 0) none none none none (hp m3) = _ from h2, u_Md_together_17, if_pos (by decide), tog_eq hn hC.okA hM.2.2.1 hc]
end Q6
