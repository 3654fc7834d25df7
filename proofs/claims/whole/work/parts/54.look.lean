/-! How many are alike; look. -/
def cnt (T : Nat → Bool) (p : Nat → Nat) : Nat → Nat → Nat
  | 0, _ => 0
  | n + 1, v => if T n = true ∧ p n = v then cnt T p n v + 1 else cnt T p n v
def Gr (T : Nat → Bool) (p : Nat → Nat) : Nat → Nat
  | 0 => 0
  | n + 1 => if T n then max (Gr T p n) (cnt T p (n + 1) (p n)) else Gr T p n
def Mo (T : Nat → Bool) (p : Nat → Nat) (N : Nat) : Nat := fr (fun k x => max x (if T k then cnt T p N (p k) else 0)) N 0 0
section CNT
variable {T : Nat → Bool} {p : Nat → Nat}
theorem cnt_le : ∀ (n v : Nat), cnt T p n v ≤ n
  | 0, _ => Nat.le_refl _
  | n + 1, v => by
    have := cnt_le n v
    simp only [cnt]
    split <;> omega
theorem cnt_mono (n v : Nat) : cnt T p n v ≤ cnt T p (n + 1) v := by simp only [cnt]; split <;> omega
theorem Gr_ub : ∀ (n v : Nat), cnt T p n v ≤ Gr T p n
  | 0, _ => Nat.le_refl _
  | n + 1, v => by
    have := Gr_ub n v
    by_cases hT : T n = true
    · simp only [Gr, hT, if_true]
      by_cases hv : p n = v
      · subst hv; exact Nat.le_max_right _ _
      · have : cnt T p (n + 1) v = cnt T p n v := by simp only [cnt]; rw [if_neg (fun z => hv z.2)]
        rw [this]
        exact Nat.le_trans (Gr_ub n v) (Nat.le_max_left _ _)
    · have e : cnt T p (n + 1) v = cnt T p n v := by simp only [cnt]; rw [if_neg (fun z => hT z.1)]
      simp only [Gr]
      rw [e, if_neg hT]
      exact this
theorem Gr_at : ∀ (n : Nat), Gr T p n = 0 ∨ ∃ k, k < n ∧ T k = true ∧ Gr T p n = cnt T p n (p k)
  | 0 => Or.inl rfl
  | n + 1 => by
    by_cases hT : T n = true
    · simp only [Gr, hT, if_true]
      by_cases hm : cnt T p (n + 1) (p n) < Gr T p n
      · rw [Nat.max_eq_left (by omega)]
        rcases Gr_at n with h | ⟨k, h1, h2, h3⟩
        · omega
        · right
          refine ⟨k, by omega, h2, ?_⟩
          by_cases hk : p n = p k
          · exfalso
            have := cnt_mono (T := T) (p := p) n (p k)
            rw [← hk] at this h3
            omega
          · simp only [cnt]
            rw [if_neg (fun z => hk z.2)]
            exact h3
      · rw [Nat.max_eq_right (by omega)]
        exact Or.inr ⟨n, by omega, hT, rfl⟩
    · simp only [Gr]
      rw [if_neg hT]
      rcases Gr_at n with h | ⟨k, h1, h2, h3⟩
      · exact Or.inl h
      · right
        refine ⟨k, by omega, h2, ?_⟩
        simp only [cnt]
        rw [if_neg (fun z => hT z.1)]
        exact h3
theorem Gr_le (n : Nat) : Gr T p n ≤ n := by
  rcases Gr_at (T := T) (p := p) n with h | ⟨k, _, _, h⟩
  · omega
  · rw [h]; exact cnt_le n _
theorem Mo_eq (N : Nat) : Mo T p N = Gr T p N := by
  have h := fr_inv (n := N) (R := fun i (x : Nat) => (x = 0 ∨ ∃ k, k < N ∧ T k = true ∧ x = cnt T p N (p k)) ∧ ∀ k, k < i → T k = true → cnt T p N (p k) ≤ x) (g := fun k x => max x (if T k then cnt T p N (p k) else 0)) (fun i x hi hr => by
    obtain ⟨h1, h2⟩ := hr
    constructor
    · by_cases hT : T i = true
      · rw [if_pos hT]
        by_cases hx : x ≤ cnt T p N (p i)
        · rw [Nat.max_eq_right hx]; exact Or.inr ⟨i, hi, hT, rfl⟩
        · rw [Nat.max_eq_left (by omega)]; exact h1
      · rw [if_neg hT, Nat.max_eq_left (by omega)]; exact h1
    · intro k hk hT
      by_cases hki : k = i
      · subst hki; rw [if_pos hT]; exact Nat.le_max_right _ _
      · exact Nat.le_trans (h2 k (by omega) hT) (Nat.le_max_left _ _)) N 0 0 (by omega) ⟨Or.inl rfl, fun k hk => absurd hk (by omega)⟩
  unfold Mo
  generalize fr (fun k x => max x (if T k then cnt T p N (p k) else 0)) N 0 0 = M at h
  obtain ⟨h1, h2⟩ := h
  apply Nat.le_antisymm
  · rcases h1 with h | ⟨k, _, _, h⟩
    · omega
    · rw [h]; exact Gr_ub N _
  · rcases Gr_at (T := T) (p := p) N with h | ⟨k, a, b, h⟩
    · omega
    · rw [h]; exact h2 k a b
end CNT
/-- out's place in the tally -/
def pl (x : Int32) : Nat := (x.toInt + 360).toNat
theorem pl_nI {x : Int32} (h : -360 ≤ x.toInt ∧ x.toInt ≤ 359) : x - (-360) = nI (pl x) ∧ pl x < 720 := by
  unfold pl
  refine ⟨Int32.toInt_inj.mp ?_, by omega⟩
  rw [nI_toInt (by omega), Int32.toInt_sub, show (-360 : Int32).toInt = -360 by decide, Int.bmod_eq_of_le (by omega) (by omega)]
  omega
theorem pl_eq {x y : Int32} (h : -360 ≤ x.toInt ∧ x.toInt ≤ 359) (h' : -360 ≤ y.toInt ∧ y.toInt ≤ 359) : pl x = pl y ↔ x = y := by
  unfold pl
  rw [← Int32.toInt_inj]
  omega
theorem Ta_T : pm_T[118]? = some (.inr (8, [(2, 119), (0, 0)])) := rfl
theorem Ta_R : pm_T[119]? = some (.inl (1, 720)) := rfl
/-- the tally's rows -/
def TA (m : pm_M) (C : Nat → Nat) (G : Nat) : Prop := (∀ p, p < 720 → gA m 119 p = nI (C p)) ∧ gI m 118 1 = nI G
section TLY
variable {m : pm_M} {X : pv_X}
theorem mx_nI {a b : Nat} (ha : a < 2 ^ 31) (hb : b < 2 ^ 31) : mx (nI a) (nI b) = nI (max a b) := by
  unfold mx
  simp only [nI_ltI ha hb]
  by_cases h : a < b
  · rw [if_pos h, Nat.max_eq_right (by omega)]
  · rw [if_neg h, Nat.max_eq_left (by omega)]
theorem ta_clear : ∃ m', pM X m_Ta_clear [.ref 118] (hp m) = some (none, hp m') ∧ Same [118, 119] m m' ∧ TA m' (fun _ => 0) 0 := by
  obtain ⟨f, h1, h2⟩ := s_fill (X := X) (v := 0) Ta_R (by decide) m
  refine ⟨_, ?_, (Same.sA (c := 119) (f := f) (by simp)).tr (Same.sI (c := 118) (j := 1) (v := 0) (by simp)), ?_⟩
  · rw [e_Ta_clear, u_Ta_clear_0, hp_fR Ta_T rfl]
    simp only [tIs, tVs, bs, if_true, true_or, or_true, i10, if_false, not_false_eq_true, not_true_eq_false, h1]
    rw [hp_pI Ta_T rfl]
    simp only [tIs, tVs, bs, if_true, true_or, or_true, i10, if_false, not_false_eq_true, not_true_eq_false]
  · refine ⟨fun p hp' => ?_, by rw [gI_sI_eq]; rfl⟩
    rw [gA_sI, gA_sA, if_pos rfl, h2 p hp']
    rfl
theorem ta_add {C : Nat → Nat} {G : Nat} {x : Int32} (hT : TA m C G) (hx : -360 ≤ x.toInt ∧ x.toInt ≤ 359) (hG : G < 1000) (hC : C (pl x) < 1000) : ∃ m', pM X m_Ta_add [.ref 118, .int x] (hp m) = some (none, hp m') ∧ Same [118, 119] m m' ∧ TA m' (fun p => if p = pl x then C p + 1 else C p) (max G (C (pl x) + 1)) := by
  obtain ⟨p1, p2⟩ := pl_nI hx
  refine ⟨sI (sA m 119 (upd (gA m 119) (pl x) (nI (C (pl x) + 1)))) 118 1 (nI (max G (C (pl x) + 1))), ?_, (Same.sA (by simp)).tr (Same.sI (by simp)), ?_, by rw [gI_sI_eq]⟩
  · rw [e_Ta_add, u_Ta_add_0, p1, if_neg (nI_pos (by omega)), hp_fR Ta_T rfl]
    simp only [tIs, tVs, bs, if_true, true_or, or_true, i10, if_false, not_false_eq_true, not_true_eq_false]
    rw [hp_len (by decide) Ta_R]
    simp only [tIs, tVs, bs, if_true, true_or, or_true, i10, if_false, not_false_eq_true, not_true_eq_false]
    rw [if_neg (show ¬ (Int32.ofNat 720) ≤ nI (pl x) from nI_ge p2 (by decide)), ar_ld Ta_R p2 (by decide), hT.1 _ p2]
    simp only [tIs, tVs, bs, if_true, true_or, or_true, i10, if_false, not_false_eq_true, not_true_eq_false]
    rw [nI_1, ar_st Ta_R p2 (by decide)]
    simp only [tIs, tVs, bs, if_true, true_or, or_true, i10, if_false, not_false_eq_true, not_true_eq_false]
    rw [hp_fI Ta_T rfl, gI_sA, hT.2]
    simp only [tIs, tVs, bs, if_true, true_or, or_true, i10, if_false, not_false_eq_true, not_true_eq_false]
    rw [hp_fR Ta_T rfl]
    simp only [tIs, tVs, bs, if_true, true_or, or_true, i10, if_false, not_false_eq_true, not_true_eq_false]
    rw [ar_ld Ta_R p2 (by decide), gA_sA, if_pos rfl, pk_us]
    simp only [tIs, tVs, bs, if_true, true_or, or_true, i10, if_false, not_false_eq_true, not_true_eq_false, c_max, mx_nI (show G < 2 ^ 31 by omega) (show C (pl x) + 1 < 2 ^ 31 by omega)]
    rw [hp_pI Ta_T rfl]
    simp only [tIs, tVs, bs, if_true, true_or, or_true, i10, if_false, not_false_eq_true, not_true_eq_false, u_Ta_add_46]
  · intro p hp'
    rw [gA_sI, gA_sA, if_pos rfl]
    dsimp only
    by_cases h : p = pl x
    · rw [h, pk_us, if_pos rfl]
    · rw [pk_un h, if_neg h]; exact hT.1 p hp'
end TLY
section QD
variable {m : pm_M} {X : pv_X} {P c k : Nat} {π : aP} {s : aS} {C : aC}
/-- the rows of outs laid so far -/
abbrev aV : Type := Nat × (Nat → Nat → Int32)
def hLk (π : aP) (C : aC) (s : aS) (k a b : Nat) (x : aV) : aV := if isPr π C s a b then (x.1 + 1, fun j q => if j = x.1 then aOut (pqn π q (aAsk s a b)) k else x.2 j q) else x
def LL : List Nat := [8, 20, 39, 40, 41, 42, 122]
theorem LL_Q {m' : pm_M} (h : Same LL m m') : Q m m' := Q.of h (by decide) (by decide) (by decide)
theorem T_122 : pm_T[122]? = some (.inl (1, 750)) := rfl
/-- laid in the class's row -/
def VC (m : pm_M) (x : aV) : Prop := ∀ j q, j < x.1 → q ≤ 24 → gA m 122 (q * 30 + j) = x.2 j q
theorem w_row76 {a b M : Nat} (hC : HC m P π s) (hk : k < π.1) (ha : a < π.1) (hb : b < π.1) (hM : M < 30) {m1 : pm_M} (q1 : Same LL m m1) (v1 : vw m1 39 = aAsk s a b) : ∃ m', f_Wp_foreseePairs_76 X 0 (nI k) (nI M) (nI a) (nI b) (nI 0) (hp m1) = f_Wp_foreseePairs_124 X 0 (nI k) (nI (M + 1)) (nI a) (nI b) (some (.int (nI 25))) (hp m') ∧ Same LL m m' ∧ (∀ q, q ≤ 24 → gA m' 122 (q * 30 + M) = aOut (pqn π q (aAsk s a b)) k) ∧ ∀ j q, j ≠ M → j < 30 → gA m' 122 (q * 30 + j) = gA m1 122 (q * 30 + j) := by
  have hn := hC.n6
  obtain ⟨-, m', h1, h2, h3, h4, h5⟩ := lg (n := 25) (F := fun (_ : Unit) (t : aS) q m => f_Wp_foreseePairs_76 X 0 (nI k) (nI M) (nI a) (nI b) (nI q) (hp m)) (R := fun i t m' => Same LL m m' ∧ vw m' 39 = t ∧ t = pqn π i (aAsk s a b) ∧ ∀ j q, j < 30 → gA m' 122 (q * 30 + j) = if j = M ∧ q < i then aOut (pqn π q (aAsk s a b)) k else gA m1 122 (q * 30 + j)) (g := fun _ t => (aPQ π t).1) (fun _ t i m2 hi hr => by
    obtain ⟨r1, r2, r3, r4⟩ := hr
    have hC2 := hC.q (LL_Q r1)
    have s3 : Same LL m2 (sA m2 122 (upd (gA m2 122) (i * 30 + M) (aOut t k))) := Same.sA (by decide)
    have v3 : vw (sA m2 122 (upd (gA m2 122) (i * 30 + M) (aOut t k))) 39 = t := by rw [vw_same (L := [122]) (Same.sA (by decide)) (by decide), r2]
    have e0 : gA (sA m2 122 (upd (gA m2 122) (i * 30 + M) (aOut t k))) 122 = upd (gA m2 122) (i * 30 + M) (aOut t k) := by rw [gA_sA, if_pos rfl]
    have es := ar_st (m := m2) (b := 122) (k := i * 30 + M) (x := aOut t k) T_122 (by omega) (by decide)
    generalize sA m2 122 (upd (gA m2 122) (i * 30 + M) (aOut t k)) = m3 at s3 v3 e0 es
    have hC3 := hC2.q (LL_Q s3)
    obtain ⟨m4, e4, s4, v4⟩ := t_pass (X := X) hC3 v3
    refine ⟨(), m4, ?_, r1.tr (s3.tr (s4.mono (by decide))), v4, ?_, fun j q hj => ?_⟩
    · rw [u_Wp_foreseePairs_76, if_neg (in_u (U := 24) rfl (show i ≤ 24 by omega) (by decide))]
      simp only [tIs, tVs, bs, if_true, true_or, or_true, i10, if_false, not_false_eq_true, not_true_eq_false, Wp_rc, Wp_f5, Wp_f6, Wp_f7, Wp_f8, Wp_f9, Wp_f10, Wp_f11, Wp_f12, Wp_f13, Wp_f14, St_rc isSt_39, vw_out isSt_39 (show k < 6 by omega) r2]
      rw [show (nI i * 30 + nI M : Int32) = nI (i * 30 + M) from by rw [show (30 : Int32) = nI 30 from rfl, pk_mul, nI_add], es]
      simp only [tIs, tVs, bs, if_true, true_or, or_true, i10, if_false, not_false_eq_true, not_true_eq_false, Wp_rc, Wp_f5, Wp_f6, Wp_f7, Wp_f8, Wp_f9, Wp_f10, Wp_f11, Wp_f12, Wp_f13, Wp_f14, hC3.f1, hC3.rc, e4, nI_1]
    · rw [r3]; rfl
    · rw [s4.A (by decide), e0]
      by_cases hx : q * 30 + j = i * 30 + M
      · have : q = i ∧ j = M := by omega
        obtain ⟨rfl, rfl⟩ := this
        rw [pk_us, if_pos ⟨rfl, by omega⟩, r3]
      · rw [pk_un hx, r4 j q hj]
        by_cases hy : j = M ∧ q < i
        · rw [if_pos hy, if_pos ⟨hy.1, by omega⟩]
        · rw [if_neg hy, if_neg (fun z => hy ⟨z.1, by have := z.2; rcases Nat.lt_or_ge q i with h | h; exact h; exfalso; apply hx; rw [show q = i by omega, z.1]⟩)]) 25 0 () (aAsk s a b) m1 (by omega) ⟨q1, v1, rfl, fun j q hj => by rw [if_neg (by omega)]⟩
  refine ⟨m', ?_, h2, fun q hq => ?_, fun j q hj hj' => ?_⟩
  · rw [h1, u_Wp_foreseePairs_76, if_pos (by decide), nI_1]
  · rw [h5 M q hM, if_pos ⟨rfl, by omega⟩]
  · rw [h5 j q hj', if_neg (fun z => hj z.1)]
theorem w_foresee (hC : HC m P π s) (hS : SN m π.1 C) (hk : k < π.1) : ∃ m', pM X m_Wp_foreseePairs [.ref 0, .int (nI k)] (hp m) = some (some (.int (nI (fr (fun a x => fr (hLk π C s k a) π.1 0 x) π.1 0 (0, fun _ _ => 0)).1)), hp m') ∧ Same LL m m' ∧ VC m' (fr (fun a x => fr (hLk π C s k a) π.1 0 x) π.1 0 (0, fun _ _ => 0)) ∧ (fr (fun a x => fr (hLk π C s k a) π.1 0 x) π.1 0 (0, fun _ _ => 0)).1 ≤ 30 := by
  have hn := hC.n6
  rw [e_Wp_foreseePairs, u_Wp_foreseePairs_0]
  obtain ⟨⟨g1, g2⟩, m', h2, h3, h4, h5⟩ := lg (n := π.1) (F := fun (g : Option Value × Option Value) (x : aV) a m => f_Wp_foreseePairs_4 X 0 (nI k) (nI x.1) (nI a) g.1 g.2 (hp m)) (R := fun a x m' => Same LL m m' ∧ VC m' x ∧ x.1 ≤ 5 * a) (g := fun a x => fr (hLk π C s k a) π.1 0 x) (fun g x a m2 ha hr => by
    obtain ⟨g4, m4, h4, h5, h6, h7⟩ := lg (n := π.1) (F := fun (g : Option Value) (x : aV) b m => f_Wp_foreseePairs_18 X 0 (nI k) (nI x.1) (nI a) (nI b) g (hp m)) (R := fun b x m' => Same LL m m' ∧ VC m' x ∧ x.1 ≤ 5 * a + (if b ≤ a then b else b - 1)) (g := hLk π C s k a) (fun g x b m3 hb hr3 => by
      obtain ⟨r1, r2, r3⟩ := hr3
      have hC3 := hC.q (LL_Q r1)
      have hS3 := hS.q (LL_Q r1)
      rw [u_Wp_foreseePairs_18]
      simp only [tIs, tVs, bs, if_true, true_or, or_true, i10, if_false, not_false_eq_true, not_true_eq_false, Wp_rc, Wp_f5, Wp_f6, Wp_f7, Wp_f8, Wp_f9, Wp_f10, Wp_f11, Wp_f12, Wp_f13, Wp_f14, hC3.f1, hC3.sz]
      rw [if_neg (nI_ge hb (by omega))]
      simp only [nI_eq (show a < 2 ^ 31 by omega) (show b < 2 ^ 31 by omega)]
      by_cases hab : a = b
      · have : isPr π C s a b = false := by unfold isPr; rw [decide_eq_true hab]; simp
        have hx : hLk π C s k a b x = x := by unfold hLk; rw [this]; rfl
        rw [if_pos hab, u_Wp_foreseePairs_124, nI_1, hx]
        refine ⟨g, m3, rfl, r1, r2, ?_⟩
        rw [if_pos (by omega)] at r3
        rw [if_neg (by omega)]
        omega
      · have hx30 : x.1 < 30 := by
          by_cases h : b ≤ a
          · rw [if_pos h] at r3; omega
          · rw [if_neg h] at r3; omega
        rw [if_neg hab, if_neg (show ¬ (30 : Int32) ≤ nI x.1 from nI_ge (b := 30) hx30 (by decide))]
        obtain ⟨m5, e5, q5⟩ := w_agrees (X := X) (a := a) (b := b) hC3 hS3 (by omega) (by omega)
        have hpr : isPr π C s a b = alC π C (aAsk s a b) := by unfold isPr; rw [decide_eq_true ha, decide_eq_true hb, decide_eq_false hab]; simp
        have q5' : Same LL m3 m5 := q5.mono (by decide)
        have hC5 := hC3.q (LL_Q q5')
        simp only [tIs, tVs, bs, if_true, true_or, or_true, i10, if_false, not_false_eq_true, not_true_eq_false, Wp_rc, Wp_f5, Wp_f6, Wp_f7, Wp_f8, Wp_f9, Wp_f10, Wp_f11, Wp_f12, Wp_f13, Wp_f14, e5]
        have r3' : x.1 + 1 ≤ 5 * a + (if b + 1 ≤ a then b + 1 else b + 1 - 1) := by
          by_cases h : b ≤ a
          · rw [if_pos h] at r3; rw [if_pos (by omega)]; omega
          · rw [if_neg h] at r3; rw [if_neg (by omega)]; omega
        cases hal : alC π C (aAsk s a b) with
        | false =>
          rw [hal] at hpr
          have hx : hLk π C s k a b x = x := by unfold hLk; rw [hpr]; rfl
          refine ⟨g, m5, ?_, r1.tr q5', ?_, ?_⟩
          · rw [if_pos (show bI false = 0 from rfl), u_Wp_foreseePairs_124, nI_1, hx]
          · rw [hx]; intro j q hj hq; rw [q5.A (by decide)]; exact r2 j q hj hq
          · rw [hx]; omega
        | true =>
          rw [hal] at hpr
          have hx : hLk π C s k a b x = (x.1 + 1, fun j q => if j = x.1 then aOut (pqn π q (aAsk s a b)) k else x.2 j q) := by unfold hLk; rw [hpr]; rfl
          obtain ⟨m6, e6, q6, v6⟩ := t_copy (X := X) hC5
          obtain ⟨m7, e7, q7, v7⟩ := t_take (X := X) (m := m6) (k := a) (o := b) v6 (by omega) (by omega)
          have q57 : Same LL m3 m7 := q5'.tr ((q6.mono (by decide)).tr (q7.mono (by decide)))
          obtain ⟨m8, e8, q8, w1, w2⟩ := w_row76 (X := X) hC hk ha hb hx30 (r1.tr q57) v7
          refine ⟨some (.int (nI 25)), m8, ?_, q8, ?_, ?_⟩
          · rw [if_neg (show ¬ bI true = 0 by decide)]
            simp only [tIs, tVs, bs, if_true, true_or, or_true, i10, if_false, not_false_eq_true, not_true_eq_false, Wp_rc, Wp_f5, Wp_f6, Wp_f7, Wp_f8, Wp_f9, Wp_f10, Wp_f11, Wp_f12, Wp_f13, Wp_f14, St_rc isSt_39, e6, e7]
            refine Eq.trans (b := f_Wp_foreseePairs_76 X 0 (nI k) (nI x.1) (nI a) (nI b) (nI 0) (hp m7)) rfl ?_
            rw [e8, u_Wp_foreseePairs_124, nI_1, hx]
          · rw [hx]
            intro j q hj hq
            dsimp only at hj ⊢
            by_cases hjx : j = x.1
            · rw [if_pos hjx, hjx, w1 q hq]
            · rw [if_neg hjx, w2 j q hjx (by omega), q7.A (by decide), q6.A (by decide), q5.A (by decide)]
              exact r2 j q (by omega) hq
          · rw [hx]; exact r3') π.1 0 g.2 x m2 (by omega) ⟨hr.1, hr.2.1, by rw [if_pos (by omega)]; have := hr.2.2; omega⟩
    refine ⟨(some (.int (nI π.1)), g4), m4, ?_, h5, h6, ?_⟩
    · have hC2 := hC.q (LL_Q hr.1)
      have hC4 := hC.q (LL_Q h5)
      rw [u_Wp_foreseePairs_4]
      simp only [tIs, tVs, bs, if_true, true_or, or_true, i10, if_false, not_false_eq_true, not_true_eq_false, Wp_rc, Wp_f5, Wp_f6, Wp_f7, Wp_f8, Wp_f9, Wp_f10, Wp_f11, Wp_f12, Wp_f13, Wp_f14, hC2.f1, hC2.sz]
      rw [if_neg (nI_ge ha (by omega))]
      refine Eq.trans (b := f_Wp_foreseePairs_18 X 0 (nI k) (nI x.1) (nI a) (nI 0) g.2 (hp m2)) rfl ?_
      rw [h4, u_Wp_foreseePairs_18]
      simp only [tIs, tVs, bs, if_true, true_or, or_true, i10, if_false, not_false_eq_true, not_true_eq_false, Wp_rc, Wp_f5, Wp_f6, Wp_f7, Wp_f8, Wp_f9, Wp_f10, Wp_f11, Wp_f12, Wp_f13, Wp_f14, hC4.f1, hC4.sz]
      rw [if_pos (nI_le (Nat.le_refl _) (by omega)), nI_1]
    · rw [if_neg (by omega)] at h7; omega) π.1 0 (none, none) (0, fun _ _ => 0) m (by omega) ⟨Same.rf, fun j q hj => absurd hj (by dsimp only; omega), by dsimp only; omega⟩
  have hC' := hC.q (LL_Q h3)
  refine ⟨m', ?_, h3, h4, by omega⟩
  refine Eq.trans (b := f_Wp_foreseePairs_4 X 0 (nI k) (nI 0) (nI 0) none none (hp m)) rfl ?_
  rw [show f_Wp_foreseePairs_4 X 0 (nI k) (nI 0) (nI 0) none none (hp m) = _ from h2, u_Wp_foreseePairs_4]
  simp only [tIs, tVs, bs, if_true, true_or, or_true, i10, if_false, not_false_eq_true, not_true_eq_false, Wp_rc, Wp_f5, Wp_f6, Wp_f7, Wp_f8, Wp_f9, Wp_f10, Wp_f11, Wp_f12, Wp_f13, Wp_f14, hC'.f1, hC'.sz]
  rw [if_pos (nI_le (Nat.le_refl _) (by omega))]
end QD
