/-! What many calls use: the class's side, the reference's side. -/
theorem fr_snoc {σ : Type} {g : Nat → σ → σ} : ∀ (d i : Nat) (s : σ), fr g (d + 1) i s = g (i + d) (fr g d i s)
  | 0, i, s => by simp only [fr, Nat.add_zero]
  | d + 1, i, s => by rw [fr, fr_snoc d (i + 1) (g i s)]; simp only [fr]; rw [show i + 1 + d = i + (d + 1) by omega]
theorem pqn_fr {π : aP} : ∀ (n : Nat) (s : aS), fr (fun _ t => (aPQ π t).1) n 0 s = pqn π n s
  | 0, s => by simp only [fr, pqn]
  | n + 1, s => by rw [fr_snoc, pqn_fr n s]; simp only [pqn]
theorem i10 : ((1 : Int32) = 0) = False := by decide
theorem in_l {q l : Nat} {L : Int32} (hL : L = nI l) (h : l ≤ q) (hq : q < 2 ^ 31) : ¬ nI q < L := by rw [hL]; exact nI_nlt h hq
theorem in_u {q u : Nat} {U : Int32} (hU : U = nI u) (h : q ≤ u) (hu : u < 2 ^ 31) : ¬ U < nI q := by rw [hU]; exact nI_nlt h hu
theorem wthL (v : Int32) {l u : Nat} {L U : Int32} (hL : L = nI l) (hU : U = nI u) (hl : l ≤ u) (hu : u < 2 ^ 31) : (∃ q, l ≤ q ∧ q ≤ u ∧ v = nI q) ∨ (v < L ∨ U < v) := by
  rw [hL, hU]
  exact wth v hl hu
theorem lp0i {σ β : Type} {n : Nat} {F : σ → Nat → β} {R : Nat → σ → Prop} {g : Nat → σ → σ} (step : ∀ s i, i < n → R i s → F s i = F (g i s) (i + 1) ∧ R (i + 1) (g i s)) : ∀ (d i : Nat) (s : σ), i + d = n → R i s → F s i = F (fr g d i s) n ∧ R n (fr g d i s)
  | 0, i, s, h, hr => by simp only [fr]; rw [show i = n by omega] at *; exact ⟨rfl, hr⟩
  | d + 1, i, s, h, hr => by
    obtain ⟨h1, h2⟩ := step s i (by omega) hr
    obtain ⟨h3, h4⟩ := lp0i step d (i + 1) (g i s) (by omega) h2
    simp only [fr]
    exact ⟨by rw [h1, h3], h4⟩
/-- class and reference answer alike, and nothing lasting has changed -/
def Ag (X : pv_X) (Mc Mm : pv_M) (as : List Value) (m : pm_M) : Prop := ∃ v m1 m2, pM X Mc (.ref 0 :: as) (hp m) = some (some (.int v), hp m1) ∧ pM X Mm (.ref 175 :: as) (hp m1) = some (some (.int v), hp m2) ∧ Q m m2
theorem Ag.mk {X : pv_X} {Mc Mm : pv_M} {as : List Value} {m : pm_M} (v : Int32) (h1 : Gi X Mc (.ref 0 :: as) m v) (h2 : ∀ m1, Q m m1 → Gi X Mm (.ref 175 :: as) m1 v) : Ag X Mc Mm as m := by
  obtain ⟨m1, e1, q1⟩ := h1
  obtain ⟨m2, e2, q2⟩ := h2 m1 q1
  exact ⟨v, m1, m2, e1, e2, q1.tr q2⟩
theorem lpi {σ : Type} {n : Nat} {F : σ → Nat → pm_M → Option pv_O} {R : Nat → σ → pm_M → Prop} {g : Nat → σ → σ} (step : ∀ s i m, i < n → R i s m → ∃ m', F s i m = F (g i s) (i + 1) m' ∧ R (i + 1) (g i s) m') : ∀ (d i : Nat) (s : σ) (m : pm_M), i + d = n → R i s m → ∃ m', F s i m = F (fr g d i s) n m' ∧ R n (fr g d i s) m'
  | 0, i, s, m, h, hr => ⟨m, by simp only [fr]; rw [show i = n by omega], by simp only [fr]; rw [show n = i by omega]; exact hr⟩
  | d + 1, i, s, m, h, hr => by
    obtain ⟨m1, e1, r1⟩ := step s i m (by omega) hr
    obtain ⟨m2, e2, r2⟩ := lpi step d (i + 1) (g i s) m1 (by omega) r1
    exact ⟨m2, by rw [e1, e2]; simp only [fr], by simp only [fr]; exact r2⟩
section CB
variable {m : pm_M} {X : pv_X} {P k o q : Nat} {π : aP} {s t : aS} {p v l u : Int32} {h : pv_H}
theorem HC.po (hC : HC m P π s) : isPo P := by rcases hC.2.1 with rfl | rfl; exact isPo_3; exact isPo_15
theorem HC.lt (hC : HC m P π s) : P + 12 ≤ 27 := by rcases hC.2.1 with rfl | rfl <;> decide
theorem HC.f1 (hC : HC m P π s) : pv_fR (hp m) 0 10 1 = some P := by rw [Wp_f1, hC.1]
theorem HC.n6 (hC : HC m P π s) : π.1 ≤ 6 := by
  obtain ⟨n, hn, h6, -⟩ := hC.2.2.1.1
  rw [← hC.2.2.2.1]
  show (gI m P 6).toNatClampNeg ≤ 6
  rw [h6, nI_clamp (by omega)]
  exact hn
theorem HC.sz (hC : HC m P π s) : pv_fI (hp m) P 6 6 = some (nI π.1) := by
  obtain ⟨n, hn, h6, -⟩ := hC.2.2.1.1
  rw [Po_f6 hC.po, ← hC.2.2.2.1]
  show some (gI m P 6) = some (nI (gI m P 6).toNatClampNeg)
  rw [h6, nI_clamp (by omega)]
theorem HC.rc (hC : HC m P π s) : pv_rc (hp m) P 6 = true := Po_rc hC.po
theorem HC.kd (hC : HC m P π s) (hk : k < 6) : pv_aX X (hp m) (P + 6) (nI k) = some (π.2.1 k) := by
  rw [Po_a6 hC.po hk, ← hC.2.2.2.1]
  show _ = some (nr (gA m (P + 6)) k)
  rw [nr_lt hk]
theorem HC.as (hC : HC m P π s) (hk : k < 6) : pv_aX X (hp m) (P + 7) (nI k) = some (π.2.2.1 k) := by
  rw [Po_a7 hC.po hk, ← hC.2.2.2.1]
  show _ = some (nr (gA m (P + 7)) k)
  rw [nr_lt hk]
theorem HC.okA (hC : HC m P π s) : okA π := by
  obtain ⟨n, hn, h6, hA⟩ := hC.2.2.1.1
  have e : π.1 = n := by rw [← hC.2.2.2.1]; show (gI m P 6).toNatClampNeg = n; rw [h6, nI_clamp (by omega)]
  refine ⟨by omega, fun k hk => ?_⟩
  have := hA k (by omega)
  rw [e, ← hC.2.2.2.1]
  show nr (gA m (P + 7)) k = -1 ∨ ∃ j, j < n ∧ j ≠ k ∧ nr (gA m (P + 7)) k = nI j
  rw [nr_lt (by omega)]
  exact this
theorem vw_a1 {a : Nat} (ha : isSt a) (hk : k < 6) (hv : vw m a = t) : pv_aX X (hp m) (a + 1) (nI k) = some (t.1 k) := by
  rw [St_a1 ha hk, ← hv]; show _ = some (nr (gA m (a + 1)) k); rw [nr_lt hk]
theorem vw_a2 {a : Nat} (ha : isSt a) (hk : k < 6) (hv : vw m a = t) : pv_aX X (hp m) (a + 2) (nI k) = some (t.2.1 k) := by
  rw [St_a2 ha hk, ← hv]; show _ = some (nr (gA m (a + 2)) k); rw [nr_lt hk]
theorem vw_a3 {a : Nat} (ha : isSt a) (hk : k < 6) (hv : vw m a = t) : pv_aX X (hp m) (a + 3) (nI k) = some (t.2.2.1 k) := by
  rw [St_a3 ha hk, ← hv]; show _ = some (nr (gA m (a + 3)) k); rw [nr_lt hk]
theorem vw_q {a : Nat} (ha : isSt a) (hv : vw m a = t) : pv_fI (hp m) a 7 3 = some t.2.2.2 := by rw [St_f3 ha, ← hv]; rfl
theorem vw_out {a : Nat} (ha : isSt a) (hk : k < 6) (hv : vw m a = t) : pM X m_St_outOf [.ref a, .int (nI k)] (hp m) = some (some (.int (aOut t k)), hp m) := by rw [s_outOf ha hk, hv]
theorem vw_far {a : Nat} (ha : isSt a) (hk : k < 6) (hv : vw m a = t) : pM X m_Wp_farOf [.ref a, .int (nI k)] (hp m) = some (some (.int (ab (aOut t k))), hp m) := by
  rw [e_Wp_farOf, u_Wp_farOf_0]
  simp only [tIs, tVs, bs, if_true, true_or, or_true, i10, if_false, not_false_eq_true, not_true_eq_false, St_rc ha, vw_out ha hk hv, c_abs]
theorem w_isP1 (hC : HC m P π s) (hk : k < π.1) : pM X m_Wp_isPerson [.ref 0, .int (nI k)] (hp m) = some (some (.int 1), hp m) := by
  have := hC.n6
  rw [e_Wp_isPerson, u_Wp_isPerson_0, if_neg (nI_pos (by omega))]
  simp only [tIs, tVs, bs, if_true, true_or, or_true, i10, if_false, not_false_eq_true, not_true_eq_false, Wp_rc, Wp_f5, Wp_f6, Wp_f7, Wp_f8, Wp_f9, Wp_f10, Wp_f11, Wp_f12, Wp_f13, Wp_f14, hC.f1, hC.sz]
  rw [if_neg (nI_ge hk (by omega)), u_Wp_isPerson_20, if_pos (Or.inr rfl)]
theorem w_isP0 (hC : HC m P π s) (hp' : p < 0 ∨ nI π.1 ≤ p) : pM X m_Wp_isPerson [.ref 0, .int p] (hp m) = some (some (.int 0), hp m) := by
  rw [e_Wp_isPerson, u_Wp_isPerson_0]
  simp only [tIs, tVs, bs, if_true, true_or, or_true, i10, if_false, not_false_eq_true, not_true_eq_false, Wp_rc, Wp_f5, Wp_f6, Wp_f7, Wp_f8, Wp_f9, Wp_f10, Wp_f11, Wp_f12, Wp_f13, Wp_f14, hC.f1, hC.sz, u_Wp_isPerson_19, u_Wp_isPerson_20]
  by_cases h1 : p < 0
  · rw [if_pos h1]
  · rw [if_neg h1, if_pos (hp'.resolve_left h1)]
theorem w_in1 (h1 : ¬ v < l) (h2 : ¬ u < v) : pM X m_Wp_isWithin [.int v, .int l, .int u] h = some (some (.int 1), h) := by
  rw [e_Wp_isWithin, u_Wp_isWithin_0, if_neg h1, if_neg h2, u_Wp_isWithin_15, if_pos (Or.inr rfl)]
theorem w_in0 (h1 : v < l ∨ u < v) : pM X m_Wp_isWithin [.int v, .int l, .int u] h = some (some (.int 0), h) := by
  rw [e_Wp_isWithin, u_Wp_isWithin_0]
  simp only [tIs, tVs, bs, if_true, true_or, or_true, i10, if_false, not_false_eq_true, not_true_eq_false, u_Wp_isWithin_14, u_Wp_isWithin_15]
  by_cases h2 : v < l
  · rw [if_pos h2]
  · rw [if_neg h2, if_pos (h1.resolve_left h2)]
theorem w_two1 (hC : HC m P π s) (hk : k < π.1) (ho : o < π.1) (hne : k ≠ o) : pM X m_Wp_areTwo [.ref 0, .int (nI k), .int (nI o)] (hp m) = some (some (.int 1), hp m) := by
  have := hC.n6
  rw [e_Wp_areTwo, u_Wp_areTwo_0]
  simp only [tIs, tVs, bs, if_true, true_or, or_true, i10, if_false, not_false_eq_true, not_true_eq_false, Wp_rc, Wp_f5, Wp_f6, Wp_f7, Wp_f8, Wp_f9, Wp_f10, Wp_f11, Wp_f12, Wp_f13, Wp_f14, w_isP1 hC hk, w_isP1 hC ho]
  rw [if_neg (by rw [nI_eq (by omega) (by omega)]; exact hne), u_Wp_areTwo_26, if_pos (Or.inr rfl)]
theorem w_two0 (hC : HC m P π s) {p' : Int32} (h1 : (p < 0 ∨ nI π.1 ≤ p) ∨ (p' < 0 ∨ nI π.1 ≤ p') ∨ p = p') : pM X m_Wp_areTwo [.ref 0, .int p, .int p'] (hp m) = some (some (.int 0), hp m) := by
  have hn := hC.n6
  have z : f_Wp_areTwo_25 X 0 p p' (hp m) = some (some (.int 0), hp m) := by rw [u_Wp_areTwo_25, u_Wp_areTwo_26, if_pos (Or.inl rfl)]
  rw [e_Wp_areTwo, u_Wp_areTwo_0]
  simp only [tIs, tVs, bs, if_true, true_or, or_true, i10, if_false, not_false_eq_true, not_true_eq_false, Wp_rc, Wp_f5, Wp_f6, Wp_f7, Wp_f8, Wp_f9, Wp_f10, Wp_f11, Wp_f12, Wp_f13, Wp_f14]
  rcases prs p hn with ⟨k, hk, rfl⟩ | hb
  · simp only [w_isP1 hC hk, tIs, tVs, bs, if_true, true_or, or_true, i10, if_false, not_false_eq_true, not_true_eq_false, Wp_rc, Wp_f5, Wp_f6, Wp_f7, Wp_f8, Wp_f9, Wp_f10, Wp_f11, Wp_f12, Wp_f13, Wp_f14]
    rcases prs p' hn with ⟨o, ho, rfl⟩ | hb'
    · simp only [w_isP1 hC ho, tIs, tVs, bs, if_true, true_or, or_true, i10, if_false, not_false_eq_true, not_true_eq_false, Wp_rc, Wp_f5, Wp_f6, Wp_f7, Wp_f8, Wp_f9, Wp_f10, Wp_f11, Wp_f12, Wp_f13, Wp_f14]
      rcases h1 with (h1 | h1) | (h1 | h1) | h1
      · exact absurd h1 (nI_pos (by omega))
      · exact absurd h1 (nI_ge hk (by omega))
      · exact absurd h1 (nI_pos (by omega))
      · exact absurd h1 (nI_ge ho (by omega))
      · rw [if_pos h1, z]
    · simp only [w_isP0 hC hb', tIs, tVs, bs, if_true, true_or, or_true, i10, if_false, not_false_eq_true, not_true_eq_false, Wp_rc, Wp_f5, Wp_f6, Wp_f7, Wp_f8, Wp_f9, Wp_f10, Wp_f11, Wp_f12, Wp_f13, Wp_f14]
      exact z
  · simp only [w_isP0 hC hb, tIs, tVs, bs, if_true, true_or, or_true, i10, if_false, not_false_eq_true, not_true_eq_false, Wp_rc, Wp_f5, Wp_f6, Wp_f7, Wp_f8, Wp_f9, Wp_f10, Wp_f11, Wp_f12, Wp_f13, Wp_f14]
    exact z
theorem w_copy (hC : HC m P π s) : ∃ m', pM X m_St_copy [.ref 39, .ref 35] (hp m) = some (none, hp m') ∧ Q m m' ∧ vw m' 39 = s := by
  obtain ⟨m', h1, h2, h3⟩ := s_copy (X := X) (m := m) isSt_39 isSt_35 (by decide)
  exact ⟨m', h1, Q.of h3 (by decide) (by decide) (by decide), by rw [h2, hC.2.2.2.2]⟩
theorem w_take (hv : vw m 39 = t) (hk : k < 6) (ho : o < 6) : ∃ m', pM X m_St_takeTime [.ref 39, .int (nI k), .int (nI o)] (hp m) = some (none, hp m') ∧ Q m m' ∧ vw m' 39 = aAsk t k o := by
  obtain ⟨m', h1, h2, h3⟩ := s_takeTime (X := X) (m := m) isSt_39 hk ho
  exact ⟨m', h1, Q.of h3 (by decide) (by decide) (by decide), by rw [h2, hv]⟩
theorem w_move (hv : vw m 39 = t) (hk : k < 6) : ∃ m', pM X m_St_moveBeats [.ref 39, .int (nI k), .int v] (hp m) = some (none, hp m') ∧ Q m m' ∧ vw m' 39 = aMov t k v := by
  obtain ⟨m', h1, h2, h3⟩ := s_moveBeats (X := X) (m := m) isSt_39 hk (v := v)
  exact ⟨m', h1, Q.of h3 (by decide) (by decide) (by decide), by rw [h2, hv]⟩
theorem w_pass (hC : HC m P π s) (hv : vw m 39 = t) : ∃ m', pM X m_Po_passQuarter [.ref P, .ref 39] (hp m) = some (some (.int (aPQ π t).2), hp m') ∧ Q m m' ∧ vw m' 39 = (aPQ π t).1 := by
  have hl := hC.lt
  obtain ⟨m', h1, h2, h3⟩ := s_passQuarter (X := X) (m := m) (a := 39) hC.po isSt_39 (by omega) hC.2.2.1
  rw [hC.2.2.2.1, hv] at h1 h2
  refine ⟨m', h1, Q.of h3 ?_ ?_ ?_, h2⟩ <;> rcases hC.2.1 with rfl | rfl <;> decide
theorem w_passQs (hC : HC m P π s) (hv : vw m 39 = t) (hq : q < 2 ^ 31) : ∃ m', pM X m_Wp_passQuarters [.ref 0, .int (nI q)] (hp m) = some (none, hp m') ∧ Q m m' ∧ vw m' 39 = pqn π q t := by
  rw [e_Wp_passQuarters, u_Wp_passQuarters_0]
  obtain ⟨m', h1, h2, h3⟩ := lp (n := q) (F := fun (_ : aS) i m => f_Wp_passQuarters_2 X 0 (nI q) (nI i) (hp m)) (R := fun t m' => Q m m' ∧ vw m' 39 = t) (g := fun _ t => (aPQ π t).1) (fun t i m1 hi hr => by
    obtain ⟨m2, e2, q2, v2⟩ := w_pass (X := X) (hC.q hr.1) hr.2
    refine ⟨m2, ?_, hr.1.tr q2, v2⟩
    rw [u_Wp_passQuarters_2, if_neg (nI_ge hi hq)]
    simp only [tIs, tVs, bs, if_true, true_or, or_true, i10, if_false, not_false_eq_true, not_true_eq_false, Wp_rc, Wp_f5, Wp_f6, Wp_f7, Wp_f8, Wp_f9, Wp_f10, Wp_f11, Wp_f12, Wp_f13, Wp_f14, (hC.q hr.1).f1, (hC.q hr.1).rc, e2, nI_1]) q 0 t m (by omega) ⟨Q.rf, hv⟩
  rw [pqn_fr] at h3
  refine ⟨m', ?_, h2, h3⟩
  rw [show (0 : Int32) = nI 0 from rfl, h1, u_Wp_passQuarters_2, if_pos (nI_le (Nat.le_refl _) hq)]
theorem w_outLater (hC : HC m P π s) (hk : k < 6) (hq : q < 2 ^ 31) : ∃ m', pM X m_Wp_outLater [.ref 0, .int (nI k), .int (nI q)] (hp m) = some (some (.int (aOut (pqn π q s) k)), hp m') ∧ Q m m' ∧ vw m' 39 = pqn π q s := by
  obtain ⟨m1, e1, q1, v1⟩ := w_copy (X := X) hC
  obtain ⟨m2, e2, q2, v2⟩ := w_passQs (X := X) (hC.q q1) v1 hq
  refine ⟨m2, ?_, q1.tr q2, v2⟩
  rw [e_Wp_outLater, u_Wp_outLater_0]
  simp only [tIs, tVs, bs, if_true, true_or, or_true, i10, if_false, not_false_eq_true, not_true_eq_false, Wp_rc, Wp_f5, Wp_f6, Wp_f7, Wp_f8, Wp_f9, Wp_f10, Wp_f11, Wp_f12, Wp_f13, Wp_f14, St_rc isSt_39, e1, e2, vw_out isSt_39 hk v2]
end CB
section MB
variable {m : pm_M} {X : pv_X} {k o q b c : Nat} {π : aP} {s t : aS} {p v l u B : Int32} {h : pv_H}
theorem m_n (hR : RM m π) : pM X m_Md_persons [.ref 175] (hp m) = some (some (.int (nI π.1)), hp m) := by rw [d_persons, hR.2.1]
theorem m_out (hR : RM m π) (hv : vm m b = t) (ok : okS π.1 c t) (hB : B = nI b) (hb : b + 19 ≤ 1173) (hc : c ≤ 1000000) (hk : k < π.1) : pM X m_Md_outOf [.ref 175, .int B, .int (nI k)] (hp m) = some (some (.int (aOut t k)), hp m) := by
  have := hR.1
  rw [hB, d_outOf hb (by omega), hv, okS_out ok hc hk]
theorem m_isP1 (hR : RM m π) (hk : k < π.1) : pM X m_Md_isPerson [.ref 175, .int (nI k)] (hp m) = some (some (.int 1), hp m) := by
  have := hR.1
  rw [e_Md_isPerson, u_Md_isPerson_0, if_neg (nI_pos (by omega))]
  simp only [tIs, tVs, bs, if_true, true_or, or_true, i10, if_false, not_false_eq_true, not_true_eq_false, Md_rc, Md_f1, Md_f4, Md_f5, Md_f6, Md_f9, Md_f10, Md_f11, Md_f12, Md_f14, Md_f15, Md_f18, Md_f19, Md_f20, Md_f21, Md_f23, Md_f24, Md_f25, Md_f26, Md_f28, m_n hR]
  rw [if_neg (nI_ge hk (by omega)), u_Md_isPerson_17, if_pos (Or.inr rfl)]
theorem m_isP0 (hR : RM m π) (hp' : p < 0 ∨ nI π.1 ≤ p) : pM X m_Md_isPerson [.ref 175, .int p] (hp m) = some (some (.int 0), hp m) := by
  rw [e_Md_isPerson, u_Md_isPerson_0]
  simp only [tIs, tVs, bs, if_true, true_or, or_true, i10, if_false, not_false_eq_true, not_true_eq_false, Md_rc, Md_f1, Md_f4, Md_f5, Md_f6, Md_f9, Md_f10, Md_f11, Md_f12, Md_f14, Md_f15, Md_f18, Md_f19, Md_f20, Md_f21, Md_f23, Md_f24, Md_f25, Md_f26, Md_f28, m_n hR, u_Md_isPerson_16, u_Md_isPerson_17]
  by_cases h1 : p < 0
  · rw [if_pos h1]
  · rw [if_neg h1, if_pos (hp'.resolve_left h1)]
theorem m_in1 (h1 : ¬ v < l) (h2 : ¬ u < v) : pM X m_Md_within [.int v, .int l, .int u] h = some (some (.int 1), h) := by
  rw [e_Md_within, u_Md_within_0, if_neg h1, if_neg h2, u_Md_within_15, if_pos (Or.inr rfl)]
theorem m_in0 (h1 : v < l ∨ u < v) : pM X m_Md_within [.int v, .int l, .int u] h = some (some (.int 0), h) := by
  rw [e_Md_within, u_Md_within_0]
  simp only [tIs, tVs, bs, if_true, true_or, or_true, i10, if_false, not_false_eq_true, not_true_eq_false, u_Md_within_14, u_Md_within_15]
  by_cases h2 : v < l
  · rw [if_pos h2]
  · rw [if_neg h2, if_pos (h1.resolve_left h2)]
/-- a part of the reference's row is copied -/
theorem m_copies {n f g : Nat} {vf vg vn : Int32} (e1 : vf = nI f) (e2 : vg = nI g) (e3 : vn = nI n) (hf : f + n ≤ 1173) (hg : g + n ≤ 1173) (hd : f + n ≤ g ∨ g ≤ f) : ∃ m', pM X m_Md_copies [.ref 175, .int vf, .int vg, .int vn] (hp m) = some (none, hp m') ∧ Same [189] m m' ∧ ∀ i, gA m' 189 i = if g ≤ i ∧ i < g + n then gA m 189 (f + (i - g)) else gA m 189 i := by
  rw [e_Md_copies, u_Md_copies_0, e1, e2, e3]
  obtain ⟨m', h1, h2, h3⟩ := lpi (n := n) (F := fun (_ : Unit) i m => f_Md_copies_3 X 175 (nI f) (nI g) (nI n) (nI i) (hp m)) (R := fun j _ m' => Same [189] m m' ∧ ∀ i, gA m' 189 i = if g ≤ i ∧ i < g + j then gA m 189 (f + (i - g)) else gA m 189 i) (g := fun _ s => s) (fun _ j m1 hj hr => by
    refine ⟨_, ?_, hr.1.tr (Same.sA (c := 189) (f := upd (gA m1 189) (g + j) (gA m1 189 (f + j))) (by simp)), fun i => ?_⟩
    · rw [u_Md_copies_3, if_neg (nI_ge hj (by omega))]
      simp only [tIs, tVs, bs, if_true, true_or, or_true, i10, if_false, not_false_eq_true, not_true_eq_false, Md_rc, Md_f1, Md_f4, Md_f5, Md_f6, Md_f9, Md_f10, Md_f11, Md_f12, Md_f14, Md_f15, Md_f18, Md_f19, Md_f20, Md_f21, Md_f23, Md_f24, Md_f25, Md_f26, Md_f28]
      rw [nI_add, ld_189 (by omega)]
      simp only [tIs, tVs, bs, if_true, true_or, or_true, i10, if_false, not_false_eq_true, not_true_eq_false, Md_rc, Md_f1, Md_f4, Md_f5, Md_f6, Md_f9, Md_f10, Md_f11, Md_f12, Md_f14, Md_f15, Md_f18, Md_f19, Md_f20, Md_f21, Md_f23, Md_f24, Md_f25, Md_f26, Md_f28]
      rw [nI_add, st_189 (by omega)]
      simp only [tIs, tVs, bs, if_true, true_or, or_true, i10, if_false, not_false_eq_true, not_true_eq_false, Md_rc, Md_f1, Md_f4, Md_f5, Md_f6, Md_f9, Md_f10, Md_f11, Md_f12, Md_f14, Md_f15, Md_f18, Md_f19, Md_f20, Md_f21, Md_f23, Md_f24, Md_f25, Md_f26, Md_f28, nI_1]
    · rw [gA_sA, if_pos rfl]
      by_cases hi : i = g + j
      · subst hi
        rw [pk_us, if_pos (by omega), hr.2, if_neg (by omega), show f + (g + j - g) = f + j by omega]
      · rw [pk_un hi, hr.2]
        by_cases h' : g ≤ i ∧ i < g + j
        · rw [if_pos h', if_pos (by omega)]
        · rw [if_neg h', if_neg (by omega)]) n 0 () m (by omega) ⟨Same.rf, fun i => by rw [if_neg (by omega)]⟩
  refine ⟨m', ?_, h2, h3⟩
  rw [show (0 : Int32) = nI 0 from rfl, h1, u_Md_copies_3, if_pos (nI_le (Nat.le_refl _) (by omega))]
theorem vm_copied {m' : pm_M} {f g n : Nat} (hn : 19 ≤ n) (h : ∀ i, gA m' 189 i = if g ≤ i ∧ i < g + n then gA m 189 (f + (i - g)) else gA m 189 i) : vm m' g = vm m f := by
  unfold vm
  rw [show nr (fun k => gA m' 189 (g + 7 + k)) = nr (fun k => gA m 189 (f + 7 + k)) from nr_ext (fun k hk => by rw [h, if_pos (by omega), show f + (g + 7 + k - g) = f + 7 + k by omega]), show nr (fun k => gA m' 189 (g + 1 + k)) = nr (fun k => gA m 189 (f + 1 + k)) from nr_ext (fun k hk => by rw [h, if_pos (by omega), show f + (g + 1 + k - g) = f + 1 + k by omega]), show nr (fun k => gA m' 189 (g + 13 + k)) = nr (fun k => gA m 189 (f + 13 + k)) from nr_ext (fun k hk => by rw [h, if_pos (by omega), show f + (g + 13 + k - g) = f + 13 + k by omega]), h g, if_pos (by omega), show f + (g - g) = f by omega]
theorem m_tries (hM : HM m π s c) : ∃ m', pM X m_Md_triesNow [.ref 175] (hp m) = some (none, hp m') ∧ Q m m' ∧ vm m' 1071 = s := by
  obtain ⟨m', h1, h2, h3⟩ := m_copies (X := X) (m := m) (f := 0) (g := 1071) (n := 19) (vf := 0) (vg := 1071) (vn := 19) rfl rfl rfl (by decide) (by decide) (by decide)
  refine ⟨m', ?_, ⟨h2.mono (by decide), fun _ _ _ => h2.I (by decide), fun i hi => by rw [h3, if_neg (by omega)]⟩, ?_⟩
  · rw [e_Md_triesNow, u_Md_triesNow_0]
    simp only [tIs, tVs, bs, if_true, true_or, or_true, i10, if_false, not_false_eq_true, not_true_eq_false, Md_rc, Md_f1, Md_f4, Md_f5, Md_f6, Md_f9, Md_f10, Md_f11, Md_f12, Md_f14, Md_f15, Md_f18, Md_f19, Md_f20, Md_f21, Md_f23, Md_f24, Md_f25, Md_f26, Md_f28, h1]
  · rw [vm_copied (by decide) h3, hM.2.1]
theorem m_pass (hR : RM m π) (hv : vm m b = t) (ok : okS π.1 c t) (hB : B = nI b) (hb : b + 19 ≤ 1173) (hb1 : 1071 ≤ b) (hc : c < 1000000) : ∃ m', pM X m_Md_passes_1 [.ref 175, .int B] (hp m) = some (none, hp m') ∧ Q m m' ∧ vm m' b = (aPQ π t).1 := by
  obtain ⟨m', h1, h2, h3⟩ := d_passes (X := X) hc hb hR (by rw [hv]; exact ok)
  exact ⟨m', by rw [hB, h1], Q.ofM h3 hb1, by rw [h2, hv]⟩
theorem m_ask (hv : vm m b = t) (hB : B = nI b) (hb : b + 19 ≤ 1173) (hb1 : 1071 ≤ b) (hk : k < 6) (ho : o < 6) : ∃ m', pM X m_Md_asks [.ref 175, .int B, .int (nI k), .int (nI o)] (hp m) = some (none, hp m') ∧ Q m m' ∧ vm m' b = aAsk t k o := by
  obtain ⟨m', h1, h2, h3⟩ := d_asks (X := X) (m := m) hb hk ho
  exact ⟨m', by rw [hB, h1], Q.ofM h3 hb1, by rw [h2, hv]⟩
theorem m_move (hv : vm m b = t) (hB : B = nI b) (hb : b + 19 ≤ 1173) (hb1 : 1071 ≤ b) (hk : k < 6) : ∃ m', pM X m_Md_beatsMore [.ref 175, .int B, .int (nI k), .int v] (hp m) = some (none, hp m') ∧ Q m m' ∧ vm m' b = aMov t k v := by
  obtain ⟨m', h1, h2, h3⟩ := d_beatsMore (X := X) (m := m) hb hk (v := v)
  refine ⟨m', by rw [hB, h1], Q.ofM h3 hb1, ?_⟩
  rw [h2, hv, kp_bm]
  rfl
theorem m_runs (hR : RM m π) (hv : vm m 1071 = t) (ok : okS π.1 c t) (hq : c + q < 1000000) : ∃ m', pM X m_Md_runs [.ref 175, .int (nI q)] (hp m) = some (none, hp m') ∧ Q m m' ∧ vm m' 1071 = pqn π q t := by
  rw [e_Md_runs, u_Md_runs_0]
  obtain ⟨m', h1, h2, h3, -⟩ := lpi (n := q) (F := fun (_ : aS) i m => f_Md_runs_2 X 175 (nI q) (nI i) (hp m)) (R := fun j t m' => Q m m' ∧ vm m' 1071 = t ∧ okS π.1 (c + j) t) (g := fun _ t => (aPQ π t).1) (fun t i m1 hi hr => by
    have R1 : RM m1 π := hR.same hr.1.1 (by decide) (by decide) (by decide)
    obtain ⟨m2, e2, q2, v2⟩ := m_pass (X := X) (B := 1071) R1 hr.2.1 hr.2.2 rfl (by decide) (by decide) (by omega)
    refine ⟨m2, ?_, hr.1.tr q2, v2, okS_aPQ (RM_okA hR) hr.2.2⟩
    rw [u_Md_runs_2, if_neg (nI_ge hi (by omega))]
    simp only [tIs, tVs, bs, if_true, true_or, or_true, i10, if_false, not_false_eq_true, not_true_eq_false, Md_rc, Md_f1, Md_f4, Md_f5, Md_f6, Md_f9, Md_f10, Md_f11, Md_f12, Md_f14, Md_f15, Md_f18, Md_f19, Md_f20, Md_f21, Md_f23, Md_f24, Md_f25, Md_f26, Md_f28, e2, nI_1]) q 0 t m (by omega) ⟨Q.rf, hv, ok⟩
  rw [pqn_fr] at h3
  refine ⟨m', ?_, h2, h3⟩
  rw [show (0 : Int32) = nI 0 from rfl, h1, u_Md_runs_2, if_pos (nI_le (Nat.le_refl _) (by omega))]
theorem m_outBehind (hM : HM m π s c) (hk : k < π.1) (hq : q < 1000) : ∃ m', pM X m_Md_outBehind [.ref 175, .int (nI k), .int (nI q)] (hp m) = some (some (.int (aOut (pqn π q s) k)), hp m') ∧ Q m m' ∧ vm m' 1071 = pqn π q s := by
  obtain ⟨m1, e1, q1, v1⟩ := m_tries (X := X) hM
  have hc := hM.2.2.2
  obtain ⟨m2, e2, q2, v2⟩ := m_runs (X := X) (q := q) (hM.q q1).1 v1 hM.2.2.1 (by omega)
  refine ⟨m2, ?_, q1.tr q2, v2⟩
  rw [e_Md_outBehind, u_Md_outBehind_0]
  simp only [tIs, tVs, bs, if_true, true_or, or_true, i10, if_false, not_false_eq_true, not_true_eq_false, Md_rc, Md_f1, Md_f4, Md_f5, Md_f6, Md_f9, Md_f10, Md_f11, Md_f12, Md_f14, Md_f15, Md_f18, Md_f19, Md_f20, Md_f21, Md_f23, Md_f24, Md_f25, Md_f26, Md_f28, e1, e2, m_out (B := 1071) (hM.q (q1.tr q2)).1 v2 (pqn_ok (RM_okA hM.1) q s hM.2.2.1) rfl (by decide) (by omega) hk]
theorem m_t0 : ∃ m', pv_fp (hp m) 175 11 0 (.int 0) = some (hp m') ∧ Q m m' := ⟨_, Md_p0, ⟨Same.sI (by decide), fun j h1 _ => gI_sI_ne (Or.inr h1), fun _ _ => by rw [gA_sI]⟩⟩
end MB
