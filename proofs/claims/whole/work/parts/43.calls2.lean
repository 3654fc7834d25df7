/-! worst, calm, hub, near, ordered, middle. -/
section LG
variable {τ σ β : Type} {n : Nat}
theorem lg0 {F : τ → σ → Nat → β} {R : Nat → σ → Prop} {g : Nat → σ → σ} (step : ∀ o s i, i < n → R i s → (∃ o', F o s i = F o' (g i s) (i + 1)) ∧ R (i + 1) (g i s)) : ∀ (d i : Nat) (o : τ) (s : σ), i + d = n → R i s → (∃ o', F o s i = F o' (fr g d i s) n) ∧ R n (fr g d i s)
  | 0, i, o, s, h, hr => by simp only [fr]; rw [show i = n by omega] at *; exact ⟨⟨o, rfl⟩, hr⟩
  | d + 1, i, o, s, h, hr => by
    obtain ⟨⟨o1, h1⟩, h2⟩ := step o s i (by omega) hr
    obtain ⟨⟨o2, h3⟩, h4⟩ := lg0 step d (i + 1) o1 (g i s) (by omega) h2
    simp only [fr]
    exact ⟨⟨o2, by rw [h1, h3]⟩, h4⟩
theorem lg {F : τ → σ → Nat → pm_M → Option pv_O} {R : Nat → σ → pm_M → Prop} {g : Nat → σ → σ} (step : ∀ o s i m, i < n → R i s m → ∃ o' m', F o s i m = F o' (g i s) (i + 1) m' ∧ R (i + 1) (g i s) m') : ∀ (d i : Nat) (o : τ) (s : σ) (m : pm_M), i + d = n → R i s m → ∃ o' m', F o s i m = F o' (fr g d i s) n m' ∧ R n (fr g d i s) m'
  | 0, i, o, s, m, h, hr => ⟨o, m, by simp only [fr]; rw [show i = n by omega], by simp only [fr]; rw [show n = i by omega]; exact hr⟩
  | d + 1, i, o, s, m, h, hr => by
    obtain ⟨o1, m1, e1, r1⟩ := step o s i m (by omega) hr
    obtain ⟨o2, m2, e2, r2⟩ := lg step d (i + 1) o1 (g i s) m1 (by omega) r1
    exact ⟨o2, m2, by rw [e1, e2]; simp only [fr], by simp only [fr]; exact r2⟩
theorem lgx {F : τ → σ → Nat → pm_M → Option pv_O} {R : Nat → σ → pm_M → Prop} {Z : pm_M → Prop} {c : Nat → σ → Option Int32} {g : Nat → σ → σ} {e : σ → Int32} (step : ∀ o s i m, i < n → R i s m → (∃ r m', c i s = some r ∧ F o s i m = some (some (.int r), hp m') ∧ Z m') ∨ (c i s = none ∧ ∃ o' m', F o s i m = F o' (g i s) (i + 1) m' ∧ R (i + 1) (g i s) m')) (last : ∀ o s m, R n s m → ∃ m', F o s n m = some (some (.int (e s)), hp m') ∧ Z m') : ∀ (d i : Nat) (o : τ) (s : σ) (m : pm_M), i + d = n → R i s m → ∃ m', F o s i m = some (some (.int (fx c g e d i s)), hp m') ∧ Z m'
  | 0, i, o, s, m, h, hr => by simp only [fx]; rw [show i = n by omega] at *; exact last o s m hr
  | d + 1, i, o, s, m, h, hr => by
    rcases step o s i m (by omega) hr with ⟨r, m', h1, h2, h3⟩ | ⟨h1, o1, m1, e1, r1⟩
    · exact ⟨m', by rw [h2]; simp only [fx, h1], h3⟩
    · obtain ⟨m2, e2, r2⟩ := lgx step last d (i + 1) o1 (g i s) m1 (by omega) r1
      exact ⟨m2, by rw [e1, e2]; simp only [fx, h1], r2⟩
theorem lgx0 {F : τ → σ → Nat → Option pv_O} {h : pv_H} {c : Nat → σ → Option Int32} {g : Nat → σ → σ} {e : σ → Int32} (step : ∀ o s i, i < n → (∃ r, c i s = some r ∧ F o s i = some (some (.int r), h)) ∨ (c i s = none ∧ ∃ o', F o s i = F o' (g i s) (i + 1))) (last : ∀ o s, F o s n = some (some (.int (e s)), h)) : ∀ (d i : Nat) (o : τ) (s : σ), i + d = n → F o s i = some (some (.int (fx c g e d i s)), h)
  | 0, i, o, s, hi => by simp only [fx]; rw [show i = n by omega]; exact last o s
  | d + 1, i, o, s, hi => by
    rcases step o s i (by omega) with ⟨r, h1, h2⟩ | ⟨h1, o1, e1⟩
    · rw [h2]; simp only [fx, h1]
    · rw [e1, lgx0 step last d (i + 1) o1 (g i s) (by omega)]; simp only [fx, h1]
end LG
/-- nobody, or one of them -/
def enc : Option Nat → Int32
  | none => -1
  | some k => nI k
theorem enc_m1 {k : Nat} (h : k < 2 ^ 31) : ¬ nI k = -1 := fun z => by
  have := congrArg Int32.toInt z
  rw [nI_toInt h, show (-1 : Int32).toInt = -1 by decide] at this
  omega
section Q2
variable {m : pm_M} {X : pv_X} {P c : Nat} {π : aP} {s : aS}
theorem ab_toInt {v : Int32} (h : -1000 ≤ v.toInt) : (ab v).toInt = v.toInt.natAbs := by
  unfold ab
  have z : (0 : Int32).toInt = 0 := by decide
  by_cases h0 : 0 ≤ v
  · rw [if_pos h0]
    rw [Int32.le_iff_toInt_le, z] at h0
    omega
  · rw [if_neg h0]
    rw [Int32.le_iff_toInt_le, z] at h0
    have := Int32.toInt_lt v
    rw [Int32.toInt_neg, Int.bmod_eq_of_le (by omega) (by omega)]
    omega
theorem ab_pos {n : Nat} (ok : okS n c s) (hc : c ≤ 1000000) {k : Nat} (hk : k < n) : (-1 : Int32) < ab (aOut s k) := by
  have := out_rng ok hc hk
  rw [Int32.lt_iff_toInt_lt, ab_toInt (by omega), show (-1 : Int32).toInt = -1 by decide]
  omega
def gWo (s : aS) (i : Nat) (o : Option Nat) : Option Nat := match o with
  | none => some i
  | some k => if ab (aOut s k) < ab (aOut s i) then some i else some k
def aWo (n : Nat) (s : aS) : Option Nat := fr (gWo s) n 0 none
theorem gWo_lt {s : aS} {i : Nat} {o : Option Nat} (h : ∀ k, o = some k → k < i) : ∀ k, gWo s i o = some k → k < i + 1 := by
  intro k hk
  unfold gWo at hk
  split at hk
  · cases hk; omega
  · rename_i j
    have := h j rfl
    split at hk <;> cases hk <;> omega
theorem aWo_lt {n : Nat} {s : aS} : ∀ k, aWo n s = some k → k < n := fr_inv (R := fun i o => ∀ k, o = some k → k < i) (fun _ _ _ h => gWo_lt h) n 0 none (by omega) (fun _ h => by cases h)
theorem w_worst (hC : HC m P π s) : pM X m_Wp_worst [.ref 0] (hp m) = some (some (.int (enc (aWo π.1 s))), hp m) := by
  have hn := hC.n6
  have hv := hC.2.2.2.2
  rw [e_Wp_worst, u_Wp_worst_0]
  obtain ⟨⟨-, h1⟩, -⟩ := lg0 (n := π.1) (F := fun (_ : Unit) o i => f_Wp_worst_4 X 0 (enc o) (nI i) (hp m)) (R := fun i o => ∀ k, o = some k → k < i) (g := gWo s) (fun _ o i hi hr => ⟨⟨(), by
    rw [u_Wp_worst_4]
    simp only [tIs, tVs, bs, if_true, true_or, or_true, i10, if_false, not_false_eq_true, not_true_eq_false, Wp_rc, Wp_f5, Wp_f6, Wp_f7, Wp_f8, Wp_f9, Wp_f10, Wp_f11, Wp_f12, Wp_f13, Wp_f14, hC.f1, hC.sz]
    rw [if_neg (nI_ge hi (by omega))]
    simp only [u_Wp_worst_39, u_Wp_worst_41, nI_1]
    cases o with
    | none => rw [if_pos (show enc none = -1 from rfl)]; rfl
    | some k =>
      have hk := hr k rfl
      rw [show enc (some k) = nI k from rfl, if_neg (enc_m1 (by omega))]
      simp only [tIs, tVs, bs, if_true, true_or, or_true, i10, if_false, not_false_eq_true, not_true_eq_false, Wp_rc, Wp_f5, Wp_f6, Wp_f7, Wp_f8, Wp_f9, Wp_f10, Wp_f11, Wp_f12, Wp_f13, Wp_f14, vw_far isSt_35 (show i < 6 by omega) hv, vw_far isSt_35 (show k < 6 by omega) hv, u_Wp_worst_39, u_Wp_worst_41, nI_1]
      unfold gWo
      by_cases h : ab (aOut s k) < ab (aOut s i)
      · rw [if_neg (Int32.not_le.mpr h)]; dsimp only; rw [if_pos h]; rfl
      · rw [if_pos (Int32.not_lt.mp h)]; dsimp only; rw [if_neg h]; rfl⟩, gWo_lt hr⟩) π.1 0 () none (by omega) (fun _ h => by cases h)
  refine (show f_Wp_worst_4 X 0 (-1) 0 (hp m) = f_Wp_worst_4 X 0 (enc none) (nI 0) (hp m) from rfl).trans ?_
  rw [h1, u_Wp_worst_4]
  simp only [tIs, tVs, bs, if_true, true_or, or_true, i10, if_false, not_false_eq_true, not_true_eq_false, Wp_rc, Wp_f5, Wp_f6, Wp_f7, Wp_f8, Wp_f9, Wp_f10, Wp_f11, Wp_f12, Wp_f13, Wp_f14, hC.f1, hC.sz]
  rw [if_pos (nI_le (Nat.le_refl _) (by omega))]
  rfl
def gWm (s : aS) (i : Nat) (o : Option Nat × Int32) : Option Nat × Int32 := if o.2 < ab (aOut s i) then (some i, ab (aOut s i)) else o
theorem gWm_eq {n : Nat} (ok : okS n c s) (hc : c ≤ 1000000) : (fr (gWm s) n 0 (none, -1)).1 = aWo n s := by
  have := fr_rel (n := n) (R := fun i (a : Option Nat × Int32) (b : Option Nat) => a.1 = b ∧ (match b with | none => a.2 = -1 | some k => a.2 = ab (aOut s k))) (g := gWm s) (g' := gWo s) (fun i a b hi hr => by
    obtain ⟨h1, h2⟩ := hr
    unfold gWm gWo
    cases b with
    | none =>
      dsimp only at h2 ⊢
      rw [h2, if_pos (ab_pos ok hc hi)]
      exact ⟨rfl, rfl⟩
    | some k =>
      dsimp only at h2 ⊢
      rw [h2]
      by_cases h : ab (aOut s k) < ab (aOut s i)
      · rw [if_pos h, if_pos h]; exact ⟨rfl, rfl⟩
      · rw [if_neg h, if_neg h]; exact ⟨h1, h2⟩) n 0 (none, -1) none (by omega) ⟨rfl, rfl⟩
  exact this.1
theorem m_worstOf {b : Nat} {t : aS} {B : Int32} (hR : RM m π) (hv : vm m b = t) (ok : okS π.1 c t) (hB : B = nI b) (hb : b + 19 ≤ 1173) (hc : c ≤ 1000000) : pM X m_Md_worstOf [.ref 175, .int B] (hp m) = some (some (.int (enc (aWo π.1 t))), hp m) := by
  have hn := hR.1
  rw [e_Md_worstOf, u_Md_worstOf_0]
  obtain ⟨⟨o', h1⟩, -⟩ := lg0 (n := π.1) (F := fun (g : Option Value) (o : Option Nat × Int32) i => f_Md_worstOf_7 X 175 B (enc o.1) o.2 (nI i) g (hp m)) (R := fun _ _ => True) (g := gWm t) (fun g o i hi _ => ⟨⟨some (.int (ab (aOut t i))), by
    rw [u_Md_worstOf_7]
    simp only [tIs, tVs, bs, if_true, true_or, or_true, i10, if_false, not_false_eq_true, not_true_eq_false, Md_rc, Md_f1, Md_f4, Md_f5, Md_f6, Md_f9, Md_f10, Md_f11, Md_f12, Md_f14, Md_f15, Md_f18, Md_f19, Md_f20, Md_f21, Md_f23, Md_f24, Md_f25, Md_f26, Md_f28, m_n hR]
    rw [if_neg (nI_ge hi (by omega))]
    simp only [tIs, tVs, bs, if_true, true_or, or_true, i10, if_false, not_false_eq_true, not_true_eq_false, Md_rc, Md_f1, Md_f4, Md_f5, Md_f6, Md_f9, Md_f10, Md_f11, Md_f12, Md_f14, Md_f15, Md_f18, Md_f19, Md_f20, Md_f21, Md_f23, Md_f24, Md_f25, Md_f26, Md_f28, m_out hR hv ok hB hb hc hi, d_unsigned, u_Md_worstOf_40, u_Md_worstOf_53, nI_1]
    unfold gWm
    by_cases h : o.2 < ab (aOut t i)
    · rw [if_neg (Int32.not_le.mpr h), if_neg (Int32.not_le.mpr h), if_pos h]; rfl
    · rw [if_pos (Int32.not_lt.mp h), if_pos (Int32.not_lt.mp h), if_neg h]⟩, trivial⟩) π.1 0 none (none, -1) (by omega) trivial
  refine Eq.trans (b := f_Md_worstOf_7 X 175 B (enc none) (-1) (nI 0) none (hp m)) rfl ?_
  rw [show f_Md_worstOf_7 X 175 B (enc none) (-1) (nI 0) none (hp m) = _ from h1, u_Md_worstOf_7]
  simp only [tIs, tVs, bs, if_true, true_or, or_true, i10, if_false, not_false_eq_true, not_true_eq_false, Md_rc, Md_f1, Md_f4, Md_f5, Md_f6, Md_f9, Md_f10, Md_f11, Md_f12, Md_f14, Md_f15, Md_f18, Md_f19, Md_f20, Md_f21, Md_f23, Md_f24, Md_f25, Md_f26, Md_f28, m_n hR]
  rw [if_pos (nI_le (Nat.le_refl _) (by omega)), gWm_eq ok hc]
theorem q_worst (hC : HC m P π s) (hM : HM m π s c) : Ag X m_Wp_worst m_Md_worst [] m := by
  refine Ag.mk _ ⟨m, w_worst hC, Q.rf⟩ (fun m1 hq => ?_)
  obtain ⟨m2, e2, q2⟩ := m_t0 (m := m1)
  have hM2 := hM.q (hq.tr q2)
  have hc := hM.2.2.2
  refine ⟨m2, ?_, q2⟩
  rw [e_Md_worst, u_Md_worst_0]
  simp only [tIs, tVs, bs, if_true, true_or, or_true, i10, if_false, not_false_eq_true, not_true_eq_false, Md_rc, Md_f1, Md_f4, Md_f5, Md_f6, Md_f9, Md_f10, Md_f11, Md_f12, Md_f14, Md_f15, Md_f18, Md_f19, Md_f20, Md_f21, Md_f23, Md_f24, Md_f25, Md_f26, Md_f28, e2, m_worstOf (B := 0) hM2.1 hM2.2.1 hM.2.2.1 rfl (by decide) (by omega)]
/-- calm -/
def gCa (s : aS) (i : Nat) (o : Option Nat) : Option Nat := match o with
  | none => some i
  | some k => if s.2.1 i < s.2.1 k then some i else some k
theorem gCa_lt {s : aS} {i : Nat} {o : Option Nat} (h : ∀ k, o = some k → k < i) : ∀ k, gCa s i o = some k → k < i + 1 := by
  intro k hk
  unfold gCa at hk
  split at hk
  · cases hk; omega
  · rename_i j
    have := h j rfl
    split at hk <;> cases hk <;> omega
theorem vm_a1 {b k : Nat} {t : aS} {B : Int32} (hv : vm m b = t) (hk : k < 6) (hb : b + 19 ≤ 1173) (hB : B = nI (b + 1 + k)) : pv_aX X (hp m) 189 B = some (t.2.1 k) := by
  rw [hB, ld_189 (by omega), ← hv]
  exact congrArg some (nr_lt (f := fun j => gA m 189 (b + 1 + j)) hk).symm
theorem vm_a7 {b k : Nat} {t : aS} {B : Int32} (hv : vm m b = t) (hk : k < 6) (hb : b + 19 ≤ 1173) (hB : B = nI (b + 7 + k)) : pv_aX X (hp m) 189 B = some (t.1 k) := by
  rw [hB, ld_189 (by omega), ← hv]
  exact congrArg some (nr_lt (f := fun j => gA m 189 (b + 7 + j)) hk).symm
theorem vm_a13 {b k : Nat} {t : aS} {B : Int32} (hv : vm m b = t) (hk : k < 6) (hb : b + 19 ≤ 1173) (hB : B = nI (b + 13 + k)) : pv_aX X (hp m) 189 B = some (t.2.2.1 k) := by
  rw [hB, ld_189 (by omega), ← hv]
  exact congrArg some (nr_lt (f := fun j => gA m 189 (b + 13 + j)) hk).symm
theorem q_calm (hC : HC m P π s) (hM : HM m π s c) : Ag X m_Wp_calm m_Md_calm [] m := by
  have hn := hC.n6
  have hv := hC.2.2.2.2
  refine Ag.mk (enc (fr (gCa s) π.1 0 none)) ⟨m, ?_, Q.rf⟩ (fun m1 hq => ?_)
  · rw [e_Wp_calm, u_Wp_calm_0]
    obtain ⟨⟨-, h1⟩, -⟩ := lg0 (n := π.1) (F := fun (_ : Unit) o i => f_Wp_calm_4 X 0 (enc o) (nI i) (hp m)) (R := fun i o => ∀ k, o = some k → k < i) (g := gCa s) (fun _ o i hi hr => ⟨⟨(), by
      rw [u_Wp_calm_4]
      simp only [tIs, tVs, bs, if_true, true_or, or_true, i10, if_false, not_false_eq_true, not_true_eq_false, Wp_rc, Wp_f5, Wp_f6, Wp_f7, Wp_f8, Wp_f9, Wp_f10, Wp_f11, Wp_f12, Wp_f13, Wp_f14, hC.f1, hC.sz]
      rw [if_neg (nI_ge hi (by omega))]
      simp only [u_Wp_calm_41, u_Wp_calm_43, nI_1]
      cases o with
      | none => rw [if_pos (show enc none = -1 from rfl)]; rfl
      | some k =>
        have hk := hr k rfl
        rw [show enc (some k) = nI k from rfl, if_neg (enc_m1 (by omega))]
        simp only [tIs, tVs, bs, if_true, true_or, or_true, i10, if_false, not_false_eq_true, not_true_eq_false, Wp_rc, Wp_f5, Wp_f6, Wp_f7, Wp_f8, Wp_f9, Wp_f10, Wp_f11, Wp_f12, Wp_f13, Wp_f14, St_f1 isSt_35, vw_a2 isSt_35 (show i < 6 by omega) hv, vw_a2 isSt_35 (show k < 6 by omega) hv]
        unfold gCa
        by_cases h : s.2.1 i < s.2.1 k
        · rw [if_neg (Int32.not_le.mpr h)]; dsimp only; rw [if_pos h]; rfl
        · rw [if_pos (Int32.not_lt.mp h)]; dsimp only; rw [if_neg h]; rfl⟩, gCa_lt hr⟩) π.1 0 () none (by omega) (fun _ h => by cases h)
    refine (show f_Wp_calm_4 X 0 (-1) 0 (hp m) = f_Wp_calm_4 X 0 (enc none) (nI 0) (hp m) from rfl).trans ?_
    rw [h1, u_Wp_calm_4]
    simp only [tIs, tVs, bs, if_true, true_or, or_true, i10, if_false, not_false_eq_true, not_true_eq_false, Wp_rc, Wp_f5, Wp_f6, Wp_f7, Wp_f8, Wp_f9, Wp_f10, Wp_f11, Wp_f12, Wp_f13, Wp_f14, hC.f1, hC.sz]
    rw [if_pos (nI_le (Nat.le_refl _) (by omega))]
  · obtain ⟨m2, e2, q2⟩ := m_t0 (m := m1)
    have hM2 := hM.q (hq.tr q2)
    refine ⟨m2, ?_, q2⟩
    rw [e_Md_calm, u_Md_calm_0, e2]
    simp only [tIs, tVs, bs, if_true, true_or, or_true, i10, if_false, not_false_eq_true, not_true_eq_false, Md_rc, Md_f1, Md_f4, Md_f5, Md_f6, Md_f9, Md_f10, Md_f11, Md_f12, Md_f14, Md_f15, Md_f18, Md_f19, Md_f20, Md_f21, Md_f23, Md_f24, Md_f25, Md_f26, Md_f28]
    obtain ⟨⟨-, h1⟩, -⟩ := lg0 (n := π.1) (F := fun (_ : Unit) o i => f_Md_calm_9 X 175 (enc o) (nI i) (hp m2)) (R := fun i o => ∀ k, o = some k → k < i) (g := gCa s) (fun _ o i hi hr => ⟨⟨(), by
      rw [u_Md_calm_9]
      simp only [tIs, tVs, bs, if_true, true_or, or_true, i10, if_false, not_false_eq_true, not_true_eq_false, Md_rc, Md_f1, Md_f4, Md_f5, Md_f6, Md_f9, Md_f10, Md_f11, Md_f12, Md_f14, Md_f15, Md_f18, Md_f19, Md_f20, Md_f21, Md_f23, Md_f24, Md_f25, Md_f26, Md_f28, m_n hM2.1]
      rw [if_neg (nI_ge hi (by omega))]
      simp only [u_Md_calm_40, u_Md_calm_45, nI_1]
      cases o with
      | none => rw [if_pos (by decide)]; rfl
      | some k =>
        have hk := hr k rfl
        rw [show enc (some k) = nI k from rfl, if_neg (nI_pos (by omega))]
        simp only [tIs, tVs, bs, if_true, true_or, or_true, i10, if_false, not_false_eq_true, not_true_eq_false, Md_rc, Md_f1, Md_f4, Md_f5, Md_f6, Md_f9, Md_f10, Md_f11, Md_f12, Md_f14, Md_f15, Md_f18, Md_f19, Md_f20, Md_f21, Md_f23, Md_f24, Md_f25, Md_f26, Md_f28, vm_a1 (B := 1 + nI i) hM2.2.1 (show i < 6 by omega) (by decide) (by rw [show (1 : Int32) = nI 1 from rfl, nI_add]), vm_a1 (B := 1 + nI k) hM2.2.1 (show k < 6 by omega) (by decide) (by rw [show (1 : Int32) = nI 1 from rfl, nI_add])]
        unfold gCa
        by_cases h : s.2.1 i < s.2.1 k
        · rw [if_neg (Int32.not_le.mpr h)]; dsimp only; rw [if_pos h]; rfl
        · rw [if_pos (Int32.not_lt.mp h)]; dsimp only; rw [if_neg h]; rfl⟩, gCa_lt hr⟩) π.1 0 () none (by omega) (fun _ h => by cases h)
    refine (show f_Md_calm_9 X 175 (-1) 0 (hp m2) = f_Md_calm_9 X 175 (enc none) (nI 0) (hp m2) from rfl).trans ?_
    rw [h1, u_Md_calm_9]
    simp only [tIs, tVs, bs, if_true, true_or, or_true, i10, if_false, not_false_eq_true, not_true_eq_false, Md_rc, Md_f1, Md_f4, Md_f5, Md_f6, Md_f9, Md_f10, Md_f11, Md_f12, Md_f14, Md_f15, Md_f18, Md_f19, Md_f20, Md_f21, Md_f23, Md_f24, Md_f25, Md_f26, Md_f28, m_n hM2.1]
    rw [if_pos (nI_le (Nat.le_refl _) (by omega))]
end Q2
