/-! The reference's QUARTER is the class's. -/
/-- the reference's port is this one -/
def RM (m : pm_M) (π : aP) : Prop := π.1 ≤ 6 ∧ gA m 181 0 = nI π.1 ∧ (∀ k, k < π.1 → gA m 181 (2 + 4 * k) = π.2.1 k) ∧ (∀ k, k < π.1 → gA m 181 (2 + 4 * k + 2) = π.2.2.1 k ∧ (π.2.2.1 k = -1 ∨ ∃ j, j < π.1 ∧ j ≠ k ∧ π.2.2.1 k = nI j)) ∧ (match π.2.2.2 with
  | none => gA m 181 1 = -1
  | some L => gA m 181 1 = 0 ∧ ∃ N S, N ≤ 1000 ∧ (L = fun f => (evn S f N 0 []).headD 0) ∧ dpn S N 0 0 = some 1 ∧ gA m 182 N = 0 ∧ ∀ k, k < N → mr (S k) (gA m 182 k) (gA m 183 k))
theorem RM.same {L : List Nat} {m m' : pm_M} {π : aP} (h : RM m π) (hs : Same L m m') (h1 : 181 ∉ L) (h2 : 182 ∉ L) (h3 : 183 ∉ L) : RM m' π := by
  unfold RM
  rw [hs.A h1, hs.A h2, hs.A h3]
  exact h
def tq (K : Nat → Int32) (i : Nat) (s : aS) : aS := (upd s.1 i (rm (s.1 i + (s.2.1 i / 4 + stp (K i))) 720), s.2)
theorem tq_tm {K : Nat → Int32} {n : Nat} : ∀ (d i : Nat) (s : aS) (v : Int32), i + d = n → (∀ k, i ≤ k → k < n → (∃ t, t < 720 ∧ s.1 k = nI t) ∧ ∃ b, 20 ≤ b ∧ b ≤ 160 ∧ s.2.1 k = nI b) → (fr (tm1 K) d i (s, v)).1 = fr (tq K) d i s := by
  intro d
  induction d with
  | zero => intro i s v hi hk; simp only [fr]
  | succ d ih =>
    intro i s v hi hk
    simp only [fr]
    obtain ⟨⟨t, ht, et⟩, b, hb1, hb2, eb⟩ := hk i (Nat.le_refl _) (by omega)
    obtain ⟨w, hw, ew⟩ := st_nI (k := K i) ht hb1 hb2
    have e : s.1 i + (s.2.1 i / 4 + stp (K i)) = nI w := by rw [← Int32.add_assoc, et, eb, ew]
    have e' : s.1 i + s.2.1 i / 4 + stp (K i) = nI w := by rw [et, eb, ew]
    have key : ∀ (x v' : Int32), x = rm (nI w) 720 → (fr (tm1 K) d (i + 1) ((upd s.1 i x, s.2), v')).1 = fr (tq K) d (i + 1) (tq K i s) := by
      intro x v' hx
      rw [ih (i + 1) (upd s.1 i x, s.2) v' (by omega) (fun k h1 h2 => by
        dsimp only
        rw [pk_un (by omega)]
        exact hk k (by omega) h2)]
      unfold tq
      rw [e, hx]
    rw [rm_720 (by omega)] at key
    unfold tm1
    dsimp only
    rw [e']
    by_cases h7 : nI w < 720
    · rw [if_pos h7]
      exact key _ _ (by rw [if_pos h7])
    · rw [if_neg h7]
      exact key _ _ (by rw [if_neg h7])
section DP
variable {X : pv_X} {b n : Nat} {π : aP}
theorem d_pass2 (hb : b + 19 ≤ 1173) (hn : n ≤ 6) (P : Nat → Int32) (hP0 : P 0 = nI n) (K : Nat → Int32) (hK : ∀ k, k < n → P (2 + 4 * k) = K k) : ∀ (d i : Nat) (m : pm_M), i + d = n → gA m 181 = P →
    ∃ m', f_Md_passes_1_2 X 175 (nI b) (nI i) (hp m) = f_Md_passes_1_2 X 175 (nI b) (nI n) (hp m') ∧ vm m' b = fr (tq K) d i (vm m b) ∧ SameM b m m' := by
  intro d
  induction d with
  | zero =>
    intro i m hi hP
    have hin : i = n := by omega
    subst hin
    exact ⟨m, rfl, by simp only [fr], SameM.rf⟩
  | succ d ih =>
    intro i m hi hP
    have i6 : i < 6 := by omega
    have s1 : SameM b m (sA m 189 (upd (gA m 189) (b + 7 + i) (rm ((vm m b).1 i + ((vm m b).2.1 i / 4 + stp (K i))) 720))) := SameM.put (by omega) (by omega)
    obtain ⟨m', r1, r2, r3⟩ := ih (i + 1) _ (by omega) (by rw [s1.1.A (by decide)]; exact hP)
    refine ⟨m', ?_, ?_, s1.tr r3⟩
    · rw [← r1, u_Md_passes_1_2, Md_rc, if_pos rfl, d_persons]
      simp only [tIs, bs]
      rw [hP, hP0, if_neg (nI_ge (a := i) (b := n) (by omega) (by omega)), Md_f21]
      simp only [bs]
      rw [show (7 : Int32) = nI 7 from rfl, n3, ld_189 (by omega)]
      simp only [bs]
      rw [Md_rc, if_pos rfl, d_stepOf hb i6]
      simp only [tIs, bs]
      rw [st_189 (by omega)]
      simp only [bs]
      have e : (vm m b).1 i = gA m 189 (b + 7 + i) := nr_lt (f := fun j => gA m 189 (b + 7 + j)) i6
      rw [nI_1, hP, hK i (by omega), e]
      unfold rm
      rfl
    · rw [r2, vm_t i6]
      simp only [fr, tq]
theorem hr_ne {A : Nat → Int32} : ∀ (d i : Nat) (s : aS), (fr (hr1 A) d i s).2.2.2 = s.2.2.2
  | 0, _, s => by simp only [fr]
  | d + 1, i, s => by
    simp only [fr]
    rw [hr_ne d (i + 1)]
    unfold hr1
    split
    · rfl
    · simp only [aAsk]
theorem d_pass63 (hb : b + 19 ≤ 1173) (hn : n ≤ 6) (P : Nat → Int32) (hP0 : P 0 = nI n) (A : Nat → Int32) (hA : ∀ k, k < n → P (2 + 4 * k + 2) = A k ∧ (A k = -1 ∨ ∃ j, j < n ∧ j ≠ k ∧ A k = nI j)) : ∀ (d i : Nat) (m : pm_M), i + d = n → gA m 181 = P →
    ∃ m', f_Md_passes_1_63 X 175 (nI b) (nI i) (hp m) = f_Md_passes_1_63 X 175 (nI b) (nI n) (hp m') ∧ vm m' b = (if rm (vm m b).2.2.2 4 = 0 then fr (hr1 A) d i (vm m b) else vm m b) ∧ SameM b m m' := by
  intro d
  induction d with
  | zero =>
    intro i m hi hP
    have hin : i = n := by omega
    subst hin
    exact ⟨m, rfl, by simp only [fr, ite_self], SameM.rf⟩
  | succ d ih =>
    intro i m hi hP
    have i6 : i < 6 := by omega
    have e0 : (vm m b).2.2.2 = gA m 189 b := rfl
    have hb0 : (nI b + 0 : Int32) = nI b := by rw [Int32.add_zero]
    have go : ∀ m1, SameM b m m1 → vm m1 b = (if rm (vm m b).2.2.2 4 = 0 then hr1 A i (vm m b) else vm m b) → f_Md_passes_1_63 X 175 (nI b) (nI i) (hp m) = f_Md_passes_1_105 X 175 (nI b) (nI i) (hp m1) → ∃ m', f_Md_passes_1_63 X 175 (nI b) (nI i) (hp m) = f_Md_passes_1_63 X 175 (nI b) (nI n) (hp m') ∧ vm m' b = (if rm (vm m b).2.2.2 4 = 0 then fr (hr1 A) (d + 1) i (vm m b) else vm m b) ∧ SameM b m m' := by
      intro m1 s1 v1 q1
      obtain ⟨m', r1, r2, r3⟩ := ih (i + 1) m1 (by omega) (by rw [s1.1.A (by decide)]; exact hP)
      refine ⟨m', ?_, ?_, s1.tr r3⟩
      · rw [q1, u_Md_passes_1_105, nI_1, r1]
      · rw [r2, v1]
        by_cases h4 : rm (vm m b).2.2.2 4 = 0
        · rw [if_pos h4, if_pos h4]
          have : (hr1 A i (vm m b)).2.2.2 = (vm m b).2.2.2 := hr_ne 1 i (vm m b)
          rw [this, if_pos h4, fr]
        · rw [if_neg h4, if_neg h4, if_neg h4]
    obtain ⟨hA1, hA2⟩ := hA i (by omega)
    have hd : f_Md_passes_1_63 X 175 (nI b) (nI i) (hp m) = if ¬ rm (vm m b).2.2.2 4 = 0 then f_Md_passes_1_105 X 175 (nI b) (nI i) (hp m) else if A i < 0 then f_Md_passes_1_105 X 175 (nI b) (nI i) (hp m) else (pv_tV (pM X m_Md_asks [.ref 175, .int (nI b), .int (nI i), .int (A i)] (hp m))).bind (fun h6 => f_Md_passes_1_105 X 175 (nI b) (nI i) h6) := by
      rw [u_Md_passes_1_63, Md_rc, if_pos rfl, d_persons]
      simp only [tIs, bs]
      rw [hP, hP0, if_neg (nI_ge (a := i) (b := n) (by omega) (by omega)), Md_f21]
      simp only [bs]
      rw [hb0, ld_189 (by omega)]
      simp only [bs]
      rw [← e0, Md_rc, if_pos rfl, show (2 : Int32) = nI 2 from rfl, d_personOf i6 (by decide)]
      simp only [tIs, bs]
      rw [Md_rc, if_pos rfl, d_personOf i6 (by decide)]
      simp only [tIs, bs]
      rw [Md_rc, if_pos rfl, hP, hA1]
      unfold rm
      rfl
    by_cases h4 : rm (vm m b).2.2.2 4 = 0
    · rw [if_neg (fun z => z h4)] at hd
      rcases hA2 with hm | ⟨j, hj, hji, hAj⟩
      · rw [if_pos (by rw [hm]; decide)] at hd
        exact go m SameM.rf (by rw [if_pos h4]; unfold hr1; rw [if_pos hm]) hd
      · rw [if_neg (by rw [hAj]; exact nI_pos (by omega)), hAj] at hd
        obtain ⟨m1, q1, q2, q3⟩ := d_asks (X := X) (m := m) (o := j) hb i6 (by omega)
        rw [q1] at hd
        simp only [tVs, bs] at hd
        refine go m1 q3 ?_ hd
        rw [if_pos h4, q2]
        unfold hr1
        rw [if_neg (by rw [hAj]; intro z; have := congrArg Int32.toInt z; rw [nI_toInt (by omega), show (-1 : Int32).toInt = -1 by decide] at this; omega), hAj, nI_clamp (by omega)]
    · rw [if_pos h4] at hd
      exact go m SameM.rf (by rw [if_neg h4]) hd
end DP
