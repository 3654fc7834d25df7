/-! What a question leaves as it is; the class's and the reference's side of it. -/
section LPS
variable {σ α : Type} {n : Nat}
theorem lp {F : σ → Nat → pm_M → Option pv_O} {R : σ → pm_M → Prop} {g : Nat → σ → σ} (step : ∀ s i m, i < n → R s m → ∃ m', F s i m = F (g i s) (i + 1) m' ∧ R (g i s) m') : ∀ (d i : Nat) (s : σ) (m : pm_M), i + d = n → R s m → ∃ m', F s i m = F (fr g d i s) n m' ∧ R (fr g d i s) m'
  | 0, i, s, m, h, hr => ⟨m, by simp only [fr]; rw [show i = n by omega], by simp only [fr]; exact hr⟩
  | d + 1, i, s, m, h, hr => by
    obtain ⟨m1, e1, r1⟩ := step s i m (by omega) hr
    obtain ⟨m2, e2, r2⟩ := lp step d (i + 1) (g i s) m1 (by omega) r1
    exact ⟨m2, by rw [e1, e2]; simp only [fr], by simp only [fr]; exact r2⟩
theorem lp0 {β : Type} {F : σ → Nat → β} {g : Nat → σ → σ} (step : ∀ s i, i < n → F s i = F (g i s) (i + 1)) : ∀ (d i : Nat) (s : σ), i + d = n → F s i = F (fr g d i s) n
  | 0, i, s, h => by simp only [fr]; rw [show i = n by omega]
  | d + 1, i, s, h => by rw [step s i (by omega), lp0 step d (i + 1) (g i s) (by omega)]; simp only [fr]
/-- gone through until something is found -/
def fx (c : Nat → σ → Option α) (g : Nat → σ → σ) (e : σ → α) : Nat → Nat → σ → α
  | 0, _, s => e s
  | d + 1, i, s => match c i s with
    | some r => r
    | none => fx c g e d (i + 1) (g i s)
theorem lpx {F : σ → Nat → pm_M → Option pv_O} {R : σ → pm_M → Prop} {Z : pm_M → Prop} {c : Nat → σ → Option Int32} {g : Nat → σ → σ} {e : σ → Int32} (step : ∀ s i m, i < n → R s m → (∃ r m', c i s = some r ∧ F s i m = some (some (.int r), hp m') ∧ Z m') ∨ (c i s = none ∧ ∃ m', F s i m = F (g i s) (i + 1) m' ∧ R (g i s) m')) (last : ∀ s m, R s m → ∃ m', F s n m = some (some (.int (e s)), hp m') ∧ Z m') : ∀ (d i : Nat) (s : σ) (m : pm_M), i + d = n → R s m → ∃ m', F s i m = some (some (.int (fx c g e d i s)), hp m') ∧ Z m'
  | 0, i, s, m, h, hr => by simp only [fx]; rw [show i = n by omega]; exact last s m hr
  | d + 1, i, s, m, h, hr => by
    rcases step s i m (by omega) hr with ⟨r, m', h1, h2, h3⟩ | ⟨h1, m1, e1, r1⟩
    · exact ⟨m', by rw [h2]; simp only [fx, h1], h3⟩
    · obtain ⟨m2, e2, r2⟩ := lpx step last d (i + 1) (g i s) m1 (by omega) r1
      exact ⟨m2, by rw [e1, e2]; simp only [fx, h1], r2⟩
theorem lpx0 {F : σ → Nat → Option pv_O} {h : pv_H} {c : Nat → σ → Option Int32} {g : Nat → σ → σ} {e : σ → Int32} (step : ∀ s i, i < n → F s i = match c i s with | some r => some (some (.int r), h) | none => F (g i s) (i + 1)) (last : ∀ s, F s n = some (some (.int (e s)), h)) : ∀ (d i : Nat) (s : σ), i + d = n → F s i = some (some (.int (fx c g e d i s)), h)
  | 0, i, s, hi => by simp only [fx]; rw [show i = n by omega]; exact last s
  | d + 1, i, s, hi => by
    rw [step s i (by omega)]
    simp only [fx]
    cases c i s with
    | some r => rfl
    | none => exact lpx0 step last d (i + 1) (g i s) (by omega)
theorem fr_rel {β : Type} {R : Nat → σ → β → Prop} {g : Nat → σ → σ} {g' : Nat → β → β} (step : ∀ i a b, i < n → R i a b → R (i + 1) (g i a) (g' i b)) : ∀ (d i : Nat) (a : σ) (b : β), i + d = n → R i a b → R n (fr g d i a) (fr g' d i b)
  | 0, i, a, b, h, hr => by simp only [fr]; rw [show n = i by omega]; exact hr
  | d + 1, i, a, b, h, hr => by simp only [fr]; exact fr_rel step d (i + 1) _ _ (by omega) (step i a b (by omega) hr)
theorem fr_ext {g g' : Nat → σ → σ} (h : ∀ i s, i < n → g i s = g' i s) (s : σ) : fr g n 0 s = fr g' n 0 s := fr_rel (R := fun _ a b => a = b) (fun i a b hi e => by rw [e, h i b hi]) n 0 s s (by omega) rfl
theorem fr_inv {R : Nat → σ → Prop} {g : Nat → σ → σ} (step : ∀ i a, i < n → R i a → R (i + 1) (g i a)) : ∀ (d i : Nat) (a : σ), i + d = n → R i a → R n (fr g d i a)
  | 0, i, a, h, hr => by simp only [fr]; rw [show n = i by omega]; exact hr
  | d + 1, i, a, h, hr => by simp only [fr]; exact fr_inv step d (i + 1) _ (by omega) (step i a (by omega) hr)
theorem fx_rel {β : Type} {R : Nat → σ → β → Prop} {c : Nat → σ → Option α} {g : Nat → σ → σ} {e : σ → α} {c' : Nat → β → Option α} {g' : Nat → β → β} {e' : β → α} (step : ∀ i a b, i < n → R i a b → c i a = c' i b ∧ (c i a = none → R (i + 1) (g i a) (g' i b))) (last : ∀ a b, R n a b → e a = e' b) : ∀ (d i : Nat) (a : σ) (b : β), i + d = n → R i a b → fx c g e d i a = fx c' g' e' d i b
  | 0, i, a, b, h, hr => by simp only [fx]; exact last a b (by rw [show n = i by omega]; exact hr)
  | d + 1, i, a, b, h, hr => by
    simp only [fx]
    obtain ⟨h1, h2⟩ := step i a b (by omega) hr
    rw [← h1]
    cases hc : c i a with
    | some r => rfl
    | none => exact fx_rel step last d (i + 1) _ _ (by omega) (h2 hc)
end LPS
/-- rows that questions use, and forget -/
def scrL : List Nat := [8, 20, 39, 40, 41, 42, 118, 119, 120, 121, 122, 175, 187, 188, 189, 191, 192, 193, 194]
/-- all that a question leaves as it is -/
def Q (m m' : pm_M) : Prop := Same scrL m m' ∧ (∀ j, j ≠ 0 → j ≠ 27 → gI m' 175 j = gI m 175 j) ∧ ∀ i, i < 1071 → gA m' 189 i = gA m 189 i
section QS
variable {m m' m'' : pm_M} {L : List Nat}
theorem Q.rf : Q m m := ⟨Same.rf, fun _ _ _ => rfl, fun _ _ => rfl⟩
theorem Q.tr (h : Q m m') (h' : Q m' m'') : Q m m'' := ⟨h.1.tr h'.1, fun j h1 h2 => (h'.2.1 j h1 h2).trans (h.2.1 j h1 h2), fun i hi => (h'.2.2 i hi).trans (h.2.2 i hi)⟩
theorem Q.of (h : Same L m m') (h1 : ∀ c ∈ L, c ∈ scrL) (h2 : 175 ∉ L) (h3 : 189 ∉ L) : Q m m' := ⟨h.mono h1, fun _ _ _ => h.I h2, fun _ _ => by rw [h.A h3]⟩
theorem Q.ofM {b : Nat} (h : SameM b m m') (hb : 1071 ≤ b) : Q m m' := ⟨h.1.mono (by decide), fun _ _ _ => h.1.I (by decide), fun i hi => h.2 i (by omega)⟩
end QS
/-- the class holds this port, and this is how it is now -/
def HC (m : pm_M) (P : Nat) (π : aP) (s : aS) : Prop := gR m 0 1 = P ∧ (P = 3 ∨ P = 15) ∧ okP m P ∧ vP m P = π ∧ vw m 35 = s
/-- so does the reference -/
def HM (m : pm_M) (π : aP) (s : aS) (c : Nat) : Prop := RM m π ∧ vm m 0 = s ∧ okS π.1 c s ∧ c ≤ 1000
theorem vP_same {m m' : pm_M} {P : Nat} (h : Same scrL m m') (hP : P = 3 ∨ P = 15) : vP m' P = vP m P ∧ (okP m P → okP m' P) := by
  have a0 : P ∉ scrL := by rcases hP with rfl | rfl <;> decide
  have a3 : P + 3 ∉ scrL := by rcases hP with rfl | rfl <;> decide
  have a4 : P + 4 ∉ scrL := by rcases hP with rfl | rfl <;> decide
  have a6 : P + 6 ∉ scrL := by rcases hP with rfl | rfl <;> decide
  have a7 : P + 7 ∉ scrL := by rcases hP with rfl | rfl <;> decide
  constructor
  · unfold vP vL
    rw [h.I a0, h.I a3, h.I a3, h.A a4, h.A a6, h.A a7]
  · unfold okP
    rw [h.I a0, h.I a3, h.I a3, h.A a4, h.A a7]
    exact id
section HCS
variable {m m' : pm_M} {P c : Nat} {π : aP} {s : aS}
theorem HC.q (h : HC m P π s) (hq : Q m m') : HC m' P π s := by
  obtain ⟨h1, h2, h3, h4, h5⟩ := h
  have hv := vP_same hq.1 h2
  exact ⟨by rw [hq.1.R (by decide)]; exact h1, h2, hv.2 h3, by rw [hv.1]; exact h4, by rw [vw_same hq.1 (by decide)]; exact h5⟩
theorem HM.q (h : HM m π s c) (hq : Q m m') : HM m' π s c := by
  obtain ⟨h1, h2, h3⟩ := h
  refine ⟨h1.same hq.1 (by decide) (by decide) (by decide), ?_, h3⟩
  rw [← h2]
  unfold vm
  rw [hq.2.2 0 (by decide)]
  rw [show nr (fun k => gA m' 189 (0 + 7 + k)) = nr (fun k => gA m 189 (0 + 7 + k)) from nr_ext (fun k hk => hq.2.2 _ (by omega)), show nr (fun k => gA m' 189 (0 + 1 + k)) = nr (fun k => gA m 189 (0 + 1 + k)) from nr_ext (fun k hk => hq.2.2 _ (by omega)), show nr (fun k => gA m' 189 (0 + 13 + k)) = nr (fun k => gA m 189 (0 + 13 + k)) from nr_ext (fun k hk => hq.2.2 _ (by omega))]
end HCS
/-- a call gives an answer, and leaves the rest -/
def Gi (X : pv_X) (M : pv_M) (as : List Value) (m : pm_M) (v : Int32) : Prop := ∃ m', pM X M as (hp m) = some (some (.int v), hp m') ∧ Q m m'
/-- many QUARTERS -/
def pqn (π : aP) : Nat → aS → aS
  | 0, s => s
  | n + 1, s => (aPQ π (pqn π n s)).1
theorem pqn_ok {π : aP} (hπ : okA π) {c : Nat} : ∀ (n : Nat) (s : aS), okS π.1 c s → okS π.1 (c + n) (pqn π n s)
  | 0, s, h => by simp only [pqn]; exact h
  | n + 1, s, h => by simp only [pqn]; exact okS_aPQ hπ (pqn_ok hπ n s h)
section WPF
variable {m : pm_M} {X : pv_X}
theorem Wp_T : pm_T[0]? = some (.inr (10, [(2, 1), (3, 0), (3, 0), (3, 0), (3, 0), (2, 35), (2, 39), (2, 43), (2, 109), (2, 113), (2, 117), (2, 118), (2, 120), (2, 121), (2, 122)])) := rfl
theorem Wp_rc : pv_rc (hp m) 0 10 = true := hp_rc Wp_T
theorem Wp_f0 : pv_fR (hp m) 0 10 0 = some 1 := hp_fR Wp_T rfl
theorem Wp_f1 : pv_fR (hp m) 0 10 1 = some (gR m 0 1) := hp_fV Wp_T rfl
theorem Wp_f2 : pv_fR (hp m) 0 10 2 = some (gR m 0 2) := hp_fV Wp_T rfl
theorem Wp_f3 : pv_fR (hp m) 0 10 3 = some (gR m 0 3) := hp_fV Wp_T rfl
theorem Wp_f4 : pv_fR (hp m) 0 10 4 = some (gR m 0 4) := hp_fV Wp_T rfl
theorem Wp_f5 : pv_fR (hp m) 0 10 5 = some 35 := hp_fR Wp_T rfl
theorem Wp_f6 : pv_fR (hp m) 0 10 6 = some 39 := hp_fR Wp_T rfl
theorem Wp_f7 : pv_fR (hp m) 0 10 7 = some 43 := hp_fR Wp_T rfl
theorem Wp_f8 : pv_fR (hp m) 0 10 8 = some 109 := hp_fR Wp_T rfl
theorem Wp_f9 : pv_fR (hp m) 0 10 9 = some 113 := hp_fR Wp_T rfl
theorem Wp_f10 : pv_fR (hp m) 0 10 10 = some 117 := hp_fR Wp_T rfl
theorem Wp_f11 : pv_fR (hp m) 0 10 11 = some 118 := hp_fR Wp_T rfl
theorem Wp_f12 : pv_fR (hp m) 0 10 12 = some 120 := hp_fR Wp_T rfl
theorem Wp_f13 : pv_fR (hp m) 0 10 13 = some 121 := hp_fR Wp_T rfl
theorem Wp_f14 : pv_fR (hp m) 0 10 14 = some 122 := hp_fR Wp_T rfl
theorem Wp_p1 {v : Nat} : pv_fp (hp m) 0 10 1 (.ref v) = some (hp (sR m 0 1 v)) := hp_pV Wp_T rfl
theorem Wp_p2 {v : Nat} : pv_fp (hp m) 0 10 2 (.ref v) = some (hp (sR m 0 2 v)) := hp_pV Wp_T rfl
theorem Wp_p3 {v : Nat} : pv_fp (hp m) 0 10 3 (.ref v) = some (hp (sR m 0 3 v)) := hp_pV Wp_T rfl
theorem Wp_p4 {v : Nat} : pv_fp (hp m) 0 10 4 (.ref v) = some (hp (sR m 0 4 v)) := hp_pV Wp_T rfl
end WPF
/-- a number of one of the first n -/
theorem prs (p : Int32) {n : Nat} (hn : n ≤ 6) : (∃ k, k < n ∧ p = nI k) ∨ (p < 0 ∨ nI n ≤ p) := by
  rcases pk_ix p (n := n) (by omega) with h | h | ⟨j, h1, h2⟩
  · exact Or.inr (Or.inl h)
  · exact Or.inr (Or.inr h)
  · exact Or.inl ⟨j, h1, h2⟩
theorem wth (v : Int32) {l u : Nat} (hl : l ≤ u) (hu : u < 2 ^ 31) : (∃ q, l ≤ q ∧ q ≤ u ∧ v = nI q) ∨ (v < nI l ∨ nI u < v) := by
  by_cases h1 : v < nI l
  · exact Or.inr (Or.inl h1)
  · by_cases h2 : nI u < v
    · exact Or.inr (Or.inr h2)
    · rw [Int32.lt_iff_toInt_lt, nI_toInt (by omega)] at h1 h2
      refine Or.inl ⟨v.toInt.toNat, by omega, by omega, Int32.toInt_inj.mp ?_⟩
      rw [nI_toInt (by omega)]
      omega
