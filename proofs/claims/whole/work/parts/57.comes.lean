/-! comes, rings: through whom a time comes. -/
/-- whom one asks on the hour -/
def oA (π : aP) (k : Nat) : Option Nat := if π.2.2.1 k = -1 then none else some (π.2.2.1 k).toNatClampNeg
/-- one asks p, through at most so many -/
def rch (A : Nat → Option Nat) (p : Nat) : Nat → Nat → Bool
  | 0, _ => false
  | k + 1, o => match A o with
    | none => false
    | some j => decide (j = p) || rch A p k j
theorem rch_up {A : Nat → Option Nat} {p : Nat} : ∀ k o, rch A p k o = true → rch A p (k + 1) o = true
  | 0, o, h => by simp [rch] at h
  | k + 1, o, h => by
    rw [rch] at h ⊢
    cases hA : A o with
    | none => rw [hA] at h; cases h
    | some j =>
      rw [hA] at h
      dsimp only at h ⊢
      rw [Bool.or_eq_true] at h ⊢
      rcases h with h | h
      · exact Or.inl h
      · exact Or.inr (rch_up k j h)
theorem rch_mono {A : Nat → Option Nat} {p k o : Nat} : ∀ d, rch A p k o = true → rch A p (k + d) o = true
  | 0, h => h
  | d + 1, h => rch_up (k + d) o (rch_mono d h)
/-- how many of the first n -/
def cn (f : Nat → Bool) : Nat → Nat
  | 0 => 0
  | n + 1 => cn f n + (if f n then 1 else 0)
theorem cn_le (f : Nat → Bool) : ∀ n, cn f n ≤ n
  | 0 => Nat.le_refl _
  | n + 1 => by have := cn_le f n; simp only [cn]; split <;> omega
theorem cn_mono {f g : Nat → Bool} : ∀ n, (∀ i, i < n → f i = true → g i = true) → cn f n ≤ cn g n
  | 0, _ => Nat.le_refl _
  | n + 1, h => by
    have := cn_mono n (fun i hi => h i (by omega))
    have h2 := h n (by omega)
    simp only [cn]
    by_cases hf : f n = true
    · rw [if_pos hf, if_pos (h2 hf)]; omega
    · rw [if_neg hf]; omega
theorem cn_eq {f g : Nat → Bool} : ∀ n, (∀ i, i < n → f i = true → g i = true) → cn g n ≤ cn f n → ∀ i, i < n → g i = true → f i = true
  | 0, _, _, i, hi, _ => absurd hi (by omega)
  | n + 1, h, hc, i, hi, hg => by
    have h1 := cn_mono n (fun i hi => h i (by omega))
    simp only [cn] at hc
    by_cases hf : f n = true
    · have hgn := h n (by omega) hf
      rw [if_pos hf, if_pos hgn] at hc
      by_cases he : i = n
      · subst he; exact hf
      · exact cn_eq n (fun i hi => h i (by omega)) (by omega) i (by omega) hg
    · rw [if_neg hf] at hc
      by_cases hgn : g n = true
      · rw [if_pos hgn] at hc; omega
      · rw [if_neg hgn] at hc
        by_cases he : i = n
        · subst he; exact absurd hg hgn
        · exact cn_eq n (fun i hi => h i (by omega)) (by omega) i (by omega) hg
theorem cn_full {f : Nat → Bool} : ∀ n, n ≤ cn f n → ∀ i, i < n → f i = true
  | 0, _, i, hi => absurd hi (by omega)
  | n + 1, h, i, hi => by
    have := cn_le f n
    simp only [cn] at h
    by_cases hf : f n = true
    · rw [if_pos hf] at h
      by_cases he : i = n
      · subst he; exact hf
      · exact cn_full n (by omega) i (by omega)
    · rw [if_neg hf] at h; omega
section RCH
variable {A : Nat → Option Nat} {p n : Nat}
def stab (A : Nat → Option Nat) (p n k : Nat) : Prop := ∀ o, o < n → rch A p (k + 1) o = true → rch A p k o = true
theorem stab_up (hA : ∀ o j, o < n → A o = some j → j < n) {k : Nat} (h : stab A p n k) : stab A p n (k + 1) := by
  intro o ho hr
  rw [rch] at hr ⊢
  cases hao : A o with
  | none => rw [hao] at hr; cases hr
  | some j =>
    rw [hao] at hr
    dsimp only at hr ⊢
    rw [Bool.or_eq_true] at hr ⊢
    rcases hr with hr | hr
    · exact Or.inl hr
    · exact Or.inr (h j (hA o j ho hao) hr)
theorem stab_or (hA : ∀ o j, o < n → A o = some j → j < n) : ∀ k, stab A p n k ∨ k ≤ cn (rch A p k) n
  | 0 => Or.inr (by omega)
  | k + 1 => by
    rcases stab_or hA k with h | h
    · exact Or.inl (stab_up hA h)
    · by_cases hc : cn (rch A p (k + 1)) n ≤ cn (rch A p k) n
      · exact Or.inl (stab_up hA (cn_eq n (fun i _ => rch_up k i) hc))
      · exact Or.inr (by omega)
theorem stab_n (hA : ∀ o j, o < n → A o = some j → j < n) : stab A p n n := by
  rcases stab_or (p := p) hA n with h | h
  · exact h
  · exact fun o ho _ => cn_full n h o ho
theorem stab_all (hA : ∀ o j, o < n → A o = some j → j < n) : ∀ d o, o < n → rch A p (n + d) o = true → rch A p n o = true
  | 0, _, _, h => h
  | d + 1, o, ho, h => by
    have hs : ∀ e, stab A p n (n + e) := fun e => by
      induction e with
      | zero => exact stab_n hA
      | succ e ih => exact stab_up hA ih
    exact stab_all hA d o ho (hs d o ho h)
theorem rch_n (hA : ∀ o j, o < n → A o = some j → j < n) {k o : Nat} (ho : o < n) (h : rch A p k o = true) : rch A p n o = true := by
  rcases Nat.lt_or_ge k n with hk | hk
  · have := rch_mono (n - k) h
    rw [show k + (n - k) = n by omega] at this
    exact this
  · exact stab_all hA (k - n) o ho (by rw [show n + (k - n) = k by omega]; exact h)
end RCH
theorem bit_eq {w w' : Nat} (h : w < 64) (h' : w' < 64) (hb : ∀ i, i < 6 → w.testBit i = w'.testBit i) : w = w' := by
  apply Nat.eq_of_testBit_eq
  intro i
  by_cases hi : i < 6
  · exact hb i hi
  · have e : 2 ^ 6 ≤ 2 ^ i := Nat.pow_le_pow_right (by decide) (by omega)
    have e64 : (64 : Nat) = 2 ^ 6 := by decide
    rw [Nat.testBit_lt_two_pow (by omega), Nat.testBit_lt_two_pow (by omega)]
theorem or_bit : ∀ w, w < 64 → ∀ i, i < 6 → ∀ k, k < 6 → (w ||| 2 ^ i).testBit k = (w.testBit k || decide (k = i)) := by decide +kernel
theorem bts_bits {n : Nat} (hn : n ≤ 6) (c : Nat → Bool) : ∃ w, w < 64 ∧ bts n c = nI w ∧ ∀ k, k < 6 → w.testBit k = (decide (k < n) && c k) := by
  have := fr_inv (n := n) (R := fun i (v : Int32) => ∃ w, w < 64 ∧ v = nI w ∧ ∀ k, k < 6 → w.testBit k = (decide (k < i) && c k)) (g := fun i v => if c i then v ||| ((1 : Int32) <<< (nI i &&& 31)) else v) (fun i v hi hr => by
    obtain ⟨w, h1, h2, h3⟩ := hr
    by_cases hc : c i = true
    · obtain ⟨o1, o2⟩ := or_nI w h1 i (by omega)
      refine ⟨w ||| 2 ^ i, o2, by rw [if_pos hc, h2, o1], fun k hk => ?_⟩
      rw [or_bit w h1 i (by omega) k hk, h3 k hk]
      by_cases hki : k = i
      · subst hki
        rw [hc]
        simp
      · have : (decide (k < i + 1)) = decide (k < i) := decide_eq_decide.mpr (by omega)
        rw [this, decide_eq_false hki]
        simp
    · refine ⟨w, h1, by rw [if_neg hc, h2], fun k hk => ?_⟩
      rw [h3 k hk]
      by_cases hki : k = i
      · subst hki
        have hc' : c k = false := by simpa using hc
        rw [hc']
        simp
      · have : (decide (k < i + 1)) = decide (k < i) := decide_eq_decide.mpr (by omega)
        rw [this]) n 0 0 (by omega) ⟨0, by decide, rfl, fun k hk => by simp⟩
  exact this
theorem and_nI : ∀ w, w < 64 → ∀ k, k < 6 → nI w &&& ((1 : Int32) <<< (nI k &&& 31)) = if w.testBit k then (1 : Int32) <<< (nI k &&& 31) else 0 := by decide +kernel
section QG
variable {m : pm_M} {X : pv_X} {P c k : Nat} {π : aP} {s : aS}
theorem oA_lt (hπ : okA π) : ∀ o j, o < π.1 → oA π o = some j → j < π.1 ∧ π.2.2.1 o = nI j := by
  intro o j ho h
  unfold oA at h
  rcases hπ.2 o ho with h1 | ⟨i, h1, h2, h3⟩
  · rw [if_pos h1] at h; cases h
  · have := hπ.1
    rw [h3, if_neg (enc_m1 (by omega)), nI_clamp (by omega)] at h
    cases h
    exact ⟨h1, h3⟩
theorem w_through5 {p : Nat} {v : Int32} (hC : HC m P π s) (hp' : p < 6) : ∀ d i o, i + d = π.1 → o < π.1 → f_Po_asksThrough_5 X P v (nI p) (nI o) (nI i) (hp m) = some (some (.int (bI (rch (oA π) p d o))), hp m) := by
  have hn := hC.n6
  intro d
  induction d with
  | zero =>
    intro i o hi ho
    rw [u_Po_asksThrough_5, hC.sz]
    simp only [tIs, tVs, bs, if_true, true_or, or_true, i10, if_false, not_false_eq_true, not_true_eq_false]
    rw [if_pos (nI_le (by omega) (by omega))]
    rfl
  | succ d ih =>
    intro i o hi ho
    rw [u_Po_asksThrough_5, hC.sz]
    simp only [tIs, tVs, bs, if_true, true_or, or_true, i10, if_false, not_false_eq_true, not_true_eq_false]
    rw [if_neg (nI_ge (by omega) (by omega)), Po_f4 hC.po]
    simp only [tIs, tVs, bs, if_true, true_or, or_true, i10, if_false, not_false_eq_true, not_true_eq_false, hC.as (X := X) (show o < 6 by omega), nI_1]
    rcases hC.okA.2 o ho with h1 | ⟨j, h1, h2, h3⟩
    · have ha : oA π o = none := by unfold oA; rw [if_pos h1]
      rw [h1, if_pos (fun z => enc_m1 (show p < 2 ^ 31 by omega) z.symm), if_neg (fun z => z rfl), rch, ha]
      rfl
    · have ha : oA π o = some j := by unfold oA; rw [h3, if_neg (enc_m1 (by omega)), nI_clamp (by omega)]
      rw [h3, rch, ha]
      dsimp only
      simp only [nI_eq (show j < 2 ^ 31 by omega) (show p < 2 ^ 31 by omega)]
      by_cases hj : j = p
      · rw [if_neg (fun z => z hj), decide_eq_true hj]
        rfl
      · rw [if_pos hj, if_pos (enc_m1 (by omega)), ih (i + 1) j (by omega) h1, decide_eq_false hj, Bool.false_or]
theorem w_through {p o : Nat} (hC : HC m P π s) (hp' : p < 6) (ho : o < π.1) : pM X m_Po_asksThrough [.ref P, .int (nI o), .int (nI p)] (hp m) = some (some (.int (bI (rch (oA π) p π.1 o))), hp m) := by
  rw [e_Po_asksThrough, u_Po_asksThrough_0]
  exact w_through5 hC hp' π.1 0 o (by omega) ho
theorem m_comesOf {p : Nat} (hR : RM m π) (hp' : p < 6) : pM X m_Md_comesOf [.ref 175, .int (nI p)] (hp m) = some (some (.int (bts π.1 (rch (oA π) p π.1))), hp m) := by
  have hn := hR.1
  have hπ := RM_okA hR
  have hA : ∀ o j, o < π.1 → oA π o = some j → j < π.1 := fun o j ho h => (oA_lt hπ o j ho h).1
  rw [e_Md_comesOf, u_Md_comesOf_0]
  obtain ⟨⟨⟨o1, o2⟩, h1⟩, h2, h3⟩ := lg0 (n := 6) (F := fun (o : Option Value × Option Value) (w : Nat) r => f_Md_comesOf_4 X 175 (nI p) (nI w) (nI r) o.1 o.2 (hp m)) (R := fun r w => w < 64 ∧ ∀ o, o < 6 → (w.testBit o = true → o < π.1 ∧ ∃ k, rch (oA π) p k o = true) ∧ (o < π.1 → rch (oA π) p r o = true → w.testBit o = true)) (g := fun _ w => fr (fun o w => match oA π o with | none => w | some j => if j = p ∨ w.testBit j = true then w ||| 2 ^ o else w) π.1 0 w) (fun oo w r hr hw => by
    obtain ⟨⟨o5, h4⟩, h5, h6, h7⟩ := lg0 (n := π.1) (F := fun (o5 : Option Value) (w : Nat) o => f_Md_comesOf_13 X 175 (nI p) (nI w) (nI r) (nI o) o5 (hp m)) (R := fun i w' => w' < 64 ∧ (∀ o, o < 6 → (w'.testBit o = true → o < π.1 ∧ ∃ k, rch (oA π) p k o = true) ∧ (o < π.1 → rch (oA π) p r o = true → w'.testBit o = true)) ∧ ∀ o, o < i → rch (oA π) p (r + 1) o = true → w'.testBit o = true) (g := fun o w => match oA π o with | none => w | some j => if j = p ∨ w.testBit j = true then w ||| 2 ^ o else w) (fun o5 w' o ho hw' => by
      obtain ⟨a1, a2, a3⟩ := hw'
      have step0 : ∀ q : Int32, q = π.2.2.1 o → f_Md_comesOf_13 X 175 (nI p) (nI w') (nI r) (nI o) o5 (hp m) = if q < 0 then f_Md_comesOf_13 X 175 (nI p) (nI w' ||| 0) (nI r) (nI (o + 1)) (some (.int q)) (hp m) else if q = nI p then f_Md_comesOf_13 X 175 (nI p) (nI w' ||| ((1 : Int32) <<< (nI o &&& 31))) (nI r) (nI (o + 1)) (some (.int q)) (hp m) else if ¬ ((nI w' >>> (q &&& 31)) &&& 1) = 1 then f_Md_comesOf_13 X 175 (nI p) (nI w' ||| 0) (nI r) (nI (o + 1)) (some (.int q)) (hp m) else f_Md_comesOf_13 X 175 (nI p) (nI w' ||| ((1 : Int32) <<< (nI o &&& 31))) (nI r) (nI (o + 1)) (some (.int q)) (hp m) := by
        intro q hq
        rw [u_Md_comesOf_13, m_n hR]
        simp only [tIs, tVs, bs, if_true, true_or, or_true, i10, if_false, not_false_eq_true, not_true_eq_false, Md_rc, Md_f1, Md_f4, Md_f5, Md_f6, Md_f9, Md_f10, Md_f11, Md_f12, Md_f14, Md_f15, Md_f18, Md_f19, Md_f20, Md_f21, Md_f23, Md_f24, Md_f25, Md_f26, Md_f28]
        rw [if_neg (nI_ge ho (by omega)), show (2 : Int32) = nI 2 from rfl, d_personOf (by omega) (by decide), (hR.2.2.2.1 o ho).1, ← hq]
        simp only [tIs, tVs, bs, if_true, true_or, or_true, i10, if_false, not_false_eq_true, not_true_eq_false, Md_rc, Md_f1, Md_f4, Md_f5, Md_f6, Md_f9, Md_f10, Md_f11, Md_f12, Md_f14, Md_f15, Md_f18, Md_f19, Md_f20, Md_f21, Md_f23, Md_f24, Md_f25, Md_f26, Md_f28, u_Md_comesOf_53, u_Md_comesOf_60, u_Md_comesOf_61, nI_1]
      have z0 : nI w' ||| 0 = nI w' := by simp
      rcases hπ.2 o ho with e1 | ⟨j, e1, e2, e3⟩
      · have ha : oA π o = none := by unfold oA; rw [if_pos e1]
        rw [step0 (-1) e1.symm, if_pos (by decide), z0, ha]
        refine ⟨⟨some (.int (-1)), rfl⟩, a1, a2, fun o' ho' hr' => ?_⟩
        by_cases he : o' = o
        · subst he; rw [rch, ha] at hr'; cases hr'
        · exact a3 o' (by omega) hr'
      · have ha : oA π o = some j := by unfold oA; rw [e3, if_neg (enc_m1 (by omega)), nI_clamp (by omega)]
        obtain ⟨b1, b2⟩ := or_nI w' a1 o (by omega)
        rw [step0 (nI j) e3.symm, if_neg (nI_pos (by omega)), z0, b1, ha]
        simp only [nI_eq (show j < 2 ^ 31 by omega) (show p < 2 ^ 31 by omega), has1_nI w' a1 j (show j < 6 by omega)]
        by_cases hj : j = p ∨ w'.testBit j = true
        · have hk : ∃ k, rch (oA π) p k o = true := by
            rcases hj with hj | hj
            · exact ⟨1, by rw [rch, ha]; dsimp only; rw [decide_eq_true hj]; rfl⟩
            · obtain ⟨-, k, hk⟩ := (a2 j (by omega)).1 hj
              exact ⟨k + 1, by rw [rch, ha]; dsimp only; rw [hk]; simp⟩
          rw [if_pos hj]
          refine ⟨⟨some (.int (nI j)), ?_⟩, b2, fun o' ho' => ⟨fun hb => ?_, fun hl hr' => ?_⟩, fun o' ho' hr' => ?_⟩
          · by_cases hjp : j = p
            · rw [if_pos hjp]
            · rw [if_neg hjp, if_neg (fun z => z (hj.resolve_left hjp))]
          · rw [or_bit w' a1 o (by omega) o' ho', Bool.or_eq_true, decide_eq_true_eq] at hb
            rcases hb with hb | hb
            · exact (a2 o' ho').1 hb
            · subst hb; exact ⟨ho, hk⟩
          · rw [or_bit w' a1 o (by omega) o' ho', (a2 o' ho').2 hl hr', Bool.true_or]
          · rw [or_bit w' a1 o (by omega) o' (by omega)]
            by_cases he : o' = o
            · rw [decide_eq_true he, Bool.or_true]
            · rw [a3 o' (by omega) hr', Bool.true_or]
        · rw [if_neg hj]
          refine ⟨⟨some (.int (nI j)), ?_⟩, a1, a2, fun o' ho' hr' => ?_⟩
          · rw [if_neg (fun z => hj (Or.inl z)), if_pos (fun z => hj (Or.inr z))]
          · by_cases he : o' = o
            · subst he
              rw [rch, ha] at hr'
              dsimp only at hr'
              rw [Bool.or_eq_true, decide_eq_true_eq] at hr'
              rcases hr' with hr' | hr'
              · exact absurd (Or.inl hr') hj
              · exact absurd (Or.inr ((a2 j (by omega)).2 e1 hr')) hj
            · exact a3 o' (by omega) hr') π.1 0 oo.2 w (by omega) ⟨hw.1, hw.2, fun o ho => absurd ho (by omega)⟩
    refine ⟨⟨(some (.int (nI π.1)), o5), ?_⟩, h5, fun o ho => ⟨(h6 o ho).1, fun hl => h7 o hl⟩⟩
    rw [u_Md_comesOf_4, if_neg (show ¬ (6 : Int32) ≤ nI r from nI_ge (b := 6) hr (by decide))]
    refine Eq.trans (b := f_Md_comesOf_13 X 175 (nI p) (nI w) (nI r) (nI 0) oo.2 (hp m)) rfl ?_
    rw [h4, u_Md_comesOf_13, m_n hR]
    simp only [tIs, tVs, bs, if_true, true_or, or_true, i10, if_false, not_false_eq_true, not_true_eq_false, Md_rc, Md_f1, Md_f4, Md_f5, Md_f6, Md_f9, Md_f10, Md_f11, Md_f12, Md_f14, Md_f15, Md_f18, Md_f19, Md_f20, Md_f21, Md_f23, Md_f24, Md_f25, Md_f26, Md_f28]
    rw [if_pos (nI_le (Nat.le_refl _) (by omega)), nI_1]) 6 0 (none, none) 0 (by omega) ⟨by decide, fun o ho => ⟨fun h => by simp at h, fun _ h => by simp [rch] at h⟩⟩
  obtain ⟨w', c1, c2, c3⟩ := bts_bits hn (rch (oA π) p π.1)
  refine Eq.trans (b := f_Md_comesOf_4 X 175 (nI p) (nI 0) (nI 0) none none (hp m)) rfl ?_
  rw [show f_Md_comesOf_4 X 175 (nI p) (nI 0) (nI 0) none none (hp m) = _ from h1, u_Md_comesOf_4, if_pos (by decide), c2]
  generalize fr (fun _ w => fr (fun o w => match oA π o with | none => w | some j => if j = p ∨ w.testBit j = true then w ||| 2 ^ o else w) π.1 0 w) 6 0 0 = W at h2 h3
  have : W = w' := bit_eq h2 c1 (fun i hi => by
    rw [c3 i hi]
    obtain ⟨d1, d2⟩ := h3 i hi
    cases hW : W.testBit i with
    | true =>
      obtain ⟨e1, k, e2⟩ := d1 hW
      rw [decide_eq_true e1, rch_n hA e1 e2]
      rfl
    | false =>
      by_cases hi' : i < π.1
      · rw [decide_eq_true hi', Bool.true_and]
        cases hr : rch (oA π) p π.1 i with
        | false => rfl
        | true =>
          have := rch_mono (6 - π.1) hr
          rw [show π.1 + (6 - π.1) = 6 by omega] at this
          rw [d2 hi' this] at hW
          cases hW
      · rw [decide_eq_false hi', Bool.false_and])
  rw [this]
theorem q_comes (hC : HC m P π s) (hM : HM m π s c) (p : Int32) : Ag X m_Wp_comes m_Md_comes [.int p] m := by
  have hn := hC.n6
  rcases prs p hn with ⟨k, hk, rfl⟩ | hb
  · refine Ag.mk (bts π.1 (rch (oA π) k π.1)) ⟨m, ?_, Q.rf⟩ (fun m1 hq => ?_)
    · obtain ⟨⟨-, h1⟩, -⟩ := lg0 (n := π.1) (F := fun (_ : Unit) (x : Int32) i => f_Wp_comes_14 X 0 (nI k) x (nI i) (hp m)) (R := fun _ _ => True) (g := fun i v => if rch (oA π) k π.1 i then v ||| ((1 : Int32) <<< (nI i &&& 31)) else v) (fun _ x i hi _ => by
        refine ⟨⟨(), ?_⟩, trivial⟩
        rw [u_Wp_comes_14]
        simp only [tIs, tVs, bs, if_true, true_or, or_true, i10, if_false, not_false_eq_true, not_true_eq_false, Wp_rc, Wp_f5, Wp_f6, Wp_f7, Wp_f8, Wp_f9, Wp_f10, Wp_f11, Wp_f12, Wp_f13, Wp_f14, hC.f1, hC.sz]
        rw [if_neg (nI_ge hi (by omega))]
        simp only [tIs, tVs, bs, if_true, true_or, or_true, i10, if_false, not_false_eq_true, not_true_eq_false, Wp_rc, Wp_f5, Wp_f6, Wp_f7, Wp_f8, Wp_f9, Wp_f10, Wp_f11, Wp_f12, Wp_f13, Wp_f14, hC.rc, w_through (X := X) hC (show k < 6 by omega) hi, u_Wp_comes_43, nI_1]
        cases rch (oA π) k π.1 i
        · rw [if_pos (show bI false = 0 from rfl)]; rfl
        · rw [if_neg (show ¬ bI true = 0 by decide)]; rfl) π.1 0 () 0 (by omega) trivial
      rw [e_Wp_comes, u_Wp_comes_0]
      simp only [tIs, tVs, bs, if_true, true_or, or_true, i10, if_false, not_false_eq_true, not_true_eq_false, Wp_rc, Wp_f5, Wp_f6, Wp_f7, Wp_f8, Wp_f9, Wp_f10, Wp_f11, Wp_f12, Wp_f13, Wp_f14, w_isP1 hC hk]
      refine Eq.trans (b := f_Wp_comes_14 X 0 (nI k) 0 (nI 0) (hp m)) rfl ?_
      rw [show f_Wp_comes_14 X 0 (nI k) 0 (nI 0) (hp m) = _ from h1, u_Wp_comes_14]
      simp only [tIs, tVs, bs, if_true, true_or, or_true, i10, if_false, not_false_eq_true, not_true_eq_false, Wp_rc, Wp_f5, Wp_f6, Wp_f7, Wp_f8, Wp_f9, Wp_f10, Wp_f11, Wp_f12, Wp_f13, Wp_f14, hC.f1, hC.sz]
      rw [if_pos (nI_le (Nat.le_refl _) (by omega))]
      rfl
    · obtain ⟨m2, e2, q2⟩ := m_t0 (m := m1)
      have hR := (hM.q (hq.tr q2)).1
      refine ⟨m2, ?_, q2⟩
      rw [e_Md_comes, u_Md_comes_0]
      simp only [tIs, tVs, bs, if_true, true_or, or_true, i10, if_false, not_false_eq_true, not_true_eq_false, Md_rc, Md_f1, Md_f4, Md_f5, Md_f6, Md_f9, Md_f10, Md_f11, Md_f12, Md_f14, Md_f15, Md_f18, Md_f19, Md_f20, Md_f21, Md_f23, Md_f24, Md_f25, Md_f26, Md_f28, e2, m_isP1 hR hk, m_comesOf (X := X) hR (show k < 6 by omega), u_Md_comes_22]
  · refine Ag.mk (-1) ⟨m, ?_, Q.rf⟩ (fun m1 hq => ?_)
    · rw [e_Wp_comes, u_Wp_comes_0]
      simp only [tIs, tVs, bs, if_true, true_or, or_true, i10, if_false, not_false_eq_true, not_true_eq_false, Wp_rc, Wp_f5, Wp_f6, Wp_f7, Wp_f8, Wp_f9, Wp_f10, Wp_f11, Wp_f12, Wp_f13, Wp_f14, w_isP0 hC hb]
    · obtain ⟨m2, e2, q2⟩ := m_t0 (m := m1)
      refine ⟨m2, ?_, q2⟩
      rw [e_Md_comes, u_Md_comes_0]
      simp only [tIs, tVs, bs, if_true, true_or, or_true, i10, if_false, not_false_eq_true, not_true_eq_false, Md_rc, Md_f1, Md_f4, Md_f5, Md_f6, Md_f9, Md_f10, Md_f11, Md_f12, Md_f14, Md_f15, Md_f18, Md_f19, Md_f20, Md_f21, Md_f23, Md_f24, Md_f25, Md_f26, Md_f28, e2, m_isP0 (hM.q (hq.tr q2)).1 hb, u_Md_comes_22]
theorem q_rings (hC : HC m P π s) (hM : HM m π s c) : Ag X m_Wp_rings m_Md_rings [] m := by
  have hn := hC.n6
  refine Ag.mk (bts π.1 (fun i => rch (oA π) i π.1 i)) ⟨m, ?_, Q.rf⟩ (fun m1 hq => ?_)
  · obtain ⟨⟨-, h1⟩, -⟩ := lg0 (n := π.1) (F := fun (_ : Unit) (x : Int32) i => f_Wp_rings_4 X 0 x (nI i) (hp m)) (R := fun _ _ => True) (g := fun i v => if rch (oA π) i π.1 i then v ||| ((1 : Int32) <<< (nI i &&& 31)) else v) (fun _ x i hi _ => by
      refine ⟨⟨(), ?_⟩, trivial⟩
      rw [u_Wp_rings_4]
      simp only [tIs, tVs, bs, if_true, true_or, or_true, i10, if_false, not_false_eq_true, not_true_eq_false, Wp_rc, Wp_f5, Wp_f6, Wp_f7, Wp_f8, Wp_f9, Wp_f10, Wp_f11, Wp_f12, Wp_f13, Wp_f14, hC.f1, hC.sz]
      rw [if_neg (nI_ge hi (by omega))]
      simp only [tIs, tVs, bs, if_true, true_or, or_true, i10, if_false, not_false_eq_true, not_true_eq_false, Wp_rc, Wp_f5, Wp_f6, Wp_f7, Wp_f8, Wp_f9, Wp_f10, Wp_f11, Wp_f12, Wp_f13, Wp_f14, hC.rc, w_through (X := X) hC (show i < 6 by omega) hi, u_Wp_rings_33, nI_1]
      cases rch (oA π) i π.1 i
      · rw [if_pos (show bI false = 0 from rfl)]; rfl
      · rw [if_neg (show ¬ bI true = 0 by decide)]; rfl) π.1 0 () 0 (by omega) trivial
    rw [e_Wp_rings, u_Wp_rings_0]
    refine Eq.trans (b := f_Wp_rings_4 X 0 0 (nI 0) (hp m)) rfl ?_
    rw [show f_Wp_rings_4 X 0 0 (nI 0) (hp m) = _ from h1, u_Wp_rings_4]
    simp only [tIs, tVs, bs, if_true, true_or, or_true, i10, if_false, not_false_eq_true, not_true_eq_false, Wp_rc, Wp_f5, Wp_f6, Wp_f7, Wp_f8, Wp_f9, Wp_f10, Wp_f11, Wp_f12, Wp_f13, Wp_f14, hC.f1, hC.sz]
    rw [if_pos (nI_le (Nat.le_refl _) (by omega))]
    rfl
  · obtain ⟨m2, e2, q2⟩ := m_t0 (m := m1)
    have hR := (hM.q (hq.tr q2)).1
    obtain ⟨⟨-, h1⟩, -⟩ := lg0 (n := π.1) (F := fun (_ : Unit) (x : Int32) i => f_Md_rings_9 X 175 x (nI i) (hp m2)) (R := fun _ _ => True) (g := fun i v => if rch (oA π) i π.1 i then v ||| ((1 : Int32) <<< (nI i &&& 31)) else v) (fun _ x i hi _ => by
      refine ⟨⟨(), ?_⟩, trivial⟩
      obtain ⟨w, c1, c2, c3⟩ := bts_bits hn (rch (oA π) i π.1)
      rw [u_Md_rings_9, m_n hR]
      simp only [tIs, tVs, bs, if_true, true_or, or_true, i10, if_false, not_false_eq_true, not_true_eq_false, Md_rc, Md_f1, Md_f4, Md_f5, Md_f6, Md_f9, Md_f10, Md_f11, Md_f12, Md_f14, Md_f15, Md_f18, Md_f19, Md_f20, Md_f21, Md_f23, Md_f24, Md_f25, Md_f26, Md_f28]
      rw [if_neg (nI_ge hi (by omega))]
      simp only [tIs, tVs, bs, if_true, true_or, or_true, i10, if_false, not_false_eq_true, not_true_eq_false, Md_rc, Md_f1, Md_f4, Md_f5, Md_f6, Md_f9, Md_f10, Md_f11, Md_f12, Md_f14, Md_f15, Md_f18, Md_f19, Md_f20, Md_f21, Md_f23, Md_f24, Md_f25, Md_f26, Md_f28, m_comesOf (X := X) hR (show i < 6 by omega), nI_1]
      rw [c2, and_nI w c1 i (by omega), c3 i (by omega), decide_eq_true hi, Bool.true_and]
      cases rch (oA π) i π.1 i
      · rw [if_neg (by decide), if_neg (by decide)]
        rw [show (x ||| 0 : Int32) = x by simp]
      · rw [if_pos rfl, if_pos rfl]) π.1 0 () 0 (by omega) trivial
    refine ⟨m2, ?_, q2⟩
    rw [e_Md_rings, u_Md_rings_0, e2]
    simp only [tIs, tVs, bs, if_true, true_or, or_true, i10, if_false, not_false_eq_true, not_true_eq_false, Md_rc, Md_f1, Md_f4, Md_f5, Md_f6, Md_f9, Md_f10, Md_f11, Md_f12, Md_f14, Md_f15, Md_f18, Md_f19, Md_f20, Md_f21, Md_f23, Md_f24, Md_f25, Md_f26, Md_f28]
    refine Eq.trans (b := f_Md_rings_9 X 175 0 (nI 0) (hp m2)) rfl ?_
    rw [show f_Md_rings_9 X 175 0 (nI 0) (hp m2) = _ from h1, u_Md_rings_9, m_n hR]
    simp only [tIs, tVs, bs, if_true, true_or, or_true, i10, if_false, not_false_eq_true, not_true_eq_false, Md_rc, Md_f1, Md_f4, Md_f5, Md_f6, Md_f9, Md_f10, Md_f11, Md_f12, Md_f14, Md_f15, Md_f18, Md_f19, Md_f20, Md_f21, Md_f23, Md_f24, Md_f25, Md_f26, Md_f28]
    rw [if_pos (nI_le (Nat.le_refl _) (by omega))]
    rfl
end QG
