/-! What the reference asks of its token. -/
theorem En_inj {b : Nat} (hb : 27 ≤ b) : ∀ (k : Nat) (l l' : List Nat), l.length ≤ k → (∀ x ∈ l, 97 ≤ x ∧ x ≤ 122) → (∀ x ∈ l', 97 ≤ x ∧ x ≤ 122) → En b l = En b l' → l = l' := by
  have pos : ∀ (l : List Nat) (x : Nat), 97 ≤ x → 0 < En b (l ++ [x]) := fun l x hx => by rw [En_s]; omega
  intro k
  induction k with
  | zero =>
    intro l l' hl h1 h2 he
    have e0 : l = [] := List.length_eq_zero_iff.mp (by omega)
    rw [e0] at he ⊢
    cases List.eq_nil_or_concat l' with
    | inl h0 => rw [h0]
    | inr h0 =>
      obtain ⟨L, y, hy⟩ := h0
      rw [List.concat_eq_append] at hy
      rw [hy] at he h2
      have := pos L y (h2 y (by simp)).1
      rw [← he] at this
      exact absurd this (Nat.lt_irrefl 0)
  | succ k ih =>
    intro l l' hl h1 h2 he
    cases List.eq_nil_or_concat l with
    | inl h0 =>
      rw [h0] at he ⊢
      cases List.eq_nil_or_concat l' with
      | inl h3 => rw [h3]
      | inr h3 =>
        obtain ⟨L, y, hy⟩ := h3
        rw [List.concat_eq_append] at hy
        rw [hy] at he h2
        have := pos L y (h2 y (by simp)).1
        rw [← he] at this
        exact absurd this (Nat.lt_irrefl 0)
    | inr h0 =>
      obtain ⟨L, y, hy⟩ := h0
      rw [List.concat_eq_append] at hy
      subst hy
      cases List.eq_nil_or_concat l' with
      | inl h3 =>
        rw [h3] at he
        have := pos L y (h1 y (by simp)).1
        rw [he] at this
        exact absurd this (Nat.lt_irrefl 0)
      | inr h3 =>
        obtain ⟨L', y', hy'⟩ := h3
        rw [List.concat_eq_append] at hy'
        subst hy'
        have a1 := h1 y (by simp)
        have a2 := h2 y' (by simp)
        rw [En_s, En_s] at he
        have m1 : (b * En b L + (y - 96)) % b = y - 96 := by rw [Nat.mul_add_mod, Nat.mod_eq_of_lt (by omega)]
        have m2 : (b * En b L' + (y' - 96)) % b = y' - 96 := by rw [Nat.mul_add_mod, Nat.mod_eq_of_lt (by omega)]
        have e1 : y - 96 = y' - 96 := by rw [← m1, ← m2, he]
        have e2 : b * En b L = b * En b L' := by omega
        have e3 : En b L = En b L' := Nat.eq_of_mul_eq_mul_left (by omega) e2
        have e4 : L = L' := ih L L' (by rw [List.length_append] at hl; simp at hl; omega) (fun x hx => h1 x (by simp [hx])) (fun x hx => h2 x (by simp [hx])) e3
        rw [e4, show y = y' by omega]
theorem En_max {l : List Nat} (h : okW l) : En 37 l < 2 ^ 63 ∧ En 27 l < 2 ^ 63 := by
  have p1 := En_lt (b := 37) (by decide) l h.2
  have p2 := En_lt (b := 27) (by decide) l h.2
  have q1 : 37 ^ l.length ≤ 37 ^ 8 := Nat.pow_le_pow_right (by decide) h.1
  have q2 : 27 ^ l.length ≤ 27 ^ 8 := Nat.pow_le_pow_right (by decide) h.1
  have r1 : 37 ^ 8 < 2 ^ 63 := by decide
  have r2 : 27 ^ 8 < 2 ^ 63 := by decide
  omega
theorem En_eq {l l' : List Nat} (h : okW l) (h' : okW l') : (lN (En 37 l) = lN (En 37 l') ↔ l = l') ∧ (lN (En 27 l) = lN (En 27 l') ↔ l = l') := by
  constructor
  · rw [pk_lEQ (En_max h).1 (En_max h').1]
    exact ⟨fun e => En_inj (by decide) l.length l l' (Nat.le_refl _) h.2 h'.2 e, fun e => by rw [e]⟩
  · rw [pk_lEQ (En_max h).2 (En_max h').2]
    exact ⟨fun e => En_inj (by decide) l.length l l' (Nat.le_refl _) h.2 h'.2 e, fun e => by rw [e]⟩
theorem wdv_ok : ∀ k, k < 20 → (wdv.getD k []).length ≤ 8 ∧ ∀ x ∈ wdv.getD k [], 97 ≤ x ∧ x ≤ 122 := by decide
/-- the reference stands at its n-th token, nothing was wrong yet -/
def MAt (m : pm_M) (tp : aT) (N n : Nat) : Prop := MTb m tp N ∧ dWrd m ∧ gI m 175 7 = nI n ∧ n ≤ N ∧ gI m 175 8 = 0
section MAS
variable {m : pm_M} {X : pv_X} {tp : aT} {N n : Nat} {h : pv_H}
theorem MAt.row (hA : MAt m tp N n) : gA m 177 n = nI (tkS tp (ps tp n)) ∧ gA m 178 n = nI (tkP tp (ps tp n)) ∧ (tkS tp (ps tp n) = 1 → gL m 179 n = lN (En 37 (tkX tp (ps tp n)))) ∧ (tkS tp (ps tp n) = 2 → gL m 179 n = lN (nuV (tkX tp (ps tp n)))) ∧ (tkS tp (ps tp n) = 3 → gL m 179 n = lN (tp.2 (tkP tp (ps tp n)))) ∧ (tkS tp (ps tp n) ≠ 0 → n < N) := by
  obtain ⟨⟨t1, t2, t3, t4, t5⟩, -, -, hn, -⟩ := hA
  rcases Nat.lt_or_ge n N with hlt | hge
  · obtain ⟨a1, a2, a3, a4, a5, -⟩ := t1 n hlt
    exact ⟨a1, a2, a3, a4, a5, fun _ => hlt⟩
  · have hnN : n = N := by omega
    rw [hnN]
    refine ⟨by rw [t3, t2]; rfl, t4, fun hh => ?_, fun hh => ?_, fun hh => ?_, fun hh => absurd t2 hh⟩
    · rw [t2] at hh; cases hh
    · rw [t2] at hh; cases hh
    · rw [t2] at hh; cases hh
theorem MAt.NN (hA : MAt m tp N n) : N ≤ 1000 := hA.1.2.2.2.2
theorem m_isSign {c : Nat} {vc : Int32} (hvc : vc = nI c) (hc' : c < 127) (ok : okTp tp) (hA : MAt m tp N n) : pM X m_Md_isSign [.ref 175, .int vc] (hp m) = some (some (.int (bI (isG tp (ps tp n) c))), hp m) := by
  obtain ⟨r1, r2, r3, r4, r5, r6⟩ := hA.row
  have hN := hA.NN
  have hn := hA.2.2.2.1
  have h4 := tkS_le (tp := tp) (i := ps tp n)
  have k5 : (nI (tkS tp (ps tp n)) = 3) ↔ tkS tp (ps tp n) = 3 := nI_eq (b := 3) (by omega) (by decide)
  rw [e_Md_isSign, u_Md_isSign_0, Md_f8, hA.2.2.2.2, hvc]
  simp only [tIs, tVs, bs, if_true, true_or, or_true, i10, if_false, not_false_eq_true, not_true_eq_false, Md_rc, Md_f1, Md_f4, Md_f5, Md_f6, Md_f9, Md_f10, Md_f11, Md_f12, Md_f14, Md_f15, Md_f18, Md_f19, Md_f20, Md_f21, Md_f23, Md_f24, Md_f25, Md_f26, Md_f28, Md_f7, hA.2.2.1]
  rw [ld_177 (by omega), r1]
  simp only [tIs, tVs, bs, if_true, true_or, or_true, i10, if_false, not_false_eq_true, not_true_eq_false, Md_rc, Md_f1, Md_f4, Md_f5, Md_f6, Md_f9, Md_f10, Md_f11, Md_f12, Md_f14, Md_f15, Md_f18, Md_f19, Md_f20, Md_f21, Md_f23, Md_f24, Md_f25, Md_f26, Md_f28, k5, u_Md_isSign_39, u_Md_isSign_40]
  unfold isG
  by_cases hs : tkS tp (ps tp n) = 3
  · obtain ⟨-, e2⟩ := tkE_le (ps_le (tp := tp) n)
    obtain ⟨-, e4⟩ := e2 (by omega)
    have hw := okch_lt (ok.2 (tkP tp (ps tp n)) e4)
    rw [if_neg (fun z => z hs), decide_eq_true hs, Bool.true_and, ld_179 (by omega), r5 hs, nI_l (by omega)]
    simp only [tIs, tVs, bs, if_true, true_or, or_true, i10, if_false, not_false_eq_true, not_true_eq_false, Md_rc, Md_f1, Md_f4, Md_f5, Md_f6, Md_f9, Md_f10, Md_f11, Md_f12, Md_f14, Md_f15, Md_f18, Md_f19, Md_f20, Md_f21, Md_f23, Md_f24, Md_f25, Md_f26, Md_f28, lg_cmp_eq, pk_lEQ (show tp.2 (tkP tp (ps tp n)) < 2 ^ 63 by omega) (show c < 2 ^ 63 by omega)]
    by_cases he : tp.2 (tkP tp (ps tp n)) = c
    · rw [if_neg (fun z => z he), decide_eq_true he]; rfl
    · rw [if_pos he, decide_eq_false he]; rfl
  · rw [if_pos hs, decide_eq_false hs]
    rfl
theorem m_isWord {k : Nat} {vk : Int32} (hvk : vk = nI k) (hk : k < 20) (hA : MAt m tp N n) : pM X m_Md_isWord [.ref 175, .int vk] (hp m) = some (some (.int (bI (isW tp (ps tp n) (wdv.getD k [])))), hp m) := by
  obtain ⟨r1, r2, r3, r4, r5, r6⟩ := hA.row
  have hN := hA.NN
  have hn := hA.2.2.2.1
  have h4 := tkS_le (tp := tp) (i := ps tp n)
  have k5 : (nI (tkS tp (ps tp n)) = 1) ↔ tkS tp (ps tp n) = 1 := nI_eq (b := 1) (by omega) (by decide)
  rw [e_Md_isWord, u_Md_isWord_0, Md_f8, hA.2.2.2.2, hvk]
  simp only [tIs, tVs, bs, if_true, true_or, or_true, i10, if_false, not_false_eq_true, not_true_eq_false, Md_rc, Md_f1, Md_f4, Md_f5, Md_f6, Md_f9, Md_f10, Md_f11, Md_f12, Md_f14, Md_f15, Md_f18, Md_f19, Md_f20, Md_f21, Md_f23, Md_f24, Md_f25, Md_f26, Md_f28, Md_f7, hA.2.2.1]
  rw [ld_177 (by omega), r1]
  simp only [tIs, tVs, bs, if_true, true_or, or_true, i10, if_false, not_false_eq_true, not_true_eq_false, Md_rc, Md_f1, Md_f4, Md_f5, Md_f6, Md_f9, Md_f10, Md_f11, Md_f12, Md_f14, Md_f15, Md_f18, Md_f19, Md_f20, Md_f21, Md_f23, Md_f24, Md_f25, Md_f26, Md_f28, k5, u_Md_isWord_43, u_Md_isWord_44]
  unfold isW
  by_cases hs : tkS tp (ps tp n) = 1
  · obtain ⟨w1, -, -⟩ := tkW (ps_le (tp := tp) n) hs
    rw [if_neg (fun z => z hs), decide_eq_true hs, Bool.true_and, ld_179 (by omega), r3 hs]
    simp only [tIs, tVs, bs, if_true, true_or, or_true, i10, if_false, not_false_eq_true, not_true_eq_false, Md_rc, Md_f1, Md_f4, Md_f5, Md_f6, Md_f9, Md_f10, Md_f11, Md_f12, Md_f14, Md_f15, Md_f18, Md_f19, Md_f20, Md_f21, Md_f23, Md_f24, Md_f25, Md_f26, Md_f28]
    rw [ld_180 hk, hA.2.1 k hk]
    simp only [tIs, tVs, bs, if_true, true_or, or_true, i10, if_false, not_false_eq_true, not_true_eq_false, Md_rc, Md_f1, Md_f4, Md_f5, Md_f6, Md_f9, Md_f10, Md_f11, Md_f12, Md_f14, Md_f15, Md_f18, Md_f19, Md_f20, Md_f21, Md_f23, Md_f24, Md_f25, Md_f26, Md_f28, lg_cmp_eq, (En_eq w1 (wdv_ok k hk)).1]
    by_cases he : tkX tp (ps tp n) = wdv.getD k []
    · rw [if_neg (fun z => z he), decide_eq_true he]; rfl
    · rw [if_pos he, decide_eq_false he]; rfl
  · rw [if_pos hs, decide_eq_false hs]
    rfl
/-- something was wrong: nothing is found any more -/
theorem x_isSign {v : Int32} {e : Nat} (h8 : gI m 175 8 = nI e) (h0 : 0 < e) (h31 : e < 2 ^ 31) : pM X m_Md_isSign [.ref 175, .int v] (hp m) = some (some (.int 0), hp m) := by
  rw [e_Md_isSign, u_Md_isSign_0, Md_f8, h8]
  simp only [tIs, tVs, bs, if_true, true_or, or_true, i10, if_false, not_false_eq_true, not_true_eq_false, Md_rc, Md_f1, Md_f4, Md_f5, Md_f6, Md_f9, Md_f10, Md_f11, Md_f12, Md_f14, Md_f15, Md_f18, Md_f19, Md_f20, Md_f21, Md_f23, Md_f24, Md_f25, Md_f26, Md_f28, u_Md_isSign_39, u_Md_isSign_40]
  rw [if_pos (nI_ne0 h0 h31)]
theorem x_isWord {v : Int32} {e : Nat} (h8 : gI m 175 8 = nI e) (h0 : 0 < e) (h31 : e < 2 ^ 31) : pM X m_Md_isWord [.ref 175, .int v] (hp m) = some (some (.int 0), hp m) := by
  rw [e_Md_isWord, u_Md_isWord_0, Md_f8, h8]
  simp only [tIs, tVs, bs, if_true, true_or, or_true, i10, if_false, not_false_eq_true, not_true_eq_false, Md_rc, Md_f1, Md_f4, Md_f5, Md_f6, Md_f9, Md_f10, Md_f11, Md_f12, Md_f14, Md_f15, Md_f18, Md_f19, Md_f20, Md_f21, Md_f23, Md_f24, Md_f25, Md_f26, Md_f28, u_Md_isWord_43, u_Md_isWord_44]
  rw [if_pos (nI_ne0 h0 h31)]
theorem m_wrong {v : Nat} {vv : Int32} (hv : vv = nI v) (hA : MAt m tp N n) : pM X m_Md_wrong [.ref 175, .int vv] (hp m) = some (none, hp (sI m 175 8 (nI (fl tp (ps tp n) v)))) := by
  obtain ⟨r1, r2, -⟩ := hA.row
  have hN := hA.NN
  have hn := hA.2.2.2.1
  rw [e_Md_wrong, u_Md_wrong_0, Md_f8, hA.2.2.2.2, hv]
  simp only [tIs, tVs, bs, if_true, true_or, or_true, i10, if_false, not_false_eq_true, not_true_eq_false, Md_rc, Md_f1, Md_f4, Md_f5, Md_f6, Md_f9, Md_f10, Md_f11, Md_f12, Md_f14, Md_f15, Md_f18, Md_f19, Md_f20, Md_f21, Md_f23, Md_f24, Md_f25, Md_f26, Md_f28]
  rw [Md_f7, hA.2.2.1]
  simp only [tIs, tVs, bs, if_true, true_or, or_true, i10, if_false, not_false_eq_true, not_true_eq_false, Md_rc, Md_f1, Md_f4, Md_f5, Md_f6, Md_f9, Md_f10, Md_f11, Md_f12, Md_f14, Md_f15, Md_f18, Md_f19, Md_f20, Md_f21, Md_f23, Md_f24, Md_f25, Md_f26, Md_f28]
  rw [ld_178 (by omega), r2]
  simp only [tIs, tVs, bs, if_true, true_or, or_true, i10, if_false, not_false_eq_true, not_true_eq_false, Md_rc, Md_f1, Md_f4, Md_f5, Md_f6, Md_f9, Md_f10, Md_f11, Md_f12, Md_f14, Md_f15, Md_f18, Md_f19, Md_f20, Md_f21, Md_f23, Md_f24, Md_f25, Md_f26, Md_f28]
  rw [show (16 : Int32) = nI 16 from rfl, pk_mul, nI_add, Md_p8]
  simp only [tIs, tVs, bs, if_true, true_or, or_true, i10, if_false, not_false_eq_true, not_true_eq_false, Md_rc, Md_f1, Md_f4, Md_f5, Md_f6, Md_f9, Md_f10, Md_f11, Md_f12, Md_f14, Md_f15, Md_f18, Md_f19, Md_f20, Md_f21, Md_f23, Md_f24, Md_f25, Md_f26, Md_f28, u_Md_wrong_25]
  rfl
theorem x_wrong {v : Int32} {e : Nat} (h8 : gI m 175 8 = nI e) (h0 : 0 < e) (h31 : e < 2 ^ 31) : pM X m_Md_wrong [.ref 175, .int v] (hp m) = some (none, hp m) := by
  rw [e_Md_wrong, u_Md_wrong_0, Md_f8, h8]
  simp only [tIs, tVs, bs, if_true, true_or, or_true, i10, if_false, not_false_eq_true, not_true_eq_false, Md_rc, Md_f1, Md_f4, Md_f5, Md_f6, Md_f9, Md_f10, Md_f11, Md_f12, Md_f14, Md_f15, Md_f18, Md_f19, Md_f20, Md_f21, Md_f23, Md_f24, Md_f25, Md_f26, Md_f28]
  rw [if_pos (nI_ne0 h0 h31), u_Md_wrong_25]
end MAS
