/-! The tape's tokens: the reference lays them all. -/
def ps (tp : aT) : Nat → Nat
  | 0 => 0
  | n + 1 => tkE tp (ps tp n)
theorem ps_le {tp : aT} : ∀ n, ps tp n ≤ tp.1
  | 0 => Nat.zero_le _
  | n + 1 => (tkE_le (ps_le n)).1
def TabR (m : pm_M) (tp : aT) (n : Nat) : Prop := ∀ j, j < n → gA m 177 j = nI (tkS tp (ps tp j)) ∧ gA m 178 j = nI (tkP tp (ps tp j)) ∧ (tkS tp (ps tp j) = 1 → gL m 179 j = lN (En 37 (tkX tp (ps tp j)))) ∧ (tkS tp (ps tp j) = 2 → gL m 179 j = lN (nuV (tkX tp (ps tp j)))) ∧ (tkS tp (ps tp j) = 3 → gL m 179 j = lN (tp.2 (tkP tp (ps tp j)))) ∧ tkS tp (ps tp j) ≠ 0
def MTb (m : pm_M) (tp : aT) (N : Nat) : Prop := TabR m tp N ∧ tkS tp (ps tp N) = 0 ∧ gA m 177 N = 0 ∧ gA m 178 N = nI (tkP tp (ps tp N)) ∧ N ≤ 1000
section CUT
variable {m : pm_M} {X : pv_X} {tp : aT} {h : pv_H}
theorem dm_isLetter {x : Nat} (hx : x < 2 ^ 31) : pM X m_Md_isLetter [.int (nI x)] h = some (some (.int (bI (ltr x))), h) := by
  rw [e_Md_isLetter, u_Md_isLetter_0]
  have k1 : (nI x < 97) ↔ x < 97 := nI_ltI (b := 97) hx (by decide)
  have k2 : (122 < nI x) ↔ 122 < x := nI_ltI (a := 122) (by decide) hx
  simp only [u_Md_isLetter_16, u_Md_isLetter_17, k1, k2]
  unfold ltr
  by_cases a1 : x < 97
  · have a3 : ¬ 97 ≤ x := by omega
    simp [a1, a3, bI]
  · have b1 : 97 ≤ x := by omega
    by_cases a2 : 122 < x
    · have a3 : ¬ x ≤ 122 := by omega
      simp [a1, a2, b1, a3, bI]
    · have a3 : x ≤ 122 := by omega
      simp [a1, a2, b1, a3, bI]
theorem dm_isDigit {x : Nat} (hx : x < 2 ^ 31) : pM X m_Md_isDigit [.int (nI x)] h = some (some (.int (bI (dgt x))), h) := by
  rw [e_Md_isDigit, u_Md_isDigit_0]
  have k1 : (nI x < 48) ↔ x < 48 := nI_ltI (b := 48) hx (by decide)
  have k2 : (57 < nI x) ↔ 57 < x := nI_ltI (a := 57) (by decide) hx
  simp only [u_Md_isDigit_16, u_Md_isDigit_17, k1, k2]
  unfold dgt
  by_cases a1 : x < 48
  · have a3 : ¬ 48 ≤ x := by omega
    simp [a1, a3, bI]
  · have b1 : 48 ≤ x := by omega
    by_cases a2 : 57 < x
    · have a3 : ¬ x ≤ 57 := by omega
      simp [a1, a2, b1, a3, bI]
    · have a3 : x ≤ 57 := by omega
      simp [a1, a2, b1, a3, bI]
theorem sg_all : ∀ x, x < 127 → sgn x = (decide (x = 40) || (decide (x = 41) || (decide (x = 59) || (decide (x = 61) || (decide (x = 60) || (decide (x = 43) || (decide (x = 45) || decide (x = 42)))))))) := by decide +kernel
theorem dm_isSignOf {x : Nat} (hx : x < 127) : pM X m_Md_isSignOf [.int (nI x)] h = some (some (.int (bI (sgn x))), h) := by
  rw [e_Md_isSignOf, u_Md_isSignOf_0, sg_all x hx]
  have k : ∀ y : Nat, y < 127 → ((nI x = nI y) ↔ x = y) := fun y hy => nI_eq (by omega) (by omega)
  have k1 : (nI x = 40) ↔ x = 40 := k 40 (by decide)
  have k2 : (nI x = 41) ↔ x = 41 := k 41 (by decide)
  have k3 : (nI x = 59) ↔ x = 59 := k 59 (by decide)
  have k4 : (nI x = 61) ↔ x = 61 := k 61 (by decide)
  have k5 : (nI x = 60) ↔ x = 60 := k 60 (by decide)
  have k6 : (nI x = 43) ↔ x = 43 := k 43 (by decide)
  have k7 : (nI x = 45) ↔ x = 45 := k 45 (by decide)
  have k8 : (nI x = 42) ↔ x = 42 := k 42 (by decide)
  simp only [u_Md_isSignOf_48, u_Md_isSignOf_53, k1, k2, k3, k4, k5, k6, k7, k8]
  by_cases a1 : x = 40
  · rw [if_pos a1, decide_eq_true a1]; rfl
  · rw [if_neg a1, decide_eq_false a1, Bool.false_or]
    by_cases a2 : x = 41
    · rw [if_pos a2, decide_eq_true a2]; rfl
    · rw [if_neg a2, decide_eq_false a2, Bool.false_or]
      by_cases a3 : x = 59
      · rw [if_pos a3, decide_eq_true a3]; rfl
      · rw [if_neg a3, decide_eq_false a3, Bool.false_or]
        by_cases a4 : x = 61
        · rw [if_pos a4, decide_eq_true a4]; rfl
        · rw [if_neg a4, decide_eq_false a4, Bool.false_or]
          by_cases a5 : x = 60
          · rw [if_pos a5, decide_eq_true a5]; rfl
          · rw [if_neg a5, decide_eq_false a5, Bool.false_or]
            by_cases a6 : x = 43
            · rw [if_pos a6, decide_eq_true a6]; rfl
            · rw [if_neg a6, decide_eq_false a6, Bool.false_or]
              by_cases a7 : x = 45
              · rw [if_pos a7, decide_eq_true a7]; rfl
              · rw [if_neg a7, decide_eq_false a7, Bool.false_or]
                by_cases a8 : x = 42
                · rw [if_neg (fun z => z a8), decide_eq_true a8]; rfl
                · rw [if_pos a8, decide_eq_false a8]; rfl
theorem dm_rank {x : Nat} (hx : x < 2 ^ 31) (hl : ltr x = true) : pM X m_Md_rank [.int (nI x)] h = some (some (.int (nI (x - 96))), h) := by
  have h97 := okch_ltr.mp hl
  rw [e_Md_rank, u_Md_rank_0, dm_isLetter hx, hl]
  simp only [tIs, tVs, bs, if_true, true_or, or_true, i10, if_false, not_false_eq_true, not_true_eq_false, u_Md_rank_18]
  rw [if_neg (show ¬ bI true = 0 by decide), show (96 : Int32) = nI 96 from rfl, pk_sub (by omega)]
theorem m_word70 {p n : Nat} {vc : Int32} (hs : gI m 175 3 = nI tp.1) (ha : ∀ j, j < tp.1 → gA m 176 j = nI (tp.2 j)) (ok : okTp tp) (hp' : p ≤ tp.1) : ∀ d i (v : Int64), i + d = tp.1 → p ≤ i → rn ltr tp i = rn ltr tp p → (i - p ≤ 8 → v = lN (En 37 (seg tp p i))) → ∃ v', f_Md_cutAll_70 X 175 (nI n) (nI i) vc (nI p) v (hp m) = f_Md_cutAll_129 X 175 (nI n) (nI (rn ltr tp p)) vc (nI p) v' (hp m) ∧ (rn ltr tp p - p ≤ 8 → v' = lN (En 37 (seg tp p (rn ltr tp p)))) := by
  have h1000 := ok.1
  intro d
  induction d with
  | zero =>
    intro i v hi hpi hr hv
    rw [rn_end (by omega)] at hr
    rw [u_Md_cutAll_70, Md_f3, hs]
    simp only [tIs, tVs, bs, if_true, true_or, or_true, i10, if_false, not_false_eq_true, not_true_eq_false, Md_rc, Md_f1, Md_f4, Md_f5, Md_f6, Md_f9, Md_f10, Md_f11, Md_f12, Md_f14, Md_f15, Md_f18, Md_f19, Md_f20, Md_f21, Md_f23, Md_f24, Md_f25, Md_f26, Md_f28]
    rw [if_pos (nI_le (by omega) (by omega)), ← hr]
    exact ⟨v, rfl, hv⟩
  | succ d ih =>
    intro i v hi hpi hr hv
    have hw := okch_lt (ok.2 i (by omega))
    rw [u_Md_cutAll_70, Md_f3, hs]
    simp only [tIs, tVs, bs, if_true, true_or, or_true, i10, if_false, not_false_eq_true, not_true_eq_false, Md_rc, Md_f1, Md_f4, Md_f5, Md_f6, Md_f9, Md_f10, Md_f11, Md_f12, Md_f14, Md_f15, Md_f18, Md_f19, Md_f20, Md_f21, Md_f23, Md_f24, Md_f25, Md_f26, Md_f28]
    rw [if_neg (nI_ge (by omega) (by omega)), ld_176 (by omega), ha i (by omega)]
    simp only [tIs, tVs, bs, if_true, true_or, or_true, i10, if_false, not_false_eq_true, not_true_eq_false, Md_rc, Md_f1, Md_f4, Md_f5, Md_f6, Md_f9, Md_f10, Md_f11, Md_f12, Md_f14, Md_f15, Md_f18, Md_f19, Md_f20, Md_f21, Md_f23, Md_f24, Md_f25, Md_f26, Md_f28, dm_isLetter (X := X) (show tp.2 i < 2 ^ 31 by omega)]
    cases hb : ltr (tp.2 i) with
    | false =>
      rw [if_pos (show bI false = 0 from rfl)]
      rw [rn_stop hb] at hr
      rw [← hr]
      exact ⟨v, rfl, hv⟩
    | true =>
      have hl := okch_ltr.mp hb
      have hr' : rn ltr tp (i + 1) = rn ltr tp p := by rw [← hr]; exact (rn_go (by omega) hb).symm
      rw [if_neg (show ¬ bI true = 0 by decide), pk_sub hpi]
      have k8 : (8 ≤ nI (i - p)) ↔ 8 ≤ i - p := nI_leI (a := 8) (by decide) (by omega)
      simp only [k8, u_Md_cutAll_121, nI_1]
      by_cases h8 : 8 ≤ i - p
      · rw [if_pos h8]
        exact ih (i + 1) v (by omega) (by omega) hr' (fun hh => by omega)
      · rw [if_neg h8, ld_176 (by omega), ha i (by omega)]
        simp only [tIs, tVs, bs, if_true, true_or, or_true, i10, if_false, not_false_eq_true, not_true_eq_false, Md_rc, Md_f1, Md_f4, Md_f5, Md_f6, Md_f9, Md_f10, Md_f11, Md_f12, Md_f14, Md_f15, Md_f18, Md_f19, Md_f20, Md_f21, Md_f23, Md_f24, Md_f25, Md_f26, Md_f28]
        rw [dm_rank (by omega) hb]
        simp only [tIs, tVs, bs, if_true, true_or, or_true, i10, if_false, not_false_eq_true, not_true_eq_false, Md_rc, Md_f1, Md_f4, Md_f5, Md_f6, Md_f9, Md_f10, Md_f11, Md_f12, Md_f14, Md_f15, Md_f18, Md_f19, Md_f20, Md_f21, Md_f23, Md_f24, Md_f25, Md_f26, Md_f28, u_Md_cutAll_121, nI_1]
        refine ih (i + 1) _ (by omega) (by omega) hr' (fun hh => ?_)
        rw [hv (by omega), seg_s hpi, En_s, nI_l (by omega), show (37 : Int64) = lN 37 from rfl, lN_mul, lN_add]
theorem m_num159 {p n : Nat} {vc : Int32} (hs : gI m 175 3 = nI tp.1) (ha : ∀ j, j < tp.1 → gA m 176 j = nI (tp.2 j)) (ok : okTp tp) (hp' : p ≤ tp.1) : ∀ d i (v : Int64), i + d = tp.1 → p ≤ i → rn dgt tp i = rn dgt tp p → (i - p ≤ 4 → v = lN (nuV (seg tp p i))) → ∃ v', f_Md_cutAll_159 X 175 (nI n) (nI i) vc (nI p) v (hp m) = f_Md_cutAll_218 X 175 (nI n) (nI (rn dgt tp p)) vc (nI p) v' (hp m) ∧ (rn dgt tp p - p ≤ 4 → v' = lN (nuV (seg tp p (rn dgt tp p)))) := by
  have h1000 := ok.1
  intro d
  induction d with
  | zero =>
    intro i v hi hpi hr hv
    rw [rn_end (by omega)] at hr
    rw [u_Md_cutAll_159, Md_f3, hs]
    simp only [tIs, tVs, bs, if_true, true_or, or_true, i10, if_false, not_false_eq_true, not_true_eq_false, Md_rc, Md_f1, Md_f4, Md_f5, Md_f6, Md_f9, Md_f10, Md_f11, Md_f12, Md_f14, Md_f15, Md_f18, Md_f19, Md_f20, Md_f21, Md_f23, Md_f24, Md_f25, Md_f26, Md_f28]
    rw [if_pos (nI_le (by omega) (by omega)), ← hr]
    exact ⟨v, rfl, hv⟩
  | succ d ih =>
    intro i v hi hpi hr hv
    have hw := okch_lt (ok.2 i (by omega))
    rw [u_Md_cutAll_159, Md_f3, hs]
    simp only [tIs, tVs, bs, if_true, true_or, or_true, i10, if_false, not_false_eq_true, not_true_eq_false, Md_rc, Md_f1, Md_f4, Md_f5, Md_f6, Md_f9, Md_f10, Md_f11, Md_f12, Md_f14, Md_f15, Md_f18, Md_f19, Md_f20, Md_f21, Md_f23, Md_f24, Md_f25, Md_f26, Md_f28]
    rw [if_neg (nI_ge (by omega) (by omega)), ld_176 (by omega), ha i (by omega)]
    simp only [tIs, tVs, bs, if_true, true_or, or_true, i10, if_false, not_false_eq_true, not_true_eq_false, Md_rc, Md_f1, Md_f4, Md_f5, Md_f6, Md_f9, Md_f10, Md_f11, Md_f12, Md_f14, Md_f15, Md_f18, Md_f19, Md_f20, Md_f21, Md_f23, Md_f24, Md_f25, Md_f26, Md_f28, dm_isDigit (X := X) (show tp.2 i < 2 ^ 31 by omega)]
    cases hb : dgt (tp.2 i) with
    | false =>
      rw [if_pos (show bI false = 0 from rfl)]
      rw [rn_stop hb] at hr
      rw [← hr]
      exact ⟨v, rfl, hv⟩
    | true =>
      have hl := okch_dgt.mp hb
      have hr' : rn dgt tp (i + 1) = rn dgt tp p := by rw [← hr]; exact (rn_go (by omega) hb).symm
      rw [if_neg (show ¬ bI true = 0 by decide), pk_sub hpi]
      have k8 : (4 ≤ nI (i - p)) ↔ 4 ≤ i - p := nI_leI (a := 4) (by decide) (by omega)
      simp only [k8, u_Md_cutAll_210, nI_1]
      by_cases h8 : 4 ≤ i - p
      · rw [if_pos h8]
        exact ih (i + 1) v (by omega) (by omega) hr' (fun hh => by omega)
      · rw [if_neg h8, ld_176 (by omega), ha i (by omega)]
        simp only [tIs, tVs, bs, if_true, true_or, or_true, i10, if_false, not_false_eq_true, not_true_eq_false, Md_rc, Md_f1, Md_f4, Md_f5, Md_f6, Md_f9, Md_f10, Md_f11, Md_f12, Md_f14, Md_f15, Md_f18, Md_f19, Md_f20, Md_f21, Md_f23, Md_f24, Md_f25, Md_f26, Md_f28]
        refine ih (i + 1) (10 * v + (nI (tp.2 i)).toInt64 - 48) (by omega) (by omega) hr' (fun hh => ?_)
        rw [hv (by omega), seg_s hpi, nuV_s, nI_l (by omega), show (10 : Int64) = lN 10 from rfl, show (48 : Int64) = lN 48 from rfl, lN_mul, lN_add, lN_sub (by omega)]
        congr 1
        omega
theorem m_cut17 (hs : gI m 175 3 = nI tp.1) (ha : ∀ j, j < tp.1 → gA m 176 j = nI (tp.2 j)) (ok : okTp tp) : ∀ (d k n : Nat) (m1 : pm_M) (o3 o4 o5 : Option Value), k + d = tp.1 → ps tp n ≤ k → rn blk tp k = tkP tp (ps tp n) → n ≤ k → Same [177, 178, 179] m m1 → TabR m1 tp n →
    ∃ m' N, f_Md_cutAll_17 X 175 (nI n) (nI k) o3 o4 o5 (hp m1) = some (none, hp m') ∧ Same [175, 177, 178, 179] m m' ∧ (∀ j, j ≠ 7 → j ≠ 8 → gI m' 175 j = gI m 175 j) ∧ gI m' 175 7 = 0 ∧ gI m' 175 8 = 0 ∧ MTb m' tp N := by
  have h1000 := ok.1
  intro d
  induction d using Nat.strongRecOn with
  | ind d ih =>
    intro k n m1 o3 o4 o5 hk hps hrn hnk s1 tb
    have hs1 : gI m1 175 3 = nI tp.1 := by rw [s1.I (by decide)]; exact hs
    have ha1 : ∀ j, j < tp.1 → gA m1 176 j = nI (tp.2 j) := fun j hj => by rw [s1.A (by decide)]; exact ha j hj
    rw [u_Md_cutAll_17, Md_f3, hs1]
    simp only [tIs, tVs, bs, if_true, true_or, or_true, i10, if_false, not_false_eq_true, not_true_eq_false, Md_rc, Md_f1, Md_f4, Md_f5, Md_f6, Md_f9, Md_f10, Md_f11, Md_f12, Md_f14, Md_f15, Md_f18, Md_f19, Md_f20, Md_f21, Md_f23, Md_f24, Md_f25, Md_f26, Md_f28]
    rcases Nat.lt_or_ge k tp.1 with hlt | hge
    · have hw := okch_lt (ok.2 k hlt)
      rw [if_neg (nI_ge hlt (by omega)), ld_176 (by omega), ha1 k hlt]
      simp only [tIs, tVs, bs, if_true, true_or, or_true, i10, if_false, not_false_eq_true, not_true_eq_false, Md_rc, Md_f1, Md_f4, Md_f5, Md_f6, Md_f9, Md_f10, Md_f11, Md_f12, Md_f14, Md_f15, Md_f18, Md_f19, Md_f20, Md_f21, Md_f23, Md_f24, Md_f25, Md_f26, Md_f28]
      have k1 : (nI (tp.2 k) = 10) ↔ tp.2 k = 10 := nI_eq (b := 10) (by omega) (by decide)
      have k2 : (nI (tp.2 k) = 32) ↔ tp.2 k = 32 := nI_eq (b := 32) (by omega) (by decide)
      simp only [k1, k2, u_Md_cutAll_44, nI_1]
      have skip : blk (tp.2 k) = true → ∃ m' N, f_Md_cutAll_17 X 175 (nI n) (nI (k + 1)) (some (.int (nI (tp.2 k)))) o4 o5 (hp m1) = some (none, hp m') ∧ Same [175, 177, 178, 179] m m' ∧ (∀ j, j ≠ 7 → j ≠ 8 → gI m' 175 j = gI m 175 j) ∧ gI m' 175 7 = 0 ∧ gI m' 175 8 = 0 ∧ MTb m' tp N := fun hb =>
        ih (d - 1) (by omega) (k + 1) n m1 _ _ _ (by omega) (by omega) (by rw [← hrn]; exact (rn_go hlt hb).symm) (by omega) s1 tb
      by_cases a1 : tp.2 k = 10
      · rw [if_pos a1]
        exact skip (by unfold blk; rw [decide_eq_true a1]; rfl)
      · rw [if_neg a1]
        by_cases a2 : tp.2 k = 32
        · rw [if_neg (fun z => z a2)]
          exact skip (by unfold blk; rw [decide_eq_true a2, Bool.or_true])
        · rw [if_pos a2]
          have hb : blk (tp.2 k) = false := by unfold blk; rw [decide_eq_false a1, decide_eq_false a2]; rfl
          have eP : tkP tp (ps tp n) = k := by rw [← hrn]; exact rn_stop hb
          rw [st_178 (by omega)]
          simp only [tIs, tVs, bs, if_true, true_or, or_true, i10, if_false, not_false_eq_true, not_true_eq_false, Md_rc, Md_f1, Md_f4, Md_f5, Md_f6, Md_f9, Md_f10, Md_f11, Md_f12, Md_f14, Md_f15, Md_f18, Md_f19, Md_f20, Md_f21, Md_f23, Md_f24, Md_f25, Md_f26, Md_f28, dm_isLetter (X := X) (show tp.2 k < 2 ^ 31 by omega), dm_isDigit (X := X) (show tp.2 k < 2 ^ 31 by omega), dm_isSignOf (X := X) hw]
          have fin : ∀ (S E : Nat) (v : Int64), tkS tp (ps tp n) = S → tkE tp (ps tp n) = E → S ≠ 0 → k < E → E ≤ tp.1 → (S = 1 → v = lN (En 37 (tkX tp (ps tp n)))) → (S = 2 → v = lN (nuV (tkX tp (ps tp n)))) → (S = 3 → v = lN (tp.2 (tkP tp (ps tp n)))) → ∃ m' N, f_Md_cutAll_265 X 175 (nI n) (nI E) (nI (tp.2 k)) (nI k) v (hp (sA (sA m1 178 (upd (gA m1 178) n (nI k))) 177 (upd (gA m1 177) n (nI S)))) = some (none, hp m') ∧ Same [175, 177, 178, 179] m m' ∧ (∀ j, j ≠ 7 → j ≠ 8 → gI m' 175 j = gI m 175 j) ∧ gI m' 175 7 = 0 ∧ gI m' 175 8 = 0 ∧ MTb m' tp N := by
            intro S E v eS eE hS hkE hEt v1 v2 v3
            rw [u_Md_cutAll_265]
            simp only [tIs, tVs, bs, if_true, true_or, or_true, i10, if_false, not_false_eq_true, not_true_eq_false, Md_rc, Md_f1, Md_f4, Md_f5, Md_f6, Md_f9, Md_f10, Md_f11, Md_f12, Md_f14, Md_f15, Md_f18, Md_f19, Md_f20, Md_f21, Md_f23, Md_f24, Md_f25, Md_f26, Md_f28]
            rw [st_179 (by omega), gL_sA, gL_sA]
            simp only [tIs, tVs, bs, if_true, true_or, or_true, i10, if_false, not_false_eq_true, not_true_eq_false, Md_rc, Md_f1, Md_f4, Md_f5, Md_f6, Md_f9, Md_f10, Md_f11, Md_f12, Md_f14, Md_f15, Md_f18, Md_f19, Md_f20, Md_f21, Md_f23, Md_f24, Md_f25, Md_f26, Md_f28, nI_1]
            refine ih (tp.1 - E) (by omega) E (n + 1) _ _ _ _ (by omega) (by show tkE tp (ps tp n) ≤ E; omega) (by show rn blk tp E = rn blk tp (tkE tp (ps tp n)); rw [eE]) (by omega) (s1.tr ((Same.sA (by decide)).tr ((Same.sA (by decide)).tr (Same.sL (by decide))))) (fun j hj => ?_)
            rw [gA_sL, gA_sL, gL_sL, if_pos rfl, gA_sA, if_pos rfl, gA_sA, if_neg (show ¬ 178 = 177 by decide), gA_sA, if_pos rfl]
            by_cases hjn : j = n
            · subst hjn
              rw [pk_us, pk_us, pk_uLs, eS, eP]
              exact ⟨rfl, rfl, v1, v2, fun hh => by have := v3 hh; rw [eP] at this; exact this, hS⟩
            · rw [pk_un hjn, pk_un hjn, pk_uLn hjn]
              exact tb j (by omega)
          have T2 : gA (sA m1 178 (upd (gA m1 178) n (nI k))) 177 = gA m1 177 := by rw [gA_sA, if_neg (by decide)]
          have hs2 : gI (sA m1 178 (upd (gA m1 178) n (nI k))) 175 3 = nI tp.1 := by rw [gI_sA]; exact hs1
          have ha2 : ∀ j, j < tp.1 → gA (sA m1 178 (upd (gA m1 178) n (nI k))) 176 j = nI (tp.2 j) := fun j hj => by rw [gA_sA, if_neg (by decide)]; exact ha1 j hj
          cases hl : ltr (tp.2 k) with
          | true =>
            rw [if_neg (show ¬ bI true = 0 by decide)]
            obtain ⟨v', w1, w2⟩ := m_word70 (X := X) (p := k) (n := n) (vc := nI (tp.2 k)) hs2 ha2 ok (by omega) (tp.1 - k) k 0 (by omega) (Nat.le_refl _) rfl (fun _ => by unfold seg; rw [Nat.sub_self]; rfl)
            have w1' : f_Md_cutAll_70 X 175 (nI n) (nI k) (nI (tp.2 k)) (nI k) 0 (hp (sA m1 178 (upd (gA m1 178) n (nI k)))) = f_Md_cutAll_129 X 175 (nI n) (nI (rn ltr tp k)) (nI (tp.2 k)) (nI k) v' (hp (sA m1 178 (upd (gA m1 178) n (nI k)))) := w1
            have g1 := rn_go hlt hl
            obtain ⟨r1, r2, -, -⟩ := rn_rng (c := ltr) (tp := tp) (i := k + 1) (by omega)
            have eE : tkE tp (ps tp n) = rn ltr tp k := by unfold tkE; rw [eP, if_pos hlt, if_pos hl]
            have eS : tkS tp (ps tp n) = if rn ltr tp k - k ≤ 8 then 1 else 4 := by unfold tkS; rw [eE, eP, if_pos hlt, if_pos hl]
            have eX : tkX tp (ps tp n) = seg tp k (rn ltr tp k) := by unfold tkX; rw [eE, eP]
            rw [w1', u_Md_cutAll_129]
            simp only [tIs, tVs, bs, if_true, true_or, or_true, i10, if_false, not_false_eq_true, not_true_eq_false, Md_rc, Md_f1, Md_f4, Md_f5, Md_f6, Md_f9, Md_f10, Md_f11, Md_f12, Md_f14, Md_f15, Md_f18, Md_f19, Md_f20, Md_f21, Md_f23, Md_f24, Md_f25, Md_f26, Md_f28]
            rw [pk_sub (by omega)]
            have k8 : (nI (rn ltr tp k - k) ≤ 8) ↔ rn ltr tp k - k ≤ 8 := nI_leI (b := 8) (by omega) (by decide)
            simp only [k8, u_Md_cutAll_148]
            by_cases h8 : rn ltr tp k - k ≤ 8
            · rw [if_pos h8] at eS ⊢
              rw [show (1 : Int32) = nI 1 from rfl, st_177 (by omega), T2]
              simp only [tIs, tVs, bs, if_true, true_or, or_true, i10, if_false, not_false_eq_true, not_true_eq_false, Md_rc, Md_f1, Md_f4, Md_f5, Md_f6, Md_f9, Md_f10, Md_f11, Md_f12, Md_f14, Md_f15, Md_f18, Md_f19, Md_f20, Md_f21, Md_f23, Md_f24, Md_f25, Md_f26, Md_f28]
              exact fin 1 (rn ltr tp k) v' eS eE (by decide) (by omega) (by omega) (fun _ => by rw [eX]; exact w2 h8) (fun hh => by cases hh) (fun hh => by cases hh)
            · rw [if_neg h8] at eS ⊢
              rw [show (4 : Int32) = nI 4 from rfl, st_177 (by omega), T2]
              simp only [tIs, tVs, bs, if_true, true_or, or_true, i10, if_false, not_false_eq_true, not_true_eq_false, Md_rc, Md_f1, Md_f4, Md_f5, Md_f6, Md_f9, Md_f10, Md_f11, Md_f12, Md_f14, Md_f15, Md_f18, Md_f19, Md_f20, Md_f21, Md_f23, Md_f24, Md_f25, Md_f26, Md_f28]
              exact fin 4 (rn ltr tp k) v' eS eE (by decide) (by omega) (by omega) (fun hh => by cases hh) (fun hh => by cases hh) (fun hh => by cases hh)
          | false =>
            rw [if_pos (show bI false = 0 from rfl)]
            cases hd : dgt (tp.2 k) with
            | true =>
              rw [if_neg (show ¬ bI true = 0 by decide)]
              obtain ⟨v', w1, w2⟩ := m_num159 (X := X) (p := k) (n := n) (vc := nI (tp.2 k)) hs2 ha2 ok (by omega) (tp.1 - k) k 0 (by omega) (Nat.le_refl _) rfl (fun _ => by unfold seg; rw [Nat.sub_self]; rfl)
              have w1' : f_Md_cutAll_159 X 175 (nI n) (nI k) (nI (tp.2 k)) (nI k) 0 (hp (sA m1 178 (upd (gA m1 178) n (nI k)))) = f_Md_cutAll_218 X 175 (nI n) (nI (rn dgt tp k)) (nI (tp.2 k)) (nI k) v' (hp (sA m1 178 (upd (gA m1 178) n (nI k)))) := w1
              have g1 := rn_go hlt hd
              obtain ⟨r1, r2, -, -⟩ := rn_rng (c := dgt) (tp := tp) (i := k + 1) (by omega)
              have nl : ¬ ltr (tp.2 k) = true := by rw [hl]; decide
              have eE : tkE tp (ps tp n) = rn dgt tp k := by unfold tkE; rw [eP, if_pos hlt, if_neg nl, if_pos hd]
              have eS : tkS tp (ps tp n) = if rn dgt tp k - k ≤ 4 then 2 else 4 := by unfold tkS; rw [eE, eP, if_pos hlt, if_neg nl, if_pos hd]
              have eX : tkX tp (ps tp n) = seg tp k (rn dgt tp k) := by unfold tkX; rw [eE, eP]
              rw [w1', u_Md_cutAll_218]
              simp only [tIs, tVs, bs, if_true, true_or, or_true, i10, if_false, not_false_eq_true, not_true_eq_false, Md_rc, Md_f1, Md_f4, Md_f5, Md_f6, Md_f9, Md_f10, Md_f11, Md_f12, Md_f14, Md_f15, Md_f18, Md_f19, Md_f20, Md_f21, Md_f23, Md_f24, Md_f25, Md_f26, Md_f28]
              rw [pk_sub (by omega)]
              have k8 : (nI (rn dgt tp k - k) ≤ 4) ↔ rn dgt tp k - k ≤ 4 := nI_leI (b := 4) (by omega) (by decide)
              simp only [k8, u_Md_cutAll_236]
              by_cases h8 : rn dgt tp k - k ≤ 4
              · rw [if_pos h8] at eS ⊢
                rw [show (2 : Int32) = nI 2 from rfl, st_177 (by omega), T2]
                simp only [tIs, tVs, bs, if_true, true_or, or_true, i10, if_false, not_false_eq_true, not_true_eq_false, Md_rc, Md_f1, Md_f4, Md_f5, Md_f6, Md_f9, Md_f10, Md_f11, Md_f12, Md_f14, Md_f15, Md_f18, Md_f19, Md_f20, Md_f21, Md_f23, Md_f24, Md_f25, Md_f26, Md_f28]
                exact fin 2 (rn dgt tp k) v' eS eE (by decide) (by omega) (by omega) (fun hh => by cases hh) (fun _ => by rw [eX]; exact w2 h8) (fun hh => by cases hh)
              · rw [if_neg h8] at eS ⊢
                rw [show (4 : Int32) = nI 4 from rfl, st_177 (by omega), T2]
                simp only [tIs, tVs, bs, if_true, true_or, or_true, i10, if_false, not_false_eq_true, not_true_eq_false, Md_rc, Md_f1, Md_f4, Md_f5, Md_f6, Md_f9, Md_f10, Md_f11, Md_f12, Md_f14, Md_f15, Md_f18, Md_f19, Md_f20, Md_f21, Md_f23, Md_f24, Md_f25, Md_f26, Md_f28]
                exact fin 4 (rn dgt tp k) v' eS eE (by decide) (by omega) (by omega) (fun hh => by cases hh) (fun hh => by cases hh) (fun hh => by cases hh)
            | false =>
              rw [if_pos (show bI false = 0 from rfl)]
              have nl : ¬ ltr (tp.2 k) = true := by rw [hl]; decide
              have nd : ¬ dgt (tp.2 k) = true := by rw [hd]; decide
              have eE : tkE tp (ps tp n) = k + 1 := by unfold tkE; rw [eP, if_pos hlt, if_neg nl, if_neg nd]
              have eS : tkS tp (ps tp n) = if sgn (tp.2 k) then 3 else 4 := by unfold tkS; rw [eP, if_pos hlt, if_neg nl, if_neg nd]
              simp only [u_Md_cutAll_261, nI_1]
              cases hg : sgn (tp.2 k) with
              | true =>
                rw [hg, if_pos rfl] at eS
                rw [if_neg (show ¬ bI true = 0 by decide), show (3 : Int32) = nI 3 from rfl, st_177 (by omega), T2]
                simp only [tIs, tVs, bs, if_true, true_or, or_true, i10, if_false, not_false_eq_true, not_true_eq_false, Md_rc, Md_f1, Md_f4, Md_f5, Md_f6, Md_f9, Md_f10, Md_f11, Md_f12, Md_f14, Md_f15, Md_f18, Md_f19, Md_f20, Md_f21, Md_f23, Md_f24, Md_f25, Md_f26, Md_f28]
                exact fin 3 (k + 1) _ eS eE (by decide) (by omega) (by omega) (fun hh => by cases hh) (fun hh => by cases hh) (fun _ => by rw [eP, nI_l (by omega)])
              | false =>
                rw [hg, if_neg (by decide)] at eS
                rw [if_pos (show bI false = 0 from rfl), show (4 : Int32) = nI 4 from rfl, st_177 (by omega), T2]
                simp only [tIs, tVs, bs, if_true, true_or, or_true, i10, if_false, not_false_eq_true, not_true_eq_false, Md_rc, Md_f1, Md_f4, Md_f5, Md_f6, Md_f9, Md_f10, Md_f11, Md_f12, Md_f14, Md_f15, Md_f18, Md_f19, Md_f20, Md_f21, Md_f23, Md_f24, Md_f25, Md_f26, Md_f28]
                exact fin 4 (k + 1) _ eS eE (by decide) (by omega) (by omega) (fun hh => by cases hh) (fun hh => by cases hh) (fun hh => by cases hh)
    · have hkt : k = tp.1 := by omega
      have eP : tkP tp (ps tp n) = tp.1 := by rw [← hrn, rn_end (by omega)]; exact hkt
      have eS : tkS tp (ps tp n) = 0 := by unfold tkS; rw [eP, if_neg (by omega)]
      rw [if_pos (nI_le (by omega) (by omega)), st_177 (by omega)]
      simp only [tIs, tVs, bs, if_true, true_or, or_true, i10, if_false, not_false_eq_true, not_true_eq_false, Md_rc, Md_f1, Md_f4, Md_f5, Md_f6, Md_f9, Md_f10, Md_f11, Md_f12, Md_f14, Md_f15, Md_f18, Md_f19, Md_f20, Md_f21, Md_f23, Md_f24, Md_f25, Md_f26, Md_f28]
      rw [Md_f3, gI_sA, hs1]
      simp only [tIs, tVs, bs, if_true, true_or, or_true, i10, if_false, not_false_eq_true, not_true_eq_false, Md_rc, Md_f1, Md_f4, Md_f5, Md_f6, Md_f9, Md_f10, Md_f11, Md_f12, Md_f14, Md_f15, Md_f18, Md_f19, Md_f20, Md_f21, Md_f23, Md_f24, Md_f25, Md_f26, Md_f28]
      rw [st_178 (by omega), gA_sA, if_neg (show ¬ 178 = 177 by decide)]
      simp only [tIs, tVs, bs, if_true, true_or, or_true, i10, if_false, not_false_eq_true, not_true_eq_false, Md_rc, Md_f1, Md_f4, Md_f5, Md_f6, Md_f9, Md_f10, Md_f11, Md_f12, Md_f14, Md_f15, Md_f18, Md_f19, Md_f20, Md_f21, Md_f23, Md_f24, Md_f25, Md_f26, Md_f28, Md_p7, Md_p8]
      refine ⟨_, n, rfl, (s1.mono (by decide)).tr (((Same.sA (by decide)).tr (Same.sA (by decide))).tr ((Same.sI (by decide)).tr (Same.sI (by decide)))), fun j h7 h8 => ?_, ?_, gI_sI_eq, fun j hj => ?_, eS, ?_, ?_, by omega⟩
      · rw [gI_sI_ne (Or.inr h8), gI_sI_ne (Or.inr h7), gI_sA, gI_sA, s1.I (by decide)]
      · rw [gI_sI_ne (Or.inr (by decide)), gI_sI_eq]
      · rw [gA_sI, gA_sI, gA_sI, gA_sI, gL_sI, gL_sI, gL_sA, gL_sA, gA_sA, if_neg (show ¬ 177 = 178 by decide), gA_sA, if_pos rfl, gA_sA, if_pos rfl, pk_un (by omega), pk_un (by omega)]
        exact tb j hj
      · rw [gA_sI, gA_sI, gA_sA, if_neg (show ¬ 177 = 178 by decide), gA_sA, if_pos rfl, pk_us]
      · rw [gA_sI, gA_sI, gA_sA, if_pos rfl, pk_us, eP]
theorem m_cutAll (hT : dTap m tp) (ok : okTp tp) : ∃ m' N, pM X m_Md_cutAll [.ref 175] (hp m) = some (none, hp m') ∧ Same [175, 177, 178, 179] m m' ∧ (∀ j, j ≠ 2 → j ≠ 3 → j ≠ 7 → j ≠ 8 → gI m' 175 j = gI m 175 j) ∧ gI m' 175 2 = 0 ∧ gI m' 175 7 = 0 ∧ gI m' 175 8 = 0 ∧ MTb m' tp N := by
  have s0 : Same [175] m (sI (sI m 175 3 (nI tp.1)) 175 2 0) := (Same.sI (by decide)).tr (Same.sI (by decide))
  have g3 : gI (sI (sI m 175 3 (nI tp.1)) 175 2 0) 175 3 = nI tp.1 := by rw [gI_sI_ne (Or.inr (by decide)), gI_sI_eq]
  have g2 : gI (sI (sI m 175 3 (nI tp.1)) 175 2 0) 175 2 = 0 := gI_sI_eq
  have gj : ∀ j, j ≠ 2 → j ≠ 3 → gI (sI (sI m 175 3 (nI tp.1)) 175 2 0) 175 j = gI m 175 j := fun j h2 h3 => by rw [gI_sI_ne (Or.inr h2), gI_sI_ne (Or.inr h3)]
  have p2 : pv_fp (hp (sI m 175 3 (nI tp.1))) 175 11 2 (.int 0) = some (hp (sI (sI m 175 3 (nI tp.1)) 175 2 0)) := Md_p2
  generalize sI (sI m 175 3 (nI tp.1)) 175 2 0 = m0 at s0 g3 g2 gj p2
  obtain ⟨m', N, e1, s1, j1, a7, a8, tb⟩ := m_cut17 (X := X) (m := m0) g3 (fun j hj => by rw [s0.A (by decide)]; exact hT.2 j hj) ok tp.1 0 0 m0 none none none (by omega) (Nat.zero_le _) rfl (Nat.le_refl _) Same.rf (fun j hj => absurd hj (by omega))
  refine ⟨m', N, ?_, (s0.mono (by decide)).tr s1, fun j h2 h3 h7 h8 => by rw [j1 j h7 h8, gj j h2 h3], by rw [j1 2 (by decide) (by decide), g2], a7, a8, tb⟩
  rw [e_Md_cutAll, u_Md_cutAll_0, Md_f2, hT.1]
  simp only [tIs, tVs, bs, if_true, true_or, or_true, i10, if_false, not_false_eq_true, not_true_eq_false, Md_rc, Md_f1, Md_f4, Md_f5, Md_f6, Md_f9, Md_f10, Md_f11, Md_f12, Md_f14, Md_f15, Md_f18, Md_f19, Md_f20, Md_f21, Md_f23, Md_f24, Md_f25, Md_f26, Md_f28]
  rw [Md_p3]
  simp only [tIs, tVs, bs, if_true, true_or, or_true, i10, if_false, not_false_eq_true, not_true_eq_false, Md_rc, Md_f1, Md_f4, Md_f5, Md_f6, Md_f9, Md_f10, Md_f11, Md_f12, Md_f14, Md_f15, Md_f18, Md_f19, Md_f20, Md_f21, Md_f23, Md_f24, Md_f25, Md_f26, Md_f28, p2]
  exact e1
end CUT
