/-! The tape's tokens: the class's reading. -/
def blk (x : Nat) : Bool := decide (x = 10) || decide (x = 32)
def ltr (x : Nat) : Bool := decide (97 ≤ x) && decide (x ≤ 122)
def dgt (x : Nat) : Bool := decide (48 ≤ x) && decide (x ≤ 57)
def sgn (x : Nat) : Bool := ([40, 41, 60, 61, 43, 45, 42, 59] : List Nat).contains x
def run (c : Nat → Bool) (w : Nat → Nat) : Nat → Nat → Nat
  | 0, i => i
  | d + 1, i => if c (w i) then run c w d (i + 1) else i
def rn (c : Nat → Bool) (tp : aT) (i : Nat) : Nat := run c tp.2 (tp.1 - i) i
theorem run_rng {c : Nat → Bool} {w : Nat → Nat} : ∀ d i, i ≤ run c w d i ∧ run c w d i ≤ i + d ∧ (∀ j, i ≤ j → j < run c w d i → c (w j) = true) ∧ (run c w d i < i + d → c (w (run c w d i)) = false)
  | 0, i => ⟨Nat.le_refl _, Nat.le_refl _, fun j h1 h2 => by simp only [run] at h2; omega, fun h => by simp only [run] at h; omega⟩
  | d + 1, i => by
    simp only [run]
    by_cases h : c (w i) = true
    · rw [if_pos h]
      obtain ⟨a1, a2, a3, a4⟩ := run_rng (c := c) (w := w) d (i + 1)
      refine ⟨by omega, by omega, fun j h1 h2 => ?_, fun hh => a4 (by omega)⟩
      by_cases hj : j = i
      · rw [hj]; exact h
      · exact a3 j (by omega) h2
    · rw [if_neg h]
      exact ⟨Nat.le_refl _, by omega, fun j h1 h2 => by omega, fun _ => by simpa using h⟩
theorem rn_rng {c : Nat → Bool} {tp : aT} {i : Nat} (hi : i ≤ tp.1) : i ≤ rn c tp i ∧ rn c tp i ≤ tp.1 ∧ (∀ j, i ≤ j → j < rn c tp i → c (tp.2 j) = true) ∧ (rn c tp i < tp.1 → c (tp.2 (rn c tp i)) = false) := by
  obtain ⟨a1, a2, a3, a4⟩ := run_rng (c := c) (w := tp.2) (tp.1 - i) i
  exact ⟨a1, by unfold rn; omega, a3, fun h => a4 (by unfold rn at h; omega)⟩
theorem rn_end {c : Nat → Bool} {tp : aT} {i : Nat} (h : tp.1 ≤ i) : rn c tp i = i := by unfold rn; rw [show tp.1 - i = 0 by omega]; rfl
theorem rn_stop {c : Nat → Bool} {tp : aT} {i : Nat} (h : c (tp.2 i) = false) : rn c tp i = i := by
  unfold rn
  cases tp.1 - i with
  | zero => rfl
  | succ d => simp only [run, h]; rfl
theorem rn_go {c : Nat → Bool} {tp : aT} {i : Nat} (hi : i < tp.1) (h : c (tp.2 i) = true) : rn c tp i = rn c tp (i + 1) := by
  unfold rn
  rw [show tp.1 - i = (tp.1 - (i + 1)) + 1 by omega]
  simp only [run, h, if_true]
def tkP (tp : aT) (i : Nat) : Nat := rn blk tp i
def tkE (tp : aT) (i : Nat) : Nat := if tkP tp i < tp.1 then (if ltr (tp.2 (tkP tp i)) then rn ltr tp (tkP tp i) else if dgt (tp.2 (tkP tp i)) then rn dgt tp (tkP tp i) else tkP tp i + 1) else i
def tkS (tp : aT) (i : Nat) : Nat := if tkP tp i < tp.1 then (if ltr (tp.2 (tkP tp i)) then (if tkE tp i - tkP tp i ≤ 8 then 1 else 4) else if dgt (tp.2 (tkP tp i)) then (if tkE tp i - tkP tp i ≤ 4 then 2 else 4) else if sgn (tp.2 (tkP tp i)) then 3 else 4) else 0
def seg (tp : aT) (p e : Nat) : List Nat := (List.range (e - p)).map (fun k => tp.2 (p + k))
def tkX (tp : aT) (i : Nat) : List Nat := seg tp (tkP tp i) (tkE tp i)
def nuV (l : List Nat) : Nat := l.foldl (fun v ch => v * 10 + (ch - 48)) 0
theorem seg_s {tp : aT} {p e : Nat} (h : p ≤ e) : seg tp p (e + 1) = seg tp p e ++ [tp.2 e] := by
  unfold seg
  rw [show e + 1 - p = (e - p) + 1 by omega, List.range_succ, List.map_append, List.map_singleton, show p + (e - p) = e by omega]
theorem seg_len {tp : aT} {p e : Nat} : (seg tp p e).length = e - p := by simp [seg]
theorem seg_at {tp : aT} {p e k : Nat} (h : k < e - p) : (seg tp p e)[k]? = some (tp.2 (p + k)) := by
  unfold seg
  rw [List.getElem?_map, List.getElem?_range h]
  rfl
theorem En_s {b ch : Nat} {l : List Nat} : En b (l ++ [ch]) = b * En b l + (ch - 96) := by unfold En; rw [List.foldl_append]; rfl
theorem nuV_s {ch : Nat} {l : List Nat} : nuV (l ++ [ch]) = nuV l * 10 + (ch - 48) := by unfold nuV; rw [List.foldl_append]; rfl
theorem okch_ltr {x : Nat} : ltr x = true ↔ 97 ≤ x ∧ x ≤ 122 := by unfold ltr; simp
theorem okch_dgt {x : Nat} : dgt x = true ↔ 48 ≤ x ∧ x ≤ 57 := by unfold dgt; simp
/-- the class's tape stands at the token behind the i-th sign -/
def CTk (m : pm_M) (tp : aT) (i : Nat) : Prop := gI m 1 5 = nI (tkS tp i) ∧ gI m 1 6 = nI (tkP tp i) ∧ gI m 1 7 = nI (tkE tp i) ∧ (tkS tp i = 1 → gJ m 1 2 = lN (En 27 (tkX tp i))) ∧ (tkS tp i = 2 → gI m 1 3 = nI (nuV (tkX tp i)))
section TKC
variable {m : pm_M} {X : pv_X} {tp : aT} {i : Nat} {h : pv_H}
theorem Tp_f2 : pv_fJ (hp m) 1 9 2 = some (gJ m 1 2) := hp_fJ Tp_T rfl
theorem Tp_f3 : pv_fI (hp m) 1 9 3 = some (gI m 1 3) := hp_fI Tp_T rfl
theorem Tp_f4 : pv_fI (hp m) 1 9 4 = some (gI m 1 4) := hp_fI Tp_T rfl
theorem Tp_f5 : pv_fI (hp m) 1 9 5 = some (gI m 1 5) := hp_fI Tp_T rfl
theorem Tp_f6 : pv_fI (hp m) 1 9 6 = some (gI m 1 6) := hp_fI Tp_T rfl
theorem Tp_f7 : pv_fI (hp m) 1 9 7 = some (gI m 1 7) := hp_fI Tp_T rfl
theorem Tp_p2 {v : Int64} : pv_fp (hp m) 1 9 2 (.long v) = some (hp (sJ m 1 2 v)) := hp_pJ Tp_T rfl
theorem Tp_p3 {v : Int32} : pv_fp (hp m) 1 9 3 (.int v) = some (hp (sI m 1 3 v)) := hp_pI Tp_T rfl
theorem Tp_p4 {v : Int32} : pv_fp (hp m) 1 9 4 (.int v) = some (hp (sI m 1 4 v)) := hp_pI Tp_T rfl
theorem Tp_p5 {v : Int32} : pv_fp (hp m) 1 9 5 (.int v) = some (hp (sI m 1 5 v)) := hp_pI Tp_T rfl
theorem Tp_p6 {v : Int32} : pv_fp (hp m) 1 9 6 (.int v) = some (hp (sI m 1 6 v)) := hp_pI Tp_T rfl
theorem Tp_p7 {v : Int32} : pv_fp (hp m) 1 9 7 (.int v) = some (hp (sI m 1 7 v)) := hp_pI Tp_T rfl
theorem ld_2 {k : Nat} (hk : k < 1000) : pv_aI (hp m) 0 2 (nI k) = some (gA m 2 k) := by rw [hp_aI (Or.inl rfl) T_2, if_pos (pv_in_nI hk (by decide)), nI_clamp (by omega)]
theorem c_isBlank {x : Nat} (hx : x < 2 ^ 31) : pM X m_Tp_isBlank [.int (nI x)] h = some (some (.int (bI (blk x))), h) := by
  rw [e_Tp_isBlank, u_Tp_isBlank_0]
  have k1 : (nI x = 10) ↔ x = 10 := nI_eq (b := 10) hx (by decide)
  have k2 : (nI x = 32) ↔ x = 32 := nI_eq (b := 32) hx (by decide)
  simp only [u_Tp_isBlank_12, u_Tp_isBlank_17, k1, k2]
  unfold blk
  by_cases a1 : x = 10 <;> by_cases a2 : x = 32 <;> simp [a1, a2, bI]
theorem c_isLetter {x : Nat} (hx : x < 2 ^ 31) : pM X m_Tp_isLetter [.int (nI x)] h = some (some (.int (bI (ltr x))), h) := by
  rw [e_Tp_isLetter, u_Tp_isLetter_0]
  have k1 : (nI x < 97) ↔ x < 97 := nI_ltI (b := 97) hx (by decide)
  have k2 : (122 < nI x) ↔ 122 < x := nI_ltI (a := 122) (by decide) hx
  simp only [u_Tp_isLetter_16, u_Tp_isLetter_17, k1, k2]
  unfold ltr
  by_cases a1 : x < 97
  · have : ¬ 97 ≤ x := by omega
    simp [a1, this, bI]
  · have b1 : 97 ≤ x := by omega
    by_cases a2 : 122 < x
    · have : ¬ x ≤ 122 := by omega
      simp [a1, a2, b1, this, bI]
    · have : x ≤ 122 := by omega
      simp [a1, a2, b1, this, bI]
theorem c_isDigit {x : Nat} (hx : x < 2 ^ 31) : pM X m_Tp_isDigit [.int (nI x)] h = some (some (.int (bI (dgt x))), h) := by
  rw [e_Tp_isDigit, u_Tp_isDigit_0]
  have k1 : (nI x < 48) ↔ x < 48 := nI_ltI (b := 48) hx (by decide)
  have k2 : (57 < nI x) ↔ 57 < x := nI_ltI (a := 57) (by decide) hx
  simp only [u_Tp_isDigit_16, u_Tp_isDigit_17, k1, k2]
  unfold dgt
  by_cases a1 : x < 48
  · have : ¬ 48 ≤ x := by omega
    simp [a1, this, bI]
  · have b1 : 48 ≤ x := by omega
    by_cases a2 : 57 < x
    · have : ¬ x ≤ 57 := by omega
      simp [a1, a2, b1, this, bI]
    · have : x ≤ 57 := by omega
      simp [a1, a2, b1, this, bI]
theorem ixo_sgn : ∀ x, x < 127 → ((pv_ixo [40, 41, 60, 61, 43, 45, 42, 59] (nI x) < 0) ↔ sgn x = false) := by decide +kernel
theorem x902 {x : Nat} (hx : x < 127) : ∃ v : Int32, pv_ext 902 [.ref (pv_scr + 1 + 0), .int (nI x)] h = some (some (.int v), h) ∧ (v < 0 ↔ sgn x = false) := by
  refine ⟨pv_ixo [40, 41, 60, 61, 43, 45, 42, 59] (nI x), ?_, ixo_sgn x hx⟩
  simp only [pv_ext]
  rw [if_pos (by omega), show pv_scr + 1 + 0 - (pv_scr + 1) = 0 by omega]
  rfl
theorem x900 {k : Nat} {t : List Nat} (ht : pv_txt[k]? = some t) : pv_ext 900 [.ref (pv_scr + 1 + k)] h = some (some (.int (nI t.length)), h) := by
  simp only [pv_ext]
  rw [if_pos (by omega), show pv_scr + 1 + k - (pv_scr + 1) = k by omega, ht]
  rfl
theorem x901 {k j : Nat} {t : List Nat} (ht : pv_txt[k]? = some t) (hj : j < t.length) (h31 : t.length < 2 ^ 31) : pv_ext 901 [.ref (pv_scr + 1 + k), .int (nI j)] h = some (some (.int (nI (t.getD j 0))), h) := by
  simp only [pv_ext]
  rw [if_pos (by omega), show pv_scr + 1 + k - (pv_scr + 1) = k by omega, ht]
  simp only [bs]
  rw [if_pos (pv_in_nI hj h31), nI_clamp (by omega)]
  rfl
theorem okch_lt {x : Nat} (h : okch x) : x < 127 := by unfold okch at h; omega
/-- only the tape's own fields change, not its signs -/
theorem cTap.tok {m' : pm_M} (h : cTap m tp) (h1 : gI m' 1 1 = gI m 1 1) (h2 : gA m' 2 = gA m 2) : cTap m' tp := by
  unfold cTap at h ⊢
  rw [h1, h2]
  exact h
theorem w_skip5 (hT : cTap m tp) (ok : okTp tp) : ∀ d i, i + d = tp.1 → f_Tp_advance_5 X 1 (nI i) (hp m) = f_Tp_advance_31 X 1 (nI (rn blk tp i)) (hp m) := by
  have h1000 := ok.1
  intro d
  induction d with
  | zero =>
    intro i hi
    rw [u_Tp_advance_5, Tp_f1, hT.1]
    simp only [tIs, tVs, bs, if_true, true_or, or_true, i10, if_false, not_false_eq_true, not_true_eq_false]
    rw [if_pos (nI_le (by omega) (by omega)), rn_end (by omega)]
  | succ d ih =>
    intro i hi
    have hw := okch_lt (ok.2 i (by omega))
    rw [u_Tp_advance_5, Tp_f1, hT.1]
    simp only [tIs, tVs, bs, if_true, true_or, or_true, i10, if_false, not_false_eq_true, not_true_eq_false]
    rw [if_neg (nI_ge (by omega) (by omega)), Tp_f0]
    simp only [tIs, tVs, bs, if_true, true_or, or_true, i10, if_false, not_false_eq_true, not_true_eq_false]
    rw [ld_2 (by omega), hT.2 i (by omega)]
    simp only [tIs, tVs, bs, if_true, true_or, or_true, i10, if_false, not_false_eq_true, not_true_eq_false, c_isBlank (X := X) (show tp.2 i < 2 ^ 31 by omega), nI_1]
    cases hb : blk (tp.2 i) with
    | false => rw [if_pos (show bI false = 0 from rfl), rn_stop hb]
    | true => rw [if_neg (show ¬ bI true = 0 by decide), ih (i + 1) (by omega), rn_go (by omega) hb]
theorem En_fold {b : Nat} (hb : 27 ≤ b) : ∀ (l : List Nat) (v : Nat), (∀ x ∈ l, 97 ≤ x ∧ x ≤ 122) → l.foldl (fun v ch => b * v + (ch - 96)) v < (v + 1) * b ^ l.length
  | [], v, _ => by simp
  | x :: l, v, h => by
    have hx := h x (by simp)
    have ih := En_fold hb l (b * v + (x - 96)) (fun y hy => h y (by simp [hy]))
    simp only [List.foldl_cons, List.length_cons]
    refine Nat.lt_of_lt_of_le ih ?_
    rw [Nat.pow_succ, Nat.mul_comm (b ^ l.length) b, ← Nat.mul_assoc]
    refine Nat.mul_le_mul_right _ ?_
    rw [Nat.add_mul, Nat.mul_comm v b]
    omega
theorem En_lt {b : Nat} (hb : 27 ≤ b) (l : List Nat) (h : ∀ x ∈ l, 97 ≤ x ∧ x ≤ 122) : En b l < b ^ l.length := by
  have := En_fold hb l 0 h
  unfold En
  omega
theorem w_readWord {p : Nat} (hT : cTap m tp) (ok : okTp tp) (hp' : p < tp.1) (h6 : gI m 1 6 = nI p) : ∃ m', pM X m_Tp_readWord [.ref 1] (hp m) = some (none, hp m') ∧ Same [1] m m' ∧ (∀ j, j ≠ 5 → j ≠ 7 → gI m' 1 j = gI m 1 j) ∧ gI m' 1 5 = nI (if rn ltr tp p - p ≤ 8 then 1 else 4) ∧ gI m' 1 7 = nI (rn ltr tp p) ∧ (rn ltr tp p - p ≤ 8 → gJ m' 1 2 = lN (En 27 (seg tp p (rn ltr tp p)))) := by
  have h1000 := ok.1
  have loop : ∀ d i (m1 : pm_M), i + d = tp.1 → p ≤ i → rn ltr tp i = rn ltr tp p → Same [1] m m1 → (∀ j, gI m1 1 j = gI m 1 j) → gJ m1 1 2 = lN (En 27 (seg tp p i)) → ∃ m', f_Tp_readWord_10 X 1 (nI i) (hp m1) = f_Tp_readWord_61 X 1 (nI (rn ltr tp p)) (hp m') ∧ Same [1] m m' ∧ (∀ j, gI m' 1 j = gI m 1 j) ∧ gJ m' 1 2 = lN (En 27 (seg tp p (rn ltr tp p))) := by
    intro d
    induction d with
    | zero =>
      intro i m1 hi hpi hr s1 g1 j1
      rw [rn_end (by omega)] at hr
      rw [u_Tp_readWord_10, Tp_f1, g1, hT.1]
      simp only [tIs, tVs, bs, if_true, true_or, or_true, i10, if_false, not_false_eq_true, not_true_eq_false]
      rw [if_pos (nI_le (by omega) (by omega)), ← hr]
      exact ⟨m1, rfl, s1, g1, j1⟩
    | succ d ih =>
      intro i m1 hi hpi hr s1 g1 j1
      have hw := okch_lt (ok.2 i (by omega))
      have a2 : gA m1 2 i = nI (tp.2 i) := by rw [s1.A (by decide)]; exact hT.2 i (by omega)
      rw [u_Tp_readWord_10, Tp_f1, g1, hT.1]
      simp only [tIs, tVs, bs, if_true, true_or, or_true, i10, if_false, not_false_eq_true, not_true_eq_false]
      rw [if_neg (nI_ge (by omega) (by omega)), Tp_f0]
      simp only [tIs, tVs, bs, if_true, true_or, or_true, i10, if_false, not_false_eq_true, not_true_eq_false]
      rw [ld_2 (by omega), a2]
      simp only [tIs, tVs, bs, if_true, true_or, or_true, i10, if_false, not_false_eq_true, not_true_eq_false, c_isLetter (X := X) (show tp.2 i < 2 ^ 31 by omega)]
      cases hb : ltr (tp.2 i) with
      | false =>
        rw [if_pos (show bI false = 0 from rfl)]
        rw [rn_stop hb] at hr
        rw [← hr]
        exact ⟨m1, rfl, s1, g1, j1⟩
      | true =>
        have hl := okch_ltr.mp hb
        rw [if_neg (show ¬ bI true = 0 by decide), Tp_f2, j1]
        simp only [tIs, tVs, bs, if_true, true_or, or_true, i10, if_false, not_false_eq_true, not_true_eq_false, Tp_f0]
        rw [ld_2 (by omega), a2]
        simp only [tIs, tVs, bs, if_true, true_or, or_true, i10, if_false, not_false_eq_true, not_true_eq_false]
        have ev : (lN (En 27 (seg tp p i)) * 27 + ((nI (tp.2 i) - 97 + 1 : Int32)).toInt64 : Int64) = lN (En 27 (seg tp p (i + 1))) := by
          rw [seg_s hpi, En_s, show (97 : Int32) = nI 97 from rfl, pk_sub (by omega), nI_1, nI_l (by omega), show (27 : Int64) = lN 27 from rfl, lN_mul, lN_add]
          congr 1
          rw [Nat.mul_comm]
          omega
        rw [ev, Tp_p2]
        simp only [tIs, tVs, bs, if_true, true_or, or_true, i10, if_false, not_false_eq_true, not_true_eq_false, nI_1]
        exact ih (i + 1) _ (by omega) (by omega) (by rw [← hr]; exact (rn_go (by omega) hb).symm) (s1.tr (Same.sJ (by decide))) (fun j => by rw [gI_sJ]; exact g1 j) (by rw [gJ_sJ, if_pos ⟨rfl, rfl⟩])
  obtain ⟨m1, e1, s1, g1, j1⟩ := loop (tp.1 - p) p (sJ m 1 2 0) (by omega) (Nat.le_refl _) rfl (Same.sJ (by decide)) (fun j => by rw [gI_sJ]) (by rw [gJ_sJ, if_pos ⟨rfl, rfl⟩]; unfold seg; rw [Nat.sub_self]; rfl)
  obtain ⟨r1, r2, -, -⟩ := rn_rng (c := ltr) (tp := tp) (i := p) (by omega)
  refine ⟨sI (sI m1 1 5 (nI (if rn ltr tp p - p ≤ 8 then 1 else 4))) 1 7 (nI (rn ltr tp p)), ?_, (s1.tr (Same.sI (by decide))).tr (Same.sI (by decide)), fun j h5 h7 => by rw [gI_sI_ne (Or.inr h7), gI_sI_ne (Or.inr h5)]; exact g1 j, by rw [gI_sI_ne (Or.inr (by decide)), gI_sI_eq], gI_sI_eq, fun _ => by rw [gJ_sI, gJ_sI]; exact j1⟩
  rw [e_Tp_readWord, u_Tp_readWord_0, Tp_f6, h6]
  simp only [tIs, tVs, bs, if_true, true_or, or_true, i10, if_false, not_false_eq_true, not_true_eq_false, Tp_p2, e1, u_Tp_readWord_61, Tp_f6, g1, h6]
  rw [pk_sub r1]
  have k8 : (8 < nI (rn ltr tp p - p)) ↔ 8 < rn ltr tp p - p := nI_ltI (a := 8) (by decide) (by omega)
  simp only [k8, u_Tp_readWord_78, Tp_p5, tIs, tVs, bs, if_true, true_or, or_true, i10, if_false, not_false_eq_true, not_true_eq_false, Tp_p7]
  by_cases h8 : rn ltr tp p - p ≤ 8
  · rw [if_neg (by omega), if_pos h8]; rfl
  · rw [if_pos (by omega), if_neg h8]; rfl
theorem w_readNumber {p : Nat} (hT : cTap m tp) (ok : okTp tp) (hp' : p < tp.1) (h6 : gI m 1 6 = nI p) : ∃ m', pM X m_Tp_readNumber [.ref 1] (hp m) = some (none, hp m') ∧ Same [1] m m' ∧ (∀ j, j ≠ 3 → j ≠ 5 → j ≠ 7 → gI m' 1 j = gI m 1 j) ∧ gI m' 1 5 = nI (if rn dgt tp p - p ≤ 4 then 2 else 4) ∧ gI m' 1 7 = nI (rn dgt tp p) ∧ gI m' 1 3 = nI (nuV (seg tp p (rn dgt tp p))) := by
  have h1000 := ok.1
  have loop : ∀ d i (m1 : pm_M), i + d = tp.1 → p ≤ i → rn dgt tp i = rn dgt tp p → Same [1] m m1 → (∀ j, j ≠ 3 → gI m1 1 j = gI m 1 j) → gI m1 1 3 = nI (nuV (seg tp p i)) → ∃ m', f_Tp_readNumber_10 X 1 (nI i) (hp m1) = f_Tp_readNumber_57 X 1 (nI (rn dgt tp p)) (hp m') ∧ Same [1] m m' ∧ (∀ j, j ≠ 3 → gI m' 1 j = gI m 1 j) ∧ gI m' 1 3 = nI (nuV (seg tp p (rn dgt tp p))) := by
    intro d
    induction d with
    | zero =>
      intro i m1 hi hpi hr s1 g1 j1
      rw [rn_end (by omega)] at hr
      rw [u_Tp_readNumber_10, Tp_f1, g1 1 (by decide), hT.1]
      simp only [tIs, tVs, bs, if_true, true_or, or_true, i10, if_false, not_false_eq_true, not_true_eq_false]
      rw [if_pos (nI_le (by omega) (by omega)), ← hr]
      exact ⟨m1, rfl, s1, g1, j1⟩
    | succ d ih =>
      intro i m1 hi hpi hr s1 g1 j1
      have hw := okch_lt (ok.2 i (by omega))
      have a2 : gA m1 2 i = nI (tp.2 i) := by rw [s1.A (by decide)]; exact hT.2 i (by omega)
      rw [u_Tp_readNumber_10, Tp_f1, g1 1 (by decide), hT.1]
      simp only [tIs, tVs, bs, if_true, true_or, or_true, i10, if_false, not_false_eq_true, not_true_eq_false]
      rw [if_neg (nI_ge (by omega) (by omega)), Tp_f0]
      simp only [tIs, tVs, bs, if_true, true_or, or_true, i10, if_false, not_false_eq_true, not_true_eq_false]
      rw [ld_2 (by omega), a2]
      simp only [tIs, tVs, bs, if_true, true_or, or_true, i10, if_false, not_false_eq_true, not_true_eq_false, c_isDigit (X := X) (show tp.2 i < 2 ^ 31 by omega)]
      cases hb : dgt (tp.2 i) with
      | false =>
        rw [if_pos (show bI false = 0 from rfl)]
        rw [rn_stop hb] at hr
        rw [← hr]
        exact ⟨m1, rfl, s1, g1, j1⟩
      | true =>
        have hl := okch_dgt.mp hb
        rw [if_neg (show ¬ bI true = 0 by decide), Tp_f3, j1]
        simp only [tIs, tVs, bs, if_true, true_or, or_true, i10, if_false, not_false_eq_true, not_true_eq_false, Tp_f0]
        rw [ld_2 (by omega), a2]
        simp only [tIs, tVs, bs, if_true, true_or, or_true, i10, if_false, not_false_eq_true, not_true_eq_false]
        have ev : (nI (nuV (seg tp p i)) * 10 + (nI (tp.2 i) - 48) : Int32) = nI (nuV (seg tp p (i + 1))) := by
          rw [seg_s hpi, nuV_s, show (48 : Int32) = nI 48 from rfl, pk_sub (by omega), show (10 : Int32) = nI 10 from rfl, pk_mul, nI_add]
        rw [ev, Tp_p3]
        simp only [tIs, tVs, bs, if_true, true_or, or_true, i10, if_false, not_false_eq_true, not_true_eq_false, nI_1]
        exact ih (i + 1) _ (by omega) (by omega) (by rw [← hr]; exact (rn_go (by omega) hb).symm) (s1.tr (Same.sI (by decide))) (fun j hj => by rw [gI_sI_ne (Or.inr hj)]; exact g1 j hj) gI_sI_eq
  obtain ⟨m1, e1, s1, g1, j1⟩ := loop (tp.1 - p) p (sI m 1 3 0) (by omega) (Nat.le_refl _) rfl (Same.sI (by decide)) (fun j hj => gI_sI_ne (Or.inr hj)) (by rw [gI_sI_eq]; unfold seg; rw [Nat.sub_self]; rfl)
  obtain ⟨r1, r2, -, -⟩ := rn_rng (c := dgt) (tp := tp) (i := p) (by omega)
  refine ⟨sI (sI m1 1 5 (nI (if rn dgt tp p - p ≤ 4 then 2 else 4))) 1 7 (nI (rn dgt tp p)), ?_, (s1.tr (Same.sI (by decide))).tr (Same.sI (by decide)), fun j h3 h5 h7 => by rw [gI_sI_ne (Or.inr h7), gI_sI_ne (Or.inr h5)]; exact g1 j h3, by rw [gI_sI_ne (Or.inr (by decide)), gI_sI_eq], gI_sI_eq, by rw [gI_sI_ne (Or.inr (by decide)), gI_sI_ne (Or.inr (by decide))]; exact j1⟩
  rw [e_Tp_readNumber, u_Tp_readNumber_0, Tp_f6, h6]
  simp only [tIs, tVs, bs, if_true, true_or, or_true, i10, if_false, not_false_eq_true, not_true_eq_false, Tp_p3, e1, u_Tp_readNumber_57, Tp_f6, g1 6 (by decide), h6]
  rw [pk_sub r1]
  have k8 : (4 < nI (rn dgt tp p - p)) ↔ 4 < rn dgt tp p - p := nI_ltI (a := 4) (by decide) (by omega)
  simp only [k8, u_Tp_readNumber_73, Tp_p5, tIs, tVs, bs, if_true, true_or, or_true, i10, if_false, not_false_eq_true, not_true_eq_false, Tp_p7]
  by_cases h8 : rn dgt tp p - p ≤ 4
  · rw [if_neg (by omega), if_pos h8]; rfl
  · rw [if_pos (by omega), if_neg h8]; rfl
theorem w_advance (hT : cTap m tp) (ok : okTp tp) (hi : i ≤ tp.1) (h7 : gI m 1 7 = nI i) : ∃ m', pM X m_Tp_advance [.ref 1] (hp m) = some (none, hp m') ∧ Same [1] m m' ∧ gI m' 1 1 = gI m 1 1 ∧ gI m' 1 4 = gI m 1 4 ∧ CTk m' tp i := by
  have h1000 := ok.1
  obtain ⟨r1, r2, r3, r4⟩ := rn_rng (c := blk) hi
  rw [e_Tp_advance, u_Tp_advance_0, Tp_f7, h7]
  simp only [tIs, tVs, bs, if_true, true_or, or_true, i10, if_false, not_false_eq_true, not_true_eq_false]
  rw [w_skip5 hT ok (tp.1 - i) i (by omega), u_Tp_advance_31, Tp_p6]
  simp only [tIs, tVs, bs, if_true, true_or, or_true, i10, if_false, not_false_eq_true, not_true_eq_false, Tp_f1, gI_sI_ne (m := m) (a := 1) (b := 1) (j := 6) (j' := 1) (v := nI (rn blk tp i)) (Or.inr (by decide)), hT.1]
  have s0 : Same [1] m (sI m 1 6 (nI (rn blk tp i))) := Same.sI (by decide)
  have g0 : ∀ j, j ≠ 6 → gI (sI m 1 6 (nI (rn blk tp i))) 1 j = gI m 1 j := fun j hj => gI_sI_ne (Or.inr hj)
  have k0 : gI (sI m 1 6 (nI (rn blk tp i))) 1 6 = nI (rn blk tp i) := gI_sI_eq
  have T0 : cTap (sI m 1 6 (nI (rn blk tp i))) tp := hT.tok (g0 1 (by decide)) gA_sI
  generalize sI m 1 6 (nI (rn blk tp i)) = m0 at s0 g0 k0 T0
  have eP : tkP tp i = rn blk tp i := rfl
  have k7 : (nI (rn blk tp i) < nI tp.1) ↔ rn blk tp i < tp.1 := nI_ltI (by omega) (by omega)
  simp only [k7]
  by_cases hlt : rn blk tp i < tp.1
  · rw [if_pos hlt, Tp_f0]
    simp only [tIs, tVs, bs, if_true, true_or, or_true, i10, if_false, not_false_eq_true, not_true_eq_false]
    have hw := okch_lt (ok.2 _ hlt)
    rw [ld_2 (by omega), T0.2 _ hlt]
    simp only [tIs, tVs, bs, if_true, true_or, or_true, i10, if_false, not_false_eq_true, not_true_eq_false, c_isLetter (X := X) (show tp.2 (rn blk tp i) < 2 ^ 31 by omega), c_isDigit (X := X) (show tp.2 (rn blk tp i) < 2 ^ 31 by omega), u_Tp_advance_120]
    cases hl : ltr (tp.2 (rn blk tp i)) with
    | true =>
      have eE : tkE tp i = rn ltr tp (rn blk tp i) := by unfold tkE; rw [eP, if_pos hlt, if_pos hl]
      have eS : tkS tp i = if rn ltr tp (rn blk tp i) - rn blk tp i ≤ 8 then 1 else 4 := by unfold tkS; rw [eE, eP, if_pos hlt, if_pos hl]
      obtain ⟨m', e1, s1, g1, g2, g3, g4⟩ := w_readWord (X := X) T0 ok hlt k0
      rw [if_neg (show ¬ bI true = 0 by decide), e1]
      simp only [tIs, tVs, bs, if_true, true_or, or_true, i10, if_false, not_false_eq_true, not_true_eq_false, Tp_rc]
      refine ⟨m', rfl, s0.tr s1, by rw [g1 1 (by decide) (by decide), g0 1 (by decide), hT.1], by rw [g1 4 (by decide) (by decide), g0 4 (by decide)], by rw [g2, eS], by rw [g1 6 (by decide) (by decide), k0, eP], by rw [g3, eE], fun h => ?_, fun h => ?_⟩
      · unfold tkX
        rw [eE, eP]
        refine g4 ?_
        rw [eS] at h
        by_cases h8 : rn ltr tp (rn blk tp i) - rn blk tp i ≤ 8
        · exact h8
        · rw [if_neg h8] at h; cases h
      · rw [eS] at h; split at h <;> cases h
    | false =>
      rw [if_pos (show bI false = 0 from rfl)]
      cases hd : dgt (tp.2 (rn blk tp i)) with
      | true =>
        have eE : tkE tp i = rn dgt tp (rn blk tp i) := by unfold tkE; rw [eP, if_pos hlt, if_neg (by rw [hl]; decide), if_pos hd]
        have eS : tkS tp i = if rn dgt tp (rn blk tp i) - rn blk tp i ≤ 4 then 2 else 4 := by unfold tkS; rw [eE, eP, if_pos hlt, if_neg (by rw [hl]; decide), if_pos hd]
        obtain ⟨m', e1, s1, g1, g2, g3, g4⟩ := w_readNumber (X := X) T0 ok hlt k0
        rw [Tp_f0]
        simp only [tIs, tVs, bs, if_true, true_or, or_true, i10, if_false, not_false_eq_true, not_true_eq_false]
        rw [ld_2 (by omega), T0.2 _ hlt]
        simp only [tIs, tVs, bs, if_true, true_or, or_true, i10, if_false, not_false_eq_true, not_true_eq_false, c_isDigit (X := X) (show tp.2 (rn blk tp i) < 2 ^ 31 by omega)]
        rw [hd, if_neg (show ¬ bI true = 0 by decide), e1]
        simp only [tIs, tVs, bs, if_true, true_or, or_true, i10, if_false, not_false_eq_true, not_true_eq_false, Tp_rc]
        refine ⟨m', rfl, s0.tr s1, by rw [g1 1 (by decide) (by decide) (by decide), g0 1 (by decide), hT.1], by rw [g1 4 (by decide) (by decide) (by decide), g0 4 (by decide)], by rw [g2, eS], by rw [g1 6 (by decide) (by decide) (by decide), k0, eP], by rw [g3, eE], fun h => ?_, fun h => ?_⟩
        · rw [eS] at h; split at h <;> cases h
        · unfold tkX
          rw [eE, eP]
          exact g4
      | false =>
        have eE : tkE tp i = rn blk tp i + 1 := by unfold tkE; rw [eP, if_pos hlt, if_neg (by rw [hl]; decide), if_neg (by rw [hd]; decide)]
        have eS : tkS tp i = if sgn (tp.2 (rn blk tp i)) then 3 else 4 := by unfold tkS; rw [eP, if_pos hlt, if_neg (by rw [hl]; decide), if_neg (by rw [hd]; decide)]
        obtain ⟨v, ev, hv⟩ := x902 (h := hp m0) hw
        rw [Tp_f0]
        simp only [tIs, tVs, bs, if_true, true_or, or_true, i10, if_false, not_false_eq_true, not_true_eq_false]
        rw [ld_2 (by omega), T0.2 _ hlt]
        simp only [tIs, tVs, bs, if_true, true_or, or_true, i10, if_false, not_false_eq_true, not_true_eq_false, c_isDigit (X := X) (show tp.2 (rn blk tp i) < 2 ^ 31 by omega)]
        rw [hd, if_pos (show bI false = 0 from rfl), Tp_f0]
        simp only [tIs, tVs, bs, if_true, true_or, or_true, i10, if_false, not_false_eq_true, not_true_eq_false]
        rw [ld_2 (by omega), T0.2 _ hlt]
        simp only [tIs, tVs, bs, if_true, true_or, or_true, i10, if_false, not_false_eq_true, not_true_eq_false, ev, u_Tp_advance_110, Tp_p5, Tp_p7, u_Tp_advance_120, nI_1]
        refine ⟨sI (sI m0 1 5 (nI (tkS tp i))) 1 7 (nI (rn blk tp i + 1)), ?_, (s0.tr (Same.sI (by decide))).tr (Same.sI (by decide)), by rw [gI_sI_ne (Or.inr (by decide)), gI_sI_ne (Or.inr (by decide)), g0 1 (by decide), hT.1], by rw [gI_sI_ne (Or.inr (by decide)), gI_sI_ne (Or.inr (by decide)), g0 4 (by decide)], by rw [gI_sI_ne (Or.inr (by decide)), gI_sI_eq], by rw [gI_sI_ne (Or.inr (by decide)), gI_sI_ne (Or.inr (by decide)), k0, eP], by rw [gI_sI_eq, eE], fun h => ?_, fun h => ?_⟩
        · rw [eS]
          cases hs : sgn (tp.2 (rn blk tp i)) with
          | true =>
            rw [if_neg (fun z => by have := hv.mp z; rw [hs] at this; cases this), if_pos rfl]
            rfl
          | false =>
            rw [if_pos (hv.mpr hs), if_neg (by decide)]
            rfl
        · rw [eS] at h; split at h <;> cases h
        · rw [eS] at h; split at h <;> cases h
  · rw [if_neg hlt, Tp_p5]
    simp only [tIs, tVs, bs, if_true, true_or, or_true, i10, if_false, not_false_eq_true, not_true_eq_false, u_Tp_advance_120]
    have eE : tkE tp i = i := by unfold tkE; rw [eP, if_neg hlt]
    have eS : tkS tp i = 0 := by unfold tkS; rw [eP, if_neg hlt]
    refine ⟨sI m0 1 5 0, rfl, s0.tr (Same.sI (by decide)), by rw [gI_sI_ne (Or.inr (by decide)), g0 1 (by decide), hT.1], by rw [gI_sI_ne (Or.inr (by decide)), g0 4 (by decide)], by rw [gI_sI_eq, eS]; rfl, by rw [gI_sI_ne (Or.inr (by decide)), k0, eP], by rw [gI_sI_ne (Or.inr (by decide)), g0 7 (by decide), h7, eE], fun h => (by rw [eS] at h; cases h), fun h => (by rw [eS] at h; cases h)⟩
end TKC
