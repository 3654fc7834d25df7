/-! What the class asks of its token. -/
def isW (tp : aT) (i : Nat) (t : List Nat) : Bool := decide (tkS tp i = 1) && decide (tkX tp i = t)
def isG (tp : aT) (i c : Nat) : Bool := decide (tkS tp i = 3) && decide (tp.2 (tkP tp i) = c)
def isR (l : List Nat) : Bool := decide (l ∈ wdv.take 16)
def isN (tp : aT) (i : Nat) : Bool := decide (tkS tp i = 1) && !isR (tkX tp i)
def tx (k : Nat) : List Nat := pv_txt.getD k []
theorem tx_ok : ∀ k, k < 21 → pv_txt[k]? = some (tx k) ∧ (tx k).length ≤ 8 := by decide
theorem tkP_le {tp : aT} {i : Nat} (hi : i ≤ tp.1) : i ≤ tkP tp i ∧ tkP tp i ≤ tp.1 := ⟨(rn_rng hi).1, (rn_rng hi).2.1⟩
theorem tkE_le {tp : aT} {i : Nat} (hi : i ≤ tp.1) : tkE tp i ≤ tp.1 ∧ (tkS tp i ≠ 0 → tkP tp i < tkE tp i ∧ tkP tp i < tp.1) := by
  obtain ⟨p1, p2⟩ := tkP_le hi
  unfold tkE tkS
  by_cases hlt : tkP tp i < tp.1
  · rw [if_pos hlt, if_pos hlt]
    by_cases hl : ltr (tp.2 (tkP tp i)) = true
    · rw [if_pos hl]
      have h1 := rn_go hlt hl
      obtain ⟨r1, r2, -, -⟩ := rn_rng (c := ltr) (tp := tp) (i := tkP tp i + 1) (by omega)
      rw [h1]
      exact ⟨r2, fun _ => ⟨by omega, hlt⟩⟩
    · rw [if_neg hl]
      by_cases hd : dgt (tp.2 (tkP tp i)) = true
      · rw [if_pos hd]
        have h1 := rn_go hlt hd
        obtain ⟨r1, r2, -, -⟩ := rn_rng (c := dgt) (tp := tp) (i := tkP tp i + 1) (by omega)
        rw [h1]
        exact ⟨r2, fun _ => ⟨by omega, hlt⟩⟩
      · rw [if_neg hd]
        exact ⟨by omega, fun _ => ⟨by omega, hlt⟩⟩
  · rw [if_neg hlt, if_neg hlt]
    exact ⟨hi, fun h => absurd rfl h⟩
theorem tkW {tp : aT} {i : Nat} (hi : i ≤ tp.1) (h : tkS tp i = 1) : okW (tkX tp i) ∧ (tkX tp i).length = tkE tp i - tkP tp i ∧ 0 < (tkX tp i).length := by
  obtain ⟨e1, e2⟩ := tkE_le hi
  obtain ⟨e3, e4⟩ := e2 (by omega)
  have hlen : (tkX tp i).length = tkE tp i - tkP tp i := seg_len
  have h' := h
  unfold tkS at h'
  rw [if_pos e4] at h'
  by_cases hl : ltr (tp.2 (tkP tp i)) = true
  · rw [if_pos hl] at h'
    have h8 : tkE tp i - tkP tp i ≤ 8 := by
      by_cases h8 : tkE tp i - tkP tp i ≤ 8
      · exact h8
      · rw [if_neg h8] at h'; omega
    have eE : tkE tp i = rn ltr tp (tkP tp i) := by unfold tkE; rw [if_pos e4, if_pos hl]
    obtain ⟨r1, r2, r3, -⟩ := rn_rng (c := ltr) (tp := tp) (i := tkP tp i) (by omega)
    refine ⟨⟨by omega, fun x hx => ?_⟩, hlen, by omega⟩
    unfold tkX seg at hx
    obtain ⟨k, hk, rfl⟩ := List.mem_map.mp hx
    rw [List.mem_range] at hk
    exact okch_ltr.mp (r3 _ (by omega) (by omega))
  · rw [if_neg hl] at h'
    exfalso
    by_cases hd : dgt (tp.2 (tkP tp i)) = true
    · rw [if_pos hd] at h'; split at h' <;> omega
    · rw [if_neg hd] at h'; split at h' <;> omega
theorem tkNum {tp : aT} {i : Nat} (hi : i ≤ tp.1) (h : tkS tp i = 2) : nuV (tkX tp i) < 10000 ∧ (tkX tp i).length ≤ 4 ∧ (∀ x ∈ tkX tp i, 48 ≤ x ∧ x ≤ 57) := by
  obtain ⟨e1, e2⟩ := tkE_le hi
  obtain ⟨e3, e4⟩ := e2 (by omega)
  have hlen : (tkX tp i).length = tkE tp i - tkP tp i := seg_len
  have h' := h
  unfold tkS at h'
  rw [if_pos e4] at h'
  by_cases hl : ltr (tp.2 (tkP tp i)) = true
  · rw [if_pos hl] at h'; exfalso; split at h' <;> omega
  · rw [if_neg hl] at h'
    by_cases hd : dgt (tp.2 (tkP tp i)) = true
    · rw [if_pos hd] at h'
      have h4 : tkE tp i - tkP tp i ≤ 4 := by
        by_cases h8 : tkE tp i - tkP tp i ≤ 4
        · exact h8
        · rw [if_neg h8] at h'; omega
      have eE : tkE tp i = rn dgt tp (tkP tp i) := by unfold tkE; rw [if_pos e4, if_neg hl, if_pos hd]
      obtain ⟨r1, r2, r3, -⟩ := rn_rng (c := dgt) (tp := tp) (i := tkP tp i) (by omega)
      have hall : ∀ x ∈ tkX tp i, 48 ≤ x ∧ x ≤ 57 := fun x hx => by
        unfold tkX seg at hx
        obtain ⟨k, hk, rfl⟩ := List.mem_map.mp hx
        rw [List.mem_range] at hk
        exact okch_dgt.mp (r3 _ (by omega) (by omega))
      have fold : ∀ (l : List Nat) (v : Nat), (∀ x ∈ l, 48 ≤ x ∧ x ≤ 57) → l.foldl (fun v ch => v * 10 + (ch - 48)) v < (v + 1) * 10 ^ l.length := by
        intro l
        induction l with
        | nil => intro v _; simp
        | cons x l ih =>
          intro v hl
          have hx := hl x (by simp)
          have := ih (v * 10 + (x - 48)) (fun y hy => hl y (by simp [hy]))
          simp only [List.foldl_cons, List.length_cons]
          refine Nat.lt_of_lt_of_le this ?_
          rw [Nat.pow_succ, Nat.mul_comm (10 ^ l.length) 10, ← Nat.mul_assoc]
          exact Nat.mul_le_mul_right _ (by omega)
      have hf := fold (tkX tp i) 0 hall
      have h10 : 10 ^ (tkX tp i).length ≤ 10 ^ 4 := Nat.pow_le_pow_right (by decide) (by omega)
      exact ⟨by unfold nuV; omega, by omega, hall⟩
    · rw [if_neg hd] at h'; exfalso; split at h' <;> omega
section ASK
variable {m : pm_M} {X : pv_X} {tp : aT} {i : Nat} {h : pv_H}
theorem w_isWord {k : Nat} (hk : k < 21) (hT : cTap m tp) (ok : okTp tp) (hi : i ≤ tp.1) (hc : CTk m tp i) : pM X m_Tp_isWord [.ref 1, .ref (pv_scr + 1 + k)] (hp m) = some (some (.int (bI (isW tp i (tx k)))), hp m) := by
  have h1000 := ok.1
  obtain ⟨t1, t2⟩ := tx_ok k hk
  obtain ⟨c1, c2, c3, -, -⟩ := hc
  obtain ⟨e1, e2⟩ := tkE_le hi
  rw [e_Tp_isWord, u_Tp_isWord_0, Tp_f5, c1]
  simp only [tIs, tVs, bs, if_true, true_or, or_true, i10, if_false, not_false_eq_true, not_true_eq_false]
  have k5 : (nI (tkS tp i) = 1) ↔ tkS tp i = 1 := by
    have : tkS tp i ≤ 4 := by unfold tkS; repeat' split
                              all_goals omega
    exact nI_eq (b := 1) (by omega) (by decide)
  simp only [k5]
  unfold isW
  by_cases hs : tkS tp i = 1
  · obtain ⟨-, w2, w3⟩ := tkW hi hs
    obtain ⟨e3, e4⟩ := e2 (by omega)
    rw [if_neg (fun z => z hs), Tp_f7, c3, decide_eq_true hs, Bool.true_and]
    simp only [tIs, tVs, bs, if_true, true_or, or_true, i10, if_false, not_false_eq_true, not_true_eq_false, Tp_f6, c2, x900 t1]
    rw [pk_sub (by omega)]
    simp only [nI_eq (show tkE tp i - tkP tp i < 2 ^ 31 by omega) (show (tx k).length < 2 ^ 31 by omega)]
    by_cases hl : tkE tp i - tkP tp i = (tx k).length
    · rw [if_pos hl]
      have loop : ∀ d j, j + d = (tx k).length → (∀ q, q < j → tp.2 (tkP tp i + q) = (tx k).getD q 0) → f_Tp_isWord_28 X 1 (pv_scr + 1 + k) (nI j) (hp m) = some (some (.int (bI (decide (tkX tp i = tx k)))), hp m) := by
        intro d
        induction d with
        | zero =>
          intro j hj hq
          rw [u_Tp_isWord_28, x900 t1]
          simp only [tIs, tVs, bs, if_true, true_or, or_true, i10, if_false, not_false_eq_true, not_true_eq_false]
          rw [if_pos (nI_le (by omega) (by omega)), u_Tp_isWord_76]
          have : tkX tp i = tx k := by
            apply List.ext_getElem?
            intro q
            rcases Nat.lt_or_ge q (tx k).length with hlt | hge
            · unfold tkX
              rw [seg_at (by omega), hq q (by omega), List.getD_eq_getElem?_getD, List.getElem?_eq_getElem hlt]
              rfl
            · rw [List.getElem?_eq_none (by omega), List.getElem?_eq_none hge]
          rw [decide_eq_true this]
          rfl
        | succ d ih =>
          intro j hj hq
          have hw := okch_lt (ok.2 (tkP tp i + j) (by omega))
          rw [u_Tp_isWord_28, x900 t1]
          simp only [tIs, tVs, bs, if_true, true_or, or_true, i10, if_false, not_false_eq_true, not_true_eq_false]
          rw [if_neg (nI_ge (by omega) (by omega)), Tp_f6, c2]
          simp only [tIs, tVs, bs, if_true, true_or, or_true, i10, if_false, not_false_eq_true, not_true_eq_false, Tp_f1, hT.1]
          rw [nI_add, if_neg (nI_ge (by omega) (by omega)), Tp_f0]
          simp only [tIs, tVs, bs, if_true, true_or, or_true, i10, if_false, not_false_eq_true, not_true_eq_false]
          rw [ld_2 (by omega), hT.2 _ (by omega), x901 t1 (by omega) (by omega)]
          simp only [tIs, tVs, bs, if_true, true_or, or_true, i10, if_false, not_false_eq_true, not_true_eq_false, nI_1]
          have hg : (tx k).getD j 0 < 2 ^ 31 := by
            have : ∀ q, q < 21 → ∀ r, r < 8 → (tx q).getD r 0 < 127 := by decide
            have := this k hk j (by omega)
            omega
          simp only [nI_eq (show tp.2 (tkP tp i + j) < 2 ^ 31 by omega) hg]
          by_cases he : tp.2 (tkP tp i + j) = (tx k).getD j 0
          · rw [if_pos he]
            exact ih (j + 1) (by omega) (fun q hq' => by
              by_cases hqj : q = j
              · rw [hqj]; exact he
              · exact hq q (by omega))
          · rw [if_neg he]
            have : ¬ tkX tp i = tx k := fun z => by
              apply he
              have h1 : (tkX tp i)[j]? = some (tp.2 (tkP tp i + j)) := by unfold tkX; exact seg_at (by omega)
              rw [z] at h1
              rw [List.getD_eq_getElem?_getD, h1]
              rfl
            rw [decide_eq_false this]
            rfl
      exact loop (tx k).length 0 (by omega) (fun q hq => by omega)
    · rw [if_neg hl, u_Tp_isWord_24]
      have : ¬ tkX tp i = tx k := fun z => hl (by rw [← z]; exact w2.symm)
      rw [decide_eq_false this]
      rfl
  · rw [if_pos hs, u_Tp_isWord_24, decide_eq_false hs]
    rfl
theorem tkS_le : tkS tp i ≤ 4 := by
  unfold tkS
  repeat' split
  all_goals omega
theorem w_isSign {c : Nat} {vc : Int32} (hvc : vc = nI c) (hc' : c < 127) (hT : cTap m tp) (ok : okTp tp) (hi : i ≤ tp.1) (hc : CTk m tp i) : pM X m_Tp_isSign [.ref 1, .int vc] (hp m) = some (some (.int (bI (isG tp i c))), hp m) := by
  have h1000 := ok.1
  obtain ⟨c1, c2, c3, -, -⟩ := hc
  obtain ⟨e1, e2⟩ := tkE_le hi
  have h4 := tkS_le (tp := tp) (i := i)
  rw [e_Tp_isSign, u_Tp_isSign_0, Tp_f5, c1, hvc]
  simp only [tIs, tVs, bs, if_true, true_or, or_true, i10, if_false, not_false_eq_true, not_true_eq_false]
  have k5 : (nI (tkS tp i) = 3) ↔ tkS tp i = 3 := nI_eq (b := 3) (by omega) (by decide)
  simp only [k5, u_Tp_isSign_36, u_Tp_isSign_37]
  unfold isG
  by_cases hs : tkS tp i = 3
  · obtain ⟨e3, e4⟩ := e2 (by omega)
    have hw := okch_lt (ok.2 (tkP tp i) e4)
    rw [if_neg (fun z => z hs), decide_eq_true hs, Bool.true_and, Tp_f6, c2]
    simp only [tIs, tVs, bs, if_true, true_or, or_true, i10, if_false, not_false_eq_true, not_true_eq_false, Tp_f1, hT.1]
    rw [if_neg (nI_ge e4 (by omega)), Tp_f0]
    simp only [tIs, tVs, bs, if_true, true_or, or_true, i10, if_false, not_false_eq_true, not_true_eq_false]
    rw [ld_2 (by omega), hT.2 _ e4]
    simp only [tIs, tVs, bs, if_true, true_or, or_true, i10, if_false, not_false_eq_true, not_true_eq_false, nI_eq (show tp.2 (tkP tp i) < 2 ^ 31 by omega) (show c < 2 ^ 31 by omega)]
    by_cases he : tp.2 (tkP tp i) = c
    · rw [if_neg (fun z => z he), decide_eq_true he]; rfl
    · rw [if_pos he, decide_eq_false he]; rfl
  · rw [if_pos hs, decide_eq_false hs, if_pos (Or.inl trivial)]
    rfl
def LW (l : List Nat) : Bool := (((((((decide (l = tx 1) || decide (l = tx 2)) || decide (l = tx 3)) || decide (l = tx 4)) || decide (l = tx 5)) || decide (l = tx 6)) || decide (l = tx 7)) || decide (l = tx 8))
def OW (l : List Nat) : Bool := (((((((decide (l = tx 9) || decide (l = tx 10)) || decide (l = tx 11)) || decide (l = tx 12)) || decide (l = tx 13)) || decide (l = tx 14)) || decide (l = tx 15)) || decide (l = tx 16))
theorem isR_iff (l : List Nat) : isR l = (LW l || OW l) := by
  have e : wdv.take 16 = [tx 1, tx 9, tx 2, tx 3, tx 4, tx 5, tx 6, tx 7, tx 8, tx 13, tx 14, tx 15, tx 16, tx 10, tx 11, tx 12] := by decide
  unfold isR LW OW
  rw [e]
  rw [Bool.eq_iff_iff]
  simp only [List.mem_cons, List.not_mem_nil, or_false, Bool.or_eq_true, decide_eq_true_eq]
  generalize (l = tx 1) = p1
  generalize (l = tx 2) = p2
  generalize (l = tx 3) = p3
  generalize (l = tx 4) = p4
  generalize (l = tx 5) = p5
  generalize (l = tx 6) = p6
  generalize (l = tx 7) = p7
  generalize (l = tx 8) = p8
  generalize (l = tx 9) = p9
  generalize (l = tx 10) = q0
  generalize (l = tx 11) = q1
  generalize (l = tx 12) = q2
  generalize (l = tx 13) = q3
  generalize (l = tx 14) = q4
  generalize (l = tx 15) = q5
  generalize (l = tx 16) = q6
  simp only [or_assoc, or_comm, or_left_comm]
theorem isW_beq {t : List Nat} (hs : tkS tp i = 1) : isW tp i t = decide (tkX tp i = t) := by
  unfold isW
  rw [decide_eq_true hs, Bool.true_and]
theorem bI_nz {b : Bool} : (¬ bI b = 0) ↔ b = true := by cases b <;> decide
theorem w_isLine (hT : cTap m tp) (ok : okTp tp) (hi : i ≤ tp.1) (hc : CTk m tp i) (hs : tkS tp i = 1) : pM X m_Tp_isLineWord [.ref 1] (hp m) = some (some (.int (bI (LW (tkX tp i)))), hp m) := by
  have W : ∀ k, k < 21 → pM X m_Tp_isWord [.ref 1, .ref (pv_scr + 1 + k)] (hp m) = some (some (.int (bI (decide (tkX tp i = tx k)))), hp m) := fun k hk => by rw [w_isWord hk hT ok hi hc, isW_beq hs]
  rw [e_Tp_isLineWord, u_Tp_isLineWord_0]
  simp only [tIs, tVs, bs, if_true, true_or, or_true, i10, if_false, not_false_eq_true, not_true_eq_false, Tp_rc, W 1 (by decide), W 2 (by decide), W 3 (by decide), W 4 (by decide), W 5 (by decide), W 6 (by decide), W 7 (by decide), W 8 (by decide), u_Tp_isLineWord_72, u_Tp_isLineWord_77, bI_nz]
  unfold LW
  generalize decide (tkX tp i = tx 1) = b1
  generalize decide (tkX tp i = tx 2) = b2
  generalize decide (tkX tp i = tx 3) = b3
  generalize decide (tkX tp i = tx 4) = b4
  generalize decide (tkX tp i = tx 5) = b5
  generalize decide (tkX tp i = tx 6) = b6
  generalize decide (tkX tp i = tx 7) = b7
  generalize decide (tkX tp i = tx 8) = b8
  cases b1 <;> cases b2 <;> cases b3 <;> cases b4 <;> cases b5 <;> cases b6 <;> cases b7 <;> cases b8 <;> rfl
theorem w_isOther (hT : cTap m tp) (ok : okTp tp) (hi : i ≤ tp.1) (hc : CTk m tp i) (hs : tkS tp i = 1) : pM X m_Tp_isOtherWord [.ref 1] (hp m) = some (some (.int (bI (OW (tkX tp i)))), hp m) := by
  have W : ∀ k, k < 21 → pM X m_Tp_isWord [.ref 1, .ref (pv_scr + 1 + k)] (hp m) = some (some (.int (bI (decide (tkX tp i = tx k)))), hp m) := fun k hk => by rw [w_isWord hk hT ok hi hc, isW_beq hs]
  rw [e_Tp_isOtherWord, u_Tp_isOtherWord_0]
  simp only [tIs, tVs, bs, if_true, true_or, or_true, i10, if_false, not_false_eq_true, not_true_eq_false, Tp_rc, W 9 (by decide), W 10 (by decide), W 11 (by decide), W 12 (by decide), W 13 (by decide), W 14 (by decide), W 15 (by decide), W 16 (by decide), u_Tp_isOtherWord_72, u_Tp_isOtherWord_77, bI_nz]
  unfold OW
  generalize decide (tkX tp i = tx 9) = b1
  generalize decide (tkX tp i = tx 10) = b2
  generalize decide (tkX tp i = tx 11) = b3
  generalize decide (tkX tp i = tx 12) = b4
  generalize decide (tkX tp i = tx 13) = b5
  generalize decide (tkX tp i = tx 14) = b6
  generalize decide (tkX tp i = tx 15) = b7
  generalize decide (tkX tp i = tx 16) = b8
  cases b1 <;> cases b2 <;> cases b3 <;> cases b4 <;> cases b5 <;> cases b6 <;> cases b7 <;> cases b8 <;> rfl
theorem w_isName (hT : cTap m tp) (ok : okTp tp) (hi : i ≤ tp.1) (hc : CTk m tp i) : pM X m_Tp_isName [.ref 1] (hp m) = some (some (.int (bI (isN tp i))), hp m) := by
  have h4 := tkS_le (tp := tp) (i := i)
  have k5 : (nI (tkS tp i) = 1) ↔ tkS tp i = 1 := nI_eq (b := 1) (by omega) (by decide)
  rw [e_Tp_isName, u_Tp_isName_0, Tp_f5, hc.1]
  simp only [tIs, tVs, bs, if_true, true_or, or_true, i10, if_false, not_false_eq_true, not_true_eq_false, k5, u_Tp_isName_26, u_Tp_isName_27]
  unfold isN
  by_cases hs : tkS tp i = 1
  · rw [if_neg (fun z => z hs), decide_eq_true hs, Bool.true_and, isR_iff]
    simp only [tIs, tVs, bs, if_true, true_or, or_true, i10, if_false, not_false_eq_true, not_true_eq_false, Tp_rc, w_isLine (X := X) hT ok hi hc hs, w_isOther (X := X) hT ok hi hc hs, bI_nz]
    generalize LW (tkX tp i) = b1
    generalize OW (tkX tp i) = b2
    cases b1 <;> cases b2 <;> rfl
  · rw [if_pos hs, decide_eq_false hs]
    rfl
theorem w_isEnd (hc : CTk m tp i) : pM X m_Tp_isEnd [.ref 1] (hp m) = some (some (.int (bI (decide (tkS tp i = 0)))), hp m) := by
  have h4 := tkS_le (tp := tp) (i := i)
  have k5 : (nI (tkS tp i) = 0) ↔ tkS tp i = 0 := nI_eq (b := 0) (by omega) (by decide)
  rw [e_Tp_isEnd, u_Tp_isEnd_0, Tp_f5, hc.1]
  simp only [tIs, tVs, bs, if_true, true_or, or_true, i10, if_false, not_false_eq_true, not_true_eq_false, k5, u_Tp_isEnd_12]
  by_cases hs : tkS tp i = 0
  · rw [if_neg (fun z => z hs), decide_eq_true hs]; rfl
  · rw [if_pos hs, decide_eq_false hs]; rfl
theorem w_isNumber (hc : CTk m tp i) : pM X m_Tp_isNumber [.ref 1] (hp m) = some (some (.int (bI (decide (tkS tp i = 2)))), hp m) := by
  have h4 := tkS_le (tp := tp) (i := i)
  have k5 : (nI (tkS tp i) = 2) ↔ tkS tp i = 2 := nI_eq (b := 2) (by omega) (by decide)
  rw [e_Tp_isNumber, u_Tp_isNumber_0, Tp_f5, hc.1]
  simp only [tIs, tVs, bs, if_true, true_or, or_true, i10, if_false, not_false_eq_true, not_true_eq_false, k5, u_Tp_isNumber_13]
  by_cases hs : tkS tp i = 2
  · rw [if_neg (fun z => z hs), decide_eq_true hs]; rfl
  · rw [if_pos hs, decide_eq_false hs]; rfl
/-- the fault's number at a token -/
def fl (tp : aT) (i v : Nat) : Nat := v + 16 * tkP tp i
theorem w_refuse {v : Nat} {vv : Int32} (hv : vv = nI v) (hc : CTk m tp i) : pM X m_Tp_refuse [.ref 1, .int vv] (hp m) = some (some (.int 0), hp (sI m 1 4 (nI (fl tp i v)))) := by
  rw [e_Tp_refuse, u_Tp_refuse_0, Tp_f6, hc.2.1, hv]
  simp only [tIs, tVs, bs, if_true, true_or, or_true, i10, if_false, not_false_eq_true, not_true_eq_false]
  rw [show (16 : Int32) = nI 16 from rfl, pk_mul, nI_add, Tp_p4]
  rfl
end ASK
