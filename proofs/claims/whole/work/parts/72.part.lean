/-! A PART, and so an E. -/
/-- which of so many words, from one on, the token is -/
def whr (tp : aT) (i f c : Nat) : Option Nat := (List.range c).find? (fun k => isW tp i (wdv.getD (f + k) []))
theorem wdv_inj : ∀ a, a < 20 → ∀ b, b < 20 → wdv.getD a [] = wdv.getD b [] → a = b := by decide +kernel
theorem whr_some {tp : aT} {i f c j : Nat} (h : whr tp i f c = some j) : j < c ∧ isW tp i (wdv.getD (f + j) []) = true := by
  unfold whr at h
  have h1 := List.mem_of_find?_eq_some h
  have h2 := List.find?_some h
  exact ⟨List.mem_range.mp h1, h2⟩
theorem whr_none {tp : aT} {i f c : Nat} (h : whr tp i f c = none) : ∀ j, j < c → isW tp i (wdv.getD (f + j) []) = false := by
  unfold whr at h
  rw [List.find?_eq_none] at h
  intro j hj
  have h1 := h j (List.mem_range.mpr hj)
  simpa using h1
theorem whr_is {tp : aT} {i f c j : Nat} (hc : f + c ≤ 20) (hj : j < c) (h : isW tp i (wdv.getD (f + j) []) = true) : whr tp i f c = some j := by
  cases hw : whr tp i f c with
  | none => have h1 := whr_none hw j hj; rw [h] at h1; cases h1
  | some y =>
    obtain ⟨h1, h2⟩ := whr_some hw
    have e := (isW_s h).2.symm.trans (isW_s h2).2
    have e2 := wdv_inj _ (by omega) _ (by omega) e
    rw [show y = j by omega]
section PRT
variable {X : pv_X} {tp : aT} {N M d n k : Nat} {m : pm_M}
theorem m_wordHere {f c : Nat} {vf vc : Int32} (hf : vf = nI f) (hc : vc = nI c) (hfc : f + c ≤ 20) (hA : MAt m tp N n) : pM X m_Md_wordHere [.ref 175, .int vf, .int vc] (hp m) = some (some (.int (enc (whr tp (ps tp n) f c))), hp m) := by
  rw [e_Md_wordHere, u_Md_wordHere_0, hf, hc]
  have loop : ∀ q i (o : Option Nat), i + q = c → (match o with
      | none => ∀ j, j < i → isW tp (ps tp n) (wdv.getD (f + j) []) = false
      | some j => j < c ∧ isW tp (ps tp n) (wdv.getD (f + j) []) = true) → f_Md_wordHere_5 X 175 (nI f) (nI c) (enc o) (nI i) (hp m) = some (some (.int (enc (whr tp (ps tp n) f c))), hp m) := by
    intro q
    induction q with
    | zero =>
      intro i o hi ho
      rw [u_Md_wordHere_5, if_pos (nI_le (by omega) (by omega))]
      have e : o = whr tp (ps tp n) f c := by
        cases o with
        | none =>
          cases hw : whr tp (ps tp n) f c with
          | none => rfl
          | some y =>
            obtain ⟨h1, h2⟩ := whr_some hw
            have h3 := ho y (by omega)
            rw [h2] at h3
            cases h3
        | some j => exact (whr_is hfc ho.1 ho.2).symm
      rw [e]
    | succ q ih =>
      intro i o hi ho
      rw [u_Md_wordHere_5, if_neg (nI_ge (by omega) (by omega)), nI_add]
      simp only [tIs, tVs, bs, if_true, true_or, or_true, i10, if_false, not_false_eq_true, not_true_eq_false, Md_rc, Md_f1, Md_f4, Md_f5, Md_f6, Md_f9, Md_f10, Md_f11, Md_f12, Md_f14, Md_f15, Md_f18, Md_f19, Md_f20, Md_f21, Md_f23, Md_f24, Md_f25, Md_f26, Md_f28, m_isWord (X := X) (k := f + i) rfl (by omega) hA, u_Md_wordHere_28, nI_1]
      cases hw : isW tp (ps tp n) (wdv.getD (f + i) []) with
      | true =>
        rw [if_neg (show ¬ bI true = 0 by decide)]
        exact ih (i + 1) (some i) (by omega) ⟨by omega, hw⟩
      | false =>
        rw [if_pos (show bI false = 0 from rfl)]
        refine ih (i + 1) o (by omega) ?_
        cases o with
        | none =>
          intro j hj
          by_cases hji : j = i
          · rw [hji]; exact hw
          · exact ho j (by omega)
        | some j => exact ho
  exact loop c 0 none (by omega) (fun j hj => by omega)
theorem x_wordHere {c e : Nat} {vf vc : Int32} (hc : vc = nI c) (h20 : c ≤ 20) (h8 : gI m 175 8 = nI e) (h0 : 0 < e) (h31 : e < 2 ^ 31) : pM X m_Md_wordHere [.ref 175, .int vf, .int vc] (hp m) = some (some (.int (-1)), hp m) := by
  rw [e_Md_wordHere, u_Md_wordHere_0, hc]
  have loop : ∀ q i, i + q = c → f_Md_wordHere_5 X 175 vf (nI c) (-1) (nI i) (hp m) = some (some (.int (-1)), hp m) := by
    intro q
    induction q with
    | zero =>
      intro i hi
      rw [u_Md_wordHere_5, if_pos (nI_le (by omega) (by omega))]
    | succ q ih =>
      intro i hi
      rw [u_Md_wordHere_5, if_neg (nI_ge (by omega) (by omega))]
      simp only [tIs, tVs, bs, if_true, true_or, or_true, i10, if_false, not_false_eq_true, not_true_eq_false, Md_rc, Md_f1, Md_f4, Md_f5, Md_f6, Md_f9, Md_f10, Md_f11, Md_f12, Md_f14, Md_f15, Md_f18, Md_f19, Md_f20, Md_f21, Md_f23, Md_f24, Md_f25, Md_f26, Md_f28, x_isWord (X := X) h8 h0 h31, u_Md_wordHere_28, nI_1, eq_self]
      exact ih (i + 1) (by omega)
  exact loop c 0 (by omega)
/-- the fact that the class finds -/
def fcV (o : Option Nat) : Int32 := match o with
  | none => -13
  | some j => -1 - nI j
theorem whr4 {i f : Nat} : whr tp i f 4 = if isW tp i (wdv.getD (f + 0) []) = true then some 0 else if isW tp i (wdv.getD (f + 1) []) = true then some 1 else if isW tp i (wdv.getD (f + 2) []) = true then some 2 else if isW tp i (wdv.getD (f + 3) []) = true then some 3 else none := by
  unfold whr
  rw [show List.range 4 = [0, 1, 2, 3] from rfl]
  simp only [List.find?]
  cases isW tp i (wdv.getD (f + 0) []) <;> cases isW tp i (wdv.getD (f + 1) []) <;> cases isW tp i (wdv.getD (f + 2) []) <;> cases isW tp i (wdv.getD (f + 3) []) <;> rfl
theorem w_factOf (ok : okTp tp) (hA : CA m tp n) : pM X m_Mo_factOf [.ref 1] (hp m) = some (some (.int (fcV (whr tp (ps tp n) 16 4))), hp m) := by
  have W : ∀ k, k < 21 → pM X m_Tp_isWord [.ref 1, .ref (pv_scr + 1 + k)] (hp m) = some (some (.int (bI (isW tp (ps tp n) (tx k)))), hp m) := fun k hk => w_isWord hk hA.1 ok (ps_le n) hA.2
  rw [e_Mo_factOf, u_Mo_factOf_0, whr4]
  simp only [tIs, tVs, bs, if_true, true_or, or_true, i10, if_false, not_false_eq_true, not_true_eq_false, Tp_rc, W 17 (by decide), W 18 (by decide), W 19 (by decide), W 20 (by decide), u_Mo_factOf_51]
  rw [show wdv.getD (16 + 0) [] = tx 17 from rfl, show wdv.getD (16 + 1) [] = tx 18 from rfl, show wdv.getD (16 + 2) [] = tx 19 from rfl, show wdv.getD (16 + 3) [] = tx 20 from rfl]
  generalize isW tp (ps tp n) (tx 17) = b1
  generalize isW tp (ps tp n) (tx 18) = b2
  generalize isW tp (ps tp n) (tx 19) = b3
  generalize isW tp (ps tp n) (tx 20) = b4
  cases b1 <;> cases b2 <;> cases b3 <;> cases b4 <;> rfl
/-- a PART may begin so -/
def vld (tp : aT) (i : Nat) : Bool := isW tp i (tx 10) || (isG tp i 40 || ((whr tp i 16 4).isSome || decide (tkS tp i = 2)))
theorem fcV_n {o : Option Nat} (h : ∀ j, o = some j → j < 4) : (fcV o = -13) ↔ o = none := by
  cases o with
  | none => exact ⟨fun _ => rfl, fun _ => rfl⟩
  | some j =>
    have hj := h j rfl
    have key : ∀ q, q < 4 → fcV (some q) ≠ -13 := by decide
    exact ⟨fun z => absurd z (key j hj), fun z => by cases z⟩
theorem enc_neg {o : Option Nat} (h : ∀ j, o = some j → j < 1000) : (0 ≤ enc o) ↔ o.isSome = true := by
  cases o with
  | none => exact ⟨fun z => absurd z (by decide), fun z => by cases z⟩
  | some j => exact ⟨fun _ => rfl, fun _ => nI_pos' (by have := h j rfl; omega)⟩
theorem w_part0 {r : Nat} (ok : okTp tp) (gc : 14 < r) (hA : CA m tp n) : f_Mo_readPart_0 X r M 1 (nI d) (hp m) = if vld tp (ps tp n) = true then f_Mo_readPart_50 X r M 1 (nI d) (bI (isW tp (ps tp n) (tx 10))) (bI (isG tp (ps tp n) 40)) (fcV (whr tp (ps tp n) 16 4)) (hp m) else some (some (.int 0), hp (sI m 1 4 (nI (fl tp (ps tp n) 1)))) := by
  rw [u_Mo_readPart_0]
  simp only [tIs, tVs, bs, if_true, true_or, or_true, i10, if_false, not_false_eq_true, not_true_eq_false, Tp_rc, gt_isWord gc, gt_isSign gc, gt_fact gc, gt_isNum gc, gt_ref gc, w_isWord (X := X) (k := 10) (by decide) hA.1 ok (ps_le n) hA.2, w_isSign (X := X) (c := 40) (vc := 40) rfl (by decide) hA.1 ok (ps_le n) hA.2, w_factOf (X := X) ok hA, w_isNumber (X := X) hA.2, w_refuse (X := X) (v := 1) (vv := 1) rfl hA.2, fcV_n (o := whr tp (ps tp n) 16 4) (fun j hj => (whr_some hj).1), eq_self]
  unfold vld
  generalize isW tp (ps tp n) (tx 10) = b1
  generalize isG tp (ps tp n) 40 = b2
  generalize decide (tkS tp (ps tp n) = 2) = b4
  cases whr tp (ps tp n) 16 4 <;> cases b1 <;> cases b2 <;> cases b4 <;> rfl
theorem m_part0 {r : Nat} (ok : okTp tp) (gr : 2 < r) (hA : MAt m tp N n) : f_Md_takePart_0 X r 175 (nI d) (hp m) = if vld tp (ps tp n) = true then f_Md_takePart_69 X r 175 (nI d) (bI (decide (tkS tp (ps tp n) = 2))) (enc (whr tp (ps tp n) 16 4)) (hp m) else f_Md_takePart_79 X r 175 (nI d) (bI (decide (tkS tp (ps tp n) = 2))) (enc (whr tp (ps tp n) 16 4)) (hp (sI m 175 8 (nI (fl tp (ps tp n) 1)))) := by
  obtain ⟨r1, -⟩ := hA.row
  have hN := hA.NN
  have hn := hA.2.2.2.1
  have h4 := tkS_le (tp := tp) (i := ps tp n)
  have k5 : (nI (tkS tp (ps tp n)) = 2) ↔ tkS tp (ps tp n) = 2 := nI_eq (b := 2) (by omega) (by decide)
  rw [u_Md_takePart_0, Md_f8, hA.2.2.2.2]
  simp only [tIs, tVs, bs, if_true, true_or, or_true, i10, if_false, not_false_eq_true, not_true_eq_false, Md_rc, Md_f1, Md_f4, Md_f5, Md_f6, Md_f9, Md_f10, Md_f11, Md_f12, Md_f14, Md_f15, Md_f18, Md_f19, Md_f20, Md_f21, Md_f23, Md_f24, Md_f25, Md_f26, Md_f28, le00, Md_f7, hA.2.2.1]
  rw [ld_177 (by omega), r1]
  simp only [tIs, tVs, bs, if_true, true_or, or_true, i10, if_false, not_false_eq_true, not_true_eq_false, Md_rc, Md_f1, Md_f4, Md_f5, Md_f6, Md_f9, Md_f10, Md_f11, Md_f12, Md_f14, Md_f15, Md_f18, Md_f19, Md_f20, Md_f21, Md_f23, Md_f24, Md_f25, Md_f26, Md_f28, k5]
  have e : (if ¬ tkS tp (ps tp n) = 2 then f_Md_takePart_26 X r 175 (nI d) 0 (hp m) else f_Md_takePart_26 X r 175 (nI d) 1 (hp m)) = f_Md_takePart_26 X r 175 (nI d) (bI (decide (tkS tp (ps tp n) = 2))) (hp m) := by
    by_cases hs : tkS tp (ps tp n) = 2
    · rw [if_neg (fun z => z hs), decide_eq_true hs]; rfl
    · rw [if_pos hs, decide_eq_false hs]; rfl
  rw [e, u_Md_takePart_26]
  simp only [tIs, tVs, bs, if_true, true_or, or_true, i10, if_false, not_false_eq_true, not_true_eq_false, Md_rc, Md_f1, Md_f4, Md_f5, Md_f6, Md_f9, Md_f10, Md_f11, Md_f12, Md_f14, Md_f15, Md_f18, Md_f19, Md_f20, Md_f21, Md_f23, Md_f24, Md_f25, Md_f26, Md_f28, gm_wordHere gr, gm_isSign gr, gm_isWord gr, gm_wrong gr, m_wordHere (X := X) (f := 16) (c := 4) (vf := 16) (vc := 4) rfl rfl (by decide) hA, m_isSign (X := X) (c := 40) (vc := 40) rfl (by decide) ok hA, m_isW (X := X) (k := 13) (j := 10) (vk := 13) rfl (by decide) rfl hA, m_wrong (X := X) (v := 1) (vv := 1) rfl hA, enc_neg (o := whr tp (ps tp n) 16 4) (fun j hj => by have := (whr_some hj).1; omega)]
  unfold vld
  generalize isW tp (ps tp n) (tx 10) = b1
  generalize isG tp (ps tp n) 40 = b2
  generalize decide (tkS tp (ps tp n) = 2) = b4
  cases whr tp (ps tp n) 16 4 <;> cases b1 <;> cases b2 <;> cases b4 <;> rfl
theorem tx_ne {i a b : Nat} (hab : tx a ≠ tx b) (h : isW tp i (tx a) = true) : isW tp i (tx b) = false := by
  cases hb : isW tp i (tx b) with
  | false => rfl
  | true => exact absurd ((isW_s h).2.symm.trans (isW_s hb).2) hab
theorem isW_ns {i : Nat} {t : List Nat} (h : tkS tp i ≠ 1) : isW tp i t = false := by unfold isW; rw [decide_eq_false h, Bool.false_and]
theorem isG_ns {i c : Nat} (h : tkS tp i ≠ 3) : isG tp i c = false := by unfold isG; rw [decide_eq_false h, Bool.false_and]
theorem whr_ns {i f c : Nat} (h : tkS tp i ≠ 1) : whr tp i f c = none := by
  cases hw : whr tp i f c with
  | none => rfl
  | some j => have h1 := (whr_some hw).2; rw [isW_ns h] at h1; cases h1
theorem dp_leaf {x : aJ3} {b p : Nat} (h : ¬ x.1 < -4) (hb : b + (1 + p) ≤ 32) : dpL [x] b = some (b + 1) := by
  simp only [dpL]
  have e : dp1 b x.1 = some (b + 1) := by unfold dp1; rw [if_neg h, if_pos (by omega)]
  rw [e]
  simp only [bs]
theorem FB.no {n1 e1 : Nat} {L1 : List aJ3} (h1 : FB N (n + 1) n1 e1 L1) : FB N n n1 e1 (L1 ++ [(-5, 3, 0)]) := by
  obtain ⟨a1, a2, a3, a4, a5⟩ := h1
  refine ⟨by omega, a2, by rw [List.length_append, List.length_singleton]; omega, a4, fun x hx => ?_⟩
  rcases List.mem_append.mp hx with hx | hx
  · exact a5 x hx
  · rw [List.mem_singleton.mp hx]; exact Or.inr (Or.inr (Or.inl ⟨rfl, rfl⟩))
/-- one token that is a PART of its own -/
theorem part_leaf {x : aJ3} (T : TK tp N) (hM : isMo M) (h3 : 3 ≤ M) (hd : d < 5) (hn : n < N) (hx : mr x.1 x.2.1 x.2.2) (h4 : ¬ x.1 < -4) (hc : ∀ m m1, CA m tp n → pM X m_Tp_advance [.ref 1] (hp m) = some (none, hp m1) → pM X m_Mo_readPart [.ref M, .ref 1, .int (nI d)] (hp m) = (pv_tV (pM X m_Mo_put [.ref M, .int x.1] (hp m1))).bind (fun h1 => some (some (.int 1), h1))) (hr : ∀ m, MAt m tp N n → pM X m_Md_takePart [.ref 175, .int (nI d)] (hp m) = (pv_tV (pM X m_Md_emit [.ref 175, .int x.2.1, .int x.2.2] (hp m))).bind (fun h1 => (pv_fI h1 175 11 7).bind (fun x2 => (pv_fp h1 175 11 7 (.int (x2 + 1))).bind (fun h3 => some (none, h3))))) : PO tp N M (1 + 4 * (5 - d)) n (fun h => pM X m_Mo_readPart [.ref M, .ref 1, .int (nI d)] h) (fun h => pM X m_Md_takePart [.ref 175, .int (nI d)] h) := by
  have h1000 := T.2.1
  refine ⟨n + 1, 0, [x], ⟨⟨by omega, hn, by rw [List.length_singleton]; exact Nat.le_refl _, by decide, fun y hy => by rw [List.mem_singleton.mp hy]; exact hx⟩, fun _ => ⟨by omega, fun b hb => dp_leaf h4 hb⟩⟩, fun m k hA hf hk hkn => ?_, fun m k hA hk hkn => ?_⟩
  · obtain ⟨m1, a1, b1, b2, b3, b4⟩ := c_adv (X := X) T.1 h3 hA hf hk
    have a3 := w_put (X := X) (v := x.1) hM b3 (by omega)
    have d3 : CR tp M m1 k _ (n + 1) 0 [x] := CR.put (v := x.1) rfl h3 b1 b2 b3
    refine ⟨_, ?_, b4 _ _ _ _ d3⟩
    dsimp only
    rw [hc m m1 hA a1, a3]
    simp only [tIs, tVs, bs, if_true, true_or, or_true, i10, if_false, not_false_eq_true, not_true_eq_false, rb_0]
  · have a3 := m_emit (X := X) (o := x.2.1) (a := x.2.2) hk (by omega)
    have d3 : RR m k _ n 0 [x] := RR.put (o := x.2.1) (a := x.2.2) rfl rfl hA.2.2.1 hA.2.2.2.2
    refine ⟨sI (em m k x.2.1 x.2.2) 175 7 (nI (n + 1)), ?_, ?_⟩
    · dsimp only
      rw [hr m hA, a3]
      simp only [tIs, tVs, bs, if_true, true_or, or_true, i10, if_false, not_false_eq_true, not_true_eq_false, Md_rc, Md_f1, Md_f4, Md_f5, Md_f6, Md_f9, Md_f10, Md_f11, Md_f12, Md_f14, Md_f15, Md_f18, Md_f19, Md_f20, Md_f21, Md_f23, Md_f24, Md_f25, Md_f26, Md_f28, Md_f7, d3.f7, nI_1, Md_p7]
    · obtain ⟨b1, b2, b3, b4, b5, b6, b7, b8⟩ := d3
      exact ⟨b1.tr (Same.sI (by decide)), fun j h7 h8 h13 => by rw [gI_sI_ne (Or.inr h7)]; exact b2 j h7 h8 h13, gI_sI_eq, by rw [gI_sI_ne (Or.inr (by decide))]; exact b4, by rw [gI_sI_ne (Or.inr (by decide))]; exact b5, fun j hj => by rw [gA_sI, gA_sI]; exact b6 j hj, by rw [gA_sI]; exact b7, by rw [gA_sI]; exact b8⟩
theorem part_bad (T : TK tp N) (h3 : 3 ≤ M) (hd : d ≤ 5) (hn : n ≤ N) (hv : vld tp (ps tp n) = false) : PO tp N M (1 + 4 * (5 - d)) n (fun h => pM X m_Mo_readPart [.ref M, .ref 1, .int (nI d)] h) (fun h => pM X m_Md_takePart [.ref 175, .int (nI d)] h) := by
  have k1 := rk_part (a := M) (b := 1) (d := d) (by omega)
  have k3 := rm_part (a := 175) (d := d) (by omega)
  obtain ⟨f1, f2⟩ := fl_lt (n := n) (v := 1) T (by decide) (by decide)
  refine ⟨n, fl tp (ps tp n) 1, [], ⟨⟨Nat.le_refl _, hn, Nat.le_refl _, f1, fun x hx => by cases hx⟩, fun h0 => absurd h0 f2⟩, fun m k hA h4 hk hkn => ⟨_, ?_, CR.ref h3 hA hk⟩, fun m k hA hk hkn => ⟨_, ?_, RR.ref hA.2.2.1 hk⟩⟩
  · dsimp only
    rw [e_Mo_readPart, w_part0 T.1 (by omega) hA, if_neg (by rw [hv]; decide), rb_n f2]
  · dsimp only
    rw [e_Md_takePart, m_part0 T.1 (by omega) hA, if_neg (by rw [hv]; decide), u_Md_takePart_79, Md_f8, gI_sI_eq]
    simp only [bs]
    rw [if_neg (nI_nle (by omega) (by omega))]
theorem part_5 (T : TK tp N) (h3 : 3 ≤ M) : PartAt X tp N M 5 := by
  intro n hn
  cases hv : vld tp (ps tp n) with
  | false => exact part_bad T h3 (by decide) hn hv
  | true =>
    have k1 := rk_part (a := M) (b := 1) (d := 5) (by decide)
    have k3 := rm_part (a := 175) (d := 5) (by decide)
    obtain ⟨f1, f2⟩ := fl_lt (n := n) (v := 5) T (by decide) (by decide)
    refine ⟨n, fl tp (ps tp n) 5, [], ⟨⟨Nat.le_refl _, hn, Nat.le_refl _, f1, fun x hx => by cases hx⟩, fun h0 => absurd h0 f2⟩, fun m k hA h4 hk hkn => ⟨_, ?_, CR.ref h3 hA hk⟩, fun m k hA hk hkn => ⟨_, ?_, RR.ref hA.2.2.1 hk⟩⟩
    · dsimp only
      rw [e_Mo_readPart, w_part0 T.1 (by omega) hA, if_pos hv, u_Mo_readPart_50, if_neg (show ¬ nI 5 < 5 by decide), rb_n f2]
      simp only [tIs, tVs, bs, if_true, true_or, or_true, i10, if_false, not_false_eq_true, not_true_eq_false, gt_ref (show 14 < m_Mo_readPart.2.2.2.2.2 [.ref M, .ref 1, .int (nI 5)] by omega), Tp_rc, w_refuse (X := X) (v := 5) (vv := 5) rfl hA.2, eq_self]
    · dsimp only
      rw [e_Md_takePart, m_part0 T.1 (by omega) hA, if_pos hv, u_Md_takePart_69, if_neg (show ¬ ¬ nI 5 = 5 by decide)]
      simp only [tIs, tVs, bs, if_true, true_or, or_true, i10, if_false, not_false_eq_true, not_true_eq_false, Md_rc, Md_f1, Md_f4, Md_f5, Md_f6, Md_f9, Md_f10, Md_f11, Md_f12, Md_f14, Md_f15, Md_f18, Md_f19, Md_f20, Md_f21, Md_f23, Md_f24, Md_f25, Md_f26, Md_f28, gm_wrong (show 2 < m_Md_takePart.2.2.2.2.2 [.ref 175, .int (nI 5)] by omega), m_wrong (X := X) (v := 5) (vv := 5) rfl hA]
      rw [u_Md_takePart_79, Md_f8, gI_sI_eq]
      simp only [bs]
      rw [if_neg (nI_nle (by omega) (by omega))]
theorem part_s (T : TK tp N) (hM : isMo M) (h3 : 3 ≤ M) (hd : d < 5) (hP : PartAt X tp N M (d + 1)) (hE : TestsAt X tp N M (d + 1)) : PartAt X tp N M d := by
  have ok := T.1
  have h1000 := T.2.1
  intro n hn
  cases hv : vld tp (ps tp n) with
  | false => exact part_bad T h3 (by omega) hn hv
  | true =>
    have k1 := rk_part (a := M) (b := 1) (d := d) (by omega)
    have k1' := rk_part (a := M) (b := 1) (d := d + 1) (by omega)
    have k2 := rk_tests (a := M) (b := 1) (d := d + 1) (by omega)
    have k3 := rm_part (a := 175) (d := d) (by omega)
    have k3' := rm_part (a := 175) (d := d + 1) (by omega)
    have k4 := rm_tests (a := 175) (d := d + 1) (by omega)
    have gp : m_Mo_readPart.2.2.2.2.2 [.ref M, .ref 1, .int (nI (d + 1))] < m_Mo_readPart.2.2.2.2.2 [.ref M, .ref 1, .int (nI d)] := by omega
    have ge : m_Mo_readTests.2.2.2.2.2 [.ref M, .ref 1, .int (nI (d + 1))] < m_Mo_readPart.2.2.2.2.2 [.ref M, .ref 1, .int (nI d)] := by omega
    have gq : m_Md_takePart.2.2.2.2.2 [.ref 175, .int (nI (d + 1))] < m_Md_takePart.2.2.2.2.2 [.ref 175, .int (nI d)] := by omega
    have gf : m_Md_whole.2.2.2.2.2 [.ref 175, .int (nI (d + 1))] < m_Md_takePart.2.2.2.2.2 [.ref 175, .int (nI d)] := by omega
    have gc : 14 < m_Mo_readPart.2.2.2.2.2 [.ref M, .ref 1, .int (nI d)] := by omega
    have gr : 2 < m_Md_takePart.2.2.2.2.2 [.ref 175, .int (nI d)] := by omega
    have d5 : nI d < 5 := nI_lt (b := 5) hd (by decide)
    have d5' : ¬ nI d = 5 := fun z => by have := (nI_eq (b := 5) (by omega) (by decide)).mp z; omega
    cases hw : isW tp (ps tp n) (tx 10) with
    | true =>
      have hs := (isW_s hw).1
      have hG : isG tp (ps tp n) 40 = false := isG_ns (by rw [hs]; decide)
      have hnN : n < N := T.lt hn (by rw [hs]; decide)
      obtain ⟨n1, e1, L1, f1, c1, r1⟩ := hP (n + 1) hnN
      have f1b := f1.1
      have l1 := f1b.2.2.1
      have l2 := f1b.2.1
      refine ⟨n1, e1, L1 ++ [(-5, 3, 0)], ⟨f1b.no, fun h0 => ⟨by have := f1b.1; omega, fun b hb => ?_⟩⟩, fun m k hA h4 hk hkn => ?_, fun m k hA hk hkn => ?_⟩
      · rw [dpL_app, (f1.2 h0).2 b (by omega)]
        simp only [bs, dpL]
        have e : dp1 (b + 1) (-5) = some (b + 1) := by unfold dp1; rw [if_pos (by decide), if_pos rfl, if_pos (by omega)]
        rw [e]
        simp only [bs]
      · obtain ⟨m1, a1, b1, b2, b3, b4⟩ := c_adv (X := X) ok h3 hA h4 hk
        obtain ⟨m2, a2, d2⟩ := c1 m1 k b1 b2 b3 (by omega)
        have a3 := w_put (X := X) (v := -5) hM d2.sz (by omega)
        have d3 : CR tp M m2 (k + L1.length) _ n1 e1 [(-5, 3, 0)] := CR.put (v := -5) rfl h3 d2.ca d2.f4 d2.sz
        refine ⟨_, ?_, (b4 _ _ _ _ d2).tr d3⟩
        dsimp only at a2 ⊢
        rw [e_Mo_readPart, w_part0 ok gc hA, if_pos hv, u_Mo_readPart_50, if_pos d5]
        simp only [tIs, tVs, bs, if_true, true_or, or_true, i10, if_false, not_false_eq_true, not_true_eq_false, Tp_f3, gt_adv gc, Tp_rc, a1, hw, bI_t, nI_1, gp, Mo_rc hM, a2, gt_put gc, a3]
        unfold rb
        by_cases h0 : e1 = 0
        · simp only [h0, if_true, eq_self, or_true]
        · simp only [h0, if_false, if_true, eq_self, true_or]
      · obtain ⟨b1, b2, b3⟩ := r_nx hA hnN hk
        obtain ⟨m2, a2, d2⟩ := r1 _ k b1 b2 (by omega)
        have a3 := m_emit (X := X) (o := 3) (a := 0) d2.sz (by omega)
        have d3 : RR m2 (k + L1.length) _ n1 e1 [(-5, 3, 0)] := RR.put (o := 3) (a := 0) rfl rfl d2.f7 d2.f8
        refine ⟨_, ?_, (b3 _ _ _ _ d2).tr d3⟩
        dsimp only at a2 ⊢
        rw [e_Md_takePart, m_part0 ok gr hA, if_pos hv, u_Md_takePart_69, if_pos d5', u_Md_takePart_79, Md_f8, hA.2.2.2.2]
        simp only [tIs, tVs, bs, if_true, true_or, or_true, i10, if_false, not_false_eq_true, not_true_eq_false, Md_rc, Md_f1, Md_f4, Md_f5, Md_f6, Md_f9, Md_f10, Md_f11, Md_f12, Md_f14, Md_f15, Md_f18, Md_f19, Md_f20, Md_f21, Md_f23, Md_f24, Md_f25, Md_f26, Md_f28, le00, gm_hasWord gr, m_hasWord1 (X := X) (c := 13) (vc := 13) rfl (by decide) hA hw, nI_1, gq, a2, gm_emit gr, a3, u_Md_takePart_178]
    | false =>
      cases hG : isG tp (ps tp n) 40 with
      | true =>
        have hs := isG_s hG
        have hnN : n < N := T.lt hn (by rw [hs]; decide)
        obtain ⟨n1, e1, L1, f1, c1, r1⟩ := hE (n + 1) hnN
        have f1b := f1.1
        have l1 := f1b.2.2.1
        have l2 := f1b.2.1
        have l4 := f1b.2.2.2.1
        have cstep : ∀ m k, CA m tp n → gI m 1 4 = 0 → gI m M 2 = nI k → k ≤ n → ∃ m2, pM X m_Mo_readPart [.ref M, .ref 1, .int (nI d)] (hp m) = (if rb e1 = 0 then some (some (.int 0), hp m2) else (pv_tI (pM X m_Tp_takeSign [.ref 1, .int 41] (hp m2))).bind (fun q4 => if q4.1 = 0 then some (some (.int 0), q4.2) else some (some (.int 1), q4.2))) ∧ CR tp M m k m2 n1 e1 L1 := by
          intro m k hA h4 hk hkn
          obtain ⟨m1, a1, b1, b2, b3, b4⟩ := c_adv (X := X) ok h3 hA h4 hk
          obtain ⟨m2, a2, d2⟩ := c1 m1 k b1 b2 b3 (by omega)
          refine ⟨m2, ?_, b4 _ _ _ _ d2⟩
          dsimp only at a2
          rw [e_Mo_readPart, w_part0 ok gc hA, if_pos hv, u_Mo_readPart_50, if_pos d5]
          simp only [tIs, tVs, bs, if_true, true_or, or_true, i10, if_false, not_false_eq_true, not_true_eq_false, Tp_f3, gt_adv gc, Tp_rc, a1, hw, hG, bI_t, bI_f, eq_self, nI_1, ge, Mo_rc hM, a2, gt_take gc, u_Mo_readPart_123, u_Mo_readPart_124]
        have rstep : ∀ m k, MAt m tp N n → gI m 175 13 = nI k → k ≤ n → ∃ m2, pM X m_Md_takePart [.ref 175, .int (nI d)] (hp m) = (pv_tV (pM X m_Md_takeSign [.ref 175, .int 41] (hp m2))).bind (fun h5 => some (none, h5)) ∧ RR m k m2 n1 e1 L1 ∧ (e1 = 0 → MAt m2 tp N n1) := by
          intro m k hA hk hkn
          obtain ⟨b1, b2, b3⟩ := r_nx hA hnN hk
          obtain ⟨m2, a2, d2⟩ := r1 _ k b1 b2 (by omega)
          refine ⟨m2, ?_, b3 _ _ _ _ d2, fun h0 => by subst h0; exact d2.mat b1 l2⟩
          dsimp only at a2
          rw [e_Md_takePart, m_part0 ok gr hA, if_pos hv, u_Md_takePart_69, if_pos d5', u_Md_takePart_79, Md_f8, hA.2.2.2.2]
          simp only [tIs, tVs, bs, if_true, true_or, or_true, i10, if_false, not_false_eq_true, not_true_eq_false, Md_rc, Md_f1, Md_f4, Md_f5, Md_f6, Md_f9, Md_f10, Md_f11, Md_f12, Md_f14, Md_f15, Md_f18, Md_f19, Md_f20, Md_f21, Md_f23, Md_f24, Md_f25, Md_f26, Md_f28, le00, gm_hasWord gr, m_hasWord0 (X := X) (c := 13) (vc := 13) rfl (by decide) hA hw, eq_self, gm_hasSign gr, m_hasSign1 (X := X) (c := 40) (vc := 40) rfl (by decide) ok hA hG, nI_1, gf, a2, gm_takeSign gr, u_Md_takePart_178]
        by_cases he : e1 = 0
        · subst he
          cases hC : isG tp (ps tp n1) 41 with
          | true =>
            have h1N : n1 < N := T.lt l2 (by rw [isG_s hC]; decide)
            refine ⟨n1 + 1, 0, L1, ⟨⟨by have := f1b.1; omega, h1N, by omega, by decide, f1b.2.2.2.2⟩, fun h0 => ⟨by have := f1b.1; omega, fun b hb => (f1.2 rfl).2 b (by omega)⟩⟩, fun m k hA h4 hk hkn => ?_, fun m k hA hk hkn => ?_⟩
            · obtain ⟨m2, a2, d2⟩ := cstep m k hA h4 hk hkn
              obtain ⟨m3, a3, b1, b2, b3, b4⟩ := c_adv (X := X) ok h3 d2.ca d2.f4 d2.sz
              refine ⟨m3, ?_, ?_⟩
              · dsimp only
                rw [a2, rb_0, if_neg (show ¬ (1 : Int32) = 0 by decide), w_takeSign1 (X := X) (c := 41) (vc := 41) rfl (by decide) ok d2.ca hC a3]
                simp only [tIs, tVs, bs, if_true, true_or, or_true, i10, if_false, not_false_eq_true, not_true_eq_false]
              · have d3 := d2.tr (b4 _ _ _ _ (CR.rf (e := 0) b1 b2 b3))
                rw [List.append_nil] at d3
                exact d3
            · obtain ⟨m2, a2, d2, A2⟩ := rstep m k hA hk hkn
              obtain ⟨b1, b2, b3⟩ := r_nx (A2 rfl) h1N d2.sz
              refine ⟨sI m2 175 7 (nI (n1 + 1)), ?_, ?_⟩
              · dsimp only
                rw [a2, m_takeSign1 (X := X) (c := 41) (vc := 41) rfl (by decide) ok (A2 rfl) hC]
                simp only [tIs, tVs, bs, if_true, true_or, or_true, i10, if_false, not_false_eq_true, not_true_eq_false, Md_rc, Md_f1, Md_f4, Md_f5, Md_f6, Md_f9, Md_f10, Md_f11, Md_f12, Md_f14, Md_f15, Md_f18, Md_f19, Md_f20, Md_f21, Md_f23, Md_f24, Md_f25, Md_f26, Md_f28]
              · have d3 := d2.tr (b3 _ _ _ _ (RR.rf (e := 0) b1.2.2.1 b1.2.2.2.2 b2))
                rw [List.append_nil] at d3
                exact d3
          | false =>
            obtain ⟨g1, g2⟩ := fl_lt (n := n1) (v := 1) T (by decide) (by decide)
            refine ⟨n1, fl tp (ps tp n1) 1, L1, ⟨⟨by have := f1b.1; omega, l2, by omega, g1, f1b.2.2.2.2⟩, fun h0 => absurd h0 g2⟩, fun m k hA h4 hk hkn => ?_, fun m k hA hk hkn => ?_⟩
            · obtain ⟨m2, a2, d2⟩ := cstep m k hA h4 hk hkn
              refine ⟨sI m2 1 4 (nI (fl tp (ps tp n1) 1)), ?_, ?_⟩
              · dsimp only
                rw [a2, rb_0, if_neg (show ¬ (1 : Int32) = 0 by decide), w_takeSign0 (X := X) (c := 41) (vc := 41) rfl (by decide) ok d2.ca hC, rb_n g2]
                simp only [tIs, tVs, bs, if_true, true_or, or_true, i10, if_false, not_false_eq_true, not_true_eq_false, eq_self]
              · have d3 := d2.tr (CR.ref (e := fl tp (ps tp n1) 1) h3 d2.ca d2.sz)
                rw [List.append_nil] at d3
                exact d3
            · obtain ⟨m2, a2, d2, A2⟩ := rstep m k hA hk hkn
              refine ⟨sI m2 175 8 (nI (fl tp (ps tp n1) 1)), ?_, ?_⟩
              · dsimp only
                rw [a2, m_takeSign0 (X := X) (c := 41) (vc := 41) rfl (by decide) ok (A2 rfl) hC]
                simp only [tIs, tVs, bs, if_true, true_or, or_true, i10, if_false, not_false_eq_true, not_true_eq_false, Md_rc, Md_f1, Md_f4, Md_f5, Md_f6, Md_f9, Md_f10, Md_f11, Md_f12, Md_f14, Md_f15, Md_f18, Md_f19, Md_f20, Md_f21, Md_f23, Md_f24, Md_f25, Md_f26, Md_f28]
              · have d3 := d2.tr (RR.ref (e := fl tp (ps tp n1) 1) (A2 rfl).2.2.1 d2.sz)
                rw [List.append_nil] at d3
                exact d3
        · refine ⟨n1, e1, L1, ⟨⟨by have := f1b.1; omega, l2, by omega, l4, f1b.2.2.2.2⟩, fun h0 => absurd h0 he⟩, fun m k hA h4 hk hkn => ?_, fun m k hA hk hkn => ?_⟩
          · obtain ⟨m2, a2, d2⟩ := cstep m k hA h4 hk hkn
            refine ⟨m2, ?_, d2⟩
            dsimp only
            rw [a2, rb_n he, if_pos rfl]
          · obtain ⟨m2, a2, d2, -⟩ := rstep m k hA hk hkn
            refine ⟨m2, ?_, d2⟩
            dsimp only
            rw [a2, x_takeSign (X := X) (v := 41) d2.f8 (by omega) (by omega)]
            simp only [tIs, tVs, bs, if_true, true_or, or_true, i10, if_false, not_false_eq_true, not_true_eq_false, Md_rc, Md_f1, Md_f4, Md_f5, Md_f6, Md_f9, Md_f10, Md_f11, Md_f12, Md_f14, Md_f15, Md_f18, Md_f19, Md_f20, Md_f21, Md_f23, Md_f24, Md_f25, Md_f26, Md_f28]
      | false =>
        have cbase : ∀ m m1, CA m tp n → pM X m_Tp_advance [.ref 1] (hp m) = some (none, hp m1) → pM X m_Mo_readPart [.ref M, .ref 1, .int (nI d)] (hp m) = if ¬ fcV (whr tp (ps tp n) 16 4) = (-13) then (pv_tV (pM X m_Mo_put [.ref M, .int (fcV (whr tp (ps tp n) 16 4))] (hp m1))).bind (fun h1 => some (some (.int 1), h1)) else (pv_tV (pM X m_Mo_put [.ref M, .int (gI m 1 3)] (hp m1))).bind (fun h1 => some (some (.int 1), h1)) := by
          intro m m1 hA a1
          rw [e_Mo_readPart, w_part0 ok gc hA, if_pos hv, u_Mo_readPart_50, if_pos d5]
          simp only [tIs, tVs, bs, if_true, true_or, or_true, i10, if_false, not_false_eq_true, not_true_eq_false, Tp_f3, gt_adv gc, Tp_rc, a1, hw, hG, bI_f, eq_self, gt_put gc, Mo_rc hM, u_Mo_readPart_140]
        have rbase : ∀ m, MAt m tp N n → pM X m_Md_takePart [.ref 175, .int (nI d)] (hp m) = if bI (decide (tkS tp (ps tp n) = 2)) = 0 then f_Md_takePart_147 X (m_Md_takePart.2.2.2.2.2 [.ref 175, .int (nI d)]) 175 (nI d) (bI (decide (tkS tp (ps tp n) = 2))) (enc (whr tp (ps tp n) 16 4)) 2 175 (hp m) else f_Md_takePart_147 X (m_Md_takePart.2.2.2.2.2 [.ref 175, .int (nI d)]) 175 (nI d) (bI (decide (tkS tp (ps tp n) = 2))) (enc (whr tp (ps tp n) 16 4)) 1 175 (hp m) := by
          intro m hA
          rw [e_Md_takePart, m_part0 ok gr hA, if_pos hv, u_Md_takePart_69, if_pos d5', u_Md_takePart_79, Md_f8, hA.2.2.2.2]
          simp only [tIs, tVs, bs, if_true, true_or, or_true, i10, if_false, not_false_eq_true, not_true_eq_false, Md_rc, Md_f1, Md_f4, Md_f5, Md_f6, Md_f9, Md_f10, Md_f11, Md_f12, Md_f14, Md_f15, Md_f18, Md_f19, Md_f20, Md_f21, Md_f23, Md_f24, Md_f25, Md_f26, Md_f28, le00, gm_hasWord gr, m_hasWord0 (X := X) (c := 13) (vc := 13) rfl (by decide) hA hw, eq_self, gm_hasSign gr, m_hasSign0 (X := X) (c := 40) (vc := 40) rfl (by decide) ok hA hG]
        cases hq : whr tp (ps tp n) 16 4 with
        | some j =>
          obtain ⟨hj, hwj⟩ := whr_some hq
          have hs := (isW_s hwj).1
          have hnN : n < N := T.lt hn (by rw [hs]; decide)
          have n2 : ¬ tkS tp (ps tp n) = 2 := by rw [hs]; decide
          refine part_leaf (x := (-1 - nI j, 2, nI j)) T hM h3 hd hnN (Or.inr (Or.inl ⟨rfl, j, hj, rfl, rfl⟩)) (evF_ftn (f := (0, 0, 0, 0)) hj).2.1 (fun m m1 hA a1 => ?_) (fun m hA => ?_)
          · rw [cbase m m1 hA a1, hq, if_pos (fun z => by have := (fcV_n (o := some j) (fun y hy => by cases hy; exact hj)).mp z; cases this)]
            rfl
          · rw [rbase m hA, hq, decide_eq_false n2, if_pos (show bI false = 0 from rfl), u_Md_takePart_147, if_pos (show bI false = 0 from rfl), u_Md_takePart_165]
            simp only [tIs, tVs, bs, if_true, true_or, or_true, i10, if_false, not_false_eq_true, not_true_eq_false, Md_rc, Md_f1, Md_f4, Md_f5, Md_f6, Md_f9, Md_f10, Md_f11, Md_f12, Md_f14, Md_f15, Md_f18, Md_f19, Md_f20, Md_f21, Md_f23, Md_f24, Md_f25, Md_f26, Md_f28, gm_emit gr, u_Md_takePart_178]
            rfl
        | none =>
          have hs : tkS tp (ps tp n) = 2 := by
            unfold vld at hv
            rw [hw, hG, hq] at hv
            simpa using hv
          have hnN : n < N := T.lt hn (by rw [hs]; decide)
          obtain ⟨v1, -, -⟩ := tkNum (ps_le (tp := tp) n) hs
          refine part_leaf (x := (nI (nuV (tkX tp (ps tp n))), 1, nI (nuV (tkX tp (ps tp n))))) T hM h3 hd hnN (Or.inl ⟨rfl, nI_pos' (by omega), rfl⟩) (fun z => nI_pos (n := nuV (tkX tp (ps tp n))) (by omega) (Int32.lt_trans z (by decide))) (fun m m1 hA a1 => ?_) (fun m hA => ?_)
          · rw [cbase m m1 hA a1, hq, if_neg (fun z => z rfl), hA.2.2.2.2.2 hs]
          · obtain ⟨r1, r2, r3, r4, -⟩ := hA.row
            have hN := hA.NN
            rw [rbase m hA, decide_eq_true hs, if_neg (show ¬ bI true = 0 by decide), u_Md_takePart_147, if_neg (show ¬ bI true = 0 by decide)]
            simp only [tIs, tVs, bs, if_true, true_or, or_true, i10, if_false, not_false_eq_true, not_true_eq_false, Md_rc, Md_f1, Md_f4, Md_f5, Md_f6, Md_f9, Md_f10, Md_f11, Md_f12, Md_f14, Md_f15, Md_f18, Md_f19, Md_f20, Md_f21, Md_f23, Md_f24, Md_f25, Md_f26, Md_f28, Md_f7, hA.2.2.1]
            rw [ld_179 (by omega), r4 hs]
            simp only [tIs, tVs, bs, if_true, true_or, or_true, i10, if_false, not_false_eq_true, not_true_eq_false, Md_rc, Md_f1, Md_f4, Md_f5, Md_f6, Md_f9, Md_f10, Md_f11, Md_f12, Md_f14, Md_f15, Md_f18, Md_f19, Md_f20, Md_f21, Md_f23, Md_f24, Md_f25, Md_f26, Md_f28, lN_i, u_Md_takePart_165, gm_emit gr, u_Md_takePart_178]
theorem expr_all (T : TK tp N) (hM : isMo M) (h3 : 3 ≤ M) : ∀ q d, d + q = 5 → PartAt X tp N M d ∧ TestsAt X tp N M d := by
  have up : ∀ d, d ≤ 5 → PartAt X tp N M d → TestsAt X tp N M d := fun d hd hP => tests_at T hM h3 hd (test_at T hM h3 hd (sum_at T hM h3 hd (prod_at T hM h3 hd hP)))
  intro q
  induction q with
  | zero =>
    intro d hd
    have e : d = 5 := by omega
    subst e
    exact ⟨part_5 T h3, up 5 (by decide) (part_5 T h3)⟩
  | succ q ih =>
    intro d hd
    obtain ⟨i1, i2⟩ := ih (d + 1) (by omega)
    have hp' := part_s T hM h3 (by omega) i1 i2
    exact ⟨hp', up d (by omega) hp'⟩
end PRT
