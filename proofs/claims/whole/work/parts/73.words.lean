/-! Names of PERSONS, NUMBERS: what class and reference find at a token. -/
/-- the first one from i on who is told so -/
def nmF (nm : aN) (t : List Nat) : Nat → Nat → Option Nat
  | 0, _ => none
  | q + 1, i => if nm i = t then some i else nmF nm t q (i + 1)
def nmO (z : Nat) (nm : aN) (t : List Nat) : Option Nat := nmF nm t z 0
theorem nmF_some {nm : aN} {t : List Nat} {j : Nat} : ∀ q i, nmF nm t q i = some j → i ≤ j ∧ j < i + q ∧ nm j = t
  | 0, i, h => by simp [nmF] at h
  | q + 1, i, h => by
    simp only [nmF] at h
    by_cases hi : nm i = t
    · rw [if_pos hi] at h
      cases h
      exact ⟨Nat.le_refl _, by omega, hi⟩
    · rw [if_neg hi] at h
      obtain ⟨h1, h2, h3⟩ := nmF_some q (i + 1) h
      exact ⟨by omega, by omega, h3⟩
theorem nmO_some {z j : Nat} {nm : aN} {t : List Nat} (h : nmO z nm t = some j) : j < z ∧ nm j = t := by
  obtain ⟨-, h2, h3⟩ := nmF_some z 0 h
  exact ⟨by omega, h3⟩
theorem nmO_F {z : Nat} {nm : aN} {t : List Nat} : nmO z nm t = nmF nm t z 0 := rfl
/-- who is at the n-th token: a fault, or one of them -/
def psn (tp : aT) (n z : Nat) (nm : aN) : Nat ⊕ Nat := if isN tp (ps tp n) = true then (match nmO z nm (tkX tp (ps tp n)) with
    | none => .inl (fl tp (ps tp n) 2)
    | some j => .inr j) else .inl (fl tp (ps tp n) 1)
def nmb (tp : aT) (n l u : Nat) : Nat ⊕ Nat := if tkS tp (ps tp n) = 2 then (if nuV (tkX tp (ps tp n)) < l ∨ u < nuV (tkX tp (ps tp n)) then .inl (fl tp (ps tp n) 4) else .inr (nuV (tkX tp (ps tp n)))) else .inl (fl tp (ps tp n) 1)
theorem psn_inl {tp : aT} {N n z e : Nat} {nm : aN} (T : TK tp N) (h : psn tp n z nm = .inl e) : 0 < e ∧ e < 20000 := by
  unfold psn at h
  have f1 := fl_lt (n := n) (v := 1) T (by decide) (by decide)
  have f2 := fl_lt (n := n) (v := 2) T (by decide) (by decide)
  by_cases hi : isN tp (ps tp n) = true
  · rw [if_pos hi] at h
    cases hq : nmO z nm (tkX tp (ps tp n)) with
    | none => rw [hq] at h; cases h; omega
    | some j => rw [hq] at h; cases h
  · rw [if_neg hi] at h; cases h; omega
theorem psn_inr {tp : aT} {n z j : Nat} {nm : aN} (h : psn tp n z nm = .inr j) : j < z ∧ tkS tp (ps tp n) = 1 := by
  unfold psn at h
  by_cases hi : isN tp (ps tp n) = true
  · rw [if_pos hi] at h
    cases hq : nmO z nm (tkX tp (ps tp n)) with
    | none => rw [hq] at h; cases h
    | some y =>
      rw [hq] at h; cases h
      refine ⟨(nmO_some hq).1, ?_⟩
      unfold isN at hi
      simp only [Bool.and_eq_true, decide_eq_true_eq] at hi
      exact hi.1
  · rw [if_neg hi] at h; cases h
theorem nmb_inl {tp : aT} {N n l u e : Nat} (T : TK tp N) (h : nmb tp n l u = .inl e) : 0 < e ∧ e < 20000 := by
  unfold nmb at h
  have f1 := fl_lt (n := n) (v := 1) T (by decide) (by decide)
  have f2 := fl_lt (n := n) (v := 4) T (by decide) (by decide)
  by_cases hi : tkS tp (ps tp n) = 2
  · rw [if_pos hi] at h
    by_cases hq : nuV (tkX tp (ps tp n)) < l ∨ u < nuV (tkX tp (ps tp n))
    · rw [if_pos hq] at h; cases h; omega
    · rw [if_neg hq] at h; cases h
  · rw [if_neg hi] at h; cases h; omega
theorem nmb_inr {tp : aT} {n l u v : Nat} (h : nmb tp n l u = .inr v) : l ≤ v ∧ v ≤ u ∧ tkS tp (ps tp n) = 2 ∧ v = nuV (tkX tp (ps tp n)) := by
  unfold nmb at h
  by_cases hi : tkS tp (ps tp n) = 2
  · rw [if_pos hi] at h
    by_cases hq : nuV (tkX tp (ps tp n)) < l ∨ u < nuV (tkX tp (ps tp n))
    · rw [if_pos hq] at h; cases h
    · rw [if_neg hq] at h; cases h; exact ⟨by omega, by omega, hi, rfl⟩
  · rw [if_neg hi] at h; cases h
theorem isN_s {tp : aT} {i : Nat} (h : isN tp i = true) : tkS tp i = 1 := by
  unfold isN at h
  simp only [Bool.and_eq_true, decide_eq_true_eq] at h
  exact h.1
section NAM
variable {X : pv_X} {tp : aT} {N n k Q z : Nat} {nm : aN} {m : pm_M}
theorem Po_f0 (ha : isPo Q) : pv_fR (hp m) Q 6 0 = some (Q + 1) := hp_fR ha.1 rfl
theorem Po_f1 (ha : isPo Q) : pv_fR (hp m) Q 6 1 = some (Q + 2) := hp_fR ha.1 rfl
theorem Po_p6 (ha : isPo Q) {v : Int32} : pv_fp (hp m) Q 6 6 (.int v) = some (hp (sI m Q 6 v)) := hp_pI ha.1 rfl
theorem Po_a1 (ha : isPo Q) (hk : k < 6) : pv_aJ (hp m) (Q + 1) (nI k) = some (gL m (Q + 1) k) := by rw [hp_aJ ha.2.1, if_pos (pv_in_nI hk (by decide)), nI_clamp (by omega)]
theorem Po_s1 (ha : isPo Q) (hk : k < 6) {x : Int64} : pv_sJ (hp m) (Q + 1) (nI k) x = some (hp (sL m (Q + 1) (vp_updL (gL m (Q + 1)) k x))) := by rw [hp_sJ ha.2.1, if_pos (pv_in_nI hk (by decide)), nI_clamp (by omega)]
theorem Po_a2 (ha : isPo Q) (hk : k < 6) : pv_aI (hp m) 3 (Q + 2) (nI k) = some (gA m (Q + 2) k) := by rw [hp_aI (Or.inr (Or.inr rfl)) ha.2.2.1, if_pos (pv_in_nI hk (by decide)), nI_clamp (by omega)]
theorem Po_s2 (ha : isPo Q) (hk : k < 6) {x : Int32} : pv_sZ (hp m) (Q + 2) (nI k) x = some (hp (sA m (Q + 2) (upd (gA m (Q + 2)) k (vp_nar .boolean x)))) := by rw [hp_sZ ha.2.2.1, if_pos (pv_in_nI hk (by decide)), nI_clamp (by omega)]
theorem Po_s6 (ha : isPo Q) (hk : k < 6) {x : Int32} : pv_sI (hp m) (Q + 6) (nI k) x = some (hp (sA m (Q + 6) (upd (gA m (Q + 6)) k x))) := ar_st ha.2.2.2.2.1 hk (by decide)
theorem Po_s7 (ha : isPo Q) (hk : k < 6) {x : Int32} : pv_sI (hp m) (Q + 7) (nI k) x = some (hp (sA m (Q + 7) (upd (gA m (Q + 7)) k x))) := ar_st ha.2.2.2.2.2.1 hk (by decide)
theorem w_numberOf {t : List Nat} {v : Int64} (hQ : isPo Q) (hz : z ≤ 6) (h6 : gI m Q 6 = nI z) (hL : ∀ k, k < z → gL m (Q + 1) k = lN (En 27 (nm k))) (hok : ∀ k, k < z → okW (nm k)) (ht : okW t) (hv : v = lN (En 27 t)) : pM X m_Po_numberOf [.ref Q, .long v] (hp m) = some (some (.int (enc (nmO z nm t))), hp m) := by
  have loop : ∀ q i, i + q = z → f_Po_numberOf_2 X Q v (nI i) (hp m) = some (some (.int (enc (nmF nm t q i))), hp m) := by
    intro q
    induction q with
    | zero =>
      intro i hi
      rw [u_Po_numberOf_2, Po_f6 hQ, h6]
      simp only [tIs, tVs, bs, if_true, true_or, or_true, i10, if_false, not_false_eq_true, not_true_eq_false]
      rw [if_pos (nI_le (by omega) (by omega))]
      rfl
    | succ q ih =>
      intro i hi
      rw [u_Po_numberOf_2, Po_f6 hQ, h6]
      simp only [tIs, tVs, bs, if_true, true_or, or_true, i10, if_false, not_false_eq_true, not_true_eq_false]
      rw [if_neg (nI_ge (by omega) (by omega)), Po_f0 hQ]
      simp only [tIs, tVs, bs, if_true, true_or, or_true, i10, if_false, not_false_eq_true, not_true_eq_false]
      rw [Po_a1 hQ (by omega), hL i (by omega), hv]
      simp only [tIs, tVs, bs, if_true, true_or, or_true, i10, if_false, not_false_eq_true, not_true_eq_false, lg_cmp_eq, (En_eq (hok i (by omega)) ht).2, nmF]
      by_cases he : nm i = t
      · rw [if_neg (fun z => z he), if_pos he]; rfl
      · rw [if_pos he, if_neg he, nI_1, ← hv]
        exact ih (i + 1) (by omega)
  rw [e_Po_numberOf, u_Po_numberOf_0, nmO_F]
  exact loop z 0 (by omega)
theorem w_personAt (ok : okTp tp) (hQ : isPo Q) (hz : z ≤ 6) (h6 : gI m Q 6 = nI z) (hL : ∀ k, k < z → gL m (Q + 1) k = lN (En 27 (nm k))) (hok : ∀ k, k < z → okW (nm k)) (hA : CA m tp n) : pM X m_Po_personAt [.ref Q, .ref 1] (hp m) = match psn tp n z nm with
    | .inl e => some (some (.int (-1)), hp (sI m 1 4 (nI e)))
    | .inr j => some (some (.int (nI j)), hp m) := by
  rw [e_Po_personAt, u_Po_personAt_0]
  simp only [tIs, tVs, bs, if_true, true_or, or_true, i10, if_false, not_false_eq_true, not_true_eq_false, Tp_rc, w_isName (X := X) hA.1 ok (ps_le n) hA.2]
  unfold psn
  cases hi : isN tp (ps tp n) with
  | true =>
    have hs := isN_s hi
    rw [if_pos rfl]
    simp only [bI_t, tIs, tVs, bs, if_true, true_or, or_true, i10, if_false, not_false_eq_true, not_true_eq_false, Tp_f2, Po_rc hQ]
    rw [w_numberOf hQ hz h6 hL hok (tkW (ps_le n) hs).1 (hA.2.2.2.2.1 hs)]
    simp only [tIs, tVs, bs, if_true, true_or, or_true, i10, if_false, not_false_eq_true, not_true_eq_false]
    cases hq : nmO z nm (tkX tp (ps tp n)) with
    | none =>
      simp only [enc, tIs, tVs, bs, if_true, true_or, or_true, i10, if_false, not_false_eq_true, not_true_eq_false, eq_self, Tp_rc, w_refuse (X := X) (v := 2) (vv := 2) rfl hA.2, u_Po_personAt_35]
    | some j =>
      have hj := (nmO_some hq).1
      simp only [enc, tIs, tVs, bs, if_true, true_or, or_true, i10, if_false, not_false_eq_true, not_true_eq_false, enc_m1 (show j < 2 ^ 31 by omega), u_Po_personAt_35]
  | false =>
    simp only [bI_f, Bool.false_eq_true, tIs, tVs, bs, if_true, true_or, or_true, i10, if_false, not_false_eq_true, not_true_eq_false, eq_self, Tp_rc, w_refuse (X := X) (v := 1) (vv := 1) rfl hA.2]
theorem w_holds {l u : Nat} {vl vu : Int32} (el : vl = nI l) (eu : vu = nI u) (hl : l < 20000) (hu : u < 20000) (hA : CA m tp n) : pM X m_Tp_holdsNumber [.ref 1, .int vl, .int vu] (hp m) = match nmb tp n l u with
    | .inl e => some (some (.int 0), hp (sI m 1 4 (nI e)))
    | .inr _ => some (some (.int 1), hp m) := by
  have h4 := tkS_le (tp := tp) (i := ps tp n)
  have k5 : (nI (tkS tp (ps tp n)) = 2) ↔ tkS tp (ps tp n) = 2 := nI_eq (b := 2) (by omega) (by decide)
  rw [e_Tp_holdsNumber, u_Tp_holdsNumber_0, Tp_f5, hA.2.1, el, eu]
  simp only [tIs, tVs, bs, if_true, true_or, or_true, i10, if_false, not_false_eq_true, not_true_eq_false, k5]
  unfold nmb
  by_cases hs : tkS tp (ps tp n) = 2
  · obtain ⟨v1, -, -⟩ := tkNum (ps_le (tp := tp) n) hs
    rw [if_pos hs, if_pos hs, Tp_f3, hA.2.2.2.2.2 hs]
    simp only [tIs, tVs, bs, if_true, true_or, or_true, i10, if_false, not_false_eq_true, not_true_eq_false]
    by_cases hq : nuV (tkX tp (ps tp n)) < l ∨ u < nuV (tkX tp (ps tp n))
    · have hq' : nI (nuV (tkX tp (ps tp n))) < nI l ∨ nI u < nI (nuV (tkX tp (ps tp n))) := by
        rw [nI_ltI (by omega) (by omega), nI_ltI (by omega) (by omega)]
        exact hq
      rw [if_pos hq, w_in0 hq']
      simp only [tIs, tVs, bs, if_true, true_or, or_true, i10, if_false, not_false_eq_true, not_true_eq_false, eq_self, Tp_rc, w_refuse (X := X) (v := 4) (vv := 4) rfl hA.2, u_Tp_holdsNumber_39]
    · rw [if_neg hq, w_in1 (nI_nlt (by omega) (by omega)) (nI_nlt (by omega) (by omega))]
      simp only [tIs, tVs, bs, if_true, true_or, or_true, i10, if_false, not_false_eq_true, not_true_eq_false, eq_self, u_Tp_holdsNumber_34, u_Tp_holdsNumber_39]
  · rw [if_neg hs, if_neg hs]
    simp only [tIs, tVs, bs, if_true, true_or, or_true, i10, if_false, not_false_eq_true, not_true_eq_false, eq_self, Tp_rc, w_refuse (X := X) (v := 1) (vv := 1) rfl hA.2]
theorem isR_whr (hs : tkS tp (ps tp n) = 1) : isR (tkX tp (ps tp n)) = (whr tp (ps tp n) 0 16).isSome := by
  cases hw : whr tp (ps tp n) 0 16 with
  | none =>
    have h1 := whr_none hw
    unfold isR
    rw [Option.isSome_none, decide_eq_false_iff_not]
    intro h2
    obtain ⟨j, e⟩ := List.mem_iff_getElem?.mp h2
    have hj := (List.getElem?_eq_some_iff.mp e).1
    have hj16 : j < 16 := by
      have : (wdv.take 16).length = 16 := by decide
      omega
    have h3 := h1 j hj16
    rw [Nat.zero_add, isW_beq hs] at h3
    rw [List.getElem?_take_of_lt hj16] at e
    rw [List.getD_eq_getElem?_getD, e] at h3
    simp at h3
  | some j =>
    obtain ⟨h1, h2⟩ := whr_some hw
    rw [Nat.zero_add] at h2
    have h3 := (isW_s h2).2
    unfold isR
    rw [Option.isSome_some, decide_eq_true_iff, h3]
    have key : ∀ q, q < 16 → wdv.getD q [] ∈ wdv.take 16 := by decide
    exact key j h1
theorem m_isName (hA : MAt m tp N n) : pM X m_Md_isName [.ref 175] (hp m) = some (some (.int (bI (isN tp (ps tp n)))), hp m) := by
  obtain ⟨r1, -⟩ := hA.row
  have hN := hA.NN
  have hn := hA.2.2.2.1
  have h4 := tkS_le (tp := tp) (i := ps tp n)
  have k5 : (nI (tkS tp (ps tp n)) = 1) ↔ tkS tp (ps tp n) = 1 := nI_eq (b := 1) (by omega) (by decide)
  rw [e_Md_isName, u_Md_isName_0, Md_f8, hA.2.2.2.2]
  simp only [tIs, tVs, bs, if_true, true_or, or_true, i10, if_false, not_false_eq_true, not_true_eq_false, Md_rc, Md_f1, Md_f4, Md_f5, Md_f6, Md_f9, Md_f10, Md_f11, Md_f12, Md_f14, Md_f15, Md_f18, Md_f19, Md_f20, Md_f21, Md_f23, Md_f24, Md_f25, Md_f26, Md_f28, eq_self, Md_f7, hA.2.2.1]
  rw [ld_177 (by omega), r1]
  simp only [tIs, tVs, bs, if_true, true_or, or_true, i10, if_false, not_false_eq_true, not_true_eq_false, Md_rc, Md_f1, Md_f4, Md_f5, Md_f6, Md_f9, Md_f10, Md_f11, Md_f12, Md_f14, Md_f15, Md_f18, Md_f19, Md_f20, Md_f21, Md_f23, Md_f24, Md_f25, Md_f26, Md_f28, k5, u_Md_isName_34, u_Md_isName_35]
  unfold isN
  by_cases hs : tkS tp (ps tp n) = 1
  · rw [if_neg (fun z => z hs), decide_eq_true hs, Bool.true_and, isR_whr hs]
    simp only [tIs, tVs, bs, if_true, true_or, or_true, i10, if_false, not_false_eq_true, not_true_eq_false, Md_rc, Md_f1, Md_f4, Md_f5, Md_f6, Md_f9, Md_f10, Md_f11, Md_f12, Md_f14, Md_f15, Md_f18, Md_f19, Md_f20, Md_f21, Md_f23, Md_f24, Md_f25, Md_f26, Md_f28, m_wordHere (X := X) (f := 0) (c := 16) (vf := 0) (vc := 16) rfl rfl (by decide) hA, enc_neg (o := whr tp (ps tp n) 0 16) (fun j hj => by have := (whr_some hj).1; omega), eq_self]
    cases (whr tp (ps tp n) 0 16).isSome <;> rfl
  · rw [if_pos hs, decide_eq_false hs]
    rfl
/-- where the reference's names lie: 184 the PORT's, 185 those that are read -/
def nmC (m : pm_M) (b : Bool) (z : Nat) (nm : aN) : Prop := z ≤ 6 ∧ gI m 175 (if b then 17 else 16) = nI z ∧ (∀ k, k < z → gL m (if b then 185 else 184) k = lN (En 37 (nm k))) ∧ ∀ k, k < z → okW (nm k)
theorem m_nameAt {b : Bool} (hC : nmC m b z nm) (hA : MAt m tp N n) (hs : tkS tp (ps tp n) = 1) : pM X m_Md_nameAt [.ref 175, .int (bI b)] (hp m) = some (some (.int (enc (nmO z nm (tkX tp (ps tp n))))), hp m) := by
  obtain ⟨c1, c2, c3, c4⟩ := hC
  obtain ⟨r1, r2, r3, -⟩ := hA.row
  have hN := hA.NN
  have hn := hA.2.2.2.1
  have ht := (tkW (ps_le (tp := tp) n) hs).1
  have loop : ∀ q i, i + q = z → f_Md_nameAt_2 X 175 (bI b) (nI i) (hp m) = some (some (.int (enc (nmF nm (tkX tp (ps tp n)) q i))), hp m) := by
    intro q
    induction q with
    | zero =>
      intro i hi
      rw [u_Md_nameAt_2]
      cases b with
      | true =>
        rw [if_neg (show ¬ bI true = 0 by decide), Md_f17]
        simp only [bs]
        rw [show gI m 175 17 = nI z from c2, u_Md_nameAt_18, if_pos (nI_le (by omega) (by omega))]
        rfl
      | false =>
        rw [if_pos (show bI false = 0 from rfl), Md_f16]
        simp only [bs]
        rw [show gI m 175 16 = nI z from c2, u_Md_nameAt_18, if_pos (nI_le (by omega) (by omega))]
        rfl
    | succ q ih =>
      intro i hi
      have fin : f_Md_nameAt_40 X 175 (bI b) (nI i) (lN (En 37 (nm i))) (hp m) = some (some (.int (enc (nmF nm (tkX tp (ps tp n)) (q + 1) i))), hp m) := by
        rw [u_Md_nameAt_40]
        simp only [tIs, tVs, bs, if_true, true_or, or_true, i10, if_false, not_false_eq_true, not_true_eq_false, Md_rc, Md_f1, Md_f4, Md_f5, Md_f6, Md_f9, Md_f10, Md_f11, Md_f12, Md_f14, Md_f15, Md_f18, Md_f19, Md_f20, Md_f21, Md_f23, Md_f24, Md_f25, Md_f26, Md_f28, Md_f7, hA.2.2.1]
        rw [ld_179 (by omega), r3 hs]
        simp only [tIs, tVs, bs, if_true, true_or, or_true, i10, if_false, not_false_eq_true, not_true_eq_false, Md_rc, Md_f1, Md_f4, Md_f5, Md_f6, Md_f9, Md_f10, Md_f11, Md_f12, Md_f14, Md_f15, Md_f18, Md_f19, Md_f20, Md_f21, Md_f23, Md_f24, Md_f25, Md_f26, Md_f28, lg_cmp_eq, (En_eq (c4 i (by omega)) ht).1, nmF]
        by_cases he : nm i = tkX tp (ps tp n)
        · rw [if_neg (fun z => z he), if_pos he]; rfl
        · rw [if_pos he, if_neg he, nI_1]
          exact ih (i + 1) (by omega)
      rw [u_Md_nameAt_2]
      cases b with
      | true =>
        rw [if_neg (show ¬ bI true = 0 by decide), Md_f17]
        simp only [bs]
        rw [show gI m 175 17 = nI z from c2, u_Md_nameAt_18, if_neg (nI_ge (by omega) (by omega)), if_neg (show ¬ bI true = 0 by decide)]
        simp only [tIs, tVs, bs, if_true, true_or, or_true, i10, if_false, not_false_eq_true, not_true_eq_false, Md_rc, Md_f1, Md_f4, Md_f5, Md_f6, Md_f9, Md_f10, Md_f11, Md_f12, Md_f14, Md_f15, Md_f18, Md_f19, Md_f20, Md_f21, Md_f23, Md_f24, Md_f25, Md_f26, Md_f28]
        rw [ld_185 (by omega), show gL m 185 i = lN (En 37 (nm i)) from c3 i (by omega)]
        simp only [bs]
        exact fin
      | false =>
        rw [if_pos (show bI false = 0 from rfl), Md_f16]
        simp only [bs]
        rw [show gI m 175 16 = nI z from c2, u_Md_nameAt_18, if_neg (nI_ge (by omega) (by omega)), if_pos (show bI false = 0 from rfl)]
        simp only [tIs, tVs, bs, if_true, true_or, or_true, i10, if_false, not_false_eq_true, not_true_eq_false, Md_rc, Md_f1, Md_f4, Md_f5, Md_f6, Md_f9, Md_f10, Md_f11, Md_f12, Md_f14, Md_f15, Md_f18, Md_f19, Md_f20, Md_f21, Md_f23, Md_f24, Md_f25, Md_f26, Md_f28]
        rw [ld_184 (by omega), show gL m 184 i = lN (En 37 (nm i)) from c3 i (by omega)]
        simp only [bs]
        exact fin
  rw [e_Md_nameAt, u_Md_nameAt_0, nmO_F]
  exact loop z 0 (by omega)
theorem m_toldHere {b : Bool} (T : TK tp N) (hC : nmC m b z nm) (hA : MAt m tp N n) : pM X m_Md_toldHere [.ref 175, .int (bI b)] (hp m) = match psn tp n z nm with
    | .inl e => some (some (.int 0), hp (sI m 175 8 (nI e)))
    | .inr j => some (some (.int (nI j)), hp m) := by
  obtain ⟨f1, f1'⟩ := fl_lt (n := n) (v := 1) T (by decide) (by decide)
  obtain ⟨f2, f2'⟩ := fl_lt (n := n) (v := 2) T (by decide) (by decide)
  have g1 : gI (sI m 175 8 (nI (fl tp (ps tp n) 1))) 175 8 = nI (fl tp (ps tp n) 1) := gI_sI_eq
  have g2 : gI (sI m 175 8 (nI (fl tp (ps tp n) 2))) 175 8 = nI (fl tp (ps tp n) 2) := gI_sI_eq
  have p1 : ¬ nI (fl tp (ps tp n) 1) ≤ 0 := nI_nle (by omega) (by omega)
  have p2 : ¬ nI (fl tp (ps tp n) 2) ≤ 0 := nI_nle (by omega) (by omega)
  have q1 : ¬ nI (fl tp (ps tp n) 1) = 0 := nI_ne0 (by omega) (by omega)
  have q2 : ¬ nI (fl tp (ps tp n) 2) = 0 := nI_ne0 (by omega) (by omega)
  rw [e_Md_toldHere, u_Md_toldHere_0, Md_f8, hA.2.2.2.2]
  simp only [tIs, tVs, bs, if_true, true_or, or_true, i10, if_false, not_false_eq_true, not_true_eq_false, Md_rc, Md_f1, Md_f4, Md_f5, Md_f6, Md_f9, Md_f10, Md_f11, Md_f12, Md_f14, Md_f15, Md_f18, Md_f19, Md_f20, Md_f21, Md_f23, Md_f24, Md_f25, Md_f26, Md_f28, eq_self, m_isName (X := X) hA]
  unfold psn
  cases hi : isN tp (ps tp n) with
  | true =>
    have hs := isN_s hi
    rw [if_pos rfl]
    simp only [bI_t, tIs, tVs, bs, if_true, true_or, or_true, i10, if_false, not_false_eq_true, not_true_eq_false, Md_rc, Md_f1, Md_f4, Md_f5, Md_f6, Md_f9, Md_f10, Md_f11, Md_f12, Md_f14, Md_f15, Md_f18, Md_f19, Md_f20, Md_f21, Md_f23, Md_f24, Md_f25, Md_f26, Md_f28, u_Md_toldHere_19, Md_f8, hA.2.2.2.2, le00, m_nameAt (X := X) hC hA hs, u_Md_toldHere_35, eq_self]
    cases hq : nmO z nm (tkX tp (ps tp n)) with
    | none =>
      simp only [enc, show ¬ (0 : Int32) ≤ -1 by decide, tIs, tVs, bs, if_true, true_or, or_true, i10, if_false, not_false_eq_true, not_true_eq_false, Md_rc, Md_f1, Md_f4, Md_f5, Md_f6, Md_f9, Md_f10, Md_f11, Md_f12, Md_f14, Md_f15, Md_f18, Md_f19, Md_f20, Md_f21, Md_f23, Md_f24, Md_f25, Md_f26, Md_f28, m_wrong (X := X) (v := 2) (vv := 2) rfl hA, u_Md_toldHere_52, Md_f8, g2, p2, u_Md_toldHere_64]
    | some j =>
      have hj := (nmO_some hq).1
      have hz := hC.1
      simp only [enc, nI_pos' (show j < 2 ^ 31 by omega), tIs, tVs, bs, if_true, true_or, or_true, i10, if_false, not_false_eq_true, not_true_eq_false, Md_rc, Md_f1, Md_f4, Md_f5, Md_f6, Md_f9, Md_f10, Md_f11, Md_f12, Md_f14, Md_f15, Md_f18, Md_f19, Md_f20, Md_f21, Md_f23, Md_f24, Md_f25, Md_f26, Md_f28, u_Md_toldHere_52, Md_f8, hA.2.2.2.2, le00, u_Md_toldHere_64]
  | false =>
    simp only [bI_f, Bool.false_eq_true, tIs, tVs, bs, if_true, true_or, or_true, i10, if_false, not_false_eq_true, not_true_eq_false, Md_rc, Md_f1, Md_f4, Md_f5, Md_f6, Md_f9, Md_f10, Md_f11, Md_f12, Md_f14, Md_f15, Md_f18, Md_f19, Md_f20, Md_f21, Md_f23, Md_f24, Md_f25, Md_f26, Md_f28, eq_self, m_wrong (X := X) (v := 1) (vv := 1) rfl hA, u_Md_toldHere_19, Md_f8, g1, p1, q1, u_Md_toldHere_35, u_Md_toldHere_52, u_Md_toldHere_64]
theorem x_toldHere {b : Int32} {e : Nat} (h8 : gI m 175 8 = nI e) (h0 : 0 < e) (h31 : e < 2 ^ 31) : pM X m_Md_toldHere [.ref 175, .int b] (hp m) = some (some (.int 0), hp m) := by
  have p1 : ¬ nI e ≤ 0 := nI_nle h0 h31
  have q1 : ¬ nI e = 0 := nI_ne0 h0 h31
  rw [e_Md_toldHere, u_Md_toldHere_0, Md_f8, h8]
  simp only [tIs, tVs, bs, if_true, true_or, or_true, i10, if_false, not_false_eq_true, not_true_eq_false, Md_rc, Md_f1, Md_f4, Md_f5, Md_f6, Md_f9, Md_f10, Md_f11, Md_f12, Md_f14, Md_f15, Md_f18, Md_f19, Md_f20, Md_f21, Md_f23, Md_f24, Md_f25, Md_f26, Md_f28, u_Md_toldHere_19, Md_f8, h8, p1, q1, u_Md_toldHere_35, u_Md_toldHere_52, u_Md_toldHere_64]
theorem m_takes0 (hA : MAt m tp N n) : pM X m_Md_takes [.ref 175, .int 0] (hp m) = some (none, hp (sI m 175 7 (nI (n + 1)))) := by
  rw [e_Md_takes, u_Md_takes_0, Md_f8, hA.2.2.2.2]
  simp only [tIs, tVs, bs, if_true, true_or, or_true, i10, if_false, not_false_eq_true, not_true_eq_false, Md_rc, Md_f1, Md_f4, Md_f5, Md_f6, Md_f9, Md_f10, Md_f11, Md_f12, Md_f14, Md_f15, Md_f18, Md_f19, Md_f20, Md_f21, Md_f23, Md_f24, Md_f25, Md_f26, Md_f28, eq_self, u_Md_takes_16, Md_f7, hA.2.2.1, Md_f8, hA.2.2.2.2, le00, u_Md_takes_33, nI_1, Md_p7]
theorem m_takes1 (T : TK tp N) (hA : MAt m tp N n) : pM X m_Md_takes [.ref 175, .int 1] (hp m) = some (none, hp (sI m 175 8 (nI (fl tp (ps tp n) 3)))) := by
  obtain ⟨f1, f1'⟩ := fl_lt (n := n) (v := 3) T (by decide) (by decide)
  have g1 : gI (sI m 175 8 (nI (fl tp (ps tp n) 3))) 175 8 = nI (fl tp (ps tp n) 3) := gI_sI_eq
  have p1 : ¬ nI (fl tp (ps tp n) 3) ≤ 0 := nI_nle (by omega) (by omega)
  rw [e_Md_takes, u_Md_takes_0, Md_f8, hA.2.2.2.2]
  simp only [tIs, tVs, bs, if_true, true_or, or_true, i10, if_false, not_false_eq_true, not_true_eq_false, Md_rc, Md_f1, Md_f4, Md_f5, Md_f6, Md_f9, Md_f10, Md_f11, Md_f12, Md_f14, Md_f15, Md_f18, Md_f19, Md_f20, Md_f21, Md_f23, Md_f24, Md_f25, Md_f26, Md_f28, eq_self, m_wrong (X := X) (v := 3) (vv := 3) rfl hA, u_Md_takes_16, Md_f7, Md_f8, g1, p1, u_Md_takes_33, Md_p7]
  rw [sI_self (Int32.add_zero _).symm]
theorem x_takes {b : Int32} {e : Nat} (h8 : gI m 175 8 = nI e) (h0 : 0 < e) (h31 : e < 2 ^ 31) : pM X m_Md_takes [.ref 175, .int b] (hp m) = some (none, hp m) := by
  have p1 : ¬ nI e ≤ 0 := nI_nle h0 h31
  have q1 : ¬ nI e = 0 := nI_ne0 h0 h31
  rw [e_Md_takes, u_Md_takes_0, Md_f8, h8]
  simp only [tIs, tVs, bs, if_true, true_or, or_true, i10, if_false, not_false_eq_true, not_true_eq_false, Md_rc, Md_f1, Md_f4, Md_f5, Md_f6, Md_f9, Md_f10, Md_f11, Md_f12, Md_f14, Md_f15, Md_f18, Md_f19, Md_f20, Md_f21, Md_f23, Md_f24, Md_f25, Md_f26, Md_f28, q1, u_Md_takes_16, Md_f7, Md_f8, h8, p1, u_Md_takes_33, Md_p7]
  rw [sI_self (Int32.add_zero _).symm]
theorem m_takeNumber {l u : Nat} {vl vu : Int32} (T : TK tp N) (el : vl = nI l) (eu : vu = nI u) (hl : l < 20000) (hu : u < 20000) (hA : MAt m tp N n) : pM X m_Md_takeNumber [.ref 175, .int vl, .int vu] (hp m) = match nmb tp n l u with
    | .inl e => some (some (.int 0), hp (sI m 175 8 (nI e)))
    | .inr v => some (some (.int (nI v)), hp (sI m 175 7 (nI (n + 1)))) := by
  obtain ⟨r1, r2, r3, r4, -⟩ := hA.row
  have hN := hA.NN
  have hn := hA.2.2.2.1
  have h4 := tkS_le (tp := tp) (i := ps tp n)
  have k5 : (nI (tkS tp (ps tp n)) = 2) ↔ tkS tp (ps tp n) = 2 := nI_eq (b := 2) (by omega) (by decide)
  obtain ⟨f1, f1'⟩ := fl_lt (n := n) (v := 1) T (by decide) (by decide)
  obtain ⟨f2, f2'⟩ := fl_lt (n := n) (v := 4) T (by decide) (by decide)
  have g1 : gI (sI m 175 8 (nI (fl tp (ps tp n) 1))) 175 8 = nI (fl tp (ps tp n) 1) := gI_sI_eq
  have g2 : gI (sI m 175 8 (nI (fl tp (ps tp n) 4))) 175 8 = nI (fl tp (ps tp n) 4) := gI_sI_eq
  have p1 : ¬ nI (fl tp (ps tp n) 1) ≤ 0 := nI_nle (by omega) (by omega)
  have p2 : ¬ nI (fl tp (ps tp n) 4) ≤ 0 := nI_nle (by omega) (by omega)
  rw [e_Md_takeNumber, u_Md_takeNumber_0, Md_f8, hA.2.2.2.2, el, eu]
  simp only [tIs, tVs, bs, if_true, true_or, or_true, i10, if_false, not_false_eq_true, not_true_eq_false, Md_rc, Md_f1, Md_f4, Md_f5, Md_f6, Md_f9, Md_f10, Md_f11, Md_f12, Md_f14, Md_f15, Md_f18, Md_f19, Md_f20, Md_f21, Md_f23, Md_f24, Md_f25, Md_f26, Md_f28, eq_self, Md_f7, hA.2.2.1]
  rw [ld_177 (by omega), r1]
  simp only [tIs, tVs, bs, if_true, true_or, or_true, i10, if_false, not_false_eq_true, not_true_eq_false, Md_rc, Md_f1, Md_f4, Md_f5, Md_f6, Md_f9, Md_f10, Md_f11, Md_f12, Md_f14, Md_f15, Md_f18, Md_f19, Md_f20, Md_f21, Md_f23, Md_f24, Md_f25, Md_f26, Md_f28, k5]
  unfold nmb
  by_cases hs : tkS tp (ps tp n) = 2
  · obtain ⟨v1, -, -⟩ := tkNum (ps_le (tp := tp) n) hs
    rw [if_pos hs, if_pos hs, u_Md_takeNumber_28, Md_f8, hA.2.2.2.2]
    simp only [tIs, tVs, bs, if_true, true_or, or_true, i10, if_false, not_false_eq_true, not_true_eq_false, Md_rc, Md_f1, Md_f4, Md_f5, Md_f6, Md_f9, Md_f10, Md_f11, Md_f12, Md_f14, Md_f15, Md_f18, Md_f19, Md_f20, Md_f21, Md_f23, Md_f24, Md_f25, Md_f26, Md_f28, eq_self, Md_f7, hA.2.2.1]
    rw [ld_179 (by omega), r4 hs]
    simp only [tIs, tVs, bs, if_true, true_or, or_true, i10, if_false, not_false_eq_true, not_true_eq_false, Md_rc, Md_f1, Md_f4, Md_f5, Md_f6, Md_f9, Md_f10, Md_f11, Md_f12, Md_f14, Md_f15, Md_f18, Md_f19, Md_f20, Md_f21, Md_f23, Md_f24, Md_f25, Md_f26, Md_f28, lg_cmp_lt, lg_cmp_le, nI_l (show l < 2 ^ 31 by omega), nI_l (show u < 2 ^ 31 by omega), lN_lt (show nuV (tkX tp (ps tp n)) < 2 ^ 31 by omega) (show l < 2 ^ 31 by omega), lN_le (show nuV (tkX tp (ps tp n)) < 2 ^ 31 by omega) (show u < 2 ^ 31 by omega)]
    have bad : f_Md_takeNumber_65 X 175 (nI l) (nI u) (hp m) = some (some (.int 0), hp (sI m 175 8 (nI (fl tp (ps tp n) 4)))) := by
      rw [u_Md_takeNumber_65]
      simp only [tIs, tVs, bs, if_true, true_or, or_true, i10, if_false, not_false_eq_true, not_true_eq_false, Md_rc, Md_f1, Md_f4, Md_f5, Md_f6, Md_f9, Md_f10, Md_f11, Md_f12, Md_f14, Md_f15, Md_f18, Md_f19, Md_f20, Md_f21, Md_f23, Md_f24, Md_f25, Md_f26, Md_f28, m_wrong (X := X) (v := 4) (vv := 4) rfl hA, u_Md_takeNumber_70, Md_f8, g2, p2]
    have good : f_Md_takeNumber_70 X 175 (nI l) (nI u) (hp m) = some (some (.int (nI (nuV (tkX tp (ps tp n))))), hp (sI m 175 7 (nI (n + 1)))) := by
      have e7 : gI (sI m 175 7 (nI (n + 1))) 175 7 = nI (n + 1) := gI_sI_eq
      rw [u_Md_takeNumber_70, Md_f8, hA.2.2.2.2]
      simp only [tIs, tVs, bs, if_true, true_or, or_true, i10, if_false, not_false_eq_true, not_true_eq_false, Md_rc, Md_f1, Md_f4, Md_f5, Md_f6, Md_f9, Md_f10, Md_f11, Md_f12, Md_f14, Md_f15, Md_f18, Md_f19, Md_f20, Md_f21, Md_f23, Md_f24, Md_f25, Md_f26, Md_f28, le00, Md_f7, hA.2.2.1, nI_1, Md_p7, e7, nI_pred]
      rw [ld_179 (by omega), gL_sI, r4 hs]
      simp only [tIs, tVs, bs, if_true, true_or, or_true, i10, if_false, not_false_eq_true, not_true_eq_false, Md_rc, Md_f1, Md_f4, Md_f5, Md_f6, Md_f9, Md_f10, Md_f11, Md_f12, Md_f14, Md_f15, Md_f18, Md_f19, Md_f20, Md_f21, Md_f23, Md_f24, Md_f25, Md_f26, Md_f28, lN_i]
    by_cases hq1 : nuV (tkX tp (ps tp n)) < l
    · rw [if_pos hq1, if_pos (Or.inl hq1), bad]
    · rw [if_neg hq1]
      by_cases hq2 : nuV (tkX tp (ps tp n)) ≤ u
      · rw [if_pos hq2, if_neg (by omega), good]
      · rw [if_neg hq2, if_pos (by omega), bad]
  · rw [if_neg hs, if_neg hs]
    simp only [tIs, tVs, bs, if_true, true_or, or_true, i10, if_false, not_false_eq_true, not_true_eq_false, Md_rc, Md_f1, Md_f4, Md_f5, Md_f6, Md_f9, Md_f10, Md_f11, Md_f12, Md_f14, Md_f15, Md_f18, Md_f19, Md_f20, Md_f21, Md_f23, Md_f24, Md_f25, Md_f26, Md_f28, m_wrong (X := X) (v := 1) (vv := 1) rfl hA, u_Md_takeNumber_70, Md_f8, g1, p1]
theorem x_takeNumber {vl vu : Int32} {e : Nat} (h8 : gI m 175 8 = nI e) (h0 : 0 < e) (h31 : e < 2 ^ 31) : pM X m_Md_takeNumber [.ref 175, .int vl, .int vu] (hp m) = some (some (.int 0), hp m) := by
  have p1 : ¬ nI e ≤ 0 := nI_nle h0 h31
  have q1 : ¬ nI e = 0 := nI_ne0 h0 h31
  rw [e_Md_takeNumber, u_Md_takeNumber_0, Md_f8, h8]
  simp only [tIs, tVs, bs, if_true, true_or, or_true, i10, if_false, not_false_eq_true, not_true_eq_false, Md_rc, Md_f1, Md_f4, Md_f5, Md_f6, Md_f9, Md_f10, Md_f11, Md_f12, Md_f14, Md_f15, Md_f18, Md_f19, Md_f20, Md_f21, Md_f23, Md_f24, Md_f25, Md_f26, Md_f28, q1, p1, u_Md_takeNumber_28, u_Md_takeNumber_70, Md_f8, h8]
theorem w_kindOf (ok : okTp tp) (hA : CA m tp n) : pM X m_Po_kindOf [.ref 1] (hp m) = some (some (.int (enc (whr tp (ps tp n) 9 4))), hp m) := by
  have W : ∀ k, k < 21 → pM X m_Tp_isWord [.ref 1, .ref (pv_scr + 1 + k)] (hp m) = some (some (.int (bI (isW tp (ps tp n) (tx k)))), hp m) := fun k hk => w_isWord hk hA.1 ok (ps_le n) hA.2
  rw [e_Po_kindOf, u_Po_kindOf_0, whr4]
  simp only [tIs, tVs, bs, if_true, true_or, or_true, i10, if_false, not_false_eq_true, not_true_eq_false, Tp_rc, W 13 (by decide), W 14 (by decide), W 15 (by decide), W 16 (by decide), u_Po_kindOf_47]
  rw [show wdv.getD (9 + 0) [] = tx 13 from rfl, show wdv.getD (9 + 1) [] = tx 14 from rfl, show wdv.getD (9 + 2) [] = tx 15 from rfl, show wdv.getD (9 + 3) [] = tx 16 from rfl]
  generalize isW tp (ps tp n) (tx 13) = b1
  generalize isW tp (ps tp n) (tx 14) = b2
  generalize isW tp (ps tp n) (tx 15) = b3
  generalize isW tp (ps tp n) (tx 16) = b4
  cases b1 <;> cases b2 <;> cases b3 <;> cases b4 <;> rfl
theorem m_takeOne {f c : Nat} {vf vc : Int32} (T : TK tp N) (hf : vf = nI f) (hc : vc = nI c) (hfc : f + c ≤ 20) (hA : MAt m tp N n) : pM X m_Md_takeOne [.ref 175, .int vf, .int vc] (hp m) = match whr tp (ps tp n) f c with
    | none => some (some (.int 0), hp (sI m 175 8 (nI (fl tp (ps tp n) 1))))
    | some j => some (some (.int (nI j)), hp (sI m 175 7 (nI (n + 1)))) := by
  obtain ⟨f1, f1'⟩ := fl_lt (n := n) (v := 1) T (by decide) (by decide)
  have g1 : gI (sI m 175 8 (nI (fl tp (ps tp n) 1))) 175 8 = nI (fl tp (ps tp n) 1) := gI_sI_eq
  have p1 : ¬ nI (fl tp (ps tp n) 1) ≤ 0 := nI_nle (by omega) (by omega)
  have g2 : gI (sI m 175 7 (nI (n + 1))) 175 8 = 0 := by rw [gI_sI_ne (Or.inr (by decide))]; exact hA.2.2.2.2
  rw [e_Md_takeOne, u_Md_takeOne_0, Md_f8, hA.2.2.2.2]
  simp only [tIs, tVs, bs, if_true, true_or, or_true, i10, if_false, not_false_eq_true, not_true_eq_false, Md_rc, Md_f1, Md_f4, Md_f5, Md_f6, Md_f9, Md_f10, Md_f11, Md_f12, Md_f14, Md_f15, Md_f18, Md_f19, Md_f20, Md_f21, Md_f23, Md_f24, Md_f25, Md_f26, Md_f28, le00, m_wordHere (X := X) hf hc hfc hA, u_Md_takeOne_17, Md_f8, hA.2.2.2.2, eq_self]
  cases hw : whr tp (ps tp n) f c with
  | none =>
    simp only [enc, show ¬ (0 : Int32) ≤ -1 by decide, tIs, tVs, bs, if_true, true_or, or_true, i10, if_false, not_false_eq_true, not_true_eq_false, Md_rc, Md_f1, Md_f4, Md_f5, Md_f6, Md_f9, Md_f10, Md_f11, Md_f12, Md_f14, Md_f15, Md_f18, Md_f19, Md_f20, Md_f21, Md_f23, Md_f24, Md_f25, Md_f26, Md_f28, m_wrong (X := X) (v := 1) (vv := 1) rfl hA, u_Md_takeOne_34, Md_f7, Md_f8, g1, p1, u_Md_takeOne_51, Md_p7]
    rw [sI_self (Int32.add_zero _).symm]
    simp only [tIs, tVs, bs, if_true, true_or, or_true, i10, if_false, not_false_eq_true, not_true_eq_false, Md_rc, Md_f1, Md_f4, Md_f5, Md_f6, Md_f9, Md_f10, Md_f11, Md_f12, Md_f14, Md_f15, Md_f18, Md_f19, Md_f20, Md_f21, Md_f23, Md_f24, Md_f25, Md_f26, Md_f28, Md_f8, g1, p1, u_Md_takeOne_67]
  | some j =>
    have hj := (whr_some hw).1
    simp only [enc, nI_pos' (show j < 2 ^ 31 by omega), tIs, tVs, bs, if_true, true_or, or_true, i10, if_false, not_false_eq_true, not_true_eq_false, Md_rc, Md_f1, Md_f4, Md_f5, Md_f6, Md_f9, Md_f10, Md_f11, Md_f12, Md_f14, Md_f15, Md_f18, Md_f19, Md_f20, Md_f21, Md_f23, Md_f24, Md_f25, Md_f26, Md_f28, u_Md_takeOne_34, Md_f7, hA.2.2.1, Md_f8, hA.2.2.2.2, le00, u_Md_takeOne_51, nI_1, Md_p7, g2, u_Md_takeOne_67]
theorem x_takeWord {v : Int32} {e : Nat} (h8 : gI m 175 8 = nI e) (h0 : 0 < e) (h31 : e < 2 ^ 31) : pM X m_Md_takeWord [.ref 175, .int v] (hp m) = some (none, hp m) := by
  rw [e_Md_takeWord, u_Md_takeWord_0]
  simp only [tIs, tVs, bs, if_true, true_or, or_true, i10, if_false, not_false_eq_true, not_true_eq_false, Md_rc, Md_f1, Md_f4, Md_f5, Md_f6, Md_f9, Md_f10, Md_f11, Md_f12, Md_f14, Md_f15, Md_f18, Md_f19, Md_f20, Md_f21, Md_f23, Md_f24, Md_f25, Md_f26, Md_f28, x_hasWord (X := X) (v := v) h8 h0 h31, x_wrong (X := X) (v := 1) h8 h0 h31, u_Md_takeWord_13, eq_self]
theorem m_takeWord1 {c : Nat} {vc : Int32} (hvc : vc = nI c) (hc' : c < 20) (hA : MAt m tp N n) (hg : isW tp (ps tp n) (wdv.getD c []) = true) : pM X m_Md_takeWord [.ref 175, .int vc] (hp m) = some (none, hp (sI m 175 7 (nI (n + 1)))) := by
  rw [e_Md_takeWord, u_Md_takeWord_0]
  simp only [tIs, tVs, bs, if_true, true_or, or_true, i10, if_false, not_false_eq_true, not_true_eq_false, Md_rc, Md_f1, Md_f4, Md_f5, Md_f6, Md_f9, Md_f10, Md_f11, Md_f12, Md_f14, Md_f15, Md_f18, Md_f19, Md_f20, Md_f21, Md_f23, Md_f24, Md_f25, Md_f26, Md_f28, m_hasWord1 (X := X) hvc hc' hA hg, u_Md_takeWord_13]
theorem m_takeWord0 {c : Nat} {vc : Int32} (hvc : vc = nI c) (hc' : c < 20) (hA : MAt m tp N n) (hg : isW tp (ps tp n) (wdv.getD c []) = false) : pM X m_Md_takeWord [.ref 175, .int vc] (hp m) = some (none, hp (sI m 175 8 (nI (fl tp (ps tp n) 1)))) := by
  rw [e_Md_takeWord, u_Md_takeWord_0]
  simp only [tIs, tVs, bs, if_true, true_or, or_true, i10, if_false, not_false_eq_true, not_true_eq_false, Md_rc, Md_f1, Md_f4, Md_f5, Md_f6, Md_f9, Md_f10, Md_f11, Md_f12, Md_f14, Md_f15, Md_f18, Md_f19, Md_f20, Md_f21, Md_f23, Md_f24, Md_f25, Md_f26, Md_f28, m_hasWord0 (X := X) hvc hc' hA hg, m_wrong (X := X) (v := 1) (vv := 1) rfl hA, u_Md_takeWord_13, eq_self]
theorem w_takeWord1 {j : Nat} {m1 : pm_M} (hj : j < 21) (ok : okTp tp) (hA : CA m tp n) (hg : isW tp (ps tp n) (tx j) = true) (ha : pM X m_Tp_advance [.ref 1] (hp m) = some (none, hp m1)) : pM X m_Tp_takeWord [.ref 1, .ref (pv_scr + 1 + j)] (hp m) = some (some (.int 1), hp m1) := by
  rw [e_Tp_takeWord, u_Tp_takeWord_0]
  simp only [tIs, tVs, bs, if_true, true_or, or_true, i10, if_false, not_false_eq_true, not_true_eq_false, Tp_rc, w_isWord (X := X) hj hA.1 ok (ps_le n) hA.2, hg, bI_t, ha]
theorem w_takeWord0 {j : Nat} (hj : j < 21) (ok : okTp tp) (hA : CA m tp n) (hg : isW tp (ps tp n) (tx j) = false) : pM X m_Tp_takeWord [.ref 1, .ref (pv_scr + 1 + j)] (hp m) = some (some (.int 0), hp (sI m 1 4 (nI (fl tp (ps tp n) 1)))) := by
  rw [e_Tp_takeWord, u_Tp_takeWord_0]
  simp only [tIs, tVs, bs, if_true, true_or, or_true, i10, if_false, not_false_eq_true, not_true_eq_false, Tp_rc, w_isWord (X := X) hj hA.1 ok (ps_le n) hA.2, hg, bI_f, w_refuse (X := X) (v := 1) (vv := 1) rfl hA.2, eq_self]
end NAM
