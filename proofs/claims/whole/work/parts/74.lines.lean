/-! A PORT that is being told, line by line. -/
/-- how many; names, kinds, beats; whom one asks; times that are told; moods -/
abbrev aB : Type := Nat × aN × (Nat → Nat) × (Nat → Nat) × (Nat → Option Nat) × (Nat → Option Nat) × Option (List aJ3)
def upO {α : Type} (f : Nat → α) (k : Nat) (v : α) : Nat → α := fun j => if j = k then v else f j
theorem upO_s {α : Type} {f : Nat → α} {k : Nat} {v : α} : upO f k v k = v := if_pos rfl
theorem upO_n {α : Type} {f : Nat → α} {k j : Nat} {v : α} (h : j ≠ k) : upO f k v j = f j := if_neg h
def moL (o : Option (List aJ3)) : List aJ3 := match o with
  | none => []
  | some L => L
/-- the class's side: cells from Q on -/
def CPs (m : pm_M) (Q : Nat) (ψ : aB) : Prop := gI m Q 6 = nI ψ.1 ∧ (∀ k, k < ψ.1 → gL m (Q + 1) k = lN (En 27 (ψ.2.1 k)) ∧ gA m (Q + 6) k = nI (ψ.2.2.1 k)) ∧ (∀ k, k < 6 → gA m (Q + 7) k = enc (ψ.2.2.2.2.1 k) ∧ gA m (Q + 2) k = bI (ψ.2.2.2.2.2.1 k).isSome ∧ gA m (Q + 9) k = nI ((ψ.2.2.2.2.2.1 k).getD 0) ∧ gA m (Q + 11) k = 0 ∧ gA m (Q + 10) k = nI (ψ.2.2.2.1 k)) ∧ gI m (Q + 8) 3 = 0 ∧ gI m (Q + 3) 3 = bI ψ.2.2.2.2.2.2.isSome ∧ gI m (Q + 3) 2 = nI (moL ψ.2.2.2.2.2.2).length ∧ ∀ j x, (moL ψ.2.2.2.2.2.2)[j]? = some x → gA m (Q + 4) j = x.1
/-- the reference's side -/
def RPs (m : pm_M) (ψ : aB) : Prop := nmC m true ψ.1 ψ.2.1 ∧ gA m 181 30 = nI ψ.1 ∧ gA m 181 31 = (if ψ.2.2.2.2.2.2.isSome then 0 else -1) ∧ (∀ k, k < ψ.1 → gA m 181 (32 + 4 * k) = nI (ψ.2.2.1 k) ∧ gA m 181 (33 + 4 * k) = nI (ψ.2.2.2.1 k)) ∧ (∀ k, k < 6 → gA m 181 (34 + 4 * k) = enc (ψ.2.2.2.2.1 k) ∧ gA m 181 (35 + 4 * k) = enc (ψ.2.2.2.2.2.1 k)) ∧ (∀ j x, (moL ψ.2.2.2.2.2.2)[j]? = some x → gA m 182 (1100 + j) = x.2.1 ∧ gA m 183 (1100 + j) = x.2.2) ∧ (match ψ.2.2.2.2.2.2 with
  | none => gI m 175 13 = 0
  | some L => gI m 175 13 = nI (L.length + 1) ∧ gA m 182 (1100 + L.length) = 0)
def okB (ψ : aB) : Prop := ψ.1 ≤ 6 ∧ (∀ k, k < ψ.1 → okW (ψ.2.1 k) ∧ ψ.2.2.1 k ≤ 3 ∧ 20 ≤ ψ.2.2.2.1 k ∧ ψ.2.2.2.1 k ≤ 160) ∧ (∀ k j, ψ.2.2.2.2.1 k = some j → j < ψ.1 ∧ j ≠ k) ∧ (∀ k t, ψ.2.2.2.2.2.1 k = some t → t < 720 ∧ k < ψ.1) ∧ (∀ L, ψ.2.2.2.2.2.2 = some L → L.length < 1000 ∧ (∀ x ∈ L, mr x.1 x.2.1 x.2.2) ∧ dpL L 0 = some 1) ∧ ∀ k, ψ.1 ≤ k → ψ.2.2.2.1 k = 0
def cQs (Q : Nat) : List Nat := [1, Q, Q + 1, Q + 2, Q + 3, Q + 4, Q + 6, Q + 7, Q + 8, Q + 9, Q + 10, Q + 11]
def CF (Q : Nat) (m m' : pm_M) : Prop := Same (cQs Q) m m' ∧ gI m' 1 1 = gI m 1 1
def RF (m m' : pm_M) : Prop := Same [175, 181, 182, 183, 185] m m' ∧ (∀ j, j ≠ 7 → j ≠ 8 → j ≠ 13 → j ≠ 17 → gI m' 175 j = gI m 175 j) ∧ (∀ j, j < 30 → gA m' 181 j = gA m 181 j) ∧ ∀ j, j < 1100 → gA m' 182 j = gA m 182 j ∧ gA m' 183 j = gA m 183 j
abbrev aO : Type := Nat ⊕ (Nat × aB)
def obI (o : aO) : Int32 := match o with
  | .inl _ => 0
  | .inr _ => 1
def oGood (N n : Nat) (o : aO) : Prop := match o with
  | .inl e => 0 < e ∧ e < 20000
  | .inr x => n < x.1 ∧ x.1 ≤ N ∧ okB x.2
def CO (tp : aT) (Q : Nat) (m : pm_M) (o : aO) (F : Option pv_O) : Prop := ∃ m', F = some (some (.int (obI o)), hp m') ∧ CF Q m m' ∧ (match o with
  | .inl e => gI m' 1 4 = nI e
  | .inr x => gI m' 1 4 = 0 ∧ CA m' tp x.1 ∧ CPs m' Q x.2)
def RO (tp : aT) (N : Nat) (m : pm_M) (o : aO) (F : Option pv_O) : Prop := ∃ m', F = some (none, hp m') ∧ RF m m' ∧ (match o with
  | .inl e => gI m' 175 8 = nI e
  | .inr x => MAt m' tp N x.1 ∧ RPs m' x.2)
/-- what both do from the n-th token on -/
def LN (tp : aT) (N Q n : Nat) (ψ : aB) (Fc Fr : pv_H → Option pv_O) : Prop := ∃ o, oGood N n o ∧ (∀ m, CA m tp n → gI m 1 4 = 0 → CPs m Q ψ → CO tp Q m o (Fc (hp m))) ∧ ∀ m, MAt m tp N n → RPs m ψ → RO tp N m o (Fr (hp m))
section LIN
variable {X : pv_X} {tp : aT} {N n Q : Nat} {ψ : aB} {m m' m1 m2 : pm_M} {LL : List Nat}
theorem CF.rf : CF Q m m := ⟨Same.rf, rfl⟩
theorem CF.tr (h : CF Q m m1) (h' : CF Q m1 m2) : CF Q m m2 := ⟨h.1.tr h'.1, h'.2.trans h.2⟩
theorem RF.rf : RF m m := ⟨Same.rf, fun _ _ _ _ _ => rfl, fun _ _ => rfl, fun _ _ => ⟨rfl, rfl⟩⟩
theorem RF.tr (h : RF m m1) (h' : RF m1 m2) : RF m m2 := ⟨h.1.tr h'.1, fun j h7 h8 h13 h17 => (h'.2.1 j h7 h8 h13 h17).trans (h.2.1 j h7 h8 h13 h17), fun j hj => (h'.2.2.1 j hj).trans (h.2.2.1 j hj), fun j hj => ⟨(h'.2.2.2 j hj).1.trans (h.2.2.2 j hj).1, (h'.2.2.2 j hj).2.trans (h.2.2.2 j hj).2⟩⟩
theorem CF.adv (s : Same [1] m m') (hT : cTap m tp) (hT' : cTap m' tp) : CF Q m m' := ⟨s.mono (by unfold cQs; simp), by rw [hT.1, hT'.1]⟩
theorem CF.f4 {v : Int32} : CF Q m (sI m 1 4 v) := ⟨Same.sI (by unfold cQs; simp), gI_sI_ne (Or.inr (by decide))⟩
theorem RF.f7 {v : Int32} : RF m (sI m 175 7 v) := ⟨Same.sI (by decide), fun j h7 _ _ _ => gI_sI_ne (Or.inr h7), fun _ _ => by rw [gA_sI], fun _ _ => ⟨by rw [gA_sI], by rw [gA_sI]⟩⟩
theorem RF.f8 {v : Int32} : RF m (sI m 175 8 v) := ⟨Same.sI (by decide), fun j _ h8 _ _ => gI_sI_ne (Or.inr h8), fun _ _ => by rw [gA_sI], fun _ _ => ⟨by rw [gA_sI], by rw [gA_sI]⟩⟩
/-- nothing of what is told changes by going on -/
theorem CPs.same (h : CPs m Q ψ) (hs : Same LL m m') (h0 : Q ∉ LL) (h1 : Q + 1 ∉ LL) (h2 : Q + 2 ∉ LL) (h3 : Q + 3 ∉ LL) (h4 : Q + 4 ∉ LL) (h6 : Q + 6 ∉ LL) (h7 : Q + 7 ∉ LL) (h8 : Q + 8 ∉ LL) (h9 : Q + 9 ∉ LL) (h10 : Q + 10 ∉ LL) (h11 : Q + 11 ∉ LL) : CPs m' Q ψ := by
  unfold CPs at h ⊢
  rw [hs.I h0, hs.Lr h1, hs.A h6, hs.A h10, hs.A h7, hs.A h2, hs.A h9, hs.A h11, hs.I h8, hs.A h4, hs.I h3, hs.I h3]
  exact h
theorem nin1 {a b : Nat} (h : a ≠ b) : a ∉ [b] := by simpa using h
theorem CPs.adv (h : CPs m Q ψ) (hs : Same [1] m m') (hQ : 3 ≤ Q) : CPs m' Q ψ := h.same hs (nin1 (by omega)) (nin1 (by omega)) (nin1 (by omega)) (nin1 (by omega)) (nin1 (by omega)) (nin1 (by omega)) (nin1 (by omega)) (nin1 (by omega)) (nin1 (by omega)) (nin1 (by omega)) (nin1 (by omega))
theorem RPs.cg (h : RPs m ψ) (e17 : gI m' 175 17 = gI m 175 17) (e13 : gI m' 175 13 = gI m 175 13) (a1 : gA m' 181 = gA m 181) (a2 : gA m' 182 = gA m 182) (a3 : gA m' 183 = gA m 183) (l5 : gL m' 185 = gL m 185) : RPs m' ψ := by
  obtain ⟨⟨c1, c2, c3, c4⟩, b1, b2, b3, b4, b5, b6⟩ := h
  refine ⟨⟨c1, ?_, fun k hk => ?_, c4⟩, by rw [a1]; exact b1, by rw [a1]; exact b2, by rw [a1]; exact b3, by rw [a1]; exact b4, by rw [a2, a3]; exact b5, by rw [e13, a2]; exact b6⟩
  · show gI m' 175 17 = _
    rw [e17]
    exact c2
  · show gL m' 185 k = _
    rw [l5]
    exact c3 k hk
theorem RPs.f7 {v : Int32} (h : RPs m ψ) : RPs (sI m 175 7 v) ψ := h.cg (gI_sI_ne (Or.inr (by decide))) (gI_sI_ne (Or.inr (by decide))) gA_sI gA_sI gA_sI gL_sI
/-- a token is gone past: class -/
theorem l_adv (ok : okTp tp) (hQ : 3 ≤ Q) (hA : CA m tp n) (h4 : gI m 1 4 = 0) (hP : CPs m Q ψ) : ∃ m1, pM X m_Tp_advance [.ref 1] (hp m) = some (none, hp m1) ∧ CA m1 tp (n + 1) ∧ gI m1 1 4 = 0 ∧ CPs m1 Q ψ ∧ CF Q m m1 := by
  obtain ⟨m1, a1, s1, g1, c1⟩ := w_adv (X := X) ok hA
  exact ⟨m1, a1, c1, by rw [g1]; exact h4, hP.adv s1 hQ, CF.adv s1 hA.1 c1.1⟩
/-- reference -/
theorem MAt.nx (hA : MAt m tp N n) (hn : n < N) : MAt (sI m 175 7 (nI (n + 1))) tp N (n + 1) := ⟨hA.1, hA.2.1, gI_sI_eq, hn, by rw [gI_sI_ne (Or.inr (by decide))]; exact hA.2.2.2.2⟩
theorem CO.fail {e : Nat} {F : Option pv_O} (h1 : F = some (some (.int 0), hp m')) (h2 : CF Q m m') (h3 : gI m' 1 4 = nI e) : CO tp Q m (.inl e) F := ⟨m', h1, h2, h3⟩
theorem CO.fine {x : Nat × aB} {F : Option pv_O} (h1 : F = some (some (.int 1), hp m')) (h2 : CF Q m m') (h3 : gI m' 1 4 = 0) (h4 : CA m' tp x.1) (h5 : CPs m' Q x.2) : CO tp Q m (.inr x) F := ⟨m', h1, h2, h3, h4, h5⟩
theorem RO.fail {e : Nat} {F : Option pv_O} (h1 : F = some (none, hp m')) (h2 : RF m m') (h3 : gI m' 175 8 = nI e) : RO tp N m (.inl e) F := ⟨m', h1, h2, h3⟩
theorem RO.fine {x : Nat × aB} {F : Option pv_O} (h1 : F = some (none, hp m')) (h2 : RF m m') (h3 : MAt m' tp N x.1) (h4 : RPs m' x.2) : RO tp N m (.inr x) F := ⟨m', h1, h2, h3, h4⟩
theorem sA_sf {a i : Nat} {v : Int32} (h : gA m a i = v) : sA m a (upd (gA m a) i v) = m := by
  have e : upd (gA m a) i v = gA m a := by
    funext j
    by_cases hj : j = i
    · subst hj; rw [pk_us, h]
    · rw [pk_un hj]
  rw [e]
  unfold sA gA
  have e2 : ∀ (f : Nat → Nat → Int32) (x : Nat), va_up f x (f x) = f := fun f x => by
    funext y
    by_cases hy : y = x
    · subst hy; simp [va_up]
    · simp [va_up, hy]
  rw [e2]
theorem RF.s181 {i : Nat} {v : Int32} (h : 30 ≤ i) : RF m (sA m 181 (upd (gA m 181) i v)) := ⟨Same.sA (by decide), fun _ _ _ _ _ => gI_sA, fun j hj => by rw [gA_sA, if_pos rfl, pk_un (by omega)], fun j hj => ⟨by rw [gA_sA, if_neg (by decide)], by rw [gA_sA, if_neg (by decide)]⟩⟩
theorem pix0 {a : Nat} : (32 + (4 * nI a) : Int32) = nI (32 + 4 * a) := by rw [show (32 : Int32) = nI 32 from rfl, show (4 : Int32) = nI 4 from rfl, pk_mul, nI_add]
theorem pix1 {a : Nat} : ((32 + (4 * nI a)) + 1 : Int32) = nI (33 + 4 * a) := by rw [pix0, show (1 : Int32) = nI 1 from rfl, nI_add]; congr 1; omega
theorem pix2 {a : Nat} : ((32 + (4 * nI a)) + 2 : Int32) = nI (34 + 4 * a) := by rw [pix0, show (2 : Int32) = nI 2 from rfl, nI_add]; congr 1; omega
theorem pix3 {a : Nat} : ((32 + (4 * nI a)) + 3 : Int32) = nI (35 + 4 * a) := by rw [pix0, show (3 : Int32) = nI 3 from rfl, nI_add]; congr 1; omega
theorem pix20 : ((32 + (4 * (0 : Int32))) + 2 : Int32) = nI 34 := by decide
theorem pix30 : ((32 + (4 * (0 : Int32))) + 3 : Int32) = nI 35 := by decide
/-! asks -/
def oAsk (tp : aT) (n : Nat) (ψ : aB) : aO := match psn tp (n + 1) ψ.1 ψ.2.1 with
  | .inl e => .inl e
  | .inr a => match ψ.2.2.2.2.1 a with
    | some _ => .inl (fl tp (ps tp (n + 1)) 3)
    | none => match psn tp (n + 2) ψ.1 ψ.2.1 with
      | .inl e => .inl e
      | .inr b => if b = a then .inl (fl tp (ps tp (n + 2)) 3) else .inr (n + 3, (ψ.1, ψ.2.1, ψ.2.2.1, ψ.2.2.2.1, upO ψ.2.2.2.2.1 a (some b), ψ.2.2.2.2.2))
theorem c_asks (T : TK tp N) (hQ : isPo Q) (h3 : 3 ≤ Q) (ok : okB ψ) (hA : CA m tp n) (h4 : gI m 1 4 = 0) (hP : CPs m Q ψ) : CO tp Q m (oAsk tp n ψ) (pM X m_Po_readAsks [.ref Q, .ref 1] (hp m)) := by
  obtain ⟨m1, a1, A1, f1, P1, F1⟩ := l_adv (X := X) T.1 h3 hA h4 hP
  have e1 := w_personAt (X := X) T.1 hQ ok.1 P1.1 (fun k hk => (P1.2.1 k hk).1) (fun k hk => (ok.2.1 k hk).1) A1
  have hz := ok.1
  unfold oAsk
  rw [e_Po_readAsks, u_Po_readAsks_0]
  simp only [tIs, tVs, bs, if_true, true_or, or_true, i10, if_false, not_false_eq_true, not_true_eq_false, Tp_rc, a1, Po_rc hQ]
  cases hp1 : psn tp (n + 1) ψ.1 ψ.2.1 with
  | inl e =>
    rw [hp1] at e1
    dsimp only at e1 ⊢
    simp only [e1, tIs, tVs, bs, if_true, true_or, or_true, i10, if_false, not_false_eq_true, not_true_eq_false, eq_self]
    exact CO.fail rfl (F1.tr CF.f4) gI_sI_eq
  | inr a =>
    rw [hp1] at e1
    dsimp only at e1 ⊢
    have ha := (psn_inr hp1).1
    simp only [e1, tIs, tVs, bs, if_true, true_or, or_true, i10, if_false, not_false_eq_true, not_true_eq_false, enc_m1 (show a < 2 ^ 31 by omega), Po_f4 hQ]
    rw [Po_a7 hQ (by omega), (P1.2.2.1 a (by omega)).1]
    cases hq : ψ.2.2.2.2.1 a with
    | some j =>
      have hj := (ok.2.2.1 a j hq).1
      simp only [enc, tIs, tVs, bs, if_true, true_or, or_true, i10, if_false, not_false_eq_true, not_true_eq_false, enc_m1 (show j < 2 ^ 31 by omega), Tp_rc, w_refuse (X := X) (v := 3) (vv := 3) rfl A1.2, eq_self]
      exact CO.fail rfl (F1.tr CF.f4) gI_sI_eq
    | none =>
      obtain ⟨m2, a2, A2, f2, P2, F2⟩ := l_adv (X := X) T.1 h3 A1 f1 P1
      have e2 := w_personAt (X := X) T.1 hQ ok.1 P2.1 (fun k hk => (P2.2.1 k hk).1) (fun k hk => (ok.2.1 k hk).1) A2
      simp only [enc, tIs, tVs, bs, if_true, true_or, or_true, i10, if_false, not_false_eq_true, not_true_eq_false, Tp_rc, a2, Po_rc hQ, eq_self]
      cases hp2 : psn tp (n + 2) ψ.1 ψ.2.1 with
      | inl e =>
        rw [hp2] at e2
        dsimp only at e2 ⊢
        simp only [e2, tIs, tVs, bs, if_true, true_or, or_true, i10, if_false, not_false_eq_true, not_true_eq_false, eq_self]
        exact CO.fail rfl ((F1.tr F2).tr CF.f4) gI_sI_eq
      | inr b =>
        rw [hp2] at e2
        dsimp only at e2 ⊢
        have hb := (psn_inr hp2).1
        simp only [e2, tIs, tVs, bs, if_true, true_or, or_true, i10, if_false, not_false_eq_true, not_true_eq_false, enc_m1 (show b < 2 ^ 31 by omega), nI_eq (show b < 2 ^ 31 by omega) (show a < 2 ^ 31 by omega)]
        by_cases hab : b = a
        · rw [if_pos hab, if_neg (fun z => z hab)]
          simp only [tIs, tVs, bs, if_true, true_or, or_true, i10, if_false, not_false_eq_true, not_true_eq_false, Tp_rc, w_refuse (X := X) (v := 3) (vv := 3) rfl A2.2, eq_self]
          exact CO.fail rfl ((F1.tr F2).tr CF.f4) gI_sI_eq
        · rw [if_pos hab, if_neg hab, Po_f4 hQ]
          simp only [tIs, tVs, bs, if_true, true_or, or_true, i10, if_false, not_false_eq_true, not_true_eq_false]
          rw [Po_s7 hQ (by omega)]
          have s3 : Same [Q + 7] m2 (sA m2 (Q + 7) (upd (gA m2 (Q + 7)) a (nI b))) := Same.sA (by simp)
          have A3 : CA (sA m2 (Q + 7) (upd (gA m2 (Q + 7)) a (nI b))) tp (n + 2) := A2.same s3 (nin1 (by omega)) (nin1 (by omega))
          have F3 : CF Q m2 (sA m2 (Q + 7) (upd (gA m2 (Q + 7)) a (nI b))) := ⟨s3.mono (by unfold cQs; simp), gI_sA⟩
          have P3 : CPs (sA m2 (Q + 7) (upd (gA m2 (Q + 7)) a (nI b))) Q (ψ.1, ψ.2.1, ψ.2.2.1, ψ.2.2.2.1, upO ψ.2.2.2.2.1 a (some b), ψ.2.2.2.2.2) := by
            obtain ⟨b1, b2, b3, b4, b5, b6, b7⟩ := P2
            refine ⟨b1, fun k hk => ?_, fun k hk => ?_, b4, b5, b6, ?_⟩
            · rw [gL_sA, gA_sA, if_neg (by omega)]
              exact b2 k hk
            · rw [gA_sA, if_pos rfl, gA_sA, if_neg (by omega), gA_sA, if_neg (by omega), gA_sA, if_neg (by omega), gA_sA, if_neg (by omega)]
              obtain ⟨d1, d2⟩ := b3 k hk
              refine ⟨?_, d2⟩
              dsimp only
              by_cases hka : k = a
              · subst hka; rw [pk_us, upO_s]; rfl
              · rw [pk_un hka, upO_n hka]; exact d1
            · rw [gA_sA, if_neg (by omega)]
              exact b7
          have f3 : gI (sA m2 (Q + 7) (upd (gA m2 (Q + 7)) a (nI b))) 1 4 = 0 := f2
          obtain ⟨m4, a4, A4, f4, P4, F4⟩ := l_adv (X := X) T.1 h3 A3 f3 P3
          simp only [tIs, tVs, bs, if_true, true_or, or_true, i10, if_false, not_false_eq_true, not_true_eq_false, Tp_rc, a4]
          exact CO.fine rfl (((F1.tr F2).tr F3).tr F4) f4 A4 P4
theorem x83 {v1 v3 s0 : Int32} {i e : Nat} (hi : i < 60) (h8 : gI m 175 8 = nI e) (h0 : 0 < e) (h31 : e < 2 ^ 31) : f_Md_readLine_83 X 175 v1 (nI i) v3 s0 175 (hp m) = some (none, hp m) := by
  rw [u_Md_readLine_83]
  simp only [tIs, tVs, bs, if_true, true_or, or_true, i10, if_false, not_false_eq_true, not_true_eq_false, Md_rc, Md_f1, Md_f4, Md_f5, Md_f6, Md_f9, Md_f10, Md_f11, Md_f12, Md_f14, Md_f15, Md_f18, Md_f19, Md_f20, Md_f21, Md_f23, Md_f24, Md_f25, Md_f26, Md_f28, x_takes (X := X) (b := s0) h8 h0 h31, Md_f8, h8]
  rw [if_neg (nI_nle h0 h31), ld_181 hi]
  simp only [tIs, tVs, bs, if_true, true_or, or_true, i10, if_false, not_false_eq_true, not_true_eq_false, Md_rc, Md_f1, Md_f4, Md_f5, Md_f6, Md_f9, Md_f10, Md_f11, Md_f12, Md_f14, Md_f15, Md_f18, Md_f19, Md_f20, Md_f21, Md_f23, Md_f24, Md_f25, Md_f26, Md_f28]
  rw [u_Md_readLine_108, st_181 hi, sA_sf rfl]
  simp only [tIs, tVs, bs, if_true, true_or, or_true, i10, if_false, not_false_eq_true, not_true_eq_false, Md_rc, Md_f1, Md_f4, Md_f5, Md_f6, Md_f9, Md_f10, Md_f11, Md_f12, Md_f14, Md_f15, Md_f18, Md_f19, Md_f20, Md_f21, Md_f23, Md_f24, Md_f25, Md_f26, Md_f28, u_Md_readLine_200]
theorem x63 {v1 s0 : Int32} {i e : Nat} (hi : i < 60) (h8 : gI m 175 8 = nI e) (h0 : 0 < e) (h31 : e < 2 ^ 31) : f_Md_readLine_63 X 175 v1 (nI i) s0 175 (hp m) = some (none, hp m) := by
  rw [u_Md_readLine_63]
  simp only [tIs, tVs, bs, if_true, true_or, or_true, i10, if_false, not_false_eq_true, not_true_eq_false, Md_rc, Md_f1, Md_f4, Md_f5, Md_f6, Md_f9, Md_f10, Md_f11, Md_f12, Md_f14, Md_f15, Md_f18, Md_f19, Md_f20, Md_f21, Md_f23, Md_f24, Md_f25, Md_f26, Md_f28, x_takes (X := X) (b := s0) h8 h0 h31, x_toldHere (X := X) (b := 1) h8 h0 h31, x83 hi h8 h0 h31, ite_self]
theorem x158 {s0 : Int32} {i e : Nat} (hi : i < 60) (h8 : gI m 175 8 = nI e) (h0 : 0 < e) (h31 : e < 2 ^ 31) : f_Md_readLine_158 X 175 (nI i) s0 175 (hp m) = some (none, hp m) := by
  rw [u_Md_readLine_158]
  simp only [tIs, tVs, bs, if_true, true_or, or_true, i10, if_false, not_false_eq_true, not_true_eq_false, Md_rc, Md_f1, Md_f4, Md_f5, Md_f6, Md_f9, Md_f10, Md_f11, Md_f12, Md_f14, Md_f15, Md_f18, Md_f19, Md_f20, Md_f21, Md_f23, Md_f24, Md_f25, Md_f26, Md_f28, x_takes (X := X) (b := s0) h8 h0 h31, x_takeNumber (X := X) (vl := 0) (vu := 719) h8 h0 h31, Md_f8, h8]
  rw [if_neg (nI_nle h0 h31), ld_181 hi]
  simp only [tIs, tVs, bs, if_true, true_or, or_true, i10, if_false, not_false_eq_true, not_true_eq_false, Md_rc, Md_f1, Md_f4, Md_f5, Md_f6, Md_f9, Md_f10, Md_f11, Md_f12, Md_f14, Md_f15, Md_f18, Md_f19, Md_f20, Md_f21, Md_f23, Md_f24, Md_f25, Md_f26, Md_f28]
  rw [u_Md_readLine_192, st_181 hi, sA_sf rfl]
  simp only [tIs, tVs, bs, if_true, true_or, or_true, i10, if_false, not_false_eq_true, not_true_eq_false, Md_rc, Md_f1, Md_f4, Md_f5, Md_f6, Md_f9, Md_f10, Md_f11, Md_f12, Md_f14, Md_f15, Md_f18, Md_f19, Md_f20, Md_f21, Md_f23, Md_f24, Md_f25, Md_f26, Md_f28, u_Md_readLine_200]
theorem enc_lt0 {o : Option Nat} (h : ∀ j, o = some j → j < 1000) : (enc o < 0) ↔ o = none := by
  cases o with
  | none => exact ⟨fun _ => rfl, fun _ => (by decide : (-1 : Int32) < 0)⟩
  | some j => exact ⟨fun z => absurd z (nI_pos (by have := h j rfl; omega)), fun z => by cases z⟩
theorem d_asksL (T : TK tp N) (ok : okB ψ) (hn : n ≤ N) (h0 : isW tp (ps tp n) (tx 1) = false) (h2 : isW tp (ps tp n) (tx 2) = true) (hA : MAt m tp N n) (hP : RPs m ψ) : RO tp N m (oAsk tp n ψ) (pM X m_Md_readLine [.ref 175] (hp m)) := by
  have hz := ok.1
  have hnN : n < N := T.lt hn (by rw [(isW_s h2).1]; decide)
  have A1 := hA.nx hnN
  have P1 : RPs (sI m 175 7 (nI (n + 1))) ψ := hP.f7
  have F1 : RF m (sI m 175 7 (nI (n + 1))) := RF.f7
  have e1 := m_toldHere (X := X) (b := true) T P1.1 A1
  rw [bI_t] at e1
  unfold oAsk
  rw [e_Md_readLine, u_Md_readLine_0]
  simp only [tIs, tVs, bs, if_true, true_or, or_true, i10, if_false, not_false_eq_true, not_true_eq_false, Md_rc, Md_f1, Md_f4, Md_f5, Md_f6, Md_f9, Md_f10, Md_f11, Md_f12, Md_f14, Md_f15, Md_f18, Md_f19, Md_f20, Md_f21, Md_f23, Md_f24, Md_f25, Md_f26, Md_f28, m_isW (X := X) (k := 0) (j := 1) (vk := 0) rfl (by decide) rfl hA, m_isW (X := X) (k := 2) (j := 2) (vk := 2) rfl (by decide) rfl hA, h0, h2, bI_t, bI_f, eq_self, Md_f7, hA.2.2.1, nI_1, Md_p7]
  generalize sI m 175 7 (nI (n + 1)) = m1 at A1 P1 F1 e1
  cases hp1 : psn tp (n + 1) ψ.1 ψ.2.1 with
  | inl e =>
    obtain ⟨g0, g1⟩ := psn_inl T hp1
    rw [hp1] at e1
    dsimp only at e1 ⊢
    have h8 : gI (sI m1 175 8 (nI e)) 175 8 = nI e := gI_sI_eq
    simp only [e1, tIs, tVs, bs, if_true, true_or, or_true, i10, if_false, not_false_eq_true, not_true_eq_false, Md_rc, Md_f1, Md_f4, Md_f5, Md_f6, Md_f9, Md_f10, Md_f11, Md_f12, Md_f14, Md_f15, Md_f18, Md_f19, Md_f20, Md_f21, Md_f23, Md_f24, Md_f25, Md_f26, Md_f28, pix20]
    rw [ld_181 (by decide)]
    simp only [tIs, tVs, bs, if_true, true_or, or_true, i10, if_false, not_false_eq_true, not_true_eq_false, Md_rc, Md_f1, Md_f4, Md_f5, Md_f6, Md_f9, Md_f10, Md_f11, Md_f12, Md_f14, Md_f15, Md_f18, Md_f19, Md_f20, Md_f21, Md_f23, Md_f24, Md_f25, Md_f26, Md_f28, x63 (X := X) (i := 34) (by decide) h8 g0 (by omega), ite_self]
    exact RO.fail rfl (F1.tr RF.f8) h8
  | inr a =>
    rw [hp1] at e1
    dsimp only at e1 ⊢
    obtain ⟨ha, hs1⟩ := psn_inr hp1
    have h1N : n + 1 < N := T.lt A1.2.2.2.1 (by rw [hs1]; decide)
    simp only [e1, tIs, tVs, bs, if_true, true_or, or_true, i10, if_false, not_false_eq_true, not_true_eq_false, Md_rc, Md_f1, Md_f4, Md_f5, Md_f6, Md_f9, Md_f10, Md_f11, Md_f12, Md_f14, Md_f15, Md_f18, Md_f19, Md_f20, Md_f21, Md_f23, Md_f24, Md_f25, Md_f26, Md_f28, pix2]
    rw [ld_181 (by omega), (P1.2.2.2.2.1 a (by omega)).1]
    simp only [tIs, tVs, bs, if_true, true_or, or_true, i10, if_false, not_false_eq_true, not_true_eq_false, Md_rc, Md_f1, Md_f4, Md_f5, Md_f6, Md_f9, Md_f10, Md_f11, Md_f12, Md_f14, Md_f15, Md_f18, Md_f19, Md_f20, Md_f21, Md_f23, Md_f24, Md_f25, Md_f26, Md_f28, enc_lt0 (fun j hj => by have := (ok.2.2.1 a j hj).1; omega)]
    cases hq : ψ.2.2.2.2.1 a with
    | some j =>
      obtain ⟨g0, g1⟩ := fl_lt (n := n + 1) (v := 3) T (by decide) (by decide)
      have h8 : gI (sI m1 175 8 (nI (fl tp (ps tp (n + 1)) 3))) 175 8 = nI (fl tp (ps tp (n + 1)) 3) := gI_sI_eq
      rw [if_neg (fun z => by cases z), u_Md_readLine_63]
      simp only [tIs, tVs, bs, if_true, true_or, or_true, i10, if_false, not_false_eq_true, not_true_eq_false, Md_rc, Md_f1, Md_f4, Md_f5, Md_f6, Md_f9, Md_f10, Md_f11, Md_f12, Md_f14, Md_f15, Md_f18, Md_f19, Md_f20, Md_f21, Md_f23, Md_f24, Md_f25, Md_f26, Md_f28, m_takes1 (X := X) T A1, x_toldHere (X := X) (b := 1) h8 (by omega) (by omega), x83 (X := X) (i := 34 + 4 * a) (by omega) h8 (by omega) (by omega), ite_self]
      exact RO.fail rfl (F1.tr RF.f8) h8
    | none =>
      have A2 := A1.nx h1N
      have P2 : RPs (sI m1 175 7 (nI (n + 2))) ψ := P1.f7
      have F2 : RF m1 (sI m1 175 7 (nI (n + 2))) := RF.f7
      have e2 := m_toldHere (X := X) (b := true) T P2.1 A2
      rw [bI_t] at e2
      have t2 : pM X m_Md_takes [.ref 175, .int 0] (hp m1) = some (none, hp (sI m1 175 7 (nI (n + 2)))) := m_takes0 A1
      rw [if_pos rfl, u_Md_readLine_63]
      simp only [tIs, tVs, bs, if_true, true_or, or_true, i10, if_false, not_false_eq_true, not_true_eq_false, Md_rc, Md_f1, Md_f4, Md_f5, Md_f6, Md_f9, Md_f10, Md_f11, Md_f12, Md_f14, Md_f15, Md_f18, Md_f19, Md_f20, Md_f21, Md_f23, Md_f24, Md_f25, Md_f26, Md_f28, t2]
      generalize sI m1 175 7 (nI (n + 2)) = m2 at A2 P2 F2 e2
      cases hp2 : psn tp (n + 2) ψ.1 ψ.2.1 with
      | inl e =>
        obtain ⟨g0, g1⟩ := psn_inl T hp2
        rw [hp2] at e2
        dsimp only at e2 ⊢
        have h8 : gI (sI m2 175 8 (nI e)) 175 8 = nI e := gI_sI_eq
        simp only [e2, tIs, tVs, bs, if_true, true_or, or_true, i10, if_false, not_false_eq_true, not_true_eq_false, Md_rc, Md_f1, Md_f4, Md_f5, Md_f6, Md_f9, Md_f10, Md_f11, Md_f12, Md_f14, Md_f15, Md_f18, Md_f19, Md_f20, Md_f21, Md_f23, Md_f24, Md_f25, Md_f26, Md_f28, x83 (X := X) (i := 34 + 4 * a) (by omega) h8 g0 (by omega), ite_self]
        exact RO.fail rfl ((F1.tr F2).tr RF.f8) h8
      | inr b =>
        rw [hp2] at e2
        dsimp only at e2 ⊢
        obtain ⟨hb, hs2⟩ := psn_inr hp2
        have h2N : n + 2 < N := T.lt A2.2.2.2.1 (by rw [hs2]; decide)
        simp only [e2, tIs, tVs, bs, if_true, true_or, or_true, i10, if_false, not_false_eq_true, not_true_eq_false, Md_rc, Md_f1, Md_f4, Md_f5, Md_f6, Md_f9, Md_f10, Md_f11, Md_f12, Md_f14, Md_f15, Md_f18, Md_f19, Md_f20, Md_f21, Md_f23, Md_f24, Md_f25, Md_f26, Md_f28, nI_eq (show a < 2 ^ 31 by omega) (show b < 2 ^ 31 by omega)]
        by_cases hab : b = a
        · obtain ⟨g0, g1⟩ := fl_lt (n := n + 2) (v := 3) T (by decide) (by decide)
          have h8 : gI (sI m2 175 8 (nI (fl tp (ps tp (n + 2)) 3))) 175 8 = nI (fl tp (ps tp (n + 2)) 3) := gI_sI_eq
          rw [if_pos hab, if_neg (fun z => z hab.symm), u_Md_readLine_83]
          simp only [tIs, tVs, bs, if_true, true_or, or_true, i10, if_false, not_false_eq_true, not_true_eq_false, Md_rc, Md_f1, Md_f4, Md_f5, Md_f6, Md_f9, Md_f10, Md_f11, Md_f12, Md_f14, Md_f15, Md_f18, Md_f19, Md_f20, Md_f21, Md_f23, Md_f24, Md_f25, Md_f26, Md_f28, m_takes1 (X := X) T A2, Md_f8, h8]
          rw [if_neg (nI_nle (by omega) (by omega)), ld_181 (by omega)]
          simp only [tIs, tVs, bs, if_true, true_or, or_true, i10, if_false, not_false_eq_true, not_true_eq_false, Md_rc, Md_f1, Md_f4, Md_f5, Md_f6, Md_f9, Md_f10, Md_f11, Md_f12, Md_f14, Md_f15, Md_f18, Md_f19, Md_f20, Md_f21, Md_f23, Md_f24, Md_f25, Md_f26, Md_f28]
          rw [u_Md_readLine_108, st_181 (by omega), sA_sf rfl]
          simp only [tIs, tVs, bs, if_true, true_or, or_true, i10, if_false, not_false_eq_true, not_true_eq_false, Md_rc, Md_f1, Md_f4, Md_f5, Md_f6, Md_f9, Md_f10, Md_f11, Md_f12, Md_f14, Md_f15, Md_f18, Md_f19, Md_f20, Md_f21, Md_f23, Md_f24, Md_f25, Md_f26, Md_f28, u_Md_readLine_200]
          exact RO.fail rfl ((F1.tr F2).tr RF.f8) h8
        · have A3 := A2.nx h2N
          have P3 : RPs (sI m2 175 7 (nI (n + 3))) ψ := P2.f7
          have F3 : RF m2 (sI m2 175 7 (nI (n + 3))) := RF.f7
          have t3 : pM X m_Md_takes [.ref 175, .int 0] (hp m2) = some (none, hp (sI m2 175 7 (nI (n + 3)))) := m_takes0 A2
          rw [if_pos (fun z => hab z.symm), if_neg hab, u_Md_readLine_83]
          simp only [tIs, tVs, bs, if_true, true_or, or_true, i10, if_false, not_false_eq_true, not_true_eq_false, Md_rc, Md_f1, Md_f4, Md_f5, Md_f6, Md_f9, Md_f10, Md_f11, Md_f12, Md_f14, Md_f15, Md_f18, Md_f19, Md_f20, Md_f21, Md_f23, Md_f24, Md_f25, Md_f26, Md_f28, t3, Md_f8]
          generalize sI m2 175 7 (nI (n + 3)) = m3 at A3 P3 F3
          have f3 : gI m3 175 8 = 0 := A3.2.2.2.2
          simp only [f3, le00, tIs, tVs, bs, if_true, true_or, or_true, i10, if_false, not_false_eq_true, not_true_eq_false, Md_rc, Md_f1, Md_f4, Md_f5, Md_f6, Md_f9, Md_f10, Md_f11, Md_f12, Md_f14, Md_f15, Md_f18, Md_f19, Md_f20, Md_f21, Md_f23, Md_f24, Md_f25, Md_f26, Md_f28]
          rw [u_Md_readLine_108, st_181 (by omega)]
          simp only [tIs, tVs, bs, if_true, true_or, or_true, i10, if_false, not_false_eq_true, not_true_eq_false, Md_rc, Md_f1, Md_f4, Md_f5, Md_f6, Md_f9, Md_f10, Md_f11, Md_f12, Md_f14, Md_f15, Md_f18, Md_f19, Md_f20, Md_f21, Md_f23, Md_f24, Md_f25, Md_f26, Md_f28, u_Md_readLine_200]
          refine RO.fine rfl (((F1.tr F2).tr F3).tr (RF.s181 (by omega))) ?_ ?_
          · exact A3.same (LL := [181]) (Same.sA (by decide)) (by decide) (by decide) (by decide) (by decide) A3.2.2.1 A3.2.2.2.1 A3.2.2.2.2
          · obtain ⟨b0, b1, b2, b3, b4, b5, b6⟩ := P3
            refine ⟨b0, ?_, ?_, fun k hk => ?_, fun k hk => ?_, ?_, ?_⟩
            · rw [gA_sA, if_pos rfl, pk_un (by omega)]; exact b1
            · rw [gA_sA, if_pos rfl, pk_un (by omega)]; exact b2
            · rw [gA_sA, if_pos rfl, pk_un (by omega), pk_un (by omega)]; exact b3 k hk
            · rw [gA_sA, if_pos rfl, pk_un (show 35 + 4 * k ≠ 34 + 4 * a by omega)]
              refine ⟨?_, (b4 k hk).2⟩
              dsimp only
              by_cases hka : k = a
              · subst hka; rw [pk_us, upO_s]; rfl
              · rw [pk_un (by omega), upO_n hka]; exact (b4 k hk).1
            · rw [gA_sA, if_neg (by decide), gA_sA, if_neg (by decide)]; exact b5
            · rw [gA_sA, if_neg (by decide)]; exact b6
theorem oAsk_good (T : TK tp N) (ok : okB ψ) (hn : n < N) : oGood N n (oAsk tp n ψ) := by
  unfold oAsk
  cases hp1 : psn tp (n + 1) ψ.1 ψ.2.1 with
  | inl e => exact psn_inl T hp1
  | inr a =>
    obtain ⟨ha, hs1⟩ := psn_inr hp1
    have h1N : n + 1 < N := T.lt hn (by rw [hs1]; decide)
    dsimp only
    cases hq : ψ.2.2.2.2.1 a with
    | some j => have := fl_lt (n := n + 1) (v := 3) T (by decide) (by decide); exact ⟨by omega, this.1⟩
    | none =>
      dsimp only
      cases hp2 : psn tp (n + 2) ψ.1 ψ.2.1 with
      | inl e => exact psn_inl T hp2
      | inr b =>
        obtain ⟨hb, hs2⟩ := psn_inr hp2
        have h2N : n + 2 < N := T.lt h1N (by rw [hs2]; decide)
        dsimp only
        by_cases hab : b = a
        · rw [if_pos hab]
          have := fl_lt (n := n + 2) (v := 3) T (by decide) (by decide)
          exact ⟨by omega, this.1⟩
        · rw [if_neg hab]
          refine ⟨by show n < n + 3; omega, h2N, ok.1, ok.2.1, fun k j hkj => ?_, ok.2.2.2⟩
          dsimp only at hkj ⊢
          by_cases hka : k = a
          · subst hka
            rw [upO_s] at hkj
            cases hkj
            exact ⟨hb, hab⟩
          · rw [upO_n hka] at hkj
            exact ok.2.2.1 k j hkj
end LIN
