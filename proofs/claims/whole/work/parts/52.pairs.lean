/-! What was SEEN; pairs. -/
/-- the clues: how many, and each one's person, quarters, out -/
abbrev aC : Type := Nat × (Nat → Nat) × (Nat → Nat) × (Nat → Int32)
def isCl (a : Nat) : Prop := pm_T[a]? = some (.inr (0, [(2, a + 1), (2, a + 2), (2, a + 3), (0, 0)])) ∧ pm_T[a + 1]? = some (.inl (1, 6)) ∧ pm_T[a + 2]? = some (.inl (1, 6)) ∧ pm_T[a + 3]? = some (.inl (1, 6))
theorem isCl_109 : isCl 109 := ⟨rfl, rfl, rfl, rfl⟩
theorem isCl_113 : isCl 113 := ⟨rfl, rfl, rfl, rfl⟩
section CLF
variable {m : pm_M} {X : pv_X} {a k : Nat}
theorem Cl_f0 (ha : isCl a) : pv_fR (hp m) a 0 0 = some (a + 1) := hp_fR ha.1 rfl
theorem Cl_f1 (ha : isCl a) : pv_fR (hp m) a 0 1 = some (a + 2) := hp_fR ha.1 rfl
theorem Cl_f2 (ha : isCl a) : pv_fR (hp m) a 0 2 = some (a + 3) := hp_fR ha.1 rfl
theorem Cl_f3 (ha : isCl a) : pv_fI (hp m) a 0 3 = some (gI m a 3) := hp_fI ha.1 rfl
theorem Cl_p3 (ha : isCl a) {v : Int32} : pv_fp (hp m) a 0 3 (.int v) = some (hp (sI m a 3 v)) := hp_pI ha.1 rfl
theorem Cl_rc (ha : isCl a) : pv_rc (hp m) a 0 = true := hp_rc ha.1
theorem Cl_a1 (ha : isCl a) (hk : k < 6) : pv_aX X (hp m) (a + 1) (nI k) = some (gA m (a + 1) k) := ar_ld ha.2.1 hk (by decide)
theorem Cl_a2 (ha : isCl a) (hk : k < 6) : pv_aX X (hp m) (a + 2) (nI k) = some (gA m (a + 2) k) := ar_ld ha.2.2.1 hk (by decide)
theorem Cl_a3 (ha : isCl a) (hk : k < 6) : pv_aX X (hp m) (a + 3) (nI k) = some (gA m (a + 3) k) := ar_ld ha.2.2.2 hk (by decide)
end CLF
/-- the class's clues there -/
def clC (m : pm_M) (a : Nat) (C : aC) : Prop := C.1 ≤ 6 ∧ gI m a 3 = nI C.1 ∧ ∀ i, i < C.1 → gA m (a + 2) i = nI (C.2.2.1 i) ∧ gA m (a + 3) i = C.2.2.2 i
/-- what was SEEN, in class and reference -/
def SN (m : pm_M) (n : Nat) (C : aC) : Prop := clC m 109 C ∧ (∀ i, i < C.1 → gA m 110 i = nI (C.2.1 i) ∧ C.2.1 i < n ∧ C.2.2.1 i ≤ 24) ∧ gA m 189 19 = nI C.1 ∧ ∀ i, i < C.1 → gA m 189 (20 + 3 * i) = nI (C.2.1 i) ∧ gA m 189 (20 + 3 * i + 1) = nI (C.2.2.1 i) ∧ gA m 189 (20 + 3 * i + 2) = C.2.2.2 i
theorem SN.q {m m' : pm_M} {n : Nat} {C : aC} (h : SN m n C) (hq : Q m m') : SN m' n C := by
  obtain ⟨⟨h1, h2, h3⟩, h4, h5, h6⟩ := h
  refine ⟨⟨h1, by rw [hq.1.I (by decide)]; exact h2, fun i hi => by rw [hq.1.A (by decide), hq.1.A (by decide)]; exact h3 i hi⟩, fun i hi => by rw [hq.1.A (by decide)]; exact h4 i hi, by rw [hq.2.2 _ (by decide)]; exact h5, fun i hi => ?_⟩
  rw [hq.2.2 _ (by omega), hq.2.2 _ (by omega), hq.2.2 _ (by omega)]
  exact h6 i hi
/-- one clue fits -/
def cl1 (π : aP) (C : aC) (s : aS) (i : Nat) : Bool := decide (aOut (pqn π (C.2.2.1 i) s) (C.2.1 i) = C.2.2.2 i)
def alC (π : aP) (C : aC) (s : aS) : Bool := (List.range C.1).all (cl1 π C s)
def bI (b : Bool) : Int32 := if b then 1 else 0
def okc (C : aC) (t : aS) (q : Nat) : Nat → Nat → Bool
  | 0, _ => true
  | d + 1, i => (!decide (C.2.2.1 i = q) || decide (aOut t (C.2.1 i) = C.2.2.2 i)) && okc C t q d (i + 1)
def moc (C : aC) (q : Nat) : Nat → Nat → Bool
  | 0, _ => false
  | d + 1, i => decide (q < C.2.2.1 i) || moc C q d (i + 1)
theorem okc_iff {C : aC} {t : aS} {q : Nat} : ∀ (d i : Nat), okc C t q d i = true ↔ ∀ j, i ≤ j → j < i + d → C.2.2.1 j = q → aOut t (C.2.1 j) = C.2.2.2 j
  | 0, i => ⟨fun _ j h1 h2 => by omega, fun _ => rfl⟩
  | d + 1, i => by
    simp only [okc, Bool.and_eq_true, Bool.or_eq_true, Bool.not_eq_true', decide_eq_false_iff_not, decide_eq_true_eq, okc_iff d (i + 1)]
    constructor
    · intro ⟨h1, h2⟩ j hj1 hj2 hq
      by_cases h : j = i
      · subst h; exact h1.resolve_left (fun z => z hq)
      · exact h2 j (by omega) (by omega) hq
    · intro h
      refine ⟨?_, fun j hj1 hj2 hq => h j (by omega) (by omega) hq⟩
      by_cases hq : C.2.2.1 i = q
      · exact Or.inr (h i (by omega) (by omega) hq)
      · exact Or.inl hq
theorem moc_iff {C : aC} {q : Nat} : ∀ (d i : Nat), moc C q d i = true ↔ ∃ j, i ≤ j ∧ j < i + d ∧ q < C.2.2.1 j
  | 0, i => ⟨fun h => by simp [moc] at h, fun ⟨j, h1, h2, _⟩ => by omega⟩
  | d + 1, i => by
    simp only [moc, Bool.or_eq_true, decide_eq_true_eq, moc_iff d (i + 1)]
    constructor
    · rintro (h | ⟨j, h1, h2, h3⟩)
      · exact ⟨i, by omega, by omega, h⟩
      · exact ⟨j, by omega, by omega, h3⟩
    · rintro ⟨j, h1, h2, h3⟩
      by_cases h : j = i
      · subst h; exact Or.inl h3
      · exact Or.inr ⟨j, by omega, by omega, h3⟩
theorem bI_or (a b : Bool) : bI a ||| bI b = bI (a || b) := by cases a <;> cases b <;> decide
section QB
variable {m : pm_M} {X : pv_X} {P c a b : Nat} {π : aP} {s : aS} {C : aC}
theorem w_seen34 {q : Nat} {t : aS} {va vb : Int32} (hC : HC m P π s) (hS : SN m π.1 C) (hv : vw m 39 = t) (hq : q ≤ 24) : ∀ (d i : Nat) (mb : Bool), i + d = C.1 → f_Wp_agreesWithSeen_34 X 0 va vb (nI q) (bI mb) (nI i) (hp m) = if okc C t q d i then f_Wp_agreesWithSeen_34 X 0 va vb (nI q) (bI (mb || moc C q d i)) (nI C.1) (hp m) else some (some (.int 0), hp m) := by
  have hn := hC.n6
  intro d
  induction d with
  | zero =>
    intro i mb hi
    simp only [okc, moc, if_true, Bool.or_false]
    rw [show i = C.1 by omega]
  | succ d ih =>
    intro i mb hi
    have h6 := hS.1.1
    obtain ⟨c1, c2⟩ := hS.1.2.2 i (by omega)
    obtain ⟨p1, p2, p3⟩ := hS.2.1 i (by omega)
    have go : f_Wp_agreesWithSeen_92 X 0 va vb (nI q) (bI mb) (nI i) (hp m) = f_Wp_agreesWithSeen_34 X 0 va vb (nI q) (bI (mb || decide (q < C.2.2.1 i))) (nI (i + 1)) (hp m) := by
      rw [u_Wp_agreesWithSeen_92]
      simp only [tIs, tVs, bs, if_true, true_or, or_true, i10, if_false, not_false_eq_true, not_true_eq_false, Wp_rc, Wp_f5, Wp_f6, Wp_f7, Wp_f8, Wp_f9, Wp_f10, Wp_f11, Wp_f12, Wp_f13, Wp_f14, Cl_f1 isCl_109, Cl_a2 isCl_109 (show i < 6 by omega), c1, u_Wp_agreesWithSeen_113, nI_1]
      simp only [nI_leI (show C.2.2.1 i < 2 ^ 31 by omega) (show q < 2 ^ 31 by omega)]
      rw [← bI_or]
      by_cases h : q < C.2.2.1 i
      · rw [if_neg (by omega), decide_eq_true h]; rfl
      · rw [if_pos (by omega), decide_eq_false h]; rfl
    rw [u_Wp_agreesWithSeen_34]
    simp only [tIs, tVs, bs, if_true, true_or, or_true, i10, if_false, not_false_eq_true, not_true_eq_false, Wp_rc, Wp_f5, Wp_f6, Wp_f7, Wp_f8, Wp_f9, Wp_f10, Wp_f11, Wp_f12, Wp_f13, Wp_f14, Cl_f3 isCl_109, hS.1.2.1]
    rw [if_neg (nI_ge (show i < C.1 by omega) (by omega))]
    simp only [tIs, tVs, bs, if_true, true_or, or_true, i10, if_false, not_false_eq_true, not_true_eq_false, Wp_rc, Wp_f5, Wp_f6, Wp_f7, Wp_f8, Wp_f9, Wp_f10, Wp_f11, Wp_f12, Wp_f13, Wp_f14, Cl_f1 isCl_109, Cl_a2 isCl_109 (show i < 6 by omega), c1, Cl_f0 isCl_109, Cl_a1 isCl_109 (show i < 6 by omega), St_rc isSt_39]
    simp only [p1, tIs, tVs, bs, if_true, true_or, or_true, i10, if_false, not_false_eq_true, not_true_eq_false, Wp_rc, Wp_f5, Wp_f6, Wp_f7, Wp_f8, Wp_f9, Wp_f10, Wp_f11, Wp_f12, Wp_f13, Wp_f14, vw_out isSt_39 (show C.2.1 i < 6 by omega) hv, Cl_f2 isCl_109, Cl_a3 isCl_109 (show i < 6 by omega), c2]
    simp only [nI_eq (show C.2.2.1 i < 2 ^ 31 by omega) (show q < 2 ^ 31 by omega)]
    rw [go, ih (i + 1) (mb || decide (q < C.2.2.1 i)) (by omega)]
    have em : moc C q (d + 1) i = (decide (q < C.2.2.1 i) || moc C q d (i + 1)) := by simp only [moc]
    rw [em, ← Bool.or_assoc]
    by_cases hqi : C.2.2.1 i = q
    · rw [if_neg (fun z => z hqi)]
      by_cases ho : aOut t (C.2.1 i) = C.2.2.2 i
      · have eo : okc C t q (d + 1) i = okc C t q d (i + 1) := by simp only [okc]; rw [decide_eq_true ho]; simp
        rw [if_pos ho, eo]
      · have eo : okc C t q (d + 1) i = false := by simp only [okc]; rw [decide_eq_false ho, decide_eq_true hqi]; simp
        rw [if_neg ho, eo]
        rfl
    · have eo : okc C t q (d + 1) i = okc C t q d (i + 1) := by simp only [okc]; rw [decide_eq_false hqi]; simp
      rw [if_pos hqi, eo]
theorem seen_fx {t0 : aS} (h24 : ∀ i, i < C.1 → C.2.2.1 i ≤ 24) : ∀ (d q : Nat), q + d = 25 → (∀ i, i < C.1 → C.2.2.1 i < q → aOut (pqn π (C.2.2.1 i) t0) (C.2.1 i) = C.2.2.2 i) → fx (fun q (t : aS) => if okc C t q C.1 0 then (if moc C q C.1 0 then none else some 1) else some (0 : Int32)) (fun _ t => (aPQ π t).1) (fun _ => (1 : Int32)) d q (pqn π q t0) = bI (alC π C t0) := by
  have hall : alC π C t0 = true ↔ ∀ i, i < C.1 → aOut (pqn π (C.2.2.1 i) t0) (C.2.1 i) = C.2.2.2 i := by
    unfold alC
    rw [List.all_eq_true]
    simp only [List.mem_range, cl1, decide_eq_true_eq]
  intro d
  induction d with
  | zero =>
    intro q hq h
    have : alC π C t0 = true := hall.mpr (fun i hi => h i hi (by have := h24 i hi; omega))
    rw [this]
    simp only [fx]
    rfl
  | succ d ih =>
    intro q hq h
    simp only [fx]
    by_cases ho : okc C (pqn π q t0) q C.1 0 = true
    · have h' : ∀ i, i < C.1 → C.2.2.1 i < q + 1 → aOut (pqn π (C.2.2.1 i) t0) (C.2.1 i) = C.2.2.2 i := by
        intro i hi hlt
        by_cases he : C.2.2.1 i = q
        · rw [he]; exact (okc_iff C.1 0).mp ho i (by omega) (by omega) he
        · exact h i hi (by omega)
      by_cases hm : moc C q C.1 0 = true
      · simp only [ho, hm, if_true]
        exact ih (q + 1) (by omega) h'
      · have : alC π C t0 = true := hall.mpr (fun i hi => h' i hi (by
          apply Nat.lt_of_not_le
          intro hle
          exact hm ((moc_iff C.1 0).mpr ⟨i, by omega, by omega, by omega⟩)))
        rw [this]
        simp only [Bool.not_eq_true] at hm
        simp only [ho, hm, if_true, Bool.false_eq_true, if_false]
        rfl
    · have : alC π C t0 = false := by
        rw [← Bool.not_eq_true, hall]
        intro hh
        exact ho ((okc_iff C.1 0).mpr (fun j _ h2 hj => by rw [← hj]; exact hh j (by omega)))
      rw [this]
      simp only [Bool.not_eq_true] at ho
      simp only [ho, Bool.false_eq_true, if_false]
      rfl
theorem w_agrees (hC : HC m P π s) (hS : SN m π.1 C) (ha : a < 6) (hb : b < 6) : ∃ m', pM X m_Wp_agreesWithSeen [.ref 0, .int (nI a), .int (nI b)] (hp m) = some (some (.int (bI (alC π C (aAsk s a b)))), hp m') ∧ Same TL m m' := by
  obtain ⟨m1, e1, q1, v1⟩ := t_copy (X := X) hC
  obtain ⟨m2, e2, q2, v2⟩ := t_take (X := X) (m := m1) (k := a) (o := b) v1 ha hb
  rw [e_Wp_agreesWithSeen, u_Wp_agreesWithSeen_0]
  simp only [tIs, tVs, bs, if_true, true_or, or_true, i10, if_false, not_false_eq_true, not_true_eq_false, Wp_rc, Wp_f5, Wp_f6, Wp_f7, Wp_f8, Wp_f9, Wp_f10, Wp_f11, Wp_f12, Wp_f13, Wp_f14, St_rc isSt_39, e1, e2]
  have hf := seen_fx (π := π) (C := C) (t0 := aAsk s a b) (fun i hi => (hS.2.1 i hi).2.2) 25 0 (by omega) (fun _ _ h => by omega)
  rw [show pqn π 0 (aAsk s a b) = aAsk s a b from rfl] at hf
  rw [← hf]
  have h6 := hS.1.1
  refine lgx (n := 25) (F := fun (g : Option Value × Option Value) (t : aS) q m => f_Wp_agreesWithSeen_22 X 0 (nI a) (nI b) (nI q) g.1 g.2 (hp m)) (R := fun _ t m' => Same TL m m' ∧ vw m' 39 = t) (Z := Same TL m) (fun g t q m3 hq hr => ?_) (fun _ t m3 hr => ⟨m3, ?_, hr.1⟩) 25 0 (none, none) (aAsk s a b) m2 (by omega) ⟨q1.tr q2, v2⟩
  · have hC3 := hC.q (TL_Q hr.1)
    have hS3 := hS.q (TL_Q hr.1)
    have e : f_Wp_agreesWithSeen_22 X 0 (nI a) (nI b) (nI q) g.1 g.2 (hp m3) = if okc C t q C.1 0 then f_Wp_agreesWithSeen_34 X 0 (nI a) (nI b) (nI q) (bI (moc C q C.1 0)) (nI C.1) (hp m3) else some (some (.int 0), hp m3) := by
      rw [u_Wp_agreesWithSeen_22, if_neg (in_u (U := 24) rfl (show q ≤ 24 by omega) (by decide))]
      have := w_seen34 (X := X) (va := nI a) (vb := nI b) hC3 hS3 hr.2 (show q ≤ 24 by omega) C.1 0 false (by omega)
      rw [Bool.false_or] at this
      exact this
    by_cases ho : okc C t q C.1 0 = true
    · rw [if_pos ho] at e
      by_cases hm : moc C q C.1 0 = true
      · right
        obtain ⟨m4, e4, q4, v4⟩ := t_pass (X := X) hC3 hr.2
        refine ⟨by rw [if_pos ho, if_pos hm], (some (.int (bI true)), some (.int (nI C.1))), m4, ?_, hr.1.tr q4, v4⟩
        rw [e, hm, u_Wp_agreesWithSeen_34]
        simp only [tIs, tVs, bs, if_true, true_or, or_true, i10, if_false, not_false_eq_true, not_true_eq_false, Wp_rc, Wp_f5, Wp_f6, Wp_f7, Wp_f8, Wp_f9, Wp_f10, Wp_f11, Wp_f12, Wp_f13, Wp_f14, Cl_f3 isCl_109, hS3.1.2.1]
        rw [if_pos (nI_le (Nat.le_refl _) (by omega)), if_pos (by decide)]
        simp only [tIs, tVs, bs, if_true, true_or, or_true, i10, if_false, not_false_eq_true, not_true_eq_false, Wp_rc, Wp_f5, Wp_f6, Wp_f7, Wp_f8, Wp_f9, Wp_f10, Wp_f11, Wp_f12, Wp_f13, Wp_f14, hC3.f1, hC3.rc, e4, nI_1]
      · left
        refine ⟨1, m3, by rw [if_pos ho, if_neg hm], ?_, hr.1⟩
        simp only [Bool.not_eq_true] at hm
        rw [e, hm, u_Wp_agreesWithSeen_34]
        simp only [tIs, tVs, bs, if_true, true_or, or_true, i10, if_false, not_false_eq_true, not_true_eq_false, Wp_rc, Wp_f5, Wp_f6, Wp_f7, Wp_f8, Wp_f9, Wp_f10, Wp_f11, Wp_f12, Wp_f13, Wp_f14, Cl_f3 isCl_109, hS3.1.2.1]
        rw [if_pos (nI_le (Nat.le_refl _) (by omega)), if_neg (by decide)]
    · left
      exact ⟨0, m3, by rw [if_neg ho], by rw [e, if_neg ho], hr.1⟩
  · rw [u_Wp_agreesWithSeen_22, if_pos (by decide)]
/-- a pair is one of the PAIRS -/
def isPr (π : aP) (C : aC) (s : aS) (a b : Nat) : Bool := decide (a < π.1) && decide (b < π.1) && !decide (a = b) && alC π C (aAsk s a b)
def alD (π : aP) (C : aC) (s : aS) : Nat → Nat → Bool → Bool
  | 0, _, x => x
  | d + 1, i, x => alD π C s d (i + 1) (x && cl1 π C s i)
theorem alD_false {t : aS} : ∀ (d i : Nat), alD π C t d i false = false
  | 0, _ => rfl
  | d + 1, i => by simp only [alD, Bool.false_and]; exact alD_false d (i + 1)
theorem alD_eq {t : aS} : ∀ (d i : Nat) (x : Bool), alD π C t d i x = true ↔ x = true ∧ ∀ j, i ≤ j → j < i + d → cl1 π C t j = true
  | 0, i, x => ⟨fun h => ⟨h, fun j h1 h2 => by omega⟩, fun h => h.1⟩
  | d + 1, i, x => by
    simp only [alD, alD_eq d (i + 1), Bool.and_eq_true]
    constructor
    · intro ⟨⟨h1, h2⟩, h3⟩
      refine ⟨h1, fun j hj1 hj2 => ?_⟩
      by_cases h : j = i
      · subst h; exact h2
      · exact h3 j (by omega) (by omega)
    · intro ⟨h1, h2⟩
      exact ⟨⟨h1, h2 i (by omega) (by omega)⟩, fun j hj1 hj2 => h2 j (by omega) (by omega)⟩
theorem m_seen30 (hM : HM m π s c) (hS : SN m π.1 C) (ha : a < π.1) (hb : b < π.1) : ∀ (d i : Nat) (x : Bool) (g : Option Value) (m1 : pm_M), i + d = C.1 → SameM 1071 m m1 → ∃ m', f_Md_isSeen_30 X 175 (nI a) (nI b) (bI x) (nI i) g (hp m1) = some (some (.int (bI (alD π C (aAsk s a b) d i x))), hp m') ∧ SameM 1071 m m' := by
  have hn := hM.1.1
  have hc := hM.2.2.2
  have h6 := hS.1.1
  intro d
  induction d with
  | zero =>
    intro i x g m1 hi q1
    have hS1 := hS.q (Q.ofM q1 (by decide))
    refine ⟨m1, ?_, q1⟩
    rw [u_Md_isSeen_30]
    simp only [tIs, tVs, bs, if_true, true_or, or_true, i10, if_false, not_false_eq_true, not_true_eq_false, Md_rc, Md_f1, Md_f4, Md_f5, Md_f6, Md_f9, Md_f10, Md_f11, Md_f12, Md_f14, Md_f15, Md_f18, Md_f19, Md_f20, Md_f21, Md_f23, Md_f24, Md_f25, Md_f26, Md_f28]
    rw [show (19 : Int32) = nI 19 from rfl, ld_189 (by decide), hS1.2.2.1]
    simp only [tIs, tVs, bs, if_true, true_or, or_true, i10, if_false, not_false_eq_true, not_true_eq_false, Md_rc, Md_f1, Md_f4, Md_f5, Md_f6, Md_f9, Md_f10, Md_f11, Md_f12, Md_f14, Md_f15, Md_f18, Md_f19, Md_f20, Md_f21, Md_f23, Md_f24, Md_f25, Md_f26, Md_f28]
    rw [if_pos (nI_le (by omega) (by omega)), u_Md_isSeen_108, if_pos (by cases x <;> decide)]
    rfl
  | succ d ih =>
    intro i x g m1 hi q1
    have hq1 := Q.ofM q1 (by decide)
    have hS1 := hS.q hq1
    have hM1 := hM.q hq1
    obtain ⟨s1, s2, s3⟩ := hS1.2.2.2 i (by omega)
    obtain ⟨p1, p2, p3⟩ := hS1.2.1 i (by omega)
    rw [u_Md_isSeen_30]
    simp only [tIs, tVs, bs, if_true, true_or, or_true, i10, if_false, not_false_eq_true, not_true_eq_false, Md_rc, Md_f1, Md_f4, Md_f5, Md_f6, Md_f9, Md_f10, Md_f11, Md_f12, Md_f14, Md_f15, Md_f18, Md_f19, Md_f20, Md_f21, Md_f23, Md_f24, Md_f25, Md_f26, Md_f28]
    rw [show (19 : Int32) = nI 19 from rfl, ld_189 (by decide), hS1.2.2.1]
    simp only [tIs, tVs, bs, if_true, true_or, or_true, i10, if_false, not_false_eq_true, not_true_eq_false, Md_rc, Md_f1, Md_f4, Md_f5, Md_f6, Md_f9, Md_f10, Md_f11, Md_f12, Md_f14, Md_f15, Md_f18, Md_f19, Md_f20, Md_f21, Md_f23, Md_f24, Md_f25, Md_f26, Md_f28]
    rw [if_neg (nI_ge (show i < C.1 by omega) (by omega))]
    simp only [alD]
    cases x with
    | false =>
      rw [if_pos (show bI false = 0 from rfl), Bool.false_and, alD_false]
      exact ⟨m1, by rw [u_Md_isSeen_108, if_pos (by decide)], q1⟩
    | true =>
      rw [if_neg (show ¬ bI true = 0 by decide), Bool.true_and]
      have i3 : (20 + 3 * nI i : Int32) = nI (20 + 3 * i) := by rw [show (20 : Int32) = nI 20 from rfl, show (3 : Int32) = nI 3 from rfl, pk_mul, nI_add]
      rw [i3, show (1 : Int32) = nI 1 from rfl, show (2 : Int32) = nI 2 from rfl, nI_add, nI_add, ld_189 (by omega), s2]
      simp only [tIs, tVs, bs, if_true, true_or, or_true, i10, if_false, not_false_eq_true, not_true_eq_false, Md_rc, Md_f1, Md_f4, Md_f5, Md_f6, Md_f9, Md_f10, Md_f11, Md_f12, Md_f14, Md_f15, Md_f18, Md_f19, Md_f20, Md_f21, Md_f23, Md_f24, Md_f25, Md_f26, Md_f28]
      -- the trial
      obtain ⟨m2, e2, q2, v2⟩ := n_tries (X := X) hM1
      obtain ⟨m3, e3, q3, v3⟩ := n_ask (X := X) (m := m2) (B := 1071) (k := a) (o := b) v2 rfl (by decide) (by omega) (by omega)
      have ok3 : okS π.1 c (aAsk s a b) := okS_ask hM.2.2.1 hb
      have q13 := q1.tr (q2.tr q3)
      obtain ⟨m4, e4, q4, v4, ok4⟩ : ∃ m', pM X m_Md_runs [.ref 175, .int (nI (C.2.2.1 i))] (hp m3) = some (none, hp m') ∧ SameM 1071 m3 m' ∧ vm m' 1071 = pqn π (C.2.2.1 i) (aAsk s a b) ∧ okS π.1 (c + C.2.2.1 i) (pqn π (C.2.2.1 i) (aAsk s a b)) := by
        rw [e_Md_runs, u_Md_runs_0]
        obtain ⟨m', h1, h2, h3, h4⟩ := lpi (n := C.2.2.1 i) (F := fun (_ : aS) j m => f_Md_runs_2 X 175 (nI (C.2.2.1 i)) (nI j) (hp m)) (R := fun j t m' => SameM 1071 m3 m' ∧ vm m' 1071 = t ∧ okS π.1 (c + j) t) (g := fun _ t => (aPQ π t).1) (fun t j m5 hj hr => by
          have R5 : RM m5 π := (hM.q (Q.ofM (q13.tr hr.1) (by decide))).1
          obtain ⟨m6, e6, q6, v6⟩ := n_pass (X := X) (B := 1071) R5 hr.2.1 hr.2.2 rfl (by decide) (by omega)
          refine ⟨m6, ?_, hr.1.tr q6, v6, okS_aPQ (RM_okA hM.1) hr.2.2⟩
          rw [u_Md_runs_2, if_neg (nI_ge hj (by omega))]
          simp only [tIs, tVs, bs, if_true, true_or, or_true, i10, if_false, not_false_eq_true, not_true_eq_false, Md_rc, Md_f1, Md_f4, Md_f5, Md_f6, Md_f9, Md_f10, Md_f11, Md_f12, Md_f14, Md_f15, Md_f18, Md_f19, Md_f20, Md_f21, Md_f23, Md_f24, Md_f25, Md_f26, Md_f28, e6, nI_1]) (C.2.2.1 i) 0 (aAsk s a b) m3 (by omega) ⟨SameM.rf, v3, ok3⟩
        rw [pqn_fr] at h3 h4
        refine ⟨m', ?_, h2, h3, h4⟩
        rw [show (0 : Int32) = nI 0 from rfl, h1, u_Md_runs_2, if_pos (nI_le (Nat.le_refl _) (by omega))]
      have e5 : pM X m_Md_askedFor [.ref 175, .int (nI a), .int (nI b), .int (nI (C.2.2.1 i))] (hp m1) = some (none, hp m4) := by
        rw [e_Md_askedFor, u_Md_askedFor_0]
        simp only [tIs, tVs, bs, if_true, true_or, or_true, i10, if_false, not_false_eq_true, not_true_eq_false, Md_rc, Md_f1, Md_f4, Md_f5, Md_f6, Md_f9, Md_f10, Md_f11, Md_f12, Md_f14, Md_f15, Md_f18, Md_f19, Md_f20, Md_f21, Md_f23, Md_f24, Md_f25, Md_f26, Md_f28, e2, e3, e4]
      have q14 := q13.tr q4
      have hM4 := hM.q (Q.ofM q14 (by decide))
      have hS4 := hS.q (Q.ofM q14 (by decide))
      obtain ⟨t1, t2, t3⟩ := hS4.2.2.2 i (by omega)
      rw [e5]
      simp only [tIs, tVs, bs, if_true, true_or, or_true, i10, if_false, not_false_eq_true, not_true_eq_false, Md_rc, Md_f1, Md_f4, Md_f5, Md_f6, Md_f9, Md_f10, Md_f11, Md_f12, Md_f14, Md_f15, Md_f18, Md_f19, Md_f20, Md_f21, Md_f23, Md_f24, Md_f25, Md_f26, Md_f28]
      rw [ld_189 (by omega), t1]
      simp only [tIs, tVs, bs, if_true, true_or, or_true, i10, if_false, not_false_eq_true, not_true_eq_false, Md_rc, Md_f1, Md_f4, Md_f5, Md_f6, Md_f9, Md_f10, Md_f11, Md_f12, Md_f14, Md_f15, Md_f18, Md_f19, Md_f20, Md_f21, Md_f23, Md_f24, Md_f25, Md_f26, Md_f28, m_out (B := 1071) hM4.1 v4 ok4 rfl (by decide) (show c + C.2.2.1 i ≤ 1000000 by omega) p2]
      rw [ld_189 (by omega), t3]
      simp only [tIs, tVs, bs, if_true, true_or, or_true, i10, if_false, not_false_eq_true, not_true_eq_false, Md_rc, Md_f1, Md_f4, Md_f5, Md_f6, Md_f9, Md_f10, Md_f11, Md_f12, Md_f14, Md_f15, Md_f18, Md_f19, Md_f20, Md_f21, Md_f23, Md_f24, Md_f25, Md_f26, Md_f28, u_Md_isSeen_101]
      rw [show (nI 1 : Int32) = 1 from rfl]
      simp only [nI_1]
      by_cases ho : aOut (pqn π (C.2.2.1 i) (aAsk s a b)) (C.2.1 i) = C.2.2.2 i
      · rw [if_neg (fun z => z ho)]
        have hc1 : cl1 π C (aAsk s a b) i = true := by unfold cl1; exact decide_eq_true ho
        rw [hc1]
        exact ih (i + 1) true _ m4 (by omega) q14
      · rw [if_pos ho]
        have hc1 : cl1 π C (aAsk s a b) i = false := by unfold cl1; exact decide_eq_false ho
        rw [hc1]
        exact ih (i + 1) false _ m4 (by omega) q14
theorem m_isSeen (hM : HM m π s c) (hS : SN m π.1 C) (ha : a < 6) (hb : b < 6) : ∃ m', pM X m_Md_isSeen [.ref 175, .int (nI a), .int (nI b)] (hp m) = some (some (.int (bI (isPr π C s a b))), hp m') ∧ SameM 1071 m m' := by
  have hn := hM.1.1
  have h6 := hS.1.1
  rw [e_Md_isSeen, u_Md_isSeen_0]
  have z25 : isPr π C s a b = false → ∃ m', f_Md_isSeen_25 X 175 (nI a) (nI b) (hp m) = some (some (.int (bI (isPr π C s a b))), hp m') ∧ SameM 1071 m m' := by
    intro hf
    refine ⟨m, ?_, SameM.rf⟩
    rw [hf, u_Md_isSeen_25, u_Md_isSeen_26, u_Md_isSeen_30]
    simp only [tIs, tVs, bs, if_true, true_or, or_true, i10, if_false, not_false_eq_true, not_true_eq_false, Md_rc, Md_f1, Md_f4, Md_f5, Md_f6, Md_f9, Md_f10, Md_f11, Md_f12, Md_f14, Md_f15, Md_f18, Md_f19, Md_f20, Md_f21, Md_f23, Md_f24, Md_f25, Md_f26, Md_f28]
    rw [show (19 : Int32) = nI 19 from rfl, ld_189 (by decide)]
    simp only [tIs, tVs, bs, if_true, true_or, or_true, i10, if_false, not_false_eq_true, not_true_eq_false, Md_rc, Md_f1, Md_f4, Md_f5, Md_f6, Md_f9, Md_f10, Md_f11, Md_f12, Md_f14, Md_f15, Md_f18, Md_f19, Md_f20, Md_f21, Md_f23, Md_f24, Md_f25, Md_f26, Md_f28, u_Md_isSeen_108]
    split <;> rfl
  simp only [nI_eq (show a < 2 ^ 31 by omega) (show b < 2 ^ 31 by omega)]
  by_cases hab : a = b
  · rw [if_pos hab]
    exact z25 (by unfold isPr; rw [decide_eq_true hab]; simp)
  · rw [if_neg hab]
    by_cases h1 : a < π.1
    · simp only [tIs, tVs, bs, if_true, true_or, or_true, i10, if_false, not_false_eq_true, not_true_eq_false, Md_rc, Md_f1, Md_f4, Md_f5, Md_f6, Md_f9, Md_f10, Md_f11, Md_f12, Md_f14, Md_f15, Md_f18, Md_f19, Md_f20, Md_f21, Md_f23, Md_f24, Md_f25, Md_f26, Md_f28, m_isP1 hM.1 h1]
      by_cases h2 : b < π.1
      · simp only [tIs, tVs, bs, if_true, true_or, or_true, i10, if_false, not_false_eq_true, not_true_eq_false, Md_rc, Md_f1, Md_f4, Md_f5, Md_f6, Md_f9, Md_f10, Md_f11, Md_f12, Md_f14, Md_f15, Md_f18, Md_f19, Md_f20, Md_f21, Md_f23, Md_f24, Md_f25, Md_f26, Md_f28, m_isP1 hM.1 h2, u_Md_isSeen_26]
        obtain ⟨m', e, q⟩ := m_seen30 (X := X) hM hS h1 h2 C.1 0 true none m (by omega) SameM.rf
        refine ⟨m', ?_, q⟩
        refine Eq.trans e ?_
        have : alD π C (aAsk s a b) C.1 0 true = isPr π C s a b := by
          unfold isPr alC
          rw [decide_eq_true h1, decide_eq_true h2, decide_eq_false hab, Bool.eq_iff_iff, alD_eq]
          simp only [Bool.true_and, Bool.not_false, List.all_eq_true, List.mem_range]
          exact ⟨fun h x hx => h.2 x (by omega) (by omega), fun h => ⟨trivial, fun j _ hj => h j (by omega)⟩⟩
        rw [this]
      · simp only [tIs, tVs, bs, if_true, true_or, or_true, i10, if_false, not_false_eq_true, not_true_eq_false, Md_rc, Md_f1, Md_f4, Md_f5, Md_f6, Md_f9, Md_f10, Md_f11, Md_f12, Md_f14, Md_f15, Md_f18, Md_f19, Md_f20, Md_f21, Md_f23, Md_f24, Md_f25, Md_f26, Md_f28, m_isP0 hM.1 (p := nI b) (Or.inr (nI_le (by omega) (by omega)))]
        exact z25 (by unfold isPr; rw [decide_eq_false h2]; simp)
    · simp only [tIs, tVs, bs, if_true, true_or, or_true, i10, if_false, not_false_eq_true, not_true_eq_false, Md_rc, Md_f1, Md_f4, Md_f5, Md_f6, Md_f9, Md_f10, Md_f11, Md_f12, Md_f14, Md_f15, Md_f18, Md_f19, Md_f20, Md_f21, Md_f23, Md_f24, Md_f25, Md_f26, Md_f28, m_isP0 hM.1 (p := nI a) (Or.inr (nI_le (by omega) (by omega)))]
      exact z25 (by unfold isPr; rw [decide_eq_false h1]; simp)
end QB
