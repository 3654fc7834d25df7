/-! What stays; abstract states; rows filled and copied. -/
/-- m' holds what m holds, but for the cells of L -/
def Same (L : List Nat) (m m' : pm_M) : Prop := gG m' = gG m ∧ ∀ c, c ∉ L → (∀ j, gI m' c j = gI m c j) ∧ (∀ j, gJ m' c j = gJ m c j) ∧ gA m' c = gA m c ∧ gL m' c = gL m c ∧ ∀ j, gR m' c j = gR m c j
section SME
variable {L L' : List Nat} {m m' m'' : pm_M} {c j : Nat}
theorem Same.rf : Same L m m := ⟨rfl, fun _ _ => ⟨fun _ => rfl, fun _ => rfl, rfl, rfl, fun _ => rfl⟩⟩
theorem Same.mono (h : Same L m m') (hl : ∀ c, c ∈ L → c ∈ L') : Same L' m m' := ⟨h.1, fun c hc => h.2 c (fun z => hc (hl c z))⟩
theorem Same.tr (h : Same L m m') (h' : Same L m' m'') : Same L m m'' := ⟨h'.1.trans h.1, fun c hc => by
  obtain ⟨a1, a2, a3, a4, a5⟩ := h.2 c hc
  obtain ⟨b1, b2, b3, b4, b5⟩ := h'.2 c hc
  exact ⟨fun j => (b1 j).trans (a1 j), fun j => (b2 j).trans (a2 j), b3.trans a3, b4.trans a4, fun j => (b5 j).trans (a5 j)⟩⟩
theorem Same.I (h : Same L m m') (hc : c ∉ L) : gI m' c j = gI m c j := (h.2 c hc).1 j
theorem Same.J (h : Same L m m') (hc : c ∉ L) : gJ m' c j = gJ m c j := (h.2 c hc).2.1 j
theorem Same.A (h : Same L m m') (hc : c ∉ L) : gA m' c = gA m c := (h.2 c hc).2.2.1
theorem Same.Lr (h : Same L m m') (hc : c ∉ L) : gL m' c = gL m c := (h.2 c hc).2.2.2.1
theorem Same.R (h : Same L m m') (hc : c ∉ L) : gR m' c j = gR m c j := (h.2 c hc).2.2.2.2 j
theorem Same.sI {v : Int32} (hc : c ∈ L) : Same L m (sI m c j v) := ⟨rfl, fun b hb => ⟨fun i => gI_sI_ne (Or.inl (fun z => hb (z ▸ hc))), fun _ => rfl, rfl, rfl, fun _ => rfl⟩⟩
theorem Same.sJ {v : Int64} (hc : c ∈ L) : Same L m (sJ m c j v) := ⟨rfl, fun b hb => ⟨fun _ => rfl, fun i => by rw [gJ_sJ, if_neg (show ¬ (b = c ∧ i = j) from fun z => hb (z.1 ▸ hc))], rfl, rfl, fun _ => rfl⟩⟩
theorem Same.sA {f : Nat → Int32} (hc : c ∈ L) : Same L m (sA m c f) := ⟨rfl, fun b hb => ⟨fun _ => rfl, fun _ => rfl, by rw [gA_sA, if_neg (show ¬ b = c from fun z => hb (z ▸ hc))], rfl, fun _ => rfl⟩⟩
theorem Same.sL {f : Nat → Int64} (hc : c ∈ L) : Same L m (sL m c f) := ⟨rfl, fun b hb => ⟨fun _ => rfl, fun _ => rfl, rfl, by rw [gL_sL, if_neg (show ¬ b = c from fun z => hb (z ▸ hc))], fun _ => rfl⟩⟩
theorem Same.sR {v : Nat} (hc : c ∈ L) : Same L m (sR m c j v) := ⟨rfl, fun b hb => ⟨fun _ => rfl, fun _ => rfl, rfl, rfl, fun i => by rw [gR_sR, if_neg (show ¬ (b = c ∧ i = j) from fun z => hb (z.1 ▸ hc))]⟩⟩
end SME
/-- a row, cut to six -/
def nr (f : Nat → Int32) : Nat → Int32 := fun k => if k < 6 then f k else 0
theorem nr_lt {f : Nat → Int32} {k : Nat} (h : k < 6) : nr f k = f k := if_pos h
theorem nr_upd {f : Nat → Int32} {k : Nat} {x : Int32} (h : k < 6) : nr (upd f k x) = upd (nr f) k x := by
  funext j
  by_cases hj : j = k
  · subst hj; simp [nr, upd, h]
  · simp [nr, upd, hj]
theorem nr_cpy {f g : Nat → Int32} : nr (va_cpy f g 0 0 6) = nr f := by
  funext j
  by_cases hj : j < 6
  · rw [nr_lt hj, nr_lt hj, sb_cpy0 hj]
  · simp [nr, hj]
theorem nr_ext {f g : Nat → Int32} (h : ∀ k, k < 6 → f k = g k) : nr f = nr g := by
  funext j
  by_cases hj : j < 6
  · rw [nr_lt hj, nr_lt hj, h j hj]
  · simp [nr, hj]
theorem nr_nr {f : Nat → Int32} : nr (nr f) = nr f := nr_ext (fun _ h => nr_lt h)
/-- times, beats, how often asked; quarters -/
abbrev aS : Type := (Nat → Int32) × (Nat → Int32) × (Nat → Int32) × Int32
def vw (m : pm_M) (a : Nat) : aS := (nr (gA m (a + 1)), nr (gA m (a + 2)), nr (gA m (a + 3)), gI m a 3)
def aAsk (s : aS) (p o : Nat) : aS := (upd s.1 p (s.1 o), s.2.1, upd s.2.2.1 o (s.2.2.1 o + 1), s.2.2.2)
def aMov (s : aS) (p : Nat) (v : Int32) : aS := (s.1, upd s.2.1 p (bm (s.2.1 p) v), s.2.2.1, s.2.2.2)
/-- how far out one is -/
def aOut (s : aS) (p : Nat) : Int32 := oc (s.1 p) (tt s.2.2.2)
def cSt (a : Nat) : List Nat := [a, a + 1, a + 2, a + 3]
theorem vw_same {m m' : pm_M} {L : List Nat} {a : Nat} (h : Same L m m') (ha : ∀ c ∈ cSt a, c ∉ L) : vw m' a = vw m a := by
  unfold vw
  rw [h.A (ha (a + 1) (by simp [cSt])), h.A (ha (a + 2) (by simp [cSt])), h.A (ha (a + 3) (by simp [cSt])), h.I (ha a (by simp [cSt]))]
section STB
variable {m : pm_M} {X : pv_X} {a b k o : Nat}
theorem s_outOf (ha : isSt a) (hk : k < 6) : pM X m_St_outOf [.ref a, .int (nI k)] (hp m) = some (some (.int (aOut (vw m a) k)), hp m) := by
  rw [c_outOf ha hk]
  simp [aOut, vw, nr_lt hk]
theorem s_takeTime (ha : isSt a) (hk : k < 6) (ho : o < 6) : ∃ m', pM X m_St_takeTime [.ref a, .int (nI k), .int (nI o)] (hp m) = some (none, hp m') ∧ vw m' a = aAsk (vw m a) k o ∧ Same (cSt a) m m' := by
  refine ⟨_, c_takeTime ha hk ho, ?_, (Same.sA (by simp [cSt])).tr (Same.sA (by simp [cSt]))⟩
  simp [vw, aAsk, gA_sA, gI_sA, nr_upd hk, nr_upd ho, nr_lt ho]
theorem s_moveBeats (ha : isSt a) (hk : k < 6) {v : Int32} : ∃ m', pM X m_St_moveBeats [.ref a, .int (nI k), .int v] (hp m) = some (none, hp m') ∧ vw m' a = aMov (vw m a) k v ∧ Same (cSt a) m m' := by
  refine ⟨_, c_moveBeats ha hk, ?_, Same.sA (by simp [cSt])⟩
  simp [vw, aMov, gA_sA, gI_sA, nr_upd hk, nr_lt hk]
theorem s_copy (ha : isSt a) (hb : isSt b) (hab : a + 4 ≤ b ∨ b + 4 ≤ a) : ∃ m', pM X m_St_copy [.ref a, .ref b] (hp m) = some (none, hp m') ∧ vw m' a = vw m b ∧ Same (cSt a) m m' := by
  rw [e_St_copy, u_St_copy_0]
  simp only [St_f0 ha, St_f0 hb, St_f1 ha, St_f1 hb, St_f2 ha, St_f2 hb, St_f3 hb, Option.bind_some, hp_cp hb.2.1 ha.2.1 (sp := 0) (dp := 0) (q := 6) (by decide) (by decide) (by decide) (by decide) (by decide), hp_cp hb.2.2.1 ha.2.2.1 (sp := 0) (dp := 0) (q := 6) (by decide) (by decide) (by decide) (by decide) (by decide), hp_cp hb.2.2.2 ha.2.2.2 (sp := 0) (dp := 0) (q := 6) (by decide) (by decide) (by decide) (by decide) (by decide), St_p3 ha]
  refine ⟨_, rfl, ?_, ?_⟩
  · have e1 : ¬ b + 2 = a + 1 := by omega
    have e2 : ¬ b + 3 = a + 1 := by omega
    have e3 : ¬ b + 3 = a + 2 := by omega
    have z0 : Int32.toNatClampNeg 0 = 0 := rfl
    have z6 : Int32.toNatClampNeg 6 = 6 := rfl
    simp [vw, gA_sA, gI_sI, gI_sA, gA_sI, e1, e2, e3, z0, z6, nr_cpy]
  · exact ((Same.sA (by simp [cSt])).tr (Same.sA (by simp [cSt]))).tr ((Same.sA (by simp [cSt])).tr (Same.sI (by simp [cSt])))
end STB
theorem sA_self {m : pm_M} {b : Nat} : sA m b (gA m b) = m := by
  unfold sA gA
  rw [show va_up m.2.2.1 b (m.2.2.1 b) = m.2.2.1 from funext (fun q => by by_cases hq : q = b <;> simp [va_up, hq])]
theorem sA_sA {m : pm_M} {b : Nat} {f g : Nat → Int32} : sA (sA m b g) b f = sA m b f := by
  unfold sA
  dsimp only
  rw [bx_uu]
section FIL
variable {X : pv_X} {b n : Nat} {v : Int32}
/-- Arrays.fill, from the i-th place on -/
theorem s_fill5 (hb : pm_T[b]? = some (.inl (1, n))) (hn : n < 2 ^ 31) : ∀ (d i : Nat) (m : pm_M), i + d = n → ∃ f, f_Ar_fill_5 X b v (nI i) (nI n) (hp m) = some (none, hp (sA m b f)) ∧ ∀ k, k < n → f k = if i ≤ k then v else gA m b k
  | 0, i, m, h => by
    refine ⟨gA m b, ?_, fun k hk => by rw [if_neg (by omega)]⟩
    rw [u_Ar_fill_5, if_pos (nI_le (a := n) (b := i) (by omega) (by omega)), sA_self]
  | d + 1, i, m, h => by
    obtain ⟨f, hf, hk⟩ := s_fill5 hb hn d (i + 1) (sA m b (upd (gA m b) i v)) (by omega)
    refine ⟨f, ?_, fun k hkn => ?_⟩
    · rw [u_Ar_fill_5, if_neg (nI_ge (by omega) hn), ar_st hb (by omega) hn]
      simp only [Option.bind_some]
      rw [nI_1, hf, sA_sA]
    · rw [hk k hkn, gA_sA, if_pos rfl]
      by_cases h1 : i + 1 ≤ k
      · rw [if_pos h1, if_pos (by omega)]
      · rw [if_neg h1]
        by_cases h2 : k = i
        · subst h2; simp [upd]
        · rw [if_neg (by omega)]; simp [upd, h2]
theorem s_fill (hb : pm_T[b]? = some (.inl (1, n))) (hn : n < 2 ^ 31) (m : pm_M) : ∃ f, pM X m_Ar_fill [.ref b, .int v] (hp m) = some (none, hp (sA m b f)) ∧ ∀ k, k < n → f k = v := by
  obtain ⟨f, hf, hk⟩ := s_fill5 (X := X) (v := v) hb hn n 0 m (by omega)
  refine ⟨f, ?_, fun k h => by rw [hk k h, if_pos (Nat.zero_le k)]⟩
  rw [e_Ar_fill, u_Ar_fill_0, hp_len (by decide) hb]
  exact hf
end FIL
def aS0 : aS := (fun _ => 0, fun _ => 0, fun _ => 0, 0)
theorem s_clear {m : pm_M} {X : pv_X} {a : Nat} (ha : isSt a) : ∃ m', pM X m_St_clear [.ref a] (hp m) = some (none, hp m') ∧ vw m' a = aS0 ∧ Same (cSt a) m m' := by
  obtain ⟨f1, h1, k1⟩ := s_fill (X := X) (v := 0) ha.2.1 (by decide) m
  obtain ⟨f2, h2, k2⟩ := s_fill (X := X) (v := 0) ha.2.2.1 (by decide) (sA m (a + 1) f1)
  obtain ⟨f3, h3, k3⟩ := s_fill (X := X) (v := 0) ha.2.2.2 (by decide) (sA (sA m (a + 1) f1) (a + 2) f2)
  rw [e_St_clear, u_St_clear_0]
  simp only [St_f0 ha, St_f1 ha, St_f2 ha, Option.bind_some, h1, h2, h3, pv_tV, St_p3 ha]
  refine ⟨_, rfl, ?_, ?_⟩
  · have z : ∀ f : Nat → Int32, (∀ k, k < 6 → f k = 0) → nr f = fun _ => 0 := by
      intro f hf
      funext j
      by_cases hj : j < 6
      · rw [nr_lt hj, hf j hj]
      · simp [nr, hj]
    simp [vw, aS0, gA_sA, gI_sI, gA_sI, z f1 k1, z f2 k2, z f3 k3]
  · exact ((Same.sA (by simp [cSt])).tr (Same.sA (by simp [cSt]))).tr ((Same.sA (by simp [cSt])).tr (Same.sI (by simp [cSt])))
