/-! port: how a reading begins; what both do at its end. -/
def ψ0 : aB := (0, fun _ => [], fun _ => 0, fun _ => 0, fun _ => none, fun _ => none, none)
theorem okB_0 : okB ψ0 := ⟨by decide, fun k hk => absurd hk (Nat.not_lt_zero k), fun k j h => (by cases h), fun k t h => (by cases h), fun L h => (by cases h), fun k _ => rfl⟩
theorem TK.uniq {tp : aT} {N N' : Nat} (h : TK tp N) (h' : TK tp N') : N = N' := by
  rcases Nat.lt_trichotomy N N' with hl | hl | hl
  · exact absurd h.2.2.2 (h'.2.2.1 N hl)
  · exact hl
  · exact absurd h'.2.2.2 (h.2.2.1 N' hl)
section PBG
variable {X : pv_X} {tp : aT} {N n Q a : Nat} {ψ : aB} {m m' m1 m2 : pm_M} {LL : List Nat}
theorem w_stclear (ha : isSt a) : ∃ m', pM X m_St_clear [.ref a] (hp m) = some (none, hp m') ∧ Same (cSt a) m m' ∧ (∀ k, k < 6 → gA m' (a + 1) k = 0 ∧ gA m' (a + 2) k = 0 ∧ gA m' (a + 3) k = 0) ∧ gI m' a 3 = 0 := by
  obtain ⟨f1, e1, g1⟩ := s_fill (X := X) (v := 0) ha.2.1 (by decide) m
  obtain ⟨f2, e2, g2⟩ := s_fill (X := X) (v := 0) ha.2.2.1 (by decide) (sA m (a + 1) f1)
  obtain ⟨f3, e3, g3⟩ := s_fill (X := X) (v := 0) ha.2.2.2 (by decide) (sA (sA m (a + 1) f1) (a + 2) f2)
  refine ⟨sI (sA (sA (sA m (a + 1) f1) (a + 2) f2) (a + 3) f3) a 3 0, ?_, (((Same.sA (by simp [cSt])).tr (Same.sA (by simp [cSt]))).tr (Same.sA (by simp [cSt]))).tr (Same.sI (by simp [cSt])), fun k hk => ⟨?_, ?_, ?_⟩, gI_sI_eq⟩
  · rw [e_St_clear, u_St_clear_0]
    simp only [tIs, tVs, bs, if_true, true_or, or_true, i10, if_false, not_false_eq_true, not_true_eq_false, St_f0 ha, e1, St_f1 ha, e2, St_f2 ha, e3, St_p3 ha]
  · rw [gA_sI, gA_sA, if_neg (by omega), gA_sA, if_neg (by omega), gA_sA, if_pos rfl]; exact g1 k hk
  · rw [gA_sI, gA_sA, if_neg (by omega), gA_sA, if_pos rfl]; exact g2 k hk
  · rw [gA_sI, gA_sA, if_pos rfl]; exact g3 k hk
def cQ0 (Q : Nat) : List Nat := [Q, Q + 2, Q + 3, Q + 7, Q + 8, Q + 9, Q + 10, Q + 11]
theorem w_poclear (hQ : isPo Q) (h3 : 3 ≤ Q) : ∃ m', pM X m_Po_clear [.ref Q] (hp m) = some (none, hp m') ∧ Same (cQ0 Q) m m' ∧ CPs m' Q ψ0 := by
  have s1 : Same [Q] m (sI m Q 6 0) := Same.sI (by simp)
  have i1 : gI (sI m Q 6 0) Q 6 = 0 := gI_sI_eq
  have w1 : pv_fp (hp m) Q 6 6 (.int 0) = some (hp (sI m Q 6 0)) := Po_p6 hQ
  generalize sI m Q 6 0 = m1 at s1 i1 w1
  obtain ⟨m2, e2, s2, g2, h2⟩ := w_stclear (X := X) (m := m1) hQ.st
  have w3 : pM X m_Mo_clear [.ref (Q + 3)] (hp m2) = some (none, hp (sI (sI m2 (Q + 3) 2 0) (Q + 3) 3 0)) := by
    rw [e_Mo_clear, u_Mo_clear_0, Mo_p2 hQ.mo]
    simp only [tIs, tVs, bs, if_true, true_or, or_true, i10, if_false, not_false_eq_true, not_true_eq_false]
    rw [Mo_p3 hQ.mo]
    simp only [tIs, tVs, bs, if_true, true_or, or_true, i10, if_false, not_false_eq_true, not_true_eq_false]
  have s3 : Same [Q + 3] m2 (sI (sI m2 (Q + 3) 2 0) (Q + 3) 3 0) := (Same.sI (by simp)).tr (Same.sI (by simp))
  have i3 : gI (sI (sI m2 (Q + 3) 2 0) (Q + 3) 3 0) (Q + 3) 3 = 0 := gI_sI_eq
  have i3' : gI (sI (sI m2 (Q + 3) 2 0) (Q + 3) 3 0) (Q + 3) 2 = 0 := by rw [gI_sI_ne (Or.inr (by decide)), gI_sI_eq]
  generalize sI (sI m2 (Q + 3) 2 0) (Q + 3) 3 0 = m3 at w3 s3 i3 i3'
  obtain ⟨f4, e4, g4⟩ := s_fill (X := X) (v := -1) hQ.2.2.2.2.2.1 (by decide) m3
  have s4 : Same [Q + 7] m3 (sA m3 (Q + 7) f4) := Same.sA (by simp)
  have q4 : gA (sA m3 (Q + 7) f4) (Q + 7) = f4 := by rw [gA_sA, if_pos rfl]
  generalize sA m3 (Q + 7) f4 = m4 at e4 s4 q4
  obtain ⟨m5, e5, s5, g5⟩ := lpi (n := 6) (F := fun (_ : Unit) k m => f_Po_clear_29 X Q (nI k) (hp m)) (R := fun k _ m' => Same [Q + 2] m4 m' ∧ ∀ j, j < k → gA m' (Q + 2) j = 0) (g := fun _ u => u) (fun _ k m5 hk hr => by
    refine ⟨_, ?_, hr.1.tr (Same.sA (c := Q + 2) (f := upd (gA m5 (Q + 2)) k 0) (by simp)), fun j hj => ?_⟩
    · rw [u_Po_clear_29, if_neg (show ¬ (6 : Int32) ≤ nI k from nI_ge (b := 6) hk (by decide)), Po_f1 hQ]
      simp only [tIs, tVs, bs, if_true, true_or, or_true, i10, if_false, not_false_eq_true, not_true_eq_false]
      rw [Po_s2 hQ hk, nar0]
      simp only [tIs, tVs, bs, if_true, true_or, or_true, i10, if_false, not_false_eq_true, not_true_eq_false, nI_1]
    · rw [gA_sA, if_pos rfl]
      by_cases h : j = k
      · rw [h, pk_us]
      · rw [pk_un h]; exact hr.2 j (by omega)) 6 0 () m4 (by omega) ⟨Same.rf, fun j hj => by omega⟩
  have S : Same (cQ0 Q) m m5 := by
    have hm : ∀ L : List Nat, (∀ c, c ∈ L → c = Q ∨ c = Q + 2 ∨ c = Q + 3 ∨ c = Q + 7 ∨ c = Q + 8 ∨ c = Q + 9 ∨ c = Q + 10 ∨ c = Q + 11) → ∀ c, c ∈ L → c ∈ cQ0 Q := fun L h c hc => by
      unfold cQ0
      have := h c hc
      simp only [List.mem_cons, List.not_mem_nil, or_false]
      exact this
    exact ((((s1.mono (hm _ (by simp))).tr (s2.mono (hm _ (by intro c hc; simp only [cSt, List.mem_cons, List.not_mem_nil, or_false] at hc; omega)))).tr (s3.mono (hm _ (by simp)))).tr (s4.mono (hm _ (by simp)))).tr (s5.mono (hm _ (by simp)))
  have c8 : ∀ d, d < 8 → Q + d ∉ cSt (Q + 8) := fun d hd => by simp [cSt]; omega
  refine ⟨m5, ?_, S, ?_, fun k hk => absurd hk (Nat.not_lt_zero k), fun k hk => ⟨?_, ?_, ?_, ?_, ?_⟩, ?_, ?_, ?_, fun j x hx => ?_⟩
  · rw [e_Po_clear, u_Po_clear_0]
    simp only [tIs, tVs, bs, if_true, true_or, or_true, i10, if_false, not_false_eq_true, not_true_eq_false, w1, Po_f5 hQ, St_rc hQ.st, e2, Po_f2 hQ, Mo_rc hQ.mo, w3, Po_f4 hQ, e4]
    refine Eq.trans (b := f_Po_clear_29 X Q (nI 0) (hp m4)) rfl ?_
    rw [e5, u_Po_clear_29, if_pos (show (6 : Int32) ≤ nI 6 by decide)]
  · rw [s5.I (nin1 (by omega)), s4.I (nin1 (by omega)), s3.I (nin1 (by omega)), s2.I (show Q ∉ cSt (Q + 8) from c8 0 (by decide))]; exact i1
  · rw [s5.A (nin1 (by omega)), q4]; exact g4 k hk
  · exact g5 k hk
  · rw [s5.A (nin1 (by omega)), s4.A (nin1 (by omega)), s3.A (nin1 (by omega))]; exact (g2 k hk).1
  · rw [s5.A (nin1 (by omega)), s4.A (nin1 (by omega)), s3.A (nin1 (by omega))]; exact (g2 k hk).2.2
  · rw [s5.A (nin1 (by omega)), s4.A (nin1 (by omega)), s3.A (nin1 (by omega))]; exact (g2 k hk).2.1
  · rw [s5.I (nin1 (by omega)), s4.I (nin1 (by omega)), s3.I (nin1 (by omega))]; exact h2
  · rw [s5.I (nin1 (by omega)), s4.I (nin1 (by omega))]; exact i3
  · rw [s5.I (nin1 (by omega)), s4.I (nin1 (by omega))]; exact i3'
  · simp [moL, ψ0] at hx
theorem w_start (ok : okTp tp) (hT : cTap m tp) : ∃ m', pM X m_Tp_start [.ref 1] (hp m) = some (none, hp m') ∧ Same [1] m m' ∧ gI m' 1 4 = 0 ∧ CA m' tp 0 := by
  have s1 : Same [1] m (sI (sI m 1 7 0) 1 4 0) := (Same.sI (by decide)).tr (Same.sI (by decide))
  have t1 : cTap (sI (sI m 1 7 0) 1 4 0) tp := hT.tok (by rw [gI_sI_ne (Or.inr (by decide)), gI_sI_ne (Or.inr (by decide))]) rfl
  have g7 : gI (sI (sI m 1 7 0) 1 4 0) 1 7 = nI 0 := by rw [gI_sI_ne (Or.inr (by decide)), gI_sI_eq]; rfl
  have g4 : gI (sI (sI m 1 7 0) 1 4 0) 1 4 = 0 := gI_sI_eq
  obtain ⟨m2, e2, s2, h1, h4, c2⟩ := w_advance (X := X) t1 ok (Nat.zero_le _) g7
  refine ⟨m2, ?_, s1.tr s2, by rw [h4]; exact g4, t1.tok h1 (s2.A (by decide)), c2⟩
  rw [e_Tp_start, u_Tp_start_0, Tp_p7]
  simp only [tIs, tVs, bs, if_true, true_or, or_true, i10, if_false, not_false_eq_true, not_true_eq_false]
  rw [Tp_p4]
  simp only [tIs, tVs, bs, if_true, true_or, or_true, i10, if_false, not_false_eq_true, not_true_eq_false, Tp_rc, e2]
theorem m_stands {B : Nat} {vB : Int32} (hv : vB = nI B) (hB : B + 30 ≤ 60) : ∃ m', pM X m_Md_standsAsAlways [.ref 175, .int vB] (hp m) = some (none, hp m') ∧ Same [181] m m' ∧ gA m' 181 B = 0 ∧ ∀ j, j ≠ B → gA m' 181 j = if B ≤ j ∧ j < B + 30 then -1 else gA m 181 j := by
  obtain ⟨m5, e5, s5, g5⟩ := lpi (n := 30) (F := fun (_ : Unit) k m => f_Md_standsAsAlways_2 X 175 (nI B) (nI k) (hp m)) (R := fun k _ m' => Same [181] m m' ∧ ∀ j, gA m' 181 j = if B ≤ j ∧ j < B + k then -1 else gA m 181 j) (g := fun _ u => u) (fun _ k m5 hk hr => by
    refine ⟨_, ?_, hr.1.tr (Same.sA (c := 181) (f := upd (gA m5 181) (B + k) (-1)) (by decide)), fun j => ?_⟩
    · rw [u_Md_standsAsAlways_2, if_neg (show ¬ (30 : Int32) ≤ nI k from nI_ge (b := 30) hk (by decide))]
      simp only [tIs, tVs, bs, if_true, true_or, or_true, i10, if_false, not_false_eq_true, not_true_eq_false, Md_rc, Md_f1, Md_f4, Md_f5, Md_f6, Md_f9, Md_f10, Md_f11, Md_f12, Md_f14, Md_f15, Md_f18, Md_f19, Md_f20, Md_f21, Md_f23, Md_f24, Md_f25, Md_f26, Md_f28]
      rw [nI_add, st_181 (by omega)]
      simp only [tIs, tVs, bs, if_true, true_or, or_true, i10, if_false, not_false_eq_true, not_true_eq_false, Md_rc, Md_f1, Md_f4, Md_f5, Md_f6, Md_f9, Md_f10, Md_f11, Md_f12, Md_f14, Md_f15, Md_f18, Md_f19, Md_f20, Md_f21, Md_f23, Md_f24, Md_f25, Md_f26, Md_f28, nI_1]
    · rw [gA_sA, if_pos rfl]
      by_cases h : j = B + k
      · rw [h, pk_us, if_pos (by omega)]
      · rw [pk_un h, hr.2]
        by_cases h2 : B ≤ j ∧ j < B + k
        · rw [if_pos h2, if_pos (by omega)]
        · rw [if_neg h2, if_neg (by omega)]) 30 0 () m (by omega) ⟨Same.rf, fun j => by rw [if_neg (by omega)]⟩
  refine ⟨sA m5 181 (upd (gA m5 181) B 0), ?_, s5.tr (Same.sA (by decide)), by rw [gA_sA, if_pos rfl, pk_us], fun j hj => by rw [gA_sA, if_pos rfl, pk_un hj]; exact g5 j⟩
  rw [e_Md_standsAsAlways, u_Md_standsAsAlways_0, hv]
  refine Eq.trans (b := f_Md_standsAsAlways_2 X 175 (nI B) (nI 0) (hp m)) rfl ?_
  rw [e5, u_Md_standsAsAlways_2, if_pos (show (30 : Int32) ≤ nI 30 by decide)]
  simp only [tIs, tVs, bs, if_true, true_or, or_true, i10, if_false, not_false_eq_true, not_true_eq_false, Md_rc, Md_f1, Md_f4, Md_f5, Md_f6, Md_f9, Md_f10, Md_f11, Md_f12, Md_f14, Md_f15, Md_f18, Md_f19, Md_f20, Md_f21, Md_f23, Md_f24, Md_f25, Md_f26, Md_f28]
  rw [show (nI B + 0 : Int32) = nI B from Int32.add_zero _, st_181 (by omega)]
  simp only [tIs, tVs, bs, if_true, true_or, or_true, i10, if_false, not_false_eq_true, not_true_eq_false, Md_rc, Md_f1, Md_f4, Md_f5, Md_f6, Md_f9, Md_f10, Md_f11, Md_f12, Md_f14, Md_f15, Md_f18, Md_f19, Md_f20, Md_f21, Md_f23, Md_f24, Md_f25, Md_f26, Md_f28]
/-- the reference's port, up to its first line -/
theorem m_portPre (T : TK tp N) (hT : dTap m tp) (hW : dWrd m) : ∃ m', pM X m_Md_port [.ref 175] (hp m) = f_Md_port_25 X 175 (hp m') ∧ Same [175, 177, 178, 179, 181] m m' ∧ (∀ j, j ≠ 0 → j ≠ 2 → j ≠ 3 → j ≠ 7 → j ≠ 8 → j ≠ 13 → j ≠ 17 → gI m' 175 j = gI m 175 j) ∧ gI m' 175 2 = 0 ∧ (∀ j, j < 30 → gA m' 181 j = gA m 181 j) ∧ MAt m' tp N 0 ∧ RPs m' ψ0 := by
  have s1 : Same [175] m (sI m 175 0 0) := Same.sI (by decide)
  have j1 : ∀ j, j ≠ 0 → gI (sI m 175 0 0) 175 j = gI m 175 j := fun j hj => gI_sI_ne (Or.inr hj)
  have w1 : pv_fp (hp m) 175 11 0 (.int 0) = some (hp (sI m 175 0 0)) := Md_p0
  generalize sI m 175 0 0 = m1 at s1 j1 w1
  obtain ⟨m2, N', e2, s2, j2, g2, g7, g8, tb⟩ := m_cutAll (X := X) (hT.same (j1 2 (by decide)) (s1.A (by decide))) T.1
  have hN : N' = N := (tb.tk T.1).uniq T
  subst hN
  have w3 : pv_fp (hp m2) 175 11 13 (.int 0) = some (hp (sI m2 175 13 0)) := Md_p13
  have w4 : pv_fp (hp (sI m2 175 13 0)) 175 11 17 (.int 0) = some (hp (sI (sI m2 175 13 0) 175 17 0)) := Md_p17
  have s4 : Same [175] m2 (sI (sI m2 175 13 0) 175 17 0) := (Same.sI (by decide)).tr (Same.sI (by decide))
  have j4 : ∀ j, j ≠ 13 → j ≠ 17 → gI (sI (sI m2 175 13 0) 175 17 0) 175 j = gI m2 175 j := fun j h1 h2 => by rw [gI_sI_ne (Or.inr h2), gI_sI_ne (Or.inr h1)]
  have i17 : gI (sI (sI m2 175 13 0) 175 17 0) 175 17 = 0 := gI_sI_eq
  have i13 : gI (sI (sI m2 175 13 0) 175 17 0) 175 13 = 0 := by rw [gI_sI_ne (Or.inr (by decide)), gI_sI_eq]
  generalize sI (sI m2 175 13 0) 175 17 0 = m4 at w4 s4 j4 i17 i13
  obtain ⟨m5, e5, s5, z5, g5⟩ := m_stands (X := X) (m := m4) (B := 30) (vB := 30) rfl (by decide)
  have S : Same [175, 177, 178, 179, 181] m m5 := (((s1.mono (by decide)).tr (s2.mono (by decide))).tr (s4.mono (by decide))).tr (s5.mono (by decide))
  have I5 : ∀ j, gI m5 175 j = gI m4 175 j := fun j => s5.I (by decide)
  refine ⟨m5, ?_, S, fun j h0 h2 h3 h7 h8 h13 h17 => by rw [I5, j4 j h13 h17, j2 j h2 h3 h7 h8, j1 j h0], by rw [I5, j4 2 (by decide) (by decide)]; exact g2, fun j hj => ?_, ?_, ?_⟩
  · rw [e_Md_port, u_Md_port_0, w1]
    simp only [tIs, tVs, bs, if_true, true_or, or_true, i10, if_false, not_false_eq_true, not_true_eq_false, Md_rc, Md_f1, Md_f4, Md_f5, Md_f6, Md_f9, Md_f10, Md_f11, Md_f12, Md_f14, Md_f15, Md_f18, Md_f19, Md_f20, Md_f21, Md_f23, Md_f24, Md_f25, Md_f26, Md_f28, e2, w3, w4, e5]
  · rw [g5 j (by omega), if_neg (by omega), s4.A (by decide), s2.A (by decide), s1.A (by decide)]
  · refine ⟨?_, hW.same (S.Lr (by decide)), by rw [I5, j4 7 (by decide) (by decide), g7]; rfl, Nat.zero_le _, by rw [I5, j4 8 (by decide) (by decide)]; exact g8⟩
    unfold MTb TabR at tb ⊢
    rw [s5.A (by decide), s5.A (by decide), s5.Lr (by decide), s4.A (by decide), s4.A (by decide), s4.Lr (by decide)]
    exact tb
  · refine ⟨⟨Nat.zero_le _, ?_, fun k hk => absurd hk (Nat.not_lt_zero k), fun k hk => absurd hk (Nat.not_lt_zero k)⟩, z5, ?_, fun k hk => absurd hk (Nat.not_lt_zero k), fun k hk => ⟨?_, ?_⟩, fun j x hx => ?_, ?_⟩
    · show gI m5 175 17 = _
      rw [I5, i17]; rfl
    · rw [g5 31 (by decide), if_pos (by decide)]; rfl
    · rw [g5 _ (by omega), if_pos (by omega)]; rfl
    · rw [g5 _ (by omega), if_pos (by omega)]; rfl
    · simp [moL, ψ0] at hx
    · show gI m5 175 13 = 0
      rw [I5, i13]
end PBG
theorem dpn_dpL {S : Nat → Int32} : ∀ (L : List aJ3) (i k : Nat), (∀ j x, L[j]? = some x → S (i + j) = x.1) → dpn S L.length i k = dpL L k
  | [], i, k, _ => rfl
  | x :: L, i, k, h => by
    simp only [List.length_cons, dpn, dpL]
    have h0 := h 0 x rfl
    rw [Nat.add_zero] at h0
    rw [h0]
    congr 1
    funext v
    exact dpn_dpL L (i + 1) v (fun j y hy => by
      have h1 := h (j + 1) y hy
      rw [show i + (j + 1) = i + 1 + j by omega] at h1
      exact h1)
section PFI
variable {X : pv_X} {N n P Q a : Nat} {ψ : aB} {m m' m1 m2 : pm_M} {LL : List Nat}
/-- class: the PORT that was read is the PORT -/
theorem w_anew (hQ : isPo Q) (hQ' : Q = 3 ∨ Q = 15) (h1 : gR m 0 1 = P) (h2 : gR m 0 2 = Q) (h3 : gR m 0 3 = a) (ha : a = 27 ∨ a = 31) : ∃ m', ((pv_fp (hp m) 0 10 1 (.ref Q)).bind (fun h8 => (pv_fp h8 0 10 2 (.ref P)).bind (fun h9 => if pv_rc h9 0 10 = true then (pv_tV (pM X m_Wp_startAnew [.ref 0] h9)).bind (fun h10 => f_Wp_port_45 X 0 0 (some (.ref P)) h10) else none))) = some (some (.int 0), hp m') ∧ Same [0, 35, 36, 37, 38, 27, 31, 109, 113, 43, 123, 136, 149, 162] m m' ∧ gR m' 0 1 = Q ∧ gR m' 0 2 = P ∧ (∀ j, j ≠ 1 → j ≠ 2 → gR m' 0 j = gR m 0 j) ∧ vw m' 35 = vw m (Q + 8) ∧ gI m' a 3 = 0 ∧ gI m' 109 3 = 0 ∧ gI m' 113 3 = 0 ∧ gI m' 43 2 = 0 ∧ gI m' 43 1 = gI m 43 1 ∧ ∀ i, i < 4 → gI m' (123 + 13 * i) 3 = 0 := by
  have s1 : Same [0] m (sR (sR m 0 1 Q) 0 2 P) := (Same.sR (by decide)).tr (Same.sR (by decide))
  have w1 : pv_fp (hp m) 0 10 1 (.ref Q) = some (hp (sR m 0 1 Q)) := Wp_p1
  have w2 : pv_fp (hp (sR m 0 1 Q)) 0 10 2 (.ref P) = some (hp (sR (sR m 0 1 Q) 0 2 P)) := Wp_p2
  have r1 : gR (sR (sR m 0 1 Q) 0 2 P) 0 1 = Q := by rw [gR_sR, if_neg (by decide), gR_sR, if_pos ⟨rfl, rfl⟩]
  have r2 : gR (sR (sR m 0 1 Q) 0 2 P) 0 2 = P := by rw [gR_sR, if_pos ⟨rfl, rfl⟩]
  have rj : ∀ j, j ≠ 1 → j ≠ 2 → gR (sR (sR m 0 1 Q) 0 2 P) 0 j = gR m 0 j := fun j hj1 hj2 => by rw [gR_sR, if_neg (fun z => hj2 z.2), gR_sR, if_neg (fun z => hj1 z.2)]
  generalize sR (sR m 0 1 Q) 0 2 P = m1 at s1 w2 r1 r2 rj
  obtain ⟨m2, e2, v2, s2⟩ := s_copy (X := X) (m := m1) (a := 35) (b := Q + 8) isSt_35 hQ.st (by omega)
  have s2' : Same [35, 36, 37, 38] m1 m2 := s2
  have R2 : ∀ j, gR m2 0 j = gR m1 0 j := fun j => s2'.R (by decide)
  have w3 : pv_fp (hp m2) a 1 3 (.int 0) = some (hp (sI m2 a 3 0)) := hp_pI (isDa_or ha).1 rfl
  have s3 : Same [27, 31] m2 (sI m2 a 3 0) := Same.sI (by rcases ha with rfl | rfl <;> decide)
  have i3 : gI (sI m2 a 3 0) a 3 = 0 := gI_sI_eq
  generalize sI m2 a 3 0 = m3 at w3 s3 i3
  have w4 : pv_fp (hp m3) 109 0 3 (.int 0) = some (hp (sI m3 109 3 0)) := Cl_p3 isCl_109
  have w5 : pv_fp (hp (sI m3 109 3 0)) 113 0 3 (.int 0) = some (hp (sI (sI m3 109 3 0) 113 3 0)) := Cl_p3 isCl_113
  have w6 : pv_fp (hp (sI (sI m3 109 3 0) 113 3 0)) 43 3 2 (.int 0) = some (hp (sI (sI (sI m3 109 3 0) 113 3 0) 43 2 0)) := Hi_p2
  have s6 : Same [109, 113, 43] m3 (sI (sI (sI m3 109 3 0) 113 3 0) 43 2 0) := ((Same.sI (by decide)).tr (Same.sI (by decide))).tr (Same.sI (by decide))
  have i6 : gI (sI (sI (sI m3 109 3 0) 113 3 0) 43 2 0) 109 3 = 0 := by rw [gI_sI_ne (Or.inl (by decide)), gI_sI_ne (Or.inl (by decide)), gI_sI_eq]
  have i6' : gI (sI (sI (sI m3 109 3 0) 113 3 0) 43 2 0) 113 3 = 0 := by rw [gI_sI_ne (Or.inl (by decide)), gI_sI_eq]
  have i6'' : gI (sI (sI (sI m3 109 3 0) 113 3 0) 43 2 0) 43 2 = 0 := gI_sI_eq
  have i6n : gI (sI (sI (sI m3 109 3 0) 113 3 0) 43 2 0) 43 1 = gI m3 43 1 := by rw [gI_sI_ne (Or.inr (by decide)), gI_sI_ne (Or.inl (by decide)), gI_sI_ne (Or.inl (by decide))]
  generalize sI (sI (sI m3 109 3 0) 113 3 0) 43 2 0 = m6 at w6 s6 i6 i6' i6'' i6n
  have R3 : ∀ j, gR m3 0 j = gR m1 0 j := fun j => by rw [s3.R (by decide)]; exact R2 j
  have R6 : ∀ j, gR m6 0 j = gR m1 0 j := fun j => by rw [s6.R (by decide)]; exact R3 j
  obtain ⟨m7, e7, s7, g7⟩ := lpi (n := 4) (F := fun (_ : Unit) k m => f_Wp_startAnew_48 X 0 (nI k) (hp m)) (R := fun k _ m' => Same [123, 136, 149, 162] m6 m' ∧ ∀ j, j < k → gI m' (123 + 13 * j) 3 = 0) (g := fun _ u => u) (fun _ k m5 hk hr => by
    have hin : 123 + 13 * k ∈ [123, 136, 149, 162] := by
      match k, hk with
      | 0, _ => decide
      | 1, _ => decide
      | 2, _ => decide
      | 3, _ => decide
    refine ⟨_, ?_, hr.1.tr (Same.sI (c := 123 + 13 * k) (j := 3) (v := 0) hin), fun j hj => ?_⟩
    · rw [u_Wp_startAnew_48, if_neg (show ¬ (4 : Int32) ≤ nI k from nI_ge (b := 4) hk (by decide))]
      simp only [tIs, tVs, bs, if_true, true_or, or_true, i10, if_false, not_false_eq_true, not_true_eq_false, Wp_rc, Wp_f5, Wp_f6, Wp_f7, Wp_f8, Wp_f9, Wp_f10, Wp_f11, Wp_f12, Wp_f13, Wp_f14]
      rw [Mk_ld hk]
      simp only [tIs, tVs, bs, if_true, true_or, or_true, i10, if_false, not_false_eq_true, not_true_eq_false, Wp_rc, Wp_f5, Wp_f6, Wp_f7, Wp_f8, Wp_f9, Wp_f10, Wp_f11, Wp_f12, Wp_f13, Wp_f14]
      rw [hp_pI (isCl_m k hk).2.2 rfl]
      simp only [tIs, tVs, bs, if_true, true_or, or_true, i10, if_false, not_false_eq_true, not_true_eq_false, Wp_rc, Wp_f5, Wp_f6, Wp_f7, Wp_f8, Wp_f9, Wp_f10, Wp_f11, Wp_f12, Wp_f13, Wp_f14, nI_1]
    · by_cases h : j = k
      · rw [h, gI_sI_eq]
      · rw [gI_sI_ne (Or.inl (by omega))]; exact hr.2 j (by omega)) 4 0 () m6 (by omega) ⟨Same.rf, fun j hj => by omega⟩
  have S : Same [0, 35, 36, 37, 38, 27, 31, 109, 113, 43, 123, 136, 149, 162] m m7 := ((((s1.mono (by decide)).tr (s2'.mono (by decide))).tr (s3.mono (by decide))).tr (s6.mono (by decide))).tr (s7.mono (by decide))
  have hr37 : ∀ d, gR m7 0 d = gR m1 0 d := fun d => by rw [s7.R (by decide)]; exact R6 d
  refine ⟨m7, ?_, S, by rw [hr37]; exact r1, by rw [hr37]; exact r2, fun j hj1 hj2 => by rw [hr37]; exact rj j hj1 hj2, ?_, ?_, ?_, ?_, ?_, ?_, g7⟩
  · have e1 : gR m1 0 3 = a := by rw [rj 3 (by decide) (by decide)]; exact h3
    rw [w1]
    simp only [tIs, tVs, bs, if_true, true_or, or_true, i10, if_false, not_false_eq_true, not_true_eq_false, Wp_rc, Wp_f5, Wp_f6, Wp_f7, Wp_f8, Wp_f9, Wp_f10, Wp_f11, Wp_f12, Wp_f13, Wp_f14, w2, e_Wp_startAnew, u_Wp_startAnew_0, Wp_f1, r1, Po_f5 hQ, St_rc isSt_35, e2, Wp_f3, R2, e1, w3, w4, w5, w6, u_Wp_port_45]
    have e8 : f_Wp_startAnew_48 X 0 0 (hp m6) = some (none, hp m7) := by
      refine Eq.trans (b := f_Wp_startAnew_48 X 0 (nI 0) (hp m6)) rfl ?_
      rw [e7, u_Wp_startAnew_48, if_pos (show (4 : Int32) ≤ nI 4 by decide)]
    rw [e8]
    simp only [tIs, tVs, bs, if_true, true_or, or_true, i10, if_false, not_false_eq_true, not_true_eq_false, Wp_rc, Wp_f5, Wp_f6, Wp_f7, Wp_f8, Wp_f9, Wp_f10, Wp_f11, Wp_f12, Wp_f13, Wp_f14]
  · have e1 : vw m7 35 = vw m2 35 := by
      rw [vw_same s7 (by decide), vw_same s6 (by decide), vw_same s3 (by decide)]
    rw [e1, v2]
    refine vw_same s1 (fun c hc => ?_)
    simp only [cSt, List.mem_cons, List.not_mem_nil, or_false] at hc
    simp only [List.mem_cons, List.not_mem_nil, or_false]
    omega
  · rw [s7.I (by rcases ha with rfl | rfl <;> decide), s6.I (by rcases ha with rfl | rfl <;> decide)]; exact i3
  · rw [s7.I (by decide)]; exact i6
  · rw [s7.I (by decide)]; exact i6'
  · rw [s7.I (by decide)]; exact i6''
  · rw [s7.I (by decide), i6n, s3.I (by decide), s2'.I (by decide), s1.I (by decide)]
/-- reference: begins -/
theorem m_begins {b : aS} (hn : n ≤ 6) (h0 : gA m 181 0 = nI n) (hb : BGm m n b) : ∃ m', pM X m_Md_begins [.ref 175] (hp m) = some (none, hp m') ∧ Same [175, 186, 187, 188, 189, 190, 191] m m' ∧ (∀ j, j ≠ 22 → gI m' 175 j = gI m 175 j) ∧ gI m' 175 22 = 0 ∧ vm m' 0 = b ∧ gA m' 189 19 = 0 ∧ gA m' 189 38 = 0 ∧ gA m' 186 0 = 0 ∧ ∀ i, i < 4 → gA m' 190 i = 0 := by
  obtain ⟨m1, e1, s1, v1⟩ := m_starts (X := X) (B := 0) (vB := 0) rfl (by decide) hn h0 hb
  have w2 : pv_sI (hp m1) 189 19 0 = some (hp (sA m1 189 (upd (gA m1 189) 19 0))) := st_189 (k := 19) (by decide)
  have s2 : Same [189] m1 (sA m1 189 (upd (gA m1 189) 19 0)) := Same.sA (by decide)
  have q2 : gA (sA m1 189 (upd (gA m1 189) 19 0)) 189 = upd (gA m1 189) 19 0 := by rw [gA_sA, if_pos rfl]
  generalize sA m1 189 (upd (gA m1 189) 19 0) = m2 at w2 s2 q2
  have w3 : pv_sI (hp m2) 189 38 0 = some (hp (sA m2 189 (upd (gA m2 189) 38 0))) := st_189 (k := 38) (by decide)
  have s3 : Same [189] m2 (sA m2 189 (upd (gA m2 189) 38 0)) := Same.sA (by decide)
  have q3 : gA (sA m2 189 (upd (gA m2 189) 38 0)) 189 = upd (gA m2 189) 38 0 := by rw [gA_sA, if_pos rfl]
  generalize sA m2 189 (upd (gA m2 189) 38 0) = m3 at w3 s3 q3
  have w4 : pv_sI (hp m3) 186 0 0 = some (hp (sA m3 186 (upd (gA m3 186) 0 0))) := st_186 (k := 0) (by decide)
  have s4 : Same [186] m3 (sA m3 186 (upd (gA m3 186) 0 0)) := Same.sA (by decide)
  have q4 : gA (sA m3 186 (upd (gA m3 186) 0 0)) 186 0 = 0 := by rw [gA_sA, if_pos rfl, pk_us]
  generalize sA m3 186 (upd (gA m3 186) 0 0) = m4 at w4 s4 q4
  have w5 : pv_fp (hp m4) 175 11 22 (.int 0) = some (hp (sI m4 175 22 0)) := Md_p22
  have s5 : Same [175] m4 (sI m4 175 22 0) := Same.sI (by decide)
  have j5 : ∀ j, j ≠ 22 → gI (sI m4 175 22 0) 175 j = gI m4 175 j := fun j hj => gI_sI_ne (Or.inr hj)
  have i5 : gI (sI m4 175 22 0) 175 22 = 0 := gI_sI_eq
  generalize sI m4 175 22 0 = m5 at w5 s5 j5 i5
  obtain ⟨m6, e6, s6, g6⟩ := lpi (n := 4) (F := fun (_ : Unit) k m => f_Md_begins_35 X 175 (nI k) (hp m)) (R := fun k _ m' => Same [190] m5 m' ∧ ∀ j, j < k → gA m' 190 j = 0) (g := fun _ u => u) (fun _ k m7 hk hr => by
    refine ⟨_, ?_, hr.1.tr (Same.sA (c := 190) (f := upd (gA m7 190) k 0) (by decide)), fun j hj => ?_⟩
    · rw [u_Md_begins_35, if_neg (show ¬ (4 : Int32) ≤ nI k from nI_ge (b := 4) hk (by decide))]
      simp only [tIs, tVs, bs, if_true, true_or, or_true, i10, if_false, not_false_eq_true, not_true_eq_false, Md_rc, Md_f1, Md_f4, Md_f5, Md_f6, Md_f9, Md_f10, Md_f11, Md_f12, Md_f14, Md_f15, Md_f18, Md_f19, Md_f20, Md_f21, Md_f23, Md_f24, Md_f25, Md_f26, Md_f28]
      rw [st_190 hk, nar0]
      simp only [tIs, tVs, bs, if_true, true_or, or_true, i10, if_false, not_false_eq_true, not_true_eq_false, Md_rc, Md_f1, Md_f4, Md_f5, Md_f6, Md_f9, Md_f10, Md_f11, Md_f12, Md_f14, Md_f15, Md_f18, Md_f19, Md_f20, Md_f21, Md_f23, Md_f24, Md_f25, Md_f26, Md_f28, nI_1]
    · rw [gA_sA, if_pos rfl]
      by_cases h : j = k
      · rw [h, pk_us]
      · rw [pk_un h]; exact hr.2 j (by omega)) 4 0 () m5 (by omega) ⟨Same.rf, fun j hj => by omega⟩
  have S : Same [175, 186, 187, 188, 189, 190, 191] m m6 := (((((s1.1.mono (by decide)).tr (s2.mono (by decide))).tr (s3.mono (by decide))).tr (s4.mono (by decide))).tr (s5.mono (by decide))).tr (s6.mono (by decide))
  have a6 : gA m6 189 = upd (upd (gA m1 189) 19 0) 38 0 := by rw [s6.A (by decide), s5.A (by decide), s4.A (by decide), q3, q2]
  refine ⟨m6, ?_, S, fun j hj => ?_, ?_, ?_, ?_, ?_, ?_, g6⟩
  · rw [e_Md_begins, u_Md_begins_0]
    simp only [tIs, tVs, bs, if_true, true_or, or_true, i10, if_false, not_false_eq_true, not_true_eq_false, Md_rc, Md_f1, Md_f4, Md_f5, Md_f6, Md_f9, Md_f10, Md_f11, Md_f12, Md_f14, Md_f15, Md_f18, Md_f19, Md_f20, Md_f21, Md_f23, Md_f24, Md_f25, Md_f26, Md_f28, e1, w2, w3, w4, w5]
    refine Eq.trans (b := f_Md_begins_35 X 175 (nI 0) (hp m5)) rfl ?_
    rw [e6, u_Md_begins_35, if_pos (show (4 : Int32) ≤ nI 4 by decide)]
  · rw [s6.I (by decide), j5 j hj, s4.I (by decide), s3.I (by decide), s2.I (by decide), s1.1.I (by decide)]
  · rw [s6.I (by decide)]; exact i5
  · rw [← v1]
    exact vm_eq (fun i h1 h2 => by rw [a6, pk_un (by omega), pk_un (by omega)])
  · rw [a6, pk_un (by decide), pk_us]
  · rw [a6, pk_us]
  · rw [s6.A (by decide), s5.A (by decide)]; exact q4
/-- reference: what was read is the PORT -/
theorem m_anew {b : aS} (ok : okB ψ) (hP : RPs m ψ) (h8 : gI m 175 8 = 0) (hb : ∀ m', (∀ j, j < 30 → gA m' 181 j = gA m 181 (30 + j)) → BGm m' ψ.1 b) : ∃ m', f_Md_port_57 X 175 (hp m) = some (some (.int 0), hp m') ∧ Same [175, 181, 182, 183, 184, 186, 187, 188, 189, 190, 191] m m' ∧ (∀ j, j ≠ 16 → j ≠ 22 → gI m' 175 j = gI m 175 j) ∧ gI m' 175 16 = nI ψ.1 ∧ gI m' 175 22 = 0 ∧ (∀ j, j < 30 → gA m' 181 j = gA m 181 (30 + j)) ∧ (∀ j x, (moL ψ.2.2.2.2.2.2)[j]? = some x → gA m' 182 j = x.2.1 ∧ gA m' 183 j = x.2.2) ∧ (∀ L, ψ.2.2.2.2.2.2 = some L → gA m' 182 L.length = 0) ∧ (∀ k, k < ψ.1 → gL m' 184 k = lN (En 37 (ψ.2.1 k))) ∧ vm m' 0 = b ∧ gA m' 189 19 = 0 ∧ gA m' 189 38 = 0 ∧ gA m' 186 0 = 0 ∧ ∀ i, i < 4 → gA m' 190 i = 0 := by
  obtain ⟨⟨c1, c2, c3, c4⟩, b1, b2, b3, b4, b5, b6⟩ := hP
  have g17 : gI m 175 17 = nI ψ.1 := c2
  have c3' : ∀ k, k < ψ.1 → gL m 185 k = lN (En 37 (ψ.2.1 k)) := c3
  have hz := ok.1
  obtain ⟨cd, hcd, e13⟩ : ∃ cd, cd ≤ 1000 ∧ gI m 175 13 = nI cd ∧ (∀ L, ψ.2.2.2.2.2.2 = some L → cd = L.length + 1) := by
    cases hmo : ψ.2.2.2.2.2.2 with
    | none => rw [hmo] at b6; exact ⟨0, by decide, b6, fun L hL => by cases hL⟩
    | some L =>
      rw [hmo] at b6
      have := (ok.2.2.2.2.1 L hmo).1
      exact ⟨L.length + 1, by omega, b6.1, fun L' hL' => by cases hL'; rfl⟩
  obtain ⟨m1, e1, s1, g1⟩ := lpi (n := 30) (F := fun (_ : Unit) k m => f_Md_port_71 X 175 (nI k) (hp m)) (R := fun k _ m' => Same [181] m m' ∧ ∀ j, gA m' 181 j = if j < k then gA m 181 (30 + j) else gA m 181 j) (g := fun _ u => u) (fun _ k m5 hk hr => by
    refine ⟨_, ?_, hr.1.tr (Same.sA (c := 181) (f := upd (gA m5 181) k (gA m5 181 (30 + k))) (by decide)), fun j => ?_⟩
    · rw [u_Md_port_71, if_neg (show ¬ (30 : Int32) ≤ nI k from nI_ge (b := 30) hk (by decide))]
      simp only [tIs, tVs, bs, if_true, true_or, or_true, i10, if_false, not_false_eq_true, not_true_eq_false, Md_rc, Md_f1, Md_f4, Md_f5, Md_f6, Md_f9, Md_f10, Md_f11, Md_f12, Md_f14, Md_f15, Md_f18, Md_f19, Md_f20, Md_f21, Md_f23, Md_f24, Md_f25, Md_f26, Md_f28]
      rw [show (30 : Int32) = nI 30 from rfl, nI_add, ld_181 (by omega)]
      simp only [tIs, tVs, bs, if_true, true_or, or_true, i10, if_false, not_false_eq_true, not_true_eq_false, Md_rc, Md_f1, Md_f4, Md_f5, Md_f6, Md_f9, Md_f10, Md_f11, Md_f12, Md_f14, Md_f15, Md_f18, Md_f19, Md_f20, Md_f21, Md_f23, Md_f24, Md_f25, Md_f26, Md_f28]
      rw [st_181 (by omega)]
      simp only [tIs, tVs, bs, if_true, true_or, or_true, i10, if_false, not_false_eq_true, not_true_eq_false, Md_rc, Md_f1, Md_f4, Md_f5, Md_f6, Md_f9, Md_f10, Md_f11, Md_f12, Md_f14, Md_f15, Md_f18, Md_f19, Md_f20, Md_f21, Md_f23, Md_f24, Md_f25, Md_f26, Md_f28, nI_1]
    · rw [gA_sA, if_pos rfl]
      by_cases h : j = k
      · rw [h, pk_us, if_pos (by omega), hr.2, if_neg (by omega)]
      · rw [pk_un h, hr.2]
        by_cases h2 : j < k
        · rw [if_pos h2, if_pos (by omega)]
        · rw [if_neg h2, if_neg (by omega)]) 30 0 () m (by omega) ⟨Same.rf, fun j => by rw [if_neg (by omega)]⟩
  have f13 : gI m1 175 13 = nI cd := by rw [s1.I (by decide)]; exact e13.1
  obtain ⟨m2, e2, s2, g2, g3⟩ := lpi (n := cd) (F := fun (_ : Unit) k m => f_Md_port_100 X 175 (nI k) (hp m)) (R := fun k _ m' => Same [182, 183] m1 m' ∧ (∀ j, gA m' 182 j = if j < k then gA m1 182 (1100 + j) else gA m1 182 j) ∧ ∀ j, gA m' 183 j = if j < k then gA m1 183 (1100 + j) else gA m1 183 j) (g := fun _ u => u) (fun _ k m5 hk hr => by
    obtain ⟨q1, q2, q3⟩ := hr
    have w1 : pv_sI (hp m5) 182 (nI k) (gA m5 182 (1100 + k)) = some (hp (sA m5 182 (upd (gA m5 182) k (gA m5 182 (1100 + k))))) := st_182 (by omega)
    have z3 : gA (sA m5 182 (upd (gA m5 182) k (gA m5 182 (1100 + k)))) 183 = gA m5 183 := by rw [gA_sA, if_neg (by decide)]
    have z2 : gA (sA m5 182 (upd (gA m5 182) k (gA m5 182 (1100 + k)))) 182 = upd (gA m5 182) k (gA m5 182 (1100 + k)) := by rw [gA_sA, if_pos rfl]
    have t1 : Same [182, 183] m5 (sA m5 182 (upd (gA m5 182) k (gA m5 182 (1100 + k)))) := Same.sA (by decide)
    generalize sA m5 182 (upd (gA m5 182) k (gA m5 182 (1100 + k))) = m6 at w1 z3 z2 t1
    refine ⟨sA m6 183 (upd (gA m6 183) k (gA m6 183 (1100 + k))), ?_, (q1.tr t1).tr (Same.sA (by decide)), fun j => ?_, fun j => ?_⟩
    · rw [u_Md_port_100, Md_f13, q1.I (by decide), f13]
      simp only [tIs, tVs, bs, if_true, true_or, or_true, i10, if_false, not_false_eq_true, not_true_eq_false, Md_rc, Md_f1, Md_f4, Md_f5, Md_f6, Md_f9, Md_f10, Md_f11, Md_f12, Md_f14, Md_f15, Md_f18, Md_f19, Md_f20, Md_f21, Md_f23, Md_f24, Md_f25, Md_f26, Md_f28]
      rw [if_neg (nI_ge hk (by omega)), show (1100 : Int32) = nI 1100 from rfl, nI_add, ld_182 (by omega)]
      simp only [tIs, tVs, bs, if_true, true_or, or_true, i10, if_false, not_false_eq_true, not_true_eq_false, Md_rc, Md_f1, Md_f4, Md_f5, Md_f6, Md_f9, Md_f10, Md_f11, Md_f12, Md_f14, Md_f15, Md_f18, Md_f19, Md_f20, Md_f21, Md_f23, Md_f24, Md_f25, Md_f26, Md_f28, w1]
      rw [ld_183 (by omega)]
      simp only [tIs, tVs, bs, if_true, true_or, or_true, i10, if_false, not_false_eq_true, not_true_eq_false, Md_rc, Md_f1, Md_f4, Md_f5, Md_f6, Md_f9, Md_f10, Md_f11, Md_f12, Md_f14, Md_f15, Md_f18, Md_f19, Md_f20, Md_f21, Md_f23, Md_f24, Md_f25, Md_f26, Md_f28]
      rw [st_183 (by omega)]
      simp only [tIs, tVs, bs, if_true, true_or, or_true, i10, if_false, not_false_eq_true, not_true_eq_false, Md_rc, Md_f1, Md_f4, Md_f5, Md_f6, Md_f9, Md_f10, Md_f11, Md_f12, Md_f14, Md_f15, Md_f18, Md_f19, Md_f20, Md_f21, Md_f23, Md_f24, Md_f25, Md_f26, Md_f28, nI_1]
    · rw [gA_sA, if_neg (by decide), z2]
      by_cases h : j = k
      · rw [h, pk_us, if_pos (by omega), q2, if_neg (by omega)]
      · rw [pk_un h, q2]
        by_cases h2 : j < k
        · rw [if_pos h2, if_pos (by omega)]
        · rw [if_neg h2, if_neg (by omega)]
    · rw [gA_sA, if_pos rfl, z3]
      by_cases h : j = k
      · rw [h, pk_us, if_pos (by omega), q3, if_neg (by omega)]
      · rw [pk_un h, q3]
        by_cases h2 : j < k
        · rw [if_pos h2, if_pos (by omega)]
        · rw [if_neg h2, if_neg (by omega)]) cd 0 () m1 (by omega) ⟨Same.rf, fun j => by rw [if_neg (by omega)], fun j => by rw [if_neg (by omega)]⟩
  have f17 : gI m2 175 17 = nI ψ.1 := by rw [s2.I (by decide), s1.I (by decide)]; exact g17
  have l85 : ∀ k, k < ψ.1 → gL m2 185 k = lN (En 37 (ψ.2.1 k)) := fun k hk => by rw [s2.Lr (by decide), s1.Lr (by decide)]; exact c3' k hk
  obtain ⟨m3, e3, s3, g4⟩ := lpi (n := ψ.1) (F := fun (_ : Unit) k m => f_Md_port_148 X 175 (nI k) (hp m)) (R := fun k _ m' => Same [184] m2 m' ∧ ∀ j, j < k → gL m' 184 j = lN (En 37 (ψ.2.1 j))) (g := fun _ u => u) (fun _ k m5 hk hr => by
    refine ⟨_, ?_, hr.1.tr (Same.sL (c := 184) (f := vp_updL (gL m5 184) k (gL m5 185 k)) (by decide)), fun j hj => ?_⟩
    · rw [u_Md_port_148, Md_f17, hr.1.I (by decide), f17]
      simp only [tIs, tVs, bs, if_true, true_or, or_true, i10, if_false, not_false_eq_true, not_true_eq_false, Md_rc, Md_f1, Md_f4, Md_f5, Md_f6, Md_f9, Md_f10, Md_f11, Md_f12, Md_f14, Md_f15, Md_f18, Md_f19, Md_f20, Md_f21, Md_f23, Md_f24, Md_f25, Md_f26, Md_f28]
      rw [if_neg (nI_ge hk (by omega)), ld_185 (by omega)]
      simp only [tIs, tVs, bs, if_true, true_or, or_true, i10, if_false, not_false_eq_true, not_true_eq_false, Md_rc, Md_f1, Md_f4, Md_f5, Md_f6, Md_f9, Md_f10, Md_f11, Md_f12, Md_f14, Md_f15, Md_f18, Md_f19, Md_f20, Md_f21, Md_f23, Md_f24, Md_f25, Md_f26, Md_f28]
      rw [st_184 (by omega)]
      simp only [tIs, tVs, bs, if_true, true_or, or_true, i10, if_false, not_false_eq_true, not_true_eq_false, Md_rc, Md_f1, Md_f4, Md_f5, Md_f6, Md_f9, Md_f10, Md_f11, Md_f12, Md_f14, Md_f15, Md_f18, Md_f19, Md_f20, Md_f21, Md_f23, Md_f24, Md_f25, Md_f26, Md_f28, nI_1]
    · rw [gL_sL, if_pos rfl]
      by_cases h : j = k
      · rw [h, pk_uLs, hr.1.Lr (by decide)]; exact l85 k hk
      · rw [pk_uLn h]; exact hr.2 j (by omega)) ψ.1 0 () m2 (by omega) ⟨Same.rf, fun j hj => by omega⟩
  have f17' : gI m3 175 17 = nI ψ.1 := by rw [s3.I (by decide)]; exact f17
  have w4 : pv_fp (hp m3) 175 11 16 (.int (nI ψ.1)) = some (hp (sI m3 175 16 (nI ψ.1))) := Md_p16
  have s4 : Same [175] m3 (sI m3 175 16 (nI ψ.1)) := Same.sI (by decide)
  have j4 : ∀ j, j ≠ 16 → gI (sI m3 175 16 (nI ψ.1)) 175 j = gI m3 175 j := fun j hj => gI_sI_ne (Or.inr hj)
  have i4 : gI (sI m3 175 16 (nI ψ.1)) 175 16 = nI ψ.1 := gI_sI_eq
  generalize sI m3 175 16 (nI ψ.1) = m4 at w4 s4 j4 i4
  have a4 : ∀ j, j < 30 → gA m4 181 j = gA m 181 (30 + j) := fun j hj => by rw [s4.A (by decide), s3.A (by decide), s2.A (by decide), g1, if_pos hj]
  obtain ⟨m5, e5, s5, j5, i5, v5, x1, x2, x3, x4⟩ := m_begins (X := X) (m := m4) (n := ψ.1) hz (by rw [a4 0 (by decide)]; exact b1) (hb m4 a4)
  have S : Same [175, 181, 182, 183, 184, 186, 187, 188, 189, 190, 191] m m5 := ((((s1.mono (by decide)).tr (s2.mono (by decide))).tr (s3.mono (by decide))).tr (s4.mono (by decide))).tr (s5.mono (by decide))
  have q82 : ∀ j, gA m5 182 j = if j < cd then gA m 182 (1100 + j) else gA m 182 j := fun j => by rw [s5.A (by decide), s4.A (by decide), s3.A (by decide), g2, s1.A (by decide)]
  have q83 : ∀ j, gA m5 183 j = if j < cd then gA m 183 (1100 + j) else gA m 183 j := fun j => by rw [s5.A (by decide), s4.A (by decide), s3.A (by decide), g3, s1.A (by decide)]
  refine ⟨m5, ?_, S, fun j h16 h22 => ?_, ?_, i5, fun j hj => ?_, fun j x hx => ?_, fun L hL => ?_, fun k hk => ?_, v5, x1, x2, x3, x4⟩
  · rw [u_Md_port_57, Md_f8, h8]
    simp only [tIs, tVs, bs, if_true, true_or, or_true, i10, if_false, not_false_eq_true, not_true_eq_false, Md_rc, Md_f1, Md_f4, Md_f5, Md_f6, Md_f9, Md_f10, Md_f11, Md_f12, Md_f14, Md_f15, Md_f18, Md_f19, Md_f20, Md_f21, Md_f23, Md_f24, Md_f25, Md_f26, Md_f28, le00]
    refine Eq.trans (b := f_Md_port_71 X 175 (nI 0) (hp m)) rfl ?_
    rw [e1, u_Md_port_71, if_pos (show (30 : Int32) ≤ nI 30 by decide)]
    refine Eq.trans (b := f_Md_port_100 X 175 (nI 0) (hp m1)) rfl ?_
    rw [e2, u_Md_port_100, Md_f13, s2.I (by decide), f13]
    simp only [tIs, tVs, bs, if_true, true_or, or_true, i10, if_false, not_false_eq_true, not_true_eq_false, Md_rc, Md_f1, Md_f4, Md_f5, Md_f6, Md_f9, Md_f10, Md_f11, Md_f12, Md_f14, Md_f15, Md_f18, Md_f19, Md_f20, Md_f21, Md_f23, Md_f24, Md_f25, Md_f26, Md_f28]
    rw [if_pos (nI_le (Nat.le_refl _) (by omega))]
    refine Eq.trans (b := f_Md_port_148 X 175 (nI 0) (hp m2)) rfl ?_
    rw [e3, u_Md_port_148, Md_f17, f17']
    simp only [tIs, tVs, bs, if_true, true_or, or_true, i10, if_false, not_false_eq_true, not_true_eq_false, Md_rc, Md_f1, Md_f4, Md_f5, Md_f6, Md_f9, Md_f10, Md_f11, Md_f12, Md_f14, Md_f15, Md_f18, Md_f19, Md_f20, Md_f21, Md_f23, Md_f24, Md_f25, Md_f26, Md_f28]
    rw [if_pos (nI_le (Nat.le_refl _) (by omega)), w4]
    simp only [tIs, tVs, bs, if_true, true_or, or_true, i10, if_false, not_false_eq_true, not_true_eq_false, Md_rc, Md_f1, Md_f4, Md_f5, Md_f6, Md_f9, Md_f10, Md_f11, Md_f12, Md_f14, Md_f15, Md_f18, Md_f19, Md_f20, Md_f21, Md_f23, Md_f24, Md_f25, Md_f26, Md_f28, e5]
  · rw [j5 j h22, j4 j h16, s3.I (by decide), s2.I (by decide), s1.I (by decide)]
  · rw [j5 16 (by decide)]; exact i4
  · rw [s5.A (by decide)]; exact a4 j hj
  · cases hmo : ψ.2.2.2.2.2.2 with
    | none => rw [hmo] at hx; simp [moL] at hx
    | some L =>
      have hc := e13.2 L hmo
      have hx' : L[j]? = some x := by rw [hmo] at hx; exact hx
      have hj : j < L.length := (List.getElem?_eq_some_iff.mp hx').1
      rw [q82, if_pos (by omega), q83, if_pos (by omega)]
      exact b5 j x hx
  · have hc := e13.2 L hL
    rw [hL] at b6
    rw [q82, if_pos (by omega)]
    exact b6.2
  · rw [s5.Lr (by decide), s4.Lr (by decide)]; exact g4 k hk
end PFI
