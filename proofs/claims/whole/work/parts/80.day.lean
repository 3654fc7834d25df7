/-! day agrees. -/
abbrev aX3 : Type := Nat × Nat × Nat
/-- a line's rest behind its first word -/
def oD (tp : aT) (n z : Nat) (nm : aN) (w : Nat) : Nat ⊕ (Nat × aX3) := if w = 3 then .inr (n, (3, 0, 0)) else (match psn tp n z nm with
  | .inl e => .inl e
  | .inr p => if w = 0 then (match psn tp (n + 1) z nm with
      | .inl e => .inl e
      | .inr q => if q = p then .inl (fl tp (ps tp (n + 1)) 3) else .inr (n + 2, (0, p, q))) else (match nmb tp (n + 1) 1 60 with
      | .inl e => .inl e
      | .inr v => .inr (n + 2, (w, p, v))))
theorem oD_good {tp : aT} {N n z w : Nat} {nm : aN} (T : TK tp N) (hn : n ≤ N) (hw : w < 4) : match oD tp n z nm w with
    | .inl e => 0 < e ∧ e < 20000
    | .inr x => n ≤ x.1 ∧ x.1 ≤ N ∧ okL z x.2 := by
  unfold oD
  by_cases h3 : w = 3
  · rw [if_pos h3]; exact ⟨Nat.le_refl _, hn, Or.inr (Or.inr rfl)⟩
  · rw [if_neg h3]
    cases hp1 : psn tp n z nm with
    | inl e => exact psn_inl T hp1
    | inr p =>
      obtain ⟨ha, hs1⟩ := psn_inr hp1
      have h1N : n < N := T.lt hn (by rw [hs1]; decide)
      dsimp only
      by_cases h0 : w = 0
      · rw [if_pos h0]
        cases hp2 : psn tp (n + 1) z nm with
        | inl e => exact psn_inl T hp2
        | inr q =>
          obtain ⟨hb, hs2⟩ := psn_inr hp2
          have h2N : n + 1 < N := T.lt h1N (by rw [hs2]; decide)
          dsimp only
          by_cases hqp : q = p
          · rw [if_pos hqp]
            have := fl_lt (n := n + 1) (v := 3) T (by decide) (by decide)
            exact ⟨by omega, this.1⟩
          · rw [if_neg hqp]; exact ⟨by show n ≤ n + 2; omega, h2N, Or.inl ⟨rfl, ha, hb⟩⟩
      · rw [if_neg h0]
        cases hp2 : nmb tp (n + 1) 1 60 with
        | inl e => exact nmb_inl T hp2
        | inr v =>
          obtain ⟨-, hv, hs2, -⟩ := nmb_inr hp2
          have h2N : n + 1 < N := T.lt h1N (by rw [hs2]; decide)
          exact ⟨by show n ≤ n + 2; omega, h2N, Or.inr (Or.inl ⟨by show w = 1 ∨ w = 2; omega, ha⟩)⟩
def cAs (A : Nat) : List Nat := [1, A, A + 1, A + 2, A + 3]
def CFd (A : Nat) (m m' : pm_M) : Prop := Same (cAs A) m m' ∧ gI m' 1 1 = gI m 1 1
def RFd (m m' : pm_M) : Prop := Same [175, 186] m m' ∧ (∀ j, j ≠ 7 → j ≠ 8 → gI m' 175 j = gI m 175 j) ∧ ∀ j, j < 125 → gA m' 186 j = gA m 186 j
def DPs (m : pm_M) (A : Nat) (D : aD) : Prop := gI m A 3 = nI D.1 ∧ ∀ i, i < D.1 → lnC (gA m (A + 1) i) (gA m (A + 2) i) (gA m (A + 3) i) (D.2 i)
def DRs (m : pm_M) (D : aD) : Prop := ∀ i, i < D.1 → gA m 186 (125 + 3 * i) = nI (D.2 i).1 ∧ gA m 186 (126 + 3 * i) = nI (D.2 i).2.1 ∧ gA m 186 (127 + 3 * i) = nI (D.2 i).2.2
def PN (m : pm_M) (P z : Nat) (nm : aN) : Prop := gI m P 6 = nI z ∧ ∀ k, k < z → gL m (P + 1) k = lN (En 27 (nm k))
section DAY
variable {X : pv_X} {tp : aT} {N n P A k z w : Nat} {nm : aN} {D : aD} {m m' m1 m2 : pm_M} {LL : List Nat}
theorem CFd.rf : CFd A m m := ⟨Same.rf, rfl⟩
theorem CFd.tr (h : CFd A m m1) (h' : CFd A m1 m2) : CFd A m m2 := ⟨h.1.tr h'.1, h'.2.trans h.2⟩
theorem CFd.adv (s : Same [1] m m') (hT : cTap m tp) (hT' : cTap m' tp) : CFd A m m' := ⟨s.mono (by unfold cAs; simp), by rw [hT.1, hT'.1]⟩
theorem CFd.f4 {v : Int32} : CFd A m (sI m 1 4 v) := ⟨Same.sI (by unfold cAs; simp), gI_sI_ne (Or.inr (by decide))⟩
theorem RFd.rf : RFd m m := ⟨Same.rf, fun _ _ _ => rfl, fun _ _ => rfl⟩
theorem RFd.tr (h : RFd m m1) (h' : RFd m1 m2) : RFd m m2 := ⟨h.1.tr h'.1, fun j h7 h8 => (h'.2.1 j h7 h8).trans (h.2.1 j h7 h8), fun j hj => (h'.2.2 j hj).trans (h.2.2 j hj)⟩
theorem RFd.f7 {v : Int32} : RFd m (sI m 175 7 v) := ⟨Same.sI (by decide), fun j h7 _ => gI_sI_ne (Or.inr h7), fun _ _ => by rw [gA_sI]⟩
theorem RFd.f8 {v : Int32} : RFd m (sI m 175 8 v) := ⟨Same.sI (by decide), fun j _ h8 => gI_sI_ne (Or.inr h8), fun _ _ => by rw [gA_sI]⟩
theorem RFd.wr {i : Nat} {v : Int32} (s : Same [186] m m') (h : gA m' 186 = upd (gA m 186) i v) (hi : 125 ≤ i) : RFd m m' := ⟨s.mono (by decide), fun j _ _ => s.I (by decide), fun j hj => by rw [h, pk_un (by omega)]⟩
theorem DPs.adv (h : DPs m A D) (s : Same [1] m m') (hA : 3 ≤ A) : DPs m' A D := by
  unfold DPs at h ⊢
  rw [s.I (nin1 (by omega)), s.A (nin1 (by omega)), s.A (nin1 (by omega)), s.A (nin1 (by omega))]
  exact h
theorem PN.same (h : PN m P z nm) (s : Same LL m m') (h0 : P ∉ LL) (h1 : P + 1 ∉ LL) : PN m' P z nm := by
  unfold PN at h ⊢
  rw [s.I h0, s.Lr h1]
  exact h
theorem w186 {i : Nat} {v : Int32} (hi : i < 250) : ∃ m', pv_sI (hp m) 186 (nI i) v = some (hp m') ∧ Same [186] m m' ∧ gA m' 186 = upd (gA m 186) i v := ⟨_, st_186 hi, Same.sA (by decide), by rw [gA_sA, if_pos rfl]⟩
theorem MAt.s186 (h : MAt m tp N n) (s : Same [186] m m') : MAt m' tp N n := h.same s (by decide) (by decide) (by decide) (by decide) (by rw [s.I (by decide)]; exact h.2.2.1) h.2.2.2.1 (by rw [s.I (by decide)]; exact h.2.2.2.2)
theorem nmC.s186 {b : Bool} (h : nmC m b z nm) (s : Same [186] m m') : nmC m' b z nm := by
  unfold nmC at h ⊢
  rw [s.I (by decide), s.Lr (by cases b <;> decide)]
  exact h
theorem nmC.f7 {v : Int32} (h : nmC m false z nm) : nmC (sI m 175 7 v) false z nm := ⟨h.1, by rw [gI_sI_ne (Or.inr (by decide))]; exact h.2.1, fun k hk => by rw [gL_sI]; exact h.2.2.1 k hk, h.2.2.2⟩
theorem f8s {e : Nat} (s : Same [186] m m') (h : gI m 175 8 = nI e) : gI m' 175 8 = nI e := by rw [s.I (by decide)]; exact h
/-- the reference's line: a fault, or what it lays -/
theorem m_readDay (T : TK tp N) (hn : n ≤ N) (hA : MAt m tp N n) (hC : nmC m false z nm) (hk : k < 40) (hw : w < 4) : ∃ m', pM X m_Md_readDay [.ref 175, .int (125 + (3 * nI k)), .int (nI w)] (hp m) = some (none, hp m') ∧ RFd m m' ∧ (match oD tp n z nm w with
    | .inl e => gI m' 175 8 = nI e
    | .inr x => MAt m' tp N x.1 ∧ (∀ j, j < 125 + 3 * k → gA m' 186 j = gA m 186 j) ∧ gA m' 186 (125 + 3 * k) = nI x.2.1 ∧ gA m' 186 (126 + 3 * k) = nI x.2.2.1 ∧ gA m' 186 (127 + 3 * k) = nI x.2.2.2) := by
  have hi0 : (125 + (3 * nI k) : Int32) = nI (125 + 3 * k) := by rw [show (125 : Int32) = nI 125 from rfl, show (3 : Int32) = nI 3 from rfl, pk_mul, nI_add]
  have hi1 : (nI (125 + 3 * k) + 1 : Int32) = nI (126 + 3 * k) := by rw [nI_1]; congr 1; omega
  have hi2 : (nI (125 + 3 * k) + 2 : Int32) = nI (127 + 3 * k) := by rw [show (2 : Int32) = nI 2 from rfl, nI_add]; congr 1; omega
  obtain ⟨m1, w1, s1, q1⟩ := w186 (m := m) (i := 125 + 3 * k) (v := nI w) (by omega)
  obtain ⟨m2, w2, s2, q2⟩ := w186 (m := m1) (i := 126 + 3 * k) (v := 0) (by omega)
  obtain ⟨m3, w3, s3, q3⟩ := w186 (m := m2) (i := 127 + 3 * k) (v := 0) (by omega)
  have A3 : MAt m3 tp N n := ((hA.s186 s1).s186 s2).s186 s3
  have C3 : nmC m3 false z nm := ((hC.s186 s1).s186 s2).s186 s3
  have F3 : RFd m m3 := ((RFd.wr s1 q1 (by omega)).tr (RFd.wr s2 q2 (by omega))).tr (RFd.wr s3 q3 (by omega))
  have k3 : (3 ≤ nI w) ↔ 3 ≤ w := nI_leI (a := 3) (by decide) (by omega)
  have k0 : (nI w = 0) ↔ w = 0 := nI_eq (b := 0) (by omega) (by decide)
  rw [e_Md_readDay, u_Md_readDay_0, hi0]
  simp only [tIs, tVs, bs, if_true, true_or, or_true, i10, if_false, not_false_eq_true, not_true_eq_false, Md_rc, Md_f1, Md_f4, Md_f5, Md_f6, Md_f9, Md_f10, Md_f11, Md_f12, Md_f14, Md_f15, Md_f18, Md_f19, Md_f20, Md_f21, Md_f23, Md_f24, Md_f25, Md_f26, Md_f28, w1, hi1, w2, hi2, w3, k3]
  unfold oD
  by_cases h3 : w = 3
  · rw [if_pos h3, if_pos (show 3 ≤ w by omega), u_Md_readDay_111]
    refine ⟨m3, rfl, F3, A3, fun j hj => ?_, ?_, ?_, ?_⟩
    · rw [q3, q2, q1, pk_un (by omega), pk_un (by omega), pk_un (by omega)]
    · rw [q3, q2, q1, pk_un (by omega), pk_un (by omega), pk_us, h3]
    · rw [q3, q2, pk_un (by omega), pk_us]; rfl
    · rw [q3, pk_us]; rfl
  · have e1 := m_toldHere (X := X) (b := false) T C3 A3
    rw [bI_f] at e1
    rw [if_neg h3, if_neg (show ¬ 3 ≤ w by omega)]
    cases hp1 : psn tp n z nm with
    | inl e =>
      obtain ⟨g0, g1⟩ := psn_inl T hp1
      rw [hp1] at e1
      dsimp only at e1 ⊢
      simp only [e1, tIs, tVs, bs, if_true, true_or, or_true, i10, if_false, not_false_eq_true, not_true_eq_false, Md_rc, Md_f1, Md_f4, Md_f5, Md_f6, Md_f9, Md_f10, Md_f11, Md_f12, Md_f14, Md_f15, Md_f18, Md_f19, Md_f20, Md_f21, Md_f23, Md_f24, Md_f25, Md_f26, Md_f28]
      have h8 : gI (sI m3 175 8 (nI e)) 175 8 = nI e := gI_sI_eq
      have F4 : RFd m (sI m3 175 8 (nI e)) := F3.tr RFd.f8
      generalize sI m3 175 8 (nI e) = m4 at h8 F4
      obtain ⟨m5, w5, s5, q5⟩ := w186 (m := m4) (i := 126 + 3 * k) (v := 0) (by omega)
      have h8' := f8s s5 h8
      have F5 := F4.tr (RFd.wr s5 q5 (by omega))
      simp only [w5, tIs, tVs, bs, if_true, true_or, or_true, i10, if_false, not_false_eq_true, not_true_eq_false, Md_rc, Md_f1, Md_f4, Md_f5, Md_f6, Md_f9, Md_f10, Md_f11, Md_f12, Md_f14, Md_f15, Md_f18, Md_f19, Md_f20, Md_f21, Md_f23, Md_f24, Md_f25, Md_f26, Md_f28, x_takes (X := X) (b := 0) h8' g0 (by omega), k0]
      obtain ⟨m6, w6, s6, q6⟩ := w186 (m := m5) (i := 127 + 3 * k) (v := 0) (by omega)
      have h8'' := f8s s6 h8'
      have F6 := F5.tr (RFd.wr s6 q6 (by omega))
      refine ⟨m6, ?_, F6, h8''⟩
      by_cases h0 : w = 0
      · rw [if_neg (fun z => z h0)]
        simp only [x_toldHere (X := X) (b := 0) h8' g0 (by omega), tIs, tVs, bs, if_true, true_or, or_true, i10, if_false, not_false_eq_true, not_true_eq_false, Md_rc, Md_f1, Md_f4, Md_f5, Md_f6, Md_f9, Md_f10, Md_f11, Md_f12, Md_f14, Md_f15, Md_f18, Md_f19, Md_f20, Md_f21, Md_f23, Md_f24, Md_f25, Md_f26, Md_f28, w6]
        rw [ld_186 (by omega)]
        simp only [tIs, tVs, bs, if_true, true_or, or_true, i10, if_false, not_false_eq_true, not_true_eq_false, Md_rc, Md_f1, Md_f4, Md_f5, Md_f6, Md_f9, Md_f10, Md_f11, Md_f12, Md_f14, Md_f15, Md_f18, Md_f19, Md_f20, Md_f21, Md_f23, Md_f24, Md_f25, Md_f26, Md_f28]
        rw [ld_186 (by omega)]
        simp only [tIs, tVs, bs, if_true, true_or, or_true, i10, if_false, not_false_eq_true, not_true_eq_false, Md_rc, Md_f1, Md_f4, Md_f5, Md_f6, Md_f9, Md_f10, Md_f11, Md_f12, Md_f14, Md_f15, Md_f18, Md_f19, Md_f20, Md_f21, Md_f23, Md_f24, Md_f25, Md_f26, Md_f28, u_Md_readDay_90, x_takes (X := X) h8'' g0 (by omega), u_Md_readDay_111, ite_self]
      · rw [if_pos h0]
        simp only [x_takeNumber (X := X) (vl := 1) (vu := 60) h8' g0 (by omega), tIs, tVs, bs, if_true, true_or, or_true, i10, if_false, not_false_eq_true, not_true_eq_false, Md_rc, Md_f1, Md_f4, Md_f5, Md_f6, Md_f9, Md_f10, Md_f11, Md_f12, Md_f14, Md_f15, Md_f18, Md_f19, Md_f20, Md_f21, Md_f23, Md_f24, Md_f25, Md_f26, Md_f28, w6, u_Md_readDay_111]
    | inr p =>
      obtain ⟨ha, hs1⟩ := psn_inr hp1
      have hz := hC.1
      have h1N : n < N := T.lt hn (by rw [hs1]; decide)
      rw [hp1] at e1
      dsimp only at e1 ⊢
      obtain ⟨m4, w4, s4, q4⟩ := w186 (m := m3) (i := 126 + 3 * k) (v := nI p) (by omega)
      have A4 := A3.s186 s4
      have C4 := C3.s186 s4
      have F4 := F3.tr (RFd.wr s4 q4 (by omega))
      have t4 : pM X m_Md_takes [.ref 175, .int 0] (hp m4) = some (none, hp (sI m4 175 7 (nI (n + 1)))) := m_takes0 A4
      have A5 := A4.nx h1N
      have C5 : nmC (sI m4 175 7 (nI (n + 1))) false z nm := C4.f7
      have F5 : RFd m (sI m4 175 7 (nI (n + 1))) := F4.tr RFd.f7
      have q5 : gA (sI m4 175 7 (nI (n + 1))) 186 = gA m4 186 := gA_sI
      simp only [e1, tIs, tVs, bs, if_true, true_or, or_true, i10, if_false, not_false_eq_true, not_true_eq_false, Md_rc, Md_f1, Md_f4, Md_f5, Md_f6, Md_f9, Md_f10, Md_f11, Md_f12, Md_f14, Md_f15, Md_f18, Md_f19, Md_f20, Md_f21, Md_f23, Md_f24, Md_f25, Md_f26, Md_f28, w4, t4, k0]
      generalize sI m4 175 7 (nI (n + 1)) = m5 at A5 C5 F5 q5
      by_cases h0 : w = 0
      · rw [if_neg (fun z => z h0), if_pos h0]
        have e5 := m_toldHere (X := X) (b := false) T C5 A5
        rw [bI_f] at e5
        cases hp2 : psn tp (n + 1) z nm with
        | inl e =>
          obtain ⟨g0, g1⟩ := psn_inl T hp2
          rw [hp2] at e5
          dsimp only at e5 ⊢
          simp only [e5, tIs, tVs, bs, if_true, true_or, or_true, i10, if_false, not_false_eq_true, not_true_eq_false, Md_rc, Md_f1, Md_f4, Md_f5, Md_f6, Md_f9, Md_f10, Md_f11, Md_f12, Md_f14, Md_f15, Md_f18, Md_f19, Md_f20, Md_f21, Md_f23, Md_f24, Md_f25, Md_f26, Md_f28]
          have h8 : gI (sI m5 175 8 (nI e)) 175 8 = nI e := gI_sI_eq
          have F6 : RFd m (sI m5 175 8 (nI e)) := F5.tr RFd.f8
          generalize sI m5 175 8 (nI e) = m6 at h8 F6
          obtain ⟨m7, w7, s7, q7⟩ := w186 (m := m6) (i := 127 + 3 * k) (v := 0) (by omega)
          have h8' := f8s s7 h8
          have F7 := F6.tr (RFd.wr s7 q7 (by omega))
          refine ⟨m7, ?_, F7, h8'⟩
          simp only [w7, tIs, tVs, bs, if_true, true_or, or_true, i10, if_false, not_false_eq_true, not_true_eq_false, Md_rc, Md_f1, Md_f4, Md_f5, Md_f6, Md_f9, Md_f10, Md_f11, Md_f12, Md_f14, Md_f15, Md_f18, Md_f19, Md_f20, Md_f21, Md_f23, Md_f24, Md_f25, Md_f26, Md_f28]
          rw [ld_186 (by omega)]
          simp only [tIs, tVs, bs, if_true, true_or, or_true, i10, if_false, not_false_eq_true, not_true_eq_false, Md_rc, Md_f1, Md_f4, Md_f5, Md_f6, Md_f9, Md_f10, Md_f11, Md_f12, Md_f14, Md_f15, Md_f18, Md_f19, Md_f20, Md_f21, Md_f23, Md_f24, Md_f25, Md_f26, Md_f28]
          rw [ld_186 (by omega)]
          simp only [tIs, tVs, bs, if_true, true_or, or_true, i10, if_false, not_false_eq_true, not_true_eq_false, Md_rc, Md_f1, Md_f4, Md_f5, Md_f6, Md_f9, Md_f10, Md_f11, Md_f12, Md_f14, Md_f15, Md_f18, Md_f19, Md_f20, Md_f21, Md_f23, Md_f24, Md_f25, Md_f26, Md_f28, u_Md_readDay_90, x_takes (X := X) h8' g0 (by omega), u_Md_readDay_111, ite_self]
        | inr q =>
          obtain ⟨hb, hs2⟩ := psn_inr hp2
          have h2N : n + 1 < N := T.lt h1N (by rw [hs2]; decide)
          rw [hp2] at e5
          dsimp only at e5 ⊢
          obtain ⟨m6, w6, s6, q6⟩ := w186 (m := m5) (i := 127 + 3 * k) (v := nI q) (by omega)
          have A6 := A5.s186 s6
          have F6 := F5.tr (RFd.wr s6 q6 (by omega))
          simp only [e5, tIs, tVs, bs, if_true, true_or, or_true, i10, if_false, not_false_eq_true, not_true_eq_false, Md_rc, Md_f1, Md_f4, Md_f5, Md_f6, Md_f9, Md_f10, Md_f11, Md_f12, Md_f14, Md_f15, Md_f18, Md_f19, Md_f20, Md_f21, Md_f23, Md_f24, Md_f25, Md_f26, Md_f28, w6]
          rw [ld_186 (by omega)]
          simp only [tIs, tVs, bs, if_true, true_or, or_true, i10, if_false, not_false_eq_true, not_true_eq_false, Md_rc, Md_f1, Md_f4, Md_f5, Md_f6, Md_f9, Md_f10, Md_f11, Md_f12, Md_f14, Md_f15, Md_f18, Md_f19, Md_f20, Md_f21, Md_f23, Md_f24, Md_f25, Md_f26, Md_f28]
          rw [ld_186 (by omega)]
          simp only [tIs, tVs, bs, if_true, true_or, or_true, i10, if_false, not_false_eq_true, not_true_eq_false, Md_rc, Md_f1, Md_f4, Md_f5, Md_f6, Md_f9, Md_f10, Md_f11, Md_f12, Md_f14, Md_f15, Md_f18, Md_f19, Md_f20, Md_f21, Md_f23, Md_f24, Md_f25, Md_f26, Md_f28]
          have v1 : gA m6 186 (126 + 3 * k) = nI p := by rw [q6, pk_un (by omega), q5, q4, pk_us]
          have v2 : gA m6 186 (127 + 3 * k) = nI q := by rw [q6, pk_us]
          simp only [v1, v2, nI_eq (show p < 2 ^ 31 by omega) (show q < 2 ^ 31 by omega), u_Md_readDay_90]
          by_cases hqp : q = p
          · rw [if_pos hqp, if_neg (fun z => z hqp.symm)]
            simp only [tIs, tVs, bs, if_true, true_or, or_true, i10, if_false, not_false_eq_true, not_true_eq_false, Md_rc, Md_f1, Md_f4, Md_f5, Md_f6, Md_f9, Md_f10, Md_f11, Md_f12, Md_f14, Md_f15, Md_f18, Md_f19, Md_f20, Md_f21, Md_f23, Md_f24, Md_f25, Md_f26, Md_f28, m_takes1 (X := X) T A6, u_Md_readDay_111]
            exact ⟨_, rfl, F6.tr RFd.f8, gI_sI_eq⟩
          · rw [if_neg hqp, if_pos (fun z => hqp z.symm)]
            simp only [tIs, tVs, bs, if_true, true_or, or_true, i10, if_false, not_false_eq_true, not_true_eq_false, Md_rc, Md_f1, Md_f4, Md_f5, Md_f6, Md_f9, Md_f10, Md_f11, Md_f12, Md_f14, Md_f15, Md_f18, Md_f19, Md_f20, Md_f21, Md_f23, Md_f24, Md_f25, Md_f26, Md_f28, m_takes0 (X := X) A6, u_Md_readDay_111]
            refine ⟨_, rfl, F6.tr RFd.f7, A6.nx h2N, fun j hj => ?_, ?_, ?_, ?_⟩
            · rw [gA_sI, q6, q5, q4, q3, q2, q1, pk_un (by omega), pk_un (by omega), pk_un (by omega), pk_un (by omega), pk_un (by omega)]
            · rw [gA_sI, q6, q5, q4, q3, q2, q1, pk_un (by omega), pk_un (by omega), pk_un (by omega), pk_un (by omega), pk_us, h0]
            · rw [gA_sI]; exact v1
            · rw [gA_sI]; exact v2
      · rw [if_pos h0, if_neg h0]
        have e5 := m_takeNumber (X := X) (l := 1) (u := 60) (vl := 1) (vu := 60) T rfl rfl (by decide) (by decide) A5
        cases hp2 : nmb tp (n + 1) 1 60 with
        | inl e =>
          obtain ⟨g0, g1⟩ := nmb_inl T hp2
          rw [hp2] at e5
          dsimp only at e5 ⊢
          simp only [e5, tIs, tVs, bs, if_true, true_or, or_true, i10, if_false, not_false_eq_true, not_true_eq_false, Md_rc, Md_f1, Md_f4, Md_f5, Md_f6, Md_f9, Md_f10, Md_f11, Md_f12, Md_f14, Md_f15, Md_f18, Md_f19, Md_f20, Md_f21, Md_f23, Md_f24, Md_f25, Md_f26, Md_f28]
          have h8 : gI (sI m5 175 8 (nI e)) 175 8 = nI e := gI_sI_eq
          have F6 : RFd m (sI m5 175 8 (nI e)) := F5.tr RFd.f8
          generalize sI m5 175 8 (nI e) = m6 at h8 F6
          obtain ⟨m7, w7, s7, q7⟩ := w186 (m := m6) (i := 127 + 3 * k) (v := 0) (by omega)
          refine ⟨m7, ?_, F6.tr (RFd.wr s7 q7 (by omega)), f8s s7 h8⟩
          simp only [w7, tIs, tVs, bs, if_true, true_or, or_true, i10, if_false, not_false_eq_true, not_true_eq_false, Md_rc, Md_f1, Md_f4, Md_f5, Md_f6, Md_f9, Md_f10, Md_f11, Md_f12, Md_f14, Md_f15, Md_f18, Md_f19, Md_f20, Md_f21, Md_f23, Md_f24, Md_f25, Md_f26, Md_f28, u_Md_readDay_111]
        | inr v =>
          obtain ⟨-, hv, hs2, -⟩ := nmb_inr hp2
          have h2N : n + 1 < N := T.lt h1N (by rw [hs2]; decide)
          rw [hp2] at e5
          dsimp only at e5 ⊢
          have A6 := A5.nx h2N
          have F6 : RFd m (sI m5 175 7 (nI (n + 1 + 1))) := F5.tr RFd.f7
          have q6 : gA (sI m5 175 7 (nI (n + 1 + 1))) 186 = gA m5 186 := gA_sI
          simp only [e5, tIs, tVs, bs, if_true, true_or, or_true, i10, if_false, not_false_eq_true, not_true_eq_false, Md_rc, Md_f1, Md_f4, Md_f5, Md_f6, Md_f9, Md_f10, Md_f11, Md_f12, Md_f14, Md_f15, Md_f18, Md_f19, Md_f20, Md_f21, Md_f23, Md_f24, Md_f25, Md_f26, Md_f28]
          generalize sI m5 175 7 (nI (n + 1 + 1)) = m6 at A6 F6 q6
          obtain ⟨m7, w7, s7, q7⟩ := w186 (m := m6) (i := 127 + 3 * k) (v := nI v) (by omega)
          refine ⟨m7, ?_, F6.tr (RFd.wr s7 q7 (by omega)), A6.s186 s7, fun j hj => ?_, ?_, ?_, ?_⟩
          · simp only [w7, tIs, tVs, bs, if_true, true_or, or_true, i10, if_false, not_false_eq_true, not_true_eq_false, Md_rc, Md_f1, Md_f4, Md_f5, Md_f6, Md_f9, Md_f10, Md_f11, Md_f12, Md_f14, Md_f15, Md_f18, Md_f19, Md_f20, Md_f21, Md_f23, Md_f24, Md_f25, Md_f26, Md_f28, u_Md_readDay_111]
          · rw [q7, q6, q5, q4, q3, q2, q1, pk_un (by omega), pk_un (by omega), pk_un (by omega), pk_un (by omega), pk_un (by omega)]
          · rw [q7, q6, q5, q4, q3, q2, q1, pk_un (by omega), pk_un (by omega), pk_un (by omega), pk_un (by omega), pk_us]
          · rw [q7, q6, q5, q4, pk_un (by omega), pk_us]
          · rw [q7, pk_us]
/-! the class's line -/
theorem isDa.r (h : isDa A) : pv_rc (hp m) A 1 = true := hp_rc h.1
theorem w_addLine {v1 v2 v3 : Int32} {x : aX3} (hA : isDa A) (hD : DPs m A D) (h40 : D.1 < 40) (hx : lnC v1 v2 v3 x) : ∃ m', pM X m_Da_addLine [.ref A, .int v1, .int v2, .int v3] (hp m) = some (some (.int 1), hp m') ∧ Same [A, A + 1, A + 2, A + 3] m m' ∧ DPs m' A (D.1 + 1, upO D.2 D.1 x) := by
  obtain ⟨d1, d2⟩ := hD
  have w1 : pv_sI (hp m) (A + 1) (nI D.1) v1 = some (hp (sA m (A + 1) (upd (gA m (A + 1)) D.1 v1))) := ar_st hA.2.1 h40 (by decide)
  have s1 : Same [A + 1] m (sA m (A + 1) (upd (gA m (A + 1)) D.1 v1)) := Same.sA (by simp)
  have q1 : gA (sA m (A + 1) (upd (gA m (A + 1)) D.1 v1)) (A + 1) = upd (gA m (A + 1)) D.1 v1 := by rw [gA_sA, if_pos rfl]
  generalize sA m (A + 1) (upd (gA m (A + 1)) D.1 v1) = m1 at w1 s1 q1
  have w2 : pv_sI (hp m1) (A + 2) (nI D.1) v2 = some (hp (sA m1 (A + 2) (upd (gA m1 (A + 2)) D.1 v2))) := ar_st hA.2.2.1 h40 (by decide)
  have s2 : Same [A + 2] m1 (sA m1 (A + 2) (upd (gA m1 (A + 2)) D.1 v2)) := Same.sA (by simp)
  have q2 : gA (sA m1 (A + 2) (upd (gA m1 (A + 2)) D.1 v2)) (A + 2) = upd (gA m1 (A + 2)) D.1 v2 := by rw [gA_sA, if_pos rfl]
  generalize sA m1 (A + 2) (upd (gA m1 (A + 2)) D.1 v2) = m2 at w2 s2 q2
  have w3 : pv_sI (hp m2) (A + 3) (nI D.1) v3 = some (hp (sA m2 (A + 3) (upd (gA m2 (A + 3)) D.1 v3))) := ar_st hA.2.2.2 h40 (by decide)
  have s3 : Same [A + 3] m2 (sA m2 (A + 3) (upd (gA m2 (A + 3)) D.1 v3)) := Same.sA (by simp)
  have q3 : gA (sA m2 (A + 3) (upd (gA m2 (A + 3)) D.1 v3)) (A + 3) = upd (gA m2 (A + 3)) D.1 v3 := by rw [gA_sA, if_pos rfl]
  generalize sA m2 (A + 3) (upd (gA m2 (A + 3)) D.1 v3) = m3 at w3 s3 q3
  have w4 : pv_fp (hp m3) A 1 3 (.int (nI (D.1 + 1))) = some (hp (sI m3 A 3 (nI (D.1 + 1)))) := hp_pI hA.1 rfl
  have s4 : Same [A] m3 (sI m3 A 3 (nI (D.1 + 1))) := Same.sI (by simp)
  have i4 : gI (sI m3 A 3 (nI (D.1 + 1))) A 3 = nI (D.1 + 1) := gI_sI_eq
  generalize sI m3 A 3 (nI (D.1 + 1)) = m4 at w4 s4 i4
  have fI : ∀ mm : pm_M, pv_fI (hp mm) A 1 3 = some (gI mm A 3) := fun mm => hp_fI hA.1 rfl
  have f0 : ∀ mm : pm_M, pv_fR (hp mm) A 1 0 = some (A + 1) := fun mm => hp_fR hA.1 rfl
  have f1 : ∀ mm : pm_M, pv_fR (hp mm) A 1 1 = some (A + 2) := fun mm => hp_fR hA.1 rfl
  have f2 : ∀ mm : pm_M, pv_fR (hp mm) A 1 2 = some (A + 3) := fun mm => hp_fR hA.1 rfl
  have i1 : gI m1 A 3 = nI D.1 := by rw [s1.I (nin1 (by omega))]; exact d1
  have i2 : gI m2 A 3 = nI D.1 := by rw [s2.I (nin1 (by omega))]; exact i1
  have i3 : gI m3 A 3 = nI D.1 := by rw [s3.I (nin1 (by omega))]; exact i2
  refine ⟨m4, ?_, (((s1.mono (by simp)).tr (s2.mono (by simp))).tr (s3.mono (by simp))).tr (s4.mono (by simp)), i4, fun i hi => ?_⟩
  · rw [e_Da_addLine, u_Da_addLine_0, fI, d1]
    simp only [bs]
    rw [if_neg (show ¬ (40 : Int32) ≤ nI D.1 from nI_ge (b := 40) h40 (by decide))]
    simp only [tIs, tVs, bs, if_true, true_or, or_true, i10, if_false, not_false_eq_true, not_true_eq_false, f0, w1, f1, fI, i1, w2, f2, i2, w3, i3, nI_1, w4, u_Da_addLine_49]
  · have e1 : gA m4 (A + 1) = upd (gA m (A + 1)) D.1 v1 := by rw [s4.A (nin1 (by omega)), s3.A (nin1 (by omega)), s2.A (nin1 (by omega)), q1]
    have e2 : gA m4 (A + 2) = upd (gA m (A + 2)) D.1 v2 := by rw [s4.A (nin1 (by omega)), s3.A (nin1 (by omega)), q2, s1.A (nin1 (by omega))]
    have e3 : gA m4 (A + 3) = upd (gA m (A + 3)) D.1 v3 := by rw [s4.A (nin1 (by omega)), q3, s2.A (nin1 (by omega)), s1.A (nin1 (by omega))]
    rw [e1, e2, e3]
    dsimp only at hi ⊢
    by_cases hiD : i = D.1
    · subst hiD; rw [pk_us, pk_us, pk_us, upO_s]; exact hx
    · rw [pk_un hiD, pk_un hiD, pk_un hiD, upO_n hiD]; exact d2 i (by omega)
/-- what the class does behind a line's first word -/
def COd (tp : aT) (A : Nat) (D : aD) (m : pm_M) (o : Nat ⊕ (Nat × aX3)) (F : Option pv_O) : Prop := ∃ m', F = some (some (.int (match o with
  | .inl _ => 0
  | .inr _ => 1)), hp m') ∧ CFd A m m' ∧ (match o with
  | .inl e => gI m' 1 4 = nI e
  | .inr x => gI m' 1 4 = 0 ∧ CA m' tp x.1 ∧ DPs m' A (D.1 + 1, upO D.2 D.1 x.2))
theorem COd.fail {e : Nat} {F : Option pv_O} (h1 : F = some (some (.int 0), hp m')) (h2 : CFd A m m') (h3 : gI m' 1 4 = nI e) : COd tp A D m (.inl e) F := ⟨m', h1, h2, h3⟩
theorem COd.fine {x : Nat × aX3} {F : Option pv_O} (h1 : F = some (some (.int 1), hp m')) (h2 : CFd A m m') (h3 : gI m' 1 4 = 0) (h4 : CA m' tp x.1) (h5 : DPs m' A (D.1 + 1, upO D.2 D.1 x.2)) : COd tp A D m (.inr x) F := ⟨m', h1, h2, h3, h4, h5⟩
/-- an add behind all tokens -/
theorem c_add {v1 v2 v3 : Int32} {x : aX3} {F : Option pv_O} (hA : isDa A) (h3 : 27 ≤ A) (hCA : CA m tp n) (h4 : gI m 1 4 = 0) (hD : DPs m A D) (h40 : D.1 < 40) (hx : lnC v1 v2 v3 x) (hF : F = (pv_tI (pM X m_Da_addLine [.ref A, .int v1, .int v2, .int v3] (hp m))).bind (fun q5 => if q5.1 = 0 ∨ q5.1 = 1 then some (some (.int q5.1), q5.2) else none)) (hm : CFd A m1 m) : COd tp A D m1 (.inr (n, x)) F := by
  obtain ⟨m', e1, s1, D1⟩ := w_addLine (X := X) hA hD h40 hx
  have n1 : 1 ∉ [A, A + 1, A + 2, A + 3] := by simp; omega
  have n2 : 2 ∉ [A, A + 1, A + 2, A + 3] := by simp; omega
  refine COd.fine (m' := m') ?_ (hm.tr ⟨s1.mono (by unfold cAs; simp), by rw [s1.I n1]⟩) (by rw [s1.I n1]; exact h4) (hCA.same s1 n1 n2) D1
  rw [hF, e1]
  simp only [tIs, tVs, bs, if_true, true_or, or_true, i10, if_false, not_false_eq_true, not_true_eq_false, eq_self]
theorem c_move {v3 : Int32} (T : TK tp N) (hw : (w = 1 ∧ v3 = 1) ∨ (w = 2 ∧ v3 = -1)) (hP : isPo P) (hPA : P + 1 < 27) (hP3 : 3 ≤ P) (hA : isDa A) (h3 : 27 ≤ A) (hz : z ≤ 6) (hok : ∀ k, k < z → okW (nm k)) (hN : PN m P z nm) (hCA : CA m tp n) (h4 : gI m 1 4 = 0) (hD : DPs m A D) (h40 : D.1 < 40) : COd tp A D m (oD tp n z nm w) (pM X m_Da_readMove [.ref A, .ref 1, .ref P, .int v3] (hp m)) := by
  have e1 := w_personAt (X := X) T.1 hP hz hN.1 hN.2 hok hCA
  unfold oD
  rw [if_neg (show ¬ w = 3 by omega), e_Da_readMove, u_Da_readMove_0]
  simp only [tIs, tVs, bs, if_true, true_or, or_true, i10, if_false, not_false_eq_true, not_true_eq_false, Po_rc hP]
  cases hp1 : psn tp n z nm with
  | inl e =>
    rw [hp1] at e1
    dsimp only at e1 ⊢
    simp only [e1, tIs, tVs, bs, if_true, true_or, or_true, i10, if_false, not_false_eq_true, not_true_eq_false, eq_self]
    exact COd.fail rfl CFd.f4 gI_sI_eq
  | inr p =>
    obtain ⟨ha, hs1⟩ := psn_inr hp1
    rw [hp1] at e1
    dsimp only at e1 ⊢
    rw [if_neg (show ¬ w = 0 by omega)]
    obtain ⟨m1, a1, s1, g1, A1⟩ := w_adv (X := X) T.1 hCA
    have F1 : CFd A m m1 := CFd.adv s1 hCA.1 A1.1
    have D1 := hD.adv s1 (by omega)
    have e2 := w_holds (X := X) (l := 1) (u := 60) (vl := 1) (vu := 60) rfl rfl (by decide) (by decide) A1
    simp only [e1, tIs, tVs, bs, if_true, true_or, or_true, i10, if_false, not_false_eq_true, not_true_eq_false, enc_m1 (show p < 2 ^ 31 by omega), Tp_rc, a1]
    cases hp2 : nmb tp (n + 1) 1 60 with
    | inl e =>
      rw [hp2] at e2
      dsimp only at e2 ⊢
      simp only [e2, tIs, tVs, bs, if_true, true_or, or_true, i10, if_false, not_false_eq_true, not_true_eq_false, eq_self]
      exact COd.fail rfl (F1.tr CFd.f4) gI_sI_eq
    | inr v =>
      obtain ⟨-, hv, hs2, ev⟩ := nmb_inr hp2
      rw [hp2] at e2
      dsimp only at e2 ⊢
      obtain ⟨m2, a2, s2, g2, A2⟩ := w_adv (X := X) T.1 A1
      have F2 : CFd A m m2 := F1.tr (CFd.adv s2 A1.1 A2.1)
      have D2 := D1.adv s2 (by omega)
      simp only [e2, tIs, tVs, bs, if_true, true_or, or_true, i10, if_false, not_false_eq_true, not_true_eq_false, Tp_f3, A1.2.2.2.2.2 hs2, Tp_rc, a2, hA.r, ← ev]
      refine c_add (m := m2) (x := (w, p, v)) (v1 := 1) (v2 := nI p) (v3 := v3 * nI v) hA h3 A2 (by rw [g2, g1]; exact h4) D2 h40 ⟨rfl, ?_⟩ rfl F2
      rcases hw with ⟨rfl, rfl⟩ | ⟨rfl, rfl⟩
      · exact Or.inr (Or.inl ⟨rfl, rfl, by rw [Int32.one_mul]⟩)
      · exact Or.inr (Or.inr (Or.inl ⟨rfl, rfl, by rw [Int32.neg_mul, Int32.one_mul]⟩))
theorem c_askL (T : TK tp N) (hP : isPo P) (hPA : P + 1 < 27) (hP3 : 3 ≤ P) (hA : isDa A) (h3 : 27 ≤ A) (hz : z ≤ 6) (hok : ∀ k, k < z → okW (nm k)) (hN : PN m P z nm) (hCA : CA m tp n) (h4 : gI m 1 4 = 0) (hD : DPs m A D) (h40 : D.1 < 40) : COd tp A D m (oD tp n z nm 0) (pM X m_Da_readAsk [.ref A, .ref 1, .ref P] (hp m)) := by
  have e1 := w_personAt (X := X) T.1 hP hz hN.1 hN.2 hok hCA
  unfold oD
  rw [if_neg (by decide), e_Da_readAsk, u_Da_readAsk_0]
  simp only [tIs, tVs, bs, if_true, true_or, or_true, i10, if_false, not_false_eq_true, not_true_eq_false, Po_rc hP]
  cases hp1 : psn tp n z nm with
  | inl e =>
    rw [hp1] at e1
    dsimp only at e1 ⊢
    simp only [e1, tIs, tVs, bs, if_true, true_or, or_true, i10, if_false, not_false_eq_true, not_true_eq_false, eq_self]
    exact COd.fail rfl CFd.f4 gI_sI_eq
  | inr p =>
    obtain ⟨ha, hs1⟩ := psn_inr hp1
    rw [hp1] at e1
    dsimp only at e1 ⊢
    obtain ⟨m1, a1, s1, g1, A1⟩ := w_adv (X := X) T.1 hCA
    have F1 : CFd A m m1 := CFd.adv s1 hCA.1 A1.1
    have D1 := hD.adv s1 (by omega)
    have N1 : PN m1 P z nm := hN.same s1 (nin1 (by omega)) (nin1 (by omega))
    have e2 := w_personAt (X := X) T.1 hP hz N1.1 N1.2 hok A1
    simp only [e1, tIs, tVs, bs, if_true, true_or, or_true, i10, if_false, not_false_eq_true, not_true_eq_false, enc_m1 (show p < 2 ^ 31 by omega), Tp_rc, a1, Po_rc hP]
    cases hp2 : psn tp (n + 1) z nm with
    | inl e =>
      rw [hp2] at e2
      dsimp only at e2 ⊢
      simp only [e2, tIs, tVs, bs, if_true, true_or, or_true, i10, if_false, not_false_eq_true, not_true_eq_false, eq_self]
      exact COd.fail rfl (F1.tr CFd.f4) gI_sI_eq
    | inr q =>
      obtain ⟨hb, hs2⟩ := psn_inr hp2
      rw [hp2] at e2
      dsimp only at e2 ⊢
      simp only [e2, tIs, tVs, bs, if_true, true_or, or_true, i10, if_false, not_false_eq_true, not_true_eq_false, enc_m1 (show q < 2 ^ 31 by omega), nI_eq (show q < 2 ^ 31 by omega) (show p < 2 ^ 31 by omega)]
      by_cases hqp : q = p
      · rw [if_pos hqp, if_neg (fun z => z hqp)]
        simp only [tIs, tVs, bs, if_true, true_or, or_true, i10, if_false, not_false_eq_true, not_true_eq_false, Tp_rc, w_refuse (X := X) (v := 3) (vv := 3) rfl A1.2, eq_self]
        exact COd.fail rfl (F1.tr CFd.f4) gI_sI_eq
      · rw [if_neg hqp, if_pos hqp]
        obtain ⟨m2, a2, s2, g2, A2⟩ := w_adv (X := X) T.1 A1
        have F2 : CFd A m m2 := F1.tr (CFd.adv s2 A1.1 A2.1)
        have D2 := D1.adv s2 (by omega)
        simp only [tIs, tVs, bs, if_true, true_or, or_true, i10, if_false, not_false_eq_true, not_true_eq_false, Tp_rc, a2, hA.r]
        exact c_add (m := m2) (x := (0, p, q)) (v1 := 0) (v2 := nI p) (v3 := nI q) hA h3 A2 (by rw [g2, g1]; exact h4) D2 h40 ⟨rfl, Or.inl ⟨rfl, rfl, rfl⟩⟩ rfl F2
/-- a line of a DAY: a fault, or its end and what it tells -/
def oLn (tp : aT) (n z : Nat) (nm : aN) (D : aD) : Nat ⊕ (Nat × aX3) := match whr tp (ps tp n) 5 4 with
  | none => .inl (fl tp (ps tp n) 1)
  | some w => if D.1 = 40 then .inl (fl tp (ps tp n) 5) else oD tp (n + 1) z nm w
theorem c_dayL (T : TK tp N) (hP : isPo P) (hPA : P + 1 < 27) (hP3 : 3 ≤ P) (hA : isDa A) (h3 : 27 ≤ A) (hz : z ≤ 6) (hok : ∀ k, k < z → okW (nm k)) (hN : PN m P z nm) (hCA : CA m tp n) (h4 : gI m 1 4 = 0) (hD : DPs m A D) (h40 : D.1 ≤ 40) : COd tp A D m (oLn tp n z nm D) (pM X m_Da_readLine [.ref A, .ref 1, .ref P] (hp m)) := by
  have W : ∀ k, k < 21 → pM X m_Tp_isWord [.ref 1, .ref (pv_scr + 1 + k)] (hp m) = some (some (.int (bI (isW tp (ps tp n) (tx k)))), hp m) := fun k hk => w_isWord hk hCA.1 T.1 (ps_le n) hCA.2
  have fI : pv_fI (hp m) A 1 3 = some (gI m A 3) := hp_fI hA.1 rfl
  have k40 : (nI D.1 < 40) ↔ D.1 < 40 := nI_ltI (b := 40) (by omega) (by decide)
  obtain ⟨m1, a1, s1, g1, A1⟩ := w_adv (X := X) T.1 hCA
  have F1 : CFd A m m1 := CFd.adv s1 hCA.1 A1.1
  have D1 := hD.adv s1 (by omega)
  have N1 : PN m1 P z nm := hN.same s1 (nin1 (by omega)) (nin1 (by omega))
  have h4' : gI m1 1 4 = 0 := by rw [g1]; exact h4
  -- behind the first word
  have go : ∀ (v3 v4 v5 : Int32) (o : Nat ⊕ (Nat × aX3)), (D.1 < 40 → COd tp A D m1 o ((if v3 = 0 then if ¬ v4 = 0 then f_Da_readLine_92 X A 1 P v3 v4 v5 (hp m1) else if v5 = 0 then (pv_tI (pM X m_Da_addLine [.ref A, .int 2, .int 0, .int 0] (hp m1))).bind (fun q3 => if q3.1 = 0 ∨ q3.1 = 1 then some (some (.int q3.1), q3.2) else none) else f_Da_readLine_92 X A 1 P v3 v4 v5 (hp m1) else (pv_tI (pM X m_Da_readAsk [.ref A, .ref 1, .ref P] (hp m1))).bind (fun q4 => if q4.1 = 0 ∨ q4.1 = 1 then some (some (.int q4.1), q4.2) else none)))) → COd tp A D m (if D.1 = 40 then .inl (fl tp (ps tp n) 5) else o) (f_Da_readLine_52 X A 1 P v3 v4 v5 (hp m)) := by
    intro v3 v4 v5 o ho
    rw [u_Da_readLine_52, fI, hD.1]
    simp only [tIs, tVs, bs, if_true, true_or, or_true, i10, if_false, not_false_eq_true, not_true_eq_false, k40]
    by_cases hd : D.1 = 40
    · rw [if_pos hd, if_neg (show ¬ D.1 < 40 by omega)]
      simp only [tIs, tVs, bs, if_true, true_or, or_true, i10, if_false, not_false_eq_true, not_true_eq_false, Tp_rc, w_refuse (X := X) (v := 5) (vv := 5) rfl hCA.2, eq_self]
      exact COd.fail rfl CFd.f4 gI_sI_eq
    · rw [if_neg hd, if_pos (show D.1 < 40 by omega)]
      simp only [tIs, tVs, bs, if_true, true_or, or_true, i10, if_false, not_false_eq_true, not_true_eq_false, Tp_rc, a1, hA.r]
      obtain ⟨m', x1, x2, x3⟩ := ho (by omega)
      refine ⟨m', ?_, F1.tr x2, x3⟩
      rw [← x1]
  have c01 : ∀ {o : Nat ⊕ (Nat × aX3)} {F : Option pv_O}, COd tp A D m1 o F → COd tp A D m1 o ((pv_tI F).bind (fun q4 => if q4.1 = 0 ∨ q4.1 = 1 then some (some (.int q4.1), q4.2) else none)) := by
    rintro o F ⟨m', x1, x2, x3⟩
    refine ⟨m', ?_, x2, x3⟩
    rw [x1]
    cases o with
    | inl e => simp only [tIs, bs, eq_self, true_or, if_true]
    | inr x => simp only [tIs, bs, eq_self, or_true, if_true]
  unfold oLn
  rw [e_Da_readLine, u_Da_readLine_0, whr4]
  simp only [tIs, tVs, bs, if_true, true_or, or_true, i10, if_false, not_false_eq_true, not_true_eq_false, Tp_rc, W 5 (by decide), W 6 (by decide), W 7 (by decide), W 8 (by decide), w_refuse (X := X) (v := 1) (vv := 1) rfl hCA.2, eq_self]
  rw [show wdv.getD (5 + 0) [] = tx 5 from rfl, show wdv.getD (5 + 1) [] = tx 6 from rfl, show wdv.getD (5 + 2) [] = tx 7 from rfl, show wdv.getD (5 + 3) [] = tx 8 from rfl]
  have tne : ∀ a b, tx a ≠ tx b → isW tp (ps tp n) (tx a) = true → isW tp (ps tp n) (tx b) = false := fun a b hab h => tx_ne hab h
  cases w5 : isW tp (ps tp n) (tx 5) with
  | true =>
    have w6 := tne 5 6 (by decide) w5
    have w7 := tne 5 7 (by decide) w5
    simp only [w6, w7, bI_t, bI_f, tIs, tVs, bs, if_true, true_or, or_true, i10, if_false, not_false_eq_true, not_true_eq_false, eq_self]
    refine go 1 0 0 _ (fun hd => ?_)
    rw [if_neg (show ¬ (1 : Int32) = 0 by decide)]
    exact c01 (c_askL T hP hPA hP3 hA h3 hz hok N1 A1 h4' D1 hd)
  | false =>
    cases w6 : isW tp (ps tp n) (tx 6) with
    | true =>
      have w7 := tne 6 7 (by decide) w6
      simp only [w7, bI_t, bI_f, Bool.false_eq_true, tIs, tVs, bs, if_true, true_or, or_true, i10, if_false, not_false_eq_true, not_true_eq_false, eq_self]
      refine go 0 1 0 _ (fun hd => ?_)
      rw [if_pos rfl, if_pos (show ¬ (1 : Int32) = 0 by decide), u_Da_readLine_92, if_neg (show ¬ (1 : Int32) = 0 by decide), u_Da_readLine_105]
      simp only [tIs, tVs, bs, if_true, true_or, or_true, i10, if_false, not_false_eq_true, not_true_eq_false, hA.r]
      exact c01 (c_move T (Or.inl ⟨rfl, rfl⟩) hP hPA hP3 hA h3 hz hok N1 A1 h4' D1 hd)
    | false =>
      cases w7 : isW tp (ps tp n) (tx 7) with
      | true =>
        simp only [bI_t, bI_f, Bool.false_eq_true, tIs, tVs, bs, if_true, true_or, or_true, i10, if_false, not_false_eq_true, not_true_eq_false, eq_self]
        refine go 0 0 1 _ (fun hd => ?_)
        rw [if_pos rfl, if_neg (fun z => z rfl), if_neg (show ¬ (1 : Int32) = 0 by decide), u_Da_readLine_92, if_pos rfl, u_Da_readLine_105]
        simp only [tIs, tVs, bs, if_true, true_or, or_true, i10, if_false, not_false_eq_true, not_true_eq_false, hA.r]
        exact c01 (c_move T (Or.inr ⟨rfl, rfl⟩) hP hPA hP3 hA h3 hz hok N1 A1 h4' D1 hd)
      | false =>
        cases w8 : isW tp (ps tp n) (tx 8) with
        | true =>
          simp only [bI_t, bI_f, Bool.false_eq_true, tIs, tVs, bs, if_true, true_or, or_true, i10, if_false, not_false_eq_true, not_true_eq_false, eq_self]
          refine go 0 0 0 _ (fun hd => ?_)
          rw [if_pos rfl, if_neg (fun z => z rfl), if_pos rfl]
          exact c_add (m := m1) (x := (3, 0, 0)) (v1 := 2) (v2 := 0) (v3 := 0) hA h3 A1 h4' D1 hd ⟨rfl, Or.inr (Or.inr (Or.inr ⟨rfl, rfl⟩))⟩ rfl CFd.rf
        | false =>
          simp only [bI_f, Bool.false_eq_true, tIs, tVs, bs, if_true, true_or, or_true, i10, if_false, not_false_eq_true, not_true_eq_false, eq_self]
          exact COd.fail rfl CFd.f4 gI_sI_eq
end DAY
