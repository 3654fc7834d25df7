/-! sets, person, moods; a line. -/
theorem nar1 : vp_nar .boolean 1 = 1 := by decide
theorem nar0 : vp_nar .boolean 0 = 0 := by decide
theorem bI_n0 {b : Bool} : (bI b = 0) ↔ b = false := by cases b <;> decide
section LI2
variable {X : pv_X} {tp : aT} {N n Q : Nat} {ψ : aB} {m m' m1 m2 : pm_M} {LL : List Nat}
theorem isPo.st (h : isPo Q) : isSt (Q + 8) := h.2.2.2.2.2.2
theorem isPo.mo (h : isPo Q) : isMo (Q + 3) := h.2.2.2.1
def oSet (tp : aT) (n : Nat) (ψ : aB) : aO := match psn tp (n + 1) ψ.1 ψ.2.1 with
  | .inl e => .inl e
  | .inr a => match ψ.2.2.2.2.2.1 a with
    | some _ => .inl (fl tp (ps tp (n + 1)) 3)
    | none => match nmb tp (n + 2) 0 719 with
      | .inl e => .inl e
      | .inr v => .inr (n + 3, (ψ.1, ψ.2.1, ψ.2.2.1, ψ.2.2.2.1, ψ.2.2.2.2.1, upO ψ.2.2.2.2.2.1 a (some v), ψ.2.2.2.2.2.2))
theorem c_sets (T : TK tp N) (hQ : isPo Q) (h3 : 3 ≤ Q) (ok : okB ψ) (hA : CA m tp n) (h4 : gI m 1 4 = 0) (hP : CPs m Q ψ) : CO tp Q m (oSet tp n ψ) (pM X m_Po_readSets [.ref Q, .ref 1] (hp m)) := by
  obtain ⟨m1, a1, A1, f1, P1, F1⟩ := l_adv (X := X) T.1 h3 hA h4 hP
  have e1 := w_personAt (X := X) T.1 hQ ok.1 P1.1 (fun k hk => (P1.2.1 k hk).1) (fun k hk => (ok.2.1 k hk).1) A1
  have hz := ok.1
  unfold oSet
  rw [e_Po_readSets, u_Po_readSets_0]
  simp only [tIs, tVs, bs, if_true, true_or, or_true, i10, if_false, not_false_eq_true, not_true_eq_false, Tp_rc, a1, Po_rc hQ]
  cases hp1 : psn tp (n + 1) ψ.1 ψ.2.1 with
  | inl e =>
    rw [hp1] at e1
    dsimp only at e1 ⊢
    simp only [e1, tIs, tVs, bs, if_true, true_or, or_true, i10, if_false, not_false_eq_true, not_true_eq_false, eq_self]
    exact CO.fail rfl (F1.tr CF.f4) gI_sI_eq
  | inr a =>
    rw [hp1] at e1
    dsimp only at e1 ⊢
    have ha := (psn_inr hp1).1
    simp only [e1, tIs, tVs, bs, if_true, true_or, or_true, i10, if_false, not_false_eq_true, not_true_eq_false, enc_m1 (show a < 2 ^ 31 by omega), Po_f1 hQ]
    rw [Po_a2 hQ (by omega), (P1.2.2.1 a (by omega)).2.1]
    simp only [tIs, tVs, bs, if_true, true_or, or_true, i10, if_false, not_false_eq_true, not_true_eq_false]
    cases hq : ψ.2.2.2.2.2.1 a with
    | some j =>
      simp only [Option.isSome_some, bI_t, tIs, tVs, bs, if_true, true_or, or_true, i10, if_false, not_false_eq_true, not_true_eq_false, Tp_rc, w_refuse (X := X) (v := 3) (vv := 3) rfl A1.2, eq_self]
      exact CO.fail rfl (F1.tr CF.f4) gI_sI_eq
    | none =>
      obtain ⟨m2, a2, A2, f2, P2, F2⟩ := l_adv (X := X) T.1 h3 A1 f1 P1
      have e2 := w_holds (X := X) (l := 0) (u := 719) (vl := 0) (vu := 719) rfl rfl (by decide) (by decide) A2
      simp only [Option.isSome_none, bI_f, tIs, tVs, bs, if_true, true_or, or_true, i10, if_false, not_false_eq_true, not_true_eq_false, Tp_rc, a2, eq_self]
      cases hp2 : nmb tp (n + 2) 0 719 with
      | inl e =>
        rw [hp2] at e2
        dsimp only at e2 ⊢
        simp only [e2, tIs, tVs, bs, if_true, true_or, or_true, i10, if_false, not_false_eq_true, not_true_eq_false, eq_self]
        exact CO.fail rfl ((F1.tr F2).tr CF.f4) gI_sI_eq
      | inr v =>
        rw [hp2] at e2
        dsimp only at e2 ⊢
        obtain ⟨-, hv, hs2, ev⟩ := nmb_inr hp2
        simp only [e2, tIs, tVs, bs, if_true, true_or, or_true, i10, if_false, not_false_eq_true, not_true_eq_false, Po_f5 hQ, St_f0 hQ.st, Tp_f3, A2.2.2.2.2.2 hs2]
        rw [← ev, St_s1 hQ.st (by omega)]
        simp only [tIs, tVs, bs, if_true, true_or, or_true, i10, if_false, not_false_eq_true, not_true_eq_false, Po_f1 hQ]
        rw [Po_s2 hQ (by omega), nar1, gA_sA, if_neg (by omega)]
        have s3 : Same [Q + 9, Q + 2] m2 (sA (sA m2 (Q + 8 + 1) (upd (gA m2 (Q + 8 + 1)) a (nI v))) (Q + 2) (upd (gA m2 (Q + 2)) a 1)) := (Same.sA (by simp)).tr (Same.sA (by simp))
        have hn1 : 1 ∉ [Q + 9, Q + 2] := by simp
        have hn2 : 2 ∉ [Q + 9, Q + 2] := by simp; omega
        have f3 : gI (sA (sA m2 (Q + 8 + 1) (upd (gA m2 (Q + 8 + 1)) a (nI v))) (Q + 2) (upd (gA m2 (Q + 2)) a 1)) 1 4 = 0 := f2
        have F3 : CF Q m2 (sA (sA m2 (Q + 8 + 1) (upd (gA m2 (Q + 8 + 1)) a (nI v))) (Q + 2) (upd (gA m2 (Q + 2)) a 1)) := ⟨s3.mono (by unfold cQs; simp), rfl⟩
        have P3 : CPs (sA (sA m2 (Q + 8 + 1) (upd (gA m2 (Q + 8 + 1)) a (nI v))) (Q + 2) (upd (gA m2 (Q + 2)) a 1)) Q (ψ.1, ψ.2.1, ψ.2.2.1, ψ.2.2.2.1, ψ.2.2.2.2.1, upO ψ.2.2.2.2.2.1 a (some v), ψ.2.2.2.2.2.2) := by
          obtain ⟨b1, b2, b3, b4, b5, b6, b7⟩ := P2
          refine ⟨b1, fun k hk => ?_, fun k hk => ?_, b4, b5, b6, ?_⟩
          · rw [gL_sA, gL_sA, gA_sA, if_neg (by omega), gA_sA, if_neg (by omega)]
            exact b2 k hk
          · rw [gA_sA, if_neg (show ¬ Q + 7 = Q + 2 by omega), gA_sA, if_neg (show ¬ Q + 7 = Q + 8 + 1 by omega), gA_sA, if_pos rfl, gA_sA, if_neg (show ¬ Q + 9 = Q + 2 by omega), gA_sA, if_pos (show Q + 9 = Q + 8 + 1 by omega), gA_sA, if_neg (show ¬ Q + 11 = Q + 2 by omega), gA_sA, if_neg (show ¬ Q + 11 = Q + 8 + 1 by omega), gA_sA, if_neg (show ¬ Q + 10 = Q + 2 by omega), gA_sA, if_neg (show ¬ Q + 10 = Q + 8 + 1 by omega)]
            obtain ⟨d1, d2, d3, d4⟩ := b3 k hk
            refine ⟨d1, ?_, ?_, d4⟩
            · dsimp only
              by_cases hka : k = a
              · subst hka; rw [pk_us, upO_s]; rfl
              · rw [pk_un hka, upO_n hka]; exact d2
            · dsimp only
              by_cases hka : k = a
              · subst hka; rw [pk_us, upO_s]; rfl
              · rw [pk_un hka, upO_n hka]; exact d3
          · rw [gA_sA, if_neg (by omega), gA_sA, if_neg (by omega)]
            exact b7
        have A3 : CA (sA (sA m2 (Q + 8 + 1) (upd (gA m2 (Q + 8 + 1)) a (nI v))) (Q + 2) (upd (gA m2 (Q + 2)) a 1)) tp (n + 2) := A2.same s3 hn1 hn2
        obtain ⟨m4, a4, A4, f4, P4, F4⟩ := l_adv (X := X) T.1 h3 A3 f3 P3
        simp only [tIs, tVs, bs, if_true, true_or, or_true, i10, if_false, not_false_eq_true, not_true_eq_false, Tp_rc, a4]
        exact CO.fine rfl (((F1.tr F2).tr F3).tr F4) f4 A4 P4
theorem d_setsL (T : TK tp N) (ok : okB ψ) (hn : n ≤ N) (h0 : isW tp (ps tp n) (tx 1) = false) (h1 : isW tp (ps tp n) (tx 2) = false) (h2 : isW tp (ps tp n) (tx 3) = true) (hA : MAt m tp N n) (hP : RPs m ψ) : RO tp N m (oSet tp n ψ) (pM X m_Md_readLine [.ref 175] (hp m)) := by
  have hz := ok.1
  have hnN : n < N := T.lt hn (by rw [(isW_s h2).1]; decide)
  have A1 := hA.nx hnN
  have P1 : RPs (sI m 175 7 (nI (n + 1))) ψ := hP.f7
  have F1 : RF m (sI m 175 7 (nI (n + 1))) := RF.f7
  have e1 := m_toldHere (X := X) (b := true) T P1.1 A1
  rw [bI_t] at e1
  unfold oSet
  rw [e_Md_readLine, u_Md_readLine_0]
  simp only [tIs, tVs, bs, if_true, true_or, or_true, i10, if_false, not_false_eq_true, not_true_eq_false, Md_rc, Md_f1, Md_f4, Md_f5, Md_f6, Md_f9, Md_f10, Md_f11, Md_f12, Md_f14, Md_f15, Md_f18, Md_f19, Md_f20, Md_f21, Md_f23, Md_f24, Md_f25, Md_f26, Md_f28, m_isW (X := X) (k := 0) (j := 1) (vk := 0) rfl (by decide) rfl hA, m_isW (X := X) (k := 2) (j := 2) (vk := 2) rfl (by decide) rfl hA, m_isW (X := X) (k := 3) (j := 3) (vk := 3) rfl (by decide) rfl hA, h0, h1, h2, bI_t, bI_f, eq_self, Md_f7, hA.2.2.1, nI_1, Md_p7]
  generalize sI m 175 7 (nI (n + 1)) = m1 at A1 P1 F1 e1
  cases hp1 : psn tp (n + 1) ψ.1 ψ.2.1 with
  | inl e =>
    obtain ⟨g0, g1⟩ := psn_inl T hp1
    rw [hp1] at e1
    dsimp only at e1 ⊢
    have h8 : gI (sI m1 175 8 (nI e)) 175 8 = nI e := gI_sI_eq
    simp only [e1, tIs, tVs, bs, if_true, true_or, or_true, i10, if_false, not_false_eq_true, not_true_eq_false, Md_rc, Md_f1, Md_f4, Md_f5, Md_f6, Md_f9, Md_f10, Md_f11, Md_f12, Md_f14, Md_f15, Md_f18, Md_f19, Md_f20, Md_f21, Md_f23, Md_f24, Md_f25, Md_f26, Md_f28, pix30]
    rw [ld_181 (by decide)]
    simp only [tIs, tVs, bs, if_true, true_or, or_true, i10, if_false, not_false_eq_true, not_true_eq_false, Md_rc, Md_f1, Md_f4, Md_f5, Md_f6, Md_f9, Md_f10, Md_f11, Md_f12, Md_f14, Md_f15, Md_f18, Md_f19, Md_f20, Md_f21, Md_f23, Md_f24, Md_f25, Md_f26, Md_f28, x158 (X := X) (i := 35) (by decide) h8 g0 (by omega), ite_self]
    exact RO.fail rfl (F1.tr RF.f8) h8
  | inr a =>
    rw [hp1] at e1
    dsimp only at e1 ⊢
    obtain ⟨ha, hs1⟩ := psn_inr hp1
    have h1N : n + 1 < N := T.lt A1.2.2.2.1 (by rw [hs1]; decide)
    simp only [e1, tIs, tVs, bs, if_true, true_or, or_true, i10, if_false, not_false_eq_true, not_true_eq_false, Md_rc, Md_f1, Md_f4, Md_f5, Md_f6, Md_f9, Md_f10, Md_f11, Md_f12, Md_f14, Md_f15, Md_f18, Md_f19, Md_f20, Md_f21, Md_f23, Md_f24, Md_f25, Md_f26, Md_f28, pix3]
    rw [ld_181 (by omega), (P1.2.2.2.2.1 a (by omega)).2]
    simp only [tIs, tVs, bs, if_true, true_or, or_true, i10, if_false, not_false_eq_true, not_true_eq_false, Md_rc, Md_f1, Md_f4, Md_f5, Md_f6, Md_f9, Md_f10, Md_f11, Md_f12, Md_f14, Md_f15, Md_f18, Md_f19, Md_f20, Md_f21, Md_f23, Md_f24, Md_f25, Md_f26, Md_f28, enc_lt0 (o := ψ.2.2.2.2.2.1 a) (fun j hj => by have := ok.2.2.2.1 a j hj; omega)]
    cases hq : ψ.2.2.2.2.2.1 a with
    | some j =>
      obtain ⟨g0, g1⟩ := fl_lt (n := n + 1) (v := 3) T (by decide) (by decide)
      have h8 : gI (sI m1 175 8 (nI (fl tp (ps tp (n + 1)) 3))) 175 8 = nI (fl tp (ps tp (n + 1)) 3) := gI_sI_eq
      rw [if_neg (fun z => by cases z), u_Md_readLine_158]
      simp only [tIs, tVs, bs, if_true, true_or, or_true, i10, if_false, not_false_eq_true, not_true_eq_false, Md_rc, Md_f1, Md_f4, Md_f5, Md_f6, Md_f9, Md_f10, Md_f11, Md_f12, Md_f14, Md_f15, Md_f18, Md_f19, Md_f20, Md_f21, Md_f23, Md_f24, Md_f25, Md_f26, Md_f28, m_takes1 (X := X) T A1, x_takeNumber (X := X) (vl := 0) (vu := 719) h8 (by omega) (by omega), Md_f8, h8]
      rw [if_neg (nI_nle (by omega) (by omega)), ld_181 (by omega)]
      simp only [tIs, tVs, bs, if_true, true_or, or_true, i10, if_false, not_false_eq_true, not_true_eq_false, Md_rc, Md_f1, Md_f4, Md_f5, Md_f6, Md_f9, Md_f10, Md_f11, Md_f12, Md_f14, Md_f15, Md_f18, Md_f19, Md_f20, Md_f21, Md_f23, Md_f24, Md_f25, Md_f26, Md_f28]
      rw [u_Md_readLine_192, st_181 (by omega), sA_sf rfl]
      simp only [tIs, tVs, bs, if_true, true_or, or_true, i10, if_false, not_false_eq_true, not_true_eq_false, Md_rc, Md_f1, Md_f4, Md_f5, Md_f6, Md_f9, Md_f10, Md_f11, Md_f12, Md_f14, Md_f15, Md_f18, Md_f19, Md_f20, Md_f21, Md_f23, Md_f24, Md_f25, Md_f26, Md_f28, u_Md_readLine_200]
      exact RO.fail rfl (F1.tr RF.f8) h8
    | none =>
      have A2 := A1.nx h1N
      have P2 : RPs (sI m1 175 7 (nI (n + 2))) ψ := P1.f7
      have F2 : RF m1 (sI m1 175 7 (nI (n + 2))) := RF.f7
      have t2 : pM X m_Md_takes [.ref 175, .int 0] (hp m1) = some (none, hp (sI m1 175 7 (nI (n + 2)))) := m_takes0 A1
      have e2 := m_takeNumber (X := X) (l := 0) (u := 719) (vl := 0) (vu := 719) T rfl rfl (by decide) (by decide) A2
      rw [if_pos rfl, u_Md_readLine_158]
      simp only [tIs, tVs, bs, if_true, true_or, or_true, i10, if_false, not_false_eq_true, not_true_eq_false, Md_rc, Md_f1, Md_f4, Md_f5, Md_f6, Md_f9, Md_f10, Md_f11, Md_f12, Md_f14, Md_f15, Md_f18, Md_f19, Md_f20, Md_f21, Md_f23, Md_f24, Md_f25, Md_f26, Md_f28, t2]
      generalize sI m1 175 7 (nI (n + 2)) = m2 at A2 P2 F2 e2
      cases hp2 : nmb tp (n + 2) 0 719 with
      | inl e =>
        obtain ⟨g0, g1⟩ := nmb_inl T hp2
        rw [hp2] at e2
        dsimp only at e2 ⊢
        have h8 : gI (sI m2 175 8 (nI e)) 175 8 = nI e := gI_sI_eq
        simp only [e2, tIs, tVs, bs, if_true, true_or, or_true, i10, if_false, not_false_eq_true, not_true_eq_false, Md_rc, Md_f1, Md_f4, Md_f5, Md_f6, Md_f9, Md_f10, Md_f11, Md_f12, Md_f14, Md_f15, Md_f18, Md_f19, Md_f20, Md_f21, Md_f23, Md_f24, Md_f25, Md_f26, Md_f28, Md_f8, h8]
        rw [if_neg (nI_nle (by omega) (by omega)), ld_181 (by omega)]
        simp only [tIs, tVs, bs, if_true, true_or, or_true, i10, if_false, not_false_eq_true, not_true_eq_false, Md_rc, Md_f1, Md_f4, Md_f5, Md_f6, Md_f9, Md_f10, Md_f11, Md_f12, Md_f14, Md_f15, Md_f18, Md_f19, Md_f20, Md_f21, Md_f23, Md_f24, Md_f25, Md_f26, Md_f28]
        rw [u_Md_readLine_192, st_181 (by omega), sA_sf rfl]
        simp only [tIs, tVs, bs, if_true, true_or, or_true, i10, if_false, not_false_eq_true, not_true_eq_false, Md_rc, Md_f1, Md_f4, Md_f5, Md_f6, Md_f9, Md_f10, Md_f11, Md_f12, Md_f14, Md_f15, Md_f18, Md_f19, Md_f20, Md_f21, Md_f23, Md_f24, Md_f25, Md_f26, Md_f28, u_Md_readLine_200]
        exact RO.fail rfl ((F1.tr F2).tr RF.f8) h8
      | inr v =>
        rw [hp2] at e2
        dsimp only at e2 ⊢
        obtain ⟨-, hv, hs2, ev⟩ := nmb_inr hp2
        have h2N : n + 2 < N := T.lt A2.2.2.2.1 (by rw [hs2]; decide)
        have A3 := A2.nx h2N
        have P3 : RPs (sI m2 175 7 (nI (n + 3))) ψ := P2.f7
        have F3 : RF m2 (sI m2 175 7 (nI (n + 3))) := RF.f7
        have e3 : pM X m_Md_takeNumber [.ref 175, .int 0, .int 719] (hp m2) = some (some (.int (nI v)), hp (sI m2 175 7 (nI (n + 3)))) := e2
        simp only [e3, tIs, tVs, bs, if_true, true_or, or_true, i10, if_false, not_false_eq_true, not_true_eq_false, Md_rc, Md_f1, Md_f4, Md_f5, Md_f6, Md_f9, Md_f10, Md_f11, Md_f12, Md_f14, Md_f15, Md_f18, Md_f19, Md_f20, Md_f21, Md_f23, Md_f24, Md_f25, Md_f26, Md_f28, Md_f8]
        generalize sI m2 175 7 (nI (n + 3)) = m3 at A3 P3 F3
        have f3 : gI m3 175 8 = 0 := A3.2.2.2.2
        simp only [f3, le00, tIs, tVs, bs, if_true, true_or, or_true, i10, if_false, not_false_eq_true, not_true_eq_false, Md_rc, Md_f1, Md_f4, Md_f5, Md_f6, Md_f9, Md_f10, Md_f11, Md_f12, Md_f14, Md_f15, Md_f18, Md_f19, Md_f20, Md_f21, Md_f23, Md_f24, Md_f25, Md_f26, Md_f28]
        rw [u_Md_readLine_192, st_181 (by omega)]
        simp only [tIs, tVs, bs, if_true, true_or, or_true, i10, if_false, not_false_eq_true, not_true_eq_false, Md_rc, Md_f1, Md_f4, Md_f5, Md_f6, Md_f9, Md_f10, Md_f11, Md_f12, Md_f14, Md_f15, Md_f18, Md_f19, Md_f20, Md_f21, Md_f23, Md_f24, Md_f25, Md_f26, Md_f28, u_Md_readLine_200]
        refine RO.fine rfl (((F1.tr F2).tr F3).tr (RF.s181 (by omega))) ?_ ?_
        · exact A3.same (LL := [181]) (Same.sA (by decide)) (by decide) (by decide) (by decide) (by decide) A3.2.2.1 A3.2.2.2.1 A3.2.2.2.2
        · obtain ⟨b0, b1, b2, b3, b4, b5, b6⟩ := P3
          refine ⟨b0, ?_, ?_, fun k hk => ?_, fun k hk => ?_, ?_, ?_⟩
          · rw [gA_sA, if_pos rfl, pk_un (by omega)]; exact b1
          · rw [gA_sA, if_pos rfl, pk_un (by omega)]; exact b2
          · rw [gA_sA, if_pos rfl, pk_un (by omega), pk_un (by omega)]; exact b3 k hk
          · rw [gA_sA, if_pos rfl, pk_un (show 34 + 4 * k ≠ 35 + 4 * a by omega)]
            refine ⟨(b4 k hk).1, ?_⟩
            dsimp only
            by_cases hka : k = a
            · subst hka; rw [pk_us, upO_s]; rfl
            · rw [pk_un (by omega), upO_n hka]; exact (b4 k hk).2
          · rw [gA_sA, if_neg (by decide), gA_sA, if_neg (by decide)]; exact b5
          · rw [gA_sA, if_neg (by decide)]; exact b6
theorem oSet_good (T : TK tp N) (ok : okB ψ) (hn : n < N) : oGood N n (oSet tp n ψ) := by
  unfold oSet
  cases hp1 : psn tp (n + 1) ψ.1 ψ.2.1 with
  | inl e => exact psn_inl T hp1
  | inr a =>
    obtain ⟨ha, hs1⟩ := psn_inr hp1
    have h1N : n + 1 < N := T.lt hn (by rw [hs1]; decide)
    dsimp only
    cases hq : ψ.2.2.2.2.2.1 a with
    | some j => have := fl_lt (n := n + 1) (v := 3) T (by decide) (by decide); exact ⟨by omega, this.1⟩
    | none =>
      dsimp only
      cases hp2 : nmb tp (n + 2) 0 719 with
      | inl e => exact nmb_inl T hp2
      | inr v =>
        obtain ⟨-, hv, hs2, ev⟩ := nmb_inr hp2
        have h2N : n + 2 < N := T.lt h1N (by rw [hs2]; decide)
        dsimp only
        refine ⟨by show n < n + 3; omega, h2N, ok.1, ok.2.1, ok.2.2.1, fun k t hkt => ?_, ok.2.2.2.2⟩
        dsimp only at hkt
        by_cases hka : k = a
        · subst hka
          rw [upO_s] at hkt
          cases hkt
          exact ⟨by omega, ha⟩
        · rw [upO_n hka] at hkt
          exact ok.2.2.2.1 k t hkt
/-! person -/
def oPer (tp : aT) (n : Nat) (ψ : aB) : aO := if ψ.1 = 6 then .inl (fl tp (ps tp n) 5) else if isN tp (ps tp (n + 1)) = true then (match nmO ψ.1 ψ.2.1 (tkX tp (ps tp (n + 1))) with
    | some _ => .inl (fl tp (ps tp (n + 1)) 3)
    | none => match whr tp (ps tp (n + 2)) 9 4 with
      | none => .inl (fl tp (ps tp (n + 2)) 1)
      | some kd => if isW tp (ps tp (n + 3)) (tx 9) = true then (match nmb tp (n + 4) 20 160 with
          | .inl e => .inl e
          | .inr v => .inr (n + 5, (ψ.1 + 1, upO ψ.2.1 ψ.1 (tkX tp (ps tp (n + 1))), upO ψ.2.2.1 ψ.1 kd, upO ψ.2.2.2.1 ψ.1 v, ψ.2.2.2.2))) else .inl (fl tp (ps tp (n + 3)) 1)) else .inl (fl tp (ps tp (n + 1)) 1)
theorem c_person (T : TK tp N) (hQ : isPo Q) (h3 : 3 ≤ Q) (ok : okB ψ) (hA : CA m tp n) (h4 : gI m 1 4 = 0) (hP : CPs m Q ψ) : CO tp Q m (oPer tp n ψ) (pM X m_Po_readPerson [.ref Q, .ref 1] (hp m)) := by
  have hz := ok.1
  have k6 : (nI ψ.1 < 6) ↔ ψ.1 < 6 := nI_ltI (b := 6) (by omega) (by decide)
  unfold oPer
  rw [e_Po_readPerson, u_Po_readPerson_0, Po_f6 hQ, hP.1]
  simp only [tIs, tVs, bs, if_true, true_or, or_true, i10, if_false, not_false_eq_true, not_true_eq_false, k6]
  by_cases h6 : ψ.1 = 6
  · rw [if_pos h6, if_neg (show ¬ ψ.1 < 6 by omega)]
    simp only [tIs, tVs, bs, if_true, true_or, or_true, i10, if_false, not_false_eq_true, not_true_eq_false, Tp_rc, w_refuse (X := X) (v := 5) (vv := 5) rfl hA.2, eq_self]
    exact CO.fail rfl CF.f4 gI_sI_eq
  · obtain ⟨m1, a1, A1, f1, P1, F1⟩ := l_adv (X := X) T.1 h3 hA h4 hP
    rw [if_neg h6, if_pos (show ψ.1 < 6 by omega)]
    simp only [tIs, tVs, bs, if_true, true_or, or_true, i10, if_false, not_false_eq_true, not_true_eq_false, Tp_rc, a1, w_isName (X := X) A1.1 T.1 (ps_le (n + 1)) A1.2]
    cases hi : isN tp (ps tp (n + 1)) with
    | false =>
      simp only [bI_f, Bool.false_eq_true, tIs, tVs, bs, if_true, true_or, or_true, i10, if_false, not_false_eq_true, not_true_eq_false, eq_self, Tp_rc, w_refuse (X := X) (v := 1) (vv := 1) rfl A1.2]
      exact CO.fail rfl (F1.tr CF.f4) gI_sI_eq
    | true =>
      have hs := isN_s hi
      have hW := (tkW (ps_le (tp := tp) (n + 1)) hs).1
      rw [if_pos rfl]
      simp only [bI_t, tIs, tVs, bs, if_true, true_or, or_true, i10, if_false, not_false_eq_true, not_true_eq_false, Tp_f2, Po_rc hQ]
      rw [w_numberOf hQ ok.1 P1.1 (fun k hk => (P1.2.1 k hk).1) (fun k hk => (ok.2.1 k hk).1) hW (A1.2.2.2.2.1 hs)]
      simp only [tIs, tVs, bs, if_true, true_or, or_true, i10, if_false, not_false_eq_true, not_true_eq_false]
      cases hq : nmO ψ.1 ψ.2.1 (tkX tp (ps tp (n + 1))) with
      | some j =>
        have hj := (nmO_some hq).1
        simp only [enc, tIs, tVs, bs, if_true, true_or, or_true, i10, if_false, not_false_eq_true, not_true_eq_false, enc_m1 (show j < 2 ^ 31 by omega), Tp_rc, w_refuse (X := X) (v := 3) (vv := 3) rfl A1.2, eq_self]
        exact CO.fail rfl (F1.tr CF.f4) gI_sI_eq
      | none =>
        have g2 : gJ m1 1 2 = lN (En 27 (tkX tp (ps tp (n + 1)))) := A1.2.2.2.2.1 hs
        simp only [enc, tIs, tVs, bs, if_true, true_or, or_true, i10, if_false, not_false_eq_true, not_true_eq_false, eq_self, Po_f0 hQ, Po_f6 hQ, P1.1, Tp_f2, g2]
        rw [Po_s1 hQ (by omega)]
        have s2 : Same [Q + 1] m1 (sL m1 (Q + 1) (vp_updL (gL m1 (Q + 1)) ψ.1 (lN (En 27 (tkX tp (ps tp (n + 1))))))) := Same.sL (by simp)
        have gl2 : gL (sL m1 (Q + 1) (vp_updL (gL m1 (Q + 1)) ψ.1 (lN (En 27 (tkX tp (ps tp (n + 1))))))) (Q + 1) = vp_updL (gL m1 (Q + 1)) ψ.1 (lN (En 27 (tkX tp (ps tp (n + 1))))) := by rw [gL_sL, if_pos rfl]
        generalize sL m1 (Q + 1) (vp_updL (gL m1 (Q + 1)) ψ.1 (lN (En 27 (tkX tp (ps tp (n + 1)))))) = m2 at s2 gl2
        have A2 : CA m2 tp (n + 1) := A1.same s2 (nin1 (by omega)) (nin1 (by omega))
        obtain ⟨m3, a3, s3, g3, A3⟩ := w_adv (X := X) T.1 A2
        have n31 : ∀ d, Q + d ∉ [1] := fun d => nin1 (by omega)
        have z3 : gI m3 Q 6 = nI ψ.1 := by rw [s3.I (show Q ∉ [1] from nin1 (by omega)), s2.I (nin1 (by omega))]; exact P1.1
        simp only [tIs, tVs, bs, if_true, true_or, or_true, i10, if_false, not_false_eq_true, not_true_eq_false, Tp_rc, a3, Po_f3 hQ, Po_f6 hQ, z3, w_kindOf (X := X) T.1 A3]
        rw [Po_s6 hQ (by omega)]
        have s4 : Same [Q + 6] m3 (sA m3 (Q + 6) (upd (gA m3 (Q + 6)) ψ.1 (enc (whr tp (ps tp (n + 2)) 9 4)))) := Same.sA (by simp)
        have ga4 : gA (sA m3 (Q + 6) (upd (gA m3 (Q + 6)) ψ.1 (enc (whr tp (ps tp (n + 2)) 9 4)))) (Q + 6) = upd (gA m3 (Q + 6)) ψ.1 (enc (whr tp (ps tp (n + 2)) 9 4)) := by rw [gA_sA, if_pos rfl]
        show CO tp Q m _ ((some (hp (sA m3 (Q + 6) (upd (gA m3 (Q + 6)) ψ.1 (enc (whr tp (ps tp (n + 2)) 9 4)))))).bind _)
        generalize sA m3 (Q + 6) (upd (gA m3 (Q + 6)) ψ.1 (enc (whr tp (ps tp (n + 2)) 9 4))) = m4 at s4 ga4
        have A4 : CA m4 tp (n + 2) := A3.same s4 (nin1 (by omega)) (nin1 (by omega))
        have z4 : gI m4 Q 6 = nI ψ.1 := by rw [s4.I (nin1 (by omega))]; exact z3
        have F4 : CF Q m m4 := F1.tr ⟨((s2.mono (by unfold cQs; simp)).tr (s3.mono (by unfold cQs; simp))).tr (s4.mono (by unfold cQs; simp)), by rw [A4.1.1, A1.1.1]⟩
        simp only [tIs, tVs, bs, if_true, true_or, or_true, i10, if_false, not_false_eq_true, not_true_eq_false, Po_f3 hQ, Po_f6 hQ, z4]
        rw [Po_a6 hQ (by omega), ga4, pk_us]
        simp only [tIs, tVs, bs, if_true, true_or, or_true, i10, if_false, not_false_eq_true, not_true_eq_false]
        cases hw : whr tp (ps tp (n + 2)) 9 4 with
        | none =>
          simp only [enc, tIs, tVs, bs, if_true, true_or, or_true, i10, if_false, not_false_eq_true, not_true_eq_false, eq_self, Tp_rc, w_refuse (X := X) (v := 1) (vv := 1) rfl A4.2]
          exact CO.fail rfl (F4.tr CF.f4) gI_sI_eq
        | some kd =>
          have hkd := (whr_some hw).1
          obtain ⟨m5, a5, s5, g5, A5⟩ := w_adv (X := X) T.1 A4
          have F5 : CF Q m m5 := F4.tr (CF.adv s5 A4.1 A5.1)
          simp only [enc, tIs, tVs, bs, if_true, true_or, or_true, i10, if_false, not_false_eq_true, not_true_eq_false, enc_m1 (show kd < 2 ^ 31 by omega), Tp_rc, a5]
          cases hb : isW tp (ps tp (n + 3)) (tx 9) with
          | false =>
            rw [w_takeWord0 (X := X) (j := 9) (by decide) T.1 A5 hb]
            simp only [Bool.false_eq_true, tIs, tVs, bs, if_true, true_or, or_true, i10, if_false, not_false_eq_true, not_true_eq_false, eq_self, u_Po_readPerson_124]
            exact CO.fail rfl (F5.tr CF.f4) gI_sI_eq
          | true =>
            obtain ⟨m6, a6, s6, g6, A6⟩ := w_adv (X := X) T.1 A5
            have F6 : CF Q m m6 := F5.tr (CF.adv s6 A5.1 A6.1)
            have e6 := w_holds (X := X) (l := 20) (u := 160) (vl := 20) (vu := 160) rfl rfl (by decide) (by decide) A6
            rw [if_pos rfl, w_takeWord1 (X := X) (j := 9) (by decide) T.1 A5 hb a6]
            simp only [tIs, tVs, bs, if_true, true_or, or_true, i10, if_false, not_false_eq_true, not_true_eq_false, Tp_rc]
            cases hp2 : nmb tp (n + 4) 20 160 with
            | inl e =>
              rw [hp2] at e6
              dsimp only at e6 ⊢
              simp only [e6, tIs, tVs, bs, if_true, true_or, or_true, i10, if_false, not_false_eq_true, not_true_eq_false, eq_self, u_Po_readPerson_124]
              exact CO.fail rfl (F6.tr CF.f4) gI_sI_eq
            | inr v =>
              rw [hp2] at e6
              dsimp only at e6 ⊢
              obtain ⟨-, hv, hs6, ev⟩ := nmb_inr hp2
              have z6 : gI m6 Q 6 = nI ψ.1 := by rw [s6.I (show Q ∉ [1] from nin1 (by omega)), s5.I (show Q ∉ [1] from nin1 (by omega))]; exact z4
              simp only [e6, tIs, tVs, bs, if_true, true_or, or_true, i10, if_false, not_false_eq_true, not_true_eq_false, Po_f5 hQ, St_f1 hQ.st, Po_f6 hQ, z6, Tp_f3, A6.2.2.2.2.2 hs6]
              rw [← ev, St_s2 hQ.st (by omega)]
              simp only [tIs, tVs, bs, if_true, true_or, or_true, i10, if_false, not_false_eq_true, not_true_eq_false, Po_f6 hQ, gI_sA, z6, nI_1]
              rw [Po_p6 hQ]
              have s7 : Same [Q, Q + 10] m6 (sI (sA m6 (Q + 8 + 2) (upd (gA m6 (Q + 8 + 2)) ψ.1 (nI v))) Q 6 (nI (ψ.1 + 1))) := (Same.sA (by simp)).tr (Same.sI (by simp))
              have ga7 : gA (sI (sA m6 (Q + 8 + 2) (upd (gA m6 (Q + 8 + 2)) ψ.1 (nI v))) Q 6 (nI (ψ.1 + 1))) (Q + 10) = upd (gA m6 (Q + 10)) ψ.1 (nI v) := by rw [gA_sI, gA_sA, if_pos (show Q + 10 = Q + 8 + 2 by omega)]
              have z7 : gI (sI (sA m6 (Q + 8 + 2) (upd (gA m6 (Q + 8 + 2)) ψ.1 (nI v))) Q 6 (nI (ψ.1 + 1))) Q 6 = nI (ψ.1 + 1) := gI_sI_eq
              generalize sI (sA m6 (Q + 8 + 2) (upd (gA m6 (Q + 8 + 2)) ψ.1 (nI v))) Q 6 (nI (ψ.1 + 1)) = m7 at s7 ga7 z7
              have n71 : 1 ∉ [Q, Q + 10] := by simp; omega
              have n72 : 2 ∉ [Q, Q + 10] := by simp; omega
              have A7 : CA m7 tp (n + 4) := A6.same s7 n71 n72
              obtain ⟨m8, a8, s8, g8, A8⟩ := w_adv (X := X) T.1 A7
              simp only [tIs, tVs, bs, if_true, true_or, or_true, i10, if_false, not_false_eq_true, not_true_eq_false, Tp_rc, a8]
              have F8 : CF Q m m8 := (F6.tr ⟨s7.mono (by unfold cQs; simp), by rw [A7.1.1, A6.1.1]⟩).tr (CF.adv s8 A7.1 A8.1)
              have f8 : gI m8 1 4 = 0 := by rw [g8, s7.I n71, g6, g5, s4.I (nin1 (by omega)), g3, s2.I (nin1 (by omega))]; exact f1
              refine CO.fine rfl F8 f8 A8 ?_
              obtain ⟨b1, b2, b3, b4, b5, b6, b7⟩ := P1
              have m7n : ∀ d, d ≠ 0 → d ≠ 10 → Q + d ∉ [Q, Q + 10] := fun d h0 h10 => by simp; omega
              have eI : ∀ d j, d ≠ 0 → d ≠ 1 → d ≠ 6 → d ≠ 10 → gI m8 (Q + d) j = gI m1 (Q + d) j := fun d j h0 h1' h6' h10 => by
                rw [s8.I (n31 d), s7.I (m7n d h0 h10), s6.I (n31 d), s5.I (n31 d), s4.I (nin1 (by omega)), s3.I (n31 d), s2.I (nin1 (by omega))]
              have eA : ∀ d, d ≠ 0 → d ≠ 1 → d ≠ 6 → d ≠ 10 → gA m8 (Q + d) = gA m1 (Q + d) := fun d h0 h1' h6' h10 => by
                rw [s8.A (n31 d), s7.A (m7n d h0 h10), s6.A (n31 d), s5.A (n31 d), s4.A (nin1 (by omega)), s3.A (n31 d), s2.A (nin1 (by omega))]
              have e1 : gL m8 (Q + 1) = vp_updL (gL m1 (Q + 1)) ψ.1 (lN (En 27 (tkX tp (ps tp (n + 1))))) := by
                rw [s8.Lr (n31 1), s7.Lr (m7n 1 (by decide) (by decide)), s6.Lr (n31 1), s5.Lr (n31 1), s4.Lr (nin1 (by omega)), s3.Lr (n31 1), gl2]
              have e6a : gA m8 (Q + 6) = upd (gA m1 (Q + 6)) ψ.1 (nI kd) := by
                rw [s8.A (n31 6), s7.A (m7n 6 (by decide) (by decide)), s6.A (n31 6), s5.A (n31 6), ga4, hw, s3.A (n31 6), s2.A (nin1 (by omega))]
                rfl
              have e10 : gA m8 (Q + 10) = upd (gA m1 (Q + 10)) ψ.1 (nI v) := by
                rw [s8.A (n31 10), ga7, s6.A (n31 10), s5.A (n31 10), s4.A (nin1 (by omega)), s3.A (n31 10), s2.A (nin1 (by omega))]
              refine ⟨?_, fun k hk => ?_, fun k hk => ?_, ?_, ?_, ?_, ?_⟩
              · rw [s8.I (show Q ∉ [1] from nin1 (by omega))]; exact z7
              · rw [e1, e6a]
                dsimp only at hk ⊢
                by_cases hkz : k = ψ.1
                · subst hkz
                  rw [pk_uLs, pk_us, upO_s, upO_s]
                  exact ⟨rfl, rfl⟩
                · rw [pk_uLn hkz, pk_un hkz, upO_n hkz, upO_n hkz]
                  exact b2 k (by omega)
              · rw [eA 7 (by decide) (by decide) (by decide) (by decide), eA 2 (by decide) (by decide) (by decide) (by decide), eA 9 (by decide) (by decide) (by decide) (by decide), eA 11 (by decide) (by decide) (by decide) (by decide), e10]
                obtain ⟨d1, d2, d3, d4, d5⟩ := b3 k hk
                refine ⟨d1, d2, d3, d4, ?_⟩
                dsimp only
                by_cases hkz : k = ψ.1
                · subst hkz; rw [pk_us, upO_s]
                · rw [pk_un hkz, upO_n hkz]; exact d5
              · rw [eI 8 3 (by decide) (by decide) (by decide) (by decide)]; exact b4
              · rw [eI 3 3 (by decide) (by decide) (by decide) (by decide)]; exact b5
              · rw [eI 3 2 (by decide) (by decide) (by decide) (by decide)]; exact b6
              · rw [eA 4 (by decide) (by decide) (by decide) (by decide)]; exact b7
end LI2
