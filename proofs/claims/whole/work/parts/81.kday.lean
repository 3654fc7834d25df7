/-! day agrees: all lines, and the call. -/
section KDA
variable {X : pv_X} {N n P A a c z : Nat} {m m' m1 m2 : pm_M} {L : List Nat} {π : aP} {s b : aS} {C T : aC} {D : aD} {hs : List aS} {mk : aK} {tp : aT} {nm : aN}
theorem rd14_0 {v4 : Int32} : f_Da_readFrom_14 X A 1 P 0 v4 (hp m) = some (some (.int (gI m 1 4)), hp m) := by
  rw [u_Da_readFrom_14]
  simp only [eq_self, if_true, ite_self, u_Da_readFrom_63, Tp_f4, bs]
theorem oLn_good (TT : TK tp N) (hn : n < N) : match oLn tp n z nm D with
    | .inl e => 0 < e ∧ e < 20000
    | .inr x => n < x.1 ∧ x.1 ≤ N ∧ okL z x.2 ∧ ∃ w, whr tp (ps tp n) 5 4 = some w ∧ D.1 ≠ 40 ∧ oD tp (n + 1) z nm w = .inr x := by
  unfold oLn
  cases hw : whr tp (ps tp n) 5 4 with
  | none => have := fl_lt (n := n) (v := 1) TT (by decide) (by decide); exact ⟨by omega, this.1⟩
  | some w =>
    dsimp only
    by_cases hd : D.1 = 40
    · rw [if_pos hd]
      have := fl_lt (n := n) (v := 5) TT (by decide) (by decide)
      exact ⟨by omega, this.1⟩
    · rw [if_neg hd]
      have h1 := oD_good (z := z) (nm := nm) TT hn (whr_some hw).1
      cases ho : oD tp (n + 1) z nm w with
      | inl e => rw [ho] at h1; exact h1
      | inr x => rw [ho] at h1; exact ⟨by have := h1.1; omega, h1.2.1, h1.2.2, w, rfl, hd, ho⟩
theorem DRs.f7 {v : Int32} (h : DRs m D) : DRs (sI m 175 7 v) D := h
theorem day_loop (TT : TK tp N) (hP : isPo P) (hPA : P + 1 < 27) (hP3 : 3 ≤ P) (hA : isDa A) (h3 : 27 ≤ A) (hz : z ≤ 6) (hok : ∀ k, k < z → okW (nm k)) : ∀ q n, n + q = N → ∀ D : aD, D.1 ≤ 40 → (∀ i, i < D.1 → okL z (D.2 i)) → ∃ o : Nat ⊕ aD, (match o with
    | .inl e => 0 < e ∧ e < 20000
    | .inr D' => D'.1 ≤ 40 ∧ ∀ i, i < D'.1 → okL z (D'.2 i)) ∧ (∀ i, i ≤ n → ∀ m, CA m tp n → gI m 1 4 = 0 → DPs m A D → PN m P z nm → ∃ m', f_Da_readFrom_14 X A 1 P 1 (nI i) (hp m) = some (some (.int (match o with
      | .inl e => nI e
      | .inr _ => 0)), hp m') ∧ CFd A m m' ∧ (match o with
      | .inl _ => True
      | .inr D' => DPs m' A D')) ∧ ∀ m o2, MAt m tp N n → nmC m false z nm → DRs m D → ∃ m', RFd m m' ∧ (match o with
      | .inl e => f_Md_day_11 X 175 (nI D.1) o2 (hp m) = some (some (.int (nI e)), hp m')
      | .inr D' => (∃ o3, f_Md_day_11 X 175 (nI D.1) o2 (hp m) = f_Md_day_96 X 175 (nI D'.1) o3 (hp m')) ∧ gI m' 175 8 = 0 ∧ DRs m' D') := by
  have h1000 := TT.2.1
  intro q
  induction q using Nat.strongRecOn with
  | ind q ih =>
    intro n hn D hD40 hDok
    by_cases hnN : n = N
    · have hs0 : tkS tp (ps tp n) = 0 := by rw [hnN]; exact TT.2.2.2
      refine ⟨.inr D, ⟨hD40, hDok⟩, fun i hi m hCA h4 hD hN => ⟨m, ?_, CFd.rf, hD⟩, fun m o2 hM hC hR => ⟨m, RFd.rf, ⟨o2, ?_⟩, hM.2.2.2.2, hR⟩⟩
      · rw [u_Da_readFrom_14]
        simp only [tIs, tVs, bs, if_true, true_or, or_true, i10, if_false, not_false_eq_true, not_true_eq_false, Tp_rc, w_isEnd (X := X) hCA.2, hs0, decide_true, bI_t, u_Da_readFrom_63, Tp_f4, h4, ite_self]
      · have r1 := hM.row.1
        have hN' := hM.NN
        rw [u_Md_day_11, Md_f8, hM.2.2.2.2]
        simp only [tIs, tVs, bs, if_true, true_or, or_true, i10, if_false, not_false_eq_true, not_true_eq_false, Md_rc, Md_f1, Md_f4, Md_f5, Md_f6, Md_f9, Md_f10, Md_f11, Md_f12, Md_f14, Md_f15, Md_f18, Md_f19, Md_f20, Md_f21, Md_f23, Md_f24, Md_f25, Md_f26, Md_f28, eq_self, Md_f7, hM.2.2.1]
        rw [ld_177 (by omega), r1, hs0]
        simp only [tIs, tVs, bs, if_true, true_or, or_true, i10, if_false, not_false_eq_true, not_true_eq_false, Md_rc, Md_f1, Md_f4, Md_f5, Md_f6, Md_f9, Md_f10, Md_f11, Md_f12, Md_f14, Md_f15, Md_f18, Md_f19, Md_f20, Md_f21, Md_f23, Md_f24, Md_f25, Md_f26, Md_f28]
        rw [if_pos nI_0]
    · have hlt : n < N := by omega
      have hs0 : tkS tp (ps tp n) ≠ 0 := TT.2.2.1 n hlt
      have h4' := tkS_le (tp := tp) (i := ps tp n)
      have gd := oLn_good (z := z) (nm := nm) (D := D) TT hlt
      have cl : ∀ i, i ≤ n → ∀ m, CA m tp n → f_Da_readFrom_14 X A 1 P 1 (nI i) (hp m) = (pv_tI (pM X m_Da_readLine [.ref A, .ref 1, .ref P] (hp m))).bind (fun q2 => if q2.1 = 0 then f_Da_readFrom_55 X A 1 P 1 (nI i) q2.2 else if pv_rc q2.2 1 9 = true then (pv_tI (pM X m_Tp_takeSign [.ref 1, .int 59] q2.2)).bind (fun q3 => if q3.1 = 0 then f_Da_readFrom_55 X A 1 P 1 (nI i) q3.2 else f_Da_readFrom_56 X A 1 P 1 (nI i) 1 q3.2) else none) := by
        intro i hi m hCA
        rw [u_Da_readFrom_14, if_neg (show ¬ (1000 : Int32) ≤ nI i from nI_ge (b := 1000) (by omega) (by decide))]
        simp only [tIs, tVs, bs, if_true, true_or, or_true, i10, if_false, not_false_eq_true, not_true_eq_false, Tp_rc, w_isEnd (X := X) hCA.2, decide_eq_false hs0, bI_f, eq_self, hA.r]
      have k40 : (nI D.1 = 40) ↔ D.1 = 40 := nI_eq (b := 40) (by omega) (by decide)
      have rl : ∀ m o2, MAt m tp N n → f_Md_day_11 X 175 (nI D.1) o2 (hp m) = (match whr tp (ps tp n) 5 4 with
          | none => f_Md_day_87 X 175 (nI D.1) (-1) (hp (sI m 175 8 (nI (fl tp (ps tp n) 1))))
          | some w => if D.1 = 40 then f_Md_day_87 X 175 (nI D.1) (nI w) (hp (sI m 175 8 (nI (fl tp (ps tp n) 5)))) else (pv_tV (pM X m_Md_readDay [.ref 175, .int (125 + (3 * nI D.1)), .int (nI w)] (hp (sI m 175 7 (nI (n + 1)))))).bind (fun h8 => f_Md_day_87 X 175 (nI (D.1 + 1)) (nI w) h8)) := by
        intro m o2 hM
        have r1 := hM.row.1
        have hN' := hM.NN
        rw [u_Md_day_11, Md_f8, hM.2.2.2.2]
        simp only [tIs, tVs, bs, if_true, true_or, or_true, i10, if_false, not_false_eq_true, not_true_eq_false, Md_rc, Md_f1, Md_f4, Md_f5, Md_f6, Md_f9, Md_f10, Md_f11, Md_f12, Md_f14, Md_f15, Md_f18, Md_f19, Md_f20, Md_f21, Md_f23, Md_f24, Md_f25, Md_f26, Md_f28, eq_self, Md_f7, hM.2.2.1]
        rw [ld_177 (by omega), r1]
        simp only [tIs, tVs, bs, if_true, true_or, or_true, i10, if_false, not_false_eq_true, not_true_eq_false, Md_rc, Md_f1, Md_f4, Md_f5, Md_f6, Md_f9, Md_f10, Md_f11, Md_f12, Md_f14, Md_f15, Md_f18, Md_f19, Md_f20, Md_f21, Md_f23, Md_f24, Md_f25, Md_f26, Md_f28]
        rw [if_neg (nI_ne0 (by omega) (by omega))]
        simp only [m_wordHere (X := X) (f := 5) (c := 4) (vf := 5) (vc := 4) rfl rfl (by decide) hM, tIs, tVs, bs, if_true, true_or, or_true, i10, if_false, not_false_eq_true, not_true_eq_false, Md_rc, Md_f1, Md_f4, Md_f5, Md_f6, Md_f9, Md_f10, Md_f11, Md_f12, Md_f14, Md_f15, Md_f18, Md_f19, Md_f20, Md_f21, Md_f23, Md_f24, Md_f25, Md_f26, Md_f28]
        cases hw : whr tp (ps tp n) 5 4 with
        | none =>
          simp only [enc, show ¬ (0 : Int32) ≤ -1 by decide, tIs, tVs, bs, if_true, true_or, or_true, i10, if_false, not_false_eq_true, not_true_eq_false, Md_rc, Md_f1, Md_f4, Md_f5, Md_f6, Md_f9, Md_f10, Md_f11, Md_f12, Md_f14, Md_f15, Md_f18, Md_f19, Md_f20, Md_f21, Md_f23, Md_f24, Md_f25, Md_f26, Md_f28, m_wrong (X := X) (v := 1) (vv := 1) rfl hM]
        | some w =>
          have hw4 := (whr_some hw).1
          simp only [enc, nI_pos' (show w < 2 ^ 31 by omega), tIs, tVs, bs, if_true, true_or, or_true, i10, if_false, not_false_eq_true, not_true_eq_false, Md_rc, Md_f1, Md_f4, Md_f5, Md_f6, Md_f9, Md_f10, Md_f11, Md_f12, Md_f14, Md_f15, Md_f18, Md_f19, Md_f20, Md_f21, Md_f23, Md_f24, Md_f25, Md_f26, Md_f28, k40]
          by_cases hd : D.1 = 40
          · rw [if_neg (fun z => z hd), if_pos hd]
            simp only [tIs, tVs, bs, if_true, true_or, or_true, i10, if_false, not_false_eq_true, not_true_eq_false, Md_rc, Md_f1, Md_f4, Md_f5, Md_f6, Md_f9, Md_f10, Md_f11, Md_f12, Md_f14, Md_f15, Md_f18, Md_f19, Md_f20, Md_f21, Md_f23, Md_f24, Md_f25, Md_f26, Md_f28, m_wrong (X := X) (v := 5) (vv := 5) rfl hM]
          · rw [if_pos hd, if_neg hd]
            simp only [tIs, tVs, bs, if_true, true_or, or_true, i10, if_false, not_false_eq_true, not_true_eq_false, Md_rc, Md_f1, Md_f4, Md_f5, Md_f6, Md_f9, Md_f10, Md_f11, Md_f12, Md_f14, Md_f15, Md_f18, Md_f19, Md_f20, Md_f21, Md_f23, Md_f24, Md_f25, Md_f26, Md_f28, Md_f7, hM.2.2.1, Md_p7, nI_1]
      -- a fault stays
      have rx : ∀ m k v e, gI m 175 8 = nI e → 0 < e → e < 2 ^ 31 → f_Md_day_87 X 175 k v (hp m) = some (some (.int (nI e)), hp m) := by
        intro m k v e h8 g0 g1
        rw [u_Md_day_87]
        simp only [tIs, tVs, bs, if_true, true_or, or_true, i10, if_false, not_false_eq_true, not_true_eq_false, Md_rc, Md_f1, Md_f4, Md_f5, Md_f6, Md_f9, Md_f10, Md_f11, Md_f12, Md_f14, Md_f15, Md_f18, Md_f19, Md_f20, Md_f21, Md_f23, Md_f24, Md_f25, Md_f26, Md_f28, x_takeSign (X := X) (v := 59) h8 g0 g1]
        rw [u_Md_day_11, Md_f8, h8]
        simp only [bs]
        rw [if_pos (nI_ne0 g0 g1), u_Md_day_96, Md_f8, h8]
        simp only [bs]
        rw [if_neg (nI_nle g0 g1)]
      cases ho : oLn tp n z nm D with
      | inl e =>
        rw [ho] at gd
        have gd' : 0 < e ∧ e < 20000 := gd
        refine ⟨.inl e, gd, fun i hi m hCA h4 hD hN => ?_, fun m o2 hM hC hR => ?_⟩
        · have c1 := c_dayL (X := X) TT hP hPA hP3 hA h3 hz hok hN hCA h4 hD hD40
          rw [ho] at c1
          obtain ⟨m', a1, F1, h8⟩ := c1
          dsimp only at a1 h8
          refine ⟨m', ?_, F1, trivial⟩
          rw [cl i hi m hCA, a1]
          simp only [tIs, tVs, bs, if_true, true_or, or_true, i10, if_false, not_false_eq_true, not_true_eq_false, eq_self, u_Da_readFrom_55, u_Da_readFrom_56, rd14_0, h8]
        · dsimp only
          rw [rl m o2 hM]
          unfold oLn at ho
          cases hw : whr tp (ps tp n) 5 4 with
          | none =>
            rw [hw] at ho
            cases ho
            dsimp only
            exact ⟨_, RFd.f8, rx _ _ _ _ gI_sI_eq gd'.1 (by omega)⟩
          | some w =>
            rw [hw] at ho
            dsimp only at ho ⊢
            by_cases hd : D.1 = 40
            · rw [if_pos hd] at ho ⊢
              cases ho
              exact ⟨_, RFd.f8, rx _ _ _ _ gI_sI_eq gd'.1 (by omega)⟩
            · rw [if_neg hd] at ho ⊢
              obtain ⟨m', a1, F1, h8⟩ := m_readDay (X := X) (k := D.1) TT (by omega) (hM.nx hlt) hC.f7 (by omega) (whr_some hw).1
              rw [ho] at h8
              dsimp only at h8
              refine ⟨m', RFd.f7.tr F1, ?_⟩
              rw [a1]
              simp only [tIs, tVs, bs, if_true, true_or, or_true, i10, if_false, not_false_eq_true, not_true_eq_false, Md_rc, Md_f1, Md_f4, Md_f5, Md_f6, Md_f9, Md_f10, Md_f11, Md_f12, Md_f14, Md_f15, Md_f18, Md_f19, Md_f20, Md_f21, Md_f23, Md_f24, Md_f25, Md_f26, Md_f28]
              exact rx m' _ _ e h8 gd'.1 (by omega)
      | inr x =>
        rw [ho] at gd
        obtain ⟨n1, x3⟩ := x
        obtain ⟨g1, g2, g3, w, hw, hd, hoD⟩ := gd
        dsimp only at g1 g2 g3
        have cstep : ∀ m, CA m tp n → gI m 1 4 = 0 → DPs m A D → PN m P z nm → ∃ m1, pM X m_Da_readLine [.ref A, .ref 1, .ref P] (hp m) = some (some (.int 1), hp m1) ∧ CFd A m m1 ∧ gI m1 1 4 = 0 ∧ CA m1 tp n1 ∧ DPs m1 A (D.1 + 1, upO D.2 D.1 x3) ∧ PN m1 P z nm := by
          intro m hCA h4 hD hN
          have c1 := c_dayL (X := X) TT hP hPA hP3 hA h3 hz hok hN hCA h4 hD hD40
          rw [ho] at c1
          obtain ⟨m1, a1, F1, h8, A1, D1⟩ := c1
          have np : ∀ y, 3 ≤ y → y < 27 → y ∉ cAs A := fun y h1 h2 => by unfold cAs; simp; omega
          exact ⟨m1, a1, F1, h8, A1, D1, hN.same F1.1 (np P hP3 (by omega)) (np (P + 1) (by omega) hPA)⟩
        have rstep : ∀ m o2, MAt m tp N n → nmC m false z nm → DRs m D → ∃ m1, f_Md_day_11 X 175 (nI D.1) o2 (hp m) = f_Md_day_87 X 175 (nI (D.1 + 1)) (nI w) (hp m1) ∧ RFd m m1 ∧ MAt m1 tp N n1 ∧ nmC m1 false z nm ∧ DRs m1 (D.1 + 1, upO D.2 D.1 x3) := by
          intro m o2 hM hC hR
          obtain ⟨m', a1, F1, r8⟩ := m_readDay (X := X) (k := D.1) TT (show n + 1 ≤ N by omega) (hM.nx hlt) hC.f7 (by omega) (whr_some hw).1
          rw [hoD] at r8
          obtain ⟨y1, y2, y3, y4, y5⟩ := r8
          dsimp only at y1 y3 y4 y5
          have F2 := RFd.f7.tr F1
          refine ⟨m', ?_, F2, y1, ⟨hC.1, by show gI m' 175 16 = _; rw [F2.2.1 16 (by decide) (by decide)]; exact hC.2.1, fun k hk => by show gL m' 184 k = _; rw [F2.1.Lr (by decide)]; exact hC.2.2.1 k hk, hC.2.2.2⟩, fun i hi => ?_⟩
          · rw [rl m o2 hM, hw]
            dsimp only
            rw [if_neg hd, a1]
            simp only [tIs, tVs, bs, if_true, true_or, or_true, i10, if_false, not_false_eq_true, not_true_eq_false, Md_rc, Md_f1, Md_f4, Md_f5, Md_f6, Md_f9, Md_f10, Md_f11, Md_f12, Md_f14, Md_f15, Md_f18, Md_f19, Md_f20, Md_f21, Md_f23, Md_f24, Md_f25, Md_f26, Md_f28]
          · dsimp only at hi ⊢
            by_cases hiD : i = D.1
            · subst hiD; rw [upO_s]; exact ⟨y3, y4, y5⟩
            · rw [upO_n hiD, y2 _ (by omega), y2 _ (by omega), y2 _ (by omega), gA_sI]
              exact hR i (by omega)
        have okD' : ∀ i, i < D.1 + 1 → okL z (upO D.2 D.1 x3 i) := fun i hi => by
          by_cases hiD : i = D.1
          · subst hiD; rw [upO_s]; exact g3
          · rw [upO_n hiD]; exact hDok i (by omega)
        cases hC59 : isG tp (ps tp n1) 59 with
        | true =>
          have h1N : n1 < N := TT.lt g2 (by rw [isG_s hC59]; decide)
          obtain ⟨o, og, co, ro⟩ := ih (N - (n1 + 1)) (by omega) (n1 + 1) (by omega) (D.1 + 1, upO D.2 D.1 x3) (by show D.1 + 1 ≤ 40; omega) okD'
          refine ⟨o, og, fun i hi m hCA h4 hD hN => ?_, fun m o2 hM hC hR => ?_⟩
          · obtain ⟨m1, a1, F1, h8, A1, D1, N1⟩ := cstep m hCA h4 hD hN
            obtain ⟨m2, a2, s2, q2, A2⟩ := w_adv (X := X) TT.1 A1
            obtain ⟨m3, a3, F3, r3⟩ := co (i + 1) (by omega) m2 A2 (by rw [q2]; exact h8) (D1.adv s2 (by omega)) (N1.same s2 (nin1 (by omega)) (nin1 (by omega)))
            refine ⟨m3, ?_, (F1.tr (CFd.adv s2 A1.1 A2.1)).tr F3, r3⟩
            rw [cl i hi m hCA, a1]
            simp only [tIs, tVs, bs, if_true, true_or, or_true, i10, if_false, not_false_eq_true, not_true_eq_false, Tp_rc, w_takeSign1 (X := X) (c := 59) (vc := 59) rfl (by decide) TT.1 A1 hC59 a2, u_Da_readFrom_56, nI_1]
            exact a3
          · obtain ⟨m1, a1, F1, A1, C1, R1⟩ := rstep m o2 hM hC hR
            obtain ⟨m3, F3, r3⟩ := ro _ (some (.int (nI w))) (A1.nx h1N) C1.f7 R1.f7
            refine ⟨m3, (F1.tr RFd.f7).tr F3, ?_⟩
            have e9 : f_Md_day_11 X 175 (nI D.1) o2 (hp m) = f_Md_day_11 X 175 (nI (D.1 + 1)) (some (.int (nI w))) (hp (sI m1 175 7 (nI (n1 + 1)))) := by
              rw [a1, u_Md_day_87]
              simp only [tIs, tVs, bs, if_true, true_or, or_true, i10, if_false, not_false_eq_true, not_true_eq_false, Md_rc, Md_f1, Md_f4, Md_f5, Md_f6, Md_f9, Md_f10, Md_f11, Md_f12, Md_f14, Md_f15, Md_f18, Md_f19, Md_f20, Md_f21, Md_f23, Md_f24, Md_f25, Md_f26, Md_f28, m_takeSign1 (X := X) (c := 59) (vc := 59) rfl (by decide) TT.1 A1 hC59]
            cases o with
            | inl e => exact e9.trans r3
            | inr D' =>
              obtain ⟨⟨o3, y1⟩, y2⟩ := r3
              exact ⟨⟨o3, e9.trans y1⟩, y2⟩
        | false =>
          obtain ⟨e1, e2⟩ := fl_lt (n := n1) (v := 1) TT (by decide) (by decide)
          refine ⟨.inl (fl tp (ps tp n1) 1), ⟨by omega, e1⟩, fun i hi m hCA h4 hD hN => ?_, fun m o2 hM hC hR => ?_⟩
          · obtain ⟨m1, a1, F1, h8, A1, D1, N1⟩ := cstep m hCA h4 hD hN
            refine ⟨sI m1 1 4 (nI (fl tp (ps tp n1) 1)), ?_, F1.tr CFd.f4, trivial⟩
            rw [cl i hi m hCA, a1]
            simp only [tIs, tVs, bs, if_true, true_or, or_true, i10, if_false, not_false_eq_true, not_true_eq_false, Tp_rc, w_takeSign0 (X := X) (c := 59) (vc := 59) rfl (by decide) TT.1 A1 hC59, eq_self, u_Da_readFrom_55, u_Da_readFrom_56, rd14_0, gI_sI_eq]
          · obtain ⟨m1, a1, F1, A1, C1, R1⟩ := rstep m o2 hM hC hR
            refine ⟨sI m1 175 8 (nI (fl tp (ps tp n1) 1)), F1.tr RFd.f8, ?_⟩
            dsimp only
            have h8 : gI (sI m1 175 8 (nI (fl tp (ps tp n1) 1))) 175 8 = nI (fl tp (ps tp n1) 1) := gI_sI_eq
            rw [a1, u_Md_day_87]
            simp only [tIs, tVs, bs, if_true, true_or, or_true, i10, if_false, not_false_eq_true, not_true_eq_false, Md_rc, Md_f1, Md_f4, Md_f5, Md_f6, Md_f9, Md_f10, Md_f11, Md_f12, Md_f14, Md_f15, Md_f18, Md_f19, Md_f20, Md_f21, Md_f23, Md_f24, Md_f25, Md_f26, Md_f28, m_takeSign0 (X := X) (c := 59) (vc := 59) rfl (by decide) TT.1 A1 hC59]
            rw [u_Md_day_11, Md_f8, h8]
            simp only [bs]
            rw [if_pos (nI_ne0 (by omega) (by omega)), u_Md_day_96, Md_f8, h8]
            simp only [bs]
            rw [if_neg (nI_nle (by omega) (by omega))]
theorem m_dayEnd (hD : D.1 ≤ 40) (h8 : gI m 175 8 = 0) (hR : DRs m D) {o3 : Option Value} : ∃ m', f_Md_day_96 X 175 (nI D.1) o3 (hp m) = some (some (.int 0), hp m') ∧ Same [186] m m' ∧ dDay m' D := by
  obtain ⟨m1, w1, s1, q1⟩ := w186 (m := m) (i := 0) (v := nI D.1) (by decide)
  obtain ⟨m2, e2, s2, g2⟩ := lpi (n := 3 * D.1) (F := fun (_ : Unit) k m => f_Md_day_117 X 175 (nI D.1) (nI k) (hp m)) (R := fun k _ m' => Same [186] m1 m' ∧ ∀ j, gA m' 186 j = if 1 ≤ j ∧ j < 1 + k then gA m1 186 (124 + j) else gA m1 186 j) (g := fun _ u => u) (fun _ k m5 hk hr => by
    obtain ⟨m6, w6, s6, q6⟩ := w186 (m := m5) (i := 1 + k) (v := gA m5 186 (125 + k)) (by omega)
    refine ⟨m6, ?_, hr.1.tr s6, fun j => ?_⟩
    · rw [u_Md_day_117, show (3 : Int32) = nI 3 from rfl, pk_mul, if_neg (nI_ge hk (by omega))]
      simp only [tIs, tVs, bs, if_true, true_or, or_true, i10, if_false, not_false_eq_true, not_true_eq_false, Md_rc, Md_f1, Md_f4, Md_f5, Md_f6, Md_f9, Md_f10, Md_f11, Md_f12, Md_f14, Md_f15, Md_f18, Md_f19, Md_f20, Md_f21, Md_f23, Md_f24, Md_f25, Md_f26, Md_f28]
      rw [show (125 : Int32) = nI 125 from rfl, nI_add, ld_186 (by omega)]
      simp only [tIs, tVs, bs, if_true, true_or, or_true, i10, if_false, not_false_eq_true, not_true_eq_false, Md_rc, Md_f1, Md_f4, Md_f5, Md_f6, Md_f9, Md_f10, Md_f11, Md_f12, Md_f14, Md_f15, Md_f18, Md_f19, Md_f20, Md_f21, Md_f23, Md_f24, Md_f25, Md_f26, Md_f28]
      rw [show (1 + nI k : Int32) = nI (1 + k) from by rw [show (1 : Int32) = nI 1 from rfl, nI_add], w6]
      simp only [tIs, tVs, bs, if_true, true_or, or_true, i10, if_false, not_false_eq_true, not_true_eq_false, Md_rc, Md_f1, Md_f4, Md_f5, Md_f6, Md_f9, Md_f10, Md_f11, Md_f12, Md_f14, Md_f15, Md_f18, Md_f19, Md_f20, Md_f21, Md_f23, Md_f24, Md_f25, Md_f26, Md_f28, nI_1]
    · rw [q6]
      by_cases h : j = 1 + k
      · rw [h, pk_us, hr.2, if_neg (by omega), if_pos (by omega), show 124 + (1 + k) = 125 + k by omega]
      · rw [pk_un h, hr.2]
        by_cases h2 : 1 ≤ j ∧ j < 1 + k
        · rw [if_pos h2, if_pos (by omega)]
        · rw [if_neg h2, if_neg (by omega)]) (3 * D.1) 0 () m1 (by omega) ⟨Same.rf, fun j => by rw [if_neg (by omega)]⟩
  refine ⟨m2, ?_, s1.tr s2, ?_, fun i hi => ?_⟩
  · rw [u_Md_day_96, Md_f8, h8]
    simp only [tIs, tVs, bs, if_true, true_or, or_true, i10, if_false, not_false_eq_true, not_true_eq_false, Md_rc, Md_f1, Md_f4, Md_f5, Md_f6, Md_f9, Md_f10, Md_f11, Md_f12, Md_f14, Md_f15, Md_f18, Md_f19, Md_f20, Md_f21, Md_f23, Md_f24, Md_f25, Md_f26, Md_f28, le00]
    rw [show (0 : Int32) = nI 0 from rfl, w1]
    simp only [tIs, tVs, bs, if_true, true_or, or_true, i10, if_false, not_false_eq_true, not_true_eq_false, Md_rc, Md_f1, Md_f4, Md_f5, Md_f6, Md_f9, Md_f10, Md_f11, Md_f12, Md_f14, Md_f15, Md_f18, Md_f19, Md_f20, Md_f21, Md_f23, Md_f24, Md_f25, Md_f26, Md_f28]
    rw [e2, u_Md_day_117, show (3 : Int32) = nI 3 from rfl, pk_mul, if_pos (nI_le (Nat.le_refl _) (by omega))]
    rfl
  · rw [g2, if_neg (by omega), q1, pk_us]
  · obtain ⟨y1, y2, y3⟩ := hR i hi
    have z0 : ∀ j, j ≠ 0 → gA m1 186 j = gA m 186 j := fun j hj => by rw [q1, pk_un hj]
    refine ⟨?_, ?_, ?_⟩
    · rw [g2, if_pos (by omega), z0 _ (by omega), show 124 + (1 + 3 * i) = 125 + 3 * i by omega]; exact y1
    · rw [g2, if_pos (by omega), z0 _ (by omega), show 124 + (2 + 3 * i) = 126 + 3 * i by omega]; exact y2
    · rw [g2, if_pos (by omega), z0 _ (by omega), show 124 + (3 + 3 * i) = 127 + 3 * i by omega]; exact y3
def oW (o : Nat ⊕ aD) : Int32 := match o with
  | .inl e => nI e
  | .inr _ => 0
theorem k_day (h : INV m c) (hc : c < 600) : AgI X m_Wp_day m_Md_day [] m c := by
  obtain ⟨⟨P, a, π, s, b, C, T, D, hs, mk, tp, nm, h1, h2, h3⟩, g, hg, hgg⟩ := id h
  have ok : okTp tp := h3.2.2.2.2.2.2.2.2.1
  have hP' := h1.1.2.1
  have hP : isPo P := by rcases hP' with rfl | rfl; exact isPo_3; exact isPo_15
  have cD := h1.2.2.2.2.1
  have ha := cD.2.1
  obtain ⟨A, eA⟩ : ∃ A, A = 58 - a := ⟨_, rfl⟩
  have hA' : A = 27 ∨ A = 31 := by rcases ha with rfl | rfl <;> omega
  have hA : isDa A := isDa_or hA'
  have r1 : gR m 0 1 = P := h1.1.1
  have r4 : gR m 0 4 = A := by rw [eA]; exact cD.2.2.1
  obtain ⟨mz, N, -, -, -, -, -, -, tb0⟩ := m_cutAll (X := X) h2.2.2.2.2.2.2.1 ok
  have TT : TK tp N := tb0.tk ok
  have hz : π.1 ≤ 6 := h2.1.1.1
  have hok : ∀ k, k < π.1 → okW (nm k) := h3.2.2.2.2.2.2.2.2.2
  obtain ⟨o, og, co, ro⟩ := day_loop (X := X) (P := P) (A := A) (nm := nm) TT hP (by omega) (by omega) hA (by omega) hz hok N 0 (by omega) (0, D.2) (Nat.zero_le _) (fun i hi => absurd hi (Nat.not_lt_zero i))
  -- class
  have s1 : Same [A] m (sI m A 3 0) := Same.sI (by simp)
  have i1 : gI (sI m A 3 0) A 3 = 0 := gI_sI_eq
  have w1 : pv_fp (hp m) A 1 3 (.int 0) = some (hp (sI m A 3 0)) := hp_pI hA.1 rfl
  generalize sI m A 3 0 = m1 at s1 i1 w1
  have t1 : cTap m1 tp := h1.2.2.2.2.2.2.2.same s1 (nin1 (by omega)) (nin1 (by omega))
  obtain ⟨m2, e2, s2, f2, A2⟩ := w_start (X := X) ok t1
  have D2 : DPs m2 A (0, D.2) := ⟨by rw [s2.I (nin1 (by omega))]; exact i1, fun i hi => absurd hi (Nat.not_lt_zero i)⟩
  have hPN : PN m P π.1 nm := by
    refine ⟨?_, h1.1.2.2.2.2.2.2⟩
    obtain ⟨n', hn', h6, -⟩ := h1.1.2.2.2.1.1
    have e : π.1 = n' := by rw [← h1.1.2.2.2.2.1]; show (gI m P 6).toNatClampNeg = n'; rw [h6, nI_clamp (by omega)]
    rw [e]; exact h6
  have N2 : PN m2 P π.1 nm := (hPN.same s1 (nin1 (by omega)) (nin1 (by omega))).same s2 (nin1 (by omega)) (nin1 (by omega))
  have F2 : CFd A m m2 := ⟨(s1.mono (by unfold cAs; simp)).tr (s2.mono (by unfold cAs; simp)), by rw [A2.1.1, h1.2.2.2.2.2.2.2.1]⟩
  obtain ⟨m3, e3, F3, r3⟩ := co 0 (Nat.le_refl _) m2 A2 f2 D2 N2
  have F3' := F2.tr F3
  have S4 : Same (cAs A) m (sI m3 1 1 0) := F3'.1.tr (Same.sI (by unfold cAs; simp))
  have i4 : gI (sI m3 1 1 0) 1 1 = 0 := gI_sI_eq
  have s34 : Same [1] m3 (sI m3 1 1 0) := Same.sI (by decide)
  have w4 : pM X m_Tp_empty [.ref 1] (hp m3) = some (none, hp (sI m3 1 1 0)) := by
    rw [e_Tp_empty, u_Tp_empty_0, hp_pI Tp_T rfl]
    simp only [tIs, tVs, bs, if_true, true_or, or_true, i10, if_false, not_false_eq_true, not_true_eq_false]
  generalize sI m3 1 1 0 = m4 at S4 i4 w4 s34
  have nA : ∀ x, x ≠ 1 → (x < 27 ∨ 35 ≤ x) → x ∉ cAs A := fun x hx hx' => by unfold cAs; simp; omega
  have nK : ∀ K : List Nat, (∀ x ∈ K, x ≠ 1 ∧ (x < 27 ∨ 35 ≤ x)) → ∀ x ∈ K, x ∉ cAs A := fun K hK x hx => nA x (hK x hx).1 (hK x hx).2
  have R4 : ∀ j, gR m4 0 j = gR m 0 j := fun j => S4.R (nA 0 (by decide) (by decide))
  have M4 : MDS m4 π s b C T D hs mk tp nm := h2.same h3 S4 (fun x hx => by
    unfold cAs at hx
    simp only [List.mem_cons, List.not_mem_nil, or_false] at hx
    omega)
  obtain ⟨c1, c2, c3, c4, c5, c6, c7, c8⟩ := id h1
  have rd : pM X m_Da_readFrom [.ref A, .ref 1, .ref P] (hp m) = some (some (.int (oW o)), hp m3) := by
    rw [e_Da_readFrom, u_Da_readFrom_0, w1]
    simp only [tIs, tVs, bs, if_true, true_or, or_true, i10, if_false, not_false_eq_true, not_true_eq_false, Tp_rc, e2]
    exact Eq.trans (b := f_Da_readFrom_14 X A 1 P 1 (nI 0) (hp m2)) rfl e3
  have cw : ∀ v : Int32, v = oW o → pM X m_Wp_day [.ref 0] (hp m) = if ¬ v = 0 then some (some (.int v), hp m4) else (pv_fp (hp m4) 0 10 3 (.ref A)).bind (fun h9 => (pv_fp h9 0 10 4 (.ref a)).bind (fun h10 => some (some (.int v), h10))) := fun v hv => by
    rw [e_Wp_day, u_Wp_day_0]
    simp only [tIs, tVs, bs, if_true, true_or, or_true, i10, if_false, not_false_eq_true, not_true_eq_false, Wp_rc, Wp_f5, Wp_f6, Wp_f7, Wp_f8, Wp_f9, Wp_f10, Wp_f11, Wp_f12, Wp_f13, Wp_f14, Wp_f4, Wp_f0, Wp_f1, r4, r1, hA.r, rd, ← hv, Tp_rc, w4, u_Wp_day_45, Wp_f3, R4, cD.1]
  obtain ⟨o1, o2, o3, o4, o5, o6, o7, o8, o9, o10⟩ := id h3
  have oT : (0, tp.2).1 ≤ 1000 ∧ ∀ i, i < (0, tp.2).1 → okch ((0, tp.2).2 i) := ⟨Nat.zero_le _, fun i hi => absurd hi (Nat.not_lt_zero i)⟩
  have tp4 : cTap m4 (0, tp.2) := ⟨i4, fun i hi => absurd hi (Nat.not_lt_zero i)⟩
  -- the reference's beginning
  have pre : ∀ m5 : pm_M, MDS m5 π s b C T D hs mk tp nm → ∃ m6, pM X m_Md_day [.ref 175] (hp m5) = f_Md_day_11 X 175 0 none (hp m6) ∧ Same [175, 177, 178, 179] m5 m6 ∧ (∀ j, j ≠ 0 → j ≠ 2 → j ≠ 3 → j ≠ 7 → j ≠ 8 → gI m6 175 j = gI m5 175 j) ∧ gI m6 175 2 = 0 ∧ MAt m6 tp N 0 ∧ nmC m6 false π.1 nm := by
    intro m5 M5
    have t0 : Same [175] m5 (sI m5 175 0 0) := Same.sI (by decide)
    have j0 : ∀ j, j ≠ 0 → gI (sI m5 175 0 0) 175 j = gI m5 175 j := fun j hj => gI_sI_ne (Or.inr hj)
    have w0 : pv_fp (hp m5) 175 11 0 (.int 0) = some (hp (sI m5 175 0 0)) := Md_p0
    generalize sI m5 175 0 0 = mA at t0 j0 w0
    obtain ⟨mB, N', eB, sB, jB, g2, g7, g8, tb⟩ := m_cutAll (X := X) (M5.2.2.2.2.2.2.1.same (j0 2 (by decide)) (t0.A (by decide))) ok
    have hN : N' = N := (tb.tk ok).uniq TT
    subst hN
    have S : Same [175, 177, 178, 179] m5 mB := (t0.mono (by decide)).tr sB
    have J : ∀ j, j ≠ 0 → j ≠ 2 → j ≠ 3 → j ≠ 7 → j ≠ 8 → gI mB 175 j = gI m5 175 j := fun j h0 h2 h3 h7 h8 => by rw [jB j h2 h3 h7 h8, j0 j h0]
    refine ⟨mB, ?_, S, J, g2, ⟨tb, M5.2.2.2.2.2.2.2.same (S.Lr (by decide)), by rw [g7]; rfl, Nat.zero_le _, g8⟩, hz, ?_, fun k hk => ?_, hok⟩
    · rw [e_Md_day, u_Md_day_0, w0]
      simp only [tIs, tVs, bs, if_true, true_or, or_true, i10, if_false, not_false_eq_true, not_true_eq_false, Md_rc, Md_f1, Md_f4, Md_f5, Md_f6, Md_f9, Md_f10, Md_f11, Md_f12, Md_f14, Md_f15, Md_f18, Md_f19, Md_f20, Md_f21, Md_f23, Md_f24, Md_f25, Md_f26, Md_f28, eB]
    · show gI mB 175 16 = _
      rw [J 16 (by decide) (by decide) (by decide) (by decide) (by decide)]
      exact M5.1.2.2.1
    · show gL mB 184 k = _
      rw [S.Lr (by decide)]
      exact M5.1.2.2.2 k hk
  -- what the reference holds stays, but for the day
  have post : ∀ (m5 m8 : pm_M) (D' : aD), MDS m5 π s b C T D hs mk tp nm → Same [175, 177, 178, 179, 186] m5 m8 → (∀ j, j ≠ 0 → j ≠ 2 → j ≠ 3 → j ≠ 7 → j ≠ 8 → gI m8 175 j = gI m5 175 j) → gI m8 175 2 = 0 → dDay m8 D' → MDS m8 π s b C T D' hs mk (0, tp.2) nm := by
    intro m5 m8 D' M5 S J g2 hDD
    obtain ⟨d1, d2, d3, d4, d5, d6, d7, d8⟩ := M5
    have e189 : gA m8 189 = gA m5 189 := S.A (by decide)
    exact ⟨d1.same S (J 16 (by decide) (by decide) (by decide) (by decide) (by decide)) (by decide), by rw [← d2]; exact vm_eq (fun i _ _ => by rw [e189]), d3.same o4.1 o5.1 (fun i _ _ => by rw [e189]), hDD, d5.same o7.1 (J 22 (by decide) (by decide) (by decide) (by decide) (by decide)) (fun i _ _ => by rw [e189]), d6.same o8 (S.A (by decide)) (fun i _ _ => by rw [e189]), ⟨g2, fun i hi => absurd hi (Nat.not_lt_zero i)⟩, d8.same (S.Lr (by decide))⟩
  have k2 : ∀ x ∈ cSt 35, x ≠ 1 ∧ (x < 27 ∨ 35 ≤ x) := by decide
  have k3 : ∀ x ∈ KHis, x ≠ 1 ∧ (x < 27 ∨ 35 ≤ x) := by decide
  have k4 : ∀ x ∈ KMrk, x ≠ 1 ∧ (x < 27 ∨ 35 ≤ x) := by decide
  have k5 : ∀ x ∈ KPort, x ≠ 1 ∧ (x < 27 ∨ 35 ≤ x) := by decide
  have CL4 : ∀ a' D', cDay m4 a' D' → CLS m4 P a' π s b C T D' hs mk (0, tp.2) nm := fun a' D' hd => ⟨c1.same S4 (nK _ k5), by rw [vw_same S4 (nK _ k2)]; exact c2, c3.same S4 (nA _ (by decide) (by decide)) (nA _ (by decide) (by decide)) (nA _ (by decide) (by decide)) (nA _ (by decide) (by decide)), c4.same S4 (nA _ (by decide) (by decide)) (nA _ (by decide) (by decide)) (nA _ (by decide) (by decide)), hd, c6.same S4 (nK _ k3), c7.same S4 (nK _ k4), tp4⟩
  cases o with
  | inl e =>
    have og' : 0 < e ∧ e < 20000 := og
    obtain ⟨m6, e6, s6, j6, g6, A6, C6⟩ := pre m4 M4
    obtain ⟨m7, F7, h7⟩ := ro m6 none A6 C6 (fun i hi => absurd hi (Nat.not_lt_zero i))
    dsimp only at h7
    have S7 : Same [175, 177, 178, 179, 186] m4 m7 := (s6.mono (by decide)).tr (F7.1.mono (by decide))
    have hd4 : cDay m4 a D := by
      obtain ⟨x1, x2, x3, x4, x5⟩ := c5
      have na : ∀ d, d < 4 → a + d ∉ cAs A := fun d hd => by unfold cAs; simp; omega
      refine ⟨by rw [R4]; exact x1, x2, by rw [R4]; exact x3, by rw [S4.I (show a ∉ cAs A from na 0 (by decide))]; exact x4, fun i hi => ?_⟩
      rw [S4.A (na 1 (by decide)), S4.A (na 2 (by decide)), S4.A (na 3 (by decide))]
      exact x5 i hi
    have dd : dDay m7 D := by
      obtain ⟨y1, y2⟩ := M4.2.2.2.1
      have e86 : ∀ j, j < 125 → gA m7 186 j = gA m4 186 j := fun j hj => by rw [F7.2.2 j hj, s6.A (by decide)]
      have h40 := o6.1
      exact ⟨by rw [e86 0 (by decide)]; exact y1, fun i hi => by rw [e86 _ (by omega), e86 _ (by omega), e86 _ (by omega)]; exact y2 i hi⟩
    refine ⟨nI e, m4, m7, ?_, ?_, k_inv (c := c) (tp := (0, tp.2)) ((CL4 a D hd4).same S7 (by decide)) (post m4 m7 D M4 S7 (fun j h0 h2 h3 h7 h8 => by rw [F7.2.1 j h7 h8, j6 j h0 h2 h3 h7 h8]) (by rw [F7.2.1 2 (by decide) (by decide)]; exact g6) dd) ?_ hg ?_⟩
    · rw [cw (nI e) rfl, if_pos (nI_ne0 og'.1 (by omega))]
    · rw [e6]
      exact Eq.trans (b := f_Md_day_11 X 175 (nI 0) none (hp m6)) rfl h7
    · obtain ⟨u1, u2, u3, u4, u5, u6, u7, u8, u9, u10⟩ := h3.up hc
      exact ⟨u1, u2, u3, u4, u5, u6, u7, u8, oT, u10⟩
    · rw [S7.1, S4.1]; exact hgg
  | inr D' =>
    obtain ⟨og1, og2⟩ : D'.1 ≤ 40 ∧ ∀ i, i < D'.1 → okL π.1 (D'.2 i) := og
    have D4 : DPs m4 A D' := DPs.adv r3 s34 (by omega)
    have s5 : Same [0] m4 (sR (sR m4 0 3 A) 0 4 a) := (Same.sR (by decide)).tr (Same.sR (by decide))
    have w5 : pv_fp (hp m4) 0 10 3 (.ref A) = some (hp (sR m4 0 3 A)) := Wp_p3
    have w6 : pv_fp (hp (sR m4 0 3 A)) 0 10 4 (.ref a) = some (hp (sR (sR m4 0 3 A) 0 4 a)) := Wp_p4
    have r5 : gR (sR (sR m4 0 3 A) 0 4 a) 0 3 = A := by rw [gR_sR, if_neg (by decide), gR_sR, if_pos ⟨rfl, rfl⟩]
    have r6 : gR (sR (sR m4 0 3 A) 0 4 a) 0 4 = a := by rw [gR_sR, if_pos ⟨rfl, rfl⟩]
    have rj : ∀ j, j ≠ 3 → j ≠ 4 → gR (sR (sR m4 0 3 A) 0 4 a) 0 j = gR m4 0 j := fun j hj1 hj2 => by rw [gR_sR, if_neg (fun z => hj2 z.2), gR_sR, if_neg (fun z => hj1 z.2)]
    generalize sR (sR m4 0 3 A) 0 4 a = m5 at s5 w6 r5 r6 rj
    have M5 : MDS m5 π s b C T D hs mk tp nm := M4.same h3 s5 (by decide)
    have n0 : ∀ x, x ≠ 0 → x ∉ [0] := fun x hx => nin1 hx
    have kk : ∀ K : List Nat, (∀ x ∈ K, x ≠ 0) → ∀ x ∈ K, x ∉ [0] := fun K hK x hx => n0 x (hK x hx)
    have CL5 : CLS m5 P A π s b C T D' hs mk (0, tp.2) nm := by
      have c1' : cPort m4 P π b nm := c1.same S4 (nK _ k5)
      have v4 : vw m4 35 = s := by rw [vw_same S4 (nK _ k2)]; exact c2
      have c3' : clS m4 109 C := c3.same S4 (nA _ (by decide) (by decide)) (nA _ (by decide) (by decide)) (nA _ (by decide) (by decide)) (nA _ (by decide) (by decide))
      have c4' : clC m4 113 T := c4.same S4 (nA _ (by decide) (by decide)) (nA _ (by decide) (by decide)) (nA _ (by decide) (by decide))
      have c6' : cHis m4 hs := c6.same S4 (nK _ k3)
      have c7' : cMrk m4 mk := c7.same S4 (nK _ k4)
      refine ⟨?_, by rw [vw_same s5 (by decide)]; exact v4, c3'.same s5 (by decide) (by decide) (by decide) (by decide), c4'.same s5 (by decide) (by decide) (by decide), ⟨r5, hA', by rw [r6]; omega, ?_, fun i hi => ?_⟩, c6'.same s5 (by decide), c7'.same s5 (by decide), tp4.same s5 (by decide) (by decide)⟩
      · obtain ⟨x1, x2, x3, x4, x5, x6, x7⟩ := c1'
        have np : ∀ d, P + d ∉ [0] := fun d => nin1 (by omega)
        have np0 : P ∉ [0] := nin1 (by omega)
        refine ⟨by rw [rj 1 (by decide) (by decide)]; exact x1, x2, by rw [rj 2 (by decide) (by decide)]; exact x3, ?_, ?_, ?_, by rw [s5.Lr (np 1)]; exact x7⟩
        · unfold okP at x4 ⊢
          rw [s5.I np0, s5.I (np 3), s5.I (np 3), s5.A (np 4), s5.A (np 7)]
          exact x4
        · rw [← x5]
          unfold vP vL
          rw [s5.I np0, s5.I (np 3), s5.I (np 3), s5.A (np 4), s5.A (np 6), s5.A (np 7)]
        · rw [← x6]
          refine vw_same s5 (fun x hx => nin1 ?_)
          simp only [cSt, List.mem_cons, List.not_mem_nil, or_false] at hx
          omega
      · rw [s5.I (nin1 (by omega))]; exact D4.1
      · rw [s5.A (nin1 (by omega)), s5.A (nin1 (by omega)), s5.A (nin1 (by omega))]; exact D4.2 i hi
    obtain ⟨m6, e6, s6, j6, g6, A6, C6⟩ := pre m5 M5
    obtain ⟨m7, F7, ⟨o3', h7⟩, f7, R7⟩ := ro m6 none A6 C6 (fun i hi => absurd hi (Nat.not_lt_zero i))
    obtain ⟨m8, e8, s8, dd8⟩ := m_dayEnd (X := X) (o3 := o3') og1 f7 R7
    have S8 : Same [175, 177, 178, 179, 186] m5 m8 := ((s6.mono (by decide)).tr (F7.1.mono (by decide))).tr (s8.mono (by decide))
    refine ⟨0, m5, m8, ?_, ?_, k_inv (c := c) (tp := (0, tp.2)) (CL5.same S8 (by decide)) (post m5 m8 D' M5 S8 (fun j h0 h2 h3 h7 h8 => by rw [s8.I (by decide), F7.2.1 j h7 h8, j6 j h0 h2 h3 h7 h8]) (by rw [s8.I (by decide), F7.2.1 2 (by decide) (by decide)]; exact g6) dd8) ?_ hg ?_⟩
    · rw [cw 0 rfl, if_neg (fun z => z rfl), w5]
      simp only [tIs, tVs, bs, if_true, true_or, or_true, i10, if_false, not_false_eq_true, not_true_eq_false, Wp_rc, Wp_f5, Wp_f6, Wp_f7, Wp_f8, Wp_f9, Wp_f10, Wp_f11, Wp_f12, Wp_f13, Wp_f14, w6]
    · rw [e6]
      refine Eq.trans (b := f_Md_day_11 X 175 (nI 0) none (hp m6)) rfl ?_
      rw [← e8]
      exact h7
    · obtain ⟨u1, u2, u3, u4, u5, u6, u7, u8, u9, u10⟩ := h3.up hc
      exact ⟨u1, u2, u3, u4, u5, ⟨og1, og2⟩, u7, u8, oT, u10⟩
    · rw [S8.1, s5.1, S4.1]; exact hgg
end KDA
