/-! person (reference), moods; a line with its sign. -/
section LI3
variable {X : pv_X} {tp : aT} {N n Q : Nat} {ψ : aB} {m m' m1 m2 : pm_M} {LL : List Nat}
theorem rp173 {v1 : Int64} {v3 v4 : Int32} {o5 : Option Value} {h : pv_H} : f_Md_readPerson_173 X 175 v1 v3 v4 o5 h = some (none, h) := u_Md_readPerson_173 ..
/-- the reference lays a PERSON -/
theorem d_lay {kd v : Nat} {t : List Nat} (ok : okB ψ) (h6 : ψ.1 < 6) (ht : okW t) (hP : RPs m ψ) : ∃ m', (∀ (x11 : Int32), x11 = nI ψ.1 → ((pv_sI (hp m) 181 (32 + (4 * x11)) (nI kd)).bind (fun h13 => (pv_fR h13 175 11 10).bind (fun x14 => (pv_sI h13 x14 ((32 + (4 * x11)) + 1) (nI v)).bind (fun h15 => (pv_fR h15 175 11 15).bind (fun x16 => (pv_fI h15 175 11 17).bind (fun x17 => (pv_sJ h15 x16 x17 (lN (En 37 t))).bind (fun h18 => (pv_fI h18 175 11 17).bind (fun x19 => (pv_fp h18 175 11 17 (.int (x19 + 1))).bind (fun h20 => (pv_fR h20 175 11 10).bind (fun x21 => (pv_fI h20 175 11 17).bind (fun x22 => (pv_sI h20 x21 30 x22).bind (fun h23 => f_Md_readPerson_173 X 175 (lN (En 37 t)) (nI kd) (nI v) (some (.int (32 + (4 * x11)))) h23)))))))))))) = some (none, hp m')) ∧ RF m m' ∧ Same [175, 181, 185] m m' ∧ (∀ j, j ≠ 17 → gI m' 175 j = gI m 175 j) ∧ RPs m' (ψ.1 + 1, upO ψ.2.1 ψ.1 t, upO ψ.2.2.1 ψ.1 kd, upO ψ.2.2.2.1 ψ.1 v, ψ.2.2.2.2) := by
  obtain ⟨⟨c1, c2, c3, c4⟩, b1, b2, b3, b4, b5, b6⟩ := hP
  have g17 : gI m 175 17 = nI ψ.1 := c2
  have F1 : RF m (sA m 181 (upd (gA m 181) (32 + 4 * ψ.1) (nI kd))) := RF.s181 (by omega)
  have q1 : gA (sA m 181 (upd (gA m 181) (32 + 4 * ψ.1) (nI kd))) 181 = upd (gA m 181) (32 + 4 * ψ.1) (nI kd) := by rw [gA_sA, if_pos rfl]
  have w1 : pv_sI (hp m) 181 (nI (32 + 4 * ψ.1)) (nI kd) = some (hp (sA m 181 (upd (gA m 181) (32 + 4 * ψ.1) (nI kd)))) := st_181 (by omega)
  have s1 : Same [181] m (sA m 181 (upd (gA m 181) (32 + 4 * ψ.1) (nI kd))) := Same.sA (by decide)
  generalize sA m 181 (upd (gA m 181) (32 + 4 * ψ.1) (nI kd)) = m1 at F1 q1 w1 s1
  have F2 : RF m1 (sA m1 181 (upd (gA m1 181) (33 + 4 * ψ.1) (nI v))) := RF.s181 (by omega)
  have q2 : gA (sA m1 181 (upd (gA m1 181) (33 + 4 * ψ.1) (nI v))) 181 = upd (gA m1 181) (33 + 4 * ψ.1) (nI v) := by rw [gA_sA, if_pos rfl]
  have w2 : pv_sI (hp m1) 181 (nI (33 + 4 * ψ.1)) (nI v) = some (hp (sA m1 181 (upd (gA m1 181) (33 + 4 * ψ.1) (nI v)))) := st_181 (by omega)
  have s2 : Same [181] m1 (sA m1 181 (upd (gA m1 181) (33 + 4 * ψ.1) (nI v))) := Same.sA (by decide)
  generalize sA m1 181 (upd (gA m1 181) (33 + 4 * ψ.1) (nI v)) = m2 at F2 q2 w2 s2
  have g2 : gI m2 175 17 = nI ψ.1 := by rw [s2.I (by decide), s1.I (by decide)]; exact g17
  have q3 : gL (sL m2 185 (vp_updL (gL m2 185) ψ.1 (lN (En 37 t)))) 185 = vp_updL (gL m2 185) ψ.1 (lN (En 37 t)) := by rw [gL_sL, if_pos rfl]
  have w3 : pv_sJ (hp m2) 185 (nI ψ.1) (lN (En 37 t)) = some (hp (sL m2 185 (vp_updL (gL m2 185) ψ.1 (lN (En 37 t))))) := st_185 h6
  have s3 : Same [185] m2 (sL m2 185 (vp_updL (gL m2 185) ψ.1 (lN (En 37 t)))) := Same.sL (by decide)
  generalize sL m2 185 (vp_updL (gL m2 185) ψ.1 (lN (En 37 t))) = m3 at q3 w3 s3
  have g3 : gI m3 175 17 = nI ψ.1 := by rw [s3.I (by decide)]; exact g2
  have w4 : pv_fp (hp m3) 175 11 17 (.int (nI (ψ.1 + 1))) = some (hp (sI m3 175 17 (nI (ψ.1 + 1)))) := Md_p17
  have s4 : Same [175] m3 (sI m3 175 17 (nI (ψ.1 + 1))) := Same.sI (by decide)
  have g4 : gI (sI m3 175 17 (nI (ψ.1 + 1))) 175 17 = nI (ψ.1 + 1) := gI_sI_eq
  have j4 : ∀ j, j ≠ 17 → gI (sI m3 175 17 (nI (ψ.1 + 1))) 175 j = gI m3 175 j := fun j hj => gI_sI_ne (Or.inr hj)
  generalize sI m3 175 17 (nI (ψ.1 + 1)) = m4 at w4 s4 g4 j4
  have w5 : pv_sI (hp m4) 181 (nI 30) (nI (ψ.1 + 1)) = some (hp (sA m4 181 (upd (gA m4 181) 30 (nI (ψ.1 + 1))))) := st_181 (by decide)
  have s5 : Same [181] m4 (sA m4 181 (upd (gA m4 181) 30 (nI (ψ.1 + 1)))) := Same.sA (by decide)
  have q5 : gA (sA m4 181 (upd (gA m4 181) 30 (nI (ψ.1 + 1)))) 181 = upd (gA m4 181) 30 (nI (ψ.1 + 1)) := by rw [gA_sA, if_pos rfl]
  generalize sA m4 181 (upd (gA m4 181) 30 (nI (ψ.1 + 1))) = m5 at w5 s5 q5
  have S : Same [175, 181, 185] m m5 := ((((s1.mono (by decide)).tr (s2.mono (by decide))).tr (s3.mono (by decide))).tr (s4.mono (by decide))).tr (s5.mono (by decide))
  have J : ∀ j, j ≠ 17 → gI m5 175 j = gI m 175 j := fun j hj => by rw [s5.I (by decide), j4 j hj, s3.I (by decide), s2.I (by decide), s1.I (by decide)]
  have a5 : gA m5 181 = upd (upd (upd (gA m 181) (32 + 4 * ψ.1) (nI kd)) (33 + 4 * ψ.1) (nI v)) 30 (nI (ψ.1 + 1)) := by rw [q5, s4.A (by decide), s3.A (by decide), q2, q1]
  have l5 : gL m5 185 = vp_updL (gL m 185) ψ.1 (lN (En 37 t)) := by rw [s5.Lr (by decide), s4.Lr (by decide), q3, s2.Lr (by decide), s1.Lr (by decide)]
  have e2 : gA m5 182 = gA m 182 := S.A (by decide)
  have e3 : gA m5 183 = gA m 183 := S.A (by decide)
  refine ⟨m5, fun x11 hx => ?_, ⟨S.mono (by decide), fun j _ _ _ h17 => J j h17, fun j hj => ?_, fun j hj => ⟨by rw [e2], by rw [e3]⟩⟩, S, J, ?_⟩
  · rw [hx, pix0, show (nI (32 + 4 * ψ.1) + 1 : Int32) = nI (33 + 4 * ψ.1) from by rw [← pix0, pix1], w1]
    simp only [tIs, tVs, bs, if_true, true_or, or_true, i10, if_false, not_false_eq_true, not_true_eq_false, Md_rc, Md_f1, Md_f4, Md_f5, Md_f6, Md_f9, Md_f10, Md_f11, Md_f12, Md_f14, Md_f15, Md_f18, Md_f19, Md_f20, Md_f21, Md_f23, Md_f24, Md_f25, Md_f26, Md_f28, w2, Md_f17, g2, w3, g3, nI_1, w4, g4, show (30 : Int32) = nI 30 from rfl, w5, rp173]
  · rw [a5, pk_un (by omega), pk_un (by omega), pk_un (by omega)]
  · have g5 : gI m5 175 17 = nI (ψ.1 + 1) := by rw [s5.I (by decide)]; exact g4
    refine ⟨⟨h6, g5, fun k hk => ?_, fun k hk => ?_⟩, ?_, ?_, fun k hk => ?_, fun k hk => ?_, ?_, ?_⟩
    · show gL m5 185 k = _
      rw [l5]
      dsimp only at hk ⊢
      by_cases hkz : k = ψ.1
      · subst hkz; rw [pk_uLs, upO_s]
      · rw [pk_uLn hkz, upO_n hkz]; exact c3 k (by omega)
    · dsimp only at hk ⊢
      by_cases hkz : k = ψ.1
      · subst hkz; rw [upO_s]; exact ht
      · rw [upO_n hkz]; exact c4 k (by omega)
    · rw [a5, pk_us]
    · rw [a5, pk_un (by decide), pk_un (by omega), pk_un (by omega)]; exact b2
    · dsimp only at hk ⊢
      rw [a5, pk_un (by omega), pk_un (show 33 + 4 * k ≠ 30 by omega)]
      by_cases hkz : k = ψ.1
      · subst hkz
        rw [pk_un (by omega), pk_us, pk_us, upO_s, upO_s]
        exact ⟨rfl, rfl⟩
      · rw [pk_un (by omega), pk_un (by omega), pk_un (by omega), pk_un (by omega), upO_n hkz, upO_n hkz]
        exact b3 k (by omega)
    · rw [a5, pk_un (by omega), pk_un (by omega), pk_un (by omega), pk_un (by omega), pk_un (by omega), pk_un (by omega)]
      exact b4 k hk
    · rw [e2, e3]; exact b5
    · dsimp only
      rw [J 13 (by decide), e2]
      exact b6
theorem d_personL (T : TK tp N) (ok : okB ψ) (hn : n ≤ N) (h0 : isW tp (ps tp n) (tx 1) = true) (hA : MAt m tp N n) (hP : RPs m ψ) : RO tp N m (oPer tp n ψ) (pM X m_Md_readLine [.ref 175] (hp m)) := by
  have hz := ok.1
  have hnN : n < N := T.lt hn (by rw [(isW_s h0).1]; decide)
  have k6 : (nI ψ.1 = 6) ↔ ψ.1 = 6 := nI_eq (b := 6) (by omega) (by decide)
  have e0 : pM X m_Md_readLine [.ref 175] (hp m) = (pv_tV (pM X m_Md_readPerson [.ref 175] (hp m))).bind (fun h15 => some (none, h15)) := by
    rw [e_Md_readLine, u_Md_readLine_0]
    simp only [tIs, tVs, bs, if_true, true_or, or_true, i10, if_false, not_false_eq_true, not_true_eq_false, Md_rc, Md_f1, Md_f4, Md_f5, Md_f6, Md_f9, Md_f10, Md_f11, Md_f12, Md_f14, Md_f15, Md_f18, Md_f19, Md_f20, Md_f21, Md_f23, Md_f24, Md_f25, Md_f26, Md_f28, m_isW (X := X) (k := 0) (j := 1) (vk := 0) rfl (by decide) rfl hA, h0, bI_t, u_Md_readLine_200]
  have g17 : gI m 175 17 = nI ψ.1 := hP.1.2.1
  unfold oPer
  rw [e0, e_Md_readPerson, u_Md_readPerson_0, Md_f17, g17]
  simp only [tIs, tVs, bs, if_true, true_or, or_true, i10, if_false, not_false_eq_true, not_true_eq_false, Md_rc, Md_f1, Md_f4, Md_f5, Md_f6, Md_f9, Md_f10, Md_f11, Md_f12, Md_f14, Md_f15, Md_f18, Md_f19, Md_f20, Md_f21, Md_f23, Md_f24, Md_f25, Md_f26, Md_f28, k6]
  by_cases h6 : ψ.1 = 6
  · rw [if_pos h6, if_neg (fun z => z h6)]
    simp only [tIs, tVs, bs, if_true, true_or, or_true, i10, if_false, not_false_eq_true, not_true_eq_false, Md_rc, Md_f1, Md_f4, Md_f5, Md_f6, Md_f9, Md_f10, Md_f11, Md_f12, Md_f14, Md_f15, Md_f18, Md_f19, Md_f20, Md_f21, Md_f23, Md_f24, Md_f25, Md_f26, Md_f28, m_wrong (X := X) (v := 5) (vv := 5) rfl hA]
    exact RO.fail rfl RF.f8 gI_sI_eq
  · have A1 := hA.nx hnN
    have P1 : RPs (sI m 175 7 (nI (n + 1))) ψ := hP.f7
    have F1 : RF m (sI m 175 7 (nI (n + 1))) := RF.f7
    rw [if_neg h6, if_pos h6]
    simp only [tIs, tVs, bs, if_true, true_or, or_true, i10, if_false, not_false_eq_true, not_true_eq_false, Md_rc, Md_f1, Md_f4, Md_f5, Md_f6, Md_f9, Md_f10, Md_f11, Md_f12, Md_f14, Md_f15, Md_f18, Md_f19, Md_f20, Md_f21, Md_f23, Md_f24, Md_f25, Md_f26, Md_f28, Md_f7, hA.2.2.1, nI_1, Md_p7]
    generalize sI m 175 7 (nI (n + 1)) = m1 at A1 P1 F1
    simp only [m_isName (X := X) A1, tIs, tVs, bs, if_true, true_or, or_true, i10, if_false, not_false_eq_true, not_true_eq_false, Md_rc, Md_f1, Md_f4, Md_f5, Md_f6, Md_f9, Md_f10, Md_f11, Md_f12, Md_f14, Md_f15, Md_f18, Md_f19, Md_f20, Md_f21, Md_f23, Md_f24, Md_f25, Md_f26, Md_f28]
    have bad : ∀ (v : Nat), 0 < v → v ≤ 5 → f_Md_readPerson_53 X 175 (hp (sI m1 175 8 (nI (fl tp (ps tp (n + 1)) v)))) = some (none, hp (sI m1 175 8 (nI (fl tp (ps tp (n + 1)) v)))) := fun v hv hv' => by
      obtain ⟨g0, g1⟩ := fl_lt (n := n + 1) (v := v) T hv hv'
      rw [u_Md_readPerson_53, Md_f8, gI_sI_eq]
      simp only [bs]
      rw [if_neg (nI_nle (by omega) (by omega))]
    cases hi : isN tp (ps tp (n + 1)) with
    | false =>
      simp only [bI_f, Bool.false_eq_true, tIs, tVs, bs, if_true, true_or, or_true, i10, if_false, not_false_eq_true, not_true_eq_false, Md_rc, Md_f1, Md_f4, Md_f5, Md_f6, Md_f9, Md_f10, Md_f11, Md_f12, Md_f14, Md_f15, Md_f18, Md_f19, Md_f20, Md_f21, Md_f23, Md_f24, Md_f25, Md_f26, Md_f28, eq_self, m_wrong (X := X) (v := 1) (vv := 1) rfl A1, bad 1 (by decide) (by decide)]
      exact RO.fail rfl (F1.tr RF.f8) gI_sI_eq
    | true =>
      have hs := isN_s hi
      have hW := (tkW (ps_le (tp := tp) (n + 1)) hs).1
      have h1N : n + 1 < N := T.lt A1.2.2.2.1 (by rw [hs]; decide)
      have en : pM X m_Md_nameAt [.ref 175, .int 1] (hp m1) = some (some (.int (enc (nmO ψ.1 ψ.2.1 (tkX tp (ps tp (n + 1)))))), hp m1) := m_nameAt (b := true) P1.1 A1 hs
      rw [if_pos rfl]
      simp only [bI_t, tIs, tVs, bs, if_true, true_or, or_true, i10, if_false, not_false_eq_true, not_true_eq_false, Md_rc, Md_f1, Md_f4, Md_f5, Md_f6, Md_f9, Md_f10, Md_f11, Md_f12, Md_f14, Md_f15, Md_f18, Md_f19, Md_f20, Md_f21, Md_f23, Md_f24, Md_f25, Md_f26, Md_f28, en, enc_lt0 (o := nmO ψ.1 ψ.2.1 (tkX tp (ps tp (n + 1)))) (fun j hj => by have := (nmO_some hj).1; omega)]
      cases hq : nmO ψ.1 ψ.2.1 (tkX tp (ps tp (n + 1))) with
      | some j =>
        rw [if_neg (fun z => by cases z)]
        simp only [tIs, tVs, bs, if_true, true_or, or_true, i10, if_false, not_false_eq_true, not_true_eq_false, Md_rc, Md_f1, Md_f4, Md_f5, Md_f6, Md_f9, Md_f10, Md_f11, Md_f12, Md_f14, Md_f15, Md_f18, Md_f19, Md_f20, Md_f21, Md_f23, Md_f24, Md_f25, Md_f26, Md_f28, m_wrong (X := X) (v := 3) (vv := 3) rfl A1, bad 3 (by decide) (by decide)]
        exact RO.fail rfl (F1.tr RF.f8) gI_sI_eq
      | none =>
        obtain ⟨r1, r2, r3, -⟩ := A1.row
        have h1000 := T.2.1
        have A2 := A1.nx h1N
        have P2 : RPs (sI m1 175 7 (nI (n + 2))) ψ := P1.f7
        have F2 : RF m1 (sI m1 175 7 (nI (n + 2))) := RF.f7
        have w2 : pv_fp (hp m1) 175 11 7 (.int (nI (n + 2))) = some (hp (sI m1 175 7 (nI (n + 2)))) := Md_p7
        rw [if_pos rfl, u_Md_readPerson_53, Md_f8, A1.2.2.2.2]
        simp only [tIs, tVs, bs, if_true, true_or, or_true, i10, if_false, not_false_eq_true, not_true_eq_false, Md_rc, Md_f1, Md_f4, Md_f5, Md_f6, Md_f9, Md_f10, Md_f11, Md_f12, Md_f14, Md_f15, Md_f18, Md_f19, Md_f20, Md_f21, Md_f23, Md_f24, Md_f25, Md_f26, Md_f28, le00, Md_f7, A1.2.2.1]
        rw [ld_179 (by omega), r3 hs]
        simp only [tIs, tVs, bs, if_true, true_or, or_true, i10, if_false, not_false_eq_true, not_true_eq_false, Md_rc, Md_f1, Md_f4, Md_f5, Md_f6, Md_f9, Md_f10, Md_f11, Md_f12, Md_f14, Md_f15, Md_f18, Md_f19, Md_f20, Md_f21, Md_f23, Md_f24, Md_f25, Md_f26, Md_f28, nI_1, w2]
        generalize sI m1 175 7 (nI (n + 2)) = m2 at A2 P2 F2
        have e2 := m_takeOne (X := X) (f := 9) (c := 4) (vf := 9) (vc := 4) T rfl rfl (by decide) A2
        -- a fault was met: the rest does nothing
        have rest : ∀ (m3 : pm_M) (e : Nat) (v : Int32), gI m3 175 8 = nI e → 0 < e → e < 2 ^ 31 → ((pv_tI (pM X m_Md_takeNumber [.ref 175, .int 20, .int 160] (hp m3))).bind (fun q9 => (pv_fI q9.2 175 11 8).bind (fun x10 => if ¬ x10 = 0 then f_Md_readPerson_173 X 175 (lN (En 37 (tkX tp (ps tp (n + 1))))) v q9.1 none q9.2 else (pv_fI q9.2 175 11 17).bind (fun x11 => (pv_fR q9.2 175 11 10).bind (fun x12 => (pv_sI q9.2 x12 (32 + (4 * x11)) v).bind (fun h13 => (pv_fR h13 175 11 10).bind (fun x14 => (pv_sI h13 x14 ((32 + (4 * x11)) + 1) q9.1).bind (fun h15 => (pv_fR h15 175 11 15).bind (fun x16 => (pv_fI h15 175 11 17).bind (fun x17 => (pv_sJ h15 x16 x17 (lN (En 37 (tkX tp (ps tp (n + 1)))))).bind (fun h18 => (pv_fI h18 175 11 17).bind (fun x19 => (pv_fp h18 175 11 17 (.int (x19 + 1))).bind (fun h20 => (pv_fR h20 175 11 10).bind (fun x21 => (pv_fI h20 175 11 17).bind (fun x22 => (pv_sI h20 x21 30 x22).bind (fun h23 => f_Md_readPerson_173 X 175 (lN (En 37 (tkX tp (ps tp (n + 1))))) v q9.1 (some (.int (32 + (4 * x11)))) h23)))))))))))))))) = some (none, hp m3) := fun m3 e v h8 g0 g1 => by
          rw [x_takeNumber h8 g0 g1]
          simp only [tIs, bs, Md_f8, h8]
          rw [if_pos (nI_ne0 g0 g1), rp173]
        cases hw : whr tp (ps tp (n + 2)) 9 4 with
        | none =>
          obtain ⟨g0, g1⟩ := fl_lt (n := n + 2) (v := 1) T (by decide) (by decide)
          rw [hw] at e2
          dsimp only at e2 ⊢
          have h8 : gI (sI m2 175 8 (nI (fl tp (ps tp (n + 2)) 1))) 175 8 = nI (fl tp (ps tp (n + 2)) 1) := gI_sI_eq
          simp only [e2, tIs, tVs, bs, Md_rc, if_true, x_takeWord (X := X) (v := 1) h8 (by omega) (by omega)]
          rw [rest _ _ 0 h8 (by omega) (by omega)]
          simp only [tIs, tVs, bs, if_true, true_or, or_true, i10, if_false, not_false_eq_true, not_true_eq_false, Md_rc, Md_f1, Md_f4, Md_f5, Md_f6, Md_f9, Md_f10, Md_f11, Md_f12, Md_f14, Md_f15, Md_f18, Md_f19, Md_f20, Md_f21, Md_f23, Md_f24, Md_f25, Md_f26, Md_f28]
          exact RO.fail rfl ((F1.tr F2).tr RF.f8) h8
        | some kd =>
          have hkd := whr_some hw
          have h2N : n + 2 < N := T.lt A2.2.2.2.1 (by rw [(isW_s hkd.2).1]; decide)
          have A3 := A2.nx h2N
          have P3 : RPs (sI m2 175 7 (nI (n + 3))) ψ := P2.f7
          have F3 : RF m2 (sI m2 175 7 (nI (n + 3))) := RF.f7
          rw [hw] at e2
          dsimp only at e2 ⊢
          have e3 : pM X m_Md_takeOne [.ref 175, .int 9, .int 4] (hp m2) = some (some (.int (nI kd)), hp (sI m2 175 7 (nI (n + 3)))) := e2
          simp only [e3, tIs, tVs, bs, Md_rc, if_true]
          generalize sI m2 175 7 (nI (n + 3)) = m3 at A3 P3 F3
          cases hb : isW tp (ps tp (n + 3)) (tx 9) with
          | false =>
            obtain ⟨g0, g1⟩ := fl_lt (n := n + 3) (v := 1) T (by decide) (by decide)
            have h8 : gI (sI m3 175 8 (nI (fl tp (ps tp (n + 3)) 1))) 175 8 = nI (fl tp (ps tp (n + 3)) 1) := gI_sI_eq
            rw [m_takeWord0 (X := X) (c := 1) (vc := 1) rfl (by decide) A3 hb]
            simp only [tIs, tVs, bs, Md_rc, if_true, Bool.false_eq_true, if_false]
            rw [rest _ _ (nI kd) h8 (by omega) (by omega)]
            simp only [tIs, tVs, bs, if_true, true_or, or_true, i10, if_false, not_false_eq_true, not_true_eq_false, Md_rc, Md_f1, Md_f4, Md_f5, Md_f6, Md_f9, Md_f10, Md_f11, Md_f12, Md_f14, Md_f15, Md_f18, Md_f19, Md_f20, Md_f21, Md_f23, Md_f24, Md_f25, Md_f26, Md_f28]
            exact RO.fail rfl (((F1.tr F2).tr F3).tr RF.f8) h8
          | true =>
            have h3N : n + 3 < N := T.lt A3.2.2.2.1 (by rw [(isW_s hb).1]; decide)
            have A4 := A3.nx h3N
            have P4 : RPs (sI m3 175 7 (nI (n + 4))) ψ := P3.f7
            have F4 : RF m3 (sI m3 175 7 (nI (n + 4))) := RF.f7
            have e4 : pM X m_Md_takeWord [.ref 175, .int 1] (hp m3) = some (none, hp (sI m3 175 7 (nI (n + 4)))) := m_takeWord1 (c := 1) (vc := 1) rfl (by decide) A3 hb
            rw [if_pos rfl]
            simp only [e4, tIs, tVs, bs, Md_rc, if_true]
            generalize sI m3 175 7 (nI (n + 4)) = m4 at A4 P4 F4
            have e5 := m_takeNumber (X := X) (l := 20) (u := 160) (vl := 20) (vu := 160) T rfl rfl (by decide) (by decide) A4
            cases hp2 : nmb tp (n + 4) 20 160 with
            | inl e =>
              obtain ⟨g0, g1⟩ := nmb_inl T hp2
              rw [hp2] at e5
              dsimp only at e5 ⊢
              have h8 : gI (sI m4 175 8 (nI e)) 175 8 = nI e := gI_sI_eq
              simp only [e5, tIs, tVs, bs, Md_f8, h8]
              rw [if_pos (nI_ne0 g0 (by omega)), rp173]
              simp only [tIs, tVs, bs, if_true, true_or, or_true, i10, if_false, not_false_eq_true, not_true_eq_false, Md_rc, Md_f1, Md_f4, Md_f5, Md_f6, Md_f9, Md_f10, Md_f11, Md_f12, Md_f14, Md_f15, Md_f18, Md_f19, Md_f20, Md_f21, Md_f23, Md_f24, Md_f25, Md_f26, Md_f28]
              exact RO.fail rfl ((((F1.tr F2).tr F3).tr F4).tr RF.f8) h8
            | inr v =>
              obtain ⟨-, hv, hs6, ev⟩ := nmb_inr hp2
              have h4N : n + 4 < N := T.lt A4.2.2.2.1 (by rw [hs6]; decide)
              have A5 := A4.nx h4N
              have P5 : RPs (sI m4 175 7 (nI (n + 5))) ψ := P4.f7
              have F5 : RF m4 (sI m4 175 7 (nI (n + 5))) := RF.f7
              rw [hp2] at e5
              dsimp only at e5 ⊢
              have e6 : pM X m_Md_takeNumber [.ref 175, .int 20, .int 160] (hp m4) = some (some (.int (nI v)), hp (sI m4 175 7 (nI (n + 5)))) := e5
              simp only [e6, tIs, tVs, bs, Md_f8]
              generalize sI m4 175 7 (nI (n + 5)) = m5 at A5 P5 F5
              have f5 : gI m5 175 8 = 0 := A5.2.2.2.2
              have g5 : gI m5 175 17 = nI ψ.1 := P5.1.2.1
              obtain ⟨m6, w6, F6, S6, J6, P6⟩ := d_lay (X := X) (kd := kd) (v := v) ok (show ψ.1 < 6 by omega) hW P5
              simp only [f5, not_true_eq_false, if_false, Md_f17, g5, bs, Md_f10]
              rw [w6 _ rfl]
              simp only [tIs, tVs, bs, if_true, true_or, or_true, i10, if_false, not_false_eq_true, not_true_eq_false, Md_rc, Md_f1, Md_f4, Md_f5, Md_f6, Md_f9, Md_f10, Md_f11, Md_f12, Md_f14, Md_f15, Md_f18, Md_f19, Md_f20, Md_f21, Md_f23, Md_f24, Md_f25, Md_f26, Md_f28]
              refine RO.fine rfl (((((F1.tr F2).tr F3).tr F4).tr F5).tr F6) ?_ P6
              exact A5.same S6 (by decide) (by decide) (by decide) (by decide) (by rw [J6 7 (by decide)]; exact A5.2.2.1) h4N (by rw [J6 8 (by decide)]; exact f5)
theorem oPer_good (T : TK tp N) (ok : okB ψ) (hn : n < N) : oGood N n (oPer tp n ψ) := by
  have fg : ∀ q v, 0 < v → v ≤ 5 → oGood N n (.inl (fl tp (ps tp q) v)) := fun q v h1 h2 => by
    have := fl_lt (n := q) (v := v) T h1 h2
    exact ⟨by omega, this.1⟩
  have hz := ok.1
  unfold oPer
  by_cases h6 : ψ.1 = 6
  · rw [if_pos h6]; exact fg _ _ (by decide) (by decide)
  · rw [if_neg h6]
    by_cases hi : isN tp (ps tp (n + 1)) = true
    · rw [if_pos hi]
      have hs := isN_s hi
      have h1N : n + 1 < N := T.lt hn (by rw [hs]; decide)
      cases hq : nmO ψ.1 ψ.2.1 (tkX tp (ps tp (n + 1))) with
      | some j => exact fg _ _ (by decide) (by decide)
      | none =>
        dsimp only
        cases hw : whr tp (ps tp (n + 2)) 9 4 with
        | none => exact fg _ _ (by decide) (by decide)
        | some kd =>
          have hkd := whr_some hw
          have h2N : n + 2 < N := T.lt h1N (by rw [(isW_s hkd.2).1]; decide)
          dsimp only
          by_cases hb : isW tp (ps tp (n + 3)) (tx 9) = true
          · rw [if_pos hb]
            have h3N : n + 3 < N := T.lt h2N (by rw [(isW_s hb).1]; decide)
            cases hp2 : nmb tp (n + 4) 20 160 with
            | inl e => exact nmb_inl T hp2
            | inr v =>
              obtain ⟨hv0, hv, hs6, ev⟩ := nmb_inr hp2
              have h4N : n + 4 < N := T.lt h3N (by rw [hs6]; decide)
              dsimp only
              refine ⟨by show n < n + 5; omega, h4N, by show ψ.1 + 1 ≤ 6; omega, fun k hk => ?_, fun k j hkj => ?_, fun k t hkt => ?_, ok.2.2.2.2.1, fun k hk => ?_⟩
              · dsimp only at hk ⊢
                by_cases hkz : k = ψ.1
                · subst hkz
                  rw [upO_s, upO_s, upO_s]
                  exact ⟨(tkW (ps_le (tp := tp) (n + 1)) hs).1, by have := hkd.1; omega, hv0, hv⟩
                · rw [upO_n hkz, upO_n hkz, upO_n hkz]
                  exact ok.2.1 k (by omega)
              · obtain ⟨h1, h2⟩ := ok.2.2.1 k j hkj
                exact ⟨by show j < ψ.1 + 1; omega, h2⟩
              · obtain ⟨h1, h2⟩ := ok.2.2.2.1 k t hkt
                exact ⟨h1, by show k < ψ.1 + 1; omega⟩
              · have hk' : ψ.1 + 1 ≤ k := hk
                show upO ψ.2.2.2.1 ψ.1 v k = 0
                rw [upO_n (by omega)]
                exact ok.2.2.2.2.2 k (by omega)
          · rw [if_neg hb]; exact fg _ _ (by decide) (by decide)
    · rw [if_neg hi]; exact fg _ _ (by decide) (by decide)
end LI3
