/-! moods; a line; all lines of a PORT. -/
section LI4
variable {X : pv_X} {tp : aT} {N n Q : Nat} {ψ : aB} {m m' m1 m2 : pm_M} {LL : List Nat}
theorem RF.rr {k n' e : Nat} {L : List aJ3} (h : RR m k m' n' e L) : RF m m' := ⟨h.1.mono (by decide), fun j h7 h8 h13 _ => h.2.1 j h7 h8 h13, fun j _ => by rw [h.1.A (by decide)], fun j hj => h.2.2.2.2.2.1 j hj⟩
theorem CF.cr {k n' e : Nat} {L : List aJ3} (h : CR tp (Q + 3) m k m' n' e L) (hT : cTap m tp) : CF Q m m' := ⟨h.1.mono (fun c hc => by
  simp only [List.mem_cons, List.not_mem_nil, or_false] at hc
  unfold cQs
  rcases hc with rfl | rfl | rfl <;> simp), by rw [h.ca.1.1, hT.1]⟩
theorem ln_moods (T : TK tp N) (hQ : isPo Q) (h3 : 3 ≤ Q) (ok : okB ψ) (hn : n ≤ N) (w1 : isW tp (ps tp n) (tx 1) = false) (w2 : isW tp (ps tp n) (tx 2) = false) (w3 : isW tp (ps tp n) (tx 3) = false) (w4 : isW tp (ps tp n) (tx 4) = true) : LN tp N Q n ψ (fun h => pM X m_Po_readLine [.ref Q, .ref 1] h) (fun h => pM X m_Md_readLine [.ref 175] h) := by
  have hnN : n < N := T.lt hn (by rw [(isW_s w4).1]; decide)
  have h1000 := T.2.1
  have W : ∀ m, CA m tp n → ∀ k, k < 21 → pM X m_Tp_isWord [.ref 1, .ref (pv_scr + 1 + k)] (hp m) = some (some (.int (bI (isW tp (ps tp n) (tx k)))), hp m) := fun m hA k hk => w_isWord hk hA.1 T.1 (ps_le n) hA.2
  have R0 : ∀ m, MAt m tp N n → pM X m_Md_readLine [.ref 175] (hp m) = (pv_tV (pM X m_Md_readMoods [.ref 175] (hp m))).bind (fun h4 => some (none, h4)) := fun m hA => by
    rw [e_Md_readLine, u_Md_readLine_0]
    simp only [tIs, tVs, bs, if_true, true_or, or_true, i10, if_false, not_false_eq_true, not_true_eq_false, Md_rc, Md_f1, Md_f4, Md_f5, Md_f6, Md_f9, Md_f10, Md_f11, Md_f12, Md_f14, Md_f15, Md_f18, Md_f19, Md_f20, Md_f21, Md_f23, Md_f24, Md_f25, Md_f26, Md_f28, m_isW (X := X) (k := 0) (j := 1) (vk := 0) rfl (by decide) rfl hA, m_isW (X := X) (k := 2) (j := 2) (vk := 2) rfl (by decide) rfl hA, m_isW (X := X) (k := 3) (j := 3) (vk := 3) rfl (by decide) rfl hA, w1, w2, w3, bI_f, eq_self, u_Md_readLine_200]
  cases hmo : ψ.2.2.2.2.2.2 with
  | some L0 =>
    obtain ⟨g0, g1⟩ := fl_lt (n := n) (v := 3) T (by decide) (by decide)
    refine ⟨.inl (fl tp (ps tp n) 3), ⟨by omega, g0⟩, fun m hA h4 hP => ?_, fun m hA hP => ?_⟩
    · have b5 := hP.2.2.2.2.1
      rw [hmo] at b5
      dsimp only
      rw [e_Po_readLine, u_Po_readLine_0]
      simp only [tIs, tVs, bs, if_true, true_or, or_true, i10, if_false, not_false_eq_true, not_true_eq_false, Tp_rc, W m hA 1 (by decide), W m hA 2 (by decide), W m hA 3 (by decide), W m hA 4 (by decide), w1, w2, w3, w4, bI_t, bI_f, eq_self, Po_f2 hQ, Mo_f3 hQ.mo, b5, Option.isSome_some, w_refuse (X := X) (v := 3) (vv := 3) rfl hA.2]
      exact CO.fail rfl CF.f4 gI_sI_eq
    · have b2 := hP.2.2.1
      rw [hmo] at b2
      have b2' : gA m 181 31 = 0 := b2
      dsimp only
      rw [R0 m hA, e_Md_readMoods, u_Md_readMoods_0]
      simp only [tIs, tVs, bs, if_true, true_or, or_true, i10, if_false, not_false_eq_true, not_true_eq_false, Md_rc, Md_f1, Md_f4, Md_f5, Md_f6, Md_f9, Md_f10, Md_f11, Md_f12, Md_f14, Md_f15, Md_f18, Md_f19, Md_f20, Md_f21, Md_f23, Md_f24, Md_f25, Md_f26, Md_f28, m_isW (X := X) (k := 4) (j := 4) (vk := 4) rfl (by decide) rfl hA, w4, bI_t]
      rw [show (31 : Int32) = nI 31 from rfl, ld_181 (by decide), b2']
      simp only [tIs, tVs, bs, if_true, true_or, or_true, i10, if_false, not_false_eq_true, not_true_eq_false, Md_rc, Md_f1, Md_f4, Md_f5, Md_f6, Md_f9, Md_f10, Md_f11, Md_f12, Md_f14, Md_f15, Md_f18, Md_f19, Md_f20, Md_f21, Md_f23, Md_f24, Md_f25, Md_f26, Md_f28, show ¬ (0 : Int32) < 0 by decide, m_wrong (X := X) (v := 3) (vv := 3) rfl hA]
      rw [u_Md_readMoods_31, Md_f8, gI_sI_eq]
      simp only [bs]
      rw [if_neg (nI_nle (by omega) (by omega))]
      simp only [tIs, tVs, bs, if_true, true_or, or_true, i10, if_false, not_false_eq_true, not_true_eq_false, Md_rc, Md_f1, Md_f4, Md_f5, Md_f6, Md_f9, Md_f10, Md_f11, Md_f12, Md_f14, Md_f15, Md_f18, Md_f19, Md_f20, Md_f21, Md_f23, Md_f24, Md_f25, Md_f26, Md_f28]
      exact RO.fail rfl RF.f8 gI_sI_eq
  | none =>
    obtain ⟨n1, e, L, f1, c1, r1⟩ := (expr_all (X := X) (M := Q + 3) T hQ.mo (by omega) 5 0 rfl).2 (n + 1) hnN
    have f1b := f1.1
    have l1 := f1b.2.2.1
    have l2 := f1b.2.1
    have l4 := f1b.2.2.2.1
    have cstep : ∀ m, CA m tp n → gI m 1 4 = 0 → CPs m Q ψ → ∃ m1 m2, pM X m_Po_readLine [.ref Q, .ref 1] (hp m) = (if rb e = 0 ∨ rb e = 1 then some (some (.int (rb e)), hp m2) else none) ∧ CF Q m m1 ∧ CPs m1 Q ψ ∧ CA m1 tp (n + 1) ∧ CR tp (Q + 3) (sI m1 (Q + 3) 3 1) 0 m2 n1 e L ∧ CF Q m m2 := by
      intro m hA h4 hP
      have b5 := hP.2.2.2.2.1
      rw [hmo] at b5
      have b6 := hP.2.2.2.2.2.1
      rw [hmo] at b6
      have sx : Same [Q + 3] m (sI m (Q + 3) 3 1) := Same.sI (by simp)
      have AX : CA (sI m (Q + 3) 3 1) tp n := hA.same sx (nin1 (by omega)) (nin1 (by omega))
      have hk : gI (sI m (Q + 3) 3 1) (Q + 3) 2 = nI 0 := by rw [gI_sI_ne (Or.inr (by decide))]; exact b6
      have h4' : gI (sI m (Q + 3) 3 1) 1 4 = 0 := by rw [sx.I (nin1 (by omega))]; exact h4
      obtain ⟨mA, aA, sA1, gA1, cA1⟩ := w_adv (X := X) T.1 AX
      obtain ⟨m2, a2, d2⟩ := c1 mA 0 cA1 (by rw [gA1]; exact h4') (by rw [sA1.I (nin1 (by omega))]; exact hk) (by omega)
      obtain ⟨m1, a1, A1, f1', P1, F1⟩ := l_adv (X := X) T.1 h3 hA h4 hP
      have e1 : pM X m_Tp_advance [.ref 1] (hp m) = some (none, hp m1) := a1
      have F2 : CF Q m m2 := by
        have Fa : CF Q m (sI m (Q + 3) 3 1) := ⟨sx.mono (by unfold cQs; simp), by rw [sx.I (nin1 (by omega))]⟩
        exact (Fa.tr (CF.adv sA1 AX.1 cA1.1)).tr (CF.cr d2 cA1.1)
      refine ⟨sI mA (Q + 3) 3 0, m2, ?_, ?_, ?_, ?_, ?_, F2⟩
      · dsimp only at a2
        rw [nI_0] at a2
        rw [e_Po_readLine, u_Po_readLine_0]
        simp only [tIs, tVs, bs, if_true, true_or, or_true, i10, if_false, not_false_eq_true, not_true_eq_false, Tp_rc, W m hA 1 (by decide), W m hA 2 (by decide), W m hA 3 (by decide), W m hA 4 (by decide), w1, w2, w3, w4, bI_t, bI_f, eq_self, Po_f2 hQ, Mo_f3 hQ.mo, b5, Option.isSome_none, Mo_p3 hQ.mo, aA, Mo_rc hQ.mo, a2]
      · have Fa : CF Q m (sI m (Q + 3) 3 1) := ⟨sx.mono (by unfold cQs; simp), by rw [sx.I (nin1 (by omega))]⟩
        have sy : Same [Q + 3] mA (sI mA (Q + 3) 3 0) := Same.sI (by simp)
        exact (Fa.tr (CF.adv sA1 AX.1 cA1.1)).tr ⟨sy.mono (by unfold cQs; simp), by rw [sy.I (nin1 (by omega))]⟩
      · have sy : Same [Q + 3, 1] m (sI mA (Q + 3) 3 0) := ((sx.mono (by simp)).tr (sA1.mono (by simp))).tr (Same.sI (by simp))
        obtain ⟨p1, p2, p3, p4, p5, p6, p7⟩ := hP
        have nn : ∀ d, d ≠ 3 → Q + d ∉ [Q + 3, 1] := fun d hd => by simp; omega
        refine ⟨by rw [sy.I (show Q ∉ [Q + 3, 1] by simp; omega)]; exact p1, ?_, ?_, ?_, ?_, ?_, ?_⟩
        · rw [sy.Lr (nn 1 (by decide)), sy.A (nn 6 (by decide))]; exact p2
        · rw [sy.A (nn 7 (by decide)), sy.A (nn 2 (by decide)), sy.A (nn 9 (by decide)), sy.A (nn 11 (by decide)), sy.A (nn 10 (by decide))]; exact p3
        · rw [sy.I (nn 8 (by decide))]; exact p4
        · rw [gI_sI_eq, hmo]; rfl
        · rw [gI_sI_ne (Or.inr (by decide)), sA1.I (nin1 (by omega)), gI_sI_ne (Or.inr (by decide))]; exact p6
        · rw [sy.A (nn 4 (by decide))]; exact p7
      · have sy : Same [Q + 3] mA (sI mA (Q + 3) 3 0) := Same.sI (by simp)
        exact cA1.same sy (nin1 (by omega)) (nin1 (by omega))
      · have e0 : gI mA (Q + 3) 3 = 1 := by rw [sA1.I (nin1 (by omega)), gI_sI_eq]
        have e1' : sI (sI mA (Q + 3) 3 0) (Q + 3) 3 1 = mA := by
          have e2 : sI (sI mA (Q + 3) 3 0) (Q + 3) 3 1 = sI mA (Q + 3) 3 1 := by
            unfold sI
            have e3 : ∀ (f : Nat → Nat → Int32) (x j : Nat) (u v : Int32), va_up (va_up f x (va_up (f x) j u)) x (va_up (va_up f x (va_up (f x) j u) x) j v) = va_up f x (va_up (f x) j v) := fun f x j u v => by
              funext y i
              by_cases hy : y = x
              · subst hy
                by_cases hi : i = j
                · subst hi; simp [va_up]
                · simp [va_up, hi]
              · simp [va_up, hy]
            rw [e3]
          rw [e2, sI_self e0]
        rw [e1']
        exact d2
    have rstep : ∀ m, MAt m tp N n → RPs m ψ → ∃ m1 m2, pM X m_Md_readLine [.ref 175] (hp m) = some (none, hp (em m2 (0 + L.length) 0 0)) ∧ RF m m1 ∧ MAt m1 tp N (n + 1) ∧ RPs (sA m1 181 (upd (gA m1 181) 31 (-1))) ψ ∧ gA m1 181 31 = 0 ∧ RR m1 0 m2 n1 e L := by
      intro m hA hP
      have b2 := hP.2.2.1
      rw [hmo] at b2
      have b2' : gA m 181 31 = -1 := b2
      have b13 : gI m 175 13 = 0 := by have := hP.2.2.2.2.2.2; rw [hmo] at this; exact this
      have A1 := hA.nx hnN
      have P1 : RPs (sI m 175 7 (nI (n + 1))) ψ := hP.f7
      have F1 : RF m (sI m 175 7 (nI (n + 1))) := RF.f7
      have q1 : gA (sI m 175 7 (nI (n + 1))) 181 31 = -1 := b2'
      have g1 : gI (sI m 175 7 (nI (n + 1))) 175 13 = 0 := by rw [gI_sI_ne (Or.inr (by decide))]; exact b13
      have w7 : pv_fp (hp m) 175 11 7 (.int (nI (n + 1))) = some (hp (sI m 175 7 (nI (n + 1)))) := Md_p7
      generalize sI m 175 7 (nI (n + 1)) = mA at A1 P1 F1 q1 g1 w7
      have s2 : Same [181] mA (sA mA 181 (upd (gA mA 181) 31 0)) := Same.sA (by decide)
      have A2 : MAt (sA mA 181 (upd (gA mA 181) 31 0)) tp N (n + 1) := A1.same s2 (by decide) (by decide) (by decide) (by decide) (by rw [s2.I (by decide)]; exact A1.2.2.1) hnN (by rw [s2.I (by decide)]; exact A1.2.2.2.2)
      obtain ⟨m2, a2, d2⟩ := r1 (sA mA 181 (upd (gA mA 181) 31 0)) 0 A2 (by rw [s2.I (by decide), g1]; rfl) (by omega)
      have a3 := m_emit (X := X) (o := 0) (a := 0) d2.sz (by omega)
      have w2 : pv_sI (hp mA) 181 31 0 = some (hp (sA mA 181 (upd (gA mA 181) 31 0))) := st_181 (k := 31) (by decide)
      refine ⟨sA mA 181 (upd (gA mA 181) 31 0), m2, ?_, F1.tr (RF.s181 (by decide)), A2, ?_, by rw [gA_sA, if_pos rfl, pk_us], d2⟩
      · dsimp only at a2
        rw [nI_0] at a2
        rw [R0 m hA, e_Md_readMoods, u_Md_readMoods_0]
        simp only [tIs, tVs, bs, if_true, true_or, or_true, i10, if_false, not_false_eq_true, not_true_eq_false, Md_rc, Md_f1, Md_f4, Md_f5, Md_f6, Md_f9, Md_f10, Md_f11, Md_f12, Md_f14, Md_f15, Md_f18, Md_f19, Md_f20, Md_f21, Md_f23, Md_f24, Md_f25, Md_f26, Md_f28, m_isW (X := X) (k := 4) (j := 4) (vk := 4) rfl (by decide) rfl hA, w4, bI_t]
        rw [show pv_aX X (hp m) 181 31 = some (gA m 181 31) from ld_181 (k := 31) (by decide), b2']
        simp only [tIs, tVs, bs, if_true, true_or, or_true, i10, if_false, not_false_eq_true, not_true_eq_false, Md_rc, Md_f1, Md_f4, Md_f5, Md_f6, Md_f9, Md_f10, Md_f11, Md_f12, Md_f14, Md_f15, Md_f18, Md_f19, Md_f20, Md_f21, Md_f23, Md_f24, Md_f25, Md_f26, Md_f28, show (-1 : Int32) < 0 by decide, u_Md_readMoods_31, Md_f8, hA.2.2.2.2, le00, Md_f7, hA.2.2.1, nI_1, w7, Md_f13, g1, w2, a2, a3]
      · have e2 : sA (sA mA 181 (upd (gA mA 181) 31 0)) 181 (upd (gA (sA mA 181 (upd (gA mA 181) 31 0)) 181) 31 (-1)) = mA := by
          rw [gA_sA, if_pos rfl]
          have e3 : upd (upd (gA mA 181) 31 0) 31 (-1) = upd (gA mA 181) 31 (-1) := by
            funext j
            by_cases hj : j = 31
            · subst hj; rw [pk_us, pk_us]
            · rw [pk_un hj, pk_un hj, pk_un hj]
          rw [e3]
          have e4 : ∀ (f g : Nat → Int32), sA (sA mA 181 f) 181 g = sA mA 181 g := fun f g => by
            unfold sA
            have e5 : ∀ (h : Nat → Nat → Int32), va_up (va_up h 181 f) 181 g = va_up h 181 g := fun h => by
              funext y
              by_cases hy : y = 181
              · subst hy; simp [va_up]
              · simp [va_up, hy]
            rw [e5]
          rw [e4, sA_sf q1]
        rw [e2]
        exact P1
    by_cases he : e = 0
    · subst he
      obtain ⟨p1, p2⟩ := f1.2 rfl
      refine ⟨.inr (n1, (ψ.1, ψ.2.1, ψ.2.2.1, ψ.2.2.2.1, ψ.2.2.2.2.1, ψ.2.2.2.2.2.1, some L)), ⟨by show n < n1; omega, l2, ok.1, ok.2.1, ok.2.2.1, ok.2.2.2.1, fun L' hL' => ?_, ok.2.2.2.2.2⟩, fun m hA h4 hP => ?_, fun m hA hP => ?_⟩
      · have e9 : L = L' := Option.some.inj hL'
        rw [← e9]
        exact ⟨by omega, f1b.2.2.2.2, p2 0 (by decide)⟩
      · obtain ⟨m1, m2, a1, F1, P1, A1, d2, F2⟩ := cstep m hA h4 hP
        dsimp only
        rw [a1, rb_0, if_pos (Or.inr rfl)]
        refine CO.fine rfl F2 d2.f4 d2.ca ?_
        obtain ⟨b1, b2, b3, b4, b5, b6, b7⟩ := P1
        have sx : Same [Q + 3, 1, Q + 4] m1 m2 := ((Same.sI (by simp) : Same [Q + 3, 1, Q + 4] m1 (sI m1 (Q + 3) 3 1))).tr (d2.1.mono (by simp))
        have nn : ∀ d, d ≠ 3 → d ≠ 4 → Q + d ∉ [Q + 3, 1, Q + 4] := fun d hd hd' => by simp; omega
        refine ⟨by rw [sx.I (show Q ∉ [Q + 3, 1, Q + 4] by simp; omega)]; exact b1, ?_, ?_, ?_, ?_, ?_, ?_⟩
        · rw [sx.Lr (nn 1 (by decide) (by decide)), sx.A (nn 6 (by decide) (by decide))]; exact b2
        · rw [sx.A (nn 7 (by decide) (by decide)), sx.A (nn 2 (by decide) (by decide)), sx.A (nn 9 (by decide) (by decide)), sx.A (nn 11 (by decide) (by decide)), sx.A (nn 10 (by decide) (by decide))]; exact b3
        · rw [sx.I (nn 8 (by decide) (by decide))]; exact b4
        · rw [d2.2.1, gI_sI_eq]; rfl
        · rw [d2.sz, Nat.zero_add]; rfl
        · intro j x hx
          have h9 := d2.2.2.2.2.2.2 j x hx
          rw [Nat.zero_add] at h9
          exact h9
      · obtain ⟨m1, m2, a1, F1, A1, P1, q1, d2⟩ := rstep m hA hP
        dsimp only
        rw [a1]
        have d3 : RR m2 (0 + L.length) (em m2 (0 + L.length) 0 0) n1 0 [(0, 0, 0)] := RR.put rfl rfl d2.f7 d2.f8
        have d4 := d2.tr d3
        refine RO.fine rfl (F1.tr (RF.rr d4)) (d4.mat A1 l2) ?_
        obtain ⟨⟨c1', c2', c3', c4'⟩, b1, b2, b3, b4, b5, b6⟩ := P1
        rw [gA_sA, if_pos rfl] at b1 b2 b3 b4
        have e81 : gA (em m2 (0 + L.length) 0 0) 181 = gA m1 181 := d4.1.A (by decide)
        refine ⟨⟨c1', ?_, fun k hk => ?_, c4'⟩, ?_, ?_, fun k hk => ?_, fun k hk => ?_, fun j x hx => ?_, ?_, ?_⟩
        · show gI (em m2 (0 + L.length) 0 0) 175 17 = _
          rw [d4.2.1 17 (by decide) (by decide) (by decide)]
          exact c2'
        · show gL (em m2 (0 + L.length) 0 0) 185 k = _
          rw [d4.1.Lr (by decide)]
          exact c3' k hk
        · rw [e81]; rw [pk_un (by decide)] at b1; exact b1
        · rw [e81, q1]; rfl
        · have := b3 k hk
          rw [pk_un (by omega), pk_un (by omega)] at this
          rw [e81]; exact this
        · have := b4 k hk
          rw [pk_un (by omega), pk_un (by omega)] at this
          rw [e81]; exact this
        · have hj : j < L.length := (List.getElem?_eq_some_iff.mp hx).1
          have hx' : (L ++ [((0 : Int32), (0 : Int32), (0 : Int32))])[j]? = some x := by rw [List.getElem?_append_left hj]; exact hx
          have h8 : gA (em m2 (0 + L.length) 0 0) 182 (1100 + (0 + j)) = x.2.1 := d4.2.2.2.2.2.2.1.2 j x hx'
          have h9 : gA (em m2 (0 + L.length) 0 0) 183 (1100 + (0 + j)) = x.2.2 := d4.2.2.2.2.2.2.2.2 j x hx'
          rw [show 1100 + (0 + j) = 1100 + j by omega] at h8 h9
          exact ⟨h8, h9⟩
        · rw [d4.sz, List.length_append, List.length_singleton, Nat.zero_add]
        · have hx' : (L ++ [((0 : Int32), (0 : Int32), (0 : Int32))])[L.length]? = some (0, 0, 0) := by rw [List.getElem?_append_right (Nat.le_refl _), Nat.sub_self]; rfl
          have h8 : gA (em m2 (0 + L.length) 0 0) 182 (1100 + (0 + L.length)) = 0 := d4.2.2.2.2.2.2.1.2 _ _ hx'
          rw [show 1100 + (0 + L.length) = 1100 + L.length by omega] at h8
          exact h8
    · refine ⟨.inl e, ⟨by omega, l4⟩, fun m hA h4 hP => ?_, fun m hA hP => ?_⟩
      · obtain ⟨m1, m2, a1, F1, P1, A1, d2, F2⟩ := cstep m hA h4 hP
        dsimp only
        rw [a1, rb_n he, if_pos (Or.inl rfl)]
        exact CO.fail rfl F2 d2.f4
      · obtain ⟨m1, m2, a1, F1, A1, P1, q1, d2⟩ := rstep m hA hP
        dsimp only
        rw [a1]
        have d3 : RR m2 (0 + L.length) (em m2 (0 + L.length) 0 0) n1 e [(0, 0, 0)] := RR.put rfl rfl d2.f7 d2.f8
        exact RO.fail rfl (F1.tr (RF.rr (d2.tr d3))) d3.f8
theorem obI01 {o : aO} : obI o = 0 ∨ obI o = 1 := by
  cases o with
  | inl e => exact Or.inl rfl
  | inr x => exact Or.inr rfl
theorem ln_line (T : TK tp N) (hQ : isPo Q) (h3 : 3 ≤ Q) (ok : okB ψ) (hn : n < N) : LN tp N Q n ψ (fun h => pM X m_Po_readLine [.ref Q, .ref 1] h) (fun h => pM X m_Md_readLine [.ref 175] h) := by
  have W : ∀ m, CA m tp n → ∀ k, k < 21 → pM X m_Tp_isWord [.ref 1, .ref (pv_scr + 1 + k)] (hp m) = some (some (.int (bI (isW tp (ps tp n) (tx k)))), hp m) := fun m hA k hk => w_isWord hk hA.1 T.1 (ps_le n) hA.2
  cases w1 : isW tp (ps tp n) (tx 1) with
  | true =>
    refine ⟨oPer tp n ψ, oPer_good T ok hn, fun m hA h4 hP => ?_, fun m hA hP => d_personL T ok (by omega) w1 hA hP⟩
    obtain ⟨m', a1, r⟩ := c_person (X := X) T hQ h3 ok hA h4 hP
    refine ⟨m', ?_, r⟩
    dsimp only
    rw [e_Po_readLine, u_Po_readLine_0]
    simp only [tIs, tVs, bs, if_true, true_or, or_true, i10, if_false, not_false_eq_true, not_true_eq_false, Tp_rc, W m hA 1 (by decide), w1, bI_t, Po_rc hQ, a1]
    rw [if_pos obI01]
  | false =>
    cases w2 : isW tp (ps tp n) (tx 2) with
    | true =>
      refine ⟨oAsk tp n ψ, oAsk_good T ok hn, fun m hA h4 hP => ?_, fun m hA hP => d_asksL T ok (by omega) w1 w2 hA hP⟩
      obtain ⟨m', a1, r⟩ := c_asks (X := X) T hQ h3 ok hA h4 hP
      refine ⟨m', ?_, r⟩
      dsimp only
      rw [e_Po_readLine, u_Po_readLine_0]
      simp only [tIs, tVs, bs, if_true, true_or, or_true, i10, if_false, not_false_eq_true, not_true_eq_false, Tp_rc, W m hA 1 (by decide), W m hA 2 (by decide), w1, w2, bI_t, bI_f, eq_self, Po_rc hQ, a1]
      rw [if_pos obI01]
    | false =>
      cases w3 : isW tp (ps tp n) (tx 3) with
      | true =>
        refine ⟨oSet tp n ψ, oSet_good T ok hn, fun m hA h4 hP => ?_, fun m hA hP => d_setsL T ok (by omega) w1 w2 w3 hA hP⟩
        obtain ⟨m', a1, r⟩ := c_sets (X := X) T hQ h3 ok hA h4 hP
        refine ⟨m', ?_, r⟩
        dsimp only
        rw [e_Po_readLine, u_Po_readLine_0]
        simp only [tIs, tVs, bs, if_true, true_or, or_true, i10, if_false, not_false_eq_true, not_true_eq_false, Tp_rc, W m hA 1 (by decide), W m hA 2 (by decide), W m hA 3 (by decide), w1, w2, w3, bI_t, bI_f, eq_self, Po_rc hQ, a1]
        rw [if_pos obI01]
      | false =>
        cases w4 : isW tp (ps tp n) (tx 4) with
        | true => exact ln_moods T hQ h3 ok (by omega) w1 w2 w3 w4
        | false =>
          obtain ⟨g0, g1⟩ := fl_lt (n := n) (v := 1) T (by decide) (by decide)
          refine ⟨.inl (fl tp (ps tp n) 1), ⟨by omega, g0⟩, fun m hA h4 hP => ?_, fun m hA hP => ?_⟩
          · dsimp only
            rw [e_Po_readLine, u_Po_readLine_0]
            simp only [tIs, tVs, bs, if_true, true_or, or_true, i10, if_false, not_false_eq_true, not_true_eq_false, Tp_rc, W m hA 1 (by decide), W m hA 2 (by decide), W m hA 3 (by decide), W m hA 4 (by decide), w1, w2, w3, w4, bI_f, eq_self, w_refuse (X := X) (v := 1) (vv := 1) rfl hA.2]
            exact CO.fail rfl CF.f4 gI_sI_eq
          · dsimp only
            rw [e_Md_readLine, u_Md_readLine_0]
            simp only [tIs, tVs, bs, if_true, true_or, or_true, i10, if_false, not_false_eq_true, not_true_eq_false, Md_rc, Md_f1, Md_f4, Md_f5, Md_f6, Md_f9, Md_f10, Md_f11, Md_f12, Md_f14, Md_f15, Md_f18, Md_f19, Md_f20, Md_f21, Md_f23, Md_f24, Md_f25, Md_f26, Md_f28, m_isW (X := X) (k := 0) (j := 1) (vk := 0) rfl (by decide) rfl hA, m_isW (X := X) (k := 2) (j := 2) (vk := 2) rfl (by decide) rfl hA, m_isW (X := X) (k := 3) (j := 3) (vk := 3) rfl (by decide) rfl hA, w1, w2, w3, bI_f, eq_self, u_Md_readLine_200, e_Md_readMoods, u_Md_readMoods_0, m_isW (X := X) (k := 4) (j := 4) (vk := 4) rfl (by decide) rfl hA, w4, m_wrong (X := X) (v := 1) (vv := 1) rfl hA]
            rw [u_Md_readMoods_31, Md_f8, gI_sI_eq]
            simp only [bs]
            rw [if_neg (nI_nle (by omega) (by omega))]
            simp only [tIs, tVs, bs, if_true, true_or, or_true, i10, if_false, not_false_eq_true, not_true_eq_false, Md_rc, Md_f1, Md_f4, Md_f5, Md_f6, Md_f9, Md_f10, Md_f11, Md_f12, Md_f14, Md_f15, Md_f18, Md_f19, Md_f20, Md_f21, Md_f23, Md_f24, Md_f25, Md_f26, Md_f28]
            exact RO.fail rfl RF.f8 gI_sI_eq
theorem rf12_0 {v3 : Int32} : f_Po_readFrom_12 X Q 1 0 v3 (hp m) = some (some (.int (gI m 1 4)), hp m) := by
  rw [u_Po_readFrom_12]
  simp only [eq_self, if_true, ite_self, u_Po_readFrom_59, Tp_f4, bs]
/-- all lines, with their signs, from the n-th token on -/
theorem port_loop (T : TK tp N) (hQ : isPo Q) (h3 : 3 ≤ Q) : ∀ q n, n + q = N → ∀ ψ, okB ψ → ∃ o : Nat ⊕ aB, (match o with
    | .inl e => 0 < e ∧ e < 20000
    | .inr ψ' => okB ψ') ∧ (∀ i, i ≤ n → ∀ m, CA m tp n → gI m 1 4 = 0 → CPs m Q ψ → ∃ m', f_Po_readFrom_12 X Q 1 1 (nI i) (hp m) = some (some (.int (match o with
      | .inl e => nI e
      | .inr _ => 0)), hp m') ∧ CF Q m m' ∧ (match o with
      | .inl _ => True
      | .inr ψ' => CPs m' Q ψ')) ∧ ∀ m, MAt m tp N n → RPs m ψ → ∃ m', f_Md_port_25 X 175 (hp m) = f_Md_port_57 X 175 (hp m') ∧ RF m m' ∧ (match o with
      | .inl e => gI m' 175 8 = nI e
      | .inr ψ' => gI m' 175 8 = 0 ∧ RPs m' ψ') := by
  have h1000 := T.2.1
  intro q
  induction q using Nat.strongRecOn with
  | ind q ih =>
    intro n hn ψ ok
    by_cases hnN : n = N
    · have hs : tkS tp (ps tp n) = 0 := by rw [hnN]; exact T.2.2.2
      refine ⟨.inr ψ, ok, fun i hi m hA h4 hP => ⟨m, ?_, CF.rf, hP⟩, fun m hA hP => ⟨m, ?_, RF.rf, hA.2.2.2.2, hP⟩⟩
      · rw [u_Po_readFrom_12]
        simp only [tIs, tVs, bs, if_true, true_or, or_true, i10, if_false, not_false_eq_true, not_true_eq_false, Tp_rc, w_isEnd (X := X) hA.2, hs, decide_true, bI_t, u_Po_readFrom_59, Tp_f4, h4, ite_self]
      · have r1 := hA.row.1
        have hN' := hA.NN
        rw [u_Md_port_25, Md_f8, hA.2.2.2.2]
        simp only [tIs, tVs, bs, if_true, true_or, or_true, i10, if_false, not_false_eq_true, not_true_eq_false, Md_rc, Md_f1, Md_f4, Md_f5, Md_f6, Md_f9, Md_f10, Md_f11, Md_f12, Md_f14, Md_f15, Md_f18, Md_f19, Md_f20, Md_f21, Md_f23, Md_f24, Md_f25, Md_f26, Md_f28, eq_self, Md_f7, hA.2.2.1]
        rw [ld_177 (by omega), r1, hs]
        simp only [tIs, tVs, bs, if_true, true_or, or_true, i10, if_false, not_false_eq_true, not_true_eq_false, Md_rc, Md_f1, Md_f4, Md_f5, Md_f6, Md_f9, Md_f10, Md_f11, Md_f12, Md_f14, Md_f15, Md_f18, Md_f19, Md_f20, Md_f21, Md_f23, Md_f24, Md_f25, Md_f26, Md_f28]
        rw [if_pos nI_0]
    · have hlt : n < N := by omega
      have hs : tkS tp (ps tp n) ≠ 0 := T.2.2.1 n hlt
      have h4' := tkS_le (tp := tp) (i := ps tp n)
      obtain ⟨o1, gd, c1, r1⟩ := ln_line (X := X) T hQ h3 ok hlt
      have cl : ∀ i, i ≤ n → ∀ m, CA m tp n → f_Po_readFrom_12 X Q 1 1 (nI i) (hp m) = (pv_tI (pM X m_Po_readLine [.ref Q, .ref 1] (hp m))).bind (fun q2 => if q2.1 = 0 then f_Po_readFrom_51 X Q 1 1 (nI i) q2.2 else if pv_rc q2.2 1 9 = true then (pv_tI (pM X m_Tp_takeSign [.ref 1, .int 59] q2.2)).bind (fun q3 => if q3.1 = 0 then f_Po_readFrom_51 X Q 1 1 (nI i) q3.2 else f_Po_readFrom_52 X Q 1 1 (nI i) 1 q3.2) else none) := by
        intro i hi m hA
        rw [u_Po_readFrom_12, if_neg (show ¬ (1000 : Int32) ≤ nI i from nI_ge (b := 1000) (by omega) (by decide))]
        simp only [tIs, tVs, bs, if_true, true_or, or_true, i10, if_false, not_false_eq_true, not_true_eq_false, Tp_rc, w_isEnd (X := X) hA.2, decide_eq_false hs, bI_f, eq_self, Po_rc hQ]
      have rl : ∀ m, MAt m tp N n → f_Md_port_25 X 175 (hp m) = (pv_tV (pM X m_Md_readLine [.ref 175] (hp m))).bind (fun h5 => if pv_rc h5 175 11 = true then (pv_tV (pM X m_Md_takeSign [.ref 175, .int 59] h5)).bind (fun h6 => f_Md_port_25 X 175 h6) else none) := by
        intro m hA
        have r1 := hA.row.1
        have hN' := hA.NN
        rw [u_Md_port_25, Md_f8, hA.2.2.2.2]
        simp only [tIs, tVs, bs, if_true, true_or, or_true, i10, if_false, not_false_eq_true, not_true_eq_false, Md_rc, Md_f1, Md_f4, Md_f5, Md_f6, Md_f9, Md_f10, Md_f11, Md_f12, Md_f14, Md_f15, Md_f18, Md_f19, Md_f20, Md_f21, Md_f23, Md_f24, Md_f25, Md_f26, Md_f28, eq_self, Md_f7, hA.2.2.1]
        rw [ld_177 (by omega), r1]
        simp only [tIs, tVs, bs, if_true, true_or, or_true, i10, if_false, not_false_eq_true, not_true_eq_false, Md_rc, Md_f1, Md_f4, Md_f5, Md_f6, Md_f9, Md_f10, Md_f11, Md_f12, Md_f14, Md_f15, Md_f18, Md_f19, Md_f20, Md_f21, Md_f23, Md_f24, Md_f25, Md_f26, Md_f28]
        rw [if_neg (nI_ne0 (by omega) (by omega))]
      have rx : ∀ m e, gI m 175 8 = nI e → 0 < e → e < 2 ^ 31 → f_Md_port_25 X 175 (hp m) = f_Md_port_57 X 175 (hp m) := by
        intro m e h8 g0 g1
        rw [u_Md_port_25, Md_f8, h8]
        simp only [bs]
        rw [if_pos (nI_ne0 g0 g1)]
      cases o1 with
      | inl e =>
        have gd' : 0 < e ∧ e < 20000 := gd
        refine ⟨.inl e, gd, fun i hi m hA h4 hP => ?_, fun m hA hP => ?_⟩
        · obtain ⟨m', a1, F1, h8⟩ := c1 m hA h4 hP
          dsimp only at a1 h8
          refine ⟨m', ?_, F1, trivial⟩
          rw [cl i hi m hA, a1]
          simp only [obI, tIs, tVs, bs, if_true, true_or, or_true, i10, if_false, not_false_eq_true, not_true_eq_false, eq_self, u_Po_readFrom_51, u_Po_readFrom_52, rf12_0, h8]
        · obtain ⟨m', a1, F1, h8⟩ := r1 m hA hP
          dsimp only at a1 h8
          refine ⟨m', ?_, F1, h8⟩
          rw [rl m hA, a1]
          simp only [tIs, tVs, bs, if_true, true_or, or_true, i10, if_false, not_false_eq_true, not_true_eq_false, Md_rc, Md_f1, Md_f4, Md_f5, Md_f6, Md_f9, Md_f10, Md_f11, Md_f12, Md_f14, Md_f15, Md_f18, Md_f19, Md_f20, Md_f21, Md_f23, Md_f24, Md_f25, Md_f26, Md_f28, x_takeSign (X := X) (v := 59) h8 gd'.1 (by omega)]
          exact rx m' e h8 gd'.1 (by omega)
      | inr x =>
        obtain ⟨n1, ψ1⟩ := x
        obtain ⟨g1, g2, g3⟩ := gd
        dsimp only at g1 g2 g3
        cases hC : isG tp (ps tp n1) 59 with
        | true =>
          have h1N : n1 < N := T.lt g2 (by rw [isG_s hC]; decide)
          obtain ⟨o, og, co, ro⟩ := ih (N - (n1 + 1)) (by omega) (n1 + 1) (by omega) ψ1 g3
          refine ⟨o, og, fun i hi m hA h4 hP => ?_, fun m hA hP => ?_⟩
          · obtain ⟨m1, a1, F1, h8, A1, P1⟩ := c1 m hA h4 hP
            dsimp only at a1 A1 P1
            obtain ⟨m2, a2, A2, f2, P2, F2⟩ := l_adv (X := X) T.1 h3 A1 h8 P1
            obtain ⟨m3, a3, F3, r3⟩ := co (i + 1) (by omega) m2 A2 f2 P2
            refine ⟨m3, ?_, (F1.tr F2).tr F3, r3⟩
            rw [cl i hi m hA, a1]
            simp only [obI, tIs, tVs, bs, if_true, true_or, or_true, i10, if_false, not_false_eq_true, not_true_eq_false, Tp_rc, w_takeSign1 (X := X) (c := 59) (vc := 59) rfl (by decide) T.1 A1 hC a2, u_Po_readFrom_52, nI_1]
            exact a3
          · obtain ⟨m1, a1, F1, A1, P1⟩ := r1 m hA hP
            dsimp only at a1 A1 P1
            obtain ⟨m3, a3, F3, r3⟩ := ro _ (A1.nx h1N) P1.f7
            refine ⟨m3, ?_, (F1.tr RF.f7).tr F3, r3⟩
            rw [rl m hA, a1]
            simp only [tIs, tVs, bs, if_true, true_or, or_true, i10, if_false, not_false_eq_true, not_true_eq_false, Md_rc, Md_f1, Md_f4, Md_f5, Md_f6, Md_f9, Md_f10, Md_f11, Md_f12, Md_f14, Md_f15, Md_f18, Md_f19, Md_f20, Md_f21, Md_f23, Md_f24, Md_f25, Md_f26, Md_f28, m_takeSign1 (X := X) (c := 59) (vc := 59) rfl (by decide) T.1 A1 hC]
            exact a3
        | false =>
          obtain ⟨e1, e2⟩ := fl_lt (n := n1) (v := 1) T (by decide) (by decide)
          refine ⟨.inl (fl tp (ps tp n1) 1), ⟨by omega, e1⟩, fun i hi m hA h4 hP => ?_, fun m hA hP => ?_⟩
          · obtain ⟨m1, a1, F1, h8, A1, P1⟩ := c1 m hA h4 hP
            dsimp only at a1 A1 P1
            refine ⟨sI m1 1 4 (nI (fl tp (ps tp n1) 1)), ?_, F1.tr CF.f4, trivial⟩
            rw [cl i hi m hA, a1]
            simp only [obI, tIs, tVs, bs, if_true, true_or, or_true, i10, if_false, not_false_eq_true, not_true_eq_false, Tp_rc, w_takeSign0 (X := X) (c := 59) (vc := 59) rfl (by decide) T.1 A1 hC, eq_self, u_Po_readFrom_51, u_Po_readFrom_52, rf12_0, gI_sI_eq]
          · obtain ⟨m1, a1, F1, A1, P1⟩ := r1 m hA hP
            dsimp only at a1 A1 P1
            refine ⟨sI m1 175 8 (nI (fl tp (ps tp n1) 1)), ?_, F1.tr RF.f8, gI_sI_eq⟩
            rw [rl m hA, a1]
            simp only [tIs, tVs, bs, if_true, true_or, or_true, i10, if_false, not_false_eq_true, not_true_eq_false, Md_rc, Md_f1, Md_f4, Md_f5, Md_f6, Md_f9, Md_f10, Md_f11, Md_f12, Md_f14, Md_f15, Md_f18, Md_f19, Md_f20, Md_f21, Md_f23, Md_f24, Md_f25, Md_f26, Md_f28, m_takeSign0 (X := X) (c := 59) (vc := 59) rfl (by decide) T.1 A1 hC]
            exact rx _ _ gI_sI_eq (by omega) (by omega)
end LI4
