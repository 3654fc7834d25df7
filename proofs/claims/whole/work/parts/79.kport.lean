/-! port agrees. -/
section KPO
variable {X : pv_X} {N n P Q a c : Nat} {ψ : aB} {m m' m1 m2 : pm_M} {L : List Nat} {π : aP} {s b : aS} {C T : aC} {D : aD} {hs : List aS} {mk : aK} {tp : aT} {nm : aN}
theorem cPort.same' (h : cPort m P π b nm) (hS : Same L m m') (h0 : ∀ j, gR m' 0 j = gR m 0 j) (z : ∀ d, d = 0 ∨ d = 1 ∨ d = 2 ∨ d = 3 ∨ d = 4 ∨ d = 6 ∨ d = 7 ∨ d = 8 ∨ d = 9 ∨ d = 10 ∨ d = 11 → P + d ∉ L) : cPort m' P π b nm := by
  obtain ⟨h1, h2, h3, h4, h5, h6, h7⟩ := h
  have z0 : P ∉ L := z 0 (by omega)
  refine ⟨by rw [h0]; exact h1, h2, by rw [h0]; exact h3, ?_, ?_, ?_, ?_⟩
  · unfold okP at h4 ⊢
    rw [hS.I z0, hS.I (z 3 (by omega)), hS.I (z 3 (by omega)), hS.A (z 4 (by omega)), hS.A (z 7 (by omega))]
    exact h4
  · rw [← h5]
    unfold vP vL
    rw [hS.I z0, hS.I (z 3 (by omega)), hS.I (z 3 (by omega)), hS.A (z 4 (by omega)), hS.A (z 6 (by omega)), hS.A (z 7 (by omega))]
  · rw [← h6]
    refine vw_same hS (fun c hc => ?_)
    simp only [cSt, List.mem_cons, List.not_mem_nil, or_false] at hc
    rcases hc with rfl | rfl | rfl | rfl
    · exact z 8 (by omega)
    · exact z 9 (by omega)
    · exact z 10 (by omega)
    · exact z 11 (by omega)
  · rw [hS.Lr (z 1 (by omega))]; exact h7
/-- what the class holds, but for the tape and the other PORT's cells -/
theorem CLS.spare (h : CLS m P a π s b C T D hs mk tp nm) (hQ : Q = 18 - P) (hS : Same (cQs Q) m m') (h1 : gI m' 1 1 = 0) : CLS m' P a π s b C T D hs mk (0, tp.2) nm := by
  obtain ⟨c1, c2, c3, c4, c5, c6, c7, c8⟩ := h
  have hP := c1.2.1
  have hin : ∀ K : List Nat, (∀ x ∈ K, x = 0 ∨ 27 ≤ x) → ∀ x ∈ K, x ∉ cQs Q := fun K hK x hx hx' => by
    have := hK x hx
    unfold cQs at hx'
    simp only [List.mem_cons, List.not_mem_nil, or_false] at hx'
    rcases hP with rfl | rfl <;> omega
  have hi1 : ∀ x, x = 0 ∨ 27 ≤ x → x ∉ cQs Q := fun x hx => hin [x] (fun y hy => by rw [List.mem_singleton.mp hy]; exact hx) x (by simp)
  refine ⟨c1.same' hS (fun j => hS.R (hi1 0 (by omega))) (fun d hd hd' => ?_), by rw [vw_same hS (hin _ (by decide))]; exact c2, c3.same hS (hi1 _ (by omega)) (hi1 _ (by omega)) (hi1 _ (by omega)) (hi1 _ (by omega)), c4.same hS (hi1 _ (by omega)) (hi1 _ (by omega)) (hi1 _ (by omega)), c5.same hS (hin _ (by decide)), c6.same hS (hin _ (by decide)), c7.same hS (hin _ (by decide)), h1, fun i hi => absurd hi (Nat.not_lt_zero i)⟩
  unfold cQs at hd'
  simp only [List.mem_cons, List.not_mem_nil, or_false] at hd'
  rcases hP with rfl | rfl <;> omega
theorem bgm_port (ok : okB ψ) (hP : RPs m ψ) (h : ∀ j, j < 30 → gA m' 181 j = gA m 181 (30 + j)) {b : aS} (hb1 : ∀ k, k < 6 → b.1 k = nI ((ψ.2.2.2.2.2.1 k).getD 0)) (hb2 : ∀ k, k < 6 → b.2.1 k = nI (ψ.2.2.2.1 k)) (hb3 : b.2.2.1 = fun _ => 0) (hb4 : b.2.2.2 = 0) (hb5 : ∀ k, 6 ≤ k → b.1 k = 0 ∧ b.2.1 k = 0) : BGm m' ψ.1 b := by
  have hz := ok.1
  obtain ⟨b0, b1, b2, b3, b4, b5, b6⟩ := hP
  refine ⟨fun k hk => ⟨?_, ?_⟩, fun k hk => ?_, hb3, hb4⟩
  · rw [h _ (by omega), show 30 + (2 + 4 * k + 1) = 33 + 4 * k by omega, (b3 k hk).2, hb2 k (by omega)]
  · rw [h _ (by omega), show 30 + (2 + 4 * k + 3) = 35 + 4 * k by omega, (b4 k (by omega)).2, hb1 k (by omega)]
    cases ht : ψ.2.2.2.2.2.1 k with
    | none => exact Or.inl ⟨(by decide : (-1 : Int32) < 0), rfl⟩
    | some t =>
      have := (ok.2.2.2.1 k t ht).1
      exact Or.inr ⟨nI_pos' (by omega), rfl⟩
  · rcases Nat.lt_or_ge k 6 with h6 | h6
    · rw [hb1 k h6, hb2 k h6, ok.2.2.2.2.2 k hk]
      cases ht : ψ.2.2.2.2.2.1 k with
      | none => exact ⟨rfl, rfl⟩
      | some t => have := (ok.2.2.2.1 k t ht).2; omega
    · exact hb5 k h6
def oV (o : Nat ⊕ aB) : Int32 := match o with
  | .inl e => nI e
  | .inr _ => 0
theorem k_port (h : INV m c) (hc : c < 600) : AgI X m_Wp_port m_Md_port [] m c := by
  obtain ⟨⟨P, a, π, s, b, C, T, D, hs, mk, tp, nm, h1, h2, h3⟩, g, hg, hgg⟩ := id h
  have ok : okTp tp := h3.2.2.2.2.2.2.2.2.1
  have hP := h1.1.2.1
  obtain ⟨Q, eQ⟩ : ∃ Q, Q = 18 - P := ⟨_, rfl⟩
  have hQ' : Q = 3 ∨ Q = 15 := by rcases hP with rfl | rfl <;> omega
  have hQ : isPo Q := by rcases hQ' with rfl | rfl; exact isPo_3; exact isPo_15
  have hQ3 : 3 ≤ Q := by omega
  have r1 : gR m 0 1 = P := h1.1.1
  have r2 : gR m 0 2 = Q := by rw [eQ]; exact h1.1.2.2.1
  obtain ⟨mz, N, -, -, -, -, -, -, tb0⟩ := m_cutAll (X := X) h2.2.2.2.2.2.2.1 ok
  have TT : TK tp N := tb0.tk ok
  obtain ⟨o, og, co, ro⟩ := port_loop (X := X) TT hQ hQ3 N 0 (by omega) ψ0 okB_0
  obtain ⟨m1, e1, s1, P1⟩ := w_poclear (X := X) (m := m) hQ hQ3
  have hn1 : 1 ∉ cQ0 Q := by unfold cQ0; simp; omega
  have hn2 : 2 ∉ cQ0 Q := by unfold cQ0; simp; omega
  have t1 : cTap m1 tp := h1.2.2.2.2.2.2.2.same s1 hn1 hn2
  obtain ⟨m2, e2, s2, f2, A2⟩ := w_start (X := X) ok t1
  have P2 : CPs m2 Q ψ0 := P1.adv s2 hQ3
  have F2 : CF Q m m2 := ⟨(s1.mono (fun x hx => by
    unfold cQ0 at hx
    unfold cQs
    simp only [List.mem_cons, List.not_mem_nil, or_false] at hx ⊢
    omega)).tr (s2.mono (by unfold cQs; simp)), by rw [A2.1.1, h1.2.2.2.2.2.2.2.1]⟩
  obtain ⟨m3, e3, F3, r3⟩ := co 0 (Nat.le_refl _) m2 A2 f2 P2
  have F3' := F2.tr F3
  have S4 : Same (cQs Q) m (sI m3 1 1 0) := F3'.1.tr (Same.sI (by unfold cQs; simp))
  have i4 : gI (sI m3 1 1 0) 1 1 = 0 := gI_sI_eq
  have s34 : Same [1] m3 (sI m3 1 1 0) := Same.sI (by decide)
  have w4 : pM X m_Tp_empty [.ref 1] (hp m3) = some (none, hp (sI m3 1 1 0)) := by
    rw [e_Tp_empty, u_Tp_empty_0, hp_pI Tp_T rfl]
    simp only [tIs, tVs, bs, if_true, true_or, or_true, i10, if_false, not_false_eq_true, not_true_eq_false]
  generalize sI m3 1 1 0 = m4 at S4 i4 w4 s34
  have CL4 : CLS m4 P a π s b C T D hs mk (0, tp.2) nm := h1.spare eQ S4 i4
  have hnR : 0 ∉ cQs Q := by unfold cQs; simp; omega
  have R4 : ∀ j, gR m4 0 j = gR m 0 j := fun j => S4.R hnR
  have M4 : MDS m4 π s b C T D hs mk tp nm := h2.same h3 S4 (fun x hx => by
    unfold cQs at hx
    simp only [List.mem_cons, List.not_mem_nil, or_false] at hx
    omega)
  have rd : pM X m_Po_readFrom [.ref Q, .ref 1] (hp m) = some (some (.int (oV o)), hp m3) := by
    rw [e_Po_readFrom, u_Po_readFrom_0]
    simp only [tIs, tVs, bs, if_true, true_or, or_true, i10, if_false, not_false_eq_true, not_true_eq_false, Po_rc hQ, e1, Tp_rc, e2]
    exact Eq.trans (b := f_Po_readFrom_12 X Q 1 1 (nI 0) (hp m2)) rfl e3
  have cw : ∀ v : Int32, v = oV o → pM X m_Wp_port [.ref 0] (hp m) = if ¬ v = 0 then some (some (.int v), hp m4) else (pv_fp (hp m4) 0 10 1 (.ref Q)).bind (fun h8 => (pv_fp h8 0 10 2 (.ref P)).bind (fun h9 => if pv_rc h9 0 10 = true then (pv_tV (pM X m_Wp_startAnew [.ref 0] h9)).bind (fun h10 => f_Wp_port_45 X 0 v (some (.ref P)) h10) else none)) := fun v hv => by
    rw [e_Wp_port, u_Wp_port_0]
    simp only [tIs, tVs, bs, if_true, true_or, or_true, i10, if_false, not_false_eq_true, not_true_eq_false, Wp_rc, Wp_f5, Wp_f6, Wp_f7, Wp_f8, Wp_f9, Wp_f10, Wp_f11, Wp_f12, Wp_f13, Wp_f14, Wp_f2, Wp_f0, r2, Po_rc hQ, rd, ← hv, Tp_rc, w4, u_Wp_port_45, Wp_f1, R4, r1]
  obtain ⟨o1, o2, o3, o4, o5, o6, o7, o8, o9, o10⟩ := id h3
  have oT : (0, tp.2).1 ≤ 1000 ∧ ∀ i, i < (0, tp.2).1 → okch ((0, tp.2).2 i) := ⟨Nat.zero_le _, fun i hi => absurd hi (Nat.not_lt_zero i)⟩
  cases o with
  | inl e =>
    have og' : 0 < e ∧ e < 20000 := og
    obtain ⟨m5, e5, s5, j5, g5, q5, A5, P5⟩ := m_portPre (X := X) TT M4.2.2.2.2.2.2.1 M4.2.2.2.2.2.2.2
    obtain ⟨m6, e6, F6, h8⟩ := ro m5 A5 P5
    dsimp only at h8
    have S6 : Same [175, 177, 178, 179, 181, 182, 183, 185] m4 m6 := (s5.mono (by decide)).tr (F6.1.mono (by decide))
    have J6 : ∀ j, j ≠ 0 → j ≠ 2 → j ≠ 3 → j ≠ 7 → j ≠ 8 → j ≠ 13 → j ≠ 17 → gI m6 175 j = gI m4 175 j := fun j h0 h2 h3 h7 h8 h13 h17 => by rw [F6.2.1 j h7 h8 h13 h17, j5 j h0 h2 h3 h7 h8 h13 h17]
    have q81 : ∀ j, j < 30 → gA m6 181 j = gA m4 181 j := fun j hj => by rw [F6.2.2.1 j hj, q5 j hj]
    have q82 : ∀ j, j < 1100 → gA m6 182 j = gA m4 182 j ∧ gA m6 183 j = gA m4 183 j := fun j hj => by
      obtain ⟨x1, x2⟩ := F6.2.2.2 j hj
      exact ⟨by rw [x1, s5.A (by decide)], by rw [x2, s5.A (by decide)]⟩
    have e189 : gA m6 189 = gA m4 189 := S6.A (by decide)
    obtain ⟨d1, d2, d3, d4, d5, d6, d7, d8⟩ := M4
    have D1 : dPort m6 π b nm := by
      obtain ⟨x1, x2, x3, x4⟩ := d1
      have hz := x1.1
      refine ⟨⟨hz, ?_, fun k hk => ?_, fun k hk => ?_, ?_⟩, ⟨fun k hk => ?_, x2.2⟩, ?_, ?_⟩
      · rw [q81 0 (by decide)]; exact x1.2.1
      · rw [q81 _ (by omega)]; exact x1.2.2.1 k hk
      · rw [q81 _ (by omega)]; exact x1.2.2.2.1 k hk
      · have x5 := x1.2.2.2.2
        cases hl : π.2.2.2 with
        | none =>
          rw [hl] at x5
          dsimp only at x5 ⊢
          rw [q81 1 (by decide)]; exact x5
        | some LL =>
          rw [hl] at x5
          dsimp only at x5 ⊢
          obtain ⟨y1, N', S', y2, y3, y4, y5, y6⟩ := x5
          refine ⟨by rw [q81 1 (by decide)]; exact y1, N', S', y2, y3, y4, by rw [(q82 N' (by omega)).1]; exact y5, fun k hk => ?_⟩
          rw [(q82 k (by omega)).1, (q82 k (by omega)).2]
          exact y6 k hk
      · rw [q81 _ (by omega), q81 _ (by omega)]; exact x2.1 k hk
      · rw [J6 16 (by decide) (by decide) (by decide) (by decide) (by decide) (by decide) (by decide)]; exact x3
      · rw [S6.Lr (by decide)]; exact x4
    refine ⟨nI e, m4, m6, ?_, ?_, k_inv (c := c) (tp := (0, tp.2)) (CL4.same S6 (by decide)) ⟨D1, by rw [← d2]; exact vm_eq (fun i _ _ => by rw [e189]), d3.same o4.1 o5.1 (fun i _ _ => by rw [e189]), d4.same (S6.A (by decide)), d5.same o7.1 (J6 22 (by decide) (by decide) (by decide) (by decide) (by decide) (by decide) (by decide)) (fun i _ _ => by rw [e189]), d6.same o8 (S6.A (by decide)) (fun i _ _ => by rw [e189]), ⟨?_, fun i hi => absurd hi (Nat.not_lt_zero i)⟩, d8.same (S6.Lr (by decide))⟩ ?_ hg ?_⟩
    · rw [cw (nI e) rfl, if_pos (nI_ne0 og'.1 (by omega))]
    · rw [e5, e6, u_Md_port_57, Md_f8, h8]
      simp only [tIs, tVs, bs, if_true, true_or, or_true, i10, if_false, not_false_eq_true, not_true_eq_false, Md_rc, Md_f1, Md_f4, Md_f5, Md_f6, Md_f9, Md_f10, Md_f11, Md_f12, Md_f14, Md_f15, Md_f18, Md_f19, Md_f20, Md_f21, Md_f23, Md_f24, Md_f25, Md_f26, Md_f28]
      rw [if_neg (nI_nle og'.1 (by omega))]
    · rw [F6.2.1 2 (by decide) (by decide) (by decide) (by decide)]; exact g5
    · obtain ⟨u1, u2, u3, u4, u5, u6, u7, u8, u9, u10⟩ := h3.up hc
      exact ⟨u1, u2, u3, u4, u5, u6, u7, u8, oT, u10⟩
    · rw [S6.1, S4.1]; exact hgg
  | inr ψ =>
    have okψ : okB ψ := og
    have hz := okψ.1
    have P3 : CPs m3 Q ψ := r3
    have P4 : CPs m4 Q ψ := P3.adv s34 hQ3
    have cD := CL4.2.2.2.2.1
    obtain ⟨m5, e5, s5, ra, rb', rj, v5, i5, i109, i113, i43, i43', im⟩ := w_anew (X := X) (m := m4) (P := P) (a := a) hQ hQ' (by rw [R4]; exact r1) (by rw [R4]; exact r2) cD.1 cD.2.1
    have nq : ∀ d, d < 12 → Q + d ∉ [0, 35, 36, 37, 38, 27, 31, 109, 113, 43, 123, 136, 149, 162] := fun d hd => by
      simp only [List.mem_cons, List.not_mem_nil, or_false]
      omega
    have nq0 : Q ∉ [0, 35, 36, 37, 38, 27, 31, 109, 113, 43, 123, 136, 149, 162] := nq 0 (by decide)
    have P5 : CPs m5 Q ψ := P4.same s5 nq0 (nq 1 (by decide)) (nq 2 (by decide)) (nq 3 (by decide)) (nq 4 (by decide)) (nq 6 (by decide)) (nq 7 (by decide)) (nq 8 (by decide)) (nq 9 (by decide)) (nq 10 (by decide)) (nq 11 (by decide))
    obtain ⟨p1, p2, p3, p4, p5, p6, p7⟩ := P5
    have b1 : ∀ k, k < 6 → (vw m5 (Q + 8)).1 k = nI ((ψ.2.2.2.2.2.1 k).getD 0) := fun k hk => by
      show nr (gA m5 (Q + 8 + 1)) k = _
      rw [nr_lt hk]; exact (p3 k hk).2.2.1
    have b2 : ∀ k, k < 6 → (vw m5 (Q + 8)).2.1 k = nI (ψ.2.2.2.1 k) := fun k hk => by
      show nr (gA m5 (Q + 8 + 2)) k = _
      rw [nr_lt hk]; exact (p3 k hk).2.2.2.2
    have b3 : (vw m5 (Q + 8)).2.2.1 = fun _ => 0 := by
      funext k
      show nr (gA m5 (Q + 8 + 3)) k = 0
      unfold nr
      by_cases hk : k < 6
      · rw [if_pos hk]; exact (p3 k hk).2.2.2.1
      · rw [if_neg hk]
    have b4 : (vw m5 (Q + 8)).2.2.2 = 0 := p4
    have b5 : ∀ k, 6 ≤ k → (vw m5 (Q + 8)).1 k = 0 ∧ (vw m5 (Q + 8)).2.1 k = 0 := fun k hk => ⟨by show nr _ k = 0; unfold nr; rw [if_neg (by omega)], by show nr _ k = 0; unfold nr; rw [if_neg (by omega)]⟩
    have vs : vw m5 35 = vw m5 (Q + 8) := by
      rw [v5]
      refine (vw_same s5 (fun x hx => ?_)).symm
      simp only [cSt, List.mem_cons, List.not_mem_nil, or_false] at hx
      rcases hx with rfl | rfl | rfl | rfl
      · exact nq 8 (by decide)
      · exact nq 9 (by decide)
      · exact nq 10 (by decide)
      · exact nq 11 (by decide)
    have okS0 : okS ψ.1 0 (vw m5 (Q + 8)) := by
      refine ⟨fun k hk => ?_, fun k hk => ?_, 0, Nat.le_refl _, b4⟩
      · rw [b1 k (by omega)]
        cases ht : ψ.2.2.2.2.2.1 k with
        | none => exact ⟨0, by decide, rfl⟩
        | some t => exact ⟨t, (okψ.2.2.2.1 k t ht).1, rfl⟩
      · obtain ⟨-, -, y1, y2⟩ := okψ.2.1 k hk
        exact ⟨_, y1, y2, b2 k (by omega)⟩
    have z5 : (vP m5 Q).1 = ψ.1 := by
      show (gI m5 Q 6).toNatClampNeg = ψ.1
      rw [p1, nI_clamp (by omega)]
    -- the law of moods
    have law : ∀ LL, ψ.2.2.2.2.2.2 = some LL → gI m5 (Q + 3) 3 = 1 ∧ gI m5 (Q + 3) 2 = nI LL.length ∧ dpn (gA m5 (Q + 4)) LL.length 0 0 = some 1 := fun LL hL => by
      rw [hL] at p5 p6 p7
      refine ⟨p5, p6, ?_⟩
      rw [dpn_dpL LL 0 0 (fun j x hx => by rw [Nat.zero_add]; exact p7 j x hx)]
      exact (okψ.2.2.2.2.1 LL hL).2.2
    have okP5 : okP m5 Q := by
      refine ⟨⟨ψ.1, hz, p1, fun k hk => ?_⟩, fun h0 => ?_⟩
      · rw [(p3 k (by omega)).1]
        cases hA : ψ.2.2.2.2.1 k with
        | none => exact Or.inl rfl
        | some j =>
          obtain ⟨y1, y2⟩ := okψ.2.2.1 k j hA
          exact Or.inr ⟨j, y1, y2, rfl⟩
      · cases hL : ψ.2.2.2.2.2.2 with
        | none => rw [hL] at p5; exact absurd p5 h0
        | some LL =>
          obtain ⟨-, y2, y3⟩ := law LL hL
          have := (okψ.2.2.2.2.1 LL hL).1
          exact ⟨LL.length, by omega, y2, y3⟩
    have CL5 : CLS m5 Q a (vP m5 Q) (vw m5 (Q + 8)) (vw m5 (Q + 8)) (0, C.2) (0, T.2) (0, D.2) [] (fun _ => none) (0, tp.2) ψ.2.1 := by
      obtain ⟨x, y1, y2, y3, y4⟩ := CL4.2.2.2.2.2.1
      refine ⟨⟨ra, hQ', by rw [rb']; omega, okP5, rfl, rfl, fun k hk => ?_⟩, vs, ⟨⟨Nat.zero_le _, i109, fun i hi => absurd hi (Nat.not_lt_zero i)⟩, fun i hi => absurd hi (Nat.not_lt_zero i)⟩, ⟨Nat.zero_le _, i113, fun i hi => absurd hi (Nat.not_lt_zero i)⟩, ⟨by rw [rj 3 (by decide) (by decide)]; exact cD.1, cD.2.1, by rw [rj 4 (by decide) (by decide)]; exact cD.2.2.1, i5, fun i hi => absurd hi (Nat.not_lt_zero i)⟩, ⟨x, y1, by rw [i43']; exact y2, i43, fun j hj => absurd hj (Nat.not_lt_zero j)⟩, fun i hi => ⟨im i hi, fun y hy => by cases hy⟩, ?_, fun i hi => absurd hi (Nat.not_lt_zero i)⟩
      · rw [z5] at hk
        exact (p2 k hk).1
      · rw [s5.I (by decide)]; exact i4
    have M5 : MDS m5 π s b C T D hs mk tp nm := M4.same h3 s5 (by decide)
    obtain ⟨m6, e6, s6, j6, g6, q6, A6, P6⟩ := m_portPre (X := X) TT M5.2.2.2.2.2.2.1 M5.2.2.2.2.2.2.2
    obtain ⟨m7, e7, F7, h8, P7⟩ := ro m6 A6 P6
    obtain ⟨m8, e8, s8, j8, i16, i22, q81, q82, q83, l84, v8, x19, x38, x86, x90⟩ := m_anew (X := X) (b := vw m5 (Q + 8)) okψ P7 h8 (fun m' hm' => bgm_port okψ P7 hm' b1 b2 b3 b4 b5)
    obtain ⟨c0, c1, c2, c3, c4, -, -⟩ := id P7
    have S8 : Same [175, 177, 178, 179, 181, 182, 183, 184, 185, 186, 187, 188, 189, 190, 191] m5 m8 := ((s6.mono (by decide)).tr (F7.1.mono (by decide))).tr (s8.mono (by decide))
    have RM8 : RM m8 (vP m5 Q) := by
      refine ⟨by rw [z5]; exact hz, ?_, fun k hk => ?_, fun k hk => ?_, ?_⟩
      · rw [q81 0 (by decide), z5]; exact c1
      · rw [z5] at hk
        rw [q81 _ (by omega), show 30 + (2 + 4 * k) = 32 + 4 * k by omega, (c3 k hk).1]
        show _ = nr (gA m5 (Q + 6)) k
        rw [nr_lt (by omega), (p2 k hk).2]
      · rw [z5] at hk ⊢
        have e9 : (vP m5 Q).2.2.1 k = enc (ψ.2.2.2.2.1 k) := by
          show nr (gA m5 (Q + 7)) k = _
          rw [nr_lt (by omega), (p3 k (by omega)).1]
        rw [e9]
        refine ⟨by rw [q81 _ (by omega), show 30 + (2 + 4 * k + 2) = 34 + 4 * k by omega, (c4 k (by omega)).1], ?_⟩
        cases hA : ψ.2.2.2.2.1 k with
        | none => exact Or.inl rfl
        | some j =>
          obtain ⟨y1, y2⟩ := okψ.2.2.1 k j hA
          exact Or.inr ⟨j, y1, y2, rfl⟩
      · show (match vL m5 Q with
          | none => _
          | some L => _)
        unfold vL
        cases hL : ψ.2.2.2.2.2.2 with
        | none =>
          rw [hL] at p5 c2
          rw [if_pos (show gI m5 (Q + 3) 3 = 0 from p5)]
          dsimp only
          rw [q81 1 (by decide)]
          exact c2
        | some LL =>
          obtain ⟨y1, y2, y3⟩ := law LL hL
          have hlen := (okψ.2.2.2.2.1 LL hL).1
          have hmr := (okψ.2.2.2.2.1 LL hL).2.1
          have hz0 := q83 LL hL
          rw [hL] at c2 q82 p7
          rw [if_neg (show ¬ gI m5 (Q + 3) 3 = 0 by rw [y1]; decide), y2, nI_clamp (by omega)]
          dsimp only
          refine ⟨by rw [q81 1 (by decide)]; exact c2, LL.length, gA m5 (Q + 4), by omega, rfl, y3, hz0, fun k hk => ?_⟩
          have hx : LL[k]? = some LL[k] := List.getElem?_eq_getElem hk
          rw [(q82 k _ hx).1, (q82 k _ hx).2, p7 k _ hx]
          exact hmr _ (List.getElem_mem hk)
    refine ⟨0, m5, m8, ?_, ?_, ⟨Q, a, vP m5 Q, vw m5 (Q + 8), vw m5 (Q + 8), (0, C.2), (0, T.2), (0, D.2), [], (fun _ => none), (0, tp.2), ψ.2.1, CL5.same S8 (by decide), ?_, ?_⟩, g, by omega, ?_⟩
    · rw [cw 0 rfl, if_neg (fun z => z rfl)]
      exact e5
    · rw [e6, e7, e8]
    · refine ⟨⟨RM8, ?_, by rw [z5]; exact i16, fun k hk => ?_⟩, v8, ⟨x19, fun i hi => absurd hi (Nat.not_lt_zero i), x38, fun i hi => absurd hi (Nat.not_lt_zero i)⟩, ⟨x86, fun i hi => absurd hi (Nat.not_lt_zero i)⟩, ⟨i22, fun j hj => absurd hj (Nat.not_lt_zero j)⟩, fun i hi => ⟨x90 i hi, fun y hy => by cases hy⟩, ⟨?_, fun i hi => absurd hi (Nat.not_lt_zero i)⟩, M5.2.2.2.2.2.2.2.same (S8.Lr (by decide))⟩
      · rw [z5]; exact bgm_port okψ P7 q81 b1 b2 b3 b4 b5
      · rw [z5] at hk; exact l84 k hk
      · rw [j8 2 (by decide) (by decide), F7.2.1 2 (by decide) (by decide) (by decide) (by decide)]; exact g6
    · refine ⟨by omega, ?_, by rw [z5]; exact okS0, ⟨Nat.zero_le _, fun i hi => absurd hi (Nat.not_lt_zero i)⟩, ⟨Nat.zero_le _, fun i hi => absurd hi (Nat.not_lt_zero i)⟩, ⟨Nat.zero_le _, fun i hi => absurd hi (Nat.not_lt_zero i)⟩, ⟨Nat.zero_le _, fun x hx => (by cases hx)⟩, fun i y hi hy => (by cases hy), oT, fun k hk => ?_⟩
      · rw [z5]
        exact ⟨okS0.1, okS0.2.1, 0, Nat.zero_le _, b4⟩
      · rw [z5] at hk
        exact (okψ.2.1 k hk).1
    · rw [S8.1, s5.1, S4.1]; exact hgg
end KPO
