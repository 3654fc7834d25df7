/-! Products, sums, tests, an E: each out of the level below it. -/
def PartAt (X : pv_X) (tp : aT) (N M d : Nat) : Prop := ∀ n, n ≤ N → PO tp N M (1 + 4 * (5 - d)) n (fun h => pM X m_Mo_readPart [.ref M, .ref 1, .int (nI d)] h) (fun h => pM X m_Md_takePart [.ref 175, .int (nI d)] h)
def ProdAt (X : pv_X) (tp : aT) (N M d : Nat) : Prop := ∀ n, n ≤ N → PO tp N M (2 + 4 * (5 - d)) n (fun h => pM X m_Mo_readProduct [.ref M, .ref 1, .int (nI d)] h) (fun h => pM X m_Md_products [.ref 175, .int (nI d)] h)
def SumAt (X : pv_X) (tp : aT) (N M d : Nat) : Prop := ∀ n, n ≤ N → PO tp N M (3 + 4 * (5 - d)) n (fun h => pM X m_Mo_readSum [.ref M, .ref 1, .int (nI d)] h) (fun h => pM X m_Md_sums [.ref 175, .int (nI d)] h)
def TestAt (X : pv_X) (tp : aT) (N M d : Nat) : Prop := ∀ n, n ≤ N → PO tp N M (4 + 4 * (5 - d)) n (fun h => pM X m_Mo_readTest [.ref M, .ref 1, .int (nI d)] h) (fun h => pM X m_Md_test [.ref 175, .int (nI d)] h)
def TestsAt (X : pv_X) (tp : aT) (N M d : Nat) : Prop := ∀ n, n ≤ N → PO tp N M (5 + 4 * (5 - d)) n (fun h => pM X m_Mo_readTests [.ref M, .ref 1, .int (nI d)] h) (fun h => pM X m_Md_whole [.ref 175, .int (nI d)] h)
section RNK
variable {a b d : Nat}
theorem rk_part (h : d ≤ 6) : m_Mo_readPart.2.2.2.2.2 [.ref a, .ref b, .int (nI d)] = 15 + 6 * (6 - d) + 0 := by
  show 15 + 6 * (6 - (nI d).toNatClampNeg) + 0 = _
  rw [nI_clamp (by omega)]
theorem rk_prod (h : d ≤ 6) : m_Mo_readProduct.2.2.2.2.2 [.ref a, .ref b, .int (nI d)] = 15 + 6 * (6 - d) + 1 := by
  show 15 + 6 * (6 - (nI d).toNatClampNeg) + 1 = _
  rw [nI_clamp (by omega)]
theorem rk_sum (h : d ≤ 6) : m_Mo_readSum.2.2.2.2.2 [.ref a, .ref b, .int (nI d)] = 15 + 6 * (6 - d) + 2 := by
  show 15 + 6 * (6 - (nI d).toNatClampNeg) + 2 = _
  rw [nI_clamp (by omega)]
theorem rk_test (h : d ≤ 6) : m_Mo_readTest.2.2.2.2.2 [.ref a, .ref b, .int (nI d)] = 15 + 6 * (6 - d) + 3 := by
  show 15 + 6 * (6 - (nI d).toNatClampNeg) + 3 = _
  rw [nI_clamp (by omega)]
theorem rk_tests (h : d ≤ 6) : m_Mo_readTests.2.2.2.2.2 [.ref a, .ref b, .int (nI d)] = 15 + 6 * (6 - d) + 4 := by
  show 15 + 6 * (6 - (nI d).toNatClampNeg) + 4 = _
  rw [nI_clamp (by omega)]
theorem rm_part (h : d ≤ 6) : m_Md_takePart.2.2.2.2.2 [.ref a, .int (nI d)] = 3 + 6 * (6 - d) + 0 := by
  show 3 + 6 * (6 - (nI d).toNatClampNeg) + 0 = _
  rw [nI_clamp (by omega)]
theorem rm_prod (h : d ≤ 6) : m_Md_products.2.2.2.2.2 [.ref a, .int (nI d)] = 3 + 6 * (6 - d) + 1 := by
  show 3 + 6 * (6 - (nI d).toNatClampNeg) + 1 = _
  rw [nI_clamp (by omega)]
theorem rm_sum (h : d ≤ 6) : m_Md_sums.2.2.2.2.2 [.ref a, .int (nI d)] = 3 + 6 * (6 - d) + 2 := by
  show 3 + 6 * (6 - (nI d).toNatClampNeg) + 2 = _
  rw [nI_clamp (by omega)]
theorem rm_test (h : d ≤ 6) : m_Md_test.2.2.2.2.2 [.ref a, .int (nI d)] = 3 + 6 * (6 - d) + 3 := by
  show 3 + 6 * (6 - (nI d).toNatClampNeg) + 3 = _
  rw [nI_clamp (by omega)]
theorem rm_tests (h : d ≤ 6) : m_Md_whole.2.2.2.2.2 [.ref a, .int (nI d)] = 3 + 6 * (6 - d) + 4 := by
  show 3 + 6 * (6 - (nI d).toNatClampNeg) + 4 = _
  rw [nI_clamp (by omega)]
end RNK
section GAT
variable {r : Nat} {as : List Value}
theorem gt_isWord (h : 14 < r) : m_Tp_isWord.2.2.2.2.2 as < r := by show 13 < r; omega
theorem gt_isSign (h : 14 < r) : m_Tp_isSign.2.2.2.2.2 as < r := by show 1 < r; omega
theorem gt_adv (h : 14 < r) : m_Tp_advance.2.2.2.2.2 as < r := by show 13 < r; omega
theorem gt_put (h : 14 < r) : m_Mo_put.2.2.2.2.2 as < r := by show 1 < r; omega
theorem gt_fact (h : 14 < r) : m_Mo_factOf.2.2.2.2.2 as < r := by show 14 < r; omega
theorem gt_isNum (h : 14 < r) : m_Tp_isNumber.2.2.2.2.2 as < r := by show 1 < r; omega
theorem gt_ref (h : 14 < r) : m_Tp_refuse.2.2.2.2.2 as < r := by show 1 < r; omega
theorem gt_take (h : 14 < r) : m_Tp_takeSign.2.2.2.2.2 as < r := by show 14 < r; omega
theorem gm_isSign (h : 2 < r) : m_Md_isSign.2.2.2.2.2 as < r := by show 1 < r; omega
theorem gm_isWord (h : 2 < r) : m_Md_isWord.2.2.2.2.2 as < r := by show 1 < r; omega
theorem gm_wrong (h : 2 < r) : m_Md_wrong.2.2.2.2.2 as < r := by show 1 < r; omega
theorem gm_hasSign (h : 2 < r) : m_Md_hasSign.2.2.2.2.2 as < r := by show 2 < r; omega
theorem gm_hasWord (h : 2 < r) : m_Md_hasWord.2.2.2.2.2 as < r := by show 2 < r; omega
theorem gm_emit (h : 2 < r) : m_Md_emit.2.2.2.2.2 as < r := by show 1 < r; omega
theorem gm_wordHere (h : 2 < r) : m_Md_wordHere.2.2.2.2.2 as < r := by show 2 < r; omega
theorem gm_takeSign (h : 2 < r) : m_Md_takeSign.2.2.2.2.2 as < r := by show 2 < r; omega
end GAT
theorem FB.cat {N n n1 n2 e2 : Nat} {L1 L2 : List aJ3} {e1 : Nat} (h1 : FB N n n1 e1 L1) (h2 : FB N n1 n2 e2 L2) : FB N n n2 e2 (L1 ++ L2) := by
  obtain ⟨a1, a2, a3, a4, a5⟩ := h1
  obtain ⟨b1, b2, b3, b4, b5⟩ := h2
  refine ⟨by omega, b2, by rw [List.length_append]; omega, b4, fun x hx => ?_⟩
  rcases List.mem_append.mp hx with hx | hx
  · exact a5 x hx
  · exact b5 x hx
theorem FB.jn {N n n1 e1 : Nat} {L1 : List aJ3} {s o : Int32} (hJ : mrJ s o) (h1 : FB N (n + 1) n1 e1 L1) : FB N n n1 e1 (L1 ++ [(s, o, 0)]) := by
  obtain ⟨a1, a2, a3, a4, a5⟩ := h1
  refine ⟨by omega, a2, by rw [List.length_append, List.length_singleton]; omega, a4, fun x hx => ?_⟩
  rcases List.mem_append.mp hx with hx | hx
  · exact a5 x hx
  · rw [List.mem_singleton.mp hx]; exact mr_join hJ
theorem FB.nil {N n : Nat} (hn : n ≤ N) : FB N n n 0 [] := ⟨Nat.le_refl _, hn, Nat.le_refl _, by decide, fun x hx => by cases hx⟩
section LPS
variable {X : pv_X} {tp : aT} {N M d : Nat}

theorem prod10_0 {r a b : Nat} {v2 v4 : Int32} {h : pv_H} : f_Mo_readProduct_10 X r a b v2 0 v4 h = some (some (.int 0), h) := by
  rw [u_Mo_readProduct_10]
  simp only [eq_self, if_true, ite_self, u_Mo_readProduct_54, true_or]
theorem prod_loop {rc rr : Nat} (T : TK tp N) (hM : isMo M) (h3 : 3 ≤ M) (hP : PartAt X tp N M d) (gc : 14 < rc) (gr : 2 < rr) (gp : m_Mo_readPart.2.2.2.2.2 [.ref M, .ref 1, .int (nI d)] < rc) (gq : m_Md_takePart.2.2.2.2.2 [.ref 175, .int (nI d)] < rr) : ∀ q n, n + q = N → ∃ n' e L, FL N (2 + 4 * (5 - d)) n n' e L ∧ (∀ i, i ≤ n → CD tp M n n' e L (fun h => f_Mo_readProduct_10 X rc M 1 (nI d) 1 (nI i) h)) ∧ RD tp N n n' e L (fun h => f_Md_products_5 X rr 175 (nI d) h) := by
  have ok := T.1
  have h1000 := T.2.1
  have hJ : mrJ (-12) 6 := Or.inr (Or.inr (Or.inl ⟨rfl, rfl⟩))
  intro q
  induction q using Nat.strongRecOn with
  | ind q ih =>
    intro n hn
    cases hg : isG tp (ps tp n) 42 with
    | false =>
      refine ⟨n, 0, [], ⟨FB.nil (by omega), fun _ b _ => by simp only [dpL]⟩, fun i hi m k hA h4 hk hkn => ⟨m, ?_, CR.rf hA h4 hk⟩, fun m k hA hk hkn => ⟨m, ?_, RR.rf hA.2.2.1 hA.2.2.2.2 hk⟩⟩
      · dsimp only
        rw [u_Mo_readProduct_10]
        simp only [tIs, tVs, bs, if_true, true_or, or_true, i10, if_false, not_false_eq_true, not_true_eq_false, gt_isSign gc, Tp_rc, w_isSign (X := X) (c := 42) (vc := 42) rfl (by decide) hA.1 ok (ps_le n) hA.2, hg, bI_f, u_Mo_readProduct_54, ite_self, eq_self, rb_0]
      · dsimp only
        rw [u_Md_products_5]
        simp only [tIs, tVs, bs, if_true, true_or, or_true, i10, if_false, not_false_eq_true, not_true_eq_false, Md_rc, Md_f1, Md_f4, Md_f5, Md_f6, Md_f9, Md_f10, Md_f11, Md_f12, Md_f14, Md_f15, Md_f18, Md_f19, Md_f20, Md_f21, Md_f23, Md_f24, Md_f25, Md_f26, Md_f28, gm_hasSign gr, m_hasSign0 (X := X) (c := 42) (vc := 42) rfl (by decide) ok hA hg, eq_self]
    | true =>
      have hnN : n < N := T.lt (by omega) (by rw [isG_s hg]; decide)
      obtain ⟨n1, e1, L1, f1, c1, r1⟩ := hP (n + 1) hnN
      have f1b := f1.1
      by_cases he : e1 = 0
      · subst he
        obtain ⟨p1, p2⟩ := f1.2 rfl
        obtain ⟨n2, e2, L2, f2, c2, r2⟩ := ih (N - n1) (by have := f1b.2.1; omega) n1 (by have := f1b.2.1; omega)
        refine ⟨n2, e2, (L1 ++ [(-12, 6, 0)]) ++ L2, ⟨(FB.jn hJ f1b).cat f2.1, fun h0 b hb => ?_⟩, fun i hi m k hA h4 hk hkn => ?_, fun m k hA hk hkn => ?_⟩
        · rw [dpL_app, dpL_join hJ (p2 (b + 1) (by omega))]
          simp only [bs]
          exact f2.2 h0 b hb
        · obtain ⟨m1, a1, b1, b2, b3, b4⟩ := c_adv (X := X) ok h3 hA h4 hk
          obtain ⟨m2, a2, d2⟩ := c1 m1 k b1 b2 b3 (by omega)
          have l1 := f1b.2.2.1
          have l2 := f1b.2.1
          have a3 := w_put (X := X) (v := -12) hM d2.sz (by omega)
          have d3 : CR tp M m2 (k + L1.length) _ n1 0 [(-12, 6, 0)] := CR.put (v := -12) rfl h3 d2.ca d2.f4 d2.sz
          obtain ⟨m4, a4, d4⟩ := c2 (i + 1) (by omega) _ (k + L1.length + 1) d3.ca d3.f4 d3.sz (by omega)
          refine ⟨m4, ?_, ((b4 _ _ _ _ d2).tr d3).tr ?_⟩
          · dsimp only at a2 a4 ⊢
            rw [u_Mo_readProduct_10, if_neg (show ¬ (1000 : Int32) ≤ nI i from nI_ge (b := 1000) (by omega) (by decide))]
            simp only [tIs, tVs, bs, if_true, true_or, or_true, i10, if_false, not_false_eq_true, not_true_eq_false, gt_isSign gc, Tp_rc, w_isSign (X := X) (c := 42) (vc := 42) rfl (by decide) hA.1 ok (ps_le n) hA.2, hg, bI_t, gt_adv gc, a1, gp, Mo_rc hM, a2, rb_0, gt_put gc, a3, nI_1]
            exact a4
          · rw [List.length_append, List.length_singleton, ← Nat.add_assoc]
            exact d4
        · obtain ⟨b1, b2, b3⟩ := r_nx hA hnN hk
          obtain ⟨m2, a2, d2⟩ := r1 _ k b1 b2 (by omega)
          have l1 := f1b.2.2.1
          have l2 := f1b.2.1
          have a3 := m_emit (X := X) (o := 6) (a := 0) d2.sz (by omega)
          have d3 : RR m2 (k + L1.length) _ n1 0 [(-12, 6, 0)] := RR.put (o := 6) (a := 0) rfl rfl d2.f7 d2.f8
          have A3 : MAt (em m2 (k + L1.length) 6 0) tp N n1 := d3.mat (d2.mat b1 l2) l2
          obtain ⟨m4, a4, d4⟩ := r2 _ (k + L1.length + 1) A3 d3.sz (by omega)
          refine ⟨m4, ?_, ((b3 _ _ _ _ d2).tr d3).tr ?_⟩
          · dsimp only at a2 a4 ⊢
            rw [u_Md_products_5]
            simp only [tIs, tVs, bs, if_true, true_or, or_true, i10, if_false, not_false_eq_true, not_true_eq_false, Md_rc, Md_f1, Md_f4, Md_f5, Md_f6, Md_f9, Md_f10, Md_f11, Md_f12, Md_f14, Md_f15, Md_f18, Md_f19, Md_f20, Md_f21, Md_f23, Md_f24, Md_f25, Md_f26, Md_f28, gm_hasSign gr, m_hasSign1 (X := X) (c := 42) (vc := 42) rfl (by decide) ok hA hg, gq, a2, gm_emit gr, a3]
            exact a4
          · rw [List.length_append, List.length_singleton, ← Nat.add_assoc]
            exact d4
      · refine ⟨n1, e1, L1 ++ [(-12, 6, 0)], ⟨FB.jn hJ f1b, fun h0 => absurd h0 he⟩, fun i hi m k hA h4 hk hkn => ?_, fun m k hA hk hkn => ?_⟩
        · obtain ⟨m1, a1, b1, b2, b3, b4⟩ := c_adv (X := X) ok h3 hA h4 hk
          obtain ⟨m2, a2, d2⟩ := c1 m1 k b1 b2 b3 (by omega)
          have l1 := f1b.2.2.1
          have l2 := f1b.2.1
          have a3 := w_put (X := X) (v := -12) hM d2.sz (by omega)
          have d3 : CR tp M m2 (k + L1.length) _ n1 e1 [(-12, 6, 0)] := CR.put (v := -12) rfl h3 d2.ca d2.f4 d2.sz
          refine ⟨_, ?_, (b4 _ _ _ _ d2).tr d3⟩
          dsimp only at a2 ⊢
          rw [u_Mo_readProduct_10, if_neg (show ¬ (1000 : Int32) ≤ nI i from nI_ge (b := 1000) (by omega) (by decide))]
          simp only [tIs, tVs, bs, if_true, true_or, or_true, i10, if_false, not_false_eq_true, not_true_eq_false, gt_isSign gc, Tp_rc, w_isSign (X := X) (c := 42) (vc := 42) rfl (by decide) hA.1 ok (ps_le n) hA.2, hg, bI_t, gt_adv gc, a1, gp, Mo_rc hM, a2, rb_n he, gt_put gc, a3, prod10_0]
        · obtain ⟨b1, b2, b3⟩ := r_nx hA hnN hk
          obtain ⟨m2, a2, d2⟩ := r1 _ k b1 b2 (by omega)
          have l1 := f1b.2.2.1
          have l2 := f1b.2.1
          have l4 := f1b.2.2.2.1
          have a3 := m_emit (X := X) (o := 6) (a := 0) d2.sz (by omega)
          have d3 : RR m2 (k + L1.length) _ n1 e1 [(-12, 6, 0)] := RR.put (o := 6) (a := 0) rfl rfl d2.f7 d2.f8
          refine ⟨_, ?_, (b3 _ _ _ _ d2).tr d3⟩
          dsimp only at a2 ⊢
          rw [u_Md_products_5]
          simp only [tIs, tVs, bs, if_true, true_or, or_true, i10, if_false, not_false_eq_true, not_true_eq_false, Md_rc, Md_f1, Md_f4, Md_f5, Md_f6, Md_f9, Md_f10, Md_f11, Md_f12, Md_f14, Md_f15, Md_f18, Md_f19, Md_f20, Md_f21, Md_f23, Md_f24, Md_f25, Md_f26, Md_f28, gm_hasSign gr, m_hasSign1 (X := X) (c := 42) (vc := 42) rfl (by decide) ok hA hg, gq, a2, gm_emit gr, a3]
          rw [u_Md_products_5]
          simp only [tIs, tVs, bs, if_true, true_or, or_true, i10, if_false, not_false_eq_true, not_true_eq_false, Md_rc, Md_f1, Md_f4, Md_f5, Md_f6, Md_f9, Md_f10, Md_f11, Md_f12, Md_f14, Md_f15, Md_f18, Md_f19, Md_f20, Md_f21, Md_f23, Md_f24, Md_f25, Md_f26, Md_f28, gm_hasSign gr, x_hasSign (X := X) (v := 42) d3.f8 (by omega) (by omega), eq_self]
theorem prod_at (T : TK tp N) (hM : isMo M) (h3 : 3 ≤ M) (hd : d ≤ 5) (hP : PartAt X tp N M d) : ProdAt X tp N M d := by
  intro n hn
  have k1 := rk_prod (a := M) (b := 1) (d := d) (by omega)
  have k2 := rk_part (a := M) (b := 1) (d := d) (by omega)
  have k3 := rm_prod (a := 175) (d := d) (by omega)
  have k4 := rm_part (a := 175) (d := d) (by omega)
  have gp : m_Mo_readPart.2.2.2.2.2 [.ref M, .ref 1, .int (nI d)] < m_Mo_readProduct.2.2.2.2.2 [.ref M, .ref 1, .int (nI d)] := by omega
  have gq : m_Md_takePart.2.2.2.2.2 [.ref 175, .int (nI d)] < m_Md_products.2.2.2.2.2 [.ref 175, .int (nI d)] := by omega
  have gc : 14 < m_Mo_readProduct.2.2.2.2.2 [.ref M, .ref 1, .int (nI d)] := by omega
  have gr : 2 < m_Md_products.2.2.2.2.2 [.ref 175, .int (nI d)] := by omega
  obtain ⟨n1, e1, L1, f1, c1, r1⟩ := hP n hn
  have f1b := f1.1
  have l1 := f1b.2.2.1
  have l2 := f1b.2.1
  have l4 := f1b.2.2.2.1
  by_cases he : e1 = 0
  · subst he
    obtain ⟨p1, p2⟩ := f1.2 rfl
    obtain ⟨n2, e2, L2, f2, c2, r2⟩ := prod_loop T hM h3 hP gc gr gp gq (N - n1) n1 (by omega)
    refine ⟨n2, e2, L1 ++ L2, ⟨f1b.cat f2.1, fun h0 => ⟨by have := f2.1.1; omega, fun b hb => ?_⟩⟩, fun m k hA h4 hk hkn => ?_, fun m k hA hk hkn => ?_⟩
    · rw [dpL_app, p2 b (by omega)]
      simp only [bs]
      exact f2.2 h0 b hb
    · obtain ⟨m2, a2, d2⟩ := c1 m k hA h4 hk hkn
      obtain ⟨m4, a4, d4⟩ := c2 0 (by omega) _ (k + L1.length) d2.ca d2.f4 d2.sz (by omega)
      refine ⟨m4, ?_, d2.tr d4⟩
      dsimp only at a2 a4 ⊢
      rw [e_Mo_readProduct, u_Mo_readProduct_0]
      simp only [tIs, tVs, bs, if_true, true_or, or_true, i10, if_false, not_false_eq_true, not_true_eq_false, gp, Mo_rc hM, a2, rb_0]
      exact a4
    · obtain ⟨m2, a2, d2⟩ := r1 m k hA hk hkn
      obtain ⟨m4, a4, d4⟩ := r2 _ (k + L1.length) (d2.mat hA l2) d2.sz (by omega)
      refine ⟨m4, ?_, d2.tr d4⟩
      dsimp only at a2 a4 ⊢
      rw [e_Md_products, u_Md_products_0]
      simp only [tIs, tVs, bs, if_true, true_or, or_true, i10, if_false, not_false_eq_true, not_true_eq_false, Md_rc, Md_f1, Md_f4, Md_f5, Md_f6, Md_f9, Md_f10, Md_f11, Md_f12, Md_f14, Md_f15, Md_f18, Md_f19, Md_f20, Md_f21, Md_f23, Md_f24, Md_f25, Md_f26, Md_f28, gq, a2]
      exact a4
  · refine ⟨n1, e1, L1, ⟨f1b, fun h0 => absurd h0 he⟩, fun m k hA h4 hk hkn => ?_, fun m k hA hk hkn => ?_⟩
    · obtain ⟨m2, a2, d2⟩ := c1 m k hA h4 hk hkn
      refine ⟨m2, ?_, d2⟩
      dsimp only at a2 ⊢
      rw [e_Mo_readProduct, u_Mo_readProduct_0]
      simp only [tIs, tVs, bs, if_true, true_or, or_true, i10, if_false, not_false_eq_true, not_true_eq_false, gp, Mo_rc hM, a2, rb_n he, prod10_0]
    · obtain ⟨m2, a2, d2⟩ := r1 m k hA hk hkn
      refine ⟨m2, ?_, d2⟩
      dsimp only at a2 ⊢
      rw [e_Md_products, u_Md_products_0]
      simp only [tIs, tVs, bs, if_true, true_or, or_true, i10, if_false, not_false_eq_true, not_true_eq_false, Md_rc, Md_f1, Md_f4, Md_f5, Md_f6, Md_f9, Md_f10, Md_f11, Md_f12, Md_f14, Md_f15, Md_f18, Md_f19, Md_f20, Md_f21, Md_f23, Md_f24, Md_f25, Md_f26, Md_f28, gq, a2]
      rw [u_Md_products_5]
      simp only [tIs, tVs, bs, if_true, true_or, or_true, i10, if_false, not_false_eq_true, not_true_eq_false, Md_rc, Md_f1, Md_f4, Md_f5, Md_f6, Md_f9, Md_f10, Md_f11, Md_f12, Md_f14, Md_f15, Md_f18, Md_f19, Md_f20, Md_f21, Md_f23, Md_f24, Md_f25, Md_f26, Md_f28, gm_hasSign gr, x_hasSign (X := X) (v := 42) d2.f8 (by omega) (by omega), eq_self]

theorem m_isW {m : pm_M} {n k j : Nat} {vk : Int32} (hvk : vk = nI k) (hk : k < 20) (hj : wdv.getD k [] = tx j) (hA : MAt m tp N n) : pM X m_Md_isWord [.ref 175, .int vk] (hp m) = some (some (.int (bI (isW tp (ps tp n) (tx j)))), hp m) := by
  rw [← hj]
  exact m_isWord hvk hk hA

theorem sum42_0 {r a b : Nat} {v2 v4 v5 : Int32} {h : pv_H} : f_Mo_readSum_42 X r a b v2 0 v4 v5 h = some (some (.int 0), h) := by
  rw [u_Mo_readSum_42]
  simp only [eq_self, if_true, ite_self, u_Mo_readSum_116, true_or]
/-- the join at a token -/
def joS (tp : aT) (i : Nat) : Int32 := if isG tp i 43 = true then (-10) else if isG tp i 45 = true then (-11) else (-13)
theorem sum_loop {rc rr : Nat} (T : TK tp N) (hM : isMo M) (h3 : 3 ≤ M) (hP : ProdAt X tp N M d) (gc : 14 < rc) (gr : 2 < rr) (gp : m_Mo_readProduct.2.2.2.2.2 [.ref M, .ref 1, .int (nI d)] < rc) (gq : m_Md_products.2.2.2.2.2 [.ref 175, .int (nI d)] < rr) : ∀ q n, n + q = N → ∃ n' e L, FL N (3 + 4 * (5 - d)) n n' e L ∧ (∀ i, i ≤ n → CD tp M n n' e L (fun h => f_Mo_readSum_42 X rc M 1 (nI d) 1 (joS tp (ps tp n)) (nI i) h)) ∧ (∀ o2, RD tp N n n' e L (fun h => f_Md_sums_5 X rr 175 (nI d) o2 h)) := by
  have ok := T.1
  have h1000 := T.2.1
  have JA : mrJ (-10) 4 := by unfold mrJ; decide
  have JB : mrJ (-11) 5 := by unfold mrJ; decide
  intro q
  induction q using Nat.strongRecOn with
  | ind q ih =>
    intro n hn
    have key : ∀ s o : Int32, mrJ s o → joS tp (ps tp n) = s → n < N → (∀ m o2, MAt m tp N n → f_Md_sums_5 X rr 175 (nI d) o2 (hp m) = (pv_tV (pM X m_Md_products [.ref 175, .int (nI d)] (hp (sI m 175 7 (nI (n + 1)))))).bind (fun h4 => f_Md_sums_55 X rr 175 (nI d) (bI (isG tp (ps tp n) 43)) o 175 h4)) → ∃ n' e L, FL N (3 + 4 * (5 - d)) n n' e L ∧ (∀ i, i ≤ n → CD tp M n n' e L (fun h => f_Mo_readSum_42 X rc M 1 (nI d) 1 (joS tp (ps tp n)) (nI i) h)) ∧ (∀ o2, RD tp N n n' e L (fun h => f_Md_sums_5 X rr 175 (nI d) o2 h)) := by
      intro s o hJ hs hnN hR
      have s13 : ¬ s = -13 := fun z => by subst z; rcases hJ with ⟨_, h⟩ | ⟨_, h⟩ | ⟨_, h⟩ | ⟨_, h⟩ | ⟨_, h⟩ | ⟨_, h⟩ | ⟨_, h⟩ <;> exact absurd h (by decide)
      rw [hs]
      obtain ⟨n1, e1, L1, f1, c1, r1⟩ := hP (n + 1) hnN
      have f1b := f1.1
      have l1 := f1b.2.2.1
      have l2 := f1b.2.1
      have l4 := f1b.2.2.2.1
      have cstep : ∀ i, i ≤ n → ∀ m k, CA m tp n → gI m 1 4 = 0 → gI m M 2 = nI k → k ≤ n → ∃ m3, f_Mo_readSum_42 X rc M 1 (nI d) 1 s (nI i) (hp m) = f_Mo_readSum_42 X rc M 1 (nI d) (rb e1) (joS tp (ps tp n1)) (nI (i + 1)) (hp m3) ∧ CR tp M m k m3 n1 e1 (L1 ++ [(s, o, 0)]) := by
        intro i hi m k hA h4 hk hkn
        obtain ⟨m1, a1, b1, b2, b3, b4⟩ := c_adv (X := X) ok h3 hA h4 hk
        obtain ⟨m2, a2, d2⟩ := c1 m1 k b1 b2 b3 (by omega)
        have a3 := w_put (X := X) (v := s) hM d2.sz (by omega)
        have d3 : CR tp M m2 (k + L1.length) _ n1 e1 [(s, o, 0)] := CR.put (v := s) rfl h3 d2.ca d2.f4 d2.sz
        refine ⟨_, ?_, (b4 _ _ _ _ d2).tr d3⟩
        dsimp only at a2
        rw [u_Mo_readSum_42, if_neg (show ¬ (1000 : Int32) ≤ nI i from nI_ge (b := 1000) (by omega) (by decide)), if_neg (show ¬ (1 : Int32) = 0 by decide), if_neg s13]
        simp only [tIs, tVs, bs, if_true, true_or, or_true, i10, if_false, not_false_eq_true, not_true_eq_false, Tp_rc, gt_adv gc, a1, gp, Mo_rc hM, a2, gt_put gc, a3, gt_isSign gc, w_isSign (X := X) (c := 43) (vc := 43) rfl (by decide) d3.ca.1 ok (ps_le n1) d3.ca.2, w_isSign (X := X) (c := 45) (vc := 45) rfl (by decide) d3.ca.1 ok (ps_le n1) d3.ca.2, u_Mo_readSum_108, nI_1]
        unfold joS
        cases isG tp (ps tp n1) 43 with
        | true => simp only [bI_t, i10, if_false, if_true, eq_self]
        | false =>
          cases isG tp (ps tp n1) 45 with
          | true => simp only [bI_t, bI_f, i10, if_false, if_true, eq_self, Bool.false_eq_true]
          | false => simp only [bI_f, if_false, if_true, eq_self, Bool.false_eq_true]
      have rstep : ∀ o2 m k, MAt m tp N n → gI m 175 13 = nI k → k ≤ n → ∃ m3, f_Md_sums_5 X rr 175 (nI d) o2 (hp m) = f_Md_sums_5 X rr 175 (nI d) (some (.int (bI (isG tp (ps tp n) 43)))) (hp m3) ∧ RR m k m3 n1 e1 (L1 ++ [(s, o, 0)]) ∧ (e1 = 0 → MAt m3 tp N n1) := by
        intro o2 m k hA hk hkn
        obtain ⟨b1, b2, b3⟩ := r_nx hA hnN hk
        obtain ⟨m2, a2, d2⟩ := r1 _ k b1 b2 (by omega)
        have a3 := m_emit (X := X) (o := o) (a := 0) d2.sz (by omega)
        have d3 : RR m2 (k + L1.length) _ n1 e1 [(s, o, 0)] := RR.put (o := o) (a := 0) rfl rfl d2.f7 d2.f8
        refine ⟨_, ?_, (b3 _ _ _ _ d2).tr d3, fun h0 => ?_⟩
        · dsimp only at a2
          rw [hR m o2 hA, a2]
          simp only [tIs, tVs, bs, if_true, true_or, or_true, i10, if_false, not_false_eq_true, not_true_eq_false, Md_rc, Md_f1, Md_f4, Md_f5, Md_f6, Md_f9, Md_f10, Md_f11, Md_f12, Md_f14, Md_f15, Md_f18, Md_f19, Md_f20, Md_f21, Md_f23, Md_f24, Md_f25, Md_f26, Md_f28, u_Md_sums_55, gm_emit gr, a3]
        · subst h0
          exact d3.mat (d2.mat b1 l2) l2
      by_cases he : e1 = 0
      · subst he
        obtain ⟨p1, p2⟩ := f1.2 rfl
        obtain ⟨n2, e2, L2, f2, c2, r2⟩ := ih (N - n1) (by omega) n1 (by omega)
        refine ⟨n2, e2, (L1 ++ [(s, o, 0)]) ++ L2, ⟨(FB.jn hJ f1b).cat f2.1, fun h0 b hb => ?_⟩, fun i hi m k hA h4 hk hkn => ?_, fun o2 m k hA hk hkn => ?_⟩
        · rw [dpL_app, dpL_join hJ (p2 (b + 1) (by omega))]
          simp only [bs]
          exact f2.2 h0 b hb
        · obtain ⟨m3, a3, d3⟩ := cstep i hi m k hA h4 hk hkn
          obtain ⟨m4, a4, d4⟩ := c2 (i + 1) (by omega) m3 _ d3.ca d3.f4 d3.sz (by rw [List.length_append, List.length_singleton]; omega)
          dsimp only at a4
          exact ⟨m4, a3.trans a4, d3.tr d4⟩
        · obtain ⟨m3, a3, d3, A3⟩ := rstep o2 m k hA hk hkn
          obtain ⟨m4, a4, d4⟩ := r2 _ m3 _ (A3 rfl) d3.sz (by rw [List.length_append, List.length_singleton]; omega)
          dsimp only at a4
          exact ⟨m4, a3.trans a4, d3.tr d4⟩
      · refine ⟨n1, e1, L1 ++ [(s, o, 0)], ⟨FB.jn hJ f1b, fun h0 => absurd h0 he⟩, fun i hi m k hA h4 hk hkn => ?_, fun o2 m k hA hk hkn => ?_⟩
        · obtain ⟨m3, a3, d3⟩ := cstep i hi m k hA h4 hk hkn
          refine ⟨m3, ?_, d3⟩
          dsimp only
          rw [a3, rb_n he, sum42_0]
        · obtain ⟨m3, a3, d3, -⟩ := rstep o2 m k hA hk hkn
          refine ⟨m3, ?_, d3⟩
          dsimp only
          rw [a3, u_Md_sums_5]
          simp only [tIs, tVs, bs, if_true, true_or, or_true, i10, if_false, not_false_eq_true, not_true_eq_false, Md_rc, Md_f1, Md_f4, Md_f5, Md_f6, Md_f9, Md_f10, Md_f11, Md_f12, Md_f14, Md_f15, Md_f18, Md_f19, Md_f20, Md_f21, Md_f23, Md_f24, Md_f25, Md_f26, Md_f28, gm_isSign gr, x_isSign (X := X) (v := 43) d3.f8 (by omega) (by omega), x_isSign (X := X) (v := 45) d3.f8 (by omega) (by omega), eq_self]
    cases hA1 : isG tp (ps tp n) 43 with
    | true =>
      refine key (-10) 4 JA (by unfold joS; rw [if_pos hA1]) (T.lt (by omega) (by rw [isG_s hA1]; decide)) (fun m o2 hA => ?_)
      rw [u_Md_sums_5]
      simp only [tIs, tVs, bs, if_true, true_or, or_true, i10, if_false, not_false_eq_true, not_true_eq_false, Md_rc, Md_f1, Md_f4, Md_f5, Md_f6, Md_f9, Md_f10, Md_f11, Md_f12, Md_f14, Md_f15, Md_f18, Md_f19, Md_f20, Md_f21, Md_f23, Md_f24, Md_f25, Md_f26, Md_f28, gm_isSign gr, m_isSign (X := X) (c := 43) (vc := 43) rfl (by decide) ok hA, hA1, bI_t, u_Md_sums_23, Md_f7, hA.2.2.1, nI_1, Md_p7, gq]
    | false =>
      cases hB1 : isG tp (ps tp n) 45 with
      | true =>
        refine key (-11) 5 JB (by unfold joS; rw [if_neg (by rw [hA1]; decide), if_pos hB1]) (T.lt (by omega) (by rw [isG_s hB1]; decide)) (fun m o2 hA => ?_)
        rw [u_Md_sums_5]
        simp only [tIs, tVs, bs, if_true, true_or, or_true, i10, if_false, not_false_eq_true, not_true_eq_false, Md_rc, Md_f1, Md_f4, Md_f5, Md_f6, Md_f9, Md_f10, Md_f11, Md_f12, Md_f14, Md_f15, Md_f18, Md_f19, Md_f20, Md_f21, Md_f23, Md_f24, Md_f25, Md_f26, Md_f28, gm_isSign gr, m_isSign (X := X) (c := 43) (vc := 43) rfl (by decide) ok hA, m_isSign (X := X) (c := 45) (vc := 45) rfl (by decide) ok hA, hA1, hB1, bI_t, bI_f, eq_self, u_Md_sums_23, Md_f7, hA.2.2.1, nI_1, Md_p7, gq]
      | false =>
        have ej : joS tp (ps tp n) = -13 := by unfold joS; rw [if_neg (by rw [hA1]; decide), if_neg (by rw [hB1]; decide)]
        rw [ej]
        refine ⟨n, 0, [], ⟨FB.nil (by omega), fun _ b _ => by simp only [dpL]⟩, fun i hi m k hA h4 hk hkn => ⟨m, ?_, CR.rf hA h4 hk⟩, fun o2 m k hA hk hkn => ⟨m, ?_, RR.rf hA.2.2.1 hA.2.2.2.2 hk⟩⟩
        · dsimp only
          rw [u_Mo_readSum_42]
          simp only [tIs, tVs, bs, if_true, true_or, or_true, i10, if_false, not_false_eq_true, not_true_eq_false, u_Mo_readSum_116, ite_self, eq_self, rb_0]
        · dsimp only
          rw [u_Md_sums_5]
          simp only [tIs, tVs, bs, if_true, true_or, or_true, i10, if_false, not_false_eq_true, not_true_eq_false, Md_rc, Md_f1, Md_f4, Md_f5, Md_f6, Md_f9, Md_f10, Md_f11, Md_f12, Md_f14, Md_f15, Md_f18, Md_f19, Md_f20, Md_f21, Md_f23, Md_f24, Md_f25, Md_f26, Md_f28, gm_isSign gr, m_isSign (X := X) (c := 43) (vc := 43) rfl (by decide) ok hA, m_isSign (X := X) (c := 45) (vc := 45) rfl (by decide) ok hA, hA1, hB1, bI_f, eq_self]
theorem sum_at (T : TK tp N) (hM : isMo M) (h3 : 3 ≤ M) (hd : d ≤ 5) (hP : ProdAt X tp N M d) : SumAt X tp N M d := by
  have ok := T.1
  intro n hn
  have k1 := rk_sum (a := M) (b := 1) (d := d) (by omega)
  have k2 := rk_prod (a := M) (b := 1) (d := d) (by omega)
  have k3 := rm_sum (a := 175) (d := d) (by omega)
  have k4 := rm_prod (a := 175) (d := d) (by omega)
  have gp : m_Mo_readProduct.2.2.2.2.2 [.ref M, .ref 1, .int (nI d)] < m_Mo_readSum.2.2.2.2.2 [.ref M, .ref 1, .int (nI d)] := by omega
  have gq : m_Md_products.2.2.2.2.2 [.ref 175, .int (nI d)] < m_Md_sums.2.2.2.2.2 [.ref 175, .int (nI d)] := by omega
  have gc : 14 < m_Mo_readSum.2.2.2.2.2 [.ref M, .ref 1, .int (nI d)] := by omega
  have gr : 2 < m_Md_sums.2.2.2.2.2 [.ref 175, .int (nI d)] := by omega
  obtain ⟨n1, e1, L1, f1, c1, r1⟩ := hP n hn
  have f1b := f1.1
  have l1 := f1b.2.2.1
  have l2 := f1b.2.1
  have l4 := f1b.2.2.2.1
  have cstep : ∀ m k, CA m tp n → gI m 1 4 = 0 → gI m M 2 = nI k → k ≤ n → ∃ m3, pM X m_Mo_readSum [.ref M, .ref 1, .int (nI d)] (hp m) = f_Mo_readSum_42 X (m_Mo_readSum.2.2.2.2.2 [.ref M, .ref 1, .int (nI d)]) M 1 (nI d) (rb e1) (joS tp (ps tp n1)) (nI 0) (hp m3) ∧ CR tp M m k m3 n1 e1 L1 := by
    intro m k hA h4 hk hkn
    obtain ⟨m2, a2, d2⟩ := c1 m k hA h4 hk hkn
    refine ⟨m2, ?_, d2⟩
    dsimp only at a2
    rw [e_Mo_readSum, u_Mo_readSum_0]
    simp only [tIs, tVs, bs, if_true, true_or, or_true, i10, if_false, not_false_eq_true, not_true_eq_false, Tp_rc, gp, Mo_rc hM, a2, gt_isSign gc, w_isSign (X := X) (c := 43) (vc := 43) rfl (by decide) d2.ca.1 ok (ps_le n1) d2.ca.2, w_isSign (X := X) (c := 45) (vc := 45) rfl (by decide) d2.ca.1 ok (ps_le n1) d2.ca.2, u_Mo_readSum_37]
    unfold joS
    cases isG tp (ps tp n1) 43 with
    | true => simp only [bI_t, i10, if_false, if_true, eq_self, nI_0]
    | false =>
      cases isG tp (ps tp n1) 45 with
      | true => simp only [bI_t, bI_f, i10, if_false, if_true, eq_self, Bool.false_eq_true, nI_0]
      | false => simp only [bI_f, if_false, if_true, eq_self, Bool.false_eq_true, nI_0]
  by_cases he : e1 = 0
  · subst he
    obtain ⟨p1, p2⟩ := f1.2 rfl
    obtain ⟨n2, e2, L2, f2, c2, r2⟩ := sum_loop T hM h3 hP gc gr gp gq (N - n1) n1 (by omega)
    refine ⟨n2, e2, L1 ++ L2, ⟨f1b.cat f2.1, fun h0 => ⟨by have := f2.1.1; omega, fun b hb => ?_⟩⟩, fun m k hA h4 hk hkn => ?_, fun m k hA hk hkn => ?_⟩
    · rw [dpL_app, p2 b (by omega)]
      simp only [bs]
      exact f2.2 h0 b hb
    · obtain ⟨m3, a3, d3⟩ := cstep m k hA h4 hk hkn
      obtain ⟨m4, a4, d4⟩ := c2 0 (by omega) m3 (k + L1.length) d3.ca d3.f4 d3.sz (by omega)
      dsimp only at a4
      exact ⟨m4, a3.trans a4, d3.tr d4⟩
    · obtain ⟨m2, a2, d2⟩ := r1 m k hA hk hkn
      obtain ⟨m4, a4, d4⟩ := r2 none _ (k + L1.length) (d2.mat hA l2) d2.sz (by omega)
      refine ⟨m4, ?_, d2.tr d4⟩
      dsimp only at a2 a4 ⊢
      rw [e_Md_sums, u_Md_sums_0]
      simp only [tIs, tVs, bs, if_true, true_or, or_true, i10, if_false, not_false_eq_true, not_true_eq_false, Md_rc, Md_f1, Md_f4, Md_f5, Md_f6, Md_f9, Md_f10, Md_f11, Md_f12, Md_f14, Md_f15, Md_f18, Md_f19, Md_f20, Md_f21, Md_f23, Md_f24, Md_f25, Md_f26, Md_f28, gq, a2]
      exact a4
  · refine ⟨n1, e1, L1, ⟨f1b, fun h0 => absurd h0 he⟩, fun m k hA h4 hk hkn => ?_, fun m k hA hk hkn => ?_⟩
    · obtain ⟨m3, a3, d3⟩ := cstep m k hA h4 hk hkn
      refine ⟨m3, ?_, d3⟩
      dsimp only
      rw [a3, rb_n he, sum42_0]
    · obtain ⟨m2, a2, d2⟩ := r1 m k hA hk hkn
      refine ⟨m2, ?_, d2⟩
      dsimp only at a2 ⊢
      rw [e_Md_sums, u_Md_sums_0]
      simp only [tIs, tVs, bs, if_true, true_or, or_true, i10, if_false, not_false_eq_true, not_true_eq_false, Md_rc, Md_f1, Md_f4, Md_f5, Md_f6, Md_f9, Md_f10, Md_f11, Md_f12, Md_f14, Md_f15, Md_f18, Md_f19, Md_f20, Md_f21, Md_f23, Md_f24, Md_f25, Md_f26, Md_f28, gq, a2]
      rw [u_Md_sums_5]
      simp only [tIs, tVs, bs, if_true, true_or, or_true, i10, if_false, not_false_eq_true, not_true_eq_false, Md_rc, Md_f1, Md_f4, Md_f5, Md_f6, Md_f9, Md_f10, Md_f11, Md_f12, Md_f14, Md_f15, Md_f18, Md_f19, Md_f20, Md_f21, Md_f23, Md_f24, Md_f25, Md_f26, Md_f28, gm_isSign gr, x_isSign (X := X) (v := 43) d2.f8 (by omega) (by omega), x_isSign (X := X) (v := 45) d2.f8 (by omega) (by omega), eq_self]

def joE (tp : aT) (i : Nat) : Int32 := if isG tp i 60 = true then (-8) else if isG tp i 61 = true then (-9) else (-13)
theorem test37_0 {r a b : Nat} {v2 v4 : Int32} {h : pv_H} : f_Mo_readTest_37 X r a b v2 0 v4 h = some (some (.int 0), h) := by
  rw [u_Mo_readTest_37]
  simp only [eq_self, if_true, u_Mo_readTest_67, true_or]
theorem test_at (T : TK tp N) (hM : isMo M) (h3 : 3 ≤ M) (hd : d ≤ 5) (hP : SumAt X tp N M d) : TestAt X tp N M d := by
  have ok := T.1
  have h1000 := T.2.1
  intro n hn
  have k1 := rk_test (a := M) (b := 1) (d := d) (by omega)
  have k2 := rk_sum (a := M) (b := 1) (d := d) (by omega)
  have k3 := rm_test (a := 175) (d := d) (by omega)
  have k4 := rm_sum (a := 175) (d := d) (by omega)
  have gp : m_Mo_readSum.2.2.2.2.2 [.ref M, .ref 1, .int (nI d)] < m_Mo_readTest.2.2.2.2.2 [.ref M, .ref 1, .int (nI d)] := by omega
  have gq : m_Md_sums.2.2.2.2.2 [.ref 175, .int (nI d)] < m_Md_test.2.2.2.2.2 [.ref 175, .int (nI d)] := by omega
  have gc : 14 < m_Mo_readTest.2.2.2.2.2 [.ref M, .ref 1, .int (nI d)] := by omega
  have gr : 2 < m_Md_test.2.2.2.2.2 [.ref 175, .int (nI d)] := by omega
  have JA : mrJ (-8) 7 := by unfold mrJ; decide
  have JB : mrJ (-9) 8 := by unfold mrJ; decide
  obtain ⟨n1, e1, L1, f1, c1, r1⟩ := hP n hn
  have f1b := f1.1
  have l1 := f1b.2.2.1
  have l2 := f1b.2.1
  have l4 := f1b.2.2.2.1
  have cstep : ∀ m k, CA m tp n → gI m 1 4 = 0 → gI m M 2 = nI k → k ≤ n → ∃ m3, pM X m_Mo_readTest [.ref M, .ref 1, .int (nI d)] (hp m) = f_Mo_readTest_37 X (m_Mo_readTest.2.2.2.2.2 [.ref M, .ref 1, .int (nI d)]) M 1 (nI d) (rb e1) (joE tp (ps tp n1)) (hp m3) ∧ CR tp M m k m3 n1 e1 L1 := by
    intro m k hA h4 hk hkn
    obtain ⟨m2, a2, d2⟩ := c1 m k hA h4 hk hkn
    refine ⟨m2, ?_, d2⟩
    dsimp only at a2
    rw [e_Mo_readTest, u_Mo_readTest_0]
    simp only [tIs, tVs, bs, if_true, true_or, or_true, i10, if_false, not_false_eq_true, not_true_eq_false, Tp_rc, gp, Mo_rc hM, a2, gt_isSign gc, w_isSign (X := X) (c := 60) (vc := 60) rfl (by decide) d2.ca.1 ok (ps_le n1) d2.ca.2, w_isSign (X := X) (c := 61) (vc := 61) rfl (by decide) d2.ca.1 ok (ps_le n1) d2.ca.2]
    unfold joE
    cases isG tp (ps tp n1) 60 with
    | true => simp only [bI_t, i10, if_false, if_true, eq_self]
    | false =>
      cases isG tp (ps tp n1) 61 with
      | true => simp only [bI_t, bI_f, i10, if_false, if_true, eq_self, Bool.false_eq_true]
      | false => simp only [bI_f, if_false, if_true, eq_self, Bool.false_eq_true]
  by_cases he : e1 = 0
  · subst he
    obtain ⟨p1, p2⟩ := f1.2 rfl
    have key : ∀ s o : Int32, mrJ s o → joE tp (ps tp n1) = s → n1 < N → (∀ m, MAt m tp N n1 → ((pv_tI (pM X m_Md_isSign [.ref 175, .int 60] (hp m))).bind (fun q2 => (pv_tI (pM X m_Md_hasSign [.ref 175, .int 60] q2.2)).bind (fun q3 => if ¬ q3.1 = 0 then f_Md_test_30 X (m_Md_test.2.2.2.2.2 [.ref 175, .int (nI d)]) 175 (nI d) q2.1 q3.2 else if pv_rc q3.2 175 11 = true then (pv_tI (pM X m_Md_hasSign [.ref 175, .int 61] q3.2)).bind (fun q4 => if q4.1 = 0 then f_Md_test_51 X (m_Md_test.2.2.2.2.2 [.ref 175, .int (nI d)]) 175 (nI d) q2.1 q4.2 else f_Md_test_30 X (m_Md_test.2.2.2.2.2 [.ref 175, .int (nI d)]) 175 (nI d) q2.1 q4.2) else none))) = (pv_tV (pM X m_Md_sums [.ref 175, .int (nI d)] (hp (sI m 175 7 (nI (n1 + 1)))))).bind (fun h1 => f_Md_test_47 X (m_Md_test.2.2.2.2.2 [.ref 175, .int (nI d)]) 175 (nI d) (bI (isG tp (ps tp n1) 60)) o 175 h1)) → PO tp N M (4 + 4 * (5 - d)) n (fun h => pM X m_Mo_readTest [.ref M, .ref 1, .int (nI d)] h) (fun h => pM X m_Md_test [.ref 175, .int (nI d)] h) := by
      intro s o hJ hs hnN hR
      have s13 : ¬ s = -13 := fun z => by subst z; rcases hJ with ⟨_, h⟩ | ⟨_, h⟩ | ⟨_, h⟩ | ⟨_, h⟩ | ⟨_, h⟩ | ⟨_, h⟩ | ⟨_, h⟩ <;> exact absurd h (by decide)
      obtain ⟨n2, e2, L2, f2, c2, r2⟩ := hP (n1 + 1) hnN
      have f2b := f2.1
      have l1' := f2b.2.2.1
      have l2' := f2b.2.1
      refine ⟨n2, e2, L1 ++ (L2 ++ [(s, o, 0)]), ⟨f1b.cat (FB.jn hJ f2b), fun h0 => ⟨by have := f2b.1; omega, fun b hb => ?_⟩⟩, fun m k hA h4 hk hkn => ?_, fun m k hA hk hkn => ?_⟩
      · rw [dpL_app, p2 b (by omega)]
        simp only [bs]
        exact dpL_join hJ ((f2.2 h0).2 (b + 1) (by omega))
      · obtain ⟨m3, a3, d3⟩ := cstep m k hA h4 hk hkn
        obtain ⟨m4, a4, b1, b2, b3, b4⟩ := c_adv (X := X) ok h3 d3.ca d3.f4 d3.sz
        obtain ⟨m5, a5, d5⟩ := c2 m4 (k + L1.length) b1 b2 b3 (by omega)
        have a6 := w_put (X := X) (v := s) hM d5.sz (by omega)
        have d6 : CR tp M m5 (k + L1.length + L2.length) _ n2 e2 [(s, o, 0)] := CR.put (v := s) rfl h3 d5.ca d5.f4 d5.sz
        refine ⟨_, ?_, d3.tr ((b4 _ _ _ _ d5).tr d6)⟩
        dsimp only at a5 ⊢
        rw [a3, hs, rb_0, u_Mo_readTest_37, if_neg (show ¬ (1 : Int32) = 0 by decide), if_neg s13]
        simp only [tIs, tVs, bs, if_true, true_or, or_true, i10, if_false, not_false_eq_true, not_true_eq_false, Tp_rc, gt_adv gc, a4, gp, Mo_rc hM, a5, gt_put gc, a6, u_Mo_readTest_67]
        unfold rb
        by_cases h0 : e2 = 0
        · simp only [h0, if_true, eq_self, or_true]
        · simp only [h0, if_false, if_true, eq_self, true_or]
      · obtain ⟨m2, a2, d2⟩ := r1 m k hA hk hkn
        have A2 := d2.mat hA l2
        obtain ⟨b1, b2, b3⟩ := r_nx A2 hnN d2.sz
        obtain ⟨m5, a5, d5⟩ := r2 _ (k + L1.length) b1 b2 (by omega)
        have a6 := m_emit (X := X) (o := o) (a := 0) d5.sz (by omega)
        have d6 : RR m5 (k + L1.length + L2.length) _ n2 e2 [(s, o, 0)] := RR.put (o := o) (a := 0) rfl rfl d5.f7 d5.f8
        refine ⟨_, ?_, d2.tr ((b3 _ _ _ _ d5).tr d6)⟩
        dsimp only at a2 a5 ⊢
        rw [e_Md_test, u_Md_test_0]
        simp only [gq, a2, tVs, bs, Md_rc, gm_isSign gr, gm_hasSign gr, if_true]
        have hR2 := hR m2 A2
        rw [a5] at hR2
        simp only [tVs, bs, u_Md_test_47, gm_emit gr, Md_rc, a6, if_true, u_Md_test_51] at hR2
        simp only [m_isSign (X := X) (c := 60) (vc := 60) rfl (by decide) ok A2, tIs, bs, Md_rc, if_true, u_Md_test_51] at hR2 ⊢
        exact hR2
    cases hA1 : isG tp (ps tp n1) 60 with
    | true =>
      refine key (-8) 7 JA (by unfold joE; rw [if_pos hA1]) (T.lt l2 (by rw [isG_s hA1]; decide)) (fun m hA => ?_)
      simp only [tIs, tVs, bs, if_true, true_or, or_true, i10, if_false, not_false_eq_true, not_true_eq_false, Md_rc, Md_f1, Md_f4, Md_f5, Md_f6, Md_f9, Md_f10, Md_f11, Md_f12, Md_f14, Md_f15, Md_f18, Md_f19, Md_f20, Md_f21, Md_f23, Md_f24, Md_f25, Md_f26, Md_f28, gm_hasSign gr, m_isSign (X := X) (c := 60) (vc := 60) rfl (by decide) ok hA, m_hasSign1 (X := X) (c := 60) (vc := 60) rfl (by decide) ok hA hA1, hA1, bI_t, u_Md_test_30, gq]
    | false =>
      cases hB1 : isG tp (ps tp n1) 61 with
      | true =>
        refine key (-9) 8 JB (by unfold joE; rw [if_neg (by rw [hA1]; decide), if_pos hB1]) (T.lt l2 (by rw [isG_s hB1]; decide)) (fun m hA => ?_)
        simp only [tIs, tVs, bs, if_true, true_or, or_true, i10, if_false, not_false_eq_true, not_true_eq_false, Md_rc, Md_f1, Md_f4, Md_f5, Md_f6, Md_f9, Md_f10, Md_f11, Md_f12, Md_f14, Md_f15, Md_f18, Md_f19, Md_f20, Md_f21, Md_f23, Md_f24, Md_f25, Md_f26, Md_f28, gm_hasSign gr, m_isSign (X := X) (c := 60) (vc := 60) rfl (by decide) ok hA, m_hasSign0 (X := X) (c := 60) (vc := 60) rfl (by decide) ok hA hA1, m_hasSign1 (X := X) (c := 61) (vc := 61) rfl (by decide) ok hA hB1, hA1, bI_f, u_Md_test_30, gq, eq_self]
      | false =>
        have ej : joE tp (ps tp n1) = -13 := by unfold joE; rw [if_neg (by rw [hA1]; decide), if_neg (by rw [hB1]; decide)]
        refine ⟨n1, 0, L1, ⟨f1b, fun _ => ⟨p1, fun b hb => p2 b (by omega)⟩⟩, fun m k hA h4 hk hkn => ?_, fun m k hA hk hkn => ?_⟩
        · obtain ⟨m3, a3, d3⟩ := cstep m k hA h4 hk hkn
          refine ⟨m3, ?_, d3⟩
          dsimp only
          rw [a3, ej, u_Mo_readTest_37]
          simp only [rb_0, i10, if_false, eq_self, if_true, u_Mo_readTest_67, or_true]
        · obtain ⟨m2, a2, d2⟩ := r1 m k hA hk hkn
          have A2 := d2.mat hA l2
          refine ⟨m2, ?_, d2⟩
          dsimp only at a2 ⊢
          rw [e_Md_test, u_Md_test_0]
          simp only [tIs, tVs, bs, if_true, true_or, or_true, i10, if_false, not_false_eq_true, not_true_eq_false, Md_rc, Md_f1, Md_f4, Md_f5, Md_f6, Md_f9, Md_f10, Md_f11, Md_f12, Md_f14, Md_f15, Md_f18, Md_f19, Md_f20, Md_f21, Md_f23, Md_f24, Md_f25, Md_f26, Md_f28, gq, a2, gm_isSign gr, gm_hasSign gr, m_isSign (X := X) (c := 60) (vc := 60) rfl (by decide) ok A2, m_hasSign0 (X := X) (c := 60) (vc := 60) rfl (by decide) ok A2 hA1, m_hasSign0 (X := X) (c := 61) (vc := 61) rfl (by decide) ok A2 hB1, hA1, bI_f, eq_self, u_Md_test_51]
  · refine ⟨n1, e1, L1, ⟨f1b, fun h0 => absurd h0 he⟩, fun m k hA h4 hk hkn => ?_, fun m k hA hk hkn => ?_⟩
    · obtain ⟨m3, a3, d3⟩ := cstep m k hA h4 hk hkn
      refine ⟨m3, ?_, d3⟩
      dsimp only
      rw [a3, rb_n he, test37_0]
    · obtain ⟨m2, a2, d2⟩ := r1 m k hA hk hkn
      refine ⟨m2, ?_, d2⟩
      dsimp only at a2 ⊢
      rw [e_Md_test, u_Md_test_0]
      simp only [tIs, tVs, bs, if_true, true_or, or_true, i10, if_false, not_false_eq_true, not_true_eq_false, Md_rc, Md_f1, Md_f4, Md_f5, Md_f6, Md_f9, Md_f10, Md_f11, Md_f12, Md_f14, Md_f15, Md_f18, Md_f19, Md_f20, Md_f21, Md_f23, Md_f24, Md_f25, Md_f26, Md_f28, gq, a2, gm_isSign gr, gm_hasSign gr, x_isSign (X := X) (v := 60) d2.f8 (by omega) (by omega), x_hasSign (X := X) (v := 60) d2.f8 (by omega) (by omega), x_hasSign (X := X) (v := 61) d2.f8 (by omega) (by omega), eq_self, u_Md_test_51]

theorem tests42_0 {r a b : Nat} {v2 v4 v5 : Int32} {h : pv_H} : f_Mo_readTests_42 X r a b v2 0 v4 v5 h = some (some (.int 0), h) := by
  rw [u_Mo_readTests_42]
  simp only [eq_self, if_true, ite_self, u_Mo_readTests_116, true_or]
/-- the join at a token -/
def joT (tp : aT) (i : Nat) : Int32 := if isW tp i (tx 11) = true then (-6) else if isW tp i (tx 12) = true then (-7) else (-13)
theorem tests_loop {rc rr : Nat} (T : TK tp N) (hM : isMo M) (h3 : 3 ≤ M) (hP : TestAt X tp N M d) (gc : 14 < rc) (gr : 2 < rr) (gp : m_Mo_readTest.2.2.2.2.2 [.ref M, .ref 1, .int (nI d)] < rc) (gq : m_Md_test.2.2.2.2.2 [.ref 175, .int (nI d)] < rr) : ∀ q n, n + q = N → ∃ n' e L, FL N (5 + 4 * (5 - d)) n n' e L ∧ (∀ i, i ≤ n → CD tp M n n' e L (fun h => f_Mo_readTests_42 X rc M 1 (nI d) 1 (joT tp (ps tp n)) (nI i) h)) ∧ (∀ o2, RD tp N n n' e L (fun h => f_Md_whole_5 X rr 175 (nI d) o2 h)) := by
  have ok := T.1
  have h1000 := T.2.1
  have JA : mrJ (-6) 9 := by unfold mrJ; decide
  have JB : mrJ (-7) 10 := by unfold mrJ; decide
  intro q
  induction q using Nat.strongRecOn with
  | ind q ih =>
    intro n hn
    have key : ∀ s o : Int32, mrJ s o → joT tp (ps tp n) = s → n < N → (∀ m o2, MAt m tp N n → f_Md_whole_5 X rr 175 (nI d) o2 (hp m) = (pv_tV (pM X m_Md_test [.ref 175, .int (nI d)] (hp (sI m 175 7 (nI (n + 1)))))).bind (fun h4 => f_Md_whole_57 X rr 175 (nI d) (bI (isW tp (ps tp n) (tx 11))) o 175 h4)) → ∃ n' e L, FL N (5 + 4 * (5 - d)) n n' e L ∧ (∀ i, i ≤ n → CD tp M n n' e L (fun h => f_Mo_readTests_42 X rc M 1 (nI d) 1 (joT tp (ps tp n)) (nI i) h)) ∧ (∀ o2, RD tp N n n' e L (fun h => f_Md_whole_5 X rr 175 (nI d) o2 h)) := by
      intro s o hJ hs hnN hR
      have s13 : ¬ s = -13 := fun z => by subst z; rcases hJ with ⟨_, h⟩ | ⟨_, h⟩ | ⟨_, h⟩ | ⟨_, h⟩ | ⟨_, h⟩ | ⟨_, h⟩ | ⟨_, h⟩ <;> exact absurd h (by decide)
      rw [hs]
      obtain ⟨n1, e1, L1, f1, c1, r1⟩ := hP (n + 1) hnN
      have f1b := f1.1
      have l1 := f1b.2.2.1
      have l2 := f1b.2.1
      have l4 := f1b.2.2.2.1
      have cstep : ∀ i, i ≤ n → ∀ m k, CA m tp n → gI m 1 4 = 0 → gI m M 2 = nI k → k ≤ n → ∃ m3, f_Mo_readTests_42 X rc M 1 (nI d) 1 s (nI i) (hp m) = f_Mo_readTests_42 X rc M 1 (nI d) (rb e1) (joT tp (ps tp n1)) (nI (i + 1)) (hp m3) ∧ CR tp M m k m3 n1 e1 (L1 ++ [(s, o, 0)]) := by
        intro i hi m k hA h4 hk hkn
        obtain ⟨m1, a1, b1, b2, b3, b4⟩ := c_adv (X := X) ok h3 hA h4 hk
        obtain ⟨m2, a2, d2⟩ := c1 m1 k b1 b2 b3 (by omega)
        have a3 := w_put (X := X) (v := s) hM d2.sz (by omega)
        have d3 : CR tp M m2 (k + L1.length) _ n1 e1 [(s, o, 0)] := CR.put (v := s) rfl h3 d2.ca d2.f4 d2.sz
        refine ⟨_, ?_, (b4 _ _ _ _ d2).tr d3⟩
        dsimp only at a2
        rw [u_Mo_readTests_42, if_neg (show ¬ (1000 : Int32) ≤ nI i from nI_ge (b := 1000) (by omega) (by decide)), if_neg (show ¬ (1 : Int32) = 0 by decide), if_neg s13]
        simp only [tIs, tVs, bs, if_true, true_or, or_true, i10, if_false, not_false_eq_true, not_true_eq_false, Tp_rc, gt_adv gc, a1, gp, Mo_rc hM, a2, gt_put gc, a3, gt_isWord gc, w_isWord (X := X) (k := 11) (by decide) d3.ca.1 ok (ps_le n1) d3.ca.2, w_isWord (X := X) (k := 12) (by decide) d3.ca.1 ok (ps_le n1) d3.ca.2, u_Mo_readTests_108, nI_1]
        unfold joT
        cases isW tp (ps tp n1) (tx 11) with
        | true => simp only [bI_t, i10, if_false, if_true, eq_self]
        | false =>
          cases isW tp (ps tp n1) (tx 12) with
          | true => simp only [bI_t, bI_f, i10, if_false, if_true, eq_self, Bool.false_eq_true]
          | false => simp only [bI_f, if_false, if_true, eq_self, Bool.false_eq_true]
      have rstep : ∀ o2 m k, MAt m tp N n → gI m 175 13 = nI k → k ≤ n → ∃ m3, f_Md_whole_5 X rr 175 (nI d) o2 (hp m) = f_Md_whole_5 X rr 175 (nI d) (some (.int (bI (isW tp (ps tp n) (tx 11))))) (hp m3) ∧ RR m k m3 n1 e1 (L1 ++ [(s, o, 0)]) ∧ (e1 = 0 → MAt m3 tp N n1) := by
        intro o2 m k hA hk hkn
        obtain ⟨b1, b2, b3⟩ := r_nx hA hnN hk
        obtain ⟨m2, a2, d2⟩ := r1 _ k b1 b2 (by omega)
        have a3 := m_emit (X := X) (o := o) (a := 0) d2.sz (by omega)
        have d3 : RR m2 (k + L1.length) _ n1 e1 [(s, o, 0)] := RR.put (o := o) (a := 0) rfl rfl d2.f7 d2.f8
        refine ⟨_, ?_, (b3 _ _ _ _ d2).tr d3, fun h0 => ?_⟩
        · dsimp only at a2
          rw [hR m o2 hA, a2]
          simp only [tIs, tVs, bs, if_true, true_or, or_true, i10, if_false, not_false_eq_true, not_true_eq_false, Md_rc, Md_f1, Md_f4, Md_f5, Md_f6, Md_f9, Md_f10, Md_f11, Md_f12, Md_f14, Md_f15, Md_f18, Md_f19, Md_f20, Md_f21, Md_f23, Md_f24, Md_f25, Md_f26, Md_f28, u_Md_whole_57, gm_emit gr, a3]
        · subst h0
          exact d3.mat (d2.mat b1 l2) l2
      by_cases he : e1 = 0
      · subst he
        obtain ⟨p1, p2⟩ := f1.2 rfl
        obtain ⟨n2, e2, L2, f2, c2, r2⟩ := ih (N - n1) (by omega) n1 (by omega)
        refine ⟨n2, e2, (L1 ++ [(s, o, 0)]) ++ L2, ⟨(FB.jn hJ f1b).cat f2.1, fun h0 b hb => ?_⟩, fun i hi m k hA h4 hk hkn => ?_, fun o2 m k hA hk hkn => ?_⟩
        · rw [dpL_app, dpL_join hJ (p2 (b + 1) (by omega))]
          simp only [bs]
          exact f2.2 h0 b hb
        · obtain ⟨m3, a3, d3⟩ := cstep i hi m k hA h4 hk hkn
          obtain ⟨m4, a4, d4⟩ := c2 (i + 1) (by omega) m3 _ d3.ca d3.f4 d3.sz (by rw [List.length_append, List.length_singleton]; omega)
          dsimp only at a4
          exact ⟨m4, a3.trans a4, d3.tr d4⟩
        · obtain ⟨m3, a3, d3, A3⟩ := rstep o2 m k hA hk hkn
          obtain ⟨m4, a4, d4⟩ := r2 _ m3 _ (A3 rfl) d3.sz (by rw [List.length_append, List.length_singleton]; omega)
          dsimp only at a4
          exact ⟨m4, a3.trans a4, d3.tr d4⟩
      · refine ⟨n1, e1, L1 ++ [(s, o, 0)], ⟨FB.jn hJ f1b, fun h0 => absurd h0 he⟩, fun i hi m k hA h4 hk hkn => ?_, fun o2 m k hA hk hkn => ?_⟩
        · obtain ⟨m3, a3, d3⟩ := cstep i hi m k hA h4 hk hkn
          refine ⟨m3, ?_, d3⟩
          dsimp only
          rw [a3, rb_n he, tests42_0]
        · obtain ⟨m3, a3, d3, -⟩ := rstep o2 m k hA hk hkn
          refine ⟨m3, ?_, d3⟩
          dsimp only
          rw [a3, u_Md_whole_5]
          simp only [tIs, tVs, bs, if_true, true_or, or_true, i10, if_false, not_false_eq_true, not_true_eq_false, Md_rc, Md_f1, Md_f4, Md_f5, Md_f6, Md_f9, Md_f10, Md_f11, Md_f12, Md_f14, Md_f15, Md_f18, Md_f19, Md_f20, Md_f21, Md_f23, Md_f24, Md_f25, Md_f26, Md_f28, gm_isWord gr, x_isWord (X := X) (v := 14) d3.f8 (by omega) (by omega), x_isWord (X := X) (v := 15) d3.f8 (by omega) (by omega), eq_self]
    cases hA1 : isW tp (ps tp n) (tx 11) with
    | true =>
      refine key (-6) 9 JA (by unfold joT; rw [if_pos hA1]) (T.lt (by omega) (by rw [(isW_s hA1).1]; decide)) (fun m o2 hA => ?_)
      rw [u_Md_whole_5]
      simp only [tIs, tVs, bs, if_true, true_or, or_true, i10, if_false, not_false_eq_true, not_true_eq_false, Md_rc, Md_f1, Md_f4, Md_f5, Md_f6, Md_f9, Md_f10, Md_f11, Md_f12, Md_f14, Md_f15, Md_f18, Md_f19, Md_f20, Md_f21, Md_f23, Md_f24, Md_f25, Md_f26, Md_f28, gm_isWord gr, m_isW (X := X) (k := 14) (j := 11) (vk := 14) rfl (by decide) rfl hA, hA1, bI_t, u_Md_whole_23, Md_f7, hA.2.2.1, nI_1, Md_p7, gq]
    | false =>
      cases hB1 : isW tp (ps tp n) (tx 12) with
      | true =>
        refine key (-7) 10 JB (by unfold joT; rw [if_neg (by rw [hA1]; decide), if_pos hB1]) (T.lt (by omega) (by rw [(isW_s hB1).1]; decide)) (fun m o2 hA => ?_)
        rw [u_Md_whole_5]
        simp only [tIs, tVs, bs, if_true, true_or, or_true, i10, if_false, not_false_eq_true, not_true_eq_false, Md_rc, Md_f1, Md_f4, Md_f5, Md_f6, Md_f9, Md_f10, Md_f11, Md_f12, Md_f14, Md_f15, Md_f18, Md_f19, Md_f20, Md_f21, Md_f23, Md_f24, Md_f25, Md_f26, Md_f28, gm_isWord gr, m_isW (X := X) (k := 14) (j := 11) (vk := 14) rfl (by decide) rfl hA, m_isW (X := X) (k := 15) (j := 12) (vk := 15) rfl (by decide) rfl hA, hA1, hB1, bI_t, bI_f, eq_self, u_Md_whole_23, Md_f7, hA.2.2.1, nI_1, Md_p7, gq]
      | false =>
        have ej : joT tp (ps tp n) = -13 := by unfold joT; rw [if_neg (by rw [hA1]; decide), if_neg (by rw [hB1]; decide)]
        rw [ej]
        refine ⟨n, 0, [], ⟨FB.nil (by omega), fun _ b _ => by simp only [dpL]⟩, fun i hi m k hA h4 hk hkn => ⟨m, ?_, CR.rf hA h4 hk⟩, fun o2 m k hA hk hkn => ⟨m, ?_, RR.rf hA.2.2.1 hA.2.2.2.2 hk⟩⟩
        · dsimp only
          rw [u_Mo_readTests_42]
          simp only [tIs, tVs, bs, if_true, true_or, or_true, i10, if_false, not_false_eq_true, not_true_eq_false, u_Mo_readTests_116, ite_self, eq_self, rb_0]
        · dsimp only
          rw [u_Md_whole_5]
          simp only [tIs, tVs, bs, if_true, true_or, or_true, i10, if_false, not_false_eq_true, not_true_eq_false, Md_rc, Md_f1, Md_f4, Md_f5, Md_f6, Md_f9, Md_f10, Md_f11, Md_f12, Md_f14, Md_f15, Md_f18, Md_f19, Md_f20, Md_f21, Md_f23, Md_f24, Md_f25, Md_f26, Md_f28, gm_isWord gr, m_isW (X := X) (k := 14) (j := 11) (vk := 14) rfl (by decide) rfl hA, m_isW (X := X) (k := 15) (j := 12) (vk := 15) rfl (by decide) rfl hA, hA1, hB1, bI_f, eq_self]
theorem tests_at (T : TK tp N) (hM : isMo M) (h3 : 3 ≤ M) (hd : d ≤ 5) (hP : TestAt X tp N M d) : TestsAt X tp N M d := by
  have ok := T.1
  intro n hn
  have k1 := rk_tests (a := M) (b := 1) (d := d) (by omega)
  have k2 := rk_test (a := M) (b := 1) (d := d) (by omega)
  have k3 := rm_tests (a := 175) (d := d) (by omega)
  have k4 := rm_test (a := 175) (d := d) (by omega)
  have gp : m_Mo_readTest.2.2.2.2.2 [.ref M, .ref 1, .int (nI d)] < m_Mo_readTests.2.2.2.2.2 [.ref M, .ref 1, .int (nI d)] := by omega
  have gq : m_Md_test.2.2.2.2.2 [.ref 175, .int (nI d)] < m_Md_whole.2.2.2.2.2 [.ref 175, .int (nI d)] := by omega
  have gc : 14 < m_Mo_readTests.2.2.2.2.2 [.ref M, .ref 1, .int (nI d)] := by omega
  have gr : 2 < m_Md_whole.2.2.2.2.2 [.ref 175, .int (nI d)] := by omega
  obtain ⟨n1, e1, L1, f1, c1, r1⟩ := hP n hn
  have f1b := f1.1
  have l1 := f1b.2.2.1
  have l2 := f1b.2.1
  have l4 := f1b.2.2.2.1
  have cstep : ∀ m k, CA m tp n → gI m 1 4 = 0 → gI m M 2 = nI k → k ≤ n → ∃ m3, pM X m_Mo_readTests [.ref M, .ref 1, .int (nI d)] (hp m) = f_Mo_readTests_42 X (m_Mo_readTests.2.2.2.2.2 [.ref M, .ref 1, .int (nI d)]) M 1 (nI d) (rb e1) (joT tp (ps tp n1)) (nI 0) (hp m3) ∧ CR tp M m k m3 n1 e1 L1 := by
    intro m k hA h4 hk hkn
    obtain ⟨m2, a2, d2⟩ := c1 m k hA h4 hk hkn
    refine ⟨m2, ?_, d2⟩
    dsimp only at a2
    rw [e_Mo_readTests, u_Mo_readTests_0]
    simp only [tIs, tVs, bs, if_true, true_or, or_true, i10, if_false, not_false_eq_true, not_true_eq_false, Tp_rc, gp, Mo_rc hM, a2, gt_isWord gc, w_isWord (X := X) (k := 11) (by decide) d2.ca.1 ok (ps_le n1) d2.ca.2, w_isWord (X := X) (k := 12) (by decide) d2.ca.1 ok (ps_le n1) d2.ca.2, u_Mo_readTests_37]
    unfold joT
    cases isW tp (ps tp n1) (tx 11) with
    | true => simp only [bI_t, i10, if_false, if_true, eq_self, nI_0]
    | false =>
      cases isW tp (ps tp n1) (tx 12) with
      | true => simp only [bI_t, bI_f, i10, if_false, if_true, eq_self, Bool.false_eq_true, nI_0]
      | false => simp only [bI_f, if_false, if_true, eq_self, Bool.false_eq_true, nI_0]
  by_cases he : e1 = 0
  · subst he
    obtain ⟨p1, p2⟩ := f1.2 rfl
    obtain ⟨n2, e2, L2, f2, c2, r2⟩ := tests_loop T hM h3 hP gc gr gp gq (N - n1) n1 (by omega)
    refine ⟨n2, e2, L1 ++ L2, ⟨f1b.cat f2.1, fun h0 => ⟨by have := f2.1.1; omega, fun b hb => ?_⟩⟩, fun m k hA h4 hk hkn => ?_, fun m k hA hk hkn => ?_⟩
    · rw [dpL_app, p2 b (by omega)]
      simp only [bs]
      exact f2.2 h0 b hb
    · obtain ⟨m3, a3, d3⟩ := cstep m k hA h4 hk hkn
      obtain ⟨m4, a4, d4⟩ := c2 0 (by omega) m3 (k + L1.length) d3.ca d3.f4 d3.sz (by omega)
      dsimp only at a4
      exact ⟨m4, a3.trans a4, d3.tr d4⟩
    · obtain ⟨m2, a2, d2⟩ := r1 m k hA hk hkn
      obtain ⟨m4, a4, d4⟩ := r2 none _ (k + L1.length) (d2.mat hA l2) d2.sz (by omega)
      refine ⟨m4, ?_, d2.tr d4⟩
      dsimp only at a2 a4 ⊢
      rw [e_Md_whole, u_Md_whole_0]
      simp only [tIs, tVs, bs, if_true, true_or, or_true, i10, if_false, not_false_eq_true, not_true_eq_false, Md_rc, Md_f1, Md_f4, Md_f5, Md_f6, Md_f9, Md_f10, Md_f11, Md_f12, Md_f14, Md_f15, Md_f18, Md_f19, Md_f20, Md_f21, Md_f23, Md_f24, Md_f25, Md_f26, Md_f28, gq, a2]
      exact a4
  · refine ⟨n1, e1, L1, ⟨f1b, fun h0 => absurd h0 he⟩, fun m k hA h4 hk hkn => ?_, fun m k hA hk hkn => ?_⟩
    · obtain ⟨m3, a3, d3⟩ := cstep m k hA h4 hk hkn
      refine ⟨m3, ?_, d3⟩
      dsimp only
      rw [a3, rb_n he, tests42_0]
    · obtain ⟨m2, a2, d2⟩ := r1 m k hA hk hkn
      refine ⟨m2, ?_, d2⟩
      dsimp only at a2 ⊢
      rw [e_Md_whole, u_Md_whole_0]
      simp only [tIs, tVs, bs, if_true, true_or, or_true, i10, if_false, not_false_eq_true, not_true_eq_false, Md_rc, Md_f1, Md_f4, Md_f5, Md_f6, Md_f9, Md_f10, Md_f11, Md_f12, Md_f14, Md_f15, Md_f18, Md_f19, Md_f20, Md_f21, Md_f23, Md_f24, Md_f25, Md_f26, Md_f28, gq, a2]
      rw [u_Md_whole_5]
      simp only [tIs, tVs, bs, if_true, true_or, or_true, i10, if_false, not_false_eq_true, not_true_eq_false, Md_rc, Md_f1, Md_f4, Md_f5, Md_f6, Md_f9, Md_f10, Md_f11, Md_f12, Md_f14, Md_f15, Md_f18, Md_f19, Md_f20, Md_f21, Md_f23, Md_f24, Md_f25, Md_f26, Md_f28, gm_isWord gr, x_isWord (X := X) (v := 14) d2.f8 (by omega) (by omega), x_isWord (X := X) (v := 15) d2.f8 (by omega) (by omega), eq_self]
end LPS
