/-! rests: the reference answers what the law's own rests finds. -/
section RST
variable {m : pm_M} {X : pv_X} {c : Nat}
theorem pv_rst_eq (p q r : Int32) : pv_rst p q r = rlst (bt p q r 0) (bt p q r 1) (bt p q r 2) (bt p q r 3) := by
  unfold pv_rst rlst
  apply List.filter_congr
  intro k hk
  simp only [List.mem_cons, List.not_mem_nil, or_false] at hk
  rcases hk with rfl | rfl | rfl | rfl <;> rfl
def rsT (o : Option Int32) : Int32 × Int32 := match o with
  | none => (1, 0)
  | some v => (0, v)
theorem m_rests0 {p q r w n f k : Int32} (o1 o2 o3 : Option Value) (hk : True) : f_Md_rests_174 X 175 p q r w 0 n f k o1 o2 o3 (hp m) = some (some (.int 0), hp (sI m 175 0 1)) := by
  rw [u_Md_rests_174, if_pos rfl, u_Md_rests_194, u_Md_rests_195, Md_p0]
  simp only [tIs, tVs, bs, if_true, true_or, or_true, i10, if_false, not_false_eq_true, not_true_eq_false, Md_rc, Md_f1, Md_f4, Md_f5, Md_f6, Md_f9, Md_f10, Md_f11, Md_f12, Md_f14, Md_f15, Md_f18, Md_f19, Md_f20, Md_f21, Md_f23, Md_f24, Md_f25, Md_f26, Md_f28, Md_f0, gI_sI_eq, u_Md_rests_221]
  rw [if_neg (by decide)]
theorem m_rests (p q r w : Int32) : pM X m_Md_rests [.ref 175, .int p, .int q, .int r, .int w] (hp m) = some (some (.int (rsT (pv_rv p q r w)).2), hp (sI m 175 0 (rsT (pv_rv p q r w)).1)) := by
  have may0 : f_Md_rests_40 X 175 p q r w (hp m) = some (some (.int 0), hp (sI m 175 0 1)) := by
    rw [u_Md_rests_40, u_Md_rests_41, u_Md_rests_52, if_neg (by decide), if_pos rfl]
    exact m_rests0 _ _ _ trivial
  rw [e_Md_rests, u_Md_rests_0]
  have split : ∀ v : Int32, (¬ v < 0 ∧ ¬ 9 < v ∧ (0 ≤ v ∧ v ≤ 9)) ∨ ((v < 0 ∨ 9 < v) ∧ ¬ (0 ≤ v ∧ v ≤ 9)) := fun v => by
    simp only [Int32.lt_iff_toInt_lt, Int32.le_iff_toInt_le, show (0 : Int32).toInt = 0 from rfl, show (9 : Int32).toInt = 9 by decide]
    omega
  have no : ¬ (0 ≤ p ∧ p ≤ 9 ∧ 0 ≤ q ∧ q ≤ 9 ∧ 0 ≤ r ∧ r ≤ 9) → pv_rv p q r w = none := fun h => by unfold pv_rv; rw [if_neg h]
  rcases split p with ⟨p1, p2, p3⟩ | ⟨p1, p2⟩
  · simp only [m_in1 p1 p2, tIs, tVs, bs, if_true, true_or, or_true, i10, if_false, not_false_eq_true, not_true_eq_false]
    rcases split q with ⟨q1, q2, q3⟩ | ⟨q1, q2⟩
    · simp only [m_in1 q1 q2, tIs, tVs, bs, if_true, true_or, or_true, i10, if_false, not_false_eq_true, not_true_eq_false]
      rcases split r with ⟨r1, r2, r3⟩ | ⟨r1, r2⟩
      · simp only [m_in1 r1 r2, tIs, tVs, bs, if_true, true_or, or_true, i10, if_false, not_false_eq_true, not_true_eq_false]
        have yes : (0 ≤ p ∧ p ≤ 9 ∧ 0 ≤ q ∧ q ≤ 9 ∧ 0 ≤ r ∧ r ≤ 9) := ⟨p3.1, p3.2, q3.1, q3.2, r3.1, r3.2⟩
        have hv : pv_rv p q r w = (if w = -1 then some (Int32.ofNat (pv_rst p q r).length) else if 0 ≤ w then (pv_rst p q r)[w.toNatClampNeg]? else none) := by unfold pv_rv; rw [if_pos yes]
        by_cases hw : w < -1
        · have n1 : ¬ w = -1 := fun z => by rw [z] at hw; revert hw; decide
          have n2 : ¬ 0 ≤ w := fun z => by
            rw [Int32.lt_iff_toInt_lt, show (-1 : Int32).toInt = -1 by decide] at hw
            rw [Int32.le_iff_toInt_le, show (0 : Int32).toInt = 0 from rfl] at z
            omega
          rw [if_pos hw, may0, hv, if_neg n1, if_neg n2]
          rfl
        · rw [if_neg hw, u_Md_rests_41]
          obtain ⟨x1, x2, x3, y1⟩ := m_rstep (X := X) (p := p) (q := q) (r := r) (w := w) (n := 0) (f := -1) (k := 0) (h := hp m) none none none (by decide) (by decide) (by decide)
          rw [y1, show (0 : Int32) + 1 = 1 from rfl]
          obtain ⟨x4, x5, x6, y2⟩ := m_rstep (X := X) (p := p) (q := q) (r := r) (w := w) (n := (rstp w 0 (bt p q r 0) (0, -1)).1) (f := (rstp w 0 (bt p q r 0) (0, -1)).2) (k := 1) (h := hp m) x1 x2 x3 (by decide) (by decide) (by decide)
          rw [y2, show (1 : Int32) + 1 = 2 from rfl]
          generalize hA : rstp w 1 (bt p q r 1) ((rstp w 0 (bt p q r 0) (0, -1)).1, (rstp w 0 (bt p q r 0) (0, -1)).2) = A
          obtain ⟨x7, x8, x9, y3⟩ := m_rstep (X := X) (p := p) (q := q) (r := r) (w := w) (n := A.1) (f := A.2) (k := 2) (h := hp m) x4 x5 x6 (by decide) (by decide) (by decide)
          rw [y3, show (2 : Int32) + 1 = 3 from rfl]
          generalize hB : rstp w 2 (bt p q r 2) (A.1, A.2) = B
          obtain ⟨xa, xb, xc, y4⟩ := m_rstep (X := X) (p := p) (q := q) (r := r) (w := w) (n := B.1) (f := B.2) (k := 3) (h := hp m) x7 x8 x9 (by decide) (by decide) (by decide)
          rw [y4, show (3 : Int32) + 1 = 4 from rfl]
          have hF : rstp w 3 (bt p q r 3) (B.1, B.2) = rfin (bt p q r 0) (bt p q r 1) (bt p q r 2) (bt p q r 3) w := by rw [← hB, ← hA]; rfl
          rw [hF, u_Md_rests_52, if_pos (by decide), u_Md_rests_174, if_neg (by decide), hv, pv_rst_eq]
          obtain ⟨k1, k2, k3⟩ := rfin_ok (bt p q r 0) (bt p q r 1) (bt p q r 2) (bt p q r 3) w
          generalize hG : rfin (bt p q r 0) (bt p q r 1) (bt p q r 2) (bt p q r 3) w = G at k1 k2 k3
          have hL : (rlst (bt p q r 0) (bt p q r 1) (bt p q r 2) (bt p q r 3)).length ≤ 4 := List.length_filter_le _ _
          generalize rlst (bt p q r 0) (bt p q r 1) (bt p q r 2) (bt p q r 3) = L at k1 k2 hL
          have thr : f_Md_rests_194 X 175 p q r w 1 G.1 G.2 4 xa xb xc 175 (hp m) = some (some (.int 0), hp (sI m 175 0 1)) := by
            rw [u_Md_rests_194, u_Md_rests_195, Md_p0]
            simp only [tIs, tVs, bs, if_true, true_or, or_true, i10, if_false, not_false_eq_true, not_true_eq_false, Md_rc, Md_f1, Md_f4, Md_f5, Md_f6, Md_f9, Md_f10, Md_f11, Md_f12, Md_f14, Md_f15, Md_f18, Md_f19, Md_f20, Md_f21, Md_f23, Md_f24, Md_f25, Md_f26, Md_f28, Md_f0, gI_sI_eq, u_Md_rests_221]
            rw [if_neg (by decide)]
          have fin : f_Md_rests_190 X 175 p q r w 1 G.1 G.2 4 xa xb xc 175 (hp m) = some (some (.int (if 0 ≤ w then G.2 else G.1)), hp (sI m 175 0 0)) := by
            rw [u_Md_rests_190, u_Md_rests_195, Md_p0]
            simp only [tIs, tVs, bs, if_true, true_or, or_true, i10, if_false, not_false_eq_true, not_true_eq_false, Md_rc, Md_f1, Md_f4, Md_f5, Md_f6, Md_f9, Md_f10, Md_f11, Md_f12, Md_f14, Md_f15, Md_f18, Md_f19, Md_f20, Md_f21, Md_f23, Md_f24, Md_f25, Md_f26, Md_f28, Md_f0, gI_sI_eq, u_Md_rests_221]
            rw [if_pos (by decide)]
            split <;> rfl
          by_cases hw1 : w = -1
          · have : ¬ 0 ≤ w := by rw [hw1]; decide
            rw [if_pos (show w < 0 by rw [hw1]; decide), fin, if_neg this, if_pos hw1, k1]
            rfl
          · have h0 : 0 ≤ w := by
              rw [Int32.le_iff_toInt_le, show (0 : Int32).toInt = 0 from rfl]
              rw [Int32.lt_iff_toInt_lt, show (-1 : Int32).toInt = -1 by decide] at hw
              have : w.toInt ≠ (-1 : Int32).toInt := fun z => hw1 (Int32.toInt_inj.mp z)
              rw [show (-1 : Int32).toInt = -1 by decide] at this
              omega
            have h0' : ¬ w < 0 := fun z => by
              rw [Int32.lt_iff_toInt_lt] at z
              rw [Int32.le_iff_toInt_le] at h0
              omega
            rw [if_neg h0', if_neg hw1, if_pos h0]
            rcases pk_ix w (n := 4) (by decide) with h | h | ⟨j, hj, hwj⟩
            · exact absurd h h0'
            · have hneg := k3 h
              rw [if_pos hneg, thr]
              have hl : L[w.toNatClampNeg]? = none := by
                apply List.getElem?_eq_none
                have hc : 4 ≤ w.toNatClampNeg := by
                  rw [Int32.le_iff_toInt_le, show (nI 4 : Int32).toInt = 4 by decide] at h
                  show 4 ≤ w.toInt.toNat
                  omega
                omega
              rw [hl]
              rfl
            · have := k2 j hj hwj
              rw [hwj, nI_clamp (by omega), ← this]
              by_cases hG2 : G.2 < 0
              · rw [if_pos hG2, if_pos hG2, ← hwj, thr]; rfl
              · rw [if_neg hG2, if_neg hG2, ← hwj, fin, if_pos h0]; rfl
      · simp only [m_in0 r1, tIs, tVs, bs, if_true, true_or, or_true, i10, if_false, not_false_eq_true, not_true_eq_false]
        rw [may0, no (fun h => r2 ⟨h.2.2.2.2.1, h.2.2.2.2.2⟩)]
        rfl
    · simp only [m_in0 q1, tIs, tVs, bs, if_true, true_or, or_true, i10, if_false, not_false_eq_true, not_true_eq_false]
      rw [may0, no (fun h => q2 ⟨h.2.2.1, h.2.2.2.1⟩)]
      rfl
  · simp only [m_in0 p1, tIs, tVs, bs, if_true, true_or, or_true, i10, if_false, not_false_eq_true, not_true_eq_false]
    rw [may0, no (fun h => p2 ⟨h.1, h.2.1⟩)]
    rfl
end RST
