/-! hub, near, ordered, middle, person. -/
section Q3
variable {m : pm_M} {X : pv_X} {P c : Nat} {π : aP} {s : aS}
def cHu (π : aP) (i : Nat) : Int32 := fr (fun j v => if π.2.2.1 j = nI i then v + 1 else v) π.1 0 0
def gHu (π : aP) (i : Nat) (o : Int32 × Int32) : Int32 × Int32 := if o.2 < cHu π i then (nI i, cHu π i) else o
theorem q_hub (hC : HC m P π s) (hM : HM m π s c) : Ag X m_Wp_hub m_Md_hub [] m := by
  have hn := hC.n6
  refine Ag.mk (fr (gHu π) π.1 0 (-1, 0)).1 ⟨m, ?_, Q.rf⟩ (fun m1 hq => ?_)
  · rw [e_Wp_hub, u_Wp_hub_0]
    obtain ⟨⟨⟨g1, g2⟩, h1⟩, -⟩ := lg0 (n := π.1) (F := fun (g : Option Value × Option Value) (o : Int32 × Int32) i => f_Wp_hub_6 X 0 o.1 o.2 (nI i) g.1 g.2 (hp m)) (R := fun _ _ => True) (g := gHu π) (fun g o i hi _ => ⟨⟨(some (.int (cHu π i)), some (.int (nI π.1))), by
      rw [u_Wp_hub_6]
      simp only [tIs, tVs, bs, if_true, true_or, or_true, i10, if_false, not_false_eq_true, not_true_eq_false, Wp_rc, Wp_f5, Wp_f6, Wp_f7, Wp_f8, Wp_f9, Wp_f10, Wp_f11, Wp_f12, Wp_f13, Wp_f14, hC.f1, hC.sz]
      rw [if_neg (nI_ge hi (by omega))]
      obtain ⟨⟨-, h2⟩, -⟩ := lg0 (n := π.1) (F := fun (_ : Unit) (v : Int32) j => f_Wp_hub_23 X 0 o.1 o.2 (nI i) v (nI j) (hp m)) (R := fun _ _ => True) (g := fun j v => if π.2.2.1 j = nI i then v + 1 else v) (fun _ v j hj _ => ⟨⟨(), by
        rw [u_Wp_hub_23]
        simp only [tIs, tVs, bs, if_true, true_or, or_true, i10, if_false, not_false_eq_true, not_true_eq_false, Wp_rc, Wp_f5, Wp_f6, Wp_f7, Wp_f8, Wp_f9, Wp_f10, Wp_f11, Wp_f12, Wp_f13, Wp_f14, hC.f1, hC.sz]
        rw [if_neg (nI_ge hj (by omega))]
        simp only [tIs, tVs, bs, if_true, true_or, or_true, i10, if_false, not_false_eq_true, not_true_eq_false, Wp_rc, Wp_f5, Wp_f6, Wp_f7, Wp_f8, Wp_f9, Wp_f10, Wp_f11, Wp_f12, Wp_f13, Wp_f14, Po_f4 hC.po, hC.as (show j < 6 by omega), u_Wp_hub_52, nI_1]
        by_cases h : π.2.2.1 j = nI i
        · rw [if_neg (fun z => z h), if_pos h]
        · rw [if_pos h, if_neg h]⟩, trivial⟩) π.1 0 () 0 (by omega) trivial
      refine Eq.trans (b := f_Wp_hub_23 X 0 o.1 o.2 (nI i) 0 (nI 0) (hp m)) rfl ?_
      rw [h2, u_Wp_hub_23]
      simp only [tIs, tVs, bs, if_true, true_or, or_true, i10, if_false, not_false_eq_true, not_true_eq_false, Wp_rc, Wp_f5, Wp_f6, Wp_f7, Wp_f8, Wp_f9, Wp_f10, Wp_f11, Wp_f12, Wp_f13, Wp_f14, hC.f1, hC.sz]
      rw [if_pos (nI_le (Nat.le_refl _) (by omega))]
      simp only [u_Wp_hub_69, nI_1]
      unfold gHu
      rw [show fr (fun j v => if π.2.2.1 j = nI i then v + 1 else v) π.1 0 0 = cHu π i from rfl]
      by_cases h : o.2 < cHu π i
      · rw [if_neg (Int32.not_le.mpr h), if_pos h]
      · rw [if_pos (Int32.not_lt.mp h), if_neg h]⟩, trivial⟩) π.1 0 (none, none) (-1, 0) (by omega) trivial
    refine Eq.trans (b := f_Wp_hub_6 X 0 (-1) 0 (nI 0) none none (hp m)) rfl ?_
    rw [show f_Wp_hub_6 X 0 (-1) 0 (nI 0) none none (hp m) = _ from h1, u_Wp_hub_6]
    simp only [tIs, tVs, bs, if_true, true_or, or_true, i10, if_false, not_false_eq_true, not_true_eq_false, Wp_rc, Wp_f5, Wp_f6, Wp_f7, Wp_f8, Wp_f9, Wp_f10, Wp_f11, Wp_f12, Wp_f13, Wp_f14, hC.f1, hC.sz]
    rw [if_pos (nI_le (Nat.le_refl _) (by omega))]
  · obtain ⟨m2, e2, q2⟩ := m_t0 (m := m1)
    have hM2 := hM.q (hq.tr q2)
    refine ⟨m2, ?_, q2⟩
    rw [e_Md_hub, u_Md_hub_0, e2]
    simp only [tIs, tVs, bs, if_true, true_or, or_true, i10, if_false, not_false_eq_true, not_true_eq_false, Md_rc, Md_f1, Md_f4, Md_f5, Md_f6, Md_f9, Md_f10, Md_f11, Md_f12, Md_f14, Md_f15, Md_f18, Md_f19, Md_f20, Md_f21, Md_f23, Md_f24, Md_f25, Md_f26, Md_f28]
    obtain ⟨⟨⟨g1, g2⟩, h1⟩, -⟩ := lg0 (n := π.1) (F := fun (g : Option Value × Option Value) (o : Int32 × Int32) i => f_Md_hub_11 X 175 o.1 o.2 (nI i) g.1 g.2 (hp m2)) (R := fun _ _ => True) (g := gHu π) (fun g o i hi _ => ⟨⟨(some (.int (cHu π i)), some (.int (nI π.1))), by
      rw [u_Md_hub_11]
      simp only [tIs, tVs, bs, if_true, true_or, or_true, i10, if_false, not_false_eq_true, not_true_eq_false, Md_rc, Md_f1, Md_f4, Md_f5, Md_f6, Md_f9, Md_f10, Md_f11, Md_f12, Md_f14, Md_f15, Md_f18, Md_f19, Md_f20, Md_f21, Md_f23, Md_f24, Md_f25, Md_f26, Md_f28, m_n hM2.1]
      rw [if_neg (nI_ge hi (by omega))]
      obtain ⟨⟨-, h2⟩, -⟩ := lg0 (n := π.1) (F := fun (_ : Unit) (v : Int32) j => f_Md_hub_25 X 175 o.1 o.2 (nI i) v (nI j) (hp m2)) (R := fun _ _ => True) (g := fun j v => if π.2.2.1 j = nI i then v + 1 else v) (fun _ v j hj _ => ⟨⟨(), by
        rw [u_Md_hub_25]
        simp only [tIs, tVs, bs, if_true, true_or, or_true, i10, if_false, not_false_eq_true, not_true_eq_false, Md_rc, Md_f1, Md_f4, Md_f5, Md_f6, Md_f9, Md_f10, Md_f11, Md_f12, Md_f14, Md_f15, Md_f18, Md_f19, Md_f20, Md_f21, Md_f23, Md_f24, Md_f25, Md_f26, Md_f28, m_n hM2.1]
        rw [if_neg (nI_ge hj (by omega)), show (2 : Int32) = nI 2 from rfl, d_personOf (show j < 6 by omega) (by decide)]
        simp only [tIs, tVs, bs, if_true, true_or, or_true, i10, if_false, not_false_eq_true, not_true_eq_false, Md_rc, Md_f1, Md_f4, Md_f5, Md_f6, Md_f9, Md_f10, Md_f11, Md_f12, Md_f14, Md_f15, Md_f18, Md_f19, Md_f20, Md_f21, Md_f23, Md_f24, Md_f25, Md_f26, Md_f28, u_Md_hub_52, nI_1]
        rw [(hM2.1.2.2.2.1 j hj).1]
        by_cases h : π.2.2.1 j = nI i
        · rw [if_neg (fun z => z h), if_pos h]
        · rw [if_pos h, if_neg h, Int32.add_zero]⟩, trivial⟩) π.1 0 () 0 (by omega) trivial
      refine Eq.trans (b := f_Md_hub_25 X 175 o.1 o.2 (nI i) 0 (nI 0) (hp m2)) rfl ?_
      rw [h2, u_Md_hub_25]
      simp only [tIs, tVs, bs, if_true, true_or, or_true, i10, if_false, not_false_eq_true, not_true_eq_false, Md_rc, Md_f1, Md_f4, Md_f5, Md_f6, Md_f9, Md_f10, Md_f11, Md_f12, Md_f14, Md_f15, Md_f18, Md_f19, Md_f20, Md_f21, Md_f23, Md_f24, Md_f25, Md_f26, Md_f28, m_n hM2.1]
      rw [if_pos (nI_le (Nat.le_refl _) (by omega))]
      simp only [u_Md_hub_72, u_Md_hub_85, nI_1]
      unfold gHu
      rw [show fr (fun j v => if π.2.2.1 j = nI i then v + 1 else v) π.1 0 0 = cHu π i from rfl]
      by_cases h : o.2 < cHu π i
      · rw [if_neg (Int32.not_le.mpr h), if_neg (Int32.not_le.mpr h), if_pos h]
      · rw [if_pos (Int32.not_lt.mp h), if_pos (Int32.not_lt.mp h), if_neg h]⟩, trivial⟩) π.1 0 (none, none) (-1, 0) (by omega) trivial
    refine Eq.trans (b := f_Md_hub_11 X 175 (-1) 0 (nI 0) none none (hp m2)) rfl ?_
    rw [show f_Md_hub_11 X 175 (-1) 0 (nI 0) none none (hp m2) = _ from h1, u_Md_hub_11]
    simp only [tIs, tVs, bs, if_true, true_or, or_true, i10, if_false, not_false_eq_true, not_true_eq_false, Md_rc, Md_f1, Md_f4, Md_f5, Md_f6, Md_f9, Md_f10, Md_f11, Md_f12, Md_f14, Md_f15, Md_f18, Md_f19, Md_f20, Md_f21, Md_f23, Md_f24, Md_f25, Md_f26, Md_f28, m_n hM2.1]
    rw [if_pos (nI_le (Nat.le_refl _) (by omega))]
def gNe (s : aS) (v : Int32) (i : Nat) (a : Int32) : Int32 := fr (fun j b => if v < ab (aOut s i - aOut s j) then b else b + 1) i 0 a
theorem q_near (hC : HC m P π s) (hM : HM m π s c) (v : Int32) : Ag X m_Wp_near m_Md_near [.int v] m := by
  have hn := hC.n6
  have hv := hC.2.2.2.2
  have hc := hM.2.2.2
  rcases wthL v (L := 0) (U := 60) (l := 0) (u := 60) rfl rfl (by decide) (by decide) with ⟨q, h0, h1, rfl⟩ | hb
  · refine Ag.mk (fr (gNe s (nI q)) π.1 0 0) ⟨m, ?_, Q.rf⟩ (fun m1 hq => ?_)
    · rw [e_Wp_near, u_Wp_near_0]
      simp only [tIs, tVs, bs, if_true, true_or, or_true, i10, if_false, not_false_eq_true, not_true_eq_false, Wp_rc, Wp_f5, Wp_f6, Wp_f7, Wp_f8, Wp_f9, Wp_f10, Wp_f11, Wp_f12, Wp_f13, Wp_f14, w_in1 (in_l (L := 0) rfl h0 (by omega)) (in_u (U := 60) rfl h1 (by decide))]
      obtain ⟨⟨g1, h1⟩, -⟩ := lg0 (n := π.1) (F := fun (g : Option Value) (a : Int32) i => f_Wp_near_16 X 0 (nI q) a (nI i) g (hp m)) (R := fun _ _ => True) (g := gNe s (nI q)) (fun g a i hi _ => ⟨⟨some (.int (nI i)), by
        rw [u_Wp_near_16]
        simp only [tIs, tVs, bs, if_true, true_or, or_true, i10, if_false, not_false_eq_true, not_true_eq_false, Wp_rc, Wp_f5, Wp_f6, Wp_f7, Wp_f8, Wp_f9, Wp_f10, Wp_f11, Wp_f12, Wp_f13, Wp_f14, hC.f1, hC.sz]
        rw [if_neg (nI_ge hi (by omega))]
        obtain ⟨⟨-, h2⟩, -⟩ := lg0 (n := i) (F := fun (_ : Unit) (a : Int32) j => f_Wp_near_30 X 0 (nI q) a (nI i) (nI j) (hp m)) (R := fun _ _ => True) (g := fun j b => if nI q < ab (aOut s i - aOut s j) then b else b + 1) (fun _ a j hj _ => ⟨⟨(), by
          rw [u_Wp_near_30, if_neg (nI_ge hj (by omega))]
          simp only [tIs, tVs, bs, if_true, true_or, or_true, i10, if_false, not_false_eq_true, not_true_eq_false, Wp_rc, Wp_f5, Wp_f6, Wp_f7, Wp_f8, Wp_f9, Wp_f10, Wp_f11, Wp_f12, Wp_f13, Wp_f14, St_rc isSt_35, vw_out isSt_35 (show i < 6 by omega) hv, vw_out isSt_35 (show j < 6 by omega) hv, c_abs, u_Wp_near_64, nI_1]
          by_cases h : nI q < ab (aOut s i - aOut s j)
          · rw [if_pos h, if_pos h]
          · rw [if_neg h, if_neg h]⟩, trivial⟩) i 0 () a (by omega) trivial
        refine Eq.trans (b := f_Wp_near_30 X 0 (nI q) a (nI i) (nI 0) (hp m)) rfl ?_
        rw [h2, u_Wp_near_30, if_pos (nI_le (Nat.le_refl _) (by omega)), nI_1]
        rfl⟩, trivial⟩) π.1 0 none 0 (by omega) trivial
      refine Eq.trans (b := f_Wp_near_16 X 0 (nI q) 0 (nI 0) none (hp m)) rfl ?_
      rw [h1, u_Wp_near_16]
      simp only [tIs, tVs, bs, if_true, true_or, or_true, i10, if_false, not_false_eq_true, not_true_eq_false, Wp_rc, Wp_f5, Wp_f6, Wp_f7, Wp_f8, Wp_f9, Wp_f10, Wp_f11, Wp_f12, Wp_f13, Wp_f14, hC.f1, hC.sz]
      rw [if_pos (nI_le (Nat.le_refl _) (by omega))]
    · obtain ⟨m2, e2, q2⟩ := m_t0 (m := m1)
      have hM2 := hM.q (hq.tr q2)
      refine ⟨m2, ?_, q2⟩
      rw [e_Md_near, u_Md_near_0, e2]
      simp only [tIs, tVs, bs, if_true, true_or, or_true, i10, if_false, not_false_eq_true, not_true_eq_false, Md_rc, Md_f1, Md_f4, Md_f5, Md_f6, Md_f9, Md_f10, Md_f11, Md_f12, Md_f14, Md_f15, Md_f18, Md_f19, Md_f20, Md_f21, Md_f23, Md_f24, Md_f25, Md_f26, Md_f28, m_in1 (in_l (L := 0) rfl h0 (by omega)) (in_u (U := 60) rfl h1 (by decide))]
      obtain ⟨⟨g1, h1⟩, -⟩ := lg0 (n := π.1) (F := fun (g : Option Value) (a : Int32) i => f_Md_near_21 X 175 (nI q) a (nI i) g (hp m2)) (R := fun _ _ => True) (g := gNe s (nI q)) (fun g a i hi _ => ⟨⟨some (.int (nI i)), by
        rw [u_Md_near_21]
        simp only [tIs, tVs, bs, if_true, true_or, or_true, i10, if_false, not_false_eq_true, not_true_eq_false, Md_rc, Md_f1, Md_f4, Md_f5, Md_f6, Md_f9, Md_f10, Md_f11, Md_f12, Md_f14, Md_f15, Md_f18, Md_f19, Md_f20, Md_f21, Md_f23, Md_f24, Md_f25, Md_f26, Md_f28, m_n hM2.1]
        rw [if_neg (nI_ge hi (by omega))]
        obtain ⟨⟨-, h2⟩, -⟩ := lg0 (n := i) (F := fun (_ : Unit) (a : Int32) j => f_Md_near_32 X 175 (nI q) a (nI i) (nI j) (hp m2)) (R := fun _ _ => True) (g := fun j b => if nI q < ab (aOut s i - aOut s j) then b else b + 1) (fun _ a j hj _ => ⟨⟨(), by
          rw [u_Md_near_32, if_neg (nI_ge hj (by omega))]
          simp only [tIs, tVs, bs, if_true, true_or, or_true, i10, if_false, not_false_eq_true, not_true_eq_false, Md_rc, Md_f1, Md_f4, Md_f5, Md_f6, Md_f9, Md_f10, Md_f11, Md_f12, Md_f14, Md_f15, Md_f18, Md_f19, Md_f20, Md_f21, Md_f23, Md_f24, Md_f25, Md_f26, Md_f28, m_out (B := 0) hM2.1 hM2.2.1 hM.2.2.1 rfl (by decide) (by omega) hi, m_out (B := 0) (k := j) hM2.1 hM2.2.1 hM.2.2.1 rfl (by decide) (by omega) (by omega), d_unsigned, u_Md_near_65, nI_1]
          by_cases h : nI q < ab (aOut s i - aOut s j)
          · rw [if_pos h, if_pos h, Int32.add_zero]
          · rw [if_neg h, if_neg h]⟩, trivial⟩) i 0 () a (by omega) trivial
        refine Eq.trans (b := f_Md_near_32 X 175 (nI q) a (nI i) (nI 0) (hp m2)) rfl ?_
        rw [h2, u_Md_near_32, if_pos (nI_le (Nat.le_refl _) (by omega)), nI_1]
        rfl⟩, trivial⟩) π.1 0 none 0 (by omega) trivial
      refine Eq.trans (b := f_Md_near_21 X 175 (nI q) 0 (nI 0) none (hp m2)) rfl ?_
      rw [h1, u_Md_near_21]
      simp only [tIs, tVs, bs, if_true, true_or, or_true, i10, if_false, not_false_eq_true, not_true_eq_false, Md_rc, Md_f1, Md_f4, Md_f5, Md_f6, Md_f9, Md_f10, Md_f11, Md_f12, Md_f14, Md_f15, Md_f18, Md_f19, Md_f20, Md_f21, Md_f23, Md_f24, Md_f25, Md_f26, Md_f28, m_n hM2.1]
      rw [if_pos (nI_le (Nat.le_refl _) (by omega))]
  · refine Ag.mk (-1) ⟨m, ?_, Q.rf⟩ (fun m1 hq => ?_)
    · rw [e_Wp_near, u_Wp_near_0]
      simp only [tIs, tVs, bs, if_true, true_or, or_true, i10, if_false, not_false_eq_true, not_true_eq_false, Wp_rc, Wp_f5, Wp_f6, Wp_f7, Wp_f8, Wp_f9, Wp_f10, Wp_f11, Wp_f12, Wp_f13, Wp_f14, w_in0 hb]
    · obtain ⟨m2, e2, q2⟩ := m_t0 (m := m1)
      refine ⟨m2, ?_, q2⟩
      rw [e_Md_near, u_Md_near_0]
      simp only [tIs, tVs, bs, if_true, true_or, or_true, i10, if_false, not_false_eq_true, not_true_eq_false, Md_rc, Md_f1, Md_f4, Md_f5, Md_f6, Md_f9, Md_f10, Md_f11, Md_f12, Md_f14, Md_f15, Md_f18, Md_f19, Md_f20, Md_f21, Md_f23, Md_f24, Md_f25, Md_f26, Md_f28, e2, m_in0 hb]
theorem sub_pos {a b : Int32} (h1 : -1000 ≤ a.toInt ∧ a.toInt ≤ 1000) (h2 : -1000 ≤ b.toInt ∧ b.toInt ≤ 1000) : (a - b).toInt = a.toInt - b.toInt := by
  rw [Int32.toInt_sub, Int.bmod_eq_of_le (by omega) (by omega)]
theorem sub_lt {a b : Int32} (h1 : -1000 ≤ a.toInt ∧ a.toInt ≤ 1000) (h2 : -1000 ≤ b.toInt ∧ b.toInt ≤ 1000) : 0 < a - b ↔ b < a := by
  rw [Int32.lt_iff_toInt_lt, Int32.lt_iff_toInt_lt, sub_pos h1 h2, show (0 : Int32).toInt = 0 by decide]
  omega
theorem sub_z {a b : Int32} (h1 : -1000 ≤ a.toInt ∧ a.toInt ≤ 1000) (h2 : -1000 ≤ b.toInt ∧ b.toInt ≤ 1000) : a - b = 0 ↔ a = b := by
  rw [← Int32.toInt_inj, ← Int32.toInt_inj, sub_pos h1 h2, show (0 : Int32).toInt = 0 by decide]
  omega
/-- how many are ahead of one -/
def aAh (n : Nat) (s : aS) (i : Nat) : Int32 := fr (fun j v => if aOut s i < aOut s j ∨ (aOut s j = aOut s i ∧ j < i) then v + 1 else v) n 0 0
def aOr (n : Nat) (s : aS) (p : Int32) : Int32 := fx (fun i (_ : Unit) => if aAh n s i = p then some (nI i) else none) (fun _ u => u) (fun _ => -1) n 0 ()
theorem out_k {n : Nat} (ok : okS n c s) (hc : c ≤ 1000000) {k : Nat} (hk : k < n) : -1000 ≤ (aOut s k).toInt ∧ (aOut s k).toInt ≤ 1000 := by
  have := out_rng ok hc hk
  omega
theorem w_orderedAt (hC : HC m P π s) (ok : okS π.1 c s) (hc : c ≤ 1000000) (p : Int32) : pM X m_Wp_orderedAt [.ref 0, .int p] (hp m) = some (some (.int (aOr π.1 s p)), hp m) := by
  have hn := hC.n6
  have hv := hC.2.2.2.2
  rw [e_Wp_orderedAt, u_Wp_orderedAt_0]
  have := lgx0 (n := π.1) (F := fun (g : Option Value × Option Value × Option Value) (_ : Unit) i => f_Wp_orderedAt_2 X 0 p (nI i) g.1 g.2.1 g.2.2 (hp m)) (h := hp m) (c := fun i (_ : Unit) => if aAh π.1 s i = p then some (nI i) else none) (g := fun _ u => u) (e := fun _ => -1) (fun g _ i hi => by
    obtain ⟨⟨g2, h2⟩, -⟩ := lg0 (n := π.1) (F := fun (g : Option Value) (v : Int32) j => f_Wp_orderedAt_18 X 0 p (nI i) v (nI j) g (hp m)) (R := fun _ _ => True) (g := fun j v => if aOut s i < aOut s j ∨ (aOut s j = aOut s i ∧ j < i) then v + 1 else v) (fun g v j hj _ => ⟨⟨some (.int (aOut s j - aOut s i)), by
      rw [u_Wp_orderedAt_18]
      simp only [tIs, tVs, bs, if_true, true_or, or_true, i10, if_false, not_false_eq_true, not_true_eq_false, Wp_rc, Wp_f5, Wp_f6, Wp_f7, Wp_f8, Wp_f9, Wp_f10, Wp_f11, Wp_f12, Wp_f13, Wp_f14, hC.f1, hC.sz]
      rw [if_neg (nI_ge hj (by omega))]
      simp only [tIs, tVs, bs, if_true, true_or, or_true, i10, if_false, not_false_eq_true, not_true_eq_false, Wp_rc, Wp_f5, Wp_f6, Wp_f7, Wp_f8, Wp_f9, Wp_f10, Wp_f11, Wp_f12, Wp_f13, Wp_f14, St_rc isSt_35, vw_out isSt_35 (show i < 6 by omega) hv, vw_out isSt_35 (show j < 6 by omega) hv, u_Wp_orderedAt_66, u_Wp_orderedAt_69, nI_1]
      simp only [sub_lt (out_k ok hc hj) (out_k ok hc hi), sub_z (out_k ok hc hj) (out_k ok hc hi), nI_leI (show i < 2 ^ 31 by omega) (show j < 2 ^ 31 by omega)]
      by_cases a1 : aOut s i < aOut s j
      · rw [if_pos a1, if_pos (Or.inl a1)]
      · rw [if_neg a1]
        by_cases a2 : aOut s j = aOut s i
        · rw [if_neg (fun z => z a2)]
          by_cases a3 : j < i
          · rw [if_neg (by omega), if_pos (Or.inr ⟨a2, a3⟩)]
          · rw [if_pos (by omega), if_neg (fun z => z.elim a1 (fun y => a3 y.2))]
        · rw [if_pos a2, if_neg (fun z => z.elim a1 (fun y => a2 y.1))]⟩, trivial⟩) π.1 0 g.2.2 0 (by omega) trivial
    have e1 : f_Wp_orderedAt_2 X 0 p (nI i) g.1 g.2.1 g.2.2 (hp m) = if ¬ aAh π.1 s i = p then f_Wp_orderedAt_2 X 0 p (nI (i + 1)) (some (.int (aAh π.1 s i))) (some (.int (nI π.1))) g2 (hp m) else some (some (.int (nI i)), hp m) := by
      rw [u_Wp_orderedAt_2]
      simp only [tIs, tVs, bs, if_true, true_or, or_true, i10, if_false, not_false_eq_true, not_true_eq_false, Wp_rc, Wp_f5, Wp_f6, Wp_f7, Wp_f8, Wp_f9, Wp_f10, Wp_f11, Wp_f12, Wp_f13, Wp_f14, hC.f1, hC.sz]
      rw [if_neg (nI_ge hi (by omega))]
      refine Eq.trans (b := f_Wp_orderedAt_18 X 0 p (nI i) 0 (nI 0) g.2.2 (hp m)) rfl ?_
      rw [h2, u_Wp_orderedAt_18]
      simp only [tIs, tVs, bs, if_true, true_or, or_true, i10, if_false, not_false_eq_true, not_true_eq_false, Wp_rc, Wp_f5, Wp_f6, Wp_f7, Wp_f8, Wp_f9, Wp_f10, Wp_f11, Wp_f12, Wp_f13, Wp_f14, hC.f1, hC.sz]
      rw [if_pos (nI_le (Nat.le_refl _) (by omega)), nI_1]
      rfl
    by_cases hp' : aAh π.1 s i = p
    · exact Or.inl ⟨nI i, by rw [if_pos hp'], by rw [e1, if_neg (fun z => z hp')]⟩
    · exact Or.inr ⟨by rw [if_neg hp'], (_, _, _), by rw [e1, if_pos hp']⟩) (fun g _ => by
      rw [u_Wp_orderedAt_2]
      simp only [tIs, tVs, bs, if_true, true_or, or_true, i10, if_false, not_false_eq_true, not_true_eq_false, Wp_rc, Wp_f5, Wp_f6, Wp_f7, Wp_f8, Wp_f9, Wp_f10, Wp_f11, Wp_f12, Wp_f13, Wp_f14, hC.f1, hC.sz]
      rw [if_pos (nI_le (Nat.le_refl _) (by omega))]) π.1 0 (none, none, none) () (by omega)
  exact this
theorem m_orderedAt (hM : HM m π s c) (p : Int32) : pM X m_Md_orderedAt [.ref 175, .int p] (hp m) = some (some (.int (aOr π.1 s p)), hp m) := by
  have hn := hM.1.1
  have hc := hM.2.2.2
  rw [e_Md_orderedAt, u_Md_orderedAt_0]
  have := lgx0 (n := π.1) (F := fun (_ _ : Unit) i => f_Md_orderedAt_2 X 175 p (nI i) (hp m)) (h := hp m) (c := fun i (_ : Unit) => if aAh π.1 s i = p then some (nI i) else none) (g := fun _ u => u) (e := fun _ => -1) (fun _ _ i hi => by
    have e0 : pM X m_Md_aheadOf [.ref 175, .int (nI i)] (hp m) = some (some (.int (aAh π.1 s i)), hp m) := by
      rw [e_Md_aheadOf, u_Md_aheadOf_0]
      obtain ⟨⟨-, h2⟩, -⟩ := lg0 (n := π.1) (F := fun (_ : Unit) (v : Int32) j => f_Md_aheadOf_4 X 175 (nI i) v (nI j) (hp m)) (R := fun _ _ => True) (g := fun j v => if aOut s i < aOut s j ∨ (aOut s j = aOut s i ∧ j < i) then v + 1 else v) (fun _ v j hj _ => ⟨⟨(), by
        rw [u_Md_aheadOf_4]
        simp only [tIs, tVs, bs, if_true, true_or, or_true, i10, if_false, not_false_eq_true, not_true_eq_false, Md_rc, Md_f1, Md_f4, Md_f5, Md_f6, Md_f9, Md_f10, Md_f11, Md_f12, Md_f14, Md_f15, Md_f18, Md_f19, Md_f20, Md_f21, Md_f23, Md_f24, Md_f25, Md_f26, Md_f28, m_n hM.1]
        rw [if_neg (nI_ge hj (by omega))]
        simp only [tIs, tVs, bs, if_true, true_or, or_true, i10, if_false, not_false_eq_true, not_true_eq_false, Md_rc, Md_f1, Md_f4, Md_f5, Md_f6, Md_f9, Md_f10, Md_f11, Md_f12, Md_f14, Md_f15, Md_f18, Md_f19, Md_f20, Md_f21, Md_f23, Md_f24, Md_f25, Md_f26, Md_f28, m_out (B := 0) hM.1 hM.2.1 hM.2.2.1 rfl (by decide) (by omega) hi, m_out (B := 0) hM.1 hM.2.1 hM.2.2.1 rfl (by decide) (by omega) hj, u_Md_aheadOf_48, u_Md_aheadOf_52, u_Md_aheadOf_53, nI_1]
        simp only [nI_leI (show i < 2 ^ 31 by omega) (show j < 2 ^ 31 by omega)]
        by_cases a1 : aOut s i < aOut s j
        · rw [if_pos a1, if_pos (Or.inl a1)]
        · rw [if_neg a1]
          by_cases a2 : aOut s j = aOut s i
          · rw [if_neg (fun z => z a2)]
            by_cases a3 : j < i
            · rw [if_neg (by omega), if_pos (Or.inr ⟨a2, a3⟩)]
            · rw [if_pos (by omega), if_neg (fun z => z.elim a1 (fun y => a3 y.2)), Int32.add_zero]
          · rw [if_pos a2, if_neg (fun z => z.elim a1 (fun y => a2 y.1)), Int32.add_zero]⟩, trivial⟩) π.1 0 () 0 (by omega) trivial
      refine Eq.trans (b := f_Md_aheadOf_4 X 175 (nI i) 0 (nI 0) (hp m)) rfl ?_
      rw [h2, u_Md_aheadOf_4]
      simp only [tIs, tVs, bs, if_true, true_or, or_true, i10, if_false, not_false_eq_true, not_true_eq_false, Md_rc, Md_f1, Md_f4, Md_f5, Md_f6, Md_f9, Md_f10, Md_f11, Md_f12, Md_f14, Md_f15, Md_f18, Md_f19, Md_f20, Md_f21, Md_f23, Md_f24, Md_f25, Md_f26, Md_f28, m_n hM.1]
      rw [if_pos (nI_le (Nat.le_refl _) (by omega))]
      rfl
    have e1 : f_Md_orderedAt_2 X 175 p (nI i) (hp m) = if ¬ aAh π.1 s i = p then f_Md_orderedAt_2 X 175 p (nI (i + 1)) (hp m) else some (some (.int (nI i)), hp m) := by
      rw [u_Md_orderedAt_2]
      simp only [tIs, tVs, bs, if_true, true_or, or_true, i10, if_false, not_false_eq_true, not_true_eq_false, Md_rc, Md_f1, Md_f4, Md_f5, Md_f6, Md_f9, Md_f10, Md_f11, Md_f12, Md_f14, Md_f15, Md_f18, Md_f19, Md_f20, Md_f21, Md_f23, Md_f24, Md_f25, Md_f26, Md_f28, m_n hM.1]
      rw [if_neg (nI_ge hi (by omega))]
      simp only [tIs, tVs, bs, if_true, true_or, or_true, i10, if_false, not_false_eq_true, not_true_eq_false, Md_rc, Md_f1, Md_f4, Md_f5, Md_f6, Md_f9, Md_f10, Md_f11, Md_f12, Md_f14, Md_f15, Md_f18, Md_f19, Md_f20, Md_f21, Md_f23, Md_f24, Md_f25, Md_f26, Md_f28, e0, nI_1]
    by_cases hp' : aAh π.1 s i = p
    · exact Or.inl ⟨nI i, by rw [if_pos hp'], by rw [e1, if_neg (fun z => z hp')]⟩
    · exact Or.inr ⟨by rw [if_neg hp'], (), by rw [e1, if_pos hp']⟩) (fun g _ => by
      rw [u_Md_orderedAt_2]
      simp only [tIs, tVs, bs, if_true, true_or, or_true, i10, if_false, not_false_eq_true, not_true_eq_false, Md_rc, Md_f1, Md_f4, Md_f5, Md_f6, Md_f9, Md_f10, Md_f11, Md_f12, Md_f14, Md_f15, Md_f18, Md_f19, Md_f20, Md_f21, Md_f23, Md_f24, Md_f25, Md_f26, Md_f28, m_n hM.1]
      rw [if_pos (nI_le (Nat.le_refl _) (by omega))]) π.1 0 () () (by omega)
  exact this
theorem q_ordered (hC : HC m P π s) (hM : HM m π s c) (p : Int32) : Ag X m_Wp_ordered m_Md_ordered [.int p] m := by
  have hc := hM.2.2.2
  refine Ag.mk (aOr π.1 s p) ⟨m, ?_, Q.rf⟩ (fun m1 hq => ?_)
  · rw [e_Wp_ordered, u_Wp_ordered_0]
    simp only [tIs, tVs, bs, if_true, true_or, or_true, i10, if_false, not_false_eq_true, not_true_eq_false, Wp_rc, Wp_f5, Wp_f6, Wp_f7, Wp_f8, Wp_f9, Wp_f10, Wp_f11, Wp_f12, Wp_f13, Wp_f14, w_orderedAt hC hM.2.2.1 (by omega)]
  · obtain ⟨m2, e2, q2⟩ := m_t0 (m := m1)
    refine ⟨m2, ?_, q2⟩
    rw [e_Md_ordered, u_Md_ordered_0]
    simp only [tIs, tVs, bs, if_true, true_or, or_true, i10, if_false, not_false_eq_true, not_true_eq_false, Md_rc, Md_f1, Md_f4, Md_f5, Md_f6, Md_f9, Md_f10, Md_f11, Md_f12, Md_f14, Md_f15, Md_f18, Md_f19, Md_f20, Md_f21, Md_f23, Md_f24, Md_f25, Md_f26, Md_f28, e2, m_orderedAt (hM.q (hq.tr q2))]
theorem fx_or {n : Nat} {c : Nat → Unit → Option Int32} {e : Unit → Int32} (hc : ∀ i u r, i < n → c i u = some r → r = nI i) : ∀ (d i : Nat) (u : Unit), i + d = n → fx c (fun _ u => u) e d i u = e u ∨ ∃ k, k < n ∧ fx c (fun _ u => u) e d i u = nI k
  | 0, i, u, h => Or.inl (by simp only [fx])
  | d + 1, i, u, h => by
    simp only [fx]
    cases hr : c i u with
    | some r => exact Or.inr ⟨i, by omega, hc i u r (by omega) hr⟩
    | none => exact fx_or hc d (i + 1) u (by omega)
theorem aOr_or (n : Nat) (s : aS) (p : Int32) : aOr n s p = -1 ∨ ∃ k, k < n ∧ aOr n s p = nI k := fx_or (fun i u r _ h => by
  split at h
  · cases h; rfl
  · cases h) n 0 () (by omega)
theorem q_middle (hC : HC m P π s) (hM : HM m π s c) : Ag X m_Wp_middle m_Md_middle [] m := by
  have hn := hC.n6
  have hv := hC.2.2.2.2
  have hc := hM.2.2.2
  have hz : π.1 = 0 → ∀ p, aOr π.1 s p = -1 := by intro h p; rw [h]; rfl
  refine Ag.mk (if aOr π.1 s (nI π.1 - 1 - nI π.1 / 2) = -1 then -1000 else aOut s (aOr π.1 s (nI π.1 - 1 - nI π.1 / 2)).toNatClampNeg) ⟨m, ?_, Q.rf⟩ (fun m1 hq => ?_)
  · rw [e_Wp_middle, u_Wp_middle_0]
    simp only [tIs, tVs, bs, if_true, true_or, or_true, i10, if_false, not_false_eq_true, not_true_eq_false, Wp_rc, Wp_f5, Wp_f6, Wp_f7, Wp_f8, Wp_f9, Wp_f10, Wp_f11, Wp_f12, Wp_f13, Wp_f14, hC.f1, hC.sz]
    by_cases h0 : nI π.1 = 0
    · rw [if_neg (fun z => z h0), hz ((nI_eq (b := 0) (by omega) (by decide)).mp h0), if_pos rfl]
    · rw [if_pos h0]
      simp only [tIs, tVs, bs, if_true, true_or, or_true, i10, if_false, not_false_eq_true, not_true_eq_false, Wp_rc, Wp_f5, Wp_f6, Wp_f7, Wp_f8, Wp_f9, Wp_f10, Wp_f11, Wp_f12, Wp_f13, Wp_f14, w_orderedAt hC hM.2.2.1 (show c ≤ 1000000 by omega)]
      rcases aOr_or π.1 s (nI π.1 - 1 - nI π.1 / 2) with h | ⟨k, hk, h⟩
      · rw [h, if_neg (fun z => z rfl), if_pos rfl, u_Wp_middle_57]
      · rw [h, if_pos (enc_m1 (by omega)), if_neg (enc_m1 (by omega))]
        simp only [tIs, tVs, bs, if_true, true_or, or_true, i10, if_false, not_false_eq_true, not_true_eq_false, Wp_rc, Wp_f5, Wp_f6, Wp_f7, Wp_f8, Wp_f9, Wp_f10, Wp_f11, Wp_f12, Wp_f13, Wp_f14, St_rc isSt_35, vw_out isSt_35 (show k < 6 by omega) hv, u_Wp_middle_57, nI_clamp (show k < 2 ^ 31 by omega)]
  · obtain ⟨m2, e2, q2⟩ := m_t0 (m := m1)
    have hM2 := hM.q (hq.tr q2)
    refine ⟨m2, ?_, q2⟩
    rw [e_Md_middle, u_Md_middle_0]
    simp only [tIs, tVs, bs, if_true, true_or, or_true, i10, if_false, not_false_eq_true, not_true_eq_false, Md_rc, Md_f1, Md_f4, Md_f5, Md_f6, Md_f9, Md_f10, Md_f11, Md_f12, Md_f14, Md_f15, Md_f18, Md_f19, Md_f20, Md_f21, Md_f23, Md_f24, Md_f25, Md_f26, Md_f28, e2, m_n hM2.1, m_orderedAt hM2]
    rcases aOr_or π.1 s (nI π.1 - 1 - nI π.1 / 2) with h | ⟨k, hk, h⟩
    · rw [h, if_neg (by decide), if_pos rfl, u_Md_middle_39]
    · rw [h, if_pos (nI_pos' (by omega)), if_neg (enc_m1 (by omega))]
      simp only [tIs, tVs, bs, if_true, true_or, or_true, i10, if_false, not_false_eq_true, not_true_eq_false, Md_rc, Md_f1, Md_f4, Md_f5, Md_f6, Md_f9, Md_f10, Md_f11, Md_f12, Md_f14, Md_f15, Md_f18, Md_f19, Md_f20, Md_f21, Md_f23, Md_f24, Md_f25, Md_f26, Md_f28, m_out (B := 0) hM2.1 hM2.2.1 hM.2.2.1 rfl (by decide) (show c ≤ 1000000 by omega) hk, u_Md_middle_39, nI_clamp (show k < 2 ^ 31 by omega)]
end Q3
