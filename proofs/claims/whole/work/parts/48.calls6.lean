/-! askings, first, cure. -/
def pop (w : Nat) : Nat := (List.range 6).countP (fun k => w.testBit k)
/-- the machine's count of bits -/
def pcv (v0 : Int32) : Int32 := ((((((((v0 - (((v0 : Int32).toUInt32 >>> ((1 : Int32).toUInt32 &&& Int32.toUInt32 31)).toInt32 &&& 1431655765)) &&& 858993459) + ((((v0 - (((v0 : Int32).toUInt32 >>> ((1 : Int32).toUInt32 &&& Int32.toUInt32 31)).toInt32 &&& 1431655765)) : Int32).toUInt32 >>> ((2 : Int32).toUInt32 &&& Int32.toUInt32 31)).toInt32 &&& 858993459)) + (((((v0 - (((v0 : Int32).toUInt32 >>> ((1 : Int32).toUInt32 &&& Int32.toUInt32 31)).toInt32 &&& 1431655765)) &&& 858993459) + ((((v0 - (((v0 : Int32).toUInt32 >>> ((1 : Int32).toUInt32 &&& Int32.toUInt32 31)).toInt32 &&& 1431655765)) : Int32).toUInt32 >>> ((2 : Int32).toUInt32 &&& Int32.toUInt32 31)).toInt32 &&& 858993459)) : Int32).toUInt32 >>> ((4 : Int32).toUInt32 &&& Int32.toUInt32 31)).toInt32) &&& 252645135) + (((((((v0 - (((v0 : Int32).toUInt32 >>> ((1 : Int32).toUInt32 &&& Int32.toUInt32 31)).toInt32 &&& 1431655765)) &&& 858993459) + ((((v0 - (((v0 : Int32).toUInt32 >>> ((1 : Int32).toUInt32 &&& Int32.toUInt32 31)).toInt32 &&& 1431655765)) : Int32).toUInt32 >>> ((2 : Int32).toUInt32 &&& Int32.toUInt32 31)).toInt32 &&& 858993459)) + (((((v0 - (((v0 : Int32).toUInt32 >>> ((1 : Int32).toUInt32 &&& Int32.toUInt32 31)).toInt32 &&& 1431655765)) &&& 858993459) + ((((v0 - (((v0 : Int32).toUInt32 >>> ((1 : Int32).toUInt32 &&& Int32.toUInt32 31)).toInt32 &&& 1431655765)) : Int32).toUInt32 >>> ((2 : Int32).toUInt32 &&& Int32.toUInt32 31)).toInt32 &&& 858993459)) : Int32).toUInt32 >>> ((4 : Int32).toUInt32 &&& Int32.toUInt32 31)).toInt32) &&& 252645135) : Int32).toUInt32 >>> ((8 : Int32).toUInt32 &&& Int32.toUInt32 31)).toInt32) + ((((((((v0 - (((v0 : Int32).toUInt32 >>> ((1 : Int32).toUInt32 &&& Int32.toUInt32 31)).toInt32 &&& 1431655765)) &&& 858993459) + ((((v0 - (((v0 : Int32).toUInt32 >>> ((1 : Int32).toUInt32 &&& Int32.toUInt32 31)).toInt32 &&& 1431655765)) : Int32).toUInt32 >>> ((2 : Int32).toUInt32 &&& Int32.toUInt32 31)).toInt32 &&& 858993459)) + (((((v0 - (((v0 : Int32).toUInt32 >>> ((1 : Int32).toUInt32 &&& Int32.toUInt32 31)).toInt32 &&& 1431655765)) &&& 858993459) + ((((v0 - (((v0 : Int32).toUInt32 >>> ((1 : Int32).toUInt32 &&& Int32.toUInt32 31)).toInt32 &&& 1431655765)) : Int32).toUInt32 >>> ((2 : Int32).toUInt32 &&& Int32.toUInt32 31)).toInt32 &&& 858993459)) : Int32).toUInt32 >>> ((4 : Int32).toUInt32 &&& Int32.toUInt32 31)).toInt32) &&& 252645135) + (((((((v0 - (((v0 : Int32).toUInt32 >>> ((1 : Int32).toUInt32 &&& Int32.toUInt32 31)).toInt32 &&& 1431655765)) &&& 858993459) + ((((v0 - (((v0 : Int32).toUInt32 >>> ((1 : Int32).toUInt32 &&& Int32.toUInt32 31)).toInt32 &&& 1431655765)) : Int32).toUInt32 >>> ((2 : Int32).toUInt32 &&& Int32.toUInt32 31)).toInt32 &&& 858993459)) + (((((v0 - (((v0 : Int32).toUInt32 >>> ((1 : Int32).toUInt32 &&& Int32.toUInt32 31)).toInt32 &&& 1431655765)) &&& 858993459) + ((((v0 - (((v0 : Int32).toUInt32 >>> ((1 : Int32).toUInt32 &&& Int32.toUInt32 31)).toInt32 &&& 1431655765)) : Int32).toUInt32 >>> ((2 : Int32).toUInt32 &&& Int32.toUInt32 31)).toInt32 &&& 858993459)) : Int32).toUInt32 >>> ((4 : Int32).toUInt32 &&& Int32.toUInt32 31)).toInt32) &&& 252645135) : Int32).toUInt32 >>> ((8 : Int32).toUInt32 &&& Int32.toUInt32 31)).toInt32) : Int32).toUInt32 >>> ((16 : Int32).toUInt32 &&& Int32.toUInt32 31)).toInt32) &&& 63)
theorem pcv_nI : ∀ w, w < 64 → pcv (nI w) = nI (pop w) ∧ pop w ≤ 6 := by decide +kernel
def bfr (x : Int32) : Int32 := fr (fun k v => v + ((x >>> (nI k &&& 31)) &&& 1)) 30 0 0
theorem bfr_nI : ∀ w, w < 64 → bfr (nI w) = nI (pop w) := by decide +kernel
theorem cpl_nI : ∀ n, n ≤ 6 → ∀ w, w < 64 → nI (2 ^ n - 1) &&& (nI w ^^^ -1) = nI ((2 ^ n - 1) &&& (63 - w)) ∧ (2 ^ n - 1) &&& (63 - w) < 64 := by decide +kernel
theorem cpl_bit : ∀ n, n ≤ 6 → ∀ w, w < 64 → ∀ i, i < n → ((2 ^ n - 1) &&& (63 - w)).testBit i = !w.testBit i := by decide +kernel
theorem last_bit : ∀ n, n ≤ 6 → 0 < n → (2 ^ n - 2).testBit 0 = false ∧ ∀ i, i < n → 0 < i → (2 ^ n - 2).testBit i = true := by decide +kernel
theorem all_lt : ∀ n, n ≤ 6 → 2 ^ n - 1 < 64 := by decide
theorem pop_lt : ∀ n, n ≤ 6 → ∀ w, w < 2 ^ n - 1 → pop w < pop (2 ^ n - 1) := by decide +kernel
section Q7
variable {m : pm_M} {X : pv_X} {P c : Nat} {π : aP} {s : aS}
theorem c_bitCount {w : Nat} {h : pv_H} (hw : w < 64) : pM X m_In_bitCount [.int (nI w)] h = some (some (.int (nI (pop w))), h) := by
  rw [e_In_bitCount, u_In_bitCount_0, ← (pcv_nI w hw).1]
  rfl
theorem m_bits {w : Nat} {h : pv_H} (hw : w < 64) : pM X m_Md_bits [.int (nI w)] h = some (some (.int (nI (pop w))), h) := by
  rw [e_Md_bits, u_Md_bits_0]
  have h1 := lp0 (n := 30) (F := fun (v : Int32) i => f_Md_bits_4 X (nI w) v (nI i) h) (g := fun k v => v + ((nI w >>> (nI k &&& 31)) &&& 1)) (fun v i hi => by
    rw [u_Md_bits_4, if_neg (show ¬ (30 : Int32) ≤ nI i from nI_ge (b := 30) hi (by decide)), nI_1]) 30 0 0 (by omega)
  refine Eq.trans (b := f_Md_bits_4 X (nI w) 0 (nI 0) h) rfl ?_
  rw [h1, u_Md_bits_4, if_pos (by decide), ← bfr_nI w hw]
  rfl
/-- those who stay: near enough to one another -/
def nrE (n : Nat) (s : aS) (q w : Nat) : Bool := !decide (nI q < spr n s (fun i => !w.testBit i))
def gAk (n : Nat) (s : aS) (q w b : Nat) : Nat := if pop w < pop b ∧ nrE n s q w = true then w else b
def gAm (n : Nat) (s : aS) (q w : Nat) (o : Option Nat) : Option Nat := match o with
  | none => if nrE n s q w then some w else none
  | some b => if pop w < pop b ∧ nrE n s q w = true then some w else some b
theorem spr_one (n : Nat) (s : aS) (b : Nat → Bool) (h0 : b 0 = true) (h : ∀ i, i < n → 0 < i → b i = false) (hn : 0 < n) (hv : -360 ≤ (aOut s 0).toInt ∧ (aOut s 0).toInt ≤ 359) : spr n s b = 0 := by
  have e : lhs n s b = (aOut s 0, aOut s 0) := by
    unfold lhs
    obtain ⟨d, rfl⟩ : ∃ d, n = d + 1 := ⟨n - 1, by omega⟩
    simp only [fr]
    have e1 : lh s b 0 (360, -361) = (aOut s 0, aOut s 0) := by
      unfold lh
      rw [if_pos h0]
      dsimp only
      rw [if_pos (by rw [Int32.lt_iff_toInt_lt, show (360 : Int32).toInt = 360 by decide]; omega), if_pos (by rw [Int32.lt_iff_toInt_lt, show (-361 : Int32).toInt = -361 by decide]; omega)]
    rw [e1]
    exact (fr_inv (n := d + 1) (R := fun i x => 0 < i ∧ x = (aOut s 0, aOut s 0)) (fun i x hi hx => ⟨by omega, by
      rw [hx.2]; unfold lh; rw [if_neg (by rw [h i hi hx.1]; decide)]⟩) d 1 (aOut s 0, aOut s 0) (by omega) ⟨by decide, rfl⟩).2
  unfold spr
  rw [e]
  dsimp only
  rw [if_pos (Int32.le_iff_toInt_le.mpr (by omega)), Int32.sub_self]
theorem ask_eq {n : Nat} (hn : n ≤ 6) (ok : okS n c s) (hc : c ≤ 1000000) (q : Nat) (hq : q ≤ 60) : fr (gAm n s q) (2 ^ n - 1) 0 (if n = 0 then some 0 else none) = some (fr (gAk n s q) (2 ^ n - 1) 0 (2 ^ n - 1)) := by
  rcases Nat.eq_zero_or_pos n with hz | hp0
  · subst hz
    simp only [fr, if_true]
    rfl
  · rw [if_neg (by omega)]
    have hN : 0 < 2 ^ n - 1 := by
      have : 2 ^ 1 ≤ 2 ^ n := Nat.pow_le_pow_right (by decide) hp0
      omega
    obtain ⟨d, hd⟩ : ∃ d, 2 ^ n - 1 = d + 1 := ⟨2 ^ n - 1 - 1, by omega⟩
    have hR := fr_rel (n := d) (R := fun i (a : Option Nat) b => (a = none ∧ b = 2 ^ n - 1) ∨ a = some b) (g := gAm n s q) (g' := gAk n s q) (fun i a b hi hr => by
      unfold gAm gAk
      rcases hr with ⟨rfl, rfl⟩ | rfl
      · dsimp only
        have := pop_lt n hn i (by omega)
        by_cases h : nrE n s q i = true
        · rw [if_pos h, if_pos ⟨this, h⟩]; exact Or.inr rfl
        · rw [if_neg h, if_neg (fun z => h z.2)]; exact Or.inl ⟨rfl, rfl⟩
      · dsimp only
        split <;> exact Or.inr rfl) d 0 none (2 ^ n - 1) (by omega) (Or.inl ⟨rfl, rfl⟩)
    have el : nrE n s q d = true := by
      unfold nrE
      have hd2 : d = 2 ^ n - 2 := by omega
      obtain ⟨b0, b1⟩ := last_bit n hn hp0
      have : spr n s (fun i => !d.testBit i) = 0 := spr_one n s _ (by rw [hd2, b0]; rfl) (fun i hi h0 => by rw [hd2, b1 i hi h0]; rfl) hp0 (out_rng ok hc hp0)
      rw [this, decide_eq_false (by exact fun z => absurd (Int32.lt_iff_toInt_lt.mp z) (by rw [nI_toInt (by omega), show (0 : Int32).toInt = 0 by decide]; omega))]
      rfl
    rw [hd, fr_snoc, Nat.zero_add, fr_snoc, Nat.zero_add]
    have pl := pop_lt n hn d (by omega)
    rw [hd] at hR pl
    rcases hR with ⟨h1, h2⟩ | h1
    · rw [h1, h2]
      unfold gAm gAk
      dsimp only
      rw [if_pos el, if_pos ⟨pl, el⟩]
    · rw [h1]
      unfold gAm gAk
      dsimp only
      split <;> rfl
theorem gAk_lt {n q w b : Nat} {s : aS} (hw : w < 64) (hb : b < 64) : gAk n s q w b < 64 := by unfold gAk; split <;> assumption
theorem gAm_lt {n q w : Nat} {s : aS} {o : Option Nat} (hw : w < 64) (hb : ∀ b, o = some b → b < 64) : ∀ b, gAm n s q w o = some b → b < 64 := by
  intro b h
  unfold gAm at h
  split at h
  · split at h <;> cases h; exact hw
  · rename_i b'
    have := hb b' rfl
    split at h <;> cases h <;> assumption
theorem q_askings (hC : HC m P π s) (hM : HM m π s c) (v : Int32) : Ag X m_Wp_askings m_Md_askings [.int v] m := by
  have hn := hC.n6
  have hv := hC.2.2.2.2
  have hc := hM.2.2.2
  have hal := all_lt π.1 hn
  rcases wthL v (L := 0) (U := 60) (l := 0) (u := 60) rfl rfl (by decide) (by decide) with ⟨q, h0, h1, rfl⟩ | hb
  · refine Ag.mk (nI (fr (gAk π.1 s q) (2 ^ π.1 - 1) 0 (2 ^ π.1 - 1))) ⟨m, ?_, Q.rf⟩ (fun m1 hq => ?_)
    · rw [e_Wp_askings, u_Wp_askings_0]
      simp only [tIs, tVs, bs, if_true, true_or, or_true, i10, if_false, not_false_eq_true, not_true_eq_false, Wp_rc, Wp_f5, Wp_f6, Wp_f7, Wp_f8, Wp_f9, Wp_f10, Wp_f11, Wp_f12, Wp_f13, Wp_f14, w_in1 (in_l (L := 0) rfl h0 (by omega)) (in_u (U := 60) rfl h1 (by decide)), hC.f1, hC.sz, (all_nI π.1 hn).1]
      obtain ⟨⟨g', h2⟩, -⟩ := lg0 (n := 2 ^ π.1 - 1) (F := fun (g : Option Value) (b : Nat) w => f_Wp_askings_29 X 0 (nI q) (nI (2 ^ π.1 - 1)) (nI b) (nI w) g (hp m)) (R := fun _ b => b < 64) (g := gAk π.1 s q) (fun g b w hw hr => ⟨⟨some (.int (if pop w < pop b then 1 else 0)), by
        have hw6 : w < 64 := by omega
        have c1 := (pcv_nI w hw6).2
        have c2 := (pcv_nI b hr).2
        rw [u_Wp_askings_29, if_neg (nI_ge hw (by omega))]
        simp only [tIs, tVs, bs, if_true, true_or, or_true, i10, if_false, not_false_eq_true, not_true_eq_false, Wp_rc, Wp_f5, Wp_f6, Wp_f7, Wp_f8, Wp_f9, Wp_f10, Wp_f11, Wp_f12, Wp_f13, Wp_f14, c_bitCount hw6, c_bitCount hr]
        simp only [nI_leI (show pop b < 2 ^ 31 by omega) (show pop w < 2 ^ 31 by omega)]
        obtain ⟨p1, p2⟩ := cpl_nI π.1 hn w hw6
        by_cases hpp : pop w < pop b
        · rw [if_neg (by omega), u_Wp_askings_52, if_neg (by decide)]
          simp only [tIs, tVs, bs, if_true, true_or, or_true, i10, if_false, not_false_eq_true, not_true_eq_false, Wp_rc, Wp_f5, Wp_f6, Wp_f7, Wp_f8, Wp_f9, Wp_f10, Wp_f11, Wp_f12, Wp_f13, Wp_f14, p1, w_spreadOf hC isSt_35 hv hM.2.2.1 (show c ≤ 1000000 by omega) p2, u_Wp_askings_80, nI_1]
          rw [spr_ext (b' := fun i => !w.testBit i) (fun i hi => by rw [cpl_bit π.1 hn w hw6 i hi]), if_pos hpp]
          unfold gAk nrE
          by_cases hs : nI q < spr π.1 s (fun i => !w.testBit i)
          · rw [if_pos hs, decide_eq_true hs, if_neg (fun z => by simp at z)]
          · rw [if_neg hs, decide_eq_false hs, if_pos ⟨hpp, rfl⟩]
        · rw [if_pos (by omega), u_Wp_askings_52, if_pos rfl, u_Wp_askings_80, nI_1, if_neg hpp]
          unfold gAk
          rw [if_neg (fun z => hpp z.1)]⟩, gAk_lt (by omega) hr⟩) (2 ^ π.1 - 1) 0 none (2 ^ π.1 - 1) (by omega) hal
      refine Eq.trans (b := f_Wp_askings_29 X 0 (nI q) (nI (2 ^ π.1 - 1)) (nI (2 ^ π.1 - 1)) (nI 0) none (hp m)) rfl ?_
      rw [h2, u_Wp_askings_29, if_pos (nI_le (Nat.le_refl _) (by omega))]
    · obtain ⟨m2, e2, q2⟩ := m_t0 (m := m1)
      have hM2 := hM.q (hq.tr q2)
      refine ⟨m2, ?_, q2⟩
      rw [e_Md_askings, u_Md_askings_0, e2]
      simp only [tIs, tVs, bs, if_true, true_or, or_true, i10, if_false, not_false_eq_true, not_true_eq_false, Md_rc, Md_f1, Md_f4, Md_f5, Md_f6, Md_f9, Md_f10, Md_f11, Md_f12, Md_f14, Md_f15, Md_f18, Md_f19, Md_f20, Md_f21, Md_f23, Md_f24, Md_f25, Md_f26, Md_f28, m_in1 (in_l (L := 0) rfl h0 (by omega)) (in_u (U := 60) rfl h1 (by decide)), m_n hM2.1, (all_nI π.1 hn).1, u_Md_askings_38]
      obtain ⟨⟨-, h2⟩, -⟩ := lg0 (n := 2 ^ π.1 - 1) (F := fun (_ : Unit) (o : Option Nat) w => f_Md_askings_42 X 175 (nI q) (nI (2 ^ π.1 - 1)) (enc o) (nI w) (hp m2)) (R := fun _ o => ∀ b, o = some b → b < 64) (g := gAm π.1 s q) (fun _ o w hw hr => ⟨⟨(), by
        have hw6 : w < 64 := by omega
        have e64 : ∀ o', f_Md_askings_64 X 175 (nI q) (nI (2 ^ π.1 - 1)) o' (nI w) (hp m2) = if nrE π.1 s q w then f_Md_askings_42 X 175 (nI q) (nI (2 ^ π.1 - 1)) (nI w) (nI (w + 1)) (hp m2) else f_Md_askings_42 X 175 (nI q) (nI (2 ^ π.1 - 1)) o' (nI (w + 1)) (hp m2) := by
          intro o'
          rw [u_Md_askings_64]
          simp only [tIs, tVs, bs, if_true, true_or, or_true, i10, if_false, not_false_eq_true, not_true_eq_false, Md_rc, Md_f1, Md_f4, Md_f5, Md_f6, Md_f9, Md_f10, Md_f11, Md_f12, Md_f14, Md_f15, Md_f18, Md_f19, Md_f20, Md_f21, Md_f23, Md_f24, Md_f25, Md_f26, Md_f28, m_spreadBut hM2 hw6, u_Md_askings_79, u_Md_askings_80, nI_1]
          unfold nrE
          by_cases hs : nI q < spr π.1 s (fun i => !w.testBit i)
          · rw [if_pos hs, decide_eq_true hs, if_neg (by simp)]
          · rw [if_neg hs, decide_eq_false hs, if_pos (by decide)]
        rw [u_Md_askings_42, if_neg (nI_ge hw (by omega))]
        cases o with
        | none =>
          rw [if_pos (show enc none < 0 by decide), e64]
          unfold gAm
          dsimp only
          split <;> rfl
        | some b =>
          have hb := hr b rfl
          have c1 := (pcv_nI w hw6).2
          have c2 := (pcv_nI b hb).2
          rw [show enc (some b) = nI b from rfl, if_neg (nI_pos (by omega))]
          simp only [tIs, tVs, bs, if_true, true_or, or_true, i10, if_false, not_false_eq_true, not_true_eq_false, Md_rc, Md_f1, Md_f4, Md_f5, Md_f6, Md_f9, Md_f10, Md_f11, Md_f12, Md_f14, Md_f15, Md_f18, Md_f19, Md_f20, Md_f21, Md_f23, Md_f24, Md_f25, Md_f26, Md_f28, m_bits hw6, m_bits hb]
          simp only [nI_leI (show pop b < 2 ^ 31 by omega) (show pop w < 2 ^ 31 by omega)]
          unfold gAm
          dsimp only
          by_cases hpp : pop w < pop b
          · rw [if_neg (by omega), e64]
            by_cases hs : nrE π.1 s q w = true
            · rw [if_pos hs, if_pos ⟨hpp, hs⟩]; rfl
            · rw [if_neg hs, if_neg (fun z => hs z.2)]; rfl
          · rw [if_pos (by omega), u_Md_askings_79, u_Md_askings_80, nI_1, if_neg (fun z => hpp z.1)]; rfl⟩, gAm_lt (by omega) hr⟩) (2 ^ π.1 - 1) 0 () (if π.1 = 0 then some 0 else none) (by omega) (fun b h => by split at h <;> cases h; decide)
      rw [ask_eq hn hM.2.2.1 (by omega) q h1] at h2
      have h3 : f_Md_askings_42 X 175 (nI q) (nI (2 ^ π.1 - 1)) (enc (some (fr (gAk π.1 s q) (2 ^ π.1 - 1) 0 (2 ^ π.1 - 1)))) (nI (2 ^ π.1 - 1)) (hp m2) = some (some (.int (nI (fr (gAk π.1 s q) (2 ^ π.1 - 1) 0 (2 ^ π.1 - 1)))), hp m2) := by
        rw [u_Md_askings_42, if_pos (nI_le (Nat.le_refl _) (by omega))]
        rfl
      rw [h3] at h2
      rw [← h2]
      by_cases hz : π.1 = 0
      · rw [if_neg (fun z => z (by rw [hz]; rfl)), if_pos hz]; rfl
      · rw [if_pos (by rw [show (0 : Int32) = nI 0 from rfl, nI_eq (by omega) (by decide)]; exact hz), if_neg hz]; rfl
  · refine Ag.mk (-1) ⟨m, ?_, Q.rf⟩ (fun m1 hq => ?_)
    · rw [e_Wp_askings, u_Wp_askings_0]
      simp only [tIs, tVs, bs, if_true, true_or, or_true, i10, if_false, not_false_eq_true, not_true_eq_false, Wp_rc, Wp_f5, Wp_f6, Wp_f7, Wp_f8, Wp_f9, Wp_f10, Wp_f11, Wp_f12, Wp_f13, Wp_f14, w_in0 hb]
    · obtain ⟨m2, e2, q2⟩ := m_t0 (m := m1)
      refine ⟨m2, ?_, q2⟩
      rw [e_Md_askings, u_Md_askings_0]
      simp only [tIs, tVs, bs, if_true, true_or, or_true, i10, if_false, not_false_eq_true, not_true_eq_false, Md_rc, Md_f1, Md_f4, Md_f5, Md_f6, Md_f9, Md_f10, Md_f11, Md_f12, Md_f14, Md_f15, Md_f18, Md_f19, Md_f20, Md_f21, Md_f23, Md_f24, Md_f25, Md_f26, Md_f28, e2, m_in0 hb]
theorem c_ntz {w : Nat} {h : pv_H} (hw : w < 64) (h0 : w ≠ 0) : ∃ k, k < 6 ∧ (List.range 6).find? (fun k => w.testBit k) = some k ∧ pM X m_In_numberOfTrailingZeros [.int (nI w)] h = some (some (.int (nI k)), h) := by
  rw [e_In_numberOfTrailingZeros, u_In_numberOfTrailingZeros_0]
  simp only [u_In_numberOfTrailingZeros_34, u_In_numberOfTrailingZeros_49, u_In_numberOfTrailingZeros_62, u_In_numberOfTrailingZeros_74]
  have key : ∀ w, w < 64 → w ≠ 0 → ∃ k, k < 6 ∧ (List.range 6).find? (fun k => w.testBit k) = some k ∧ (if 0 < ((nI w ^^^ (-1)) &&& (nI w - 1)) then (((nI w ^^^ (-1)) &&& (nI w - 1)) ≤ 65536 ∧ ((nI w ^^^ (-1)) &&& (nI w - 1)) ≤ 256 ∧ (if ((nI w ^^^ (-1)) &&& (nI w - 1)) ≤ 16 then (if ((nI w ^^^ (-1)) &&& (nI w - 1)) ≤ 4 then 1 + (((nI w ^^^ (-1)) &&& (nI w - 1) : Int32).toUInt32 >>> ((1 : Int32).toUInt32 &&& Int32.toUInt32 31)).toInt32 else 1 + 2 + (((((nI w ^^^ (-1)) &&& (nI w - 1)) : Int32).toUInt32 >>> ((2 : Int32).toUInt32 &&& Int32.toUInt32 31)).toInt32.toUInt32 >>> ((1 : Int32).toUInt32 &&& Int32.toUInt32 31)).toInt32) else 1 + 4 + (((((nI w ^^^ (-1)) &&& (nI w - 1)) : Int32).toUInt32 >>> ((4 : Int32).toUInt32 &&& Int32.toUInt32 31)).toInt32.toUInt32 >>> ((1 : Int32).toUInt32 &&& Int32.toUInt32 31)).toInt32) = nI k ∧ ((¬ ((nI w ^^^ (-1)) &&& (nI w - 1)) ≤ 16) → ((((nI w ^^^ (-1)) &&& (nI w - 1)) : Int32).toUInt32 >>> ((4 : Int32).toUInt32 &&& Int32.toUInt32 31)).toInt32 ≤ 4)) else ((nI w ^^^ (-1)) &&& (nI w - 1)) &&& 32 = nI k) := by decide +kernel
  obtain ⟨k, k1, k2, k3⟩ := key w hw h0
  refine ⟨k, k1, k2, ?_⟩
  generalize ((nI w ^^^ (-1)) &&& (nI w - 1)) = y at k3 ⊢
  by_cases hy : 0 < y
  · rw [if_pos hy] at k3 ⊢
    obtain ⟨a1, a2, a3, a4⟩ := k3
    rw [if_pos a1, if_pos a2]
    by_cases b1 : y ≤ 16
    · rw [if_pos b1] at a3 ⊢
      by_cases b2 : y ≤ 4
      · rw [if_pos b2] at a3 ⊢
        rw [a3]
      · rw [if_neg b2] at a3 ⊢
        rw [a3]
    · rw [if_neg b1] at a3 ⊢
      rw [if_pos (a4 b1), a3]
  · rw [if_neg hy] at k3 ⊢
    rw [k3]
/-- the lowest of those whose times go past 0 in this QUARTER -/
def loC (π : aP) (t : aS) : Option Nat := (List.range 6).find? (fun k => decide (k < π.1) && cr π k t)
def fst (π : aP) : Nat → aS → Option Nat
  | 0, _ => none
  | d + 1, t => match loC π t with
    | some k => some k
    | none => fst π d (aPQ π t).1
theorem fx_fst : ∀ (d i : Nat) (t : aS), fx (fun _ t => (loC π t).map nI) (fun _ t => (aPQ π t).1) (fun _ => (-1 : Int32)) d i t = enc (fst π d t)
  | 0, _, _ => by simp only [fx, fst, enc]
  | d + 1, i, t => by
    simp only [fx, fst]
    cases loC π t with
    | some k => simp only [Option.map_some, enc]
    | none => simp only [Option.map_none]; exact fx_fst d (i + 1) _
theorem past_lo (hn : π.1 ≤ 6) (t : aS) {h : pv_H} : ((aPQ π t).2 = 0 ∧ loC π t = none) ∨ (¬ (aPQ π t).2 = 0 ∧ ∃ k, loC π t = some k ∧ pM X m_In_numberOfTrailingZeros [.int (aPQ π t).2] h = some (some (.int (nI k)), h)) := by
  obtain ⟨w, w1, w2, w3⟩ := aPQ_bits hn t
  have e : loC π t = (List.range 6).find? (fun k => w.testBit k) := by
    unfold loC
    have : ∀ (l : List Nat), (∀ k ∈ l, k < 6) → l.find? (fun k => decide (k < π.1) && cr π k t) = l.find? (fun k => w.testBit k) := by
      intro l
      induction l with
      | nil => intro _; rfl
      | cons a l ih =>
        intro hl
        rw [List.find?_cons, List.find?_cons, w3 a (hl a (by simp)), ih (fun k hk => hl k (by simp [hk]))]
    exact this _ (fun k hk => by simpa using hk)
  rcases Nat.eq_zero_or_pos w with hz | hp0
  · left
    rw [w2, e, hz]
    exact ⟨rfl, by decide⟩
  · right
    obtain ⟨k, k1, k2, k3⟩ := c_ntz (X := X) (h := h) w1 (by omega)
    rw [w2, e]
    exact ⟨nI_ne0 hp0 (by omega), k, k2, k3⟩
def gFi (π : aP) (d i : Nat) (t : aS) (k : Nat) (x : Option Nat × Nat) : Option Nat × Nat := match fq π (cr π k) d i t with
  | some q => if q < x.2 then (some k, q) else x
  | none => x
theorem fst_eq (hn : π.1 ≤ 6) : ∀ (d i : Nat) (t : aS), i + d = 97 → (fr (gFi π d i t) π.1 0 (none, 97)).1 = fst π d t
  | 0, i, t, h => by
    simp only [fst]
    rw [fr_ext (g' := fun _ x => x) (fun k x _ => by unfold gFi; simp only [fq])]
    exact fr_inv (n := π.1) (R := fun _ (x : Option Nat × Nat) => x.1 = none) (fun _ _ _ h => h) π.1 0 (none, 97) (by omega) rfl
  | d + 1, i, t, h => by
    simp only [fst]
    cases hl : loC π t with
    | none =>
      have hno : ∀ k, k < π.1 → cr π k t = false := by
        intro k hk
        unfold loC at hl
        have := List.find?_eq_none.mp hl k (by simp; omega)
        simpa [hk] using this
      dsimp only
      rw [← fst_eq hn d (i + 1) (aPQ π t).1 (by omega)]
      refine congrArg Prod.fst (fr_ext (fun k x hk => ?_) _)
      unfold gFi
      simp only [fq, hno k hk]
      rfl
    | some k0 =>
      dsimp only
      unfold loC at hl
      obtain ⟨p1, p2, p3⟩ := List.find?_range_eq_some.mp hl
      simp only [Bool.and_eq_true, decide_eq_true_eq] at p1
      have hlt : ∀ k, k < k0 → k < π.1 → cr π k t = false := by
        intro k hk hk'
        have := p3 k hk
        simpa [hk'] using this
      have hR := fr_inv (n := π.1) (R := fun k (x : Option Nat × Nat) => (k ≤ k0 ∧ i < x.2) ∨ (k0 < k ∧ x = (some k0, i))) (g := gFi π (d + 1) i t) (fun k x hk hx => by
        unfold gFi
        simp only [fq]
        rcases hx with ⟨h1, h2⟩ | ⟨h1, h2⟩
        · rcases Nat.lt_or_ge k k0 with hkk | hkk
          · left
            refine ⟨hkk, ?_⟩
            rw [hlt k hkk hk]
            simp only [Bool.false_eq_true, if_false]
            cases hf : fq π (cr π k) d (i + 1) (aPQ π t).1 with
            | none => exact h2
            | some q =>
              have := fq_rng d (i + 1) _ q hf
              dsimp only
              split
              · dsimp only; omega
              · exact h2
          · have : k = k0 := by omega
            subst this
            right
            refine ⟨by omega, ?_⟩
            rw [p1.2]
            simp only [if_true]
            rw [if_pos h2]
        · right
          refine ⟨by omega, ?_⟩
          subst h2
          by_cases hck : cr π k t = true
          · rw [if_pos hck]
            dsimp only
            rw [if_neg (by omega)]
          · rw [if_neg hck]
            cases hf : fq π (cr π k) d (i + 1) (aPQ π t).1 with
            | none => rfl
            | some q =>
              have := fq_rng d (i + 1) _ q hf
              dsimp only
              rw [if_neg (by omega)]) π.1 0 (none, 97) (by omega) (Or.inl ⟨by omega, by dsimp only; omega⟩)
      rcases hR with ⟨h1, -⟩ | ⟨-, h2⟩
      · omega
      · rw [h2]
theorem gFi_lt {d i : Nat} {t : aS} {k : Nat} {x : Option Nat × Nat} (h : i + d = 97) (hx : x.2 ≤ 97) : (gFi π d i t k x).2 ≤ 97 := by
  unfold gFi
  split
  · split
    · dsimp only; omega
    · exact hx
  · exact hx
theorem q_first (hC : HC m P π s) (hM : HM m π s c) : Ag X m_Wp_first m_Md_first [] m := by
  have hn := hC.n6
  have hc := hM.2.2.2
  refine Ag.mk (enc (fst π 96 s)) ?_ (fun m1 hq => ?_)
  · obtain ⟨m1, e1, q1, v1⟩ := w_copy (X := X) hC
    unfold Gi
    rw [e_Wp_first, u_Wp_first_0]
    simp only [tIs, tVs, bs, if_true, true_or, or_true, i10, if_false, not_false_eq_true, not_true_eq_false, Wp_rc, Wp_f5, Wp_f6, Wp_f7, Wp_f8, Wp_f9, Wp_f10, Wp_f11, Wp_f12, Wp_f13, Wp_f14, St_rc isSt_39, e1]
    rw [← fx_fst 96 1]
    refine lgx (n := 97) (F := fun (g : Option Value) (t : aS) i m => f_Wp_first_13 X 0 (nI i) g (hp m)) (R := fun _ t m' => Q m m' ∧ vw m' 39 = t) (Z := Q m) (c := fun _ (t : aS) => (loC π t).map nI) (fun g t i m2 hi hr => ?_) (fun _ t m2 hr => ⟨m2, ?_, hr.1⟩) 96 1 none s m1 (by omega) ⟨q1, v1⟩
    · have hC2 := hC.q hr.1
      obtain ⟨m3, e3, q3, v3⟩ := w_pass (X := X) hC2 hr.2
      rcases past_lo (X := X) (h := hp m3) hn t with ⟨p1, p2⟩ | ⟨p1, k, p2, p3⟩
      · refine Or.inr ⟨by rw [p2]; rfl, some (.int (aPQ π t).2), m3, ?_, hr.1.tr q3, v3⟩
        rw [u_Wp_first_13, if_neg (in_u (U := 96) rfl (show i ≤ 96 by omega) (by decide))]
        simp only [tIs, tVs, bs, if_true, true_or, or_true, i10, if_false, not_false_eq_true, not_true_eq_false, Wp_rc, Wp_f5, Wp_f6, Wp_f7, Wp_f8, Wp_f9, Wp_f10, Wp_f11, Wp_f12, Wp_f13, Wp_f14, hC2.f1, hC2.rc, e3, nI_1]
        rw [if_pos p1]
      · refine Or.inl ⟨nI k, m3, by rw [p2]; rfl, ?_, hr.1.tr q3⟩
        rw [u_Wp_first_13, if_neg (in_u (U := 96) rfl (show i ≤ 96 by omega) (by decide))]
        simp only [tIs, tVs, bs, if_true, true_or, or_true, i10, if_false, not_false_eq_true, not_true_eq_false, Wp_rc, Wp_f5, Wp_f6, Wp_f7, Wp_f8, Wp_f9, Wp_f10, Wp_f11, Wp_f12, Wp_f13, Wp_f14, hC2.f1, hC2.rc, e3]
        rw [if_neg p1, p3]
        simp only [tIs, tVs, bs, if_true, true_or, or_true, i10, if_false, not_false_eq_true, not_true_eq_false]
    · rw [u_Wp_first_13, if_pos (by decide)]
  · obtain ⟨m2, e2, q2⟩ := m_t0 (m := m1)
    unfold Gi
    rw [e_Md_first, u_Md_first_0, e2]
    simp only [tIs, tVs, bs, if_true, true_or, or_true, i10, if_false, not_false_eq_true, not_true_eq_false, Md_rc, Md_f1, Md_f4, Md_f5, Md_f6, Md_f9, Md_f10, Md_f11, Md_f12, Md_f14, Md_f15, Md_f18, Md_f19, Md_f20, Md_f21, Md_f23, Md_f24, Md_f25, Md_f26, Md_f28]
    obtain ⟨⟨g1, g2⟩, m', h2, h3, -⟩ := lg (n := π.1) (F := fun (g : Option Value × Option Value) (x : Option Nat × Nat) i m => f_Md_first_12 X 175 (enc x.1) (nI x.2) (nI i) g.1 g.2 (hp m)) (R := fun _ x m' => Q m1 m' ∧ x.2 ≤ 97) (g := gFi π 96 1 s) (fun g x i m4 hi hr => by
      have hM4 := (hM.q hq).q hr.1
      obtain ⟨m5, e5, q5⟩ := m_noonOf (X := X) hM4 hi
      have hx2 := hr.2
      have hlt := gFi_lt (π := π) (t := s) (k := i) (x := x) (show 1 + 96 = 97 by rfl) hr.2
      have e : f_Md_first_12 X 175 (enc x.1) (nI x.2) (nI i) g.1 g.2 (hp m4) = (pv_tI (pM X m_Md_noonOf [.ref 175, .int (nI i)] (hp m4))).bind (fun q2 => if q2.1 < 0 then f_Md_first_42 X 175 (enc x.1) (nI x.2) (nI i) q2.1 g.2 q2.2 else if nI x.2 ≤ q2.1 then f_Md_first_42 X 175 (enc x.1) (nI x.2) (nI i) q2.1 g.2 q2.2 else f_Md_first_43 X 175 (enc x.1) (nI x.2) (nI i) q2.1 g.2 1 q2.2) := by
        rw [u_Md_first_12]
        simp only [tIs, tVs, bs, if_true, true_or, or_true, i10, if_false, not_false_eq_true, not_true_eq_false, Md_rc, Md_f1, Md_f4, Md_f5, Md_f6, Md_f9, Md_f10, Md_f11, Md_f12, Md_f14, Md_f15, Md_f18, Md_f19, Md_f20, Md_f21, Md_f23, Md_f24, Md_f25, Md_f26, Md_f28, m_n hM4.1]
        rw [if_neg (nI_ge hi (by omega))]
      rw [e, e5]
      simp only [tIs, tVs, bs, if_true, true_or, or_true, i10, if_false, not_false_eq_true, not_true_eq_false, u_Md_first_42, u_Md_first_43, u_Md_first_55, u_Md_first_67, nI_1]
      unfold gFi at hlt ⊢
      cases hf : fq π (cr π i) 96 1 s with
      | none =>
        refine ⟨(some (.int (-1)), some (.int 0)), m5, ?_, hr.1.tr q5, by rw [hf] at hlt; exact hlt⟩
        rw [if_pos (show enc none < 0 by decide)]
        rfl
      | some q =>
        rw [hf] at hlt
        have hq := fq_rng 96 1 s q hf
        rw [show enc (some q) = nI q from rfl, if_neg (nI_pos (by omega))]
        simp only [nI_leI (show x.2 < 2 ^ 31 by omega) (show q < 2 ^ 31 by omega)]
        dsimp only at hlt ⊢
        by_cases hqx : q < x.2
        · rw [if_pos hqx] at hlt
          refine ⟨(some (.int (nI q)), some (.int 1)), m5, ?_, hr.1.tr q5, ?_⟩
          · rw [if_neg (by omega), if_pos hqx]; rfl
          · rw [if_pos hqx]; exact hlt
        · rw [if_neg hqx] at hlt
          refine ⟨(some (.int (nI q)), some (.int 0)), m5, ?_, hr.1.tr q5, ?_⟩
          · rw [if_pos (by omega), if_neg hqx]
          · rw [if_neg hqx]; exact hlt) π.1 0 (none, none) (none, 97) m2 (by omega) ⟨q2, by decide⟩
    refine ⟨m', ?_, h3⟩
    refine Eq.trans (b := f_Md_first_12 X 175 (enc none) (nI 97) (nI 0) none none (hp m2)) rfl ?_
    rw [show f_Md_first_12 X 175 (enc none) (nI 97) (nI 0) none none (hp m2) = _ from h2, u_Md_first_12]
    simp only [tIs, tVs, bs, if_true, true_or, or_true, i10, if_false, not_false_eq_true, not_true_eq_false, Md_rc, Md_f1, Md_f4, Md_f5, Md_f6, Md_f9, Md_f10, Md_f11, Md_f12, Md_f14, Md_f15, Md_f18, Md_f19, Md_f20, Md_f21, Md_f23, Md_f24, Md_f25, Md_f26, Md_f28, m_n ((hM.q hq).q h3).1]
    rw [if_pos (nI_le (Nat.le_refl _) (by omega)), fst_eq hn 96 1 s (by rfl)]
end Q7
