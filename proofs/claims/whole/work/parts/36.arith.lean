/-! Numbers: the same answers by the class's and by the reference's ways. -/
theorem i_720 : ((720 : Int32)).toInt = 720 := by decide
theorem kp_mm {y l u : Int32} (hlu : l.toInt < u.toInt) : kp y l u = mx l (mn u y) := by
  unfold kp mx mn
  simp only [Int32.le_iff_toInt_le, Int32.lt_iff_toInt_lt]
  by_cases h3 : y.toInt < u.toInt
  · rw [if_pos h3, if_pos (show y.toInt ≤ u.toInt by omega)]
    by_cases h1 : l.toInt ≤ y.toInt
    · rw [if_pos h1]
      by_cases h4 : l.toInt < y.toInt
      · rw [if_pos h4]
      · rw [if_neg h4]
        exact Int32.toInt_inj.mp (by omega)
    · rw [if_neg h1, if_neg (by omega)]
  · rw [if_neg h3, if_pos hlu, if_pos (show l.toInt ≤ y.toInt by omega)]
    by_cases h2 : y.toInt ≤ u.toInt
    · rw [if_pos h2]
      exact Int32.toInt_inj.mp (by omega)
    · rw [if_neg h2]
theorem kp_bm (y : Int32) : kp y 20 160 = mx 20 (mn 160 y) := kp_mm (by decide)
theorem kp_cl (y : Int32) : kp y (-20) 20 = mx (-20) (mn 20 y) := kp_mm (by decide)
theorem rm_nI {a d : Nat} (ha : a < 2 ^ 31) (h0 : 0 < d) (hd : d < 2 ^ 31) : rm (nI a) (nI d) = nI (a % d) := pk_rem ha h0 hd
theorem rm_720 {w : Nat} (h : w < 1440) : rm (nI w) 720 = if nI w < 720 then nI w else nI w + (-720) := by
  rw [show (720 : Int32) = nI 720 from rfl, rm_nI (by omega) (by decide) (by decide)]
  by_cases hw : w < 720
  · rw [if_pos (nI_lt hw (by decide)), Nat.mod_eq_of_lt hw]
  · rw [if_neg (nI_nlt (by omega) (by omega))]
    have e : w = (w - 720) + 720 := by omega
    rw [show w % 720 = w - 720 by omega]
    apply Int32.toInt_inj.mp
    rw [nI_toInt (by omega), Int32.toInt_add, nI_toInt (by omega), show (-nI 720 : Int32).toInt = -720 by decide]
    rw [Int.bmod_eq_of_le (by omega) (by omega)]
    omega
theorem tt_nI {q : Nat} (h : q ≤ 1000000) : tt (nI q) = nI (q * 15 % 720) := by
  unfold tt
  rw [show (15 : Int32) = nI 15 from rfl, pk_mul, show (720 : Int32) = nI 720 from rfl, rm_nI (by omega) (by decide) (by decide)]
theorem tt_comm (q : Int32) : rm (15 * q) 720 = tt q := by unfold tt; rw [Int32.mul_comm]
theorem rm_small {v : Int32} (h1 : -720 < v.toInt) (h2 : v.toInt < 720) : rm v 720 = v := by
  unfold rm
  have e : v / 720 = 0 := by
    apply Int32.toInt_inj.mp
    rw [Int32.toInt_div, i_720]
    have : v.toInt.tdiv 720 = 0 := by
      rcases Int.lt_or_le v.toInt 0 with hn | hp
      · rw [← Int.neg_neg v.toInt, Int.neg_tdiv, Int.tdiv_eq_zero_of_lt (by omega) (by omega)]; rfl
      · exact Int.tdiv_eq_zero_of_lt hp h2
    rw [this]
    decide
  rw [e]
  simp
theorem ob_oc {t u : Nat} (ht : t < 720) (hu : u < 720) : ob (nI t - nI u) = oc (nI t) (nI u) := by
  have hv := pk_sub_toInt (a := t) (b := u) (by omega) (by omega)
  have hr : rm (nI t - nI u) 720 = nI t - nI u := rm_small (by rw [hv]; omega) (by rw [hv]; omega)
  unfold ob oc
  rw [hr]
  have a1 : (360 : Int32).toInt = 360 := by decide
  have a2 : (359 : Int32).toInt = 359 := by decide
  simp only [Int32.le_iff_toInt_le, Int32.lt_iff_toInt_lt, a1, a2, hv]
  by_cases h : (-360 : Int32).toInt ≤ (t : Int) - u
  · rw [if_pos h, if_pos h]
    by_cases h' : (t : Int) - u < 360
    · rw [if_pos h', if_pos (by omega)]
    · rw [if_neg h', if_neg (by omega)]
  · rw [if_neg h, if_neg h]
theorem oc_rng {t u : Nat} (ht : t < 720) (hu : u < 720) : -360 ≤ (oc (nI t) (nI u)).toInt ∧ (oc (nI t) (nI u)).toInt ≤ 359 := by
  have hv := pk_sub_toInt (a := t) (b := u) (by omega) (by omega)
  unfold oc
  have a2 : (359 : Int32).toInt = 359 := by decide
  have a3 : (-360 : Int32).toInt = -360 := by decide
  simp only [Int32.le_iff_toInt_le, a2, a3, hv]
  by_cases h : (-360 : Int) ≤ (t : Int) - u
  · rw [if_pos h]
    by_cases h' : (t : Int) - u ≤ 359
    · rw [if_pos h', hv]; omega
    · rw [if_neg h', Int32.toInt_sub, hv, i_720, Int.bmod_eq_of_le (by omega) (by omega)]; omega
  · rw [if_neg h, Int32.toInt_add, hv, i_720, Int.bmod_eq_of_le (by omega) (by omega)]; omega
/-- a step of the times -/
theorem st_nI {t v : Nat} {k : Int32} (ht : t < 720) (h1 : 20 ≤ v) (h2 : v ≤ 160) : ∃ w, w < 763 ∧ nI t + nI v / 4 + stp k = nI w := by
  rw [show (4 : Int32) = nI 4 from rfl, pk_div (by omega) (by decide) (by decide), nI_add]
  unfold stp
  by_cases k1 : k = 1
  · rw [if_pos k1, show (2 : Int32) = nI 2 from rfl, nI_add]; exact ⟨_, by omega, rfl⟩
  · rw [if_neg k1]
    by_cases k2 : k = 2
    · rw [if_pos k2]
      refine ⟨t + v / 4 - 2, by omega, ?_⟩
      rw [← pk_sub (by omega), Int32.sub_eq_add_neg]
      rfl
    · rw [if_neg k2, show (0 : Int32) = nI 0 from rfl, nI_add]; exact ⟨_, by omega, rfl⟩
theorem bm_rng (b v : Int32) : ∃ w, 20 ≤ w ∧ w ≤ 160 ∧ bm b v = nI w := by
  unfold bm
  rw [← kp_bm]
  generalize b + v = y
  unfold kp
  have a20 : (20 : Int32).toInt = 20 := by decide
  have a160 : (160 : Int32).toInt = 160 := by decide
  simp only [Int32.le_iff_toInt_le, a20, a160]
  by_cases h1 : (20 : Int) ≤ y.toInt
  · by_cases h2 : y.toInt ≤ 160
    · rw [if_pos h1, if_pos h2]
      refine ⟨y.toInt.toNat, by omega, by omega, ?_⟩
      apply Int32.toInt_inj.mp
      rw [nI_toInt (by omega)]
      omega
    · rw [if_pos h1, if_neg h2]; exact ⟨160, by decide, by decide, rfl⟩
  · rw [if_neg h1]; exact ⟨20, by decide, by decide, rfl⟩
theorem bm_0 {v : Nat} (h1 : 20 ≤ v) (h2 : v ≤ 160) : bm (nI v) 0 = nI v := by
  unfold bm
  rw [← kp_bm]
  unfold kp
  simp only [Int32.add_zero]
  rw [if_pos (show (20 : Int32) ≤ nI v from nI_le (a := 20) (by omega) (by omega)), if_pos (show nI v ≤ (160 : Int32) from nI_le (b := 160) (by omega) (by decide))]
/-- a state as it always is, of the first n, behind at most c quarters -/
def okS (n c : Nat) (s : aS) : Prop := (∀ k, k < n → ∃ t, t < 720 ∧ s.1 k = nI t) ∧ (∀ k, k < n → ∃ v, 20 ≤ v ∧ v ≤ 160 ∧ s.2.1 k = nI v) ∧ ∃ q, q ≤ c ∧ s.2.2.2 = nI q
