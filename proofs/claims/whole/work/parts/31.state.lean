/-! The class State: what its methods do to the memory. -/
def isSt (a : Nat) : Prop := pm_T[a]? = some (.inr (7, [(2, a + 1), (2, a + 2), (2, a + 3), (0, 0)])) ∧ pm_T[a + 1]? = some (.inl (1, 6)) ∧ pm_T[a + 2]? = some (.inl (1, 6)) ∧ pm_T[a + 3]? = some (.inl (1, 6))
theorem isSt_35 : isSt 35 := ⟨rfl, rfl, rfl, rfl⟩
theorem isSt_39 : isSt 39 := ⟨rfl, rfl, rfl, rfl⟩
theorem isSt_11 : isSt 11 := ⟨rfl, rfl, rfl, rfl⟩
theorem isSt_23 : isSt 23 := ⟨rfl, rfl, rfl, rfl⟩
theorem isSt_h : ∀ i, i < 16 → isSt (45 + 4 * i) := fun i hi => match i, hi with
  | 0, _ => ⟨rfl, rfl, rfl, rfl⟩
  | 1, _ => ⟨rfl, rfl, rfl, rfl⟩
  | 2, _ => ⟨rfl, rfl, rfl, rfl⟩
  | 3, _ => ⟨rfl, rfl, rfl, rfl⟩
  | 4, _ => ⟨rfl, rfl, rfl, rfl⟩
  | 5, _ => ⟨rfl, rfl, rfl, rfl⟩
  | 6, _ => ⟨rfl, rfl, rfl, rfl⟩
  | 7, _ => ⟨rfl, rfl, rfl, rfl⟩
  | 8, _ => ⟨rfl, rfl, rfl, rfl⟩
  | 9, _ => ⟨rfl, rfl, rfl, rfl⟩
  | 10, _ => ⟨rfl, rfl, rfl, rfl⟩
  | 11, _ => ⟨rfl, rfl, rfl, rfl⟩
  | 12, _ => ⟨rfl, rfl, rfl, rfl⟩
  | 13, _ => ⟨rfl, rfl, rfl, rfl⟩
  | 14, _ => ⟨rfl, rfl, rfl, rfl⟩
  | 15, _ => ⟨rfl, rfl, rfl, rfl⟩
  | n + 16, h => absurd h (by omega)
theorem isSt_m : ∀ i, i < 4 → isSt (124 + 13 * i) := fun i hi => match i, hi with
  | 0, _ => ⟨rfl, rfl, rfl, rfl⟩
  | 1, _ => ⟨rfl, rfl, rfl, rfl⟩
  | 2, _ => ⟨rfl, rfl, rfl, rfl⟩
  | 3, _ => ⟨rfl, rfl, rfl, rfl⟩
theorem pv_in_nI {k n : Nat} (h : k < n) (hn : n < 2 ^ 31) : pv_in (nI k) n = true := by
  have h1 := nI_pos (n := k) (by omega)
  have h2 := nI_clamp (n := k) (by omega)
  simp [pv_in, h1, h2, h]
section STF
variable {m : pm_M} {X : pv_X} {a k : Nat}
theorem St_f0 (ha : isSt a) : pv_fR (hp m) a 7 0 = some (a + 1) := hp_fR ha.1 rfl
theorem St_f1 (ha : isSt a) : pv_fR (hp m) a 7 1 = some (a + 2) := hp_fR ha.1 rfl
theorem St_f2 (ha : isSt a) : pv_fR (hp m) a 7 2 = some (a + 3) := hp_fR ha.1 rfl
theorem St_f3 (ha : isSt a) : pv_fI (hp m) a 7 3 = some (gI m a 3) := hp_fI ha.1 rfl
theorem St_p3 (ha : isSt a) {v : Int32} : pv_fp (hp m) a 7 3 (.int v) = some (hp (sI m a 3 v)) := hp_pI ha.1 rfl
theorem St_rc (ha : isSt a) : pv_rc (hp m) a 7 = true := hp_rc ha.1
theorem ar_ld {b n : Nat} (h : pm_T[b]? = some (.inl (1, n))) (hk : k < n) (hn : n < 2 ^ 31) : pv_aX X (hp m) b (nI k) = some (gA m b k) := by
  rw [hp_aX h, if_pos (pv_in_nI hk hn), nI_clamp (by omega)]
theorem ar_st {b n : Nat} {x : Int32} (h : pm_T[b]? = some (.inl (1, n))) (hk : k < n) (hn : n < 2 ^ 31) : pv_sI (hp m) b (nI k) x = some (hp (sA m b (upd (gA m b) k x))) := by
  rw [hp_sI h, if_pos (pv_in_nI hk hn), nI_clamp (by omega)]
theorem St_a1 (ha : isSt a) (hk : k < 6) : pv_aX X (hp m) (a + 1) (nI k) = some (gA m (a + 1) k) := ar_ld ha.2.1 hk (by decide)
theorem St_a2 (ha : isSt a) (hk : k < 6) : pv_aX X (hp m) (a + 2) (nI k) = some (gA m (a + 2) k) := ar_ld ha.2.2.1 hk (by decide)
theorem St_a3 (ha : isSt a) (hk : k < 6) : pv_aX X (hp m) (a + 3) (nI k) = some (gA m (a + 3) k) := ar_ld ha.2.2.2 hk (by decide)
theorem St_s1 (ha : isSt a) (hk : k < 6) {x : Int32} : pv_sI (hp m) (a + 1) (nI k) x = some (hp (sA m (a + 1) (upd (gA m (a + 1)) k x))) := ar_st ha.2.1 hk (by decide)
theorem St_s2 (ha : isSt a) (hk : k < 6) {x : Int32} : pv_sI (hp m) (a + 2) (nI k) x = some (hp (sA m (a + 2) (upd (gA m (a + 2)) k x))) := ar_st ha.2.2.1 hk (by decide)
theorem St_s3 (ha : isSt a) (hk : k < 6) {x : Int32} : pv_sI (hp m) (a + 3) (nI k) x = some (hp (sA m (a + 3) (upd (gA m (a + 3)) k x))) := ar_st ha.2.2.2 hk (by decide)
end STF
/-- what is left of a division, as the machine has it -/
def rm (x y : Int32) : Int32 := x - x / y * y
/-- true time behind so many quarters -/
def tt (q : Int32) : Int32 := rm (q * 15) 720
/-- how far out a time is -/
def oc (t u : Int32) : Int32 := if (-360) ≤ t - u then (if t - u ≤ 359 then t - u else t - u - 720) else t - u + 720
def mx (x y : Int32) : Int32 := if x < y then y else x
def mn (x y : Int32) : Int32 := if y < x then y else x
def ab (x : Int32) : Int32 := if 0 ≤ x then x else -x
/-- beats more, of 20 to 160 -/
def bm (b v : Int32) : Int32 := mx 20 (mn 160 (b + v))
section MAT
variable {X : pv_X} {h : pv_H} {x y : Int32}
theorem c_max : pM X m_Ma_max [.int x, .int y] h = some (some (.int (mx x y)), h) := by
  rw [e_Ma_max, u_Ma_max_0]
  unfold mx
  by_cases hc : x < y <;> simp [hc, u_Ma_max_10]
theorem c_min : pM X m_Ma_min [.int x, .int y] h = some (some (.int (mn x y)), h) := by
  rw [e_Ma_min, u_Ma_min_0]
  unfold mn
  by_cases hc : y < x
  · have hc' : ¬ x ≤ y := by simpa using hc
    simp [hc, hc', u_Ma_min_10]
  · have hc' : x ≤ y := by simpa using hc
    simp [hc, hc', u_Ma_min_10]
theorem c_abs : pM X m_Ma_abs [.int x] h = some (some (.int (ab x)), h) := by
  rw [e_Ma_abs, u_Ma_abs_0]
  unfold ab
  by_cases hc : 0 ≤ x <;> simp [hc, u_Ma_abs_10]
end MAT
section STM
variable {m : pm_M} {X : pv_X} {a k o : Nat}
theorem c_trueTime (ha : isSt a) : pM X m_St_trueTime [.ref a] (hp m) = some (some (.int (tt (gI m a 3))), hp m) := by
  rw [e_St_trueTime, u_St_trueTime_0, St_f3 ha]
  rfl
theorem c_outOf (ha : isSt a) (hk : k < 6) : pM X m_St_outOf [.ref a, .int (nI k)] (hp m) = some (some (.int (oc (gA m (a + 1) k) (tt (gI m a 3)))), hp m) := by
  rw [e_St_outOf, u_St_outOf_0]
  simp only [St_f0 ha, Option.bind_some, St_a1 ha hk, St_rc ha, if_true, c_trueTime ha, pv_tI, u_St_outOf_41]
  unfold oc
  split
  · split <;> rfl
  · rfl
theorem c_takeTime (ha : isSt a) (hk : k < 6) (ho : o < 6) : pM X m_St_takeTime [.ref a, .int (nI k), .int (nI o)] (hp m) = some (none, hp (sA (sA m (a + 1) (upd (gA m (a + 1)) k (gA m (a + 1) o))) (a + 3) (upd (gA m (a + 3)) o (gA m (a + 3) o + 1)))) := by
  rw [e_St_takeTime, u_St_takeTime_0]
  simp only [St_f0 ha, St_f2 ha, Option.bind_some, St_a1 ha ho, St_s1 ha hk, St_a3 ha ho, St_s3 ha ho, gA_sA, show ¬ a + 3 = a + 1 by omega, if_false]
theorem c_moveBeats (ha : isSt a) (hk : k < 6) {v : Int32} : pM X m_St_moveBeats [.ref a, .int (nI k), .int v] (hp m) = some (none, hp (sA m (a + 2) (upd (gA m (a + 2)) k (bm (gA m (a + 2) k) v)))) := by
  rw [e_St_moveBeats, u_St_moveBeats_0]
  simp only [St_f1 ha, Option.bind_some, St_a2 ha hk, c_min, c_max, pv_tI, St_s2 ha hk]
  rfl
end STM
