/-! The E of moods: what it comes to. Steps: a number of its own, -1 .. -4 facts, -5 not, -6 .. -12 joins. -/
abbrev aF : Type := Int32 × Int32 × Int32 × Int32
def evJ (s x y : Int32) : Int32 := if s = -11 then x - y else if s = -10 then x + y else if s = -9 then (if x = y then 1 else 0) else if s = -8 then (if x < y then 1 else 0) else if s = -7 then (if x = 0 ∧ y = 0 then 0 else 1) else if s = -6 then (if x = 0 ∨ y = 0 then 0 else 1) else x * y
def evF (s : Int32) (f : aF) : Int32 := if s = -3 then f.2.2.1 else if s = -2 then f.2.1 else if s = -1 then f.1 else f.2.2.2
def ev1 (f : aF) (st : List Int32) (s : Int32) : List Int32 := if s < -4 then (if s = -5 then (match st with
    | x :: t => (if x = 0 then 1 else 0) :: t
    | [] => [])
  else (match st with
    | y :: x :: t => evJ s x y :: t
    | t => t))
  else (if s < 0 then evF s f else s) :: st
def dp1 (d : Nat) (s : Int32) : Option Nat := if s < -4 then (if s = -5 then (if 1 ≤ d then some d else none) else (if 2 ≤ d then some (d - 1) else none)) else (if d < 32 then some (d + 1) else none)
def evn (S : Nat → Int32) (f : aF) : Nat → Nat → List Int32 → List Int32
  | 0, _, st => st
  | d + 1, i, st => evn S f d (i + 1) (ev1 f st (S i))
def dpn (S : Nat → Int32) : Nat → Nat → Nat → Option Nat
  | 0, _, k => some k
  | d + 1, i, k => (dp1 k (S i)).bind (dpn S d (i + 1))
def stk (w : Nat → Int32) : List Int32 → Prop
  | [] => True
  | x :: t => w t.length = x ∧ stk w t
theorem stk_upd {w : Nat → Int32} {k : Nat} {v : Int32} : ∀ {t : List Int32}, stk w t → t.length ≤ k → stk (upd w k v) t
  | [], _, _ => trivial
  | x :: t, h, hk => by
    simp only [List.length_cons] at hk
    refine ⟨?_, stk_upd h.2 (by omega)⟩
    rw [pk_un (by omega)]
    exact h.1
theorem stk_put {w : Nat → Int32} {v : Int32} {t : List Int32} (h : stk w t) : stk (upd w t.length v) (v :: t) := ⟨pk_us, stk_upd h (Nat.le_refl _)⟩
def isMo (a : Nat) : Prop := pm_T[a]? = some (.inr (5, [(2, a + 1), (2, a + 2), (0, 0), (0, 0)])) ∧ pm_T[a + 1]? = some (.inl (1, 1000)) ∧ pm_T[a + 2]? = some (.inl (1, 32))
theorem isMo_6 : isMo 6 := ⟨rfl, rfl, rfl⟩
theorem isMo_18 : isMo 18 := ⟨rfl, rfl, rfl⟩
section MOF
variable {m : pm_M} {X : pv_X} {a k : Nat}
theorem Mo_f0 (ha : isMo a) : pv_fR (hp m) a 5 0 = some (a + 1) := hp_fR ha.1 rfl
theorem Mo_f1 (ha : isMo a) : pv_fR (hp m) a 5 1 = some (a + 2) := hp_fR ha.1 rfl
theorem Mo_f2 (ha : isMo a) : pv_fI (hp m) a 5 2 = some (gI m a 2) := hp_fI ha.1 rfl
theorem Mo_f3 (ha : isMo a) : pv_fI (hp m) a 5 3 = some (gI m a 3) := hp_fI ha.1 rfl
theorem Mo_p2 (ha : isMo a) {v : Int32} : pv_fp (hp m) a 5 2 (.int v) = some (hp (sI m a 2 v)) := hp_pI ha.1 rfl
theorem Mo_p3 (ha : isMo a) {v : Int32} : pv_fp (hp m) a 5 3 (.int v) = some (hp (sI m a 3 v)) := hp_pI ha.1 rfl
theorem Mo_rc (ha : isMo a) : pv_rc (hp m) a 5 = true := hp_rc ha.1
theorem Mo_l1 (ha : isMo a) : pv_len X (hp m) (a + 1) = some (nI 1000) := hp_len (by decide) ha.2.1
theorem Mo_l2 (ha : isMo a) : pv_len X (hp m) (a + 2) = some (nI 32) := hp_len (by decide) ha.2.2
theorem Mo_a1 (ha : isMo a) (hk : k < 1000) : pv_aX X (hp m) (a + 1) (nI k) = some (gA m (a + 1) k) := ar_ld ha.2.1 hk (by decide)
theorem Mo_a2 (ha : isMo a) (hk : k < 32) : pv_aX X (hp m) (a + 2) (nI k) = some (gA m (a + 2) k) := ar_ld ha.2.2 hk (by decide)
theorem Mo_s1 (ha : isMo a) (hk : k < 1000) {x : Int32} : pv_sI (hp m) (a + 1) (nI k) x = some (hp (sA m (a + 1) (upd (gA m (a + 1)) k x))) := ar_st ha.2.1 hk (by decide)
theorem Mo_s2 (ha : isMo a) (hk : k < 32) {x : Int32} : pv_sI (hp m) (a + 2) (nI k) x = some (hp (sA m (a + 2) (upd (gA m (a + 2)) k x))) := ar_st ha.2.2 hk (by decide)
end MOF
theorem c_joined {X : pv_X} {h : pv_H} {s x y : Int32} : pM X m_Mo_joined [.int s, .int x, .int y] h = some (some (.int (evJ s x y)), h) := by
  rw [e_Mo_joined, u_Mo_joined_0]
  simp only [u_Mo_joined_52, u_Mo_joined_53, u_Mo_joined_62, u_Mo_joined_67, u_Mo_joined_78, u_Mo_joined_89]
  unfold evJ
  by_cases h1 : s = -11
  · simp [h1]
  · by_cases h2 : s = -10
    · simp [h2]
    · by_cases h3 : s = -9
      · by_cases h : x = y <;> simp [h3, h]
      · by_cases h4 : s = -8
        · by_cases h : x < y
          · have h' : ¬ y ≤ x := by simpa using h
            simp [h4, h, h']
          · have h' : y ≤ x := by simpa using h
            simp [h4, h, h']
        · by_cases h5 : s = -7
          · by_cases hx : x = 0 <;> by_cases hy : y = 0 <;> simp [h5, hx, hy]
          · by_cases h6 : s = -6
            · by_cases hx : x = 0 <;> by_cases hy : y = 0 <;> simp [h6, hx, hy]
            · simp [h1, h2, h3, h4, h5, h6]
theorem c_factValue {X : pv_X} {h : pv_H} {s b o q u : Int32} : pM X m_Mo_factValue [.int s, .int b, .int o, .int q, .int u] h = some (some (.int (evF s (b, o, q, u))), h) := by
  rw [e_Mo_factValue, u_Mo_factValue_0]
  unfold evF
  by_cases h1 : s = -3
  · simp [h1]
  · by_cases h2 : s = -2
    · simp [h2]
    · by_cases h3 : s = -1 <;> simp [h1, h2, h3]
theorem s_value6 {X : pv_X} {a n : Nat} (ha : isMo a) (hn : n ≤ 1000) {b o q u : Int32} : ∀ (d i : Nat) (st : List Int32) (m : pm_M) (o7 : Option Value), i + d = n → gI m a 2 = nI n → stk (gA m (a + 2)) st → st.length ≤ 32 → dpn (gA m (a + 1)) d i st.length = some 1 →
    ∃ m', f_Mo_value_6 X a b o q u (nI st.length) (nI i) o7 (hp m) = some (some (.int ((evn (gA m (a + 1)) (b, o, q, u) d i st).headD 0)), hp m') ∧ Same [a + 2] m m'
  | 0, i, st, m, o7, hi, hsz, hst, hl, hd => by
    refine ⟨m, ?_, Same.rf⟩
    simp only [dpn, Option.some.injEq] at hd
    rw [u_Mo_value_6, Mo_f2 ha, hsz]
    simp only [Option.bind_some]
    rw [if_pos (nI_le (a := n) (b := i) (by omega) (by omega)), u_Mo_value_171, hd]
    match st, hd, hst with
    | [x], _, hst =>
      rw [if_neg (by decide), Mo_f1 ha]
      simp only [Option.bind_some]
      rw [show (nI 1 - 1 : Int32) = nI 0 from rfl, Mo_a2 ha (by decide)]
      simp only [Option.bind_some, u_Mo_value_190]
      have h0 : gA m (a + 2) 0 = x := hst.1
      rw [h0]
      rfl
  | d + 1, i, st, m, o7, hi, hsz, hst, hl, hd => by
    simp only [dpn] at hd
    obtain ⟨k', hk', hd'⟩ := Option.bind_eq_some_iff.mp hd
    rw [u_Mo_value_6, Mo_f2 ha, hsz]
    simp only [Option.bind_some]
    rw [if_neg (nI_ge (a := i) (b := n) (by omega) (by omega)), Mo_f0 ha]
    simp only [Option.bind_some]
    rw [Mo_l1 ha]
    simp only [Option.bind_some]
    rw [if_neg (nI_ge (a := i) (b := 1000) (by omega) (by decide)), Mo_a1 ha (by omega)]
    simp only [Option.bind_some]
    generalize hs : gA m (a + 1) i = s
    rw [hs] at hk'
    have hev : evn (gA m (a + 1)) (b, o, q, u) (d + 1) i st = evn (gA m (a + 1)) (b, o, q, u) d (i + 1) (ev1 (b, o, q, u) st s) := by rw [evn, hs]
    rw [hev]
    by_cases h4 : s < -4
    · rw [if_pos h4]
      by_cases h5 : s = -5
      · rw [if_neg (fun z => z h5)]
        simp only [dp1, if_pos h4, if_pos h5] at hk'
        match st, hst, hl, hk', hd' with
        | x :: t, hst, hl, hk', hd' =>
          simp only [List.length_cons] at hk' hl hd' ⊢
          rw [if_pos (by omega)] at hk'
          cases hk'
          rw [if_neg (by intro z; have := (nI_ltI (a := t.length + 1) (b := 1) (by omega) (by decide)).mp z; omega), Mo_f1 ha]
          simp only [Option.bind_some]
          rw [nI_pred, Mo_a2 ha (by omega)]
          simp only [Option.bind_some, hst.1]
          have key : ∀ v : Int32, ∃ m', f_Mo_value_122 X a b o q u (nI (t.length + 1)) (nI i) s v (nI t.length) (a + 2) (hp m) = some (some (.int ((evn (gA m (a + 1)) (b, o, q, u) d (i + 1) (v :: t)).headD 0)), hp m') ∧ Same [a + 2] m m' := by
            intro v
            rw [u_Mo_value_122, Mo_s2 ha (by omega)]
            simp only [Option.bind_some]
            rw [u_Mo_value_165, nI_1]
            have e1 : gA (sA m (a + 2) (upd (gA m (a + 2)) t.length v)) (a + 1) = gA m (a + 1) := by rw [gA_sA, if_neg (by omega)]
            obtain ⟨m', r1, r2⟩ := s_value6 ha hn d (i + 1) (v :: t) (sA m (a + 2) (upd (gA m (a + 2)) t.length v)) (some (.int s)) (by omega) hsz (by rw [gA_sA, if_pos rfl]; exact stk_put hst.2) (by simpa using hl) (by rw [e1]; simpa using hd')
            rw [e1] at r1
            exact ⟨m', r1, (Same.sA (by simp)).tr r2⟩
          unfold ev1
          simp only [if_pos h4, if_pos h5]
          by_cases hx : x = 0
          · rw [if_neg (fun z => z hx), if_pos hx]
            exact key 1
          · rw [if_pos hx, if_neg hx]
            exact key 0
      · rw [if_pos h5]
        simp only [dp1, if_pos h4, if_neg h5] at hk'
        match st, hst, hl, hk', hd' with
        | y :: x :: t, hst, hl, hk', hd' =>
          simp only [List.length_cons] at hk' hl hd' ⊢
          rw [if_pos (by omega)] at hk'
          cases hk'
          rw [if_neg (by intro z; have := (nI_ltI (a := t.length + 1 + 1) (b := 2) (by omega) (by decide)).mp z; omega), Mo_f1 ha]
          simp only [Option.bind_some]
          rw [pk_m1, nI_pred, Mo_a2 ha (by omega)]
          simp only [Option.bind_some]
          rw [Mo_a2 ha (by omega)]
          simp only [Option.bind_some, c_joined, pv_tI]
          have hy : gA m (a + 2) (t.length + 1) = y := hst.1
          have hx : gA m (a + 2) t.length = x := hst.2.1
          rw [hy, hx, Mo_s2 ha (by omega)]
          simp only [Option.bind_some]
          rw [u_Mo_value_165, nI_1]
          have e1 : gA (sA m (a + 2) (upd (gA m (a + 2)) t.length (evJ s x y))) (a + 1) = gA m (a + 1) := by rw [gA_sA, if_neg (by omega)]
          obtain ⟨m', r1, r2⟩ := s_value6 ha hn d (i + 1) (evJ s x y :: t) (sA m (a + 2) (upd (gA m (a + 2)) t.length (evJ s x y))) (some (.int s)) (by omega) hsz (by rw [gA_sA, if_pos rfl]; exact stk_put hst.2.2) (by simp only [List.length_cons]; omega) (by rw [e1]; simpa using hd')
          rw [e1] at r1
          unfold ev1
          simp only [if_pos h4, if_neg h5]
          exact ⟨m', r1, (Same.sA (by simp)).tr r2⟩
        | [x], hst, hl, hk', hd' => simp at hk'
        | [], hst, hl, hk', hd' => simp at hk'
    · rw [if_neg h4, Mo_f1 ha]
      simp only [dp1, if_neg h4] at hk'
      split at hk'
      · rename_i h32
        cases hk'
        simp only [Option.bind_some]
        rw [Mo_l2 ha]
        simp only [Option.bind_some]
        rw [if_neg (nI_ge (a := st.length) (b := 32) h32 (by decide))]
        have key : ∀ v : Int32, ∃ m', f_Mo_value_77 X a b o q u (nI st.length) (nI i) s v (nI st.length) (a + 2) (hp m) = some (some (.int ((evn (gA m (a + 1)) (b, o, q, u) d (i + 1) (v :: st)).headD 0)), hp m') ∧ Same [a + 2] m m' := by
          intro v
          rw [u_Mo_value_77, Mo_s2 ha h32]
          simp only [Option.bind_some]
          rw [u_Mo_value_165, nI_1, nI_1]
          have e1 : gA (sA m (a + 2) (upd (gA m (a + 2)) st.length v)) (a + 1) = gA m (a + 1) := by rw [gA_sA, if_neg (by omega)]
          obtain ⟨m', r1, r2⟩ := s_value6 ha hn d (i + 1) (v :: st) (sA m (a + 2) (upd (gA m (a + 2)) st.length v)) (some (.int s)) (by omega) hsz (by rw [gA_sA, if_pos rfl]; exact stk_put hst) (by simp only [List.length_cons]; omega) (by rw [e1]; simpa using hd')
          rw [e1] at r1
          exact ⟨m', r1, (Same.sA (by simp)).tr r2⟩
        unfold ev1
        simp only [if_neg h4]
        by_cases h0 : s < 0
        · rw [if_pos h0, c_factValue, if_pos h0]
          exact key _
        · rw [if_neg h0, if_neg h0]
          exact key _
      · cases hk'
/-- what the E comes to by these facts -/
theorem s_value {X : pv_X} {m : pm_M} {a n : Nat} (ha : isMo a) (hn : n ≤ 1000) (hs : gI m a 2 = nI n) (hd : dpn (gA m (a + 1)) n 0 0 = some 1) {b o q u : Int32} : ∃ m', pM X m_Mo_value [.ref a, .int b, .int o, .int q, .int u] (hp m) = some (some (.int ((evn (gA m (a + 1)) (b, o, q, u) n 0 []).headD 0)), hp m') ∧ Same [a + 2] m m' := by
  rw [e_Mo_value, u_Mo_value_0]
  exact s_value6 ha hn n 0 [] m none (by omega) hs trivial (by simp) hd
