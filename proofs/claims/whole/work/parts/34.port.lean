/-! A QUARTER goes by: the class's Port, and its abstract form. -/
def fr {α : Type} (f : Nat → α → α) : Nat → Nat → α → α
  | 0, _, s => s
  | d + 1, i, s => fr f d (i + 1) (f i s)
/-- how many, kinds, whom they ask, the law of moods -/
abbrev aP : Type := Nat × (Nat → Int32) × (Nat → Int32) × Option (aF → Int32)
def stp (k : Int32) : Int32 := if k = 1 then 2 else if k = 2 then -2 else 0
def hr1 (A : Nat → Int32) (i : Nat) (s : aS) : aS := if A i = -1 then s else aAsk s i (A i).toNatClampNeg
def mv1 (K : Nat → Int32) (L : aF → Int32) (u : Int32) (i : Nat) (s : aS) : aS := if K i = 3 then s else aMov s i (mx (-20) (mn 20 (L (s.2.1 i, aOut s i, s.2.2.1 i, u))))
def tm1 (K : Nat → Int32) (i : Nat) (s : aS × Int32) : aS × Int32 :=
  if s.1.1 i + s.1.2.1 i / 4 + stp (K i) < 720 then ((upd s.1.1 i (s.1.1 i + s.1.2.1 i / 4 + stp (K i)), s.1.2), s.2)
  else ((upd s.1.1 i (s.1.1 i + s.1.2.1 i / 4 + stp (K i) + (-720)), s.1.2), s.2 ||| ((1 : Int32) <<< (nI i &&& 31)))
def aHr (π : aP) (s : aS) : aS := if rm s.2.2.2 4 = 0 then fr (hr1 π.2.2.1) π.1 0 s else s
def aMd (π : aP) (s : aS) : aS := match π.2.2.2 with
  | some L => fr (mv1 π.2.1 L (tt s.2.2.2 / 60)) π.1 0 s
  | none => s
def aNx (s : aS) : aS := (s.1, s.2.1, s.2.2.1, s.2.2.2 + 1)
/-- a QUARTER: how it is then, and whose times went on to 0, or past it -/
def aPQ (π : aP) (s : aS) : aS × Int32 := ((aMd π (aHr π (aNx (fr (tm1 π.2.1) π.1 0 (s, 0)).1))), (fr (tm1 π.2.1) π.1 0 (s, 0)).2)
def isPo (a : Nat) : Prop := pm_T[a]? = some (.inr (6, [(2, a + 1), (2, a + 2), (2, a + 3), (2, a + 6), (2, a + 7), (2, a + 8), (0, 0)])) ∧ pm_T[a + 1]? = some (.inl (2, 6)) ∧ pm_T[a + 2]? = some (.inl (3, 6)) ∧ isMo (a + 3) ∧ pm_T[a + 6]? = some (.inl (1, 6)) ∧ pm_T[a + 7]? = some (.inl (1, 6)) ∧ isSt (a + 8)
theorem isPo_3 : isPo 3 := ⟨rfl, rfl, rfl, isMo_6, rfl, rfl, isSt_11⟩
theorem isPo_15 : isPo 15 := ⟨rfl, rfl, rfl, isMo_18, rfl, rfl, isSt_23⟩
/-- the law of moods that a Port holds -/
def vL (m : pm_M) (P : Nat) : Option (aF → Int32) := if gI m (P + 3) 3 = 0 then none else some (fun f => (evn (gA m (P + 4)) f (gI m (P + 3) 2).toNatClampNeg 0 []).headD 0)
def vP (m : pm_M) (P : Nat) : aP := ((gI m P 6).toNatClampNeg, nr (gA m (P + 6)), nr (gA m (P + 7)), vL m P)
/-- a Port as it always is -/
def okP (m : pm_M) (P : Nat) : Prop := (∃ n, n ≤ 6 ∧ gI m P 6 = nI n ∧ ∀ k, k < n → gA m (P + 7) k = -1 ∨ ∃ j, j < n ∧ j ≠ k ∧ gA m (P + 7) k = nI j) ∧ (gI m (P + 3) 3 ≠ 0 → ∃ N, N ≤ 1000 ∧ gI m (P + 3) 2 = nI N ∧ dpn (gA m (P + 4)) N 0 0 = some 1)
section POF
variable {m : pm_M} {X : pv_X} {a k : Nat}
theorem Po_f2 (ha : isPo a) : pv_fR (hp m) a 6 2 = some (a + 3) := hp_fR ha.1 rfl
theorem Po_f3 (ha : isPo a) : pv_fR (hp m) a 6 3 = some (a + 6) := hp_fR ha.1 rfl
theorem Po_f4 (ha : isPo a) : pv_fR (hp m) a 6 4 = some (a + 7) := hp_fR ha.1 rfl
theorem Po_f5 (ha : isPo a) : pv_fR (hp m) a 6 5 = some (a + 8) := hp_fR ha.1 rfl
theorem Po_f6 (ha : isPo a) : pv_fI (hp m) a 6 6 = some (gI m a 6) := hp_fI ha.1 rfl
theorem Po_rc (ha : isPo a) : pv_rc (hp m) a 6 = true := hp_rc ha.1
theorem Po_a6 (ha : isPo a) (hk : k < 6) : pv_aX X (hp m) (a + 6) (nI k) = some (gA m (a + 6) k) := ar_ld ha.2.2.2.2.1 hk (by decide)
theorem Po_a7 (ha : isPo a) (hk : k < 6) : pv_aX X (hp m) (a + 7) (nI k) = some (gA m (a + 7) k) := ar_ld ha.2.2.2.2.2.1 hk (by decide)
end POF
theorem c_stepMore {X : pv_X} {h : pv_H} {k : Int32} : pM X m_Po_stepMore [.int k] h = some (some (.int (stp k)), h) := by
  rw [e_Po_stepMore, u_Po_stepMore_0]
  unfold stp
  by_cases h1 : k = 1
  · simp [h1]
  · by_cases h2 : k = 2 <;> simp [h1, h2, u_Po_stepMore_18]
theorem hr1_nr {A : Nat → Int32} : ∀ (d i : Nat) (s : aS), i + d ≤ 6 → fr (hr1 A) d i s = fr (hr1 (nr A)) d i s
  | 0, _, _, _ => by simp only [fr]
  | d + 1, i, s, h => by
    have h0 : nr A i = A i := nr_lt (by omega)
    have e : hr1 (nr A) i s = hr1 A i s := by simp only [hr1, h0]
    simp only [fr, e]
    exact hr1_nr d (i + 1) _ (by omega)
section PQ
variable {X : pv_X} {P a n : Nat}
theorem s_hour2 (hP : isPo P) (ha : isSt a) (hn : n ≤ 6) (A : Nat → Int32) (hd : P + 12 ≤ a) : ∀ (d i : Nat) (m : pm_M), i + d = n → gI m P 6 = nI n → gA m (P + 7) = A → (∀ k, k < n → A k = -1 ∨ ∃ j, j < n ∧ A k = nI j) →
    ∃ m', f_Po_askOnTheHour_2 X P a (nI i) (hp m) = some (none, hp m') ∧ vw m' a = fr (hr1 A) d i (vw m a) ∧ Same (cSt a) m m'
  | 0, i, m, hi, h6, hA, hk => by
    refine ⟨m, ?_, rfl, Same.rf⟩
    rw [u_Po_askOnTheHour_2, Po_f6 hP, h6]
    simp only [Option.bind_some]
    rw [if_pos (nI_le (a := n) (b := i) (by omega) (by omega))]
  | d + 1, i, m, hi, h6, hA, hk => by
    rw [u_Po_askOnTheHour_2, Po_f6 hP, h6]
    simp only [Option.bind_some]
    rw [if_neg (nI_ge (a := i) (b := n) (by omega) (by omega)), Po_f4 hP]
    simp only [Option.bind_some]
    rw [Po_a7 hP (by omega), hA]
    simp only [Option.bind_some]
    by_cases h1 : A i = -1
    · rw [if_pos h1, u_Po_askOnTheHour_31, nI_1]
      obtain ⟨m', r1, r2, r3⟩ := s_hour2 hP ha hn A hd d (i + 1) m (by omega) h6 hA hk
      refine ⟨m', r1, ?_, r3⟩
      rw [r2, fr, hr1, if_pos h1]
    · obtain ⟨j, hj, hAj⟩ := (hk i (by omega)).resolve_left h1
      rw [if_neg h1, St_rc ha, if_pos rfl, hAj]
      obtain ⟨m1, q1, q2, q3⟩ := s_takeTime (X := X) (m := m) ha (show i < 6 by omega) (show j < 6 by omega)
      simp only [q1, pv_tV, Option.bind_some]
      rw [u_Po_askOnTheHour_31, nI_1]
      have n0 : P ∉ cSt a := by simp [cSt]; omega
      have n7 : P + 7 ∉ cSt a := by simp [cSt]; omega
      obtain ⟨m', r1, r2, r3⟩ := s_hour2 hP ha hn A hd d (i + 1) m1 (by omega) (by rw [q3.I n0]; exact h6) (by rw [q3.A n7]; exact hA) hk
      refine ⟨m', r1, ?_, q3.tr r3⟩
      rw [r2, q2, fr, hr1, if_neg h1, hAj, nI_clamp (by omega)]
theorem s_moods10 (hP : isPo P) (ha : isSt a) (hn : n ≤ 6) (K S : Nat → Int32) {N : Nat} (hN : N ≤ 1000) (hdp : dpn S N 0 0 = some 1) (hd : P + 12 ≤ a) (u : Int32) : ∀ (d i : Nat) (m : pm_M) (o4 : Option Value), i + d = n → gI m P 6 = nI n → gA m (P + 6) = K → gA m (P + 4) = S → gI m (P + 3) 2 = nI N →
    ∃ m', f_Po_changeMoods_10 X P a u (nI i) o4 (hp m) = some (none, hp m') ∧ vw m' a = fr (mv1 (nr K) (fun f => (evn S f N 0 []).headD 0) u) d i (vw m a) ∧ Same (cSt a ++ [P + 5]) m m'
  | 0, i, m, o4, hi, h6, hK, hS, h2 => by
    refine ⟨m, ?_, rfl, Same.rf⟩
    rw [u_Po_changeMoods_10, Po_f6 hP, h6]
    simp only [Option.bind_some]
    rw [if_pos (nI_le (a := n) (b := i) (by omega) (by omega))]
  | d + 1, i, m, o4, hi, h6, hK, hS, h2 => by
    have i6 : i < 6 := by omega
    rw [u_Po_changeMoods_10, Po_f6 hP, h6]
    simp only [Option.bind_some]
    rw [if_neg (nI_ge (a := i) (b := n) (by omega) (by omega)), Po_f3 hP]
    simp only [Option.bind_some]
    rw [Po_a6 hP i6, hK]
    simp only [Option.bind_some]
    by_cases h3 : K i = 3
    · rw [if_pos h3, u_Po_changeMoods_72, nI_1]
      obtain ⟨m', r1, r2, r3⟩ := s_moods10 hP ha hn K S hN hdp hd u d (i + 1) m o4 (by omega) h6 hK hS h2
      refine ⟨m', r1, ?_, r3⟩
      rw [r2, fr, mv1, nr_lt i6, if_pos h3]
    · have hmo := hP.2.2.2.1
      obtain ⟨m1, v1, v2⟩ := s_value (X := X) (m := m) hmo hN h2 (by rw [show P + 3 + 1 = P + 4 from rfl, hS]; exact hdp) (b := gA m (a + 2) i) (o := aOut (vw m a) i) (q := gA m (a + 3) i) (u := u)
      have e5 : Same (cSt a ++ [P + 5]) m m1 := v2.mono (by intro c hc; simp at hc; simp [hc])
      have n1 : ∀ c ∈ cSt a, c ∉ [P + 3 + 2] := by intro c hc; simp [cSt] at hc; simp; omega
      have hvw : vw m1 a = vw m a := vw_same v2 n1
      obtain ⟨m2, w1, w2, w3⟩ := s_moveBeats (X := X) (m := m1) (a := a) ha i6 (v := mx (-20) (mn 20 ((evn (gA m (P + 3 + 1)) (gA m (a + 2) i, aOut (vw m a) i, gA m (a + 3) i, u) N 0 []).headD 0)))
      rw [if_neg h3]
      simp only [Po_f2 hP, Option.bind_some, St_f1 ha, St_a2 ha i6, St_rc ha, if_true, s_outOf ha i6, pv_tI, St_f2 ha, St_a3 ha i6, Mo_rc hmo, v1, c_min, c_max, w1, pv_tV]
      rw [u_Po_changeMoods_72, nI_1]
      have nn : ∀ c, c = P ∨ c = P + 6 ∨ c = P + 4 ∨ c = P + 3 → c ∉ cSt a ++ [P + 5] := by intro c hc; simp [cSt]; omega
      have w3' : Same (cSt a ++ [P + 5]) m1 m2 := w3.mono (by intro c hc; simp [hc])
      have sm := e5.tr w3'
      obtain ⟨m', r1, r2, r3⟩ := s_moods10 hP ha hn K S hN hdp hd u d (i + 1) m2 (some (.int ((evn (gA m (P + 3 + 1)) (gA m (a + 2) i, aOut (vw m a) i, gA m (a + 3) i, u) N 0 []).headD 0))) (by omega) (by rw [sm.I (nn _ (by omega))]; exact h6) (by rw [sm.A (nn _ (by omega))]; exact hK) (by rw [sm.A (nn _ (by omega))]; exact hS) (by rw [sm.I (nn _ (by omega))]; exact h2)
      refine ⟨m', r1, ?_, sm.tr r3⟩
      rw [r2, w2, hvw, fr, mv1, nr_lt i6, if_neg h3]
      have hS' : gA m (P + 3 + 1) = S := hS
      rw [hS']
      simp [vw, nr_lt i6]
theorem s_pass4 (hP : isPo P) (ha : isSt a) (hn : n ≤ 6) (K : Nat → Int32) (hd : P + 12 ≤ a) {post : Int32 → Int32 → Option Value → pm_M → Option pv_O} (hpost : ∀ (v3 v2 : Int32) (o4 : Option Value) (m : pm_M), nI n ≤ v3 → gI m P 6 = nI n → f_Po_passQuarter_4 X P a v2 v3 o4 (hp m) = post v2 v3 o4 m) : ∀ (d i : Nat) (m : pm_M) (v2 : Int32) (o4 : Option Value), i + d = n → gI m P 6 = nI n → gA m (P + 6) = K →
    ∃ m' o', f_Po_passQuarter_4 X P a v2 (nI i) o4 (hp m) = post (fr (tm1 (nr K)) d i (vw m a, v2)).2 (nI n) o' m' ∧ vw m' a = (fr (tm1 (nr K)) d i (vw m a, v2)).1 ∧ Same (cSt a) m m'
  | 0, i, m, v2, o4, hi, h6, hK => by
    have hin : i = n := by omega
    subst hin
    exact ⟨m, o4, hpost _ _ _ _ (nI_le (Nat.le_refl _) (by omega)) h6, rfl, Same.rf⟩
  | d + 1, i, m, v2, o4, hi, h6, hK => by
    have i6 : i < 6 := by omega
    rw [u_Po_passQuarter_4, Po_f6 hP, h6]
    simp only [Option.bind_some]
    rw [if_neg (nI_ge (a := i) (b := n) (by omega) (by omega))]
    simp only [St_f0 ha, Option.bind_some, St_a1 ha i6, St_f1 ha, St_a2 ha i6, Po_f3 hP, Po_a6 hP i6, hK, c_stepMore, pv_tI]
    have key : ∀ (t v2' : Int32), ∃ m' o', f_Po_passQuarter_59 X P a v2' (nI i) t (hp m) = post (fr (tm1 (nr K)) d (i + 1) ((upd (vw m a).1 i t, (vw m a).2), v2')).2 (nI n) o' m' ∧ vw m' a = (fr (tm1 (nr K)) d (i + 1) ((upd (vw m a).1 i t, (vw m a).2), v2')).1 ∧ Same (cSt a) m m' := by
      intro t v2'
      rw [u_Po_passQuarter_59, St_f0 ha]
      simp only [Option.bind_some]
      rw [St_s1 ha i6]
      simp only [Option.bind_some]
      rw [nI_1]
      have s1 : Same (cSt a) m (sA m (a + 1) (upd (gA m (a + 1)) i t)) := Same.sA (by simp [cSt])
      have n0 : P ∉ cSt a := by simp [cSt]; omega
      have n7 : P + 6 ∉ cSt a := by simp [cSt]; omega
      obtain ⟨m', o', r1, r2, r3⟩ := s_pass4 hP ha hn K hd hpost d (i + 1) (sA m (a + 1) (upd (gA m (a + 1)) i t)) v2' (some (.int t)) (by omega) (by rw [s1.I n0]; exact h6) (by rw [s1.A n7]; exact hK)
      have hv : vw (sA m (a + 1) (upd (gA m (a + 1)) i t)) a = (upd (vw m a).1 i t, (vw m a).2) := by simp [vw, gA_sA, gI_sA, nr_upd i6]
      rw [hv] at r1 r2
      exact ⟨m', o', r1, r2, s1.tr r3⟩
    rw [fr]
    have e1 : (vw m a).1 i = gA m (a + 1) i := nr_lt i6
    have e2 : (vw m a).2.1 i = gA m (a + 2) i := nr_lt i6
    have e3 : nr K i = K i := nr_lt i6
    by_cases h7 : gA m (a + 1) i + gA m (a + 2) i / 4 + stp (K i) < 720
    · rw [if_pos h7]
      have et : tm1 (nr K) i (vw m a, v2) = ((upd (vw m a).1 i (gA m (a + 1) i + gA m (a + 2) i / 4 + stp (K i)), (vw m a).2), v2) := by unfold tm1; dsimp only; rw [e1, e2, e3, if_pos h7]
      rw [et]
      exact key _ _
    · rw [if_neg h7]
      have et : tm1 (nr K) i (vw m a, v2) = ((upd (vw m a).1 i (gA m (a + 1) i + gA m (a + 2) i / 4 + stp (K i) + (-720)), (vw m a).2), v2 ||| ((1 : Int32) <<< (nI i &&& 31))) := by unfold tm1; dsimp only; rw [e1, e2, e3, if_neg h7]
      rw [et]
      exact key _ _
end PQ
/-- what a QUARTER touches -/
def cQ (P a : Nat) : List Nat := cSt a ++ [P + 5]
theorem s_passQuarter {X : pv_X} {P a : Nat} {m : pm_M} (hP : isPo P) (ha : isSt a) (hd : P + 12 ≤ a) (ok : okP m P) : ∃ m', pM X m_Po_passQuarter [.ref P, .ref a] (hp m) = some (some (.int (aPQ (vP m P) (vw m a)).2), hp m') ∧ vw m' a = (aPQ (vP m P) (vw m a)).1 ∧ Same (cQ P a) m m' := by
  obtain ⟨⟨n, hn, h6, hA⟩, hM⟩ := ok
  rw [e_Po_passQuarter, u_Po_passQuarter_0]
  have hmo := hP.2.2.2.1
  obtain ⟨m1, o1, r1, r2, r3⟩ := s_pass4 (X := X) hP ha hn (gA m (P + 6)) hd (post := fun v2 v3 o4 m => f_Po_passQuarter_4 X P a v2 v3 o4 (hp m)) (fun _ _ _ _ _ _ => rfl) n 0 m 0 none (by omega) h6 rfl
  rw [show (0 : Int32) = nI 0 from rfl] at r1 r2 ⊢
  rw [r1]
  have hvn : (gI m P 6).toNatClampNeg = n := by rw [h6, nI_clamp (by omega)]
  have nP : ∀ c, P ≤ c → c < P + 12 → c ∉ cSt a := by intro c h1 h2; simp [cSt]; omega
  generalize hfr : fr (tm1 (nr (gA m (P + 6)))) n 0 (vw m a, nI 0) = w at r1 r2
  have hpq : aPQ (vP m P) (vw m a) = (aMd (vP m P) (aHr (vP m P) (aNx w.1)), w.2) := by
    unfold aPQ
    have : fr (tm1 (vP m P).2.1) (vP m P).1 0 (vw m a, 0) = w := by
      rw [← hfr]
      show fr (tm1 (nr (gA m (P + 6)))) (gI m P 6).toNatClampNeg 0 (vw m a, 0) = _
      rw [hvn]
      rfl
    rw [this]
  rw [hpq]
  dsimp only
  rw [u_Po_passQuarter_4, Po_f6 hP, r3.I (nP P (by omega) (by omega)), h6]
  simp only [Option.bind_some]
  rw [if_pos (nI_le (Nat.le_refl _) (by omega)), St_f3 ha]
  simp only [Option.bind_some]
  rw [St_p3 ha]
  simp only [Option.bind_some]
  rw [St_f3 ha]
  simp only [Option.bind_some, gI_sI, and_self, if_true]
  have s2 : Same (cSt a) m1 (sI m1 a 3 (gI m1 a 3 + 1)) := Same.sI (by simp [cSt])
  have hv2 : vw (sI m1 a 3 (gI m1 a 3 + 1)) a = aNx w.1 := by
    have : vw (sI m1 a 3 (gI m1 a 3 + 1)) a = aNx (vw m1 a) := by simp [vw, aNx, gA_sI, gI_sI]
    rw [this, r2]
  generalize hm2 : sI m1 a 3 (gI m1 a 3 + 1) = m2 at s2 hv2 ⊢
  have hq : gI m1 a 3 + 1 = (aNx w.1).2.2.2 := by
    rw [← hv2]
    show _ = gI m2 a 3
    rw [← hm2, gI_sI_eq]
  have s12 := r3.tr s2
  -- the hour
  have hour : ∃ m3, (if ¬ (gI m1 a 3 + 1 - (gI m1 a 3 + 1) / 4 * 4) = 0 then f_Po_passQuarter_97 X P a w.2 (nI n) o1 (hp m2) else if pv_rc (hp m2) P 6 = true then (pv_tV (pM X m_Po_askOnTheHour [.ref P, .ref a] (hp m2))).bind (fun h5 => f_Po_passQuarter_97 X P a w.2 (nI n) o1 h5) else none) = f_Po_passQuarter_97 X P a w.2 (nI n) o1 (hp m3) ∧ vw m3 a = aHr (vP m P) (aNx w.1) ∧ Same (cSt a) m m3 := by
    by_cases h4 : rm (gI m1 a 3 + 1) 4 = 0
    · have h4' : (gI m1 a 3 + 1 - (gI m1 a 3 + 1) / 4 * 4) = 0 := h4
      rw [if_neg (fun z => z h4'), Po_rc hP, if_pos rfl, e_Po_askOnTheHour, u_Po_askOnTheHour_0]
      obtain ⟨m3, q1, q2, q3⟩ := s_hour2 (X := X) hP ha hn (gA m (P + 7)) hd n 0 m2 (by omega) (by rw [s12.I (nP P (by omega) (by omega))]; exact h6) (by rw [s12.A (nP _ (by omega) (by omega))]) (fun k hk => by
        rcases hA k hk with h | ⟨j, h1, -, h2⟩
        · exact Or.inl h
        · exact Or.inr ⟨j, h1, h2⟩)
      rw [show (0 : Int32) = nI 0 from rfl, q1]
      simp only [pv_tV, Option.bind_some]
      refine ⟨m3, rfl, ?_, s12.tr q3⟩
      rw [q2, hv2]
      unfold aHr
      rw [← hq, if_pos h4]
      show _ = fr (hr1 (nr (gA m (P + 7)))) (gI m P 6).toNatClampNeg 0 (aNx w.1)
      rw [hvn]
      exact hr1_nr n 0 _ (by omega)
    · have h4' : ¬ (gI m1 a 3 + 1 - (gI m1 a 3 + 1) / 4 * 4) = 0 := h4
      rw [if_pos h4']
      refine ⟨m2, rfl, ?_, s12⟩
      rw [hv2]
      unfold aHr
      rw [← hq, if_neg h4]
  obtain ⟨m3, e3, v3, s3⟩ := hour
  rw [e3, u_Po_passQuarter_97, Po_f2 hP]
  simp only [Option.bind_some]
  rw [Mo_f3 hmo, s3.I (nP (P + 3) (by omega) (by omega))]
  simp only [Option.bind_some]
  by_cases ht : gI m (P + 3) 3 = 0
  · rw [if_pos ht, u_Po_passQuarter_112]
    refine ⟨m3, rfl, ?_, s3.mono (by intro c hc; simp [cQ, hc])⟩
    rw [v3]
    unfold aMd
    have : (vP m P).2.2.2 = none := by show vL m P = none; unfold vL; rw [if_pos ht]
    rw [this]
  · obtain ⟨N, hN, hN2, hdp⟩ := hM ht
    rw [if_neg ht, Po_rc hP, if_pos rfl, e_Po_changeMoods, u_Po_changeMoods_0, St_rc ha, if_pos rfl, c_trueTime ha]
    simp only [pv_tI, Option.bind_some]
    obtain ⟨m4, q1, q2, q3⟩ := s_moods10 (X := X) hP ha hn (gA m (P + 6)) (gA m (P + 4)) hN hdp hd (tt (gI m3 a 3) / 60) n 0 m3 none (by omega) (by rw [s3.I (nP P (by omega) (by omega))]; exact h6) (by rw [s3.A (nP _ (by omega) (by omega))]) (by rw [s3.A (nP _ (by omega) (by omega))]) (by rw [s3.I (nP _ (by omega) (by omega))]; exact hN2)
    rw [show (0 : Int32) = nI 0 from rfl, q1]
    simp only [pv_tV, Option.bind_some]
    rw [u_Po_passQuarter_112]
    refine ⟨m4, rfl, ?_, (s3.mono (by intro c hc; simp [cQ, hc])).tr q3⟩
    rw [q2, v3]
    unfold aMd
    have : (vP m P).2.2.2 = some (fun f => (evn (gA m (P + 4)) f N 0 []).headD 0) := by show vL m P = _; unfold vL; rw [if_neg ht, hN2, nI_clamp (by omega)]
    rw [this]
    show _ = fr (mv1 (nr (gA m (P + 6))) (fun f => (evn (gA m (P + 4)) f N 0 []).headD 0) (tt (aHr (vP m P) (aNx w.1)).2.2.2 / 60)) (gI m P 6).toNatClampNeg 0 (aHr (vP m P) (aNx w.1))
    rw [hvn, ← v3]
    rfl
