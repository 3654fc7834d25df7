/-! The reference's E of moods, and its QUARTER. -/
/- rows that aren't by rfl: the kernel then doesn't unfold -/
theorem bs {α β : Type} (a : α) (f : α → Option β) : (some a).bind f = f a := by
  cases h : f a <;> simp [h]
theorem tIs (v : Int32) (h : pv_H) : pv_tI (some (some (.int v), h)) = some (v, h) := by unfold pv_tI; simp
theorem tVs (h : pv_H) : pv_tV (some (none, h)) = some h := by unfold pv_tV; simp
/-- a step of the class's, an op and an arg of the reference's -/
def mr (s o a : Int32) : Prop := (o = 1 ∧ 0 ≤ s ∧ a = s) ∨ (o = 2 ∧ ∃ j, j < 4 ∧ a = nI j ∧ s = -1 - nI j) ∨ (o = 3 ∧ s = -5) ∨ (o = 4 ∧ s = -10) ∨ (o = 5 ∧ s = -11) ∨ (o = 6 ∧ s = -12) ∨ (o = 7 ∧ s = -8) ∨ (o = 8 ∧ s = -9) ∨ (o = 9 ∧ s = -6) ∨ (o = 10 ∧ s = -7)
def mrJ (s o : Int32) : Prop := (o = 4 ∧ s = -10) ∨ (o = 5 ∧ s = -11) ∨ (o = 6 ∧ s = -12) ∨ (o = 7 ∧ s = -8) ∨ (o = 8 ∧ s = -9) ∨ (o = 9 ∧ s = -6) ∨ (o = 10 ∧ s = -7)
theorem d_both {X : pv_X} {h : pv_H} {s o x y : Int32} (hs : mrJ s o) : pM X m_Md_both [.int o, .int x, .int y] h = some (some (.int (evJ s x y)), h) := by
  rw [e_Md_both, u_Md_both_0]
  simp only [u_Md_both_62, u_Md_both_73, u_Md_both_86, u_Md_both_87, u_Md_both_96, u_Md_both_101]
  unfold evJ
  rcases hs with ⟨rfl, rfl⟩ | ⟨rfl, rfl⟩ | ⟨rfl, rfl⟩ | ⟨rfl, rfl⟩ | ⟨rfl, rfl⟩ | ⟨rfl, rfl⟩ | ⟨rfl, rfl⟩
  · simp
  · simp
  · simp
  · by_cases h : x < y
    · have h' : ¬ y ≤ x := by simpa using h
      simp [h, h']
    · have h' : y ≤ x := by simpa using h
      simp [h, h']
  · by_cases h : x = y <;> simp [h]
  · by_cases hx : x = 0 <;> by_cases hy : y = 0 <;> simp [hx, hy]
  · by_cases hx : x = 0 <;> by_cases hy : y = 0 <;> simp [hx, hy]
theorem mrJ_lt {s o : Int32} (h : mrJ s o) : s < -4 ∧ s ≠ -5 ∧ o ≠ 0 ∧ o ≠ 1 ∧ o ≠ 2 ∧ o ≠ 3 := by
  rcases h with ⟨rfl, rfl⟩ | ⟨rfl, rfl⟩ | ⟨rfl, rfl⟩ | ⟨rfl, rfl⟩ | ⟨rfl, rfl⟩ | ⟨rfl, rfl⟩ | ⟨rfl, rfl⟩ <;> decide
/-- the four facts -/
def ftn (f : aF) : Nat → Int32
  | 0 => f.1
  | 1 => f.2.1
  | 2 => f.2.2.1
  | _ => f.2.2.2
theorem evF_ftn {f : aF} {j : Nat} (h : j < 4) : evF (-1 - nI j) f = ftn f j ∧ ¬ (-1 - nI j : Int32) < -4 ∧ (-1 - nI j : Int32) < 0 := by
  match j, h with
  | 0, _ => refine ⟨?_, by decide, by decide⟩; unfold evF; rw [if_neg (by decide), if_neg (by decide), if_pos (by decide)]; rfl
  | 1, _ => refine ⟨?_, by decide, by decide⟩; unfold evF; rw [if_neg (by decide), if_pos (by decide)]; rfl
  | 2, _ => refine ⟨?_, by decide, by decide⟩; unfold evF; rw [if_pos (by decide)]; rfl
  | 3, _ => refine ⟨?_, by decide, by decide⟩; unfold evF; rw [if_neg (by decide), if_neg (by decide), if_neg (by decide)]; rfl
/-- the rest of the E, d steps of it, comes out as it should -/
def dW (X : pv_X) (S O A : Nat → Int32) (f : aF) (N d : Nat) : Prop := ∀ (i : Nat) (st : List Int32) (m : pm_M) (o4 : Option Value), i + d = N → gA m 182 = O → gA m 183 = A → (∀ j, j < 4 → gA m 187 j = ftn f j) → stk (gA m 188) st → st.length ≤ 32 → dpn S d i st.length = some 1 →
    ∃ m', f_Md_worthAt_4 X 175 0 (nI st.length) (nI i) o4 (hp m) = some (some (.int ((evn S f d i st).headD 0)), hp m') ∧ Same [188] m m'
section DW
variable {X : pv_X} {S O A : Nat → Int32} {f : aF} {N d i : Nat} {m : pm_M}
theorem dW_0 (hN : N ≤ 1000) (hO : O N = 0) : dW X S O A f N 0 := by
  intro i st m o4 hi h2 h3 hf hst hl hd
  refine ⟨m, ?_, Same.rf⟩
  simp only [dpn, Option.some.injEq] at hd
  have hiN : i = N := by omega
  subst hiN
  rw [u_Md_worthAt_4, Md_f11]
  simp only [bs]
  rw [ld_182 (by omega), h2, hO]
  simp only [bs, if_true]
  rw [Md_f20]
  simp only [bs]
  have l0 : pv_aX X (hp m) 188 0 = some (gA m 188 0) := by
    have := ld_188 (X := X) (m := m) (k := 0) (by decide)
    rw [nI_0] at this
    exact this
  rw [l0]
  match st, hd, hst with
  | [x], _, hst =>
    have h0 : gA m 188 0 = x := hst.1
    rw [h0]
    simp only [evn, bs, List.headD_cons]
theorem dW_key (ih : dW X S O A f N d) (hi : i + (d + 1) = N) (h2 : gA m 182 = O) (h3 : gA m 183 = A) (hf : ∀ j, j < 4 → gA m 187 j = ftn f j) {t : List Int32} {v o : Int32} (ht : stk (gA m 188) t) (hl : t.length + 1 ≤ 32) (hd : dpn S d (i + 1) (t.length + 1) = some 1) : ∃ m', f_Md_worthAt_134 X 175 0 (nI (t.length + 1)) (nI i) o (hp (sA m 188 (upd (gA m 188) t.length v))) = some (some (.int ((evn S f d (i + 1) (v :: t)).headD 0)), hp m') ∧ Same [188] m m' := by
  rw [u_Md_worthAt_134, nI_1]
  obtain ⟨m', r1, r2⟩ := ih (i + 1) (v :: t) (sA m 188 (upd (gA m 188) t.length v)) (some (.int o)) (by omega) (by rw [gA_sA, if_neg (by decide)]; exact h2) (by rw [gA_sA, if_neg (by decide)]; exact h3) (fun j hj => by rw [gA_sA, if_neg (by decide)]; exact hf j hj) (by rw [gA_sA, if_pos rfl]; exact stk_put ht) (by rw [List.length_cons]; exact hl) (by rw [List.length_cons]; exact hd)
  rw [List.length_cons] at r1
  exact ⟨m', r1, (Same.sA (by simp)).tr r2⟩
theorem dW_push (hN : N ≤ 1000) (ih : dW X S O A f N d) (hi : i + (d + 1) = N) (h2 : gA m 182 = O) (h3 : gA m 183 = A) (hf : ∀ j, j < 4 → gA m 187 j = ftn f j) {st : List Int32} {v : Int32} {k' : Nat} (hst : stk (gA m 188) st) (hk' : dp1 st.length (S i) = some k') (hd' : dpn S d (i + 1) k' = some 1) (h4 : ¬ S i < -4) (hv : (if S i < 0 then evF (S i) f else S i) = v) (ha : O i = 1 → A i = v) (hb : ¬ O i = 1 → ∃ j, j < 4 ∧ A i = nI j ∧ ftn f j = v) : ∃ m', f_Md_worthAt_33 X 175 0 (nI st.length) (nI i) (O i) (hp m) = some (some (.int ((evn S f d (i + 1) (ev1 f st (S i))).headD 0)), hp m') ∧ Same [188] m m' := by
  simp only [dp1, if_neg h4] at hk'
  split at hk'
  · rename_i h32
    cases hk'
    have e : ev1 f st (S i) = v :: st := by unfold ev1; rw [if_neg h4, hv]
    rw [e]
    obtain ⟨m', r1, r2⟩ := dW_key (o := O i) (v := v) ih hi h2 h3 hf hst h32 hd'
    refine ⟨m', ?_, r2⟩
    have r3 : f_Md_worthAt_64 X 175 0 (nI st.length) (nI i) (O i) v (nI st.length) 188 (hp m) = some (some (.int ((evn S f d (i + 1) (v :: st)).headD 0)), hp m') := by
      rw [u_Md_worthAt_64, st_188 (by omega)]
      simp only [bs]
      rw [nI_1]
      exact r1
    rw [u_Md_worthAt_33, Md_f20]
    simp only [bs, Md_f12, Md_f19]
    rw [ld_183 (by omega), h3]
    simp only [bs]
    by_cases ho : O i = 1
    · rw [if_neg (fun z => z ho), ha ho, r3]
    · obtain ⟨j, hj, hAj, hfj⟩ := hb ho
      rw [if_pos ho, hAj, ld_187 hj, hf j hj, hfj]
      simp only [bs]
      exact r3
  · cases hk'
theorem dW_not (hN : N ≤ 1000) (ih : dW X S O A f N d) (hi : i + (d + 1) = N) (h2 : gA m 182 = O) (h3 : gA m 183 = A) (hf : ∀ j, j < 4 → gA m 187 j = ftn f j) {st : List Int32} {k' : Nat} {o : Int32} (hst : stk (gA m 188) st) (hl : st.length ≤ 32) (hk' : dp1 st.length (S i) = some k') (hd' : dpn S d (i + 1) k' = some 1) (hs : S i = -5) : ∃ m', ((pv_aX X (hp m) 188 (nI st.length - 1)).bind fun x16 => if ¬ x16 = 0 then f_Md_worthAt_100 X 175 0 (nI st.length) (nI i) o 0 (nI st.length - 1) 188 (hp m) else f_Md_worthAt_100 X 175 0 (nI st.length) (nI i) o 1 (nI st.length - 1) 188 (hp m)) = some (some (.int ((evn S f d (i + 1) (ev1 f st (S i))).headD 0)), hp m') ∧ Same [188] m m' := by
  have h4 : S i < -4 := by rw [hs]; decide
  simp only [dp1, if_pos h4, if_pos hs] at hk'
  match st, hst, hl, hk', hd' with
  | x :: t, hst, hl, hk', hd' =>
    rw [List.length_cons] at hk' hl ⊢
    rw [if_pos (by omega)] at hk'
    cases hk'
    rw [nI_pred, ld_188 (by omega)]
    simp only [bs]
    have hx : gA m 188 t.length = x := hst.1
    rw [hx]
    have e : ev1 f (x :: t) (S i) = (if x = 0 then 1 else 0) :: t := by unfold ev1; rw [if_pos h4, if_pos hs]
    rw [e]
    by_cases hx0 : x = 0
    · rw [if_neg (fun z => z hx0), if_pos hx0, u_Md_worthAt_100, st_188 (by omega)]
      simp only [bs]
      exact dW_key ih hi h2 h3 hf hst.2 hl hd'
    · rw [if_pos hx0, if_neg hx0, u_Md_worthAt_100, st_188 (by omega)]
      simp only [bs]
      exact dW_key ih hi h2 h3 hf hst.2 hl hd'
theorem dW_join (hN : N ≤ 1000) (ih : dW X S O A f N d) (hi : i + (d + 1) = N) (h2 : gA m 182 = O) (h3 : gA m 183 = A) (hf : ∀ j, j < 4 → gA m 187 j = ftn f j) {st : List Int32} {k' : Nat} (hst : stk (gA m 188) st) (hl : st.length ≤ 32) (hk' : dp1 st.length (S i) = some k') (hd' : dpn S d (i + 1) k' = some 1) (hJ : mrJ (S i) (O i)) : ∃ m', ((pv_aX X (hp m) 188 (nI st.length + (-1) - 1)).bind fun x9 => (pv_aX X (hp m) 188 (nI st.length + (-1))).bind fun x11 => (pv_tI (pM X m_Md_both [.int (O i), .int x9, .int x11] (hp m))).bind (fun q12 => (pv_sI q12.2 188 (nI st.length + (-1) - 1) q12.1).bind (fun h13 => f_Md_worthAt_134 X 175 0 (nI st.length + (-1)) (nI i) (O i) h13))) = some (some (.int ((evn S f d (i + 1) (ev1 f st (S i))).headD 0)), hp m') ∧ Same [188] m m' := by
  obtain ⟨h4, h5, -⟩ := mrJ_lt hJ
  simp only [dp1, if_pos h4, if_neg h5] at hk'
  match st, hst, hl, hk', hd' with
  | y :: x :: t, hst, hl, hk', hd' =>
    rw [List.length_cons, List.length_cons] at hk' hl ⊢
    rw [if_pos (by omega)] at hk'
    cases hk'
    rw [pk_m1, nI_pred, ld_188 (by omega)]
    simp only [bs]
    rw [ld_188 (by omega)]
    simp only [bs]
    have hy : gA m 188 (t.length + 1) = y := hst.1
    have hx : gA m 188 t.length = x := hst.2.1
    rw [hy, hx, d_both hJ]
    simp only [tIs, bs]
    rw [st_188 (by omega)]
    simp only [bs]
    have e : ev1 f (y :: x :: t) (S i) = evJ (S i) x y :: t := by unfold ev1; rw [if_pos h4, if_neg h5]
    rw [e]
    exact dW_key ih hi h2 h3 hf hst.2.2 (by omega) hd'
  | [x], hst, hl, hk', hd' => simp at hk'
  | [], hst, hl, hk', hd' => simp at hk'
theorem dW_s (hN : N ≤ 1000) (hmr : ∀ k, k < N → mr (S k) (O k) (A k)) (ih : dW X S O A f N d) : dW X S O A f N (d + 1) := by
  intro i st m o4 hi h2 h3 hf hst hl hd
  simp only [dpn] at hd
  obtain ⟨k', hk', hd'⟩ := Option.bind_eq_some_iff.mp hd
  have hm := hmr i (by omega)
  rw [u_Md_worthAt_4, Md_f11]
  simp only [bs]
  rw [ld_182 (by omega), h2]
  simp only [bs]
  rw [evn]
  rcases hm with ⟨ho, hs, ha⟩ | ⟨ho, j, hj, ha, hs⟩ | ⟨ho, hs⟩ | hm
  · rw [if_neg (show ¬ O i = 0 by rw [ho]; decide), if_pos ho]
    have hs0 : ¬ S i < 0 := Int32.not_lt.mpr hs
    exact dW_push hN ih hi h2 h3 hf hst hk' hd' (fun z => hs0 (Int32.lt_trans z (by decide))) (if_neg hs0) (fun _ => ha) (fun z => absurd ho z)
  · have hsv := evF_ftn (f := f) hj
    rw [← hs] at hsv
    have n1 : ¬ O i = 1 := by rw [ho]; decide
    rw [if_neg (show ¬ O i = 0 by rw [ho]; decide), if_neg n1, if_neg (fun z => z ho)]
    exact dW_push hN ih hi h2 h3 hf hst hk' hd' hsv.2.1 (by rw [if_pos hsv.2.2, hsv.1]) (fun z => absurd z n1) (fun _ => ⟨j, hj, ha, rfl⟩)
  · rw [if_neg (show ¬ O i = 0 by rw [ho]; decide), if_neg (show ¬ O i = 1 by rw [ho]; decide), if_pos (show ¬ O i = 2 by rw [ho]; decide), if_neg (fun z => z ho), Md_f20]
    simp only [bs]
    obtain ⟨m', r1, r2⟩ := dW_not (o := O i) hN ih hi h2 h3 hf hst hl hk' hd' hs
    exact ⟨m', by rw [r1], r2⟩
  · have hJ : mrJ (S i) (O i) := hm
    obtain ⟨h4, h5, o0, o1, o2, o3⟩ := mrJ_lt hJ
    rw [if_neg o0, if_neg o1, if_pos o2, if_pos o3, Md_f20]
    simp only [bs]
    obtain ⟨m', r1, r2⟩ := dW_join hN ih hi h2 h3 hf hst hl hk' hd' hJ
    exact ⟨m', by rw [r1], r2⟩
end DW
theorem d_worth4 {X : pv_X} {N : Nat} (hN : N ≤ 1000) (S O A : Nat → Int32) (f : aF) (hO : O N = 0) (hmr : ∀ k, k < N → mr (S k) (O k) (A k)) : ∀ d, dW X S O A f N d
  | 0 => dW_0 hN hO
  | d + 1 => dW_s hN hmr (d_worth4 hN S O A f hO hmr d)
theorem d_worth {X : pv_X} {N : Nat} {m : pm_M} (hN : N ≤ 1000) (S : Nat → Int32) (f : aF) (hO : gA m 182 N = 0) (hmr : ∀ k, k < N → mr (S k) (gA m 182 k) (gA m 183 k)) (hf : ∀ j, j < 4 → gA m 187 j = ftn f j) (hd : dpn S N 0 0 = some 1) : ∃ m', pM X m_Md_worthAt [.ref 175, .int 0] (hp m) = some (some (.int ((evn S f N 0 []).headD 0)), hp m') ∧ Same [188] m m' := by
  rw [e_Md_worthAt, u_Md_worthAt_0]
  exact d_worth4 hN S (gA m 182) (gA m 183) f hO hmr N 0 [] m none (by omega) rfl rfl hf trivial (by simp) hd
