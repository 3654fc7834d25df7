/-! The system at its start: both sides as a fresh port has them. -/
def m0A : Nat → Nat → Int32 := fun a => if a = 181 then rM' else fun _ => 0
def m0L (f : Nat → Int64) : Nat → Nat → Int64 := fun a => if a = 180 then f else fun _ => 0
def m0R : Nat → Nat → Nat := fun _ j => if j = 1 then 3 else if j = 2 then 15 else if j = 3 then 27 else 31
def m0 (f : Nat → Int64) : pm_M := (fun _ _ => 0, fun _ _ => 0, m0A, m0L f, m0R, [])
def tW : pv_H := tW1 ++ rR 4 4 (rwS 123 13 4) :: (tW2 ++ chR chMk 123 13 4)
theorem tW_len : tW.length = 174 := by decide +kernel
def ms (m : pm_M) (a : Nat) : Nat → List (Nat × Nat) → List Value
  | _, [] => []
  | j, s :: l => pm_slot m a j s :: ms m a (j + 1) l
def mc (m : pm_M) : Nat → List pm_K → pv_H
  | _, [] => []
  | a, .inl (t, n) :: l => .inl (t, pm_row m a t n) :: mc m (a + 1) l
  | a, .inr (c, sl) :: l => .inr (c, ms m a 0 sl) :: mc m (a + 1) l
theorem ms_eq (m : pm_M) (a : Nat) : ∀ (l : List (Nat × Nat)) (b : Nat), l.mapIdx (fun j s => pm_slot m a (b + j) s) = ms m a b l
  | [], _ => rfl
  | s :: l, b => by
    rw [List.mapIdx_cons]
    show pm_slot m a b s :: _ = pm_slot m a b s :: _
    rw [← ms_eq m a l (b + 1)]
    refine congrArg (List.cons _) ?_
    refine congrArg (fun F => List.mapIdx F l) ?_
    funext j k
    rw [show b + (j + 1) = b + 1 + j by omega]
theorem mc_eq (m : pm_M) : ∀ (l : List pm_K) (b : Nat), l.mapIdx (fun a k => pm_cell m (b + a) k) = mc m b l
  | [], _ => rfl
  | k :: l, b => by
    rw [List.mapIdx_cons]
    have e : pm_cell m b k :: mc m (b + 1) l = mc m b (k :: l) := by
      match k with
      | .inl (t, n) => rfl
      | .inr (c, sl) =>
        show Sum.inr (c, sl.mapIdx (fun j s => pm_slot m b j s)) :: _ = Sum.inr (c, ms m b 0 sl) :: _
        rw [← ms_eq m b sl 0]
        simp only [Nat.zero_add]
    rw [← e, ← mc_eq m l (b + 1)]
    refine congrArg (List.cons _) ?_
    refine congrArg (fun F => List.mapIdx F l) ?_
    funext j k
    rw [show b + (j + 1) = b + 1 + j by omega]
theorem hp_mc (m : pm_M) : hp m = mc m 0 pm_T ++ gG m := by
  rw [← mc_eq m pm_T 0]
  simp only [Nat.zero_add]
  rfl
set_option maxRecDepth 100000 in
theorem m0_hp (f : Nat → Int64) : hq (hq [] 10 fsW tW) 11 fsM (tM f rM') ++ [rL 1 (fun _ => 0)] = hp (m0 f) := by
  rw [hp_mc]
  show _ = mc (m0 f) 0 pm_T ++ []
  rw [List.append_nil]
  rfl
theorem law_0 {X : pv_X} {v0 : Nat} : ∃ f : Nat → Int64, (∀ k, k < 20 → f k = lN (En 37 (wdv.getD k []))) ∧ f_Lw_law_0 X v0 [] = f_Lw_law_23 X v0 0 175 195 0 none none (hp (m0 f)) := by
  have hl : (hq [] 10 fsW tW).length = 175 := by rw [hq_len (h := []) (a := 0) rfl, tW_len]
  obtain ⟨f, hf, e⟩ := mk_Md (X := X) hl
  refine ⟨f, hf, ?_⟩
  rw [u_Lw_law_0]
  unfold pv_no
  rw [if_pos (show ([] : pv_H).length < pv_scr by decide), bs]
  show (if pv_rc (hq [] 10 (pv_dft 10) []) 0 10 = true then (pv_tV (pM X m_Wp_init [.ref 0] (hq [] 10 (pv_dft 10) []))).bind _ else none) = _
  rw [if_pos (hq_rc (a := 0) rfl), mk_Wp, bs]
  show (if (hq [] 10 fsW tW).length < pv_scr then some (hq (hq [] 10 fsW tW) 11 (pv_dft 11) []) else none : Option pv_H).bind _ = _
  rw [if_pos (by rw [hl]; decide), bs]
  show (if pv_rc (hq (hq [] 10 fsW tW) 11 (pv_dft 11) []) (hq [] 10 fsW tW).length 11 = true then (pv_tV (pM X m_Md_init [.ref (hq [] 10 fsW tW).length] (hq (hq [] 10 fsW tW) 11 (pv_dft 11) []))).bind _ else none) = _
  rw [if_pos (hq_rc rfl), hl, e, bs]
  have e2 : pv_na (hq (hq [] 10 fsW tW) 11 fsM (tM f rM')) 2 1 = some (hp (m0 f)) := by
    rw [← m0_hp, hq_app]
    exact hq_na hl (z := rL 1 (fun _ => 0)) rfl (by decide) (by show 175 + 1 + 19 < 100000; omega)
  rw [e2, bs]
  show f_Lw_law_23 X v0 0 (hq [] 10 fsW tW).length (hq (hq [] 10 fsW tW) 11 fsM (tM f rM')).length 0 none none (hp (m0 f)) = _
  rw [hl, hq_len hl]
  rfl
def C0 : aC := (0, fun _ => 0, fun _ => 0, fun _ => 0)
def P0 : aP := (0, fun _ => 0, fun _ => 0, none)
theorem nr_0 : nr (fun _ => 0) = fun _ => 0 := by
  funext k
  unfold nr
  split <;> rfl
theorem m0_vw {f : Nat → Int64} {a : Nat} (ha : a < 178) : vw (m0 f) a = aS0 := by
  have e : ∀ b, b < 181 → gA (m0 f) b = fun _ => 0 := fun b hb => if_neg (by omega)
  unfold vw aS0
  rw [e _ (by omega), e _ (by omega), e _ (by omega), nr_0]
  rfl
theorem m0_inv {f : Nat → Int64} (hf : ∀ k, k < 20 → f k = lN (En 37 (wdv.getD k []))) : INV (m0 f) 0 := by
  have eA : ∀ b, b ≠ 181 → gA (m0 f) b = fun _ => 0 := fun b hb => if_neg hb
  refine ⟨⟨3, 27, P0, aS0, aS0, C0, C0, (0, fun _ => (0, 0, 0)), [], fun _ => none, (0, fun _ => 0), fun _ => [], ⟨⟨rfl, Or.inl rfl, rfl, ?_, ?_, m0_vw (by decide), fun k hk => absurd hk (Nat.not_lt_zero k)⟩, m0_vw (by decide), ⟨⟨by decide, rfl, fun k hk => absurd hk (Nat.not_lt_zero k)⟩, fun k hk => absurd hk (Nat.not_lt_zero k)⟩, ⟨by decide, rfl, fun k hk => absurd hk (Nat.not_lt_zero k)⟩, ⟨rfl, Or.inl rfl, rfl, rfl, fun k hk => absurd hk (Nat.not_lt_zero k)⟩, ⟨0, by decide, rfl, rfl, fun k hk => absurd hk (Nat.not_lt_zero k)⟩, fun i hi => ⟨rfl, fun y hy => by cases hy⟩, rfl, fun k hk => absurd hk (Nat.not_lt_zero k)⟩, ⟨⟨⟨by decide, rfl, fun k hk => absurd hk (Nat.not_lt_zero k), fun k hk => absurd hk (Nat.not_lt_zero k), rfl⟩, ⟨fun k hk => absurd hk (Nat.not_lt_zero k), fun _ _ => ⟨rfl, rfl⟩, rfl, rfl⟩, rfl, fun k hk => absurd hk (Nat.not_lt_zero k)⟩, ?_, ⟨?_, fun k hk => absurd hk (Nat.not_lt_zero k), ?_, fun k hk => absurd hk (Nat.not_lt_zero k)⟩, ⟨?_, fun k hk => absurd hk (Nat.not_lt_zero k)⟩, ⟨rfl, fun k hk => absurd hk (Nat.not_lt_zero k)⟩, fun i hi => ⟨?_, fun y hy => by cases hy⟩, ⟨rfl, fun k hk => absurd hk (Nat.not_lt_zero k)⟩, fun k hk => hf k hk⟩, ⟨by decide, ?_, ?_, ?_, ?_, ?_, ?_, ?_, ?_, ?_⟩⟩, 0, Nat.le_refl _, rfl⟩
  · exact ⟨⟨0, by decide, rfl, fun k hk => absurd hk (Nat.not_lt_zero k)⟩, fun h => absurd rfl h⟩
  · unfold vP vL P0
    rw [eA _ (by decide), eA _ (by decide), nr_0]
    rfl
  · unfold vm aS0
    rw [eA _ (by decide)]
    show (nr (fun _ => 0), nr (fun _ => 0), nr (fun _ => 0), (0 : Int32)) = _
    rw [nr_0]
  · rw [eA _ (by decide)]; rfl
  · rw [eA _ (by decide)]; rfl
  · rw [eA _ (by decide)]; rfl
  · rw [eA _ (by decide)]; rfl
  · exact ⟨fun k hk => absurd hk (Nat.not_lt_zero k), fun k hk => absurd hk (Nat.not_lt_zero k), 0, Nat.le_refl _, rfl⟩
  · exact ⟨fun k hk => absurd hk (Nat.not_lt_zero k), fun k hk => absurd hk (Nat.not_lt_zero k), 0, Nat.le_refl _, rfl⟩
  · exact ⟨by decide, fun k hk => absurd hk (Nat.not_lt_zero k)⟩
  · exact ⟨by decide, fun k hk => absurd hk (Nat.not_lt_zero k)⟩
  · exact ⟨by decide, fun k hk => absurd hk (Nat.not_lt_zero k)⟩
  · exact ⟨by decide, fun x hx => by cases hx⟩
  · exact fun i y _ hy => by cases hy
  · exact ⟨by decide, fun k hk => absurd hk (Nat.not_lt_zero k)⟩
  · exact fun k hk => absurd hk (Nat.not_lt_zero k)
