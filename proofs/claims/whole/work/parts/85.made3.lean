/-! What the constructors leave: the reference's own, and the system at its start. -/
def fsM : List Value := [.int 0, .ref 176, .int 0, .int 0, .ref 177, .ref 178, .ref 179, .int 0, .int 0, .ref 180, .ref 181, .ref 182, .ref 183, .int 0, .ref 184, .ref 185, .int 0, .int 0, .ref 186, .ref 187, .ref 188, .ref 189, .int 0, .ref 190, .ref 191, .ref 192, .ref 193, .int 0, .ref 194, .long 0]
def tM (f : Nat → Int64) (r : Nat → Int32) : pv_H := [z1 1000, z1 1002, z1 1002, rL 1002 (fun _ => 0), rL 20 f, rI 1 60 r, z1 2200, z1 2200, rL 6 (fun _ => 0), rL 6 (fun _ => 0), z1 250, z1 4, z1 1100, z1 1173, rI 3 4 (fun _ => 0), z1 6, z1 6, z1 6, z1 900]
def rM (k : Nat) : Nat → Int32 := fun i => if i < k then -1 else 0
def rM' : Nat → Int32 := upd (rM 30) 0 0
theorem rM_up (k : Nat) : upd (rM k) k (-1) = rM (k + 1) := by
  funext i
  unfold upd rM
  by_cases h : i = k
  · rw [if_pos h, if_pos (by omega)]
  · rw [if_neg h]
    by_cases h2 : i < k
    · rw [if_pos h2, if_pos (by omega)]
    · rw [if_neg h2, if_neg (by omega)]
section MKM
variable {X : pv_X} {h : pv_H} {f : Nat → Int64}
theorem st_loop (hl : h.length = 175) : ∀ d k, k + d = 30 → f_Md_standsAsAlways_2 X 175 0 (nI k) (hq h 11 fsM (tM f (rM k))) = some (none, hq h 11 fsM (tM f rM')) := by
  intro d
  induction d with
  | zero =>
    intro k hk
    have : k = 30 := by omega
    subst this
    rw [u_Md_standsAsAlways_2, if_pos (show (30 : Int32) ≤ nI 30 from nI_le (a := 30) (Nat.le_refl _) (by decide)), hq_fR hl (b := 181) rfl, bs]
    have e := hq_sI (T := tM f (rM 30)) (c := 11) (fs := fsM) hl (u := 5) (n := 60) (i := 0) (x := 0) rfl (by decide) (by decide)
    rw [show (0 + 0 : Int32) = nI 0 from rfl, show 181 = 175 + 1 + 5 from rfl, e, bs]
    rfl
  | succ d ih =>
    intro k hk
    rw [u_Md_standsAsAlways_2, if_neg (show ¬ (30 : Int32) ≤ nI k from nI_ge (b := 30) (by omega) (by decide)), hq_fR hl (b := 181) rfl, bs]
    have e := hq_sI (T := tM f (rM k)) (c := 11) (fs := fsM) hl (u := 5) (n := 60) (i := k) (x := -1) rfl (by omega) (by decide)
    rw [show (0 + nI k : Int32) = nI k from by rw [show (0 : Int32) = nI 0 from rfl, nI_add, Nat.zero_add], show 181 = 175 + 1 + 5 from rfl, e, bs, nI_1, rM_up]
    exact ih (k + 1) (by omega)
theorem mk_stands (hl : h.length = 175) : pM X m_Md_standsAsAlways [.ref 175, .int 0] (hq h 11 fsM (tM f (fun _ => 0))) = some (none, hq h 11 fsM (tM f rM')) := by
  rw [e_Md_standsAsAlways, u_Md_standsAsAlways_0]
  have e := st_loop (X := X) (f := f) hl 30 0 rfl
  rw [show rM 0 = fun _ => 0 from funext fun i => if_neg (Nat.not_lt_zero i)] at e
  exact e
theorem sa_loop (hl : h.length = 175) : ∀ d k, k + d = 19 → f_Md_starts_2 X 175 0 (nI k) (hq h 11 fsM (tM f rM')) = some (none, hq h 11 fsM (tM f rM')) := by
  intro d
  induction d with
  | zero =>
    intro k hk
    have : k = 19 := by omega
    subst this
    rw [u_Md_starts_2, if_pos (show (19 : Int32) ≤ nI 19 from nI_le (a := 19) (Nat.le_refl _) (by decide)), u_Md_starts_25, if_pos (hq_rc hl), e_Md_persons, u_Md_persons_0, hq_fR hl (b := 181) rfl, bs]
    have e : pv_aX X (hq h 11 fsM (tM f rM')) 181 0 = some 0 := by
      unfold pv_aX
      rw [if_neg (by decide)]
      unfold pv_aI
      rw [show 181 = 175 + 1 + 5 from rfl, hq_g hl]
      rfl
    rw [e, bs, tIs, bs]
    exact if_pos (show (0 : Int32) ≤ 0 by decide)
  | succ d ih =>
    intro k hk
    rw [u_Md_starts_2, if_neg (show ¬ (19 : Int32) ≤ nI k from nI_ge (b := 19) (by omega) (by decide)), hq_fR hl (b := 189) rfl, bs]
    have e := hq_sI0 (T := tM f rM') (c := 11) (fs := fsM) hl (u := 13) (n := 1173) (i := k) rfl (by omega) (by decide)
    rw [show (0 + nI k : Int32) = nI k from by rw [show (0 : Int32) = nI 0 from rfl, nI_add, Nat.zero_add], show 189 = 175 + 1 + 13 from rfl, e, bs, nI_1]
    exact ih (k + 1) (by omega)
theorem be_loop (hl : h.length = 175) : ∀ d k, k + d = 4 → f_Md_begins_35 X 175 (nI k) (hq h 11 fsM (tM f rM')) = some (none, hq h 11 fsM (tM f rM')) := by
  intro d
  induction d with
  | zero =>
    intro k hk
    have : k = 4 := by omega
    subst this
    rw [u_Md_begins_35, if_pos (show (4 : Int32) ≤ nI 4 from nI_le (a := 4) (Nat.le_refl _) (by decide))]
  | succ d ih =>
    intro k hk
    rw [u_Md_begins_35, if_neg (show ¬ (4 : Int32) ≤ nI k from nI_ge (b := 4) (by omega) (by decide)), hq_fR hl (b := 190) rfl, bs]
    have e := hq_sZ0 (T := tM f rM') (c := 11) (fs := fsM) hl (u := 14) (n := 4) (i := k) rfl (by omega) (by decide)
    rw [show 190 = 175 + 1 + 14 from rfl, e, bs, nI_1]
    exact ih (k + 1) (by omega)
theorem mk_begins (hl : h.length = 175) : pM X m_Md_begins [.ref 175] (hq h 11 fsM (tM f rM')) = some (none, hq h 11 fsM (tM f rM')) := by
  rw [e_Md_begins, u_Md_begins_0, if_pos (hq_rc hl), e_Md_starts, u_Md_starts_0]
  have e := sa_loop (X := X) (f := f) hl 19 0 rfl
  rw [show (nI 0) = (0 : Int32) from rfl] at e
  rw [e, tVs, bs, hq_fR hl (b := 189) rfl, bs]
  have e1 := hq_sI0 (T := tM f rM') (c := 11) (fs := fsM) hl (u := 13) (n := 1173) (i := 19) rfl (by omega) (by decide)
  have e2 := hq_sI0 (T := tM f rM') (c := 11) (fs := fsM) hl (u := 13) (n := 1173) (i := 38) rfl (by omega) (by decide)
  have e3 := hq_sI0 (T := tM f rM') (c := 11) (fs := fsM) hl (u := 10) (n := 250) (i := 0) rfl (by omega) (by decide)
  rw [show 189 = 175 + 1 + 13 from rfl, show (19 : Int32) = nI 19 from rfl, e1, bs, hq_fR hl (b := 189) rfl, bs, show 189 = 175 + 1 + 13 from rfl, show (38 : Int32) = nI 38 from rfl, e2, bs, hq_fR hl (b := 186) rfl, bs, show 186 = 175 + 1 + 10 from rfl]
  rw [show pv_sI (hq h 11 fsM (tM f rM')) (175 + 1 + 10) 0 0 = some (hq h 11 fsM (tM f rM')) from e3, bs, hq_fp hl (Nat.le_of_ble_eq_true rfl), bs]
  exact be_loop hl 4 0 rfl
def wd0 : Nat → Int64 := (fun _ => 0)
theorem mk_Md (hl : h.length = 175) : ∃ f : Nat → Int64, (∀ k, k < 20 → f k = lN (En 37 (wdv.getD k []))) ∧ pv_tV (pM X m_Md_init [.ref 175] (hq h 11 (pv_dft 11) [])) = some (hq h 11 fsM (tM f rM')) := by
  refine ⟨?_, ?_, ?_⟩
  rotate_left
  rotate_left
  · rw [e_Md_init, u_Md_init_0]
    refine (congrArg pv_tV ?_).trans (tVs _)
    refine (nf hl (z1 1000) rfl (by decide) (k := 0) rfl (by omega) (Nat.le_of_ble_eq_true rfl)).trans ?_
    refine (nf hl (z1 1002) rfl (by decide) (k := 1) rfl (by omega) (Nat.le_of_ble_eq_true rfl)).trans ?_
    refine (nf hl (z1 1002) rfl (by decide) (k := 2) rfl (by omega) (Nat.le_of_ble_eq_true rfl)).trans ?_
    refine (nf hl (rL 1002 (fun _ => 0)) rfl (by decide) (k := 3) rfl (by omega) (Nat.le_of_ble_eq_true rfl)).trans ?_
    rw [hq_na hl (z := rL 20 (fun _ => 0)) rfl (by decide) (by show 175 + 1 + 4 < 100000; omega), bs]
    refine (nw hl (by decide)).trans ?_
    refine (nw hl (by decide)).trans ?_
    refine (nw hl (by decide)).trans ?_
    refine (nw hl (by decide)).trans ?_
    refine (nw hl (by decide)).trans ?_
    refine (nw hl (by decide)).trans ?_
    refine (nw hl (by decide)).trans ?_
    refine (nw hl (by decide)).trans ?_
    refine (nw hl (by decide)).trans ?_
    refine (nw hl (by decide)).trans ?_
    refine (nw hl (by decide)).trans ?_
    refine (nw hl (by decide)).trans ?_
    refine (nw hl (by decide)).trans ?_
    refine (nw hl (by decide)).trans ?_
    refine (nw hl (by decide)).trans ?_
    refine (nw hl (by decide)).trans ?_
    refine (nw hl (by decide)).trans ?_
    refine (nw hl (by decide)).trans ?_
    refine (nw hl (by decide)).trans ?_
    refine (nw hl (by decide)).trans ?_
    refine (congrArg (fun z => Option.bind z _) (hq_fp hl (Nat.le_of_ble_eq_true rfl))).trans ?_
    refine (bs _ _).trans ?_
    rw [hq_len hl]
    refine (nf hl (z1 60) rfl (by decide) (k := 5) rfl (by omega) (Nat.le_of_ble_eq_true rfl)).trans ?_
    refine (nf hl (z1 2200) rfl (by decide) (k := 6) rfl (by omega) (Nat.le_of_ble_eq_true rfl)).trans ?_
    refine (nf hl (z1 2200) rfl (by decide) (k := 7) rfl (by omega) (Nat.le_of_ble_eq_true rfl)).trans ?_
    refine (nf hl (rL 6 (fun _ => 0)) rfl (by decide) (k := 8) rfl (by omega) (Nat.le_of_ble_eq_true rfl)).trans ?_
    refine (nf hl (rL 6 (fun _ => 0)) rfl (by decide) (k := 9) rfl (by omega) (Nat.le_of_ble_eq_true rfl)).trans ?_
    refine (nf hl (z1 250) rfl (by decide) (k := 10) rfl (by omega) (Nat.le_of_ble_eq_true rfl)).trans ?_
    refine (nf hl (z1 4) rfl (by decide) (k := 11) rfl (by omega) (Nat.le_of_ble_eq_true rfl)).trans ?_
    refine (nf hl (z1 1100) rfl (by decide) (k := 12) rfl (by omega) (Nat.le_of_ble_eq_true rfl)).trans ?_
    refine (nf hl (z1 1173) rfl (by decide) (k := 13) rfl (by omega) (Nat.le_of_ble_eq_true rfl)).trans ?_
    refine (nf hl (rI 3 4 (fun _ => 0)) rfl (by decide) (k := 14) rfl (by omega) (Nat.le_of_ble_eq_true rfl)).trans ?_
    refine (nf hl (z1 6) rfl (by decide) (k := 15) rfl (by omega) (Nat.le_of_ble_eq_true rfl)).trans ?_
    refine (nf hl (z1 6) rfl (by decide) (k := 16) rfl (by omega) (Nat.le_of_ble_eq_true rfl)).trans ?_
    refine (nf hl (z1 6) rfl (by decide) (k := 17) rfl (by omega) (Nat.le_of_ble_eq_true rfl)).trans ?_
    refine (nf hl (z1 900) rfl (by decide) (k := 18) rfl (by omega) (Nat.le_of_ble_eq_true rfl)).trans ?_
    refine (if_pos (hq_rc hl)).trans ?_
    refine (congrArg (fun z => (pv_tV z).bind _) (mk_stands hl)).trans ?_
    rw [tVs, bs, if_pos (hq_rc hl), mk_begins hl, tVs, bs]
  · decide
end MKM
