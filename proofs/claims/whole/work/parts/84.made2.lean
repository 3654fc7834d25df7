/-! What the constructors leave: the system's and the reference's own. -/
def rwS (b d k : Nat) : Nat → Option Nat := fun i => if i < k then some (b + d * i) else none
theorem rwS_up (b d k : Nat) : va_up (rwS b d k) k (some (b + d * k)) = rwS b d (k + 1) := by
  funext i
  unfold va_up rwS
  by_cases h : i = k
  · rw [if_pos h, if_pos (by omega), h]
  · rw [if_neg h]
    by_cases h2 : i < k
    · rw [if_pos h2, if_pos (by omega)]
    · rw [if_neg h2, if_neg (by omega)]
theorem rwS_0 (b d : Nat) : rwS b d 0 = fun _ => none := by
  funext i
  exact if_neg (Nat.not_lt_zero i)
def chR (ch : Nat → pv_H) (b d : Nat) : Nat → pv_H
  | 0 => []
  | k + 1 => chR ch b d k ++ ch (b + d * k)
theorem chR_len {ch : Nat → pv_H} {b d : Nat} (hc : ∀ a, (ch a).length = d) : ∀ k, (chR ch b d k).length = d * k
  | 0 => rfl
  | k + 1 => by
    show (chR ch b d k ++ ch (b + d * k)).length = _
    rw [List.length_append, chR_len hc k, hc, Nat.mul_succ]
def chHi (a : Nat) : pv_H := [.inr (3, [.ref (a + 1), .int 0, .int 0]), rR 5 16 (rwS (a + 2) 4 16)] ++ chR chSt (a + 2) 4 16
section MKH
variable {X : pv_X}
theorem hi_loop {h : pv_H} {a : Nat} (hl : h.length = a) (ha : a < 800) : ∀ d k, k + d = 16 → f_Hi_init_15 X a (nI k) (hq h 3 [.ref (a + 1), .int 0, .int 0] (rR 5 16 (rwS (a + 2) 4 k) :: chR chSt (a + 2) 4 k)) = some (none, hq h 3 [.ref (a + 1), .int 0, .int 0] (rR 5 16 (rwS (a + 2) 4 16) :: chR chSt (a + 2) 4 16)) := by
  intro d
  induction d with
  | zero =>
    intro k hk
    have : k = 16 := by omega
    subst this
    rw [u_Hi_init_15, if_pos (show (16 : Int32) ≤ nI 16 from nI_le (a := 16) (Nat.le_refl _) (by decide))]
  | succ d ih =>
    intro k hk
    rw [u_Hi_init_15, if_neg (show ¬ (16 : Int32) ≤ nI k from nI_ge (b := 16) (by omega) (by decide)), hq_fR hl (b := a + 1) rfl, bs]
    have hlen : (rR 5 16 (rwS (a + 2) 4 k) :: chR chSt (a + 2) 4 k).length = 1 + 4 * k := by
      rw [List.length_cons, chR_len (ch := chSt) (d := 4) (fun _ => rfl)]
      omega
    have hq' : (hq h 3 [.ref (a + 1), .int 0, .int 0] (rR 5 16 (rwS (a + 2) 4 k) :: chR chSt (a + 2) 4 k)).length = a + 1 + (1 + 4 * k) := by rw [hq_len hl, hlen]
    refine (MK_St.to hq' (by omega)).trans ?_
    rw [hq', hq_app]
    have e := hq_sR (T := (rR 5 16 (rwS (a + 2) 4 k) :: chR chSt (a + 2) 4 k) ++ chSt (a + 1 + (1 + 4 * k))) (c := 3) (fs := [.ref (a + 1), .int 0, .int 0]) hl (u := 0) (n := 16) (i := k) (j := 1 + 4 * k) (t := 5) (f := rwS (a + 2) 4 k) (g := [.ref (a + 1 + (1 + 4 * k) + 1), .ref (a + 1 + (1 + 4 * k) + 2), .ref (a + 1 + (1 + 4 * k) + 3), .int 0]) rfl (by rw [List.getElem?_append_right (by omega), hlen, Nat.sub_self]; rfl) (Or.inr rfl) (by omega) (by decide)
    rw [show a + 1 + 0 = a + 1 from rfl] at e
    rw [e, bs, nI_1]
    refine Eq.trans ?_ (ih (k + 1) (by omega))
    rw [show a + 1 + (1 + 4 * k) = a + 2 + 4 * k by omega, rwS_up]
    rfl
theorem MK_Hi : MK X m_Hi_init 3 chHi 800 := by
  refine ⟨by decide, ?_⟩
  intro h a hl ha
  rw [e_Hi_init, u_Hi_init_0]
  refine (congrArg pv_tV ((nf hl (rR 5 16 (fun _ => none)) rfl (by decide) (k := 0) rfl (by omega) (Nat.le_of_ble_eq_true rfl)).trans ?_)).trans (b := pv_tV (some (none, hq h 3 [.ref (a + 1), .int 0, .int 0] (rR 5 16 (rwS (a + 2) 4 16) :: chR chSt (a + 2) 4 16)))) ?_
  · refine Eq.trans ?_ (hi_loop (X := X) hl ha 16 0 rfl)
    rw [rwS_0]
    rfl
  · rw [tVs]
    rfl
def fsW : List Value := [.ref 1, .ref 3, .ref 15, .ref 27, .ref 31, .ref 35, .ref 39, .ref 43, .ref 109, .ref 113, .ref 117, .ref 118, .ref 120, .ref 121, .ref 122]
def tW1 : pv_H := chTp 1 ++ chPo 3 ++ chPo 15 ++ chDa 27 ++ chDa 31 ++ chSt 35 ++ chSt 39 ++ chHi 43 ++ chCl 109 ++ chCl 113
def tW2 : pv_H := chTa 118 ++ chDr 120 ++ [z1 6] ++ [z1 750]
theorem tW1_len : tW1.length = 116 := by decide +kernel
theorem wp_loop : ∀ d k, k + d = 4 → f_Wp_init_163 X 0 (nI k) (hq [] 10 fsW (tW1 ++ rR 4 4 (rwS 123 13 k) :: (tW2 ++ chR chMk 123 13 k))) = some (none, hq [] 10 fsW (tW1 ++ rR 4 4 (rwS 123 13 4) :: (tW2 ++ chR chMk 123 13 4))) := by
  intro d
  induction d with
  | zero =>
    intro k hk
    have : k = 4 := by omega
    subst this
    rw [u_Wp_init_163, if_pos (show (4 : Int32) ≤ nI 4 from nI_le (a := 4) (Nat.le_refl _) (by decide))]
  | succ d ih =>
    intro k hk
    have hl : ([] : pv_H).length = 0 := rfl
    rw [u_Wp_init_163, if_neg (show ¬ (4 : Int32) ≤ nI k from nI_ge (b := 4) (by omega) (by decide)), hq_fR hl (b := 117) rfl, bs]
    have hlen : (tW1 ++ rR 4 4 (rwS 123 13 k) :: (tW2 ++ chR chMk 123 13 k)).length = 122 + 13 * k := by
      rw [List.length_append, List.length_cons, List.length_append, chR_len (ch := chMk) (d := 13) (fun _ => rfl), tW1_len, show tW2.length = 5 from rfl]
      omega
    have hq' : (hq [] 10 fsW (tW1 ++ rR 4 4 (rwS 123 13 k) :: (tW2 ++ chR chMk 123 13 k))).length = 0 + 1 + (122 + 13 * k) := by rw [hq_len hl, hlen]
    refine (MK_Mk.to hq' (by omega)).trans ?_
    rw [hq', hq_app]
    have e := hq_sR (T := (tW1 ++ rR 4 4 (rwS 123 13 k) :: (tW2 ++ chR chMk 123 13 k)) ++ chMk (0 + 1 + (122 + 13 * k))) (c := 10) (fs := fsW) hl (u := 116) (n := 4) (i := k) (j := 122 + 13 * k) (t := 4) (f := rwS 123 13 k) (g := [.ref (0 + 1 + (122 + 13 * k) + 1), .ref (0 + 1 + (122 + 13 * k) + 5), .ref (0 + 1 + (122 + 13 * k) + 9), .int 0]) (by rw [List.getElem?_append_left (by omega), List.getElem?_append_right (by rw [tW1_len]; omega), tW1_len]; rfl) (by rw [List.getElem?_append_right (by omega), hlen, Nat.sub_self]; rfl) (Or.inl rfl) (by omega) (by decide)
    rw [show 0 + 1 + 116 = 117 from rfl] at e
    rw [e, bs, nI_1]
    refine Eq.trans ?_ (ih (k + 1) (by omega))
    rw [List.append_assoc, List.set_append_right _ _ (by rw [tW1_len]; omega), tW1_len, show 0 + 1 + (122 + 13 * k) = 123 + 13 * k by omega, rwS_up]
    show f_Wp_init_163 X 0 (nI (k + 1)) (hq [] 10 fsW (tW1 ++ rR 4 4 (rwS 123 13 (k + 1)) :: ((tW2 ++ chR chMk 123 13 k) ++ chMk (123 + 13 * k)))) = _
    rw [List.append_assoc]
    rfl
theorem mk_Wp : pv_tV (pM X m_Wp_init [.ref 0] (hq [] 10 (pv_dft 10) [])) = some (hq [] 10 fsW (tW1 ++ rR 4 4 (rwS 123 13 4) :: (tW2 ++ chR chMk 123 13 4))) := by
  have hl : ([] : pv_H).length = 0 := rfl
  rw [e_Wp_init, u_Wp_init_0]
  refine (congrArg pv_tV ?_).trans (tVs _)
  refine (MK_Tp.of hl (k := 0) rfl (by omega) (Nat.le_of_ble_eq_true rfl)).trans ?_
  refine (MK_Po.of hl (k := 2) rfl (by omega) (Nat.le_of_ble_eq_true rfl)).trans ?_
  refine (MK_Po.of hl (k := 14) rfl (by omega) (Nat.le_of_ble_eq_true rfl)).trans ?_
  refine (MK_Da.of hl (k := 26) rfl (by omega) (Nat.le_of_ble_eq_true rfl)).trans ?_
  refine (MK_Da.of hl (k := 30) rfl (by omega) (Nat.le_of_ble_eq_true rfl)).trans ?_
  refine (MK_St.of hl (k := 34) rfl (by omega) (Nat.le_of_ble_eq_true rfl)).trans ?_
  refine (MK_St.of hl (k := 38) rfl (by omega) (Nat.le_of_ble_eq_true rfl)).trans ?_
  refine (MK_Hi.of hl (k := 42) rfl (by omega) (Nat.le_of_ble_eq_true rfl)).trans ?_
  refine (MK_Cl.of hl (k := 108) rfl (by omega) (Nat.le_of_ble_eq_true rfl)).trans ?_
  refine (MK_Cl.of hl (k := 112) rfl (by omega) (Nat.le_of_ble_eq_true rfl)).trans ?_
  refine (nf hl (rR 4 4 (fun _ => none)) rfl (by decide) (k := 116) rfl (by omega) (Nat.le_of_ble_eq_true rfl)).trans ?_
  refine (MK_Ta.of hl (k := 117) rfl (by omega) (Nat.le_of_ble_eq_true rfl)).trans ?_
  refine (MK_Dr.of hl (k := 119) rfl (by omega) (Nat.le_of_ble_eq_true rfl)).trans ?_
  refine (nf hl (z1 6) rfl (by decide) (k := 120) rfl (by omega) (Nat.le_of_ble_eq_true rfl)).trans ?_
  refine (nf hl (z1 750) rfl (by decide) (k := 121) rfl (by omega) (Nat.le_of_ble_eq_true rfl)).trans ?_
  refine Eq.trans ?_ (wp_loop (X := X) 4 0 rfl)
  rw [rwS_0]
  show f_Wp_init_163 X 0 (nI 0) (hq [] 10 fsW ((((((((((((((([] ++ chTp 1) ++ chPo 3) ++ chPo 15) ++ chDa 27) ++ chDa 31) ++ chSt 35) ++ chSt 39) ++ chHi 43) ++ chCl 109) ++ chCl 113) ++ [rR 4 4 (fun _ => none)]) ++ chTa 118) ++ chDr 120) ++ [z1 6]) ++ [z1 750])) = _
  simp only [tW1, tW2, chR, List.append_assoc, List.nil_append, List.cons_append, List.append_nil]
end MKH
