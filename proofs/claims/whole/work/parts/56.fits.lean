/-! fits, when: whose beats fit the times that were told. -/
def fm (x : Int32) : Int32 := if 0 ≤ (x ^^^ 720) then rm x 720 else if rm x 720 = 0 then rm x 720 else rm x 720 + 720
def poC (v q : Nat) : Int32 := fm ((nI v / 4 - 15) * nI q - (-360)) + (-360)
def poM (v q : Nat) : Int32 := ob ((nI v / 4 - 15) * nI q)
def poK (v q : Nat) : Bool := decide (poC v q = poM v q) && decide (-360 ≤ (poM v q).toInt) && decide ((poM v q).toInt ≤ 359)
theorem poK_all : ((List.range 141).all fun v => (List.range 41).all fun q => poK (v + 20) q) = true := by decide +kernel
theorem po_all {v q : Nat} (h1 : v ≤ 160) (h2 : 20 ≤ v) (hq : q ≤ 40) : poC v q = poM v q ∧ rng (poM v q) := by
  have h := List.all_eq_true.mp (List.all_eq_true.mp poK_all (v - 20) (by simp; omega)) q (by simp; omega)
  rw [show v - 20 + 20 = v by omega] at h
  unfold poK at h
  simp only [Bool.and_eq_true, decide_eq_true_eq] at h
  exact ⟨h.1.1, h.1.2, h.2⟩
/-- all of some -/
def al (c : Nat → Bool) : Nat → Nat → Bool
  | 0, _ => true
  | d + 1, i => c i && al c d (i + 1)
/-- what was told -/
def TN (m : pm_M) (C : aC) : Prop := clC m 113 C ∧ (∀ i, i < C.1 → C.2.2.1 i ≤ 40) ∧ gA m 189 38 = nI C.1 ∧ ∀ i, i < C.1 → gA m 189 (39 + 2 * i) = nI (C.2.2.1 i) ∧ gA m 189 (39 + 2 * i + 1) = C.2.2.2 i
theorem TN.q {m m' : pm_M} {C : aC} (h : TN m C) (hq : Q m m') : TN m' C := by
  obtain ⟨⟨h1, h2, h3⟩, h4, h5, h6⟩ := h
  refine ⟨⟨h1, by rw [hq.1.I (by decide)]; exact h2, fun i hi => ?_⟩, h4, by rw [hq.2.2 _ (by decide)]; exact h5, fun i hi => ?_⟩
  · rw [hq.1.A (by decide), hq.1.A (by decide)]; exact h3 i hi
  · rw [hq.2.2 _ (by omega), hq.2.2 _ (by omega)]; exact h6 i hi
def tc (C : aC) (v i : Nat) : Bool := decide (poM v (C.2.2.1 i) = C.2.2.2 i)
def isT (C : aC) (v : Nat) : Bool := al (tc C v) C.1 0
theorem bI_0 : (bI false = 0) = True := by decide
theorem bI_1 : (bI true = 0) = False := by decide
section QF
variable {m : pm_M} {X : pv_X} {P c v q : Nat} {π : aP} {s : aS} {C : aC} {h : pv_H}
theorem c_floorMod {x : Int32} : pM X m_Ma_floorMod [.int x, .int 720] h = some (some (.int (fm x)), h) := by
  rw [e_Ma_floorMod, u_Ma_floorMod_0, if_neg (by decide)]
  simp only [u_Ma_floorMod_18]
  unfold fm rm
  split
  · rfl
  · split <;> rfl
theorem w_plainOut : pM X m_Wp_plainOut [.int (nI v), .int (nI q)] h = some (some (.int (poC v q)), h) := by
  rw [e_Wp_plainOut, u_Wp_plainOut_0, c_floorMod]
  simp only [tIs, tVs, bs, if_true, true_or, or_true, i10, if_false, not_false_eq_true, not_true_eq_false]
  rfl
theorem m_outBy2 : pM X m_Md_outBy_2 [.int (nI v), .int (nI q)] h = some (some (.int (poM v q)), h) := by
  rw [e_Md_outBy_2, u_Md_outBy_2_0, d_outBy]
  simp only [tIs, tVs, bs, if_true, true_or, or_true, i10, if_false, not_false_eq_true, not_true_eq_false]
  rfl
theorem w_told2 (hT : TN m C) (h1 : v ≤ 160) (h2 : 20 ≤ v) : ∀ d i, i + d = C.1 → f_Wp_agreesWithTold_2 X 0 (nI v) (nI i) (hp m) = some (some (.int (bI (al (tc C v) d i))), hp m) := by
  have hl := hT.1.1
  intro d
  induction d with
  | zero =>
    intro i hi
    rw [u_Wp_agreesWithTold_2]
    simp only [tIs, tVs, bs, if_true, true_or, or_true, i10, if_false, not_false_eq_true, not_true_eq_false, Wp_rc, Wp_f5, Wp_f6, Wp_f7, Wp_f8, Wp_f9, Wp_f10, Wp_f11, Wp_f12, Wp_f13, Wp_f14, Cl_f3 isCl_113, hT.1.2.1]
    rw [if_pos (nI_le (by omega) (by omega))]
    rfl
  | succ d ih =>
    intro i hi
    obtain ⟨a1, a2⟩ := hT.1.2.2 i (by omega)
    have h40 := hT.2.1 i (by omega)
    rw [u_Wp_agreesWithTold_2]
    simp only [tIs, tVs, bs, if_true, true_or, or_true, i10, if_false, not_false_eq_true, not_true_eq_false, Wp_rc, Wp_f5, Wp_f6, Wp_f7, Wp_f8, Wp_f9, Wp_f10, Wp_f11, Wp_f12, Wp_f13, Wp_f14, Cl_f3 isCl_113, hT.1.2.1]
    rw [if_neg (nI_ge (by omega) (by omega))]
    simp only [tIs, tVs, bs, if_true, true_or, or_true, i10, if_false, not_false_eq_true, not_true_eq_false, Wp_rc, Wp_f5, Wp_f6, Wp_f7, Wp_f8, Wp_f9, Wp_f10, Wp_f11, Wp_f12, Wp_f13, Wp_f14, Cl_f1 isCl_113, Cl_f2 isCl_113, Cl_a2 (X := X) (m := m) isCl_113 (show i < 6 by omega), Cl_a3 (X := X) (m := m) isCl_113 (show i < 6 by omega), a1, a2, w_plainOut, (po_all h1 h2 h40).1, nI_1]
    by_cases he : poM v (C.2.2.1 i) = C.2.2.2 i
    · rw [if_pos he, ih (i + 1) (by omega)]
      simp only [al, tc, decide_eq_true he, Bool.true_and]
    · rw [if_neg he]
      simp only [al, tc, decide_eq_false he, Bool.false_and]
      rfl
theorem w_told (hT : TN m C) (h1 : v ≤ 160) (h2 : 20 ≤ v) : pM X m_Wp_agreesWithTold [.ref 0, .int (nI v)] (hp m) = some (some (.int (bI (isT C v))), hp m) := by
  rw [e_Wp_agreesWithTold, u_Wp_agreesWithTold_0]
  exact w_told2 hT h1 h2 C.1 0 (by omega)
theorem m_told4 (hT : TN m C) : ∀ d i (x : Bool) (o : Option Value), i + d = C.1 → f_Md_isTold_4 X 175 (nI v) (bI x) (nI i) o (hp m) = some (some (.int (bI (x && al (tc C v) d i))), hp m) := by
  have hl := hT.1.1
  intro d
  induction d with
  | zero =>
    intro i x o hi
    rw [u_Md_isTold_4]
    simp only [tIs, tVs, bs, if_true, true_or, or_true, i10, if_false, not_false_eq_true, not_true_eq_false, Md_rc, Md_f1, Md_f4, Md_f5, Md_f6, Md_f9, Md_f10, Md_f11, Md_f12, Md_f14, Md_f15, Md_f18, Md_f19, Md_f20, Md_f21, Md_f23, Md_f24, Md_f25, Md_f26, Md_f28]
    rw [show (38 : Int32) = nI 38 from rfl, ld_189 (by decide), hT.2.2.1]
    simp only [tIs, tVs, bs, if_true, true_or, or_true, i10, if_false, not_false_eq_true, not_true_eq_false, Md_rc, Md_f1, Md_f4, Md_f5, Md_f6, Md_f9, Md_f10, Md_f11, Md_f12, Md_f14, Md_f15, Md_f18, Md_f19, Md_f20, Md_f21, Md_f23, Md_f24, Md_f25, Md_f26, Md_f28]
    rw [if_pos (nI_le (by omega) (by omega)), if_pos (by cases x <;> decide)]
    simp only [al, Bool.and_true]
  | succ d ih =>
    intro i x o hi
    obtain ⟨a1, a2⟩ := hT.2.2.2 i (by omega)
    rw [u_Md_isTold_4]
    simp only [tIs, tVs, bs, if_true, true_or, or_true, i10, if_false, not_false_eq_true, not_true_eq_false, Md_rc, Md_f1, Md_f4, Md_f5, Md_f6, Md_f9, Md_f10, Md_f11, Md_f12, Md_f14, Md_f15, Md_f18, Md_f19, Md_f20, Md_f21, Md_f23, Md_f24, Md_f25, Md_f26, Md_f28]
    rw [show (38 : Int32) = nI 38 from rfl, ld_189 (by decide), hT.2.2.1]
    simp only [tIs, tVs, bs, if_true, true_or, or_true, i10, if_false, not_false_eq_true, not_true_eq_false, Md_rc, Md_f1, Md_f4, Md_f5, Md_f6, Md_f9, Md_f10, Md_f11, Md_f12, Md_f14, Md_f15, Md_f18, Md_f19, Md_f20, Md_f21, Md_f23, Md_f24, Md_f25, Md_f26, Md_f28]
    rw [if_neg (nI_ge (by omega) (by omega)), show (39 + 2 * nI i : Int32) = nI (39 + 2 * i) from by rw [show (39 : Int32) = nI 39 from rfl, show (2 : Int32) = nI 2 from rfl, pk_mul, nI_add]]
    cases x with
    | false =>
      rw [if_pos (show bI false = 0 from rfl), u_Md_isTold_54, u_Md_isTold_55, nI_1]
      refine Eq.trans (ih (i + 1) false _ (by omega)) ?_
      simp only [Bool.false_and]
    | true =>
      rw [if_neg (show ¬ bI true = 0 by decide), ld_189 (by omega), a1]
      simp only [tIs, tVs, bs, if_true, true_or, or_true, i10, if_false, not_false_eq_true, not_true_eq_false, Md_rc, Md_f1, Md_f4, Md_f5, Md_f6, Md_f9, Md_f10, Md_f11, Md_f12, Md_f14, Md_f15, Md_f18, Md_f19, Md_f20, Md_f21, Md_f23, Md_f24, Md_f25, Md_f26, Md_f28, m_outBy2, nI_1]
      rw [ld_189 (by omega), a2]
      simp only [tIs, tVs, bs, if_true, true_or, or_true, i10, if_false, not_false_eq_true, not_true_eq_false, Md_rc, Md_f1, Md_f4, Md_f5, Md_f6, Md_f9, Md_f10, Md_f11, Md_f12, Md_f14, Md_f15, Md_f18, Md_f19, Md_f20, Md_f21, Md_f23, Md_f24, Md_f25, Md_f26, Md_f28, u_Md_isTold_54, u_Md_isTold_55, nI_1]
      by_cases he : poM v (C.2.2.1 i) = C.2.2.2 i
      · rw [if_neg (fun z => z he)]
        refine Eq.trans (ih (i + 1) true _ (by omega)) ?_
        simp only [al, tc, decide_eq_true he, Bool.true_and]
      · rw [if_pos he]
        refine Eq.trans (ih (i + 1) false _ (by omega)) ?_
        simp only [al, tc, decide_eq_false he, Bool.false_and, Bool.and_false]
theorem m_told (hT : TN m C) : pM X m_Md_isTold [.ref 175, .int (nI v)] (hp m) = some (some (.int (bI (isT C v))), hp m) := by
  rw [e_Md_isTold, u_Md_isTold_0]
  refine Eq.trans (m_told4 hT C.1 0 true none (by omega)) ?_
  rfl
def gFt (C : aC) (v : Nat) (x : Nat × Int32 × Int32) : Nat × Int32 × Int32 := if isT C v then (x.1 + 1, if x.2.1 = -1 then nI v else x.2.1, nI v) else x
def aFt (C : aC) : Nat × Int32 × Int32 := fr (gFt C) 141 20 (0, -1, -1)
theorem w_fits22 (hT : TN m C) {w : Int32} : f_Wp_fits_22 X 0 w 0 (-1) (-1) 20 (hp m) = f_Wp_fits_22 X 0 w (nI (aFt C).1) (aFt C).2.1 (aFt C).2.2 (nI 161) (hp m) := by
  obtain ⟨⟨-, h1⟩, -⟩ := lg0 (n := 161) (F := fun (_ : Unit) (x : Nat × Int32 × Int32) v => f_Wp_fits_22 X 0 w (nI x.1) x.2.1 x.2.2 (nI v) (hp m)) (R := fun i _ => 20 ≤ i) (g := gFt C) (fun _ x v hv h20 => by
    refine ⟨⟨(), ?_⟩, by omega⟩
    rw [u_Wp_fits_22, if_neg (in_u (U := 160) rfl (show v ≤ 160 by omega) (by decide))]
    simp only [tIs, tVs, bs, if_true, true_or, or_true, i10, if_false, not_false_eq_true, not_true_eq_false, Wp_rc, Wp_f5, Wp_f6, Wp_f7, Wp_f8, Wp_f9, Wp_f10, Wp_f11, Wp_f12, Wp_f13, Wp_f14, w_told (X := X) hT (show v ≤ 160 by omega) h20, u_Wp_fits_53, u_Wp_fits_58, nI_1]
    unfold gFt
    cases isT C v with
    | false => simp only [bI_0, if_true]; rfl
    | true =>
      simp only [bI_1, if_false, if_true]
      by_cases hl : x.2.1 = -1
      · rw [if_neg (fun z => z hl), if_pos hl]
      · rw [if_pos hl, if_neg hl]) 141 20 () (0, -1, -1) (by omega) (by omega)
  exact h1
theorem m_fits27 (hT : TN m C) {w : Int32} : ∃ o, f_Md_fits_27 X 175 w 0 (-1) (-1) 20 none (hp m) = f_Md_fits_27 X 175 w (nI (aFt C).1) (aFt C).2.1 (aFt C).2.2 (nI 161) o (hp m) := by
  obtain ⟨⟨o, h1⟩, -⟩ := lg0 (n := 161) (F := fun (o : Option Value) (x : Nat × Int32 × Int32) v => f_Md_fits_27 X 175 w (nI x.1) x.2.1 x.2.2 (nI v) o (hp m)) (R := fun i x => x.2.1 = -1 ∨ ∃ k, k < 1000 ∧ x.2.1 = nI k) (g := gFt C) (fun o x v hv hx => by
    refine ⟨⟨some (.int (bI (isT C v))), ?_⟩, ?_⟩
    · rw [u_Md_fits_27, if_neg (in_u (U := 160) rfl (show v ≤ 160 by omega) (by decide))]
      simp only [tIs, tVs, bs, if_true, true_or, or_true, i10, if_false, not_false_eq_true, not_true_eq_false, Md_rc, Md_f1, Md_f4, Md_f5, Md_f6, Md_f9, Md_f10, Md_f11, Md_f12, Md_f14, Md_f15, Md_f18, Md_f19, Md_f20, Md_f21, Md_f23, Md_f24, Md_f25, Md_f26, Md_f28, m_told (X := X) hT, u_Md_fits_54, u_Md_fits_70, u_Md_fits_71, u_Md_fits_84]
      unfold gFt
      cases isT C v with
      | false =>
        simp only [bI_0, if_true, nI_1]
        rw [show (0 : Int32) = nI 0 from rfl, nI_add]
        rfl
      | true =>
        simp only [bI_1, if_false, if_true, nI_1]
        rcases hx with hx | ⟨k, hk, hx⟩
        · rw [hx, if_neg (by decide), if_pos rfl]
        · rw [hx, if_pos (nI_pos' (by omega)), if_neg (enc_m1 (by omega))]
    · unfold gFt
      split
      · right
        dsimp only
        rcases hx with hx | ⟨k, hk, hx⟩
        · rw [if_pos hx]; exact ⟨v, by omega, rfl⟩
        · rw [hx, if_neg (enc_m1 (by omega))]; exact ⟨k, hk, rfl⟩
      · exact hx) 141 20 none (0, -1, -1) (by omega) (Or.inl rfl)
  exact ⟨o, h1⟩
theorem w_fits (hT : TN m C) (hq : q ≤ 2) : pM X m_Wp_fits [.ref 0, .int (nI q)] (hp m) = some (some (.int (if q = 0 then nI (aFt C).1 else if q = 1 then (aFt C).2.1 else (aFt C).2.2)), hp m) := by
  rw [e_Wp_fits, u_Wp_fits_0]
  simp only [tIs, tVs, bs, if_true, true_or, or_true, i10, if_false, not_false_eq_true, not_true_eq_false, Wp_rc, Wp_f5, Wp_f6, Wp_f7, Wp_f8, Wp_f9, Wp_f10, Wp_f11, Wp_f12, Wp_f13, Wp_f14, w_in1 (in_l (L := 0) rfl (Nat.zero_le q) (by omega)) (in_u (U := 2) rfl hq (by decide)), w_fits22 hT]
  rw [u_Wp_fits_22, if_pos (by decide)]
  simp only [u_Wp_fits_81]
  have : q = 0 ∨ q = 1 ∨ q = 2 := by omega
  rcases this with rfl | rfl | rfl <;> rfl
theorem q_fits (hT : TN m C) (v : Int32) : Ag X m_Wp_fits m_Md_fits [.int v] m := by
  rcases wthL v (L := 0) (U := 2) (l := 0) (u := 2) rfl rfl (by decide) (by decide) with ⟨q, h0, h1, rfl⟩ | hb
  · refine Ag.mk _ ⟨m, w_fits hT h1, Q.rf⟩ (fun m1 hq => ?_)
    obtain ⟨m2, e2, q2⟩ := m_t0 (m := m1)
    obtain ⟨o, h3⟩ := m_fits27 (X := X) (w := nI q) ((hT.q hq).q q2)
    refine ⟨m2, ?_, q2⟩
    rw [e_Md_fits, u_Md_fits_0, e2]
    simp only [tIs, tVs, bs, if_true, true_or, or_true, i10, if_false, not_false_eq_true, not_true_eq_false, Md_rc, Md_f1, Md_f4, Md_f5, Md_f6, Md_f9, Md_f10, Md_f11, Md_f12, Md_f14, Md_f15, Md_f18, Md_f19, Md_f20, Md_f21, Md_f23, Md_f24, Md_f25, Md_f26, Md_f28, m_in1 (in_l (L := 0) rfl h0 (by omega)) (in_u (U := 2) rfl h1 (by decide)), h3]
    rw [u_Md_fits_27, if_pos (by decide)]
    simp only [u_Md_fits_111]
    have : q = 0 ∨ q = 1 ∨ q = 2 := by omega
    rcases this with rfl | rfl | rfl <;> rfl
  · refine Ag.mk (-1) ⟨m, ?_, Q.rf⟩ (fun m1 hq => ?_)
    · rw [e_Wp_fits, u_Wp_fits_0]
      simp only [tIs, tVs, bs, if_true, true_or, or_true, i10, if_false, not_false_eq_true, not_true_eq_false, Wp_rc, Wp_f5, Wp_f6, Wp_f7, Wp_f8, Wp_f9, Wp_f10, Wp_f11, Wp_f12, Wp_f13, Wp_f14, w_in0 hb]
    · obtain ⟨m2, e2, q2⟩ := m_t0 (m := m1)
      refine ⟨m2, ?_, q2⟩
      rw [e_Md_fits, u_Md_fits_0]
      simp only [tIs, tVs, bs, if_true, true_or, or_true, i10, if_false, not_false_eq_true, not_true_eq_false, Md_rc, Md_f1, Md_f4, Md_f5, Md_f6, Md_f9, Md_f10, Md_f11, Md_f12, Md_f14, Md_f15, Md_f18, Md_f19, Md_f20, Md_f21, Md_f23, Md_f24, Md_f25, Md_f26, Md_f28, e2, m_in0 hb]
/-! when -/
def wT (C : aC) (v : Nat) : Bool := decide (20 ≤ v) && isT C v
def wp (q v : Nat) : Nat := pl (poM v q)
def wG (C : aC) (q : Nat) : Nat := Gr (wT C) (wp q) 161
theorem wT_lt {v : Nat} (h : v < 20) : wT C v = false := by unfold wT; rw [decide_eq_false (by omega)]; rfl
theorem wT_ge {v : Nat} (h : 20 ≤ v) : wT C v = isT C v := by unfold wT; rw [decide_eq_true h]; rfl
theorem cnt_none {T : Nat → Bool} {p : Nat → Nat} : ∀ n, (∀ i, i < n → T i = false) → ∀ v, cnt T p n v = 0
  | 0, _, _ => rfl
  | n + 1, h, v => by
    simp only [cnt]
    rw [if_neg (fun z => by rw [h n (by omega)] at z; cases z.1)]
    exact cnt_none n (fun i hi => h i (by omega)) v
theorem Gr_none {T : Nat → Bool} {p : Nat → Nat} : ∀ n, (∀ i, i < n → T i = false) → Gr T p n = 0
  | 0, _ => rfl
  | n + 1, h => by
    simp only [Gr]
    rw [if_neg (by rw [h n (by omega)]; decide)]
    exact Gr_none n (fun i hi => h i (by omega))
theorem cnt_miss {T : Nat → Bool} {p : Nat → Nat} {i v : Nat} (hT : T i = false) : cnt T p (i + 1) v = cnt T p i v := by
  simp only [cnt]
  rw [if_neg (fun z => by rw [hT] at z; cases z.1)]
theorem Gr_miss {T : Nat → Bool} {p : Nat → Nat} {i : Nat} (hT : T i = false) : Gr T p (i + 1) = Gr T p i := by
  simp only [Gr]
  rw [if_neg (by rw [hT]; decide)]
theorem cnt_fun {T : Nat → Bool} {p : Nat → Nat} {i : Nat} (hT : T i = true) : cnt T p (i + 1) = fun v => if v = p i then cnt T p i v + 1 else cnt T p i v := by
  funext v
  simp only [cnt]
  by_cases h : v = p i
  · rw [if_pos ⟨hT, h.symm⟩, if_pos h]
  · rw [if_neg (fun z => h z.2.symm), if_neg h]
theorem aFt_le : (aFt C).1 ≤ 161 := by
  have := fr_inv (n := 161) (R := fun i (x : Nat × Int32 × Int32) => x.1 ≤ i) (g := gFt C) (fun i x _ h => by
    unfold gFt
    split
    · dsimp only; omega
    · omega) 141 20 (0, -1, -1) (by omega) (by dsimp only; omega)
  exact this
theorem w_when27 (hT : TN m C) (hq : q ≤ 40) {b l : Int32} (h0 : TA m (fun _ => 0) 0) : ∃ m', f_Wp_when_27 X 0 b l (nI q) (nI 20) (hp m) = f_Wp_when_27 X 0 b l (nI q) (nI 161) (hp m') ∧ Same [118, 119] m m' ∧ gI m' 118 1 = nI (wG C q) := by
  obtain ⟨-, m', h1, h2, h3, -⟩ := lg (n := 161) (F := fun (_ : Unit) (_ : Unit) v m => f_Wp_when_27 X 0 b l (nI q) (nI v) (hp m)) (R := fun i _ m' => Same [118, 119] m m' ∧ TA m' (cnt (wT C) (wp q) i) (Gr (wT C) (wp q) i) ∧ 20 ≤ i) (g := fun _ u => u) (fun _ _ v m2 hv hr => by
    obtain ⟨r1, r2, r3⟩ := hr
    have hT2 := hT.q (Q.of r1 (by decide) (by decide) (by decide))
    have hp2 := po_all (v := v) (q := q) (by omega) r3 hq
    rw [u_Wp_when_27, if_neg (in_u (U := 160) rfl (show v ≤ 160 by omega) (by decide))]
    simp only [tIs, tVs, bs, if_true, true_or, or_true, i10, if_false, not_false_eq_true, not_true_eq_false, Wp_rc, Wp_f5, Wp_f6, Wp_f7, Wp_f8, Wp_f9, Wp_f10, Wp_f11, Wp_f12, Wp_f13, Wp_f14, w_told (X := X) hT2 (show v ≤ 160 by omega) r3, u_Wp_when_57, nI_1]
    cases hi : isT C v with
    | false =>
      have ht : wT C v = false := by rw [wT_ge r3]; exact hi
      refine ⟨(), m2, ?_, r1, ?_, by omega⟩
      · simp only [bI_0, if_true]
      · rw [show cnt (wT C) (wp q) (v + 1) = cnt (wT C) (wp q) v from funext (fun x => cnt_miss ht), Gr_miss ht]
        exact r2
    | true =>
      have ht : wT C v = true := by rw [wT_ge r3]; exact hi
      have hg : Gr (wT C) (wp q) v ≤ v := Gr_le v
      have hc' : cnt (wT C) (wp q) v (pl (poM v q)) ≤ v := cnt_le v _
      obtain ⟨m3, e3, s3, t3⟩ := ta_add (X := X) (x := poM v q) r2 hp2.2 (by omega) (by omega)
      refine ⟨(), m3, ?_, r1.tr s3, ?_, by omega⟩
      · simp only [bI_1, if_false, tIs, tVs, bs, if_true, true_or, or_true, i10, if_false, not_false_eq_true, not_true_eq_false, Wp_rc, Wp_f5, Wp_f6, Wp_f7, Wp_f8, Wp_f9, Wp_f10, Wp_f11, Wp_f12, Wp_f13, Wp_f14, w_plainOut, hp2.1, hp_rc Ta_T, e3]
      · rw [cnt_fun ht, Gr_hit ht]
        exact t3) 141 20 () () m (by omega) ⟨Same.rf, by rw [Gr_none 20 (fun i hi => wT_lt hi), show cnt (wT C) (wp q) 20 = fun _ => 0 from funext (cnt_none 20 (fun i hi => wT_lt hi))]; exact h0, by omega⟩
  exact ⟨m', h1, h2, h3.2⟩
theorem w_when (hT : TN m C) : Gi X m_Wp_when [.ref 0] m (fr (gLo (wG C)) 40 1 (-1, (aFt C).1)).1 := by
  have hl := aFt_le (C := C)
  unfold Gi
  rw [e_Wp_when, u_Wp_when_0]
  have hf := w_fits (X := X) (q := 0) hT (by decide)
  rw [if_pos rfl, show (nI 0 : Int32) = 0 from rfl] at hf
  simp only [tIs, tVs, bs, if_true, true_or, or_true, i10, if_false, not_false_eq_true, not_true_eq_false, Wp_rc, Wp_f5, Wp_f6, Wp_f7, Wp_f8, Wp_f9, Wp_f10, Wp_f11, Wp_f12, Wp_f13, Wp_f14, hf]
  obtain ⟨o', m', h1, h2, h3⟩ := lg (n := 41) (F := fun (o : Option Value) (x : Int32 × Nat) q m => f_Wp_when_10 X 0 x.1 (nI x.2) (nI q) o (hp m)) (R := fun _ x m' => Same [118, 119] m m' ∧ x.2 ≤ 161) (g := gLo (wG C)) (fun o x q m2 hq hr => by
    obtain ⟨r1, r3⟩ := hr
    obtain ⟨m3, e3, s3, t3⟩ := ta_clear (X := X) (m := m2)
    have hT3 := hT.q (Q.of (r1.tr s3) (by decide) (by decide) (by decide))
    obtain ⟨m4, e4, s4, t4⟩ := w_when27 (X := X) (q := q) (b := x.1) (l := nI x.2) hT3 (by omega) t3
    have hg : wG C q ≤ 161 := Gr_le _
    refine ⟨some (.int (nI 161)), m4, ?_, (r1.tr s3).tr s4, ?_⟩
    · rw [u_Wp_when_10, if_neg (in_u (U := 40) rfl (show q ≤ 40 by omega) (by decide))]
      simp only [tIs, tVs, bs, if_true, true_or, or_true, i10, if_false, not_false_eq_true, not_true_eq_false, Wp_rc, Wp_f5, Wp_f6, Wp_f7, Wp_f8, Wp_f9, Wp_f10, Wp_f11, Wp_f12, Wp_f13, Wp_f14, hp_rc Ta_T, e3]
      refine Eq.trans (b := f_Wp_when_27 X 0 x.1 (nI x.2) (nI q) (nI 20) (hp m3)) rfl ?_
      rw [e4, u_Wp_when_27, if_pos (by decide)]
      simp only [tIs, tVs, bs, if_true, true_or, or_true, i10, if_false, not_false_eq_true, not_true_eq_false, Wp_rc, Wp_f5, Wp_f6, Wp_f7, Wp_f8, Wp_f9, Wp_f10, Wp_f11, Wp_f12, Wp_f13, Wp_f14]
      rw [hp_fI Ta_T rfl, t4]
      simp only [tIs, tVs, bs, if_true, true_or, or_true, i10, if_false, not_false_eq_true, not_true_eq_false, Wp_rc, Wp_f5, Wp_f6, Wp_f7, Wp_f8, Wp_f9, Wp_f10, Wp_f11, Wp_f12, Wp_f13, Wp_f14, u_Wp_when_84, nI_1]
      unfold gLo
      simp only [nI_leI (show x.2 < 2 ^ 31 by omega) (show wG C q < 2 ^ 31 by omega)]
      by_cases hl : x.2 ≤ wG C q
      · rw [if_pos hl, if_neg (by omega)]
      · rw [if_neg hl, if_pos (by omega)]
    · unfold gLo
      split
      · dsimp only; omega
      · exact r3) 40 1 none (-1, (aFt C).1) m (by omega) ⟨Same.rf, hl⟩
  refine ⟨m', ?_, Q.of h2 (by decide) (by decide) (by decide)⟩
  refine Eq.trans (b := f_Wp_when_10 X 0 (-1) (nI (aFt C).1) (nI 1) none (hp m)) rfl ?_
  rw [show f_Wp_when_10 X 0 (-1) (nI (aFt C).1) (nI 1) none (hp m) = _ from h1, u_Wp_when_10, if_pos (by decide)]
theorem m_when75 (hT : TN m C) (hq : q ≤ 40) (hv : v ≤ 160) (hv' : 20 ≤ v) {a b l mo : Int32} : f_Md_when_75 X 175 a b l (nI q) mo (nI v) 0 20 (hp m) = f_Md_when_75 X 175 a b l (nI q) mo (nI v) (nI (if wT C v then cnt (wT C) (wp q) 161 (wp q v) else 0)) (nI 161) (hp m) := by
  obtain ⟨⟨-, h1⟩, h2, -⟩ := lg0 (n := 161) (F := fun (_ : Unit) (x : Nat) u => f_Md_when_75 X 175 a b l (nI q) mo (nI v) (nI x) (nI u) (hp m)) (R := fun i x => (x = if wT C v then cnt (wT C) (wp q) i (wp q v) else 0) ∧ 20 ≤ i) (g := fun i _ => if wT C v then cnt (wT C) (wp q) (i + 1) (wp q v) else 0) (fun _ x u hu hx => by
    refine ⟨⟨(), ?_⟩, rfl, by omega⟩
    obtain ⟨hx, h20⟩ := hx
    have hu2 := po_all (v := u) (q := q) (by omega) h20 hq
    have hv2 := po_all (v := v) (q := q) hv hv' hq
    rw [u_Md_when_75, if_neg (in_u (U := 160) rfl (show u ≤ 160 by omega) (by decide))]
    simp only [tIs, tVs, bs, if_true, true_or, or_true, i10, if_false, not_false_eq_true, not_true_eq_false, Md_rc, Md_f1, Md_f4, Md_f5, Md_f6, Md_f9, Md_f10, Md_f11, Md_f12, Md_f14, Md_f15, Md_f18, Md_f19, Md_f20, Md_f21, Md_f23, Md_f24, Md_f25, Md_f26, Md_f28, m_told (X := X) hT, m_outBy2, u_Md_when_124, u_Md_when_125, nI_1]
    rw [wT_ge hv'] at hx ⊢
    cases hiv : isT C v with
    | false =>
      rw [hiv] at hx
      simp only [bI_0, if_true]
      rw [show (0 : Int32) = nI 0 from rfl, nI_add, hx]
      rfl
    | true =>
      rw [hiv] at hx
      simp only [bI_1, if_false, if_true] at hx ⊢
      cases hiu : isT C u with
      | false =>
        have ht : wT C u = false := by rw [wT_ge h20]; exact hiu
        simp only [bI_0, if_true]
        rw [show (0 : Int32) = nI 0 from rfl, nI_add, hx, cnt_miss ht]
        rfl
      | true =>
        have ht : wT C u = true := by rw [wT_ge h20]; exact hiu
        simp only [bI_1, if_false]
        rw [cnt_fun ht]
        dsimp only
        have hpe : wp q v = wp q u ↔ poM v q = poM u q := pl_eq hv2.2 hu2.2
        by_cases he : poM u q = poM v q
        · rw [if_neg (fun z => z he), if_pos (hpe.mpr he.symm), hx]
        · rw [if_pos he, if_neg (fun z => he (hpe.mp z).symm), show (0 : Int32) = nI 0 from rfl, nI_add, hx]
          rfl) 141 20 () 0 (by omega) ⟨by rw [cnt_none 20 (fun i hi => wT_lt hi)]; split <;> rfl, by omega⟩
  rw [h2] at h1
  exact h1
theorem m_when60 (hT : TN m C) (hq : q ≤ 40) {a b l : Int32} (o7 o8 : Option Value) : ∃ o7' o8', f_Md_when_60 X 175 a b l (nI q) 0 20 o7 o8 (hp m) = f_Md_when_60 X 175 a b l (nI q) (nI (wG C q)) (nI 161) o7' o8' (hp m) := by
  obtain ⟨⟨⟨o1, o2⟩, h1⟩, h2, -⟩ := lg0 (n := 161) (F := fun (o : Option Value × Option Value) (x : Nat) v => f_Md_when_60 X 175 a b l (nI q) (nI x) (nI v) o.1 o.2 (hp m)) (R := fun i x => x ≤ 161 ∧ 20 ≤ i) (g := fun k x => max x (if wT C k then cnt (wT C) (wp q) 161 (wp q k) else 0)) (fun o x v hv hx => by
    have hc' : (if wT C v then cnt (wT C) (wp q) 161 (wp q v) else 0) ≤ 161 := by
      split
      · exact cnt_le _ _
      · omega
    refine ⟨⟨(some (.int (nI (if wT C v then cnt (wT C) (wp q) 161 (wp q v) else 0))), some (.int (nI 161))), ?_⟩, ?_, by omega⟩
    · rw [u_Md_when_60, if_neg (in_u (U := 160) rfl (show v ≤ 160 by omega) (by decide)), m_when75 hT hq (by omega) hx.2, u_Md_when_75, if_pos (by decide)]
      generalize (if wT C v then cnt (wT C) (wp q) 161 (wp q v) else 0) = z at hc' ⊢
      simp only [u_Md_when_148, nI_1, nI_leI (show z < 2 ^ 31 by omega) (show x < 2 ^ 31 by omega)]
      by_cases hl : z ≤ x
      · rw [if_pos hl, Nat.max_eq_left hl]
      · rw [if_neg hl, Nat.max_eq_right (by omega)]
    · exact Nat.max_le.mpr ⟨hx.1, hc'⟩) 141 20 (o7, o8) 0 (by omega) (by omega)
  have he : fr (fun k x => max x (if wT C k then cnt (wT C) (wp q) 161 (wp q k) else 0)) 141 20 0 = wG C q := by
    have h3 := Mo_eq (T := wT C) (p := wp q) 161
    unfold Mo at h3
    unfold wG
    rw [← h3, show (161 : Nat) = 20 + 141 from rfl, fr_add]
    have : fr (fun k x => max x (if wT C k then cnt (wT C) (wp q) (20 + 141) (wp q k) else 0)) 20 0 0 = 0 := fr_inv (n := 20) (R := fun _ (x : Nat) => x = 0) (g := fun k x => max x (if wT C k then cnt (wT C) (wp q) (20 + 141) (wp q k) else 0)) (fun i x hi h => by rw [h, wT_lt hi]; rfl) 20 0 0 (by omega) rfl
    rw [this]
  rw [he] at h1
  exact ⟨o1, o2, h1⟩
theorem m_when (hT : TN m C) : Gi X m_Md_when [.ref 175] m (fr (gLo (wG C)) 40 1 (-1, (aFt C).1)).1 := by
  have hl := aFt_le (C := C)
  obtain ⟨m2, e2, q2⟩ := m_t0 (m := m)
  have hT2 := hT.q q2
  unfold Gi
  rw [e_Md_when, u_Md_when_0, e2]
  simp only [tIs, tVs, bs, if_true, true_or, or_true, i10, if_false, not_false_eq_true, not_true_eq_false, Md_rc, Md_f1, Md_f4, Md_f5, Md_f6, Md_f9, Md_f10, Md_f11, Md_f12, Md_f14, Md_f15, Md_f18, Md_f19, Md_f20, Md_f21, Md_f23, Md_f24, Md_f25, Md_f26, Md_f28]
  obtain ⟨⟨-, h1⟩, -⟩ := lg0 (n := 161) (F := fun (_ : Unit) (x : Nat × Int32 × Int32) v => f_Md_when_10 X 175 (nI x.1) (nI v) (hp m2)) (R := fun _ _ => True) (g := gFt C) (fun _ x v hv _ => by
    refine ⟨⟨(), ?_⟩, trivial⟩
    rw [u_Md_when_10, if_neg (in_u (U := 160) rfl (show v ≤ 160 by omega) (by decide))]
    simp only [tIs, tVs, bs, if_true, true_or, or_true, i10, if_false, not_false_eq_true, not_true_eq_false, Md_rc, Md_f1, Md_f4, Md_f5, Md_f6, Md_f9, Md_f10, Md_f11, Md_f12, Md_f14, Md_f15, Md_f18, Md_f19, Md_f20, Md_f21, Md_f23, Md_f24, Md_f25, Md_f26, Md_f28, m_told (X := X) hT2, u_Md_when_31, nI_1]
    unfold gFt
    cases isT C v with
    | false =>
      simp only [bI_0, if_true]
      rw [show (0 : Int32) = nI 0 from rfl, nI_add]
      rfl
    | true => simp only [bI_1, if_false, if_true]) 141 20 () (0, -1, -1) (by omega) trivial
  obtain ⟨⟨⟨o5, o6, o7, o8⟩, h5⟩, h6⟩ := lg0 (n := 41) (F := fun (o : Option Value × Option Value × Option Value × Option Value) (x : Int32 × Nat) q => f_Md_when_46 X 175 (nI (aFt C).1) x.1 (nI x.2) (nI q) o.1 o.2.1 o.2.2.1 o.2.2.2 (hp m2)) (R := fun _ x => x.2 ≤ 161) (g := gLo (wG C)) (fun o x q hq hx => by
    have hg : wG C q ≤ 161 := Gr_le _
    obtain ⟨p7, p8, h7⟩ := m_when60 (X := X) (a := nI (aFt C).1) (b := x.1) (l := nI x.2) hT2 (show q ≤ 40 by omega) o.2.2.1 o.2.2.2
    refine ⟨⟨(some (.int (nI (wG C q))), some (.int (nI 161)), p7, p8), ?_⟩, ?_⟩
    · rw [u_Md_when_46, if_neg (in_u (U := 40) rfl (show q ≤ 40 by omega) (by decide)), h7, u_Md_when_60, if_pos (by decide)]
      simp only [u_Md_when_168, u_Md_when_181, nI_1]
      unfold gLo
      simp only [nI_leI (show x.2 < 2 ^ 31 by omega) (show wG C q < 2 ^ 31 by omega)]
      by_cases hl : x.2 ≤ wG C q
      · rw [if_pos hl, if_pos hl, if_neg (by omega)]
      · rw [if_neg hl, if_neg hl, if_pos (by omega)]
    · unfold gLo
      split
      · dsimp only; omega
      · exact hx) 40 1 (none, none, none, none) (-1, (aFt C).1) (by omega) hl
  refine ⟨m2, ?_, q2⟩
  refine Eq.trans (b := f_Md_when_10 X 175 (nI 0) (nI 20) (hp m2)) rfl ?_
  rw [show f_Md_when_10 X 175 (nI 0) (nI 20) (hp m2) = _ from h1, u_Md_when_10, if_pos (by decide)]
  refine Eq.trans (b := f_Md_when_46 X 175 (nI (aFt C).1) (-1) (nI (aFt C).1) (nI 1) none none none none (hp m2)) rfl ?_
  rw [show f_Md_when_46 X 175 (nI (aFt C).1) (-1) (nI (aFt C).1) (nI 1) none none none none (hp m2) = _ from h5, u_Md_when_46, if_pos (by decide)]
theorem q_when (hT : TN m C) : Ag X m_Wp_when m_Md_when [] m := Ag.mk _ (w_when hT) (fun _ hq => m_when (hT.q hq))
end QF
