/-! look, to its end. -/
def allT : Nat → Bool := fun _ => true
def gLo (G : Nat → Nat) (q : Nat) (x : Int32 × Nat) : Int32 × Nat := if G q < x.2 then (nI q, G q) else x
def rng (x : Int32) : Prop := -360 ≤ x.toInt ∧ x.toInt ≤ 359
theorem cnt_hit {T : Nat → Bool} {p : Nat → Nat} {i : Nat} (hT : T i = true) : cnt T p (i + 1) (p i) = cnt T p i (p i) + 1 := by
  show (if T i = true ∧ p i = p i then cnt T p i (p i) + 1 else cnt T p i (p i)) = _
  rw [if_pos ⟨hT, rfl⟩]
theorem Gr_hit {T : Nat → Bool} {p : Nat → Nat} {i : Nat} (hT : T i = true) : Gr T p (i + 1) = max (Gr T p i) (cnt T p i (p i) + 1) := by
  show (if T i then max (Gr T p i) (cnt T p (i + 1) (p i)) else Gr T p i) = _
  rw [if_pos hT, cnt_hit hT]
theorem cnt_all {p : Nat → Nat} {i : Nat} : cnt allT p (i + 1) = fun v => if v = p i then cnt allT p i v + 1 else cnt allT p i v := by
  funext v
  show (if allT i = true ∧ p i = v then cnt allT p i v + 1 else cnt allT p i v) = _
  by_cases h : v = p i
  · rw [if_pos ⟨rfl, h.symm⟩, if_pos h]
  · rw [if_neg (fun z => h z.2.symm), if_neg h]
section QE
variable {m : pm_M} {X : pv_X} {P c k : Nat} {π : aP} {s : aS} {C : aC}
theorem w_look41 {M q : Nat} {V : aV} (hV : VC m V) (hM : V.1 = M) (h30 : M ≤ 30) (hq : q ≤ 24) (hr : ∀ j, j < M → rng (V.2 j q)) {vk b l : Int32} (hT : TA m (fun _ => 0) 0) : ∃ m', f_Wp_look_41 X 0 vk (nI M) b l (nI q) (nI 0) (hp m) = f_Wp_look_41 X 0 vk (nI M) b l (nI q) (nI M) (hp m') ∧ Same [118, 119] m m' ∧ gI m' 118 1 = nI (Gr allT (fun j => pl (V.2 j q)) M) := by
  obtain ⟨-, m', h1, h2, h3⟩ := lg (n := M) (F := fun (_ : Unit) (_ : Unit) i m => f_Wp_look_41 X 0 vk (nI M) b l (nI q) (nI i) (hp m)) (R := fun i _ m' => Same [118, 119] m m' ∧ TA m' (cnt allT (fun j => pl (V.2 j q)) i) (Gr allT (fun j => pl (V.2 j q)) i)) (g := fun _ u => u) (fun _ _ i m2 hi hr2 => by
    obtain ⟨r1, r2⟩ := hr2
    have hg : Gr allT (fun j => pl (V.2 j q)) i ≤ i := Gr_le i
    have hc' : cnt allT (fun j => pl (V.2 j q)) i (pl (V.2 i q)) ≤ i := cnt_le i _
    obtain ⟨m3, e3, s3, t3⟩ := ta_add (X := X) (x := V.2 i q) r2 (hr i hi) (by omega) (by omega)
    refine ⟨(), m3, ?_, r1.tr s3, ?_⟩
    · rw [u_Wp_look_41, if_neg (nI_ge hi (by omega))]
      simp only [tIs, tVs, bs, if_true, true_or, or_true, i10, if_false, not_false_eq_true, not_true_eq_false, Wp_rc, Wp_f5, Wp_f6, Wp_f7, Wp_f8, Wp_f9, Wp_f10, Wp_f11, Wp_f12, Wp_f13, Wp_f14]
      rw [show (nI q * 30 + nI i : Int32) = nI (q * 30 + i) from by rw [show (30 : Int32) = nI 30 from rfl, pk_mul, nI_add], ar_ld T_122 (by omega) (by decide), r1.A (by decide), hV i q (by omega) hq]
      simp only [tIs, tVs, bs, if_true, true_or, or_true, i10, if_false, not_false_eq_true, not_true_eq_false, Wp_rc, Wp_f5, Wp_f6, Wp_f7, Wp_f8, Wp_f9, Wp_f10, Wp_f11, Wp_f12, Wp_f13, Wp_f14, hp_rc Ta_T, e3, nI_1]
    · rw [cnt_all, Gr_hit (p := fun j => pl (V.2 j q)) (i := i) rfl]
      exact t3) M 0 () () m (by omega) ⟨Same.rf, hT⟩
  exact ⟨m', h1, h2, h3.2⟩
def hLs (π : aP) (C : aC) (s : aS) (k : Nat) : aV := fr (fun a x => fr (hLk π C s k a) π.1 0 x) π.1 0 (0, fun _ _ => 0)
theorem hLk_rng {a b : Nat} {x : aV} (hπ : okA π) (ok : okS π.1 c s) (hc : c ≤ 1000) (hk : k < π.1) (hb : b < π.1) (h : ∀ j q, j < x.1 → q ≤ 24 → rng (x.2 j q)) : ∀ j q, j < (hLk π C s k a b x).1 → q ≤ 24 → rng ((hLk π C s k a b x).2 j q) := by
  intro j q hj hq
  unfold hLk at hj ⊢
  by_cases hp' : isPr π C s a b = true
  · rw [if_pos hp'] at hj ⊢
    dsimp only at hj ⊢
    by_cases hx : j = x.1
    · rw [if_pos hx]
      exact out_rng (pqn_ok hπ q _ (okS_ask ok hb)) (by omega) hk
    · rw [if_neg hx]; exact h j q (by omega) hq
  · rw [if_neg hp'] at hj ⊢; exact h j q hj hq
theorem hLs_rng (hπ : okA π) (ok : okS π.1 c s) (hc : c ≤ 1000) (hk : k < π.1) : ∀ j q, j < (hLs π C s k).1 → q ≤ 24 → rng ((hLs π C s k).2 j q) :=
  fr_inv (n := π.1) (R := fun _ (x : aV) => ∀ j q, j < x.1 → q ≤ 24 → rng (x.2 j q)) (g := fun a x => fr (hLk π C s k a) π.1 0 x) (fun a x _ h => fr_inv (n := π.1) (R := fun _ (x : aV) => ∀ j q, j < x.1 → q ≤ 24 → rng (x.2 j q)) (g := hLk π C s k a) (fun b x hb h => hLk_rng hπ ok hc hk hb h) π.1 0 x (by omega) h) π.1 0 (0, fun _ _ => 0) (by omega) (fun j q hj => absurd hj (by dsimp only; omega))
def LK : List Nat := [8, 20, 39, 40, 41, 42, 118, 119, 122]
theorem LK_Q {m' : pm_M} (h : Same LK m m') : Q m m' := Q.of h (by decide) (by decide) (by decide)
def gGr (V : aV) (q : Nat) : Nat := Gr allT (fun j => pl (V.2 j q)) V.1
theorem w_look (hC : HC m P π s) (hS : SN m π.1 C) (ok : okS π.1 c s) (hc : c ≤ 1000) (hk : k < π.1) : Gi X m_Wp_look [.ref 0, .int (nI k)] m (fr (gLo (gGr (hLs π C s k))) 25 0 (-1, (hLs π C s k).1)).1 := by
  have hrg := hLs_rng (C := C) hC.okA ok hc hk
  obtain ⟨m1, e1, s1, v1, b1⟩ := w_foresee (X := X) hC hS hk
  have hV : fr (fun a x => fr (hLk π C s k a) π.1 0 x) π.1 0 (0, fun _ _ => 0) = hLs π C s k := rfl
  rw [hV] at e1 v1 b1
  generalize hLs π C s k = V at *
  unfold Gi
  rw [e_Wp_look, u_Wp_look_0]
  simp only [tIs, tVs, bs, if_true, true_or, or_true, i10, if_false, not_false_eq_true, not_true_eq_false, Wp_rc, Wp_f5, Wp_f6, Wp_f7, Wp_f8, Wp_f9, Wp_f10, Wp_f11, Wp_f12, Wp_f13, Wp_f14, w_isP1 hC hk, e1]
  obtain ⟨o', m', h1, h2, h3⟩ := lg (n := 25) (F := fun (o : Option Value) (x : Int32 × Nat) q m => f_Wp_look_24 X 0 (nI k) (nI V.1) x.1 (nI x.2) (nI q) o (hp m)) (R := fun _ x m' => (Same LK m m' ∧ gA m' 122 = gA m1 122) ∧ x.2 ≤ 30) (g := gLo (gGr V)) (fun o x q m2 hq hr => by
    obtain ⟨⟨r1, r2⟩, r3⟩ := hr
    obtain ⟨m3, e3, s3, t3⟩ := ta_clear (X := X) (m := m2)
    have hV3 : VC m3 V := fun j q hj hq => by rw [s3.A (by decide), r2]; exact v1 j q hj hq
    obtain ⟨m4, e4, s4, t4⟩ := w_look41 (X := X) (q := q) (vk := nI k) (b := x.1) (l := nI x.2) hV3 rfl b1 (by omega) (fun j hj => hrg j q hj (by omega)) t3
    have hg : gGr V q ≤ V.1 := Gr_le _
    refine ⟨some (.int (nI V.1)), m4, ?_, ⟨(r1.tr (s3.mono (by decide))).tr (s4.mono (by decide)), by rw [s4.A (by decide), s3.A (by decide), r2]⟩, ?_⟩
    · rw [u_Wp_look_24, if_neg (in_u (U := 24) rfl (show q ≤ 24 by omega) (by decide))]
      simp only [tIs, tVs, bs, if_true, true_or, or_true, i10, if_false, not_false_eq_true, not_true_eq_false, Wp_rc, Wp_f5, Wp_f6, Wp_f7, Wp_f8, Wp_f9, Wp_f10, Wp_f11, Wp_f12, Wp_f13, Wp_f14, hp_rc Ta_T, e3]
      refine Eq.trans (b := f_Wp_look_41 X 0 (nI k) (nI V.1) x.1 (nI x.2) (nI q) (nI 0) (hp m3)) rfl ?_
      rw [e4, u_Wp_look_41, if_pos (nI_le (Nat.le_refl _) (by omega))]
      simp only [tIs, tVs, bs, if_true, true_or, or_true, i10, if_false, not_false_eq_true, not_true_eq_false, Wp_rc, Wp_f5, Wp_f6, Wp_f7, Wp_f8, Wp_f9, Wp_f10, Wp_f11, Wp_f12, Wp_f13, Wp_f14]
      rw [hp_fI Ta_T rfl, t4]
      simp only [tIs, tVs, bs, if_true, true_or, or_true, i10, if_false, not_false_eq_true, not_true_eq_false, Wp_rc, Wp_f5, Wp_f6, Wp_f7, Wp_f8, Wp_f9, Wp_f10, Wp_f11, Wp_f12, Wp_f13, Wp_f14, u_Wp_look_97, nI_1]
      unfold gLo
      have hG : Gr allT (fun j => pl (V.2 j q)) V.1 = gGr V q := rfl
      rw [hG]
      simp only [nI_leI (show x.2 < 2 ^ 31 by omega) (show gGr V q < 2 ^ 31 by omega)]
      by_cases hl : x.2 ≤ gGr V q
      · rw [if_pos hl, if_neg (by omega)]
      · rw [if_neg hl, if_pos (by omega)]
    · unfold gLo
      split
      · dsimp only; omega
      · exact r3) 25 0 none (-1, V.1) m1 (by omega) ⟨⟨s1.mono (by decide), rfl⟩, b1⟩
  refine ⟨m', ?_, LK_Q h2.1⟩
  refine Eq.trans (b := f_Wp_look_24 X 0 (nI k) (nI V.1) (-1) (nI V.1) (nI 0) none (hp m1)) rfl ?_
  rw [show f_Wp_look_24 X 0 (nI k) (nI V.1) (-1) (nI V.1) (nI 0) none (hp m1) = _ from h1, u_Wp_look_24, if_pos (by decide)]
/-- laid in the reference's row -/
def VM (m : pm_M) (x : aV) : Prop := ∀ j q, j < x.1 → q ≤ 24 → gA m 194 (25 * j + q) = x.2 j q
theorem m_row56 {a b M w : Nat} (hM : HM m π s c) (hk : k < π.1) (ha : a < π.1) (hb : b < π.1) (hM36 : M < 36) {m1 : pm_M} (q1 : Q m m1) (v1 : vm m1 1071 = aAsk s a b) : ∃ m', f_Md_look_56 X 175 (nI k) (nI M) (nI w) (nI 0) (hp m1) = f_Md_look_99 X 175 (nI k) (nI (M + 1)) (nI w) (some (.int (nI 25))) (hp m') ∧ Q m m' ∧ (∀ q, q ≤ 24 → gA m' 194 (25 * M + q) = aOut (pqn π q (aAsk s a b)) k) ∧ ∀ j q, j ≠ M → q ≤ 24 → gA m' 194 (25 * j + q) = gA m1 194 (25 * j + q) := by
  have hc := hM.2.2.2
  obtain ⟨-, m', h1, h2, h3, h4, h5, h6⟩ := lg (n := 25) (F := fun (_ : Unit) (t : aS) q m => f_Md_look_56 X 175 (nI k) (nI M) (nI w) (nI q) (hp m)) (R := fun i t m' => Q m m' ∧ vm m' 1071 = t ∧ t = pqn π i (aAsk s a b) ∧ okS π.1 (c + i) t ∧ ∀ j q, q ≤ 24 → gA m' 194 (25 * j + q) = if j = M ∧ q < i then aOut (pqn π q (aAsk s a b)) k else gA m1 194 (25 * j + q)) (g := fun _ t => (aPQ π t).1) (fun _ t i m2 hi hr => by
    obtain ⟨r1, r2, r3, r4, r5⟩ := hr
    have hM2 := hM.q r1
    have s3 : Same [194] m2 (sA m2 194 (upd (gA m2 194) (25 * M + i) (aOut t k))) := Same.sA (by decide)
    have e0 : gA (sA m2 194 (upd (gA m2 194) (25 * M + i) (aOut t k))) 194 = upd (gA m2 194) (25 * M + i) (aOut t k) := by rw [gA_sA, if_pos rfl]
    have es := st_194 (m := m2) (k := 25 * M + i) (x := aOut t k) (by omega)
    have v3 : vm (sA m2 194 (upd (gA m2 194) (25 * M + i) (aOut t k))) 1071 = t := by rw [← r2]; unfold vm; rw [gA_sA, if_neg (by decide)]
    generalize sA m2 194 (upd (gA m2 194) (25 * M + i) (aOut t k)) = m3 at s3 v3 e0 es
    have q3 : Q m2 m3 := Q.of s3 (by decide) (by decide) (by decide)
    have hM3 := hM2.q q3
    obtain ⟨m4, e4, s4, v4⟩ := n_pass (X := X) (B := 1071) hM3.1 v3 r4 rfl (by decide) (by omega)
    refine ⟨(), m4, ?_, r1.tr (q3.tr (Q.ofM s4 (by decide))), v4, ?_, okS_aPQ (RM_okA hM.1) r4, fun j q hj => ?_⟩
    · rw [u_Md_look_56, if_neg (in_u (U := 24) rfl (show i ≤ 24 by omega) (by decide))]
      simp only [tIs, tVs, bs, if_true, true_or, or_true, i10, if_false, not_false_eq_true, not_true_eq_false, Md_rc, Md_f1, Md_f4, Md_f5, Md_f6, Md_f9, Md_f10, Md_f11, Md_f12, Md_f14, Md_f15, Md_f18, Md_f19, Md_f20, Md_f21, Md_f23, Md_f24, Md_f25, Md_f26, Md_f28, m_out (X := X) (B := 1071) hM2.1 r2 r4 rfl (by decide) (by omega) hk]
      rw [show (25 * nI M + nI i : Int32) = nI (25 * M + i) from by rw [show (25 : Int32) = nI 25 from rfl, pk_mul, nI_add], es]
      simp only [tIs, tVs, bs, if_true, true_or, or_true, i10, if_false, not_false_eq_true, not_true_eq_false, Md_rc, Md_f1, Md_f4, Md_f5, Md_f6, Md_f9, Md_f10, Md_f11, Md_f12, Md_f14, Md_f15, Md_f18, Md_f19, Md_f20, Md_f21, Md_f23, Md_f24, Md_f25, Md_f26, Md_f28, e4, nI_1]
    · rw [r3]; rfl
    · rw [s4.1.A (by decide), e0]
      by_cases hx : 25 * j + q = 25 * M + i
      · have : j = M ∧ q = i := by omega
        obtain ⟨rfl, rfl⟩ := this
        rw [pk_us, if_pos ⟨rfl, by omega⟩, r3]
      · rw [pk_un hx, r5 j q hj]
        by_cases hy : j = M ∧ q < i
        · rw [if_pos hy, if_pos ⟨hy.1, by omega⟩]
        · rw [if_neg hy, if_neg (fun z => hy ⟨z.1, by have := z.2; rcases Nat.lt_or_ge q i with h | h; exact h; exfalso; apply hx; rw [show q = i by omega, z.1]⟩)]) 25 0 () (aAsk s a b) m1 (by omega) ⟨q1, v1, rfl, okS_ask hM.2.2.1 hb, fun j q hj => by rw [if_neg (by omega)]⟩
  refine ⟨m', ?_, h2, fun q hq => ?_, fun j q hj hj' => ?_⟩
  · rw [h1, u_Md_look_56, if_pos (by decide), nI_1]
  · rw [h6 M q hq, if_pos ⟨rfl, by omega⟩]
  · rw [h6 j q hj', if_neg (fun z => hj z.1)]
theorem m_alike17 {V : aV} {q j : Nat} {vm' : Int32} (hV : VM m V) (h36 : V.1 ≤ 36) (hq : q ≤ 24) (hj : j < V.1) (hr : ∀ j, j < V.1 → rng (V.2 j q)) : f_Md_mostAlike_17 X 175 (nI V.1) (nI q) vm' (nI j) (nI 0) (nI 0) (hp m) = f_Md_mostAlike_17 X 175 (nI V.1) (nI q) vm' (nI j) (nI (cnt allT (fun j => pl (V.2 j q)) V.1 (pl (V.2 j q)))) (nI V.1) (hp m) := by
  obtain ⟨⟨-, h1⟩, h2⟩ := lg0 (n := V.1) (F := fun (_ : Unit) (x : Nat) i => f_Md_mostAlike_17 X 175 (nI V.1) (nI q) vm' (nI j) (nI x) (nI i) (hp m)) (R := fun i x => x = cnt allT (fun j => pl (V.2 j q)) i (pl (V.2 j q))) (g := fun i _ => cnt allT (fun j => pl (V.2 j q)) (i + 1) (pl (V.2 j q))) (fun _ x i hi hx => by
    refine ⟨⟨(), ?_⟩, rfl⟩
    rw [u_Md_mostAlike_17, if_neg (nI_ge hi (by omega))]
    simp only [tIs, tVs, bs, if_true, true_or, or_true, i10, if_false, not_false_eq_true, not_true_eq_false, Md_rc, Md_f1, Md_f4, Md_f5, Md_f6, Md_f9, Md_f10, Md_f11, Md_f12, Md_f14, Md_f15, Md_f18, Md_f19, Md_f20, Md_f21, Md_f23, Md_f24, Md_f25, Md_f26, Md_f28]
    rw [show (25 * nI i + nI q : Int32) = nI (25 * i + q) from by rw [show (25 : Int32) = nI 25 from rfl, pk_mul, nI_add], show (25 * nI j + nI q : Int32) = nI (25 * j + q) from by rw [show (25 : Int32) = nI 25 from rfl, pk_mul, nI_add], ld_194 (by omega), hV i q hi hq]
    simp only [tIs, tVs, bs, if_true, true_or, or_true, i10, if_false, not_false_eq_true, not_true_eq_false, Md_rc, Md_f1, Md_f4, Md_f5, Md_f6, Md_f9, Md_f10, Md_f11, Md_f12, Md_f14, Md_f15, Md_f18, Md_f19, Md_f20, Md_f21, Md_f23, Md_f24, Md_f25, Md_f26, Md_f28]
    rw [ld_194 (by omega), hV j q hj hq]
    simp only [tIs, tVs, bs, if_true, true_or, or_true, i10, if_false, not_false_eq_true, not_true_eq_false, Md_rc, Md_f1, Md_f4, Md_f5, Md_f6, Md_f9, Md_f10, Md_f11, Md_f12, Md_f14, Md_f15, Md_f18, Md_f19, Md_f20, Md_f21, Md_f23, Md_f24, Md_f25, Md_f26, Md_f28, u_Md_mostAlike_57, nI_1]
    rw [cnt_all]
    dsimp only
    have hpe := pl_eq (hr j hj) (hr i hi)
    by_cases he : V.2 i q = V.2 j q
    · rw [if_neg (fun z => z he), if_pos (hpe.mpr he.symm), hx]
    · rw [if_pos he, if_neg (fun z => he (hpe.mp z).symm), hx, show (0 : Int32) = nI 0 from rfl, nI_add, Nat.add_zero]) V.1 0 () 0 (by omega) rfl
  rw [h2] at h1
  exact h1
theorem m_mostAlike {V : aV} {q : Nat} (hV : VM m V) (h36 : V.1 ≤ 36) (hq : q ≤ 24) (hr : ∀ j, j < V.1 → rng (V.2 j q)) : pM X m_Md_mostAlike [.ref 175, .int (nI V.1), .int (nI q)] (hp m) = some (some (.int (nI (gGr V q))), hp m) := by
  rw [e_Md_mostAlike, u_Md_mostAlike_0]
  obtain ⟨⟨⟨o1, o2⟩, h1⟩, h2⟩ := lg0 (n := V.1) (F := fun (o : Option Value × Option Value) (x : Nat) i => f_Md_mostAlike_5 X 175 (nI V.1) (nI q) (nI x) (nI i) o.1 o.2 (hp m)) (R := fun _ x => x ≤ 36) (g := fun k x => max x (if allT k then cnt allT (fun j => pl (V.2 j q)) V.1 (pl (V.2 k q)) else 0)) (fun o x i hi hx => by
    have hc' : cnt allT (fun j => pl (V.2 j q)) V.1 (pl (V.2 i q)) ≤ V.1 := cnt_le _ _
    refine ⟨⟨(some (.int (nI (cnt allT (fun j => pl (V.2 j q)) V.1 (pl (V.2 i q))))), some (.int (nI V.1))), ?_⟩, ?_⟩
    · rw [u_Md_mostAlike_5, if_neg (nI_ge hi (by omega))]
      refine Eq.trans (b := f_Md_mostAlike_17 X 175 (nI V.1) (nI q) (nI x) (nI i) (nI 0) (nI 0) (hp m)) rfl ?_
      rw [m_alike17 hV h36 hq hi hr, u_Md_mostAlike_17, if_pos (nI_le (Nat.le_refl _) (by omega))]
      simp only [u_Md_mostAlike_78, nI_1, nI_leI (show cnt allT (fun j => pl (V.2 j q)) V.1 (pl (V.2 i q)) < 2 ^ 31 by omega) (show x < 2 ^ 31 by omega)]
      rw [if_pos (show allT i = true from rfl)]
      by_cases hl : cnt allT (fun j => pl (V.2 j q)) V.1 (pl (V.2 i q)) ≤ x
      · rw [if_pos hl, Nat.max_eq_left hl]
      · rw [if_neg hl, Nat.max_eq_right (by omega)]
    · rw [if_pos (show allT i = true from rfl)]
      exact Nat.max_le.mpr ⟨hx, by omega⟩) V.1 0 (none, none) 0 (by omega) (by omega)
  have he : fr (fun k x => max x (if allT k then cnt allT (fun j => pl (V.2 j q)) V.1 (pl (V.2 k q)) else 0)) V.1 0 0 = gGr V q := Mo_eq (T := allT) (p := fun j => pl (V.2 j q)) V.1
  rw [he] at h1
  refine Eq.trans (b := f_Md_mostAlike_5 X 175 (nI V.1) (nI q) (nI 0) (nI 0) none none (hp m)) rfl ?_
  rw [show f_Md_mostAlike_5 X 175 (nI V.1) (nI q) (nI 0) (nI 0) none none (hp m) = _ from h1, u_Md_mostAlike_5, if_pos (nI_le (Nat.le_refl _) (by omega))]
theorem n_asked0 {a b : Nat} (hM : HM m π s c) (ha : a < 6) (hb : b < 6) : ∃ m', pM X m_Md_askedFor [.ref 175, .int (nI a), .int (nI b), .int 0] (hp m) = some (none, hp m') ∧ SameM 1071 m m' ∧ vm m' 1071 = aAsk s a b := by
  obtain ⟨m1, e1, q1, v1⟩ := n_tries (X := X) hM
  obtain ⟨m2, e2, q2, v2⟩ := n_ask (X := X) (B := 1071) v1 rfl (by decide) ha hb
  refine ⟨m2, ?_, q1.tr q2, v2⟩
  rw [e_Md_askedFor, u_Md_askedFor_0]
  simp only [tIs, tVs, bs, if_true, true_or, or_true, i10, if_false, not_false_eq_true, not_true_eq_false, Md_rc, Md_f1, Md_f4, Md_f5, Md_f6, Md_f9, Md_f10, Md_f11, Md_f12, Md_f14, Md_f15, Md_f18, Md_f19, Md_f20, Md_f21, Md_f23, Md_f24, Md_f25, Md_f26, Md_f28, e1, e2, e_Md_runs, u_Md_runs_0]
  rw [u_Md_runs_2, if_pos (by decide)]
  simp only [tIs, tVs, bs, if_true, true_or, or_true, i10, if_false, not_false_eq_true, not_true_eq_false, Md_rc, Md_f1, Md_f4, Md_f5, Md_f6, Md_f9, Md_f10, Md_f11, Md_f12, Md_f14, Md_f15, Md_f18, Md_f19, Md_f20, Md_f21, Md_f23, Md_f24, Md_f25, Md_f26, Md_f28]
theorem m_look (hM : HM m π s c) (hS : SN m π.1 C) (hn : π.1 ≤ 6) (hk : k < π.1) : Gi X m_Md_look [.ref 175, .int (nI k)] m (fr (gLo (gGr (hLs π C s k))) 25 0 (-1, (hLs π C s k).1)).1 := by
  have hrg := hLs_rng (C := C) (RM_okA hM.1) hM.2.2.1 hM.2.2.2 hk
  obtain ⟨m2, e2, q2⟩ := m_t0 (m := m)
  unfold Gi
  rw [e_Md_look, u_Md_look_0, e2]
  simp only [tIs, tVs, bs, if_true, true_or, or_true, i10, if_false, not_false_eq_true, not_true_eq_false, Md_rc, Md_f1, Md_f4, Md_f5, Md_f6, Md_f9, Md_f10, Md_f11, Md_f12, Md_f14, Md_f15, Md_f18, Md_f19, Md_f20, Md_f21, Md_f23, Md_f24, Md_f25, Md_f26, Md_f28, m_isP1 (hM.q q2).1 hk]
  obtain ⟨o3, m3, h1, h2, h3, h4⟩ := lg (n := 36) (F := fun (o : Option Value) (x : aV) w m => f_Md_look_19 X 175 (nI k) (nI x.1) (nI w) o (hp m)) (R := fun w x m' => Q m m' ∧ VM m' x ∧ x.1 ≤ w) (g := fun w => hLk π C s k (w / 6) (w % 6)) (fun o x w m3 hw hr => by
    obtain ⟨r1, r2, r3⟩ := hr
    have hM3 := hM.q r1
    have hS3 := hS.q r1
    obtain ⟨m4, e4, q4⟩ := m_isSeen (X := X) (a := w / 6) (b := w % 6) hM3 hS3 (by omega) (by omega)
    have q4' : Q m3 m4 := Q.ofM q4 (by decide)
    rw [u_Md_look_19, if_neg (show ¬ (36 : Int32) ≤ nI w from nI_ge (b := 36) hw (by decide)), (d6 hw).2, (d6 hw).1]
    simp only [tIs, tVs, bs, if_true, true_or, or_true, i10, if_false, not_false_eq_true, not_true_eq_false, Md_rc, Md_f1, Md_f4, Md_f5, Md_f6, Md_f9, Md_f10, Md_f11, Md_f12, Md_f14, Md_f15, Md_f18, Md_f19, Md_f20, Md_f21, Md_f23, Md_f24, Md_f25, Md_f26, Md_f28, e4]
    cases hpr : isPr π C s (w / 6) (w % 6) with
    | false =>
      have hx : hLk π C s k (w / 6) (w % 6) x = x := by unfold hLk; rw [hpr]; rfl
      refine ⟨o, m4, ?_, r1.tr q4', ?_, ?_⟩
      · rw [if_pos (show bI false = 0 from rfl), u_Md_look_99, nI_1, hx]
      · rw [hx]; intro j q hj hq; rw [q4.1.A (by decide)]; exact r2 j q hj hq
      · rw [hx]; omega
    | true =>
      have hx : hLk π C s k (w / 6) (w % 6) x = (x.1 + 1, fun j q => if j = x.1 then aOut (pqn π q (aAsk s (w / 6) (w % 6))) k else x.2 j q) := by unfold hLk; rw [hpr]; rfl
      have hab : w / 6 < π.1 ∧ w % 6 < π.1 := by
        constructor
        · rcases Nat.lt_or_ge (w / 6) π.1 with h | h
          · exact h
          · rw [isPr_out (Or.inl h)] at hpr; cases hpr
        · rcases Nat.lt_or_ge (w % 6) π.1 with h | h
          · exact h
          · rw [isPr_out (Or.inr h)] at hpr; cases hpr
      obtain ⟨m5, e5', q5, v5⟩ := n_asked0 (X := X) (a := w / 6) (b := w % 6) (hM3.q q4') (by omega) (by omega)
      obtain ⟨m6, e6, q6, w1, w2⟩ := m_row56 (X := X) (M := x.1) (w := w) hM hk hab.1 hab.2 (by omega) ((r1.tr q4').tr (Q.ofM q5 (by decide))) v5
      refine ⟨some (.int (nI 25)), m6, ?_, q6, ?_, ?_⟩
      · rw [if_neg (show ¬ bI true = 0 by decide)]
        simp only [tIs, tVs, bs, if_true, true_or, or_true, i10, if_false, not_false_eq_true, not_true_eq_false, Md_rc, Md_f1, Md_f4, Md_f5, Md_f6, Md_f9, Md_f10, Md_f11, Md_f12, Md_f14, Md_f15, Md_f18, Md_f19, Md_f20, Md_f21, Md_f23, Md_f24, Md_f25, Md_f26, Md_f28, e5']
        refine Eq.trans (b := f_Md_look_56 X 175 (nI k) (nI x.1) (nI w) (nI 0) (hp m5)) rfl ?_
        rw [e6, u_Md_look_99, nI_1, hx]
      · rw [hx]
        intro j q hj hq
        dsimp only at hj ⊢
        by_cases hjx : j = x.1
        · rw [if_pos hjx, hjx, w1 q hq]
        · rw [if_neg hjx, w2 j q hjx hq, q5.1.A (by decide), q4.1.A (by decide)]
          exact r2 j q (by omega) hq
      · rw [hx]; dsimp only; omega) 36 0 none (0, fun _ _ => 0) m2 (by omega) ⟨q2, fun j q hj => absurd hj (by dsimp only; omega), by dsimp only; omega⟩
  rw [fr_36 hn (fun a b x h => by unfold hLk; rw [isPr_out h]; rfl)] at h1 h3 h4
  have hV : fr (fun a x => fr (hLk π C s k a) π.1 0 x) π.1 0 (0, fun _ _ => 0) = hLs π C s k := rfl
  rw [hV] at h1 h3 h4
  generalize hLs π C s k = V at *
  obtain ⟨⟨o', h5⟩, h6⟩ := lg0 (n := 25) (F := fun (o : Option Value) (x : Int32 × Nat) q => f_Md_look_113 X 175 (nI k) (nI V.1) x.1 (nI x.2) (nI q) o (hp m3)) (R := fun _ x => x.2 ≤ 36) (g := gLo (gGr V)) (fun o x q hq hx => by
    have hg : gGr V q ≤ V.1 := Gr_le _
    refine ⟨⟨some (.int (nI (gGr V q))), ?_⟩, ?_⟩
    · rw [u_Md_look_113, if_neg (in_u (U := 24) rfl (show q ≤ 24 by omega) (by decide))]
      simp only [tIs, tVs, bs, if_true, true_or, or_true, i10, if_false, not_false_eq_true, not_true_eq_false, Md_rc, Md_f1, Md_f4, Md_f5, Md_f6, Md_f9, Md_f10, Md_f11, Md_f12, Md_f14, Md_f15, Md_f18, Md_f19, Md_f20, Md_f21, Md_f23, Md_f24, Md_f25, Md_f26, Md_f28, m_mostAlike (X := X) h3 h4 (show q ≤ 24 by omega) (fun j hj => hrg j q hj (by omega)), u_Md_look_142, u_Md_look_157, nI_1]
      unfold gLo
      simp only [nI_leI (show x.2 < 2 ^ 31 by omega) (show gGr V q < 2 ^ 31 by omega)]
      by_cases hl : x.2 ≤ gGr V q
      · rw [if_pos hl, if_pos hl, if_neg (by omega)]
      · rw [if_neg hl, if_neg hl, if_pos (by omega)]
    · unfold gLo
      split
      · dsimp only; omega
      · exact hx) 25 0 none (-1, V.1) (by omega) h4
  refine ⟨m3, ?_, h2⟩
  refine Eq.trans (b := f_Md_look_19 X 175 (nI k) (nI 0) (nI 0) none (hp m2)) rfl ?_
  rw [show f_Md_look_19 X 175 (nI k) (nI 0) (nI 0) none (hp m2) = _ from h1, u_Md_look_19, if_pos (by decide)]
  refine Eq.trans (b := f_Md_look_113 X 175 (nI k) (nI V.1) (-1) (nI V.1) (nI 0) none (hp m3)) rfl ?_
  rw [show f_Md_look_113 X 175 (nI k) (nI V.1) (-1) (nI V.1) (nI 0) none (hp m3) = _ from h5, u_Md_look_113, if_pos (by decide)]
theorem q_look (hC : HC m P π s) (hM : HM m π s c) (hS : SN m π.1 C) (p : Int32) : Ag X m_Wp_look m_Md_look [.int p] m := by
  have hn := hC.n6
  rcases prs p hn with ⟨k, hk, rfl⟩ | hb
  · exact Ag.mk _ (w_look hC hS hM.2.2.1 hM.2.2.2 hk) (fun m1 hq => m_look (hM.q hq) (hS.q hq) hn hk)
  · refine Ag.mk (-1) ⟨m, ?_, Q.rf⟩ (fun m1 hq => ?_)
    · rw [e_Wp_look, u_Wp_look_0]
      simp only [tIs, tVs, bs, if_true, true_or, or_true, i10, if_false, not_false_eq_true, not_true_eq_false, Wp_rc, Wp_f5, Wp_f6, Wp_f7, Wp_f8, Wp_f9, Wp_f10, Wp_f11, Wp_f12, Wp_f13, Wp_f14, w_isP0 hC hb]
    · obtain ⟨m2, e2, q2⟩ := m_t0 (m := m1)
      refine ⟨m2, ?_, q2⟩
      rw [e_Md_look, u_Md_look_0]
      simp only [tIs, tVs, bs, if_true, true_or, or_true, i10, if_false, not_false_eq_true, not_true_eq_false, Md_rc, Md_f1, Md_f4, Md_f5, Md_f6, Md_f9, Md_f10, Md_f11, Md_f12, Md_f14, Md_f15, Md_f18, Md_f19, Md_f20, Md_f21, Md_f23, Md_f24, Md_f25, Md_f26, Md_f28, e2, m_isP0 (hM.q (hq.tr q2)).1 hb]
end QE
