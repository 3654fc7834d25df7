/-! judged, count, rests. -/
/-- lines of a day: what is done, who, whom or how many -/
abbrev aD : Type := Nat × (Nat → Nat × Nat × Nat)
def isDa (a : Nat) : Prop := pm_T[a]? = some (.inr (1, [(2, a + 1), (2, a + 2), (2, a + 3), (0, 0)])) ∧ pm_T[a + 1]? = some (.inl (1, 40)) ∧ pm_T[a + 2]? = some (.inl (1, 40)) ∧ pm_T[a + 3]? = some (.inl (1, 40))
theorem isDa_27 : isDa 27 := ⟨rfl, rfl, rfl, rfl⟩
theorem isDa_31 : isDa 31 := ⟨rfl, rfl, rfl, rfl⟩
def lnC (k p v : Int32) (x : Nat × Nat × Nat) : Prop := p = nI x.2.1 ∧ ((x.1 = 0 ∧ k = 0 ∧ v = nI x.2.2) ∨ (x.1 = 1 ∧ k = 1 ∧ v = nI x.2.2) ∨ (x.1 = 2 ∧ k = 1 ∧ v = -nI x.2.2) ∨ (x.1 = 3 ∧ k = 2))
def okL (n : Nat) (x : Nat × Nat × Nat) : Prop := (x.1 = 0 ∧ x.2.1 < n ∧ x.2.2 < n) ∨ ((x.1 = 1 ∨ x.1 = 2) ∧ x.2.1 < n) ∨ x.1 = 3
def DN (m : pm_M) (n : Nat) (a : Nat) (D : aD) : Prop := gR m 0 3 = a ∧ (a = 27 ∨ a = 31) ∧ D.1 ≤ 40 ∧ gI m a 3 = nI D.1 ∧ gA m 186 0 = nI D.1 ∧ ∀ i, i < D.1 → lnC (gA m (a + 1) i) (gA m (a + 2) i) (gA m (a + 3) i) (D.2 i) ∧ gA m 186 (1 + 3 * i) = nI (D.2 i).1 ∧ gA m 186 (2 + 3 * i) = nI (D.2 i).2.1 ∧ gA m 186 (3 + 3 * i) = nI (D.2 i).2.2 ∧ okL n (D.2 i)
def aLn (π : aP) (x : Nat × Nat × Nat) (t : aS) : aS := if x.1 = 0 then aAsk t x.2.1 x.2.2 else if x.1 = 1 then aMov t x.2.1 (nI x.2.2) else if x.1 = 2 then aMov t x.2.1 (-nI x.2.2) else (aPQ π t).1
theorem DN.q {m m' : pm_M} {n a : Nat} {D : aD} (h : DN m n a D) (hq : Q m m') : DN m' n a D := by
  obtain ⟨h1, h2, h3, h4, h5, h6⟩ := h
  have e0 : gI m' a 3 = gI m a 3 := by rcases h2 with rfl | rfl <;> exact hq.1.I (by decide)
  have e1 : gA m' (a + 1) = gA m (a + 1) := by rcases h2 with rfl | rfl <;> exact hq.1.A (by decide)
  have e2 : gA m' (a + 2) = gA m (a + 2) := by rcases h2 with rfl | rfl <;> exact hq.1.A (by decide)
  have e3 : gA m' (a + 3) = gA m (a + 3) := by rcases h2 with rfl | rfl <;> exact hq.1.A (by decide)
  have e4 : gA m' 186 = gA m 186 := hq.1.A (by decide)
  exact ⟨by rw [hq.1.R (by decide)]; exact h1, h2, h3, by rw [e0]; exact h4, by rw [e4]; exact h5, by rw [e1, e2, e3, e4]; exact h6⟩
/-- how it begins -/
def BGm (m : pm_M) (n : Nat) (b : aS) : Prop := (∀ k, k < n → gA m 181 (2 + 4 * k + 1) = b.2.1 k ∧ ((gA m 181 (2 + 4 * k + 3) < 0 ∧ b.1 k = 0) ∨ (0 ≤ gA m 181 (2 + 4 * k + 3) ∧ b.1 k = gA m 181 (2 + 4 * k + 3)))) ∧ (∀ k, n ≤ k → b.1 k = 0 ∧ b.2.1 k = 0) ∧ b.2.2.1 = (fun _ => 0) ∧ b.2.2.2 = 0
def BG (m : pm_M) (P n : Nat) (b : aS) : Prop := vw m (P + 8) = b ∧ okS n 0 b ∧ BGm m n b
theorem BG.q {m m' : pm_M} {P n : Nat} {b : aS} (h : BG m P n b) (hP : P = 3 ∨ P = 15) (hq : Q m m') : BG m' P n b := by
  obtain ⟨h1, h2, h3⟩ := h
  refine ⟨by rw [← h1]; exact vw_same hq.1 (by rcases hP with rfl | rfl <;> decide), h2, ?_⟩
  unfold BGm
  rw [hq.1.A (show 181 ∉ scrL by decide)]
  exact h3
section QJ
variable {m : pm_M} {X : pv_X} {P c a : Nat} {π : aP} {s b t : aS} {C T : aC} {D : aD}
theorem m_starts {B : Nat} {vB : Int32} {n : Nat} (hvB : vB = nI B) (hB : B + 19 ≤ 1173) (hn : n ≤ 6) (h0 : gA m 181 0 = nI n) (hb : BGm m n b) : ∃ m', pM X m_Md_starts [.ref 175, .int vB] (hp m) = some (none, hp m') ∧ SameM B m m' ∧ vm m' B = b := by
  obtain ⟨b1, b2, b3, b4⟩ := hb
  rw [e_Md_starts, u_Md_starts_0, hvB]
  obtain ⟨m1, h1, h2, h3⟩ := lpi (n := 19) (F := fun (_ : Unit) k m => f_Md_starts_2 X 175 (nI B) (nI k) (hp m)) (R := fun k _ m' => SameM B m m' ∧ ∀ i, B ≤ i → i < B + k → gA m' 189 i = 0) (g := fun _ u => u) (fun _ k m1 hk hr => by
    refine ⟨_, ?_, hr.1.tr (SameM.put (k := B + k) (x := 0) (by omega) (by omega)), fun i hi hi' => ?_⟩
    · rw [u_Md_starts_2, if_neg (show ¬ (19 : Int32) ≤ nI k from nI_ge (b := 19) hk (by decide))]
      simp only [tIs, tVs, bs, if_true, true_or, or_true, i10, if_false, not_false_eq_true, not_true_eq_false, Md_rc, Md_f1, Md_f4, Md_f5, Md_f6, Md_f9, Md_f10, Md_f11, Md_f12, Md_f14, Md_f15, Md_f18, Md_f19, Md_f20, Md_f21, Md_f23, Md_f24, Md_f25, Md_f26, Md_f28]
      rw [nI_add, st_189 (by omega)]
      simp only [tIs, tVs, bs, if_true, true_or, or_true, i10, if_false, not_false_eq_true, not_true_eq_false, Md_rc, Md_f1, Md_f4, Md_f5, Md_f6, Md_f9, Md_f10, Md_f11, Md_f12, Md_f14, Md_f15, Md_f18, Md_f19, Md_f20, Md_f21, Md_f23, Md_f24, Md_f25, Md_f26, Md_f28, nI_1]
    · rw [gA_sA, if_pos rfl]
      by_cases h : i = B + k
      · rw [h, pk_us]
      · rw [pk_un h]; exact hr.2 i hi (by omega)) 19 0 () m (by omega) ⟨SameM.rf, fun i _ hi => by omega⟩
  have z : vm m1 B = (fun _ => 0, fun _ => 0, fun _ => 0, 0) := by
    unfold vm
    rw [show nr (fun k => gA m1 189 (B + 7 + k)) = fun _ => 0 from funext (fun k => by unfold nr; split; exact h3 _ (by omega) (by omega); rfl), show nr (fun k => gA m1 189 (B + 1 + k)) = fun _ => 0 from funext (fun k => by unfold nr; split; exact h3 _ (by omega) (by omega); rfl), show nr (fun k => gA m1 189 (B + 13 + k)) = fun _ => 0 from funext (fun k => by unfold nr; split; exact h3 _ (by omega) (by omega); rfl), h3 B (by omega) (by omega)]
  have cut : ∀ (f : Nat → Int32) (p : Nat), upd (fun k => if k < p then f k else 0) p (f p) = fun k => if k < p + 1 then f k else 0 := by
    intro f p
    funext k
    by_cases h : k = p
    · subst h; rw [pk_us, if_pos (by omega)]
    · rw [pk_un h]
      by_cases h' : k < p
      · rw [if_pos h', if_pos (by omega)]
      · rw [if_neg h', if_neg (by omega)]
  obtain ⟨m2, g1, g2, g3⟩ := lpi (n := n) (F := fun (_ : Unit) p m => f_Md_starts_25 X 175 (nI B) (nI p) (hp m)) (R := fun p _ m' => SameM B m m' ∧ vm m' B = (fun k => if k < p then b.1 k else 0, fun k => if k < p then b.2.1 k else 0, fun _ => 0, 0)) (g := fun _ u => u) (fun _ p m3 hp' hr => by
    obtain ⟨r1, r2⟩ := hr
    have e181 : gA m3 181 = gA m 181 := r1.1.A (by decide)
    obtain ⟨c1, c2⟩ := b1 p hp'
    have key : ∀ (m4 : pm_M) (x : Int32), x = b.1 p → SameM B m m4 → vm m4 B = (fun k => if k < p then b.1 k else 0, fun k => if k < p + 1 then b.2.1 k else 0, fun _ => 0, 0) → ∃ m', f_Md_starts_78 X 175 (nI B) (nI p) x (nI (B + 7 + p)) 189 (hp m4) = f_Md_starts_25 X 175 (nI B) (nI (p + 1)) (hp m') ∧ SameM B m m' ∧ vm m' B = (fun k => if k < p + 1 then b.1 k else 0, fun k => if k < p + 1 then b.2.1 k else 0, fun _ => 0, 0) := by
      intro m4 x hx s4 v4
      refine ⟨sA m4 189 (upd (gA m4 189) (B + 7 + p) x), ?_, s4.tr (SameM.put (by omega) (by omega)), ?_⟩
      · rw [u_Md_starts_78, st_189 (by omega)]
        simp only [tIs, tVs, bs, if_true, true_or, or_true, i10, if_false, not_false_eq_true, not_true_eq_false, Md_rc, Md_f1, Md_f4, Md_f5, Md_f6, Md_f9, Md_f10, Md_f11, Md_f12, Md_f14, Md_f15, Md_f18, Md_f19, Md_f20, Md_f21, Md_f23, Md_f24, Md_f25, Md_f26, Md_f28, nI_1]
      · rw [vm_t (by omega), v4, hx, ← cut b.1 p]
    have s4 : SameM B m (sA m3 189 (upd (gA m3 189) (B + 1 + p) (b.2.1 p))) := r1.tr (SameM.put (by omega) (by omega))
    have v4 : vm (sA m3 189 (upd (gA m3 189) (B + 1 + p) (b.2.1 p))) B = (fun k => if k < p then b.1 k else 0, fun k => if k < p + 1 then b.2.1 k else 0, fun _ => 0, 0) := by
      rw [vm_b (by omega), r2, ← cut b.2.1 p]
    have st := st_189 (m := m3) (k := B + 1 + p) (x := b.2.1 p) (by omega)
    generalize sA m3 189 (upd (gA m3 189) (B + 1 + p) (b.2.1 p)) = m4 at s4 v4 st
    have e4 : gA m4 181 = gA m 181 := s4.1.A (by decide)
    rw [u_Md_starts_25, d_persons, e181, h0]
    simp only [tIs, tVs, bs, if_true, true_or, or_true, i10, if_false, not_false_eq_true, not_true_eq_false, Md_rc, Md_f1, Md_f4, Md_f5, Md_f6, Md_f9, Md_f10, Md_f11, Md_f12, Md_f14, Md_f15, Md_f18, Md_f19, Md_f20, Md_f21, Md_f23, Md_f24, Md_f25, Md_f26, Md_f28]
    rw [if_neg (nI_ge hp' (by omega)), show (1 : Int32) = nI 1 from rfl, d_personOf (by omega) (by decide), e181, c1]
    simp only [tIs, tVs, bs, if_true, true_or, or_true, i10, if_false, not_false_eq_true, not_true_eq_false, Md_rc, Md_f1, Md_f4, Md_f5, Md_f6, Md_f9, Md_f10, Md_f11, Md_f12, Md_f14, Md_f15, Md_f18, Md_f19, Md_f20, Md_f21, Md_f23, Md_f24, Md_f25, Md_f26, Md_f28]
    rw [nI_add, nI_add, st]
    simp only [tIs, tVs, bs, if_true, true_or, or_true, i10, if_false, not_false_eq_true, not_true_eq_false, Md_rc, Md_f1, Md_f4, Md_f5, Md_f6, Md_f9, Md_f10, Md_f11, Md_f12, Md_f14, Md_f15, Md_f18, Md_f19, Md_f20, Md_f21, Md_f23, Md_f24, Md_f25, Md_f26, Md_f28]
    rw [show (3 : Int32) = nI 3 from rfl, d_personOf (by omega) (by decide), e4, show (7 : Int32) = nI 7 from rfl, nI_add, nI_add]
    simp only [tIs, tVs, bs, if_true, true_or, or_true, i10, if_false, not_false_eq_true, not_true_eq_false, Md_rc, Md_f1, Md_f4, Md_f5, Md_f6, Md_f9, Md_f10, Md_f11, Md_f12, Md_f14, Md_f15, Md_f18, Md_f19, Md_f20, Md_f21, Md_f23, Md_f24, Md_f25, Md_f26, Md_f28]
    rcases c2 with ⟨c2, c3⟩ | ⟨c2, c3⟩
    · have : ¬ (0 : Int32) ≤ gA m 181 (2 + 4 * p + 3) := by
        rw [Int32.lt_iff_toInt_lt] at c2
        rw [Int32.le_iff_toInt_le]
        omega
      rw [if_neg this]
      exact key m4 0 c3.symm s4 v4
    · rw [if_pos c2, d_personOf (by omega) (by decide), e4]
      simp only [tIs, tVs, bs, if_true, true_or, or_true, i10, if_false, not_false_eq_true, not_true_eq_false, Md_rc, Md_f1, Md_f4, Md_f5, Md_f6, Md_f9, Md_f10, Md_f11, Md_f12, Md_f14, Md_f15, Md_f18, Md_f19, Md_f20, Md_f21, Md_f23, Md_f24, Md_f25, Md_f26, Md_f28]
      exact key m4 _ c3.symm s4 v4) n 0 () m1 (by omega) ⟨h2, by rw [z]; rfl⟩
  refine ⟨m2, ?_, g2, ?_⟩
  · refine Eq.trans (b := f_Md_starts_2 X 175 (nI B) (nI 0) (hp m)) rfl ?_
    rw [h1, u_Md_starts_2, if_pos (by decide)]
    refine Eq.trans (b := f_Md_starts_25 X 175 (nI B) (nI 0) (hp m1)) rfl ?_
    rw [g1, u_Md_starts_25, d_persons, g2.1.A (show 181 ∉ _ by decide), h0]
    simp only [tIs, tVs, bs, if_true, true_or, or_true, i10, if_false, not_false_eq_true, not_true_eq_false, Md_rc, Md_f1, Md_f4, Md_f5, Md_f6, Md_f9, Md_f10, Md_f11, Md_f12, Md_f14, Md_f15, Md_f18, Md_f19, Md_f20, Md_f21, Md_f23, Md_f24, Md_f25, Md_f26, Md_f28]
    rw [if_pos (nI_le (Nat.le_refl _) (by omega))]
  · rw [g3]
    refine Prod.ext ?_ (Prod.ext ?_ (Prod.ext ?_ ?_))
    · funext k
      dsimp only
      by_cases h : k < n
      · rw [if_pos h]
      · rw [if_neg h, (b2 k (by omega)).1]
    · funext k
      dsimp only
      by_cases h : k < n
      · rw [if_pos h]
      · rw [if_neg h, (b2 k (by omega)).2]
    · exact b3.symm
    · exact b4.symm
theorem okS_aLn {x : Nat × Nat × Nat} (hπ : okA π) (hx : okL π.1 x) (ok : okS π.1 c t) : okS π.1 (c + 1) (aLn π x t) := by
  have up : ∀ {u : aS}, okS π.1 c u → okS π.1 (c + 1) u := fun h => ⟨h.1, h.2.1, by obtain ⟨q, h1, h2⟩ := h.2.2; exact ⟨q, by omega, h2⟩⟩
  unfold aLn
  rcases hx with ⟨h1, h2, h3⟩ | ⟨h1, h2⟩ | h1
  · rw [if_pos h1]; exact up (okS_ask ok h3)
  · rw [if_neg (by omega)]
    split
    · exact up (okS_mov ok)
    · rw [if_pos (by omega)]; exact up (okS_mov ok)
  · rw [if_neg (by omega), if_neg (by omega), if_neg (by omega)]; exact okS_aPQ hπ ok
theorem isDa_or (h : a = 27 ∨ a = 31) : isDa a := by rcases h with rfl | rfl; exact isDa_27; exact isDa_31
theorem w_doLine {i : Nat} (hC : HC m P π s) (hD : DN m π.1 a D) (hi : i < D.1) (hv : vw m 39 = t) : ∃ m', pM X m_Da_doLine [.ref a, .int (nI i), .ref P, .ref 39] (hp m) = some (none, hp m') ∧ Same TL m m' ∧ vw m' 39 = aLn π (D.2 i) t := by
  have hn := hC.n6
  obtain ⟨d1, d2, d3, d4, d5, d6⟩ := hD
  have hda := isDa_or d2
  obtain ⟨⟨l1, l2⟩, -, -, -, l6⟩ := d6 i hi
  have f0 : pv_fR (hp m) a 1 0 = some (a + 1) := hp_fR hda.1 rfl
  have f1 : pv_fR (hp m) a 1 1 = some (a + 2) := hp_fR hda.1 rfl
  have f2 : pv_fR (hp m) a 1 2 = some (a + 3) := hp_fR hda.1 rfl
  have f3 : pv_fI (hp m) a 1 3 = some (gI m a 3) := hp_fI hda.1 rfl
  have a1 : pv_aX X (hp m) (a + 1) (nI i) = some (gA m (a + 1) i) := ar_ld hda.2.1 (by omega) (by decide)
  have a2 : pv_aX X (hp m) (a + 2) (nI i) = some (gA m (a + 2) i) := ar_ld hda.2.2.1 (by omega) (by decide)
  have a3 : pv_aX X (hp m) (a + 3) (nI i) = some (gA m (a + 3) i) := ar_ld hda.2.2.2 (by omega) (by decide)
  rw [e_Da_doLine, u_Da_doLine_0, if_neg (nI_pos (by omega)), f3, d4]
  simp only [tIs, tVs, bs, if_true, true_or, or_true, i10, if_false, not_false_eq_true, not_true_eq_false]
  rw [if_pos (nI_lt hi (by omega)), f0]
  simp only [tIs, tVs, bs, if_true, true_or, or_true, i10, if_false, not_false_eq_true, not_true_eq_false]
  rw [a1]
  simp only [tIs, tVs, bs, if_true, true_or, or_true, i10, if_false, not_false_eq_true, not_true_eq_false, f1, f2, a2, a3, l1, St_rc isSt_39, u_Da_doLine_88]
  unfold aLn
  rcases l2 with ⟨k1, k2, k3⟩ | ⟨k1, k2, k3⟩ | ⟨k1, k2, k3⟩ | ⟨k1, k2⟩
  · rcases l6 with ⟨_, h2, h3⟩ | ⟨h1, _⟩ | h1
    · obtain ⟨m', e, q, v⟩ := t_take (X := X) (k := (D.2 i).2.1) (o := (D.2 i).2.2) hv (by omega) (by omega)
      refine ⟨m', ?_, q, by rw [if_pos k1]; exact v⟩
      rw [k2, k3, if_pos rfl, e]
      simp only [tIs, tVs, bs, if_true, true_or, or_true, i10, if_false, not_false_eq_true, not_true_eq_false]
    · omega
    · omega
  · rcases l6 with ⟨h1, _, _⟩ | ⟨_, h2⟩ | h1
    · omega
    · obtain ⟨m', e, q, v⟩ := t_move (X := X) (k := (D.2 i).2.1) (v := nI (D.2 i).2.2) hv (by omega)
      refine ⟨m', ?_, q, by rw [if_neg (by omega), if_pos k1]; exact v⟩
      rw [k2, k3, if_neg (by decide), if_pos rfl, e]
      simp only [tIs, tVs, bs, if_true, true_or, or_true, i10, if_false, not_false_eq_true, not_true_eq_false]
    · omega
  · rcases l6 with ⟨h1, _, _⟩ | ⟨_, h2⟩ | h1
    · omega
    · obtain ⟨m', e, q, v⟩ := t_move (X := X) (k := (D.2 i).2.1) (v := -nI (D.2 i).2.2) hv (by omega)
      refine ⟨m', ?_, q, by rw [if_neg (by omega), if_neg (by omega), if_pos k1]; exact v⟩
      rw [k2, k3, if_neg (by decide), if_pos rfl, e]
      simp only [tIs, tVs, bs, if_true, true_or, or_true, i10, if_false, not_false_eq_true, not_true_eq_false]
    · omega
  · obtain ⟨m', e, q, v⟩ := t_pass (X := X) hC hv
    refine ⟨m', ?_, q, by rw [if_neg (by omega), if_neg (by omega), if_neg (by omega)]; exact v⟩
    rw [k2, if_neg (by decide), if_neg (by decide), hC.rc, if_pos rfl, e]
    simp only [tIs, tVs, bs, if_true, true_or, or_true, i10, if_false, not_false_eq_true, not_true_eq_false]
def gJu (π : aP) (D : aD) (i : Nat) (x : aS × Int32) : aS × Int32 := (aLn π (D.2 i) x.1, if x.2 = -1 then (if aWx π.1 (aLn π (D.2 i) x.1) < 60 then -1 else nI i) else x.2)
def aJu (π : aP) (D : aD) (b : aS) : aS × Int32 := fr (gJu π D) D.1 0 (b, -1)
theorem okS_aJu (hπ : okA π) (hL : ∀ i, i < D.1 → okL π.1 (D.2 i)) (ok : okS π.1 0 b) : okS π.1 D.1 (aJu π D b).1 := fr_inv (n := D.1) (R := fun i (x : aS × Int32) => okS π.1 i x.1) (g := gJu π D) (fun i x hi h => okS_aLn hπ (hL i hi) h) D.1 0 (b, -1) (by omega) ok
theorem w_judged {q : Nat} (hC : HC m P π s) (hD : DN m π.1 a D) (hB : BG m P π.1 b) (hq : q ≤ 2) : Gi X m_Wp_judged [.ref 0, .int (nI q)] m (if q = 0 then (aJu π D b).2 else if q = 1 then aWx π.1 (aJu π D b).1 else sm π.1 (aJu π D b).1.2.2.1) := by
  have hn := hC.n6
  have hst : isSt (P + 8) := hC.po.2.2.2.2.2.2
  have hl := hC.lt
  obtain ⟨m1, e1, v1, q1⟩ := s_copy (X := X) (m := m) (a := 39) (b := P + 8) isSt_39 hst (by omega)
  have q1' : Same TL m m1 := q1.mono (by decide)
  rw [hB.1] at v1
  obtain ⟨-, m', h1, h2, h3, -⟩ := lg (n := D.1) (F := fun (_ : Unit) (x : aS × Int32) i m => f_Wp_judged_30 X 0 (nI q) x.2 (nI i) (hp m)) (R := fun i x m' => Same TL m m' ∧ vw m' 39 = x.1 ∧ (x.2 = -1 ∨ ∃ j, j < 40 ∧ x.2 = nI j)) (g := gJu π D) (fun _ x i m2 hi hr => by
    obtain ⟨r1, r2, r3⟩ := hr
    have hC2 := hC.q (TL_Q r1)
    have hD2 := hD.q (TL_Q r1)
    have h40 := hD.2.2.1
    obtain ⟨m3, e3, q3, v3⟩ := w_doLine (X := X) hC2 hD2 hi r2
    have hC3 := hC2.q (TL_Q q3)
    refine ⟨(), m3, ?_, r1.tr q3, v3, ?_⟩
    · rw [u_Wp_judged_30]
      simp only [tIs, tVs, bs, if_true, true_or, or_true, i10, if_false, not_false_eq_true, not_true_eq_false, Wp_rc, Wp_f5, Wp_f6, Wp_f7, Wp_f8, Wp_f9, Wp_f10, Wp_f11, Wp_f12, Wp_f13, Wp_f14, Wp_f3, hD2.1]
      rw [hp_fI (isDa_or hD2.2.1).1 rfl, hD2.2.2.2.1]
      simp only [tIs, tVs, bs, if_true, true_or, or_true, i10, if_false, not_false_eq_true, not_true_eq_false, Wp_rc, Wp_f5, Wp_f6, Wp_f7, Wp_f8, Wp_f9, Wp_f10, Wp_f11, Wp_f12, Wp_f13, Wp_f14]
      rw [if_neg (nI_ge hi (by omega))]
      simp only [tIs, tVs, bs, if_true, true_or, or_true, i10, if_false, not_false_eq_true, not_true_eq_false, Wp_rc, Wp_f5, Wp_f6, Wp_f7, Wp_f8, Wp_f9, Wp_f10, Wp_f11, Wp_f12, Wp_f13, Wp_f14, hC2.f1, hp_rc (isDa_or hD2.2.1).1, e3, u_Wp_judged_77, nI_1, w_worstOut (X := X) hC3 isSt_39 v3]
      unfold gJu
      dsimp only
      by_cases hx : x.2 = -1
      · rw [if_neg (fun z => z hx), if_pos hx]
        split
        · rw [hx]
        · rfl
      · rw [if_pos hx, if_neg hx]
    · unfold gJu
      dsimp only
      by_cases hx : x.2 = -1
      · rw [if_pos hx]
        split
        · exact Or.inl rfl
        · exact Or.inr ⟨i, by omega, rfl⟩
      · rw [if_neg hx]; exact r3) D.1 0 () (b, -1) m1 (by omega) ⟨q1', v1, Or.inl rfl⟩
  have hT : fr (gJu π D) D.1 0 (b, -1) = aJu π D b := rfl
  rw [hT] at h1 h3
  have hC' := hC.q (TL_Q h2)
  have hD' := hD.q (TL_Q h2)
  refine ⟨m', ?_, TL_Q h2⟩
  rw [e_Wp_judged, u_Wp_judged_0]
  simp only [tIs, tVs, bs, if_true, true_or, or_true, i10, if_false, not_false_eq_true, not_true_eq_false, Wp_rc, Wp_f5, Wp_f6, Wp_f7, Wp_f8, Wp_f9, Wp_f10, Wp_f11, Wp_f12, Wp_f13, Wp_f14, w_in1 (in_l (L := 0) rfl (Nat.zero_le q) (by omega)) (in_u (U := 2) rfl hq (by decide)), hC.f1, Po_f5 hC.po, St_rc isSt_39, e1]
  refine Eq.trans (b := f_Wp_judged_30 X 0 (nI q) (-1) (nI 0) (hp m1)) rfl ?_
  rw [show f_Wp_judged_30 X 0 (nI q) (-1) (nI 0) (hp m1) = _ from h1, u_Wp_judged_30]
  simp only [tIs, tVs, bs, if_true, true_or, or_true, i10, if_false, not_false_eq_true, not_true_eq_false, Wp_rc, Wp_f5, Wp_f6, Wp_f7, Wp_f8, Wp_f9, Wp_f10, Wp_f11, Wp_f12, Wp_f13, Wp_f14, Wp_f3, hD'.1]
  rw [hp_fI (isDa_or hD'.2.1).1 rfl, hD'.2.2.2.1]
  simp only [tIs, tVs, bs, if_true, true_or, or_true, i10, if_false, not_false_eq_true, not_true_eq_false, Wp_rc, Wp_f5, Wp_f6, Wp_f7, Wp_f8, Wp_f9, Wp_f10, Wp_f11, Wp_f12, Wp_f13, Wp_f14]
  rw [if_pos (nI_le (Nat.le_refl _) (by have := hD.2.2.1; omega))]
  simp only [w_allAsked (X := X) hC' isSt_39 h3, w_worstOut (X := X) hC' isSt_39 h3, tIs, tVs, bs, if_true, true_or, or_true, i10, if_false, not_false_eq_true, not_true_eq_false, Wp_rc, Wp_f5, Wp_f6, Wp_f7, Wp_f8, Wp_f9, Wp_f10, Wp_f11, Wp_f12, Wp_f13, Wp_f14, u_Wp_judged_113]
  have : q = 0 ∨ q = 1 ∨ q = 2 := by omega
  rcases this with rfl | rfl | rfl <;> rfl
theorem m_judged {q : Nat} (hM : HM m π s c) (hD : DN m π.1 a D) (hB : BGm m π.1 b) (ok : okS π.1 0 b) (hq : q ≤ 2) : Gi X m_Md_judged [.ref 175, .int (nI q)] m (if q = 0 then (aJu π D b).2 else if q = 1 then aWx π.1 (aJu π D b).1 else sm π.1 (aJu π D b).1.2.2.1) := by
  have hn := hM.1.1
  have hπ := RM_okA hM.1
  have h40 := hD.2.2.1
  obtain ⟨m0, e0, q0⟩ := m_t0 (m := m)
  have hB0 : BGm m0 π.1 b := by unfold BGm; rw [q0.1.A (show 181 ∉ scrL by decide)]; exact hB
  obtain ⟨m1, e1, q1, v1⟩ := m_starts (X := X) (B := 1071) (vB := 1071) rfl (by decide) hn (hM.q q0).1.2.1 hB0
  have q1' : Q m m1 := q0.tr (Q.ofM q1 (by decide))
  obtain ⟨o, m', h1, h2, h3, h4, -⟩ := lg (n := D.1) (F := fun (o : Option Value × Option Value × Option Value) (x : aS × Int32) i m => f_Md_judged_28 X 175 (nI q) x.2 (nI i) o.1 o.2.1 o.2.2 (hp m)) (R := fun i x m' => Q m m' ∧ vm m' 1071 = x.1 ∧ okS π.1 i x.1 ∧ (x.2 = -1 ∨ ∃ j, j < 40 ∧ x.2 = nI j)) (g := gJu π D) (fun o x i m2 hi hr => by
    obtain ⟨r1, r2, r3, r4⟩ := hr
    have hM2 := hM.q r1
    obtain ⟨d1, d2, d3, d4, d5, d6⟩ := hD.q r1
    obtain ⟨l1, l2, l3, l4, l5⟩ := d6 i hi
    have okt := okS_aLn hπ l5 r3
    have fin : ∀ m3, Q m2 m3 → vm m3 1071 = aLn π (D.2 i) x.1 → f_Md_judged_132 X 175 (nI q) x.2 (nI i) (nI (D.2 i).1) (nI (D.2 i).2.1) (nI (D.2 i).2.2) (hp m3) = f_Md_judged_28 X 175 (nI q) (gJu π D i x).2 (nI (i + 1)) (some (.int (nI (D.2 i).1))) (some (.int (nI (D.2 i).2.1))) (some (.int (nI (D.2 i).2.2))) (hp m3) := by
      intro m3 q3 v3
      rw [u_Md_judged_132]
      simp only [tIs, tVs, bs, if_true, true_or, or_true, i10, if_false, not_false_eq_true, not_true_eq_false, Md_rc, Md_f1, Md_f4, Md_f5, Md_f6, Md_f9, Md_f10, Md_f11, Md_f12, Md_f14, Md_f15, Md_f18, Md_f19, Md_f20, Md_f21, Md_f23, Md_f24, Md_f25, Md_f26, Md_f28, m_farOf (X := X) (B := 1071) (hM2.q q3).1 v3 okt rfl (by decide) (by omega), u_Md_judged_152, u_Md_judged_153, nI_1]
      unfold gJu
      dsimp only
      rcases r4 with hx | ⟨j, hj, hx⟩
      · rw [hx, if_neg (by decide), if_pos rfl]
        split <;> rfl
      · rw [hx, if_pos (nI_pos' (by omega)), if_neg (enc_m1 (by omega))]
    have keep : (gJu π D i x).2 = -1 ∨ ∃ j, j < 40 ∧ (gJu π D i x).2 = nI j := by
      unfold gJu
      dsimp only
      by_cases hx : x.2 = -1
      · rw [if_pos hx]
        split
        · exact Or.inl rfl
        · exact Or.inr ⟨i, by omega, rfl⟩
      · rw [if_neg hx]; exact r4
    have hd : ∃ m3, f_Md_judged_28 X 175 (nI q) x.2 (nI i) o.1 o.2.1 o.2.2 (hp m2) = f_Md_judged_132 X 175 (nI q) x.2 (nI i) (nI (D.2 i).1) (nI (D.2 i).2.1) (nI (D.2 i).2.2) (hp m3) ∧ Q m2 m3 ∧ vm m3 1071 = aLn π (D.2 i) x.1 := by
      rw [u_Md_judged_28]
      simp only [tIs, tVs, bs, if_true, true_or, or_true, i10, if_false, not_false_eq_true, not_true_eq_false, Md_rc, Md_f1, Md_f4, Md_f5, Md_f6, Md_f9, Md_f10, Md_f11, Md_f12, Md_f14, Md_f15, Md_f18, Md_f19, Md_f20, Md_f21, Md_f23, Md_f24, Md_f25, Md_f26, Md_f28]
      rw [show (0 : Int32) = nI 0 from rfl, ld_186 (by decide), d5]
      simp only [tIs, tVs, bs, if_true, true_or, or_true, i10, if_false, not_false_eq_true, not_true_eq_false, Md_rc, Md_f1, Md_f4, Md_f5, Md_f6, Md_f9, Md_f10, Md_f11, Md_f12, Md_f14, Md_f15, Md_f18, Md_f19, Md_f20, Md_f21, Md_f23, Md_f24, Md_f25, Md_f26, Md_f28]
      rw [if_neg (nI_ge hi (by omega)), show (1 + 3 * nI i : Int32) = nI (1 + 3 * i) from by rw [show (1 : Int32) = nI 1 from rfl, show (3 : Int32) = nI 3 from rfl, pk_mul, nI_add], show (2 + 3 * nI i : Int32) = nI (2 + 3 * i) from by rw [show (2 : Int32) = nI 2 from rfl, show (3 : Int32) = nI 3 from rfl, pk_mul, nI_add], show (3 + 3 * nI i : Int32) = nI (3 + 3 * i) from by rw [show (3 : Int32) = nI 3 from rfl, pk_mul, nI_add], ld_186 (by omega), l2]
      simp only [tIs, tVs, bs, if_true, true_or, or_true, i10, if_false, not_false_eq_true, not_true_eq_false, Md_rc, Md_f1, Md_f4, Md_f5, Md_f6, Md_f9, Md_f10, Md_f11, Md_f12, Md_f14, Md_f15, Md_f18, Md_f19, Md_f20, Md_f21, Md_f23, Md_f24, Md_f25, Md_f26, Md_f28]
      rw [ld_186 (by omega), l3]
      simp only [tIs, tVs, bs, if_true, true_or, or_true, i10, if_false, not_false_eq_true, not_true_eq_false, Md_rc, Md_f1, Md_f4, Md_f5, Md_f6, Md_f9, Md_f10, Md_f11, Md_f12, Md_f14, Md_f15, Md_f18, Md_f19, Md_f20, Md_f21, Md_f23, Md_f24, Md_f25, Md_f26, Md_f28]
      rw [ld_186 (by omega), l4]
      simp only [tIs, tVs, bs, if_true, true_or, or_true, i10, if_false, not_false_eq_true, not_true_eq_false, Md_rc, Md_f1, Md_f4, Md_f5, Md_f6, Md_f9, Md_f10, Md_f11, Md_f12, Md_f14, Md_f15, Md_f18, Md_f19, Md_f20, Md_f21, Md_f23, Md_f24, Md_f25, Md_f26, Md_f28, u_Md_judged_129]
      unfold aLn
      rcases l5 with ⟨k1, k2, k3⟩ | ⟨k1, k2⟩ | k1
      · obtain ⟨m3, e3, q3, v3⟩ := m_ask (X := X) (B := 1071) (k := (D.2 i).2.1) (o := (D.2 i).2.2) r2 rfl (by decide) (by decide) (by omega) (by omega)
        refine ⟨m3, ?_, q3, by rw [if_pos k1]; exact v3⟩
        rw [k1, if_neg (fun z => z rfl), e3]
        simp only [tIs, tVs, bs, if_true, true_or, or_true, i10, if_false, not_false_eq_true, not_true_eq_false, Md_rc, Md_f1, Md_f4, Md_f5, Md_f6, Md_f9, Md_f10, Md_f11, Md_f12, Md_f14, Md_f15, Md_f18, Md_f19, Md_f20, Md_f21, Md_f23, Md_f24, Md_f25, Md_f26, Md_f28]
      · rcases k1 with k1 | k1
        · obtain ⟨m3, e3, q3, v3⟩ := m_move (X := X) (B := 1071) (k := (D.2 i).2.1) (v := nI (D.2 i).2.2) r2 rfl (by decide) (by decide) (by omega)
          refine ⟨m3, ?_, q3, by rw [if_neg (by omega), if_pos k1]; exact v3⟩
          rw [k1, if_pos (by decide), if_pos (by decide), if_neg (fun z => z rfl), e3]
          simp only [tIs, tVs, bs, if_true, true_or, or_true, i10, if_false, not_false_eq_true, not_true_eq_false, Md_rc, Md_f1, Md_f4, Md_f5, Md_f6, Md_f9, Md_f10, Md_f11, Md_f12, Md_f14, Md_f15, Md_f18, Md_f19, Md_f20, Md_f21, Md_f23, Md_f24, Md_f25, Md_f26, Md_f28]
        · obtain ⟨m3, e3, q3, v3⟩ := m_move (X := X) (B := 1071) (k := (D.2 i).2.1) (v := -nI (D.2 i).2.2) r2 rfl (by decide) (by decide) (by omega)
          refine ⟨m3, ?_, q3, by rw [if_neg (by omega), if_neg (by omega), if_pos k1]; exact v3⟩
          rw [k1, if_pos (by decide), if_pos (by decide), if_pos (by decide), e3]
          simp only [tIs, tVs, bs, if_true, true_or, or_true, i10, if_false, not_false_eq_true, not_true_eq_false, Md_rc, Md_f1, Md_f4, Md_f5, Md_f6, Md_f9, Md_f10, Md_f11, Md_f12, Md_f14, Md_f15, Md_f18, Md_f19, Md_f20, Md_f21, Md_f23, Md_f24, Md_f25, Md_f26, Md_f28]
      · obtain ⟨m3, e3, q3, v3⟩ := m_pass (X := X) (B := 1071) hM2.1 r2 r3 rfl (by decide) (by decide) (by omega)
        refine ⟨m3, ?_, q3, by rw [if_neg (by omega), if_neg (by omega), if_neg (by omega)]; exact v3⟩
        rw [k1, if_pos (by decide), if_neg (fun z => z rfl), e3]
        simp only [tIs, tVs, bs, if_true, true_or, or_true, i10, if_false, not_false_eq_true, not_true_eq_false, Md_rc, Md_f1, Md_f4, Md_f5, Md_f6, Md_f9, Md_f10, Md_f11, Md_f12, Md_f14, Md_f15, Md_f18, Md_f19, Md_f20, Md_f21, Md_f23, Md_f24, Md_f25, Md_f26, Md_f28]
    obtain ⟨m3, e3, q3, v3⟩ := hd
    exact ⟨(some (.int (nI (D.2 i).1)), some (.int (nI (D.2 i).2.1)), some (.int (nI (D.2 i).2.2))), m3, by rw [e3, fin m3 q3 v3], r1.tr q3, v3, okt, keep⟩) D.1 0 (none, none, none) (b, -1) m1 (by omega) ⟨q1', v1, ok, Or.inl rfl⟩
  have hT : fr (gJu π D) D.1 0 (b, -1) = aJu π D b := rfl
  rw [hT] at h1 h3 h4
  have hM' := hM.q h2
  have hD' := hD.q h2
  refine ⟨m', ?_, h2⟩
  rw [e_Md_judged, u_Md_judged_0, e0]
  simp only [tIs, tVs, bs, if_true, true_or, or_true, i10, if_false, not_false_eq_true, not_true_eq_false, Md_rc, Md_f1, Md_f4, Md_f5, Md_f6, Md_f9, Md_f10, Md_f11, Md_f12, Md_f14, Md_f15, Md_f18, Md_f19, Md_f20, Md_f21, Md_f23, Md_f24, Md_f25, Md_f26, Md_f28, m_in1 (in_l (L := 0) rfl (Nat.zero_le q) (by omega)) (in_u (U := 2) rfl hq (by decide)), e1]
  refine Eq.trans (b := f_Md_judged_28 X 175 (nI q) (-1) (nI 0) none none none (hp m1)) rfl ?_
  rw [show f_Md_judged_28 X 175 (nI q) (-1) (nI 0) none none none (hp m1) = _ from h1, u_Md_judged_28]
  simp only [tIs, tVs, bs, if_true, true_or, or_true, i10, if_false, not_false_eq_true, not_true_eq_false, Md_rc, Md_f1, Md_f4, Md_f5, Md_f6, Md_f9, Md_f10, Md_f11, Md_f12, Md_f14, Md_f15, Md_f18, Md_f19, Md_f20, Md_f21, Md_f23, Md_f24, Md_f25, Md_f26, Md_f28]
  rw [show pv_aX X (hp m') 186 0 = some (nI D.1) from by rw [show (0 : Int32) = nI 0 from rfl, ld_186 (by decide), hD'.2.2.2.2.1]]
  simp only [tIs, tVs, bs, if_true, true_or, or_true, i10, if_false, not_false_eq_true, not_true_eq_false, Md_rc, Md_f1, Md_f4, Md_f5, Md_f6, Md_f9, Md_f10, Md_f11, Md_f12, Md_f14, Md_f15, Md_f18, Md_f19, Md_f20, Md_f21, Md_f23, Md_f24, Md_f25, Md_f26, Md_f28]
  rw [if_pos (nI_le (Nat.le_refl _) (by omega))]
  simp only [m_farOf (X := X) (B := 1071) hM'.1 h3 h4 rfl (by decide) (by omega), m_sumOf (X := X) (W := 1084) (w := 1084) (f := (aJu π D b).1.2.2.1) hM'.1 rfl (by decide) (fun k hk => vm_i13 (b := 1071) h3 (show k < 6 by omega)), tIs, tVs, bs, if_true, true_or, or_true, i10, if_false, not_false_eq_true, not_true_eq_false, Md_rc, Md_f1, Md_f4, Md_f5, Md_f6, Md_f9, Md_f10, Md_f11, Md_f12, Md_f14, Md_f15, Md_f18, Md_f19, Md_f20, Md_f21, Md_f23, Md_f24, Md_f25, Md_f26, Md_f28, u_Md_judged_190]
  have : q = 0 ∨ q = 1 ∨ q = 2 := by omega
  rcases this with rfl | rfl | rfl <;> rfl
theorem q_judged (hC : HC m P π s) (hM : HM m π s c) (hD : DN m π.1 a D) (hB : BG m P π.1 b) (v : Int32) : Ag X m_Wp_judged m_Md_judged [.int v] m := by
  rcases wthL v (L := 0) (U := 2) (l := 0) (u := 2) rfl rfl (by decide) (by decide) with ⟨q, h0, h1, rfl⟩ | hb
  · exact Ag.mk _ (w_judged hC hD hB h1) (fun m1 hq => m_judged (hM.q hq) (hD.q hq) (hB.q hC.2.1 hq).2.2 hB.2.1 h1)
  · refine Ag.mk (-2) ⟨m, ?_, Q.rf⟩ (fun m1 hq => ?_)
    · rw [e_Wp_judged, u_Wp_judged_0]
      simp only [tIs, tVs, bs, if_true, true_or, or_true, i10, if_false, not_false_eq_true, not_true_eq_false, Wp_rc, Wp_f5, Wp_f6, Wp_f7, Wp_f8, Wp_f9, Wp_f10, Wp_f11, Wp_f12, Wp_f13, Wp_f14, w_in0 hb]
    · obtain ⟨m2, e2, q2⟩ := m_t0 (m := m1)
      refine ⟨m2, ?_, q2⟩
      rw [e_Md_judged, u_Md_judged_0]
      simp only [tIs, tVs, bs, if_true, true_or, or_true, i10, if_false, not_false_eq_true, not_true_eq_false, Md_rc, Md_f1, Md_f4, Md_f5, Md_f6, Md_f9, Md_f10, Md_f11, Md_f12, Md_f14, Md_f15, Md_f18, Md_f19, Md_f20, Md_f21, Md_f23, Md_f24, Md_f25, Md_f26, Md_f28, e2, m_in0 hb]
/-! count -/
theorem ite_out {p : Prop} [Decidable p] {x y : Int32} {h : pv_H} : (some (some (Value.int (if p then x else y)), h) : Option pv_O) = if p then some (some (.int x), h) else some (some (.int y), h) := by split <;> rfl
def isOf (s : aS) (k : Nat) : Bool := !decide (aOut s k = 0)
theorem w_whoIsOut (hC : HC m P π s) : pM X m_Wp_whoIsOut [.ref 0] (hp m) = some (some (.int (bts π.1 (isOf s))), hp m) := by
  have hn := hC.n6
  obtain ⟨⟨-, h1⟩, -⟩ := lg0 (n := π.1) (F := fun (_ : Unit) (x : Int32) i => f_Wp_whoIsOut_4 X 0 x (nI i) (hp m)) (R := fun _ _ => True) (g := fun i v => if isOf s i then v ||| ((1 : Int32) <<< (nI i &&& 31)) else v) (fun _ x i hi _ => by
    refine ⟨⟨(), ?_⟩, trivial⟩
    rw [u_Wp_whoIsOut_4]
    simp only [tIs, tVs, bs, if_true, true_or, or_true, i10, if_false, not_false_eq_true, not_true_eq_false, Wp_rc, Wp_f5, Wp_f6, Wp_f7, Wp_f8, Wp_f9, Wp_f10, Wp_f11, Wp_f12, Wp_f13, Wp_f14, hC.f1, hC.sz]
    rw [if_neg (nI_ge hi (by omega))]
    simp only [tIs, tVs, bs, if_true, true_or, or_true, i10, if_false, not_false_eq_true, not_true_eq_false, Wp_rc, Wp_f5, Wp_f6, Wp_f7, Wp_f8, Wp_f9, Wp_f10, Wp_f11, Wp_f12, Wp_f13, Wp_f14, St_rc isSt_35, vw_out (X := X) isSt_35 (show i < 6 by omega) hC.2.2.2.2, u_Wp_whoIsOut_32, nI_1]
    unfold isOf
    by_cases h : aOut s i = 0
    · rw [if_pos h, decide_eq_true h]; rfl
    · rw [if_neg h, decide_eq_false h]; rfl) π.1 0 () 0 (by omega) trivial
  rw [e_Wp_whoIsOut, u_Wp_whoIsOut_0]
  refine Eq.trans (b := f_Wp_whoIsOut_4 X 0 0 (nI 0) (hp m)) rfl ?_
  rw [show f_Wp_whoIsOut_4 X 0 0 (nI 0) (hp m) = _ from h1, u_Wp_whoIsOut_4]
  simp only [tIs, tVs, bs, if_true, true_or, or_true, i10, if_false, not_false_eq_true, not_true_eq_false, Wp_rc, Wp_f5, Wp_f6, Wp_f7, Wp_f8, Wp_f9, Wp_f10, Wp_f11, Wp_f12, Wp_f13, Wp_f14, hC.f1, hC.sz]
  rw [if_pos (nI_le (Nat.le_refl _) (by omega))]
  rfl
theorem m_outNow (hM : HM m π s c) : pM X m_Md_outNow [.ref 175] (hp m) = some (some (.int (bts π.1 (isOf s))), hp m) := by
  have hn := hM.1.1
  have hc := hM.2.2.2
  obtain ⟨⟨-, h1⟩, -⟩ := lg0 (n := π.1) (F := fun (_ : Unit) (x : Int32) i => f_Md_outNow_4 X 175 x (nI i) (hp m)) (R := fun _ _ => True) (g := fun i v => if isOf s i then v ||| ((1 : Int32) <<< (nI i &&& 31)) else v) (fun _ x i hi _ => by
    refine ⟨⟨(), ?_⟩, trivial⟩
    rw [u_Md_outNow_4, m_n hM.1]
    simp only [tIs, tVs, bs, if_true, true_or, or_true, i10, if_false, not_false_eq_true, not_true_eq_false, Md_rc, Md_f1, Md_f4, Md_f5, Md_f6, Md_f9, Md_f10, Md_f11, Md_f12, Md_f14, Md_f15, Md_f18, Md_f19, Md_f20, Md_f21, Md_f23, Md_f24, Md_f25, Md_f26, Md_f28]
    rw [if_neg (nI_ge hi (by omega))]
    simp only [tIs, tVs, bs, if_true, true_or, or_true, i10, if_false, not_false_eq_true, not_true_eq_false, Md_rc, Md_f1, Md_f4, Md_f5, Md_f6, Md_f9, Md_f10, Md_f11, Md_f12, Md_f14, Md_f15, Md_f18, Md_f19, Md_f20, Md_f21, Md_f23, Md_f24, Md_f25, Md_f26, Md_f28, m_out (X := X) (B := 0) hM.1 hM.2.1 hM.2.2.1 rfl (by decide) (by omega) hi, u_Md_outNow_29, nI_1]
    unfold isOf
    by_cases h : aOut s i = 0
    · rw [if_pos h, decide_eq_true h, show (x ||| 0 : Int32) = x by simp]; rfl
    · rw [if_neg h, decide_eq_false h]; rfl) π.1 0 () 0 (by omega) trivial
  rw [e_Md_outNow, u_Md_outNow_0]
  refine Eq.trans (b := f_Md_outNow_4 X 175 0 (nI 0) (hp m)) rfl ?_
  rw [show f_Md_outNow_4 X 175 0 (nI 0) (hp m) = _ from h1, u_Md_outNow_4, m_n hM.1]
  simp only [tIs, tVs, bs, if_true, true_or, or_true, i10, if_false, not_false_eq_true, not_true_eq_false, Md_rc, Md_f1, Md_f4, Md_f5, Md_f6, Md_f9, Md_f10, Md_f11, Md_f12, Md_f14, Md_f15, Md_f18, Md_f19, Md_f20, Md_f21, Md_f23, Md_f24, Md_f25, Md_f26, Md_f28]
  rw [if_pos (nI_le (Nat.le_refl _) (by omega))]
  rfl
theorem Hi_T : pm_T[43]? = some (.inr (3, [(2, 44), (0, 0), (0, 0)])) := rfl
theorem Tp_T : pm_T[1]? = some (.inr (9, [(2, 2), (0, 0), (1, 0), (0, 0), (0, 0), (0, 0), (0, 0), (0, 0)])) := rfl
def aCt (n : Nat) (s : aS) (d x y u l v : Int32) : Int32 := if v = 0 then nI n else if v = 1 then s.2.2.2 else if v = 2 then tt s.2.2.2 else if v = 3 then sm n s.2.1 else if v = 4 then sm n s.2.2.1 else if v = 5 then bts n (isOf s) else if v = 6 then d else if v = 7 then x else if v = 8 then y else if v = 9 then u else if v = 10 then l else -1
theorem q_count (hC : HC m P π s) (hM : HM m π s c) (hD : DN m π.1 a D) (hS : SN m π.1 C) (hT : TN m T) (hu : gI m 175 22 = gI m 43 2) (hl : gI m 175 2 = gI m 1 1) (v : Int32) : Ag X m_Wp_count m_Md_count [.int v] m := by
  have hn := hC.n6
  refine Ag.mk (aCt π.1 s (nI D.1) (nI C.1) (nI T.1) (gI m 43 2) (gI m 1 1) v) ⟨m, ?_, Q.rf⟩ (fun m1 hq => ?_)
  · have e3 : pv_fI (hp m) 35 7 3 = some s.2.2.2 := by rw [St_f3 isSt_35, ← hC.2.2.2.2]; rfl
    have et : pM X m_St_trueTime [.ref 35] (hp m) = some (some (.int (tt s.2.2.2)), hp m) := by rw [c_trueTime isSt_35, ← hC.2.2.2.2]; rfl
    have ed : pv_fI (hp m) (gR m 0 3) 1 3 = some (nI D.1) := by rw [hD.1, hp_fI (isDa_or hD.2.1).1 rfl, hD.2.2.2.1]
    have es : pv_fI (hp m) 109 0 3 = some (nI C.1) := by rw [Cl_f3 isCl_109, hS.1.2.1]
    have eT : pv_fI (hp m) 113 0 3 = some (nI T.1) := by rw [Cl_f3 isCl_113, hT.1.2.1]
    have eh : pv_fI (hp m) 43 3 2 = some (gI m 43 2) := hp_fI Hi_T rfl
    have el : pv_fI (hp m) 1 9 1 = some (gI m 1 1) := hp_fI Tp_T rfl
    rw [e_Wp_count, u_Wp_count_0]
    simp only [tIs, tVs, bs, if_true, true_or, or_true, i10, if_false, not_false_eq_true, not_true_eq_false, Wp_rc, Wp_f5, Wp_f6, Wp_f7, Wp_f8, Wp_f9, Wp_f10, Wp_f11, Wp_f12, Wp_f13, Wp_f14, Wp_f0, Wp_f3, hC.f1, hC.sz, e3, St_rc isSt_35, et, ed, es, eT, eh, el, w_allBeats (X := X) hC isSt_35 hC.2.2.2.2, w_allAsked (X := X) hC isSt_35 hC.2.2.2.2, w_whoIsOut (X := X) hC]
    unfold aCt
    simp only [ite_out]
  · obtain ⟨m2, e2, q2⟩ := m_t0 (m := m1)
    have hq2 := hq.tr q2
    have hM2 := hM.q hq2
    have hD2 := hD.q hq2
    have hS2 := hS.q hq2
    have hT2 := hT.q hq2
    have e1 : pv_aX X (hp m2) 189 0 = some s.2.2.2 := by rw [show (0 : Int32) = nI 0 from rfl, ld_189 (by decide), ← hM2.2.1]; rfl
    have et : pM X m_Md_trueOf [.ref 175, .int 0] (hp m2) = some (some (.int (tt s.2.2.2)), hp m2) := by rw [show (0 : Int32) = nI 0 from rfl, d_trueOf (by decide), hM2.2.1, tt_comm]
    have ed : pv_aX X (hp m2) 186 0 = some (nI D.1) := by rw [show (0 : Int32) = nI 0 from rfl, ld_186 (by decide), hD2.2.2.2.2.1]
    have es : pv_aX X (hp m2) 189 19 = some (nI C.1) := by rw [show (19 : Int32) = nI 19 from rfl, ld_189 (by decide), hS2.2.2.1]
    have eT : pv_aX X (hp m2) 189 38 = some (nI T.1) := by rw [show (38 : Int32) = nI 38 from rfl, ld_189 (by decide), hT2.2.2.1]
    have eh : pv_fI (hp m2) 175 11 22 = some (gI m 43 2) := by rw [Md_f22, hq2.2.1 22 (by decide) (by decide), hu]
    have el : pv_fI (hp m2) 175 11 2 = some (gI m 1 1) := by rw [Md_f2, hq2.2.1 2 (by decide) (by decide), hl]
    have eb : pM X m_Md_sumOf [.ref 175, .int 1] (hp m2) = some (some (.int (sm π.1 s.2.1)), hp m2) := m_sumOf (w := 1) hM2.1 rfl (by decide) (fun k hk => by have := vm_i1 (b := 0) hM2.2.1 (show k < 6 by omega); rw [← this])
    have ea : pM X m_Md_sumOf [.ref 175, .int 13] (hp m2) = some (some (.int (sm π.1 s.2.2.1)), hp m2) := m_sumOf (w := 13) hM2.1 rfl (by decide) (fun k hk => by have := vm_i13 (b := 0) hM2.2.1 (show k < 6 by omega); rw [← this])
    refine ⟨m2, ?_, q2⟩
    rw [e_Md_count, u_Md_count_0, e2]
    simp only [tIs, tVs, bs, if_true, true_or, or_true, i10, if_false, not_false_eq_true, not_true_eq_false, Md_rc, Md_f1, Md_f4, Md_f5, Md_f6, Md_f9, Md_f10, Md_f11, Md_f12, Md_f14, Md_f15, Md_f18, Md_f19, Md_f20, Md_f21, Md_f23, Md_f24, Md_f25, Md_f26, Md_f28, e1, et, ed, es, eT, eh, el, eb, ea, m_n hM2.1, m_outNow (X := X) hM2]
    unfold aCt
    simp only [ite_out]
end QJ
