/-! pairs, look. -/
section FRS
variable {σ : Type}
theorem fr_shift {g : Nat → σ → σ} : ∀ (d i j : Nat) (x : σ), fr g d (i + j) x = fr (fun b => g (i + b)) d j x
  | 0, _, _, _ => by simp only [fr]
  | d + 1, i, j, x => by simp only [fr]; rw [Nat.add_assoc]; exact fr_shift d i (j + 1) _
theorem fr_id {g : Nat → σ → σ} : ∀ (d i : Nat) (x : σ), (∀ j, i ≤ j → g j x = x) → fr g d i x = x
  | 0, _, _, _ => by simp only [fr]
  | d + 1, i, x, h => by simp only [fr]; rw [h i (Nat.le_refl _)]; exact fr_id d (i + 1) x (fun j hj => h j (by omega))
theorem fr_cut {g : Nat → σ → σ} {n N : Nat} (hn : n ≤ N) (h : ∀ i x, n ≤ i → g i x = x) (x : σ) : fr g N 0 x = fr g n 0 x := by
  rw [show N = n + (N - n) by omega, fr_add]
  exact fr_id _ _ _ (fun j hj => h j _ (by omega))
theorem fr_mul {g : Nat → σ → σ} {w : Nat} : ∀ (d i : Nat) (x : σ), fr g (w * d) (w * i) x = fr (fun a x => fr (fun b => g (w * a + b)) w 0 x) d i x
  | 0, i, x => by simp only [Nat.mul_zero, fr]
  | d + 1, i, x => by
    rw [show w * (d + 1) = w + w * d by rw [Nat.mul_succ, Nat.add_comm], fr_add, show w * i + w = w * (i + 1) by rw [Nat.mul_succ], fr_mul d (i + 1)]
    simp only [fr]
    have : fr g w (w * i) x = fr (fun b => g (w * i + b)) w 0 x := by
      have := fr_shift (g := g) w (w * i) 0 x
      rw [Nat.add_zero] at this
      exact this
    rw [this]
theorem fr_36 {h : Nat → Nat → σ → σ} {n : Nat} (hn : n ≤ 6) (hi : ∀ a b x, (n ≤ a ∨ n ≤ b) → h a b x = x) (x : σ) : fr (fun k => h (k / 6) (k % 6)) 36 0 x = fr (fun a x => fr (h a) n 0 x) n 0 x := by
  have h1 := fr_mul (g := fun k => h (k / 6) (k % 6)) (w := 6) 6 0 x
  rw [Nat.mul_zero, show 6 * 6 = 36 from rfl] at h1
  rw [h1, fr_cut hn (fun a y ha => by
    refine fr_id 6 0 y (fun b _ => ?_) |>.trans rfl
    by_cases hb : b < 6
    · rw [show (6 * a + b) / 6 = a by omega]; exact hi a _ y (Or.inl ha)
    · exact hi _ _ y (Or.inl (by omega)))]
  refine fr_ext (fun a y ha => ?_) x
  have e : fr (fun b => h ((6 * a + b) / 6) ((6 * a + b) % 6)) 6 0 y = fr (h a) 6 0 y := fr_ext (fun b z hb => by rw [show (6 * a + b) / 6 = a by omega, show (6 * a + b) % 6 = b by omega]) y
  rw [e]
  exact fr_cut hn (fun b z hb => hi a b z (Or.inr hb)) y
end FRS
theorem isPr_out {π : aP} {C : aC} {s : aS} {a b : Nat} (h : π.1 ≤ a ∨ π.1 ≤ b) : isPr π C s a b = false := by
  unfold isPr
  rcases h with h | h
  · rw [decide_eq_false (show ¬ a < π.1 by omega)]; rfl
  · rw [decide_eq_false (show ¬ b < π.1 by omega)]; simp
section QC
variable {m : pm_M} {X : pv_X} {P c : Nat} {π : aP} {s : aS} {C : aC}
def hPa (π : aP) (C : aC) (s : aS) (a b : Nat) (x : Int32 × Int32 × Int32) : Int32 × Int32 × Int32 := if isPr π C s a b then (x.1 + 1, x.2.1 ||| ((1 : Int32) <<< (nI a &&& 31)), x.2.2 ||| ((1 : Int32) <<< (nI b &&& 31))) else x
theorem d6 {k : Nat} (hk : k < 36) : (nI k / 6 : Int32) = nI (k / 6) ∧ (nI k - nI k / 6 * 6 : Int32) = nI (k % 6) := ⟨pk_div (d := 6) (by omega) (by decide) (by decide), rm_nI (d := 6) (by omega) (by decide) (by decide)⟩
theorem q_pairs (hC : HC m P π s) (hM : HM m π s c) (hS : SN m π.1 C) (v : Int32) : Ag X m_Wp_pairs m_Md_pairs [.int v] m := by
  have hn := hC.n6
  have hc := hM.2.2.2
  rcases wthL v (L := 0) (U := 2) (l := 0) (u := 2) rfl rfl (by decide) (by decide) with ⟨q, h0, h1, rfl⟩ | hb
  · generalize hT : fr (fun a x => fr (hPa π C s a) π.1 0 x) π.1 0 (0, 0, 0) = T
    refine Ag.mk (if q = 0 then T.1 else if q = 1 then T.2.1 else T.2.2) ?_ (fun m1 hq => ?_)
    · unfold Gi
      rw [e_Wp_pairs, u_Wp_pairs_0]
      simp only [tIs, tVs, bs, if_true, true_or, or_true, i10, if_false, not_false_eq_true, not_true_eq_false, Wp_rc, Wp_f5, Wp_f6, Wp_f7, Wp_f8, Wp_f9, Wp_f10, Wp_f11, Wp_f12, Wp_f13, Wp_f14, w_in1 (in_l (L := 0) rfl h0 (by omega)) (in_u (U := 2) rfl h1 (by decide))]
      obtain ⟨g', m', h2, h3⟩ := lg (n := π.1) (F := fun (g : Option Value) (x : Int32 × Int32 × Int32) a m => f_Wp_pairs_21 X 0 (nI q) x.1 x.2.1 x.2.2 (nI a) g (hp m)) (R := fun _ _ m' => Same TL m m') (g := fun a x => fr (hPa π C s a) π.1 0 x) (fun g x a m2 ha hr => by
        obtain ⟨-, m4, h4, h5⟩ := lg (n := π.1) (F := fun (_ : Unit) (x : Int32 × Int32 × Int32) b m => f_Wp_pairs_36 X 0 (nI q) x.1 x.2.1 x.2.2 (nI a) (nI b) (hp m)) (R := fun _ _ m' => Same TL m m') (g := hPa π C s a) (fun _ x b m3 hb hr3 => by
          have hC3 := hC.q (TL_Q hr3)
          rw [u_Wp_pairs_36]
          simp only [tIs, tVs, bs, if_true, true_or, or_true, i10, if_false, not_false_eq_true, not_true_eq_false, Wp_rc, Wp_f5, Wp_f6, Wp_f7, Wp_f8, Wp_f9, Wp_f10, Wp_f11, Wp_f12, Wp_f13, Wp_f14, hC3.f1, hC3.sz]
          rw [if_neg (nI_ge hb (by omega))]
          simp only [nI_eq (show a < 2 ^ 31 by omega) (show b < 2 ^ 31 by omega)]
          by_cases hab : a = b
          · refine ⟨(), m3, ?_, hr3⟩
            have : isPr π C s a b = false := by unfold isPr; rw [decide_eq_true hab]; simp
            unfold hPa
            rw [if_pos hab, u_Wp_pairs_85, nI_1, this]
            rfl
          · obtain ⟨m5, e5, q5⟩ := w_agrees (X := X) (a := a) (b := b) hC3 (hS.q (TL_Q hr3)) (by omega) (by omega)
            refine ⟨(), m5, ?_, hr3.tr q5⟩
            have : isPr π C s a b = alC π C (aAsk s a b) := by unfold isPr; rw [decide_eq_true ha, decide_eq_true hb, decide_eq_false hab]; simp
            unfold hPa
            rw [if_neg hab, e5, this]
            simp only [tIs, tVs, bs, if_true, true_or, or_true, i10, if_false, not_false_eq_true, not_true_eq_false, Wp_rc, Wp_f5, Wp_f6, Wp_f7, Wp_f8, Wp_f9, Wp_f10, Wp_f11, Wp_f12, Wp_f13, Wp_f14, u_Wp_pairs_85, nI_1]
            cases alC π C (aAsk s a b)
            · rw [if_pos (show bI false = 0 from rfl)]; rfl
            · rw [if_neg (show ¬ bI true = 0 by decide)]; rfl) π.1 0 () x m2 (by omega) hr
        refine ⟨some (.int (nI π.1)), m4, ?_, h5⟩
        have hC2 := hC.q (TL_Q hr)
        have hC4 := hC.q (TL_Q h5)
        rw [u_Wp_pairs_21]
        simp only [tIs, tVs, bs, if_true, true_or, or_true, i10, if_false, not_false_eq_true, not_true_eq_false, Wp_rc, Wp_f5, Wp_f6, Wp_f7, Wp_f8, Wp_f9, Wp_f10, Wp_f11, Wp_f12, Wp_f13, Wp_f14, hC2.f1, hC2.sz]
        rw [if_neg (nI_ge ha (by omega))]
        refine Eq.trans (b := f_Wp_pairs_36 X 0 (nI q) x.1 x.2.1 x.2.2 (nI a) (nI 0) (hp m2)) rfl ?_
        rw [h4, u_Wp_pairs_36]
        simp only [tIs, tVs, bs, if_true, true_or, or_true, i10, if_false, not_false_eq_true, not_true_eq_false, Wp_rc, Wp_f5, Wp_f6, Wp_f7, Wp_f8, Wp_f9, Wp_f10, Wp_f11, Wp_f12, Wp_f13, Wp_f14, hC4.f1, hC4.sz]
        rw [if_pos (nI_le (Nat.le_refl _) (by omega)), nI_1]) π.1 0 none (0, 0, 0) m (by omega) Same.rf
      rw [hT] at h2
      have hC' := hC.q (TL_Q h3)
      refine ⟨m', ?_, TL_Q h3⟩
      refine Eq.trans (b := f_Wp_pairs_21 X 0 (nI q) 0 0 0 (nI 0) none (hp m)) rfl ?_
      rw [show f_Wp_pairs_21 X 0 (nI q) 0 0 0 (nI 0) none (hp m) = _ from h2, u_Wp_pairs_21]
      simp only [tIs, tVs, bs, if_true, true_or, or_true, i10, if_false, not_false_eq_true, not_true_eq_false, Wp_rc, Wp_f5, Wp_f6, Wp_f7, Wp_f8, Wp_f9, Wp_f10, Wp_f11, Wp_f12, Wp_f13, Wp_f14, hC'.f1, hC'.sz]
      rw [if_pos (nI_le (Nat.le_refl _) (by omega))]
      simp only [u_Wp_pairs_114]
      have : q = 0 ∨ q = 1 ∨ q = 2 := by omega
      rcases this with rfl | rfl | rfl <;> rfl
    · obtain ⟨m2, e2, q2⟩ := m_t0 (m := m1)
      unfold Gi
      rw [e_Md_pairs, u_Md_pairs_0, e2]
      simp only [tIs, tVs, bs, if_true, true_or, or_true, i10, if_false, not_false_eq_true, not_true_eq_false, Md_rc, Md_f1, Md_f4, Md_f5, Md_f6, Md_f9, Md_f10, Md_f11, Md_f12, Md_f14, Md_f15, Md_f18, Md_f19, Md_f20, Md_f21, Md_f23, Md_f24, Md_f25, Md_f26, Md_f28, m_in1 (in_l (L := 0) rfl h0 (by omega)) (in_u (U := 2) rfl h1 (by decide))]
      obtain ⟨-, m', h2, h3⟩ := lg (n := 36) (F := fun (_ : Unit) (x : Int32 × Int32 × Int32) k m => f_Md_pairs_26 X 175 (nI q) x.1 x.2.1 x.2.2 (nI k) (hp m)) (R := fun _ _ m' => Q m1 m') (g := fun k => hPa π C s (k / 6) (k % 6)) (fun _ x k m3 hk hr => by
        obtain ⟨m4, e4, q4⟩ := m_isSeen (X := X) (a := k / 6) (b := k % 6) ((hM.q hq).q hr) ((hS.q hq).q hr) (by omega) (by omega)
        refine ⟨(), m4, ?_, hr.tr (Q.ofM q4 (by decide))⟩
        rw [u_Md_pairs_26, if_neg (show ¬ (36 : Int32) ≤ nI k from nI_ge (b := 36) hk (by decide)), (d6 hk).2, (d6 hk).1]
        simp only [tIs, tVs, bs, if_true, true_or, or_true, i10, if_false, not_false_eq_true, not_true_eq_false, Md_rc, Md_f1, Md_f4, Md_f5, Md_f6, Md_f9, Md_f10, Md_f11, Md_f12, Md_f14, Md_f15, Md_f18, Md_f19, Md_f20, Md_f21, Md_f23, Md_f24, Md_f25, Md_f26, Md_f28, e4, u_Md_pairs_75, nI_1]
        unfold hPa
        cases isPr π C s (k / 6) (k % 6)
        · rw [if_pos (show bI false = 0 from rfl)]; rfl
        · rw [if_neg (show ¬ bI true = 0 by decide)]; rfl) 36 0 () (0, 0, 0) m2 (by omega) q2
      rw [fr_36 hn (fun a b x h => by unfold hPa; rw [isPr_out h]; rfl), hT] at h2
      refine ⟨m', ?_, h3⟩
      refine Eq.trans (b := f_Md_pairs_26 X 175 (nI q) 0 0 0 (nI 0) (hp m2)) rfl ?_
      rw [show f_Md_pairs_26 X 175 (nI q) 0 0 0 (nI 0) (hp m2) = _ from h2, u_Md_pairs_26, if_pos (by decide)]
      simp only [u_Md_pairs_100]
      have : q = 0 ∨ q = 1 ∨ q = 2 := by omega
      rcases this with rfl | rfl | rfl <;> rfl
  · refine Ag.mk (-1) ⟨m, ?_, Q.rf⟩ (fun m1 hq => ?_)
    · rw [e_Wp_pairs, u_Wp_pairs_0]
      simp only [tIs, tVs, bs, if_true, true_or, or_true, i10, if_false, not_false_eq_true, not_true_eq_false, Wp_rc, Wp_f5, Wp_f6, Wp_f7, Wp_f8, Wp_f9, Wp_f10, Wp_f11, Wp_f12, Wp_f13, Wp_f14, w_in0 hb]
    · obtain ⟨m2, e2, q2⟩ := m_t0 (m := m1)
      refine ⟨m2, ?_, q2⟩
      rw [e_Md_pairs, u_Md_pairs_0]
      simp only [tIs, tVs, bs, if_true, true_or, or_true, i10, if_false, not_false_eq_true, not_true_eq_false, Md_rc, Md_f1, Md_f4, Md_f5, Md_f6, Md_f9, Md_f10, Md_f11, Md_f12, Md_f14, Md_f15, Md_f18, Md_f19, Md_f20, Md_f21, Md_f23, Md_f24, Md_f25, Md_f26, Md_f28, e2, m_in0 hb]
end QC
