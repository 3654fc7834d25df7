/-! Sums; what a trial leaves as it is; years. -/
/-- the trial's rows -/
def TL : List Nat := [8, 20, 39, 40, 41, 42]
section Q9
variable {m m' m'' : pm_M} {X : pv_X} {P c k o q b : Nat} {π : aP} {s t : aS} {v B : Int32}
theorem TL_Q (h : Same TL m m') : Q m m' := Q.of h (by decide) (by decide) (by decide)
theorem t_copy (hC : HC m P π s) : ∃ m', pM X m_St_copy [.ref 39, .ref 35] (hp m) = some (none, hp m') ∧ Same TL m m' ∧ vw m' 39 = s := by
  obtain ⟨m', h1, h2, h3⟩ := s_copy (X := X) (m := m) isSt_39 isSt_35 (by decide)
  exact ⟨m', h1, h3.mono (by decide), by rw [h2, hC.2.2.2.2]⟩
theorem t_take (hv : vw m 39 = t) (hk : k < 6) (ho : o < 6) : ∃ m', pM X m_St_takeTime [.ref 39, .int (nI k), .int (nI o)] (hp m) = some (none, hp m') ∧ Same TL m m' ∧ vw m' 39 = aAsk t k o := by
  obtain ⟨m', h1, h2, h3⟩ := s_takeTime (X := X) (m := m) isSt_39 hk ho
  exact ⟨m', h1, h3.mono (by decide), by rw [h2, hv]⟩
theorem t_move (hv : vw m 39 = t) (hk : k < 6) : ∃ m', pM X m_St_moveBeats [.ref 39, .int (nI k), .int v] (hp m) = some (none, hp m') ∧ Same TL m m' ∧ vw m' 39 = aMov t k v := by
  obtain ⟨m', h1, h2, h3⟩ := s_moveBeats (X := X) (m := m) isSt_39 hk (v := v)
  exact ⟨m', h1, h3.mono (by decide), by rw [h2, hv]⟩
theorem t_pass (hC : HC m P π s) (hv : vw m 39 = t) : ∃ m', pM X m_Po_passQuarter [.ref P, .ref 39] (hp m) = some (some (.int (aPQ π t).2), hp m') ∧ Same TL m m' ∧ vw m' 39 = (aPQ π t).1 := by
  have hl := hC.lt
  obtain ⟨m', h1, h2, h3⟩ := s_passQuarter (X := X) (m := m) (a := 39) hC.po isSt_39 (by omega) hC.2.2.1
  rw [hC.2.2.2.1, hv] at h1 h2
  refine ⟨m', h1, h3.mono ?_, h2⟩
  rcases hC.2.1 with rfl | rfl <;> decide
theorem n_tries (hM : HM m π s c) : ∃ m', pM X m_Md_triesNow [.ref 175] (hp m) = some (none, hp m') ∧ SameM 1071 m m' ∧ vm m' 1071 = s := by
  obtain ⟨m', h1, h2, h3⟩ := m_copies (X := X) (m := m) (f := 0) (g := 1071) (n := 19) (vf := 0) (vg := 1071) (vn := 19) rfl rfl rfl (by decide) (by decide) (by decide)
  refine ⟨m', ?_, ⟨h2.mono (by decide), fun i hi => by rw [h3, if_neg (by omega)]⟩, ?_⟩
  · rw [e_Md_triesNow, u_Md_triesNow_0]
    simp only [tIs, tVs, bs, if_true, true_or, or_true, i10, if_false, not_false_eq_true, not_true_eq_false, Md_rc, Md_f1, Md_f4, Md_f5, Md_f6, Md_f9, Md_f10, Md_f11, Md_f12, Md_f14, Md_f15, Md_f18, Md_f19, Md_f20, Md_f21, Md_f23, Md_f24, Md_f25, Md_f26, Md_f28, h1]
  · rw [vm_copied (by decide) h3, hM.2.1]
theorem n_pass (hR : RM m π) (hv : vm m b = t) (ok : okS π.1 c t) (hB : B = nI b) (hb : b + 19 ≤ 1173) (hc : c < 1000000) : ∃ m', pM X m_Md_passes_1 [.ref 175, .int B] (hp m) = some (none, hp m') ∧ SameM b m m' ∧ vm m' b = (aPQ π t).1 := by
  obtain ⟨m', h1, h2, h3⟩ := d_passes (X := X) hc hb hR (by rw [hv]; exact ok)
  exact ⟨m', by rw [hB, h1], h3, by rw [h2, hv]⟩
theorem n_ask (hv : vm m b = t) (hB : B = nI b) (hb : b + 19 ≤ 1173) (hk : k < 6) (ho : o < 6) : ∃ m', pM X m_Md_asks [.ref 175, .int B, .int (nI k), .int (nI o)] (hp m) = some (none, hp m') ∧ SameM b m m' ∧ vm m' b = aAsk t k o := by
  obtain ⟨m', h1, h2, h3⟩ := d_asks (X := X) (m := m) hb hk ho
  exact ⟨m', by rw [hB, h1], h3, by rw [h2, hv]⟩
theorem n_move (hv : vm m b = t) (hB : B = nI b) (hb : b + 19 ≤ 1173) (hk : k < 6) : ∃ m', pM X m_Md_beatsMore [.ref 175, .int B, .int (nI k), .int v] (hp m) = some (none, hp m') ∧ SameM b m m' ∧ vm m' b = aMov t k v := by
  obtain ⟨m', h1, h2, h3⟩ := d_beatsMore (X := X) (m := m) hb hk (v := v)
  refine ⟨m', by rw [hB, h1], h3, ?_⟩
  rw [h2, hv, kp_bm]
  rfl
def sm (n : Nat) (f : Nat → Int32) : Int32 := fr (fun i v => v + f i) n 0 0
def aWx (n : Nat) (t : aS) : Int32 := fr (fun i f => mx f (ab (aOut t i))) n 0 0
theorem w_worstOut {a : Nat} (hC : HC m P π s) (ha : isSt a) (hv : vw m a = t) : pM X m_Wp_worstOut [.ref 0, .ref a] (hp m) = some (some (.int (aWx π.1 t)), hp m) := by
  have hn := hC.n6
  rw [e_Wp_worstOut, u_Wp_worstOut_0]
  have h1 := lp0 (n := π.1) (F := fun (f : Int32) i => f_Wp_worstOut_4 X 0 a f (nI i) (hp m)) (g := fun i f => mx f (ab (aOut t i))) (fun f i hi => by
    rw [u_Wp_worstOut_4]
    simp only [tIs, tVs, bs, if_true, true_or, or_true, i10, if_false, not_false_eq_true, not_true_eq_false, Wp_rc, Wp_f5, Wp_f6, Wp_f7, Wp_f8, Wp_f9, Wp_f10, Wp_f11, Wp_f12, Wp_f13, Wp_f14, hC.f1, hC.sz]
    rw [if_neg (nI_ge hi (by omega))]
    simp only [tIs, tVs, bs, if_true, true_or, or_true, i10, if_false, not_false_eq_true, not_true_eq_false, Wp_rc, Wp_f5, Wp_f6, Wp_f7, Wp_f8, Wp_f9, Wp_f10, Wp_f11, Wp_f12, Wp_f13, Wp_f14, vw_far ha (show i < 6 by omega) hv, c_max, nI_1]) π.1 0 0 (by omega)
  refine Eq.trans (b := f_Wp_worstOut_4 X 0 a 0 (nI 0) (hp m)) rfl ?_
  rw [h1, u_Wp_worstOut_4]
  simp only [tIs, tVs, bs, if_true, true_or, or_true, i10, if_false, not_false_eq_true, not_true_eq_false, Wp_rc, Wp_f5, Wp_f6, Wp_f7, Wp_f8, Wp_f9, Wp_f10, Wp_f11, Wp_f12, Wp_f13, Wp_f14, hC.f1, hC.sz]
  rw [if_pos (nI_le (Nat.le_refl _) (by omega))]
  rfl
theorem w_allAsked {a : Nat} (hC : HC m P π s) (ha : isSt a) (hv : vw m a = t) : pM X m_Wp_allAsked [.ref 0, .ref a] (hp m) = some (some (.int (sm π.1 t.2.2.1)), hp m) := by
  have hn := hC.n6
  rw [e_Wp_allAsked, u_Wp_allAsked_0]
  have h1 := lp0 (n := π.1) (F := fun (f : Int32) i => f_Wp_allAsked_4 X 0 a f (nI i) (hp m)) (g := fun i v => v + t.2.2.1 i) (fun f i hi => by
    rw [u_Wp_allAsked_4]
    simp only [tIs, tVs, bs, if_true, true_or, or_true, i10, if_false, not_false_eq_true, not_true_eq_false, Wp_rc, Wp_f5, Wp_f6, Wp_f7, Wp_f8, Wp_f9, Wp_f10, Wp_f11, Wp_f12, Wp_f13, Wp_f14, hC.f1, hC.sz]
    rw [if_neg (nI_ge hi (by omega))]
    simp only [tIs, tVs, bs, if_true, true_or, or_true, i10, if_false, not_false_eq_true, not_true_eq_false, Wp_rc, Wp_f5, Wp_f6, Wp_f7, Wp_f8, Wp_f9, Wp_f10, Wp_f11, Wp_f12, Wp_f13, Wp_f14, St_f2 ha, vw_a3 ha (show i < 6 by omega) hv, nI_1]) π.1 0 0 (by omega)
  refine Eq.trans (b := f_Wp_allAsked_4 X 0 a 0 (nI 0) (hp m)) rfl ?_
  rw [h1, u_Wp_allAsked_4]
  simp only [tIs, tVs, bs, if_true, true_or, or_true, i10, if_false, not_false_eq_true, not_true_eq_false, Wp_rc, Wp_f5, Wp_f6, Wp_f7, Wp_f8, Wp_f9, Wp_f10, Wp_f11, Wp_f12, Wp_f13, Wp_f14, hC.f1, hC.sz]
  rw [if_pos (nI_le (Nat.le_refl _) (by omega))]
  rfl
theorem w_allBeats {a : Nat} (hC : HC m P π s) (ha : isSt a) (hv : vw m a = t) : pM X m_Wp_allBeats [.ref 0, .ref a] (hp m) = some (some (.int (sm π.1 t.2.1)), hp m) := by
  have hn := hC.n6
  rw [e_Wp_allBeats, u_Wp_allBeats_0]
  have h1 := lp0 (n := π.1) (F := fun (f : Int32) i => f_Wp_allBeats_4 X 0 a f (nI i) (hp m)) (g := fun i v => v + t.2.1 i) (fun f i hi => by
    rw [u_Wp_allBeats_4]
    simp only [tIs, tVs, bs, if_true, true_or, or_true, i10, if_false, not_false_eq_true, not_true_eq_false, Wp_rc, Wp_f5, Wp_f6, Wp_f7, Wp_f8, Wp_f9, Wp_f10, Wp_f11, Wp_f12, Wp_f13, Wp_f14, hC.f1, hC.sz]
    rw [if_neg (nI_ge hi (by omega))]
    simp only [tIs, tVs, bs, if_true, true_or, or_true, i10, if_false, not_false_eq_true, not_true_eq_false, Wp_rc, Wp_f5, Wp_f6, Wp_f7, Wp_f8, Wp_f9, Wp_f10, Wp_f11, Wp_f12, Wp_f13, Wp_f14, St_f1 ha, vw_a2 ha (show i < 6 by omega) hv, nI_1]) π.1 0 0 (by omega)
  refine Eq.trans (b := f_Wp_allBeats_4 X 0 a 0 (nI 0) (hp m)) rfl ?_
  rw [h1, u_Wp_allBeats_4]
  simp only [tIs, tVs, bs, if_true, true_or, or_true, i10, if_false, not_false_eq_true, not_true_eq_false, Wp_rc, Wp_f5, Wp_f6, Wp_f7, Wp_f8, Wp_f9, Wp_f10, Wp_f11, Wp_f12, Wp_f13, Wp_f14, hC.f1, hC.sz]
  rw [if_pos (nI_le (Nat.le_refl _) (by omega))]
  rfl
theorem m_sumOf {w : Nat} {W : Int32} {f : Nat → Int32} (hR : RM m π) (hW : W = nI w) (hw : w + 6 ≤ 1173) (hf : ∀ k, k < π.1 → gA m 189 (w + k) = f k) : pM X m_Md_sumOf [.ref 175, .int W] (hp m) = some (some (.int (sm π.1 f)), hp m) := by
  have hn := hR.1
  rw [e_Md_sumOf, u_Md_sumOf_0, hW]
  have h1 := lp0 (n := π.1) (F := fun (v : Int32) i => f_Md_sumOf_4 X 175 (nI w) v (nI i) (hp m)) (g := fun i v => v + f i) (fun v i hi => by
    rw [u_Md_sumOf_4]
    simp only [tIs, tVs, bs, if_true, true_or, or_true, i10, if_false, not_false_eq_true, not_true_eq_false, Md_rc, Md_f1, Md_f4, Md_f5, Md_f6, Md_f9, Md_f10, Md_f11, Md_f12, Md_f14, Md_f15, Md_f18, Md_f19, Md_f20, Md_f21, Md_f23, Md_f24, Md_f25, Md_f26, Md_f28, m_n hR]
    rw [if_neg (nI_ge hi (by omega)), nI_add, ld_189 (by omega), hf i hi]
    simp only [tIs, tVs, bs, if_true, true_or, or_true, i10, if_false, not_false_eq_true, not_true_eq_false, Md_rc, Md_f1, Md_f4, Md_f5, Md_f6, Md_f9, Md_f10, Md_f11, Md_f12, Md_f14, Md_f15, Md_f18, Md_f19, Md_f20, Md_f21, Md_f23, Md_f24, Md_f25, Md_f26, Md_f28, nI_1]) π.1 0 0 (by omega)
  refine Eq.trans (b := f_Md_sumOf_4 X 175 (nI w) 0 (nI 0) (hp m)) rfl ?_
  rw [h1, u_Md_sumOf_4]
  simp only [tIs, tVs, bs, if_true, true_or, or_true, i10, if_false, not_false_eq_true, not_true_eq_false, Md_rc, Md_f1, Md_f4, Md_f5, Md_f6, Md_f9, Md_f10, Md_f11, Md_f12, Md_f14, Md_f15, Md_f18, Md_f19, Md_f20, Md_f21, Md_f23, Md_f24, Md_f25, Md_f26, Md_f28, m_n hR]
  rw [if_pos (nI_le (Nat.le_refl _) (by omega))]
  rfl
theorem vm_i1 (hv : vm m b = t) (hk : k < 6) : gA m 189 (b + 1 + k) = t.2.1 k := by rw [← hv]; exact (nr_lt (f := fun j => gA m 189 (b + 1 + j)) hk).symm
theorem vm_i13 (hv : vm m b = t) (hk : k < 6) : gA m 189 (b + 13 + k) = t.2.2.1 k := by rw [← hv]; exact (nr_lt (f := fun j => gA m 189 (b + 13 + j)) hk).symm
theorem far_eq {n : Nat} (ok : okS n c t) (hc : c ≤ 1000000) : aWx n t = match aWo n t with | none => 0 | some k => ab (aOut t k) := by
  have h := fr_rel (n := n) (R := fun i (a : Int32) (o : Option Nat) => a = match o with | none => 0 | some k => ab (aOut t k)) (g := fun i f => mx f (ab (aOut t i))) (g' := gWo t) (fun i a o hi hr => by
    unfold gWo
    have hp0 := ab_pos ok hc hi
    cases o with
    | none =>
      dsimp only at hr ⊢
      rw [hr]
      unfold mx
      by_cases h : 0 < ab (aOut t i)
      · rw [if_pos h]
      · rw [if_neg h]
        rw [Int32.lt_iff_toInt_lt] at h hp0
        exact Int32.toInt_inj.mp (by rw [show (0 : Int32).toInt = 0 by decide] at h ⊢; rw [show (-1 : Int32).toInt = -1 by decide] at hp0; omega)
    | some k =>
      dsimp only at hr ⊢
      rw [hr]
      unfold mx
      by_cases h : ab (aOut t k) < ab (aOut t i)
      · rw [if_pos h, if_pos h]
      · rw [if_neg h, if_neg h]) n 0 0 none (by omega) rfl
  exact h
theorem m_farOf (hR : RM m π) (hv : vm m b = t) (ok : okS π.1 c t) (hB : B = nI b) (hb : b + 19 ≤ 1173) (hc : c ≤ 1000000) : pM X m_Md_farOf [.ref 175, .int B] (hp m) = some (some (.int (aWx π.1 t)), hp m) := by
  have hn := hR.1
  rw [e_Md_farOf, u_Md_farOf_0, far_eq ok hc]
  simp only [tIs, tVs, bs, if_true, true_or, or_true, i10, if_false, not_false_eq_true, not_true_eq_false, Md_rc, Md_f1, Md_f4, Md_f5, Md_f6, Md_f9, Md_f10, Md_f11, Md_f12, Md_f14, Md_f15, Md_f18, Md_f19, Md_f20, Md_f21, Md_f23, Md_f24, Md_f25, Md_f26, Md_f28, m_worstOf hR hv ok hB hb hc]
  cases hw : aWo π.1 t with
  | none => rw [if_neg (show ¬ 0 ≤ enc none by decide), u_Md_farOf_23]
  | some k =>
    have hk := aWo_lt k hw
    rw [show enc (some k) = nI k from rfl, if_pos (nI_pos' (by omega))]
    simp only [tIs, tVs, bs, if_true, true_or, or_true, i10, if_false, not_false_eq_true, not_true_eq_false, Md_rc, Md_f1, Md_f4, Md_f5, Md_f6, Md_f9, Md_f10, Md_f11, Md_f12, Md_f14, Md_f15, Md_f18, Md_f19, Md_f20, Md_f21, Md_f23, Md_f24, Md_f25, Md_f26, Md_f28, m_out hR hv ok hB hb hc hk, d_unsigned, u_Md_farOf_23]
/-- draws -/
def dN (x : Nat) : Nat := (x * 1103515245 + 12345) % 2147483648
theorem dN_lt (x : Nat) : dN x < 2 ^ 31 := Nat.mod_lt _ (by decide)
def dV (x n : Nat) : Nat := dN x / 65536 % n
theorem dn_l {x : Nat} (hx : x < 2 ^ 31) : (lN x * 1103515245 + 12345) - (lN x * 1103515245 + 12345) / 2147483648 * 2147483648 = lN (dN x) := by
  rw [show (1103515245 : Int64) = lN 1103515245 from rfl, show (12345 : Int64) = lN 12345 from rfl, show (2147483648 : Int64) = lN 2147483648 from rfl, lN_mul, lN_add, pk_lRem (by omega) (by decide) (by decide)]
  rfl
theorem dv_l {x n : Nat} (hn : 0 < n) (hn' : n < 2 ^ 31) : ((lN (dN x) / 65536) - (lN (dN x) / 65536) / (nI n).toInt64 * (nI n).toInt64 : Int64).toInt32 = nI (dV x n) ∧ ¬ (nI n).toInt64 = 0 := by
  have := dN_lt x
  rw [nI_l hn', show (65536 : Int64) = lN 65536 from rfl, pk_lDiv (by omega) (by decide) (by decide), pk_lRem (by omega) hn (by omega), lN_i]
  refine ⟨rfl, fun z => ?_⟩
  have := (pk_lEQ (a := n) (b := 0) (by omega) (by decide)).mp z
  omega
theorem Dr_T : pm_T[120]? = some (.inr (2, [(1, 0)])) := rfl
theorem w_below {x n : Nat} (hx : gJ m 120 0 = lN x) (hx' : x < 2 ^ 31) (hn : 0 < n) (hn' : n < 2 ^ 31) (hB : B = nI n) : ∃ m', pM X m_Dr_below [.ref 120, .int B] (hp m) = some (some (.int (nI (dV x n))), hp m') ∧ Same [120] m m' ∧ gJ m' 120 0 = lN (dN x) := by
  refine ⟨sJ m 120 0 (lN (dN x)), ?_, Same.sJ (by simp), by rw [gJ_sJ, if_pos ⟨rfl, rfl⟩]⟩
  rw [e_Dr_below, u_Dr_below_0, hp_fJ Dr_T rfl, hx, hB]
  simp only [tIs, tVs, bs, if_true, true_or, or_true, i10, if_false, not_false_eq_true, not_true_eq_false, dn_l hx']
  rw [hp_pJ Dr_T rfl]
  simp only [tIs, tVs, bs, if_true, true_or, or_true, i10, if_false, not_false_eq_true, not_true_eq_false]
  rw [if_neg (nI_nle hn hn'), hp_fJ Dr_T rfl, gJ_sJ, if_pos ⟨rfl, rfl⟩]
  simp only [tIs, tVs, bs, if_true, true_or, or_true, i10, if_false, not_false_eq_true, not_true_eq_false]
  rw [if_neg (dv_l (x := x) hn hn').2, (dv_l hn hn').1, u_Dr_below_40]
theorem m_draw {x n : Nat} (hx : gJ m 175 29 = lN x) (hx' : x < 2 ^ 31) (hn : 0 < n) (hn' : n < 2 ^ 31) (hB : B = nI n) : ∃ m', pM X m_Md_draw [.ref 175, .int B] (hp m) = some (some (.int (nI (dV x n))), hp m') ∧ (∃ y, m' = sJ m 175 29 y) ∧ gJ m' 175 29 = lN (dN x) := by
  refine ⟨sJ m 175 29 (lN (dN x)), ?_, ⟨_, rfl⟩, by rw [gJ_sJ, if_pos ⟨rfl, rfl⟩]⟩
  rw [e_Md_draw, u_Md_draw_0, Md_f29, hx, hB]
  simp only [tIs, tVs, bs, if_true, true_or, or_true, i10, if_false, not_false_eq_true, not_true_eq_false, dn_l hx']
  rw [Md_p29]
  simp only [tIs, tVs, bs, if_true, true_or, or_true, i10, if_false, not_false_eq_true, not_true_eq_false]
  rw [Md_f29, gJ_sJ, if_pos ⟨rfl, rfl⟩]
  simp only [tIs, tVs, bs, if_true, true_or, or_true, i10, if_false, not_false_eq_true, not_true_eq_false]
  rw [if_neg (dv_l (x := x) hn hn').2, (dv_l hn hn').1]
def dD (n : Nat) (y : aS × Nat) : aS × Nat := if 2 < dV y.2 5 then (y.1, dN y.2) else if dV y.2 5 = 0 then (if dV (dN y.2) n = dV (dN (dN y.2)) n then y.1 else aAsk y.1 (dV (dN y.2) n) (dV (dN (dN y.2)) n), dN (dN (dN y.2))) else (aMov y.1 (dV (dN y.2) n) (if dV y.2 5 = 1 then nI (dV (dN (dN y.2)) 30 + 1) else -nI (dV (dN (dN y.2)) 30 + 1)), dN (dN (dN y.2)))
def YL : List Nat := [8, 20, 39, 40, 41, 42, 120]
theorem w_drawOne {y : aS × Nat} (hC : HC m P π s) (hn : 0 < π.1) (hv : vw m 39 = y.1) (hx : gJ m 120 0 = lN y.2) (hx' : y.2 < 2 ^ 31) : ∃ m', pM X m_Wp_drawOne [.ref 0, .int (nI π.1)] (hp m) = some (none, hp m') ∧ Same YL m m' ∧ vw m' 39 = (dD π.1 y).1 ∧ gJ m' 120 0 = lN (dD π.1 y).2 := by
  have hn6 := hC.n6
  obtain ⟨t, x⟩ := y
  dsimp only at hv hx hx'
  have rc : ∀ m, pv_rc (hp m) 120 2 = true := fun m => hp_rc Dr_T
  obtain ⟨m1, e1, s1, x1⟩ := w_below (X := X) (B := 5) hx hx' (n := 5) (by decide) (by decide) rfl
  have l5 : dV x 5 < 5 := Nat.mod_lt _ (by decide)
  rw [e_Wp_drawOne, u_Wp_drawOne_0]
  simp only [tIs, tVs, bs, if_true, true_or, or_true, i10, if_false, not_false_eq_true, not_true_eq_false, Wp_rc, Wp_f5, Wp_f6, Wp_f7, Wp_f8, Wp_f9, Wp_f10, Wp_f11, Wp_f12, Wp_f13, Wp_f14, rc, e1]
  have v1 : vw m1 39 = t := by rw [vw_same s1 (by decide), hv]
  have q1 : Same YL m m1 := s1.mono (by decide)
  unfold dD
  dsimp only
  by_cases h2 : 2 < dV x 5
  · refine ⟨m1, ?_, q1, ?_, ?_⟩
    · rw [if_neg (show ¬ nI (dV x 5) ≤ 2 from nI_ge (a := 2) h2 (by omega))]
    · rw [if_pos h2, v1]
    · rw [if_pos h2, x1]
  · rw [if_pos (show nI (dV x 5) ≤ 2 from nI_le (b := 2) (by omega) (by decide))]
    obtain ⟨m2, e2, s2, x2⟩ := w_below (X := X) (B := nI π.1) x1 (dN_lt x) hn (by omega) rfl
    have l2 : dV (dN x) π.1 < π.1 := Nat.mod_lt _ hn
    have v2 : vw m2 39 = t := by rw [vw_same s2 (by decide), v1]
    have q2 : Same YL m1 m2 := s2.mono (by decide)
    simp only [tIs, tVs, bs, if_true, true_or, or_true, i10, if_false, not_false_eq_true, not_true_eq_false, Wp_rc, Wp_f5, Wp_f6, Wp_f7, Wp_f8, Wp_f9, Wp_f10, Wp_f11, Wp_f12, Wp_f13, Wp_f14, rc, e2]
    by_cases h0 : dV x 5 = 0
    · rw [if_neg (fun z => z (by rw [h0]; rfl))]
      obtain ⟨m3, e3, s3, x3⟩ := w_below (X := X) (B := nI π.1) x2 (dN_lt _) hn (by omega) rfl
      have l3 : dV (dN (dN x)) π.1 < π.1 := Nat.mod_lt _ hn
      have v3 : vw m3 39 = t := by rw [vw_same s3 (by decide), v2]
      have q3 : Same YL m2 m3 := s3.mono (by decide)
      simp only [tIs, tVs, bs, if_true, true_or, or_true, i10, if_false, not_false_eq_true, not_true_eq_false, Wp_rc, Wp_f5, Wp_f6, Wp_f7, Wp_f8, Wp_f9, Wp_f10, Wp_f11, Wp_f12, Wp_f13, Wp_f14, rc, e3, if_neg h2, if_pos h0, u_Wp_drawOne_54, u_Wp_drawOne_91]
      simp only [nI_eq (show dV (dN x) π.1 < 2 ^ 31 by omega) (show dV (dN (dN x)) π.1 < 2 ^ 31 by omega)]
      by_cases hwo : dV (dN x) π.1 = dV (dN (dN x)) π.1
      · refine ⟨m3, ?_, q1.tr (q2.tr q3), ?_, x3⟩
        · rw [if_pos hwo]
        · rw [if_pos hwo, v3]
      · obtain ⟨m4, e4, s4, v4⟩ := t_take (X := X) (m := m3) (k := dV (dN x) π.1) (o := dV (dN (dN x)) π.1) v3 (by omega) (by omega)
        refine ⟨m4, ?_, q1.tr (q2.tr (q3.tr (s4.mono (by decide)))), ?_, ?_⟩
        · rw [if_neg hwo]
          simp only [tIs, tVs, bs, if_true, true_or, or_true, i10, if_false, not_false_eq_true, not_true_eq_false, Wp_rc, Wp_f5, Wp_f6, Wp_f7, Wp_f8, Wp_f9, Wp_f10, Wp_f11, Wp_f12, Wp_f13, Wp_f14, St_rc isSt_39, e4]
        · rw [if_neg hwo, v4]
        · rw [s4.J (by decide), x3]
    · rw [if_pos (by rw [show (0 : Int32) = nI 0 from rfl, nI_eq (by omega) (by decide)]; exact h0)]
      obtain ⟨m3, e3, s3, x3⟩ := w_below (X := X) (B := 30) x2 (dN_lt _) (n := 30) (by decide) (by decide) rfl
      have l3 : dV (dN (dN x)) 30 < 30 := Nat.mod_lt _ (by decide)
      have v3 : vw m3 39 = t := by rw [vw_same s3 (by decide), v2]
      have q3 : Same YL m2 m3 := s3.mono (by decide)
      simp only [tIs, tVs, bs, if_true, true_or, or_true, i10, if_false, not_false_eq_true, not_true_eq_false, Wp_rc, Wp_f5, Wp_f6, Wp_f7, Wp_f8, Wp_f9, Wp_f10, Wp_f11, Wp_f12, Wp_f13, Wp_f14, rc, e3, if_neg h2, if_neg h0, u_Wp_drawOne_88, u_Wp_drawOne_91, nI_1]
      generalize hw : (if dV x 5 = 1 then nI (dV (dN (dN x)) 30 + 1) else -nI (dV (dN (dN x)) 30 + 1) : Int32) = w
      obtain ⟨m4, e4, s4, v4⟩ := t_move (X := X) (m := m3) (k := dV (dN x) π.1) (v := w) v3 (by omega)
      refine ⟨m4, ?_, q1.tr (q2.tr (q3.tr (s4.mono (by decide)))), v4, ?_⟩
      · by_cases h1 : dV x 5 = 1
        · rw [if_pos h1] at hw
          rw [if_neg (fun z => z (by rw [h1]; rfl)), hw]
          simp only [tIs, tVs, bs, if_true, true_or, or_true, i10, if_false, not_false_eq_true, not_true_eq_false, Wp_rc, Wp_f5, Wp_f6, Wp_f7, Wp_f8, Wp_f9, Wp_f10, Wp_f11, Wp_f12, Wp_f13, Wp_f14, St_rc isSt_39, e4]
        · rw [if_neg h1] at hw
          rw [if_pos (by rw [show (1 : Int32) = nI 1 from rfl, nI_eq (by omega) (by decide)]; exact h1), hw]
          simp only [tIs, tVs, bs, if_true, true_or, or_true, i10, if_false, not_false_eq_true, not_true_eq_false, Wp_rc, Wp_f5, Wp_f6, Wp_f7, Wp_f8, Wp_f9, Wp_f10, Wp_f11, Wp_f12, Wp_f13, Wp_f14, St_rc isSt_39, e4]
      · rw [s4.J (by decide), x3]
theorem okS_dD {n : Nat} {y : aS × Nat} (hn : 0 < n) (ok : okS n c y.1) : okS n c (dD n y).1 ∧ (dD n y).2 < 2 ^ 31 := by
  unfold dD
  split
  · exact ⟨ok, dN_lt _⟩
  · split
    · refine ⟨?_, dN_lt _⟩
      dsimp only
      split
      · exact ok
      · exact okS_ask ok (Nat.mod_lt _ hn)
    · exact ⟨okS_mov ok, dN_lt _⟩
theorem Q_sJ {y : Int64} : Q m (sJ m 175 29 y) := ⟨Same.sJ (by decide), fun j _ _ => by rw [gI_sJ], fun i _ => by rw [gA_sJ]⟩
theorem vm_sJ {y : Int64} : vm (sJ m 175 29 y) b = vm m b := by unfold vm; rw [gA_sJ]
theorem m_drawsDeed {y : aS × Nat} (hR : RM m π) (hn : 0 < π.1) (hv : vm m 1122 = y.1) (hx : gJ m 175 29 = lN y.2) (hx' : y.2 < 2 ^ 31) : ∃ m', pM X m_Md_drawsDeed [.ref 175] (hp m) = some (none, hp m') ∧ Q m m' ∧ vm m' 1122 = (dD π.1 y).1 ∧ gJ m' 175 29 = lN (dD π.1 y).2 := by
  have hn6 := hR.1
  obtain ⟨t, x⟩ := y
  dsimp only at hv hx hx'
  obtain ⟨m1, e1, ⟨y1, s1⟩, x1⟩ := m_draw (X := X) (B := 5) hx hx' (n := 5) (by decide) (by decide) rfl
  have l5 : dV x 5 < 5 := Nat.mod_lt _ (by decide)
  rw [e_Md_drawsDeed, u_Md_drawsDeed_0]
  simp only [tIs, tVs, bs, if_true, true_or, or_true, i10, if_false, not_false_eq_true, not_true_eq_false, Md_rc, Md_f1, Md_f4, Md_f5, Md_f6, Md_f9, Md_f10, Md_f11, Md_f12, Md_f14, Md_f15, Md_f18, Md_f19, Md_f20, Md_f21, Md_f23, Md_f24, Md_f25, Md_f26, Md_f28, e1]
  have v1 : vm m1 1122 = t := by rw [s1, vm_sJ, hv]
  have q1 : Q m m1 := by rw [s1]; exact Q_sJ
  have R1 : RM m1 π := hR.same q1.1 (by decide) (by decide) (by decide)
  unfold dD
  dsimp only
  by_cases h0 : dV x 5 = 0
  · rw [if_neg (fun z => z (by rw [h0]; rfl))]
    obtain ⟨m2, e2, ⟨y2, s2⟩, x2⟩ := m_draw (X := X) (B := nI π.1) x1 (dN_lt x) hn (by omega) rfl
    have l2 : dV (dN x) π.1 < π.1 := Nat.mod_lt _ hn
    have v2 : vm m2 1122 = t := by rw [s2, vm_sJ, v1]
    have q2 : Q m1 m2 := by rw [s2]; exact Q_sJ
    have R2 : RM m2 π := R1.same q2.1 (by decide) (by decide) (by decide)
    obtain ⟨m3, e3, ⟨y3, s3⟩, x3⟩ := m_draw (X := X) (B := nI π.1) x2 (dN_lt _) hn (by omega) rfl
    have l3 : dV (dN (dN x)) π.1 < π.1 := Nat.mod_lt _ hn
    have v3 : vm m3 1122 = t := by rw [s3, vm_sJ, v2]
    have q3 : Q m2 m3 := by rw [s3]; exact Q_sJ
    simp only [tIs, tVs, bs, if_true, true_or, or_true, i10, if_false, not_false_eq_true, not_true_eq_false, Md_rc, Md_f1, Md_f4, Md_f5, Md_f6, Md_f9, Md_f10, Md_f11, Md_f12, Md_f14, Md_f15, Md_f18, Md_f19, Md_f20, Md_f21, Md_f23, Md_f24, Md_f25, Md_f26, Md_f28, m_n R1, e2, m_n R2, e3, if_neg (show ¬ 2 < dV x 5 by omega), if_pos h0, u_Md_drawsDeed_42, u_Md_drawsDeed_87]
    simp only [nI_eq (show dV (dN x) π.1 < 2 ^ 31 by omega) (show dV (dN (dN x)) π.1 < 2 ^ 31 by omega)]
    by_cases hwo : dV (dN x) π.1 = dV (dN (dN x)) π.1
    · refine ⟨m3, ?_, q1.tr (q2.tr q3), ?_, x3⟩
      · rw [if_pos hwo]
      · rw [if_pos hwo, v3]
    · obtain ⟨m4, e4, s4, v4⟩ := n_ask (X := X) (m := m3) (B := 1122) (k := dV (dN x) π.1) (o := dV (dN (dN x)) π.1) v3 rfl (by decide) (by omega) (by omega)
      refine ⟨m4, ?_, q1.tr (q2.tr (q3.tr (Q.ofM s4 (by decide)))), ?_, ?_⟩
      · rw [if_neg hwo]
        simp only [tIs, tVs, bs, if_true, true_or, or_true, i10, if_false, not_false_eq_true, not_true_eq_false, Md_rc, Md_f1, Md_f4, Md_f5, Md_f6, Md_f9, Md_f10, Md_f11, Md_f12, Md_f14, Md_f15, Md_f18, Md_f19, Md_f20, Md_f21, Md_f23, Md_f24, Md_f25, Md_f26, Md_f28, e4]
      · rw [if_neg hwo, v4]
      · rw [s4.1.J (by decide), x3]
  · rw [if_pos (by rw [show (0 : Int32) = nI 0 from rfl, nI_eq (by omega) (by decide)]; exact h0)]
    by_cases h2 : 2 < dV x 5
    · refine ⟨m1, ?_, q1, ?_, ?_⟩
      · rw [if_pos (show (3 : Int32) ≤ nI (dV x 5) from nI_le (a := 3) (by omega) (by omega)), u_Md_drawsDeed_87]
      · rw [if_pos h2, v1]
      · rw [if_pos h2, x1]
    · rw [if_neg (show ¬ (3 : Int32) ≤ nI (dV x 5) from nI_ge (b := 3) (by omega) (by decide))]
      obtain ⟨m2, e2, ⟨y2, s2⟩, x2⟩ := m_draw (X := X) (B := nI π.1) x1 (dN_lt x) hn (by omega) rfl
      have l2 : dV (dN x) π.1 < π.1 := Nat.mod_lt _ hn
      have v2 : vm m2 1122 = t := by rw [s2, vm_sJ, v1]
      have q2 : Q m1 m2 := by rw [s2]; exact Q_sJ
      obtain ⟨m3, e3, ⟨y3, s3⟩, x3⟩ := m_draw (X := X) (B := 30) x2 (dN_lt _) (n := 30) (by decide) (by decide) rfl
      have v3 : vm m3 1122 = t := by rw [s3, vm_sJ, v2]
      have q3 : Q m2 m3 := by rw [s3]; exact Q_sJ
      simp only [tIs, tVs, bs, if_true, true_or, or_true, i10, if_false, not_false_eq_true, not_true_eq_false, Md_rc, Md_f1, Md_f4, Md_f5, Md_f6, Md_f9, Md_f10, Md_f11, Md_f12, Md_f14, Md_f15, Md_f18, Md_f19, Md_f20, Md_f21, Md_f23, Md_f24, Md_f25, Md_f26, Md_f28, m_n R1, e2, e3, if_neg h2, if_neg h0, u_Md_drawsDeed_84, u_Md_drawsDeed_87, nI_1]
      generalize hw : (if dV x 5 = 1 then nI (dV (dN (dN x)) 30 + 1) else -nI (dV (dN (dN x)) 30 + 1) : Int32) = w
      obtain ⟨m4, e4, s4, v4⟩ := n_move (X := X) (m := m3) (B := 1122) (k := dV (dN x) π.1) (v := w) v3 rfl (by decide) (by omega)
      refine ⟨m4, ?_, q1.tr (q2.tr (q3.tr (Q.ofM s4 (by decide)))), v4, ?_⟩
      · by_cases h1 : dV x 5 = 1
        · rw [if_pos h1] at hw
          rw [if_neg (fun z => z (by rw [h1]; rfl)), hw]
          simp only [tIs, tVs, bs, if_true, true_or, or_true, i10, if_false, not_false_eq_true, not_true_eq_false, Md_rc, Md_f1, Md_f4, Md_f5, Md_f6, Md_f9, Md_f10, Md_f11, Md_f12, Md_f14, Md_f15, Md_f18, Md_f19, Md_f20, Md_f21, Md_f23, Md_f24, Md_f25, Md_f26, Md_f28, e4]
        · rw [if_neg h1] at hw
          rw [if_pos (by rw [show (1 : Int32) = nI 1 from rfl, nI_eq (by omega) (by decide)]; exact h1), hw]
          simp only [tIs, tVs, bs, if_true, true_or, or_true, i10, if_false, not_false_eq_true, not_true_eq_false, Md_rc, Md_f1, Md_f4, Md_f5, Md_f6, Md_f9, Md_f10, Md_f11, Md_f12, Md_f14, Md_f15, Md_f18, Md_f19, Md_f20, Md_f21, Md_f23, Md_f24, Md_f25, Md_f26, Md_f28, e4]
      · rw [s4.1.J (by decide), x3]
def gYe (π : aP) (y : aS × Nat) : aS × Nat := ((aPQ π (if 0 < π.1 then dD π.1 y else y).1).1, (if 0 < π.1 then dD π.1 y else y).2)
theorem years_w {w : Nat} (hC : HC m P π s) {a : Nat} (hq : q ≤ 99) {m1 : pm_M} (s1 : Same YL m m1) (v1 : vw m1 39 = s) (x1 : gJ m1 120 0 = lN w) (hw : w < 2 ^ 31) {vs vw' : Int32} : ∃ m', f_Wp_years_55 X 0 vs (nI q) vw' (nI 0) (hp m1) = f_Wp_years_55 X 0 vs (nI q) vw' (nI q) (hp m') ∧ Same YL m m' ∧ vw m' 39 = (fr (fun _ => gYe π) q 0 (s, w)).1 := by
  have hn := hC.n6
  obtain ⟨-, m', h2, h3, h4, -⟩ := lg (n := q) (F := fun (_ : Unit) (y : aS × Nat) i m => f_Wp_years_55 X 0 vs (nI q) vw' (nI i) (hp m)) (R := fun _ y m' => Same YL m m' ∧ vw m' 39 = y.1 ∧ gJ m' 120 0 = lN y.2 ∧ y.2 < 2 ^ 31) (g := fun _ => gYe π) (fun _ y i m2 hi hr => by
    obtain ⟨r1, r2, r3, r4⟩ := hr
    have hC2 : HC m2 P π s := hC.q (Q.of r1 (by decide) (by decide) (by decide))
    have go : ∀ (m3 : pm_M) (y' : aS × Nat), Same YL m2 m3 → vw m3 39 = y'.1 → gJ m3 120 0 = lN y'.2 → y'.2 < 2 ^ 31 → (if 0 < π.1 then dD π.1 y else y) = y' → ∃ o' m4, f_Wp_years_82 X 0 vs (nI q) vw' (nI i) (hp m3) = (fun (_ : Unit) (y : aS × Nat) i m => f_Wp_years_55 X 0 vs (nI q) vw' (nI i) (hp m)) o' (gYe π y) (i + 1) m4 ∧ Same YL m m4 ∧ vw m4 39 = (gYe π y).1 ∧ gJ m4 120 0 = lN (gYe π y).2 ∧ (gYe π y).2 < 2 ^ 31 := by
      intro m3 y' t1 t2 t3 t4 hy
      have hC3 : HC m3 P π s := hC2.q (Q.of t1 (by decide) (by decide) (by decide))
      obtain ⟨m4, e4, s4, v4⟩ := t_pass (X := X) hC3 t2
      refine ⟨(), m4, ?_, r1.tr (t1.tr (s4.mono (by decide))), ?_, ?_, ?_⟩
      · rw [u_Wp_years_82]
        simp only [tIs, tVs, bs, if_true, true_or, or_true, i10, if_false, not_false_eq_true, not_true_eq_false, Wp_rc, Wp_f5, Wp_f6, Wp_f7, Wp_f8, Wp_f9, Wp_f10, Wp_f11, Wp_f12, Wp_f13, Wp_f14, hC3.f1, hC3.rc, e4, nI_1]
      · unfold gYe; rw [hy]; exact v4
      · unfold gYe; rw [hy]; rw [s4.J (by decide)]; exact t3
      · unfold gYe; rw [hy]; exact t4
    rw [u_Wp_years_55, if_neg (nI_ge hi (by omega))]
    simp only [tIs, tVs, bs, if_true, true_or, or_true, i10, if_false, not_false_eq_true, not_true_eq_false, Wp_rc, Wp_f5, Wp_f6, Wp_f7, Wp_f8, Wp_f9, Wp_f10, Wp_f11, Wp_f12, Wp_f13, Wp_f14, hC2.f1, hC2.sz]
    by_cases h0 : 0 < π.1
    · rw [if_neg (nI_nle h0 (by omega))]
      obtain ⟨m3, e3, t1, t2, t3⟩ := w_drawOne (X := X) hC2 h0 r2 r3 r4
      simp only [tIs, tVs, bs, if_true, true_or, or_true, i10, if_false, not_false_eq_true, not_true_eq_false, Wp_rc, Wp_f5, Wp_f6, Wp_f7, Wp_f8, Wp_f9, Wp_f10, Wp_f11, Wp_f12, Wp_f13, Wp_f14, e3]
      exact go m3 (dD π.1 y) t1 t2 t3 (by unfold dD; split; exact dN_lt _; split <;> exact dN_lt _) (by rw [if_pos h0])
    · rw [if_pos (show nI π.1 ≤ 0 from nI_le (b := 0) (by omega) (by decide))]
      exact go m2 y Same.rf r2 r3 r4 (by rw [if_neg h0])) q 0 () (s, w) m1 (by omega) ⟨s1, v1, x1, hw⟩
  exact ⟨m', h2, h3, h4⟩
theorem years_m {w : Nat} (hM : HM m π s c) (hq : q ≤ 99) {m1 : pm_M} (s1 : Q m m1) (v1 : vm m1 1122 = s) (x1 : gJ m1 175 29 = lN w) (hw : w < 2 ^ 31) {vs vw' : Int32} : ∃ m', f_Md_years_56 X 175 vs (nI q) vw' (nI 0) (hp m1) = f_Md_years_56 X 175 vs (nI q) vw' (nI q) (hp m') ∧ Q m m' ∧ vm m' 1122 = (fr (fun _ => gYe π) q 0 (s, w)).1 ∧ okS π.1 (c + q) (fr (fun _ => gYe π) q 0 (s, w)).1 := by
  have hn := hM.1.1
  have hc := hM.2.2.2
  obtain ⟨-, m', h2, h3, h4, -, -, h5⟩ := lg (n := q) (F := fun (_ : Unit) (y : aS × Nat) i m => f_Md_years_56 X 175 vs (nI q) vw' (nI i) (hp m)) (R := fun i y m' => Q m m' ∧ vm m' 1122 = y.1 ∧ gJ m' 175 29 = lN y.2 ∧ y.2 < 2 ^ 31 ∧ okS π.1 (c + i) y.1) (g := fun _ => gYe π) (fun _ y i m2 hi hr => by
    obtain ⟨r1, r2, r3, r4, r5⟩ := hr
    have hM2 := hM.q r1
    have go : ∀ (m3 : pm_M) (y' : aS × Nat), Q m2 m3 → vm m3 1122 = y'.1 → gJ m3 175 29 = lN y'.2 → y'.2 < 2 ^ 31 → okS π.1 (c + i) y'.1 → (if 0 < π.1 then dD π.1 y else y) = y' → ∃ o' m4, f_Md_years_73 X 175 vs (nI q) vw' (nI i) (hp m3) = (fun (_ : Unit) (y : aS × Nat) i m => f_Md_years_56 X 175 vs (nI q) vw' (nI i) (hp m)) o' (gYe π y) (i + 1) m4 ∧ Q m m4 ∧ vm m4 1122 = (gYe π y).1 ∧ gJ m4 175 29 = lN (gYe π y).2 ∧ (gYe π y).2 < 2 ^ 31 ∧ okS π.1 (c + (i + 1)) (gYe π y).1 := by
      intro m3 y' t1 t2 t3 t4 t5 hy
      have hM3 := hM2.q t1
      obtain ⟨m4, e4, s4, v4⟩ := n_pass (X := X) (B := 1122) hM3.1 t2 t5 rfl (by decide) (by omega)
      refine ⟨(), m4, ?_, r1.tr (t1.tr (Q.ofM s4 (by decide))), ?_, ?_, ?_, ?_⟩
      · rw [u_Md_years_73]
        simp only [tIs, tVs, bs, if_true, true_or, or_true, i10, if_false, not_false_eq_true, not_true_eq_false, Md_rc, Md_f1, Md_f4, Md_f5, Md_f6, Md_f9, Md_f10, Md_f11, Md_f12, Md_f14, Md_f15, Md_f18, Md_f19, Md_f20, Md_f21, Md_f23, Md_f24, Md_f25, Md_f26, Md_f28, e4, nI_1]
      · unfold gYe; rw [hy]; exact v4
      · unfold gYe; rw [hy]; rw [s4.1.J (by decide)]; exact t3
      · unfold gYe; rw [hy]; exact t4
      · unfold gYe; rw [hy]; exact okS_aPQ (RM_okA hM.1) t5
    rw [u_Md_years_56, if_neg (nI_ge hi (by omega))]
    simp only [tIs, tVs, bs, if_true, true_or, or_true, i10, if_false, not_false_eq_true, not_true_eq_false, Md_rc, Md_f1, Md_f4, Md_f5, Md_f6, Md_f9, Md_f10, Md_f11, Md_f12, Md_f14, Md_f15, Md_f18, Md_f19, Md_f20, Md_f21, Md_f23, Md_f24, Md_f25, Md_f26, Md_f28, m_n hM2.1]
    by_cases h0 : 0 < π.1
    · rw [if_neg (nI_nle h0 (by omega))]
      obtain ⟨m3, e3, t1, t2, t3⟩ := m_drawsDeed (X := X) hM2.1 h0 r2 r3 r4
      have okd := okS_dD h0 r5
      simp only [tIs, tVs, bs, if_true, true_or, or_true, i10, if_false, not_false_eq_true, not_true_eq_false, Md_rc, Md_f1, Md_f4, Md_f5, Md_f6, Md_f9, Md_f10, Md_f11, Md_f12, Md_f14, Md_f15, Md_f18, Md_f19, Md_f20, Md_f21, Md_f23, Md_f24, Md_f25, Md_f26, Md_f28, e3]
      exact go m3 (dD π.1 y) t1 t2 t3 okd.2 okd.1 (by rw [if_pos h0])
    · rw [if_pos (show nI π.1 ≤ 0 from nI_le (b := 0) (by omega) (by decide))]
      exact go m2 y Q.rf r2 r3 r4 r5 (by rw [if_neg h0])) q 0 () (s, w) m1 (by omega) ⟨s1, v1, x1, hw, hM.2.2.1⟩
  exact ⟨m', h2, h3, h4, h5⟩
theorem q_years (hC : HC m P π s) (hM : HM m π s c) (p1 p2 p3 : Int32) : Ag X m_Wp_years m_Md_years [.int p1, .int p2, .int p3] m := by
  have hn := hC.n6
  have hv := hC.2.2.2.2
  have hc := hM.2.2.2
  rcases wthL p1 (L := 0) (U := 9999) (l := 0) (u := 9999) rfl rfl (by decide) (by decide) with ⟨w, a0, a1, rfl⟩ | hb
  · rcases wthL p2 (L := 1) (U := 99) (l := 1) (u := 99) rfl rfl (by decide) (by decide) with ⟨q, b0, b1, rfl⟩ | hb
    · rcases wthL p3 (L := 0) (U := 2) (l := 0) (u := 2) rfl rfl (by decide) (by decide) with ⟨z, c0, c1, rfl⟩ | hb
      · have inw : ∀ h, pM X m_Wp_isWithin [.int (nI w), .int 0, .int 9999] h = some (some (.int 1), h) := fun h => w_in1 (in_l (L := 0) rfl a0 (by omega)) (in_u (U := 9999) rfl a1 (by decide))
        have inq : ∀ h, pM X m_Wp_isWithin [.int (nI q), .int 1, .int 99] h = some (some (.int 1), h) := fun h => w_in1 (in_l (L := 1) rfl b0 (by omega)) (in_u (U := 99) rfl b1 (by decide))
        have inz : ∀ h, pM X m_Wp_isWithin [.int (nI z), .int 0, .int 2] h = some (some (.int 1), h) := fun h => w_in1 (in_l (L := 0) rfl c0 (by omega)) (in_u (U := 2) rfl c1 (by decide))
        have jnw : ∀ h, pM X m_Md_within [.int (nI w), .int 0, .int 9999] h = some (some (.int 1), h) := fun h => m_in1 (in_l (L := 0) rfl a0 (by omega)) (in_u (U := 9999) rfl a1 (by decide))
        have jnq : ∀ h, pM X m_Md_within [.int (nI q), .int 1, .int 99] h = some (some (.int 1), h) := fun h => m_in1 (in_l (L := 1) rfl b0 (by omega)) (in_u (U := 99) rfl b1 (by decide))
        have jnz : ∀ h, pM X m_Md_within [.int (nI z), .int 0, .int 2] h = some (some (.int 1), h) := fun h => m_in1 (in_l (L := 0) rfl c0 (by omega)) (in_u (U := 2) rfl c1 (by decide))
        generalize hT : (fr (fun _ => gYe π) q 0 (s, w)).1 = T
        refine Ag.mk (if z = 0 then sm π.1 T.2.2.1 - sm π.1 s.2.2.1 else if z = 1 then aWx π.1 T else sm π.1 T.2.1) ?_ (fun m1 hq => ?_)
        · unfold Gi
          rw [e_Wp_years, u_Wp_years_0]
          simp only [tIs, tVs, bs, if_true, true_or, or_true, i10, if_false, not_false_eq_true, not_true_eq_false, Wp_rc, Wp_f5, Wp_f6, Wp_f7, Wp_f8, Wp_f9, Wp_f10, Wp_f11, Wp_f12, Wp_f13, Wp_f14, inw, inq, inz]
          rw [hp_pJ Dr_T rfl, nI_l (by omega)]
          have s0 : Same YL m (sJ m 120 0 (lN w)) := Same.sJ (by decide)
          have hC0 : HC (sJ m 120 0 (lN w)) P π s := hC.q (Q.of s0 (by decide) (by decide) (by decide))
          obtain ⟨m1, e1, s1, v1⟩ := t_copy (X := X) hC0
          simp only [tIs, tVs, bs, if_true, true_or, or_true, i10, if_false, not_false_eq_true, not_true_eq_false, Wp_rc, Wp_f5, Wp_f6, Wp_f7, Wp_f8, Wp_f9, Wp_f10, Wp_f11, Wp_f12, Wp_f13, Wp_f14, St_rc isSt_39, e1]
          obtain ⟨m2, e2, s2, v2⟩ := years_w (X := X) (q := q) (w := w) (a := 0) (vs := nI w) (vw' := nI z) hC b1 (s0.tr (s1.mono (by decide))) v1 (by rw [s1.J (by decide), gJ_sJ, if_pos ⟨rfl, rfl⟩]) (by omega)
          rw [hT] at v2
          have q2 : Q m m2 := Q.of s2 (by decide) (by decide) (by decide)
          have hC2 := hC.q q2
          refine ⟨m2, ?_, q2⟩
          refine Eq.trans (b := f_Wp_years_55 X 0 (nI w) (nI q) (nI z) (nI 0) (hp m1)) rfl ?_
          rw [e2, u_Wp_years_55, if_pos (nI_le (Nat.le_refl _) (by omega))]
          simp only [tIs, tVs, bs, if_true, true_or, or_true, i10, if_false, not_false_eq_true, not_true_eq_false, Wp_rc, Wp_f5, Wp_f6, Wp_f7, Wp_f8, Wp_f9, Wp_f10, Wp_f11, Wp_f12, Wp_f13, Wp_f14, w_allBeats hC2 isSt_39 v2, w_worstOut hC2 isSt_39 v2, w_allAsked hC2 isSt_39 v2, w_allAsked hC2 isSt_35 hC2.2.2.2.2, u_Wp_years_146]
          have : z = 0 ∨ z = 1 ∨ z = 2 := by omega
          rcases this with rfl | rfl | rfl <;> rfl
        · obtain ⟨m2, e2, q2⟩ := m_t0 (m := m1)
          have hM2 := hM.q (hq.tr q2)
          obtain ⟨m3, e3, s3, h3⟩ := m_copies (X := X) (m := m2) (f := 0) (g := 1122) (n := 19) (vf := 0) (vg := 1122) (vn := 19) rfl rfl rfl (by decide) (by decide) (by decide)
          have q3 : Q m2 m3 := ⟨s3.mono (by decide), fun _ _ _ => s3.I (by decide), fun i hi => by rw [h3, if_neg (by omega)]⟩
          unfold Gi
          rw [e_Md_years, u_Md_years_0, e2]
          simp only [tIs, tVs, bs, if_true, true_or, or_true, i10, if_false, not_false_eq_true, not_true_eq_false, Md_rc, Md_f1, Md_f4, Md_f5, Md_f6, Md_f9, Md_f10, Md_f11, Md_f12, Md_f14, Md_f15, Md_f18, Md_f19, Md_f20, Md_f21, Md_f23, Md_f24, Md_f25, Md_f26, Md_f28, jnw, jnq, jnz, e3]
          rw [Md_p29, nI_l (by omega)]
          simp only [tIs, tVs, bs, if_true, true_or, or_true, i10, if_false, not_false_eq_true, not_true_eq_false, Md_rc, Md_f1, Md_f4, Md_f5, Md_f6, Md_f9, Md_f10, Md_f11, Md_f12, Md_f14, Md_f15, Md_f18, Md_f19, Md_f20, Md_f21, Md_f23, Md_f24, Md_f25, Md_f26, Md_f28]
          obtain ⟨m5, e5, q5, v5, ok5⟩ := years_m (X := X) (q := q) (w := w) (vs := nI w) (vw' := nI z) (m1 := sJ m3 175 29 (lN w)) (hM.q hq) b1 (q2.tr (q3.tr Q_sJ)) (by rw [vm_sJ, vm_copied (by decide) h3, hM2.2.1]) (by rw [gJ_sJ, if_pos ⟨rfl, rfl⟩]) (by omega)
          rw [hT] at v5 ok5
          have hM5 := (hM.q hq).q q5
          refine ⟨m5, ?_, q5⟩
          refine Eq.trans (b := f_Md_years_56 X 175 (nI w) (nI q) (nI z) (nI 0) (hp (sJ m3 175 29 (lN w)))) rfl ?_
          rw [e5, u_Md_years_56, if_pos (nI_le (Nat.le_refl _) (by omega))]
          simp only [tIs, tVs, bs, if_true, true_or, or_true, i10, if_false, not_false_eq_true, not_true_eq_false, Md_rc, Md_f1, Md_f4, Md_f5, Md_f6, Md_f9, Md_f10, Md_f11, Md_f12, Md_f14, Md_f15, Md_f18, Md_f19, Md_f20, Md_f21, Md_f23, Md_f24, Md_f25, Md_f26, Md_f28, m_sumOf (W := 1123) (w := 1123) (f := T.2.1) hM5.1 rfl (by decide) (fun k hk => vm_i1 (b := 1122) v5 (by omega)), m_sumOf (W := 1135) (w := 1135) (f := T.2.2.1) hM5.1 rfl (by decide) (fun k hk => vm_i13 (b := 1122) v5 (by omega)), m_sumOf (W := 13) (w := 13) (f := s.2.2.1) hM5.1 rfl (by decide) (fun k hk => by have := vm_i13 (b := 0) (k := k) hM5.2.1 (by omega); rw [Nat.zero_add] at this; exact this), m_farOf (B := 1122) hM5.1 v5 ok5 rfl (by decide) (show c + q ≤ 1000000 by omega), u_Md_years_129]
          have : z = 0 ∨ z = 1 ∨ z = 2 := by omega
          rcases this with rfl | rfl | rfl <;> rfl
      · refine Ag.mk (-1) ⟨m, ?_, Q.rf⟩ (fun m1 hq => ?_)
        · rw [e_Wp_years, u_Wp_years_0]
          simp only [tIs, tVs, bs, if_true, true_or, or_true, i10, if_false, not_false_eq_true, not_true_eq_false, Wp_rc, Wp_f5, Wp_f6, Wp_f7, Wp_f8, Wp_f9, Wp_f10, Wp_f11, Wp_f12, Wp_f13, Wp_f14, w_in1 (in_l (L := 0) rfl a0 (by omega)) (in_u (U := 9999) rfl a1 (by decide)), w_in1 (in_l (L := 1) rfl b0 (by omega)) (in_u (U := 99) rfl b1 (by decide)), w_in0 hb, u_Wp_years_30]
        · obtain ⟨m2, e2, q2⟩ := m_t0 (m := m1)
          refine ⟨m2, ?_, q2⟩
          rw [e_Md_years, u_Md_years_0]
          simp only [tIs, tVs, bs, if_true, true_or, or_true, i10, if_false, not_false_eq_true, not_true_eq_false, Md_rc, Md_f1, Md_f4, Md_f5, Md_f6, Md_f9, Md_f10, Md_f11, Md_f12, Md_f14, Md_f15, Md_f18, Md_f19, Md_f20, Md_f21, Md_f23, Md_f24, Md_f25, Md_f26, Md_f28, e2, m_in1 (in_l (L := 0) rfl a0 (by omega)) (in_u (U := 9999) rfl a1 (by decide)), m_in1 (in_l (L := 1) rfl b0 (by omega)) (in_u (U := 99) rfl b1 (by decide)), m_in0 hb, u_Md_years_35]
    · refine Ag.mk (-1) ⟨m, ?_, Q.rf⟩ (fun m1 hq => ?_)
      · rw [e_Wp_years, u_Wp_years_0]
        simp only [tIs, tVs, bs, if_true, true_or, or_true, i10, if_false, not_false_eq_true, not_true_eq_false, Wp_rc, Wp_f5, Wp_f6, Wp_f7, Wp_f8, Wp_f9, Wp_f10, Wp_f11, Wp_f12, Wp_f13, Wp_f14, w_in1 (in_l (L := 0) rfl a0 (by omega)) (in_u (U := 9999) rfl a1 (by decide)), w_in0 hb, u_Wp_years_30]
      · obtain ⟨m2, e2, q2⟩ := m_t0 (m := m1)
        refine ⟨m2, ?_, q2⟩
        rw [e_Md_years, u_Md_years_0]
        simp only [tIs, tVs, bs, if_true, true_or, or_true, i10, if_false, not_false_eq_true, not_true_eq_false, Md_rc, Md_f1, Md_f4, Md_f5, Md_f6, Md_f9, Md_f10, Md_f11, Md_f12, Md_f14, Md_f15, Md_f18, Md_f19, Md_f20, Md_f21, Md_f23, Md_f24, Md_f25, Md_f26, Md_f28, e2, m_in1 (in_l (L := 0) rfl a0 (by omega)) (in_u (U := 9999) rfl a1 (by decide)), m_in0 hb, u_Md_years_35]
  · refine Ag.mk (-1) ⟨m, ?_, Q.rf⟩ (fun m1 hq => ?_)
    · rw [e_Wp_years, u_Wp_years_0]
      simp only [tIs, tVs, bs, if_true, true_or, or_true, i10, if_false, not_false_eq_true, not_true_eq_false, Wp_rc, Wp_f5, Wp_f6, Wp_f7, Wp_f8, Wp_f9, Wp_f10, Wp_f11, Wp_f12, Wp_f13, Wp_f14, w_in0 hb, u_Wp_years_30]
    · obtain ⟨m2, e2, q2⟩ := m_t0 (m := m1)
      refine ⟨m2, ?_, q2⟩
      rw [e_Md_years, u_Md_years_0]
      simp only [tIs, tVs, bs, if_true, true_or, or_true, i10, if_false, not_false_eq_true, not_true_eq_false, Md_rc, Md_f1, Md_f4, Md_f5, Md_f6, Md_f9, Md_f10, Md_f11, Md_f12, Md_f14, Md_f15, Md_f18, Md_f19, Md_f20, Md_f21, Md_f23, Md_f24, Md_f25, Md_f26, Md_f28, e2, m_in0 hb, u_Md_years_35]
end Q9
