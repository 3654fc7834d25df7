/-! feed; rests of the reference. -/
def sh (i : Nat) : Int32 := (56 : Int32) - 8 * nI i
theorem sh_s : ∀ i, i < 8 → sh i + (-8) = sh (i + 1) ∧ ¬ sh i < 0 := by decide
def chC (v : Int64) (i : Nat) : Int32 := (((v : Int64).toUInt64 >>> ((sh i : Int32).toInt64.toUInt64 &&& Int64.toUInt64 63)).toInt64 : Int64).toInt32 &&& 255
def chD (v : Int64) (i : Nat) : Int32 := (((v : Int64) >>> ((sh i : Int32).toInt64 &&& 63)) : Int64).toInt32 &&& 255
theorem byte_eq (v : Int64) (k : Nat) (hk : k ≤ 56) (u : UInt64) (hu : (u.toBitVec % 64).toNat = k) (w : Int64) (hw : (w.toBitVec.smod 64).toNat = k) : ((v.toUInt64 >>> u).toInt64.toInt32 &&& 255 : Int32) = ((v >>> w).toInt32 &&& 255) := by
  apply Int32.toBitVec_inj.mp
  rw [Int32.toBitVec_and, Int32.toBitVec_and]
  apply BitVec.eq_of_getLsbD_eq
  intro i hi
  rw [BitVec.getLsbD_and, BitVec.getLsbD_and]
  have h255 : (255 : Int32).toBitVec.getLsbD i = decide (i < 8) := by
    have : ∀ j, j < 32 → (255 : Int32).toBitVec.getLsbD j = decide (j < 8) := by decide
    exact this i hi
  rw [h255]
  by_cases h8 : i < 8
  · have e1 : ((v.toUInt64 >>> u).toInt64.toInt32).toBitVec.getLsbD i = v.toBitVec.getLsbD (k + i) := by
      show (BitVec.signExtend 32 (v.toUInt64 >>> u).toBitVec).getLsbD i = _
      rw [BitVec.getLsbD_signExtend, UInt64.toBitVec_shiftRight]
      have : (v.toUInt64.toBitVec >>> (u.toBitVec % 64)).getLsbD i = v.toBitVec.getLsbD (k + i) := by
        rw [BitVec.ushiftRight_eq', BitVec.getLsbD_ushiftRight, hu]
        rfl
      rw [this]
      simp [hi]
      omega
    have e2 : ((v >>> w).toInt32).toBitVec.getLsbD i = v.toBitVec.getLsbD (k + i) := by
      show (BitVec.signExtend 32 (v >>> w).toBitVec).getLsbD i = _
      rw [BitVec.getLsbD_signExtend, Int64.toBitVec_shiftRight]
      have : (v.toBitVec.sshiftRight' (w.toBitVec.smod 64)).getLsbD i = v.toBitVec.getLsbD (k + i) := by
        show (v.toBitVec.sshiftRight (w.toBitVec.smod 64).toNat).getLsbD i = _
        rw [BitVec.getLsbD_sshiftRight, hw]
        have hA : ¬ 64 ≤ i := by omega
        have hB : k + i < 64 := by omega
        simp only [hA, hB, decide_false, Bool.not_false, Bool.true_and, if_true]
      rw [this]
      simp [hi]
      omega
    rw [e1, e2]
  · simp [h8]
theorem ch_eq (v : Int64) : ∀ i, i < 8 → chC v i = chD v i
  | 0, _ => byte_eq v 56 (by decide) _ (by decide) _ (by decide)
  | 1, _ => byte_eq v 48 (by decide) _ (by decide) _ (by decide)
  | 2, _ => byte_eq v 40 (by decide) _ (by decide) _ (by decide)
  | 3, _ => byte_eq v 32 (by decide) _ (by decide) _ (by decide)
  | 4, _ => byte_eq v 24 (by decide) _ (by decide) _ (by decide)
  | 5, _ => byte_eq v 16 (by decide) _ (by decide) _ (by decide)
  | 6, _ => byte_eq v 8 (by decide) _ (by decide) _ (by decide)
  | 7, _ => byte_eq v 0 (by decide) _ (by decide) _ (by decide)
  | n + 8, h => absurd h (by omega)
def chN (v : Int64) (i : Nat) : Nat := (chD v i).toNatClampNeg
theorem chN_ok (v : Int64) (i : Nat) : chD v i = nI (chN v i) ∧ chN v i < 256 := by
  obtain ⟨j, h1, h2⟩ := pk_andE ((v >>> ((sh i).toInt64 &&& 63)).toInt32) (m := 255) 8 (by decide)
  unfold chN chD
  rw [h2, nI_clamp (by omega)]
  exact ⟨rfl, by omega⟩
def okb (x : Nat) : Bool := decide (x = 10) || (decide (32 ≤ x) && decide (x ≤ 126))
theorem okb_iff {x : Nat} : okb x = true ↔ okch x := by unfold okb okch; simp
def fd (x : Nat) (tp : aT) : aT := if okb x && decide (tp.1 < 1000) then (tp.1 + 1, fun i => if i = tp.1 then x else tp.2 i) else tp
def fdL (v : Int64) (tp : aT) : aT := fr (fun i tp => fd (chN v i) tp) 8 0 tp
def okTp (tp : aT) : Prop := tp.1 ≤ 1000 ∧ ∀ i, i < tp.1 → okch (tp.2 i)
theorem okTp_fd {x : Nat} {tp : aT} (h : okTp tp) : okTp (fd x tp) := by
  unfold fd
  by_cases hx : (okb x && decide (tp.1 < 1000)) = true
  · rw [if_pos hx]
    rw [Bool.and_eq_true, decide_eq_true_eq] at hx
    refine ⟨by dsimp only; omega, fun i hi => ?_⟩
    dsimp only at hi ⊢
    by_cases he : i = tp.1
    · rw [if_pos he]; exact okb_iff.mp hx.1
    · rw [if_neg he]; exact h.2 i (by omega)
  · rw [if_neg hx]; exact h
theorem okTp_fdL {v : Int64} {tp : aT} (h : okTp tp) : okTp (fdL v tp) := fr_inv (n := 8) (R := fun _ tp => okTp tp) (g := fun i tp => fd (chN v i) tp) (fun _ _ _ h => okTp_fd h) 8 0 tp (by omega) h
section FED
variable {m : pm_M} {X : pv_X} {c P a : Nat} {π : aP} {s b : aS} {C T : aC} {D : aD} {hs : List aS} {mk : aK} {tp : aT} {nm : aN} {v : Int64}
theorem Tp_f0 : pv_fR (hp m) 1 9 0 = some 2 := hp_fR Tp_T rfl
theorem Tp_f1 : pv_fI (hp m) 1 9 1 = some (gI m 1 1) := hp_fI Tp_T rfl
theorem Tp_p1 {v : Int32} : pv_fp (hp m) 1 9 1 (.int v) = some (hp (sI m 1 1 v)) := hp_pI Tp_T rfl
theorem Tp_rc : pv_rc (hp m) 1 9 = true := hp_rc Tp_T
theorem T_2 : pm_T[2]? = some (.inl (0, 1000)) := rfl
theorem ch16 {x : Nat} (h : x < 256) : ((nI x).toUInt32 % 65536).toInt32 = nI x := by
  rw [pk_char, pk_tn (by omega), Nat.mod_eq_of_lt (by omega)]
theorem st_2 {k x : Nat} (hk : k < 1000) (hx : x < 256) : pv_sC (hp m) 2 (nI k) ((nI x).toUInt32 % 65536).toInt32 = some (hp (sA m 2 (upd (gA m 2) k (nI x)))) := by
  rw [hp_sC T_2, if_pos (pv_in_nI hk (by decide)), nI_clamp (by omega), pk_vc, ch16 hx]
theorem w_addBytes (h : cTap m tp) (ok : okTp tp) : ∃ m', pM X m_Tp_addBytes [.ref 1, .long v] (hp m) = some (none, hp m') ∧ Same [1, 2] m m' ∧ cTap m' (fdL v tp) := by
  rw [e_Tp_addBytes, u_Tp_addBytes_0]
  obtain ⟨⟨o1, o2⟩, m', h1, h2, h3, h4⟩ := lg (n := 8) (F := fun (o : Option Value × Option Value) (_ : aT) i m => f_Tp_addBytes_3 X 1 v (sh i) o.1 o.2 (hp m)) (R := fun _ tp' m' => Same [1, 2] m m' ∧ cTap m' tp' ∧ okTp tp') (g := fun i tp => fd (chN v i) tp) (fun o tp' i m1 hi hr => by
    obtain ⟨r1, ⟨r2, r3⟩, r4⟩ := hr
    obtain ⟨s1, s2⟩ := sh_s i hi
    obtain ⟨c1, c2⟩ := chN_ok v i
    have hch : (((v : Int64).toUInt64 >>> ((sh i : Int32).toInt64.toUInt64 &&& Int64.toUInt64 63)).toInt64 : Int64).toInt32 &&& 255 = nI (chN v i) := by
      rw [← c1, ← ch_eq v i hi]
      rfl
    rw [u_Tp_addBytes_3, if_neg s2, hch]
    simp only [u_Tp_addBytes_38, u_Tp_addBytes_42]
    have skip : ∀ z : Int32, (z = 0 ∨ 1000 ≤ tp'.1) → f_Tp_addBytes_43 X 1 v (sh i) (nI (chN v i)) o.2 z (hp m1) = f_Tp_addBytes_3 X 1 v (sh (i + 1)) (some (.int (nI (chN v i)))) (some (.int z)) (hp m1) := by
      intro z hz
      rw [u_Tp_addBytes_43, u_Tp_addBytes_82, s1]
      by_cases hz0 : z = 0
      · rw [if_pos hz0]
      · rw [if_neg hz0, Tp_f1, r2]
        simp only [tIs, tVs, bs, if_true, true_or, or_true, i10, if_false, not_false_eq_true, not_true_eq_false]
        rw [if_pos (show (1000 : Int32) ≤ nI tp'.1 from nI_le (a := 1000) (hz.resolve_left hz0) (by have := r4.1; omega))]
    have no : fd (chN v i) tp' = tp' → okb (chN v i) = false ∨ 1000 ≤ tp'.1 → ∃ o' m', f_Tp_addBytes_43 X 1 v (sh i) (nI (chN v i)) o.2 (bI (okb (chN v i))) (hp m1) = f_Tp_addBytes_3 X 1 v (sh (i + 1)) (o' : Option Value × Option Value).1 o'.2 (hp m') ∧ Same [1, 2] m m' ∧ cTap m' (fd (chN v i) tp') ∧ okTp (fd (chN v i) tp') := by
      intro e hz
      refine ⟨(some (.int (nI (chN v i))), some (.int (bI (okb (chN v i))))), m1, skip _ ?_, r1, ?_, ?_⟩
      · rcases hz with hz | hz
        · rw [hz]; exact Or.inl rfl
        · exact Or.inr hz
      · rw [e]; exact ⟨r2, r3⟩
      · rw [e]; exact r4
    have all : ∃ o' m', f_Tp_addBytes_43 X 1 v (sh i) (nI (chN v i)) o.2 (bI (okb (chN v i))) (hp m1) = f_Tp_addBytes_3 X 1 v (sh (i + 1)) (o' : Option Value × Option Value).1 o'.2 (hp m') ∧ Same [1, 2] m m' ∧ cTap m' (fd (chN v i) tp') ∧ okTp (fd (chN v i) tp') := by
      by_cases hb : okb (chN v i) = true
      · rcases Nat.lt_or_ge tp'.1 1000 with hl | hl
        · have e : fd (chN v i) tp' = (tp'.1 + 1, fun j => if j = tp'.1 then chN v i else tp'.2 j) := by unfold fd; rw [hb, decide_eq_true hl]; rfl
          refine ⟨(some (.int (nI (chN v i))), some (.int 1)), sI (sA m1 2 (upd (gA m1 2) tp'.1 (nI (chN v i)))) 1 1 (nI (tp'.1 + 1)), ?_, (r1.tr (Same.sA (by decide))).tr (Same.sI (by decide)), ?_, okTp_fd r4⟩
          · rw [hb, u_Tp_addBytes_43, if_neg (show ¬ bI true = 0 by decide), Tp_f1, r2]
            simp only [tIs, tVs, bs, if_true, true_or, or_true, i10, if_false, not_false_eq_true, not_true_eq_false]
            rw [if_neg (show ¬ (1000 : Int32) ≤ nI tp'.1 from nI_ge (b := 1000) hl (by decide)), Tp_f0]
            simp only [tIs, tVs, bs, if_true, true_or, or_true, i10, if_false, not_false_eq_true, not_true_eq_false]
            rw [st_2 hl c2]
            simp only [tIs, tVs, bs, if_true, true_or, or_true, i10, if_false, not_false_eq_true, not_true_eq_false, Tp_f1, gI_sA, r2, nI_1, Tp_p1, u_Tp_addBytes_82, s1]
            rfl
          · rw [e]
            refine ⟨gI_sI_eq, fun j hj => ?_⟩
            dsimp only at hj ⊢
            rw [gA_sI, gA_sA, if_pos rfl]
            by_cases hj' : j = tp'.1
            · rw [hj', pk_us, if_pos rfl]
            · rw [pk_un hj', if_neg hj']; exact r3 j (by omega)
        · exact no (by unfold fd; rw [decide_eq_false (show ¬ tp'.1 < 1000 by omega), Bool.and_false]; rfl) (Or.inr hl)
      · have hb' : okb (chN v i) = false := by simpa using hb
        exact no (by unfold fd; rw [hb']; rfl) (Or.inl hb')
    have k : (if nI (chN v i) = 10 then f_Tp_addBytes_43 X 1 v (sh i) (nI (chN v i)) o.2 1 (hp m1) else if nI (chN v i) < 32 then f_Tp_addBytes_43 X 1 v (sh i) (nI (chN v i)) o.2 0 (hp m1) else if 126 < nI (chN v i) then f_Tp_addBytes_43 X 1 v (sh i) (nI (chN v i)) o.2 0 (hp m1) else f_Tp_addBytes_43 X 1 v (sh i) (nI (chN v i)) o.2 1 (hp m1)) = f_Tp_addBytes_43 X 1 v (sh i) (nI (chN v i)) o.2 (bI (okb (chN v i))) (hp m1) := by
      have k1 : (nI (chN v i) = 10) ↔ chN v i = 10 := nI_eq (b := 10) (by omega) (by decide)
      have k2 : (nI (chN v i) < 32) ↔ chN v i < 32 := nI_ltI (b := 32) (by omega) (by decide)
      have k3 : (126 < nI (chN v i)) ↔ 126 < chN v i := nI_ltI (a := 126) (by decide) (by omega)
      simp only [k1, k2, k3]
      unfold okb
      by_cases h1 : chN v i = 10
      · rw [if_pos h1, decide_eq_true h1]; rfl
      · rw [if_neg h1, decide_eq_false h1]
        by_cases h2 : chN v i < 32
        · rw [if_pos h2, decide_eq_false (show ¬ 32 ≤ chN v i by omega)]; rfl
        · rw [if_neg h2, decide_eq_true (show 32 ≤ chN v i by omega)]
          by_cases h3 : 126 < chN v i
          · rw [if_pos h3, decide_eq_false (show ¬ chN v i ≤ 126 by omega)]; rfl
          · rw [if_neg h3, decide_eq_true (show chN v i ≤ 126 by omega)]; rfl
    rw [k]
    exact all) 8 0 (none, none) tp m (by omega) ⟨Same.rf, h, ok⟩
  refine ⟨m', ?_, h2, h3⟩
  refine Eq.trans (b := f_Tp_addBytes_3 X 1 v (sh 0) none none (hp m)) rfl ?_
  rw [show f_Tp_addBytes_3 X 1 v (sh 0) none none (hp m) = _ from h1, u_Tp_addBytes_3, if_pos (by decide)]
theorem m_lay (h : dTap m tp) (ok : okTp tp) : ∃ m', pM X m_Md_lay [.ref 175, .long v] (hp m) = some (none, hp m') ∧ Same [175, 176] m m' ∧ (∀ j, j ≠ 2 → gI m' 175 j = gI m 175 j) ∧ dTap m' (fdL v tp) := by
  rw [e_Md_lay, u_Md_lay_0]
  obtain ⟨o1, m', h1, h2, h3, h4, h5⟩ := lg (n := 8) (F := fun (o : Option Value) (_ : aT) i m => f_Md_lay_3 X 175 v (sh i) o (hp m)) (R := fun _ tp' m' => Same [175, 176] m m' ∧ (∀ j, j ≠ 2 → gI m' 175 j = gI m 175 j) ∧ dTap m' tp' ∧ okTp tp') (g := fun i tp => fd (chN v i) tp) (fun o tp' i m1 hi hr => by
    obtain ⟨r1, r0, ⟨r2, r3⟩, r4⟩ := hr
    obtain ⟨s1, s2⟩ := sh_s i hi
    obtain ⟨c1, c2⟩ := chN_ok v i
    have hch : (((v : Int64) >>> ((sh i : Int32).toInt64 &&& 63)) : Int64).toInt32 &&& 255 = nI (chN v i) := c1
    rw [u_Md_lay_3, if_neg s2, hch]
    have skip : f_Md_lay_69 X 175 v (sh i) (nI (chN v i)) (hp m1) = f_Md_lay_3 X 175 v (sh (i + 1)) (some (.int (nI (chN v i)))) (hp m1) := by rw [u_Md_lay_69, s1]
    have no : fd (chN v i) tp' = tp' → ∃ o' m', f_Md_lay_69 X 175 v (sh i) (nI (chN v i)) (hp m1) = f_Md_lay_3 X 175 v (sh (i + 1)) o' (hp m') ∧ Same [175, 176] m m' ∧ (∀ j, j ≠ 2 → gI m' 175 j = gI m 175 j) ∧ dTap m' (fd (chN v i) tp') ∧ okTp (fd (chN v i) tp') := by
      intro e
      refine ⟨some (.int (nI (chN v i))), m1, skip, r1, r0, ?_, ?_⟩
      · rw [e]; exact ⟨r2, r3⟩
      · rw [e]; exact r4
    have yes : okb (chN v i) = true → ∃ o' m', f_Md_lay_38 X 175 v (sh i) (nI (chN v i)) (hp m1) = f_Md_lay_3 X 175 v (sh (i + 1)) o' (hp m') ∧ Same [175, 176] m m' ∧ (∀ j, j ≠ 2 → gI m' 175 j = gI m 175 j) ∧ dTap m' (fd (chN v i) tp') ∧ okTp (fd (chN v i) tp') := by
      intro hb
      rw [u_Md_lay_38, Md_f2, r2]
      simp only [tIs, tVs, bs, if_true, true_or, or_true, i10, if_false, not_false_eq_true, not_true_eq_false, Md_rc, Md_f1, Md_f4, Md_f5, Md_f6, Md_f9, Md_f10, Md_f11, Md_f12, Md_f14, Md_f15, Md_f18, Md_f19, Md_f20, Md_f21, Md_f23, Md_f24, Md_f25, Md_f26, Md_f28]
      rcases Nat.lt_or_ge tp'.1 1000 with hl | hl
      · have e : fd (chN v i) tp' = (tp'.1 + 1, fun j => if j = tp'.1 then chN v i else tp'.2 j) := by unfold fd; rw [hb, decide_eq_true hl]; rfl
        rw [if_neg (show ¬ (1000 : Int32) ≤ nI tp'.1 from nI_ge (b := 1000) hl (by decide))]
        refine ⟨some (.int (nI (chN v i))), sI (sA m1 176 (upd (gA m1 176) tp'.1 (nI (chN v i)))) 175 2 (nI (tp'.1 + 1)), ?_, (r1.tr (Same.sA (by decide))).tr (Same.sI (by decide)), fun j hj => by rw [gI_sI_ne (Or.inr hj), gI_sA]; exact r0 j hj, ?_, okTp_fd r4⟩
        · rw [st_176 hl]
          simp only [tIs, tVs, bs, if_true, true_or, or_true, i10, if_false, not_false_eq_true, not_true_eq_false, Md_rc, Md_f1, Md_f4, Md_f5, Md_f6, Md_f9, Md_f10, Md_f11, Md_f12, Md_f14, Md_f15, Md_f18, Md_f19, Md_f20, Md_f21, Md_f23, Md_f24, Md_f25, Md_f26, Md_f28, Md_f2, gI_sA, r2, nI_1, Md_p2, u_Md_lay_69, s1]
        · rw [e]
          refine ⟨gI_sI_eq, fun j hj => ?_⟩
          dsimp only at hj ⊢
          rw [gA_sI, gA_sA, if_pos rfl]
          by_cases hj' : j = tp'.1
          · rw [hj', pk_us, if_pos rfl]
          · rw [pk_un hj', if_neg hj']; exact r3 j (by omega)
      · rw [if_pos (show (1000 : Int32) ≤ nI tp'.1 from nI_le (a := 1000) hl (by have := r4.1; omega))]
        exact no (by unfold fd; rw [decide_eq_false (show ¬ tp'.1 < 1000 by omega), Bool.and_false]; rfl)
    have k1 : (nI (chN v i) = 10) ↔ chN v i = 10 := nI_eq (b := 10) (by omega) (by decide)
    have k2 : (nI (chN v i) < 32) ↔ chN v i < 32 := nI_ltI (b := 32) (by omega) (by decide)
    have k3 : (126 < nI (chN v i)) ↔ 126 < chN v i := nI_ltI (a := 126) (by decide) (by omega)
    simp only [k1, k2, k3]
    by_cases h1 : chN v i = 10
    · rw [if_pos h1]
      exact yes (okb_iff.mpr (Or.inl h1))
    · rw [if_neg h1]
      by_cases h2 : chN v i < 32
      · rw [if_pos h2]
        exact no (by unfold fd okb; rw [decide_eq_false h1, decide_eq_false (show ¬ 32 ≤ chN v i by omega)]; rfl)
      · rw [if_neg h2]
        by_cases h3 : 126 < chN v i
        · rw [if_pos h3]
          exact no (by unfold fd okb; rw [decide_eq_false h1, decide_eq_false (show ¬ chN v i ≤ 126 by omega), Bool.and_false]; rfl)
        · rw [if_neg h3]
          exact yes (okb_iff.mpr (Or.inr ⟨by omega, by omega⟩))) 8 0 none tp m (by omega) ⟨Same.rf, fun _ _ => rfl, h, ok⟩
  refine ⟨m', ?_, h2, h3, h4⟩
  refine Eq.trans (b := f_Md_lay_3 X 175 v (sh 0) none (hp m)) rfl ?_
  rw [show f_Md_lay_3 X 175 v (sh 0) none (hp m) = _ from h1, u_Md_lay_3, if_pos (by decide)]
theorem k_feed (h : INV m c) (hc : c < 600) (x y z : Int64) : AgI X m_Wp_feed m_Md_feed [.long x, .long y, .long z] m c := by
  obtain ⟨⟨P, a, π, s, b, C, T, D, hs, mk, tp, nm, h1, h2, h3⟩, g, hg, hgg⟩ := id h
  have ok : okTp tp := h3.2.2.2.2.2.2.2.2.1
  obtain ⟨m1, e1, q1, t1⟩ := w_addBytes (X := X) (v := x) h1.2.2.2.2.2.2.2 ok
  obtain ⟨m2, e2, q2, t2⟩ := w_addBytes (X := X) (v := y) t1 (okTp_fdL ok)
  obtain ⟨m3, e3, q3, t3⟩ := w_addBytes (X := X) (v := z) t2 (okTp_fdL (okTp_fdL ok))
  have q : Same [1, 2] m m3 := (q1.tr q2).tr q3
  obtain ⟨c1, c2, c3, c4, c5, c6, c7, c8⟩ := h1
  have CL : CLS m3 P a π s b C T D hs mk (fdL z (fdL y (fdL x tp))) nm := ⟨c1.same q (by decide), by rw [vw_same q (by decide)]; exact c2, c3.same q (by decide) (by decide) (by decide) (by decide), c4.same q (by decide) (by decide) (by decide), c5.same q (by decide), c6.same q (by decide), c7.same q (by decide), t3⟩
  have b3 := h2.same h3 q (by decide)
  have z0 : dTap (sI m3 175 0 0) tp := b3.2.2.2.2.2.2.1.same (gI_sI_ne (Or.inr (by decide))) gA_sI
  obtain ⟨m4, e4, q4, j4, t4⟩ := m_lay (X := X) (v := x) z0 ok
  obtain ⟨m5, e5, q5, j5, t5⟩ := m_lay (X := X) (v := y) t4 (okTp_fdL ok)
  obtain ⟨m6, e6, q6, j6, t6⟩ := m_lay (X := X) (v := z) t5 (okTp_fdL (okTp_fdL ok))
  have s6 : Same [175, 176] m3 m6 := (Same.sI (by decide)).tr ((q4.tr q5).tr q6)
  have jj : ∀ j, j ≠ 0 → j ≠ 2 → gI m6 175 j = gI m3 175 j := fun j h0 h2 => by rw [j6 j h2, j5 j h2, j4 j h2, gI_sI_ne (Or.inr h0)]
  obtain ⟨o1, o2, o3, o4, o5, o6, o7, o8, o9, o10⟩ := h3.up hc
  obtain ⟨d1, d2, d3, d4, d5, d6, d7, d8⟩ := b3
  have e189 : gA m6 189 = gA m3 189 := s6.A (by decide)
  refine ⟨nI (fdL z (fdL y (fdL x tp))).1, m3, m6, ?_, ?_, k_inv (c := c) (tp := fdL z (fdL y (fdL x tp))) (CL.same s6 (by decide)) ⟨d1.same s6 (jj _ (by decide) (by decide)) (by decide), by rw [← d2]; exact vm_eq (fun i _ _ => by rw [e189]), d3.same o4.1 o5.1 (fun i _ _ => by rw [e189]), d4.same (s6.A (by decide)), d5.same o7.1 (jj _ (by decide) (by decide)) (fun i _ _ => by rw [e189]), d6.same o8 (s6.A (by decide)) (fun i _ _ => by rw [e189]), t6, d8.same (s6.Lr (by decide))⟩ ⟨o1, o2, o3, o4, o5, o6, o7, o8, okTp_fdL (okTp_fdL (okTp_fdL ok)), o10⟩ hg (by rw [s6.1, q.1]; exact hgg)⟩
  · rw [e_Wp_feed, u_Wp_feed_0]
    simp only [tIs, tVs, bs, if_true, true_or, or_true, i10, if_false, not_false_eq_true, not_true_eq_false, Wp_rc, Wp_f5, Wp_f6, Wp_f7, Wp_f8, Wp_f9, Wp_f10, Wp_f11, Wp_f12, Wp_f13, Wp_f14, Wp_f0, Tp_rc, e1, e2, e3, Tp_f1, t3.1]
  · rw [e_Md_feed, u_Md_feed_0, Md_p0]
    simp only [tIs, tVs, bs, if_true, true_or, or_true, i10, if_false, not_false_eq_true, not_true_eq_false, Md_rc, Md_f1, Md_f4, Md_f5, Md_f6, Md_f9, Md_f10, Md_f11, Md_f12, Md_f14, Md_f15, Md_f18, Md_f19, Md_f20, Md_f21, Md_f23, Md_f24, Md_f25, Md_f26, Md_f28, e4, e5, e6, Md_f2, t6.1]
/-! rests -/
def gB (own other both loses gets : Int32) : Int32 := if own = 1 then (if other = 1 then both else -loses) else (if other = 1 then gets else 0)
theorem m_getsBy {p q x y z : Int32} {h : pv_H} : pM X m_Md_getsBy [.int p, .int q, .int x, .int y, .int z] h = some (some (.int (gB p q x y z)), h) := by
  rw [e_Md_getsBy, u_Md_getsBy_0]
  simp only [u_Md_getsBy_30]
  unfold gB
  by_cases h1 : p = 1 <;> by_cases h2 : q = 1 <;> simp [h1, h2]
def bt (x y z : Int32) (k : Int32) : Bool := pv_best (k / 2) (k - k / 2 * 2) x y z && pv_best (k - k / 2 * 2) (k / 2) x y z
def rstp (w : Int32) (k : Int32) (t : Bool) (x : Int32 × Int32) : Int32 × Int32 := (if t then x.1 + 1 else x.1, if t = true ∧ x.1 = w then k else x.2)
theorem pv_best_iff {p q x y z : Int32} (hp' : p = 0 ∨ p = 1) : pv_best p q x y z = !decide (gB p q x y z < gB (1 - p) q x y z) := by
  have key : ∀ u v : Int32, decide (u ≤ v) = !decide (v < u) := fun u v => by
    by_cases h : u ≤ v
    · rw [decide_eq_true h, decide_eq_false (fun z => by rw [Int32.lt_iff_toInt_lt] at z; rw [Int32.le_iff_toInt_le] at h; omega)]; rfl
    · rw [decide_eq_false h, decide_eq_true (by rw [Int32.lt_iff_toInt_lt]; rw [Int32.le_iff_toInt_le] at h; omega)]; rfl
  unfold pv_best gB
  rcases hp' with rfl | rfl
  · have e1 : ¬ (0 : Int32) = 1 := by decide
    have e2 : (1 : Int32) - 0 = 1 := by decide
    simp only [e1, e2, if_false, if_true, key]
  · have e2 : ¬ (1 : Int32) - 1 = 1 := by decide
    simp only [e2, if_false, if_true, key]
theorem m_rstep {p q r w n f k : Int32} {h : pv_H} (o1 o2 o3 : Option Value) (hk : ¬ 4 ≤ k) (h1 : k / 2 = 0 ∨ k / 2 = 1) (h2 : k - k / 2 * 2 = 0 ∨ k - k / 2 * 2 = 1) : ∃ o1' o2' o3', f_Md_rests_52 X 175 p q r w 1 n f k o1 o2 o3 h = f_Md_rests_52 X 175 p q r w 1 (rstp w k (bt p q r k) (n, f)).1 (rstp w k (bt p q r k) (n, f)).2 (k + 1) o1' o2' o3' h := by
  have h0 : ¬ (1 : Int32) = 0 := by decide
  refine ⟨some (.int (k / 2)), some (.int (k - k / 2 * 2)), some (.int (bI (bt p q r k))), ?_⟩
  rw [u_Md_rests_52, if_neg hk, if_neg h0]
  simp only [m_getsBy, tIs, tVs, bs, if_true, true_or, or_true, i10, if_false, not_false_eq_true, not_true_eq_false, u_Md_rests_129, u_Md_rests_130, u_Md_rests_149, u_Md_rests_151, u_Md_rests_165]
  unfold bt rstp
  rw [pv_best_iff h1, pv_best_iff h2]
  generalize k / 2 = a1
  generalize k - a1 * 2 = a2
  by_cases c1 : gB a1 a2 p q r < gB (1 - a1) a2 p q r
  · rw [if_pos c1, decide_eq_true c1]
    simp [bI]
  · rw [if_neg c1, decide_eq_false c1]
    by_cases c2 : gB a2 a1 p q r < gB (1 - a2) a1 p q r
    · rw [if_pos c2, decide_eq_true c2]
      simp [bI]
    · rw [if_neg c2, decide_eq_false c2]
      by_cases c3 : n = w
      · simp [bI, c3]
      · simp [bI, c3]
def rfin (b0 b1 b2 b3 : Bool) (w : Int32) : Int32 × Int32 := rstp w 3 b3 (rstp w 2 b2 (rstp w 1 b1 (rstp w 0 b0 (0, -1))))
def rlst (b0 b1 b2 b3 : Bool) : List Int32 := ([0, 1, 2, 3] : List Int32).filter (fun k => if k = 0 then b0 else if k = 1 then b1 else if k = 2 then b2 else b3)
theorem rfin_ok (b0 b1 b2 b3 : Bool) (w : Int32) : (rfin b0 b1 b2 b3 w).1 = Int32.ofNat (rlst b0 b1 b2 b3).length ∧ (∀ j, j < 4 → w = nI j → (if (rfin b0 b1 b2 b3 w).2 < 0 then none else some (rfin b0 b1 b2 b3 w).2) = (rlst b0 b1 b2 b3)[j]?) ∧ (4 ≤ w → (rfin b0 b1 b2 b3 w).2 < 0) := by
  refine ⟨?_, ?_, ?_⟩
  · cases b0 <;> cases b1 <;> cases b2 <;> cases b3 <;> rfl
  · rintro j hj rfl
    have : j = 0 ∨ j = 1 ∨ j = 2 ∨ j = 3 := by omega
    rcases this with rfl | rfl | rfl | rfl <;> cases b0 <;> cases b1 <;> cases b2 <;> cases b3 <;> decide
  · intro hw
    have n0 : ¬ (0 : Int32) = w := fun z => by rw [← z] at hw; revert hw; decide
    have n1 : ¬ (1 : Int32) = w := fun z => by rw [← z] at hw; revert hw; decide
    have n2 : ¬ (2 : Int32) = w := fun z => by rw [← z] at hw; revert hw; decide
    have n3 : ¬ (3 : Int32) = w := fun z => by rw [← z] at hw; revert hw; decide
    have e : (0 : Int32) + 1 = 1 := rfl
    have e2 : (1 : Int32) + 1 = 2 := rfl
    have e3 : (2 : Int32) + 1 = 3 := rfl
    cases b0 <;> cases b1 <;> cases b2 <;> cases b3 <;> simp [rfin, rstp, n0, n1, n2, n3, e, e2, e3] <;> decide
end FED
