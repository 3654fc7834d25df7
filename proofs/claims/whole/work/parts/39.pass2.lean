/-! The reference's QUARTER: moods, and all of it. -/
/-- by how much the reference lets one's beats change -/
def cMo (π : aP) (s : aS) (i : Nat) : Int32 := match π.2.2.2 with
  | none => 0
  | some L => if π.2.1 i = 3 then 0 else kp (L (s.2.1 i, aOut s i, s.2.2.1 i, tt s.2.2.2 / 60)) (-20) 20
section DP2
variable {X : pv_X} {b : Nat} {π : aP}
theorem okS_out {n c : Nat} {s : aS} (h : okS n c s) (hc : c ≤ 1000000) {k : Nat} (hk : k < n) : ob (s.1 k - rm (15 * s.2.2.2) 720) = aOut s k := by
  obtain ⟨t, ht, et⟩ := h.1 k hk
  obtain ⟨q, hq, eq⟩ := h.2.2
  unfold aOut
  rw [tt_comm, et, eq, tt_nI (by omega)]
  exact ob_oc ht (Nat.mod_lt _ (by decide))
/-- the rows of facts are laid, the rest of the row is as it was -/
theorem vm_187 {m : pm_M} {f : Nat → Int32} : vm (sA m 187 f) b = vm m b := vm_scr (Or.inl rfl)
theorem d_113 {m : pm_M} {i c : Nat} (hc0 : c ≤ 1000000) (hb : b + 19 ≤ 1173) (hR : RM m π) (hi : i < π.1) (ok : okS π.1 c (vm m b)) : ∃ m1, f_Md_passes_1_113 X 175 (nI b) (nI i) (hp m) = f_Md_passes_1_113 X 175 (nI b) (nI (i + 1)) (hp (sA m1 191 (upd (gA m1 191) i (cMo π (vm m b) i)))) ∧ vm m1 b = vm m b ∧ SameM b m m1 ∧ gA m1 191 = gA m 191 := by
  obtain ⟨hn, h0, hK, hA, hL⟩ := hR
  have i6 : i < 6 := by omega
  have hb0 : b < 1173 := by omega
  have go : ∀ (m1 : pm_M) (v : Int32), f_Md_passes_1_225 X 175 (nI b) (nI i) v (nI i) 191 (hp m1) = f_Md_passes_1_113 X 175 (nI b) (nI (i + 1)) (hp (sA m1 191 (upd (gA m1 191) i v))) := by
    intro m1 v
    rw [u_Md_passes_1_225, st_191 i6]
    simp only [bs]
    rw [nI_1]
  have e1 : gA m 189 (b + 1 + i) = (vm m b).2.1 i := (nr_lt (f := fun j => gA m 189 (b + 1 + j)) i6).symm
  have e2 : gA m 189 (b + 13 + i) = (vm m b).2.2.1 i := (nr_lt (f := fun j => gA m 189 (b + 13 + j)) i6).symm
  generalize hs : vm m b = s at *
  have sv : ∀ g, vm (sA m 187 g) b = s := fun g => by rw [vm_187, hs]
  have z0 : (0 : Int32) = nI 0 := rfl
  rw [u_Md_passes_1_113, Md_rc, if_pos rfl, d_persons]
  simp only [tIs, bs]
  rw [h0, if_neg (nI_ge (a := i) (b := π.1) hi (by omega)), Md_f19]
  simp only [bs]
  rw [Md_f21]
  simp only [bs]
  rw [show (1 : Int32) = nI 1 from rfl, n3, ld_189 (by omega), e1]
  simp only [bs]
  rw [z0, st_187 (by decide)]
  simp only [bs]
  rw [Md_f19]
  simp only [bs]
  rw [Md_rc, if_pos rfl, d_outOf hb i6, sv, okS_out ok hc0 hi]
  simp only [tIs, bs]
  rw [st_187 (by decide), gA_sA, if_pos rfl, sA_sA]
  simp only [bs]
  rw [Md_f19]
  simp only [bs]
  rw [Md_f21]
  simp only [bs]
  rw [show (13 : Int32) = nI 13 from rfl, n3, ld_189 (by omega), gA_sA, if_neg (by decide), e2]
  simp only [bs]
  rw [show (2 : Int32) = nI 2 from rfl, st_187 (by decide), gA_sA, if_pos rfl, sA_sA]
  simp only [bs]
  rw [Md_f19]
  simp only [bs]
  rw [Md_rc, if_pos rfl, d_trueOf hb0, sv, tt_comm]
  simp only [tIs, bs]
  rw [show (3 : Int32) = nI 3 from rfl, st_187 (by decide), gA_sA, if_pos rfl, sA_sA]
  simp only [bs]
  generalize hg : upd (upd (upd (upd (gA m 187) 0 (s.2.1 i)) 1 (aOut s i)) 2 (s.2.2.1 i)) 3 (tt s.2.2.2 / 60) = g
  have hf : ∀ j, j < 4 → g j = ftn (s.2.1 i, aOut s i, s.2.2.1 i, tt s.2.2.2 / 60) j := by
    intro j hj
    rw [← hg]
    match j, hj with
    | 0, _ => rw [pk_un (by decide), pk_un (by decide), pk_un (by decide), pk_us]; rfl
    | 1, _ => rw [pk_un (by decide), pk_un (by decide), pk_us]; rfl
    | 2, _ => rw [pk_un (by decide), pk_us]; rfl
    | 3, _ => rw [pk_us]; rfl
  rw [Md_f24]
  simp only [bs]
  rw [Md_f10]
  simp only [bs]
  rw [ld_181 (by decide), gA_sA, if_neg (by decide)]
  simp only [bs]
  have sm : SameM b m (sA m 187 g) := SameM.scr (Or.inl rfl)
  have h191 : ∀ g, gA (sA m 187 g) 191 = gA m 191 := fun g => by rw [gA_sA, if_neg (by decide)]
  cases hl : π.2.2.2 with
  | none =>
    rw [hl] at hL
    dsimp only at hL
    have hc : cMo π s i = 0 := by unfold cMo; rw [hl]
    rw [hL, if_pos (by decide), u_Md_passes_1_204, go, hc]
    exact ⟨_, rfl, sv g, sm, h191 g⟩
  | some L =>
    rw [hl] at hL
    dsimp only at hL
    obtain ⟨hL1, N, S, hN, hLe, hdp, hON, hmr⟩ := hL
    rw [hL1, if_neg (by decide), Md_rc, if_pos rfl, d_personOf i6 (by decide)]
    simp only [tIs, bs]
    rw [gA_sA, if_neg (show ¬ 181 = 187 by decide), Nat.add_zero, hK i hi, show (nI 3 : Int32) = 3 from rfl]
    by_cases h3 : π.2.1 i = 3
    · have hc : cMo π s i = 0 := by unfold cMo; rw [hl]; dsimp only; rw [if_pos h3]
      rw [if_neg (fun z => z h3), u_Md_passes_1_204, go, hc]
      exact ⟨_, rfl, sv g, sm, h191 g⟩
    · have hc : cMo π s i = kp (L (s.2.1 i, aOut s i, s.2.2.1 i, tt s.2.2.2 / 60)) (-20) 20 := by unfold cMo; rw [hl]; dsimp only; rw [if_neg h3]
      obtain ⟨m1, q1, q2⟩ := d_worth (X := X) (m := sA m 187 g) hN S (s.2.1 i, aOut s i, s.2.2.1 i, tt s.2.2.2 / 60) (by rw [gA_sA, if_neg (by decide)]; exact hON) (fun k hk => by rw [gA_sA, if_neg (by decide), gA_sA, if_neg (by decide)]; exact hmr k hk) (fun j hj => by rw [gA_sA, if_pos rfl]; exact hf j hj) hdp
      rw [if_pos h3, Md_f10]
      simp only [bs]
      rw [ld_181 (by decide), gA_sA, if_neg (by decide), hL1]
      simp only [bs]
      rw [Md_rc, if_pos rfl, q1]
      simp only [tIs, bs]
      rw [show (20 : Int32) = nI 20 from rfl, d_kept]
      simp only [tIs, bs]
      have hLv : (evn S (s.2.1 i, aOut s i, s.2.2.1 i, tt s.2.2.2 / 60) N 0 []).headD 0 = L (s.2.1 i, aOut s i, s.2.2.1 i, tt s.2.2.2 / 60) := by rw [hLe]
      rw [hLv, go, hc]
      have sm1 : SameM b (sA m 187 g) m1 := ⟨q2.mono (by intro c hc; simp at hc; simp [hc]), fun k hk => by rw [q2.A (by decide)]⟩
      refine ⟨m1, rfl, ?_, sm.tr sm1, by rw [q2.A (by decide), h191]⟩
      have : vm m1 b = vm (sA m 187 g) b := by unfold vm; rw [q2.A (show 189 ∉ [188] by decide)]
      rw [this, sv]
theorem d_113s {c : Nat} (hc0 : c ≤ 1000000) (hb : b + 19 ≤ 1173) {s : aS} (ok : okS π.1 c s) : ∀ (d i : Nat) (m : pm_M), i + d = π.1 → RM m π → vm m b = s →
    ∃ m', f_Md_passes_1_113 X 175 (nI b) (nI i) (hp m) = f_Md_passes_1_113 X 175 (nI b) (nI π.1) (hp m') ∧ vm m' b = s ∧ SameM b m m' ∧ ∀ k, gA m' 191 k = if i ≤ k ∧ k < π.1 then cMo π s k else gA m 191 k := by
  intro d
  induction d with
  | zero =>
    intro i m hi hR hs
    have hin : i = π.1 := by omega
    rw [hin]
    exact ⟨m, rfl, hs, SameM.rf, fun k => by rw [if_neg (by omega)]⟩
  | succ d ih =>
    intro i m hi hR hs
    obtain ⟨m1, q1, q2, q3, q4⟩ := d_113 (X := X) (i := i) hc0 hb hR (by omega) (by rw [hs]; exact ok)
    rw [hs] at q1 q2
    have s1 : SameM b m1 (sA m1 191 (upd (gA m1 191) i (cMo π s i))) := SameM.scr (Or.inr (Or.inr rfl))
    obtain ⟨m', r1, r2, r3, r4⟩ := ih (i + 1) _ (by omega) ((hR.same q3.1 (by decide) (by decide) (by decide)).same s1.1 (by decide) (by decide) (by decide)) (by rw [vm_scr (Or.inr (Or.inr rfl)), q2])
    refine ⟨m', by rw [q1, r1], r2, (q3.tr s1).tr r3, fun k => ?_⟩
    rw [r4, gA_sA, if_pos rfl, q4]
    by_cases h1 : i + 1 ≤ k ∧ k < π.1
    · rw [if_pos h1, if_pos (by omega)]
    · rw [if_neg h1]
      by_cases h2 : k = i
      · subst h2
        rw [pk_us, if_pos (by omega)]
      · rw [pk_un h2, if_neg (by omega)]
theorem c_beatsMore {m : pm_M} {k : Nat} (hb : b + 19 ≤ 1173) (hk : k < 6) {v : Int32} : pM X m_Md_beatsMore [.ref 175, .int (nI b), .int (nI k), .int v] (hp m) = some (none, hp (sA m 189 (upd (gA m 189) (b + 1 + k) (kp (gA m 189 (b + 1 + k) + v) 20 160)))) := by
  rw [e_Md_beatsMore, u_Md_beatsMore_0, Md_f21]
  simp only [bs]
  rw [show (1 : Int32) = nI 1 from rfl, n3, ld_189 (by omega)]
  simp only [bs, d_kept, tIs]
  rw [st_189 (by omega)]
  simp only [bs]
theorem d_234 (hb : b + 19 ≤ 1173) (C : Nat → Int32) : ∀ (d i : Nat) (m : pm_M), i + d = π.1 → RM m π → (∀ k, k < π.1 → gA m 191 k = C k) →
    ∃ m', f_Md_passes_1_234 X 175 (nI b) (nI i) (hp m) = some (none, hp m') ∧ vm m' b = fr (fun k s => aMov s k (C k)) d i (vm m b) ∧ SameM b m m' := by
  intro d
  induction d with
  | zero =>
    intro i m hi hR hC
    have hin : i = π.1 := by omega
    refine ⟨m, ?_, by simp only [fr], SameM.rf⟩
    rw [u_Md_passes_1_234, Md_rc, if_pos rfl, d_persons]
    simp only [tIs, bs]
    rw [hR.2.1, hin, if_pos (nI_le (Nat.le_refl _) (by have := hR.1; omega))]
  | succ d ih =>
    intro i m hi hR hC
    have hn := hR.1
    have i6 : i < 6 := by omega
    have q1 := c_beatsMore (X := X) (m := m) hb i6 (v := C i)
    have e1 : (vm m b).2.1 i = gA m 189 (b + 1 + i) := nr_lt (f := fun j => gA m 189 (b + 1 + j)) i6
    generalize hm1 : sA m 189 (upd (gA m 189) (b + 1 + i) (kp (gA m 189 (b + 1 + i) + C i) 20 160)) = m1 at q1
    have s1 : SameM b m m1 := by rw [← hm1]; exact SameM.put (by omega) (by omega)
    have v1 : vm m1 b = aMov (vm m b) i (C i) := by
      rw [← hm1, vm_b i6, kp_bm]
      unfold aMov bm
      rw [e1]
    have h191 : gA m1 191 = gA m 191 := by rw [← hm1, gA_sA, if_neg (by decide)]
    obtain ⟨m', r1, r2, r3⟩ := ih (i + 1) m1 (by omega) (hR.same s1.1 (by decide) (by decide) (by decide)) (fun k hk => by rw [h191]; exact hC k hk)
    refine ⟨m', ?_, by rw [r2, v1]; simp only [fr], s1.tr r3⟩
    rw [u_Md_passes_1_234, Md_rc, if_pos rfl, d_persons]
    simp only [tIs, bs]
    rw [hR.2.1, if_neg (nI_ge (a := i) (b := π.1) (by omega) (by omega)), Md_f24]
    simp only [bs]
    rw [ld_191 i6, hC i (by omega)]
    simp only [bs]
    rw [Md_rc, if_pos rfl, q1]
    simp only [tVs, bs]
    rw [nI_1, r1]
end DP2
theorem aMov_0 {n c : Nat} {s : aS} (ok : okS n c s) {i : Nat} (hi : i < n) : aMov s i 0 = s := by
  obtain ⟨v, h1, h2, e⟩ := ok.2.1 i hi
  unfold aMov
  rw [e, bm_0 h1 h2, ← e]
  have : upd s.2.1 i (s.2.1 i) = s.2.1 := funext (fun j => by by_cases h : j = i <;> simp [upd, h])
  rw [this]
theorem okS_ask {n c : Nat} {s : aS} (ok : okS n c s) {p o : Nat} (ho : o < n) : okS n c (aAsk s p o) := by
  refine ⟨fun k hk => ?_, ok.2.1, ok.2.2⟩
  unfold aAsk
  dsimp only
  by_cases h : k = p
  · subst h; rw [pk_us]; exact ok.1 o ho
  · rw [pk_un h]; exact ok.1 k hk
theorem okS_mov {n c : Nat} {s : aS} (ok : okS n c s) {p : Nat} {v : Int32} : okS n c (aMov s p v) := by
  refine ⟨ok.1, fun k hk => ?_, ok.2.2⟩
  unfold aMov
  dsimp only
  by_cases h : k = p
  · subst h; rw [pk_us]; exact bm_rng _ _
  · rw [pk_un h]; exact ok.2.1 k hk
theorem okS_fr {n c : Nat} {f : Nat → aS → aS} (hf : ∀ i s, i < n → okS n c s → okS n c (f i s)) : ∀ (d i : Nat) (s : aS), i + d ≤ n → okS n c s → okS n c (fr f d i s)
  | 0, _, _, _, h => by simp only [fr]; exact h
  | d + 1, i, s, hi, h => by
    simp only [fr]
    exact okS_fr hf d (i + 1) _ (by omega) (hf i s (by omega) h)
theorem okS_tq {n c : Nat} {K : Nat → Int32} {s : aS} (ok : okS n c s) {i : Nat} (hi : i < n) : okS n c (tq K i s) := by
  refine ⟨fun k hk => ?_, ok.2.1, ok.2.2⟩
  unfold tq
  dsimp only
  by_cases h : k = i
  · subst h
    rw [pk_us]
    obtain ⟨t, ht, et⟩ := ok.1 k hk
    obtain ⟨b, hb1, hb2, eb⟩ := ok.2.1 k hk
    obtain ⟨w, hw, ew⟩ := st_nI (k := K k) ht hb1 hb2
    rw [← Int32.add_assoc, et, eb, ew, show (720 : Int32) = nI 720 from rfl, rm_nI (by omega) (by decide) (by decide)]
    exact ⟨_, Nat.mod_lt _ (by decide), rfl⟩
  · rw [pk_un h]; exact ok.1 k hk
theorem okS_nx {n c : Nat} {s : aS} (ok : okS n c s) : okS n (c + 1) (aNx s) := by
  obtain ⟨q, hq, e⟩ := ok.2.2
  refine ⟨ok.1, ok.2.1, q + 1, by omega, ?_⟩
  unfold aNx
  dsimp only
  rw [e, nI_1]
theorem okS_hr {n c : Nat} {s : aS} (ok : okS n c s) {A : Nat → Int32} (hA : ∀ k, k < n → A k = -1 ∨ ∃ j, j < n ∧ j ≠ k ∧ A k = nI j) (hn : n ≤ 6) {i : Nat} (hi : i < n) : okS n c (hr1 A i s) := by
  unfold hr1
  by_cases h : A i = -1
  · rw [if_pos h]; exact ok
  · rw [if_neg h]
    obtain ⟨j, hj, -, e⟩ := (hA i hi).resolve_left h
    rw [e, nI_clamp (by omega)]
    exact okS_ask ok hj
/-- a port as it always is -/
def okA (π : aP) : Prop := π.1 ≤ 6 ∧ ∀ k, k < π.1 → π.2.2.1 k = -1 ∨ ∃ j, j < π.1 ∧ j ≠ k ∧ π.2.2.1 k = nI j
theorem RM_okA {m : pm_M} {π : aP} (h : RM m π) : okA π := ⟨h.1, fun k hk => (h.2.2.2.1 k hk).2⟩
theorem okS_aHr {c : Nat} {s : aS} {π : aP} (hπ : okA π) (ok : okS π.1 c s) : okS π.1 c (aHr π s) := by
  unfold aHr
  split
  · exact okS_fr (fun i s hi h => okS_hr h hπ.2 hπ.1 hi) _ _ _ (by omega) ok
  · exact ok
theorem okS_aMd {c : Nat} {s : aS} {π : aP} (ok : okS π.1 c s) : okS π.1 c (aMd π s) := by
  unfold aMd
  split
  · refine okS_fr (fun i s hi h => ?_) _ _ _ (by omega) ok
    unfold mv1
    split
    · exact h
    · exact okS_mov h
  · exact ok
theorem tm_tq {c : Nat} {s : aS} {π : aP} (ok : okS π.1 c s) : (fr (tm1 π.2.1) π.1 0 (s, 0)).1 = fr (tq π.2.1) π.1 0 s :=
  tq_tm π.1 0 s 0 (by omega) (fun k _ hk => ⟨ok.1 k hk, ok.2.1 k hk⟩)
theorem okS_tqs {c : Nat} {s : aS} {π : aP} (ok : okS π.1 c s) : okS π.1 c (fr (tq π.2.1) π.1 0 s) := okS_fr (fun _ _ hi h => okS_tq h hi) _ _ _ (by omega) ok
theorem okS_aPQ {c : Nat} {s : aS} {π : aP} (hπ : okA π) (ok : okS π.1 c s) : okS π.1 (c + 1) (aPQ π s).1 := by
  unfold aPQ
  dsimp only
  rw [tm_tq ok]
  exact okS_aMd (okS_aHr hπ (okS_nx (okS_tqs ok)))
theorem mv_cMo {π : aP} {s0 : aS} {L : aF → Int32} (hL : π.2.2.2 = some L) {c : Nat} : ∀ (d i : Nat) (s : aS), i + d = π.1 → okS π.1 c s → s.1 = s0.1 → s.2.2 = s0.2.2 → (∀ k, i ≤ k → s.2.1 k = s0.2.1 k) → fr (fun k s => aMov s k (cMo π s0 k)) d i s = fr (mv1 π.2.1 L (tt s0.2.2.2 / 60)) d i s := by
  intro d
  induction d with
  | zero => intro i s _ _ _ _ _; simp only [fr]
  | succ d ih =>
    intro i s hi ok h1 h2 hk
    simp only [fr]
    have hc : aMov s i (cMo π s0 i) = mv1 π.2.1 L (tt s0.2.2.2 / 60) i s := by
      unfold mv1 cMo
      rw [hL]
      dsimp only
      by_cases h3 : π.2.1 i = 3
      · rw [if_pos h3, if_pos h3]; exact aMov_0 ok (by omega)
      · rw [if_neg h3, if_neg h3, kp_cl]
        unfold aOut
        rw [h1, h2, hk i (Nat.le_refl _)]
    rw [hc]
    rw [← hc]
    refine ih (i + 1) _ (by omega) (okS_mov ok) h1 h2 (fun k hk' => ?_)
    unfold aMov
    dsimp only
    rw [pk_un (by omega)]
    exact hk k (by omega)
theorem mv_none {π : aP} {s0 : aS} (hL : π.2.2.2 = none) {c : Nat} : ∀ (d i : Nat) (s : aS), i + d = π.1 → okS π.1 c s → fr (fun k s => aMov s k (cMo π s0 k)) d i s = s := by
  intro d
  induction d with
  | zero => intro i s _ _; simp only [fr]
  | succ d ih =>
    intro i s hi ok
    simp only [fr]
    have hc : cMo π s0 i = 0 := by unfold cMo; rw [hL]
    rw [hc, aMov_0 ok (by omega)]
    exact ih (i + 1) s (by omega) ok
/-- the reference's QUARTER -/
theorem d_passes {X : pv_X} {m : pm_M} {b c : Nat} {π : aP} (hc : c < 1000000) (hb : b + 19 ≤ 1173) (hR : RM m π) (ok : okS π.1 c (vm m b)) : ∃ m', pM X m_Md_passes_1 [.ref 175, .int (nI b)] (hp m) = some (none, hp m') ∧ vm m' b = (aPQ π (vm m b)).1 ∧ SameM b m m' := by
  have hn := hR.1
  have z0 : (0 : Int32) = nI 0 := rfl
  rw [e_Md_passes_1, u_Md_passes_1_0, z0]
  obtain ⟨m1, q1, q2, q3⟩ := d_pass2 (X := X) hb hR.1 (gA m 181) hR.2.1 π.2.1 hR.2.2.1 π.1 0 m (by omega) rfl
  have R1 := hR.same q3.1 (by decide) (by decide) (by decide)
  rw [q1, u_Md_passes_1_2, Md_rc, if_pos rfl, d_persons]
  simp only [tIs, bs]
  rw [R1.2.1, if_pos (nI_le (Nat.le_refl _) (by omega)), Md_f21]
  simp only [bs]
  rw [Int32.add_zero, ld_189 (by omega)]
  simp only [bs]
  rw [st_189 (by omega)]
  simp only [bs]
  have s2 : SameM b m1 (sA m1 189 (upd (gA m1 189) b (gA m1 189 b + 1))) := SameM.put (by omega) (by omega)
  have v2 : vm (sA m1 189 (upd (gA m1 189) b (gA m1 189 b + 1))) b = aNx (fr (tq π.2.1) π.1 0 (vm m b)) := by
    rw [vm_q, ← q2]
    rfl
  generalize sA m1 189 (upd (gA m1 189) b (gA m1 189 b + 1)) = m2 at s2 v2
  have R2 := R1.same s2.1 (by decide) (by decide) (by decide)
  obtain ⟨m3, t1, t2, t3⟩ := d_pass63 (X := X) hb hR.1 (gA m2 181) R2.2.1 π.2.2.1 R2.2.2.2.1 π.1 0 m2 (by omega) rfl
  have R3 := R2.same t3.1 (by decide) (by decide) (by decide)
  have v3 : vm m3 b = aHr π (aNx (fr (tq π.2.1) π.1 0 (vm m b))) := by rw [t2, v2]; rfl
  have ok3 : okS π.1 (c + 1) (aHr π (aNx (fr (tq π.2.1) π.1 0 (vm m b)))) := okS_aHr (RM_okA hR) (okS_nx (okS_tqs ok))
  rw [z0, t1, u_Md_passes_1_63, Md_rc, if_pos rfl, d_persons]
  simp only [tIs, bs]
  rw [R3.2.1, if_pos (nI_le (Nat.le_refl _) (by omega)), z0]
  obtain ⟨m4, w1, w2, w3, w4⟩ := d_113s (X := X) (c := c + 1) (by omega) hb ok3 π.1 0 m3 (by omega) R3 v3
  have R4 := R3.same w3.1 (by decide) (by decide) (by decide)
  rw [w1, u_Md_passes_1_113, Md_rc, if_pos rfl, d_persons]
  simp only [tIs, bs]
  rw [R4.2.1, if_pos (nI_le (Nat.le_refl _) (by omega)), z0]
  obtain ⟨m5, y1, y2, y3⟩ := d_234 (X := X) hb (cMo π (aHr π (aNx (fr (tq π.2.1) π.1 0 (vm m b))))) π.1 0 m4 (by omega) R4 (fun k hk => by rw [w4, if_pos ⟨Nat.zero_le _, hk⟩])
  refine ⟨m5, y1, ?_, (q3.tr s2).tr (t3.tr (w3.tr y3))⟩
  rw [y2, w2]
  unfold aPQ
  dsimp only
  rw [tm_tq ok]
  generalize aHr π (aNx (fr (tq π.2.1) π.1 0 (vm m b))) = s at ok3
  unfold aMd
  cases hL : π.2.2.2 with
  | none => exact mv_none hL π.1 0 s (by omega) ok3
  | some L => exact mv_cMo hL π.1 0 s (by omega) ok3 rfl rfl (fun _ _ => rfl)
