/-! The law from its start to its end: it answers true. -/
section LWL
variable {m : pm_M} {X : pv_X} {c i : Nat} {o5 o6 : Option Value}
theorem hp_G (e : pv_C) : hp m ++ [e] = hp (sG m (gG m ++ [e])) := by
  unfold hp
  rw [List.append_assoc]
  rfl
theorem hpl : (hp m).length = 196 + (gG m).length := by
  unfold hp
  rw [List.length_append, List.length_mapIdx, pm_T_len]
theorem Q_t (v : Int32) : Q m (sI m 175 0 v) := ⟨Same.sI (by decide), fun j h1 _ => gI_sI_ne (Or.inr h1), fun _ _ => by rw [gA_sI]⟩
theorem INV.exc (h : INV m c) (hc : c < 600) (v : Int32) : INV (sI (sG m (gG m ++ [pv_exc])) 175 0 v) (c + 1) := by
  obtain ⟨⟨P, a, π, s, b, C, T, D, hs, mk, tp, nm, hC, hM, ok⟩, k, hk, hg⟩ := h
  have hC' : CLS (sG m (gG m ++ [pv_exc])) P a π s b C T D hs mk tp nm := hC
  have hM' : MDS (sG m (gG m ++ [pv_exc])) π s b C T D hs mk tp nm := hM
  refine ⟨⟨P, a, π, s, b, C, T, D, hs, mk, tp, nm, hC'.q (Q_t v), hM'.q ok (Q_t v), ok.up hc⟩, k + 1, by omega, ?_⟩
  show gG m ++ [pv_exc] = _
  rw [hg, List.replicate_succ']
theorem INV.out (h : INV m c) (hc : c < 600) (f : Nat → Int64) (v : Int32) : INV (sI (sL m 195 f) 175 0 v) (c + 1) := by
  obtain ⟨⟨P, a, π, s, b, C, T, D, hs, mk, tp, nm, hC, hM, ok⟩, k, hk, hg⟩ := h
  have hS : Same [195] m (sL m 195 f) := Same.sL (by decide)
  have hC' : CLS (sL m 195 f) P a π s b C T D hs mk tp nm := hC.same hS (by decide)
  have hM' : MDS (sL m 195 f) π s b C T D hs mk tp nm := by
    obtain ⟨h1, h2, h3, h4, h5, h6, h7, h8⟩ := hM
    exact ⟨h1.same hS rfl (by decide), h2, h3, h4, h5, h6, h7, h8.same (hS.Lr (by decide))⟩
  exact ⟨⟨P, a, π, s, b, C, T, D, hs, mk, tp, nm, hC'.q (Q_t v), hM'.q ok (Q_t v), ok.up hc⟩, k, by omega, hg⟩
theorem lg_self (x : Int64) : lg_cmp x x = 0 := by
  unfold lg_cmp
  rw [if_neg (by intro h; exact absurd h (by simp)), if_pos rfl]
theorem a_1419 (h : INV m c) (hc : c < 600) (hi : i + 7 ≤ X.2) (hL : X.2 < 2 ^ 31) : GoesOn X i c (f_Lw_law_1419 X pv_scr 0 175 195 (nI i) o5 o6 (hp m)) := by
  have h0 : (hp m)[0]? = some (pm_cell m 0 (.inr (10, [(2, 1), (3, 0), (3, 0), (3, 0), (3, 0), (2, 35), (2, 39), (2, 43), (2, 109), (2, 113), (2, 117), (2, 118), (2, 120), (2, 121), (2, 122)]))) := hp_at rfl
  obtain ⟨-, k, hk, hg⟩ := id h
  have hlen : (hp m).length < pv_scr := by
    rw [hpl, hg, List.length_replicate]
    unfold pv_scr
    omega
  cases hv : pv_rv (X.1 (i + 1)) (X.1 (i + 2)) (X.1 (i + 3)) (X.1 (i + 4)) with
  | none =>
    refine ⟨_, some (.int 1), some (.int 0), ?_, h.exc hc 1⟩
    have e : pv_ext 903 [.ref 0, .int (X.1 (i + 1)), .int (X.1 (i + 2)), .int (X.1 (i + 3)), .int (X.1 (i + 4)), .ref 195] (hp m) = some (some (.int 1), hp (sG m (gG m ++ [pv_exc]))) := by
      unfold pv_ext
      simp only [h0, pm_cell, hv, if_pos hlen, hp_G]
    have e1 := m_rests (X := X) (m := sG m (gG m ++ [pv_exc])) (X.1 (i + 1)) (X.1 (i + 2)) (X.1 (i + 3)) (X.1 (i + 4))
    rw [hv] at e1
    simp only [rsT] at e1
    rw [u_Lw_law_1419]
    simp only [ldS_1 hi hL, ldS_2 hi hL, ldS_3 hi hL, ldS_4 hi hL, bs, e, e1, Md_rc, if_true, tIs, e_Md_thrown, u_Md_thrown_0, Md_f0, gI_sI_eq]
    rw [if_pos (show ¬ (1 : Int32) = 0 by decide), u_Lw_law_1508]
  | some v =>
    refine ⟨_, some (.int 0), some (.int v), ?_, h.out hc (vp_updL (gL m 195) 0 v.toInt64) 0⟩
    have e : pv_ext 903 [.ref 0, .int (X.1 (i + 1)), .int (X.1 (i + 2)), .int (X.1 (i + 3)), .int (X.1 (i + 4)), .ref 195] (hp m) = some (some (.int 0), hp (sL m 195 (vp_updL (gL m 195) 0 v.toInt64))) := by
      have e3 : pv_sJ (hp m) 195 0 v.toInt64 = some (hp (sL m 195 (vp_updL (gL m 195) 0 v.toInt64))) := by
        rw [hp_sJ (show pm_T[195]? = some (.inl (2, 1)) from rfl), if_pos (by decide)]
        rfl
      unfold pv_ext
      simp only [h0, pm_cell, hv, e3, Option.map_some]
    have e1 := m_rests (X := X) (m := sL m 195 (vp_updL (gL m 195) 0 v.toInt64)) (X.1 (i + 1)) (X.1 (i + 2)) (X.1 (i + 3)) (X.1 (i + 4))
    rw [hv] at e1
    simp only [rsT] at e1
    have e4 : pv_aJ (hp (sI (sL m 195 (vp_updL (gL m 195) 0 v.toInt64)) 175 0 0)) 195 0 = some v.toInt64 := by
      rw [hp_aJ (show pm_T[195]? = some (.inl (2, 1)) from rfl), if_pos (by decide)]
      show some (gL (sL m 195 (vp_updL (gL m 195) 0 v.toInt64)) 195 0) = _
      rw [gL_sL, if_pos rfl]
      rfl
    rw [u_Lw_law_1419]
    simp only [ldS_1 hi hL, ldS_2 hi hL, ldS_3 hi hL, ldS_4 hi hL, bs, e, e1, Md_rc, if_true, tIs, e_Md_thrown, u_Md_thrown_0, Md_f0, gI_sI_eq, e4, lg_self, not_true_eq_false, if_false, u_Lw_law_1508]
theorem a_1638 (h : INV m c) (hc : c < 600) : GoesOn X i c (f_Lw_law_1638 X pv_scr 0 175 195 (nI i) o5 o6 (hp m)) := ⟨m, o5, o6, rfl, h.q hc Q.rf⟩
theorem go_ite {p : Prop} [Decidable p] {F G : Option pv_O} (hF : GoesOn X i c F) (hG : GoesOn X i c G) : GoesOn X i c (if p then F else G) := by
  split
  · exact hF
  · exact hG
theorem law_lt {L : Nat} (hL : L ≤ 3584) (hi : i ≤ 3600) : (nI L - 7 < nI i) ↔ L < i + 7 := by
  rw [Int32.lt_iff_toInt_lt, show (7 : Int32) = nI 7 from rfl, pk_sub_toInt (by omega) (by omega), nI_toInt (by omega)]
  omega
theorem law_step (h : INV m c) (hc : c < 600) (hi : i + 7 ≤ X.2) (hL : X.2 ≤ 3584) : GoesOn X i c (f_Lw_law_23 X pv_scr 0 175 195 (nI i) o5 o6 (hp m)) := by
  have hL' : X.2 < 2 ^ 31 := by omega
  rw [u_Lw_law_23]
  have e : pv_len X (hp m) pv_scr = some (nI X.2) := if_pos rfl
  rw [e, bs, if_neg (by rw [law_lt hL (by omega)]; omega), aX_scr (by omega) hL', bs]
  refine go_ite (a_236 h hc hi hL') ?_
  refine go_ite (a_383 h hc hi hL') ?_
  refine go_ite (a_396 h hc hi hL') ?_
  refine go_ite (a_409 h hc hi hL') ?_
  refine go_ite (a_446 h hc hi hL') ?_
  refine go_ite (a_483 h hc hi hL') ?_
  refine go_ite (a_520 h hc hi hL') ?_
  refine go_ite (a_557 h hc hi hL') ?_
  refine go_ite (a_570 h hc hi hL') ?_
  refine go_ite (a_583 h hc hi hL') ?_
  refine go_ite (a_608 h hc hi hL') ?_
  refine go_ite (a_645 h hc hi hL') ?_
  refine go_ite (a_658 h hc hi hL') ?_
  refine go_ite (a_671 h hc hi hL') ?_
  refine go_ite (a_696 h hc hi hL') ?_
  refine go_ite (a_709 h hc hi hL') ?_
  refine go_ite (a_746 h hc hi hL') ?_
  refine go_ite (a_771 h hc hi hL') ?_
  refine go_ite (a_808 h hc hi hL') ?_
  refine go_ite (a_833 h hc hi hL') ?_
  refine go_ite (a_870 h hc hi hL') ?_
  refine go_ite (a_895 h hc hi hL') ?_
  refine go_ite (a_944 h hc hi hL') ?_
  refine go_ite (a_969 h hc hi hL') ?_
  refine go_ite (a_994 h hc hi hL') ?_
  refine go_ite (a_1031 h hc hi hL') ?_
  refine go_ite (a_1056 h hc hi hL') ?_
  refine go_ite (a_1069 h hc hi hL') ?_
  refine go_ite (a_1094 h hc hi hL') ?_
  refine go_ite (a_1107 h hc hi hL') ?_
  refine go_ite (a_1120 h hc hi hL') ?_
  refine go_ite (a_1157 h hc hi hL') ?_
  refine go_ite (a_1182 h hc hi hL') ?_
  refine go_ite (a_1195 h hc hi hL') ?_
  refine go_ite (a_1220 h hc hi hL') ?_
  refine go_ite (a_1233 h hc hi hL') ?_
  refine go_ite (a_1282 h hc hi hL') ?_
  refine go_ite (a_1295 h hc hi hL') ?_
  refine go_ite (a_1320 h hc hi hL') ?_
  refine go_ite (a_1333 h hc hi hL') ?_
  refine go_ite (a_1358 h hc hi hL') ?_
  refine go_ite (a_1419 h hc hi hL') ?_
  refine go_ite (a_1511 h hc hi hL') ?_
  refine go_ite (a_1560 h hc hi hL') ?_
  refine go_ite (a_1613 h hc hi hL') ?_
  exact a_1638 h hc
theorem law_end (hi : X.2 < i + 7) (hL : X.2 ≤ 3584) (hi' : i ≤ 3600) : f_Lw_law_23 X pv_scr 0 175 195 (nI i) o5 o6 (hp m) = some (some (.int 1), hp m) := by
  rw [u_Lw_law_23]
  have e : pv_len X (hp m) pv_scr = some (nI X.2) := if_pos rfl
  rw [e, bs, if_pos ((law_lt hL hi').mpr hi)]
theorem law_loop (hL : X.2 ≤ 3584) : ∀ d c m o5 o6, INV m c → 7 * c ≤ X.2 → X.2 < 7 * c + 7 * (d + 1) → ∃ m' c', c' ≤ 512 ∧ f_Lw_law_23 X pv_scr 0 175 195 (nI (7 * c)) o5 o6 (hp m) = some (some (.int 1), hp m') ∧ INV m' c' := by
  intro d
  induction d with
  | zero =>
    intro c m o5 o6 h h1 h2
    exact ⟨m, c, by omega, law_end (by omega) hL (by omega), h⟩
  | succ d ih =>
    intro c m o5 o6 h h1 h2
    by_cases h3 : X.2 < 7 * c + 7
    · exact ⟨m, c, by omega, law_end (by omega) hL (by omega), h⟩
    · obtain ⟨m1, q5, q6, e1, i1⟩ := law_step (o5 := o5) (o6 := o6) h (by omega) (show 7 * c + 7 ≤ X.2 by omega) hL
      obtain ⟨m2, c2, hc2, e2, i2⟩ := ih (c + 1) m1 q5 q6 i1 (by omega) (by omega)
      refine ⟨m2, c2, hc2, ?_, i2⟩
      rw [e1, u_Lw_law_1638, ← e2, show (nI (7 * c) + 7 : Int32) = nI (7 * c + 7) from nI_add _ 7, show 7 * c + 7 = 7 * (c + 1) by omega]
theorem law_abs (hL : X.2 ≤ 3584) : ∃ m k, k ≤ 512 ∧ gG m = List.replicate k pv_exc ∧ f_Lw_law_0 X pv_scr [] = some (some (.int 1), hp m) := by
  obtain ⟨f, hf, e⟩ := law_0 (X := X) (v0 := pv_scr)
  obtain ⟨m, c, hc, e2, i2⟩ := law_loop (X := X) hL (X.2 / 7) 0 (m0 f) none none (m0_inv hf) (by omega) (by omega)
  obtain ⟨-, k, hk, hg⟩ := i2
  exact ⟨m, k, by omega, hg, e.trans e2⟩
end LWL
