/-! Every arm of the law: class and reference answer alike, and the next call is read. -/
def GoesOn (X : pv_X) (i c : Nat) (F : Option pv_O) : Prop := ∃ m' o5 o6, F = f_Lw_law_1638 X pv_scr 0 175 195 (nI i) o5 o6 (hp m') ∧ INV m' (c + 1)
theorem aX_scr {X : pv_X} {h : pv_H} {j : Nat} (hj : j < X.2) (hL : X.2 < 2 ^ 31) : pv_aX X h pv_scr (nI j) = some (X.1 j) := by
  unfold pv_aX
  rw [if_pos rfl, if_pos (pv_in_nI hj hL), nI_clamp (by omega)]
section ARM
variable {m : pm_M} {X : pv_X} {c i : Nat} {o5 o6 : Option Value}
theorem ldS_1 {h : pv_H} (hi : i + 7 ≤ X.2) (hL : X.2 < 2 ^ 31) : pv_aX X h pv_scr (nI i + 1) = some (X.1 (i + 1)) := by
  rw [show (nI i + 1 : Int32) = nI (i + 1) from nI_add i 1, aX_scr (by omega) hL]
theorem ldS_2 {h : pv_H} (hi : i + 7 ≤ X.2) (hL : X.2 < 2 ^ 31) : pv_aX X h pv_scr (nI i + 2) = some (X.1 (i + 2)) := by
  rw [show (nI i + 2 : Int32) = nI (i + 2) from nI_add i 2, aX_scr (by omega) hL]
theorem ldS_3 {h : pv_H} (hi : i + 7 ≤ X.2) (hL : X.2 < 2 ^ 31) : pv_aX X h pv_scr (nI i + 3) = some (X.1 (i + 3)) := by
  rw [show (nI i + 3 : Int32) = nI (i + 3) from nI_add i 3, aX_scr (by omega) hL]
theorem ldS_4 {h : pv_H} (hi : i + 7 ≤ X.2) (hL : X.2 < 2 ^ 31) : pv_aX X h pv_scr (nI i + 4) = some (X.1 (i + 4)) := by
  rw [show (nI i + 4 : Int32) = nI (i + 4) from nI_add i 4, aX_scr (by omega) hL]
theorem ldS_5 {h : pv_H} (hi : i + 7 ≤ X.2) (hL : X.2 < 2 ^ 31) : pv_aX X h pv_scr (nI i + 5) = some (X.1 (i + 5)) := by
  rw [show (nI i + 5 : Int32) = nI (i + 5) from nI_add i 5, aX_scr (by omega) hL]
theorem ldS_6 {h : pv_H} (hi : i + 7 ≤ X.2) (hL : X.2 < 2 ^ 31) : pv_aX X h pv_scr (nI i + 6) = some (X.1 (i + 6)) := by
  rw [show (nI i + 6 : Int32) = nI (i + 6) from nI_add i 6, aX_scr (by omega) hL]
theorem a_236 (h : INV m c) (hc : c < 600) (hi : i + 7 ≤ X.2) (hL : X.2 < 2 ^ 31) : GoesOn X i c (f_Lw_law_236 X pv_scr 0 175 195 (nI i) o5 o6 (hp m)) := by
  obtain ⟨v, m1, m2, e1, e2, iv⟩ := k_feed (X := X) h hc ((((X.1 (i + 1) : Int32).toInt64 : Int64) <<< ((32 : Int32).toInt64 &&& 63)) ||| ((X.1 (i + 2) : Int32).toInt64 &&& 4294967295)) ((((X.1 (i + 3) : Int32).toInt64 : Int64) <<< ((32 : Int32).toInt64 &&& 63)) ||| ((X.1 (i + 4) : Int32).toInt64 &&& 4294967295)) ((((X.1 (i + 5) : Int32).toInt64 : Int64) <<< ((32 : Int32).toInt64 &&& 63)) ||| ((X.1 (i + 6) : Int32).toInt64 &&& 4294967295))
  refine ⟨m2, o5, o6, ?_, iv⟩
  rw [u_Lw_law_236]
  simp only [ldS_1 hi hL, ldS_2 hi hL, ldS_3 hi hL, ldS_4 hi hL, ldS_5 hi hL, ldS_6 hi hL, bs, Wp_rc, Md_rc, if_true, tIs, e1, e2]
theorem a_383 (h : INV m c) (hc : c < 600) (hi : i + 7 ≤ X.2) (hL : X.2 < 2 ^ 31) : GoesOn X i c (f_Lw_law_383 X pv_scr 0 175 195 (nI i) o5 o6 (hp m)) := by
  obtain ⟨v, m1, m2, e1, e2, iv⟩ := k_port (X := X) h hc
  refine ⟨m2, o5, o6, ?_, iv⟩
  rw [u_Lw_law_383]
  simp only [bs, Wp_rc, Md_rc, if_true, tIs, e1, e2]
theorem a_396 (h : INV m c) (hc : c < 600) (hi : i + 7 ≤ X.2) (hL : X.2 < 2 ^ 31) : GoesOn X i c (f_Lw_law_396 X pv_scr 0 175 195 (nI i) o5 o6 (hp m)) := by
  obtain ⟨v, m1, m2, e1, e2, iv⟩ := k_day (X := X) h hc
  refine ⟨m2, o5, o6, ?_, iv⟩
  rw [u_Lw_law_396]
  simp only [bs, Wp_rc, Md_rc, if_true, tIs, e1, e2]
theorem a_409 (h : INV m c) (hc : c < 600) (hi : i + 7 ≤ X.2) (hL : X.2 < 2 ^ 31) : GoesOn X i c (f_Lw_law_409 X pv_scr 0 175 195 (nI i) o5 o6 (hp m)) := by
  have h0 := h
  obtain ⟨⟨P, a, π, s, b, C, T, D, hs, mk, tp, nm, hC, hM, ok⟩, -⟩ := h0
  obtain ⟨v, m1, m2, e1, e2, iv⟩ := Ag.inv h hc (q_person (X := X) hC.hc (hM.hm ok)  (X.1 (i + 1)) (X.1 (i + 2)))
  refine ⟨m2, o5, o6, ?_, iv⟩
  rw [u_Lw_law_409]
  simp only [ldS_1 hi hL, ldS_2 hi hL, bs, Wp_rc, Md_rc, if_true, tIs, e1, e2]
theorem a_446 (h : INV m c) (hc : c < 600) (hi : i + 7 ≤ X.2) (hL : X.2 < 2 ^ 31) : GoesOn X i c (f_Lw_law_446 X pv_scr 0 175 195 (nI i) o5 o6 (hp m)) := by
  obtain ⟨v, m1, m2, e1, e2, iv⟩ := k_ask (X := X) h hc (X.1 (i + 1)) (X.1 (i + 2))
  refine ⟨m2, o5, o6, ?_, iv⟩
  rw [u_Lw_law_446]
  simp only [ldS_1 hi hL, ldS_2 hi hL, bs, Wp_rc, Md_rc, if_true, tIs, e1, e2]
theorem a_483 (h : INV m c) (hc : c < 600) (hi : i + 7 ≤ X.2) (hL : X.2 < 2 ^ 31) : GoesOn X i c (f_Lw_law_483 X pv_scr 0 175 195 (nI i) o5 o6 (hp m)) := by
  obtain ⟨v, m1, m2, e1, e2, iv⟩ := k_fright (X := X) h hc (X.1 (i + 1)) (X.1 (i + 2))
  refine ⟨m2, o5, o6, ?_, iv⟩
  rw [u_Lw_law_483]
  simp only [ldS_1 hi hL, ldS_2 hi hL, bs, Wp_rc, Md_rc, if_true, tIs, e1, e2]
theorem a_520 (h : INV m c) (hc : c < 600) (hi : i + 7 ≤ X.2) (hL : X.2 < 2 ^ 31) : GoesOn X i c (f_Lw_law_520 X pv_scr 0 175 195 (nI i) o5 o6 (hp m)) := by
  obtain ⟨v, m1, m2, e1, e2, iv⟩ := k_soothe (X := X) h hc (X.1 (i + 1)) (X.1 (i + 2))
  refine ⟨m2, o5, o6, ?_, iv⟩
  rw [u_Lw_law_520]
  simp only [ldS_1 hi hL, ldS_2 hi hL, bs, Wp_rc, Md_rc, if_true, tIs, e1, e2]
theorem a_557 (h : INV m c) (hc : c < 600) (hi : i + 7 ≤ X.2) (hL : X.2 < 2 ^ 31) : GoesOn X i c (f_Lw_law_557 X pv_scr 0 175 195 (nI i) o5 o6 (hp m)) := by
  obtain ⟨v, m1, m2, e1, e2, iv⟩ := k_quarter (X := X) h hc
  refine ⟨m2, o5, o6, ?_, iv⟩
  rw [u_Lw_law_557]
  simp only [bs, Wp_rc, Md_rc, if_true, tIs, e1, e2]
theorem a_570 (h : INV m c) (hc : c < 600) (hi : i + 7 ≤ X.2) (hL : X.2 < 2 ^ 31) : GoesOn X i c (f_Lw_law_570 X pv_scr 0 175 195 (nI i) o5 o6 (hp m)) := by
  obtain ⟨v, m1, m2, e1, e2, iv⟩ := k_undo (X := X) h hc
  refine ⟨m2, o5, o6, ?_, iv⟩
  rw [u_Lw_law_570]
  simp only [bs, Wp_rc, Md_rc, if_true, tIs, e1, e2]
theorem a_583 (h : INV m c) (hc : c < 600) (hi : i + 7 ≤ X.2) (hL : X.2 < 2 ^ 31) : GoesOn X i c (f_Lw_law_583 X pv_scr 0 175 195 (nI i) o5 o6 (hp m)) := by
  have h0 := h
  obtain ⟨⟨P, a, π, s, b, C, T, D, hs, mk, tp, nm, hC, hM, ok⟩, -⟩ := h0
  obtain ⟨v, m1, m2, e1, e2, iv⟩ := Ag.inv h hc (q_judged (X := X) hC.hc (hM.hm ok) (iv_DN hC hM ok) (iv_BG hC hM ok) (X.1 (i + 1)))
  refine ⟨m2, o5, o6, ?_, iv⟩
  rw [u_Lw_law_583]
  simp only [ldS_1 hi hL, bs, Wp_rc, Md_rc, if_true, tIs, e1, e2]
theorem a_608 (h : INV m c) (hc : c < 600) (hi : i + 7 ≤ X.2) (hL : X.2 < 2 ^ 31) : GoesOn X i c (f_Lw_law_608 X pv_scr 0 175 195 (nI i) o5 o6 (hp m)) := by
  have h0 := h
  obtain ⟨⟨P, a, π, s, b, C, T, D, hs, mk, tp, nm, hC, hM, ok⟩, -⟩ := h0
  obtain ⟨v, m1, m2, e1, e2, iv⟩ := Ag.inv h hc (q_later (X := X) hC.hc (hM.hm ok)  (X.1 (i + 1)) (X.1 (i + 2)))
  refine ⟨m2, o5, o6, ?_, iv⟩
  rw [u_Lw_law_608]
  simp only [ldS_1 hi hL, ldS_2 hi hL, bs, Wp_rc, Md_rc, if_true, tIs, e1, e2]
theorem a_645 (h : INV m c) (hc : c < 600) (hi : i + 7 ≤ X.2) (hL : X.2 < 2 ^ 31) : GoesOn X i c (f_Lw_law_645 X pv_scr 0 175 195 (nI i) o5 o6 (hp m)) := by
  have h0 := h
  obtain ⟨⟨P, a, π, s, b, C, T, D, hs, mk, tp, nm, hC, hM, ok⟩, -⟩ := h0
  obtain ⟨v, m1, m2, e1, e2, iv⟩ := Ag.inv h hc (q_worst (X := X) hC.hc (hM.hm ok) )
  refine ⟨m2, o5, o6, ?_, iv⟩
  rw [u_Lw_law_645]
  simp only [bs, Wp_rc, Md_rc, if_true, tIs, e1, e2]
theorem a_658 (h : INV m c) (hc : c < 600) (hi : i + 7 ≤ X.2) (hL : X.2 < 2 ^ 31) : GoesOn X i c (f_Lw_law_658 X pv_scr 0 175 195 (nI i) o5 o6 (hp m)) := by
  have h0 := h
  obtain ⟨⟨P, a, π, s, b, C, T, D, hs, mk, tp, nm, hC, hM, ok⟩, -⟩ := h0
  obtain ⟨v, m1, m2, e1, e2, iv⟩ := Ag.inv h hc (q_middle (X := X) hC.hc (hM.hm ok) )
  refine ⟨m2, o5, o6, ?_, iv⟩
  rw [u_Lw_law_658]
  simp only [bs, Wp_rc, Md_rc, if_true, tIs, e1, e2]
theorem a_671 (h : INV m c) (hc : c < 600) (hi : i + 7 ≤ X.2) (hL : X.2 < 2 ^ 31) : GoesOn X i c (f_Lw_law_671 X pv_scr 0 175 195 (nI i) o5 o6 (hp m)) := by
  have h0 := h
  obtain ⟨⟨P, a, π, s, b, C, T, D, hs, mk, tp, nm, hC, hM, ok⟩, -⟩ := h0
  obtain ⟨v, m1, m2, e1, e2, iv⟩ := Ag.inv h hc (q_noon (X := X) hC.hc (hM.hm ok)  (X.1 (i + 1)))
  refine ⟨m2, o5, o6, ?_, iv⟩
  rw [u_Lw_law_671]
  simp only [ldS_1 hi hL, bs, Wp_rc, Md_rc, if_true, tIs, e1, e2]
theorem a_696 (h : INV m c) (hc : c < 600) (hi : i + 7 ≤ X.2) (hL : X.2 < 2 ^ 31) : GoesOn X i c (f_Lw_law_696 X pv_scr 0 175 195 (nI i) o5 o6 (hp m)) := by
  have h0 := h
  obtain ⟨⟨P, a, π, s, b, C, T, D, hs, mk, tp, nm, hC, hM, ok⟩, -⟩ := h0
  obtain ⟨v, m1, m2, e1, e2, iv⟩ := Ag.inv h hc (q_first (X := X) hC.hc (hM.hm ok) )
  refine ⟨m2, o5, o6, ?_, iv⟩
  rw [u_Lw_law_696]
  simp only [bs, Wp_rc, Md_rc, if_true, tIs, e1, e2]
theorem a_709 (h : INV m c) (hc : c < 600) (hi : i + 7 ≤ X.2) (hL : X.2 < 2 ^ 31) : GoesOn X i c (f_Lw_law_709 X pv_scr 0 175 195 (nI i) o5 o6 (hp m)) := by
  have h0 := h
  obtain ⟨⟨P, a, π, s, b, C, T, D, hs, mk, tp, nm, hC, hM, ok⟩, -⟩ := h0
  obtain ⟨v, m1, m2, e1, e2, iv⟩ := Ag.inv h hc (q_meet (X := X) hC.hc (hM.hm ok)  (X.1 (i + 1)) (X.1 (i + 2)))
  refine ⟨m2, o5, o6, ?_, iv⟩
  rw [u_Lw_law_709]
  simp only [ldS_1 hi hL, ldS_2 hi hL, bs, Wp_rc, Md_rc, if_true, tIs, e1, e2]
theorem a_746 (h : INV m c) (hc : c < 600) (hi : i + 7 ≤ X.2) (hL : X.2 < 2 ^ 31) : GoesOn X i c (f_Lw_law_746 X pv_scr 0 175 195 (nI i) o5 o6 (hp m)) := by
  have h0 := h
  obtain ⟨⟨P, a, π, s, b, C, T, D, hs, mk, tp, nm, hC, hM, ok⟩, -⟩ := h0
  obtain ⟨v, m1, m2, e1, e2, iv⟩ := Ag.inv h hc (q_ordered (X := X) hC.hc (hM.hm ok)  (X.1 (i + 1)))
  refine ⟨m2, o5, o6, ?_, iv⟩
  rw [u_Lw_law_746]
  simp only [ldS_1 hi hL, bs, Wp_rc, Md_rc, if_true, tIs, e1, e2]
theorem a_771 (h : INV m c) (hc : c < 600) (hi : i + 7 ≤ X.2) (hL : X.2 < 2 ^ 31) : GoesOn X i c (f_Lw_law_771 X pv_scr 0 175 195 (nI i) o5 o6 (hp m)) := by
  have h0 := h
  obtain ⟨⟨P, a, π, s, b, C, T, D, hs, mk, tp, nm, hC, hM, ok⟩, -⟩ := h0
  obtain ⟨v, m1, m2, e1, e2, iv⟩ := Ag.inv h hc (q_round (X := X) hC.hc (hM.hm ok)  (X.1 (i + 1)) (X.1 (i + 2)))
  refine ⟨m2, o5, o6, ?_, iv⟩
  rw [u_Lw_law_771]
  simp only [ldS_1 hi hL, ldS_2 hi hL, bs, Wp_rc, Md_rc, if_true, tIs, e1, e2]
theorem a_808 (h : INV m c) (hc : c < 600) (hi : i + 7 ≤ X.2) (hL : X.2 < 2 ^ 31) : GoesOn X i c (f_Lw_law_808 X pv_scr 0 175 195 (nI i) o5 o6 (hp m)) := by
  have h0 := h
  obtain ⟨⟨P, a, π, s, b, C, T, D, hs, mk, tp, nm, hC, hM, ok⟩, -⟩ := h0
  obtain ⟨v, m1, m2, e1, e2, iv⟩ := Ag.inv h hc (q_askings (X := X) hC.hc (hM.hm ok)  (X.1 (i + 1)))
  refine ⟨m2, o5, o6, ?_, iv⟩
  rw [u_Lw_law_808]
  simp only [ldS_1 hi hL, bs, Wp_rc, Md_rc, if_true, tIs, e1, e2]
theorem a_833 (h : INV m c) (hc : c < 600) (hi : i + 7 ≤ X.2) (hL : X.2 < 2 ^ 31) : GoesOn X i c (f_Lw_law_833 X pv_scr 0 175 195 (nI i) o5 o6 (hp m)) := by
  have h0 := h
  obtain ⟨⟨P, a, π, s, b, C, T, D, hs, mk, tp, nm, hC, hM, ok⟩, -⟩ := h0
  obtain ⟨v, m1, m2, e1, e2, iv⟩ := Ag.inv h hc (q_train (X := X) hC.hc (hM.hm ok)  (X.1 (i + 1)) (X.1 (i + 2)))
  refine ⟨m2, o5, o6, ?_, iv⟩
  rw [u_Lw_law_833]
  simp only [ldS_1 hi hL, ldS_2 hi hL, bs, Wp_rc, Md_rc, if_true, tIs, e1, e2]
theorem a_870 (h : INV m c) (hc : c < 600) (hi : i + 7 ≤ X.2) (hL : X.2 < 2 ^ 31) : GoesOn X i c (f_Lw_law_870 X pv_scr 0 175 195 (nI i) o5 o6 (hp m)) := by
  have h0 := h
  obtain ⟨⟨P, a, π, s, b, C, T, D, hs, mk, tp, nm, hC, hM, ok⟩, -⟩ := h0
  obtain ⟨v, m1, m2, e1, e2, iv⟩ := Ag.inv h hc (q_missed (X := X) hC.hc (hM.hm ok)  (X.1 (i + 1)))
  refine ⟨m2, o5, o6, ?_, iv⟩
  rw [u_Lw_law_870]
  simp only [ldS_1 hi hL, bs, Wp_rc, Md_rc, if_true, tIs, e1, e2]
theorem a_895 (h : INV m c) (hc : c < 600) (hi : i + 7 ≤ X.2) (hL : X.2 < 2 ^ 31) : GoesOn X i c (f_Lw_law_895 X pv_scr 0 175 195 (nI i) o5 o6 (hp m)) := by
  obtain ⟨v, m1, m2, e1, e2, iv⟩ := k_see (X := X) h hc (X.1 (i + 1)) (X.1 (i + 2)) (X.1 (i + 3))
  refine ⟨m2, o5, o6, ?_, iv⟩
  rw [u_Lw_law_895]
  simp only [ldS_1 hi hL, ldS_2 hi hL, ldS_3 hi hL, bs, Wp_rc, Md_rc, if_true, tIs, e1, e2]
theorem a_944 (h : INV m c) (hc : c < 600) (hi : i + 7 ≤ X.2) (hL : X.2 < 2 ^ 31) : GoesOn X i c (f_Lw_law_944 X pv_scr 0 175 195 (nI i) o5 o6 (hp m)) := by
  have h0 := h
  obtain ⟨⟨P, a, π, s, b, C, T, D, hs, mk, tp, nm, hC, hM, ok⟩, -⟩ := h0
  obtain ⟨v, m1, m2, e1, e2, iv⟩ := Ag.inv h hc (q_pairs (X := X) hC.hc (hM.hm ok) (iv_SN hC hM ok) (X.1 (i + 1)))
  refine ⟨m2, o5, o6, ?_, iv⟩
  rw [u_Lw_law_944]
  simp only [ldS_1 hi hL, bs, Wp_rc, Md_rc, if_true, tIs, e1, e2]
theorem a_969 (h : INV m c) (hc : c < 600) (hi : i + 7 ≤ X.2) (hL : X.2 < 2 ^ 31) : GoesOn X i c (f_Lw_law_969 X pv_scr 0 175 195 (nI i) o5 o6 (hp m)) := by
  have h0 := h
  obtain ⟨⟨P, a, π, s, b, C, T, D, hs, mk, tp, nm, hC, hM, ok⟩, -⟩ := h0
  obtain ⟨v, m1, m2, e1, e2, iv⟩ := Ag.inv h hc (q_look (X := X) hC.hc (hM.hm ok) (iv_SN hC hM ok) (X.1 (i + 1)))
  refine ⟨m2, o5, o6, ?_, iv⟩
  rw [u_Lw_law_969]
  simp only [ldS_1 hi hL, bs, Wp_rc, Md_rc, if_true, tIs, e1, e2]
theorem a_994 (h : INV m c) (hc : c < 600) (hi : i + 7 ≤ X.2) (hL : X.2 < 2 ^ 31) : GoesOn X i c (f_Lw_law_994 X pv_scr 0 175 195 (nI i) o5 o6 (hp m)) := by
  obtain ⟨v, m1, m2, e1, e2, iv⟩ := k_tell (X := X) h hc (X.1 (i + 1)) (X.1 (i + 2))
  refine ⟨m2, o5, o6, ?_, iv⟩
  rw [u_Lw_law_994]
  simp only [ldS_1 hi hL, ldS_2 hi hL, bs, Wp_rc, Md_rc, if_true, tIs, e1, e2]
theorem a_1031 (h : INV m c) (hc : c < 600) (hi : i + 7 ≤ X.2) (hL : X.2 < 2 ^ 31) : GoesOn X i c (f_Lw_law_1031 X pv_scr 0 175 195 (nI i) o5 o6 (hp m)) := by
  have h0 := h
  obtain ⟨⟨P, a, π, s, b, C, T, D, hs, mk, tp, nm, hC, hM, ok⟩, -⟩ := h0
  obtain ⟨v, m1, m2, e1, e2, iv⟩ := Ag.inv h hc (q_fits (X := X) (iv_TN hC hM ok) (X.1 (i + 1)))
  refine ⟨m2, o5, o6, ?_, iv⟩
  rw [u_Lw_law_1031]
  simp only [ldS_1 hi hL, bs, Wp_rc, Md_rc, if_true, tIs, e1, e2]
theorem a_1056 (h : INV m c) (hc : c < 600) (hi : i + 7 ≤ X.2) (hL : X.2 < 2 ^ 31) : GoesOn X i c (f_Lw_law_1056 X pv_scr 0 175 195 (nI i) o5 o6 (hp m)) := by
  have h0 := h
  obtain ⟨⟨P, a, π, s, b, C, T, D, hs, mk, tp, nm, hC, hM, ok⟩, -⟩ := h0
  obtain ⟨v, m1, m2, e1, e2, iv⟩ := Ag.inv h hc (q_when (X := X) (iv_TN hC hM ok))
  refine ⟨m2, o5, o6, ?_, iv⟩
  rw [u_Lw_law_1056]
  simp only [bs, Wp_rc, Md_rc, if_true, tIs, e1, e2]
theorem a_1069 (h : INV m c) (hc : c < 600) (hi : i + 7 ≤ X.2) (hL : X.2 < 2 ^ 31) : GoesOn X i c (f_Lw_law_1069 X pv_scr 0 175 195 (nI i) o5 o6 (hp m)) := by
  have h0 := h
  obtain ⟨⟨P, a, π, s, b, C, T, D, hs, mk, tp, nm, hC, hM, ok⟩, -⟩ := h0
  obtain ⟨v, m1, m2, e1, e2, iv⟩ := Ag.inv h hc (q_comes (X := X) hC.hc (hM.hm ok)  (X.1 (i + 1)))
  refine ⟨m2, o5, o6, ?_, iv⟩
  rw [u_Lw_law_1069]
  simp only [ldS_1 hi hL, bs, Wp_rc, Md_rc, if_true, tIs, e1, e2]
theorem a_1094 (h : INV m c) (hc : c < 600) (hi : i + 7 ≤ X.2) (hL : X.2 < 2 ^ 31) : GoesOn X i c (f_Lw_law_1094 X pv_scr 0 175 195 (nI i) o5 o6 (hp m)) := by
  have h0 := h
  obtain ⟨⟨P, a, π, s, b, C, T, D, hs, mk, tp, nm, hC, hM, ok⟩, -⟩ := h0
  obtain ⟨v, m1, m2, e1, e2, iv⟩ := Ag.inv h hc (q_rings (X := X) hC.hc (hM.hm ok) )
  refine ⟨m2, o5, o6, ?_, iv⟩
  rw [u_Lw_law_1094]
  simp only [bs, Wp_rc, Md_rc, if_true, tIs, e1, e2]
theorem a_1107 (h : INV m c) (hc : c < 600) (hi : i + 7 ≤ X.2) (hL : X.2 < 2 ^ 31) : GoesOn X i c (f_Lw_law_1107 X pv_scr 0 175 195 (nI i) o5 o6 (hp m)) := by
  have h0 := h
  obtain ⟨⟨P, a, π, s, b, C, T, D, hs, mk, tp, nm, hC, hM, ok⟩, -⟩ := h0
  obtain ⟨v, m1, m2, e1, e2, iv⟩ := Ag.inv h hc (q_calm (X := X) hC.hc (hM.hm ok) )
  refine ⟨m2, o5, o6, ?_, iv⟩
  rw [u_Lw_law_1107]
  simp only [bs, Wp_rc, Md_rc, if_true, tIs, e1, e2]
theorem a_1120 (h : INV m c) (hc : c < 600) (hi : i + 7 ≤ X.2) (hL : X.2 < 2 ^ 31) : GoesOn X i c (f_Lw_law_1120 X pv_scr 0 175 195 (nI i) o5 o6 (hp m)) := by
  have h0 := h
  obtain ⟨⟨P, a, π, s, b, C, T, D, hs, mk, tp, nm, hC, hM, ok⟩, -⟩ := h0
  obtain ⟨v, m1, m2, e1, e2, iv⟩ := Ag.inv h hc (q_drift (X := X) hC.hc (hM.hm ok)  (X.1 (i + 1)) (X.1 (i + 2)))
  refine ⟨m2, o5, o6, ?_, iv⟩
  rw [u_Lw_law_1120]
  simp only [ldS_1 hi hL, ldS_2 hi hL, bs, Wp_rc, Md_rc, if_true, tIs, e1, e2]
theorem a_1157 (h : INV m c) (hc : c < 600) (hi : i + 7 ≤ X.2) (hL : X.2 < 2 ^ 31) : GoesOn X i c (f_Lw_law_1157 X pv_scr 0 175 195 (nI i) o5 o6 (hp m)) := by
  have h0 := h
  obtain ⟨⟨P, a, π, s, b, C, T, D, hs, mk, tp, nm, hC, hM, ok⟩, -⟩ := h0
  obtain ⟨v, m1, m2, e1, e2, iv⟩ := Ag.inv h hc (q_near (X := X) hC.hc (hM.hm ok)  (X.1 (i + 1)))
  refine ⟨m2, o5, o6, ?_, iv⟩
  rw [u_Lw_law_1157]
  simp only [ldS_1 hi hL, bs, Wp_rc, Md_rc, if_true, tIs, e1, e2]
theorem a_1182 (h : INV m c) (hc : c < 600) (hi : i + 7 ≤ X.2) (hL : X.2 < 2 ^ 31) : GoesOn X i c (f_Lw_law_1182 X pv_scr 0 175 195 (nI i) o5 o6 (hp m)) := by
  have h0 := h
  obtain ⟨⟨P, a, π, s, b, C, T, D, hs, mk, tp, nm, hC, hM, ok⟩, -⟩ := h0
  obtain ⟨v, m1, m2, e1, e2, iv⟩ := Ag.inv h hc (q_spread (X := X) hC.hc (hM.hm ok) )
  refine ⟨m2, o5, o6, ?_, iv⟩
  rw [u_Lw_law_1182]
  simp only [bs, Wp_rc, Md_rc, if_true, tIs, e1, e2]
theorem a_1195 (h : INV m c) (hc : c < 600) (hi : i + 7 ≤ X.2) (hL : X.2 < 2 ^ 31) : GoesOn X i c (f_Lw_law_1195 X pv_scr 0 175 195 (nI i) o5 o6 (hp m)) := by
  have h0 := h
  obtain ⟨⟨P, a, π, s, b, C, T, D, hs, mk, tp, nm, hC, hM, ok⟩, -⟩ := h0
  obtain ⟨v, m1, m2, e1, e2, iv⟩ := Ag.inv h hc (q_right (X := X) hC.hc (hM.hm ok)  (X.1 (i + 1)))
  refine ⟨m2, o5, o6, ?_, iv⟩
  rw [u_Lw_law_1195]
  simp only [ldS_1 hi hL, bs, Wp_rc, Md_rc, if_true, tIs, e1, e2]
theorem a_1220 (h : INV m c) (hc : c < 600) (hi : i + 7 ≤ X.2) (hL : X.2 < 2 ^ 31) : GoesOn X i c (f_Lw_law_1220 X pv_scr 0 175 195 (nI i) o5 o6 (hp m)) := by
  have h0 := h
  obtain ⟨⟨P, a, π, s, b, C, T, D, hs, mk, tp, nm, hC, hM, ok⟩, -⟩ := h0
  obtain ⟨v, m1, m2, e1, e2, iv⟩ := Ag.inv h hc (q_steady (X := X) hC.hc (hM.hm ok) )
  refine ⟨m2, o5, o6, ?_, iv⟩
  rw [u_Lw_law_1220]
  simp only [bs, Wp_rc, Md_rc, if_true, tIs, e1, e2]
theorem a_1233 (h : INV m c) (hc : c < 600) (hi : i + 7 ≤ X.2) (hL : X.2 < 2 ^ 31) : GoesOn X i c (f_Lw_law_1233 X pv_scr 0 175 195 (nI i) o5 o6 (hp m)) := by
  have h0 := h
  obtain ⟨⟨P, a, π, s, b, C, T, D, hs, mk, tp, nm, hC, hM, ok⟩, -⟩ := h0
  obtain ⟨v, m1, m2, e1, e2, iv⟩ := Ag.inv h hc (q_passes (X := X) hC.hc (hM.hm ok)  (X.1 (i + 1)) (X.1 (i + 2)) (X.1 (i + 3)))
  refine ⟨m2, o5, o6, ?_, iv⟩
  rw [u_Lw_law_1233]
  simp only [ldS_1 hi hL, ldS_2 hi hL, ldS_3 hi hL, bs, Wp_rc, Md_rc, if_true, tIs, e1, e2]
theorem a_1282 (h : INV m c) (hc : c < 600) (hi : i + 7 ≤ X.2) (hL : X.2 < 2 ^ 31) : GoesOn X i c (f_Lw_law_1282 X pv_scr 0 175 195 (nI i) o5 o6 (hp m)) := by
  have h0 := h
  obtain ⟨⟨P, a, π, s, b, C, T, D, hs, mk, tp, nm, hC, hM, ok⟩, -⟩ := h0
  obtain ⟨v, m1, m2, e1, e2, iv⟩ := Ag.inv h hc (q_hub (X := X) hC.hc (hM.hm ok) )
  refine ⟨m2, o5, o6, ?_, iv⟩
  rw [u_Lw_law_1282]
  simp only [bs, Wp_rc, Md_rc, if_true, tIs, e1, e2]
theorem a_1295 (h : INV m c) (hc : c < 600) (hi : i + 7 ≤ X.2) (hL : X.2 < 2 ^ 31) : GoesOn X i c (f_Lw_law_1295 X pv_scr 0 175 195 (nI i) o5 o6 (hp m)) := by
  have h0 := h
  obtain ⟨⟨P, a, π, s, b, C, T, D, hs, mk, tp, nm, hC, hM, ok⟩, -⟩ := h0
  obtain ⟨v, m1, m2, e1, e2, iv⟩ := Ag.inv h hc (q_teacher (X := X) hC.hc (hM.hm ok)  (X.1 (i + 1)))
  refine ⟨m2, o5, o6, ?_, iv⟩
  rw [u_Lw_law_1295]
  simp only [ldS_1 hi hL, bs, Wp_rc, Md_rc, if_true, tIs, e1, e2]
theorem a_1320 (h : INV m c) (hc : c < 600) (hi : i + 7 ≤ X.2) (hL : X.2 < 2 ^ 31) : GoesOn X i c (f_Lw_law_1320 X pv_scr 0 175 195 (nI i) o5 o6 (hp m)) := by
  have h0 := h
  obtain ⟨⟨P, a, π, s, b, C, T, D, hs, mk, tp, nm, hC, hM, ok⟩, -⟩ := h0
  obtain ⟨v, m1, m2, e1, e2, iv⟩ := Ag.inv h hc (q_together (X := X) hC.hc (hM.hm ok) )
  refine ⟨m2, o5, o6, ?_, iv⟩
  rw [u_Lw_law_1320]
  simp only [bs, Wp_rc, Md_rc, if_true, tIs, e1, e2]
theorem a_1333 (h : INV m c) (hc : c < 600) (hi : i + 7 ≤ X.2) (hL : X.2 < 2 ^ 31) : GoesOn X i c (f_Lw_law_1333 X pv_scr 0 175 195 (nI i) o5 o6 (hp m)) := by
  have h0 := h
  obtain ⟨⟨P, a, π, s, b, C, T, D, hs, mk, tp, nm, hC, hM, ok⟩, -⟩ := h0
  obtain ⟨v, m1, m2, e1, e2, iv⟩ := Ag.inv h hc (q_cure (X := X) hC.hc (hM.hm ok)  (X.1 (i + 1)))
  refine ⟨m2, o5, o6, ?_, iv⟩
  rw [u_Lw_law_1333]
  simp only [ldS_1 hi hL, bs, Wp_rc, Md_rc, if_true, tIs, e1, e2]
theorem a_1358 (h : INV m c) (hc : c < 600) (hi : i + 7 ≤ X.2) (hL : X.2 < 2 ^ 31) : GoesOn X i c (f_Lw_law_1358 X pv_scr 0 175 195 (nI i) o5 o6 (hp m)) := by
  have h0 := h
  obtain ⟨⟨P, a, π, s, b, C, T, D, hs, mk, tp, nm, hC, hM, ok⟩, -⟩ := h0
  obtain ⟨v, m1, m2, e1, e2, iv⟩ := Ag.inv h hc (q_chance (X := X) hC.hc (hM.hm ok)  (X.1 (i + 1)) (X.1 (i + 2)) (X.1 (i + 3)) (X.1 (i + 4)))
  refine ⟨m2, o5, o6, ?_, iv⟩
  rw [u_Lw_law_1358]
  simp only [ldS_1 hi hL, ldS_2 hi hL, ldS_3 hi hL, ldS_4 hi hL, bs, Wp_rc, Md_rc, if_true, tIs, e1, e2]
theorem a_1511 (h : INV m c) (hc : c < 600) (hi : i + 7 ≤ X.2) (hL : X.2 < 2 ^ 31) : GoesOn X i c (f_Lw_law_1511 X pv_scr 0 175 195 (nI i) o5 o6 (hp m)) := by
  have h0 := h
  obtain ⟨⟨P, a, π, s, b, C, T, D, hs, mk, tp, nm, hC, hM, ok⟩, -⟩ := h0
  obtain ⟨v, m1, m2, e1, e2, iv⟩ := Ag.inv h hc (q_years (X := X) hC.hc (hM.hm ok)  (X.1 (i + 1)) (X.1 (i + 2)) (X.1 (i + 3)))
  refine ⟨m2, o5, o6, ?_, iv⟩
  rw [u_Lw_law_1511]
  simp only [ldS_1 hi hL, ldS_2 hi hL, ldS_3 hi hL, bs, Wp_rc, Md_rc, if_true, tIs, e1, e2]
theorem a_1560 (h : INV m c) (hc : c < 600) (hi : i + 7 ≤ X.2) (hL : X.2 < 2 ^ 31) : GoesOn X i c (f_Lw_law_1560 X pv_scr 0 175 195 (nI i) o5 o6 (hp m)) := by
  by_cases hx : X.1 (i + 2) = 0
  · obtain ⟨v, m1, m2, e1, e2, iv⟩ := k_mark (X := X) h hc (X.1 (i + 1)) 0
    refine ⟨m2, o5, o6, ?_, iv⟩
    rw [u_Lw_law_1560]
    simp only [ldS_1 hi hL, ldS_2 hi hL, bs, if_pos hx, u_Lw_law_1581, u_Lw_law_1605, Wp_rc, Md_rc, if_true, tIs, e1, e2]
  · obtain ⟨v, m1, m2, e1, e2, iv⟩ := k_mark (X := X) h hc (X.1 (i + 1)) 1
    refine ⟨m2, o5, o6, ?_, iv⟩
    rw [u_Lw_law_1560]
    simp only [ldS_1 hi hL, ldS_2 hi hL, bs, if_neg hx, u_Lw_law_1581, u_Lw_law_1605, Wp_rc, Md_rc, if_true, tIs, e1, e2]
theorem a_1613 (h : INV m c) (hc : c < 600) (hi : i + 7 ≤ X.2) (hL : X.2 < 2 ^ 31) : GoesOn X i c (f_Lw_law_1613 X pv_scr 0 175 195 (nI i) o5 o6 (hp m)) := by
  have h0 := h
  obtain ⟨⟨P, a, π, s, b, C, T, D, hs, mk, tp, nm, hC, hM, ok⟩, -⟩ := h0
  obtain ⟨v, m1, m2, e1, e2, iv⟩ := Ag.inv h hc (q_count (X := X) hC.hc (hM.hm ok) (iv_DN hC hM ok) (iv_SN hC hM ok) (iv_TN hC hM ok) (iv_hu hC hM) (iv_tl hC hM) (X.1 (i + 1)))
  refine ⟨m2, o5, o6, ?_, iv⟩
  rw [u_Lw_law_1613]
  simp only [ldS_1 hi hL, bs, Wp_rc, Md_rc, if_true, tIs, e1, e2]
end ARM
