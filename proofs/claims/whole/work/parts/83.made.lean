/-! What the constructors leave: the cells behind those that lay there before. -/
abbrev rI (t n : Nat) (f : Nat → Int32) : pv_C := .inl (t, n, .inl f)
abbrev rL (n : Nat) (f : Nat → Int64) : pv_C := .inl (2, n, .inr (.inl f))
abbrev rR (t n : Nat) (f : Nat → Option Nat) : pv_C := .inl (t, n, .inr (.inr (.inr (.inr f))))
abbrev z1 (n : Nat) : pv_C := rI 1 n (fun _ => 0)
def hq (h : pv_H) (c : Nat) (fs : List Value) (T : pv_H) : pv_H := h ++ (.inr (c, fs) :: T)
section MKG
variable {X : pv_X} {h T : pv_H} {c a : Nat} {fs : List Value}
theorem hq_len (hl : h.length = a) : (hq h c fs T).length = a + 1 + T.length := by
  unfold hq
  rw [List.length_append, List.length_cons, hl]
  omega
theorem hq_g0 (hl : h.length = a) : (hq h c fs T)[a]? = some (.inr (c, fs)) := by
  unfold hq
  rw [List.getElem?_append_right (by omega), hl, Nat.sub_self]
  rfl
theorem hq_g (hl : h.length = a) (k : Nat) : (hq h c fs T)[a + 1 + k]? = T[k]? := by
  unfold hq
  rw [List.getElem?_append_right (by omega), hl, show a + 1 + k - a = k + 1 by omega]
  rfl
theorem hq_s0 (hl : h.length = a) {fs' : List Value} {c' : Nat} : (hq h c fs T).set a (.inr (c', fs')) = hq h c' fs' T := by
  unfold hq
  rw [List.set_append_right _ _ (by omega), hl, Nat.sub_self]
  rfl
theorem hq_s (hl : h.length = a) (k : Nat) (x : pv_C) : (hq h c fs T).set (a + 1 + k) x = hq h c fs (T.set k x) := by
  unfold hq
  rw [List.set_append_right _ _ (by omega), hl, show a + 1 + k - a = k + 1 by omega]
  rfl
theorem hq_app (U : pv_H) : hq h c fs T ++ U = hq h c fs (T ++ U) := by
  unfold hq
  rw [List.append_assoc, List.cons_append]
theorem hq_fp (hl : h.length = a) {j : Nat} {v : Value} (hj : j < fs.length) : pv_fp (hq h c fs T) a c j v = some (hq h c (fs.set j v) T) := by
  unfold pv_fp
  rw [hq_g0 hl]
  show (if c = c ∧ j < fs.length then _ else none) = _
  rw [if_pos ⟨rfl, hj⟩, hq_s0 hl]
theorem hq_rc (hl : h.length = a) : pv_rc (hq h c fs T) a c = true := by
  unfold pv_rc
  rw [hq_g0 hl]
  exact decide_eq_true rfl
theorem hq_fR (hl : h.length = a) {j b : Nat} (hb : fs[j]? = some (.ref b)) : pv_fR (hq h c fs T) a c j = some b := by
  unfold pv_fR pv_f
  rw [hq_g0 hl]
  show (match (if c = c then fs[j]? else none) with | some (.ref x) => some x | _ => none) = _
  rw [if_pos rfl, hb]
theorem hq_na (hl : h.length = a) {t : Nat} {n : Int32} {z : pv_C} (hz : pv_arr t n.toNatClampNeg = some z) (hn : ¬ n < 0 ∧ n.toNatClampNeg ≤ 1000000) (hs : a + 1 + T.length < 100000) : pv_na (hq h c fs T) t n = some (hq h c fs (T ++ [z])) := by
  unfold pv_na
  rw [if_pos ⟨hn.1, hn.2, by rw [hq_len hl]; unfold pv_scr; omega⟩, hz, Option.map_some, hq_app]
theorem hq_sI (hl : h.length = a) {u n i : Nat} {f : Nat → Int32} {x : Int32} (hg : T[u]? = some (rI 1 n f)) (hi : i < n) (hn : n < 2 ^ 31) : pv_sI (hq h c fs T) (a + 1 + u) (nI i) x = some (hq h c fs (T.set u (rI 1 n (upd f i x)))) := by
  unfold pv_sI
  rw [hq_g hl, hg]
  show (if 1 = 1 ∧ pv_in (nI i) n = true then _ else none) = _
  rw [if_pos ⟨rfl, pv_in_nI hi hn⟩, hq_s hl, nI_clamp (by omega)]
theorem set_id {α : Type} {l : List α} {u : Nat} {x : α} (hg : l[u]? = some x) : l.set u x = l := by
  apply List.ext_getElem?
  intro j
  by_cases hj : u = j
  · subst hj
    rw [List.getElem?_set_self (List.getElem?_eq_some_iff.mp hg).1, hg]
  · rw [List.getElem?_set_ne hj]
theorem upd_z (i : Nat) : upd (fun _ => 0) i 0 = fun _ => (0 : Int32) := by
  funext j
  unfold upd
  split <;> rfl
theorem hq_sI0 (hl : h.length = a) {u n i : Nat} (hg : T[u]? = some (z1 n)) (hi : i < n) (hn : n < 2 ^ 31) : pv_sI (hq h c fs T) (a + 1 + u) (nI i) 0 = some (hq h c fs T) := by
  rw [hq_sI hl hg hi hn, upd_z, set_id hg]
theorem hq_sZ0 (hl : h.length = a) {u n i : Nat} (hg : T[u]? = some (rI 3 n (fun _ => 0))) (hi : i < n) (hn : n < 2 ^ 31) : pv_sZ (hq h c fs T) (a + 1 + u) (nI i) 0 = some (hq h c fs T) := by
  unfold pv_sZ
  rw [hq_g hl, hg]
  show (if 3 = 3 ∧ pv_in (nI i) n = true then _ else none) = _
  rw [if_pos ⟨rfl, pv_in_nI hi hn⟩, hq_s hl, show vp_nar .boolean 0 = 0 from rfl, upd_z, set_id hg]
theorem hq_sR (hl : h.length = a) {u n i j t : Nat} {f : Nat → Option Nat} {g : List Value} (hg : T[u]? = some (rR t n f)) (hb : T[j]? = some (.inr (pv_el t, g))) (ht : t = 4 ∨ t = 5) (hi : i < n) (hn : n < 2 ^ 31) : pv_sR (hq h c fs T) (a + 1 + u) (nI i) (a + 1 + j) = some (hq h c fs (T.set u (rR t n (va_up f i (some (a + 1 + j)))))) := by
  unfold pv_sR
  rw [hq_g hl, hq_g hl, hg, hb]
  show (if (t = 4 ∨ t = 5) ∧ pv_in (nI i) n = true ∧ pv_el t = pv_el t then _ else none) = _
  rw [if_pos ⟨ht, pv_in_nI hi hn, rfl⟩, hq_s hl, nI_clamp (by omega)]
theorem nf {β : Type} (hl : h.length = a) {t j k : Nat} {n : Int32} {F : pv_H → Option β} (z : pv_C) (hz : pv_arr t n.toNatClampNeg = some z) (hn : ¬ n < 0 ∧ n.toNatClampNeg ≤ 1000000) (hk : T.length = k) (ha : a + 1 + k < 100000) (hj : j < fs.length) : (pv_na (hq h c fs T) t n).bind (fun h1 => (pv_fp h1 a c j (.ref (hq h c fs T).length)).bind F) = F (hq h c (fs.set j (.ref (a + 1 + k))) (T ++ [z])) := by
  rw [hq_na hl hz hn (by omega), bs, hq_fp hl hj, bs, hq_len hl, hk]
theorem nw {β : Type} (hl : h.length = a) {n : Nat} {i : Int32} {x : Int64} {f : Nat → Int64} {F : pv_H → Option β} (hi : pv_in i n = true) : (pv_sJ (hq h c fs (T ++ [rL n f])) (hq h c fs T).length i x).bind F = F (hq h c fs (T ++ [rL n (vp_updL f i.toNatClampNeg x)])) := by
  unfold pv_sJ
  rw [hq_len hl, hq_g hl, List.getElem?_append_right (Nat.le_refl _), Nat.sub_self]
  show ((if 2 = 2 ∧ pv_in i n = true then _ else none) : Option pv_H).bind F = _
  rw [if_pos ⟨rfl, hi⟩, bs, hq_s hl, List.set_append_right _ _ (Nat.le_refl _), Nat.sub_self]
  rfl
end MKG
def MK (X : pv_X) (M : pv_M) (ci : Nat) (ch : Nat → pv_H) (B : Nat) : Prop := B ≤ 1000 ∧ ∀ h a, h.length = a → a < B → pv_tV (pM X M [.ref a] (hq h ci (pv_dft ci) [])) = some (h ++ ch a)
theorem MK.to {X : pv_X} {M : pv_M} {ci : Nat} {ch : Nat → pv_H} {B : Nat} {β : Type} {h : pv_H} {F : pv_H → Option β} (K : MK X M ci ch B) {a : Nat} (hl : h.length = a) (ha : a < B) : (pv_no h ci (pv_dft ci)).bind (fun h1 => if pv_rc h1 h.length ci = true then (pv_tV (pM X M [.ref h.length] h1)).bind F else none) = F (h ++ ch a) := by
  have hB := K.1
  unfold pv_no
  rw [if_pos (by unfold pv_scr; omega), bs]
  have e : h ++ [.inr (ci, pv_dft ci)] = hq h ci (pv_dft ci) [] := rfl
  rw [e, if_pos (hq_rc rfl), hl, K.2 h a hl ha, bs]
theorem MK.of {X : pv_X} {M : pv_M} {ci : Nat} {ch : Nat → pv_H} {B : Nat} {β : Type} {h T : pv_H} {c a k j : Nat} {fs : List Value} {F : pv_H → Option β} (K : MK X M ci ch B) (hl : h.length = a) (hk : T.length = k) (ha : a + 1 + k < B) (hj : j < fs.length) : (pv_no (hq h c fs T) ci (pv_dft ci)).bind (fun h1 => if pv_rc h1 (hq h c fs T).length ci = true then (pv_tV (pM X M [.ref (hq h c fs T).length] h1)).bind (fun h2 => (pv_fp h2 a c j (.ref (hq h c fs T).length)).bind F) else none) = F (hq h c (fs.set j (.ref (a + 1 + k))) (T ++ ch (a + 1 + k))) := by
  rw [K.to (h := hq h c fs T) (a := a + 1 + k) (by rw [hq_len hl, hk]) ha, hq_app, hq_fp hl hj, bs, hq_len hl, hk]
def chSt (a : Nat) : pv_H := [.inr (7, [.ref (a + 1), .ref (a + 2), .ref (a + 3), .int 0]), z1 6, z1 6, z1 6]
def chCl (a : Nat) : pv_H := [.inr (0, [.ref (a + 1), .ref (a + 2), .ref (a + 3), .int 0]), z1 6, z1 6, z1 6]
def chDa (a : Nat) : pv_H := [.inr (1, [.ref (a + 1), .ref (a + 2), .ref (a + 3), .int 0]), z1 40, z1 40, z1 40]
def chMo (a : Nat) : pv_H := [.inr (5, [.ref (a + 1), .ref (a + 2), .int 0, .int 0]), z1 1000, z1 32]
def chTa (a : Nat) : pv_H := [.inr (8, [.ref (a + 1), .int 0]), z1 720]
def chTp (a : Nat) : pv_H := [.inr (9, [.ref (a + 1), .int 0, .long 0, .int 0, .int 0, .int 0, .int 0, .int 0]), rI 0 1000 (fun _ => 0)]
def chDr (_ : Nat) : pv_H := [.inr (2, [.long 0])]
def chPo (a : Nat) : pv_H := [.inr (6, [.ref (a + 1), .ref (a + 2), .ref (a + 3), .ref (a + 6), .ref (a + 7), .ref (a + 8), .int 0]), rL 6 (fun _ => 0), rI 3 6 (fun _ => 0)] ++ chMo (a + 3) ++ [z1 6, z1 6] ++ chSt (a + 8)
def chMk (a : Nat) : pv_H := [.inr (4, [.ref (a + 1), .ref (a + 5), .ref (a + 9), .int 0])] ++ chSt (a + 1) ++ chCl (a + 5) ++ chCl (a + 9)
section MKS
variable {X : pv_X}
theorem MK_St : MK X m_St_init 7 chSt 1000 := by
  refine ⟨by decide, ?_⟩
  intro h a hl ha
  rw [e_St_init, u_St_init_0]
  refine (congrArg pv_tV ((nf hl (z1 6) rfl (by decide) (k := 0) rfl (by omega) (Nat.le_of_ble_eq_true rfl)).trans ((nf hl (z1 6) rfl (by decide) (k := 1) rfl (by omega) (Nat.le_of_ble_eq_true rfl)).trans (nf hl (z1 6) rfl (by decide) (k := 2) rfl (by omega) (Nat.le_of_ble_eq_true rfl))))).trans ?_
  rfl
theorem MK_Cl : MK X m_Cl_init 0 chCl 1000 := by
  refine ⟨by decide, ?_⟩
  intro h a hl ha
  rw [e_Cl_init, u_Cl_init_0]
  refine (congrArg pv_tV ((nf hl (z1 6) rfl (by decide) (k := 0) rfl (by omega) (Nat.le_of_ble_eq_true rfl)).trans ((nf hl (z1 6) rfl (by decide) (k := 1) rfl (by omega) (Nat.le_of_ble_eq_true rfl)).trans (nf hl (z1 6) rfl (by decide) (k := 2) rfl (by omega) (Nat.le_of_ble_eq_true rfl))))).trans ?_
  rfl
theorem MK_Da : MK X m_Da_init 1 chDa 1000 := by
  refine ⟨by decide, ?_⟩
  intro h a hl ha
  rw [e_Da_init, u_Da_init_0]
  refine (congrArg pv_tV ((nf hl (z1 40) rfl (by decide) (k := 0) rfl (by omega) (Nat.le_of_ble_eq_true rfl)).trans ((nf hl (z1 40) rfl (by decide) (k := 1) rfl (by omega) (Nat.le_of_ble_eq_true rfl)).trans (nf hl (z1 40) rfl (by decide) (k := 2) rfl (by omega) (Nat.le_of_ble_eq_true rfl))))).trans ?_
  rfl
theorem MK_Mo : MK X m_Mo_init 5 chMo 1000 := by
  refine ⟨by decide, ?_⟩
  intro h a hl ha
  rw [e_Mo_init, u_Mo_init_0]
  refine (congrArg pv_tV ((nf hl (z1 1000) rfl (by decide) (k := 0) rfl (by omega) (Nat.le_of_ble_eq_true rfl)).trans (nf hl (z1 32) rfl (by decide) (k := 1) rfl (by omega) (Nat.le_of_ble_eq_true rfl)))).trans ?_
  rfl
theorem MK_Ta : MK X m_Ta_init 8 chTa 1000 := by
  refine ⟨by decide, ?_⟩
  intro h a hl ha
  rw [e_Ta_init, u_Ta_init_0]
  refine (congrArg pv_tV (nf hl (z1 720) rfl (by decide) (k := 0) rfl (by omega) (Nat.le_of_ble_eq_true rfl))).trans ?_
  rfl
theorem MK_Tp : MK X m_Tp_init 9 chTp 1000 := by
  refine ⟨by decide, ?_⟩
  intro h a hl ha
  rw [e_Tp_init, u_Tp_init_0]
  refine (congrArg pv_tV (nf hl (rI 0 1000 (fun _ => 0)) rfl (by decide) (k := 0) rfl (by omega) (Nat.le_of_ble_eq_true rfl))).trans ?_
  rfl
theorem MK_Dr : MK X m_Dr_init 2 chDr 1000 := by
  refine ⟨by decide, ?_⟩
  intro h a hl ha
  rw [e_Dr_init, u_Dr_init_0]
  rfl
theorem MK_Po : MK X m_Po_init 6 chPo 900 := by
  refine ⟨by decide, ?_⟩
  intro h a hl ha
  rw [e_Po_init, u_Po_init_0]
  refine (congrArg pv_tV ((nf hl (rL 6 (fun _ => 0)) rfl (by decide) (k := 0) rfl (by omega) (Nat.le_of_ble_eq_true rfl)).trans ((nf hl (rI 3 6 (fun _ => 0)) rfl (by decide) (k := 1) rfl (by omega) (Nat.le_of_ble_eq_true rfl)).trans ((MK_Mo.of hl (k := 2) rfl (by omega) (Nat.le_of_ble_eq_true rfl)).trans ((nf hl (z1 6) rfl (by decide) (k := 5) rfl (by omega) (Nat.le_of_ble_eq_true rfl)).trans ((nf hl (z1 6) rfl (by decide) (k := 6) rfl (by omega) (Nat.le_of_ble_eq_true rfl)).trans (MK_St.of hl (k := 7) rfl (by omega) (Nat.le_of_ble_eq_true rfl)))))))).trans ?_
  rfl
theorem MK_Mk : MK X m_Mk_init 4 chMk 900 := by
  refine ⟨by decide, ?_⟩
  intro h a hl ha
  rw [e_Mk_init, u_Mk_init_0]
  refine (congrArg pv_tV ((MK_St.of hl (k := 0) rfl (by omega) (Nat.le_of_ble_eq_true rfl)).trans ((MK_Cl.of hl (k := 4) rfl (by omega) (Nat.le_of_ble_eq_true rfl)).trans (MK_Cl.of hl (k := 8) rfl (by omega) (Nat.le_of_ble_eq_true rfl))))).trans ?_
  rfl
end MKS
