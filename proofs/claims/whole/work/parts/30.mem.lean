/-! The system's memory: 196 cells of fixed shape; what they hold, by functions. -/
abbrev pm_M : Type := (Nat → Nat → Int32) × (Nat → Nat → Int64) × (Nat → Nat → Int32) × (Nat → Nat → Int64) × (Nat → Nat → Nat) × pv_H
def gI (m : pm_M) (a j : Nat) : Int32 := m.1 a j
def gJ (m : pm_M) (a j : Nat) : Int64 := m.2.1 a j
def gA (m : pm_M) (a : Nat) : Nat → Int32 := m.2.2.1 a
def gL (m : pm_M) (a : Nat) : Nat → Int64 := m.2.2.2.1 a
def gR (m : pm_M) (a j : Nat) : Nat := m.2.2.2.2.1 a j
def gG (m : pm_M) : pv_H := m.2.2.2.2.2
def sI (m : pm_M) (a j : Nat) (v : Int32) : pm_M := (va_up m.1 a (va_up (m.1 a) j v), m.2)
def sJ (m : pm_M) (a j : Nat) (v : Int64) : pm_M := (m.1, va_up m.2.1 a (va_up (m.2.1 a) j v), m.2.2)
def sA (m : pm_M) (a : Nat) (f : Nat → Int32) : pm_M := (m.1, m.2.1, va_up m.2.2.1 a f, m.2.2.2)
def sL (m : pm_M) (a : Nat) (f : Nat → Int64) : pm_M := (m.1, m.2.1, m.2.2.1, va_up m.2.2.2.1 a f, m.2.2.2.2)
def sR (m : pm_M) (a j v : Nat) : pm_M := (m.1, m.2.1, m.2.2.1, m.2.2.2.1, va_up m.2.2.2.2.1 a (va_up (m.2.2.2.2.1 a) j v), m.2.2.2.2.2)
def sG (m : pm_M) (g : pv_H) : pm_M := (m.1, m.2.1, m.2.2.1, m.2.2.2.1, m.2.2.2.2.1, g)
abbrev pm_K : Type := (Nat × Nat) ⊕ (Nat × List (Nat × Nat))
def pm_rr (a i : Nat) : Option Nat := if a = 44 then (if i < 16 then some (45 + 4 * i) else none) else if a = 117 then (if i < 4 then some (123 + 13 * i) else none) else none
def pm_row (m : pm_M) (a t n : Nat) : vp_A := match t with
  | 2 => (n, .inr (.inl (gL m a)))
  | 4 => (n, .inr (.inr (.inr (.inr (pm_rr a)))))
  | 5 => (n, .inr (.inr (.inr (.inr (pm_rr a)))))
  | _ => (n, .inl (gA m a))
def pm_slot (m : pm_M) (a j : Nat) (s : Nat × Nat) : Value := match s with
  | (0, _) => .int (gI m a j)
  | (1, _) => .long (gJ m a j)
  | (2, k) => .ref k
  | _ => .ref (gR m a j)
def pm_cell (m : pm_M) (a : Nat) (k : pm_K) : pv_C := match k with
  | .inl (t, n) => .inl (t, pm_row m a t n)
  | .inr (c, sl) => .inr (c, sl.mapIdx (fun j s => pm_slot m a j s))
def pm_T : List pm_K := [.inr (10, [(2, 1), (3, 0), (3, 0), (3, 0), (3, 0), (2, 35), (2, 39), (2, 43), (2, 109), (2, 113), (2, 117), (2, 118), (2, 120), (2, 121), (2, 122)]), .inr (9, [(2, 2), (0, 0), (1, 0), (0, 0), (0, 0), (0, 0), (0, 0), (0, 0)]), .inl (0, 1000), .inr (6, [(2, 4), (2, 5), (2, 6), (2, 9), (2, 10), (2, 11), (0, 0)]), .inl (2, 6), .inl (3, 6), .inr (5, [(2, 7), (2, 8), (0, 0), (0, 0)]), .inl (1, 1000), .inl (1, 32), .inl (1, 6), .inl (1, 6), .inr (7, [(2, 12), (2, 13), (2, 14), (0, 0)]), .inl (1, 6), .inl (1, 6), .inl (1, 6), .inr (6, [(2, 16), (2, 17), (2, 18), (2, 21), (2, 22), (2, 23), (0, 0)]), .inl (2, 6), .inl (3, 6), .inr (5, [(2, 19), (2, 20), (0, 0), (0, 0)]), .inl (1, 1000), .inl (1, 32), .inl (1, 6), .inl (1, 6), .inr (7, [(2, 24), (2, 25), (2, 26), (0, 0)]), .inl (1, 6), .inl (1, 6), .inl (1, 6), .inr (1, [(2, 28), (2, 29), (2, 30), (0, 0)]), .inl (1, 40), .inl (1, 40), .inl (1, 40), .inr (1, [(2, 32), (2, 33), (2, 34), (0, 0)]), .inl (1, 40), .inl (1, 40), .inl (1, 40), .inr (7, [(2, 36), (2, 37), (2, 38), (0, 0)]), .inl (1, 6), .inl (1, 6), .inl (1, 6), .inr (7, [(2, 40), (2, 41), (2, 42), (0, 0)]), .inl (1, 6), .inl (1, 6), .inl (1, 6), .inr (3, [(2, 44), (0, 0), (0, 0)]), .inl (5, 16), .inr (7, [(2, 46), (2, 47), (2, 48), (0, 0)]), .inl (1, 6), .inl (1, 6), .inl (1, 6), .inr (7, [(2, 50), (2, 51), (2, 52), (0, 0)]), .inl (1, 6), .inl (1, 6), .inl (1, 6), .inr (7, [(2, 54), (2, 55), (2, 56), (0, 0)]), .inl (1, 6), .inl (1, 6), .inl (1, 6), .inr (7, [(2, 58), (2, 59), (2, 60), (0, 0)]), .inl (1, 6), .inl (1, 6), .inl (1, 6), .inr (7, [(2, 62), (2, 63), (2, 64), (0, 0)]), .inl (1, 6), .inl (1, 6), .inl (1, 6), .inr (7, [(2, 66), (2, 67), (2, 68), (0, 0)]), .inl (1, 6), .inl (1, 6), .inl (1, 6), .inr (7, [(2, 70), (2, 71), (2, 72), (0, 0)]), .inl (1, 6), .inl (1, 6), .inl (1, 6), .inr (7, [(2, 74), (2, 75), (2, 76), (0, 0)]), .inl (1, 6), .inl (1, 6), .inl (1, 6), .inr (7, [(2, 78), (2, 79), (2, 80), (0, 0)]), .inl (1, 6), .inl (1, 6), .inl (1, 6), .inr (7, [(2, 82), (2, 83), (2, 84), (0, 0)]), .inl (1, 6), .inl (1, 6), .inl (1, 6), .inr (7, [(2, 86), (2, 87), (2, 88), (0, 0)]), .inl (1, 6), .inl (1, 6), .inl (1, 6), .inr (7, [(2, 90), (2, 91), (2, 92), (0, 0)]), .inl (1, 6), .inl (1, 6), .inl (1, 6), .inr (7, [(2, 94), (2, 95), (2, 96), (0, 0)]), .inl (1, 6), .inl (1, 6), .inl (1, 6), .inr (7, [(2, 98), (2, 99), (2, 100), (0, 0)]), .inl (1, 6), .inl (1, 6), .inl (1, 6), .inr (7, [(2, 102), (2, 103), (2, 104), (0, 0)]), .inl (1, 6), .inl (1, 6), .inl (1, 6), .inr (7, [(2, 106), (2, 107), (2, 108), (0, 0)]), .inl (1, 6), .inl (1, 6), .inl (1, 6), .inr (0, [(2, 110), (2, 111), (2, 112), (0, 0)]), .inl (1, 6), .inl (1, 6), .inl (1, 6), .inr (0, [(2, 114), (2, 115), (2, 116), (0, 0)]), .inl (1, 6), .inl (1, 6), .inl (1, 6), .inl (4, 4), .inr (8, [(2, 119), (0, 0)]), .inl (1, 720), .inr (2, [(1, 0)]), .inl (1, 6), .inl (1, 750), .inr (4, [(2, 124), (2, 128), (2, 132), (0, 0)]), .inr (7, [(2, 125), (2, 126), (2, 127), (0, 0)]), .inl (1, 6), .inl (1, 6), .inl (1, 6), .inr (0, [(2, 129), (2, 130), (2, 131), (0, 0)]), .inl (1, 6), .inl (1, 6), .inl (1, 6), .inr (0, [(2, 133), (2, 134), (2, 135), (0, 0)]), .inl (1, 6), .inl (1, 6), .inl (1, 6), .inr (4, [(2, 137), (2, 141), (2, 145), (0, 0)]), .inr (7, [(2, 138), (2, 139), (2, 140), (0, 0)]), .inl (1, 6), .inl (1, 6), .inl (1, 6), .inr (0, [(2, 142), (2, 143), (2, 144), (0, 0)]), .inl (1, 6), .inl (1, 6), .inl (1, 6), .inr (0, [(2, 146), (2, 147), (2, 148), (0, 0)]), .inl (1, 6), .inl (1, 6), .inl (1, 6), .inr (4, [(2, 150), (2, 154), (2, 158), (0, 0)]), .inr (7, [(2, 151), (2, 152), (2, 153), (0, 0)]), .inl (1, 6), .inl (1, 6), .inl (1, 6), .inr (0, [(2, 155), (2, 156), (2, 157), (0, 0)]), .inl (1, 6), .inl (1, 6), .inl (1, 6), .inr (0, [(2, 159), (2, 160), (2, 161), (0, 0)]), .inl (1, 6), .inl (1, 6), .inl (1, 6), .inr (4, [(2, 163), (2, 167), (2, 171), (0, 0)]), .inr (7, [(2, 164), (2, 165), (2, 166), (0, 0)]), .inl (1, 6), .inl (1, 6), .inl (1, 6), .inr (0, [(2, 168), (2, 169), (2, 170), (0, 0)]), .inl (1, 6), .inl (1, 6), .inl (1, 6), .inr (0, [(2, 172), (2, 173), (2, 174), (0, 0)]), .inl (1, 6), .inl (1, 6), .inl (1, 6), .inr (11, [(0, 0), (2, 176), (0, 0), (0, 0), (2, 177), (2, 178), (2, 179), (0, 0), (0, 0), (2, 180), (2, 181), (2, 182), (2, 183), (0, 0), (2, 184), (2, 185), (0, 0), (0, 0), (2, 186), (2, 187), (2, 188), (2, 189), (0, 0), (2, 190), (2, 191), (2, 192), (2, 193), (0, 0), (2, 194), (1, 0)]), .inl (1, 1000), .inl (1, 1002), .inl (1, 1002), .inl (2, 1002), .inl (2, 20), .inl (1, 60), .inl (1, 2200), .inl (1, 2200), .inl (2, 6), .inl (2, 6), .inl (1, 250), .inl (1, 4), .inl (1, 1100), .inl (1, 1173), .inl (3, 4), .inl (1, 6), .inl (1, 6), .inl (1, 6), .inl (1, 900), .inl (2, 1)]
def hp (m : pm_M) : pv_H := pm_T.mapIdx (fun a k => pm_cell m a k) ++ gG m
theorem pm_T_len : pm_T.length = 196 := by decide +kernel
theorem hp_at {m : pm_M} {a : Nat} {k : pm_K} (h : pm_T[a]? = some k) : (hp m)[a]? = some (pm_cell m a k) := by
  have hl := (List.getElem?_eq_some_iff.mp h).1
  unfold hp
  rw [List.getElem?_append_left (by simpa using hl), List.getElem?_mapIdx, h]
  rfl
theorem hp_ext {m m' : pm_M} {a : Nat} {c : pv_C} {k : pm_K} (h : pm_T[a]? = some k) (hc : c = pm_cell m' a k) (hg : gG m' = gG m) (ho : ∀ b k', b ≠ a → pm_T[b]? = some k' → pm_cell m' b k' = pm_cell m b k') : (hp m).set a c = hp m' := by
  have hl := (List.getElem?_eq_some_iff.mp h).1
  apply List.ext_getElem?
  intro b
  by_cases hb : b = a
  · subst hb
    rw [List.getElem?_set_self (by unfold hp; simp; omega), hp_at h, hc]
  · rw [List.getElem?_set_ne (Ne.symm hb)]
    rcases Nat.lt_or_ge b pm_T.length with hlt | hge
    · rw [hp_at (List.getElem?_eq_getElem hlt), hp_at (List.getElem?_eq_getElem hlt), ho b _ hb (List.getElem?_eq_getElem hlt)]
    · unfold hp
      rw [List.getElem?_append_right (by simpa using hge), List.getElem?_append_right (by simpa using hge), hg]
      simp
section PMG
variable {m : pm_M} {a b j j' : Nat}
theorem gI_sI_eq {v : Int32} : gI (sI m a j v) a j = v := by simp [gI, sI, va_up]
theorem gI_sI_ne {v : Int32} (h : b ≠ a ∨ j' ≠ j) : gI (sI m a j v) b j' = gI m b j' := by
  rcases h with h | h <;> by_cases hb : b = a <;> simp_all [gI, sI, va_up]
theorem gI_sI {v : Int32} : gI (sI m a j v) b j' = if b = a ∧ j' = j then v else gI m b j' := by
  by_cases h : b = a ∧ j' = j
  · rw [if_pos h, h.1, h.2, gI_sI_eq]
  · rw [if_neg h, gI_sI_ne (by omega)]
theorem gJ_sJ {v : Int64} : gJ (sJ m a j v) b j' = if b = a ∧ j' = j then v else gJ m b j' := by
  by_cases hb : b = a <;> by_cases hj : j' = j <;> simp_all [gJ, sJ, va_up]
theorem gA_sA {f : Nat → Int32} : gA (sA m a f) b = if b = a then f else gA m b := by
  by_cases hb : b = a <;> simp_all [gA, sA, va_up]
theorem gL_sL {f : Nat → Int64} : gL (sL m a f) b = if b = a then f else gL m b := by
  by_cases hb : b = a <;> simp_all [gL, sL, va_up]
theorem gR_sR {v : Nat} : gR (sR m a j v) b j' = if b = a ∧ j' = j then v else gR m b j' := by
  by_cases hb : b = a <;> by_cases hj : j' = j <;> simp_all [gR, sR, va_up]
theorem gI_sJ {v : Int64} : gI (sJ m a j v) b j' = gI m b j' := rfl
theorem gI_sA {v : Nat → Int32} : gI (sA m a v) b j' = gI m b j' := rfl
theorem gI_sL {v : Nat → Int64} : gI (sL m a v) b j' = gI m b j' := rfl
theorem gI_sR {v : Nat} : gI (sR m a j v) b j' = gI m b j' := rfl
theorem gI_sG {v : pv_H} : gI (sG m v) b j' = gI m b j' := rfl
theorem gJ_sI {v : Int32} : gJ (sI m a j v) b j' = gJ m b j' := rfl
theorem gJ_sA {v : Nat → Int32} : gJ (sA m a v) b j' = gJ m b j' := rfl
theorem gJ_sL {v : Nat → Int64} : gJ (sL m a v) b j' = gJ m b j' := rfl
theorem gJ_sR {v : Nat} : gJ (sR m a j v) b j' = gJ m b j' := rfl
theorem gJ_sG {v : pv_H} : gJ (sG m v) b j' = gJ m b j' := rfl
theorem gA_sI {v : Int32} : gA (sI m a j v) b = gA m b := rfl
theorem gA_sJ {v : Int64} : gA (sJ m a j v) b = gA m b := rfl
theorem gA_sL {v : Nat → Int64} : gA (sL m a v) b = gA m b := rfl
theorem gA_sR {v : Nat} : gA (sR m a j v) b = gA m b := rfl
theorem gA_sG {v : pv_H} : gA (sG m v) b = gA m b := rfl
theorem gL_sI {v : Int32} : gL (sI m a j v) b = gL m b := rfl
theorem gL_sJ {v : Int64} : gL (sJ m a j v) b = gL m b := rfl
theorem gL_sA {v : Nat → Int32} : gL (sA m a v) b = gL m b := rfl
theorem gL_sR {v : Nat} : gL (sR m a j v) b = gL m b := rfl
theorem gL_sG {v : pv_H} : gL (sG m v) b = gL m b := rfl
theorem gR_sI {v : Int32} : gR (sI m a j v) b j' = gR m b j' := rfl
theorem gR_sJ {v : Int64} : gR (sJ m a j v) b j' = gR m b j' := rfl
theorem gR_sA {v : Nat → Int32} : gR (sA m a v) b j' = gR m b j' := rfl
theorem gR_sL {v : Nat → Int64} : gR (sL m a v) b j' = gR m b j' := rfl
theorem gR_sG {v : pv_H} : gR (sG m v) b j' = gR m b j' := rfl
theorem gG_sI {v : Int32} : gG (sI m a j v)  = gG m  := rfl
theorem gG_sJ {v : Int64} : gG (sJ m a j v)  = gG m  := rfl
theorem gG_sA {v : Nat → Int32} : gG (sA m a v)  = gG m  := rfl
theorem gG_sL {v : Nat → Int64} : gG (sL m a v)  = gG m  := rfl
theorem gG_sR {v : Nat} : gG (sR m a j v)  = gG m  := rfl
theorem gG_sG {v : pv_H} : gG (sG m v)  = v := rfl
end PMG
section PMH
variable {m : pm_M} {X : pv_X} {a c j k n : Nat} {sl : List (Nat × Nat)}
theorem hp_f (h : pm_T[a]? = some (.inr (c, sl))) {s : Nat × Nat} (hs : sl[j]? = some s) : pv_f (hp m) a c j = some (pm_slot m a j s) := by
  unfold pv_f
  rw [hp_at h]
  simp [pm_cell, hs]
theorem hp_fI (h : pm_T[a]? = some (.inr (c, sl))) (hs : sl[j]? = some (0, 0)) : pv_fI (hp m) a c j = some (gI m a j) := by unfold pv_fI; rw [hp_f h hs]; rfl
theorem hp_fJ (h : pm_T[a]? = some (.inr (c, sl))) (hs : sl[j]? = some (1, 0)) : pv_fJ (hp m) a c j = some (gJ m a j) := by unfold pv_fJ; rw [hp_f h hs]; rfl
theorem hp_fR (h : pm_T[a]? = some (.inr (c, sl))) (hs : sl[j]? = some (2, k)) : pv_fR (hp m) a c j = some k := by unfold pv_fR; rw [hp_f h hs]; rfl
theorem hp_fV (h : pm_T[a]? = some (.inr (c, sl))) (hs : sl[j]? = some (3, 0)) : pv_fR (hp m) a c j = some (gR m a j) := by unfold pv_fR; rw [hp_f h hs]; rfl
theorem hp_rc (h : pm_T[a]? = some (.inr (c, sl))) : pv_rc (hp m) a c = true := by unfold pv_rc; rw [hp_at h]; simp [pm_cell]
theorem pm_put {m' : pm_M} {v : Value} {s : Nat × Nat} (h : pm_T[a]? = some (.inr (c, sl))) (hs : sl[j]? = some s) (hv : pm_slot m' a j s = v) (h1 : ∀ i s', i ≠ j → pm_slot m' a i s' = pm_slot m a i s') (hg : gG m' = gG m) (ho : ∀ b k', b ≠ a → pm_cell m' b k' = pm_cell m b k') : pv_fp (hp m) a c j v = some (hp m') := by
  unfold pv_fp
  rw [hp_at h]
  have hl := (List.getElem?_eq_some_iff.mp hs).1
  simp only [pm_cell]
  rw [if_pos ⟨trivial, by simpa using hl⟩]
  refine congrArg some ?_
  refine hp_ext h ?_ hg (fun b k' hb _ => ho b k' hb)
  simp only [pm_cell]
  congr 2
  apply List.ext_getElem?
  intro i
  by_cases hi : i = j
  · subst hi
    rw [List.getElem?_set_self (by simpa using hl), List.getElem?_mapIdx, hs, Option.map_some, hv]
  · rw [List.getElem?_set_ne (Ne.symm hi), List.getElem?_mapIdx, List.getElem?_mapIdx]
    cases sl[i]? with
    | none => rfl
    | some s' => rw [Option.map_some, Option.map_some, h1 i s' hi]
theorem pm_slot_eq {m' : pm_M} {i : Nat} {s : Nat × Nat} (h1 : gI m' a i = gI m a i) (h2 : gJ m' a i = gJ m a i) (h3 : gR m' a i = gR m a i) : pm_slot m' a i s = pm_slot m a i s := by
  unfold pm_slot
  split <;> simp_all
theorem pm_cell_eq {m' : pm_M} {k' : pm_K} (h1 : ∀ i, gI m' a i = gI m a i) (h2 : ∀ i, gJ m' a i = gJ m a i) (h3 : ∀ i, gR m' a i = gR m a i) (h4 : gA m' a = gA m a) (h5 : gL m' a = gL m a) : pm_cell m' a k' = pm_cell m a k' := by
  unfold pm_cell
  split
  · unfold pm_row
    split <;> simp_all
  · congr 2
    apply List.ext_getElem?
    intro i
    rw [List.getElem?_mapIdx, List.getElem?_mapIdx]
    cases ‹List (Nat × Nat)›[i]? with
    | none => rfl
    | some s' => rw [Option.map_some, Option.map_some, pm_slot_eq (h1 i) (h2 i) (h3 i)]
theorem hp_pI {v : Int32} (h : pm_T[a]? = some (.inr (c, sl))) (hs : sl[j]? = some (0, 0)) : pv_fp (hp m) a c j (.int v) = some (hp (sI m a j v)) :=
  pm_put h hs (by show Value.int (gI (sI m a j v) a j) = _; rw [gI_sI_eq]) (fun i s' hi => pm_slot_eq (by rw [gI_sI_ne (Or.inr hi)]) rfl rfl) rfl (fun b k' hb => pm_cell_eq (fun i => by rw [gI_sI_ne (Or.inl hb)]) (fun _ => rfl) (fun _ => rfl) rfl rfl)
theorem hp_pJ {v : Int64} (h : pm_T[a]? = some (.inr (c, sl))) (hs : sl[j]? = some (1, 0)) : pv_fp (hp m) a c j (.long v) = some (hp (sJ m a j v)) :=
  pm_put h hs (by show Value.long (gJ (sJ m a j v) a j) = _; rw [gJ_sJ, if_pos ⟨rfl, rfl⟩]) (fun i s' hi => pm_slot_eq rfl (by rw [gJ_sJ, if_neg (fun z => hi z.2)]) rfl) rfl (fun b k' hb => pm_cell_eq (fun _ => rfl) (fun i => by rw [gJ_sJ, if_neg (fun z => hb z.1)]) (fun _ => rfl) rfl rfl)
theorem hp_pV {v : Nat} (h : pm_T[a]? = some (.inr (c, sl))) (hs : sl[j]? = some (3, 0)) : pv_fp (hp m) a c j (.ref v) = some (hp (sR m a j v)) :=
  pm_put h hs (by show Value.ref (gR (sR m a j v) a j) = _; rw [gR_sR, if_pos ⟨rfl, rfl⟩]) (fun i s' hi => pm_slot_eq rfl rfl (by rw [gR_sR, if_neg (fun z => hi z.2)])) rfl (fun b k' hb => pm_cell_eq (fun _ => rfl) (fun _ => rfl) (fun i => by rw [gR_sR, if_neg (fun z => hb z.1)]) rfl rfl)
theorem hp_lt (h : pm_T[a]? = some (.inl (k, n))) : ¬ a = pv_scr := by
  have := (List.getElem?_eq_some_iff.mp h).1
  rw [pm_T_len] at this
  unfold pv_scr
  omega
theorem hp_aI {i : Int32} (hk : k = 0 ∨ k = 1 ∨ k = 3) (h : pm_T[a]? = some (.inl (k, n))) : pv_aI (hp m) k a i = if pv_in i n = true then some (gA m a i.toNatClampNeg) else none := by
  unfold pv_aI
  rw [hp_at h]
  rcases hk with rfl | rfl | rfl <;> simp [pm_cell, pm_row]
theorem hp_aX {i : Int32} (h : pm_T[a]? = some (.inl (1, n))) : pv_aX X (hp m) a i = if pv_in i n = true then some (gA m a i.toNatClampNeg) else none := by
  unfold pv_aX
  rw [if_neg (hp_lt h), hp_aI (Or.inr (Or.inl rfl)) h]
theorem hp_aJ {i : Int32} (h : pm_T[a]? = some (.inl (2, n))) : pv_aJ (hp m) a i = if pv_in i n = true then some (gL m a i.toNatClampNeg) else none := by
  unfold pv_aJ
  rw [hp_at h]
  simp [pm_cell, pm_row]
theorem hp_aR {i : Int32} (hk : k = 4 ∨ k = 5) (h : pm_T[a]? = some (.inl (k, n))) : pv_aR (hp m) a i = if pv_in i n = true then pm_rr a i.toNatClampNeg else none := by
  unfold pv_aR
  rw [hp_at h]
  rcases hk with rfl | rfl <;> simp [pm_cell, pm_row]
theorem hp_len (hk : k < 6) (h : pm_T[a]? = some (.inl (k, n))) : pv_len X (hp m) a = some (Int32.ofNat n) := by
  unfold pv_len
  rw [if_neg (hp_lt h), hp_at h]
  simp only [pm_cell]
  have e : (pm_row m a k n).1 = n := by unfold pm_row; split <;> rfl
  cases hr : pm_row m a k n with
  | mk n' q =>
    rw [hr] at e
    dsimp only at e ⊢
    rw [if_pos hk, e]
theorem pm_cellA {f : Nat → Int32} {k' : pm_K} (hb : a ≠ c) : pm_cell (sA m c f) a k' = pm_cell m a k' := pm_cell_eq (fun _ => rfl) (fun _ => rfl) (fun _ => rfl) (by rw [gA_sA, if_neg hb]) rfl
theorem hp_sI {i x : Int32} (h : pm_T[a]? = some (.inl (1, n))) : pv_sI (hp m) a i x = if pv_in i n = true then some (hp (sA m a (upd (gA m a) i.toNatClampNeg x))) else none := by
  unfold pv_sI
  rw [hp_at h]
  simp only [pm_cell, pm_row, true_and]
  by_cases hi : pv_in i n = true
  · rw [if_pos hi, if_pos hi]
    refine congrArg some ?_
    exact hp_ext h (by simp [pm_cell, pm_row, gA_sA]) rfl (fun b k' hb _ => pm_cellA hb)
  · rw [if_neg hi, if_neg hi]
theorem hp_sC {i x : Int32} (h : pm_T[a]? = some (.inl (0, n))) : pv_sC (hp m) a i x = if pv_in i n = true then some (hp (sA m a (upd (gA m a) i.toNatClampNeg (vp_nar .char x)))) else none := by
  unfold pv_sC
  rw [hp_at h]
  simp only [pm_cell, pm_row, true_and]
  by_cases hi : pv_in i n = true
  · rw [if_pos hi, if_pos hi]
    refine congrArg some ?_
    exact hp_ext h (by simp [pm_cell, pm_row, gA_sA]) rfl (fun b k' hb _ => pm_cellA hb)
  · rw [if_neg hi, if_neg hi]
theorem hp_sZ {i x : Int32} (h : pm_T[a]? = some (.inl (3, n))) : pv_sZ (hp m) a i x = if pv_in i n = true then some (hp (sA m a (upd (gA m a) i.toNatClampNeg (vp_nar .boolean x)))) else none := by
  unfold pv_sZ
  rw [hp_at h]
  simp only [pm_cell, pm_row, true_and]
  by_cases hi : pv_in i n = true
  · rw [if_pos hi, if_pos hi]
    refine congrArg some ?_
    exact hp_ext h (by simp [pm_cell, pm_row, gA_sA]) rfl (fun b k' hb _ => pm_cellA hb)
  · rw [if_neg hi, if_neg hi]
theorem hp_sJ {i : Int32} {x : Int64} (h : pm_T[a]? = some (.inl (2, n))) : pv_sJ (hp m) a i x = if pv_in i n = true then some (hp (sL m a (vp_updL (gL m a) i.toNatClampNeg x))) else none := by
  unfold pv_sJ
  rw [hp_at h]
  simp only [pm_cell, pm_row, true_and]
  by_cases hi : pv_in i n = true
  · rw [if_pos hi, if_pos hi]
    refine congrArg some ?_
    exact hp_ext h (by simp [pm_cell, pm_row, gL_sL]) rfl (fun b k' hb _ => pm_cell_eq (fun _ => rfl) (fun _ => rfl) (fun _ => rfl) rfl (by rw [gL_sL, if_neg hb]))
  · rw [if_neg hi, if_neg hi]
theorem hp_cp {a1 n1 : Nat} {sp dp q : Int32} (h0 : pm_T[a]? = some (.inl (1, n))) (h1 : pm_T[a1]? = some (.inl (1, n1))) (c1 : ¬ sp < 0) (c2 : ¬ dp < 0) (c3 : ¬ q < 0) (c4 : sp.toNatClampNeg + q.toNatClampNeg ≤ n) (c5 : dp.toNatClampNeg + q.toNatClampNeg ≤ n1) : pv_cp (hp m) a sp a1 dp q = some (hp (sA m a1 (va_cpy (gA m a) (gA m a1) sp.toNatClampNeg dp.toNatClampNeg q.toNatClampNeg))) := by
  unfold pv_cp
  rw [hp_at h0, hp_at h1]
  simp only [pm_cell, pm_row]
  rw [if_pos (by refine ⟨?_, ?_, c1, c2, c3, c4, c5⟩ <;> trivial)]
  refine congrArg some ?_
  exact hp_ext h1 (by simp [pm_cell, pm_row, gA_sA]) rfl (fun b k' hb _ => pm_cellA hb)
end PMH
