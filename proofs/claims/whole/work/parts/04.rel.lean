/-! The small machine's runs are the real machine's. -/
def pv_tr (ad : Nat → Nat) : Value → Value
  | .ref k => .ref (ad k)
  | v => v
def pv_tA (ad : Nat → Nat) : vp_A → vp_A
  | (n, .inr (.inr (.inr (.inr f)))) => (n, .inr (.inr (.inr (.inr (fun i => (f i).map ad)))))
  | a => a
def pv_enc (ad : Nat → Nat) (cyf : Nat → ClassId) : pv_C → va_E
  | .inl (t, a) => .inl (cyf t, pv_tA ad a)
  | .inr (c, fs) => .inr (c, fs.map (pv_tr ad))
def pv_ws (ad : Nat → Nat) (base : Nat) (cyf : Nat → ClassId) (h : pv_H) : va_W := h.mapIdx (fun k c => (base + k, pv_enc ad cyf c))
def pv_tys (cyf : Nat → ClassId) : List (ClassId × FieldType) := [(cyf 0, .char), (cyf 1, .int), (cyf 2, .long), (cyf 3, .boolean), (cyf 4, .object "WristPort$Mark"), (cyf 5, .object "WristPort$State")]
abbrev pv_A (base : Nat) : Nat → Prop := fun q => base ≤ q
def pv_Rel (D : va_G) (ad : Nat → Nat) (base : Nat) (cyf : Nat → ClassId) (h : pv_H) (H : Heap) : Prop :=
  va_P D vwCl (pv_ws ad base cyf h) H ∧ va_D (pv_A base) (pv_ws ad base cyf h) ∧ h.length ≤ pv_scr
def pv_sz1 : pv_C → Nat
  | .inl (_, n, _) => n
  | .inr (_, fs) => fs.length
def pv_sz (h : pv_H) : Nat := (h.map pv_sz1).sum
theorem pv_ws_at {ad : Nat → Nat} {base : Nat} {cyf : Nat → ClassId} {h : pv_H} {k : Nat} {c : pv_C} (e : h[k]? = some c) : (pv_ws ad base cyf h)[k]? = some (base + k, pv_enc ad cyf c) := by
  simp [pv_ws, List.getElem?_mapIdx, e]
theorem pv_ws_set {ad : Nat → Nat} {base : Nat} {cyf : Nat → ClassId} {h : pv_H} {k : Nat} {c : pv_C} : (pv_ws ad base cyf h).set k (base + k, pv_enc ad cyf c) = pv_ws ad base cyf (h.set k c) := by
  apply List.ext_getElem?
  intro j
  by_cases hj : j = k
  · subst hj
    by_cases hl : j < h.length
    · simp [pv_ws, List.getElem?_mapIdx, List.getElem?_set, hl]
    · simp [pv_ws, List.getElem?_mapIdx, List.getElem?_set, hl]
  · simp [pv_ws, List.getElem?_mapIdx, List.getElem?_set, Ne.symm hj]
theorem pv_ws_app {ad : Nat → Nat} {base : Nat} {cyf : Nat → ClassId} {h : pv_H} {c : pv_C} : pv_ws ad base cyf h ++ [(base + h.length, pv_enc ad cyf c)] = pv_ws ad base cyf (h ++ [c]) := by
  simp [pv_ws, List.mapIdx_append]
theorem pv_sz_set {h : pv_H} {k : Nat} {c c0 : pv_C} (e : h[k]? = some c0) (hs : pv_sz1 c = pv_sz1 c0) : pv_sz (h.set k c) = pv_sz h := by
  unfold pv_sz
  congr 1
  apply List.ext_getElem?
  intro j
  by_cases hj : j = k
  · subst hj
    simp [List.getElem?_set, e, hs]
    exact (List.getElem?_eq_some_iff.mp e).1
  · simp [List.getElem?_set, Ne.symm hj]
theorem pv_sz_app {h : pv_H} {c : pv_C} : pv_sz (h ++ [c]) = pv_sz h + pv_sz1 c := by simp [pv_sz]
theorem pv_in_ok {i : Int32} {n : Nat} (h : pv_in i n = true) : vp_in i n := by
  simp only [pv_in, Bool.and_eq_true, Bool.not_eq_true', decide_eq_false_iff_not, decide_eq_true_eq] at h
  rintro (q | q)
  · exact h.1 q
  · omega
-- locals
def pv_ls (ad : Nat → Nat) (lsA : Array Slot) (nL : Nat) (ls : pv_L) : Prop := lsA.size = nL ∧ lv_wf lsA ∧ ls.length = nL ∧ ∀ (i : Nat) (v : Value), ls[i]? = some (some v) → lsA[i]? = some (.val (pv_tr ad v))
def pv_as (ad : Nat → Nat) (ls : pv_L) : List (Nat × Value) := (List.range ls.length).filterMap (fun i => (pv_ld ls i).map (fun v => (i, pv_tr ad v)))
theorem pv_ld_eq {ls : pv_L} {i : Nat} {v : Value} : pv_ld ls i = some v ↔ ls[i]? = some (some v) := by
  unfold pv_ld
  constructor
  · intro h
    split at h
    · rename_i w hw
      cases h
      exact hw
    · cases h
  · intro h
    rw [h]
theorem pv_as_mem {ad : Nat → Nat} {ls : pv_L} {i : Nat} {w : Value} : (i, w) ∈ pv_as ad ls ↔ ∃ v, ls[i]? = some (some v) ∧ w = pv_tr ad v := by
  unfold pv_as
  simp only [List.mem_filterMap, List.mem_range, Option.map_eq_some_iff, Prod.mk.injEq]
  constructor
  · rintro ⟨j, hj, v, hv, rfl, rfl⟩
    exact ⟨v, pv_ld_eq.mp hv, rfl⟩
  · rintro ⟨v, hv, rfl⟩
    exact ⟨i, (List.getElem?_eq_some_iff.mp hv).1, v, pv_ld_eq.mpr hv, rfl, rfl⟩
theorem pv_ls_has {ad : Nat → Nat} {lsA : Array Slot} {nL : Nat} {ls : pv_L} (h : pv_ls ad lsA nL ls) : lv_has lsA nL (pv_as ad ls) := by
  refine ⟨h.1, h.2.1, ?_⟩
  rintro ⟨i, w⟩ hq
  obtain ⟨v, hv, rfl⟩ := pv_as_mem.mp hq
  exact h.2.2.2 i v hv
theorem pv_tr_cat (ad : Nat → Nat) (v : Value) : (pv_tr ad v).category = v.category := by cases v <;> rfl
theorem pv_kill_len (ls : pv_L) (i : Nat) : (pv_kill ls i).length = ls.length := by
  unfold pv_kill
  split
  · rfl
  · split <;> simp
theorem pv_kill_at {ls : pv_L} {i j : Nat} {v : Value} (h : (pv_kill ls i)[j]? = some (some v)) : ls[j]? = some (some v) ∧ ¬ (j + 1 = i ∧ v.category = 2) := by
  unfold pv_kill at h
  split at h
  · exact ⟨h, fun q => by omega⟩
  · rename_i k
    split at h
    · rename_i x hx
      by_cases hj : j = k
      · subst hj
        rw [List.getElem?_set_self (List.getElem?_eq_some_iff.mp hx).1] at h
        cases h
      · rw [List.getElem?_set_ne (Ne.symm hj)] at h
        exact ⟨h, fun q => hj (by omega)⟩
    · rename_i x hx
      by_cases hj : j = k
      · subst hj
        rw [List.getElem?_set_self (List.getElem?_eq_some_iff.mp hx).1] at h
        cases h
      · rw [List.getElem?_set_ne (Ne.symm hj)] at h
        exact ⟨h, fun q => hj (by omega)⟩
    · rename_i n1 n2
      refine ⟨h, ?_⟩
      rintro ⟨q1, q2⟩
      have hj : j = k := by omega
      subst hj
      cases v with
      | long x => exact n1 x h
      | double x => exact n2 x h
      | _ => simp [Value.category] at q2
theorem pv_st1_ok {ad : Nat → Nat} {lsA : Array Slot} {nL : Nat} {ls ls' : pv_L} {i : Nat} {v : Value} (hl : ls.length = nL) (e : pv_st1 ls i v = some ls')
    (h : lv_has lsA nL ((i, pv_tr ad v) :: (pv_as ad ls).filter (fun q => !(q.1 == i) && !(q.1 + 1 == i && q.2.category == 2)))) : pv_ls ad lsA nL ls' := by
  unfold pv_st1 at e
  split at e
  · rename_i hi
    cases e
    refine ⟨h.1, h.2.1, by simp [pv_kill_len, hl], fun j w hw => ?_⟩
    refine h.2.2 (j, pv_tr ad w) ?_
    by_cases hj : j = i
    · subst hj
      rw [List.getElem?_set_self (by rw [pv_kill_len]; exact hi)] at hw
      cases hw
      exact List.mem_cons_self
    · rw [List.getElem?_set_ne (Ne.symm hj)] at hw
      obtain ⟨h1, h2⟩ := pv_kill_at hw
      refine List.mem_cons_of_mem _ (List.mem_filter.mpr ⟨pv_as_mem.mpr ⟨w, h1, rfl⟩, ?_⟩)
      simp only [pv_tr_cat, Bool.and_eq_true, Bool.not_eq_true', beq_eq_false_iff_ne, ne_eq, Bool.and_eq_false_imp, beq_iff_eq]
      exact ⟨hj, fun q1 q2 => h2 ⟨q1, q2⟩⟩
  · cases e
theorem pv_st2_ok {ad : Nat → Nat} {lsA : Array Slot} {nL : Nat} {ls ls' : pv_L} {i : Nat} {v : Value} (hl : ls.length = nL) (e : pv_st2 ls i v = some ls')
    (h : lv_has lsA nL ((i, pv_tr ad v) :: (pv_as ad ls).filter (fun q => !(q.1 == i) && (!(q.1 == i + 1) && !(q.1 + 1 == i && q.2.category == 2))))) : pv_ls ad lsA nL ls' := by
  unfold pv_st2 at e
  split at e
  · rename_i hi
    cases e
    refine ⟨h.1, h.2.1, by simp [pv_kill_len, hl], fun j w hw => ?_⟩
    refine h.2.2 (j, pv_tr ad w) ?_
    by_cases hj1 : j = i + 1
    · subst hj1
      rw [List.getElem?_set_self (by simp [pv_kill_len]; exact hi)] at hw
      cases hw
    · rw [List.getElem?_set_ne (Ne.symm hj1)] at hw
      by_cases hj : j = i
      · subst hj
        rw [List.getElem?_set_self (by rw [pv_kill_len]; omega)] at hw
        cases hw
        exact List.mem_cons_self
      · rw [List.getElem?_set_ne (Ne.symm hj)] at hw
        obtain ⟨h1, h2⟩ := pv_kill_at hw
        refine List.mem_cons_of_mem _ (List.mem_filter.mpr ⟨pv_as_mem.mpr ⟨w, h1, rfl⟩, ?_⟩)
        simp only [pv_tr_cat, Bool.and_eq_true, Bool.not_eq_true', beq_eq_false_iff_ne, ne_eq, Bool.and_eq_false_imp, beq_iff_eq]
        exact ⟨hj, hj1, fun q1 q2 => h2 ⟨q1, q2⟩⟩
  · cases e
theorem pv_sl_len (ad : Nat → Nat) : ∀ vs : List Value, (lg_sl (vs.map (pv_tr ad))).length = (pv_sl vs).length
  | [] => rfl
  | v :: l => by
    have ih := pv_sl_len ad l
    cases v <;> simp [lg_sl, pv_sl, pv_tr, Value.category, List.flatMap_cons] at ih ⊢ <;> omega
theorem pv_sl_args (ad : Nat → Nat) : ∀ (vs : List Value) (k i : Nat) (v : Value), (pv_sl vs)[i]? = some (some v) → (k + i, pv_tr ad v) ∈ lv_args k (vs.map (pv_tr ad))
  | [], k, i, v, h => by simp [pv_sl] at h
  | w :: l, k, i, v, h => by
    have ih := pv_sl_args ad l
    have one : ∀ (w' : Value), w'.category = 1 → pv_sl (w' :: l) = some w' :: pv_sl l → (pv_sl (w' :: l))[i]? = some (some v) → (k + i, pv_tr ad v) ∈ lv_args k ((w' :: l).map (pv_tr ad)) := by
      intro w' hc he h
      rw [he] at h
      have hc' : (pv_tr ad w').category = 1 := by rw [pv_tr_cat]; exact hc
      cases i with
      | zero => simp at h; subst h; simp [lv_args]
      | succ i =>
        simp at h
        have := ih (k + 1) i v h
        simp [lv_args, hc']
        rw [show k + (i + 1) = k + 1 + i by omega]
        exact this
    have two : ∀ (w' : Value), w'.category = 2 → pv_sl (w' :: l) = some w' :: none :: pv_sl l → (pv_sl (w' :: l))[i]? = some (some v) → (k + i, pv_tr ad v) ∈ lv_args k ((w' :: l).map (pv_tr ad)) := by
      intro w' hc he h
      rw [he] at h
      have hc' : (pv_tr ad w').category = 2 := by rw [pv_tr_cat]; exact hc
      match i, h with
      | 0, h => simp at h; subst h; simp [lv_args]
      | 1, h => simp at h
      | i + 2, h =>
        simp at h
        have := ih (k + 2) i v h
        simp [lv_args, hc']
        rw [show k + (i + 2) = k + 2 + i by omega]
        exact this
    cases w with
    | int x => exact one _ rfl rfl h
    | long x => exact two _ rfl rfl h
    | float x => exact one _ rfl rfl h
    | double x => exact two _ rfl rfl h
    | null => exact one _ rfl rfl h
    | ref x => exact one _ rfl rfl h
    | retAddr x => exact one _ rfl rfl h
theorem pv_ent_ok {ad : Nat → Nat} {vs : List Value} {n : Nat} (h : (pv_sl vs).length ≤ n) : pv_ls ad ((lg_sl (vs.map (pv_tr ad)) ++ List.replicate (n - (lg_sl (vs.map (pv_tr ad))).length) Slot.unset).toArray) n (pv_ent n vs) := by
  have hh := lv_entry (vs.map (pv_tr ad)) (n := n) (by rw [pv_sl_len]; exact h)
  refine ⟨hh.1, hh.2.1, by simp [pv_ent]; omega, fun i v hv => ?_⟩
  have hv' : (pv_sl vs)[i]? = some (some v) := by
    unfold pv_ent at hv
    by_cases hi : i < (pv_sl vs).length
    · rwa [List.getElem?_append_left hi] at hv
    · rw [List.getElem?_append_right (by omega), List.getElem?_replicate] at hv
      split at hv <;> cases hv
  have := pv_sl_args ad vs 0 i v hv'
  rw [Nat.zero_add] at this
  exact hh.2.2 (i, pv_tr ad v) this
