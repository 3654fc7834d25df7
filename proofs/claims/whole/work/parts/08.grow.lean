theorem pm_go {pc pc' : Nat} {ls ls' : pv_L} {st st' : List Value} {h h' : pv_H} (e : pv_go pc ls st h = some (.inl (pc', ls', st', h'))) : h.length ≤ h'.length ∧ pv_sz h ≤ pv_sz h' := by cases e; exact ⟨Nat.le_refl _, Nat.le_refl _⟩
theorem pm_gL {pc pc' : Nat} {x : Option pv_L} {ls' : pv_L} {st st' : List Value} {h h' : pv_H} (e : pv_gL pc x st h = some (.inl (pc', ls', st', h'))) : h.length ≤ h'.length ∧ pv_sz h ≤ pv_sz h' := by cases x <;> cases e; exact ⟨Nat.le_refl _, Nat.le_refl _⟩
theorem pm_gI {pc pc' : Nat} {x : Option Int32} {ls ls' : pv_L} {st st' : List Value} {h h' : pv_H} (e : pv_gI pc ls x st h = some (.inl (pc', ls', st', h'))) : h.length ≤ h'.length ∧ pv_sz h ≤ pv_sz h' := by cases x <;> cases e; exact ⟨Nat.le_refl _, Nat.le_refl _⟩
theorem pm_gJ {pc pc' : Nat} {x : Option Int64} {ls ls' : pv_L} {st st' : List Value} {h h' : pv_H} (e : pv_gJ pc ls x st h = some (.inl (pc', ls', st', h'))) : h.length ≤ h'.length ∧ pv_sz h ≤ pv_sz h' := by cases x <;> cases e; exact ⟨Nat.le_refl _, Nat.le_refl _⟩
theorem pm_gR {pc pc' : Nat} {x : Option Nat} {ls ls' : pv_L} {st st' : List Value} {h h' : pv_H} (e : pv_gR pc ls x st h = some (.inl (pc', ls', st', h'))) : h.length ≤ h'.length ∧ pv_sz h ≤ pv_sz h' := by cases x <;> cases e; exact ⟨Nat.le_refl _, Nat.le_refl _⟩
theorem pm_if {c : Prop} [Decidable c] {tgt pc pc' : Nat} {ls ls' : pv_L} {st st' : List Value} {h h' : pv_H} (e : pv_if c tgt pc ls st h = some (.inl (pc', ls', st', h'))) : h.length ≤ h'.length ∧ pv_sz h ≤ pv_sz h' := by
  unfold pv_if at e
  split at e <;> exact pm_go e
theorem pm_sw {x : Option Nat} {pc' : Nat} {ls ls' : pv_L} {st st' : List Value} {h h' : pv_H} (e : x.map (fun q => (.inl (q, ls, st, h) : pv_R)) = some (.inl (pc', ls', st', h'))) : h.length ≤ h'.length ∧ pv_sz h ≤ pv_sz h' := by cases x <;> cases e; exact ⟨Nat.le_refl _, Nat.le_refl _⟩
theorem pm_gH {pc pc' : Nat} {x : Option pv_H} {ls ls' : pv_L} {st st' : List Value} {h h' : pv_H} (hx : ∀ y, x = some y → h.length ≤ y.length ∧ pv_sz h ≤ pv_sz y) (e : pv_gH pc ls st x = some (.inl (pc', ls', st', h'))) : h.length ≤ h'.length ∧ pv_sz h ≤ pv_sz h' := by
  cases x with
  | none => cases e
  | some y => cases e; exact hx _ rfl
theorem pm_set {h : pv_H} {a : Nat} {c0 c1 : pv_C} (ha : h[a]? = some c0) (hs : pv_sz1 c1 = pv_sz1 c0) : h.length ≤ (h.set a c1).length ∧ pv_sz h ≤ pv_sz (h.set a c1) := ⟨by simp, by rw [pv_sz_set ha hs]; exact Nat.le_refl _⟩
theorem pm_app {h : pv_H} {c1 : pv_C} : h.length ≤ (h ++ [c1]).length ∧ pv_sz h ≤ pv_sz (h ++ [c1]) := ⟨by simp, by rw [pv_sz_app]; omega⟩
theorem pm_fp {h y : pv_H} {a c j : Nat} {v : Value} (e : pv_fp h a c j v = some y) : h.length ≤ y.length ∧ pv_sz h ≤ pv_sz y := by
  obtain ⟨fs, h1, -, rfl⟩ := pv_fp_ok e
  exact pm_set h1 (by simp [pv_sz1])
theorem pm_sI {h y : pv_H} {a : Nat} {i x : Int32} (e : pv_sI h a i x = some y) : h.length ≤ y.length ∧ pv_sz h ≤ pv_sz y := by
  obtain ⟨n, f, h1, -, rfl⟩ := pv_sI_ok e
  exact pm_set h1 rfl
theorem pm_sC {h y : pv_H} {a : Nat} {i x : Int32} (e : pv_sC h a i x = some y) : h.length ≤ y.length ∧ pv_sz h ≤ pv_sz y := by
  obtain ⟨n, f, h1, -, rfl⟩ := pv_sC_ok e
  exact pm_set h1 rfl
theorem pm_sZ {h y : pv_H} {a : Nat} {i x : Int32} (e : pv_sZ h a i x = some y) : h.length ≤ y.length ∧ pv_sz h ≤ pv_sz y := by
  obtain ⟨n, f, h1, -, rfl⟩ := pv_sZ_ok e
  exact pm_set h1 rfl
theorem pm_sJ {h y : pv_H} {a : Nat} {i : Int32} {x : Int64} (e : pv_sJ h a i x = some y) : h.length ≤ y.length ∧ pv_sz h ≤ pv_sz y := by
  obtain ⟨n, f, h1, -, rfl⟩ := pv_sJ_ok e
  exact pm_set h1 rfl
theorem pm_sR {h y : pv_H} {a : Nat} {i : Int32} {x : Nat} (e : pv_sR h a i x = some y) : h.length ≤ y.length ∧ pv_sz h ≤ pv_sz y := by
  obtain ⟨t, n, f, fs, -, h1, -, -, rfl⟩ := pv_sR_ok e
  exact pm_set h1 rfl
theorem pm_cp {h y : pv_H} {a0 a1 : Nat} {sp dp n : Int32} (e : pv_cp h a0 sp a1 dp n = some y) : h.length ≤ y.length ∧ pv_sz h ≤ pv_sz y := by
  obtain ⟨n0, n1, f, g, -, h1, -, -, -, -, -, rfl⟩ := pv_cp_ok e
  exact pm_set h1 rfl
theorem pm_na {h y : pv_H} {t : Nat} {n : Int32} (e : pv_na h t n = some y) : h.length ≤ y.length ∧ pv_sz h ≤ pv_sz y := by
  unfold pv_na at e
  split at e
  · obtain ⟨cn, -, rfl⟩ := Option.map_eq_some_iff.mp e
    exact pm_app
  · cases e
theorem pm_no {h y : pv_H} {c : Nat} {fs : List Value} (e : pv_no h c fs = some y) : h.length ≤ y.length ∧ pv_sz h ≤ pv_sz y := by
  unfold pv_no at e
  split at e
  · cases e; exact pm_app
  · cases e
theorem pm_inv {mid k ci pc : Nat} {ls : pv_L} {st : List Value} {h : pv_H} {q : Nat × pv_L × List Value × pv_H} (e : pv_inv mid k ci pc ls st h = some (.inl q)) : False := by
  unfold pv_inv at e
  (repeat' split at e) <;> cases e
theorem pm_next {X : pv_X} {dft : Nat → List Value} {ret : Option FieldType} {i : pv_I} {pc pc' : Nat} {ls ls' : pv_L} {st st' : List Value} {h h' : pv_H} (e : pv_next X dft ret i pc ls st h = some (.inl (pc', ls', st', h'))) : h.length ≤ h'.length ∧ pv_sz h ≤ pv_sz h' := by
  obtain ⟨ins, len, i1, i2, i3, i4⟩ := i
  cases ins
  case ifCond cnd off => cases cnd <;> (simp only [pv_next] at e; (repeat' split at e) <;> first | (cases e; done) | exact pm_if e)
  case if_icmp cnd off => cases cnd <;> (simp only [pv_next] at e; (repeat' split at e) <;> first | (cases e; done) | exact pm_if e)
  all_goals first
    | (cases e; done)
    | (simp only [pv_next] at e
       (repeat' split at e) <;> first | (cases e; done) | exact pm_go e | exact pm_gL e | exact pm_gI e | exact pm_gJ e | exact pm_gR e | exact pm_sw e | exact absurd e (fun z => pm_inv z) | exact pm_gH (fun y hy => pm_fp hy) e | exact pm_gH (fun y hy => pm_sI hy) e | exact pm_gH (fun y hy => pm_sC hy) e | exact pm_gH (fun y hy => pm_sZ hy) e | exact pm_gH (fun y hy => pm_sJ hy) e | exact pm_gH (fun y hy => pm_sR hy) e | exact pm_gH (fun y hy => pm_cp hy) e | exact pm_gH (fun y hy => pm_na hy) e | exact pm_gH (fun y hy => pm_no hy) e)
theorem pn_go {pc : Nat} {ls : pv_L} {st : List Value} {h : pv_H} {z : pv_O ⊕ (Nat × List Value × Nat × pv_L × List Value)} (e : pv_go pc ls st h = some (.inr z)) : False := by cases e
theorem pn_gL {pc : Nat} {x : Option pv_L} {st : List Value} {h : pv_H} {z : pv_O ⊕ (Nat × List Value × Nat × pv_L × List Value)} (e : pv_gL pc x st h = some (.inr z)) : False := by cases x <;> cases e
theorem pn_gI {pc : Nat} {x : Option Int32} {ls : pv_L} {st : List Value} {h : pv_H} {z : pv_O ⊕ (Nat × List Value × Nat × pv_L × List Value)} (e : pv_gI pc ls x st h = some (.inr z)) : False := by cases x <;> cases e
theorem pn_gJ {pc : Nat} {x : Option Int64} {ls : pv_L} {st : List Value} {h : pv_H} {z : pv_O ⊕ (Nat × List Value × Nat × pv_L × List Value)} (e : pv_gJ pc ls x st h = some (.inr z)) : False := by cases x <;> cases e
theorem pn_gR {pc : Nat} {x : Option Nat} {ls : pv_L} {st : List Value} {h : pv_H} {z : pv_O ⊕ (Nat × List Value × Nat × pv_L × List Value)} (e : pv_gR pc ls x st h = some (.inr z)) : False := by cases x <;> cases e
theorem pn_gH {pc : Nat} {x : Option pv_H} {ls : pv_L} {st : List Value} {z : pv_O ⊕ (Nat × List Value × Nat × pv_L × List Value)} (e : pv_gH pc ls st x = some (.inr z)) : False := by cases x <;> cases e
theorem pn_if {c : Prop} [Decidable c] {tgt pc : Nat} {ls : pv_L} {st : List Value} {h : pv_H} {z : pv_O ⊕ (Nat × List Value × Nat × pv_L × List Value)} (e : pv_if c tgt pc ls st h = some (.inr z)) : False := by
  unfold pv_if at e
  split at e <;> cases e
theorem pn_sw {x : Option Nat} {ls : pv_L} {st : List Value} {h : pv_H} {z : pv_O ⊕ (Nat × List Value × Nat × pv_L × List Value)} (e : x.map (fun q => (.inl (q, ls, st, h) : pv_R)) = some (.inr z)) : False := by cases x <;> cases e
theorem pn_inv {mid k ci pc : Nat} {ls : pv_L} {st : List Value} {h : pv_H} {q : pv_O} (e : pv_inv mid k ci pc ls st h = some (.inr (.inl q))) : False := by
  unfold pv_inv at e
  (repeat' split at e) <;> cases e
theorem pm_ret {X : pv_X} {dft : Nat → List Value} {ret : Option FieldType} {i : pv_I} {pc : Nat} {ls : pv_L} {st : List Value} {h : pv_H} {q : pv_O} (e : pv_next X dft ret i pc ls st h = some (.inr (.inl q))) : (i.1 = .ireturn ∧ ∃ v, st = [.int v] ∧ q = (some (.int v), h) ∧ ((ret = some .int) ∨ (ret = some .boolean ∧ (v = 0 ∨ v = 1)))) ∨ (i.1 = .return_ ∧ st = [] ∧ q = (none, h) ∧ ret = none) := by
  obtain ⟨ins, len, i1, i2, i3, i4⟩ := i
  cases ins
  case ireturn =>
    simp only [pv_next] at e
    (repeat' split at e) <;> first | (cases e; done) | skip
    · cases e; exact Or.inl ⟨rfl, _, rfl, rfl, Or.inl rfl⟩
    · rename_i hv; cases e; exact Or.inl ⟨rfl, _, rfl, rfl, Or.inr ⟨rfl, hv⟩⟩
  case return_ =>
    simp only [pv_next] at e
    (repeat' split at e) <;> first | (cases e; done) | skip
    cases e; exact Or.inr ⟨rfl, rfl, rfl, rfl⟩
  case ifCond cnd off => cases cnd <;> (simp only [pv_next, pv_if, pv_go] at e; (repeat' split at e) <;> cases e)
  case if_icmp cnd off => cases cnd <;> (simp only [pv_next, pv_if, pv_go] at e; (repeat' split at e) <;> cases e)
  all_goals first
    | (cases e; done)
    | (simp only [pv_next] at e
       (repeat' split at e) <;> first | (cases e; done) | exact absurd e (fun z => pn_go z) | exact absurd e (fun z => pn_gL z) | exact absurd e (fun z => pn_gI z) | exact absurd e (fun z => pn_gJ z) | exact absurd e (fun z => pn_gR z) | exact absurd e (fun z => pn_gH z) | exact absurd e (fun z => pn_sw z) | exact absurd e (fun z => pn_inv z))
/-- which instructions call -/
theorem pm_call {X : pv_X} {dft : Nat → List Value} {ret : Option FieldType} {i : pv_I} {pc : Nat} {ls : pv_L} {st : List Value} {h : pv_H} {mid : Nat} {as : List Value} {pc' : Nat} {ls' : pv_L} {rest : List Value} (e : pv_next X dft ret i pc ls st h = some (.inr (.inr (mid, as, pc', ls', rest)))) :
    (∃ ix, i.1 = .invokevirtual ix ∧ pv_inv i.2.2.1 i.2.2.2.1 i.2.2.2.2.1 pc ls st h = some (.inr (.inr (mid, as, pc', ls', rest)))) ∨ (∃ ix, i.1 = .invokestatic ix ∧ i.2.2.2.2.2 ≠ 9 ∧ pv_inv i.2.2.1 i.2.2.2.1 99 pc ls st h = some (.inr (.inr (mid, as, pc', ls', rest)))) ∨ (∃ ix, i.1 = .invokespecial ix ∧ i.2.2.2.2.2 ≠ 8 ∧ pv_inv i.2.2.1 i.2.2.2.1 i.2.2.2.2.1 pc ls st h = some (.inr (.inr (mid, as, pc', ls', rest)))) := by
  obtain ⟨ins, len, i1, i2, i3, i4⟩ := i
  cases ins
  case invokevirtual ix => exact Or.inl ⟨ix, rfl, e⟩
  case invokestatic ix =>
    simp only [pv_next] at e
    split at e
    · (repeat' split at e) <;> first | (cases e; done) | exact absurd e (fun z => pn_gH z)
    · rename_i h9
      exact Or.inr (Or.inl ⟨ix, rfl, h9, e⟩)
  case invokespecial ix =>
    simp only [pv_next] at e
    split at e
    · (repeat' split at e) <;> first | (cases e; done) | exact absurd e (fun z => pn_go z)
    · rename_i h9
      exact Or.inr (Or.inr ⟨ix, rfl, h9, e⟩)
  case ifCond cnd off => cases cnd <;> (simp only [pv_next] at e; (repeat' split at e) <;> first | (cases e; done) | exact absurd e (fun z => pn_if z))
  case if_icmp cnd off => cases cnd <;> (simp only [pv_next] at e; (repeat' split at e) <;> first | (cases e; done) | exact absurd e (fun z => pn_if z))
  all_goals first
    | (cases e; done)
    | (simp only [pv_next] at e
       (repeat' split at e) <;> first | (cases e; done) | exact absurd e (fun z => pn_go z) | exact absurd e (fun z => pn_gL z) | exact absurd e (fun z => pn_gI z) | exact absurd e (fun z => pn_gJ z) | exact absurd e (fun z => pn_gR z) | exact absurd e (fun z => pn_gH z) | exact absurd e (fun z => pn_sw z))
theorem pv_inv_ok {mid k ci pc : Nat} {ls : pv_L} {st : List Value} {h : pv_H} {mid' : Nat} {as : List Value} {pc' : Nat} {ls' : pv_L} {rest : List Value} (e : pv_inv mid k ci pc ls st h = some (.inr (.inr (mid', as, pc', ls', rest)))) :
    mid' = mid ∧ pc' = pc + 3 ∧ ls' = ls ∧ as.length = k ∧ st = as.reverse ++ rest ∧ (rest.map fun v => v.category).sum ≤ 8 ∧ (ci ≠ 99 → ∃ b as' fs, as = .ref b :: as' ∧ h[b]? = some (.inr (ci, fs))) := by
  unfold pv_inv at e
  split at e
  · rename_i hc
    have h1 : (st.take k).reverse.length = k := by have := hc.1; simp; omega
    have h2 : st = ((st.take k).reverse).reverse ++ st.drop k := by simp
    split at e
    · rename_i h9
      cases e
      exact ⟨rfl, rfl, rfl, h1, h2, hc.2, fun z => absurd h9 z⟩
    · split at e
      · rename_i b as' hb
        split at e
        · rename_i cc fs hh
          split at e
          · rename_i hci
            subst hci
            cases e
            exact ⟨rfl, rfl, rfl, h1, h2, hc.2, fun _ => ⟨b, as', fs, hb, hh⟩⟩
          · cases e
        · cases e
      · cases e
  · cases e

