def pv_txt : List (List Nat) := [[40, 41, 60, 61, 43, 45, 42, 59], [112, 101, 114, 115, 111, 110], [97, 115, 107, 115], [115, 101, 116, 115], [109, 111, 111, 100, 115], [97, 115, 107], [102, 114, 105, 103, 104, 116], [115, 111, 111, 116, 104, 101], [113, 117, 97, 114, 116, 101, 114], [98, 101, 97, 116, 115], [110, 111, 116], [97, 110, 100], [111, 114], [112, 108, 97, 105, 110], [99, 104, 105, 108, 100], [111, 108, 100], [99, 97, 108, 109], [98, 101, 97, 116], [111, 117, 116], [97, 115, 107, 101, 100], [104, 111, 117, 114]]
def pv_ixo (t : List Nat) (c : Int32) : Int32 := match t with
  | [] => -1
  | a :: l => if Int32.ofNat a = c then 0 else (if pv_ixo l c = -1 then -1 else pv_ixo l c + 1)
/-- ASKING of two: one's choice is the best against the other's -/
def pv_best (own other both loses gets : Int32) : Bool := if own = 1 then decide ((if other = 1 then gets else 0) ≤ (if other = 1 then both else -loses)) else decide ((if other = 1 then both else -loses) ≤ (if other = 1 then gets else 0))
def pv_rst (both loses gets : Int32) : List Int32 := ([0, 1, 2, 3] : List Int32).filter (fun c => pv_best (c / 2) (c - c / 2 * 2) both loses gets && pv_best (c - c / 2 * 2) (c / 2) both loses gets)
/-- what rests answers; none: it throws -/
def pv_rv (both loses gets what : Int32) : Option Int32 := if 0 ≤ both ∧ both ≤ 9 ∧ 0 ≤ loses ∧ loses ≤ 9 ∧ 0 ≤ gets ∧ gets ≤ 9 then (if what = -1 then some (Int32.ofNat (pv_rst both loses gets).length) else if 0 ≤ what then (pv_rst both loses gets)[what.toNatClampNeg]? else none) else none
def pv_exc : pv_C := .inr (12, [.null, .null, .null, .null, .null, .null])
def pv_ext : Nat → List Value → pv_H → Option pv_O := fun mid as h => match mid, as with
  | 900, [.ref k] => if pv_scr < k then (pv_txt[k - (pv_scr + 1)]?).map (fun t => (some (.int (Int32.ofNat t.length)), h)) else none
  | 901, [.ref k, .int i] => if pv_scr < k then (pv_txt[k - (pv_scr + 1)]?).bind (fun t => if pv_in i t.length = true then some (some (.int (Int32.ofNat (t.getD i.toNatClampNeg 0))), h) else none) else none
  | 902, [.ref k, .int c] => if pv_scr < k then (pv_txt[k - (pv_scr + 1)]?).map (fun t => (some (.int (pv_ixo t c)), h)) else none
  | 903, [.ref x, .int a, .int b, .int c, .int d, .ref q] => (match h[x]? with
    | some (.inr (10, _)) => (match pv_rv a b c d with
      | none => if h.length < pv_scr then some (some (.int 1), h ++ [pv_exc]) else none
      | some v => (pv_sJ h q 0 v.toInt64).map (fun h' => (some (.int 0), h')))
    | _ => none)
  | _, _ => none
theorem pv_ext_int {mid : Nat} {as : List Value} {h : pv_H} {q : pv_O} (e : pv_ext mid as h = some q) : ∃ v, q.1 = some (.int v) := by
  unfold pv_ext at e
  split at e
  · split at e
    · obtain ⟨t, -, rfl⟩ := Option.map_eq_some_iff.mp e; exact ⟨_, rfl⟩
    · cases e
  · split at e
    · obtain ⟨t, -, e⟩ := Option.bind_eq_some_iff.mp e
      split at e
      · cases e; exact ⟨_, rfl⟩
      · cases e
    · cases e
  · split at e
    · obtain ⟨t, -, rfl⟩ := Option.map_eq_some_iff.mp e; exact ⟨_, rfl⟩
    · cases e
  · split at e
    · split at e
      · split at e
        · cases e; exact ⟨_, rfl⟩
        · cases e
      · obtain ⟨t, -, rfl⟩ := Option.map_eq_some_iff.mp e; exact ⟨_, rfl⟩
    · cases e
  · cases e
theorem pv_ext_grow : ∀ (mid : Nat) (as : List Value) (h : pv_H) (q : pv_O), pv_ext mid as h = some q → h.length ≤ q.2.length ∧ pv_sz h ≤ pv_sz q.2 := by
  intro mid as h q e
  unfold pv_ext at e
  split at e
  · split at e
    · obtain ⟨t, -, rfl⟩ := Option.map_eq_some_iff.mp e; exact ⟨Nat.le_refl _, Nat.le_refl _⟩
    · cases e
  · split at e
    · obtain ⟨t, -, e⟩ := Option.bind_eq_some_iff.mp e
      split at e
      · cases e; exact ⟨Nat.le_refl _, Nat.le_refl _⟩
      · cases e
    · cases e
  · split at e
    · obtain ⟨t, -, rfl⟩ := Option.map_eq_some_iff.mp e; exact ⟨Nat.le_refl _, Nat.le_refl _⟩
    · cases e
  · split at e
    · split at e
      · split at e
        · cases e; exact pm_app
        · cases e
      · obtain ⟨t, ht, rfl⟩ := Option.map_eq_some_iff.mp e; exact pm_sJ ht
    · cases e
  · cases e
/-- the small machine over these tables -/
noncomputable def pS (X : pv_X) (r : Nat) (ret : Option FieldType) (P : pv_P) (pc : Nat) (ls : pv_L) (st : List Value) (h : pv_H) : Option pv_O := pv_sem pv_tab pv_ext X pv_dft r ret P pc ls st h
noncomputable def pC (X : pv_X) (r mid : Nat) (args : List Value) (h : pv_H) : Option pv_O := pv_call pv_tab pv_ext X pv_dft r mid args h
/-- a method at these arguments -/
noncomputable def pM (X : pv_X) (M : pv_M) (args : List Value) (h : pv_H) : Option pv_O := pS X (M.2.2.2.2.2 args) M.2.2.2.1 M.2.2.2.2.1 0 (pv_ent M.2.2.1 args) [] h
def pv_tI (x : Option pv_O) : Option (Int32 × pv_H) := match x with
  | some (some (.int v), h) => some (v, h)
  | _ => none
def pv_tV (x : Option pv_O) : Option pv_H := match x with
  | some (none, h) => some h
  | _ => none
def pv_rc (h : pv_H) (b ci : Nat) : Bool := match h[b]? with
  | some (.inr (c, _)) => decide (c = ci)
  | _ => false
theorem pS_eq {X : pv_X} {r : Nat} {ret : Option FieldType} {P : pv_P} {pc : Nat} {ls : pv_L} {st : List Value} {h : pv_H} {e : pv_I} (he : pv_at P pc = some e) : pS X r ret P pc ls st h = pv_cont pv_tab pv_ext X pv_dft r ret P h (pv_next X pv_dft ret e pc ls st h) := pv_sem_eq pv_tab pv_ext X pv_dft r ret P pc ls st h he
theorem pS_ret {X : pv_X} {r : Nat} {ret : Option FieldType} {P : pv_P} {pc : Nat} {ls : pv_L} {st : List Value} {h : pv_H} {q : pv_O} (e : pS X r ret P pc ls st h = some q) : (ret = none → q.1 = none) ∧ (ret = some .int ∨ ret = some .boolean → ∃ v, q.1 = some (.int v)) := by
  obtain ⟨n, hn⟩ := (pv_sem_iff pv_tab pv_ext X pv_dft).mp e
  clear e
  induction n generalizing pc ls st h with
  | zero => simp [pv_run] at hn
  | succ n ih =>
    rw [pv_run] at hn
    cases ha : pv_at P pc with
    | none => rw [ha] at hn; cases hn
    | some i =>
      rw [ha] at hn
      dsimp only at hn
      cases hx : pv_next X pv_dft ret i pc ls st h with
      | none => rw [hx] at hn; cases hn
      | some RR =>
        rw [hx] at hn
        match RR, hx, hn with
        | .inl (pc', ls', st', h'), hx, hn => exact ih hn
        | .inr (.inl o'), hx, hn =>
          cases hn
          rcases pm_ret hx with ⟨-, v, -, rfl, hr⟩ | ⟨-, -, rfl, hr⟩
          · exact ⟨fun z => by rcases hr with hr | ⟨hr, -⟩ <;> (rw [hr] at z; cases z), fun _ => ⟨v, rfl⟩⟩
          · exact ⟨fun _ => rfl, fun z => by rcases z with z | z <;> (rw [hr] at z; cases z)⟩
        | .inr (.inr (mid, args, pc', ls', rest)), hx, hn =>
          dsimp only at hn
          split at hn
          · cases hn
          · exact ih hn
section PSS
variable {X : pv_X} {r : Nat} {ret : Option FieldType} {P : pv_P} {pc i1 i2 i3 i4 : Nat} {ls : pv_L} {t : List Value} {h : pv_H}
theorem ss_iconst {n : Int} {v : Int32} (he : pv_at P pc = some (.iconst n, 1, i1, i2, i3, i4)) (hv : Int32.ofInt n = v) : pS X r ret P pc ls t h = pS X r ret P (pc + 1) ls (.int v :: t) h := by subst hv; rw [pS_eq he]; rfl
theorem ss_bipush {n : Int} {v : Int32} (he : pv_at P pc = some (.bipush n, 2, i1, i2, i3, i4)) (hv : (Int8.ofInt n).toInt32 = v) : pS X r ret P pc ls t h = pS X r ret P (pc + 2) ls (.int v :: t) h := by subst hv; rw [pS_eq he]; rfl
theorem ss_sipush {n : Int} {v : Int32} (he : pv_at P pc = some (.sipush n, 3, i1, i2, i3, i4)) (hv : (Int16.ofInt n).toInt32 = v) : pS X r ret P pc ls t h = pS X r ret P (pc + 3) ls (.int v :: t) h := by subst hv; rw [pS_eq he]; rfl
theorem ss_lconst {n : Fin 2} {v : Int64} (he : pv_at P pc = some (.lconst n, 1, i1, i2, i3, i4)) (hv : Int64.ofNat (n : Nat) = v) : pS X r ret P pc ls t h = pS X r ret P (pc + 1) ls (.long v :: t) h := by subst hv; rw [pS_eq he]; rfl
theorem ss_ldc {idx : Nat} {v : Int32} (he : pv_at P pc = some (.ldc idx, 2, i1, 0, i3, i4)) (hv : Int32.ofNat i1 = v) : pS X r ret P pc ls t h = pS X r ret P (pc + 2) ls (.int v :: t) h := by subst hv; rw [pS_eq he]; rfl
theorem ss_ldcs {idx : Nat} (he : pv_at P pc = some (.ldc idx, 2, i1, 1, i3, i4)) : pS X r ret P pc ls t h = pS X r ret P (pc + 2) ls (.ref (pv_scr + 1 + i1) :: t) h := by rw [pS_eq he]; rfl
theorem ss_ldc_w {idx : Nat} {v : Int32} (he : pv_at P pc = some (.ldc_w idx, 3, i1, i2, i3, i4)) (hv : Int32.ofNat i1 = v) : pS X r ret P pc ls t h = pS X r ret P (pc + 3) ls (.int v :: t) h := by subst hv; rw [pS_eq he]; rfl
theorem ss_ldc2_w {idx : Nat} {v : Int64} (he : pv_at P pc = some (.ldc2_w idx, 3, i1, i2, i3, i4)) (hv : Int64.ofNat i1 = v) : pS X r ret P pc ls t h = pS X r ret P (pc + 3) ls (.long v :: t) h := by subst hv; rw [pS_eq he]; rfl
theorem ss_iload_n {k : Fin 4} {x : Int32} (he : pv_at P pc = some (.iload_n k, 1, i1, i2, i3, i4)) (hl : pv_ld ls k = some (.int x)) : pS X r ret P pc ls t h = pS X r ret P (pc + 1) ls (.int x :: t) h := by rw [pS_eq he]; simp only [pv_next, hl]; rfl
theorem ss_iload {k : Nat} {x : Int32} (he : pv_at P pc = some (.iload k, 2, i1, i2, i3, i4)) (hl : pv_ld ls k = some (.int x)) : pS X r ret P pc ls t h = pS X r ret P (pc + 2) ls (.int x :: t) h := by rw [pS_eq he]; simp only [pv_next, hl]; rfl
theorem ss_istore_n {k : Fin 4} {x : Int32} {ls' : pv_L} (he : pv_at P pc = some (.istore_n k, 1, i1, i2, i3, i4)) (hl : pv_st1 ls k (.int x) = some ls') : pS X r ret P pc ls (.int x :: t) h = pS X r ret P (pc + 1) ls' t h := by rw [pS_eq he]; simp only [pv_next, hl]; rfl
theorem ss_istore {k : Nat} {x : Int32} {ls' : pv_L} (he : pv_at P pc = some (.istore k, 2, i1, i2, i3, i4)) (hl : pv_st1 ls k (.int x) = some ls') : pS X r ret P pc ls (.int x :: t) h = pS X r ret P (pc + 2) ls' t h := by rw [pS_eq he]; simp only [pv_next, hl]; rfl
theorem ss_lload_n {k : Fin 4} {x : Int64} (he : pv_at P pc = some (.lload_n k, 1, i1, i2, i3, i4)) (hl : pv_ld ls k = some (.long x)) : pS X r ret P pc ls t h = pS X r ret P (pc + 1) ls (.long x :: t) h := by rw [pS_eq he]; simp only [pv_next, hl]; rfl
theorem ss_lload {k : Nat} {x : Int64} (he : pv_at P pc = some (.lload k, 2, i1, i2, i3, i4)) (hl : pv_ld ls k = some (.long x)) : pS X r ret P pc ls t h = pS X r ret P (pc + 2) ls (.long x :: t) h := by rw [pS_eq he]; simp only [pv_next, hl]; rfl
theorem ss_lstore_n {k : Fin 4} {x : Int64} {ls' : pv_L} (he : pv_at P pc = some (.lstore_n k, 1, i1, i2, i3, i4)) (hl : pv_st2 ls k (.long x) = some ls') : pS X r ret P pc ls (.long x :: t) h = pS X r ret P (pc + 1) ls' t h := by rw [pS_eq he]; simp only [pv_next, hl]; rfl
theorem ss_lstore {k : Nat} {x : Int64} {ls' : pv_L} (he : pv_at P pc = some (.lstore k, 2, i1, i2, i3, i4)) (hl : pv_st2 ls k (.long x) = some ls') : pS X r ret P pc ls (.long x :: t) h = pS X r ret P (pc + 2) ls' t h := by rw [pS_eq he]; simp only [pv_next, hl]; rfl
theorem ss_aload_n {k : Fin 4} {x : Nat} (he : pv_at P pc = some (.aload_n k, 1, i1, i2, i3, i4)) (hl : pv_ld ls k = some (.ref x)) : pS X r ret P pc ls t h = pS X r ret P (pc + 1) ls (.ref x :: t) h := by rw [pS_eq he]; simp only [pv_next, hl]; rfl
theorem ss_aload {k : Nat} {x : Nat} (he : pv_at P pc = some (.aload k, 2, i1, i2, i3, i4)) (hl : pv_ld ls k = some (.ref x)) : pS X r ret P pc ls t h = pS X r ret P (pc + 2) ls (.ref x :: t) h := by rw [pS_eq he]; simp only [pv_next, hl]; rfl
theorem ss_astore_n {k : Fin 4} {x : Nat} {ls' : pv_L} (he : pv_at P pc = some (.astore_n k, 1, i1, i2, i3, i4)) (hl : pv_st1 ls k (.ref x) = some ls') : pS X r ret P pc ls (.ref x :: t) h = pS X r ret P (pc + 1) ls' t h := by rw [pS_eq he]; simp only [pv_next, hl]; rfl
theorem ss_astore {k : Nat} {x : Nat} {ls' : pv_L} (he : pv_at P pc = some (.astore k, 2, i1, i2, i3, i4)) (hl : pv_st1 ls k (.ref x) = some ls') : pS X r ret P pc ls (.ref x :: t) h = pS X r ret P (pc + 2) ls' t h := by rw [pS_eq he]; simp only [pv_next, hl]; rfl
theorem ss_iinc3 {k : Nat} {n : Int} {x v : Int32} {ls' : pv_L} (he : pv_at P pc = some (.iinc k n, 3, i1, i2, i3, i4)) (hl : pv_ld ls k = some (.int x)) (hv : x + Int32.ofInt n = v) (hs : pv_st1 ls k (.int v) = some ls') : pS X r ret P pc ls t h = pS X r ret P (pc + 3) ls' t h := by subst hv; rw [pS_eq he]; simp only [pv_next, hl, hs]; rfl
theorem ss_iinc6 {k : Nat} {n : Int} {x v : Int32} {ls' : pv_L} (he : pv_at P pc = some (.iinc k n, 6, i1, i2, i3, i4)) (hl : pv_ld ls k = some (.int x)) (hv : x + Int32.ofInt n = v) (hs : pv_st1 ls k (.int v) = some ls') : pS X r ret P pc ls t h = pS X r ret P (pc + 6) ls' t h := by subst hv; rw [pS_eq he]; simp only [pv_next, hl, hs]; rfl
theorem ss_iadd {x y : Int32} (he : pv_at P pc = some (.iadd, 1, i1, i2, i3, i4))  : pS X r ret P pc ls (.int y :: .int x :: t) h = pS X r ret P (pc + 1) ls (.int (x + y) :: t) h := by rw [pS_eq he]; rfl
theorem ss_isub {x y : Int32} (he : pv_at P pc = some (.isub, 1, i1, i2, i3, i4))  : pS X r ret P pc ls (.int y :: .int x :: t) h = pS X r ret P (pc + 1) ls (.int (x - y) :: t) h := by rw [pS_eq he]; rfl
theorem ss_imul {x y : Int32} (he : pv_at P pc = some (.imul, 1, i1, i2, i3, i4))  : pS X r ret P pc ls (.int y :: .int x :: t) h = pS X r ret P (pc + 1) ls (.int (x * y) :: t) h := by rw [pS_eq he]; rfl
theorem ss_iand {x y : Int32} (he : pv_at P pc = some (.iand, 1, i1, i2, i3, i4))  : pS X r ret P pc ls (.int y :: .int x :: t) h = pS X r ret P (pc + 1) ls (.int (x &&& y) :: t) h := by rw [pS_eq he]; rfl
theorem ss_ior {x y : Int32} (he : pv_at P pc = some (.ior, 1, i1, i2, i3, i4))  : pS X r ret P pc ls (.int y :: .int x :: t) h = pS X r ret P (pc + 1) ls (.int (x ||| y) :: t) h := by rw [pS_eq he]; rfl
theorem ss_ixor {x y : Int32} (he : pv_at P pc = some (.ixor, 1, i1, i2, i3, i4))  : pS X r ret P pc ls (.int y :: .int x :: t) h = pS X r ret P (pc + 1) ls (.int (x ^^^ y) :: t) h := by rw [pS_eq he]; rfl
theorem ss_ishl {x y : Int32} (he : pv_at P pc = some (.ishl, 1, i1, i2, i3, i4))  : pS X r ret P pc ls (.int y :: .int x :: t) h = pS X r ret P (pc + 1) ls (.int (x <<< (y &&& 31)) :: t) h := by rw [pS_eq he]; rfl
theorem ss_ishr {x y : Int32} (he : pv_at P pc = some (.ishr, 1, i1, i2, i3, i4))  : pS X r ret P pc ls (.int y :: .int x :: t) h = pS X r ret P (pc + 1) ls (.int (x >>> (y &&& 31)) :: t) h := by rw [pS_eq he]; rfl
theorem ss_iushr {x y : Int32} (he : pv_at P pc = some (.iushr, 1, i1, i2, i3, i4))  : pS X r ret P pc ls (.int y :: .int x :: t) h = pS X r ret P (pc + 1) ls (.int ((x.toUInt32 >>> (y.toUInt32 &&& Int32.toUInt32 31)).toInt32) :: t) h := by rw [pS_eq he]; rfl
theorem ss_ladd {x y : Int64} (he : pv_at P pc = some (.ladd, 1, i1, i2, i3, i4))  : pS X r ret P pc ls (.long y :: .long x :: t) h = pS X r ret P (pc + 1) ls (.long (x + y) :: t) h := by rw [pS_eq he]; rfl
theorem ss_lsub {x y : Int64} (he : pv_at P pc = some (.lsub, 1, i1, i2, i3, i4))  : pS X r ret P pc ls (.long y :: .long x :: t) h = pS X r ret P (pc + 1) ls (.long (x - y) :: t) h := by rw [pS_eq he]; rfl
theorem ss_lmul {x y : Int64} (he : pv_at P pc = some (.lmul, 1, i1, i2, i3, i4))  : pS X r ret P pc ls (.long y :: .long x :: t) h = pS X r ret P (pc + 1) ls (.long (x * y) :: t) h := by rw [pS_eq he]; rfl
theorem ss_land {x y : Int64} (he : pv_at P pc = some (.land, 1, i1, i2, i3, i4))  : pS X r ret P pc ls (.long y :: .long x :: t) h = pS X r ret P (pc + 1) ls (.long (x &&& y) :: t) h := by rw [pS_eq he]; rfl
theorem ss_lor {x y : Int64} (he : pv_at P pc = some (.lor, 1, i1, i2, i3, i4))  : pS X r ret P pc ls (.long y :: .long x :: t) h = pS X r ret P (pc + 1) ls (.long (x ||| y) :: t) h := by rw [pS_eq he]; rfl
theorem ss_lshl {x : Int64} {y : Int32} (he : pv_at P pc = some (.lshl, 1, i1, i2, i3, i4))  : pS X r ret P pc ls (.int y :: .long x :: t) h = pS X r ret P (pc + 1) ls (.long (x <<< (y.toInt64 &&& 63)) :: t) h := by rw [pS_eq he]; rfl
theorem ss_lshr {x : Int64} {y : Int32} (he : pv_at P pc = some (.lshr, 1, i1, i2, i3, i4))  : pS X r ret P pc ls (.int y :: .long x :: t) h = pS X r ret P (pc + 1) ls (.long (x >>> (y.toInt64 &&& 63)) :: t) h := by rw [pS_eq he]; rfl
theorem ss_lushr {x : Int64} {y : Int32} (he : pv_at P pc = some (.lushr, 1, i1, i2, i3, i4))  : pS X r ret P pc ls (.int y :: .long x :: t) h = pS X r ret P (pc + 1) ls (.long ((x.toUInt64 >>> (y.toInt64.toUInt64 &&& Int64.toUInt64 63)).toInt64) :: t) h := by rw [pS_eq he]; rfl
theorem ss_ineg {x : Int32} (he : pv_at P pc = some (.ineg, 1, i1, i2, i3, i4))  : pS X r ret P pc ls (.int x :: t) h = pS X r ret P (pc + 1) ls (.int (-x) :: t) h := by rw [pS_eq he]; rfl
theorem ss_lcmp {x y : Int64} (he : pv_at P pc = some (.lcmp, 1, i1, i2, i3, i4))  : pS X r ret P pc ls (.long y :: .long x :: t) h = pS X r ret P (pc + 1) ls (.int (lg_cmp x y) :: t) h := by rw [pS_eq he]; rfl
theorem ss_i2l {x : Int32} (he : pv_at P pc = some (.i2l, 1, i1, i2, i3, i4))  : pS X r ret P pc ls (.int x :: t) h = pS X r ret P (pc + 1) ls (.long x.toInt64 :: t) h := by rw [pS_eq he]; rfl
theorem ss_l2i {x : Int64} (he : pv_at P pc = some (.l2i, 1, i1, i2, i3, i4))  : pS X r ret P pc ls (.long x :: t) h = pS X r ret P (pc + 1) ls (.int x.toInt32 :: t) h := by rw [pS_eq he]; rfl
theorem ss_i2c {x : Int32} (he : pv_at P pc = some (.i2c, 1, i1, i2, i3, i4))  : pS X r ret P pc ls (.int x :: t) h = pS X r ret P (pc + 1) ls (.int (x.toUInt32 % 65536).toInt32 :: t) h := by rw [pS_eq he]; rfl
theorem ss_dupI {x : Int32} (he : pv_at P pc = some (.dup, 1, i1, i2, i3, i4))  : pS X r ret P pc ls (.int x :: t) h = pS X r ret P (pc + 1) ls (.int x :: .int x :: t) h := by rw [pS_eq he]; rfl
theorem ss_dupR {x : Nat} (he : pv_at P pc = some (.dup, 1, i1, i2, i3, i4))  : pS X r ret P pc ls (.ref x :: t) h = pS X r ret P (pc + 1) ls (.ref x :: .ref x :: t) h := by rw [pS_eq he]; rfl
theorem ss_dup2I {x y : Int32} (he : pv_at P pc = some (.dup2, 1, i1, i2, i3, i4))  : pS X r ret P pc ls (.int y :: .int x :: t) h = pS X r ret P (pc + 1) ls (.int y :: .int x :: .int y :: .int x :: t) h := by rw [pS_eq he]; rfl
theorem ss_dup2R {y : Int32} {x : Nat} (he : pv_at P pc = some (.dup2, 1, i1, i2, i3, i4))  : pS X r ret P pc ls (.int y :: .ref x :: t) h = pS X r ret P (pc + 1) ls (.int y :: .ref x :: .int y :: .ref x :: t) h := by rw [pS_eq he]; rfl
theorem ss_popI {x : Int32} (he : pv_at P pc = some (.pop, 1, i1, i2, i3, i4))  : pS X r ret P pc ls (.int x :: t) h = pS X r ret P (pc + 1) ls t h := by rw [pS_eq he]; rfl
theorem ss_popR {x : Nat} (he : pv_at P pc = some (.pop, 1, i1, i2, i3, i4))  : pS X r ret P pc ls (.ref x :: t) h = pS X r ret P (pc + 1) ls t h := by rw [pS_eq he]; rfl
theorem ss_idiv {x y : Int32} (he : pv_at P pc = some (.idiv, 1, i1, i2, i3, i4)) (hy : ¬ y = 0) : pS X r ret P pc ls (.int y :: .int x :: t) h = pS X r ret P (pc + 1) ls (.int (x / y) :: t) h := by rw [pS_eq he]; simp only [pv_next, if_neg hy]; rfl
theorem ss_idivg {x y : Int32} (he : pv_at P pc = some (.idiv, 1, i1, i2, i3, i4)) : pS X r ret P pc ls (.int y :: .int x :: t) h = if y = 0 then none else pS X r ret P (pc + 1) ls (.int (x / y) :: t) h := by rw [pS_eq he]; by_cases hy : y = 0 <;> simp only [pv_next, hy, if_true, if_false] <;> rfl
theorem ss_irem {x y : Int32} (he : pv_at P pc = some (.irem, 1, i1, i2, i3, i4)) (hy : ¬ y = 0) : pS X r ret P pc ls (.int y :: .int x :: t) h = pS X r ret P (pc + 1) ls (.int (x - x / y * y) :: t) h := by rw [pS_eq he]; simp only [pv_next, if_neg hy]; rfl
theorem ss_iremg {x y : Int32} (he : pv_at P pc = some (.irem, 1, i1, i2, i3, i4)) : pS X r ret P pc ls (.int y :: .int x :: t) h = if y = 0 then none else pS X r ret P (pc + 1) ls (.int (x - x / y * y) :: t) h := by rw [pS_eq he]; by_cases hy : y = 0 <;> simp only [pv_next, hy, if_true, if_false] <;> rfl
theorem ss_ldiv {x y : Int64} (he : pv_at P pc = some (.ldiv, 1, i1, i2, i3, i4)) (hy : ¬ y = 0) : pS X r ret P pc ls (.long y :: .long x :: t) h = pS X r ret P (pc + 1) ls (.long (x / y) :: t) h := by rw [pS_eq he]; simp only [pv_next, if_neg hy]; rfl
theorem ss_ldivg {x y : Int64} (he : pv_at P pc = some (.ldiv, 1, i1, i2, i3, i4)) : pS X r ret P pc ls (.long y :: .long x :: t) h = if y = 0 then none else pS X r ret P (pc + 1) ls (.long (x / y) :: t) h := by rw [pS_eq he]; by_cases hy : y = 0 <;> simp only [pv_next, hy, if_true, if_false] <;> rfl
theorem ss_lrem {x y : Int64} (he : pv_at P pc = some (.lrem, 1, i1, i2, i3, i4)) (hy : ¬ y = 0) : pS X r ret P pc ls (.long y :: .long x :: t) h = pS X r ret P (pc + 1) ls (.long (x - x / y * y) :: t) h := by rw [pS_eq he]; simp only [pv_next, if_neg hy]; rfl
theorem ss_lremg {x y : Int64} (he : pv_at P pc = some (.lrem, 1, i1, i2, i3, i4)) : pS X r ret P pc ls (.long y :: .long x :: t) h = if y = 0 then none else pS X r ret P (pc + 1) ls (.long (x - x / y * y) :: t) h := by rw [pS_eq he]; by_cases hy : y = 0 <;> simp only [pv_next, hy, if_true, if_false] <;> rfl
theorem ss_getI {a idx : Nat} (he : pv_at P pc = some (.getfield idx, 3, i1, i2, 0, i4)) : pS X r ret P pc ls (.ref a :: t) h = (pv_fI h a i1 i2).bind (fun x => pS X r ret P (pc + 3) ls (.int x :: t) h) := by rw [pS_eq he]; show pv_cont pv_tab pv_ext X pv_dft r ret P h (pv_gI (pc + 3) ls (pv_fI h a i1 i2) t h) = _; cases pv_fI h a i1 i2 <;> rfl
theorem ss_getZ {a idx : Nat} (he : pv_at P pc = some (.getfield idx, 3, i1, i2, 2, i4)) : pS X r ret P pc ls (.ref a :: t) h = (pv_fI h a i1 i2).bind (fun x => pS X r ret P (pc + 3) ls (.int x :: t) h) := by rw [pS_eq he]; show pv_cont pv_tab pv_ext X pv_dft r ret P h (pv_gI (pc + 3) ls (pv_fI h a i1 i2) t h) = _; cases pv_fI h a i1 i2 <;> rfl
theorem ss_getJ {a idx : Nat} (he : pv_at P pc = some (.getfield idx, 3, i1, i2, 1, i4)) : pS X r ret P pc ls (.ref a :: t) h = (pv_fJ h a i1 i2).bind (fun x => pS X r ret P (pc + 3) ls (.long x :: t) h) := by rw [pS_eq he]; show pv_cont pv_tab pv_ext X pv_dft r ret P h (pv_gJ (pc + 3) ls (pv_fJ h a i1 i2) t h) = _; cases pv_fJ h a i1 i2 <;> rfl
theorem ss_getR {a idx : Nat} (he : pv_at P pc = some (.getfield idx, 3, i1, i2, 3, i4)) : pS X r ret P pc ls (.ref a :: t) h = (pv_fR h a i1 i2).bind (fun x => pS X r ret P (pc + 3) ls (.ref x :: t) h) := by rw [pS_eq he]; show pv_cont pv_tab pv_ext X pv_dft r ret P h (pv_gR (pc + 3) ls (pv_fR h a i1 i2) t h) = _; cases pv_fR h a i1 i2 <;> rfl
theorem ss_putI {a idx : Nat} {x : Int32} (he : pv_at P pc = some (.putfield idx, 3, i1, i2, 0, i4)) : pS X r ret P pc ls ((.int x) :: .ref a :: t) h = (pv_fp h a i1 i2 (.int x)).bind (fun h' => pS X r ret P (pc + 3) ls t h') := by rw [pS_eq he]; show pv_cont pv_tab pv_ext X pv_dft r ret P h (pv_gH (pc + 3) ls t (pv_fp h a i1 i2 (.int x))) = _; cases pv_fp h a i1 i2 (.int x) <;> rfl
theorem ss_putJ {a idx : Nat} {x : Int64} (he : pv_at P pc = some (.putfield idx, 3, i1, i2, 1, i4)) : pS X r ret P pc ls ((.long x) :: .ref a :: t) h = (pv_fp h a i1 i2 (.long x)).bind (fun h' => pS X r ret P (pc + 3) ls t h') := by rw [pS_eq he]; show pv_cont pv_tab pv_ext X pv_dft r ret P h (pv_gH (pc + 3) ls t (pv_fp h a i1 i2 (.long x))) = _; cases pv_fp h a i1 i2 (.long x) <;> rfl
theorem ss_putR {a idx : Nat} {x : Nat} (he : pv_at P pc = some (.putfield idx, 3, i1, i2, 3, i4)) : pS X r ret P pc ls ((.ref x) :: .ref a :: t) h = (pv_fp h a i1 i2 (.ref x)).bind (fun h' => pS X r ret P (pc + 3) ls t h') := by rw [pS_eq he]; show pv_cont pv_tab pv_ext X pv_dft r ret P h (pv_gH (pc + 3) ls t (pv_fp h a i1 i2 (.ref x))) = _; cases pv_fp h a i1 i2 (.ref x) <;> rfl
theorem ss_putZ {a idx : Nat} {x : Int32} (he : pv_at P pc = some (.putfield idx, 3, i1, i2, 2, i4)) : pS X r ret P pc ls (.int x :: .ref a :: t) h = if x = 0 ∨ x = 1 then (pv_fp h a i1 i2 (.int x)).bind (fun h' => pS X r ret P (pc + 3) ls t h') else none := by
  rw [pS_eq he]
  show pv_cont pv_tab pv_ext X pv_dft r ret P h (if (x == 0 || x == 1) = true then pv_gH (pc + 3) ls t (pv_fp h a i1 i2 (.int x)) else none) = _
  by_cases hx : x = 0 ∨ x = 1
  · rw [if_pos hx, if_pos (by simpa using hx)]
    cases pv_fp h a i1 i2 (.int x) <;> rfl
  · rw [if_neg hx, if_neg (by simpa using hx)]
    rfl
theorem ss_iaload {a : Nat} {i : Int32} (he : pv_at P pc = some (.iaload, 1, i1, i2, i3, i4)) : pS X r ret P pc ls (.int i :: .ref a :: t) h = (pv_aX X h a i).bind (fun x => pS X r ret P (pc + 1) ls (.int x :: t) h) := by rw [pS_eq he]; show pv_cont pv_tab pv_ext X pv_dft r ret P h (pv_gI (pc + 1) ls (pv_aX X h a i) t h) = _; cases pv_aX X h a i <;> rfl
theorem ss_caload {a : Nat} {i : Int32} (he : pv_at P pc = some (.caload, 1, i1, i2, i3, i4)) : pS X r ret P pc ls (.int i :: .ref a :: t) h = (pv_aI h 0 a i).bind (fun x => pS X r ret P (pc + 1) ls (.int x :: t) h) := by rw [pS_eq he]; show pv_cont pv_tab pv_ext X pv_dft r ret P h (pv_gI (pc + 1) ls (pv_aI h 0 a i) t h) = _; cases pv_aI h 0 a i <;> rfl
theorem ss_baload {a : Nat} {i : Int32} (he : pv_at P pc = some (.baload, 1, i1, i2, i3, i4)) : pS X r ret P pc ls (.int i :: .ref a :: t) h = (pv_aI h 3 a i).bind (fun x => pS X r ret P (pc + 1) ls (.int x :: t) h) := by rw [pS_eq he]; show pv_cont pv_tab pv_ext X pv_dft r ret P h (pv_gI (pc + 1) ls (pv_aI h 3 a i) t h) = _; cases pv_aI h 3 a i <;> rfl
theorem ss_laload {a : Nat} {i : Int32} (he : pv_at P pc = some (.laload, 1, i1, i2, i3, i4)) : pS X r ret P pc ls (.int i :: .ref a :: t) h = (pv_aJ h a i).bind (fun x => pS X r ret P (pc + 1) ls (.long x :: t) h) := by rw [pS_eq he]; show pv_cont pv_tab pv_ext X pv_dft r ret P h (pv_gJ (pc + 1) ls (pv_aJ h a i) t h) = _; cases pv_aJ h a i <;> rfl
theorem ss_aaload {a : Nat} {i : Int32} (he : pv_at P pc = some (.aaload, 1, i1, i2, i3, i4)) : pS X r ret P pc ls (.int i :: .ref a :: t) h = (pv_aR h a i).bind (fun x => pS X r ret P (pc + 1) ls (.ref x :: t) h) := by rw [pS_eq he]; show pv_cont pv_tab pv_ext X pv_dft r ret P h (pv_gR (pc + 1) ls (pv_aR h a i) t h) = _; cases pv_aR h a i <;> rfl
theorem ss_iastore {a : Nat} {i : Int32} {x : Int32} (he : pv_at P pc = some (.iastore, 1, i1, i2, i3, i4)) : pS X r ret P pc ls (.int x :: .int i :: .ref a :: t) h = (pv_sI h a i x).bind (fun h' => pS X r ret P (pc + 1) ls t h') := by rw [pS_eq he]; show pv_cont pv_tab pv_ext X pv_dft r ret P h (pv_gH (pc + 1) ls t (pv_sI h a i x)) = _; cases pv_sI h a i x <;> rfl
theorem ss_castore {a : Nat} {i : Int32} {x : Int32} (he : pv_at P pc = some (.castore, 1, i1, i2, i3, i4)) : pS X r ret P pc ls (.int x :: .int i :: .ref a :: t) h = (pv_sC h a i x).bind (fun h' => pS X r ret P (pc + 1) ls t h') := by rw [pS_eq he]; show pv_cont pv_tab pv_ext X pv_dft r ret P h (pv_gH (pc + 1) ls t (pv_sC h a i x)) = _; cases pv_sC h a i x <;> rfl
theorem ss_bastore {a : Nat} {i : Int32} {x : Int32} (he : pv_at P pc = some (.bastore, 1, i1, i2, i3, i4)) : pS X r ret P pc ls (.int x :: .int i :: .ref a :: t) h = (pv_sZ h a i x).bind (fun h' => pS X r ret P (pc + 1) ls t h') := by rw [pS_eq he]; show pv_cont pv_tab pv_ext X pv_dft r ret P h (pv_gH (pc + 1) ls t (pv_sZ h a i x)) = _; cases pv_sZ h a i x <;> rfl
theorem ss_lastore {a : Nat} {i : Int32} {x : Int64} (he : pv_at P pc = some (.lastore, 1, i1, i2, i3, i4)) : pS X r ret P pc ls (.long x :: .int i :: .ref a :: t) h = (pv_sJ h a i x).bind (fun h' => pS X r ret P (pc + 1) ls t h') := by rw [pS_eq he]; show pv_cont pv_tab pv_ext X pv_dft r ret P h (pv_gH (pc + 1) ls t (pv_sJ h a i x)) = _; cases pv_sJ h a i x <;> rfl
theorem ss_aastore {a : Nat} {i : Int32} {x : Nat} (he : pv_at P pc = some (.aastore, 1, i1, i2, i3, i4)) : pS X r ret P pc ls (.ref x :: .int i :: .ref a :: t) h = (pv_sR h a i x).bind (fun h' => pS X r ret P (pc + 1) ls t h') := by rw [pS_eq he]; show pv_cont pv_tab pv_ext X pv_dft r ret P h (pv_gH (pc + 1) ls t (pv_sR h a i x)) = _; cases pv_sR h a i x <;> rfl
theorem ss_arraylength {a : Nat} (he : pv_at P pc = some (.arraylength, 1, i1, i2, i3, i4)) : pS X r ret P pc ls (.ref a :: t) h = (pv_len X h a).bind (fun x => pS X r ret P (pc + 1) ls (.int x :: t) h) := by rw [pS_eq he]; show pv_cont pv_tab pv_ext X pv_dft r ret P h (pv_gI (pc + 1) ls (pv_len X h a) t h) = _; cases pv_len X h a <;> rfl
theorem ss_newarray {ty : ArrayType} {n : Int32} (hi : i1 < 4) (he : pv_at P pc = some (.newarray ty, 2, i1, i2, i3, i4)) : pS X r ret P pc ls (.int n :: t) h = (pv_na h i1 n).bind (fun h' => pS X r ret P (pc + 2) ls (.ref h.length :: t) h') := by rw [pS_eq he]; simp only [pv_next, if_pos hi]; cases pv_na h i1 n <;> rfl
theorem ss_anewarray {idx : Nat} {n : Int32} (hi : i1 = 4 ∨ i1 = 5) (he : pv_at P pc = some (.anewarray idx, 3, i1, i2, i3, i4)) : pS X r ret P pc ls (.int n :: t) h = (pv_na h i1 n).bind (fun h' => pS X r ret P (pc + 3) ls (.ref h.length :: t) h') := by rw [pS_eq he]; simp only [pv_next, if_pos hi]; cases pv_na h i1 n <;> rfl
theorem ss_new {idx : Nat} (he : pv_at P pc = some (.new idx, 3, i1, i2, i3, i4)) : pS X r ret P pc ls t h = (pv_no h i1 (pv_dft i1)).bind (fun h' => pS X r ret P (pc + 3) ls (.ref h.length :: t) h') := by rw [pS_eq he]; show pv_cont pv_tab pv_ext X pv_dft r ret P h (pv_gH (pc + 3) ls (.ref h.length :: t) (pv_no h i1 (pv_dft i1))) = _; cases pv_no h i1 (pv_dft i1) <;> rfl
theorem ss_goto {off : Int} (he : pv_at P pc = some (.goto off, 3, i1, i2, i3, i4)) : pS X r ret P pc ls t h = pS X r ret P i1 ls t h := by rw [pS_eq he]; rfl
theorem ss_if_eq {x : Int32} {off : Int} (he : pv_at P pc = some (.ifCond .eq off, 3, i1, i2, i3, i4)) : pS X r ret P pc ls (.int x :: t) h = if x = 0 then pS X r ret P i1 ls t h else pS X r ret P (pc + 3) ls t h := by rw [pS_eq he]; show pv_cont pv_tab pv_ext X pv_dft r ret P h (pv_if (x = 0) i1 pc ls t h) = _; unfold pv_if; by_cases hc : x = 0 <;> simp only [hc, if_true, if_false, not_true_eq_false, not_false_eq_true] <;> rfl
theorem ss_icmp_eq {x y : Int32} {off : Int} (he : pv_at P pc = some (.if_icmp .eq off, 3, i1, i2, i3, i4)) : pS X r ret P pc ls (.int y :: .int x :: t) h = if x = y then pS X r ret P i1 ls t h else pS X r ret P (pc + 3) ls t h := by rw [pS_eq he]; show pv_cont pv_tab pv_ext X pv_dft r ret P h (pv_if (x = y) i1 pc ls t h) = _; unfold pv_if; by_cases hc : x = y <;> simp only [hc, if_true, if_false, not_true_eq_false, not_false_eq_true] <;> rfl
theorem ss_if_ne {x : Int32} {off : Int} (he : pv_at P pc = some (.ifCond .ne off, 3, i1, i2, i3, i4)) : pS X r ret P pc ls (.int x :: t) h = if ¬ x = 0 then pS X r ret P i1 ls t h else pS X r ret P (pc + 3) ls t h := by rw [pS_eq he]; show pv_cont pv_tab pv_ext X pv_dft r ret P h (pv_if (¬ x = 0) i1 pc ls t h) = _; unfold pv_if; by_cases hc : ¬ x = 0 <;> simp only [hc, if_true, if_false, not_true_eq_false, not_false_eq_true] <;> rfl
theorem ss_icmp_ne {x y : Int32} {off : Int} (he : pv_at P pc = some (.if_icmp .ne off, 3, i1, i2, i3, i4)) : pS X r ret P pc ls (.int y :: .int x :: t) h = if ¬ x = y then pS X r ret P i1 ls t h else pS X r ret P (pc + 3) ls t h := by rw [pS_eq he]; show pv_cont pv_tab pv_ext X pv_dft r ret P h (pv_if (¬ x = y) i1 pc ls t h) = _; unfold pv_if; by_cases hc : ¬ x = y <;> simp only [hc, if_true, if_false, not_true_eq_false, not_false_eq_true] <;> rfl
theorem ss_if_lt {x : Int32} {off : Int} (he : pv_at P pc = some (.ifCond .lt off, 3, i1, i2, i3, i4)) : pS X r ret P pc ls (.int x :: t) h = if x < 0 then pS X r ret P i1 ls t h else pS X r ret P (pc + 3) ls t h := by rw [pS_eq he]; show pv_cont pv_tab pv_ext X pv_dft r ret P h (pv_if (x < 0) i1 pc ls t h) = _; unfold pv_if; by_cases hc : x < 0 <;> simp only [hc, if_true, if_false, not_true_eq_false, not_false_eq_true] <;> rfl
theorem ss_icmp_lt {x y : Int32} {off : Int} (he : pv_at P pc = some (.if_icmp .lt off, 3, i1, i2, i3, i4)) : pS X r ret P pc ls (.int y :: .int x :: t) h = if x < y then pS X r ret P i1 ls t h else pS X r ret P (pc + 3) ls t h := by rw [pS_eq he]; show pv_cont pv_tab pv_ext X pv_dft r ret P h (pv_if (x < y) i1 pc ls t h) = _; unfold pv_if; by_cases hc : x < y <;> simp only [hc, if_true, if_false, not_true_eq_false, not_false_eq_true] <;> rfl
theorem ss_if_ge {x : Int32} {off : Int} (he : pv_at P pc = some (.ifCond .ge off, 3, i1, i2, i3, i4)) : pS X r ret P pc ls (.int x :: t) h = if 0 ≤ x then pS X r ret P i1 ls t h else pS X r ret P (pc + 3) ls t h := by rw [pS_eq he]; show pv_cont pv_tab pv_ext X pv_dft r ret P h (pv_if (0 ≤ x) i1 pc ls t h) = _; unfold pv_if; by_cases hc : 0 ≤ x <;> simp only [hc, if_true, if_false, not_true_eq_false, not_false_eq_true] <;> rfl
theorem ss_icmp_ge {x y : Int32} {off : Int} (he : pv_at P pc = some (.if_icmp .ge off, 3, i1, i2, i3, i4)) : pS X r ret P pc ls (.int y :: .int x :: t) h = if y ≤ x then pS X r ret P i1 ls t h else pS X r ret P (pc + 3) ls t h := by rw [pS_eq he]; show pv_cont pv_tab pv_ext X pv_dft r ret P h (pv_if (y ≤ x) i1 pc ls t h) = _; unfold pv_if; by_cases hc : y ≤ x <;> simp only [hc, if_true, if_false, not_true_eq_false, not_false_eq_true] <;> rfl
theorem ss_if_gt {x : Int32} {off : Int} (he : pv_at P pc = some (.ifCond .gt off, 3, i1, i2, i3, i4)) : pS X r ret P pc ls (.int x :: t) h = if 0 < x then pS X r ret P i1 ls t h else pS X r ret P (pc + 3) ls t h := by rw [pS_eq he]; show pv_cont pv_tab pv_ext X pv_dft r ret P h (pv_if (0 < x) i1 pc ls t h) = _; unfold pv_if; by_cases hc : 0 < x <;> simp only [hc, if_true, if_false, not_true_eq_false, not_false_eq_true] <;> rfl
theorem ss_icmp_gt {x y : Int32} {off : Int} (he : pv_at P pc = some (.if_icmp .gt off, 3, i1, i2, i3, i4)) : pS X r ret P pc ls (.int y :: .int x :: t) h = if y < x then pS X r ret P i1 ls t h else pS X r ret P (pc + 3) ls t h := by rw [pS_eq he]; show pv_cont pv_tab pv_ext X pv_dft r ret P h (pv_if (y < x) i1 pc ls t h) = _; unfold pv_if; by_cases hc : y < x <;> simp only [hc, if_true, if_false, not_true_eq_false, not_false_eq_true] <;> rfl
theorem ss_if_le {x : Int32} {off : Int} (he : pv_at P pc = some (.ifCond .le off, 3, i1, i2, i3, i4)) : pS X r ret P pc ls (.int x :: t) h = if x ≤ 0 then pS X r ret P i1 ls t h else pS X r ret P (pc + 3) ls t h := by rw [pS_eq he]; show pv_cont pv_tab pv_ext X pv_dft r ret P h (pv_if (x ≤ 0) i1 pc ls t h) = _; unfold pv_if; by_cases hc : x ≤ 0 <;> simp only [hc, if_true, if_false, not_true_eq_false, not_false_eq_true] <;> rfl
theorem ss_icmp_le {x y : Int32} {off : Int} (he : pv_at P pc = some (.if_icmp .le off, 3, i1, i2, i3, i4)) : pS X r ret P pc ls (.int y :: .int x :: t) h = if x ≤ y then pS X r ret P i1 ls t h else pS X r ret P (pc + 3) ls t h := by rw [pS_eq he]; show pv_cont pv_tab pv_ext X pv_dft r ret P h (pv_if (x ≤ y) i1 pc ls t h) = _; unfold pv_if; by_cases hc : x ≤ y <;> simp only [hc, if_true, if_false, not_true_eq_false, not_false_eq_true] <;> rfl
theorem ss_table {d lo hi : Int} {offs : Array Int} {len : Nat} {x : Int32} (he : pv_at P pc = some (.tableswitch d lo hi offs, len, i1, i2, i3, i4)) : pS X r ret P pc ls (.int x :: t) h = (pv_sw pc d lo hi offs x).bind (fun q => pS X r ret P q ls t h) := by rw [pS_eq he]; simp only [pv_next]; cases pv_sw pc d lo hi offs x <;> rfl
theorem ss_lookup {d : Int} {ps : Array (Int × Int)} {len : Nat} {x : Int32} (he : pv_at P pc = some (.lookupswitch d ps, len, i1, i2, i3, i4)) : pS X r ret P pc ls (.int x :: t) h = (pv_lw pc d ps x).bind (fun q => pS X r ret P q ls t h) := by rw [pS_eq he]; simp only [pv_next]; cases pv_lw pc d ps x <;> rfl
theorem ss_copy {idx a0 a1 : Nat} {sp dp n : Int32} (he : pv_at P pc = some (.invokestatic idx, 3, i1, i2, i3, 9)) (hs : (t.map fun v => v.category).sum ≤ 8) : pS X r ret P pc ls (.int n :: .int dp :: .ref a1 :: .int sp :: .ref a0 :: t) h = (pv_cp h a0 sp a1 dp n).bind (fun h' => pS X r ret P (pc + 3) ls t h') := by rw [pS_eq he]; simp only [pv_next, if_true, if_pos hs]; cases pv_cp h a0 sp a1 dp n <;> rfl
theorem ss_oinit {idx a : Nat} (he : pv_at P pc = some (.invokespecial idx, 3, i1, i2, i3, 8)) (hs : (t.map fun v => v.category).sum ≤ 8) : pS X r ret P pc ls (.ref a :: t) h = pS X r ret P (pc + 3) ls t h := by rw [pS_eq he]; simp only [pv_next, if_true, if_pos hs]; rfl
theorem ss_ireturn {v : Int32} (he : pv_at P pc = some (.ireturn, 1, i1, i2, i3, i4)) : pS X r (some .int) P pc ls [.int v] h = some (some (.int v), h) := by rw [pS_eq he]; rfl
theorem ss_zreturn {v : Int32} (he : pv_at P pc = some (.ireturn, 1, i1, i2, i3, i4)) : pS X r (some .boolean) P pc ls [.int v] h = if v = 0 ∨ v = 1 then some (some (.int v), h) else none := by rw [pS_eq he]; simp only [pv_next]; by_cases hv : v = 0 ∨ v = 1 <;> simp only [hv, if_true, if_false] <;> rfl
theorem ss_return (he : pv_at P pc = some (.return_, 1, i1, i2, i3, i4)) : pS X r none P pc ls [] h = some (none, h) := by rw [pS_eq he]; rfl
theorem pv_inv_99 {mid k pc : Nat} {ls : pv_L} {st as rest : List Value} {h : pv_H} (hst : st = as.reverse ++ rest) (hk : as.length = k) (hs : (rest.map fun v => v.category).sum ≤ 8) : pv_inv mid k 99 pc ls st h = some (.inr (.inr (mid, as, pc + 3, ls, rest))) := by
  subst hst; subst hk
  have e1 : (as.reverse ++ rest).take as.length = as.reverse := by rw [List.take_append_of_le_length (by simp)]; exact List.take_of_length_le (by simp)
  have e2 : (as.reverse ++ rest).drop as.length = rest := by rw [List.drop_append_of_le_length (by simp)]; simp
  unfold pv_inv
  rw [e1, e2, if_pos ⟨by simp, hs⟩, if_pos rfl, List.reverse_reverse]
theorem pv_inv_rc {mid k ci b pc : Nat} {ls : pv_L} {st as rest : List Value} {h : pv_H} (hc : ¬ ci = 99) (hst : st = (.ref b :: as : List Value).reverse ++ rest) (hk : as.length + 1 = k) (hs : (rest.map fun v => v.category).sum ≤ 8) : pv_inv mid k ci pc ls st h = if pv_rc h b ci = true then some (.inr (.inr (mid, .ref b :: as, pc + 3, ls, rest))) else none := by
  subst hst; subst hk
  have e1 : ((.ref b :: as : List Value).reverse ++ rest).take (as.length + 1) = (.ref b :: as : List Value).reverse := by rw [List.take_append_of_le_length (by simp)]; rw [List.take_of_length_le (by simp)]
  have e2 : ((.ref b :: as : List Value).reverse ++ rest).drop (as.length + 1) = rest := by rw [List.drop_append_of_le_length (by simp)]; rw [List.drop_of_length_le (by simp)]; rfl
  unfold pv_inv pv_rc
  rw [e1, e2, if_pos ⟨by simp, hs⟩, if_neg hc, List.reverse_reverse]
  dsimp only
  cases hh : h[b]? with
  | none => simp
  | some q => cases q with
    | inl q => simp
    | inr q => obtain ⟨c, fs⟩ := q; by_cases hcc : c = ci <;> simp [hcc]
theorem pv_tI_bind {x : Option pv_O} {f : Option Value × pv_H → Option pv_O} {g : Int32 × pv_H → Option pv_O} (hx : ∀ q, x = some q → ∃ v, q.1 = some (.int v)) (hf : ∀ v h', f (some (.int v), h') = g (v, h')) : x.bind f = (pv_tI x).bind g := by
  cases x with
  | none => rfl
  | some q =>
    obtain ⟨v, hv⟩ := hx q rfl
    obtain ⟨q1, q2⟩ := q
    dsimp only at hv
    subst hv
    exact hf v q2
theorem pv_tV_bind {x : Option pv_O} {f : Option Value × pv_H → Option pv_O} {g : pv_H → Option pv_O} (hx : ∀ q, x = some q → q.1 = none) (hf : ∀ h', f (none, h') = g h') : x.bind f = (pv_tV x).bind g := by
  cases x with
  | none => rfl
  | some q =>
    have hv := hx q rfl
    obtain ⟨q1, q2⟩ := q
    dsimp only at hv
    subst hv
    exact hf q2
theorem pC_of {M : pv_M} {mid : Nat} {args : List Value} (ht : pv_tab mid = some M) (hr : M.2.2.2.2.2 args < r ∧ (pv_sl args).length ≤ M.2.2.1) : pC X r mid args h = pM X M args h := by
  unfold pC pv_call
  rw [ht]
  simp only [if_pos hr]
  rfl
theorem ss_callVI {idx b : Nat} {as st : List Value} {M : pv_M} (he : pv_at P pc = some (.invokevirtual idx, 3, i1, i2, i3, i4)) (ht : pv_tab i1 = some M) (hc : ¬ i3 = 99) (hst : st = (.ref b :: as : List Value).reverse ++ t) (hk : as.length + 1 = i2) (hs : (t.map fun v => v.category).sum ≤ 8) (hm : M.2.2.2.1 = some .int ∨ M.2.2.2.1 = some .boolean) (hr : M.2.2.2.2.2 (.ref b :: as) < r ∧ (pv_sl (.ref b :: as)).length ≤ M.2.2.1) : pS X r ret P pc ls st h = if pv_rc h b i3 = true then (pv_tI (pM X M (.ref b :: as) h)).bind (fun q => pS X r ret P (pc + 3) ls (.int q.1 :: t) q.2) else none := by
  rw [pS_eq he]
  show pv_cont pv_tab pv_ext X pv_dft r ret P h (pv_inv i1 i2 i3 pc ls _ h) = _
  rw [pv_inv_rc hc hst hk hs]
  by_cases hb : pv_rc h b i3 = true
  · rw [if_pos hb, if_pos hb, ← pC_of (X := X) (h := h) ht hr]
    refine pv_tI_bind (x := pC X r i1 (.ref b :: as) h) (fun q hq => ?_) (fun v hv => rfl)
    rw [pC_of ht hr] at hq
    exact (fun q hq => (pS_ret hq).2 hm) q hq
  · rw [if_neg hb, if_neg hb]
    rfl
theorem ss_callVN {idx b : Nat} {as st : List Value} {M : pv_M} (he : pv_at P pc = some (.invokevirtual idx, 3, i1, i2, i3, i4)) (ht : pv_tab i1 = some M) (hc : ¬ i3 = 99) (hst : st = (.ref b :: as : List Value).reverse ++ t) (hk : as.length + 1 = i2) (hs : (t.map fun v => v.category).sum ≤ 8) (hm : M.2.2.2.1 = none) (hr : M.2.2.2.2.2 (.ref b :: as) < r ∧ (pv_sl (.ref b :: as)).length ≤ M.2.2.1) : pS X r ret P pc ls st h = if pv_rc h b i3 = true then (pv_tV (pM X M (.ref b :: as) h)).bind (fun h' => pS X r ret P (pc + 3) ls t h') else none := by
  rw [pS_eq he]
  show pv_cont pv_tab pv_ext X pv_dft r ret P h (pv_inv i1 i2 i3 pc ls _ h) = _
  rw [pv_inv_rc hc hst hk hs]
  by_cases hb : pv_rc h b i3 = true
  · rw [if_pos hb, if_pos hb, ← pC_of (X := X) (h := h) ht hr]
    refine pv_tV_bind (x := pC X r i1 (.ref b :: as) h) (fun q hq => ?_) (fun hv => rfl)
    rw [pC_of ht hr] at hq
    exact (fun q hq => (pS_ret hq).1 hm) q hq
  · rw [if_neg hb, if_neg hb]
    rfl
theorem ss_callII {idx b : Nat} {as st : List Value} {M : pv_M} (he : pv_at P pc = some (.invokespecial idx, 3, i1, i2, i3, i4)) (ht : pv_tab i1 = some M) (h8 : ¬ i4 = 8) (hc : ¬ i3 = 99) (hst : st = (.ref b :: as : List Value).reverse ++ t) (hk : as.length + 1 = i2) (hs : (t.map fun v => v.category).sum ≤ 8) (hm : M.2.2.2.1 = some .int ∨ M.2.2.2.1 = some .boolean) (hr : M.2.2.2.2.2 (.ref b :: as) < r ∧ (pv_sl (.ref b :: as)).length ≤ M.2.2.1) : pS X r ret P pc ls st h = if pv_rc h b i3 = true then (pv_tI (pM X M (.ref b :: as) h)).bind (fun q => pS X r ret P (pc + 3) ls (.int q.1 :: t) q.2) else none := by
  rw [pS_eq he]
  simp only [pv_next, if_neg h8]
  rw [pv_inv_rc hc hst hk hs]
  by_cases hb : pv_rc h b i3 = true
  · rw [if_pos hb, if_pos hb, ← pC_of (X := X) (h := h) ht hr]
    refine pv_tI_bind (x := pC X r i1 (.ref b :: as) h) (fun q hq => ?_) (fun v hv => rfl)
    rw [pC_of ht hr] at hq
    exact (fun q hq => (pS_ret hq).2 hm) q hq
  · rw [if_neg hb, if_neg hb]
    rfl
theorem ss_callIN {idx b : Nat} {as st : List Value} {M : pv_M} (he : pv_at P pc = some (.invokespecial idx, 3, i1, i2, i3, i4)) (ht : pv_tab i1 = some M) (h8 : ¬ i4 = 8) (hc : ¬ i3 = 99) (hst : st = (.ref b :: as : List Value).reverse ++ t) (hk : as.length + 1 = i2) (hs : (t.map fun v => v.category).sum ≤ 8) (hm : M.2.2.2.1 = none) (hr : M.2.2.2.2.2 (.ref b :: as) < r ∧ (pv_sl (.ref b :: as)).length ≤ M.2.2.1) : pS X r ret P pc ls st h = if pv_rc h b i3 = true then (pv_tV (pM X M (.ref b :: as) h)).bind (fun h' => pS X r ret P (pc + 3) ls t h') else none := by
  rw [pS_eq he]
  simp only [pv_next, if_neg h8]
  rw [pv_inv_rc hc hst hk hs]
  by_cases hb : pv_rc h b i3 = true
  · rw [if_pos hb, if_pos hb, ← pC_of (X := X) (h := h) ht hr]
    refine pv_tV_bind (x := pC X r i1 (.ref b :: as) h) (fun q hq => ?_) (fun hv => rfl)
    rw [pC_of ht hr] at hq
    exact (fun q hq => (pS_ret hq).1 hm) q hq
  · rw [if_neg hb, if_neg hb]
    rfl
theorem ss_callSI {idx : Nat} {as st : List Value} {M : pv_M} (he : pv_at P pc = some (.invokestatic idx, 3, i1, i2, i3, i4)) (ht : pv_tab i1 = some M) (h9 : ¬ i4 = 9) (hst : st = as.reverse ++ t) (hk : as.length = i2) (hs : (t.map fun v => v.category).sum ≤ 8) (hm : M.2.2.2.1 = some .int ∨ M.2.2.2.1 = some .boolean) (hr : M.2.2.2.2.2 as < r ∧ (pv_sl as).length ≤ M.2.2.1) : pS X r ret P pc ls st h = (pv_tI (pM X M as h)).bind (fun q => pS X r ret P (pc + 3) ls (.int q.1 :: t) q.2) := by
  rw [pS_eq he]
  simp only [pv_next, if_neg h9]
  rw [pv_inv_99 hst hk hs, ← pC_of (X := X) (h := h) ht hr]
  refine pv_tI_bind (x := pC X r i1 as h) (fun q hq => ?_) (fun v hv => rfl)
  rw [pC_of ht hr] at hq
  exact (fun q hq => (pS_ret hq).2 hm) q hq
theorem ss_callSN {idx : Nat} {as st : List Value} {M : pv_M} (he : pv_at P pc = some (.invokestatic idx, 3, i1, i2, i3, i4)) (ht : pv_tab i1 = some M) (h9 : ¬ i4 = 9) (hst : st = as.reverse ++ t) (hk : as.length = i2) (hs : (t.map fun v => v.category).sum ≤ 8) (hm : M.2.2.2.1 = none) (hr : M.2.2.2.2.2 as < r ∧ (pv_sl as).length ≤ M.2.2.1) : pS X r ret P pc ls st h = (pv_tV (pM X M as h)).bind (fun h' => pS X r ret P (pc + 3) ls t h') := by
  rw [pS_eq he]
  simp only [pv_next, if_neg h9]
  rw [pv_inv_99 hst hk hs, ← pC_of (X := X) (h := h) ht hr]
  refine pv_tV_bind (x := pC X r i1 as h) (fun q hq => ?_) (fun hv => rfl)
  rw [pC_of ht hr] at hq
  exact (fun q hq => (pS_ret hq).1 hm) q hq
theorem ss_extV {idx : Nat} {as st : List Value} (he : pv_at P pc = some (.invokevirtual idx, 3, i1, i2, 99, i4)) (ht : pv_tab i1 = none) (h12 : 12 < r) (hst : st = as.reverse ++ t) (hk : as.length = i2) (hs : (t.map fun v => v.category).sum ≤ 8) : pS X r ret P pc ls st h = (pv_tI (pv_ext i1 as h)).bind (fun q => pS X r ret P (pc + 3) ls (.int q.1 :: t) q.2) := by
  rw [pS_eq he]
  show pv_cont pv_tab pv_ext X pv_dft r ret P h (pv_inv i1 i2 99 pc ls st h) = _
  rw [pv_inv_99 hst hk hs]
  have e1 : pC X r i1 as h = pv_ext i1 as h := by unfold pC pv_call; rw [ht]; simp only [if_pos h12]
  rw [← e1]
  exact pv_tI_bind (x := pC X r i1 as h) (fun q hq => pv_ext_int (by rw [← e1]; exact hq)) (fun v hv => rfl)
theorem ss_extS {idx : Nat} {as st : List Value} (he : pv_at P pc = some (.invokestatic idx, 3, i1, i2, i3, 15)) (ht : pv_tab i1 = none) (h12 : 12 < r) (hst : st = as.reverse ++ t) (hk : as.length = i2) (hs : (t.map fun v => v.category).sum ≤ 8) : pS X r ret P pc ls st h = (pv_tI (pv_ext i1 as h)).bind (fun q => pS X r ret P (pc + 3) ls (.int q.1 :: t) q.2) := by
  rw [pS_eq he]
  simp only [pv_next, if_neg (show ¬ 15 = 9 by decide)]
  rw [pv_inv_99 hst hk hs]
  have e1 : pC X r i1 as h = pv_ext i1 as h := by unfold pC pv_call; rw [ht]; simp only [if_pos h12]
  rw [← e1]
  exact pv_tI_bind (x := pC X r i1 as h) (fun q hq => pv_ext_int (by rw [← e1]; exact hq)) (fun v hv => rfl)
theorem ssr_callVI {idx b : Nat} {as st : List Value} {M : pv_M} (he : pv_at P pc = some (.invokevirtual idx, 3, i1, i2, i3, i4)) (ht : pv_tab i1 = some M) (hc : ¬ i3 = 99) (hst : st = (.ref b :: as : List Value).reverse ++ t) (hk : as.length + 1 = i2) (hs : (t.map fun v => v.category).sum ≤ 8) (hm : M.2.2.2.1 = some .int ∨ M.2.2.2.1 = some .boolean) (hl : (pv_sl (.ref b :: as)).length ≤ M.2.2.1) : pS X r ret P pc ls st h = if M.2.2.2.2.2 (.ref b :: as) < r then (if pv_rc h b i3 = true then (pv_tI (pM X M (.ref b :: as) h)).bind (fun q => pS X r ret P (pc + 3) ls (.int q.1 :: t) q.2) else none) else none := by
  by_cases hr : M.2.2.2.2.2 (.ref b :: as) < r
  · rw [if_pos hr]
    exact ss_callVI he ht hc hst hk hs hm ⟨hr, hl⟩
  · rw [if_neg hr, pS_eq he]
    show pv_cont pv_tab pv_ext X pv_dft r ret P h (pv_inv i1 i2 i3 pc ls _ h) = _
    rw [pv_inv_rc hc hst hk hs]
    split
    · simp only [pv_cont, pv_call, ht]
      rw [if_neg (fun z => hr z.1)]
      rfl
    · rfl
theorem ssr_callVN {idx b : Nat} {as st : List Value} {M : pv_M} (he : pv_at P pc = some (.invokevirtual idx, 3, i1, i2, i3, i4)) (ht : pv_tab i1 = some M) (hc : ¬ i3 = 99) (hst : st = (.ref b :: as : List Value).reverse ++ t) (hk : as.length + 1 = i2) (hs : (t.map fun v => v.category).sum ≤ 8) (hm : M.2.2.2.1 = none) (hl : (pv_sl (.ref b :: as)).length ≤ M.2.2.1) : pS X r ret P pc ls st h = if M.2.2.2.2.2 (.ref b :: as) < r then (if pv_rc h b i3 = true then (pv_tV (pM X M (.ref b :: as) h)).bind (fun h' => pS X r ret P (pc + 3) ls t h') else none) else none := by
  by_cases hr : M.2.2.2.2.2 (.ref b :: as) < r
  · rw [if_pos hr]
    exact ss_callVN he ht hc hst hk hs hm ⟨hr, hl⟩
  · rw [if_neg hr, pS_eq he]
    show pv_cont pv_tab pv_ext X pv_dft r ret P h (pv_inv i1 i2 i3 pc ls _ h) = _
    rw [pv_inv_rc hc hst hk hs]
    split
    · simp only [pv_cont, pv_call, ht]
      rw [if_neg (fun z => hr z.1)]
      rfl
    · rfl
theorem ssr_callII {idx b : Nat} {as st : List Value} {M : pv_M} (he : pv_at P pc = some (.invokespecial idx, 3, i1, i2, i3, i4)) (ht : pv_tab i1 = some M) (h8 : ¬ i4 = 8) (hc : ¬ i3 = 99) (hst : st = (.ref b :: as : List Value).reverse ++ t) (hk : as.length + 1 = i2) (hs : (t.map fun v => v.category).sum ≤ 8) (hm : M.2.2.2.1 = some .int ∨ M.2.2.2.1 = some .boolean) (hl : (pv_sl (.ref b :: as)).length ≤ M.2.2.1) : pS X r ret P pc ls st h = if M.2.2.2.2.2 (.ref b :: as) < r then (if pv_rc h b i3 = true then (pv_tI (pM X M (.ref b :: as) h)).bind (fun q => pS X r ret P (pc + 3) ls (.int q.1 :: t) q.2) else none) else none := by
  by_cases hr : M.2.2.2.2.2 (.ref b :: as) < r
  · rw [if_pos hr]
    exact ss_callII he ht h8 hc hst hk hs hm ⟨hr, hl⟩
  · rw [if_neg hr, pS_eq he]
    simp only [pv_next, if_neg h8]
    rw [pv_inv_rc hc hst hk hs]
    split
    · simp only [pv_cont, pv_call, ht]
      rw [if_neg (fun z => hr z.1)]
      rfl
    · rfl
theorem ssr_callIN {idx b : Nat} {as st : List Value} {M : pv_M} (he : pv_at P pc = some (.invokespecial idx, 3, i1, i2, i3, i4)) (ht : pv_tab i1 = some M) (h8 : ¬ i4 = 8) (hc : ¬ i3 = 99) (hst : st = (.ref b :: as : List Value).reverse ++ t) (hk : as.length + 1 = i2) (hs : (t.map fun v => v.category).sum ≤ 8) (hm : M.2.2.2.1 = none) (hl : (pv_sl (.ref b :: as)).length ≤ M.2.2.1) : pS X r ret P pc ls st h = if M.2.2.2.2.2 (.ref b :: as) < r then (if pv_rc h b i3 = true then (pv_tV (pM X M (.ref b :: as) h)).bind (fun h' => pS X r ret P (pc + 3) ls t h') else none) else none := by
  by_cases hr : M.2.2.2.2.2 (.ref b :: as) < r
  · rw [if_pos hr]
    exact ss_callIN he ht h8 hc hst hk hs hm ⟨hr, hl⟩
  · rw [if_neg hr, pS_eq he]
    simp only [pv_next, if_neg h8]
    rw [pv_inv_rc hc hst hk hs]
    split
    · simp only [pv_cont, pv_call, ht]
      rw [if_neg (fun z => hr z.1)]
      rfl
    · rfl
theorem ssr_callSI {idx : Nat} {as st : List Value} {M : pv_M} (he : pv_at P pc = some (.invokestatic idx, 3, i1, i2, i3, i4)) (ht : pv_tab i1 = some M) (h9 : ¬ i4 = 9) (hst : st = as.reverse ++ t) (hk : as.length = i2) (hs : (t.map fun v => v.category).sum ≤ 8) (hm : M.2.2.2.1 = some .int ∨ M.2.2.2.1 = some .boolean) (hl : (pv_sl as).length ≤ M.2.2.1) : pS X r ret P pc ls st h = if M.2.2.2.2.2 as < r then (pv_tI (pM X M as h)).bind (fun q => pS X r ret P (pc + 3) ls (.int q.1 :: t) q.2) else none := by
  by_cases hr : M.2.2.2.2.2 as < r
  · rw [if_pos hr]
    exact ss_callSI he ht h9 hst hk hs hm ⟨hr, hl⟩
  · rw [if_neg hr, pS_eq he]
    simp only [pv_next, if_neg h9]
    rw [pv_inv_99 hst hk hs]
    simp only [pv_cont, pv_call, ht]
    rw [if_neg (fun z => hr z.1)]
    rfl
theorem ssr_callSN {idx : Nat} {as st : List Value} {M : pv_M} (he : pv_at P pc = some (.invokestatic idx, 3, i1, i2, i3, i4)) (ht : pv_tab i1 = some M) (h9 : ¬ i4 = 9) (hst : st = as.reverse ++ t) (hk : as.length = i2) (hs : (t.map fun v => v.category).sum ≤ 8) (hm : M.2.2.2.1 = none) (hl : (pv_sl as).length ≤ M.2.2.1) : pS X r ret P pc ls st h = if M.2.2.2.2.2 as < r then (pv_tV (pM X M as h)).bind (fun h' => pS X r ret P (pc + 3) ls t h') else none := by
  by_cases hr : M.2.2.2.2.2 as < r
  · rw [if_pos hr]
    exact ss_callSN he ht h9 hst hk hs hm ⟨hr, hl⟩
  · rw [if_neg hr, pS_eq he]
    simp only [pv_next, if_neg h9]
    rw [pv_inv_99 hst hk hs]
    simp only [pv_cont, pv_call, ht]
    rw [if_neg (fun z => hr z.1)]
    rfl
theorem pv_ite {α : Type} {c : Prop} [Decidable c] {a b a' b' : α} (h1 : a = a') (h2 : b = b') : (if c then a else b) = (if c then a' else b') := by rw [h1, h2]
theorem pv_ne {x k : Int32} {z : Int} (h : ¬ x = k) (hk : k.toInt = z) : ¬ x.toInt = z := lv_neT h hk
theorem pv_sw_out {pc q : Nat} {d lo hi : Int} {offs : Array Int} {x : Int32} (h0 : 0 ≤ (pc : Int) + d) (hq : ((pc : Int) + d).toNat = q) (h : x.toInt < lo ∨ hi < x.toInt) : pv_sw pc d lo hi offs x = some q := by
  unfold pv_sw
  rw [if_pos h, if_pos h0, hq]
end PSS
