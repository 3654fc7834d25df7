/-! One instruction of the small machine is one of the real machine. -/
def pv_G : List Cond := lw_tbl.filter goodWord
theorem pv_G_in {w : Cond} (h : w ∈ lw_tbl) (g : goodWord w = true) : w ∈ pv_G := List.mem_filter.mpr ⟨h, g⟩
theorem pv_G_good {c1 : Cond} (h : c1 ∈ pv_G) : GoodIn pv_G (c1 :: pv_G) := by
  intro w hw
  have hw' : w ∈ pv_G := by
    rcases List.mem_cons.mp hw with rfl | q
    · exact h
    · exact q
  exact ⟨hw', good_of_word (List.mem_filter.mp hw').2⟩
def pv_owns : List String := [RX0, RX1, RX2, RX3, RX4, RX5, RX6, RX7, RX8, RX9, RX10, RX11, "WristPortLaw", "java/lang/Math", "java/lang/Integer", "java/util/Arrays", "java/lang/String", "java/lang/StringLatin1", "jdk/internal/util/Preconditions"]
def pv_own (o : Nat) : String := pv_owns.getD o ""
def pv_tag : FieldType → Nat
  | .int => 0
  | .long => 1
  | .boolean => 2
  | .object _ => 3
  | .array _ => 3
  | _ => 9
/-- what is known of each kind of object -/
def pv_CL (dft : Nat → List Value) : Prop := ∀ (ci : Nat) (C : String) (T : u_T) (N : Nat), vwCl[ci]? = some (C, T, N) → ∃ ty0 : Nat → FieldType, (∀ k, k < N → parseFieldDescriptor (T k).2.2.1 = some (ty0 k)) ∧ (∀ a, a < N → ∀ b, b < N → a ≠ b → (T a).2.1 ≠ (T b).2.1) ∧ (∀ w ∈ u_ws C T N, w ∈ pv_G) ∧ (∀ j, j < N → defaultValue (ty0 j) = vp_V (dft ci) j) ∧ (dft ci).length = N ∧ (∀ v ∈ dft ci, ∀ ad, pv_tr ad v = v)
/-- what a row's numbers mean: class of the method, index, kind, numbers -/
def pv_LV (tab : Nat → Option pv_M) (NW : List (String × Nat × MethodName × String)) (q : Nat × Nat × Nat × Nat × Nat × Nat) : Prop := match q with
  | (o, idx, k, i1, i2, i3) =>
    (k = 0 → ∃ C T N ty, vwCl[i1]? = some (C, T, N) ∧ i2 < N ∧ Cond.fieldLink (pv_own o) idx (T i2).1 (T i2).2.1 (T i2).2.2.1 ∈ pv_G ∧ parseFieldDescriptor (T i2).2.2.1 = some ty ∧ pv_tag ty = i3) ∧
    (k = 2 ∨ k = 3 ∨ k = 4 ∨ k = 5 ∨ k = 6 ∨ k = 7 → ∃ M, tab i1 = some M ∧ Cond.code M.1 M.2.1 M.2.2.1 M.2.2.2.1 ∈ pv_G ∧ Cond.initialized M.1.cls ∈ pv_G ∧ (M.1.cls ≠ "java/lang/invoke/MethodHandle" ∧ M.1.cls ≠ "java/lang/invoke/VarHandle" ∧ (parseMethodDescriptor M.1.desc).map (fun d => d.parameters.length) = some (if k = 4 ∨ k = 5 then i2 else i2 - 1)) ∧
      (k = 2 ∨ k = 4 ∨ k = 6 → Cond.methodLink (pv_own o) idx M.1 ∈ pv_G) ∧ (k = 3 ∨ k = 5 ∨ k = 7 → ∃ host, ((pv_own o), idx, M.1, host) ∈ NW) ∧
      (k = 2 ∨ k = 3 → 1 ≤ i2 ∧ Cond.instanceMethod M.1 ∈ pv_G ∧ Cond.selects M.1.cls M.1 M.1 ∈ pv_G ∧ i3 ≠ 99 ∧ ∃ T N, vwCl[i3]? = some (M.1.cls, T, N)) ∧
      (k = 4 ∨ k = 5 → Cond.static M.1 ∈ pv_G) ∧
      (k = 6 ∨ k = 7 → 1 ≤ i2 ∧ M.1.name = "<init>" ∧ Cond.instanceMethod M.1 ∈ pv_G ∧ M.2.2.2.1 = none ∧ i3 ≠ 99)) ∧
    (k = 8 → Cond.methodLink (pv_own o) idx objectInit ∈ pv_G) ∧
    (k = 9 → Cond.methodLink (pv_own o) idx arraycopyName ∈ pv_G) ∧
    (k = 10 → ∃ C T N, vwCl[i1]? = some (C, T, N) ∧ Cond.classLink (pv_own o) idx C ∈ pv_G ∧ Cond.instantiable C N ∈ pv_G ∧ Cond.initialized C ∈ pv_G) ∧
    (k = 12 → Cond.classLink (pv_own o) idx (if i1 = 4 then "WristPort$Mark" else "WristPort$State") ∈ pv_G) ∧
    (k = 13 → Cond.constant (pv_own o) idx (Int32.ofNat i1) ∈ pv_G) ∧
    (k = 16 → Cond.constantLong (pv_own o) idx (Int64.ofNat i1) ∈ pv_G)
def pv_aty : Nat → ArrayType
  | 0 => .char
  | 1 => .int
  | 2 => .long
  | _ => .boolean
/-- a row fits the bytes, and its numbers its operands -/
def pv_ok (LT : List (Nat × Nat × Nat × Nat × Nat × Nat)) (o : Nat) (nm : String) (cc : ByteArray) (q : Nat × pv_I) : Prop := match q with
  | (pc, ins, len, i1, i2, i3, i4) => decode cc pc = .ok (ins, len) ∧ match ins with
    | .goto off => (pc : Int) + off = (i1 : Int) ∧ len = 3
    | .ifCond _ off => (pc : Int) + off = (i1 : Int) ∧ len = 3
    | .if_icmp _ off => (pc : Int) + off = (i1 : Int) ∧ len = 3
    | .iload _ | .lload _ | .aload _ | .istore _ | .lstore _ | .astore _ | .bipush _ => len = 2
    | .sipush _ => len = 3
    | .iinc _ _ => len = 3 ∨ len = 6
    | .getfield idx => len = 3 ∧ (o, idx, 0, i1, i2, i3) ∈ LT
    | .putfield idx => len = 3 ∧ (o, idx, 0, i1, i2, i3) ∈ LT ∧ ∀ C T N, vwCl[i1]? = some (C, T, N) → (T i2).2.2.2 = false ∨ ((T i2).1 = pv_own o ∧ nm = "<init>")
    | .invokevirtual idx => len = 3 ∧ (o, idx, i4, i1, i2, i3) ∈ LT ∧ (i4 = 2 ∨ i4 = 3 ∨ i4 = 15)
    | .invokestatic idx => len = 3 ∧ (o, idx, i4, i1, i2, i3) ∈ LT ∧ (i4 = 4 ∨ i4 = 5 ∨ i4 = 9 ∨ i4 = 15)
    | .invokespecial idx => len = 3 ∧ (o, idx, i4, i1, i2, i3) ∈ LT ∧ (i4 = 6 ∨ i4 = 7 ∨ i4 = 8)
    | .new idx => len = 3 ∧ (o, idx, 10, i1, 0, 0) ∈ LT
    | .newarray t => len = 2 ∧ t = pv_aty i1
    | .anewarray idx => len = 3 ∧ (o, idx, 12, i1, 0, 0) ∈ LT
    | .ldc idx => len = 2 ∧ (o, idx, (if i2 = 0 then 13 else 14), i1, 0, 0) ∈ LT
    | .ldc_w idx => len = 3 ∧ (o, idx, 13, i1, 0, 0) ∈ LT
    | .ldc2_w idx => len = 3 ∧ (o, idx, 16, i1, 0, 0) ∈ LT
    | .tableswitch _ _ _ _ => True
    | .lookupswitch _ _ => True
    | _ => len = 1
def pv_K (D : va_G) (ad : Nat → Nat) (base : Nat) (cyf : Nat → ClassId) (X : pv_X) (NW : List (String × Nat × MethodName × String)) (Ks : State → Prop) (U : State) : Prop :=
  va_K D vwCl (pv_tys cyf) U ∧ (∀ q ∈ NW, va_Nw (.methodLinkNest q.1 q.2.1 q.2.2.1 q.2.2.2) U) ∧ (va_AO "WristPort$Mark" U ∧ va_AO "WristPort$State" U) ∧ va_X (ad pv_scr) X.2 X.1 U U.heap ∧ ad pv_scr < base ∧ base ≤ U.heap.size ∧ Ks U
def pv_Cx (D : va_G) (ad : Nat → Nat) (base : Nat) (cyf : Nat → ClassId) (X : pv_X) (NW : List (String × Nat × MethodName × String)) (Ks : State → Prop) (p : Program) (s : State) (m : MethodId) (args : Array Value) (meth : Method) (c : Code) (cc : ByteArray) (o : Nat) (nm : String) (nL : Nat) (ret : Option FieldType) : Prop :=
  p.tables.exec = Jvm.exec ∧ c.code = cc ∧ c.maxLocals = nL ∧ s.vm.findClass (pv_own o) = some m.cls ∧ (∀ w ∈ pv_G, w.before args s = true) ∧ meth.sig.returnType = ret ∧ meth.locks = false ∧ meth.name = nm ∧ pv_K D ad base cyf X NW Ks s ∧ (∀ k, k < pv_scr → ad k = base + k)
/-- the real machine goes on from here as the small one does -/
def pv_Kt (D : va_G) (ad : Nat → Nat) (base : Nat) (cyf : Nat → ClassId) (p : Program) (l : Launch) (e : Env) (R : Room) (s : State) (m : MethodId) (args : Array Value) (below : List Frame) (meth : Method) (c : Code) (nL n0 z0 : Nat) (Q : State → Prop) (pc : Nat) (ls : pv_L) (st : List Value) (h : pv_H) : Prop :=
  ∀ (H : Heap) (locs : List Loc) (lsA : Array Slot), pv_Rel D ad base cyf h H → va_S (pv_A base) s.heap H locs → pv_ls ad lsA nL ls → W p l e R s m args below meth c H locs (h.length - n0) (pv_sz h - z0) Q (F0 m pc lsA (st.map (pv_tr ad)))
theorem pv_f_ok {h : pv_H} {a c j : Nat} {v : Value} (e : pv_f h a c j = some v) : ∃ fs, h[a]? = some (.inr (c, fs)) ∧ fs[j]? = some v := by
  unfold pv_f at e
  split at e
  · rename_i c' fs hh
    split at e
    · rename_i hc; subst hc; exact ⟨fs, hh, e⟩
    · cases e
  · cases e
theorem pv_fI_ok {h : pv_H} {a c j : Nat} {x : Int32} (e : pv_fI h a c j = some x) : pv_f h a c j = some (.int x) := by
  unfold pv_fI at e
  split at e
  · rename_i y hy; cases e; exact hy
  · cases e
theorem pv_fJ_ok {h : pv_H} {a c j : Nat} {x : Int64} (e : pv_fJ h a c j = some x) : pv_f h a c j = some (.long x) := by
  unfold pv_fJ at e
  split at e
  · rename_i y hy; cases e; exact hy
  · cases e
theorem pv_fR_ok {h : pv_H} {a c j x : Nat} (e : pv_fR h a c j = some x) : pv_f h a c j = some (.ref x) := by
  unfold pv_fR at e
  split at e
  · rename_i y hy; cases e; exact hy
  · cases e
theorem pv_fp_ok {h h' : pv_H} {a c j : Nat} {v : Value} (e : pv_fp h a c j v = some h') : ∃ fs, h[a]? = some (.inr (c, fs)) ∧ j < fs.length ∧ h' = h.set a (.inr (c, fs.set j v)) := by
  unfold pv_fp at e
  split at e
  · rename_i c' fs hh
    split at e
    · rename_i hc; obtain ⟨rfl, hj⟩ := hc; cases e; exact ⟨fs, hh, hj, rfl⟩
    · cases e
  · cases e
theorem pv_aI_ok {h : pv_H} {t a : Nat} {i x : Int32} (e : pv_aI h t a i = some x) : ∃ n f, h[a]? = some (.inl (t, n, .inl f)) ∧ pv_in i n = true ∧ x = f i.toNatClampNeg := by
  unfold pv_aI at e
  split at e
  · rename_i t' n f hh
    split at e
    · rename_i hc; obtain ⟨rfl, hj⟩ := hc; cases e; exact ⟨n, f, hh, hj, rfl⟩
    · cases e
  · cases e
theorem pv_aJ_ok {h : pv_H} {a : Nat} {i : Int32} {x : Int64} (e : pv_aJ h a i = some x) : ∃ n f, h[a]? = some (.inl (2, n, .inr (.inl f))) ∧ pv_in i n = true ∧ x = f i.toNatClampNeg := by
  unfold pv_aJ at e
  split at e
  · rename_i t' n f hh
    split at e
    · rename_i hc; obtain ⟨rfl, hj⟩ := hc; cases e; exact ⟨n, f, hh, hj, rfl⟩
    · cases e
  · cases e
theorem pv_aR_ok {h : pv_H} {a : Nat} {i : Int32} {x : Nat} (e : pv_aR h a i = some x) : ∃ t n f, (t = 4 ∨ t = 5) ∧ h[a]? = some (.inl (t, n, .inr (.inr (.inr (.inr f))))) ∧ pv_in i n = true ∧ f i.toNatClampNeg = some x := by
  unfold pv_aR at e
  split at e
  · rename_i t' n f hh
    split at e
    · rename_i hc; obtain ⟨ht, hj⟩ := hc; exact ⟨t', n, f, ht, hh, hj, e⟩
    · cases e
  · cases e
theorem pv_sI_ok {h h' : pv_H} {a : Nat} {i x : Int32} (e : pv_sI h a i x = some h') : ∃ n f, h[a]? = some (.inl (1, n, .inl f)) ∧ pv_in i n = true ∧ h' = h.set a (.inl (1, n, .inl (upd f i.toNatClampNeg x))) := by
  unfold pv_sI at e
  split at e
  · rename_i t' n f hh
    split at e
    · rename_i hc; obtain ⟨rfl, hj⟩ := hc; cases e; exact ⟨n, f, hh, hj, rfl⟩
    · cases e
  · cases e
theorem pv_sC_ok {h h' : pv_H} {a : Nat} {i x : Int32} (e : pv_sC h a i x = some h') : ∃ n f, h[a]? = some (.inl (0, n, .inl f)) ∧ pv_in i n = true ∧ h' = h.set a (.inl (0, n, .inl (upd f i.toNatClampNeg (vp_nar .char x)))) := by
  unfold pv_sC at e
  split at e
  · rename_i t' n f hh
    split at e
    · rename_i hc; obtain ⟨rfl, hj⟩ := hc; cases e; exact ⟨n, f, hh, hj, rfl⟩
    · cases e
  · cases e
theorem pv_sZ_ok {h h' : pv_H} {a : Nat} {i x : Int32} (e : pv_sZ h a i x = some h') : ∃ n f, h[a]? = some (.inl (3, n, .inl f)) ∧ pv_in i n = true ∧ h' = h.set a (.inl (3, n, .inl (upd f i.toNatClampNeg (vp_nar .boolean x)))) := by
  unfold pv_sZ at e
  split at e
  · rename_i t' n f hh
    split at e
    · rename_i hc; obtain ⟨rfl, hj⟩ := hc; cases e; exact ⟨n, f, hh, hj, rfl⟩
    · cases e
  · cases e
theorem pv_sJ_ok {h h' : pv_H} {a : Nat} {i : Int32} {x : Int64} (e : pv_sJ h a i x = some h') : ∃ n f, h[a]? = some (.inl (2, n, .inr (.inl f))) ∧ pv_in i n = true ∧ h' = h.set a (.inl (2, n, .inr (.inl (vp_updL f i.toNatClampNeg x)))) := by
  unfold pv_sJ at e
  split at e
  · rename_i t' n f hh
    split at e
    · rename_i hc; obtain ⟨rfl, hj⟩ := hc; cases e; exact ⟨n, f, hh, hj, rfl⟩
    · cases e
  · cases e
theorem pv_sR_ok {h h' : pv_H} {a : Nat} {i : Int32} {x : Nat} (e : pv_sR h a i x = some h') : ∃ t n f fs, (t = 4 ∨ t = 5) ∧ h[a]? = some (.inl (t, n, .inr (.inr (.inr (.inr f))))) ∧ h[x]? = some (.inr (pv_el t, fs)) ∧ pv_in i n = true ∧ h' = h.set a (.inl (t, n, .inr (.inr (.inr (.inr (va_up f i.toNatClampNeg (some x))))))) := by
  unfold pv_sR at e
  split at e
  · rename_i t' n f c fs hh hx
    split at e
    · rename_i hc; obtain ⟨ht, hj, rfl⟩ := hc; cases e; exact ⟨t', n, f, fs, ht, hh, hx, hj, rfl⟩
    · cases e
  · cases e
theorem pv_cp_ok {h h' : pv_H} {a0 a1 : Nat} {sp dp n : Int32} (e : pv_cp h a0 sp a1 dp n = some h') : ∃ n0 n1 f g, h[a0]? = some (.inl (1, n0, .inl f)) ∧ h[a1]? = some (.inl (1, n1, .inl g)) ∧ ¬ sp < 0 ∧ ¬ dp < 0 ∧ ¬ n < 0 ∧ sp.toNatClampNeg + n.toNatClampNeg ≤ n0 ∧ dp.toNatClampNeg + n.toNatClampNeg ≤ n1 ∧ h' = h.set a1 (.inl (1, n1, .inl (va_cpy f g sp.toNatClampNeg dp.toNatClampNeg n.toNatClampNeg))) := by
  unfold pv_cp at e
  split at e
  · rename_i t0 n0 f t1 n1 g h0 h1
    split at e
    · rename_i hc; obtain ⟨rfl, rfl, c1, c2, c3, c4, c5⟩ := hc; cases e; exact ⟨n0, n1, f, g, h0, h1, c1, c2, c3, c4, c5, rfl⟩
    · cases e
  · cases e
theorem pv_st1_lt {ls ls' : pv_L} {i : Nat} {v : Value} (e : pv_st1 ls i v = some ls') : i < ls.length := by
  unfold pv_st1 at e
  split at e
  · assumption
  · cases e
theorem pv_st2_lt {ls ls' : pv_L} {i : Nat} {v : Value} (e : pv_st2 ls i v = some ls') : i + 1 < ls.length := by
  unfold pv_st2 at e
  split at e
  · assumption
  · cases e
theorem pv_fit_ok {ty : FieldType} {v : Value} (ad : Nat → Nat) (h : pv_fit (pv_tag ty) v = true) : narrow ty (pv_tr ad v) = pv_tr ad v ∧ fits ty (pv_tr ad v) = true := by
  cases ty <;> cases v <;> simp [pv_fit, pv_tag] at h <;> simp [pv_tr, narrow, fits]
  · rcases h with rfl | rfl <;> decide
