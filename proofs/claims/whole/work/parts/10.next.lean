section PVS4
variable {D : va_G} {ad : Nat → Nat} {base : Nat} {cyf : Nat → ClassId} {X : pv_X} {NW : List (String × Nat × MethodName × String)} {Ks : State → Prop} {p : Program} {l : Launch} {e : Env} {R : Room} {s : State} {m : MethodId} {args : Array Value} {below : List Frame} {meth : Method} {c : Code} {cc : ByteArray} {o nL n0 z0 : Nat} {nm : String} {ret : Option FieldType} {Q : State → Prop} {pc : Nat} {ls : pv_L} {t : List Value} {h : pv_H} {tab : Nat → Option pv_M} {ext : Nat → List Value → pv_H → Option pv_O} {dft : Nat → List Value} {LT : List (Nat × Nat × Nat × Nat × Nat × Nat)}
/-- words that many rows need -/
def pv_W0 : Prop := (Cond.native arraycopyName ∈ pv_G ∧ Cond.static arraycopyName ∈ pv_G ∧ Cond.initialized "java/lang/System" ∈ pv_G) ∧ (Cond.instanceMethod objectInit ∈ pv_G ∧ Cond.code objectInit ⟨#[0xb1]⟩ 1 none ∈ pv_G) ∧ (∀ i, i < 4 → Cond.arrayClass (newarray.typeOf (pv_aty i)) ∈ pv_G)
/-- String constants: their rows -/
def pv_STR (l : Launch) (D : va_G) (ad : Nat → Nat) (base : Nat) (cyf : Nat → ClassId) (X : pv_X) (NW : List (String × Nat × MethodName × String)) (Ks : State → Prop) (LT : List (Nat × Nat × Nat × Nat × Nat × Nat)) : Prop :=
  ∀ (p : Program) (e : Env) (R : Room) (s : State) (m : MethodId) (args : Array Value) (below : List Frame) (meth : Method) (c : Code) (cc : ByteArray) (o nL : Nat) (nm : String) (ret : Option FieldType) (Q : State → Prop) (pc idx i1 : Nat) (H : Heap) (locs : List Loc) (cells slots : Nat) (lsA : Array Slot) (st : List Value),
    pv_Cx D ad base cyf X NW Ks p s m args meth c cc o nm nL ret → (o, idx, 14, i1, 0, 0) ∈ LT → decode cc pc = .ok (.ldc idx, 2) → W p l e R s m args below meth c H locs cells slots Q (F0 m (pc + 2) lsA (.ref (ad (pv_scr + 1 + i1)) :: st)) → W p l e R s m args below meth c H locs cells slots Q (F0 m pc lsA st)
/-- methods that are proved apart: their calls -/
def pv_EXT (l : Launch) (D : va_G) (ad : Nat → Nat) (base : Nat) (cyf : Nat → ClassId) (X : pv_X) (NW : List (String × Nat × MethodName × String)) (Ks : State → Prop) (LT : List (Nat × Nat × Nat × Nat × Nat × Nat)) (ext : Nat → List Value → pv_H → Option pv_O) : Prop :=
  (∀ mid as h q, ext mid as h = some q → h.length ≤ q.2.length ∧ pv_sz h ≤ pv_sz q.2) ∧
  ∀ (p : Program) (e : Env) (R : Room) (s : State) (m : MethodId) (args : Array Value) (below : List Frame) (meth : Method) (c : Code) (cc : ByteArray) (o nL n0 z0 : Nat) (nm : String) (ret : Option FieldType) (pc idx i1 i2 i3 : Nat) (ins : Instr) (H : Heap) (locs : List Loc) (lsA : Array Slot) (ls : pv_L) (as rest : List Value) (h : pv_H) (q : pv_O),
    pv_Cx D ad base cyf X NW Ks p s m args meth c cc o nm nL ret → (o, idx, 15, i1, i2, i3) ∈ LT → (ins = .invokevirtual idx ∨ ins = .invokestatic idx) → decode cc pc = .ok (ins, 3) → ext i1 as h = some q → as.length = i2 → (rest.map fun v => v.category).sum ≤ 8 → 13 ≤ R.frames → 13 * 200 ≤ R.locals →
    h.length - n0 + (q.2.length - h.length) ≤ R.cells → pv_sz h - z0 + (pv_sz q.2 - pv_sz h) ≤ R.slots → pv_Rel D ad base cyf h H → H.size = base + h.length → va_S (pv_A base) s.heap H locs → pv_ls ad lsA nL ls →
    va_Run p l e R s m args below meth c H locs (h.length - n0) (pv_sz h - z0) (q.2.length - h.length) (pv_sz q.2 - pv_sz h) (F0 m pc lsA ((as.reverse ++ rest).map (pv_tr ad))) (rest.map (pv_tr ad)) (pv_Qc D ad base cyf X NW Ks q (as.map (pv_tr ad)).toArray) (pv_A base)
set_option maxHeartbeats 2000000 in
theorem sn_next (C : pv_Cx D ad base cyf X NW Ks p s m args meth c cc o nm nL ret) (hCL : pv_CL dft) (hLT : ∀ q ∈ LT, pv_LV tab NW q) (hW0 : pv_W0) (hSTR : pv_STR l D ad base cyf X NW Ks LT) {i : pv_I} {pc' : Nat} {ls' : pv_L} {st st' : List Value} {h' : pv_H} (hok : pv_ok LT o nm cc (pc, i)) (hs0 : s.heap.size = base + n0) (hn0 : n0 ≤ h.length) (hz0 : z0 ≤ pv_sz h) (hc1 : h'.length - n0 ≤ R.cells) (hc2 : pv_sz h' - z0 ≤ R.slots) (hf1 : 1 ≤ R.frames) (hf2 : 200 ≤ R.locals)
    (en : pv_next X dft ret i pc ls st h = some (.inl (pc', ls', st', h'))) (k : pv_Kt D ad base cyf p l e R s m args below meth c nL n0 z0 Q pc' ls' st' h') : pv_Kt D ad base cyf p l e R s m args below meth c nL n0 z0 Q pc ls st h := by
  obtain ⟨ins, len, i1, i2, i3, i4⟩ := i
  obtain ⟨hd, hok⟩ := hok
  cases ins
  case iadd  =>
    subst hok
    simp only [pv_next] at en
    split at en
    · cases en; exact sn_iadd C hd k
    · cases en
  case isub  =>
    subst hok
    simp only [pv_next] at en
    split at en
    · cases en; exact sn_isub C hd k
    · cases en
  case imul  =>
    subst hok
    simp only [pv_next] at en
    split at en
    · cases en; exact sn_imul C hd k
    · cases en
  case iand  =>
    subst hok
    simp only [pv_next] at en
    split at en
    · cases en; exact sn_iand C hd k
    · cases en
  case ior  =>
    subst hok
    simp only [pv_next] at en
    split at en
    · cases en; exact sn_ior C hd k
    · cases en
  case ixor  =>
    subst hok
    simp only [pv_next] at en
    split at en
    · cases en; exact sn_ixor C hd k
    · cases en
  case ishl  =>
    subst hok
    simp only [pv_next] at en
    split at en
    · cases en; exact sn_ishl C hd k
    · cases en
  case ishr  =>
    subst hok
    simp only [pv_next] at en
    split at en
    · cases en; exact sn_ishr C hd k
    · cases en
  case iushr  =>
    subst hok
    simp only [pv_next] at en
    split at en
    · cases en; exact sn_iushr C hd k
    · cases en
  case ineg  =>
    subst hok
    simp only [pv_next] at en
    split at en
    · cases en; exact sn_ineg C hd k
    · cases en
  case ladd  =>
    subst hok
    simp only [pv_next] at en
    split at en
    · cases en; exact sn_ladd C hd k
    · cases en
  case lsub  =>
    subst hok
    simp only [pv_next] at en
    split at en
    · cases en; exact sn_lsub C hd k
    · cases en
  case lmul  =>
    subst hok
    simp only [pv_next] at en
    split at en
    · cases en; exact sn_lmul C hd k
    · cases en
  case land  =>
    subst hok
    simp only [pv_next] at en
    split at en
    · cases en; exact sn_land C hd k
    · cases en
  case lor  =>
    subst hok
    simp only [pv_next] at en
    split at en
    · cases en; exact sn_lor C hd k
    · cases en
  case lshl  =>
    subst hok
    simp only [pv_next] at en
    split at en
    · cases en; exact sn_lshl C hd k
    · cases en
  case lshr  =>
    subst hok
    simp only [pv_next] at en
    split at en
    · cases en; exact sn_lshr C hd k
    · cases en
  case lushr  =>
    subst hok
    simp only [pv_next] at en
    split at en
    · cases en; exact sn_lushr C hd k
    · cases en
  case lcmp  =>
    subst hok
    simp only [pv_next] at en
    split at en
    · cases en; exact sn_lcmp C hd k
    · cases en
  case i2l  =>
    subst hok
    simp only [pv_next] at en
    split at en
    · cases en; exact sn_i2l C hd k
    · cases en
  case l2i  =>
    subst hok
    simp only [pv_next] at en
    split at en
    · cases en; exact sn_l2i C hd k
    · cases en
  case i2c  =>
    subst hok
    simp only [pv_next] at en
    split at en
    · cases en; exact sn_i2c C hd k
    · cases en
  case idiv  =>
    subst hok
    simp only [pv_next] at en
    split at en
    · split at en
      · cases en
      · rename_i hy; cases en; exact sn_idiv C hy hd k
    · cases en
  case irem  =>
    subst hok
    simp only [pv_next] at en
    split at en
    · split at en
      · cases en
      · rename_i hy; cases en; exact sn_irem C hy hd k
    · cases en
  case ldiv  =>
    subst hok
    simp only [pv_next] at en
    split at en
    · split at en
      · cases en
      · rename_i hy; cases en; exact sn_ldiv C hy hd k
    · cases en
  case lrem  =>
    subst hok
    simp only [pv_next] at en
    split at en
    · split at en
      · cases en
      · rename_i hy; cases en; exact sn_lrem C hy hd k
    · cases en
  case iconst n =>
    subst hok
    cases en
    exact sn_iconst C hd k
  case bipush n =>
    subst hok
    cases en
    exact sn_bipush C hd k
  case sipush n =>
    subst hok
    cases en
    exact sn_sipush C hd k
  case lconst n =>
    subst hok
    cases en
    exact sn_lconst C hd k
  case dup  =>
    subst hok
    simp only [pv_next] at en
    split at en
    · cases en; exact sn_dupI C hd k
    · cases en; exact sn_dupR C hd k
    · cases en
  case dup2  =>
    subst hok
    simp only [pv_next] at en
    split at en
    · cases en; exact sn_dup2I C hd k
    · cases en; exact sn_dup2R C hd k
    · cases en
  case pop  =>
    subst hok
    simp only [pv_next] at en
    split at en
    · cases en; exact sn_popI C hd k
    · cases en; exact sn_popR C hd k
    · cases en
  case ldc idx =>
    obtain ⟨rfl, hm⟩ := hok
    simp only [pv_next] at en
    split at en
    · rename_i h0; rw [if_pos h0] at hm; cases en; exact sn_ldc C ((hLT _ hm).2.2.2.2.2.2.1 rfl) hd k
    · rename_i h0; rw [if_neg h0] at hm; cases en; exact fun H locs lsA hR hS hL => hSTR p e R s m args below meth c cc o nL nm ret Q pc idx i1 H locs _ _ lsA _ C hm hd (k H locs lsA hR hS hL)
  case ldc_w idx =>
    obtain ⟨rfl, hm⟩ := hok
    cases en
    exact sn_ldcw C ((hLT _ hm).2.2.2.2.2.2.1 rfl) hd k
  case ldc2_w idx =>
    obtain ⟨rfl, hm⟩ := hok
    cases en
    exact sn_ldc2 C ((hLT _ hm).2.2.2.2.2.2.2 rfl) hd k
  case iload_n kk =>
    subst hok
    simp only [pv_next] at en
    split at en
    · rename_i hx; cases en; exact sn_iload_n C hx hd k
    · cases en
  case iload kk =>
    subst hok
    simp only [pv_next] at en
    split at en
    · rename_i hx; cases en; exact sn_iload C hx hd k
    · cases en
  case istore_n kk =>
    subst hok
    simp only [pv_next] at en
    split at en
    · obtain ⟨l9, hl9, e9⟩ := Option.map_eq_some_iff.mp en
      cases e9; exact sn_istore_n C hl9 hd k
    · cases en
  case istore kk =>
    subst hok
    simp only [pv_next] at en
    split at en
    · obtain ⟨l9, hl9, e9⟩ := Option.map_eq_some_iff.mp en
      cases e9; exact sn_istore C hl9 hd k
    · cases en
  case lload_n kk =>
    subst hok
    simp only [pv_next] at en
    split at en
    · rename_i hx; cases en; exact sn_lload_n C hx hd k
    · cases en
  case lload kk =>
    subst hok
    simp only [pv_next] at en
    split at en
    · rename_i hx; cases en; exact sn_lload C hx hd k
    · cases en
  case lstore_n kk =>
    subst hok
    simp only [pv_next] at en
    split at en
    · obtain ⟨l9, hl9, e9⟩ := Option.map_eq_some_iff.mp en
      cases e9; exact sn_lstore_n C hl9 hd k
    · cases en
  case lstore kk =>
    subst hok
    simp only [pv_next] at en
    split at en
    · obtain ⟨l9, hl9, e9⟩ := Option.map_eq_some_iff.mp en
      cases e9; exact sn_lstore C hl9 hd k
    · cases en
  case aload_n kk =>
    subst hok
    simp only [pv_next] at en
    split at en
    · rename_i hx; cases en; exact sn_aload_n C hx hd k
    · cases en
  case aload kk =>
    subst hok
    simp only [pv_next] at en
    split at en
    · rename_i hx; cases en; exact sn_aload C hx hd k
    · cases en
  case astore_n kk =>
    subst hok
    simp only [pv_next] at en
    split at en
    · obtain ⟨l9, hl9, e9⟩ := Option.map_eq_some_iff.mp en
      cases e9; exact sn_astore_n C hl9 hd k
    · cases en
  case astore kk =>
    subst hok
    simp only [pv_next] at en
    split at en
    · obtain ⟨l9, hl9, e9⟩ := Option.map_eq_some_iff.mp en
      cases e9; exact sn_astore C hl9 hd k
    · cases en
  case iinc kk n =>
    simp only [pv_next] at en
    split at en
    · rename_i hx
      obtain ⟨l9, hl9, e9⟩ := Option.map_eq_some_iff.mp en
      rcases hok with rfl | rfl
      · cases e9; exact sn_iinc C hx hl9 hd k
      · cases e9; exact sn_iincw C hx hl9 hd k
    · cases en
  case ifCond cnd off =>
    obtain ⟨ht, rfl⟩ := hok
    cases cnd
    case eq =>
      simp only [pv_next] at en
      split at en
      · unfold pv_if at en
        split at en
        · rename_i hc; cases en; exact sn_if_eq C ht hd (fun _ => k) (fun z => absurd hc z)
        · rename_i hc; cases en; exact sn_if_eq C ht hd (fun z => absurd z hc) (fun _ => k)
      · cases en
    case ne =>
      simp only [pv_next] at en
      split at en
      · unfold pv_if at en
        split at en
        · rename_i hc; cases en; exact sn_if_ne C ht hd (fun _ => k) (fun z => absurd hc z)
        · rename_i hc; cases en; exact sn_if_ne C ht hd (fun z => absurd z hc) (fun _ => k)
      · cases en
    case lt =>
      simp only [pv_next] at en
      split at en
      · unfold pv_if at en
        split at en
        · rename_i hc; cases en; exact sn_if_lt C ht hd (fun _ => k) (fun z => absurd hc z)
        · rename_i hc; cases en; exact sn_if_lt C ht hd (fun z => absurd z hc) (fun _ => k)
      · cases en
    case ge =>
      simp only [pv_next] at en
      split at en
      · unfold pv_if at en
        split at en
        · rename_i hc; cases en; exact sn_if_ge C ht hd (fun _ => k) (fun z => absurd hc z)
        · rename_i hc; cases en; exact sn_if_ge C ht hd (fun z => absurd z hc) (fun _ => k)
      · cases en
    case gt =>
      simp only [pv_next] at en
      split at en
      · unfold pv_if at en
        split at en
        · rename_i hc; cases en; exact sn_if_gt C ht hd (fun _ => k) (fun z => absurd hc z)
        · rename_i hc; cases en; exact sn_if_gt C ht hd (fun z => absurd z hc) (fun _ => k)
      · cases en
    case le =>
      simp only [pv_next] at en
      split at en
      · unfold pv_if at en
        split at en
        · rename_i hc; cases en; exact sn_if_le C ht hd (fun _ => k) (fun z => absurd hc z)
        · rename_i hc; cases en; exact sn_if_le C ht hd (fun z => absurd z hc) (fun _ => k)
      · cases en
  case if_icmp cnd off =>
    obtain ⟨ht, rfl⟩ := hok
    cases cnd
    case eq =>
      simp only [pv_next] at en
      split at en
      · unfold pv_if at en
        split at en
        · rename_i hc; cases en; exact sn_icmp_eq C ht hd (fun _ => k) (fun z => absurd hc z)
        · rename_i hc; cases en; exact sn_icmp_eq C ht hd (fun z => absurd z hc) (fun _ => k)
      · cases en
    case ne =>
      simp only [pv_next] at en
      split at en
      · unfold pv_if at en
        split at en
        · rename_i hc; cases en; exact sn_icmp_ne C ht hd (fun _ => k) (fun z => absurd hc z)
        · rename_i hc; cases en; exact sn_icmp_ne C ht hd (fun z => absurd z hc) (fun _ => k)
      · cases en
    case lt =>
      simp only [pv_next] at en
      split at en
      · unfold pv_if at en
        split at en
        · rename_i hc; cases en; exact sn_icmp_lt C ht hd (fun _ => k) (fun z => absurd hc z)
        · rename_i hc; cases en; exact sn_icmp_lt C ht hd (fun z => absurd z hc) (fun _ => k)
      · cases en
    case ge =>
      simp only [pv_next] at en
      split at en
      · unfold pv_if at en
        split at en
        · rename_i hc; cases en; exact sn_icmp_ge C ht hd (fun _ => k) (fun z => absurd hc z)
        · rename_i hc; cases en; exact sn_icmp_ge C ht hd (fun z => absurd z hc) (fun _ => k)
      · cases en
    case gt =>
      simp only [pv_next] at en
      split at en
      · unfold pv_if at en
        split at en
        · rename_i hc; cases en; exact sn_icmp_gt C ht hd (fun _ => k) (fun z => absurd hc z)
        · rename_i hc; cases en; exact sn_icmp_gt C ht hd (fun z => absurd z hc) (fun _ => k)
      · cases en
    case le =>
      simp only [pv_next] at en
      split at en
      · unfold pv_if at en
        split at en
        · rename_i hc; cases en; exact sn_icmp_le C ht hd (fun _ => k) (fun z => absurd hc z)
        · rename_i hc; cases en; exact sn_icmp_le C ht hd (fun z => absurd z hc) (fun _ => k)
      · cases en
  case goto off =>
    obtain ⟨ht, rfl⟩ := hok
    cases en
    exact sn_goto C ht hd k
  case tableswitch d lo hi offs =>
    simp only [pv_next] at en
    split at en
    · obtain ⟨q9, hq9, e9⟩ := Option.map_eq_some_iff.mp en
      cases e9; exact sn_table C hq9 hd k
    · cases en
  case lookupswitch d ps =>
    simp only [pv_next] at en
    split at en
    · obtain ⟨q9, hq9, e9⟩ := Option.map_eq_some_iff.mp en
      cases e9; exact sn_lookup C hq9 hd k
    · cases en
  case getfield idx =>
    obtain ⟨rfl, hm⟩ := hok
    obtain ⟨CC, TT, N, ty, g1, g2, g3, g4, g5⟩ := (hLT _ hm).1 rfl
    simp only [pv_next] at en
    split at en
    · split at en
      · obtain ⟨x9, hx9, e9⟩ := Option.map_eq_some_iff.mp en
        cases e9; exact sn_get C hCL g1 g2 g3 (pv_fI_ok hx9) hd k
      · split at en
        · obtain ⟨x9, hx9, e9⟩ := Option.map_eq_some_iff.mp en
          cases e9; exact sn_get C hCL g1 g2 g3 (pv_fJ_ok hx9) hd k
        · obtain ⟨x9, hx9, e9⟩ := Option.map_eq_some_iff.mp en
          cases e9; exact sn_get C hCL g1 g2 g3 (pv_fR_ok hx9) hd k
    · cases en
  case putfield idx =>
    obtain ⟨rfl, hm, hfin⟩ := hok
    obtain ⟨CC, TT, N, ty, g1, g2, g3, g4, g5⟩ := (hLT _ hm).1 rfl
    simp only [pv_next] at en
    split at en
    · split at en
      · rename_i hft
        obtain ⟨x9, hx9, e9⟩ := Option.map_eq_some_iff.mp en
        cases e9; exact sn_put C hCL g1 g2 g3 g4 (by rw [g5]; exact hft) (hfin _ _ _ g1) hx9 hd k
      · cases en
    · cases en
  case iaload  =>
    subst hok
    simp only [pv_next] at en
    split at en
    · rename_i ix ax tx
      obtain ⟨x9, hx9, e9⟩ := Option.map_eq_some_iff.mp en
      cases e9
      unfold pv_aX at hx9
      split at hx9
      · rename_i hsc
        split at hx9
        · rename_i hin
          subst hsc
          cases hx9; exact sn_sald C hin hd k
        · cases hx9
      · exact sn_iald C hx9 hd k
    · cases en
  case caload  =>
    subst hok
    simp only [pv_next] at en
    split at en
    · obtain ⟨x9, hx9, e9⟩ := Option.map_eq_some_iff.mp en
      cases e9; exact sn_cald C hx9 hd k
    · cases en
  case baload  =>
    subst hok
    simp only [pv_next] at en
    split at en
    · obtain ⟨x9, hx9, e9⟩ := Option.map_eq_some_iff.mp en
      cases e9; exact sn_zald C hx9 hd k
    · cases en
  case laload  =>
    subst hok
    simp only [pv_next] at en
    split at en
    · obtain ⟨x9, hx9, e9⟩ := Option.map_eq_some_iff.mp en
      cases e9; exact sn_lald C hx9 hd k
    · cases en
  case aaload  =>
    subst hok
    simp only [pv_next] at en
    split at en
    · obtain ⟨x9, hx9, e9⟩ := Option.map_eq_some_iff.mp en
      cases e9; exact sn_aald C hx9 hd k
    · cases en
  case iastore  =>
    subst hok
    simp only [pv_next] at en
    split at en
    · obtain ⟨x9, hx9, e9⟩ := Option.map_eq_some_iff.mp en
      cases e9; exact sn_iast C hx9 hd k
    · cases en
  case castore  =>
    subst hok
    simp only [pv_next] at en
    split at en
    · obtain ⟨x9, hx9, e9⟩ := Option.map_eq_some_iff.mp en
      cases e9; exact sn_cast C hx9 hd k
    · cases en
  case bastore  =>
    subst hok
    simp only [pv_next] at en
    split at en
    · obtain ⟨x9, hx9, e9⟩ := Option.map_eq_some_iff.mp en
      cases e9; exact sn_zast C hx9 hd k
    · cases en
  case lastore  =>
    subst hok
    simp only [pv_next] at en
    split at en
    · obtain ⟨x9, hx9, e9⟩ := Option.map_eq_some_iff.mp en
      cases e9; exact sn_last C hx9 hd k
    · cases en
  case aastore  =>
    subst hok
    simp only [pv_next] at en
    split at en
    · obtain ⟨x9, hx9, e9⟩ := Option.map_eq_some_iff.mp en
      cases e9; exact sn_aast C hx9 hd k
    · cases en
  case arraylength  =>
    subst hok
    simp only [pv_next] at en
    split at en
    · obtain ⟨x9, hx9, e9⟩ := Option.map_eq_some_iff.mp en
      cases e9
      unfold pv_len at hx9
      split at hx9
      · rename_i hsc
        subst hsc
        cases hx9; exact sn_slen C hd k
      · split at hx9
        · rename_i hh
          split at hx9
          · rename_i h6
            cases hx9; exact sn_alen C hh h6 hd k
          · cases hx9
        · cases hx9
    · cases en
  case newarray ty =>
    obtain ⟨rfl, rfl⟩ := hok
    simp only [pv_next] at en
    split at en
    · obtain ⟨x9, hx9, e9⟩ := Option.map_eq_some_iff.mp en
      cases e9
      split at hx9
      · rename_i h4
        exact sn_newa C h4 hs0 hn0 hz0 hc1 hc2 (hW0.2.2 _ h4) hx9 hd k
      · cases hx9
    · cases en
  case anewarray idx =>
    obtain ⟨rfl, hm⟩ := hok
    simp only [pv_next] at en
    split at en
    · obtain ⟨x9, hx9, e9⟩ := Option.map_eq_some_iff.mp en
      cases e9
      split at hx9
      · rename_i h4
        exact sn_newq C h4 hs0 hn0 hz0 hc1 hc2 ((hLT _ hm).2.2.2.2.2.1 rfl) hx9 hd k
      · cases hx9
    · cases en
  case new idx =>
    obtain ⟨rfl, hm⟩ := hok
    obtain ⟨CC, TT, N, g1, g2, g3, g4⟩ := (hLT _ hm).2.2.2.2.1 rfl
    simp only [pv_next] at en
    obtain ⟨x9, hx9, e9⟩ := Option.map_eq_some_iff.mp en
    cases e9
    exact sn_new C hCL hs0 hn0 hz0 hc1 hc2 g1 g2 g3 g4 hx9 hd k
  case invokestatic idx =>
    obtain ⟨rfl, hm, -⟩ := hok
    simp only [pv_next] at en
    split at en
    · rename_i h9
      subst h9
      split at en
      · split at en
        · rename_i hcat
          obtain ⟨x9, hx9, e9⟩ := Option.map_eq_some_iff.mp en
          cases e9; exact sn_copy C hf1 hf2 ((hLT _ hm).2.2.2.1 rfl) hW0.1 hcat hx9 hd k
        · cases en
      · cases en
    · exact absurd en (fun z => pm_inv z)
  case invokespecial idx =>
    obtain ⟨rfl, hm, -⟩ := hok
    simp only [pv_next] at en
    split at en
    · rename_i h9
      subst h9
      split at en
      · split at en
        · rename_i hcat
          cases en; exact sn_oinit C hf1 hf2 ((hLT _ hm).2.2.1 rfl) hW0.2.1 hcat hd k
        · cases en
      · cases en
    · exact absurd en (fun z => pm_inv z)
  case invokevirtual idx =>
    exact absurd en (fun z => pm_inv z)
  case ireturn  =>
    simp only [pv_next] at en
    (repeat' split at en) <;> cases en
  case return_  =>
    simp only [pv_next] at en
    (repeat' split at en) <;> cases en
  all_goals (cases en; done)
end PVS4
