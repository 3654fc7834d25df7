/-! The JDK's own methods on the String constants. -/
def txt (i : Nat) : List Nat := pv_txt.getD i []
theorem txt_8 (i : Nat) : (txt i).length ≤ 8 := by
  by_cases hi : i < 21
  · have : ∀ i, i < 21 → (txt i).length ≤ 8 := by decide
    exact this i hi
  · unfold txt
    rw [List.getD_eq_getElem?_getD, List.getElem?_eq_none (show pv_txt.length ≤ i from Nat.not_lt.mp hi)]
    decide
theorem j_short (i : Nat) : (txt i).length < 2 ^ 31 := by
  have := txt_8 i
  omega
/-- words of the throw that aren't kept by their form alone -/
def nsB : List Cond := [.declares ⟨"java/lang/RuntimeException", "<init>", "()V"⟩, .declares ⟨"java/lang/Exception", "<init>", "()V"⟩, .declares ⟨"java/lang/Throwable", "<init>", "()V"⟩, .castable "java/util/NoSuchElementException" "java/util/NoSuchElementException"]
theorem nsB_mv {s U : State} (hA : s.vm.Alike U.vm) (h : ∀ w ∈ nsB, w.before #[] s = true) : ∀ w ∈ nsB, w.before #[] U = true := by
  have h1 := h (.declares ⟨"java/lang/RuntimeException", "<init>", "()V"⟩) (by simp [nsB])
  have h2 := h (.declares ⟨"java/lang/Exception", "<init>", "()V"⟩) (by simp [nsB])
  have h3 := h (.declares ⟨"java/lang/Throwable", "<init>", "()V"⟩) (by simp [nsB])
  have h4 := h (.castable "java/util/NoSuchElementException" "java/util/NoSuchElementException") (by simp [nsB])
  rw [← Cond.declares_setVm hA] at h1 h2 h3
  rw [← Cond.castable_setVm hA] at h4
  intro w hw
  simp only [nsB, List.mem_cons, List.not_mem_nil, or_false] at hw
  rcases hw with rfl | rfl | rfl | rfl
  · exact va_tabs (u := s.setVm U.vm) rfl rfl h1
  · exact va_tabs (u := s.setVm U.vm) rfl rfl h2
  · exact va_tabs (u := s.setVm U.vm) rfl rfl h3
  · exact va_tabs (u := s.setVm U.vm) rfl rfl h4
theorem nsB_ar {s : State} {args : Array Value} (h : ∀ w ∈ nsB, w.before #[] s = true) : ∀ w ∈ nsB, w.before args s = true := by
  intro w hw
  have h1 := h w hw
  simp only [nsB, List.mem_cons, List.not_mem_nil, or_false] at hw
  rcases hw with rfl | rfl | rfl | rfl
  · exact va_tabs (u := s) rfl rfl h1
  · exact va_tabs (u := s) rfl rfl h1
  · exact va_tabs (u := s) rfl rfl h1
  · exact va_tabs (u := s) rfl rfl h1
def KSt (ad : Nat → Nat) (base : Nat) (fv : Value) (U : State) : Prop :=
  (∀ i, i < 21 → va_O "java/lang/String" (ad (pv_scr + 1 + i)) (pv_A base) U U.heap ∧ va_OF "java/lang/String" "coder" "B" (.int 0) (ad (pv_scr + 1 + i)) (pv_A base) U U.heap ∧ va_OF "java/lang/String" "value" "[B" (.ref (ad (pv_scr + 101 + i))) (ad (pv_scr + 1 + i)) (pv_A base) U U.heap ∧ va_T .byte (ad (pv_scr + 101 + i)) (txt i).length (fun j => .int (nI ((txt i).getD j 0))) (pv_A base) U U.heap) ∧
  (∀ q ∈ pv_LT, q.2.2.1 = 14 → ∃ tx, vk_R (pv_own q.1) q.2.1 tx (ad (pv_scr + 1 + q.2.2.2.1)) U) ∧
  va_Z "java/lang/String" "COMPACT_STRINGS" "Z" (.int 1) (pv_A base) U U.heap ∧
  va_Z "jdk/internal/util/Preconditions" "SIOOBE_FORMATTER" "Ljava/util/function/BiFunction;" (pv_tr ad fv) (pv_A base) U U.heap ∧
  vx_Zq Bundle.tN "UNASSIGNED_STACK" Bundle.steD (pv_A base) U U.heap ∧ vx_Zq Bundle.tN "SUPPRESSED_SENTINEL" Bundle.listD (pv_A base) U U.heap ∧ ∀ w ∈ nsB, w.before #[] U = true
theorem KSt_ok (ad : Nat → Nat) (base : Nat) (fv : Value) : pv_KsOK base (KSt ad base fv) := by
  intro s U hW hh h1 h2 h
  have hq : ∀ a : Nat, a < s.heap.size → ¬ pv_A base a → U.heap[a]? = s.heap[a]? := fun a _ hn => hh a (Nat.not_le.mp hn)
  obtain ⟨k1, k2, k3, k4, k5, k6, k7⟩ := h
  refine ⟨fun i hi => ?_, fun q hm hk => ?_, (va_Z.moved hW.alike k3).kept hq, (va_Z.moved hW.alike k4).kept hq, (vx_Zq.moved hW.alike k5).kept hq, (vx_Zq.moved hW.alike k6).kept hq, nsB_mv hW.alike k7⟩
  · obtain ⟨j1, j2, j3, j4⟩ := k1 i hi
    exact ⟨(va_O.moved hW.alike j1).kept hq, (va_OF.moved hW.alike j2).kept hq, (va_OF.moved hW.alike j3).kept hq, (va_T.moved hW.alike j4).kept hq⟩
  · obtain ⟨tx, j⟩ := k2 q hm hk
    exact ⟨tx, vk_R.warm hW j⟩
section JDK
variable {D : va_G} {ad : Nat → Nat} {base : Nat} {cyf : Nat → ClassId} {X : pv_X} {NW : List (String × Nat × MethodName × String)} {fv : Value} {p : Program} {l : Launch} {e : Env} {R : Room} {s : State} {m : MethodId} {args : Array Value} {below : List Frame} {meth : Method} {c : Code} {cc : ByteArray} {o nL n0 z0 : Nat} {nm : String} {ret : Option FieldType} {Q : State → Prop} {pc : Nat} {ls : pv_L} {t : List Value} {h : pv_H}
theorem KSt_str : pv_STR l D ad base cyf X NW (KSt ad base fv) pv_LT := by
  intro p e R s m args below meth c cc o nL nm ret Q pc idx i1 H locs cells slots lsA st C hm hd k
  have hK : KSt ad base fv s := C.2.2.2.2.2.2.2.2.1.2.2.2.2.2.2
  obtain ⟨tx, hZ⟩ := hK.2.1 _ hm rfl
  exact va_ldcS C.1 C.2.1 C.2.2.2.1 hZ hd k
theorem j_K (C : pv_Cx D ad base cyf X NW (KSt ad base fv) p s m args meth c cc o nm nL ret) : KSt ad base fv s := C.2.2.2.2.2.2.2.2.1.2.2.2.2.2.2
theorem sn_i2b (C : pv_Cx D ad base cyf X NW (KSt ad base fv) p s m args meth c cc o nm nL ret) {x : Int32} (hd : decode cc pc = .ok (.i2b, 1)) (k : pv_Kt D ad base cyf p l e R s m args below meth c nL n0 z0 Q (pc + 1) ls (.int x.toInt8.toInt32 :: t) h) : pv_Kt D ad base cyf p l e R s m args below meth c nL n0 z0 Q pc ls (.int x :: t) h := fun H locs lsA hR hS hL => lv_i2b C.1 C.2.1 hd rfl (k H locs lsA hR hS hL)
theorem j_coder (C : pv_Cx D ad base cyf X NW (KSt ad base fv) p s m args meth c cc 16 nm nL ret) {i : Nat} (hi : i < 21) (hd : decode cc pc = .ok (.getfield 15, 3)) (k : pv_Kt D ad base cyf p l e R s m args below meth c nL n0 z0 Q (pc + 3) ls (.int 0 :: t) h) : pv_Kt D ad base cyf p l e R s m args below meth c nL n0 z0 Q pc ls (.ref (pv_scr + 1 + i) :: t) h :=
  fun H locs lsA hR hS hL => vk_getf C.1 C.2.1 ((j_K C).1 i hi).2.1 hS C.2.2.2.1 (C.2.2.2.2.1 (Cond.fieldLink "java/lang/String" 15 "java/lang/String" "coder" "B") (pv_G_in (by decide +kernel) (by decide +kernel))) (fun _ z => z) hd (k H locs lsA hR hS hL)
theorem j_value (C : pv_Cx D ad base cyf X NW (KSt ad base fv) p s m args meth c cc 16 nm nL ret) {i : Nat} (hi : i < 21) (hd : decode cc pc = .ok (.getfield 9, 3)) (k : pv_Kt D ad base cyf p l e R s m args below meth c nL n0 z0 Q (pc + 3) ls (.ref (pv_scr + 101 + i) :: t) h) : pv_Kt D ad base cyf p l e R s m args below meth c nL n0 z0 Q pc ls (.ref (pv_scr + 1 + i) :: t) h :=
  fun H locs lsA hR hS hL => vk_getf C.1 C.2.1 ((j_K C).1 i hi).2.2.1 hS C.2.2.2.1 (C.2.2.2.2.1 (Cond.fieldLink "java/lang/String" 9 "java/lang/String" "value" "[B") (pv_G_in (by decide +kernel) (by decide +kernel))) (fun _ z => z) hd (k H locs lsA hR hS hL)
theorem j_compact (C : pv_Cx D ad base cyf X NW (KSt ad base fv) p s m args meth c cc 16 nm nL ret) (hd : decode cc pc = .ok (.getstatic 38, 3)) (k : pv_Kt D ad base cyf p l e R s m args below meth c nL n0 z0 Q (pc + 3) ls (.int 1 :: t) h) : pv_Kt D ad base cyf p l e R s m args below meth c nL n0 z0 Q pc ls t h :=
  fun H locs lsA hR hS hL => va_gets C.1 C.2.1 (j_K C).2.2.1 hS C.2.2.2.1 (C.2.2.2.2.1 (Cond.fieldLink "java/lang/String" 38 "java/lang/String" "COMPACT_STRINGS" "Z") (pv_G_in (by decide +kernel) (by decide +kernel))) (fun _ z => z) hd (k H locs lsA hR hS hL)
theorem j_form (C : pv_Cx D ad base cyf X NW (KSt ad base fv) p s m args meth c cc 16 nm nL ret) (hd : decode cc pc = .ok (.getstatic 1053, 3)) (k : pv_Kt D ad base cyf p l e R s m args below meth c nL n0 z0 Q (pc + 3) ls (fv :: t) h) : pv_Kt D ad base cyf p l e R s m args below meth c nL n0 z0 Q pc ls t h :=
  fun H locs lsA hR hS hL => va_gets C.1 C.2.1 (j_K C).2.2.2.1 hS C.2.2.2.1 (C.2.2.2.2.1 (Cond.fieldLink "java/lang/String" 1053 "jdk/internal/util/Preconditions" "SIOOBE_FORMATTER" "Ljava/util/function/BiFunction;") (pv_G_in (by decide +kernel) (by decide +kernel))) (fun _ z => z) hd (k H locs lsA hR hS hL)
theorem j_len (C : pv_Cx D ad base cyf X NW (KSt ad base fv) p s m args meth c cc o nm nL ret) {i : Nat} (hi : i < 21) (hd : decode cc pc = .ok (.arraylength, 1)) (k : pv_Kt D ad base cyf p l e R s m args below meth c nL n0 z0 Q (pc + 1) ls (.int (nI (txt i).length) :: t) h) : pv_Kt D ad base cyf p l e R s m args below meth c nL n0 z0 Q pc ls (.ref (pv_scr + 101 + i) :: t) h :=
  fun H locs lsA hR hS hL => va_tlen C.1 C.2.1 ((j_K C).1 i hi).2.2.2 hS rfl hd (k H locs lsA hR hS hL)
theorem j_byte (C : pv_Cx D ad base cyf X NW (KSt ad base fv) p s m args meth c cc o nm nL ret) {i j : Nat} (hi : i < 21) (hj : j < (txt i).length) (hd : decode cc pc = .ok (.baload, 1)) (k : pv_Kt D ad base cyf p l e R s m args below meth c nL n0 z0 Q (pc + 1) ls (.int (nI ((txt i).getD j 0)) :: t) h) : pv_Kt D ad base cyf p l e R s m args below meth c nL n0 z0 Q pc ls (.int (nI j) :: .ref (pv_scr + 101 + i) :: t) h :=
  fun H locs lsA hR hS hL => va_tb C.1 C.2.1 ((j_K C).1 i hi).2.2.2 hS (vp_in_nI hj (j_short i)) (by rw [nI_clamp (by have := j_short i; omega)]; rfl) hd (k H locs lsA hR hS hL)
/-- a contract of a JDK method, out of a walk -/
theorem jCt {M : pv_M} {r : Nat} {as : List Value} {q : pv_O} (ho : pv_own o = M.1.cls) (hy : plainFor M.1 = true) (hAd : ∀ k, k < pv_scr → ad k = base + k) (hsl : (pv_sl as).length ≤ M.2.2.1)
    (body : ∀ (p : Program) (e : Env) (R : Room) (s : State) (m : MethodId) (args : Array Value) (below : List Frame) (meth : Method) (c : Code), pv_Cx D ad base cyf X NW (KSt ad base fv) p s m args meth c M.2.1 o M.1.name M.2.2.1 M.2.2.2.1 → s.heap.size = base + h.length → r ≤ R.frames → r * 200 ≤ R.locals → R.cells = q.2.length - h.length → R.slots = pv_sz q.2 - pv_sz h → pv_Kt D ad base cyf p l e R s m args below meth c M.2.2.1 h.length (pv_sz h) (MQ below (pv_Qc D ad base cyf X NW (KSt ad base fv) q) args s (q.2.length - h.length) (pv_sz q.2 - pv_sz h) (pv_A base)) 0 (pv_ent M.2.2.1 as) [] h) : pv_Ct l D ad base cyf X NW (KSt ad base fv) M r as h q := by
  refine pv_ofW (cc := M.2.1) (maxL := M.2.2.1) (ret := M.2.2.2.1) hy rfl ?_
  intro p2 e2 s2 m2 args2 below2 meth2 c2 s₁ B hml2 hv2
  obtain ⟨rfl, hR2', hz2, hK2⟩ := hv2
  have hts := atoms_spec (ws := Cond.code M.1 M.2.1 M.2.2.1 M.2.2.2.1 :: pv_G) B.pre
  have hown : s2.vm.findClass M.1.cls = some m2.cls := findClass_of_methodNamed B.named
  have C2 : pv_Cx D ad base cyf X NW (KSt ad base fv) p2 s2 m2 (as.map (pv_tr ad)).toArray meth2 c2 M.2.1 o M.1.name M.2.2.1 M.2.2.2.1 := ⟨B.exec, B.bytes, hml2, by rw [ho]; exact hown, fun w hw => hts w (List.mem_cons_of_mem _ hw), B.returns, B.notSynchronized, (name_of_methodNamed B.named B.method).1, hK2, hAd⟩
  have hw := body p2 e2 ((headSpec (Cond.code M.1 M.2.1 M.2.2.1 M.2.2.2.1 :: pv_G) ({ frames := r, cells := q.2.length - h.length, slots := pv_sz q.2 - pv_sz h, locals := r * 200 })).room) s2 m2 (as.map (pv_tr ad)).toArray below2 meth2 c2 C2 hz2 (Nat.le_refl _) (Nat.le_refl _) rfl rfl
  have := hw s2.heap [] _ hR2' va_S.rf (pv_ent_ok hsl)
  rw [Nat.sub_self, Nat.sub_self] at this
  rw [lg_entry_eq]
  exact this
/-- the end of a method that keeps the heap -/
theorem j_ret (C : pv_Cx D ad base cyf X NW (KSt ad base fv) p s m args meth c cc o nm nL ret) {v : Int32} {ty : FieldType} (hs0 : s.heap.size = base + h.length) (hr : ret = some ty) (hn : narrow ty (.int v) = .int v) (hd : decode cc pc = .ok (.ireturn, 1)) : pv_Kt D ad base cyf p l e R s m args below meth c nL h.length (pv_sz h) (MQ below (pv_Qc D ad base cyf X NW (KSt ad base fv) (some (.int v), h)) args s (h.length - h.length) (pv_sz h - pv_sz h) (pv_A base)) pc ls [.int v] h := by
  intro H locs lsA hR hS hL
  refine pv_sized hR hS hs0 (Nat.le_refl _) (fun hz => ?_)
  have hq : ∀ t : State, t.heap = H → s.WarmedH t.vm → pv_Qc D ad base cyf X NW (KSt ad base fv) (some (.int v), h) args s (.returned (some (.int v))) t := fun t ht hW => ⟨rfl, ⟨by rw [ht]; exact hR, by rw [ht]; exact hz, pv_K_move (KSt_ok ad base fv) hW (fun x hx => by rw [ht]; exact hS.2.1 x (Nat.lt_of_lt_of_le hx C.2.2.2.2.2.2.2.2.1.2.2.2.2.2.1) (fun z => by have : base ≤ x := z; omega)) (by rw [ht, hz]; omega) C.2.2.2.2.2.2.2.2.1⟩, hS.F ht⟩
  have hlk := C.2.2.2.2.2.2.1
  subst hr
  exact W.zret C.1 C.2.1 C.2.2.2.2.2.1 hn hq hS.2.2 hd
theorem j_vret (C : pv_Cx D ad base cyf X NW (KSt ad base fv) p s m args meth c cc o nm nL none) (hs0 : s.heap.size = base + h.length) (hd : decode cc pc = .ok (.return_, 1)) : pv_Kt D ad base cyf p l e R s m args below meth c nL h.length (pv_sz h) (MQ below (pv_Qc D ad base cyf X NW (KSt ad base fv) (none, h)) args s (h.length - h.length) (pv_sz h - pv_sz h) (pv_A base)) pc ls [] h := by
  intro H locs lsA hR hS hL
  refine pv_sized hR hS hs0 (Nat.le_refl _) (fun hz => ?_)
  have hlk := C.2.2.2.2.2.2.1
  exact W.vret C.1 C.2.1 C.2.2.2.2.2.1 (fun t ht hW => ⟨rfl, ⟨by rw [ht]; exact hR, by rw [ht]; exact hz, pv_K_move (KSt_ok ad base fv) hW (fun x hx => by rw [ht]; exact hS.2.1 x (Nat.lt_of_lt_of_le hx C.2.2.2.2.2.2.2.2.1.2.2.2.2.2.1) (fun z => by have : base ≤ x := z; omega)) (by rw [ht, hz]; omega) C.2.2.2.2.2.2.2.2.1⟩, hS.F ht⟩) hS.2.2 hd
/-- what the tables say of a call -/
def j_W (o idx n : Nat) (M : pv_M) : Prop := Cond.code M.1 M.2.1 M.2.2.1 M.2.2.2.1 ∈ pv_G ∧ Cond.initialized M.1.cls ∈ pv_G ∧ (M.1.cls ≠ "java/lang/invoke/MethodHandle" ∧ M.1.cls ≠ "java/lang/invoke/VarHandle" ∧ (parseMethodDescriptor M.1.desc).map (fun d => d.parameters.length) = some n) ∧ Cond.methodLink (pv_own o) idx M.1 ∈ pv_G ∧ M.2.2.1 ≤ 100
theorem j_Pc (C : pv_Cx D ad base cyf X NW (KSt ad base fv) p s m args meth c cc o nm nL ret) {H : Heap} {locs : List Loc} {as : List Value} (hR : pv_Rel D ad base cyf h H) (hz : H.size = base + h.length) (hS : va_S (pv_A base) s.heap H locs) : ∀ U : State, U.heap = H → s.WarmedH U.vm → va_Pc (as.map (pv_tr ad)) (pv_RU D ad base cyf X NW (KSt ad base fv) h) (as.map (pv_tr ad)).toArray U := by
  intro U hU hW
  refine ⟨rfl, by rw [hU]; exact hR, by rw [hU]; exact hz, pv_K_move (U := U) (KSt_ok ad base fv) hW (fun x hx => ?_) (by rw [hU, hz]; omega) C.2.2.2.2.2.2.2.2.1⟩
  rw [hU]
  exact hS.2.1 x (Nat.lt_of_lt_of_le hx C.2.2.2.2.2.2.2.2.1.2.2.2.2.2.1) (fun z => by have : base ≤ x := z; omega)
theorem j_runS (C : pv_Cx D ad base cyf X NW (KSt ad base fv) p s m args meth c cc o nm nL ret) {H : Heap} {locs : List Loc} {lsA : Array Slot} {as rest : List Value} {q : pv_O} {M : pv_M} {r idx n : Nat} (hw : j_W o idx n M) (hst : Cond.static M.1 ∈ pv_G) (hct : pv_Ct l D ad base cyf X NW (KSt ad base fv) M r as h q) (hR1 : r + 1 ≤ R.frames) (hR2 : (r + 1) * 200 ≤ R.locals)
    (hc1 : h.length - n0 + (q.2.length - h.length) ≤ R.cells) (hc2 : pv_sz h - z0 + (pv_sz q.2 - pv_sz h) ≤ R.slots) (hR : pv_Rel D ad base cyf h H) (hz : H.size = base + h.length) (hS : va_S (pv_A base) s.heap H locs) (hL : pv_ls ad lsA nL ls) (hlen : as.length = n) (hcat : (rest.map fun v => v.category).sum ≤ 8) (hd : decode cc pc = .ok (.invokestatic idx, 3)) :
    va_Run p l e R s m args below meth c H locs (h.length - n0) (pv_sz h - z0) (q.2.length - h.length) (pv_sz q.2 - pv_sz h) (F0 m pc lsA ((as.reverse ++ rest).map (pv_tr ad))) (rest.map (pv_tr ad)) (pv_Qc D ad base cyf X NW (KSt ad base fv) q (as.map (pv_tr ad)).toArray) (pv_A base) := by
  obtain ⟨hcode, hini, hdd, hl1, hM⟩ := hw
  have hG := pv_G_good hcode
  have hts := C.2.2.2.2.1
  have hFix : CallFix p m c cc nL s args pv_G (pv_own o) := ⟨C.1, C.2.1, C.2.2.1, C.2.2.2.1, hts⟩
  have hroom : r + 1 ≤ R.frames ∧ 8 + (M.2.2.1 + 11) + r * 200 ≤ R.locals := ⟨by omega, by omega⟩
  have hstk : ((as.reverse ++ rest).map (pv_tr ad)) = (as.map (pv_tr ad)).reverse ++ rest.map (pv_tr ad) := by simp
  have hcat' := lv_room (m := m) (pc := pc) (ls := lsA) (rest := ((as.reverse ++ rest).map (pv_tr ad))) (st := rest.map (pv_tr ad)) (by rw [pv_cats]; exact hcat)
  have hbl := pv_blind (D := D) (ad := ad) (cyf := cyf) (X := X) (NW := NW) (h := h) (KSt_ok ad base fv) (as.map (pv_tr ad))
  exact va_runS (As := as.map (pv_tr ad)) (n := n) hFix hct ⟨callB_of n hts hG rfl rfl rfl (hts _ hini) (hts _ hl1) hdd hroom, hts _ hst⟩ ⟨hbl, j_Pc C hR hz hS⟩ rfl (by simp; omega) hL.1 hstk hcat' hd ⟨hc1, hc2⟩
theorem j_runV (C : pv_Cx D ad base cyf X NW (KSt ad base fv) p s m args meth c cc o nm nL ret) {H : Heap} {locs : List Loc} {lsA : Array Slot} {i : Nat} {as rest : List Value} {q : pv_O} {M : pv_M} {r idx n : Nat} (hi : i < 21) (hw : j_W o idx n M) (hcls : M.1.cls = "java/lang/String") (hin : Cond.instanceMethod M.1 ∈ pv_G) (hse : Cond.selects M.1.cls M.1 M.1 ∈ pv_G) (hct : pv_Ct l D ad base cyf X NW (KSt ad base fv) M r (.ref (pv_scr + 1 + i) :: as) h q) (hR1 : r + 1 ≤ R.frames) (hR2 : (r + 1) * 200 ≤ R.locals)
    (hc1 : h.length - n0 + (q.2.length - h.length) ≤ R.cells) (hc2 : pv_sz h - z0 + (pv_sz q.2 - pv_sz h) ≤ R.slots) (hR : pv_Rel D ad base cyf h H) (hz : H.size = base + h.length) (hS : va_S (pv_A base) s.heap H locs) (hL : pv_ls ad lsA nL ls) (hlen : as.length = n) (hcat : (rest.map fun v => v.category).sum ≤ 8) (hd : decode cc pc = .ok (.invokevirtual idx, 3)) :
    va_Run p l e R s m args below meth c H locs (h.length - n0) (pv_sz h - z0) (q.2.length - h.length) (pv_sz q.2 - pv_sz h) (F0 m pc lsA (((.ref (pv_scr + 1 + i) :: as).reverse ++ rest).map (pv_tr ad))) (rest.map (pv_tr ad)) (pv_Qc D ad base cyf X NW (KSt ad base fv) q ((Value.ref (pv_scr + 1 + i) :: as).map (pv_tr ad)).toArray) (pv_A base) := by
  obtain ⟨hcode, hini, hdd, hl1, hM⟩ := hw
  have hG := pv_G_good hcode
  have hts := C.2.2.2.2.1
  have hFix : CallFix p m c cc nL s args pv_G (pv_own o) := ⟨C.1, C.2.1, C.2.2.1, C.2.2.2.1, hts⟩
  have hroom : r + 1 ≤ R.frames ∧ 8 + (M.2.2.1 + 11) + r * 200 ≤ R.locals := ⟨by omega, by omega⟩
  have hcat' := lv_room (m := m) (pc := pc) (ls := lsA) (rest := (((.ref (pv_scr + 1 + i) :: as).reverse ++ rest).map (pv_tr ad))) (st := rest.map (pv_tr ad)) (by rw [pv_cats]; exact hcat)
  have hbl := pv_blind (D := D) (ad := ad) (cyf := cyf) (X := X) (NW := NW) (h := h) (KSt_ok ad base fv) ((Value.ref (pv_scr + 1 + i) :: as).map (pv_tr ad))
  have hPV : PreV s H M.1.cls (ad (pv_scr + 1 + i)) (va_Pc ((Value.ref (pv_scr + 1 + i) :: as).map (pv_tr ad)) (pv_RU D ad base cyf X NW (KSt ad base fv) h)) (as.map (pv_tr ad)) := by
    refine ⟨hbl, ?_, j_Pc C hR hz hS⟩
    obtain ⟨cell, h1, h2, h3, -⟩ := ((j_K C).1 i hi).1.kept hS.2.1
    rw [hcls]
    exact ⟨cell, h1, h2, h3⟩
  have hstk' : ((Value.ref (pv_scr + 1 + i) :: as).reverse ++ rest).map (pv_tr ad) = (as.map (pv_tr ad)).reverse ++ .ref (ad (pv_scr + 1 + i)) :: rest.map (pv_tr ad) := by simp [pv_tr]
  exact va_runV (As := as.map (pv_tr ad)) (C := M.1.cls) (n := n) hFix hct ⟨callB_of n hts hG rfl rfl rfl (hts _ hini) (hts _ hl1) hdd hroom, hts _ hin, hts _ hse⟩ hPV rfl (by simp; omega) hL.1 hstk' hcat' hd ⟨hc1, hc2⟩
/-- calls within a JDK method: the heap stays -/
theorem jS (C : pv_Cx D ad base cyf X NW (KSt ad base fv) p s m args meth c cc o nm nL ret) {as rest : List Value} {a : Option Value} {M : pv_M} {r idx n : Nat} (hs0 : s.heap.size = base + h.length) (hw : j_W o idx n M) (hst : Cond.static M.1 ∈ pv_G) (hct : pv_Ct l D ad base cyf X NW (KSt ad base fv) M r as h (a, h)) (hR1 : r + 1 ≤ R.frames) (hR2 : (r + 1) * 200 ≤ R.locals) (hlen : as.length = n) (hcat : (rest.map fun v => v.category).sum ≤ 8) (hd : decode cc pc = .ok (.invokestatic idx, 3))
    (k : pv_Kt D ad base cyf p l e R s m args below meth c nL h.length (pv_sz h) Q (pc + 3) ls (a.toList ++ rest) h) : pv_Kt D ad base cyf p l e R s m args below meth c nL h.length (pv_sz h) Q pc ls (as.reverse ++ rest) h := by
  intro H locs lsA hR hS hL
  refine pv_sized hR hS hs0 (Nat.le_refl _) (fun hz => ?_)
  exact sn_called (q := (a, h)) (Nat.le_refl _) (Nat.le_refl _) ⟨Nat.le_refl _, Nat.le_refl _⟩ (j_runS C hw hst hct hR1 hR2 (by dsimp only; omega) (by dsimp only; omega) hR hz hS hL hlen hcat hd) hS hL k
theorem jV (C : pv_Cx D ad base cyf X NW (KSt ad base fv) p s m args meth c cc o nm nL ret) {i : Nat} {as rest : List Value} {a : Option Value} {M : pv_M} {r idx n : Nat} (hs0 : s.heap.size = base + h.length) (hi : i < 21) (hw : j_W o idx n M) (hcls : M.1.cls = "java/lang/String") (hin : Cond.instanceMethod M.1 ∈ pv_G) (hse : Cond.selects M.1.cls M.1 M.1 ∈ pv_G) (hct : pv_Ct l D ad base cyf X NW (KSt ad base fv) M r (.ref (pv_scr + 1 + i) :: as) h (a, h)) (hR1 : r + 1 ≤ R.frames) (hR2 : (r + 1) * 200 ≤ R.locals) (hlen : as.length = n) (hcat : (rest.map fun v => v.category).sum ≤ 8) (hd : decode cc pc = .ok (.invokevirtual idx, 3))
    (k : pv_Kt D ad base cyf p l e R s m args below meth c nL h.length (pv_sz h) Q (pc + 3) ls (a.toList ++ rest) h) : pv_Kt D ad base cyf p l e R s m args below meth c nL h.length (pv_sz h) Q pc ls ((.ref (pv_scr + 1 + i) :: as).reverse ++ rest) h := by
  intro H locs lsA hR hS hL
  refine pv_sized hR hS hs0 (Nat.le_refl _) (fun hz => ?_)
  exact sn_called (q := (a, h)) (Nat.le_refl _) (Nat.le_refl _) ⟨Nat.le_refl _, Nat.le_refl _⟩ (j_runV C hi hw hcls hin hse hct hR1 hR2 (by dsimp only; omega) (by dsimp only; omega) hR hz hS hL hlen hcat hd) hS hL k
end JDK
