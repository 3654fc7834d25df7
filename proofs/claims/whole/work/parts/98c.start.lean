def R_law : String := "WristPortLaw"
def lw_P (b : Addr) (xs : List Int32) (args : Array Value) (s : State) : Prop := args = #[.ref b] ∧ s.IntsAt b xs ∧ xs.length ≤ 3584 ∧ (Jvm.Cond.and given_1 narrow_1).before args s = true
def lw_Q (_ : Array Value) (s : State) (o : Outcome) (t : State) : Prop := o = .returned (some (.int 1)) ∧ Framed s o t [] 601024 7293034
def lw_Z (below : List Frame) (a : Array Value) (s : State) : State → Prop := fun t => ∃ o, t.status = .running ∧ Ended t below o ∧ lw_Q a s o t
/-- the law's own end, with 1 on the stack, nothing written that was there before, its room as the claim has it -/
theorem lw_ret {p : Program} {l : Launch} {e : Env} {s : State} {m : MethodId} {below : List Frame} {meth : Method} {c : Code} {b : Nat} (hx : p.tables.exec = Jvm.exec) (hb : c.code = code) (hr : meth.sig.returnType = ret) (hlocks : meth.locks = false) {pc : Nat} {H : Heap} {ls : Array Slot} (hdg : decode code pc = .ok (.ireturn, 1)) : W p l e room_1 s m #[Value.ref b] below meth c H [] 601024 7293034 (lw_Z below #[Value.ref b] s) (F0 m pc ls [.int 1]) := by
  intro T hT X
  obtain ⟨fs, hret, hrun, hended, hW, hframe⟩ := X.leave (v := some (.int 1)) (hlocks := hlocks) (fun h => by rw [hr] at h; cases h)
  have hmeth' : T.vm.method? m = some meth := X.method'
  refine ⟨T.setFrames fs, ?_, .returned (some (.int 1)), hrun, hended, rfl, ⟨_, rfl⟩, hW, hframe⟩
  jvm_step X.here [X.here.top, hx, hb, hdg, hmeth', hr, ret, narrow_b1]
  (try refine ⟨rfl, ?_⟩); (try refine ⟨rfl, ?_⟩)
  first | (intro acts; rw [hret _ acts rfl rfl rfl]) | rw [hret _ _ rfl rfl rfl]
  exact Steps.refl _
/-- what holds at the law's entry: the machine, the code, the tables' words (any of lw_tbl by 'hts w (by decide +kernel)'), the script of L ints xs at the cell b, what the Statement gives of the start (any of its parts by flat_of_before) -/
def lw_At (p : Program) (s : State) (m : MethodId) (meth : Method) (c : Code) (b L : Nat) (xs : Nat → Int32) : Prop :=
  p.tables.exec = Jvm.exec ∧ c.code = code ∧ meth.sig.returnType = ret ∧ c.maxLocals = 7 ∧ s.vm.findClass R_law = some m.cls ∧ (∀ w ∈ lw_tbl, w.before #[Value.ref b] s = true) ∧ va_X b L xs s s.heap ∧ b < s.heap.size ∧ meth.locks = false ∧ (Jvm.Cond.and given_1 narrow_1).before #[Value.ref b] s = true
def notput (x : Nat × pv_I) : Bool := match x with
  | (_, .putfield _, _) => false
  | _ => true
theorem lw_np : k_Lw_law.all notput = true := by decide +kernel
theorem lw_15 : k_Lw_law.all ok15 = true := by decide +kernel
theorem ms_15 : pv_ms.all (fun M => M.2.2.2.2.1.all ok15) = true := by decide +kernel
theorem nw_in : ∀ q ∈ pv_NW, Cond.methodLinkNest q.1 q.2.1 q.2.2.1 q.2.2.2 ∈ lw_tbl := by decide +kernel
theorem ok_nm {LT : List (Nat × Nat × Nat × Nat × Nat × Nat)} {o : Nat} {nm nm' : String} {cc : ByteArray} {x : Nat × pv_I} (h : notput x = true) (k : pv_ok LT o nm cc x) : pv_ok LT o nm' cc x := by
  obtain ⟨pc, ins, len, i1, i2, i3, i4⟩ := x
  cases ins <;> first | exact k | (exact absurd h (by simp [notput]))
def kz (k : pm_K) : Nat := match k with
  | .inl (_, n) => n
  | .inr (_, sl) => sl.length
theorem ms_len (m : pm_M) (a : Nat) : ∀ (l : List (Nat × Nat)) (b : Nat), (ms m a b l).length = l.length
  | [], _ => rfl
  | s :: l, b => by
    show (ms m a (b + 1) l).length + 1 = l.length + 1
    rw [ms_len m a l (b + 1)]
theorem row_n (m : pm_M) (a t n : Nat) : (pm_row m a t n).1 = n := by
  unfold pm_row
  split <;> rfl
theorem mc_sz (m : pm_M) : ∀ (l : List pm_K) (b : Nat), pv_sz (mc m b l) = (l.map kz).sum
  | [], _ => rfl
  | .inl (t, n) :: l, b => by
    show (pm_row m b t n).1 + pv_sz (mc m (b + 1) l) = n + (l.map kz).sum
    rw [mc_sz m l (b + 1), row_n]
  | .inr (c, sl) :: l, b => by
    show (ms m b 0 sl).length + pv_sz (mc m (b + 1) l) = sl.length + (l.map kz).sum
    rw [mc_sz m l (b + 1), ms_len]
theorem sz_rep (k : Nat) : pv_sz (List.replicate k pv_exc) = 6 * k := by
  induction k with
  | zero => rfl
  | succ k ih =>
    rw [List.replicate_succ]
    show 6 + pv_sz (List.replicate k pv_exc) = _
    rw [ih]
    omega
theorem hp_sz {m : pm_M} {k : Nat} (hk : k ≤ 512) (hg : gG m = List.replicate k pv_exc) : (hp m).length ≤ 601024 ∧ pv_sz (hp m) ≤ 7293034 := by
  constructor
  · rw [hpl, hg, List.length_replicate]
    omega
  · rw [hp_mc, hg]
    have e : pv_sz (mc m 0 pm_T ++ List.replicate k pv_exc) = pv_sz (mc m 0 pm_T) + pv_sz (List.replicate k pv_exc) := by
      unfold pv_sz
      rw [List.map_append, List.sum_append]
    rw [e, mc_sz, sz_rep]
    have : (pm_T.map kz).sum ≤ 100000 := by decide +kernel
    omega
theorem whole_start {p : Program} {e : Env} {s : State} {m : MethodId} {below : List Frame} {meth : Method} {c : Code} (l : Launch) (hflags : l.flags = flags0) {b L : Nat} {xs : Nat → Int32} (hL : L ≤ 3584) (C0 : lw_At p s m meth c b L xs) : W p l e room_1 s m #[Value.ref b] below meth c s.heap [] 0 0 (lw_Z below #[Value.ref b] s) (entryFrame m ([Value.ref b] : List Value).toArray 7) := by
  obtain ⟨hx, hb, hr, hml, hown, hts, hX, hbl, hlocks, hgv⟩ := id C0
  have hl : l.stackTraces = false := by
    unfold Launch.stackTraces
    rw [hflags]
    decide
  have hs : ∀ w ∈ flS, w.before #[Value.ref b] s = true := flat_of_before _ hgv
  obtain ⟨sa, fa, fv, hfv, hKS⟩ := st_Ks (b := b) hs hts
  obtain ⟨D, cyf, hK⟩ := st_K hts
  have hAd : ∀ k, k < pv_scr → adW s.heap.size b sa fa k = s.heap.size + k := fun k hk => if_pos hk
  have hscr : adW s.heap.size b sa fa pv_scr = b := by
    unfold adW
    rw [if_neg (Nat.lt_irrefl _), if_pos rfl]
  have C : pv_Cx D (adW s.heap.size b sa fa) s.heap.size cyf (xs, L) pv_NW (KSt (adW s.heap.size b sa fa) s.heap.size fv) p s m #[Value.ref b] meth c code 12 meth.name 7 (some .boolean) := ⟨hx, hb, hml, hown, fun w hw => hts w (G_tbl hw), hr, hlocks, rfl, ⟨hK, fun q hq => va_Nw.of rfl (hts _ (nw_in q hq)), ⟨va_AO.of (hts _ (by decide +kernel)), va_AO.of (hts _ (by decide +kernel))⟩, by rw [hscr]; exact hX, by rw [hscr]; exact hbl, Nat.le_refl _, hKS⟩, hAd⟩
  obtain ⟨mm, k, hk, hg, er⟩ := law_abs (X := (xs, L)) hL
  obtain ⟨n, hn⟩ := (pv_sem_iff pv_tab pv_ext (xs, L) pv_dft).mp er
  obtain ⟨z1, z2⟩ := hp_sz hk hg
  have key := pv_sound2 (KSt_ok (adW s.heap.size b sa fa) s.heap.size fv) pv_cls pv_LT_ok pv_w0 (KSt_str (l := l)) (KSt_ext hl hAd hfv) pv_tab_ok pv_no15 hAd (fun mid M hM x hx => List.all_eq_true.mp (List.all_eq_true.mp ms_15 M (List.mem_of_getElem? hM)) x hx) n 100 (some .boolean) k_Lw_law 0 _ [] [] _ hn p e room_1 s m #[Value.ref b] below meth c code 12 7 0 0 meth.name C (fun x hx => ok_nm (List.all_eq_true.mp lw_np x hx) (pv_law_ok x hx)) (fun x hx => List.all_eq_true.mp lw_15 x hx) rfl (Nat.zero_le _) (Nat.zero_le _) (by show (hp mm).length - 0 ≤ 601024; omega) (by show pv_sz (hp mm) - 0 ≤ 7293034; omega) (by decide) (by decide) (by decide)
  have hR : pv_Rel D (adW s.heap.size b sa fa) s.heap.size cyf [] s.heap := ⟨fun k q h => by simp [pv_ws] at h, ⟨fun i j p q h => by simp [pv_ws] at h, fun k q h => by simp [pv_ws] at h⟩, by decide⟩
  have w := key s.heap [] _ hR va_S.rf (pv_ent_ok (vs := [.ref pv_scr]) (n := 7) (Nat.le_of_ble_eq_true rfl))
  rw [lg_entry_eq]
  have e0 : ([Value.ref pv_scr].map (pv_tr (adW s.heap.size b sa fa))) = [Value.ref b] := by
    show [Value.ref (adW s.heap.size b sa fa pv_scr)] = _
    rw [hscr]
  rw [e0] at w
  intro T hT X0
  obtain ⟨t, a1, o, b1, b2, ⟨ho, hRU, hF⟩, Lx, ⟨hv, hW, hsame⟩, hfree⟩ := w T hT X0
  exact ⟨t, a1, o, b1, b2, ho, hv, hW, hsame.weaken (fun y hy hlt => absurd hlt (Nat.not_lt.mpr (hfree y hy))) (by show (hp mm).length - 0 ≤ 601024; omega) (by show pv_sz (hp mm) - 0 ≤ 7293034; omega)⟩
