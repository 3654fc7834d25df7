/-! WristPort.rests where it throws; the law's own rests. -/
def NSE : String := "java/util/NoSuchElementException"
def XCr (D : va_G) (ad : Nat → Nat) (base : Nat) (cyf : Nat → ClassId) (h : pv_H) : String → State → State → Prop := fun E st t => E = NSE ∧ pv_Rel D ad base cyf (h ++ [pv_exc]) t.heap ∧ va_F (pv_A base) st t
section RST2
variable {D : va_G} {ad : Nat → Nat} {base : Nat} {cyf : Nat → ClassId} {X : pv_X} {NW : List (String × Nat × MethodName × String)} {fv : Value} {l : Launch} {h : pv_H}
theorem exc_rel {s : State} {H H1 : Heap} {ce : Cell} (hK : va_K D vwCl (pv_tys cyf) s) (hR : pv_Rel D ad base cyf h H) (hz : H.size = base + h.length) (hl : h.length < pv_scr) (hsame : ∀ q : Nat, q < H.size → H1[q]? = H[q]?) (hce : H1[H.size]? = some ce) (hvm : ce.vm = .none) (hcl : s.vm.findClass NSE = some ce.cls) : pv_Rel D ad base cyf (h ++ [pv_exc]) H1 := by
  refine pv_Rel_app hl rfl ?_ ?_
  · refine va_P.app (hR.1.kept (fun k q hk => hsame _ (vx_lt hR.1 hk))) ?_
    intro k q hk
    have : k = 0 := by
      have := (List.getElem?_eq_some_iff.mp hk).1
      simp at this
      exact this
    subst this
    cases hk
    refine ⟨(NSE, (fun _ => ("", "", "", false)), 0), rfl, ce, by rw [← hz]; exact hce, ?_, hvm, fun k hk => absurd hk (Nat.not_lt_zero k)⟩
    have h1 := (hK.1 12 (NSE, (fun _ => ("", "", "", false)), 0) rfl).2
    exact (Option.some.inj (hcl.symm.trans h1.1))
  · exact va_D.push (D := D) (cl := vwCl) (H := H) hR.2.1 hR.1 hz.symm (Nat.le_add_right _ _)
theorem t_rests (hl : l.stackTraces = false) (hAd : ∀ k, k < pv_scr → ad k = base + k) (hls : h.length < pv_scr) {x : Nat} {a b g w : Int32} (hv : pv_rv a b g w = none) : vx_Met l mW_rests.1 (Cond.code mW_rests.1 mW_rests.2.1 9 (some .int) :: pv_G) ({ frames := 7, cells := 1, slots := 6, locals := 1400 }) (va_Pc ([Value.ref x, .int a, .int b, .int g, .int w].map (pv_tr ad)) (pv_RU D ad base cyf X NW (KSt ad base fv) h)) (fun _ _ _ _ => False) (XCr D ad base cyf h) 1 6 (pv_A base) := by
  refine vx_ofW (cc := prog_1_method_54_code) (maxL := 9) (ret := some .int) (by decide) rfl ?_
  intro p2 e2 s2 m2 args2 below2 meth2 c2 s₁ B hml2 htab hv2
  obtain ⟨rfl, hR2', hz2, hK2⟩ := hv2
  have hts := atoms_spec (ws := Cond.code mW_rests.1 mW_rests.2.1 9 (some .int) :: pv_G) B.pre
  have hown : s2.vm.findClass "WristPort" = some m2.cls := findClass_of_methodNamed B.named
  have C2 : pv_Cx D ad base cyf X NW (KSt ad base fv) p2 s2 m2 (([Value.ref x, .int a, .int b, .int g, .int w].map (pv_tr ad)).toArray) meth2 c2 prog_1_method_54_code 10 "rests" 9 (some .int) := ⟨B.exec, B.bytes, hml2, hown, fun w hw => hts w (List.mem_cons_of_mem _ hw), B.returns, B.notSynchronized, (name_of_methodNamed B.named B.method).1, hK2, hAd⟩
  have hw := w_rests (l := l) (e := e2) (R := (headSpec (Cond.code mW_rests.1 mW_rests.2.1 9 (some .int) :: pv_G) ({ frames := 7, cells := 1, slots := 6, locals := 1400 })).room) (below := below2) (Q := vx_MQ below2 (fun _ _ _ _ => False) (XCr D ad base cyf h) (([Value.ref x, .int a, .int b, .int g, .int w].map (pv_tr ad)).toArray) s2 1 6 (pv_A base)) (x := x) (a := a) (b := b) (g := g) (w := w) hAd C2 hz2 (by decide) (by decide) (fun v pc ls h1 _ => by rw [hv] at h1; cases h1) (fun pc ls _ hpc => by
    intro H locs lsA hR hS hL
    refine pv_sized hR hS hz2 (Nat.le_refl _) (fun hz => ?_)
    have hKS := j_K C2
    have hx : ∀ (t : State) (ce : Cell), s2.vm.Alike t.vm → H.size ≤ t.heap.size → (∀ q : Nat, q < H.size → t.heap[q]? = H[q]?) → t.heap[H.size]? = some ce → ce.vm = .none → s2.vm.findClass NSE = some ce.cls → XCr D ad base cyf h NSE s2 t := fun t ce _ h1 h2 h3 h4 h5 => ⟨rfl, exc_rel C2.2.2.2.2.2.2.2.2.1.1 hR hz hls h2 h3 h4 h5, Nat.le_trans hS.1 h1, fun q hq hn => by rw [h2 q (Nat.lt_of_lt_of_le hq hS.1)]; exact hS.2.1 q hq hn⟩
    have hat : ∀ wd ∈ vx_at0 "WristPort" 296 NSE nsN, wd.before (([Value.ref x, .int a, .int b, .int g, .int w].map (pv_tr ad)).toArray) s2 = true := vx_hat (fun wd hw => C2.2.2.2.2.1 wd (pv_G_in (ns_in wd (List.mem_filter.mp hw).1) (List.mem_filter.mp hw).2)) ns_bad (nsB_ar hKS.2.2.2.2.2.2)
    have hk : (Cond.classLink "WristPort" 294 NSE).before (([Value.ref x, .int a, .int b, .int g, .int w].map (pv_tr ad)).toArray) s2 = true := C2.2.2.2.2.1 _ (pv_G_in (by decide +kernel) (by decide +kernel))
    have hini : (Cond.initialized NSE).before (([Value.ref x, .int a, .int b, .int g, .int w].map (pv_tr ad)).toArray) s2 = true := C2.2.2.2.2.1 _ (pv_G_in (by decide +kernel) (by decide +kernel))
    rcases hpc with rfl | rfl
    · exact vx_throwX (own := "WristPort") (cls := NSE) (names := nsN) (ik := 294) (ic := 296) (A := pv_A base) C2.1 C2.2.1 hl C2.2.2.2.1 (by decide +kernel) (by decide +kernel) hk hini hat ns_ot hKS.2.2.2.2.1 hKS.2.2.2.2.2.1 hS (hL.1.trans hml2.symm) (by decide +kernel) (by decide +kernel) (by decide +kernel) (by decide +kernel) (fun x hx => (htab x hx).elim) (by decide) (by show 0 + (13 * (nsN.length + 1) + 42) ≤ 1400; decide) (by rw [Nat.sub_self]; decide) (by rw [Nat.sub_self]; decide) C2.2.2.2.2.2.2.1 hx hS.2.2 (by omega) (by omega)
    · exact vx_throwX (own := "WristPort") (cls := NSE) (names := nsN) (ik := 294) (ic := 296) (A := pv_A base) C2.1 C2.2.1 hl C2.2.2.2.1 (by decide +kernel) (by decide +kernel) hk hini hat ns_ot hKS.2.2.2.2.1 hKS.2.2.2.2.2.1 hS (hL.1.trans hml2.symm) (by decide +kernel) (by decide +kernel) (by decide +kernel) (by decide +kernel) (fun x hx => (htab x hx).elim) (by decide) (by show 0 + (13 * (nsN.length + 1) + 42) ≤ 1400; decide) (by rw [Nat.sub_self]; decide) (by rw [Nat.sub_self]; decide) C2.2.2.2.2.2.2.1 hx hS.2.2 (by omega) (by omega))
  have := hw s2.heap [] _ hR2' va_S.rf (pv_ent_ok (vs := [Value.ref x, .int a, .int b, .int g, .int w]) (n := 9) (Nat.le_of_ble_eq_true rfl))
  rw [Nat.sub_self, Nat.sub_self] at this
  rw [lg_entry_eq]
  exact this
end RST2
