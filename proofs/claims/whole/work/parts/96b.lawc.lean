/-! The law's own rests where the class's throws. -/
section LWS
variable {D : va_G} {ad : Nat → Nat} {base : Nat} {cyf : Nat → ClassId} {X : pv_X} {NW : List (String × Nat × MethodName × String)} {fv : Value} {p : Program} {l : Launch} {e : Env} {R : Room} {s : State} {m : MethodId} {args : Array Value} {below : List Frame} {meth : Method} {c : Code} {cc : ByteArray} {o nL n0 z0 : Nat} {nm : String} {ret : Option FieldType} {Q : State → Prop} {pc : Nat} {ls : pv_L} {t : List Value} {h : pv_H}
theorem c_lr0 (hl : l.stackTraces = false) (hAd : ∀ k, k < pv_scr → ad k = base + k) {x qa : Nat} {fs : List Value} {a b g w : Int32} (hls : h.length < pv_scr) (hx : h[x]? = some (.inr (10, fs))) (hv : pv_rv a b g w = none) : Met l yL_rests (Cond.codeWith yL_rests method_3_code 7 (some .int) hhL :: pv_G) ({ frames := 9, cells := (h ++ [pv_exc]).length - h.length, slots := pv_sz (h ++ [pv_exc]) - pv_sz h, locals := 1800 }) (va_Pc ([Value.ref x, .int a, .int b, .int g, .int w, .ref qa].map (pv_tr ad)) (pv_RU D ad base cyf X NW (KSt ad base fv) h)) (pv_Qc D ad base cyf X NW (KSt ad base fv) (some (.int 1), h ++ [pv_exc])) ((h ++ [pv_exc]).length - h.length) (pv_sz (h ++ [pv_exc]) - pv_sz h) (pv_A base) := by
  have el : (h ++ [pv_exc]).length - h.length = 1 := by simp
  have es : pv_sz (h ++ [pv_exc]) - pv_sz h = 6 := by rw [pv_sz_app, Nat.add_sub_cancel_left]; rfl
  refine jCtH (q := (some (.int 1), h ++ [pv_exc])) hAd (Nat.le_of_ble_eq_true rfl) ?_
  intro p e R s m args below meth c C htab hs0 hR1 hR2 hRc hRs
  refine sn_aload C (i := 5) (x := qa) rfl (by decide +kernel) ?_
  refine sn_iconst C (n := 0) (by decide +kernel) ?_
  refine sn_aload_n C (i := 0) (x := x) rfl (by decide +kernel) ?_
  refine sn_iload_n C (i := 1) (x := a) rfl (by decide +kernel) ?_
  refine sn_iload_n C (i := 2) (x := b) rfl (by decide +kernel) ?_
  refine sn_iload_n C (i := 3) (x := g) rfl (by decide +kernel) ?_
  refine sn_iload C (i := 4) (x := w) rfl (by decide +kernel) ?_
  intro H locs lsA hR hS hL
  refine pv_sized hR hS hs0 (Nat.le_refl _) (fun hz => ?_)
  have hts := C.2.2.2.2.1
  have hFix : CallFix p m c method_3_code 7 s args pv_G (pv_own 12) := ⟨C.1, C.2.1, C.2.2.1, C.2.2.2.1, hts⟩
  obtain ⟨hcode, hini, hdd, hl1, hM⟩ := wX_rests
  have hbl := pv_blind (D := D) (ad := ad) (cyf := cyf) (X := X) (NW := NW) (h := h) (KSt_ok ad base fv) ([Value.ref x, .int a, .int b, .int g, .int w].map (pv_tr ad))
  have hPV : PreV s H mW_rests.1.cls (ad x) (va_Pc ([Value.ref x, .int a, .int b, .int g, .int w].map (pv_tr ad)) (pv_RU D ad base cyf X NW (KSt ad base fv) h)) [.int a, .int b, .int g, .int w] := by
    refine ⟨hbl, ?_, j_Pc (as := [Value.ref x, .int a, .int b, .int g, .int w]) C hR hz hS⟩
    rw [pv_adr C hR hx]
    exact va_recv (q := (RX10, TX10, 15)) C.2.2.2.2.2.2.2.2.1.1 hR.1 rfl (pv_ws_at hx)
  have hrun := vx_runV (b := ad x) (As := [.int a, .int b, .int g, .int w]) (C := mW_rests.1.cls) (n := 4) (rest := [.int 0, .ref (ad qa)]) (g := F0 m 9 lsA [.int w, .int g, .int b, .int a, .ref (ad x), .int 0, .ref (ad qa)]) (below := below) (e := e) (R := R) (meth := meth) (locs := locs) (cells := h.length - h.length) (slots := pv_sz h - pv_sz h) hFix (t_rests (X := X) (NW := NW) (fv := fv) (cyf := cyf) (D := D) (x := x) hl hAd hls hv) ⟨callB_of 4 hts (pv_G_good hcode) rfl rfl rfl (hts _ hini) (hts _ hl1) hdd ⟨by show 7 + 1 ≤ R.frames; omega, by show 8 + (9 + 11) + 1400 ≤ R.locals; omega⟩, hts _ vX_rests.1, hts _ vX_rests.2⟩ hPV rfl rfl hL.1 rfl (Nat.le_of_ble_eq_true rfl) (show decode method_3_code 9 = .ok (.invokevirtual 7, 3) by decide +kernel) ⟨by rw [hRc]; dsimp only; omega, by rw [hRs]; dsimp only; omega⟩
  intro T hT X0
  rcases hrun T hT X0 with ⟨v, st₀, t1, T', L, h0, X', hL', e1, e2, hF, -⟩ | ⟨q9, st₀, t1, T', L, E, ce, h0, X', hL', e1, e2, ⟨rfl, hRel, hz1, hk1⟩, hce, hcv, hcl, stp⟩
  · exact hF.elim
  · rw [h0] at hz1 hk1
    have hS1 : va_S (pv_A base) s.heap T'.heap (locs ++ L) := ⟨Nat.le_trans hS.1 (by rw [e1]; exact hz1), fun y h1 h2 => by rw [e1, hk1 y (Nat.lt_of_lt_of_le h1 hS.1) h2]; exact hS.2.1 y h1 h2, fun y hy => by
      rcases List.mem_append.mp hy with hy | hy
      · exact hS.2.2 y hy
      · exact hL' y hy⟩
    have hRel' : pv_Rel D ad base cyf (h ++ [pv_exc]) T'.heap := by rw [e1]; exact hRel
    have hlk := C.2.2.2.2.2.2.1
    have kk : W p l e R s m args below meth c T'.heap (locs ++ L) ((h ++ [pv_exc]).length - h.length) (pv_sz (h ++ [pv_exc]) - pv_sz h) (MQ below (pv_Qc D ad base cyf X NW (KSt ad base fv) (some (.int 1), h ++ [pv_exc])) args s ((h ++ [pv_exc]).length - h.length) (pv_sz (h ++ [pv_exc]) - pv_sz h) (pv_A base)) (F0 m 17 lsA [.ref q9]) := by
      refine lv_astore (i := 6) C.1 C.2.1 (by decide +kernel) (pv_ls_has hL) (by decide) rfl (fun ls' _ => ?_)
      refine lv_iconst (n := 1) C.1 C.2.1 (by decide +kernel) rfl ?_
      refine pv_sized hRel' hS1 hs0 (by simp) (fun hz' => ?_)
      exact W.zret C.1 C.2.1 C.2.2.2.2.2.1 rfl (fun t ht hW => ⟨rfl, ⟨by rw [ht]; exact hRel', by rw [ht]; exact hz', pv_K_move (KSt_ok ad base fv) hW (fun x hx => by rw [ht]; exact hS1.2.1 x (Nat.lt_of_lt_of_le hx C.2.2.2.2.2.2.2.2.1.2.2.2.2.2.1) (fun z => by have : base ≤ x := z; omega)) (by rw [ht, hz']; omega) C.2.2.2.2.2.2.2.2.1⟩, hS1.F ht⟩) hS1.2.2 (by decide +kernel)
    have hc := pv_catch (pc := 9) (rest := [.int 0, .ref (ad qa)]) (own := "WristPortLaw") (name := NSE) (E := NSE) C.2.2.2.1 ⟨0, 14, 17, 13⟩ [] htab (by decide) (by decide) (hts _ (pv_G_in (by decide +kernel) (by decide +kernel))) (nsB_ar (j_K C).2.2.2.2.2.2 _ (by simp [nsB, NSE])) (by rw [e1]; exact hce) hcv hcl kk
    rw [Nat.sub_self, Nat.sub_self] at X'
    rw [el, es] at hc
    obtain ⟨t2, a1, b1⟩ := hc T' rfl X'
    rw [el, es]
    exact ⟨t2, stp.trans a1, b1⟩
end LWS
