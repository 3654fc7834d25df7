/-! WristPort.rests: the walk of its body. -/
def mW_rests : pv_M := (⟨"WristPort", "rests", "(IIII)I"⟩, prog_1_method_54_code, 9, some .int, [], fun _ => 2)
section RSB
variable {D : va_G} {ad : Nat → Nat} {base : Nat} {cyf : Nat → ClassId} {X : pv_X} {NW : List (String × Nat × MethodName × String)} {fv : Value} {l : Launch} {h : pv_H} {p : Program} {e : Env} {R : Room} {s : State} {m : MethodId} {args : Array Value} {below : List Frame} {meth : Method} {c : Code} {Q : State → Prop}
theorem bI_is0 {b : Bool} (h : bI b = 0) : b = false := by
  cases b
  · rfl
  · exact absurd h (by decide)
theorem bI_no0 {b : Bool} (h : ¬ bI b = 0) : b = true := by
  cases b
  · exact absurd rfl h
  · rfl
theorem w_rests (hAd : ∀ k, k < pv_scr → ad k = base + k) (C : pv_Cx D ad base cyf X NW (KSt ad base fv) p s m args meth c prog_1_method_54_code 10 "rests" 9 (some .int)) {x : Nat} {a b g w : Int32} (hs0 : s.heap.size = base + h.length) (hR1 : 2 ≤ R.frames) (hR2 : 2 * 200 ≤ R.locals)
    (kr : ∀ v pc ls, pv_rv a b g w = some v → decode prog_1_method_54_code pc = .ok (.ireturn, 1) → pv_Kt D ad base cyf p l e R s m args below meth c 9 h.length (pv_sz h) Q pc ls [.int v] h)
    (kt : ∀ pc ls, pv_rv a b g w = none → pc = 30 ∨ pc = 113 → pv_Kt D ad base cyf p l e R s m args below meth c 9 h.length (pv_sz h) Q pc ls [] h) :
    pv_Kt D ad base cyf p l e R s m args below meth c 9 h.length (pv_sz h) Q 0 [some (.ref x), some (.int a), some (.int b), some (.int g), some (.int w), none, none, none, none] [] h := by
  refine sn_iload_n C (i := 1) (x := a) rfl (by decide +kernel) ?_
  refine sn_iconst C (n := 0) (by decide +kernel) ?_
  refine sn_bipush C (n := 9) (by decide +kernel) ?_
  refine jS C (as := [.int a, .int 0, .int 9]) (rest := []) (a := some (.int (bI (wi9 a)))) hs0 wW_within (pv_G_in (by decide +kernel) (by decide +kernel)) (c_within hAd) hR1 hR2 rfl (Nat.le_of_ble_eq_true rfl) (by decide +kernel) ?_
  refine sn_if_eq C (off := 23) (tgt := 30) (by decide) (by decide +kernel) (fun hx => kt 30 _ (rv_no (fun z => by rw [bI_is0 hx] at z; exact absurd z.1 (by decide))) (Or.inl rfl)) (fun ha => ?_)
  refine sn_iload_n C (i := 2) (x := b) rfl (by decide +kernel) ?_
  refine sn_iconst C (n := 0) (by decide +kernel) ?_
  refine sn_bipush C (n := 9) (by decide +kernel) ?_
  refine jS C (as := [.int b, .int 0, .int 9]) (rest := []) (a := some (.int (bI (wi9 b)))) hs0 wW_within (pv_G_in (by decide +kernel) (by decide +kernel)) (c_within hAd) hR1 hR2 rfl (Nat.le_of_ble_eq_true rfl) (by decide +kernel) ?_
  refine sn_if_eq C (off := 13) (tgt := 30) (by decide) (by decide +kernel) (fun hx => kt 30 _ (rv_no (fun z => by rw [bI_is0 hx] at z; exact absurd z.2.1 (by decide))) (Or.inl rfl)) (fun hb => ?_)
  refine sn_iload_n C (i := 3) (x := g) rfl (by decide +kernel) ?_
  refine sn_iconst C (n := 0) (by decide +kernel) ?_
  refine sn_bipush C (n := 9) (by decide +kernel) ?_
  refine jS C (as := [.int g, .int 0, .int 9]) (rest := []) (a := some (.int (bI (wi9 g)))) hs0 wW_within (pv_G_in (by decide +kernel) (by decide +kernel)) (c_within hAd) hR1 hR2 rfl (Nat.le_of_ble_eq_true rfl) (by decide +kernel) ?_
  refine sn_if_ne C (off := 11) (tgt := 38) (by decide) (by decide +kernel) (fun hg => ?_) (fun hx => kt _ _ (rv_no (fun z => by rw [bI_is0 (Decidable.not_not.mp hx)] at z; exact absurd z.2.2 (by decide))) (Or.inl rfl))
  have hv := rq_rv (w := w) (bI_no0 ha) (bI_no0 hb) (bI_no0 hg)
  refine sn_iconst C (n := 0) (by decide +kernel) ?_
  refine sn_istore C (i := 5) (ls' := [some (.ref x), some (.int a), some (.int b), some (.int g), some (.int w), some (.int (nI 0)), none, none, none]) rfl (by decide +kernel) ?_
  refine sn_iconst C (n := 0) (by decide +kernel) ?_
  refine sn_istore C (i := 6) (ls' := [some (.ref x), some (.int a), some (.int b), some (.int g), some (.int w), some (.int (nI 0)), some (.int (nI 0)), none, none]) rfl (by decide +kernel) ?_
  have loop : ∀ d j k l7 l8, j + d = 4 → k ≤ j → rq (fb a b g) w d j k = pv_rv a b g w → pv_Kt D ad base cyf p l e R s m args below meth c 9 h.length (pv_sz h) Q 44 [some (.ref x), some (.int a), some (.int b), some (.int g), some (.int w), some (.int (nI k)), some (.int (nI j)), l7, l8] [] h := by
    intro d
    induction d with
    | zero =>
      intro j k l7 l8 hj hk hq
      refine sn_iload C (i := 6) (x := nI j) rfl (by decide +kernel) ?_
      refine sn_iconst C (n := 4) (by decide +kernel) ?_
      refine sn_icmp_ge C (off := 60) (tgt := 107) (by decide) (by decide +kernel) (fun _ => ?_) (fun hx => absurd (nI_le (a := 4) (b := j) (by omega) (by omega)) hx)
      refine sn_iload C (i := 4) (x := w) rfl (by decide +kernel) ?_
      refine sn_iconst C (n := -1) (by decide +kernel) ?_
      refine sn_icmp_eq C (off := 11) (tgt := 121) (by decide) (by decide +kernel) (fun hw => ?_) (fun hw => ?_)
      · refine sn_iload C (i := 5) (x := nI k) rfl (by decide +kernel) ?_
        refine kr _ _ _ ?_ (by decide +kernel)
        rw [← hq, rq]
        exact if_pos hw
      · refine kt _ _ ?_ (Or.inr rfl)
        rw [← hq, rq]
        exact if_neg hw
    | succ d ih =>
      intro j k l7 l8 hj hk hq
      refine sn_iload C (i := 6) (x := nI j) rfl (by decide +kernel) ?_
      refine sn_iconst C (n := 4) (by decide +kernel) ?_
      refine sn_icmp_ge C (off := 60) (tgt := 107) (by decide) (by decide +kernel) (fun hx => absurd hx (nI_ge (b := 4) (a := j) (by omega) (by omega))) (fun _ => ?_)
      refine sn_iload C (i := 6) (x := nI j) rfl (by decide +kernel) ?_
      refine sn_iconst C (n := 2) (by decide +kernel) ?_
      refine sn_idiv C (by decide) (by decide +kernel) ?_
      refine sn_istore C (i := 7) (ls' := [some (.ref x), some (.int a), some (.int b), some (.int g), some (.int w), some (.int (nI k)), some (.int (nI j)), some (.int (nI j / 2)), l8]) rfl (by decide +kernel) ?_
      refine sn_iload C (i := 6) (x := nI j) rfl (by decide +kernel) ?_
      refine sn_iconst C (n := 2) (by decide +kernel) ?_
      refine sn_irem C (by decide) (by decide +kernel) ?_
      refine sn_istore C (i := 8) (ls' := [some (.ref x), some (.int a), some (.int b), some (.int g), some (.int w), some (.int (nI k)), some (.int (nI j)), some (.int (nI j / 2)), some (.int (nI j - nI j / 2 * 2))]) rfl (by decide +kernel) ?_
      have again : ∀ k', k' ≤ j + 1 → rq (fb a b g) w d (j + 1) k' = pv_rv a b g w → pv_Kt D ad base cyf p l e R s m args below meth c 9 h.length (pv_sz h) Q 101 [some (.ref x), some (.int a), some (.int b), some (.int g), some (.int w), some (.int (nI k')), some (.int (nI j)), some (.int (nI j / 2)), some (.int (nI j - nI j / 2 * 2))] [] h := by
        intro k' hk' hq'
        refine sn_iinc C (i := 6) (n := 1) (x := nI j) (ls' := [some (.ref x), some (.int a), some (.int b), some (.int g), some (.int w), some (.int (nI k')), some (.int (nI j + Int32.ofInt 1)), some (.int (nI j / 2)), some (.int (nI j - nI j / 2 * 2))]) rfl rfl (by decide +kernel) ?_
        refine sn_goto C (off := -60) (tgt := 44) (by decide) (by decide +kernel) ?_
        rw [show nI j + Int32.ofInt 1 = nI (j + 1) from nI_1 j]
        exact ih (j + 1) k' _ _ (by omega) hk' hq'
      refine sn_iload C (i := 7) (x := nI j / 2) rfl (by decide +kernel) ?_
      refine sn_iload C (i := 8) (x := nI j - nI j / 2 * 2) rfl (by decide +kernel) ?_
      refine sn_iload_n C (i := 1) (x := a) rfl (by decide +kernel) ?_
      refine sn_iload_n C (i := 2) (x := b) rfl (by decide +kernel) ?_
      refine sn_iload_n C (i := 3) (x := g) rfl (by decide +kernel) ?_
      refine jS C (as := [.int (nI j / 2), .int (nI j - nI j / 2 * 2), .int a, .int b, .int g]) (rest := []) (a := some (.int (bI (pv_best (nI j / 2) (nI j - nI j / 2 * 2) a b g)))) hs0 wW_best (pv_G_in (by decide +kernel) (by decide +kernel)) (c_best hAd) hR1 hR2 rfl (Nat.le_of_ble_eq_true rfl) (by decide +kernel) ?_
      refine sn_if_eq C (off := 29) (tgt := 101) (by decide) (by decide +kernel) (fun hx => ?_) (fun hx => ?_)
      · refine again k (by omega) ?_
        rw [← hq, rq, if_neg (show ¬ fb a b g j = true by unfold fb; rw [bI_is0 hx]; simp)]
      refine sn_iload C (i := 8) (x := nI j - nI j / 2 * 2) rfl (by decide +kernel) ?_
      refine sn_iload C (i := 7) (x := nI j / 2) rfl (by decide +kernel) ?_
      refine sn_iload_n C (i := 1) (x := a) rfl (by decide +kernel) ?_
      refine sn_iload_n C (i := 2) (x := b) rfl (by decide +kernel) ?_
      refine sn_iload_n C (i := 3) (x := g) rfl (by decide +kernel) ?_
      refine jS C (as := [.int (nI j - nI j / 2 * 2), .int (nI j / 2), .int a, .int b, .int g]) (rest := []) (a := some (.int (bI (pv_best (nI j - nI j / 2 * 2) (nI j / 2) a b g)))) hs0 wW_best (pv_G_in (by decide +kernel) (by decide +kernel)) (c_best hAd) hR1 hR2 rfl (Nat.le_of_ble_eq_true rfl) (by decide +kernel) ?_
      refine sn_if_eq C (off := 16) (tgt := 101) (by decide) (by decide +kernel) (fun hy => ?_) (fun hy => ?_)
      · refine again k (by omega) ?_
        rw [← hq, rq, if_neg (show ¬ fb a b g j = true by unfold fb; rw [bI_is0 hy]; simp)]
      have hf : fb a b g j = true := by unfold fb; rw [bI_no0 hx, bI_no0 hy]; rfl
      rw [rq, if_pos hf] at hq
      refine sn_iload C (i := 5) (x := nI k) rfl (by decide +kernel) ?_
      refine sn_iload C (i := 4) (x := w) rfl (by decide +kernel) ?_
      refine sn_icmp_ne C (off := 6) (tgt := 98) (by decide) (by decide +kernel) (fun hw => ?_) (fun hw => ?_)
      · rw [if_neg hw] at hq
        refine sn_iinc C (i := 5) (n := 1) (x := nI k) (ls' := [some (.ref x), some (.int a), some (.int b), some (.int g), some (.int w), some (.int (nI k + Int32.ofInt 1)), some (.int (nI j)), some (.int (nI j / 2)), some (.int (nI j - nI j / 2 * 2))]) rfl rfl (by decide +kernel) ?_
        rw [show nI k + Int32.ofInt 1 = nI (k + 1) from nI_1 k]
        exact again (k + 1) (by omega) hq
      · rw [if_pos (Decidable.not_not.mp hw)] at hq
        refine sn_iload C (i := 6) (x := nI j) rfl (by decide +kernel) ?_
        exact kr _ _ _ hq.symm (by decide +kernel)
  exact loop 4 0 0 none none rfl (Nat.le_refl _) hv
theorem c_rests (hAd : ∀ k, k < pv_scr → ad k = base + k) {x : Nat} {a b g w v : Int32} (hv : pv_rv a b g w = some v) : pv_Ct l D ad base cyf X NW (KSt ad base fv) mW_rests 2 [.ref x, .int a, .int b, .int g, .int w] h (some (.int v), h) := by
  refine jCt (o := 10) rfl (by decide +kernel) hAd (Nat.le_of_ble_eq_true rfl) ?_
  intro p e R s m args below meth c C hs0 hR1 hR2 hRc hRs
  refine w_rests (a := a) (b := b) (g := g) (w := w) hAd C hs0 hR1 hR2 (fun v' pc ls h1 h2 => ?_) (fun pc ls h1 _ => ?_)
  · rw [hv] at h1
    cases h1
    exact j_ret C hs0 rfl rfl h2
  · rw [hv] at h1
    cases h1
end RSB
