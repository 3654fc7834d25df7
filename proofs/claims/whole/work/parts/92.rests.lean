/-! WristPort.rests: it answers, or it throws. -/
def mW_within : pv_M := (⟨"WristPort", "isWithin", "(III)Z"⟩, prog_1_method_63_code, 3, some .boolean, [], fun _ => 1)
def mW_best : pv_M := (⟨"WristPort", "isBest", "(IIIII)Z"⟩, prog_1_method_55_code, 7, some .boolean, [], fun _ => 1)
theorem wW_within : j_W 10 162 3 mW_within := ⟨pv_G_in (by decide +kernel) (by decide +kernel), pv_G_in (by decide +kernel) (by decide +kernel), by decide +kernel, pv_G_in (by decide +kernel) (by decide +kernel), by decide⟩
theorem wW_best : j_W 10 297 5 mW_best := ⟨pv_G_in (by decide +kernel) (by decide +kernel), pv_G_in (by decide +kernel) (by decide +kernel), by decide +kernel, pv_G_in (by decide +kernel) (by decide +kernel), by decide⟩
def wi9 (x : Int32) : Bool := decide (0 ≤ x ∧ x ≤ 9)
/-- the walk through the four choices -/
def rq (f : Nat → Bool) (w : Int32) : Nat → Nat → Nat → Option Int32
  | 0, _, k => if w = -1 then some (nI k) else none
  | d + 1, j, k => if f j then (if nI k = w then some (nI j) else rq f w d (j + 1) (k + 1)) else rq f w d (j + 1) k
def fb (p q r : Int32) (j : Nat) : Bool := pv_best (nI j / 2) (nI j - nI j / 2 * 2) p q r && pv_best (nI j - nI j / 2 * 2) (nI j / 2) p q r
theorem fil4 (f : Int32 → Bool) : ([0, 1, 2, 3] : List Int32).filter f = (if f 0 then [0] else []) ++ (if f 1 then [1] else []) ++ (if f 2 then [2] else []) ++ (if f 3 then [3] else []) := by
  cases h0 : f 0 <;> cases h1 : f 1 <;> cases h2 : f 2 <;> cases h3 : f 3 <;> simp [List.filter, h0, h1, h2, h3]
theorem w_case (w : Int32) : w = -1 ∨ w = 0 ∨ w = 1 ∨ w = 2 ∨ w = 3 ∨ (w ≠ -1 ∧ w ≠ 0 ∧ w ≠ 1 ∧ w ≠ 2 ∧ w ≠ 3 ∧ (¬ 0 ≤ w ∨ 4 ≤ w.toNatClampNeg)) := by
  by_cases h : w < 0
  · by_cases h1 : w = -1
    · exact Or.inl h1
    · refine Or.inr (Or.inr (Or.inr (Or.inr (Or.inr ⟨h1, ?_, ?_, ?_, ?_, Or.inl (by simpa using h)⟩))))
      all_goals (intro z; rw [z] at h; revert h; decide)
  · obtain ⟨n, hn, rfl⟩ := nI_of h
    by_cases h4 : n < 4
    · have : n = 0 ∨ n = 1 ∨ n = 2 ∨ n = 3 := by omega
      rcases this with rfl | rfl | rfl | rfl
      · exact Or.inr (Or.inl rfl)
      · exact Or.inr (Or.inr (Or.inl rfl))
      · exact Or.inr (Or.inr (Or.inr (Or.inl rfl)))
      · exact Or.inr (Or.inr (Or.inr (Or.inr (Or.inl rfl))))
    · have ne : ∀ k, k < 4 → nI n ≠ nI k := fun k hk z => by
        have := (nI_eq hn (by omega)).mp z
        omega
      refine Or.inr (Or.inr (Or.inr (Or.inr (Or.inr ⟨fun z => ?_, ne 0 (by decide), ne 1 (by decide), ne 2 (by decide), ne 3 (by decide), Or.inr (by rw [nI_clamp hn]; omega)⟩))))
      rw [z] at h
      exact h (by decide)
theorem rq_eq (b0 b1 b2 b3 : Bool) (f : Nat → Bool) (e0 : f 0 = b0) (e1 : f 1 = b1) (e2 : f 2 = b2) (e3 : f 3 = b3) (w : Int32) (L : List Int32) (hL : L = (if b0 then [0] else []) ++ (if b1 then [1] else []) ++ (if b2 then [2] else []) ++ (if b3 then [3] else [])) : rq f w 4 0 0 = (if w = -1 then some (Int32.ofNat L.length) else if 0 ≤ w then L[w.toNatClampNeg]? else none) := by
  subst hL
  rcases w_case w with rfl | rfl | rfl | rfl | rfl | ⟨n0, n1, n2, n3, n4, n5⟩
  · cases b0 <;> cases b1 <;> cases b2 <;> cases b3 <;> simp [rq, e0, e1, e2, e3] <;> decide
  · cases b0 <;> cases b1 <;> cases b2 <;> cases b3 <;> simp [rq, e0, e1, e2, e3] <;> decide
  · cases b0 <;> cases b1 <;> cases b2 <;> cases b3 <;> simp [rq, e0, e1, e2, e3] <;> decide
  · cases b0 <;> cases b1 <;> cases b2 <;> cases b3 <;> simp [rq, e0, e1, e2, e3] <;> decide
  · cases b0 <;> cases b1 <;> cases b2 <;> cases b3 <;> simp [rq, e0, e1, e2, e3] <;> decide
  · have ne : ∀ k, k < 4 → ¬ nI k = w := fun k hk z => by
      have : k = 0 ∨ k = 1 ∨ k = 2 ∨ k = 3 := by omega
      rcases this with rfl | rfl | rfl | rfl
      · exact n1 z.symm
      · exact n2 z.symm
      · exact n3 z.symm
      · exact n4 z.symm
    have r0 : (if w = -1 then some (Int32.ofNat ((if b0 then [0] else []) ++ (if b1 then [1] else []) ++ (if b2 then [2] else []) ++ (if b3 then [3] else []) : List Int32).length) else if 0 ≤ w then ((if b0 then [0] else []) ++ (if b1 then [1] else []) ++ (if b2 then [2] else []) ++ (if b3 then [3] else []) : List Int32)[w.toNatClampNeg]? else none) = none := by
      rw [if_neg n0]
      rcases n5 with n5 | n5
      · rw [if_neg n5]
      · split
        · apply List.getElem?_eq_none
          refine Nat.le_trans ?_ n5
          cases b0 <;> cases b1 <;> cases b2 <;> cases b3 <;> decide
        · rfl
    rw [r0]
    have q : ∀ d j k, k + d ≤ 4 → rq f w d j k = none := by
      intro d
      induction d with
      | zero => intro j k _; rw [rq, if_neg n0]
      | succ d ih =>
        intro j k hk
        rw [rq]
        split
        · rw [if_neg (ne k (by omega)), ih _ _ (by omega)]
        · rw [ih _ _ (by omega)]
    exact q 4 0 0 (by decide)
theorem rq_rv {p q r w : Int32} (hp : wi9 p = true) (hq : wi9 q = true) (hr : wi9 r = true) : rq (fb p q r) w 4 0 0 = pv_rv p q r w := by
  unfold wi9 at hp hq hr
  have hp := of_decide_eq_true hp
  have hq := of_decide_eq_true hq
  have hr := of_decide_eq_true hr
  unfold pv_rv
  rw [if_pos ⟨hp.1, hp.2, hq.1, hq.2, hr.1, hr.2⟩]
  refine rq_eq (fb p q r 0) (fb p q r 1) (fb p q r 2) (fb p q r 3) _ rfl rfl rfl rfl w _ ?_
  unfold pv_rst
  rw [fil4]
  rfl
theorem rv_no {p q r w : Int32} (h : ¬ (wi9 p = true ∧ wi9 q = true ∧ wi9 r = true)) : pv_rv p q r w = none := by
  unfold pv_rv
  refine if_neg (fun z => h ⟨decide_eq_true ⟨z.1, z.2.1⟩, decide_eq_true ⟨z.2.2.1, z.2.2.2.1⟩, decide_eq_true ⟨z.2.2.2.2.1, z.2.2.2.2.2⟩⟩)
section RSW
variable {D : va_G} {ad : Nat → Nat} {base : Nat} {cyf : Nat → ClassId} {X : pv_X} {NW : List (String × Nat × MethodName × String)} {fv : Value} {l : Launch} {h : pv_H} {i : Nat}
theorem c_within (hAd : ∀ k, k < pv_scr → ad k = base + k) {x : Int32} : pv_Ct l D ad base cyf X NW (KSt ad base fv) mW_within 1 [.int x, .int 0, .int 9] h (some (.int (bI (wi9 x))), h) := by
  refine jCt (o := 10) rfl (by decide +kernel) hAd (Nat.le_of_ble_eq_true rfl) ?_
  intro p e R s m args below meth c C hs0 hR1 hR2 hRc hRs
  refine sn_iload_n C (i := 0) (x := x) rfl (by decide +kernel) ?_
  refine sn_iload_n C (i := 1) (x := 0) rfl (by decide +kernel) ?_
  have e0 : ∀ (b : Bool), wi9 x = b → (some (Value.int (bI (wi9 x))), h) = (some (Value.int (bI b)), h) := fun b e => by rw [e]
  refine sn_icmp_lt C (off := 12) (tgt := 14) (by decide) (by decide +kernel) (fun hx => ?_) (fun hx => ?_)
  · refine sn_iconst C (n := 0) (by decide +kernel) ?_
    rw [show wi9 x = false from decide_eq_false (fun z => absurd hx (by simpa using z.1))]
    exact j_ret C hs0 rfl rfl (by decide +kernel)
  · refine sn_iload_n C (i := 0) (x := x) rfl (by decide +kernel) ?_
    refine sn_iload_n C (i := 2) (x := 9) rfl (by decide +kernel) ?_
    refine sn_icmp_gt C (off := 7) (tgt := 14) (by decide) (by decide +kernel) (fun hy => ?_) (fun hy => ?_)
    · refine sn_iconst C (n := 0) (by decide +kernel) ?_
      rw [show wi9 x = false from decide_eq_false (fun z => absurd hy (by simpa using z.2))]
      exact j_ret C hs0 rfl rfl (by decide +kernel)
    · refine sn_iconst C (n := 1) (by decide +kernel) ?_
      refine sn_goto C (off := 4) (tgt := 15) (by decide) (by decide +kernel) ?_
      rw [show wi9 x = true from decide_eq_true ⟨by simpa using hx, by simpa using hy⟩]
      exact j_ret C hs0 rfl rfl (by decide +kernel)
theorem c_best (hAd : ∀ k, k < pv_scr → ad k = base + k) {a b x y z : Int32} : pv_Ct l D ad base cyf X NW (KSt ad base fv) mW_best 1 [.int a, .int b, .int x, .int y, .int z] h (some (.int (bI (pv_best a b x y z))), h) := by
  refine jCt (o := 10) rfl (by decide +kernel) hAd (Nat.le_of_ble_eq_true rfl) ?_
  intro p e R s m args below meth c C hs0 hR1 hR2 hRc hRs
  have tail : ∀ u v : Int32, (if b = 1 then x else -y) = u → (if b = 1 then z else 0) = v → pv_Kt D ad base cyf p l e R s m args below meth c 7 h.length (pv_sz h) (MQ below (pv_Qc D ad base cyf X NW (KSt ad base fv) (some (.int (bI (pv_best a b x y z))), h)) args s (h.length - h.length) (pv_sz h - pv_sz h) (pv_A base)) 26 [some (.int a), some (.int b), some (.int x), some (.int y), some (.int z), some (.int u), some (.int v)] [] h := by
    intro u v hu hv
    have eb : pv_best a b x y z = if a = 1 then decide (v ≤ u) else decide (u ≤ v) := by unfold pv_best; rw [hu, hv]
    refine sn_iload_n C (i := 0) (x := a) rfl (by decide +kernel) ?_
    refine sn_iconst C (n := 1) (by decide +kernel) ?_
    refine sn_icmp_ne C (off := 18) (tgt := 46) (by decide) (by decide +kernel) (fun ha => ?_) (fun ha => ?_)
    · rw [if_neg (show ¬ a = 1 from ha)] at eb
      refine sn_iload C (i := 6) (x := v) rfl (by decide +kernel) ?_
      refine sn_iload C (i := 5) (x := u) rfl (by decide +kernel) ?_
      refine sn_icmp_lt C (off := 7) (tgt := 57) (by decide) (by decide +kernel) (fun hc => ?_) (fun hc => ?_)
      · refine sn_iconst C (n := 0) (by decide +kernel) ?_
        rw [eb, show decide (u ≤ v) = false from decide_eq_false (by simpa using hc)]
        exact j_ret C hs0 rfl rfl (by decide +kernel)
      · refine sn_iconst C (n := 1) (by decide +kernel) ?_
        refine sn_goto C (off := 4) (tgt := 58) (by decide) (by decide +kernel) ?_
        rw [eb, show decide (u ≤ v) = true from decide_eq_true (by simpa using hc)]
        exact j_ret C hs0 rfl rfl (by decide +kernel)
    · have ha := Decidable.not_not.mp ha
      rw [if_pos (show a = 1 from ha)] at eb
      refine sn_iload C (i := 5) (x := u) rfl (by decide +kernel) ?_
      refine sn_iload C (i := 6) (x := v) rfl (by decide +kernel) ?_
      refine sn_icmp_lt C (off := 7) (tgt := 42) (by decide) (by decide +kernel) (fun hc => ?_) (fun hc => ?_)
      · refine sn_iconst C (n := 0) (by decide +kernel) ?_
        refine sn_goto C (off := 15) (tgt := 58) (by decide) (by decide +kernel) ?_
        rw [eb, show decide (v ≤ u) = false from decide_eq_false (by simpa using hc)]
        exact j_ret C hs0 rfl rfl (by decide +kernel)
      · refine sn_iconst C (n := 1) (by decide +kernel) ?_
        refine sn_goto C (off := 19) (tgt := 58) (by decide) (by decide +kernel) ?_
        rw [eb, show decide (v ≤ u) = true from decide_eq_true (by simpa using hc)]
        exact j_ret C hs0 rfl rfl (by decide +kernel)
  refine sn_iload_n C (i := 1) (x := b) rfl (by decide +kernel) ?_
  refine sn_iconst C (n := 1) (by decide +kernel) ?_
  refine sn_icmp_ne C (off := 7) (tgt := 9) (by decide) (by decide +kernel) (fun hb => ?_) (fun hb => ?_)
  · refine sn_iload_n C (i := 3) (x := y) rfl (by decide +kernel) ?_
    refine sn_ineg C (by decide +kernel) ?_
    refine sn_istore C (i := 5) (ls' := [some (.int a), some (.int b), some (.int x), some (.int y), some (.int z), some (.int (-y)), none]) rfl (by decide +kernel) ?_
    refine sn_iload_n C (i := 1) (x := b) rfl (by decide +kernel) ?_
    refine sn_iconst C (n := 1) (by decide +kernel) ?_
    refine sn_icmp_ne C (off := 8) (tgt := 23) (by decide) (by decide +kernel) (fun _ => ?_) (fun z => absurd hb z)
    refine sn_iconst C (n := 0) (by decide +kernel) ?_
    refine sn_istore C (i := 6) (ls' := [some (.int a), some (.int b), some (.int x), some (.int y), some (.int z), some (.int (-y)), some (.int 0)]) rfl (by decide +kernel) ?_
    exact tail _ _ (if_neg hb) (if_neg hb)
  · have hb := Decidable.not_not.mp hb
    refine sn_iload_n C (i := 2) (x := x) rfl (by decide +kernel) ?_
    refine sn_goto C (off := 5) (tgt := 11) (by decide) (by decide +kernel) ?_
    refine sn_istore C (i := 5) (ls' := [some (.int a), some (.int b), some (.int x), some (.int y), some (.int z), some (.int x), none]) rfl (by decide +kernel) ?_
    refine sn_iload_n C (i := 1) (x := b) rfl (by decide +kernel) ?_
    refine sn_iconst C (n := 1) (by decide +kernel) ?_
    refine sn_icmp_ne C (off := 8) (tgt := 23) (by decide) (by decide +kernel) (fun z => absurd hb z) (fun _ => ?_)
    refine sn_iload C (i := 4) (x := z) rfl (by decide +kernel) ?_
    refine sn_goto C (off := 4) (tgt := 24) (by decide) (by decide +kernel) ?_
    refine sn_istore C (i := 6) (ls' := [some (.int a), some (.int b), some (.int x), some (.int y), some (.int z), some (.int x), some (.int z)]) rfl (by decide +kernel) ?_
    exact tail _ _ (if_pos hb) (if_pos hb)
end RSW
