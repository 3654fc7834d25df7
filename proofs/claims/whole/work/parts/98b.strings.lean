/-! What is known at the law's entry: the String constants, the statics. -/
def flS : List Cond := flatC (Jvm.Cond.and given_1 narrow_1)
def rps : List (String × Nat) := [("WristPort$Tape", 48), ("WristPort$Tape", 79), ("WristPort$Tape", 85), ("WristPort$Tape", 87), ("WristPort$Tape", 89), ("WristPort$Tape", 91), ("WristPort$Tape", 93), ("WristPort$Tape", 95), ("WristPort$Tape", 97), ("WristPort$Tape", 99), ("WristPort$Tape", 101), ("WristPort$Tape", 103), ("WristPort$Tape", 105), ("WristPort$Tape", 107), ("WristPort$Tape", 109), ("WristPort$Tape", 111), ("WristPort$Tape", 113), ("WristPort$Moods", 81), ("WristPort$Moods", 83), ("WristPort$Moods", 85), ("WristPort$Moods", 87)]
def txs : List String := ["()<=+-*;", "person", "asks", "sets", "moods", "ask", "fright", "soothe", "quarter", "beats", "not", "and", "or", "plain", "child", "old", "calm", "beat", "out", "asked", "hour"]
def tmS (i : Nat) : Term := .string (rps.getD i ("", 0)).1 (rps.getD i ("", 0)).2
theorem flS_ex : ∀ i, i < 21 → Cond.exactly (tmS i) "java/lang/String" ∈ flS := by decide +kernel
theorem flS_co : ∀ i, i < 21 → Cond.eq (.field (tmS i) "java/lang/String" "coder" "B") (.int 0) ∈ flS := by decide +kernel
theorem flS_ar : ∀ i, i < 21 → Cond.arrayOf (.field (tmS i) "java/lang/String" "value" "[B") .byte ∈ flS := by decide +kernel
theorem flS_le : ∀ i, i < 21 → Cond.eq (.length (.field (tmS i) "java/lang/String" "value" "[B")) (.int (Int32.ofNat (txt i).length)) ∈ flS := by decide +kernel
theorem flS_el : ∀ i, i < 21 → ∀ j, j < (txt i).length → Cond.eq (.elem (.field (tmS i) "java/lang/String" "value" "[B") (.int (Int32.ofNat j))) (.int (nI ((txt i).getD j 0))) ∈ flS := by decide +kernel
theorem LT_ref : ∀ q ∈ pv_LT, q.2.2.1 = 14 → Cond.stringRef (pv_own q.1) q.2.1 (txs.getD q.2.2.2.1 "") ∈ lw_tbl ∧ q.2.2.2.1 < 21 := by decide +kernel
theorem LT_same : ∀ q ∈ pv_LT, q.2.2.1 = 14 → Term.string (pv_own q.1) q.2.1 = tmS q.2.2.2.1 ∨ Cond.eq (.string (pv_own q.1) q.2.1) (tmS q.2.2.2.1) ∈ flS ∨ Cond.eq (tmS q.2.2.2.1) (.string (pv_own q.1) q.2.1) ∈ flS := by decide +kernel
theorem st_str {s : State} {args : Array Value} {A : Nat → Prop} (hs : ∀ w ∈ flS, w.before args s = true) (hA : ∀ a : Nat, a < s.heap.size → ¬ A a) (i : Nat) : ∃ q : Nat × Nat, i < 21 → (tmS i).eval args s none [] s = some (.ref q.1) ∧ va_O "java/lang/String" q.1 A s s.heap ∧ va_OF "java/lang/String" "coder" "B" (.int 0) q.1 A s s.heap ∧ va_OF "java/lang/String" "value" "[B" (.ref q.2) q.1 A s s.heap ∧ va_T .byte q.2 (txt i).length (fun j => .int (nI ((txt i).getD j 0))) A s s.heap := by
  by_cases hi : i < 21
  · obtain ⟨a, c, cA, kA, q1, q2, q3, q4, q5, q6, -⟩ := Cond.exactly_spec (args := args) (first := s) (o := none) (s := s) (idx := []) (t := tmS i) (cls := "java/lang/String") (hs _ (flS_ex i hi))
    obtain ⟨t, ht, hT⟩ := va_Tof (f := fun j => .int (nI ((txt i).getD j 0))) (A := A) (j_short i) (hs _ (flS_ar i hi)) (va_eqt (hs _ (flS_le i hi))) (fun j hj => va_eqt (hs _ (flS_el i hi j hj))) hA
    exact ⟨(a, t), fun _ => ⟨q1, ⟨cA, q3, q5, by rw [q6]; exact q2, hA a (Array.getElem?_eq_some_iff.mp q3).1⟩, vk_OFof q1 (va_eqt (hs _ (flS_co i hi))) hA, vk_OFof q1 ht hA, hT⟩⟩
  · exact ⟨(0, 0), fun h => absurd h hi⟩
/-- addresses: the system's cells, the script, the String constants and their bytes, the formatter -/
def adW (base b : Nat) (sa : Nat → Nat × Nat) (fa k : Nat) : Nat := if k < pv_scr then base + k else if k = pv_scr then b else if k < pv_scr + 101 then (sa (k - (pv_scr + 1))).1 else if k < pv_scr + 200 then (sa (k - (pv_scr + 101))).2 else fa
theorem st_Ks {s : State} {args : Array Value} {b : Nat} (hs : ∀ w ∈ flS, w.before args s = true) (hts : ∀ w ∈ lw_tbl, w.before args s = true) : ∃ (sa : Nat → Nat × Nat) (fa : Nat) (fv : Value), (fv = .null ∨ fv = .ref (pv_scr + 200)) ∧ KSt (adW s.heap.size b sa fa) s.heap.size fv s := by
  have hA : ∀ a : Nat, a < s.heap.size → ¬ pv_A s.heap.size a := fun a ha => Nat.not_le.mpr ha
  obtain ⟨sa, hsa⟩ := Classical.axiomOfChoice (st_str hs hA)
  have e1 : ∀ fa i, i < 21 → adW s.heap.size b sa fa (pv_scr + 1 + i) = (sa i).1 := fun fa i hi => by
    unfold adW
    rw [if_neg (by omega), if_neg (by omega), if_pos (by omega), Nat.add_sub_cancel_left]
  have e2 : ∀ fa i, i < 21 → adW s.heap.size b sa fa (pv_scr + 101 + i) = (sa i).2 := fun fa i hi => by
    unfold adW
    rw [if_neg (by omega), if_neg (by omega), if_neg (by omega), if_pos (by omega), Nat.add_sub_cancel_left]
  have hZ : va_Z "java/lang/String" "COMPACT_STRINGS" "Z" (.int 1) (pv_A s.heap.size) s s.heap := va_Zof (hts _ (by decide +kernel)) (hts _ (by decide +kernel)) (va_eqi (hs _ (by decide +kernel))) hA
  have hF := va_Zqof (A := pv_A s.heap.size) (hts (.laysStatic "jdk/internal/util/Preconditions" "SIOOBE_FORMATTER" "Ljava/util/function/BiFunction;") (by decide +kernel)) (hts (.initialized "jdk/internal/util/Preconditions") (by decide +kernel)) (hs (.isRef (.static "jdk/internal/util/Preconditions" "SIOOBE_FORMATTER" "Ljava/util/function/BiFunction;")) (by decide +kernel)) hA
  have hU := vx_Zqof (A := pv_A s.heap.size) (hts (.laysStatic Bundle.tN "UNASSIGNED_STACK" Bundle.steD) (by decide +kernel)) (hts (.initialized Bundle.tN) (by decide +kernel)) (hs (.isRef (.static Bundle.tN "UNASSIGNED_STACK" Bundle.steD)) (by decide +kernel)) hA
  have hN := vx_Zqof (A := pv_A s.heap.size) (hts (.laysStatic Bundle.tN "SUPPRESSED_SENTINEL" Bundle.listD) (by decide +kernel)) (hts (.initialized Bundle.tN) (by decide +kernel)) (hs (.isRef (.static Bundle.tN "SUPPRESSED_SENTINEL" Bundle.listD)) (by decide +kernel)) hA
  have hB : ∀ w ∈ nsB, w.before #[] s = true := by
    intro w hw
    have hm : ∀ w ∈ nsB, w ∈ lw_tbl ∧ w.onTables = true := by decide +kernel
    exact va_tabs (u := s) (hm w hw).2 rfl (hts w (hm w hw).1)
  have mk : ∀ (fa : Nat) (fv : Value), va_Z "jdk/internal/util/Preconditions" "SIOOBE_FORMATTER" "Ljava/util/function/BiFunction;" (pv_tr (adW s.heap.size b sa fa) fv) (pv_A s.heap.size) s s.heap → KSt (adW s.heap.size b sa fa) s.heap.size fv s := by
    intro fa fv hf
    refine ⟨fun i hi => ?_, fun q hm hk => ?_, hZ, hf, hU, hN, hB⟩
    · rw [e1 fa i hi, e2 fa i hi]
      exact (hsa i hi).2
    · obtain ⟨r1, r2⟩ := LT_ref q hm hk
      refine ⟨_, vk_R.of (A := args) (hts _ r1) ?_⟩
      rw [e1 fa _ r2]
      have h0 := (hsa _ r2).1
      have h1 : (Term.string (pv_own q.1) q.2.1).eval args s none [] s = some (.ref (sa q.2.2.2.1).1) := by
        rcases LT_same q hm hk with z | z | z
        · rw [z]; exact h0
        · exact va_eqv (hs _ z) h0
        · exact va_eqR (hs _ z) h0
      exact h1
  rcases hF with hF | ⟨t, hF⟩
  · exact ⟨sa, 0, .null, Or.inl rfl, mk 0 .null hF⟩
  · refine ⟨sa, t, .ref (pv_scr + 200), Or.inr rfl, mk t _ ?_⟩
    have : adW s.heap.size b sa t (pv_scr + 200) = t := by
      unfold adW
      rw [if_neg (by omega), if_neg (by omega), if_neg (by omega), if_neg (by omega)]
    show va_Z _ _ _ (.ref (adW s.heap.size b sa t (pv_scr + 200))) _ _ _
    rw [this]
    exact hF
