def pv_okb (o : Nat) (nm : String) (cc : ByteArray) (q : Nat × pv_I) : Bool := match q with
  | (pc, ins, len, i1, i2, i3, i4) => decide (decode cc pc = .ok (ins, len)) && match ins with
    | .goto off => decide ((pc : Int) + off = (i1 : Int)) && decide (len = 3)
    | .ifCond _ off => decide ((pc : Int) + off = (i1 : Int)) && decide (len = 3)
    | .if_icmp _ off => decide ((pc : Int) + off = (i1 : Int)) && decide (len = 3)
    | .iload _ | .lload _ | .aload _ | .istore _ | .lstore _ | .astore _ | .bipush _ => decide (len = 2)
    | .sipush _ => decide (len = 3)
    | .iinc _ _ => decide (len = 3 ∨ len = 6)
    | .getfield idx => decide (len = 3) && decide ((o, idx, 0, i1, i2, i3) ∈ pv_LTo o)
    | .putfield idx => decide (len = 3) && (decide ((o, idx, 0, i1, i2, i3) ∈ pv_LTo o) && (match vwCl[i1]? with
      | some (_, T, _) => decide ((T i2).2.2.2 = false ∨ ((T i2).1 = pv_own o ∧ nm = "<init>"))
      | none => false))
    | .invokevirtual idx => decide (len = 3) && (decide ((o, idx, i4, i1, i2, i3) ∈ pv_LTo o) && decide (i4 = 2 ∨ i4 = 3 ∨ i4 = 15))
    | .invokestatic idx => decide (len = 3) && (decide ((o, idx, i4, i1, i2, i3) ∈ pv_LTo o) && decide (i4 = 4 ∨ i4 = 5 ∨ i4 = 9 ∨ i4 = 15))
    | .invokespecial idx => decide (len = 3) && (decide ((o, idx, i4, i1, i2, i3) ∈ pv_LTo o) && decide (i4 = 6 ∨ i4 = 7 ∨ i4 = 8))
    | .new idx => decide (len = 3) && decide ((o, idx, 10, i1, 0, 0) ∈ pv_LTo o)
    | .newarray t => decide (len = 2) && decide (t = pv_aty i1)
    | .anewarray idx => decide (len = 3) && decide ((o, idx, 12, i1, 0, 0) ∈ pv_LTo o)
    | .ldc idx => decide (len = 2) && decide ((o, idx, (if i2 = 0 then 13 else 14), i1, 0, 0) ∈ pv_LTo o)
    | .ldc_w idx => decide (len = 3) && decide ((o, idx, 13, i1, 0, 0) ∈ pv_LTo o)
    | .ldc2_w idx => decide (len = 3) && decide ((o, idx, 16, i1, 0, 0) ∈ pv_LTo o)
    | .tableswitch _ _ _ _ => true
    | .lookupswitch _ _ => true
    | _ => decide (len = 1)
theorem pv_okb_ok {o : Nat} {nm : String} {cc : ByteArray} {q : Nat × pv_I} (h : pv_okb o nm cc q = true) : pv_ok pv_LT o nm cc q := by
  obtain ⟨pc, ins, len, i1, i2, i3, i4⟩ := q
  simp only [pv_okb, Bool.and_eq_true, decide_eq_true_eq] at h
  refine ⟨h.1, ?_⟩
  have h2 := h.2
  clear h
  cases ins
  case putfield idx =>
    simp only [Bool.and_eq_true, decide_eq_true_eq] at h2
    refine ⟨h2.1, pv_LTo_in _ _ h2.2.1, fun C T N hc => ?_⟩
    have h3 := h2.2.2
    rw [hc] at h3
    simpa using h3
  all_goals first
    | trivial
    | (simp only [Bool.and_eq_true, decide_eq_true_eq] at h2; first | exact h2 | exact ⟨h2.1, pv_LTo_in _ _ h2.2⟩ | exact ⟨h2.1, pv_LTo_in _ _ h2.2.1, h2.2.2⟩)
theorem pv_MOK_of {M : pv_M} (o : Nat) (h1 : pv_own o = M.1.cls) (h2 : plainFor M.1 = true) (h3 : M.2.2.1 ≤ 100) (h4 : M.2.2.2.2.1.all (pv_okb o M.1.name M.2.1) = true) (h5 : ∀ as, 1 ≤ M.2.2.2.2.2 as) : pv_MOK pv_LT M := ⟨o, h1, h2, h3, fun x hx => pv_okb_ok (List.all_eq_true.mp h4 x hx), h5⟩
