noncomputable def f_Md_soothe_0 (X : pv_X) (v0 : Nat) (v1 : Int32) (v2 : Int32) (h : pv_H) : Option pv_O := pS X 3 (some .int) k_Md_soothe 0 [some (.ref v0), some (.int v1), some (.int v2)] [] h
noncomputable def f_Md_soothe_23 (X : pv_X) (v0 : Nat) (v1 : Int32) (v2 : Int32) (h : pv_H) : Option pv_O := pS X 3 (some .int) k_Md_soothe 23 [some (.ref v0), some (.int v1), some (.int v2)] [] h
set_option maxRecDepth 8000 in
theorem u_Md_soothe_0 (X : pv_X) (v0 : Nat) (v1 : Int32) (v2 : Int32) (h : pv_H) : f_Md_soothe_0 X v0 v1 v2 h =
    (pv_fp h v0 11 0 (.int 0)).bind (fun h1 => if pv_rc h1 v0 11 = true then (pv_tI (pM X m_Md_isPerson [.ref v0, .int v1] h1)).bind (fun q2 => if q2.1 = 0 then f_Md_soothe_23 X v0 v1 v2 q2.2 else (pv_tI (pM X m_Md_within [.int v2, .int 1, .int 60] q2.2)).bind (fun q3 => if ¬ q3.1 = 0 then if pv_rc q3.2 v0 11 = true then (pv_tV (pM X m_Md_keeps [.ref v0] q3.2)).bind (fun h4 => if pv_rc h4 v0 11 = true then (pv_tV (pM X m_Md_beatsMore [.ref v0, .int 0, .int v1, .int (-v2)] h4)).bind (fun h5 => (pv_fR h5 v0 11 21).bind (fun x6 => (pv_aX X h5 x6 (1 + v1)).bind (fun x7 => some (some (.int x7), h5)))) else none) else none else f_Md_soothe_23 X v0 v1 v2 q3.2)) else none) := by
  show pS X 3 (some .int) k_Md_soothe 0 [some (.ref v0), some (.int v1), some (.int v2)] [] h = _
  refine (ss_aload_n rfl rfl).trans ?_
  refine (ss_iconst rfl (v := 0) rfl).trans ?_
  refine (ss_putI rfl).trans ?_
  refine congrArg (Option.bind _) (funext fun h1 => ?_)
  refine (ss_aload_n rfl rfl).trans ?_
  refine (ss_iload_n rfl rfl).trans ?_
  refine (ss_callVI (as := [.int v1]) rfl t_Md_isPerson (by decide) rfl rfl (by decide) (Or.inr rfl) ⟨Nat.le_of_ble_eq_true rfl, Nat.le_of_ble_eq_true rfl⟩).trans ?_
  refine pv_ite ?_ rfl
  refine congrArg (Option.bind _) (funext fun q2 => ?_)
  refine (ss_if_eq rfl).trans ?_
  refine pv_ite ?_ ?_
  · rfl
  · refine (ss_iload_n rfl rfl).trans ?_
    refine (ss_iconst rfl (v := 1) rfl).trans ?_
    refine (ss_bipush rfl (v := 60) rfl).trans ?_
    refine (ss_callSI (as := [.int v2, .int 1, .int 60]) rfl t_Md_within (by decide) rfl rfl (by decide) (Or.inr rfl) ⟨Nat.le_of_ble_eq_true rfl, Nat.le_of_ble_eq_true rfl⟩).trans ?_
    refine congrArg (Option.bind _) (funext fun q3 => ?_)
    refine (ss_if_ne rfl).trans ?_
    refine pv_ite ?_ ?_
    · refine (ss_aload_n rfl rfl).trans ?_
      refine (ss_callVN (as := []) rfl t_Md_keeps (by decide) rfl rfl (by decide) rfl ⟨Nat.le_of_ble_eq_true rfl, Nat.le_of_ble_eq_true rfl⟩).trans ?_
      refine pv_ite ?_ rfl
      refine congrArg (Option.bind _) (funext fun h4 => ?_)
      refine (ss_aload_n rfl rfl).trans ?_
      refine (ss_iconst rfl (v := 0) rfl).trans ?_
      refine (ss_iload_n rfl rfl).trans ?_
      refine (ss_iload_n rfl rfl).trans ?_
      refine (ss_ineg rfl).trans ?_
      refine (ss_callVN (as := [.int 0, .int v1, .int (-v2)]) rfl t_Md_beatsMore (by decide) rfl rfl (by decide) rfl ⟨Nat.le_of_ble_eq_true rfl, Nat.le_of_ble_eq_true rfl⟩).trans ?_
      refine pv_ite ?_ rfl
      refine congrArg (Option.bind _) (funext fun h5 => ?_)
      refine (ss_aload_n rfl rfl).trans ?_
      refine (ss_getR rfl).trans ?_
      refine congrArg (Option.bind _) (funext fun x6 => ?_)
      refine (ss_iconst rfl (v := 1) rfl).trans ?_
      refine (ss_iload_n rfl rfl).trans ?_
      refine (ss_iadd rfl).trans ?_
      refine (ss_iaload rfl).trans ?_
      refine congrArg (Option.bind _) (funext fun x7 => ?_)
      exact ss_ireturn rfl
    · rfl
set_option maxRecDepth 8000 in
theorem u_Md_soothe_23 (X : pv_X) (v0 : Nat) (v1 : Int32) (v2 : Int32) (h : pv_H) : f_Md_soothe_23 X v0 v1 v2 h =
    some (some (.int (-1)), h) := by
  show pS X 3 (some .int) k_Md_soothe 23 [some (.ref v0), some (.int v1), some (.int v2)] [] h = _
  refine (ss_iconst rfl (v := (-1)) rfl).trans ?_
  exact ss_ireturn rfl
theorem e_Md_soothe (X : pv_X) (v0 : Nat) (v1 : Int32) (v2 : Int32) (h : pv_H) : pM X m_Md_soothe [.ref v0, .int v1, .int v2] h = f_Md_soothe_0 X v0 v1 v2 h := rfl
noncomputable def f_Md_quarter_0 (X : pv_X) (v0 : Nat) (h : pv_H) : Option pv_O := pS X 4 (some .int) k_Md_quarter 0 [some (.ref v0)] [] h
set_option maxRecDepth 8000 in
theorem u_Md_quarter_0 (X : pv_X) (v0 : Nat) (h : pv_H) : f_Md_quarter_0 X v0 h =
    (pv_fp h v0 11 0 (.int 0)).bind (fun h1 => if pv_rc h1 v0 11 = true then (pv_tV (pM X m_Md_keeps [.ref v0] h1)).bind (fun h2 => if pv_rc h2 v0 11 = true then (pv_tV (pM X m_Md_passes_1 [.ref v0, .int 0] h2)).bind (fun h3 => if pv_rc h3 v0 11 = true then (pv_tI (pM X m_Md_trueOf [.ref v0, .int 0] h3)).bind (fun q4 => some (some (.int q4.1), q4.2)) else none) else none) else none) := by
  show pS X 4 (some .int) k_Md_quarter 0 [some (.ref v0)] [] h = _
  refine (ss_aload_n rfl rfl).trans ?_
  refine (ss_iconst rfl (v := 0) rfl).trans ?_
  refine (ss_putI rfl).trans ?_
  refine congrArg (Option.bind _) (funext fun h1 => ?_)
  refine (ss_aload_n rfl rfl).trans ?_
  refine (ss_callVN (as := []) rfl t_Md_keeps (by decide) rfl rfl (by decide) rfl ⟨Nat.le_of_ble_eq_true rfl, Nat.le_of_ble_eq_true rfl⟩).trans ?_
  refine pv_ite ?_ rfl
  refine congrArg (Option.bind _) (funext fun h2 => ?_)
  refine (ss_aload_n rfl rfl).trans ?_
  refine (ss_iconst rfl (v := 0) rfl).trans ?_
  refine (ss_callVN (as := [.int 0]) rfl t_Md_passes_1 (by decide) rfl rfl (by decide) rfl ⟨Nat.le_of_ble_eq_true rfl, Nat.le_of_ble_eq_true rfl⟩).trans ?_
  refine pv_ite ?_ rfl
  refine congrArg (Option.bind _) (funext fun h3 => ?_)
  refine (ss_aload_n rfl rfl).trans ?_
  refine (ss_iconst rfl (v := 0) rfl).trans ?_
  refine (ss_callVI (as := [.int 0]) rfl t_Md_trueOf (by decide) rfl rfl (by decide) (Or.inl rfl) ⟨Nat.le_of_ble_eq_true rfl, Nat.le_of_ble_eq_true rfl⟩).trans ?_
  refine pv_ite ?_ rfl
  refine congrArg (Option.bind _) (funext fun q4 => ?_)
  exact ss_ireturn rfl
theorem e_Md_quarter (X : pv_X) (v0 : Nat) (h : pv_H) : pM X m_Md_quarter [.ref v0] h = f_Md_quarter_0 X v0 h := rfl
noncomputable def f_Md_undo_0 (X : pv_X) (v0 : Nat) (h : pv_H) : Option pv_O := pS X 2 (some .boolean) k_Md_undo 0 [some (.ref v0)] [] h
set_option maxRecDepth 8000 in
theorem u_Md_undo_0 (X : pv_X) (v0 : Nat) (h : pv_H) : f_Md_undo_0 X v0 h =
    (pv_fp h v0 11 0 (.int 0)).bind (fun h1 => (pv_fI h1 v0 11 22).bind (fun x2 => if ¬ x2 = 0 then (pv_fI h1 v0 11 22).bind (fun x3 => (pv_fp h1 v0 11 22 (.int (x3 - 1))).bind (fun h4 => (pv_fI h4 v0 11 22).bind (fun x5 => if pv_rc h4 v0 11 = true then (pv_tV (pM X m_Md_copies [.ref v0, .int (51 * (5 + x5)), .int 0, .int 19] h4)).bind (fun h6 => some (some (.int 1), h6)) else none))) else some (some (.int 0), h1))) := by
  show pS X 2 (some .boolean) k_Md_undo 0 [some (.ref v0)] [] h = _
  refine (ss_aload_n rfl rfl).trans ?_
  refine (ss_iconst rfl (v := 0) rfl).trans ?_
  refine (ss_putI rfl).trans ?_
  refine congrArg (Option.bind _) (funext fun h1 => ?_)
  refine (ss_aload_n rfl rfl).trans ?_
  refine (ss_getI rfl).trans ?_
  refine congrArg (Option.bind _) (funext fun x2 => ?_)
  refine (ss_if_ne rfl).trans ?_
  refine pv_ite ?_ ?_
  · refine (ss_aload_n rfl rfl).trans ?_
    refine (ss_dupR rfl).trans ?_
    refine (ss_getI rfl).trans ?_
    refine congrArg (Option.bind _) (funext fun x3 => ?_)
    refine (ss_iconst rfl (v := 1) rfl).trans ?_
    refine (ss_isub rfl).trans ?_
    refine (ss_putI rfl).trans ?_
    refine congrArg (Option.bind _) (funext fun h4 => ?_)
    refine (ss_aload_n rfl rfl).trans ?_
    refine (ss_bipush rfl (v := 51) rfl).trans ?_
    refine (ss_iconst rfl (v := 5) rfl).trans ?_
    refine (ss_aload_n rfl rfl).trans ?_
    refine (ss_getI rfl).trans ?_
    refine congrArg (Option.bind _) (funext fun x5 => ?_)
    refine (ss_iadd rfl).trans ?_
    refine (ss_imul rfl).trans ?_
    refine (ss_iconst rfl (v := 0) rfl).trans ?_
    refine (ss_bipush rfl (v := 19) rfl).trans ?_
    refine (ss_callVN (as := [.int (51 * (5 + x5)), .int 0, .int 19]) rfl t_Md_copies (by decide) rfl rfl (by decide) rfl ⟨Nat.le_of_ble_eq_true rfl, Nat.le_of_ble_eq_true rfl⟩).trans ?_
    refine pv_ite ?_ rfl
    refine congrArg (Option.bind _) (funext fun h6 => ?_)
    refine (ss_iconst rfl (v := 1) rfl).trans ?_
    exact (ss_zreturn rfl).trans (if_pos (by decide))
  · refine (ss_iconst rfl (v := 0) rfl).trans ?_
    exact (ss_zreturn rfl).trans (if_pos (by decide))
theorem e_Md_undo (X : pv_X) (v0 : Nat) (h : pv_H) : pM X m_Md_undo [.ref v0] h = f_Md_undo_0 X v0 h := rfl
noncomputable def f_Md_farOf_0 (X : pv_X) (v0 : Nat) (v1 : Int32) (h : pv_H) : Option pv_O := pS X 4 (some .int) k_Md_farOf 0 [some (.ref v0), some (.int v1), none] [] h
noncomputable def f_Md_farOf_23 (X : pv_X) (v0 : Nat) (v1 : Int32) (v2 : Int32) (s0 : Int32) (h : pv_H) : Option pv_O := pS X 4 (some .int) k_Md_farOf 23 [some (.ref v0), some (.int v1), some (.int v2)] [.int s0] h
set_option maxRecDepth 8000 in
theorem u_Md_farOf_0 (X : pv_X) (v0 : Nat) (v1 : Int32) (h : pv_H) : f_Md_farOf_0 X v0 v1 h =
    if pv_rc h v0 11 = true then (pv_tI (pM X m_Md_worstOf [.ref v0, .int v1] h)).bind (fun q1 => if 0 ≤ q1.1 then if pv_rc q1.2 v0 11 = true then (pv_tI (pM X m_Md_outOf [.ref v0, .int v1, .int q1.1] q1.2)).bind (fun q2 => (pv_tI (pM X m_Md_unsigned [.int q2.1] q2.2)).bind (fun q3 => f_Md_farOf_23 X v0 v1 q1.1 q3.1 q3.2)) else none else f_Md_farOf_23 X v0 v1 q1.1 0 q1.2) else none := by
  show pS X 4 (some .int) k_Md_farOf 0 [some (.ref v0), some (.int v1), none] [] h = _
  refine (ss_aload_n rfl rfl).trans ?_
  refine (ss_iload_n rfl rfl).trans ?_
  refine (ss_callVI (as := [.int v1]) rfl t_Md_worstOf (by decide) rfl rfl (by decide) (Or.inl rfl) ⟨Nat.le_of_ble_eq_true rfl, Nat.le_of_ble_eq_true rfl⟩).trans ?_
  refine pv_ite ?_ rfl
  refine congrArg (Option.bind _) (funext fun q1 => ?_)
  refine (ss_istore_n rfl rfl).trans ?_
  refine (ss_iload_n rfl rfl).trans ?_
  refine (ss_if_ge rfl).trans ?_
  refine pv_ite ?_ ?_
  · refine (ss_aload_n rfl rfl).trans ?_
    refine (ss_iload_n rfl rfl).trans ?_
    refine (ss_iload_n rfl rfl).trans ?_
    refine (ss_callVI (as := [.int v1, .int q1.1]) rfl t_Md_outOf (by decide) rfl rfl (by decide) (Or.inl rfl) ⟨Nat.le_of_ble_eq_true rfl, Nat.le_of_ble_eq_true rfl⟩).trans ?_
    refine pv_ite ?_ rfl
    refine congrArg (Option.bind _) (funext fun q2 => ?_)
    refine (ss_callSI (as := [.int q2.1]) rfl t_Md_unsigned (by decide) rfl rfl (by decide) (Or.inl rfl) ⟨Nat.le_of_ble_eq_true rfl, Nat.le_of_ble_eq_true rfl⟩).trans ?_
    refine congrArg (Option.bind _) (funext fun q3 => ?_)
    rfl
  · refine (ss_iconst rfl (v := 0) rfl).trans ?_
    refine (ss_goto rfl).trans ?_
    rfl
set_option maxRecDepth 8000 in
theorem u_Md_farOf_23 (X : pv_X) (v0 : Nat) (v1 : Int32) (v2 : Int32) (s0 : Int32) (h : pv_H) : f_Md_farOf_23 X v0 v1 v2 s0 h =
    some (some (.int s0), h) := by
  show pS X 4 (some .int) k_Md_farOf 23 [some (.ref v0), some (.int v1), some (.int v2)] [.int s0] h = _
  exact ss_ireturn rfl
theorem e_Md_farOf (X : pv_X) (v0 : Nat) (v1 : Int32) (h : pv_H) : pM X m_Md_farOf [.ref v0, .int v1] h = f_Md_farOf_0 X v0 v1 h := rfl
noncomputable def f_Md_judged_0 (X : pv_X) (v0 : Nat) (v1 : Int32) (h : pv_H) : Option pv_O := pS X 5 (some .int) k_Md_judged 0 [some (.ref v0), some (.int v1), none, none, none, none, none] [] h
noncomputable def f_Md_judged_28 (X : pv_X) (v0 : Nat) (v1 : Int32) (v2 : Int32) (v3 : Int32) (o4 : Option Value) (o5 : Option Value) (o6 : Option Value) (h : pv_H) : Option pv_O := pS X 5 (some .int) k_Md_judged 28 [some (.ref v0), some (.int v1), some (.int v2), some (.int v3), o4, o5, o6] [] h
noncomputable def f_Md_judged_129 (X : pv_X) (v0 : Nat) (v1 : Int32) (v2 : Int32) (v3 : Int32) (v4 : Int32) (v5 : Int32) (v6 : Int32) (s0 : Int32) (s1 : Int32) (s2 : Int32) (s3 : Nat) (h : pv_H) : Option pv_O := pS X 5 (some .int) k_Md_judged 129 [some (.ref v0), some (.int v1), some (.int v2), some (.int v3), some (.int v4), some (.int v5), some (.int v6)] [.int s0, .int s1, .int s2, .ref s3] h
noncomputable def f_Md_judged_132 (X : pv_X) (v0 : Nat) (v1 : Int32) (v2 : Int32) (v3 : Int32) (v4 : Int32) (v5 : Int32) (v6 : Int32) (h : pv_H) : Option pv_O := pS X 5 (some .int) k_Md_judged 132 [some (.ref v0), some (.int v1), some (.int v2), some (.int v3), some (.int v4), some (.int v5), some (.int v6)] [] h
noncomputable def f_Md_judged_152 (X : pv_X) (v0 : Nat) (v1 : Int32) (v2 : Int32) (v3 : Int32) (v4 : Int32) (v5 : Int32) (v6 : Int32) (h : pv_H) : Option pv_O := pS X 5 (some .int) k_Md_judged 152 [some (.ref v0), some (.int v1), some (.int v2), some (.int v3), some (.int v4), some (.int v5), some (.int v6)] [] h
noncomputable def f_Md_judged_153 (X : pv_X) (v0 : Nat) (v1 : Int32) (v2 : Int32) (v3 : Int32) (v4 : Int32) (v5 : Int32) (v6 : Int32) (s0 : Int32) (h : pv_H) : Option pv_O := pS X 5 (some .int) k_Md_judged 153 [some (.ref v0), some (.int v1), some (.int v2), some (.int v3), some (.int v4), some (.int v5), some (.int v6)] [.int s0] h
noncomputable def f_Md_judged_190 (X : pv_X) (v0 : Nat) (v1 : Int32) (v2 : Int32) (v3 : Int32) (o4 : Option Value) (o5 : Option Value) (o6 : Option Value) (s0 : Int32) (h : pv_H) : Option pv_O := pS X 5 (some .int) k_Md_judged 190 [some (.ref v0), some (.int v1), some (.int v2), some (.int v3), o4, o5, o6] [.int s0] h
set_option maxRecDepth 8000 in
theorem u_Md_judged_0 (X : pv_X) (v0 : Nat) (v1 : Int32) (h : pv_H) : f_Md_judged_0 X v0 v1 h =
    (pv_fp h v0 11 0 (.int 0)).bind (fun h1 => (pv_tI (pM X m_Md_within [.int v1, .int 0, .int 2] h1)).bind (fun q2 => if ¬ q2.1 = 0 then if pv_rc q2.2 v0 11 = true then (pv_tV (pM X m_Md_starts [.ref v0, .int 1071] q2.2)).bind (fun h3 => f_Md_judged_28 X v0 v1 (-1) 0 none none none h3) else none else some (some (.int (-2)), q2.2))) := by
  show pS X 5 (some .int) k_Md_judged 0 [some (.ref v0), some (.int v1), none, none, none, none, none] [] h = _
  refine (ss_aload_n rfl rfl).trans ?_
  refine (ss_iconst rfl (v := 0) rfl).trans ?_
  refine (ss_putI rfl).trans ?_
  refine congrArg (Option.bind _) (funext fun h1 => ?_)
  refine (ss_iload_n rfl rfl).trans ?_
  refine (ss_iconst rfl (v := 0) rfl).trans ?_
  refine (ss_iconst rfl (v := 2) rfl).trans ?_
  refine (ss_callSI (as := [.int v1, .int 0, .int 2]) rfl t_Md_within (by decide) rfl rfl (by decide) (Or.inr rfl) ⟨Nat.le_of_ble_eq_true rfl, Nat.le_of_ble_eq_true rfl⟩).trans ?_
  refine congrArg (Option.bind _) (funext fun q2 => ?_)
  refine (ss_if_ne rfl).trans ?_
  refine pv_ite ?_ ?_
  · refine (ss_aload_n rfl rfl).trans ?_
    refine (ss_sipush rfl (v := 1071) rfl).trans ?_
    refine (ss_callVN (as := [.int 1071]) rfl t_Md_starts (by decide) rfl rfl (by decide) rfl ⟨Nat.le_of_ble_eq_true rfl, Nat.le_of_ble_eq_true rfl⟩).trans ?_
    refine pv_ite ?_ rfl
    refine congrArg (Option.bind _) (funext fun h3 => ?_)
    refine (ss_iconst rfl (v := (-1)) rfl).trans ?_
    refine (ss_istore_n rfl rfl).trans ?_
    refine (ss_iconst rfl (v := 0) rfl).trans ?_
    refine (ss_istore_n rfl rfl).trans ?_
    rfl
  · refine (ss_bipush rfl (v := (-2)) rfl).trans ?_
    exact ss_ireturn rfl
set_option maxRecDepth 8000 in
theorem u_Md_judged_28 (X : pv_X) (v0 : Nat) (v1 : Int32) (v2 : Int32) (v3 : Int32) (o4 : Option Value) (o5 : Option Value) (o6 : Option Value) (h : pv_H) : f_Md_judged_28 X v0 v1 v2 v3 o4 o5 o6 h =
    (pv_fR h v0 11 18).bind (fun x1 => (pv_aX X h x1 0).bind (fun x2 => if x2 ≤ v3 then if ¬ v1 = 0 then if ¬ v1 = 1 then if pv_rc h v0 11 = true then (pv_tI (pM X m_Md_sumOf [.ref v0, .int 1084] h)).bind (fun q3 => f_Md_judged_190 X v0 v1 v2 v3 o4 o5 o6 q3.1 q3.2) else none else if pv_rc h v0 11 = true then (pv_tI (pM X m_Md_farOf [.ref v0, .int 1071] h)).bind (fun q4 => f_Md_judged_190 X v0 v1 v2 v3 o4 o5 o6 q4.1 q4.2) else none else f_Md_judged_190 X v0 v1 v2 v3 o4 o5 o6 v2 h else (pv_fR h v0 11 18).bind (fun x5 => (pv_aX X h x5 (1 + (3 * v3))).bind (fun x6 => (pv_fR h v0 11 18).bind (fun x7 => (pv_aX X h x7 (2 + (3 * v3))).bind (fun x8 => (pv_fR h v0 11 18).bind (fun x9 => (pv_aX X h x9 (3 + (3 * v3))).bind (fun x10 => if ¬ x6 = 0 then if ¬ x6 = 3 then if ¬ x6 = 1 then f_Md_judged_129 X v0 v1 v2 v3 x6 x8 x10 (-x10) x8 1071 v0 h else f_Md_judged_129 X v0 v1 v2 v3 x6 x8 x10 x10 x8 1071 v0 h else if pv_rc h v0 11 = true then (pv_tV (pM X m_Md_passes_1 [.ref v0, .int 1071] h)).bind (fun h11 => f_Md_judged_132 X v0 v1 v2 v3 x6 x8 x10 h11) else none else if pv_rc h v0 11 = true then (pv_tV (pM X m_Md_asks [.ref v0, .int 1071, .int x8, .int x10] h)).bind (fun h12 => f_Md_judged_132 X v0 v1 v2 v3 x6 x8 x10 h12) else none)))))))) := by
  show pS X 5 (some .int) k_Md_judged 28 [some (.ref v0), some (.int v1), some (.int v2), some (.int v3), o4, o5, o6] [] h = _
  refine (ss_iload_n rfl rfl).trans ?_
  refine (ss_aload_n rfl rfl).trans ?_
  refine (ss_getR rfl).trans ?_
  refine congrArg (Option.bind _) (funext fun x1 => ?_)
  refine (ss_iconst rfl (v := 0) rfl).trans ?_
  refine (ss_iaload rfl).trans ?_
  refine congrArg (Option.bind _) (funext fun x2 => ?_)
  refine (ss_icmp_ge rfl).trans ?_
  refine pv_ite ?_ ?_
  · refine (ss_iload_n rfl rfl).trans ?_
    refine (ss_if_ne rfl).trans ?_
    refine pv_ite ?_ ?_
    · refine (ss_iload_n rfl rfl).trans ?_
      refine (ss_iconst rfl (v := 1) rfl).trans ?_
      refine (ss_icmp_ne rfl).trans ?_
      refine pv_ite ?_ ?_
      · refine (ss_aload_n rfl rfl).trans ?_
        refine (ss_sipush rfl (v := 1084) rfl).trans ?_
        refine (ss_callVI (as := [.int 1084]) rfl t_Md_sumOf (by decide) rfl rfl (by decide) (Or.inl rfl) ⟨Nat.le_of_ble_eq_true rfl, Nat.le_of_ble_eq_true rfl⟩).trans ?_
        refine pv_ite ?_ rfl
        refine congrArg (Option.bind _) (funext fun q3 => ?_)
        rfl
      · refine (ss_aload_n rfl rfl).trans ?_
        refine (ss_sipush rfl (v := 1071) rfl).trans ?_
        refine (ss_callVI (as := [.int 1071]) rfl t_Md_farOf (by decide) rfl rfl (by decide) (Or.inl rfl) ⟨Nat.le_of_ble_eq_true rfl, Nat.le_of_ble_eq_true rfl⟩).trans ?_
        refine pv_ite ?_ rfl
        refine congrArg (Option.bind _) (funext fun q4 => ?_)
        refine (ss_goto rfl).trans ?_
        rfl
    · refine (ss_iload_n rfl rfl).trans ?_
      refine (ss_goto rfl).trans ?_
      rfl
  · refine (ss_aload_n rfl rfl).trans ?_
    refine (ss_getR rfl).trans ?_
    refine congrArg (Option.bind _) (funext fun x5 => ?_)
    refine (ss_iconst rfl (v := 1) rfl).trans ?_
    refine (ss_iconst rfl (v := 3) rfl).trans ?_
    refine (ss_iload_n rfl rfl).trans ?_
    refine (ss_imul rfl).trans ?_
    refine (ss_iadd rfl).trans ?_
    refine (ss_iaload rfl).trans ?_
    refine congrArg (Option.bind _) (funext fun x6 => ?_)
    refine (ss_istore rfl rfl).trans ?_
    refine (ss_aload_n rfl rfl).trans ?_
    refine (ss_getR rfl).trans ?_
    refine congrArg (Option.bind _) (funext fun x7 => ?_)
    refine (ss_iconst rfl (v := 2) rfl).trans ?_
    refine (ss_iconst rfl (v := 3) rfl).trans ?_
    refine (ss_iload_n rfl rfl).trans ?_
    refine (ss_imul rfl).trans ?_
    refine (ss_iadd rfl).trans ?_
    refine (ss_iaload rfl).trans ?_
    refine congrArg (Option.bind _) (funext fun x8 => ?_)
    refine (ss_istore rfl rfl).trans ?_
    refine (ss_aload_n rfl rfl).trans ?_
    refine (ss_getR rfl).trans ?_
    refine congrArg (Option.bind _) (funext fun x9 => ?_)
    refine (ss_iconst rfl (v := 3) rfl).trans ?_
    refine (ss_iconst rfl (v := 3) rfl).trans ?_
    refine (ss_iload_n rfl rfl).trans ?_
    refine (ss_imul rfl).trans ?_
    refine (ss_iadd rfl).trans ?_
    refine (ss_iaload rfl).trans ?_
    refine congrArg (Option.bind _) (funext fun x10 => ?_)
    refine (ss_istore rfl rfl).trans ?_
    refine (ss_iload rfl rfl).trans ?_
    refine (ss_if_ne rfl).trans ?_
    refine pv_ite ?_ ?_
    · refine (ss_iload rfl rfl).trans ?_
      refine (ss_iconst rfl (v := 3) rfl).trans ?_
      refine (ss_icmp_ne rfl).trans ?_
      refine pv_ite ?_ ?_
      · refine (ss_aload_n rfl rfl).trans ?_
        refine (ss_sipush rfl (v := 1071) rfl).trans ?_
        refine (ss_iload rfl rfl).trans ?_
        refine (ss_iload rfl rfl).trans ?_
        refine (ss_iconst rfl (v := 1) rfl).trans ?_
        refine (ss_icmp_ne rfl).trans ?_
        refine pv_ite ?_ ?_
        · refine (ss_iload rfl rfl).trans ?_
          refine (ss_ineg rfl).trans ?_
          rfl
        · refine (ss_iload rfl rfl).trans ?_
          refine (ss_goto rfl).trans ?_
          rfl
      · refine (ss_aload_n rfl rfl).trans ?_
        refine (ss_sipush rfl (v := 1071) rfl).trans ?_
        refine (ss_callVN (as := [.int 1071]) rfl t_Md_passes_1 (by decide) rfl rfl (by decide) rfl ⟨Nat.le_of_ble_eq_true rfl, Nat.le_of_ble_eq_true rfl⟩).trans ?_
        refine pv_ite ?_ rfl
        refine congrArg (Option.bind _) (funext fun h11 => ?_)
        refine (ss_goto rfl).trans ?_
        rfl
    · refine (ss_aload_n rfl rfl).trans ?_
      refine (ss_sipush rfl (v := 1071) rfl).trans ?_
      refine (ss_iload rfl rfl).trans ?_
      refine (ss_iload rfl rfl).trans ?_
      refine (ss_callVN (as := [.int 1071, .int x8, .int x10]) rfl t_Md_asks (by decide) rfl rfl (by decide) rfl ⟨Nat.le_of_ble_eq_true rfl, Nat.le_of_ble_eq_true rfl⟩).trans ?_
      refine pv_ite ?_ rfl
      refine congrArg (Option.bind _) (funext fun h12 => ?_)
      refine (ss_goto rfl).trans ?_
      rfl
set_option maxRecDepth 8000 in
theorem u_Md_judged_129 (X : pv_X) (v0 : Nat) (v1 : Int32) (v2 : Int32) (v3 : Int32) (v4 : Int32) (v5 : Int32) (v6 : Int32) (s0 : Int32) (s1 : Int32) (s2 : Int32) (s3 : Nat) (h : pv_H) : f_Md_judged_129 X v0 v1 v2 v3 v4 v5 v6 s0 s1 s2 s3 h =
    if pv_rc h s3 11 = true then (pv_tV (pM X m_Md_beatsMore [.ref s3, .int s2, .int s1, .int s0] h)).bind (fun h1 => f_Md_judged_132 X v0 v1 v2 v3 v4 v5 v6 h1) else none := by
  show pS X 5 (some .int) k_Md_judged 129 [some (.ref v0), some (.int v1), some (.int v2), some (.int v3), some (.int v4), some (.int v5), some (.int v6)] [.int s0, .int s1, .int s2, .ref s3] h = _
  refine (ss_callVN (as := [.int s2, .int s1, .int s0]) rfl t_Md_beatsMore (by decide) rfl rfl (by decide) rfl ⟨Nat.le_of_ble_eq_true rfl, Nat.le_of_ble_eq_true rfl⟩).trans ?_
  refine pv_ite ?_ rfl
  refine congrArg (Option.bind _) (funext fun h1 => ?_)
  rfl
set_option maxRecDepth 8000 in
theorem u_Md_judged_132 (X : pv_X) (v0 : Nat) (v1 : Int32) (v2 : Int32) (v3 : Int32) (v4 : Int32) (v5 : Int32) (v6 : Int32) (h : pv_H) : f_Md_judged_132 X v0 v1 v2 v3 v4 v5 v6 h =
    if 0 ≤ v2 then f_Md_judged_152 X v0 v1 v2 v3 v4 v5 v6 h else if pv_rc h v0 11 = true then (pv_tI (pM X m_Md_farOf [.ref v0, .int 1071] h)).bind (fun q1 => if q1.1 < 60 then f_Md_judged_152 X v0 v1 v2 v3 v4 v5 v6 q1.2 else f_Md_judged_153 X v0 v1 v2 v3 v4 v5 v6 v3 q1.2) else none := by
  show pS X 5 (some .int) k_Md_judged 132 [some (.ref v0), some (.int v1), some (.int v2), some (.int v3), some (.int v4), some (.int v5), some (.int v6)] [] h = _
  refine (ss_iload_n rfl rfl).trans ?_
  refine (ss_if_ge rfl).trans ?_
  refine pv_ite ?_ ?_
  · rfl
  · refine (ss_aload_n rfl rfl).trans ?_
    refine (ss_sipush rfl (v := 1071) rfl).trans ?_
    refine (ss_callVI (as := [.int 1071]) rfl t_Md_farOf (by decide) rfl rfl (by decide) (Or.inl rfl) ⟨Nat.le_of_ble_eq_true rfl, Nat.le_of_ble_eq_true rfl⟩).trans ?_
    refine pv_ite ?_ rfl
    refine congrArg (Option.bind _) (funext fun q1 => ?_)
    refine (ss_bipush rfl (v := 60) rfl).trans ?_
    refine (ss_icmp_lt rfl).trans ?_
    refine pv_ite ?_ ?_
    · rfl
    · refine (ss_iload_n rfl rfl).trans ?_
      refine (ss_goto rfl).trans ?_
      rfl
set_option maxRecDepth 8000 in
theorem u_Md_judged_152 (X : pv_X) (v0 : Nat) (v1 : Int32) (v2 : Int32) (v3 : Int32) (v4 : Int32) (v5 : Int32) (v6 : Int32) (h : pv_H) : f_Md_judged_152 X v0 v1 v2 v3 v4 v5 v6 h =
    f_Md_judged_153 X v0 v1 v2 v3 v4 v5 v6 v2 h := by
  show pS X 5 (some .int) k_Md_judged 152 [some (.ref v0), some (.int v1), some (.int v2), some (.int v3), some (.int v4), some (.int v5), some (.int v6)] [] h = _
  refine (ss_iload_n rfl rfl).trans ?_
  rfl
set_option maxRecDepth 8000 in
theorem u_Md_judged_153 (X : pv_X) (v0 : Nat) (v1 : Int32) (v2 : Int32) (v3 : Int32) (v4 : Int32) (v5 : Int32) (v6 : Int32) (s0 : Int32) (h : pv_H) : f_Md_judged_153 X v0 v1 v2 v3 v4 v5 v6 s0 h =
    f_Md_judged_28 X v0 v1 s0 (v3 + 1) (some (.int v4)) (some (.int v5)) (some (.int v6)) h := by
  show pS X 5 (some .int) k_Md_judged 153 [some (.ref v0), some (.int v1), some (.int v2), some (.int v3), some (.int v4), some (.int v5), some (.int v6)] [.int s0] h = _
  refine (ss_istore_n rfl rfl).trans ?_
  refine (ss_iinc3 rfl rfl (v := v3 + 1) (congrArg (HAdd.hAdd _) (show Int32.ofInt (1) = 1 by decide)) rfl).trans ?_
  refine (ss_goto rfl).trans ?_
  rfl
set_option maxRecDepth 8000 in
theorem u_Md_judged_190 (X : pv_X) (v0 : Nat) (v1 : Int32) (v2 : Int32) (v3 : Int32) (o4 : Option Value) (o5 : Option Value) (o6 : Option Value) (s0 : Int32) (h : pv_H) : f_Md_judged_190 X v0 v1 v2 v3 o4 o5 o6 s0 h =
    some (some (.int s0), h) := by
  show pS X 5 (some .int) k_Md_judged 190 [some (.ref v0), some (.int v1), some (.int v2), some (.int v3), o4, o5, o6] [.int s0] h = _
  exact ss_ireturn rfl
theorem e_Md_judged (X : pv_X) (v0 : Nat) (v1 : Int32) (h : pv_H) : pM X m_Md_judged [.ref v0, .int v1] h = f_Md_judged_0 X v0 v1 h := rfl
noncomputable def f_Md_triesNow_0 (X : pv_X) (v0 : Nat) (h : pv_H) : Option pv_O := pS X 2 (none) k_Md_triesNow 0 [some (.ref v0)] [] h
set_option maxRecDepth 8000 in
theorem u_Md_triesNow_0 (X : pv_X) (v0 : Nat) (h : pv_H) : f_Md_triesNow_0 X v0 h =
    if pv_rc h v0 11 = true then (pv_tV (pM X m_Md_copies [.ref v0, .int 0, .int 1071, .int 19] h)).bind (fun h1 => some (none, h1)) else none := by
  show pS X 2 (none) k_Md_triesNow 0 [some (.ref v0)] [] h = _
  refine (ss_aload_n rfl rfl).trans ?_
  refine (ss_iconst rfl (v := 0) rfl).trans ?_
  refine (ss_sipush rfl (v := 1071) rfl).trans ?_
  refine (ss_bipush rfl (v := 19) rfl).trans ?_
  refine (ss_callVN (as := [.int 0, .int 1071, .int 19]) rfl t_Md_copies (by decide) rfl rfl (by decide) rfl ⟨Nat.le_of_ble_eq_true rfl, Nat.le_of_ble_eq_true rfl⟩).trans ?_
  refine pv_ite ?_ rfl
  refine congrArg (Option.bind _) (funext fun h1 => ?_)
  exact ss_return rfl
theorem e_Md_triesNow (X : pv_X) (v0 : Nat) (h : pv_H) : pM X m_Md_triesNow [.ref v0] h = f_Md_triesNow_0 X v0 h := rfl
noncomputable def f_Md_runs_0 (X : pv_X) (v0 : Nat) (v1 : Int32) (h : pv_H) : Option pv_O := pS X 4 (none) k_Md_runs 0 [some (.ref v0), some (.int v1), none] [] h
noncomputable def f_Md_runs_2 (X : pv_X) (v0 : Nat) (v1 : Int32) (v2 : Int32) (h : pv_H) : Option pv_O := pS X 4 (none) k_Md_runs 2 [some (.ref v0), some (.int v1), some (.int v2)] [] h
set_option maxRecDepth 8000 in
theorem u_Md_runs_0 (X : pv_X) (v0 : Nat) (v1 : Int32) (h : pv_H) : f_Md_runs_0 X v0 v1 h =
    f_Md_runs_2 X v0 v1 0 h := by
  show pS X 4 (none) k_Md_runs 0 [some (.ref v0), some (.int v1), none] [] h = _
  refine (ss_iconst rfl (v := 0) rfl).trans ?_
  refine (ss_istore_n rfl rfl).trans ?_
  rfl
set_option maxRecDepth 8000 in
theorem u_Md_runs_2 (X : pv_X) (v0 : Nat) (v1 : Int32) (v2 : Int32) (h : pv_H) : f_Md_runs_2 X v0 v1 v2 h =
    if v1 ≤ v2 then some (none, h) else if pv_rc h v0 11 = true then (pv_tV (pM X m_Md_passes_1 [.ref v0, .int 1071] h)).bind (fun h1 => f_Md_runs_2 X v0 v1 (v2 + 1) h1) else none := by
  show pS X 4 (none) k_Md_runs 2 [some (.ref v0), some (.int v1), some (.int v2)] [] h = _
  refine (ss_iload_n rfl rfl).trans ?_
  refine (ss_iload_n rfl rfl).trans ?_
  refine (ss_icmp_ge rfl).trans ?_
  refine pv_ite ?_ ?_
  · exact ss_return rfl
  · refine (ss_aload_n rfl rfl).trans ?_
    refine (ss_sipush rfl (v := 1071) rfl).trans ?_
    refine (ss_callVN (as := [.int 1071]) rfl t_Md_passes_1 (by decide) rfl rfl (by decide) rfl ⟨Nat.le_of_ble_eq_true rfl, Nat.le_of_ble_eq_true rfl⟩).trans ?_
    refine pv_ite ?_ rfl
    refine congrArg (Option.bind _) (funext fun h1 => ?_)
    refine (ss_iinc3 rfl rfl (v := v2 + 1) (congrArg (HAdd.hAdd _) (show Int32.ofInt (1) = 1 by decide)) rfl).trans ?_
    refine (ss_goto rfl).trans ?_
    rfl
theorem e_Md_runs (X : pv_X) (v0 : Nat) (v1 : Int32) (h : pv_H) : pM X m_Md_runs [.ref v0, .int v1] h = f_Md_runs_0 X v0 v1 h := rfl
noncomputable def f_Md_outBehind_0 (X : pv_X) (v0 : Nat) (v1 : Int32) (v2 : Int32) (h : pv_H) : Option pv_O := pS X 5 (some .int) k_Md_outBehind 0 [some (.ref v0), some (.int v1), some (.int v2)] [] h
set_option maxRecDepth 8000 in
theorem u_Md_outBehind_0 (X : pv_X) (v0 : Nat) (v1 : Int32) (v2 : Int32) (h : pv_H) : f_Md_outBehind_0 X v0 v1 v2 h =
    if pv_rc h v0 11 = true then (pv_tV (pM X m_Md_triesNow [.ref v0] h)).bind (fun h1 => if pv_rc h1 v0 11 = true then (pv_tV (pM X m_Md_runs [.ref v0, .int v2] h1)).bind (fun h2 => if pv_rc h2 v0 11 = true then (pv_tI (pM X m_Md_outOf [.ref v0, .int 1071, .int v1] h2)).bind (fun q3 => some (some (.int q3.1), q3.2)) else none) else none) else none := by
  show pS X 5 (some .int) k_Md_outBehind 0 [some (.ref v0), some (.int v1), some (.int v2)] [] h = _
  refine (ss_aload_n rfl rfl).trans ?_
  refine (ss_callVN (as := []) rfl t_Md_triesNow (by decide) rfl rfl (by decide) rfl ⟨Nat.le_of_ble_eq_true rfl, Nat.le_of_ble_eq_true rfl⟩).trans ?_
  refine pv_ite ?_ rfl
  refine congrArg (Option.bind _) (funext fun h1 => ?_)
  refine (ss_aload_n rfl rfl).trans ?_
  refine (ss_iload_n rfl rfl).trans ?_
  refine (ss_callVN (as := [.int v2]) rfl t_Md_runs (by decide) rfl rfl (by decide) rfl ⟨Nat.le_of_ble_eq_true rfl, Nat.le_of_ble_eq_true rfl⟩).trans ?_
  refine pv_ite ?_ rfl
  refine congrArg (Option.bind _) (funext fun h2 => ?_)
  refine (ss_aload_n rfl rfl).trans ?_
  refine (ss_sipush rfl (v := 1071) rfl).trans ?_
  refine (ss_iload_n rfl rfl).trans ?_
  refine (ss_callVI (as := [.int 1071, .int v1]) rfl t_Md_outOf (by decide) rfl rfl (by decide) (Or.inl rfl) ⟨Nat.le_of_ble_eq_true rfl, Nat.le_of_ble_eq_true rfl⟩).trans ?_
  refine pv_ite ?_ rfl
  refine congrArg (Option.bind _) (funext fun q3 => ?_)
  exact ss_ireturn rfl
theorem e_Md_outBehind (X : pv_X) (v0 : Nat) (v1 : Int32) (v2 : Int32) (h : pv_H) : pM X m_Md_outBehind [.ref v0, .int v1, .int v2] h = f_Md_outBehind_0 X v0 v1 v2 h := rfl
noncomputable def f_Md_later_0 (X : pv_X) (v0 : Nat) (v1 : Int32) (v2 : Int32) (h : pv_H) : Option pv_O := pS X 6 (some .int) k_Md_later 0 [some (.ref v0), some (.int v1), some (.int v2)] [] h
noncomputable def f_Md_later_32 (X : pv_X) (v0 : Nat) (v1 : Int32) (v2 : Int32) (h : pv_H) : Option pv_O := pS X 6 (some .int) k_Md_later 32 [some (.ref v0), some (.int v1), some (.int v2)] [] h
noncomputable def f_Md_later_35 (X : pv_X) (v0 : Nat) (v1 : Int32) (v2 : Int32) (s0 : Int32) (h : pv_H) : Option pv_O := pS X 6 (some .int) k_Md_later 35 [some (.ref v0), some (.int v1), some (.int v2)] [.int s0] h
set_option maxRecDepth 8000 in
theorem u_Md_later_0 (X : pv_X) (v0 : Nat) (v1 : Int32) (v2 : Int32) (h : pv_H) : f_Md_later_0 X v0 v1 v2 h =
    (pv_fp h v0 11 0 (.int 0)).bind (fun h1 => if pv_rc h1 v0 11 = true then (pv_tI (pM X m_Md_isPerson [.ref v0, .int v1] h1)).bind (fun q2 => if q2.1 = 0 then f_Md_later_32 X v0 v1 v2 q2.2 else (pv_tI (pM X m_Md_within [.int v2, .int 0, .int 96] q2.2)).bind (fun q3 => if q3.1 = 0 then f_Md_later_32 X v0 v1 v2 q3.2 else if pv_rc q3.2 v0 11 = true then (pv_tI (pM X m_Md_outBehind [.ref v0, .int v1, .int v2] q3.2)).bind (fun q4 => f_Md_later_35 X v0 v1 v2 q4.1 q4.2) else none)) else none) := by
  show pS X 6 (some .int) k_Md_later 0 [some (.ref v0), some (.int v1), some (.int v2)] [] h = _
  refine (ss_aload_n rfl rfl).trans ?_
  refine (ss_iconst rfl (v := 0) rfl).trans ?_
  refine (ss_putI rfl).trans ?_
  refine congrArg (Option.bind _) (funext fun h1 => ?_)
  refine (ss_aload_n rfl rfl).trans ?_
  refine (ss_iload_n rfl rfl).trans ?_
  refine (ss_callVI (as := [.int v1]) rfl t_Md_isPerson (by decide) rfl rfl (by decide) (Or.inr rfl) ⟨Nat.le_of_ble_eq_true rfl, Nat.le_of_ble_eq_true rfl⟩).trans ?_
  refine pv_ite ?_ rfl
  refine congrArg (Option.bind _) (funext fun q2 => ?_)
  refine (ss_if_eq rfl).trans ?_
  refine pv_ite ?_ ?_
  · rfl
  · refine (ss_iload_n rfl rfl).trans ?_
    refine (ss_iconst rfl (v := 0) rfl).trans ?_
    refine (ss_bipush rfl (v := 96) rfl).trans ?_
    refine (ss_callSI (as := [.int v2, .int 0, .int 96]) rfl t_Md_within (by decide) rfl rfl (by decide) (Or.inr rfl) ⟨Nat.le_of_ble_eq_true rfl, Nat.le_of_ble_eq_true rfl⟩).trans ?_
    refine congrArg (Option.bind _) (funext fun q3 => ?_)
    refine (ss_if_eq rfl).trans ?_
    refine pv_ite ?_ ?_
    · rfl
    · refine (ss_aload_n rfl rfl).trans ?_
      refine (ss_iload_n rfl rfl).trans ?_
      refine (ss_iload_n rfl rfl).trans ?_
      refine (ss_callVI (as := [.int v1, .int v2]) rfl t_Md_outBehind (by decide) rfl rfl (by decide) (Or.inl rfl) ⟨Nat.le_of_ble_eq_true rfl, Nat.le_of_ble_eq_true rfl⟩).trans ?_
      refine pv_ite ?_ rfl
      refine congrArg (Option.bind _) (funext fun q4 => ?_)
      refine (ss_goto rfl).trans ?_
      rfl
set_option maxRecDepth 8000 in
theorem u_Md_later_32 (X : pv_X) (v0 : Nat) (v1 : Int32) (v2 : Int32) (h : pv_H) : f_Md_later_32 X v0 v1 v2 h =
    f_Md_later_35 X v0 v1 v2 (-1000) h := by
  show pS X 6 (some .int) k_Md_later 32 [some (.ref v0), some (.int v1), some (.int v2)] [] h = _
  refine (ss_sipush rfl (v := (-1000)) rfl).trans ?_
  rfl
set_option maxRecDepth 8000 in
theorem u_Md_later_35 (X : pv_X) (v0 : Nat) (v1 : Int32) (v2 : Int32) (s0 : Int32) (h : pv_H) : f_Md_later_35 X v0 v1 v2 s0 h =
    some (some (.int s0), h) := by
  show pS X 6 (some .int) k_Md_later 35 [some (.ref v0), some (.int v1), some (.int v2)] [.int s0] h = _
  exact ss_ireturn rfl
theorem e_Md_later (X : pv_X) (v0 : Nat) (v1 : Int32) (v2 : Int32) (h : pv_H) : pM X m_Md_later [.ref v0, .int v1, .int v2] h = f_Md_later_0 X v0 v1 v2 h := rfl
noncomputable def f_Md_drift_0 (X : pv_X) (v0 : Nat) (v1 : Int32) (v2 : Int32) (h : pv_H) : Option pv_O := pS X 6 (some .int) k_Md_drift 0 [some (.ref v0), some (.int v1), some (.int v2)] [] h
noncomputable def f_Md_drift_45 (X : pv_X) (v0 : Nat) (v1 : Int32) (v2 : Int32) (h : pv_H) : Option pv_O := pS X 6 (some .int) k_Md_drift 45 [some (.ref v0), some (.int v1), some (.int v2)] [] h
noncomputable def f_Md_drift_48 (X : pv_X) (v0 : Nat) (v1 : Int32) (v2 : Int32) (s0 : Int32) (h : pv_H) : Option pv_O := pS X 6 (some .int) k_Md_drift 48 [some (.ref v0), some (.int v1), some (.int v2)] [.int s0] h
set_option maxRecDepth 8000 in
theorem u_Md_drift_0 (X : pv_X) (v0 : Nat) (v1 : Int32) (v2 : Int32) (h : pv_H) : f_Md_drift_0 X v0 v1 v2 h =
    (pv_fp h v0 11 0 (.int 0)).bind (fun h1 => if pv_rc h1 v0 11 = true then (pv_tI (pM X m_Md_isPerson [.ref v0, .int v1] h1)).bind (fun q2 => if q2.1 = 0 then f_Md_drift_45 X v0 v1 v2 q2.2 else (pv_tI (pM X m_Md_within [.int v2, .int 1, .int 96] q2.2)).bind (fun q3 => if q3.1 = 0 then f_Md_drift_45 X v0 v1 v2 q3.2 else if pv_rc q3.2 v0 11 = true then (pv_tI (pM X m_Md_outBehind [.ref v0, .int v1, .int v2] q3.2)).bind (fun q4 => (pv_tI (pM X m_Md_unsigned [.int q4.1] q4.2)).bind (fun q5 => if pv_rc q5.2 v0 11 = true then (pv_tI (pM X m_Md_outOf [.ref v0, .int 0, .int v1] q5.2)).bind (fun q6 => (pv_tI (pM X m_Md_unsigned [.int q6.1] q6.2)).bind (fun q7 => f_Md_drift_48 X v0 v1 v2 (q5.1 - q7.1) q7.2)) else none)) else none)) else none) := by
  show pS X 6 (some .int) k_Md_drift 0 [some (.ref v0), some (.int v1), some (.int v2)] [] h = _
  refine (ss_aload_n rfl rfl).trans ?_
  refine (ss_iconst rfl (v := 0) rfl).trans ?_
  refine (ss_putI rfl).trans ?_
  refine congrArg (Option.bind _) (funext fun h1 => ?_)
  refine (ss_aload_n rfl rfl).trans ?_
  refine (ss_iload_n rfl rfl).trans ?_
  refine (ss_callVI (as := [.int v1]) rfl t_Md_isPerson (by decide) rfl rfl (by decide) (Or.inr rfl) ⟨Nat.le_of_ble_eq_true rfl, Nat.le_of_ble_eq_true rfl⟩).trans ?_
  refine pv_ite ?_ rfl
  refine congrArg (Option.bind _) (funext fun q2 => ?_)
  refine (ss_if_eq rfl).trans ?_
  refine pv_ite ?_ ?_
  · rfl
  · refine (ss_iload_n rfl rfl).trans ?_
    refine (ss_iconst rfl (v := 1) rfl).trans ?_
    refine (ss_bipush rfl (v := 96) rfl).trans ?_
    refine (ss_callSI (as := [.int v2, .int 1, .int 96]) rfl t_Md_within (by decide) rfl rfl (by decide) (Or.inr rfl) ⟨Nat.le_of_ble_eq_true rfl, Nat.le_of_ble_eq_true rfl⟩).trans ?_
    refine congrArg (Option.bind _) (funext fun q3 => ?_)
    refine (ss_if_eq rfl).trans ?_
    refine pv_ite ?_ ?_
    · rfl
    · refine (ss_aload_n rfl rfl).trans ?_
      refine (ss_iload_n rfl rfl).trans ?_
      refine (ss_iload_n rfl rfl).trans ?_
      refine (ss_callVI (as := [.int v1, .int v2]) rfl t_Md_outBehind (by decide) rfl rfl (by decide) (Or.inl rfl) ⟨Nat.le_of_ble_eq_true rfl, Nat.le_of_ble_eq_true rfl⟩).trans ?_
      refine pv_ite ?_ rfl
      refine congrArg (Option.bind _) (funext fun q4 => ?_)
      refine (ss_callSI (as := [.int q4.1]) rfl t_Md_unsigned (by decide) rfl rfl (by decide) (Or.inl rfl) ⟨Nat.le_of_ble_eq_true rfl, Nat.le_of_ble_eq_true rfl⟩).trans ?_
      refine congrArg (Option.bind _) (funext fun q5 => ?_)
      refine (ss_aload_n rfl rfl).trans ?_
      refine (ss_iconst rfl (v := 0) rfl).trans ?_
      refine (ss_iload_n rfl rfl).trans ?_
      refine (ss_callVI (as := [.int 0, .int v1]) rfl t_Md_outOf (by decide) rfl rfl (by simp [Value.category]) (Or.inl rfl) ⟨Nat.le_of_ble_eq_true rfl, Nat.le_of_ble_eq_true rfl⟩).trans ?_
      refine pv_ite ?_ rfl
      refine congrArg (Option.bind _) (funext fun q6 => ?_)
      refine (ss_callSI (as := [.int q6.1]) rfl t_Md_unsigned (by decide) rfl rfl (by simp [Value.category]) (Or.inl rfl) ⟨Nat.le_of_ble_eq_true rfl, Nat.le_of_ble_eq_true rfl⟩).trans ?_
      refine congrArg (Option.bind _) (funext fun q7 => ?_)
      refine (ss_isub rfl).trans ?_
      refine (ss_goto rfl).trans ?_
      rfl
set_option maxRecDepth 8000 in
theorem u_Md_drift_45 (X : pv_X) (v0 : Nat) (v1 : Int32) (v2 : Int32) (h : pv_H) : f_Md_drift_45 X v0 v1 v2 h =
    f_Md_drift_48 X v0 v1 v2 (-1000) h := by
  show pS X 6 (some .int) k_Md_drift 45 [some (.ref v0), some (.int v1), some (.int v2)] [] h = _
  refine (ss_sipush rfl (v := (-1000)) rfl).trans ?_
  rfl
set_option maxRecDepth 8000 in
theorem u_Md_drift_48 (X : pv_X) (v0 : Nat) (v1 : Int32) (v2 : Int32) (s0 : Int32) (h : pv_H) : f_Md_drift_48 X v0 v1 v2 s0 h =
    some (some (.int s0), h) := by
  show pS X 6 (some .int) k_Md_drift 48 [some (.ref v0), some (.int v1), some (.int v2)] [.int s0] h = _
  exact ss_ireturn rfl
theorem e_Md_drift (X : pv_X) (v0 : Nat) (v1 : Int32) (v2 : Int32) (h : pv_H) : pM X m_Md_drift [.ref v0, .int v1, .int v2] h = f_Md_drift_0 X v0 v1 v2 h := rfl
noncomputable def f_Md_train_0 (X : pv_X) (v0 : Nat) (v1 : Int32) (v2 : Int32) (h : pv_H) : Option pv_O := pS X 6 (some .int) k_Md_train 0 [some (.ref v0), some (.int v1), some (.int v2), none] [] h
noncomputable def f_Md_train_23 (X : pv_X) (v0 : Nat) (v1 : Int32) (v2 : Int32) (h : pv_H) : Option pv_O := pS X 6 (some .int) k_Md_train 23 [some (.ref v0), some (.int v1), some (.int v2), none] [] h
noncomputable def f_Md_train_42 (X : pv_X) (v0 : Nat) (v1 : Int32) (v2 : Int32) (v3 : Int32) (s0 : Int32) (h : pv_H) : Option pv_O := pS X 6 (some .int) k_Md_train 42 [some (.ref v0), some (.int v1), some (.int v2), some (.int v3)] [.int s0] h
set_option maxRecDepth 8000 in
theorem u_Md_train_0 (X : pv_X) (v0 : Nat) (v1 : Int32) (v2 : Int32) (h : pv_H) : f_Md_train_0 X v0 v1 v2 h =
    (pv_fp h v0 11 0 (.int 0)).bind (fun h1 => if pv_rc h1 v0 11 = true then (pv_tI (pM X m_Md_isPerson [.ref v0, .int v1] h1)).bind (fun q2 => if q2.1 = 0 then f_Md_train_23 X v0 v1 v2 q2.2 else (pv_tI (pM X m_Md_within [.int v2, .int 1, .int 96] q2.2)).bind (fun q3 => if ¬ q3.1 = 0 then if pv_rc q3.2 v0 11 = true then (pv_tI (pM X m_Md_outBehind [.ref v0, .int v1, .int v2] q3.2)).bind (fun q4 => if 0 ≤ q4.1 then f_Md_train_42 X v0 v1 v2 q4.1 0 q4.2 else f_Md_train_42 X v0 v1 v2 q4.1 (-q4.1) q4.2) else none else f_Md_train_23 X v0 v1 v2 q3.2)) else none) := by
  show pS X 6 (some .int) k_Md_train 0 [some (.ref v0), some (.int v1), some (.int v2), none] [] h = _
  refine (ss_aload_n rfl rfl).trans ?_
  refine (ss_iconst rfl (v := 0) rfl).trans ?_
  refine (ss_putI rfl).trans ?_
  refine congrArg (Option.bind _) (funext fun h1 => ?_)
  refine (ss_aload_n rfl rfl).trans ?_
  refine (ss_iload_n rfl rfl).trans ?_
  refine (ss_callVI (as := [.int v1]) rfl t_Md_isPerson (by decide) rfl rfl (by decide) (Or.inr rfl) ⟨Nat.le_of_ble_eq_true rfl, Nat.le_of_ble_eq_true rfl⟩).trans ?_
  refine pv_ite ?_ rfl
  refine congrArg (Option.bind _) (funext fun q2 => ?_)
  refine (ss_if_eq rfl).trans ?_
  refine pv_ite ?_ ?_
  · rfl
  · refine (ss_iload_n rfl rfl).trans ?_
    refine (ss_iconst rfl (v := 1) rfl).trans ?_
    refine (ss_bipush rfl (v := 96) rfl).trans ?_
    refine (ss_callSI (as := [.int v2, .int 1, .int 96]) rfl t_Md_within (by decide) rfl rfl (by decide) (Or.inr rfl) ⟨Nat.le_of_ble_eq_true rfl, Nat.le_of_ble_eq_true rfl⟩).trans ?_
    refine congrArg (Option.bind _) (funext fun q3 => ?_)
    refine (ss_if_ne rfl).trans ?_
    refine pv_ite ?_ ?_
    · refine (ss_aload_n rfl rfl).trans ?_
      refine (ss_iload_n rfl rfl).trans ?_
      refine (ss_iload_n rfl rfl).trans ?_
      refine (ss_callVI (as := [.int v1, .int v2]) rfl t_Md_outBehind (by decide) rfl rfl (by decide) (Or.inl rfl) ⟨Nat.le_of_ble_eq_true rfl, Nat.le_of_ble_eq_true rfl⟩).trans ?_
      refine pv_ite ?_ rfl
      refine congrArg (Option.bind _) (funext fun q4 => ?_)
      refine (ss_istore_n rfl rfl).trans ?_
      refine (ss_iload_n rfl rfl).trans ?_
      refine (ss_if_ge rfl).trans ?_
      refine pv_ite ?_ ?_
      · refine (ss_iconst rfl (v := 0) rfl).trans ?_
        rfl
      · refine (ss_iload_n rfl rfl).trans ?_
        refine (ss_ineg rfl).trans ?_
        refine (ss_goto rfl).trans ?_
        rfl
    · rfl
set_option maxRecDepth 8000 in
theorem u_Md_train_23 (X : pv_X) (v0 : Nat) (v1 : Int32) (v2 : Int32) (h : pv_H) : f_Md_train_23 X v0 v1 v2 h =
    some (some (.int (-1)), h) := by
  show pS X 6 (some .int) k_Md_train 23 [some (.ref v0), some (.int v1), some (.int v2), none] [] h = _
  refine (ss_iconst rfl (v := (-1)) rfl).trans ?_
  exact ss_ireturn rfl
set_option maxRecDepth 8000 in
theorem u_Md_train_42 (X : pv_X) (v0 : Nat) (v1 : Int32) (v2 : Int32) (v3 : Int32) (s0 : Int32) (h : pv_H) : f_Md_train_42 X v0 v1 v2 v3 s0 h =
    some (some (.int s0), h) := by
  show pS X 6 (some .int) k_Md_train 42 [some (.ref v0), some (.int v1), some (.int v2), some (.int v3)] [.int s0] h = _
  exact ss_ireturn rfl
theorem e_Md_train (X : pv_X) (v0 : Nat) (v1 : Int32) (v2 : Int32) (h : pv_H) : pM X m_Md_train [.ref v0, .int v1, .int v2] h = f_Md_train_0 X v0 v1 v2 h := rfl
noncomputable def f_Md_missed_0 (X : pv_X) (v0 : Nat) (v1 : Int32) (h : pv_H) : Option pv_O := pS X 5 (some .int) k_Md_missed 0 [some (.ref v0), some (.int v1), none, none] [] h
noncomputable def f_Md_missed_30 (X : pv_X) (v0 : Nat) (v1 : Int32) (v2 : Int32) (v3 : Int32) (h : pv_H) : Option pv_O := pS X 5 (some .int) k_Md_missed 30 [some (.ref v0), some (.int v1), some (.int v2), some (.int v3)] [] h
noncomputable def f_Md_missed_57 (X : pv_X) (v0 : Nat) (v1 : Int32) (v2 : Int32) (v3 : Int32) (s0 : Int32) (s1 : Int32) (h : pv_H) : Option pv_O := pS X 5 (some .int) k_Md_missed 57 [some (.ref v0), some (.int v1), some (.int v2), some (.int v3)] [.int s0, .int s1] h
set_option maxRecDepth 8000 in
theorem u_Md_missed_0 (X : pv_X) (v0 : Nat) (v1 : Int32) (h : pv_H) : f_Md_missed_0 X v0 v1 h =
    (pv_fp h v0 11 0 (.int 0)).bind (fun h1 => (pv_tI (pM X m_Md_within [.int v1, .int 1, .int 96] h1)).bind (fun q2 => if ¬ q2.1 = 0 then if pv_rc q2.2 v0 11 = true then (pv_tV (pM X m_Md_triesNow [.ref v0] q2.2)).bind (fun h3 => if pv_rc h3 v0 11 = true then (pv_tV (pM X m_Md_runs [.ref v0, .int v1] h3)).bind (fun h4 => f_Md_missed_30 X v0 v1 0 0 h4) else none) else none else some (some (.int (-1)), q2.2))) := by
  show pS X 5 (some .int) k_Md_missed 0 [some (.ref v0), some (.int v1), none, none] [] h = _
  refine (ss_aload_n rfl rfl).trans ?_
  refine (ss_iconst rfl (v := 0) rfl).trans ?_
  refine (ss_putI rfl).trans ?_
  refine congrArg (Option.bind _) (funext fun h1 => ?_)
  refine (ss_iload_n rfl rfl).trans ?_
  refine (ss_iconst rfl (v := 1) rfl).trans ?_
  refine (ss_bipush rfl (v := 96) rfl).trans ?_
  refine (ss_callSI (as := [.int v1, .int 1, .int 96]) rfl t_Md_within (by decide) rfl rfl (by decide) (Or.inr rfl) ⟨Nat.le_of_ble_eq_true rfl, Nat.le_of_ble_eq_true rfl⟩).trans ?_
  refine congrArg (Option.bind _) (funext fun q2 => ?_)
  refine (ss_if_ne rfl).trans ?_
  refine pv_ite ?_ ?_
  · refine (ss_aload_n rfl rfl).trans ?_
    refine (ss_callVN (as := []) rfl t_Md_triesNow (by decide) rfl rfl (by decide) rfl ⟨Nat.le_of_ble_eq_true rfl, Nat.le_of_ble_eq_true rfl⟩).trans ?_
    refine pv_ite ?_ rfl
    refine congrArg (Option.bind _) (funext fun h3 => ?_)
    refine (ss_aload_n rfl rfl).trans ?_
    refine (ss_iload_n rfl rfl).trans ?_
    refine (ss_callVN (as := [.int v1]) rfl t_Md_runs (by decide) rfl rfl (by decide) rfl ⟨Nat.le_of_ble_eq_true rfl, Nat.le_of_ble_eq_true rfl⟩).trans ?_
    refine pv_ite ?_ rfl
    refine congrArg (Option.bind _) (funext fun h4 => ?_)
    refine (ss_iconst rfl (v := 0) rfl).trans ?_
    refine (ss_istore_n rfl rfl).trans ?_
    refine (ss_iconst rfl (v := 0) rfl).trans ?_
    refine (ss_istore_n rfl rfl).trans ?_
    rfl
  · refine (ss_iconst rfl (v := (-1)) rfl).trans ?_
    exact ss_ireturn rfl
set_option maxRecDepth 8000 in
theorem u_Md_missed_30 (X : pv_X) (v0 : Nat) (v1 : Int32) (v2 : Int32) (v3 : Int32) (h : pv_H) : f_Md_missed_30 X v0 v1 v2 v3 h =
    if pv_rc h v0 11 = true then (pv_tI (pM X m_Md_persons [.ref v0] h)).bind (fun q1 => if q1.1 ≤ v3 then some (some (.int v2), q1.2) else if pv_rc q1.2 v0 11 = true then (pv_tI (pM X m_Md_outOf [.ref v0, .int 1071, .int v3] q1.2)).bind (fun q2 => if 0 ≤ q2.1 then f_Md_missed_57 X v0 v1 v2 v3 0 v2 q2.2 else f_Md_missed_57 X v0 v1 v2 v3 ((1 : Int32) <<< (v3 &&& 31)) v2 q2.2) else none) else none := by
  show pS X 5 (some .int) k_Md_missed 30 [some (.ref v0), some (.int v1), some (.int v2), some (.int v3)] [] h = _
  refine (ss_iload_n rfl rfl).trans ?_
  refine (ss_aload_n rfl rfl).trans ?_
  refine (ss_callVI (as := []) rfl t_Md_persons (by decide) rfl rfl (by simp [Value.category]) (Or.inl rfl) ⟨Nat.le_of_ble_eq_true rfl, Nat.le_of_ble_eq_true rfl⟩).trans ?_
  refine pv_ite ?_ rfl
  refine congrArg (Option.bind _) (funext fun q1 => ?_)
  refine (ss_icmp_ge rfl).trans ?_
  refine pv_ite ?_ ?_
  · refine (ss_iload_n rfl rfl).trans ?_
    exact ss_ireturn rfl
  · refine (ss_iload_n rfl rfl).trans ?_
    refine (ss_aload_n rfl rfl).trans ?_
    refine (ss_sipush rfl (v := 1071) rfl).trans ?_
    refine (ss_iload_n rfl rfl).trans ?_
    refine (ss_callVI (as := [.int 1071, .int v3]) rfl t_Md_outOf (by decide) rfl rfl (by simp [Value.category]) (Or.inl rfl) ⟨Nat.le_of_ble_eq_true rfl, Nat.le_of_ble_eq_true rfl⟩).trans ?_
    refine pv_ite ?_ rfl
    refine congrArg (Option.bind _) (funext fun q2 => ?_)
    refine (ss_if_ge rfl).trans ?_
    refine pv_ite ?_ ?_
    · refine (ss_iconst rfl (v := 0) rfl).trans ?_
      rfl
    · refine (ss_iconst rfl (v := 1) rfl).trans ?_
      refine (ss_iload_n rfl rfl).trans ?_
      refine (ss_ishl rfl).trans ?_
      refine (ss_goto rfl).trans ?_
      rfl
set_option maxRecDepth 8000 in
theorem u_Md_missed_57 (X : pv_X) (v0 : Nat) (v1 : Int32) (v2 : Int32) (v3 : Int32) (s0 : Int32) (s1 : Int32) (h : pv_H) : f_Md_missed_57 X v0 v1 v2 v3 s0 s1 h =
    f_Md_missed_30 X v0 v1 (s1 ||| s0) (v3 + 1) h := by
  show pS X 5 (some .int) k_Md_missed 57 [some (.ref v0), some (.int v1), some (.int v2), some (.int v3)] [.int s0, .int s1] h = _
  refine (ss_ior rfl).trans ?_
  refine (ss_istore_n rfl rfl).trans ?_
  refine (ss_iinc3 rfl rfl (v := v3 + 1) (congrArg (HAdd.hAdd _) (show Int32.ofInt (1) = 1 by decide)) rfl).trans ?_
  refine (ss_goto rfl).trans ?_
  rfl
theorem e_Md_missed (X : pv_X) (v0 : Nat) (v1 : Int32) (h : pv_H) : pM X m_Md_missed [.ref v0, .int v1] h = f_Md_missed_0 X v0 v1 h := rfl
noncomputable def f_Md_worst_0 (X : pv_X) (v0 : Nat) (h : pv_H) : Option pv_O := pS X 4 (some .int) k_Md_worst 0 [some (.ref v0)] [] h
set_option maxRecDepth 8000 in
theorem u_Md_worst_0 (X : pv_X) (v0 : Nat) (h : pv_H) : f_Md_worst_0 X v0 h =
    (pv_fp h v0 11 0 (.int 0)).bind (fun h1 => if pv_rc h1 v0 11 = true then (pv_tI (pM X m_Md_worstOf [.ref v0, .int 0] h1)).bind (fun q2 => some (some (.int q2.1), q2.2)) else none) := by
  show pS X 4 (some .int) k_Md_worst 0 [some (.ref v0)] [] h = _
  refine (ss_aload_n rfl rfl).trans ?_
  refine (ss_iconst rfl (v := 0) rfl).trans ?_
  refine (ss_putI rfl).trans ?_
  refine congrArg (Option.bind _) (funext fun h1 => ?_)
  refine (ss_aload_n rfl rfl).trans ?_
  refine (ss_iconst rfl (v := 0) rfl).trans ?_
  refine (ss_callVI (as := [.int 0]) rfl t_Md_worstOf (by decide) rfl rfl (by decide) (Or.inl rfl) ⟨Nat.le_of_ble_eq_true rfl, Nat.le_of_ble_eq_true rfl⟩).trans ?_
  refine pv_ite ?_ rfl
  refine congrArg (Option.bind _) (funext fun q2 => ?_)
  exact ss_ireturn rfl
theorem e_Md_worst (X : pv_X) (v0 : Nat) (h : pv_H) : pM X m_Md_worst [.ref v0] h = f_Md_worst_0 X v0 h := rfl
noncomputable def f_Md_aheadOf_0 (X : pv_X) (v0 : Nat) (v1 : Int32) (h : pv_H) : Option pv_O := pS X 3 (some .int) k_Md_aheadOf 0 [some (.ref v0), some (.int v1), none, none] [] h
noncomputable def f_Md_aheadOf_4 (X : pv_X) (v0 : Nat) (v1 : Int32) (v2 : Int32) (v3 : Int32) (h : pv_H) : Option pv_O := pS X 3 (some .int) k_Md_aheadOf 4 [some (.ref v0), some (.int v1), some (.int v2), some (.int v3)] [] h
noncomputable def f_Md_aheadOf_48 (X : pv_X) (v0 : Nat) (v1 : Int32) (v2 : Int32) (v3 : Int32) (s0 : Int32) (h : pv_H) : Option pv_O := pS X 3 (some .int) k_Md_aheadOf 48 [some (.ref v0), some (.int v1), some (.int v2), some (.int v3)] [.int s0] h
noncomputable def f_Md_aheadOf_52 (X : pv_X) (v0 : Nat) (v1 : Int32) (v2 : Int32) (v3 : Int32) (s0 : Int32) (h : pv_H) : Option pv_O := pS X 3 (some .int) k_Md_aheadOf 52 [some (.ref v0), some (.int v1), some (.int v2), some (.int v3)] [.int s0] h
noncomputable def f_Md_aheadOf_53 (X : pv_X) (v0 : Nat) (v1 : Int32) (v2 : Int32) (v3 : Int32) (s0 : Int32) (s1 : Int32) (h : pv_H) : Option pv_O := pS X 3 (some .int) k_Md_aheadOf 53 [some (.ref v0), some (.int v1), some (.int v2), some (.int v3)] [.int s0, .int s1] h
set_option maxRecDepth 8000 in
theorem u_Md_aheadOf_0 (X : pv_X) (v0 : Nat) (v1 : Int32) (h : pv_H) : f_Md_aheadOf_0 X v0 v1 h =
    f_Md_aheadOf_4 X v0 v1 0 0 h := by
  show pS X 3 (some .int) k_Md_aheadOf 0 [some (.ref v0), some (.int v1), none, none] [] h = _
  refine (ss_iconst rfl (v := 0) rfl).trans ?_
  refine (ss_istore_n rfl rfl).trans ?_
  refine (ss_iconst rfl (v := 0) rfl).trans ?_
  refine (ss_istore_n rfl rfl).trans ?_
  rfl
set_option maxRecDepth 8000 in
theorem u_Md_aheadOf_4 (X : pv_X) (v0 : Nat) (v1 : Int32) (v2 : Int32) (v3 : Int32) (h : pv_H) : f_Md_aheadOf_4 X v0 v1 v2 v3 h =
    if pv_rc h v0 11 = true then (pv_tI (pM X m_Md_persons [.ref v0] h)).bind (fun q1 => if q1.1 ≤ v3 then some (some (.int v2), q1.2) else if pv_rc q1.2 v0 11 = true then (pv_tI (pM X m_Md_outOf [.ref v0, .int 0, .int v3] q1.2)).bind (fun q2 => if pv_rc q2.2 v0 11 = true then (pv_tI (pM X m_Md_outOf [.ref v0, .int 0, .int v1] q2.2)).bind (fun q3 => if q3.1 < q2.1 then f_Md_aheadOf_48 X v0 v1 v2 v3 v2 q3.2 else if pv_rc q3.2 v0 11 = true then (pv_tI (pM X m_Md_outOf [.ref v0, .int 0, .int v3] q3.2)).bind (fun q4 => if pv_rc q4.2 v0 11 = true then (pv_tI (pM X m_Md_outOf [.ref v0, .int 0, .int v1] q4.2)).bind (fun q5 => if ¬ q4.1 = q5.1 then f_Md_aheadOf_52 X v0 v1 v2 v3 v2 q5.2 else if v1 ≤ v3 then f_Md_aheadOf_52 X v0 v1 v2 v3 v2 q5.2 else f_Md_aheadOf_48 X v0 v1 v2 v3 v2 q5.2) else none) else none) else none) else none) else none := by
  show pS X 3 (some .int) k_Md_aheadOf 4 [some (.ref v0), some (.int v1), some (.int v2), some (.int v3)] [] h = _
  refine (ss_iload_n rfl rfl).trans ?_
  refine (ss_aload_n rfl rfl).trans ?_
  refine (ss_callVI (as := []) rfl t_Md_persons (by decide) rfl rfl (by simp [Value.category]) (Or.inl rfl) ⟨Nat.le_of_ble_eq_true rfl, Nat.le_of_ble_eq_true rfl⟩).trans ?_
  refine pv_ite ?_ rfl
  refine congrArg (Option.bind _) (funext fun q1 => ?_)
  refine (ss_icmp_ge rfl).trans ?_
  refine pv_ite ?_ ?_
  · refine (ss_iload_n rfl rfl).trans ?_
    exact ss_ireturn rfl
  · refine (ss_iload_n rfl rfl).trans ?_
    refine (ss_aload_n rfl rfl).trans ?_
    refine (ss_iconst rfl (v := 0) rfl).trans ?_
    refine (ss_iload_n rfl rfl).trans ?_
    refine (ss_callVI (as := [.int 0, .int v3]) rfl t_Md_outOf (by decide) rfl rfl (by simp [Value.category]) (Or.inl rfl) ⟨Nat.le_of_ble_eq_true rfl, Nat.le_of_ble_eq_true rfl⟩).trans ?_
    refine pv_ite ?_ rfl
    refine congrArg (Option.bind _) (funext fun q2 => ?_)
    refine (ss_aload_n rfl rfl).trans ?_
    refine (ss_iconst rfl (v := 0) rfl).trans ?_
    refine (ss_iload_n rfl rfl).trans ?_
    refine (ss_callVI (as := [.int 0, .int v1]) rfl t_Md_outOf (by decide) rfl rfl (by simp [Value.category]) (Or.inl rfl) ⟨Nat.le_of_ble_eq_true rfl, Nat.le_of_ble_eq_true rfl⟩).trans ?_
    refine pv_ite ?_ rfl
    refine congrArg (Option.bind _) (funext fun q3 => ?_)
    refine (ss_icmp_gt rfl).trans ?_
    refine pv_ite ?_ ?_
    · rfl
    · refine (ss_aload_n rfl rfl).trans ?_
      refine (ss_iconst rfl (v := 0) rfl).trans ?_
      refine (ss_iload_n rfl rfl).trans ?_
      refine (ss_callVI (as := [.int 0, .int v3]) rfl t_Md_outOf (by decide) rfl rfl (by simp [Value.category]) (Or.inl rfl) ⟨Nat.le_of_ble_eq_true rfl, Nat.le_of_ble_eq_true rfl⟩).trans ?_
      refine pv_ite ?_ rfl
      refine congrArg (Option.bind _) (funext fun q4 => ?_)
      refine (ss_aload_n rfl rfl).trans ?_
      refine (ss_iconst rfl (v := 0) rfl).trans ?_
      refine (ss_iload_n rfl rfl).trans ?_
      refine (ss_callVI (as := [.int 0, .int v1]) rfl t_Md_outOf (by decide) rfl rfl (by simp [Value.category]) (Or.inl rfl) ⟨Nat.le_of_ble_eq_true rfl, Nat.le_of_ble_eq_true rfl⟩).trans ?_
      refine pv_ite ?_ rfl
      refine congrArg (Option.bind _) (funext fun q5 => ?_)
      refine (ss_icmp_ne rfl).trans ?_
      refine pv_ite ?_ ?_
      · rfl
      · refine (ss_iload_n rfl rfl).trans ?_
        refine (ss_iload_n rfl rfl).trans ?_
        refine (ss_icmp_ge rfl).trans ?_
        refine pv_ite ?_ ?_
        · rfl
        · rfl
set_option maxRecDepth 8000 in
theorem u_Md_aheadOf_48 (X : pv_X) (v0 : Nat) (v1 : Int32) (v2 : Int32) (v3 : Int32) (s0 : Int32) (h : pv_H) : f_Md_aheadOf_48 X v0 v1 v2 v3 s0 h =
    f_Md_aheadOf_53 X v0 v1 v2 v3 1 s0 h := by
  show pS X 3 (some .int) k_Md_aheadOf 48 [some (.ref v0), some (.int v1), some (.int v2), some (.int v3)] [.int s0] h = _
  refine (ss_iconst rfl (v := 1) rfl).trans ?_
  refine (ss_goto rfl).trans ?_
  rfl
set_option maxRecDepth 8000 in
theorem u_Md_aheadOf_52 (X : pv_X) (v0 : Nat) (v1 : Int32) (v2 : Int32) (v3 : Int32) (s0 : Int32) (h : pv_H) : f_Md_aheadOf_52 X v0 v1 v2 v3 s0 h =
    f_Md_aheadOf_53 X v0 v1 v2 v3 0 s0 h := by
  show pS X 3 (some .int) k_Md_aheadOf 52 [some (.ref v0), some (.int v1), some (.int v2), some (.int v3)] [.int s0] h = _
  refine (ss_iconst rfl (v := 0) rfl).trans ?_
  rfl
set_option maxRecDepth 8000 in
theorem u_Md_aheadOf_53 (X : pv_X) (v0 : Nat) (v1 : Int32) (v2 : Int32) (v3 : Int32) (s0 : Int32) (s1 : Int32) (h : pv_H) : f_Md_aheadOf_53 X v0 v1 v2 v3 s0 s1 h =
    f_Md_aheadOf_4 X v0 v1 (s1 + s0) (v3 + 1) h := by
  show pS X 3 (some .int) k_Md_aheadOf 53 [some (.ref v0), some (.int v1), some (.int v2), some (.int v3)] [.int s0, .int s1] h = _
  refine (ss_iadd rfl).trans ?_
  refine (ss_istore_n rfl rfl).trans ?_
  refine (ss_iinc3 rfl rfl (v := v3 + 1) (congrArg (HAdd.hAdd _) (show Int32.ofInt (1) = 1 by decide)) rfl).trans ?_
  refine (ss_goto rfl).trans ?_
  rfl
theorem e_Md_aheadOf (X : pv_X) (v0 : Nat) (v1 : Int32) (h : pv_H) : pM X m_Md_aheadOf [.ref v0, .int v1] h = f_Md_aheadOf_0 X v0 v1 h := rfl
noncomputable def f_Md_orderedAt_0 (X : pv_X) (v0 : Nat) (v1 : Int32) (h : pv_H) : Option pv_O := pS X 4 (some .int) k_Md_orderedAt 0 [some (.ref v0), some (.int v1), none] [] h
noncomputable def f_Md_orderedAt_2 (X : pv_X) (v0 : Nat) (v1 : Int32) (v2 : Int32) (h : pv_H) : Option pv_O := pS X 4 (some .int) k_Md_orderedAt 2 [some (.ref v0), some (.int v1), some (.int v2)] [] h
set_option maxRecDepth 8000 in
theorem u_Md_orderedAt_0 (X : pv_X) (v0 : Nat) (v1 : Int32) (h : pv_H) : f_Md_orderedAt_0 X v0 v1 h =
    f_Md_orderedAt_2 X v0 v1 0 h := by
  show pS X 4 (some .int) k_Md_orderedAt 0 [some (.ref v0), some (.int v1), none] [] h = _
  refine (ss_iconst rfl (v := 0) rfl).trans ?_
  refine (ss_istore_n rfl rfl).trans ?_
  rfl
set_option maxRecDepth 8000 in
theorem u_Md_orderedAt_2 (X : pv_X) (v0 : Nat) (v1 : Int32) (v2 : Int32) (h : pv_H) : f_Md_orderedAt_2 X v0 v1 v2 h =
    if pv_rc h v0 11 = true then (pv_tI (pM X m_Md_persons [.ref v0] h)).bind (fun q1 => if q1.1 ≤ v2 then some (some (.int (-1)), q1.2) else if pv_rc q1.2 v0 11 = true then (pv_tI (pM X m_Md_aheadOf [.ref v0, .int v2] q1.2)).bind (fun q2 => if ¬ q2.1 = v1 then f_Md_orderedAt_2 X v0 v1 (v2 + 1) q2.2 else some (some (.int v2), q2.2)) else none) else none := by
  show pS X 4 (some .int) k_Md_orderedAt 2 [some (.ref v0), some (.int v1), some (.int v2)] [] h = _
  refine (ss_iload_n rfl rfl).trans ?_
  refine (ss_aload_n rfl rfl).trans ?_
  refine (ss_callVI (as := []) rfl t_Md_persons (by decide) rfl rfl (by simp [Value.category]) (Or.inl rfl) ⟨Nat.le_of_ble_eq_true rfl, Nat.le_of_ble_eq_true rfl⟩).trans ?_
  refine pv_ite ?_ rfl
  refine congrArg (Option.bind _) (funext fun q1 => ?_)
  refine (ss_icmp_ge rfl).trans ?_
  refine pv_ite ?_ ?_
  · refine (ss_iconst rfl (v := (-1)) rfl).trans ?_
    exact ss_ireturn rfl
  · refine (ss_aload_n rfl rfl).trans ?_
    refine (ss_iload_n rfl rfl).trans ?_
    refine (ss_callVI (as := [.int v2]) rfl t_Md_aheadOf (by decide) rfl rfl (by decide) (Or.inl rfl) ⟨Nat.le_of_ble_eq_true rfl, Nat.le_of_ble_eq_true rfl⟩).trans ?_
    refine pv_ite ?_ rfl
    refine congrArg (Option.bind _) (funext fun q2 => ?_)
    refine (ss_iload_n rfl rfl).trans ?_
    refine (ss_icmp_ne rfl).trans ?_
    refine pv_ite ?_ ?_
    · refine (ss_iinc3 rfl rfl (v := v2 + 1) (congrArg (HAdd.hAdd _) (show Int32.ofInt (1) = 1 by decide)) rfl).trans ?_
      refine (ss_goto rfl).trans ?_
      rfl
    · refine (ss_iload_n rfl rfl).trans ?_
      exact ss_ireturn rfl
theorem e_Md_orderedAt (X : pv_X) (v0 : Nat) (v1 : Int32) (h : pv_H) : pM X m_Md_orderedAt [.ref v0, .int v1] h = f_Md_orderedAt_0 X v0 v1 h := rfl
noncomputable def f_Md_ordered_0 (X : pv_X) (v0 : Nat) (v1 : Int32) (h : pv_H) : Option pv_O := pS X 5 (some .int) k_Md_ordered 0 [some (.ref v0), some (.int v1)] [] h
set_option maxRecDepth 8000 in
theorem u_Md_ordered_0 (X : pv_X) (v0 : Nat) (v1 : Int32) (h : pv_H) : f_Md_ordered_0 X v0 v1 h =
    (pv_fp h v0 11 0 (.int 0)).bind (fun h1 => if pv_rc h1 v0 11 = true then (pv_tI (pM X m_Md_orderedAt [.ref v0, .int v1] h1)).bind (fun q2 => some (some (.int q2.1), q2.2)) else none) := by
  show pS X 5 (some .int) k_Md_ordered 0 [some (.ref v0), some (.int v1)] [] h = _
  refine (ss_aload_n rfl rfl).trans ?_
  refine (ss_iconst rfl (v := 0) rfl).trans ?_
  refine (ss_putI rfl).trans ?_
  refine congrArg (Option.bind _) (funext fun h1 => ?_)
  refine (ss_aload_n rfl rfl).trans ?_
  refine (ss_iload_n rfl rfl).trans ?_
  refine (ss_callVI (as := [.int v1]) rfl t_Md_orderedAt (by decide) rfl rfl (by decide) (Or.inl rfl) ⟨Nat.le_of_ble_eq_true rfl, Nat.le_of_ble_eq_true rfl⟩).trans ?_
  refine pv_ite ?_ rfl
  refine congrArg (Option.bind _) (funext fun q2 => ?_)
  exact ss_ireturn rfl
theorem e_Md_ordered (X : pv_X) (v0 : Nat) (v1 : Int32) (h : pv_H) : pM X m_Md_ordered [.ref v0, .int v1] h = f_Md_ordered_0 X v0 v1 h := rfl
noncomputable def f_Md_middle_0 (X : pv_X) (v0 : Nat) (h : pv_H) : Option pv_O := pS X 5 (some .int) k_Md_middle 0 [some (.ref v0), none] [] h
noncomputable def f_Md_middle_39 (X : pv_X) (v0 : Nat) (v1 : Int32) (s0 : Int32) (h : pv_H) : Option pv_O := pS X 5 (some .int) k_Md_middle 39 [some (.ref v0), some (.int v1)] [.int s0] h
set_option maxRecDepth 8000 in
theorem u_Md_middle_0 (X : pv_X) (v0 : Nat) (h : pv_H) : f_Md_middle_0 X v0 h =
    (pv_fp h v0 11 0 (.int 0)).bind (fun h1 => if pv_rc h1 v0 11 = true then (pv_tI (pM X m_Md_persons [.ref v0] h1)).bind (fun q2 => if pv_rc q2.2 v0 11 = true then (pv_tI (pM X m_Md_persons [.ref v0] q2.2)).bind (fun q3 => if pv_rc q3.2 v0 11 = true then (pv_tI (pM X m_Md_orderedAt [.ref v0, .int ((q2.1 - 1) - (q3.1 / 2))] q3.2)).bind (fun q4 => if 0 ≤ q4.1 then if pv_rc q4.2 v0 11 = true then (pv_tI (pM X m_Md_outOf [.ref v0, .int 0, .int q4.1] q4.2)).bind (fun q5 => f_Md_middle_39 X v0 q4.1 q5.1 q5.2) else none else f_Md_middle_39 X v0 q4.1 (-1000) q4.2) else none) else none) else none) := by
  show pS X 5 (some .int) k_Md_middle 0 [some (.ref v0), none] [] h = _
  refine (ss_aload_n rfl rfl).trans ?_
  refine (ss_iconst rfl (v := 0) rfl).trans ?_
  refine (ss_putI rfl).trans ?_
  refine congrArg (Option.bind _) (funext fun h1 => ?_)
  refine (ss_aload_n rfl rfl).trans ?_
  refine (ss_aload_n rfl rfl).trans ?_
  refine (ss_callVI (as := []) rfl t_Md_persons (by decide) rfl rfl (by simp [Value.category]) (Or.inl rfl) ⟨Nat.le_of_ble_eq_true rfl, Nat.le_of_ble_eq_true rfl⟩).trans ?_
  refine pv_ite ?_ rfl
  refine congrArg (Option.bind _) (funext fun q2 => ?_)
  refine (ss_iconst rfl (v := 1) rfl).trans ?_
  refine (ss_isub rfl).trans ?_
  refine (ss_aload_n rfl rfl).trans ?_
  refine (ss_callVI (as := []) rfl t_Md_persons (by decide) rfl rfl (by simp [Value.category]) (Or.inl rfl) ⟨Nat.le_of_ble_eq_true rfl, Nat.le_of_ble_eq_true rfl⟩).trans ?_
  refine pv_ite ?_ rfl
  refine congrArg (Option.bind _) (funext fun q3 => ?_)
  refine (ss_iconst rfl (v := 2) rfl).trans ?_
  refine (ss_idiv rfl (by decide)).trans ?_
  refine (ss_isub rfl).trans ?_
  refine (ss_callVI (as := [.int ((q2.1 - 1) - (q3.1 / 2))]) rfl t_Md_orderedAt (by decide) rfl rfl (by decide) (Or.inl rfl) ⟨Nat.le_of_ble_eq_true rfl, Nat.le_of_ble_eq_true rfl⟩).trans ?_
  refine pv_ite ?_ rfl
  refine congrArg (Option.bind _) (funext fun q4 => ?_)
  refine (ss_istore_n rfl rfl).trans ?_
  refine (ss_iload_n rfl rfl).trans ?_
  refine (ss_if_ge rfl).trans ?_
  refine pv_ite ?_ ?_
  · refine (ss_aload_n rfl rfl).trans ?_
    refine (ss_iconst rfl (v := 0) rfl).trans ?_
    refine (ss_iload_n rfl rfl).trans ?_
    refine (ss_callVI (as := [.int 0, .int q4.1]) rfl t_Md_outOf (by decide) rfl rfl (by decide) (Or.inl rfl) ⟨Nat.le_of_ble_eq_true rfl, Nat.le_of_ble_eq_true rfl⟩).trans ?_
    refine pv_ite ?_ rfl
    refine congrArg (Option.bind _) (funext fun q5 => ?_)
    rfl
  · refine (ss_sipush rfl (v := (-1000)) rfl).trans ?_
    refine (ss_goto rfl).trans ?_
    rfl
set_option maxRecDepth 8000 in
theorem u_Md_middle_39 (X : pv_X) (v0 : Nat) (v1 : Int32) (s0 : Int32) (h : pv_H) : f_Md_middle_39 X v0 v1 s0 h =
    some (some (.int s0), h) := by
  show pS X 5 (some .int) k_Md_middle 39 [some (.ref v0), some (.int v1)] [.int s0] h = _
  exact ss_ireturn rfl
theorem e_Md_middle (X : pv_X) (v0 : Nat) (h : pv_H) : pM X m_Md_middle [.ref v0] h = f_Md_middle_0 X v0 h := rfl
noncomputable def f_Md_noonOf_0 (X : pv_X) (v0 : Nat) (v1 : Int32) (h : pv_H) : Option pv_O := pS X 4 (some .int) k_Md_noonOf 0 [some (.ref v0), some (.int v1), none] [] h
noncomputable def f_Md_noonOf_6 (X : pv_X) (v0 : Nat) (v1 : Int32) (v2 : Int32) (h : pv_H) : Option pv_O := pS X 4 (some .int) k_Md_noonOf 6 [some (.ref v0), some (.int v1), some (.int v2)] [] h
set_option maxRecDepth 8000 in
theorem u_Md_noonOf_0 (X : pv_X) (v0 : Nat) (v1 : Int32) (h : pv_H) : f_Md_noonOf_0 X v0 v1 h =
    if pv_rc h v0 11 = true then (pv_tV (pM X m_Md_triesNow [.ref v0] h)).bind (fun h1 => f_Md_noonOf_6 X v0 v1 1 h1) else none := by
  show pS X 4 (some .int) k_Md_noonOf 0 [some (.ref v0), some (.int v1), none] [] h = _
  refine (ss_aload_n rfl rfl).trans ?_
  refine (ss_callVN (as := []) rfl t_Md_triesNow (by decide) rfl rfl (by decide) rfl ⟨Nat.le_of_ble_eq_true rfl, Nat.le_of_ble_eq_true rfl⟩).trans ?_
  refine pv_ite ?_ rfl
  refine congrArg (Option.bind _) (funext fun h1 => ?_)
  refine (ss_iconst rfl (v := 1) rfl).trans ?_
  refine (ss_istore_n rfl rfl).trans ?_
  rfl
set_option maxRecDepth 8000 in
theorem u_Md_noonOf_6 (X : pv_X) (v0 : Nat) (v1 : Int32) (v2 : Int32) (h : pv_H) : f_Md_noonOf_6 X v0 v1 v2 h =
    if 96 < v2 then some (some (.int (-1)), h) else (pv_fR h v0 11 21).bind (fun x1 => (pv_aX X h x1 (1078 + v1)).bind (fun x2 => if pv_rc h v0 11 = true then (pv_tI (pM X m_Md_stepOf [.ref v0, .int 1071, .int v1] h)).bind (fun q3 => if (x2 + q3.1) < 720 then if pv_rc q3.2 v0 11 = true then (pv_tV (pM X m_Md_passes_1 [.ref v0, .int 1071] q3.2)).bind (fun h4 => f_Md_noonOf_6 X v0 v1 (v2 + 1) h4) else none else some (some (.int v2), q3.2)) else none)) := by
  show pS X 4 (some .int) k_Md_noonOf 6 [some (.ref v0), some (.int v1), some (.int v2)] [] h = _
  refine (ss_iload_n rfl rfl).trans ?_
  refine (ss_bipush rfl (v := 96) rfl).trans ?_
  refine (ss_icmp_gt rfl).trans ?_
  refine pv_ite ?_ ?_
  · refine (ss_iconst rfl (v := (-1)) rfl).trans ?_
    exact ss_ireturn rfl
  · refine (ss_aload_n rfl rfl).trans ?_
    refine (ss_getR rfl).trans ?_
    refine congrArg (Option.bind _) (funext fun x1 => ?_)
    refine (ss_sipush rfl (v := 1078) rfl).trans ?_
    refine (ss_iload_n rfl rfl).trans ?_
    refine (ss_iadd rfl).trans ?_
    refine (ss_iaload rfl).trans ?_
    refine congrArg (Option.bind _) (funext fun x2 => ?_)
    refine (ss_aload_n rfl rfl).trans ?_
    refine (ss_sipush rfl (v := 1071) rfl).trans ?_
    refine (ss_iload_n rfl rfl).trans ?_
    refine (ss_callVI (as := [.int 1071, .int v1]) rfl t_Md_stepOf (by decide) rfl rfl (by simp [Value.category]) (Or.inl rfl) ⟨Nat.le_of_ble_eq_true rfl, Nat.le_of_ble_eq_true rfl⟩).trans ?_
    refine pv_ite ?_ rfl
    refine congrArg (Option.bind _) (funext fun q3 => ?_)
    refine (ss_iadd rfl).trans ?_
    refine (ss_sipush rfl (v := 720) rfl).trans ?_
    refine (ss_icmp_lt rfl).trans ?_
    refine pv_ite ?_ ?_
    · refine (ss_aload_n rfl rfl).trans ?_
      refine (ss_sipush rfl (v := 1071) rfl).trans ?_
      refine (ss_callVN (as := [.int 1071]) rfl t_Md_passes_1 (by decide) rfl rfl (by decide) rfl ⟨Nat.le_of_ble_eq_true rfl, Nat.le_of_ble_eq_true rfl⟩).trans ?_
      refine pv_ite ?_ rfl
      refine congrArg (Option.bind _) (funext fun h4 => ?_)
      refine (ss_iinc3 rfl rfl (v := v2 + 1) (congrArg (HAdd.hAdd _) (show Int32.ofInt (1) = 1 by decide)) rfl).trans ?_
      refine (ss_goto rfl).trans ?_
      rfl
    · refine (ss_iload_n rfl rfl).trans ?_
      exact ss_ireturn rfl
theorem e_Md_noonOf (X : pv_X) (v0 : Nat) (v1 : Int32) (h : pv_H) : pM X m_Md_noonOf [.ref v0, .int v1] h = f_Md_noonOf_0 X v0 v1 h := rfl
noncomputable def f_Md_noon_0 (X : pv_X) (v0 : Nat) (v1 : Int32) (h : pv_H) : Option pv_O := pS X 5 (some .int) k_Md_noon 0 [some (.ref v0), some (.int v1)] [] h
noncomputable def f_Md_noon_22 (X : pv_X) (v0 : Nat) (v1 : Int32) (s0 : Int32) (h : pv_H) : Option pv_O := pS X 5 (some .int) k_Md_noon 22 [some (.ref v0), some (.int v1)] [.int s0] h
set_option maxRecDepth 8000 in
theorem u_Md_noon_0 (X : pv_X) (v0 : Nat) (v1 : Int32) (h : pv_H) : f_Md_noon_0 X v0 v1 h =
    (pv_fp h v0 11 0 (.int 0)).bind (fun h1 => if pv_rc h1 v0 11 = true then (pv_tI (pM X m_Md_isPerson [.ref v0, .int v1] h1)).bind (fun q2 => if q2.1 = 0 then f_Md_noon_22 X v0 v1 (-1) q2.2 else if pv_rc q2.2 v0 11 = true then (pv_tI (pM X m_Md_noonOf [.ref v0, .int v1] q2.2)).bind (fun q3 => f_Md_noon_22 X v0 v1 q3.1 q3.2) else none) else none) := by
  show pS X 5 (some .int) k_Md_noon 0 [some (.ref v0), some (.int v1)] [] h = _
  refine (ss_aload_n rfl rfl).trans ?_
  refine (ss_iconst rfl (v := 0) rfl).trans ?_
  refine (ss_putI rfl).trans ?_
  refine congrArg (Option.bind _) (funext fun h1 => ?_)
  refine (ss_aload_n rfl rfl).trans ?_
  refine (ss_iload_n rfl rfl).trans ?_
  refine (ss_callVI (as := [.int v1]) rfl t_Md_isPerson (by decide) rfl rfl (by decide) (Or.inr rfl) ⟨Nat.le_of_ble_eq_true rfl, Nat.le_of_ble_eq_true rfl⟩).trans ?_
  refine pv_ite ?_ rfl
  refine congrArg (Option.bind _) (funext fun q2 => ?_)
  refine (ss_if_eq rfl).trans ?_
  refine pv_ite ?_ ?_
  · refine (ss_iconst rfl (v := (-1)) rfl).trans ?_
    rfl
  · refine (ss_aload_n rfl rfl).trans ?_
    refine (ss_iload_n rfl rfl).trans ?_
    refine (ss_callVI (as := [.int v1]) rfl t_Md_noonOf (by decide) rfl rfl (by decide) (Or.inl rfl) ⟨Nat.le_of_ble_eq_true rfl, Nat.le_of_ble_eq_true rfl⟩).trans ?_
    refine pv_ite ?_ rfl
    refine congrArg (Option.bind _) (funext fun q3 => ?_)
    refine (ss_goto rfl).trans ?_
    rfl
set_option maxRecDepth 8000 in
theorem u_Md_noon_22 (X : pv_X) (v0 : Nat) (v1 : Int32) (s0 : Int32) (h : pv_H) : f_Md_noon_22 X v0 v1 s0 h =
    some (some (.int s0), h) := by
  show pS X 5 (some .int) k_Md_noon 22 [some (.ref v0), some (.int v1)] [.int s0] h = _
  exact ss_ireturn rfl
theorem e_Md_noon (X : pv_X) (v0 : Nat) (v1 : Int32) (h : pv_H) : pM X m_Md_noon [.ref v0, .int v1] h = f_Md_noon_0 X v0 v1 h := rfl
noncomputable def f_Md_first_0 (X : pv_X) (v0 : Nat) (h : pv_H) : Option pv_O := pS X 5 (some .int) k_Md_first 0 [some (.ref v0), none, none, none, none, none] [] h
noncomputable def f_Md_first_12 (X : pv_X) (v0 : Nat) (v1 : Int32) (v2 : Int32) (v3 : Int32) (o4 : Option Value) (o5 : Option Value) (h : pv_H) : Option pv_O := pS X 5 (some .int) k_Md_first 12 [some (.ref v0), some (.int v1), some (.int v2), some (.int v3), o4, o5] [] h
noncomputable def f_Md_first_42 (X : pv_X) (v0 : Nat) (v1 : Int32) (v2 : Int32) (v3 : Int32) (v4 : Int32) (o5 : Option Value) (h : pv_H) : Option pv_O := pS X 5 (some .int) k_Md_first 42 [some (.ref v0), some (.int v1), some (.int v2), some (.int v3), some (.int v4), o5] [] h
noncomputable def f_Md_first_43 (X : pv_X) (v0 : Nat) (v1 : Int32) (v2 : Int32) (v3 : Int32) (v4 : Int32) (o5 : Option Value) (s0 : Int32) (h : pv_H) : Option pv_O := pS X 5 (some .int) k_Md_first 43 [some (.ref v0), some (.int v1), some (.int v2), some (.int v3), some (.int v4), o5] [.int s0] h
noncomputable def f_Md_first_55 (X : pv_X) (v0 : Nat) (v1 : Int32) (v2 : Int32) (v3 : Int32) (v4 : Int32) (v5 : Int32) (s0 : Int32) (h : pv_H) : Option pv_O := pS X 5 (some .int) k_Md_first 55 [some (.ref v0), some (.int v1), some (.int v2), some (.int v3), some (.int v4), some (.int v5)] [.int s0] h
noncomputable def f_Md_first_67 (X : pv_X) (v0 : Nat) (v1 : Int32) (v2 : Int32) (v3 : Int32) (v4 : Int32) (v5 : Int32) (s0 : Int32) (h : pv_H) : Option pv_O := pS X 5 (some .int) k_Md_first 67 [some (.ref v0), some (.int v1), some (.int v2), some (.int v3), some (.int v4), some (.int v5)] [.int s0] h
set_option maxRecDepth 8000 in
theorem u_Md_first_0 (X : pv_X) (v0 : Nat) (h : pv_H) : f_Md_first_0 X v0 h =
    (pv_fp h v0 11 0 (.int 0)).bind (fun h1 => f_Md_first_12 X v0 (-1) 97 0 none none h1) := by
  show pS X 5 (some .int) k_Md_first 0 [some (.ref v0), none, none, none, none, none] [] h = _
  refine (ss_aload_n rfl rfl).trans ?_
  refine (ss_iconst rfl (v := 0) rfl).trans ?_
  refine (ss_putI rfl).trans ?_
  refine congrArg (Option.bind _) (funext fun h1 => ?_)
  refine (ss_iconst rfl (v := (-1)) rfl).trans ?_
  refine (ss_istore_n rfl rfl).trans ?_
  refine (ss_bipush rfl (v := 97) rfl).trans ?_
  refine (ss_istore_n rfl rfl).trans ?_
  refine (ss_iconst rfl (v := 0) rfl).trans ?_
  refine (ss_istore_n rfl rfl).trans ?_
  rfl
set_option maxRecDepth 8000 in
theorem u_Md_first_12 (X : pv_X) (v0 : Nat) (v1 : Int32) (v2 : Int32) (v3 : Int32) (o4 : Option Value) (o5 : Option Value) (h : pv_H) : f_Md_first_12 X v0 v1 v2 v3 o4 o5 h =
    if pv_rc h v0 11 = true then (pv_tI (pM X m_Md_persons [.ref v0] h)).bind (fun q1 => if q1.1 ≤ v3 then some (some (.int v1), q1.2) else if pv_rc q1.2 v0 11 = true then (pv_tI (pM X m_Md_noonOf [.ref v0, .int v3] q1.2)).bind (fun q2 => if q2.1 < 0 then f_Md_first_42 X v0 v1 v2 v3 q2.1 o5 q2.2 else if v2 ≤ q2.1 then f_Md_first_42 X v0 v1 v2 v3 q2.1 o5 q2.2 else f_Md_first_43 X v0 v1 v2 v3 q2.1 o5 1 q2.2) else none) else none := by
  show pS X 5 (some .int) k_Md_first 12 [some (.ref v0), some (.int v1), some (.int v2), some (.int v3), o4, o5] [] h = _
  refine (ss_iload_n rfl rfl).trans ?_
  refine (ss_aload_n rfl rfl).trans ?_
  refine (ss_callVI (as := []) rfl t_Md_persons (by decide) rfl rfl (by simp [Value.category]) (Or.inl rfl) ⟨Nat.le_of_ble_eq_true rfl, Nat.le_of_ble_eq_true rfl⟩).trans ?_
  refine pv_ite ?_ rfl
  refine congrArg (Option.bind _) (funext fun q1 => ?_)
  refine (ss_icmp_ge rfl).trans ?_
  refine pv_ite ?_ ?_
  · refine (ss_iload_n rfl rfl).trans ?_
    exact ss_ireturn rfl
  · refine (ss_aload_n rfl rfl).trans ?_
    refine (ss_iload_n rfl rfl).trans ?_
    refine (ss_callVI (as := [.int v3]) rfl t_Md_noonOf (by decide) rfl rfl (by decide) (Or.inl rfl) ⟨Nat.le_of_ble_eq_true rfl, Nat.le_of_ble_eq_true rfl⟩).trans ?_
    refine pv_ite ?_ rfl
    refine congrArg (Option.bind _) (funext fun q2 => ?_)
    refine (ss_istore rfl rfl).trans ?_
    refine (ss_iload rfl rfl).trans ?_
    refine (ss_if_lt rfl).trans ?_
    refine pv_ite ?_ ?_
    · rfl
    · refine (ss_iload rfl rfl).trans ?_
      refine (ss_iload_n rfl rfl).trans ?_
      refine (ss_icmp_ge rfl).trans ?_
      refine pv_ite ?_ ?_
      · rfl
      · refine (ss_iconst rfl (v := 1) rfl).trans ?_
        refine (ss_goto rfl).trans ?_
        rfl
set_option maxRecDepth 8000 in
theorem u_Md_first_42 (X : pv_X) (v0 : Nat) (v1 : Int32) (v2 : Int32) (v3 : Int32) (v4 : Int32) (o5 : Option Value) (h : pv_H) : f_Md_first_42 X v0 v1 v2 v3 v4 o5 h =
    f_Md_first_43 X v0 v1 v2 v3 v4 o5 0 h := by
  show pS X 5 (some .int) k_Md_first 42 [some (.ref v0), some (.int v1), some (.int v2), some (.int v3), some (.int v4), o5] [] h = _
  refine (ss_iconst rfl (v := 0) rfl).trans ?_
  rfl
set_option maxRecDepth 8000 in
theorem u_Md_first_43 (X : pv_X) (v0 : Nat) (v1 : Int32) (v2 : Int32) (v3 : Int32) (v4 : Int32) (o5 : Option Value) (s0 : Int32) (h : pv_H) : f_Md_first_43 X v0 v1 v2 v3 v4 o5 s0 h =
    if s0 = 0 then f_Md_first_55 X v0 v1 v2 v3 v4 s0 v1 h else f_Md_first_55 X v0 v1 v2 v3 v4 s0 v3 h := by
  show pS X 5 (some .int) k_Md_first 43 [some (.ref v0), some (.int v1), some (.int v2), some (.int v3), some (.int v4), o5] [.int s0] h = _
  refine (ss_istore rfl rfl).trans ?_
  refine (ss_iload rfl rfl).trans ?_
  refine (ss_if_eq rfl).trans ?_
  refine pv_ite ?_ ?_
  · refine (ss_iload_n rfl rfl).trans ?_
    rfl
  · refine (ss_iload_n rfl rfl).trans ?_
    refine (ss_goto rfl).trans ?_
    rfl
set_option maxRecDepth 8000 in
theorem u_Md_first_55 (X : pv_X) (v0 : Nat) (v1 : Int32) (v2 : Int32) (v3 : Int32) (v4 : Int32) (v5 : Int32) (s0 : Int32) (h : pv_H) : f_Md_first_55 X v0 v1 v2 v3 v4 v5 s0 h =
    if v5 = 0 then f_Md_first_67 X v0 s0 v2 v3 v4 v5 v2 h else f_Md_first_67 X v0 s0 v2 v3 v4 v5 v4 h := by
  show pS X 5 (some .int) k_Md_first 55 [some (.ref v0), some (.int v1), some (.int v2), some (.int v3), some (.int v4), some (.int v5)] [.int s0] h = _
  refine (ss_istore_n rfl rfl).trans ?_
  refine (ss_iload rfl rfl).trans ?_
  refine (ss_if_eq rfl).trans ?_
  refine pv_ite ?_ ?_
  · refine (ss_iload_n rfl rfl).trans ?_
    rfl
  · refine (ss_iload rfl rfl).trans ?_
    refine (ss_goto rfl).trans ?_
    rfl
set_option maxRecDepth 8000 in
theorem u_Md_first_67 (X : pv_X) (v0 : Nat) (v1 : Int32) (v2 : Int32) (v3 : Int32) (v4 : Int32) (v5 : Int32) (s0 : Int32) (h : pv_H) : f_Md_first_67 X v0 v1 v2 v3 v4 v5 s0 h =
    f_Md_first_12 X v0 v1 s0 (v3 + 1) (some (.int v4)) (some (.int v5)) h := by
  show pS X 5 (some .int) k_Md_first 67 [some (.ref v0), some (.int v1), some (.int v2), some (.int v3), some (.int v4), some (.int v5)] [.int s0] h = _
  refine (ss_istore_n rfl rfl).trans ?_
  refine (ss_iinc3 rfl rfl (v := v3 + 1) (congrArg (HAdd.hAdd _) (show Int32.ofInt (1) = 1 by decide)) rfl).trans ?_
  refine (ss_goto rfl).trans ?_
  rfl
theorem e_Md_first (X : pv_X) (v0 : Nat) (h : pv_H) : pM X m_Md_first [.ref v0] h = f_Md_first_0 X v0 h := rfl
noncomputable def f_Md_meet_0 (X : pv_X) (v0 : Nat) (v1 : Int32) (v2 : Int32) (h : pv_H) : Option pv_O := pS X 4 (some .int) k_Md_meet 0 [some (.ref v0), some (.int v1), some (.int v2), none] [] h
noncomputable def f_Md_meet_11 (X : pv_X) (v0 : Nat) (v1 : Int32) (v2 : Int32) (v3 : Int32) (h : pv_H) : Option pv_O := pS X 4 (some .int) k_Md_meet 11 [some (.ref v0), some (.int v1), some (.int v2), some (.int v3)] [] h
noncomputable def f_Md_meet_76 (X : pv_X) (v0 : Nat) (v1 : Int32) (v2 : Int32) (v3 : Int32) (h : pv_H) : Option pv_O := pS X 4 (some .int) k_Md_meet 76 [some (.ref v0), some (.int v1), some (.int v2), some (.int v3)] [] h
set_option maxRecDepth 8000 in
theorem u_Md_meet_0 (X : pv_X) (v0 : Nat) (v1 : Int32) (v2 : Int32) (h : pv_H) : f_Md_meet_0 X v0 v1 v2 h =
    (pv_fp h v0 11 0 (.int 0)).bind (fun h1 => if pv_rc h1 v0 11 = true then (pv_tV (pM X m_Md_triesNow [.ref v0] h1)).bind (fun h2 => f_Md_meet_11 X v0 v1 v2 0 h2) else none) := by
  show pS X 4 (some .int) k_Md_meet 0 [some (.ref v0), some (.int v1), some (.int v2), none] [] h = _
  refine (ss_aload_n rfl rfl).trans ?_
  refine (ss_iconst rfl (v := 0) rfl).trans ?_
  refine (ss_putI rfl).trans ?_
  refine congrArg (Option.bind _) (funext fun h1 => ?_)
  refine (ss_aload_n rfl rfl).trans ?_
  refine (ss_callVN (as := []) rfl t_Md_triesNow (by decide) rfl rfl (by decide) rfl ⟨Nat.le_of_ble_eq_true rfl, Nat.le_of_ble_eq_true rfl⟩).trans ?_
  refine pv_ite ?_ rfl
  refine congrArg (Option.bind _) (funext fun h2 => ?_)
  refine (ss_iconst rfl (v := 0) rfl).trans ?_
  refine (ss_istore_n rfl rfl).trans ?_
  rfl
set_option maxRecDepth 8000 in
theorem u_Md_meet_11 (X : pv_X) (v0 : Nat) (v1 : Int32) (v2 : Int32) (v3 : Int32) (h : pv_H) : f_Md_meet_11 X v0 v1 v2 v3 h =
    if 96 < v3 then f_Md_meet_76 X v0 v1 v2 v3 h else if pv_rc h v0 11 = true then (pv_tI (pM X m_Md_isPerson [.ref v0, .int v1] h)).bind (fun q1 => if q1.1 = 0 then f_Md_meet_76 X v0 v1 v2 v3 q1.2 else if pv_rc q1.2 v0 11 = true then (pv_tI (pM X m_Md_isPerson [.ref v0, .int v2] q1.2)).bind (fun q2 => if q2.1 = 0 then f_Md_meet_76 X v0 v1 v2 v3 q2.2 else if v1 = v2 then f_Md_meet_76 X v0 v1 v2 v3 q2.2 else (pv_fR q2.2 v0 11 21).bind (fun x3 => (pv_aX X q2.2 x3 (1078 + v1)).bind (fun x4 => (pv_fR q2.2 v0 11 21).bind (fun x5 => (pv_aX X q2.2 x5 (1078 + v2)).bind (fun x6 => if ¬ x4 = x6 then if pv_rc q2.2 v0 11 = true then (pv_tV (pM X m_Md_passes_1 [.ref v0, .int 1071] q2.2)).bind (fun h7 => f_Md_meet_11 X v0 v1 v2 (v3 + 1) h7) else none else some (some (.int v3), q2.2)))))) else none) else none := by
  show pS X 4 (some .int) k_Md_meet 11 [some (.ref v0), some (.int v1), some (.int v2), some (.int v3)] [] h = _
  refine (ss_iload_n rfl rfl).trans ?_
  refine (ss_bipush rfl (v := 96) rfl).trans ?_
  refine (ss_icmp_gt rfl).trans ?_
  refine pv_ite ?_ ?_
  · rfl
  · refine (ss_aload_n rfl rfl).trans ?_
    refine (ss_iload_n rfl rfl).trans ?_
    refine (ss_callVI (as := [.int v1]) rfl t_Md_isPerson (by decide) rfl rfl (by decide) (Or.inr rfl) ⟨Nat.le_of_ble_eq_true rfl, Nat.le_of_ble_eq_true rfl⟩).trans ?_
    refine pv_ite ?_ rfl
    refine congrArg (Option.bind _) (funext fun q1 => ?_)
    refine (ss_if_eq rfl).trans ?_
    refine pv_ite ?_ ?_
    · rfl
    · refine (ss_aload_n rfl rfl).trans ?_
      refine (ss_iload_n rfl rfl).trans ?_
      refine (ss_callVI (as := [.int v2]) rfl t_Md_isPerson (by decide) rfl rfl (by decide) (Or.inr rfl) ⟨Nat.le_of_ble_eq_true rfl, Nat.le_of_ble_eq_true rfl⟩).trans ?_
      refine pv_ite ?_ rfl
      refine congrArg (Option.bind _) (funext fun q2 => ?_)
      refine (ss_if_eq rfl).trans ?_
      refine pv_ite ?_ ?_
      · rfl
      · refine (ss_iload_n rfl rfl).trans ?_
        refine (ss_iload_n rfl rfl).trans ?_
        refine (ss_icmp_eq rfl).trans ?_
        refine pv_ite ?_ ?_
        · rfl
        · refine (ss_aload_n rfl rfl).trans ?_
          refine (ss_getR rfl).trans ?_
          refine congrArg (Option.bind _) (funext fun x3 => ?_)
          refine (ss_sipush rfl (v := 1078) rfl).trans ?_
          refine (ss_iload_n rfl rfl).trans ?_
          refine (ss_iadd rfl).trans ?_
          refine (ss_iaload rfl).trans ?_
          refine congrArg (Option.bind _) (funext fun x4 => ?_)
          refine (ss_aload_n rfl rfl).trans ?_
          refine (ss_getR rfl).trans ?_
          refine congrArg (Option.bind _) (funext fun x5 => ?_)
          refine (ss_sipush rfl (v := 1078) rfl).trans ?_
          refine (ss_iload_n rfl rfl).trans ?_
          refine (ss_iadd rfl).trans ?_
          refine (ss_iaload rfl).trans ?_
          refine congrArg (Option.bind _) (funext fun x6 => ?_)
          refine (ss_icmp_ne rfl).trans ?_
          refine pv_ite ?_ ?_
          · refine (ss_aload_n rfl rfl).trans ?_
            refine (ss_sipush rfl (v := 1071) rfl).trans ?_
            refine (ss_callVN (as := [.int 1071]) rfl t_Md_passes_1 (by decide) rfl rfl (by decide) rfl ⟨Nat.le_of_ble_eq_true rfl, Nat.le_of_ble_eq_true rfl⟩).trans ?_
            refine pv_ite ?_ rfl
            refine congrArg (Option.bind _) (funext fun h7 => ?_)
            refine (ss_iinc3 rfl rfl (v := v3 + 1) (congrArg (HAdd.hAdd _) (show Int32.ofInt (1) = 1 by decide)) rfl).trans ?_
            refine (ss_goto rfl).trans ?_
            rfl
          · refine (ss_iload_n rfl rfl).trans ?_
            exact ss_ireturn rfl
set_option maxRecDepth 8000 in
theorem u_Md_meet_76 (X : pv_X) (v0 : Nat) (v1 : Int32) (v2 : Int32) (v3 : Int32) (h : pv_H) : f_Md_meet_76 X v0 v1 v2 v3 h =
    some (some (.int (-1)), h) := by
  show pS X 4 (some .int) k_Md_meet 76 [some (.ref v0), some (.int v1), some (.int v2), some (.int v3)] [] h = _
  refine (ss_iconst rfl (v := (-1)) rfl).trans ?_
  exact ss_ireturn rfl
theorem e_Md_meet (X : pv_X) (v0 : Nat) (v1 : Int32) (v2 : Int32) (h : pv_H) : pM X m_Md_meet [.ref v0, .int v1, .int v2] h = f_Md_meet_0 X v0 v1 v2 h := rfl
noncomputable def f_Md_rounds_0 (X : pv_X) (r : Nat) (v0 : Nat) (v1 : Int32) (v2 : Int32) (v3 : Int32) (h : pv_H) : Option pv_O := pS X r (none) k_Md_rounds 0 [some (.ref v0), some (.int v1), some (.int v2), some (.int v3), none, none, none] [] h
noncomputable def f_Md_rounds_11 (X : pv_X) (r : Nat) (v0 : Nat) (v1 : Int32) (v2 : Int32) (v3 : Int32) (v4 : Int32) (h : pv_H) : Option pv_O := pS X r (none) k_Md_rounds 11 [some (.ref v0), some (.int v1), some (.int v2), some (.int v3), some (.int v4), none, none] [] h
noncomputable def f_Md_rounds_51 (X : pv_X) (r : Nat) (v0 : Nat) (v1 : Int32) (v2 : Int32) (v3 : Int32) (v4 : Int32) (v5 : Int32) (h : pv_H) : Option pv_O := pS X r (none) k_Md_rounds 51 [some (.ref v0), some (.int v1), some (.int v2), some (.int v3), some (.int v4), some (.int v5), none] [] h
noncomputable def f_Md_rounds_99 (X : pv_X) (r : Nat) (v0 : Nat) (v1 : Int32) (v2 : Int32) (v3 : Int32) (v4 : Int32) (v5 : Int32) (h : pv_H) : Option pv_O := pS X r (none) k_Md_rounds 99 [some (.ref v0), some (.int v1), some (.int v2), some (.int v3), some (.int v4), some (.int v5), none] [] h
noncomputable def f_Md_rounds_104 (X : pv_X) (r : Nat) (v0 : Nat) (v1 : Int32) (v2 : Int32) (v3 : Int32) (v4 : Int32) (v5 : Int32) (s0 : Int32) (h : pv_H) : Option pv_O := pS X r (none) k_Md_rounds 104 [some (.ref v0), some (.int v1), some (.int v2), some (.int v3), some (.int v4), some (.int v5), none] [.int s0] h
noncomputable def f_Md_rounds_109 (X : pv_X) (r : Nat) (v0 : Nat) (v1 : Int32) (v2 : Int32) (v3 : Int32) (v4 : Int32) (v5 : Int32) (v6 : Int32) (h : pv_H) : Option pv_O := pS X r (none) k_Md_rounds 109 [some (.ref v0), some (.int v1), some (.int v2), some (.int v3), some (.int v4), some (.int v5), some (.int v6)] [] h
noncomputable def f_Md_rounds_140 (X : pv_X) (r : Nat) (v0 : Nat) (v1 : Int32) (v2 : Int32) (v3 : Int32) (v4 : Int32) (v5 : Int32) (v6 : Int32) (h : pv_H) : Option pv_O := pS X r (none) k_Md_rounds 140 [some (.ref v0), some (.int v1), some (.int v2), some (.int v3), some (.int v4), some (.int v5), some (.int v6)] [] h
noncomputable def f_Md_rounds_155 (X : pv_X) (r : Nat) (v0 : Nat) (v1 : Int32) (v2 : Int32) (v3 : Int32) (v4 : Int32) (v5 : Int32) (v6 : Int32) (s0 : Int32) (s1 : Nat) (h : pv_H) : Option pv_O := pS X r (none) k_Md_rounds 155 [some (.ref v0), some (.int v1), some (.int v2), some (.int v3), some (.int v4), some (.int v5), some (.int v6)] [.int s0, .ref s1] h
noncomputable def f_Md_rounds_162 (X : pv_X) (r : Nat) (v0 : Nat) (v1 : Int32) (v2 : Int32) (v3 : Int32) (v4 : Int32) (h : pv_H) : Option pv_O := pS X r (none) k_Md_rounds 162 [some (.ref v0), some (.int v1), some (.int v2), some (.int v3), some (.int v4), none, none] [] h
noncomputable def f_Md_rounds_205 (X : pv_X) (r : Nat) (v0 : Nat) (v1 : Int32) (v2 : Int32) (v3 : Int32) (v4 : Int32) (h : pv_H) : Option pv_O := pS X r (none) k_Md_rounds 205 [some (.ref v0), some (.int v1), some (.int v2), some (.int v3), some (.int v4), none, none] [] h
set_option maxRecDepth 8000 in
theorem u_Md_rounds_0 (X : pv_X) (r : Nat) (v0 : Nat) (v1 : Int32) (v2 : Int32) (v3 : Int32) (h : pv_H) : f_Md_rounds_0 X r v0 v1 v2 v3 h =
    if ¬ v3 = 0 then f_Md_rounds_162 X r v0 v1 v2 v3 0 h else if m_Md_triesNow.2.2.2.2.2 [.ref v0] < r then (if pv_rc h v0 11 = true then (pv_tV (pM X m_Md_triesNow [.ref v0] h)).bind (fun h1 => f_Md_rounds_11 X r v0 v1 v2 v3 0 h1) else none) else none := by
  show pS X r (none) k_Md_rounds 0 [some (.ref v0), some (.int v1), some (.int v2), some (.int v3), none, none, none] [] h = _
  refine (ss_iload_n rfl rfl).trans ?_
  refine (ss_if_ne rfl).trans ?_
  refine pv_ite ?_ ?_
  · refine (ss_iconst rfl (v := 0) rfl).trans ?_
    refine (ss_istore rfl rfl).trans ?_
    rfl
  · refine (ss_aload_n rfl rfl).trans ?_
    refine (ssr_callVN (as := []) rfl t_Md_triesNow (by decide) rfl rfl (by decide) rfl (Nat.le_of_ble_eq_true rfl)).trans ?_
    refine pv_ite ?_ rfl
    refine pv_ite ?_ rfl
    refine congrArg (Option.bind _) (funext fun h1 => ?_)
    refine (ss_iconst rfl (v := 0) rfl).trans ?_
    refine (ss_istore rfl rfl).trans ?_
    rfl
set_option maxRecDepth 8000 in
theorem u_Md_rounds_11 (X : pv_X) (r : Nat) (v0 : Nat) (v1 : Int32) (v2 : Int32) (v3 : Int32) (v4 : Int32) (h : pv_H) : f_Md_rounds_11 X r v0 v1 v2 v3 v4 h =
    if v2 ≤ v4 then f_Md_rounds_51 X r v0 v1 v2 v3 0 0 h else (pv_fR h v0 11 25).bind (fun x1 => (pv_aX X h x1 v4).bind (fun x2 => if m_Md_asks.2.2.2.2.2 [.ref v0, .int 1071, .int x2, .int v1] < r then (if pv_rc h v0 11 = true then (pv_tV (pM X m_Md_asks [.ref v0, .int 1071, .int x2, .int v1] h)).bind (fun h3 => if m_Md_passes_1.2.2.2.2.2 [.ref v0, .int 1071] < r then (if pv_rc h3 v0 11 = true then (pv_tV (pM X m_Md_passes_1 [.ref v0, .int 1071] h3)).bind (fun h4 => f_Md_rounds_11 X r v0 v1 v2 v3 (v4 + 1) h4) else none) else none) else none) else none)) := by
  show pS X r (none) k_Md_rounds 11 [some (.ref v0), some (.int v1), some (.int v2), some (.int v3), some (.int v4), none, none] [] h = _
  refine (ss_iload rfl rfl).trans ?_
  refine (ss_iload_n rfl rfl).trans ?_
  refine (ss_icmp_ge rfl).trans ?_
  refine pv_ite ?_ ?_
  · refine (ss_iconst rfl (v := 0) rfl).trans ?_
    refine (ss_istore rfl rfl).trans ?_
    refine (ss_iconst rfl (v := 0) rfl).trans ?_
    refine (ss_istore rfl rfl).trans ?_
    rfl
  · refine (ss_aload_n rfl rfl).trans ?_
    refine (ss_sipush rfl (v := 1071) rfl).trans ?_
    refine (ss_aload_n rfl rfl).trans ?_
    refine (ss_getR rfl).trans ?_
    refine congrArg (Option.bind _) (funext fun x1 => ?_)
    refine (ss_iload rfl rfl).trans ?_
    refine (ss_iaload rfl).trans ?_
    refine congrArg (Option.bind _) (funext fun x2 => ?_)
    refine (ss_iload_n rfl rfl).trans ?_
    refine (ssr_callVN (as := [.int 1071, .int x2, .int v1]) rfl t_Md_asks (by decide) rfl rfl (by decide) rfl (Nat.le_of_ble_eq_true rfl)).trans ?_
    refine pv_ite ?_ rfl
    refine pv_ite ?_ rfl
    refine congrArg (Option.bind _) (funext fun h3 => ?_)
    refine (ss_aload_n rfl rfl).trans ?_
    refine (ss_sipush rfl (v := 1071) rfl).trans ?_
    refine (ssr_callVN (as := [.int 1071]) rfl t_Md_passes_1 (by decide) rfl rfl (by decide) rfl (Nat.le_of_ble_eq_true rfl)).trans ?_
    refine pv_ite ?_ rfl
    refine pv_ite ?_ rfl
    refine congrArg (Option.bind _) (funext fun h4 => ?_)
    refine (ss_iinc3 rfl rfl (v := v4 + 1) (congrArg (HAdd.hAdd _) (show Int32.ofInt (1) = 1 by decide)) rfl).trans ?_
    refine (ss_goto rfl).trans ?_
    rfl
set_option maxRecDepth 8000 in
theorem u_Md_rounds_51 (X : pv_X) (r : Nat) (v0 : Nat) (v1 : Int32) (v2 : Int32) (v3 : Int32) (v4 : Int32) (v5 : Int32) (h : pv_H) : f_Md_rounds_51 X r v0 v1 v2 v3 v4 v5 h =
    if m_Md_persons.2.2.2.2.2 [.ref v0] < r then (if pv_rc h v0 11 = true then (pv_tI (pM X m_Md_persons [.ref v0] h)).bind (fun q1 => if q1.1 ≤ v5 then (pv_fI q1.2 v0 11 27).bind (fun x2 => if x2 < 0 then f_Md_rounds_99 X r v0 v1 v2 v3 v4 v5 q1.2 else (pv_fI q1.2 v0 11 27).bind (fun x3 => if x3 ≤ v4 then f_Md_rounds_104 X r v0 v1 v2 v3 v4 v5 0 q1.2 else f_Md_rounds_99 X r v0 v1 v2 v3 v4 v5 q1.2)) else if m_Md_outOf.2.2.2.2.2 [.ref v0, .int 1071, .int v5] < r then (if pv_rc q1.2 v0 11 = true then (pv_tI (pM X m_Md_outOf [.ref v0, .int 1071, .int v5] q1.2)).bind (fun q4 => if m_Md_unsigned.2.2.2.2.2 [.int q4.1] < r then (pv_tI (pM X m_Md_unsigned [.int q4.1] q4.2)).bind (fun q5 => f_Md_rounds_51 X r v0 v1 v2 v3 (v4 + q5.1) (v5 + 1) q5.2) else none) else none) else none) else none) else none := by
  show pS X r (none) k_Md_rounds 51 [some (.ref v0), some (.int v1), some (.int v2), some (.int v3), some (.int v4), some (.int v5), none] [] h = _
  refine (ss_iload rfl rfl).trans ?_
  refine (ss_aload_n rfl rfl).trans ?_
  refine (ssr_callVI (as := []) rfl t_Md_persons (by decide) rfl rfl (by simp [Value.category]) (Or.inl rfl) (Nat.le_of_ble_eq_true rfl)).trans ?_
  refine pv_ite ?_ rfl
  refine pv_ite ?_ rfl
  refine congrArg (Option.bind _) (funext fun q1 => ?_)
  refine (ss_icmp_ge rfl).trans ?_
  refine pv_ite ?_ ?_
  · refine (ss_aload_n rfl rfl).trans ?_
    refine (ss_getI rfl).trans ?_
    refine congrArg (Option.bind _) (funext fun x2 => ?_)
    refine (ss_if_lt rfl).trans ?_
    refine pv_ite ?_ ?_
    · rfl
    · refine (ss_iload rfl rfl).trans ?_
      refine (ss_aload_n rfl rfl).trans ?_
      refine (ss_getI rfl).trans ?_
      refine congrArg (Option.bind _) (funext fun x3 => ?_)
      refine (ss_icmp_ge rfl).trans ?_
      refine pv_ite ?_ ?_
      · refine (ss_iconst rfl (v := 0) rfl).trans ?_
        rfl
      · rfl
  · refine (ss_iload rfl rfl).trans ?_
    refine (ss_aload_n rfl rfl).trans ?_
    refine (ss_sipush rfl (v := 1071) rfl).trans ?_
    refine (ss_iload rfl rfl).trans ?_
    refine (ssr_callVI (as := [.int 1071, .int v5]) rfl t_Md_outOf (by decide) rfl rfl (by simp [Value.category]) (Or.inl rfl) (Nat.le_of_ble_eq_true rfl)).trans ?_
    refine pv_ite ?_ rfl
    refine pv_ite ?_ rfl
    refine congrArg (Option.bind _) (funext fun q4 => ?_)
    refine (ssr_callSI (as := [.int q4.1]) rfl t_Md_unsigned (by decide) rfl rfl (by simp [Value.category]) (Or.inl rfl) (Nat.le_of_ble_eq_true rfl)).trans ?_
    refine pv_ite ?_ rfl
    refine congrArg (Option.bind _) (funext fun q5 => ?_)
    refine (ss_iadd rfl).trans ?_
    refine (ss_istore rfl rfl).trans ?_
    refine (ss_iinc3 rfl rfl (v := v5 + 1) (congrArg (HAdd.hAdd _) (show Int32.ofInt (1) = 1 by decide)) rfl).trans ?_
    refine (ss_goto rfl).trans ?_
    rfl
set_option maxRecDepth 8000 in
theorem u_Md_rounds_99 (X : pv_X) (r : Nat) (v0 : Nat) (v1 : Int32) (v2 : Int32) (v3 : Int32) (v4 : Int32) (v5 : Int32) (h : pv_H) : f_Md_rounds_99 X r v0 v1 v2 v3 v4 v5 h =
    f_Md_rounds_104 X r v0 v1 v2 v3 v4 v5 1 h := by
  show pS X r (none) k_Md_rounds 99 [some (.ref v0), some (.int v1), some (.int v2), some (.int v3), some (.int v4), some (.int v5), none] [] h = _
  refine (ss_iconst rfl (v := 1) rfl).trans ?_
  refine (ss_goto rfl).trans ?_
  rfl
set_option maxRecDepth 8000 in
theorem u_Md_rounds_104 (X : pv_X) (r : Nat) (v0 : Nat) (v1 : Int32) (v2 : Int32) (v3 : Int32) (v4 : Int32) (v5 : Int32) (s0 : Int32) (h : pv_H) : f_Md_rounds_104 X r v0 v1 v2 v3 v4 v5 s0 h =
    f_Md_rounds_109 X r v0 v1 v2 v3 v4 s0 0 h := by
  show pS X r (none) k_Md_rounds 104 [some (.ref v0), some (.int v1), some (.int v2), some (.int v3), some (.int v4), some (.int v5), none] [.int s0] h = _
  refine (ss_istore rfl rfl).trans ?_
  refine (ss_iconst rfl (v := 0) rfl).trans ?_
  refine (ss_istore rfl rfl).trans ?_
  rfl
set_option maxRecDepth 8000 in
theorem u_Md_rounds_109 (X : pv_X) (r : Nat) (v0 : Nat) (v1 : Int32) (v2 : Int32) (v3 : Int32) (v4 : Int32) (v5 : Int32) (v6 : Int32) (h : pv_H) : f_Md_rounds_109 X r v0 v1 v2 v3 v4 v5 v6 h =
    if v2 ≤ v6 then f_Md_rounds_140 X r v0 v1 v2 v3 v4 v5 v6 h else if v5 = 0 then f_Md_rounds_140 X r v0 v1 v2 v3 v4 v5 v6 h else (pv_fR h v0 11 26).bind (fun x1 => (pv_fR h v0 11 25).bind (fun x2 => (pv_aX X h x2 v6).bind (fun x3 => (pv_sI h x1 v6 x3).bind (fun h4 => f_Md_rounds_109 X r v0 v1 v2 v3 v4 v5 (v6 + 1) h4)))) := by
  show pS X r (none) k_Md_rounds 109 [some (.ref v0), some (.int v1), some (.int v2), some (.int v3), some (.int v4), some (.int v5), some (.int v6)] [] h = _
  refine (ss_iload rfl rfl).trans ?_
  refine (ss_iload_n rfl rfl).trans ?_
  refine (ss_icmp_ge rfl).trans ?_
  refine pv_ite ?_ ?_
  · rfl
  · refine (ss_iload rfl rfl).trans ?_
    refine (ss_if_eq rfl).trans ?_
    refine pv_ite ?_ ?_
    · rfl
    · refine (ss_aload_n rfl rfl).trans ?_
      refine (ss_getR rfl).trans ?_
      refine congrArg (Option.bind _) (funext fun x1 => ?_)
      refine (ss_iload rfl rfl).trans ?_
      refine (ss_aload_n rfl rfl).trans ?_
      refine (ss_getR rfl).trans ?_
      refine congrArg (Option.bind _) (funext fun x2 => ?_)
      refine (ss_iload rfl rfl).trans ?_
      refine (ss_iaload rfl).trans ?_
      refine congrArg (Option.bind _) (funext fun x3 => ?_)
      refine (ss_iastore rfl).trans ?_
      refine congrArg (Option.bind _) (funext fun h4 => ?_)
      refine (ss_iinc3 rfl rfl (v := v6 + 1) (congrArg (HAdd.hAdd _) (show Int32.ofInt (1) = 1 by decide)) rfl).trans ?_
      refine (ss_goto rfl).trans ?_
      rfl
set_option maxRecDepth 8000 in
theorem u_Md_rounds_140 (X : pv_X) (r : Nat) (v0 : Nat) (v1 : Int32) (v2 : Int32) (v3 : Int32) (v4 : Int32) (v5 : Int32) (v6 : Int32) (h : pv_H) : f_Md_rounds_140 X r v0 v1 v2 v3 v4 v5 v6 h =
    if v5 = 0 then (pv_fI h v0 11 27).bind (fun x1 => f_Md_rounds_155 X r v0 v1 v2 v3 v4 v5 v6 x1 v0 h) else f_Md_rounds_155 X r v0 v1 v2 v3 v4 v5 v6 v4 v0 h := by
  show pS X r (none) k_Md_rounds 140 [some (.ref v0), some (.int v1), some (.int v2), some (.int v3), some (.int v4), some (.int v5), some (.int v6)] [] h = _
  refine (ss_aload_n rfl rfl).trans ?_
  refine (ss_iload rfl rfl).trans ?_
  refine (ss_if_eq rfl).trans ?_
  refine pv_ite ?_ ?_
  · refine (ss_aload_n rfl rfl).trans ?_
    refine (ss_getI rfl).trans ?_
    refine congrArg (Option.bind _) (funext fun x1 => ?_)
    rfl
  · refine (ss_iload rfl rfl).trans ?_
    refine (ss_goto rfl).trans ?_
    rfl
set_option maxRecDepth 8000 in
theorem u_Md_rounds_155 (X : pv_X) (r : Nat) (v0 : Nat) (v1 : Int32) (v2 : Int32) (v3 : Int32) (v4 : Int32) (v5 : Int32) (v6 : Int32) (s0 : Int32) (s1 : Nat) (h : pv_H) : f_Md_rounds_155 X r v0 v1 v2 v3 v4 v5 v6 s0 s1 h =
    (pv_fp h s1 11 27 (.int s0)).bind (fun h1 => some (none, h1)) := by
  show pS X r (none) k_Md_rounds 155 [some (.ref v0), some (.int v1), some (.int v2), some (.int v3), some (.int v4), some (.int v5), some (.int v6)] [.int s0, .ref s1] h = _
  refine (ss_putI rfl).trans ?_
  refine congrArg (Option.bind _) (funext fun h1 => ?_)
  exact ss_return rfl
set_option maxRecDepth 8000 in
theorem u_Md_rounds_162 (X : pv_X) (r : Nat) (v0 : Nat) (v1 : Int32) (v2 : Int32) (v3 : Int32) (v4 : Int32) (h : pv_H) : f_Md_rounds_162 X r v0 v1 v2 v3 v4 h =
    if m_Md_persons.2.2.2.2.2 [.ref v0] < r then (if pv_rc h v0 11 = true then (pv_tI (pM X m_Md_persons [.ref v0] h)).bind (fun q1 => if q1.1 ≤ v4 then some (none, q1.2) else if ¬ (((v3 : Int32) >>> (v4 &&& 31)) &&& 1) = 1 then f_Md_rounds_205 X r v0 v1 v2 v3 v4 q1.2 else (pv_fR q1.2 v0 11 25).bind (fun x2 => (pv_sI q1.2 x2 v2 v4).bind (fun h3 => if m_Md_rounds.2.2.2.2.2 [.ref v0, .int v1, .int (v2 + 1), .int (v3 &&& (((1 : Int32) <<< (v4 &&& 31)) ^^^ (-1)))] < r then (if pv_rc h3 v0 11 = true then (pv_tV (pM X m_Md_rounds [.ref v0, .int v1, .int (v2 + 1), .int (v3 &&& (((1 : Int32) <<< (v4 &&& 31)) ^^^ (-1)))] h3)).bind (fun h4 => f_Md_rounds_205 X r v0 v1 v2 v3 v4 h4) else none) else none))) else none) else none := by
  show pS X r (none) k_Md_rounds 162 [some (.ref v0), some (.int v1), some (.int v2), some (.int v3), some (.int v4), none, none] [] h = _
  refine (ss_iload rfl rfl).trans ?_
  refine (ss_aload_n rfl rfl).trans ?_
  refine (ssr_callVI (as := []) rfl t_Md_persons (by decide) rfl rfl (by simp [Value.category]) (Or.inl rfl) (Nat.le_of_ble_eq_true rfl)).trans ?_
  refine pv_ite ?_ rfl
  refine pv_ite ?_ rfl
  refine congrArg (Option.bind _) (funext fun q1 => ?_)
  refine (ss_icmp_ge rfl).trans ?_
  refine pv_ite ?_ ?_
  · exact ss_return rfl
  · refine (ss_iload_n rfl rfl).trans ?_
    refine (ss_iload rfl rfl).trans ?_
    refine (ss_ishr rfl).trans ?_
    refine (ss_iconst rfl (v := 1) rfl).trans ?_
    refine (ss_iand rfl).trans ?_
    refine (ss_iconst rfl (v := 1) rfl).trans ?_
    refine (ss_icmp_ne rfl).trans ?_
    refine pv_ite ?_ ?_
    · rfl
    · refine (ss_aload_n rfl rfl).trans ?_
      refine (ss_getR rfl).trans ?_
      refine congrArg (Option.bind _) (funext fun x2 => ?_)
      refine (ss_iload_n rfl rfl).trans ?_
      refine (ss_iload rfl rfl).trans ?_
      refine (ss_iastore rfl).trans ?_
      refine congrArg (Option.bind _) (funext fun h3 => ?_)
      refine (ss_aload_n rfl rfl).trans ?_
      refine (ss_iload_n rfl rfl).trans ?_
      refine (ss_iload_n rfl rfl).trans ?_
      refine (ss_iconst rfl (v := 1) rfl).trans ?_
      refine (ss_iadd rfl).trans ?_
      refine (ss_iload_n rfl rfl).trans ?_
      refine (ss_iconst rfl (v := 1) rfl).trans ?_
      refine (ss_iload rfl rfl).trans ?_
      refine (ss_ishl rfl).trans ?_
      refine (ss_iconst rfl (v := (-1)) rfl).trans ?_
      refine (ss_ixor rfl).trans ?_
      refine (ss_iand rfl).trans ?_
      refine (ssr_callVN (as := [.int v1, .int (v2 + 1), .int (v3 &&& (((1 : Int32) <<< (v4 &&& 31)) ^^^ (-1)))]) rfl t_Md_rounds (by decide) rfl rfl (by decide) rfl (Nat.le_of_ble_eq_true rfl)).trans ?_
      refine pv_ite ?_ rfl
      refine pv_ite ?_ rfl
      refine congrArg (Option.bind _) (funext fun h4 => ?_)
      rfl
set_option maxRecDepth 8000 in
theorem u_Md_rounds_205 (X : pv_X) (r : Nat) (v0 : Nat) (v1 : Int32) (v2 : Int32) (v3 : Int32) (v4 : Int32) (h : pv_H) : f_Md_rounds_205 X r v0 v1 v2 v3 v4 h =
    f_Md_rounds_162 X r v0 v1 v2 v3 (v4 + 1) h := by
  show pS X r (none) k_Md_rounds 205 [some (.ref v0), some (.int v1), some (.int v2), some (.int v3), some (.int v4), none, none] [] h = _
  refine (ss_iinc3 rfl rfl (v := v4 + 1) (congrArg (HAdd.hAdd _) (show Int32.ofInt (1) = 1 by decide)) rfl).trans ?_
  refine (ss_goto rfl).trans ?_
  rfl
theorem e_Md_rounds (X : pv_X) (v0 : Nat) (v1 : Int32) (v2 : Int32) (v3 : Int32) (h : pv_H) : pM X m_Md_rounds [.ref v0, .int v1, .int v2, .int v3] h = f_Md_rounds_0 X (m_Md_rounds.2.2.2.2.2 [.ref v0, .int v1, .int v2, .int v3]) v0 v1 v2 v3 h := rfl
noncomputable def f_Md_round_0 (X : pv_X) (v0 : Nat) (v1 : Int32) (v2 : Int32) (h : pv_H) : Option pv_O := pS X 12 (some .int) k_Md_round 0 [some (.ref v0), some (.int v1), some (.int v2)] [] h
noncomputable def f_Md_round_27 (X : pv_X) (v0 : Nat) (v1 : Int32) (v2 : Int32) (h : pv_H) : Option pv_O := pS X 12 (some .int) k_Md_round 27 [some (.ref v0), some (.int v1), some (.int v2)] [] h
noncomputable def f_Md_round_73 (X : pv_X) (v0 : Nat) (v1 : Int32) (v2 : Int32) (s0 : Int32) (h : pv_H) : Option pv_O := pS X 12 (some .int) k_Md_round 73 [some (.ref v0), some (.int v1), some (.int v2)] [.int s0] h
set_option maxRecDepth 8000 in
theorem u_Md_round_0 (X : pv_X) (v0 : Nat) (v1 : Int32) (v2 : Int32) (h : pv_H) : f_Md_round_0 X v0 v1 v2 h =
    (pv_fp h v0 11 0 (.int 0)).bind (fun h1 => if pv_rc h1 v0 11 = true then (pv_tI (pM X m_Md_isPerson [.ref v0, .int v1] h1)).bind (fun q2 => if q2.1 = 0 then f_Md_round_27 X v0 v1 v2 q2.2 else if pv_rc q2.2 v0 11 = true then (pv_tI (pM X m_Md_persons [.ref v0] q2.2)).bind (fun q3 => (pv_tI (pM X m_Md_within [.int v2, .int (-1), .int (q3.1 - 2)] q3.2)).bind (fun q4 => if ¬ q4.1 = 0 then (pv_fp q4.2 v0 11 27 (.int (-1))).bind (fun h5 => if pv_rc h5 v0 11 = true then (pv_tI (pM X m_Md_persons [.ref v0] h5)).bind (fun q6 => if pv_rc q6.2 v0 11 = true then (pv_tV (pM X m_Md_rounds [.ref v0, .int v1, .int 0, .int ((((1 : Int32) <<< (q6.1 &&& 31)) - 1) &&& (((1 : Int32) <<< (v1 &&& 31)) ^^^ (-1)))] q6.2)).bind (fun h7 => if ¬ v2 = (-1) then (pv_fR h7 v0 11 26).bind (fun x8 => (pv_aX X h7 x8 v2).bind (fun x9 => f_Md_round_73 X v0 v1 v2 x9 h7)) else (pv_fI h7 v0 11 27).bind (fun x10 => f_Md_round_73 X v0 v1 v2 x10 h7)) else none) else none) else f_Md_round_27 X v0 v1 v2 q4.2)) else none) else none) := by
  show pS X 12 (some .int) k_Md_round 0 [some (.ref v0), some (.int v1), some (.int v2)] [] h = _
  refine (ss_aload_n rfl rfl).trans ?_
  refine (ss_iconst rfl (v := 0) rfl).trans ?_
  refine (ss_putI rfl).trans ?_
  refine congrArg (Option.bind _) (funext fun h1 => ?_)
  refine (ss_aload_n rfl rfl).trans ?_
  refine (ss_iload_n rfl rfl).trans ?_
  refine (ss_callVI (as := [.int v1]) rfl t_Md_isPerson (by decide) rfl rfl (by decide) (Or.inr rfl) ⟨Nat.le_of_ble_eq_true rfl, Nat.le_of_ble_eq_true rfl⟩).trans ?_
  refine pv_ite ?_ rfl
  refine congrArg (Option.bind _) (funext fun q2 => ?_)
  refine (ss_if_eq rfl).trans ?_
  refine pv_ite ?_ ?_
  · rfl
  · refine (ss_iload_n rfl rfl).trans ?_
    refine (ss_iconst rfl (v := (-1)) rfl).trans ?_
    refine (ss_aload_n rfl rfl).trans ?_
    refine (ss_callVI (as := []) rfl t_Md_persons (by decide) rfl rfl (by simp [Value.category]) (Or.inl rfl) ⟨Nat.le_of_ble_eq_true rfl, Nat.le_of_ble_eq_true rfl⟩).trans ?_
    refine pv_ite ?_ rfl
    refine congrArg (Option.bind _) (funext fun q3 => ?_)
    refine (ss_iconst rfl (v := 2) rfl).trans ?_
    refine (ss_isub rfl).trans ?_
    refine (ss_callSI (as := [.int v2, .int (-1), .int (q3.1 - 2)]) rfl t_Md_within (by decide) rfl rfl (by decide) (Or.inr rfl) ⟨Nat.le_of_ble_eq_true rfl, Nat.le_of_ble_eq_true rfl⟩).trans ?_
    refine congrArg (Option.bind _) (funext fun q4 => ?_)
    refine (ss_if_ne rfl).trans ?_
    refine pv_ite ?_ ?_
    · refine (ss_aload_n rfl rfl).trans ?_
      refine (ss_iconst rfl (v := (-1)) rfl).trans ?_
      refine (ss_putI rfl).trans ?_
      refine congrArg (Option.bind _) (funext fun h5 => ?_)
      refine (ss_aload_n rfl rfl).trans ?_
      refine (ss_iload_n rfl rfl).trans ?_
      refine (ss_iconst rfl (v := 0) rfl).trans ?_
      refine (ss_iconst rfl (v := 1) rfl).trans ?_
      refine (ss_aload_n rfl rfl).trans ?_
      refine (ss_callVI (as := []) rfl t_Md_persons (by decide) rfl rfl (by simp [Value.category]) (Or.inl rfl) ⟨Nat.le_of_ble_eq_true rfl, Nat.le_of_ble_eq_true rfl⟩).trans ?_
      refine pv_ite ?_ rfl
      refine congrArg (Option.bind _) (funext fun q6 => ?_)
      refine (ss_ishl rfl).trans ?_
      refine (ss_iconst rfl (v := 1) rfl).trans ?_
      refine (ss_isub rfl).trans ?_
      refine (ss_iconst rfl (v := 1) rfl).trans ?_
      refine (ss_iload_n rfl rfl).trans ?_
      refine (ss_ishl rfl).trans ?_
      refine (ss_iconst rfl (v := (-1)) rfl).trans ?_
      refine (ss_ixor rfl).trans ?_
      refine (ss_iand rfl).trans ?_
      refine (ss_callVN (as := [.int v1, .int 0, .int ((((1 : Int32) <<< (q6.1 &&& 31)) - 1) &&& (((1 : Int32) <<< (v1 &&& 31)) ^^^ (-1)))]) rfl t_Md_rounds (by decide) rfl rfl (by decide) rfl ⟨Nat.le_of_ble_eq_true rfl, Nat.le_of_ble_eq_true rfl⟩).trans ?_
      refine pv_ite ?_ rfl
      refine congrArg (Option.bind _) (funext fun h7 => ?_)
      refine (ss_iload_n rfl rfl).trans ?_
      refine (ss_iconst rfl (v := (-1)) rfl).trans ?_
      refine (ss_icmp_ne rfl).trans ?_
      refine pv_ite ?_ ?_
      · refine (ss_aload_n rfl rfl).trans ?_
        refine (ss_getR rfl).trans ?_
        refine congrArg (Option.bind _) (funext fun x8 => ?_)
        refine (ss_iload_n rfl rfl).trans ?_
        refine (ss_iaload rfl).trans ?_
        refine congrArg (Option.bind _) (funext fun x9 => ?_)
        rfl
      · refine (ss_aload_n rfl rfl).trans ?_
        refine (ss_getI rfl).trans ?_
        refine congrArg (Option.bind _) (funext fun x10 => ?_)
        refine (ss_goto rfl).trans ?_
        rfl
    · rfl
set_option maxRecDepth 8000 in
theorem u_Md_round_27 (X : pv_X) (v0 : Nat) (v1 : Int32) (v2 : Int32) (h : pv_H) : f_Md_round_27 X v0 v1 v2 h =
    some (some (.int (-2)), h) := by
  show pS X 12 (some .int) k_Md_round 27 [some (.ref v0), some (.int v1), some (.int v2)] [] h = _
  refine (ss_bipush rfl (v := (-2)) rfl).trans ?_
  exact ss_ireturn rfl
set_option maxRecDepth 8000 in
theorem u_Md_round_73 (X : pv_X) (v0 : Nat) (v1 : Int32) (v2 : Int32) (s0 : Int32) (h : pv_H) : f_Md_round_73 X v0 v1 v2 s0 h =
    some (some (.int s0), h) := by
  show pS X 12 (some .int) k_Md_round 73 [some (.ref v0), some (.int v1), some (.int v2)] [.int s0] h = _
  exact ss_ireturn rfl
theorem e_Md_round (X : pv_X) (v0 : Nat) (v1 : Int32) (v2 : Int32) (h : pv_H) : pM X m_Md_round [.ref v0, .int v1, .int v2] h = f_Md_round_0 X v0 v1 v2 h := rfl
noncomputable def f_Md_bits_0 (X : pv_X) (v0 : Int32) (h : pv_H) : Option pv_O := pS X 1 (some .int) k_Md_bits 0 [some (.int v0), none, none] [] h
noncomputable def f_Md_bits_4 (X : pv_X) (v0 : Int32) (v1 : Int32) (v2 : Int32) (h : pv_H) : Option pv_O := pS X 1 (some .int) k_Md_bits 4 [some (.int v0), some (.int v1), some (.int v2)] [] h
set_option maxRecDepth 8000 in
theorem u_Md_bits_0 (X : pv_X) (v0 : Int32) (h : pv_H) : f_Md_bits_0 X v0 h =
    f_Md_bits_4 X v0 0 0 h := by
  show pS X 1 (some .int) k_Md_bits 0 [some (.int v0), none, none] [] h = _
  refine (ss_iconst rfl (v := 0) rfl).trans ?_
  refine (ss_istore_n rfl rfl).trans ?_
  refine (ss_iconst rfl (v := 0) rfl).trans ?_
  refine (ss_istore_n rfl rfl).trans ?_
  rfl
set_option maxRecDepth 8000 in
theorem u_Md_bits_4 (X : pv_X) (v0 : Int32) (v1 : Int32) (v2 : Int32) (h : pv_H) : f_Md_bits_4 X v0 v1 v2 h =
    if 30 ≤ v2 then some (some (.int v1), h) else f_Md_bits_4 X v0 (v1 + (((v0 : Int32) >>> (v2 &&& 31)) &&& 1)) (v2 + 1) h := by
  show pS X 1 (some .int) k_Md_bits 4 [some (.int v0), some (.int v1), some (.int v2)] [] h = _
  refine (ss_iload_n rfl rfl).trans ?_
  refine (ss_bipush rfl (v := 30) rfl).trans ?_
  refine (ss_icmp_ge rfl).trans ?_
  refine pv_ite ?_ ?_
  · refine (ss_iload_n rfl rfl).trans ?_
    exact ss_ireturn rfl
  · refine (ss_iload_n rfl rfl).trans ?_
    refine (ss_iload_n rfl rfl).trans ?_
    refine (ss_iload_n rfl rfl).trans ?_
    refine (ss_ishr rfl).trans ?_
    refine (ss_iconst rfl (v := 1) rfl).trans ?_
    refine (ss_iand rfl).trans ?_
    refine (ss_iadd rfl).trans ?_
    refine (ss_istore_n rfl rfl).trans ?_
    refine (ss_iinc3 rfl rfl (v := v2 + 1) (congrArg (HAdd.hAdd _) (show Int32.ofInt (1) = 1 by decide)) rfl).trans ?_
    refine (ss_goto rfl).trans ?_
    rfl
theorem e_Md_bits (X : pv_X) (v0 : Int32) (h : pv_H) : pM X m_Md_bits [.int v0] h = f_Md_bits_0 X v0 h := rfl
noncomputable def f_Md_spreadBut_0 (X : pv_X) (v0 : Nat) (v1 : Int32) (h : pv_H) : Option pv_O := pS X 3 (some .int) k_Md_spreadBut 0 [some (.ref v0), some (.int v1), none, none, none, none, none] [] h
noncomputable def f_Md_spreadBut_11 (X : pv_X) (v0 : Nat) (v1 : Int32) (v2 : Int32) (v3 : Int32) (v4 : Int32) (o5 : Option Value) (o6 : Option Value) (h : pv_H) : Option pv_O := pS X 3 (some .int) k_Md_spreadBut 11 [some (.ref v0), some (.int v1), some (.int v2), some (.int v3), some (.int v4), o5, o6] [] h
noncomputable def f_Md_spreadBut_43 (X : pv_X) (v0 : Nat) (v1 : Int32) (v2 : Int32) (v3 : Int32) (v4 : Int32) (v5 : Int32) (o6 : Option Value) (s0 : Int32) (h : pv_H) : Option pv_O := pS X 3 (some .int) k_Md_spreadBut 43 [some (.ref v0), some (.int v1), some (.int v2), some (.int v3), some (.int v4), some (.int v5), o6] [.int s0] h
noncomputable def f_Md_spreadBut_61 (X : pv_X) (v0 : Nat) (v1 : Int32) (v2 : Int32) (v3 : Int32) (v4 : Int32) (v5 : Int32) (v6 : Int32) (h : pv_H) : Option pv_O := pS X 3 (some .int) k_Md_spreadBut 61 [some (.ref v0), some (.int v1), some (.int v2), some (.int v3), some (.int v4), some (.int v5), some (.int v6)] [] h
noncomputable def f_Md_spreadBut_62 (X : pv_X) (v0 : Nat) (v1 : Int32) (v2 : Int32) (v3 : Int32) (v4 : Int32) (v5 : Int32) (v6 : Int32) (s0 : Int32) (h : pv_H) : Option pv_O := pS X 3 (some .int) k_Md_spreadBut 62 [some (.ref v0), some (.int v1), some (.int v2), some (.int v3), some (.int v4), some (.int v5), some (.int v6)] [.int s0] h
noncomputable def f_Md_spreadBut_79 (X : pv_X) (v0 : Nat) (v1 : Int32) (v2 : Int32) (v3 : Int32) (v4 : Int32) (v5 : Int32) (v6 : Int32) (h : pv_H) : Option pv_O := pS X 3 (some .int) k_Md_spreadBut 79 [some (.ref v0), some (.int v1), some (.int v2), some (.int v3), some (.int v4), some (.int v5), some (.int v6)] [] h
noncomputable def f_Md_spreadBut_80 (X : pv_X) (v0 : Nat) (v1 : Int32) (v2 : Int32) (v3 : Int32) (v4 : Int32) (v5 : Int32) (v6 : Int32) (s0 : Int32) (h : pv_H) : Option pv_O := pS X 3 (some .int) k_Md_spreadBut 80 [some (.ref v0), some (.int v1), some (.int v2), some (.int v3), some (.int v4), some (.int v5), some (.int v6)] [.int s0] h
noncomputable def f_Md_spreadBut_99 (X : pv_X) (v0 : Nat) (v1 : Int32) (v2 : Int32) (v3 : Int32) (v4 : Int32) (o5 : Option Value) (o6 : Option Value) (s0 : Int32) (h : pv_H) : Option pv_O := pS X 3 (some .int) k_Md_spreadBut 99 [some (.ref v0), some (.int v1), some (.int v2), some (.int v3), some (.int v4), o5, o6] [.int s0] h
set_option maxRecDepth 8000 in
theorem u_Md_spreadBut_0 (X : pv_X) (v0 : Nat) (v1 : Int32) (h : pv_H) : f_Md_spreadBut_0 X v0 v1 h =
    f_Md_spreadBut_11 X v0 v1 360 (-361) 0 none none h := by
  show pS X 3 (some .int) k_Md_spreadBut 0 [some (.ref v0), some (.int v1), none, none, none, none, none] [] h = _
  refine (ss_sipush rfl (v := 360) rfl).trans ?_
  refine (ss_istore_n rfl rfl).trans ?_
  refine (ss_sipush rfl (v := (-361)) rfl).trans ?_
  refine (ss_istore_n rfl rfl).trans ?_
  refine (ss_iconst rfl (v := 0) rfl).trans ?_
  refine (ss_istore rfl rfl).trans ?_
  rfl
set_option maxRecDepth 8000 in
theorem u_Md_spreadBut_11 (X : pv_X) (v0 : Nat) (v1 : Int32) (v2 : Int32) (v3 : Int32) (v4 : Int32) (o5 : Option Value) (o6 : Option Value) (h : pv_H) : f_Md_spreadBut_11 X v0 v1 v2 v3 v4 o5 o6 h =
    if pv_rc h v0 11 = true then (pv_tI (pM X m_Md_persons [.ref v0] h)).bind (fun q1 => if q1.1 ≤ v4 then if v2 ≤ v3 then f_Md_spreadBut_99 X v0 v1 v2 v3 v4 o5 o6 (v3 - v2) q1.2 else f_Md_spreadBut_99 X v0 v1 v2 v3 v4 o5 o6 0 q1.2 else if pv_rc q1.2 v0 11 = true then (pv_tI (pM X m_Md_outOf [.ref v0, .int 0, .int v4] q1.2)).bind (fun q2 => if ¬ (((v1 : Int32) >>> (v4 &&& 31)) &&& 1) = 0 then f_Md_spreadBut_43 X v0 v1 v2 v3 v4 q2.1 o6 0 q2.2 else f_Md_spreadBut_43 X v0 v1 v2 v3 v4 q2.1 o6 1 q2.2) else none) else none := by
  show pS X 3 (some .int) k_Md_spreadBut 11 [some (.ref v0), some (.int v1), some (.int v2), some (.int v3), some (.int v4), o5, o6] [] h = _
  refine (ss_iload rfl rfl).trans ?_
  refine (ss_aload_n rfl rfl).trans ?_
  refine (ss_callVI (as := []) rfl t_Md_persons (by decide) rfl rfl (by simp [Value.category]) (Or.inl rfl) ⟨Nat.le_of_ble_eq_true rfl, Nat.le_of_ble_eq_true rfl⟩).trans ?_
  refine pv_ite ?_ rfl
  refine congrArg (Option.bind _) (funext fun q1 => ?_)
  refine (ss_icmp_ge rfl).trans ?_
  refine pv_ite ?_ ?_
  · refine (ss_iload_n rfl rfl).trans ?_
    refine (ss_iload_n rfl rfl).trans ?_
    refine (ss_icmp_ge rfl).trans ?_
    refine pv_ite ?_ ?_
    · refine (ss_iload_n rfl rfl).trans ?_
      refine (ss_iload_n rfl rfl).trans ?_
      refine (ss_isub rfl).trans ?_
      rfl
    · refine (ss_iconst rfl (v := 0) rfl).trans ?_
      refine (ss_goto rfl).trans ?_
      rfl
  · refine (ss_aload_n rfl rfl).trans ?_
    refine (ss_iconst rfl (v := 0) rfl).trans ?_
    refine (ss_iload rfl rfl).trans ?_
    refine (ss_callVI (as := [.int 0, .int v4]) rfl t_Md_outOf (by decide) rfl rfl (by decide) (Or.inl rfl) ⟨Nat.le_of_ble_eq_true rfl, Nat.le_of_ble_eq_true rfl⟩).trans ?_
    refine pv_ite ?_ rfl
    refine congrArg (Option.bind _) (funext fun q2 => ?_)
    refine (ss_istore rfl rfl).trans ?_
    refine (ss_iload_n rfl rfl).trans ?_
    refine (ss_iload rfl rfl).trans ?_
    refine (ss_ishr rfl).trans ?_
    refine (ss_iconst rfl (v := 1) rfl).trans ?_
    refine (ss_iand rfl).trans ?_
    refine (ss_if_ne rfl).trans ?_
    refine pv_ite ?_ ?_
    · refine (ss_iconst rfl (v := 0) rfl).trans ?_
      rfl
    · refine (ss_iconst rfl (v := 1) rfl).trans ?_
      refine (ss_goto rfl).trans ?_
      rfl
set_option maxRecDepth 8000 in
theorem u_Md_spreadBut_43 (X : pv_X) (v0 : Nat) (v1 : Int32) (v2 : Int32) (v3 : Int32) (v4 : Int32) (v5 : Int32) (o6 : Option Value) (s0 : Int32) (h : pv_H) : f_Md_spreadBut_43 X v0 v1 v2 v3 v4 v5 o6 s0 h =
    if s0 = 0 then f_Md_spreadBut_61 X v0 v1 v2 v3 v4 v5 s0 h else if v2 ≤ v5 then f_Md_spreadBut_61 X v0 v1 v2 v3 v4 v5 s0 h else f_Md_spreadBut_62 X v0 v1 v2 v3 v4 v5 s0 v5 h := by
  show pS X 3 (some .int) k_Md_spreadBut 43 [some (.ref v0), some (.int v1), some (.int v2), some (.int v3), some (.int v4), some (.int v5), o6] [.int s0] h = _
  refine (ss_istore rfl rfl).trans ?_
  refine (ss_iload rfl rfl).trans ?_
  refine (ss_if_eq rfl).trans ?_
  refine pv_ite ?_ ?_
  · rfl
  · refine (ss_iload rfl rfl).trans ?_
    refine (ss_iload_n rfl rfl).trans ?_
    refine (ss_icmp_ge rfl).trans ?_
    refine pv_ite ?_ ?_
    · rfl
    · refine (ss_iload rfl rfl).trans ?_
      refine (ss_goto rfl).trans ?_
      rfl
set_option maxRecDepth 8000 in
theorem u_Md_spreadBut_61 (X : pv_X) (v0 : Nat) (v1 : Int32) (v2 : Int32) (v3 : Int32) (v4 : Int32) (v5 : Int32) (v6 : Int32) (h : pv_H) : f_Md_spreadBut_61 X v0 v1 v2 v3 v4 v5 v6 h =
    f_Md_spreadBut_62 X v0 v1 v2 v3 v4 v5 v6 v2 h := by
  show pS X 3 (some .int) k_Md_spreadBut 61 [some (.ref v0), some (.int v1), some (.int v2), some (.int v3), some (.int v4), some (.int v5), some (.int v6)] [] h = _
  refine (ss_iload_n rfl rfl).trans ?_
  rfl
set_option maxRecDepth 8000 in
theorem u_Md_spreadBut_62 (X : pv_X) (v0 : Nat) (v1 : Int32) (v2 : Int32) (v3 : Int32) (v4 : Int32) (v5 : Int32) (v6 : Int32) (s0 : Int32) (h : pv_H) : f_Md_spreadBut_62 X v0 v1 v2 v3 v4 v5 v6 s0 h =
    if v6 = 0 then f_Md_spreadBut_79 X v0 v1 s0 v3 v4 v5 v6 h else if v5 ≤ v3 then f_Md_spreadBut_79 X v0 v1 s0 v3 v4 v5 v6 h else f_Md_spreadBut_80 X v0 v1 s0 v3 v4 v5 v6 v5 h := by
  show pS X 3 (some .int) k_Md_spreadBut 62 [some (.ref v0), some (.int v1), some (.int v2), some (.int v3), some (.int v4), some (.int v5), some (.int v6)] [.int s0] h = _
  refine (ss_istore_n rfl rfl).trans ?_
  refine (ss_iload rfl rfl).trans ?_
  refine (ss_if_eq rfl).trans ?_
  refine pv_ite ?_ ?_
  · rfl
  · refine (ss_iload rfl rfl).trans ?_
    refine (ss_iload_n rfl rfl).trans ?_
    refine (ss_icmp_le rfl).trans ?_
    refine pv_ite ?_ ?_
    · rfl
    · refine (ss_iload rfl rfl).trans ?_
      refine (ss_goto rfl).trans ?_
      rfl
set_option maxRecDepth 8000 in
theorem u_Md_spreadBut_79 (X : pv_X) (v0 : Nat) (v1 : Int32) (v2 : Int32) (v3 : Int32) (v4 : Int32) (v5 : Int32) (v6 : Int32) (h : pv_H) : f_Md_spreadBut_79 X v0 v1 v2 v3 v4 v5 v6 h =
    f_Md_spreadBut_80 X v0 v1 v2 v3 v4 v5 v6 v3 h := by
  show pS X 3 (some .int) k_Md_spreadBut 79 [some (.ref v0), some (.int v1), some (.int v2), some (.int v3), some (.int v4), some (.int v5), some (.int v6)] [] h = _
  refine (ss_iload_n rfl rfl).trans ?_
  rfl
set_option maxRecDepth 8000 in
theorem u_Md_spreadBut_80 (X : pv_X) (v0 : Nat) (v1 : Int32) (v2 : Int32) (v3 : Int32) (v4 : Int32) (v5 : Int32) (v6 : Int32) (s0 : Int32) (h : pv_H) : f_Md_spreadBut_80 X v0 v1 v2 v3 v4 v5 v6 s0 h =
    f_Md_spreadBut_11 X v0 v1 v2 s0 (v4 + 1) (some (.int v5)) (some (.int v6)) h := by
  show pS X 3 (some .int) k_Md_spreadBut 80 [some (.ref v0), some (.int v1), some (.int v2), some (.int v3), some (.int v4), some (.int v5), some (.int v6)] [.int s0] h = _
  refine (ss_istore_n rfl rfl).trans ?_
  refine (ss_iinc3 rfl rfl (v := v4 + 1) (congrArg (HAdd.hAdd _) (show Int32.ofInt (1) = 1 by decide)) rfl).trans ?_
  refine (ss_goto rfl).trans ?_
  rfl
set_option maxRecDepth 8000 in
theorem u_Md_spreadBut_99 (X : pv_X) (v0 : Nat) (v1 : Int32) (v2 : Int32) (v3 : Int32) (v4 : Int32) (o5 : Option Value) (o6 : Option Value) (s0 : Int32) (h : pv_H) : f_Md_spreadBut_99 X v0 v1 v2 v3 v4 o5 o6 s0 h =
    some (some (.int s0), h) := by
  show pS X 3 (some .int) k_Md_spreadBut 99 [some (.ref v0), some (.int v1), some (.int v2), some (.int v3), some (.int v4), o5, o6] [.int s0] h = _
  exact ss_ireturn rfl
theorem e_Md_spreadBut (X : pv_X) (v0 : Nat) (v1 : Int32) (h : pv_H) : pM X m_Md_spreadBut [.ref v0, .int v1] h = f_Md_spreadBut_0 X v0 v1 h := rfl
noncomputable def f_Md_askings_0 (X : pv_X) (v0 : Nat) (v1 : Int32) (h : pv_H) : Option pv_O := pS X 4 (some .int) k_Md_askings 0 [some (.ref v0), some (.int v1), none, none, none] [] h
noncomputable def f_Md_askings_38 (X : pv_X) (v0 : Nat) (v1 : Int32) (v2 : Int32) (s0 : Int32) (h : pv_H) : Option pv_O := pS X 4 (some .int) k_Md_askings 38 [some (.ref v0), some (.int v1), some (.int v2), none, none] [.int s0] h
noncomputable def f_Md_askings_42 (X : pv_X) (v0 : Nat) (v1 : Int32) (v2 : Int32) (v3 : Int32) (v4 : Int32) (h : pv_H) : Option pv_O := pS X 4 (some .int) k_Md_askings 42 [some (.ref v0), some (.int v1), some (.int v2), some (.int v3), some (.int v4)] [] h
noncomputable def f_Md_askings_64 (X : pv_X) (v0 : Nat) (v1 : Int32) (v2 : Int32) (v3 : Int32) (v4 : Int32) (h : pv_H) : Option pv_O := pS X 4 (some .int) k_Md_askings 64 [some (.ref v0), some (.int v1), some (.int v2), some (.int v3), some (.int v4)] [] h
noncomputable def f_Md_askings_79 (X : pv_X) (v0 : Nat) (v1 : Int32) (v2 : Int32) (v3 : Int32) (v4 : Int32) (h : pv_H) : Option pv_O := pS X 4 (some .int) k_Md_askings 79 [some (.ref v0), some (.int v1), some (.int v2), some (.int v3), some (.int v4)] [] h
noncomputable def f_Md_askings_80 (X : pv_X) (v0 : Nat) (v1 : Int32) (v2 : Int32) (v3 : Int32) (v4 : Int32) (s0 : Int32) (h : pv_H) : Option pv_O := pS X 4 (some .int) k_Md_askings 80 [some (.ref v0), some (.int v1), some (.int v2), some (.int v3), some (.int v4)] [.int s0] h
set_option maxRecDepth 8000 in
theorem u_Md_askings_0 (X : pv_X) (v0 : Nat) (v1 : Int32) (h : pv_H) : f_Md_askings_0 X v0 v1 h =
    (pv_fp h v0 11 0 (.int 0)).bind (fun h1 => (pv_tI (pM X m_Md_within [.int v1, .int 0, .int 60] h1)).bind (fun q2 => if ¬ q2.1 = 0 then if pv_rc q2.2 v0 11 = true then (pv_tI (pM X m_Md_persons [.ref v0] q2.2)).bind (fun q3 => if pv_rc q3.2 v0 11 = true then (pv_tI (pM X m_Md_persons [.ref v0] q3.2)).bind (fun q4 => if ¬ q4.1 = 0 then f_Md_askings_38 X v0 v1 (((1 : Int32) <<< (q3.1 &&& 31)) - 1) (-1) q4.2 else f_Md_askings_38 X v0 v1 (((1 : Int32) <<< (q3.1 &&& 31)) - 1) 0 q4.2) else none) else none else some (some (.int (-1)), q2.2))) := by
  show pS X 4 (some .int) k_Md_askings 0 [some (.ref v0), some (.int v1), none, none, none] [] h = _
  refine (ss_aload_n rfl rfl).trans ?_
  refine (ss_iconst rfl (v := 0) rfl).trans ?_
  refine (ss_putI rfl).trans ?_
  refine congrArg (Option.bind _) (funext fun h1 => ?_)
  refine (ss_iload_n rfl rfl).trans ?_
  refine (ss_iconst rfl (v := 0) rfl).trans ?_
  refine (ss_bipush rfl (v := 60) rfl).trans ?_
  refine (ss_callSI (as := [.int v1, .int 0, .int 60]) rfl t_Md_within (by decide) rfl rfl (by decide) (Or.inr rfl) ⟨Nat.le_of_ble_eq_true rfl, Nat.le_of_ble_eq_true rfl⟩).trans ?_
  refine congrArg (Option.bind _) (funext fun q2 => ?_)
  refine (ss_if_ne rfl).trans ?_
  refine pv_ite ?_ ?_
  · refine (ss_iconst rfl (v := 1) rfl).trans ?_
    refine (ss_aload_n rfl rfl).trans ?_
    refine (ss_callVI (as := []) rfl t_Md_persons (by decide) rfl rfl (by simp [Value.category]) (Or.inl rfl) ⟨Nat.le_of_ble_eq_true rfl, Nat.le_of_ble_eq_true rfl⟩).trans ?_
    refine pv_ite ?_ rfl
    refine congrArg (Option.bind _) (funext fun q3 => ?_)
    refine (ss_ishl rfl).trans ?_
    refine (ss_iconst rfl (v := 1) rfl).trans ?_
    refine (ss_isub rfl).trans ?_
    refine (ss_istore_n rfl rfl).trans ?_
    refine (ss_aload_n rfl rfl).trans ?_
    refine (ss_callVI (as := []) rfl t_Md_persons (by decide) rfl rfl (by decide) (Or.inl rfl) ⟨Nat.le_of_ble_eq_true rfl, Nat.le_of_ble_eq_true rfl⟩).trans ?_
    refine pv_ite ?_ rfl
    refine congrArg (Option.bind _) (funext fun q4 => ?_)
    refine (ss_if_ne rfl).trans ?_
    refine pv_ite ?_ ?_
    · refine (ss_iconst rfl (v := (-1)) rfl).trans ?_
      rfl
    · refine (ss_iconst rfl (v := 0) rfl).trans ?_
      refine (ss_goto rfl).trans ?_
      rfl
  · refine (ss_iconst rfl (v := (-1)) rfl).trans ?_
    exact ss_ireturn rfl
set_option maxRecDepth 8000 in
theorem u_Md_askings_38 (X : pv_X) (v0 : Nat) (v1 : Int32) (v2 : Int32) (s0 : Int32) (h : pv_H) : f_Md_askings_38 X v0 v1 v2 s0 h =
    f_Md_askings_42 X v0 v1 v2 s0 0 h := by
  show pS X 4 (some .int) k_Md_askings 38 [some (.ref v0), some (.int v1), some (.int v2), none, none] [.int s0] h = _
  refine (ss_istore_n rfl rfl).trans ?_
  refine (ss_iconst rfl (v := 0) rfl).trans ?_
  refine (ss_istore rfl rfl).trans ?_
  rfl
set_option maxRecDepth 8000 in
theorem u_Md_askings_42 (X : pv_X) (v0 : Nat) (v1 : Int32) (v2 : Int32) (v3 : Int32) (v4 : Int32) (h : pv_H) : f_Md_askings_42 X v0 v1 v2 v3 v4 h =
    if v2 ≤ v4 then some (some (.int v3), h) else if v3 < 0 then f_Md_askings_64 X v0 v1 v2 v3 v4 h else (pv_tI (pM X m_Md_bits [.int v4] h)).bind (fun q1 => (pv_tI (pM X m_Md_bits [.int v3] q1.2)).bind (fun q2 => if q2.1 ≤ q1.1 then f_Md_askings_79 X v0 v1 v2 v3 v4 q2.2 else f_Md_askings_64 X v0 v1 v2 v3 v4 q2.2)) := by
  show pS X 4 (some .int) k_Md_askings 42 [some (.ref v0), some (.int v1), some (.int v2), some (.int v3), some (.int v4)] [] h = _
  refine (ss_iload rfl rfl).trans ?_
  refine (ss_iload_n rfl rfl).trans ?_
  refine (ss_icmp_ge rfl).trans ?_
  refine pv_ite ?_ ?_
  · refine (ss_iload_n rfl rfl).trans ?_
    exact ss_ireturn rfl
  · refine (ss_iload_n rfl rfl).trans ?_
    refine (ss_if_lt rfl).trans ?_
    refine pv_ite ?_ ?_
    · rfl
    · refine (ss_iload rfl rfl).trans ?_
      refine (ss_callSI (as := [.int v4]) rfl t_Md_bits (by decide) rfl rfl (by decide) (Or.inl rfl) ⟨Nat.le_of_ble_eq_true rfl, Nat.le_of_ble_eq_true rfl⟩).trans ?_
      refine congrArg (Option.bind _) (funext fun q1 => ?_)
      refine (ss_iload_n rfl rfl).trans ?_
      refine (ss_callSI (as := [.int v3]) rfl t_Md_bits (by decide) rfl rfl (by simp [Value.category]) (Or.inl rfl) ⟨Nat.le_of_ble_eq_true rfl, Nat.le_of_ble_eq_true rfl⟩).trans ?_
      refine congrArg (Option.bind _) (funext fun q2 => ?_)
      refine (ss_icmp_ge rfl).trans ?_
      refine pv_ite ?_ ?_
      · rfl
      · rfl
set_option maxRecDepth 8000 in
theorem u_Md_askings_64 (X : pv_X) (v0 : Nat) (v1 : Int32) (v2 : Int32) (v3 : Int32) (v4 : Int32) (h : pv_H) : f_Md_askings_64 X v0 v1 v2 v3 v4 h =
    if pv_rc h v0 11 = true then (pv_tI (pM X m_Md_spreadBut [.ref v0, .int v4] h)).bind (fun q1 => if v1 < q1.1 then f_Md_askings_79 X v0 v1 v2 v3 v4 q1.2 else f_Md_askings_80 X v0 v1 v2 v3 v4 v4 q1.2) else none := by
  show pS X 4 (some .int) k_Md_askings 64 [some (.ref v0), some (.int v1), some (.int v2), some (.int v3), some (.int v4)] [] h = _
  refine (ss_aload_n rfl rfl).trans ?_
  refine (ss_iload rfl rfl).trans ?_
  refine (ss_callVI (as := [.int v4]) rfl t_Md_spreadBut (by decide) rfl rfl (by decide) (Or.inl rfl) ⟨Nat.le_of_ble_eq_true rfl, Nat.le_of_ble_eq_true rfl⟩).trans ?_
  refine pv_ite ?_ rfl
  refine congrArg (Option.bind _) (funext fun q1 => ?_)
  refine (ss_iload_n rfl rfl).trans ?_
  refine (ss_icmp_gt rfl).trans ?_
  refine pv_ite ?_ ?_
  · rfl
  · refine (ss_iload rfl rfl).trans ?_
    refine (ss_goto rfl).trans ?_
    rfl
set_option maxRecDepth 8000 in
theorem u_Md_askings_79 (X : pv_X) (v0 : Nat) (v1 : Int32) (v2 : Int32) (v3 : Int32) (v4 : Int32) (h : pv_H) : f_Md_askings_79 X v0 v1 v2 v3 v4 h =
    f_Md_askings_80 X v0 v1 v2 v3 v4 v3 h := by
  show pS X 4 (some .int) k_Md_askings 79 [some (.ref v0), some (.int v1), some (.int v2), some (.int v3), some (.int v4)] [] h = _
  refine (ss_iload_n rfl rfl).trans ?_
  rfl
set_option maxRecDepth 8000 in
theorem u_Md_askings_80 (X : pv_X) (v0 : Nat) (v1 : Int32) (v2 : Int32) (v3 : Int32) (v4 : Int32) (s0 : Int32) (h : pv_H) : f_Md_askings_80 X v0 v1 v2 v3 v4 s0 h =
    f_Md_askings_42 X v0 v1 v2 s0 (v4 + 1) h := by
  show pS X 4 (some .int) k_Md_askings 80 [some (.ref v0), some (.int v1), some (.int v2), some (.int v3), some (.int v4)] [.int s0] h = _
  refine (ss_istore_n rfl rfl).trans ?_
  refine (ss_iinc3 rfl rfl (v := v4 + 1) (congrArg (HAdd.hAdd _) (show Int32.ofInt (1) = 1 by decide)) rfl).trans ?_
  refine (ss_goto rfl).trans ?_
  rfl
theorem e_Md_askings (X : pv_X) (v0 : Nat) (v1 : Int32) (h : pv_H) : pM X m_Md_askings [.ref v0, .int v1] h = f_Md_askings_0 X v0 v1 h := rfl
noncomputable def f_Md_spread_0 (X : pv_X) (v0 : Nat) (h : pv_H) : Option pv_O := pS X 4 (some .int) k_Md_spread 0 [some (.ref v0)] [] h
set_option maxRecDepth 8000 in
theorem u_Md_spread_0 (X : pv_X) (v0 : Nat) (h : pv_H) : f_Md_spread_0 X v0 h =
    (pv_fp h v0 11 0 (.int 0)).bind (fun h1 => if pv_rc h1 v0 11 = true then (pv_tI (pM X m_Md_spreadBut [.ref v0, .int 0] h1)).bind (fun q2 => some (some (.int q2.1), q2.2)) else none) := by
  show pS X 4 (some .int) k_Md_spread 0 [some (.ref v0)] [] h = _
  refine (ss_aload_n rfl rfl).trans ?_
  refine (ss_iconst rfl (v := 0) rfl).trans ?_
  refine (ss_putI rfl).trans ?_
  refine congrArg (Option.bind _) (funext fun h1 => ?_)
  refine (ss_aload_n rfl rfl).trans ?_
  refine (ss_iconst rfl (v := 0) rfl).trans ?_
  refine (ss_callVI (as := [.int 0]) rfl t_Md_spreadBut (by decide) rfl rfl (by decide) (Or.inl rfl) ⟨Nat.le_of_ble_eq_true rfl, Nat.le_of_ble_eq_true rfl⟩).trans ?_
  refine pv_ite ?_ rfl
  refine congrArg (Option.bind _) (funext fun q2 => ?_)
  exact ss_ireturn rfl
theorem e_Md_spread (X : pv_X) (v0 : Nat) (h : pv_H) : pM X m_Md_spread [.ref v0] h = f_Md_spread_0 X v0 h := rfl
noncomputable def f_Md_near_0 (X : pv_X) (v0 : Nat) (v1 : Int32) (h : pv_H) : Option pv_O := pS X 3 (some .int) k_Md_near 0 [some (.ref v0), some (.int v1), none, none, none] [] h
noncomputable def f_Md_near_21 (X : pv_X) (v0 : Nat) (v1 : Int32) (v2 : Int32) (v3 : Int32) (o4 : Option Value) (h : pv_H) : Option pv_O := pS X 3 (some .int) k_Md_near 21 [some (.ref v0), some (.int v1), some (.int v2), some (.int v3), o4] [] h
noncomputable def f_Md_near_32 (X : pv_X) (v0 : Nat) (v1 : Int32) (v2 : Int32) (v3 : Int32) (v4 : Int32) (h : pv_H) : Option pv_O := pS X 3 (some .int) k_Md_near 32 [some (.ref v0), some (.int v1), some (.int v2), some (.int v3), some (.int v4)] [] h
noncomputable def f_Md_near_65 (X : pv_X) (v0 : Nat) (v1 : Int32) (v2 : Int32) (v3 : Int32) (v4 : Int32) (s0 : Int32) (s1 : Int32) (h : pv_H) : Option pv_O := pS X 3 (some .int) k_Md_near 65 [some (.ref v0), some (.int v1), some (.int v2), some (.int v3), some (.int v4)] [.int s0, .int s1] h
set_option maxRecDepth 8000 in
theorem u_Md_near_0 (X : pv_X) (v0 : Nat) (v1 : Int32) (h : pv_H) : f_Md_near_0 X v0 v1 h =
    (pv_fp h v0 11 0 (.int 0)).bind (fun h1 => (pv_tI (pM X m_Md_within [.int v1, .int 0, .int 60] h1)).bind (fun q2 => if ¬ q2.1 = 0 then f_Md_near_21 X v0 v1 0 0 none q2.2 else some (some (.int (-1)), q2.2))) := by
  show pS X 3 (some .int) k_Md_near 0 [some (.ref v0), some (.int v1), none, none, none] [] h = _
  refine (ss_aload_n rfl rfl).trans ?_
  refine (ss_iconst rfl (v := 0) rfl).trans ?_
  refine (ss_putI rfl).trans ?_
  refine congrArg (Option.bind _) (funext fun h1 => ?_)
  refine (ss_iload_n rfl rfl).trans ?_
  refine (ss_iconst rfl (v := 0) rfl).trans ?_
  refine (ss_bipush rfl (v := 60) rfl).trans ?_
  refine (ss_callSI (as := [.int v1, .int 0, .int 60]) rfl t_Md_within (by decide) rfl rfl (by decide) (Or.inr rfl) ⟨Nat.le_of_ble_eq_true rfl, Nat.le_of_ble_eq_true rfl⟩).trans ?_
  refine congrArg (Option.bind _) (funext fun q2 => ?_)
  refine (ss_if_ne rfl).trans ?_
  refine pv_ite ?_ ?_
  · refine (ss_iconst rfl (v := 0) rfl).trans ?_
    refine (ss_istore_n rfl rfl).trans ?_
    refine (ss_iconst rfl (v := 0) rfl).trans ?_
    refine (ss_istore_n rfl rfl).trans ?_
    rfl
  · refine (ss_iconst rfl (v := (-1)) rfl).trans ?_
    exact ss_ireturn rfl
set_option maxRecDepth 8000 in
theorem u_Md_near_21 (X : pv_X) (v0 : Nat) (v1 : Int32) (v2 : Int32) (v3 : Int32) (o4 : Option Value) (h : pv_H) : f_Md_near_21 X v0 v1 v2 v3 o4 h =
    if pv_rc h v0 11 = true then (pv_tI (pM X m_Md_persons [.ref v0] h)).bind (fun q1 => if q1.1 ≤ v3 then some (some (.int v2), q1.2) else f_Md_near_32 X v0 v1 v2 v3 0 q1.2) else none := by
  show pS X 3 (some .int) k_Md_near 21 [some (.ref v0), some (.int v1), some (.int v2), some (.int v3), o4] [] h = _
  refine (ss_iload_n rfl rfl).trans ?_
  refine (ss_aload_n rfl rfl).trans ?_
  refine (ss_callVI (as := []) rfl t_Md_persons (by decide) rfl rfl (by simp [Value.category]) (Or.inl rfl) ⟨Nat.le_of_ble_eq_true rfl, Nat.le_of_ble_eq_true rfl⟩).trans ?_
  refine pv_ite ?_ rfl
  refine congrArg (Option.bind _) (funext fun q1 => ?_)
  refine (ss_icmp_ge rfl).trans ?_
  refine pv_ite ?_ ?_
  · refine (ss_iload_n rfl rfl).trans ?_
    exact ss_ireturn rfl
  · refine (ss_iconst rfl (v := 0) rfl).trans ?_
    refine (ss_istore rfl rfl).trans ?_
    rfl
set_option maxRecDepth 8000 in
theorem u_Md_near_32 (X : pv_X) (v0 : Nat) (v1 : Int32) (v2 : Int32) (v3 : Int32) (v4 : Int32) (h : pv_H) : f_Md_near_32 X v0 v1 v2 v3 v4 h =
    if v3 ≤ v4 then f_Md_near_21 X v0 v1 v2 (v3 + 1) (some (.int v4)) h else if pv_rc h v0 11 = true then (pv_tI (pM X m_Md_outOf [.ref v0, .int 0, .int v3] h)).bind (fun q1 => if pv_rc q1.2 v0 11 = true then (pv_tI (pM X m_Md_outOf [.ref v0, .int 0, .int v4] q1.2)).bind (fun q2 => (pv_tI (pM X m_Md_unsigned [.int (q1.1 - q2.1)] q2.2)).bind (fun q3 => if v1 < q3.1 then f_Md_near_65 X v0 v1 v2 v3 v4 0 v2 q3.2 else f_Md_near_65 X v0 v1 v2 v3 v4 1 v2 q3.2)) else none) else none := by
  show pS X 3 (some .int) k_Md_near 32 [some (.ref v0), some (.int v1), some (.int v2), some (.int v3), some (.int v4)] [] h = _
  refine (ss_iload rfl rfl).trans ?_
  refine (ss_iload_n rfl rfl).trans ?_
  refine (ss_icmp_ge rfl).trans ?_
  refine pv_ite ?_ ?_
  · refine (ss_iinc3 rfl rfl (v := v3 + 1) (congrArg (HAdd.hAdd _) (show Int32.ofInt (1) = 1 by decide)) rfl).trans ?_
    refine (ss_goto rfl).trans ?_
    rfl
  · refine (ss_iload_n rfl rfl).trans ?_
    refine (ss_aload_n rfl rfl).trans ?_
    refine (ss_iconst rfl (v := 0) rfl).trans ?_
    refine (ss_iload_n rfl rfl).trans ?_
    refine (ss_callVI (as := [.int 0, .int v3]) rfl t_Md_outOf (by decide) rfl rfl (by simp [Value.category]) (Or.inl rfl) ⟨Nat.le_of_ble_eq_true rfl, Nat.le_of_ble_eq_true rfl⟩).trans ?_
    refine pv_ite ?_ rfl
    refine congrArg (Option.bind _) (funext fun q1 => ?_)
    refine (ss_aload_n rfl rfl).trans ?_
    refine (ss_iconst rfl (v := 0) rfl).trans ?_
    refine (ss_iload rfl rfl).trans ?_
    refine (ss_callVI (as := [.int 0, .int v4]) rfl t_Md_outOf (by decide) rfl rfl (by simp [Value.category]) (Or.inl rfl) ⟨Nat.le_of_ble_eq_true rfl, Nat.le_of_ble_eq_true rfl⟩).trans ?_
    refine pv_ite ?_ rfl
    refine congrArg (Option.bind _) (funext fun q2 => ?_)
    refine (ss_isub rfl).trans ?_
    refine (ss_callSI (as := [.int (q1.1 - q2.1)]) rfl t_Md_unsigned (by decide) rfl rfl (by simp [Value.category]) (Or.inl rfl) ⟨Nat.le_of_ble_eq_true rfl, Nat.le_of_ble_eq_true rfl⟩).trans ?_
    refine congrArg (Option.bind _) (funext fun q3 => ?_)
    refine (ss_iload_n rfl rfl).trans ?_
    refine (ss_icmp_gt rfl).trans ?_
    refine pv_ite ?_ ?_
    · refine (ss_iconst rfl (v := 0) rfl).trans ?_
      rfl
    · refine (ss_iconst rfl (v := 1) rfl).trans ?_
      refine (ss_goto rfl).trans ?_
      rfl
set_option maxRecDepth 8000 in
theorem u_Md_near_65 (X : pv_X) (v0 : Nat) (v1 : Int32) (v2 : Int32) (v3 : Int32) (v4 : Int32) (s0 : Int32) (s1 : Int32) (h : pv_H) : f_Md_near_65 X v0 v1 v2 v3 v4 s0 s1 h =
    f_Md_near_32 X v0 v1 (s1 + s0) v3 (v4 + 1) h := by
  show pS X 3 (some .int) k_Md_near 65 [some (.ref v0), some (.int v1), some (.int v2), some (.int v3), some (.int v4)] [.int s0, .int s1] h = _
  refine (ss_iadd rfl).trans ?_
  refine (ss_istore_n rfl rfl).trans ?_
  refine (ss_iinc3 rfl rfl (v := v4 + 1) (congrArg (HAdd.hAdd _) (show Int32.ofInt (1) = 1 by decide)) rfl).trans ?_
  refine (ss_goto rfl).trans ?_
  rfl
theorem e_Md_near (X : pv_X) (v0 : Nat) (v1 : Int32) (h : pv_H) : pM X m_Md_near [.ref v0, .int v1] h = f_Md_near_0 X v0 v1 h := rfl
noncomputable def f_Md_right_0 (X : pv_X) (v0 : Nat) (v1 : Int32) (h : pv_H) : Option pv_O := pS X 4 (some .int) k_Md_right 0 [some (.ref v0), some (.int v1), none] [] h
noncomputable def f_Md_right_11 (X : pv_X) (v0 : Nat) (v1 : Int32) (v2 : Int32) (h : pv_H) : Option pv_O := pS X 4 (some .int) k_Md_right 11 [some (.ref v0), some (.int v1), some (.int v2)] [] h
noncomputable def f_Md_right_51 (X : pv_X) (v0 : Nat) (v1 : Int32) (v2 : Int32) (h : pv_H) : Option pv_O := pS X 4 (some .int) k_Md_right 51 [some (.ref v0), some (.int v1), some (.int v2)] [] h
set_option maxRecDepth 8000 in
theorem u_Md_right_0 (X : pv_X) (v0 : Nat) (v1 : Int32) (h : pv_H) : f_Md_right_0 X v0 v1 h =
    (pv_fp h v0 11 0 (.int 0)).bind (fun h1 => if pv_rc h1 v0 11 = true then (pv_tV (pM X m_Md_triesNow [.ref v0] h1)).bind (fun h2 => f_Md_right_11 X v0 v1 0 h2) else none) := by
  show pS X 4 (some .int) k_Md_right 0 [some (.ref v0), some (.int v1), none] [] h = _
  refine (ss_aload_n rfl rfl).trans ?_
  refine (ss_iconst rfl (v := 0) rfl).trans ?_
  refine (ss_putI rfl).trans ?_
  refine congrArg (Option.bind _) (funext fun h1 => ?_)
  refine (ss_aload_n rfl rfl).trans ?_
  refine (ss_callVN (as := []) rfl t_Md_triesNow (by decide) rfl rfl (by decide) rfl ⟨Nat.le_of_ble_eq_true rfl, Nat.le_of_ble_eq_true rfl⟩).trans ?_
  refine pv_ite ?_ rfl
  refine congrArg (Option.bind _) (funext fun h2 => ?_)
  refine (ss_iconst rfl (v := 0) rfl).trans ?_
  refine (ss_istore_n rfl rfl).trans ?_
  rfl
set_option maxRecDepth 8000 in
theorem u_Md_right_11 (X : pv_X) (v0 : Nat) (v1 : Int32) (v2 : Int32) (h : pv_H) : f_Md_right_11 X v0 v1 v2 h =
    if 96 < v2 then f_Md_right_51 X v0 v1 v2 h else if pv_rc h v0 11 = true then (pv_tI (pM X m_Md_isPerson [.ref v0, .int v1] h)).bind (fun q1 => if q1.1 = 0 then f_Md_right_51 X v0 v1 v2 q1.2 else if pv_rc q1.2 v0 11 = true then (pv_tI (pM X m_Md_outOf [.ref v0, .int 1071, .int v1] q1.2)).bind (fun q2 => if ¬ q2.1 = 0 then if pv_rc q2.2 v0 11 = true then (pv_tV (pM X m_Md_passes_1 [.ref v0, .int 1071] q2.2)).bind (fun h3 => f_Md_right_11 X v0 v1 (v2 + 1) h3) else none else some (some (.int v2), q2.2)) else none) else none := by
  show pS X 4 (some .int) k_Md_right 11 [some (.ref v0), some (.int v1), some (.int v2)] [] h = _
  refine (ss_iload_n rfl rfl).trans ?_
  refine (ss_bipush rfl (v := 96) rfl).trans ?_
  refine (ss_icmp_gt rfl).trans ?_
  refine pv_ite ?_ ?_
  · rfl
  · refine (ss_aload_n rfl rfl).trans ?_
    refine (ss_iload_n rfl rfl).trans ?_
    refine (ss_callVI (as := [.int v1]) rfl t_Md_isPerson (by decide) rfl rfl (by decide) (Or.inr rfl) ⟨Nat.le_of_ble_eq_true rfl, Nat.le_of_ble_eq_true rfl⟩).trans ?_
    refine pv_ite ?_ rfl
    refine congrArg (Option.bind _) (funext fun q1 => ?_)
    refine (ss_if_eq rfl).trans ?_
    refine pv_ite ?_ ?_
    · rfl
    · refine (ss_aload_n rfl rfl).trans ?_
      refine (ss_sipush rfl (v := 1071) rfl).trans ?_
      refine (ss_iload_n rfl rfl).trans ?_
      refine (ss_callVI (as := [.int 1071, .int v1]) rfl t_Md_outOf (by decide) rfl rfl (by decide) (Or.inl rfl) ⟨Nat.le_of_ble_eq_true rfl, Nat.le_of_ble_eq_true rfl⟩).trans ?_
      refine pv_ite ?_ rfl
      refine congrArg (Option.bind _) (funext fun q2 => ?_)
      refine (ss_if_ne rfl).trans ?_
      refine pv_ite ?_ ?_
      · refine (ss_aload_n rfl rfl).trans ?_
        refine (ss_sipush rfl (v := 1071) rfl).trans ?_
        refine (ss_callVN (as := [.int 1071]) rfl t_Md_passes_1 (by decide) rfl rfl (by decide) rfl ⟨Nat.le_of_ble_eq_true rfl, Nat.le_of_ble_eq_true rfl⟩).trans ?_
        refine pv_ite ?_ rfl
        refine congrArg (Option.bind _) (funext fun h3 => ?_)
        refine (ss_iinc3 rfl rfl (v := v2 + 1) (congrArg (HAdd.hAdd _) (show Int32.ofInt (1) = 1 by decide)) rfl).trans ?_
        refine (ss_goto rfl).trans ?_
        rfl
      · refine (ss_iload_n rfl rfl).trans ?_
        exact ss_ireturn rfl
set_option maxRecDepth 8000 in
theorem u_Md_right_51 (X : pv_X) (v0 : Nat) (v1 : Int32) (v2 : Int32) (h : pv_H) : f_Md_right_51 X v0 v1 v2 h =
    some (some (.int (-1)), h) := by
  show pS X 4 (some .int) k_Md_right 51 [some (.ref v0), some (.int v1), some (.int v2)] [] h = _
  refine (ss_iconst rfl (v := (-1)) rfl).trans ?_
  exact ss_ireturn rfl
theorem e_Md_right (X : pv_X) (v0 : Nat) (v1 : Int32) (h : pv_H) : pM X m_Md_right [.ref v0, .int v1] h = f_Md_right_0 X v0 v1 h := rfl
noncomputable def f_Md_steady_0 (X : pv_X) (v0 : Nat) (h : pv_H) : Option pv_O := pS X 4 (some .int) k_Md_steady 0 [some (.ref v0), none, none, none, none, none] [] h
noncomputable def f_Md_steady_22 (X : pv_X) (v0 : Nat) (v1 : Int32) (v2 : Int32) (v3 : Int32) (o4 : Option Value) (o5 : Option Value) (h : pv_H) : Option pv_O := pS X 4 (some .int) k_Md_steady 22 [some (.ref v0), some (.int v1), some (.int v2), some (.int v3), o4, o5] [] h
noncomputable def f_Md_steady_60 (X : pv_X) (v0 : Nat) (v1 : Int32) (v2 : Int32) (v3 : Int32) (v4 : Int32) (o5 : Option Value) (h : pv_H) : Option pv_O := pS X 4 (some .int) k_Md_steady 60 [some (.ref v0), some (.int v1), some (.int v2), some (.int v3), some (.int v4), o5] [] h
noncomputable def f_Md_steady_65 (X : pv_X) (v0 : Nat) (v1 : Int32) (v2 : Int32) (v3 : Int32) (v4 : Int32) (o5 : Option Value) (s0 : Int32) (h : pv_H) : Option pv_O := pS X 4 (some .int) k_Md_steady 65 [some (.ref v0), some (.int v1), some (.int v2), some (.int v3), some (.int v4), o5] [.int s0] h
noncomputable def f_Md_steady_77 (X : pv_X) (v0 : Nat) (v1 : Int32) (v2 : Int32) (v3 : Int32) (v4 : Int32) (v5 : Int32) (s0 : Int32) (h : pv_H) : Option pv_O := pS X 4 (some .int) k_Md_steady 77 [some (.ref v0), some (.int v1), some (.int v2), some (.int v3), some (.int v4), some (.int v5)] [.int s0] h
noncomputable def f_Md_steady_89 (X : pv_X) (v0 : Nat) (v1 : Int32) (v2 : Int32) (v3 : Int32) (v4 : Int32) (v5 : Int32) (s0 : Int32) (h : pv_H) : Option pv_O := pS X 4 (some .int) k_Md_steady 89 [some (.ref v0), some (.int v1), some (.int v2), some (.int v3), some (.int v4), some (.int v5)] [.int s0] h
set_option maxRecDepth 8000 in
theorem u_Md_steady_0 (X : pv_X) (v0 : Nat) (h : pv_H) : f_Md_steady_0 X v0 h =
    (pv_fp h v0 11 0 (.int 0)).bind (fun h1 => if pv_rc h1 v0 11 = true then (pv_tV (pM X m_Md_triesNow [.ref v0] h1)).bind (fun h2 => if pv_rc h2 v0 11 = true then (pv_tV (pM X m_Md_passes_1 [.ref v0, .int 1071] h2)).bind (fun h3 => f_Md_steady_22 X v0 (-1) 0 0 none none h3) else none) else none) := by
  show pS X 4 (some .int) k_Md_steady 0 [some (.ref v0), none, none, none, none, none] [] h = _
  refine (ss_aload_n rfl rfl).trans ?_
  refine (ss_iconst rfl (v := 0) rfl).trans ?_
  refine (ss_putI rfl).trans ?_
  refine congrArg (Option.bind _) (funext fun h1 => ?_)
  refine (ss_aload_n rfl rfl).trans ?_
  refine (ss_callVN (as := []) rfl t_Md_triesNow (by decide) rfl rfl (by decide) rfl ⟨Nat.le_of_ble_eq_true rfl, Nat.le_of_ble_eq_true rfl⟩).trans ?_
  refine pv_ite ?_ rfl
  refine congrArg (Option.bind _) (funext fun h2 => ?_)
  refine (ss_aload_n rfl rfl).trans ?_
  refine (ss_sipush rfl (v := 1071) rfl).trans ?_
  refine (ss_callVN (as := [.int 1071]) rfl t_Md_passes_1 (by decide) rfl rfl (by decide) rfl ⟨Nat.le_of_ble_eq_true rfl, Nat.le_of_ble_eq_true rfl⟩).trans ?_
  refine pv_ite ?_ rfl
  refine congrArg (Option.bind _) (funext fun h3 => ?_)
  refine (ss_iconst rfl (v := (-1)) rfl).trans ?_
  refine (ss_istore_n rfl rfl).trans ?_
  refine (ss_iconst rfl (v := 0) rfl).trans ?_
  refine (ss_istore_n rfl rfl).trans ?_
  refine (ss_iconst rfl (v := 0) rfl).trans ?_
  refine (ss_istore_n rfl rfl).trans ?_
  rfl
set_option maxRecDepth 8000 in
theorem u_Md_steady_22 (X : pv_X) (v0 : Nat) (v1 : Int32) (v2 : Int32) (v3 : Int32) (o4 : Option Value) (o5 : Option Value) (h : pv_H) : f_Md_steady_22 X v0 v1 v2 v3 o4 o5 h =
    if pv_rc h v0 11 = true then (pv_tI (pM X m_Md_persons [.ref v0] h)).bind (fun q1 => if q1.1 ≤ v3 then some (some (.int v1), q1.2) else if pv_rc q1.2 v0 11 = true then (pv_tI (pM X m_Md_outOf [.ref v0, .int 1071, .int v3] q1.2)).bind (fun q2 => if pv_rc q2.2 v0 11 = true then (pv_tI (pM X m_Md_outOf [.ref v0, .int 0, .int v3] q2.2)).bind (fun q3 => (pv_tI (pM X m_Md_unsigned [.int (q2.1 - q3.1)] q3.2)).bind (fun q4 => if v1 < 0 then f_Md_steady_60 X v0 v1 v2 v3 q4.1 o5 q4.2 else if v2 ≤ q4.1 then f_Md_steady_65 X v0 v1 v2 v3 q4.1 o5 0 q4.2 else f_Md_steady_60 X v0 v1 v2 v3 q4.1 o5 q4.2)) else none) else none) else none := by
  show pS X 4 (some .int) k_Md_steady 22 [some (.ref v0), some (.int v1), some (.int v2), some (.int v3), o4, o5] [] h = _
  refine (ss_iload_n rfl rfl).trans ?_
  refine (ss_aload_n rfl rfl).trans ?_
  refine (ss_callVI (as := []) rfl t_Md_persons (by decide) rfl rfl (by simp [Value.category]) (Or.inl rfl) ⟨Nat.le_of_ble_eq_true rfl, Nat.le_of_ble_eq_true rfl⟩).trans ?_
  refine pv_ite ?_ rfl
  refine congrArg (Option.bind _) (funext fun q1 => ?_)
  refine (ss_icmp_ge rfl).trans ?_
  refine pv_ite ?_ ?_
  · refine (ss_iload_n rfl rfl).trans ?_
    exact ss_ireturn rfl
  · refine (ss_aload_n rfl rfl).trans ?_
    refine (ss_sipush rfl (v := 1071) rfl).trans ?_
    refine (ss_iload_n rfl rfl).trans ?_
    refine (ss_callVI (as := [.int 1071, .int v3]) rfl t_Md_outOf (by decide) rfl rfl (by decide) (Or.inl rfl) ⟨Nat.le_of_ble_eq_true rfl, Nat.le_of_ble_eq_true rfl⟩).trans ?_
    refine pv_ite ?_ rfl
    refine congrArg (Option.bind _) (funext fun q2 => ?_)
    refine (ss_aload_n rfl rfl).trans ?_
    refine (ss_iconst rfl (v := 0) rfl).trans ?_
    refine (ss_iload_n rfl rfl).trans ?_
    refine (ss_callVI (as := [.int 0, .int v3]) rfl t_Md_outOf (by decide) rfl rfl (by simp [Value.category]) (Or.inl rfl) ⟨Nat.le_of_ble_eq_true rfl, Nat.le_of_ble_eq_true rfl⟩).trans ?_
    refine pv_ite ?_ rfl
    refine congrArg (Option.bind _) (funext fun q3 => ?_)
    refine (ss_isub rfl).trans ?_
    refine (ss_callSI (as := [.int (q2.1 - q3.1)]) rfl t_Md_unsigned (by decide) rfl rfl (by decide) (Or.inl rfl) ⟨Nat.le_of_ble_eq_true rfl, Nat.le_of_ble_eq_true rfl⟩).trans ?_
    refine congrArg (Option.bind _) (funext fun q4 => ?_)
    refine (ss_istore rfl rfl).trans ?_
    refine (ss_iload_n rfl rfl).trans ?_
    refine (ss_if_lt rfl).trans ?_
    refine pv_ite ?_ ?_
    · rfl
    · refine (ss_iload rfl rfl).trans ?_
      refine (ss_iload_n rfl rfl).trans ?_
      refine (ss_icmp_ge rfl).trans ?_
      refine pv_ite ?_ ?_
      · refine (ss_iconst rfl (v := 0) rfl).trans ?_
        rfl
      · rfl
set_option maxRecDepth 8000 in
theorem u_Md_steady_60 (X : pv_X) (v0 : Nat) (v1 : Int32) (v2 : Int32) (v3 : Int32) (v4 : Int32) (o5 : Option Value) (h : pv_H) : f_Md_steady_60 X v0 v1 v2 v3 v4 o5 h =
    f_Md_steady_65 X v0 v1 v2 v3 v4 o5 1 h := by
  show pS X 4 (some .int) k_Md_steady 60 [some (.ref v0), some (.int v1), some (.int v2), some (.int v3), some (.int v4), o5] [] h = _
  refine (ss_iconst rfl (v := 1) rfl).trans ?_
  refine (ss_goto rfl).trans ?_
  rfl
set_option maxRecDepth 8000 in
theorem u_Md_steady_65 (X : pv_X) (v0 : Nat) (v1 : Int32) (v2 : Int32) (v3 : Int32) (v4 : Int32) (o5 : Option Value) (s0 : Int32) (h : pv_H) : f_Md_steady_65 X v0 v1 v2 v3 v4 o5 s0 h =
    if s0 = 0 then f_Md_steady_77 X v0 v1 v2 v3 v4 s0 v1 h else f_Md_steady_77 X v0 v1 v2 v3 v4 s0 v3 h := by
  show pS X 4 (some .int) k_Md_steady 65 [some (.ref v0), some (.int v1), some (.int v2), some (.int v3), some (.int v4), o5] [.int s0] h = _
  refine (ss_istore rfl rfl).trans ?_
  refine (ss_iload rfl rfl).trans ?_
  refine (ss_if_eq rfl).trans ?_
  refine pv_ite ?_ ?_
  · refine (ss_iload_n rfl rfl).trans ?_
    rfl
  · refine (ss_iload_n rfl rfl).trans ?_
    refine (ss_goto rfl).trans ?_
    rfl
set_option maxRecDepth 8000 in
theorem u_Md_steady_77 (X : pv_X) (v0 : Nat) (v1 : Int32) (v2 : Int32) (v3 : Int32) (v4 : Int32) (v5 : Int32) (s0 : Int32) (h : pv_H) : f_Md_steady_77 X v0 v1 v2 v3 v4 v5 s0 h =
    if v5 = 0 then f_Md_steady_89 X v0 s0 v2 v3 v4 v5 v2 h else f_Md_steady_89 X v0 s0 v2 v3 v4 v5 v4 h := by
  show pS X 4 (some .int) k_Md_steady 77 [some (.ref v0), some (.int v1), some (.int v2), some (.int v3), some (.int v4), some (.int v5)] [.int s0] h = _
  refine (ss_istore_n rfl rfl).trans ?_
  refine (ss_iload rfl rfl).trans ?_
  refine (ss_if_eq rfl).trans ?_
  refine pv_ite ?_ ?_
  · refine (ss_iload_n rfl rfl).trans ?_
    rfl
  · refine (ss_iload rfl rfl).trans ?_
    refine (ss_goto rfl).trans ?_
    rfl
set_option maxRecDepth 8000 in
theorem u_Md_steady_89 (X : pv_X) (v0 : Nat) (v1 : Int32) (v2 : Int32) (v3 : Int32) (v4 : Int32) (v5 : Int32) (s0 : Int32) (h : pv_H) : f_Md_steady_89 X v0 v1 v2 v3 v4 v5 s0 h =
    f_Md_steady_22 X v0 v1 s0 (v3 + 1) (some (.int v4)) (some (.int v5)) h := by
  show pS X 4 (some .int) k_Md_steady 89 [some (.ref v0), some (.int v1), some (.int v2), some (.int v3), some (.int v4), some (.int v5)] [.int s0] h = _
  refine (ss_istore_n rfl rfl).trans ?_
  refine (ss_iinc3 rfl rfl (v := v3 + 1) (congrArg (HAdd.hAdd _) (show Int32.ofInt (1) = 1 by decide)) rfl).trans ?_
  refine (ss_goto rfl).trans ?_
  rfl
theorem e_Md_steady (X : pv_X) (v0 : Nat) (h : pv_H) : pM X m_Md_steady [.ref v0] h = f_Md_steady_0 X v0 h := rfl
noncomputable def f_Md_signBetween_0 (X : pv_X) (v0 : Nat) (v1 : Int32) (v2 : Int32) (h : pv_H) : Option pv_O := pS X 3 (some .int) k_Md_signBetween 0 [some (.ref v0), some (.int v1), some (.int v2), none] [] h
noncomputable def f_Md_signBetween_35 (X : pv_X) (v0 : Nat) (v1 : Int32) (v2 : Int32) (v3 : Int32) (s0 : Int32) (h : pv_H) : Option pv_O := pS X 3 (some .int) k_Md_signBetween 35 [some (.ref v0), some (.int v1), some (.int v2), some (.int v3)] [.int s0] h
set_option maxRecDepth 8000 in
theorem u_Md_signBetween_0 (X : pv_X) (v0 : Nat) (v1 : Int32) (v2 : Int32) (h : pv_H) : f_Md_signBetween_0 X v0 v1 v2 h =
    if pv_rc h v0 11 = true then (pv_tI (pM X m_Md_outOf [.ref v0, .int 1071, .int v1] h)).bind (fun q1 => if pv_rc q1.2 v0 11 = true then (pv_tI (pM X m_Md_outOf [.ref v0, .int 1071, .int v2] q1.2)).bind (fun q2 => if 0 ≤ (q1.1 - q2.1) then if (q1.1 - q2.1) ≤ 0 then f_Md_signBetween_35 X v0 v1 v2 (q1.1 - q2.1) 0 q2.2 else f_Md_signBetween_35 X v0 v1 v2 (q1.1 - q2.1) 1 q2.2 else f_Md_signBetween_35 X v0 v1 v2 (q1.1 - q2.1) (-1) q2.2) else none) else none := by
  show pS X 3 (some .int) k_Md_signBetween 0 [some (.ref v0), some (.int v1), some (.int v2), none] [] h = _
  refine (ss_aload_n rfl rfl).trans ?_
  refine (ss_sipush rfl (v := 1071) rfl).trans ?_
  refine (ss_iload_n rfl rfl).trans ?_
  refine (ss_callVI (as := [.int 1071, .int v1]) rfl t_Md_outOf (by decide) rfl rfl (by decide) (Or.inl rfl) ⟨Nat.le_of_ble_eq_true rfl, Nat.le_of_ble_eq_true rfl⟩).trans ?_
  refine pv_ite ?_ rfl
  refine congrArg (Option.bind _) (funext fun q1 => ?_)
  refine (ss_aload_n rfl rfl).trans ?_
  refine (ss_sipush rfl (v := 1071) rfl).trans ?_
  refine (ss_iload_n rfl rfl).trans ?_
  refine (ss_callVI (as := [.int 1071, .int v2]) rfl t_Md_outOf (by decide) rfl rfl (by simp [Value.category]) (Or.inl rfl) ⟨Nat.le_of_ble_eq_true rfl, Nat.le_of_ble_eq_true rfl⟩).trans ?_
  refine pv_ite ?_ rfl
  refine congrArg (Option.bind _) (funext fun q2 => ?_)
  refine (ss_isub rfl).trans ?_
  refine (ss_istore_n rfl rfl).trans ?_
  refine (ss_iload_n rfl rfl).trans ?_
  refine (ss_if_ge rfl).trans ?_
  refine pv_ite ?_ ?_
  · refine (ss_iload_n rfl rfl).trans ?_
    refine (ss_if_le rfl).trans ?_
    refine pv_ite ?_ ?_
    · refine (ss_iconst rfl (v := 0) rfl).trans ?_
      rfl
    · refine (ss_iconst rfl (v := 1) rfl).trans ?_
      refine (ss_goto rfl).trans ?_
      rfl
  · refine (ss_iconst rfl (v := (-1)) rfl).trans ?_
    refine (ss_goto rfl).trans ?_
    rfl
set_option maxRecDepth 8000 in
theorem u_Md_signBetween_35 (X : pv_X) (v0 : Nat) (v1 : Int32) (v2 : Int32) (v3 : Int32) (s0 : Int32) (h : pv_H) : f_Md_signBetween_35 X v0 v1 v2 v3 s0 h =
    some (some (.int s0), h) := by
  show pS X 3 (some .int) k_Md_signBetween 35 [some (.ref v0), some (.int v1), some (.int v2), some (.int v3)] [.int s0] h = _
  exact ss_ireturn rfl
theorem e_Md_signBetween (X : pv_X) (v0 : Nat) (v1 : Int32) (v2 : Int32) (h : pv_H) : pM X m_Md_signBetween [.ref v0, .int v1, .int v2] h = f_Md_signBetween_0 X v0 v1 v2 h := rfl
noncomputable def f_Md_passes_3_0 (X : pv_X) (v0 : Nat) (v1 : Int32) (v2 : Int32) (v3 : Int32) (h : pv_H) : Option pv_O := pS X 4 (some .int) k_Md_passes_3 0 [some (.ref v0), some (.int v1), some (.int v2), some (.int v3), none, none, none] [] h
noncomputable def f_Md_passes_3_36 (X : pv_X) (v0 : Nat) (v1 : Int32) (v2 : Int32) (v3 : Int32) (h : pv_H) : Option pv_O := pS X 4 (some .int) k_Md_passes_3 36 [some (.ref v0), some (.int v1), some (.int v2), some (.int v3), none, none, none] [] h
noncomputable def f_Md_passes_3_48 (X : pv_X) (v0 : Nat) (v1 : Int32) (v2 : Int32) (v3 : Int32) (v4 : Int32) (v5 : Int32) (o6 : Option Value) (h : pv_H) : Option pv_O := pS X 4 (some .int) k_Md_passes_3 48 [some (.ref v0), some (.int v1), some (.int v2), some (.int v3), some (.int v4), some (.int v5), o6] [] h
noncomputable def f_Md_passes_3_87 (X : pv_X) (v0 : Nat) (v1 : Int32) (v2 : Int32) (v3 : Int32) (v4 : Int32) (v5 : Int32) (v6 : Int32) (s0 : Int32) (s1 : Int32) (h : pv_H) : Option pv_O := pS X 4 (some .int) k_Md_passes_3 87 [some (.ref v0), some (.int v1), some (.int v2), some (.int v3), some (.int v4), some (.int v5), some (.int v6)] [.int s0, .int s1] h
set_option maxRecDepth 8000 in
theorem u_Md_passes_3_0 (X : pv_X) (v0 : Nat) (v1 : Int32) (v2 : Int32) (v3 : Int32) (h : pv_H) : f_Md_passes_3_0 X v0 v1 v2 v3 h =
    (pv_fp h v0 11 0 (.int 0)).bind (fun h1 => if pv_rc h1 v0 11 = true then (pv_tI (pM X m_Md_isPerson [.ref v0, .int v1] h1)).bind (fun q2 => if q2.1 = 0 then f_Md_passes_3_36 X v0 v1 v2 v3 q2.2 else if pv_rc q2.2 v0 11 = true then (pv_tI (pM X m_Md_isPerson [.ref v0, .int v2] q2.2)).bind (fun q3 => if q3.1 = 0 then f_Md_passes_3_36 X v0 v1 v2 v3 q3.2 else if v1 = v2 then f_Md_passes_3_36 X v0 v1 v2 v3 q3.2 else (pv_tI (pM X m_Md_within [.int v3, .int 1, .int 96] q3.2)).bind (fun q4 => if ¬ q4.1 = 0 then if pv_rc q4.2 v0 11 = true then (pv_tV (pM X m_Md_triesNow [.ref v0] q4.2)).bind (fun h5 => f_Md_passes_3_48 X v0 v1 v2 v3 0 0 none h5) else none else f_Md_passes_3_36 X v0 v1 v2 v3 q4.2)) else none) else none) := by
  show pS X 4 (some .int) k_Md_passes_3 0 [some (.ref v0), some (.int v1), some (.int v2), some (.int v3), none, none, none] [] h = _
  refine (ss_aload_n rfl rfl).trans ?_
  refine (ss_iconst rfl (v := 0) rfl).trans ?_
  refine (ss_putI rfl).trans ?_
  refine congrArg (Option.bind _) (funext fun h1 => ?_)
  refine (ss_aload_n rfl rfl).trans ?_
  refine (ss_iload_n rfl rfl).trans ?_
  refine (ss_callVI (as := [.int v1]) rfl t_Md_isPerson (by decide) rfl rfl (by decide) (Or.inr rfl) ⟨Nat.le_of_ble_eq_true rfl, Nat.le_of_ble_eq_true rfl⟩).trans ?_
  refine pv_ite ?_ rfl
  refine congrArg (Option.bind _) (funext fun q2 => ?_)
  refine (ss_if_eq rfl).trans ?_
  refine pv_ite ?_ ?_
  · rfl
  · refine (ss_aload_n rfl rfl).trans ?_
    refine (ss_iload_n rfl rfl).trans ?_
    refine (ss_callVI (as := [.int v2]) rfl t_Md_isPerson (by decide) rfl rfl (by decide) (Or.inr rfl) ⟨Nat.le_of_ble_eq_true rfl, Nat.le_of_ble_eq_true rfl⟩).trans ?_
    refine pv_ite ?_ rfl
    refine congrArg (Option.bind _) (funext fun q3 => ?_)
    refine (ss_if_eq rfl).trans ?_
    refine pv_ite ?_ ?_
    · rfl
    · refine (ss_iload_n rfl rfl).trans ?_
      refine (ss_iload_n rfl rfl).trans ?_
      refine (ss_icmp_eq rfl).trans ?_
      refine pv_ite ?_ ?_
      · rfl
      · refine (ss_iload_n rfl rfl).trans ?_
        refine (ss_iconst rfl (v := 1) rfl).trans ?_
        refine (ss_bipush rfl (v := 96) rfl).trans ?_
        refine (ss_callSI (as := [.int v3, .int 1, .int 96]) rfl t_Md_within (by decide) rfl rfl (by decide) (Or.inr rfl) ⟨Nat.le_of_ble_eq_true rfl, Nat.le_of_ble_eq_true rfl⟩).trans ?_
        refine congrArg (Option.bind _) (funext fun q4 => ?_)
        refine (ss_if_ne rfl).trans ?_
        refine pv_ite ?_ ?_
        · refine (ss_aload_n rfl rfl).trans ?_
          refine (ss_callVN (as := []) rfl t_Md_triesNow (by decide) rfl rfl (by decide) rfl ⟨Nat.le_of_ble_eq_true rfl, Nat.le_of_ble_eq_true rfl⟩).trans ?_
          refine pv_ite ?_ rfl
          refine congrArg (Option.bind _) (funext fun h5 => ?_)
          refine (ss_iconst rfl (v := 0) rfl).trans ?_
          refine (ss_istore rfl rfl).trans ?_
          refine (ss_iconst rfl (v := 0) rfl).trans ?_
          refine (ss_istore rfl rfl).trans ?_
          rfl
        · rfl
set_option maxRecDepth 8000 in
theorem u_Md_passes_3_36 (X : pv_X) (v0 : Nat) (v1 : Int32) (v2 : Int32) (v3 : Int32) (h : pv_H) : f_Md_passes_3_36 X v0 v1 v2 v3 h =
    some (some (.int (-1)), h) := by
  show pS X 4 (some .int) k_Md_passes_3 36 [some (.ref v0), some (.int v1), some (.int v2), some (.int v3), none, none, none] [] h = _
  refine (ss_iconst rfl (v := (-1)) rfl).trans ?_
  exact ss_ireturn rfl
set_option maxRecDepth 8000 in
theorem u_Md_passes_3_48 (X : pv_X) (v0 : Nat) (v1 : Int32) (v2 : Int32) (v3 : Int32) (v4 : Int32) (v5 : Int32) (o6 : Option Value) (h : pv_H) : f_Md_passes_3_48 X v0 v1 v2 v3 v4 v5 o6 h =
    if v3 ≤ v5 then some (some (.int v4), h) else if pv_rc h v0 11 = true then (pv_tI (pM X m_Md_signBetween [.ref v0, .int v1, .int v2] h)).bind (fun q1 => if pv_rc q1.2 v0 11 = true then (pv_tV (pM X m_Md_passes_1 [.ref v0, .int 1071] q1.2)).bind (fun h2 => if pv_rc h2 v0 11 = true then (pv_tI (pM X m_Md_signBetween [.ref v0, .int v1, .int v2] h2)).bind (fun q3 => if q3.1 = q1.1 then f_Md_passes_3_87 X v0 v1 v2 v3 v4 v5 q1.1 0 v4 q3.2 else f_Md_passes_3_87 X v0 v1 v2 v3 v4 v5 q1.1 1 v4 q3.2) else none) else none) else none := by
  show pS X 4 (some .int) k_Md_passes_3 48 [some (.ref v0), some (.int v1), some (.int v2), some (.int v3), some (.int v4), some (.int v5), o6] [] h = _
  refine (ss_iload rfl rfl).trans ?_
  refine (ss_iload_n rfl rfl).trans ?_
  refine (ss_icmp_ge rfl).trans ?_
  refine pv_ite ?_ ?_
  · refine (ss_iload rfl rfl).trans ?_
    exact ss_ireturn rfl
  · refine (ss_aload_n rfl rfl).trans ?_
    refine (ss_iload_n rfl rfl).trans ?_
    refine (ss_iload_n rfl rfl).trans ?_
    refine (ss_callVI (as := [.int v1, .int v2]) rfl t_Md_signBetween (by decide) rfl rfl (by decide) (Or.inl rfl) ⟨Nat.le_of_ble_eq_true rfl, Nat.le_of_ble_eq_true rfl⟩).trans ?_
    refine pv_ite ?_ rfl
    refine congrArg (Option.bind _) (funext fun q1 => ?_)
    refine (ss_istore rfl rfl).trans ?_
    refine (ss_aload_n rfl rfl).trans ?_
    refine (ss_sipush rfl (v := 1071) rfl).trans ?_
    refine (ss_callVN (as := [.int 1071]) rfl t_Md_passes_1 (by decide) rfl rfl (by decide) rfl ⟨Nat.le_of_ble_eq_true rfl, Nat.le_of_ble_eq_true rfl⟩).trans ?_
    refine pv_ite ?_ rfl
    refine congrArg (Option.bind _) (funext fun h2 => ?_)
    refine (ss_iload rfl rfl).trans ?_
    refine (ss_aload_n rfl rfl).trans ?_
    refine (ss_iload_n rfl rfl).trans ?_
    refine (ss_iload_n rfl rfl).trans ?_
    refine (ss_callVI (as := [.int v1, .int v2]) rfl t_Md_signBetween (by decide) rfl rfl (by simp [Value.category]) (Or.inl rfl) ⟨Nat.le_of_ble_eq_true rfl, Nat.le_of_ble_eq_true rfl⟩).trans ?_
    refine pv_ite ?_ rfl
    refine congrArg (Option.bind _) (funext fun q3 => ?_)
    refine (ss_iload rfl rfl).trans ?_
    refine (ss_icmp_eq rfl).trans ?_
    refine pv_ite ?_ ?_
    · refine (ss_iconst rfl (v := 0) rfl).trans ?_
      rfl
    · refine (ss_iconst rfl (v := 1) rfl).trans ?_
      refine (ss_goto rfl).trans ?_
      rfl
set_option maxRecDepth 8000 in
theorem u_Md_passes_3_87 (X : pv_X) (v0 : Nat) (v1 : Int32) (v2 : Int32) (v3 : Int32) (v4 : Int32) (v5 : Int32) (v6 : Int32) (s0 : Int32) (s1 : Int32) (h : pv_H) : f_Md_passes_3_87 X v0 v1 v2 v3 v4 v5 v6 s0 s1 h =
    f_Md_passes_3_48 X v0 v1 v2 v3 (s1 + s0) (v5 + 1) (some (.int v6)) h := by
  show pS X 4 (some .int) k_Md_passes_3 87 [some (.ref v0), some (.int v1), some (.int v2), some (.int v3), some (.int v4), some (.int v5), some (.int v6)] [.int s0, .int s1] h = _
  refine (ss_iadd rfl).trans ?_
  refine (ss_istore rfl rfl).trans ?_
  refine (ss_iinc3 rfl rfl (v := v5 + 1) (congrArg (HAdd.hAdd _) (show Int32.ofInt (1) = 1 by decide)) rfl).trans ?_
  refine (ss_goto rfl).trans ?_
  rfl
theorem e_Md_passes_3 (X : pv_X) (v0 : Nat) (v1 : Int32) (v2 : Int32) (v3 : Int32) (h : pv_H) : pM X m_Md_passes_3 [.ref v0, .int v1, .int v2, .int v3] h = f_Md_passes_3_0 X v0 v1 v2 v3 h := rfl
noncomputable def f_Md_hub_0 (X : pv_X) (v0 : Nat) (h : pv_H) : Option pv_O := pS X 2 (some .int) k_Md_hub 0 [some (.ref v0), none, none, none, none, none] [] h
noncomputable def f_Md_hub_11 (X : pv_X) (v0 : Nat) (v1 : Int32) (v2 : Int32) (v3 : Int32) (o4 : Option Value) (o5 : Option Value) (h : pv_H) : Option pv_O := pS X 2 (some .int) k_Md_hub 11 [some (.ref v0), some (.int v1), some (.int v2), some (.int v3), o4, o5] [] h
noncomputable def f_Md_hub_25 (X : pv_X) (v0 : Nat) (v1 : Int32) (v2 : Int32) (v3 : Int32) (v4 : Int32) (v5 : Int32) (h : pv_H) : Option pv_O := pS X 2 (some .int) k_Md_hub 25 [some (.ref v0), some (.int v1), some (.int v2), some (.int v3), some (.int v4), some (.int v5)] [] h
noncomputable def f_Md_hub_52 (X : pv_X) (v0 : Nat) (v1 : Int32) (v2 : Int32) (v3 : Int32) (v4 : Int32) (v5 : Int32) (s0 : Int32) (s1 : Int32) (h : pv_H) : Option pv_O := pS X 2 (some .int) k_Md_hub 52 [some (.ref v0), some (.int v1), some (.int v2), some (.int v3), some (.int v4), some (.int v5)] [.int s0, .int s1] h
noncomputable def f_Md_hub_72 (X : pv_X) (v0 : Nat) (v1 : Int32) (v2 : Int32) (v3 : Int32) (v4 : Int32) (v5 : Int32) (s0 : Int32) (h : pv_H) : Option pv_O := pS X 2 (some .int) k_Md_hub 72 [some (.ref v0), some (.int v1), some (.int v2), some (.int v3), some (.int v4), some (.int v5)] [.int s0] h
noncomputable def f_Md_hub_85 (X : pv_X) (v0 : Nat) (v1 : Int32) (v2 : Int32) (v3 : Int32) (v4 : Int32) (v5 : Int32) (s0 : Int32) (h : pv_H) : Option pv_O := pS X 2 (some .int) k_Md_hub 85 [some (.ref v0), some (.int v1), some (.int v2), some (.int v3), some (.int v4), some (.int v5)] [.int s0] h
set_option maxRecDepth 8000 in
theorem u_Md_hub_0 (X : pv_X) (v0 : Nat) (h : pv_H) : f_Md_hub_0 X v0 h =
    (pv_fp h v0 11 0 (.int 0)).bind (fun h1 => f_Md_hub_11 X v0 (-1) 0 0 none none h1) := by
  show pS X 2 (some .int) k_Md_hub 0 [some (.ref v0), none, none, none, none, none] [] h = _
  refine (ss_aload_n rfl rfl).trans ?_
  refine (ss_iconst rfl (v := 0) rfl).trans ?_
  refine (ss_putI rfl).trans ?_
  refine congrArg (Option.bind _) (funext fun h1 => ?_)
  refine (ss_iconst rfl (v := (-1)) rfl).trans ?_
  refine (ss_istore_n rfl rfl).trans ?_
  refine (ss_iconst rfl (v := 0) rfl).trans ?_
  refine (ss_istore_n rfl rfl).trans ?_
  refine (ss_iconst rfl (v := 0) rfl).trans ?_
  refine (ss_istore_n rfl rfl).trans ?_
  rfl
set_option maxRecDepth 8000 in
theorem u_Md_hub_11 (X : pv_X) (v0 : Nat) (v1 : Int32) (v2 : Int32) (v3 : Int32) (o4 : Option Value) (o5 : Option Value) (h : pv_H) : f_Md_hub_11 X v0 v1 v2 v3 o4 o5 h =
    if pv_rc h v0 11 = true then (pv_tI (pM X m_Md_persons [.ref v0] h)).bind (fun q1 => if q1.1 ≤ v3 then some (some (.int v1), q1.2) else f_Md_hub_25 X v0 v1 v2 v3 0 0 q1.2) else none := by
  show pS X 2 (some .int) k_Md_hub 11 [some (.ref v0), some (.int v1), some (.int v2), some (.int v3), o4, o5] [] h = _
  refine (ss_iload_n rfl rfl).trans ?_
  refine (ss_aload_n rfl rfl).trans ?_
  refine (ss_callVI (as := []) rfl t_Md_persons (by decide) rfl rfl (by simp [Value.category]) (Or.inl rfl) ⟨Nat.le_of_ble_eq_true rfl, Nat.le_of_ble_eq_true rfl⟩).trans ?_
  refine pv_ite ?_ rfl
  refine congrArg (Option.bind _) (funext fun q1 => ?_)
  refine (ss_icmp_ge rfl).trans ?_
  refine pv_ite ?_ ?_
  · refine (ss_iload_n rfl rfl).trans ?_
    exact ss_ireturn rfl
  · refine (ss_iconst rfl (v := 0) rfl).trans ?_
    refine (ss_istore rfl rfl).trans ?_
    refine (ss_iconst rfl (v := 0) rfl).trans ?_
    refine (ss_istore rfl rfl).trans ?_
    rfl
set_option maxRecDepth 8000 in
theorem u_Md_hub_25 (X : pv_X) (v0 : Nat) (v1 : Int32) (v2 : Int32) (v3 : Int32) (v4 : Int32) (v5 : Int32) (h : pv_H) : f_Md_hub_25 X v0 v1 v2 v3 v4 v5 h =
    if pv_rc h v0 11 = true then (pv_tI (pM X m_Md_persons [.ref v0] h)).bind (fun q1 => if q1.1 ≤ v5 then if v4 ≤ v2 then f_Md_hub_72 X v0 v1 v2 v3 v4 v5 v1 q1.2 else f_Md_hub_72 X v0 v1 v2 v3 v4 v5 v3 q1.2 else if pv_rc q1.2 v0 11 = true then (pv_tI (pM X m_Md_personOf [.ref v0, .int v5, .int 2] q1.2)).bind (fun q2 => if ¬ q2.1 = v3 then f_Md_hub_52 X v0 v1 v2 v3 v4 v5 0 v4 q2.2 else f_Md_hub_52 X v0 v1 v2 v3 v4 v5 1 v4 q2.2) else none) else none := by
  show pS X 2 (some .int) k_Md_hub 25 [some (.ref v0), some (.int v1), some (.int v2), some (.int v3), some (.int v4), some (.int v5)] [] h = _
  refine (ss_iload rfl rfl).trans ?_
  refine (ss_aload_n rfl rfl).trans ?_
  refine (ss_callVI (as := []) rfl t_Md_persons (by decide) rfl rfl (by simp [Value.category]) (Or.inl rfl) ⟨Nat.le_of_ble_eq_true rfl, Nat.le_of_ble_eq_true rfl⟩).trans ?_
  refine pv_ite ?_ rfl
  refine congrArg (Option.bind _) (funext fun q1 => ?_)
  refine (ss_icmp_ge rfl).trans ?_
  refine pv_ite ?_ ?_
  · refine (ss_iload rfl rfl).trans ?_
    refine (ss_iload_n rfl rfl).trans ?_
    refine (ss_icmp_le rfl).trans ?_
    refine pv_ite ?_ ?_
    · refine (ss_iload_n rfl rfl).trans ?_
      rfl
    · refine (ss_iload_n rfl rfl).trans ?_
      refine (ss_goto rfl).trans ?_
      rfl
  · refine (ss_iload rfl rfl).trans ?_
    refine (ss_aload_n rfl rfl).trans ?_
    refine (ss_iload rfl rfl).trans ?_
    refine (ss_iconst rfl (v := 2) rfl).trans ?_
    refine (ss_callVI (as := [.int v5, .int 2]) rfl t_Md_personOf (by decide) rfl rfl (by simp [Value.category]) (Or.inl rfl) ⟨Nat.le_of_ble_eq_true rfl, Nat.le_of_ble_eq_true rfl⟩).trans ?_
    refine pv_ite ?_ rfl
    refine congrArg (Option.bind _) (funext fun q2 => ?_)
    refine (ss_iload_n rfl rfl).trans ?_
    refine (ss_icmp_ne rfl).trans ?_
    refine pv_ite ?_ ?_
    · refine (ss_iconst rfl (v := 0) rfl).trans ?_
      rfl
    · refine (ss_iconst rfl (v := 1) rfl).trans ?_
      refine (ss_goto rfl).trans ?_
      rfl
set_option maxRecDepth 8000 in
theorem u_Md_hub_52 (X : pv_X) (v0 : Nat) (v1 : Int32) (v2 : Int32) (v3 : Int32) (v4 : Int32) (v5 : Int32) (s0 : Int32) (s1 : Int32) (h : pv_H) : f_Md_hub_52 X v0 v1 v2 v3 v4 v5 s0 s1 h =
    f_Md_hub_25 X v0 v1 v2 v3 (s1 + s0) (v5 + 1) h := by
  show pS X 2 (some .int) k_Md_hub 52 [some (.ref v0), some (.int v1), some (.int v2), some (.int v3), some (.int v4), some (.int v5)] [.int s0, .int s1] h = _
  refine (ss_iadd rfl).trans ?_
  refine (ss_istore rfl rfl).trans ?_
  refine (ss_iinc3 rfl rfl (v := v5 + 1) (congrArg (HAdd.hAdd _) (show Int32.ofInt (1) = 1 by decide)) rfl).trans ?_
  refine (ss_goto rfl).trans ?_
  rfl
set_option maxRecDepth 8000 in
theorem u_Md_hub_72 (X : pv_X) (v0 : Nat) (v1 : Int32) (v2 : Int32) (v3 : Int32) (v4 : Int32) (v5 : Int32) (s0 : Int32) (h : pv_H) : f_Md_hub_72 X v0 v1 v2 v3 v4 v5 s0 h =
    if v4 ≤ v2 then f_Md_hub_85 X v0 s0 v2 v3 v4 v5 v2 h else f_Md_hub_85 X v0 s0 v2 v3 v4 v5 v4 h := by
  show pS X 2 (some .int) k_Md_hub 72 [some (.ref v0), some (.int v1), some (.int v2), some (.int v3), some (.int v4), some (.int v5)] [.int s0] h = _
  refine (ss_istore_n rfl rfl).trans ?_
  refine (ss_iload rfl rfl).trans ?_
  refine (ss_iload_n rfl rfl).trans ?_
  refine (ss_icmp_le rfl).trans ?_
  refine pv_ite ?_ ?_
  · refine (ss_iload_n rfl rfl).trans ?_
    rfl
  · refine (ss_iload rfl rfl).trans ?_
    refine (ss_goto rfl).trans ?_
    rfl
set_option maxRecDepth 8000 in
theorem u_Md_hub_85 (X : pv_X) (v0 : Nat) (v1 : Int32) (v2 : Int32) (v3 : Int32) (v4 : Int32) (v5 : Int32) (s0 : Int32) (h : pv_H) : f_Md_hub_85 X v0 v1 v2 v3 v4 v5 s0 h =
    f_Md_hub_11 X v0 v1 s0 (v3 + 1) (some (.int v4)) (some (.int v5)) h := by
  show pS X 2 (some .int) k_Md_hub 85 [some (.ref v0), some (.int v1), some (.int v2), some (.int v3), some (.int v4), some (.int v5)] [.int s0] h = _
  refine (ss_istore_n rfl rfl).trans ?_
  refine (ss_iinc3 rfl rfl (v := v3 + 1) (congrArg (HAdd.hAdd _) (show Int32.ofInt (1) = 1 by decide)) rfl).trans ?_
  refine (ss_goto rfl).trans ?_
  rfl
theorem e_Md_hub (X : pv_X) (v0 : Nat) (h : pv_H) : pM X m_Md_hub [.ref v0] h = f_Md_hub_0 X v0 h := rfl
noncomputable def f_Md_teacher_0 (X : pv_X) (v0 : Nat) (v1 : Int32) (h : pv_H) : Option pv_O := pS X 6 (some .int) k_Md_teacher 0 [some (.ref v0), some (.int v1), none, none, none, none] [] h
noncomputable def f_Md_teacher_31 (X : pv_X) (v0 : Nat) (v1 : Int32) (v2 : Int32) (v3 : Int32) (v4 : Int32) (o5 : Option Value) (h : pv_H) : Option pv_O := pS X 6 (some .int) k_Md_teacher 31 [some (.ref v0), some (.int v1), some (.int v2), some (.int v3), some (.int v4), o5] [] h
noncomputable def f_Md_teacher_80 (X : pv_X) (v0 : Nat) (v1 : Int32) (v2 : Int32) (v3 : Int32) (v4 : Int32) (v5 : Int32) (s0 : Int32) (h : pv_H) : Option pv_O := pS X 6 (some .int) k_Md_teacher 80 [some (.ref v0), some (.int v1), some (.int v2), some (.int v3), some (.int v4), some (.int v5)] [.int s0] h
noncomputable def f_Md_teacher_93 (X : pv_X) (v0 : Nat) (v1 : Int32) (v2 : Int32) (v3 : Int32) (v4 : Int32) (v5 : Int32) (s0 : Int32) (h : pv_H) : Option pv_O := pS X 6 (some .int) k_Md_teacher 93 [some (.ref v0), some (.int v1), some (.int v2), some (.int v3), some (.int v4), some (.int v5)] [.int s0] h
noncomputable def f_Md_teacher_94 (X : pv_X) (v0 : Nat) (v1 : Int32) (v2 : Int32) (v3 : Int32) (v4 : Int32) (o5 : Option Value) (h : pv_H) : Option pv_O := pS X 6 (some .int) k_Md_teacher 94 [some (.ref v0), some (.int v1), some (.int v2), some (.int v3), some (.int v4), o5] [] h
set_option maxRecDepth 8000 in
theorem u_Md_teacher_0 (X : pv_X) (v0 : Nat) (v1 : Int32) (h : pv_H) : f_Md_teacher_0 X v0 v1 h =
    (pv_fp h v0 11 0 (.int 0)).bind (fun h1 => if pv_rc h1 v0 11 = true then (pv_tI (pM X m_Md_isPerson [.ref v0, .int v1] h1)).bind (fun q2 => if ¬ q2.1 = 0 then if pv_rc q2.2 v0 11 = true then (pv_tI (pM X m_Md_outBehind [.ref v0, .int v1, .int 24] q2.2)).bind (fun q3 => (pv_tI (pM X m_Md_unsigned [.int q3.1] q3.2)).bind (fun q4 => f_Md_teacher_31 X v0 v1 (-1) q4.1 0 none q4.2)) else none else some (some (.int (-1)), q2.2)) else none) := by
  show pS X 6 (some .int) k_Md_teacher 0 [some (.ref v0), some (.int v1), none, none, none, none] [] h = _
  refine (ss_aload_n rfl rfl).trans ?_
  refine (ss_iconst rfl (v := 0) rfl).trans ?_
  refine (ss_putI rfl).trans ?_
  refine congrArg (Option.bind _) (funext fun h1 => ?_)
  refine (ss_aload_n rfl rfl).trans ?_
  refine (ss_iload_n rfl rfl).trans ?_
  refine (ss_callVI (as := [.int v1]) rfl t_Md_isPerson (by decide) rfl rfl (by decide) (Or.inr rfl) ⟨Nat.le_of_ble_eq_true rfl, Nat.le_of_ble_eq_true rfl⟩).trans ?_
  refine pv_ite ?_ rfl
  refine congrArg (Option.bind _) (funext fun q2 => ?_)
  refine (ss_if_ne rfl).trans ?_
  refine pv_ite ?_ ?_
  · refine (ss_iconst rfl (v := (-1)) rfl).trans ?_
    refine (ss_istore_n rfl rfl).trans ?_
    refine (ss_aload_n rfl rfl).trans ?_
    refine (ss_iload_n rfl rfl).trans ?_
    refine (ss_bipush rfl (v := 24) rfl).trans ?_
    refine (ss_callVI (as := [.int v1, .int 24]) rfl t_Md_outBehind (by decide) rfl rfl (by decide) (Or.inl rfl) ⟨Nat.le_of_ble_eq_true rfl, Nat.le_of_ble_eq_true rfl⟩).trans ?_
    refine pv_ite ?_ rfl
    refine congrArg (Option.bind _) (funext fun q3 => ?_)
    refine (ss_callSI (as := [.int q3.1]) rfl t_Md_unsigned (by decide) rfl rfl (by decide) (Or.inl rfl) ⟨Nat.le_of_ble_eq_true rfl, Nat.le_of_ble_eq_true rfl⟩).trans ?_
    refine congrArg (Option.bind _) (funext fun q4 => ?_)
    refine (ss_istore_n rfl rfl).trans ?_
    refine (ss_iconst rfl (v := 0) rfl).trans ?_
    refine (ss_istore rfl rfl).trans ?_
    rfl
  · refine (ss_iconst rfl (v := (-1)) rfl).trans ?_
    exact ss_ireturn rfl
set_option maxRecDepth 8000 in
theorem u_Md_teacher_31 (X : pv_X) (v0 : Nat) (v1 : Int32) (v2 : Int32) (v3 : Int32) (v4 : Int32) (o5 : Option Value) (h : pv_H) : f_Md_teacher_31 X v0 v1 v2 v3 v4 o5 h =
    if pv_rc h v0 11 = true then (pv_tI (pM X m_Md_persons [.ref v0] h)).bind (fun q1 => if q1.1 ≤ v4 then some (some (.int v2), q1.2) else if v4 = v1 then f_Md_teacher_94 X v0 v1 v2 v3 v4 o5 q1.2 else if pv_rc q1.2 v0 11 = true then (pv_tV (pM X m_Md_askedFor [.ref v0, .int v1, .int v4, .int 24] q1.2)).bind (fun h2 => if pv_rc h2 v0 11 = true then (pv_tI (pM X m_Md_outOf [.ref v0, .int 1071, .int v1] h2)).bind (fun q3 => (pv_tI (pM X m_Md_unsigned [.int q3.1] q3.2)).bind (fun q4 => if v3 ≤ q4.1 then f_Md_teacher_80 X v0 v1 v2 v3 v4 q4.1 v2 q4.2 else f_Md_teacher_80 X v0 v1 v2 v3 v4 q4.1 v4 q4.2)) else none) else none) else none := by
  show pS X 6 (some .int) k_Md_teacher 31 [some (.ref v0), some (.int v1), some (.int v2), some (.int v3), some (.int v4), o5] [] h = _
  refine (ss_iload rfl rfl).trans ?_
  refine (ss_aload_n rfl rfl).trans ?_
  refine (ss_callVI (as := []) rfl t_Md_persons (by decide) rfl rfl (by simp [Value.category]) (Or.inl rfl) ⟨Nat.le_of_ble_eq_true rfl, Nat.le_of_ble_eq_true rfl⟩).trans ?_
  refine pv_ite ?_ rfl
  refine congrArg (Option.bind _) (funext fun q1 => ?_)
  refine (ss_icmp_ge rfl).trans ?_
  refine pv_ite ?_ ?_
  · refine (ss_iload_n rfl rfl).trans ?_
    exact ss_ireturn rfl
  · refine (ss_iload rfl rfl).trans ?_
    refine (ss_iload_n rfl rfl).trans ?_
    refine (ss_icmp_eq rfl).trans ?_
    refine pv_ite ?_ ?_
    · rfl
    · refine (ss_aload_n rfl rfl).trans ?_
      refine (ss_iload_n rfl rfl).trans ?_
      refine (ss_iload rfl rfl).trans ?_
      refine (ss_bipush rfl (v := 24) rfl).trans ?_
      refine (ss_callVN (as := [.int v1, .int v4, .int 24]) rfl t_Md_askedFor (by decide) rfl rfl (by decide) rfl ⟨Nat.le_of_ble_eq_true rfl, Nat.le_of_ble_eq_true rfl⟩).trans ?_
      refine pv_ite ?_ rfl
      refine congrArg (Option.bind _) (funext fun h2 => ?_)
      refine (ss_aload_n rfl rfl).trans ?_
      refine (ss_sipush rfl (v := 1071) rfl).trans ?_
      refine (ss_iload_n rfl rfl).trans ?_
      refine (ss_callVI (as := [.int 1071, .int v1]) rfl t_Md_outOf (by decide) rfl rfl (by decide) (Or.inl rfl) ⟨Nat.le_of_ble_eq_true rfl, Nat.le_of_ble_eq_true rfl⟩).trans ?_
      refine pv_ite ?_ rfl
      refine congrArg (Option.bind _) (funext fun q3 => ?_)
      refine (ss_callSI (as := [.int q3.1]) rfl t_Md_unsigned (by decide) rfl rfl (by decide) (Or.inl rfl) ⟨Nat.le_of_ble_eq_true rfl, Nat.le_of_ble_eq_true rfl⟩).trans ?_
      refine congrArg (Option.bind _) (funext fun q4 => ?_)
      refine (ss_istore rfl rfl).trans ?_
      refine (ss_iload rfl rfl).trans ?_
      refine (ss_iload_n rfl rfl).trans ?_
      refine (ss_icmp_ge rfl).trans ?_
      refine pv_ite ?_ ?_
      · refine (ss_iload_n rfl rfl).trans ?_
        rfl
      · refine (ss_iload rfl rfl).trans ?_
        refine (ss_goto rfl).trans ?_
        rfl
set_option maxRecDepth 8000 in
theorem u_Md_teacher_80 (X : pv_X) (v0 : Nat) (v1 : Int32) (v2 : Int32) (v3 : Int32) (v4 : Int32) (v5 : Int32) (s0 : Int32) (h : pv_H) : f_Md_teacher_80 X v0 v1 v2 v3 v4 v5 s0 h =
    if v3 ≤ v5 then f_Md_teacher_93 X v0 v1 s0 v3 v4 v5 v3 h else f_Md_teacher_93 X v0 v1 s0 v3 v4 v5 v5 h := by
  show pS X 6 (some .int) k_Md_teacher 80 [some (.ref v0), some (.int v1), some (.int v2), some (.int v3), some (.int v4), some (.int v5)] [.int s0] h = _
  refine (ss_istore_n rfl rfl).trans ?_
  refine (ss_iload rfl rfl).trans ?_
  refine (ss_iload_n rfl rfl).trans ?_
  refine (ss_icmp_ge rfl).trans ?_
  refine pv_ite ?_ ?_
  · refine (ss_iload_n rfl rfl).trans ?_
    rfl
  · refine (ss_iload rfl rfl).trans ?_
    refine (ss_goto rfl).trans ?_
    rfl
set_option maxRecDepth 8000 in
theorem u_Md_teacher_93 (X : pv_X) (v0 : Nat) (v1 : Int32) (v2 : Int32) (v3 : Int32) (v4 : Int32) (v5 : Int32) (s0 : Int32) (h : pv_H) : f_Md_teacher_93 X v0 v1 v2 v3 v4 v5 s0 h =
    f_Md_teacher_94 X v0 v1 v2 s0 v4 (some (.int v5)) h := by
  show pS X 6 (some .int) k_Md_teacher 93 [some (.ref v0), some (.int v1), some (.int v2), some (.int v3), some (.int v4), some (.int v5)] [.int s0] h = _
  refine (ss_istore_n rfl rfl).trans ?_
  rfl
set_option maxRecDepth 8000 in
theorem u_Md_teacher_94 (X : pv_X) (v0 : Nat) (v1 : Int32) (v2 : Int32) (v3 : Int32) (v4 : Int32) (o5 : Option Value) (h : pv_H) : f_Md_teacher_94 X v0 v1 v2 v3 v4 o5 h =
    f_Md_teacher_31 X v0 v1 v2 v3 (v4 + 1) o5 h := by
  show pS X 6 (some .int) k_Md_teacher 94 [some (.ref v0), some (.int v1), some (.int v2), some (.int v3), some (.int v4), o5] [] h = _
  refine (ss_iinc3 rfl rfl (v := v4 + 1) (congrArg (HAdd.hAdd _) (show Int32.ofInt (1) = 1 by decide)) rfl).trans ?_
  refine (ss_goto rfl).trans ?_
  rfl
theorem e_Md_teacher (X : pv_X) (v0 : Nat) (v1 : Int32) (h : pv_H) : pM X m_Md_teacher [.ref v0, .int v1] h = f_Md_teacher_0 X v0 v1 h := rfl
noncomputable def f_Md_together_0 (X : pv_X) (v0 : Nat) (h : pv_H) : Option pv_O := pS X 4 (some .int) k_Md_together 0 [some (.ref v0), none, none, none, none, none, none, none] [] h
noncomputable def f_Md_together_17 (X : pv_X) (v0 : Nat) (v1 : Int32) (v2 : Int32) (v3 : Int32) (o4 : Option Value) (o5 : Option Value) (o6 : Option Value) (o7 : Option Value) (h : pv_H) : Option pv_O := pS X 4 (some .int) k_Md_together 17 [some (.ref v0), some (.int v1), some (.int v2), some (.int v3), o4, o5, o6, o7] [] h
noncomputable def f_Md_together_36 (X : pv_X) (v0 : Nat) (v1 : Int32) (v2 : Int32) (v3 : Int32) (v4 : Int32) (v5 : Int32) (v6 : Int32) (o7 : Option Value) (h : pv_H) : Option pv_O := pS X 4 (some .int) k_Md_together 36 [some (.ref v0), some (.int v1), some (.int v2), some (.int v3), some (.int v4), some (.int v5), some (.int v6), o7] [] h
noncomputable def f_Md_together_70 (X : pv_X) (v0 : Nat) (v1 : Int32) (v2 : Int32) (v3 : Int32) (v4 : Int32) (v5 : Int32) (v6 : Int32) (v7 : Int32) (s0 : Int32) (h : pv_H) : Option pv_O := pS X 4 (some .int) k_Md_together 70 [some (.ref v0), some (.int v1), some (.int v2), some (.int v3), some (.int v4), some (.int v5), some (.int v6), some (.int v7)] [.int s0] h
noncomputable def f_Md_together_86 (X : pv_X) (v0 : Nat) (v1 : Int32) (v2 : Int32) (v3 : Int32) (v4 : Int32) (v5 : Int32) (v6 : Int32) (v7 : Int32) (s0 : Int32) (h : pv_H) : Option pv_O := pS X 4 (some .int) k_Md_together 86 [some (.ref v0), some (.int v1), some (.int v2), some (.int v3), some (.int v4), some (.int v5), some (.int v6), some (.int v7)] [.int s0] h
noncomputable def f_Md_together_108 (X : pv_X) (v0 : Nat) (v1 : Int32) (v2 : Int32) (v3 : Int32) (v4 : Int32) (v5 : Int32) (v6 : Int32) (o7 : Option Value) (s0 : Int32) (h : pv_H) : Option pv_O := pS X 4 (some .int) k_Md_together 108 [some (.ref v0), some (.int v1), some (.int v2), some (.int v3), some (.int v4), some (.int v5), some (.int v6), o7] [.int s0] h
noncomputable def f_Md_together_127 (X : pv_X) (v0 : Nat) (v1 : Int32) (v2 : Int32) (v3 : Int32) (v4 : Int32) (v5 : Int32) (v6 : Int32) (o7 : Option Value) (s0 : Int32) (h : pv_H) : Option pv_O := pS X 4 (some .int) k_Md_together 127 [some (.ref v0), some (.int v1), some (.int v2), some (.int v3), some (.int v4), some (.int v5), some (.int v6), o7] [.int s0] h
set_option maxRecDepth 8000 in
theorem u_Md_together_0 (X : pv_X) (v0 : Nat) (h : pv_H) : f_Md_together_0 X v0 h =
    (pv_fp h v0 11 0 (.int 0)).bind (fun h1 => if pv_rc h1 v0 11 = true then (pv_tV (pM X m_Md_triesNow [.ref v0] h1)).bind (fun h2 => f_Md_together_17 X v0 0 720 0 none none none none h2) else none) := by
  show pS X 4 (some .int) k_Md_together 0 [some (.ref v0), none, none, none, none, none, none, none] [] h = _
  refine (ss_aload_n rfl rfl).trans ?_
  refine (ss_iconst rfl (v := 0) rfl).trans ?_
  refine (ss_putI rfl).trans ?_
  refine congrArg (Option.bind _) (funext fun h1 => ?_)
  refine (ss_aload_n rfl rfl).trans ?_
  refine (ss_callVN (as := []) rfl t_Md_triesNow (by decide) rfl rfl (by decide) rfl ⟨Nat.le_of_ble_eq_true rfl, Nat.le_of_ble_eq_true rfl⟩).trans ?_
  refine pv_ite ?_ rfl
  refine congrArg (Option.bind _) (funext fun h2 => ?_)
  refine (ss_iconst rfl (v := 0) rfl).trans ?_
  refine (ss_istore_n rfl rfl).trans ?_
  refine (ss_sipush rfl (v := 720) rfl).trans ?_
  refine (ss_istore_n rfl rfl).trans ?_
  refine (ss_iconst rfl (v := 0) rfl).trans ?_
  refine (ss_istore_n rfl rfl).trans ?_
  rfl
set_option maxRecDepth 8000 in
theorem u_Md_together_17 (X : pv_X) (v0 : Nat) (v1 : Int32) (v2 : Int32) (v3 : Int32) (o4 : Option Value) (o5 : Option Value) (o6 : Option Value) (o7 : Option Value) (h : pv_H) : f_Md_together_17 X v0 v1 v2 v3 o4 o5 o6 o7 h =
    if 96 < v3 then some (some (.int v1), h) else f_Md_together_36 X v0 v1 v2 v3 360 (-361) 0 o7 h := by
  show pS X 4 (some .int) k_Md_together 17 [some (.ref v0), some (.int v1), some (.int v2), some (.int v3), o4, o5, o6, o7] [] h = _
  refine (ss_iload_n rfl rfl).trans ?_
  refine (ss_bipush rfl (v := 96) rfl).trans ?_
  refine (ss_icmp_gt rfl).trans ?_
  refine pv_ite ?_ ?_
  · refine (ss_iload_n rfl rfl).trans ?_
    exact ss_ireturn rfl
  · refine (ss_sipush rfl (v := 360) rfl).trans ?_
    refine (ss_istore rfl rfl).trans ?_
    refine (ss_sipush rfl (v := (-361)) rfl).trans ?_
    refine (ss_istore rfl rfl).trans ?_
    refine (ss_iconst rfl (v := 0) rfl).trans ?_
    refine (ss_istore rfl rfl).trans ?_
    rfl
set_option maxRecDepth 8000 in
theorem u_Md_together_36 (X : pv_X) (v0 : Nat) (v1 : Int32) (v2 : Int32) (v3 : Int32) (v4 : Int32) (v5 : Int32) (v6 : Int32) (o7 : Option Value) (h : pv_H) : f_Md_together_36 X v0 v1 v2 v3 v4 v5 v6 o7 h =
    if pv_rc h v0 11 = true then (pv_tI (pM X m_Md_persons [.ref v0] h)).bind (fun q1 => if q1.1 ≤ v6 then if v2 ≤ (v5 - v4) then f_Md_together_108 X v0 v1 v2 v3 v4 v5 v6 o7 v1 q1.2 else f_Md_together_108 X v0 v1 v2 v3 v4 v5 v6 o7 v3 q1.2 else if pv_rc q1.2 v0 11 = true then (pv_tI (pM X m_Md_outOf [.ref v0, .int 1071, .int v6] q1.2)).bind (fun q2 => if v4 ≤ q2.1 then f_Md_together_70 X v0 v1 v2 v3 v4 v5 v6 q2.1 v4 q2.2 else f_Md_together_70 X v0 v1 v2 v3 v4 v5 v6 q2.1 q2.1 q2.2) else none) else none := by
  show pS X 4 (some .int) k_Md_together 36 [some (.ref v0), some (.int v1), some (.int v2), some (.int v3), some (.int v4), some (.int v5), some (.int v6), o7] [] h = _
  refine (ss_iload rfl rfl).trans ?_
  refine (ss_aload_n rfl rfl).trans ?_
  refine (ss_callVI (as := []) rfl t_Md_persons (by decide) rfl rfl (by simp [Value.category]) (Or.inl rfl) ⟨Nat.le_of_ble_eq_true rfl, Nat.le_of_ble_eq_true rfl⟩).trans ?_
  refine pv_ite ?_ rfl
  refine congrArg (Option.bind _) (funext fun q1 => ?_)
  refine (ss_icmp_ge rfl).trans ?_
  refine pv_ite ?_ ?_
  · refine (ss_iload rfl rfl).trans ?_
    refine (ss_iload rfl rfl).trans ?_
    refine (ss_isub rfl).trans ?_
    refine (ss_iload_n rfl rfl).trans ?_
    refine (ss_icmp_ge rfl).trans ?_
    refine pv_ite ?_ ?_
    · refine (ss_iload_n rfl rfl).trans ?_
      rfl
    · refine (ss_iload_n rfl rfl).trans ?_
      refine (ss_goto rfl).trans ?_
      rfl
  · refine (ss_aload_n rfl rfl).trans ?_
    refine (ss_sipush rfl (v := 1071) rfl).trans ?_
    refine (ss_iload rfl rfl).trans ?_
    refine (ss_callVI (as := [.int 1071, .int v6]) rfl t_Md_outOf (by decide) rfl rfl (by decide) (Or.inl rfl) ⟨Nat.le_of_ble_eq_true rfl, Nat.le_of_ble_eq_true rfl⟩).trans ?_
    refine pv_ite ?_ rfl
    refine congrArg (Option.bind _) (funext fun q2 => ?_)
    refine (ss_istore rfl rfl).trans ?_
    refine (ss_iload rfl rfl).trans ?_
    refine (ss_iload rfl rfl).trans ?_
    refine (ss_icmp_ge rfl).trans ?_
    refine pv_ite ?_ ?_
    · refine (ss_iload rfl rfl).trans ?_
      rfl
    · refine (ss_iload rfl rfl).trans ?_
      refine (ss_goto rfl).trans ?_
      rfl
set_option maxRecDepth 8000 in
theorem u_Md_together_70 (X : pv_X) (v0 : Nat) (v1 : Int32) (v2 : Int32) (v3 : Int32) (v4 : Int32) (v5 : Int32) (v6 : Int32) (v7 : Int32) (s0 : Int32) (h : pv_H) : f_Md_together_70 X v0 v1 v2 v3 v4 v5 v6 v7 s0 h =
    if v7 ≤ v5 then f_Md_together_86 X v0 v1 v2 v3 s0 v5 v6 v7 v5 h else f_Md_together_86 X v0 v1 v2 v3 s0 v5 v6 v7 v7 h := by
  show pS X 4 (some .int) k_Md_together 70 [some (.ref v0), some (.int v1), some (.int v2), some (.int v3), some (.int v4), some (.int v5), some (.int v6), some (.int v7)] [.int s0] h = _
  refine (ss_istore rfl rfl).trans ?_
  refine (ss_iload rfl rfl).trans ?_
  refine (ss_iload rfl rfl).trans ?_
  refine (ss_icmp_le rfl).trans ?_
  refine pv_ite ?_ ?_
  · refine (ss_iload rfl rfl).trans ?_
    rfl
  · refine (ss_iload rfl rfl).trans ?_
    refine (ss_goto rfl).trans ?_
    rfl
set_option maxRecDepth 8000 in
theorem u_Md_together_86 (X : pv_X) (v0 : Nat) (v1 : Int32) (v2 : Int32) (v3 : Int32) (v4 : Int32) (v5 : Int32) (v6 : Int32) (v7 : Int32) (s0 : Int32) (h : pv_H) : f_Md_together_86 X v0 v1 v2 v3 v4 v5 v6 v7 s0 h =
    f_Md_together_36 X v0 v1 v2 v3 v4 s0 (v6 + 1) (some (.int v7)) h := by
  show pS X 4 (some .int) k_Md_together 86 [some (.ref v0), some (.int v1), some (.int v2), some (.int v3), some (.int v4), some (.int v5), some (.int v6), some (.int v7)] [.int s0] h = _
  refine (ss_istore rfl rfl).trans ?_
  refine (ss_iinc3 rfl rfl (v := v6 + 1) (congrArg (HAdd.hAdd _) (show Int32.ofInt (1) = 1 by decide)) rfl).trans ?_
  refine (ss_goto rfl).trans ?_
  rfl
set_option maxRecDepth 8000 in
theorem u_Md_together_108 (X : pv_X) (v0 : Nat) (v1 : Int32) (v2 : Int32) (v3 : Int32) (v4 : Int32) (v5 : Int32) (v6 : Int32) (o7 : Option Value) (s0 : Int32) (h : pv_H) : f_Md_together_108 X v0 v1 v2 v3 v4 v5 v6 o7 s0 h =
    if v2 ≤ (v5 - v4) then f_Md_together_127 X v0 s0 v2 v3 v4 v5 v6 o7 v2 h else f_Md_together_127 X v0 s0 v2 v3 v4 v5 v6 o7 (v5 - v4) h := by
  show pS X 4 (some .int) k_Md_together 108 [some (.ref v0), some (.int v1), some (.int v2), some (.int v3), some (.int v4), some (.int v5), some (.int v6), o7] [.int s0] h = _
  refine (ss_istore_n rfl rfl).trans ?_
  refine (ss_iload rfl rfl).trans ?_
  refine (ss_iload rfl rfl).trans ?_
  refine (ss_isub rfl).trans ?_
  refine (ss_iload_n rfl rfl).trans ?_
  refine (ss_icmp_ge rfl).trans ?_
  refine pv_ite ?_ ?_
  · refine (ss_iload_n rfl rfl).trans ?_
    rfl
  · refine (ss_iload rfl rfl).trans ?_
    refine (ss_iload rfl rfl).trans ?_
    refine (ss_isub rfl).trans ?_
    refine (ss_goto rfl).trans ?_
    rfl
set_option maxRecDepth 8000 in
theorem u_Md_together_127 (X : pv_X) (v0 : Nat) (v1 : Int32) (v2 : Int32) (v3 : Int32) (v4 : Int32) (v5 : Int32) (v6 : Int32) (o7 : Option Value) (s0 : Int32) (h : pv_H) : f_Md_together_127 X v0 v1 v2 v3 v4 v5 v6 o7 s0 h =
    if pv_rc h v0 11 = true then (pv_tV (pM X m_Md_passes_1 [.ref v0, .int 1071] h)).bind (fun h1 => f_Md_together_17 X v0 v1 s0 (v3 + 1) (some (.int v4)) (some (.int v5)) (some (.int v6)) o7 h1) else none := by
  show pS X 4 (some .int) k_Md_together 127 [some (.ref v0), some (.int v1), some (.int v2), some (.int v3), some (.int v4), some (.int v5), some (.int v6), o7] [.int s0] h = _
  refine (ss_istore_n rfl rfl).trans ?_
  refine (ss_aload_n rfl rfl).trans ?_
  refine (ss_sipush rfl (v := 1071) rfl).trans ?_
  refine (ss_callVN (as := [.int 1071]) rfl t_Md_passes_1 (by decide) rfl rfl (by decide) rfl ⟨Nat.le_of_ble_eq_true rfl, Nat.le_of_ble_eq_true rfl⟩).trans ?_
  refine pv_ite ?_ rfl
  refine congrArg (Option.bind _) (funext fun h1 => ?_)
  refine (ss_iinc3 rfl rfl (v := v3 + 1) (congrArg (HAdd.hAdd _) (show Int32.ofInt (1) = 1 by decide)) rfl).trans ?_
  refine (ss_goto rfl).trans ?_
  rfl
theorem e_Md_together (X : pv_X) (v0 : Nat) (h : pv_H) : pM X m_Md_together [.ref v0] h = f_Md_together_0 X v0 h := rfl
noncomputable def f_Md_cure_0 (X : pv_X) (v0 : Nat) (v1 : Int32) (h : pv_H) : Option pv_O := pS X 6 (some .int) k_Md_cure 0 [some (.ref v0), some (.int v1), none, none, none, none, none] [] h
noncomputable def f_Md_cure_33 (X : pv_X) (v0 : Nat) (v1 : Int32) (v2 : Int32) (v3 : Int32) (v4 : Int32) (o5 : Option Value) (o6 : Option Value) (h : pv_H) : Option pv_O := pS X 6 (some .int) k_Md_cure 33 [some (.ref v0), some (.int v1), some (.int v2), some (.int v3), some (.int v4), o5, o6] [] h
noncomputable def f_Md_cure_59 (X : pv_X) (v0 : Nat) (v1 : Int32) (v2 : Int32) (v3 : Int32) (v4 : Int32) (o5 : Option Value) (o6 : Option Value) (s0 : Int32) (h : pv_H) : Option pv_O := pS X 6 (some .int) k_Md_cure 59 [some (.ref v0), some (.int v1), some (.int v2), some (.int v3), some (.int v4), o5, o6] [.int s0] h
noncomputable def f_Md_cure_106 (X : pv_X) (v0 : Nat) (v1 : Int32) (v2 : Int32) (v3 : Int32) (v4 : Int32) (v5 : Int32) (v6 : Int32) (s0 : Int32) (h : pv_H) : Option pv_O := pS X 6 (some .int) k_Md_cure 106 [some (.ref v0), some (.int v1), some (.int v2), some (.int v3), some (.int v4), some (.int v5), some (.int v6)] [.int s0] h
noncomputable def f_Md_cure_119 (X : pv_X) (v0 : Nat) (v1 : Int32) (v2 : Int32) (v3 : Int32) (v4 : Int32) (v5 : Int32) (v6 : Int32) (s0 : Int32) (h : pv_H) : Option pv_O := pS X 6 (some .int) k_Md_cure 119 [some (.ref v0), some (.int v1), some (.int v2), some (.int v3), some (.int v4), some (.int v5), some (.int v6)] [.int s0] h
set_option maxRecDepth 8000 in
theorem u_Md_cure_0 (X : pv_X) (v0 : Nat) (v1 : Int32) (h : pv_H) : f_Md_cure_0 X v0 v1 h =
    (pv_fp h v0 11 0 (.int 0)).bind (fun h1 => if pv_rc h1 v0 11 = true then (pv_tI (pM X m_Md_isPerson [.ref v0, .int v1] h1)).bind (fun q2 => if ¬ q2.1 = 0 then if pv_rc q2.2 v0 11 = true then (pv_tI (pM X m_Md_outBehind [.ref v0, .int v1, .int 24] q2.2)).bind (fun q3 => (pv_tI (pM X m_Md_unsigned [.int q3.1] q3.2)).bind (fun q4 => f_Md_cure_33 X v0 v1 0 q4.1 2 none none q4.2)) else none else some (some (.int (-1000)), q2.2)) else none) := by
  show pS X 6 (some .int) k_Md_cure 0 [some (.ref v0), some (.int v1), none, none, none, none, none] [] h = _
  refine (ss_aload_n rfl rfl).trans ?_
  refine (ss_iconst rfl (v := 0) rfl).trans ?_
  refine (ss_putI rfl).trans ?_
  refine congrArg (Option.bind _) (funext fun h1 => ?_)
  refine (ss_aload_n rfl rfl).trans ?_
  refine (ss_iload_n rfl rfl).trans ?_
  refine (ss_callVI (as := [.int v1]) rfl t_Md_isPerson (by decide) rfl rfl (by decide) (Or.inr rfl) ⟨Nat.le_of_ble_eq_true rfl, Nat.le_of_ble_eq_true rfl⟩).trans ?_
  refine pv_ite ?_ rfl
  refine congrArg (Option.bind _) (funext fun q2 => ?_)
  refine (ss_if_ne rfl).trans ?_
  refine pv_ite ?_ ?_
  · refine (ss_iconst rfl (v := 0) rfl).trans ?_
    refine (ss_istore_n rfl rfl).trans ?_
    refine (ss_aload_n rfl rfl).trans ?_
    refine (ss_iload_n rfl rfl).trans ?_
    refine (ss_bipush rfl (v := 24) rfl).trans ?_
    refine (ss_callVI (as := [.int v1, .int 24]) rfl t_Md_outBehind (by decide) rfl rfl (by decide) (Or.inl rfl) ⟨Nat.le_of_ble_eq_true rfl, Nat.le_of_ble_eq_true rfl⟩).trans ?_
    refine pv_ite ?_ rfl
    refine congrArg (Option.bind _) (funext fun q3 => ?_)
    refine (ss_callSI (as := [.int q3.1]) rfl t_Md_unsigned (by decide) rfl rfl (by decide) (Or.inl rfl) ⟨Nat.le_of_ble_eq_true rfl, Nat.le_of_ble_eq_true rfl⟩).trans ?_
    refine congrArg (Option.bind _) (funext fun q4 => ?_)
    refine (ss_istore_n rfl rfl).trans ?_
    refine (ss_iconst rfl (v := 2) rfl).trans ?_
    refine (ss_istore rfl rfl).trans ?_
    rfl
  · refine (ss_sipush rfl (v := (-1000)) rfl).trans ?_
    exact ss_ireturn rfl
set_option maxRecDepth 8000 in
theorem u_Md_cure_33 (X : pv_X) (v0 : Nat) (v1 : Int32) (v2 : Int32) (v3 : Int32) (v4 : Int32) (o5 : Option Value) (o6 : Option Value) (h : pv_H) : f_Md_cure_33 X v0 v1 v2 v3 v4 o5 o6 h =
    if 121 < v4 then some (some (.int v2), h) else if ¬ (v4 - v4 / 2 * 2) = 0 then f_Md_cure_59 X v0 v1 v2 v3 v4 o5 o6 (v4 / 2) h else f_Md_cure_59 X v0 v1 v2 v3 v4 o5 o6 (-(v4 / 2)) h := by
  show pS X 6 (some .int) k_Md_cure 33 [some (.ref v0), some (.int v1), some (.int v2), some (.int v3), some (.int v4), o5, o6] [] h = _
  refine (ss_iload rfl rfl).trans ?_
  refine (ss_bipush rfl (v := 121) rfl).trans ?_
  refine (ss_icmp_gt rfl).trans ?_
  refine pv_ite ?_ ?_
  · refine (ss_iload_n rfl rfl).trans ?_
    exact ss_ireturn rfl
  · refine (ss_iload rfl rfl).trans ?_
    refine (ss_iconst rfl (v := 2) rfl).trans ?_
    refine (ss_irem rfl (by decide)).trans ?_
    refine (ss_if_ne rfl).trans ?_
    refine pv_ite ?_ ?_
    · refine (ss_iload rfl rfl).trans ?_
      refine (ss_iconst rfl (v := 2) rfl).trans ?_
      refine (ss_idiv rfl (by decide)).trans ?_
      rfl
    · refine (ss_iload rfl rfl).trans ?_
      refine (ss_iconst rfl (v := 2) rfl).trans ?_
      refine (ss_idiv rfl (by decide)).trans ?_
      refine (ss_ineg rfl).trans ?_
      refine (ss_goto rfl).trans ?_
      rfl
set_option maxRecDepth 8000 in
theorem u_Md_cure_59 (X : pv_X) (v0 : Nat) (v1 : Int32) (v2 : Int32) (v3 : Int32) (v4 : Int32) (o5 : Option Value) (o6 : Option Value) (s0 : Int32) (h : pv_H) : f_Md_cure_59 X v0 v1 v2 v3 v4 o5 o6 s0 h =
    if pv_rc h v0 11 = true then (pv_tV (pM X m_Md_triesNow [.ref v0] h)).bind (fun h1 => if pv_rc h1 v0 11 = true then (pv_tV (pM X m_Md_beatsMore [.ref v0, .int 1071, .int v1, .int s0] h1)).bind (fun h2 => if pv_rc h2 v0 11 = true then (pv_tV (pM X m_Md_runs [.ref v0, .int 24] h2)).bind (fun h3 => if pv_rc h3 v0 11 = true then (pv_tI (pM X m_Md_outOf [.ref v0, .int 1071, .int v1] h3)).bind (fun q4 => (pv_tI (pM X m_Md_unsigned [.int q4.1] q4.2)).bind (fun q5 => if v3 ≤ q5.1 then f_Md_cure_106 X v0 v1 v2 v3 v4 s0 q5.1 v2 q5.2 else f_Md_cure_106 X v0 v1 v2 v3 v4 s0 q5.1 s0 q5.2)) else none) else none) else none) else none := by
  show pS X 6 (some .int) k_Md_cure 59 [some (.ref v0), some (.int v1), some (.int v2), some (.int v3), some (.int v4), o5, o6] [.int s0] h = _
  refine (ss_istore rfl rfl).trans ?_
  refine (ss_aload_n rfl rfl).trans ?_
  refine (ss_callVN (as := []) rfl t_Md_triesNow (by decide) rfl rfl (by decide) rfl ⟨Nat.le_of_ble_eq_true rfl, Nat.le_of_ble_eq_true rfl⟩).trans ?_
  refine pv_ite ?_ rfl
  refine congrArg (Option.bind _) (funext fun h1 => ?_)
  refine (ss_aload_n rfl rfl).trans ?_
  refine (ss_sipush rfl (v := 1071) rfl).trans ?_
  refine (ss_iload_n rfl rfl).trans ?_
  refine (ss_iload rfl rfl).trans ?_
  refine (ss_callVN (as := [.int 1071, .int v1, .int s0]) rfl t_Md_beatsMore (by decide) rfl rfl (by decide) rfl ⟨Nat.le_of_ble_eq_true rfl, Nat.le_of_ble_eq_true rfl⟩).trans ?_
  refine pv_ite ?_ rfl
  refine congrArg (Option.bind _) (funext fun h2 => ?_)
  refine (ss_aload_n rfl rfl).trans ?_
  refine (ss_bipush rfl (v := 24) rfl).trans ?_
  refine (ss_callVN (as := [.int 24]) rfl t_Md_runs (by decide) rfl rfl (by decide) rfl ⟨Nat.le_of_ble_eq_true rfl, Nat.le_of_ble_eq_true rfl⟩).trans ?_
  refine pv_ite ?_ rfl
  refine congrArg (Option.bind _) (funext fun h3 => ?_)
  refine (ss_aload_n rfl rfl).trans ?_
  refine (ss_sipush rfl (v := 1071) rfl).trans ?_
  refine (ss_iload_n rfl rfl).trans ?_
  refine (ss_callVI (as := [.int 1071, .int v1]) rfl t_Md_outOf (by decide) rfl rfl (by decide) (Or.inl rfl) ⟨Nat.le_of_ble_eq_true rfl, Nat.le_of_ble_eq_true rfl⟩).trans ?_
  refine pv_ite ?_ rfl
  refine congrArg (Option.bind _) (funext fun q4 => ?_)
  refine (ss_callSI (as := [.int q4.1]) rfl t_Md_unsigned (by decide) rfl rfl (by decide) (Or.inl rfl) ⟨Nat.le_of_ble_eq_true rfl, Nat.le_of_ble_eq_true rfl⟩).trans ?_
  refine congrArg (Option.bind _) (funext fun q5 => ?_)
  refine (ss_istore rfl rfl).trans ?_
  refine (ss_iload rfl rfl).trans ?_
  refine (ss_iload_n rfl rfl).trans ?_
  refine (ss_icmp_ge rfl).trans ?_
  refine pv_ite ?_ ?_
  · refine (ss_iload_n rfl rfl).trans ?_
    rfl
  · refine (ss_iload rfl rfl).trans ?_
    refine (ss_goto rfl).trans ?_
    rfl
set_option maxRecDepth 8000 in
theorem u_Md_cure_106 (X : pv_X) (v0 : Nat) (v1 : Int32) (v2 : Int32) (v3 : Int32) (v4 : Int32) (v5 : Int32) (v6 : Int32) (s0 : Int32) (h : pv_H) : f_Md_cure_106 X v0 v1 v2 v3 v4 v5 v6 s0 h =
    if v3 ≤ v6 then f_Md_cure_119 X v0 v1 s0 v3 v4 v5 v6 v3 h else f_Md_cure_119 X v0 v1 s0 v3 v4 v5 v6 v6 h := by
  show pS X 6 (some .int) k_Md_cure 106 [some (.ref v0), some (.int v1), some (.int v2), some (.int v3), some (.int v4), some (.int v5), some (.int v6)] [.int s0] h = _
  refine (ss_istore_n rfl rfl).trans ?_
  refine (ss_iload rfl rfl).trans ?_
  refine (ss_iload_n rfl rfl).trans ?_
  refine (ss_icmp_ge rfl).trans ?_
  refine pv_ite ?_ ?_
  · refine (ss_iload_n rfl rfl).trans ?_
    rfl
  · refine (ss_iload rfl rfl).trans ?_
    refine (ss_goto rfl).trans ?_
    rfl
set_option maxRecDepth 8000 in
theorem u_Md_cure_119 (X : pv_X) (v0 : Nat) (v1 : Int32) (v2 : Int32) (v3 : Int32) (v4 : Int32) (v5 : Int32) (v6 : Int32) (s0 : Int32) (h : pv_H) : f_Md_cure_119 X v0 v1 v2 v3 v4 v5 v6 s0 h =
    f_Md_cure_33 X v0 v1 v2 s0 (v4 + 1) (some (.int v5)) (some (.int v6)) h := by
  show pS X 6 (some .int) k_Md_cure 119 [some (.ref v0), some (.int v1), some (.int v2), some (.int v3), some (.int v4), some (.int v5), some (.int v6)] [.int s0] h = _
  refine (ss_istore_n rfl rfl).trans ?_
  refine (ss_iinc3 rfl rfl (v := v4 + 1) (congrArg (HAdd.hAdd _) (show Int32.ofInt (1) = 1 by decide)) rfl).trans ?_
  refine (ss_goto rfl).trans ?_
  rfl
theorem e_Md_cure (X : pv_X) (v0 : Nat) (v1 : Int32) (h : pv_H) : pM X m_Md_cure [.ref v0, .int v1] h = f_Md_cure_0 X v0 v1 h := rfl
noncomputable def f_Md_see_0 (X : pv_X) (v0 : Nat) (v1 : Int32) (v2 : Int32) (v3 : Int32) (h : pv_H) : Option pv_O := pS X 3 (some .boolean) k_Md_see 0 [some (.ref v0), some (.int v1), some (.int v2), some (.int v3), none] [] h
noncomputable def f_Md_see_48 (X : pv_X) (v0 : Nat) (v1 : Int32) (v2 : Int32) (v3 : Int32) (h : pv_H) : Option pv_O := pS X 3 (some .boolean) k_Md_see 48 [some (.ref v0), some (.int v1), some (.int v2), some (.int v3), none] [] h
set_option maxRecDepth 8000 in
theorem u_Md_see_0 (X : pv_X) (v0 : Nat) (v1 : Int32) (v2 : Int32) (v3 : Int32) (h : pv_H) : f_Md_see_0 X v0 v1 v2 v3 h =
    (pv_fp h v0 11 0 (.int 0)).bind (fun h1 => if pv_rc h1 v0 11 = true then (pv_tI (pM X m_Md_isPerson [.ref v0, .int v1] h1)).bind (fun q2 => if q2.1 = 0 then f_Md_see_48 X v0 v1 v2 v3 q2.2 else (pv_tI (pM X m_Md_within [.int v2, .int 0, .int 24] q2.2)).bind (fun q3 => if q3.1 = 0 then f_Md_see_48 X v0 v1 v2 v3 q3.2 else (pv_tI (pM X m_Md_within [.int v3, .int (-360), .int 359] q3.2)).bind (fun q4 => if q4.1 = 0 then f_Md_see_48 X v0 v1 v2 v3 q4.2 else (pv_fR q4.2 v0 11 21).bind (fun x5 => (pv_aX X q4.2 x5 19).bind (fun x6 => if ¬ x6 = 6 then (pv_fR q4.2 v0 11 21).bind (fun x7 => (pv_aX X q4.2 x7 19).bind (fun x8 => (pv_fR q4.2 v0 11 21).bind (fun x9 => (pv_sI q4.2 x9 (20 + (3 * x8)) v1).bind (fun h10 => (pv_fR h10 v0 11 21).bind (fun x11 => (pv_sI h10 x11 ((20 + (3 * x8)) + 1) v2).bind (fun h12 => (pv_fR h12 v0 11 21).bind (fun x13 => (pv_sI h12 x13 ((20 + (3 * x8)) + 2) v3).bind (fun h14 => (pv_fR h14 v0 11 21).bind (fun x15 => (pv_aX X h14 x15 19).bind (fun x16 => (pv_sI h14 x15 19 (x16 + 1)).bind (fun h17 => some (some (.int 1), h17)))))))))))) else f_Md_see_48 X v0 v1 v2 v3 q4.2))))) else none) := by
  show pS X 3 (some .boolean) k_Md_see 0 [some (.ref v0), some (.int v1), some (.int v2), some (.int v3), none] [] h = _
  refine (ss_aload_n rfl rfl).trans ?_
  refine (ss_iconst rfl (v := 0) rfl).trans ?_
  refine (ss_putI rfl).trans ?_
  refine congrArg (Option.bind _) (funext fun h1 => ?_)
  refine (ss_aload_n rfl rfl).trans ?_
  refine (ss_iload_n rfl rfl).trans ?_
  refine (ss_callVI (as := [.int v1]) rfl t_Md_isPerson (by decide) rfl rfl (by decide) (Or.inr rfl) ⟨Nat.le_of_ble_eq_true rfl, Nat.le_of_ble_eq_true rfl⟩).trans ?_
  refine pv_ite ?_ rfl
  refine congrArg (Option.bind _) (funext fun q2 => ?_)
  refine (ss_if_eq rfl).trans ?_
  refine pv_ite ?_ ?_
  · rfl
  · refine (ss_iload_n rfl rfl).trans ?_
    refine (ss_iconst rfl (v := 0) rfl).trans ?_
    refine (ss_bipush rfl (v := 24) rfl).trans ?_
    refine (ss_callSI (as := [.int v2, .int 0, .int 24]) rfl t_Md_within (by decide) rfl rfl (by decide) (Or.inr rfl) ⟨Nat.le_of_ble_eq_true rfl, Nat.le_of_ble_eq_true rfl⟩).trans ?_
    refine congrArg (Option.bind _) (funext fun q3 => ?_)
    refine (ss_if_eq rfl).trans ?_
    refine pv_ite ?_ ?_
    · rfl
    · refine (ss_iload_n rfl rfl).trans ?_
      refine (ss_sipush rfl (v := (-360)) rfl).trans ?_
      refine (ss_sipush rfl (v := 359) rfl).trans ?_
      refine (ss_callSI (as := [.int v3, .int (-360), .int 359]) rfl t_Md_within (by decide) rfl rfl (by decide) (Or.inr rfl) ⟨Nat.le_of_ble_eq_true rfl, Nat.le_of_ble_eq_true rfl⟩).trans ?_
      refine congrArg (Option.bind _) (funext fun q4 => ?_)
      refine (ss_if_eq rfl).trans ?_
      refine pv_ite ?_ ?_
      · rfl
      · refine (ss_aload_n rfl rfl).trans ?_
        refine (ss_getR rfl).trans ?_
        refine congrArg (Option.bind _) (funext fun x5 => ?_)
        refine (ss_bipush rfl (v := 19) rfl).trans ?_
        refine (ss_iaload rfl).trans ?_
        refine congrArg (Option.bind _) (funext fun x6 => ?_)
        refine (ss_bipush rfl (v := 6) rfl).trans ?_
        refine (ss_icmp_ne rfl).trans ?_
        refine pv_ite ?_ ?_
        · refine (ss_bipush rfl (v := 20) rfl).trans ?_
          refine (ss_iconst rfl (v := 3) rfl).trans ?_
          refine (ss_aload_n rfl rfl).trans ?_
          refine (ss_getR rfl).trans ?_
          refine congrArg (Option.bind _) (funext fun x7 => ?_)
          refine (ss_bipush rfl (v := 19) rfl).trans ?_
          refine (ss_iaload rfl).trans ?_
          refine congrArg (Option.bind _) (funext fun x8 => ?_)
          refine (ss_imul rfl).trans ?_
          refine (ss_iadd rfl).trans ?_
          refine (ss_istore rfl rfl).trans ?_
          refine (ss_aload_n rfl rfl).trans ?_
          refine (ss_getR rfl).trans ?_
          refine congrArg (Option.bind _) (funext fun x9 => ?_)
          refine (ss_iload rfl rfl).trans ?_
          refine (ss_iload_n rfl rfl).trans ?_
          refine (ss_iastore rfl).trans ?_
          refine congrArg (Option.bind _) (funext fun h10 => ?_)
          refine (ss_aload_n rfl rfl).trans ?_
          refine (ss_getR rfl).trans ?_
          refine congrArg (Option.bind _) (funext fun x11 => ?_)
          refine (ss_iload rfl rfl).trans ?_
          refine (ss_iconst rfl (v := 1) rfl).trans ?_
          refine (ss_iadd rfl).trans ?_
          refine (ss_iload_n rfl rfl).trans ?_
          refine (ss_iastore rfl).trans ?_
          refine congrArg (Option.bind _) (funext fun h12 => ?_)
          refine (ss_aload_n rfl rfl).trans ?_
          refine (ss_getR rfl).trans ?_
          refine congrArg (Option.bind _) (funext fun x13 => ?_)
          refine (ss_iload rfl rfl).trans ?_
          refine (ss_iconst rfl (v := 2) rfl).trans ?_
          refine (ss_iadd rfl).trans ?_
          refine (ss_iload_n rfl rfl).trans ?_
          refine (ss_iastore rfl).trans ?_
          refine congrArg (Option.bind _) (funext fun h14 => ?_)
          refine (ss_aload_n rfl rfl).trans ?_
          refine (ss_getR rfl).trans ?_
          refine congrArg (Option.bind _) (funext fun x15 => ?_)
          refine (ss_bipush rfl (v := 19) rfl).trans ?_
          refine (ss_dup2R rfl).trans ?_
          refine (ss_iaload rfl).trans ?_
          refine congrArg (Option.bind _) (funext fun x16 => ?_)
          refine (ss_iconst rfl (v := 1) rfl).trans ?_
          refine (ss_iadd rfl).trans ?_
          refine (ss_iastore rfl).trans ?_
          refine congrArg (Option.bind _) (funext fun h17 => ?_)
          refine (ss_iconst rfl (v := 1) rfl).trans ?_
          exact (ss_zreturn rfl).trans (if_pos (by decide))
        · rfl
set_option maxRecDepth 8000 in
theorem u_Md_see_48 (X : pv_X) (v0 : Nat) (v1 : Int32) (v2 : Int32) (v3 : Int32) (h : pv_H) : f_Md_see_48 X v0 v1 v2 v3 h =
    some (some (.int 0), h) := by
  show pS X 3 (some .boolean) k_Md_see 48 [some (.ref v0), some (.int v1), some (.int v2), some (.int v3), none] [] h = _
  refine (ss_iconst rfl (v := 0) rfl).trans ?_
  exact (ss_zreturn rfl).trans (if_pos (by decide))
theorem e_Md_see (X : pv_X) (v0 : Nat) (v1 : Int32) (v2 : Int32) (v3 : Int32) (h : pv_H) : pM X m_Md_see [.ref v0, .int v1, .int v2, .int v3] h = f_Md_see_0 X v0 v1 v2 v3 h := rfl
noncomputable def f_Md_askedFor_0 (X : pv_X) (v0 : Nat) (v1 : Int32) (v2 : Int32) (v3 : Int32) (h : pv_H) : Option pv_O := pS X 5 (none) k_Md_askedFor 0 [some (.ref v0), some (.int v1), some (.int v2), some (.int v3)] [] h
set_option maxRecDepth 8000 in
theorem u_Md_askedFor_0 (X : pv_X) (v0 : Nat) (v1 : Int32) (v2 : Int32) (v3 : Int32) (h : pv_H) : f_Md_askedFor_0 X v0 v1 v2 v3 h =
    if pv_rc h v0 11 = true then (pv_tV (pM X m_Md_triesNow [.ref v0] h)).bind (fun h1 => if pv_rc h1 v0 11 = true then (pv_tV (pM X m_Md_asks [.ref v0, .int 1071, .int v1, .int v2] h1)).bind (fun h2 => if pv_rc h2 v0 11 = true then (pv_tV (pM X m_Md_runs [.ref v0, .int v3] h2)).bind (fun h3 => some (none, h3)) else none) else none) else none := by
  show pS X 5 (none) k_Md_askedFor 0 [some (.ref v0), some (.int v1), some (.int v2), some (.int v3)] [] h = _
  refine (ss_aload_n rfl rfl).trans ?_
  refine (ss_callVN (as := []) rfl t_Md_triesNow (by decide) rfl rfl (by decide) rfl ⟨Nat.le_of_ble_eq_true rfl, Nat.le_of_ble_eq_true rfl⟩).trans ?_
  refine pv_ite ?_ rfl
  refine congrArg (Option.bind _) (funext fun h1 => ?_)
  refine (ss_aload_n rfl rfl).trans ?_
  refine (ss_sipush rfl (v := 1071) rfl).trans ?_
  refine (ss_iload_n rfl rfl).trans ?_
  refine (ss_iload_n rfl rfl).trans ?_
  refine (ss_callVN (as := [.int 1071, .int v1, .int v2]) rfl t_Md_asks (by decide) rfl rfl (by decide) rfl ⟨Nat.le_of_ble_eq_true rfl, Nat.le_of_ble_eq_true rfl⟩).trans ?_
  refine pv_ite ?_ rfl
  refine congrArg (Option.bind _) (funext fun h2 => ?_)
  refine (ss_aload_n rfl rfl).trans ?_
  refine (ss_iload_n rfl rfl).trans ?_
  refine (ss_callVN (as := [.int v3]) rfl t_Md_runs (by decide) rfl rfl (by decide) rfl ⟨Nat.le_of_ble_eq_true rfl, Nat.le_of_ble_eq_true rfl⟩).trans ?_
  refine pv_ite ?_ rfl
  refine congrArg (Option.bind _) (funext fun h3 => ?_)
  exact ss_return rfl
theorem e_Md_askedFor (X : pv_X) (v0 : Nat) (v1 : Int32) (v2 : Int32) (v3 : Int32) (h : pv_H) : pM X m_Md_askedFor [.ref v0, .int v1, .int v2, .int v3] h = f_Md_askedFor_0 X v0 v1 v2 v3 h := rfl
noncomputable def f_Md_isSeen_0 (X : pv_X) (v0 : Nat) (v1 : Int32) (v2 : Int32) (h : pv_H) : Option pv_O := pS X 6 (some .boolean) k_Md_isSeen 0 [some (.ref v0), some (.int v1), some (.int v2), none, none, none] [] h
noncomputable def f_Md_isSeen_25 (X : pv_X) (v0 : Nat) (v1 : Int32) (v2 : Int32) (h : pv_H) : Option pv_O := pS X 6 (some .boolean) k_Md_isSeen 25 [some (.ref v0), some (.int v1), some (.int v2), none, none, none] [] h
noncomputable def f_Md_isSeen_26 (X : pv_X) (v0 : Nat) (v1 : Int32) (v2 : Int32) (s0 : Int32) (h : pv_H) : Option pv_O := pS X 6 (some .boolean) k_Md_isSeen 26 [some (.ref v0), some (.int v1), some (.int v2), none, none, none] [.int s0] h
noncomputable def f_Md_isSeen_30 (X : pv_X) (v0 : Nat) (v1 : Int32) (v2 : Int32) (v3 : Int32) (v4 : Int32) (o5 : Option Value) (h : pv_H) : Option pv_O := pS X 6 (some .boolean) k_Md_isSeen 30 [some (.ref v0), some (.int v1), some (.int v2), some (.int v3), some (.int v4), o5] [] h
noncomputable def f_Md_isSeen_101 (X : pv_X) (v0 : Nat) (v1 : Int32) (v2 : Int32) (v3 : Int32) (v4 : Int32) (v5 : Int32) (s0 : Int32) (h : pv_H) : Option pv_O := pS X 6 (some .boolean) k_Md_isSeen 101 [some (.ref v0), some (.int v1), some (.int v2), some (.int v3), some (.int v4), some (.int v5)] [.int s0] h
noncomputable def f_Md_isSeen_108 (X : pv_X) (v0 : Nat) (v1 : Int32) (v2 : Int32) (v3 : Int32) (v4 : Int32) (o5 : Option Value) (h : pv_H) : Option pv_O := pS X 6 (some .boolean) k_Md_isSeen 108 [some (.ref v0), some (.int v1), some (.int v2), some (.int v3), some (.int v4), o5] [] h
set_option maxRecDepth 8000 in
theorem u_Md_isSeen_0 (X : pv_X) (v0 : Nat) (v1 : Int32) (v2 : Int32) (h : pv_H) : f_Md_isSeen_0 X v0 v1 v2 h =
    if v1 = v2 then f_Md_isSeen_25 X v0 v1 v2 h else if pv_rc h v0 11 = true then (pv_tI (pM X m_Md_isPerson [.ref v0, .int v1] h)).bind (fun q1 => if q1.1 = 0 then f_Md_isSeen_25 X v0 v1 v2 q1.2 else if pv_rc q1.2 v0 11 = true then (pv_tI (pM X m_Md_isPerson [.ref v0, .int v2] q1.2)).bind (fun q2 => if q2.1 = 0 then f_Md_isSeen_25 X v0 v1 v2 q2.2 else f_Md_isSeen_26 X v0 v1 v2 1 q2.2) else none) else none := by
  show pS X 6 (some .boolean) k_Md_isSeen 0 [some (.ref v0), some (.int v1), some (.int v2), none, none, none] [] h = _
  refine (ss_iload_n rfl rfl).trans ?_
  refine (ss_iload_n rfl rfl).trans ?_
  refine (ss_icmp_eq rfl).trans ?_
  refine pv_ite ?_ ?_
  · rfl
  · refine (ss_aload_n rfl rfl).trans ?_
    refine (ss_iload_n rfl rfl).trans ?_
    refine (ss_callVI (as := [.int v1]) rfl t_Md_isPerson (by decide) rfl rfl (by decide) (Or.inr rfl) ⟨Nat.le_of_ble_eq_true rfl, Nat.le_of_ble_eq_true rfl⟩).trans ?_
    refine pv_ite ?_ rfl
    refine congrArg (Option.bind _) (funext fun q1 => ?_)
    refine (ss_if_eq rfl).trans ?_
    refine pv_ite ?_ ?_
    · rfl
    · refine (ss_aload_n rfl rfl).trans ?_
      refine (ss_iload_n rfl rfl).trans ?_
      refine (ss_callVI (as := [.int v2]) rfl t_Md_isPerson (by decide) rfl rfl (by decide) (Or.inr rfl) ⟨Nat.le_of_ble_eq_true rfl, Nat.le_of_ble_eq_true rfl⟩).trans ?_
      refine pv_ite ?_ rfl
      refine congrArg (Option.bind _) (funext fun q2 => ?_)
      refine (ss_if_eq rfl).trans ?_
      refine pv_ite ?_ ?_
      · rfl
      · refine (ss_iconst rfl (v := 1) rfl).trans ?_
        refine (ss_goto rfl).trans ?_
        rfl
set_option maxRecDepth 8000 in
theorem u_Md_isSeen_25 (X : pv_X) (v0 : Nat) (v1 : Int32) (v2 : Int32) (h : pv_H) : f_Md_isSeen_25 X v0 v1 v2 h =
    f_Md_isSeen_26 X v0 v1 v2 0 h := by
  show pS X 6 (some .boolean) k_Md_isSeen 25 [some (.ref v0), some (.int v1), some (.int v2), none, none, none] [] h = _
  refine (ss_iconst rfl (v := 0) rfl).trans ?_
  rfl
set_option maxRecDepth 8000 in
theorem u_Md_isSeen_26 (X : pv_X) (v0 : Nat) (v1 : Int32) (v2 : Int32) (s0 : Int32) (h : pv_H) : f_Md_isSeen_26 X v0 v1 v2 s0 h =
    f_Md_isSeen_30 X v0 v1 v2 s0 0 none h := by
  show pS X 6 (some .boolean) k_Md_isSeen 26 [some (.ref v0), some (.int v1), some (.int v2), none, none, none] [.int s0] h = _
  refine (ss_istore_n rfl rfl).trans ?_
  refine (ss_iconst rfl (v := 0) rfl).trans ?_
  refine (ss_istore rfl rfl).trans ?_
  rfl
set_option maxRecDepth 8000 in
theorem u_Md_isSeen_30 (X : pv_X) (v0 : Nat) (v1 : Int32) (v2 : Int32) (v3 : Int32) (v4 : Int32) (o5 : Option Value) (h : pv_H) : f_Md_isSeen_30 X v0 v1 v2 v3 v4 o5 h =
    (pv_fR h v0 11 21).bind (fun x1 => (pv_aX X h x1 19).bind (fun x2 => if x2 ≤ v4 then f_Md_isSeen_108 X v0 v1 v2 v3 v4 o5 h else if v3 = 0 then f_Md_isSeen_108 X v0 v1 v2 v3 v4 o5 h else (pv_fR h v0 11 21).bind (fun x3 => (pv_aX X h x3 ((20 + (3 * v4)) + 1)).bind (fun x4 => if pv_rc h v0 11 = true then (pv_tV (pM X m_Md_askedFor [.ref v0, .int v1, .int v2, .int x4] h)).bind (fun h5 => (pv_fR h5 v0 11 21).bind (fun x6 => (pv_aX X h5 x6 (20 + (3 * v4))).bind (fun x7 => if pv_rc h5 v0 11 = true then (pv_tI (pM X m_Md_outOf [.ref v0, .int 1071, .int x7] h5)).bind (fun q8 => (pv_fR q8.2 v0 11 21).bind (fun x9 => (pv_aX X q8.2 x9 ((20 + (3 * v4)) + 2)).bind (fun x10 => if ¬ q8.1 = x10 then f_Md_isSeen_101 X v0 v1 v2 v3 v4 (20 + (3 * v4)) 0 q8.2 else f_Md_isSeen_101 X v0 v1 v2 v3 v4 (20 + (3 * v4)) 1 q8.2))) else none))) else none)))) := by
  show pS X 6 (some .boolean) k_Md_isSeen 30 [some (.ref v0), some (.int v1), some (.int v2), some (.int v3), some (.int v4), o5] [] h = _
  refine (ss_iload rfl rfl).trans ?_
  refine (ss_aload_n rfl rfl).trans ?_
  refine (ss_getR rfl).trans ?_
  refine congrArg (Option.bind _) (funext fun x1 => ?_)
  refine (ss_bipush rfl (v := 19) rfl).trans ?_
  refine (ss_iaload rfl).trans ?_
  refine congrArg (Option.bind _) (funext fun x2 => ?_)
  refine (ss_icmp_ge rfl).trans ?_
  refine pv_ite ?_ ?_
  · rfl
  · refine (ss_iload_n rfl rfl).trans ?_
    refine (ss_if_eq rfl).trans ?_
    refine pv_ite ?_ ?_
    · rfl
    · refine (ss_bipush rfl (v := 20) rfl).trans ?_
      refine (ss_iconst rfl (v := 3) rfl).trans ?_
      refine (ss_iload rfl rfl).trans ?_
      refine (ss_imul rfl).trans ?_
      refine (ss_iadd rfl).trans ?_
      refine (ss_istore rfl rfl).trans ?_
      refine (ss_aload_n rfl rfl).trans ?_
      refine (ss_iload_n rfl rfl).trans ?_
      refine (ss_iload_n rfl rfl).trans ?_
      refine (ss_aload_n rfl rfl).trans ?_
      refine (ss_getR rfl).trans ?_
      refine congrArg (Option.bind _) (funext fun x3 => ?_)
      refine (ss_iload rfl rfl).trans ?_
      refine (ss_iconst rfl (v := 1) rfl).trans ?_
      refine (ss_iadd rfl).trans ?_
      refine (ss_iaload rfl).trans ?_
      refine congrArg (Option.bind _) (funext fun x4 => ?_)
      refine (ss_callVN (as := [.int v1, .int v2, .int x4]) rfl t_Md_askedFor (by decide) rfl rfl (by decide) rfl ⟨Nat.le_of_ble_eq_true rfl, Nat.le_of_ble_eq_true rfl⟩).trans ?_
      refine pv_ite ?_ rfl
      refine congrArg (Option.bind _) (funext fun h5 => ?_)
      refine (ss_aload_n rfl rfl).trans ?_
      refine (ss_sipush rfl (v := 1071) rfl).trans ?_
      refine (ss_aload_n rfl rfl).trans ?_
      refine (ss_getR rfl).trans ?_
      refine congrArg (Option.bind _) (funext fun x6 => ?_)
      refine (ss_iload rfl rfl).trans ?_
      refine (ss_iaload rfl).trans ?_
      refine congrArg (Option.bind _) (funext fun x7 => ?_)
      refine (ss_callVI (as := [.int 1071, .int x7]) rfl t_Md_outOf (by decide) rfl rfl (by decide) (Or.inl rfl) ⟨Nat.le_of_ble_eq_true rfl, Nat.le_of_ble_eq_true rfl⟩).trans ?_
      refine pv_ite ?_ rfl
      refine congrArg (Option.bind _) (funext fun q8 => ?_)
      refine (ss_aload_n rfl rfl).trans ?_
      refine (ss_getR rfl).trans ?_
      refine congrArg (Option.bind _) (funext fun x9 => ?_)
      refine (ss_iload rfl rfl).trans ?_
      refine (ss_iconst rfl (v := 2) rfl).trans ?_
      refine (ss_iadd rfl).trans ?_
      refine (ss_iaload rfl).trans ?_
      refine congrArg (Option.bind _) (funext fun x10 => ?_)
      refine (ss_icmp_ne rfl).trans ?_
      refine pv_ite ?_ ?_
      · refine (ss_iconst rfl (v := 0) rfl).trans ?_
        rfl
      · refine (ss_iconst rfl (v := 1) rfl).trans ?_
        refine (ss_goto rfl).trans ?_
        rfl
set_option maxRecDepth 8000 in
theorem u_Md_isSeen_101 (X : pv_X) (v0 : Nat) (v1 : Int32) (v2 : Int32) (v3 : Int32) (v4 : Int32) (v5 : Int32) (s0 : Int32) (h : pv_H) : f_Md_isSeen_101 X v0 v1 v2 v3 v4 v5 s0 h =
    f_Md_isSeen_30 X v0 v1 v2 s0 (v4 + 1) (some (.int v5)) h := by
  show pS X 6 (some .boolean) k_Md_isSeen 101 [some (.ref v0), some (.int v1), some (.int v2), some (.int v3), some (.int v4), some (.int v5)] [.int s0] h = _
  refine (ss_istore_n rfl rfl).trans ?_
  refine (ss_iinc3 rfl rfl (v := v4 + 1) (congrArg (HAdd.hAdd _) (show Int32.ofInt (1) = 1 by decide)) rfl).trans ?_
  refine (ss_goto rfl).trans ?_
  rfl
set_option maxRecDepth 8000 in
theorem u_Md_isSeen_108 (X : pv_X) (v0 : Nat) (v1 : Int32) (v2 : Int32) (v3 : Int32) (v4 : Int32) (o5 : Option Value) (h : pv_H) : f_Md_isSeen_108 X v0 v1 v2 v3 v4 o5 h =
    if v3 = 0 ∨ v3 = 1 then some (some (.int v3), h) else none := by
  show pS X 6 (some .boolean) k_Md_isSeen 108 [some (.ref v0), some (.int v1), some (.int v2), some (.int v3), some (.int v4), o5] [] h = _
  refine (ss_iload_n rfl rfl).trans ?_
  exact ss_zreturn rfl
theorem e_Md_isSeen (X : pv_X) (v0 : Nat) (v1 : Int32) (v2 : Int32) (h : pv_H) : pM X m_Md_isSeen [.ref v0, .int v1, .int v2] h = f_Md_isSeen_0 X v0 v1 v2 h := rfl
noncomputable def f_Md_pairs_0 (X : pv_X) (v0 : Nat) (v1 : Int32) (h : pv_H) : Option pv_O := pS X 7 (some .int) k_Md_pairs 0 [some (.ref v0), some (.int v1), none, none, none, none] [] h
noncomputable def f_Md_pairs_26 (X : pv_X) (v0 : Nat) (v1 : Int32) (v2 : Int32) (v3 : Int32) (v4 : Int32) (v5 : Int32) (h : pv_H) : Option pv_O := pS X 7 (some .int) k_Md_pairs 26 [some (.ref v0), some (.int v1), some (.int v2), some (.int v3), some (.int v4), some (.int v5)] [] h
noncomputable def f_Md_pairs_75 (X : pv_X) (v0 : Nat) (v1 : Int32) (v2 : Int32) (v3 : Int32) (v4 : Int32) (v5 : Int32) (h : pv_H) : Option pv_O := pS X 7 (some .int) k_Md_pairs 75 [some (.ref v0), some (.int v1), some (.int v2), some (.int v3), some (.int v4), some (.int v5)] [] h
noncomputable def f_Md_pairs_100 (X : pv_X) (v0 : Nat) (v1 : Int32) (v2 : Int32) (v3 : Int32) (v4 : Int32) (v5 : Int32) (s0 : Int32) (h : pv_H) : Option pv_O := pS X 7 (some .int) k_Md_pairs 100 [some (.ref v0), some (.int v1), some (.int v2), some (.int v3), some (.int v4), some (.int v5)] [.int s0] h
set_option maxRecDepth 8000 in
theorem u_Md_pairs_0 (X : pv_X) (v0 : Nat) (v1 : Int32) (h : pv_H) : f_Md_pairs_0 X v0 v1 h =
    (pv_fp h v0 11 0 (.int 0)).bind (fun h1 => (pv_tI (pM X m_Md_within [.int v1, .int 0, .int 2] h1)).bind (fun q2 => if ¬ q2.1 = 0 then f_Md_pairs_26 X v0 v1 0 0 0 0 q2.2 else some (some (.int (-1)), q2.2))) := by
  show pS X 7 (some .int) k_Md_pairs 0 [some (.ref v0), some (.int v1), none, none, none, none] [] h = _
  refine (ss_aload_n rfl rfl).trans ?_
  refine (ss_iconst rfl (v := 0) rfl).trans ?_
  refine (ss_putI rfl).trans ?_
  refine congrArg (Option.bind _) (funext fun h1 => ?_)
  refine (ss_iload_n rfl rfl).trans ?_
  refine (ss_iconst rfl (v := 0) rfl).trans ?_
  refine (ss_iconst rfl (v := 2) rfl).trans ?_
  refine (ss_callSI (as := [.int v1, .int 0, .int 2]) rfl t_Md_within (by decide) rfl rfl (by decide) (Or.inr rfl) ⟨Nat.le_of_ble_eq_true rfl, Nat.le_of_ble_eq_true rfl⟩).trans ?_
  refine congrArg (Option.bind _) (funext fun q2 => ?_)
  refine (ss_if_ne rfl).trans ?_
  refine pv_ite ?_ ?_
  · refine (ss_iconst rfl (v := 0) rfl).trans ?_
    refine (ss_istore_n rfl rfl).trans ?_
    refine (ss_iconst rfl (v := 0) rfl).trans ?_
    refine (ss_istore_n rfl rfl).trans ?_
    refine (ss_iconst rfl (v := 0) rfl).trans ?_
    refine (ss_istore rfl rfl).trans ?_
    refine (ss_iconst rfl (v := 0) rfl).trans ?_
    refine (ss_istore rfl rfl).trans ?_
    rfl
  · refine (ss_iconst rfl (v := (-1)) rfl).trans ?_
    exact ss_ireturn rfl
set_option maxRecDepth 8000 in
theorem u_Md_pairs_26 (X : pv_X) (v0 : Nat) (v1 : Int32) (v2 : Int32) (v3 : Int32) (v4 : Int32) (v5 : Int32) (h : pv_H) : f_Md_pairs_26 X v0 v1 v2 v3 v4 v5 h =
    if 36 ≤ v5 then if ¬ v1 = 0 then if ¬ v1 = 1 then f_Md_pairs_100 X v0 v1 v2 v3 v4 v5 v4 h else f_Md_pairs_100 X v0 v1 v2 v3 v4 v5 v3 h else f_Md_pairs_100 X v0 v1 v2 v3 v4 v5 v2 h else if pv_rc h v0 11 = true then (pv_tI (pM X m_Md_isSeen [.ref v0, .int (v5 / 6), .int (v5 - v5 / 6 * 6)] h)).bind (fun q1 => if q1.1 = 0 then f_Md_pairs_75 X v0 v1 v2 v3 v4 v5 q1.2 else f_Md_pairs_75 X v0 v1 (v2 + 1) (v3 ||| ((1 : Int32) <<< ((v5 / 6) &&& 31))) (v4 ||| ((1 : Int32) <<< ((v5 - v5 / 6 * 6) &&& 31))) v5 q1.2) else none := by
  show pS X 7 (some .int) k_Md_pairs 26 [some (.ref v0), some (.int v1), some (.int v2), some (.int v3), some (.int v4), some (.int v5)] [] h = _
  refine (ss_iload rfl rfl).trans ?_
  refine (ss_bipush rfl (v := 36) rfl).trans ?_
  refine (ss_icmp_ge rfl).trans ?_
  refine pv_ite ?_ ?_
  · refine (ss_iload_n rfl rfl).trans ?_
    refine (ss_if_ne rfl).trans ?_
    refine pv_ite ?_ ?_
    · refine (ss_iload_n rfl rfl).trans ?_
      refine (ss_iconst rfl (v := 1) rfl).trans ?_
      refine (ss_icmp_ne rfl).trans ?_
      refine pv_ite ?_ ?_
      · refine (ss_iload rfl rfl).trans ?_
        rfl
      · refine (ss_iload_n rfl rfl).trans ?_
        refine (ss_goto rfl).trans ?_
        rfl
    · refine (ss_iload_n rfl rfl).trans ?_
      refine (ss_goto rfl).trans ?_
      rfl
  · refine (ss_aload_n rfl rfl).trans ?_
    refine (ss_iload rfl rfl).trans ?_
    refine (ss_bipush rfl (v := 6) rfl).trans ?_
    refine (ss_idiv rfl (by decide)).trans ?_
    refine (ss_iload rfl rfl).trans ?_
    refine (ss_bipush rfl (v := 6) rfl).trans ?_
    refine (ss_irem rfl (by decide)).trans ?_
    refine (ss_callVI (as := [.int (v5 / 6), .int (v5 - v5 / 6 * 6)]) rfl t_Md_isSeen (by decide) rfl rfl (by decide) (Or.inr rfl) ⟨Nat.le_of_ble_eq_true rfl, Nat.le_of_ble_eq_true rfl⟩).trans ?_
    refine pv_ite ?_ rfl
    refine congrArg (Option.bind _) (funext fun q1 => ?_)
    refine (ss_if_eq rfl).trans ?_
    refine pv_ite ?_ ?_
    · rfl
    · refine (ss_iinc3 rfl rfl (v := v2 + 1) (congrArg (HAdd.hAdd _) (show Int32.ofInt (1) = 1 by decide)) rfl).trans ?_
      refine (ss_iload_n rfl rfl).trans ?_
      refine (ss_iconst rfl (v := 1) rfl).trans ?_
      refine (ss_iload rfl rfl).trans ?_
      refine (ss_bipush rfl (v := 6) rfl).trans ?_
      refine (ss_idiv rfl (by decide)).trans ?_
      refine (ss_ishl rfl).trans ?_
      refine (ss_ior rfl).trans ?_
      refine (ss_istore_n rfl rfl).trans ?_
      refine (ss_iload rfl rfl).trans ?_
      refine (ss_iconst rfl (v := 1) rfl).trans ?_
      refine (ss_iload rfl rfl).trans ?_
      refine (ss_bipush rfl (v := 6) rfl).trans ?_
      refine (ss_irem rfl (by decide)).trans ?_
      refine (ss_ishl rfl).trans ?_
      refine (ss_ior rfl).trans ?_
      refine (ss_istore rfl rfl).trans ?_
      rfl
set_option maxRecDepth 8000 in
theorem u_Md_pairs_75 (X : pv_X) (v0 : Nat) (v1 : Int32) (v2 : Int32) (v3 : Int32) (v4 : Int32) (v5 : Int32) (h : pv_H) : f_Md_pairs_75 X v0 v1 v2 v3 v4 v5 h =
    f_Md_pairs_26 X v0 v1 v2 v3 v4 (v5 + 1) h := by
  show pS X 7 (some .int) k_Md_pairs 75 [some (.ref v0), some (.int v1), some (.int v2), some (.int v3), some (.int v4), some (.int v5)] [] h = _
  refine (ss_iinc3 rfl rfl (v := v5 + 1) (congrArg (HAdd.hAdd _) (show Int32.ofInt (1) = 1 by decide)) rfl).trans ?_
  refine (ss_goto rfl).trans ?_
  rfl
set_option maxRecDepth 8000 in
theorem u_Md_pairs_100 (X : pv_X) (v0 : Nat) (v1 : Int32) (v2 : Int32) (v3 : Int32) (v4 : Int32) (v5 : Int32) (s0 : Int32) (h : pv_H) : f_Md_pairs_100 X v0 v1 v2 v3 v4 v5 s0 h =
    some (some (.int s0), h) := by
  show pS X 7 (some .int) k_Md_pairs 100 [some (.ref v0), some (.int v1), some (.int v2), some (.int v3), some (.int v4), some (.int v5)] [.int s0] h = _
  exact ss_ireturn rfl
theorem e_Md_pairs (X : pv_X) (v0 : Nat) (v1 : Int32) (h : pv_H) : pM X m_Md_pairs [.ref v0, .int v1] h = f_Md_pairs_0 X v0 v1 h := rfl
noncomputable def f_Md_mostAlike_0 (X : pv_X) (v0 : Nat) (v1 : Int32) (v2 : Int32) (h : pv_H) : Option pv_O := pS X 1 (some .int) k_Md_mostAlike 0 [some (.ref v0), some (.int v1), some (.int v2), none, none, none, none] [] h
noncomputable def f_Md_mostAlike_5 (X : pv_X) (v0 : Nat) (v1 : Int32) (v2 : Int32) (v3 : Int32) (v4 : Int32) (o5 : Option Value) (o6 : Option Value) (h : pv_H) : Option pv_O := pS X 1 (some .int) k_Md_mostAlike 5 [some (.ref v0), some (.int v1), some (.int v2), some (.int v3), some (.int v4), o5, o6] [] h
noncomputable def f_Md_mostAlike_17 (X : pv_X) (v0 : Nat) (v1 : Int32) (v2 : Int32) (v3 : Int32) (v4 : Int32) (v5 : Int32) (v6 : Int32) (h : pv_H) : Option pv_O := pS X 1 (some .int) k_Md_mostAlike 17 [some (.ref v0), some (.int v1), some (.int v2), some (.int v3), some (.int v4), some (.int v5), some (.int v6)] [] h
noncomputable def f_Md_mostAlike_57 (X : pv_X) (v0 : Nat) (v1 : Int32) (v2 : Int32) (v3 : Int32) (v4 : Int32) (v5 : Int32) (v6 : Int32) (s0 : Int32) (s1 : Int32) (h : pv_H) : Option pv_O := pS X 1 (some .int) k_Md_mostAlike 57 [some (.ref v0), some (.int v1), some (.int v2), some (.int v3), some (.int v4), some (.int v5), some (.int v6)] [.int s0, .int s1] h
noncomputable def f_Md_mostAlike_78 (X : pv_X) (v0 : Nat) (v1 : Int32) (v2 : Int32) (v3 : Int32) (v4 : Int32) (v5 : Int32) (v6 : Int32) (s0 : Int32) (h : pv_H) : Option pv_O := pS X 1 (some .int) k_Md_mostAlike 78 [some (.ref v0), some (.int v1), some (.int v2), some (.int v3), some (.int v4), some (.int v5), some (.int v6)] [.int s0] h
set_option maxRecDepth 8000 in
theorem u_Md_mostAlike_0 (X : pv_X) (v0 : Nat) (v1 : Int32) (v2 : Int32) (h : pv_H) : f_Md_mostAlike_0 X v0 v1 v2 h =
    f_Md_mostAlike_5 X v0 v1 v2 0 0 none none h := by
  show pS X 1 (some .int) k_Md_mostAlike 0 [some (.ref v0), some (.int v1), some (.int v2), none, none, none, none] [] h = _
  refine (ss_iconst rfl (v := 0) rfl).trans ?_
  refine (ss_istore_n rfl rfl).trans ?_
  refine (ss_iconst rfl (v := 0) rfl).trans ?_
  refine (ss_istore rfl rfl).trans ?_
  rfl
set_option maxRecDepth 8000 in
theorem u_Md_mostAlike_5 (X : pv_X) (v0 : Nat) (v1 : Int32) (v2 : Int32) (v3 : Int32) (v4 : Int32) (o5 : Option Value) (o6 : Option Value) (h : pv_H) : f_Md_mostAlike_5 X v0 v1 v2 v3 v4 o5 o6 h =
    if v1 ≤ v4 then some (some (.int v3), h) else f_Md_mostAlike_17 X v0 v1 v2 v3 v4 0 0 h := by
  show pS X 1 (some .int) k_Md_mostAlike 5 [some (.ref v0), some (.int v1), some (.int v2), some (.int v3), some (.int v4), o5, o6] [] h = _
  refine (ss_iload rfl rfl).trans ?_
  refine (ss_iload_n rfl rfl).trans ?_
  refine (ss_icmp_ge rfl).trans ?_
  refine pv_ite ?_ ?_
  · refine (ss_iload_n rfl rfl).trans ?_
    exact ss_ireturn rfl
  · refine (ss_iconst rfl (v := 0) rfl).trans ?_
    refine (ss_istore rfl rfl).trans ?_
    refine (ss_iconst rfl (v := 0) rfl).trans ?_
    refine (ss_istore rfl rfl).trans ?_
    rfl
set_option maxRecDepth 8000 in
theorem u_Md_mostAlike_17 (X : pv_X) (v0 : Nat) (v1 : Int32) (v2 : Int32) (v3 : Int32) (v4 : Int32) (v5 : Int32) (v6 : Int32) (h : pv_H) : f_Md_mostAlike_17 X v0 v1 v2 v3 v4 v5 v6 h =
    if v1 ≤ v6 then if v5 ≤ v3 then f_Md_mostAlike_78 X v0 v1 v2 v3 v4 v5 v6 v3 h else f_Md_mostAlike_78 X v0 v1 v2 v3 v4 v5 v6 v5 h else (pv_fR h v0 11 28).bind (fun x1 => (pv_aX X h x1 ((25 * v6) + v2)).bind (fun x2 => (pv_fR h v0 11 28).bind (fun x3 => (pv_aX X h x3 ((25 * v4) + v2)).bind (fun x4 => if ¬ x2 = x4 then f_Md_mostAlike_57 X v0 v1 v2 v3 v4 v5 v6 0 v5 h else f_Md_mostAlike_57 X v0 v1 v2 v3 v4 v5 v6 1 v5 h)))) := by
  show pS X 1 (some .int) k_Md_mostAlike 17 [some (.ref v0), some (.int v1), some (.int v2), some (.int v3), some (.int v4), some (.int v5), some (.int v6)] [] h = _
  refine (ss_iload rfl rfl).trans ?_
  refine (ss_iload_n rfl rfl).trans ?_
  refine (ss_icmp_ge rfl).trans ?_
  refine pv_ite ?_ ?_
  · refine (ss_iload rfl rfl).trans ?_
    refine (ss_iload_n rfl rfl).trans ?_
    refine (ss_icmp_le rfl).trans ?_
    refine pv_ite ?_ ?_
    · refine (ss_iload_n rfl rfl).trans ?_
      rfl
    · refine (ss_iload rfl rfl).trans ?_
      refine (ss_goto rfl).trans ?_
      rfl
  · refine (ss_iload rfl rfl).trans ?_
    refine (ss_aload_n rfl rfl).trans ?_
    refine (ss_getR rfl).trans ?_
    refine congrArg (Option.bind _) (funext fun x1 => ?_)
    refine (ss_bipush rfl (v := 25) rfl).trans ?_
    refine (ss_iload rfl rfl).trans ?_
    refine (ss_imul rfl).trans ?_
    refine (ss_iload_n rfl rfl).trans ?_
    refine (ss_iadd rfl).trans ?_
    refine (ss_iaload rfl).trans ?_
    refine congrArg (Option.bind _) (funext fun x2 => ?_)
    refine (ss_aload_n rfl rfl).trans ?_
    refine (ss_getR rfl).trans ?_
    refine congrArg (Option.bind _) (funext fun x3 => ?_)
    refine (ss_bipush rfl (v := 25) rfl).trans ?_
    refine (ss_iload rfl rfl).trans ?_
    refine (ss_imul rfl).trans ?_
    refine (ss_iload_n rfl rfl).trans ?_
    refine (ss_iadd rfl).trans ?_
    refine (ss_iaload rfl).trans ?_
    refine congrArg (Option.bind _) (funext fun x4 => ?_)
    refine (ss_icmp_ne rfl).trans ?_
    refine pv_ite ?_ ?_
    · refine (ss_iconst rfl (v := 0) rfl).trans ?_
      rfl
    · refine (ss_iconst rfl (v := 1) rfl).trans ?_
      refine (ss_goto rfl).trans ?_
      rfl
set_option maxRecDepth 8000 in
theorem u_Md_mostAlike_57 (X : pv_X) (v0 : Nat) (v1 : Int32) (v2 : Int32) (v3 : Int32) (v4 : Int32) (v5 : Int32) (v6 : Int32) (s0 : Int32) (s1 : Int32) (h : pv_H) : f_Md_mostAlike_57 X v0 v1 v2 v3 v4 v5 v6 s0 s1 h =
    f_Md_mostAlike_17 X v0 v1 v2 v3 v4 (s1 + s0) (v6 + 1) h := by
  show pS X 1 (some .int) k_Md_mostAlike 57 [some (.ref v0), some (.int v1), some (.int v2), some (.int v3), some (.int v4), some (.int v5), some (.int v6)] [.int s0, .int s1] h = _
  refine (ss_iadd rfl).trans ?_
  refine (ss_istore rfl rfl).trans ?_
  refine (ss_iinc3 rfl rfl (v := v6 + 1) (congrArg (HAdd.hAdd _) (show Int32.ofInt (1) = 1 by decide)) rfl).trans ?_
  refine (ss_goto rfl).trans ?_
  rfl
set_option maxRecDepth 8000 in
theorem u_Md_mostAlike_78 (X : pv_X) (v0 : Nat) (v1 : Int32) (v2 : Int32) (v3 : Int32) (v4 : Int32) (v5 : Int32) (v6 : Int32) (s0 : Int32) (h : pv_H) : f_Md_mostAlike_78 X v0 v1 v2 v3 v4 v5 v6 s0 h =
    f_Md_mostAlike_5 X v0 v1 v2 s0 (v4 + 1) (some (.int v5)) (some (.int v6)) h := by
  show pS X 1 (some .int) k_Md_mostAlike 78 [some (.ref v0), some (.int v1), some (.int v2), some (.int v3), some (.int v4), some (.int v5), some (.int v6)] [.int s0] h = _
  refine (ss_istore_n rfl rfl).trans ?_
  refine (ss_iinc3 rfl rfl (v := v4 + 1) (congrArg (HAdd.hAdd _) (show Int32.ofInt (1) = 1 by decide)) rfl).trans ?_
  refine (ss_goto rfl).trans ?_
  rfl
theorem e_Md_mostAlike (X : pv_X) (v0 : Nat) (v1 : Int32) (v2 : Int32) (h : pv_H) : pM X m_Md_mostAlike [.ref v0, .int v1, .int v2] h = f_Md_mostAlike_0 X v0 v1 v2 h := rfl
noncomputable def f_Md_look_0 (X : pv_X) (v0 : Nat) (v1 : Int32) (h : pv_H) : Option pv_O := pS X 7 (some .int) k_Md_look 0 [some (.ref v0), some (.int v1), none, none, none, none, none] [] h
noncomputable def f_Md_look_19 (X : pv_X) (v0 : Nat) (v1 : Int32) (v2 : Int32) (v3 : Int32) (o4 : Option Value) (h : pv_H) : Option pv_O := pS X 7 (some .int) k_Md_look 19 [some (.ref v0), some (.int v1), some (.int v2), some (.int v3), o4, none, none] [] h
noncomputable def f_Md_look_56 (X : pv_X) (v0 : Nat) (v1 : Int32) (v2 : Int32) (v3 : Int32) (v4 : Int32) (h : pv_H) : Option pv_O := pS X 7 (some .int) k_Md_look 56 [some (.ref v0), some (.int v1), some (.int v2), some (.int v3), some (.int v4), none, none] [] h
noncomputable def f_Md_look_99 (X : pv_X) (v0 : Nat) (v1 : Int32) (v2 : Int32) (v3 : Int32) (o4 : Option Value) (h : pv_H) : Option pv_O := pS X 7 (some .int) k_Md_look 99 [some (.ref v0), some (.int v1), some (.int v2), some (.int v3), o4, none, none] [] h
noncomputable def f_Md_look_113 (X : pv_X) (v0 : Nat) (v1 : Int32) (v2 : Int32) (v3 : Int32) (v4 : Int32) (v5 : Int32) (o6 : Option Value) (h : pv_H) : Option pv_O := pS X 7 (some .int) k_Md_look 113 [some (.ref v0), some (.int v1), some (.int v2), some (.int v3), some (.int v4), some (.int v5), o6] [] h
noncomputable def f_Md_look_142 (X : pv_X) (v0 : Nat) (v1 : Int32) (v2 : Int32) (v3 : Int32) (v4 : Int32) (v5 : Int32) (v6 : Int32) (s0 : Int32) (h : pv_H) : Option pv_O := pS X 7 (some .int) k_Md_look 142 [some (.ref v0), some (.int v1), some (.int v2), some (.int v3), some (.int v4), some (.int v5), some (.int v6)] [.int s0] h
noncomputable def f_Md_look_157 (X : pv_X) (v0 : Nat) (v1 : Int32) (v2 : Int32) (v3 : Int32) (v4 : Int32) (v5 : Int32) (v6 : Int32) (s0 : Int32) (h : pv_H) : Option pv_O := pS X 7 (some .int) k_Md_look 157 [some (.ref v0), some (.int v1), some (.int v2), some (.int v3), some (.int v4), some (.int v5), some (.int v6)] [.int s0] h
set_option maxRecDepth 8000 in
theorem u_Md_look_0 (X : pv_X) (v0 : Nat) (v1 : Int32) (h : pv_H) : f_Md_look_0 X v0 v1 h =
    (pv_fp h v0 11 0 (.int 0)).bind (fun h1 => if pv_rc h1 v0 11 = true then (pv_tI (pM X m_Md_isPerson [.ref v0, .int v1] h1)).bind (fun q2 => if ¬ q2.1 = 0 then f_Md_look_19 X v0 v1 0 0 none q2.2 else some (some (.int (-1)), q2.2)) else none) := by
  show pS X 7 (some .int) k_Md_look 0 [some (.ref v0), some (.int v1), none, none, none, none, none] [] h = _
  refine (ss_aload_n rfl rfl).trans ?_
  refine (ss_iconst rfl (v := 0) rfl).trans ?_
  refine (ss_putI rfl).trans ?_
  refine congrArg (Option.bind _) (funext fun h1 => ?_)
  refine (ss_aload_n rfl rfl).trans ?_
  refine (ss_iload_n rfl rfl).trans ?_
  refine (ss_callVI (as := [.int v1]) rfl t_Md_isPerson (by decide) rfl rfl (by decide) (Or.inr rfl) ⟨Nat.le_of_ble_eq_true rfl, Nat.le_of_ble_eq_true rfl⟩).trans ?_
  refine pv_ite ?_ rfl
  refine congrArg (Option.bind _) (funext fun q2 => ?_)
  refine (ss_if_ne rfl).trans ?_
  refine pv_ite ?_ ?_
  · refine (ss_iconst rfl (v := 0) rfl).trans ?_
    refine (ss_istore_n rfl rfl).trans ?_
    refine (ss_iconst rfl (v := 0) rfl).trans ?_
    refine (ss_istore_n rfl rfl).trans ?_
    rfl
  · refine (ss_iconst rfl (v := (-1)) rfl).trans ?_
    exact ss_ireturn rfl
set_option maxRecDepth 8000 in
theorem u_Md_look_19 (X : pv_X) (v0 : Nat) (v1 : Int32) (v2 : Int32) (v3 : Int32) (o4 : Option Value) (h : pv_H) : f_Md_look_19 X v0 v1 v2 v3 o4 h =
    if 36 ≤ v3 then f_Md_look_113 X v0 v1 v2 (-1) v2 0 none h else if pv_rc h v0 11 = true then (pv_tI (pM X m_Md_isSeen [.ref v0, .int (v3 / 6), .int (v3 - v3 / 6 * 6)] h)).bind (fun q1 => if q1.1 = 0 then f_Md_look_99 X v0 v1 v2 v3 o4 q1.2 else if pv_rc q1.2 v0 11 = true then (pv_tV (pM X m_Md_askedFor [.ref v0, .int (v3 / 6), .int (v3 - v3 / 6 * 6), .int 0] q1.2)).bind (fun h2 => f_Md_look_56 X v0 v1 v2 v3 0 h2) else none) else none := by
  show pS X 7 (some .int) k_Md_look 19 [some (.ref v0), some (.int v1), some (.int v2), some (.int v3), o4, none, none] [] h = _
  refine (ss_iload_n rfl rfl).trans ?_
  refine (ss_bipush rfl (v := 36) rfl).trans ?_
  refine (ss_icmp_ge rfl).trans ?_
  refine pv_ite ?_ ?_
  · refine (ss_iconst rfl (v := (-1)) rfl).trans ?_
    refine (ss_istore_n rfl rfl).trans ?_
    refine (ss_iload_n rfl rfl).trans ?_
    refine (ss_istore rfl rfl).trans ?_
    refine (ss_iconst rfl (v := 0) rfl).trans ?_
    refine (ss_istore rfl rfl).trans ?_
    rfl
  · refine (ss_aload_n rfl rfl).trans ?_
    refine (ss_iload_n rfl rfl).trans ?_
    refine (ss_bipush rfl (v := 6) rfl).trans ?_
    refine (ss_idiv rfl (by decide)).trans ?_
    refine (ss_iload_n rfl rfl).trans ?_
    refine (ss_bipush rfl (v := 6) rfl).trans ?_
    refine (ss_irem rfl (by decide)).trans ?_
    refine (ss_callVI (as := [.int (v3 / 6), .int (v3 - v3 / 6 * 6)]) rfl t_Md_isSeen (by decide) rfl rfl (by decide) (Or.inr rfl) ⟨Nat.le_of_ble_eq_true rfl, Nat.le_of_ble_eq_true rfl⟩).trans ?_
    refine pv_ite ?_ rfl
    refine congrArg (Option.bind _) (funext fun q1 => ?_)
    refine (ss_if_eq rfl).trans ?_
    refine pv_ite ?_ ?_
    · rfl
    · refine (ss_aload_n rfl rfl).trans ?_
      refine (ss_iload_n rfl rfl).trans ?_
      refine (ss_bipush rfl (v := 6) rfl).trans ?_
      refine (ss_idiv rfl (by decide)).trans ?_
      refine (ss_iload_n rfl rfl).trans ?_
      refine (ss_bipush rfl (v := 6) rfl).trans ?_
      refine (ss_irem rfl (by decide)).trans ?_
      refine (ss_iconst rfl (v := 0) rfl).trans ?_
      refine (ss_callVN (as := [.int (v3 / 6), .int (v3 - v3 / 6 * 6), .int 0]) rfl t_Md_askedFor (by decide) rfl rfl (by decide) rfl ⟨Nat.le_of_ble_eq_true rfl, Nat.le_of_ble_eq_true rfl⟩).trans ?_
      refine pv_ite ?_ rfl
      refine congrArg (Option.bind _) (funext fun h2 => ?_)
      refine (ss_iconst rfl (v := 0) rfl).trans ?_
      refine (ss_istore rfl rfl).trans ?_
      rfl
set_option maxRecDepth 8000 in
theorem u_Md_look_56 (X : pv_X) (v0 : Nat) (v1 : Int32) (v2 : Int32) (v3 : Int32) (v4 : Int32) (h : pv_H) : f_Md_look_56 X v0 v1 v2 v3 v4 h =
    if 24 < v4 then f_Md_look_99 X v0 v1 (v2 + 1) v3 (some (.int v4)) h else (pv_fR h v0 11 28).bind (fun x1 => if pv_rc h v0 11 = true then (pv_tI (pM X m_Md_outOf [.ref v0, .int 1071, .int v1] h)).bind (fun q2 => (pv_sI q2.2 x1 ((25 * v2) + v4) q2.1).bind (fun h3 => if pv_rc h3 v0 11 = true then (pv_tV (pM X m_Md_passes_1 [.ref v0, .int 1071] h3)).bind (fun h4 => f_Md_look_56 X v0 v1 v2 v3 (v4 + 1) h4) else none)) else none) := by
  show pS X 7 (some .int) k_Md_look 56 [some (.ref v0), some (.int v1), some (.int v2), some (.int v3), some (.int v4), none, none] [] h = _
  refine (ss_iload rfl rfl).trans ?_
  refine (ss_bipush rfl (v := 24) rfl).trans ?_
  refine (ss_icmp_gt rfl).trans ?_
  refine pv_ite ?_ ?_
  · refine (ss_iinc3 rfl rfl (v := v2 + 1) (congrArg (HAdd.hAdd _) (show Int32.ofInt (1) = 1 by decide)) rfl).trans ?_
    rfl
  · refine (ss_aload_n rfl rfl).trans ?_
    refine (ss_getR rfl).trans ?_
    refine congrArg (Option.bind _) (funext fun x1 => ?_)
    refine (ss_bipush rfl (v := 25) rfl).trans ?_
    refine (ss_iload_n rfl rfl).trans ?_
    refine (ss_imul rfl).trans ?_
    refine (ss_iload rfl rfl).trans ?_
    refine (ss_iadd rfl).trans ?_
    refine (ss_aload_n rfl rfl).trans ?_
    refine (ss_sipush rfl (v := 1071) rfl).trans ?_
    refine (ss_iload_n rfl rfl).trans ?_
    refine (ss_callVI (as := [.int 1071, .int v1]) rfl t_Md_outOf (by decide) rfl rfl (by simp [Value.category]) (Or.inl rfl) ⟨Nat.le_of_ble_eq_true rfl, Nat.le_of_ble_eq_true rfl⟩).trans ?_
    refine pv_ite ?_ rfl
    refine congrArg (Option.bind _) (funext fun q2 => ?_)
    refine (ss_iastore rfl).trans ?_
    refine congrArg (Option.bind _) (funext fun h3 => ?_)
    refine (ss_aload_n rfl rfl).trans ?_
    refine (ss_sipush rfl (v := 1071) rfl).trans ?_
    refine (ss_callVN (as := [.int 1071]) rfl t_Md_passes_1 (by decide) rfl rfl (by decide) rfl ⟨Nat.le_of_ble_eq_true rfl, Nat.le_of_ble_eq_true rfl⟩).trans ?_
    refine pv_ite ?_ rfl
    refine congrArg (Option.bind _) (funext fun h4 => ?_)
    refine (ss_iinc3 rfl rfl (v := v4 + 1) (congrArg (HAdd.hAdd _) (show Int32.ofInt (1) = 1 by decide)) rfl).trans ?_
    refine (ss_goto rfl).trans ?_
    rfl
set_option maxRecDepth 8000 in
theorem u_Md_look_99 (X : pv_X) (v0 : Nat) (v1 : Int32) (v2 : Int32) (v3 : Int32) (o4 : Option Value) (h : pv_H) : f_Md_look_99 X v0 v1 v2 v3 o4 h =
    f_Md_look_19 X v0 v1 v2 (v3 + 1) o4 h := by
  show pS X 7 (some .int) k_Md_look 99 [some (.ref v0), some (.int v1), some (.int v2), some (.int v3), o4, none, none] [] h = _
  refine (ss_iinc3 rfl rfl (v := v3 + 1) (congrArg (HAdd.hAdd _) (show Int32.ofInt (1) = 1 by decide)) rfl).trans ?_
  refine (ss_goto rfl).trans ?_
  rfl
set_option maxRecDepth 8000 in
theorem u_Md_look_113 (X : pv_X) (v0 : Nat) (v1 : Int32) (v2 : Int32) (v3 : Int32) (v4 : Int32) (v5 : Int32) (o6 : Option Value) (h : pv_H) : f_Md_look_113 X v0 v1 v2 v3 v4 v5 o6 h =
    if 24 < v5 then some (some (.int v3), h) else if pv_rc h v0 11 = true then (pv_tI (pM X m_Md_mostAlike [.ref v0, .int v2, .int v5] h)).bind (fun q1 => if v4 ≤ q1.1 then f_Md_look_142 X v0 v1 v2 v3 v4 v5 q1.1 v3 q1.2 else f_Md_look_142 X v0 v1 v2 v3 v4 v5 q1.1 v5 q1.2) else none := by
  show pS X 7 (some .int) k_Md_look 113 [some (.ref v0), some (.int v1), some (.int v2), some (.int v3), some (.int v4), some (.int v5), o6] [] h = _
  refine (ss_iload rfl rfl).trans ?_
  refine (ss_bipush rfl (v := 24) rfl).trans ?_
  refine (ss_icmp_gt rfl).trans ?_
  refine pv_ite ?_ ?_
  · refine (ss_iload_n rfl rfl).trans ?_
    exact ss_ireturn rfl
  · refine (ss_aload_n rfl rfl).trans ?_
    refine (ss_iload_n rfl rfl).trans ?_
    refine (ss_iload rfl rfl).trans ?_
    refine (ss_callVI (as := [.int v2, .int v5]) rfl t_Md_mostAlike (by decide) rfl rfl (by decide) (Or.inl rfl) ⟨Nat.le_of_ble_eq_true rfl, Nat.le_of_ble_eq_true rfl⟩).trans ?_
    refine pv_ite ?_ rfl
    refine congrArg (Option.bind _) (funext fun q1 => ?_)
    refine (ss_istore rfl rfl).trans ?_
    refine (ss_iload rfl rfl).trans ?_
    refine (ss_iload rfl rfl).trans ?_
    refine (ss_icmp_ge rfl).trans ?_
    refine pv_ite ?_ ?_
    · refine (ss_iload_n rfl rfl).trans ?_
      rfl
    · refine (ss_iload rfl rfl).trans ?_
      refine (ss_goto rfl).trans ?_
      rfl
set_option maxRecDepth 8000 in
theorem u_Md_look_142 (X : pv_X) (v0 : Nat) (v1 : Int32) (v2 : Int32) (v3 : Int32) (v4 : Int32) (v5 : Int32) (v6 : Int32) (s0 : Int32) (h : pv_H) : f_Md_look_142 X v0 v1 v2 v3 v4 v5 v6 s0 h =
    if v4 ≤ v6 then f_Md_look_157 X v0 v1 v2 s0 v4 v5 v6 v4 h else f_Md_look_157 X v0 v1 v2 s0 v4 v5 v6 v6 h := by
  show pS X 7 (some .int) k_Md_look 142 [some (.ref v0), some (.int v1), some (.int v2), some (.int v3), some (.int v4), some (.int v5), some (.int v6)] [.int s0] h = _
  refine (ss_istore_n rfl rfl).trans ?_
  refine (ss_iload rfl rfl).trans ?_
  refine (ss_iload rfl rfl).trans ?_
  refine (ss_icmp_ge rfl).trans ?_
  refine pv_ite ?_ ?_
  · refine (ss_iload rfl rfl).trans ?_
    rfl
  · refine (ss_iload rfl rfl).trans ?_
    refine (ss_goto rfl).trans ?_
    rfl
set_option maxRecDepth 8000 in
theorem u_Md_look_157 (X : pv_X) (v0 : Nat) (v1 : Int32) (v2 : Int32) (v3 : Int32) (v4 : Int32) (v5 : Int32) (v6 : Int32) (s0 : Int32) (h : pv_H) : f_Md_look_157 X v0 v1 v2 v3 v4 v5 v6 s0 h =
    f_Md_look_113 X v0 v1 v2 v3 s0 (v5 + 1) (some (.int v6)) h := by
  show pS X 7 (some .int) k_Md_look 157 [some (.ref v0), some (.int v1), some (.int v2), some (.int v3), some (.int v4), some (.int v5), some (.int v6)] [.int s0] h = _
  refine (ss_istore rfl rfl).trans ?_
  refine (ss_iinc3 rfl rfl (v := v5 + 1) (congrArg (HAdd.hAdd _) (show Int32.ofInt (1) = 1 by decide)) rfl).trans ?_
  refine (ss_goto rfl).trans ?_
  rfl
theorem e_Md_look (X : pv_X) (v0 : Nat) (v1 : Int32) (h : pv_H) : pM X m_Md_look [.ref v0, .int v1] h = f_Md_look_0 X v0 v1 h := rfl
noncomputable def f_Md_tell_0 (X : pv_X) (v0 : Nat) (v1 : Int32) (v2 : Int32) (h : pv_H) : Option pv_O := pS X 2 (some .boolean) k_Md_tell 0 [some (.ref v0), some (.int v1), some (.int v2), none] [] h
noncomputable def f_Md_tell_40 (X : pv_X) (v0 : Nat) (v1 : Int32) (v2 : Int32) (h : pv_H) : Option pv_O := pS X 2 (some .boolean) k_Md_tell 40 [some (.ref v0), some (.int v1), some (.int v2), none] [] h
set_option maxRecDepth 8000 in
theorem u_Md_tell_0 (X : pv_X) (v0 : Nat) (v1 : Int32) (v2 : Int32) (h : pv_H) : f_Md_tell_0 X v0 v1 v2 h =
    (pv_fp h v0 11 0 (.int 0)).bind (fun h1 => (pv_tI (pM X m_Md_within [.int v1, .int 1, .int 40] h1)).bind (fun q2 => if q2.1 = 0 then f_Md_tell_40 X v0 v1 v2 q2.2 else (pv_tI (pM X m_Md_within [.int v2, .int (-360), .int 359] q2.2)).bind (fun q3 => if q3.1 = 0 then f_Md_tell_40 X v0 v1 v2 q3.2 else (pv_fR q3.2 v0 11 21).bind (fun x4 => (pv_aX X q3.2 x4 38).bind (fun x5 => if ¬ x5 = 6 then (pv_fR q3.2 v0 11 21).bind (fun x6 => (pv_aX X q3.2 x6 38).bind (fun x7 => (pv_fR q3.2 v0 11 21).bind (fun x8 => (pv_sI q3.2 x8 (39 + (2 * x7)) v1).bind (fun h9 => (pv_fR h9 v0 11 21).bind (fun x10 => (pv_sI h9 x10 ((39 + (2 * x7)) + 1) v2).bind (fun h11 => (pv_fR h11 v0 11 21).bind (fun x12 => (pv_aX X h11 x12 38).bind (fun x13 => (pv_sI h11 x12 38 (x13 + 1)).bind (fun h14 => some (some (.int 1), h14)))))))))) else f_Md_tell_40 X v0 v1 v2 q3.2))))) := by
  show pS X 2 (some .boolean) k_Md_tell 0 [some (.ref v0), some (.int v1), some (.int v2), none] [] h = _
  refine (ss_aload_n rfl rfl).trans ?_
  refine (ss_iconst rfl (v := 0) rfl).trans ?_
  refine (ss_putI rfl).trans ?_
  refine congrArg (Option.bind _) (funext fun h1 => ?_)
  refine (ss_iload_n rfl rfl).trans ?_
  refine (ss_iconst rfl (v := 1) rfl).trans ?_
  refine (ss_bipush rfl (v := 40) rfl).trans ?_
  refine (ss_callSI (as := [.int v1, .int 1, .int 40]) rfl t_Md_within (by decide) rfl rfl (by decide) (Or.inr rfl) ⟨Nat.le_of_ble_eq_true rfl, Nat.le_of_ble_eq_true rfl⟩).trans ?_
  refine congrArg (Option.bind _) (funext fun q2 => ?_)
  refine (ss_if_eq rfl).trans ?_
  refine pv_ite ?_ ?_
  · rfl
  · refine (ss_iload_n rfl rfl).trans ?_
    refine (ss_sipush rfl (v := (-360)) rfl).trans ?_
    refine (ss_sipush rfl (v := 359) rfl).trans ?_
    refine (ss_callSI (as := [.int v2, .int (-360), .int 359]) rfl t_Md_within (by decide) rfl rfl (by decide) (Or.inr rfl) ⟨Nat.le_of_ble_eq_true rfl, Nat.le_of_ble_eq_true rfl⟩).trans ?_
    refine congrArg (Option.bind _) (funext fun q3 => ?_)
    refine (ss_if_eq rfl).trans ?_
    refine pv_ite ?_ ?_
    · rfl
    · refine (ss_aload_n rfl rfl).trans ?_
      refine (ss_getR rfl).trans ?_
      refine congrArg (Option.bind _) (funext fun x4 => ?_)
      refine (ss_bipush rfl (v := 38) rfl).trans ?_
      refine (ss_iaload rfl).trans ?_
      refine congrArg (Option.bind _) (funext fun x5 => ?_)
      refine (ss_bipush rfl (v := 6) rfl).trans ?_
      refine (ss_icmp_ne rfl).trans ?_
      refine pv_ite ?_ ?_
      · refine (ss_bipush rfl (v := 39) rfl).trans ?_
        refine (ss_iconst rfl (v := 2) rfl).trans ?_
        refine (ss_aload_n rfl rfl).trans ?_
        refine (ss_getR rfl).trans ?_
        refine congrArg (Option.bind _) (funext fun x6 => ?_)
        refine (ss_bipush rfl (v := 38) rfl).trans ?_
        refine (ss_iaload rfl).trans ?_
        refine congrArg (Option.bind _) (funext fun x7 => ?_)
        refine (ss_imul rfl).trans ?_
        refine (ss_iadd rfl).trans ?_
        refine (ss_istore_n rfl rfl).trans ?_
        refine (ss_aload_n rfl rfl).trans ?_
        refine (ss_getR rfl).trans ?_
        refine congrArg (Option.bind _) (funext fun x8 => ?_)
        refine (ss_iload_n rfl rfl).trans ?_
        refine (ss_iload_n rfl rfl).trans ?_
        refine (ss_iastore rfl).trans ?_
        refine congrArg (Option.bind _) (funext fun h9 => ?_)
        refine (ss_aload_n rfl rfl).trans ?_
        refine (ss_getR rfl).trans ?_
        refine congrArg (Option.bind _) (funext fun x10 => ?_)
        refine (ss_iload_n rfl rfl).trans ?_
        refine (ss_iconst rfl (v := 1) rfl).trans ?_
        refine (ss_iadd rfl).trans ?_
        refine (ss_iload_n rfl rfl).trans ?_
        refine (ss_iastore rfl).trans ?_
        refine congrArg (Option.bind _) (funext fun h11 => ?_)
        refine (ss_aload_n rfl rfl).trans ?_
        refine (ss_getR rfl).trans ?_
        refine congrArg (Option.bind _) (funext fun x12 => ?_)
        refine (ss_bipush rfl (v := 38) rfl).trans ?_
        refine (ss_dup2R rfl).trans ?_
        refine (ss_iaload rfl).trans ?_
        refine congrArg (Option.bind _) (funext fun x13 => ?_)
        refine (ss_iconst rfl (v := 1) rfl).trans ?_
        refine (ss_iadd rfl).trans ?_
        refine (ss_iastore rfl).trans ?_
        refine congrArg (Option.bind _) (funext fun h14 => ?_)
        refine (ss_iconst rfl (v := 1) rfl).trans ?_
        exact (ss_zreturn rfl).trans (if_pos (by decide))
      · rfl
set_option maxRecDepth 8000 in
theorem u_Md_tell_40 (X : pv_X) (v0 : Nat) (v1 : Int32) (v2 : Int32) (h : pv_H) : f_Md_tell_40 X v0 v1 v2 h =
    some (some (.int 0), h) := by
  show pS X 2 (some .boolean) k_Md_tell 40 [some (.ref v0), some (.int v1), some (.int v2), none] [] h = _
  refine (ss_iconst rfl (v := 0) rfl).trans ?_
  exact (ss_zreturn rfl).trans (if_pos (by decide))
theorem e_Md_tell (X : pv_X) (v0 : Nat) (v1 : Int32) (v2 : Int32) (h : pv_H) : pM X m_Md_tell [.ref v0, .int v1, .int v2] h = f_Md_tell_0 X v0 v1 v2 h := rfl
noncomputable def f_Md_outBy_2_0 (X : pv_X) (v0 : Int32) (v1 : Int32) (h : pv_H) : Option pv_O := pS X 2 (some .int) k_Md_outBy_2 0 [some (.int v0), some (.int v1)] [] h
set_option maxRecDepth 8000 in
theorem u_Md_outBy_2_0 (X : pv_X) (v0 : Int32) (v1 : Int32) (h : pv_H) : f_Md_outBy_2_0 X v0 v1 h =
    (pv_tI (pM X m_Md_outBy_1 [.int (((v0 / 4) - 15) * v1)] h)).bind (fun q1 => some (some (.int q1.1), q1.2)) := by
  show pS X 2 (some .int) k_Md_outBy_2 0 [some (.int v0), some (.int v1)] [] h = _
  refine (ss_iload_n rfl rfl).trans ?_
  refine (ss_iconst rfl (v := 4) rfl).trans ?_
  refine (ss_idiv rfl (by decide)).trans ?_
  refine (ss_bipush rfl (v := 15) rfl).trans ?_
  refine (ss_isub rfl).trans ?_
  refine (ss_iload_n rfl rfl).trans ?_
  refine (ss_imul rfl).trans ?_
  refine (ss_callSI (as := [.int (((v0 / 4) - 15) * v1)]) rfl t_Md_outBy_1 (by decide) rfl rfl (by decide) (Or.inl rfl) ⟨Nat.le_of_ble_eq_true rfl, Nat.le_of_ble_eq_true rfl⟩).trans ?_
  refine congrArg (Option.bind _) (funext fun q1 => ?_)
  exact ss_ireturn rfl
theorem e_Md_outBy_2 (X : pv_X) (v0 : Int32) (v1 : Int32) (h : pv_H) : pM X m_Md_outBy_2 [.int v0, .int v1] h = f_Md_outBy_2_0 X v0 v1 h := rfl
noncomputable def f_Md_isTold_0 (X : pv_X) (v0 : Nat) (v1 : Int32) (h : pv_H) : Option pv_O := pS X 3 (some .boolean) k_Md_isTold 0 [some (.ref v0), some (.int v1), none, none, none] [] h
noncomputable def f_Md_isTold_4 (X : pv_X) (v0 : Nat) (v1 : Int32) (v2 : Int32) (v3 : Int32) (o4 : Option Value) (h : pv_H) : Option pv_O := pS X 3 (some .boolean) k_Md_isTold 4 [some (.ref v0), some (.int v1), some (.int v2), some (.int v3), o4] [] h
noncomputable def f_Md_isTold_54 (X : pv_X) (v0 : Nat) (v1 : Int32) (v2 : Int32) (v3 : Int32) (v4 : Int32) (h : pv_H) : Option pv_O := pS X 3 (some .boolean) k_Md_isTold 54 [some (.ref v0), some (.int v1), some (.int v2), some (.int v3), some (.int v4)] [] h
noncomputable def f_Md_isTold_55 (X : pv_X) (v0 : Nat) (v1 : Int32) (v2 : Int32) (v3 : Int32) (v4 : Int32) (s0 : Int32) (h : pv_H) : Option pv_O := pS X 3 (some .boolean) k_Md_isTold 55 [some (.ref v0), some (.int v1), some (.int v2), some (.int v3), some (.int v4)] [.int s0] h
set_option maxRecDepth 8000 in
theorem u_Md_isTold_0 (X : pv_X) (v0 : Nat) (v1 : Int32) (h : pv_H) : f_Md_isTold_0 X v0 v1 h =
    f_Md_isTold_4 X v0 v1 1 0 none h := by
  show pS X 3 (some .boolean) k_Md_isTold 0 [some (.ref v0), some (.int v1), none, none, none] [] h = _
  refine (ss_iconst rfl (v := 1) rfl).trans ?_
  refine (ss_istore_n rfl rfl).trans ?_
  refine (ss_iconst rfl (v := 0) rfl).trans ?_
  refine (ss_istore_n rfl rfl).trans ?_
  rfl
set_option maxRecDepth 8000 in
theorem u_Md_isTold_4 (X : pv_X) (v0 : Nat) (v1 : Int32) (v2 : Int32) (v3 : Int32) (o4 : Option Value) (h : pv_H) : f_Md_isTold_4 X v0 v1 v2 v3 o4 h =
    (pv_fR h v0 11 21).bind (fun x1 => (pv_aX X h x1 38).bind (fun x2 => if x2 ≤ v3 then if v2 = 0 ∨ v2 = 1 then some (some (.int v2), h) else none else if v2 = 0 then f_Md_isTold_54 X v0 v1 v2 v3 (39 + (2 * v3)) h else (pv_fR h v0 11 21).bind (fun x3 => (pv_aX X h x3 (39 + (2 * v3))).bind (fun x4 => (pv_tI (pM X m_Md_outBy_2 [.int v1, .int x4] h)).bind (fun q5 => (pv_fR q5.2 v0 11 21).bind (fun x6 => (pv_aX X q5.2 x6 ((39 + (2 * v3)) + 1)).bind (fun x7 => if ¬ q5.1 = x7 then f_Md_isTold_54 X v0 v1 v2 v3 (39 + (2 * v3)) q5.2 else f_Md_isTold_55 X v0 v1 v2 v3 (39 + (2 * v3)) 1 q5.2))))))) := by
  show pS X 3 (some .boolean) k_Md_isTold 4 [some (.ref v0), some (.int v1), some (.int v2), some (.int v3), o4] [] h = _
  refine (ss_iload_n rfl rfl).trans ?_
  refine (ss_aload_n rfl rfl).trans ?_
  refine (ss_getR rfl).trans ?_
  refine congrArg (Option.bind _) (funext fun x1 => ?_)
  refine (ss_bipush rfl (v := 38) rfl).trans ?_
  refine (ss_iaload rfl).trans ?_
  refine congrArg (Option.bind _) (funext fun x2 => ?_)
  refine (ss_icmp_ge rfl).trans ?_
  refine pv_ite ?_ ?_
  · refine (ss_iload_n rfl rfl).trans ?_
    exact ss_zreturn rfl
  · refine (ss_bipush rfl (v := 39) rfl).trans ?_
    refine (ss_iconst rfl (v := 2) rfl).trans ?_
    refine (ss_iload_n rfl rfl).trans ?_
    refine (ss_imul rfl).trans ?_
    refine (ss_iadd rfl).trans ?_
    refine (ss_istore rfl rfl).trans ?_
    refine (ss_iload_n rfl rfl).trans ?_
    refine (ss_if_eq rfl).trans ?_
    refine pv_ite ?_ ?_
    · rfl
    · refine (ss_iload_n rfl rfl).trans ?_
      refine (ss_aload_n rfl rfl).trans ?_
      refine (ss_getR rfl).trans ?_
      refine congrArg (Option.bind _) (funext fun x3 => ?_)
      refine (ss_iload rfl rfl).trans ?_
      refine (ss_iaload rfl).trans ?_
      refine congrArg (Option.bind _) (funext fun x4 => ?_)
      refine (ss_callSI (as := [.int v1, .int x4]) rfl t_Md_outBy_2 (by decide) rfl rfl (by decide) (Or.inl rfl) ⟨Nat.le_of_ble_eq_true rfl, Nat.le_of_ble_eq_true rfl⟩).trans ?_
      refine congrArg (Option.bind _) (funext fun q5 => ?_)
      refine (ss_aload_n rfl rfl).trans ?_
      refine (ss_getR rfl).trans ?_
      refine congrArg (Option.bind _) (funext fun x6 => ?_)
      refine (ss_iload rfl rfl).trans ?_
      refine (ss_iconst rfl (v := 1) rfl).trans ?_
      refine (ss_iadd rfl).trans ?_
      refine (ss_iaload rfl).trans ?_
      refine congrArg (Option.bind _) (funext fun x7 => ?_)
      refine (ss_icmp_ne rfl).trans ?_
      refine pv_ite ?_ ?_
      · rfl
      · refine (ss_iconst rfl (v := 1) rfl).trans ?_
        refine (ss_goto rfl).trans ?_
        rfl
set_option maxRecDepth 8000 in
theorem u_Md_isTold_54 (X : pv_X) (v0 : Nat) (v1 : Int32) (v2 : Int32) (v3 : Int32) (v4 : Int32) (h : pv_H) : f_Md_isTold_54 X v0 v1 v2 v3 v4 h =
    f_Md_isTold_55 X v0 v1 v2 v3 v4 0 h := by
  show pS X 3 (some .boolean) k_Md_isTold 54 [some (.ref v0), some (.int v1), some (.int v2), some (.int v3), some (.int v4)] [] h = _
  refine (ss_iconst rfl (v := 0) rfl).trans ?_
  rfl
set_option maxRecDepth 8000 in
theorem u_Md_isTold_55 (X : pv_X) (v0 : Nat) (v1 : Int32) (v2 : Int32) (v3 : Int32) (v4 : Int32) (s0 : Int32) (h : pv_H) : f_Md_isTold_55 X v0 v1 v2 v3 v4 s0 h =
    f_Md_isTold_4 X v0 v1 s0 (v3 + 1) (some (.int v4)) h := by
  show pS X 3 (some .boolean) k_Md_isTold 55 [some (.ref v0), some (.int v1), some (.int v2), some (.int v3), some (.int v4)] [.int s0] h = _
  refine (ss_istore_n rfl rfl).trans ?_
  refine (ss_iinc3 rfl rfl (v := v3 + 1) (congrArg (HAdd.hAdd _) (show Int32.ofInt (1) = 1 by decide)) rfl).trans ?_
  refine (ss_goto rfl).trans ?_
  rfl
theorem e_Md_isTold (X : pv_X) (v0 : Nat) (v1 : Int32) (h : pv_H) : pM X m_Md_isTold [.ref v0, .int v1] h = f_Md_isTold_0 X v0 v1 h := rfl
noncomputable def f_Md_fits_0 (X : pv_X) (v0 : Nat) (v1 : Int32) (h : pv_H) : Option pv_O := pS X 4 (some .int) k_Md_fits 0 [some (.ref v0), some (.int v1), none, none, none, none, none] [] h
noncomputable def f_Md_fits_27 (X : pv_X) (v0 : Nat) (v1 : Int32) (v2 : Int32) (v3 : Int32) (v4 : Int32) (v5 : Int32) (o6 : Option Value) (h : pv_H) : Option pv_O := pS X 4 (some .int) k_Md_fits 27 [some (.ref v0), some (.int v1), some (.int v2), some (.int v3), some (.int v4), some (.int v5), o6] [] h
noncomputable def f_Md_fits_54 (X : pv_X) (v0 : Nat) (v1 : Int32) (v2 : Int32) (v3 : Int32) (v4 : Int32) (v5 : Int32) (v6 : Int32) (s0 : Int32) (s1 : Int32) (h : pv_H) : Option pv_O := pS X 4 (some .int) k_Md_fits 54 [some (.ref v0), some (.int v1), some (.int v2), some (.int v3), some (.int v4), some (.int v5), some (.int v6)] [.int s0, .int s1] h
noncomputable def f_Md_fits_70 (X : pv_X) (v0 : Nat) (v1 : Int32) (v2 : Int32) (v3 : Int32) (v4 : Int32) (v5 : Int32) (v6 : Int32) (h : pv_H) : Option pv_O := pS X 4 (some .int) k_Md_fits 70 [some (.ref v0), some (.int v1), some (.int v2), some (.int v3), some (.int v4), some (.int v5), some (.int v6)] [] h
noncomputable def f_Md_fits_71 (X : pv_X) (v0 : Nat) (v1 : Int32) (v2 : Int32) (v3 : Int32) (v4 : Int32) (v5 : Int32) (v6 : Int32) (s0 : Int32) (h : pv_H) : Option pv_O := pS X 4 (some .int) k_Md_fits 71 [some (.ref v0), some (.int v1), some (.int v2), some (.int v3), some (.int v4), some (.int v5), some (.int v6)] [.int s0] h
noncomputable def f_Md_fits_84 (X : pv_X) (v0 : Nat) (v1 : Int32) (v2 : Int32) (v3 : Int32) (v4 : Int32) (v5 : Int32) (v6 : Int32) (s0 : Int32) (h : pv_H) : Option pv_O := pS X 4 (some .int) k_Md_fits 84 [some (.ref v0), some (.int v1), some (.int v2), some (.int v3), some (.int v4), some (.int v5), some (.int v6)] [.int s0] h
noncomputable def f_Md_fits_111 (X : pv_X) (v0 : Nat) (v1 : Int32) (v2 : Int32) (v3 : Int32) (v4 : Int32) (v5 : Int32) (o6 : Option Value) (s0 : Int32) (h : pv_H) : Option pv_O := pS X 4 (some .int) k_Md_fits 111 [some (.ref v0), some (.int v1), some (.int v2), some (.int v3), some (.int v4), some (.int v5), o6] [.int s0] h
set_option maxRecDepth 8000 in
theorem u_Md_fits_0 (X : pv_X) (v0 : Nat) (v1 : Int32) (h : pv_H) : f_Md_fits_0 X v0 v1 h =
    (pv_fp h v0 11 0 (.int 0)).bind (fun h1 => (pv_tI (pM X m_Md_within [.int v1, .int 0, .int 2] h1)).bind (fun q2 => if ¬ q2.1 = 0 then f_Md_fits_27 X v0 v1 0 (-1) (-1) 20 none q2.2 else some (some (.int (-1)), q2.2))) := by
  show pS X 4 (some .int) k_Md_fits 0 [some (.ref v0), some (.int v1), none, none, none, none, none] [] h = _
  refine (ss_aload_n rfl rfl).trans ?_
  refine (ss_iconst rfl (v := 0) rfl).trans ?_
  refine (ss_putI rfl).trans ?_
  refine congrArg (Option.bind _) (funext fun h1 => ?_)
  refine (ss_iload_n rfl rfl).trans ?_
  refine (ss_iconst rfl (v := 0) rfl).trans ?_
  refine (ss_iconst rfl (v := 2) rfl).trans ?_
  refine (ss_callSI (as := [.int v1, .int 0, .int 2]) rfl t_Md_within (by decide) rfl rfl (by decide) (Or.inr rfl) ⟨Nat.le_of_ble_eq_true rfl, Nat.le_of_ble_eq_true rfl⟩).trans ?_
  refine congrArg (Option.bind _) (funext fun q2 => ?_)
  refine (ss_if_ne rfl).trans ?_
  refine pv_ite ?_ ?_
  · refine (ss_iconst rfl (v := 0) rfl).trans ?_
    refine (ss_istore_n rfl rfl).trans ?_
    refine (ss_iconst rfl (v := (-1)) rfl).trans ?_
    refine (ss_istore_n rfl rfl).trans ?_
    refine (ss_iconst rfl (v := (-1)) rfl).trans ?_
    refine (ss_istore rfl rfl).trans ?_
    refine (ss_bipush rfl (v := 20) rfl).trans ?_
    refine (ss_istore rfl rfl).trans ?_
    rfl
  · refine (ss_iconst rfl (v := (-1)) rfl).trans ?_
    exact ss_ireturn rfl
set_option maxRecDepth 8000 in
theorem u_Md_fits_27 (X : pv_X) (v0 : Nat) (v1 : Int32) (v2 : Int32) (v3 : Int32) (v4 : Int32) (v5 : Int32) (o6 : Option Value) (h : pv_H) : f_Md_fits_27 X v0 v1 v2 v3 v4 v5 o6 h =
    if 160 < v5 then if ¬ v1 = 0 then if ¬ v1 = 1 then f_Md_fits_111 X v0 v1 v2 v3 v4 v5 o6 v4 h else f_Md_fits_111 X v0 v1 v2 v3 v4 v5 o6 v3 h else f_Md_fits_111 X v0 v1 v2 v3 v4 v5 o6 v2 h else if pv_rc h v0 11 = true then (pv_tI (pM X m_Md_isTold [.ref v0, .int v5] h)).bind (fun q1 => if q1.1 = 0 then f_Md_fits_54 X v0 v1 v2 v3 v4 v5 q1.1 0 v2 q1.2 else f_Md_fits_54 X v0 v1 v2 v3 v4 v5 q1.1 1 v2 q1.2) else none := by
  show pS X 4 (some .int) k_Md_fits 27 [some (.ref v0), some (.int v1), some (.int v2), some (.int v3), some (.int v4), some (.int v5), o6] [] h = _
  refine (ss_iload rfl rfl).trans ?_
  refine (ss_sipush rfl (v := 160) rfl).trans ?_
  refine (ss_icmp_gt rfl).trans ?_
  refine pv_ite ?_ ?_
  · refine (ss_iload_n rfl rfl).trans ?_
    refine (ss_if_ne rfl).trans ?_
    refine pv_ite ?_ ?_
    · refine (ss_iload_n rfl rfl).trans ?_
      refine (ss_iconst rfl (v := 1) rfl).trans ?_
      refine (ss_icmp_ne rfl).trans ?_
      refine pv_ite ?_ ?_
      · refine (ss_iload rfl rfl).trans ?_
        rfl
      · refine (ss_iload_n rfl rfl).trans ?_
        refine (ss_goto rfl).trans ?_
        rfl
    · refine (ss_iload_n rfl rfl).trans ?_
      refine (ss_goto rfl).trans ?_
      rfl
  · refine (ss_aload_n rfl rfl).trans ?_
    refine (ss_iload rfl rfl).trans ?_
    refine (ss_callVI (as := [.int v5]) rfl t_Md_isTold (by decide) rfl rfl (by decide) (Or.inr rfl) ⟨Nat.le_of_ble_eq_true rfl, Nat.le_of_ble_eq_true rfl⟩).trans ?_
    refine pv_ite ?_ rfl
    refine congrArg (Option.bind _) (funext fun q1 => ?_)
    refine (ss_istore rfl rfl).trans ?_
    refine (ss_iload_n rfl rfl).trans ?_
    refine (ss_iload rfl rfl).trans ?_
    refine (ss_if_eq rfl).trans ?_
    refine pv_ite ?_ ?_
    · refine (ss_iconst rfl (v := 0) rfl).trans ?_
      rfl
    · refine (ss_iconst rfl (v := 1) rfl).trans ?_
      refine (ss_goto rfl).trans ?_
      rfl
set_option maxRecDepth 8000 in
theorem u_Md_fits_54 (X : pv_X) (v0 : Nat) (v1 : Int32) (v2 : Int32) (v3 : Int32) (v4 : Int32) (v5 : Int32) (v6 : Int32) (s0 : Int32) (s1 : Int32) (h : pv_H) : f_Md_fits_54 X v0 v1 v2 v3 v4 v5 v6 s0 s1 h =
    if v6 = 0 then f_Md_fits_70 X v0 v1 (s1 + s0) v3 v4 v5 v6 h else if 0 ≤ v3 then f_Md_fits_70 X v0 v1 (s1 + s0) v3 v4 v5 v6 h else f_Md_fits_71 X v0 v1 (s1 + s0) v3 v4 v5 v6 v5 h := by
  show pS X 4 (some .int) k_Md_fits 54 [some (.ref v0), some (.int v1), some (.int v2), some (.int v3), some (.int v4), some (.int v5), some (.int v6)] [.int s0, .int s1] h = _
  refine (ss_iadd rfl).trans ?_
  refine (ss_istore_n rfl rfl).trans ?_
  refine (ss_iload rfl rfl).trans ?_
  refine (ss_if_eq rfl).trans ?_
  refine pv_ite ?_ ?_
  · rfl
  · refine (ss_iload_n rfl rfl).trans ?_
    refine (ss_if_ge rfl).trans ?_
    refine pv_ite ?_ ?_
    · rfl
    · refine (ss_iload rfl rfl).trans ?_
      refine (ss_goto rfl).trans ?_
      rfl
set_option maxRecDepth 8000 in
theorem u_Md_fits_70 (X : pv_X) (v0 : Nat) (v1 : Int32) (v2 : Int32) (v3 : Int32) (v4 : Int32) (v5 : Int32) (v6 : Int32) (h : pv_H) : f_Md_fits_70 X v0 v1 v2 v3 v4 v5 v6 h =
    f_Md_fits_71 X v0 v1 v2 v3 v4 v5 v6 v3 h := by
  show pS X 4 (some .int) k_Md_fits 70 [some (.ref v0), some (.int v1), some (.int v2), some (.int v3), some (.int v4), some (.int v5), some (.int v6)] [] h = _
  refine (ss_iload_n rfl rfl).trans ?_
  rfl
set_option maxRecDepth 8000 in
theorem u_Md_fits_71 (X : pv_X) (v0 : Nat) (v1 : Int32) (v2 : Int32) (v3 : Int32) (v4 : Int32) (v5 : Int32) (v6 : Int32) (s0 : Int32) (h : pv_H) : f_Md_fits_71 X v0 v1 v2 v3 v4 v5 v6 s0 h =
    if v6 = 0 then f_Md_fits_84 X v0 v1 v2 s0 v4 v5 v6 v4 h else f_Md_fits_84 X v0 v1 v2 s0 v4 v5 v6 v5 h := by
  show pS X 4 (some .int) k_Md_fits 71 [some (.ref v0), some (.int v1), some (.int v2), some (.int v3), some (.int v4), some (.int v5), some (.int v6)] [.int s0] h = _
  refine (ss_istore_n rfl rfl).trans ?_
  refine (ss_iload rfl rfl).trans ?_
  refine (ss_if_eq rfl).trans ?_
  refine pv_ite ?_ ?_
  · refine (ss_iload rfl rfl).trans ?_
    rfl
  · refine (ss_iload rfl rfl).trans ?_
    refine (ss_goto rfl).trans ?_
    rfl
set_option maxRecDepth 8000 in
theorem u_Md_fits_84 (X : pv_X) (v0 : Nat) (v1 : Int32) (v2 : Int32) (v3 : Int32) (v4 : Int32) (v5 : Int32) (v6 : Int32) (s0 : Int32) (h : pv_H) : f_Md_fits_84 X v0 v1 v2 v3 v4 v5 v6 s0 h =
    f_Md_fits_27 X v0 v1 v2 v3 s0 (v5 + 1) (some (.int v6)) h := by
  show pS X 4 (some .int) k_Md_fits 84 [some (.ref v0), some (.int v1), some (.int v2), some (.int v3), some (.int v4), some (.int v5), some (.int v6)] [.int s0] h = _
  refine (ss_istore rfl rfl).trans ?_
  refine (ss_iinc3 rfl rfl (v := v5 + 1) (congrArg (HAdd.hAdd _) (show Int32.ofInt (1) = 1 by decide)) rfl).trans ?_
  refine (ss_goto rfl).trans ?_
  rfl
set_option maxRecDepth 8000 in
theorem u_Md_fits_111 (X : pv_X) (v0 : Nat) (v1 : Int32) (v2 : Int32) (v3 : Int32) (v4 : Int32) (v5 : Int32) (o6 : Option Value) (s0 : Int32) (h : pv_H) : f_Md_fits_111 X v0 v1 v2 v3 v4 v5 o6 s0 h =
    some (some (.int s0), h) := by
  show pS X 4 (some .int) k_Md_fits 111 [some (.ref v0), some (.int v1), some (.int v2), some (.int v3), some (.int v4), some (.int v5), o6] [.int s0] h = _
  exact ss_ireturn rfl
theorem e_Md_fits (X : pv_X) (v0 : Nat) (v1 : Int32) (h : pv_H) : pM X m_Md_fits [.ref v0, .int v1] h = f_Md_fits_0 X v0 v1 h := rfl
noncomputable def f_Md_when_0 (X : pv_X) (v0 : Nat) (h : pv_H) : Option pv_O := pS X 4 (some .int) k_Md_when 0 [some (.ref v0), none, none, none, none, none, none, none, none] [] h
noncomputable def f_Md_when_10 (X : pv_X) (v0 : Nat) (v1 : Int32) (v2 : Int32) (h : pv_H) : Option pv_O := pS X 4 (some .int) k_Md_when 10 [some (.ref v0), some (.int v1), some (.int v2), none, none, none, none, none, none] [] h
noncomputable def f_Md_when_31 (X : pv_X) (v0 : Nat) (v1 : Int32) (v2 : Int32) (s0 : Int32) (s1 : Int32) (h : pv_H) : Option pv_O := pS X 4 (some .int) k_Md_when 31 [some (.ref v0), some (.int v1), some (.int v2), none, none, none, none, none, none] [.int s0, .int s1] h
noncomputable def f_Md_when_46 (X : pv_X) (v0 : Nat) (v1 : Int32) (v2 : Int32) (v3 : Int32) (v4 : Int32) (o5 : Option Value) (o6 : Option Value) (o7 : Option Value) (o8 : Option Value) (h : pv_H) : Option pv_O := pS X 4 (some .int) k_Md_when 46 [some (.ref v0), some (.int v1), some (.int v2), some (.int v3), some (.int v4), o5, o6, o7, o8] [] h
noncomputable def f_Md_when_60 (X : pv_X) (v0 : Nat) (v1 : Int32) (v2 : Int32) (v3 : Int32) (v4 : Int32) (v5 : Int32) (v6 : Int32) (o7 : Option Value) (o8 : Option Value) (h : pv_H) : Option pv_O := pS X 4 (some .int) k_Md_when 60 [some (.ref v0), some (.int v1), some (.int v2), some (.int v3), some (.int v4), some (.int v5), some (.int v6), o7, o8] [] h
noncomputable def f_Md_when_75 (X : pv_X) (v0 : Nat) (v1 : Int32) (v2 : Int32) (v3 : Int32) (v4 : Int32) (v5 : Int32) (v6 : Int32) (v7 : Int32) (v8 : Int32) (h : pv_H) : Option pv_O := pS X 4 (some .int) k_Md_when 75 [some (.ref v0), some (.int v1), some (.int v2), some (.int v3), some (.int v4), some (.int v5), some (.int v6), some (.int v7), some (.int v8)] [] h
noncomputable def f_Md_when_124 (X : pv_X) (v0 : Nat) (v1 : Int32) (v2 : Int32) (v3 : Int32) (v4 : Int32) (v5 : Int32) (v6 : Int32) (v7 : Int32) (v8 : Int32) (s0 : Int32) (h : pv_H) : Option pv_O := pS X 4 (some .int) k_Md_when 124 [some (.ref v0), some (.int v1), some (.int v2), some (.int v3), some (.int v4), some (.int v5), some (.int v6), some (.int v7), some (.int v8)] [.int s0] h
noncomputable def f_Md_when_125 (X : pv_X) (v0 : Nat) (v1 : Int32) (v2 : Int32) (v3 : Int32) (v4 : Int32) (v5 : Int32) (v6 : Int32) (v7 : Int32) (v8 : Int32) (s0 : Int32) (s1 : Int32) (h : pv_H) : Option pv_O := pS X 4 (some .int) k_Md_when 125 [some (.ref v0), some (.int v1), some (.int v2), some (.int v3), some (.int v4), some (.int v5), some (.int v6), some (.int v7), some (.int v8)] [.int s0, .int s1] h
noncomputable def f_Md_when_148 (X : pv_X) (v0 : Nat) (v1 : Int32) (v2 : Int32) (v3 : Int32) (v4 : Int32) (v5 : Int32) (v6 : Int32) (v7 : Int32) (v8 : Int32) (s0 : Int32) (h : pv_H) : Option pv_O := pS X 4 (some .int) k_Md_when 148 [some (.ref v0), some (.int v1), some (.int v2), some (.int v3), some (.int v4), some (.int v5), some (.int v6), some (.int v7), some (.int v8)] [.int s0] h
noncomputable def f_Md_when_168 (X : pv_X) (v0 : Nat) (v1 : Int32) (v2 : Int32) (v3 : Int32) (v4 : Int32) (v5 : Int32) (v6 : Int32) (o7 : Option Value) (o8 : Option Value) (s0 : Int32) (h : pv_H) : Option pv_O := pS X 4 (some .int) k_Md_when 168 [some (.ref v0), some (.int v1), some (.int v2), some (.int v3), some (.int v4), some (.int v5), some (.int v6), o7, o8] [.int s0] h
noncomputable def f_Md_when_181 (X : pv_X) (v0 : Nat) (v1 : Int32) (v2 : Int32) (v3 : Int32) (v4 : Int32) (v5 : Int32) (v6 : Int32) (o7 : Option Value) (o8 : Option Value) (s0 : Int32) (h : pv_H) : Option pv_O := pS X 4 (some .int) k_Md_when 181 [some (.ref v0), some (.int v1), some (.int v2), some (.int v3), some (.int v4), some (.int v5), some (.int v6), o7, o8] [.int s0] h
set_option maxRecDepth 8000 in
theorem u_Md_when_0 (X : pv_X) (v0 : Nat) (h : pv_H) : f_Md_when_0 X v0 h =
    (pv_fp h v0 11 0 (.int 0)).bind (fun h1 => f_Md_when_10 X v0 0 20 h1) := by
  show pS X 4 (some .int) k_Md_when 0 [some (.ref v0), none, none, none, none, none, none, none, none] [] h = _
  refine (ss_aload_n rfl rfl).trans ?_
  refine (ss_iconst rfl (v := 0) rfl).trans ?_
  refine (ss_putI rfl).trans ?_
  refine congrArg (Option.bind _) (funext fun h1 => ?_)
  refine (ss_iconst rfl (v := 0) rfl).trans ?_
  refine (ss_istore_n rfl rfl).trans ?_
  refine (ss_bipush rfl (v := 20) rfl).trans ?_
  refine (ss_istore_n rfl rfl).trans ?_
  rfl
set_option maxRecDepth 8000 in
theorem u_Md_when_10 (X : pv_X) (v0 : Nat) (v1 : Int32) (v2 : Int32) (h : pv_H) : f_Md_when_10 X v0 v1 v2 h =
    if 160 < v2 then f_Md_when_46 X v0 v1 (-1) v1 1 none none none none h else if pv_rc h v0 11 = true then (pv_tI (pM X m_Md_isTold [.ref v0, .int v2] h)).bind (fun q1 => if q1.1 = 0 then f_Md_when_31 X v0 v1 v2 0 v1 q1.2 else f_Md_when_31 X v0 v1 v2 1 v1 q1.2) else none := by
  show pS X 4 (some .int) k_Md_when 10 [some (.ref v0), some (.int v1), some (.int v2), none, none, none, none, none, none] [] h = _
  refine (ss_iload_n rfl rfl).trans ?_
  refine (ss_sipush rfl (v := 160) rfl).trans ?_
  refine (ss_icmp_gt rfl).trans ?_
  refine pv_ite ?_ ?_
  · refine (ss_iconst rfl (v := (-1)) rfl).trans ?_
    refine (ss_istore_n rfl rfl).trans ?_
    refine (ss_iload_n rfl rfl).trans ?_
    refine (ss_istore_n rfl rfl).trans ?_
    refine (ss_iconst rfl (v := 1) rfl).trans ?_
    refine (ss_istore rfl rfl).trans ?_
    rfl
  · refine (ss_iload_n rfl rfl).trans ?_
    refine (ss_aload_n rfl rfl).trans ?_
    refine (ss_iload_n rfl rfl).trans ?_
    refine (ss_callVI (as := [.int v2]) rfl t_Md_isTold (by decide) rfl rfl (by simp [Value.category]) (Or.inr rfl) ⟨Nat.le_of_ble_eq_true rfl, Nat.le_of_ble_eq_true rfl⟩).trans ?_
    refine pv_ite ?_ rfl
    refine congrArg (Option.bind _) (funext fun q1 => ?_)
    refine (ss_if_eq rfl).trans ?_
    refine pv_ite ?_ ?_
    · refine (ss_iconst rfl (v := 0) rfl).trans ?_
      rfl
    · refine (ss_iconst rfl (v := 1) rfl).trans ?_
      refine (ss_goto rfl).trans ?_
      rfl
set_option maxRecDepth 8000 in
theorem u_Md_when_31 (X : pv_X) (v0 : Nat) (v1 : Int32) (v2 : Int32) (s0 : Int32) (s1 : Int32) (h : pv_H) : f_Md_when_31 X v0 v1 v2 s0 s1 h =
    f_Md_when_10 X v0 (s1 + s0) (v2 + 1) h := by
  show pS X 4 (some .int) k_Md_when 31 [some (.ref v0), some (.int v1), some (.int v2), none, none, none, none, none, none] [.int s0, .int s1] h = _
  refine (ss_iadd rfl).trans ?_
  refine (ss_istore_n rfl rfl).trans ?_
  refine (ss_iinc3 rfl rfl (v := v2 + 1) (congrArg (HAdd.hAdd _) (show Int32.ofInt (1) = 1 by decide)) rfl).trans ?_
  refine (ss_goto rfl).trans ?_
  rfl
set_option maxRecDepth 8000 in
theorem u_Md_when_46 (X : pv_X) (v0 : Nat) (v1 : Int32) (v2 : Int32) (v3 : Int32) (v4 : Int32) (o5 : Option Value) (o6 : Option Value) (o7 : Option Value) (o8 : Option Value) (h : pv_H) : f_Md_when_46 X v0 v1 v2 v3 v4 o5 o6 o7 o8 h =
    if 40 < v4 then some (some (.int v2), h) else f_Md_when_60 X v0 v1 v2 v3 v4 0 20 o7 o8 h := by
  show pS X 4 (some .int) k_Md_when 46 [some (.ref v0), some (.int v1), some (.int v2), some (.int v3), some (.int v4), o5, o6, o7, o8] [] h = _
  refine (ss_iload rfl rfl).trans ?_
  refine (ss_bipush rfl (v := 40) rfl).trans ?_
  refine (ss_icmp_gt rfl).trans ?_
  refine pv_ite ?_ ?_
  · refine (ss_iload_n rfl rfl).trans ?_
    exact ss_ireturn rfl
  · refine (ss_iconst rfl (v := 0) rfl).trans ?_
    refine (ss_istore rfl rfl).trans ?_
    refine (ss_bipush rfl (v := 20) rfl).trans ?_
    refine (ss_istore rfl rfl).trans ?_
    rfl
set_option maxRecDepth 8000 in
theorem u_Md_when_60 (X : pv_X) (v0 : Nat) (v1 : Int32) (v2 : Int32) (v3 : Int32) (v4 : Int32) (v5 : Int32) (v6 : Int32) (o7 : Option Value) (o8 : Option Value) (h : pv_H) : f_Md_when_60 X v0 v1 v2 v3 v4 v5 v6 o7 o8 h =
    if 160 < v6 then if v3 ≤ v5 then f_Md_when_168 X v0 v1 v2 v3 v4 v5 v6 o7 o8 v2 h else f_Md_when_168 X v0 v1 v2 v3 v4 v5 v6 o7 o8 v4 h else f_Md_when_75 X v0 v1 v2 v3 v4 v5 v6 0 20 h := by
  show pS X 4 (some .int) k_Md_when 60 [some (.ref v0), some (.int v1), some (.int v2), some (.int v3), some (.int v4), some (.int v5), some (.int v6), o7, o8] [] h = _
  refine (ss_iload rfl rfl).trans ?_
  refine (ss_sipush rfl (v := 160) rfl).trans ?_
  refine (ss_icmp_gt rfl).trans ?_
  refine pv_ite ?_ ?_
  · refine (ss_iload rfl rfl).trans ?_
    refine (ss_iload_n rfl rfl).trans ?_
    refine (ss_icmp_ge rfl).trans ?_
    refine pv_ite ?_ ?_
    · refine (ss_iload_n rfl rfl).trans ?_
      rfl
    · refine (ss_iload rfl rfl).trans ?_
      refine (ss_goto rfl).trans ?_
      rfl
  · refine (ss_iconst rfl (v := 0) rfl).trans ?_
    refine (ss_istore rfl rfl).trans ?_
    refine (ss_bipush rfl (v := 20) rfl).trans ?_
    refine (ss_istore rfl rfl).trans ?_
    rfl
set_option maxRecDepth 8000 in
theorem u_Md_when_75 (X : pv_X) (v0 : Nat) (v1 : Int32) (v2 : Int32) (v3 : Int32) (v4 : Int32) (v5 : Int32) (v6 : Int32) (v7 : Int32) (v8 : Int32) (h : pv_H) : f_Md_when_75 X v0 v1 v2 v3 v4 v5 v6 v7 v8 h =
    if 160 < v8 then if v7 ≤ v5 then f_Md_when_148 X v0 v1 v2 v3 v4 v5 v6 v7 v8 v5 h else f_Md_when_148 X v0 v1 v2 v3 v4 v5 v6 v7 v8 v7 h else if pv_rc h v0 11 = true then (pv_tI (pM X m_Md_isTold [.ref v0, .int v6] h)).bind (fun q1 => if q1.1 = 0 then f_Md_when_124 X v0 v1 v2 v3 v4 v5 v6 v7 v8 v7 q1.2 else if pv_rc q1.2 v0 11 = true then (pv_tI (pM X m_Md_isTold [.ref v0, .int v8] q1.2)).bind (fun q2 => if q2.1 = 0 then f_Md_when_124 X v0 v1 v2 v3 v4 v5 v6 v7 v8 v7 q2.2 else (pv_tI (pM X m_Md_outBy_2 [.int v8, .int v4] q2.2)).bind (fun q3 => (pv_tI (pM X m_Md_outBy_2 [.int v6, .int v4] q3.2)).bind (fun q4 => if ¬ q3.1 = q4.1 then f_Md_when_124 X v0 v1 v2 v3 v4 v5 v6 v7 v8 v7 q4.2 else f_Md_when_125 X v0 v1 v2 v3 v4 v5 v6 v7 v8 1 v7 q4.2))) else none) else none := by
  show pS X 4 (some .int) k_Md_when 75 [some (.ref v0), some (.int v1), some (.int v2), some (.int v3), some (.int v4), some (.int v5), some (.int v6), some (.int v7), some (.int v8)] [] h = _
  refine (ss_iload rfl rfl).trans ?_
  refine (ss_sipush rfl (v := 160) rfl).trans ?_
  refine (ss_icmp_gt rfl).trans ?_
  refine pv_ite ?_ ?_
  · refine (ss_iload rfl rfl).trans ?_
    refine (ss_iload rfl rfl).trans ?_
    refine (ss_icmp_le rfl).trans ?_
    refine pv_ite ?_ ?_
    · refine (ss_iload rfl rfl).trans ?_
      rfl
    · refine (ss_iload rfl rfl).trans ?_
      refine (ss_goto rfl).trans ?_
      rfl
  · refine (ss_iload rfl rfl).trans ?_
    refine (ss_aload_n rfl rfl).trans ?_
    refine (ss_iload rfl rfl).trans ?_
    refine (ss_callVI (as := [.int v6]) rfl t_Md_isTold (by decide) rfl rfl (by simp [Value.category]) (Or.inr rfl) ⟨Nat.le_of_ble_eq_true rfl, Nat.le_of_ble_eq_true rfl⟩).trans ?_
    refine pv_ite ?_ rfl
    refine congrArg (Option.bind _) (funext fun q1 => ?_)
    refine (ss_if_eq rfl).trans ?_
    refine pv_ite ?_ ?_
    · rfl
    · refine (ss_aload_n rfl rfl).trans ?_
      refine (ss_iload rfl rfl).trans ?_
      refine (ss_callVI (as := [.int v8]) rfl t_Md_isTold (by decide) rfl rfl (by simp [Value.category]) (Or.inr rfl) ⟨Nat.le_of_ble_eq_true rfl, Nat.le_of_ble_eq_true rfl⟩).trans ?_
      refine pv_ite ?_ rfl
      refine congrArg (Option.bind _) (funext fun q2 => ?_)
      refine (ss_if_eq rfl).trans ?_
      refine pv_ite ?_ ?_
      · rfl
      · refine (ss_iload rfl rfl).trans ?_
        refine (ss_iload rfl rfl).trans ?_
        refine (ss_callSI (as := [.int v8, .int v4]) rfl t_Md_outBy_2 (by decide) rfl rfl (by simp [Value.category]) (Or.inl rfl) ⟨Nat.le_of_ble_eq_true rfl, Nat.le_of_ble_eq_true rfl⟩).trans ?_
        refine congrArg (Option.bind _) (funext fun q3 => ?_)
        refine (ss_iload rfl rfl).trans ?_
        refine (ss_iload rfl rfl).trans ?_
        refine (ss_callSI (as := [.int v6, .int v4]) rfl t_Md_outBy_2 (by decide) rfl rfl (by simp [Value.category]) (Or.inl rfl) ⟨Nat.le_of_ble_eq_true rfl, Nat.le_of_ble_eq_true rfl⟩).trans ?_
        refine congrArg (Option.bind _) (funext fun q4 => ?_)
        refine (ss_icmp_ne rfl).trans ?_
        refine pv_ite ?_ ?_
        · rfl
        · refine (ss_iconst rfl (v := 1) rfl).trans ?_
          refine (ss_goto rfl).trans ?_
          rfl
set_option maxRecDepth 8000 in
theorem u_Md_when_124 (X : pv_X) (v0 : Nat) (v1 : Int32) (v2 : Int32) (v3 : Int32) (v4 : Int32) (v5 : Int32) (v6 : Int32) (v7 : Int32) (v8 : Int32) (s0 : Int32) (h : pv_H) : f_Md_when_124 X v0 v1 v2 v3 v4 v5 v6 v7 v8 s0 h =
    f_Md_when_125 X v0 v1 v2 v3 v4 v5 v6 v7 v8 0 s0 h := by
  show pS X 4 (some .int) k_Md_when 124 [some (.ref v0), some (.int v1), some (.int v2), some (.int v3), some (.int v4), some (.int v5), some (.int v6), some (.int v7), some (.int v8)] [.int s0] h = _
  refine (ss_iconst rfl (v := 0) rfl).trans ?_
  rfl
set_option maxRecDepth 8000 in
theorem u_Md_when_125 (X : pv_X) (v0 : Nat) (v1 : Int32) (v2 : Int32) (v3 : Int32) (v4 : Int32) (v5 : Int32) (v6 : Int32) (v7 : Int32) (v8 : Int32) (s0 : Int32) (s1 : Int32) (h : pv_H) : f_Md_when_125 X v0 v1 v2 v3 v4 v5 v6 v7 v8 s0 s1 h =
    f_Md_when_75 X v0 v1 v2 v3 v4 v5 v6 (s1 + s0) (v8 + 1) h := by
  show pS X 4 (some .int) k_Md_when 125 [some (.ref v0), some (.int v1), some (.int v2), some (.int v3), some (.int v4), some (.int v5), some (.int v6), some (.int v7), some (.int v8)] [.int s0, .int s1] h = _
  refine (ss_iadd rfl).trans ?_
  refine (ss_istore rfl rfl).trans ?_
  refine (ss_iinc3 rfl rfl (v := v8 + 1) (congrArg (HAdd.hAdd _) (show Int32.ofInt (1) = 1 by decide)) rfl).trans ?_
  refine (ss_goto rfl).trans ?_
  rfl
set_option maxRecDepth 8000 in
theorem u_Md_when_148 (X : pv_X) (v0 : Nat) (v1 : Int32) (v2 : Int32) (v3 : Int32) (v4 : Int32) (v5 : Int32) (v6 : Int32) (v7 : Int32) (v8 : Int32) (s0 : Int32) (h : pv_H) : f_Md_when_148 X v0 v1 v2 v3 v4 v5 v6 v7 v8 s0 h =
    f_Md_when_60 X v0 v1 v2 v3 v4 s0 (v6 + 1) (some (.int v7)) (some (.int v8)) h := by
  show pS X 4 (some .int) k_Md_when 148 [some (.ref v0), some (.int v1), some (.int v2), some (.int v3), some (.int v4), some (.int v5), some (.int v6), some (.int v7), some (.int v8)] [.int s0] h = _
  refine (ss_istore rfl rfl).trans ?_
  refine (ss_iinc3 rfl rfl (v := v6 + 1) (congrArg (HAdd.hAdd _) (show Int32.ofInt (1) = 1 by decide)) rfl).trans ?_
  refine (ss_goto rfl).trans ?_
  rfl
set_option maxRecDepth 8000 in
theorem u_Md_when_168 (X : pv_X) (v0 : Nat) (v1 : Int32) (v2 : Int32) (v3 : Int32) (v4 : Int32) (v5 : Int32) (v6 : Int32) (o7 : Option Value) (o8 : Option Value) (s0 : Int32) (h : pv_H) : f_Md_when_168 X v0 v1 v2 v3 v4 v5 v6 o7 o8 s0 h =
    if v3 ≤ v5 then f_Md_when_181 X v0 v1 s0 v3 v4 v5 v6 o7 o8 v3 h else f_Md_when_181 X v0 v1 s0 v3 v4 v5 v6 o7 o8 v5 h := by
  show pS X 4 (some .int) k_Md_when 168 [some (.ref v0), some (.int v1), some (.int v2), some (.int v3), some (.int v4), some (.int v5), some (.int v6), o7, o8] [.int s0] h = _
  refine (ss_istore_n rfl rfl).trans ?_
  refine (ss_iload rfl rfl).trans ?_
  refine (ss_iload_n rfl rfl).trans ?_
  refine (ss_icmp_ge rfl).trans ?_
  refine pv_ite ?_ ?_
  · refine (ss_iload_n rfl rfl).trans ?_
    rfl
  · refine (ss_iload rfl rfl).trans ?_
    refine (ss_goto rfl).trans ?_
    rfl
set_option maxRecDepth 8000 in
theorem u_Md_when_181 (X : pv_X) (v0 : Nat) (v1 : Int32) (v2 : Int32) (v3 : Int32) (v4 : Int32) (v5 : Int32) (v6 : Int32) (o7 : Option Value) (o8 : Option Value) (s0 : Int32) (h : pv_H) : f_Md_when_181 X v0 v1 v2 v3 v4 v5 v6 o7 o8 s0 h =
    f_Md_when_46 X v0 v1 v2 s0 (v4 + 1) (some (.int v5)) (some (.int v6)) o7 o8 h := by
  show pS X 4 (some .int) k_Md_when 181 [some (.ref v0), some (.int v1), some (.int v2), some (.int v3), some (.int v4), some (.int v5), some (.int v6), o7, o8] [.int s0] h = _
  refine (ss_istore_n rfl rfl).trans ?_
  refine (ss_iinc3 rfl rfl (v := v4 + 1) (congrArg (HAdd.hAdd _) (show Int32.ofInt (1) = 1 by decide)) rfl).trans ?_
  refine (ss_goto rfl).trans ?_
  rfl
theorem e_Md_when (X : pv_X) (v0 : Nat) (h : pv_H) : pM X m_Md_when [.ref v0] h = f_Md_when_0 X v0 h := rfl
noncomputable def f_Md_comesOf_0 (X : pv_X) (v0 : Nat) (v1 : Int32) (h : pv_H) : Option pv_O := pS X 2 (some .int) k_Md_comesOf 0 [some (.ref v0), some (.int v1), none, none, none, none] [] h
noncomputable def f_Md_comesOf_4 (X : pv_X) (v0 : Nat) (v1 : Int32) (v2 : Int32) (v3 : Int32) (o4 : Option Value) (o5 : Option Value) (h : pv_H) : Option pv_O := pS X 2 (some .int) k_Md_comesOf 4 [some (.ref v0), some (.int v1), some (.int v2), some (.int v3), o4, o5] [] h
noncomputable def f_Md_comesOf_13 (X : pv_X) (v0 : Nat) (v1 : Int32) (v2 : Int32) (v3 : Int32) (v4 : Int32) (o5 : Option Value) (h : pv_H) : Option pv_O := pS X 2 (some .int) k_Md_comesOf 13 [some (.ref v0), some (.int v1), some (.int v2), some (.int v3), some (.int v4), o5] [] h
noncomputable def f_Md_comesOf_53 (X : pv_X) (v0 : Nat) (v1 : Int32) (v2 : Int32) (v3 : Int32) (v4 : Int32) (v5 : Int32) (s0 : Int32) (h : pv_H) : Option pv_O := pS X 2 (some .int) k_Md_comesOf 53 [some (.ref v0), some (.int v1), some (.int v2), some (.int v3), some (.int v4), some (.int v5)] [.int s0] h
noncomputable def f_Md_comesOf_60 (X : pv_X) (v0 : Nat) (v1 : Int32) (v2 : Int32) (v3 : Int32) (v4 : Int32) (v5 : Int32) (s0 : Int32) (h : pv_H) : Option pv_O := pS X 2 (some .int) k_Md_comesOf 60 [some (.ref v0), some (.int v1), some (.int v2), some (.int v3), some (.int v4), some (.int v5)] [.int s0] h
noncomputable def f_Md_comesOf_61 (X : pv_X) (v0 : Nat) (v1 : Int32) (v2 : Int32) (v3 : Int32) (v4 : Int32) (v5 : Int32) (s0 : Int32) (s1 : Int32) (h : pv_H) : Option pv_O := pS X 2 (some .int) k_Md_comesOf 61 [some (.ref v0), some (.int v1), some (.int v2), some (.int v3), some (.int v4), some (.int v5)] [.int s0, .int s1] h
set_option maxRecDepth 8000 in
theorem u_Md_comesOf_0 (X : pv_X) (v0 : Nat) (v1 : Int32) (h : pv_H) : f_Md_comesOf_0 X v0 v1 h =
    f_Md_comesOf_4 X v0 v1 0 0 none none h := by
  show pS X 2 (some .int) k_Md_comesOf 0 [some (.ref v0), some (.int v1), none, none, none, none] [] h = _
  refine (ss_iconst rfl (v := 0) rfl).trans ?_
  refine (ss_istore_n rfl rfl).trans ?_
  refine (ss_iconst rfl (v := 0) rfl).trans ?_
  refine (ss_istore_n rfl rfl).trans ?_
  rfl
set_option maxRecDepth 8000 in
theorem u_Md_comesOf_4 (X : pv_X) (v0 : Nat) (v1 : Int32) (v2 : Int32) (v3 : Int32) (o4 : Option Value) (o5 : Option Value) (h : pv_H) : f_Md_comesOf_4 X v0 v1 v2 v3 o4 o5 h =
    if 6 ≤ v3 then some (some (.int v2), h) else f_Md_comesOf_13 X v0 v1 v2 v3 0 o5 h := by
  show pS X 2 (some .int) k_Md_comesOf 4 [some (.ref v0), some (.int v1), some (.int v2), some (.int v3), o4, o5] [] h = _
  refine (ss_iload_n rfl rfl).trans ?_
  refine (ss_bipush rfl (v := 6) rfl).trans ?_
  refine (ss_icmp_ge rfl).trans ?_
  refine pv_ite ?_ ?_
  · refine (ss_iload_n rfl rfl).trans ?_
    exact ss_ireturn rfl
  · refine (ss_iconst rfl (v := 0) rfl).trans ?_
    refine (ss_istore rfl rfl).trans ?_
    rfl
set_option maxRecDepth 8000 in
theorem u_Md_comesOf_13 (X : pv_X) (v0 : Nat) (v1 : Int32) (v2 : Int32) (v3 : Int32) (v4 : Int32) (o5 : Option Value) (h : pv_H) : f_Md_comesOf_13 X v0 v1 v2 v3 v4 o5 h =
    if pv_rc h v0 11 = true then (pv_tI (pM X m_Md_persons [.ref v0] h)).bind (fun q1 => if q1.1 ≤ v4 then f_Md_comesOf_4 X v0 v1 v2 (v3 + 1) (some (.int v4)) o5 q1.2 else if pv_rc q1.2 v0 11 = true then (pv_tI (pM X m_Md_personOf [.ref v0, .int v4, .int 2] q1.2)).bind (fun q2 => if q2.1 < 0 then f_Md_comesOf_60 X v0 v1 v2 v3 v4 q2.1 v2 q2.2 else if q2.1 = v1 then f_Md_comesOf_53 X v0 v1 v2 v3 v4 q2.1 v2 q2.2 else if ¬ (((v2 : Int32) >>> (q2.1 &&& 31)) &&& 1) = 1 then f_Md_comesOf_60 X v0 v1 v2 v3 v4 q2.1 v2 q2.2 else f_Md_comesOf_53 X v0 v1 v2 v3 v4 q2.1 v2 q2.2) else none) else none := by
  show pS X 2 (some .int) k_Md_comesOf 13 [some (.ref v0), some (.int v1), some (.int v2), some (.int v3), some (.int v4), o5] [] h = _
  refine (ss_iload rfl rfl).trans ?_
  refine (ss_aload_n rfl rfl).trans ?_
  refine (ss_callVI (as := []) rfl t_Md_persons (by decide) rfl rfl (by simp [Value.category]) (Or.inl rfl) ⟨Nat.le_of_ble_eq_true rfl, Nat.le_of_ble_eq_true rfl⟩).trans ?_
  refine pv_ite ?_ rfl
  refine congrArg (Option.bind _) (funext fun q1 => ?_)
  refine (ss_icmp_ge rfl).trans ?_
  refine pv_ite ?_ ?_
  · refine (ss_iinc3 rfl rfl (v := v3 + 1) (congrArg (HAdd.hAdd _) (show Int32.ofInt (1) = 1 by decide)) rfl).trans ?_
    refine (ss_goto rfl).trans ?_
    rfl
  · refine (ss_aload_n rfl rfl).trans ?_
    refine (ss_iload rfl rfl).trans ?_
    refine (ss_iconst rfl (v := 2) rfl).trans ?_
    refine (ss_callVI (as := [.int v4, .int 2]) rfl t_Md_personOf (by decide) rfl rfl (by decide) (Or.inl rfl) ⟨Nat.le_of_ble_eq_true rfl, Nat.le_of_ble_eq_true rfl⟩).trans ?_
    refine pv_ite ?_ rfl
    refine congrArg (Option.bind _) (funext fun q2 => ?_)
    refine (ss_istore rfl rfl).trans ?_
    refine (ss_iload_n rfl rfl).trans ?_
    refine (ss_iload rfl rfl).trans ?_
    refine (ss_if_lt rfl).trans ?_
    refine pv_ite ?_ ?_
    · rfl
    · refine (ss_iload rfl rfl).trans ?_
      refine (ss_iload_n rfl rfl).trans ?_
      refine (ss_icmp_eq rfl).trans ?_
      refine pv_ite ?_ ?_
      · rfl
      · refine (ss_iload_n rfl rfl).trans ?_
        refine (ss_iload rfl rfl).trans ?_
        refine (ss_ishr rfl).trans ?_
        refine (ss_iconst rfl (v := 1) rfl).trans ?_
        refine (ss_iand rfl).trans ?_
        refine (ss_iconst rfl (v := 1) rfl).trans ?_
        refine (ss_icmp_ne rfl).trans ?_
        refine pv_ite ?_ ?_
        · rfl
        · rfl
set_option maxRecDepth 8000 in
theorem u_Md_comesOf_53 (X : pv_X) (v0 : Nat) (v1 : Int32) (v2 : Int32) (v3 : Int32) (v4 : Int32) (v5 : Int32) (s0 : Int32) (h : pv_H) : f_Md_comesOf_53 X v0 v1 v2 v3 v4 v5 s0 h =
    f_Md_comesOf_61 X v0 v1 v2 v3 v4 v5 ((1 : Int32) <<< (v4 &&& 31)) s0 h := by
  show pS X 2 (some .int) k_Md_comesOf 53 [some (.ref v0), some (.int v1), some (.int v2), some (.int v3), some (.int v4), some (.int v5)] [.int s0] h = _
  refine (ss_iconst rfl (v := 1) rfl).trans ?_
  refine (ss_iload rfl rfl).trans ?_
  refine (ss_ishl rfl).trans ?_
  refine (ss_goto rfl).trans ?_
  rfl
set_option maxRecDepth 8000 in
theorem u_Md_comesOf_60 (X : pv_X) (v0 : Nat) (v1 : Int32) (v2 : Int32) (v3 : Int32) (v4 : Int32) (v5 : Int32) (s0 : Int32) (h : pv_H) : f_Md_comesOf_60 X v0 v1 v2 v3 v4 v5 s0 h =
    f_Md_comesOf_61 X v0 v1 v2 v3 v4 v5 0 s0 h := by
  show pS X 2 (some .int) k_Md_comesOf 60 [some (.ref v0), some (.int v1), some (.int v2), some (.int v3), some (.int v4), some (.int v5)] [.int s0] h = _
  refine (ss_iconst rfl (v := 0) rfl).trans ?_
  rfl
set_option maxRecDepth 8000 in
theorem u_Md_comesOf_61 (X : pv_X) (v0 : Nat) (v1 : Int32) (v2 : Int32) (v3 : Int32) (v4 : Int32) (v5 : Int32) (s0 : Int32) (s1 : Int32) (h : pv_H) : f_Md_comesOf_61 X v0 v1 v2 v3 v4 v5 s0 s1 h =
    f_Md_comesOf_13 X v0 v1 (s1 ||| s0) v3 (v4 + 1) (some (.int v5)) h := by
  show pS X 2 (some .int) k_Md_comesOf 61 [some (.ref v0), some (.int v1), some (.int v2), some (.int v3), some (.int v4), some (.int v5)] [.int s0, .int s1] h = _
  refine (ss_ior rfl).trans ?_
  refine (ss_istore_n rfl rfl).trans ?_
  refine (ss_iinc3 rfl rfl (v := v4 + 1) (congrArg (HAdd.hAdd _) (show Int32.ofInt (1) = 1 by decide)) rfl).trans ?_
  refine (ss_goto rfl).trans ?_
  rfl
theorem e_Md_comesOf (X : pv_X) (v0 : Nat) (v1 : Int32) (h : pv_H) : pM X m_Md_comesOf [.ref v0, .int v1] h = f_Md_comesOf_0 X v0 v1 h := rfl
noncomputable def f_Md_comes_0 (X : pv_X) (v0 : Nat) (v1 : Int32) (h : pv_H) : Option pv_O := pS X 3 (some .int) k_Md_comes 0 [some (.ref v0), some (.int v1)] [] h
noncomputable def f_Md_comes_22 (X : pv_X) (v0 : Nat) (v1 : Int32) (s0 : Int32) (h : pv_H) : Option pv_O := pS X 3 (some .int) k_Md_comes 22 [some (.ref v0), some (.int v1)] [.int s0] h
set_option maxRecDepth 8000 in
theorem u_Md_comes_0 (X : pv_X) (v0 : Nat) (v1 : Int32) (h : pv_H) : f_Md_comes_0 X v0 v1 h =
    (pv_fp h v0 11 0 (.int 0)).bind (fun h1 => if pv_rc h1 v0 11 = true then (pv_tI (pM X m_Md_isPerson [.ref v0, .int v1] h1)).bind (fun q2 => if q2.1 = 0 then f_Md_comes_22 X v0 v1 (-1) q2.2 else if pv_rc q2.2 v0 11 = true then (pv_tI (pM X m_Md_comesOf [.ref v0, .int v1] q2.2)).bind (fun q3 => f_Md_comes_22 X v0 v1 q3.1 q3.2) else none) else none) := by
  show pS X 3 (some .int) k_Md_comes 0 [some (.ref v0), some (.int v1)] [] h = _
  refine (ss_aload_n rfl rfl).trans ?_
  refine (ss_iconst rfl (v := 0) rfl).trans ?_
  refine (ss_putI rfl).trans ?_
  refine congrArg (Option.bind _) (funext fun h1 => ?_)
  refine (ss_aload_n rfl rfl).trans ?_
  refine (ss_iload_n rfl rfl).trans ?_
  refine (ss_callVI (as := [.int v1]) rfl t_Md_isPerson (by decide) rfl rfl (by decide) (Or.inr rfl) ⟨Nat.le_of_ble_eq_true rfl, Nat.le_of_ble_eq_true rfl⟩).trans ?_
  refine pv_ite ?_ rfl
  refine congrArg (Option.bind _) (funext fun q2 => ?_)
  refine (ss_if_eq rfl).trans ?_
  refine pv_ite ?_ ?_
  · refine (ss_iconst rfl (v := (-1)) rfl).trans ?_
    rfl
  · refine (ss_aload_n rfl rfl).trans ?_
    refine (ss_iload_n rfl rfl).trans ?_
    refine (ss_callVI (as := [.int v1]) rfl t_Md_comesOf (by decide) rfl rfl (by decide) (Or.inl rfl) ⟨Nat.le_of_ble_eq_true rfl, Nat.le_of_ble_eq_true rfl⟩).trans ?_
    refine pv_ite ?_ rfl
    refine congrArg (Option.bind _) (funext fun q3 => ?_)
    refine (ss_goto rfl).trans ?_
    rfl
set_option maxRecDepth 8000 in
theorem u_Md_comes_22 (X : pv_X) (v0 : Nat) (v1 : Int32) (s0 : Int32) (h : pv_H) : f_Md_comes_22 X v0 v1 s0 h =
    some (some (.int s0), h) := by
  show pS X 3 (some .int) k_Md_comes 22 [some (.ref v0), some (.int v1)] [.int s0] h = _
  exact ss_ireturn rfl
theorem e_Md_comes (X : pv_X) (v0 : Nat) (v1 : Int32) (h : pv_H) : pM X m_Md_comes [.ref v0, .int v1] h = f_Md_comes_0 X v0 v1 h := rfl
noncomputable def f_Md_rings_0 (X : pv_X) (v0 : Nat) (h : pv_H) : Option pv_O := pS X 3 (some .int) k_Md_rings 0 [some (.ref v0), none, none] [] h
noncomputable def f_Md_rings_9 (X : pv_X) (v0 : Nat) (v1 : Int32) (v2 : Int32) (h : pv_H) : Option pv_O := pS X 3 (some .int) k_Md_rings 9 [some (.ref v0), some (.int v1), some (.int v2)] [] h
set_option maxRecDepth 8000 in
theorem u_Md_rings_0 (X : pv_X) (v0 : Nat) (h : pv_H) : f_Md_rings_0 X v0 h =
    (pv_fp h v0 11 0 (.int 0)).bind (fun h1 => f_Md_rings_9 X v0 0 0 h1) := by
  show pS X 3 (some .int) k_Md_rings 0 [some (.ref v0), none, none] [] h = _
  refine (ss_aload_n rfl rfl).trans ?_
  refine (ss_iconst rfl (v := 0) rfl).trans ?_
  refine (ss_putI rfl).trans ?_
  refine congrArg (Option.bind _) (funext fun h1 => ?_)
  refine (ss_iconst rfl (v := 0) rfl).trans ?_
  refine (ss_istore_n rfl rfl).trans ?_
  refine (ss_iconst rfl (v := 0) rfl).trans ?_
  refine (ss_istore_n rfl rfl).trans ?_
  rfl
set_option maxRecDepth 8000 in
theorem u_Md_rings_9 (X : pv_X) (v0 : Nat) (v1 : Int32) (v2 : Int32) (h : pv_H) : f_Md_rings_9 X v0 v1 v2 h =
    if pv_rc h v0 11 = true then (pv_tI (pM X m_Md_persons [.ref v0] h)).bind (fun q1 => if q1.1 ≤ v2 then some (some (.int v1), q1.2) else if pv_rc q1.2 v0 11 = true then (pv_tI (pM X m_Md_comesOf [.ref v0, .int v2] q1.2)).bind (fun q2 => f_Md_rings_9 X v0 (v1 ||| (q2.1 &&& ((1 : Int32) <<< (v2 &&& 31)))) (v2 + 1) q2.2) else none) else none := by
  show pS X 3 (some .int) k_Md_rings 9 [some (.ref v0), some (.int v1), some (.int v2)] [] h = _
  refine (ss_iload_n rfl rfl).trans ?_
  refine (ss_aload_n rfl rfl).trans ?_
  refine (ss_callVI (as := []) rfl t_Md_persons (by decide) rfl rfl (by simp [Value.category]) (Or.inl rfl) ⟨Nat.le_of_ble_eq_true rfl, Nat.le_of_ble_eq_true rfl⟩).trans ?_
  refine pv_ite ?_ rfl
  refine congrArg (Option.bind _) (funext fun q1 => ?_)
  refine (ss_icmp_ge rfl).trans ?_
  refine pv_ite ?_ ?_
  · refine (ss_iload_n rfl rfl).trans ?_
    exact ss_ireturn rfl
  · refine (ss_iload_n rfl rfl).trans ?_
    refine (ss_aload_n rfl rfl).trans ?_
    refine (ss_iload_n rfl rfl).trans ?_
    refine (ss_callVI (as := [.int v2]) rfl t_Md_comesOf (by decide) rfl rfl (by simp [Value.category]) (Or.inl rfl) ⟨Nat.le_of_ble_eq_true rfl, Nat.le_of_ble_eq_true rfl⟩).trans ?_
    refine pv_ite ?_ rfl
    refine congrArg (Option.bind _) (funext fun q2 => ?_)
    refine (ss_iconst rfl (v := 1) rfl).trans ?_
    refine (ss_iload_n rfl rfl).trans ?_
    refine (ss_ishl rfl).trans ?_
    refine (ss_iand rfl).trans ?_
    refine (ss_ior rfl).trans ?_
    refine (ss_istore_n rfl rfl).trans ?_
    refine (ss_iinc3 rfl rfl (v := v2 + 1) (congrArg (HAdd.hAdd _) (show Int32.ofInt (1) = 1 by decide)) rfl).trans ?_
    refine (ss_goto rfl).trans ?_
    rfl
theorem e_Md_rings (X : pv_X) (v0 : Nat) (h : pv_H) : pM X m_Md_rings [.ref v0] h = f_Md_rings_0 X v0 h := rfl
noncomputable def f_Md_calm_0 (X : pv_X) (v0 : Nat) (h : pv_H) : Option pv_O := pS X 2 (some .int) k_Md_calm 0 [some (.ref v0), none, none] [] h
noncomputable def f_Md_calm_9 (X : pv_X) (v0 : Nat) (v1 : Int32) (v2 : Int32) (h : pv_H) : Option pv_O := pS X 2 (some .int) k_Md_calm 9 [some (.ref v0), some (.int v1), some (.int v2)] [] h
noncomputable def f_Md_calm_40 (X : pv_X) (v0 : Nat) (v1 : Int32) (v2 : Int32) (h : pv_H) : Option pv_O := pS X 2 (some .int) k_Md_calm 40 [some (.ref v0), some (.int v1), some (.int v2)] [] h
noncomputable def f_Md_calm_45 (X : pv_X) (v0 : Nat) (v1 : Int32) (v2 : Int32) (s0 : Int32) (h : pv_H) : Option pv_O := pS X 2 (some .int) k_Md_calm 45 [some (.ref v0), some (.int v1), some (.int v2)] [.int s0] h
set_option maxRecDepth 8000 in
theorem u_Md_calm_0 (X : pv_X) (v0 : Nat) (h : pv_H) : f_Md_calm_0 X v0 h =
    (pv_fp h v0 11 0 (.int 0)).bind (fun h1 => f_Md_calm_9 X v0 (-1) 0 h1) := by
  show pS X 2 (some .int) k_Md_calm 0 [some (.ref v0), none, none] [] h = _
  refine (ss_aload_n rfl rfl).trans ?_
  refine (ss_iconst rfl (v := 0) rfl).trans ?_
  refine (ss_putI rfl).trans ?_
  refine congrArg (Option.bind _) (funext fun h1 => ?_)
  refine (ss_iconst rfl (v := (-1)) rfl).trans ?_
  refine (ss_istore_n rfl rfl).trans ?_
  refine (ss_iconst rfl (v := 0) rfl).trans ?_
  refine (ss_istore_n rfl rfl).trans ?_
  rfl
set_option maxRecDepth 8000 in
theorem u_Md_calm_9 (X : pv_X) (v0 : Nat) (v1 : Int32) (v2 : Int32) (h : pv_H) : f_Md_calm_9 X v0 v1 v2 h =
    if pv_rc h v0 11 = true then (pv_tI (pM X m_Md_persons [.ref v0] h)).bind (fun q1 => if q1.1 ≤ v2 then some (some (.int v1), q1.2) else if v1 < 0 then f_Md_calm_40 X v0 v1 v2 q1.2 else (pv_fR q1.2 v0 11 21).bind (fun x2 => (pv_aX X q1.2 x2 (1 + v2)).bind (fun x3 => (pv_fR q1.2 v0 11 21).bind (fun x4 => (pv_aX X q1.2 x4 (1 + v1)).bind (fun x5 => if x5 ≤ x3 then f_Md_calm_45 X v0 v1 v2 v1 q1.2 else f_Md_calm_40 X v0 v1 v2 q1.2))))) else none := by
  show pS X 2 (some .int) k_Md_calm 9 [some (.ref v0), some (.int v1), some (.int v2)] [] h = _
  refine (ss_iload_n rfl rfl).trans ?_
  refine (ss_aload_n rfl rfl).trans ?_
  refine (ss_callVI (as := []) rfl t_Md_persons (by decide) rfl rfl (by simp [Value.category]) (Or.inl rfl) ⟨Nat.le_of_ble_eq_true rfl, Nat.le_of_ble_eq_true rfl⟩).trans ?_
  refine pv_ite ?_ rfl
  refine congrArg (Option.bind _) (funext fun q1 => ?_)
  refine (ss_icmp_ge rfl).trans ?_
  refine pv_ite ?_ ?_
  · refine (ss_iload_n rfl rfl).trans ?_
    exact ss_ireturn rfl
  · refine (ss_iload_n rfl rfl).trans ?_
    refine (ss_if_lt rfl).trans ?_
    refine pv_ite ?_ ?_
    · rfl
    · refine (ss_aload_n rfl rfl).trans ?_
      refine (ss_getR rfl).trans ?_
      refine congrArg (Option.bind _) (funext fun x2 => ?_)
      refine (ss_iconst rfl (v := 1) rfl).trans ?_
      refine (ss_iload_n rfl rfl).trans ?_
      refine (ss_iadd rfl).trans ?_
      refine (ss_iaload rfl).trans ?_
      refine congrArg (Option.bind _) (funext fun x3 => ?_)
      refine (ss_aload_n rfl rfl).trans ?_
      refine (ss_getR rfl).trans ?_
      refine congrArg (Option.bind _) (funext fun x4 => ?_)
      refine (ss_iconst rfl (v := 1) rfl).trans ?_
      refine (ss_iload_n rfl rfl).trans ?_
      refine (ss_iadd rfl).trans ?_
      refine (ss_iaload rfl).trans ?_
      refine congrArg (Option.bind _) (funext fun x5 => ?_)
      refine (ss_icmp_ge rfl).trans ?_
      refine pv_ite ?_ ?_
      · refine (ss_iload_n rfl rfl).trans ?_
        rfl
      · rfl
set_option maxRecDepth 8000 in
theorem u_Md_calm_40 (X : pv_X) (v0 : Nat) (v1 : Int32) (v2 : Int32) (h : pv_H) : f_Md_calm_40 X v0 v1 v2 h =
    f_Md_calm_45 X v0 v1 v2 v2 h := by
  show pS X 2 (some .int) k_Md_calm 40 [some (.ref v0), some (.int v1), some (.int v2)] [] h = _
  refine (ss_iload_n rfl rfl).trans ?_
  refine (ss_goto rfl).trans ?_
  rfl
set_option maxRecDepth 8000 in
theorem u_Md_calm_45 (X : pv_X) (v0 : Nat) (v1 : Int32) (v2 : Int32) (s0 : Int32) (h : pv_H) : f_Md_calm_45 X v0 v1 v2 s0 h =
    f_Md_calm_9 X v0 s0 (v2 + 1) h := by
  show pS X 2 (some .int) k_Md_calm 45 [some (.ref v0), some (.int v1), some (.int v2)] [.int s0] h = _
  refine (ss_istore_n rfl rfl).trans ?_
  refine (ss_iinc3 rfl rfl (v := v2 + 1) (congrArg (HAdd.hAdd _) (show Int32.ofInt (1) = 1 by decide)) rfl).trans ?_
  refine (ss_goto rfl).trans ?_
  rfl
theorem e_Md_calm (X : pv_X) (v0 : Nat) (h : pv_H) : pM X m_Md_calm [.ref v0] h = f_Md_calm_0 X v0 h := rfl
noncomputable def f_Md_chance_0 (X : pv_X) (v0 : Nat) (v1 : Int32) (v2 : Int32) (v3 : Int32) (v4 : Int32) (h : pv_H) : Option pv_O := pS X 4 (some .int) k_Md_chance 0 [some (.ref v0), some (.int v1), some (.int v2), some (.int v3), some (.int v4), none, none, none, none, none, none, none, none, none] [] h
noncomputable def f_Md_chance_44 (X : pv_X) (v0 : Nat) (v1 : Int32) (v2 : Int32) (v3 : Int32) (v4 : Int32) (h : pv_H) : Option pv_O := pS X 4 (some .int) k_Md_chance 44 [some (.ref v0), some (.int v1), some (.int v2), some (.int v3), some (.int v4), none, none, none, none, none, none, none, none, none] [] h
noncomputable def f_Md_chance_55 (X : pv_X) (v0 : Nat) (v1 : Int32) (v2 : Int32) (v3 : Int32) (v4 : Int32) (v5 : Int64) (v7 : Int64) (v9 : Int32) (h : pv_H) : Option pv_O := pS X 4 (some .int) k_Md_chance 55 [some (.ref v0), some (.int v1), some (.int v2), some (.int v3), some (.int v4), some (.long v5), none, some (.long v7), none, some (.int v9), none, none, none, none] [] h
noncomputable def f_Md_chance_78 (X : pv_X) (v0 : Nat) (v1 : Int32) (v2 : Int32) (v3 : Int32) (v4 : Int32) (v5 : Int64) (v7 : Int64) (v9 : Int32) (o10 : Option Value) (o12 : Option Value) (o13 : Option Value) (h : pv_H) : Option pv_O := pS X 4 (some .int) k_Md_chance 78 [some (.ref v0), some (.int v1), some (.int v2), some (.int v3), some (.int v4), some (.long v5), none, some (.long v7), none, some (.int v9), o10, none, o12, o13] [] h
noncomputable def f_Md_chance_96 (X : pv_X) (v0 : Nat) (v1 : Int32) (v2 : Int32) (v3 : Int32) (v4 : Int32) (v5 : Int64) (v7 : Int64) (v9 : Int32) (v10 : Int64) (v12 : Int32) (o13 : Option Value) (h : pv_H) : Option pv_O := pS X 4 (some .int) k_Md_chance 96 [some (.ref v0), some (.int v1), some (.int v2), some (.int v3), some (.int v4), some (.long v5), none, some (.long v7), none, some (.int v9), some (.long v10), none, some (.int v12), o13] [] h
noncomputable def f_Md_chance_118 (X : pv_X) (v0 : Nat) (v1 : Int32) (v2 : Int32) (v3 : Int32) (v4 : Int32) (v5 : Int64) (v7 : Int64) (v9 : Int32) (v10 : Int64) (v12 : Int32) (o13 : Option Value) (s0 : Int32) (h : pv_H) : Option pv_O := pS X 4 (some .int) k_Md_chance 118 [some (.ref v0), some (.int v1), some (.int v2), some (.int v3), some (.int v4), some (.long v5), none, some (.long v7), none, some (.int v9), some (.long v10), none, some (.int v12), o13] [.int s0] h
noncomputable def f_Md_chance_139 (X : pv_X) (v0 : Nat) (v1 : Int32) (v2 : Int32) (v3 : Int32) (v4 : Int32) (v5 : Int64) (v7 : Int64) (v9 : Int32) (v10 : Int64) (v12 : Int32) (v13 : Int32) (s0 : Int64) (s1 : Int64) (h : pv_H) : Option pv_O := pS X 4 (some .int) k_Md_chance 139 [some (.ref v0), some (.int v1), some (.int v2), some (.int v3), some (.int v4), some (.long v5), none, some (.long v7), none, some (.int v9), some (.long v10), none, some (.int v12), some (.int v13)] [.long s0, .long s1] h
noncomputable def f_Md_chance_158 (X : pv_X) (v0 : Nat) (v1 : Int32) (v2 : Int32) (v3 : Int32) (v4 : Int32) (v5 : Int64) (v7 : Int64) (v9 : Int32) (v10 : Int64) (v12 : Int32) (v13 : Int32) (s0 : Int32) (s1 : Int32) (s2 : Int32) (s3 : Nat) (h : pv_H) : Option pv_O := pS X 4 (some .int) k_Md_chance 158 [some (.ref v0), some (.int v1), some (.int v2), some (.int v3), some (.int v4), some (.long v5), none, some (.long v7), none, some (.int v9), some (.long v10), none, some (.int v12), some (.int v13)] [.int s0, .int s1, .int s2, .ref s3] h
noncomputable def f_Md_chance_197 (X : pv_X) (v0 : Nat) (v1 : Int32) (v2 : Int32) (v3 : Int32) (v4 : Int32) (v5 : Int64) (v7 : Int64) (v9 : Int32) (v10 : Int64) (v12 : Int32) (o13 : Option Value) (s0 : Int64) (s1 : Int64) (h : pv_H) : Option pv_O := pS X 4 (some .int) k_Md_chance 197 [some (.ref v0), some (.int v1), some (.int v2), some (.int v3), some (.int v4), some (.long v5), none, some (.long v7), none, some (.int v9), some (.long v10), none, some (.int v12), o13] [.long s0, .long s1] h
set_option maxRecDepth 8000 in
theorem u_Md_chance_0 (X : pv_X) (v0 : Nat) (v1 : Int32) (v2 : Int32) (v3 : Int32) (v4 : Int32) (h : pv_H) : f_Md_chance_0 X v0 v1 v2 v3 v4 h =
    (pv_fp h v0 11 0 (.int 0)).bind (fun h1 => if pv_rc h1 v0 11 = true then (pv_tI (pM X m_Md_isPerson [.ref v0, .int v1] h1)).bind (fun q2 => if q2.1 = 0 then f_Md_chance_44 X v0 v1 v2 v3 v4 q2.2 else (pv_tI (pM X m_Md_within [.int v2, .int 1, .int 60] q2.2)).bind (fun q3 => if q3.1 = 0 then f_Md_chance_44 X v0 v1 v2 v3 v4 q3.2 else (pv_tI (pM X m_Md_within [.int v3, .int 1, .int 6] q3.2)).bind (fun q4 => if q4.1 = 0 then f_Md_chance_44 X v0 v1 v2 v3 v4 q4.2 else (pv_tI (pM X m_Md_within [.int v4, .int 0, .int 10] q4.2)).bind (fun q5 => if ¬ q5.1 = 0 then f_Md_chance_55 X v0 v1 v2 v3 v4 1 0 0 q5.2 else f_Md_chance_44 X v0 v1 v2 v3 v4 q5.2)))) else none) := by
  show pS X 4 (some .int) k_Md_chance 0 [some (.ref v0), some (.int v1), some (.int v2), some (.int v3), some (.int v4), none, none, none, none, none, none, none, none, none] [] h = _
  refine (ss_aload_n rfl rfl).trans ?_
  refine (ss_iconst rfl (v := 0) rfl).trans ?_
  refine (ss_putI rfl).trans ?_
  refine congrArg (Option.bind _) (funext fun h1 => ?_)
  refine (ss_aload_n rfl rfl).trans ?_
  refine (ss_iload_n rfl rfl).trans ?_
  refine (ss_callVI (as := [.int v1]) rfl t_Md_isPerson (by decide) rfl rfl (by decide) (Or.inr rfl) ⟨Nat.le_of_ble_eq_true rfl, Nat.le_of_ble_eq_true rfl⟩).trans ?_
  refine pv_ite ?_ rfl
  refine congrArg (Option.bind _) (funext fun q2 => ?_)
  refine (ss_if_eq rfl).trans ?_
  refine pv_ite ?_ ?_
  · rfl
  · refine (ss_iload_n rfl rfl).trans ?_
    refine (ss_iconst rfl (v := 1) rfl).trans ?_
    refine (ss_bipush rfl (v := 60) rfl).trans ?_
    refine (ss_callSI (as := [.int v2, .int 1, .int 60]) rfl t_Md_within (by decide) rfl rfl (by decide) (Or.inr rfl) ⟨Nat.le_of_ble_eq_true rfl, Nat.le_of_ble_eq_true rfl⟩).trans ?_
    refine congrArg (Option.bind _) (funext fun q3 => ?_)
    refine (ss_if_eq rfl).trans ?_
    refine pv_ite ?_ ?_
    · rfl
    · refine (ss_iload_n rfl rfl).trans ?_
      refine (ss_iconst rfl (v := 1) rfl).trans ?_
      refine (ss_bipush rfl (v := 6) rfl).trans ?_
      refine (ss_callSI (as := [.int v3, .int 1, .int 6]) rfl t_Md_within (by decide) rfl rfl (by decide) (Or.inr rfl) ⟨Nat.le_of_ble_eq_true rfl, Nat.le_of_ble_eq_true rfl⟩).trans ?_
      refine congrArg (Option.bind _) (funext fun q4 => ?_)
      refine (ss_if_eq rfl).trans ?_
      refine pv_ite ?_ ?_
      · rfl
      · refine (ss_iload rfl rfl).trans ?_
        refine (ss_iconst rfl (v := 0) rfl).trans ?_
        refine (ss_bipush rfl (v := 10) rfl).trans ?_
        refine (ss_callSI (as := [.int v4, .int 0, .int 10]) rfl t_Md_within (by decide) rfl rfl (by decide) (Or.inr rfl) ⟨Nat.le_of_ble_eq_true rfl, Nat.le_of_ble_eq_true rfl⟩).trans ?_
        refine congrArg (Option.bind _) (funext fun q5 => ?_)
        refine (ss_if_ne rfl).trans ?_
        refine pv_ite ?_ ?_
        · refine (ss_lconst rfl (v := 1) rfl).trans ?_
          refine (ss_lstore rfl rfl).trans ?_
          refine (ss_lconst rfl (v := 0) rfl).trans ?_
          refine (ss_lstore rfl rfl).trans ?_
          refine (ss_iconst rfl (v := 0) rfl).trans ?_
          refine (ss_istore rfl rfl).trans ?_
          rfl
        · rfl
set_option maxRecDepth 8000 in
theorem u_Md_chance_44 (X : pv_X) (v0 : Nat) (v1 : Int32) (v2 : Int32) (v3 : Int32) (v4 : Int32) (h : pv_H) : f_Md_chance_44 X v0 v1 v2 v3 v4 h =
    some (some (.int (-1)), h) := by
  show pS X 4 (some .int) k_Md_chance 44 [some (.ref v0), some (.int v1), some (.int v2), some (.int v3), some (.int v4), none, none, none, none, none, none, none, none, none] [] h = _
  refine (ss_iconst rfl (v := (-1)) rfl).trans ?_
  exact ss_ireturn rfl
set_option maxRecDepth 8000 in
theorem u_Md_chance_55 (X : pv_X) (v0 : Nat) (v1 : Int32) (v2 : Int32) (v3 : Int32) (v4 : Int32) (v5 : Int64) (v7 : Int64) (v9 : Int32) (h : pv_H) : f_Md_chance_55 X v0 v1 v2 v3 v4 v5 v7 v9 h =
    if v3 ≤ v9 then f_Md_chance_78 X v0 v1 v2 v3 v4 v5 v7 0 none none none h else f_Md_chance_55 X v0 v1 v2 v3 v4 (v5 * 10) v7 (v9 + 1) h := by
  show pS X 4 (some .int) k_Md_chance 55 [some (.ref v0), some (.int v1), some (.int v2), some (.int v3), some (.int v4), some (.long v5), none, some (.long v7), none, some (.int v9), none, none, none, none] [] h = _
  refine (ss_iload rfl rfl).trans ?_
  refine (ss_iload_n rfl rfl).trans ?_
  refine (ss_icmp_ge rfl).trans ?_
  refine pv_ite ?_ ?_
  · refine (ss_iconst rfl (v := 0) rfl).trans ?_
    refine (ss_istore rfl rfl).trans ?_
    rfl
  · refine (ss_lload rfl rfl).trans ?_
    refine (ss_ldc2_w rfl (v := 10) rfl).trans ?_
    refine (ss_lmul rfl).trans ?_
    refine (ss_lstore rfl rfl).trans ?_
    refine (ss_iinc3 rfl rfl (v := v9 + 1) (congrArg (HAdd.hAdd _) (show Int32.ofInt (1) = 1 by decide)) rfl).trans ?_
    refine (ss_goto rfl).trans ?_
    rfl
set_option maxRecDepth 8000 in
theorem u_Md_chance_78 (X : pv_X) (v0 : Nat) (v1 : Int32) (v2 : Int32) (v3 : Int32) (v4 : Int32) (v5 : Int64) (v7 : Int64) (v9 : Int32) (o10 : Option Value) (o12 : Option Value) (o13 : Option Value) (h : pv_H) : f_Md_chance_78 X v0 v1 v2 v3 v4 v5 v7 v9 o10 o12 o13 h =
    if ((1 : Int32) <<< (v3 &&& 31)) ≤ v9 then if v5 = 0 then none else some (some (.int (((v7 * 1000000) / v5) : Int64).toInt32), h) else if pv_rc h v0 11 = true then (pv_tV (pM X m_Md_triesNow [.ref v0] h)).bind (fun h1 => f_Md_chance_96 X v0 v1 v2 v3 v4 v5 v7 v9 1 0 o13 h1) else none := by
  show pS X 4 (some .int) k_Md_chance 78 [some (.ref v0), some (.int v1), some (.int v2), some (.int v3), some (.int v4), some (.long v5), none, some (.long v7), none, some (.int v9), o10, none, o12, o13] [] h = _
  refine (ss_iload rfl rfl).trans ?_
  refine (ss_iconst rfl (v := 1) rfl).trans ?_
  refine (ss_iload_n rfl rfl).trans ?_
  refine (ss_ishl rfl).trans ?_
  refine (ss_icmp_ge rfl).trans ?_
  refine pv_ite ?_ ?_
  · refine (ss_lload rfl rfl).trans ?_
    refine (ss_ldc2_w rfl (v := 1000000) rfl).trans ?_
    refine (ss_lmul rfl).trans ?_
    refine (ss_lload rfl rfl).trans ?_
    refine (ss_ldivg rfl).trans ?_
    refine pv_ite rfl ?_
    refine (ss_l2i rfl).trans ?_
    exact ss_ireturn rfl
  · refine (ss_aload_n rfl rfl).trans ?_
    refine (ss_callVN (as := []) rfl t_Md_triesNow (by decide) rfl rfl (by decide) rfl ⟨Nat.le_of_ble_eq_true rfl, Nat.le_of_ble_eq_true rfl⟩).trans ?_
    refine pv_ite ?_ rfl
    refine congrArg (Option.bind _) (funext fun h1 => ?_)
    refine (ss_lconst rfl (v := 1) rfl).trans ?_
    refine (ss_lstore rfl rfl).trans ?_
    refine (ss_iconst rfl (v := 0) rfl).trans ?_
    refine (ss_istore rfl rfl).trans ?_
    rfl
set_option maxRecDepth 8000 in
theorem u_Md_chance_96 (X : pv_X) (v0 : Nat) (v1 : Int32) (v2 : Int32) (v3 : Int32) (v4 : Int32) (v5 : Int64) (v7 : Int64) (v9 : Int32) (v10 : Int64) (v12 : Int32) (o13 : Option Value) (h : pv_H) : f_Md_chance_96 X v0 v1 v2 v3 v4 v5 v7 v9 v10 v12 o13 h =
    if v3 ≤ v12 then if pv_rc h v0 11 = true then (pv_tI (pM X m_Md_outOf [.ref v0, .int 1071, .int v1] h)).bind (fun q1 => (pv_tI (pM X m_Md_unsigned [.int q1.1] q1.2)).bind (fun q2 => if q2.1 < v2 then f_Md_chance_197 X v0 v1 v2 v3 v4 v5 v7 v9 v10 v12 o13 0 v7 q2.2 else f_Md_chance_197 X v0 v1 v2 v3 v4 v5 v7 v9 v10 v12 o13 v10 v7 q2.2)) else none else if ¬ (((v9 : Int32) >>> (v12 &&& 31)) &&& 1) = 1 then f_Md_chance_118 X v0 v1 v2 v3 v4 v5 v7 v9 v10 v12 o13 0 h else f_Md_chance_118 X v0 v1 v2 v3 v4 v5 v7 v9 v10 v12 o13 1 h := by
  show pS X 4 (some .int) k_Md_chance 96 [some (.ref v0), some (.int v1), some (.int v2), some (.int v3), some (.int v4), some (.long v5), none, some (.long v7), none, some (.int v9), some (.long v10), none, some (.int v12), o13] [] h = _
  refine (ss_iload rfl rfl).trans ?_
  refine (ss_iload_n rfl rfl).trans ?_
  refine (ss_icmp_ge rfl).trans ?_
  refine pv_ite ?_ ?_
  · refine (ss_lload rfl rfl).trans ?_
    refine (ss_aload_n rfl rfl).trans ?_
    refine (ss_sipush rfl (v := 1071) rfl).trans ?_
    refine (ss_iload_n rfl rfl).trans ?_
    refine (ss_callVI (as := [.int 1071, .int v1]) rfl t_Md_outOf (by decide) rfl rfl (by simp [Value.category]) (Or.inl rfl) ⟨Nat.le_of_ble_eq_true rfl, Nat.le_of_ble_eq_true rfl⟩).trans ?_
    refine pv_ite ?_ rfl
    refine congrArg (Option.bind _) (funext fun q1 => ?_)
    refine (ss_callSI (as := [.int q1.1]) rfl t_Md_unsigned (by decide) rfl rfl (by simp [Value.category]) (Or.inl rfl) ⟨Nat.le_of_ble_eq_true rfl, Nat.le_of_ble_eq_true rfl⟩).trans ?_
    refine congrArg (Option.bind _) (funext fun q2 => ?_)
    refine (ss_iload_n rfl rfl).trans ?_
    refine (ss_icmp_lt rfl).trans ?_
    refine pv_ite ?_ ?_
    · refine (ss_lconst rfl (v := 0) rfl).trans ?_
      rfl
    · refine (ss_lload rfl rfl).trans ?_
      refine (ss_goto rfl).trans ?_
      rfl
  · refine (ss_iload rfl rfl).trans ?_
    refine (ss_iload rfl rfl).trans ?_
    refine (ss_ishr rfl).trans ?_
    refine (ss_iconst rfl (v := 1) rfl).trans ?_
    refine (ss_iand rfl).trans ?_
    refine (ss_iconst rfl (v := 1) rfl).trans ?_
    refine (ss_icmp_ne rfl).trans ?_
    refine pv_ite ?_ ?_
    · refine (ss_iconst rfl (v := 0) rfl).trans ?_
      rfl
    · refine (ss_iconst rfl (v := 1) rfl).trans ?_
      refine (ss_goto rfl).trans ?_
      rfl
set_option maxRecDepth 8000 in
theorem u_Md_chance_118 (X : pv_X) (v0 : Nat) (v1 : Int32) (v2 : Int32) (v3 : Int32) (v4 : Int32) (v5 : Int64) (v7 : Int64) (v9 : Int32) (v10 : Int64) (v12 : Int32) (o13 : Option Value) (s0 : Int32) (h : pv_H) : f_Md_chance_118 X v0 v1 v2 v3 v4 v5 v7 v9 v10 v12 o13 s0 h =
    if s0 = 0 then f_Md_chance_139 X v0 v1 v2 v3 v4 v5 v7 v9 v10 v12 s0 ((10 - v4) : Int32).toInt64 v10 h else f_Md_chance_139 X v0 v1 v2 v3 v4 v5 v7 v9 v10 v12 s0 (v4 : Int32).toInt64 v10 h := by
  show pS X 4 (some .int) k_Md_chance 118 [some (.ref v0), some (.int v1), some (.int v2), some (.int v3), some (.int v4), some (.long v5), none, some (.long v7), none, some (.int v9), some (.long v10), none, some (.int v12), o13] [.int s0] h = _
  refine (ss_istore rfl rfl).trans ?_
  refine (ss_lload rfl rfl).trans ?_
  refine (ss_iload rfl rfl).trans ?_
  refine (ss_if_eq rfl).trans ?_
  refine pv_ite ?_ ?_
  · refine (ss_bipush rfl (v := 10) rfl).trans ?_
    refine (ss_iload rfl rfl).trans ?_
    refine (ss_isub rfl).trans ?_
    refine (ss_i2l rfl).trans ?_
    rfl
  · refine (ss_iload rfl rfl).trans ?_
    refine (ss_i2l rfl).trans ?_
    refine (ss_goto rfl).trans ?_
    rfl
set_option maxRecDepth 8000 in
theorem u_Md_chance_139 (X : pv_X) (v0 : Nat) (v1 : Int32) (v2 : Int32) (v3 : Int32) (v4 : Int32) (v5 : Int64) (v7 : Int64) (v9 : Int32) (v10 : Int64) (v12 : Int32) (v13 : Int32) (s0 : Int64) (s1 : Int64) (h : pv_H) : f_Md_chance_139 X v0 v1 v2 v3 v4 v5 v7 v9 v10 v12 v13 s0 s1 h =
    if v13 = 0 then f_Md_chance_158 X v0 v1 v2 v3 v4 v5 v7 v9 (s1 * s0) v12 v13 0 v1 1071 v0 h else f_Md_chance_158 X v0 v1 v2 v3 v4 v5 v7 v9 (s1 * s0) v12 v13 20 v1 1071 v0 h := by
  show pS X 4 (some .int) k_Md_chance 139 [some (.ref v0), some (.int v1), some (.int v2), some (.int v3), some (.int v4), some (.long v5), none, some (.long v7), none, some (.int v9), some (.long v10), none, some (.int v12), some (.int v13)] [.long s0, .long s1] h = _
  refine (ss_lmul rfl).trans ?_
  refine (ss_lstore rfl rfl).trans ?_
  refine (ss_aload_n rfl rfl).trans ?_
  refine (ss_sipush rfl (v := 1071) rfl).trans ?_
  refine (ss_iload_n rfl rfl).trans ?_
  refine (ss_iload rfl rfl).trans ?_
  refine (ss_if_eq rfl).trans ?_
  refine pv_ite ?_ ?_
  · refine (ss_iconst rfl (v := 0) rfl).trans ?_
    rfl
  · refine (ss_bipush rfl (v := 20) rfl).trans ?_
    refine (ss_goto rfl).trans ?_
    rfl
set_option maxRecDepth 8000 in
theorem u_Md_chance_158 (X : pv_X) (v0 : Nat) (v1 : Int32) (v2 : Int32) (v3 : Int32) (v4 : Int32) (v5 : Int64) (v7 : Int64) (v9 : Int32) (v10 : Int64) (v12 : Int32) (v13 : Int32) (s0 : Int32) (s1 : Int32) (s2 : Int32) (s3 : Nat) (h : pv_H) : f_Md_chance_158 X v0 v1 v2 v3 v4 v5 v7 v9 v10 v12 v13 s0 s1 s2 s3 h =
    if pv_rc h s3 11 = true then (pv_tV (pM X m_Md_beatsMore [.ref s3, .int s2, .int s1, .int s0] h)).bind (fun h1 => if pv_rc h1 v0 11 = true then (pv_tV (pM X m_Md_passes_1 [.ref v0, .int 1071] h1)).bind (fun h2 => f_Md_chance_96 X v0 v1 v2 v3 v4 v5 v7 v9 v10 (v12 + 1) (some (.int v13)) h2) else none) else none := by
  show pS X 4 (some .int) k_Md_chance 158 [some (.ref v0), some (.int v1), some (.int v2), some (.int v3), some (.int v4), some (.long v5), none, some (.long v7), none, some (.int v9), some (.long v10), none, some (.int v12), some (.int v13)] [.int s0, .int s1, .int s2, .ref s3] h = _
  refine (ss_callVN (as := [.int s2, .int s1, .int s0]) rfl t_Md_beatsMore (by decide) rfl rfl (by decide) rfl ⟨Nat.le_of_ble_eq_true rfl, Nat.le_of_ble_eq_true rfl⟩).trans ?_
  refine pv_ite ?_ rfl
  refine congrArg (Option.bind _) (funext fun h1 => ?_)
  refine (ss_aload_n rfl rfl).trans ?_
  refine (ss_sipush rfl (v := 1071) rfl).trans ?_
  refine (ss_callVN (as := [.int 1071]) rfl t_Md_passes_1 (by decide) rfl rfl (by decide) rfl ⟨Nat.le_of_ble_eq_true rfl, Nat.le_of_ble_eq_true rfl⟩).trans ?_
  refine pv_ite ?_ rfl
  refine congrArg (Option.bind _) (funext fun h2 => ?_)
  refine (ss_iinc3 rfl rfl (v := v12 + 1) (congrArg (HAdd.hAdd _) (show Int32.ofInt (1) = 1 by decide)) rfl).trans ?_
  refine (ss_goto rfl).trans ?_
  rfl
set_option maxRecDepth 8000 in
theorem u_Md_chance_197 (X : pv_X) (v0 : Nat) (v1 : Int32) (v2 : Int32) (v3 : Int32) (v4 : Int32) (v5 : Int64) (v7 : Int64) (v9 : Int32) (v10 : Int64) (v12 : Int32) (o13 : Option Value) (s0 : Int64) (s1 : Int64) (h : pv_H) : f_Md_chance_197 X v0 v1 v2 v3 v4 v5 v7 v9 v10 v12 o13 s0 s1 h =
    f_Md_chance_78 X v0 v1 v2 v3 v4 v5 (s1 + s0) (v9 + 1) (some (.long v10)) (some (.int v12)) o13 h := by
  show pS X 4 (some .int) k_Md_chance 197 [some (.ref v0), some (.int v1), some (.int v2), some (.int v3), some (.int v4), some (.long v5), none, some (.long v7), none, some (.int v9), some (.long v10), none, some (.int v12), o13] [.long s0, .long s1] h = _
  refine (ss_ladd rfl).trans ?_
  refine (ss_lstore rfl rfl).trans ?_
  refine (ss_iinc3 rfl rfl (v := v9 + 1) (congrArg (HAdd.hAdd _) (show Int32.ofInt (1) = 1 by decide)) rfl).trans ?_
  refine (ss_goto rfl).trans ?_
  rfl
theorem e_Md_chance (X : pv_X) (v0 : Nat) (v1 : Int32) (v2 : Int32) (v3 : Int32) (v4 : Int32) (h : pv_H) : pM X m_Md_chance [.ref v0, .int v1, .int v2, .int v3, .int v4] h = f_Md_chance_0 X v0 v1 v2 v3 v4 h := rfl
noncomputable def f_Md_getsBy_0 (X : pv_X) (v0 : Int32) (v1 : Int32) (v2 : Int32) (v3 : Int32) (v4 : Int32) (h : pv_H) : Option pv_O := pS X 1 (some .int) k_Md_getsBy 0 [some (.int v0), some (.int v1), some (.int v2), some (.int v3), some (.int v4)] [] h
noncomputable def f_Md_getsBy_30 (X : pv_X) (v0 : Int32) (v1 : Int32) (v2 : Int32) (v3 : Int32) (v4 : Int32) (s0 : Int32) (h : pv_H) : Option pv_O := pS X 1 (some .int) k_Md_getsBy 30 [some (.int v0), some (.int v1), some (.int v2), some (.int v3), some (.int v4)] [.int s0] h
set_option maxRecDepth 8000 in
theorem u_Md_getsBy_0 (X : pv_X) (v0 : Int32) (v1 : Int32) (v2 : Int32) (v3 : Int32) (v4 : Int32) (h : pv_H) : f_Md_getsBy_0 X v0 v1 v2 v3 v4 h =
    if ¬ v0 = 1 then if ¬ v1 = 1 then f_Md_getsBy_30 X v0 v1 v2 v3 v4 0 h else f_Md_getsBy_30 X v0 v1 v2 v3 v4 v4 h else if ¬ v1 = 1 then f_Md_getsBy_30 X v0 v1 v2 v3 v4 (-v3) h else f_Md_getsBy_30 X v0 v1 v2 v3 v4 v2 h := by
  show pS X 1 (some .int) k_Md_getsBy 0 [some (.int v0), some (.int v1), some (.int v2), some (.int v3), some (.int v4)] [] h = _
  refine (ss_iload_n rfl rfl).trans ?_
  refine (ss_iconst rfl (v := 1) rfl).trans ?_
  refine (ss_icmp_ne rfl).trans ?_
  refine pv_ite ?_ ?_
  · refine (ss_iload_n rfl rfl).trans ?_
    refine (ss_iconst rfl (v := 1) rfl).trans ?_
    refine (ss_icmp_ne rfl).trans ?_
    refine pv_ite ?_ ?_
    · refine (ss_iconst rfl (v := 0) rfl).trans ?_
      rfl
    · refine (ss_iload rfl rfl).trans ?_
      refine (ss_goto rfl).trans ?_
      rfl
  · refine (ss_iload_n rfl rfl).trans ?_
    refine (ss_iconst rfl (v := 1) rfl).trans ?_
    refine (ss_icmp_ne rfl).trans ?_
    refine pv_ite ?_ ?_
    · refine (ss_iload_n rfl rfl).trans ?_
      refine (ss_ineg rfl).trans ?_
      refine (ss_goto rfl).trans ?_
      rfl
    · refine (ss_iload_n rfl rfl).trans ?_
      refine (ss_goto rfl).trans ?_
      rfl
set_option maxRecDepth 8000 in
theorem u_Md_getsBy_30 (X : pv_X) (v0 : Int32) (v1 : Int32) (v2 : Int32) (v3 : Int32) (v4 : Int32) (s0 : Int32) (h : pv_H) : f_Md_getsBy_30 X v0 v1 v2 v3 v4 s0 h =
    some (some (.int s0), h) := by
  show pS X 1 (some .int) k_Md_getsBy 30 [some (.int v0), some (.int v1), some (.int v2), some (.int v3), some (.int v4)] [.int s0] h = _
  exact ss_ireturn rfl
theorem e_Md_getsBy (X : pv_X) (v0 : Int32) (v1 : Int32) (v2 : Int32) (v3 : Int32) (v4 : Int32) (h : pv_H) : pM X m_Md_getsBy [.int v0, .int v1, .int v2, .int v3, .int v4] h = f_Md_getsBy_0 X v0 v1 v2 v3 v4 h := rfl
noncomputable def f_Md_rests_0 (X : pv_X) (v0 : Nat) (v1 : Int32) (v2 : Int32) (v3 : Int32) (v4 : Int32) (h : pv_H) : Option pv_O := pS X 2 (some .int) k_Md_rests 0 [some (.ref v0), some (.int v1), some (.int v2), some (.int v3), some (.int v4), none, none, none, none, none, none, none] [] h
noncomputable def f_Md_rests_40 (X : pv_X) (v0 : Nat) (v1 : Int32) (v2 : Int32) (v3 : Int32) (v4 : Int32) (h : pv_H) : Option pv_O := pS X 2 (some .int) k_Md_rests 40 [some (.ref v0), some (.int v1), some (.int v2), some (.int v3), some (.int v4), none, none, none, none, none, none, none] [] h
noncomputable def f_Md_rests_41 (X : pv_X) (v0 : Nat) (v1 : Int32) (v2 : Int32) (v3 : Int32) (v4 : Int32) (s0 : Int32) (h : pv_H) : Option pv_O := pS X 2 (some .int) k_Md_rests 41 [some (.ref v0), some (.int v1), some (.int v2), some (.int v3), some (.int v4), none, none, none, none, none, none, none] [.int s0] h
noncomputable def f_Md_rests_52 (X : pv_X) (v0 : Nat) (v1 : Int32) (v2 : Int32) (v3 : Int32) (v4 : Int32) (v5 : Int32) (v6 : Int32) (v7 : Int32) (v8 : Int32) (o9 : Option Value) (o10 : Option Value) (o11 : Option Value) (h : pv_H) : Option pv_O := pS X 2 (some .int) k_Md_rests 52 [some (.ref v0), some (.int v1), some (.int v2), some (.int v3), some (.int v4), some (.int v5), some (.int v6), some (.int v7), some (.int v8), o9, o10, o11] [] h
noncomputable def f_Md_rests_129 (X : pv_X) (v0 : Nat) (v1 : Int32) (v2 : Int32) (v3 : Int32) (v4 : Int32) (v5 : Int32) (v6 : Int32) (v7 : Int32) (v8 : Int32) (v9 : Int32) (v10 : Int32) (o11 : Option Value) (h : pv_H) : Option pv_O := pS X 2 (some .int) k_Md_rests 129 [some (.ref v0), some (.int v1), some (.int v2), some (.int v3), some (.int v4), some (.int v5), some (.int v6), some (.int v7), some (.int v8), some (.int v9), some (.int v10), o11] [] h
noncomputable def f_Md_rests_130 (X : pv_X) (v0 : Nat) (v1 : Int32) (v2 : Int32) (v3 : Int32) (v4 : Int32) (v5 : Int32) (v6 : Int32) (v7 : Int32) (v8 : Int32) (v9 : Int32) (v10 : Int32) (o11 : Option Value) (s0 : Int32) (h : pv_H) : Option pv_O := pS X 2 (some .int) k_Md_rests 130 [some (.ref v0), some (.int v1), some (.int v2), some (.int v3), some (.int v4), some (.int v5), some (.int v6), some (.int v7), some (.int v8), some (.int v9), some (.int v10), o11] [.int s0] h
noncomputable def f_Md_rests_149 (X : pv_X) (v0 : Nat) (v1 : Int32) (v2 : Int32) (v3 : Int32) (v4 : Int32) (v5 : Int32) (v6 : Int32) (v7 : Int32) (v8 : Int32) (v9 : Int32) (v10 : Int32) (v11 : Int32) (h : pv_H) : Option pv_O := pS X 2 (some .int) k_Md_rests 149 [some (.ref v0), some (.int v1), some (.int v2), some (.int v3), some (.int v4), some (.int v5), some (.int v6), some (.int v7), some (.int v8), some (.int v9), some (.int v10), some (.int v11)] [] h
noncomputable def f_Md_rests_151 (X : pv_X) (v0 : Nat) (v1 : Int32) (v2 : Int32) (v3 : Int32) (v4 : Int32) (v5 : Int32) (v6 : Int32) (v7 : Int32) (v8 : Int32) (v9 : Int32) (v10 : Int32) (v11 : Int32) (s0 : Int32) (h : pv_H) : Option pv_O := pS X 2 (some .int) k_Md_rests 151 [some (.ref v0), some (.int v1), some (.int v2), some (.int v3), some (.int v4), some (.int v5), some (.int v6), some (.int v7), some (.int v8), some (.int v9), some (.int v10), some (.int v11)] [.int s0] h
noncomputable def f_Md_rests_165 (X : pv_X) (v0 : Nat) (v1 : Int32) (v2 : Int32) (v3 : Int32) (v4 : Int32) (v5 : Int32) (v6 : Int32) (v7 : Int32) (v8 : Int32) (v9 : Int32) (v10 : Int32) (v11 : Int32) (s0 : Int32) (s1 : Int32) (h : pv_H) : Option pv_O := pS X 2 (some .int) k_Md_rests 165 [some (.ref v0), some (.int v1), some (.int v2), some (.int v3), some (.int v4), some (.int v5), some (.int v6), some (.int v7), some (.int v8), some (.int v9), some (.int v10), some (.int v11)] [.int s0, .int s1] h
noncomputable def f_Md_rests_174 (X : pv_X) (v0 : Nat) (v1 : Int32) (v2 : Int32) (v3 : Int32) (v4 : Int32) (v5 : Int32) (v6 : Int32) (v7 : Int32) (v8 : Int32) (o9 : Option Value) (o10 : Option Value) (o11 : Option Value) (h : pv_H) : Option pv_O := pS X 2 (some .int) k_Md_rests 174 [some (.ref v0), some (.int v1), some (.int v2), some (.int v3), some (.int v4), some (.int v5), some (.int v6), some (.int v7), some (.int v8), o9, o10, o11] [] h
noncomputable def f_Md_rests_190 (X : pv_X) (v0 : Nat) (v1 : Int32) (v2 : Int32) (v3 : Int32) (v4 : Int32) (v5 : Int32) (v6 : Int32) (v7 : Int32) (v8 : Int32) (o9 : Option Value) (o10 : Option Value) (o11 : Option Value) (s0 : Nat) (h : pv_H) : Option pv_O := pS X 2 (some .int) k_Md_rests 190 [some (.ref v0), some (.int v1), some (.int v2), some (.int v3), some (.int v4), some (.int v5), some (.int v6), some (.int v7), some (.int v8), o9, o10, o11] [.ref s0] h
noncomputable def f_Md_rests_194 (X : pv_X) (v0 : Nat) (v1 : Int32) (v2 : Int32) (v3 : Int32) (v4 : Int32) (v5 : Int32) (v6 : Int32) (v7 : Int32) (v8 : Int32) (o9 : Option Value) (o10 : Option Value) (o11 : Option Value) (s0 : Nat) (h : pv_H) : Option pv_O := pS X 2 (some .int) k_Md_rests 194 [some (.ref v0), some (.int v1), some (.int v2), some (.int v3), some (.int v4), some (.int v5), some (.int v6), some (.int v7), some (.int v8), o9, o10, o11] [.ref s0] h
noncomputable def f_Md_rests_195 (X : pv_X) (v0 : Nat) (v1 : Int32) (v2 : Int32) (v3 : Int32) (v4 : Int32) (v5 : Int32) (v6 : Int32) (v7 : Int32) (v8 : Int32) (o9 : Option Value) (o10 : Option Value) (o11 : Option Value) (s0 : Int32) (s1 : Nat) (h : pv_H) : Option pv_O := pS X 2 (some .int) k_Md_rests 195 [some (.ref v0), some (.int v1), some (.int v2), some (.int v3), some (.int v4), some (.int v5), some (.int v6), some (.int v7), some (.int v8), o9, o10, o11] [.int s0, .ref s1] h
noncomputable def f_Md_rests_221 (X : pv_X) (v0 : Nat) (v1 : Int32) (v2 : Int32) (v3 : Int32) (v4 : Int32) (v5 : Int32) (v6 : Int32) (v7 : Int32) (v8 : Int32) (o9 : Option Value) (o10 : Option Value) (o11 : Option Value) (s0 : Int32) (h : pv_H) : Option pv_O := pS X 2 (some .int) k_Md_rests 221 [some (.ref v0), some (.int v1), some (.int v2), some (.int v3), some (.int v4), some (.int v5), some (.int v6), some (.int v7), some (.int v8), o9, o10, o11] [.int s0] h
set_option maxRecDepth 8000 in
theorem u_Md_rests_0 (X : pv_X) (v0 : Nat) (v1 : Int32) (v2 : Int32) (v3 : Int32) (v4 : Int32) (h : pv_H) : f_Md_rests_0 X v0 v1 v2 v3 v4 h =
    (pv_tI (pM X m_Md_within [.int v1, .int 0, .int 9] h)).bind (fun q1 => if q1.1 = 0 then f_Md_rests_40 X v0 v1 v2 v3 v4 q1.2 else (pv_tI (pM X m_Md_within [.int v2, .int 0, .int 9] q1.2)).bind (fun q2 => if q2.1 = 0 then f_Md_rests_40 X v0 v1 v2 v3 v4 q2.2 else (pv_tI (pM X m_Md_within [.int v3, .int 0, .int 9] q2.2)).bind (fun q3 => if q3.1 = 0 then f_Md_rests_40 X v0 v1 v2 v3 v4 q3.2 else if v4 < (-1) then f_Md_rests_40 X v0 v1 v2 v3 v4 q3.2 else f_Md_rests_41 X v0 v1 v2 v3 v4 1 q3.2))) := by
  show pS X 2 (some .int) k_Md_rests 0 [some (.ref v0), some (.int v1), some (.int v2), some (.int v3), some (.int v4), none, none, none, none, none, none, none] [] h = _
  refine (ss_iload_n rfl rfl).trans ?_
  refine (ss_iconst rfl (v := 0) rfl).trans ?_
  refine (ss_bipush rfl (v := 9) rfl).trans ?_
  refine (ss_callSI (as := [.int v1, .int 0, .int 9]) rfl t_Md_within (by decide) rfl rfl (by decide) (Or.inr rfl) ⟨Nat.le_of_ble_eq_true rfl, Nat.le_of_ble_eq_true rfl⟩).trans ?_
  refine congrArg (Option.bind _) (funext fun q1 => ?_)
  refine (ss_if_eq rfl).trans ?_
  refine pv_ite ?_ ?_
  · rfl
  · refine (ss_iload_n rfl rfl).trans ?_
    refine (ss_iconst rfl (v := 0) rfl).trans ?_
    refine (ss_bipush rfl (v := 9) rfl).trans ?_
    refine (ss_callSI (as := [.int v2, .int 0, .int 9]) rfl t_Md_within (by decide) rfl rfl (by decide) (Or.inr rfl) ⟨Nat.le_of_ble_eq_true rfl, Nat.le_of_ble_eq_true rfl⟩).trans ?_
    refine congrArg (Option.bind _) (funext fun q2 => ?_)
    refine (ss_if_eq rfl).trans ?_
    refine pv_ite ?_ ?_
    · rfl
    · refine (ss_iload_n rfl rfl).trans ?_
      refine (ss_iconst rfl (v := 0) rfl).trans ?_
      refine (ss_bipush rfl (v := 9) rfl).trans ?_
      refine (ss_callSI (as := [.int v3, .int 0, .int 9]) rfl t_Md_within (by decide) rfl rfl (by decide) (Or.inr rfl) ⟨Nat.le_of_ble_eq_true rfl, Nat.le_of_ble_eq_true rfl⟩).trans ?_
      refine congrArg (Option.bind _) (funext fun q3 => ?_)
      refine (ss_if_eq rfl).trans ?_
      refine pv_ite ?_ ?_
      · rfl
      · refine (ss_iload rfl rfl).trans ?_
        refine (ss_iconst rfl (v := (-1)) rfl).trans ?_
        refine (ss_icmp_lt rfl).trans ?_
        refine pv_ite ?_ ?_
        · rfl
        · refine (ss_iconst rfl (v := 1) rfl).trans ?_
          refine (ss_goto rfl).trans ?_
          rfl
set_option maxRecDepth 8000 in
theorem u_Md_rests_40 (X : pv_X) (v0 : Nat) (v1 : Int32) (v2 : Int32) (v3 : Int32) (v4 : Int32) (h : pv_H) : f_Md_rests_40 X v0 v1 v2 v3 v4 h =
    f_Md_rests_41 X v0 v1 v2 v3 v4 0 h := by
  show pS X 2 (some .int) k_Md_rests 40 [some (.ref v0), some (.int v1), some (.int v2), some (.int v3), some (.int v4), none, none, none, none, none, none, none] [] h = _
  refine (ss_iconst rfl (v := 0) rfl).trans ?_
  rfl
set_option maxRecDepth 8000 in
theorem u_Md_rests_41 (X : pv_X) (v0 : Nat) (v1 : Int32) (v2 : Int32) (v3 : Int32) (v4 : Int32) (s0 : Int32) (h : pv_H) : f_Md_rests_41 X v0 v1 v2 v3 v4 s0 h =
    f_Md_rests_52 X v0 v1 v2 v3 v4 s0 0 (-1) 0 none none none h := by
  show pS X 2 (some .int) k_Md_rests 41 [some (.ref v0), some (.int v1), some (.int v2), some (.int v3), some (.int v4), none, none, none, none, none, none, none] [.int s0] h = _
  refine (ss_istore rfl rfl).trans ?_
  refine (ss_iconst rfl (v := 0) rfl).trans ?_
  refine (ss_istore rfl rfl).trans ?_
  refine (ss_iconst rfl (v := (-1)) rfl).trans ?_
  refine (ss_istore rfl rfl).trans ?_
  refine (ss_iconst rfl (v := 0) rfl).trans ?_
  refine (ss_istore rfl rfl).trans ?_
  rfl
set_option maxRecDepth 8000 in
theorem u_Md_rests_52 (X : pv_X) (v0 : Nat) (v1 : Int32) (v2 : Int32) (v3 : Int32) (v4 : Int32) (v5 : Int32) (v6 : Int32) (v7 : Int32) (v8 : Int32) (o9 : Option Value) (o10 : Option Value) (o11 : Option Value) (h : pv_H) : f_Md_rests_52 X v0 v1 v2 v3 v4 v5 v6 v7 v8 o9 o10 o11 h =
    if 4 ≤ v8 then f_Md_rests_174 X v0 v1 v2 v3 v4 v5 v6 v7 v8 o9 o10 o11 h else if v5 = 0 then f_Md_rests_174 X v0 v1 v2 v3 v4 v5 v6 v7 v8 o9 o10 o11 h else (pv_tI (pM X m_Md_getsBy [.int (1 - (v8 / 2)), .int (v8 - v8 / 2 * 2), .int v1, .int v2, .int v3] h)).bind (fun q1 => (pv_tI (pM X m_Md_getsBy [.int (v8 / 2), .int (v8 - v8 / 2 * 2), .int v1, .int v2, .int v3] q1.2)).bind (fun q2 => if q2.1 < q1.1 then f_Md_rests_129 X v0 v1 v2 v3 v4 v5 v6 v7 v8 (v8 / 2) (v8 - v8 / 2 * 2) o11 q2.2 else (pv_tI (pM X m_Md_getsBy [.int (1 - (v8 - v8 / 2 * 2)), .int (v8 / 2), .int v1, .int v2, .int v3] q2.2)).bind (fun q3 => (pv_tI (pM X m_Md_getsBy [.int (v8 - v8 / 2 * 2), .int (v8 / 2), .int v1, .int v2, .int v3] q3.2)).bind (fun q4 => if q4.1 < q3.1 then f_Md_rests_129 X v0 v1 v2 v3 v4 v5 v6 v7 v8 (v8 / 2) (v8 - v8 / 2 * 2) o11 q4.2 else f_Md_rests_130 X v0 v1 v2 v3 v4 v5 v6 v7 v8 (v8 / 2) (v8 - v8 / 2 * 2) o11 1 q4.2)))) := by
  show pS X 2 (some .int) k_Md_rests 52 [some (.ref v0), some (.int v1), some (.int v2), some (.int v3), some (.int v4), some (.int v5), some (.int v6), some (.int v7), some (.int v8), o9, o10, o11] [] h = _
  refine (ss_iload rfl rfl).trans ?_
  refine (ss_iconst rfl (v := 4) rfl).trans ?_
  refine (ss_icmp_ge rfl).trans ?_
  refine pv_ite ?_ ?_
  · rfl
  · refine (ss_iload rfl rfl).trans ?_
    refine (ss_if_eq rfl).trans ?_
    refine pv_ite ?_ ?_
    · rfl
    · refine (ss_iload rfl rfl).trans ?_
      refine (ss_iconst rfl (v := 2) rfl).trans ?_
      refine (ss_idiv rfl (by decide)).trans ?_
      refine (ss_istore rfl rfl).trans ?_
      refine (ss_iload rfl rfl).trans ?_
      refine (ss_iconst rfl (v := 2) rfl).trans ?_
      refine (ss_irem rfl (by decide)).trans ?_
      refine (ss_istore rfl rfl).trans ?_
      refine (ss_iconst rfl (v := 1) rfl).trans ?_
      refine (ss_iload rfl rfl).trans ?_
      refine (ss_isub rfl).trans ?_
      refine (ss_iload rfl rfl).trans ?_
      refine (ss_iload_n rfl rfl).trans ?_
      refine (ss_iload_n rfl rfl).trans ?_
      refine (ss_iload_n rfl rfl).trans ?_
      refine (ss_callSI (as := [.int (1 - (v8 / 2)), .int (v8 - v8 / 2 * 2), .int v1, .int v2, .int v3]) rfl t_Md_getsBy (by decide) rfl rfl (by decide) (Or.inl rfl) ⟨Nat.le_of_ble_eq_true rfl, Nat.le_of_ble_eq_true rfl⟩).trans ?_
      refine congrArg (Option.bind _) (funext fun q1 => ?_)
      refine (ss_iload rfl rfl).trans ?_
      refine (ss_iload rfl rfl).trans ?_
      refine (ss_iload_n rfl rfl).trans ?_
      refine (ss_iload_n rfl rfl).trans ?_
      refine (ss_iload_n rfl rfl).trans ?_
      refine (ss_callSI (as := [.int (v8 / 2), .int (v8 - v8 / 2 * 2), .int v1, .int v2, .int v3]) rfl t_Md_getsBy (by decide) rfl rfl (by simp [Value.category]) (Or.inl rfl) ⟨Nat.le_of_ble_eq_true rfl, Nat.le_of_ble_eq_true rfl⟩).trans ?_
      refine congrArg (Option.bind _) (funext fun q2 => ?_)
      refine (ss_icmp_gt rfl).trans ?_
      refine pv_ite ?_ ?_
      · rfl
      · refine (ss_iconst rfl (v := 1) rfl).trans ?_
        refine (ss_iload rfl rfl).trans ?_
        refine (ss_isub rfl).trans ?_
        refine (ss_iload rfl rfl).trans ?_
        refine (ss_iload_n rfl rfl).trans ?_
        refine (ss_iload_n rfl rfl).trans ?_
        refine (ss_iload_n rfl rfl).trans ?_
        refine (ss_callSI (as := [.int (1 - (v8 - v8 / 2 * 2)), .int (v8 / 2), .int v1, .int v2, .int v3]) rfl t_Md_getsBy (by decide) rfl rfl (by decide) (Or.inl rfl) ⟨Nat.le_of_ble_eq_true rfl, Nat.le_of_ble_eq_true rfl⟩).trans ?_
        refine congrArg (Option.bind _) (funext fun q3 => ?_)
        refine (ss_iload rfl rfl).trans ?_
        refine (ss_iload rfl rfl).trans ?_
        refine (ss_iload_n rfl rfl).trans ?_
        refine (ss_iload_n rfl rfl).trans ?_
        refine (ss_iload_n rfl rfl).trans ?_
        refine (ss_callSI (as := [.int (v8 - v8 / 2 * 2), .int (v8 / 2), .int v1, .int v2, .int v3]) rfl t_Md_getsBy (by decide) rfl rfl (by simp [Value.category]) (Or.inl rfl) ⟨Nat.le_of_ble_eq_true rfl, Nat.le_of_ble_eq_true rfl⟩).trans ?_
        refine congrArg (Option.bind _) (funext fun q4 => ?_)
        refine (ss_icmp_gt rfl).trans ?_
        refine pv_ite ?_ ?_
        · rfl
        · refine (ss_iconst rfl (v := 1) rfl).trans ?_
          refine (ss_goto rfl).trans ?_
          rfl
set_option maxRecDepth 8000 in
theorem u_Md_rests_129 (X : pv_X) (v0 : Nat) (v1 : Int32) (v2 : Int32) (v3 : Int32) (v4 : Int32) (v5 : Int32) (v6 : Int32) (v7 : Int32) (v8 : Int32) (v9 : Int32) (v10 : Int32) (o11 : Option Value) (h : pv_H) : f_Md_rests_129 X v0 v1 v2 v3 v4 v5 v6 v7 v8 v9 v10 o11 h =
    f_Md_rests_130 X v0 v1 v2 v3 v4 v5 v6 v7 v8 v9 v10 o11 0 h := by
  show pS X 2 (some .int) k_Md_rests 129 [some (.ref v0), some (.int v1), some (.int v2), some (.int v3), some (.int v4), some (.int v5), some (.int v6), some (.int v7), some (.int v8), some (.int v9), some (.int v10), o11] [] h = _
  refine (ss_iconst rfl (v := 0) rfl).trans ?_
  rfl
set_option maxRecDepth 8000 in
theorem u_Md_rests_130 (X : pv_X) (v0 : Nat) (v1 : Int32) (v2 : Int32) (v3 : Int32) (v4 : Int32) (v5 : Int32) (v6 : Int32) (v7 : Int32) (v8 : Int32) (v9 : Int32) (v10 : Int32) (o11 : Option Value) (s0 : Int32) (h : pv_H) : f_Md_rests_130 X v0 v1 v2 v3 v4 v5 v6 v7 v8 v9 v10 o11 s0 h =
    if s0 = 0 then f_Md_rests_149 X v0 v1 v2 v3 v4 v5 v6 v7 v8 v9 v10 s0 h else if ¬ v6 = v4 then f_Md_rests_149 X v0 v1 v2 v3 v4 v5 v6 v7 v8 v9 v10 s0 h else f_Md_rests_151 X v0 v1 v2 v3 v4 v5 v6 v7 v8 v9 v10 s0 v8 h := by
  show pS X 2 (some .int) k_Md_rests 130 [some (.ref v0), some (.int v1), some (.int v2), some (.int v3), some (.int v4), some (.int v5), some (.int v6), some (.int v7), some (.int v8), some (.int v9), some (.int v10), o11] [.int s0] h = _
  refine (ss_istore rfl rfl).trans ?_
  refine (ss_iload rfl rfl).trans ?_
  refine (ss_if_eq rfl).trans ?_
  refine pv_ite ?_ ?_
  · rfl
  · refine (ss_iload rfl rfl).trans ?_
    refine (ss_iload rfl rfl).trans ?_
    refine (ss_icmp_ne rfl).trans ?_
    refine pv_ite ?_ ?_
    · rfl
    · refine (ss_iload rfl rfl).trans ?_
      refine (ss_goto rfl).trans ?_
      rfl
set_option maxRecDepth 8000 in
theorem u_Md_rests_149 (X : pv_X) (v0 : Nat) (v1 : Int32) (v2 : Int32) (v3 : Int32) (v4 : Int32) (v5 : Int32) (v6 : Int32) (v7 : Int32) (v8 : Int32) (v9 : Int32) (v10 : Int32) (v11 : Int32) (h : pv_H) : f_Md_rests_149 X v0 v1 v2 v3 v4 v5 v6 v7 v8 v9 v10 v11 h =
    f_Md_rests_151 X v0 v1 v2 v3 v4 v5 v6 v7 v8 v9 v10 v11 v7 h := by
  show pS X 2 (some .int) k_Md_rests 149 [some (.ref v0), some (.int v1), some (.int v2), some (.int v3), some (.int v4), some (.int v5), some (.int v6), some (.int v7), some (.int v8), some (.int v9), some (.int v10), some (.int v11)] [] h = _
  refine (ss_iload rfl rfl).trans ?_
  rfl
set_option maxRecDepth 8000 in
theorem u_Md_rests_151 (X : pv_X) (v0 : Nat) (v1 : Int32) (v2 : Int32) (v3 : Int32) (v4 : Int32) (v5 : Int32) (v6 : Int32) (v7 : Int32) (v8 : Int32) (v9 : Int32) (v10 : Int32) (v11 : Int32) (s0 : Int32) (h : pv_H) : f_Md_rests_151 X v0 v1 v2 v3 v4 v5 v6 v7 v8 v9 v10 v11 s0 h =
    if v11 = 0 then f_Md_rests_165 X v0 v1 v2 v3 v4 v5 v6 s0 v8 v9 v10 v11 0 v6 h else f_Md_rests_165 X v0 v1 v2 v3 v4 v5 v6 s0 v8 v9 v10 v11 1 v6 h := by
  show pS X 2 (some .int) k_Md_rests 151 [some (.ref v0), some (.int v1), some (.int v2), some (.int v3), some (.int v4), some (.int v5), some (.int v6), some (.int v7), some (.int v8), some (.int v9), some (.int v10), some (.int v11)] [.int s0] h = _
  refine (ss_istore rfl rfl).trans ?_
  refine (ss_iload rfl rfl).trans ?_
  refine (ss_iload rfl rfl).trans ?_
  refine (ss_if_eq rfl).trans ?_
  refine pv_ite ?_ ?_
  · refine (ss_iconst rfl (v := 0) rfl).trans ?_
    rfl
  · refine (ss_iconst rfl (v := 1) rfl).trans ?_
    refine (ss_goto rfl).trans ?_
    rfl
set_option maxRecDepth 8000 in
theorem u_Md_rests_165 (X : pv_X) (v0 : Nat) (v1 : Int32) (v2 : Int32) (v3 : Int32) (v4 : Int32) (v5 : Int32) (v6 : Int32) (v7 : Int32) (v8 : Int32) (v9 : Int32) (v10 : Int32) (v11 : Int32) (s0 : Int32) (s1 : Int32) (h : pv_H) : f_Md_rests_165 X v0 v1 v2 v3 v4 v5 v6 v7 v8 v9 v10 v11 s0 s1 h =
    f_Md_rests_52 X v0 v1 v2 v3 v4 v5 (s1 + s0) v7 (v8 + 1) (some (.int v9)) (some (.int v10)) (some (.int v11)) h := by
  show pS X 2 (some .int) k_Md_rests 165 [some (.ref v0), some (.int v1), some (.int v2), some (.int v3), some (.int v4), some (.int v5), some (.int v6), some (.int v7), some (.int v8), some (.int v9), some (.int v10), some (.int v11)] [.int s0, .int s1] h = _
  refine (ss_iadd rfl).trans ?_
  refine (ss_istore rfl rfl).trans ?_
  refine (ss_iinc3 rfl rfl (v := v8 + 1) (congrArg (HAdd.hAdd _) (show Int32.ofInt (1) = 1 by decide)) rfl).trans ?_
  refine (ss_goto rfl).trans ?_
  rfl
set_option maxRecDepth 8000 in
theorem u_Md_rests_174 (X : pv_X) (v0 : Nat) (v1 : Int32) (v2 : Int32) (v3 : Int32) (v4 : Int32) (v5 : Int32) (v6 : Int32) (v7 : Int32) (v8 : Int32) (o9 : Option Value) (o10 : Option Value) (o11 : Option Value) (h : pv_H) : f_Md_rests_174 X v0 v1 v2 v3 v4 v5 v6 v7 v8 o9 o10 o11 h =
    if v5 = 0 then f_Md_rests_194 X v0 v1 v2 v3 v4 v5 v6 v7 v8 o9 o10 o11 v0 h else if v4 < 0 then f_Md_rests_190 X v0 v1 v2 v3 v4 v5 v6 v7 v8 o9 o10 o11 v0 h else if v7 < 0 then f_Md_rests_194 X v0 v1 v2 v3 v4 v5 v6 v7 v8 o9 o10 o11 v0 h else f_Md_rests_190 X v0 v1 v2 v3 v4 v5 v6 v7 v8 o9 o10 o11 v0 h := by
  show pS X 2 (some .int) k_Md_rests 174 [some (.ref v0), some (.int v1), some (.int v2), some (.int v3), some (.int v4), some (.int v5), some (.int v6), some (.int v7), some (.int v8), o9, o10, o11] [] h = _
  refine (ss_aload_n rfl rfl).trans ?_
  refine (ss_iload rfl rfl).trans ?_
  refine (ss_if_eq rfl).trans ?_
  refine pv_ite ?_ ?_
  · rfl
  · refine (ss_iload rfl rfl).trans ?_
    refine (ss_if_lt rfl).trans ?_
    refine pv_ite ?_ ?_
    · rfl
    · refine (ss_iload rfl rfl).trans ?_
      refine (ss_if_lt rfl).trans ?_
      refine pv_ite ?_ ?_
      · rfl
      · rfl
set_option maxRecDepth 8000 in
theorem u_Md_rests_190 (X : pv_X) (v0 : Nat) (v1 : Int32) (v2 : Int32) (v3 : Int32) (v4 : Int32) (v5 : Int32) (v6 : Int32) (v7 : Int32) (v8 : Int32) (o9 : Option Value) (o10 : Option Value) (o11 : Option Value) (s0 : Nat) (h : pv_H) : f_Md_rests_190 X v0 v1 v2 v3 v4 v5 v6 v7 v8 o9 o10 o11 s0 h =
    f_Md_rests_195 X v0 v1 v2 v3 v4 v5 v6 v7 v8 o9 o10 o11 0 s0 h := by
  show pS X 2 (some .int) k_Md_rests 190 [some (.ref v0), some (.int v1), some (.int v2), some (.int v3), some (.int v4), some (.int v5), some (.int v6), some (.int v7), some (.int v8), o9, o10, o11] [.ref s0] h = _
  refine (ss_iconst rfl (v := 0) rfl).trans ?_
  refine (ss_goto rfl).trans ?_
  rfl
set_option maxRecDepth 8000 in
theorem u_Md_rests_194 (X : pv_X) (v0 : Nat) (v1 : Int32) (v2 : Int32) (v3 : Int32) (v4 : Int32) (v5 : Int32) (v6 : Int32) (v7 : Int32) (v8 : Int32) (o9 : Option Value) (o10 : Option Value) (o11 : Option Value) (s0 : Nat) (h : pv_H) : f_Md_rests_194 X v0 v1 v2 v3 v4 v5 v6 v7 v8 o9 o10 o11 s0 h =
    f_Md_rests_195 X v0 v1 v2 v3 v4 v5 v6 v7 v8 o9 o10 o11 1 s0 h := by
  show pS X 2 (some .int) k_Md_rests 194 [some (.ref v0), some (.int v1), some (.int v2), some (.int v3), some (.int v4), some (.int v5), some (.int v6), some (.int v7), some (.int v8), o9, o10, o11] [.ref s0] h = _
  refine (ss_iconst rfl (v := 1) rfl).trans ?_
  rfl
set_option maxRecDepth 8000 in
theorem u_Md_rests_195 (X : pv_X) (v0 : Nat) (v1 : Int32) (v2 : Int32) (v3 : Int32) (v4 : Int32) (v5 : Int32) (v6 : Int32) (v7 : Int32) (v8 : Int32) (o9 : Option Value) (o10 : Option Value) (o11 : Option Value) (s0 : Int32) (s1 : Nat) (h : pv_H) : f_Md_rests_195 X v0 v1 v2 v3 v4 v5 v6 v7 v8 o9 o10 o11 s0 s1 h =
    (pv_fp h s1 11 0 (.int s0)).bind (fun h1 => (pv_fI h1 v0 11 0).bind (fun x2 => if x2 ≤ 0 then if 0 ≤ v4 then f_Md_rests_221 X v0 v1 v2 v3 v4 v5 v6 v7 v8 o9 o10 o11 v7 h1 else f_Md_rests_221 X v0 v1 v2 v3 v4 v5 v6 v7 v8 o9 o10 o11 v6 h1 else f_Md_rests_221 X v0 v1 v2 v3 v4 v5 v6 v7 v8 o9 o10 o11 0 h1)) := by
  show pS X 2 (some .int) k_Md_rests 195 [some (.ref v0), some (.int v1), some (.int v2), some (.int v3), some (.int v4), some (.int v5), some (.int v6), some (.int v7), some (.int v8), o9, o10, o11] [.int s0, .ref s1] h = _
  refine (ss_putI rfl).trans ?_
  refine congrArg (Option.bind _) (funext fun h1 => ?_)
  refine (ss_aload_n rfl rfl).trans ?_
  refine (ss_getI rfl).trans ?_
  refine congrArg (Option.bind _) (funext fun x2 => ?_)
  refine (ss_if_le rfl).trans ?_
  refine pv_ite ?_ ?_
  · refine (ss_iload rfl rfl).trans ?_
    refine (ss_if_ge rfl).trans ?_
    refine pv_ite ?_ ?_
    · refine (ss_iload rfl rfl).trans ?_
      rfl
    · refine (ss_iload rfl rfl).trans ?_
      refine (ss_goto rfl).trans ?_
      rfl
  · refine (ss_iconst rfl (v := 0) rfl).trans ?_
    refine (ss_goto rfl).trans ?_
    rfl
set_option maxRecDepth 8000 in
theorem u_Md_rests_221 (X : pv_X) (v0 : Nat) (v1 : Int32) (v2 : Int32) (v3 : Int32) (v4 : Int32) (v5 : Int32) (v6 : Int32) (v7 : Int32) (v8 : Int32) (o9 : Option Value) (o10 : Option Value) (o11 : Option Value) (s0 : Int32) (h : pv_H) : f_Md_rests_221 X v0 v1 v2 v3 v4 v5 v6 v7 v8 o9 o10 o11 s0 h =
    some (some (.int s0), h) := by
  show pS X 2 (some .int) k_Md_rests 221 [some (.ref v0), some (.int v1), some (.int v2), some (.int v3), some (.int v4), some (.int v5), some (.int v6), some (.int v7), some (.int v8), o9, o10, o11] [.int s0] h = _
  exact ss_ireturn rfl
theorem e_Md_rests (X : pv_X) (v0 : Nat) (v1 : Int32) (v2 : Int32) (v3 : Int32) (v4 : Int32) (h : pv_H) : pM X m_Md_rests [.ref v0, .int v1, .int v2, .int v3, .int v4] h = f_Md_rests_0 X v0 v1 v2 v3 v4 h := rfl
noncomputable def f_Md_draw_0 (X : pv_X) (v0 : Nat) (v1 : Int32) (h : pv_H) : Option pv_O := pS X 1 (some .int) k_Md_draw 0 [some (.ref v0), some (.int v1)] [] h
set_option maxRecDepth 8000 in
theorem u_Md_draw_0 (X : pv_X) (v0 : Nat) (v1 : Int32) (h : pv_H) : f_Md_draw_0 X v0 v1 h =
    (pv_fJ h v0 11 29).bind (fun x1 => (pv_fp h v0 11 29 (.long (((x1 * 1103515245) + 12345) - ((x1 * 1103515245) + 12345) / 2147483648 * 2147483648))).bind (fun h2 => (pv_fJ h2 v0 11 29).bind (fun x3 => if (v1 : Int32).toInt64 = 0 then none else some (some (.int (((x3 / 65536) - (x3 / 65536) / (v1 : Int32).toInt64 * (v1 : Int32).toInt64) : Int64).toInt32), h2)))) := by
  show pS X 1 (some .int) k_Md_draw 0 [some (.ref v0), some (.int v1)] [] h = _
  refine (ss_aload_n rfl rfl).trans ?_
  refine (ss_aload_n rfl rfl).trans ?_
  refine (ss_getJ rfl).trans ?_
  refine congrArg (Option.bind _) (funext fun x1 => ?_)
  refine (ss_ldc2_w rfl (v := 1103515245) rfl).trans ?_
  refine (ss_lmul rfl).trans ?_
  refine (ss_ldc2_w rfl (v := 12345) rfl).trans ?_
  refine (ss_ladd rfl).trans ?_
  refine (ss_ldc2_w rfl (v := 2147483648) rfl).trans ?_
  refine (ss_lrem rfl (by decide)).trans ?_
  refine (ss_putJ rfl).trans ?_
  refine congrArg (Option.bind _) (funext fun h2 => ?_)
  refine (ss_aload_n rfl rfl).trans ?_
  refine (ss_getJ rfl).trans ?_
  refine congrArg (Option.bind _) (funext fun x3 => ?_)
  refine (ss_ldc2_w rfl (v := 65536) rfl).trans ?_
  refine (ss_ldiv rfl (by decide)).trans ?_
  refine (ss_iload_n rfl rfl).trans ?_
  refine (ss_i2l rfl).trans ?_
  refine (ss_lremg rfl).trans ?_
  refine pv_ite rfl ?_
  refine (ss_l2i rfl).trans ?_
  exact ss_ireturn rfl
theorem e_Md_draw (X : pv_X) (v0 : Nat) (v1 : Int32) (h : pv_H) : pM X m_Md_draw [.ref v0, .int v1] h = f_Md_draw_0 X v0 v1 h := rfl
noncomputable def f_Md_drawsDeed_0 (X : pv_X) (v0 : Nat) (h : pv_H) : Option pv_O := pS X 3 (none) k_Md_drawsDeed 0 [some (.ref v0), none, none, none] [] h
noncomputable def f_Md_drawsDeed_42 (X : pv_X) (v0 : Nat) (v1 : Int32) (v2 : Int32) (v3 : Int32) (h : pv_H) : Option pv_O := pS X 3 (none) k_Md_drawsDeed 42 [some (.ref v0), some (.int v1), some (.int v2), some (.int v3)] [] h
noncomputable def f_Md_drawsDeed_84 (X : pv_X) (v0 : Nat) (v1 : Int32) (v2 : Int32) (v3 : Int32) (s0 : Int32) (s1 : Int32) (s2 : Int32) (s3 : Nat) (h : pv_H) : Option pv_O := pS X 3 (none) k_Md_drawsDeed 84 [some (.ref v0), some (.int v1), some (.int v2), some (.int v3)] [.int s0, .int s1, .int s2, .ref s3] h
noncomputable def f_Md_drawsDeed_87 (X : pv_X) (v0 : Nat) (v1 : Int32) (o2 : Option Value) (o3 : Option Value) (h : pv_H) : Option pv_O := pS X 3 (none) k_Md_drawsDeed 87 [some (.ref v0), some (.int v1), o2, o3] [] h
set_option maxRecDepth 8000 in
theorem u_Md_drawsDeed_0 (X : pv_X) (v0 : Nat) (h : pv_H) : f_Md_drawsDeed_0 X v0 h =
    if pv_rc h v0 11 = true then (pv_tI (pM X m_Md_draw [.ref v0, .int 5] h)).bind (fun q1 => if ¬ q1.1 = 0 then if 3 ≤ q1.1 then f_Md_drawsDeed_87 X v0 q1.1 none none q1.2 else if pv_rc q1.2 v0 11 = true then (pv_tI (pM X m_Md_persons [.ref v0] q1.2)).bind (fun q2 => if pv_rc q2.2 v0 11 = true then (pv_tI (pM X m_Md_draw [.ref v0, .int q2.1] q2.2)).bind (fun q3 => if pv_rc q3.2 v0 11 = true then (pv_tI (pM X m_Md_draw [.ref v0, .int 30] q3.2)).bind (fun q4 => if ¬ q1.1 = 1 then f_Md_drawsDeed_84 X v0 q1.1 q3.1 (q4.1 + 1) (-(q4.1 + 1)) q3.1 1122 v0 q4.2 else f_Md_drawsDeed_84 X v0 q1.1 q3.1 (q4.1 + 1) (q4.1 + 1) q3.1 1122 v0 q4.2) else none) else none) else none else if pv_rc q1.2 v0 11 = true then (pv_tI (pM X m_Md_persons [.ref v0] q1.2)).bind (fun q5 => if pv_rc q5.2 v0 11 = true then (pv_tI (pM X m_Md_draw [.ref v0, .int q5.1] q5.2)).bind (fun q6 => if pv_rc q6.2 v0 11 = true then (pv_tI (pM X m_Md_persons [.ref v0] q6.2)).bind (fun q7 => if pv_rc q7.2 v0 11 = true then (pv_tI (pM X m_Md_draw [.ref v0, .int q7.1] q7.2)).bind (fun q8 => if q6.1 = q8.1 then f_Md_drawsDeed_42 X v0 q1.1 q6.1 q8.1 q8.2 else if pv_rc q8.2 v0 11 = true then (pv_tV (pM X m_Md_asks [.ref v0, .int 1122, .int q6.1, .int q8.1] q8.2)).bind (fun h9 => f_Md_drawsDeed_42 X v0 q1.1 q6.1 q8.1 h9) else none) else none) else none) else none) else none) else none := by
  show pS X 3 (none) k_Md_drawsDeed 0 [some (.ref v0), none, none, none] [] h = _
  refine (ss_aload_n rfl rfl).trans ?_
  refine (ss_iconst rfl (v := 5) rfl).trans ?_
  refine (ss_callVI (as := [.int 5]) rfl t_Md_draw (by decide) rfl rfl (by decide) (Or.inl rfl) ⟨Nat.le_of_ble_eq_true rfl, Nat.le_of_ble_eq_true rfl⟩).trans ?_
  refine pv_ite ?_ rfl
  refine congrArg (Option.bind _) (funext fun q1 => ?_)
  refine (ss_istore_n rfl rfl).trans ?_
  refine (ss_iload_n rfl rfl).trans ?_
  refine (ss_if_ne rfl).trans ?_
  refine pv_ite ?_ ?_
  · refine (ss_iload_n rfl rfl).trans ?_
    refine (ss_iconst rfl (v := 3) rfl).trans ?_
    refine (ss_icmp_ge rfl).trans ?_
    refine pv_ite ?_ ?_
    · rfl
    · refine (ss_aload_n rfl rfl).trans ?_
      refine (ss_aload_n rfl rfl).trans ?_
      refine (ss_callVI (as := []) rfl t_Md_persons (by decide) rfl rfl (by simp [Value.category]) (Or.inl rfl) ⟨Nat.le_of_ble_eq_true rfl, Nat.le_of_ble_eq_true rfl⟩).trans ?_
      refine pv_ite ?_ rfl
      refine congrArg (Option.bind _) (funext fun q2 => ?_)
      refine (ss_callVI (as := [.int q2.1]) rfl t_Md_draw (by decide) rfl rfl (by decide) (Or.inl rfl) ⟨Nat.le_of_ble_eq_true rfl, Nat.le_of_ble_eq_true rfl⟩).trans ?_
      refine pv_ite ?_ rfl
      refine congrArg (Option.bind _) (funext fun q3 => ?_)
      refine (ss_istore_n rfl rfl).trans ?_
      refine (ss_aload_n rfl rfl).trans ?_
      refine (ss_bipush rfl (v := 30) rfl).trans ?_
      refine (ss_callVI (as := [.int 30]) rfl t_Md_draw (by decide) rfl rfl (by decide) (Or.inl rfl) ⟨Nat.le_of_ble_eq_true rfl, Nat.le_of_ble_eq_true rfl⟩).trans ?_
      refine pv_ite ?_ rfl
      refine congrArg (Option.bind _) (funext fun q4 => ?_)
      refine (ss_iconst rfl (v := 1) rfl).trans ?_
      refine (ss_iadd rfl).trans ?_
      refine (ss_istore_n rfl rfl).trans ?_
      refine (ss_aload_n rfl rfl).trans ?_
      refine (ss_sipush rfl (v := 1122) rfl).trans ?_
      refine (ss_iload_n rfl rfl).trans ?_
      refine (ss_iload_n rfl rfl).trans ?_
      refine (ss_iconst rfl (v := 1) rfl).trans ?_
      refine (ss_icmp_ne rfl).trans ?_
      refine pv_ite ?_ ?_
      · refine (ss_iload_n rfl rfl).trans ?_
        refine (ss_ineg rfl).trans ?_
        rfl
      · refine (ss_iload_n rfl rfl).trans ?_
        refine (ss_goto rfl).trans ?_
        rfl
  · refine (ss_aload_n rfl rfl).trans ?_
    refine (ss_aload_n rfl rfl).trans ?_
    refine (ss_callVI (as := []) rfl t_Md_persons (by decide) rfl rfl (by simp [Value.category]) (Or.inl rfl) ⟨Nat.le_of_ble_eq_true rfl, Nat.le_of_ble_eq_true rfl⟩).trans ?_
    refine pv_ite ?_ rfl
    refine congrArg (Option.bind _) (funext fun q5 => ?_)
    refine (ss_callVI (as := [.int q5.1]) rfl t_Md_draw (by decide) rfl rfl (by decide) (Or.inl rfl) ⟨Nat.le_of_ble_eq_true rfl, Nat.le_of_ble_eq_true rfl⟩).trans ?_
    refine pv_ite ?_ rfl
    refine congrArg (Option.bind _) (funext fun q6 => ?_)
    refine (ss_istore_n rfl rfl).trans ?_
    refine (ss_aload_n rfl rfl).trans ?_
    refine (ss_aload_n rfl rfl).trans ?_
    refine (ss_callVI (as := []) rfl t_Md_persons (by decide) rfl rfl (by simp [Value.category]) (Or.inl rfl) ⟨Nat.le_of_ble_eq_true rfl, Nat.le_of_ble_eq_true rfl⟩).trans ?_
    refine pv_ite ?_ rfl
    refine congrArg (Option.bind _) (funext fun q7 => ?_)
    refine (ss_callVI (as := [.int q7.1]) rfl t_Md_draw (by decide) rfl rfl (by decide) (Or.inl rfl) ⟨Nat.le_of_ble_eq_true rfl, Nat.le_of_ble_eq_true rfl⟩).trans ?_
    refine pv_ite ?_ rfl
    refine congrArg (Option.bind _) (funext fun q8 => ?_)
    refine (ss_istore_n rfl rfl).trans ?_
    refine (ss_iload_n rfl rfl).trans ?_
    refine (ss_iload_n rfl rfl).trans ?_
    refine (ss_icmp_eq rfl).trans ?_
    refine pv_ite ?_ ?_
    · rfl
    · refine (ss_aload_n rfl rfl).trans ?_
      refine (ss_sipush rfl (v := 1122) rfl).trans ?_
      refine (ss_iload_n rfl rfl).trans ?_
      refine (ss_iload_n rfl rfl).trans ?_
      refine (ss_callVN (as := [.int 1122, .int q6.1, .int q8.1]) rfl t_Md_asks (by decide) rfl rfl (by decide) rfl ⟨Nat.le_of_ble_eq_true rfl, Nat.le_of_ble_eq_true rfl⟩).trans ?_
      refine pv_ite ?_ rfl
      refine congrArg (Option.bind _) (funext fun h9 => ?_)
      rfl
set_option maxRecDepth 8000 in
theorem u_Md_drawsDeed_42 (X : pv_X) (v0 : Nat) (v1 : Int32) (v2 : Int32) (v3 : Int32) (h : pv_H) : f_Md_drawsDeed_42 X v0 v1 v2 v3 h =
    f_Md_drawsDeed_87 X v0 v1 (some (.int v2)) (some (.int v3)) h := by
  show pS X 3 (none) k_Md_drawsDeed 42 [some (.ref v0), some (.int v1), some (.int v2), some (.int v3)] [] h = _
  refine (ss_goto rfl).trans ?_
  rfl
set_option maxRecDepth 8000 in
theorem u_Md_drawsDeed_84 (X : pv_X) (v0 : Nat) (v1 : Int32) (v2 : Int32) (v3 : Int32) (s0 : Int32) (s1 : Int32) (s2 : Int32) (s3 : Nat) (h : pv_H) : f_Md_drawsDeed_84 X v0 v1 v2 v3 s0 s1 s2 s3 h =
    if pv_rc h s3 11 = true then (pv_tV (pM X m_Md_beatsMore [.ref s3, .int s2, .int s1, .int s0] h)).bind (fun h1 => f_Md_drawsDeed_87 X v0 v1 (some (.int v2)) (some (.int v3)) h1) else none := by
  show pS X 3 (none) k_Md_drawsDeed 84 [some (.ref v0), some (.int v1), some (.int v2), some (.int v3)] [.int s0, .int s1, .int s2, .ref s3] h = _
  refine (ss_callVN (as := [.int s2, .int s1, .int s0]) rfl t_Md_beatsMore (by decide) rfl rfl (by decide) rfl ⟨Nat.le_of_ble_eq_true rfl, Nat.le_of_ble_eq_true rfl⟩).trans ?_
  refine pv_ite ?_ rfl
  refine congrArg (Option.bind _) (funext fun h1 => ?_)
  rfl
set_option maxRecDepth 8000 in
theorem u_Md_drawsDeed_87 (X : pv_X) (v0 : Nat) (v1 : Int32) (o2 : Option Value) (o3 : Option Value) (h : pv_H) : f_Md_drawsDeed_87 X v0 v1 o2 o3 h =
    some (none, h) := by
  show pS X 3 (none) k_Md_drawsDeed 87 [some (.ref v0), some (.int v1), o2, o3] [] h = _
  exact ss_return rfl
theorem e_Md_drawsDeed (X : pv_X) (v0 : Nat) (h : pv_H) : pM X m_Md_drawsDeed [.ref v0] h = f_Md_drawsDeed_0 X v0 h := rfl
noncomputable def f_Md_years_0 (X : pv_X) (v0 : Nat) (v1 : Int32) (v2 : Int32) (v3 : Int32) (h : pv_H) : Option pv_O := pS X 5 (some .int) k_Md_years 0 [some (.ref v0), some (.int v1), some (.int v2), some (.int v3), none] [] h
noncomputable def f_Md_years_35 (X : pv_X) (v0 : Nat) (v1 : Int32) (v2 : Int32) (v3 : Int32) (h : pv_H) : Option pv_O := pS X 5 (some .int) k_Md_years 35 [some (.ref v0), some (.int v1), some (.int v2), some (.int v3), none] [] h
noncomputable def f_Md_years_56 (X : pv_X) (v0 : Nat) (v1 : Int32) (v2 : Int32) (v3 : Int32) (v4 : Int32) (h : pv_H) : Option pv_O := pS X 5 (some .int) k_Md_years 56 [some (.ref v0), some (.int v1), some (.int v2), some (.int v3), some (.int v4)] [] h
noncomputable def f_Md_years_73 (X : pv_X) (v0 : Nat) (v1 : Int32) (v2 : Int32) (v3 : Int32) (v4 : Int32) (h : pv_H) : Option pv_O := pS X 5 (some .int) k_Md_years 73 [some (.ref v0), some (.int v1), some (.int v2), some (.int v3), some (.int v4)] [] h
noncomputable def f_Md_years_129 (X : pv_X) (v0 : Nat) (v1 : Int32) (v2 : Int32) (v3 : Int32) (v4 : Int32) (s0 : Int32) (h : pv_H) : Option pv_O := pS X 5 (some .int) k_Md_years 129 [some (.ref v0), some (.int v1), some (.int v2), some (.int v3), some (.int v4)] [.int s0] h
set_option maxRecDepth 8000 in
theorem u_Md_years_0 (X : pv_X) (v0 : Nat) (v1 : Int32) (v2 : Int32) (v3 : Int32) (h : pv_H) : f_Md_years_0 X v0 v1 v2 v3 h =
    (pv_fp h v0 11 0 (.int 0)).bind (fun h1 => (pv_tI (pM X m_Md_within [.int v1, .int 0, .int 9999] h1)).bind (fun q2 => if q2.1 = 0 then f_Md_years_35 X v0 v1 v2 v3 q2.2 else (pv_tI (pM X m_Md_within [.int v2, .int 1, .int 99] q2.2)).bind (fun q3 => if q3.1 = 0 then f_Md_years_35 X v0 v1 v2 v3 q3.2 else (pv_tI (pM X m_Md_within [.int v3, .int 0, .int 2] q3.2)).bind (fun q4 => if ¬ q4.1 = 0 then if pv_rc q4.2 v0 11 = true then (pv_tV (pM X m_Md_copies [.ref v0, .int 0, .int 1122, .int 19] q4.2)).bind (fun h5 => (pv_fp h5 v0 11 29 (.long (v1 : Int32).toInt64)).bind (fun h6 => f_Md_years_56 X v0 v1 v2 v3 0 h6)) else none else f_Md_years_35 X v0 v1 v2 v3 q4.2)))) := by
  show pS X 5 (some .int) k_Md_years 0 [some (.ref v0), some (.int v1), some (.int v2), some (.int v3), none] [] h = _
  refine (ss_aload_n rfl rfl).trans ?_
  refine (ss_iconst rfl (v := 0) rfl).trans ?_
  refine (ss_putI rfl).trans ?_
  refine congrArg (Option.bind _) (funext fun h1 => ?_)
  refine (ss_iload_n rfl rfl).trans ?_
  refine (ss_iconst rfl (v := 0) rfl).trans ?_
  refine (ss_sipush rfl (v := 9999) rfl).trans ?_
  refine (ss_callSI (as := [.int v1, .int 0, .int 9999]) rfl t_Md_within (by decide) rfl rfl (by decide) (Or.inr rfl) ⟨Nat.le_of_ble_eq_true rfl, Nat.le_of_ble_eq_true rfl⟩).trans ?_
  refine congrArg (Option.bind _) (funext fun q2 => ?_)
  refine (ss_if_eq rfl).trans ?_
  refine pv_ite ?_ ?_
  · rfl
  · refine (ss_iload_n rfl rfl).trans ?_
    refine (ss_iconst rfl (v := 1) rfl).trans ?_
    refine (ss_bipush rfl (v := 99) rfl).trans ?_
    refine (ss_callSI (as := [.int v2, .int 1, .int 99]) rfl t_Md_within (by decide) rfl rfl (by decide) (Or.inr rfl) ⟨Nat.le_of_ble_eq_true rfl, Nat.le_of_ble_eq_true rfl⟩).trans ?_
    refine congrArg (Option.bind _) (funext fun q3 => ?_)
    refine (ss_if_eq rfl).trans ?_
    refine pv_ite ?_ ?_
    · rfl
    · refine (ss_iload_n rfl rfl).trans ?_
      refine (ss_iconst rfl (v := 0) rfl).trans ?_
      refine (ss_iconst rfl (v := 2) rfl).trans ?_
      refine (ss_callSI (as := [.int v3, .int 0, .int 2]) rfl t_Md_within (by decide) rfl rfl (by decide) (Or.inr rfl) ⟨Nat.le_of_ble_eq_true rfl, Nat.le_of_ble_eq_true rfl⟩).trans ?_
      refine congrArg (Option.bind _) (funext fun q4 => ?_)
      refine (ss_if_ne rfl).trans ?_
      refine pv_ite ?_ ?_
      · refine (ss_aload_n rfl rfl).trans ?_
        refine (ss_iconst rfl (v := 0) rfl).trans ?_
        refine (ss_sipush rfl (v := 1122) rfl).trans ?_
        refine (ss_bipush rfl (v := 19) rfl).trans ?_
        refine (ss_callVN (as := [.int 0, .int 1122, .int 19]) rfl t_Md_copies (by decide) rfl rfl (by decide) rfl ⟨Nat.le_of_ble_eq_true rfl, Nat.le_of_ble_eq_true rfl⟩).trans ?_
        refine pv_ite ?_ rfl
        refine congrArg (Option.bind _) (funext fun h5 => ?_)
        refine (ss_aload_n rfl rfl).trans ?_
        refine (ss_iload_n rfl rfl).trans ?_
        refine (ss_i2l rfl).trans ?_
        refine (ss_putJ rfl).trans ?_
        refine congrArg (Option.bind _) (funext fun h6 => ?_)
        refine (ss_iconst rfl (v := 0) rfl).trans ?_
        refine (ss_istore rfl rfl).trans ?_
        rfl
      · rfl
set_option maxRecDepth 8000 in
theorem u_Md_years_35 (X : pv_X) (v0 : Nat) (v1 : Int32) (v2 : Int32) (v3 : Int32) (h : pv_H) : f_Md_years_35 X v0 v1 v2 v3 h =
    some (some (.int (-1)), h) := by
  show pS X 5 (some .int) k_Md_years 35 [some (.ref v0), some (.int v1), some (.int v2), some (.int v3), none] [] h = _
  refine (ss_iconst rfl (v := (-1)) rfl).trans ?_
  exact ss_ireturn rfl
set_option maxRecDepth 8000 in
theorem u_Md_years_56 (X : pv_X) (v0 : Nat) (v1 : Int32) (v2 : Int32) (v3 : Int32) (v4 : Int32) (h : pv_H) : f_Md_years_56 X v0 v1 v2 v3 v4 h =
    if v2 ≤ v4 then if ¬ v3 = 0 then if ¬ v3 = 1 then if pv_rc h v0 11 = true then (pv_tI (pM X m_Md_sumOf [.ref v0, .int 1123] h)).bind (fun q1 => f_Md_years_129 X v0 v1 v2 v3 v4 q1.1 q1.2) else none else if pv_rc h v0 11 = true then (pv_tI (pM X m_Md_farOf [.ref v0, .int 1122] h)).bind (fun q2 => f_Md_years_129 X v0 v1 v2 v3 v4 q2.1 q2.2) else none else if pv_rc h v0 11 = true then (pv_tI (pM X m_Md_sumOf [.ref v0, .int 1135] h)).bind (fun q3 => if pv_rc q3.2 v0 11 = true then (pv_tI (pM X m_Md_sumOf [.ref v0, .int 13] q3.2)).bind (fun q4 => f_Md_years_129 X v0 v1 v2 v3 v4 (q3.1 - q4.1) q4.2) else none) else none else if pv_rc h v0 11 = true then (pv_tI (pM X m_Md_persons [.ref v0] h)).bind (fun q5 => if q5.1 ≤ 0 then f_Md_years_73 X v0 v1 v2 v3 v4 q5.2 else if pv_rc q5.2 v0 11 = true then (pv_tV (pM X m_Md_drawsDeed [.ref v0] q5.2)).bind (fun h6 => f_Md_years_73 X v0 v1 v2 v3 v4 h6) else none) else none := by
  show pS X 5 (some .int) k_Md_years 56 [some (.ref v0), some (.int v1), some (.int v2), some (.int v3), some (.int v4)] [] h = _
  refine (ss_iload rfl rfl).trans ?_
  refine (ss_iload_n rfl rfl).trans ?_
  refine (ss_icmp_ge rfl).trans ?_
  refine pv_ite ?_ ?_
  · refine (ss_iload_n rfl rfl).trans ?_
    refine (ss_if_ne rfl).trans ?_
    refine pv_ite ?_ ?_
    · refine (ss_iload_n rfl rfl).trans ?_
      refine (ss_iconst rfl (v := 1) rfl).trans ?_
      refine (ss_icmp_ne rfl).trans ?_
      refine pv_ite ?_ ?_
      · refine (ss_aload_n rfl rfl).trans ?_
        refine (ss_sipush rfl (v := 1123) rfl).trans ?_
        refine (ss_callVI (as := [.int 1123]) rfl t_Md_sumOf (by decide) rfl rfl (by decide) (Or.inl rfl) ⟨Nat.le_of_ble_eq_true rfl, Nat.le_of_ble_eq_true rfl⟩).trans ?_
        refine pv_ite ?_ rfl
        refine congrArg (Option.bind _) (funext fun q1 => ?_)
        rfl
      · refine (ss_aload_n rfl rfl).trans ?_
        refine (ss_sipush rfl (v := 1122) rfl).trans ?_
        refine (ss_callVI (as := [.int 1122]) rfl t_Md_farOf (by decide) rfl rfl (by decide) (Or.inl rfl) ⟨Nat.le_of_ble_eq_true rfl, Nat.le_of_ble_eq_true rfl⟩).trans ?_
        refine pv_ite ?_ rfl
        refine congrArg (Option.bind _) (funext fun q2 => ?_)
        refine (ss_goto rfl).trans ?_
        rfl
    · refine (ss_aload_n rfl rfl).trans ?_
      refine (ss_sipush rfl (v := 1135) rfl).trans ?_
      refine (ss_callVI (as := [.int 1135]) rfl t_Md_sumOf (by decide) rfl rfl (by decide) (Or.inl rfl) ⟨Nat.le_of_ble_eq_true rfl, Nat.le_of_ble_eq_true rfl⟩).trans ?_
      refine pv_ite ?_ rfl
      refine congrArg (Option.bind _) (funext fun q3 => ?_)
      refine (ss_aload_n rfl rfl).trans ?_
      refine (ss_bipush rfl (v := 13) rfl).trans ?_
      refine (ss_callVI (as := [.int 13]) rfl t_Md_sumOf (by decide) rfl rfl (by simp [Value.category]) (Or.inl rfl) ⟨Nat.le_of_ble_eq_true rfl, Nat.le_of_ble_eq_true rfl⟩).trans ?_
      refine pv_ite ?_ rfl
      refine congrArg (Option.bind _) (funext fun q4 => ?_)
      refine (ss_isub rfl).trans ?_
      refine (ss_goto rfl).trans ?_
      rfl
  · refine (ss_aload_n rfl rfl).trans ?_
    refine (ss_callVI (as := []) rfl t_Md_persons (by decide) rfl rfl (by decide) (Or.inl rfl) ⟨Nat.le_of_ble_eq_true rfl, Nat.le_of_ble_eq_true rfl⟩).trans ?_
    refine pv_ite ?_ rfl
    refine congrArg (Option.bind _) (funext fun q5 => ?_)
    refine (ss_if_le rfl).trans ?_
    refine pv_ite ?_ ?_
    · rfl
    · refine (ss_aload_n rfl rfl).trans ?_
      refine (ss_callVN (as := []) rfl t_Md_drawsDeed (by decide) rfl rfl (by decide) rfl ⟨Nat.le_of_ble_eq_true rfl, Nat.le_of_ble_eq_true rfl⟩).trans ?_
      refine pv_ite ?_ rfl
      refine congrArg (Option.bind _) (funext fun h6 => ?_)
      rfl
set_option maxRecDepth 8000 in
theorem u_Md_years_73 (X : pv_X) (v0 : Nat) (v1 : Int32) (v2 : Int32) (v3 : Int32) (v4 : Int32) (h : pv_H) : f_Md_years_73 X v0 v1 v2 v3 v4 h =
    if pv_rc h v0 11 = true then (pv_tV (pM X m_Md_passes_1 [.ref v0, .int 1122] h)).bind (fun h1 => f_Md_years_56 X v0 v1 v2 v3 (v4 + 1) h1) else none := by
  show pS X 5 (some .int) k_Md_years 73 [some (.ref v0), some (.int v1), some (.int v2), some (.int v3), some (.int v4)] [] h = _
  refine (ss_aload_n rfl rfl).trans ?_
  refine (ss_sipush rfl (v := 1122) rfl).trans ?_
  refine (ss_callVN (as := [.int 1122]) rfl t_Md_passes_1 (by decide) rfl rfl (by decide) rfl ⟨Nat.le_of_ble_eq_true rfl, Nat.le_of_ble_eq_true rfl⟩).trans ?_
  refine pv_ite ?_ rfl
  refine congrArg (Option.bind _) (funext fun h1 => ?_)
  refine (ss_iinc3 rfl rfl (v := v4 + 1) (congrArg (HAdd.hAdd _) (show Int32.ofInt (1) = 1 by decide)) rfl).trans ?_
  refine (ss_goto rfl).trans ?_
  rfl
set_option maxRecDepth 8000 in
theorem u_Md_years_129 (X : pv_X) (v0 : Nat) (v1 : Int32) (v2 : Int32) (v3 : Int32) (v4 : Int32) (s0 : Int32) (h : pv_H) : f_Md_years_129 X v0 v1 v2 v3 v4 s0 h =
    some (some (.int s0), h) := by
  show pS X 5 (some .int) k_Md_years 129 [some (.ref v0), some (.int v1), some (.int v2), some (.int v3), some (.int v4)] [.int s0] h = _
  exact ss_ireturn rfl
theorem e_Md_years (X : pv_X) (v0 : Nat) (v1 : Int32) (v2 : Int32) (v3 : Int32) (h : pv_H) : pM X m_Md_years [.ref v0, .int v1, .int v2, .int v3] h = f_Md_years_0 X v0 v1 v2 v3 h := rfl
noncomputable def f_Md_mark_0 (X : pv_X) (v0 : Nat) (v1 : Int32) (v2 : Int32) (h : pv_H) : Option pv_O := pS X 2 (some .boolean) k_Md_mark 0 [some (.ref v0), some (.int v1), some (.int v2)] [] h
noncomputable def f_Md_mark_27 (X : pv_X) (v0 : Nat) (v1 : Int32) (v2 : Int32) (h : pv_H) : Option pv_O := pS X 2 (some .boolean) k_Md_mark 27 [some (.ref v0), some (.int v1), some (.int v2)] [] h
noncomputable def f_Md_mark_29 (X : pv_X) (v0 : Nat) (v1 : Int32) (v2 : Int32) (h : pv_H) : Option pv_O := pS X 2 (some .boolean) k_Md_mark 29 [some (.ref v0), some (.int v1), some (.int v2)] [] h
noncomputable def f_Md_mark_51 (X : pv_X) (v0 : Nat) (v1 : Int32) (v2 : Int32) (s0 : Int32) (s1 : Nat) (h : pv_H) : Option pv_O := pS X 2 (some .boolean) k_Md_mark 51 [some (.ref v0), some (.int v1), some (.int v2)] [.int s0, .ref s1] h
noncomputable def f_Md_mark_65 (X : pv_X) (v0 : Nat) (v1 : Int32) (v2 : Int32) (s0 : Int32) (s1 : Int32) (s2 : Nat) (h : pv_H) : Option pv_O := pS X 2 (some .boolean) k_Md_mark 65 [some (.ref v0), some (.int v1), some (.int v2)] [.int s0, .int s1, .ref s2] h
noncomputable def f_Md_mark_83 (X : pv_X) (v0 : Nat) (v1 : Int32) (v2 : Int32) (s0 : Int32) (s1 : Nat) (h : pv_H) : Option pv_O := pS X 2 (some .boolean) k_Md_mark 83 [some (.ref v0), some (.int v1), some (.int v2)] [.int s0, .ref s1] h
set_option maxRecDepth 8000 in
theorem u_Md_mark_0 (X : pv_X) (v0 : Nat) (v1 : Int32) (v2 : Int32) (h : pv_H) : f_Md_mark_0 X v0 v1 v2 h =
    (pv_fp h v0 11 0 (.int 0)).bind (fun h1 => (pv_tI (pM X m_Md_within [.int v1, .int 0, .int 3] h1)).bind (fun q2 => if q2.1 = 0 then f_Md_mark_27 X v0 v1 v2 q2.2 else if v2 = 0 then f_Md_mark_29 X v0 v1 v2 q2.2 else (pv_fR q2.2 v0 11 23).bind (fun x3 => (pv_aI q2.2 3 x3 v1).bind (fun x4 => if ¬ x4 = 0 then f_Md_mark_29 X v0 v1 v2 q2.2 else f_Md_mark_27 X v0 v1 v2 q2.2)))) := by
  show pS X 2 (some .boolean) k_Md_mark 0 [some (.ref v0), some (.int v1), some (.int v2)] [] h = _
  refine (ss_aload_n rfl rfl).trans ?_
  refine (ss_iconst rfl (v := 0) rfl).trans ?_
  refine (ss_putI rfl).trans ?_
  refine congrArg (Option.bind _) (funext fun h1 => ?_)
  refine (ss_iload_n rfl rfl).trans ?_
  refine (ss_iconst rfl (v := 0) rfl).trans ?_
  refine (ss_iconst rfl (v := 3) rfl).trans ?_
  refine (ss_callSI (as := [.int v1, .int 0, .int 3]) rfl t_Md_within (by decide) rfl rfl (by decide) (Or.inr rfl) ⟨Nat.le_of_ble_eq_true rfl, Nat.le_of_ble_eq_true rfl⟩).trans ?_
  refine congrArg (Option.bind _) (funext fun q2 => ?_)
  refine (ss_if_eq rfl).trans ?_
  refine pv_ite ?_ ?_
  · rfl
  · refine (ss_iload_n rfl rfl).trans ?_
    refine (ss_if_eq rfl).trans ?_
    refine pv_ite ?_ ?_
    · rfl
    · refine (ss_aload_n rfl rfl).trans ?_
      refine (ss_getR rfl).trans ?_
      refine congrArg (Option.bind _) (funext fun x3 => ?_)
      refine (ss_iload_n rfl rfl).trans ?_
      refine (ss_baload rfl).trans ?_
      refine congrArg (Option.bind _) (funext fun x4 => ?_)
      refine (ss_if_ne rfl).trans ?_
      refine pv_ite ?_ ?_
      · rfl
      · rfl
set_option maxRecDepth 8000 in
theorem u_Md_mark_27 (X : pv_X) (v0 : Nat) (v1 : Int32) (v2 : Int32) (h : pv_H) : f_Md_mark_27 X v0 v1 v2 h =
    some (some (.int 0), h) := by
  show pS X 2 (some .boolean) k_Md_mark 27 [some (.ref v0), some (.int v1), some (.int v2)] [] h = _
  refine (ss_iconst rfl (v := 0) rfl).trans ?_
  exact (ss_zreturn rfl).trans (if_pos (by decide))
set_option maxRecDepth 8000 in
theorem u_Md_mark_29 (X : pv_X) (v0 : Nat) (v1 : Int32) (v2 : Int32) (h : pv_H) : f_Md_mark_29 X v0 v1 v2 h =
    (pv_fR h v0 11 23).bind (fun x1 => (pv_sZ h x1 v1 1).bind (fun h2 => if v2 = 0 then f_Md_mark_51 X v0 v1 v2 0 v0 h2 else f_Md_mark_51 X v0 v1 v2 (51 * (1 + v1)) v0 h2)) := by
  show pS X 2 (some .boolean) k_Md_mark 29 [some (.ref v0), some (.int v1), some (.int v2)] [] h = _
  refine (ss_aload_n rfl rfl).trans ?_
  refine (ss_getR rfl).trans ?_
  refine congrArg (Option.bind _) (funext fun x1 => ?_)
  refine (ss_iload_n rfl rfl).trans ?_
  refine (ss_iconst rfl (v := 1) rfl).trans ?_
  refine (ss_bastore rfl).trans ?_
  refine congrArg (Option.bind _) (funext fun h2 => ?_)
  refine (ss_aload_n rfl rfl).trans ?_
  refine (ss_iload_n rfl rfl).trans ?_
  refine (ss_if_eq rfl).trans ?_
  refine pv_ite ?_ ?_
  · refine (ss_iconst rfl (v := 0) rfl).trans ?_
    rfl
  · refine (ss_bipush rfl (v := 51) rfl).trans ?_
    refine (ss_iconst rfl (v := 1) rfl).trans ?_
    refine (ss_iload_n rfl rfl).trans ?_
    refine (ss_iadd rfl).trans ?_
    refine (ss_imul rfl).trans ?_
    refine (ss_goto rfl).trans ?_
    rfl
set_option maxRecDepth 8000 in
theorem u_Md_mark_51 (X : pv_X) (v0 : Nat) (v1 : Int32) (v2 : Int32) (s0 : Int32) (s1 : Nat) (h : pv_H) : f_Md_mark_51 X v0 v1 v2 s0 s1 h =
    if v2 = 0 then f_Md_mark_65 X v0 v1 v2 (51 * (1 + v1)) s0 s1 h else f_Md_mark_65 X v0 v1 v2 0 s0 s1 h := by
  show pS X 2 (some .boolean) k_Md_mark 51 [some (.ref v0), some (.int v1), some (.int v2)] [.int s0, .ref s1] h = _
  refine (ss_iload_n rfl rfl).trans ?_
  refine (ss_if_eq rfl).trans ?_
  refine pv_ite ?_ ?_
  · refine (ss_bipush rfl (v := 51) rfl).trans ?_
    refine (ss_iconst rfl (v := 1) rfl).trans ?_
    refine (ss_iload_n rfl rfl).trans ?_
    refine (ss_iadd rfl).trans ?_
    refine (ss_imul rfl).trans ?_
    rfl
  · refine (ss_iconst rfl (v := 0) rfl).trans ?_
    refine (ss_goto rfl).trans ?_
    rfl
set_option maxRecDepth 8000 in
theorem u_Md_mark_65 (X : pv_X) (v0 : Nat) (v1 : Int32) (v2 : Int32) (s0 : Int32) (s1 : Int32) (s2 : Nat) (h : pv_H) : f_Md_mark_65 X v0 v1 v2 s0 s1 s2 h =
    if pv_rc h s2 11 = true then (pv_tV (pM X m_Md_copies [.ref s2, .int s1, .int s0, .int 51] h)).bind (fun h1 => if v2 = 0 then (pv_fI h1 v0 11 22).bind (fun x2 => f_Md_mark_83 X v0 v1 v2 x2 v0 h1) else f_Md_mark_83 X v0 v1 v2 0 v0 h1) else none := by
  show pS X 2 (some .boolean) k_Md_mark 65 [some (.ref v0), some (.int v1), some (.int v2)] [.int s0, .int s1, .ref s2] h = _
  refine (ss_bipush rfl (v := 51) rfl).trans ?_
  refine (ss_callVN (as := [.int s1, .int s0, .int 51]) rfl t_Md_copies (by decide) rfl rfl (by decide) rfl ⟨Nat.le_of_ble_eq_true rfl, Nat.le_of_ble_eq_true rfl⟩).trans ?_
  refine pv_ite ?_ rfl
  refine congrArg (Option.bind _) (funext fun h1 => ?_)
  refine (ss_aload_n rfl rfl).trans ?_
  refine (ss_iload_n rfl rfl).trans ?_
  refine (ss_if_eq rfl).trans ?_
  refine pv_ite ?_ ?_
  · refine (ss_aload_n rfl rfl).trans ?_
    refine (ss_getI rfl).trans ?_
    refine congrArg (Option.bind _) (funext fun x2 => ?_)
    rfl
  · refine (ss_iconst rfl (v := 0) rfl).trans ?_
    refine (ss_goto rfl).trans ?_
    rfl
set_option maxRecDepth 8000 in
theorem u_Md_mark_83 (X : pv_X) (v0 : Nat) (v1 : Int32) (v2 : Int32) (s0 : Int32) (s1 : Nat) (h : pv_H) : f_Md_mark_83 X v0 v1 v2 s0 s1 h =
    (pv_fp h s1 11 22 (.int s0)).bind (fun h1 => some (some (.int 1), h1)) := by
  show pS X 2 (some .boolean) k_Md_mark 83 [some (.ref v0), some (.int v1), some (.int v2)] [.int s0, .ref s1] h = _
  refine (ss_putI rfl).trans ?_
  refine congrArg (Option.bind _) (funext fun h1 => ?_)
  refine (ss_iconst rfl (v := 1) rfl).trans ?_
  exact (ss_zreturn rfl).trans (if_pos (by decide))
theorem e_Md_mark (X : pv_X) (v0 : Nat) (v1 : Int32) (v2 : Int32) (h : pv_H) : pM X m_Md_mark [.ref v0, .int v1, .int v2] h = f_Md_mark_0 X v0 v1 v2 h := rfl
noncomputable def f_Md_outNow_0 (X : pv_X) (v0 : Nat) (h : pv_H) : Option pv_O := pS X 3 (some .int) k_Md_outNow 0 [some (.ref v0), none, none] [] h
noncomputable def f_Md_outNow_4 (X : pv_X) (v0 : Nat) (v1 : Int32) (v2 : Int32) (h : pv_H) : Option pv_O := pS X 3 (some .int) k_Md_outNow 4 [some (.ref v0), some (.int v1), some (.int v2)] [] h
noncomputable def f_Md_outNow_29 (X : pv_X) (v0 : Nat) (v1 : Int32) (v2 : Int32) (s0 : Int32) (s1 : Int32) (h : pv_H) : Option pv_O := pS X 3 (some .int) k_Md_outNow 29 [some (.ref v0), some (.int v1), some (.int v2)] [.int s0, .int s1] h
set_option maxRecDepth 8000 in
theorem u_Md_outNow_0 (X : pv_X) (v0 : Nat) (h : pv_H) : f_Md_outNow_0 X v0 h =
    f_Md_outNow_4 X v0 0 0 h := by
  show pS X 3 (some .int) k_Md_outNow 0 [some (.ref v0), none, none] [] h = _
  refine (ss_iconst rfl (v := 0) rfl).trans ?_
  refine (ss_istore_n rfl rfl).trans ?_
  refine (ss_iconst rfl (v := 0) rfl).trans ?_
  refine (ss_istore_n rfl rfl).trans ?_
  rfl
set_option maxRecDepth 8000 in
theorem u_Md_outNow_4 (X : pv_X) (v0 : Nat) (v1 : Int32) (v2 : Int32) (h : pv_H) : f_Md_outNow_4 X v0 v1 v2 h =
    if pv_rc h v0 11 = true then (pv_tI (pM X m_Md_persons [.ref v0] h)).bind (fun q1 => if q1.1 ≤ v2 then some (some (.int v1), q1.2) else if pv_rc q1.2 v0 11 = true then (pv_tI (pM X m_Md_outOf [.ref v0, .int 0, .int v2] q1.2)).bind (fun q2 => if q2.1 = 0 then f_Md_outNow_29 X v0 v1 v2 0 v1 q2.2 else f_Md_outNow_29 X v0 v1 v2 ((1 : Int32) <<< (v2 &&& 31)) v1 q2.2) else none) else none := by
  show pS X 3 (some .int) k_Md_outNow 4 [some (.ref v0), some (.int v1), some (.int v2)] [] h = _
  refine (ss_iload_n rfl rfl).trans ?_
  refine (ss_aload_n rfl rfl).trans ?_
  refine (ss_callVI (as := []) rfl t_Md_persons (by decide) rfl rfl (by simp [Value.category]) (Or.inl rfl) ⟨Nat.le_of_ble_eq_true rfl, Nat.le_of_ble_eq_true rfl⟩).trans ?_
  refine pv_ite ?_ rfl
  refine congrArg (Option.bind _) (funext fun q1 => ?_)
  refine (ss_icmp_ge rfl).trans ?_
  refine pv_ite ?_ ?_
  · refine (ss_iload_n rfl rfl).trans ?_
    exact ss_ireturn rfl
  · refine (ss_iload_n rfl rfl).trans ?_
    refine (ss_aload_n rfl rfl).trans ?_
    refine (ss_iconst rfl (v := 0) rfl).trans ?_
    refine (ss_iload_n rfl rfl).trans ?_
    refine (ss_callVI (as := [.int 0, .int v2]) rfl t_Md_outOf (by decide) rfl rfl (by simp [Value.category]) (Or.inl rfl) ⟨Nat.le_of_ble_eq_true rfl, Nat.le_of_ble_eq_true rfl⟩).trans ?_
    refine pv_ite ?_ rfl
    refine congrArg (Option.bind _) (funext fun q2 => ?_)
    refine (ss_if_eq rfl).trans ?_
    refine pv_ite ?_ ?_
    · refine (ss_iconst rfl (v := 0) rfl).trans ?_
      rfl
    · refine (ss_iconst rfl (v := 1) rfl).trans ?_
      refine (ss_iload_n rfl rfl).trans ?_
      refine (ss_ishl rfl).trans ?_
      refine (ss_goto rfl).trans ?_
      rfl
set_option maxRecDepth 8000 in
theorem u_Md_outNow_29 (X : pv_X) (v0 : Nat) (v1 : Int32) (v2 : Int32) (s0 : Int32) (s1 : Int32) (h : pv_H) : f_Md_outNow_29 X v0 v1 v2 s0 s1 h =
    f_Md_outNow_4 X v0 (s1 ||| s0) (v2 + 1) h := by
  show pS X 3 (some .int) k_Md_outNow 29 [some (.ref v0), some (.int v1), some (.int v2)] [.int s0, .int s1] h = _
  refine (ss_ior rfl).trans ?_
  refine (ss_istore_n rfl rfl).trans ?_
  refine (ss_iinc3 rfl rfl (v := v2 + 1) (congrArg (HAdd.hAdd _) (show Int32.ofInt (1) = 1 by decide)) rfl).trans ?_
  refine (ss_goto rfl).trans ?_
  rfl
theorem e_Md_outNow (X : pv_X) (v0 : Nat) (h : pv_H) : pM X m_Md_outNow [.ref v0] h = f_Md_outNow_0 X v0 h := rfl
noncomputable def f_Md_count_0 (X : pv_X) (v0 : Nat) (v1 : Int32) (h : pv_H) : Option pv_O := pS X 4 (some .int) k_Md_count 0 [some (.ref v0), some (.int v1)] [] h
set_option maxRecDepth 8000 in
theorem u_Md_count_0 (X : pv_X) (v0 : Nat) (v1 : Int32) (h : pv_H) : f_Md_count_0 X v0 v1 h =
    (pv_fp h v0 11 0 (.int 0)).bind (fun h1 => if v1 = 0 then if pv_rc h1 v0 11 = true then (pv_tI (pM X m_Md_persons [.ref v0] h1)).bind (fun q2 => some (some (.int q2.1), q2.2)) else none else if v1 = 1 then (pv_fR h1 v0 11 21).bind (fun x4 => (pv_aX X h1 x4 0).bind (fun x5 => some (some (.int x5), h1))) else if v1 = 2 then if pv_rc h1 v0 11 = true then (pv_tI (pM X m_Md_trueOf [.ref v0, .int 0] h1)).bind (fun q7 => some (some (.int q7.1), q7.2)) else none else if v1 = 3 then if pv_rc h1 v0 11 = true then (pv_tI (pM X m_Md_sumOf [.ref v0, .int 1] h1)).bind (fun q9 => some (some (.int q9.1), q9.2)) else none else if v1 = 4 then if pv_rc h1 v0 11 = true then (pv_tI (pM X m_Md_sumOf [.ref v0, .int 13] h1)).bind (fun q11 => some (some (.int q11.1), q11.2)) else none else if v1 = 5 then if pv_rc h1 v0 11 = true then (pv_tI (pM X m_Md_outNow [.ref v0] h1)).bind (fun q13 => some (some (.int q13.1), q13.2)) else none else if v1 = 6 then (pv_fR h1 v0 11 18).bind (fun x15 => (pv_aX X h1 x15 0).bind (fun x16 => some (some (.int x16), h1))) else if v1 = 7 then (pv_fR h1 v0 11 21).bind (fun x18 => (pv_aX X h1 x18 19).bind (fun x19 => some (some (.int x19), h1))) else if v1 = 8 then (pv_fR h1 v0 11 21).bind (fun x21 => (pv_aX X h1 x21 38).bind (fun x22 => some (some (.int x22), h1))) else if v1 = 9 then (pv_fI h1 v0 11 22).bind (fun x24 => some (some (.int x24), h1)) else if v1 = 10 then (pv_fI h1 v0 11 2).bind (fun x26 => some (some (.int x26), h1)) else some (some (.int (-1)), h1)) := by
  show pS X 4 (some .int) k_Md_count 0 [some (.ref v0), some (.int v1)] [] h = _
  refine (ss_aload_n rfl rfl).trans ?_
  refine (ss_iconst rfl (v := 0) rfl).trans ?_
  refine (ss_putI rfl).trans ?_
  refine congrArg (Option.bind _) (funext fun h1 => ?_)
  refine (ss_iload_n rfl rfl).trans ?_
  refine (ss_table rfl).trans ?_
  by_cases c3 : v1 = 0
  · rw [if_pos c3, c3]
    show pS X _ _ _ 64 _ _ _ = _
    refine (ss_aload_n rfl rfl).trans ?_
    refine (ss_callVI (as := []) rfl t_Md_persons (by decide) rfl rfl (by decide) (Or.inl rfl) ⟨Nat.le_of_ble_eq_true rfl, Nat.le_of_ble_eq_true rfl⟩).trans ?_
    refine pv_ite ?_ rfl
    refine congrArg (Option.bind _) (funext fun q2 => ?_)
    exact ss_ireturn rfl
  rw [if_neg c3]
  by_cases c6 : v1 = 1
  · rw [if_pos c6, c6]
    show pS X _ _ _ 69 _ _ _ = _
    refine (ss_aload_n rfl rfl).trans ?_
    refine (ss_getR rfl).trans ?_
    refine congrArg (Option.bind _) (funext fun x4 => ?_)
    refine (ss_iconst rfl (v := 0) rfl).trans ?_
    refine (ss_iaload rfl).trans ?_
    refine congrArg (Option.bind _) (funext fun x5 => ?_)
    exact ss_ireturn rfl
  rw [if_neg c6]
  by_cases c8 : v1 = 2
  · rw [if_pos c8, c8]
    show pS X _ _ _ 76 _ _ _ = _
    refine (ss_aload_n rfl rfl).trans ?_
    refine (ss_iconst rfl (v := 0) rfl).trans ?_
    refine (ss_callVI (as := [.int 0]) rfl t_Md_trueOf (by decide) rfl rfl (by decide) (Or.inl rfl) ⟨Nat.le_of_ble_eq_true rfl, Nat.le_of_ble_eq_true rfl⟩).trans ?_
    refine pv_ite ?_ rfl
    refine congrArg (Option.bind _) (funext fun q7 => ?_)
    exact ss_ireturn rfl
  rw [if_neg c8]
  by_cases c10 : v1 = 3
  · rw [if_pos c10, c10]
    show pS X _ _ _ 82 _ _ _ = _
    refine (ss_aload_n rfl rfl).trans ?_
    refine (ss_iconst rfl (v := 1) rfl).trans ?_
    refine (ss_callVI (as := [.int 1]) rfl t_Md_sumOf (by decide) rfl rfl (by decide) (Or.inl rfl) ⟨Nat.le_of_ble_eq_true rfl, Nat.le_of_ble_eq_true rfl⟩).trans ?_
    refine pv_ite ?_ rfl
    refine congrArg (Option.bind _) (funext fun q9 => ?_)
    exact ss_ireturn rfl
  rw [if_neg c10]
  by_cases c12 : v1 = 4
  · rw [if_pos c12, c12]
    show pS X _ _ _ 88 _ _ _ = _
    refine (ss_aload_n rfl rfl).trans ?_
    refine (ss_bipush rfl (v := 13) rfl).trans ?_
    refine (ss_callVI (as := [.int 13]) rfl t_Md_sumOf (by decide) rfl rfl (by decide) (Or.inl rfl) ⟨Nat.le_of_ble_eq_true rfl, Nat.le_of_ble_eq_true rfl⟩).trans ?_
    refine pv_ite ?_ rfl
    refine congrArg (Option.bind _) (funext fun q11 => ?_)
    exact ss_ireturn rfl
  rw [if_neg c12]
  by_cases c14 : v1 = 5
  · rw [if_pos c14, c14]
    show pS X _ _ _ 95 _ _ _ = _
    refine (ss_aload_n rfl rfl).trans ?_
    refine (ss_callVI (as := []) rfl t_Md_outNow (by decide) rfl rfl (by decide) (Or.inl rfl) ⟨Nat.le_of_ble_eq_true rfl, Nat.le_of_ble_eq_true rfl⟩).trans ?_
    refine pv_ite ?_ rfl
    refine congrArg (Option.bind _) (funext fun q13 => ?_)
    exact ss_ireturn rfl
  rw [if_neg c14]
  by_cases c17 : v1 = 6
  · rw [if_pos c17, c17]
    show pS X _ _ _ 100 _ _ _ = _
    refine (ss_aload_n rfl rfl).trans ?_
    refine (ss_getR rfl).trans ?_
    refine congrArg (Option.bind _) (funext fun x15 => ?_)
    refine (ss_iconst rfl (v := 0) rfl).trans ?_
    refine (ss_iaload rfl).trans ?_
    refine congrArg (Option.bind _) (funext fun x16 => ?_)
    exact ss_ireturn rfl
  rw [if_neg c17]
  by_cases c20 : v1 = 7
  · rw [if_pos c20, c20]
    show pS X _ _ _ 107 _ _ _ = _
    refine (ss_aload_n rfl rfl).trans ?_
    refine (ss_getR rfl).trans ?_
    refine congrArg (Option.bind _) (funext fun x18 => ?_)
    refine (ss_bipush rfl (v := 19) rfl).trans ?_
    refine (ss_iaload rfl).trans ?_
    refine congrArg (Option.bind _) (funext fun x19 => ?_)
    exact ss_ireturn rfl
  rw [if_neg c20]
  by_cases c23 : v1 = 8
  · rw [if_pos c23, c23]
    show pS X _ _ _ 115 _ _ _ = _
    refine (ss_aload_n rfl rfl).trans ?_
    refine (ss_getR rfl).trans ?_
    refine congrArg (Option.bind _) (funext fun x21 => ?_)
    refine (ss_bipush rfl (v := 38) rfl).trans ?_
    refine (ss_iaload rfl).trans ?_
    refine congrArg (Option.bind _) (funext fun x22 => ?_)
    exact ss_ireturn rfl
  rw [if_neg c23]
  by_cases c25 : v1 = 9
  · rw [if_pos c25, c25]
    show pS X _ _ _ 123 _ _ _ = _
    refine (ss_aload_n rfl rfl).trans ?_
    refine (ss_getI rfl).trans ?_
    refine congrArg (Option.bind _) (funext fun x24 => ?_)
    exact ss_ireturn rfl
  rw [if_neg c25]
  by_cases c27 : v1 = 10
  · rw [if_pos c27, c27]
    show pS X _ _ _ 128 _ _ _ = _
    refine (ss_aload_n rfl rfl).trans ?_
    refine (ss_getI rfl).trans ?_
    refine congrArg (Option.bind _) (funext fun x26 => ?_)
    exact ss_ireturn rfl
  rw [if_neg c27]
  rw [pv_sw_out (pc := 6) (q := 133) (d := 127) (lo := 0) (hi := 10) (by decide) (by decide) (by have z0 := pv_ne c3 (k := 0) (z := 0) (by decide); have z1 := pv_ne c6 (k := 1) (z := 1) (by decide); have z2 := pv_ne c8 (k := 2) (z := 2) (by decide); have z3 := pv_ne c10 (k := 3) (z := 3) (by decide); have z4 := pv_ne c12 (k := 4) (z := 4) (by decide); have z5 := pv_ne c14 (k := 5) (z := 5) (by decide); have z6 := pv_ne c17 (k := 6) (z := 6) (by decide); have z7 := pv_ne c20 (k := 7) (z := 7) (by decide); have z8 := pv_ne c23 (k := 8) (z := 8) (by decide); have z9 := pv_ne c25 (k := 9) (z := 9) (by decide); have z10 := pv_ne c27 (k := 10) (z := 10) (by decide); omega)]
  show pS X _ _ _ 133 _ _ _ = _
  refine (ss_iconst rfl (v := (-1)) rfl).trans ?_
  exact ss_ireturn rfl
theorem e_Md_count (X : pv_X) (v0 : Nat) (v1 : Int32) (h : pv_H) : pM X m_Md_count [.ref v0, .int v1] h = f_Md_count_0 X v0 v1 h := rfl
