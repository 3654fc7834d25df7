noncomputable def f_Cl_init_0 (X : pv_X) (v0 : Nat) (h : pv_H) : Option pv_O := pS X 1 (none) k_Cl_init 0 [some (.ref v0)] [] h
set_option maxRecDepth 8000 in
theorem u_Cl_init_0 (X : pv_X) (v0 : Nat) (h : pv_H) : f_Cl_init_0 X v0 h =
    (pv_na h 1 6).bind (fun h1 => (pv_fp h1 v0 0 0 (.ref h.length)).bind (fun h2 => (pv_na h2 1 6).bind (fun h3 => (pv_fp h3 v0 0 1 (.ref h2.length)).bind (fun h4 => (pv_na h4 1 6).bind (fun h5 => (pv_fp h5 v0 0 2 (.ref h4.length)).bind (fun h6 => some (none, h6))))))) := by
  show pS X 1 (none) k_Cl_init 0 [some (.ref v0)] [] h = _
  refine (ss_aload_n rfl rfl).trans ?_
  refine (ss_oinit rfl (by decide)).trans ?_
  refine (ss_aload_n rfl rfl).trans ?_
  refine (ss_bipush rfl (v := 6) rfl).trans ?_
  refine (ss_newarray (by decide) rfl).trans ?_
  refine congrArg (Option.bind _) (funext fun h1 => ?_)
  refine (ss_putR rfl).trans ?_
  refine congrArg (Option.bind _) (funext fun h2 => ?_)
  refine (ss_aload_n rfl rfl).trans ?_
  refine (ss_bipush rfl (v := 6) rfl).trans ?_
  refine (ss_newarray (by decide) rfl).trans ?_
  refine congrArg (Option.bind _) (funext fun h3 => ?_)
  refine (ss_putR rfl).trans ?_
  refine congrArg (Option.bind _) (funext fun h4 => ?_)
  refine (ss_aload_n rfl rfl).trans ?_
  refine (ss_bipush rfl (v := 6) rfl).trans ?_
  refine (ss_newarray (by decide) rfl).trans ?_
  refine congrArg (Option.bind _) (funext fun h5 => ?_)
  refine (ss_putR rfl).trans ?_
  refine congrArg (Option.bind _) (funext fun h6 => ?_)
  exact ss_return rfl
theorem e_Cl_init (X : pv_X) (v0 : Nat) (h : pv_H) : pM X m_Cl_init [.ref v0] h = f_Cl_init_0 X v0 h := rfl
noncomputable def f_Cl_add_0 (X : pv_X) (v0 : Nat) (v1 : Int32) (v2 : Int32) (v3 : Int32) (h : pv_H) : Option pv_O := pS X 1 (some .boolean) k_Cl_add 0 [some (.ref v0), some (.int v1), some (.int v2), some (.int v3)] [] h
set_option maxRecDepth 8000 in
theorem u_Cl_add_0 (X : pv_X) (v0 : Nat) (v1 : Int32) (v2 : Int32) (v3 : Int32) (h : pv_H) : f_Cl_add_0 X v0 v1 v2 v3 h =
    (pv_fI h v0 0 3).bind (fun x1 => if x1 < 6 then (pv_fR h v0 0 0).bind (fun x2 => (pv_fI h v0 0 3).bind (fun x3 => (pv_sI h x2 x3 v1).bind (fun h4 => (pv_fR h4 v0 0 1).bind (fun x5 => (pv_fI h4 v0 0 3).bind (fun x6 => (pv_sI h4 x5 x6 v2).bind (fun h7 => (pv_fR h7 v0 0 2).bind (fun x8 => (pv_fI h7 v0 0 3).bind (fun x9 => (pv_sI h7 x8 x9 v3).bind (fun h10 => (pv_fI h10 v0 0 3).bind (fun x11 => (pv_fp h10 v0 0 3 (.int (x11 + 1))).bind (fun h12 => some (some (.int 1), h12)))))))))))) else some (some (.int 0), h)) := by
  show pS X 1 (some .boolean) k_Cl_add 0 [some (.ref v0), some (.int v1), some (.int v2), some (.int v3)] [] h = _
  refine (ss_aload_n rfl rfl).trans ?_
  refine (ss_getI rfl).trans ?_
  refine congrArg (Option.bind _) (funext fun x1 => ?_)
  refine (ss_bipush rfl (v := 6) rfl).trans ?_
  refine (ss_icmp_lt rfl).trans ?_
  refine pv_ite ?_ ?_
  · refine (ss_aload_n rfl rfl).trans ?_
    refine (ss_getR rfl).trans ?_
    refine congrArg (Option.bind _) (funext fun x2 => ?_)
    refine (ss_aload_n rfl rfl).trans ?_
    refine (ss_getI rfl).trans ?_
    refine congrArg (Option.bind _) (funext fun x3 => ?_)
    refine (ss_iload_n rfl rfl).trans ?_
    refine (ss_iastore rfl).trans ?_
    refine congrArg (Option.bind _) (funext fun h4 => ?_)
    refine (ss_aload_n rfl rfl).trans ?_
    refine (ss_getR rfl).trans ?_
    refine congrArg (Option.bind _) (funext fun x5 => ?_)
    refine (ss_aload_n rfl rfl).trans ?_
    refine (ss_getI rfl).trans ?_
    refine congrArg (Option.bind _) (funext fun x6 => ?_)
    refine (ss_iload_n rfl rfl).trans ?_
    refine (ss_iastore rfl).trans ?_
    refine congrArg (Option.bind _) (funext fun h7 => ?_)
    refine (ss_aload_n rfl rfl).trans ?_
    refine (ss_getR rfl).trans ?_
    refine congrArg (Option.bind _) (funext fun x8 => ?_)
    refine (ss_aload_n rfl rfl).trans ?_
    refine (ss_getI rfl).trans ?_
    refine congrArg (Option.bind _) (funext fun x9 => ?_)
    refine (ss_iload_n rfl rfl).trans ?_
    refine (ss_iastore rfl).trans ?_
    refine congrArg (Option.bind _) (funext fun h10 => ?_)
    refine (ss_aload_n rfl rfl).trans ?_
    refine (ss_dupR rfl).trans ?_
    refine (ss_getI rfl).trans ?_
    refine congrArg (Option.bind _) (funext fun x11 => ?_)
    refine (ss_iconst rfl (v := 1) rfl).trans ?_
    refine (ss_iadd rfl).trans ?_
    refine (ss_putI rfl).trans ?_
    refine congrArg (Option.bind _) (funext fun h12 => ?_)
    refine (ss_iconst rfl (v := 1) rfl).trans ?_
    exact (ss_zreturn rfl).trans (if_pos (by decide))
  · refine (ss_iconst rfl (v := 0) rfl).trans ?_
    exact (ss_zreturn rfl).trans (if_pos (by decide))
theorem e_Cl_add (X : pv_X) (v0 : Nat) (v1 : Int32) (v2 : Int32) (v3 : Int32) (h : pv_H) : pM X m_Cl_add [.ref v0, .int v1, .int v2, .int v3] h = f_Cl_add_0 X v0 v1 v2 v3 h := rfl
noncomputable def f_Cl_copy_0 (X : pv_X) (v0 : Nat) (v1 : Nat) (h : pv_H) : Option pv_O := pS X 1 (none) k_Cl_copy 0 [some (.ref v0), some (.ref v1)] [] h
set_option maxRecDepth 8000 in
theorem u_Cl_copy_0 (X : pv_X) (v0 : Nat) (v1 : Nat) (h : pv_H) : f_Cl_copy_0 X v0 v1 h =
    (pv_fR h v1 0 0).bind (fun x1 => (pv_fR h v0 0 0).bind (fun x2 => (pv_cp h x1 0 x2 0 6).bind (fun h3 => (pv_fR h3 v1 0 1).bind (fun x4 => (pv_fR h3 v0 0 1).bind (fun x5 => (pv_cp h3 x4 0 x5 0 6).bind (fun h6 => (pv_fR h6 v1 0 2).bind (fun x7 => (pv_fR h6 v0 0 2).bind (fun x8 => (pv_cp h6 x7 0 x8 0 6).bind (fun h9 => (pv_fI h9 v1 0 3).bind (fun x10 => (pv_fp h9 v0 0 3 (.int x10)).bind (fun h11 => some (none, h11)))))))))))) := by
  show pS X 1 (none) k_Cl_copy 0 [some (.ref v0), some (.ref v1)] [] h = _
  refine (ss_aload_n rfl rfl).trans ?_
  refine (ss_getR rfl).trans ?_
  refine congrArg (Option.bind _) (funext fun x1 => ?_)
  refine (ss_iconst rfl (v := 0) rfl).trans ?_
  refine (ss_aload_n rfl rfl).trans ?_
  refine (ss_getR rfl).trans ?_
  refine congrArg (Option.bind _) (funext fun x2 => ?_)
  refine (ss_iconst rfl (v := 0) rfl).trans ?_
  refine (ss_bipush rfl (v := 6) rfl).trans ?_
  refine (ss_copy rfl (by simp [Value.category])).trans ?_
  refine congrArg (Option.bind _) (funext fun h3 => ?_)
  refine (ss_aload_n rfl rfl).trans ?_
  refine (ss_getR rfl).trans ?_
  refine congrArg (Option.bind _) (funext fun x4 => ?_)
  refine (ss_iconst rfl (v := 0) rfl).trans ?_
  refine (ss_aload_n rfl rfl).trans ?_
  refine (ss_getR rfl).trans ?_
  refine congrArg (Option.bind _) (funext fun x5 => ?_)
  refine (ss_iconst rfl (v := 0) rfl).trans ?_
  refine (ss_bipush rfl (v := 6) rfl).trans ?_
  refine (ss_copy rfl (by simp [Value.category])).trans ?_
  refine congrArg (Option.bind _) (funext fun h6 => ?_)
  refine (ss_aload_n rfl rfl).trans ?_
  refine (ss_getR rfl).trans ?_
  refine congrArg (Option.bind _) (funext fun x7 => ?_)
  refine (ss_iconst rfl (v := 0) rfl).trans ?_
  refine (ss_aload_n rfl rfl).trans ?_
  refine (ss_getR rfl).trans ?_
  refine congrArg (Option.bind _) (funext fun x8 => ?_)
  refine (ss_iconst rfl (v := 0) rfl).trans ?_
  refine (ss_bipush rfl (v := 6) rfl).trans ?_
  refine (ss_copy rfl (by simp [Value.category])).trans ?_
  refine congrArg (Option.bind _) (funext fun h9 => ?_)
  refine (ss_aload_n rfl rfl).trans ?_
  refine (ss_aload_n rfl rfl).trans ?_
  refine (ss_getI rfl).trans ?_
  refine congrArg (Option.bind _) (funext fun x10 => ?_)
  refine (ss_putI rfl).trans ?_
  refine congrArg (Option.bind _) (funext fun h11 => ?_)
  exact ss_return rfl
theorem e_Cl_copy (X : pv_X) (v0 : Nat) (v1 : Nat) (h : pv_H) : pM X m_Cl_copy [.ref v0, .ref v1] h = f_Cl_copy_0 X v0 v1 h := rfl
noncomputable def f_Da_init_0 (X : pv_X) (v0 : Nat) (h : pv_H) : Option pv_O := pS X 1 (none) k_Da_init 0 [some (.ref v0)] [] h
set_option maxRecDepth 8000 in
theorem u_Da_init_0 (X : pv_X) (v0 : Nat) (h : pv_H) : f_Da_init_0 X v0 h =
    (pv_na h 1 40).bind (fun h1 => (pv_fp h1 v0 1 0 (.ref h.length)).bind (fun h2 => (pv_na h2 1 40).bind (fun h3 => (pv_fp h3 v0 1 1 (.ref h2.length)).bind (fun h4 => (pv_na h4 1 40).bind (fun h5 => (pv_fp h5 v0 1 2 (.ref h4.length)).bind (fun h6 => some (none, h6))))))) := by
  show pS X 1 (none) k_Da_init 0 [some (.ref v0)] [] h = _
  refine (ss_aload_n rfl rfl).trans ?_
  refine (ss_oinit rfl (by decide)).trans ?_
  refine (ss_aload_n rfl rfl).trans ?_
  refine (ss_bipush rfl (v := 40) rfl).trans ?_
  refine (ss_newarray (by decide) rfl).trans ?_
  refine congrArg (Option.bind _) (funext fun h1 => ?_)
  refine (ss_putR rfl).trans ?_
  refine congrArg (Option.bind _) (funext fun h2 => ?_)
  refine (ss_aload_n rfl rfl).trans ?_
  refine (ss_bipush rfl (v := 40) rfl).trans ?_
  refine (ss_newarray (by decide) rfl).trans ?_
  refine congrArg (Option.bind _) (funext fun h3 => ?_)
  refine (ss_putR rfl).trans ?_
  refine congrArg (Option.bind _) (funext fun h4 => ?_)
  refine (ss_aload_n rfl rfl).trans ?_
  refine (ss_bipush rfl (v := 40) rfl).trans ?_
  refine (ss_newarray (by decide) rfl).trans ?_
  refine congrArg (Option.bind _) (funext fun h5 => ?_)
  refine (ss_putR rfl).trans ?_
  refine congrArg (Option.bind _) (funext fun h6 => ?_)
  exact ss_return rfl
theorem e_Da_init (X : pv_X) (v0 : Nat) (h : pv_H) : pM X m_Da_init [.ref v0] h = f_Da_init_0 X v0 h := rfl
noncomputable def f_Da_readFrom_0 (X : pv_X) (v0 : Nat) (v1 : Nat) (v2 : Nat) (h : pv_H) : Option pv_O := pS X 19 (some .int) k_Da_readFrom 0 [some (.ref v0), some (.ref v1), some (.ref v2), none, none] [] h
noncomputable def f_Da_readFrom_14 (X : pv_X) (v0 : Nat) (v1 : Nat) (v2 : Nat) (v3 : Int32) (v4 : Int32) (h : pv_H) : Option pv_O := pS X 19 (some .int) k_Da_readFrom 14 [some (.ref v0), some (.ref v1), some (.ref v2), some (.int v3), some (.int v4)] [] h
noncomputable def f_Da_readFrom_55 (X : pv_X) (v0 : Nat) (v1 : Nat) (v2 : Nat) (v3 : Int32) (v4 : Int32) (h : pv_H) : Option pv_O := pS X 19 (some .int) k_Da_readFrom 55 [some (.ref v0), some (.ref v1), some (.ref v2), some (.int v3), some (.int v4)] [] h
noncomputable def f_Da_readFrom_56 (X : pv_X) (v0 : Nat) (v1 : Nat) (v2 : Nat) (v3 : Int32) (v4 : Int32) (s0 : Int32) (h : pv_H) : Option pv_O := pS X 19 (some .int) k_Da_readFrom 56 [some (.ref v0), some (.ref v1), some (.ref v2), some (.int v3), some (.int v4)] [.int s0] h
noncomputable def f_Da_readFrom_63 (X : pv_X) (v0 : Nat) (v1 : Nat) (v2 : Nat) (v3 : Int32) (v4 : Int32) (h : pv_H) : Option pv_O := pS X 19 (some .int) k_Da_readFrom 63 [some (.ref v0), some (.ref v1), some (.ref v2), some (.int v3), some (.int v4)] [] h
set_option maxRecDepth 8000 in
theorem u_Da_readFrom_0 (X : pv_X) (v0 : Nat) (v1 : Nat) (v2 : Nat) (h : pv_H) : f_Da_readFrom_0 X v0 v1 v2 h =
    (pv_fp h v0 1 3 (.int 0)).bind (fun h1 => if pv_rc h1 v1 9 = true then (pv_tV (pM X m_Tp_start [.ref v1] h1)).bind (fun h2 => f_Da_readFrom_14 X v0 v1 v2 1 0 h2) else none) := by
  show pS X 19 (some .int) k_Da_readFrom 0 [some (.ref v0), some (.ref v1), some (.ref v2), none, none] [] h = _
  refine (ss_aload_n rfl rfl).trans ?_
  refine (ss_iconst rfl (v := 0) rfl).trans ?_
  refine (ss_putI rfl).trans ?_
  refine congrArg (Option.bind _) (funext fun h1 => ?_)
  refine (ss_aload_n rfl rfl).trans ?_
  refine (ss_callVN (as := []) rfl t_Tp_start (by decide) rfl rfl (by decide) rfl ⟨Nat.le_of_ble_eq_true rfl, Nat.le_of_ble_eq_true rfl⟩).trans ?_
  refine pv_ite ?_ rfl
  refine congrArg (Option.bind _) (funext fun h2 => ?_)
  refine (ss_iconst rfl (v := 1) rfl).trans ?_
  refine (ss_istore_n rfl rfl).trans ?_
  refine (ss_iconst rfl (v := 0) rfl).trans ?_
  refine (ss_istore rfl rfl).trans ?_
  rfl
set_option maxRecDepth 8000 in
theorem u_Da_readFrom_14 (X : pv_X) (v0 : Nat) (v1 : Nat) (v2 : Nat) (v3 : Int32) (v4 : Int32) (h : pv_H) : f_Da_readFrom_14 X v0 v1 v2 v3 v4 h =
    if 1000 ≤ v4 then f_Da_readFrom_63 X v0 v1 v2 v3 v4 h else if v3 = 0 then f_Da_readFrom_63 X v0 v1 v2 v3 v4 h else if pv_rc h v1 9 = true then (pv_tI (pM X m_Tp_isEnd [.ref v1] h)).bind (fun q1 => if ¬ q1.1 = 0 then f_Da_readFrom_63 X v0 v1 v2 v3 v4 q1.2 else if pv_rc q1.2 v0 1 = true then (pv_tI (pM X m_Da_readLine [.ref v0, .ref v1, .ref v2] q1.2)).bind (fun q2 => if q2.1 = 0 then f_Da_readFrom_55 X v0 v1 v2 v3 v4 q2.2 else if pv_rc q2.2 v1 9 = true then (pv_tI (pM X m_Tp_takeSign [.ref v1, .int 59] q2.2)).bind (fun q3 => if q3.1 = 0 then f_Da_readFrom_55 X v0 v1 v2 v3 v4 q3.2 else f_Da_readFrom_56 X v0 v1 v2 v3 v4 1 q3.2) else none) else none) else none := by
  show pS X 19 (some .int) k_Da_readFrom 14 [some (.ref v0), some (.ref v1), some (.ref v2), some (.int v3), some (.int v4)] [] h = _
  refine (ss_iload rfl rfl).trans ?_
  refine (ss_sipush rfl (v := 1000) rfl).trans ?_
  refine (ss_icmp_ge rfl).trans ?_
  refine pv_ite ?_ ?_
  · rfl
  · refine (ss_iload_n rfl rfl).trans ?_
    refine (ss_if_eq rfl).trans ?_
    refine pv_ite ?_ ?_
    · rfl
    · refine (ss_aload_n rfl rfl).trans ?_
      refine (ss_callVI (as := []) rfl t_Tp_isEnd (by decide) rfl rfl (by decide) (Or.inr rfl) ⟨Nat.le_of_ble_eq_true rfl, Nat.le_of_ble_eq_true rfl⟩).trans ?_
      refine pv_ite ?_ rfl
      refine congrArg (Option.bind _) (funext fun q1 => ?_)
      refine (ss_if_ne rfl).trans ?_
      refine pv_ite ?_ ?_
      · rfl
      · refine (ss_aload_n rfl rfl).trans ?_
        refine (ss_aload_n rfl rfl).trans ?_
        refine (ss_aload_n rfl rfl).trans ?_
        refine (ss_callVI (as := [.ref v1, .ref v2]) rfl t_Da_readLine (by decide) rfl rfl (by decide) (Or.inr rfl) ⟨Nat.le_of_ble_eq_true rfl, Nat.le_of_ble_eq_true rfl⟩).trans ?_
        refine pv_ite ?_ rfl
        refine congrArg (Option.bind _) (funext fun q2 => ?_)
        refine (ss_if_eq rfl).trans ?_
        refine pv_ite ?_ ?_
        · rfl
        · refine (ss_aload_n rfl rfl).trans ?_
          refine (ss_bipush rfl (v := 59) rfl).trans ?_
          refine (ss_callVI (as := [.int 59]) rfl t_Tp_takeSign (by decide) rfl rfl (by decide) (Or.inr rfl) ⟨Nat.le_of_ble_eq_true rfl, Nat.le_of_ble_eq_true rfl⟩).trans ?_
          refine pv_ite ?_ rfl
          refine congrArg (Option.bind _) (funext fun q3 => ?_)
          refine (ss_if_eq rfl).trans ?_
          refine pv_ite ?_ ?_
          · rfl
          · refine (ss_iconst rfl (v := 1) rfl).trans ?_
            refine (ss_goto rfl).trans ?_
            rfl
set_option maxRecDepth 8000 in
theorem u_Da_readFrom_55 (X : pv_X) (v0 : Nat) (v1 : Nat) (v2 : Nat) (v3 : Int32) (v4 : Int32) (h : pv_H) : f_Da_readFrom_55 X v0 v1 v2 v3 v4 h =
    f_Da_readFrom_56 X v0 v1 v2 v3 v4 0 h := by
  show pS X 19 (some .int) k_Da_readFrom 55 [some (.ref v0), some (.ref v1), some (.ref v2), some (.int v3), some (.int v4)] [] h = _
  refine (ss_iconst rfl (v := 0) rfl).trans ?_
  rfl
set_option maxRecDepth 8000 in
theorem u_Da_readFrom_56 (X : pv_X) (v0 : Nat) (v1 : Nat) (v2 : Nat) (v3 : Int32) (v4 : Int32) (s0 : Int32) (h : pv_H) : f_Da_readFrom_56 X v0 v1 v2 v3 v4 s0 h =
    f_Da_readFrom_14 X v0 v1 v2 s0 (v4 + 1) h := by
  show pS X 19 (some .int) k_Da_readFrom 56 [some (.ref v0), some (.ref v1), some (.ref v2), some (.int v3), some (.int v4)] [.int s0] h = _
  refine (ss_istore_n rfl rfl).trans ?_
  refine (ss_iinc3 rfl rfl (v := v4 + 1) (congrArg (HAdd.hAdd _) (show Int32.ofInt (1) = 1 by decide)) rfl).trans ?_
  refine (ss_goto rfl).trans ?_
  rfl
set_option maxRecDepth 8000 in
theorem u_Da_readFrom_63 (X : pv_X) (v0 : Nat) (v1 : Nat) (v2 : Nat) (v3 : Int32) (v4 : Int32) (h : pv_H) : f_Da_readFrom_63 X v0 v1 v2 v3 v4 h =
    (pv_fI h v1 9 4).bind (fun x1 => some (some (.int x1), h)) := by
  show pS X 19 (some .int) k_Da_readFrom 63 [some (.ref v0), some (.ref v1), some (.ref v2), some (.int v3), some (.int v4)] [] h = _
  refine (ss_aload_n rfl rfl).trans ?_
  refine (ss_getI rfl).trans ?_
  refine congrArg (Option.bind _) (funext fun x1 => ?_)
  exact ss_ireturn rfl
theorem e_Da_readFrom (X : pv_X) (v0 : Nat) (v1 : Nat) (v2 : Nat) (h : pv_H) : pM X m_Da_readFrom [.ref v0, .ref v1, .ref v2] h = f_Da_readFrom_0 X v0 v1 v2 h := rfl
noncomputable def f_Da_readLine_0 (X : pv_X) (v0 : Nat) (v1 : Nat) (v2 : Nat) (h : pv_H) : Option pv_O := pS X 18 (some .boolean) k_Da_readLine 0 [some (.ref v0), some (.ref v1), some (.ref v2), none, none, none] [] h
noncomputable def f_Da_readLine_52 (X : pv_X) (v0 : Nat) (v1 : Nat) (v2 : Nat) (v3 : Int32) (v4 : Int32) (v5 : Int32) (h : pv_H) : Option pv_O := pS X 18 (some .boolean) k_Da_readLine 52 [some (.ref v0), some (.ref v1), some (.ref v2), some (.int v3), some (.int v4), some (.int v5)] [] h
noncomputable def f_Da_readLine_92 (X : pv_X) (v0 : Nat) (v1 : Nat) (v2 : Nat) (v3 : Int32) (v4 : Int32) (v5 : Int32) (h : pv_H) : Option pv_O := pS X 18 (some .boolean) k_Da_readLine 92 [some (.ref v0), some (.ref v1), some (.ref v2), some (.int v3), some (.int v4), some (.int v5)] [] h
noncomputable def f_Da_readLine_105 (X : pv_X) (v0 : Nat) (v1 : Nat) (v2 : Nat) (v3 : Int32) (v4 : Int32) (v5 : Int32) (s0 : Int32) (s1 : Nat) (s2 : Nat) (s3 : Nat) (h : pv_H) : Option pv_O := pS X 18 (some .boolean) k_Da_readLine 105 [some (.ref v0), some (.ref v1), some (.ref v2), some (.int v3), some (.int v4), some (.int v5)] [.int s0, .ref s1, .ref s2, .ref s3] h
set_option maxRecDepth 8000 in
theorem u_Da_readLine_0 (X : pv_X) (v0 : Nat) (v1 : Nat) (v2 : Nat) (h : pv_H) : f_Da_readLine_0 X v0 v1 v2 h =
    if pv_rc h v1 9 = true then (pv_tI (pM X m_Tp_isWord [.ref v1, .ref (pv_scr + 1 + 5)] h)).bind (fun q1 => if pv_rc q1.2 v1 9 = true then (pv_tI (pM X m_Tp_isWord [.ref v1, .ref (pv_scr + 1 + 6)] q1.2)).bind (fun q2 => if pv_rc q2.2 v1 9 = true then (pv_tI (pM X m_Tp_isWord [.ref v1, .ref (pv_scr + 1 + 7)] q2.2)).bind (fun q3 => if ¬ q1.1 = 0 then f_Da_readLine_52 X v0 v1 v2 q1.1 q2.1 q3.1 q3.2 else if ¬ q2.1 = 0 then f_Da_readLine_52 X v0 v1 v2 q1.1 q2.1 q3.1 q3.2 else if ¬ q3.1 = 0 then f_Da_readLine_52 X v0 v1 v2 q1.1 q2.1 q3.1 q3.2 else if pv_rc q3.2 v1 9 = true then (pv_tI (pM X m_Tp_isWord [.ref v1, .ref (pv_scr + 1 + 8)] q3.2)).bind (fun q4 => if ¬ q4.1 = 0 then f_Da_readLine_52 X v0 v1 v2 q1.1 q2.1 q3.1 q4.2 else if pv_rc q4.2 v1 9 = true then (pv_tI (pM X m_Tp_refuse [.ref v1, .int 1] q4.2)).bind (fun q5 => if q5.1 = 0 ∨ q5.1 = 1 then some (some (.int q5.1), q5.2) else none) else none) else none) else none) else none) else none := by
  show pS X 18 (some .boolean) k_Da_readLine 0 [some (.ref v0), some (.ref v1), some (.ref v2), none, none, none] [] h = _
  refine (ss_aload_n rfl rfl).trans ?_
  refine (ss_ldcs rfl).trans ?_
  refine (ss_callVI (as := [.ref (pv_scr + 1 + 5)]) rfl t_Tp_isWord (by decide) rfl rfl (by decide) (Or.inr rfl) ⟨Nat.le_of_ble_eq_true rfl, Nat.le_of_ble_eq_true rfl⟩).trans ?_
  refine pv_ite ?_ rfl
  refine congrArg (Option.bind _) (funext fun q1 => ?_)
  refine (ss_istore_n rfl rfl).trans ?_
  refine (ss_aload_n rfl rfl).trans ?_
  refine (ss_ldcs rfl).trans ?_
  refine (ss_callVI (as := [.ref (pv_scr + 1 + 6)]) rfl t_Tp_isWord (by decide) rfl rfl (by decide) (Or.inr rfl) ⟨Nat.le_of_ble_eq_true rfl, Nat.le_of_ble_eq_true rfl⟩).trans ?_
  refine pv_ite ?_ rfl
  refine congrArg (Option.bind _) (funext fun q2 => ?_)
  refine (ss_istore rfl rfl).trans ?_
  refine (ss_aload_n rfl rfl).trans ?_
  refine (ss_ldcs rfl).trans ?_
  refine (ss_callVI (as := [.ref (pv_scr + 1 + 7)]) rfl t_Tp_isWord (by decide) rfl rfl (by decide) (Or.inr rfl) ⟨Nat.le_of_ble_eq_true rfl, Nat.le_of_ble_eq_true rfl⟩).trans ?_
  refine pv_ite ?_ rfl
  refine congrArg (Option.bind _) (funext fun q3 => ?_)
  refine (ss_istore rfl rfl).trans ?_
  refine (ss_iload_n rfl rfl).trans ?_
  refine (ss_if_ne rfl).trans ?_
  refine pv_ite ?_ ?_
  · rfl
  · refine (ss_iload rfl rfl).trans ?_
    refine (ss_if_ne rfl).trans ?_
    refine pv_ite ?_ ?_
    · rfl
    · refine (ss_iload rfl rfl).trans ?_
      refine (ss_if_ne rfl).trans ?_
      refine pv_ite ?_ ?_
      · rfl
      · refine (ss_aload_n rfl rfl).trans ?_
        refine (ss_ldcs rfl).trans ?_
        refine (ss_callVI (as := [.ref (pv_scr + 1 + 8)]) rfl t_Tp_isWord (by decide) rfl rfl (by decide) (Or.inr rfl) ⟨Nat.le_of_ble_eq_true rfl, Nat.le_of_ble_eq_true rfl⟩).trans ?_
        refine pv_ite ?_ rfl
        refine congrArg (Option.bind _) (funext fun q4 => ?_)
        refine (ss_if_ne rfl).trans ?_
        refine pv_ite ?_ ?_
        · rfl
        · refine (ss_aload_n rfl rfl).trans ?_
          refine (ss_iconst rfl (v := 1) rfl).trans ?_
          refine (ss_callVI (as := [.int 1]) rfl t_Tp_refuse (by decide) rfl rfl (by decide) (Or.inr rfl) ⟨Nat.le_of_ble_eq_true rfl, Nat.le_of_ble_eq_true rfl⟩).trans ?_
          refine pv_ite ?_ rfl
          refine congrArg (Option.bind _) (funext fun q5 => ?_)
          exact ss_zreturn rfl
set_option maxRecDepth 8000 in
theorem u_Da_readLine_52 (X : pv_X) (v0 : Nat) (v1 : Nat) (v2 : Nat) (v3 : Int32) (v4 : Int32) (v5 : Int32) (h : pv_H) : f_Da_readLine_52 X v0 v1 v2 v3 v4 v5 h =
    (pv_fI h v0 1 3).bind (fun x1 => if x1 < 40 then if pv_rc h v1 9 = true then (pv_tV (pM X m_Tp_advance [.ref v1] h)).bind (fun h2 => if v3 = 0 then if ¬ v4 = 0 then f_Da_readLine_92 X v0 v1 v2 v3 v4 v5 h2 else if v5 = 0 then if pv_rc h2 v0 1 = true then (pv_tI (pM X m_Da_addLine [.ref v0, .int 2, .int 0, .int 0] h2)).bind (fun q3 => if q3.1 = 0 ∨ q3.1 = 1 then some (some (.int q3.1), q3.2) else none) else none else f_Da_readLine_92 X v0 v1 v2 v3 v4 v5 h2 else if pv_rc h2 v0 1 = true then (pv_tI (pM X m_Da_readAsk [.ref v0, .ref v1, .ref v2] h2)).bind (fun q4 => if q4.1 = 0 ∨ q4.1 = 1 then some (some (.int q4.1), q4.2) else none) else none) else none else if pv_rc h v1 9 = true then (pv_tI (pM X m_Tp_refuse [.ref v1, .int 5] h)).bind (fun q5 => if q5.1 = 0 ∨ q5.1 = 1 then some (some (.int q5.1), q5.2) else none) else none) := by
  show pS X 18 (some .boolean) k_Da_readLine 52 [some (.ref v0), some (.ref v1), some (.ref v2), some (.int v3), some (.int v4), some (.int v5)] [] h = _
  refine (ss_aload_n rfl rfl).trans ?_
  refine (ss_getI rfl).trans ?_
  refine congrArg (Option.bind _) (funext fun x1 => ?_)
  refine (ss_bipush rfl (v := 40) rfl).trans ?_
  refine (ss_icmp_lt rfl).trans ?_
  refine pv_ite ?_ ?_
  · refine (ss_aload_n rfl rfl).trans ?_
    refine (ss_callVN (as := []) rfl t_Tp_advance (by decide) rfl rfl (by decide) rfl ⟨Nat.le_of_ble_eq_true rfl, Nat.le_of_ble_eq_true rfl⟩).trans ?_
    refine pv_ite ?_ rfl
    refine congrArg (Option.bind _) (funext fun h2 => ?_)
    refine (ss_iload_n rfl rfl).trans ?_
    refine (ss_if_eq rfl).trans ?_
    refine pv_ite ?_ ?_
    · refine (ss_iload rfl rfl).trans ?_
      refine (ss_if_ne rfl).trans ?_
      refine pv_ite ?_ ?_
      · rfl
      · refine (ss_iload rfl rfl).trans ?_
        refine (ss_if_eq rfl).trans ?_
        refine pv_ite ?_ ?_
        · refine (ss_aload_n rfl rfl).trans ?_
          refine (ss_iconst rfl (v := 2) rfl).trans ?_
          refine (ss_iconst rfl (v := 0) rfl).trans ?_
          refine (ss_iconst rfl (v := 0) rfl).trans ?_
          refine (ss_callVI (as := [.int 2, .int 0, .int 0]) rfl t_Da_addLine (by decide) rfl rfl (by decide) (Or.inr rfl) ⟨Nat.le_of_ble_eq_true rfl, Nat.le_of_ble_eq_true rfl⟩).trans ?_
          refine pv_ite ?_ rfl
          refine congrArg (Option.bind _) (funext fun q3 => ?_)
          exact ss_zreturn rfl
        · rfl
    · refine (ss_aload_n rfl rfl).trans ?_
      refine (ss_aload_n rfl rfl).trans ?_
      refine (ss_aload_n rfl rfl).trans ?_
      refine (ss_callVI (as := [.ref v1, .ref v2]) rfl t_Da_readAsk (by decide) rfl rfl (by decide) (Or.inr rfl) ⟨Nat.le_of_ble_eq_true rfl, Nat.le_of_ble_eq_true rfl⟩).trans ?_
      refine pv_ite ?_ rfl
      refine congrArg (Option.bind _) (funext fun q4 => ?_)
      exact ss_zreturn rfl
  · refine (ss_aload_n rfl rfl).trans ?_
    refine (ss_iconst rfl (v := 5) rfl).trans ?_
    refine (ss_callVI (as := [.int 5]) rfl t_Tp_refuse (by decide) rfl rfl (by decide) (Or.inr rfl) ⟨Nat.le_of_ble_eq_true rfl, Nat.le_of_ble_eq_true rfl⟩).trans ?_
    refine pv_ite ?_ rfl
    refine congrArg (Option.bind _) (funext fun q5 => ?_)
    exact ss_zreturn rfl
set_option maxRecDepth 8000 in
theorem u_Da_readLine_92 (X : pv_X) (v0 : Nat) (v1 : Nat) (v2 : Nat) (v3 : Int32) (v4 : Int32) (v5 : Int32) (h : pv_H) : f_Da_readLine_92 X v0 v1 v2 v3 v4 v5 h =
    if v4 = 0 then f_Da_readLine_105 X v0 v1 v2 v3 v4 v5 (-1) v2 v1 v0 h else f_Da_readLine_105 X v0 v1 v2 v3 v4 v5 1 v2 v1 v0 h := by
  show pS X 18 (some .boolean) k_Da_readLine 92 [some (.ref v0), some (.ref v1), some (.ref v2), some (.int v3), some (.int v4), some (.int v5)] [] h = _
  refine (ss_aload_n rfl rfl).trans ?_
  refine (ss_aload_n rfl rfl).trans ?_
  refine (ss_aload_n rfl rfl).trans ?_
  refine (ss_iload rfl rfl).trans ?_
  refine (ss_if_eq rfl).trans ?_
  refine pv_ite ?_ ?_
  · refine (ss_iconst rfl (v := (-1)) rfl).trans ?_
    rfl
  · refine (ss_iconst rfl (v := 1) rfl).trans ?_
    refine (ss_goto rfl).trans ?_
    rfl
set_option maxRecDepth 8000 in
theorem u_Da_readLine_105 (X : pv_X) (v0 : Nat) (v1 : Nat) (v2 : Nat) (v3 : Int32) (v4 : Int32) (v5 : Int32) (s0 : Int32) (s1 : Nat) (s2 : Nat) (s3 : Nat) (h : pv_H) : f_Da_readLine_105 X v0 v1 v2 v3 v4 v5 s0 s1 s2 s3 h =
    if pv_rc h s3 1 = true then (pv_tI (pM X m_Da_readMove [.ref s3, .ref s2, .ref s1, .int s0] h)).bind (fun q1 => if q1.1 = 0 ∨ q1.1 = 1 then some (some (.int q1.1), q1.2) else none) else none := by
  show pS X 18 (some .boolean) k_Da_readLine 105 [some (.ref v0), some (.ref v1), some (.ref v2), some (.int v3), some (.int v4), some (.int v5)] [.int s0, .ref s1, .ref s2, .ref s3] h = _
  refine (ss_callVI (as := [.ref s2, .ref s1, .int s0]) rfl t_Da_readMove (by decide) rfl rfl (by decide) (Or.inr rfl) ⟨Nat.le_of_ble_eq_true rfl, Nat.le_of_ble_eq_true rfl⟩).trans ?_
  refine pv_ite ?_ rfl
  refine congrArg (Option.bind _) (funext fun q1 => ?_)
  exact ss_zreturn rfl
theorem e_Da_readLine (X : pv_X) (v0 : Nat) (v1 : Nat) (v2 : Nat) (h : pv_H) : pM X m_Da_readLine [.ref v0, .ref v1, .ref v2] h = f_Da_readLine_0 X v0 v1 v2 h := rfl
noncomputable def f_Da_readAsk_0 (X : pv_X) (v0 : Nat) (v1 : Nat) (v2 : Nat) (h : pv_H) : Option pv_O := pS X 17 (some .boolean) k_Da_readAsk 0 [some (.ref v0), some (.ref v1), some (.ref v2), none, none] [] h
set_option maxRecDepth 8000 in
theorem u_Da_readAsk_0 (X : pv_X) (v0 : Nat) (v1 : Nat) (v2 : Nat) (h : pv_H) : f_Da_readAsk_0 X v0 v1 v2 h =
    if pv_rc h v2 6 = true then (pv_tI (pM X m_Po_personAt [.ref v2, .ref v1] h)).bind (fun q1 => if ¬ q1.1 = (-1) then if pv_rc q1.2 v1 9 = true then (pv_tV (pM X m_Tp_advance [.ref v1] q1.2)).bind (fun h2 => if pv_rc h2 v2 6 = true then (pv_tI (pM X m_Po_personAt [.ref v2, .ref v1] h2)).bind (fun q3 => if ¬ q3.1 = (-1) then if ¬ q3.1 = q1.1 then if pv_rc q3.2 v1 9 = true then (pv_tV (pM X m_Tp_advance [.ref v1] q3.2)).bind (fun h4 => if pv_rc h4 v0 1 = true then (pv_tI (pM X m_Da_addLine [.ref v0, .int 0, .int q1.1, .int q3.1] h4)).bind (fun q5 => if q5.1 = 0 ∨ q5.1 = 1 then some (some (.int q5.1), q5.2) else none) else none) else none else if pv_rc q3.2 v1 9 = true then (pv_tI (pM X m_Tp_refuse [.ref v1, .int 3] q3.2)).bind (fun q6 => if q6.1 = 0 ∨ q6.1 = 1 then some (some (.int q6.1), q6.2) else none) else none else some (some (.int 0), q3.2)) else none) else none else some (some (.int 0), q1.2)) else none := by
  show pS X 17 (some .boolean) k_Da_readAsk 0 [some (.ref v0), some (.ref v1), some (.ref v2), none, none] [] h = _
  refine (ss_aload_n rfl rfl).trans ?_
  refine (ss_aload_n rfl rfl).trans ?_
  refine (ss_callVI (as := [.ref v1]) rfl t_Po_personAt (by decide) rfl rfl (by decide) (Or.inl rfl) ⟨Nat.le_of_ble_eq_true rfl, Nat.le_of_ble_eq_true rfl⟩).trans ?_
  refine pv_ite ?_ rfl
  refine congrArg (Option.bind _) (funext fun q1 => ?_)
  refine (ss_istore_n rfl rfl).trans ?_
  refine (ss_iload_n rfl rfl).trans ?_
  refine (ss_iconst rfl (v := (-1)) rfl).trans ?_
  refine (ss_icmp_ne rfl).trans ?_
  refine pv_ite ?_ ?_
  · refine (ss_aload_n rfl rfl).trans ?_
    refine (ss_callVN (as := []) rfl t_Tp_advance (by decide) rfl rfl (by decide) rfl ⟨Nat.le_of_ble_eq_true rfl, Nat.le_of_ble_eq_true rfl⟩).trans ?_
    refine pv_ite ?_ rfl
    refine congrArg (Option.bind _) (funext fun h2 => ?_)
    refine (ss_aload_n rfl rfl).trans ?_
    refine (ss_aload_n rfl rfl).trans ?_
    refine (ss_callVI (as := [.ref v1]) rfl t_Po_personAt (by decide) rfl rfl (by decide) (Or.inl rfl) ⟨Nat.le_of_ble_eq_true rfl, Nat.le_of_ble_eq_true rfl⟩).trans ?_
    refine pv_ite ?_ rfl
    refine congrArg (Option.bind _) (funext fun q3 => ?_)
    refine (ss_istore rfl rfl).trans ?_
    refine (ss_iload rfl rfl).trans ?_
    refine (ss_iconst rfl (v := (-1)) rfl).trans ?_
    refine (ss_icmp_ne rfl).trans ?_
    refine pv_ite ?_ ?_
    · refine (ss_iload rfl rfl).trans ?_
      refine (ss_iload_n rfl rfl).trans ?_
      refine (ss_icmp_ne rfl).trans ?_
      refine pv_ite ?_ ?_
      · refine (ss_aload_n rfl rfl).trans ?_
        refine (ss_callVN (as := []) rfl t_Tp_advance (by decide) rfl rfl (by decide) rfl ⟨Nat.le_of_ble_eq_true rfl, Nat.le_of_ble_eq_true rfl⟩).trans ?_
        refine pv_ite ?_ rfl
        refine congrArg (Option.bind _) (funext fun h4 => ?_)
        refine (ss_aload_n rfl rfl).trans ?_
        refine (ss_iconst rfl (v := 0) rfl).trans ?_
        refine (ss_iload_n rfl rfl).trans ?_
        refine (ss_iload rfl rfl).trans ?_
        refine (ss_callVI (as := [.int 0, .int q1.1, .int q3.1]) rfl t_Da_addLine (by decide) rfl rfl (by decide) (Or.inr rfl) ⟨Nat.le_of_ble_eq_true rfl, Nat.le_of_ble_eq_true rfl⟩).trans ?_
        refine pv_ite ?_ rfl
        refine congrArg (Option.bind _) (funext fun q5 => ?_)
        exact ss_zreturn rfl
      · refine (ss_aload_n rfl rfl).trans ?_
        refine (ss_iconst rfl (v := 3) rfl).trans ?_
        refine (ss_callVI (as := [.int 3]) rfl t_Tp_refuse (by decide) rfl rfl (by decide) (Or.inr rfl) ⟨Nat.le_of_ble_eq_true rfl, Nat.le_of_ble_eq_true rfl⟩).trans ?_
        refine pv_ite ?_ rfl
        refine congrArg (Option.bind _) (funext fun q6 => ?_)
        exact ss_zreturn rfl
    · refine (ss_iconst rfl (v := 0) rfl).trans ?_
      exact (ss_zreturn rfl).trans (if_pos (by decide))
  · refine (ss_iconst rfl (v := 0) rfl).trans ?_
    exact (ss_zreturn rfl).trans (if_pos (by decide))
theorem e_Da_readAsk (X : pv_X) (v0 : Nat) (v1 : Nat) (v2 : Nat) (h : pv_H) : pM X m_Da_readAsk [.ref v0, .ref v1, .ref v2] h = f_Da_readAsk_0 X v0 v1 v2 h := rfl
noncomputable def f_Da_readMove_0 (X : pv_X) (v0 : Nat) (v1 : Nat) (v2 : Nat) (v3 : Int32) (h : pv_H) : Option pv_O := pS X 17 (some .boolean) k_Da_readMove 0 [some (.ref v0), some (.ref v1), some (.ref v2), some (.int v3), none, none] [] h
set_option maxRecDepth 8000 in
theorem u_Da_readMove_0 (X : pv_X) (v0 : Nat) (v1 : Nat) (v2 : Nat) (v3 : Int32) (h : pv_H) : f_Da_readMove_0 X v0 v1 v2 v3 h =
    if pv_rc h v2 6 = true then (pv_tI (pM X m_Po_personAt [.ref v2, .ref v1] h)).bind (fun q1 => if ¬ q1.1 = (-1) then if pv_rc q1.2 v1 9 = true then (pv_tV (pM X m_Tp_advance [.ref v1] q1.2)).bind (fun h2 => if pv_rc h2 v1 9 = true then (pv_tI (pM X m_Tp_holdsNumber [.ref v1, .int 1, .int 60] h2)).bind (fun q3 => if ¬ q3.1 = 0 then (pv_fI q3.2 v1 9 3).bind (fun x4 => if pv_rc q3.2 v1 9 = true then (pv_tV (pM X m_Tp_advance [.ref v1] q3.2)).bind (fun h5 => if pv_rc h5 v0 1 = true then (pv_tI (pM X m_Da_addLine [.ref v0, .int 1, .int q1.1, .int (v3 * x4)] h5)).bind (fun q6 => if q6.1 = 0 ∨ q6.1 = 1 then some (some (.int q6.1), q6.2) else none) else none) else none) else some (some (.int 0), q3.2)) else none) else none else some (some (.int 0), q1.2)) else none := by
  show pS X 17 (some .boolean) k_Da_readMove 0 [some (.ref v0), some (.ref v1), some (.ref v2), some (.int v3), none, none] [] h = _
  refine (ss_aload_n rfl rfl).trans ?_
  refine (ss_aload_n rfl rfl).trans ?_
  refine (ss_callVI (as := [.ref v1]) rfl t_Po_personAt (by decide) rfl rfl (by decide) (Or.inl rfl) ⟨Nat.le_of_ble_eq_true rfl, Nat.le_of_ble_eq_true rfl⟩).trans ?_
  refine pv_ite ?_ rfl
  refine congrArg (Option.bind _) (funext fun q1 => ?_)
  refine (ss_istore rfl rfl).trans ?_
  refine (ss_iload rfl rfl).trans ?_
  refine (ss_iconst rfl (v := (-1)) rfl).trans ?_
  refine (ss_icmp_ne rfl).trans ?_
  refine pv_ite ?_ ?_
  · refine (ss_aload_n rfl rfl).trans ?_
    refine (ss_callVN (as := []) rfl t_Tp_advance (by decide) rfl rfl (by decide) rfl ⟨Nat.le_of_ble_eq_true rfl, Nat.le_of_ble_eq_true rfl⟩).trans ?_
    refine pv_ite ?_ rfl
    refine congrArg (Option.bind _) (funext fun h2 => ?_)
    refine (ss_aload_n rfl rfl).trans ?_
    refine (ss_iconst rfl (v := 1) rfl).trans ?_
    refine (ss_bipush rfl (v := 60) rfl).trans ?_
    refine (ss_callVI (as := [.int 1, .int 60]) rfl t_Tp_holdsNumber (by decide) rfl rfl (by decide) (Or.inr rfl) ⟨Nat.le_of_ble_eq_true rfl, Nat.le_of_ble_eq_true rfl⟩).trans ?_
    refine pv_ite ?_ rfl
    refine congrArg (Option.bind _) (funext fun q3 => ?_)
    refine (ss_if_ne rfl).trans ?_
    refine pv_ite ?_ ?_
    · refine (ss_iload_n rfl rfl).trans ?_
      refine (ss_aload_n rfl rfl).trans ?_
      refine (ss_getI rfl).trans ?_
      refine congrArg (Option.bind _) (funext fun x4 => ?_)
      refine (ss_imul rfl).trans ?_
      refine (ss_istore rfl rfl).trans ?_
      refine (ss_aload_n rfl rfl).trans ?_
      refine (ss_callVN (as := []) rfl t_Tp_advance (by decide) rfl rfl (by decide) rfl ⟨Nat.le_of_ble_eq_true rfl, Nat.le_of_ble_eq_true rfl⟩).trans ?_
      refine pv_ite ?_ rfl
      refine congrArg (Option.bind _) (funext fun h5 => ?_)
      refine (ss_aload_n rfl rfl).trans ?_
      refine (ss_iconst rfl (v := 1) rfl).trans ?_
      refine (ss_iload rfl rfl).trans ?_
      refine (ss_iload rfl rfl).trans ?_
      refine (ss_callVI (as := [.int 1, .int q1.1, .int (v3 * x4)]) rfl t_Da_addLine (by decide) rfl rfl (by decide) (Or.inr rfl) ⟨Nat.le_of_ble_eq_true rfl, Nat.le_of_ble_eq_true rfl⟩).trans ?_
      refine pv_ite ?_ rfl
      refine congrArg (Option.bind _) (funext fun q6 => ?_)
      exact ss_zreturn rfl
    · refine (ss_iconst rfl (v := 0) rfl).trans ?_
      exact (ss_zreturn rfl).trans (if_pos (by decide))
  · refine (ss_iconst rfl (v := 0) rfl).trans ?_
    exact (ss_zreturn rfl).trans (if_pos (by decide))
theorem e_Da_readMove (X : pv_X) (v0 : Nat) (v1 : Nat) (v2 : Nat) (v3 : Int32) (h : pv_H) : pM X m_Da_readMove [.ref v0, .ref v1, .ref v2, .int v3] h = f_Da_readMove_0 X v0 v1 v2 v3 h := rfl
noncomputable def f_Da_addLine_0 (X : pv_X) (v0 : Nat) (v1 : Int32) (v2 : Int32) (v3 : Int32) (h : pv_H) : Option pv_O := pS X 1 (some .boolean) k_Da_addLine 0 [some (.ref v0), some (.int v1), some (.int v2), some (.int v3)] [] h
noncomputable def f_Da_addLine_49 (X : pv_X) (v0 : Nat) (v1 : Int32) (v2 : Int32) (v3 : Int32) (h : pv_H) : Option pv_O := pS X 1 (some .boolean) k_Da_addLine 49 [some (.ref v0), some (.int v1), some (.int v2), some (.int v3)] [] h
set_option maxRecDepth 8000 in
theorem u_Da_addLine_0 (X : pv_X) (v0 : Nat) (v1 : Int32) (v2 : Int32) (v3 : Int32) (h : pv_H) : f_Da_addLine_0 X v0 v1 v2 v3 h =
    (pv_fI h v0 1 3).bind (fun x1 => if 40 ≤ x1 then f_Da_addLine_49 X v0 v1 v2 v3 h else (pv_fR h v0 1 0).bind (fun x2 => (pv_fI h v0 1 3).bind (fun x3 => (pv_sI h x2 x3 v1).bind (fun h4 => (pv_fR h4 v0 1 1).bind (fun x5 => (pv_fI h4 v0 1 3).bind (fun x6 => (pv_sI h4 x5 x6 v2).bind (fun h7 => (pv_fR h7 v0 1 2).bind (fun x8 => (pv_fI h7 v0 1 3).bind (fun x9 => (pv_sI h7 x8 x9 v3).bind (fun h10 => (pv_fI h10 v0 1 3).bind (fun x11 => (pv_fp h10 v0 1 3 (.int (x11 + 1))).bind (fun h12 => f_Da_addLine_49 X v0 v1 v2 v3 h12)))))))))))) := by
  show pS X 1 (some .boolean) k_Da_addLine 0 [some (.ref v0), some (.int v1), some (.int v2), some (.int v3)] [] h = _
  refine (ss_aload_n rfl rfl).trans ?_
  refine (ss_getI rfl).trans ?_
  refine congrArg (Option.bind _) (funext fun x1 => ?_)
  refine (ss_bipush rfl (v := 40) rfl).trans ?_
  refine (ss_icmp_ge rfl).trans ?_
  refine pv_ite ?_ ?_
  · rfl
  · refine (ss_aload_n rfl rfl).trans ?_
    refine (ss_getR rfl).trans ?_
    refine congrArg (Option.bind _) (funext fun x2 => ?_)
    refine (ss_aload_n rfl rfl).trans ?_
    refine (ss_getI rfl).trans ?_
    refine congrArg (Option.bind _) (funext fun x3 => ?_)
    refine (ss_iload_n rfl rfl).trans ?_
    refine (ss_iastore rfl).trans ?_
    refine congrArg (Option.bind _) (funext fun h4 => ?_)
    refine (ss_aload_n rfl rfl).trans ?_
    refine (ss_getR rfl).trans ?_
    refine congrArg (Option.bind _) (funext fun x5 => ?_)
    refine (ss_aload_n rfl rfl).trans ?_
    refine (ss_getI rfl).trans ?_
    refine congrArg (Option.bind _) (funext fun x6 => ?_)
    refine (ss_iload_n rfl rfl).trans ?_
    refine (ss_iastore rfl).trans ?_
    refine congrArg (Option.bind _) (funext fun h7 => ?_)
    refine (ss_aload_n rfl rfl).trans ?_
    refine (ss_getR rfl).trans ?_
    refine congrArg (Option.bind _) (funext fun x8 => ?_)
    refine (ss_aload_n rfl rfl).trans ?_
    refine (ss_getI rfl).trans ?_
    refine congrArg (Option.bind _) (funext fun x9 => ?_)
    refine (ss_iload_n rfl rfl).trans ?_
    refine (ss_iastore rfl).trans ?_
    refine congrArg (Option.bind _) (funext fun h10 => ?_)
    refine (ss_aload_n rfl rfl).trans ?_
    refine (ss_dupR rfl).trans ?_
    refine (ss_getI rfl).trans ?_
    refine congrArg (Option.bind _) (funext fun x11 => ?_)
    refine (ss_iconst rfl (v := 1) rfl).trans ?_
    refine (ss_iadd rfl).trans ?_
    refine (ss_putI rfl).trans ?_
    refine congrArg (Option.bind _) (funext fun h12 => ?_)
    rfl
set_option maxRecDepth 8000 in
theorem u_Da_addLine_49 (X : pv_X) (v0 : Nat) (v1 : Int32) (v2 : Int32) (v3 : Int32) (h : pv_H) : f_Da_addLine_49 X v0 v1 v2 v3 h =
    some (some (.int 1), h) := by
  show pS X 1 (some .boolean) k_Da_addLine 49 [some (.ref v0), some (.int v1), some (.int v2), some (.int v3)] [] h = _
  refine (ss_iconst rfl (v := 1) rfl).trans ?_
  exact (ss_zreturn rfl).trans (if_pos (by decide))
theorem e_Da_addLine (X : pv_X) (v0 : Nat) (v1 : Int32) (v2 : Int32) (v3 : Int32) (h : pv_H) : pM X m_Da_addLine [.ref v0, .int v1, .int v2, .int v3] h = f_Da_addLine_0 X v0 v1 v2 v3 h := rfl
noncomputable def f_Da_doLine_0 (X : pv_X) (v0 : Nat) (v1 : Int32) (v2 : Nat) (v3 : Nat) (h : pv_H) : Option pv_O := pS X 5 (none) k_Da_doLine 0 [some (.ref v0), some (.int v1), some (.ref v2), some (.ref v3)] [] h
noncomputable def f_Da_doLine_12 (X : pv_X) (v0 : Nat) (v1 : Int32) (v2 : Nat) (v3 : Nat) (h : pv_H) : Option pv_O := pS X 5 (none) k_Da_doLine 12 [some (.ref v0), some (.int v1), some (.ref v2), some (.ref v3)] [] h
noncomputable def f_Da_doLine_88 (X : pv_X) (v0 : Nat) (v1 : Int32) (v2 : Nat) (v3 : Nat) (h : pv_H) : Option pv_O := pS X 5 (none) k_Da_doLine 88 [some (.ref v0), some (.int v1), some (.ref v2), some (.ref v3)] [] h
set_option maxRecDepth 8000 in
theorem u_Da_doLine_0 (X : pv_X) (v0 : Nat) (v1 : Int32) (v2 : Nat) (v3 : Nat) (h : pv_H) : f_Da_doLine_0 X v0 v1 v2 v3 h =
    if v1 < 0 then f_Da_doLine_12 X v0 v1 v2 v3 h else (pv_fI h v0 1 3).bind (fun x1 => if v1 < x1 then (pv_fR h v0 1 0).bind (fun x2 => (pv_aX X h x2 v1).bind (fun x3 => if x3 = 0 then (pv_fR h v0 1 1).bind (fun x4 => (pv_aX X h x4 v1).bind (fun x5 => (pv_fR h v0 1 2).bind (fun x6 => (pv_aX X h x6 v1).bind (fun x7 => if pv_rc h v3 7 = true then (pv_tV (pM X m_St_takeTime [.ref v3, .int x5, .int x7] h)).bind (fun h8 => f_Da_doLine_88 X v0 v1 v2 v3 h8) else none)))) else if x3 = 1 then (pv_fR h v0 1 1).bind (fun x10 => (pv_aX X h x10 v1).bind (fun x11 => (pv_fR h v0 1 2).bind (fun x12 => (pv_aX X h x12 v1).bind (fun x13 => if pv_rc h v3 7 = true then (pv_tV (pM X m_St_moveBeats [.ref v3, .int x11, .int x13] h)).bind (fun h14 => f_Da_doLine_88 X v0 v1 v2 v3 h14) else none)))) else if pv_rc h v2 6 = true then (pv_tI (pM X m_Po_passQuarter [.ref v2, .ref v3] h)).bind (fun q16 => f_Da_doLine_88 X v0 v1 v2 v3 q16.2) else none)) else f_Da_doLine_12 X v0 v1 v2 v3 h) := by
  show pS X 5 (none) k_Da_doLine 0 [some (.ref v0), some (.int v1), some (.ref v2), some (.ref v3)] [] h = _
  refine (ss_iload_n rfl rfl).trans ?_
  refine (ss_if_lt rfl).trans ?_
  refine pv_ite ?_ ?_
  · rfl
  · refine (ss_iload_n rfl rfl).trans ?_
    refine (ss_aload_n rfl rfl).trans ?_
    refine (ss_getI rfl).trans ?_
    refine congrArg (Option.bind _) (funext fun x1 => ?_)
    refine (ss_icmp_lt rfl).trans ?_
    refine pv_ite ?_ ?_
    · refine (ss_aload_n rfl rfl).trans ?_
      refine (ss_getR rfl).trans ?_
      refine congrArg (Option.bind _) (funext fun x2 => ?_)
      refine (ss_iload_n rfl rfl).trans ?_
      refine (ss_iaload rfl).trans ?_
      refine congrArg (Option.bind _) (funext fun x3 => ?_)
      refine (ss_lookup rfl).trans ?_
      by_cases c9 : x3 = 0
      · rw [if_pos c9, c9]
        show pS X _ _ _ 44 _ _ _ = _
        refine (ss_aload_n rfl rfl).trans ?_
        refine (ss_aload_n rfl rfl).trans ?_
        refine (ss_getR rfl).trans ?_
        refine congrArg (Option.bind _) (funext fun x4 => ?_)
        refine (ss_iload_n rfl rfl).trans ?_
        refine (ss_iaload rfl).trans ?_
        refine congrArg (Option.bind _) (funext fun x5 => ?_)
        refine (ss_aload_n rfl rfl).trans ?_
        refine (ss_getR rfl).trans ?_
        refine congrArg (Option.bind _) (funext fun x6 => ?_)
        refine (ss_iload_n rfl rfl).trans ?_
        refine (ss_iaload rfl).trans ?_
        refine congrArg (Option.bind _) (funext fun x7 => ?_)
        refine (ss_callVN (as := [.int x5, .int x7]) rfl t_St_takeTime (by decide) rfl rfl (by decide) rfl ⟨Nat.le_of_ble_eq_true rfl, Nat.le_of_ble_eq_true rfl⟩).trans ?_
        refine pv_ite ?_ rfl
        refine congrArg (Option.bind _) (funext fun h8 => ?_)
        refine (ss_goto rfl).trans ?_
        rfl
      rw [if_neg c9]
      by_cases c15 : x3 = 1
      · rw [if_pos c15, c15]
        show pS X _ _ _ 63 _ _ _ = _
        refine (ss_aload_n rfl rfl).trans ?_
        refine (ss_aload_n rfl rfl).trans ?_
        refine (ss_getR rfl).trans ?_
        refine congrArg (Option.bind _) (funext fun x10 => ?_)
        refine (ss_iload_n rfl rfl).trans ?_
        refine (ss_iaload rfl).trans ?_
        refine congrArg (Option.bind _) (funext fun x11 => ?_)
        refine (ss_aload_n rfl rfl).trans ?_
        refine (ss_getR rfl).trans ?_
        refine congrArg (Option.bind _) (funext fun x12 => ?_)
        refine (ss_iload_n rfl rfl).trans ?_
        refine (ss_iaload rfl).trans ?_
        refine congrArg (Option.bind _) (funext fun x13 => ?_)
        refine (ss_callVN (as := [.int x11, .int x13]) rfl t_St_moveBeats (by decide) rfl rfl (by decide) rfl ⟨Nat.le_of_ble_eq_true rfl, Nat.le_of_ble_eq_true rfl⟩).trans ?_
        refine pv_ite ?_ rfl
        refine congrArg (Option.bind _) (funext fun h14 => ?_)
        refine (ss_goto rfl).trans ?_
        rfl
      rw [if_neg c15]
      rw [show pv_lw 19 63 #[(0, 25), (1, 44)] (x3) = some 82 by simp [pv_lw, Op.lookupswitch.offset_cons, Op.lookupswitch.offset, show ¬ (0 : Int) = (x3).toInt from fun z => pv_ne c9 (k := 0) (z := 0) (by decide) z.symm, show ¬ (1 : Int) = (x3).toInt from fun z => pv_ne c15 (k := 1) (z := 1) (by decide) z.symm]]
      show pS X _ _ _ 82 _ _ _ = _
      refine (ss_aload_n rfl rfl).trans ?_
      refine (ss_aload_n rfl rfl).trans ?_
      refine (ss_callVI (as := [.ref v3]) rfl t_Po_passQuarter (by decide) rfl rfl (by decide) (Or.inl rfl) ⟨Nat.le_of_ble_eq_true rfl, Nat.le_of_ble_eq_true rfl⟩).trans ?_
      refine pv_ite ?_ rfl
      refine congrArg (Option.bind _) (funext fun q16 => ?_)
      refine (ss_popI rfl).trans ?_
      rfl
    · rfl
set_option maxRecDepth 8000 in
theorem u_Da_doLine_12 (X : pv_X) (v0 : Nat) (v1 : Int32) (v2 : Nat) (v3 : Nat) (h : pv_H) : f_Da_doLine_12 X v0 v1 v2 v3 h =
    some (none, h) := by
  show pS X 5 (none) k_Da_doLine 12 [some (.ref v0), some (.int v1), some (.ref v2), some (.ref v3)] [] h = _
  exact ss_return rfl
set_option maxRecDepth 8000 in
theorem u_Da_doLine_88 (X : pv_X) (v0 : Nat) (v1 : Int32) (v2 : Nat) (v3 : Nat) (h : pv_H) : f_Da_doLine_88 X v0 v1 v2 v3 h =
    some (none, h) := by
  show pS X 5 (none) k_Da_doLine 88 [some (.ref v0), some (.int v1), some (.ref v2), some (.ref v3)] [] h = _
  exact ss_return rfl
theorem e_Da_doLine (X : pv_X) (v0 : Nat) (v1 : Int32) (v2 : Nat) (v3 : Nat) (h : pv_H) : pM X m_Da_doLine [.ref v0, .int v1, .ref v2, .ref v3] h = f_Da_doLine_0 X v0 v1 v2 v3 h := rfl
noncomputable def f_Dr_init_0 (X : pv_X) (v0 : Nat) (h : pv_H) : Option pv_O := pS X 1 (none) k_Dr_init 0 [some (.ref v0)] [] h
set_option maxRecDepth 8000 in
theorem u_Dr_init_0 (X : pv_X) (v0 : Nat) (h : pv_H) : f_Dr_init_0 X v0 h =
    some (none, h) := by
  show pS X 1 (none) k_Dr_init 0 [some (.ref v0)] [] h = _
  refine (ss_aload_n rfl rfl).trans ?_
  refine (ss_oinit rfl (by decide)).trans ?_
  exact ss_return rfl
theorem e_Dr_init (X : pv_X) (v0 : Nat) (h : pv_H) : pM X m_Dr_init [.ref v0] h = f_Dr_init_0 X v0 h := rfl
noncomputable def f_Dr_below_0 (X : pv_X) (v0 : Nat) (v1 : Int32) (h : pv_H) : Option pv_O := pS X 1 (some .int) k_Dr_below 0 [some (.ref v0), some (.int v1)] [] h
noncomputable def f_Dr_below_40 (X : pv_X) (v0 : Nat) (v1 : Int32) (s0 : Int32) (h : pv_H) : Option pv_O := pS X 1 (some .int) k_Dr_below 40 [some (.ref v0), some (.int v1)] [.int s0] h
set_option maxRecDepth 8000 in
theorem u_Dr_below_0 (X : pv_X) (v0 : Nat) (v1 : Int32) (h : pv_H) : f_Dr_below_0 X v0 v1 h =
    (pv_fJ h v0 2 0).bind (fun x1 => (pv_fp h v0 2 0 (.long (((x1 * 1103515245) + 12345) - ((x1 * 1103515245) + 12345) / 2147483648 * 2147483648))).bind (fun h2 => if v1 ≤ 0 then f_Dr_below_40 X v0 v1 0 h2 else (pv_fJ h2 v0 2 0).bind (fun x3 => if (v1 : Int32).toInt64 = 0 then none else f_Dr_below_40 X v0 v1 (((x3 / 65536) - (x3 / 65536) / (v1 : Int32).toInt64 * (v1 : Int32).toInt64) : Int64).toInt32 h2))) := by
  show pS X 1 (some .int) k_Dr_below 0 [some (.ref v0), some (.int v1)] [] h = _
  refine (ss_aload_n rfl rfl).trans ?_
  refine (ss_aload_n rfl rfl).trans ?_
  refine (ss_getJ rfl).trans ?_
  refine congrArg (Option.bind _) (funext fun x1 => ?_)
  refine (ss_ldc2_w rfl (v := 1103515245) rfl).trans ?_
  refine (ss_lmul rfl).trans ?_
  refine (ss_ldc2_w rfl (v := 12345) rfl).trans ?_
  refine (ss_ladd rfl).trans ?_
  refine (ss_ldc2_w rfl (v := 2147483648) rfl).trans ?_
  refine (ss_lrem rfl (by decide)).trans ?_
  refine (ss_putJ rfl).trans ?_
  refine congrArg (Option.bind _) (funext fun h2 => ?_)
  refine (ss_iload_n rfl rfl).trans ?_
  refine (ss_if_le rfl).trans ?_
  refine pv_ite ?_ ?_
  · refine (ss_iconst rfl (v := 0) rfl).trans ?_
    rfl
  · refine (ss_aload_n rfl rfl).trans ?_
    refine (ss_getJ rfl).trans ?_
    refine congrArg (Option.bind _) (funext fun x3 => ?_)
    refine (ss_ldc2_w rfl (v := 65536) rfl).trans ?_
    refine (ss_ldiv rfl (by decide)).trans ?_
    refine (ss_iload_n rfl rfl).trans ?_
    refine (ss_i2l rfl).trans ?_
    refine (ss_lremg rfl).trans ?_
    refine pv_ite rfl ?_
    refine (ss_l2i rfl).trans ?_
    refine (ss_goto rfl).trans ?_
    rfl
set_option maxRecDepth 8000 in
theorem u_Dr_below_40 (X : pv_X) (v0 : Nat) (v1 : Int32) (s0 : Int32) (h : pv_H) : f_Dr_below_40 X v0 v1 s0 h =
    some (some (.int s0), h) := by
  show pS X 1 (some .int) k_Dr_below 40 [some (.ref v0), some (.int v1)] [.int s0] h = _
  exact ss_ireturn rfl
theorem e_Dr_below (X : pv_X) (v0 : Nat) (v1 : Int32) (h : pv_H) : pM X m_Dr_below [.ref v0, .int v1] h = f_Dr_below_0 X v0 v1 h := rfl
noncomputable def f_Hi_init_0 (X : pv_X) (v0 : Nat) (h : pv_H) : Option pv_O := pS X 2 (none) k_Hi_init 0 [some (.ref v0), none] [] h
noncomputable def f_Hi_init_15 (X : pv_X) (v0 : Nat) (v1 : Int32) (h : pv_H) : Option pv_O := pS X 2 (none) k_Hi_init 15 [some (.ref v0), some (.int v1)] [] h
set_option maxRecDepth 8000 in
theorem u_Hi_init_0 (X : pv_X) (v0 : Nat) (h : pv_H) : f_Hi_init_0 X v0 h =
    (pv_na h 5 16).bind (fun h1 => (pv_fp h1 v0 3 0 (.ref h.length)).bind (fun h2 => f_Hi_init_15 X v0 0 h2)) := by
  show pS X 2 (none) k_Hi_init 0 [some (.ref v0), none] [] h = _
  refine (ss_aload_n rfl rfl).trans ?_
  refine (ss_oinit rfl (by decide)).trans ?_
  refine (ss_aload_n rfl rfl).trans ?_
  refine (ss_bipush rfl (v := 16) rfl).trans ?_
  refine (ss_anewarray (by decide) rfl).trans ?_
  refine congrArg (Option.bind _) (funext fun h1 => ?_)
  refine (ss_putR rfl).trans ?_
  refine congrArg (Option.bind _) (funext fun h2 => ?_)
  refine (ss_iconst rfl (v := 0) rfl).trans ?_
  refine (ss_istore_n rfl rfl).trans ?_
  rfl
set_option maxRecDepth 8000 in
theorem u_Hi_init_15 (X : pv_X) (v0 : Nat) (v1 : Int32) (h : pv_H) : f_Hi_init_15 X v0 v1 h =
    if 16 ≤ v1 then some (none, h) else (pv_fR h v0 3 0).bind (fun x1 => (pv_no h 7 (pv_dft 7)).bind (fun h2 => if pv_rc h2 h.length 7 = true then (pv_tV (pM X m_St_init [.ref h.length] h2)).bind (fun h3 => (pv_sR h3 x1 v1 h.length).bind (fun h4 => f_Hi_init_15 X v0 (v1 + 1) h4)) else none)) := by
  show pS X 2 (none) k_Hi_init 15 [some (.ref v0), some (.int v1)] [] h = _
  refine (ss_iload_n rfl rfl).trans ?_
  refine (ss_bipush rfl (v := 16) rfl).trans ?_
  refine (ss_icmp_ge rfl).trans ?_
  refine pv_ite ?_ ?_
  · exact ss_return rfl
  · refine (ss_aload_n rfl rfl).trans ?_
    refine (ss_getR rfl).trans ?_
    refine congrArg (Option.bind _) (funext fun x1 => ?_)
    refine (ss_iload_n rfl rfl).trans ?_
    refine (ss_new rfl).trans ?_
    refine congrArg (Option.bind _) (funext fun h2 => ?_)
    refine (ss_dupR rfl).trans ?_
    refine (ss_callIN (as := []) rfl t_St_init (by decide) (by decide) rfl rfl (by simp [Value.category]) rfl ⟨Nat.le_of_ble_eq_true rfl, Nat.le_of_ble_eq_true rfl⟩).trans ?_
    refine pv_ite ?_ rfl
    refine congrArg (Option.bind _) (funext fun h3 => ?_)
    refine (ss_aastore rfl).trans ?_
    refine congrArg (Option.bind _) (funext fun h4 => ?_)
    refine (ss_iinc3 rfl rfl (v := v1 + 1) (congrArg (HAdd.hAdd _) (show Int32.ofInt (1) = 1 by decide)) rfl).trans ?_
    refine (ss_goto rfl).trans ?_
    rfl
theorem e_Hi_init (X : pv_X) (v0 : Nat) (h : pv_H) : pM X m_Hi_init [.ref v0] h = f_Hi_init_0 X v0 h := rfl
noncomputable def f_Hi_keep_0 (X : pv_X) (v0 : Nat) (v1 : Nat) (h : pv_H) : Option pv_O := pS X 2 (none) k_Hi_keep 0 [some (.ref v0), some (.ref v1)] [] h
set_option maxRecDepth 8000 in
theorem u_Hi_keep_0 (X : pv_X) (v0 : Nat) (v1 : Nat) (h : pv_H) : f_Hi_keep_0 X v0 v1 h =
    (pv_fR h v0 3 0).bind (fun x1 => (pv_fI h v0 3 1).bind (fun x2 => (pv_aR h x1 x2).bind (fun x3 => if pv_rc h x3 7 = true then (pv_tV (pM X m_St_copy [.ref x3, .ref v1] h)).bind (fun h4 => (pv_fI h4 v0 3 1).bind (fun x5 => (pv_fp h4 v0 3 1 (.int ((x5 + 1) - (x5 + 1) / 16 * 16))).bind (fun h6 => (pv_fI h6 v0 3 2).bind (fun x7 => (pv_tI (pM X m_Ma_min [.int 16, .int (x7 + 1)] h6)).bind (fun q8 => (pv_fp q8.2 v0 3 2 (.int q8.1)).bind (fun h9 => some (none, h9))))))) else none))) := by
  show pS X 2 (none) k_Hi_keep 0 [some (.ref v0), some (.ref v1)] [] h = _
  refine (ss_aload_n rfl rfl).trans ?_
  refine (ss_getR rfl).trans ?_
  refine congrArg (Option.bind _) (funext fun x1 => ?_)
  refine (ss_aload_n rfl rfl).trans ?_
  refine (ss_getI rfl).trans ?_
  refine congrArg (Option.bind _) (funext fun x2 => ?_)
  refine (ss_aaload rfl).trans ?_
  refine congrArg (Option.bind _) (funext fun x3 => ?_)
  refine (ss_aload_n rfl rfl).trans ?_
  refine (ss_callVN (as := [.ref v1]) rfl t_St_copy (by decide) rfl rfl (by decide) rfl ⟨Nat.le_of_ble_eq_true rfl, Nat.le_of_ble_eq_true rfl⟩).trans ?_
  refine pv_ite ?_ rfl
  refine congrArg (Option.bind _) (funext fun h4 => ?_)
  refine (ss_aload_n rfl rfl).trans ?_
  refine (ss_aload_n rfl rfl).trans ?_
  refine (ss_getI rfl).trans ?_
  refine congrArg (Option.bind _) (funext fun x5 => ?_)
  refine (ss_iconst rfl (v := 1) rfl).trans ?_
  refine (ss_iadd rfl).trans ?_
  refine (ss_bipush rfl (v := 16) rfl).trans ?_
  refine (ss_irem rfl (by decide)).trans ?_
  refine (ss_putI rfl).trans ?_
  refine congrArg (Option.bind _) (funext fun h6 => ?_)
  refine (ss_aload_n rfl rfl).trans ?_
  refine (ss_bipush rfl (v := 16) rfl).trans ?_
  refine (ss_aload_n rfl rfl).trans ?_
  refine (ss_getI rfl).trans ?_
  refine congrArg (Option.bind _) (funext fun x7 => ?_)
  refine (ss_iconst rfl (v := 1) rfl).trans ?_
  refine (ss_iadd rfl).trans ?_
  refine (ss_callSI (as := [.int 16, .int (x7 + 1)]) rfl t_Ma_min (by decide) rfl rfl (by simp [Value.category]) (Or.inl rfl) ⟨Nat.le_of_ble_eq_true rfl, Nat.le_of_ble_eq_true rfl⟩).trans ?_
  refine congrArg (Option.bind _) (funext fun q8 => ?_)
  refine (ss_putI rfl).trans ?_
  refine congrArg (Option.bind _) (funext fun h9 => ?_)
  exact ss_return rfl
theorem e_Hi_keep (X : pv_X) (v0 : Nat) (v1 : Nat) (h : pv_H) : pM X m_Hi_keep [.ref v0, .ref v1] h = f_Hi_keep_0 X v0 v1 h := rfl
noncomputable def f_Hi_bringBack_0 (X : pv_X) (v0 : Nat) (v1 : Nat) (h : pv_H) : Option pv_O := pS X 2 (some .boolean) k_Hi_bringBack 0 [some (.ref v0), some (.ref v1)] [] h
set_option maxRecDepth 8000 in
theorem u_Hi_bringBack_0 (X : pv_X) (v0 : Nat) (v1 : Nat) (h : pv_H) : f_Hi_bringBack_0 X v0 v1 h =
    (pv_fI h v0 3 2).bind (fun x1 => if ¬ x1 = 0 then (pv_fI h v0 3 1).bind (fun x2 => (pv_fp h v0 3 1 (.int (((x2 + 16) - 1) - ((x2 + 16) - 1) / 16 * 16))).bind (fun h3 => (pv_fI h3 v0 3 2).bind (fun x4 => (pv_fp h3 v0 3 2 (.int (x4 - 1))).bind (fun h5 => (pv_fR h5 v0 3 0).bind (fun x6 => (pv_fI h5 v0 3 1).bind (fun x7 => (pv_aR h5 x6 x7).bind (fun x8 => if pv_rc h5 v1 7 = true then (pv_tV (pM X m_St_copy [.ref v1, .ref x8] h5)).bind (fun h9 => some (some (.int 1), h9)) else none))))))) else some (some (.int 0), h)) := by
  show pS X 2 (some .boolean) k_Hi_bringBack 0 [some (.ref v0), some (.ref v1)] [] h = _
  refine (ss_aload_n rfl rfl).trans ?_
  refine (ss_getI rfl).trans ?_
  refine congrArg (Option.bind _) (funext fun x1 => ?_)
  refine (ss_if_ne rfl).trans ?_
  refine pv_ite ?_ ?_
  · refine (ss_aload_n rfl rfl).trans ?_
    refine (ss_aload_n rfl rfl).trans ?_
    refine (ss_getI rfl).trans ?_
    refine congrArg (Option.bind _) (funext fun x2 => ?_)
    refine (ss_bipush rfl (v := 16) rfl).trans ?_
    refine (ss_iadd rfl).trans ?_
    refine (ss_iconst rfl (v := 1) rfl).trans ?_
    refine (ss_isub rfl).trans ?_
    refine (ss_bipush rfl (v := 16) rfl).trans ?_
    refine (ss_irem rfl (by decide)).trans ?_
    refine (ss_putI rfl).trans ?_
    refine congrArg (Option.bind _) (funext fun h3 => ?_)
    refine (ss_aload_n rfl rfl).trans ?_
    refine (ss_dupR rfl).trans ?_
    refine (ss_getI rfl).trans ?_
    refine congrArg (Option.bind _) (funext fun x4 => ?_)
    refine (ss_iconst rfl (v := 1) rfl).trans ?_
    refine (ss_isub rfl).trans ?_
    refine (ss_putI rfl).trans ?_
    refine congrArg (Option.bind _) (funext fun h5 => ?_)
    refine (ss_aload_n rfl rfl).trans ?_
    refine (ss_aload_n rfl rfl).trans ?_
    refine (ss_getR rfl).trans ?_
    refine congrArg (Option.bind _) (funext fun x6 => ?_)
    refine (ss_aload_n rfl rfl).trans ?_
    refine (ss_getI rfl).trans ?_
    refine congrArg (Option.bind _) (funext fun x7 => ?_)
    refine (ss_aaload rfl).trans ?_
    refine congrArg (Option.bind _) (funext fun x8 => ?_)
    refine (ss_callVN (as := [.ref x8]) rfl t_St_copy (by decide) rfl rfl (by decide) rfl ⟨Nat.le_of_ble_eq_true rfl, Nat.le_of_ble_eq_true rfl⟩).trans ?_
    refine pv_ite ?_ rfl
    refine congrArg (Option.bind _) (funext fun h9 => ?_)
    refine (ss_iconst rfl (v := 1) rfl).trans ?_
    exact (ss_zreturn rfl).trans (if_pos (by decide))
  · refine (ss_iconst rfl (v := 0) rfl).trans ?_
    exact (ss_zreturn rfl).trans (if_pos (by decide))
theorem e_Hi_bringBack (X : pv_X) (v0 : Nat) (v1 : Nat) (h : pv_H) : pM X m_Hi_bringBack [.ref v0, .ref v1] h = f_Hi_bringBack_0 X v0 v1 h := rfl
noncomputable def f_Mk_init_0 (X : pv_X) (v0 : Nat) (h : pv_H) : Option pv_O := pS X 2 (none) k_Mk_init 0 [some (.ref v0)] [] h
set_option maxRecDepth 8000 in
theorem u_Mk_init_0 (X : pv_X) (v0 : Nat) (h : pv_H) : f_Mk_init_0 X v0 h =
    (pv_no h 7 (pv_dft 7)).bind (fun h1 => if pv_rc h1 h.length 7 = true then (pv_tV (pM X m_St_init [.ref h.length] h1)).bind (fun h2 => (pv_fp h2 v0 4 0 (.ref h.length)).bind (fun h3 => (pv_no h3 0 (pv_dft 0)).bind (fun h4 => if pv_rc h4 h3.length 0 = true then (pv_tV (pM X m_Cl_init [.ref h3.length] h4)).bind (fun h5 => (pv_fp h5 v0 4 1 (.ref h3.length)).bind (fun h6 => (pv_no h6 0 (pv_dft 0)).bind (fun h7 => if pv_rc h7 h6.length 0 = true then (pv_tV (pM X m_Cl_init [.ref h6.length] h7)).bind (fun h8 => (pv_fp h8 v0 4 2 (.ref h6.length)).bind (fun h9 => some (none, h9))) else none))) else none))) else none) := by
  show pS X 2 (none) k_Mk_init 0 [some (.ref v0)] [] h = _
  refine (ss_aload_n rfl rfl).trans ?_
  refine (ss_oinit rfl (by decide)).trans ?_
  refine (ss_aload_n rfl rfl).trans ?_
  refine (ss_new rfl).trans ?_
  refine congrArg (Option.bind _) (funext fun h1 => ?_)
  refine (ss_dupR rfl).trans ?_
  refine (ss_callIN (as := []) rfl t_St_init (by decide) (by decide) rfl rfl (by simp [Value.category]) rfl ⟨Nat.le_of_ble_eq_true rfl, Nat.le_of_ble_eq_true rfl⟩).trans ?_
  refine pv_ite ?_ rfl
  refine congrArg (Option.bind _) (funext fun h2 => ?_)
  refine (ss_putR rfl).trans ?_
  refine congrArg (Option.bind _) (funext fun h3 => ?_)
  refine (ss_aload_n rfl rfl).trans ?_
  refine (ss_new rfl).trans ?_
  refine congrArg (Option.bind _) (funext fun h4 => ?_)
  refine (ss_dupR rfl).trans ?_
  refine (ss_callIN (as := []) rfl t_Cl_init (by decide) (by decide) rfl rfl (by simp [Value.category]) rfl ⟨Nat.le_of_ble_eq_true rfl, Nat.le_of_ble_eq_true rfl⟩).trans ?_
  refine pv_ite ?_ rfl
  refine congrArg (Option.bind _) (funext fun h5 => ?_)
  refine (ss_putR rfl).trans ?_
  refine congrArg (Option.bind _) (funext fun h6 => ?_)
  refine (ss_aload_n rfl rfl).trans ?_
  refine (ss_new rfl).trans ?_
  refine congrArg (Option.bind _) (funext fun h7 => ?_)
  refine (ss_dupR rfl).trans ?_
  refine (ss_callIN (as := []) rfl t_Cl_init (by decide) (by decide) rfl rfl (by simp [Value.category]) rfl ⟨Nat.le_of_ble_eq_true rfl, Nat.le_of_ble_eq_true rfl⟩).trans ?_
  refine pv_ite ?_ rfl
  refine congrArg (Option.bind _) (funext fun h8 => ?_)
  refine (ss_putR rfl).trans ?_
  refine congrArg (Option.bind _) (funext fun h9 => ?_)
  exact ss_return rfl
theorem e_Mk_init (X : pv_X) (v0 : Nat) (h : pv_H) : pM X m_Mk_init [.ref v0] h = f_Mk_init_0 X v0 h := rfl
noncomputable def f_Mk_lay_0 (X : pv_X) (v0 : Nat) (v1 : Nat) (v2 : Nat) (v3 : Nat) (h : pv_H) : Option pv_O := pS X 2 (none) k_Mk_lay 0 [some (.ref v0), some (.ref v1), some (.ref v2), some (.ref v3)] [] h
set_option maxRecDepth 8000 in
theorem u_Mk_lay_0 (X : pv_X) (v0 : Nat) (v1 : Nat) (v2 : Nat) (v3 : Nat) (h : pv_H) : f_Mk_lay_0 X v0 v1 v2 v3 h =
    (pv_fR h v0 4 0).bind (fun x1 => if pv_rc h x1 7 = true then (pv_tV (pM X m_St_copy [.ref x1, .ref v1] h)).bind (fun h2 => (pv_fR h2 v0 4 1).bind (fun x3 => if pv_rc h2 x3 0 = true then (pv_tV (pM X m_Cl_copy [.ref x3, .ref v2] h2)).bind (fun h4 => (pv_fR h4 v0 4 2).bind (fun x5 => if pv_rc h4 x5 0 = true then (pv_tV (pM X m_Cl_copy [.ref x5, .ref v3] h4)).bind (fun h6 => (pv_fp h6 v0 4 3 (.int 1)).bind (fun h7 => some (none, h7))) else none)) else none)) else none) := by
  show pS X 2 (none) k_Mk_lay 0 [some (.ref v0), some (.ref v1), some (.ref v2), some (.ref v3)] [] h = _
  refine (ss_aload_n rfl rfl).trans ?_
  refine (ss_getR rfl).trans ?_
  refine congrArg (Option.bind _) (funext fun x1 => ?_)
  refine (ss_aload_n rfl rfl).trans ?_
  refine (ss_callVN (as := [.ref v1]) rfl t_St_copy (by decide) rfl rfl (by decide) rfl ⟨Nat.le_of_ble_eq_true rfl, Nat.le_of_ble_eq_true rfl⟩).trans ?_
  refine pv_ite ?_ rfl
  refine congrArg (Option.bind _) (funext fun h2 => ?_)
  refine (ss_aload_n rfl rfl).trans ?_
  refine (ss_getR rfl).trans ?_
  refine congrArg (Option.bind _) (funext fun x3 => ?_)
  refine (ss_aload_n rfl rfl).trans ?_
  refine (ss_callVN (as := [.ref v2]) rfl t_Cl_copy (by decide) rfl rfl (by decide) rfl ⟨Nat.le_of_ble_eq_true rfl, Nat.le_of_ble_eq_true rfl⟩).trans ?_
  refine pv_ite ?_ rfl
  refine congrArg (Option.bind _) (funext fun h4 => ?_)
  refine (ss_aload_n rfl rfl).trans ?_
  refine (ss_getR rfl).trans ?_
  refine congrArg (Option.bind _) (funext fun x5 => ?_)
  refine (ss_aload_n rfl rfl).trans ?_
  refine (ss_callVN (as := [.ref v3]) rfl t_Cl_copy (by decide) rfl rfl (by decide) rfl ⟨Nat.le_of_ble_eq_true rfl, Nat.le_of_ble_eq_true rfl⟩).trans ?_
  refine pv_ite ?_ rfl
  refine congrArg (Option.bind _) (funext fun h6 => ?_)
  refine (ss_aload_n rfl rfl).trans ?_
  refine (ss_iconst rfl (v := 1) rfl).trans ?_
  refine ((ss_putZ rfl).trans (if_pos (by decide))).trans ?_
  refine congrArg (Option.bind _) (funext fun h7 => ?_)
  exact ss_return rfl
theorem e_Mk_lay (X : pv_X) (v0 : Nat) (v1 : Nat) (v2 : Nat) (v3 : Nat) (h : pv_H) : pM X m_Mk_lay [.ref v0, .ref v1, .ref v2, .ref v3] h = f_Mk_lay_0 X v0 v1 v2 v3 h := rfl
noncomputable def f_Po_init_0 (X : pv_X) (v0 : Nat) (h : pv_H) : Option pv_O := pS X 2 (none) k_Po_init 0 [some (.ref v0)] [] h
set_option maxRecDepth 8000 in
theorem u_Po_init_0 (X : pv_X) (v0 : Nat) (h : pv_H) : f_Po_init_0 X v0 h =
    (pv_na h 2 6).bind (fun h1 => (pv_fp h1 v0 6 0 (.ref h.length)).bind (fun h2 => (pv_na h2 3 6).bind (fun h3 => (pv_fp h3 v0 6 1 (.ref h2.length)).bind (fun h4 => (pv_no h4 5 (pv_dft 5)).bind (fun h5 => if pv_rc h5 h4.length 5 = true then (pv_tV (pM X m_Mo_init [.ref h4.length] h5)).bind (fun h6 => (pv_fp h6 v0 6 2 (.ref h4.length)).bind (fun h7 => (pv_na h7 1 6).bind (fun h8 => (pv_fp h8 v0 6 3 (.ref h7.length)).bind (fun h9 => (pv_na h9 1 6).bind (fun h10 => (pv_fp h10 v0 6 4 (.ref h9.length)).bind (fun h11 => (pv_no h11 7 (pv_dft 7)).bind (fun h12 => if pv_rc h12 h11.length 7 = true then (pv_tV (pM X m_St_init [.ref h11.length] h12)).bind (fun h13 => (pv_fp h13 v0 6 5 (.ref h11.length)).bind (fun h14 => some (none, h14))) else none))))))) else none))))) := by
  show pS X 2 (none) k_Po_init 0 [some (.ref v0)] [] h = _
  refine (ss_aload_n rfl rfl).trans ?_
  refine (ss_oinit rfl (by decide)).trans ?_
  refine (ss_aload_n rfl rfl).trans ?_
  refine (ss_bipush rfl (v := 6) rfl).trans ?_
  refine (ss_newarray (by decide) rfl).trans ?_
  refine congrArg (Option.bind _) (funext fun h1 => ?_)
  refine (ss_putR rfl).trans ?_
  refine congrArg (Option.bind _) (funext fun h2 => ?_)
  refine (ss_aload_n rfl rfl).trans ?_
  refine (ss_bipush rfl (v := 6) rfl).trans ?_
  refine (ss_newarray (by decide) rfl).trans ?_
  refine congrArg (Option.bind _) (funext fun h3 => ?_)
  refine (ss_putR rfl).trans ?_
  refine congrArg (Option.bind _) (funext fun h4 => ?_)
  refine (ss_aload_n rfl rfl).trans ?_
  refine (ss_new rfl).trans ?_
  refine congrArg (Option.bind _) (funext fun h5 => ?_)
  refine (ss_dupR rfl).trans ?_
  refine (ss_callIN (as := []) rfl t_Mo_init (by decide) (by decide) rfl rfl (by simp [Value.category]) rfl ⟨Nat.le_of_ble_eq_true rfl, Nat.le_of_ble_eq_true rfl⟩).trans ?_
  refine pv_ite ?_ rfl
  refine congrArg (Option.bind _) (funext fun h6 => ?_)
  refine (ss_putR rfl).trans ?_
  refine congrArg (Option.bind _) (funext fun h7 => ?_)
  refine (ss_aload_n rfl rfl).trans ?_
  refine (ss_bipush rfl (v := 6) rfl).trans ?_
  refine (ss_newarray (by decide) rfl).trans ?_
  refine congrArg (Option.bind _) (funext fun h8 => ?_)
  refine (ss_putR rfl).trans ?_
  refine congrArg (Option.bind _) (funext fun h9 => ?_)
  refine (ss_aload_n rfl rfl).trans ?_
  refine (ss_bipush rfl (v := 6) rfl).trans ?_
  refine (ss_newarray (by decide) rfl).trans ?_
  refine congrArg (Option.bind _) (funext fun h10 => ?_)
  refine (ss_putR rfl).trans ?_
  refine congrArg (Option.bind _) (funext fun h11 => ?_)
  refine (ss_aload_n rfl rfl).trans ?_
  refine (ss_new rfl).trans ?_
  refine congrArg (Option.bind _) (funext fun h12 => ?_)
  refine (ss_dupR rfl).trans ?_
  refine (ss_callIN (as := []) rfl t_St_init (by decide) (by decide) rfl rfl (by simp [Value.category]) rfl ⟨Nat.le_of_ble_eq_true rfl, Nat.le_of_ble_eq_true rfl⟩).trans ?_
  refine pv_ite ?_ rfl
  refine congrArg (Option.bind _) (funext fun h13 => ?_)
  refine (ss_putR rfl).trans ?_
  refine congrArg (Option.bind _) (funext fun h14 => ?_)
  exact ss_return rfl
theorem e_Po_init (X : pv_X) (v0 : Nat) (h : pv_H) : pM X m_Po_init [.ref v0] h = f_Po_init_0 X v0 h := rfl
noncomputable def f_Po_clear_0 (X : pv_X) (v0 : Nat) (h : pv_H) : Option pv_O := pS X 3 (none) k_Po_clear 0 [some (.ref v0), none] [] h
noncomputable def f_Po_clear_29 (X : pv_X) (v0 : Nat) (v1 : Int32) (h : pv_H) : Option pv_O := pS X 3 (none) k_Po_clear 29 [some (.ref v0), some (.int v1)] [] h
set_option maxRecDepth 8000 in
theorem u_Po_clear_0 (X : pv_X) (v0 : Nat) (h : pv_H) : f_Po_clear_0 X v0 h =
    (pv_fp h v0 6 6 (.int 0)).bind (fun h1 => (pv_fR h1 v0 6 5).bind (fun x2 => if pv_rc h1 x2 7 = true then (pv_tV (pM X m_St_clear [.ref x2] h1)).bind (fun h3 => (pv_fR h3 v0 6 2).bind (fun x4 => if pv_rc h3 x4 5 = true then (pv_tV (pM X m_Mo_clear [.ref x4] h3)).bind (fun h5 => (pv_fR h5 v0 6 4).bind (fun x6 => (pv_tV (pM X m_Ar_fill [.ref x6, .int (-1)] h5)).bind (fun h7 => f_Po_clear_29 X v0 0 h7))) else none)) else none)) := by
  show pS X 3 (none) k_Po_clear 0 [some (.ref v0), none] [] h = _
  refine (ss_aload_n rfl rfl).trans ?_
  refine (ss_iconst rfl (v := 0) rfl).trans ?_
  refine (ss_putI rfl).trans ?_
  refine congrArg (Option.bind _) (funext fun h1 => ?_)
  refine (ss_aload_n rfl rfl).trans ?_
  refine (ss_getR rfl).trans ?_
  refine congrArg (Option.bind _) (funext fun x2 => ?_)
  refine (ss_callVN (as := []) rfl t_St_clear (by decide) rfl rfl (by decide) rfl ⟨Nat.le_of_ble_eq_true rfl, Nat.le_of_ble_eq_true rfl⟩).trans ?_
  refine pv_ite ?_ rfl
  refine congrArg (Option.bind _) (funext fun h3 => ?_)
  refine (ss_aload_n rfl rfl).trans ?_
  refine (ss_getR rfl).trans ?_
  refine congrArg (Option.bind _) (funext fun x4 => ?_)
  refine (ss_callVN (as := []) rfl t_Mo_clear (by decide) rfl rfl (by decide) rfl ⟨Nat.le_of_ble_eq_true rfl, Nat.le_of_ble_eq_true rfl⟩).trans ?_
  refine pv_ite ?_ rfl
  refine congrArg (Option.bind _) (funext fun h5 => ?_)
  refine (ss_aload_n rfl rfl).trans ?_
  refine (ss_getR rfl).trans ?_
  refine congrArg (Option.bind _) (funext fun x6 => ?_)
  refine (ss_iconst rfl (v := (-1)) rfl).trans ?_
  refine (ss_callSN (as := [.ref x6, .int (-1)]) rfl t_Ar_fill (by decide) rfl rfl (by decide) rfl ⟨Nat.le_of_ble_eq_true rfl, Nat.le_of_ble_eq_true rfl⟩).trans ?_
  refine congrArg (Option.bind _) (funext fun h7 => ?_)
  refine (ss_iconst rfl (v := 0) rfl).trans ?_
  refine (ss_istore_n rfl rfl).trans ?_
  rfl
set_option maxRecDepth 8000 in
theorem u_Po_clear_29 (X : pv_X) (v0 : Nat) (v1 : Int32) (h : pv_H) : f_Po_clear_29 X v0 v1 h =
    if 6 ≤ v1 then some (none, h) else (pv_fR h v0 6 1).bind (fun x1 => (pv_sZ h x1 v1 0).bind (fun h2 => f_Po_clear_29 X v0 (v1 + 1) h2)) := by
  show pS X 3 (none) k_Po_clear 29 [some (.ref v0), some (.int v1)] [] h = _
  refine (ss_iload_n rfl rfl).trans ?_
  refine (ss_bipush rfl (v := 6) rfl).trans ?_
  refine (ss_icmp_ge rfl).trans ?_
  refine pv_ite ?_ ?_
  · exact ss_return rfl
  · refine (ss_aload_n rfl rfl).trans ?_
    refine (ss_getR rfl).trans ?_
    refine congrArg (Option.bind _) (funext fun x1 => ?_)
    refine (ss_iload_n rfl rfl).trans ?_
    refine (ss_iconst rfl (v := 0) rfl).trans ?_
    refine (ss_bastore rfl).trans ?_
    refine congrArg (Option.bind _) (funext fun h2 => ?_)
    refine (ss_iinc3 rfl rfl (v := v1 + 1) (congrArg (HAdd.hAdd _) (show Int32.ofInt (1) = 1 by decide)) rfl).trans ?_
    refine (ss_goto rfl).trans ?_
    rfl
theorem e_Po_clear (X : pv_X) (v0 : Nat) (h : pv_H) : pM X m_Po_clear [.ref v0] h = f_Po_clear_0 X v0 h := rfl
noncomputable def f_Po_readFrom_0 (X : pv_X) (v0 : Nat) (v1 : Nat) (h : pv_H) : Option pv_O := pS X 57 (some .int) k_Po_readFrom 0 [some (.ref v0), some (.ref v1), none, none] [] h
noncomputable def f_Po_readFrom_12 (X : pv_X) (v0 : Nat) (v1 : Nat) (v2 : Int32) (v3 : Int32) (h : pv_H) : Option pv_O := pS X 57 (some .int) k_Po_readFrom 12 [some (.ref v0), some (.ref v1), some (.int v2), some (.int v3)] [] h
noncomputable def f_Po_readFrom_51 (X : pv_X) (v0 : Nat) (v1 : Nat) (v2 : Int32) (v3 : Int32) (h : pv_H) : Option pv_O := pS X 57 (some .int) k_Po_readFrom 51 [some (.ref v0), some (.ref v1), some (.int v2), some (.int v3)] [] h
noncomputable def f_Po_readFrom_52 (X : pv_X) (v0 : Nat) (v1 : Nat) (v2 : Int32) (v3 : Int32) (s0 : Int32) (h : pv_H) : Option pv_O := pS X 57 (some .int) k_Po_readFrom 52 [some (.ref v0), some (.ref v1), some (.int v2), some (.int v3)] [.int s0] h
noncomputable def f_Po_readFrom_59 (X : pv_X) (v0 : Nat) (v1 : Nat) (v2 : Int32) (v3 : Int32) (h : pv_H) : Option pv_O := pS X 57 (some .int) k_Po_readFrom 59 [some (.ref v0), some (.ref v1), some (.int v2), some (.int v3)] [] h
set_option maxRecDepth 8000 in
theorem u_Po_readFrom_0 (X : pv_X) (v0 : Nat) (v1 : Nat) (h : pv_H) : f_Po_readFrom_0 X v0 v1 h =
    if pv_rc h v0 6 = true then (pv_tV (pM X m_Po_clear [.ref v0] h)).bind (fun h1 => if pv_rc h1 v1 9 = true then (pv_tV (pM X m_Tp_start [.ref v1] h1)).bind (fun h2 => f_Po_readFrom_12 X v0 v1 1 0 h2) else none) else none := by
  show pS X 57 (some .int) k_Po_readFrom 0 [some (.ref v0), some (.ref v1), none, none] [] h = _
  refine (ss_aload_n rfl rfl).trans ?_
  refine (ss_callVN (as := []) rfl t_Po_clear (by decide) rfl rfl (by decide) rfl ⟨Nat.le_of_ble_eq_true rfl, Nat.le_of_ble_eq_true rfl⟩).trans ?_
  refine pv_ite ?_ rfl
  refine congrArg (Option.bind _) (funext fun h1 => ?_)
  refine (ss_aload_n rfl rfl).trans ?_
  refine (ss_callVN (as := []) rfl t_Tp_start (by decide) rfl rfl (by decide) rfl ⟨Nat.le_of_ble_eq_true rfl, Nat.le_of_ble_eq_true rfl⟩).trans ?_
  refine pv_ite ?_ rfl
  refine congrArg (Option.bind _) (funext fun h2 => ?_)
  refine (ss_iconst rfl (v := 1) rfl).trans ?_
  refine (ss_istore_n rfl rfl).trans ?_
  refine (ss_iconst rfl (v := 0) rfl).trans ?_
  refine (ss_istore_n rfl rfl).trans ?_
  rfl
set_option maxRecDepth 8000 in
theorem u_Po_readFrom_12 (X : pv_X) (v0 : Nat) (v1 : Nat) (v2 : Int32) (v3 : Int32) (h : pv_H) : f_Po_readFrom_12 X v0 v1 v2 v3 h =
    if 1000 ≤ v3 then f_Po_readFrom_59 X v0 v1 v2 v3 h else if v2 = 0 then f_Po_readFrom_59 X v0 v1 v2 v3 h else if pv_rc h v1 9 = true then (pv_tI (pM X m_Tp_isEnd [.ref v1] h)).bind (fun q1 => if ¬ q1.1 = 0 then f_Po_readFrom_59 X v0 v1 v2 v3 q1.2 else if pv_rc q1.2 v0 6 = true then (pv_tI (pM X m_Po_readLine [.ref v0, .ref v1] q1.2)).bind (fun q2 => if q2.1 = 0 then f_Po_readFrom_51 X v0 v1 v2 v3 q2.2 else if pv_rc q2.2 v1 9 = true then (pv_tI (pM X m_Tp_takeSign [.ref v1, .int 59] q2.2)).bind (fun q3 => if q3.1 = 0 then f_Po_readFrom_51 X v0 v1 v2 v3 q3.2 else f_Po_readFrom_52 X v0 v1 v2 v3 1 q3.2) else none) else none) else none := by
  show pS X 57 (some .int) k_Po_readFrom 12 [some (.ref v0), some (.ref v1), some (.int v2), some (.int v3)] [] h = _
  refine (ss_iload_n rfl rfl).trans ?_
  refine (ss_sipush rfl (v := 1000) rfl).trans ?_
  refine (ss_icmp_ge rfl).trans ?_
  refine pv_ite ?_ ?_
  · rfl
  · refine (ss_iload_n rfl rfl).trans ?_
    refine (ss_if_eq rfl).trans ?_
    refine pv_ite ?_ ?_
    · rfl
    · refine (ss_aload_n rfl rfl).trans ?_
      refine (ss_callVI (as := []) rfl t_Tp_isEnd (by decide) rfl rfl (by decide) (Or.inr rfl) ⟨Nat.le_of_ble_eq_true rfl, Nat.le_of_ble_eq_true rfl⟩).trans ?_
      refine pv_ite ?_ rfl
      refine congrArg (Option.bind _) (funext fun q1 => ?_)
      refine (ss_if_ne rfl).trans ?_
      refine pv_ite ?_ ?_
      · rfl
      · refine (ss_aload_n rfl rfl).trans ?_
        refine (ss_aload_n rfl rfl).trans ?_
        refine (ss_callVI (as := [.ref v1]) rfl t_Po_readLine (by decide) rfl rfl (by decide) (Or.inr rfl) ⟨Nat.le_of_ble_eq_true rfl, Nat.le_of_ble_eq_true rfl⟩).trans ?_
        refine pv_ite ?_ rfl
        refine congrArg (Option.bind _) (funext fun q2 => ?_)
        refine (ss_if_eq rfl).trans ?_
        refine pv_ite ?_ ?_
        · rfl
        · refine (ss_aload_n rfl rfl).trans ?_
          refine (ss_bipush rfl (v := 59) rfl).trans ?_
          refine (ss_callVI (as := [.int 59]) rfl t_Tp_takeSign (by decide) rfl rfl (by decide) (Or.inr rfl) ⟨Nat.le_of_ble_eq_true rfl, Nat.le_of_ble_eq_true rfl⟩).trans ?_
          refine pv_ite ?_ rfl
          refine congrArg (Option.bind _) (funext fun q3 => ?_)
          refine (ss_if_eq rfl).trans ?_
          refine pv_ite ?_ ?_
          · rfl
          · refine (ss_iconst rfl (v := 1) rfl).trans ?_
            refine (ss_goto rfl).trans ?_
            rfl
set_option maxRecDepth 8000 in
theorem u_Po_readFrom_51 (X : pv_X) (v0 : Nat) (v1 : Nat) (v2 : Int32) (v3 : Int32) (h : pv_H) : f_Po_readFrom_51 X v0 v1 v2 v3 h =
    f_Po_readFrom_52 X v0 v1 v2 v3 0 h := by
  show pS X 57 (some .int) k_Po_readFrom 51 [some (.ref v0), some (.ref v1), some (.int v2), some (.int v3)] [] h = _
  refine (ss_iconst rfl (v := 0) rfl).trans ?_
  rfl
set_option maxRecDepth 8000 in
theorem u_Po_readFrom_52 (X : pv_X) (v0 : Nat) (v1 : Nat) (v2 : Int32) (v3 : Int32) (s0 : Int32) (h : pv_H) : f_Po_readFrom_52 X v0 v1 v2 v3 s0 h =
    f_Po_readFrom_12 X v0 v1 s0 (v3 + 1) h := by
  show pS X 57 (some .int) k_Po_readFrom 52 [some (.ref v0), some (.ref v1), some (.int v2), some (.int v3)] [.int s0] h = _
  refine (ss_istore_n rfl rfl).trans ?_
  refine (ss_iinc3 rfl rfl (v := v3 + 1) (congrArg (HAdd.hAdd _) (show Int32.ofInt (1) = 1 by decide)) rfl).trans ?_
  refine (ss_goto rfl).trans ?_
  rfl
set_option maxRecDepth 8000 in
theorem u_Po_readFrom_59 (X : pv_X) (v0 : Nat) (v1 : Nat) (v2 : Int32) (v3 : Int32) (h : pv_H) : f_Po_readFrom_59 X v0 v1 v2 v3 h =
    (pv_fI h v1 9 4).bind (fun x1 => some (some (.int x1), h)) := by
  show pS X 57 (some .int) k_Po_readFrom 59 [some (.ref v0), some (.ref v1), some (.int v2), some (.int v3)] [] h = _
  refine (ss_aload_n rfl rfl).trans ?_
  refine (ss_getI rfl).trans ?_
  refine congrArg (Option.bind _) (funext fun x1 => ?_)
  exact ss_ireturn rfl
theorem e_Po_readFrom (X : pv_X) (v0 : Nat) (v1 : Nat) (h : pv_H) : pM X m_Po_readFrom [.ref v0, .ref v1] h = f_Po_readFrom_0 X v0 v1 h := rfl
noncomputable def f_Po_readLine_0 (X : pv_X) (v0 : Nat) (v1 : Nat) (h : pv_H) : Option pv_O := pS X 56 (some .boolean) k_Po_readLine 0 [some (.ref v0), some (.ref v1)] [] h
set_option maxRecDepth 8000 in
theorem u_Po_readLine_0 (X : pv_X) (v0 : Nat) (v1 : Nat) (h : pv_H) : f_Po_readLine_0 X v0 v1 h =
    if pv_rc h v1 9 = true then (pv_tI (pM X m_Tp_isWord [.ref v1, .ref (pv_scr + 1 + 1)] h)).bind (fun q1 => if q1.1 = 0 then if pv_rc q1.2 v1 9 = true then (pv_tI (pM X m_Tp_isWord [.ref v1, .ref (pv_scr + 1 + 2)] q1.2)).bind (fun q2 => if q2.1 = 0 then if pv_rc q2.2 v1 9 = true then (pv_tI (pM X m_Tp_isWord [.ref v1, .ref (pv_scr + 1 + 3)] q2.2)).bind (fun q3 => if q3.1 = 0 then if pv_rc q3.2 v1 9 = true then (pv_tI (pM X m_Tp_isWord [.ref v1, .ref (pv_scr + 1 + 4)] q3.2)).bind (fun q4 => if ¬ q4.1 = 0 then (pv_fR q4.2 v0 6 2).bind (fun x5 => (pv_fI q4.2 x5 5 3).bind (fun x6 => if x6 = 0 then (pv_fR q4.2 v0 6 2).bind (fun x7 => (pv_fp q4.2 x7 5 3 (.int 1)).bind (fun h8 => if pv_rc h8 v1 9 = true then (pv_tV (pM X m_Tp_advance [.ref v1] h8)).bind (fun h9 => (pv_fR h9 v0 6 2).bind (fun x10 => if pv_rc h9 x10 5 = true then (pv_tI (pM X m_Mo_readTests [.ref x10, .ref v1, .int 0] h9)).bind (fun q11 => if q11.1 = 0 ∨ q11.1 = 1 then some (some (.int q11.1), q11.2) else none) else none)) else none)) else if pv_rc q4.2 v1 9 = true then (pv_tI (pM X m_Tp_refuse [.ref v1, .int 3] q4.2)).bind (fun q12 => if q12.1 = 0 ∨ q12.1 = 1 then some (some (.int q12.1), q12.2) else none) else none)) else if pv_rc q4.2 v1 9 = true then (pv_tI (pM X m_Tp_refuse [.ref v1, .int 1] q4.2)).bind (fun q13 => if q13.1 = 0 ∨ q13.1 = 1 then some (some (.int q13.1), q13.2) else none) else none) else none else if pv_rc q3.2 v0 6 = true then (pv_tI (pM X m_Po_readSets [.ref v0, .ref v1] q3.2)).bind (fun q14 => if q14.1 = 0 ∨ q14.1 = 1 then some (some (.int q14.1), q14.2) else none) else none) else none else if pv_rc q2.2 v0 6 = true then (pv_tI (pM X m_Po_readAsks [.ref v0, .ref v1] q2.2)).bind (fun q15 => if q15.1 = 0 ∨ q15.1 = 1 then some (some (.int q15.1), q15.2) else none) else none) else none else if pv_rc q1.2 v0 6 = true then (pv_tI (pM X m_Po_readPerson [.ref v0, .ref v1] q1.2)).bind (fun q16 => if q16.1 = 0 ∨ q16.1 = 1 then some (some (.int q16.1), q16.2) else none) else none) else none := by
  show pS X 56 (some .boolean) k_Po_readLine 0 [some (.ref v0), some (.ref v1)] [] h = _
  refine (ss_aload_n rfl rfl).trans ?_
  refine (ss_ldcs rfl).trans ?_
  refine (ss_callVI (as := [.ref (pv_scr + 1 + 1)]) rfl t_Tp_isWord (by decide) rfl rfl (by decide) (Or.inr rfl) ⟨Nat.le_of_ble_eq_true rfl, Nat.le_of_ble_eq_true rfl⟩).trans ?_
  refine pv_ite ?_ rfl
  refine congrArg (Option.bind _) (funext fun q1 => ?_)
  refine (ss_if_eq rfl).trans ?_
  refine pv_ite ?_ ?_
  · refine (ss_aload_n rfl rfl).trans ?_
    refine (ss_ldcs rfl).trans ?_
    refine (ss_callVI (as := [.ref (pv_scr + 1 + 2)]) rfl t_Tp_isWord (by decide) rfl rfl (by decide) (Or.inr rfl) ⟨Nat.le_of_ble_eq_true rfl, Nat.le_of_ble_eq_true rfl⟩).trans ?_
    refine pv_ite ?_ rfl
    refine congrArg (Option.bind _) (funext fun q2 => ?_)
    refine (ss_if_eq rfl).trans ?_
    refine pv_ite ?_ ?_
    · refine (ss_aload_n rfl rfl).trans ?_
      refine (ss_ldcs rfl).trans ?_
      refine (ss_callVI (as := [.ref (pv_scr + 1 + 3)]) rfl t_Tp_isWord (by decide) rfl rfl (by decide) (Or.inr rfl) ⟨Nat.le_of_ble_eq_true rfl, Nat.le_of_ble_eq_true rfl⟩).trans ?_
      refine pv_ite ?_ rfl
      refine congrArg (Option.bind _) (funext fun q3 => ?_)
      refine (ss_if_eq rfl).trans ?_
      refine pv_ite ?_ ?_
      · refine (ss_aload_n rfl rfl).trans ?_
        refine (ss_ldcs rfl).trans ?_
        refine (ss_callVI (as := [.ref (pv_scr + 1 + 4)]) rfl t_Tp_isWord (by decide) rfl rfl (by decide) (Or.inr rfl) ⟨Nat.le_of_ble_eq_true rfl, Nat.le_of_ble_eq_true rfl⟩).trans ?_
        refine pv_ite ?_ rfl
        refine congrArg (Option.bind _) (funext fun q4 => ?_)
        refine (ss_if_ne rfl).trans ?_
        refine pv_ite ?_ ?_
        · refine (ss_aload_n rfl rfl).trans ?_
          refine (ss_getR rfl).trans ?_
          refine congrArg (Option.bind _) (funext fun x5 => ?_)
          refine (ss_getZ rfl).trans ?_
          refine congrArg (Option.bind _) (funext fun x6 => ?_)
          refine (ss_if_eq rfl).trans ?_
          refine pv_ite ?_ ?_
          · refine (ss_aload_n rfl rfl).trans ?_
            refine (ss_getR rfl).trans ?_
            refine congrArg (Option.bind _) (funext fun x7 => ?_)
            refine (ss_iconst rfl (v := 1) rfl).trans ?_
            refine ((ss_putZ rfl).trans (if_pos (by decide))).trans ?_
            refine congrArg (Option.bind _) (funext fun h8 => ?_)
            refine (ss_aload_n rfl rfl).trans ?_
            refine (ss_callVN (as := []) rfl t_Tp_advance (by decide) rfl rfl (by decide) rfl ⟨Nat.le_of_ble_eq_true rfl, Nat.le_of_ble_eq_true rfl⟩).trans ?_
            refine pv_ite ?_ rfl
            refine congrArg (Option.bind _) (funext fun h9 => ?_)
            refine (ss_aload_n rfl rfl).trans ?_
            refine (ss_getR rfl).trans ?_
            refine congrArg (Option.bind _) (funext fun x10 => ?_)
            refine (ss_aload_n rfl rfl).trans ?_
            refine (ss_iconst rfl (v := 0) rfl).trans ?_
            refine (ss_callVI (as := [.ref v1, .int 0]) rfl t_Mo_readTests (by decide) rfl rfl (by decide) (Or.inr rfl) ⟨Nat.le_of_ble_eq_true rfl, Nat.le_of_ble_eq_true rfl⟩).trans ?_
            refine pv_ite ?_ rfl
            refine congrArg (Option.bind _) (funext fun q11 => ?_)
            exact ss_zreturn rfl
          · refine (ss_aload_n rfl rfl).trans ?_
            refine (ss_iconst rfl (v := 3) rfl).trans ?_
            refine (ss_callVI (as := [.int 3]) rfl t_Tp_refuse (by decide) rfl rfl (by decide) (Or.inr rfl) ⟨Nat.le_of_ble_eq_true rfl, Nat.le_of_ble_eq_true rfl⟩).trans ?_
            refine pv_ite ?_ rfl
            refine congrArg (Option.bind _) (funext fun q12 => ?_)
            exact ss_zreturn rfl
        · refine (ss_aload_n rfl rfl).trans ?_
          refine (ss_iconst rfl (v := 1) rfl).trans ?_
          refine (ss_callVI (as := [.int 1]) rfl t_Tp_refuse (by decide) rfl rfl (by decide) (Or.inr rfl) ⟨Nat.le_of_ble_eq_true rfl, Nat.le_of_ble_eq_true rfl⟩).trans ?_
          refine pv_ite ?_ rfl
          refine congrArg (Option.bind _) (funext fun q13 => ?_)
          exact ss_zreturn rfl
      · refine (ss_aload_n rfl rfl).trans ?_
        refine (ss_aload_n rfl rfl).trans ?_
        refine (ss_callVI (as := [.ref v1]) rfl t_Po_readSets (by decide) rfl rfl (by decide) (Or.inr rfl) ⟨Nat.le_of_ble_eq_true rfl, Nat.le_of_ble_eq_true rfl⟩).trans ?_
        refine pv_ite ?_ rfl
        refine congrArg (Option.bind _) (funext fun q14 => ?_)
        exact ss_zreturn rfl
    · refine (ss_aload_n rfl rfl).trans ?_
      refine (ss_aload_n rfl rfl).trans ?_
      refine (ss_callVI (as := [.ref v1]) rfl t_Po_readAsks (by decide) rfl rfl (by decide) (Or.inr rfl) ⟨Nat.le_of_ble_eq_true rfl, Nat.le_of_ble_eq_true rfl⟩).trans ?_
      refine pv_ite ?_ rfl
      refine congrArg (Option.bind _) (funext fun q15 => ?_)
      exact ss_zreturn rfl
  · refine (ss_aload_n rfl rfl).trans ?_
    refine (ss_aload_n rfl rfl).trans ?_
    refine (ss_callVI (as := [.ref v1]) rfl t_Po_readPerson (by decide) rfl rfl (by decide) (Or.inr rfl) ⟨Nat.le_of_ble_eq_true rfl, Nat.le_of_ble_eq_true rfl⟩).trans ?_
    refine pv_ite ?_ rfl
    refine congrArg (Option.bind _) (funext fun q16 => ?_)
    exact ss_zreturn rfl
theorem e_Po_readLine (X : pv_X) (v0 : Nat) (v1 : Nat) (h : pv_H) : pM X m_Po_readLine [.ref v0, .ref v1] h = f_Po_readLine_0 X v0 v1 h := rfl
noncomputable def f_Po_readPerson_0 (X : pv_X) (v0 : Nat) (v1 : Nat) (h : pv_H) : Option pv_O := pS X 16 (some .boolean) k_Po_readPerson 0 [some (.ref v0), some (.ref v1)] [] h
noncomputable def f_Po_readPerson_124 (X : pv_X) (v0 : Nat) (v1 : Nat) (h : pv_H) : Option pv_O := pS X 16 (some .boolean) k_Po_readPerson 124 [some (.ref v0), some (.ref v1)] [] h
set_option maxRecDepth 8000 in
theorem u_Po_readPerson_0 (X : pv_X) (v0 : Nat) (v1 : Nat) (h : pv_H) : f_Po_readPerson_0 X v0 v1 h =
    (pv_fI h v0 6 6).bind (fun x1 => if x1 < 6 then if pv_rc h v1 9 = true then (pv_tV (pM X m_Tp_advance [.ref v1] h)).bind (fun h2 => if pv_rc h2 v1 9 = true then (pv_tI (pM X m_Tp_isName [.ref v1] h2)).bind (fun q3 => if ¬ q3.1 = 0 then (pv_fJ q3.2 v1 9 2).bind (fun x4 => if pv_rc q3.2 v0 6 = true then (pv_tI (pM X m_Po_numberOf [.ref v0, .long x4] q3.2)).bind (fun q5 => if q5.1 = (-1) then (pv_fR q5.2 v0 6 0).bind (fun x6 => (pv_fI q5.2 v0 6 6).bind (fun x7 => (pv_fJ q5.2 v1 9 2).bind (fun x8 => (pv_sJ q5.2 x6 x7 x8).bind (fun h9 => if pv_rc h9 v1 9 = true then (pv_tV (pM X m_Tp_advance [.ref v1] h9)).bind (fun h10 => (pv_fR h10 v0 6 3).bind (fun x11 => (pv_fI h10 v0 6 6).bind (fun x12 => (pv_tI (pM X m_Po_kindOf [.ref v1] h10)).bind (fun q13 => (pv_sI q13.2 x11 x12 q13.1).bind (fun h14 => (pv_fR h14 v0 6 3).bind (fun x15 => (pv_fI h14 v0 6 6).bind (fun x16 => (pv_aX X h14 x15 x16).bind (fun x17 => if ¬ x17 = (-1) then if pv_rc h14 v1 9 = true then (pv_tV (pM X m_Tp_advance [.ref v1] h14)).bind (fun h18 => if pv_rc h18 v1 9 = true then (pv_tI (pM X m_Tp_takeWord [.ref v1, .ref (pv_scr + 1 + 9)] h18)).bind (fun q19 => if q19.1 = 0 then f_Po_readPerson_124 X v0 v1 q19.2 else if pv_rc q19.2 v1 9 = true then (pv_tI (pM X m_Tp_holdsNumber [.ref v1, .int 20, .int 160] q19.2)).bind (fun q20 => if ¬ q20.1 = 0 then (pv_fR q20.2 v0 6 5).bind (fun x21 => (pv_fR q20.2 x21 7 1).bind (fun x22 => (pv_fI q20.2 v0 6 6).bind (fun x23 => (pv_fI q20.2 v1 9 3).bind (fun x24 => (pv_sI q20.2 x22 x23 x24).bind (fun h25 => (pv_fI h25 v0 6 6).bind (fun x26 => (pv_fp h25 v0 6 6 (.int (x26 + 1))).bind (fun h27 => if pv_rc h27 v1 9 = true then (pv_tV (pM X m_Tp_advance [.ref v1] h27)).bind (fun h28 => some (some (.int 1), h28)) else none))))))) else f_Po_readPerson_124 X v0 v1 q20.2) else none) else none) else none else if pv_rc h14 v1 9 = true then (pv_tI (pM X m_Tp_refuse [.ref v1, .int 1] h14)).bind (fun q29 => if q29.1 = 0 ∨ q29.1 = 1 then some (some (.int q29.1), q29.2) else none) else none)))))))) else none)))) else if pv_rc q5.2 v1 9 = true then (pv_tI (pM X m_Tp_refuse [.ref v1, .int 3] q5.2)).bind (fun q30 => if q30.1 = 0 ∨ q30.1 = 1 then some (some (.int q30.1), q30.2) else none) else none) else none) else if pv_rc q3.2 v1 9 = true then (pv_tI (pM X m_Tp_refuse [.ref v1, .int 1] q3.2)).bind (fun q31 => if q31.1 = 0 ∨ q31.1 = 1 then some (some (.int q31.1), q31.2) else none) else none) else none) else none else if pv_rc h v1 9 = true then (pv_tI (pM X m_Tp_refuse [.ref v1, .int 5] h)).bind (fun q32 => if q32.1 = 0 ∨ q32.1 = 1 then some (some (.int q32.1), q32.2) else none) else none) := by
  show pS X 16 (some .boolean) k_Po_readPerson 0 [some (.ref v0), some (.ref v1)] [] h = _
  refine (ss_aload_n rfl rfl).trans ?_
  refine (ss_getI rfl).trans ?_
  refine congrArg (Option.bind _) (funext fun x1 => ?_)
  refine (ss_bipush rfl (v := 6) rfl).trans ?_
  refine (ss_icmp_lt rfl).trans ?_
  refine pv_ite ?_ ?_
  · refine (ss_aload_n rfl rfl).trans ?_
    refine (ss_callVN (as := []) rfl t_Tp_advance (by decide) rfl rfl (by decide) rfl ⟨Nat.le_of_ble_eq_true rfl, Nat.le_of_ble_eq_true rfl⟩).trans ?_
    refine pv_ite ?_ rfl
    refine congrArg (Option.bind _) (funext fun h2 => ?_)
    refine (ss_aload_n rfl rfl).trans ?_
    refine (ss_callVI (as := []) rfl t_Tp_isName (by decide) rfl rfl (by decide) (Or.inr rfl) ⟨Nat.le_of_ble_eq_true rfl, Nat.le_of_ble_eq_true rfl⟩).trans ?_
    refine pv_ite ?_ rfl
    refine congrArg (Option.bind _) (funext fun q3 => ?_)
    refine (ss_if_ne rfl).trans ?_
    refine pv_ite ?_ ?_
    · refine (ss_aload_n rfl rfl).trans ?_
      refine (ss_aload_n rfl rfl).trans ?_
      refine (ss_getJ rfl).trans ?_
      refine congrArg (Option.bind _) (funext fun x4 => ?_)
      refine (ss_callVI (as := [.long x4]) rfl t_Po_numberOf (by decide) rfl rfl (by decide) (Or.inl rfl) ⟨Nat.le_of_ble_eq_true rfl, Nat.le_of_ble_eq_true rfl⟩).trans ?_
      refine pv_ite ?_ rfl
      refine congrArg (Option.bind _) (funext fun q5 => ?_)
      refine (ss_iconst rfl (v := (-1)) rfl).trans ?_
      refine (ss_icmp_eq rfl).trans ?_
      refine pv_ite ?_ ?_
      · refine (ss_aload_n rfl rfl).trans ?_
        refine (ss_getR rfl).trans ?_
        refine congrArg (Option.bind _) (funext fun x6 => ?_)
        refine (ss_aload_n rfl rfl).trans ?_
        refine (ss_getI rfl).trans ?_
        refine congrArg (Option.bind _) (funext fun x7 => ?_)
        refine (ss_aload_n rfl rfl).trans ?_
        refine (ss_getJ rfl).trans ?_
        refine congrArg (Option.bind _) (funext fun x8 => ?_)
        refine (ss_lastore rfl).trans ?_
        refine congrArg (Option.bind _) (funext fun h9 => ?_)
        refine (ss_aload_n rfl rfl).trans ?_
        refine (ss_callVN (as := []) rfl t_Tp_advance (by decide) rfl rfl (by decide) rfl ⟨Nat.le_of_ble_eq_true rfl, Nat.le_of_ble_eq_true rfl⟩).trans ?_
        refine pv_ite ?_ rfl
        refine congrArg (Option.bind _) (funext fun h10 => ?_)
        refine (ss_aload_n rfl rfl).trans ?_
        refine (ss_getR rfl).trans ?_
        refine congrArg (Option.bind _) (funext fun x11 => ?_)
        refine (ss_aload_n rfl rfl).trans ?_
        refine (ss_getI rfl).trans ?_
        refine congrArg (Option.bind _) (funext fun x12 => ?_)
        refine (ss_aload_n rfl rfl).trans ?_
        refine (ss_callSI (as := [.ref v1]) rfl t_Po_kindOf (by decide) rfl rfl (by simp [Value.category]) (Or.inl rfl) ⟨Nat.le_of_ble_eq_true rfl, Nat.le_of_ble_eq_true rfl⟩).trans ?_
        refine congrArg (Option.bind _) (funext fun q13 => ?_)
        refine (ss_iastore rfl).trans ?_
        refine congrArg (Option.bind _) (funext fun h14 => ?_)
        refine (ss_aload_n rfl rfl).trans ?_
        refine (ss_getR rfl).trans ?_
        refine congrArg (Option.bind _) (funext fun x15 => ?_)
        refine (ss_aload_n rfl rfl).trans ?_
        refine (ss_getI rfl).trans ?_
        refine congrArg (Option.bind _) (funext fun x16 => ?_)
        refine (ss_iaload rfl).trans ?_
        refine congrArg (Option.bind _) (funext fun x17 => ?_)
        refine (ss_iconst rfl (v := (-1)) rfl).trans ?_
        refine (ss_icmp_ne rfl).trans ?_
        refine pv_ite ?_ ?_
        · refine (ss_aload_n rfl rfl).trans ?_
          refine (ss_callVN (as := []) rfl t_Tp_advance (by decide) rfl rfl (by decide) rfl ⟨Nat.le_of_ble_eq_true rfl, Nat.le_of_ble_eq_true rfl⟩).trans ?_
          refine pv_ite ?_ rfl
          refine congrArg (Option.bind _) (funext fun h18 => ?_)
          refine (ss_aload_n rfl rfl).trans ?_
          refine (ss_ldcs rfl).trans ?_
          refine (ss_callVI (as := [.ref (pv_scr + 1 + 9)]) rfl t_Tp_takeWord (by decide) rfl rfl (by decide) (Or.inr rfl) ⟨Nat.le_of_ble_eq_true rfl, Nat.le_of_ble_eq_true rfl⟩).trans ?_
          refine pv_ite ?_ rfl
          refine congrArg (Option.bind _) (funext fun q19 => ?_)
          refine (ss_if_eq rfl).trans ?_
          refine pv_ite ?_ ?_
          · rfl
          · refine (ss_aload_n rfl rfl).trans ?_
            refine (ss_bipush rfl (v := 20) rfl).trans ?_
            refine (ss_sipush rfl (v := 160) rfl).trans ?_
            refine (ss_callVI (as := [.int 20, .int 160]) rfl t_Tp_holdsNumber (by decide) rfl rfl (by decide) (Or.inr rfl) ⟨Nat.le_of_ble_eq_true rfl, Nat.le_of_ble_eq_true rfl⟩).trans ?_
            refine pv_ite ?_ rfl
            refine congrArg (Option.bind _) (funext fun q20 => ?_)
            refine (ss_if_ne rfl).trans ?_
            refine pv_ite ?_ ?_
            · refine (ss_aload_n rfl rfl).trans ?_
              refine (ss_getR rfl).trans ?_
              refine congrArg (Option.bind _) (funext fun x21 => ?_)
              refine (ss_getR rfl).trans ?_
              refine congrArg (Option.bind _) (funext fun x22 => ?_)
              refine (ss_aload_n rfl rfl).trans ?_
              refine (ss_getI rfl).trans ?_
              refine congrArg (Option.bind _) (funext fun x23 => ?_)
              refine (ss_aload_n rfl rfl).trans ?_
              refine (ss_getI rfl).trans ?_
              refine congrArg (Option.bind _) (funext fun x24 => ?_)
              refine (ss_iastore rfl).trans ?_
              refine congrArg (Option.bind _) (funext fun h25 => ?_)
              refine (ss_aload_n rfl rfl).trans ?_
              refine (ss_dupR rfl).trans ?_
              refine (ss_getI rfl).trans ?_
              refine congrArg (Option.bind _) (funext fun x26 => ?_)
              refine (ss_iconst rfl (v := 1) rfl).trans ?_
              refine (ss_iadd rfl).trans ?_
              refine (ss_putI rfl).trans ?_
              refine congrArg (Option.bind _) (funext fun h27 => ?_)
              refine (ss_aload_n rfl rfl).trans ?_
              refine (ss_callVN (as := []) rfl t_Tp_advance (by decide) rfl rfl (by decide) rfl ⟨Nat.le_of_ble_eq_true rfl, Nat.le_of_ble_eq_true rfl⟩).trans ?_
              refine pv_ite ?_ rfl
              refine congrArg (Option.bind _) (funext fun h28 => ?_)
              refine (ss_iconst rfl (v := 1) rfl).trans ?_
              exact (ss_zreturn rfl).trans (if_pos (by decide))
            · rfl
        · refine (ss_aload_n rfl rfl).trans ?_
          refine (ss_iconst rfl (v := 1) rfl).trans ?_
          refine (ss_callVI (as := [.int 1]) rfl t_Tp_refuse (by decide) rfl rfl (by decide) (Or.inr rfl) ⟨Nat.le_of_ble_eq_true rfl, Nat.le_of_ble_eq_true rfl⟩).trans ?_
          refine pv_ite ?_ rfl
          refine congrArg (Option.bind _) (funext fun q29 => ?_)
          exact ss_zreturn rfl
      · refine (ss_aload_n rfl rfl).trans ?_
        refine (ss_iconst rfl (v := 3) rfl).trans ?_
        refine (ss_callVI (as := [.int 3]) rfl t_Tp_refuse (by decide) rfl rfl (by decide) (Or.inr rfl) ⟨Nat.le_of_ble_eq_true rfl, Nat.le_of_ble_eq_true rfl⟩).trans ?_
        refine pv_ite ?_ rfl
        refine congrArg (Option.bind _) (funext fun q30 => ?_)
        exact ss_zreturn rfl
    · refine (ss_aload_n rfl rfl).trans ?_
      refine (ss_iconst rfl (v := 1) rfl).trans ?_
      refine (ss_callVI (as := [.int 1]) rfl t_Tp_refuse (by decide) rfl rfl (by decide) (Or.inr rfl) ⟨Nat.le_of_ble_eq_true rfl, Nat.le_of_ble_eq_true rfl⟩).trans ?_
      refine pv_ite ?_ rfl
      refine congrArg (Option.bind _) (funext fun q31 => ?_)
      exact ss_zreturn rfl
  · refine (ss_aload_n rfl rfl).trans ?_
    refine (ss_iconst rfl (v := 5) rfl).trans ?_
    refine (ss_callVI (as := [.int 5]) rfl t_Tp_refuse (by decide) rfl rfl (by decide) (Or.inr rfl) ⟨Nat.le_of_ble_eq_true rfl, Nat.le_of_ble_eq_true rfl⟩).trans ?_
    refine pv_ite ?_ rfl
    refine congrArg (Option.bind _) (funext fun q32 => ?_)
    exact ss_zreturn rfl
set_option maxRecDepth 8000 in
theorem u_Po_readPerson_124 (X : pv_X) (v0 : Nat) (v1 : Nat) (h : pv_H) : f_Po_readPerson_124 X v0 v1 h =
    some (some (.int 0), h) := by
  show pS X 16 (some .boolean) k_Po_readPerson 124 [some (.ref v0), some (.ref v1)] [] h = _
  refine (ss_iconst rfl (v := 0) rfl).trans ?_
  exact (ss_zreturn rfl).trans (if_pos (by decide))
theorem e_Po_readPerson (X : pv_X) (v0 : Nat) (v1 : Nat) (h : pv_H) : pM X m_Po_readPerson [.ref v0, .ref v1] h = f_Po_readPerson_0 X v0 v1 h := rfl
noncomputable def f_Po_kindOf_0 (X : pv_X) (v0 : Nat) (h : pv_H) : Option pv_O := pS X 14 (some .int) k_Po_kindOf 0 [some (.ref v0)] [] h
noncomputable def f_Po_kindOf_47 (X : pv_X) (v0 : Nat) (s0 : Int32) (h : pv_H) : Option pv_O := pS X 14 (some .int) k_Po_kindOf 47 [some (.ref v0)] [.int s0] h
set_option maxRecDepth 8000 in
theorem u_Po_kindOf_0 (X : pv_X) (v0 : Nat) (h : pv_H) : f_Po_kindOf_0 X v0 h =
    if pv_rc h v0 9 = true then (pv_tI (pM X m_Tp_isWord [.ref v0, .ref (pv_scr + 1 + 13)] h)).bind (fun q1 => if q1.1 = 0 then if pv_rc q1.2 v0 9 = true then (pv_tI (pM X m_Tp_isWord [.ref v0, .ref (pv_scr + 1 + 14)] q1.2)).bind (fun q2 => if q2.1 = 0 then if pv_rc q2.2 v0 9 = true then (pv_tI (pM X m_Tp_isWord [.ref v0, .ref (pv_scr + 1 + 15)] q2.2)).bind (fun q3 => if q3.1 = 0 then if pv_rc q3.2 v0 9 = true then (pv_tI (pM X m_Tp_isWord [.ref v0, .ref (pv_scr + 1 + 16)] q3.2)).bind (fun q4 => if q4.1 = 0 then f_Po_kindOf_47 X v0 (-1) q4.2 else f_Po_kindOf_47 X v0 3 q4.2) else none else some (some (.int 2), q3.2)) else none else some (some (.int 1), q2.2)) else none else some (some (.int 0), q1.2)) else none := by
  show pS X 14 (some .int) k_Po_kindOf 0 [some (.ref v0)] [] h = _
  refine (ss_aload_n rfl rfl).trans ?_
  refine (ss_ldcs rfl).trans ?_
  refine (ss_callVI (as := [.ref (pv_scr + 1 + 13)]) rfl t_Tp_isWord (by decide) rfl rfl (by decide) (Or.inr rfl) ⟨Nat.le_of_ble_eq_true rfl, Nat.le_of_ble_eq_true rfl⟩).trans ?_
  refine pv_ite ?_ rfl
  refine congrArg (Option.bind _) (funext fun q1 => ?_)
  refine (ss_if_eq rfl).trans ?_
  refine pv_ite ?_ ?_
  · refine (ss_aload_n rfl rfl).trans ?_
    refine (ss_ldcs rfl).trans ?_
    refine (ss_callVI (as := [.ref (pv_scr + 1 + 14)]) rfl t_Tp_isWord (by decide) rfl rfl (by decide) (Or.inr rfl) ⟨Nat.le_of_ble_eq_true rfl, Nat.le_of_ble_eq_true rfl⟩).trans ?_
    refine pv_ite ?_ rfl
    refine congrArg (Option.bind _) (funext fun q2 => ?_)
    refine (ss_if_eq rfl).trans ?_
    refine pv_ite ?_ ?_
    · refine (ss_aload_n rfl rfl).trans ?_
      refine (ss_ldcs rfl).trans ?_
      refine (ss_callVI (as := [.ref (pv_scr + 1 + 15)]) rfl t_Tp_isWord (by decide) rfl rfl (by decide) (Or.inr rfl) ⟨Nat.le_of_ble_eq_true rfl, Nat.le_of_ble_eq_true rfl⟩).trans ?_
      refine pv_ite ?_ rfl
      refine congrArg (Option.bind _) (funext fun q3 => ?_)
      refine (ss_if_eq rfl).trans ?_
      refine pv_ite ?_ ?_
      · refine (ss_aload_n rfl rfl).trans ?_
        refine (ss_ldcs rfl).trans ?_
        refine (ss_callVI (as := [.ref (pv_scr + 1 + 16)]) rfl t_Tp_isWord (by decide) rfl rfl (by decide) (Or.inr rfl) ⟨Nat.le_of_ble_eq_true rfl, Nat.le_of_ble_eq_true rfl⟩).trans ?_
        refine pv_ite ?_ rfl
        refine congrArg (Option.bind _) (funext fun q4 => ?_)
        refine (ss_if_eq rfl).trans ?_
        refine pv_ite ?_ ?_
        · refine (ss_iconst rfl (v := (-1)) rfl).trans ?_
          rfl
        · refine (ss_iconst rfl (v := 3) rfl).trans ?_
          refine (ss_goto rfl).trans ?_
          rfl
      · refine (ss_iconst rfl (v := 2) rfl).trans ?_
        exact ss_ireturn rfl
    · refine (ss_iconst rfl (v := 1) rfl).trans ?_
      exact ss_ireturn rfl
  · refine (ss_iconst rfl (v := 0) rfl).trans ?_
    exact ss_ireturn rfl
set_option maxRecDepth 8000 in
theorem u_Po_kindOf_47 (X : pv_X) (v0 : Nat) (s0 : Int32) (h : pv_H) : f_Po_kindOf_47 X v0 s0 h =
    some (some (.int s0), h) := by
  show pS X 14 (some .int) k_Po_kindOf 47 [some (.ref v0)] [.int s0] h = _
  exact ss_ireturn rfl
theorem e_Po_kindOf (X : pv_X) (v0 : Nat) (h : pv_H) : pM X m_Po_kindOf [.ref v0] h = f_Po_kindOf_0 X v0 h := rfl
noncomputable def f_Po_readAsks_0 (X : pv_X) (v0 : Nat) (v1 : Nat) (h : pv_H) : Option pv_O := pS X 17 (some .boolean) k_Po_readAsks 0 [some (.ref v0), some (.ref v1), none, none] [] h
set_option maxRecDepth 8000 in
theorem u_Po_readAsks_0 (X : pv_X) (v0 : Nat) (v1 : Nat) (h : pv_H) : f_Po_readAsks_0 X v0 v1 h =
    if pv_rc h v1 9 = true then (pv_tV (pM X m_Tp_advance [.ref v1] h)).bind (fun h1 => if pv_rc h1 v0 6 = true then (pv_tI (pM X m_Po_personAt [.ref v0, .ref v1] h1)).bind (fun q2 => if ¬ q2.1 = (-1) then (pv_fR q2.2 v0 6 4).bind (fun x3 => (pv_aX X q2.2 x3 q2.1).bind (fun x4 => if x4 = (-1) then if pv_rc q2.2 v1 9 = true then (pv_tV (pM X m_Tp_advance [.ref v1] q2.2)).bind (fun h5 => if pv_rc h5 v0 6 = true then (pv_tI (pM X m_Po_personAt [.ref v0, .ref v1] h5)).bind (fun q6 => if ¬ q6.1 = (-1) then if ¬ q6.1 = q2.1 then (pv_fR q6.2 v0 6 4).bind (fun x7 => (pv_sI q6.2 x7 q2.1 q6.1).bind (fun h8 => if pv_rc h8 v1 9 = true then (pv_tV (pM X m_Tp_advance [.ref v1] h8)).bind (fun h9 => some (some (.int 1), h9)) else none)) else if pv_rc q6.2 v1 9 = true then (pv_tI (pM X m_Tp_refuse [.ref v1, .int 3] q6.2)).bind (fun q10 => if q10.1 = 0 ∨ q10.1 = 1 then some (some (.int q10.1), q10.2) else none) else none else some (some (.int 0), q6.2)) else none) else none else if pv_rc q2.2 v1 9 = true then (pv_tI (pM X m_Tp_refuse [.ref v1, .int 3] q2.2)).bind (fun q11 => if q11.1 = 0 ∨ q11.1 = 1 then some (some (.int q11.1), q11.2) else none) else none)) else some (some (.int 0), q2.2)) else none) else none := by
  show pS X 17 (some .boolean) k_Po_readAsks 0 [some (.ref v0), some (.ref v1), none, none] [] h = _
  refine (ss_aload_n rfl rfl).trans ?_
  refine (ss_callVN (as := []) rfl t_Tp_advance (by decide) rfl rfl (by decide) rfl ⟨Nat.le_of_ble_eq_true rfl, Nat.le_of_ble_eq_true rfl⟩).trans ?_
  refine pv_ite ?_ rfl
  refine congrArg (Option.bind _) (funext fun h1 => ?_)
  refine (ss_aload_n rfl rfl).trans ?_
  refine (ss_aload_n rfl rfl).trans ?_
  refine (ss_callVI (as := [.ref v1]) rfl t_Po_personAt (by decide) rfl rfl (by decide) (Or.inl rfl) ⟨Nat.le_of_ble_eq_true rfl, Nat.le_of_ble_eq_true rfl⟩).trans ?_
  refine pv_ite ?_ rfl
  refine congrArg (Option.bind _) (funext fun q2 => ?_)
  refine (ss_istore_n rfl rfl).trans ?_
  refine (ss_iload_n rfl rfl).trans ?_
  refine (ss_iconst rfl (v := (-1)) rfl).trans ?_
  refine (ss_icmp_ne rfl).trans ?_
  refine pv_ite ?_ ?_
  · refine (ss_aload_n rfl rfl).trans ?_
    refine (ss_getR rfl).trans ?_
    refine congrArg (Option.bind _) (funext fun x3 => ?_)
    refine (ss_iload_n rfl rfl).trans ?_
    refine (ss_iaload rfl).trans ?_
    refine congrArg (Option.bind _) (funext fun x4 => ?_)
    refine (ss_iconst rfl (v := (-1)) rfl).trans ?_
    refine (ss_icmp_eq rfl).trans ?_
    refine pv_ite ?_ ?_
    · refine (ss_aload_n rfl rfl).trans ?_
      refine (ss_callVN (as := []) rfl t_Tp_advance (by decide) rfl rfl (by decide) rfl ⟨Nat.le_of_ble_eq_true rfl, Nat.le_of_ble_eq_true rfl⟩).trans ?_
      refine pv_ite ?_ rfl
      refine congrArg (Option.bind _) (funext fun h5 => ?_)
      refine (ss_aload_n rfl rfl).trans ?_
      refine (ss_aload_n rfl rfl).trans ?_
      refine (ss_callVI (as := [.ref v1]) rfl t_Po_personAt (by decide) rfl rfl (by decide) (Or.inl rfl) ⟨Nat.le_of_ble_eq_true rfl, Nat.le_of_ble_eq_true rfl⟩).trans ?_
      refine pv_ite ?_ rfl
      refine congrArg (Option.bind _) (funext fun q6 => ?_)
      refine (ss_istore_n rfl rfl).trans ?_
      refine (ss_iload_n rfl rfl).trans ?_
      refine (ss_iconst rfl (v := (-1)) rfl).trans ?_
      refine (ss_icmp_ne rfl).trans ?_
      refine pv_ite ?_ ?_
      · refine (ss_iload_n rfl rfl).trans ?_
        refine (ss_iload_n rfl rfl).trans ?_
        refine (ss_icmp_ne rfl).trans ?_
        refine pv_ite ?_ ?_
        · refine (ss_aload_n rfl rfl).trans ?_
          refine (ss_getR rfl).trans ?_
          refine congrArg (Option.bind _) (funext fun x7 => ?_)
          refine (ss_iload_n rfl rfl).trans ?_
          refine (ss_iload_n rfl rfl).trans ?_
          refine (ss_iastore rfl).trans ?_
          refine congrArg (Option.bind _) (funext fun h8 => ?_)
          refine (ss_aload_n rfl rfl).trans ?_
          refine (ss_callVN (as := []) rfl t_Tp_advance (by decide) rfl rfl (by decide) rfl ⟨Nat.le_of_ble_eq_true rfl, Nat.le_of_ble_eq_true rfl⟩).trans ?_
          refine pv_ite ?_ rfl
          refine congrArg (Option.bind _) (funext fun h9 => ?_)
          refine (ss_iconst rfl (v := 1) rfl).trans ?_
          exact (ss_zreturn rfl).trans (if_pos (by decide))
        · refine (ss_aload_n rfl rfl).trans ?_
          refine (ss_iconst rfl (v := 3) rfl).trans ?_
          refine (ss_callVI (as := [.int 3]) rfl t_Tp_refuse (by decide) rfl rfl (by decide) (Or.inr rfl) ⟨Nat.le_of_ble_eq_true rfl, Nat.le_of_ble_eq_true rfl⟩).trans ?_
          refine pv_ite ?_ rfl
          refine congrArg (Option.bind _) (funext fun q10 => ?_)
          exact ss_zreturn rfl
      · refine (ss_iconst rfl (v := 0) rfl).trans ?_
        exact (ss_zreturn rfl).trans (if_pos (by decide))
    · refine (ss_aload_n rfl rfl).trans ?_
      refine (ss_iconst rfl (v := 3) rfl).trans ?_
      refine (ss_callVI (as := [.int 3]) rfl t_Tp_refuse (by decide) rfl rfl (by decide) (Or.inr rfl) ⟨Nat.le_of_ble_eq_true rfl, Nat.le_of_ble_eq_true rfl⟩).trans ?_
      refine pv_ite ?_ rfl
      refine congrArg (Option.bind _) (funext fun q11 => ?_)
      exact ss_zreturn rfl
  · refine (ss_iconst rfl (v := 0) rfl).trans ?_
    exact (ss_zreturn rfl).trans (if_pos (by decide))
theorem e_Po_readAsks (X : pv_X) (v0 : Nat) (v1 : Nat) (h : pv_H) : pM X m_Po_readAsks [.ref v0, .ref v1] h = f_Po_readAsks_0 X v0 v1 h := rfl
noncomputable def f_Po_readSets_0 (X : pv_X) (v0 : Nat) (v1 : Nat) (h : pv_H) : Option pv_O := pS X 17 (some .boolean) k_Po_readSets 0 [some (.ref v0), some (.ref v1), none] [] h
set_option maxRecDepth 8000 in
theorem u_Po_readSets_0 (X : pv_X) (v0 : Nat) (v1 : Nat) (h : pv_H) : f_Po_readSets_0 X v0 v1 h =
    if pv_rc h v1 9 = true then (pv_tV (pM X m_Tp_advance [.ref v1] h)).bind (fun h1 => if pv_rc h1 v0 6 = true then (pv_tI (pM X m_Po_personAt [.ref v0, .ref v1] h1)).bind (fun q2 => if ¬ q2.1 = (-1) then (pv_fR q2.2 v0 6 1).bind (fun x3 => (pv_aI q2.2 3 x3 q2.1).bind (fun x4 => if x4 = 0 then if pv_rc q2.2 v1 9 = true then (pv_tV (pM X m_Tp_advance [.ref v1] q2.2)).bind (fun h5 => if pv_rc h5 v1 9 = true then (pv_tI (pM X m_Tp_holdsNumber [.ref v1, .int 0, .int 719] h5)).bind (fun q6 => if ¬ q6.1 = 0 then (pv_fR q6.2 v0 6 5).bind (fun x7 => (pv_fR q6.2 x7 7 0).bind (fun x8 => (pv_fI q6.2 v1 9 3).bind (fun x9 => (pv_sI q6.2 x8 q2.1 x9).bind (fun h10 => (pv_fR h10 v0 6 1).bind (fun x11 => (pv_sZ h10 x11 q2.1 1).bind (fun h12 => if pv_rc h12 v1 9 = true then (pv_tV (pM X m_Tp_advance [.ref v1] h12)).bind (fun h13 => some (some (.int 1), h13)) else none)))))) else some (some (.int 0), q6.2)) else none) else none else if pv_rc q2.2 v1 9 = true then (pv_tI (pM X m_Tp_refuse [.ref v1, .int 3] q2.2)).bind (fun q14 => if q14.1 = 0 ∨ q14.1 = 1 then some (some (.int q14.1), q14.2) else none) else none)) else some (some (.int 0), q2.2)) else none) else none := by
  show pS X 17 (some .boolean) k_Po_readSets 0 [some (.ref v0), some (.ref v1), none] [] h = _
  refine (ss_aload_n rfl rfl).trans ?_
  refine (ss_callVN (as := []) rfl t_Tp_advance (by decide) rfl rfl (by decide) rfl ⟨Nat.le_of_ble_eq_true rfl, Nat.le_of_ble_eq_true rfl⟩).trans ?_
  refine pv_ite ?_ rfl
  refine congrArg (Option.bind _) (funext fun h1 => ?_)
  refine (ss_aload_n rfl rfl).trans ?_
  refine (ss_aload_n rfl rfl).trans ?_
  refine (ss_callVI (as := [.ref v1]) rfl t_Po_personAt (by decide) rfl rfl (by decide) (Or.inl rfl) ⟨Nat.le_of_ble_eq_true rfl, Nat.le_of_ble_eq_true rfl⟩).trans ?_
  refine pv_ite ?_ rfl
  refine congrArg (Option.bind _) (funext fun q2 => ?_)
  refine (ss_istore_n rfl rfl).trans ?_
  refine (ss_iload_n rfl rfl).trans ?_
  refine (ss_iconst rfl (v := (-1)) rfl).trans ?_
  refine (ss_icmp_ne rfl).trans ?_
  refine pv_ite ?_ ?_
  · refine (ss_aload_n rfl rfl).trans ?_
    refine (ss_getR rfl).trans ?_
    refine congrArg (Option.bind _) (funext fun x3 => ?_)
    refine (ss_iload_n rfl rfl).trans ?_
    refine (ss_baload rfl).trans ?_
    refine congrArg (Option.bind _) (funext fun x4 => ?_)
    refine (ss_if_eq rfl).trans ?_
    refine pv_ite ?_ ?_
    · refine (ss_aload_n rfl rfl).trans ?_
      refine (ss_callVN (as := []) rfl t_Tp_advance (by decide) rfl rfl (by decide) rfl ⟨Nat.le_of_ble_eq_true rfl, Nat.le_of_ble_eq_true rfl⟩).trans ?_
      refine pv_ite ?_ rfl
      refine congrArg (Option.bind _) (funext fun h5 => ?_)
      refine (ss_aload_n rfl rfl).trans ?_
      refine (ss_iconst rfl (v := 0) rfl).trans ?_
      refine (ss_sipush rfl (v := 719) rfl).trans ?_
      refine (ss_callVI (as := [.int 0, .int 719]) rfl t_Tp_holdsNumber (by decide) rfl rfl (by decide) (Or.inr rfl) ⟨Nat.le_of_ble_eq_true rfl, Nat.le_of_ble_eq_true rfl⟩).trans ?_
      refine pv_ite ?_ rfl
      refine congrArg (Option.bind _) (funext fun q6 => ?_)
      refine (ss_if_ne rfl).trans ?_
      refine pv_ite ?_ ?_
      · refine (ss_aload_n rfl rfl).trans ?_
        refine (ss_getR rfl).trans ?_
        refine congrArg (Option.bind _) (funext fun x7 => ?_)
        refine (ss_getR rfl).trans ?_
        refine congrArg (Option.bind _) (funext fun x8 => ?_)
        refine (ss_iload_n rfl rfl).trans ?_
        refine (ss_aload_n rfl rfl).trans ?_
        refine (ss_getI rfl).trans ?_
        refine congrArg (Option.bind _) (funext fun x9 => ?_)
        refine (ss_iastore rfl).trans ?_
        refine congrArg (Option.bind _) (funext fun h10 => ?_)
        refine (ss_aload_n rfl rfl).trans ?_
        refine (ss_getR rfl).trans ?_
        refine congrArg (Option.bind _) (funext fun x11 => ?_)
        refine (ss_iload_n rfl rfl).trans ?_
        refine (ss_iconst rfl (v := 1) rfl).trans ?_
        refine (ss_bastore rfl).trans ?_
        refine congrArg (Option.bind _) (funext fun h12 => ?_)
        refine (ss_aload_n rfl rfl).trans ?_
        refine (ss_callVN (as := []) rfl t_Tp_advance (by decide) rfl rfl (by decide) rfl ⟨Nat.le_of_ble_eq_true rfl, Nat.le_of_ble_eq_true rfl⟩).trans ?_
        refine pv_ite ?_ rfl
        refine congrArg (Option.bind _) (funext fun h13 => ?_)
        refine (ss_iconst rfl (v := 1) rfl).trans ?_
        exact (ss_zreturn rfl).trans (if_pos (by decide))
      · refine (ss_iconst rfl (v := 0) rfl).trans ?_
        exact (ss_zreturn rfl).trans (if_pos (by decide))
    · refine (ss_aload_n rfl rfl).trans ?_
      refine (ss_iconst rfl (v := 3) rfl).trans ?_
      refine (ss_callVI (as := [.int 3]) rfl t_Tp_refuse (by decide) rfl rfl (by decide) (Or.inr rfl) ⟨Nat.le_of_ble_eq_true rfl, Nat.le_of_ble_eq_true rfl⟩).trans ?_
      refine pv_ite ?_ rfl
      refine congrArg (Option.bind _) (funext fun q14 => ?_)
      exact ss_zreturn rfl
  · refine (ss_iconst rfl (v := 0) rfl).trans ?_
    exact (ss_zreturn rfl).trans (if_pos (by decide))
theorem e_Po_readSets (X : pv_X) (v0 : Nat) (v1 : Nat) (h : pv_H) : pM X m_Po_readSets [.ref v0, .ref v1] h = f_Po_readSets_0 X v0 v1 h := rfl
noncomputable def f_Po_numberOf_0 (X : pv_X) (v0 : Nat) (v1 : Int64) (h : pv_H) : Option pv_O := pS X 1 (some .int) k_Po_numberOf 0 [some (.ref v0), some (.long v1), none, none] [] h
noncomputable def f_Po_numberOf_2 (X : pv_X) (v0 : Nat) (v1 : Int64) (v3 : Int32) (h : pv_H) : Option pv_O := pS X 1 (some .int) k_Po_numberOf 2 [some (.ref v0), some (.long v1), none, some (.int v3)] [] h
set_option maxRecDepth 8000 in
theorem u_Po_numberOf_0 (X : pv_X) (v0 : Nat) (v1 : Int64) (h : pv_H) : f_Po_numberOf_0 X v0 v1 h =
    f_Po_numberOf_2 X v0 v1 0 h := by
  show pS X 1 (some .int) k_Po_numberOf 0 [some (.ref v0), some (.long v1), none, none] [] h = _
  refine (ss_iconst rfl (v := 0) rfl).trans ?_
  refine (ss_istore_n rfl rfl).trans ?_
  rfl
set_option maxRecDepth 8000 in
theorem u_Po_numberOf_2 (X : pv_X) (v0 : Nat) (v1 : Int64) (v3 : Int32) (h : pv_H) : f_Po_numberOf_2 X v0 v1 v3 h =
    (pv_fI h v0 6 6).bind (fun x1 => if x1 ≤ v3 then some (some (.int (-1)), h) else (pv_fR h v0 6 0).bind (fun x2 => (pv_aJ h x2 v3).bind (fun x3 => if ¬ (lg_cmp x3 v1) = 0 then f_Po_numberOf_2 X v0 v1 (v3 + 1) h else some (some (.int v3), h)))) := by
  show pS X 1 (some .int) k_Po_numberOf 2 [some (.ref v0), some (.long v1), none, some (.int v3)] [] h = _
  refine (ss_iload_n rfl rfl).trans ?_
  refine (ss_aload_n rfl rfl).trans ?_
  refine (ss_getI rfl).trans ?_
  refine congrArg (Option.bind _) (funext fun x1 => ?_)
  refine (ss_icmp_ge rfl).trans ?_
  refine pv_ite ?_ ?_
  · refine (ss_iconst rfl (v := (-1)) rfl).trans ?_
    exact ss_ireturn rfl
  · refine (ss_aload_n rfl rfl).trans ?_
    refine (ss_getR rfl).trans ?_
    refine congrArg (Option.bind _) (funext fun x2 => ?_)
    refine (ss_iload_n rfl rfl).trans ?_
    refine (ss_laload rfl).trans ?_
    refine congrArg (Option.bind _) (funext fun x3 => ?_)
    refine (ss_lload_n rfl rfl).trans ?_
    refine (ss_lcmp rfl).trans ?_
    refine (ss_if_ne rfl).trans ?_
    refine pv_ite ?_ ?_
    · refine (ss_iinc3 rfl rfl (v := v3 + 1) (congrArg (HAdd.hAdd _) (show Int32.ofInt (1) = 1 by decide)) rfl).trans ?_
      refine (ss_goto rfl).trans ?_
      rfl
    · refine (ss_iload_n rfl rfl).trans ?_
      exact ss_ireturn rfl
theorem e_Po_numberOf (X : pv_X) (v0 : Nat) (v1 : Int64) (h : pv_H) : pM X m_Po_numberOf [.ref v0, .long v1] h = f_Po_numberOf_0 X v0 v1 h := rfl
noncomputable def f_Po_personAt_0 (X : pv_X) (v0 : Nat) (v1 : Nat) (h : pv_H) : Option pv_O := pS X 16 (some .int) k_Po_personAt 0 [some (.ref v0), some (.ref v1), none] [] h
noncomputable def f_Po_personAt_35 (X : pv_X) (v0 : Nat) (v1 : Nat) (v2 : Int32) (h : pv_H) : Option pv_O := pS X 16 (some .int) k_Po_personAt 35 [some (.ref v0), some (.ref v1), some (.int v2)] [] h
set_option maxRecDepth 8000 in
theorem u_Po_personAt_0 (X : pv_X) (v0 : Nat) (v1 : Nat) (h : pv_H) : f_Po_personAt_0 X v0 v1 h =
    if pv_rc h v1 9 = true then (pv_tI (pM X m_Tp_isName [.ref v1] h)).bind (fun q1 => if ¬ q1.1 = 0 then (pv_fJ q1.2 v1 9 2).bind (fun x2 => if pv_rc q1.2 v0 6 = true then (pv_tI (pM X m_Po_numberOf [.ref v0, .long x2] q1.2)).bind (fun q3 => if ¬ q3.1 = (-1) then f_Po_personAt_35 X v0 v1 q3.1 q3.2 else if pv_rc q3.2 v1 9 = true then (pv_tI (pM X m_Tp_refuse [.ref v1, .int 2] q3.2)).bind (fun q4 => f_Po_personAt_35 X v0 v1 q3.1 q4.2) else none) else none) else if pv_rc q1.2 v1 9 = true then (pv_tI (pM X m_Tp_refuse [.ref v1, .int 1] q1.2)).bind (fun q5 => some (some (.int (-1)), q5.2)) else none) else none := by
  show pS X 16 (some .int) k_Po_personAt 0 [some (.ref v0), some (.ref v1), none] [] h = _
  refine (ss_aload_n rfl rfl).trans ?_
  refine (ss_callVI (as := []) rfl t_Tp_isName (by decide) rfl rfl (by decide) (Or.inr rfl) ⟨Nat.le_of_ble_eq_true rfl, Nat.le_of_ble_eq_true rfl⟩).trans ?_
  refine pv_ite ?_ rfl
  refine congrArg (Option.bind _) (funext fun q1 => ?_)
  refine (ss_if_ne rfl).trans ?_
  refine pv_ite ?_ ?_
  · refine (ss_aload_n rfl rfl).trans ?_
    refine (ss_aload_n rfl rfl).trans ?_
    refine (ss_getJ rfl).trans ?_
    refine congrArg (Option.bind _) (funext fun x2 => ?_)
    refine (ss_callVI (as := [.long x2]) rfl t_Po_numberOf (by decide) rfl rfl (by decide) (Or.inl rfl) ⟨Nat.le_of_ble_eq_true rfl, Nat.le_of_ble_eq_true rfl⟩).trans ?_
    refine pv_ite ?_ rfl
    refine congrArg (Option.bind _) (funext fun q3 => ?_)
    refine (ss_istore_n rfl rfl).trans ?_
    refine (ss_iload_n rfl rfl).trans ?_
    refine (ss_iconst rfl (v := (-1)) rfl).trans ?_
    refine (ss_icmp_ne rfl).trans ?_
    refine pv_ite ?_ ?_
    · rfl
    · refine (ss_aload_n rfl rfl).trans ?_
      refine (ss_iconst rfl (v := 2) rfl).trans ?_
      refine (ss_callVI (as := [.int 2]) rfl t_Tp_refuse (by decide) rfl rfl (by decide) (Or.inr rfl) ⟨Nat.le_of_ble_eq_true rfl, Nat.le_of_ble_eq_true rfl⟩).trans ?_
      refine pv_ite ?_ rfl
      refine congrArg (Option.bind _) (funext fun q4 => ?_)
      refine (ss_popI rfl).trans ?_
      rfl
  · refine (ss_aload_n rfl rfl).trans ?_
    refine (ss_iconst rfl (v := 1) rfl).trans ?_
    refine (ss_callVI (as := [.int 1]) rfl t_Tp_refuse (by decide) rfl rfl (by decide) (Or.inr rfl) ⟨Nat.le_of_ble_eq_true rfl, Nat.le_of_ble_eq_true rfl⟩).trans ?_
    refine pv_ite ?_ rfl
    refine congrArg (Option.bind _) (funext fun q5 => ?_)
    refine (ss_popI rfl).trans ?_
    refine (ss_iconst rfl (v := (-1)) rfl).trans ?_
    exact ss_ireturn rfl
set_option maxRecDepth 8000 in
theorem u_Po_personAt_35 (X : pv_X) (v0 : Nat) (v1 : Nat) (v2 : Int32) (h : pv_H) : f_Po_personAt_35 X v0 v1 v2 h =
    some (some (.int v2), h) := by
  show pS X 16 (some .int) k_Po_personAt 35 [some (.ref v0), some (.ref v1), some (.int v2)] [] h = _
  refine (ss_iload_n rfl rfl).trans ?_
  exact ss_ireturn rfl
theorem e_Po_personAt (X : pv_X) (v0 : Nat) (v1 : Nat) (h : pv_H) : pM X m_Po_personAt [.ref v0, .ref v1] h = f_Po_personAt_0 X v0 v1 h := rfl
noncomputable def f_Po_passQuarter_0 (X : pv_X) (v0 : Nat) (v1 : Nat) (h : pv_H) : Option pv_O := pS X 4 (some .int) k_Po_passQuarter 0 [some (.ref v0), some (.ref v1), none, none, none] [] h
noncomputable def f_Po_passQuarter_4 (X : pv_X) (v0 : Nat) (v1 : Nat) (v2 : Int32) (v3 : Int32) (o4 : Option Value) (h : pv_H) : Option pv_O := pS X 4 (some .int) k_Po_passQuarter 4 [some (.ref v0), some (.ref v1), some (.int v2), some (.int v3), o4] [] h
noncomputable def f_Po_passQuarter_59 (X : pv_X) (v0 : Nat) (v1 : Nat) (v2 : Int32) (v3 : Int32) (v4 : Int32) (h : pv_H) : Option pv_O := pS X 4 (some .int) k_Po_passQuarter 59 [some (.ref v0), some (.ref v1), some (.int v2), some (.int v3), some (.int v4)] [] h
noncomputable def f_Po_passQuarter_97 (X : pv_X) (v0 : Nat) (v1 : Nat) (v2 : Int32) (v3 : Int32) (o4 : Option Value) (h : pv_H) : Option pv_O := pS X 4 (some .int) k_Po_passQuarter 97 [some (.ref v0), some (.ref v1), some (.int v2), some (.int v3), o4] [] h
noncomputable def f_Po_passQuarter_112 (X : pv_X) (v0 : Nat) (v1 : Nat) (v2 : Int32) (v3 : Int32) (o4 : Option Value) (h : pv_H) : Option pv_O := pS X 4 (some .int) k_Po_passQuarter 112 [some (.ref v0), some (.ref v1), some (.int v2), some (.int v3), o4] [] h
set_option maxRecDepth 8000 in
theorem u_Po_passQuarter_0 (X : pv_X) (v0 : Nat) (v1 : Nat) (h : pv_H) : f_Po_passQuarter_0 X v0 v1 h =
    f_Po_passQuarter_4 X v0 v1 0 0 none h := by
  show pS X 4 (some .int) k_Po_passQuarter 0 [some (.ref v0), some (.ref v1), none, none, none] [] h = _
  refine (ss_iconst rfl (v := 0) rfl).trans ?_
  refine (ss_istore_n rfl rfl).trans ?_
  refine (ss_iconst rfl (v := 0) rfl).trans ?_
  refine (ss_istore_n rfl rfl).trans ?_
  rfl
set_option maxRecDepth 8000 in
theorem u_Po_passQuarter_4 (X : pv_X) (v0 : Nat) (v1 : Nat) (v2 : Int32) (v3 : Int32) (o4 : Option Value) (h : pv_H) : f_Po_passQuarter_4 X v0 v1 v2 v3 o4 h =
    (pv_fI h v0 6 6).bind (fun x1 => if x1 ≤ v3 then (pv_fI h v1 7 3).bind (fun x2 => (pv_fp h v1 7 3 (.int (x2 + 1))).bind (fun h3 => (pv_fI h3 v1 7 3).bind (fun x4 => if ¬ (x4 - x4 / 4 * 4) = 0 then f_Po_passQuarter_97 X v0 v1 v2 v3 o4 h3 else if pv_rc h3 v0 6 = true then (pv_tV (pM X m_Po_askOnTheHour [.ref v0, .ref v1] h3)).bind (fun h5 => f_Po_passQuarter_97 X v0 v1 v2 v3 o4 h5) else none))) else (pv_fR h v1 7 0).bind (fun x6 => (pv_aX X h x6 v3).bind (fun x7 => (pv_fR h v1 7 1).bind (fun x8 => (pv_aX X h x8 v3).bind (fun x9 => (pv_fR h v0 6 3).bind (fun x10 => (pv_aX X h x10 v3).bind (fun x11 => (pv_tI (pM X m_Po_stepMore [.int x11] h)).bind (fun q12 => if ((x7 + (x9 / 4)) + q12.1) < 720 then f_Po_passQuarter_59 X v0 v1 v2 v3 ((x7 + (x9 / 4)) + q12.1) q12.2 else f_Po_passQuarter_59 X v0 v1 (v2 ||| ((1 : Int32) <<< (v3 &&& 31))) v3 (((x7 + (x9 / 4)) + q12.1) + (-720)) q12.2)))))))) := by
  show pS X 4 (some .int) k_Po_passQuarter 4 [some (.ref v0), some (.ref v1), some (.int v2), some (.int v3), o4] [] h = _
  refine (ss_iload_n rfl rfl).trans ?_
  refine (ss_aload_n rfl rfl).trans ?_
  refine (ss_getI rfl).trans ?_
  refine congrArg (Option.bind _) (funext fun x1 => ?_)
  refine (ss_icmp_ge rfl).trans ?_
  refine pv_ite ?_ ?_
  · refine (ss_aload_n rfl rfl).trans ?_
    refine (ss_dupR rfl).trans ?_
    refine (ss_getI rfl).trans ?_
    refine congrArg (Option.bind _) (funext fun x2 => ?_)
    refine (ss_iconst rfl (v := 1) rfl).trans ?_
    refine (ss_iadd rfl).trans ?_
    refine (ss_putI rfl).trans ?_
    refine congrArg (Option.bind _) (funext fun h3 => ?_)
    refine (ss_aload_n rfl rfl).trans ?_
    refine (ss_getI rfl).trans ?_
    refine congrArg (Option.bind _) (funext fun x4 => ?_)
    refine (ss_iconst rfl (v := 4) rfl).trans ?_
    refine (ss_irem rfl (by decide)).trans ?_
    refine (ss_if_ne rfl).trans ?_
    refine pv_ite ?_ ?_
    · rfl
    · refine (ss_aload_n rfl rfl).trans ?_
      refine (ss_aload_n rfl rfl).trans ?_
      refine (ss_callVN (as := [.ref v1]) rfl t_Po_askOnTheHour (by decide) rfl rfl (by decide) rfl ⟨Nat.le_of_ble_eq_true rfl, Nat.le_of_ble_eq_true rfl⟩).trans ?_
      refine pv_ite ?_ rfl
      refine congrArg (Option.bind _) (funext fun h5 => ?_)
      rfl
  · refine (ss_aload_n rfl rfl).trans ?_
    refine (ss_getR rfl).trans ?_
    refine congrArg (Option.bind _) (funext fun x6 => ?_)
    refine (ss_iload_n rfl rfl).trans ?_
    refine (ss_iaload rfl).trans ?_
    refine congrArg (Option.bind _) (funext fun x7 => ?_)
    refine (ss_aload_n rfl rfl).trans ?_
    refine (ss_getR rfl).trans ?_
    refine congrArg (Option.bind _) (funext fun x8 => ?_)
    refine (ss_iload_n rfl rfl).trans ?_
    refine (ss_iaload rfl).trans ?_
    refine congrArg (Option.bind _) (funext fun x9 => ?_)
    refine (ss_iconst rfl (v := 4) rfl).trans ?_
    refine (ss_idiv rfl (by decide)).trans ?_
    refine (ss_iadd rfl).trans ?_
    refine (ss_aload_n rfl rfl).trans ?_
    refine (ss_getR rfl).trans ?_
    refine congrArg (Option.bind _) (funext fun x10 => ?_)
    refine (ss_iload_n rfl rfl).trans ?_
    refine (ss_iaload rfl).trans ?_
    refine congrArg (Option.bind _) (funext fun x11 => ?_)
    refine (ss_callSI (as := [.int x11]) rfl t_Po_stepMore (by decide) rfl rfl (by simp [Value.category]) (Or.inl rfl) ⟨Nat.le_of_ble_eq_true rfl, Nat.le_of_ble_eq_true rfl⟩).trans ?_
    refine congrArg (Option.bind _) (funext fun q12 => ?_)
    refine (ss_iadd rfl).trans ?_
    refine (ss_istore rfl rfl).trans ?_
    refine (ss_iload rfl rfl).trans ?_
    refine (ss_sipush rfl (v := 720) rfl).trans ?_
    refine (ss_icmp_lt rfl).trans ?_
    refine pv_ite ?_ ?_
    · rfl
    · refine (ss_iinc6 rfl rfl (v := ((x7 + (x9 / 4)) + q12.1) + (-720)) (congrArg (HAdd.hAdd _) (show Int32.ofInt (-720) = (-720) by decide)) rfl).trans ?_
      refine (ss_iload_n rfl rfl).trans ?_
      refine (ss_iconst rfl (v := 1) rfl).trans ?_
      refine (ss_iload_n rfl rfl).trans ?_
      refine (ss_ishl rfl).trans ?_
      refine (ss_ior rfl).trans ?_
      refine (ss_istore_n rfl rfl).trans ?_
      rfl
set_option maxRecDepth 8000 in
theorem u_Po_passQuarter_59 (X : pv_X) (v0 : Nat) (v1 : Nat) (v2 : Int32) (v3 : Int32) (v4 : Int32) (h : pv_H) : f_Po_passQuarter_59 X v0 v1 v2 v3 v4 h =
    (pv_fR h v1 7 0).bind (fun x1 => (pv_sI h x1 v3 v4).bind (fun h2 => f_Po_passQuarter_4 X v0 v1 v2 (v3 + 1) (some (.int v4)) h2)) := by
  show pS X 4 (some .int) k_Po_passQuarter 59 [some (.ref v0), some (.ref v1), some (.int v2), some (.int v3), some (.int v4)] [] h = _
  refine (ss_aload_n rfl rfl).trans ?_
  refine (ss_getR rfl).trans ?_
  refine congrArg (Option.bind _) (funext fun x1 => ?_)
  refine (ss_iload_n rfl rfl).trans ?_
  refine (ss_iload rfl rfl).trans ?_
  refine (ss_iastore rfl).trans ?_
  refine congrArg (Option.bind _) (funext fun h2 => ?_)
  refine (ss_iinc3 rfl rfl (v := v3 + 1) (congrArg (HAdd.hAdd _) (show Int32.ofInt (1) = 1 by decide)) rfl).trans ?_
  refine (ss_goto rfl).trans ?_
  rfl
set_option maxRecDepth 8000 in
theorem u_Po_passQuarter_97 (X : pv_X) (v0 : Nat) (v1 : Nat) (v2 : Int32) (v3 : Int32) (o4 : Option Value) (h : pv_H) : f_Po_passQuarter_97 X v0 v1 v2 v3 o4 h =
    (pv_fR h v0 6 2).bind (fun x1 => (pv_fI h x1 5 3).bind (fun x2 => if x2 = 0 then f_Po_passQuarter_112 X v0 v1 v2 v3 o4 h else if pv_rc h v0 6 = true then (pv_tV (pM X m_Po_changeMoods [.ref v0, .ref v1] h)).bind (fun h3 => f_Po_passQuarter_112 X v0 v1 v2 v3 o4 h3) else none)) := by
  show pS X 4 (some .int) k_Po_passQuarter 97 [some (.ref v0), some (.ref v1), some (.int v2), some (.int v3), o4] [] h = _
  refine (ss_aload_n rfl rfl).trans ?_
  refine (ss_getR rfl).trans ?_
  refine congrArg (Option.bind _) (funext fun x1 => ?_)
  refine (ss_getZ rfl).trans ?_
  refine congrArg (Option.bind _) (funext fun x2 => ?_)
  refine (ss_if_eq rfl).trans ?_
  refine pv_ite ?_ ?_
  · rfl
  · refine (ss_aload_n rfl rfl).trans ?_
    refine (ss_aload_n rfl rfl).trans ?_
    refine (ss_callVN (as := [.ref v1]) rfl t_Po_changeMoods (by decide) rfl rfl (by decide) rfl ⟨Nat.le_of_ble_eq_true rfl, Nat.le_of_ble_eq_true rfl⟩).trans ?_
    refine pv_ite ?_ rfl
    refine congrArg (Option.bind _) (funext fun h3 => ?_)
    rfl
set_option maxRecDepth 8000 in
theorem u_Po_passQuarter_112 (X : pv_X) (v0 : Nat) (v1 : Nat) (v2 : Int32) (v3 : Int32) (o4 : Option Value) (h : pv_H) : f_Po_passQuarter_112 X v0 v1 v2 v3 o4 h =
    some (some (.int v2), h) := by
  show pS X 4 (some .int) k_Po_passQuarter 112 [some (.ref v0), some (.ref v1), some (.int v2), some (.int v3), o4] [] h = _
  refine (ss_iload_n rfl rfl).trans ?_
  exact ss_ireturn rfl
theorem e_Po_passQuarter (X : pv_X) (v0 : Nat) (v1 : Nat) (h : pv_H) : pM X m_Po_passQuarter [.ref v0, .ref v1] h = f_Po_passQuarter_0 X v0 v1 h := rfl
noncomputable def f_Po_stepMore_0 (X : pv_X) (v0 : Int32) (h : pv_H) : Option pv_O := pS X 1 (some .int) k_Po_stepMore 0 [some (.int v0)] [] h
noncomputable def f_Po_stepMore_18 (X : pv_X) (v0 : Int32) (s0 : Int32) (h : pv_H) : Option pv_O := pS X 1 (some .int) k_Po_stepMore 18 [some (.int v0)] [.int s0] h
set_option maxRecDepth 8000 in
theorem u_Po_stepMore_0 (X : pv_X) (v0 : Int32) (h : pv_H) : f_Po_stepMore_0 X v0 h =
    if ¬ v0 = 1 then if ¬ v0 = 2 then f_Po_stepMore_18 X v0 0 h else f_Po_stepMore_18 X v0 (-2) h else some (some (.int 2), h) := by
  show pS X 1 (some .int) k_Po_stepMore 0 [some (.int v0)] [] h = _
  refine (ss_iload_n rfl rfl).trans ?_
  refine (ss_iconst rfl (v := 1) rfl).trans ?_
  refine (ss_icmp_ne rfl).trans ?_
  refine pv_ite ?_ ?_
  · refine (ss_iload_n rfl rfl).trans ?_
    refine (ss_iconst rfl (v := 2) rfl).trans ?_
    refine (ss_icmp_ne rfl).trans ?_
    refine pv_ite ?_ ?_
    · refine (ss_iconst rfl (v := 0) rfl).trans ?_
      rfl
    · refine (ss_bipush rfl (v := (-2)) rfl).trans ?_
      refine (ss_goto rfl).trans ?_
      rfl
  · refine (ss_iconst rfl (v := 2) rfl).trans ?_
    exact ss_ireturn rfl
set_option maxRecDepth 8000 in
theorem u_Po_stepMore_18 (X : pv_X) (v0 : Int32) (s0 : Int32) (h : pv_H) : f_Po_stepMore_18 X v0 s0 h =
    some (some (.int s0), h) := by
  show pS X 1 (some .int) k_Po_stepMore 18 [some (.int v0)] [.int s0] h = _
  exact ss_ireturn rfl
theorem e_Po_stepMore (X : pv_X) (v0 : Int32) (h : pv_H) : pM X m_Po_stepMore [.int v0] h = f_Po_stepMore_0 X v0 h := rfl
noncomputable def f_Po_askOnTheHour_0 (X : pv_X) (v0 : Nat) (v1 : Nat) (h : pv_H) : Option pv_O := pS X 2 (none) k_Po_askOnTheHour 0 [some (.ref v0), some (.ref v1), none] [] h
noncomputable def f_Po_askOnTheHour_2 (X : pv_X) (v0 : Nat) (v1 : Nat) (v2 : Int32) (h : pv_H) : Option pv_O := pS X 2 (none) k_Po_askOnTheHour 2 [some (.ref v0), some (.ref v1), some (.int v2)] [] h
noncomputable def f_Po_askOnTheHour_31 (X : pv_X) (v0 : Nat) (v1 : Nat) (v2 : Int32) (h : pv_H) : Option pv_O := pS X 2 (none) k_Po_askOnTheHour 31 [some (.ref v0), some (.ref v1), some (.int v2)] [] h
set_option maxRecDepth 8000 in
theorem u_Po_askOnTheHour_0 (X : pv_X) (v0 : Nat) (v1 : Nat) (h : pv_H) : f_Po_askOnTheHour_0 X v0 v1 h =
    f_Po_askOnTheHour_2 X v0 v1 0 h := by
  show pS X 2 (none) k_Po_askOnTheHour 0 [some (.ref v0), some (.ref v1), none] [] h = _
  refine (ss_iconst rfl (v := 0) rfl).trans ?_
  refine (ss_istore_n rfl rfl).trans ?_
  rfl
set_option maxRecDepth 8000 in
theorem u_Po_askOnTheHour_2 (X : pv_X) (v0 : Nat) (v1 : Nat) (v2 : Int32) (h : pv_H) : f_Po_askOnTheHour_2 X v0 v1 v2 h =
    (pv_fI h v0 6 6).bind (fun x1 => if x1 ≤ v2 then some (none, h) else (pv_fR h v0 6 4).bind (fun x2 => (pv_aX X h x2 v2).bind (fun x3 => if x3 = (-1) then f_Po_askOnTheHour_31 X v0 v1 v2 h else (pv_fR h v0 6 4).bind (fun x4 => (pv_aX X h x4 v2).bind (fun x5 => if pv_rc h v1 7 = true then (pv_tV (pM X m_St_takeTime [.ref v1, .int v2, .int x5] h)).bind (fun h6 => f_Po_askOnTheHour_31 X v0 v1 v2 h6) else none))))) := by
  show pS X 2 (none) k_Po_askOnTheHour 2 [some (.ref v0), some (.ref v1), some (.int v2)] [] h = _
  refine (ss_iload_n rfl rfl).trans ?_
  refine (ss_aload_n rfl rfl).trans ?_
  refine (ss_getI rfl).trans ?_
  refine congrArg (Option.bind _) (funext fun x1 => ?_)
  refine (ss_icmp_ge rfl).trans ?_
  refine pv_ite ?_ ?_
  · exact ss_return rfl
  · refine (ss_aload_n rfl rfl).trans ?_
    refine (ss_getR rfl).trans ?_
    refine congrArg (Option.bind _) (funext fun x2 => ?_)
    refine (ss_iload_n rfl rfl).trans ?_
    refine (ss_iaload rfl).trans ?_
    refine congrArg (Option.bind _) (funext fun x3 => ?_)
    refine (ss_iconst rfl (v := (-1)) rfl).trans ?_
    refine (ss_icmp_eq rfl).trans ?_
    refine pv_ite ?_ ?_
    · rfl
    · refine (ss_aload_n rfl rfl).trans ?_
      refine (ss_iload_n rfl rfl).trans ?_
      refine (ss_aload_n rfl rfl).trans ?_
      refine (ss_getR rfl).trans ?_
      refine congrArg (Option.bind _) (funext fun x4 => ?_)
      refine (ss_iload_n rfl rfl).trans ?_
      refine (ss_iaload rfl).trans ?_
      refine congrArg (Option.bind _) (funext fun x5 => ?_)
      refine (ss_callVN (as := [.int v2, .int x5]) rfl t_St_takeTime (by decide) rfl rfl (by decide) rfl ⟨Nat.le_of_ble_eq_true rfl, Nat.le_of_ble_eq_true rfl⟩).trans ?_
      refine pv_ite ?_ rfl
      refine congrArg (Option.bind _) (funext fun h6 => ?_)
      rfl
set_option maxRecDepth 8000 in
theorem u_Po_askOnTheHour_31 (X : pv_X) (v0 : Nat) (v1 : Nat) (v2 : Int32) (h : pv_H) : f_Po_askOnTheHour_31 X v0 v1 v2 h =
    f_Po_askOnTheHour_2 X v0 v1 (v2 + 1) h := by
  show pS X 2 (none) k_Po_askOnTheHour 31 [some (.ref v0), some (.ref v1), some (.int v2)] [] h = _
  refine (ss_iinc3 rfl rfl (v := v2 + 1) (congrArg (HAdd.hAdd _) (show Int32.ofInt (1) = 1 by decide)) rfl).trans ?_
  refine (ss_goto rfl).trans ?_
  rfl
theorem e_Po_askOnTheHour (X : pv_X) (v0 : Nat) (v1 : Nat) (h : pv_H) : pM X m_Po_askOnTheHour [.ref v0, .ref v1] h = f_Po_askOnTheHour_0 X v0 v1 h := rfl
noncomputable def f_Po_changeMoods_0 (X : pv_X) (v0 : Nat) (v1 : Nat) (h : pv_H) : Option pv_O := pS X 3 (none) k_Po_changeMoods 0 [some (.ref v0), some (.ref v1), none, none, none] [] h
noncomputable def f_Po_changeMoods_10 (X : pv_X) (v0 : Nat) (v1 : Nat) (v2 : Int32) (v3 : Int32) (o4 : Option Value) (h : pv_H) : Option pv_O := pS X 3 (none) k_Po_changeMoods 10 [some (.ref v0), some (.ref v1), some (.int v2), some (.int v3), o4] [] h
noncomputable def f_Po_changeMoods_72 (X : pv_X) (v0 : Nat) (v1 : Nat) (v2 : Int32) (v3 : Int32) (o4 : Option Value) (h : pv_H) : Option pv_O := pS X 3 (none) k_Po_changeMoods 72 [some (.ref v0), some (.ref v1), some (.int v2), some (.int v3), o4] [] h
set_option maxRecDepth 8000 in
theorem u_Po_changeMoods_0 (X : pv_X) (v0 : Nat) (v1 : Nat) (h : pv_H) : f_Po_changeMoods_0 X v0 v1 h =
    if pv_rc h v1 7 = true then (pv_tI (pM X m_St_trueTime [.ref v1] h)).bind (fun q1 => f_Po_changeMoods_10 X v0 v1 (q1.1 / 60) 0 none q1.2) else none := by
  show pS X 3 (none) k_Po_changeMoods 0 [some (.ref v0), some (.ref v1), none, none, none] [] h = _
  refine (ss_aload_n rfl rfl).trans ?_
  refine (ss_callVI (as := []) rfl t_St_trueTime (by decide) rfl rfl (by decide) (Or.inl rfl) ⟨Nat.le_of_ble_eq_true rfl, Nat.le_of_ble_eq_true rfl⟩).trans ?_
  refine pv_ite ?_ rfl
  refine congrArg (Option.bind _) (funext fun q1 => ?_)
  refine (ss_bipush rfl (v := 60) rfl).trans ?_
  refine (ss_idiv rfl (by decide)).trans ?_
  refine (ss_istore_n rfl rfl).trans ?_
  refine (ss_iconst rfl (v := 0) rfl).trans ?_
  refine (ss_istore_n rfl rfl).trans ?_
  rfl
set_option maxRecDepth 8000 in
theorem u_Po_changeMoods_10 (X : pv_X) (v0 : Nat) (v1 : Nat) (v2 : Int32) (v3 : Int32) (o4 : Option Value) (h : pv_H) : f_Po_changeMoods_10 X v0 v1 v2 v3 o4 h =
    (pv_fI h v0 6 6).bind (fun x1 => if x1 ≤ v3 then some (none, h) else (pv_fR h v0 6 3).bind (fun x2 => (pv_aX X h x2 v3).bind (fun x3 => if x3 = 3 then f_Po_changeMoods_72 X v0 v1 v2 v3 o4 h else (pv_fR h v0 6 2).bind (fun x4 => (pv_fR h v1 7 1).bind (fun x5 => (pv_aX X h x5 v3).bind (fun x6 => if pv_rc h v1 7 = true then (pv_tI (pM X m_St_outOf [.ref v1, .int v3] h)).bind (fun q7 => (pv_fR q7.2 v1 7 2).bind (fun x8 => (pv_aX X q7.2 x8 v3).bind (fun x9 => if pv_rc q7.2 x4 5 = true then (pv_tI (pM X m_Mo_value [.ref x4, .int x6, .int q7.1, .int x9, .int v2] q7.2)).bind (fun q10 => (pv_tI (pM X m_Ma_min [.int 20, .int q10.1] q10.2)).bind (fun q11 => (pv_tI (pM X m_Ma_max [.int (-20), .int q11.1] q11.2)).bind (fun q12 => if pv_rc q12.2 v1 7 = true then (pv_tV (pM X m_St_moveBeats [.ref v1, .int v3, .int q12.1] q12.2)).bind (fun h13 => f_Po_changeMoods_72 X v0 v1 v2 v3 (some (.int q10.1)) h13) else none))) else none))) else none)))))) := by
  show pS X 3 (none) k_Po_changeMoods 10 [some (.ref v0), some (.ref v1), some (.int v2), some (.int v3), o4] [] h = _
  refine (ss_iload_n rfl rfl).trans ?_
  refine (ss_aload_n rfl rfl).trans ?_
  refine (ss_getI rfl).trans ?_
  refine congrArg (Option.bind _) (funext fun x1 => ?_)
  refine (ss_icmp_ge rfl).trans ?_
  refine pv_ite ?_ ?_
  · exact ss_return rfl
  · refine (ss_aload_n rfl rfl).trans ?_
    refine (ss_getR rfl).trans ?_
    refine congrArg (Option.bind _) (funext fun x2 => ?_)
    refine (ss_iload_n rfl rfl).trans ?_
    refine (ss_iaload rfl).trans ?_
    refine congrArg (Option.bind _) (funext fun x3 => ?_)
    refine (ss_iconst rfl (v := 3) rfl).trans ?_
    refine (ss_icmp_eq rfl).trans ?_
    refine pv_ite ?_ ?_
    · rfl
    · refine (ss_aload_n rfl rfl).trans ?_
      refine (ss_getR rfl).trans ?_
      refine congrArg (Option.bind _) (funext fun x4 => ?_)
      refine (ss_aload_n rfl rfl).trans ?_
      refine (ss_getR rfl).trans ?_
      refine congrArg (Option.bind _) (funext fun x5 => ?_)
      refine (ss_iload_n rfl rfl).trans ?_
      refine (ss_iaload rfl).trans ?_
      refine congrArg (Option.bind _) (funext fun x6 => ?_)
      refine (ss_aload_n rfl rfl).trans ?_
      refine (ss_iload_n rfl rfl).trans ?_
      refine (ss_callVI (as := [.int v3]) rfl t_St_outOf (by decide) rfl rfl (by simp [Value.category]) (Or.inl rfl) ⟨Nat.le_of_ble_eq_true rfl, Nat.le_of_ble_eq_true rfl⟩).trans ?_
      refine pv_ite ?_ rfl
      refine congrArg (Option.bind _) (funext fun q7 => ?_)
      refine (ss_aload_n rfl rfl).trans ?_
      refine (ss_getR rfl).trans ?_
      refine congrArg (Option.bind _) (funext fun x8 => ?_)
      refine (ss_iload_n rfl rfl).trans ?_
      refine (ss_iaload rfl).trans ?_
      refine congrArg (Option.bind _) (funext fun x9 => ?_)
      refine (ss_iload_n rfl rfl).trans ?_
      refine (ss_callVI (as := [.int x6, .int q7.1, .int x9, .int v2]) rfl t_Mo_value (by decide) rfl rfl (by decide) (Or.inl rfl) ⟨Nat.le_of_ble_eq_true rfl, Nat.le_of_ble_eq_true rfl⟩).trans ?_
      refine pv_ite ?_ rfl
      refine congrArg (Option.bind _) (funext fun q10 => ?_)
      refine (ss_istore rfl rfl).trans ?_
      refine (ss_aload_n rfl rfl).trans ?_
      refine (ss_iload_n rfl rfl).trans ?_
      refine (ss_bipush rfl (v := (-20)) rfl).trans ?_
      refine (ss_bipush rfl (v := 20) rfl).trans ?_
      refine (ss_iload rfl rfl).trans ?_
      refine (ss_callSI (as := [.int 20, .int q10.1]) rfl t_Ma_min (by decide) rfl rfl (by simp [Value.category]) (Or.inl rfl) ⟨Nat.le_of_ble_eq_true rfl, Nat.le_of_ble_eq_true rfl⟩).trans ?_
      refine congrArg (Option.bind _) (funext fun q11 => ?_)
      refine (ss_callSI (as := [.int (-20), .int q11.1]) rfl t_Ma_max (by decide) rfl rfl (by simp [Value.category]) (Or.inl rfl) ⟨Nat.le_of_ble_eq_true rfl, Nat.le_of_ble_eq_true rfl⟩).trans ?_
      refine congrArg (Option.bind _) (funext fun q12 => ?_)
      refine (ss_callVN (as := [.int v3, .int q12.1]) rfl t_St_moveBeats (by decide) rfl rfl (by decide) rfl ⟨Nat.le_of_ble_eq_true rfl, Nat.le_of_ble_eq_true rfl⟩).trans ?_
      refine pv_ite ?_ rfl
      refine congrArg (Option.bind _) (funext fun h13 => ?_)
      rfl
set_option maxRecDepth 8000 in
theorem u_Po_changeMoods_72 (X : pv_X) (v0 : Nat) (v1 : Nat) (v2 : Int32) (v3 : Int32) (o4 : Option Value) (h : pv_H) : f_Po_changeMoods_72 X v0 v1 v2 v3 o4 h =
    f_Po_changeMoods_10 X v0 v1 v2 (v3 + 1) o4 h := by
  show pS X 3 (none) k_Po_changeMoods 72 [some (.ref v0), some (.ref v1), some (.int v2), some (.int v3), o4] [] h = _
  refine (ss_iinc3 rfl rfl (v := v3 + 1) (congrArg (HAdd.hAdd _) (show Int32.ofInt (1) = 1 by decide)) rfl).trans ?_
  refine (ss_goto rfl).trans ?_
  rfl
theorem e_Po_changeMoods (X : pv_X) (v0 : Nat) (v1 : Nat) (h : pv_H) : pM X m_Po_changeMoods [.ref v0, .ref v1] h = f_Po_changeMoods_0 X v0 v1 h := rfl
noncomputable def f_Po_asksThrough_0 (X : pv_X) (v0 : Nat) (v1 : Int32) (v2 : Int32) (h : pv_H) : Option pv_O := pS X 1 (some .boolean) k_Po_asksThrough 0 [some (.ref v0), some (.int v1), some (.int v2), none, none] [] h
noncomputable def f_Po_asksThrough_5 (X : pv_X) (v0 : Nat) (v1 : Int32) (v2 : Int32) (v3 : Int32) (v4 : Int32) (h : pv_H) : Option pv_O := pS X 1 (some .boolean) k_Po_asksThrough 5 [some (.ref v0), some (.int v1), some (.int v2), some (.int v3), some (.int v4)] [] h
set_option maxRecDepth 8000 in
theorem u_Po_asksThrough_0 (X : pv_X) (v0 : Nat) (v1 : Int32) (v2 : Int32) (h : pv_H) : f_Po_asksThrough_0 X v0 v1 v2 h =
    f_Po_asksThrough_5 X v0 v1 v2 v1 0 h := by
  show pS X 1 (some .boolean) k_Po_asksThrough 0 [some (.ref v0), some (.int v1), some (.int v2), none, none] [] h = _
  refine (ss_iload_n rfl rfl).trans ?_
  refine (ss_istore_n rfl rfl).trans ?_
  refine (ss_iconst rfl (v := 0) rfl).trans ?_
  refine (ss_istore rfl rfl).trans ?_
  rfl
set_option maxRecDepth 8000 in
theorem u_Po_asksThrough_5 (X : pv_X) (v0 : Nat) (v1 : Int32) (v2 : Int32) (v3 : Int32) (v4 : Int32) (h : pv_H) : f_Po_asksThrough_5 X v0 v1 v2 v3 v4 h =
    (pv_fI h v0 6 6).bind (fun x1 => if x1 ≤ v4 then some (some (.int 0), h) else (pv_fR h v0 6 4).bind (fun x2 => (pv_aX X h x2 v3).bind (fun x3 => if ¬ x3 = v2 then if ¬ x3 = (-1) then f_Po_asksThrough_5 X v0 v1 v2 x3 (v4 + 1) h else some (some (.int 0), h) else some (some (.int 1), h)))) := by
  show pS X 1 (some .boolean) k_Po_asksThrough 5 [some (.ref v0), some (.int v1), some (.int v2), some (.int v3), some (.int v4)] [] h = _
  refine (ss_iload rfl rfl).trans ?_
  refine (ss_aload_n rfl rfl).trans ?_
  refine (ss_getI rfl).trans ?_
  refine congrArg (Option.bind _) (funext fun x1 => ?_)
  refine (ss_icmp_ge rfl).trans ?_
  refine pv_ite ?_ ?_
  · refine (ss_iconst rfl (v := 0) rfl).trans ?_
    exact (ss_zreturn rfl).trans (if_pos (by decide))
  · refine (ss_aload_n rfl rfl).trans ?_
    refine (ss_getR rfl).trans ?_
    refine congrArg (Option.bind _) (funext fun x2 => ?_)
    refine (ss_iload_n rfl rfl).trans ?_
    refine (ss_iaload rfl).trans ?_
    refine congrArg (Option.bind _) (funext fun x3 => ?_)
    refine (ss_istore_n rfl rfl).trans ?_
    refine (ss_iload_n rfl rfl).trans ?_
    refine (ss_iload_n rfl rfl).trans ?_
    refine (ss_icmp_ne rfl).trans ?_
    refine pv_ite ?_ ?_
    · refine (ss_iload_n rfl rfl).trans ?_
      refine (ss_iconst rfl (v := (-1)) rfl).trans ?_
      refine (ss_icmp_ne rfl).trans ?_
      refine pv_ite ?_ ?_
      · refine (ss_iinc3 rfl rfl (v := v4 + 1) (congrArg (HAdd.hAdd _) (show Int32.ofInt (1) = 1 by decide)) rfl).trans ?_
        refine (ss_goto rfl).trans ?_
        rfl
      · refine (ss_iconst rfl (v := 0) rfl).trans ?_
        exact (ss_zreturn rfl).trans (if_pos (by decide))
    · refine (ss_iconst rfl (v := 1) rfl).trans ?_
      exact (ss_zreturn rfl).trans (if_pos (by decide))
theorem e_Po_asksThrough (X : pv_X) (v0 : Nat) (v1 : Int32) (v2 : Int32) (h : pv_H) : pM X m_Po_asksThrough [.ref v0, .int v1, .int v2] h = f_Po_asksThrough_0 X v0 v1 v2 h := rfl
noncomputable def f_St_init_0 (X : pv_X) (v0 : Nat) (h : pv_H) : Option pv_O := pS X 1 (none) k_St_init 0 [some (.ref v0)] [] h
set_option maxRecDepth 8000 in
theorem u_St_init_0 (X : pv_X) (v0 : Nat) (h : pv_H) : f_St_init_0 X v0 h =
    (pv_na h 1 6).bind (fun h1 => (pv_fp h1 v0 7 0 (.ref h.length)).bind (fun h2 => (pv_na h2 1 6).bind (fun h3 => (pv_fp h3 v0 7 1 (.ref h2.length)).bind (fun h4 => (pv_na h4 1 6).bind (fun h5 => (pv_fp h5 v0 7 2 (.ref h4.length)).bind (fun h6 => some (none, h6))))))) := by
  show pS X 1 (none) k_St_init 0 [some (.ref v0)] [] h = _
  refine (ss_aload_n rfl rfl).trans ?_
  refine (ss_oinit rfl (by decide)).trans ?_
  refine (ss_aload_n rfl rfl).trans ?_
  refine (ss_bipush rfl (v := 6) rfl).trans ?_
  refine (ss_newarray (by decide) rfl).trans ?_
  refine congrArg (Option.bind _) (funext fun h1 => ?_)
  refine (ss_putR rfl).trans ?_
  refine congrArg (Option.bind _) (funext fun h2 => ?_)
  refine (ss_aload_n rfl rfl).trans ?_
  refine (ss_bipush rfl (v := 6) rfl).trans ?_
  refine (ss_newarray (by decide) rfl).trans ?_
  refine congrArg (Option.bind _) (funext fun h3 => ?_)
  refine (ss_putR rfl).trans ?_
  refine congrArg (Option.bind _) (funext fun h4 => ?_)
  refine (ss_aload_n rfl rfl).trans ?_
  refine (ss_bipush rfl (v := 6) rfl).trans ?_
  refine (ss_newarray (by decide) rfl).trans ?_
  refine congrArg (Option.bind _) (funext fun h5 => ?_)
  refine (ss_putR rfl).trans ?_
  refine congrArg (Option.bind _) (funext fun h6 => ?_)
  exact ss_return rfl
theorem e_St_init (X : pv_X) (v0 : Nat) (h : pv_H) : pM X m_St_init [.ref v0] h = f_St_init_0 X v0 h := rfl
noncomputable def f_St_clear_0 (X : pv_X) (v0 : Nat) (h : pv_H) : Option pv_O := pS X 2 (none) k_St_clear 0 [some (.ref v0)] [] h
set_option maxRecDepth 8000 in
theorem u_St_clear_0 (X : pv_X) (v0 : Nat) (h : pv_H) : f_St_clear_0 X v0 h =
    (pv_fR h v0 7 0).bind (fun x1 => (pv_tV (pM X m_Ar_fill [.ref x1, .int 0] h)).bind (fun h2 => (pv_fR h2 v0 7 1).bind (fun x3 => (pv_tV (pM X m_Ar_fill [.ref x3, .int 0] h2)).bind (fun h4 => (pv_fR h4 v0 7 2).bind (fun x5 => (pv_tV (pM X m_Ar_fill [.ref x5, .int 0] h4)).bind (fun h6 => (pv_fp h6 v0 7 3 (.int 0)).bind (fun h7 => some (none, h7)))))))) := by
  show pS X 2 (none) k_St_clear 0 [some (.ref v0)] [] h = _
  refine (ss_aload_n rfl rfl).trans ?_
  refine (ss_getR rfl).trans ?_
  refine congrArg (Option.bind _) (funext fun x1 => ?_)
  refine (ss_iconst rfl (v := 0) rfl).trans ?_
  refine (ss_callSN (as := [.ref x1, .int 0]) rfl t_Ar_fill (by decide) rfl rfl (by decide) rfl ⟨Nat.le_of_ble_eq_true rfl, Nat.le_of_ble_eq_true rfl⟩).trans ?_
  refine congrArg (Option.bind _) (funext fun h2 => ?_)
  refine (ss_aload_n rfl rfl).trans ?_
  refine (ss_getR rfl).trans ?_
  refine congrArg (Option.bind _) (funext fun x3 => ?_)
  refine (ss_iconst rfl (v := 0) rfl).trans ?_
  refine (ss_callSN (as := [.ref x3, .int 0]) rfl t_Ar_fill (by decide) rfl rfl (by decide) rfl ⟨Nat.le_of_ble_eq_true rfl, Nat.le_of_ble_eq_true rfl⟩).trans ?_
  refine congrArg (Option.bind _) (funext fun h4 => ?_)
  refine (ss_aload_n rfl rfl).trans ?_
  refine (ss_getR rfl).trans ?_
  refine congrArg (Option.bind _) (funext fun x5 => ?_)
  refine (ss_iconst rfl (v := 0) rfl).trans ?_
  refine (ss_callSN (as := [.ref x5, .int 0]) rfl t_Ar_fill (by decide) rfl rfl (by decide) rfl ⟨Nat.le_of_ble_eq_true rfl, Nat.le_of_ble_eq_true rfl⟩).trans ?_
  refine congrArg (Option.bind _) (funext fun h6 => ?_)
  refine (ss_aload_n rfl rfl).trans ?_
  refine (ss_iconst rfl (v := 0) rfl).trans ?_
  refine (ss_putI rfl).trans ?_
  refine congrArg (Option.bind _) (funext fun h7 => ?_)
  exact ss_return rfl
theorem e_St_clear (X : pv_X) (v0 : Nat) (h : pv_H) : pM X m_St_clear [.ref v0] h = f_St_clear_0 X v0 h := rfl
noncomputable def f_St_copy_0 (X : pv_X) (v0 : Nat) (v1 : Nat) (h : pv_H) : Option pv_O := pS X 1 (none) k_St_copy 0 [some (.ref v0), some (.ref v1)] [] h
set_option maxRecDepth 8000 in
theorem u_St_copy_0 (X : pv_X) (v0 : Nat) (v1 : Nat) (h : pv_H) : f_St_copy_0 X v0 v1 h =
    (pv_fR h v1 7 0).bind (fun x1 => (pv_fR h v0 7 0).bind (fun x2 => (pv_cp h x1 0 x2 0 6).bind (fun h3 => (pv_fR h3 v1 7 1).bind (fun x4 => (pv_fR h3 v0 7 1).bind (fun x5 => (pv_cp h3 x4 0 x5 0 6).bind (fun h6 => (pv_fR h6 v1 7 2).bind (fun x7 => (pv_fR h6 v0 7 2).bind (fun x8 => (pv_cp h6 x7 0 x8 0 6).bind (fun h9 => (pv_fI h9 v1 7 3).bind (fun x10 => (pv_fp h9 v0 7 3 (.int x10)).bind (fun h11 => some (none, h11)))))))))))) := by
  show pS X 1 (none) k_St_copy 0 [some (.ref v0), some (.ref v1)] [] h = _
  refine (ss_aload_n rfl rfl).trans ?_
  refine (ss_getR rfl).trans ?_
  refine congrArg (Option.bind _) (funext fun x1 => ?_)
  refine (ss_iconst rfl (v := 0) rfl).trans ?_
  refine (ss_aload_n rfl rfl).trans ?_
  refine (ss_getR rfl).trans ?_
  refine congrArg (Option.bind _) (funext fun x2 => ?_)
  refine (ss_iconst rfl (v := 0) rfl).trans ?_
  refine (ss_bipush rfl (v := 6) rfl).trans ?_
  refine (ss_copy rfl (by simp [Value.category])).trans ?_
  refine congrArg (Option.bind _) (funext fun h3 => ?_)
  refine (ss_aload_n rfl rfl).trans ?_
  refine (ss_getR rfl).trans ?_
  refine congrArg (Option.bind _) (funext fun x4 => ?_)
  refine (ss_iconst rfl (v := 0) rfl).trans ?_
  refine (ss_aload_n rfl rfl).trans ?_
  refine (ss_getR rfl).trans ?_
  refine congrArg (Option.bind _) (funext fun x5 => ?_)
  refine (ss_iconst rfl (v := 0) rfl).trans ?_
  refine (ss_bipush rfl (v := 6) rfl).trans ?_
  refine (ss_copy rfl (by simp [Value.category])).trans ?_
  refine congrArg (Option.bind _) (funext fun h6 => ?_)
  refine (ss_aload_n rfl rfl).trans ?_
  refine (ss_getR rfl).trans ?_
  refine congrArg (Option.bind _) (funext fun x7 => ?_)
  refine (ss_iconst rfl (v := 0) rfl).trans ?_
  refine (ss_aload_n rfl rfl).trans ?_
  refine (ss_getR rfl).trans ?_
  refine congrArg (Option.bind _) (funext fun x8 => ?_)
  refine (ss_iconst rfl (v := 0) rfl).trans ?_
  refine (ss_bipush rfl (v := 6) rfl).trans ?_
  refine (ss_copy rfl (by simp [Value.category])).trans ?_
  refine congrArg (Option.bind _) (funext fun h9 => ?_)
  refine (ss_aload_n rfl rfl).trans ?_
  refine (ss_aload_n rfl rfl).trans ?_
  refine (ss_getI rfl).trans ?_
  refine congrArg (Option.bind _) (funext fun x10 => ?_)
  refine (ss_putI rfl).trans ?_
  refine congrArg (Option.bind _) (funext fun h11 => ?_)
  exact ss_return rfl
theorem e_St_copy (X : pv_X) (v0 : Nat) (v1 : Nat) (h : pv_H) : pM X m_St_copy [.ref v0, .ref v1] h = f_St_copy_0 X v0 v1 h := rfl
noncomputable def f_St_trueTime_0 (X : pv_X) (v0 : Nat) (h : pv_H) : Option pv_O := pS X 1 (some .int) k_St_trueTime 0 [some (.ref v0)] [] h
set_option maxRecDepth 8000 in
theorem u_St_trueTime_0 (X : pv_X) (v0 : Nat) (h : pv_H) : f_St_trueTime_0 X v0 h =
    (pv_fI h v0 7 3).bind (fun x1 => some (some (.int ((x1 * 15) - (x1 * 15) / 720 * 720)), h)) := by
  show pS X 1 (some .int) k_St_trueTime 0 [some (.ref v0)] [] h = _
  refine (ss_aload_n rfl rfl).trans ?_
  refine (ss_getI rfl).trans ?_
  refine congrArg (Option.bind _) (funext fun x1 => ?_)
  refine (ss_bipush rfl (v := 15) rfl).trans ?_
  refine (ss_imul rfl).trans ?_
  refine (ss_sipush rfl (v := 720) rfl).trans ?_
  refine (ss_irem rfl (by decide)).trans ?_
  exact ss_ireturn rfl
theorem e_St_trueTime (X : pv_X) (v0 : Nat) (h : pv_H) : pM X m_St_trueTime [.ref v0] h = f_St_trueTime_0 X v0 h := rfl
noncomputable def f_St_outOf_0 (X : pv_X) (v0 : Nat) (v1 : Int32) (h : pv_H) : Option pv_O := pS X 2 (some .int) k_St_outOf 0 [some (.ref v0), some (.int v1), none] [] h
noncomputable def f_St_outOf_41 (X : pv_X) (v0 : Nat) (v1 : Int32) (v2 : Int32) (s0 : Int32) (h : pv_H) : Option pv_O := pS X 2 (some .int) k_St_outOf 41 [some (.ref v0), some (.int v1), some (.int v2)] [.int s0] h
set_option maxRecDepth 8000 in
theorem u_St_outOf_0 (X : pv_X) (v0 : Nat) (v1 : Int32) (h : pv_H) : f_St_outOf_0 X v0 v1 h =
    (pv_fR h v0 7 0).bind (fun x1 => (pv_aX X h x1 v1).bind (fun x2 => if pv_rc h v0 7 = true then (pv_tI (pM X m_St_trueTime [.ref v0] h)).bind (fun q3 => if (-360) ≤ (x2 - q3.1) then if (x2 - q3.1) ≤ 359 then f_St_outOf_41 X v0 v1 (x2 - q3.1) (x2 - q3.1) q3.2 else f_St_outOf_41 X v0 v1 (x2 - q3.1) ((x2 - q3.1) - 720) q3.2 else some (some (.int ((x2 - q3.1) + 720)), q3.2)) else none)) := by
  show pS X 2 (some .int) k_St_outOf 0 [some (.ref v0), some (.int v1), none] [] h = _
  refine (ss_aload_n rfl rfl).trans ?_
  refine (ss_getR rfl).trans ?_
  refine congrArg (Option.bind _) (funext fun x1 => ?_)
  refine (ss_iload_n rfl rfl).trans ?_
  refine (ss_iaload rfl).trans ?_
  refine congrArg (Option.bind _) (funext fun x2 => ?_)
  refine (ss_aload_n rfl rfl).trans ?_
  refine (ss_callVI (as := []) rfl t_St_trueTime (by decide) rfl rfl (by simp [Value.category]) (Or.inl rfl) ⟨Nat.le_of_ble_eq_true rfl, Nat.le_of_ble_eq_true rfl⟩).trans ?_
  refine pv_ite ?_ rfl
  refine congrArg (Option.bind _) (funext fun q3 => ?_)
  refine (ss_isub rfl).trans ?_
  refine (ss_istore_n rfl rfl).trans ?_
  refine (ss_iload_n rfl rfl).trans ?_
  refine (ss_sipush rfl (v := (-360)) rfl).trans ?_
  refine (ss_icmp_ge rfl).trans ?_
  refine pv_ite ?_ ?_
  · refine (ss_iload_n rfl rfl).trans ?_
    refine (ss_sipush rfl (v := 359) rfl).trans ?_
    refine (ss_icmp_le rfl).trans ?_
    refine pv_ite ?_ ?_
    · refine (ss_iload_n rfl rfl).trans ?_
      rfl
    · refine (ss_iload_n rfl rfl).trans ?_
      refine (ss_sipush rfl (v := 720) rfl).trans ?_
      refine (ss_isub rfl).trans ?_
      refine (ss_goto rfl).trans ?_
      rfl
  · refine (ss_iload_n rfl rfl).trans ?_
    refine (ss_sipush rfl (v := 720) rfl).trans ?_
    refine (ss_iadd rfl).trans ?_
    exact ss_ireturn rfl
set_option maxRecDepth 8000 in
theorem u_St_outOf_41 (X : pv_X) (v0 : Nat) (v1 : Int32) (v2 : Int32) (s0 : Int32) (h : pv_H) : f_St_outOf_41 X v0 v1 v2 s0 h =
    some (some (.int s0), h) := by
  show pS X 2 (some .int) k_St_outOf 41 [some (.ref v0), some (.int v1), some (.int v2)] [.int s0] h = _
  exact ss_ireturn rfl
theorem e_St_outOf (X : pv_X) (v0 : Nat) (v1 : Int32) (h : pv_H) : pM X m_St_outOf [.ref v0, .int v1] h = f_St_outOf_0 X v0 v1 h := rfl
noncomputable def f_St_takeTime_0 (X : pv_X) (v0 : Nat) (v1 : Int32) (v2 : Int32) (h : pv_H) : Option pv_O := pS X 1 (none) k_St_takeTime 0 [some (.ref v0), some (.int v1), some (.int v2)] [] h
set_option maxRecDepth 8000 in
theorem u_St_takeTime_0 (X : pv_X) (v0 : Nat) (v1 : Int32) (v2 : Int32) (h : pv_H) : f_St_takeTime_0 X v0 v1 v2 h =
    (pv_fR h v0 7 0).bind (fun x1 => (pv_fR h v0 7 0).bind (fun x2 => (pv_aX X h x2 v2).bind (fun x3 => (pv_sI h x1 v1 x3).bind (fun h4 => (pv_fR h4 v0 7 2).bind (fun x5 => (pv_aX X h4 x5 v2).bind (fun x6 => (pv_sI h4 x5 v2 (x6 + 1)).bind (fun h7 => some (none, h7)))))))) := by
  show pS X 1 (none) k_St_takeTime 0 [some (.ref v0), some (.int v1), some (.int v2)] [] h = _
  refine (ss_aload_n rfl rfl).trans ?_
  refine (ss_getR rfl).trans ?_
  refine congrArg (Option.bind _) (funext fun x1 => ?_)
  refine (ss_iload_n rfl rfl).trans ?_
  refine (ss_aload_n rfl rfl).trans ?_
  refine (ss_getR rfl).trans ?_
  refine congrArg (Option.bind _) (funext fun x2 => ?_)
  refine (ss_iload_n rfl rfl).trans ?_
  refine (ss_iaload rfl).trans ?_
  refine congrArg (Option.bind _) (funext fun x3 => ?_)
  refine (ss_iastore rfl).trans ?_
  refine congrArg (Option.bind _) (funext fun h4 => ?_)
  refine (ss_aload_n rfl rfl).trans ?_
  refine (ss_getR rfl).trans ?_
  refine congrArg (Option.bind _) (funext fun x5 => ?_)
  refine (ss_iload_n rfl rfl).trans ?_
  refine (ss_dup2R rfl).trans ?_
  refine (ss_iaload rfl).trans ?_
  refine congrArg (Option.bind _) (funext fun x6 => ?_)
  refine (ss_iconst rfl (v := 1) rfl).trans ?_
  refine (ss_iadd rfl).trans ?_
  refine (ss_iastore rfl).trans ?_
  refine congrArg (Option.bind _) (funext fun h7 => ?_)
  exact ss_return rfl
theorem e_St_takeTime (X : pv_X) (v0 : Nat) (v1 : Int32) (v2 : Int32) (h : pv_H) : pM X m_St_takeTime [.ref v0, .int v1, .int v2] h = f_St_takeTime_0 X v0 v1 v2 h := rfl
noncomputable def f_St_moveBeats_0 (X : pv_X) (v0 : Nat) (v1 : Int32) (v2 : Int32) (h : pv_H) : Option pv_O := pS X 2 (none) k_St_moveBeats 0 [some (.ref v0), some (.int v1), some (.int v2)] [] h
set_option maxRecDepth 8000 in
theorem u_St_moveBeats_0 (X : pv_X) (v0 : Nat) (v1 : Int32) (v2 : Int32) (h : pv_H) : f_St_moveBeats_0 X v0 v1 v2 h =
    (pv_fR h v0 7 1).bind (fun x1 => (pv_fR h v0 7 1).bind (fun x2 => (pv_aX X h x2 v1).bind (fun x3 => (pv_tI (pM X m_Ma_min [.int 160, .int (x3 + v2)] h)).bind (fun q4 => (pv_tI (pM X m_Ma_max [.int 20, .int q4.1] q4.2)).bind (fun q5 => (pv_sI q5.2 x1 v1 q5.1).bind (fun h6 => some (none, h6))))))) := by
  show pS X 2 (none) k_St_moveBeats 0 [some (.ref v0), some (.int v1), some (.int v2)] [] h = _
  refine (ss_aload_n rfl rfl).trans ?_
  refine (ss_getR rfl).trans ?_
  refine congrArg (Option.bind _) (funext fun x1 => ?_)
  refine (ss_iload_n rfl rfl).trans ?_
  refine (ss_bipush rfl (v := 20) rfl).trans ?_
  refine (ss_sipush rfl (v := 160) rfl).trans ?_
  refine (ss_aload_n rfl rfl).trans ?_
  refine (ss_getR rfl).trans ?_
  refine congrArg (Option.bind _) (funext fun x2 => ?_)
  refine (ss_iload_n rfl rfl).trans ?_
  refine (ss_iaload rfl).trans ?_
  refine congrArg (Option.bind _) (funext fun x3 => ?_)
  refine (ss_iload_n rfl rfl).trans ?_
  refine (ss_iadd rfl).trans ?_
  refine (ss_callSI (as := [.int 160, .int (x3 + v2)]) rfl t_Ma_min (by decide) rfl rfl (by simp [Value.category]) (Or.inl rfl) ⟨Nat.le_of_ble_eq_true rfl, Nat.le_of_ble_eq_true rfl⟩).trans ?_
  refine congrArg (Option.bind _) (funext fun q4 => ?_)
  refine (ss_callSI (as := [.int 20, .int q4.1]) rfl t_Ma_max (by decide) rfl rfl (by simp [Value.category]) (Or.inl rfl) ⟨Nat.le_of_ble_eq_true rfl, Nat.le_of_ble_eq_true rfl⟩).trans ?_
  refine congrArg (Option.bind _) (funext fun q5 => ?_)
  refine (ss_iastore rfl).trans ?_
  refine congrArg (Option.bind _) (funext fun h6 => ?_)
  exact ss_return rfl
theorem e_St_moveBeats (X : pv_X) (v0 : Nat) (v1 : Int32) (v2 : Int32) (h : pv_H) : pM X m_St_moveBeats [.ref v0, .int v1, .int v2] h = f_St_moveBeats_0 X v0 v1 v2 h := rfl
noncomputable def f_Ta_init_0 (X : pv_X) (v0 : Nat) (h : pv_H) : Option pv_O := pS X 1 (none) k_Ta_init 0 [some (.ref v0)] [] h
set_option maxRecDepth 8000 in
theorem u_Ta_init_0 (X : pv_X) (v0 : Nat) (h : pv_H) : f_Ta_init_0 X v0 h =
    (pv_na h 1 720).bind (fun h1 => (pv_fp h1 v0 8 0 (.ref h.length)).bind (fun h2 => some (none, h2))) := by
  show pS X 1 (none) k_Ta_init 0 [some (.ref v0)] [] h = _
  refine (ss_aload_n rfl rfl).trans ?_
  refine (ss_oinit rfl (by decide)).trans ?_
  refine (ss_aload_n rfl rfl).trans ?_
  refine (ss_sipush rfl (v := 720) rfl).trans ?_
  refine (ss_newarray (by decide) rfl).trans ?_
  refine congrArg (Option.bind _) (funext fun h1 => ?_)
  refine (ss_putR rfl).trans ?_
  refine congrArg (Option.bind _) (funext fun h2 => ?_)
  exact ss_return rfl
theorem e_Ta_init (X : pv_X) (v0 : Nat) (h : pv_H) : pM X m_Ta_init [.ref v0] h = f_Ta_init_0 X v0 h := rfl
noncomputable def f_Ta_clear_0 (X : pv_X) (v0 : Nat) (h : pv_H) : Option pv_O := pS X 2 (none) k_Ta_clear 0 [some (.ref v0)] [] h
set_option maxRecDepth 8000 in
theorem u_Ta_clear_0 (X : pv_X) (v0 : Nat) (h : pv_H) : f_Ta_clear_0 X v0 h =
    (pv_fR h v0 8 0).bind (fun x1 => (pv_tV (pM X m_Ar_fill [.ref x1, .int 0] h)).bind (fun h2 => (pv_fp h2 v0 8 1 (.int 0)).bind (fun h3 => some (none, h3)))) := by
  show pS X 2 (none) k_Ta_clear 0 [some (.ref v0)] [] h = _
  refine (ss_aload_n rfl rfl).trans ?_
  refine (ss_getR rfl).trans ?_
  refine congrArg (Option.bind _) (funext fun x1 => ?_)
  refine (ss_iconst rfl (v := 0) rfl).trans ?_
  refine (ss_callSN (as := [.ref x1, .int 0]) rfl t_Ar_fill (by decide) rfl rfl (by decide) rfl ⟨Nat.le_of_ble_eq_true rfl, Nat.le_of_ble_eq_true rfl⟩).trans ?_
  refine congrArg (Option.bind _) (funext fun h2 => ?_)
  refine (ss_aload_n rfl rfl).trans ?_
  refine (ss_iconst rfl (v := 0) rfl).trans ?_
  refine (ss_putI rfl).trans ?_
  refine congrArg (Option.bind _) (funext fun h3 => ?_)
  exact ss_return rfl
theorem e_Ta_clear (X : pv_X) (v0 : Nat) (h : pv_H) : pM X m_Ta_clear [.ref v0] h = f_Ta_clear_0 X v0 h := rfl
noncomputable def f_Ta_add_0 (X : pv_X) (v0 : Nat) (v1 : Int32) (h : pv_H) : Option pv_O := pS X 2 (none) k_Ta_add 0 [some (.ref v0), some (.int v1), none] [] h
noncomputable def f_Ta_add_46 (X : pv_X) (v0 : Nat) (v1 : Int32) (v2 : Int32) (h : pv_H) : Option pv_O := pS X 2 (none) k_Ta_add 46 [some (.ref v0), some (.int v1), some (.int v2)] [] h
set_option maxRecDepth 8000 in
theorem u_Ta_add_0 (X : pv_X) (v0 : Nat) (v1 : Int32) (h : pv_H) : f_Ta_add_0 X v0 v1 h =
    if (v1 - (-360)) < 0 then f_Ta_add_46 X v0 v1 (v1 - (-360)) h else (pv_fR h v0 8 0).bind (fun x1 => (pv_len X h x1).bind (fun x2 => if x2 ≤ (v1 - (-360)) then f_Ta_add_46 X v0 v1 (v1 - (-360)) h else (pv_fR h v0 8 0).bind (fun x3 => (pv_aX X h x3 (v1 - (-360))).bind (fun x4 => (pv_sI h x3 (v1 - (-360)) (x4 + 1)).bind (fun h5 => (pv_fI h5 v0 8 1).bind (fun x6 => (pv_fR h5 v0 8 0).bind (fun x7 => (pv_aX X h5 x7 (v1 - (-360))).bind (fun x8 => (pv_tI (pM X m_Ma_max [.int x6, .int x8] h5)).bind (fun q9 => (pv_fp q9.2 v0 8 1 (.int q9.1)).bind (fun h10 => f_Ta_add_46 X v0 v1 (v1 - (-360)) h10)))))))))) := by
  show pS X 2 (none) k_Ta_add 0 [some (.ref v0), some (.int v1), none] [] h = _
  refine (ss_iload_n rfl rfl).trans ?_
  refine (ss_sipush rfl (v := (-360)) rfl).trans ?_
  refine (ss_isub rfl).trans ?_
  refine (ss_istore_n rfl rfl).trans ?_
  refine (ss_iload_n rfl rfl).trans ?_
  refine (ss_if_lt rfl).trans ?_
  refine pv_ite ?_ ?_
  · rfl
  · refine (ss_iload_n rfl rfl).trans ?_
    refine (ss_aload_n rfl rfl).trans ?_
    refine (ss_getR rfl).trans ?_
    refine congrArg (Option.bind _) (funext fun x1 => ?_)
    refine (ss_arraylength rfl).trans ?_
    refine congrArg (Option.bind _) (funext fun x2 => ?_)
    refine (ss_icmp_ge rfl).trans ?_
    refine pv_ite ?_ ?_
    · rfl
    · refine (ss_aload_n rfl rfl).trans ?_
      refine (ss_getR rfl).trans ?_
      refine congrArg (Option.bind _) (funext fun x3 => ?_)
      refine (ss_iload_n rfl rfl).trans ?_
      refine (ss_dup2R rfl).trans ?_
      refine (ss_iaload rfl).trans ?_
      refine congrArg (Option.bind _) (funext fun x4 => ?_)
      refine (ss_iconst rfl (v := 1) rfl).trans ?_
      refine (ss_iadd rfl).trans ?_
      refine (ss_iastore rfl).trans ?_
      refine congrArg (Option.bind _) (funext fun h5 => ?_)
      refine (ss_aload_n rfl rfl).trans ?_
      refine (ss_aload_n rfl rfl).trans ?_
      refine (ss_getI rfl).trans ?_
      refine congrArg (Option.bind _) (funext fun x6 => ?_)
      refine (ss_aload_n rfl rfl).trans ?_
      refine (ss_getR rfl).trans ?_
      refine congrArg (Option.bind _) (funext fun x7 => ?_)
      refine (ss_iload_n rfl rfl).trans ?_
      refine (ss_iaload rfl).trans ?_
      refine congrArg (Option.bind _) (funext fun x8 => ?_)
      refine (ss_callSI (as := [.int x6, .int x8]) rfl t_Ma_max (by decide) rfl rfl (by simp [Value.category]) (Or.inl rfl) ⟨Nat.le_of_ble_eq_true rfl, Nat.le_of_ble_eq_true rfl⟩).trans ?_
      refine congrArg (Option.bind _) (funext fun q9 => ?_)
      refine (ss_putI rfl).trans ?_
      refine congrArg (Option.bind _) (funext fun h10 => ?_)
      rfl
set_option maxRecDepth 8000 in
theorem u_Ta_add_46 (X : pv_X) (v0 : Nat) (v1 : Int32) (v2 : Int32) (h : pv_H) : f_Ta_add_46 X v0 v1 v2 h =
    some (none, h) := by
  show pS X 2 (none) k_Ta_add 46 [some (.ref v0), some (.int v1), some (.int v2)] [] h = _
  exact ss_return rfl
theorem e_Ta_add (X : pv_X) (v0 : Nat) (v1 : Int32) (h : pv_H) : pM X m_Ta_add [.ref v0, .int v1] h = f_Ta_add_0 X v0 v1 h := rfl
noncomputable def f_In_compare_0 (X : pv_X) (v0 : Int32) (v1 : Int32) (h : pv_H) : Option pv_O := pS X 1 (some .int) k_In_compare 0 [some (.int v0), some (.int v1)] [] h
noncomputable def f_In_compare_19 (X : pv_X) (v0 : Int32) (v1 : Int32) (s0 : Int32) (h : pv_H) : Option pv_O := pS X 1 (some .int) k_In_compare 19 [some (.int v0), some (.int v1)] [.int s0] h
set_option maxRecDepth 8000 in
theorem u_In_compare_0 (X : pv_X) (v0 : Int32) (v1 : Int32) (h : pv_H) : f_In_compare_0 X v0 v1 h =
    if v1 ≤ v0 then if ¬ v0 = v1 then f_In_compare_19 X v0 v1 1 h else f_In_compare_19 X v0 v1 0 h else f_In_compare_19 X v0 v1 (-1) h := by
  show pS X 1 (some .int) k_In_compare 0 [some (.int v0), some (.int v1)] [] h = _
  refine (ss_iload_n rfl rfl).trans ?_
  refine (ss_iload_n rfl rfl).trans ?_
  refine (ss_icmp_ge rfl).trans ?_
  refine pv_ite ?_ ?_
  · refine (ss_iload_n rfl rfl).trans ?_
    refine (ss_iload_n rfl rfl).trans ?_
    refine (ss_icmp_ne rfl).trans ?_
    refine pv_ite ?_ ?_
    · refine (ss_iconst rfl (v := 1) rfl).trans ?_
      rfl
    · refine (ss_iconst rfl (v := 0) rfl).trans ?_
      refine (ss_goto rfl).trans ?_
      rfl
  · refine (ss_iconst rfl (v := (-1)) rfl).trans ?_
    refine (ss_goto rfl).trans ?_
    rfl
set_option maxRecDepth 8000 in
theorem u_In_compare_19 (X : pv_X) (v0 : Int32) (v1 : Int32) (s0 : Int32) (h : pv_H) : f_In_compare_19 X v0 v1 s0 h =
    some (some (.int s0), h) := by
  show pS X 1 (some .int) k_In_compare 19 [some (.int v0), some (.int v1)] [.int s0] h = _
  exact ss_ireturn rfl
theorem e_In_compare (X : pv_X) (v0 : Int32) (v1 : Int32) (h : pv_H) : pM X m_In_compare [.int v0, .int v1] h = f_In_compare_0 X v0 v1 h := rfl
noncomputable def f_In_numberOfTrailingZeros_0 (X : pv_X) (v0 : Int32) (h : pv_H) : Option pv_O := pS X 1 (some .int) k_In_numberOfTrailingZeros 0 [some (.int v0), none] [] h
noncomputable def f_In_numberOfTrailingZeros_34 (X : pv_X) (v0 : Int32) (v1 : Int32) (h : pv_H) : Option pv_O := pS X 1 (some .int) k_In_numberOfTrailingZeros 34 [some (.int v0), some (.int v1)] [] h
noncomputable def f_In_numberOfTrailingZeros_49 (X : pv_X) (v0 : Int32) (v1 : Int32) (h : pv_H) : Option pv_O := pS X 1 (some .int) k_In_numberOfTrailingZeros 49 [some (.int v0), some (.int v1)] [] h
noncomputable def f_In_numberOfTrailingZeros_62 (X : pv_X) (v0 : Int32) (v1 : Int32) (h : pv_H) : Option pv_O := pS X 1 (some .int) k_In_numberOfTrailingZeros 62 [some (.int v0), some (.int v1)] [] h
noncomputable def f_In_numberOfTrailingZeros_74 (X : pv_X) (v0 : Int32) (v1 : Int32) (h : pv_H) : Option pv_O := pS X 1 (some .int) k_In_numberOfTrailingZeros 74 [some (.int v0), some (.int v1)] [] h
set_option maxRecDepth 8000 in
theorem u_In_numberOfTrailingZeros_0 (X : pv_X) (v0 : Int32) (h : pv_H) : f_In_numberOfTrailingZeros_0 X v0 h =
    if 0 < ((v0 ^^^ (-1)) &&& (v0 - 1)) then if ((v0 ^^^ (-1)) &&& (v0 - 1)) ≤ 65536 then f_In_numberOfTrailingZeros_34 X ((v0 ^^^ (-1)) &&& (v0 - 1)) 1 h else f_In_numberOfTrailingZeros_34 X ((((v0 ^^^ (-1)) &&& (v0 - 1)) : Int32).toUInt32 >>> ((16 : Int32).toUInt32 &&& Int32.toUInt32 31)).toInt32 (1 + 16) h else some (some (.int (((v0 ^^^ (-1)) &&& (v0 - 1)) &&& 32)), h) := by
  show pS X 1 (some .int) k_In_numberOfTrailingZeros 0 [some (.int v0), none] [] h = _
  refine (ss_iload_n rfl rfl).trans ?_
  refine (ss_iconst rfl (v := (-1)) rfl).trans ?_
  refine (ss_ixor rfl).trans ?_
  refine (ss_iload_n rfl rfl).trans ?_
  refine (ss_iconst rfl (v := 1) rfl).trans ?_
  refine (ss_isub rfl).trans ?_
  refine (ss_iand rfl).trans ?_
  refine (ss_istore_n rfl rfl).trans ?_
  refine (ss_iload_n rfl rfl).trans ?_
  refine (ss_if_gt rfl).trans ?_
  refine pv_ite ?_ ?_
  · refine (ss_iconst rfl (v := 1) rfl).trans ?_
    refine (ss_istore_n rfl rfl).trans ?_
    refine (ss_iload_n rfl rfl).trans ?_
    refine (ss_ldc_w rfl (v := 65536) rfl).trans ?_
    refine (ss_icmp_le rfl).trans ?_
    refine pv_ite ?_ ?_
    · rfl
    · refine (ss_iinc3 rfl rfl (v := 1 + 16) (congrArg (HAdd.hAdd _) (show Int32.ofInt (16) = 16 by decide)) rfl).trans ?_
      refine (ss_iload_n rfl rfl).trans ?_
      refine (ss_bipush rfl (v := 16) rfl).trans ?_
      refine (ss_iushr rfl).trans ?_
      refine (ss_istore_n rfl rfl).trans ?_
      rfl
  · refine (ss_iload_n rfl rfl).trans ?_
    refine (ss_bipush rfl (v := 32) rfl).trans ?_
    refine (ss_iand rfl).trans ?_
    exact ss_ireturn rfl
set_option maxRecDepth 8000 in
theorem u_In_numberOfTrailingZeros_34 (X : pv_X) (v0 : Int32) (v1 : Int32) (h : pv_H) : f_In_numberOfTrailingZeros_34 X v0 v1 h =
    if v0 ≤ 256 then f_In_numberOfTrailingZeros_49 X v0 v1 h else f_In_numberOfTrailingZeros_49 X ((v0 : Int32).toUInt32 >>> ((8 : Int32).toUInt32 &&& Int32.toUInt32 31)).toInt32 (v1 + 8) h := by
  show pS X 1 (some .int) k_In_numberOfTrailingZeros 34 [some (.int v0), some (.int v1)] [] h = _
  refine (ss_iload_n rfl rfl).trans ?_
  refine (ss_sipush rfl (v := 256) rfl).trans ?_
  refine (ss_icmp_le rfl).trans ?_
  refine pv_ite ?_ ?_
  · rfl
  · refine (ss_iinc3 rfl rfl (v := v1 + 8) (congrArg (HAdd.hAdd _) (show Int32.ofInt (8) = 8 by decide)) rfl).trans ?_
    refine (ss_iload_n rfl rfl).trans ?_
    refine (ss_bipush rfl (v := 8) rfl).trans ?_
    refine (ss_iushr rfl).trans ?_
    refine (ss_istore_n rfl rfl).trans ?_
    rfl
set_option maxRecDepth 8000 in
theorem u_In_numberOfTrailingZeros_49 (X : pv_X) (v0 : Int32) (v1 : Int32) (h : pv_H) : f_In_numberOfTrailingZeros_49 X v0 v1 h =
    if v0 ≤ 16 then f_In_numberOfTrailingZeros_62 X v0 v1 h else f_In_numberOfTrailingZeros_62 X ((v0 : Int32).toUInt32 >>> ((4 : Int32).toUInt32 &&& Int32.toUInt32 31)).toInt32 (v1 + 4) h := by
  show pS X 1 (some .int) k_In_numberOfTrailingZeros 49 [some (.int v0), some (.int v1)] [] h = _
  refine (ss_iload_n rfl rfl).trans ?_
  refine (ss_bipush rfl (v := 16) rfl).trans ?_
  refine (ss_icmp_le rfl).trans ?_
  refine pv_ite ?_ ?_
  · rfl
  · refine (ss_iinc3 rfl rfl (v := v1 + 4) (congrArg (HAdd.hAdd _) (show Int32.ofInt (4) = 4 by decide)) rfl).trans ?_
    refine (ss_iload_n rfl rfl).trans ?_
    refine (ss_iconst rfl (v := 4) rfl).trans ?_
    refine (ss_iushr rfl).trans ?_
    refine (ss_istore_n rfl rfl).trans ?_
    rfl
set_option maxRecDepth 8000 in
theorem u_In_numberOfTrailingZeros_62 (X : pv_X) (v0 : Int32) (v1 : Int32) (h : pv_H) : f_In_numberOfTrailingZeros_62 X v0 v1 h =
    if v0 ≤ 4 then f_In_numberOfTrailingZeros_74 X v0 v1 h else f_In_numberOfTrailingZeros_74 X ((v0 : Int32).toUInt32 >>> ((2 : Int32).toUInt32 &&& Int32.toUInt32 31)).toInt32 (v1 + 2) h := by
  show pS X 1 (some .int) k_In_numberOfTrailingZeros 62 [some (.int v0), some (.int v1)] [] h = _
  refine (ss_iload_n rfl rfl).trans ?_
  refine (ss_iconst rfl (v := 4) rfl).trans ?_
  refine (ss_icmp_le rfl).trans ?_
  refine pv_ite ?_ ?_
  · rfl
  · refine (ss_iinc3 rfl rfl (v := v1 + 2) (congrArg (HAdd.hAdd _) (show Int32.ofInt (2) = 2 by decide)) rfl).trans ?_
    refine (ss_iload_n rfl rfl).trans ?_
    refine (ss_iconst rfl (v := 2) rfl).trans ?_
    refine (ss_iushr rfl).trans ?_
    refine (ss_istore_n rfl rfl).trans ?_
    rfl
set_option maxRecDepth 8000 in
theorem u_In_numberOfTrailingZeros_74 (X : pv_X) (v0 : Int32) (v1 : Int32) (h : pv_H) : f_In_numberOfTrailingZeros_74 X v0 v1 h =
    some (some (.int (v1 + ((v0 : Int32).toUInt32 >>> ((1 : Int32).toUInt32 &&& Int32.toUInt32 31)).toInt32)), h) := by
  show pS X 1 (some .int) k_In_numberOfTrailingZeros 74 [some (.int v0), some (.int v1)] [] h = _
  refine (ss_iload_n rfl rfl).trans ?_
  refine (ss_iload_n rfl rfl).trans ?_
  refine (ss_iconst rfl (v := 1) rfl).trans ?_
  refine (ss_iushr rfl).trans ?_
  refine (ss_iadd rfl).trans ?_
  exact ss_ireturn rfl
theorem e_In_numberOfTrailingZeros (X : pv_X) (v0 : Int32) (h : pv_H) : pM X m_In_numberOfTrailingZeros [.int v0] h = f_In_numberOfTrailingZeros_0 X v0 h := rfl
noncomputable def f_In_bitCount_0 (X : pv_X) (v0 : Int32) (h : pv_H) : Option pv_O := pS X 1 (some .int) k_In_bitCount 0 [some (.int v0)] [] h
set_option maxRecDepth 8000 in
theorem u_In_bitCount_0 (X : pv_X) (v0 : Int32) (h : pv_H) : f_In_bitCount_0 X v0 h =
    some (some (.int ((((((((v0 - (((v0 : Int32).toUInt32 >>> ((1 : Int32).toUInt32 &&& Int32.toUInt32 31)).toInt32 &&& 1431655765)) &&& 858993459) + ((((v0 - (((v0 : Int32).toUInt32 >>> ((1 : Int32).toUInt32 &&& Int32.toUInt32 31)).toInt32 &&& 1431655765)) : Int32).toUInt32 >>> ((2 : Int32).toUInt32 &&& Int32.toUInt32 31)).toInt32 &&& 858993459)) + (((((v0 - (((v0 : Int32).toUInt32 >>> ((1 : Int32).toUInt32 &&& Int32.toUInt32 31)).toInt32 &&& 1431655765)) &&& 858993459) + ((((v0 - (((v0 : Int32).toUInt32 >>> ((1 : Int32).toUInt32 &&& Int32.toUInt32 31)).toInt32 &&& 1431655765)) : Int32).toUInt32 >>> ((2 : Int32).toUInt32 &&& Int32.toUInt32 31)).toInt32 &&& 858993459)) : Int32).toUInt32 >>> ((4 : Int32).toUInt32 &&& Int32.toUInt32 31)).toInt32) &&& 252645135) + (((((((v0 - (((v0 : Int32).toUInt32 >>> ((1 : Int32).toUInt32 &&& Int32.toUInt32 31)).toInt32 &&& 1431655765)) &&& 858993459) + ((((v0 - (((v0 : Int32).toUInt32 >>> ((1 : Int32).toUInt32 &&& Int32.toUInt32 31)).toInt32 &&& 1431655765)) : Int32).toUInt32 >>> ((2 : Int32).toUInt32 &&& Int32.toUInt32 31)).toInt32 &&& 858993459)) + (((((v0 - (((v0 : Int32).toUInt32 >>> ((1 : Int32).toUInt32 &&& Int32.toUInt32 31)).toInt32 &&& 1431655765)) &&& 858993459) + ((((v0 - (((v0 : Int32).toUInt32 >>> ((1 : Int32).toUInt32 &&& Int32.toUInt32 31)).toInt32 &&& 1431655765)) : Int32).toUInt32 >>> ((2 : Int32).toUInt32 &&& Int32.toUInt32 31)).toInt32 &&& 858993459)) : Int32).toUInt32 >>> ((4 : Int32).toUInt32 &&& Int32.toUInt32 31)).toInt32) &&& 252645135) : Int32).toUInt32 >>> ((8 : Int32).toUInt32 &&& Int32.toUInt32 31)).toInt32) + ((((((((v0 - (((v0 : Int32).toUInt32 >>> ((1 : Int32).toUInt32 &&& Int32.toUInt32 31)).toInt32 &&& 1431655765)) &&& 858993459) + ((((v0 - (((v0 : Int32).toUInt32 >>> ((1 : Int32).toUInt32 &&& Int32.toUInt32 31)).toInt32 &&& 1431655765)) : Int32).toUInt32 >>> ((2 : Int32).toUInt32 &&& Int32.toUInt32 31)).toInt32 &&& 858993459)) + (((((v0 - (((v0 : Int32).toUInt32 >>> ((1 : Int32).toUInt32 &&& Int32.toUInt32 31)).toInt32 &&& 1431655765)) &&& 858993459) + ((((v0 - (((v0 : Int32).toUInt32 >>> ((1 : Int32).toUInt32 &&& Int32.toUInt32 31)).toInt32 &&& 1431655765)) : Int32).toUInt32 >>> ((2 : Int32).toUInt32 &&& Int32.toUInt32 31)).toInt32 &&& 858993459)) : Int32).toUInt32 >>> ((4 : Int32).toUInt32 &&& Int32.toUInt32 31)).toInt32) &&& 252645135) + (((((((v0 - (((v0 : Int32).toUInt32 >>> ((1 : Int32).toUInt32 &&& Int32.toUInt32 31)).toInt32 &&& 1431655765)) &&& 858993459) + ((((v0 - (((v0 : Int32).toUInt32 >>> ((1 : Int32).toUInt32 &&& Int32.toUInt32 31)).toInt32 &&& 1431655765)) : Int32).toUInt32 >>> ((2 : Int32).toUInt32 &&& Int32.toUInt32 31)).toInt32 &&& 858993459)) + (((((v0 - (((v0 : Int32).toUInt32 >>> ((1 : Int32).toUInt32 &&& Int32.toUInt32 31)).toInt32 &&& 1431655765)) &&& 858993459) + ((((v0 - (((v0 : Int32).toUInt32 >>> ((1 : Int32).toUInt32 &&& Int32.toUInt32 31)).toInt32 &&& 1431655765)) : Int32).toUInt32 >>> ((2 : Int32).toUInt32 &&& Int32.toUInt32 31)).toInt32 &&& 858993459)) : Int32).toUInt32 >>> ((4 : Int32).toUInt32 &&& Int32.toUInt32 31)).toInt32) &&& 252645135) : Int32).toUInt32 >>> ((8 : Int32).toUInt32 &&& Int32.toUInt32 31)).toInt32) : Int32).toUInt32 >>> ((16 : Int32).toUInt32 &&& Int32.toUInt32 31)).toInt32) &&& 63)), h) := by
  show pS X 1 (some .int) k_In_bitCount 0 [some (.int v0)] [] h = _
  refine (ss_iload_n rfl rfl).trans ?_
  refine (ss_iload_n rfl rfl).trans ?_
  refine (ss_iconst rfl (v := 1) rfl).trans ?_
  refine (ss_iushr rfl).trans ?_
  refine (ss_ldc_w rfl (v := 1431655765) rfl).trans ?_
  refine (ss_iand rfl).trans ?_
  refine (ss_isub rfl).trans ?_
  refine (ss_istore_n rfl rfl).trans ?_
  refine (ss_iload_n rfl rfl).trans ?_
  refine (ss_ldc_w rfl (v := 858993459) rfl).trans ?_
  refine (ss_iand rfl).trans ?_
  refine (ss_iload_n rfl rfl).trans ?_
  refine (ss_iconst rfl (v := 2) rfl).trans ?_
  refine (ss_iushr rfl).trans ?_
  refine (ss_ldc_w rfl (v := 858993459) rfl).trans ?_
  refine (ss_iand rfl).trans ?_
  refine (ss_iadd rfl).trans ?_
  refine (ss_istore_n rfl rfl).trans ?_
  refine (ss_iload_n rfl rfl).trans ?_
  refine (ss_iload_n rfl rfl).trans ?_
  refine (ss_iconst rfl (v := 4) rfl).trans ?_
  refine (ss_iushr rfl).trans ?_
  refine (ss_iadd rfl).trans ?_
  refine (ss_ldc_w rfl (v := 252645135) rfl).trans ?_
  refine (ss_iand rfl).trans ?_
  refine (ss_istore_n rfl rfl).trans ?_
  refine (ss_iload_n rfl rfl).trans ?_
  refine (ss_iload_n rfl rfl).trans ?_
  refine (ss_bipush rfl (v := 8) rfl).trans ?_
  refine (ss_iushr rfl).trans ?_
  refine (ss_iadd rfl).trans ?_
  refine (ss_istore_n rfl rfl).trans ?_
  refine (ss_iload_n rfl rfl).trans ?_
  refine (ss_iload_n rfl rfl).trans ?_
  refine (ss_bipush rfl (v := 16) rfl).trans ?_
  refine (ss_iushr rfl).trans ?_
  refine (ss_iadd rfl).trans ?_
  refine (ss_istore_n rfl rfl).trans ?_
  refine (ss_iload_n rfl rfl).trans ?_
  refine (ss_bipush rfl (v := 63) rfl).trans ?_
  refine (ss_iand rfl).trans ?_
  exact ss_ireturn rfl
theorem e_In_bitCount (X : pv_X) (v0 : Int32) (h : pv_H) : pM X m_In_bitCount [.int v0] h = f_In_bitCount_0 X v0 h := rfl
noncomputable def f_Ma_floorMod_0 (X : pv_X) (v0 : Int32) (v1 : Int32) (h : pv_H) : Option pv_O := pS X 1 (some .int) k_Ma_floorMod 0 [some (.int v0), some (.int v1), none] [] h
noncomputable def f_Ma_floorMod_18 (X : pv_X) (v0 : Int32) (v1 : Int32) (v2 : Int32) (h : pv_H) : Option pv_O := pS X 1 (some .int) k_Ma_floorMod 18 [some (.int v0), some (.int v1), some (.int v2)] [] h
set_option maxRecDepth 8000 in
theorem u_Ma_floorMod_0 (X : pv_X) (v0 : Int32) (v1 : Int32) (h : pv_H) : f_Ma_floorMod_0 X v0 v1 h =
    if v1 = 0 then none else if 0 ≤ (v0 ^^^ v1) then f_Ma_floorMod_18 X v0 v1 (v0 - v0 / v1 * v1) h else if (v0 - v0 / v1 * v1) = 0 then f_Ma_floorMod_18 X v0 v1 (v0 - v0 / v1 * v1) h else some (some (.int ((v0 - v0 / v1 * v1) + v1)), h) := by
  show pS X 1 (some .int) k_Ma_floorMod 0 [some (.int v0), some (.int v1), none] [] h = _
  refine (ss_iload_n rfl rfl).trans ?_
  refine (ss_iload_n rfl rfl).trans ?_
  refine (ss_iremg rfl).trans ?_
  refine pv_ite rfl ?_
  refine (ss_istore_n rfl rfl).trans ?_
  refine (ss_iload_n rfl rfl).trans ?_
  refine (ss_iload_n rfl rfl).trans ?_
  refine (ss_ixor rfl).trans ?_
  refine (ss_if_ge rfl).trans ?_
  refine pv_ite ?_ ?_
  · rfl
  · refine (ss_iload_n rfl rfl).trans ?_
    refine (ss_if_eq rfl).trans ?_
    refine pv_ite ?_ ?_
    · rfl
    · refine (ss_iload_n rfl rfl).trans ?_
      refine (ss_iload_n rfl rfl).trans ?_
      refine (ss_iadd rfl).trans ?_
      exact ss_ireturn rfl
set_option maxRecDepth 8000 in
theorem u_Ma_floorMod_18 (X : pv_X) (v0 : Int32) (v1 : Int32) (v2 : Int32) (h : pv_H) : f_Ma_floorMod_18 X v0 v1 v2 h =
    some (some (.int v2), h) := by
  show pS X 1 (some .int) k_Ma_floorMod 18 [some (.int v0), some (.int v1), some (.int v2)] [] h = _
  refine (ss_iload_n rfl rfl).trans ?_
  exact ss_ireturn rfl
theorem e_Ma_floorMod (X : pv_X) (v0 : Int32) (v1 : Int32) (h : pv_H) : pM X m_Ma_floorMod [.int v0, .int v1] h = f_Ma_floorMod_0 X v0 v1 h := rfl
noncomputable def f_Ma_abs_0 (X : pv_X) (v0 : Int32) (h : pv_H) : Option pv_O := pS X 1 (some .int) k_Ma_abs 0 [some (.int v0)] [] h
noncomputable def f_Ma_abs_10 (X : pv_X) (v0 : Int32) (s0 : Int32) (h : pv_H) : Option pv_O := pS X 1 (some .int) k_Ma_abs 10 [some (.int v0)] [.int s0] h
set_option maxRecDepth 8000 in
theorem u_Ma_abs_0 (X : pv_X) (v0 : Int32) (h : pv_H) : f_Ma_abs_0 X v0 h =
    if 0 ≤ v0 then f_Ma_abs_10 X v0 v0 h else f_Ma_abs_10 X v0 (-v0) h := by
  show pS X 1 (some .int) k_Ma_abs 0 [some (.int v0)] [] h = _
  refine (ss_iload_n rfl rfl).trans ?_
  refine (ss_if_ge rfl).trans ?_
  refine pv_ite ?_ ?_
  · refine (ss_iload_n rfl rfl).trans ?_
    rfl
  · refine (ss_iload_n rfl rfl).trans ?_
    refine (ss_ineg rfl).trans ?_
    refine (ss_goto rfl).trans ?_
    rfl
set_option maxRecDepth 8000 in
theorem u_Ma_abs_10 (X : pv_X) (v0 : Int32) (s0 : Int32) (h : pv_H) : f_Ma_abs_10 X v0 s0 h =
    some (some (.int s0), h) := by
  show pS X 1 (some .int) k_Ma_abs 10 [some (.int v0)] [.int s0] h = _
  exact ss_ireturn rfl
theorem e_Ma_abs (X : pv_X) (v0 : Int32) (h : pv_H) : pM X m_Ma_abs [.int v0] h = f_Ma_abs_0 X v0 h := rfl
noncomputable def f_Ma_max_0 (X : pv_X) (v0 : Int32) (v1 : Int32) (h : pv_H) : Option pv_O := pS X 1 (some .int) k_Ma_max 0 [some (.int v0), some (.int v1)] [] h
noncomputable def f_Ma_max_10 (X : pv_X) (v0 : Int32) (v1 : Int32) (s0 : Int32) (h : pv_H) : Option pv_O := pS X 1 (some .int) k_Ma_max 10 [some (.int v0), some (.int v1)] [.int s0] h
set_option maxRecDepth 8000 in
theorem u_Ma_max_0 (X : pv_X) (v0 : Int32) (v1 : Int32) (h : pv_H) : f_Ma_max_0 X v0 v1 h =
    if v0 < v1 then f_Ma_max_10 X v0 v1 v1 h else f_Ma_max_10 X v0 v1 v0 h := by
  show pS X 1 (some .int) k_Ma_max 0 [some (.int v0), some (.int v1)] [] h = _
  refine (ss_iload_n rfl rfl).trans ?_
  refine (ss_iload_n rfl rfl).trans ?_
  refine (ss_icmp_lt rfl).trans ?_
  refine pv_ite ?_ ?_
  · refine (ss_iload_n rfl rfl).trans ?_
    rfl
  · refine (ss_iload_n rfl rfl).trans ?_
    refine (ss_goto rfl).trans ?_
    rfl
set_option maxRecDepth 8000 in
theorem u_Ma_max_10 (X : pv_X) (v0 : Int32) (v1 : Int32) (s0 : Int32) (h : pv_H) : f_Ma_max_10 X v0 v1 s0 h =
    some (some (.int s0), h) := by
  show pS X 1 (some .int) k_Ma_max 10 [some (.int v0), some (.int v1)] [.int s0] h = _
  exact ss_ireturn rfl
theorem e_Ma_max (X : pv_X) (v0 : Int32) (v1 : Int32) (h : pv_H) : pM X m_Ma_max [.int v0, .int v1] h = f_Ma_max_0 X v0 v1 h := rfl
noncomputable def f_Ma_min_0 (X : pv_X) (v0 : Int32) (v1 : Int32) (h : pv_H) : Option pv_O := pS X 1 (some .int) k_Ma_min 0 [some (.int v0), some (.int v1)] [] h
noncomputable def f_Ma_min_10 (X : pv_X) (v0 : Int32) (v1 : Int32) (s0 : Int32) (h : pv_H) : Option pv_O := pS X 1 (some .int) k_Ma_min 10 [some (.int v0), some (.int v1)] [.int s0] h
set_option maxRecDepth 8000 in
theorem u_Ma_min_0 (X : pv_X) (v0 : Int32) (v1 : Int32) (h : pv_H) : f_Ma_min_0 X v0 v1 h =
    if v1 < v0 then f_Ma_min_10 X v0 v1 v1 h else f_Ma_min_10 X v0 v1 v0 h := by
  show pS X 1 (some .int) k_Ma_min 0 [some (.int v0), some (.int v1)] [] h = _
  refine (ss_iload_n rfl rfl).trans ?_
  refine (ss_iload_n rfl rfl).trans ?_
  refine (ss_icmp_gt rfl).trans ?_
  refine pv_ite ?_ ?_
  · refine (ss_iload_n rfl rfl).trans ?_
    rfl
  · refine (ss_iload_n rfl rfl).trans ?_
    refine (ss_goto rfl).trans ?_
    rfl
set_option maxRecDepth 8000 in
theorem u_Ma_min_10 (X : pv_X) (v0 : Int32) (v1 : Int32) (s0 : Int32) (h : pv_H) : f_Ma_min_10 X v0 v1 s0 h =
    some (some (.int s0), h) := by
  show pS X 1 (some .int) k_Ma_min 10 [some (.int v0), some (.int v1)] [.int s0] h = _
  exact ss_ireturn rfl
theorem e_Ma_min (X : pv_X) (v0 : Int32) (v1 : Int32) (h : pv_H) : pM X m_Ma_min [.int v0, .int v1] h = f_Ma_min_0 X v0 v1 h := rfl
noncomputable def f_Ar_fill_0 (X : pv_X) (v0 : Nat) (v1 : Int32) (h : pv_H) : Option pv_O := pS X 1 (none) k_Ar_fill 0 [some (.ref v0), some (.int v1), none, none] [] h
noncomputable def f_Ar_fill_5 (X : pv_X) (v0 : Nat) (v1 : Int32) (v2 : Int32) (v3 : Int32) (h : pv_H) : Option pv_O := pS X 1 (none) k_Ar_fill 5 [some (.ref v0), some (.int v1), some (.int v2), some (.int v3)] [] h
set_option maxRecDepth 8000 in
theorem u_Ar_fill_0 (X : pv_X) (v0 : Nat) (v1 : Int32) (h : pv_H) : f_Ar_fill_0 X v0 v1 h =
    (pv_len X h v0).bind (fun x1 => f_Ar_fill_5 X v0 v1 0 x1 h) := by
  show pS X 1 (none) k_Ar_fill 0 [some (.ref v0), some (.int v1), none, none] [] h = _
  refine (ss_iconst rfl (v := 0) rfl).trans ?_
  refine (ss_istore_n rfl rfl).trans ?_
  refine (ss_aload_n rfl rfl).trans ?_
  refine (ss_arraylength rfl).trans ?_
  refine congrArg (Option.bind _) (funext fun x1 => ?_)
  refine (ss_istore_n rfl rfl).trans ?_
  rfl
set_option maxRecDepth 8000 in
theorem u_Ar_fill_5 (X : pv_X) (v0 : Nat) (v1 : Int32) (v2 : Int32) (v3 : Int32) (h : pv_H) : f_Ar_fill_5 X v0 v1 v2 v3 h =
    if v3 ≤ v2 then some (none, h) else (pv_sI h v0 v2 v1).bind (fun h1 => f_Ar_fill_5 X v0 v1 (v2 + 1) v3 h1) := by
  show pS X 1 (none) k_Ar_fill 5 [some (.ref v0), some (.int v1), some (.int v2), some (.int v3)] [] h = _
  refine (ss_iload_n rfl rfl).trans ?_
  refine (ss_iload_n rfl rfl).trans ?_
  refine (ss_icmp_ge rfl).trans ?_
  refine pv_ite ?_ ?_
  · exact ss_return rfl
  · refine (ss_aload_n rfl rfl).trans ?_
    refine (ss_iload_n rfl rfl).trans ?_
    refine (ss_iload_n rfl rfl).trans ?_
    refine (ss_iastore rfl).trans ?_
    refine congrArg (Option.bind _) (funext fun h1 => ?_)
    refine (ss_iinc3 rfl rfl (v := v2 + 1) (congrArg (HAdd.hAdd _) (show Int32.ofInt (1) = 1 by decide)) rfl).trans ?_
    refine (ss_goto rfl).trans ?_
    rfl
theorem e_Ar_fill (X : pv_X) (v0 : Nat) (v1 : Int32) (h : pv_H) : pM X m_Ar_fill [.ref v0, .int v1] h = f_Ar_fill_0 X v0 v1 h := rfl
