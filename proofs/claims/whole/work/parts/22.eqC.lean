noncomputable def f_Wp_init_0 (X : pv_X) (v0 : Nat) (h : pv_H) : Option pv_O := pS X 3 (none) k_Wp_init 0 [some (.ref v0), none] [] h
noncomputable def f_Wp_init_163 (X : pv_X) (v0 : Nat) (v1 : Int32) (h : pv_H) : Option pv_O := pS X 3 (none) k_Wp_init 163 [some (.ref v0), some (.int v1)] [] h
set_option maxRecDepth 8000 in
theorem u_Wp_init_0 (X : pv_X) (v0 : Nat) (h : pv_H) : f_Wp_init_0 X v0 h =
    (pv_no h 9 (pv_dft 9)).bind (fun h1 => if pv_rc h1 h.length 9 = true then (pv_tV (pM X m_Tp_init [.ref h.length] h1)).bind (fun h2 => (pv_fp h2 v0 10 0 (.ref h.length)).bind (fun h3 => (pv_no h3 6 (pv_dft 6)).bind (fun h4 => if pv_rc h4 h3.length 6 = true then (pv_tV (pM X m_Po_init [.ref h3.length] h4)).bind (fun h5 => (pv_fp h5 v0 10 1 (.ref h3.length)).bind (fun h6 => (pv_no h6 6 (pv_dft 6)).bind (fun h7 => if pv_rc h7 h6.length 6 = true then (pv_tV (pM X m_Po_init [.ref h6.length] h7)).bind (fun h8 => (pv_fp h8 v0 10 2 (.ref h6.length)).bind (fun h9 => (pv_no h9 1 (pv_dft 1)).bind (fun h10 => if pv_rc h10 h9.length 1 = true then (pv_tV (pM X m_Da_init [.ref h9.length] h10)).bind (fun h11 => (pv_fp h11 v0 10 3 (.ref h9.length)).bind (fun h12 => (pv_no h12 1 (pv_dft 1)).bind (fun h13 => if pv_rc h13 h12.length 1 = true then (pv_tV (pM X m_Da_init [.ref h12.length] h13)).bind (fun h14 => (pv_fp h14 v0 10 4 (.ref h12.length)).bind (fun h15 => (pv_no h15 7 (pv_dft 7)).bind (fun h16 => if pv_rc h16 h15.length 7 = true then (pv_tV (pM X m_St_init [.ref h15.length] h16)).bind (fun h17 => (pv_fp h17 v0 10 5 (.ref h15.length)).bind (fun h18 => (pv_no h18 7 (pv_dft 7)).bind (fun h19 => if pv_rc h19 h18.length 7 = true then (pv_tV (pM X m_St_init [.ref h18.length] h19)).bind (fun h20 => (pv_fp h20 v0 10 6 (.ref h18.length)).bind (fun h21 => (pv_no h21 3 (pv_dft 3)).bind (fun h22 => if pv_rc h22 h21.length 3 = true then (pv_tV (pM X m_Hi_init [.ref h21.length] h22)).bind (fun h23 => (pv_fp h23 v0 10 7 (.ref h21.length)).bind (fun h24 => (pv_no h24 0 (pv_dft 0)).bind (fun h25 => if pv_rc h25 h24.length 0 = true then (pv_tV (pM X m_Cl_init [.ref h24.length] h25)).bind (fun h26 => (pv_fp h26 v0 10 8 (.ref h24.length)).bind (fun h27 => (pv_no h27 0 (pv_dft 0)).bind (fun h28 => if pv_rc h28 h27.length 0 = true then (pv_tV (pM X m_Cl_init [.ref h27.length] h28)).bind (fun h29 => (pv_fp h29 v0 10 9 (.ref h27.length)).bind (fun h30 => (pv_na h30 4 4).bind (fun h31 => (pv_fp h31 v0 10 10 (.ref h30.length)).bind (fun h32 => (pv_no h32 8 (pv_dft 8)).bind (fun h33 => if pv_rc h33 h32.length 8 = true then (pv_tV (pM X m_Ta_init [.ref h32.length] h33)).bind (fun h34 => (pv_fp h34 v0 10 11 (.ref h32.length)).bind (fun h35 => (pv_no h35 2 (pv_dft 2)).bind (fun h36 => if pv_rc h36 h35.length 2 = true then (pv_tV (pM X m_Dr_init [.ref h35.length] h36)).bind (fun h37 => (pv_fp h37 v0 10 12 (.ref h35.length)).bind (fun h38 => (pv_na h38 1 6).bind (fun h39 => (pv_fp h39 v0 10 13 (.ref h38.length)).bind (fun h40 => (pv_na h40 1 750).bind (fun h41 => (pv_fp h41 v0 10 14 (.ref h40.length)).bind (fun h42 => f_Wp_init_163 X v0 0 h42)))))) else none))) else none))))) else none))) else none))) else none))) else none))) else none))) else none))) else none))) else none))) else none))) else none) := by
  show pS X 3 (none) k_Wp_init 0 [some (.ref v0), none] [] h = _
  refine (ss_aload_n rfl rfl).trans ?_
  refine (ss_oinit rfl (by decide)).trans ?_
  refine (ss_aload_n rfl rfl).trans ?_
  refine (ss_new rfl).trans ?_
  refine congrArg (Option.bind _) (funext fun h1 => ?_)
  refine (ss_dupR rfl).trans ?_
  refine (ss_callIN (as := []) rfl t_Tp_init (by decide) (by decide) rfl rfl (by simp [Value.category]) rfl ⟨Nat.le_of_ble_eq_true rfl, Nat.le_of_ble_eq_true rfl⟩).trans ?_
  refine pv_ite ?_ rfl
  refine congrArg (Option.bind _) (funext fun h2 => ?_)
  refine (ss_putR rfl).trans ?_
  refine congrArg (Option.bind _) (funext fun h3 => ?_)
  refine (ss_aload_n rfl rfl).trans ?_
  refine (ss_new rfl).trans ?_
  refine congrArg (Option.bind _) (funext fun h4 => ?_)
  refine (ss_dupR rfl).trans ?_
  refine (ss_callIN (as := []) rfl t_Po_init (by decide) (by decide) rfl rfl (by simp [Value.category]) rfl ⟨Nat.le_of_ble_eq_true rfl, Nat.le_of_ble_eq_true rfl⟩).trans ?_
  refine pv_ite ?_ rfl
  refine congrArg (Option.bind _) (funext fun h5 => ?_)
  refine (ss_putR rfl).trans ?_
  refine congrArg (Option.bind _) (funext fun h6 => ?_)
  refine (ss_aload_n rfl rfl).trans ?_
  refine (ss_new rfl).trans ?_
  refine congrArg (Option.bind _) (funext fun h7 => ?_)
  refine (ss_dupR rfl).trans ?_
  refine (ss_callIN (as := []) rfl t_Po_init (by decide) (by decide) rfl rfl (by simp [Value.category]) rfl ⟨Nat.le_of_ble_eq_true rfl, Nat.le_of_ble_eq_true rfl⟩).trans ?_
  refine pv_ite ?_ rfl
  refine congrArg (Option.bind _) (funext fun h8 => ?_)
  refine (ss_putR rfl).trans ?_
  refine congrArg (Option.bind _) (funext fun h9 => ?_)
  refine (ss_aload_n rfl rfl).trans ?_
  refine (ss_new rfl).trans ?_
  refine congrArg (Option.bind _) (funext fun h10 => ?_)
  refine (ss_dupR rfl).trans ?_
  refine (ss_callIN (as := []) rfl t_Da_init (by decide) (by decide) rfl rfl (by simp [Value.category]) rfl ⟨Nat.le_of_ble_eq_true rfl, Nat.le_of_ble_eq_true rfl⟩).trans ?_
  refine pv_ite ?_ rfl
  refine congrArg (Option.bind _) (funext fun h11 => ?_)
  refine (ss_putR rfl).trans ?_
  refine congrArg (Option.bind _) (funext fun h12 => ?_)
  refine (ss_aload_n rfl rfl).trans ?_
  refine (ss_new rfl).trans ?_
  refine congrArg (Option.bind _) (funext fun h13 => ?_)
  refine (ss_dupR rfl).trans ?_
  refine (ss_callIN (as := []) rfl t_Da_init (by decide) (by decide) rfl rfl (by simp [Value.category]) rfl ⟨Nat.le_of_ble_eq_true rfl, Nat.le_of_ble_eq_true rfl⟩).trans ?_
  refine pv_ite ?_ rfl
  refine congrArg (Option.bind _) (funext fun h14 => ?_)
  refine (ss_putR rfl).trans ?_
  refine congrArg (Option.bind _) (funext fun h15 => ?_)
  refine (ss_aload_n rfl rfl).trans ?_
  refine (ss_new rfl).trans ?_
  refine congrArg (Option.bind _) (funext fun h16 => ?_)
  refine (ss_dupR rfl).trans ?_
  refine (ss_callIN (as := []) rfl t_St_init (by decide) (by decide) rfl rfl (by simp [Value.category]) rfl ⟨Nat.le_of_ble_eq_true rfl, Nat.le_of_ble_eq_true rfl⟩).trans ?_
  refine pv_ite ?_ rfl
  refine congrArg (Option.bind _) (funext fun h17 => ?_)
  refine (ss_putR rfl).trans ?_
  refine congrArg (Option.bind _) (funext fun h18 => ?_)
  refine (ss_aload_n rfl rfl).trans ?_
  refine (ss_new rfl).trans ?_
  refine congrArg (Option.bind _) (funext fun h19 => ?_)
  refine (ss_dupR rfl).trans ?_
  refine (ss_callIN (as := []) rfl t_St_init (by decide) (by decide) rfl rfl (by simp [Value.category]) rfl ⟨Nat.le_of_ble_eq_true rfl, Nat.le_of_ble_eq_true rfl⟩).trans ?_
  refine pv_ite ?_ rfl
  refine congrArg (Option.bind _) (funext fun h20 => ?_)
  refine (ss_putR rfl).trans ?_
  refine congrArg (Option.bind _) (funext fun h21 => ?_)
  refine (ss_aload_n rfl rfl).trans ?_
  refine (ss_new rfl).trans ?_
  refine congrArg (Option.bind _) (funext fun h22 => ?_)
  refine (ss_dupR rfl).trans ?_
  refine (ss_callIN (as := []) rfl t_Hi_init (by decide) (by decide) rfl rfl (by simp [Value.category]) rfl ⟨Nat.le_of_ble_eq_true rfl, Nat.le_of_ble_eq_true rfl⟩).trans ?_
  refine pv_ite ?_ rfl
  refine congrArg (Option.bind _) (funext fun h23 => ?_)
  refine (ss_putR rfl).trans ?_
  refine congrArg (Option.bind _) (funext fun h24 => ?_)
  refine (ss_aload_n rfl rfl).trans ?_
  refine (ss_new rfl).trans ?_
  refine congrArg (Option.bind _) (funext fun h25 => ?_)
  refine (ss_dupR rfl).trans ?_
  refine (ss_callIN (as := []) rfl t_Cl_init (by decide) (by decide) rfl rfl (by simp [Value.category]) rfl ⟨Nat.le_of_ble_eq_true rfl, Nat.le_of_ble_eq_true rfl⟩).trans ?_
  refine pv_ite ?_ rfl
  refine congrArg (Option.bind _) (funext fun h26 => ?_)
  refine (ss_putR rfl).trans ?_
  refine congrArg (Option.bind _) (funext fun h27 => ?_)
  refine (ss_aload_n rfl rfl).trans ?_
  refine (ss_new rfl).trans ?_
  refine congrArg (Option.bind _) (funext fun h28 => ?_)
  refine (ss_dupR rfl).trans ?_
  refine (ss_callIN (as := []) rfl t_Cl_init (by decide) (by decide) rfl rfl (by simp [Value.category]) rfl ⟨Nat.le_of_ble_eq_true rfl, Nat.le_of_ble_eq_true rfl⟩).trans ?_
  refine pv_ite ?_ rfl
  refine congrArg (Option.bind _) (funext fun h29 => ?_)
  refine (ss_putR rfl).trans ?_
  refine congrArg (Option.bind _) (funext fun h30 => ?_)
  refine (ss_aload_n rfl rfl).trans ?_
  refine (ss_iconst rfl (v := 4) rfl).trans ?_
  refine (ss_anewarray (by decide) rfl).trans ?_
  refine congrArg (Option.bind _) (funext fun h31 => ?_)
  refine (ss_putR rfl).trans ?_
  refine congrArg (Option.bind _) (funext fun h32 => ?_)
  refine (ss_aload_n rfl rfl).trans ?_
  refine (ss_new rfl).trans ?_
  refine congrArg (Option.bind _) (funext fun h33 => ?_)
  refine (ss_dupR rfl).trans ?_
  refine (ss_callIN (as := []) rfl t_Ta_init (by decide) (by decide) rfl rfl (by simp [Value.category]) rfl ⟨Nat.le_of_ble_eq_true rfl, Nat.le_of_ble_eq_true rfl⟩).trans ?_
  refine pv_ite ?_ rfl
  refine congrArg (Option.bind _) (funext fun h34 => ?_)
  refine (ss_putR rfl).trans ?_
  refine congrArg (Option.bind _) (funext fun h35 => ?_)
  refine (ss_aload_n rfl rfl).trans ?_
  refine (ss_new rfl).trans ?_
  refine congrArg (Option.bind _) (funext fun h36 => ?_)
  refine (ss_dupR rfl).trans ?_
  refine (ss_callIN (as := []) rfl t_Dr_init (by decide) (by decide) rfl rfl (by simp [Value.category]) rfl ⟨Nat.le_of_ble_eq_true rfl, Nat.le_of_ble_eq_true rfl⟩).trans ?_
  refine pv_ite ?_ rfl
  refine congrArg (Option.bind _) (funext fun h37 => ?_)
  refine (ss_putR rfl).trans ?_
  refine congrArg (Option.bind _) (funext fun h38 => ?_)
  refine (ss_aload_n rfl rfl).trans ?_
  refine (ss_bipush rfl (v := 6) rfl).trans ?_
  refine (ss_newarray (by decide) rfl).trans ?_
  refine congrArg (Option.bind _) (funext fun h39 => ?_)
  refine (ss_putR rfl).trans ?_
  refine congrArg (Option.bind _) (funext fun h40 => ?_)
  refine (ss_aload_n rfl rfl).trans ?_
  refine (ss_sipush rfl (v := 750) rfl).trans ?_
  refine (ss_newarray (by decide) rfl).trans ?_
  refine congrArg (Option.bind _) (funext fun h41 => ?_)
  refine (ss_putR rfl).trans ?_
  refine congrArg (Option.bind _) (funext fun h42 => ?_)
  refine (ss_iconst rfl (v := 0) rfl).trans ?_
  refine (ss_istore_n rfl rfl).trans ?_
  rfl
set_option maxRecDepth 8000 in
theorem u_Wp_init_163 (X : pv_X) (v0 : Nat) (v1 : Int32) (h : pv_H) : f_Wp_init_163 X v0 v1 h =
    if 4 ≤ v1 then some (none, h) else (pv_fR h v0 10 10).bind (fun x1 => (pv_no h 4 (pv_dft 4)).bind (fun h2 => if pv_rc h2 h.length 4 = true then (pv_tV (pM X m_Mk_init [.ref h.length] h2)).bind (fun h3 => (pv_sR h3 x1 v1 h.length).bind (fun h4 => f_Wp_init_163 X v0 (v1 + 1) h4)) else none)) := by
  show pS X 3 (none) k_Wp_init 163 [some (.ref v0), some (.int v1)] [] h = _
  refine (ss_iload_n rfl rfl).trans ?_
  refine (ss_iconst rfl (v := 4) rfl).trans ?_
  refine (ss_icmp_ge rfl).trans ?_
  refine pv_ite ?_ ?_
  · exact ss_return rfl
  · refine (ss_aload_n rfl rfl).trans ?_
    refine (ss_getR rfl).trans ?_
    refine congrArg (Option.bind _) (funext fun x1 => ?_)
    refine (ss_iload_n rfl rfl).trans ?_
    refine (ss_new rfl).trans ?_
    refine congrArg (Option.bind _) (funext fun h2 => ?_)
    refine (ss_dupR rfl).trans ?_
    refine (ss_callIN (as := []) rfl t_Mk_init (by decide) (by decide) rfl rfl (by simp [Value.category]) rfl ⟨Nat.le_of_ble_eq_true rfl, Nat.le_of_ble_eq_true rfl⟩).trans ?_
    refine pv_ite ?_ rfl
    refine congrArg (Option.bind _) (funext fun h3 => ?_)
    refine (ss_aastore rfl).trans ?_
    refine congrArg (Option.bind _) (funext fun h4 => ?_)
    refine (ss_iinc3 rfl rfl (v := v1 + 1) (congrArg (HAdd.hAdd _) (show Int32.ofInt (1) = 1 by decide)) rfl).trans ?_
    refine (ss_goto rfl).trans ?_
    rfl
theorem e_Wp_init (X : pv_X) (v0 : Nat) (h : pv_H) : pM X m_Wp_init [.ref v0] h = f_Wp_init_0 X v0 h := rfl
noncomputable def f_Wp_feed_0 (X : pv_X) (v0 : Nat) (v1 : Int64) (v3 : Int64) (v5 : Int64) (h : pv_H) : Option pv_O := pS X 2 (some .int) k_Wp_feed 0 [some (.ref v0), some (.long v1), none, some (.long v3), none, some (.long v5), none] [] h
set_option maxRecDepth 8000 in
theorem u_Wp_feed_0 (X : pv_X) (v0 : Nat) (v1 : Int64) (v3 : Int64) (v5 : Int64) (h : pv_H) : f_Wp_feed_0 X v0 v1 v3 v5 h =
    (pv_fR h v0 10 0).bind (fun x1 => if pv_rc h x1 9 = true then (pv_tV (pM X m_Tp_addBytes [.ref x1, .long v1] h)).bind (fun h2 => (pv_fR h2 v0 10 0).bind (fun x3 => if pv_rc h2 x3 9 = true then (pv_tV (pM X m_Tp_addBytes [.ref x3, .long v3] h2)).bind (fun h4 => (pv_fR h4 v0 10 0).bind (fun x5 => if pv_rc h4 x5 9 = true then (pv_tV (pM X m_Tp_addBytes [.ref x5, .long v5] h4)).bind (fun h6 => (pv_fR h6 v0 10 0).bind (fun x7 => (pv_fI h6 x7 9 1).bind (fun x8 => some (some (.int x8), h6)))) else none)) else none)) else none) := by
  show pS X 2 (some .int) k_Wp_feed 0 [some (.ref v0), some (.long v1), none, some (.long v3), none, some (.long v5), none] [] h = _
  refine (ss_aload_n rfl rfl).trans ?_
  refine (ss_getR rfl).trans ?_
  refine congrArg (Option.bind _) (funext fun x1 => ?_)
  refine (ss_lload_n rfl rfl).trans ?_
  refine (ss_callVN (as := [.long v1]) rfl t_Tp_addBytes (by decide) rfl rfl (by decide) rfl ⟨Nat.le_of_ble_eq_true rfl, Nat.le_of_ble_eq_true rfl⟩).trans ?_
  refine pv_ite ?_ rfl
  refine congrArg (Option.bind _) (funext fun h2 => ?_)
  refine (ss_aload_n rfl rfl).trans ?_
  refine (ss_getR rfl).trans ?_
  refine congrArg (Option.bind _) (funext fun x3 => ?_)
  refine (ss_lload_n rfl rfl).trans ?_
  refine (ss_callVN (as := [.long v3]) rfl t_Tp_addBytes (by decide) rfl rfl (by decide) rfl ⟨Nat.le_of_ble_eq_true rfl, Nat.le_of_ble_eq_true rfl⟩).trans ?_
  refine pv_ite ?_ rfl
  refine congrArg (Option.bind _) (funext fun h4 => ?_)
  refine (ss_aload_n rfl rfl).trans ?_
  refine (ss_getR rfl).trans ?_
  refine congrArg (Option.bind _) (funext fun x5 => ?_)
  refine (ss_lload rfl rfl).trans ?_
  refine (ss_callVN (as := [.long v5]) rfl t_Tp_addBytes (by decide) rfl rfl (by decide) rfl ⟨Nat.le_of_ble_eq_true rfl, Nat.le_of_ble_eq_true rfl⟩).trans ?_
  refine pv_ite ?_ rfl
  refine congrArg (Option.bind _) (funext fun h6 => ?_)
  refine (ss_aload_n rfl rfl).trans ?_
  refine (ss_getR rfl).trans ?_
  refine congrArg (Option.bind _) (funext fun x7 => ?_)
  refine (ss_getI rfl).trans ?_
  refine congrArg (Option.bind _) (funext fun x8 => ?_)
  exact ss_ireturn rfl
theorem e_Wp_feed (X : pv_X) (v0 : Nat) (v1 : Int64) (v3 : Int64) (v5 : Int64) (h : pv_H) : pM X m_Wp_feed [.ref v0, .long v1, .long v3, .long v5] h = f_Wp_feed_0 X v0 v1 v3 v5 h := rfl
noncomputable def f_Wp_port_0 (X : pv_X) (v0 : Nat) (h : pv_H) : Option pv_O := pS X 58 (some .int) k_Wp_port 0 [some (.ref v0), none, none] [] h
noncomputable def f_Wp_port_45 (X : pv_X) (v0 : Nat) (v1 : Int32) (o2 : Option Value) (h : pv_H) : Option pv_O := pS X 58 (some .int) k_Wp_port 45 [some (.ref v0), some (.int v1), o2] [] h
set_option maxRecDepth 8000 in
theorem u_Wp_port_0 (X : pv_X) (v0 : Nat) (h : pv_H) : f_Wp_port_0 X v0 h =
    (pv_fR h v0 10 2).bind (fun x1 => (pv_fR h v0 10 0).bind (fun x2 => if pv_rc h x1 6 = true then (pv_tI (pM X m_Po_readFrom [.ref x1, .ref x2] h)).bind (fun q3 => (pv_fR q3.2 v0 10 0).bind (fun x4 => if pv_rc q3.2 x4 9 = true then (pv_tV (pM X m_Tp_empty [.ref x4] q3.2)).bind (fun h5 => if ¬ q3.1 = 0 then f_Wp_port_45 X v0 q3.1 none h5 else (pv_fR h5 v0 10 1).bind (fun x6 => (pv_fR h5 v0 10 2).bind (fun x7 => (pv_fp h5 v0 10 1 (.ref x7)).bind (fun h8 => (pv_fp h8 v0 10 2 (.ref x6)).bind (fun h9 => if pv_rc h9 v0 10 = true then (pv_tV (pM X m_Wp_startAnew [.ref v0] h9)).bind (fun h10 => f_Wp_port_45 X v0 q3.1 (some (.ref x6)) h10) else none))))) else none)) else none)) := by
  show pS X 58 (some .int) k_Wp_port 0 [some (.ref v0), none, none] [] h = _
  refine (ss_aload_n rfl rfl).trans ?_
  refine (ss_getR rfl).trans ?_
  refine congrArg (Option.bind _) (funext fun x1 => ?_)
  refine (ss_aload_n rfl rfl).trans ?_
  refine (ss_getR rfl).trans ?_
  refine congrArg (Option.bind _) (funext fun x2 => ?_)
  refine (ss_callVI (as := [.ref x2]) rfl t_Po_readFrom (by decide) rfl rfl (by decide) (Or.inl rfl) ⟨Nat.le_of_ble_eq_true rfl, Nat.le_of_ble_eq_true rfl⟩).trans ?_
  refine pv_ite ?_ rfl
  refine congrArg (Option.bind _) (funext fun q3 => ?_)
  refine (ss_istore_n rfl rfl).trans ?_
  refine (ss_aload_n rfl rfl).trans ?_
  refine (ss_getR rfl).trans ?_
  refine congrArg (Option.bind _) (funext fun x4 => ?_)
  refine (ss_callVN (as := []) rfl t_Tp_empty (by decide) rfl rfl (by decide) rfl ⟨Nat.le_of_ble_eq_true rfl, Nat.le_of_ble_eq_true rfl⟩).trans ?_
  refine pv_ite ?_ rfl
  refine congrArg (Option.bind _) (funext fun h5 => ?_)
  refine (ss_iload_n rfl rfl).trans ?_
  refine (ss_if_ne rfl).trans ?_
  refine pv_ite ?_ ?_
  · rfl
  · refine (ss_aload_n rfl rfl).trans ?_
    refine (ss_getR rfl).trans ?_
    refine congrArg (Option.bind _) (funext fun x6 => ?_)
    refine (ss_astore_n rfl rfl).trans ?_
    refine (ss_aload_n rfl rfl).trans ?_
    refine (ss_aload_n rfl rfl).trans ?_
    refine (ss_getR rfl).trans ?_
    refine congrArg (Option.bind _) (funext fun x7 => ?_)
    refine (ss_putR rfl).trans ?_
    refine congrArg (Option.bind _) (funext fun h8 => ?_)
    refine (ss_aload_n rfl rfl).trans ?_
    refine (ss_aload_n rfl rfl).trans ?_
    refine (ss_putR rfl).trans ?_
    refine congrArg (Option.bind _) (funext fun h9 => ?_)
    refine (ss_aload_n rfl rfl).trans ?_
    refine (ss_callVN (as := []) rfl t_Wp_startAnew (by decide) rfl rfl (by decide) rfl ⟨Nat.le_of_ble_eq_true rfl, Nat.le_of_ble_eq_true rfl⟩).trans ?_
    refine pv_ite ?_ rfl
    refine congrArg (Option.bind _) (funext fun h10 => ?_)
    rfl
set_option maxRecDepth 8000 in
theorem u_Wp_port_45 (X : pv_X) (v0 : Nat) (v1 : Int32) (o2 : Option Value) (h : pv_H) : f_Wp_port_45 X v0 v1 o2 h =
    some (some (.int v1), h) := by
  show pS X 58 (some .int) k_Wp_port 45 [some (.ref v0), some (.int v1), o2] [] h = _
  refine (ss_iload_n rfl rfl).trans ?_
  exact ss_ireturn rfl
theorem e_Wp_port (X : pv_X) (v0 : Nat) (h : pv_H) : pM X m_Wp_port [.ref v0] h = f_Wp_port_0 X v0 h := rfl
noncomputable def f_Wp_startAnew_0 (X : pv_X) (v0 : Nat) (h : pv_H) : Option pv_O := pS X 2 (none) k_Wp_startAnew 0 [some (.ref v0), none] [] h
noncomputable def f_Wp_startAnew_48 (X : pv_X) (v0 : Nat) (v1 : Int32) (h : pv_H) : Option pv_O := pS X 2 (none) k_Wp_startAnew 48 [some (.ref v0), some (.int v1)] [] h
set_option maxRecDepth 8000 in
theorem u_Wp_startAnew_0 (X : pv_X) (v0 : Nat) (h : pv_H) : f_Wp_startAnew_0 X v0 h =
    (pv_fR h v0 10 5).bind (fun x1 => (pv_fR h v0 10 1).bind (fun x2 => (pv_fR h x2 6 5).bind (fun x3 => if pv_rc h x1 7 = true then (pv_tV (pM X m_St_copy [.ref x1, .ref x3] h)).bind (fun h4 => (pv_fR h4 v0 10 3).bind (fun x5 => (pv_fp h4 x5 1 3 (.int 0)).bind (fun h6 => (pv_fR h6 v0 10 8).bind (fun x7 => (pv_fp h6 x7 0 3 (.int 0)).bind (fun h8 => (pv_fR h8 v0 10 9).bind (fun x9 => (pv_fp h8 x9 0 3 (.int 0)).bind (fun h10 => (pv_fR h10 v0 10 7).bind (fun x11 => (pv_fp h10 x11 3 2 (.int 0)).bind (fun h12 => f_Wp_startAnew_48 X v0 0 h12))))))))) else none))) := by
  show pS X 2 (none) k_Wp_startAnew 0 [some (.ref v0), none] [] h = _
  refine (ss_aload_n rfl rfl).trans ?_
  refine (ss_getR rfl).trans ?_
  refine congrArg (Option.bind _) (funext fun x1 => ?_)
  refine (ss_aload_n rfl rfl).trans ?_
  refine (ss_getR rfl).trans ?_
  refine congrArg (Option.bind _) (funext fun x2 => ?_)
  refine (ss_getR rfl).trans ?_
  refine congrArg (Option.bind _) (funext fun x3 => ?_)
  refine (ss_callVN (as := [.ref x3]) rfl t_St_copy (by decide) rfl rfl (by decide) rfl ⟨Nat.le_of_ble_eq_true rfl, Nat.le_of_ble_eq_true rfl⟩).trans ?_
  refine pv_ite ?_ rfl
  refine congrArg (Option.bind _) (funext fun h4 => ?_)
  refine (ss_aload_n rfl rfl).trans ?_
  refine (ss_getR rfl).trans ?_
  refine congrArg (Option.bind _) (funext fun x5 => ?_)
  refine (ss_iconst rfl (v := 0) rfl).trans ?_
  refine (ss_putI rfl).trans ?_
  refine congrArg (Option.bind _) (funext fun h6 => ?_)
  refine (ss_aload_n rfl rfl).trans ?_
  refine (ss_getR rfl).trans ?_
  refine congrArg (Option.bind _) (funext fun x7 => ?_)
  refine (ss_iconst rfl (v := 0) rfl).trans ?_
  refine (ss_putI rfl).trans ?_
  refine congrArg (Option.bind _) (funext fun h8 => ?_)
  refine (ss_aload_n rfl rfl).trans ?_
  refine (ss_getR rfl).trans ?_
  refine congrArg (Option.bind _) (funext fun x9 => ?_)
  refine (ss_iconst rfl (v := 0) rfl).trans ?_
  refine (ss_putI rfl).trans ?_
  refine congrArg (Option.bind _) (funext fun h10 => ?_)
  refine (ss_aload_n rfl rfl).trans ?_
  refine (ss_getR rfl).trans ?_
  refine congrArg (Option.bind _) (funext fun x11 => ?_)
  refine (ss_iconst rfl (v := 0) rfl).trans ?_
  refine (ss_putI rfl).trans ?_
  refine congrArg (Option.bind _) (funext fun h12 => ?_)
  refine (ss_iconst rfl (v := 0) rfl).trans ?_
  refine (ss_istore_n rfl rfl).trans ?_
  rfl
set_option maxRecDepth 8000 in
theorem u_Wp_startAnew_48 (X : pv_X) (v0 : Nat) (v1 : Int32) (h : pv_H) : f_Wp_startAnew_48 X v0 v1 h =
    if 4 ≤ v1 then some (none, h) else (pv_fR h v0 10 10).bind (fun x1 => (pv_aR h x1 v1).bind (fun x2 => (pv_fp h x2 4 3 (.int 0)).bind (fun h3 => f_Wp_startAnew_48 X v0 (v1 + 1) h3))) := by
  show pS X 2 (none) k_Wp_startAnew 48 [some (.ref v0), some (.int v1)] [] h = _
  refine (ss_iload_n rfl rfl).trans ?_
  refine (ss_iconst rfl (v := 4) rfl).trans ?_
  refine (ss_icmp_ge rfl).trans ?_
  refine pv_ite ?_ ?_
  · exact ss_return rfl
  · refine (ss_aload_n rfl rfl).trans ?_
    refine (ss_getR rfl).trans ?_
    refine congrArg (Option.bind _) (funext fun x1 => ?_)
    refine (ss_iload_n rfl rfl).trans ?_
    refine (ss_aaload rfl).trans ?_
    refine congrArg (Option.bind _) (funext fun x2 => ?_)
    refine (ss_iconst rfl (v := 0) rfl).trans ?_
    refine ((ss_putZ rfl).trans (if_pos (by decide))).trans ?_
    refine congrArg (Option.bind _) (funext fun h3 => ?_)
    refine (ss_iinc3 rfl rfl (v := v1 + 1) (congrArg (HAdd.hAdd _) (show Int32.ofInt (1) = 1 by decide)) rfl).trans ?_
    refine (ss_goto rfl).trans ?_
    rfl
theorem e_Wp_startAnew (X : pv_X) (v0 : Nat) (h : pv_H) : pM X m_Wp_startAnew [.ref v0] h = f_Wp_startAnew_0 X v0 h := rfl
noncomputable def f_Wp_day_0 (X : pv_X) (v0 : Nat) (h : pv_H) : Option pv_O := pS X 20 (some .int) k_Wp_day 0 [some (.ref v0), none, none] [] h
noncomputable def f_Wp_day_45 (X : pv_X) (v0 : Nat) (v1 : Int32) (o2 : Option Value) (h : pv_H) : Option pv_O := pS X 20 (some .int) k_Wp_day 45 [some (.ref v0), some (.int v1), o2] [] h
set_option maxRecDepth 8000 in
theorem u_Wp_day_0 (X : pv_X) (v0 : Nat) (h : pv_H) : f_Wp_day_0 X v0 h =
    (pv_fR h v0 10 4).bind (fun x1 => (pv_fR h v0 10 0).bind (fun x2 => (pv_fR h v0 10 1).bind (fun x3 => if pv_rc h x1 1 = true then (pv_tI (pM X m_Da_readFrom [.ref x1, .ref x2, .ref x3] h)).bind (fun q4 => (pv_fR q4.2 v0 10 0).bind (fun x5 => if pv_rc q4.2 x5 9 = true then (pv_tV (pM X m_Tp_empty [.ref x5] q4.2)).bind (fun h6 => if ¬ q4.1 = 0 then f_Wp_day_45 X v0 q4.1 none h6 else (pv_fR h6 v0 10 3).bind (fun x7 => (pv_fR h6 v0 10 4).bind (fun x8 => (pv_fp h6 v0 10 3 (.ref x8)).bind (fun h9 => (pv_fp h9 v0 10 4 (.ref x7)).bind (fun h10 => f_Wp_day_45 X v0 q4.1 (some (.ref x7)) h10))))) else none)) else none))) := by
  show pS X 20 (some .int) k_Wp_day 0 [some (.ref v0), none, none] [] h = _
  refine (ss_aload_n rfl rfl).trans ?_
  refine (ss_getR rfl).trans ?_
  refine congrArg (Option.bind _) (funext fun x1 => ?_)
  refine (ss_aload_n rfl rfl).trans ?_
  refine (ss_getR rfl).trans ?_
  refine congrArg (Option.bind _) (funext fun x2 => ?_)
  refine (ss_aload_n rfl rfl).trans ?_
  refine (ss_getR rfl).trans ?_
  refine congrArg (Option.bind _) (funext fun x3 => ?_)
  refine (ss_callVI (as := [.ref x2, .ref x3]) rfl t_Da_readFrom (by decide) rfl rfl (by decide) (Or.inl rfl) ⟨Nat.le_of_ble_eq_true rfl, Nat.le_of_ble_eq_true rfl⟩).trans ?_
  refine pv_ite ?_ rfl
  refine congrArg (Option.bind _) (funext fun q4 => ?_)
  refine (ss_istore_n rfl rfl).trans ?_
  refine (ss_aload_n rfl rfl).trans ?_
  refine (ss_getR rfl).trans ?_
  refine congrArg (Option.bind _) (funext fun x5 => ?_)
  refine (ss_callVN (as := []) rfl t_Tp_empty (by decide) rfl rfl (by decide) rfl ⟨Nat.le_of_ble_eq_true rfl, Nat.le_of_ble_eq_true rfl⟩).trans ?_
  refine pv_ite ?_ rfl
  refine congrArg (Option.bind _) (funext fun h6 => ?_)
  refine (ss_iload_n rfl rfl).trans ?_
  refine (ss_if_ne rfl).trans ?_
  refine pv_ite ?_ ?_
  · rfl
  · refine (ss_aload_n rfl rfl).trans ?_
    refine (ss_getR rfl).trans ?_
    refine congrArg (Option.bind _) (funext fun x7 => ?_)
    refine (ss_astore_n rfl rfl).trans ?_
    refine (ss_aload_n rfl rfl).trans ?_
    refine (ss_aload_n rfl rfl).trans ?_
    refine (ss_getR rfl).trans ?_
    refine congrArg (Option.bind _) (funext fun x8 => ?_)
    refine (ss_putR rfl).trans ?_
    refine congrArg (Option.bind _) (funext fun h9 => ?_)
    refine (ss_aload_n rfl rfl).trans ?_
    refine (ss_aload_n rfl rfl).trans ?_
    refine (ss_putR rfl).trans ?_
    refine congrArg (Option.bind _) (funext fun h10 => ?_)
    rfl
set_option maxRecDepth 8000 in
theorem u_Wp_day_45 (X : pv_X) (v0 : Nat) (v1 : Int32) (o2 : Option Value) (h : pv_H) : f_Wp_day_45 X v0 v1 o2 h =
    some (some (.int v1), h) := by
  show pS X 20 (some .int) k_Wp_day 45 [some (.ref v0), some (.int v1), o2] [] h = _
  refine (ss_iload_n rfl rfl).trans ?_
  exact ss_ireturn rfl
theorem e_Wp_day (X : pv_X) (v0 : Nat) (h : pv_H) : pM X m_Wp_day [.ref v0] h = f_Wp_day_0 X v0 h := rfl
noncomputable def f_Wp_person_0 (X : pv_X) (v0 : Nat) (v1 : Int32) (v2 : Int32) (h : pv_H) : Option pv_O := pS X 3 (some .int) k_Wp_person 0 [some (.ref v0), some (.int v1), some (.int v2)] [] h
set_option maxRecDepth 8000 in
theorem u_Wp_person_0 (X : pv_X) (v0 : Nat) (v1 : Int32) (v2 : Int32) (h : pv_H) : f_Wp_person_0 X v0 v1 v2 h =
    if pv_rc h v0 10 = true then (pv_tI (pM X m_Wp_isPerson [.ref v0, .int v1] h)).bind (fun q1 => if ¬ q1.1 = 0 then if v2 = 0 then (pv_fR q1.2 v0 10 1).bind (fun x2 => (pv_fR q1.2 x2 6 3).bind (fun x3 => (pv_aX X q1.2 x3 v1).bind (fun x4 => some (some (.int x4), q1.2)))) else if v2 = 1 then (pv_fR q1.2 v0 10 5).bind (fun x6 => (pv_fR q1.2 x6 7 1).bind (fun x7 => (pv_aX X q1.2 x7 v1).bind (fun x8 => some (some (.int x8), q1.2)))) else if v2 = 2 then (pv_fR q1.2 v0 10 5).bind (fun x10 => (pv_fR q1.2 x10 7 0).bind (fun x11 => (pv_aX X q1.2 x11 v1).bind (fun x12 => some (some (.int x12), q1.2)))) else if v2 = 3 then (pv_fR q1.2 v0 10 5).bind (fun x14 => if pv_rc q1.2 x14 7 = true then (pv_tI (pM X m_St_outOf [.ref x14, .int v1] q1.2)).bind (fun q15 => some (some (.int q15.1), q15.2)) else none) else if v2 = 4 then (pv_fR q1.2 v0 10 5).bind (fun x17 => (pv_fR q1.2 x17 7 2).bind (fun x18 => (pv_aX X q1.2 x18 v1).bind (fun x19 => some (some (.int x19), q1.2)))) else if v2 = 5 then (pv_fR q1.2 v0 10 1).bind (fun x21 => (pv_fR q1.2 x21 6 4).bind (fun x22 => (pv_aX X q1.2 x22 v1).bind (fun x23 => some (some (.int x23), q1.2)))) else some (some (.int (-1000)), q1.2) else some (some (.int (-1000)), q1.2)) else none := by
  show pS X 3 (some .int) k_Wp_person 0 [some (.ref v0), some (.int v1), some (.int v2)] [] h = _
  refine (ss_aload_n rfl rfl).trans ?_
  refine (ss_iload_n rfl rfl).trans ?_
  refine (ss_callVI (as := [.int v1]) rfl t_Wp_isPerson (by decide) rfl rfl (by decide) (Or.inr rfl) ⟨Nat.le_of_ble_eq_true rfl, Nat.le_of_ble_eq_true rfl⟩).trans ?_
  refine pv_ite ?_ rfl
  refine congrArg (Option.bind _) (funext fun q1 => ?_)
  refine (ss_if_ne rfl).trans ?_
  refine pv_ite ?_ ?_
  · refine (ss_iload_n rfl rfl).trans ?_
    refine (ss_table rfl).trans ?_
    by_cases c5 : v2 = 0
    · rw [if_pos c5, c5]
      show pS X _ _ _ 52 _ _ _ = _
      refine (ss_aload_n rfl rfl).trans ?_
      refine (ss_getR rfl).trans ?_
      refine congrArg (Option.bind _) (funext fun x2 => ?_)
      refine (ss_getR rfl).trans ?_
      refine congrArg (Option.bind _) (funext fun x3 => ?_)
      refine (ss_iload_n rfl rfl).trans ?_
      refine (ss_iaload rfl).trans ?_
      refine congrArg (Option.bind _) (funext fun x4 => ?_)
      exact ss_ireturn rfl
    rw [if_neg c5]
    by_cases c9 : v2 = 1
    · rw [if_pos c9, c9]
      show pS X _ _ _ 62 _ _ _ = _
      refine (ss_aload_n rfl rfl).trans ?_
      refine (ss_getR rfl).trans ?_
      refine congrArg (Option.bind _) (funext fun x6 => ?_)
      refine (ss_getR rfl).trans ?_
      refine congrArg (Option.bind _) (funext fun x7 => ?_)
      refine (ss_iload_n rfl rfl).trans ?_
      refine (ss_iaload rfl).trans ?_
      refine congrArg (Option.bind _) (funext fun x8 => ?_)
      exact ss_ireturn rfl
    rw [if_neg c9]
    by_cases c13 : v2 = 2
    · rw [if_pos c13, c13]
      show pS X _ _ _ 72 _ _ _ = _
      refine (ss_aload_n rfl rfl).trans ?_
      refine (ss_getR rfl).trans ?_
      refine congrArg (Option.bind _) (funext fun x10 => ?_)
      refine (ss_getR rfl).trans ?_
      refine congrArg (Option.bind _) (funext fun x11 => ?_)
      refine (ss_iload_n rfl rfl).trans ?_
      refine (ss_iaload rfl).trans ?_
      refine congrArg (Option.bind _) (funext fun x12 => ?_)
      exact ss_ireturn rfl
    rw [if_neg c13]
    by_cases c16 : v2 = 3
    · rw [if_pos c16, c16]
      show pS X _ _ _ 82 _ _ _ = _
      refine (ss_aload_n rfl rfl).trans ?_
      refine (ss_getR rfl).trans ?_
      refine congrArg (Option.bind _) (funext fun x14 => ?_)
      refine (ss_iload_n rfl rfl).trans ?_
      refine (ss_callVI (as := [.int v1]) rfl t_St_outOf (by decide) rfl rfl (by decide) (Or.inl rfl) ⟨Nat.le_of_ble_eq_true rfl, Nat.le_of_ble_eq_true rfl⟩).trans ?_
      refine pv_ite ?_ rfl
      refine congrArg (Option.bind _) (funext fun q15 => ?_)
      exact ss_ireturn rfl
    rw [if_neg c16]
    by_cases c20 : v2 = 4
    · rw [if_pos c20, c20]
      show pS X _ _ _ 91 _ _ _ = _
      refine (ss_aload_n rfl rfl).trans ?_
      refine (ss_getR rfl).trans ?_
      refine congrArg (Option.bind _) (funext fun x17 => ?_)
      refine (ss_getR rfl).trans ?_
      refine congrArg (Option.bind _) (funext fun x18 => ?_)
      refine (ss_iload_n rfl rfl).trans ?_
      refine (ss_iaload rfl).trans ?_
      refine congrArg (Option.bind _) (funext fun x19 => ?_)
      exact ss_ireturn rfl
    rw [if_neg c20]
    by_cases c24 : v2 = 5
    · rw [if_pos c24, c24]
      show pS X _ _ _ 101 _ _ _ = _
      refine (ss_aload_n rfl rfl).trans ?_
      refine (ss_getR rfl).trans ?_
      refine congrArg (Option.bind _) (funext fun x21 => ?_)
      refine (ss_getR rfl).trans ?_
      refine congrArg (Option.bind _) (funext fun x22 => ?_)
      refine (ss_iload_n rfl rfl).trans ?_
      refine (ss_iaload rfl).trans ?_
      refine congrArg (Option.bind _) (funext fun x23 => ?_)
      exact ss_ireturn rfl
    rw [if_neg c24]
    rw [pv_sw_out (pc := 13) (q := 111) (d := 98) (lo := 0) (hi := 5) (by decide) (by decide) (by have z0 := pv_ne c5 (k := 0) (z := 0) (by decide); have z1 := pv_ne c9 (k := 1) (z := 1) (by decide); have z2 := pv_ne c13 (k := 2) (z := 2) (by decide); have z3 := pv_ne c16 (k := 3) (z := 3) (by decide); have z4 := pv_ne c20 (k := 4) (z := 4) (by decide); have z5 := pv_ne c24 (k := 5) (z := 5) (by decide); omega)]
    show pS X _ _ _ 111 _ _ _ = _
    refine (ss_sipush rfl (v := (-1000)) rfl).trans ?_
    exact ss_ireturn rfl
  · refine (ss_sipush rfl (v := (-1000)) rfl).trans ?_
    exact ss_ireturn rfl
theorem e_Wp_person (X : pv_X) (v0 : Nat) (v1 : Int32) (v2 : Int32) (h : pv_H) : pM X m_Wp_person [.ref v0, .int v1, .int v2] h = f_Wp_person_0 X v0 v1 v2 h := rfl
noncomputable def f_Wp_ask_0 (X : pv_X) (v0 : Nat) (v1 : Int32) (v2 : Int32) (h : pv_H) : Option pv_O := pS X 3 (some .int) k_Wp_ask 0 [some (.ref v0), some (.int v1), some (.int v2)] [] h
set_option maxRecDepth 8000 in
theorem u_Wp_ask_0 (X : pv_X) (v0 : Nat) (v1 : Int32) (v2 : Int32) (h : pv_H) : f_Wp_ask_0 X v0 v1 v2 h =
    if pv_rc h v0 10 = true then (pv_tI (pM X m_Wp_areTwo [.ref v0, .int v1, .int v2] h)).bind (fun q1 => if ¬ q1.1 = 0 then (pv_fR q1.2 v0 10 7).bind (fun x2 => (pv_fR q1.2 v0 10 5).bind (fun x3 => if pv_rc q1.2 x2 3 = true then (pv_tV (pM X m_Hi_keep [.ref x2, .ref x3] q1.2)).bind (fun h4 => (pv_fR h4 v0 10 5).bind (fun x5 => if pv_rc h4 x5 7 = true then (pv_tV (pM X m_St_takeTime [.ref x5, .int v1, .int v2] h4)).bind (fun h6 => (pv_fR h6 v0 10 5).bind (fun x7 => (pv_fR h6 x7 7 0).bind (fun x8 => (pv_aX X h6 x8 v1).bind (fun x9 => some (some (.int x9), h6))))) else none)) else none)) else some (some (.int (-1)), q1.2)) else none := by
  show pS X 3 (some .int) k_Wp_ask 0 [some (.ref v0), some (.int v1), some (.int v2)] [] h = _
  refine (ss_aload_n rfl rfl).trans ?_
  refine (ss_iload_n rfl rfl).trans ?_
  refine (ss_iload_n rfl rfl).trans ?_
  refine (ss_callVI (as := [.int v1, .int v2]) rfl t_Wp_areTwo (by decide) rfl rfl (by decide) (Or.inr rfl) ⟨Nat.le_of_ble_eq_true rfl, Nat.le_of_ble_eq_true rfl⟩).trans ?_
  refine pv_ite ?_ rfl
  refine congrArg (Option.bind _) (funext fun q1 => ?_)
  refine (ss_if_ne rfl).trans ?_
  refine pv_ite ?_ ?_
  · refine (ss_aload_n rfl rfl).trans ?_
    refine (ss_getR rfl).trans ?_
    refine congrArg (Option.bind _) (funext fun x2 => ?_)
    refine (ss_aload_n rfl rfl).trans ?_
    refine (ss_getR rfl).trans ?_
    refine congrArg (Option.bind _) (funext fun x3 => ?_)
    refine (ss_callVN (as := [.ref x3]) rfl t_Hi_keep (by decide) rfl rfl (by decide) rfl ⟨Nat.le_of_ble_eq_true rfl, Nat.le_of_ble_eq_true rfl⟩).trans ?_
    refine pv_ite ?_ rfl
    refine congrArg (Option.bind _) (funext fun h4 => ?_)
    refine (ss_aload_n rfl rfl).trans ?_
    refine (ss_getR rfl).trans ?_
    refine congrArg (Option.bind _) (funext fun x5 => ?_)
    refine (ss_iload_n rfl rfl).trans ?_
    refine (ss_iload_n rfl rfl).trans ?_
    refine (ss_callVN (as := [.int v1, .int v2]) rfl t_St_takeTime (by decide) rfl rfl (by decide) rfl ⟨Nat.le_of_ble_eq_true rfl, Nat.le_of_ble_eq_true rfl⟩).trans ?_
    refine pv_ite ?_ rfl
    refine congrArg (Option.bind _) (funext fun h6 => ?_)
    refine (ss_aload_n rfl rfl).trans ?_
    refine (ss_getR rfl).trans ?_
    refine congrArg (Option.bind _) (funext fun x7 => ?_)
    refine (ss_getR rfl).trans ?_
    refine congrArg (Option.bind _) (funext fun x8 => ?_)
    refine (ss_iload_n rfl rfl).trans ?_
    refine (ss_iaload rfl).trans ?_
    refine congrArg (Option.bind _) (funext fun x9 => ?_)
    exact ss_ireturn rfl
  · refine (ss_iconst rfl (v := (-1)) rfl).trans ?_
    exact ss_ireturn rfl
theorem e_Wp_ask (X : pv_X) (v0 : Nat) (v1 : Int32) (v2 : Int32) (h : pv_H) : pM X m_Wp_ask [.ref v0, .int v1, .int v2] h = f_Wp_ask_0 X v0 v1 v2 h := rfl
noncomputable def f_Wp_fright_0 (X : pv_X) (v0 : Nat) (v1 : Int32) (v2 : Int32) (h : pv_H) : Option pv_O := pS X 4 (some .int) k_Wp_fright 0 [some (.ref v0), some (.int v1), some (.int v2)] [] h
noncomputable def f_Wp_fright_20 (X : pv_X) (v0 : Nat) (v1 : Int32) (v2 : Int32) (s0 : Int32) (h : pv_H) : Option pv_O := pS X 4 (some .int) k_Wp_fright 20 [some (.ref v0), some (.int v1), some (.int v2)] [.int s0] h
set_option maxRecDepth 8000 in
theorem u_Wp_fright_0 (X : pv_X) (v0 : Nat) (v1 : Int32) (v2 : Int32) (h : pv_H) : f_Wp_fright_0 X v0 v1 v2 h =
    (pv_tI (pM X m_Wp_isWithin [.int v2, .int 1, .int 60] h)).bind (fun q1 => if q1.1 = 0 then f_Wp_fright_20 X v0 v1 v2 (-1) q1.2 else if pv_rc q1.2 v0 10 = true then (pv_tI (pM X m_Wp_moved [.ref v0, .int v1, .int v2] q1.2)).bind (fun q2 => f_Wp_fright_20 X v0 v1 v2 q2.1 q2.2) else none) := by
  show pS X 4 (some .int) k_Wp_fright 0 [some (.ref v0), some (.int v1), some (.int v2)] [] h = _
  refine (ss_iload_n rfl rfl).trans ?_
  refine (ss_iconst rfl (v := 1) rfl).trans ?_
  refine (ss_bipush rfl (v := 60) rfl).trans ?_
  refine (ss_callSI (as := [.int v2, .int 1, .int 60]) rfl t_Wp_isWithin (by decide) rfl rfl (by decide) (Or.inr rfl) ⟨Nat.le_of_ble_eq_true rfl, Nat.le_of_ble_eq_true rfl⟩).trans ?_
  refine congrArg (Option.bind _) (funext fun q1 => ?_)
  refine (ss_if_eq rfl).trans ?_
  refine pv_ite ?_ ?_
  · refine (ss_iconst rfl (v := (-1)) rfl).trans ?_
    rfl
  · refine (ss_aload_n rfl rfl).trans ?_
    refine (ss_iload_n rfl rfl).trans ?_
    refine (ss_iload_n rfl rfl).trans ?_
    refine (ss_callVI (as := [.int v1, .int v2]) rfl t_Wp_moved (by decide) rfl rfl (by decide) (Or.inl rfl) ⟨Nat.le_of_ble_eq_true rfl, Nat.le_of_ble_eq_true rfl⟩).trans ?_
    refine pv_ite ?_ rfl
    refine congrArg (Option.bind _) (funext fun q2 => ?_)
    refine (ss_goto rfl).trans ?_
    rfl
set_option maxRecDepth 8000 in
theorem u_Wp_fright_20 (X : pv_X) (v0 : Nat) (v1 : Int32) (v2 : Int32) (s0 : Int32) (h : pv_H) : f_Wp_fright_20 X v0 v1 v2 s0 h =
    some (some (.int s0), h) := by
  show pS X 4 (some .int) k_Wp_fright 20 [some (.ref v0), some (.int v1), some (.int v2)] [.int s0] h = _
  exact ss_ireturn rfl
theorem e_Wp_fright (X : pv_X) (v0 : Nat) (v1 : Int32) (v2 : Int32) (h : pv_H) : pM X m_Wp_fright [.ref v0, .int v1, .int v2] h = f_Wp_fright_0 X v0 v1 v2 h := rfl
noncomputable def f_Wp_soothe_0 (X : pv_X) (v0 : Nat) (v1 : Int32) (v2 : Int32) (h : pv_H) : Option pv_O := pS X 4 (some .int) k_Wp_soothe 0 [some (.ref v0), some (.int v1), some (.int v2)] [] h
noncomputable def f_Wp_soothe_21 (X : pv_X) (v0 : Nat) (v1 : Int32) (v2 : Int32) (s0 : Int32) (h : pv_H) : Option pv_O := pS X 4 (some .int) k_Wp_soothe 21 [some (.ref v0), some (.int v1), some (.int v2)] [.int s0] h
set_option maxRecDepth 8000 in
theorem u_Wp_soothe_0 (X : pv_X) (v0 : Nat) (v1 : Int32) (v2 : Int32) (h : pv_H) : f_Wp_soothe_0 X v0 v1 v2 h =
    (pv_tI (pM X m_Wp_isWithin [.int v2, .int 1, .int 60] h)).bind (fun q1 => if q1.1 = 0 then f_Wp_soothe_21 X v0 v1 v2 (-1) q1.2 else if pv_rc q1.2 v0 10 = true then (pv_tI (pM X m_Wp_moved [.ref v0, .int v1, .int (-v2)] q1.2)).bind (fun q2 => f_Wp_soothe_21 X v0 v1 v2 q2.1 q2.2) else none) := by
  show pS X 4 (some .int) k_Wp_soothe 0 [some (.ref v0), some (.int v1), some (.int v2)] [] h = _
  refine (ss_iload_n rfl rfl).trans ?_
  refine (ss_iconst rfl (v := 1) rfl).trans ?_
  refine (ss_bipush rfl (v := 60) rfl).trans ?_
  refine (ss_callSI (as := [.int v2, .int 1, .int 60]) rfl t_Wp_isWithin (by decide) rfl rfl (by decide) (Or.inr rfl) ⟨Nat.le_of_ble_eq_true rfl, Nat.le_of_ble_eq_true rfl⟩).trans ?_
  refine congrArg (Option.bind _) (funext fun q1 => ?_)
  refine (ss_if_eq rfl).trans ?_
  refine pv_ite ?_ ?_
  · refine (ss_iconst rfl (v := (-1)) rfl).trans ?_
    rfl
  · refine (ss_aload_n rfl rfl).trans ?_
    refine (ss_iload_n rfl rfl).trans ?_
    refine (ss_iload_n rfl rfl).trans ?_
    refine (ss_ineg rfl).trans ?_
    refine (ss_callVI (as := [.int v1, .int (-v2)]) rfl t_Wp_moved (by decide) rfl rfl (by decide) (Or.inl rfl) ⟨Nat.le_of_ble_eq_true rfl, Nat.le_of_ble_eq_true rfl⟩).trans ?_
    refine pv_ite ?_ rfl
    refine congrArg (Option.bind _) (funext fun q2 => ?_)
    refine (ss_goto rfl).trans ?_
    rfl
set_option maxRecDepth 8000 in
theorem u_Wp_soothe_21 (X : pv_X) (v0 : Nat) (v1 : Int32) (v2 : Int32) (s0 : Int32) (h : pv_H) : f_Wp_soothe_21 X v0 v1 v2 s0 h =
    some (some (.int s0), h) := by
  show pS X 4 (some .int) k_Wp_soothe 21 [some (.ref v0), some (.int v1), some (.int v2)] [.int s0] h = _
  exact ss_ireturn rfl
theorem e_Wp_soothe (X : pv_X) (v0 : Nat) (v1 : Int32) (v2 : Int32) (h : pv_H) : pM X m_Wp_soothe [.ref v0, .int v1, .int v2] h = f_Wp_soothe_0 X v0 v1 v2 h := rfl
noncomputable def f_Wp_moved_0 (X : pv_X) (v0 : Nat) (v1 : Int32) (v2 : Int32) (h : pv_H) : Option pv_O := pS X 3 (some .int) k_Wp_moved 0 [some (.ref v0), some (.int v1), some (.int v2)] [] h
set_option maxRecDepth 8000 in
theorem u_Wp_moved_0 (X : pv_X) (v0 : Nat) (v1 : Int32) (v2 : Int32) (h : pv_H) : f_Wp_moved_0 X v0 v1 v2 h =
    if pv_rc h v0 10 = true then (pv_tI (pM X m_Wp_isPerson [.ref v0, .int v1] h)).bind (fun q1 => if ¬ q1.1 = 0 then (pv_fR q1.2 v0 10 7).bind (fun x2 => (pv_fR q1.2 v0 10 5).bind (fun x3 => if pv_rc q1.2 x2 3 = true then (pv_tV (pM X m_Hi_keep [.ref x2, .ref x3] q1.2)).bind (fun h4 => (pv_fR h4 v0 10 5).bind (fun x5 => if pv_rc h4 x5 7 = true then (pv_tV (pM X m_St_moveBeats [.ref x5, .int v1, .int v2] h4)).bind (fun h6 => (pv_fR h6 v0 10 5).bind (fun x7 => (pv_fR h6 x7 7 1).bind (fun x8 => (pv_aX X h6 x8 v1).bind (fun x9 => some (some (.int x9), h6))))) else none)) else none)) else some (some (.int (-1)), q1.2)) else none := by
  show pS X 3 (some .int) k_Wp_moved 0 [some (.ref v0), some (.int v1), some (.int v2)] [] h = _
  refine (ss_aload_n rfl rfl).trans ?_
  refine (ss_iload_n rfl rfl).trans ?_
  refine (ss_callVI (as := [.int v1]) rfl t_Wp_isPerson (by decide) rfl rfl (by decide) (Or.inr rfl) ⟨Nat.le_of_ble_eq_true rfl, Nat.le_of_ble_eq_true rfl⟩).trans ?_
  refine pv_ite ?_ rfl
  refine congrArg (Option.bind _) (funext fun q1 => ?_)
  refine (ss_if_ne rfl).trans ?_
  refine pv_ite ?_ ?_
  · refine (ss_aload_n rfl rfl).trans ?_
    refine (ss_getR rfl).trans ?_
    refine congrArg (Option.bind _) (funext fun x2 => ?_)
    refine (ss_aload_n rfl rfl).trans ?_
    refine (ss_getR rfl).trans ?_
    refine congrArg (Option.bind _) (funext fun x3 => ?_)
    refine (ss_callVN (as := [.ref x3]) rfl t_Hi_keep (by decide) rfl rfl (by decide) rfl ⟨Nat.le_of_ble_eq_true rfl, Nat.le_of_ble_eq_true rfl⟩).trans ?_
    refine pv_ite ?_ rfl
    refine congrArg (Option.bind _) (funext fun h4 => ?_)
    refine (ss_aload_n rfl rfl).trans ?_
    refine (ss_getR rfl).trans ?_
    refine congrArg (Option.bind _) (funext fun x5 => ?_)
    refine (ss_iload_n rfl rfl).trans ?_
    refine (ss_iload_n rfl rfl).trans ?_
    refine (ss_callVN (as := [.int v1, .int v2]) rfl t_St_moveBeats (by decide) rfl rfl (by decide) rfl ⟨Nat.le_of_ble_eq_true rfl, Nat.le_of_ble_eq_true rfl⟩).trans ?_
    refine pv_ite ?_ rfl
    refine congrArg (Option.bind _) (funext fun h6 => ?_)
    refine (ss_aload_n rfl rfl).trans ?_
    refine (ss_getR rfl).trans ?_
    refine congrArg (Option.bind _) (funext fun x7 => ?_)
    refine (ss_getR rfl).trans ?_
    refine congrArg (Option.bind _) (funext fun x8 => ?_)
    refine (ss_iload_n rfl rfl).trans ?_
    refine (ss_iaload rfl).trans ?_
    refine congrArg (Option.bind _) (funext fun x9 => ?_)
    exact ss_ireturn rfl
  · refine (ss_iconst rfl (v := (-1)) rfl).trans ?_
    exact ss_ireturn rfl
theorem e_Wp_moved (X : pv_X) (v0 : Nat) (v1 : Int32) (v2 : Int32) (h : pv_H) : pM X m_Wp_moved [.ref v0, .int v1, .int v2] h = f_Wp_moved_0 X v0 v1 v2 h := rfl
noncomputable def f_Wp_quarter_0 (X : pv_X) (v0 : Nat) (h : pv_H) : Option pv_O := pS X 5 (some .int) k_Wp_quarter 0 [some (.ref v0)] [] h
set_option maxRecDepth 8000 in
theorem u_Wp_quarter_0 (X : pv_X) (v0 : Nat) (h : pv_H) : f_Wp_quarter_0 X v0 h =
    (pv_fR h v0 10 7).bind (fun x1 => (pv_fR h v0 10 5).bind (fun x2 => if pv_rc h x1 3 = true then (pv_tV (pM X m_Hi_keep [.ref x1, .ref x2] h)).bind (fun h3 => (pv_fR h3 v0 10 1).bind (fun x4 => (pv_fR h3 v0 10 5).bind (fun x5 => if pv_rc h3 x4 6 = true then (pv_tI (pM X m_Po_passQuarter [.ref x4, .ref x5] h3)).bind (fun q6 => (pv_fR q6.2 v0 10 5).bind (fun x7 => if pv_rc q6.2 x7 7 = true then (pv_tI (pM X m_St_trueTime [.ref x7] q6.2)).bind (fun q8 => some (some (.int q8.1), q8.2)) else none)) else none))) else none)) := by
  show pS X 5 (some .int) k_Wp_quarter 0 [some (.ref v0)] [] h = _
  refine (ss_aload_n rfl rfl).trans ?_
  refine (ss_getR rfl).trans ?_
  refine congrArg (Option.bind _) (funext fun x1 => ?_)
  refine (ss_aload_n rfl rfl).trans ?_
  refine (ss_getR rfl).trans ?_
  refine congrArg (Option.bind _) (funext fun x2 => ?_)
  refine (ss_callVN (as := [.ref x2]) rfl t_Hi_keep (by decide) rfl rfl (by decide) rfl ⟨Nat.le_of_ble_eq_true rfl, Nat.le_of_ble_eq_true rfl⟩).trans ?_
  refine pv_ite ?_ rfl
  refine congrArg (Option.bind _) (funext fun h3 => ?_)
  refine (ss_aload_n rfl rfl).trans ?_
  refine (ss_getR rfl).trans ?_
  refine congrArg (Option.bind _) (funext fun x4 => ?_)
  refine (ss_aload_n rfl rfl).trans ?_
  refine (ss_getR rfl).trans ?_
  refine congrArg (Option.bind _) (funext fun x5 => ?_)
  refine (ss_callVI (as := [.ref x5]) rfl t_Po_passQuarter (by decide) rfl rfl (by decide) (Or.inl rfl) ⟨Nat.le_of_ble_eq_true rfl, Nat.le_of_ble_eq_true rfl⟩).trans ?_
  refine pv_ite ?_ rfl
  refine congrArg (Option.bind _) (funext fun q6 => ?_)
  refine (ss_popI rfl).trans ?_
  refine (ss_aload_n rfl rfl).trans ?_
  refine (ss_getR rfl).trans ?_
  refine congrArg (Option.bind _) (funext fun x7 => ?_)
  refine (ss_callVI (as := []) rfl t_St_trueTime (by decide) rfl rfl (by decide) (Or.inl rfl) ⟨Nat.le_of_ble_eq_true rfl, Nat.le_of_ble_eq_true rfl⟩).trans ?_
  refine pv_ite ?_ rfl
  refine congrArg (Option.bind _) (funext fun q8 => ?_)
  exact ss_ireturn rfl
theorem e_Wp_quarter (X : pv_X) (v0 : Nat) (h : pv_H) : pM X m_Wp_quarter [.ref v0] h = f_Wp_quarter_0 X v0 h := rfl
noncomputable def f_Wp_undo_0 (X : pv_X) (v0 : Nat) (h : pv_H) : Option pv_O := pS X 3 (some .boolean) k_Wp_undo 0 [some (.ref v0)] [] h
set_option maxRecDepth 8000 in
theorem u_Wp_undo_0 (X : pv_X) (v0 : Nat) (h : pv_H) : f_Wp_undo_0 X v0 h =
    (pv_fR h v0 10 7).bind (fun x1 => (pv_fR h v0 10 5).bind (fun x2 => if pv_rc h x1 3 = true then (pv_tI (pM X m_Hi_bringBack [.ref x1, .ref x2] h)).bind (fun q3 => if q3.1 = 0 ∨ q3.1 = 1 then some (some (.int q3.1), q3.2) else none) else none)) := by
  show pS X 3 (some .boolean) k_Wp_undo 0 [some (.ref v0)] [] h = _
  refine (ss_aload_n rfl rfl).trans ?_
  refine (ss_getR rfl).trans ?_
  refine congrArg (Option.bind _) (funext fun x1 => ?_)
  refine (ss_aload_n rfl rfl).trans ?_
  refine (ss_getR rfl).trans ?_
  refine congrArg (Option.bind _) (funext fun x2 => ?_)
  refine (ss_callVI (as := [.ref x2]) rfl t_Hi_bringBack (by decide) rfl rfl (by decide) (Or.inr rfl) ⟨Nat.le_of_ble_eq_true rfl, Nat.le_of_ble_eq_true rfl⟩).trans ?_
  refine pv_ite ?_ rfl
  refine congrArg (Option.bind _) (funext fun q3 => ?_)
  exact ss_zreturn rfl
theorem e_Wp_undo (X : pv_X) (v0 : Nat) (h : pv_H) : pM X m_Wp_undo [.ref v0] h = f_Wp_undo_0 X v0 h := rfl
noncomputable def f_Wp_judged_0 (X : pv_X) (v0 : Nat) (v1 : Int32) (h : pv_H) : Option pv_O := pS X 6 (some .int) k_Wp_judged 0 [some (.ref v0), some (.int v1), none, none] [] h
noncomputable def f_Wp_judged_30 (X : pv_X) (v0 : Nat) (v1 : Int32) (v2 : Int32) (v3 : Int32) (h : pv_H) : Option pv_O := pS X 6 (some .int) k_Wp_judged 30 [some (.ref v0), some (.int v1), some (.int v2), some (.int v3)] [] h
noncomputable def f_Wp_judged_77 (X : pv_X) (v0 : Nat) (v1 : Int32) (v2 : Int32) (v3 : Int32) (h : pv_H) : Option pv_O := pS X 6 (some .int) k_Wp_judged 77 [some (.ref v0), some (.int v1), some (.int v2), some (.int v3)] [] h
noncomputable def f_Wp_judged_113 (X : pv_X) (v0 : Nat) (v1 : Int32) (v2 : Int32) (v3 : Int32) (s0 : Int32) (h : pv_H) : Option pv_O := pS X 6 (some .int) k_Wp_judged 113 [some (.ref v0), some (.int v1), some (.int v2), some (.int v3)] [.int s0] h
set_option maxRecDepth 8000 in
theorem u_Wp_judged_0 (X : pv_X) (v0 : Nat) (v1 : Int32) (h : pv_H) : f_Wp_judged_0 X v0 v1 h =
    (pv_tI (pM X m_Wp_isWithin [.int v1, .int 0, .int 2] h)).bind (fun q1 => if ¬ q1.1 = 0 then (pv_fR q1.2 v0 10 6).bind (fun x2 => (pv_fR q1.2 v0 10 1).bind (fun x3 => (pv_fR q1.2 x3 6 5).bind (fun x4 => if pv_rc q1.2 x2 7 = true then (pv_tV (pM X m_St_copy [.ref x2, .ref x4] q1.2)).bind (fun h5 => f_Wp_judged_30 X v0 v1 (-1) 0 h5) else none))) else some (some (.int (-2)), q1.2)) := by
  show pS X 6 (some .int) k_Wp_judged 0 [some (.ref v0), some (.int v1), none, none] [] h = _
  refine (ss_iload_n rfl rfl).trans ?_
  refine (ss_iconst rfl (v := 0) rfl).trans ?_
  refine (ss_iconst rfl (v := 2) rfl).trans ?_
  refine (ss_callSI (as := [.int v1, .int 0, .int 2]) rfl t_Wp_isWithin (by decide) rfl rfl (by decide) (Or.inr rfl) ⟨Nat.le_of_ble_eq_true rfl, Nat.le_of_ble_eq_true rfl⟩).trans ?_
  refine congrArg (Option.bind _) (funext fun q1 => ?_)
  refine (ss_if_ne rfl).trans ?_
  refine pv_ite ?_ ?_
  · refine (ss_aload_n rfl rfl).trans ?_
    refine (ss_getR rfl).trans ?_
    refine congrArg (Option.bind _) (funext fun x2 => ?_)
    refine (ss_aload_n rfl rfl).trans ?_
    refine (ss_getR rfl).trans ?_
    refine congrArg (Option.bind _) (funext fun x3 => ?_)
    refine (ss_getR rfl).trans ?_
    refine congrArg (Option.bind _) (funext fun x4 => ?_)
    refine (ss_callVN (as := [.ref x4]) rfl t_St_copy (by decide) rfl rfl (by decide) rfl ⟨Nat.le_of_ble_eq_true rfl, Nat.le_of_ble_eq_true rfl⟩).trans ?_
    refine pv_ite ?_ rfl
    refine congrArg (Option.bind _) (funext fun h5 => ?_)
    refine (ss_iconst rfl (v := (-1)) rfl).trans ?_
    refine (ss_istore_n rfl rfl).trans ?_
    refine (ss_iconst rfl (v := 0) rfl).trans ?_
    refine (ss_istore_n rfl rfl).trans ?_
    rfl
  · refine (ss_bipush rfl (v := (-2)) rfl).trans ?_
    exact ss_ireturn rfl
set_option maxRecDepth 8000 in
theorem u_Wp_judged_30 (X : pv_X) (v0 : Nat) (v1 : Int32) (v2 : Int32) (v3 : Int32) (h : pv_H) : f_Wp_judged_30 X v0 v1 v2 v3 h =
    (pv_fR h v0 10 3).bind (fun x1 => (pv_fI h x1 1 3).bind (fun x2 => if x2 ≤ v3 then if ¬ v1 = 0 then if ¬ v1 = 1 then (pv_fR h v0 10 6).bind (fun x3 => if pv_rc h v0 10 = true then (pv_tI (pM X m_Wp_allAsked [.ref v0, .ref x3] h)).bind (fun q4 => f_Wp_judged_113 X v0 v1 v2 v3 q4.1 q4.2) else none) else (pv_fR h v0 10 6).bind (fun x5 => if pv_rc h v0 10 = true then (pv_tI (pM X m_Wp_worstOut [.ref v0, .ref x5] h)).bind (fun q6 => f_Wp_judged_113 X v0 v1 v2 v3 q6.1 q6.2) else none) else some (some (.int v2), h) else (pv_fR h v0 10 3).bind (fun x7 => (pv_fR h v0 10 1).bind (fun x8 => (pv_fR h v0 10 6).bind (fun x9 => if pv_rc h x7 1 = true then (pv_tV (pM X m_Da_doLine [.ref x7, .int v3, .ref x8, .ref x9] h)).bind (fun h10 => if ¬ v2 = (-1) then f_Wp_judged_77 X v0 v1 v2 v3 h10 else (pv_fR h10 v0 10 6).bind (fun x11 => if pv_rc h10 v0 10 = true then (pv_tI (pM X m_Wp_worstOut [.ref v0, .ref x11] h10)).bind (fun q12 => if q12.1 < 60 then f_Wp_judged_77 X v0 v1 v2 v3 q12.2 else f_Wp_judged_77 X v0 v1 v3 v3 q12.2) else none)) else none))))) := by
  show pS X 6 (some .int) k_Wp_judged 30 [some (.ref v0), some (.int v1), some (.int v2), some (.int v3)] [] h = _
  refine (ss_iload_n rfl rfl).trans ?_
  refine (ss_aload_n rfl rfl).trans ?_
  refine (ss_getR rfl).trans ?_
  refine congrArg (Option.bind _) (funext fun x1 => ?_)
  refine (ss_getI rfl).trans ?_
  refine congrArg (Option.bind _) (funext fun x2 => ?_)
  refine (ss_icmp_ge rfl).trans ?_
  refine pv_ite ?_ ?_
  · refine (ss_iload_n rfl rfl).trans ?_
    refine (ss_if_ne rfl).trans ?_
    refine pv_ite ?_ ?_
    · refine (ss_iload_n rfl rfl).trans ?_
      refine (ss_iconst rfl (v := 1) rfl).trans ?_
      refine (ss_icmp_ne rfl).trans ?_
      refine pv_ite ?_ ?_
      · refine (ss_aload_n rfl rfl).trans ?_
        refine (ss_aload_n rfl rfl).trans ?_
        refine (ss_getR rfl).trans ?_
        refine congrArg (Option.bind _) (funext fun x3 => ?_)
        refine (ss_callVI (as := [.ref x3]) rfl t_Wp_allAsked (by decide) rfl rfl (by decide) (Or.inl rfl) ⟨Nat.le_of_ble_eq_true rfl, Nat.le_of_ble_eq_true rfl⟩).trans ?_
        refine pv_ite ?_ rfl
        refine congrArg (Option.bind _) (funext fun q4 => ?_)
        rfl
      · refine (ss_aload_n rfl rfl).trans ?_
        refine (ss_aload_n rfl rfl).trans ?_
        refine (ss_getR rfl).trans ?_
        refine congrArg (Option.bind _) (funext fun x5 => ?_)
        refine (ss_callVI (as := [.ref x5]) rfl t_Wp_worstOut (by decide) rfl rfl (by decide) (Or.inl rfl) ⟨Nat.le_of_ble_eq_true rfl, Nat.le_of_ble_eq_true rfl⟩).trans ?_
        refine pv_ite ?_ rfl
        refine congrArg (Option.bind _) (funext fun q6 => ?_)
        refine (ss_goto rfl).trans ?_
        rfl
    · refine (ss_iload_n rfl rfl).trans ?_
      exact ss_ireturn rfl
  · refine (ss_aload_n rfl rfl).trans ?_
    refine (ss_getR rfl).trans ?_
    refine congrArg (Option.bind _) (funext fun x7 => ?_)
    refine (ss_iload_n rfl rfl).trans ?_
    refine (ss_aload_n rfl rfl).trans ?_
    refine (ss_getR rfl).trans ?_
    refine congrArg (Option.bind _) (funext fun x8 => ?_)
    refine (ss_aload_n rfl rfl).trans ?_
    refine (ss_getR rfl).trans ?_
    refine congrArg (Option.bind _) (funext fun x9 => ?_)
    refine (ss_callVN (as := [.int v3, .ref x8, .ref x9]) rfl t_Da_doLine (by decide) rfl rfl (by decide) rfl ⟨Nat.le_of_ble_eq_true rfl, Nat.le_of_ble_eq_true rfl⟩).trans ?_
    refine pv_ite ?_ rfl
    refine congrArg (Option.bind _) (funext fun h10 => ?_)
    refine (ss_iload_n rfl rfl).trans ?_
    refine (ss_iconst rfl (v := (-1)) rfl).trans ?_
    refine (ss_icmp_ne rfl).trans ?_
    refine pv_ite ?_ ?_
    · rfl
    · refine (ss_aload_n rfl rfl).trans ?_
      refine (ss_aload_n rfl rfl).trans ?_
      refine (ss_getR rfl).trans ?_
      refine congrArg (Option.bind _) (funext fun x11 => ?_)
      refine (ss_callVI (as := [.ref x11]) rfl t_Wp_worstOut (by decide) rfl rfl (by decide) (Or.inl rfl) ⟨Nat.le_of_ble_eq_true rfl, Nat.le_of_ble_eq_true rfl⟩).trans ?_
      refine pv_ite ?_ rfl
      refine congrArg (Option.bind _) (funext fun q12 => ?_)
      refine (ss_bipush rfl (v := 60) rfl).trans ?_
      refine (ss_icmp_lt rfl).trans ?_
      refine pv_ite ?_ ?_
      · rfl
      · refine (ss_iload_n rfl rfl).trans ?_
        refine (ss_istore_n rfl rfl).trans ?_
        rfl
set_option maxRecDepth 8000 in
theorem u_Wp_judged_77 (X : pv_X) (v0 : Nat) (v1 : Int32) (v2 : Int32) (v3 : Int32) (h : pv_H) : f_Wp_judged_77 X v0 v1 v2 v3 h =
    f_Wp_judged_30 X v0 v1 v2 (v3 + 1) h := by
  show pS X 6 (some .int) k_Wp_judged 77 [some (.ref v0), some (.int v1), some (.int v2), some (.int v3)] [] h = _
  refine (ss_iinc3 rfl rfl (v := v3 + 1) (congrArg (HAdd.hAdd _) (show Int32.ofInt (1) = 1 by decide)) rfl).trans ?_
  refine (ss_goto rfl).trans ?_
  rfl
set_option maxRecDepth 8000 in
theorem u_Wp_judged_113 (X : pv_X) (v0 : Nat) (v1 : Int32) (v2 : Int32) (v3 : Int32) (s0 : Int32) (h : pv_H) : f_Wp_judged_113 X v0 v1 v2 v3 s0 h =
    some (some (.int s0), h) := by
  show pS X 6 (some .int) k_Wp_judged 113 [some (.ref v0), some (.int v1), some (.int v2), some (.int v3)] [.int s0] h = _
  exact ss_ireturn rfl
theorem e_Wp_judged (X : pv_X) (v0 : Nat) (v1 : Int32) (h : pv_H) : pM X m_Wp_judged [.ref v0, .int v1] h = f_Wp_judged_0 X v0 v1 h := rfl
noncomputable def f_Wp_later_0 (X : pv_X) (v0 : Nat) (v1 : Int32) (v2 : Int32) (h : pv_H) : Option pv_O := pS X 7 (some .int) k_Wp_later 0 [some (.ref v0), some (.int v1), some (.int v2)] [] h
noncomputable def f_Wp_later_18 (X : pv_X) (v0 : Nat) (v1 : Int32) (v2 : Int32) (h : pv_H) : Option pv_O := pS X 7 (some .int) k_Wp_later 18 [some (.ref v0), some (.int v1), some (.int v2)] [] h
set_option maxRecDepth 8000 in
theorem u_Wp_later_0 (X : pv_X) (v0 : Nat) (v1 : Int32) (v2 : Int32) (h : pv_H) : f_Wp_later_0 X v0 v1 v2 h =
    if pv_rc h v0 10 = true then (pv_tI (pM X m_Wp_isPerson [.ref v0, .int v1] h)).bind (fun q1 => if q1.1 = 0 then f_Wp_later_18 X v0 v1 v2 q1.2 else (pv_tI (pM X m_Wp_isWithin [.int v2, .int 0, .int 96] q1.2)).bind (fun q2 => if ¬ q2.1 = 0 then if pv_rc q2.2 v0 10 = true then (pv_tI (pM X m_Wp_outLater [.ref v0, .int v1, .int v2] q2.2)).bind (fun q3 => some (some (.int q3.1), q3.2)) else none else f_Wp_later_18 X v0 v1 v2 q2.2)) else none := by
  show pS X 7 (some .int) k_Wp_later 0 [some (.ref v0), some (.int v1), some (.int v2)] [] h = _
  refine (ss_aload_n rfl rfl).trans ?_
  refine (ss_iload_n rfl rfl).trans ?_
  refine (ss_callVI (as := [.int v1]) rfl t_Wp_isPerson (by decide) rfl rfl (by decide) (Or.inr rfl) ⟨Nat.le_of_ble_eq_true rfl, Nat.le_of_ble_eq_true rfl⟩).trans ?_
  refine pv_ite ?_ rfl
  refine congrArg (Option.bind _) (funext fun q1 => ?_)
  refine (ss_if_eq rfl).trans ?_
  refine pv_ite ?_ ?_
  · rfl
  · refine (ss_iload_n rfl rfl).trans ?_
    refine (ss_iconst rfl (v := 0) rfl).trans ?_
    refine (ss_bipush rfl (v := 96) rfl).trans ?_
    refine (ss_callSI (as := [.int v2, .int 0, .int 96]) rfl t_Wp_isWithin (by decide) rfl rfl (by decide) (Or.inr rfl) ⟨Nat.le_of_ble_eq_true rfl, Nat.le_of_ble_eq_true rfl⟩).trans ?_
    refine congrArg (Option.bind _) (funext fun q2 => ?_)
    refine (ss_if_ne rfl).trans ?_
    refine pv_ite ?_ ?_
    · refine (ss_aload_n rfl rfl).trans ?_
      refine (ss_iload_n rfl rfl).trans ?_
      refine (ss_iload_n rfl rfl).trans ?_
      refine (ss_callVI (as := [.int v1, .int v2]) rfl t_Wp_outLater (by decide) rfl rfl (by decide) (Or.inl rfl) ⟨Nat.le_of_ble_eq_true rfl, Nat.le_of_ble_eq_true rfl⟩).trans ?_
      refine pv_ite ?_ rfl
      refine congrArg (Option.bind _) (funext fun q3 => ?_)
      exact ss_ireturn rfl
    · rfl
set_option maxRecDepth 8000 in
theorem u_Wp_later_18 (X : pv_X) (v0 : Nat) (v1 : Int32) (v2 : Int32) (h : pv_H) : f_Wp_later_18 X v0 v1 v2 h =
    some (some (.int (-1000)), h) := by
  show pS X 7 (some .int) k_Wp_later 18 [some (.ref v0), some (.int v1), some (.int v2)] [] h = _
  refine (ss_sipush rfl (v := (-1000)) rfl).trans ?_
  exact ss_ireturn rfl
theorem e_Wp_later (X : pv_X) (v0 : Nat) (v1 : Int32) (v2 : Int32) (h : pv_H) : pM X m_Wp_later [.ref v0, .int v1, .int v2] h = f_Wp_later_0 X v0 v1 v2 h := rfl
noncomputable def f_Wp_worst_0 (X : pv_X) (v0 : Nat) (h : pv_H) : Option pv_O := pS X 4 (some .int) k_Wp_worst 0 [some (.ref v0), none, none] [] h
noncomputable def f_Wp_worst_4 (X : pv_X) (v0 : Nat) (v1 : Int32) (v2 : Int32) (h : pv_H) : Option pv_O := pS X 4 (some .int) k_Wp_worst 4 [some (.ref v0), some (.int v1), some (.int v2)] [] h
noncomputable def f_Wp_worst_39 (X : pv_X) (v0 : Nat) (v1 : Int32) (v2 : Int32) (h : pv_H) : Option pv_O := pS X 4 (some .int) k_Wp_worst 39 [some (.ref v0), some (.int v1), some (.int v2)] [] h
noncomputable def f_Wp_worst_41 (X : pv_X) (v0 : Nat) (v1 : Int32) (v2 : Int32) (h : pv_H) : Option pv_O := pS X 4 (some .int) k_Wp_worst 41 [some (.ref v0), some (.int v1), some (.int v2)] [] h
set_option maxRecDepth 8000 in
theorem u_Wp_worst_0 (X : pv_X) (v0 : Nat) (h : pv_H) : f_Wp_worst_0 X v0 h =
    f_Wp_worst_4 X v0 (-1) 0 h := by
  show pS X 4 (some .int) k_Wp_worst 0 [some (.ref v0), none, none] [] h = _
  refine (ss_iconst rfl (v := (-1)) rfl).trans ?_
  refine (ss_istore_n rfl rfl).trans ?_
  refine (ss_iconst rfl (v := 0) rfl).trans ?_
  refine (ss_istore_n rfl rfl).trans ?_
  rfl
set_option maxRecDepth 8000 in
theorem u_Wp_worst_4 (X : pv_X) (v0 : Nat) (v1 : Int32) (v2 : Int32) (h : pv_H) : f_Wp_worst_4 X v0 v1 v2 h =
    (pv_fR h v0 10 1).bind (fun x1 => (pv_fI h x1 6 6).bind (fun x2 => if x2 ≤ v2 then some (some (.int v1), h) else if v1 = (-1) then f_Wp_worst_39 X v0 v1 v2 h else (pv_fR h v0 10 5).bind (fun x3 => (pv_tI (pM X m_Wp_farOf [.ref x3, .int v2] h)).bind (fun q4 => (pv_fR q4.2 v0 10 5).bind (fun x5 => (pv_tI (pM X m_Wp_farOf [.ref x5, .int v1] q4.2)).bind (fun q6 => if q4.1 ≤ q6.1 then f_Wp_worst_41 X v0 v1 v2 q6.2 else f_Wp_worst_39 X v0 v1 v2 q6.2)))))) := by
  show pS X 4 (some .int) k_Wp_worst 4 [some (.ref v0), some (.int v1), some (.int v2)] [] h = _
  refine (ss_iload_n rfl rfl).trans ?_
  refine (ss_aload_n rfl rfl).trans ?_
  refine (ss_getR rfl).trans ?_
  refine congrArg (Option.bind _) (funext fun x1 => ?_)
  refine (ss_getI rfl).trans ?_
  refine congrArg (Option.bind _) (funext fun x2 => ?_)
  refine (ss_icmp_ge rfl).trans ?_
  refine pv_ite ?_ ?_
  · refine (ss_iload_n rfl rfl).trans ?_
    exact ss_ireturn rfl
  · refine (ss_iload_n rfl rfl).trans ?_
    refine (ss_iconst rfl (v := (-1)) rfl).trans ?_
    refine (ss_icmp_eq rfl).trans ?_
    refine pv_ite ?_ ?_
    · rfl
    · refine (ss_aload_n rfl rfl).trans ?_
      refine (ss_getR rfl).trans ?_
      refine congrArg (Option.bind _) (funext fun x3 => ?_)
      refine (ss_iload_n rfl rfl).trans ?_
      refine (ss_callSI (as := [.ref x3, .int v2]) rfl t_Wp_farOf (by decide) rfl rfl (by decide) (Or.inl rfl) ⟨Nat.le_of_ble_eq_true rfl, Nat.le_of_ble_eq_true rfl⟩).trans ?_
      refine congrArg (Option.bind _) (funext fun q4 => ?_)
      refine (ss_aload_n rfl rfl).trans ?_
      refine (ss_getR rfl).trans ?_
      refine congrArg (Option.bind _) (funext fun x5 => ?_)
      refine (ss_iload_n rfl rfl).trans ?_
      refine (ss_callSI (as := [.ref x5, .int v1]) rfl t_Wp_farOf (by decide) rfl rfl (by simp [Value.category]) (Or.inl rfl) ⟨Nat.le_of_ble_eq_true rfl, Nat.le_of_ble_eq_true rfl⟩).trans ?_
      refine congrArg (Option.bind _) (funext fun q6 => ?_)
      refine (ss_icmp_le rfl).trans ?_
      refine pv_ite ?_ ?_
      · rfl
      · rfl
set_option maxRecDepth 8000 in
theorem u_Wp_worst_39 (X : pv_X) (v0 : Nat) (v1 : Int32) (v2 : Int32) (h : pv_H) : f_Wp_worst_39 X v0 v1 v2 h =
    f_Wp_worst_41 X v0 v2 v2 h := by
  show pS X 4 (some .int) k_Wp_worst 39 [some (.ref v0), some (.int v1), some (.int v2)] [] h = _
  refine (ss_iload_n rfl rfl).trans ?_
  refine (ss_istore_n rfl rfl).trans ?_
  rfl
set_option maxRecDepth 8000 in
theorem u_Wp_worst_41 (X : pv_X) (v0 : Nat) (v1 : Int32) (v2 : Int32) (h : pv_H) : f_Wp_worst_41 X v0 v1 v2 h =
    f_Wp_worst_4 X v0 v1 (v2 + 1) h := by
  show pS X 4 (some .int) k_Wp_worst 41 [some (.ref v0), some (.int v1), some (.int v2)] [] h = _
  refine (ss_iinc3 rfl rfl (v := v2 + 1) (congrArg (HAdd.hAdd _) (show Int32.ofInt (1) = 1 by decide)) rfl).trans ?_
  refine (ss_goto rfl).trans ?_
  rfl
theorem e_Wp_worst (X : pv_X) (v0 : Nat) (h : pv_H) : pM X m_Wp_worst [.ref v0] h = f_Wp_worst_0 X v0 h := rfl
noncomputable def f_Wp_middle_0 (X : pv_X) (v0 : Nat) (h : pv_H) : Option pv_O := pS X 4 (some .int) k_Wp_middle 0 [some (.ref v0), none] [] h
noncomputable def f_Wp_middle_57 (X : pv_X) (v0 : Nat) (v1 : Int32) (s0 : Int32) (h : pv_H) : Option pv_O := pS X 4 (some .int) k_Wp_middle 57 [some (.ref v0), some (.int v1)] [.int s0] h
set_option maxRecDepth 8000 in
theorem u_Wp_middle_0 (X : pv_X) (v0 : Nat) (h : pv_H) : f_Wp_middle_0 X v0 h =
    (pv_fR h v0 10 1).bind (fun x1 => (pv_fI h x1 6 6).bind (fun x2 => if ¬ x2 = 0 then (pv_fR h v0 10 1).bind (fun x3 => (pv_fI h x3 6 6).bind (fun x4 => (pv_fR h v0 10 1).bind (fun x5 => (pv_fI h x5 6 6).bind (fun x6 => if pv_rc h v0 10 = true then (pv_tI (pM X m_Wp_orderedAt [.ref v0, .int ((x4 - 1) - (x6 / 2))] h)).bind (fun q7 => if ¬ q7.1 = (-1) then (pv_fR q7.2 v0 10 5).bind (fun x8 => if pv_rc q7.2 x8 7 = true then (pv_tI (pM X m_St_outOf [.ref x8, .int q7.1] q7.2)).bind (fun q9 => f_Wp_middle_57 X v0 q7.1 q9.1 q9.2) else none) else f_Wp_middle_57 X v0 q7.1 (-1000) q7.2) else none)))) else some (some (.int (-1000)), h))) := by
  show pS X 4 (some .int) k_Wp_middle 0 [some (.ref v0), none] [] h = _
  refine (ss_aload_n rfl rfl).trans ?_
  refine (ss_getR rfl).trans ?_
  refine congrArg (Option.bind _) (funext fun x1 => ?_)
  refine (ss_getI rfl).trans ?_
  refine congrArg (Option.bind _) (funext fun x2 => ?_)
  refine (ss_if_ne rfl).trans ?_
  refine pv_ite ?_ ?_
  · refine (ss_aload_n rfl rfl).trans ?_
    refine (ss_aload_n rfl rfl).trans ?_
    refine (ss_getR rfl).trans ?_
    refine congrArg (Option.bind _) (funext fun x3 => ?_)
    refine (ss_getI rfl).trans ?_
    refine congrArg (Option.bind _) (funext fun x4 => ?_)
    refine (ss_iconst rfl (v := 1) rfl).trans ?_
    refine (ss_isub rfl).trans ?_
    refine (ss_aload_n rfl rfl).trans ?_
    refine (ss_getR rfl).trans ?_
    refine congrArg (Option.bind _) (funext fun x5 => ?_)
    refine (ss_getI rfl).trans ?_
    refine congrArg (Option.bind _) (funext fun x6 => ?_)
    refine (ss_iconst rfl (v := 2) rfl).trans ?_
    refine (ss_idiv rfl (by decide)).trans ?_
    refine (ss_isub rfl).trans ?_
    refine (ss_callVI (as := [.int ((x4 - 1) - (x6 / 2))]) rfl t_Wp_orderedAt (by decide) rfl rfl (by decide) (Or.inl rfl) ⟨Nat.le_of_ble_eq_true rfl, Nat.le_of_ble_eq_true rfl⟩).trans ?_
    refine pv_ite ?_ rfl
    refine congrArg (Option.bind _) (funext fun q7 => ?_)
    refine (ss_istore_n rfl rfl).trans ?_
    refine (ss_iload_n rfl rfl).trans ?_
    refine (ss_iconst rfl (v := (-1)) rfl).trans ?_
    refine (ss_icmp_ne rfl).trans ?_
    refine pv_ite ?_ ?_
    · refine (ss_aload_n rfl rfl).trans ?_
      refine (ss_getR rfl).trans ?_
      refine congrArg (Option.bind _) (funext fun x8 => ?_)
      refine (ss_iload_n rfl rfl).trans ?_
      refine (ss_callVI (as := [.int q7.1]) rfl t_St_outOf (by decide) rfl rfl (by decide) (Or.inl rfl) ⟨Nat.le_of_ble_eq_true rfl, Nat.le_of_ble_eq_true rfl⟩).trans ?_
      refine pv_ite ?_ rfl
      refine congrArg (Option.bind _) (funext fun q9 => ?_)
      rfl
    · refine (ss_sipush rfl (v := (-1000)) rfl).trans ?_
      refine (ss_goto rfl).trans ?_
      rfl
  · refine (ss_sipush rfl (v := (-1000)) rfl).trans ?_
    exact ss_ireturn rfl
set_option maxRecDepth 8000 in
theorem u_Wp_middle_57 (X : pv_X) (v0 : Nat) (v1 : Int32) (s0 : Int32) (h : pv_H) : f_Wp_middle_57 X v0 v1 s0 h =
    some (some (.int s0), h) := by
  show pS X 4 (some .int) k_Wp_middle 57 [some (.ref v0), some (.int v1)] [.int s0] h = _
  exact ss_ireturn rfl
theorem e_Wp_middle (X : pv_X) (v0 : Nat) (h : pv_H) : pM X m_Wp_middle [.ref v0] h = f_Wp_middle_0 X v0 h := rfl
noncomputable def f_Wp_noon_0 (X : pv_X) (v0 : Nat) (v1 : Int32) (h : pv_H) : Option pv_O := pS X 5 (some .int) k_Wp_noon 0 [some (.ref v0), some (.int v1), none] [] h
noncomputable def f_Wp_noon_23 (X : pv_X) (v0 : Nat) (v1 : Int32) (v2 : Int32) (h : pv_H) : Option pv_O := pS X 5 (some .int) k_Wp_noon 23 [some (.ref v0), some (.int v1), some (.int v2)] [] h
set_option maxRecDepth 8000 in
theorem u_Wp_noon_0 (X : pv_X) (v0 : Nat) (v1 : Int32) (h : pv_H) : f_Wp_noon_0 X v0 v1 h =
    if pv_rc h v0 10 = true then (pv_tI (pM X m_Wp_isPerson [.ref v0, .int v1] h)).bind (fun q1 => if ¬ q1.1 = 0 then (pv_fR q1.2 v0 10 6).bind (fun x2 => (pv_fR q1.2 v0 10 5).bind (fun x3 => if pv_rc q1.2 x2 7 = true then (pv_tV (pM X m_St_copy [.ref x2, .ref x3] q1.2)).bind (fun h4 => f_Wp_noon_23 X v0 v1 1 h4) else none)) else some (some (.int (-1)), q1.2)) else none := by
  show pS X 5 (some .int) k_Wp_noon 0 [some (.ref v0), some (.int v1), none] [] h = _
  refine (ss_aload_n rfl rfl).trans ?_
  refine (ss_iload_n rfl rfl).trans ?_
  refine (ss_callVI (as := [.int v1]) rfl t_Wp_isPerson (by decide) rfl rfl (by decide) (Or.inr rfl) ⟨Nat.le_of_ble_eq_true rfl, Nat.le_of_ble_eq_true rfl⟩).trans ?_
  refine pv_ite ?_ rfl
  refine congrArg (Option.bind _) (funext fun q1 => ?_)
  refine (ss_if_ne rfl).trans ?_
  refine pv_ite ?_ ?_
  · refine (ss_aload_n rfl rfl).trans ?_
    refine (ss_getR rfl).trans ?_
    refine congrArg (Option.bind _) (funext fun x2 => ?_)
    refine (ss_aload_n rfl rfl).trans ?_
    refine (ss_getR rfl).trans ?_
    refine congrArg (Option.bind _) (funext fun x3 => ?_)
    refine (ss_callVN (as := [.ref x3]) rfl t_St_copy (by decide) rfl rfl (by decide) rfl ⟨Nat.le_of_ble_eq_true rfl, Nat.le_of_ble_eq_true rfl⟩).trans ?_
    refine pv_ite ?_ rfl
    refine congrArg (Option.bind _) (funext fun h4 => ?_)
    refine (ss_iconst rfl (v := 1) rfl).trans ?_
    refine (ss_istore_n rfl rfl).trans ?_
    rfl
  · refine (ss_iconst rfl (v := (-1)) rfl).trans ?_
    exact ss_ireturn rfl
set_option maxRecDepth 8000 in
theorem u_Wp_noon_23 (X : pv_X) (v0 : Nat) (v1 : Int32) (v2 : Int32) (h : pv_H) : f_Wp_noon_23 X v0 v1 v2 h =
    if 96 < v2 then some (some (.int (-1)), h) else (pv_fR h v0 10 1).bind (fun x1 => (pv_fR h v0 10 6).bind (fun x2 => if pv_rc h x1 6 = true then (pv_tI (pM X m_Po_passQuarter [.ref x1, .ref x2] h)).bind (fun q3 => (pv_tI (pM X m_Wp_has [.int q3.1, .int v1] q3.2)).bind (fun q4 => if q4.1 = 0 then f_Wp_noon_23 X v0 v1 (v2 + 1) q4.2 else some (some (.int v2), q4.2))) else none)) := by
  show pS X 5 (some .int) k_Wp_noon 23 [some (.ref v0), some (.int v1), some (.int v2)] [] h = _
  refine (ss_iload_n rfl rfl).trans ?_
  refine (ss_bipush rfl (v := 96) rfl).trans ?_
  refine (ss_icmp_gt rfl).trans ?_
  refine pv_ite ?_ ?_
  · refine (ss_iconst rfl (v := (-1)) rfl).trans ?_
    exact ss_ireturn rfl
  · refine (ss_aload_n rfl rfl).trans ?_
    refine (ss_getR rfl).trans ?_
    refine congrArg (Option.bind _) (funext fun x1 => ?_)
    refine (ss_aload_n rfl rfl).trans ?_
    refine (ss_getR rfl).trans ?_
    refine congrArg (Option.bind _) (funext fun x2 => ?_)
    refine (ss_callVI (as := [.ref x2]) rfl t_Po_passQuarter (by decide) rfl rfl (by decide) (Or.inl rfl) ⟨Nat.le_of_ble_eq_true rfl, Nat.le_of_ble_eq_true rfl⟩).trans ?_
    refine pv_ite ?_ rfl
    refine congrArg (Option.bind _) (funext fun q3 => ?_)
    refine (ss_iload_n rfl rfl).trans ?_
    refine (ss_callSI (as := [.int q3.1, .int v1]) rfl t_Wp_has (by decide) rfl rfl (by decide) (Or.inr rfl) ⟨Nat.le_of_ble_eq_true rfl, Nat.le_of_ble_eq_true rfl⟩).trans ?_
    refine congrArg (Option.bind _) (funext fun q4 => ?_)
    refine (ss_if_eq rfl).trans ?_
    refine pv_ite ?_ ?_
    · refine (ss_iinc3 rfl rfl (v := v2 + 1) (congrArg (HAdd.hAdd _) (show Int32.ofInt (1) = 1 by decide)) rfl).trans ?_
      refine (ss_goto rfl).trans ?_
      rfl
    · refine (ss_iload_n rfl rfl).trans ?_
      exact ss_ireturn rfl
theorem e_Wp_noon (X : pv_X) (v0 : Nat) (v1 : Int32) (h : pv_H) : pM X m_Wp_noon [.ref v0, .int v1] h = f_Wp_noon_0 X v0 v1 h := rfl
noncomputable def f_Wp_first_0 (X : pv_X) (v0 : Nat) (h : pv_H) : Option pv_O := pS X 5 (some .int) k_Wp_first 0 [some (.ref v0), none, none] [] h
noncomputable def f_Wp_first_13 (X : pv_X) (v0 : Nat) (v1 : Int32) (o2 : Option Value) (h : pv_H) : Option pv_O := pS X 5 (some .int) k_Wp_first 13 [some (.ref v0), some (.int v1), o2] [] h
set_option maxRecDepth 8000 in
theorem u_Wp_first_0 (X : pv_X) (v0 : Nat) (h : pv_H) : f_Wp_first_0 X v0 h =
    (pv_fR h v0 10 6).bind (fun x1 => (pv_fR h v0 10 5).bind (fun x2 => if pv_rc h x1 7 = true then (pv_tV (pM X m_St_copy [.ref x1, .ref x2] h)).bind (fun h3 => f_Wp_first_13 X v0 1 none h3) else none)) := by
  show pS X 5 (some .int) k_Wp_first 0 [some (.ref v0), none, none] [] h = _
  refine (ss_aload_n rfl rfl).trans ?_
  refine (ss_getR rfl).trans ?_
  refine congrArg (Option.bind _) (funext fun x1 => ?_)
  refine (ss_aload_n rfl rfl).trans ?_
  refine (ss_getR rfl).trans ?_
  refine congrArg (Option.bind _) (funext fun x2 => ?_)
  refine (ss_callVN (as := [.ref x2]) rfl t_St_copy (by decide) rfl rfl (by decide) rfl ⟨Nat.le_of_ble_eq_true rfl, Nat.le_of_ble_eq_true rfl⟩).trans ?_
  refine pv_ite ?_ rfl
  refine congrArg (Option.bind _) (funext fun h3 => ?_)
  refine (ss_iconst rfl (v := 1) rfl).trans ?_
  refine (ss_istore_n rfl rfl).trans ?_
  rfl
set_option maxRecDepth 8000 in
theorem u_Wp_first_13 (X : pv_X) (v0 : Nat) (v1 : Int32) (o2 : Option Value) (h : pv_H) : f_Wp_first_13 X v0 v1 o2 h =
    if 96 < v1 then some (some (.int (-1)), h) else (pv_fR h v0 10 1).bind (fun x1 => (pv_fR h v0 10 6).bind (fun x2 => if pv_rc h x1 6 = true then (pv_tI (pM X m_Po_passQuarter [.ref x1, .ref x2] h)).bind (fun q3 => if q3.1 = 0 then f_Wp_first_13 X v0 (v1 + 1) (some (.int q3.1)) q3.2 else (pv_tI (pM X m_In_numberOfTrailingZeros [.int q3.1] q3.2)).bind (fun q4 => some (some (.int q4.1), q4.2))) else none)) := by
  show pS X 5 (some .int) k_Wp_first 13 [some (.ref v0), some (.int v1), o2] [] h = _
  refine (ss_iload_n rfl rfl).trans ?_
  refine (ss_bipush rfl (v := 96) rfl).trans ?_
  refine (ss_icmp_gt rfl).trans ?_
  refine pv_ite ?_ ?_
  · refine (ss_iconst rfl (v := (-1)) rfl).trans ?_
    exact ss_ireturn rfl
  · refine (ss_aload_n rfl rfl).trans ?_
    refine (ss_getR rfl).trans ?_
    refine congrArg (Option.bind _) (funext fun x1 => ?_)
    refine (ss_aload_n rfl rfl).trans ?_
    refine (ss_getR rfl).trans ?_
    refine congrArg (Option.bind _) (funext fun x2 => ?_)
    refine (ss_callVI (as := [.ref x2]) rfl t_Po_passQuarter (by decide) rfl rfl (by decide) (Or.inl rfl) ⟨Nat.le_of_ble_eq_true rfl, Nat.le_of_ble_eq_true rfl⟩).trans ?_
    refine pv_ite ?_ rfl
    refine congrArg (Option.bind _) (funext fun q3 => ?_)
    refine (ss_istore_n rfl rfl).trans ?_
    refine (ss_iload_n rfl rfl).trans ?_
    refine (ss_if_eq rfl).trans ?_
    refine pv_ite ?_ ?_
    · refine (ss_iinc3 rfl rfl (v := v1 + 1) (congrArg (HAdd.hAdd _) (show Int32.ofInt (1) = 1 by decide)) rfl).trans ?_
      refine (ss_goto rfl).trans ?_
      rfl
    · refine (ss_iload_n rfl rfl).trans ?_
      refine (ss_callSI (as := [.int q3.1]) rfl t_In_numberOfTrailingZeros (by decide) rfl rfl (by decide) (Or.inl rfl) ⟨Nat.le_of_ble_eq_true rfl, Nat.le_of_ble_eq_true rfl⟩).trans ?_
      refine congrArg (Option.bind _) (funext fun q4 => ?_)
      exact ss_ireturn rfl
theorem e_Wp_first (X : pv_X) (v0 : Nat) (h : pv_H) : pM X m_Wp_first [.ref v0] h = f_Wp_first_0 X v0 h := rfl
noncomputable def f_Wp_meet_0 (X : pv_X) (v0 : Nat) (v1 : Int32) (v2 : Int32) (h : pv_H) : Option pv_O := pS X 5 (some .int) k_Wp_meet 0 [some (.ref v0), some (.int v1), some (.int v2), none] [] h
noncomputable def f_Wp_meet_24 (X : pv_X) (v0 : Nat) (v1 : Int32) (v2 : Int32) (v3 : Int32) (h : pv_H) : Option pv_O := pS X 5 (some .int) k_Wp_meet 24 [some (.ref v0), some (.int v1), some (.int v2), some (.int v3)] [] h
set_option maxRecDepth 8000 in
theorem u_Wp_meet_0 (X : pv_X) (v0 : Nat) (v1 : Int32) (v2 : Int32) (h : pv_H) : f_Wp_meet_0 X v0 v1 v2 h =
    if pv_rc h v0 10 = true then (pv_tI (pM X m_Wp_areTwo [.ref v0, .int v1, .int v2] h)).bind (fun q1 => if ¬ q1.1 = 0 then (pv_fR q1.2 v0 10 6).bind (fun x2 => (pv_fR q1.2 v0 10 5).bind (fun x3 => if pv_rc q1.2 x2 7 = true then (pv_tV (pM X m_St_copy [.ref x2, .ref x3] q1.2)).bind (fun h4 => f_Wp_meet_24 X v0 v1 v2 0 h4) else none)) else some (some (.int (-1)), q1.2)) else none := by
  show pS X 5 (some .int) k_Wp_meet 0 [some (.ref v0), some (.int v1), some (.int v2), none] [] h = _
  refine (ss_aload_n rfl rfl).trans ?_
  refine (ss_iload_n rfl rfl).trans ?_
  refine (ss_iload_n rfl rfl).trans ?_
  refine (ss_callVI (as := [.int v1, .int v2]) rfl t_Wp_areTwo (by decide) rfl rfl (by decide) (Or.inr rfl) ⟨Nat.le_of_ble_eq_true rfl, Nat.le_of_ble_eq_true rfl⟩).trans ?_
  refine pv_ite ?_ rfl
  refine congrArg (Option.bind _) (funext fun q1 => ?_)
  refine (ss_if_ne rfl).trans ?_
  refine pv_ite ?_ ?_
  · refine (ss_aload_n rfl rfl).trans ?_
    refine (ss_getR rfl).trans ?_
    refine congrArg (Option.bind _) (funext fun x2 => ?_)
    refine (ss_aload_n rfl rfl).trans ?_
    refine (ss_getR rfl).trans ?_
    refine congrArg (Option.bind _) (funext fun x3 => ?_)
    refine (ss_callVN (as := [.ref x3]) rfl t_St_copy (by decide) rfl rfl (by decide) rfl ⟨Nat.le_of_ble_eq_true rfl, Nat.le_of_ble_eq_true rfl⟩).trans ?_
    refine pv_ite ?_ rfl
    refine congrArg (Option.bind _) (funext fun h4 => ?_)
    refine (ss_iconst rfl (v := 0) rfl).trans ?_
    refine (ss_istore_n rfl rfl).trans ?_
    rfl
  · refine (ss_iconst rfl (v := (-1)) rfl).trans ?_
    exact ss_ireturn rfl
set_option maxRecDepth 8000 in
theorem u_Wp_meet_24 (X : pv_X) (v0 : Nat) (v1 : Int32) (v2 : Int32) (v3 : Int32) (h : pv_H) : f_Wp_meet_24 X v0 v1 v2 v3 h =
    if 96 < v3 then some (some (.int (-1)), h) else (pv_fR h v0 10 6).bind (fun x1 => (pv_fR h x1 7 0).bind (fun x2 => (pv_aX X h x2 v1).bind (fun x3 => (pv_fR h v0 10 6).bind (fun x4 => (pv_fR h x4 7 0).bind (fun x5 => (pv_aX X h x5 v2).bind (fun x6 => if ¬ x3 = x6 then (pv_fR h v0 10 1).bind (fun x7 => (pv_fR h v0 10 6).bind (fun x8 => if pv_rc h x7 6 = true then (pv_tI (pM X m_Po_passQuarter [.ref x7, .ref x8] h)).bind (fun q9 => f_Wp_meet_24 X v0 v1 v2 (v3 + 1) q9.2) else none)) else some (some (.int v3), h))))))) := by
  show pS X 5 (some .int) k_Wp_meet 24 [some (.ref v0), some (.int v1), some (.int v2), some (.int v3)] [] h = _
  refine (ss_iload_n rfl rfl).trans ?_
  refine (ss_bipush rfl (v := 96) rfl).trans ?_
  refine (ss_icmp_gt rfl).trans ?_
  refine pv_ite ?_ ?_
  · refine (ss_iconst rfl (v := (-1)) rfl).trans ?_
    exact ss_ireturn rfl
  · refine (ss_aload_n rfl rfl).trans ?_
    refine (ss_getR rfl).trans ?_
    refine congrArg (Option.bind _) (funext fun x1 => ?_)
    refine (ss_getR rfl).trans ?_
    refine congrArg (Option.bind _) (funext fun x2 => ?_)
    refine (ss_iload_n rfl rfl).trans ?_
    refine (ss_iaload rfl).trans ?_
    refine congrArg (Option.bind _) (funext fun x3 => ?_)
    refine (ss_aload_n rfl rfl).trans ?_
    refine (ss_getR rfl).trans ?_
    refine congrArg (Option.bind _) (funext fun x4 => ?_)
    refine (ss_getR rfl).trans ?_
    refine congrArg (Option.bind _) (funext fun x5 => ?_)
    refine (ss_iload_n rfl rfl).trans ?_
    refine (ss_iaload rfl).trans ?_
    refine congrArg (Option.bind _) (funext fun x6 => ?_)
    refine (ss_icmp_ne rfl).trans ?_
    refine pv_ite ?_ ?_
    · refine (ss_aload_n rfl rfl).trans ?_
      refine (ss_getR rfl).trans ?_
      refine congrArg (Option.bind _) (funext fun x7 => ?_)
      refine (ss_aload_n rfl rfl).trans ?_
      refine (ss_getR rfl).trans ?_
      refine congrArg (Option.bind _) (funext fun x8 => ?_)
      refine (ss_callVI (as := [.ref x8]) rfl t_Po_passQuarter (by decide) rfl rfl (by decide) (Or.inl rfl) ⟨Nat.le_of_ble_eq_true rfl, Nat.le_of_ble_eq_true rfl⟩).trans ?_
      refine pv_ite ?_ rfl
      refine congrArg (Option.bind _) (funext fun q9 => ?_)
      refine (ss_popI rfl).trans ?_
      refine (ss_iinc3 rfl rfl (v := v3 + 1) (congrArg (HAdd.hAdd _) (show Int32.ofInt (1) = 1 by decide)) rfl).trans ?_
      refine (ss_goto rfl).trans ?_
      rfl
    · refine (ss_iload_n rfl rfl).trans ?_
      exact ss_ireturn rfl
theorem e_Wp_meet (X : pv_X) (v0 : Nat) (v1 : Int32) (v2 : Int32) (h : pv_H) : pM X m_Wp_meet [.ref v0, .int v1, .int v2] h = f_Wp_meet_0 X v0 v1 v2 h := rfl
noncomputable def f_Wp_ordered_0 (X : pv_X) (v0 : Nat) (v1 : Int32) (h : pv_H) : Option pv_O := pS X 4 (some .int) k_Wp_ordered 0 [some (.ref v0), some (.int v1)] [] h
set_option maxRecDepth 8000 in
theorem u_Wp_ordered_0 (X : pv_X) (v0 : Nat) (v1 : Int32) (h : pv_H) : f_Wp_ordered_0 X v0 v1 h =
    if pv_rc h v0 10 = true then (pv_tI (pM X m_Wp_orderedAt [.ref v0, .int v1] h)).bind (fun q1 => some (some (.int q1.1), q1.2)) else none := by
  show pS X 4 (some .int) k_Wp_ordered 0 [some (.ref v0), some (.int v1)] [] h = _
  refine (ss_aload_n rfl rfl).trans ?_
  refine (ss_iload_n rfl rfl).trans ?_
  refine (ss_callVI (as := [.int v1]) rfl t_Wp_orderedAt (by decide) rfl rfl (by decide) (Or.inl rfl) ⟨Nat.le_of_ble_eq_true rfl, Nat.le_of_ble_eq_true rfl⟩).trans ?_
  refine pv_ite ?_ rfl
  refine congrArg (Option.bind _) (funext fun q1 => ?_)
  exact ss_ireturn rfl
theorem e_Wp_ordered (X : pv_X) (v0 : Nat) (v1 : Int32) (h : pv_H) : pM X m_Wp_ordered [.ref v0, .int v1] h = f_Wp_ordered_0 X v0 v1 h := rfl
noncomputable def f_Wp_orderedAt_0 (X : pv_X) (v0 : Nat) (v1 : Int32) (h : pv_H) : Option pv_O := pS X 3 (some .int) k_Wp_orderedAt 0 [some (.ref v0), some (.int v1), none, none, none, none] [] h
noncomputable def f_Wp_orderedAt_2 (X : pv_X) (v0 : Nat) (v1 : Int32) (v2 : Int32) (o3 : Option Value) (o4 : Option Value) (o5 : Option Value) (h : pv_H) : Option pv_O := pS X 3 (some .int) k_Wp_orderedAt 2 [some (.ref v0), some (.int v1), some (.int v2), o3, o4, o5] [] h
noncomputable def f_Wp_orderedAt_18 (X : pv_X) (v0 : Nat) (v1 : Int32) (v2 : Int32) (v3 : Int32) (v4 : Int32) (o5 : Option Value) (h : pv_H) : Option pv_O := pS X 3 (some .int) k_Wp_orderedAt 18 [some (.ref v0), some (.int v1), some (.int v2), some (.int v3), some (.int v4), o5] [] h
noncomputable def f_Wp_orderedAt_66 (X : pv_X) (v0 : Nat) (v1 : Int32) (v2 : Int32) (v3 : Int32) (v4 : Int32) (v5 : Int32) (h : pv_H) : Option pv_O := pS X 3 (some .int) k_Wp_orderedAt 66 [some (.ref v0), some (.int v1), some (.int v2), some (.int v3), some (.int v4), some (.int v5)] [] h
noncomputable def f_Wp_orderedAt_69 (X : pv_X) (v0 : Nat) (v1 : Int32) (v2 : Int32) (v3 : Int32) (v4 : Int32) (v5 : Int32) (h : pv_H) : Option pv_O := pS X 3 (some .int) k_Wp_orderedAt 69 [some (.ref v0), some (.int v1), some (.int v2), some (.int v3), some (.int v4), some (.int v5)] [] h
set_option maxRecDepth 8000 in
theorem u_Wp_orderedAt_0 (X : pv_X) (v0 : Nat) (v1 : Int32) (h : pv_H) : f_Wp_orderedAt_0 X v0 v1 h =
    f_Wp_orderedAt_2 X v0 v1 0 none none none h := by
  show pS X 3 (some .int) k_Wp_orderedAt 0 [some (.ref v0), some (.int v1), none, none, none, none] [] h = _
  refine (ss_iconst rfl (v := 0) rfl).trans ?_
  refine (ss_istore_n rfl rfl).trans ?_
  rfl
set_option maxRecDepth 8000 in
theorem u_Wp_orderedAt_2 (X : pv_X) (v0 : Nat) (v1 : Int32) (v2 : Int32) (o3 : Option Value) (o4 : Option Value) (o5 : Option Value) (h : pv_H) : f_Wp_orderedAt_2 X v0 v1 v2 o3 o4 o5 h =
    (pv_fR h v0 10 1).bind (fun x1 => (pv_fI h x1 6 6).bind (fun x2 => if x2 ≤ v2 then some (some (.int (-1)), h) else f_Wp_orderedAt_18 X v0 v1 v2 0 0 o5 h)) := by
  show pS X 3 (some .int) k_Wp_orderedAt 2 [some (.ref v0), some (.int v1), some (.int v2), o3, o4, o5] [] h = _
  refine (ss_iload_n rfl rfl).trans ?_
  refine (ss_aload_n rfl rfl).trans ?_
  refine (ss_getR rfl).trans ?_
  refine congrArg (Option.bind _) (funext fun x1 => ?_)
  refine (ss_getI rfl).trans ?_
  refine congrArg (Option.bind _) (funext fun x2 => ?_)
  refine (ss_icmp_ge rfl).trans ?_
  refine pv_ite ?_ ?_
  · refine (ss_iconst rfl (v := (-1)) rfl).trans ?_
    exact ss_ireturn rfl
  · refine (ss_iconst rfl (v := 0) rfl).trans ?_
    refine (ss_istore_n rfl rfl).trans ?_
    refine (ss_iconst rfl (v := 0) rfl).trans ?_
    refine (ss_istore rfl rfl).trans ?_
    rfl
set_option maxRecDepth 8000 in
theorem u_Wp_orderedAt_18 (X : pv_X) (v0 : Nat) (v1 : Int32) (v2 : Int32) (v3 : Int32) (v4 : Int32) (o5 : Option Value) (h : pv_H) : f_Wp_orderedAt_18 X v0 v1 v2 v3 v4 o5 h =
    (pv_fR h v0 10 1).bind (fun x1 => (pv_fI h x1 6 6).bind (fun x2 => if x2 ≤ v4 then if ¬ v3 = v1 then f_Wp_orderedAt_2 X v0 v1 (v2 + 1) (some (.int v3)) (some (.int v4)) o5 h else some (some (.int v2), h) else (pv_fR h v0 10 5).bind (fun x3 => if pv_rc h x3 7 = true then (pv_tI (pM X m_St_outOf [.ref x3, .int v4] h)).bind (fun q4 => (pv_fR q4.2 v0 10 5).bind (fun x5 => if pv_rc q4.2 x5 7 = true then (pv_tI (pM X m_St_outOf [.ref x5, .int v2] q4.2)).bind (fun q6 => if 0 < (q4.1 - q6.1) then f_Wp_orderedAt_66 X v0 v1 v2 v3 v4 (q4.1 - q6.1) q6.2 else if ¬ (q4.1 - q6.1) = 0 then f_Wp_orderedAt_69 X v0 v1 v2 v3 v4 (q4.1 - q6.1) q6.2 else if v2 ≤ v4 then f_Wp_orderedAt_69 X v0 v1 v2 v3 v4 (q4.1 - q6.1) q6.2 else f_Wp_orderedAt_66 X v0 v1 v2 v3 v4 (q4.1 - q6.1) q6.2) else none)) else none))) := by
  show pS X 3 (some .int) k_Wp_orderedAt 18 [some (.ref v0), some (.int v1), some (.int v2), some (.int v3), some (.int v4), o5] [] h = _
  refine (ss_iload rfl rfl).trans ?_
  refine (ss_aload_n rfl rfl).trans ?_
  refine (ss_getR rfl).trans ?_
  refine congrArg (Option.bind _) (funext fun x1 => ?_)
  refine (ss_getI rfl).trans ?_
  refine congrArg (Option.bind _) (funext fun x2 => ?_)
  refine (ss_icmp_ge rfl).trans ?_
  refine pv_ite ?_ ?_
  · refine (ss_iload_n rfl rfl).trans ?_
    refine (ss_iload_n rfl rfl).trans ?_
    refine (ss_icmp_ne rfl).trans ?_
    refine pv_ite ?_ ?_
    · refine (ss_iinc3 rfl rfl (v := v2 + 1) (congrArg (HAdd.hAdd _) (show Int32.ofInt (1) = 1 by decide)) rfl).trans ?_
      refine (ss_goto rfl).trans ?_
      rfl
    · refine (ss_iload_n rfl rfl).trans ?_
      exact ss_ireturn rfl
  · refine (ss_aload_n rfl rfl).trans ?_
    refine (ss_getR rfl).trans ?_
    refine congrArg (Option.bind _) (funext fun x3 => ?_)
    refine (ss_iload rfl rfl).trans ?_
    refine (ss_callVI (as := [.int v4]) rfl t_St_outOf (by decide) rfl rfl (by decide) (Or.inl rfl) ⟨Nat.le_of_ble_eq_true rfl, Nat.le_of_ble_eq_true rfl⟩).trans ?_
    refine pv_ite ?_ rfl
    refine congrArg (Option.bind _) (funext fun q4 => ?_)
    refine (ss_aload_n rfl rfl).trans ?_
    refine (ss_getR rfl).trans ?_
    refine congrArg (Option.bind _) (funext fun x5 => ?_)
    refine (ss_iload_n rfl rfl).trans ?_
    refine (ss_callVI (as := [.int v2]) rfl t_St_outOf (by decide) rfl rfl (by simp [Value.category]) (Or.inl rfl) ⟨Nat.le_of_ble_eq_true rfl, Nat.le_of_ble_eq_true rfl⟩).trans ?_
    refine pv_ite ?_ rfl
    refine congrArg (Option.bind _) (funext fun q6 => ?_)
    refine (ss_isub rfl).trans ?_
    refine (ss_istore rfl rfl).trans ?_
    refine (ss_iload rfl rfl).trans ?_
    refine (ss_if_gt rfl).trans ?_
    refine pv_ite ?_ ?_
    · rfl
    · refine (ss_iload rfl rfl).trans ?_
      refine (ss_if_ne rfl).trans ?_
      refine pv_ite ?_ ?_
      · rfl
      · refine (ss_iload rfl rfl).trans ?_
        refine (ss_iload_n rfl rfl).trans ?_
        refine (ss_icmp_ge rfl).trans ?_
        refine pv_ite ?_ ?_
        · rfl
        · rfl
set_option maxRecDepth 8000 in
theorem u_Wp_orderedAt_66 (X : pv_X) (v0 : Nat) (v1 : Int32) (v2 : Int32) (v3 : Int32) (v4 : Int32) (v5 : Int32) (h : pv_H) : f_Wp_orderedAt_66 X v0 v1 v2 v3 v4 v5 h =
    f_Wp_orderedAt_69 X v0 v1 v2 (v3 + 1) v4 v5 h := by
  show pS X 3 (some .int) k_Wp_orderedAt 66 [some (.ref v0), some (.int v1), some (.int v2), some (.int v3), some (.int v4), some (.int v5)] [] h = _
  refine (ss_iinc3 rfl rfl (v := v3 + 1) (congrArg (HAdd.hAdd _) (show Int32.ofInt (1) = 1 by decide)) rfl).trans ?_
  rfl
set_option maxRecDepth 8000 in
theorem u_Wp_orderedAt_69 (X : pv_X) (v0 : Nat) (v1 : Int32) (v2 : Int32) (v3 : Int32) (v4 : Int32) (v5 : Int32) (h : pv_H) : f_Wp_orderedAt_69 X v0 v1 v2 v3 v4 v5 h =
    f_Wp_orderedAt_18 X v0 v1 v2 v3 (v4 + 1) (some (.int v5)) h := by
  show pS X 3 (some .int) k_Wp_orderedAt 69 [some (.ref v0), some (.int v1), some (.int v2), some (.int v3), some (.int v4), some (.int v5)] [] h = _
  refine (ss_iinc3 rfl rfl (v := v4 + 1) (congrArg (HAdd.hAdd _) (show Int32.ofInt (1) = 1 by decide)) rfl).trans ?_
  refine (ss_goto rfl).trans ?_
  rfl
theorem e_Wp_orderedAt (X : pv_X) (v0 : Nat) (v1 : Int32) (h : pv_H) : pM X m_Wp_orderedAt [.ref v0, .int v1] h = f_Wp_orderedAt_0 X v0 v1 h := rfl
noncomputable def f_Wp_round_0 (X : pv_X) (v0 : Nat) (v1 : Int32) (v2 : Int32) (h : pv_H) : Option pv_O := pS X 6 (some .int) k_Wp_round 0 [some (.ref v0), some (.int v1), some (.int v2), none, none, none, none, none] [] h
noncomputable def f_Wp_round_25 (X : pv_X) (v0 : Nat) (v1 : Int32) (v2 : Int32) (h : pv_H) : Option pv_O := pS X 6 (some .int) k_Wp_round 25 [some (.ref v0), some (.int v1), some (.int v2), none, none, none, none, none] [] h
noncomputable def f_Wp_round_55 (X : pv_X) (v0 : Nat) (v1 : Int32) (v2 : Int32) (v3 : Int32) (v4 : Int32) (v5 : Int32) (v6 : Int32) (o7 : Option Value) (h : pv_H) : Option pv_O := pS X 6 (some .int) k_Wp_round 55 [some (.ref v0), some (.int v1), some (.int v2), some (.int v3), some (.int v4), some (.int v5), some (.int v6), o7] [] h
noncomputable def f_Wp_round_85 (X : pv_X) (v0 : Nat) (v1 : Int32) (v2 : Int32) (v3 : Int32) (v4 : Int32) (v5 : Int32) (v6 : Int32) (v7 : Int32) (h : pv_H) : Option pv_O := pS X 6 (some .int) k_Wp_round 85 [some (.ref v0), some (.int v1), some (.int v2), some (.int v3), some (.int v4), some (.int v5), some (.int v6), some (.int v7)] [] h
noncomputable def f_Wp_round_129 (X : pv_X) (v0 : Nat) (v1 : Int32) (v2 : Int32) (v3 : Int32) (v4 : Int32) (v5 : Int32) (v6 : Int32) (o7 : Option Value) (h : pv_H) : Option pv_O := pS X 6 (some .int) k_Wp_round 129 [some (.ref v0), some (.int v1), some (.int v2), some (.int v3), some (.int v4), some (.int v5), some (.int v6), o7] [] h
noncomputable def f_Wp_round_131 (X : pv_X) (v0 : Nat) (v1 : Int32) (v2 : Int32) (v3 : Int32) (v4 : Int32) (v5 : Int32) (v6 : Int32) (o7 : Option Value) (s0 : Int32) (h : pv_H) : Option pv_O := pS X 6 (some .int) k_Wp_round 131 [some (.ref v0), some (.int v1), some (.int v2), some (.int v3), some (.int v4), some (.int v5), some (.int v6), o7] [.int s0] h
set_option maxRecDepth 8000 in
theorem u_Wp_round_0 (X : pv_X) (v0 : Nat) (v1 : Int32) (v2 : Int32) (h : pv_H) : f_Wp_round_0 X v0 v1 v2 h =
    if pv_rc h v0 10 = true then (pv_tI (pM X m_Wp_isPerson [.ref v0, .int v1] h)).bind (fun q1 => if q1.1 = 0 then f_Wp_round_25 X v0 v1 v2 q1.2 else (pv_fR q1.2 v0 10 1).bind (fun x2 => (pv_fI q1.2 x2 6 6).bind (fun x3 => (pv_tI (pM X m_Wp_isWithin [.int v2, .int (-1), .int (x3 - 2)] q1.2)).bind (fun q4 => if ¬ q4.1 = 0 then (pv_fR q4.2 v0 10 1).bind (fun x5 => (pv_fI q4.2 x5 6 6).bind (fun x6 => (pv_tI (pM X m_Wp_rowsOf [.int (x6 - 1)] q4.2)).bind (fun q7 => if pv_rc q7.2 v0 10 = true then (pv_tI (pM X m_Wp_roundSum [.ref v0, .int v1, .int 0] q7.2)).bind (fun q8 => f_Wp_round_55 X v0 v1 v2 q7.1 0 q8.1 1 none q8.2) else none))) else f_Wp_round_25 X v0 v1 v2 q4.2)))) else none := by
  show pS X 6 (some .int) k_Wp_round 0 [some (.ref v0), some (.int v1), some (.int v2), none, none, none, none, none] [] h = _
  refine (ss_aload_n rfl rfl).trans ?_
  refine (ss_iload_n rfl rfl).trans ?_
  refine (ss_callVI (as := [.int v1]) rfl t_Wp_isPerson (by decide) rfl rfl (by decide) (Or.inr rfl) ⟨Nat.le_of_ble_eq_true rfl, Nat.le_of_ble_eq_true rfl⟩).trans ?_
  refine pv_ite ?_ rfl
  refine congrArg (Option.bind _) (funext fun q1 => ?_)
  refine (ss_if_eq rfl).trans ?_
  refine pv_ite ?_ ?_
  · rfl
  · refine (ss_iload_n rfl rfl).trans ?_
    refine (ss_iconst rfl (v := (-1)) rfl).trans ?_
    refine (ss_aload_n rfl rfl).trans ?_
    refine (ss_getR rfl).trans ?_
    refine congrArg (Option.bind _) (funext fun x2 => ?_)
    refine (ss_getI rfl).trans ?_
    refine congrArg (Option.bind _) (funext fun x3 => ?_)
    refine (ss_iconst rfl (v := 2) rfl).trans ?_
    refine (ss_isub rfl).trans ?_
    refine (ss_callSI (as := [.int v2, .int (-1), .int (x3 - 2)]) rfl t_Wp_isWithin (by decide) rfl rfl (by decide) (Or.inr rfl) ⟨Nat.le_of_ble_eq_true rfl, Nat.le_of_ble_eq_true rfl⟩).trans ?_
    refine congrArg (Option.bind _) (funext fun q4 => ?_)
    refine (ss_if_ne rfl).trans ?_
    refine pv_ite ?_ ?_
    · refine (ss_aload_n rfl rfl).trans ?_
      refine (ss_getR rfl).trans ?_
      refine congrArg (Option.bind _) (funext fun x5 => ?_)
      refine (ss_getI rfl).trans ?_
      refine congrArg (Option.bind _) (funext fun x6 => ?_)
      refine (ss_iconst rfl (v := 1) rfl).trans ?_
      refine (ss_isub rfl).trans ?_
      refine (ss_callSI (as := [.int (x6 - 1)]) rfl t_Wp_rowsOf (by decide) rfl rfl (by decide) (Or.inl rfl) ⟨Nat.le_of_ble_eq_true rfl, Nat.le_of_ble_eq_true rfl⟩).trans ?_
      refine congrArg (Option.bind _) (funext fun q7 => ?_)
      refine (ss_istore_n rfl rfl).trans ?_
      refine (ss_iconst rfl (v := 0) rfl).trans ?_
      refine (ss_istore rfl rfl).trans ?_
      refine (ss_aload_n rfl rfl).trans ?_
      refine (ss_iload_n rfl rfl).trans ?_
      refine (ss_iconst rfl (v := 0) rfl).trans ?_
      refine (ss_callVI (as := [.int v1, .int 0]) rfl t_Wp_roundSum (by decide) rfl rfl (by decide) (Or.inl rfl) ⟨Nat.le_of_ble_eq_true rfl, Nat.le_of_ble_eq_true rfl⟩).trans ?_
      refine pv_ite ?_ rfl
      refine congrArg (Option.bind _) (funext fun q8 => ?_)
      refine (ss_istore rfl rfl).trans ?_
      refine (ss_iconst rfl (v := 1) rfl).trans ?_
      refine (ss_istore rfl rfl).trans ?_
      rfl
    · rfl
set_option maxRecDepth 8000 in
theorem u_Wp_round_25 (X : pv_X) (v0 : Nat) (v1 : Int32) (v2 : Int32) (h : pv_H) : f_Wp_round_25 X v0 v1 v2 h =
    some (some (.int (-2)), h) := by
  show pS X 6 (some .int) k_Wp_round 25 [some (.ref v0), some (.int v1), some (.int v2), none, none, none, none, none] [] h = _
  refine (ss_bipush rfl (v := (-2)) rfl).trans ?_
  exact ss_ireturn rfl
set_option maxRecDepth 8000 in
theorem u_Wp_round_55 (X : pv_X) (v0 : Nat) (v1 : Int32) (v2 : Int32) (v3 : Int32) (v4 : Int32) (v5 : Int32) (v6 : Int32) (o7 : Option Value) (h : pv_H) : f_Wp_round_55 X v0 v1 v2 v3 v4 v5 v6 o7 h =
    if v3 ≤ v6 then if ¬ v2 = (-1) then if pv_rc h v0 10 = true then (pv_tI (pM X m_Wp_layRow [.ref v0, .int v1, .int v4] h)).bind (fun q1 => if v2 < 0 then f_Wp_round_129 X v0 v1 v2 v3 v4 v5 v6 o7 q1.2 else (pv_fR q1.2 v0 10 13).bind (fun x2 => (pv_len X q1.2 x2).bind (fun x3 => if x3 ≤ v2 then f_Wp_round_129 X v0 v1 v2 v3 v4 v5 v6 o7 q1.2 else (pv_fR q1.2 v0 10 13).bind (fun x4 => (pv_aX X q1.2 x4 v2).bind (fun x5 => f_Wp_round_131 X v0 v1 v2 v3 v4 v5 v6 o7 x5 q1.2))))) else none else some (some (.int v5), h) else if pv_rc h v0 10 = true then (pv_tI (pM X m_Wp_roundSum [.ref v0, .int v1, .int v6] h)).bind (fun q6 => if v5 ≤ q6.1 then f_Wp_round_85 X v0 v1 v2 v3 v4 v5 v6 q6.1 q6.2 else f_Wp_round_85 X v0 v1 v2 v3 v6 q6.1 v6 q6.1 q6.2) else none := by
  show pS X 6 (some .int) k_Wp_round 55 [some (.ref v0), some (.int v1), some (.int v2), some (.int v3), some (.int v4), some (.int v5), some (.int v6), o7] [] h = _
  refine (ss_iload rfl rfl).trans ?_
  refine (ss_iload_n rfl rfl).trans ?_
  refine (ss_icmp_ge rfl).trans ?_
  refine pv_ite ?_ ?_
  · refine (ss_iload_n rfl rfl).trans ?_
    refine (ss_iconst rfl (v := (-1)) rfl).trans ?_
    refine (ss_icmp_ne rfl).trans ?_
    refine pv_ite ?_ ?_
    · refine (ss_aload_n rfl rfl).trans ?_
      refine (ss_iload_n rfl rfl).trans ?_
      refine (ss_iload rfl rfl).trans ?_
      refine (ss_callVI (as := [.int v1, .int v4]) rfl t_Wp_layRow (by decide) rfl rfl (by decide) (Or.inl rfl) ⟨Nat.le_of_ble_eq_true rfl, Nat.le_of_ble_eq_true rfl⟩).trans ?_
      refine pv_ite ?_ rfl
      refine congrArg (Option.bind _) (funext fun q1 => ?_)
      refine (ss_popI rfl).trans ?_
      refine (ss_iload_n rfl rfl).trans ?_
      refine (ss_if_lt rfl).trans ?_
      refine pv_ite ?_ ?_
      · rfl
      · refine (ss_iload_n rfl rfl).trans ?_
        refine (ss_aload_n rfl rfl).trans ?_
        refine (ss_getR rfl).trans ?_
        refine congrArg (Option.bind _) (funext fun x2 => ?_)
        refine (ss_arraylength rfl).trans ?_
        refine congrArg (Option.bind _) (funext fun x3 => ?_)
        refine (ss_icmp_ge rfl).trans ?_
        refine pv_ite ?_ ?_
        · rfl
        · refine (ss_aload_n rfl rfl).trans ?_
          refine (ss_getR rfl).trans ?_
          refine congrArg (Option.bind _) (funext fun x4 => ?_)
          refine (ss_iload_n rfl rfl).trans ?_
          refine (ss_iaload rfl).trans ?_
          refine congrArg (Option.bind _) (funext fun x5 => ?_)
          refine (ss_goto rfl).trans ?_
          rfl
    · refine (ss_iload rfl rfl).trans ?_
      exact ss_ireturn rfl
  · refine (ss_aload_n rfl rfl).trans ?_
    refine (ss_iload_n rfl rfl).trans ?_
    refine (ss_iload rfl rfl).trans ?_
    refine (ss_callVI (as := [.int v1, .int v6]) rfl t_Wp_roundSum (by decide) rfl rfl (by decide) (Or.inl rfl) ⟨Nat.le_of_ble_eq_true rfl, Nat.le_of_ble_eq_true rfl⟩).trans ?_
    refine pv_ite ?_ rfl
    refine congrArg (Option.bind _) (funext fun q6 => ?_)
    refine (ss_istore rfl rfl).trans ?_
    refine (ss_iload rfl rfl).trans ?_
    refine (ss_iload rfl rfl).trans ?_
    refine (ss_icmp_ge rfl).trans ?_
    refine pv_ite ?_ ?_
    · rfl
    · refine (ss_iload rfl rfl).trans ?_
      refine (ss_istore rfl rfl).trans ?_
      refine (ss_iload rfl rfl).trans ?_
      refine (ss_istore rfl rfl).trans ?_
      rfl
set_option maxRecDepth 8000 in
theorem u_Wp_round_85 (X : pv_X) (v0 : Nat) (v1 : Int32) (v2 : Int32) (v3 : Int32) (v4 : Int32) (v5 : Int32) (v6 : Int32) (v7 : Int32) (h : pv_H) : f_Wp_round_85 X v0 v1 v2 v3 v4 v5 v6 v7 h =
    f_Wp_round_55 X v0 v1 v2 v3 v4 v5 (v6 + 1) (some (.int v7)) h := by
  show pS X 6 (some .int) k_Wp_round 85 [some (.ref v0), some (.int v1), some (.int v2), some (.int v3), some (.int v4), some (.int v5), some (.int v6), some (.int v7)] [] h = _
  refine (ss_iinc3 rfl rfl (v := v6 + 1) (congrArg (HAdd.hAdd _) (show Int32.ofInt (1) = 1 by decide)) rfl).trans ?_
  refine (ss_goto rfl).trans ?_
  rfl
set_option maxRecDepth 8000 in
theorem u_Wp_round_129 (X : pv_X) (v0 : Nat) (v1 : Int32) (v2 : Int32) (v3 : Int32) (v4 : Int32) (v5 : Int32) (v6 : Int32) (o7 : Option Value) (h : pv_H) : f_Wp_round_129 X v0 v1 v2 v3 v4 v5 v6 o7 h =
    f_Wp_round_131 X v0 v1 v2 v3 v4 v5 v6 o7 (-2) h := by
  show pS X 6 (some .int) k_Wp_round 129 [some (.ref v0), some (.int v1), some (.int v2), some (.int v3), some (.int v4), some (.int v5), some (.int v6), o7] [] h = _
  refine (ss_bipush rfl (v := (-2)) rfl).trans ?_
  rfl
set_option maxRecDepth 8000 in
theorem u_Wp_round_131 (X : pv_X) (v0 : Nat) (v1 : Int32) (v2 : Int32) (v3 : Int32) (v4 : Int32) (v5 : Int32) (v6 : Int32) (o7 : Option Value) (s0 : Int32) (h : pv_H) : f_Wp_round_131 X v0 v1 v2 v3 v4 v5 v6 o7 s0 h =
    some (some (.int s0), h) := by
  show pS X 6 (some .int) k_Wp_round 131 [some (.ref v0), some (.int v1), some (.int v2), some (.int v3), some (.int v4), some (.int v5), some (.int v6), o7] [.int s0] h = _
  exact ss_ireturn rfl
theorem e_Wp_round (X : pv_X) (v0 : Nat) (v1 : Int32) (v2 : Int32) (h : pv_H) : pM X m_Wp_round [.ref v0, .int v1, .int v2] h = f_Wp_round_0 X v0 v1 v2 h := rfl
noncomputable def f_Wp_roundSum_0 (X : pv_X) (v0 : Nat) (v1 : Int32) (v2 : Int32) (h : pv_H) : Option pv_O := pS X 5 (some .int) k_Wp_roundSum 0 [some (.ref v0), some (.int v1), some (.int v2), none, none, none] [] h
noncomputable def f_Wp_roundSum_21 (X : pv_X) (v0 : Nat) (v1 : Int32) (v2 : Int32) (v3 : Int32) (v4 : Int32) (h : pv_H) : Option pv_O := pS X 5 (some .int) k_Wp_roundSum 21 [some (.ref v0), some (.int v1), some (.int v2), some (.int v3), some (.int v4), none] [] h
noncomputable def f_Wp_roundSum_70 (X : pv_X) (v0 : Nat) (v1 : Int32) (v2 : Int32) (v3 : Int32) (v4 : Int32) (h : pv_H) : Option pv_O := pS X 5 (some .int) k_Wp_roundSum 70 [some (.ref v0), some (.int v1), some (.int v2), some (.int v3), some (.int v4), none] [] h
noncomputable def f_Wp_roundSum_76 (X : pv_X) (v0 : Nat) (v1 : Int32) (v2 : Int32) (v3 : Int32) (v4 : Int32) (v5 : Int32) (h : pv_H) : Option pv_O := pS X 5 (some .int) k_Wp_roundSum 76 [some (.ref v0), some (.int v1), some (.int v2), some (.int v3), some (.int v4), some (.int v5)] [] h
set_option maxRecDepth 8000 in
theorem u_Wp_roundSum_0 (X : pv_X) (v0 : Nat) (v1 : Int32) (v2 : Int32) (h : pv_H) : f_Wp_roundSum_0 X v0 v1 v2 h =
    if pv_rc h v0 10 = true then (pv_tI (pM X m_Wp_layRow [.ref v0, .int v1, .int v2] h)).bind (fun q1 => (pv_fR q1.2 v0 10 6).bind (fun x2 => (pv_fR q1.2 v0 10 5).bind (fun x3 => if pv_rc q1.2 x2 7 = true then (pv_tV (pM X m_St_copy [.ref x2, .ref x3] q1.2)).bind (fun h4 => f_Wp_roundSum_21 X v0 v1 v2 q1.1 0 h4) else none))) else none := by
  show pS X 5 (some .int) k_Wp_roundSum 0 [some (.ref v0), some (.int v1), some (.int v2), none, none, none] [] h = _
  refine (ss_aload_n rfl rfl).trans ?_
  refine (ss_iload_n rfl rfl).trans ?_
  refine (ss_iload_n rfl rfl).trans ?_
  refine (ss_callVI (as := [.int v1, .int v2]) rfl t_Wp_layRow (by decide) rfl rfl (by decide) (Or.inl rfl) ⟨Nat.le_of_ble_eq_true rfl, Nat.le_of_ble_eq_true rfl⟩).trans ?_
  refine pv_ite ?_ rfl
  refine congrArg (Option.bind _) (funext fun q1 => ?_)
  refine (ss_istore_n rfl rfl).trans ?_
  refine (ss_aload_n rfl rfl).trans ?_
  refine (ss_getR rfl).trans ?_
  refine congrArg (Option.bind _) (funext fun x2 => ?_)
  refine (ss_aload_n rfl rfl).trans ?_
  refine (ss_getR rfl).trans ?_
  refine congrArg (Option.bind _) (funext fun x3 => ?_)
  refine (ss_callVN (as := [.ref x3]) rfl t_St_copy (by decide) rfl rfl (by decide) rfl ⟨Nat.le_of_ble_eq_true rfl, Nat.le_of_ble_eq_true rfl⟩).trans ?_
  refine pv_ite ?_ rfl
  refine congrArg (Option.bind _) (funext fun h4 => ?_)
  refine (ss_iconst rfl (v := 0) rfl).trans ?_
  refine (ss_istore rfl rfl).trans ?_
  rfl
set_option maxRecDepth 8000 in
theorem u_Wp_roundSum_21 (X : pv_X) (v0 : Nat) (v1 : Int32) (v2 : Int32) (v3 : Int32) (v4 : Int32) (h : pv_H) : f_Wp_roundSum_21 X v0 v1 v2 v3 v4 h =
    if v3 ≤ v4 then f_Wp_roundSum_70 X v0 v1 v2 v3 v4 h else (pv_fR h v0 10 13).bind (fun x1 => (pv_len X h x1).bind (fun x2 => if x2 ≤ v4 then f_Wp_roundSum_70 X v0 v1 v2 v3 v4 h else (pv_fR h v0 10 6).bind (fun x3 => (pv_fR h v0 10 13).bind (fun x4 => (pv_aX X h x4 v4).bind (fun x5 => if pv_rc h x3 7 = true then (pv_tV (pM X m_St_takeTime [.ref x3, .int x5, .int v1] h)).bind (fun h6 => (pv_fR h6 v0 10 1).bind (fun x7 => (pv_fR h6 v0 10 6).bind (fun x8 => if pv_rc h6 x7 6 = true then (pv_tI (pM X m_Po_passQuarter [.ref x7, .ref x8] h6)).bind (fun q9 => f_Wp_roundSum_21 X v0 v1 v2 v3 (v4 + 1) q9.2) else none))) else none))))) := by
  show pS X 5 (some .int) k_Wp_roundSum 21 [some (.ref v0), some (.int v1), some (.int v2), some (.int v3), some (.int v4), none] [] h = _
  refine (ss_iload rfl rfl).trans ?_
  refine (ss_iload_n rfl rfl).trans ?_
  refine (ss_icmp_ge rfl).trans ?_
  refine pv_ite ?_ ?_
  · rfl
  · refine (ss_iload rfl rfl).trans ?_
    refine (ss_aload_n rfl rfl).trans ?_
    refine (ss_getR rfl).trans ?_
    refine congrArg (Option.bind _) (funext fun x1 => ?_)
    refine (ss_arraylength rfl).trans ?_
    refine congrArg (Option.bind _) (funext fun x2 => ?_)
    refine (ss_icmp_ge rfl).trans ?_
    refine pv_ite ?_ ?_
    · rfl
    · refine (ss_aload_n rfl rfl).trans ?_
      refine (ss_getR rfl).trans ?_
      refine congrArg (Option.bind _) (funext fun x3 => ?_)
      refine (ss_aload_n rfl rfl).trans ?_
      refine (ss_getR rfl).trans ?_
      refine congrArg (Option.bind _) (funext fun x4 => ?_)
      refine (ss_iload rfl rfl).trans ?_
      refine (ss_iaload rfl).trans ?_
      refine congrArg (Option.bind _) (funext fun x5 => ?_)
      refine (ss_iload_n rfl rfl).trans ?_
      refine (ss_callVN (as := [.int x5, .int v1]) rfl t_St_takeTime (by decide) rfl rfl (by decide) rfl ⟨Nat.le_of_ble_eq_true rfl, Nat.le_of_ble_eq_true rfl⟩).trans ?_
      refine pv_ite ?_ rfl
      refine congrArg (Option.bind _) (funext fun h6 => ?_)
      refine (ss_aload_n rfl rfl).trans ?_
      refine (ss_getR rfl).trans ?_
      refine congrArg (Option.bind _) (funext fun x7 => ?_)
      refine (ss_aload_n rfl rfl).trans ?_
      refine (ss_getR rfl).trans ?_
      refine congrArg (Option.bind _) (funext fun x8 => ?_)
      refine (ss_callVI (as := [.ref x8]) rfl t_Po_passQuarter (by decide) rfl rfl (by decide) (Or.inl rfl) ⟨Nat.le_of_ble_eq_true rfl, Nat.le_of_ble_eq_true rfl⟩).trans ?_
      refine pv_ite ?_ rfl
      refine congrArg (Option.bind _) (funext fun q9 => ?_)
      refine (ss_popI rfl).trans ?_
      refine (ss_iinc3 rfl rfl (v := v4 + 1) (congrArg (HAdd.hAdd _) (show Int32.ofInt (1) = 1 by decide)) rfl).trans ?_
      refine (ss_goto rfl).trans ?_
      rfl
set_option maxRecDepth 8000 in
theorem u_Wp_roundSum_70 (X : pv_X) (v0 : Nat) (v1 : Int32) (v2 : Int32) (v3 : Int32) (v4 : Int32) (h : pv_H) : f_Wp_roundSum_70 X v0 v1 v2 v3 v4 h =
    f_Wp_roundSum_76 X v0 v1 v2 v3 0 0 h := by
  show pS X 5 (some .int) k_Wp_roundSum 70 [some (.ref v0), some (.int v1), some (.int v2), some (.int v3), some (.int v4), none] [] h = _
  refine (ss_iconst rfl (v := 0) rfl).trans ?_
  refine (ss_istore rfl rfl).trans ?_
  refine (ss_iconst rfl (v := 0) rfl).trans ?_
  refine (ss_istore rfl rfl).trans ?_
  rfl
set_option maxRecDepth 8000 in
theorem u_Wp_roundSum_76 (X : pv_X) (v0 : Nat) (v1 : Int32) (v2 : Int32) (v3 : Int32) (v4 : Int32) (v5 : Int32) (h : pv_H) : f_Wp_roundSum_76 X v0 v1 v2 v3 v4 v5 h =
    (pv_fR h v0 10 1).bind (fun x1 => (pv_fI h x1 6 6).bind (fun x2 => if x2 ≤ v5 then some (some (.int v4), h) else (pv_fR h v0 10 6).bind (fun x3 => (pv_tI (pM X m_Wp_farOf [.ref x3, .int v5] h)).bind (fun q4 => f_Wp_roundSum_76 X v0 v1 v2 v3 (v4 + q4.1) (v5 + 1) q4.2)))) := by
  show pS X 5 (some .int) k_Wp_roundSum 76 [some (.ref v0), some (.int v1), some (.int v2), some (.int v3), some (.int v4), some (.int v5)] [] h = _
  refine (ss_iload rfl rfl).trans ?_
  refine (ss_aload_n rfl rfl).trans ?_
  refine (ss_getR rfl).trans ?_
  refine congrArg (Option.bind _) (funext fun x1 => ?_)
  refine (ss_getI rfl).trans ?_
  refine congrArg (Option.bind _) (funext fun x2 => ?_)
  refine (ss_icmp_ge rfl).trans ?_
  refine pv_ite ?_ ?_
  · refine (ss_iload rfl rfl).trans ?_
    exact ss_ireturn rfl
  · refine (ss_iload rfl rfl).trans ?_
    refine (ss_aload_n rfl rfl).trans ?_
    refine (ss_getR rfl).trans ?_
    refine congrArg (Option.bind _) (funext fun x3 => ?_)
    refine (ss_iload rfl rfl).trans ?_
    refine (ss_callSI (as := [.ref x3, .int v5]) rfl t_Wp_farOf (by decide) rfl rfl (by simp [Value.category]) (Or.inl rfl) ⟨Nat.le_of_ble_eq_true rfl, Nat.le_of_ble_eq_true rfl⟩).trans ?_
    refine congrArg (Option.bind _) (funext fun q4 => ?_)
    refine (ss_iadd rfl).trans ?_
    refine (ss_istore rfl rfl).trans ?_
    refine (ss_iinc3 rfl rfl (v := v5 + 1) (congrArg (HAdd.hAdd _) (show Int32.ofInt (1) = 1 by decide)) rfl).trans ?_
    refine (ss_goto rfl).trans ?_
    rfl
theorem e_Wp_roundSum (X : pv_X) (v0 : Nat) (v1 : Int32) (v2 : Int32) (h : pv_H) : pM X m_Wp_roundSum [.ref v0, .int v1, .int v2] h = f_Wp_roundSum_0 X v0 v1 v2 h := rfl
noncomputable def f_Wp_layRow_0 (X : pv_X) (v0 : Nat) (v1 : Int32) (v2 : Int32) (h : pv_H) : Option pv_O := pS X 2 (some .int) k_Wp_layRow 0 [some (.ref v0), some (.int v1), some (.int v2), none, none, none, none] [] h
noncomputable def f_Wp_layRow_5 (X : pv_X) (v0 : Nat) (v1 : Int32) (v2 : Int32) (v3 : Int32) (v4 : Int32) (h : pv_H) : Option pv_O := pS X 2 (some .int) k_Wp_layRow 5 [some (.ref v0), some (.int v1), some (.int v2), some (.int v3), some (.int v4), none, none] [] h
noncomputable def f_Wp_layRow_43 (X : pv_X) (v0 : Nat) (v1 : Int32) (v2 : Int32) (v3 : Int32) (v4 : Int32) (h : pv_H) : Option pv_O := pS X 2 (some .int) k_Wp_layRow 43 [some (.ref v0), some (.int v1), some (.int v2), some (.int v3), some (.int v4), none, none] [] h
noncomputable def f_Wp_layRow_49 (X : pv_X) (v0 : Nat) (v1 : Int32) (v2 : Int32) (v3 : Int32) (v4 : Int32) (h : pv_H) : Option pv_O := pS X 2 (some .int) k_Wp_layRow 49 [some (.ref v0), some (.int v1), some (.int v2), some (.int v3), some (.int v4), none, none] [] h
noncomputable def f_Wp_layRow_55 (X : pv_X) (v0 : Nat) (v1 : Int32) (v2 : Int32) (v3 : Int32) (v4 : Int32) (v5 : Int32) (o6 : Option Value) (h : pv_H) : Option pv_O := pS X 2 (some .int) k_Wp_layRow 55 [some (.ref v0), some (.int v1), some (.int v2), some (.int v3), some (.int v4), some (.int v5), o6] [] h
set_option maxRecDepth 8000 in
theorem u_Wp_layRow_0 (X : pv_X) (v0 : Nat) (v1 : Int32) (v2 : Int32) (h : pv_H) : f_Wp_layRow_0 X v0 v1 v2 h =
    f_Wp_layRow_5 X v0 v1 v2 0 0 h := by
  show pS X 2 (some .int) k_Wp_layRow 0 [some (.ref v0), some (.int v1), some (.int v2), none, none, none, none] [] h = _
  refine (ss_iconst rfl (v := 0) rfl).trans ?_
  refine (ss_istore_n rfl rfl).trans ?_
  refine (ss_iconst rfl (v := 0) rfl).trans ?_
  refine (ss_istore rfl rfl).trans ?_
  rfl
set_option maxRecDepth 8000 in
theorem u_Wp_layRow_5 (X : pv_X) (v0 : Nat) (v1 : Int32) (v2 : Int32) (v3 : Int32) (v4 : Int32) (h : pv_H) : f_Wp_layRow_5 X v0 v1 v2 v3 v4 h =
    (pv_fR h v0 10 1).bind (fun x1 => (pv_fI h x1 6 6).bind (fun x2 => if x2 ≤ v4 then f_Wp_layRow_49 X v0 v1 v2 v3 v4 h else (pv_fR h v0 10 13).bind (fun x3 => (pv_len X h x3).bind (fun x4 => if x4 ≤ v3 then f_Wp_layRow_49 X v0 v1 v2 v3 v4 h else if v4 = v1 then f_Wp_layRow_43 X v0 v1 v2 v3 v4 h else (pv_fR h v0 10 13).bind (fun x5 => (pv_sI h x5 v3 v4).bind (fun h6 => f_Wp_layRow_43 X v0 v1 v2 (v3 + 1) v4 h6)))))) := by
  show pS X 2 (some .int) k_Wp_layRow 5 [some (.ref v0), some (.int v1), some (.int v2), some (.int v3), some (.int v4), none, none] [] h = _
  refine (ss_iload rfl rfl).trans ?_
  refine (ss_aload_n rfl rfl).trans ?_
  refine (ss_getR rfl).trans ?_
  refine congrArg (Option.bind _) (funext fun x1 => ?_)
  refine (ss_getI rfl).trans ?_
  refine congrArg (Option.bind _) (funext fun x2 => ?_)
  refine (ss_icmp_ge rfl).trans ?_
  refine pv_ite ?_ ?_
  · rfl
  · refine (ss_iload_n rfl rfl).trans ?_
    refine (ss_aload_n rfl rfl).trans ?_
    refine (ss_getR rfl).trans ?_
    refine congrArg (Option.bind _) (funext fun x3 => ?_)
    refine (ss_arraylength rfl).trans ?_
    refine congrArg (Option.bind _) (funext fun x4 => ?_)
    refine (ss_icmp_ge rfl).trans ?_
    refine pv_ite ?_ ?_
    · rfl
    · refine (ss_iload rfl rfl).trans ?_
      refine (ss_iload_n rfl rfl).trans ?_
      refine (ss_icmp_eq rfl).trans ?_
      refine pv_ite ?_ ?_
      · rfl
      · refine (ss_aload_n rfl rfl).trans ?_
        refine (ss_getR rfl).trans ?_
        refine congrArg (Option.bind _) (funext fun x5 => ?_)
        refine (ss_iload_n rfl rfl).trans ?_
        refine (ss_iload rfl rfl).trans ?_
        refine (ss_iastore rfl).trans ?_
        refine congrArg (Option.bind _) (funext fun h6 => ?_)
        refine (ss_iinc3 rfl rfl (v := v3 + 1) (congrArg (HAdd.hAdd _) (show Int32.ofInt (1) = 1 by decide)) rfl).trans ?_
        rfl
set_option maxRecDepth 8000 in
theorem u_Wp_layRow_43 (X : pv_X) (v0 : Nat) (v1 : Int32) (v2 : Int32) (v3 : Int32) (v4 : Int32) (h : pv_H) : f_Wp_layRow_43 X v0 v1 v2 v3 v4 h =
    f_Wp_layRow_5 X v0 v1 v2 v3 (v4 + 1) h := by
  show pS X 2 (some .int) k_Wp_layRow 43 [some (.ref v0), some (.int v1), some (.int v2), some (.int v3), some (.int v4), none, none] [] h = _
  refine (ss_iinc3 rfl rfl (v := v4 + 1) (congrArg (HAdd.hAdd _) (show Int32.ofInt (1) = 1 by decide)) rfl).trans ?_
  refine (ss_goto rfl).trans ?_
  rfl
set_option maxRecDepth 8000 in
theorem u_Wp_layRow_49 (X : pv_X) (v0 : Nat) (v1 : Int32) (v2 : Int32) (v3 : Int32) (v4 : Int32) (h : pv_H) : f_Wp_layRow_49 X v0 v1 v2 v3 v4 h =
    f_Wp_layRow_55 X v0 v1 v2 v3 v2 0 none h := by
  show pS X 2 (some .int) k_Wp_layRow 49 [some (.ref v0), some (.int v1), some (.int v2), some (.int v3), some (.int v4), none, none] [] h = _
  refine (ss_iload_n rfl rfl).trans ?_
  refine (ss_istore rfl rfl).trans ?_
  refine (ss_iconst rfl (v := 0) rfl).trans ?_
  refine (ss_istore rfl rfl).trans ?_
  rfl
set_option maxRecDepth 8000 in
theorem u_Wp_layRow_55 (X : pv_X) (v0 : Nat) (v1 : Int32) (v2 : Int32) (v3 : Int32) (v4 : Int32) (v5 : Int32) (o6 : Option Value) (h : pv_H) : f_Wp_layRow_55 X v0 v1 v2 v3 v4 v5 o6 h =
    if v3 ≤ v5 then some (some (.int v3), h) else (pv_tI (pM X m_Wp_rowsOf [.int ((v3 - v5) - 1)] h)).bind (fun q1 => if q1.1 = 0 then none else if pv_rc q1.2 v0 10 = true then (pv_tV (pM X m_Wp_pullForward [.ref v0, .int v5, .int (v5 + (v4 / q1.1))] q1.2)).bind (fun h2 => if q1.1 = 0 then none else f_Wp_layRow_55 X v0 v1 v2 v3 (v4 - v4 / q1.1 * q1.1) (v5 + 1) (some (.int q1.1)) h2) else none) := by
  show pS X 2 (some .int) k_Wp_layRow 55 [some (.ref v0), some (.int v1), some (.int v2), some (.int v3), some (.int v4), some (.int v5), o6] [] h = _
  refine (ss_iload rfl rfl).trans ?_
  refine (ss_iload_n rfl rfl).trans ?_
  refine (ss_icmp_ge rfl).trans ?_
  refine pv_ite ?_ ?_
  · refine (ss_iload_n rfl rfl).trans ?_
    exact ss_ireturn rfl
  · refine (ss_iload_n rfl rfl).trans ?_
    refine (ss_iload rfl rfl).trans ?_
    refine (ss_isub rfl).trans ?_
    refine (ss_iconst rfl (v := 1) rfl).trans ?_
    refine (ss_isub rfl).trans ?_
    refine (ss_callSI (as := [.int ((v3 - v5) - 1)]) rfl t_Wp_rowsOf (by decide) rfl rfl (by decide) (Or.inl rfl) ⟨Nat.le_of_ble_eq_true rfl, Nat.le_of_ble_eq_true rfl⟩).trans ?_
    refine congrArg (Option.bind _) (funext fun q1 => ?_)
    refine (ss_istore rfl rfl).trans ?_
    refine (ss_aload_n rfl rfl).trans ?_
    refine (ss_iload rfl rfl).trans ?_
    refine (ss_iload rfl rfl).trans ?_
    refine (ss_iload rfl rfl).trans ?_
    refine (ss_iload rfl rfl).trans ?_
    refine (ss_idivg rfl).trans ?_
    refine pv_ite rfl ?_
    refine (ss_iadd rfl).trans ?_
    refine (ss_callVN (as := [.int v5, .int (v5 + (v4 / q1.1))]) rfl t_Wp_pullForward (by decide) rfl rfl (by decide) rfl ⟨Nat.le_of_ble_eq_true rfl, Nat.le_of_ble_eq_true rfl⟩).trans ?_
    refine pv_ite ?_ rfl
    refine congrArg (Option.bind _) (funext fun h2 => ?_)
    refine (ss_iload rfl rfl).trans ?_
    refine (ss_iload rfl rfl).trans ?_
    refine (ss_iremg rfl).trans ?_
    refine pv_ite rfl ?_
    refine (ss_istore rfl rfl).trans ?_
    refine (ss_iinc3 rfl rfl (v := v5 + 1) (congrArg (HAdd.hAdd _) (show Int32.ofInt (1) = 1 by decide)) rfl).trans ?_
    refine (ss_goto rfl).trans ?_
    rfl
theorem e_Wp_layRow (X : pv_X) (v0 : Nat) (v1 : Int32) (v2 : Int32) (h : pv_H) : pM X m_Wp_layRow [.ref v0, .int v1, .int v2] h = f_Wp_layRow_0 X v0 v1 v2 h := rfl
noncomputable def f_Wp_rowsOf_0 (X : pv_X) (v0 : Int32) (h : pv_H) : Option pv_O := pS X 1 (some .int) k_Wp_rowsOf 0 [some (.int v0), none, none] [] h
noncomputable def f_Wp_rowsOf_4 (X : pv_X) (v0 : Int32) (v1 : Int32) (v2 : Int32) (h : pv_H) : Option pv_O := pS X 1 (some .int) k_Wp_rowsOf 4 [some (.int v0), some (.int v1), some (.int v2)] [] h
set_option maxRecDepth 8000 in
theorem u_Wp_rowsOf_0 (X : pv_X) (v0 : Int32) (h : pv_H) : f_Wp_rowsOf_0 X v0 h =
    f_Wp_rowsOf_4 X v0 1 2 h := by
  show pS X 1 (some .int) k_Wp_rowsOf 0 [some (.int v0), none, none] [] h = _
  refine (ss_iconst rfl (v := 1) rfl).trans ?_
  refine (ss_istore_n rfl rfl).trans ?_
  refine (ss_iconst rfl (v := 2) rfl).trans ?_
  refine (ss_istore_n rfl rfl).trans ?_
  rfl
set_option maxRecDepth 8000 in
theorem u_Wp_rowsOf_4 (X : pv_X) (v0 : Int32) (v1 : Int32) (v2 : Int32) (h : pv_H) : f_Wp_rowsOf_4 X v0 v1 v2 h =
    if v0 < v2 then some (some (.int v1), h) else f_Wp_rowsOf_4 X v0 (v1 * v2) (v2 + 1) h := by
  show pS X 1 (some .int) k_Wp_rowsOf 4 [some (.int v0), some (.int v1), some (.int v2)] [] h = _
  refine (ss_iload_n rfl rfl).trans ?_
  refine (ss_iload_n rfl rfl).trans ?_
  refine (ss_icmp_gt rfl).trans ?_
  refine pv_ite ?_ ?_
  · refine (ss_iload_n rfl rfl).trans ?_
    exact ss_ireturn rfl
  · refine (ss_iload_n rfl rfl).trans ?_
    refine (ss_iload_n rfl rfl).trans ?_
    refine (ss_imul rfl).trans ?_
    refine (ss_istore_n rfl rfl).trans ?_
    refine (ss_iinc3 rfl rfl (v := v2 + 1) (congrArg (HAdd.hAdd _) (show Int32.ofInt (1) = 1 by decide)) rfl).trans ?_
    refine (ss_goto rfl).trans ?_
    rfl
theorem e_Wp_rowsOf (X : pv_X) (v0 : Int32) (h : pv_H) : pM X m_Wp_rowsOf [.int v0] h = f_Wp_rowsOf_0 X v0 h := rfl
noncomputable def f_Wp_pullForward_0 (X : pv_X) (v0 : Nat) (v1 : Int32) (v2 : Int32) (h : pv_H) : Option pv_O := pS X 1 (none) k_Wp_pullForward 0 [some (.ref v0), some (.int v1), some (.int v2), none, none] [] h
noncomputable def f_Wp_pullForward_18 (X : pv_X) (v0 : Nat) (v1 : Int32) (v2 : Int32) (h : pv_H) : Option pv_O := pS X 1 (none) k_Wp_pullForward 18 [some (.ref v0), some (.int v1), some (.int v2), none, none] [] h
noncomputable def f_Wp_pullForward_29 (X : pv_X) (v0 : Nat) (v1 : Int32) (v2 : Int32) (v3 : Int32) (v4 : Int32) (h : pv_H) : Option pv_O := pS X 1 (none) k_Wp_pullForward 29 [some (.ref v0), some (.int v1), some (.int v2), some (.int v3), some (.int v4)] [] h
set_option maxRecDepth 8000 in
theorem u_Wp_pullForward_0 (X : pv_X) (v0 : Nat) (v1 : Int32) (v2 : Int32) (h : pv_H) : f_Wp_pullForward_0 X v0 v1 v2 h =
    if v1 < 0 then f_Wp_pullForward_18 X v0 v1 v2 h else if v2 < v1 then f_Wp_pullForward_18 X v0 v1 v2 h else (pv_fR h v0 10 13).bind (fun x1 => (pv_len X h x1).bind (fun x2 => if v2 < x2 then (pv_fR h v0 10 13).bind (fun x3 => (pv_aX X h x3 v2).bind (fun x4 => f_Wp_pullForward_29 X v0 v1 v2 x4 v2 h)) else f_Wp_pullForward_18 X v0 v1 v2 h)) := by
  show pS X 1 (none) k_Wp_pullForward 0 [some (.ref v0), some (.int v1), some (.int v2), none, none] [] h = _
  refine (ss_iload_n rfl rfl).trans ?_
  refine (ss_if_lt rfl).trans ?_
  refine pv_ite ?_ ?_
  · rfl
  · refine (ss_iload_n rfl rfl).trans ?_
    refine (ss_iload_n rfl rfl).trans ?_
    refine (ss_icmp_lt rfl).trans ?_
    refine pv_ite ?_ ?_
    · rfl
    · refine (ss_iload_n rfl rfl).trans ?_
      refine (ss_aload_n rfl rfl).trans ?_
      refine (ss_getR rfl).trans ?_
      refine congrArg (Option.bind _) (funext fun x1 => ?_)
      refine (ss_arraylength rfl).trans ?_
      refine congrArg (Option.bind _) (funext fun x2 => ?_)
      refine (ss_icmp_lt rfl).trans ?_
      refine pv_ite ?_ ?_
      · refine (ss_aload_n rfl rfl).trans ?_
        refine (ss_getR rfl).trans ?_
        refine congrArg (Option.bind _) (funext fun x3 => ?_)
        refine (ss_iload_n rfl rfl).trans ?_
        refine (ss_iaload rfl).trans ?_
        refine congrArg (Option.bind _) (funext fun x4 => ?_)
        refine (ss_istore_n rfl rfl).trans ?_
        refine (ss_iload_n rfl rfl).trans ?_
        refine (ss_istore rfl rfl).trans ?_
        rfl
      · rfl
set_option maxRecDepth 8000 in
theorem u_Wp_pullForward_18 (X : pv_X) (v0 : Nat) (v1 : Int32) (v2 : Int32) (h : pv_H) : f_Wp_pullForward_18 X v0 v1 v2 h =
    some (none, h) := by
  show pS X 1 (none) k_Wp_pullForward 18 [some (.ref v0), some (.int v1), some (.int v2), none, none] [] h = _
  exact ss_return rfl
set_option maxRecDepth 8000 in
theorem u_Wp_pullForward_29 (X : pv_X) (v0 : Nat) (v1 : Int32) (v2 : Int32) (v3 : Int32) (v4 : Int32) (h : pv_H) : f_Wp_pullForward_29 X v0 v1 v2 v3 v4 h =
    if v4 ≤ v1 then (pv_fR h v0 10 13).bind (fun x1 => (pv_sI h x1 v1 v3).bind (fun h2 => some (none, h2))) else (pv_fR h v0 10 13).bind (fun x3 => (pv_fR h v0 10 13).bind (fun x4 => (pv_aX X h x4 (v4 - 1)).bind (fun x5 => (pv_sI h x3 v4 x5).bind (fun h6 => f_Wp_pullForward_29 X v0 v1 v2 v3 (v4 + (-1)) h6)))) := by
  show pS X 1 (none) k_Wp_pullForward 29 [some (.ref v0), some (.int v1), some (.int v2), some (.int v3), some (.int v4)] [] h = _
  refine (ss_iload rfl rfl).trans ?_
  refine (ss_iload_n rfl rfl).trans ?_
  refine (ss_icmp_le rfl).trans ?_
  refine pv_ite ?_ ?_
  · refine (ss_aload_n rfl rfl).trans ?_
    refine (ss_getR rfl).trans ?_
    refine congrArg (Option.bind _) (funext fun x1 => ?_)
    refine (ss_iload_n rfl rfl).trans ?_
    refine (ss_iload_n rfl rfl).trans ?_
    refine (ss_iastore rfl).trans ?_
    refine congrArg (Option.bind _) (funext fun h2 => ?_)
    exact ss_return rfl
  · refine (ss_aload_n rfl rfl).trans ?_
    refine (ss_getR rfl).trans ?_
    refine congrArg (Option.bind _) (funext fun x3 => ?_)
    refine (ss_iload rfl rfl).trans ?_
    refine (ss_aload_n rfl rfl).trans ?_
    refine (ss_getR rfl).trans ?_
    refine congrArg (Option.bind _) (funext fun x4 => ?_)
    refine (ss_iload rfl rfl).trans ?_
    refine (ss_iconst rfl (v := 1) rfl).trans ?_
    refine (ss_isub rfl).trans ?_
    refine (ss_iaload rfl).trans ?_
    refine congrArg (Option.bind _) (funext fun x5 => ?_)
    refine (ss_iastore rfl).trans ?_
    refine congrArg (Option.bind _) (funext fun h6 => ?_)
    refine (ss_iinc3 rfl rfl (v := v4 + (-1)) (congrArg (HAdd.hAdd _) (show Int32.ofInt (-1) = (-1) by decide)) rfl).trans ?_
    refine (ss_goto rfl).trans ?_
    rfl
theorem e_Wp_pullForward (X : pv_X) (v0 : Nat) (v1 : Int32) (v2 : Int32) (h : pv_H) : pM X m_Wp_pullForward [.ref v0, .int v1, .int v2] h = f_Wp_pullForward_0 X v0 v1 v2 h := rfl
noncomputable def f_Wp_askings_0 (X : pv_X) (v0 : Nat) (v1 : Int32) (h : pv_H) : Option pv_O := pS X 4 (some .int) k_Wp_askings 0 [some (.ref v0), some (.int v1), none, none, none, none] [] h
noncomputable def f_Wp_askings_29 (X : pv_X) (v0 : Nat) (v1 : Int32) (v2 : Int32) (v3 : Int32) (v4 : Int32) (o5 : Option Value) (h : pv_H) : Option pv_O := pS X 4 (some .int) k_Wp_askings 29 [some (.ref v0), some (.int v1), some (.int v2), some (.int v3), some (.int v4), o5] [] h
noncomputable def f_Wp_askings_52 (X : pv_X) (v0 : Nat) (v1 : Int32) (v2 : Int32) (v3 : Int32) (v4 : Int32) (o5 : Option Value) (s0 : Int32) (h : pv_H) : Option pv_O := pS X 4 (some .int) k_Wp_askings 52 [some (.ref v0), some (.int v1), some (.int v2), some (.int v3), some (.int v4), o5] [.int s0] h
noncomputable def f_Wp_askings_80 (X : pv_X) (v0 : Nat) (v1 : Int32) (v2 : Int32) (v3 : Int32) (v4 : Int32) (v5 : Int32) (h : pv_H) : Option pv_O := pS X 4 (some .int) k_Wp_askings 80 [some (.ref v0), some (.int v1), some (.int v2), some (.int v3), some (.int v4), some (.int v5)] [] h
set_option maxRecDepth 8000 in
theorem u_Wp_askings_0 (X : pv_X) (v0 : Nat) (v1 : Int32) (h : pv_H) : f_Wp_askings_0 X v0 v1 h =
    (pv_tI (pM X m_Wp_isWithin [.int v1, .int 0, .int 60] h)).bind (fun q1 => if ¬ q1.1 = 0 then (pv_fR q1.2 v0 10 1).bind (fun x2 => (pv_fI q1.2 x2 6 6).bind (fun x3 => f_Wp_askings_29 X v0 v1 (((1 : Int32) <<< (x3 &&& 31)) - 1) (((1 : Int32) <<< (x3 &&& 31)) - 1) 0 none q1.2)) else some (some (.int (-1)), q1.2)) := by
  show pS X 4 (some .int) k_Wp_askings 0 [some (.ref v0), some (.int v1), none, none, none, none] [] h = _
  refine (ss_iload_n rfl rfl).trans ?_
  refine (ss_iconst rfl (v := 0) rfl).trans ?_
  refine (ss_bipush rfl (v := 60) rfl).trans ?_
  refine (ss_callSI (as := [.int v1, .int 0, .int 60]) rfl t_Wp_isWithin (by decide) rfl rfl (by decide) (Or.inr rfl) ⟨Nat.le_of_ble_eq_true rfl, Nat.le_of_ble_eq_true rfl⟩).trans ?_
  refine congrArg (Option.bind _) (funext fun q1 => ?_)
  refine (ss_if_ne rfl).trans ?_
  refine pv_ite ?_ ?_
  · refine (ss_iconst rfl (v := 1) rfl).trans ?_
    refine (ss_aload_n rfl rfl).trans ?_
    refine (ss_getR rfl).trans ?_
    refine congrArg (Option.bind _) (funext fun x2 => ?_)
    refine (ss_getI rfl).trans ?_
    refine congrArg (Option.bind _) (funext fun x3 => ?_)
    refine (ss_ishl rfl).trans ?_
    refine (ss_iconst rfl (v := 1) rfl).trans ?_
    refine (ss_isub rfl).trans ?_
    refine (ss_istore_n rfl rfl).trans ?_
    refine (ss_iload_n rfl rfl).trans ?_
    refine (ss_istore_n rfl rfl).trans ?_
    refine (ss_iconst rfl (v := 0) rfl).trans ?_
    refine (ss_istore rfl rfl).trans ?_
    rfl
  · refine (ss_iconst rfl (v := (-1)) rfl).trans ?_
    exact ss_ireturn rfl
set_option maxRecDepth 8000 in
theorem u_Wp_askings_29 (X : pv_X) (v0 : Nat) (v1 : Int32) (v2 : Int32) (v3 : Int32) (v4 : Int32) (o5 : Option Value) (h : pv_H) : f_Wp_askings_29 X v0 v1 v2 v3 v4 o5 h =
    if v2 ≤ v4 then some (some (.int v3), h) else (pv_tI (pM X m_In_bitCount [.int v4] h)).bind (fun q1 => (pv_tI (pM X m_In_bitCount [.int v3] q1.2)).bind (fun q2 => if q2.1 ≤ q1.1 then f_Wp_askings_52 X v0 v1 v2 v3 v4 o5 0 q2.2 else f_Wp_askings_52 X v0 v1 v2 v3 v4 o5 1 q2.2)) := by
  show pS X 4 (some .int) k_Wp_askings 29 [some (.ref v0), some (.int v1), some (.int v2), some (.int v3), some (.int v4), o5] [] h = _
  refine (ss_iload rfl rfl).trans ?_
  refine (ss_iload_n rfl rfl).trans ?_
  refine (ss_icmp_ge rfl).trans ?_
  refine pv_ite ?_ ?_
  · refine (ss_iload_n rfl rfl).trans ?_
    exact ss_ireturn rfl
  · refine (ss_iload rfl rfl).trans ?_
    refine (ss_callSI (as := [.int v4]) rfl t_In_bitCount (by decide) rfl rfl (by decide) (Or.inl rfl) ⟨Nat.le_of_ble_eq_true rfl, Nat.le_of_ble_eq_true rfl⟩).trans ?_
    refine congrArg (Option.bind _) (funext fun q1 => ?_)
    refine (ss_iload_n rfl rfl).trans ?_
    refine (ss_callSI (as := [.int v3]) rfl t_In_bitCount (by decide) rfl rfl (by simp [Value.category]) (Or.inl rfl) ⟨Nat.le_of_ble_eq_true rfl, Nat.le_of_ble_eq_true rfl⟩).trans ?_
    refine congrArg (Option.bind _) (funext fun q2 => ?_)
    refine (ss_icmp_ge rfl).trans ?_
    refine pv_ite ?_ ?_
    · refine (ss_iconst rfl (v := 0) rfl).trans ?_
      rfl
    · refine (ss_iconst rfl (v := 1) rfl).trans ?_
      refine (ss_goto rfl).trans ?_
      rfl
set_option maxRecDepth 8000 in
theorem u_Wp_askings_52 (X : pv_X) (v0 : Nat) (v1 : Int32) (v2 : Int32) (v3 : Int32) (v4 : Int32) (o5 : Option Value) (s0 : Int32) (h : pv_H) : f_Wp_askings_52 X v0 v1 v2 v3 v4 o5 s0 h =
    if s0 = 0 then f_Wp_askings_80 X v0 v1 v2 v3 v4 s0 h else (pv_fR h v0 10 5).bind (fun x1 => if pv_rc h v0 10 = true then (pv_tI (pM X m_Wp_spreadOf [.ref v0, .ref x1, .int (v2 &&& (v4 ^^^ (-1)))] h)).bind (fun q2 => if v1 < q2.1 then f_Wp_askings_80 X v0 v1 v2 v3 v4 s0 q2.2 else f_Wp_askings_80 X v0 v1 v2 v4 v4 s0 q2.2) else none) := by
  show pS X 4 (some .int) k_Wp_askings 52 [some (.ref v0), some (.int v1), some (.int v2), some (.int v3), some (.int v4), o5] [.int s0] h = _
  refine (ss_istore rfl rfl).trans ?_
  refine (ss_iload rfl rfl).trans ?_
  refine (ss_if_eq rfl).trans ?_
  refine pv_ite ?_ ?_
  · rfl
  · refine (ss_aload_n rfl rfl).trans ?_
    refine (ss_aload_n rfl rfl).trans ?_
    refine (ss_getR rfl).trans ?_
    refine congrArg (Option.bind _) (funext fun x1 => ?_)
    refine (ss_iload_n rfl rfl).trans ?_
    refine (ss_iload rfl rfl).trans ?_
    refine (ss_iconst rfl (v := (-1)) rfl).trans ?_
    refine (ss_ixor rfl).trans ?_
    refine (ss_iand rfl).trans ?_
    refine (ss_callVI (as := [.ref x1, .int (v2 &&& (v4 ^^^ (-1)))]) rfl t_Wp_spreadOf (by decide) rfl rfl (by decide) (Or.inl rfl) ⟨Nat.le_of_ble_eq_true rfl, Nat.le_of_ble_eq_true rfl⟩).trans ?_
    refine pv_ite ?_ rfl
    refine congrArg (Option.bind _) (funext fun q2 => ?_)
    refine (ss_iload_n rfl rfl).trans ?_
    refine (ss_icmp_gt rfl).trans ?_
    refine pv_ite ?_ ?_
    · rfl
    · refine (ss_iload rfl rfl).trans ?_
      refine (ss_istore_n rfl rfl).trans ?_
      rfl
set_option maxRecDepth 8000 in
theorem u_Wp_askings_80 (X : pv_X) (v0 : Nat) (v1 : Int32) (v2 : Int32) (v3 : Int32) (v4 : Int32) (v5 : Int32) (h : pv_H) : f_Wp_askings_80 X v0 v1 v2 v3 v4 v5 h =
    f_Wp_askings_29 X v0 v1 v2 v3 (v4 + 1) (some (.int v5)) h := by
  show pS X 4 (some .int) k_Wp_askings 80 [some (.ref v0), some (.int v1), some (.int v2), some (.int v3), some (.int v4), some (.int v5)] [] h = _
  refine (ss_iinc3 rfl rfl (v := v4 + 1) (congrArg (HAdd.hAdd _) (show Int32.ofInt (1) = 1 by decide)) rfl).trans ?_
  refine (ss_goto rfl).trans ?_
  rfl
theorem e_Wp_askings (X : pv_X) (v0 : Nat) (v1 : Int32) (h : pv_H) : pM X m_Wp_askings [.ref v0, .int v1] h = f_Wp_askings_0 X v0 v1 h := rfl
noncomputable def f_Wp_train_0 (X : pv_X) (v0 : Nat) (v1 : Int32) (v2 : Int32) (h : pv_H) : Option pv_O := pS X 7 (some .int) k_Wp_train 0 [some (.ref v0), some (.int v1), some (.int v2)] [] h
noncomputable def f_Wp_train_18 (X : pv_X) (v0 : Nat) (v1 : Int32) (v2 : Int32) (h : pv_H) : Option pv_O := pS X 7 (some .int) k_Wp_train 18 [some (.ref v0), some (.int v1), some (.int v2)] [] h
set_option maxRecDepth 8000 in
theorem u_Wp_train_0 (X : pv_X) (v0 : Nat) (v1 : Int32) (v2 : Int32) (h : pv_H) : f_Wp_train_0 X v0 v1 v2 h =
    if pv_rc h v0 10 = true then (pv_tI (pM X m_Wp_isPerson [.ref v0, .int v1] h)).bind (fun q1 => if q1.1 = 0 then f_Wp_train_18 X v0 v1 v2 q1.2 else (pv_tI (pM X m_Wp_isWithin [.int v2, .int 1, .int 96] q1.2)).bind (fun q2 => if ¬ q2.1 = 0 then if pv_rc q2.2 v0 10 = true then (pv_tI (pM X m_Wp_outLater [.ref v0, .int v1, .int v2] q2.2)).bind (fun q3 => (pv_tI (pM X m_Ma_max [.int 0, .int (-q3.1)] q3.2)).bind (fun q4 => some (some (.int q4.1), q4.2))) else none else f_Wp_train_18 X v0 v1 v2 q2.2)) else none := by
  show pS X 7 (some .int) k_Wp_train 0 [some (.ref v0), some (.int v1), some (.int v2)] [] h = _
  refine (ss_aload_n rfl rfl).trans ?_
  refine (ss_iload_n rfl rfl).trans ?_
  refine (ss_callVI (as := [.int v1]) rfl t_Wp_isPerson (by decide) rfl rfl (by decide) (Or.inr rfl) ⟨Nat.le_of_ble_eq_true rfl, Nat.le_of_ble_eq_true rfl⟩).trans ?_
  refine pv_ite ?_ rfl
  refine congrArg (Option.bind _) (funext fun q1 => ?_)
  refine (ss_if_eq rfl).trans ?_
  refine pv_ite ?_ ?_
  · rfl
  · refine (ss_iload_n rfl rfl).trans ?_
    refine (ss_iconst rfl (v := 1) rfl).trans ?_
    refine (ss_bipush rfl (v := 96) rfl).trans ?_
    refine (ss_callSI (as := [.int v2, .int 1, .int 96]) rfl t_Wp_isWithin (by decide) rfl rfl (by decide) (Or.inr rfl) ⟨Nat.le_of_ble_eq_true rfl, Nat.le_of_ble_eq_true rfl⟩).trans ?_
    refine congrArg (Option.bind _) (funext fun q2 => ?_)
    refine (ss_if_ne rfl).trans ?_
    refine pv_ite ?_ ?_
    · refine (ss_iconst rfl (v := 0) rfl).trans ?_
      refine (ss_aload_n rfl rfl).trans ?_
      refine (ss_iload_n rfl rfl).trans ?_
      refine (ss_iload_n rfl rfl).trans ?_
      refine (ss_callVI (as := [.int v1, .int v2]) rfl t_Wp_outLater (by decide) rfl rfl (by simp [Value.category]) (Or.inl rfl) ⟨Nat.le_of_ble_eq_true rfl, Nat.le_of_ble_eq_true rfl⟩).trans ?_
      refine pv_ite ?_ rfl
      refine congrArg (Option.bind _) (funext fun q3 => ?_)
      refine (ss_ineg rfl).trans ?_
      refine (ss_callSI (as := [.int 0, .int (-q3.1)]) rfl t_Ma_max (by decide) rfl rfl (by decide) (Or.inl rfl) ⟨Nat.le_of_ble_eq_true rfl, Nat.le_of_ble_eq_true rfl⟩).trans ?_
      refine congrArg (Option.bind _) (funext fun q4 => ?_)
      exact ss_ireturn rfl
    · rfl
set_option maxRecDepth 8000 in
theorem u_Wp_train_18 (X : pv_X) (v0 : Nat) (v1 : Int32) (v2 : Int32) (h : pv_H) : f_Wp_train_18 X v0 v1 v2 h =
    some (some (.int (-1)), h) := by
  show pS X 7 (some .int) k_Wp_train 18 [some (.ref v0), some (.int v1), some (.int v2)] [] h = _
  refine (ss_iconst rfl (v := (-1)) rfl).trans ?_
  exact ss_ireturn rfl
theorem e_Wp_train (X : pv_X) (v0 : Nat) (v1 : Int32) (v2 : Int32) (h : pv_H) : pM X m_Wp_train [.ref v0, .int v1, .int v2] h = f_Wp_train_0 X v0 v1 v2 h := rfl
noncomputable def f_Wp_missed_0 (X : pv_X) (v0 : Nat) (v1 : Int32) (h : pv_H) : Option pv_O := pS X 6 (some .int) k_Wp_missed 0 [some (.ref v0), some (.int v1), none, none] [] h
noncomputable def f_Wp_missed_32 (X : pv_X) (v0 : Nat) (v1 : Int32) (v2 : Int32) (v3 : Int32) (h : pv_H) : Option pv_O := pS X 6 (some .int) k_Wp_missed 32 [some (.ref v0), some (.int v1), some (.int v2), some (.int v3)] [] h
noncomputable def f_Wp_missed_60 (X : pv_X) (v0 : Nat) (v1 : Int32) (v2 : Int32) (v3 : Int32) (h : pv_H) : Option pv_O := pS X 6 (some .int) k_Wp_missed 60 [some (.ref v0), some (.int v1), some (.int v2), some (.int v3)] [] h
set_option maxRecDepth 8000 in
theorem u_Wp_missed_0 (X : pv_X) (v0 : Nat) (v1 : Int32) (h : pv_H) : f_Wp_missed_0 X v0 v1 h =
    (pv_tI (pM X m_Wp_isWithin [.int v1, .int 1, .int 96] h)).bind (fun q1 => if ¬ q1.1 = 0 then (pv_fR q1.2 v0 10 6).bind (fun x2 => (pv_fR q1.2 v0 10 5).bind (fun x3 => if pv_rc q1.2 x2 7 = true then (pv_tV (pM X m_St_copy [.ref x2, .ref x3] q1.2)).bind (fun h4 => if pv_rc h4 v0 10 = true then (pv_tV (pM X m_Wp_passQuarters [.ref v0, .int v1] h4)).bind (fun h5 => f_Wp_missed_32 X v0 v1 0 0 h5) else none) else none)) else some (some (.int (-1)), q1.2)) := by
  show pS X 6 (some .int) k_Wp_missed 0 [some (.ref v0), some (.int v1), none, none] [] h = _
  refine (ss_iload_n rfl rfl).trans ?_
  refine (ss_iconst rfl (v := 1) rfl).trans ?_
  refine (ss_bipush rfl (v := 96) rfl).trans ?_
  refine (ss_callSI (as := [.int v1, .int 1, .int 96]) rfl t_Wp_isWithin (by decide) rfl rfl (by decide) (Or.inr rfl) ⟨Nat.le_of_ble_eq_true rfl, Nat.le_of_ble_eq_true rfl⟩).trans ?_
  refine congrArg (Option.bind _) (funext fun q1 => ?_)
  refine (ss_if_ne rfl).trans ?_
  refine pv_ite ?_ ?_
  · refine (ss_aload_n rfl rfl).trans ?_
    refine (ss_getR rfl).trans ?_
    refine congrArg (Option.bind _) (funext fun x2 => ?_)
    refine (ss_aload_n rfl rfl).trans ?_
    refine (ss_getR rfl).trans ?_
    refine congrArg (Option.bind _) (funext fun x3 => ?_)
    refine (ss_callVN (as := [.ref x3]) rfl t_St_copy (by decide) rfl rfl (by decide) rfl ⟨Nat.le_of_ble_eq_true rfl, Nat.le_of_ble_eq_true rfl⟩).trans ?_
    refine pv_ite ?_ rfl
    refine congrArg (Option.bind _) (funext fun h4 => ?_)
    refine (ss_aload_n rfl rfl).trans ?_
    refine (ss_iload_n rfl rfl).trans ?_
    refine (ss_callVN (as := [.int v1]) rfl t_Wp_passQuarters (by decide) rfl rfl (by decide) rfl ⟨Nat.le_of_ble_eq_true rfl, Nat.le_of_ble_eq_true rfl⟩).trans ?_
    refine pv_ite ?_ rfl
    refine congrArg (Option.bind _) (funext fun h5 => ?_)
    refine (ss_iconst rfl (v := 0) rfl).trans ?_
    refine (ss_istore_n rfl rfl).trans ?_
    refine (ss_iconst rfl (v := 0) rfl).trans ?_
    refine (ss_istore_n rfl rfl).trans ?_
    rfl
  · refine (ss_iconst rfl (v := (-1)) rfl).trans ?_
    exact ss_ireturn rfl
set_option maxRecDepth 8000 in
theorem u_Wp_missed_32 (X : pv_X) (v0 : Nat) (v1 : Int32) (v2 : Int32) (v3 : Int32) (h : pv_H) : f_Wp_missed_32 X v0 v1 v2 v3 h =
    (pv_fR h v0 10 1).bind (fun x1 => (pv_fI h x1 6 6).bind (fun x2 => if x2 ≤ v3 then some (some (.int v2), h) else (pv_fR h v0 10 6).bind (fun x3 => if pv_rc h x3 7 = true then (pv_tI (pM X m_St_outOf [.ref x3, .int v3] h)).bind (fun q4 => if 0 ≤ q4.1 then f_Wp_missed_60 X v0 v1 v2 v3 q4.2 else f_Wp_missed_60 X v0 v1 (v2 ||| ((1 : Int32) <<< (v3 &&& 31))) v3 q4.2) else none))) := by
  show pS X 6 (some .int) k_Wp_missed 32 [some (.ref v0), some (.int v1), some (.int v2), some (.int v3)] [] h = _
  refine (ss_iload_n rfl rfl).trans ?_
  refine (ss_aload_n rfl rfl).trans ?_
  refine (ss_getR rfl).trans ?_
  refine congrArg (Option.bind _) (funext fun x1 => ?_)
  refine (ss_getI rfl).trans ?_
  refine congrArg (Option.bind _) (funext fun x2 => ?_)
  refine (ss_icmp_ge rfl).trans ?_
  refine pv_ite ?_ ?_
  · refine (ss_iload_n rfl rfl).trans ?_
    exact ss_ireturn rfl
  · refine (ss_aload_n rfl rfl).trans ?_
    refine (ss_getR rfl).trans ?_
    refine congrArg (Option.bind _) (funext fun x3 => ?_)
    refine (ss_iload_n rfl rfl).trans ?_
    refine (ss_callVI (as := [.int v3]) rfl t_St_outOf (by decide) rfl rfl (by decide) (Or.inl rfl) ⟨Nat.le_of_ble_eq_true rfl, Nat.le_of_ble_eq_true rfl⟩).trans ?_
    refine pv_ite ?_ rfl
    refine congrArg (Option.bind _) (funext fun q4 => ?_)
    refine (ss_if_ge rfl).trans ?_
    refine pv_ite ?_ ?_
    · rfl
    · refine (ss_iload_n rfl rfl).trans ?_
      refine (ss_iconst rfl (v := 1) rfl).trans ?_
      refine (ss_iload_n rfl rfl).trans ?_
      refine (ss_ishl rfl).trans ?_
      refine (ss_ior rfl).trans ?_
      refine (ss_istore_n rfl rfl).trans ?_
      rfl
set_option maxRecDepth 8000 in
theorem u_Wp_missed_60 (X : pv_X) (v0 : Nat) (v1 : Int32) (v2 : Int32) (v3 : Int32) (h : pv_H) : f_Wp_missed_60 X v0 v1 v2 v3 h =
    f_Wp_missed_32 X v0 v1 v2 (v3 + 1) h := by
  show pS X 6 (some .int) k_Wp_missed 60 [some (.ref v0), some (.int v1), some (.int v2), some (.int v3)] [] h = _
  refine (ss_iinc3 rfl rfl (v := v3 + 1) (congrArg (HAdd.hAdd _) (show Int32.ofInt (1) = 1 by decide)) rfl).trans ?_
  refine (ss_goto rfl).trans ?_
  rfl
theorem e_Wp_missed (X : pv_X) (v0 : Nat) (v1 : Int32) (h : pv_H) : pM X m_Wp_missed [.ref v0, .int v1] h = f_Wp_missed_0 X v0 v1 h := rfl
noncomputable def f_Wp_see_0 (X : pv_X) (v0 : Nat) (v1 : Int32) (v2 : Int32) (v3 : Int32) (h : pv_H) : Option pv_O := pS X 3 (some .boolean) k_Wp_see 0 [some (.ref v0), some (.int v1), some (.int v2), some (.int v3)] [] h
noncomputable def f_Wp_see_25 (X : pv_X) (v0 : Nat) (v1 : Int32) (v2 : Int32) (v3 : Int32) (h : pv_H) : Option pv_O := pS X 3 (some .boolean) k_Wp_see 25 [some (.ref v0), some (.int v1), some (.int v2), some (.int v3)] [] h
set_option maxRecDepth 8000 in
theorem u_Wp_see_0 (X : pv_X) (v0 : Nat) (v1 : Int32) (v2 : Int32) (v3 : Int32) (h : pv_H) : f_Wp_see_0 X v0 v1 v2 v3 h =
    if pv_rc h v0 10 = true then (pv_tI (pM X m_Wp_isPerson [.ref v0, .int v1] h)).bind (fun q1 => if q1.1 = 0 then f_Wp_see_25 X v0 v1 v2 v3 q1.2 else (pv_tI (pM X m_Wp_isWithin [.int v2, .int 0, .int 24] q1.2)).bind (fun q2 => if q2.1 = 0 then f_Wp_see_25 X v0 v1 v2 v3 q2.2 else (pv_tI (pM X m_Wp_isOut [.int v3] q2.2)).bind (fun q3 => if ¬ q3.1 = 0 then (pv_fR q3.2 v0 10 8).bind (fun x4 => if pv_rc q3.2 x4 0 = true then (pv_tI (pM X m_Cl_add [.ref x4, .int v1, .int v2, .int v3] q3.2)).bind (fun q5 => if q5.1 = 0 ∨ q5.1 = 1 then some (some (.int q5.1), q5.2) else none) else none) else f_Wp_see_25 X v0 v1 v2 v3 q3.2))) else none := by
  show pS X 3 (some .boolean) k_Wp_see 0 [some (.ref v0), some (.int v1), some (.int v2), some (.int v3)] [] h = _
  refine (ss_aload_n rfl rfl).trans ?_
  refine (ss_iload_n rfl rfl).trans ?_
  refine (ss_callVI (as := [.int v1]) rfl t_Wp_isPerson (by decide) rfl rfl (by decide) (Or.inr rfl) ⟨Nat.le_of_ble_eq_true rfl, Nat.le_of_ble_eq_true rfl⟩).trans ?_
  refine pv_ite ?_ rfl
  refine congrArg (Option.bind _) (funext fun q1 => ?_)
  refine (ss_if_eq rfl).trans ?_
  refine pv_ite ?_ ?_
  · rfl
  · refine (ss_iload_n rfl rfl).trans ?_
    refine (ss_iconst rfl (v := 0) rfl).trans ?_
    refine (ss_bipush rfl (v := 24) rfl).trans ?_
    refine (ss_callSI (as := [.int v2, .int 0, .int 24]) rfl t_Wp_isWithin (by decide) rfl rfl (by decide) (Or.inr rfl) ⟨Nat.le_of_ble_eq_true rfl, Nat.le_of_ble_eq_true rfl⟩).trans ?_
    refine congrArg (Option.bind _) (funext fun q2 => ?_)
    refine (ss_if_eq rfl).trans ?_
    refine pv_ite ?_ ?_
    · rfl
    · refine (ss_iload_n rfl rfl).trans ?_
      refine (ss_callSI (as := [.int v3]) rfl t_Wp_isOut (by decide) rfl rfl (by decide) (Or.inr rfl) ⟨Nat.le_of_ble_eq_true rfl, Nat.le_of_ble_eq_true rfl⟩).trans ?_
      refine congrArg (Option.bind _) (funext fun q3 => ?_)
      refine (ss_if_ne rfl).trans ?_
      refine pv_ite ?_ ?_
      · refine (ss_aload_n rfl rfl).trans ?_
        refine (ss_getR rfl).trans ?_
        refine congrArg (Option.bind _) (funext fun x4 => ?_)
        refine (ss_iload_n rfl rfl).trans ?_
        refine (ss_iload_n rfl rfl).trans ?_
        refine (ss_iload_n rfl rfl).trans ?_
        refine (ss_callVI (as := [.int v1, .int v2, .int v3]) rfl t_Cl_add (by decide) rfl rfl (by decide) (Or.inr rfl) ⟨Nat.le_of_ble_eq_true rfl, Nat.le_of_ble_eq_true rfl⟩).trans ?_
        refine pv_ite ?_ rfl
        refine congrArg (Option.bind _) (funext fun q5 => ?_)
        exact ss_zreturn rfl
      · rfl
set_option maxRecDepth 8000 in
theorem u_Wp_see_25 (X : pv_X) (v0 : Nat) (v1 : Int32) (v2 : Int32) (v3 : Int32) (h : pv_H) : f_Wp_see_25 X v0 v1 v2 v3 h =
    some (some (.int 0), h) := by
  show pS X 3 (some .boolean) k_Wp_see 25 [some (.ref v0), some (.int v1), some (.int v2), some (.int v3)] [] h = _
  refine (ss_iconst rfl (v := 0) rfl).trans ?_
  exact (ss_zreturn rfl).trans (if_pos (by decide))
theorem e_Wp_see (X : pv_X) (v0 : Nat) (v1 : Int32) (v2 : Int32) (v3 : Int32) (h : pv_H) : pM X m_Wp_see [.ref v0, .int v1, .int v2, .int v3] h = f_Wp_see_0 X v0 v1 v2 v3 h := rfl
noncomputable def f_Wp_pairs_0 (X : pv_X) (v0 : Nat) (v1 : Int32) (h : pv_H) : Option pv_O := pS X 6 (some .int) k_Wp_pairs 0 [some (.ref v0), some (.int v1), none, none, none, none, none] [] h
noncomputable def f_Wp_pairs_21 (X : pv_X) (v0 : Nat) (v1 : Int32) (v2 : Int32) (v3 : Int32) (v4 : Int32) (v5 : Int32) (o6 : Option Value) (h : pv_H) : Option pv_O := pS X 6 (some .int) k_Wp_pairs 21 [some (.ref v0), some (.int v1), some (.int v2), some (.int v3), some (.int v4), some (.int v5), o6] [] h
noncomputable def f_Wp_pairs_36 (X : pv_X) (v0 : Nat) (v1 : Int32) (v2 : Int32) (v3 : Int32) (v4 : Int32) (v5 : Int32) (v6 : Int32) (h : pv_H) : Option pv_O := pS X 6 (some .int) k_Wp_pairs 36 [some (.ref v0), some (.int v1), some (.int v2), some (.int v3), some (.int v4), some (.int v5), some (.int v6)] [] h
noncomputable def f_Wp_pairs_85 (X : pv_X) (v0 : Nat) (v1 : Int32) (v2 : Int32) (v3 : Int32) (v4 : Int32) (v5 : Int32) (v6 : Int32) (h : pv_H) : Option pv_O := pS X 6 (some .int) k_Wp_pairs 85 [some (.ref v0), some (.int v1), some (.int v2), some (.int v3), some (.int v4), some (.int v5), some (.int v6)] [] h
noncomputable def f_Wp_pairs_114 (X : pv_X) (v0 : Nat) (v1 : Int32) (v2 : Int32) (v3 : Int32) (v4 : Int32) (v5 : Int32) (o6 : Option Value) (s0 : Int32) (h : pv_H) : Option pv_O := pS X 6 (some .int) k_Wp_pairs 114 [some (.ref v0), some (.int v1), some (.int v2), some (.int v3), some (.int v4), some (.int v5), o6] [.int s0] h
set_option maxRecDepth 8000 in
theorem u_Wp_pairs_0 (X : pv_X) (v0 : Nat) (v1 : Int32) (h : pv_H) : f_Wp_pairs_0 X v0 v1 h =
    (pv_tI (pM X m_Wp_isWithin [.int v1, .int 0, .int 2] h)).bind (fun q1 => if ¬ q1.1 = 0 then f_Wp_pairs_21 X v0 v1 0 0 0 0 none q1.2 else some (some (.int (-1)), q1.2)) := by
  show pS X 6 (some .int) k_Wp_pairs 0 [some (.ref v0), some (.int v1), none, none, none, none, none] [] h = _
  refine (ss_iload_n rfl rfl).trans ?_
  refine (ss_iconst rfl (v := 0) rfl).trans ?_
  refine (ss_iconst rfl (v := 2) rfl).trans ?_
  refine (ss_callSI (as := [.int v1, .int 0, .int 2]) rfl t_Wp_isWithin (by decide) rfl rfl (by decide) (Or.inr rfl) ⟨Nat.le_of_ble_eq_true rfl, Nat.le_of_ble_eq_true rfl⟩).trans ?_
  refine congrArg (Option.bind _) (funext fun q1 => ?_)
  refine (ss_if_ne rfl).trans ?_
  refine pv_ite ?_ ?_
  · refine (ss_iconst rfl (v := 0) rfl).trans ?_
    refine (ss_istore_n rfl rfl).trans ?_
    refine (ss_iconst rfl (v := 0) rfl).trans ?_
    refine (ss_istore_n rfl rfl).trans ?_
    refine (ss_iconst rfl (v := 0) rfl).trans ?_
    refine (ss_istore rfl rfl).trans ?_
    refine (ss_iconst rfl (v := 0) rfl).trans ?_
    refine (ss_istore rfl rfl).trans ?_
    rfl
  · refine (ss_iconst rfl (v := (-1)) rfl).trans ?_
    exact ss_ireturn rfl
set_option maxRecDepth 8000 in
theorem u_Wp_pairs_21 (X : pv_X) (v0 : Nat) (v1 : Int32) (v2 : Int32) (v3 : Int32) (v4 : Int32) (v5 : Int32) (o6 : Option Value) (h : pv_H) : f_Wp_pairs_21 X v0 v1 v2 v3 v4 v5 o6 h =
    (pv_fR h v0 10 1).bind (fun x1 => (pv_fI h x1 6 6).bind (fun x2 => if x2 ≤ v5 then if ¬ v1 = 0 then if ¬ v1 = 1 then f_Wp_pairs_114 X v0 v1 v2 v3 v4 v5 o6 v4 h else f_Wp_pairs_114 X v0 v1 v2 v3 v4 v5 o6 v3 h else some (some (.int v2), h) else f_Wp_pairs_36 X v0 v1 v2 v3 v4 v5 0 h)) := by
  show pS X 6 (some .int) k_Wp_pairs 21 [some (.ref v0), some (.int v1), some (.int v2), some (.int v3), some (.int v4), some (.int v5), o6] [] h = _
  refine (ss_iload rfl rfl).trans ?_
  refine (ss_aload_n rfl rfl).trans ?_
  refine (ss_getR rfl).trans ?_
  refine congrArg (Option.bind _) (funext fun x1 => ?_)
  refine (ss_getI rfl).trans ?_
  refine congrArg (Option.bind _) (funext fun x2 => ?_)
  refine (ss_icmp_ge rfl).trans ?_
  refine pv_ite ?_ ?_
  · refine (ss_iload_n rfl rfl).trans ?_
    refine (ss_if_ne rfl).trans ?_
    refine pv_ite ?_ ?_
    · refine (ss_iload_n rfl rfl).trans ?_
      refine (ss_iconst rfl (v := 1) rfl).trans ?_
      refine (ss_icmp_ne rfl).trans ?_
      refine pv_ite ?_ ?_
      · refine (ss_iload rfl rfl).trans ?_
        rfl
      · refine (ss_iload_n rfl rfl).trans ?_
        refine (ss_goto rfl).trans ?_
        rfl
    · refine (ss_iload_n rfl rfl).trans ?_
      exact ss_ireturn rfl
  · refine (ss_iconst rfl (v := 0) rfl).trans ?_
    refine (ss_istore rfl rfl).trans ?_
    rfl
set_option maxRecDepth 8000 in
theorem u_Wp_pairs_36 (X : pv_X) (v0 : Nat) (v1 : Int32) (v2 : Int32) (v3 : Int32) (v4 : Int32) (v5 : Int32) (v6 : Int32) (h : pv_H) : f_Wp_pairs_36 X v0 v1 v2 v3 v4 v5 v6 h =
    (pv_fR h v0 10 1).bind (fun x1 => (pv_fI h x1 6 6).bind (fun x2 => if x2 ≤ v6 then f_Wp_pairs_21 X v0 v1 v2 v3 v4 (v5 + 1) (some (.int v6)) h else if v5 = v6 then f_Wp_pairs_85 X v0 v1 v2 v3 v4 v5 v6 h else if pv_rc h v0 10 = true then (pv_tI (pM X m_Wp_agreesWithSeen [.ref v0, .int v5, .int v6] h)).bind (fun q3 => if q3.1 = 0 then f_Wp_pairs_85 X v0 v1 v2 v3 v4 v5 v6 q3.2 else f_Wp_pairs_85 X v0 v1 (v2 + 1) (v3 ||| ((1 : Int32) <<< (v5 &&& 31))) (v4 ||| ((1 : Int32) <<< (v6 &&& 31))) v5 v6 q3.2) else none)) := by
  show pS X 6 (some .int) k_Wp_pairs 36 [some (.ref v0), some (.int v1), some (.int v2), some (.int v3), some (.int v4), some (.int v5), some (.int v6)] [] h = _
  refine (ss_iload rfl rfl).trans ?_
  refine (ss_aload_n rfl rfl).trans ?_
  refine (ss_getR rfl).trans ?_
  refine congrArg (Option.bind _) (funext fun x1 => ?_)
  refine (ss_getI rfl).trans ?_
  refine congrArg (Option.bind _) (funext fun x2 => ?_)
  refine (ss_icmp_ge rfl).trans ?_
  refine pv_ite ?_ ?_
  · refine (ss_iinc3 rfl rfl (v := v5 + 1) (congrArg (HAdd.hAdd _) (show Int32.ofInt (1) = 1 by decide)) rfl).trans ?_
    refine (ss_goto rfl).trans ?_
    rfl
  · refine (ss_iload rfl rfl).trans ?_
    refine (ss_iload rfl rfl).trans ?_
    refine (ss_icmp_eq rfl).trans ?_
    refine pv_ite ?_ ?_
    · rfl
    · refine (ss_aload_n rfl rfl).trans ?_
      refine (ss_iload rfl rfl).trans ?_
      refine (ss_iload rfl rfl).trans ?_
      refine (ss_callVI (as := [.int v5, .int v6]) rfl t_Wp_agreesWithSeen (by decide) rfl rfl (by decide) (Or.inr rfl) ⟨Nat.le_of_ble_eq_true rfl, Nat.le_of_ble_eq_true rfl⟩).trans ?_
      refine pv_ite ?_ rfl
      refine congrArg (Option.bind _) (funext fun q3 => ?_)
      refine (ss_if_eq rfl).trans ?_
      refine pv_ite ?_ ?_
      · rfl
      · refine (ss_iinc3 rfl rfl (v := v2 + 1) (congrArg (HAdd.hAdd _) (show Int32.ofInt (1) = 1 by decide)) rfl).trans ?_
        refine (ss_iload_n rfl rfl).trans ?_
        refine (ss_iconst rfl (v := 1) rfl).trans ?_
        refine (ss_iload rfl rfl).trans ?_
        refine (ss_ishl rfl).trans ?_
        refine (ss_ior rfl).trans ?_
        refine (ss_istore_n rfl rfl).trans ?_
        refine (ss_iload rfl rfl).trans ?_
        refine (ss_iconst rfl (v := 1) rfl).trans ?_
        refine (ss_iload rfl rfl).trans ?_
        refine (ss_ishl rfl).trans ?_
        refine (ss_ior rfl).trans ?_
        refine (ss_istore rfl rfl).trans ?_
        rfl
set_option maxRecDepth 8000 in
theorem u_Wp_pairs_85 (X : pv_X) (v0 : Nat) (v1 : Int32) (v2 : Int32) (v3 : Int32) (v4 : Int32) (v5 : Int32) (v6 : Int32) (h : pv_H) : f_Wp_pairs_85 X v0 v1 v2 v3 v4 v5 v6 h =
    f_Wp_pairs_36 X v0 v1 v2 v3 v4 v5 (v6 + 1) h := by
  show pS X 6 (some .int) k_Wp_pairs 85 [some (.ref v0), some (.int v1), some (.int v2), some (.int v3), some (.int v4), some (.int v5), some (.int v6)] [] h = _
  refine (ss_iinc3 rfl rfl (v := v6 + 1) (congrArg (HAdd.hAdd _) (show Int32.ofInt (1) = 1 by decide)) rfl).trans ?_
  refine (ss_goto rfl).trans ?_
  rfl
set_option maxRecDepth 8000 in
theorem u_Wp_pairs_114 (X : pv_X) (v0 : Nat) (v1 : Int32) (v2 : Int32) (v3 : Int32) (v4 : Int32) (v5 : Int32) (o6 : Option Value) (s0 : Int32) (h : pv_H) : f_Wp_pairs_114 X v0 v1 v2 v3 v4 v5 o6 s0 h =
    some (some (.int s0), h) := by
  show pS X 6 (some .int) k_Wp_pairs 114 [some (.ref v0), some (.int v1), some (.int v2), some (.int v3), some (.int v4), some (.int v5), o6] [.int s0] h = _
  exact ss_ireturn rfl
theorem e_Wp_pairs (X : pv_X) (v0 : Nat) (v1 : Int32) (h : pv_H) : pM X m_Wp_pairs [.ref v0, .int v1] h = f_Wp_pairs_0 X v0 v1 h := rfl
noncomputable def f_Wp_agreesWithSeen_0 (X : pv_X) (v0 : Nat) (v1 : Int32) (v2 : Int32) (h : pv_H) : Option pv_O := pS X 5 (some .boolean) k_Wp_agreesWithSeen 0 [some (.ref v0), some (.int v1), some (.int v2), none, none, none] [] h
noncomputable def f_Wp_agreesWithSeen_22 (X : pv_X) (v0 : Nat) (v1 : Int32) (v2 : Int32) (v3 : Int32) (o4 : Option Value) (o5 : Option Value) (h : pv_H) : Option pv_O := pS X 5 (some .boolean) k_Wp_agreesWithSeen 22 [some (.ref v0), some (.int v1), some (.int v2), some (.int v3), o4, o5] [] h
noncomputable def f_Wp_agreesWithSeen_34 (X : pv_X) (v0 : Nat) (v1 : Int32) (v2 : Int32) (v3 : Int32) (v4 : Int32) (v5 : Int32) (h : pv_H) : Option pv_O := pS X 5 (some .boolean) k_Wp_agreesWithSeen 34 [some (.ref v0), some (.int v1), some (.int v2), some (.int v3), some (.int v4), some (.int v5)] [] h
noncomputable def f_Wp_agreesWithSeen_92 (X : pv_X) (v0 : Nat) (v1 : Int32) (v2 : Int32) (v3 : Int32) (v4 : Int32) (v5 : Int32) (h : pv_H) : Option pv_O := pS X 5 (some .boolean) k_Wp_agreesWithSeen 92 [some (.ref v0), some (.int v1), some (.int v2), some (.int v3), some (.int v4), some (.int v5)] [] h
noncomputable def f_Wp_agreesWithSeen_113 (X : pv_X) (v0 : Nat) (v1 : Int32) (v2 : Int32) (v3 : Int32) (v4 : Int32) (v5 : Int32) (s0 : Int32) (s1 : Int32) (h : pv_H) : Option pv_O := pS X 5 (some .boolean) k_Wp_agreesWithSeen 113 [some (.ref v0), some (.int v1), some (.int v2), some (.int v3), some (.int v4), some (.int v5)] [.int s0, .int s1] h
set_option maxRecDepth 8000 in
theorem u_Wp_agreesWithSeen_0 (X : pv_X) (v0 : Nat) (v1 : Int32) (v2 : Int32) (h : pv_H) : f_Wp_agreesWithSeen_0 X v0 v1 v2 h =
    (pv_fR h v0 10 6).bind (fun x1 => (pv_fR h v0 10 5).bind (fun x2 => if pv_rc h x1 7 = true then (pv_tV (pM X m_St_copy [.ref x1, .ref x2] h)).bind (fun h3 => (pv_fR h3 v0 10 6).bind (fun x4 => if pv_rc h3 x4 7 = true then (pv_tV (pM X m_St_takeTime [.ref x4, .int v1, .int v2] h3)).bind (fun h5 => f_Wp_agreesWithSeen_22 X v0 v1 v2 0 none none h5) else none)) else none)) := by
  show pS X 5 (some .boolean) k_Wp_agreesWithSeen 0 [some (.ref v0), some (.int v1), some (.int v2), none, none, none] [] h = _
  refine (ss_aload_n rfl rfl).trans ?_
  refine (ss_getR rfl).trans ?_
  refine congrArg (Option.bind _) (funext fun x1 => ?_)
  refine (ss_aload_n rfl rfl).trans ?_
  refine (ss_getR rfl).trans ?_
  refine congrArg (Option.bind _) (funext fun x2 => ?_)
  refine (ss_callVN (as := [.ref x2]) rfl t_St_copy (by decide) rfl rfl (by decide) rfl ⟨Nat.le_of_ble_eq_true rfl, Nat.le_of_ble_eq_true rfl⟩).trans ?_
  refine pv_ite ?_ rfl
  refine congrArg (Option.bind _) (funext fun h3 => ?_)
  refine (ss_aload_n rfl rfl).trans ?_
  refine (ss_getR rfl).trans ?_
  refine congrArg (Option.bind _) (funext fun x4 => ?_)
  refine (ss_iload_n rfl rfl).trans ?_
  refine (ss_iload_n rfl rfl).trans ?_
  refine (ss_callVN (as := [.int v1, .int v2]) rfl t_St_takeTime (by decide) rfl rfl (by decide) rfl ⟨Nat.le_of_ble_eq_true rfl, Nat.le_of_ble_eq_true rfl⟩).trans ?_
  refine pv_ite ?_ rfl
  refine congrArg (Option.bind _) (funext fun h5 => ?_)
  refine (ss_iconst rfl (v := 0) rfl).trans ?_
  refine (ss_istore_n rfl rfl).trans ?_
  rfl
set_option maxRecDepth 8000 in
theorem u_Wp_agreesWithSeen_22 (X : pv_X) (v0 : Nat) (v1 : Int32) (v2 : Int32) (v3 : Int32) (o4 : Option Value) (o5 : Option Value) (h : pv_H) : f_Wp_agreesWithSeen_22 X v0 v1 v2 v3 o4 o5 h =
    if 24 < v3 then some (some (.int 1), h) else f_Wp_agreesWithSeen_34 X v0 v1 v2 v3 0 0 h := by
  show pS X 5 (some .boolean) k_Wp_agreesWithSeen 22 [some (.ref v0), some (.int v1), some (.int v2), some (.int v3), o4, o5] [] h = _
  refine (ss_iload_n rfl rfl).trans ?_
  refine (ss_bipush rfl (v := 24) rfl).trans ?_
  refine (ss_icmp_gt rfl).trans ?_
  refine pv_ite ?_ ?_
  · refine (ss_iconst rfl (v := 1) rfl).trans ?_
    exact (ss_zreturn rfl).trans (if_pos (by decide))
  · refine (ss_iconst rfl (v := 0) rfl).trans ?_
    refine (ss_istore rfl rfl).trans ?_
    refine (ss_iconst rfl (v := 0) rfl).trans ?_
    refine (ss_istore rfl rfl).trans ?_
    rfl
set_option maxRecDepth 8000 in
theorem u_Wp_agreesWithSeen_34 (X : pv_X) (v0 : Nat) (v1 : Int32) (v2 : Int32) (v3 : Int32) (v4 : Int32) (v5 : Int32) (h : pv_H) : f_Wp_agreesWithSeen_34 X v0 v1 v2 v3 v4 v5 h =
    (pv_fR h v0 10 8).bind (fun x1 => (pv_fI h x1 0 3).bind (fun x2 => if x2 ≤ v5 then if ¬ v4 = 0 then (pv_fR h v0 10 1).bind (fun x3 => (pv_fR h v0 10 6).bind (fun x4 => if pv_rc h x3 6 = true then (pv_tI (pM X m_Po_passQuarter [.ref x3, .ref x4] h)).bind (fun q5 => f_Wp_agreesWithSeen_22 X v0 v1 v2 (v3 + 1) (some (.int v4)) (some (.int v5)) q5.2) else none)) else some (some (.int 1), h) else (pv_fR h v0 10 8).bind (fun x6 => (pv_fR h x6 0 1).bind (fun x7 => (pv_aX X h x7 v5).bind (fun x8 => if ¬ x8 = v3 then f_Wp_agreesWithSeen_92 X v0 v1 v2 v3 v4 v5 h else (pv_fR h v0 10 6).bind (fun x9 => (pv_fR h v0 10 8).bind (fun x10 => (pv_fR h x10 0 0).bind (fun x11 => (pv_aX X h x11 v5).bind (fun x12 => if pv_rc h x9 7 = true then (pv_tI (pM X m_St_outOf [.ref x9, .int x12] h)).bind (fun q13 => (pv_fR q13.2 v0 10 8).bind (fun x14 => (pv_fR q13.2 x14 0 2).bind (fun x15 => (pv_aX X q13.2 x15 v5).bind (fun x16 => if q13.1 = x16 then f_Wp_agreesWithSeen_92 X v0 v1 v2 v3 v4 v5 q13.2 else some (some (.int 0), q13.2))))) else none))))))))) := by
  show pS X 5 (some .boolean) k_Wp_agreesWithSeen 34 [some (.ref v0), some (.int v1), some (.int v2), some (.int v3), some (.int v4), some (.int v5)] [] h = _
  refine (ss_iload rfl rfl).trans ?_
  refine (ss_aload_n rfl rfl).trans ?_
  refine (ss_getR rfl).trans ?_
  refine congrArg (Option.bind _) (funext fun x1 => ?_)
  refine (ss_getI rfl).trans ?_
  refine congrArg (Option.bind _) (funext fun x2 => ?_)
  refine (ss_icmp_ge rfl).trans ?_
  refine pv_ite ?_ ?_
  · refine (ss_iload rfl rfl).trans ?_
    refine (ss_if_ne rfl).trans ?_
    refine pv_ite ?_ ?_
    · refine (ss_aload_n rfl rfl).trans ?_
      refine (ss_getR rfl).trans ?_
      refine congrArg (Option.bind _) (funext fun x3 => ?_)
      refine (ss_aload_n rfl rfl).trans ?_
      refine (ss_getR rfl).trans ?_
      refine congrArg (Option.bind _) (funext fun x4 => ?_)
      refine (ss_callVI (as := [.ref x4]) rfl t_Po_passQuarter (by decide) rfl rfl (by decide) (Or.inl rfl) ⟨Nat.le_of_ble_eq_true rfl, Nat.le_of_ble_eq_true rfl⟩).trans ?_
      refine pv_ite ?_ rfl
      refine congrArg (Option.bind _) (funext fun q5 => ?_)
      refine (ss_popI rfl).trans ?_
      refine (ss_iinc3 rfl rfl (v := v3 + 1) (congrArg (HAdd.hAdd _) (show Int32.ofInt (1) = 1 by decide)) rfl).trans ?_
      refine (ss_goto rfl).trans ?_
      rfl
    · refine (ss_iconst rfl (v := 1) rfl).trans ?_
      exact (ss_zreturn rfl).trans (if_pos (by decide))
  · refine (ss_aload_n rfl rfl).trans ?_
    refine (ss_getR rfl).trans ?_
    refine congrArg (Option.bind _) (funext fun x6 => ?_)
    refine (ss_getR rfl).trans ?_
    refine congrArg (Option.bind _) (funext fun x7 => ?_)
    refine (ss_iload rfl rfl).trans ?_
    refine (ss_iaload rfl).trans ?_
    refine congrArg (Option.bind _) (funext fun x8 => ?_)
    refine (ss_iload_n rfl rfl).trans ?_
    refine (ss_icmp_ne rfl).trans ?_
    refine pv_ite ?_ ?_
    · rfl
    · refine (ss_aload_n rfl rfl).trans ?_
      refine (ss_getR rfl).trans ?_
      refine congrArg (Option.bind _) (funext fun x9 => ?_)
      refine (ss_aload_n rfl rfl).trans ?_
      refine (ss_getR rfl).trans ?_
      refine congrArg (Option.bind _) (funext fun x10 => ?_)
      refine (ss_getR rfl).trans ?_
      refine congrArg (Option.bind _) (funext fun x11 => ?_)
      refine (ss_iload rfl rfl).trans ?_
      refine (ss_iaload rfl).trans ?_
      refine congrArg (Option.bind _) (funext fun x12 => ?_)
      refine (ss_callVI (as := [.int x12]) rfl t_St_outOf (by decide) rfl rfl (by decide) (Or.inl rfl) ⟨Nat.le_of_ble_eq_true rfl, Nat.le_of_ble_eq_true rfl⟩).trans ?_
      refine pv_ite ?_ rfl
      refine congrArg (Option.bind _) (funext fun q13 => ?_)
      refine (ss_aload_n rfl rfl).trans ?_
      refine (ss_getR rfl).trans ?_
      refine congrArg (Option.bind _) (funext fun x14 => ?_)
      refine (ss_getR rfl).trans ?_
      refine congrArg (Option.bind _) (funext fun x15 => ?_)
      refine (ss_iload rfl rfl).trans ?_
      refine (ss_iaload rfl).trans ?_
      refine congrArg (Option.bind _) (funext fun x16 => ?_)
      refine (ss_icmp_eq rfl).trans ?_
      refine pv_ite ?_ ?_
      · rfl
      · refine (ss_iconst rfl (v := 0) rfl).trans ?_
        exact (ss_zreturn rfl).trans (if_pos (by decide))
set_option maxRecDepth 8000 in
theorem u_Wp_agreesWithSeen_92 (X : pv_X) (v0 : Nat) (v1 : Int32) (v2 : Int32) (v3 : Int32) (v4 : Int32) (v5 : Int32) (h : pv_H) : f_Wp_agreesWithSeen_92 X v0 v1 v2 v3 v4 v5 h =
    (pv_fR h v0 10 8).bind (fun x1 => (pv_fR h x1 0 1).bind (fun x2 => (pv_aX X h x2 v5).bind (fun x3 => if x3 ≤ v3 then f_Wp_agreesWithSeen_113 X v0 v1 v2 v3 v4 v5 0 v4 h else f_Wp_agreesWithSeen_113 X v0 v1 v2 v3 v4 v5 1 v4 h))) := by
  show pS X 5 (some .boolean) k_Wp_agreesWithSeen 92 [some (.ref v0), some (.int v1), some (.int v2), some (.int v3), some (.int v4), some (.int v5)] [] h = _
  refine (ss_iload rfl rfl).trans ?_
  refine (ss_aload_n rfl rfl).trans ?_
  refine (ss_getR rfl).trans ?_
  refine congrArg (Option.bind _) (funext fun x1 => ?_)
  refine (ss_getR rfl).trans ?_
  refine congrArg (Option.bind _) (funext fun x2 => ?_)
  refine (ss_iload rfl rfl).trans ?_
  refine (ss_iaload rfl).trans ?_
  refine congrArg (Option.bind _) (funext fun x3 => ?_)
  refine (ss_iload_n rfl rfl).trans ?_
  refine (ss_icmp_le rfl).trans ?_
  refine pv_ite ?_ ?_
  · refine (ss_iconst rfl (v := 0) rfl).trans ?_
    rfl
  · refine (ss_iconst rfl (v := 1) rfl).trans ?_
    refine (ss_goto rfl).trans ?_
    rfl
set_option maxRecDepth 8000 in
theorem u_Wp_agreesWithSeen_113 (X : pv_X) (v0 : Nat) (v1 : Int32) (v2 : Int32) (v3 : Int32) (v4 : Int32) (v5 : Int32) (s0 : Int32) (s1 : Int32) (h : pv_H) : f_Wp_agreesWithSeen_113 X v0 v1 v2 v3 v4 v5 s0 s1 h =
    f_Wp_agreesWithSeen_34 X v0 v1 v2 v3 (s1 ||| s0) (v5 + 1) h := by
  show pS X 5 (some .boolean) k_Wp_agreesWithSeen 113 [some (.ref v0), some (.int v1), some (.int v2), some (.int v3), some (.int v4), some (.int v5)] [.int s0, .int s1] h = _
  refine (ss_ior rfl).trans ?_
  refine (ss_istore rfl rfl).trans ?_
  refine (ss_iinc3 rfl rfl (v := v5 + 1) (congrArg (HAdd.hAdd _) (show Int32.ofInt (1) = 1 by decide)) rfl).trans ?_
  refine (ss_goto rfl).trans ?_
  rfl
theorem e_Wp_agreesWithSeen (X : pv_X) (v0 : Nat) (v1 : Int32) (v2 : Int32) (h : pv_H) : pM X m_Wp_agreesWithSeen [.ref v0, .int v1, .int v2] h = f_Wp_agreesWithSeen_0 X v0 v1 v2 h := rfl
noncomputable def f_Wp_look_0 (X : pv_X) (v0 : Nat) (v1 : Int32) (h : pv_H) : Option pv_O := pS X 7 (some .int) k_Wp_look 0 [some (.ref v0), some (.int v1), none, none, none, none, none] [] h
noncomputable def f_Wp_look_24 (X : pv_X) (v0 : Nat) (v1 : Int32) (v2 : Int32) (v3 : Int32) (v4 : Int32) (v5 : Int32) (o6 : Option Value) (h : pv_H) : Option pv_O := pS X 7 (some .int) k_Wp_look 24 [some (.ref v0), some (.int v1), some (.int v2), some (.int v3), some (.int v4), some (.int v5), o6] [] h
noncomputable def f_Wp_look_41 (X : pv_X) (v0 : Nat) (v1 : Int32) (v2 : Int32) (v3 : Int32) (v4 : Int32) (v5 : Int32) (v6 : Int32) (h : pv_H) : Option pv_O := pS X 7 (some .int) k_Wp_look 41 [some (.ref v0), some (.int v1), some (.int v2), some (.int v3), some (.int v4), some (.int v5), some (.int v6)] [] h
noncomputable def f_Wp_look_97 (X : pv_X) (v0 : Nat) (v1 : Int32) (v2 : Int32) (v3 : Int32) (v4 : Int32) (v5 : Int32) (v6 : Int32) (h : pv_H) : Option pv_O := pS X 7 (some .int) k_Wp_look 97 [some (.ref v0), some (.int v1), some (.int v2), some (.int v3), some (.int v4), some (.int v5), some (.int v6)] [] h
set_option maxRecDepth 8000 in
theorem u_Wp_look_0 (X : pv_X) (v0 : Nat) (v1 : Int32) (h : pv_H) : f_Wp_look_0 X v0 v1 h =
    if pv_rc h v0 10 = true then (pv_tI (pM X m_Wp_isPerson [.ref v0, .int v1] h)).bind (fun q1 => if ¬ q1.1 = 0 then if pv_rc q1.2 v0 10 = true then (pv_tI (pM X m_Wp_foreseePairs [.ref v0, .int v1] q1.2)).bind (fun q2 => f_Wp_look_24 X v0 v1 q2.1 (-1) q2.1 0 none q2.2) else none else some (some (.int (-1)), q1.2)) else none := by
  show pS X 7 (some .int) k_Wp_look 0 [some (.ref v0), some (.int v1), none, none, none, none, none] [] h = _
  refine (ss_aload_n rfl rfl).trans ?_
  refine (ss_iload_n rfl rfl).trans ?_
  refine (ss_callVI (as := [.int v1]) rfl t_Wp_isPerson (by decide) rfl rfl (by decide) (Or.inr rfl) ⟨Nat.le_of_ble_eq_true rfl, Nat.le_of_ble_eq_true rfl⟩).trans ?_
  refine pv_ite ?_ rfl
  refine congrArg (Option.bind _) (funext fun q1 => ?_)
  refine (ss_if_ne rfl).trans ?_
  refine pv_ite ?_ ?_
  · refine (ss_aload_n rfl rfl).trans ?_
    refine (ss_iload_n rfl rfl).trans ?_
    refine (ss_callVI (as := [.int v1]) rfl t_Wp_foreseePairs (by decide) rfl rfl (by decide) (Or.inl rfl) ⟨Nat.le_of_ble_eq_true rfl, Nat.le_of_ble_eq_true rfl⟩).trans ?_
    refine pv_ite ?_ rfl
    refine congrArg (Option.bind _) (funext fun q2 => ?_)
    refine (ss_istore_n rfl rfl).trans ?_
    refine (ss_iconst rfl (v := (-1)) rfl).trans ?_
    refine (ss_istore_n rfl rfl).trans ?_
    refine (ss_iload_n rfl rfl).trans ?_
    refine (ss_istore rfl rfl).trans ?_
    refine (ss_iconst rfl (v := 0) rfl).trans ?_
    refine (ss_istore rfl rfl).trans ?_
    rfl
  · refine (ss_iconst rfl (v := (-1)) rfl).trans ?_
    exact ss_ireturn rfl
set_option maxRecDepth 8000 in
theorem u_Wp_look_24 (X : pv_X) (v0 : Nat) (v1 : Int32) (v2 : Int32) (v3 : Int32) (v4 : Int32) (v5 : Int32) (o6 : Option Value) (h : pv_H) : f_Wp_look_24 X v0 v1 v2 v3 v4 v5 o6 h =
    if 24 < v5 then some (some (.int v3), h) else (pv_fR h v0 10 11).bind (fun x1 => if pv_rc h x1 8 = true then (pv_tV (pM X m_Ta_clear [.ref x1] h)).bind (fun h2 => f_Wp_look_41 X v0 v1 v2 v3 v4 v5 0 h2) else none) := by
  show pS X 7 (some .int) k_Wp_look 24 [some (.ref v0), some (.int v1), some (.int v2), some (.int v3), some (.int v4), some (.int v5), o6] [] h = _
  refine (ss_iload rfl rfl).trans ?_
  refine (ss_bipush rfl (v := 24) rfl).trans ?_
  refine (ss_icmp_gt rfl).trans ?_
  refine pv_ite ?_ ?_
  · refine (ss_iload_n rfl rfl).trans ?_
    exact ss_ireturn rfl
  · refine (ss_aload_n rfl rfl).trans ?_
    refine (ss_getR rfl).trans ?_
    refine congrArg (Option.bind _) (funext fun x1 => ?_)
    refine (ss_callVN (as := []) rfl t_Ta_clear (by decide) rfl rfl (by decide) rfl ⟨Nat.le_of_ble_eq_true rfl, Nat.le_of_ble_eq_true rfl⟩).trans ?_
    refine pv_ite ?_ rfl
    refine congrArg (Option.bind _) (funext fun h2 => ?_)
    refine (ss_iconst rfl (v := 0) rfl).trans ?_
    refine (ss_istore rfl rfl).trans ?_
    rfl
set_option maxRecDepth 8000 in
theorem u_Wp_look_41 (X : pv_X) (v0 : Nat) (v1 : Int32) (v2 : Int32) (v3 : Int32) (v4 : Int32) (v5 : Int32) (v6 : Int32) (h : pv_H) : f_Wp_look_41 X v0 v1 v2 v3 v4 v5 v6 h =
    if v2 ≤ v6 then (pv_fR h v0 10 11).bind (fun x1 => (pv_fI h x1 8 1).bind (fun x2 => if v4 ≤ x2 then f_Wp_look_97 X v0 v1 v2 v3 v4 v5 v6 h else (pv_fR h v0 10 11).bind (fun x3 => (pv_fI h x3 8 1).bind (fun x4 => f_Wp_look_97 X v0 v1 v2 v5 x4 v5 v6 h)))) else (pv_fR h v0 10 11).bind (fun x5 => (pv_fR h v0 10 14).bind (fun x6 => (pv_aX X h x6 ((v5 * 30) + v6)).bind (fun x7 => if pv_rc h x5 8 = true then (pv_tV (pM X m_Ta_add [.ref x5, .int x7] h)).bind (fun h8 => f_Wp_look_41 X v0 v1 v2 v3 v4 v5 (v6 + 1) h8) else none))) := by
  show pS X 7 (some .int) k_Wp_look 41 [some (.ref v0), some (.int v1), some (.int v2), some (.int v3), some (.int v4), some (.int v5), some (.int v6)] [] h = _
  refine (ss_iload rfl rfl).trans ?_
  refine (ss_iload_n rfl rfl).trans ?_
  refine (ss_icmp_ge rfl).trans ?_
  refine pv_ite ?_ ?_
  · refine (ss_aload_n rfl rfl).trans ?_
    refine (ss_getR rfl).trans ?_
    refine congrArg (Option.bind _) (funext fun x1 => ?_)
    refine (ss_getI rfl).trans ?_
    refine congrArg (Option.bind _) (funext fun x2 => ?_)
    refine (ss_iload rfl rfl).trans ?_
    refine (ss_icmp_ge rfl).trans ?_
    refine pv_ite ?_ ?_
    · rfl
    · refine (ss_aload_n rfl rfl).trans ?_
      refine (ss_getR rfl).trans ?_
      refine congrArg (Option.bind _) (funext fun x3 => ?_)
      refine (ss_getI rfl).trans ?_
      refine congrArg (Option.bind _) (funext fun x4 => ?_)
      refine (ss_istore rfl rfl).trans ?_
      refine (ss_iload rfl rfl).trans ?_
      refine (ss_istore_n rfl rfl).trans ?_
      rfl
  · refine (ss_aload_n rfl rfl).trans ?_
    refine (ss_getR rfl).trans ?_
    refine congrArg (Option.bind _) (funext fun x5 => ?_)
    refine (ss_aload_n rfl rfl).trans ?_
    refine (ss_getR rfl).trans ?_
    refine congrArg (Option.bind _) (funext fun x6 => ?_)
    refine (ss_iload rfl rfl).trans ?_
    refine (ss_bipush rfl (v := 30) rfl).trans ?_
    refine (ss_imul rfl).trans ?_
    refine (ss_iload rfl rfl).trans ?_
    refine (ss_iadd rfl).trans ?_
    refine (ss_iaload rfl).trans ?_
    refine congrArg (Option.bind _) (funext fun x7 => ?_)
    refine (ss_callVN (as := [.int x7]) rfl t_Ta_add (by decide) rfl rfl (by decide) rfl ⟨Nat.le_of_ble_eq_true rfl, Nat.le_of_ble_eq_true rfl⟩).trans ?_
    refine pv_ite ?_ rfl
    refine congrArg (Option.bind _) (funext fun h8 => ?_)
    refine (ss_iinc3 rfl rfl (v := v6 + 1) (congrArg (HAdd.hAdd _) (show Int32.ofInt (1) = 1 by decide)) rfl).trans ?_
    refine (ss_goto rfl).trans ?_
    rfl
set_option maxRecDepth 8000 in
theorem u_Wp_look_97 (X : pv_X) (v0 : Nat) (v1 : Int32) (v2 : Int32) (v3 : Int32) (v4 : Int32) (v5 : Int32) (v6 : Int32) (h : pv_H) : f_Wp_look_97 X v0 v1 v2 v3 v4 v5 v6 h =
    f_Wp_look_24 X v0 v1 v2 v3 v4 (v5 + 1) (some (.int v6)) h := by
  show pS X 7 (some .int) k_Wp_look 97 [some (.ref v0), some (.int v1), some (.int v2), some (.int v3), some (.int v4), some (.int v5), some (.int v6)] [] h = _
  refine (ss_iinc3 rfl rfl (v := v5 + 1) (congrArg (HAdd.hAdd _) (show Int32.ofInt (1) = 1 by decide)) rfl).trans ?_
  refine (ss_goto rfl).trans ?_
  rfl
theorem e_Wp_look (X : pv_X) (v0 : Nat) (v1 : Int32) (h : pv_H) : pM X m_Wp_look [.ref v0, .int v1] h = f_Wp_look_0 X v0 v1 h := rfl
noncomputable def f_Wp_foreseePairs_0 (X : pv_X) (v0 : Nat) (v1 : Int32) (h : pv_H) : Option pv_O := pS X 6 (some .int) k_Wp_foreseePairs 0 [some (.ref v0), some (.int v1), none, none, none, none] [] h
noncomputable def f_Wp_foreseePairs_4 (X : pv_X) (v0 : Nat) (v1 : Int32) (v2 : Int32) (v3 : Int32) (o4 : Option Value) (o5 : Option Value) (h : pv_H) : Option pv_O := pS X 6 (some .int) k_Wp_foreseePairs 4 [some (.ref v0), some (.int v1), some (.int v2), some (.int v3), o4, o5] [] h
noncomputable def f_Wp_foreseePairs_18 (X : pv_X) (v0 : Nat) (v1 : Int32) (v2 : Int32) (v3 : Int32) (v4 : Int32) (o5 : Option Value) (h : pv_H) : Option pv_O := pS X 6 (some .int) k_Wp_foreseePairs 18 [some (.ref v0), some (.int v1), some (.int v2), some (.int v3), some (.int v4), o5] [] h
noncomputable def f_Wp_foreseePairs_76 (X : pv_X) (v0 : Nat) (v1 : Int32) (v2 : Int32) (v3 : Int32) (v4 : Int32) (v5 : Int32) (h : pv_H) : Option pv_O := pS X 6 (some .int) k_Wp_foreseePairs 76 [some (.ref v0), some (.int v1), some (.int v2), some (.int v3), some (.int v4), some (.int v5)] [] h
noncomputable def f_Wp_foreseePairs_124 (X : pv_X) (v0 : Nat) (v1 : Int32) (v2 : Int32) (v3 : Int32) (v4 : Int32) (o5 : Option Value) (h : pv_H) : Option pv_O := pS X 6 (some .int) k_Wp_foreseePairs 124 [some (.ref v0), some (.int v1), some (.int v2), some (.int v3), some (.int v4), o5] [] h
set_option maxRecDepth 8000 in
theorem u_Wp_foreseePairs_0 (X : pv_X) (v0 : Nat) (v1 : Int32) (h : pv_H) : f_Wp_foreseePairs_0 X v0 v1 h =
    f_Wp_foreseePairs_4 X v0 v1 0 0 none none h := by
  show pS X 6 (some .int) k_Wp_foreseePairs 0 [some (.ref v0), some (.int v1), none, none, none, none] [] h = _
  refine (ss_iconst rfl (v := 0) rfl).trans ?_
  refine (ss_istore_n rfl rfl).trans ?_
  refine (ss_iconst rfl (v := 0) rfl).trans ?_
  refine (ss_istore_n rfl rfl).trans ?_
  rfl
set_option maxRecDepth 8000 in
theorem u_Wp_foreseePairs_4 (X : pv_X) (v0 : Nat) (v1 : Int32) (v2 : Int32) (v3 : Int32) (o4 : Option Value) (o5 : Option Value) (h : pv_H) : f_Wp_foreseePairs_4 X v0 v1 v2 v3 o4 o5 h =
    (pv_fR h v0 10 1).bind (fun x1 => (pv_fI h x1 6 6).bind (fun x2 => if x2 ≤ v3 then some (some (.int v2), h) else f_Wp_foreseePairs_18 X v0 v1 v2 v3 0 o5 h)) := by
  show pS X 6 (some .int) k_Wp_foreseePairs 4 [some (.ref v0), some (.int v1), some (.int v2), some (.int v3), o4, o5] [] h = _
  refine (ss_iload_n rfl rfl).trans ?_
  refine (ss_aload_n rfl rfl).trans ?_
  refine (ss_getR rfl).trans ?_
  refine congrArg (Option.bind _) (funext fun x1 => ?_)
  refine (ss_getI rfl).trans ?_
  refine congrArg (Option.bind _) (funext fun x2 => ?_)
  refine (ss_icmp_ge rfl).trans ?_
  refine pv_ite ?_ ?_
  · refine (ss_iload_n rfl rfl).trans ?_
    exact ss_ireturn rfl
  · refine (ss_iconst rfl (v := 0) rfl).trans ?_
    refine (ss_istore rfl rfl).trans ?_
    rfl
set_option maxRecDepth 8000 in
theorem u_Wp_foreseePairs_18 (X : pv_X) (v0 : Nat) (v1 : Int32) (v2 : Int32) (v3 : Int32) (v4 : Int32) (o5 : Option Value) (h : pv_H) : f_Wp_foreseePairs_18 X v0 v1 v2 v3 v4 o5 h =
    (pv_fR h v0 10 1).bind (fun x1 => (pv_fI h x1 6 6).bind (fun x2 => if x2 ≤ v4 then f_Wp_foreseePairs_4 X v0 v1 v2 (v3 + 1) (some (.int v4)) o5 h else if v3 = v4 then f_Wp_foreseePairs_124 X v0 v1 v2 v3 v4 o5 h else if 30 ≤ v2 then f_Wp_foreseePairs_124 X v0 v1 v2 v3 v4 o5 h else if pv_rc h v0 10 = true then (pv_tI (pM X m_Wp_agreesWithSeen [.ref v0, .int v3, .int v4] h)).bind (fun q3 => if q3.1 = 0 then f_Wp_foreseePairs_124 X v0 v1 v2 v3 v4 o5 q3.2 else (pv_fR q3.2 v0 10 6).bind (fun x4 => (pv_fR q3.2 v0 10 5).bind (fun x5 => if pv_rc q3.2 x4 7 = true then (pv_tV (pM X m_St_copy [.ref x4, .ref x5] q3.2)).bind (fun h6 => (pv_fR h6 v0 10 6).bind (fun x7 => if pv_rc h6 x7 7 = true then (pv_tV (pM X m_St_takeTime [.ref x7, .int v3, .int v4] h6)).bind (fun h8 => f_Wp_foreseePairs_76 X v0 v1 v2 v3 v4 0 h8) else none)) else none))) else none)) := by
  show pS X 6 (some .int) k_Wp_foreseePairs 18 [some (.ref v0), some (.int v1), some (.int v2), some (.int v3), some (.int v4), o5] [] h = _
  refine (ss_iload rfl rfl).trans ?_
  refine (ss_aload_n rfl rfl).trans ?_
  refine (ss_getR rfl).trans ?_
  refine congrArg (Option.bind _) (funext fun x1 => ?_)
  refine (ss_getI rfl).trans ?_
  refine congrArg (Option.bind _) (funext fun x2 => ?_)
  refine (ss_icmp_ge rfl).trans ?_
  refine pv_ite ?_ ?_
  · refine (ss_iinc3 rfl rfl (v := v3 + 1) (congrArg (HAdd.hAdd _) (show Int32.ofInt (1) = 1 by decide)) rfl).trans ?_
    refine (ss_goto rfl).trans ?_
    rfl
  · refine (ss_iload_n rfl rfl).trans ?_
    refine (ss_iload rfl rfl).trans ?_
    refine (ss_icmp_eq rfl).trans ?_
    refine pv_ite ?_ ?_
    · rfl
    · refine (ss_iload_n rfl rfl).trans ?_
      refine (ss_bipush rfl (v := 30) rfl).trans ?_
      refine (ss_icmp_ge rfl).trans ?_
      refine pv_ite ?_ ?_
      · rfl
      · refine (ss_aload_n rfl rfl).trans ?_
        refine (ss_iload_n rfl rfl).trans ?_
        refine (ss_iload rfl rfl).trans ?_
        refine (ss_callVI (as := [.int v3, .int v4]) rfl t_Wp_agreesWithSeen (by decide) rfl rfl (by decide) (Or.inr rfl) ⟨Nat.le_of_ble_eq_true rfl, Nat.le_of_ble_eq_true rfl⟩).trans ?_
        refine pv_ite ?_ rfl
        refine congrArg (Option.bind _) (funext fun q3 => ?_)
        refine (ss_if_eq rfl).trans ?_
        refine pv_ite ?_ ?_
        · rfl
        · refine (ss_aload_n rfl rfl).trans ?_
          refine (ss_getR rfl).trans ?_
          refine congrArg (Option.bind _) (funext fun x4 => ?_)
          refine (ss_aload_n rfl rfl).trans ?_
          refine (ss_getR rfl).trans ?_
          refine congrArg (Option.bind _) (funext fun x5 => ?_)
          refine (ss_callVN (as := [.ref x5]) rfl t_St_copy (by decide) rfl rfl (by decide) rfl ⟨Nat.le_of_ble_eq_true rfl, Nat.le_of_ble_eq_true rfl⟩).trans ?_
          refine pv_ite ?_ rfl
          refine congrArg (Option.bind _) (funext fun h6 => ?_)
          refine (ss_aload_n rfl rfl).trans ?_
          refine (ss_getR rfl).trans ?_
          refine congrArg (Option.bind _) (funext fun x7 => ?_)
          refine (ss_iload_n rfl rfl).trans ?_
          refine (ss_iload rfl rfl).trans ?_
          refine (ss_callVN (as := [.int v3, .int v4]) rfl t_St_takeTime (by decide) rfl rfl (by decide) rfl ⟨Nat.le_of_ble_eq_true rfl, Nat.le_of_ble_eq_true rfl⟩).trans ?_
          refine pv_ite ?_ rfl
          refine congrArg (Option.bind _) (funext fun h8 => ?_)
          refine (ss_iconst rfl (v := 0) rfl).trans ?_
          refine (ss_istore rfl rfl).trans ?_
          rfl
set_option maxRecDepth 8000 in
theorem u_Wp_foreseePairs_76 (X : pv_X) (v0 : Nat) (v1 : Int32) (v2 : Int32) (v3 : Int32) (v4 : Int32) (v5 : Int32) (h : pv_H) : f_Wp_foreseePairs_76 X v0 v1 v2 v3 v4 v5 h =
    if 24 < v5 then f_Wp_foreseePairs_124 X v0 v1 (v2 + 1) v3 v4 (some (.int v5)) h else (pv_fR h v0 10 14).bind (fun x1 => (pv_fR h v0 10 6).bind (fun x2 => if pv_rc h x2 7 = true then (pv_tI (pM X m_St_outOf [.ref x2, .int v1] h)).bind (fun q3 => (pv_sI q3.2 x1 ((v5 * 30) + v2) q3.1).bind (fun h4 => (pv_fR h4 v0 10 1).bind (fun x5 => (pv_fR h4 v0 10 6).bind (fun x6 => if pv_rc h4 x5 6 = true then (pv_tI (pM X m_Po_passQuarter [.ref x5, .ref x6] h4)).bind (fun q7 => f_Wp_foreseePairs_76 X v0 v1 v2 v3 v4 (v5 + 1) q7.2) else none)))) else none)) := by
  show pS X 6 (some .int) k_Wp_foreseePairs 76 [some (.ref v0), some (.int v1), some (.int v2), some (.int v3), some (.int v4), some (.int v5)] [] h = _
  refine (ss_iload rfl rfl).trans ?_
  refine (ss_bipush rfl (v := 24) rfl).trans ?_
  refine (ss_icmp_gt rfl).trans ?_
  refine pv_ite ?_ ?_
  · refine (ss_iinc3 rfl rfl (v := v2 + 1) (congrArg (HAdd.hAdd _) (show Int32.ofInt (1) = 1 by decide)) rfl).trans ?_
    rfl
  · refine (ss_aload_n rfl rfl).trans ?_
    refine (ss_getR rfl).trans ?_
    refine congrArg (Option.bind _) (funext fun x1 => ?_)
    refine (ss_iload rfl rfl).trans ?_
    refine (ss_bipush rfl (v := 30) rfl).trans ?_
    refine (ss_imul rfl).trans ?_
    refine (ss_iload_n rfl rfl).trans ?_
    refine (ss_iadd rfl).trans ?_
    refine (ss_aload_n rfl rfl).trans ?_
    refine (ss_getR rfl).trans ?_
    refine congrArg (Option.bind _) (funext fun x2 => ?_)
    refine (ss_iload_n rfl rfl).trans ?_
    refine (ss_callVI (as := [.int v1]) rfl t_St_outOf (by decide) rfl rfl (by simp [Value.category]) (Or.inl rfl) ⟨Nat.le_of_ble_eq_true rfl, Nat.le_of_ble_eq_true rfl⟩).trans ?_
    refine pv_ite ?_ rfl
    refine congrArg (Option.bind _) (funext fun q3 => ?_)
    refine (ss_iastore rfl).trans ?_
    refine congrArg (Option.bind _) (funext fun h4 => ?_)
    refine (ss_aload_n rfl rfl).trans ?_
    refine (ss_getR rfl).trans ?_
    refine congrArg (Option.bind _) (funext fun x5 => ?_)
    refine (ss_aload_n rfl rfl).trans ?_
    refine (ss_getR rfl).trans ?_
    refine congrArg (Option.bind _) (funext fun x6 => ?_)
    refine (ss_callVI (as := [.ref x6]) rfl t_Po_passQuarter (by decide) rfl rfl (by decide) (Or.inl rfl) ⟨Nat.le_of_ble_eq_true rfl, Nat.le_of_ble_eq_true rfl⟩).trans ?_
    refine pv_ite ?_ rfl
    refine congrArg (Option.bind _) (funext fun q7 => ?_)
    refine (ss_popI rfl).trans ?_
    refine (ss_iinc3 rfl rfl (v := v5 + 1) (congrArg (HAdd.hAdd _) (show Int32.ofInt (1) = 1 by decide)) rfl).trans ?_
    refine (ss_goto rfl).trans ?_
    rfl
set_option maxRecDepth 8000 in
theorem u_Wp_foreseePairs_124 (X : pv_X) (v0 : Nat) (v1 : Int32) (v2 : Int32) (v3 : Int32) (v4 : Int32) (o5 : Option Value) (h : pv_H) : f_Wp_foreseePairs_124 X v0 v1 v2 v3 v4 o5 h =
    f_Wp_foreseePairs_18 X v0 v1 v2 v3 (v4 + 1) o5 h := by
  show pS X 6 (some .int) k_Wp_foreseePairs 124 [some (.ref v0), some (.int v1), some (.int v2), some (.int v3), some (.int v4), o5] [] h = _
  refine (ss_iinc3 rfl rfl (v := v4 + 1) (congrArg (HAdd.hAdd _) (show Int32.ofInt (1) = 1 by decide)) rfl).trans ?_
  refine (ss_goto rfl).trans ?_
  rfl
theorem e_Wp_foreseePairs (X : pv_X) (v0 : Nat) (v1 : Int32) (h : pv_H) : pM X m_Wp_foreseePairs [.ref v0, .int v1] h = f_Wp_foreseePairs_0 X v0 v1 h := rfl
noncomputable def f_Wp_tell_0 (X : pv_X) (v0 : Nat) (v1 : Int32) (v2 : Int32) (h : pv_H) : Option pv_O := pS X 3 (some .boolean) k_Wp_tell 0 [some (.ref v0), some (.int v1), some (.int v2)] [] h
noncomputable def f_Wp_tell_17 (X : pv_X) (v0 : Nat) (v1 : Int32) (v2 : Int32) (h : pv_H) : Option pv_O := pS X 3 (some .boolean) k_Wp_tell 17 [some (.ref v0), some (.int v1), some (.int v2)] [] h
set_option maxRecDepth 8000 in
theorem u_Wp_tell_0 (X : pv_X) (v0 : Nat) (v1 : Int32) (v2 : Int32) (h : pv_H) : f_Wp_tell_0 X v0 v1 v2 h =
    (pv_tI (pM X m_Wp_isWithin [.int v1, .int 1, .int 40] h)).bind (fun q1 => if q1.1 = 0 then f_Wp_tell_17 X v0 v1 v2 q1.2 else (pv_tI (pM X m_Wp_isOut [.int v2] q1.2)).bind (fun q2 => if ¬ q2.1 = 0 then (pv_fR q2.2 v0 10 9).bind (fun x3 => if pv_rc q2.2 x3 0 = true then (pv_tI (pM X m_Cl_add [.ref x3, .int (-1), .int v1, .int v2] q2.2)).bind (fun q4 => if q4.1 = 0 ∨ q4.1 = 1 then some (some (.int q4.1), q4.2) else none) else none) else f_Wp_tell_17 X v0 v1 v2 q2.2)) := by
  show pS X 3 (some .boolean) k_Wp_tell 0 [some (.ref v0), some (.int v1), some (.int v2)] [] h = _
  refine (ss_iload_n rfl rfl).trans ?_
  refine (ss_iconst rfl (v := 1) rfl).trans ?_
  refine (ss_bipush rfl (v := 40) rfl).trans ?_
  refine (ss_callSI (as := [.int v1, .int 1, .int 40]) rfl t_Wp_isWithin (by decide) rfl rfl (by decide) (Or.inr rfl) ⟨Nat.le_of_ble_eq_true rfl, Nat.le_of_ble_eq_true rfl⟩).trans ?_
  refine congrArg (Option.bind _) (funext fun q1 => ?_)
  refine (ss_if_eq rfl).trans ?_
  refine pv_ite ?_ ?_
  · rfl
  · refine (ss_iload_n rfl rfl).trans ?_
    refine (ss_callSI (as := [.int v2]) rfl t_Wp_isOut (by decide) rfl rfl (by decide) (Or.inr rfl) ⟨Nat.le_of_ble_eq_true rfl, Nat.le_of_ble_eq_true rfl⟩).trans ?_
    refine congrArg (Option.bind _) (funext fun q2 => ?_)
    refine (ss_if_ne rfl).trans ?_
    refine pv_ite ?_ ?_
    · refine (ss_aload_n rfl rfl).trans ?_
      refine (ss_getR rfl).trans ?_
      refine congrArg (Option.bind _) (funext fun x3 => ?_)
      refine (ss_iconst rfl (v := (-1)) rfl).trans ?_
      refine (ss_iload_n rfl rfl).trans ?_
      refine (ss_iload_n rfl rfl).trans ?_
      refine (ss_callVI (as := [.int (-1), .int v1, .int v2]) rfl t_Cl_add (by decide) rfl rfl (by decide) (Or.inr rfl) ⟨Nat.le_of_ble_eq_true rfl, Nat.le_of_ble_eq_true rfl⟩).trans ?_
      refine pv_ite ?_ rfl
      refine congrArg (Option.bind _) (funext fun q4 => ?_)
      exact ss_zreturn rfl
    · rfl
set_option maxRecDepth 8000 in
theorem u_Wp_tell_17 (X : pv_X) (v0 : Nat) (v1 : Int32) (v2 : Int32) (h : pv_H) : f_Wp_tell_17 X v0 v1 v2 h =
    some (some (.int 0), h) := by
  show pS X 3 (some .boolean) k_Wp_tell 17 [some (.ref v0), some (.int v1), some (.int v2)] [] h = _
  refine (ss_iconst rfl (v := 0) rfl).trans ?_
  exact (ss_zreturn rfl).trans (if_pos (by decide))
theorem e_Wp_tell (X : pv_X) (v0 : Nat) (v1 : Int32) (v2 : Int32) (h : pv_H) : pM X m_Wp_tell [.ref v0, .int v1, .int v2] h = f_Wp_tell_0 X v0 v1 v2 h := rfl
noncomputable def f_Wp_fits_0 (X : pv_X) (v0 : Nat) (v1 : Int32) (h : pv_H) : Option pv_O := pS X 4 (some .int) k_Wp_fits 0 [some (.ref v0), some (.int v1), none, none, none, none] [] h
noncomputable def f_Wp_fits_22 (X : pv_X) (v0 : Nat) (v1 : Int32) (v2 : Int32) (v3 : Int32) (v4 : Int32) (v5 : Int32) (h : pv_H) : Option pv_O := pS X 4 (some .int) k_Wp_fits 22 [some (.ref v0), some (.int v1), some (.int v2), some (.int v3), some (.int v4), some (.int v5)] [] h
noncomputable def f_Wp_fits_53 (X : pv_X) (v0 : Nat) (v1 : Int32) (v2 : Int32) (v3 : Int32) (v4 : Int32) (v5 : Int32) (s0 : Int32) (h : pv_H) : Option pv_O := pS X 4 (some .int) k_Wp_fits 53 [some (.ref v0), some (.int v1), some (.int v2), some (.int v3), some (.int v4), some (.int v5)] [.int s0] h
noncomputable def f_Wp_fits_58 (X : pv_X) (v0 : Nat) (v1 : Int32) (v2 : Int32) (v3 : Int32) (v4 : Int32) (v5 : Int32) (h : pv_H) : Option pv_O := pS X 4 (some .int) k_Wp_fits 58 [some (.ref v0), some (.int v1), some (.int v2), some (.int v3), some (.int v4), some (.int v5)] [] h
noncomputable def f_Wp_fits_81 (X : pv_X) (v0 : Nat) (v1 : Int32) (v2 : Int32) (v3 : Int32) (v4 : Int32) (v5 : Int32) (s0 : Int32) (h : pv_H) : Option pv_O := pS X 4 (some .int) k_Wp_fits 81 [some (.ref v0), some (.int v1), some (.int v2), some (.int v3), some (.int v4), some (.int v5)] [.int s0] h
set_option maxRecDepth 8000 in
theorem u_Wp_fits_0 (X : pv_X) (v0 : Nat) (v1 : Int32) (h : pv_H) : f_Wp_fits_0 X v0 v1 h =
    (pv_tI (pM X m_Wp_isWithin [.int v1, .int 0, .int 2] h)).bind (fun q1 => if ¬ q1.1 = 0 then f_Wp_fits_22 X v0 v1 0 (-1) (-1) 20 q1.2 else some (some (.int (-1)), q1.2)) := by
  show pS X 4 (some .int) k_Wp_fits 0 [some (.ref v0), some (.int v1), none, none, none, none] [] h = _
  refine (ss_iload_n rfl rfl).trans ?_
  refine (ss_iconst rfl (v := 0) rfl).trans ?_
  refine (ss_iconst rfl (v := 2) rfl).trans ?_
  refine (ss_callSI (as := [.int v1, .int 0, .int 2]) rfl t_Wp_isWithin (by decide) rfl rfl (by decide) (Or.inr rfl) ⟨Nat.le_of_ble_eq_true rfl, Nat.le_of_ble_eq_true rfl⟩).trans ?_
  refine congrArg (Option.bind _) (funext fun q1 => ?_)
  refine (ss_if_ne rfl).trans ?_
  refine pv_ite ?_ ?_
  · refine (ss_iconst rfl (v := 0) rfl).trans ?_
    refine (ss_istore_n rfl rfl).trans ?_
    refine (ss_iconst rfl (v := (-1)) rfl).trans ?_
    refine (ss_istore_n rfl rfl).trans ?_
    refine (ss_iconst rfl (v := (-1)) rfl).trans ?_
    refine (ss_istore rfl rfl).trans ?_
    refine (ss_bipush rfl (v := 20) rfl).trans ?_
    refine (ss_istore rfl rfl).trans ?_
    rfl
  · refine (ss_iconst rfl (v := (-1)) rfl).trans ?_
    exact ss_ireturn rfl
set_option maxRecDepth 8000 in
theorem u_Wp_fits_22 (X : pv_X) (v0 : Nat) (v1 : Int32) (v2 : Int32) (v3 : Int32) (v4 : Int32) (v5 : Int32) (h : pv_H) : f_Wp_fits_22 X v0 v1 v2 v3 v4 v5 h =
    if 160 < v5 then if ¬ v1 = 0 then if ¬ v1 = 1 then f_Wp_fits_81 X v0 v1 v2 v3 v4 v5 v4 h else f_Wp_fits_81 X v0 v1 v2 v3 v4 v5 v3 h else some (some (.int v2), h) else if pv_rc h v0 10 = true then (pv_tI (pM X m_Wp_agreesWithTold [.ref v0, .int v5] h)).bind (fun q1 => if q1.1 = 0 then f_Wp_fits_58 X v0 v1 v2 v3 v4 v5 q1.2 else if ¬ v3 = (-1) then f_Wp_fits_53 X v0 v1 (v2 + 1) v3 v4 v5 v3 q1.2 else f_Wp_fits_53 X v0 v1 (v2 + 1) v3 v4 v5 v5 q1.2) else none := by
  show pS X 4 (some .int) k_Wp_fits 22 [some (.ref v0), some (.int v1), some (.int v2), some (.int v3), some (.int v4), some (.int v5)] [] h = _
  refine (ss_iload rfl rfl).trans ?_
  refine (ss_sipush rfl (v := 160) rfl).trans ?_
  refine (ss_icmp_gt rfl).trans ?_
  refine pv_ite ?_ ?_
  · refine (ss_iload_n rfl rfl).trans ?_
    refine (ss_if_ne rfl).trans ?_
    refine pv_ite ?_ ?_
    · refine (ss_iload_n rfl rfl).trans ?_
      refine (ss_iconst rfl (v := 1) rfl).trans ?_
      refine (ss_icmp_ne rfl).trans ?_
      refine pv_ite ?_ ?_
      · refine (ss_iload rfl rfl).trans ?_
        rfl
      · refine (ss_iload_n rfl rfl).trans ?_
        refine (ss_goto rfl).trans ?_
        rfl
    · refine (ss_iload_n rfl rfl).trans ?_
      exact ss_ireturn rfl
  · refine (ss_aload_n rfl rfl).trans ?_
    refine (ss_iload rfl rfl).trans ?_
    refine (ss_callVI (as := [.int v5]) rfl t_Wp_agreesWithTold (by decide) rfl rfl (by decide) (Or.inr rfl) ⟨Nat.le_of_ble_eq_true rfl, Nat.le_of_ble_eq_true rfl⟩).trans ?_
    refine pv_ite ?_ rfl
    refine congrArg (Option.bind _) (funext fun q1 => ?_)
    refine (ss_if_eq rfl).trans ?_
    refine pv_ite ?_ ?_
    · rfl
    · refine (ss_iinc3 rfl rfl (v := v2 + 1) (congrArg (HAdd.hAdd _) (show Int32.ofInt (1) = 1 by decide)) rfl).trans ?_
      refine (ss_iload_n rfl rfl).trans ?_
      refine (ss_iconst rfl (v := (-1)) rfl).trans ?_
      refine (ss_icmp_ne rfl).trans ?_
      refine pv_ite ?_ ?_
      · refine (ss_iload_n rfl rfl).trans ?_
        rfl
      · refine (ss_iload rfl rfl).trans ?_
        refine (ss_goto rfl).trans ?_
        rfl
set_option maxRecDepth 8000 in
theorem u_Wp_fits_53 (X : pv_X) (v0 : Nat) (v1 : Int32) (v2 : Int32) (v3 : Int32) (v4 : Int32) (v5 : Int32) (s0 : Int32) (h : pv_H) : f_Wp_fits_53 X v0 v1 v2 v3 v4 v5 s0 h =
    f_Wp_fits_58 X v0 v1 v2 s0 v5 v5 h := by
  show pS X 4 (some .int) k_Wp_fits 53 [some (.ref v0), some (.int v1), some (.int v2), some (.int v3), some (.int v4), some (.int v5)] [.int s0] h = _
  refine (ss_istore_n rfl rfl).trans ?_
  refine (ss_iload rfl rfl).trans ?_
  refine (ss_istore rfl rfl).trans ?_
  rfl
set_option maxRecDepth 8000 in
theorem u_Wp_fits_58 (X : pv_X) (v0 : Nat) (v1 : Int32) (v2 : Int32) (v3 : Int32) (v4 : Int32) (v5 : Int32) (h : pv_H) : f_Wp_fits_58 X v0 v1 v2 v3 v4 v5 h =
    f_Wp_fits_22 X v0 v1 v2 v3 v4 (v5 + 1) h := by
  show pS X 4 (some .int) k_Wp_fits 58 [some (.ref v0), some (.int v1), some (.int v2), some (.int v3), some (.int v4), some (.int v5)] [] h = _
  refine (ss_iinc3 rfl rfl (v := v5 + 1) (congrArg (HAdd.hAdd _) (show Int32.ofInt (1) = 1 by decide)) rfl).trans ?_
  refine (ss_goto rfl).trans ?_
  rfl
set_option maxRecDepth 8000 in
theorem u_Wp_fits_81 (X : pv_X) (v0 : Nat) (v1 : Int32) (v2 : Int32) (v3 : Int32) (v4 : Int32) (v5 : Int32) (s0 : Int32) (h : pv_H) : f_Wp_fits_81 X v0 v1 v2 v3 v4 v5 s0 h =
    some (some (.int s0), h) := by
  show pS X 4 (some .int) k_Wp_fits 81 [some (.ref v0), some (.int v1), some (.int v2), some (.int v3), some (.int v4), some (.int v5)] [.int s0] h = _
  exact ss_ireturn rfl
theorem e_Wp_fits (X : pv_X) (v0 : Nat) (v1 : Int32) (h : pv_H) : pM X m_Wp_fits [.ref v0, .int v1] h = f_Wp_fits_0 X v0 v1 h := rfl
noncomputable def f_Wp_when_0 (X : pv_X) (v0 : Nat) (h : pv_H) : Option pv_O := pS X 5 (some .int) k_Wp_when 0 [some (.ref v0), none, none, none, none] [] h
noncomputable def f_Wp_when_10 (X : pv_X) (v0 : Nat) (v1 : Int32) (v2 : Int32) (v3 : Int32) (o4 : Option Value) (h : pv_H) : Option pv_O := pS X 5 (some .int) k_Wp_when 10 [some (.ref v0), some (.int v1), some (.int v2), some (.int v3), o4] [] h
noncomputable def f_Wp_when_27 (X : pv_X) (v0 : Nat) (v1 : Int32) (v2 : Int32) (v3 : Int32) (v4 : Int32) (h : pv_H) : Option pv_O := pS X 5 (some .int) k_Wp_when 27 [some (.ref v0), some (.int v1), some (.int v2), some (.int v3), some (.int v4)] [] h
noncomputable def f_Wp_when_57 (X : pv_X) (v0 : Nat) (v1 : Int32) (v2 : Int32) (v3 : Int32) (v4 : Int32) (h : pv_H) : Option pv_O := pS X 5 (some .int) k_Wp_when 57 [some (.ref v0), some (.int v1), some (.int v2), some (.int v3), some (.int v4)] [] h
noncomputable def f_Wp_when_84 (X : pv_X) (v0 : Nat) (v1 : Int32) (v2 : Int32) (v3 : Int32) (v4 : Int32) (h : pv_H) : Option pv_O := pS X 5 (some .int) k_Wp_when 84 [some (.ref v0), some (.int v1), some (.int v2), some (.int v3), some (.int v4)] [] h
set_option maxRecDepth 8000 in
theorem u_Wp_when_0 (X : pv_X) (v0 : Nat) (h : pv_H) : f_Wp_when_0 X v0 h =
    if pv_rc h v0 10 = true then (pv_tI (pM X m_Wp_fits [.ref v0, .int 0] h)).bind (fun q1 => f_Wp_when_10 X v0 (-1) q1.1 1 none q1.2) else none := by
  show pS X 5 (some .int) k_Wp_when 0 [some (.ref v0), none, none, none, none] [] h = _
  refine (ss_iconst rfl (v := (-1)) rfl).trans ?_
  refine (ss_istore_n rfl rfl).trans ?_
  refine (ss_aload_n rfl rfl).trans ?_
  refine (ss_iconst rfl (v := 0) rfl).trans ?_
  refine (ss_callVI (as := [.int 0]) rfl t_Wp_fits (by decide) rfl rfl (by decide) (Or.inl rfl) ⟨Nat.le_of_ble_eq_true rfl, Nat.le_of_ble_eq_true rfl⟩).trans ?_
  refine pv_ite ?_ rfl
  refine congrArg (Option.bind _) (funext fun q1 => ?_)
  refine (ss_istore_n rfl rfl).trans ?_
  refine (ss_iconst rfl (v := 1) rfl).trans ?_
  refine (ss_istore_n rfl rfl).trans ?_
  rfl
set_option maxRecDepth 8000 in
theorem u_Wp_when_10 (X : pv_X) (v0 : Nat) (v1 : Int32) (v2 : Int32) (v3 : Int32) (o4 : Option Value) (h : pv_H) : f_Wp_when_10 X v0 v1 v2 v3 o4 h =
    if 40 < v3 then some (some (.int v1), h) else (pv_fR h v0 10 11).bind (fun x1 => if pv_rc h x1 8 = true then (pv_tV (pM X m_Ta_clear [.ref x1] h)).bind (fun h2 => f_Wp_when_27 X v0 v1 v2 v3 20 h2) else none) := by
  show pS X 5 (some .int) k_Wp_when 10 [some (.ref v0), some (.int v1), some (.int v2), some (.int v3), o4] [] h = _
  refine (ss_iload_n rfl rfl).trans ?_
  refine (ss_bipush rfl (v := 40) rfl).trans ?_
  refine (ss_icmp_gt rfl).trans ?_
  refine pv_ite ?_ ?_
  · refine (ss_iload_n rfl rfl).trans ?_
    exact ss_ireturn rfl
  · refine (ss_aload_n rfl rfl).trans ?_
    refine (ss_getR rfl).trans ?_
    refine congrArg (Option.bind _) (funext fun x1 => ?_)
    refine (ss_callVN (as := []) rfl t_Ta_clear (by decide) rfl rfl (by decide) rfl ⟨Nat.le_of_ble_eq_true rfl, Nat.le_of_ble_eq_true rfl⟩).trans ?_
    refine pv_ite ?_ rfl
    refine congrArg (Option.bind _) (funext fun h2 => ?_)
    refine (ss_bipush rfl (v := 20) rfl).trans ?_
    refine (ss_istore rfl rfl).trans ?_
    rfl
set_option maxRecDepth 8000 in
theorem u_Wp_when_27 (X : pv_X) (v0 : Nat) (v1 : Int32) (v2 : Int32) (v3 : Int32) (v4 : Int32) (h : pv_H) : f_Wp_when_27 X v0 v1 v2 v3 v4 h =
    if 160 < v4 then (pv_fR h v0 10 11).bind (fun x1 => (pv_fI h x1 8 1).bind (fun x2 => if v2 ≤ x2 then f_Wp_when_84 X v0 v1 v2 v3 v4 h else (pv_fR h v0 10 11).bind (fun x3 => (pv_fI h x3 8 1).bind (fun x4 => f_Wp_when_84 X v0 v3 x4 v3 v4 h)))) else if pv_rc h v0 10 = true then (pv_tI (pM X m_Wp_agreesWithTold [.ref v0, .int v4] h)).bind (fun q5 => if q5.1 = 0 then f_Wp_when_57 X v0 v1 v2 v3 v4 q5.2 else (pv_fR q5.2 v0 10 11).bind (fun x6 => (pv_tI (pM X m_Wp_plainOut [.int v4, .int v3] q5.2)).bind (fun q7 => if pv_rc q7.2 x6 8 = true then (pv_tV (pM X m_Ta_add [.ref x6, .int q7.1] q7.2)).bind (fun h8 => f_Wp_when_57 X v0 v1 v2 v3 v4 h8) else none))) else none := by
  show pS X 5 (some .int) k_Wp_when 27 [some (.ref v0), some (.int v1), some (.int v2), some (.int v3), some (.int v4)] [] h = _
  refine (ss_iload rfl rfl).trans ?_
  refine (ss_sipush rfl (v := 160) rfl).trans ?_
  refine (ss_icmp_gt rfl).trans ?_
  refine pv_ite ?_ ?_
  · refine (ss_aload_n rfl rfl).trans ?_
    refine (ss_getR rfl).trans ?_
    refine congrArg (Option.bind _) (funext fun x1 => ?_)
    refine (ss_getI rfl).trans ?_
    refine congrArg (Option.bind _) (funext fun x2 => ?_)
    refine (ss_iload_n rfl rfl).trans ?_
    refine (ss_icmp_ge rfl).trans ?_
    refine pv_ite ?_ ?_
    · rfl
    · refine (ss_aload_n rfl rfl).trans ?_
      refine (ss_getR rfl).trans ?_
      refine congrArg (Option.bind _) (funext fun x3 => ?_)
      refine (ss_getI rfl).trans ?_
      refine congrArg (Option.bind _) (funext fun x4 => ?_)
      refine (ss_istore_n rfl rfl).trans ?_
      refine (ss_iload_n rfl rfl).trans ?_
      refine (ss_istore_n rfl rfl).trans ?_
      rfl
  · refine (ss_aload_n rfl rfl).trans ?_
    refine (ss_iload rfl rfl).trans ?_
    refine (ss_callVI (as := [.int v4]) rfl t_Wp_agreesWithTold (by decide) rfl rfl (by decide) (Or.inr rfl) ⟨Nat.le_of_ble_eq_true rfl, Nat.le_of_ble_eq_true rfl⟩).trans ?_
    refine pv_ite ?_ rfl
    refine congrArg (Option.bind _) (funext fun q5 => ?_)
    refine (ss_if_eq rfl).trans ?_
    refine pv_ite ?_ ?_
    · rfl
    · refine (ss_aload_n rfl rfl).trans ?_
      refine (ss_getR rfl).trans ?_
      refine congrArg (Option.bind _) (funext fun x6 => ?_)
      refine (ss_iload rfl rfl).trans ?_
      refine (ss_iload_n rfl rfl).trans ?_
      refine (ss_callSI (as := [.int v4, .int v3]) rfl t_Wp_plainOut (by decide) rfl rfl (by simp [Value.category]) (Or.inl rfl) ⟨Nat.le_of_ble_eq_true rfl, Nat.le_of_ble_eq_true rfl⟩).trans ?_
      refine congrArg (Option.bind _) (funext fun q7 => ?_)
      refine (ss_callVN (as := [.int q7.1]) rfl t_Ta_add (by decide) rfl rfl (by decide) rfl ⟨Nat.le_of_ble_eq_true rfl, Nat.le_of_ble_eq_true rfl⟩).trans ?_
      refine pv_ite ?_ rfl
      refine congrArg (Option.bind _) (funext fun h8 => ?_)
      rfl
set_option maxRecDepth 8000 in
theorem u_Wp_when_57 (X : pv_X) (v0 : Nat) (v1 : Int32) (v2 : Int32) (v3 : Int32) (v4 : Int32) (h : pv_H) : f_Wp_when_57 X v0 v1 v2 v3 v4 h =
    f_Wp_when_27 X v0 v1 v2 v3 (v4 + 1) h := by
  show pS X 5 (some .int) k_Wp_when 57 [some (.ref v0), some (.int v1), some (.int v2), some (.int v3), some (.int v4)] [] h = _
  refine (ss_iinc3 rfl rfl (v := v4 + 1) (congrArg (HAdd.hAdd _) (show Int32.ofInt (1) = 1 by decide)) rfl).trans ?_
  refine (ss_goto rfl).trans ?_
  rfl
set_option maxRecDepth 8000 in
theorem u_Wp_when_84 (X : pv_X) (v0 : Nat) (v1 : Int32) (v2 : Int32) (v3 : Int32) (v4 : Int32) (h : pv_H) : f_Wp_when_84 X v0 v1 v2 v3 v4 h =
    f_Wp_when_10 X v0 v1 v2 (v3 + 1) (some (.int v4)) h := by
  show pS X 5 (some .int) k_Wp_when 84 [some (.ref v0), some (.int v1), some (.int v2), some (.int v3), some (.int v4)] [] h = _
  refine (ss_iinc3 rfl rfl (v := v3 + 1) (congrArg (HAdd.hAdd _) (show Int32.ofInt (1) = 1 by decide)) rfl).trans ?_
  refine (ss_goto rfl).trans ?_
  rfl
theorem e_Wp_when (X : pv_X) (v0 : Nat) (h : pv_H) : pM X m_Wp_when [.ref v0] h = f_Wp_when_0 X v0 h := rfl
noncomputable def f_Wp_agreesWithTold_0 (X : pv_X) (v0 : Nat) (v1 : Int32) (h : pv_H) : Option pv_O := pS X 3 (some .boolean) k_Wp_agreesWithTold 0 [some (.ref v0), some (.int v1), none] [] h
noncomputable def f_Wp_agreesWithTold_2 (X : pv_X) (v0 : Nat) (v1 : Int32) (v2 : Int32) (h : pv_H) : Option pv_O := pS X 3 (some .boolean) k_Wp_agreesWithTold 2 [some (.ref v0), some (.int v1), some (.int v2)] [] h
set_option maxRecDepth 8000 in
theorem u_Wp_agreesWithTold_0 (X : pv_X) (v0 : Nat) (v1 : Int32) (h : pv_H) : f_Wp_agreesWithTold_0 X v0 v1 h =
    f_Wp_agreesWithTold_2 X v0 v1 0 h := by
  show pS X 3 (some .boolean) k_Wp_agreesWithTold 0 [some (.ref v0), some (.int v1), none] [] h = _
  refine (ss_iconst rfl (v := 0) rfl).trans ?_
  refine (ss_istore_n rfl rfl).trans ?_
  rfl
set_option maxRecDepth 8000 in
theorem u_Wp_agreesWithTold_2 (X : pv_X) (v0 : Nat) (v1 : Int32) (v2 : Int32) (h : pv_H) : f_Wp_agreesWithTold_2 X v0 v1 v2 h =
    (pv_fR h v0 10 9).bind (fun x1 => (pv_fI h x1 0 3).bind (fun x2 => if x2 ≤ v2 then some (some (.int 1), h) else (pv_fR h v0 10 9).bind (fun x3 => (pv_fR h x3 0 1).bind (fun x4 => (pv_aX X h x4 v2).bind (fun x5 => (pv_tI (pM X m_Wp_plainOut [.int v1, .int x5] h)).bind (fun q6 => (pv_fR q6.2 v0 10 9).bind (fun x7 => (pv_fR q6.2 x7 0 2).bind (fun x8 => (pv_aX X q6.2 x8 v2).bind (fun x9 => if q6.1 = x9 then f_Wp_agreesWithTold_2 X v0 v1 (v2 + 1) q6.2 else some (some (.int 0), q6.2)))))))))) := by
  show pS X 3 (some .boolean) k_Wp_agreesWithTold 2 [some (.ref v0), some (.int v1), some (.int v2)] [] h = _
  refine (ss_iload_n rfl rfl).trans ?_
  refine (ss_aload_n rfl rfl).trans ?_
  refine (ss_getR rfl).trans ?_
  refine congrArg (Option.bind _) (funext fun x1 => ?_)
  refine (ss_getI rfl).trans ?_
  refine congrArg (Option.bind _) (funext fun x2 => ?_)
  refine (ss_icmp_ge rfl).trans ?_
  refine pv_ite ?_ ?_
  · refine (ss_iconst rfl (v := 1) rfl).trans ?_
    exact (ss_zreturn rfl).trans (if_pos (by decide))
  · refine (ss_iload_n rfl rfl).trans ?_
    refine (ss_aload_n rfl rfl).trans ?_
    refine (ss_getR rfl).trans ?_
    refine congrArg (Option.bind _) (funext fun x3 => ?_)
    refine (ss_getR rfl).trans ?_
    refine congrArg (Option.bind _) (funext fun x4 => ?_)
    refine (ss_iload_n rfl rfl).trans ?_
    refine (ss_iaload rfl).trans ?_
    refine congrArg (Option.bind _) (funext fun x5 => ?_)
    refine (ss_callSI (as := [.int v1, .int x5]) rfl t_Wp_plainOut (by decide) rfl rfl (by decide) (Or.inl rfl) ⟨Nat.le_of_ble_eq_true rfl, Nat.le_of_ble_eq_true rfl⟩).trans ?_
    refine congrArg (Option.bind _) (funext fun q6 => ?_)
    refine (ss_aload_n rfl rfl).trans ?_
    refine (ss_getR rfl).trans ?_
    refine congrArg (Option.bind _) (funext fun x7 => ?_)
    refine (ss_getR rfl).trans ?_
    refine congrArg (Option.bind _) (funext fun x8 => ?_)
    refine (ss_iload_n rfl rfl).trans ?_
    refine (ss_iaload rfl).trans ?_
    refine congrArg (Option.bind _) (funext fun x9 => ?_)
    refine (ss_icmp_eq rfl).trans ?_
    refine pv_ite ?_ ?_
    · refine (ss_iinc3 rfl rfl (v := v2 + 1) (congrArg (HAdd.hAdd _) (show Int32.ofInt (1) = 1 by decide)) rfl).trans ?_
      refine (ss_goto rfl).trans ?_
      rfl
    · refine (ss_iconst rfl (v := 0) rfl).trans ?_
      exact (ss_zreturn rfl).trans (if_pos (by decide))
theorem e_Wp_agreesWithTold (X : pv_X) (v0 : Nat) (v1 : Int32) (h : pv_H) : pM X m_Wp_agreesWithTold [.ref v0, .int v1] h = f_Wp_agreesWithTold_0 X v0 v1 h := rfl
noncomputable def f_Wp_plainOut_0 (X : pv_X) (v0 : Int32) (v1 : Int32) (h : pv_H) : Option pv_O := pS X 2 (some .int) k_Wp_plainOut 0 [some (.int v0), some (.int v1), none] [] h
set_option maxRecDepth 8000 in
theorem u_Wp_plainOut_0 (X : pv_X) (v0 : Int32) (v1 : Int32) (h : pv_H) : f_Wp_plainOut_0 X v0 v1 h =
    (pv_tI (pM X m_Ma_floorMod [.int ((((v0 / 4) - 15) * v1) - (-360)), .int 720] h)).bind (fun q1 => some (some (.int (q1.1 + (-360))), q1.2)) := by
  show pS X 2 (some .int) k_Wp_plainOut 0 [some (.int v0), some (.int v1), none] [] h = _
  refine (ss_iload_n rfl rfl).trans ?_
  refine (ss_iconst rfl (v := 4) rfl).trans ?_
  refine (ss_idiv rfl (by decide)).trans ?_
  refine (ss_bipush rfl (v := 15) rfl).trans ?_
  refine (ss_isub rfl).trans ?_
  refine (ss_iload_n rfl rfl).trans ?_
  refine (ss_imul rfl).trans ?_
  refine (ss_istore_n rfl rfl).trans ?_
  refine (ss_iload_n rfl rfl).trans ?_
  refine (ss_sipush rfl (v := (-360)) rfl).trans ?_
  refine (ss_isub rfl).trans ?_
  refine (ss_sipush rfl (v := 720) rfl).trans ?_
  refine (ss_callSI (as := [.int ((((v0 / 4) - 15) * v1) - (-360)), .int 720]) rfl t_Ma_floorMod (by decide) rfl rfl (by decide) (Or.inl rfl) ⟨Nat.le_of_ble_eq_true rfl, Nat.le_of_ble_eq_true rfl⟩).trans ?_
  refine congrArg (Option.bind _) (funext fun q1 => ?_)
  refine (ss_sipush rfl (v := (-360)) rfl).trans ?_
  refine (ss_iadd rfl).trans ?_
  exact ss_ireturn rfl
theorem e_Wp_plainOut (X : pv_X) (v0 : Int32) (v1 : Int32) (h : pv_H) : pM X m_Wp_plainOut [.int v0, .int v1] h = f_Wp_plainOut_0 X v0 v1 h := rfl
noncomputable def f_Wp_comes_0 (X : pv_X) (v0 : Nat) (v1 : Int32) (h : pv_H) : Option pv_O := pS X 2 (some .int) k_Wp_comes 0 [some (.ref v0), some (.int v1), none, none] [] h
noncomputable def f_Wp_comes_14 (X : pv_X) (v0 : Nat) (v1 : Int32) (v2 : Int32) (v3 : Int32) (h : pv_H) : Option pv_O := pS X 2 (some .int) k_Wp_comes 14 [some (.ref v0), some (.int v1), some (.int v2), some (.int v3)] [] h
noncomputable def f_Wp_comes_43 (X : pv_X) (v0 : Nat) (v1 : Int32) (v2 : Int32) (v3 : Int32) (h : pv_H) : Option pv_O := pS X 2 (some .int) k_Wp_comes 43 [some (.ref v0), some (.int v1), some (.int v2), some (.int v3)] [] h
set_option maxRecDepth 8000 in
theorem u_Wp_comes_0 (X : pv_X) (v0 : Nat) (v1 : Int32) (h : pv_H) : f_Wp_comes_0 X v0 v1 h =
    if pv_rc h v0 10 = true then (pv_tI (pM X m_Wp_isPerson [.ref v0, .int v1] h)).bind (fun q1 => if ¬ q1.1 = 0 then f_Wp_comes_14 X v0 v1 0 0 q1.2 else some (some (.int (-1)), q1.2)) else none := by
  show pS X 2 (some .int) k_Wp_comes 0 [some (.ref v0), some (.int v1), none, none] [] h = _
  refine (ss_aload_n rfl rfl).trans ?_
  refine (ss_iload_n rfl rfl).trans ?_
  refine (ss_callVI (as := [.int v1]) rfl t_Wp_isPerson (by decide) rfl rfl (by decide) (Or.inr rfl) ⟨Nat.le_of_ble_eq_true rfl, Nat.le_of_ble_eq_true rfl⟩).trans ?_
  refine pv_ite ?_ rfl
  refine congrArg (Option.bind _) (funext fun q1 => ?_)
  refine (ss_if_ne rfl).trans ?_
  refine pv_ite ?_ ?_
  · refine (ss_iconst rfl (v := 0) rfl).trans ?_
    refine (ss_istore_n rfl rfl).trans ?_
    refine (ss_iconst rfl (v := 0) rfl).trans ?_
    refine (ss_istore_n rfl rfl).trans ?_
    rfl
  · refine (ss_iconst rfl (v := (-1)) rfl).trans ?_
    exact ss_ireturn rfl
set_option maxRecDepth 8000 in
theorem u_Wp_comes_14 (X : pv_X) (v0 : Nat) (v1 : Int32) (v2 : Int32) (v3 : Int32) (h : pv_H) : f_Wp_comes_14 X v0 v1 v2 v3 h =
    (pv_fR h v0 10 1).bind (fun x1 => (pv_fI h x1 6 6).bind (fun x2 => if x2 ≤ v3 then some (some (.int v2), h) else (pv_fR h v0 10 1).bind (fun x3 => if pv_rc h x3 6 = true then (pv_tI (pM X m_Po_asksThrough [.ref x3, .int v3, .int v1] h)).bind (fun q4 => if q4.1 = 0 then f_Wp_comes_43 X v0 v1 v2 v3 q4.2 else f_Wp_comes_43 X v0 v1 (v2 ||| ((1 : Int32) <<< (v3 &&& 31))) v3 q4.2) else none))) := by
  show pS X 2 (some .int) k_Wp_comes 14 [some (.ref v0), some (.int v1), some (.int v2), some (.int v3)] [] h = _
  refine (ss_iload_n rfl rfl).trans ?_
  refine (ss_aload_n rfl rfl).trans ?_
  refine (ss_getR rfl).trans ?_
  refine congrArg (Option.bind _) (funext fun x1 => ?_)
  refine (ss_getI rfl).trans ?_
  refine congrArg (Option.bind _) (funext fun x2 => ?_)
  refine (ss_icmp_ge rfl).trans ?_
  refine pv_ite ?_ ?_
  · refine (ss_iload_n rfl rfl).trans ?_
    exact ss_ireturn rfl
  · refine (ss_aload_n rfl rfl).trans ?_
    refine (ss_getR rfl).trans ?_
    refine congrArg (Option.bind _) (funext fun x3 => ?_)
    refine (ss_iload_n rfl rfl).trans ?_
    refine (ss_iload_n rfl rfl).trans ?_
    refine (ss_callVI (as := [.int v3, .int v1]) rfl t_Po_asksThrough (by decide) rfl rfl (by decide) (Or.inr rfl) ⟨Nat.le_of_ble_eq_true rfl, Nat.le_of_ble_eq_true rfl⟩).trans ?_
    refine pv_ite ?_ rfl
    refine congrArg (Option.bind _) (funext fun q4 => ?_)
    refine (ss_if_eq rfl).trans ?_
    refine pv_ite ?_ ?_
    · rfl
    · refine (ss_iload_n rfl rfl).trans ?_
      refine (ss_iconst rfl (v := 1) rfl).trans ?_
      refine (ss_iload_n rfl rfl).trans ?_
      refine (ss_ishl rfl).trans ?_
      refine (ss_ior rfl).trans ?_
      refine (ss_istore_n rfl rfl).trans ?_
      rfl
set_option maxRecDepth 8000 in
theorem u_Wp_comes_43 (X : pv_X) (v0 : Nat) (v1 : Int32) (v2 : Int32) (v3 : Int32) (h : pv_H) : f_Wp_comes_43 X v0 v1 v2 v3 h =
    f_Wp_comes_14 X v0 v1 v2 (v3 + 1) h := by
  show pS X 2 (some .int) k_Wp_comes 43 [some (.ref v0), some (.int v1), some (.int v2), some (.int v3)] [] h = _
  refine (ss_iinc3 rfl rfl (v := v3 + 1) (congrArg (HAdd.hAdd _) (show Int32.ofInt (1) = 1 by decide)) rfl).trans ?_
  refine (ss_goto rfl).trans ?_
  rfl
theorem e_Wp_comes (X : pv_X) (v0 : Nat) (v1 : Int32) (h : pv_H) : pM X m_Wp_comes [.ref v0, .int v1] h = f_Wp_comes_0 X v0 v1 h := rfl
noncomputable def f_Wp_rings_0 (X : pv_X) (v0 : Nat) (h : pv_H) : Option pv_O := pS X 2 (some .int) k_Wp_rings 0 [some (.ref v0), none, none] [] h
noncomputable def f_Wp_rings_4 (X : pv_X) (v0 : Nat) (v1 : Int32) (v2 : Int32) (h : pv_H) : Option pv_O := pS X 2 (some .int) k_Wp_rings 4 [some (.ref v0), some (.int v1), some (.int v2)] [] h
noncomputable def f_Wp_rings_33 (X : pv_X) (v0 : Nat) (v1 : Int32) (v2 : Int32) (h : pv_H) : Option pv_O := pS X 2 (some .int) k_Wp_rings 33 [some (.ref v0), some (.int v1), some (.int v2)] [] h
set_option maxRecDepth 8000 in
theorem u_Wp_rings_0 (X : pv_X) (v0 : Nat) (h : pv_H) : f_Wp_rings_0 X v0 h =
    f_Wp_rings_4 X v0 0 0 h := by
  show pS X 2 (some .int) k_Wp_rings 0 [some (.ref v0), none, none] [] h = _
  refine (ss_iconst rfl (v := 0) rfl).trans ?_
  refine (ss_istore_n rfl rfl).trans ?_
  refine (ss_iconst rfl (v := 0) rfl).trans ?_
  refine (ss_istore_n rfl rfl).trans ?_
  rfl
set_option maxRecDepth 8000 in
theorem u_Wp_rings_4 (X : pv_X) (v0 : Nat) (v1 : Int32) (v2 : Int32) (h : pv_H) : f_Wp_rings_4 X v0 v1 v2 h =
    (pv_fR h v0 10 1).bind (fun x1 => (pv_fI h x1 6 6).bind (fun x2 => if x2 ≤ v2 then some (some (.int v1), h) else (pv_fR h v0 10 1).bind (fun x3 => if pv_rc h x3 6 = true then (pv_tI (pM X m_Po_asksThrough [.ref x3, .int v2, .int v2] h)).bind (fun q4 => if q4.1 = 0 then f_Wp_rings_33 X v0 v1 v2 q4.2 else f_Wp_rings_33 X v0 (v1 ||| ((1 : Int32) <<< (v2 &&& 31))) v2 q4.2) else none))) := by
  show pS X 2 (some .int) k_Wp_rings 4 [some (.ref v0), some (.int v1), some (.int v2)] [] h = _
  refine (ss_iload_n rfl rfl).trans ?_
  refine (ss_aload_n rfl rfl).trans ?_
  refine (ss_getR rfl).trans ?_
  refine congrArg (Option.bind _) (funext fun x1 => ?_)
  refine (ss_getI rfl).trans ?_
  refine congrArg (Option.bind _) (funext fun x2 => ?_)
  refine (ss_icmp_ge rfl).trans ?_
  refine pv_ite ?_ ?_
  · refine (ss_iload_n rfl rfl).trans ?_
    exact ss_ireturn rfl
  · refine (ss_aload_n rfl rfl).trans ?_
    refine (ss_getR rfl).trans ?_
    refine congrArg (Option.bind _) (funext fun x3 => ?_)
    refine (ss_iload_n rfl rfl).trans ?_
    refine (ss_iload_n rfl rfl).trans ?_
    refine (ss_callVI (as := [.int v2, .int v2]) rfl t_Po_asksThrough (by decide) rfl rfl (by decide) (Or.inr rfl) ⟨Nat.le_of_ble_eq_true rfl, Nat.le_of_ble_eq_true rfl⟩).trans ?_
    refine pv_ite ?_ rfl
    refine congrArg (Option.bind _) (funext fun q4 => ?_)
    refine (ss_if_eq rfl).trans ?_
    refine pv_ite ?_ ?_
    · rfl
    · refine (ss_iload_n rfl rfl).trans ?_
      refine (ss_iconst rfl (v := 1) rfl).trans ?_
      refine (ss_iload_n rfl rfl).trans ?_
      refine (ss_ishl rfl).trans ?_
      refine (ss_ior rfl).trans ?_
      refine (ss_istore_n rfl rfl).trans ?_
      rfl
set_option maxRecDepth 8000 in
theorem u_Wp_rings_33 (X : pv_X) (v0 : Nat) (v1 : Int32) (v2 : Int32) (h : pv_H) : f_Wp_rings_33 X v0 v1 v2 h =
    f_Wp_rings_4 X v0 v1 (v2 + 1) h := by
  show pS X 2 (some .int) k_Wp_rings 33 [some (.ref v0), some (.int v1), some (.int v2)] [] h = _
  refine (ss_iinc3 rfl rfl (v := v2 + 1) (congrArg (HAdd.hAdd _) (show Int32.ofInt (1) = 1 by decide)) rfl).trans ?_
  refine (ss_goto rfl).trans ?_
  rfl
theorem e_Wp_rings (X : pv_X) (v0 : Nat) (h : pv_H) : pM X m_Wp_rings [.ref v0] h = f_Wp_rings_0 X v0 h := rfl
noncomputable def f_Wp_calm_0 (X : pv_X) (v0 : Nat) (h : pv_H) : Option pv_O := pS X 1 (some .int) k_Wp_calm 0 [some (.ref v0), none, none] [] h
noncomputable def f_Wp_calm_4 (X : pv_X) (v0 : Nat) (v1 : Int32) (v2 : Int32) (h : pv_H) : Option pv_O := pS X 1 (some .int) k_Wp_calm 4 [some (.ref v0), some (.int v1), some (.int v2)] [] h
noncomputable def f_Wp_calm_41 (X : pv_X) (v0 : Nat) (v1 : Int32) (v2 : Int32) (h : pv_H) : Option pv_O := pS X 1 (some .int) k_Wp_calm 41 [some (.ref v0), some (.int v1), some (.int v2)] [] h
noncomputable def f_Wp_calm_43 (X : pv_X) (v0 : Nat) (v1 : Int32) (v2 : Int32) (h : pv_H) : Option pv_O := pS X 1 (some .int) k_Wp_calm 43 [some (.ref v0), some (.int v1), some (.int v2)] [] h
set_option maxRecDepth 8000 in
theorem u_Wp_calm_0 (X : pv_X) (v0 : Nat) (h : pv_H) : f_Wp_calm_0 X v0 h =
    f_Wp_calm_4 X v0 (-1) 0 h := by
  show pS X 1 (some .int) k_Wp_calm 0 [some (.ref v0), none, none] [] h = _
  refine (ss_iconst rfl (v := (-1)) rfl).trans ?_
  refine (ss_istore_n rfl rfl).trans ?_
  refine (ss_iconst rfl (v := 0) rfl).trans ?_
  refine (ss_istore_n rfl rfl).trans ?_
  rfl
set_option maxRecDepth 8000 in
theorem u_Wp_calm_4 (X : pv_X) (v0 : Nat) (v1 : Int32) (v2 : Int32) (h : pv_H) : f_Wp_calm_4 X v0 v1 v2 h =
    (pv_fR h v0 10 1).bind (fun x1 => (pv_fI h x1 6 6).bind (fun x2 => if x2 ≤ v2 then some (some (.int v1), h) else if v1 = (-1) then f_Wp_calm_41 X v0 v1 v2 h else (pv_fR h v0 10 5).bind (fun x3 => (pv_fR h x3 7 1).bind (fun x4 => (pv_aX X h x4 v2).bind (fun x5 => (pv_fR h v0 10 5).bind (fun x6 => (pv_fR h x6 7 1).bind (fun x7 => (pv_aX X h x7 v1).bind (fun x8 => if x8 ≤ x5 then f_Wp_calm_43 X v0 v1 v2 h else f_Wp_calm_41 X v0 v1 v2 h)))))))) := by
  show pS X 1 (some .int) k_Wp_calm 4 [some (.ref v0), some (.int v1), some (.int v2)] [] h = _
  refine (ss_iload_n rfl rfl).trans ?_
  refine (ss_aload_n rfl rfl).trans ?_
  refine (ss_getR rfl).trans ?_
  refine congrArg (Option.bind _) (funext fun x1 => ?_)
  refine (ss_getI rfl).trans ?_
  refine congrArg (Option.bind _) (funext fun x2 => ?_)
  refine (ss_icmp_ge rfl).trans ?_
  refine pv_ite ?_ ?_
  · refine (ss_iload_n rfl rfl).trans ?_
    exact ss_ireturn rfl
  · refine (ss_iload_n rfl rfl).trans ?_
    refine (ss_iconst rfl (v := (-1)) rfl).trans ?_
    refine (ss_icmp_eq rfl).trans ?_
    refine pv_ite ?_ ?_
    · rfl
    · refine (ss_aload_n rfl rfl).trans ?_
      refine (ss_getR rfl).trans ?_
      refine congrArg (Option.bind _) (funext fun x3 => ?_)
      refine (ss_getR rfl).trans ?_
      refine congrArg (Option.bind _) (funext fun x4 => ?_)
      refine (ss_iload_n rfl rfl).trans ?_
      refine (ss_iaload rfl).trans ?_
      refine congrArg (Option.bind _) (funext fun x5 => ?_)
      refine (ss_aload_n rfl rfl).trans ?_
      refine (ss_getR rfl).trans ?_
      refine congrArg (Option.bind _) (funext fun x6 => ?_)
      refine (ss_getR rfl).trans ?_
      refine congrArg (Option.bind _) (funext fun x7 => ?_)
      refine (ss_iload_n rfl rfl).trans ?_
      refine (ss_iaload rfl).trans ?_
      refine congrArg (Option.bind _) (funext fun x8 => ?_)
      refine (ss_icmp_ge rfl).trans ?_
      refine pv_ite ?_ ?_
      · rfl
      · rfl
set_option maxRecDepth 8000 in
theorem u_Wp_calm_41 (X : pv_X) (v0 : Nat) (v1 : Int32) (v2 : Int32) (h : pv_H) : f_Wp_calm_41 X v0 v1 v2 h =
    f_Wp_calm_43 X v0 v2 v2 h := by
  show pS X 1 (some .int) k_Wp_calm 41 [some (.ref v0), some (.int v1), some (.int v2)] [] h = _
  refine (ss_iload_n rfl rfl).trans ?_
  refine (ss_istore_n rfl rfl).trans ?_
  rfl
set_option maxRecDepth 8000 in
theorem u_Wp_calm_43 (X : pv_X) (v0 : Nat) (v1 : Int32) (v2 : Int32) (h : pv_H) : f_Wp_calm_43 X v0 v1 v2 h =
    f_Wp_calm_4 X v0 v1 (v2 + 1) h := by
  show pS X 1 (some .int) k_Wp_calm 43 [some (.ref v0), some (.int v1), some (.int v2)] [] h = _
  refine (ss_iinc3 rfl rfl (v := v2 + 1) (congrArg (HAdd.hAdd _) (show Int32.ofInt (1) = 1 by decide)) rfl).trans ?_
  refine (ss_goto rfl).trans ?_
  rfl
theorem e_Wp_calm (X : pv_X) (v0 : Nat) (h : pv_H) : pM X m_Wp_calm [.ref v0] h = f_Wp_calm_0 X v0 h := rfl
noncomputable def f_Wp_drift_0 (X : pv_X) (v0 : Nat) (v1 : Int32) (v2 : Int32) (h : pv_H) : Option pv_O := pS X 7 (some .int) k_Wp_drift 0 [some (.ref v0), some (.int v1), some (.int v2)] [] h
noncomputable def f_Wp_drift_18 (X : pv_X) (v0 : Nat) (v1 : Int32) (v2 : Int32) (h : pv_H) : Option pv_O := pS X 7 (some .int) k_Wp_drift 18 [some (.ref v0), some (.int v1), some (.int v2)] [] h
set_option maxRecDepth 8000 in
theorem u_Wp_drift_0 (X : pv_X) (v0 : Nat) (v1 : Int32) (v2 : Int32) (h : pv_H) : f_Wp_drift_0 X v0 v1 v2 h =
    if pv_rc h v0 10 = true then (pv_tI (pM X m_Wp_isPerson [.ref v0, .int v1] h)).bind (fun q1 => if q1.1 = 0 then f_Wp_drift_18 X v0 v1 v2 q1.2 else (pv_tI (pM X m_Wp_isWithin [.int v2, .int 1, .int 96] q1.2)).bind (fun q2 => if ¬ q2.1 = 0 then if pv_rc q2.2 v0 10 = true then (pv_tI (pM X m_Wp_outLater [.ref v0, .int v1, .int v2] q2.2)).bind (fun q3 => (pv_tI (pM X m_Ma_abs [.int q3.1] q3.2)).bind (fun q4 => (pv_fR q4.2 v0 10 5).bind (fun x5 => (pv_tI (pM X m_Wp_farOf [.ref x5, .int v1] q4.2)).bind (fun q6 => some (some (.int (q4.1 - q6.1)), q6.2))))) else none else f_Wp_drift_18 X v0 v1 v2 q2.2)) else none := by
  show pS X 7 (some .int) k_Wp_drift 0 [some (.ref v0), some (.int v1), some (.int v2)] [] h = _
  refine (ss_aload_n rfl rfl).trans ?_
  refine (ss_iload_n rfl rfl).trans ?_
  refine (ss_callVI (as := [.int v1]) rfl t_Wp_isPerson (by decide) rfl rfl (by decide) (Or.inr rfl) ⟨Nat.le_of_ble_eq_true rfl, Nat.le_of_ble_eq_true rfl⟩).trans ?_
  refine pv_ite ?_ rfl
  refine congrArg (Option.bind _) (funext fun q1 => ?_)
  refine (ss_if_eq rfl).trans ?_
  refine pv_ite ?_ ?_
  · rfl
  · refine (ss_iload_n rfl rfl).trans ?_
    refine (ss_iconst rfl (v := 1) rfl).trans ?_
    refine (ss_bipush rfl (v := 96) rfl).trans ?_
    refine (ss_callSI (as := [.int v2, .int 1, .int 96]) rfl t_Wp_isWithin (by decide) rfl rfl (by decide) (Or.inr rfl) ⟨Nat.le_of_ble_eq_true rfl, Nat.le_of_ble_eq_true rfl⟩).trans ?_
    refine congrArg (Option.bind _) (funext fun q2 => ?_)
    refine (ss_if_ne rfl).trans ?_
    refine pv_ite ?_ ?_
    · refine (ss_aload_n rfl rfl).trans ?_
      refine (ss_iload_n rfl rfl).trans ?_
      refine (ss_iload_n rfl rfl).trans ?_
      refine (ss_callVI (as := [.int v1, .int v2]) rfl t_Wp_outLater (by decide) rfl rfl (by decide) (Or.inl rfl) ⟨Nat.le_of_ble_eq_true rfl, Nat.le_of_ble_eq_true rfl⟩).trans ?_
      refine pv_ite ?_ rfl
      refine congrArg (Option.bind _) (funext fun q3 => ?_)
      refine (ss_callSI (as := [.int q3.1]) rfl t_Ma_abs (by decide) rfl rfl (by decide) (Or.inl rfl) ⟨Nat.le_of_ble_eq_true rfl, Nat.le_of_ble_eq_true rfl⟩).trans ?_
      refine congrArg (Option.bind _) (funext fun q4 => ?_)
      refine (ss_aload_n rfl rfl).trans ?_
      refine (ss_getR rfl).trans ?_
      refine congrArg (Option.bind _) (funext fun x5 => ?_)
      refine (ss_iload_n rfl rfl).trans ?_
      refine (ss_callSI (as := [.ref x5, .int v1]) rfl t_Wp_farOf (by decide) rfl rfl (by simp [Value.category]) (Or.inl rfl) ⟨Nat.le_of_ble_eq_true rfl, Nat.le_of_ble_eq_true rfl⟩).trans ?_
      refine congrArg (Option.bind _) (funext fun q6 => ?_)
      refine (ss_isub rfl).trans ?_
      exact ss_ireturn rfl
    · rfl
set_option maxRecDepth 8000 in
theorem u_Wp_drift_18 (X : pv_X) (v0 : Nat) (v1 : Int32) (v2 : Int32) (h : pv_H) : f_Wp_drift_18 X v0 v1 v2 h =
    some (some (.int (-1000)), h) := by
  show pS X 7 (some .int) k_Wp_drift 18 [some (.ref v0), some (.int v1), some (.int v2)] [] h = _
  refine (ss_sipush rfl (v := (-1000)) rfl).trans ?_
  exact ss_ireturn rfl
theorem e_Wp_drift (X : pv_X) (v0 : Nat) (v1 : Int32) (v2 : Int32) (h : pv_H) : pM X m_Wp_drift [.ref v0, .int v1, .int v2] h = f_Wp_drift_0 X v0 v1 v2 h := rfl
noncomputable def f_Wp_near_0 (X : pv_X) (v0 : Nat) (v1 : Int32) (h : pv_H) : Option pv_O := pS X 3 (some .int) k_Wp_near 0 [some (.ref v0), some (.int v1), none, none, none] [] h
noncomputable def f_Wp_near_16 (X : pv_X) (v0 : Nat) (v1 : Int32) (v2 : Int32) (v3 : Int32) (o4 : Option Value) (h : pv_H) : Option pv_O := pS X 3 (some .int) k_Wp_near 16 [some (.ref v0), some (.int v1), some (.int v2), some (.int v3), o4] [] h
noncomputable def f_Wp_near_30 (X : pv_X) (v0 : Nat) (v1 : Int32) (v2 : Int32) (v3 : Int32) (v4 : Int32) (h : pv_H) : Option pv_O := pS X 3 (some .int) k_Wp_near 30 [some (.ref v0), some (.int v1), some (.int v2), some (.int v3), some (.int v4)] [] h
noncomputable def f_Wp_near_64 (X : pv_X) (v0 : Nat) (v1 : Int32) (v2 : Int32) (v3 : Int32) (v4 : Int32) (h : pv_H) : Option pv_O := pS X 3 (some .int) k_Wp_near 64 [some (.ref v0), some (.int v1), some (.int v2), some (.int v3), some (.int v4)] [] h
set_option maxRecDepth 8000 in
theorem u_Wp_near_0 (X : pv_X) (v0 : Nat) (v1 : Int32) (h : pv_H) : f_Wp_near_0 X v0 v1 h =
    (pv_tI (pM X m_Wp_isWithin [.int v1, .int 0, .int 60] h)).bind (fun q1 => if ¬ q1.1 = 0 then f_Wp_near_16 X v0 v1 0 0 none q1.2 else some (some (.int (-1)), q1.2)) := by
  show pS X 3 (some .int) k_Wp_near 0 [some (.ref v0), some (.int v1), none, none, none] [] h = _
  refine (ss_iload_n rfl rfl).trans ?_
  refine (ss_iconst rfl (v := 0) rfl).trans ?_
  refine (ss_bipush rfl (v := 60) rfl).trans ?_
  refine (ss_callSI (as := [.int v1, .int 0, .int 60]) rfl t_Wp_isWithin (by decide) rfl rfl (by decide) (Or.inr rfl) ⟨Nat.le_of_ble_eq_true rfl, Nat.le_of_ble_eq_true rfl⟩).trans ?_
  refine congrArg (Option.bind _) (funext fun q1 => ?_)
  refine (ss_if_ne rfl).trans ?_
  refine pv_ite ?_ ?_
  · refine (ss_iconst rfl (v := 0) rfl).trans ?_
    refine (ss_istore_n rfl rfl).trans ?_
    refine (ss_iconst rfl (v := 0) rfl).trans ?_
    refine (ss_istore_n rfl rfl).trans ?_
    rfl
  · refine (ss_iconst rfl (v := (-1)) rfl).trans ?_
    exact ss_ireturn rfl
set_option maxRecDepth 8000 in
theorem u_Wp_near_16 (X : pv_X) (v0 : Nat) (v1 : Int32) (v2 : Int32) (v3 : Int32) (o4 : Option Value) (h : pv_H) : f_Wp_near_16 X v0 v1 v2 v3 o4 h =
    (pv_fR h v0 10 1).bind (fun x1 => (pv_fI h x1 6 6).bind (fun x2 => if x2 ≤ v3 then some (some (.int v2), h) else f_Wp_near_30 X v0 v1 v2 v3 0 h)) := by
  show pS X 3 (some .int) k_Wp_near 16 [some (.ref v0), some (.int v1), some (.int v2), some (.int v3), o4] [] h = _
  refine (ss_iload_n rfl rfl).trans ?_
  refine (ss_aload_n rfl rfl).trans ?_
  refine (ss_getR rfl).trans ?_
  refine congrArg (Option.bind _) (funext fun x1 => ?_)
  refine (ss_getI rfl).trans ?_
  refine congrArg (Option.bind _) (funext fun x2 => ?_)
  refine (ss_icmp_ge rfl).trans ?_
  refine pv_ite ?_ ?_
  · refine (ss_iload_n rfl rfl).trans ?_
    exact ss_ireturn rfl
  · refine (ss_iconst rfl (v := 0) rfl).trans ?_
    refine (ss_istore rfl rfl).trans ?_
    rfl
set_option maxRecDepth 8000 in
theorem u_Wp_near_30 (X : pv_X) (v0 : Nat) (v1 : Int32) (v2 : Int32) (v3 : Int32) (v4 : Int32) (h : pv_H) : f_Wp_near_30 X v0 v1 v2 v3 v4 h =
    if v3 ≤ v4 then f_Wp_near_16 X v0 v1 v2 (v3 + 1) (some (.int v4)) h else (pv_fR h v0 10 5).bind (fun x1 => if pv_rc h x1 7 = true then (pv_tI (pM X m_St_outOf [.ref x1, .int v3] h)).bind (fun q2 => (pv_fR q2.2 v0 10 5).bind (fun x3 => if pv_rc q2.2 x3 7 = true then (pv_tI (pM X m_St_outOf [.ref x3, .int v4] q2.2)).bind (fun q4 => (pv_tI (pM X m_Ma_abs [.int (q2.1 - q4.1)] q4.2)).bind (fun q5 => if v1 < q5.1 then f_Wp_near_64 X v0 v1 v2 v3 v4 q5.2 else f_Wp_near_64 X v0 v1 (v2 + 1) v3 v4 q5.2)) else none)) else none) := by
  show pS X 3 (some .int) k_Wp_near 30 [some (.ref v0), some (.int v1), some (.int v2), some (.int v3), some (.int v4)] [] h = _
  refine (ss_iload rfl rfl).trans ?_
  refine (ss_iload_n rfl rfl).trans ?_
  refine (ss_icmp_ge rfl).trans ?_
  refine pv_ite ?_ ?_
  · refine (ss_iinc3 rfl rfl (v := v3 + 1) (congrArg (HAdd.hAdd _) (show Int32.ofInt (1) = 1 by decide)) rfl).trans ?_
    refine (ss_goto rfl).trans ?_
    rfl
  · refine (ss_aload_n rfl rfl).trans ?_
    refine (ss_getR rfl).trans ?_
    refine congrArg (Option.bind _) (funext fun x1 => ?_)
    refine (ss_iload_n rfl rfl).trans ?_
    refine (ss_callVI (as := [.int v3]) rfl t_St_outOf (by decide) rfl rfl (by decide) (Or.inl rfl) ⟨Nat.le_of_ble_eq_true rfl, Nat.le_of_ble_eq_true rfl⟩).trans ?_
    refine pv_ite ?_ rfl
    refine congrArg (Option.bind _) (funext fun q2 => ?_)
    refine (ss_aload_n rfl rfl).trans ?_
    refine (ss_getR rfl).trans ?_
    refine congrArg (Option.bind _) (funext fun x3 => ?_)
    refine (ss_iload rfl rfl).trans ?_
    refine (ss_callVI (as := [.int v4]) rfl t_St_outOf (by decide) rfl rfl (by simp [Value.category]) (Or.inl rfl) ⟨Nat.le_of_ble_eq_true rfl, Nat.le_of_ble_eq_true rfl⟩).trans ?_
    refine pv_ite ?_ rfl
    refine congrArg (Option.bind _) (funext fun q4 => ?_)
    refine (ss_isub rfl).trans ?_
    refine (ss_callSI (as := [.int (q2.1 - q4.1)]) rfl t_Ma_abs (by decide) rfl rfl (by decide) (Or.inl rfl) ⟨Nat.le_of_ble_eq_true rfl, Nat.le_of_ble_eq_true rfl⟩).trans ?_
    refine congrArg (Option.bind _) (funext fun q5 => ?_)
    refine (ss_iload_n rfl rfl).trans ?_
    refine (ss_icmp_gt rfl).trans ?_
    refine pv_ite ?_ ?_
    · rfl
    · refine (ss_iinc3 rfl rfl (v := v2 + 1) (congrArg (HAdd.hAdd _) (show Int32.ofInt (1) = 1 by decide)) rfl).trans ?_
      rfl
set_option maxRecDepth 8000 in
theorem u_Wp_near_64 (X : pv_X) (v0 : Nat) (v1 : Int32) (v2 : Int32) (v3 : Int32) (v4 : Int32) (h : pv_H) : f_Wp_near_64 X v0 v1 v2 v3 v4 h =
    f_Wp_near_30 X v0 v1 v2 v3 (v4 + 1) h := by
  show pS X 3 (some .int) k_Wp_near 64 [some (.ref v0), some (.int v1), some (.int v2), some (.int v3), some (.int v4)] [] h = _
  refine (ss_iinc3 rfl rfl (v := v4 + 1) (congrArg (HAdd.hAdd _) (show Int32.ofInt (1) = 1 by decide)) rfl).trans ?_
  refine (ss_goto rfl).trans ?_
  rfl
theorem e_Wp_near (X : pv_X) (v0 : Nat) (v1 : Int32) (h : pv_H) : pM X m_Wp_near [.ref v0, .int v1] h = f_Wp_near_0 X v0 v1 h := rfl
noncomputable def f_Wp_spread_0 (X : pv_X) (v0 : Nat) (h : pv_H) : Option pv_O := pS X 4 (some .int) k_Wp_spread 0 [some (.ref v0)] [] h
set_option maxRecDepth 8000 in
theorem u_Wp_spread_0 (X : pv_X) (v0 : Nat) (h : pv_H) : f_Wp_spread_0 X v0 h =
    (pv_fR h v0 10 5).bind (fun x1 => if pv_rc h v0 10 = true then (pv_tI (pM X m_Wp_everybody [.ref v0] h)).bind (fun q2 => if pv_rc q2.2 v0 10 = true then (pv_tI (pM X m_Wp_spreadOf [.ref v0, .ref x1, .int q2.1] q2.2)).bind (fun q3 => some (some (.int q3.1), q3.2)) else none) else none) := by
  show pS X 4 (some .int) k_Wp_spread 0 [some (.ref v0)] [] h = _
  refine (ss_aload_n rfl rfl).trans ?_
  refine (ss_aload_n rfl rfl).trans ?_
  refine (ss_getR rfl).trans ?_
  refine congrArg (Option.bind _) (funext fun x1 => ?_)
  refine (ss_aload_n rfl rfl).trans ?_
  refine (ss_callVI (as := []) rfl t_Wp_everybody (by decide) rfl rfl (by simp [Value.category]) (Or.inl rfl) ⟨Nat.le_of_ble_eq_true rfl, Nat.le_of_ble_eq_true rfl⟩).trans ?_
  refine pv_ite ?_ rfl
  refine congrArg (Option.bind _) (funext fun q2 => ?_)
  refine (ss_callVI (as := [.ref x1, .int q2.1]) rfl t_Wp_spreadOf (by decide) rfl rfl (by decide) (Or.inl rfl) ⟨Nat.le_of_ble_eq_true rfl, Nat.le_of_ble_eq_true rfl⟩).trans ?_
  refine pv_ite ?_ rfl
  refine congrArg (Option.bind _) (funext fun q3 => ?_)
  exact ss_ireturn rfl
theorem e_Wp_spread (X : pv_X) (v0 : Nat) (h : pv_H) : pM X m_Wp_spread [.ref v0] h = f_Wp_spread_0 X v0 h := rfl
noncomputable def f_Wp_right_0 (X : pv_X) (v0 : Nat) (v1 : Int32) (h : pv_H) : Option pv_O := pS X 5 (some .int) k_Wp_right 0 [some (.ref v0), some (.int v1), none] [] h
noncomputable def f_Wp_right_23 (X : pv_X) (v0 : Nat) (v1 : Int32) (v2 : Int32) (h : pv_H) : Option pv_O := pS X 5 (some .int) k_Wp_right 23 [some (.ref v0), some (.int v1), some (.int v2)] [] h
set_option maxRecDepth 8000 in
theorem u_Wp_right_0 (X : pv_X) (v0 : Nat) (v1 : Int32) (h : pv_H) : f_Wp_right_0 X v0 v1 h =
    if pv_rc h v0 10 = true then (pv_tI (pM X m_Wp_isPerson [.ref v0, .int v1] h)).bind (fun q1 => if ¬ q1.1 = 0 then (pv_fR q1.2 v0 10 6).bind (fun x2 => (pv_fR q1.2 v0 10 5).bind (fun x3 => if pv_rc q1.2 x2 7 = true then (pv_tV (pM X m_St_copy [.ref x2, .ref x3] q1.2)).bind (fun h4 => f_Wp_right_23 X v0 v1 0 h4) else none)) else some (some (.int (-1)), q1.2)) else none := by
  show pS X 5 (some .int) k_Wp_right 0 [some (.ref v0), some (.int v1), none] [] h = _
  refine (ss_aload_n rfl rfl).trans ?_
  refine (ss_iload_n rfl rfl).trans ?_
  refine (ss_callVI (as := [.int v1]) rfl t_Wp_isPerson (by decide) rfl rfl (by decide) (Or.inr rfl) ⟨Nat.le_of_ble_eq_true rfl, Nat.le_of_ble_eq_true rfl⟩).trans ?_
  refine pv_ite ?_ rfl
  refine congrArg (Option.bind _) (funext fun q1 => ?_)
  refine (ss_if_ne rfl).trans ?_
  refine pv_ite ?_ ?_
  · refine (ss_aload_n rfl rfl).trans ?_
    refine (ss_getR rfl).trans ?_
    refine congrArg (Option.bind _) (funext fun x2 => ?_)
    refine (ss_aload_n rfl rfl).trans ?_
    refine (ss_getR rfl).trans ?_
    refine congrArg (Option.bind _) (funext fun x3 => ?_)
    refine (ss_callVN (as := [.ref x3]) rfl t_St_copy (by decide) rfl rfl (by decide) rfl ⟨Nat.le_of_ble_eq_true rfl, Nat.le_of_ble_eq_true rfl⟩).trans ?_
    refine pv_ite ?_ rfl
    refine congrArg (Option.bind _) (funext fun h4 => ?_)
    refine (ss_iconst rfl (v := 0) rfl).trans ?_
    refine (ss_istore_n rfl rfl).trans ?_
    rfl
  · refine (ss_iconst rfl (v := (-1)) rfl).trans ?_
    exact ss_ireturn rfl
set_option maxRecDepth 8000 in
theorem u_Wp_right_23 (X : pv_X) (v0 : Nat) (v1 : Int32) (v2 : Int32) (h : pv_H) : f_Wp_right_23 X v0 v1 v2 h =
    if 96 < v2 then some (some (.int (-1)), h) else (pv_fR h v0 10 6).bind (fun x1 => if pv_rc h x1 7 = true then (pv_tI (pM X m_St_outOf [.ref x1, .int v1] h)).bind (fun q2 => if ¬ q2.1 = 0 then (pv_fR q2.2 v0 10 1).bind (fun x3 => (pv_fR q2.2 v0 10 6).bind (fun x4 => if pv_rc q2.2 x3 6 = true then (pv_tI (pM X m_Po_passQuarter [.ref x3, .ref x4] q2.2)).bind (fun q5 => f_Wp_right_23 X v0 v1 (v2 + 1) q5.2) else none)) else some (some (.int v2), q2.2)) else none) := by
  show pS X 5 (some .int) k_Wp_right 23 [some (.ref v0), some (.int v1), some (.int v2)] [] h = _
  refine (ss_iload_n rfl rfl).trans ?_
  refine (ss_bipush rfl (v := 96) rfl).trans ?_
  refine (ss_icmp_gt rfl).trans ?_
  refine pv_ite ?_ ?_
  · refine (ss_iconst rfl (v := (-1)) rfl).trans ?_
    exact ss_ireturn rfl
  · refine (ss_aload_n rfl rfl).trans ?_
    refine (ss_getR rfl).trans ?_
    refine congrArg (Option.bind _) (funext fun x1 => ?_)
    refine (ss_iload_n rfl rfl).trans ?_
    refine (ss_callVI (as := [.int v1]) rfl t_St_outOf (by decide) rfl rfl (by decide) (Or.inl rfl) ⟨Nat.le_of_ble_eq_true rfl, Nat.le_of_ble_eq_true rfl⟩).trans ?_
    refine pv_ite ?_ rfl
    refine congrArg (Option.bind _) (funext fun q2 => ?_)
    refine (ss_if_ne rfl).trans ?_
    refine pv_ite ?_ ?_
    · refine (ss_aload_n rfl rfl).trans ?_
      refine (ss_getR rfl).trans ?_
      refine congrArg (Option.bind _) (funext fun x3 => ?_)
      refine (ss_aload_n rfl rfl).trans ?_
      refine (ss_getR rfl).trans ?_
      refine congrArg (Option.bind _) (funext fun x4 => ?_)
      refine (ss_callVI (as := [.ref x4]) rfl t_Po_passQuarter (by decide) rfl rfl (by decide) (Or.inl rfl) ⟨Nat.le_of_ble_eq_true rfl, Nat.le_of_ble_eq_true rfl⟩).trans ?_
      refine pv_ite ?_ rfl
      refine congrArg (Option.bind _) (funext fun q5 => ?_)
      refine (ss_popI rfl).trans ?_
      refine (ss_iinc3 rfl rfl (v := v2 + 1) (congrArg (HAdd.hAdd _) (show Int32.ofInt (1) = 1 by decide)) rfl).trans ?_
      refine (ss_goto rfl).trans ?_
      rfl
    · refine (ss_iload_n rfl rfl).trans ?_
      exact ss_ireturn rfl
theorem e_Wp_right (X : pv_X) (v0 : Nat) (v1 : Int32) (h : pv_H) : pM X m_Wp_right [.ref v0, .int v1] h = f_Wp_right_0 X v0 v1 h := rfl
noncomputable def f_Wp_steady_0 (X : pv_X) (v0 : Nat) (h : pv_H) : Option pv_O := pS X 5 (some .int) k_Wp_steady 0 [some (.ref v0), none, none, none, none] [] h
noncomputable def f_Wp_steady_29 (X : pv_X) (v0 : Nat) (v1 : Int32) (v2 : Int32) (v3 : Int32) (o4 : Option Value) (h : pv_H) : Option pv_O := pS X 5 (some .int) k_Wp_steady 29 [some (.ref v0), some (.int v1), some (.int v2), some (.int v3), o4] [] h
noncomputable def f_Wp_steady_73 (X : pv_X) (v0 : Nat) (v1 : Int32) (v2 : Int32) (v3 : Int32) (v4 : Int32) (h : pv_H) : Option pv_O := pS X 5 (some .int) k_Wp_steady 73 [some (.ref v0), some (.int v1), some (.int v2), some (.int v3), some (.int v4)] [] h
noncomputable def f_Wp_steady_78 (X : pv_X) (v0 : Nat) (v1 : Int32) (v2 : Int32) (v3 : Int32) (v4 : Int32) (h : pv_H) : Option pv_O := pS X 5 (some .int) k_Wp_steady 78 [some (.ref v0), some (.int v1), some (.int v2), some (.int v3), some (.int v4)] [] h
set_option maxRecDepth 8000 in
theorem u_Wp_steady_0 (X : pv_X) (v0 : Nat) (h : pv_H) : f_Wp_steady_0 X v0 h =
    (pv_fR h v0 10 6).bind (fun x1 => (pv_fR h v0 10 5).bind (fun x2 => if pv_rc h x1 7 = true then (pv_tV (pM X m_St_copy [.ref x1, .ref x2] h)).bind (fun h3 => (pv_fR h3 v0 10 1).bind (fun x4 => (pv_fR h3 v0 10 6).bind (fun x5 => if pv_rc h3 x4 6 = true then (pv_tI (pM X m_Po_passQuarter [.ref x4, .ref x5] h3)).bind (fun q6 => f_Wp_steady_29 X v0 (-1) 0 0 none q6.2) else none))) else none)) := by
  show pS X 5 (some .int) k_Wp_steady 0 [some (.ref v0), none, none, none, none] [] h = _
  refine (ss_aload_n rfl rfl).trans ?_
  refine (ss_getR rfl).trans ?_
  refine congrArg (Option.bind _) (funext fun x1 => ?_)
  refine (ss_aload_n rfl rfl).trans ?_
  refine (ss_getR rfl).trans ?_
  refine congrArg (Option.bind _) (funext fun x2 => ?_)
  refine (ss_callVN (as := [.ref x2]) rfl t_St_copy (by decide) rfl rfl (by decide) rfl ⟨Nat.le_of_ble_eq_true rfl, Nat.le_of_ble_eq_true rfl⟩).trans ?_
  refine pv_ite ?_ rfl
  refine congrArg (Option.bind _) (funext fun h3 => ?_)
  refine (ss_aload_n rfl rfl).trans ?_
  refine (ss_getR rfl).trans ?_
  refine congrArg (Option.bind _) (funext fun x4 => ?_)
  refine (ss_aload_n rfl rfl).trans ?_
  refine (ss_getR rfl).trans ?_
  refine congrArg (Option.bind _) (funext fun x5 => ?_)
  refine (ss_callVI (as := [.ref x5]) rfl t_Po_passQuarter (by decide) rfl rfl (by decide) (Or.inl rfl) ⟨Nat.le_of_ble_eq_true rfl, Nat.le_of_ble_eq_true rfl⟩).trans ?_
  refine pv_ite ?_ rfl
  refine congrArg (Option.bind _) (funext fun q6 => ?_)
  refine (ss_popI rfl).trans ?_
  refine (ss_iconst rfl (v := (-1)) rfl).trans ?_
  refine (ss_istore_n rfl rfl).trans ?_
  refine (ss_iconst rfl (v := 0) rfl).trans ?_
  refine (ss_istore_n rfl rfl).trans ?_
  refine (ss_iconst rfl (v := 0) rfl).trans ?_
  refine (ss_istore_n rfl rfl).trans ?_
  rfl
set_option maxRecDepth 8000 in
theorem u_Wp_steady_29 (X : pv_X) (v0 : Nat) (v1 : Int32) (v2 : Int32) (v3 : Int32) (o4 : Option Value) (h : pv_H) : f_Wp_steady_29 X v0 v1 v2 v3 o4 h =
    (pv_fR h v0 10 1).bind (fun x1 => (pv_fI h x1 6 6).bind (fun x2 => if x2 ≤ v3 then some (some (.int v1), h) else (pv_fR h v0 10 6).bind (fun x3 => if pv_rc h x3 7 = true then (pv_tI (pM X m_St_outOf [.ref x3, .int v3] h)).bind (fun q4 => (pv_fR q4.2 v0 10 5).bind (fun x5 => if pv_rc q4.2 x5 7 = true then (pv_tI (pM X m_St_outOf [.ref x5, .int v3] q4.2)).bind (fun q6 => (pv_tI (pM X m_Ma_abs [.int (q4.1 - q6.1)] q6.2)).bind (fun q7 => if v1 = (-1) then f_Wp_steady_73 X v0 v1 v2 v3 q7.1 q7.2 else if v2 ≤ q7.1 then f_Wp_steady_78 X v0 v1 v2 v3 q7.1 q7.2 else f_Wp_steady_73 X v0 v1 v2 v3 q7.1 q7.2)) else none)) else none))) := by
  show pS X 5 (some .int) k_Wp_steady 29 [some (.ref v0), some (.int v1), some (.int v2), some (.int v3), o4] [] h = _
  refine (ss_iload_n rfl rfl).trans ?_
  refine (ss_aload_n rfl rfl).trans ?_
  refine (ss_getR rfl).trans ?_
  refine congrArg (Option.bind _) (funext fun x1 => ?_)
  refine (ss_getI rfl).trans ?_
  refine congrArg (Option.bind _) (funext fun x2 => ?_)
  refine (ss_icmp_ge rfl).trans ?_
  refine pv_ite ?_ ?_
  · refine (ss_iload_n rfl rfl).trans ?_
    exact ss_ireturn rfl
  · refine (ss_aload_n rfl rfl).trans ?_
    refine (ss_getR rfl).trans ?_
    refine congrArg (Option.bind _) (funext fun x3 => ?_)
    refine (ss_iload_n rfl rfl).trans ?_
    refine (ss_callVI (as := [.int v3]) rfl t_St_outOf (by decide) rfl rfl (by decide) (Or.inl rfl) ⟨Nat.le_of_ble_eq_true rfl, Nat.le_of_ble_eq_true rfl⟩).trans ?_
    refine pv_ite ?_ rfl
    refine congrArg (Option.bind _) (funext fun q4 => ?_)
    refine (ss_aload_n rfl rfl).trans ?_
    refine (ss_getR rfl).trans ?_
    refine congrArg (Option.bind _) (funext fun x5 => ?_)
    refine (ss_iload_n rfl rfl).trans ?_
    refine (ss_callVI (as := [.int v3]) rfl t_St_outOf (by decide) rfl rfl (by simp [Value.category]) (Or.inl rfl) ⟨Nat.le_of_ble_eq_true rfl, Nat.le_of_ble_eq_true rfl⟩).trans ?_
    refine pv_ite ?_ rfl
    refine congrArg (Option.bind _) (funext fun q6 => ?_)
    refine (ss_isub rfl).trans ?_
    refine (ss_callSI (as := [.int (q4.1 - q6.1)]) rfl t_Ma_abs (by decide) rfl rfl (by decide) (Or.inl rfl) ⟨Nat.le_of_ble_eq_true rfl, Nat.le_of_ble_eq_true rfl⟩).trans ?_
    refine congrArg (Option.bind _) (funext fun q7 => ?_)
    refine (ss_istore rfl rfl).trans ?_
    refine (ss_iload_n rfl rfl).trans ?_
    refine (ss_iconst rfl (v := (-1)) rfl).trans ?_
    refine (ss_icmp_eq rfl).trans ?_
    refine pv_ite ?_ ?_
    · rfl
    · refine (ss_iload rfl rfl).trans ?_
      refine (ss_iload_n rfl rfl).trans ?_
      refine (ss_icmp_ge rfl).trans ?_
      refine pv_ite ?_ ?_
      · rfl
      · rfl
set_option maxRecDepth 8000 in
theorem u_Wp_steady_73 (X : pv_X) (v0 : Nat) (v1 : Int32) (v2 : Int32) (v3 : Int32) (v4 : Int32) (h : pv_H) : f_Wp_steady_73 X v0 v1 v2 v3 v4 h =
    f_Wp_steady_78 X v0 v3 v4 v3 v4 h := by
  show pS X 5 (some .int) k_Wp_steady 73 [some (.ref v0), some (.int v1), some (.int v2), some (.int v3), some (.int v4)] [] h = _
  refine (ss_iload_n rfl rfl).trans ?_
  refine (ss_istore_n rfl rfl).trans ?_
  refine (ss_iload rfl rfl).trans ?_
  refine (ss_istore_n rfl rfl).trans ?_
  rfl
set_option maxRecDepth 8000 in
theorem u_Wp_steady_78 (X : pv_X) (v0 : Nat) (v1 : Int32) (v2 : Int32) (v3 : Int32) (v4 : Int32) (h : pv_H) : f_Wp_steady_78 X v0 v1 v2 v3 v4 h =
    f_Wp_steady_29 X v0 v1 v2 (v3 + 1) (some (.int v4)) h := by
  show pS X 5 (some .int) k_Wp_steady 78 [some (.ref v0), some (.int v1), some (.int v2), some (.int v3), some (.int v4)] [] h = _
  refine (ss_iinc3 rfl rfl (v := v3 + 1) (congrArg (HAdd.hAdd _) (show Int32.ofInt (1) = 1 by decide)) rfl).trans ?_
  refine (ss_goto rfl).trans ?_
  rfl
theorem e_Wp_steady (X : pv_X) (v0 : Nat) (h : pv_H) : pM X m_Wp_steady [.ref v0] h = f_Wp_steady_0 X v0 h := rfl
noncomputable def f_Wp_passes_0 (X : pv_X) (v0 : Nat) (v1 : Int32) (v2 : Int32) (v3 : Int32) (h : pv_H) : Option pv_O := pS X 5 (some .int) k_Wp_passes 0 [some (.ref v0), some (.int v1), some (.int v2), some (.int v3), none, none, none, none] [] h
noncomputable def f_Wp_passes_19 (X : pv_X) (v0 : Nat) (v1 : Int32) (v2 : Int32) (v3 : Int32) (h : pv_H) : Option pv_O := pS X 5 (some .int) k_Wp_passes 19 [some (.ref v0), some (.int v1), some (.int v2), some (.int v3), none, none, none, none] [] h
noncomputable def f_Wp_passes_59 (X : pv_X) (v0 : Nat) (v1 : Int32) (v2 : Int32) (v3 : Int32) (v4 : Int32) (v5 : Int32) (v6 : Int32) (o7 : Option Value) (h : pv_H) : Option pv_O := pS X 5 (some .int) k_Wp_passes 59 [some (.ref v0), some (.int v1), some (.int v2), some (.int v3), some (.int v4), some (.int v5), some (.int v6), o7] [] h
noncomputable def f_Wp_passes_108 (X : pv_X) (v0 : Nat) (v1 : Int32) (v2 : Int32) (v3 : Int32) (v4 : Int32) (v5 : Int32) (v6 : Int32) (v7 : Int32) (h : pv_H) : Option pv_O := pS X 5 (some .int) k_Wp_passes 108 [some (.ref v0), some (.int v1), some (.int v2), some (.int v3), some (.int v4), some (.int v5), some (.int v6), some (.int v7)] [] h
set_option maxRecDepth 8000 in
theorem u_Wp_passes_0 (X : pv_X) (v0 : Nat) (v1 : Int32) (v2 : Int32) (v3 : Int32) (h : pv_H) : f_Wp_passes_0 X v0 v1 v2 v3 h =
    if pv_rc h v0 10 = true then (pv_tI (pM X m_Wp_areTwo [.ref v0, .int v1, .int v2] h)).bind (fun q1 => if q1.1 = 0 then f_Wp_passes_19 X v0 v1 v2 v3 q1.2 else (pv_tI (pM X m_Wp_isWithin [.int v3, .int 1, .int 96] q1.2)).bind (fun q2 => if ¬ q2.1 = 0 then (pv_fR q2.2 v0 10 6).bind (fun x3 => (pv_fR q2.2 v0 10 5).bind (fun x4 => if pv_rc q2.2 x3 7 = true then (pv_tV (pM X m_St_copy [.ref x3, .ref x4] q2.2)).bind (fun h5 => (pv_fR h5 v0 10 6).bind (fun x6 => if pv_rc h5 x6 7 = true then (pv_tI (pM X m_St_outOf [.ref x6, .int v1] h5)).bind (fun q7 => (pv_fR q7.2 v0 10 6).bind (fun x8 => if pv_rc q7.2 x8 7 = true then (pv_tI (pM X m_St_outOf [.ref x8, .int v2] q7.2)).bind (fun q9 => (pv_tI (pM X m_In_compare [.int q7.1, .int q9.1] q9.2)).bind (fun q10 => f_Wp_passes_59 X v0 v1 v2 v3 0 q10.1 0 none q10.2)) else none)) else none)) else none)) else f_Wp_passes_19 X v0 v1 v2 v3 q2.2)) else none := by
  show pS X 5 (some .int) k_Wp_passes 0 [some (.ref v0), some (.int v1), some (.int v2), some (.int v3), none, none, none, none] [] h = _
  refine (ss_aload_n rfl rfl).trans ?_
  refine (ss_iload_n rfl rfl).trans ?_
  refine (ss_iload_n rfl rfl).trans ?_
  refine (ss_callVI (as := [.int v1, .int v2]) rfl t_Wp_areTwo (by decide) rfl rfl (by decide) (Or.inr rfl) ⟨Nat.le_of_ble_eq_true rfl, Nat.le_of_ble_eq_true rfl⟩).trans ?_
  refine pv_ite ?_ rfl
  refine congrArg (Option.bind _) (funext fun q1 => ?_)
  refine (ss_if_eq rfl).trans ?_
  refine pv_ite ?_ ?_
  · rfl
  · refine (ss_iload_n rfl rfl).trans ?_
    refine (ss_iconst rfl (v := 1) rfl).trans ?_
    refine (ss_bipush rfl (v := 96) rfl).trans ?_
    refine (ss_callSI (as := [.int v3, .int 1, .int 96]) rfl t_Wp_isWithin (by decide) rfl rfl (by decide) (Or.inr rfl) ⟨Nat.le_of_ble_eq_true rfl, Nat.le_of_ble_eq_true rfl⟩).trans ?_
    refine congrArg (Option.bind _) (funext fun q2 => ?_)
    refine (ss_if_ne rfl).trans ?_
    refine pv_ite ?_ ?_
    · refine (ss_aload_n rfl rfl).trans ?_
      refine (ss_getR rfl).trans ?_
      refine congrArg (Option.bind _) (funext fun x3 => ?_)
      refine (ss_aload_n rfl rfl).trans ?_
      refine (ss_getR rfl).trans ?_
      refine congrArg (Option.bind _) (funext fun x4 => ?_)
      refine (ss_callVN (as := [.ref x4]) rfl t_St_copy (by decide) rfl rfl (by decide) rfl ⟨Nat.le_of_ble_eq_true rfl, Nat.le_of_ble_eq_true rfl⟩).trans ?_
      refine pv_ite ?_ rfl
      refine congrArg (Option.bind _) (funext fun h5 => ?_)
      refine (ss_iconst rfl (v := 0) rfl).trans ?_
      refine (ss_istore rfl rfl).trans ?_
      refine (ss_aload_n rfl rfl).trans ?_
      refine (ss_getR rfl).trans ?_
      refine congrArg (Option.bind _) (funext fun x6 => ?_)
      refine (ss_iload_n rfl rfl).trans ?_
      refine (ss_callVI (as := [.int v1]) rfl t_St_outOf (by decide) rfl rfl (by decide) (Or.inl rfl) ⟨Nat.le_of_ble_eq_true rfl, Nat.le_of_ble_eq_true rfl⟩).trans ?_
      refine pv_ite ?_ rfl
      refine congrArg (Option.bind _) (funext fun q7 => ?_)
      refine (ss_aload_n rfl rfl).trans ?_
      refine (ss_getR rfl).trans ?_
      refine congrArg (Option.bind _) (funext fun x8 => ?_)
      refine (ss_iload_n rfl rfl).trans ?_
      refine (ss_callVI (as := [.int v2]) rfl t_St_outOf (by decide) rfl rfl (by simp [Value.category]) (Or.inl rfl) ⟨Nat.le_of_ble_eq_true rfl, Nat.le_of_ble_eq_true rfl⟩).trans ?_
      refine pv_ite ?_ rfl
      refine congrArg (Option.bind _) (funext fun q9 => ?_)
      refine (ss_callSI (as := [.int q7.1, .int q9.1]) rfl t_In_compare (by decide) rfl rfl (by decide) (Or.inl rfl) ⟨Nat.le_of_ble_eq_true rfl, Nat.le_of_ble_eq_true rfl⟩).trans ?_
      refine congrArg (Option.bind _) (funext fun q10 => ?_)
      refine (ss_istore rfl rfl).trans ?_
      refine (ss_iconst rfl (v := 0) rfl).trans ?_
      refine (ss_istore rfl rfl).trans ?_
      rfl
    · rfl
set_option maxRecDepth 8000 in
theorem u_Wp_passes_19 (X : pv_X) (v0 : Nat) (v1 : Int32) (v2 : Int32) (v3 : Int32) (h : pv_H) : f_Wp_passes_19 X v0 v1 v2 v3 h =
    some (some (.int (-1)), h) := by
  show pS X 5 (some .int) k_Wp_passes 19 [some (.ref v0), some (.int v1), some (.int v2), some (.int v3), none, none, none, none] [] h = _
  refine (ss_iconst rfl (v := (-1)) rfl).trans ?_
  exact ss_ireturn rfl
set_option maxRecDepth 8000 in
theorem u_Wp_passes_59 (X : pv_X) (v0 : Nat) (v1 : Int32) (v2 : Int32) (v3 : Int32) (v4 : Int32) (v5 : Int32) (v6 : Int32) (o7 : Option Value) (h : pv_H) : f_Wp_passes_59 X v0 v1 v2 v3 v4 v5 v6 o7 h =
    if v3 ≤ v6 then some (some (.int v4), h) else (pv_fR h v0 10 1).bind (fun x1 => (pv_fR h v0 10 6).bind (fun x2 => if pv_rc h x1 6 = true then (pv_tI (pM X m_Po_passQuarter [.ref x1, .ref x2] h)).bind (fun q3 => (pv_fR q3.2 v0 10 6).bind (fun x4 => if pv_rc q3.2 x4 7 = true then (pv_tI (pM X m_St_outOf [.ref x4, .int v1] q3.2)).bind (fun q5 => (pv_fR q5.2 v0 10 6).bind (fun x6 => if pv_rc q5.2 x6 7 = true then (pv_tI (pM X m_St_outOf [.ref x6, .int v2] q5.2)).bind (fun q7 => (pv_tI (pM X m_In_compare [.int q5.1, .int q7.1] q7.2)).bind (fun q8 => if q8.1 = v5 then f_Wp_passes_108 X v0 v1 v2 v3 v4 v5 v6 q8.1 q8.2 else f_Wp_passes_108 X v0 v1 v2 v3 (v4 + 1) v5 v6 q8.1 q8.2)) else none)) else none)) else none)) := by
  show pS X 5 (some .int) k_Wp_passes 59 [some (.ref v0), some (.int v1), some (.int v2), some (.int v3), some (.int v4), some (.int v5), some (.int v6), o7] [] h = _
  refine (ss_iload rfl rfl).trans ?_
  refine (ss_iload_n rfl rfl).trans ?_
  refine (ss_icmp_ge rfl).trans ?_
  refine pv_ite ?_ ?_
  · refine (ss_iload rfl rfl).trans ?_
    exact ss_ireturn rfl
  · refine (ss_aload_n rfl rfl).trans ?_
    refine (ss_getR rfl).trans ?_
    refine congrArg (Option.bind _) (funext fun x1 => ?_)
    refine (ss_aload_n rfl rfl).trans ?_
    refine (ss_getR rfl).trans ?_
    refine congrArg (Option.bind _) (funext fun x2 => ?_)
    refine (ss_callVI (as := [.ref x2]) rfl t_Po_passQuarter (by decide) rfl rfl (by decide) (Or.inl rfl) ⟨Nat.le_of_ble_eq_true rfl, Nat.le_of_ble_eq_true rfl⟩).trans ?_
    refine pv_ite ?_ rfl
    refine congrArg (Option.bind _) (funext fun q3 => ?_)
    refine (ss_popI rfl).trans ?_
    refine (ss_aload_n rfl rfl).trans ?_
    refine (ss_getR rfl).trans ?_
    refine congrArg (Option.bind _) (funext fun x4 => ?_)
    refine (ss_iload_n rfl rfl).trans ?_
    refine (ss_callVI (as := [.int v1]) rfl t_St_outOf (by decide) rfl rfl (by decide) (Or.inl rfl) ⟨Nat.le_of_ble_eq_true rfl, Nat.le_of_ble_eq_true rfl⟩).trans ?_
    refine pv_ite ?_ rfl
    refine congrArg (Option.bind _) (funext fun q5 => ?_)
    refine (ss_aload_n rfl rfl).trans ?_
    refine (ss_getR rfl).trans ?_
    refine congrArg (Option.bind _) (funext fun x6 => ?_)
    refine (ss_iload_n rfl rfl).trans ?_
    refine (ss_callVI (as := [.int v2]) rfl t_St_outOf (by decide) rfl rfl (by simp [Value.category]) (Or.inl rfl) ⟨Nat.le_of_ble_eq_true rfl, Nat.le_of_ble_eq_true rfl⟩).trans ?_
    refine pv_ite ?_ rfl
    refine congrArg (Option.bind _) (funext fun q7 => ?_)
    refine (ss_callSI (as := [.int q5.1, .int q7.1]) rfl t_In_compare (by decide) rfl rfl (by decide) (Or.inl rfl) ⟨Nat.le_of_ble_eq_true rfl, Nat.le_of_ble_eq_true rfl⟩).trans ?_
    refine congrArg (Option.bind _) (funext fun q8 => ?_)
    refine (ss_istore rfl rfl).trans ?_
    refine (ss_iload rfl rfl).trans ?_
    refine (ss_iload rfl rfl).trans ?_
    refine (ss_icmp_eq rfl).trans ?_
    refine pv_ite ?_ ?_
    · rfl
    · refine (ss_iinc3 rfl rfl (v := v4 + 1) (congrArg (HAdd.hAdd _) (show Int32.ofInt (1) = 1 by decide)) rfl).trans ?_
      rfl
set_option maxRecDepth 8000 in
theorem u_Wp_passes_108 (X : pv_X) (v0 : Nat) (v1 : Int32) (v2 : Int32) (v3 : Int32) (v4 : Int32) (v5 : Int32) (v6 : Int32) (v7 : Int32) (h : pv_H) : f_Wp_passes_108 X v0 v1 v2 v3 v4 v5 v6 v7 h =
    f_Wp_passes_59 X v0 v1 v2 v3 v4 v7 (v6 + 1) (some (.int v7)) h := by
  show pS X 5 (some .int) k_Wp_passes 108 [some (.ref v0), some (.int v1), some (.int v2), some (.int v3), some (.int v4), some (.int v5), some (.int v6), some (.int v7)] [] h = _
  refine (ss_iload rfl rfl).trans ?_
  refine (ss_istore rfl rfl).trans ?_
  refine (ss_iinc3 rfl rfl (v := v6 + 1) (congrArg (HAdd.hAdd _) (show Int32.ofInt (1) = 1 by decide)) rfl).trans ?_
  refine (ss_goto rfl).trans ?_
  rfl
theorem e_Wp_passes (X : pv_X) (v0 : Nat) (v1 : Int32) (v2 : Int32) (v3 : Int32) (h : pv_H) : pM X m_Wp_passes [.ref v0, .int v1, .int v2, .int v3] h = f_Wp_passes_0 X v0 v1 v2 v3 h := rfl
noncomputable def f_Wp_hub_0 (X : pv_X) (v0 : Nat) (h : pv_H) : Option pv_O := pS X 1 (some .int) k_Wp_hub 0 [some (.ref v0), none, none, none, none, none] [] h
noncomputable def f_Wp_hub_6 (X : pv_X) (v0 : Nat) (v1 : Int32) (v2 : Int32) (v3 : Int32) (o4 : Option Value) (o5 : Option Value) (h : pv_H) : Option pv_O := pS X 1 (some .int) k_Wp_hub 6 [some (.ref v0), some (.int v1), some (.int v2), some (.int v3), o4, o5] [] h
noncomputable def f_Wp_hub_23 (X : pv_X) (v0 : Nat) (v1 : Int32) (v2 : Int32) (v3 : Int32) (v4 : Int32) (v5 : Int32) (h : pv_H) : Option pv_O := pS X 1 (some .int) k_Wp_hub 23 [some (.ref v0), some (.int v1), some (.int v2), some (.int v3), some (.int v4), some (.int v5)] [] h
noncomputable def f_Wp_hub_52 (X : pv_X) (v0 : Nat) (v1 : Int32) (v2 : Int32) (v3 : Int32) (v4 : Int32) (v5 : Int32) (h : pv_H) : Option pv_O := pS X 1 (some .int) k_Wp_hub 52 [some (.ref v0), some (.int v1), some (.int v2), some (.int v3), some (.int v4), some (.int v5)] [] h
noncomputable def f_Wp_hub_69 (X : pv_X) (v0 : Nat) (v1 : Int32) (v2 : Int32) (v3 : Int32) (v4 : Int32) (v5 : Int32) (h : pv_H) : Option pv_O := pS X 1 (some .int) k_Wp_hub 69 [some (.ref v0), some (.int v1), some (.int v2), some (.int v3), some (.int v4), some (.int v5)] [] h
set_option maxRecDepth 8000 in
theorem u_Wp_hub_0 (X : pv_X) (v0 : Nat) (h : pv_H) : f_Wp_hub_0 X v0 h =
    f_Wp_hub_6 X v0 (-1) 0 0 none none h := by
  show pS X 1 (some .int) k_Wp_hub 0 [some (.ref v0), none, none, none, none, none] [] h = _
  refine (ss_iconst rfl (v := (-1)) rfl).trans ?_
  refine (ss_istore_n rfl rfl).trans ?_
  refine (ss_iconst rfl (v := 0) rfl).trans ?_
  refine (ss_istore_n rfl rfl).trans ?_
  refine (ss_iconst rfl (v := 0) rfl).trans ?_
  refine (ss_istore_n rfl rfl).trans ?_
  rfl
set_option maxRecDepth 8000 in
theorem u_Wp_hub_6 (X : pv_X) (v0 : Nat) (v1 : Int32) (v2 : Int32) (v3 : Int32) (o4 : Option Value) (o5 : Option Value) (h : pv_H) : f_Wp_hub_6 X v0 v1 v2 v3 o4 o5 h =
    (pv_fR h v0 10 1).bind (fun x1 => (pv_fI h x1 6 6).bind (fun x2 => if x2 ≤ v3 then some (some (.int v1), h) else f_Wp_hub_23 X v0 v1 v2 v3 0 0 h)) := by
  show pS X 1 (some .int) k_Wp_hub 6 [some (.ref v0), some (.int v1), some (.int v2), some (.int v3), o4, o5] [] h = _
  refine (ss_iload_n rfl rfl).trans ?_
  refine (ss_aload_n rfl rfl).trans ?_
  refine (ss_getR rfl).trans ?_
  refine congrArg (Option.bind _) (funext fun x1 => ?_)
  refine (ss_getI rfl).trans ?_
  refine congrArg (Option.bind _) (funext fun x2 => ?_)
  refine (ss_icmp_ge rfl).trans ?_
  refine pv_ite ?_ ?_
  · refine (ss_iload_n rfl rfl).trans ?_
    exact ss_ireturn rfl
  · refine (ss_iconst rfl (v := 0) rfl).trans ?_
    refine (ss_istore rfl rfl).trans ?_
    refine (ss_iconst rfl (v := 0) rfl).trans ?_
    refine (ss_istore rfl rfl).trans ?_
    rfl
set_option maxRecDepth 8000 in
theorem u_Wp_hub_23 (X : pv_X) (v0 : Nat) (v1 : Int32) (v2 : Int32) (v3 : Int32) (v4 : Int32) (v5 : Int32) (h : pv_H) : f_Wp_hub_23 X v0 v1 v2 v3 v4 v5 h =
    (pv_fR h v0 10 1).bind (fun x1 => (pv_fI h x1 6 6).bind (fun x2 => if x2 ≤ v5 then if v4 ≤ v2 then f_Wp_hub_69 X v0 v1 v2 v3 v4 v5 h else f_Wp_hub_69 X v0 v3 v4 v3 v4 v5 h else (pv_fR h v0 10 1).bind (fun x3 => (pv_fR h x3 6 4).bind (fun x4 => (pv_aX X h x4 v5).bind (fun x5 => if ¬ x5 = v3 then f_Wp_hub_52 X v0 v1 v2 v3 v4 v5 h else f_Wp_hub_52 X v0 v1 v2 v3 (v4 + 1) v5 h))))) := by
  show pS X 1 (some .int) k_Wp_hub 23 [some (.ref v0), some (.int v1), some (.int v2), some (.int v3), some (.int v4), some (.int v5)] [] h = _
  refine (ss_iload rfl rfl).trans ?_
  refine (ss_aload_n rfl rfl).trans ?_
  refine (ss_getR rfl).trans ?_
  refine congrArg (Option.bind _) (funext fun x1 => ?_)
  refine (ss_getI rfl).trans ?_
  refine congrArg (Option.bind _) (funext fun x2 => ?_)
  refine (ss_icmp_ge rfl).trans ?_
  refine pv_ite ?_ ?_
  · refine (ss_iload rfl rfl).trans ?_
    refine (ss_iload_n rfl rfl).trans ?_
    refine (ss_icmp_le rfl).trans ?_
    refine pv_ite ?_ ?_
    · rfl
    · refine (ss_iload rfl rfl).trans ?_
      refine (ss_istore_n rfl rfl).trans ?_
      refine (ss_iload_n rfl rfl).trans ?_
      refine (ss_istore_n rfl rfl).trans ?_
      rfl
  · refine (ss_aload_n rfl rfl).trans ?_
    refine (ss_getR rfl).trans ?_
    refine congrArg (Option.bind _) (funext fun x3 => ?_)
    refine (ss_getR rfl).trans ?_
    refine congrArg (Option.bind _) (funext fun x4 => ?_)
    refine (ss_iload rfl rfl).trans ?_
    refine (ss_iaload rfl).trans ?_
    refine congrArg (Option.bind _) (funext fun x5 => ?_)
    refine (ss_iload_n rfl rfl).trans ?_
    refine (ss_icmp_ne rfl).trans ?_
    refine pv_ite ?_ ?_
    · rfl
    · refine (ss_iinc3 rfl rfl (v := v4 + 1) (congrArg (HAdd.hAdd _) (show Int32.ofInt (1) = 1 by decide)) rfl).trans ?_
      rfl
set_option maxRecDepth 8000 in
theorem u_Wp_hub_52 (X : pv_X) (v0 : Nat) (v1 : Int32) (v2 : Int32) (v3 : Int32) (v4 : Int32) (v5 : Int32) (h : pv_H) : f_Wp_hub_52 X v0 v1 v2 v3 v4 v5 h =
    f_Wp_hub_23 X v0 v1 v2 v3 v4 (v5 + 1) h := by
  show pS X 1 (some .int) k_Wp_hub 52 [some (.ref v0), some (.int v1), some (.int v2), some (.int v3), some (.int v4), some (.int v5)] [] h = _
  refine (ss_iinc3 rfl rfl (v := v5 + 1) (congrArg (HAdd.hAdd _) (show Int32.ofInt (1) = 1 by decide)) rfl).trans ?_
  refine (ss_goto rfl).trans ?_
  rfl
set_option maxRecDepth 8000 in
theorem u_Wp_hub_69 (X : pv_X) (v0 : Nat) (v1 : Int32) (v2 : Int32) (v3 : Int32) (v4 : Int32) (v5 : Int32) (h : pv_H) : f_Wp_hub_69 X v0 v1 v2 v3 v4 v5 h =
    f_Wp_hub_6 X v0 v1 v2 (v3 + 1) (some (.int v4)) (some (.int v5)) h := by
  show pS X 1 (some .int) k_Wp_hub 69 [some (.ref v0), some (.int v1), some (.int v2), some (.int v3), some (.int v4), some (.int v5)] [] h = _
  refine (ss_iinc3 rfl rfl (v := v3 + 1) (congrArg (HAdd.hAdd _) (show Int32.ofInt (1) = 1 by decide)) rfl).trans ?_
  refine (ss_goto rfl).trans ?_
  rfl
theorem e_Wp_hub (X : pv_X) (v0 : Nat) (h : pv_H) : pM X m_Wp_hub [.ref v0] h = f_Wp_hub_0 X v0 h := rfl
noncomputable def f_Wp_teacher_0 (X : pv_X) (v0 : Nat) (v1 : Int32) (h : pv_H) : Option pv_O := pS X 7 (some .int) k_Wp_teacher 0 [some (.ref v0), some (.int v1), none, none, none] [] h
noncomputable def f_Wp_teacher_26 (X : pv_X) (v0 : Nat) (v1 : Int32) (v2 : Int32) (v3 : Int32) (v4 : Int32) (h : pv_H) : Option pv_O := pS X 7 (some .int) k_Wp_teacher 26 [some (.ref v0), some (.int v1), some (.int v2), some (.int v3), some (.int v4)] [] h
noncomputable def f_Wp_teacher_95 (X : pv_X) (v0 : Nat) (v1 : Int32) (v2 : Int32) (v3 : Int32) (v4 : Int32) (h : pv_H) : Option pv_O := pS X 7 (some .int) k_Wp_teacher 95 [some (.ref v0), some (.int v1), some (.int v2), some (.int v3), some (.int v4)] [] h
set_option maxRecDepth 8000 in
theorem u_Wp_teacher_0 (X : pv_X) (v0 : Nat) (v1 : Int32) (h : pv_H) : f_Wp_teacher_0 X v0 v1 h =
    if pv_rc h v0 10 = true then (pv_tI (pM X m_Wp_isPerson [.ref v0, .int v1] h)).bind (fun q1 => if ¬ q1.1 = 0 then if pv_rc q1.2 v0 10 = true then (pv_tI (pM X m_Wp_outLater [.ref v0, .int v1, .int 24] q1.2)).bind (fun q2 => (pv_tI (pM X m_Ma_abs [.int q2.1] q2.2)).bind (fun q3 => f_Wp_teacher_26 X v0 v1 (-1) q3.1 0 q3.2)) else none else some (some (.int (-1)), q1.2)) else none := by
  show pS X 7 (some .int) k_Wp_teacher 0 [some (.ref v0), some (.int v1), none, none, none] [] h = _
  refine (ss_aload_n rfl rfl).trans ?_
  refine (ss_iload_n rfl rfl).trans ?_
  refine (ss_callVI (as := [.int v1]) rfl t_Wp_isPerson (by decide) rfl rfl (by decide) (Or.inr rfl) ⟨Nat.le_of_ble_eq_true rfl, Nat.le_of_ble_eq_true rfl⟩).trans ?_
  refine pv_ite ?_ rfl
  refine congrArg (Option.bind _) (funext fun q1 => ?_)
  refine (ss_if_ne rfl).trans ?_
  refine pv_ite ?_ ?_
  · refine (ss_iconst rfl (v := (-1)) rfl).trans ?_
    refine (ss_istore_n rfl rfl).trans ?_
    refine (ss_aload_n rfl rfl).trans ?_
    refine (ss_iload_n rfl rfl).trans ?_
    refine (ss_bipush rfl (v := 24) rfl).trans ?_
    refine (ss_callVI (as := [.int v1, .int 24]) rfl t_Wp_outLater (by decide) rfl rfl (by decide) (Or.inl rfl) ⟨Nat.le_of_ble_eq_true rfl, Nat.le_of_ble_eq_true rfl⟩).trans ?_
    refine pv_ite ?_ rfl
    refine congrArg (Option.bind _) (funext fun q2 => ?_)
    refine (ss_callSI (as := [.int q2.1]) rfl t_Ma_abs (by decide) rfl rfl (by decide) (Or.inl rfl) ⟨Nat.le_of_ble_eq_true rfl, Nat.le_of_ble_eq_true rfl⟩).trans ?_
    refine congrArg (Option.bind _) (funext fun q3 => ?_)
    refine (ss_istore_n rfl rfl).trans ?_
    refine (ss_iconst rfl (v := 0) rfl).trans ?_
    refine (ss_istore rfl rfl).trans ?_
    rfl
  · refine (ss_iconst rfl (v := (-1)) rfl).trans ?_
    exact ss_ireturn rfl
set_option maxRecDepth 8000 in
theorem u_Wp_teacher_26 (X : pv_X) (v0 : Nat) (v1 : Int32) (v2 : Int32) (v3 : Int32) (v4 : Int32) (h : pv_H) : f_Wp_teacher_26 X v0 v1 v2 v3 v4 h =
    (pv_fR h v0 10 1).bind (fun x1 => (pv_fI h x1 6 6).bind (fun x2 => if x2 ≤ v4 then some (some (.int v2), h) else if v4 = v1 then f_Wp_teacher_95 X v0 v1 v2 v3 v4 h else (pv_fR h v0 10 6).bind (fun x3 => (pv_fR h v0 10 5).bind (fun x4 => if pv_rc h x3 7 = true then (pv_tV (pM X m_St_copy [.ref x3, .ref x4] h)).bind (fun h5 => (pv_fR h5 v0 10 6).bind (fun x6 => if pv_rc h5 x6 7 = true then (pv_tV (pM X m_St_takeTime [.ref x6, .int v1, .int v4] h5)).bind (fun h7 => if pv_rc h7 v0 10 = true then (pv_tV (pM X m_Wp_passQuarters [.ref v0, .int 24] h7)).bind (fun h8 => (pv_fR h8 v0 10 6).bind (fun x9 => (pv_tI (pM X m_Wp_farOf [.ref x9, .int v1] h8)).bind (fun q10 => if v3 ≤ q10.1 then f_Wp_teacher_95 X v0 v1 v2 v3 v4 q10.2 else (pv_fR q10.2 v0 10 6).bind (fun x11 => (pv_tI (pM X m_Wp_farOf [.ref x11, .int v1] q10.2)).bind (fun q12 => f_Wp_teacher_95 X v0 v1 v4 q12.1 v4 q12.2))))) else none) else none)) else none)))) := by
  show pS X 7 (some .int) k_Wp_teacher 26 [some (.ref v0), some (.int v1), some (.int v2), some (.int v3), some (.int v4)] [] h = _
  refine (ss_iload rfl rfl).trans ?_
  refine (ss_aload_n rfl rfl).trans ?_
  refine (ss_getR rfl).trans ?_
  refine congrArg (Option.bind _) (funext fun x1 => ?_)
  refine (ss_getI rfl).trans ?_
  refine congrArg (Option.bind _) (funext fun x2 => ?_)
  refine (ss_icmp_ge rfl).trans ?_
  refine pv_ite ?_ ?_
  · refine (ss_iload_n rfl rfl).trans ?_
    exact ss_ireturn rfl
  · refine (ss_iload rfl rfl).trans ?_
    refine (ss_iload_n rfl rfl).trans ?_
    refine (ss_icmp_eq rfl).trans ?_
    refine pv_ite ?_ ?_
    · rfl
    · refine (ss_aload_n rfl rfl).trans ?_
      refine (ss_getR rfl).trans ?_
      refine congrArg (Option.bind _) (funext fun x3 => ?_)
      refine (ss_aload_n rfl rfl).trans ?_
      refine (ss_getR rfl).trans ?_
      refine congrArg (Option.bind _) (funext fun x4 => ?_)
      refine (ss_callVN (as := [.ref x4]) rfl t_St_copy (by decide) rfl rfl (by decide) rfl ⟨Nat.le_of_ble_eq_true rfl, Nat.le_of_ble_eq_true rfl⟩).trans ?_
      refine pv_ite ?_ rfl
      refine congrArg (Option.bind _) (funext fun h5 => ?_)
      refine (ss_aload_n rfl rfl).trans ?_
      refine (ss_getR rfl).trans ?_
      refine congrArg (Option.bind _) (funext fun x6 => ?_)
      refine (ss_iload_n rfl rfl).trans ?_
      refine (ss_iload rfl rfl).trans ?_
      refine (ss_callVN (as := [.int v1, .int v4]) rfl t_St_takeTime (by decide) rfl rfl (by decide) rfl ⟨Nat.le_of_ble_eq_true rfl, Nat.le_of_ble_eq_true rfl⟩).trans ?_
      refine pv_ite ?_ rfl
      refine congrArg (Option.bind _) (funext fun h7 => ?_)
      refine (ss_aload_n rfl rfl).trans ?_
      refine (ss_bipush rfl (v := 24) rfl).trans ?_
      refine (ss_callVN (as := [.int 24]) rfl t_Wp_passQuarters (by decide) rfl rfl (by decide) rfl ⟨Nat.le_of_ble_eq_true rfl, Nat.le_of_ble_eq_true rfl⟩).trans ?_
      refine pv_ite ?_ rfl
      refine congrArg (Option.bind _) (funext fun h8 => ?_)
      refine (ss_aload_n rfl rfl).trans ?_
      refine (ss_getR rfl).trans ?_
      refine congrArg (Option.bind _) (funext fun x9 => ?_)
      refine (ss_iload_n rfl rfl).trans ?_
      refine (ss_callSI (as := [.ref x9, .int v1]) rfl t_Wp_farOf (by decide) rfl rfl (by decide) (Or.inl rfl) ⟨Nat.le_of_ble_eq_true rfl, Nat.le_of_ble_eq_true rfl⟩).trans ?_
      refine congrArg (Option.bind _) (funext fun q10 => ?_)
      refine (ss_iload_n rfl rfl).trans ?_
      refine (ss_icmp_ge rfl).trans ?_
      refine pv_ite ?_ ?_
      · rfl
      · refine (ss_aload_n rfl rfl).trans ?_
        refine (ss_getR rfl).trans ?_
        refine congrArg (Option.bind _) (funext fun x11 => ?_)
        refine (ss_iload_n rfl rfl).trans ?_
        refine (ss_callSI (as := [.ref x11, .int v1]) rfl t_Wp_farOf (by decide) rfl rfl (by decide) (Or.inl rfl) ⟨Nat.le_of_ble_eq_true rfl, Nat.le_of_ble_eq_true rfl⟩).trans ?_
        refine congrArg (Option.bind _) (funext fun q12 => ?_)
        refine (ss_istore_n rfl rfl).trans ?_
        refine (ss_iload rfl rfl).trans ?_
        refine (ss_istore_n rfl rfl).trans ?_
        rfl
set_option maxRecDepth 8000 in
theorem u_Wp_teacher_95 (X : pv_X) (v0 : Nat) (v1 : Int32) (v2 : Int32) (v3 : Int32) (v4 : Int32) (h : pv_H) : f_Wp_teacher_95 X v0 v1 v2 v3 v4 h =
    f_Wp_teacher_26 X v0 v1 v2 v3 (v4 + 1) h := by
  show pS X 7 (some .int) k_Wp_teacher 95 [some (.ref v0), some (.int v1), some (.int v2), some (.int v3), some (.int v4)] [] h = _
  refine (ss_iinc3 rfl rfl (v := v4 + 1) (congrArg (HAdd.hAdd _) (show Int32.ofInt (1) = 1 by decide)) rfl).trans ?_
  refine (ss_goto rfl).trans ?_
  rfl
theorem e_Wp_teacher (X : pv_X) (v0 : Nat) (v1 : Int32) (h : pv_H) : pM X m_Wp_teacher [.ref v0, .int v1] h = f_Wp_teacher_0 X v0 v1 h := rfl
noncomputable def f_Wp_together_0 (X : pv_X) (v0 : Nat) (h : pv_H) : Option pv_O := pS X 5 (some .int) k_Wp_together 0 [some (.ref v0), none, none, none, none] [] h
noncomputable def f_Wp_together_28 (X : pv_X) (v0 : Nat) (v1 : Int32) (v2 : Int32) (v3 : Int32) (o4 : Option Value) (h : pv_H) : Option pv_O := pS X 5 (some .int) k_Wp_together 28 [some (.ref v0), some (.int v1), some (.int v2), some (.int v3), o4] [] h
noncomputable def f_Wp_together_71 (X : pv_X) (v0 : Nat) (v1 : Int32) (v2 : Int32) (v3 : Int32) (v4 : Int32) (h : pv_H) : Option pv_O := pS X 5 (some .int) k_Wp_together 71 [some (.ref v0), some (.int v1), some (.int v2), some (.int v3), some (.int v4)] [] h
set_option maxRecDepth 8000 in
theorem u_Wp_together_0 (X : pv_X) (v0 : Nat) (h : pv_H) : f_Wp_together_0 X v0 h =
    (pv_fR h v0 10 6).bind (fun x1 => (pv_fR h v0 10 5).bind (fun x2 => if pv_rc h x1 7 = true then (pv_tV (pM X m_St_copy [.ref x1, .ref x2] h)).bind (fun h3 => (pv_fR h3 v0 10 6).bind (fun x4 => if pv_rc h3 v0 10 = true then (pv_tI (pM X m_Wp_everybody [.ref v0] h3)).bind (fun q5 => if pv_rc q5.2 v0 10 = true then (pv_tI (pM X m_Wp_spreadOf [.ref v0, .ref x4, .int q5.1] q5.2)).bind (fun q6 => f_Wp_together_28 X v0 0 q6.1 1 none q6.2) else none) else none)) else none)) := by
  show pS X 5 (some .int) k_Wp_together 0 [some (.ref v0), none, none, none, none] [] h = _
  refine (ss_aload_n rfl rfl).trans ?_
  refine (ss_getR rfl).trans ?_
  refine congrArg (Option.bind _) (funext fun x1 => ?_)
  refine (ss_aload_n rfl rfl).trans ?_
  refine (ss_getR rfl).trans ?_
  refine congrArg (Option.bind _) (funext fun x2 => ?_)
  refine (ss_callVN (as := [.ref x2]) rfl t_St_copy (by decide) rfl rfl (by decide) rfl ⟨Nat.le_of_ble_eq_true rfl, Nat.le_of_ble_eq_true rfl⟩).trans ?_
  refine pv_ite ?_ rfl
  refine congrArg (Option.bind _) (funext fun h3 => ?_)
  refine (ss_iconst rfl (v := 0) rfl).trans ?_
  refine (ss_istore_n rfl rfl).trans ?_
  refine (ss_aload_n rfl rfl).trans ?_
  refine (ss_aload_n rfl rfl).trans ?_
  refine (ss_getR rfl).trans ?_
  refine congrArg (Option.bind _) (funext fun x4 => ?_)
  refine (ss_aload_n rfl rfl).trans ?_
  refine (ss_callVI (as := []) rfl t_Wp_everybody (by decide) rfl rfl (by simp [Value.category]) (Or.inl rfl) ⟨Nat.le_of_ble_eq_true rfl, Nat.le_of_ble_eq_true rfl⟩).trans ?_
  refine pv_ite ?_ rfl
  refine congrArg (Option.bind _) (funext fun q5 => ?_)
  refine (ss_callVI (as := [.ref x4, .int q5.1]) rfl t_Wp_spreadOf (by decide) rfl rfl (by decide) (Or.inl rfl) ⟨Nat.le_of_ble_eq_true rfl, Nat.le_of_ble_eq_true rfl⟩).trans ?_
  refine pv_ite ?_ rfl
  refine congrArg (Option.bind _) (funext fun q6 => ?_)
  refine (ss_istore_n rfl rfl).trans ?_
  refine (ss_iconst rfl (v := 1) rfl).trans ?_
  refine (ss_istore_n rfl rfl).trans ?_
  rfl
set_option maxRecDepth 8000 in
theorem u_Wp_together_28 (X : pv_X) (v0 : Nat) (v1 : Int32) (v2 : Int32) (v3 : Int32) (o4 : Option Value) (h : pv_H) : f_Wp_together_28 X v0 v1 v2 v3 o4 h =
    if 96 < v3 then some (some (.int v1), h) else (pv_fR h v0 10 1).bind (fun x1 => (pv_fR h v0 10 6).bind (fun x2 => if pv_rc h x1 6 = true then (pv_tI (pM X m_Po_passQuarter [.ref x1, .ref x2] h)).bind (fun q3 => (pv_fR q3.2 v0 10 6).bind (fun x4 => if pv_rc q3.2 v0 10 = true then (pv_tI (pM X m_Wp_everybody [.ref v0] q3.2)).bind (fun q5 => if pv_rc q5.2 v0 10 = true then (pv_tI (pM X m_Wp_spreadOf [.ref v0, .ref x4, .int q5.1] q5.2)).bind (fun q6 => if v2 ≤ q6.1 then f_Wp_together_71 X v0 v1 v2 v3 q6.1 q6.2 else f_Wp_together_71 X v0 v3 q6.1 v3 q6.1 q6.2) else none) else none)) else none)) := by
  show pS X 5 (some .int) k_Wp_together 28 [some (.ref v0), some (.int v1), some (.int v2), some (.int v3), o4] [] h = _
  refine (ss_iload_n rfl rfl).trans ?_
  refine (ss_bipush rfl (v := 96) rfl).trans ?_
  refine (ss_icmp_gt rfl).trans ?_
  refine pv_ite ?_ ?_
  · refine (ss_iload_n rfl rfl).trans ?_
    exact ss_ireturn rfl
  · refine (ss_aload_n rfl rfl).trans ?_
    refine (ss_getR rfl).trans ?_
    refine congrArg (Option.bind _) (funext fun x1 => ?_)
    refine (ss_aload_n rfl rfl).trans ?_
    refine (ss_getR rfl).trans ?_
    refine congrArg (Option.bind _) (funext fun x2 => ?_)
    refine (ss_callVI (as := [.ref x2]) rfl t_Po_passQuarter (by decide) rfl rfl (by decide) (Or.inl rfl) ⟨Nat.le_of_ble_eq_true rfl, Nat.le_of_ble_eq_true rfl⟩).trans ?_
    refine pv_ite ?_ rfl
    refine congrArg (Option.bind _) (funext fun q3 => ?_)
    refine (ss_popI rfl).trans ?_
    refine (ss_aload_n rfl rfl).trans ?_
    refine (ss_aload_n rfl rfl).trans ?_
    refine (ss_getR rfl).trans ?_
    refine congrArg (Option.bind _) (funext fun x4 => ?_)
    refine (ss_aload_n rfl rfl).trans ?_
    refine (ss_callVI (as := []) rfl t_Wp_everybody (by decide) rfl rfl (by simp [Value.category]) (Or.inl rfl) ⟨Nat.le_of_ble_eq_true rfl, Nat.le_of_ble_eq_true rfl⟩).trans ?_
    refine pv_ite ?_ rfl
    refine congrArg (Option.bind _) (funext fun q5 => ?_)
    refine (ss_callVI (as := [.ref x4, .int q5.1]) rfl t_Wp_spreadOf (by decide) rfl rfl (by decide) (Or.inl rfl) ⟨Nat.le_of_ble_eq_true rfl, Nat.le_of_ble_eq_true rfl⟩).trans ?_
    refine pv_ite ?_ rfl
    refine congrArg (Option.bind _) (funext fun q6 => ?_)
    refine (ss_istore rfl rfl).trans ?_
    refine (ss_iload rfl rfl).trans ?_
    refine (ss_iload_n rfl rfl).trans ?_
    refine (ss_icmp_ge rfl).trans ?_
    refine pv_ite ?_ ?_
    · rfl
    · refine (ss_iload rfl rfl).trans ?_
      refine (ss_istore_n rfl rfl).trans ?_
      refine (ss_iload_n rfl rfl).trans ?_
      refine (ss_istore_n rfl rfl).trans ?_
      rfl
set_option maxRecDepth 8000 in
theorem u_Wp_together_71 (X : pv_X) (v0 : Nat) (v1 : Int32) (v2 : Int32) (v3 : Int32) (v4 : Int32) (h : pv_H) : f_Wp_together_71 X v0 v1 v2 v3 v4 h =
    f_Wp_together_28 X v0 v1 v2 (v3 + 1) (some (.int v4)) h := by
  show pS X 5 (some .int) k_Wp_together 71 [some (.ref v0), some (.int v1), some (.int v2), some (.int v3), some (.int v4)] [] h = _
  refine (ss_iinc3 rfl rfl (v := v3 + 1) (congrArg (HAdd.hAdd _) (show Int32.ofInt (1) = 1 by decide)) rfl).trans ?_
  refine (ss_goto rfl).trans ?_
  rfl
theorem e_Wp_together (X : pv_X) (v0 : Nat) (h : pv_H) : pM X m_Wp_together [.ref v0] h = f_Wp_together_0 X v0 h := rfl
noncomputable def f_Wp_cure_0 (X : pv_X) (v0 : Nat) (v1 : Int32) (h : pv_H) : Option pv_O := pS X 7 (some .int) k_Wp_cure 0 [some (.ref v0), some (.int v1), none, none, none, none, none] [] h
noncomputable def f_Wp_cure_28 (X : pv_X) (v0 : Nat) (v1 : Int32) (v2 : Int32) (v3 : Int32) (v4 : Int32) (o5 : Option Value) (o6 : Option Value) (h : pv_H) : Option pv_O := pS X 7 (some .int) k_Wp_cure 28 [some (.ref v0), some (.int v1), some (.int v2), some (.int v3), some (.int v4), o5, o6] [] h
noncomputable def f_Wp_cure_38 (X : pv_X) (v0 : Nat) (v1 : Int32) (v2 : Int32) (v3 : Int32) (v4 : Int32) (v5 : Int32) (o6 : Option Value) (h : pv_H) : Option pv_O := pS X 7 (some .int) k_Wp_cure 38 [some (.ref v0), some (.int v1), some (.int v2), some (.int v3), some (.int v4), some (.int v5), o6] [] h
noncomputable def f_Wp_cure_125 (X : pv_X) (v0 : Nat) (v1 : Int32) (v2 : Int32) (v3 : Int32) (v4 : Int32) (v5 : Int32) (v6 : Int32) (h : pv_H) : Option pv_O := pS X 7 (some .int) k_Wp_cure 125 [some (.ref v0), some (.int v1), some (.int v2), some (.int v3), some (.int v4), some (.int v5), some (.int v6)] [] h
set_option maxRecDepth 8000 in
theorem u_Wp_cure_0 (X : pv_X) (v0 : Nat) (v1 : Int32) (h : pv_H) : f_Wp_cure_0 X v0 v1 h =
    if pv_rc h v0 10 = true then (pv_tI (pM X m_Wp_isPerson [.ref v0, .int v1] h)).bind (fun q1 => if ¬ q1.1 = 0 then if pv_rc q1.2 v0 10 = true then (pv_tI (pM X m_Wp_outLater [.ref v0, .int v1, .int 24] q1.2)).bind (fun q2 => (pv_tI (pM X m_Ma_abs [.int q2.1] q2.2)).bind (fun q3 => f_Wp_cure_28 X v0 v1 0 q3.1 1 none none q3.2)) else none else some (some (.int (-1000)), q1.2)) else none := by
  show pS X 7 (some .int) k_Wp_cure 0 [some (.ref v0), some (.int v1), none, none, none, none, none] [] h = _
  refine (ss_aload_n rfl rfl).trans ?_
  refine (ss_iload_n rfl rfl).trans ?_
  refine (ss_callVI (as := [.int v1]) rfl t_Wp_isPerson (by decide) rfl rfl (by decide) (Or.inr rfl) ⟨Nat.le_of_ble_eq_true rfl, Nat.le_of_ble_eq_true rfl⟩).trans ?_
  refine pv_ite ?_ rfl
  refine congrArg (Option.bind _) (funext fun q1 => ?_)
  refine (ss_if_ne rfl).trans ?_
  refine pv_ite ?_ ?_
  · refine (ss_iconst rfl (v := 0) rfl).trans ?_
    refine (ss_istore_n rfl rfl).trans ?_
    refine (ss_aload_n rfl rfl).trans ?_
    refine (ss_iload_n rfl rfl).trans ?_
    refine (ss_bipush rfl (v := 24) rfl).trans ?_
    refine (ss_callVI (as := [.int v1, .int 24]) rfl t_Wp_outLater (by decide) rfl rfl (by decide) (Or.inl rfl) ⟨Nat.le_of_ble_eq_true rfl, Nat.le_of_ble_eq_true rfl⟩).trans ?_
    refine pv_ite ?_ rfl
    refine congrArg (Option.bind _) (funext fun q2 => ?_)
    refine (ss_callSI (as := [.int q2.1]) rfl t_Ma_abs (by decide) rfl rfl (by decide) (Or.inl rfl) ⟨Nat.le_of_ble_eq_true rfl, Nat.le_of_ble_eq_true rfl⟩).trans ?_
    refine congrArg (Option.bind _) (funext fun q3 => ?_)
    refine (ss_istore_n rfl rfl).trans ?_
    refine (ss_iconst rfl (v := 1) rfl).trans ?_
    refine (ss_istore rfl rfl).trans ?_
    rfl
  · refine (ss_sipush rfl (v := (-1000)) rfl).trans ?_
    exact ss_ireturn rfl
set_option maxRecDepth 8000 in
theorem u_Wp_cure_28 (X : pv_X) (v0 : Nat) (v1 : Int32) (v2 : Int32) (v3 : Int32) (v4 : Int32) (o5 : Option Value) (o6 : Option Value) (h : pv_H) : f_Wp_cure_28 X v0 v1 v2 v3 v4 o5 o6 h =
    if 60 < v4 then some (some (.int v2), h) else f_Wp_cure_38 X v0 v1 v2 v3 v4 (-1) o6 h := by
  show pS X 7 (some .int) k_Wp_cure 28 [some (.ref v0), some (.int v1), some (.int v2), some (.int v3), some (.int v4), o5, o6] [] h = _
  refine (ss_iload rfl rfl).trans ?_
  refine (ss_bipush rfl (v := 60) rfl).trans ?_
  refine (ss_icmp_gt rfl).trans ?_
  refine pv_ite ?_ ?_
  · refine (ss_iload_n rfl rfl).trans ?_
    exact ss_ireturn rfl
  · refine (ss_iconst rfl (v := (-1)) rfl).trans ?_
    refine (ss_istore rfl rfl).trans ?_
    rfl
set_option maxRecDepth 8000 in
theorem u_Wp_cure_38 (X : pv_X) (v0 : Nat) (v1 : Int32) (v2 : Int32) (v3 : Int32) (v4 : Int32) (v5 : Int32) (o6 : Option Value) (h : pv_H) : f_Wp_cure_38 X v0 v1 v2 v3 v4 v5 o6 h =
    if 1 < v5 then f_Wp_cure_28 X v0 v1 v2 v3 (v4 + 1) (some (.int v5)) o6 h else (pv_fR h v0 10 5).bind (fun x1 => (pv_fR h x1 7 1).bind (fun x2 => (pv_aX X h x2 v1).bind (fun x3 => (pv_tI (pM X m_Wp_isWithin [.int (x3 + (v5 * v4)), .int 20, .int 160] h)).bind (fun q4 => if q4.1 = 0 then f_Wp_cure_125 X v0 v1 v2 v3 v4 v5 (v5 * v4) q4.2 else (pv_fR q4.2 v0 10 6).bind (fun x5 => (pv_fR q4.2 v0 10 5).bind (fun x6 => if pv_rc q4.2 x5 7 = true then (pv_tV (pM X m_St_copy [.ref x5, .ref x6] q4.2)).bind (fun h7 => (pv_fR h7 v0 10 6).bind (fun x8 => if pv_rc h7 x8 7 = true then (pv_tV (pM X m_St_moveBeats [.ref x8, .int v1, .int (v5 * v4)] h7)).bind (fun h9 => if pv_rc h9 v0 10 = true then (pv_tV (pM X m_Wp_passQuarters [.ref v0, .int 24] h9)).bind (fun h10 => (pv_fR h10 v0 10 6).bind (fun x11 => (pv_tI (pM X m_Wp_farOf [.ref x11, .int v1] h10)).bind (fun q12 => if v3 ≤ q12.1 then f_Wp_cure_125 X v0 v1 v2 v3 v4 v5 (v5 * v4) q12.2 else (pv_fR q12.2 v0 10 6).bind (fun x13 => (pv_tI (pM X m_Wp_farOf [.ref x13, .int v1] q12.2)).bind (fun q14 => f_Wp_cure_125 X v0 v1 (v5 * v4) q14.1 v4 v5 (v5 * v4) q14.2))))) else none) else none)) else none)))))) := by
  show pS X 7 (some .int) k_Wp_cure 38 [some (.ref v0), some (.int v1), some (.int v2), some (.int v3), some (.int v4), some (.int v5), o6] [] h = _
  refine (ss_iload rfl rfl).trans ?_
  refine (ss_iconst rfl (v := 1) rfl).trans ?_
  refine (ss_icmp_gt rfl).trans ?_
  refine pv_ite ?_ ?_
  · refine (ss_iinc3 rfl rfl (v := v4 + 1) (congrArg (HAdd.hAdd _) (show Int32.ofInt (1) = 1 by decide)) rfl).trans ?_
    refine (ss_goto rfl).trans ?_
    rfl
  · refine (ss_iload rfl rfl).trans ?_
    refine (ss_iload rfl rfl).trans ?_
    refine (ss_imul rfl).trans ?_
    refine (ss_istore rfl rfl).trans ?_
    refine (ss_aload_n rfl rfl).trans ?_
    refine (ss_getR rfl).trans ?_
    refine congrArg (Option.bind _) (funext fun x1 => ?_)
    refine (ss_getR rfl).trans ?_
    refine congrArg (Option.bind _) (funext fun x2 => ?_)
    refine (ss_iload_n rfl rfl).trans ?_
    refine (ss_iaload rfl).trans ?_
    refine congrArg (Option.bind _) (funext fun x3 => ?_)
    refine (ss_iload rfl rfl).trans ?_
    refine (ss_iadd rfl).trans ?_
    refine (ss_bipush rfl (v := 20) rfl).trans ?_
    refine (ss_sipush rfl (v := 160) rfl).trans ?_
    refine (ss_callSI (as := [.int (x3 + (v5 * v4)), .int 20, .int 160]) rfl t_Wp_isWithin (by decide) rfl rfl (by decide) (Or.inr rfl) ⟨Nat.le_of_ble_eq_true rfl, Nat.le_of_ble_eq_true rfl⟩).trans ?_
    refine congrArg (Option.bind _) (funext fun q4 => ?_)
    refine (ss_if_eq rfl).trans ?_
    refine pv_ite ?_ ?_
    · rfl
    · refine (ss_aload_n rfl rfl).trans ?_
      refine (ss_getR rfl).trans ?_
      refine congrArg (Option.bind _) (funext fun x5 => ?_)
      refine (ss_aload_n rfl rfl).trans ?_
      refine (ss_getR rfl).trans ?_
      refine congrArg (Option.bind _) (funext fun x6 => ?_)
      refine (ss_callVN (as := [.ref x6]) rfl t_St_copy (by decide) rfl rfl (by decide) rfl ⟨Nat.le_of_ble_eq_true rfl, Nat.le_of_ble_eq_true rfl⟩).trans ?_
      refine pv_ite ?_ rfl
      refine congrArg (Option.bind _) (funext fun h7 => ?_)
      refine (ss_aload_n rfl rfl).trans ?_
      refine (ss_getR rfl).trans ?_
      refine congrArg (Option.bind _) (funext fun x8 => ?_)
      refine (ss_iload_n rfl rfl).trans ?_
      refine (ss_iload rfl rfl).trans ?_
      refine (ss_callVN (as := [.int v1, .int (v5 * v4)]) rfl t_St_moveBeats (by decide) rfl rfl (by decide) rfl ⟨Nat.le_of_ble_eq_true rfl, Nat.le_of_ble_eq_true rfl⟩).trans ?_
      refine pv_ite ?_ rfl
      refine congrArg (Option.bind _) (funext fun h9 => ?_)
      refine (ss_aload_n rfl rfl).trans ?_
      refine (ss_bipush rfl (v := 24) rfl).trans ?_
      refine (ss_callVN (as := [.int 24]) rfl t_Wp_passQuarters (by decide) rfl rfl (by decide) rfl ⟨Nat.le_of_ble_eq_true rfl, Nat.le_of_ble_eq_true rfl⟩).trans ?_
      refine pv_ite ?_ rfl
      refine congrArg (Option.bind _) (funext fun h10 => ?_)
      refine (ss_aload_n rfl rfl).trans ?_
      refine (ss_getR rfl).trans ?_
      refine congrArg (Option.bind _) (funext fun x11 => ?_)
      refine (ss_iload_n rfl rfl).trans ?_
      refine (ss_callSI (as := [.ref x11, .int v1]) rfl t_Wp_farOf (by decide) rfl rfl (by decide) (Or.inl rfl) ⟨Nat.le_of_ble_eq_true rfl, Nat.le_of_ble_eq_true rfl⟩).trans ?_
      refine congrArg (Option.bind _) (funext fun q12 => ?_)
      refine (ss_iload_n rfl rfl).trans ?_
      refine (ss_icmp_ge rfl).trans ?_
      refine pv_ite ?_ ?_
      · rfl
      · refine (ss_aload_n rfl rfl).trans ?_
        refine (ss_getR rfl).trans ?_
        refine congrArg (Option.bind _) (funext fun x13 => ?_)
        refine (ss_iload_n rfl rfl).trans ?_
        refine (ss_callSI (as := [.ref x13, .int v1]) rfl t_Wp_farOf (by decide) rfl rfl (by decide) (Or.inl rfl) ⟨Nat.le_of_ble_eq_true rfl, Nat.le_of_ble_eq_true rfl⟩).trans ?_
        refine congrArg (Option.bind _) (funext fun q14 => ?_)
        refine (ss_istore_n rfl rfl).trans ?_
        refine (ss_iload rfl rfl).trans ?_
        refine (ss_istore_n rfl rfl).trans ?_
        rfl
set_option maxRecDepth 8000 in
theorem u_Wp_cure_125 (X : pv_X) (v0 : Nat) (v1 : Int32) (v2 : Int32) (v3 : Int32) (v4 : Int32) (v5 : Int32) (v6 : Int32) (h : pv_H) : f_Wp_cure_125 X v0 v1 v2 v3 v4 v5 v6 h =
    f_Wp_cure_38 X v0 v1 v2 v3 v4 (v5 + 2) (some (.int v6)) h := by
  show pS X 7 (some .int) k_Wp_cure 125 [some (.ref v0), some (.int v1), some (.int v2), some (.int v3), some (.int v4), some (.int v5), some (.int v6)] [] h = _
  refine (ss_iinc3 rfl rfl (v := v5 + 2) (congrArg (HAdd.hAdd _) (show Int32.ofInt (2) = 2 by decide)) rfl).trans ?_
  refine (ss_goto rfl).trans ?_
  rfl
theorem e_Wp_cure (X : pv_X) (v0 : Nat) (v1 : Int32) (h : pv_H) : pM X m_Wp_cure [.ref v0, .int v1] h = f_Wp_cure_0 X v0 v1 h := rfl
noncomputable def f_Wp_chance_0 (X : pv_X) (v0 : Nat) (v1 : Int32) (v2 : Int32) (v3 : Int32) (v4 : Int32) (h : pv_H) : Option pv_O := pS X 5 (some .int) k_Wp_chance 0 [some (.ref v0), some (.int v1), some (.int v2), some (.int v3), some (.int v4), none, none, none, none] [] h
noncomputable def f_Wp_chance_18 (X : pv_X) (v0 : Nat) (v1 : Int32) (v2 : Int32) (v3 : Int32) (v4 : Int32) (h : pv_H) : Option pv_O := pS X 5 (some .int) k_Wp_chance 18 [some (.ref v0), some (.int v1), some (.int v2), some (.int v3), some (.int v4), none, none, none, none] [] h
noncomputable def f_Wp_chance_41 (X : pv_X) (v0 : Nat) (v1 : Int32) (v2 : Int32) (v3 : Int32) (v4 : Int32) (h : pv_H) : Option pv_O := pS X 5 (some .int) k_Wp_chance 41 [some (.ref v0), some (.int v1), some (.int v2), some (.int v3), some (.int v4), none, none, none, none] [] h
noncomputable def f_Wp_chance_49 (X : pv_X) (v0 : Nat) (v1 : Int32) (v2 : Int32) (v3 : Int32) (v4 : Int32) (v5 : Int32) (v6 : Int32) (o7 : Option Value) (o8 : Option Value) (h : pv_H) : Option pv_O := pS X 5 (some .int) k_Wp_chance 49 [some (.ref v0), some (.int v1), some (.int v2), some (.int v3), some (.int v4), some (.int v5), some (.int v6), o7, o8] [] h
noncomputable def f_Wp_chance_74 (X : pv_X) (v0 : Nat) (v1 : Int32) (v2 : Int32) (v3 : Int32) (v4 : Int32) (v5 : Int32) (v6 : Int32) (v7 : Int32) (v8 : Int32) (h : pv_H) : Option pv_O := pS X 5 (some .int) k_Wp_chance 74 [some (.ref v0), some (.int v1), some (.int v2), some (.int v3), some (.int v4), some (.int v5), some (.int v6), some (.int v7), some (.int v8)] [] h
noncomputable def f_Wp_chance_119 (X : pv_X) (v0 : Nat) (v1 : Int32) (v2 : Int32) (v3 : Int32) (v4 : Int32) (v5 : Int32) (v6 : Int32) (v7 : Int32) (v8 : Int32) (s0 : Int32) (s1 : Int32) (h : pv_H) : Option pv_O := pS X 5 (some .int) k_Wp_chance 119 [some (.ref v0), some (.int v1), some (.int v2), some (.int v3), some (.int v4), some (.int v5), some (.int v6), some (.int v7), some (.int v8)] [.int s0, .int s1] h
noncomputable def f_Wp_chance_143 (X : pv_X) (v0 : Nat) (v1 : Int32) (v2 : Int32) (v3 : Int32) (v4 : Int32) (v5 : Int32) (v6 : Int32) (v7 : Int32) (v8 : Int32) (s0 : Int32) (s1 : Int32) (s2 : Nat) (h : pv_H) : Option pv_O := pS X 5 (some .int) k_Wp_chance 143 [some (.ref v0), some (.int v1), some (.int v2), some (.int v3), some (.int v4), some (.int v5), some (.int v6), some (.int v7), some (.int v8)] [.int s0, .int s1, .ref s2] h
noncomputable def f_Wp_chance_158 (X : pv_X) (v0 : Nat) (v1 : Int32) (v2 : Int32) (v3 : Int32) (v4 : Int32) (v5 : Int32) (v6 : Int32) (v7 : Int32) (v8 : Int32) (h : pv_H) : Option pv_O := pS X 5 (some .int) k_Wp_chance 158 [some (.ref v0), some (.int v1), some (.int v2), some (.int v3), some (.int v4), some (.int v5), some (.int v6), some (.int v7), some (.int v8)] [] h
noncomputable def f_Wp_chance_183 (X : pv_X) (v0 : Nat) (v1 : Int32) (v2 : Int32) (v3 : Int32) (v4 : Int32) (v5 : Int32) (v6 : Int32) (v7 : Int32) (v8 : Int32) (h : pv_H) : Option pv_O := pS X 5 (some .int) k_Wp_chance 183 [some (.ref v0), some (.int v1), some (.int v2), some (.int v3), some (.int v4), some (.int v5), some (.int v6), some (.int v7), some (.int v8)] [] h
set_option maxRecDepth 8000 in
theorem u_Wp_chance_0 (X : pv_X) (v0 : Nat) (v1 : Int32) (v2 : Int32) (v3 : Int32) (v4 : Int32) (h : pv_H) : f_Wp_chance_0 X v0 v1 v2 v3 v4 h =
    if pv_rc h v0 10 = true then (pv_tI (pM X m_Wp_isPerson [.ref v0, .int v1] h)).bind (fun q1 => if q1.1 = 0 then f_Wp_chance_18 X v0 v1 v2 v3 v4 q1.2 else (pv_tI (pM X m_Wp_isWithin [.int v2, .int 1, .int 60] q1.2)).bind (fun q2 => if ¬ q2.1 = 0 then (pv_tI (pM X m_Wp_isWithin [.int v3, .int 1, .int 6] q2.2)).bind (fun q3 => if q3.1 = 0 then f_Wp_chance_41 X v0 v1 v2 v3 v4 q3.2 else (pv_tI (pM X m_Wp_isWithin [.int v4, .int 0, .int 10] q3.2)).bind (fun q4 => if ¬ q4.1 = 0 then f_Wp_chance_49 X v0 v1 v2 v3 v4 0 0 none none q4.2 else f_Wp_chance_41 X v0 v1 v2 v3 v4 q4.2)) else f_Wp_chance_18 X v0 v1 v2 v3 v4 q2.2)) else none := by
  show pS X 5 (some .int) k_Wp_chance 0 [some (.ref v0), some (.int v1), some (.int v2), some (.int v3), some (.int v4), none, none, none, none] [] h = _
  refine (ss_aload_n rfl rfl).trans ?_
  refine (ss_iload_n rfl rfl).trans ?_
  refine (ss_callVI (as := [.int v1]) rfl t_Wp_isPerson (by decide) rfl rfl (by decide) (Or.inr rfl) ⟨Nat.le_of_ble_eq_true rfl, Nat.le_of_ble_eq_true rfl⟩).trans ?_
  refine pv_ite ?_ rfl
  refine congrArg (Option.bind _) (funext fun q1 => ?_)
  refine (ss_if_eq rfl).trans ?_
  refine pv_ite ?_ ?_
  · rfl
  · refine (ss_iload_n rfl rfl).trans ?_
    refine (ss_iconst rfl (v := 1) rfl).trans ?_
    refine (ss_bipush rfl (v := 60) rfl).trans ?_
    refine (ss_callSI (as := [.int v2, .int 1, .int 60]) rfl t_Wp_isWithin (by decide) rfl rfl (by decide) (Or.inr rfl) ⟨Nat.le_of_ble_eq_true rfl, Nat.le_of_ble_eq_true rfl⟩).trans ?_
    refine congrArg (Option.bind _) (funext fun q2 => ?_)
    refine (ss_if_ne rfl).trans ?_
    refine pv_ite ?_ ?_
    · refine (ss_iload_n rfl rfl).trans ?_
      refine (ss_iconst rfl (v := 1) rfl).trans ?_
      refine (ss_bipush rfl (v := 6) rfl).trans ?_
      refine (ss_callSI (as := [.int v3, .int 1, .int 6]) rfl t_Wp_isWithin (by decide) rfl rfl (by decide) (Or.inr rfl) ⟨Nat.le_of_ble_eq_true rfl, Nat.le_of_ble_eq_true rfl⟩).trans ?_
      refine congrArg (Option.bind _) (funext fun q3 => ?_)
      refine (ss_if_eq rfl).trans ?_
      refine pv_ite ?_ ?_
      · rfl
      · refine (ss_iload rfl rfl).trans ?_
        refine (ss_iconst rfl (v := 0) rfl).trans ?_
        refine (ss_bipush rfl (v := 10) rfl).trans ?_
        refine (ss_callSI (as := [.int v4, .int 0, .int 10]) rfl t_Wp_isWithin (by decide) rfl rfl (by decide) (Or.inr rfl) ⟨Nat.le_of_ble_eq_true rfl, Nat.le_of_ble_eq_true rfl⟩).trans ?_
        refine congrArg (Option.bind _) (funext fun q4 => ?_)
        refine (ss_if_ne rfl).trans ?_
        refine pv_ite ?_ ?_
        · refine (ss_iconst rfl (v := 0) rfl).trans ?_
          refine (ss_istore rfl rfl).trans ?_
          refine (ss_iconst rfl (v := 0) rfl).trans ?_
          refine (ss_istore rfl rfl).trans ?_
          rfl
        · rfl
    · rfl
set_option maxRecDepth 8000 in
theorem u_Wp_chance_18 (X : pv_X) (v0 : Nat) (v1 : Int32) (v2 : Int32) (v3 : Int32) (v4 : Int32) (h : pv_H) : f_Wp_chance_18 X v0 v1 v2 v3 v4 h =
    some (some (.int (-1)), h) := by
  show pS X 5 (some .int) k_Wp_chance 18 [some (.ref v0), some (.int v1), some (.int v2), some (.int v3), some (.int v4), none, none, none, none] [] h = _
  refine (ss_iconst rfl (v := (-1)) rfl).trans ?_
  exact ss_ireturn rfl
set_option maxRecDepth 8000 in
theorem u_Wp_chance_41 (X : pv_X) (v0 : Nat) (v1 : Int32) (v2 : Int32) (v3 : Int32) (v4 : Int32) (h : pv_H) : f_Wp_chance_41 X v0 v1 v2 v3 v4 h =
    some (some (.int (-1)), h) := by
  show pS X 5 (some .int) k_Wp_chance 41 [some (.ref v0), some (.int v1), some (.int v2), some (.int v3), some (.int v4), none, none, none, none] [] h = _
  refine (ss_iconst rfl (v := (-1)) rfl).trans ?_
  exact ss_ireturn rfl
set_option maxRecDepth 8000 in
theorem u_Wp_chance_49 (X : pv_X) (v0 : Nat) (v1 : Int32) (v2 : Int32) (v3 : Int32) (v4 : Int32) (v5 : Int32) (v6 : Int32) (o7 : Option Value) (o8 : Option Value) (h : pv_H) : f_Wp_chance_49 X v0 v1 v2 v3 v4 v5 v6 o7 o8 h =
    if ((1 : Int32) <<< (v3 &&& 31)) ≤ v6 then some (some (.int v5), h) else (pv_fR h v0 10 6).bind (fun x1 => (pv_fR h v0 10 5).bind (fun x2 => if pv_rc h x1 7 = true then (pv_tV (pM X m_St_copy [.ref x1, .ref x2] h)).bind (fun h3 => f_Wp_chance_74 X v0 v1 v2 v3 v4 v5 v6 1 0 h3) else none)) := by
  show pS X 5 (some .int) k_Wp_chance 49 [some (.ref v0), some (.int v1), some (.int v2), some (.int v3), some (.int v4), some (.int v5), some (.int v6), o7, o8] [] h = _
  refine (ss_iload rfl rfl).trans ?_
  refine (ss_iconst rfl (v := 1) rfl).trans ?_
  refine (ss_iload_n rfl rfl).trans ?_
  refine (ss_ishl rfl).trans ?_
  refine (ss_icmp_ge rfl).trans ?_
  refine pv_ite ?_ ?_
  · refine (ss_iload rfl rfl).trans ?_
    exact ss_ireturn rfl
  · refine (ss_iconst rfl (v := 1) rfl).trans ?_
    refine (ss_istore rfl rfl).trans ?_
    refine (ss_aload_n rfl rfl).trans ?_
    refine (ss_getR rfl).trans ?_
    refine congrArg (Option.bind _) (funext fun x1 => ?_)
    refine (ss_aload_n rfl rfl).trans ?_
    refine (ss_getR rfl).trans ?_
    refine congrArg (Option.bind _) (funext fun x2 => ?_)
    refine (ss_callVN (as := [.ref x2]) rfl t_St_copy (by decide) rfl rfl (by decide) rfl ⟨Nat.le_of_ble_eq_true rfl, Nat.le_of_ble_eq_true rfl⟩).trans ?_
    refine pv_ite ?_ rfl
    refine congrArg (Option.bind _) (funext fun h3 => ?_)
    refine (ss_iconst rfl (v := 0) rfl).trans ?_
    refine (ss_istore rfl rfl).trans ?_
    rfl
set_option maxRecDepth 8000 in
theorem u_Wp_chance_74 (X : pv_X) (v0 : Nat) (v1 : Int32) (v2 : Int32) (v3 : Int32) (v4 : Int32) (v5 : Int32) (v6 : Int32) (v7 : Int32) (v8 : Int32) (h : pv_H) : f_Wp_chance_74 X v0 v1 v2 v3 v4 v5 v6 v7 v8 h =
    if 6 ≤ v8 then (pv_fR h v0 10 6).bind (fun x1 => (pv_tI (pM X m_Wp_farOf [.ref x1, .int v1] h)).bind (fun q2 => if q2.1 < v2 then f_Wp_chance_183 X v0 v1 v2 v3 v4 v5 v6 v7 v8 q2.2 else f_Wp_chance_183 X v0 v1 v2 v3 v4 (v5 + v7) v6 v7 v8 q2.2)) else if v8 < v3 then (pv_tI (pM X m_Wp_has [.int v6, .int v8] h)).bind (fun q3 => if q3.1 = 0 then f_Wp_chance_119 X v0 v1 v2 v3 v4 v5 v6 v7 v8 (10 - v4) v7 q3.2 else f_Wp_chance_119 X v0 v1 v2 v3 v4 v5 v6 v7 v8 v4 v7 q3.2) else f_Wp_chance_158 X v0 v1 v2 v3 v4 v5 v6 (v7 * 10) v8 h := by
  show pS X 5 (some .int) k_Wp_chance 74 [some (.ref v0), some (.int v1), some (.int v2), some (.int v3), some (.int v4), some (.int v5), some (.int v6), some (.int v7), some (.int v8)] [] h = _
  refine (ss_iload rfl rfl).trans ?_
  refine (ss_bipush rfl (v := 6) rfl).trans ?_
  refine (ss_icmp_ge rfl).trans ?_
  refine pv_ite ?_ ?_
  · refine (ss_aload_n rfl rfl).trans ?_
    refine (ss_getR rfl).trans ?_
    refine congrArg (Option.bind _) (funext fun x1 => ?_)
    refine (ss_iload_n rfl rfl).trans ?_
    refine (ss_callSI (as := [.ref x1, .int v1]) rfl t_Wp_farOf (by decide) rfl rfl (by decide) (Or.inl rfl) ⟨Nat.le_of_ble_eq_true rfl, Nat.le_of_ble_eq_true rfl⟩).trans ?_
    refine congrArg (Option.bind _) (funext fun q2 => ?_)
    refine (ss_iload_n rfl rfl).trans ?_
    refine (ss_icmp_lt rfl).trans ?_
    refine pv_ite ?_ ?_
    · rfl
    · refine (ss_iload rfl rfl).trans ?_
      refine (ss_iload rfl rfl).trans ?_
      refine (ss_iadd rfl).trans ?_
      refine (ss_istore rfl rfl).trans ?_
      rfl
  · refine (ss_iload rfl rfl).trans ?_
    refine (ss_iload_n rfl rfl).trans ?_
    refine (ss_icmp_lt rfl).trans ?_
    refine pv_ite ?_ ?_
    · refine (ss_iload rfl rfl).trans ?_
      refine (ss_iload rfl rfl).trans ?_
      refine (ss_iload rfl rfl).trans ?_
      refine (ss_callSI (as := [.int v6, .int v8]) rfl t_Wp_has (by decide) rfl rfl (by simp [Value.category]) (Or.inr rfl) ⟨Nat.le_of_ble_eq_true rfl, Nat.le_of_ble_eq_true rfl⟩).trans ?_
      refine congrArg (Option.bind _) (funext fun q3 => ?_)
      refine (ss_if_eq rfl).trans ?_
      refine pv_ite ?_ ?_
      · refine (ss_bipush rfl (v := 10) rfl).trans ?_
        refine (ss_iload rfl rfl).trans ?_
        refine (ss_isub rfl).trans ?_
        rfl
      · refine (ss_iload rfl rfl).trans ?_
        refine (ss_goto rfl).trans ?_
        rfl
    · refine (ss_iload rfl rfl).trans ?_
      refine (ss_bipush rfl (v := 10) rfl).trans ?_
      refine (ss_imul rfl).trans ?_
      refine (ss_istore rfl rfl).trans ?_
      refine (ss_goto rfl).trans ?_
      rfl
set_option maxRecDepth 8000 in
theorem u_Wp_chance_119 (X : pv_X) (v0 : Nat) (v1 : Int32) (v2 : Int32) (v3 : Int32) (v4 : Int32) (v5 : Int32) (v6 : Int32) (v7 : Int32) (v8 : Int32) (s0 : Int32) (s1 : Int32) (h : pv_H) : f_Wp_chance_119 X v0 v1 v2 v3 v4 v5 v6 v7 v8 s0 s1 h =
    (pv_fR h v0 10 6).bind (fun x1 => (pv_tI (pM X m_Wp_has [.int v6, .int v8] h)).bind (fun q2 => if q2.1 = 0 then f_Wp_chance_143 X v0 v1 v2 v3 v4 v5 v6 (s1 * s0) v8 0 v1 x1 q2.2 else f_Wp_chance_143 X v0 v1 v2 v3 v4 v5 v6 (s1 * s0) v8 20 v1 x1 q2.2)) := by
  show pS X 5 (some .int) k_Wp_chance 119 [some (.ref v0), some (.int v1), some (.int v2), some (.int v3), some (.int v4), some (.int v5), some (.int v6), some (.int v7), some (.int v8)] [.int s0, .int s1] h = _
  refine (ss_imul rfl).trans ?_
  refine (ss_istore rfl rfl).trans ?_
  refine (ss_aload_n rfl rfl).trans ?_
  refine (ss_getR rfl).trans ?_
  refine congrArg (Option.bind _) (funext fun x1 => ?_)
  refine (ss_iload_n rfl rfl).trans ?_
  refine (ss_iload rfl rfl).trans ?_
  refine (ss_iload rfl rfl).trans ?_
  refine (ss_callSI (as := [.int v6, .int v8]) rfl t_Wp_has (by decide) rfl rfl (by simp [Value.category]) (Or.inr rfl) ⟨Nat.le_of_ble_eq_true rfl, Nat.le_of_ble_eq_true rfl⟩).trans ?_
  refine congrArg (Option.bind _) (funext fun q2 => ?_)
  refine (ss_if_eq rfl).trans ?_
  refine pv_ite ?_ ?_
  · refine (ss_iconst rfl (v := 0) rfl).trans ?_
    rfl
  · refine (ss_bipush rfl (v := 20) rfl).trans ?_
    refine (ss_goto rfl).trans ?_
    rfl
set_option maxRecDepth 8000 in
theorem u_Wp_chance_143 (X : pv_X) (v0 : Nat) (v1 : Int32) (v2 : Int32) (v3 : Int32) (v4 : Int32) (v5 : Int32) (v6 : Int32) (v7 : Int32) (v8 : Int32) (s0 : Int32) (s1 : Int32) (s2 : Nat) (h : pv_H) : f_Wp_chance_143 X v0 v1 v2 v3 v4 v5 v6 v7 v8 s0 s1 s2 h =
    if pv_rc h s2 7 = true then (pv_tV (pM X m_St_moveBeats [.ref s2, .int s1, .int s0] h)).bind (fun h1 => (pv_fR h1 v0 10 1).bind (fun x2 => (pv_fR h1 v0 10 6).bind (fun x3 => if pv_rc h1 x2 6 = true then (pv_tI (pM X m_Po_passQuarter [.ref x2, .ref x3] h1)).bind (fun q4 => f_Wp_chance_158 X v0 v1 v2 v3 v4 v5 v6 v7 v8 q4.2) else none))) else none := by
  show pS X 5 (some .int) k_Wp_chance 143 [some (.ref v0), some (.int v1), some (.int v2), some (.int v3), some (.int v4), some (.int v5), some (.int v6), some (.int v7), some (.int v8)] [.int s0, .int s1, .ref s2] h = _
  refine (ss_callVN (as := [.int s1, .int s0]) rfl t_St_moveBeats (by decide) rfl rfl (by decide) rfl ⟨Nat.le_of_ble_eq_true rfl, Nat.le_of_ble_eq_true rfl⟩).trans ?_
  refine pv_ite ?_ rfl
  refine congrArg (Option.bind _) (funext fun h1 => ?_)
  refine (ss_aload_n rfl rfl).trans ?_
  refine (ss_getR rfl).trans ?_
  refine congrArg (Option.bind _) (funext fun x2 => ?_)
  refine (ss_aload_n rfl rfl).trans ?_
  refine (ss_getR rfl).trans ?_
  refine congrArg (Option.bind _) (funext fun x3 => ?_)
  refine (ss_callVI (as := [.ref x3]) rfl t_Po_passQuarter (by decide) rfl rfl (by decide) (Or.inl rfl) ⟨Nat.le_of_ble_eq_true rfl, Nat.le_of_ble_eq_true rfl⟩).trans ?_
  refine pv_ite ?_ rfl
  refine congrArg (Option.bind _) (funext fun q4 => ?_)
  refine (ss_popI rfl).trans ?_
  rfl
set_option maxRecDepth 8000 in
theorem u_Wp_chance_158 (X : pv_X) (v0 : Nat) (v1 : Int32) (v2 : Int32) (v3 : Int32) (v4 : Int32) (v5 : Int32) (v6 : Int32) (v7 : Int32) (v8 : Int32) (h : pv_H) : f_Wp_chance_158 X v0 v1 v2 v3 v4 v5 v6 v7 v8 h =
    f_Wp_chance_74 X v0 v1 v2 v3 v4 v5 v6 v7 (v8 + 1) h := by
  show pS X 5 (some .int) k_Wp_chance 158 [some (.ref v0), some (.int v1), some (.int v2), some (.int v3), some (.int v4), some (.int v5), some (.int v6), some (.int v7), some (.int v8)] [] h = _
  refine (ss_iinc3 rfl rfl (v := v8 + 1) (congrArg (HAdd.hAdd _) (show Int32.ofInt (1) = 1 by decide)) rfl).trans ?_
  refine (ss_goto rfl).trans ?_
  rfl
set_option maxRecDepth 8000 in
theorem u_Wp_chance_183 (X : pv_X) (v0 : Nat) (v1 : Int32) (v2 : Int32) (v3 : Int32) (v4 : Int32) (v5 : Int32) (v6 : Int32) (v7 : Int32) (v8 : Int32) (h : pv_H) : f_Wp_chance_183 X v0 v1 v2 v3 v4 v5 v6 v7 v8 h =
    f_Wp_chance_49 X v0 v1 v2 v3 v4 v5 (v6 + 1) (some (.int v7)) (some (.int v8)) h := by
  show pS X 5 (some .int) k_Wp_chance 183 [some (.ref v0), some (.int v1), some (.int v2), some (.int v3), some (.int v4), some (.int v5), some (.int v6), some (.int v7), some (.int v8)] [] h = _
  refine (ss_iinc3 rfl rfl (v := v6 + 1) (congrArg (HAdd.hAdd _) (show Int32.ofInt (1) = 1 by decide)) rfl).trans ?_
  refine (ss_goto rfl).trans ?_
  rfl
theorem e_Wp_chance (X : pv_X) (v0 : Nat) (v1 : Int32) (v2 : Int32) (v3 : Int32) (v4 : Int32) (h : pv_H) : pM X m_Wp_chance [.ref v0, .int v1, .int v2, .int v3, .int v4] h = f_Wp_chance_0 X v0 v1 v2 v3 v4 h := rfl
noncomputable def f_Wp_isBest_0 (X : pv_X) (v0 : Int32) (v1 : Int32) (v2 : Int32) (v3 : Int32) (v4 : Int32) (h : pv_H) : Option pv_O := pS X 1 (some .boolean) k_Wp_isBest 0 [some (.int v0), some (.int v1), some (.int v2), some (.int v3), some (.int v4), none, none] [] h
noncomputable def f_Wp_isBest_11 (X : pv_X) (v0 : Int32) (v1 : Int32) (v2 : Int32) (v3 : Int32) (v4 : Int32) (s0 : Int32) (h : pv_H) : Option pv_O := pS X 1 (some .boolean) k_Wp_isBest 11 [some (.int v0), some (.int v1), some (.int v2), some (.int v3), some (.int v4), none, none] [.int s0] h
noncomputable def f_Wp_isBest_24 (X : pv_X) (v0 : Int32) (v1 : Int32) (v2 : Int32) (v3 : Int32) (v4 : Int32) (v5 : Int32) (s0 : Int32) (h : pv_H) : Option pv_O := pS X 1 (some .boolean) k_Wp_isBest 24 [some (.int v0), some (.int v1), some (.int v2), some (.int v3), some (.int v4), some (.int v5), none] [.int s0] h
noncomputable def f_Wp_isBest_58 (X : pv_X) (v0 : Int32) (v1 : Int32) (v2 : Int32) (v3 : Int32) (v4 : Int32) (v5 : Int32) (v6 : Int32) (s0 : Int32) (h : pv_H) : Option pv_O := pS X 1 (some .boolean) k_Wp_isBest 58 [some (.int v0), some (.int v1), some (.int v2), some (.int v3), some (.int v4), some (.int v5), some (.int v6)] [.int s0] h
set_option maxRecDepth 8000 in
theorem u_Wp_isBest_0 (X : pv_X) (v0 : Int32) (v1 : Int32) (v2 : Int32) (v3 : Int32) (v4 : Int32) (h : pv_H) : f_Wp_isBest_0 X v0 v1 v2 v3 v4 h =
    if ¬ v1 = 1 then f_Wp_isBest_11 X v0 v1 v2 v3 v4 (-v3) h else f_Wp_isBest_11 X v0 v1 v2 v3 v4 v2 h := by
  show pS X 1 (some .boolean) k_Wp_isBest 0 [some (.int v0), some (.int v1), some (.int v2), some (.int v3), some (.int v4), none, none] [] h = _
  refine (ss_iload_n rfl rfl).trans ?_
  refine (ss_iconst rfl (v := 1) rfl).trans ?_
  refine (ss_icmp_ne rfl).trans ?_
  refine pv_ite ?_ ?_
  · refine (ss_iload_n rfl rfl).trans ?_
    refine (ss_ineg rfl).trans ?_
    rfl
  · refine (ss_iload_n rfl rfl).trans ?_
    refine (ss_goto rfl).trans ?_
    rfl
set_option maxRecDepth 8000 in
theorem u_Wp_isBest_11 (X : pv_X) (v0 : Int32) (v1 : Int32) (v2 : Int32) (v3 : Int32) (v4 : Int32) (s0 : Int32) (h : pv_H) : f_Wp_isBest_11 X v0 v1 v2 v3 v4 s0 h =
    if ¬ v1 = 1 then f_Wp_isBest_24 X v0 v1 v2 v3 v4 s0 0 h else f_Wp_isBest_24 X v0 v1 v2 v3 v4 s0 v4 h := by
  show pS X 1 (some .boolean) k_Wp_isBest 11 [some (.int v0), some (.int v1), some (.int v2), some (.int v3), some (.int v4), none, none] [.int s0] h = _
  refine (ss_istore rfl rfl).trans ?_
  refine (ss_iload_n rfl rfl).trans ?_
  refine (ss_iconst rfl (v := 1) rfl).trans ?_
  refine (ss_icmp_ne rfl).trans ?_
  refine pv_ite ?_ ?_
  · refine (ss_iconst rfl (v := 0) rfl).trans ?_
    rfl
  · refine (ss_iload rfl rfl).trans ?_
    refine (ss_goto rfl).trans ?_
    rfl
set_option maxRecDepth 8000 in
theorem u_Wp_isBest_24 (X : pv_X) (v0 : Int32) (v1 : Int32) (v2 : Int32) (v3 : Int32) (v4 : Int32) (v5 : Int32) (s0 : Int32) (h : pv_H) : f_Wp_isBest_24 X v0 v1 v2 v3 v4 v5 s0 h =
    if ¬ v0 = 1 then if s0 < v5 then f_Wp_isBest_58 X v0 v1 v2 v3 v4 v5 s0 0 h else f_Wp_isBest_58 X v0 v1 v2 v3 v4 v5 s0 1 h else if v5 < s0 then f_Wp_isBest_58 X v0 v1 v2 v3 v4 v5 s0 0 h else f_Wp_isBest_58 X v0 v1 v2 v3 v4 v5 s0 1 h := by
  show pS X 1 (some .boolean) k_Wp_isBest 24 [some (.int v0), some (.int v1), some (.int v2), some (.int v3), some (.int v4), some (.int v5), none] [.int s0] h = _
  refine (ss_istore rfl rfl).trans ?_
  refine (ss_iload_n rfl rfl).trans ?_
  refine (ss_iconst rfl (v := 1) rfl).trans ?_
  refine (ss_icmp_ne rfl).trans ?_
  refine pv_ite ?_ ?_
  · refine (ss_iload rfl rfl).trans ?_
    refine (ss_iload rfl rfl).trans ?_
    refine (ss_icmp_lt rfl).trans ?_
    refine pv_ite ?_ ?_
    · refine (ss_iconst rfl (v := 0) rfl).trans ?_
      rfl
    · refine (ss_iconst rfl (v := 1) rfl).trans ?_
      refine (ss_goto rfl).trans ?_
      rfl
  · refine (ss_iload rfl rfl).trans ?_
    refine (ss_iload rfl rfl).trans ?_
    refine (ss_icmp_lt rfl).trans ?_
    refine pv_ite ?_ ?_
    · refine (ss_iconst rfl (v := 0) rfl).trans ?_
      refine (ss_goto rfl).trans ?_
      rfl
    · refine (ss_iconst rfl (v := 1) rfl).trans ?_
      refine (ss_goto rfl).trans ?_
      rfl
set_option maxRecDepth 8000 in
theorem u_Wp_isBest_58 (X : pv_X) (v0 : Int32) (v1 : Int32) (v2 : Int32) (v3 : Int32) (v4 : Int32) (v5 : Int32) (v6 : Int32) (s0 : Int32) (h : pv_H) : f_Wp_isBest_58 X v0 v1 v2 v3 v4 v5 v6 s0 h =
    if s0 = 0 ∨ s0 = 1 then some (some (.int s0), h) else none := by
  show pS X 1 (some .boolean) k_Wp_isBest 58 [some (.int v0), some (.int v1), some (.int v2), some (.int v3), some (.int v4), some (.int v5), some (.int v6)] [.int s0] h = _
  exact ss_zreturn rfl
theorem e_Wp_isBest (X : pv_X) (v0 : Int32) (v1 : Int32) (v2 : Int32) (v3 : Int32) (v4 : Int32) (h : pv_H) : pM X m_Wp_isBest [.int v0, .int v1, .int v2, .int v3, .int v4] h = f_Wp_isBest_0 X v0 v1 v2 v3 v4 h := rfl
noncomputable def f_Wp_years_0 (X : pv_X) (v0 : Nat) (v1 : Int32) (v2 : Int32) (v3 : Int32) (h : pv_H) : Option pv_O := pS X 5 (some .int) k_Wp_years 0 [some (.ref v0), some (.int v1), some (.int v2), some (.int v3), none] [] h
noncomputable def f_Wp_years_30 (X : pv_X) (v0 : Nat) (v1 : Int32) (v2 : Int32) (v3 : Int32) (h : pv_H) : Option pv_O := pS X 5 (some .int) k_Wp_years 30 [some (.ref v0), some (.int v1), some (.int v2), some (.int v3), none] [] h
noncomputable def f_Wp_years_55 (X : pv_X) (v0 : Nat) (v1 : Int32) (v2 : Int32) (v3 : Int32) (v4 : Int32) (h : pv_H) : Option pv_O := pS X 5 (some .int) k_Wp_years 55 [some (.ref v0), some (.int v1), some (.int v2), some (.int v3), some (.int v4)] [] h
noncomputable def f_Wp_years_82 (X : pv_X) (v0 : Nat) (v1 : Int32) (v2 : Int32) (v3 : Int32) (v4 : Int32) (h : pv_H) : Option pv_O := pS X 5 (some .int) k_Wp_years 82 [some (.ref v0), some (.int v1), some (.int v2), some (.int v3), some (.int v4)] [] h
noncomputable def f_Wp_years_146 (X : pv_X) (v0 : Nat) (v1 : Int32) (v2 : Int32) (v3 : Int32) (v4 : Int32) (s0 : Int32) (h : pv_H) : Option pv_O := pS X 5 (some .int) k_Wp_years 146 [some (.ref v0), some (.int v1), some (.int v2), some (.int v3), some (.int v4)] [.int s0] h
set_option maxRecDepth 8000 in
theorem u_Wp_years_0 (X : pv_X) (v0 : Nat) (v1 : Int32) (v2 : Int32) (v3 : Int32) (h : pv_H) : f_Wp_years_0 X v0 v1 v2 v3 h =
    (pv_tI (pM X m_Wp_isWithin [.int v1, .int 0, .int 9999] h)).bind (fun q1 => if q1.1 = 0 then f_Wp_years_30 X v0 v1 v2 v3 q1.2 else (pv_tI (pM X m_Wp_isWithin [.int v2, .int 1, .int 99] q1.2)).bind (fun q2 => if q2.1 = 0 then f_Wp_years_30 X v0 v1 v2 v3 q2.2 else (pv_tI (pM X m_Wp_isWithin [.int v3, .int 0, .int 2] q2.2)).bind (fun q3 => if ¬ q3.1 = 0 then (pv_fR q3.2 v0 10 12).bind (fun x4 => (pv_fp q3.2 x4 2 0 (.long (v1 : Int32).toInt64)).bind (fun h5 => (pv_fR h5 v0 10 6).bind (fun x6 => (pv_fR h5 v0 10 5).bind (fun x7 => if pv_rc h5 x6 7 = true then (pv_tV (pM X m_St_copy [.ref x6, .ref x7] h5)).bind (fun h8 => f_Wp_years_55 X v0 v1 v2 v3 0 h8) else none)))) else f_Wp_years_30 X v0 v1 v2 v3 q3.2))) := by
  show pS X 5 (some .int) k_Wp_years 0 [some (.ref v0), some (.int v1), some (.int v2), some (.int v3), none] [] h = _
  refine (ss_iload_n rfl rfl).trans ?_
  refine (ss_iconst rfl (v := 0) rfl).trans ?_
  refine (ss_sipush rfl (v := 9999) rfl).trans ?_
  refine (ss_callSI (as := [.int v1, .int 0, .int 9999]) rfl t_Wp_isWithin (by decide) rfl rfl (by decide) (Or.inr rfl) ⟨Nat.le_of_ble_eq_true rfl, Nat.le_of_ble_eq_true rfl⟩).trans ?_
  refine congrArg (Option.bind _) (funext fun q1 => ?_)
  refine (ss_if_eq rfl).trans ?_
  refine pv_ite ?_ ?_
  · rfl
  · refine (ss_iload_n rfl rfl).trans ?_
    refine (ss_iconst rfl (v := 1) rfl).trans ?_
    refine (ss_bipush rfl (v := 99) rfl).trans ?_
    refine (ss_callSI (as := [.int v2, .int 1, .int 99]) rfl t_Wp_isWithin (by decide) rfl rfl (by decide) (Or.inr rfl) ⟨Nat.le_of_ble_eq_true rfl, Nat.le_of_ble_eq_true rfl⟩).trans ?_
    refine congrArg (Option.bind _) (funext fun q2 => ?_)
    refine (ss_if_eq rfl).trans ?_
    refine pv_ite ?_ ?_
    · rfl
    · refine (ss_iload_n rfl rfl).trans ?_
      refine (ss_iconst rfl (v := 0) rfl).trans ?_
      refine (ss_iconst rfl (v := 2) rfl).trans ?_
      refine (ss_callSI (as := [.int v3, .int 0, .int 2]) rfl t_Wp_isWithin (by decide) rfl rfl (by decide) (Or.inr rfl) ⟨Nat.le_of_ble_eq_true rfl, Nat.le_of_ble_eq_true rfl⟩).trans ?_
      refine congrArg (Option.bind _) (funext fun q3 => ?_)
      refine (ss_if_ne rfl).trans ?_
      refine pv_ite ?_ ?_
      · refine (ss_aload_n rfl rfl).trans ?_
        refine (ss_getR rfl).trans ?_
        refine congrArg (Option.bind _) (funext fun x4 => ?_)
        refine (ss_iload_n rfl rfl).trans ?_
        refine (ss_i2l rfl).trans ?_
        refine (ss_putJ rfl).trans ?_
        refine congrArg (Option.bind _) (funext fun h5 => ?_)
        refine (ss_aload_n rfl rfl).trans ?_
        refine (ss_getR rfl).trans ?_
        refine congrArg (Option.bind _) (funext fun x6 => ?_)
        refine (ss_aload_n rfl rfl).trans ?_
        refine (ss_getR rfl).trans ?_
        refine congrArg (Option.bind _) (funext fun x7 => ?_)
        refine (ss_callVN (as := [.ref x7]) rfl t_St_copy (by decide) rfl rfl (by decide) rfl ⟨Nat.le_of_ble_eq_true rfl, Nat.le_of_ble_eq_true rfl⟩).trans ?_
        refine pv_ite ?_ rfl
        refine congrArg (Option.bind _) (funext fun h8 => ?_)
        refine (ss_iconst rfl (v := 0) rfl).trans ?_
        refine (ss_istore rfl rfl).trans ?_
        rfl
      · rfl
set_option maxRecDepth 8000 in
theorem u_Wp_years_30 (X : pv_X) (v0 : Nat) (v1 : Int32) (v2 : Int32) (v3 : Int32) (h : pv_H) : f_Wp_years_30 X v0 v1 v2 v3 h =
    some (some (.int (-1)), h) := by
  show pS X 5 (some .int) k_Wp_years 30 [some (.ref v0), some (.int v1), some (.int v2), some (.int v3), none] [] h = _
  refine (ss_iconst rfl (v := (-1)) rfl).trans ?_
  exact ss_ireturn rfl
set_option maxRecDepth 8000 in
theorem u_Wp_years_55 (X : pv_X) (v0 : Nat) (v1 : Int32) (v2 : Int32) (v3 : Int32) (v4 : Int32) (h : pv_H) : f_Wp_years_55 X v0 v1 v2 v3 v4 h =
    if v2 ≤ v4 then if ¬ v3 = 0 then if ¬ v3 = 1 then (pv_fR h v0 10 6).bind (fun x1 => if pv_rc h v0 10 = true then (pv_tI (pM X m_Wp_allBeats [.ref v0, .ref x1] h)).bind (fun q2 => f_Wp_years_146 X v0 v1 v2 v3 v4 q2.1 q2.2) else none) else (pv_fR h v0 10 6).bind (fun x3 => if pv_rc h v0 10 = true then (pv_tI (pM X m_Wp_worstOut [.ref v0, .ref x3] h)).bind (fun q4 => f_Wp_years_146 X v0 v1 v2 v3 v4 q4.1 q4.2) else none) else (pv_fR h v0 10 6).bind (fun x5 => if pv_rc h v0 10 = true then (pv_tI (pM X m_Wp_allAsked [.ref v0, .ref x5] h)).bind (fun q6 => (pv_fR q6.2 v0 10 5).bind (fun x7 => if pv_rc q6.2 v0 10 = true then (pv_tI (pM X m_Wp_allAsked [.ref v0, .ref x7] q6.2)).bind (fun q8 => some (some (.int (q6.1 - q8.1)), q8.2)) else none)) else none) else (pv_fR h v0 10 1).bind (fun x9 => (pv_fI h x9 6 6).bind (fun x10 => if x10 ≤ 0 then f_Wp_years_82 X v0 v1 v2 v3 v4 h else (pv_fR h v0 10 1).bind (fun x11 => (pv_fI h x11 6 6).bind (fun x12 => if pv_rc h v0 10 = true then (pv_tV (pM X m_Wp_drawOne [.ref v0, .int x12] h)).bind (fun h13 => f_Wp_years_82 X v0 v1 v2 v3 v4 h13) else none)))) := by
  show pS X 5 (some .int) k_Wp_years 55 [some (.ref v0), some (.int v1), some (.int v2), some (.int v3), some (.int v4)] [] h = _
  refine (ss_iload rfl rfl).trans ?_
  refine (ss_iload_n rfl rfl).trans ?_
  refine (ss_icmp_ge rfl).trans ?_
  refine pv_ite ?_ ?_
  · refine (ss_iload_n rfl rfl).trans ?_
    refine (ss_if_ne rfl).trans ?_
    refine pv_ite ?_ ?_
    · refine (ss_iload_n rfl rfl).trans ?_
      refine (ss_iconst rfl (v := 1) rfl).trans ?_
      refine (ss_icmp_ne rfl).trans ?_
      refine pv_ite ?_ ?_
      · refine (ss_aload_n rfl rfl).trans ?_
        refine (ss_aload_n rfl rfl).trans ?_
        refine (ss_getR rfl).trans ?_
        refine congrArg (Option.bind _) (funext fun x1 => ?_)
        refine (ss_callVI (as := [.ref x1]) rfl t_Wp_allBeats (by decide) rfl rfl (by decide) (Or.inl rfl) ⟨Nat.le_of_ble_eq_true rfl, Nat.le_of_ble_eq_true rfl⟩).trans ?_
        refine pv_ite ?_ rfl
        refine congrArg (Option.bind _) (funext fun q2 => ?_)
        rfl
      · refine (ss_aload_n rfl rfl).trans ?_
        refine (ss_aload_n rfl rfl).trans ?_
        refine (ss_getR rfl).trans ?_
        refine congrArg (Option.bind _) (funext fun x3 => ?_)
        refine (ss_callVI (as := [.ref x3]) rfl t_Wp_worstOut (by decide) rfl rfl (by decide) (Or.inl rfl) ⟨Nat.le_of_ble_eq_true rfl, Nat.le_of_ble_eq_true rfl⟩).trans ?_
        refine pv_ite ?_ rfl
        refine congrArg (Option.bind _) (funext fun q4 => ?_)
        refine (ss_goto rfl).trans ?_
        rfl
    · refine (ss_aload_n rfl rfl).trans ?_
      refine (ss_aload_n rfl rfl).trans ?_
      refine (ss_getR rfl).trans ?_
      refine congrArg (Option.bind _) (funext fun x5 => ?_)
      refine (ss_callVI (as := [.ref x5]) rfl t_Wp_allAsked (by decide) rfl rfl (by decide) (Or.inl rfl) ⟨Nat.le_of_ble_eq_true rfl, Nat.le_of_ble_eq_true rfl⟩).trans ?_
      refine pv_ite ?_ rfl
      refine congrArg (Option.bind _) (funext fun q6 => ?_)
      refine (ss_aload_n rfl rfl).trans ?_
      refine (ss_aload_n rfl rfl).trans ?_
      refine (ss_getR rfl).trans ?_
      refine congrArg (Option.bind _) (funext fun x7 => ?_)
      refine (ss_callVI (as := [.ref x7]) rfl t_Wp_allAsked (by decide) rfl rfl (by simp [Value.category]) (Or.inl rfl) ⟨Nat.le_of_ble_eq_true rfl, Nat.le_of_ble_eq_true rfl⟩).trans ?_
      refine pv_ite ?_ rfl
      refine congrArg (Option.bind _) (funext fun q8 => ?_)
      refine (ss_isub rfl).trans ?_
      exact ss_ireturn rfl
  · refine (ss_aload_n rfl rfl).trans ?_
    refine (ss_getR rfl).trans ?_
    refine congrArg (Option.bind _) (funext fun x9 => ?_)
    refine (ss_getI rfl).trans ?_
    refine congrArg (Option.bind _) (funext fun x10 => ?_)
    refine (ss_if_le rfl).trans ?_
    refine pv_ite ?_ ?_
    · rfl
    · refine (ss_aload_n rfl rfl).trans ?_
      refine (ss_aload_n rfl rfl).trans ?_
      refine (ss_getR rfl).trans ?_
      refine congrArg (Option.bind _) (funext fun x11 => ?_)
      refine (ss_getI rfl).trans ?_
      refine congrArg (Option.bind _) (funext fun x12 => ?_)
      refine (ss_callVN (as := [.int x12]) rfl t_Wp_drawOne (by decide) rfl rfl (by decide) rfl ⟨Nat.le_of_ble_eq_true rfl, Nat.le_of_ble_eq_true rfl⟩).trans ?_
      refine pv_ite ?_ rfl
      refine congrArg (Option.bind _) (funext fun h13 => ?_)
      rfl
set_option maxRecDepth 8000 in
theorem u_Wp_years_82 (X : pv_X) (v0 : Nat) (v1 : Int32) (v2 : Int32) (v3 : Int32) (v4 : Int32) (h : pv_H) : f_Wp_years_82 X v0 v1 v2 v3 v4 h =
    (pv_fR h v0 10 1).bind (fun x1 => (pv_fR h v0 10 6).bind (fun x2 => if pv_rc h x1 6 = true then (pv_tI (pM X m_Po_passQuarter [.ref x1, .ref x2] h)).bind (fun q3 => f_Wp_years_55 X v0 v1 v2 v3 (v4 + 1) q3.2) else none)) := by
  show pS X 5 (some .int) k_Wp_years 82 [some (.ref v0), some (.int v1), some (.int v2), some (.int v3), some (.int v4)] [] h = _
  refine (ss_aload_n rfl rfl).trans ?_
  refine (ss_getR rfl).trans ?_
  refine congrArg (Option.bind _) (funext fun x1 => ?_)
  refine (ss_aload_n rfl rfl).trans ?_
  refine (ss_getR rfl).trans ?_
  refine congrArg (Option.bind _) (funext fun x2 => ?_)
  refine (ss_callVI (as := [.ref x2]) rfl t_Po_passQuarter (by decide) rfl rfl (by decide) (Or.inl rfl) ⟨Nat.le_of_ble_eq_true rfl, Nat.le_of_ble_eq_true rfl⟩).trans ?_
  refine pv_ite ?_ rfl
  refine congrArg (Option.bind _) (funext fun q3 => ?_)
  refine (ss_popI rfl).trans ?_
  refine (ss_iinc3 rfl rfl (v := v4 + 1) (congrArg (HAdd.hAdd _) (show Int32.ofInt (1) = 1 by decide)) rfl).trans ?_
  refine (ss_goto rfl).trans ?_
  rfl
set_option maxRecDepth 8000 in
theorem u_Wp_years_146 (X : pv_X) (v0 : Nat) (v1 : Int32) (v2 : Int32) (v3 : Int32) (v4 : Int32) (s0 : Int32) (h : pv_H) : f_Wp_years_146 X v0 v1 v2 v3 v4 s0 h =
    some (some (.int s0), h) := by
  show pS X 5 (some .int) k_Wp_years 146 [some (.ref v0), some (.int v1), some (.int v2), some (.int v3), some (.int v4)] [.int s0] h = _
  exact ss_ireturn rfl
theorem e_Wp_years (X : pv_X) (v0 : Nat) (v1 : Int32) (v2 : Int32) (v3 : Int32) (h : pv_H) : pM X m_Wp_years [.ref v0, .int v1, .int v2, .int v3] h = f_Wp_years_0 X v0 v1 v2 v3 h := rfl
noncomputable def f_Wp_drawOne_0 (X : pv_X) (v0 : Nat) (v1 : Int32) (h : pv_H) : Option pv_O := pS X 3 (none) k_Wp_drawOne 0 [some (.ref v0), some (.int v1), none, none, none] [] h
noncomputable def f_Wp_drawOne_54 (X : pv_X) (v0 : Nat) (v1 : Int32) (v2 : Int32) (v3 : Int32) (v4 : Int32) (h : pv_H) : Option pv_O := pS X 3 (none) k_Wp_drawOne 54 [some (.ref v0), some (.int v1), some (.int v2), some (.int v3), some (.int v4)] [] h
noncomputable def f_Wp_drawOne_88 (X : pv_X) (v0 : Nat) (v1 : Int32) (v2 : Int32) (v3 : Int32) (v4 : Int32) (s0 : Int32) (s1 : Int32) (s2 : Nat) (h : pv_H) : Option pv_O := pS X 3 (none) k_Wp_drawOne 88 [some (.ref v0), some (.int v1), some (.int v2), some (.int v3), some (.int v4)] [.int s0, .int s1, .ref s2] h
noncomputable def f_Wp_drawOne_91 (X : pv_X) (v0 : Nat) (v1 : Int32) (v2 : Int32) (v3 : Int32) (v4 : Int32) (h : pv_H) : Option pv_O := pS X 3 (none) k_Wp_drawOne 91 [some (.ref v0), some (.int v1), some (.int v2), some (.int v3), some (.int v4)] [] h
set_option maxRecDepth 8000 in
theorem u_Wp_drawOne_0 (X : pv_X) (v0 : Nat) (v1 : Int32) (h : pv_H) : f_Wp_drawOne_0 X v0 v1 h =
    (pv_fR h v0 10 12).bind (fun x1 => if pv_rc h x1 2 = true then (pv_tI (pM X m_Dr_below [.ref x1, .int 5] h)).bind (fun q2 => if q2.1 ≤ 2 then (pv_fR q2.2 v0 10 12).bind (fun x3 => if pv_rc q2.2 x3 2 = true then (pv_tI (pM X m_Dr_below [.ref x3, .int v1] q2.2)).bind (fun q4 => if ¬ q2.1 = 0 then (pv_fR q4.2 v0 10 12).bind (fun x5 => if pv_rc q4.2 x5 2 = true then (pv_tI (pM X m_Dr_below [.ref x5, .int 30] q4.2)).bind (fun q6 => (pv_fR q6.2 v0 10 6).bind (fun x7 => if ¬ q2.1 = 1 then f_Wp_drawOne_88 X v0 v1 q2.1 q4.1 (q6.1 + 1) (-(q6.1 + 1)) q4.1 x7 q6.2 else f_Wp_drawOne_88 X v0 v1 q2.1 q4.1 (q6.1 + 1) (q6.1 + 1) q4.1 x7 q6.2)) else none) else (pv_fR q4.2 v0 10 12).bind (fun x8 => if pv_rc q4.2 x8 2 = true then (pv_tI (pM X m_Dr_below [.ref x8, .int v1] q4.2)).bind (fun q9 => if q4.1 = q9.1 then f_Wp_drawOne_54 X v0 v1 q2.1 q4.1 q9.1 q9.2 else (pv_fR q9.2 v0 10 6).bind (fun x10 => if pv_rc q9.2 x10 7 = true then (pv_tV (pM X m_St_takeTime [.ref x10, .int q4.1, .int q9.1] q9.2)).bind (fun h11 => f_Wp_drawOne_54 X v0 v1 q2.1 q4.1 q9.1 h11) else none)) else none)) else none) else some (none, q2.2)) else none) := by
  show pS X 3 (none) k_Wp_drawOne 0 [some (.ref v0), some (.int v1), none, none, none] [] h = _
  refine (ss_aload_n rfl rfl).trans ?_
  refine (ss_getR rfl).trans ?_
  refine congrArg (Option.bind _) (funext fun x1 => ?_)
  refine (ss_iconst rfl (v := 5) rfl).trans ?_
  refine (ss_callVI (as := [.int 5]) rfl t_Dr_below (by decide) rfl rfl (by decide) (Or.inl rfl) ⟨Nat.le_of_ble_eq_true rfl, Nat.le_of_ble_eq_true rfl⟩).trans ?_
  refine pv_ite ?_ rfl
  refine congrArg (Option.bind _) (funext fun q2 => ?_)
  refine (ss_istore_n rfl rfl).trans ?_
  refine (ss_iload_n rfl rfl).trans ?_
  refine (ss_iconst rfl (v := 2) rfl).trans ?_
  refine (ss_icmp_le rfl).trans ?_
  refine pv_ite ?_ ?_
  · refine (ss_aload_n rfl rfl).trans ?_
    refine (ss_getR rfl).trans ?_
    refine congrArg (Option.bind _) (funext fun x3 => ?_)
    refine (ss_iload_n rfl rfl).trans ?_
    refine (ss_callVI (as := [.int v1]) rfl t_Dr_below (by decide) rfl rfl (by decide) (Or.inl rfl) ⟨Nat.le_of_ble_eq_true rfl, Nat.le_of_ble_eq_true rfl⟩).trans ?_
    refine pv_ite ?_ rfl
    refine congrArg (Option.bind _) (funext fun q4 => ?_)
    refine (ss_istore_n rfl rfl).trans ?_
    refine (ss_iload_n rfl rfl).trans ?_
    refine (ss_if_ne rfl).trans ?_
    refine pv_ite ?_ ?_
    · refine (ss_aload_n rfl rfl).trans ?_
      refine (ss_getR rfl).trans ?_
      refine congrArg (Option.bind _) (funext fun x5 => ?_)
      refine (ss_bipush rfl (v := 30) rfl).trans ?_
      refine (ss_callVI (as := [.int 30]) rfl t_Dr_below (by decide) rfl rfl (by decide) (Or.inl rfl) ⟨Nat.le_of_ble_eq_true rfl, Nat.le_of_ble_eq_true rfl⟩).trans ?_
      refine pv_ite ?_ rfl
      refine congrArg (Option.bind _) (funext fun q6 => ?_)
      refine (ss_iconst rfl (v := 1) rfl).trans ?_
      refine (ss_iadd rfl).trans ?_
      refine (ss_istore rfl rfl).trans ?_
      refine (ss_aload_n rfl rfl).trans ?_
      refine (ss_getR rfl).trans ?_
      refine congrArg (Option.bind _) (funext fun x7 => ?_)
      refine (ss_iload_n rfl rfl).trans ?_
      refine (ss_iload_n rfl rfl).trans ?_
      refine (ss_iconst rfl (v := 1) rfl).trans ?_
      refine (ss_icmp_ne rfl).trans ?_
      refine pv_ite ?_ ?_
      · refine (ss_iload rfl rfl).trans ?_
        refine (ss_ineg rfl).trans ?_
        rfl
      · refine (ss_iload rfl rfl).trans ?_
        refine (ss_goto rfl).trans ?_
        rfl
    · refine (ss_aload_n rfl rfl).trans ?_
      refine (ss_getR rfl).trans ?_
      refine congrArg (Option.bind _) (funext fun x8 => ?_)
      refine (ss_iload_n rfl rfl).trans ?_
      refine (ss_callVI (as := [.int v1]) rfl t_Dr_below (by decide) rfl rfl (by decide) (Or.inl rfl) ⟨Nat.le_of_ble_eq_true rfl, Nat.le_of_ble_eq_true rfl⟩).trans ?_
      refine pv_ite ?_ rfl
      refine congrArg (Option.bind _) (funext fun q9 => ?_)
      refine (ss_istore rfl rfl).trans ?_
      refine (ss_iload_n rfl rfl).trans ?_
      refine (ss_iload rfl rfl).trans ?_
      refine (ss_icmp_eq rfl).trans ?_
      refine pv_ite ?_ ?_
      · rfl
      · refine (ss_aload_n rfl rfl).trans ?_
        refine (ss_getR rfl).trans ?_
        refine congrArg (Option.bind _) (funext fun x10 => ?_)
        refine (ss_iload_n rfl rfl).trans ?_
        refine (ss_iload rfl rfl).trans ?_
        refine (ss_callVN (as := [.int q4.1, .int q9.1]) rfl t_St_takeTime (by decide) rfl rfl (by decide) rfl ⟨Nat.le_of_ble_eq_true rfl, Nat.le_of_ble_eq_true rfl⟩).trans ?_
        refine pv_ite ?_ rfl
        refine congrArg (Option.bind _) (funext fun h11 => ?_)
        rfl
  · exact ss_return rfl
set_option maxRecDepth 8000 in
theorem u_Wp_drawOne_54 (X : pv_X) (v0 : Nat) (v1 : Int32) (v2 : Int32) (v3 : Int32) (v4 : Int32) (h : pv_H) : f_Wp_drawOne_54 X v0 v1 v2 v3 v4 h =
    f_Wp_drawOne_91 X v0 v1 v2 v3 v4 h := by
  show pS X 3 (none) k_Wp_drawOne 54 [some (.ref v0), some (.int v1), some (.int v2), some (.int v3), some (.int v4)] [] h = _
  refine (ss_goto rfl).trans ?_
  rfl
set_option maxRecDepth 8000 in
theorem u_Wp_drawOne_88 (X : pv_X) (v0 : Nat) (v1 : Int32) (v2 : Int32) (v3 : Int32) (v4 : Int32) (s0 : Int32) (s1 : Int32) (s2 : Nat) (h : pv_H) : f_Wp_drawOne_88 X v0 v1 v2 v3 v4 s0 s1 s2 h =
    if pv_rc h s2 7 = true then (pv_tV (pM X m_St_moveBeats [.ref s2, .int s1, .int s0] h)).bind (fun h1 => f_Wp_drawOne_91 X v0 v1 v2 v3 v4 h1) else none := by
  show pS X 3 (none) k_Wp_drawOne 88 [some (.ref v0), some (.int v1), some (.int v2), some (.int v3), some (.int v4)] [.int s0, .int s1, .ref s2] h = _
  refine (ss_callVN (as := [.int s1, .int s0]) rfl t_St_moveBeats (by decide) rfl rfl (by decide) rfl ⟨Nat.le_of_ble_eq_true rfl, Nat.le_of_ble_eq_true rfl⟩).trans ?_
  refine pv_ite ?_ rfl
  refine congrArg (Option.bind _) (funext fun h1 => ?_)
  rfl
set_option maxRecDepth 8000 in
theorem u_Wp_drawOne_91 (X : pv_X) (v0 : Nat) (v1 : Int32) (v2 : Int32) (v3 : Int32) (v4 : Int32) (h : pv_H) : f_Wp_drawOne_91 X v0 v1 v2 v3 v4 h =
    some (none, h) := by
  show pS X 3 (none) k_Wp_drawOne 91 [some (.ref v0), some (.int v1), some (.int v2), some (.int v3), some (.int v4)] [] h = _
  exact ss_return rfl
theorem e_Wp_drawOne (X : pv_X) (v0 : Nat) (v1 : Int32) (h : pv_H) : pM X m_Wp_drawOne [.ref v0, .int v1] h = f_Wp_drawOne_0 X v0 v1 h := rfl
noncomputable def f_Wp_mark_0 (X : pv_X) (v0 : Nat) (v1 : Int32) (v2 : Int32) (h : pv_H) : Option pv_O := pS X 3 (some .boolean) k_Wp_mark 0 [some (.ref v0), some (.int v1), some (.int v2), none] [] h
set_option maxRecDepth 8000 in
theorem u_Wp_mark_0 (X : pv_X) (v0 : Nat) (v1 : Int32) (v2 : Int32) (h : pv_H) : f_Wp_mark_0 X v0 v1 v2 h =
    (pv_tI (pM X m_Wp_isWithin [.int v1, .int 0, .int 3] h)).bind (fun q1 => if ¬ q1.1 = 0 then (pv_fR q1.2 v0 10 10).bind (fun x2 => (pv_aR q1.2 x2 v1).bind (fun x3 => if ¬ v2 = 0 then (pv_fI q1.2 x3 4 3).bind (fun x4 => if ¬ x4 = 0 then (pv_fR q1.2 v0 10 5).bind (fun x5 => (pv_fR q1.2 x3 4 0).bind (fun x6 => if pv_rc q1.2 x5 7 = true then (pv_tV (pM X m_St_copy [.ref x5, .ref x6] q1.2)).bind (fun h7 => (pv_fR h7 v0 10 8).bind (fun x8 => (pv_fR h7 x3 4 1).bind (fun x9 => if pv_rc h7 x8 0 = true then (pv_tV (pM X m_Cl_copy [.ref x8, .ref x9] h7)).bind (fun h10 => (pv_fR h10 v0 10 9).bind (fun x11 => (pv_fR h10 x3 4 2).bind (fun x12 => if pv_rc h10 x11 0 = true then (pv_tV (pM X m_Cl_copy [.ref x11, .ref x12] h10)).bind (fun h13 => (pv_fR h13 v0 10 7).bind (fun x14 => (pv_fp h13 x14 3 2 (.int 0)).bind (fun h15 => some (some (.int 1), h15)))) else none))) else none))) else none)) else some (some (.int 0), q1.2)) else (pv_fR q1.2 v0 10 5).bind (fun x16 => (pv_fR q1.2 v0 10 8).bind (fun x17 => (pv_fR q1.2 v0 10 9).bind (fun x18 => if pv_rc q1.2 x3 4 = true then (pv_tV (pM X m_Mk_lay [.ref x3, .ref x16, .ref x17, .ref x18] q1.2)).bind (fun h19 => some (some (.int 1), h19)) else none))))) else some (some (.int 0), q1.2)) := by
  show pS X 3 (some .boolean) k_Wp_mark 0 [some (.ref v0), some (.int v1), some (.int v2), none] [] h = _
  refine (ss_iload_n rfl rfl).trans ?_
  refine (ss_iconst rfl (v := 0) rfl).trans ?_
  refine (ss_iconst rfl (v := 3) rfl).trans ?_
  refine (ss_callSI (as := [.int v1, .int 0, .int 3]) rfl t_Wp_isWithin (by decide) rfl rfl (by decide) (Or.inr rfl) ⟨Nat.le_of_ble_eq_true rfl, Nat.le_of_ble_eq_true rfl⟩).trans ?_
  refine congrArg (Option.bind _) (funext fun q1 => ?_)
  refine (ss_if_ne rfl).trans ?_
  refine pv_ite ?_ ?_
  · refine (ss_aload_n rfl rfl).trans ?_
    refine (ss_getR rfl).trans ?_
    refine congrArg (Option.bind _) (funext fun x2 => ?_)
    refine (ss_iload_n rfl rfl).trans ?_
    refine (ss_aaload rfl).trans ?_
    refine congrArg (Option.bind _) (funext fun x3 => ?_)
    refine (ss_astore_n rfl rfl).trans ?_
    refine (ss_iload_n rfl rfl).trans ?_
    refine (ss_if_ne rfl).trans ?_
    refine pv_ite ?_ ?_
    · refine (ss_aload_n rfl rfl).trans ?_
      refine (ss_getZ rfl).trans ?_
      refine congrArg (Option.bind _) (funext fun x4 => ?_)
      refine (ss_if_ne rfl).trans ?_
      refine pv_ite ?_ ?_
      · refine (ss_aload_n rfl rfl).trans ?_
        refine (ss_getR rfl).trans ?_
        refine congrArg (Option.bind _) (funext fun x5 => ?_)
        refine (ss_aload_n rfl rfl).trans ?_
        refine (ss_getR rfl).trans ?_
        refine congrArg (Option.bind _) (funext fun x6 => ?_)
        refine (ss_callVN (as := [.ref x6]) rfl t_St_copy (by decide) rfl rfl (by decide) rfl ⟨Nat.le_of_ble_eq_true rfl, Nat.le_of_ble_eq_true rfl⟩).trans ?_
        refine pv_ite ?_ rfl
        refine congrArg (Option.bind _) (funext fun h7 => ?_)
        refine (ss_aload_n rfl rfl).trans ?_
        refine (ss_getR rfl).trans ?_
        refine congrArg (Option.bind _) (funext fun x8 => ?_)
        refine (ss_aload_n rfl rfl).trans ?_
        refine (ss_getR rfl).trans ?_
        refine congrArg (Option.bind _) (funext fun x9 => ?_)
        refine (ss_callVN (as := [.ref x9]) rfl t_Cl_copy (by decide) rfl rfl (by decide) rfl ⟨Nat.le_of_ble_eq_true rfl, Nat.le_of_ble_eq_true rfl⟩).trans ?_
        refine pv_ite ?_ rfl
        refine congrArg (Option.bind _) (funext fun h10 => ?_)
        refine (ss_aload_n rfl rfl).trans ?_
        refine (ss_getR rfl).trans ?_
        refine congrArg (Option.bind _) (funext fun x11 => ?_)
        refine (ss_aload_n rfl rfl).trans ?_
        refine (ss_getR rfl).trans ?_
        refine congrArg (Option.bind _) (funext fun x12 => ?_)
        refine (ss_callVN (as := [.ref x12]) rfl t_Cl_copy (by decide) rfl rfl (by decide) rfl ⟨Nat.le_of_ble_eq_true rfl, Nat.le_of_ble_eq_true rfl⟩).trans ?_
        refine pv_ite ?_ rfl
        refine congrArg (Option.bind _) (funext fun h13 => ?_)
        refine (ss_aload_n rfl rfl).trans ?_
        refine (ss_getR rfl).trans ?_
        refine congrArg (Option.bind _) (funext fun x14 => ?_)
        refine (ss_iconst rfl (v := 0) rfl).trans ?_
        refine (ss_putI rfl).trans ?_
        refine congrArg (Option.bind _) (funext fun h15 => ?_)
        refine (ss_iconst rfl (v := 1) rfl).trans ?_
        exact (ss_zreturn rfl).trans (if_pos (by decide))
      · refine (ss_iconst rfl (v := 0) rfl).trans ?_
        exact (ss_zreturn rfl).trans (if_pos (by decide))
    · refine (ss_aload_n rfl rfl).trans ?_
      refine (ss_aload_n rfl rfl).trans ?_
      refine (ss_getR rfl).trans ?_
      refine congrArg (Option.bind _) (funext fun x16 => ?_)
      refine (ss_aload_n rfl rfl).trans ?_
      refine (ss_getR rfl).trans ?_
      refine congrArg (Option.bind _) (funext fun x17 => ?_)
      refine (ss_aload_n rfl rfl).trans ?_
      refine (ss_getR rfl).trans ?_
      refine congrArg (Option.bind _) (funext fun x18 => ?_)
      refine (ss_callVN (as := [.ref x16, .ref x17, .ref x18]) rfl t_Mk_lay (by decide) rfl rfl (by decide) rfl ⟨Nat.le_of_ble_eq_true rfl, Nat.le_of_ble_eq_true rfl⟩).trans ?_
      refine pv_ite ?_ rfl
      refine congrArg (Option.bind _) (funext fun h19 => ?_)
      refine (ss_iconst rfl (v := 1) rfl).trans ?_
      exact (ss_zreturn rfl).trans (if_pos (by decide))
  · refine (ss_iconst rfl (v := 0) rfl).trans ?_
    exact (ss_zreturn rfl).trans (if_pos (by decide))
theorem e_Wp_mark (X : pv_X) (v0 : Nat) (v1 : Int32) (v2 : Int32) (h : pv_H) : pM X m_Wp_mark [.ref v0, .int v1, .int v2] h = f_Wp_mark_0 X v0 v1 v2 h := rfl
noncomputable def f_Wp_count_0 (X : pv_X) (v0 : Nat) (v1 : Int32) (h : pv_H) : Option pv_O := pS X 4 (some .int) k_Wp_count 0 [some (.ref v0), some (.int v1)] [] h
set_option maxRecDepth 8000 in
theorem u_Wp_count_0 (X : pv_X) (v0 : Nat) (v1 : Int32) (h : pv_H) : f_Wp_count_0 X v0 v1 h =
    if v1 = 0 then (pv_fR h v0 10 1).bind (fun x1 => (pv_fI h x1 6 6).bind (fun x2 => some (some (.int x2), h))) else if v1 = 1 then (pv_fR h v0 10 5).bind (fun x4 => (pv_fI h x4 7 3).bind (fun x5 => some (some (.int x5), h))) else if v1 = 2 then (pv_fR h v0 10 5).bind (fun x7 => if pv_rc h x7 7 = true then (pv_tI (pM X m_St_trueTime [.ref x7] h)).bind (fun q8 => some (some (.int q8.1), q8.2)) else none) else if v1 = 3 then (pv_fR h v0 10 5).bind (fun x10 => if pv_rc h v0 10 = true then (pv_tI (pM X m_Wp_allBeats [.ref v0, .ref x10] h)).bind (fun q11 => some (some (.int q11.1), q11.2)) else none) else if v1 = 4 then (pv_fR h v0 10 5).bind (fun x13 => if pv_rc h v0 10 = true then (pv_tI (pM X m_Wp_allAsked [.ref v0, .ref x13] h)).bind (fun q14 => some (some (.int q14.1), q14.2)) else none) else if v1 = 5 then if pv_rc h v0 10 = true then (pv_tI (pM X m_Wp_whoIsOut [.ref v0] h)).bind (fun q16 => some (some (.int q16.1), q16.2)) else none else if v1 = 6 then (pv_fR h v0 10 3).bind (fun x18 => (pv_fI h x18 1 3).bind (fun x19 => some (some (.int x19), h))) else if v1 = 7 then (pv_fR h v0 10 8).bind (fun x21 => (pv_fI h x21 0 3).bind (fun x22 => some (some (.int x22), h))) else if v1 = 8 then (pv_fR h v0 10 9).bind (fun x24 => (pv_fI h x24 0 3).bind (fun x25 => some (some (.int x25), h))) else if v1 = 9 then (pv_fR h v0 10 7).bind (fun x27 => (pv_fI h x27 3 2).bind (fun x28 => some (some (.int x28), h))) else if v1 = 10 then (pv_fR h v0 10 0).bind (fun x30 => (pv_fI h x30 9 1).bind (fun x31 => some (some (.int x31), h))) else some (some (.int (-1)), h) := by
  show pS X 4 (some .int) k_Wp_count 0 [some (.ref v0), some (.int v1)] [] h = _
  refine (ss_iload_n rfl rfl).trans ?_
  refine (ss_table rfl).trans ?_
  by_cases c3 : v1 = 0
  · rw [if_pos c3, c3]
    show pS X _ _ _ 60 _ _ _ = _
    refine (ss_aload_n rfl rfl).trans ?_
    refine (ss_getR rfl).trans ?_
    refine congrArg (Option.bind _) (funext fun x1 => ?_)
    refine (ss_getI rfl).trans ?_
    refine congrArg (Option.bind _) (funext fun x2 => ?_)
    exact ss_ireturn rfl
  rw [if_neg c3]
  by_cases c6 : v1 = 1
  · rw [if_pos c6, c6]
    show pS X _ _ _ 68 _ _ _ = _
    refine (ss_aload_n rfl rfl).trans ?_
    refine (ss_getR rfl).trans ?_
    refine congrArg (Option.bind _) (funext fun x4 => ?_)
    refine (ss_getI rfl).trans ?_
    refine congrArg (Option.bind _) (funext fun x5 => ?_)
    exact ss_ireturn rfl
  rw [if_neg c6]
  by_cases c9 : v1 = 2
  · rw [if_pos c9, c9]
    show pS X _ _ _ 76 _ _ _ = _
    refine (ss_aload_n rfl rfl).trans ?_
    refine (ss_getR rfl).trans ?_
    refine congrArg (Option.bind _) (funext fun x7 => ?_)
    refine (ss_callVI (as := []) rfl t_St_trueTime (by decide) rfl rfl (by decide) (Or.inl rfl) ⟨Nat.le_of_ble_eq_true rfl, Nat.le_of_ble_eq_true rfl⟩).trans ?_
    refine pv_ite ?_ rfl
    refine congrArg (Option.bind _) (funext fun q8 => ?_)
    exact ss_ireturn rfl
  rw [if_neg c9]
  by_cases c12 : v1 = 3
  · rw [if_pos c12, c12]
    show pS X _ _ _ 84 _ _ _ = _
    refine (ss_aload_n rfl rfl).trans ?_
    refine (ss_aload_n rfl rfl).trans ?_
    refine (ss_getR rfl).trans ?_
    refine congrArg (Option.bind _) (funext fun x10 => ?_)
    refine (ss_callVI (as := [.ref x10]) rfl t_Wp_allBeats (by decide) rfl rfl (by decide) (Or.inl rfl) ⟨Nat.le_of_ble_eq_true rfl, Nat.le_of_ble_eq_true rfl⟩).trans ?_
    refine pv_ite ?_ rfl
    refine congrArg (Option.bind _) (funext fun q11 => ?_)
    exact ss_ireturn rfl
  rw [if_neg c12]
  by_cases c15 : v1 = 4
  · rw [if_pos c15, c15]
    show pS X _ _ _ 93 _ _ _ = _
    refine (ss_aload_n rfl rfl).trans ?_
    refine (ss_aload_n rfl rfl).trans ?_
    refine (ss_getR rfl).trans ?_
    refine congrArg (Option.bind _) (funext fun x13 => ?_)
    refine (ss_callVI (as := [.ref x13]) rfl t_Wp_allAsked (by decide) rfl rfl (by decide) (Or.inl rfl) ⟨Nat.le_of_ble_eq_true rfl, Nat.le_of_ble_eq_true rfl⟩).trans ?_
    refine pv_ite ?_ rfl
    refine congrArg (Option.bind _) (funext fun q14 => ?_)
    exact ss_ireturn rfl
  rw [if_neg c15]
  by_cases c17 : v1 = 5
  · rw [if_pos c17, c17]
    show pS X _ _ _ 102 _ _ _ = _
    refine (ss_aload_n rfl rfl).trans ?_
    refine (ss_callVI (as := []) rfl t_Wp_whoIsOut (by decide) rfl rfl (by decide) (Or.inl rfl) ⟨Nat.le_of_ble_eq_true rfl, Nat.le_of_ble_eq_true rfl⟩).trans ?_
    refine pv_ite ?_ rfl
    refine congrArg (Option.bind _) (funext fun q16 => ?_)
    exact ss_ireturn rfl
  rw [if_neg c17]
  by_cases c20 : v1 = 6
  · rw [if_pos c20, c20]
    show pS X _ _ _ 107 _ _ _ = _
    refine (ss_aload_n rfl rfl).trans ?_
    refine (ss_getR rfl).trans ?_
    refine congrArg (Option.bind _) (funext fun x18 => ?_)
    refine (ss_getI rfl).trans ?_
    refine congrArg (Option.bind _) (funext fun x19 => ?_)
    exact ss_ireturn rfl
  rw [if_neg c20]
  by_cases c23 : v1 = 7
  · rw [if_pos c23, c23]
    show pS X _ _ _ 115 _ _ _ = _
    refine (ss_aload_n rfl rfl).trans ?_
    refine (ss_getR rfl).trans ?_
    refine congrArg (Option.bind _) (funext fun x21 => ?_)
    refine (ss_getI rfl).trans ?_
    refine congrArg (Option.bind _) (funext fun x22 => ?_)
    exact ss_ireturn rfl
  rw [if_neg c23]
  by_cases c26 : v1 = 8
  · rw [if_pos c26, c26]
    show pS X _ _ _ 123 _ _ _ = _
    refine (ss_aload_n rfl rfl).trans ?_
    refine (ss_getR rfl).trans ?_
    refine congrArg (Option.bind _) (funext fun x24 => ?_)
    refine (ss_getI rfl).trans ?_
    refine congrArg (Option.bind _) (funext fun x25 => ?_)
    exact ss_ireturn rfl
  rw [if_neg c26]
  by_cases c29 : v1 = 9
  · rw [if_pos c29, c29]
    show pS X _ _ _ 131 _ _ _ = _
    refine (ss_aload_n rfl rfl).trans ?_
    refine (ss_getR rfl).trans ?_
    refine congrArg (Option.bind _) (funext fun x27 => ?_)
    refine (ss_getI rfl).trans ?_
    refine congrArg (Option.bind _) (funext fun x28 => ?_)
    exact ss_ireturn rfl
  rw [if_neg c29]
  by_cases c32 : v1 = 10
  · rw [if_pos c32, c32]
    show pS X _ _ _ 139 _ _ _ = _
    refine (ss_aload_n rfl rfl).trans ?_
    refine (ss_getR rfl).trans ?_
    refine congrArg (Option.bind _) (funext fun x30 => ?_)
    refine (ss_getI rfl).trans ?_
    refine congrArg (Option.bind _) (funext fun x31 => ?_)
    exact ss_ireturn rfl
  rw [if_neg c32]
  rw [pv_sw_out (pc := 1) (q := 147) (d := 146) (lo := 0) (hi := 10) (by decide) (by decide) (by have z0 := pv_ne c3 (k := 0) (z := 0) (by decide); have z1 := pv_ne c6 (k := 1) (z := 1) (by decide); have z2 := pv_ne c9 (k := 2) (z := 2) (by decide); have z3 := pv_ne c12 (k := 3) (z := 3) (by decide); have z4 := pv_ne c15 (k := 4) (z := 4) (by decide); have z5 := pv_ne c17 (k := 5) (z := 5) (by decide); have z6 := pv_ne c20 (k := 6) (z := 6) (by decide); have z7 := pv_ne c23 (k := 7) (z := 7) (by decide); have z8 := pv_ne c26 (k := 8) (z := 8) (by decide); have z9 := pv_ne c29 (k := 9) (z := 9) (by decide); have z10 := pv_ne c32 (k := 10) (z := 10) (by decide); omega)]
  show pS X _ _ _ 147 _ _ _ = _
  refine (ss_iconst rfl (v := (-1)) rfl).trans ?_
  exact ss_ireturn rfl
theorem e_Wp_count (X : pv_X) (v0 : Nat) (v1 : Int32) (h : pv_H) : pM X m_Wp_count [.ref v0, .int v1] h = f_Wp_count_0 X v0 v1 h := rfl
noncomputable def f_Wp_whoIsOut_0 (X : pv_X) (v0 : Nat) (h : pv_H) : Option pv_O := pS X 3 (some .int) k_Wp_whoIsOut 0 [some (.ref v0), none, none] [] h
noncomputable def f_Wp_whoIsOut_4 (X : pv_X) (v0 : Nat) (v1 : Int32) (v2 : Int32) (h : pv_H) : Option pv_O := pS X 3 (some .int) k_Wp_whoIsOut 4 [some (.ref v0), some (.int v1), some (.int v2)] [] h
noncomputable def f_Wp_whoIsOut_32 (X : pv_X) (v0 : Nat) (v1 : Int32) (v2 : Int32) (h : pv_H) : Option pv_O := pS X 3 (some .int) k_Wp_whoIsOut 32 [some (.ref v0), some (.int v1), some (.int v2)] [] h
set_option maxRecDepth 8000 in
theorem u_Wp_whoIsOut_0 (X : pv_X) (v0 : Nat) (h : pv_H) : f_Wp_whoIsOut_0 X v0 h =
    f_Wp_whoIsOut_4 X v0 0 0 h := by
  show pS X 3 (some .int) k_Wp_whoIsOut 0 [some (.ref v0), none, none] [] h = _
  refine (ss_iconst rfl (v := 0) rfl).trans ?_
  refine (ss_istore_n rfl rfl).trans ?_
  refine (ss_iconst rfl (v := 0) rfl).trans ?_
  refine (ss_istore_n rfl rfl).trans ?_
  rfl
set_option maxRecDepth 8000 in
theorem u_Wp_whoIsOut_4 (X : pv_X) (v0 : Nat) (v1 : Int32) (v2 : Int32) (h : pv_H) : f_Wp_whoIsOut_4 X v0 v1 v2 h =
    (pv_fR h v0 10 1).bind (fun x1 => (pv_fI h x1 6 6).bind (fun x2 => if x2 ≤ v2 then some (some (.int v1), h) else (pv_fR h v0 10 5).bind (fun x3 => if pv_rc h x3 7 = true then (pv_tI (pM X m_St_outOf [.ref x3, .int v2] h)).bind (fun q4 => if q4.1 = 0 then f_Wp_whoIsOut_32 X v0 v1 v2 q4.2 else f_Wp_whoIsOut_32 X v0 (v1 ||| ((1 : Int32) <<< (v2 &&& 31))) v2 q4.2) else none))) := by
  show pS X 3 (some .int) k_Wp_whoIsOut 4 [some (.ref v0), some (.int v1), some (.int v2)] [] h = _
  refine (ss_iload_n rfl rfl).trans ?_
  refine (ss_aload_n rfl rfl).trans ?_
  refine (ss_getR rfl).trans ?_
  refine congrArg (Option.bind _) (funext fun x1 => ?_)
  refine (ss_getI rfl).trans ?_
  refine congrArg (Option.bind _) (funext fun x2 => ?_)
  refine (ss_icmp_ge rfl).trans ?_
  refine pv_ite ?_ ?_
  · refine (ss_iload_n rfl rfl).trans ?_
    exact ss_ireturn rfl
  · refine (ss_aload_n rfl rfl).trans ?_
    refine (ss_getR rfl).trans ?_
    refine congrArg (Option.bind _) (funext fun x3 => ?_)
    refine (ss_iload_n rfl rfl).trans ?_
    refine (ss_callVI (as := [.int v2]) rfl t_St_outOf (by decide) rfl rfl (by decide) (Or.inl rfl) ⟨Nat.le_of_ble_eq_true rfl, Nat.le_of_ble_eq_true rfl⟩).trans ?_
    refine pv_ite ?_ rfl
    refine congrArg (Option.bind _) (funext fun q4 => ?_)
    refine (ss_if_eq rfl).trans ?_
    refine pv_ite ?_ ?_
    · rfl
    · refine (ss_iload_n rfl rfl).trans ?_
      refine (ss_iconst rfl (v := 1) rfl).trans ?_
      refine (ss_iload_n rfl rfl).trans ?_
      refine (ss_ishl rfl).trans ?_
      refine (ss_ior rfl).trans ?_
      refine (ss_istore_n rfl rfl).trans ?_
      rfl
set_option maxRecDepth 8000 in
theorem u_Wp_whoIsOut_32 (X : pv_X) (v0 : Nat) (v1 : Int32) (v2 : Int32) (h : pv_H) : f_Wp_whoIsOut_32 X v0 v1 v2 h =
    f_Wp_whoIsOut_4 X v0 v1 (v2 + 1) h := by
  show pS X 3 (some .int) k_Wp_whoIsOut 32 [some (.ref v0), some (.int v1), some (.int v2)] [] h = _
  refine (ss_iinc3 rfl rfl (v := v2 + 1) (congrArg (HAdd.hAdd _) (show Int32.ofInt (1) = 1 by decide)) rfl).trans ?_
  refine (ss_goto rfl).trans ?_
  rfl
theorem e_Wp_whoIsOut (X : pv_X) (v0 : Nat) (h : pv_H) : pM X m_Wp_whoIsOut [.ref v0] h = f_Wp_whoIsOut_0 X v0 h := rfl
noncomputable def f_Wp_isPerson_0 (X : pv_X) (v0 : Nat) (v1 : Int32) (h : pv_H) : Option pv_O := pS X 1 (some .boolean) k_Wp_isPerson 0 [some (.ref v0), some (.int v1)] [] h
noncomputable def f_Wp_isPerson_19 (X : pv_X) (v0 : Nat) (v1 : Int32) (h : pv_H) : Option pv_O := pS X 1 (some .boolean) k_Wp_isPerson 19 [some (.ref v0), some (.int v1)] [] h
noncomputable def f_Wp_isPerson_20 (X : pv_X) (v0 : Nat) (v1 : Int32) (s0 : Int32) (h : pv_H) : Option pv_O := pS X 1 (some .boolean) k_Wp_isPerson 20 [some (.ref v0), some (.int v1)] [.int s0] h
set_option maxRecDepth 8000 in
theorem u_Wp_isPerson_0 (X : pv_X) (v0 : Nat) (v1 : Int32) (h : pv_H) : f_Wp_isPerson_0 X v0 v1 h =
    if v1 < 0 then f_Wp_isPerson_19 X v0 v1 h else (pv_fR h v0 10 1).bind (fun x1 => (pv_fI h x1 6 6).bind (fun x2 => if x2 ≤ v1 then f_Wp_isPerson_19 X v0 v1 h else f_Wp_isPerson_20 X v0 v1 1 h)) := by
  show pS X 1 (some .boolean) k_Wp_isPerson 0 [some (.ref v0), some (.int v1)] [] h = _
  refine (ss_iload_n rfl rfl).trans ?_
  refine (ss_if_lt rfl).trans ?_
  refine pv_ite ?_ ?_
  · rfl
  · refine (ss_iload_n rfl rfl).trans ?_
    refine (ss_aload_n rfl rfl).trans ?_
    refine (ss_getR rfl).trans ?_
    refine congrArg (Option.bind _) (funext fun x1 => ?_)
    refine (ss_getI rfl).trans ?_
    refine congrArg (Option.bind _) (funext fun x2 => ?_)
    refine (ss_icmp_ge rfl).trans ?_
    refine pv_ite ?_ ?_
    · rfl
    · refine (ss_iconst rfl (v := 1) rfl).trans ?_
      refine (ss_goto rfl).trans ?_
      rfl
set_option maxRecDepth 8000 in
theorem u_Wp_isPerson_19 (X : pv_X) (v0 : Nat) (v1 : Int32) (h : pv_H) : f_Wp_isPerson_19 X v0 v1 h =
    f_Wp_isPerson_20 X v0 v1 0 h := by
  show pS X 1 (some .boolean) k_Wp_isPerson 19 [some (.ref v0), some (.int v1)] [] h = _
  refine (ss_iconst rfl (v := 0) rfl).trans ?_
  rfl
set_option maxRecDepth 8000 in
theorem u_Wp_isPerson_20 (X : pv_X) (v0 : Nat) (v1 : Int32) (s0 : Int32) (h : pv_H) : f_Wp_isPerson_20 X v0 v1 s0 h =
    if s0 = 0 ∨ s0 = 1 then some (some (.int s0), h) else none := by
  show pS X 1 (some .boolean) k_Wp_isPerson 20 [some (.ref v0), some (.int v1)] [.int s0] h = _
  exact ss_zreturn rfl
theorem e_Wp_isPerson (X : pv_X) (v0 : Nat) (v1 : Int32) (h : pv_H) : pM X m_Wp_isPerson [.ref v0, .int v1] h = f_Wp_isPerson_0 X v0 v1 h := rfl
noncomputable def f_Wp_areTwo_0 (X : pv_X) (v0 : Nat) (v1 : Int32) (v2 : Int32) (h : pv_H) : Option pv_O := pS X 2 (some .boolean) k_Wp_areTwo 0 [some (.ref v0), some (.int v1), some (.int v2)] [] h
noncomputable def f_Wp_areTwo_25 (X : pv_X) (v0 : Nat) (v1 : Int32) (v2 : Int32) (h : pv_H) : Option pv_O := pS X 2 (some .boolean) k_Wp_areTwo 25 [some (.ref v0), some (.int v1), some (.int v2)] [] h
noncomputable def f_Wp_areTwo_26 (X : pv_X) (v0 : Nat) (v1 : Int32) (v2 : Int32) (s0 : Int32) (h : pv_H) : Option pv_O := pS X 2 (some .boolean) k_Wp_areTwo 26 [some (.ref v0), some (.int v1), some (.int v2)] [.int s0] h
set_option maxRecDepth 8000 in
theorem u_Wp_areTwo_0 (X : pv_X) (v0 : Nat) (v1 : Int32) (v2 : Int32) (h : pv_H) : f_Wp_areTwo_0 X v0 v1 v2 h =
    if pv_rc h v0 10 = true then (pv_tI (pM X m_Wp_isPerson [.ref v0, .int v1] h)).bind (fun q1 => if q1.1 = 0 then f_Wp_areTwo_25 X v0 v1 v2 q1.2 else if pv_rc q1.2 v0 10 = true then (pv_tI (pM X m_Wp_isPerson [.ref v0, .int v2] q1.2)).bind (fun q2 => if q2.1 = 0 then f_Wp_areTwo_25 X v0 v1 v2 q2.2 else if v1 = v2 then f_Wp_areTwo_25 X v0 v1 v2 q2.2 else f_Wp_areTwo_26 X v0 v1 v2 1 q2.2) else none) else none := by
  show pS X 2 (some .boolean) k_Wp_areTwo 0 [some (.ref v0), some (.int v1), some (.int v2)] [] h = _
  refine (ss_aload_n rfl rfl).trans ?_
  refine (ss_iload_n rfl rfl).trans ?_
  refine (ss_callVI (as := [.int v1]) rfl t_Wp_isPerson (by decide) rfl rfl (by decide) (Or.inr rfl) ⟨Nat.le_of_ble_eq_true rfl, Nat.le_of_ble_eq_true rfl⟩).trans ?_
  refine pv_ite ?_ rfl
  refine congrArg (Option.bind _) (funext fun q1 => ?_)
  refine (ss_if_eq rfl).trans ?_
  refine pv_ite ?_ ?_
  · rfl
  · refine (ss_aload_n rfl rfl).trans ?_
    refine (ss_iload_n rfl rfl).trans ?_
    refine (ss_callVI (as := [.int v2]) rfl t_Wp_isPerson (by decide) rfl rfl (by decide) (Or.inr rfl) ⟨Nat.le_of_ble_eq_true rfl, Nat.le_of_ble_eq_true rfl⟩).trans ?_
    refine pv_ite ?_ rfl
    refine congrArg (Option.bind _) (funext fun q2 => ?_)
    refine (ss_if_eq rfl).trans ?_
    refine pv_ite ?_ ?_
    · rfl
    · refine (ss_iload_n rfl rfl).trans ?_
      refine (ss_iload_n rfl rfl).trans ?_
      refine (ss_icmp_eq rfl).trans ?_
      refine pv_ite ?_ ?_
      · rfl
      · refine (ss_iconst rfl (v := 1) rfl).trans ?_
        refine (ss_goto rfl).trans ?_
        rfl
set_option maxRecDepth 8000 in
theorem u_Wp_areTwo_25 (X : pv_X) (v0 : Nat) (v1 : Int32) (v2 : Int32) (h : pv_H) : f_Wp_areTwo_25 X v0 v1 v2 h =
    f_Wp_areTwo_26 X v0 v1 v2 0 h := by
  show pS X 2 (some .boolean) k_Wp_areTwo 25 [some (.ref v0), some (.int v1), some (.int v2)] [] h = _
  refine (ss_iconst rfl (v := 0) rfl).trans ?_
  rfl
set_option maxRecDepth 8000 in
theorem u_Wp_areTwo_26 (X : pv_X) (v0 : Nat) (v1 : Int32) (v2 : Int32) (s0 : Int32) (h : pv_H) : f_Wp_areTwo_26 X v0 v1 v2 s0 h =
    if s0 = 0 ∨ s0 = 1 then some (some (.int s0), h) else none := by
  show pS X 2 (some .boolean) k_Wp_areTwo 26 [some (.ref v0), some (.int v1), some (.int v2)] [.int s0] h = _
  exact ss_zreturn rfl
theorem e_Wp_areTwo (X : pv_X) (v0 : Nat) (v1 : Int32) (v2 : Int32) (h : pv_H) : pM X m_Wp_areTwo [.ref v0, .int v1, .int v2] h = f_Wp_areTwo_0 X v0 v1 v2 h := rfl
noncomputable def f_Wp_isWithin_0 (X : pv_X) (v0 : Int32) (v1 : Int32) (v2 : Int32) (h : pv_H) : Option pv_O := pS X 1 (some .boolean) k_Wp_isWithin 0 [some (.int v0), some (.int v1), some (.int v2)] [] h
noncomputable def f_Wp_isWithin_14 (X : pv_X) (v0 : Int32) (v1 : Int32) (v2 : Int32) (h : pv_H) : Option pv_O := pS X 1 (some .boolean) k_Wp_isWithin 14 [some (.int v0), some (.int v1), some (.int v2)] [] h
noncomputable def f_Wp_isWithin_15 (X : pv_X) (v0 : Int32) (v1 : Int32) (v2 : Int32) (s0 : Int32) (h : pv_H) : Option pv_O := pS X 1 (some .boolean) k_Wp_isWithin 15 [some (.int v0), some (.int v1), some (.int v2)] [.int s0] h
set_option maxRecDepth 8000 in
theorem u_Wp_isWithin_0 (X : pv_X) (v0 : Int32) (v1 : Int32) (v2 : Int32) (h : pv_H) : f_Wp_isWithin_0 X v0 v1 v2 h =
    if v0 < v1 then f_Wp_isWithin_14 X v0 v1 v2 h else if v2 < v0 then f_Wp_isWithin_14 X v0 v1 v2 h else f_Wp_isWithin_15 X v0 v1 v2 1 h := by
  show pS X 1 (some .boolean) k_Wp_isWithin 0 [some (.int v0), some (.int v1), some (.int v2)] [] h = _
  refine (ss_iload_n rfl rfl).trans ?_
  refine (ss_iload_n rfl rfl).trans ?_
  refine (ss_icmp_lt rfl).trans ?_
  refine pv_ite ?_ ?_
  · rfl
  · refine (ss_iload_n rfl rfl).trans ?_
    refine (ss_iload_n rfl rfl).trans ?_
    refine (ss_icmp_gt rfl).trans ?_
    refine pv_ite ?_ ?_
    · rfl
    · refine (ss_iconst rfl (v := 1) rfl).trans ?_
      refine (ss_goto rfl).trans ?_
      rfl
set_option maxRecDepth 8000 in
theorem u_Wp_isWithin_14 (X : pv_X) (v0 : Int32) (v1 : Int32) (v2 : Int32) (h : pv_H) : f_Wp_isWithin_14 X v0 v1 v2 h =
    f_Wp_isWithin_15 X v0 v1 v2 0 h := by
  show pS X 1 (some .boolean) k_Wp_isWithin 14 [some (.int v0), some (.int v1), some (.int v2)] [] h = _
  refine (ss_iconst rfl (v := 0) rfl).trans ?_
  rfl
set_option maxRecDepth 8000 in
theorem u_Wp_isWithin_15 (X : pv_X) (v0 : Int32) (v1 : Int32) (v2 : Int32) (s0 : Int32) (h : pv_H) : f_Wp_isWithin_15 X v0 v1 v2 s0 h =
    if s0 = 0 ∨ s0 = 1 then some (some (.int s0), h) else none := by
  show pS X 1 (some .boolean) k_Wp_isWithin 15 [some (.int v0), some (.int v1), some (.int v2)] [.int s0] h = _
  exact ss_zreturn rfl
theorem e_Wp_isWithin (X : pv_X) (v0 : Int32) (v1 : Int32) (v2 : Int32) (h : pv_H) : pM X m_Wp_isWithin [.int v0, .int v1, .int v2] h = f_Wp_isWithin_0 X v0 v1 v2 h := rfl
noncomputable def f_Wp_isOut_0 (X : pv_X) (v0 : Int32) (h : pv_H) : Option pv_O := pS X 2 (some .boolean) k_Wp_isOut 0 [some (.int v0)] [] h
set_option maxRecDepth 8000 in
theorem u_Wp_isOut_0 (X : pv_X) (v0 : Int32) (h : pv_H) : f_Wp_isOut_0 X v0 h =
    (pv_tI (pM X m_Wp_isWithin [.int v0, .int (-360), .int 359] h)).bind (fun q1 => if q1.1 = 0 ∨ q1.1 = 1 then some (some (.int q1.1), q1.2) else none) := by
  show pS X 2 (some .boolean) k_Wp_isOut 0 [some (.int v0)] [] h = _
  refine (ss_iload_n rfl rfl).trans ?_
  refine (ss_sipush rfl (v := (-360)) rfl).trans ?_
  refine (ss_sipush rfl (v := 359) rfl).trans ?_
  refine (ss_callSI (as := [.int v0, .int (-360), .int 359]) rfl t_Wp_isWithin (by decide) rfl rfl (by decide) (Or.inr rfl) ⟨Nat.le_of_ble_eq_true rfl, Nat.le_of_ble_eq_true rfl⟩).trans ?_
  refine congrArg (Option.bind _) (funext fun q1 => ?_)
  exact ss_zreturn rfl
theorem e_Wp_isOut (X : pv_X) (v0 : Int32) (h : pv_H) : pM X m_Wp_isOut [.int v0] h = f_Wp_isOut_0 X v0 h := rfl
noncomputable def f_Wp_has_0 (X : pv_X) (v0 : Int32) (v1 : Int32) (h : pv_H) : Option pv_O := pS X 1 (some .boolean) k_Wp_has 0 [some (.int v0), some (.int v1)] [] h
noncomputable def f_Wp_has_13 (X : pv_X) (v0 : Int32) (v1 : Int32) (s0 : Int32) (h : pv_H) : Option pv_O := pS X 1 (some .boolean) k_Wp_has 13 [some (.int v0), some (.int v1)] [.int s0] h
set_option maxRecDepth 8000 in
theorem u_Wp_has_0 (X : pv_X) (v0 : Int32) (v1 : Int32) (h : pv_H) : f_Wp_has_0 X v0 v1 h =
    if (((v0 : Int32) >>> (v1 &&& 31)) &&& 1) = 0 then f_Wp_has_13 X v0 v1 0 h else f_Wp_has_13 X v0 v1 1 h := by
  show pS X 1 (some .boolean) k_Wp_has 0 [some (.int v0), some (.int v1)] [] h = _
  refine (ss_iload_n rfl rfl).trans ?_
  refine (ss_iload_n rfl rfl).trans ?_
  refine (ss_ishr rfl).trans ?_
  refine (ss_iconst rfl (v := 1) rfl).trans ?_
  refine (ss_iand rfl).trans ?_
  refine (ss_if_eq rfl).trans ?_
  refine pv_ite ?_ ?_
  · refine (ss_iconst rfl (v := 0) rfl).trans ?_
    rfl
  · refine (ss_iconst rfl (v := 1) rfl).trans ?_
    refine (ss_goto rfl).trans ?_
    rfl
set_option maxRecDepth 8000 in
theorem u_Wp_has_13 (X : pv_X) (v0 : Int32) (v1 : Int32) (s0 : Int32) (h : pv_H) : f_Wp_has_13 X v0 v1 s0 h =
    if s0 = 0 ∨ s0 = 1 then some (some (.int s0), h) else none := by
  show pS X 1 (some .boolean) k_Wp_has 13 [some (.int v0), some (.int v1)] [.int s0] h = _
  exact ss_zreturn rfl
theorem e_Wp_has (X : pv_X) (v0 : Int32) (v1 : Int32) (h : pv_H) : pM X m_Wp_has [.int v0, .int v1] h = f_Wp_has_0 X v0 v1 h := rfl
noncomputable def f_Wp_everybody_0 (X : pv_X) (v0 : Nat) (h : pv_H) : Option pv_O := pS X 1 (some .int) k_Wp_everybody 0 [some (.ref v0)] [] h
set_option maxRecDepth 8000 in
theorem u_Wp_everybody_0 (X : pv_X) (v0 : Nat) (h : pv_H) : f_Wp_everybody_0 X v0 h =
    (pv_fR h v0 10 1).bind (fun x1 => (pv_fI h x1 6 6).bind (fun x2 => some (some (.int (((1 : Int32) <<< (x2 &&& 31)) - 1)), h))) := by
  show pS X 1 (some .int) k_Wp_everybody 0 [some (.ref v0)] [] h = _
  refine (ss_iconst rfl (v := 1) rfl).trans ?_
  refine (ss_aload_n rfl rfl).trans ?_
  refine (ss_getR rfl).trans ?_
  refine congrArg (Option.bind _) (funext fun x1 => ?_)
  refine (ss_getI rfl).trans ?_
  refine congrArg (Option.bind _) (funext fun x2 => ?_)
  refine (ss_ishl rfl).trans ?_
  refine (ss_iconst rfl (v := 1) rfl).trans ?_
  refine (ss_isub rfl).trans ?_
  exact ss_ireturn rfl
theorem e_Wp_everybody (X : pv_X) (v0 : Nat) (h : pv_H) : pM X m_Wp_everybody [.ref v0] h = f_Wp_everybody_0 X v0 h := rfl
noncomputable def f_Wp_passQuarters_0 (X : pv_X) (v0 : Nat) (v1 : Int32) (h : pv_H) : Option pv_O := pS X 5 (none) k_Wp_passQuarters 0 [some (.ref v0), some (.int v1), none] [] h
noncomputable def f_Wp_passQuarters_2 (X : pv_X) (v0 : Nat) (v1 : Int32) (v2 : Int32) (h : pv_H) : Option pv_O := pS X 5 (none) k_Wp_passQuarters 2 [some (.ref v0), some (.int v1), some (.int v2)] [] h
set_option maxRecDepth 8000 in
theorem u_Wp_passQuarters_0 (X : pv_X) (v0 : Nat) (v1 : Int32) (h : pv_H) : f_Wp_passQuarters_0 X v0 v1 h =
    f_Wp_passQuarters_2 X v0 v1 0 h := by
  show pS X 5 (none) k_Wp_passQuarters 0 [some (.ref v0), some (.int v1), none] [] h = _
  refine (ss_iconst rfl (v := 0) rfl).trans ?_
  refine (ss_istore_n rfl rfl).trans ?_
  rfl
set_option maxRecDepth 8000 in
theorem u_Wp_passQuarters_2 (X : pv_X) (v0 : Nat) (v1 : Int32) (v2 : Int32) (h : pv_H) : f_Wp_passQuarters_2 X v0 v1 v2 h =
    if v1 ≤ v2 then some (none, h) else (pv_fR h v0 10 1).bind (fun x1 => (pv_fR h v0 10 6).bind (fun x2 => if pv_rc h x1 6 = true then (pv_tI (pM X m_Po_passQuarter [.ref x1, .ref x2] h)).bind (fun q3 => f_Wp_passQuarters_2 X v0 v1 (v2 + 1) q3.2) else none)) := by
  show pS X 5 (none) k_Wp_passQuarters 2 [some (.ref v0), some (.int v1), some (.int v2)] [] h = _
  refine (ss_iload_n rfl rfl).trans ?_
  refine (ss_iload_n rfl rfl).trans ?_
  refine (ss_icmp_ge rfl).trans ?_
  refine pv_ite ?_ ?_
  · exact ss_return rfl
  · refine (ss_aload_n rfl rfl).trans ?_
    refine (ss_getR rfl).trans ?_
    refine congrArg (Option.bind _) (funext fun x1 => ?_)
    refine (ss_aload_n rfl rfl).trans ?_
    refine (ss_getR rfl).trans ?_
    refine congrArg (Option.bind _) (funext fun x2 => ?_)
    refine (ss_callVI (as := [.ref x2]) rfl t_Po_passQuarter (by decide) rfl rfl (by decide) (Or.inl rfl) ⟨Nat.le_of_ble_eq_true rfl, Nat.le_of_ble_eq_true rfl⟩).trans ?_
    refine pv_ite ?_ rfl
    refine congrArg (Option.bind _) (funext fun q3 => ?_)
    refine (ss_popI rfl).trans ?_
    refine (ss_iinc3 rfl rfl (v := v2 + 1) (congrArg (HAdd.hAdd _) (show Int32.ofInt (1) = 1 by decide)) rfl).trans ?_
    refine (ss_goto rfl).trans ?_
    rfl
theorem e_Wp_passQuarters (X : pv_X) (v0 : Nat) (v1 : Int32) (h : pv_H) : pM X m_Wp_passQuarters [.ref v0, .int v1] h = f_Wp_passQuarters_0 X v0 v1 h := rfl
noncomputable def f_Wp_outLater_0 (X : pv_X) (v0 : Nat) (v1 : Int32) (v2 : Int32) (h : pv_H) : Option pv_O := pS X 6 (some .int) k_Wp_outLater 0 [some (.ref v0), some (.int v1), some (.int v2)] [] h
set_option maxRecDepth 8000 in
theorem u_Wp_outLater_0 (X : pv_X) (v0 : Nat) (v1 : Int32) (v2 : Int32) (h : pv_H) : f_Wp_outLater_0 X v0 v1 v2 h =
    (pv_fR h v0 10 6).bind (fun x1 => (pv_fR h v0 10 5).bind (fun x2 => if pv_rc h x1 7 = true then (pv_tV (pM X m_St_copy [.ref x1, .ref x2] h)).bind (fun h3 => if pv_rc h3 v0 10 = true then (pv_tV (pM X m_Wp_passQuarters [.ref v0, .int v2] h3)).bind (fun h4 => (pv_fR h4 v0 10 6).bind (fun x5 => if pv_rc h4 x5 7 = true then (pv_tI (pM X m_St_outOf [.ref x5, .int v1] h4)).bind (fun q6 => some (some (.int q6.1), q6.2)) else none)) else none) else none)) := by
  show pS X 6 (some .int) k_Wp_outLater 0 [some (.ref v0), some (.int v1), some (.int v2)] [] h = _
  refine (ss_aload_n rfl rfl).trans ?_
  refine (ss_getR rfl).trans ?_
  refine congrArg (Option.bind _) (funext fun x1 => ?_)
  refine (ss_aload_n rfl rfl).trans ?_
  refine (ss_getR rfl).trans ?_
  refine congrArg (Option.bind _) (funext fun x2 => ?_)
  refine (ss_callVN (as := [.ref x2]) rfl t_St_copy (by decide) rfl rfl (by decide) rfl ⟨Nat.le_of_ble_eq_true rfl, Nat.le_of_ble_eq_true rfl⟩).trans ?_
  refine pv_ite ?_ rfl
  refine congrArg (Option.bind _) (funext fun h3 => ?_)
  refine (ss_aload_n rfl rfl).trans ?_
  refine (ss_iload_n rfl rfl).trans ?_
  refine (ss_callVN (as := [.int v2]) rfl t_Wp_passQuarters (by decide) rfl rfl (by decide) rfl ⟨Nat.le_of_ble_eq_true rfl, Nat.le_of_ble_eq_true rfl⟩).trans ?_
  refine pv_ite ?_ rfl
  refine congrArg (Option.bind _) (funext fun h4 => ?_)
  refine (ss_aload_n rfl rfl).trans ?_
  refine (ss_getR rfl).trans ?_
  refine congrArg (Option.bind _) (funext fun x5 => ?_)
  refine (ss_iload_n rfl rfl).trans ?_
  refine (ss_callVI (as := [.int v1]) rfl t_St_outOf (by decide) rfl rfl (by decide) (Or.inl rfl) ⟨Nat.le_of_ble_eq_true rfl, Nat.le_of_ble_eq_true rfl⟩).trans ?_
  refine pv_ite ?_ rfl
  refine congrArg (Option.bind _) (funext fun q6 => ?_)
  exact ss_ireturn rfl
theorem e_Wp_outLater (X : pv_X) (v0 : Nat) (v1 : Int32) (v2 : Int32) (h : pv_H) : pM X m_Wp_outLater [.ref v0, .int v1, .int v2] h = f_Wp_outLater_0 X v0 v1 v2 h := rfl
noncomputable def f_Wp_farOf_0 (X : pv_X) (v0 : Nat) (v1 : Int32) (h : pv_H) : Option pv_O := pS X 3 (some .int) k_Wp_farOf 0 [some (.ref v0), some (.int v1)] [] h
set_option maxRecDepth 8000 in
theorem u_Wp_farOf_0 (X : pv_X) (v0 : Nat) (v1 : Int32) (h : pv_H) : f_Wp_farOf_0 X v0 v1 h =
    if pv_rc h v0 7 = true then (pv_tI (pM X m_St_outOf [.ref v0, .int v1] h)).bind (fun q1 => (pv_tI (pM X m_Ma_abs [.int q1.1] q1.2)).bind (fun q2 => some (some (.int q2.1), q2.2))) else none := by
  show pS X 3 (some .int) k_Wp_farOf 0 [some (.ref v0), some (.int v1)] [] h = _
  refine (ss_aload_n rfl rfl).trans ?_
  refine (ss_iload_n rfl rfl).trans ?_
  refine (ss_callVI (as := [.int v1]) rfl t_St_outOf (by decide) rfl rfl (by decide) (Or.inl rfl) ⟨Nat.le_of_ble_eq_true rfl, Nat.le_of_ble_eq_true rfl⟩).trans ?_
  refine pv_ite ?_ rfl
  refine congrArg (Option.bind _) (funext fun q1 => ?_)
  refine (ss_callSI (as := [.int q1.1]) rfl t_Ma_abs (by decide) rfl rfl (by decide) (Or.inl rfl) ⟨Nat.le_of_ble_eq_true rfl, Nat.le_of_ble_eq_true rfl⟩).trans ?_
  refine congrArg (Option.bind _) (funext fun q2 => ?_)
  exact ss_ireturn rfl
theorem e_Wp_farOf (X : pv_X) (v0 : Nat) (v1 : Int32) (h : pv_H) : pM X m_Wp_farOf [.ref v0, .int v1] h = f_Wp_farOf_0 X v0 v1 h := rfl
noncomputable def f_Wp_worstOut_0 (X : pv_X) (v0 : Nat) (v1 : Nat) (h : pv_H) : Option pv_O := pS X 4 (some .int) k_Wp_worstOut 0 [some (.ref v0), some (.ref v1), none, none] [] h
noncomputable def f_Wp_worstOut_4 (X : pv_X) (v0 : Nat) (v1 : Nat) (v2 : Int32) (v3 : Int32) (h : pv_H) : Option pv_O := pS X 4 (some .int) k_Wp_worstOut 4 [some (.ref v0), some (.ref v1), some (.int v2), some (.int v3)] [] h
set_option maxRecDepth 8000 in
theorem u_Wp_worstOut_0 (X : pv_X) (v0 : Nat) (v1 : Nat) (h : pv_H) : f_Wp_worstOut_0 X v0 v1 h =
    f_Wp_worstOut_4 X v0 v1 0 0 h := by
  show pS X 4 (some .int) k_Wp_worstOut 0 [some (.ref v0), some (.ref v1), none, none] [] h = _
  refine (ss_iconst rfl (v := 0) rfl).trans ?_
  refine (ss_istore_n rfl rfl).trans ?_
  refine (ss_iconst rfl (v := 0) rfl).trans ?_
  refine (ss_istore_n rfl rfl).trans ?_
  rfl
set_option maxRecDepth 8000 in
theorem u_Wp_worstOut_4 (X : pv_X) (v0 : Nat) (v1 : Nat) (v2 : Int32) (v3 : Int32) (h : pv_H) : f_Wp_worstOut_4 X v0 v1 v2 v3 h =
    (pv_fR h v0 10 1).bind (fun x1 => (pv_fI h x1 6 6).bind (fun x2 => if x2 ≤ v3 then some (some (.int v2), h) else (pv_tI (pM X m_Wp_farOf [.ref v1, .int v3] h)).bind (fun q3 => (pv_tI (pM X m_Ma_max [.int v2, .int q3.1] q3.2)).bind (fun q4 => f_Wp_worstOut_4 X v0 v1 q4.1 (v3 + 1) q4.2)))) := by
  show pS X 4 (some .int) k_Wp_worstOut 4 [some (.ref v0), some (.ref v1), some (.int v2), some (.int v3)] [] h = _
  refine (ss_iload_n rfl rfl).trans ?_
  refine (ss_aload_n rfl rfl).trans ?_
  refine (ss_getR rfl).trans ?_
  refine congrArg (Option.bind _) (funext fun x1 => ?_)
  refine (ss_getI rfl).trans ?_
  refine congrArg (Option.bind _) (funext fun x2 => ?_)
  refine (ss_icmp_ge rfl).trans ?_
  refine pv_ite ?_ ?_
  · refine (ss_iload_n rfl rfl).trans ?_
    exact ss_ireturn rfl
  · refine (ss_iload_n rfl rfl).trans ?_
    refine (ss_aload_n rfl rfl).trans ?_
    refine (ss_iload_n rfl rfl).trans ?_
    refine (ss_callSI (as := [.ref v1, .int v3]) rfl t_Wp_farOf (by decide) rfl rfl (by simp [Value.category]) (Or.inl rfl) ⟨Nat.le_of_ble_eq_true rfl, Nat.le_of_ble_eq_true rfl⟩).trans ?_
    refine congrArg (Option.bind _) (funext fun q3 => ?_)
    refine (ss_callSI (as := [.int v2, .int q3.1]) rfl t_Ma_max (by decide) rfl rfl (by decide) (Or.inl rfl) ⟨Nat.le_of_ble_eq_true rfl, Nat.le_of_ble_eq_true rfl⟩).trans ?_
    refine congrArg (Option.bind _) (funext fun q4 => ?_)
    refine (ss_istore_n rfl rfl).trans ?_
    refine (ss_iinc3 rfl rfl (v := v3 + 1) (congrArg (HAdd.hAdd _) (show Int32.ofInt (1) = 1 by decide)) rfl).trans ?_
    refine (ss_goto rfl).trans ?_
    rfl
theorem e_Wp_worstOut (X : pv_X) (v0 : Nat) (v1 : Nat) (h : pv_H) : pM X m_Wp_worstOut [.ref v0, .ref v1] h = f_Wp_worstOut_0 X v0 v1 h := rfl
noncomputable def f_Wp_spreadOf_0 (X : pv_X) (v0 : Nat) (v1 : Nat) (v2 : Int32) (h : pv_H) : Option pv_O := pS X 3 (some .int) k_Wp_spreadOf 0 [some (.ref v0), some (.ref v1), some (.int v2), none, none, none] [] h
noncomputable def f_Wp_spreadOf_12 (X : pv_X) (v0 : Nat) (v1 : Nat) (v2 : Int32) (v3 : Int32) (v4 : Int32) (v5 : Int32) (h : pv_H) : Option pv_O := pS X 3 (some .int) k_Wp_spreadOf 12 [some (.ref v0), some (.ref v1), some (.int v2), some (.int v3), some (.int v4), some (.int v5)] [] h
noncomputable def f_Wp_spreadOf_57 (X : pv_X) (v0 : Nat) (v1 : Nat) (v2 : Int32) (v3 : Int32) (v4 : Int32) (v5 : Int32) (h : pv_H) : Option pv_O := pS X 3 (some .int) k_Wp_spreadOf 57 [some (.ref v0), some (.ref v1), some (.int v2), some (.int v3), some (.int v4), some (.int v5)] [] h
set_option maxRecDepth 8000 in
theorem u_Wp_spreadOf_0 (X : pv_X) (v0 : Nat) (v1 : Nat) (v2 : Int32) (h : pv_H) : f_Wp_spreadOf_0 X v0 v1 v2 h =
    f_Wp_spreadOf_12 X v0 v1 v2 (-360) 359 0 h := by
  show pS X 3 (some .int) k_Wp_spreadOf 0 [some (.ref v0), some (.ref v1), some (.int v2), none, none, none] [] h = _
  refine (ss_sipush rfl (v := (-360)) rfl).trans ?_
  refine (ss_istore_n rfl rfl).trans ?_
  refine (ss_sipush rfl (v := 359) rfl).trans ?_
  refine (ss_istore rfl rfl).trans ?_
  refine (ss_iconst rfl (v := 0) rfl).trans ?_
  refine (ss_istore rfl rfl).trans ?_
  rfl
set_option maxRecDepth 8000 in
theorem u_Wp_spreadOf_12 (X : pv_X) (v0 : Nat) (v1 : Nat) (v2 : Int32) (v3 : Int32) (v4 : Int32) (v5 : Int32) (h : pv_H) : f_Wp_spreadOf_12 X v0 v1 v2 v3 v4 v5 h =
    (pv_fR h v0 10 1).bind (fun x1 => (pv_fI h x1 6 6).bind (fun x2 => if x2 ≤ v5 then (pv_tI (pM X m_Ma_max [.int 0, .int (v3 - v4)] h)).bind (fun q3 => some (some (.int q3.1), q3.2)) else (pv_tI (pM X m_Wp_has [.int v2, .int v5] h)).bind (fun q4 => if q4.1 = 0 then f_Wp_spreadOf_57 X v0 v1 v2 v3 v4 v5 q4.2 else if pv_rc q4.2 v1 7 = true then (pv_tI (pM X m_St_outOf [.ref v1, .int v5] q4.2)).bind (fun q5 => (pv_tI (pM X m_Ma_max [.int v3, .int q5.1] q5.2)).bind (fun q6 => if pv_rc q6.2 v1 7 = true then (pv_tI (pM X m_St_outOf [.ref v1, .int v5] q6.2)).bind (fun q7 => (pv_tI (pM X m_Ma_min [.int v4, .int q7.1] q7.2)).bind (fun q8 => f_Wp_spreadOf_57 X v0 v1 v2 q6.1 q8.1 v5 q8.2)) else none)) else none))) := by
  show pS X 3 (some .int) k_Wp_spreadOf 12 [some (.ref v0), some (.ref v1), some (.int v2), some (.int v3), some (.int v4), some (.int v5)] [] h = _
  refine (ss_iload rfl rfl).trans ?_
  refine (ss_aload_n rfl rfl).trans ?_
  refine (ss_getR rfl).trans ?_
  refine congrArg (Option.bind _) (funext fun x1 => ?_)
  refine (ss_getI rfl).trans ?_
  refine congrArg (Option.bind _) (funext fun x2 => ?_)
  refine (ss_icmp_ge rfl).trans ?_
  refine pv_ite ?_ ?_
  · refine (ss_iconst rfl (v := 0) rfl).trans ?_
    refine (ss_iload_n rfl rfl).trans ?_
    refine (ss_iload rfl rfl).trans ?_
    refine (ss_isub rfl).trans ?_
    refine (ss_callSI (as := [.int 0, .int (v3 - v4)]) rfl t_Ma_max (by decide) rfl rfl (by decide) (Or.inl rfl) ⟨Nat.le_of_ble_eq_true rfl, Nat.le_of_ble_eq_true rfl⟩).trans ?_
    refine congrArg (Option.bind _) (funext fun q3 => ?_)
    exact ss_ireturn rfl
  · refine (ss_iload_n rfl rfl).trans ?_
    refine (ss_iload rfl rfl).trans ?_
    refine (ss_callSI (as := [.int v2, .int v5]) rfl t_Wp_has (by decide) rfl rfl (by decide) (Or.inr rfl) ⟨Nat.le_of_ble_eq_true rfl, Nat.le_of_ble_eq_true rfl⟩).trans ?_
    refine congrArg (Option.bind _) (funext fun q4 => ?_)
    refine (ss_if_eq rfl).trans ?_
    refine pv_ite ?_ ?_
    · rfl
    · refine (ss_iload_n rfl rfl).trans ?_
      refine (ss_aload_n rfl rfl).trans ?_
      refine (ss_iload rfl rfl).trans ?_
      refine (ss_callVI (as := [.int v5]) rfl t_St_outOf (by decide) rfl rfl (by simp [Value.category]) (Or.inl rfl) ⟨Nat.le_of_ble_eq_true rfl, Nat.le_of_ble_eq_true rfl⟩).trans ?_
      refine pv_ite ?_ rfl
      refine congrArg (Option.bind _) (funext fun q5 => ?_)
      refine (ss_callSI (as := [.int v3, .int q5.1]) rfl t_Ma_max (by decide) rfl rfl (by decide) (Or.inl rfl) ⟨Nat.le_of_ble_eq_true rfl, Nat.le_of_ble_eq_true rfl⟩).trans ?_
      refine congrArg (Option.bind _) (funext fun q6 => ?_)
      refine (ss_istore_n rfl rfl).trans ?_
      refine (ss_iload rfl rfl).trans ?_
      refine (ss_aload_n rfl rfl).trans ?_
      refine (ss_iload rfl rfl).trans ?_
      refine (ss_callVI (as := [.int v5]) rfl t_St_outOf (by decide) rfl rfl (by simp [Value.category]) (Or.inl rfl) ⟨Nat.le_of_ble_eq_true rfl, Nat.le_of_ble_eq_true rfl⟩).trans ?_
      refine pv_ite ?_ rfl
      refine congrArg (Option.bind _) (funext fun q7 => ?_)
      refine (ss_callSI (as := [.int v4, .int q7.1]) rfl t_Ma_min (by decide) rfl rfl (by decide) (Or.inl rfl) ⟨Nat.le_of_ble_eq_true rfl, Nat.le_of_ble_eq_true rfl⟩).trans ?_
      refine congrArg (Option.bind _) (funext fun q8 => ?_)
      refine (ss_istore rfl rfl).trans ?_
      rfl
set_option maxRecDepth 8000 in
theorem u_Wp_spreadOf_57 (X : pv_X) (v0 : Nat) (v1 : Nat) (v2 : Int32) (v3 : Int32) (v4 : Int32) (v5 : Int32) (h : pv_H) : f_Wp_spreadOf_57 X v0 v1 v2 v3 v4 v5 h =
    f_Wp_spreadOf_12 X v0 v1 v2 v3 v4 (v5 + 1) h := by
  show pS X 3 (some .int) k_Wp_spreadOf 57 [some (.ref v0), some (.ref v1), some (.int v2), some (.int v3), some (.int v4), some (.int v5)] [] h = _
  refine (ss_iinc3 rfl rfl (v := v5 + 1) (congrArg (HAdd.hAdd _) (show Int32.ofInt (1) = 1 by decide)) rfl).trans ?_
  refine (ss_goto rfl).trans ?_
  rfl
theorem e_Wp_spreadOf (X : pv_X) (v0 : Nat) (v1 : Nat) (v2 : Int32) (h : pv_H) : pM X m_Wp_spreadOf [.ref v0, .ref v1, .int v2] h = f_Wp_spreadOf_0 X v0 v1 v2 h := rfl
noncomputable def f_Wp_allAsked_0 (X : pv_X) (v0 : Nat) (v1 : Nat) (h : pv_H) : Option pv_O := pS X 1 (some .int) k_Wp_allAsked 0 [some (.ref v0), some (.ref v1), none, none] [] h
noncomputable def f_Wp_allAsked_4 (X : pv_X) (v0 : Nat) (v1 : Nat) (v2 : Int32) (v3 : Int32) (h : pv_H) : Option pv_O := pS X 1 (some .int) k_Wp_allAsked 4 [some (.ref v0), some (.ref v1), some (.int v2), some (.int v3)] [] h
set_option maxRecDepth 8000 in
theorem u_Wp_allAsked_0 (X : pv_X) (v0 : Nat) (v1 : Nat) (h : pv_H) : f_Wp_allAsked_0 X v0 v1 h =
    f_Wp_allAsked_4 X v0 v1 0 0 h := by
  show pS X 1 (some .int) k_Wp_allAsked 0 [some (.ref v0), some (.ref v1), none, none] [] h = _
  refine (ss_iconst rfl (v := 0) rfl).trans ?_
  refine (ss_istore_n rfl rfl).trans ?_
  refine (ss_iconst rfl (v := 0) rfl).trans ?_
  refine (ss_istore_n rfl rfl).trans ?_
  rfl
set_option maxRecDepth 8000 in
theorem u_Wp_allAsked_4 (X : pv_X) (v0 : Nat) (v1 : Nat) (v2 : Int32) (v3 : Int32) (h : pv_H) : f_Wp_allAsked_4 X v0 v1 v2 v3 h =
    (pv_fR h v0 10 1).bind (fun x1 => (pv_fI h x1 6 6).bind (fun x2 => if x2 ≤ v3 then some (some (.int v2), h) else (pv_fR h v1 7 2).bind (fun x3 => (pv_aX X h x3 v3).bind (fun x4 => f_Wp_allAsked_4 X v0 v1 (v2 + x4) (v3 + 1) h)))) := by
  show pS X 1 (some .int) k_Wp_allAsked 4 [some (.ref v0), some (.ref v1), some (.int v2), some (.int v3)] [] h = _
  refine (ss_iload_n rfl rfl).trans ?_
  refine (ss_aload_n rfl rfl).trans ?_
  refine (ss_getR rfl).trans ?_
  refine congrArg (Option.bind _) (funext fun x1 => ?_)
  refine (ss_getI rfl).trans ?_
  refine congrArg (Option.bind _) (funext fun x2 => ?_)
  refine (ss_icmp_ge rfl).trans ?_
  refine pv_ite ?_ ?_
  · refine (ss_iload_n rfl rfl).trans ?_
    exact ss_ireturn rfl
  · refine (ss_iload_n rfl rfl).trans ?_
    refine (ss_aload_n rfl rfl).trans ?_
    refine (ss_getR rfl).trans ?_
    refine congrArg (Option.bind _) (funext fun x3 => ?_)
    refine (ss_iload_n rfl rfl).trans ?_
    refine (ss_iaload rfl).trans ?_
    refine congrArg (Option.bind _) (funext fun x4 => ?_)
    refine (ss_iadd rfl).trans ?_
    refine (ss_istore_n rfl rfl).trans ?_
    refine (ss_iinc3 rfl rfl (v := v3 + 1) (congrArg (HAdd.hAdd _) (show Int32.ofInt (1) = 1 by decide)) rfl).trans ?_
    refine (ss_goto rfl).trans ?_
    rfl
theorem e_Wp_allAsked (X : pv_X) (v0 : Nat) (v1 : Nat) (h : pv_H) : pM X m_Wp_allAsked [.ref v0, .ref v1] h = f_Wp_allAsked_0 X v0 v1 h := rfl
noncomputable def f_Wp_allBeats_0 (X : pv_X) (v0 : Nat) (v1 : Nat) (h : pv_H) : Option pv_O := pS X 1 (some .int) k_Wp_allBeats 0 [some (.ref v0), some (.ref v1), none, none] [] h
noncomputable def f_Wp_allBeats_4 (X : pv_X) (v0 : Nat) (v1 : Nat) (v2 : Int32) (v3 : Int32) (h : pv_H) : Option pv_O := pS X 1 (some .int) k_Wp_allBeats 4 [some (.ref v0), some (.ref v1), some (.int v2), some (.int v3)] [] h
set_option maxRecDepth 8000 in
theorem u_Wp_allBeats_0 (X : pv_X) (v0 : Nat) (v1 : Nat) (h : pv_H) : f_Wp_allBeats_0 X v0 v1 h =
    f_Wp_allBeats_4 X v0 v1 0 0 h := by
  show pS X 1 (some .int) k_Wp_allBeats 0 [some (.ref v0), some (.ref v1), none, none] [] h = _
  refine (ss_iconst rfl (v := 0) rfl).trans ?_
  refine (ss_istore_n rfl rfl).trans ?_
  refine (ss_iconst rfl (v := 0) rfl).trans ?_
  refine (ss_istore_n rfl rfl).trans ?_
  rfl
set_option maxRecDepth 8000 in
theorem u_Wp_allBeats_4 (X : pv_X) (v0 : Nat) (v1 : Nat) (v2 : Int32) (v3 : Int32) (h : pv_H) : f_Wp_allBeats_4 X v0 v1 v2 v3 h =
    (pv_fR h v0 10 1).bind (fun x1 => (pv_fI h x1 6 6).bind (fun x2 => if x2 ≤ v3 then some (some (.int v2), h) else (pv_fR h v1 7 1).bind (fun x3 => (pv_aX X h x3 v3).bind (fun x4 => f_Wp_allBeats_4 X v0 v1 (v2 + x4) (v3 + 1) h)))) := by
  show pS X 1 (some .int) k_Wp_allBeats 4 [some (.ref v0), some (.ref v1), some (.int v2), some (.int v3)] [] h = _
  refine (ss_iload_n rfl rfl).trans ?_
  refine (ss_aload_n rfl rfl).trans ?_
  refine (ss_getR rfl).trans ?_
  refine congrArg (Option.bind _) (funext fun x1 => ?_)
  refine (ss_getI rfl).trans ?_
  refine congrArg (Option.bind _) (funext fun x2 => ?_)
  refine (ss_icmp_ge rfl).trans ?_
  refine pv_ite ?_ ?_
  · refine (ss_iload_n rfl rfl).trans ?_
    exact ss_ireturn rfl
  · refine (ss_iload_n rfl rfl).trans ?_
    refine (ss_aload_n rfl rfl).trans ?_
    refine (ss_getR rfl).trans ?_
    refine congrArg (Option.bind _) (funext fun x3 => ?_)
    refine (ss_iload_n rfl rfl).trans ?_
    refine (ss_iaload rfl).trans ?_
    refine congrArg (Option.bind _) (funext fun x4 => ?_)
    refine (ss_iadd rfl).trans ?_
    refine (ss_istore_n rfl rfl).trans ?_
    refine (ss_iinc3 rfl rfl (v := v3 + 1) (congrArg (HAdd.hAdd _) (show Int32.ofInt (1) = 1 by decide)) rfl).trans ?_
    refine (ss_goto rfl).trans ?_
    rfl
theorem e_Wp_allBeats (X : pv_X) (v0 : Nat) (v1 : Nat) (h : pv_H) : pM X m_Wp_allBeats [.ref v0, .ref v1] h = f_Wp_allBeats_0 X v0 v1 h := rfl
