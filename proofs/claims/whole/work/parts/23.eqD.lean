noncomputable def f_Md_thrown_0 (X : pv_X) (v0 : Nat) (h : pv_H) : Option pv_O := pS X 1 (some .int) k_Md_thrown 0 [some (.ref v0)] [] h
set_option maxRecDepth 8000 in
theorem u_Md_thrown_0 (X : pv_X) (v0 : Nat) (h : pv_H) : f_Md_thrown_0 X v0 h =
    (pv_fI h v0 11 0).bind (fun x1 => some (some (.int x1), h)) := by
  show pS X 1 (some .int) k_Md_thrown 0 [some (.ref v0)] [] h = _
  refine (ss_aload_n rfl rfl).trans ?_
  refine (ss_getI rfl).trans ?_
  refine congrArg (Option.bind _) (funext fun x1 => ?_)
  exact ss_ireturn rfl
theorem e_Md_thrown (X : pv_X) (v0 : Nat) (h : pv_H) : pM X m_Md_thrown [.ref v0] h = f_Md_thrown_0 X v0 h := rfl
noncomputable def f_Md_feed_0 (X : pv_X) (v0 : Nat) (v1 : Int64) (v3 : Int64) (v5 : Int64) (h : pv_H) : Option pv_O := pS X 2 (some .int) k_Md_feed 0 [some (.ref v0), some (.long v1), none, some (.long v3), none, some (.long v5), none] [] h
set_option maxRecDepth 8000 in
theorem u_Md_feed_0 (X : pv_X) (v0 : Nat) (v1 : Int64) (v3 : Int64) (v5 : Int64) (h : pv_H) : f_Md_feed_0 X v0 v1 v3 v5 h =
    (pv_fp h v0 11 0 (.int 0)).bind (fun h1 => if pv_rc h1 v0 11 = true then (pv_tV (pM X m_Md_lay [.ref v0, .long v1] h1)).bind (fun h2 => if pv_rc h2 v0 11 = true then (pv_tV (pM X m_Md_lay [.ref v0, .long v3] h2)).bind (fun h3 => if pv_rc h3 v0 11 = true then (pv_tV (pM X m_Md_lay [.ref v0, .long v5] h3)).bind (fun h4 => (pv_fI h4 v0 11 2).bind (fun x5 => some (some (.int x5), h4))) else none) else none) else none) := by
  show pS X 2 (some .int) k_Md_feed 0 [some (.ref v0), some (.long v1), none, some (.long v3), none, some (.long v5), none] [] h = _
  refine (ss_aload_n rfl rfl).trans ?_
  refine (ss_iconst rfl (v := 0) rfl).trans ?_
  refine (ss_putI rfl).trans ?_
  refine congrArg (Option.bind _) (funext fun h1 => ?_)
  refine (ss_aload_n rfl rfl).trans ?_
  refine (ss_lload_n rfl rfl).trans ?_
  refine (ss_callVN (as := [.long v1]) rfl t_Md_lay (by decide) rfl rfl (by decide) rfl ⟨Nat.le_of_ble_eq_true rfl, Nat.le_of_ble_eq_true rfl⟩).trans ?_
  refine pv_ite ?_ rfl
  refine congrArg (Option.bind _) (funext fun h2 => ?_)
  refine (ss_aload_n rfl rfl).trans ?_
  refine (ss_lload_n rfl rfl).trans ?_
  refine (ss_callVN (as := [.long v3]) rfl t_Md_lay (by decide) rfl rfl (by decide) rfl ⟨Nat.le_of_ble_eq_true rfl, Nat.le_of_ble_eq_true rfl⟩).trans ?_
  refine pv_ite ?_ rfl
  refine congrArg (Option.bind _) (funext fun h3 => ?_)
  refine (ss_aload_n rfl rfl).trans ?_
  refine (ss_lload rfl rfl).trans ?_
  refine (ss_callVN (as := [.long v5]) rfl t_Md_lay (by decide) rfl rfl (by decide) rfl ⟨Nat.le_of_ble_eq_true rfl, Nat.le_of_ble_eq_true rfl⟩).trans ?_
  refine pv_ite ?_ rfl
  refine congrArg (Option.bind _) (funext fun h4 => ?_)
  refine (ss_aload_n rfl rfl).trans ?_
  refine (ss_getI rfl).trans ?_
  refine congrArg (Option.bind _) (funext fun x5 => ?_)
  exact ss_ireturn rfl
theorem e_Md_feed (X : pv_X) (v0 : Nat) (v1 : Int64) (v3 : Int64) (v5 : Int64) (h : pv_H) : pM X m_Md_feed [.ref v0, .long v1, .long v3, .long v5] h = f_Md_feed_0 X v0 v1 v3 v5 h := rfl
noncomputable def f_Md_lay_0 (X : pv_X) (v0 : Nat) (v1 : Int64) (h : pv_H) : Option pv_O := pS X 1 (none) k_Md_lay 0 [some (.ref v0), some (.long v1), none, none, none] [] h
noncomputable def f_Md_lay_3 (X : pv_X) (v0 : Nat) (v1 : Int64) (v3 : Int32) (o4 : Option Value) (h : pv_H) : Option pv_O := pS X 1 (none) k_Md_lay 3 [some (.ref v0), some (.long v1), none, some (.int v3), o4] [] h
noncomputable def f_Md_lay_38 (X : pv_X) (v0 : Nat) (v1 : Int64) (v3 : Int32) (v4 : Int32) (h : pv_H) : Option pv_O := pS X 1 (none) k_Md_lay 38 [some (.ref v0), some (.long v1), none, some (.int v3), some (.int v4)] [] h
noncomputable def f_Md_lay_69 (X : pv_X) (v0 : Nat) (v1 : Int64) (v3 : Int32) (v4 : Int32) (h : pv_H) : Option pv_O := pS X 1 (none) k_Md_lay 69 [some (.ref v0), some (.long v1), none, some (.int v3), some (.int v4)] [] h
set_option maxRecDepth 8000 in
theorem u_Md_lay_0 (X : pv_X) (v0 : Nat) (v1 : Int64) (h : pv_H) : f_Md_lay_0 X v0 v1 h =
    f_Md_lay_3 X v0 v1 56 none h := by
  show pS X 1 (none) k_Md_lay 0 [some (.ref v0), some (.long v1), none, none, none] [] h = _
  refine (ss_bipush rfl (v := 56) rfl).trans ?_
  refine (ss_istore_n rfl rfl).trans ?_
  rfl
set_option maxRecDepth 8000 in
theorem u_Md_lay_3 (X : pv_X) (v0 : Nat) (v1 : Int64) (v3 : Int32) (o4 : Option Value) (h : pv_H) : f_Md_lay_3 X v0 v1 v3 o4 h =
    if v3 < 0 then some (none, h) else if ((((v1 : Int64) >>> ((v3 : Int32).toInt64 &&& 63)) : Int64).toInt32 &&& 255) = 10 then f_Md_lay_38 X v0 v1 v3 ((((v1 : Int64) >>> ((v3 : Int32).toInt64 &&& 63)) : Int64).toInt32 &&& 255) h else if ((((v1 : Int64) >>> ((v3 : Int32).toInt64 &&& 63)) : Int64).toInt32 &&& 255) < 32 then f_Md_lay_69 X v0 v1 v3 ((((v1 : Int64) >>> ((v3 : Int32).toInt64 &&& 63)) : Int64).toInt32 &&& 255) h else if 126 < ((((v1 : Int64) >>> ((v3 : Int32).toInt64 &&& 63)) : Int64).toInt32 &&& 255) then f_Md_lay_69 X v0 v1 v3 ((((v1 : Int64) >>> ((v3 : Int32).toInt64 &&& 63)) : Int64).toInt32 &&& 255) h else f_Md_lay_38 X v0 v1 v3 ((((v1 : Int64) >>> ((v3 : Int32).toInt64 &&& 63)) : Int64).toInt32 &&& 255) h := by
  show pS X 1 (none) k_Md_lay 3 [some (.ref v0), some (.long v1), none, some (.int v3), o4] [] h = _
  refine (ss_iload_n rfl rfl).trans ?_
  refine (ss_if_lt rfl).trans ?_
  refine pv_ite ?_ ?_
  · exact ss_return rfl
  · refine (ss_lload_n rfl rfl).trans ?_
    refine (ss_iload_n rfl rfl).trans ?_
    refine (ss_lshr rfl).trans ?_
    refine (ss_l2i rfl).trans ?_
    refine (ss_sipush rfl (v := 255) rfl).trans ?_
    refine (ss_iand rfl).trans ?_
    refine (ss_istore rfl rfl).trans ?_
    refine (ss_iload rfl rfl).trans ?_
    refine (ss_bipush rfl (v := 10) rfl).trans ?_
    refine (ss_icmp_eq rfl).trans ?_
    refine pv_ite ?_ ?_
    · rfl
    · refine (ss_iload rfl rfl).trans ?_
      refine (ss_bipush rfl (v := 32) rfl).trans ?_
      refine (ss_icmp_lt rfl).trans ?_
      refine pv_ite ?_ ?_
      · rfl
      · refine (ss_iload rfl rfl).trans ?_
        refine (ss_bipush rfl (v := 126) rfl).trans ?_
        refine (ss_icmp_gt rfl).trans ?_
        refine pv_ite ?_ ?_
        · rfl
        · rfl
set_option maxRecDepth 8000 in
theorem u_Md_lay_38 (X : pv_X) (v0 : Nat) (v1 : Int64) (v3 : Int32) (v4 : Int32) (h : pv_H) : f_Md_lay_38 X v0 v1 v3 v4 h =
    (pv_fI h v0 11 2).bind (fun x1 => if 1000 ≤ x1 then f_Md_lay_69 X v0 v1 v3 v4 h else (pv_fR h v0 11 1).bind (fun x2 => (pv_fI h v0 11 2).bind (fun x3 => (pv_sI h x2 x3 v4).bind (fun h4 => (pv_fI h4 v0 11 2).bind (fun x5 => (pv_fp h4 v0 11 2 (.int (x5 + 1))).bind (fun h6 => f_Md_lay_69 X v0 v1 v3 v4 h6)))))) := by
  show pS X 1 (none) k_Md_lay 38 [some (.ref v0), some (.long v1), none, some (.int v3), some (.int v4)] [] h = _
  refine (ss_aload_n rfl rfl).trans ?_
  refine (ss_getI rfl).trans ?_
  refine congrArg (Option.bind _) (funext fun x1 => ?_)
  refine (ss_sipush rfl (v := 1000) rfl).trans ?_
  refine (ss_icmp_ge rfl).trans ?_
  refine pv_ite ?_ ?_
  · rfl
  · refine (ss_aload_n rfl rfl).trans ?_
    refine (ss_getR rfl).trans ?_
    refine congrArg (Option.bind _) (funext fun x2 => ?_)
    refine (ss_aload_n rfl rfl).trans ?_
    refine (ss_getI rfl).trans ?_
    refine congrArg (Option.bind _) (funext fun x3 => ?_)
    refine (ss_iload rfl rfl).trans ?_
    refine (ss_iastore rfl).trans ?_
    refine congrArg (Option.bind _) (funext fun h4 => ?_)
    refine (ss_aload_n rfl rfl).trans ?_
    refine (ss_dupR rfl).trans ?_
    refine (ss_getI rfl).trans ?_
    refine congrArg (Option.bind _) (funext fun x5 => ?_)
    refine (ss_iconst rfl (v := 1) rfl).trans ?_
    refine (ss_iadd rfl).trans ?_
    refine (ss_putI rfl).trans ?_
    refine congrArg (Option.bind _) (funext fun h6 => ?_)
    rfl
set_option maxRecDepth 8000 in
theorem u_Md_lay_69 (X : pv_X) (v0 : Nat) (v1 : Int64) (v3 : Int32) (v4 : Int32) (h : pv_H) : f_Md_lay_69 X v0 v1 v3 v4 h =
    f_Md_lay_3 X v0 v1 (v3 + (-8)) (some (.int v4)) h := by
  show pS X 1 (none) k_Md_lay 69 [some (.ref v0), some (.long v1), none, some (.int v3), some (.int v4)] [] h = _
  refine (ss_iinc3 rfl rfl (v := v3 + (-8)) (congrArg (HAdd.hAdd _) (show Int32.ofInt (-8) = (-8) by decide)) rfl).trans ?_
  refine (ss_goto rfl).trans ?_
  rfl
theorem e_Md_lay (X : pv_X) (v0 : Nat) (v1 : Int64) (h : pv_H) : pM X m_Md_lay [.ref v0, .long v1] h = f_Md_lay_0 X v0 v1 h := rfl
noncomputable def f_Md_init_0 (X : pv_X) (v0 : Nat) (h : pv_H) : Option pv_O := pS X 4 (none) k_Md_init 0 [some (.ref v0)] [] h
set_option maxRecDepth 8000 in
theorem u_Md_init_0 (X : pv_X) (v0 : Nat) (h : pv_H) : f_Md_init_0 X v0 h =
    (pv_na h 1 1000).bind (fun h1 => (pv_fp h1 v0 11 1 (.ref h.length)).bind (fun h2 => (pv_na h2 1 1002).bind (fun h3 => (pv_fp h3 v0 11 4 (.ref h2.length)).bind (fun h4 => (pv_na h4 1 1002).bind (fun h5 => (pv_fp h5 v0 11 5 (.ref h4.length)).bind (fun h6 => (pv_na h6 2 1002).bind (fun h7 => (pv_fp h7 v0 11 6 (.ref h6.length)).bind (fun h8 => (pv_na h8 2 20).bind (fun h9 => (pv_sJ h9 h8.length 0 1119812451).bind (fun h10 => (pv_sJ h10 h8.length 1 4003715).bind (fun h11 => (pv_sJ h11 h8.length 2 77090).bind (fun h12 => (pv_sJ h12 h8.length 3 970011).bind (fun h13 => (pv_sJ h13 h8.length 4 25144590).bind (fun h14 => (pv_sJ h14 h8.length 5 2083).bind (fun h15 => (pv_sJ h15 h8.length 6 450264416).bind (fun h16 => (pv_sJ h16 h8.length 7 1346435074).bind (fun h17 => (pv_sJ h17 h8.length 8 45076385548).bind (fun h18 => (pv_sJ h18 h8.length 9 30596128).bind (fun h19 => (pv_sJ h19 h8.length 10 6040476).bind (fun h20 => (pv_sJ h20 h8.length 11 20983).bind (fun h21 => (pv_sJ h21 h8.length 12 153785).bind (fun h22 => (pv_sJ h22 h8.length 13 19741).bind (fun h23 => (pv_sJ h23 h8.length 14 1891).bind (fun h24 => (pv_sJ h24 h8.length 15 573).bind (fun h25 => (pv_sJ h25 h8.length 16 108208).bind (fun h26 => (pv_sJ h26 h8.length 17 21332).bind (fun h27 => (pv_sJ h27 h8.length 18 2851816).bind (fun h28 => (pv_sJ h28 h8.length 19 426554).bind (fun h29 => (pv_fp h29 v0 11 9 (.ref h8.length)).bind (fun h30 => (pv_na h30 1 60).bind (fun h31 => (pv_fp h31 v0 11 10 (.ref h30.length)).bind (fun h32 => (pv_na h32 1 2200).bind (fun h33 => (pv_fp h33 v0 11 11 (.ref h32.length)).bind (fun h34 => (pv_na h34 1 2200).bind (fun h35 => (pv_fp h35 v0 11 12 (.ref h34.length)).bind (fun h36 => (pv_na h36 2 6).bind (fun h37 => (pv_fp h37 v0 11 14 (.ref h36.length)).bind (fun h38 => (pv_na h38 2 6).bind (fun h39 => (pv_fp h39 v0 11 15 (.ref h38.length)).bind (fun h40 => (pv_na h40 1 250).bind (fun h41 => (pv_fp h41 v0 11 18 (.ref h40.length)).bind (fun h42 => (pv_na h42 1 4).bind (fun h43 => (pv_fp h43 v0 11 19 (.ref h42.length)).bind (fun h44 => (pv_na h44 1 1100).bind (fun h45 => (pv_fp h45 v0 11 20 (.ref h44.length)).bind (fun h46 => (pv_na h46 1 1173).bind (fun h47 => (pv_fp h47 v0 11 21 (.ref h46.length)).bind (fun h48 => (pv_na h48 3 4).bind (fun h49 => (pv_fp h49 v0 11 23 (.ref h48.length)).bind (fun h50 => (pv_na h50 1 6).bind (fun h51 => (pv_fp h51 v0 11 24 (.ref h50.length)).bind (fun h52 => (pv_na h52 1 6).bind (fun h53 => (pv_fp h53 v0 11 25 (.ref h52.length)).bind (fun h54 => (pv_na h54 1 6).bind (fun h55 => (pv_fp h55 v0 11 26 (.ref h54.length)).bind (fun h56 => (pv_na h56 1 900).bind (fun h57 => (pv_fp h57 v0 11 28 (.ref h56.length)).bind (fun h58 => if pv_rc h58 v0 11 = true then (pv_tV (pM X m_Md_standsAsAlways [.ref v0, .int 0] h58)).bind (fun h59 => if pv_rc h59 v0 11 = true then (pv_tV (pM X m_Md_begins [.ref v0] h59)).bind (fun h60 => some (none, h60)) else none) else none)))))))))))))))))))))))))))))))))))))))))))))))))))))))))) := by
  show pS X 4 (none) k_Md_init 0 [some (.ref v0)] [] h = _
  refine (ss_aload_n rfl rfl).trans ?_
  refine (ss_oinit rfl (by decide)).trans ?_
  refine (ss_aload_n rfl rfl).trans ?_
  refine (ss_sipush rfl (v := 1000) rfl).trans ?_
  refine (ss_newarray (by decide) rfl).trans ?_
  refine congrArg (Option.bind _) (funext fun h1 => ?_)
  refine (ss_putR rfl).trans ?_
  refine congrArg (Option.bind _) (funext fun h2 => ?_)
  refine (ss_aload_n rfl rfl).trans ?_
  refine (ss_sipush rfl (v := 1002) rfl).trans ?_
  refine (ss_newarray (by decide) rfl).trans ?_
  refine congrArg (Option.bind _) (funext fun h3 => ?_)
  refine (ss_putR rfl).trans ?_
  refine congrArg (Option.bind _) (funext fun h4 => ?_)
  refine (ss_aload_n rfl rfl).trans ?_
  refine (ss_sipush rfl (v := 1002) rfl).trans ?_
  refine (ss_newarray (by decide) rfl).trans ?_
  refine congrArg (Option.bind _) (funext fun h5 => ?_)
  refine (ss_putR rfl).trans ?_
  refine congrArg (Option.bind _) (funext fun h6 => ?_)
  refine (ss_aload_n rfl rfl).trans ?_
  refine (ss_sipush rfl (v := 1002) rfl).trans ?_
  refine (ss_newarray (by decide) rfl).trans ?_
  refine congrArg (Option.bind _) (funext fun h7 => ?_)
  refine (ss_putR rfl).trans ?_
  refine congrArg (Option.bind _) (funext fun h8 => ?_)
  refine (ss_aload_n rfl rfl).trans ?_
  refine (ss_bipush rfl (v := 20) rfl).trans ?_
  refine (ss_newarray (by decide) rfl).trans ?_
  refine congrArg (Option.bind _) (funext fun h9 => ?_)
  refine (ss_dupR rfl).trans ?_
  refine (ss_iconst rfl (v := 0) rfl).trans ?_
  refine (ss_ldc2_w rfl (v := 1119812451) rfl).trans ?_
  refine (ss_lastore rfl).trans ?_
  refine congrArg (Option.bind _) (funext fun h10 => ?_)
  refine (ss_dupR rfl).trans ?_
  refine (ss_iconst rfl (v := 1) rfl).trans ?_
  refine (ss_ldc2_w rfl (v := 4003715) rfl).trans ?_
  refine (ss_lastore rfl).trans ?_
  refine congrArg (Option.bind _) (funext fun h11 => ?_)
  refine (ss_dupR rfl).trans ?_
  refine (ss_iconst rfl (v := 2) rfl).trans ?_
  refine (ss_ldc2_w rfl (v := 77090) rfl).trans ?_
  refine (ss_lastore rfl).trans ?_
  refine congrArg (Option.bind _) (funext fun h12 => ?_)
  refine (ss_dupR rfl).trans ?_
  refine (ss_iconst rfl (v := 3) rfl).trans ?_
  refine (ss_ldc2_w rfl (v := 970011) rfl).trans ?_
  refine (ss_lastore rfl).trans ?_
  refine congrArg (Option.bind _) (funext fun h13 => ?_)
  refine (ss_dupR rfl).trans ?_
  refine (ss_iconst rfl (v := 4) rfl).trans ?_
  refine (ss_ldc2_w rfl (v := 25144590) rfl).trans ?_
  refine (ss_lastore rfl).trans ?_
  refine congrArg (Option.bind _) (funext fun h14 => ?_)
  refine (ss_dupR rfl).trans ?_
  refine (ss_iconst rfl (v := 5) rfl).trans ?_
  refine (ss_ldc2_w rfl (v := 2083) rfl).trans ?_
  refine (ss_lastore rfl).trans ?_
  refine congrArg (Option.bind _) (funext fun h15 => ?_)
  refine (ss_dupR rfl).trans ?_
  refine (ss_bipush rfl (v := 6) rfl).trans ?_
  refine (ss_ldc2_w rfl (v := 450264416) rfl).trans ?_
  refine (ss_lastore rfl).trans ?_
  refine congrArg (Option.bind _) (funext fun h16 => ?_)
  refine (ss_dupR rfl).trans ?_
  refine (ss_bipush rfl (v := 7) rfl).trans ?_
  refine (ss_ldc2_w rfl (v := 1346435074) rfl).trans ?_
  refine (ss_lastore rfl).trans ?_
  refine congrArg (Option.bind _) (funext fun h17 => ?_)
  refine (ss_dupR rfl).trans ?_
  refine (ss_bipush rfl (v := 8) rfl).trans ?_
  refine (ss_ldc2_w rfl (v := 45076385548) rfl).trans ?_
  refine (ss_lastore rfl).trans ?_
  refine congrArg (Option.bind _) (funext fun h18 => ?_)
  refine (ss_dupR rfl).trans ?_
  refine (ss_bipush rfl (v := 9) rfl).trans ?_
  refine (ss_ldc2_w rfl (v := 30596128) rfl).trans ?_
  refine (ss_lastore rfl).trans ?_
  refine congrArg (Option.bind _) (funext fun h19 => ?_)
  refine (ss_dupR rfl).trans ?_
  refine (ss_bipush rfl (v := 10) rfl).trans ?_
  refine (ss_ldc2_w rfl (v := 6040476) rfl).trans ?_
  refine (ss_lastore rfl).trans ?_
  refine congrArg (Option.bind _) (funext fun h20 => ?_)
  refine (ss_dupR rfl).trans ?_
  refine (ss_bipush rfl (v := 11) rfl).trans ?_
  refine (ss_ldc2_w rfl (v := 20983) rfl).trans ?_
  refine (ss_lastore rfl).trans ?_
  refine congrArg (Option.bind _) (funext fun h21 => ?_)
  refine (ss_dupR rfl).trans ?_
  refine (ss_bipush rfl (v := 12) rfl).trans ?_
  refine (ss_ldc2_w rfl (v := 153785) rfl).trans ?_
  refine (ss_lastore rfl).trans ?_
  refine congrArg (Option.bind _) (funext fun h22 => ?_)
  refine (ss_dupR rfl).trans ?_
  refine (ss_bipush rfl (v := 13) rfl).trans ?_
  refine (ss_ldc2_w rfl (v := 19741) rfl).trans ?_
  refine (ss_lastore rfl).trans ?_
  refine congrArg (Option.bind _) (funext fun h23 => ?_)
  refine (ss_dupR rfl).trans ?_
  refine (ss_bipush rfl (v := 14) rfl).trans ?_
  refine (ss_ldc2_w rfl (v := 1891) rfl).trans ?_
  refine (ss_lastore rfl).trans ?_
  refine congrArg (Option.bind _) (funext fun h24 => ?_)
  refine (ss_dupR rfl).trans ?_
  refine (ss_bipush rfl (v := 15) rfl).trans ?_
  refine (ss_ldc2_w rfl (v := 573) rfl).trans ?_
  refine (ss_lastore rfl).trans ?_
  refine congrArg (Option.bind _) (funext fun h25 => ?_)
  refine (ss_dupR rfl).trans ?_
  refine (ss_bipush rfl (v := 16) rfl).trans ?_
  refine (ss_ldc2_w rfl (v := 108208) rfl).trans ?_
  refine (ss_lastore rfl).trans ?_
  refine congrArg (Option.bind _) (funext fun h26 => ?_)
  refine (ss_dupR rfl).trans ?_
  refine (ss_bipush rfl (v := 17) rfl).trans ?_
  refine (ss_ldc2_w rfl (v := 21332) rfl).trans ?_
  refine (ss_lastore rfl).trans ?_
  refine congrArg (Option.bind _) (funext fun h27 => ?_)
  refine (ss_dupR rfl).trans ?_
  refine (ss_bipush rfl (v := 18) rfl).trans ?_
  refine (ss_ldc2_w rfl (v := 2851816) rfl).trans ?_
  refine (ss_lastore rfl).trans ?_
  refine congrArg (Option.bind _) (funext fun h28 => ?_)
  refine (ss_dupR rfl).trans ?_
  refine (ss_bipush rfl (v := 19) rfl).trans ?_
  refine (ss_ldc2_w rfl (v := 426554) rfl).trans ?_
  refine (ss_lastore rfl).trans ?_
  refine congrArg (Option.bind _) (funext fun h29 => ?_)
  refine (ss_putR rfl).trans ?_
  refine congrArg (Option.bind _) (funext fun h30 => ?_)
  refine (ss_aload_n rfl rfl).trans ?_
  refine (ss_bipush rfl (v := 60) rfl).trans ?_
  refine (ss_newarray (by decide) rfl).trans ?_
  refine congrArg (Option.bind _) (funext fun h31 => ?_)
  refine (ss_putR rfl).trans ?_
  refine congrArg (Option.bind _) (funext fun h32 => ?_)
  refine (ss_aload_n rfl rfl).trans ?_
  refine (ss_sipush rfl (v := 2200) rfl).trans ?_
  refine (ss_newarray (by decide) rfl).trans ?_
  refine congrArg (Option.bind _) (funext fun h33 => ?_)
  refine (ss_putR rfl).trans ?_
  refine congrArg (Option.bind _) (funext fun h34 => ?_)
  refine (ss_aload_n rfl rfl).trans ?_
  refine (ss_sipush rfl (v := 2200) rfl).trans ?_
  refine (ss_newarray (by decide) rfl).trans ?_
  refine congrArg (Option.bind _) (funext fun h35 => ?_)
  refine (ss_putR rfl).trans ?_
  refine congrArg (Option.bind _) (funext fun h36 => ?_)
  refine (ss_aload_n rfl rfl).trans ?_
  refine (ss_bipush rfl (v := 6) rfl).trans ?_
  refine (ss_newarray (by decide) rfl).trans ?_
  refine congrArg (Option.bind _) (funext fun h37 => ?_)
  refine (ss_putR rfl).trans ?_
  refine congrArg (Option.bind _) (funext fun h38 => ?_)
  refine (ss_aload_n rfl rfl).trans ?_
  refine (ss_bipush rfl (v := 6) rfl).trans ?_
  refine (ss_newarray (by decide) rfl).trans ?_
  refine congrArg (Option.bind _) (funext fun h39 => ?_)
  refine (ss_putR rfl).trans ?_
  refine congrArg (Option.bind _) (funext fun h40 => ?_)
  refine (ss_aload_n rfl rfl).trans ?_
  refine (ss_sipush rfl (v := 250) rfl).trans ?_
  refine (ss_newarray (by decide) rfl).trans ?_
  refine congrArg (Option.bind _) (funext fun h41 => ?_)
  refine (ss_putR rfl).trans ?_
  refine congrArg (Option.bind _) (funext fun h42 => ?_)
  refine (ss_aload_n rfl rfl).trans ?_
  refine (ss_iconst rfl (v := 4) rfl).trans ?_
  refine (ss_newarray (by decide) rfl).trans ?_
  refine congrArg (Option.bind _) (funext fun h43 => ?_)
  refine (ss_putR rfl).trans ?_
  refine congrArg (Option.bind _) (funext fun h44 => ?_)
  refine (ss_aload_n rfl rfl).trans ?_
  refine (ss_sipush rfl (v := 1100) rfl).trans ?_
  refine (ss_newarray (by decide) rfl).trans ?_
  refine congrArg (Option.bind _) (funext fun h45 => ?_)
  refine (ss_putR rfl).trans ?_
  refine congrArg (Option.bind _) (funext fun h46 => ?_)
  refine (ss_aload_n rfl rfl).trans ?_
  refine (ss_sipush rfl (v := 1173) rfl).trans ?_
  refine (ss_newarray (by decide) rfl).trans ?_
  refine congrArg (Option.bind _) (funext fun h47 => ?_)
  refine (ss_putR rfl).trans ?_
  refine congrArg (Option.bind _) (funext fun h48 => ?_)
  refine (ss_aload_n rfl rfl).trans ?_
  refine (ss_iconst rfl (v := 4) rfl).trans ?_
  refine (ss_newarray (by decide) rfl).trans ?_
  refine congrArg (Option.bind _) (funext fun h49 => ?_)
  refine (ss_putR rfl).trans ?_
  refine congrArg (Option.bind _) (funext fun h50 => ?_)
  refine (ss_aload_n rfl rfl).trans ?_
  refine (ss_bipush rfl (v := 6) rfl).trans ?_
  refine (ss_newarray (by decide) rfl).trans ?_
  refine congrArg (Option.bind _) (funext fun h51 => ?_)
  refine (ss_putR rfl).trans ?_
  refine congrArg (Option.bind _) (funext fun h52 => ?_)
  refine (ss_aload_n rfl rfl).trans ?_
  refine (ss_bipush rfl (v := 6) rfl).trans ?_
  refine (ss_newarray (by decide) rfl).trans ?_
  refine congrArg (Option.bind _) (funext fun h53 => ?_)
  refine (ss_putR rfl).trans ?_
  refine congrArg (Option.bind _) (funext fun h54 => ?_)
  refine (ss_aload_n rfl rfl).trans ?_
  refine (ss_bipush rfl (v := 6) rfl).trans ?_
  refine (ss_newarray (by decide) rfl).trans ?_
  refine congrArg (Option.bind _) (funext fun h55 => ?_)
  refine (ss_putR rfl).trans ?_
  refine congrArg (Option.bind _) (funext fun h56 => ?_)
  refine (ss_aload_n rfl rfl).trans ?_
  refine (ss_sipush rfl (v := 900) rfl).trans ?_
  refine (ss_newarray (by decide) rfl).trans ?_
  refine congrArg (Option.bind _) (funext fun h57 => ?_)
  refine (ss_putR rfl).trans ?_
  refine congrArg (Option.bind _) (funext fun h58 => ?_)
  refine (ss_aload_n rfl rfl).trans ?_
  refine (ss_iconst rfl (v := 0) rfl).trans ?_
  refine (ss_callVN (as := [.int 0]) rfl t_Md_standsAsAlways (by decide) rfl rfl (by decide) rfl ⟨Nat.le_of_ble_eq_true rfl, Nat.le_of_ble_eq_true rfl⟩).trans ?_
  refine pv_ite ?_ rfl
  refine congrArg (Option.bind _) (funext fun h59 => ?_)
  refine (ss_aload_n rfl rfl).trans ?_
  refine (ss_callVN (as := []) rfl t_Md_begins (by decide) rfl rfl (by decide) rfl ⟨Nat.le_of_ble_eq_true rfl, Nat.le_of_ble_eq_true rfl⟩).trans ?_
  refine pv_ite ?_ rfl
  refine congrArg (Option.bind _) (funext fun h60 => ?_)
  exact ss_return rfl
theorem e_Md_init (X : pv_X) (v0 : Nat) (h : pv_H) : pM X m_Md_init [.ref v0] h = f_Md_init_0 X v0 h := rfl
noncomputable def f_Md_isLetter_0 (X : pv_X) (v0 : Int32) (h : pv_H) : Option pv_O := pS X 1 (some .boolean) k_Md_isLetter 0 [some (.int v0)] [] h
noncomputable def f_Md_isLetter_16 (X : pv_X) (v0 : Int32) (h : pv_H) : Option pv_O := pS X 1 (some .boolean) k_Md_isLetter 16 [some (.int v0)] [] h
noncomputable def f_Md_isLetter_17 (X : pv_X) (v0 : Int32) (s0 : Int32) (h : pv_H) : Option pv_O := pS X 1 (some .boolean) k_Md_isLetter 17 [some (.int v0)] [.int s0] h
set_option maxRecDepth 8000 in
theorem u_Md_isLetter_0 (X : pv_X) (v0 : Int32) (h : pv_H) : f_Md_isLetter_0 X v0 h =
    if v0 < 97 then f_Md_isLetter_16 X v0 h else if 122 < v0 then f_Md_isLetter_16 X v0 h else f_Md_isLetter_17 X v0 1 h := by
  show pS X 1 (some .boolean) k_Md_isLetter 0 [some (.int v0)] [] h = _
  refine (ss_iload_n rfl rfl).trans ?_
  refine (ss_bipush rfl (v := 97) rfl).trans ?_
  refine (ss_icmp_lt rfl).trans ?_
  refine pv_ite ?_ ?_
  · rfl
  · refine (ss_iload_n rfl rfl).trans ?_
    refine (ss_bipush rfl (v := 122) rfl).trans ?_
    refine (ss_icmp_gt rfl).trans ?_
    refine pv_ite ?_ ?_
    · rfl
    · refine (ss_iconst rfl (v := 1) rfl).trans ?_
      refine (ss_goto rfl).trans ?_
      rfl
set_option maxRecDepth 8000 in
theorem u_Md_isLetter_16 (X : pv_X) (v0 : Int32) (h : pv_H) : f_Md_isLetter_16 X v0 h =
    f_Md_isLetter_17 X v0 0 h := by
  show pS X 1 (some .boolean) k_Md_isLetter 16 [some (.int v0)] [] h = _
  refine (ss_iconst rfl (v := 0) rfl).trans ?_
  rfl
set_option maxRecDepth 8000 in
theorem u_Md_isLetter_17 (X : pv_X) (v0 : Int32) (s0 : Int32) (h : pv_H) : f_Md_isLetter_17 X v0 s0 h =
    if s0 = 0 ∨ s0 = 1 then some (some (.int s0), h) else none := by
  show pS X 1 (some .boolean) k_Md_isLetter 17 [some (.int v0)] [.int s0] h = _
  exact ss_zreturn rfl
theorem e_Md_isLetter (X : pv_X) (v0 : Int32) (h : pv_H) : pM X m_Md_isLetter [.int v0] h = f_Md_isLetter_0 X v0 h := rfl
noncomputable def f_Md_isDigit_0 (X : pv_X) (v0 : Int32) (h : pv_H) : Option pv_O := pS X 1 (some .boolean) k_Md_isDigit 0 [some (.int v0)] [] h
noncomputable def f_Md_isDigit_16 (X : pv_X) (v0 : Int32) (h : pv_H) : Option pv_O := pS X 1 (some .boolean) k_Md_isDigit 16 [some (.int v0)] [] h
noncomputable def f_Md_isDigit_17 (X : pv_X) (v0 : Int32) (s0 : Int32) (h : pv_H) : Option pv_O := pS X 1 (some .boolean) k_Md_isDigit 17 [some (.int v0)] [.int s0] h
set_option maxRecDepth 8000 in
theorem u_Md_isDigit_0 (X : pv_X) (v0 : Int32) (h : pv_H) : f_Md_isDigit_0 X v0 h =
    if v0 < 48 then f_Md_isDigit_16 X v0 h else if 57 < v0 then f_Md_isDigit_16 X v0 h else f_Md_isDigit_17 X v0 1 h := by
  show pS X 1 (some .boolean) k_Md_isDigit 0 [some (.int v0)] [] h = _
  refine (ss_iload_n rfl rfl).trans ?_
  refine (ss_bipush rfl (v := 48) rfl).trans ?_
  refine (ss_icmp_lt rfl).trans ?_
  refine pv_ite ?_ ?_
  · rfl
  · refine (ss_iload_n rfl rfl).trans ?_
    refine (ss_bipush rfl (v := 57) rfl).trans ?_
    refine (ss_icmp_gt rfl).trans ?_
    refine pv_ite ?_ ?_
    · rfl
    · refine (ss_iconst rfl (v := 1) rfl).trans ?_
      refine (ss_goto rfl).trans ?_
      rfl
set_option maxRecDepth 8000 in
theorem u_Md_isDigit_16 (X : pv_X) (v0 : Int32) (h : pv_H) : f_Md_isDigit_16 X v0 h =
    f_Md_isDigit_17 X v0 0 h := by
  show pS X 1 (some .boolean) k_Md_isDigit 16 [some (.int v0)] [] h = _
  refine (ss_iconst rfl (v := 0) rfl).trans ?_
  rfl
set_option maxRecDepth 8000 in
theorem u_Md_isDigit_17 (X : pv_X) (v0 : Int32) (s0 : Int32) (h : pv_H) : f_Md_isDigit_17 X v0 s0 h =
    if s0 = 0 ∨ s0 = 1 then some (some (.int s0), h) else none := by
  show pS X 1 (some .boolean) k_Md_isDigit 17 [some (.int v0)] [.int s0] h = _
  exact ss_zreturn rfl
theorem e_Md_isDigit (X : pv_X) (v0 : Int32) (h : pv_H) : pM X m_Md_isDigit [.int v0] h = f_Md_isDigit_0 X v0 h := rfl
noncomputable def f_Md_rank_0 (X : pv_X) (v0 : Int32) (h : pv_H) : Option pv_O := pS X 2 (some .int) k_Md_rank 0 [some (.int v0)] [] h
noncomputable def f_Md_rank_18 (X : pv_X) (v0 : Int32) (s0 : Int32) (h : pv_H) : Option pv_O := pS X 2 (some .int) k_Md_rank 18 [some (.int v0)] [.int s0] h
set_option maxRecDepth 8000 in
theorem u_Md_rank_0 (X : pv_X) (v0 : Int32) (h : pv_H) : f_Md_rank_0 X v0 h =
    (pv_tI (pM X m_Md_isLetter [.int v0] h)).bind (fun q1 => if q1.1 = 0 then f_Md_rank_18 X v0 (v0 - 21) q1.2 else f_Md_rank_18 X v0 (v0 - 96) q1.2) := by
  show pS X 2 (some .int) k_Md_rank 0 [some (.int v0)] [] h = _
  refine (ss_iload_n rfl rfl).trans ?_
  refine (ss_callSI (as := [.int v0]) rfl t_Md_isLetter (by decide) rfl rfl (by decide) (Or.inr rfl) ⟨Nat.le_of_ble_eq_true rfl, Nat.le_of_ble_eq_true rfl⟩).trans ?_
  refine congrArg (Option.bind _) (funext fun q1 => ?_)
  refine (ss_if_eq rfl).trans ?_
  refine pv_ite ?_ ?_
  · refine (ss_iload_n rfl rfl).trans ?_
    refine (ss_bipush rfl (v := 21) rfl).trans ?_
    refine (ss_isub rfl).trans ?_
    rfl
  · refine (ss_iload_n rfl rfl).trans ?_
    refine (ss_bipush rfl (v := 96) rfl).trans ?_
    refine (ss_isub rfl).trans ?_
    refine (ss_goto rfl).trans ?_
    rfl
set_option maxRecDepth 8000 in
theorem u_Md_rank_18 (X : pv_X) (v0 : Int32) (s0 : Int32) (h : pv_H) : f_Md_rank_18 X v0 s0 h =
    some (some (.int s0), h) := by
  show pS X 2 (some .int) k_Md_rank 18 [some (.int v0)] [.int s0] h = _
  exact ss_ireturn rfl
theorem e_Md_rank (X : pv_X) (v0 : Int32) (h : pv_H) : pM X m_Md_rank [.int v0] h = f_Md_rank_0 X v0 h := rfl
noncomputable def f_Md_isSignOf_0 (X : pv_X) (v0 : Int32) (h : pv_H) : Option pv_O := pS X 1 (some .boolean) k_Md_isSignOf 0 [some (.int v0)] [] h
noncomputable def f_Md_isSignOf_48 (X : pv_X) (v0 : Int32) (h : pv_H) : Option pv_O := pS X 1 (some .boolean) k_Md_isSignOf 48 [some (.int v0)] [] h
noncomputable def f_Md_isSignOf_53 (X : pv_X) (v0 : Int32) (s0 : Int32) (h : pv_H) : Option pv_O := pS X 1 (some .boolean) k_Md_isSignOf 53 [some (.int v0)] [.int s0] h
set_option maxRecDepth 8000 in
theorem u_Md_isSignOf_0 (X : pv_X) (v0 : Int32) (h : pv_H) : f_Md_isSignOf_0 X v0 h =
    if v0 = 40 then f_Md_isSignOf_48 X v0 h else if v0 = 41 then f_Md_isSignOf_48 X v0 h else if v0 = 59 then f_Md_isSignOf_48 X v0 h else if v0 = 61 then f_Md_isSignOf_48 X v0 h else if v0 = 60 then f_Md_isSignOf_48 X v0 h else if v0 = 43 then f_Md_isSignOf_48 X v0 h else if v0 = 45 then f_Md_isSignOf_48 X v0 h else if ¬ v0 = 42 then f_Md_isSignOf_53 X v0 0 h else f_Md_isSignOf_48 X v0 h := by
  show pS X 1 (some .boolean) k_Md_isSignOf 0 [some (.int v0)] [] h = _
  refine (ss_iload_n rfl rfl).trans ?_
  refine (ss_bipush rfl (v := 40) rfl).trans ?_
  refine (ss_icmp_eq rfl).trans ?_
  refine pv_ite ?_ ?_
  · rfl
  · refine (ss_iload_n rfl rfl).trans ?_
    refine (ss_bipush rfl (v := 41) rfl).trans ?_
    refine (ss_icmp_eq rfl).trans ?_
    refine pv_ite ?_ ?_
    · rfl
    · refine (ss_iload_n rfl rfl).trans ?_
      refine (ss_bipush rfl (v := 59) rfl).trans ?_
      refine (ss_icmp_eq rfl).trans ?_
      refine pv_ite ?_ ?_
      · rfl
      · refine (ss_iload_n rfl rfl).trans ?_
        refine (ss_bipush rfl (v := 61) rfl).trans ?_
        refine (ss_icmp_eq rfl).trans ?_
        refine pv_ite ?_ ?_
        · rfl
        · refine (ss_iload_n rfl rfl).trans ?_
          refine (ss_bipush rfl (v := 60) rfl).trans ?_
          refine (ss_icmp_eq rfl).trans ?_
          refine pv_ite ?_ ?_
          · rfl
          · refine (ss_iload_n rfl rfl).trans ?_
            refine (ss_bipush rfl (v := 43) rfl).trans ?_
            refine (ss_icmp_eq rfl).trans ?_
            refine pv_ite ?_ ?_
            · rfl
            · refine (ss_iload_n rfl rfl).trans ?_
              refine (ss_bipush rfl (v := 45) rfl).trans ?_
              refine (ss_icmp_eq rfl).trans ?_
              refine pv_ite ?_ ?_
              · rfl
              · refine (ss_iload_n rfl rfl).trans ?_
                refine (ss_bipush rfl (v := 42) rfl).trans ?_
                refine (ss_icmp_ne rfl).trans ?_
                refine pv_ite ?_ ?_
                · refine (ss_iconst rfl (v := 0) rfl).trans ?_
                  rfl
                · rfl
set_option maxRecDepth 8000 in
theorem u_Md_isSignOf_48 (X : pv_X) (v0 : Int32) (h : pv_H) : f_Md_isSignOf_48 X v0 h =
    f_Md_isSignOf_53 X v0 1 h := by
  show pS X 1 (some .boolean) k_Md_isSignOf 48 [some (.int v0)] [] h = _
  refine (ss_iconst rfl (v := 1) rfl).trans ?_
  refine (ss_goto rfl).trans ?_
  rfl
set_option maxRecDepth 8000 in
theorem u_Md_isSignOf_53 (X : pv_X) (v0 : Int32) (s0 : Int32) (h : pv_H) : f_Md_isSignOf_53 X v0 s0 h =
    if s0 = 0 ∨ s0 = 1 then some (some (.int s0), h) else none := by
  show pS X 1 (some .boolean) k_Md_isSignOf 53 [some (.int v0)] [.int s0] h = _
  exact ss_zreturn rfl
theorem e_Md_isSignOf (X : pv_X) (v0 : Int32) (h : pv_H) : pM X m_Md_isSignOf [.int v0] h = f_Md_isSignOf_0 X v0 h := rfl
noncomputable def f_Md_cutAll_0 (X : pv_X) (v0 : Nat) (h : pv_H) : Option pv_O := pS X 3 (none) k_Md_cutAll 0 [some (.ref v0), none, none, none, none, none, none] [] h
noncomputable def f_Md_cutAll_17 (X : pv_X) (v0 : Nat) (v1 : Int32) (v2 : Int32) (o3 : Option Value) (o4 : Option Value) (o5 : Option Value) (h : pv_H) : Option pv_O := pS X 3 (none) k_Md_cutAll 17 [some (.ref v0), some (.int v1), some (.int v2), o3, o4, o5, none] [] h
noncomputable def f_Md_cutAll_44 (X : pv_X) (v0 : Nat) (v1 : Int32) (v2 : Int32) (v3 : Int32) (o4 : Option Value) (o5 : Option Value) (h : pv_H) : Option pv_O := pS X 3 (none) k_Md_cutAll 44 [some (.ref v0), some (.int v1), some (.int v2), some (.int v3), o4, o5, none] [] h
noncomputable def f_Md_cutAll_70 (X : pv_X) (v0 : Nat) (v1 : Int32) (v2 : Int32) (v3 : Int32) (v4 : Int32) (v5 : Int64) (h : pv_H) : Option pv_O := pS X 3 (none) k_Md_cutAll 70 [some (.ref v0), some (.int v1), some (.int v2), some (.int v3), some (.int v4), some (.long v5), none] [] h
noncomputable def f_Md_cutAll_121 (X : pv_X) (v0 : Nat) (v1 : Int32) (v2 : Int32) (v3 : Int32) (v4 : Int32) (v5 : Int64) (s0 : Int64) (h : pv_H) : Option pv_O := pS X 3 (none) k_Md_cutAll 121 [some (.ref v0), some (.int v1), some (.int v2), some (.int v3), some (.int v4), some (.long v5), none] [.long s0] h
noncomputable def f_Md_cutAll_129 (X : pv_X) (v0 : Nat) (v1 : Int32) (v2 : Int32) (v3 : Int32) (v4 : Int32) (v5 : Int64) (h : pv_H) : Option pv_O := pS X 3 (none) k_Md_cutAll 129 [some (.ref v0), some (.int v1), some (.int v2), some (.int v3), some (.int v4), some (.long v5), none] [] h
noncomputable def f_Md_cutAll_148 (X : pv_X) (v0 : Nat) (v1 : Int32) (v2 : Int32) (v3 : Int32) (v4 : Int32) (v5 : Int64) (s0 : Int32) (s1 : Int32) (s2 : Nat) (h : pv_H) : Option pv_O := pS X 3 (none) k_Md_cutAll 148 [some (.ref v0), some (.int v1), some (.int v2), some (.int v3), some (.int v4), some (.long v5), none] [.int s0, .int s1, .ref s2] h
noncomputable def f_Md_cutAll_159 (X : pv_X) (v0 : Nat) (v1 : Int32) (v2 : Int32) (v3 : Int32) (v4 : Int32) (v5 : Int64) (h : pv_H) : Option pv_O := pS X 3 (none) k_Md_cutAll 159 [some (.ref v0), some (.int v1), some (.int v2), some (.int v3), some (.int v4), some (.long v5), none] [] h
noncomputable def f_Md_cutAll_210 (X : pv_X) (v0 : Nat) (v1 : Int32) (v2 : Int32) (v3 : Int32) (v4 : Int32) (v5 : Int64) (s0 : Int64) (h : pv_H) : Option pv_O := pS X 3 (none) k_Md_cutAll 210 [some (.ref v0), some (.int v1), some (.int v2), some (.int v3), some (.int v4), some (.long v5), none] [.long s0] h
noncomputable def f_Md_cutAll_218 (X : pv_X) (v0 : Nat) (v1 : Int32) (v2 : Int32) (v3 : Int32) (v4 : Int32) (v5 : Int64) (h : pv_H) : Option pv_O := pS X 3 (none) k_Md_cutAll 218 [some (.ref v0), some (.int v1), some (.int v2), some (.int v3), some (.int v4), some (.long v5), none] [] h
noncomputable def f_Md_cutAll_236 (X : pv_X) (v0 : Nat) (v1 : Int32) (v2 : Int32) (v3 : Int32) (v4 : Int32) (v5 : Int64) (s0 : Int32) (s1 : Int32) (s2 : Nat) (h : pv_H) : Option pv_O := pS X 3 (none) k_Md_cutAll 236 [some (.ref v0), some (.int v1), some (.int v2), some (.int v3), some (.int v4), some (.long v5), none] [.int s0, .int s1, .ref s2] h
noncomputable def f_Md_cutAll_261 (X : pv_X) (v0 : Nat) (v1 : Int32) (v2 : Int32) (v3 : Int32) (v4 : Int32) (v5 : Int64) (s0 : Int32) (s1 : Int32) (s2 : Nat) (h : pv_H) : Option pv_O := pS X 3 (none) k_Md_cutAll 261 [some (.ref v0), some (.int v1), some (.int v2), some (.int v3), some (.int v4), some (.long v5), none] [.int s0, .int s1, .ref s2] h
noncomputable def f_Md_cutAll_265 (X : pv_X) (v0 : Nat) (v1 : Int32) (v2 : Int32) (v3 : Int32) (v4 : Int32) (v5 : Int64) (h : pv_H) : Option pv_O := pS X 3 (none) k_Md_cutAll 265 [some (.ref v0), some (.int v1), some (.int v2), some (.int v3), some (.int v4), some (.long v5), none] [] h
set_option maxRecDepth 8000 in
theorem u_Md_cutAll_0 (X : pv_X) (v0 : Nat) (h : pv_H) : f_Md_cutAll_0 X v0 h =
    (pv_fI h v0 11 2).bind (fun x1 => (pv_fp h v0 11 3 (.int x1)).bind (fun h2 => (pv_fp h2 v0 11 2 (.int 0)).bind (fun h3 => f_Md_cutAll_17 X v0 0 0 none none none h3))) := by
  show pS X 3 (none) k_Md_cutAll 0 [some (.ref v0), none, none, none, none, none, none] [] h = _
  refine (ss_aload_n rfl rfl).trans ?_
  refine (ss_aload_n rfl rfl).trans ?_
  refine (ss_getI rfl).trans ?_
  refine congrArg (Option.bind _) (funext fun x1 => ?_)
  refine (ss_putI rfl).trans ?_
  refine congrArg (Option.bind _) (funext fun h2 => ?_)
  refine (ss_aload_n rfl rfl).trans ?_
  refine (ss_iconst rfl (v := 0) rfl).trans ?_
  refine (ss_putI rfl).trans ?_
  refine congrArg (Option.bind _) (funext fun h3 => ?_)
  refine (ss_iconst rfl (v := 0) rfl).trans ?_
  refine (ss_istore_n rfl rfl).trans ?_
  refine (ss_iconst rfl (v := 0) rfl).trans ?_
  refine (ss_istore_n rfl rfl).trans ?_
  rfl
set_option maxRecDepth 8000 in
theorem u_Md_cutAll_17 (X : pv_X) (v0 : Nat) (v1 : Int32) (v2 : Int32) (o3 : Option Value) (o4 : Option Value) (o5 : Option Value) (h : pv_H) : f_Md_cutAll_17 X v0 v1 v2 o3 o4 o5 h =
    (pv_fI h v0 11 3).bind (fun x1 => if x1 ≤ v2 then (pv_fR h v0 11 4).bind (fun x2 => (pv_sI h x2 v1 0).bind (fun h3 => (pv_fR h3 v0 11 5).bind (fun x4 => (pv_fI h3 v0 11 3).bind (fun x5 => (pv_sI h3 x4 v1 x5).bind (fun h6 => (pv_fp h6 v0 11 7 (.int 0)).bind (fun h7 => (pv_fp h7 v0 11 8 (.int 0)).bind (fun h8 => some (none, h8)))))))) else (pv_fR h v0 11 1).bind (fun x9 => (pv_aX X h x9 v2).bind (fun x10 => if x10 = 10 then f_Md_cutAll_44 X v0 v1 v2 x10 o4 o5 h else if ¬ x10 = 32 then (pv_fR h v0 11 5).bind (fun x11 => (pv_sI h x11 v1 v2).bind (fun h12 => (pv_tI (pM X m_Md_isLetter [.int x10] h12)).bind (fun q13 => if q13.1 = 0 then (pv_tI (pM X m_Md_isDigit [.int x10] q13.2)).bind (fun q14 => if q14.1 = 0 then (pv_fR q14.2 v0 11 4).bind (fun x15 => (pv_tI (pM X m_Md_isSignOf [.int x10] q14.2)).bind (fun q16 => if q16.1 = 0 then f_Md_cutAll_261 X v0 v1 v2 x10 v2 (x10 : Int32).toInt64 4 v1 x15 q16.2 else f_Md_cutAll_261 X v0 v1 v2 x10 v2 (x10 : Int32).toInt64 3 v1 x15 q16.2)) else f_Md_cutAll_159 X v0 v1 v2 x10 v2 0 q14.2) else f_Md_cutAll_70 X v0 v1 v2 x10 v2 0 q13.2))) else f_Md_cutAll_44 X v0 v1 v2 x10 o4 o5 h))) := by
  show pS X 3 (none) k_Md_cutAll 17 [some (.ref v0), some (.int v1), some (.int v2), o3, o4, o5, none] [] h = _
  refine (ss_iload_n rfl rfl).trans ?_
  refine (ss_aload_n rfl rfl).trans ?_
  refine (ss_getI rfl).trans ?_
  refine congrArg (Option.bind _) (funext fun x1 => ?_)
  refine (ss_icmp_ge rfl).trans ?_
  refine pv_ite ?_ ?_
  · refine (ss_aload_n rfl rfl).trans ?_
    refine (ss_getR rfl).trans ?_
    refine congrArg (Option.bind _) (funext fun x2 => ?_)
    refine (ss_iload_n rfl rfl).trans ?_
    refine (ss_iconst rfl (v := 0) rfl).trans ?_
    refine (ss_iastore rfl).trans ?_
    refine congrArg (Option.bind _) (funext fun h3 => ?_)
    refine (ss_aload_n rfl rfl).trans ?_
    refine (ss_getR rfl).trans ?_
    refine congrArg (Option.bind _) (funext fun x4 => ?_)
    refine (ss_iload_n rfl rfl).trans ?_
    refine (ss_aload_n rfl rfl).trans ?_
    refine (ss_getI rfl).trans ?_
    refine congrArg (Option.bind _) (funext fun x5 => ?_)
    refine (ss_iastore rfl).trans ?_
    refine congrArg (Option.bind _) (funext fun h6 => ?_)
    refine (ss_aload_n rfl rfl).trans ?_
    refine (ss_iconst rfl (v := 0) rfl).trans ?_
    refine (ss_putI rfl).trans ?_
    refine congrArg (Option.bind _) (funext fun h7 => ?_)
    refine (ss_aload_n rfl rfl).trans ?_
    refine (ss_iconst rfl (v := 0) rfl).trans ?_
    refine (ss_putI rfl).trans ?_
    refine congrArg (Option.bind _) (funext fun h8 => ?_)
    exact ss_return rfl
  · refine (ss_aload_n rfl rfl).trans ?_
    refine (ss_getR rfl).trans ?_
    refine congrArg (Option.bind _) (funext fun x9 => ?_)
    refine (ss_iload_n rfl rfl).trans ?_
    refine (ss_iaload rfl).trans ?_
    refine congrArg (Option.bind _) (funext fun x10 => ?_)
    refine (ss_istore_n rfl rfl).trans ?_
    refine (ss_iload_n rfl rfl).trans ?_
    refine (ss_bipush rfl (v := 10) rfl).trans ?_
    refine (ss_icmp_eq rfl).trans ?_
    refine pv_ite ?_ ?_
    · rfl
    · refine (ss_iload_n rfl rfl).trans ?_
      refine (ss_bipush rfl (v := 32) rfl).trans ?_
      refine (ss_icmp_ne rfl).trans ?_
      refine pv_ite ?_ ?_
      · refine (ss_iload_n rfl rfl).trans ?_
        refine (ss_istore rfl rfl).trans ?_
        refine (ss_lconst rfl (v := 0) rfl).trans ?_
        refine (ss_lstore rfl rfl).trans ?_
        refine (ss_aload_n rfl rfl).trans ?_
        refine (ss_getR rfl).trans ?_
        refine congrArg (Option.bind _) (funext fun x11 => ?_)
        refine (ss_iload_n rfl rfl).trans ?_
        refine (ss_iload_n rfl rfl).trans ?_
        refine (ss_iastore rfl).trans ?_
        refine congrArg (Option.bind _) (funext fun h12 => ?_)
        refine (ss_iload_n rfl rfl).trans ?_
        refine (ss_callSI (as := [.int x10]) rfl t_Md_isLetter (by decide) rfl rfl (by decide) (Or.inr rfl) ⟨Nat.le_of_ble_eq_true rfl, Nat.le_of_ble_eq_true rfl⟩).trans ?_
        refine congrArg (Option.bind _) (funext fun q13 => ?_)
        refine (ss_if_eq rfl).trans ?_
        refine pv_ite ?_ ?_
        · refine (ss_iload_n rfl rfl).trans ?_
          refine (ss_callSI (as := [.int x10]) rfl t_Md_isDigit (by decide) rfl rfl (by decide) (Or.inr rfl) ⟨Nat.le_of_ble_eq_true rfl, Nat.le_of_ble_eq_true rfl⟩).trans ?_
          refine congrArg (Option.bind _) (funext fun q14 => ?_)
          refine (ss_if_eq rfl).trans ?_
          refine pv_ite ?_ ?_
          · refine (ss_iload_n rfl rfl).trans ?_
            refine (ss_i2l rfl).trans ?_
            refine (ss_lstore rfl rfl).trans ?_
            refine (ss_aload_n rfl rfl).trans ?_
            refine (ss_getR rfl).trans ?_
            refine congrArg (Option.bind _) (funext fun x15 => ?_)
            refine (ss_iload_n rfl rfl).trans ?_
            refine (ss_iload_n rfl rfl).trans ?_
            refine (ss_callSI (as := [.int x10]) rfl t_Md_isSignOf (by decide) rfl rfl (by simp [Value.category]) (Or.inr rfl) ⟨Nat.le_of_ble_eq_true rfl, Nat.le_of_ble_eq_true rfl⟩).trans ?_
            refine congrArg (Option.bind _) (funext fun q16 => ?_)
            refine (ss_if_eq rfl).trans ?_
            refine pv_ite ?_ ?_
            · refine (ss_iconst rfl (v := 4) rfl).trans ?_
              rfl
            · refine (ss_iconst rfl (v := 3) rfl).trans ?_
              refine (ss_goto rfl).trans ?_
              rfl
          · rfl
        · rfl
      · rfl
set_option maxRecDepth 8000 in
theorem u_Md_cutAll_44 (X : pv_X) (v0 : Nat) (v1 : Int32) (v2 : Int32) (v3 : Int32) (o4 : Option Value) (o5 : Option Value) (h : pv_H) : f_Md_cutAll_44 X v0 v1 v2 v3 o4 o5 h =
    f_Md_cutAll_17 X v0 v1 (v2 + 1) (some (.int v3)) o4 o5 h := by
  show pS X 3 (none) k_Md_cutAll 44 [some (.ref v0), some (.int v1), some (.int v2), some (.int v3), o4, o5, none] [] h = _
  refine (ss_iinc3 rfl rfl (v := v2 + 1) (congrArg (HAdd.hAdd _) (show Int32.ofInt (1) = 1 by decide)) rfl).trans ?_
  refine (ss_goto rfl).trans ?_
  rfl
set_option maxRecDepth 8000 in
theorem u_Md_cutAll_70 (X : pv_X) (v0 : Nat) (v1 : Int32) (v2 : Int32) (v3 : Int32) (v4 : Int32) (v5 : Int64) (h : pv_H) : f_Md_cutAll_70 X v0 v1 v2 v3 v4 v5 h =
    (pv_fI h v0 11 3).bind (fun x1 => if x1 ≤ v2 then f_Md_cutAll_129 X v0 v1 v2 v3 v4 v5 h else (pv_fR h v0 11 1).bind (fun x2 => (pv_aX X h x2 v2).bind (fun x3 => (pv_tI (pM X m_Md_isLetter [.int x3] h)).bind (fun q4 => if q4.1 = 0 then f_Md_cutAll_129 X v0 v1 v2 v3 v4 v5 q4.2 else if 8 ≤ (v2 - v4) then f_Md_cutAll_121 X v0 v1 v2 v3 v4 v5 v5 q4.2 else (pv_fR q4.2 v0 11 1).bind (fun x5 => (pv_aX X q4.2 x5 v2).bind (fun x6 => (pv_tI (pM X m_Md_rank [.int x6] q4.2)).bind (fun q7 => f_Md_cutAll_121 X v0 v1 v2 v3 v4 v5 ((37 * v5) + (q7.1 : Int32).toInt64) q7.2))))))) := by
  show pS X 3 (none) k_Md_cutAll 70 [some (.ref v0), some (.int v1), some (.int v2), some (.int v3), some (.int v4), some (.long v5), none] [] h = _
  refine (ss_iload_n rfl rfl).trans ?_
  refine (ss_aload_n rfl rfl).trans ?_
  refine (ss_getI rfl).trans ?_
  refine congrArg (Option.bind _) (funext fun x1 => ?_)
  refine (ss_icmp_ge rfl).trans ?_
  refine pv_ite ?_ ?_
  · rfl
  · refine (ss_aload_n rfl rfl).trans ?_
    refine (ss_getR rfl).trans ?_
    refine congrArg (Option.bind _) (funext fun x2 => ?_)
    refine (ss_iload_n rfl rfl).trans ?_
    refine (ss_iaload rfl).trans ?_
    refine congrArg (Option.bind _) (funext fun x3 => ?_)
    refine (ss_callSI (as := [.int x3]) rfl t_Md_isLetter (by decide) rfl rfl (by decide) (Or.inr rfl) ⟨Nat.le_of_ble_eq_true rfl, Nat.le_of_ble_eq_true rfl⟩).trans ?_
    refine congrArg (Option.bind _) (funext fun q4 => ?_)
    refine (ss_if_eq rfl).trans ?_
    refine pv_ite ?_ ?_
    · rfl
    · refine (ss_iload_n rfl rfl).trans ?_
      refine (ss_iload rfl rfl).trans ?_
      refine (ss_isub rfl).trans ?_
      refine (ss_bipush rfl (v := 8) rfl).trans ?_
      refine (ss_icmp_ge rfl).trans ?_
      refine pv_ite ?_ ?_
      · refine (ss_lload rfl rfl).trans ?_
        rfl
      · refine (ss_ldc2_w rfl (v := 37) rfl).trans ?_
        refine (ss_lload rfl rfl).trans ?_
        refine (ss_lmul rfl).trans ?_
        refine (ss_aload_n rfl rfl).trans ?_
        refine (ss_getR rfl).trans ?_
        refine congrArg (Option.bind _) (funext fun x5 => ?_)
        refine (ss_iload_n rfl rfl).trans ?_
        refine (ss_iaload rfl).trans ?_
        refine congrArg (Option.bind _) (funext fun x6 => ?_)
        refine (ss_callSI (as := [.int x6]) rfl t_Md_rank (by decide) rfl rfl (by simp [Value.category]) (Or.inl rfl) ⟨Nat.le_of_ble_eq_true rfl, Nat.le_of_ble_eq_true rfl⟩).trans ?_
        refine congrArg (Option.bind _) (funext fun q7 => ?_)
        refine (ss_i2l rfl).trans ?_
        refine (ss_ladd rfl).trans ?_
        refine (ss_goto rfl).trans ?_
        rfl
set_option maxRecDepth 8000 in
theorem u_Md_cutAll_121 (X : pv_X) (v0 : Nat) (v1 : Int32) (v2 : Int32) (v3 : Int32) (v4 : Int32) (v5 : Int64) (s0 : Int64) (h : pv_H) : f_Md_cutAll_121 X v0 v1 v2 v3 v4 v5 s0 h =
    f_Md_cutAll_70 X v0 v1 (v2 + 1) v3 v4 s0 h := by
  show pS X 3 (none) k_Md_cutAll 121 [some (.ref v0), some (.int v1), some (.int v2), some (.int v3), some (.int v4), some (.long v5), none] [.long s0] h = _
  refine (ss_lstore rfl rfl).trans ?_
  refine (ss_iinc3 rfl rfl (v := v2 + 1) (congrArg (HAdd.hAdd _) (show Int32.ofInt (1) = 1 by decide)) rfl).trans ?_
  refine (ss_goto rfl).trans ?_
  rfl
set_option maxRecDepth 8000 in
theorem u_Md_cutAll_129 (X : pv_X) (v0 : Nat) (v1 : Int32) (v2 : Int32) (v3 : Int32) (v4 : Int32) (v5 : Int64) (h : pv_H) : f_Md_cutAll_129 X v0 v1 v2 v3 v4 v5 h =
    (pv_fR h v0 11 4).bind (fun x1 => if (v2 - v4) ≤ 8 then f_Md_cutAll_148 X v0 v1 v2 v3 v4 v5 1 v1 x1 h else f_Md_cutAll_148 X v0 v1 v2 v3 v4 v5 4 v1 x1 h) := by
  show pS X 3 (none) k_Md_cutAll 129 [some (.ref v0), some (.int v1), some (.int v2), some (.int v3), some (.int v4), some (.long v5), none] [] h = _
  refine (ss_aload_n rfl rfl).trans ?_
  refine (ss_getR rfl).trans ?_
  refine congrArg (Option.bind _) (funext fun x1 => ?_)
  refine (ss_iload_n rfl rfl).trans ?_
  refine (ss_iload_n rfl rfl).trans ?_
  refine (ss_iload rfl rfl).trans ?_
  refine (ss_isub rfl).trans ?_
  refine (ss_bipush rfl (v := 8) rfl).trans ?_
  refine (ss_icmp_le rfl).trans ?_
  refine pv_ite ?_ ?_
  · refine (ss_iconst rfl (v := 1) rfl).trans ?_
    rfl
  · refine (ss_iconst rfl (v := 4) rfl).trans ?_
    refine (ss_goto rfl).trans ?_
    rfl
set_option maxRecDepth 8000 in
theorem u_Md_cutAll_148 (X : pv_X) (v0 : Nat) (v1 : Int32) (v2 : Int32) (v3 : Int32) (v4 : Int32) (v5 : Int64) (s0 : Int32) (s1 : Int32) (s2 : Nat) (h : pv_H) : f_Md_cutAll_148 X v0 v1 v2 v3 v4 v5 s0 s1 s2 h =
    (pv_sI h s2 s1 s0).bind (fun h1 => f_Md_cutAll_265 X v0 v1 v2 v3 v4 v5 h1) := by
  show pS X 3 (none) k_Md_cutAll 148 [some (.ref v0), some (.int v1), some (.int v2), some (.int v3), some (.int v4), some (.long v5), none] [.int s0, .int s1, .ref s2] h = _
  refine (ss_iastore rfl).trans ?_
  refine congrArg (Option.bind _) (funext fun h1 => ?_)
  refine (ss_goto rfl).trans ?_
  rfl
set_option maxRecDepth 8000 in
theorem u_Md_cutAll_159 (X : pv_X) (v0 : Nat) (v1 : Int32) (v2 : Int32) (v3 : Int32) (v4 : Int32) (v5 : Int64) (h : pv_H) : f_Md_cutAll_159 X v0 v1 v2 v3 v4 v5 h =
    (pv_fI h v0 11 3).bind (fun x1 => if x1 ≤ v2 then f_Md_cutAll_218 X v0 v1 v2 v3 v4 v5 h else (pv_fR h v0 11 1).bind (fun x2 => (pv_aX X h x2 v2).bind (fun x3 => (pv_tI (pM X m_Md_isDigit [.int x3] h)).bind (fun q4 => if q4.1 = 0 then f_Md_cutAll_218 X v0 v1 v2 v3 v4 v5 q4.2 else if 4 ≤ (v2 - v4) then f_Md_cutAll_210 X v0 v1 v2 v3 v4 v5 v5 q4.2 else (pv_fR q4.2 v0 11 1).bind (fun x5 => (pv_aX X q4.2 x5 v2).bind (fun x6 => f_Md_cutAll_210 X v0 v1 v2 v3 v4 v5 (((10 * v5) + (x6 : Int32).toInt64) - 48) q4.2)))))) := by
  show pS X 3 (none) k_Md_cutAll 159 [some (.ref v0), some (.int v1), some (.int v2), some (.int v3), some (.int v4), some (.long v5), none] [] h = _
  refine (ss_iload_n rfl rfl).trans ?_
  refine (ss_aload_n rfl rfl).trans ?_
  refine (ss_getI rfl).trans ?_
  refine congrArg (Option.bind _) (funext fun x1 => ?_)
  refine (ss_icmp_ge rfl).trans ?_
  refine pv_ite ?_ ?_
  · rfl
  · refine (ss_aload_n rfl rfl).trans ?_
    refine (ss_getR rfl).trans ?_
    refine congrArg (Option.bind _) (funext fun x2 => ?_)
    refine (ss_iload_n rfl rfl).trans ?_
    refine (ss_iaload rfl).trans ?_
    refine congrArg (Option.bind _) (funext fun x3 => ?_)
    refine (ss_callSI (as := [.int x3]) rfl t_Md_isDigit (by decide) rfl rfl (by decide) (Or.inr rfl) ⟨Nat.le_of_ble_eq_true rfl, Nat.le_of_ble_eq_true rfl⟩).trans ?_
    refine congrArg (Option.bind _) (funext fun q4 => ?_)
    refine (ss_if_eq rfl).trans ?_
    refine pv_ite ?_ ?_
    · rfl
    · refine (ss_iload_n rfl rfl).trans ?_
      refine (ss_iload rfl rfl).trans ?_
      refine (ss_isub rfl).trans ?_
      refine (ss_iconst rfl (v := 4) rfl).trans ?_
      refine (ss_icmp_ge rfl).trans ?_
      refine pv_ite ?_ ?_
      · refine (ss_lload rfl rfl).trans ?_
        rfl
      · refine (ss_ldc2_w rfl (v := 10) rfl).trans ?_
        refine (ss_lload rfl rfl).trans ?_
        refine (ss_lmul rfl).trans ?_
        refine (ss_aload_n rfl rfl).trans ?_
        refine (ss_getR rfl).trans ?_
        refine congrArg (Option.bind _) (funext fun x5 => ?_)
        refine (ss_iload_n rfl rfl).trans ?_
        refine (ss_iaload rfl).trans ?_
        refine congrArg (Option.bind _) (funext fun x6 => ?_)
        refine (ss_i2l rfl).trans ?_
        refine (ss_ladd rfl).trans ?_
        refine (ss_ldc2_w rfl (v := 48) rfl).trans ?_
        refine (ss_lsub rfl).trans ?_
        refine (ss_goto rfl).trans ?_
        rfl
set_option maxRecDepth 8000 in
theorem u_Md_cutAll_210 (X : pv_X) (v0 : Nat) (v1 : Int32) (v2 : Int32) (v3 : Int32) (v4 : Int32) (v5 : Int64) (s0 : Int64) (h : pv_H) : f_Md_cutAll_210 X v0 v1 v2 v3 v4 v5 s0 h =
    f_Md_cutAll_159 X v0 v1 (v2 + 1) v3 v4 s0 h := by
  show pS X 3 (none) k_Md_cutAll 210 [some (.ref v0), some (.int v1), some (.int v2), some (.int v3), some (.int v4), some (.long v5), none] [.long s0] h = _
  refine (ss_lstore rfl rfl).trans ?_
  refine (ss_iinc3 rfl rfl (v := v2 + 1) (congrArg (HAdd.hAdd _) (show Int32.ofInt (1) = 1 by decide)) rfl).trans ?_
  refine (ss_goto rfl).trans ?_
  rfl
set_option maxRecDepth 8000 in
theorem u_Md_cutAll_218 (X : pv_X) (v0 : Nat) (v1 : Int32) (v2 : Int32) (v3 : Int32) (v4 : Int32) (v5 : Int64) (h : pv_H) : f_Md_cutAll_218 X v0 v1 v2 v3 v4 v5 h =
    (pv_fR h v0 11 4).bind (fun x1 => if (v2 - v4) ≤ 4 then f_Md_cutAll_236 X v0 v1 v2 v3 v4 v5 2 v1 x1 h else f_Md_cutAll_236 X v0 v1 v2 v3 v4 v5 4 v1 x1 h) := by
  show pS X 3 (none) k_Md_cutAll 218 [some (.ref v0), some (.int v1), some (.int v2), some (.int v3), some (.int v4), some (.long v5), none] [] h = _
  refine (ss_aload_n rfl rfl).trans ?_
  refine (ss_getR rfl).trans ?_
  refine congrArg (Option.bind _) (funext fun x1 => ?_)
  refine (ss_iload_n rfl rfl).trans ?_
  refine (ss_iload_n rfl rfl).trans ?_
  refine (ss_iload rfl rfl).trans ?_
  refine (ss_isub rfl).trans ?_
  refine (ss_iconst rfl (v := 4) rfl).trans ?_
  refine (ss_icmp_le rfl).trans ?_
  refine pv_ite ?_ ?_
  · refine (ss_iconst rfl (v := 2) rfl).trans ?_
    rfl
  · refine (ss_iconst rfl (v := 4) rfl).trans ?_
    refine (ss_goto rfl).trans ?_
    rfl
set_option maxRecDepth 8000 in
theorem u_Md_cutAll_236 (X : pv_X) (v0 : Nat) (v1 : Int32) (v2 : Int32) (v3 : Int32) (v4 : Int32) (v5 : Int64) (s0 : Int32) (s1 : Int32) (s2 : Nat) (h : pv_H) : f_Md_cutAll_236 X v0 v1 v2 v3 v4 v5 s0 s1 s2 h =
    (pv_sI h s2 s1 s0).bind (fun h1 => f_Md_cutAll_265 X v0 v1 v2 v3 v4 v5 h1) := by
  show pS X 3 (none) k_Md_cutAll 236 [some (.ref v0), some (.int v1), some (.int v2), some (.int v3), some (.int v4), some (.long v5), none] [.int s0, .int s1, .ref s2] h = _
  refine (ss_iastore rfl).trans ?_
  refine congrArg (Option.bind _) (funext fun h1 => ?_)
  refine (ss_goto rfl).trans ?_
  rfl
set_option maxRecDepth 8000 in
theorem u_Md_cutAll_261 (X : pv_X) (v0 : Nat) (v1 : Int32) (v2 : Int32) (v3 : Int32) (v4 : Int32) (v5 : Int64) (s0 : Int32) (s1 : Int32) (s2 : Nat) (h : pv_H) : f_Md_cutAll_261 X v0 v1 v2 v3 v4 v5 s0 s1 s2 h =
    (pv_sI h s2 s1 s0).bind (fun h1 => f_Md_cutAll_265 X v0 v1 (v2 + 1) v3 v4 v5 h1) := by
  show pS X 3 (none) k_Md_cutAll 261 [some (.ref v0), some (.int v1), some (.int v2), some (.int v3), some (.int v4), some (.long v5), none] [.int s0, .int s1, .ref s2] h = _
  refine (ss_iastore rfl).trans ?_
  refine congrArg (Option.bind _) (funext fun h1 => ?_)
  refine (ss_iinc3 rfl rfl (v := v2 + 1) (congrArg (HAdd.hAdd _) (show Int32.ofInt (1) = 1 by decide)) rfl).trans ?_
  rfl
set_option maxRecDepth 8000 in
theorem u_Md_cutAll_265 (X : pv_X) (v0 : Nat) (v1 : Int32) (v2 : Int32) (v3 : Int32) (v4 : Int32) (v5 : Int64) (h : pv_H) : f_Md_cutAll_265 X v0 v1 v2 v3 v4 v5 h =
    (pv_fR h v0 11 6).bind (fun x1 => (pv_sJ h x1 v1 v5).bind (fun h2 => f_Md_cutAll_17 X v0 (v1 + 1) v2 (some (.int v3)) (some (.int v4)) (some (.long v5)) h2)) := by
  show pS X 3 (none) k_Md_cutAll 265 [some (.ref v0), some (.int v1), some (.int v2), some (.int v3), some (.int v4), some (.long v5), none] [] h = _
  refine (ss_aload_n rfl rfl).trans ?_
  refine (ss_getR rfl).trans ?_
  refine congrArg (Option.bind _) (funext fun x1 => ?_)
  refine (ss_iload_n rfl rfl).trans ?_
  refine (ss_lload rfl rfl).trans ?_
  refine (ss_lastore rfl).trans ?_
  refine congrArg (Option.bind _) (funext fun h2 => ?_)
  refine (ss_iinc3 rfl rfl (v := v1 + 1) (congrArg (HAdd.hAdd _) (show Int32.ofInt (1) = 1 by decide)) rfl).trans ?_
  refine (ss_goto rfl).trans ?_
  rfl
theorem e_Md_cutAll (X : pv_X) (v0 : Nat) (h : pv_H) : pM X m_Md_cutAll [.ref v0] h = f_Md_cutAll_0 X v0 h := rfl
noncomputable def f_Md_wrong_0 (X : pv_X) (v0 : Nat) (v1 : Int32) (h : pv_H) : Option pv_O := pS X 1 (none) k_Md_wrong 0 [some (.ref v0), some (.int v1)] [] h
noncomputable def f_Md_wrong_25 (X : pv_X) (v0 : Nat) (v1 : Int32) (h : pv_H) : Option pv_O := pS X 1 (none) k_Md_wrong 25 [some (.ref v0), some (.int v1)] [] h
set_option maxRecDepth 8000 in
theorem u_Md_wrong_0 (X : pv_X) (v0 : Nat) (v1 : Int32) (h : pv_H) : f_Md_wrong_0 X v0 v1 h =
    (pv_fI h v0 11 8).bind (fun x1 => if ¬ x1 = 0 then f_Md_wrong_25 X v0 v1 h else (pv_fR h v0 11 5).bind (fun x2 => (pv_fI h v0 11 7).bind (fun x3 => (pv_aX X h x2 x3).bind (fun x4 => (pv_fp h v0 11 8 (.int (v1 + (16 * x4)))).bind (fun h5 => f_Md_wrong_25 X v0 v1 h5))))) := by
  show pS X 1 (none) k_Md_wrong 0 [some (.ref v0), some (.int v1)] [] h = _
  refine (ss_aload_n rfl rfl).trans ?_
  refine (ss_getI rfl).trans ?_
  refine congrArg (Option.bind _) (funext fun x1 => ?_)
  refine (ss_if_ne rfl).trans ?_
  refine pv_ite ?_ ?_
  · rfl
  · refine (ss_aload_n rfl rfl).trans ?_
    refine (ss_iload_n rfl rfl).trans ?_
    refine (ss_bipush rfl (v := 16) rfl).trans ?_
    refine (ss_aload_n rfl rfl).trans ?_
    refine (ss_getR rfl).trans ?_
    refine congrArg (Option.bind _) (funext fun x2 => ?_)
    refine (ss_aload_n rfl rfl).trans ?_
    refine (ss_getI rfl).trans ?_
    refine congrArg (Option.bind _) (funext fun x3 => ?_)
    refine (ss_iaload rfl).trans ?_
    refine congrArg (Option.bind _) (funext fun x4 => ?_)
    refine (ss_imul rfl).trans ?_
    refine (ss_iadd rfl).trans ?_
    refine (ss_putI rfl).trans ?_
    refine congrArg (Option.bind _) (funext fun h5 => ?_)
    rfl
set_option maxRecDepth 8000 in
theorem u_Md_wrong_25 (X : pv_X) (v0 : Nat) (v1 : Int32) (h : pv_H) : f_Md_wrong_25 X v0 v1 h =
    some (none, h) := by
  show pS X 1 (none) k_Md_wrong 25 [some (.ref v0), some (.int v1)] [] h = _
  exact ss_return rfl
theorem e_Md_wrong (X : pv_X) (v0 : Nat) (v1 : Int32) (h : pv_H) : pM X m_Md_wrong [.ref v0, .int v1] h = f_Md_wrong_0 X v0 v1 h := rfl
noncomputable def f_Md_isSign_0 (X : pv_X) (v0 : Nat) (v1 : Int32) (h : pv_H) : Option pv_O := pS X 1 (some .boolean) k_Md_isSign 0 [some (.ref v0), some (.int v1)] [] h
noncomputable def f_Md_isSign_39 (X : pv_X) (v0 : Nat) (v1 : Int32) (h : pv_H) : Option pv_O := pS X 1 (some .boolean) k_Md_isSign 39 [some (.ref v0), some (.int v1)] [] h
noncomputable def f_Md_isSign_40 (X : pv_X) (v0 : Nat) (v1 : Int32) (s0 : Int32) (h : pv_H) : Option pv_O := pS X 1 (some .boolean) k_Md_isSign 40 [some (.ref v0), some (.int v1)] [.int s0] h
set_option maxRecDepth 8000 in
theorem u_Md_isSign_0 (X : pv_X) (v0 : Nat) (v1 : Int32) (h : pv_H) : f_Md_isSign_0 X v0 v1 h =
    (pv_fI h v0 11 8).bind (fun x1 => if ¬ x1 = 0 then f_Md_isSign_39 X v0 v1 h else (pv_fR h v0 11 4).bind (fun x2 => (pv_fI h v0 11 7).bind (fun x3 => (pv_aX X h x2 x3).bind (fun x4 => if ¬ x4 = 3 then f_Md_isSign_39 X v0 v1 h else (pv_fR h v0 11 6).bind (fun x5 => (pv_fI h v0 11 7).bind (fun x6 => (pv_aJ h x5 x6).bind (fun x7 => if ¬ (lg_cmp x7 (v1 : Int32).toInt64) = 0 then f_Md_isSign_39 X v0 v1 h else f_Md_isSign_40 X v0 v1 1 h))))))) := by
  show pS X 1 (some .boolean) k_Md_isSign 0 [some (.ref v0), some (.int v1)] [] h = _
  refine (ss_aload_n rfl rfl).trans ?_
  refine (ss_getI rfl).trans ?_
  refine congrArg (Option.bind _) (funext fun x1 => ?_)
  refine (ss_if_ne rfl).trans ?_
  refine pv_ite ?_ ?_
  · rfl
  · refine (ss_aload_n rfl rfl).trans ?_
    refine (ss_getR rfl).trans ?_
    refine congrArg (Option.bind _) (funext fun x2 => ?_)
    refine (ss_aload_n rfl rfl).trans ?_
    refine (ss_getI rfl).trans ?_
    refine congrArg (Option.bind _) (funext fun x3 => ?_)
    refine (ss_iaload rfl).trans ?_
    refine congrArg (Option.bind _) (funext fun x4 => ?_)
    refine (ss_iconst rfl (v := 3) rfl).trans ?_
    refine (ss_icmp_ne rfl).trans ?_
    refine pv_ite ?_ ?_
    · rfl
    · refine (ss_aload_n rfl rfl).trans ?_
      refine (ss_getR rfl).trans ?_
      refine congrArg (Option.bind _) (funext fun x5 => ?_)
      refine (ss_aload_n rfl rfl).trans ?_
      refine (ss_getI rfl).trans ?_
      refine congrArg (Option.bind _) (funext fun x6 => ?_)
      refine (ss_laload rfl).trans ?_
      refine congrArg (Option.bind _) (funext fun x7 => ?_)
      refine (ss_iload_n rfl rfl).trans ?_
      refine (ss_i2l rfl).trans ?_
      refine (ss_lcmp rfl).trans ?_
      refine (ss_if_ne rfl).trans ?_
      refine pv_ite ?_ ?_
      · rfl
      · refine (ss_iconst rfl (v := 1) rfl).trans ?_
        refine (ss_goto rfl).trans ?_
        rfl
set_option maxRecDepth 8000 in
theorem u_Md_isSign_39 (X : pv_X) (v0 : Nat) (v1 : Int32) (h : pv_H) : f_Md_isSign_39 X v0 v1 h =
    f_Md_isSign_40 X v0 v1 0 h := by
  show pS X 1 (some .boolean) k_Md_isSign 39 [some (.ref v0), some (.int v1)] [] h = _
  refine (ss_iconst rfl (v := 0) rfl).trans ?_
  rfl
set_option maxRecDepth 8000 in
theorem u_Md_isSign_40 (X : pv_X) (v0 : Nat) (v1 : Int32) (s0 : Int32) (h : pv_H) : f_Md_isSign_40 X v0 v1 s0 h =
    if s0 = 0 ∨ s0 = 1 then some (some (.int s0), h) else none := by
  show pS X 1 (some .boolean) k_Md_isSign 40 [some (.ref v0), some (.int v1)] [.int s0] h = _
  exact ss_zreturn rfl
theorem e_Md_isSign (X : pv_X) (v0 : Nat) (v1 : Int32) (h : pv_H) : pM X m_Md_isSign [.ref v0, .int v1] h = f_Md_isSign_0 X v0 v1 h := rfl
noncomputable def f_Md_isWord_0 (X : pv_X) (v0 : Nat) (v1 : Int32) (h : pv_H) : Option pv_O := pS X 1 (some .boolean) k_Md_isWord 0 [some (.ref v0), some (.int v1)] [] h
noncomputable def f_Md_isWord_43 (X : pv_X) (v0 : Nat) (v1 : Int32) (h : pv_H) : Option pv_O := pS X 1 (some .boolean) k_Md_isWord 43 [some (.ref v0), some (.int v1)] [] h
noncomputable def f_Md_isWord_44 (X : pv_X) (v0 : Nat) (v1 : Int32) (s0 : Int32) (h : pv_H) : Option pv_O := pS X 1 (some .boolean) k_Md_isWord 44 [some (.ref v0), some (.int v1)] [.int s0] h
set_option maxRecDepth 8000 in
theorem u_Md_isWord_0 (X : pv_X) (v0 : Nat) (v1 : Int32) (h : pv_H) : f_Md_isWord_0 X v0 v1 h =
    (pv_fI h v0 11 8).bind (fun x1 => if ¬ x1 = 0 then f_Md_isWord_43 X v0 v1 h else (pv_fR h v0 11 4).bind (fun x2 => (pv_fI h v0 11 7).bind (fun x3 => (pv_aX X h x2 x3).bind (fun x4 => if ¬ x4 = 1 then f_Md_isWord_43 X v0 v1 h else (pv_fR h v0 11 6).bind (fun x5 => (pv_fI h v0 11 7).bind (fun x6 => (pv_aJ h x5 x6).bind (fun x7 => (pv_fR h v0 11 9).bind (fun x8 => (pv_aJ h x8 v1).bind (fun x9 => if ¬ (lg_cmp x7 x9) = 0 then f_Md_isWord_43 X v0 v1 h else f_Md_isWord_44 X v0 v1 1 h))))))))) := by
  show pS X 1 (some .boolean) k_Md_isWord 0 [some (.ref v0), some (.int v1)] [] h = _
  refine (ss_aload_n rfl rfl).trans ?_
  refine (ss_getI rfl).trans ?_
  refine congrArg (Option.bind _) (funext fun x1 => ?_)
  refine (ss_if_ne rfl).trans ?_
  refine pv_ite ?_ ?_
  · rfl
  · refine (ss_aload_n rfl rfl).trans ?_
    refine (ss_getR rfl).trans ?_
    refine congrArg (Option.bind _) (funext fun x2 => ?_)
    refine (ss_aload_n rfl rfl).trans ?_
    refine (ss_getI rfl).trans ?_
    refine congrArg (Option.bind _) (funext fun x3 => ?_)
    refine (ss_iaload rfl).trans ?_
    refine congrArg (Option.bind _) (funext fun x4 => ?_)
    refine (ss_iconst rfl (v := 1) rfl).trans ?_
    refine (ss_icmp_ne rfl).trans ?_
    refine pv_ite ?_ ?_
    · rfl
    · refine (ss_aload_n rfl rfl).trans ?_
      refine (ss_getR rfl).trans ?_
      refine congrArg (Option.bind _) (funext fun x5 => ?_)
      refine (ss_aload_n rfl rfl).trans ?_
      refine (ss_getI rfl).trans ?_
      refine congrArg (Option.bind _) (funext fun x6 => ?_)
      refine (ss_laload rfl).trans ?_
      refine congrArg (Option.bind _) (funext fun x7 => ?_)
      refine (ss_aload_n rfl rfl).trans ?_
      refine (ss_getR rfl).trans ?_
      refine congrArg (Option.bind _) (funext fun x8 => ?_)
      refine (ss_iload_n rfl rfl).trans ?_
      refine (ss_laload rfl).trans ?_
      refine congrArg (Option.bind _) (funext fun x9 => ?_)
      refine (ss_lcmp rfl).trans ?_
      refine (ss_if_ne rfl).trans ?_
      refine pv_ite ?_ ?_
      · rfl
      · refine (ss_iconst rfl (v := 1) rfl).trans ?_
        refine (ss_goto rfl).trans ?_
        rfl
set_option maxRecDepth 8000 in
theorem u_Md_isWord_43 (X : pv_X) (v0 : Nat) (v1 : Int32) (h : pv_H) : f_Md_isWord_43 X v0 v1 h =
    f_Md_isWord_44 X v0 v1 0 h := by
  show pS X 1 (some .boolean) k_Md_isWord 43 [some (.ref v0), some (.int v1)] [] h = _
  refine (ss_iconst rfl (v := 0) rfl).trans ?_
  rfl
set_option maxRecDepth 8000 in
theorem u_Md_isWord_44 (X : pv_X) (v0 : Nat) (v1 : Int32) (s0 : Int32) (h : pv_H) : f_Md_isWord_44 X v0 v1 s0 h =
    if s0 = 0 ∨ s0 = 1 then some (some (.int s0), h) else none := by
  show pS X 1 (some .boolean) k_Md_isWord 44 [some (.ref v0), some (.int v1)] [.int s0] h = _
  exact ss_zreturn rfl
theorem e_Md_isWord (X : pv_X) (v0 : Nat) (v1 : Int32) (h : pv_H) : pM X m_Md_isWord [.ref v0, .int v1] h = f_Md_isWord_0 X v0 v1 h := rfl
noncomputable def f_Md_takeSign_0 (X : pv_X) (v0 : Nat) (v1 : Int32) (h : pv_H) : Option pv_O := pS X 2 (none) k_Md_takeSign 0 [some (.ref v0), some (.int v1)] [] h
noncomputable def f_Md_takeSign_26 (X : pv_X) (v0 : Nat) (v1 : Int32) (h : pv_H) : Option pv_O := pS X 2 (none) k_Md_takeSign 26 [some (.ref v0), some (.int v1)] [] h
set_option maxRecDepth 8000 in
theorem u_Md_takeSign_0 (X : pv_X) (v0 : Nat) (v1 : Int32) (h : pv_H) : f_Md_takeSign_0 X v0 v1 h =
    if pv_rc h v0 11 = true then (pv_tI (pM X m_Md_isSign [.ref v0, .int v1] h)).bind (fun q1 => if q1.1 = 0 then if pv_rc q1.2 v0 11 = true then (pv_tV (pM X m_Md_wrong [.ref v0, .int 1] q1.2)).bind (fun h2 => f_Md_takeSign_26 X v0 v1 h2) else none else (pv_fI q1.2 v0 11 7).bind (fun x3 => (pv_fp q1.2 v0 11 7 (.int (x3 + 1))).bind (fun h4 => f_Md_takeSign_26 X v0 v1 h4))) else none := by
  show pS X 2 (none) k_Md_takeSign 0 [some (.ref v0), some (.int v1)] [] h = _
  refine (ss_aload_n rfl rfl).trans ?_
  refine (ss_iload_n rfl rfl).trans ?_
  refine (ss_callVI (as := [.int v1]) rfl t_Md_isSign (by decide) rfl rfl (by decide) (Or.inr rfl) ⟨Nat.le_of_ble_eq_true rfl, Nat.le_of_ble_eq_true rfl⟩).trans ?_
  refine pv_ite ?_ rfl
  refine congrArg (Option.bind _) (funext fun q1 => ?_)
  refine (ss_if_eq rfl).trans ?_
  refine pv_ite ?_ ?_
  · refine (ss_aload_n rfl rfl).trans ?_
    refine (ss_iconst rfl (v := 1) rfl).trans ?_
    refine (ss_callVN (as := [.int 1]) rfl t_Md_wrong (by decide) rfl rfl (by decide) rfl ⟨Nat.le_of_ble_eq_true rfl, Nat.le_of_ble_eq_true rfl⟩).trans ?_
    refine pv_ite ?_ rfl
    refine congrArg (Option.bind _) (funext fun h2 => ?_)
    rfl
  · refine (ss_aload_n rfl rfl).trans ?_
    refine (ss_dupR rfl).trans ?_
    refine (ss_getI rfl).trans ?_
    refine congrArg (Option.bind _) (funext fun x3 => ?_)
    refine (ss_iconst rfl (v := 1) rfl).trans ?_
    refine (ss_iadd rfl).trans ?_
    refine (ss_putI rfl).trans ?_
    refine congrArg (Option.bind _) (funext fun h4 => ?_)
    refine (ss_goto rfl).trans ?_
    rfl
set_option maxRecDepth 8000 in
theorem u_Md_takeSign_26 (X : pv_X) (v0 : Nat) (v1 : Int32) (h : pv_H) : f_Md_takeSign_26 X v0 v1 h =
    some (none, h) := by
  show pS X 2 (none) k_Md_takeSign 26 [some (.ref v0), some (.int v1)] [] h = _
  exact ss_return rfl
theorem e_Md_takeSign (X : pv_X) (v0 : Nat) (v1 : Int32) (h : pv_H) : pM X m_Md_takeSign [.ref v0, .int v1] h = f_Md_takeSign_0 X v0 v1 h := rfl
noncomputable def f_Md_hasSign_0 (X : pv_X) (v0 : Nat) (v1 : Int32) (h : pv_H) : Option pv_O := pS X 2 (some .boolean) k_Md_hasSign 0 [some (.ref v0), some (.int v1), none] [] h
noncomputable def f_Md_hasSign_20 (X : pv_X) (v0 : Nat) (v1 : Int32) (v2 : Int32) (s0 : Int32) (s1 : Int32) (s2 : Nat) (h : pv_H) : Option pv_O := pS X 2 (some .boolean) k_Md_hasSign 20 [some (.ref v0), some (.int v1), some (.int v2)] [.int s0, .int s1, .ref s2] h
set_option maxRecDepth 8000 in
theorem u_Md_hasSign_0 (X : pv_X) (v0 : Nat) (v1 : Int32) (h : pv_H) : f_Md_hasSign_0 X v0 v1 h =
    if pv_rc h v0 11 = true then (pv_tI (pM X m_Md_isSign [.ref v0, .int v1] h)).bind (fun q1 => (pv_fI q1.2 v0 11 7).bind (fun x2 => if q1.1 = 0 then f_Md_hasSign_20 X v0 v1 q1.1 0 x2 v0 q1.2 else f_Md_hasSign_20 X v0 v1 q1.1 1 x2 v0 q1.2)) else none := by
  show pS X 2 (some .boolean) k_Md_hasSign 0 [some (.ref v0), some (.int v1), none] [] h = _
  refine (ss_aload_n rfl rfl).trans ?_
  refine (ss_iload_n rfl rfl).trans ?_
  refine (ss_callVI (as := [.int v1]) rfl t_Md_isSign (by decide) rfl rfl (by decide) (Or.inr rfl) ⟨Nat.le_of_ble_eq_true rfl, Nat.le_of_ble_eq_true rfl⟩).trans ?_
  refine pv_ite ?_ rfl
  refine congrArg (Option.bind _) (funext fun q1 => ?_)
  refine (ss_istore_n rfl rfl).trans ?_
  refine (ss_aload_n rfl rfl).trans ?_
  refine (ss_dupR rfl).trans ?_
  refine (ss_getI rfl).trans ?_
  refine congrArg (Option.bind _) (funext fun x2 => ?_)
  refine (ss_iload_n rfl rfl).trans ?_
  refine (ss_if_eq rfl).trans ?_
  refine pv_ite ?_ ?_
  · refine (ss_iconst rfl (v := 0) rfl).trans ?_
    rfl
  · refine (ss_iconst rfl (v := 1) rfl).trans ?_
    refine (ss_goto rfl).trans ?_
    rfl
set_option maxRecDepth 8000 in
theorem u_Md_hasSign_20 (X : pv_X) (v0 : Nat) (v1 : Int32) (v2 : Int32) (s0 : Int32) (s1 : Int32) (s2 : Nat) (h : pv_H) : f_Md_hasSign_20 X v0 v1 v2 s0 s1 s2 h =
    (pv_fp h s2 11 7 (.int (s1 + s0))).bind (fun h1 => if v2 = 0 ∨ v2 = 1 then some (some (.int v2), h1) else none) := by
  show pS X 2 (some .boolean) k_Md_hasSign 20 [some (.ref v0), some (.int v1), some (.int v2)] [.int s0, .int s1, .ref s2] h = _
  refine (ss_iadd rfl).trans ?_
  refine (ss_putI rfl).trans ?_
  refine congrArg (Option.bind _) (funext fun h1 => ?_)
  refine (ss_iload_n rfl rfl).trans ?_
  exact ss_zreturn rfl
theorem e_Md_hasSign (X : pv_X) (v0 : Nat) (v1 : Int32) (h : pv_H) : pM X m_Md_hasSign [.ref v0, .int v1] h = f_Md_hasSign_0 X v0 v1 h := rfl
noncomputable def f_Md_hasWord_0 (X : pv_X) (v0 : Nat) (v1 : Int32) (h : pv_H) : Option pv_O := pS X 2 (some .boolean) k_Md_hasWord 0 [some (.ref v0), some (.int v1), none] [] h
noncomputable def f_Md_hasWord_20 (X : pv_X) (v0 : Nat) (v1 : Int32) (v2 : Int32) (s0 : Int32) (s1 : Int32) (s2 : Nat) (h : pv_H) : Option pv_O := pS X 2 (some .boolean) k_Md_hasWord 20 [some (.ref v0), some (.int v1), some (.int v2)] [.int s0, .int s1, .ref s2] h
set_option maxRecDepth 8000 in
theorem u_Md_hasWord_0 (X : pv_X) (v0 : Nat) (v1 : Int32) (h : pv_H) : f_Md_hasWord_0 X v0 v1 h =
    if pv_rc h v0 11 = true then (pv_tI (pM X m_Md_isWord [.ref v0, .int v1] h)).bind (fun q1 => (pv_fI q1.2 v0 11 7).bind (fun x2 => if q1.1 = 0 then f_Md_hasWord_20 X v0 v1 q1.1 0 x2 v0 q1.2 else f_Md_hasWord_20 X v0 v1 q1.1 1 x2 v0 q1.2)) else none := by
  show pS X 2 (some .boolean) k_Md_hasWord 0 [some (.ref v0), some (.int v1), none] [] h = _
  refine (ss_aload_n rfl rfl).trans ?_
  refine (ss_iload_n rfl rfl).trans ?_
  refine (ss_callVI (as := [.int v1]) rfl t_Md_isWord (by decide) rfl rfl (by decide) (Or.inr rfl) ⟨Nat.le_of_ble_eq_true rfl, Nat.le_of_ble_eq_true rfl⟩).trans ?_
  refine pv_ite ?_ rfl
  refine congrArg (Option.bind _) (funext fun q1 => ?_)
  refine (ss_istore_n rfl rfl).trans ?_
  refine (ss_aload_n rfl rfl).trans ?_
  refine (ss_dupR rfl).trans ?_
  refine (ss_getI rfl).trans ?_
  refine congrArg (Option.bind _) (funext fun x2 => ?_)
  refine (ss_iload_n rfl rfl).trans ?_
  refine (ss_if_eq rfl).trans ?_
  refine pv_ite ?_ ?_
  · refine (ss_iconst rfl (v := 0) rfl).trans ?_
    rfl
  · refine (ss_iconst rfl (v := 1) rfl).trans ?_
    refine (ss_goto rfl).trans ?_
    rfl
set_option maxRecDepth 8000 in
theorem u_Md_hasWord_20 (X : pv_X) (v0 : Nat) (v1 : Int32) (v2 : Int32) (s0 : Int32) (s1 : Int32) (s2 : Nat) (h : pv_H) : f_Md_hasWord_20 X v0 v1 v2 s0 s1 s2 h =
    (pv_fp h s2 11 7 (.int (s1 + s0))).bind (fun h1 => if v2 = 0 ∨ v2 = 1 then some (some (.int v2), h1) else none) := by
  show pS X 2 (some .boolean) k_Md_hasWord 20 [some (.ref v0), some (.int v1), some (.int v2)] [.int s0, .int s1, .ref s2] h = _
  refine (ss_iadd rfl).trans ?_
  refine (ss_putI rfl).trans ?_
  refine congrArg (Option.bind _) (funext fun h1 => ?_)
  refine (ss_iload_n rfl rfl).trans ?_
  exact ss_zreturn rfl
theorem e_Md_hasWord (X : pv_X) (v0 : Nat) (v1 : Int32) (h : pv_H) : pM X m_Md_hasWord [.ref v0, .int v1] h = f_Md_hasWord_0 X v0 v1 h := rfl
noncomputable def f_Md_takeWord_0 (X : pv_X) (v0 : Nat) (v1 : Int32) (h : pv_H) : Option pv_O := pS X 3 (none) k_Md_takeWord 0 [some (.ref v0), some (.int v1)] [] h
noncomputable def f_Md_takeWord_13 (X : pv_X) (v0 : Nat) (v1 : Int32) (h : pv_H) : Option pv_O := pS X 3 (none) k_Md_takeWord 13 [some (.ref v0), some (.int v1)] [] h
set_option maxRecDepth 8000 in
theorem u_Md_takeWord_0 (X : pv_X) (v0 : Nat) (v1 : Int32) (h : pv_H) : f_Md_takeWord_0 X v0 v1 h =
    if pv_rc h v0 11 = true then (pv_tI (pM X m_Md_hasWord [.ref v0, .int v1] h)).bind (fun q1 => if ¬ q1.1 = 0 then f_Md_takeWord_13 X v0 v1 q1.2 else if pv_rc q1.2 v0 11 = true then (pv_tV (pM X m_Md_wrong [.ref v0, .int 1] q1.2)).bind (fun h2 => f_Md_takeWord_13 X v0 v1 h2) else none) else none := by
  show pS X 3 (none) k_Md_takeWord 0 [some (.ref v0), some (.int v1)] [] h = _
  refine (ss_aload_n rfl rfl).trans ?_
  refine (ss_iload_n rfl rfl).trans ?_
  refine (ss_callVI (as := [.int v1]) rfl t_Md_hasWord (by decide) rfl rfl (by decide) (Or.inr rfl) ⟨Nat.le_of_ble_eq_true rfl, Nat.le_of_ble_eq_true rfl⟩).trans ?_
  refine pv_ite ?_ rfl
  refine congrArg (Option.bind _) (funext fun q1 => ?_)
  refine (ss_if_ne rfl).trans ?_
  refine pv_ite ?_ ?_
  · rfl
  · refine (ss_aload_n rfl rfl).trans ?_
    refine (ss_iconst rfl (v := 1) rfl).trans ?_
    refine (ss_callVN (as := [.int 1]) rfl t_Md_wrong (by decide) rfl rfl (by decide) rfl ⟨Nat.le_of_ble_eq_true rfl, Nat.le_of_ble_eq_true rfl⟩).trans ?_
    refine pv_ite ?_ rfl
    refine congrArg (Option.bind _) (funext fun h2 => ?_)
    rfl
set_option maxRecDepth 8000 in
theorem u_Md_takeWord_13 (X : pv_X) (v0 : Nat) (v1 : Int32) (h : pv_H) : f_Md_takeWord_13 X v0 v1 h =
    some (none, h) := by
  show pS X 3 (none) k_Md_takeWord 13 [some (.ref v0), some (.int v1)] [] h = _
  exact ss_return rfl
theorem e_Md_takeWord (X : pv_X) (v0 : Nat) (v1 : Int32) (h : pv_H) : pM X m_Md_takeWord [.ref v0, .int v1] h = f_Md_takeWord_0 X v0 v1 h := rfl
noncomputable def f_Md_within_0 (X : pv_X) (v0 : Int32) (v1 : Int32) (v2 : Int32) (h : pv_H) : Option pv_O := pS X 1 (some .boolean) k_Md_within 0 [some (.int v0), some (.int v1), some (.int v2)] [] h
noncomputable def f_Md_within_14 (X : pv_X) (v0 : Int32) (v1 : Int32) (v2 : Int32) (h : pv_H) : Option pv_O := pS X 1 (some .boolean) k_Md_within 14 [some (.int v0), some (.int v1), some (.int v2)] [] h
noncomputable def f_Md_within_15 (X : pv_X) (v0 : Int32) (v1 : Int32) (v2 : Int32) (s0 : Int32) (h : pv_H) : Option pv_O := pS X 1 (some .boolean) k_Md_within 15 [some (.int v0), some (.int v1), some (.int v2)] [.int s0] h
set_option maxRecDepth 8000 in
theorem u_Md_within_0 (X : pv_X) (v0 : Int32) (v1 : Int32) (v2 : Int32) (h : pv_H) : f_Md_within_0 X v0 v1 v2 h =
    if v0 < v1 then f_Md_within_14 X v0 v1 v2 h else if v2 < v0 then f_Md_within_14 X v0 v1 v2 h else f_Md_within_15 X v0 v1 v2 1 h := by
  show pS X 1 (some .boolean) k_Md_within 0 [some (.int v0), some (.int v1), some (.int v2)] [] h = _
  refine (ss_iload_n rfl rfl).trans ?_
  refine (ss_iload_n rfl rfl).trans ?_
  refine (ss_icmp_lt rfl).trans ?_
  refine pv_ite ?_ ?_
  · rfl
  · refine (ss_iload_n rfl rfl).trans ?_
    refine (ss_iload_n rfl rfl).trans ?_
    refine (ss_icmp_gt rfl).trans ?_
    refine pv_ite ?_ ?_
    · rfl
    · refine (ss_iconst rfl (v := 1) rfl).trans ?_
      refine (ss_goto rfl).trans ?_
      rfl
set_option maxRecDepth 8000 in
theorem u_Md_within_14 (X : pv_X) (v0 : Int32) (v1 : Int32) (v2 : Int32) (h : pv_H) : f_Md_within_14 X v0 v1 v2 h =
    f_Md_within_15 X v0 v1 v2 0 h := by
  show pS X 1 (some .boolean) k_Md_within 14 [some (.int v0), some (.int v1), some (.int v2)] [] h = _
  refine (ss_iconst rfl (v := 0) rfl).trans ?_
  rfl
set_option maxRecDepth 8000 in
theorem u_Md_within_15 (X : pv_X) (v0 : Int32) (v1 : Int32) (v2 : Int32) (s0 : Int32) (h : pv_H) : f_Md_within_15 X v0 v1 v2 s0 h =
    if s0 = 0 ∨ s0 = 1 then some (some (.int s0), h) else none := by
  show pS X 1 (some .boolean) k_Md_within 15 [some (.int v0), some (.int v1), some (.int v2)] [.int s0] h = _
  exact ss_zreturn rfl
theorem e_Md_within (X : pv_X) (v0 : Int32) (v1 : Int32) (v2 : Int32) (h : pv_H) : pM X m_Md_within [.int v0, .int v1, .int v2] h = f_Md_within_0 X v0 v1 v2 h := rfl
noncomputable def f_Md_standsAsAlways_0 (X : pv_X) (v0 : Nat) (v1 : Int32) (h : pv_H) : Option pv_O := pS X 1 (none) k_Md_standsAsAlways 0 [some (.ref v0), some (.int v1), none] [] h
noncomputable def f_Md_standsAsAlways_2 (X : pv_X) (v0 : Nat) (v1 : Int32) (v2 : Int32) (h : pv_H) : Option pv_O := pS X 1 (none) k_Md_standsAsAlways 2 [some (.ref v0), some (.int v1), some (.int v2)] [] h
set_option maxRecDepth 8000 in
theorem u_Md_standsAsAlways_0 (X : pv_X) (v0 : Nat) (v1 : Int32) (h : pv_H) : f_Md_standsAsAlways_0 X v0 v1 h =
    f_Md_standsAsAlways_2 X v0 v1 0 h := by
  show pS X 1 (none) k_Md_standsAsAlways 0 [some (.ref v0), some (.int v1), none] [] h = _
  refine (ss_iconst rfl (v := 0) rfl).trans ?_
  refine (ss_istore_n rfl rfl).trans ?_
  rfl
set_option maxRecDepth 8000 in
theorem u_Md_standsAsAlways_2 (X : pv_X) (v0 : Nat) (v1 : Int32) (v2 : Int32) (h : pv_H) : f_Md_standsAsAlways_2 X v0 v1 v2 h =
    if 30 ≤ v2 then (pv_fR h v0 11 10).bind (fun x1 => (pv_sI h x1 (v1 + 0) 0).bind (fun h2 => some (none, h2))) else (pv_fR h v0 11 10).bind (fun x3 => (pv_sI h x3 (v1 + v2) (-1)).bind (fun h4 => f_Md_standsAsAlways_2 X v0 v1 (v2 + 1) h4)) := by
  show pS X 1 (none) k_Md_standsAsAlways 2 [some (.ref v0), some (.int v1), some (.int v2)] [] h = _
  refine (ss_iload_n rfl rfl).trans ?_
  refine (ss_bipush rfl (v := 30) rfl).trans ?_
  refine (ss_icmp_ge rfl).trans ?_
  refine pv_ite ?_ ?_
  · refine (ss_aload_n rfl rfl).trans ?_
    refine (ss_getR rfl).trans ?_
    refine congrArg (Option.bind _) (funext fun x1 => ?_)
    refine (ss_iload_n rfl rfl).trans ?_
    refine (ss_iconst rfl (v := 0) rfl).trans ?_
    refine (ss_iadd rfl).trans ?_
    refine (ss_iconst rfl (v := 0) rfl).trans ?_
    refine (ss_iastore rfl).trans ?_
    refine congrArg (Option.bind _) (funext fun h2 => ?_)
    exact ss_return rfl
  · refine (ss_aload_n rfl rfl).trans ?_
    refine (ss_getR rfl).trans ?_
    refine congrArg (Option.bind _) (funext fun x3 => ?_)
    refine (ss_iload_n rfl rfl).trans ?_
    refine (ss_iload_n rfl rfl).trans ?_
    refine (ss_iadd rfl).trans ?_
    refine (ss_iconst rfl (v := (-1)) rfl).trans ?_
    refine (ss_iastore rfl).trans ?_
    refine congrArg (Option.bind _) (funext fun h4 => ?_)
    refine (ss_iinc3 rfl rfl (v := v2 + 1) (congrArg (HAdd.hAdd _) (show Int32.ofInt (1) = 1 by decide)) rfl).trans ?_
    refine (ss_goto rfl).trans ?_
    rfl
theorem e_Md_standsAsAlways (X : pv_X) (v0 : Nat) (v1 : Int32) (h : pv_H) : pM X m_Md_standsAsAlways [.ref v0, .int v1] h = f_Md_standsAsAlways_0 X v0 v1 h := rfl
noncomputable def f_Md_takeNumber_0 (X : pv_X) (v0 : Nat) (v1 : Int32) (v2 : Int32) (h : pv_H) : Option pv_O := pS X 2 (some .int) k_Md_takeNumber 0 [some (.ref v0), some (.int v1), some (.int v2)] [] h
noncomputable def f_Md_takeNumber_28 (X : pv_X) (v0 : Nat) (v1 : Int32) (v2 : Int32) (h : pv_H) : Option pv_O := pS X 2 (some .int) k_Md_takeNumber 28 [some (.ref v0), some (.int v1), some (.int v2)] [] h
noncomputable def f_Md_takeNumber_65 (X : pv_X) (v0 : Nat) (v1 : Int32) (v2 : Int32) (h : pv_H) : Option pv_O := pS X 2 (some .int) k_Md_takeNumber 65 [some (.ref v0), some (.int v1), some (.int v2)] [] h
noncomputable def f_Md_takeNumber_70 (X : pv_X) (v0 : Nat) (v1 : Int32) (v2 : Int32) (h : pv_H) : Option pv_O := pS X 2 (some .int) k_Md_takeNumber 70 [some (.ref v0), some (.int v1), some (.int v2)] [] h
set_option maxRecDepth 8000 in
theorem u_Md_takeNumber_0 (X : pv_X) (v0 : Nat) (v1 : Int32) (v2 : Int32) (h : pv_H) : f_Md_takeNumber_0 X v0 v1 v2 h =
    (pv_fI h v0 11 8).bind (fun x1 => if ¬ x1 = 0 then f_Md_takeNumber_28 X v0 v1 v2 h else (pv_fR h v0 11 4).bind (fun x2 => (pv_fI h v0 11 7).bind (fun x3 => (pv_aX X h x2 x3).bind (fun x4 => if x4 = 2 then f_Md_takeNumber_28 X v0 v1 v2 h else if pv_rc h v0 11 = true then (pv_tV (pM X m_Md_wrong [.ref v0, .int 1] h)).bind (fun h5 => f_Md_takeNumber_70 X v0 v1 v2 h5) else none)))) := by
  show pS X 2 (some .int) k_Md_takeNumber 0 [some (.ref v0), some (.int v1), some (.int v2)] [] h = _
  refine (ss_aload_n rfl rfl).trans ?_
  refine (ss_getI rfl).trans ?_
  refine congrArg (Option.bind _) (funext fun x1 => ?_)
  refine (ss_if_ne rfl).trans ?_
  refine pv_ite ?_ ?_
  · rfl
  · refine (ss_aload_n rfl rfl).trans ?_
    refine (ss_getR rfl).trans ?_
    refine congrArg (Option.bind _) (funext fun x2 => ?_)
    refine (ss_aload_n rfl rfl).trans ?_
    refine (ss_getI rfl).trans ?_
    refine congrArg (Option.bind _) (funext fun x3 => ?_)
    refine (ss_iaload rfl).trans ?_
    refine congrArg (Option.bind _) (funext fun x4 => ?_)
    refine (ss_iconst rfl (v := 2) rfl).trans ?_
    refine (ss_icmp_eq rfl).trans ?_
    refine pv_ite ?_ ?_
    · rfl
    · refine (ss_aload_n rfl rfl).trans ?_
      refine (ss_iconst rfl (v := 1) rfl).trans ?_
      refine (ss_callVN (as := [.int 1]) rfl t_Md_wrong (by decide) rfl rfl (by decide) rfl ⟨Nat.le_of_ble_eq_true rfl, Nat.le_of_ble_eq_true rfl⟩).trans ?_
      refine pv_ite ?_ rfl
      refine congrArg (Option.bind _) (funext fun h5 => ?_)
      refine (ss_goto rfl).trans ?_
      rfl
set_option maxRecDepth 8000 in
theorem u_Md_takeNumber_28 (X : pv_X) (v0 : Nat) (v1 : Int32) (v2 : Int32) (h : pv_H) : f_Md_takeNumber_28 X v0 v1 v2 h =
    (pv_fI h v0 11 8).bind (fun x1 => if ¬ x1 = 0 then f_Md_takeNumber_70 X v0 v1 v2 h else (pv_fR h v0 11 6).bind (fun x2 => (pv_fI h v0 11 7).bind (fun x3 => (pv_aJ h x2 x3).bind (fun x4 => if (lg_cmp x4 (v1 : Int32).toInt64) < 0 then f_Md_takeNumber_65 X v0 v1 v2 h else (pv_fR h v0 11 6).bind (fun x5 => (pv_fI h v0 11 7).bind (fun x6 => (pv_aJ h x5 x6).bind (fun x7 => if (lg_cmp x7 (v2 : Int32).toInt64) ≤ 0 then f_Md_takeNumber_70 X v0 v1 v2 h else f_Md_takeNumber_65 X v0 v1 v2 h))))))) := by
  show pS X 2 (some .int) k_Md_takeNumber 28 [some (.ref v0), some (.int v1), some (.int v2)] [] h = _
  refine (ss_aload_n rfl rfl).trans ?_
  refine (ss_getI rfl).trans ?_
  refine congrArg (Option.bind _) (funext fun x1 => ?_)
  refine (ss_if_ne rfl).trans ?_
  refine pv_ite ?_ ?_
  · rfl
  · refine (ss_aload_n rfl rfl).trans ?_
    refine (ss_getR rfl).trans ?_
    refine congrArg (Option.bind _) (funext fun x2 => ?_)
    refine (ss_aload_n rfl rfl).trans ?_
    refine (ss_getI rfl).trans ?_
    refine congrArg (Option.bind _) (funext fun x3 => ?_)
    refine (ss_laload rfl).trans ?_
    refine congrArg (Option.bind _) (funext fun x4 => ?_)
    refine (ss_iload_n rfl rfl).trans ?_
    refine (ss_i2l rfl).trans ?_
    refine (ss_lcmp rfl).trans ?_
    refine (ss_if_lt rfl).trans ?_
    refine pv_ite ?_ ?_
    · rfl
    · refine (ss_aload_n rfl rfl).trans ?_
      refine (ss_getR rfl).trans ?_
      refine congrArg (Option.bind _) (funext fun x5 => ?_)
      refine (ss_aload_n rfl rfl).trans ?_
      refine (ss_getI rfl).trans ?_
      refine congrArg (Option.bind _) (funext fun x6 => ?_)
      refine (ss_laload rfl).trans ?_
      refine congrArg (Option.bind _) (funext fun x7 => ?_)
      refine (ss_iload_n rfl rfl).trans ?_
      refine (ss_i2l rfl).trans ?_
      refine (ss_lcmp rfl).trans ?_
      refine (ss_if_le rfl).trans ?_
      refine pv_ite ?_ ?_
      · rfl
      · rfl
set_option maxRecDepth 8000 in
theorem u_Md_takeNumber_65 (X : pv_X) (v0 : Nat) (v1 : Int32) (v2 : Int32) (h : pv_H) : f_Md_takeNumber_65 X v0 v1 v2 h =
    if pv_rc h v0 11 = true then (pv_tV (pM X m_Md_wrong [.ref v0, .int 4] h)).bind (fun h1 => f_Md_takeNumber_70 X v0 v1 v2 h1) else none := by
  show pS X 2 (some .int) k_Md_takeNumber 65 [some (.ref v0), some (.int v1), some (.int v2)] [] h = _
  refine (ss_aload_n rfl rfl).trans ?_
  refine (ss_iconst rfl (v := 4) rfl).trans ?_
  refine (ss_callVN (as := [.int 4]) rfl t_Md_wrong (by decide) rfl rfl (by decide) rfl ⟨Nat.le_of_ble_eq_true rfl, Nat.le_of_ble_eq_true rfl⟩).trans ?_
  refine pv_ite ?_ rfl
  refine congrArg (Option.bind _) (funext fun h1 => ?_)
  rfl
set_option maxRecDepth 8000 in
theorem u_Md_takeNumber_70 (X : pv_X) (v0 : Nat) (v1 : Int32) (v2 : Int32) (h : pv_H) : f_Md_takeNumber_70 X v0 v1 v2 h =
    (pv_fI h v0 11 8).bind (fun x1 => if x1 ≤ 0 then (pv_fI h v0 11 7).bind (fun x2 => (pv_fp h v0 11 7 (.int (x2 + 1))).bind (fun h3 => (pv_fR h3 v0 11 6).bind (fun x4 => (pv_fI h3 v0 11 7).bind (fun x5 => (pv_aJ h3 x4 (x5 - 1)).bind (fun x6 => some (some (.int (x6 : Int64).toInt32), h3)))))) else some (some (.int 0), h)) := by
  show pS X 2 (some .int) k_Md_takeNumber 70 [some (.ref v0), some (.int v1), some (.int v2)] [] h = _
  refine (ss_aload_n rfl rfl).trans ?_
  refine (ss_getI rfl).trans ?_
  refine congrArg (Option.bind _) (funext fun x1 => ?_)
  refine (ss_if_le rfl).trans ?_
  refine pv_ite ?_ ?_
  · refine (ss_aload_n rfl rfl).trans ?_
    refine (ss_dupR rfl).trans ?_
    refine (ss_getI rfl).trans ?_
    refine congrArg (Option.bind _) (funext fun x2 => ?_)
    refine (ss_iconst rfl (v := 1) rfl).trans ?_
    refine (ss_iadd rfl).trans ?_
    refine (ss_putI rfl).trans ?_
    refine congrArg (Option.bind _) (funext fun h3 => ?_)
    refine (ss_aload_n rfl rfl).trans ?_
    refine (ss_getR rfl).trans ?_
    refine congrArg (Option.bind _) (funext fun x4 => ?_)
    refine (ss_aload_n rfl rfl).trans ?_
    refine (ss_getI rfl).trans ?_
    refine congrArg (Option.bind _) (funext fun x5 => ?_)
    refine (ss_iconst rfl (v := 1) rfl).trans ?_
    refine (ss_isub rfl).trans ?_
    refine (ss_laload rfl).trans ?_
    refine congrArg (Option.bind _) (funext fun x6 => ?_)
    refine (ss_l2i rfl).trans ?_
    exact ss_ireturn rfl
  · refine (ss_iconst rfl (v := 0) rfl).trans ?_
    exact ss_ireturn rfl
theorem e_Md_takeNumber (X : pv_X) (v0 : Nat) (v1 : Int32) (v2 : Int32) (h : pv_H) : pM X m_Md_takeNumber [.ref v0, .int v1, .int v2] h = f_Md_takeNumber_0 X v0 v1 v2 h := rfl
noncomputable def f_Md_wordHere_0 (X : pv_X) (v0 : Nat) (v1 : Int32) (v2 : Int32) (h : pv_H) : Option pv_O := pS X 2 (some .int) k_Md_wordHere 0 [some (.ref v0), some (.int v1), some (.int v2), none, none] [] h
noncomputable def f_Md_wordHere_5 (X : pv_X) (v0 : Nat) (v1 : Int32) (v2 : Int32) (v3 : Int32) (v4 : Int32) (h : pv_H) : Option pv_O := pS X 2 (some .int) k_Md_wordHere 5 [some (.ref v0), some (.int v1), some (.int v2), some (.int v3), some (.int v4)] [] h
noncomputable def f_Md_wordHere_28 (X : pv_X) (v0 : Nat) (v1 : Int32) (v2 : Int32) (v3 : Int32) (v4 : Int32) (s0 : Int32) (h : pv_H) : Option pv_O := pS X 2 (some .int) k_Md_wordHere 28 [some (.ref v0), some (.int v1), some (.int v2), some (.int v3), some (.int v4)] [.int s0] h
set_option maxRecDepth 8000 in
theorem u_Md_wordHere_0 (X : pv_X) (v0 : Nat) (v1 : Int32) (v2 : Int32) (h : pv_H) : f_Md_wordHere_0 X v0 v1 v2 h =
    f_Md_wordHere_5 X v0 v1 v2 (-1) 0 h := by
  show pS X 2 (some .int) k_Md_wordHere 0 [some (.ref v0), some (.int v1), some (.int v2), none, none] [] h = _
  refine (ss_iconst rfl (v := (-1)) rfl).trans ?_
  refine (ss_istore_n rfl rfl).trans ?_
  refine (ss_iconst rfl (v := 0) rfl).trans ?_
  refine (ss_istore rfl rfl).trans ?_
  rfl
set_option maxRecDepth 8000 in
theorem u_Md_wordHere_5 (X : pv_X) (v0 : Nat) (v1 : Int32) (v2 : Int32) (v3 : Int32) (v4 : Int32) (h : pv_H) : f_Md_wordHere_5 X v0 v1 v2 v3 v4 h =
    if v2 ≤ v4 then some (some (.int v3), h) else if pv_rc h v0 11 = true then (pv_tI (pM X m_Md_isWord [.ref v0, .int (v1 + v4)] h)).bind (fun q1 => if q1.1 = 0 then f_Md_wordHere_28 X v0 v1 v2 v3 v4 v3 q1.2 else f_Md_wordHere_28 X v0 v1 v2 v3 v4 v4 q1.2) else none := by
  show pS X 2 (some .int) k_Md_wordHere 5 [some (.ref v0), some (.int v1), some (.int v2), some (.int v3), some (.int v4)] [] h = _
  refine (ss_iload rfl rfl).trans ?_
  refine (ss_iload_n rfl rfl).trans ?_
  refine (ss_icmp_ge rfl).trans ?_
  refine pv_ite ?_ ?_
  · refine (ss_iload_n rfl rfl).trans ?_
    exact ss_ireturn rfl
  · refine (ss_aload_n rfl rfl).trans ?_
    refine (ss_iload_n rfl rfl).trans ?_
    refine (ss_iload rfl rfl).trans ?_
    refine (ss_iadd rfl).trans ?_
    refine (ss_callVI (as := [.int (v1 + v4)]) rfl t_Md_isWord (by decide) rfl rfl (by decide) (Or.inr rfl) ⟨Nat.le_of_ble_eq_true rfl, Nat.le_of_ble_eq_true rfl⟩).trans ?_
    refine pv_ite ?_ rfl
    refine congrArg (Option.bind _) (funext fun q1 => ?_)
    refine (ss_if_eq rfl).trans ?_
    refine pv_ite ?_ ?_
    · refine (ss_iload_n rfl rfl).trans ?_
      rfl
    · refine (ss_iload rfl rfl).trans ?_
      refine (ss_goto rfl).trans ?_
      rfl
set_option maxRecDepth 8000 in
theorem u_Md_wordHere_28 (X : pv_X) (v0 : Nat) (v1 : Int32) (v2 : Int32) (v3 : Int32) (v4 : Int32) (s0 : Int32) (h : pv_H) : f_Md_wordHere_28 X v0 v1 v2 v3 v4 s0 h =
    f_Md_wordHere_5 X v0 v1 v2 s0 (v4 + 1) h := by
  show pS X 2 (some .int) k_Md_wordHere 28 [some (.ref v0), some (.int v1), some (.int v2), some (.int v3), some (.int v4)] [.int s0] h = _
  refine (ss_istore_n rfl rfl).trans ?_
  refine (ss_iinc3 rfl rfl (v := v4 + 1) (congrArg (HAdd.hAdd _) (show Int32.ofInt (1) = 1 by decide)) rfl).trans ?_
  refine (ss_goto rfl).trans ?_
  rfl
theorem e_Md_wordHere (X : pv_X) (v0 : Nat) (v1 : Int32) (v2 : Int32) (h : pv_H) : pM X m_Md_wordHere [.ref v0, .int v1, .int v2] h = f_Md_wordHere_0 X v0 v1 v2 h := rfl
noncomputable def f_Md_takeOne_0 (X : pv_X) (v0 : Nat) (v1 : Int32) (v2 : Int32) (h : pv_H) : Option pv_O := pS X 3 (some .int) k_Md_takeOne 0 [some (.ref v0), some (.int v1), some (.int v2), none] [] h
noncomputable def f_Md_takeOne_17 (X : pv_X) (v0 : Nat) (v1 : Int32) (v2 : Int32) (s0 : Int32) (h : pv_H) : Option pv_O := pS X 3 (some .int) k_Md_takeOne 17 [some (.ref v0), some (.int v1), some (.int v2), none] [.int s0] h
noncomputable def f_Md_takeOne_34 (X : pv_X) (v0 : Nat) (v1 : Int32) (v2 : Int32) (v3 : Int32) (h : pv_H) : Option pv_O := pS X 3 (some .int) k_Md_takeOne 34 [some (.ref v0), some (.int v1), some (.int v2), some (.int v3)] [] h
noncomputable def f_Md_takeOne_51 (X : pv_X) (v0 : Nat) (v1 : Int32) (v2 : Int32) (v3 : Int32) (s0 : Int32) (s1 : Int32) (s2 : Nat) (h : pv_H) : Option pv_O := pS X 3 (some .int) k_Md_takeOne 51 [some (.ref v0), some (.int v1), some (.int v2), some (.int v3)] [.int s0, .int s1, .ref s2] h
noncomputable def f_Md_takeOne_67 (X : pv_X) (v0 : Nat) (v1 : Int32) (v2 : Int32) (v3 : Int32) (s0 : Int32) (h : pv_H) : Option pv_O := pS X 3 (some .int) k_Md_takeOne 67 [some (.ref v0), some (.int v1), some (.int v2), some (.int v3)] [.int s0] h
set_option maxRecDepth 8000 in
theorem u_Md_takeOne_0 (X : pv_X) (v0 : Nat) (v1 : Int32) (v2 : Int32) (h : pv_H) : f_Md_takeOne_0 X v0 v1 v2 h =
    (pv_fI h v0 11 8).bind (fun x1 => if x1 ≤ 0 then if pv_rc h v0 11 = true then (pv_tI (pM X m_Md_wordHere [.ref v0, .int v1, .int v2] h)).bind (fun q2 => f_Md_takeOne_17 X v0 v1 v2 q2.1 q2.2) else none else f_Md_takeOne_17 X v0 v1 v2 (-1) h) := by
  show pS X 3 (some .int) k_Md_takeOne 0 [some (.ref v0), some (.int v1), some (.int v2), none] [] h = _
  refine (ss_aload_n rfl rfl).trans ?_
  refine (ss_getI rfl).trans ?_
  refine congrArg (Option.bind _) (funext fun x1 => ?_)
  refine (ss_if_le rfl).trans ?_
  refine pv_ite ?_ ?_
  · refine (ss_aload_n rfl rfl).trans ?_
    refine (ss_iload_n rfl rfl).trans ?_
    refine (ss_iload_n rfl rfl).trans ?_
    refine (ss_callVI (as := [.int v1, .int v2]) rfl t_Md_wordHere (by decide) rfl rfl (by decide) (Or.inl rfl) ⟨Nat.le_of_ble_eq_true rfl, Nat.le_of_ble_eq_true rfl⟩).trans ?_
    refine pv_ite ?_ rfl
    refine congrArg (Option.bind _) (funext fun q2 => ?_)
    rfl
  · refine (ss_iconst rfl (v := (-1)) rfl).trans ?_
    refine (ss_goto rfl).trans ?_
    rfl
set_option maxRecDepth 8000 in
theorem u_Md_takeOne_17 (X : pv_X) (v0 : Nat) (v1 : Int32) (v2 : Int32) (s0 : Int32) (h : pv_H) : f_Md_takeOne_17 X v0 v1 v2 s0 h =
    (pv_fI h v0 11 8).bind (fun x1 => if ¬ x1 = 0 then f_Md_takeOne_34 X v0 v1 v2 s0 h else if 0 ≤ s0 then f_Md_takeOne_34 X v0 v1 v2 s0 h else if pv_rc h v0 11 = true then (pv_tV (pM X m_Md_wrong [.ref v0, .int 1] h)).bind (fun h2 => f_Md_takeOne_34 X v0 v1 v2 s0 h2) else none) := by
  show pS X 3 (some .int) k_Md_takeOne 17 [some (.ref v0), some (.int v1), some (.int v2), none] [.int s0] h = _
  refine (ss_istore_n rfl rfl).trans ?_
  refine (ss_aload_n rfl rfl).trans ?_
  refine (ss_getI rfl).trans ?_
  refine congrArg (Option.bind _) (funext fun x1 => ?_)
  refine (ss_if_ne rfl).trans ?_
  refine pv_ite ?_ ?_
  · rfl
  · refine (ss_iload_n rfl rfl).trans ?_
    refine (ss_if_ge rfl).trans ?_
    refine pv_ite ?_ ?_
    · rfl
    · refine (ss_aload_n rfl rfl).trans ?_
      refine (ss_iconst rfl (v := 1) rfl).trans ?_
      refine (ss_callVN (as := [.int 1]) rfl t_Md_wrong (by decide) rfl rfl (by decide) rfl ⟨Nat.le_of_ble_eq_true rfl, Nat.le_of_ble_eq_true rfl⟩).trans ?_
      refine pv_ite ?_ rfl
      refine congrArg (Option.bind _) (funext fun h2 => ?_)
      rfl
set_option maxRecDepth 8000 in
theorem u_Md_takeOne_34 (X : pv_X) (v0 : Nat) (v1 : Int32) (v2 : Int32) (v3 : Int32) (h : pv_H) : f_Md_takeOne_34 X v0 v1 v2 v3 h =
    (pv_fI h v0 11 7).bind (fun x1 => (pv_fI h v0 11 8).bind (fun x2 => if x2 ≤ 0 then f_Md_takeOne_51 X v0 v1 v2 v3 1 x1 v0 h else f_Md_takeOne_51 X v0 v1 v2 v3 0 x1 v0 h)) := by
  show pS X 3 (some .int) k_Md_takeOne 34 [some (.ref v0), some (.int v1), some (.int v2), some (.int v3)] [] h = _
  refine (ss_aload_n rfl rfl).trans ?_
  refine (ss_dupR rfl).trans ?_
  refine (ss_getI rfl).trans ?_
  refine congrArg (Option.bind _) (funext fun x1 => ?_)
  refine (ss_aload_n rfl rfl).trans ?_
  refine (ss_getI rfl).trans ?_
  refine congrArg (Option.bind _) (funext fun x2 => ?_)
  refine (ss_if_le rfl).trans ?_
  refine pv_ite ?_ ?_
  · refine (ss_iconst rfl (v := 1) rfl).trans ?_
    rfl
  · refine (ss_iconst rfl (v := 0) rfl).trans ?_
    refine (ss_goto rfl).trans ?_
    rfl
set_option maxRecDepth 8000 in
theorem u_Md_takeOne_51 (X : pv_X) (v0 : Nat) (v1 : Int32) (v2 : Int32) (v3 : Int32) (s0 : Int32) (s1 : Int32) (s2 : Nat) (h : pv_H) : f_Md_takeOne_51 X v0 v1 v2 v3 s0 s1 s2 h =
    (pv_fp h s2 11 7 (.int (s1 + s0))).bind (fun h1 => (pv_fI h1 v0 11 8).bind (fun x2 => if x2 ≤ 0 then f_Md_takeOne_67 X v0 v1 v2 v3 v3 h1 else f_Md_takeOne_67 X v0 v1 v2 v3 0 h1)) := by
  show pS X 3 (some .int) k_Md_takeOne 51 [some (.ref v0), some (.int v1), some (.int v2), some (.int v3)] [.int s0, .int s1, .ref s2] h = _
  refine (ss_iadd rfl).trans ?_
  refine (ss_putI rfl).trans ?_
  refine congrArg (Option.bind _) (funext fun h1 => ?_)
  refine (ss_aload_n rfl rfl).trans ?_
  refine (ss_getI rfl).trans ?_
  refine congrArg (Option.bind _) (funext fun x2 => ?_)
  refine (ss_if_le rfl).trans ?_
  refine pv_ite ?_ ?_
  · refine (ss_iload_n rfl rfl).trans ?_
    rfl
  · refine (ss_iconst rfl (v := 0) rfl).trans ?_
    refine (ss_goto rfl).trans ?_
    rfl
set_option maxRecDepth 8000 in
theorem u_Md_takeOne_67 (X : pv_X) (v0 : Nat) (v1 : Int32) (v2 : Int32) (v3 : Int32) (s0 : Int32) (h : pv_H) : f_Md_takeOne_67 X v0 v1 v2 v3 s0 h =
    some (some (.int s0), h) := by
  show pS X 3 (some .int) k_Md_takeOne 67 [some (.ref v0), some (.int v1), some (.int v2), some (.int v3)] [.int s0] h = _
  exact ss_ireturn rfl
theorem e_Md_takeOne (X : pv_X) (v0 : Nat) (v1 : Int32) (v2 : Int32) (h : pv_H) : pM X m_Md_takeOne [.ref v0, .int v1, .int v2] h = f_Md_takeOne_0 X v0 v1 v2 h := rfl
noncomputable def f_Md_isName_0 (X : pv_X) (v0 : Nat) (h : pv_H) : Option pv_O := pS X 3 (some .boolean) k_Md_isName 0 [some (.ref v0)] [] h
noncomputable def f_Md_isName_34 (X : pv_X) (v0 : Nat) (h : pv_H) : Option pv_O := pS X 3 (some .boolean) k_Md_isName 34 [some (.ref v0)] [] h
noncomputable def f_Md_isName_35 (X : pv_X) (v0 : Nat) (s0 : Int32) (h : pv_H) : Option pv_O := pS X 3 (some .boolean) k_Md_isName 35 [some (.ref v0)] [.int s0] h
set_option maxRecDepth 8000 in
theorem u_Md_isName_0 (X : pv_X) (v0 : Nat) (h : pv_H) : f_Md_isName_0 X v0 h =
    (pv_fI h v0 11 8).bind (fun x1 => if ¬ x1 = 0 then f_Md_isName_34 X v0 h else (pv_fR h v0 11 4).bind (fun x2 => (pv_fI h v0 11 7).bind (fun x3 => (pv_aX X h x2 x3).bind (fun x4 => if ¬ x4 = 1 then f_Md_isName_34 X v0 h else if pv_rc h v0 11 = true then (pv_tI (pM X m_Md_wordHere [.ref v0, .int 0, .int 16] h)).bind (fun q5 => if 0 ≤ q5.1 then f_Md_isName_34 X v0 q5.2 else f_Md_isName_35 X v0 1 q5.2) else none)))) := by
  show pS X 3 (some .boolean) k_Md_isName 0 [some (.ref v0)] [] h = _
  refine (ss_aload_n rfl rfl).trans ?_
  refine (ss_getI rfl).trans ?_
  refine congrArg (Option.bind _) (funext fun x1 => ?_)
  refine (ss_if_ne rfl).trans ?_
  refine pv_ite ?_ ?_
  · rfl
  · refine (ss_aload_n rfl rfl).trans ?_
    refine (ss_getR rfl).trans ?_
    refine congrArg (Option.bind _) (funext fun x2 => ?_)
    refine (ss_aload_n rfl rfl).trans ?_
    refine (ss_getI rfl).trans ?_
    refine congrArg (Option.bind _) (funext fun x3 => ?_)
    refine (ss_iaload rfl).trans ?_
    refine congrArg (Option.bind _) (funext fun x4 => ?_)
    refine (ss_iconst rfl (v := 1) rfl).trans ?_
    refine (ss_icmp_ne rfl).trans ?_
    refine pv_ite ?_ ?_
    · rfl
    · refine (ss_aload_n rfl rfl).trans ?_
      refine (ss_iconst rfl (v := 0) rfl).trans ?_
      refine (ss_bipush rfl (v := 16) rfl).trans ?_
      refine (ss_callVI (as := [.int 0, .int 16]) rfl t_Md_wordHere (by decide) rfl rfl (by decide) (Or.inl rfl) ⟨Nat.le_of_ble_eq_true rfl, Nat.le_of_ble_eq_true rfl⟩).trans ?_
      refine pv_ite ?_ rfl
      refine congrArg (Option.bind _) (funext fun q5 => ?_)
      refine (ss_if_ge rfl).trans ?_
      refine pv_ite ?_ ?_
      · rfl
      · refine (ss_iconst rfl (v := 1) rfl).trans ?_
        refine (ss_goto rfl).trans ?_
        rfl
set_option maxRecDepth 8000 in
theorem u_Md_isName_34 (X : pv_X) (v0 : Nat) (h : pv_H) : f_Md_isName_34 X v0 h =
    f_Md_isName_35 X v0 0 h := by
  show pS X 3 (some .boolean) k_Md_isName 34 [some (.ref v0)] [] h = _
  refine (ss_iconst rfl (v := 0) rfl).trans ?_
  rfl
set_option maxRecDepth 8000 in
theorem u_Md_isName_35 (X : pv_X) (v0 : Nat) (s0 : Int32) (h : pv_H) : f_Md_isName_35 X v0 s0 h =
    if s0 = 0 ∨ s0 = 1 then some (some (.int s0), h) else none := by
  show pS X 3 (some .boolean) k_Md_isName 35 [some (.ref v0)] [.int s0] h = _
  exact ss_zreturn rfl
theorem e_Md_isName (X : pv_X) (v0 : Nat) (h : pv_H) : pM X m_Md_isName [.ref v0] h = f_Md_isName_0 X v0 h := rfl
noncomputable def f_Md_nameAt_0 (X : pv_X) (v0 : Nat) (v1 : Int32) (h : pv_H) : Option pv_O := pS X 1 (some .int) k_Md_nameAt 0 [some (.ref v0), some (.int v1), none] [] h
noncomputable def f_Md_nameAt_2 (X : pv_X) (v0 : Nat) (v1 : Int32) (v2 : Int32) (h : pv_H) : Option pv_O := pS X 1 (some .int) k_Md_nameAt 2 [some (.ref v0), some (.int v1), some (.int v2)] [] h
noncomputable def f_Md_nameAt_18 (X : pv_X) (v0 : Nat) (v1 : Int32) (v2 : Int32) (s0 : Int32) (s1 : Int32) (h : pv_H) : Option pv_O := pS X 1 (some .int) k_Md_nameAt 18 [some (.ref v0), some (.int v1), some (.int v2)] [.int s0, .int s1] h
noncomputable def f_Md_nameAt_40 (X : pv_X) (v0 : Nat) (v1 : Int32) (v2 : Int32) (s0 : Int64) (h : pv_H) : Option pv_O := pS X 1 (some .int) k_Md_nameAt 40 [some (.ref v0), some (.int v1), some (.int v2)] [.long s0] h
set_option maxRecDepth 8000 in
theorem u_Md_nameAt_0 (X : pv_X) (v0 : Nat) (v1 : Int32) (h : pv_H) : f_Md_nameAt_0 X v0 v1 h =
    f_Md_nameAt_2 X v0 v1 0 h := by
  show pS X 1 (some .int) k_Md_nameAt 0 [some (.ref v0), some (.int v1), none] [] h = _
  refine (ss_iconst rfl (v := 0) rfl).trans ?_
  refine (ss_istore_n rfl rfl).trans ?_
  rfl
set_option maxRecDepth 8000 in
theorem u_Md_nameAt_2 (X : pv_X) (v0 : Nat) (v1 : Int32) (v2 : Int32) (h : pv_H) : f_Md_nameAt_2 X v0 v1 v2 h =
    if v1 = 0 then (pv_fI h v0 11 16).bind (fun x1 => f_Md_nameAt_18 X v0 v1 v2 x1 v2 h) else (pv_fI h v0 11 17).bind (fun x2 => f_Md_nameAt_18 X v0 v1 v2 x2 v2 h) := by
  show pS X 1 (some .int) k_Md_nameAt 2 [some (.ref v0), some (.int v1), some (.int v2)] [] h = _
  refine (ss_iload_n rfl rfl).trans ?_
  refine (ss_iload_n rfl rfl).trans ?_
  refine (ss_if_eq rfl).trans ?_
  refine pv_ite ?_ ?_
  · refine (ss_aload_n rfl rfl).trans ?_
    refine (ss_getI rfl).trans ?_
    refine congrArg (Option.bind _) (funext fun x1 => ?_)
    rfl
  · refine (ss_aload_n rfl rfl).trans ?_
    refine (ss_getI rfl).trans ?_
    refine congrArg (Option.bind _) (funext fun x2 => ?_)
    refine (ss_goto rfl).trans ?_
    rfl
set_option maxRecDepth 8000 in
theorem u_Md_nameAt_18 (X : pv_X) (v0 : Nat) (v1 : Int32) (v2 : Int32) (s0 : Int32) (s1 : Int32) (h : pv_H) : f_Md_nameAt_18 X v0 v1 v2 s0 s1 h =
    if s0 ≤ s1 then some (some (.int (-1)), h) else if v1 = 0 then (pv_fR h v0 11 14).bind (fun x1 => (pv_aJ h x1 v2).bind (fun x2 => f_Md_nameAt_40 X v0 v1 v2 x2 h)) else (pv_fR h v0 11 15).bind (fun x3 => (pv_aJ h x3 v2).bind (fun x4 => f_Md_nameAt_40 X v0 v1 v2 x4 h)) := by
  show pS X 1 (some .int) k_Md_nameAt 18 [some (.ref v0), some (.int v1), some (.int v2)] [.int s0, .int s1] h = _
  refine (ss_icmp_ge rfl).trans ?_
  refine pv_ite ?_ ?_
  · refine (ss_iconst rfl (v := (-1)) rfl).trans ?_
    exact ss_ireturn rfl
  · refine (ss_iload_n rfl rfl).trans ?_
    refine (ss_if_eq rfl).trans ?_
    refine pv_ite ?_ ?_
    · refine (ss_aload_n rfl rfl).trans ?_
      refine (ss_getR rfl).trans ?_
      refine congrArg (Option.bind _) (funext fun x1 => ?_)
      refine (ss_iload_n rfl rfl).trans ?_
      refine (ss_laload rfl).trans ?_
      refine congrArg (Option.bind _) (funext fun x2 => ?_)
      rfl
    · refine (ss_aload_n rfl rfl).trans ?_
      refine (ss_getR rfl).trans ?_
      refine congrArg (Option.bind _) (funext fun x3 => ?_)
      refine (ss_iload_n rfl rfl).trans ?_
      refine (ss_laload rfl).trans ?_
      refine congrArg (Option.bind _) (funext fun x4 => ?_)
      refine (ss_goto rfl).trans ?_
      rfl
set_option maxRecDepth 8000 in
theorem u_Md_nameAt_40 (X : pv_X) (v0 : Nat) (v1 : Int32) (v2 : Int32) (s0 : Int64) (h : pv_H) : f_Md_nameAt_40 X v0 v1 v2 s0 h =
    (pv_fR h v0 11 6).bind (fun x1 => (pv_fI h v0 11 7).bind (fun x2 => (pv_aJ h x1 x2).bind (fun x3 => if ¬ (lg_cmp s0 x3) = 0 then f_Md_nameAt_2 X v0 v1 (v2 + 1) h else some (some (.int v2), h)))) := by
  show pS X 1 (some .int) k_Md_nameAt 40 [some (.ref v0), some (.int v1), some (.int v2)] [.long s0] h = _
  refine (ss_aload_n rfl rfl).trans ?_
  refine (ss_getR rfl).trans ?_
  refine congrArg (Option.bind _) (funext fun x1 => ?_)
  refine (ss_aload_n rfl rfl).trans ?_
  refine (ss_getI rfl).trans ?_
  refine congrArg (Option.bind _) (funext fun x2 => ?_)
  refine (ss_laload rfl).trans ?_
  refine congrArg (Option.bind _) (funext fun x3 => ?_)
  refine (ss_lcmp rfl).trans ?_
  refine (ss_if_ne rfl).trans ?_
  refine pv_ite ?_ ?_
  · refine (ss_iinc3 rfl rfl (v := v2 + 1) (congrArg (HAdd.hAdd _) (show Int32.ofInt (1) = 1 by decide)) rfl).trans ?_
    refine (ss_goto rfl).trans ?_
    rfl
  · refine (ss_iload_n rfl rfl).trans ?_
    exact ss_ireturn rfl
theorem e_Md_nameAt (X : pv_X) (v0 : Nat) (v1 : Int32) (h : pv_H) : pM X m_Md_nameAt [.ref v0, .int v1] h = f_Md_nameAt_0 X v0 v1 h := rfl
noncomputable def f_Md_toldHere_0 (X : pv_X) (v0 : Nat) (v1 : Int32) (h : pv_H) : Option pv_O := pS X 4 (some .int) k_Md_toldHere 0 [some (.ref v0), some (.int v1), none] [] h
noncomputable def f_Md_toldHere_19 (X : pv_X) (v0 : Nat) (v1 : Int32) (h : pv_H) : Option pv_O := pS X 4 (some .int) k_Md_toldHere 19 [some (.ref v0), some (.int v1), none] [] h
noncomputable def f_Md_toldHere_35 (X : pv_X) (v0 : Nat) (v1 : Int32) (s0 : Int32) (h : pv_H) : Option pv_O := pS X 4 (some .int) k_Md_toldHere 35 [some (.ref v0), some (.int v1), none] [.int s0] h
noncomputable def f_Md_toldHere_52 (X : pv_X) (v0 : Nat) (v1 : Int32) (v2 : Int32) (h : pv_H) : Option pv_O := pS X 4 (some .int) k_Md_toldHere 52 [some (.ref v0), some (.int v1), some (.int v2)] [] h
noncomputable def f_Md_toldHere_64 (X : pv_X) (v0 : Nat) (v1 : Int32) (v2 : Int32) (s0 : Int32) (h : pv_H) : Option pv_O := pS X 4 (some .int) k_Md_toldHere 64 [some (.ref v0), some (.int v1), some (.int v2)] [.int s0] h
set_option maxRecDepth 8000 in
theorem u_Md_toldHere_0 (X : pv_X) (v0 : Nat) (v1 : Int32) (h : pv_H) : f_Md_toldHere_0 X v0 v1 h =
    (pv_fI h v0 11 8).bind (fun x1 => if ¬ x1 = 0 then f_Md_toldHere_19 X v0 v1 h else if pv_rc h v0 11 = true then (pv_tI (pM X m_Md_isName [.ref v0] h)).bind (fun q2 => if ¬ q2.1 = 0 then f_Md_toldHere_19 X v0 v1 q2.2 else if pv_rc q2.2 v0 11 = true then (pv_tV (pM X m_Md_wrong [.ref v0, .int 1] q2.2)).bind (fun h3 => f_Md_toldHere_19 X v0 v1 h3) else none) else none) := by
  show pS X 4 (some .int) k_Md_toldHere 0 [some (.ref v0), some (.int v1), none] [] h = _
  refine (ss_aload_n rfl rfl).trans ?_
  refine (ss_getI rfl).trans ?_
  refine congrArg (Option.bind _) (funext fun x1 => ?_)
  refine (ss_if_ne rfl).trans ?_
  refine pv_ite ?_ ?_
  · rfl
  · refine (ss_aload_n rfl rfl).trans ?_
    refine (ss_callVI (as := []) rfl t_Md_isName (by decide) rfl rfl (by decide) (Or.inr rfl) ⟨Nat.le_of_ble_eq_true rfl, Nat.le_of_ble_eq_true rfl⟩).trans ?_
    refine pv_ite ?_ rfl
    refine congrArg (Option.bind _) (funext fun q2 => ?_)
    refine (ss_if_ne rfl).trans ?_
    refine pv_ite ?_ ?_
    · rfl
    · refine (ss_aload_n rfl rfl).trans ?_
      refine (ss_iconst rfl (v := 1) rfl).trans ?_
      refine (ss_callVN (as := [.int 1]) rfl t_Md_wrong (by decide) rfl rfl (by decide) rfl ⟨Nat.le_of_ble_eq_true rfl, Nat.le_of_ble_eq_true rfl⟩).trans ?_
      refine pv_ite ?_ rfl
      refine congrArg (Option.bind _) (funext fun h3 => ?_)
      rfl
set_option maxRecDepth 8000 in
theorem u_Md_toldHere_19 (X : pv_X) (v0 : Nat) (v1 : Int32) (h : pv_H) : f_Md_toldHere_19 X v0 v1 h =
    (pv_fI h v0 11 8).bind (fun x1 => if x1 ≤ 0 then if pv_rc h v0 11 = true then (pv_tI (pM X m_Md_nameAt [.ref v0, .int v1] h)).bind (fun q2 => f_Md_toldHere_35 X v0 v1 q2.1 q2.2) else none else f_Md_toldHere_35 X v0 v1 (-1) h) := by
  show pS X 4 (some .int) k_Md_toldHere 19 [some (.ref v0), some (.int v1), none] [] h = _
  refine (ss_aload_n rfl rfl).trans ?_
  refine (ss_getI rfl).trans ?_
  refine congrArg (Option.bind _) (funext fun x1 => ?_)
  refine (ss_if_le rfl).trans ?_
  refine pv_ite ?_ ?_
  · refine (ss_aload_n rfl rfl).trans ?_
    refine (ss_iload_n rfl rfl).trans ?_
    refine (ss_callVI (as := [.int v1]) rfl t_Md_nameAt (by decide) rfl rfl (by decide) (Or.inl rfl) ⟨Nat.le_of_ble_eq_true rfl, Nat.le_of_ble_eq_true rfl⟩).trans ?_
    refine pv_ite ?_ rfl
    refine congrArg (Option.bind _) (funext fun q2 => ?_)
    rfl
  · refine (ss_iconst rfl (v := (-1)) rfl).trans ?_
    refine (ss_goto rfl).trans ?_
    rfl
set_option maxRecDepth 8000 in
theorem u_Md_toldHere_35 (X : pv_X) (v0 : Nat) (v1 : Int32) (s0 : Int32) (h : pv_H) : f_Md_toldHere_35 X v0 v1 s0 h =
    (pv_fI h v0 11 8).bind (fun x1 => if ¬ x1 = 0 then f_Md_toldHere_52 X v0 v1 s0 h else if 0 ≤ s0 then f_Md_toldHere_52 X v0 v1 s0 h else if pv_rc h v0 11 = true then (pv_tV (pM X m_Md_wrong [.ref v0, .int 2] h)).bind (fun h2 => f_Md_toldHere_52 X v0 v1 s0 h2) else none) := by
  show pS X 4 (some .int) k_Md_toldHere 35 [some (.ref v0), some (.int v1), none] [.int s0] h = _
  refine (ss_istore_n rfl rfl).trans ?_
  refine (ss_aload_n rfl rfl).trans ?_
  refine (ss_getI rfl).trans ?_
  refine congrArg (Option.bind _) (funext fun x1 => ?_)
  refine (ss_if_ne rfl).trans ?_
  refine pv_ite ?_ ?_
  · rfl
  · refine (ss_iload_n rfl rfl).trans ?_
    refine (ss_if_ge rfl).trans ?_
    refine pv_ite ?_ ?_
    · rfl
    · refine (ss_aload_n rfl rfl).trans ?_
      refine (ss_iconst rfl (v := 2) rfl).trans ?_
      refine (ss_callVN (as := [.int 2]) rfl t_Md_wrong (by decide) rfl rfl (by decide) rfl ⟨Nat.le_of_ble_eq_true rfl, Nat.le_of_ble_eq_true rfl⟩).trans ?_
      refine pv_ite ?_ rfl
      refine congrArg (Option.bind _) (funext fun h2 => ?_)
      rfl
set_option maxRecDepth 8000 in
theorem u_Md_toldHere_52 (X : pv_X) (v0 : Nat) (v1 : Int32) (v2 : Int32) (h : pv_H) : f_Md_toldHere_52 X v0 v1 v2 h =
    (pv_fI h v0 11 8).bind (fun x1 => if x1 ≤ 0 then f_Md_toldHere_64 X v0 v1 v2 v2 h else f_Md_toldHere_64 X v0 v1 v2 0 h) := by
  show pS X 4 (some .int) k_Md_toldHere 52 [some (.ref v0), some (.int v1), some (.int v2)] [] h = _
  refine (ss_aload_n rfl rfl).trans ?_
  refine (ss_getI rfl).trans ?_
  refine congrArg (Option.bind _) (funext fun x1 => ?_)
  refine (ss_if_le rfl).trans ?_
  refine pv_ite ?_ ?_
  · refine (ss_iload_n rfl rfl).trans ?_
    rfl
  · refine (ss_iconst rfl (v := 0) rfl).trans ?_
    refine (ss_goto rfl).trans ?_
    rfl
set_option maxRecDepth 8000 in
theorem u_Md_toldHere_64 (X : pv_X) (v0 : Nat) (v1 : Int32) (v2 : Int32) (s0 : Int32) (h : pv_H) : f_Md_toldHere_64 X v0 v1 v2 s0 h =
    some (some (.int s0), h) := by
  show pS X 4 (some .int) k_Md_toldHere 64 [some (.ref v0), some (.int v1), some (.int v2)] [.int s0] h = _
  exact ss_ireturn rfl
theorem e_Md_toldHere (X : pv_X) (v0 : Nat) (v1 : Int32) (h : pv_H) : pM X m_Md_toldHere [.ref v0, .int v1] h = f_Md_toldHere_0 X v0 v1 h := rfl
noncomputable def f_Md_takes_0 (X : pv_X) (v0 : Nat) (v1 : Int32) (h : pv_H) : Option pv_O := pS X 2 (none) k_Md_takes 0 [some (.ref v0), some (.int v1)] [] h
noncomputable def f_Md_takes_16 (X : pv_X) (v0 : Nat) (v1 : Int32) (h : pv_H) : Option pv_O := pS X 2 (none) k_Md_takes 16 [some (.ref v0), some (.int v1)] [] h
noncomputable def f_Md_takes_33 (X : pv_X) (v0 : Nat) (v1 : Int32) (s0 : Int32) (s1 : Int32) (s2 : Nat) (h : pv_H) : Option pv_O := pS X 2 (none) k_Md_takes 33 [some (.ref v0), some (.int v1)] [.int s0, .int s1, .ref s2] h
set_option maxRecDepth 8000 in
theorem u_Md_takes_0 (X : pv_X) (v0 : Nat) (v1 : Int32) (h : pv_H) : f_Md_takes_0 X v0 v1 h =
    (pv_fI h v0 11 8).bind (fun x1 => if ¬ x1 = 0 then f_Md_takes_16 X v0 v1 h else if v1 = 0 then f_Md_takes_16 X v0 v1 h else if pv_rc h v0 11 = true then (pv_tV (pM X m_Md_wrong [.ref v0, .int 3] h)).bind (fun h2 => f_Md_takes_16 X v0 v1 h2) else none) := by
  show pS X 2 (none) k_Md_takes 0 [some (.ref v0), some (.int v1)] [] h = _
  refine (ss_aload_n rfl rfl).trans ?_
  refine (ss_getI rfl).trans ?_
  refine congrArg (Option.bind _) (funext fun x1 => ?_)
  refine (ss_if_ne rfl).trans ?_
  refine pv_ite ?_ ?_
  · rfl
  · refine (ss_iload_n rfl rfl).trans ?_
    refine (ss_if_eq rfl).trans ?_
    refine pv_ite ?_ ?_
    · rfl
    · refine (ss_aload_n rfl rfl).trans ?_
      refine (ss_iconst rfl (v := 3) rfl).trans ?_
      refine (ss_callVN (as := [.int 3]) rfl t_Md_wrong (by decide) rfl rfl (by decide) rfl ⟨Nat.le_of_ble_eq_true rfl, Nat.le_of_ble_eq_true rfl⟩).trans ?_
      refine pv_ite ?_ rfl
      refine congrArg (Option.bind _) (funext fun h2 => ?_)
      rfl
set_option maxRecDepth 8000 in
theorem u_Md_takes_16 (X : pv_X) (v0 : Nat) (v1 : Int32) (h : pv_H) : f_Md_takes_16 X v0 v1 h =
    (pv_fI h v0 11 7).bind (fun x1 => (pv_fI h v0 11 8).bind (fun x2 => if x2 ≤ 0 then f_Md_takes_33 X v0 v1 1 x1 v0 h else f_Md_takes_33 X v0 v1 0 x1 v0 h)) := by
  show pS X 2 (none) k_Md_takes 16 [some (.ref v0), some (.int v1)] [] h = _
  refine (ss_aload_n rfl rfl).trans ?_
  refine (ss_dupR rfl).trans ?_
  refine (ss_getI rfl).trans ?_
  refine congrArg (Option.bind _) (funext fun x1 => ?_)
  refine (ss_aload_n rfl rfl).trans ?_
  refine (ss_getI rfl).trans ?_
  refine congrArg (Option.bind _) (funext fun x2 => ?_)
  refine (ss_if_le rfl).trans ?_
  refine pv_ite ?_ ?_
  · refine (ss_iconst rfl (v := 1) rfl).trans ?_
    rfl
  · refine (ss_iconst rfl (v := 0) rfl).trans ?_
    refine (ss_goto rfl).trans ?_
    rfl
set_option maxRecDepth 8000 in
theorem u_Md_takes_33 (X : pv_X) (v0 : Nat) (v1 : Int32) (s0 : Int32) (s1 : Int32) (s2 : Nat) (h : pv_H) : f_Md_takes_33 X v0 v1 s0 s1 s2 h =
    (pv_fp h s2 11 7 (.int (s1 + s0))).bind (fun h1 => some (none, h1)) := by
  show pS X 2 (none) k_Md_takes 33 [some (.ref v0), some (.int v1)] [.int s0, .int s1, .ref s2] h = _
  refine (ss_iadd rfl).trans ?_
  refine (ss_putI rfl).trans ?_
  refine congrArg (Option.bind _) (funext fun h1 => ?_)
  exact ss_return rfl
theorem e_Md_takes (X : pv_X) (v0 : Nat) (v1 : Int32) (h : pv_H) : pM X m_Md_takes [.ref v0, .int v1] h = f_Md_takes_0 X v0 v1 h := rfl
noncomputable def f_Md_port_0 (X : pv_X) (v0 : Nat) (h : pv_H) : Option pv_O := pS X 46 (some .int) k_Md_port 0 [some (.ref v0), none] [] h
noncomputable def f_Md_port_25 (X : pv_X) (v0 : Nat) (h : pv_H) : Option pv_O := pS X 46 (some .int) k_Md_port 25 [some (.ref v0), none] [] h
noncomputable def f_Md_port_57 (X : pv_X) (v0 : Nat) (h : pv_H) : Option pv_O := pS X 46 (some .int) k_Md_port 57 [some (.ref v0), none] [] h
noncomputable def f_Md_port_71 (X : pv_X) (v0 : Nat) (v1 : Int32) (h : pv_H) : Option pv_O := pS X 46 (some .int) k_Md_port 71 [some (.ref v0), some (.int v1)] [] h
noncomputable def f_Md_port_100 (X : pv_X) (v0 : Nat) (v1 : Int32) (h : pv_H) : Option pv_O := pS X 46 (some .int) k_Md_port 100 [some (.ref v0), some (.int v1)] [] h
noncomputable def f_Md_port_148 (X : pv_X) (v0 : Nat) (v1 : Int32) (h : pv_H) : Option pv_O := pS X 46 (some .int) k_Md_port 148 [some (.ref v0), some (.int v1)] [] h
set_option maxRecDepth 8000 in
theorem u_Md_port_0 (X : pv_X) (v0 : Nat) (h : pv_H) : f_Md_port_0 X v0 h =
    (pv_fp h v0 11 0 (.int 0)).bind (fun h1 => if pv_rc h1 v0 11 = true then (pv_tV (pM X m_Md_cutAll [.ref v0] h1)).bind (fun h2 => (pv_fp h2 v0 11 13 (.int 0)).bind (fun h3 => (pv_fp h3 v0 11 17 (.int 0)).bind (fun h4 => if pv_rc h4 v0 11 = true then (pv_tV (pM X m_Md_standsAsAlways [.ref v0, .int 30] h4)).bind (fun h5 => f_Md_port_25 X v0 h5) else none))) else none) := by
  show pS X 46 (some .int) k_Md_port 0 [some (.ref v0), none] [] h = _
  refine (ss_aload_n rfl rfl).trans ?_
  refine (ss_iconst rfl (v := 0) rfl).trans ?_
  refine (ss_putI rfl).trans ?_
  refine congrArg (Option.bind _) (funext fun h1 => ?_)
  refine (ss_aload_n rfl rfl).trans ?_
  refine (ss_callVN (as := []) rfl t_Md_cutAll (by decide) rfl rfl (by decide) rfl ⟨Nat.le_of_ble_eq_true rfl, Nat.le_of_ble_eq_true rfl⟩).trans ?_
  refine pv_ite ?_ rfl
  refine congrArg (Option.bind _) (funext fun h2 => ?_)
  refine (ss_aload_n rfl rfl).trans ?_
  refine (ss_iconst rfl (v := 0) rfl).trans ?_
  refine (ss_putI rfl).trans ?_
  refine congrArg (Option.bind _) (funext fun h3 => ?_)
  refine (ss_aload_n rfl rfl).trans ?_
  refine (ss_iconst rfl (v := 0) rfl).trans ?_
  refine (ss_putI rfl).trans ?_
  refine congrArg (Option.bind _) (funext fun h4 => ?_)
  refine (ss_aload_n rfl rfl).trans ?_
  refine (ss_bipush rfl (v := 30) rfl).trans ?_
  refine (ss_callVN (as := [.int 30]) rfl t_Md_standsAsAlways (by decide) rfl rfl (by decide) rfl ⟨Nat.le_of_ble_eq_true rfl, Nat.le_of_ble_eq_true rfl⟩).trans ?_
  refine pv_ite ?_ rfl
  refine congrArg (Option.bind _) (funext fun h5 => ?_)
  rfl
set_option maxRecDepth 8000 in
theorem u_Md_port_25 (X : pv_X) (v0 : Nat) (h : pv_H) : f_Md_port_25 X v0 h =
    (pv_fI h v0 11 8).bind (fun x1 => if ¬ x1 = 0 then f_Md_port_57 X v0 h else (pv_fR h v0 11 4).bind (fun x2 => (pv_fI h v0 11 7).bind (fun x3 => (pv_aX X h x2 x3).bind (fun x4 => if x4 = 0 then f_Md_port_57 X v0 h else if pv_rc h v0 11 = true then (pv_tV (pM X m_Md_readLine [.ref v0] h)).bind (fun h5 => if pv_rc h5 v0 11 = true then (pv_tV (pM X m_Md_takeSign [.ref v0, .int 59] h5)).bind (fun h6 => f_Md_port_25 X v0 h6) else none) else none)))) := by
  show pS X 46 (some .int) k_Md_port 25 [some (.ref v0), none] [] h = _
  refine (ss_aload_n rfl rfl).trans ?_
  refine (ss_getI rfl).trans ?_
  refine congrArg (Option.bind _) (funext fun x1 => ?_)
  refine (ss_if_ne rfl).trans ?_
  refine pv_ite ?_ ?_
  · rfl
  · refine (ss_aload_n rfl rfl).trans ?_
    refine (ss_getR rfl).trans ?_
    refine congrArg (Option.bind _) (funext fun x2 => ?_)
    refine (ss_aload_n rfl rfl).trans ?_
    refine (ss_getI rfl).trans ?_
    refine congrArg (Option.bind _) (funext fun x3 => ?_)
    refine (ss_iaload rfl).trans ?_
    refine congrArg (Option.bind _) (funext fun x4 => ?_)
    refine (ss_if_eq rfl).trans ?_
    refine pv_ite ?_ ?_
    · rfl
    · refine (ss_aload_n rfl rfl).trans ?_
      refine (ss_callVN (as := []) rfl t_Md_readLine (by decide) rfl rfl (by decide) rfl ⟨Nat.le_of_ble_eq_true rfl, Nat.le_of_ble_eq_true rfl⟩).trans ?_
      refine pv_ite ?_ rfl
      refine congrArg (Option.bind _) (funext fun h5 => ?_)
      refine (ss_aload_n rfl rfl).trans ?_
      refine (ss_bipush rfl (v := 59) rfl).trans ?_
      refine (ss_callVN (as := [.int 59]) rfl t_Md_takeSign (by decide) rfl rfl (by decide) rfl ⟨Nat.le_of_ble_eq_true rfl, Nat.le_of_ble_eq_true rfl⟩).trans ?_
      refine pv_ite ?_ rfl
      refine congrArg (Option.bind _) (funext fun h6 => ?_)
      refine (ss_goto rfl).trans ?_
      rfl
set_option maxRecDepth 8000 in
theorem u_Md_port_57 (X : pv_X) (v0 : Nat) (h : pv_H) : f_Md_port_57 X v0 h =
    (pv_fI h v0 11 8).bind (fun x1 => if x1 ≤ 0 then f_Md_port_71 X v0 0 h else (pv_fI h v0 11 8).bind (fun x2 => some (some (.int x2), h))) := by
  show pS X 46 (some .int) k_Md_port 57 [some (.ref v0), none] [] h = _
  refine (ss_aload_n rfl rfl).trans ?_
  refine (ss_getI rfl).trans ?_
  refine congrArg (Option.bind _) (funext fun x1 => ?_)
  refine (ss_if_le rfl).trans ?_
  refine pv_ite ?_ ?_
  · refine (ss_iconst rfl (v := 0) rfl).trans ?_
    refine (ss_istore_n rfl rfl).trans ?_
    rfl
  · refine (ss_aload_n rfl rfl).trans ?_
    refine (ss_getI rfl).trans ?_
    refine congrArg (Option.bind _) (funext fun x2 => ?_)
    exact ss_ireturn rfl
set_option maxRecDepth 8000 in
theorem u_Md_port_71 (X : pv_X) (v0 : Nat) (v1 : Int32) (h : pv_H) : f_Md_port_71 X v0 v1 h =
    if 30 ≤ v1 then f_Md_port_100 X v0 0 h else (pv_fR h v0 11 10).bind (fun x1 => (pv_fR h v0 11 10).bind (fun x2 => (pv_aX X h x2 (30 + v1)).bind (fun x3 => (pv_sI h x1 v1 x3).bind (fun h4 => f_Md_port_71 X v0 (v1 + 1) h4)))) := by
  show pS X 46 (some .int) k_Md_port 71 [some (.ref v0), some (.int v1)] [] h = _
  refine (ss_iload_n rfl rfl).trans ?_
  refine (ss_bipush rfl (v := 30) rfl).trans ?_
  refine (ss_icmp_ge rfl).trans ?_
  refine pv_ite ?_ ?_
  · refine (ss_iconst rfl (v := 0) rfl).trans ?_
    refine (ss_istore_n rfl rfl).trans ?_
    rfl
  · refine (ss_aload_n rfl rfl).trans ?_
    refine (ss_getR rfl).trans ?_
    refine congrArg (Option.bind _) (funext fun x1 => ?_)
    refine (ss_iload_n rfl rfl).trans ?_
    refine (ss_aload_n rfl rfl).trans ?_
    refine (ss_getR rfl).trans ?_
    refine congrArg (Option.bind _) (funext fun x2 => ?_)
    refine (ss_bipush rfl (v := 30) rfl).trans ?_
    refine (ss_iload_n rfl rfl).trans ?_
    refine (ss_iadd rfl).trans ?_
    refine (ss_iaload rfl).trans ?_
    refine congrArg (Option.bind _) (funext fun x3 => ?_)
    refine (ss_iastore rfl).trans ?_
    refine congrArg (Option.bind _) (funext fun h4 => ?_)
    refine (ss_iinc3 rfl rfl (v := v1 + 1) (congrArg (HAdd.hAdd _) (show Int32.ofInt (1) = 1 by decide)) rfl).trans ?_
    refine (ss_goto rfl).trans ?_
    rfl
set_option maxRecDepth 8000 in
theorem u_Md_port_100 (X : pv_X) (v0 : Nat) (v1 : Int32) (h : pv_H) : f_Md_port_100 X v0 v1 h =
    (pv_fI h v0 11 13).bind (fun x1 => if x1 ≤ v1 then f_Md_port_148 X v0 0 h else (pv_fR h v0 11 11).bind (fun x2 => (pv_fR h v0 11 11).bind (fun x3 => (pv_aX X h x3 (1100 + v1)).bind (fun x4 => (pv_sI h x2 v1 x4).bind (fun h5 => (pv_fR h5 v0 11 12).bind (fun x6 => (pv_fR h5 v0 11 12).bind (fun x7 => (pv_aX X h5 x7 (1100 + v1)).bind (fun x8 => (pv_sI h5 x6 v1 x8).bind (fun h9 => f_Md_port_100 X v0 (v1 + 1) h9))))))))) := by
  show pS X 46 (some .int) k_Md_port 100 [some (.ref v0), some (.int v1)] [] h = _
  refine (ss_iload_n rfl rfl).trans ?_
  refine (ss_aload_n rfl rfl).trans ?_
  refine (ss_getI rfl).trans ?_
  refine congrArg (Option.bind _) (funext fun x1 => ?_)
  refine (ss_icmp_ge rfl).trans ?_
  refine pv_ite ?_ ?_
  · refine (ss_iconst rfl (v := 0) rfl).trans ?_
    refine (ss_istore_n rfl rfl).trans ?_
    rfl
  · refine (ss_aload_n rfl rfl).trans ?_
    refine (ss_getR rfl).trans ?_
    refine congrArg (Option.bind _) (funext fun x2 => ?_)
    refine (ss_iload_n rfl rfl).trans ?_
    refine (ss_aload_n rfl rfl).trans ?_
    refine (ss_getR rfl).trans ?_
    refine congrArg (Option.bind _) (funext fun x3 => ?_)
    refine (ss_sipush rfl (v := 1100) rfl).trans ?_
    refine (ss_iload_n rfl rfl).trans ?_
    refine (ss_iadd rfl).trans ?_
    refine (ss_iaload rfl).trans ?_
    refine congrArg (Option.bind _) (funext fun x4 => ?_)
    refine (ss_iastore rfl).trans ?_
    refine congrArg (Option.bind _) (funext fun h5 => ?_)
    refine (ss_aload_n rfl rfl).trans ?_
    refine (ss_getR rfl).trans ?_
    refine congrArg (Option.bind _) (funext fun x6 => ?_)
    refine (ss_iload_n rfl rfl).trans ?_
    refine (ss_aload_n rfl rfl).trans ?_
    refine (ss_getR rfl).trans ?_
    refine congrArg (Option.bind _) (funext fun x7 => ?_)
    refine (ss_sipush rfl (v := 1100) rfl).trans ?_
    refine (ss_iload_n rfl rfl).trans ?_
    refine (ss_iadd rfl).trans ?_
    refine (ss_iaload rfl).trans ?_
    refine congrArg (Option.bind _) (funext fun x8 => ?_)
    refine (ss_iastore rfl).trans ?_
    refine congrArg (Option.bind _) (funext fun h9 => ?_)
    refine (ss_iinc3 rfl rfl (v := v1 + 1) (congrArg (HAdd.hAdd _) (show Int32.ofInt (1) = 1 by decide)) rfl).trans ?_
    refine (ss_goto rfl).trans ?_
    rfl
set_option maxRecDepth 8000 in
theorem u_Md_port_148 (X : pv_X) (v0 : Nat) (v1 : Int32) (h : pv_H) : f_Md_port_148 X v0 v1 h =
    (pv_fI h v0 11 17).bind (fun x1 => if x1 ≤ v1 then (pv_fI h v0 11 17).bind (fun x2 => (pv_fp h v0 11 16 (.int x2)).bind (fun h3 => if pv_rc h3 v0 11 = true then (pv_tV (pM X m_Md_begins [.ref v0] h3)).bind (fun h4 => some (some (.int 0), h4)) else none)) else (pv_fR h v0 11 14).bind (fun x5 => (pv_fR h v0 11 15).bind (fun x6 => (pv_aJ h x6 v1).bind (fun x7 => (pv_sJ h x5 v1 x7).bind (fun h8 => f_Md_port_148 X v0 (v1 + 1) h8))))) := by
  show pS X 46 (some .int) k_Md_port 148 [some (.ref v0), some (.int v1)] [] h = _
  refine (ss_iload_n rfl rfl).trans ?_
  refine (ss_aload_n rfl rfl).trans ?_
  refine (ss_getI rfl).trans ?_
  refine congrArg (Option.bind _) (funext fun x1 => ?_)
  refine (ss_icmp_ge rfl).trans ?_
  refine pv_ite ?_ ?_
  · refine (ss_aload_n rfl rfl).trans ?_
    refine (ss_aload_n rfl rfl).trans ?_
    refine (ss_getI rfl).trans ?_
    refine congrArg (Option.bind _) (funext fun x2 => ?_)
    refine (ss_putI rfl).trans ?_
    refine congrArg (Option.bind _) (funext fun h3 => ?_)
    refine (ss_aload_n rfl rfl).trans ?_
    refine (ss_callVN (as := []) rfl t_Md_begins (by decide) rfl rfl (by decide) rfl ⟨Nat.le_of_ble_eq_true rfl, Nat.le_of_ble_eq_true rfl⟩).trans ?_
    refine pv_ite ?_ rfl
    refine congrArg (Option.bind _) (funext fun h4 => ?_)
    refine (ss_iconst rfl (v := 0) rfl).trans ?_
    exact ss_ireturn rfl
  · refine (ss_aload_n rfl rfl).trans ?_
    refine (ss_getR rfl).trans ?_
    refine congrArg (Option.bind _) (funext fun x5 => ?_)
    refine (ss_iload_n rfl rfl).trans ?_
    refine (ss_aload_n rfl rfl).trans ?_
    refine (ss_getR rfl).trans ?_
    refine congrArg (Option.bind _) (funext fun x6 => ?_)
    refine (ss_iload_n rfl rfl).trans ?_
    refine (ss_laload rfl).trans ?_
    refine congrArg (Option.bind _) (funext fun x7 => ?_)
    refine (ss_lastore rfl).trans ?_
    refine congrArg (Option.bind _) (funext fun h8 => ?_)
    refine (ss_iinc3 rfl rfl (v := v1 + 1) (congrArg (HAdd.hAdd _) (show Int32.ofInt (1) = 1 by decide)) rfl).trans ?_
    refine (ss_goto rfl).trans ?_
    rfl
theorem e_Md_port (X : pv_X) (v0 : Nat) (h : pv_H) : pM X m_Md_port [.ref v0] h = f_Md_port_0 X v0 h := rfl
noncomputable def f_Md_readLine_0 (X : pv_X) (v0 : Nat) (h : pv_H) : Option pv_O := pS X 45 (none) k_Md_readLine 0 [some (.ref v0), none, none, none] [] h
noncomputable def f_Md_readLine_63 (X : pv_X) (v0 : Nat) (v1 : Int32) (v2 : Int32) (s0 : Int32) (s1 : Nat) (h : pv_H) : Option pv_O := pS X 45 (none) k_Md_readLine 63 [some (.ref v0), some (.int v1), some (.int v2), none] [.int s0, .ref s1] h
noncomputable def f_Md_readLine_83 (X : pv_X) (v0 : Nat) (v1 : Int32) (v2 : Int32) (v3 : Int32) (s0 : Int32) (s1 : Nat) (h : pv_H) : Option pv_O := pS X 45 (none) k_Md_readLine 83 [some (.ref v0), some (.int v1), some (.int v2), some (.int v3)] [.int s0, .ref s1] h
noncomputable def f_Md_readLine_108 (X : pv_X) (v0 : Nat) (v1 : Int32) (v2 : Int32) (v3 : Int32) (s0 : Int32) (s1 : Int32) (s2 : Nat) (h : pv_H) : Option pv_O := pS X 45 (none) k_Md_readLine 108 [some (.ref v0), some (.int v1), some (.int v2), some (.int v3)] [.int s0, .int s1, .ref s2] h
noncomputable def f_Md_readLine_158 (X : pv_X) (v0 : Nat) (v1 : Int32) (s0 : Int32) (s1 : Nat) (h : pv_H) : Option pv_O := pS X 45 (none) k_Md_readLine 158 [some (.ref v0), some (.int v1), none, none] [.int s0, .ref s1] h
noncomputable def f_Md_readLine_192 (X : pv_X) (v0 : Nat) (v1 : Int32) (v2 : Int32) (s0 : Int32) (s1 : Int32) (s2 : Nat) (h : pv_H) : Option pv_O := pS X 45 (none) k_Md_readLine 192 [some (.ref v0), some (.int v1), some (.int v2), none] [.int s0, .int s1, .ref s2] h
noncomputable def f_Md_readLine_200 (X : pv_X) (v0 : Nat) (o1 : Option Value) (o2 : Option Value) (o3 : Option Value) (h : pv_H) : Option pv_O := pS X 45 (none) k_Md_readLine 200 [some (.ref v0), o1, o2, o3] [] h
set_option maxRecDepth 8000 in
theorem u_Md_readLine_0 (X : pv_X) (v0 : Nat) (h : pv_H) : f_Md_readLine_0 X v0 h =
    if pv_rc h v0 11 = true then (pv_tI (pM X m_Md_isWord [.ref v0, .int 0] h)).bind (fun q1 => if q1.1 = 0 then if pv_rc q1.2 v0 11 = true then (pv_tI (pM X m_Md_isWord [.ref v0, .int 2] q1.2)).bind (fun q2 => if q2.1 = 0 then if pv_rc q2.2 v0 11 = true then (pv_tI (pM X m_Md_isWord [.ref v0, .int 3] q2.2)).bind (fun q3 => if q3.1 = 0 then if pv_rc q3.2 v0 11 = true then (pv_tV (pM X m_Md_readMoods [.ref v0] q3.2)).bind (fun h4 => f_Md_readLine_200 X v0 none none none h4) else none else (pv_fI q3.2 v0 11 7).bind (fun x5 => (pv_fp q3.2 v0 11 7 (.int (x5 + 1))).bind (fun h6 => if pv_rc h6 v0 11 = true then (pv_tI (pM X m_Md_toldHere [.ref v0, .int 1] h6)).bind (fun q7 => (pv_fR q7.2 v0 11 10).bind (fun x8 => (pv_aX X q7.2 x8 ((32 + (4 * q7.1)) + 3)).bind (fun x9 => if x9 < 0 then f_Md_readLine_158 X v0 ((32 + (4 * q7.1)) + 3) 0 v0 q7.2 else f_Md_readLine_158 X v0 ((32 + (4 * q7.1)) + 3) 1 v0 q7.2))) else none))) else none else (pv_fI q2.2 v0 11 7).bind (fun x10 => (pv_fp q2.2 v0 11 7 (.int (x10 + 1))).bind (fun h11 => if pv_rc h11 v0 11 = true then (pv_tI (pM X m_Md_toldHere [.ref v0, .int 1] h11)).bind (fun q12 => (pv_fR q12.2 v0 11 10).bind (fun x13 => (pv_aX X q12.2 x13 ((32 + (4 * q12.1)) + 2)).bind (fun x14 => if x14 < 0 then f_Md_readLine_63 X v0 q12.1 ((32 + (4 * q12.1)) + 2) 0 v0 q12.2 else f_Md_readLine_63 X v0 q12.1 ((32 + (4 * q12.1)) + 2) 1 v0 q12.2))) else none))) else none else if pv_rc q1.2 v0 11 = true then (pv_tV (pM X m_Md_readPerson [.ref v0] q1.2)).bind (fun h15 => f_Md_readLine_200 X v0 none none none h15) else none) else none := by
  show pS X 45 (none) k_Md_readLine 0 [some (.ref v0), none, none, none] [] h = _
  refine (ss_aload_n rfl rfl).trans ?_
  refine (ss_iconst rfl (v := 0) rfl).trans ?_
  refine (ss_callVI (as := [.int 0]) rfl t_Md_isWord (by decide) rfl rfl (by decide) (Or.inr rfl) ⟨Nat.le_of_ble_eq_true rfl, Nat.le_of_ble_eq_true rfl⟩).trans ?_
  refine pv_ite ?_ rfl
  refine congrArg (Option.bind _) (funext fun q1 => ?_)
  refine (ss_if_eq rfl).trans ?_
  refine pv_ite ?_ ?_
  · refine (ss_aload_n rfl rfl).trans ?_
    refine (ss_iconst rfl (v := 2) rfl).trans ?_
    refine (ss_callVI (as := [.int 2]) rfl t_Md_isWord (by decide) rfl rfl (by decide) (Or.inr rfl) ⟨Nat.le_of_ble_eq_true rfl, Nat.le_of_ble_eq_true rfl⟩).trans ?_
    refine pv_ite ?_ rfl
    refine congrArg (Option.bind _) (funext fun q2 => ?_)
    refine (ss_if_eq rfl).trans ?_
    refine pv_ite ?_ ?_
    · refine (ss_aload_n rfl rfl).trans ?_
      refine (ss_iconst rfl (v := 3) rfl).trans ?_
      refine (ss_callVI (as := [.int 3]) rfl t_Md_isWord (by decide) rfl rfl (by decide) (Or.inr rfl) ⟨Nat.le_of_ble_eq_true rfl, Nat.le_of_ble_eq_true rfl⟩).trans ?_
      refine pv_ite ?_ rfl
      refine congrArg (Option.bind _) (funext fun q3 => ?_)
      refine (ss_if_eq rfl).trans ?_
      refine pv_ite ?_ ?_
      · refine (ss_aload_n rfl rfl).trans ?_
        refine (ss_callVN (as := []) rfl t_Md_readMoods (by decide) rfl rfl (by decide) rfl ⟨Nat.le_of_ble_eq_true rfl, Nat.le_of_ble_eq_true rfl⟩).trans ?_
        refine pv_ite ?_ rfl
        refine congrArg (Option.bind _) (funext fun h4 => ?_)
        rfl
      · refine (ss_aload_n rfl rfl).trans ?_
        refine (ss_dupR rfl).trans ?_
        refine (ss_getI rfl).trans ?_
        refine congrArg (Option.bind _) (funext fun x5 => ?_)
        refine (ss_iconst rfl (v := 1) rfl).trans ?_
        refine (ss_iadd rfl).trans ?_
        refine (ss_putI rfl).trans ?_
        refine congrArg (Option.bind _) (funext fun h6 => ?_)
        refine (ss_bipush rfl (v := 32) rfl).trans ?_
        refine (ss_iconst rfl (v := 4) rfl).trans ?_
        refine (ss_aload_n rfl rfl).trans ?_
        refine (ss_iconst rfl (v := 1) rfl).trans ?_
        refine (ss_callVI (as := [.int 1]) rfl t_Md_toldHere (by decide) rfl rfl (by simp [Value.category]) (Or.inl rfl) ⟨Nat.le_of_ble_eq_true rfl, Nat.le_of_ble_eq_true rfl⟩).trans ?_
        refine pv_ite ?_ rfl
        refine congrArg (Option.bind _) (funext fun q7 => ?_)
        refine (ss_imul rfl).trans ?_
        refine (ss_iadd rfl).trans ?_
        refine (ss_iconst rfl (v := 3) rfl).trans ?_
        refine (ss_iadd rfl).trans ?_
        refine (ss_istore_n rfl rfl).trans ?_
        refine (ss_aload_n rfl rfl).trans ?_
        refine (ss_aload_n rfl rfl).trans ?_
        refine (ss_getR rfl).trans ?_
        refine congrArg (Option.bind _) (funext fun x8 => ?_)
        refine (ss_iload_n rfl rfl).trans ?_
        refine (ss_iaload rfl).trans ?_
        refine congrArg (Option.bind _) (funext fun x9 => ?_)
        refine (ss_if_lt rfl).trans ?_
        refine pv_ite ?_ ?_
        · refine (ss_iconst rfl (v := 0) rfl).trans ?_
          rfl
        · refine (ss_iconst rfl (v := 1) rfl).trans ?_
          refine (ss_goto rfl).trans ?_
          rfl
    · refine (ss_aload_n rfl rfl).trans ?_
      refine (ss_dupR rfl).trans ?_
      refine (ss_getI rfl).trans ?_
      refine congrArg (Option.bind _) (funext fun x10 => ?_)
      refine (ss_iconst rfl (v := 1) rfl).trans ?_
      refine (ss_iadd rfl).trans ?_
      refine (ss_putI rfl).trans ?_
      refine congrArg (Option.bind _) (funext fun h11 => ?_)
      refine (ss_aload_n rfl rfl).trans ?_
      refine (ss_iconst rfl (v := 1) rfl).trans ?_
      refine (ss_callVI (as := [.int 1]) rfl t_Md_toldHere (by decide) rfl rfl (by decide) (Or.inl rfl) ⟨Nat.le_of_ble_eq_true rfl, Nat.le_of_ble_eq_true rfl⟩).trans ?_
      refine pv_ite ?_ rfl
      refine congrArg (Option.bind _) (funext fun q12 => ?_)
      refine (ss_istore_n rfl rfl).trans ?_
      refine (ss_bipush rfl (v := 32) rfl).trans ?_
      refine (ss_iconst rfl (v := 4) rfl).trans ?_
      refine (ss_iload_n rfl rfl).trans ?_
      refine (ss_imul rfl).trans ?_
      refine (ss_iadd rfl).trans ?_
      refine (ss_iconst rfl (v := 2) rfl).trans ?_
      refine (ss_iadd rfl).trans ?_
      refine (ss_istore_n rfl rfl).trans ?_
      refine (ss_aload_n rfl rfl).trans ?_
      refine (ss_aload_n rfl rfl).trans ?_
      refine (ss_getR rfl).trans ?_
      refine congrArg (Option.bind _) (funext fun x13 => ?_)
      refine (ss_iload_n rfl rfl).trans ?_
      refine (ss_iaload rfl).trans ?_
      refine congrArg (Option.bind _) (funext fun x14 => ?_)
      refine (ss_if_lt rfl).trans ?_
      refine pv_ite ?_ ?_
      · refine (ss_iconst rfl (v := 0) rfl).trans ?_
        rfl
      · refine (ss_iconst rfl (v := 1) rfl).trans ?_
        refine (ss_goto rfl).trans ?_
        rfl
  · refine (ss_aload_n rfl rfl).trans ?_
    refine (ss_callVN (as := []) rfl t_Md_readPerson (by decide) rfl rfl (by decide) rfl ⟨Nat.le_of_ble_eq_true rfl, Nat.le_of_ble_eq_true rfl⟩).trans ?_
    refine pv_ite ?_ rfl
    refine congrArg (Option.bind _) (funext fun h15 => ?_)
    refine (ss_goto rfl).trans ?_
    rfl
set_option maxRecDepth 8000 in
theorem u_Md_readLine_63 (X : pv_X) (v0 : Nat) (v1 : Int32) (v2 : Int32) (s0 : Int32) (s1 : Nat) (h : pv_H) : f_Md_readLine_63 X v0 v1 v2 s0 s1 h =
    if pv_rc h s1 11 = true then (pv_tV (pM X m_Md_takes [.ref s1, .int s0] h)).bind (fun h1 => if pv_rc h1 v0 11 = true then (pv_tI (pM X m_Md_toldHere [.ref v0, .int 1] h1)).bind (fun q2 => if ¬ v1 = q2.1 then f_Md_readLine_83 X v0 v1 v2 q2.1 0 v0 q2.2 else f_Md_readLine_83 X v0 v1 v2 q2.1 1 v0 q2.2) else none) else none := by
  show pS X 45 (none) k_Md_readLine 63 [some (.ref v0), some (.int v1), some (.int v2), none] [.int s0, .ref s1] h = _
  refine (ss_callVN (as := [.int s0]) rfl t_Md_takes (by decide) rfl rfl (by decide) rfl ⟨Nat.le_of_ble_eq_true rfl, Nat.le_of_ble_eq_true rfl⟩).trans ?_
  refine pv_ite ?_ rfl
  refine congrArg (Option.bind _) (funext fun h1 => ?_)
  refine (ss_aload_n rfl rfl).trans ?_
  refine (ss_iconst rfl (v := 1) rfl).trans ?_
  refine (ss_callVI (as := [.int 1]) rfl t_Md_toldHere (by decide) rfl rfl (by decide) (Or.inl rfl) ⟨Nat.le_of_ble_eq_true rfl, Nat.le_of_ble_eq_true rfl⟩).trans ?_
  refine pv_ite ?_ rfl
  refine congrArg (Option.bind _) (funext fun q2 => ?_)
  refine (ss_istore_n rfl rfl).trans ?_
  refine (ss_aload_n rfl rfl).trans ?_
  refine (ss_iload_n rfl rfl).trans ?_
  refine (ss_iload_n rfl rfl).trans ?_
  refine (ss_icmp_ne rfl).trans ?_
  refine pv_ite ?_ ?_
  · refine (ss_iconst rfl (v := 0) rfl).trans ?_
    rfl
  · refine (ss_iconst rfl (v := 1) rfl).trans ?_
    refine (ss_goto rfl).trans ?_
    rfl
set_option maxRecDepth 8000 in
theorem u_Md_readLine_83 (X : pv_X) (v0 : Nat) (v1 : Int32) (v2 : Int32) (v3 : Int32) (s0 : Int32) (s1 : Nat) (h : pv_H) : f_Md_readLine_83 X v0 v1 v2 v3 s0 s1 h =
    if pv_rc h s1 11 = true then (pv_tV (pM X m_Md_takes [.ref s1, .int s0] h)).bind (fun h1 => (pv_fR h1 v0 11 10).bind (fun x2 => (pv_fI h1 v0 11 8).bind (fun x3 => if x3 ≤ 0 then f_Md_readLine_108 X v0 v1 v2 v3 v3 v2 x2 h1 else (pv_fR h1 v0 11 10).bind (fun x4 => (pv_aX X h1 x4 v2).bind (fun x5 => f_Md_readLine_108 X v0 v1 v2 v3 x5 v2 x2 h1))))) else none := by
  show pS X 45 (none) k_Md_readLine 83 [some (.ref v0), some (.int v1), some (.int v2), some (.int v3)] [.int s0, .ref s1] h = _
  refine (ss_callVN (as := [.int s0]) rfl t_Md_takes (by decide) rfl rfl (by decide) rfl ⟨Nat.le_of_ble_eq_true rfl, Nat.le_of_ble_eq_true rfl⟩).trans ?_
  refine pv_ite ?_ rfl
  refine congrArg (Option.bind _) (funext fun h1 => ?_)
  refine (ss_aload_n rfl rfl).trans ?_
  refine (ss_getR rfl).trans ?_
  refine congrArg (Option.bind _) (funext fun x2 => ?_)
  refine (ss_iload_n rfl rfl).trans ?_
  refine (ss_aload_n rfl rfl).trans ?_
  refine (ss_getI rfl).trans ?_
  refine congrArg (Option.bind _) (funext fun x3 => ?_)
  refine (ss_if_le rfl).trans ?_
  refine pv_ite ?_ ?_
  · refine (ss_iload_n rfl rfl).trans ?_
    rfl
  · refine (ss_aload_n rfl rfl).trans ?_
    refine (ss_getR rfl).trans ?_
    refine congrArg (Option.bind _) (funext fun x4 => ?_)
    refine (ss_iload_n rfl rfl).trans ?_
    refine (ss_iaload rfl).trans ?_
    refine congrArg (Option.bind _) (funext fun x5 => ?_)
    refine (ss_goto rfl).trans ?_
    rfl
set_option maxRecDepth 8000 in
theorem u_Md_readLine_108 (X : pv_X) (v0 : Nat) (v1 : Int32) (v2 : Int32) (v3 : Int32) (s0 : Int32) (s1 : Int32) (s2 : Nat) (h : pv_H) : f_Md_readLine_108 X v0 v1 v2 v3 s0 s1 s2 h =
    (pv_sI h s2 s1 s0).bind (fun h1 => f_Md_readLine_200 X v0 (some (.int v1)) (some (.int v2)) (some (.int v3)) h1) := by
  show pS X 45 (none) k_Md_readLine 108 [some (.ref v0), some (.int v1), some (.int v2), some (.int v3)] [.int s0, .int s1, .ref s2] h = _
  refine (ss_iastore rfl).trans ?_
  refine congrArg (Option.bind _) (funext fun h1 => ?_)
  refine (ss_goto rfl).trans ?_
  rfl
set_option maxRecDepth 8000 in
theorem u_Md_readLine_158 (X : pv_X) (v0 : Nat) (v1 : Int32) (s0 : Int32) (s1 : Nat) (h : pv_H) : f_Md_readLine_158 X v0 v1 s0 s1 h =
    if pv_rc h s1 11 = true then (pv_tV (pM X m_Md_takes [.ref s1, .int s0] h)).bind (fun h1 => if pv_rc h1 v0 11 = true then (pv_tI (pM X m_Md_takeNumber [.ref v0, .int 0, .int 719] h1)).bind (fun q2 => (pv_fR q2.2 v0 11 10).bind (fun x3 => (pv_fI q2.2 v0 11 8).bind (fun x4 => if x4 ≤ 0 then f_Md_readLine_192 X v0 v1 q2.1 q2.1 v1 x3 q2.2 else (pv_fR q2.2 v0 11 10).bind (fun x5 => (pv_aX X q2.2 x5 v1).bind (fun x6 => f_Md_readLine_192 X v0 v1 q2.1 x6 v1 x3 q2.2))))) else none) else none := by
  show pS X 45 (none) k_Md_readLine 158 [some (.ref v0), some (.int v1), none, none] [.int s0, .ref s1] h = _
  refine (ss_callVN (as := [.int s0]) rfl t_Md_takes (by decide) rfl rfl (by decide) rfl ⟨Nat.le_of_ble_eq_true rfl, Nat.le_of_ble_eq_true rfl⟩).trans ?_
  refine pv_ite ?_ rfl
  refine congrArg (Option.bind _) (funext fun h1 => ?_)
  refine (ss_aload_n rfl rfl).trans ?_
  refine (ss_iconst rfl (v := 0) rfl).trans ?_
  refine (ss_sipush rfl (v := 719) rfl).trans ?_
  refine (ss_callVI (as := [.int 0, .int 719]) rfl t_Md_takeNumber (by decide) rfl rfl (by decide) (Or.inl rfl) ⟨Nat.le_of_ble_eq_true rfl, Nat.le_of_ble_eq_true rfl⟩).trans ?_
  refine pv_ite ?_ rfl
  refine congrArg (Option.bind _) (funext fun q2 => ?_)
  refine (ss_istore_n rfl rfl).trans ?_
  refine (ss_aload_n rfl rfl).trans ?_
  refine (ss_getR rfl).trans ?_
  refine congrArg (Option.bind _) (funext fun x3 => ?_)
  refine (ss_iload_n rfl rfl).trans ?_
  refine (ss_aload_n rfl rfl).trans ?_
  refine (ss_getI rfl).trans ?_
  refine congrArg (Option.bind _) (funext fun x4 => ?_)
  refine (ss_if_le rfl).trans ?_
  refine pv_ite ?_ ?_
  · refine (ss_iload_n rfl rfl).trans ?_
    rfl
  · refine (ss_aload_n rfl rfl).trans ?_
    refine (ss_getR rfl).trans ?_
    refine congrArg (Option.bind _) (funext fun x5 => ?_)
    refine (ss_iload_n rfl rfl).trans ?_
    refine (ss_iaload rfl).trans ?_
    refine congrArg (Option.bind _) (funext fun x6 => ?_)
    refine (ss_goto rfl).trans ?_
    rfl
set_option maxRecDepth 8000 in
theorem u_Md_readLine_192 (X : pv_X) (v0 : Nat) (v1 : Int32) (v2 : Int32) (s0 : Int32) (s1 : Int32) (s2 : Nat) (h : pv_H) : f_Md_readLine_192 X v0 v1 v2 s0 s1 s2 h =
    (pv_sI h s2 s1 s0).bind (fun h1 => f_Md_readLine_200 X v0 (some (.int v1)) (some (.int v2)) none h1) := by
  show pS X 45 (none) k_Md_readLine 192 [some (.ref v0), some (.int v1), some (.int v2), none] [.int s0, .int s1, .ref s2] h = _
  refine (ss_iastore rfl).trans ?_
  refine congrArg (Option.bind _) (funext fun h1 => ?_)
  refine (ss_goto rfl).trans ?_
  rfl
set_option maxRecDepth 8000 in
theorem u_Md_readLine_200 (X : pv_X) (v0 : Nat) (o1 : Option Value) (o2 : Option Value) (o3 : Option Value) (h : pv_H) : f_Md_readLine_200 X v0 o1 o2 o3 h =
    some (none, h) := by
  show pS X 45 (none) k_Md_readLine 200 [some (.ref v0), o1, o2, o3] [] h = _
  exact ss_return rfl
theorem e_Md_readLine (X : pv_X) (v0 : Nat) (h : pv_H) : pM X m_Md_readLine [.ref v0] h = f_Md_readLine_0 X v0 h := rfl
noncomputable def f_Md_readPerson_0 (X : pv_X) (v0 : Nat) (h : pv_H) : Option pv_O := pS X 4 (none) k_Md_readPerson 0 [some (.ref v0), none, none, none, none, none] [] h
noncomputable def f_Md_readPerson_53 (X : pv_X) (v0 : Nat) (h : pv_H) : Option pv_O := pS X 4 (none) k_Md_readPerson 53 [some (.ref v0), none, none, none, none, none] [] h
noncomputable def f_Md_readPerson_173 (X : pv_X) (v0 : Nat) (v1 : Int64) (v3 : Int32) (v4 : Int32) (o5 : Option Value) (h : pv_H) : Option pv_O := pS X 4 (none) k_Md_readPerson 173 [some (.ref v0), some (.long v1), none, some (.int v3), some (.int v4), o5] [] h
set_option maxRecDepth 8000 in
theorem u_Md_readPerson_0 (X : pv_X) (v0 : Nat) (h : pv_H) : f_Md_readPerson_0 X v0 h =
    (pv_fI h v0 11 17).bind (fun x1 => if ¬ x1 = 6 then (pv_fI h v0 11 7).bind (fun x2 => (pv_fp h v0 11 7 (.int (x2 + 1))).bind (fun h3 => if pv_rc h3 v0 11 = true then (pv_tI (pM X m_Md_isName [.ref v0] h3)).bind (fun q4 => if ¬ q4.1 = 0 then if pv_rc q4.2 v0 11 = true then (pv_tI (pM X m_Md_nameAt [.ref v0, .int 1] q4.2)).bind (fun q5 => if q5.1 < 0 then f_Md_readPerson_53 X v0 q5.2 else if pv_rc q5.2 v0 11 = true then (pv_tV (pM X m_Md_wrong [.ref v0, .int 3] q5.2)).bind (fun h6 => f_Md_readPerson_53 X v0 h6) else none) else none else if pv_rc q4.2 v0 11 = true then (pv_tV (pM X m_Md_wrong [.ref v0, .int 1] q4.2)).bind (fun h7 => f_Md_readPerson_53 X v0 h7) else none) else none)) else if pv_rc h v0 11 = true then (pv_tV (pM X m_Md_wrong [.ref v0, .int 5] h)).bind (fun h8 => some (none, h8)) else none) := by
  show pS X 4 (none) k_Md_readPerson 0 [some (.ref v0), none, none, none, none, none] [] h = _
  refine (ss_aload_n rfl rfl).trans ?_
  refine (ss_getI rfl).trans ?_
  refine congrArg (Option.bind _) (funext fun x1 => ?_)
  refine (ss_bipush rfl (v := 6) rfl).trans ?_
  refine (ss_icmp_ne rfl).trans ?_
  refine pv_ite ?_ ?_
  · refine (ss_aload_n rfl rfl).trans ?_
    refine (ss_dupR rfl).trans ?_
    refine (ss_getI rfl).trans ?_
    refine congrArg (Option.bind _) (funext fun x2 => ?_)
    refine (ss_iconst rfl (v := 1) rfl).trans ?_
    refine (ss_iadd rfl).trans ?_
    refine (ss_putI rfl).trans ?_
    refine congrArg (Option.bind _) (funext fun h3 => ?_)
    refine (ss_aload_n rfl rfl).trans ?_
    refine (ss_callVI (as := []) rfl t_Md_isName (by decide) rfl rfl (by decide) (Or.inr rfl) ⟨Nat.le_of_ble_eq_true rfl, Nat.le_of_ble_eq_true rfl⟩).trans ?_
    refine pv_ite ?_ rfl
    refine congrArg (Option.bind _) (funext fun q4 => ?_)
    refine (ss_if_ne rfl).trans ?_
    refine pv_ite ?_ ?_
    · refine (ss_aload_n rfl rfl).trans ?_
      refine (ss_iconst rfl (v := 1) rfl).trans ?_
      refine (ss_callVI (as := [.int 1]) rfl t_Md_nameAt (by decide) rfl rfl (by decide) (Or.inl rfl) ⟨Nat.le_of_ble_eq_true rfl, Nat.le_of_ble_eq_true rfl⟩).trans ?_
      refine pv_ite ?_ rfl
      refine congrArg (Option.bind _) (funext fun q5 => ?_)
      refine (ss_if_lt rfl).trans ?_
      refine pv_ite ?_ ?_
      · rfl
      · refine (ss_aload_n rfl rfl).trans ?_
        refine (ss_iconst rfl (v := 3) rfl).trans ?_
        refine (ss_callVN (as := [.int 3]) rfl t_Md_wrong (by decide) rfl rfl (by decide) rfl ⟨Nat.le_of_ble_eq_true rfl, Nat.le_of_ble_eq_true rfl⟩).trans ?_
        refine pv_ite ?_ rfl
        refine congrArg (Option.bind _) (funext fun h6 => ?_)
        rfl
    · refine (ss_aload_n rfl rfl).trans ?_
      refine (ss_iconst rfl (v := 1) rfl).trans ?_
      refine (ss_callVN (as := [.int 1]) rfl t_Md_wrong (by decide) rfl rfl (by decide) rfl ⟨Nat.le_of_ble_eq_true rfl, Nat.le_of_ble_eq_true rfl⟩).trans ?_
      refine pv_ite ?_ rfl
      refine congrArg (Option.bind _) (funext fun h7 => ?_)
      refine (ss_goto rfl).trans ?_
      rfl
  · refine (ss_aload_n rfl rfl).trans ?_
    refine (ss_iconst rfl (v := 5) rfl).trans ?_
    refine (ss_callVN (as := [.int 5]) rfl t_Md_wrong (by decide) rfl rfl (by decide) rfl ⟨Nat.le_of_ble_eq_true rfl, Nat.le_of_ble_eq_true rfl⟩).trans ?_
    refine pv_ite ?_ rfl
    refine congrArg (Option.bind _) (funext fun h8 => ?_)
    exact ss_return rfl
set_option maxRecDepth 8000 in
theorem u_Md_readPerson_53 (X : pv_X) (v0 : Nat) (h : pv_H) : f_Md_readPerson_53 X v0 h =
    (pv_fI h v0 11 8).bind (fun x1 => if x1 ≤ 0 then (pv_fR h v0 11 6).bind (fun x2 => (pv_fI h v0 11 7).bind (fun x3 => (pv_aJ h x2 x3).bind (fun x4 => (pv_fI h v0 11 7).bind (fun x5 => (pv_fp h v0 11 7 (.int (x5 + 1))).bind (fun h6 => if pv_rc h6 v0 11 = true then (pv_tI (pM X m_Md_takeOne [.ref v0, .int 9, .int 4] h6)).bind (fun q7 => if pv_rc q7.2 v0 11 = true then (pv_tV (pM X m_Md_takeWord [.ref v0, .int 1] q7.2)).bind (fun h8 => if pv_rc h8 v0 11 = true then (pv_tI (pM X m_Md_takeNumber [.ref v0, .int 20, .int 160] h8)).bind (fun q9 => (pv_fI q9.2 v0 11 8).bind (fun x10 => if ¬ x10 = 0 then f_Md_readPerson_173 X v0 x4 q7.1 q9.1 none q9.2 else (pv_fI q9.2 v0 11 17).bind (fun x11 => (pv_fR q9.2 v0 11 10).bind (fun x12 => (pv_sI q9.2 x12 (32 + (4 * x11)) q7.1).bind (fun h13 => (pv_fR h13 v0 11 10).bind (fun x14 => (pv_sI h13 x14 ((32 + (4 * x11)) + 1) q9.1).bind (fun h15 => (pv_fR h15 v0 11 15).bind (fun x16 => (pv_fI h15 v0 11 17).bind (fun x17 => (pv_sJ h15 x16 x17 x4).bind (fun h18 => (pv_fI h18 v0 11 17).bind (fun x19 => (pv_fp h18 v0 11 17 (.int (x19 + 1))).bind (fun h20 => (pv_fR h20 v0 11 10).bind (fun x21 => (pv_fI h20 v0 11 17).bind (fun x22 => (pv_sI h20 x21 30 x22).bind (fun h23 => f_Md_readPerson_173 X v0 x4 q7.1 q9.1 (some (.int (32 + (4 * x11)))) h23))))))))))))))) else none) else none) else none))))) else some (none, h)) := by
  show pS X 4 (none) k_Md_readPerson 53 [some (.ref v0), none, none, none, none, none] [] h = _
  refine (ss_aload_n rfl rfl).trans ?_
  refine (ss_getI rfl).trans ?_
  refine congrArg (Option.bind _) (funext fun x1 => ?_)
  refine (ss_if_le rfl).trans ?_
  refine pv_ite ?_ ?_
  · refine (ss_aload_n rfl rfl).trans ?_
    refine (ss_getR rfl).trans ?_
    refine congrArg (Option.bind _) (funext fun x2 => ?_)
    refine (ss_aload_n rfl rfl).trans ?_
    refine (ss_getI rfl).trans ?_
    refine congrArg (Option.bind _) (funext fun x3 => ?_)
    refine (ss_laload rfl).trans ?_
    refine congrArg (Option.bind _) (funext fun x4 => ?_)
    refine (ss_lstore_n rfl rfl).trans ?_
    refine (ss_aload_n rfl rfl).trans ?_
    refine (ss_dupR rfl).trans ?_
    refine (ss_getI rfl).trans ?_
    refine congrArg (Option.bind _) (funext fun x5 => ?_)
    refine (ss_iconst rfl (v := 1) rfl).trans ?_
    refine (ss_iadd rfl).trans ?_
    refine (ss_putI rfl).trans ?_
    refine congrArg (Option.bind _) (funext fun h6 => ?_)
    refine (ss_aload_n rfl rfl).trans ?_
    refine (ss_bipush rfl (v := 9) rfl).trans ?_
    refine (ss_iconst rfl (v := 4) rfl).trans ?_
    refine (ss_callVI (as := [.int 9, .int 4]) rfl t_Md_takeOne (by decide) rfl rfl (by decide) (Or.inl rfl) ⟨Nat.le_of_ble_eq_true rfl, Nat.le_of_ble_eq_true rfl⟩).trans ?_
    refine pv_ite ?_ rfl
    refine congrArg (Option.bind _) (funext fun q7 => ?_)
    refine (ss_istore_n rfl rfl).trans ?_
    refine (ss_aload_n rfl rfl).trans ?_
    refine (ss_iconst rfl (v := 1) rfl).trans ?_
    refine (ss_callVN (as := [.int 1]) rfl t_Md_takeWord (by decide) rfl rfl (by decide) rfl ⟨Nat.le_of_ble_eq_true rfl, Nat.le_of_ble_eq_true rfl⟩).trans ?_
    refine pv_ite ?_ rfl
    refine congrArg (Option.bind _) (funext fun h8 => ?_)
    refine (ss_aload_n rfl rfl).trans ?_
    refine (ss_bipush rfl (v := 20) rfl).trans ?_
    refine (ss_sipush rfl (v := 160) rfl).trans ?_
    refine (ss_callVI (as := [.int 20, .int 160]) rfl t_Md_takeNumber (by decide) rfl rfl (by decide) (Or.inl rfl) ⟨Nat.le_of_ble_eq_true rfl, Nat.le_of_ble_eq_true rfl⟩).trans ?_
    refine pv_ite ?_ rfl
    refine congrArg (Option.bind _) (funext fun q9 => ?_)
    refine (ss_istore rfl rfl).trans ?_
    refine (ss_aload_n rfl rfl).trans ?_
    refine (ss_getI rfl).trans ?_
    refine congrArg (Option.bind _) (funext fun x10 => ?_)
    refine (ss_if_ne rfl).trans ?_
    refine pv_ite ?_ ?_
    · rfl
    · refine (ss_bipush rfl (v := 32) rfl).trans ?_
      refine (ss_iconst rfl (v := 4) rfl).trans ?_
      refine (ss_aload_n rfl rfl).trans ?_
      refine (ss_getI rfl).trans ?_
      refine congrArg (Option.bind _) (funext fun x11 => ?_)
      refine (ss_imul rfl).trans ?_
      refine (ss_iadd rfl).trans ?_
      refine (ss_istore rfl rfl).trans ?_
      refine (ss_aload_n rfl rfl).trans ?_
      refine (ss_getR rfl).trans ?_
      refine congrArg (Option.bind _) (funext fun x12 => ?_)
      refine (ss_iload rfl rfl).trans ?_
      refine (ss_iload_n rfl rfl).trans ?_
      refine (ss_iastore rfl).trans ?_
      refine congrArg (Option.bind _) (funext fun h13 => ?_)
      refine (ss_aload_n rfl rfl).trans ?_
      refine (ss_getR rfl).trans ?_
      refine congrArg (Option.bind _) (funext fun x14 => ?_)
      refine (ss_iload rfl rfl).trans ?_
      refine (ss_iconst rfl (v := 1) rfl).trans ?_
      refine (ss_iadd rfl).trans ?_
      refine (ss_iload rfl rfl).trans ?_
      refine (ss_iastore rfl).trans ?_
      refine congrArg (Option.bind _) (funext fun h15 => ?_)
      refine (ss_aload_n rfl rfl).trans ?_
      refine (ss_getR rfl).trans ?_
      refine congrArg (Option.bind _) (funext fun x16 => ?_)
      refine (ss_aload_n rfl rfl).trans ?_
      refine (ss_getI rfl).trans ?_
      refine congrArg (Option.bind _) (funext fun x17 => ?_)
      refine (ss_lload_n rfl rfl).trans ?_
      refine (ss_lastore rfl).trans ?_
      refine congrArg (Option.bind _) (funext fun h18 => ?_)
      refine (ss_aload_n rfl rfl).trans ?_
      refine (ss_dupR rfl).trans ?_
      refine (ss_getI rfl).trans ?_
      refine congrArg (Option.bind _) (funext fun x19 => ?_)
      refine (ss_iconst rfl (v := 1) rfl).trans ?_
      refine (ss_iadd rfl).trans ?_
      refine (ss_putI rfl).trans ?_
      refine congrArg (Option.bind _) (funext fun h20 => ?_)
      refine (ss_aload_n rfl rfl).trans ?_
      refine (ss_getR rfl).trans ?_
      refine congrArg (Option.bind _) (funext fun x21 => ?_)
      refine (ss_bipush rfl (v := 30) rfl).trans ?_
      refine (ss_aload_n rfl rfl).trans ?_
      refine (ss_getI rfl).trans ?_
      refine congrArg (Option.bind _) (funext fun x22 => ?_)
      refine (ss_iastore rfl).trans ?_
      refine congrArg (Option.bind _) (funext fun h23 => ?_)
      rfl
  · exact ss_return rfl
set_option maxRecDepth 8000 in
theorem u_Md_readPerson_173 (X : pv_X) (v0 : Nat) (v1 : Int64) (v3 : Int32) (v4 : Int32) (o5 : Option Value) (h : pv_H) : f_Md_readPerson_173 X v0 v1 v3 v4 o5 h =
    some (none, h) := by
  show pS X 4 (none) k_Md_readPerson 173 [some (.ref v0), some (.long v1), none, some (.int v3), some (.int v4), o5] [] h = _
  exact ss_return rfl
theorem e_Md_readPerson (X : pv_X) (v0 : Nat) (h : pv_H) : pM X m_Md_readPerson [.ref v0] h = f_Md_readPerson_0 X v0 h := rfl
noncomputable def f_Md_readMoods_0 (X : pv_X) (v0 : Nat) (h : pv_H) : Option pv_O := pS X 44 (none) k_Md_readMoods 0 [some (.ref v0)] [] h
noncomputable def f_Md_readMoods_31 (X : pv_X) (v0 : Nat) (h : pv_H) : Option pv_O := pS X 44 (none) k_Md_readMoods 31 [some (.ref v0)] [] h
set_option maxRecDepth 8000 in
theorem u_Md_readMoods_0 (X : pv_X) (v0 : Nat) (h : pv_H) : f_Md_readMoods_0 X v0 h =
    if pv_rc h v0 11 = true then (pv_tI (pM X m_Md_isWord [.ref v0, .int 4] h)).bind (fun q1 => if ¬ q1.1 = 0 then (pv_fR q1.2 v0 11 10).bind (fun x2 => (pv_aX X q1.2 x2 31).bind (fun x3 => if x3 < 0 then f_Md_readMoods_31 X v0 q1.2 else if pv_rc q1.2 v0 11 = true then (pv_tV (pM X m_Md_wrong [.ref v0, .int 3] q1.2)).bind (fun h4 => f_Md_readMoods_31 X v0 h4) else none)) else if pv_rc q1.2 v0 11 = true then (pv_tV (pM X m_Md_wrong [.ref v0, .int 1] q1.2)).bind (fun h5 => f_Md_readMoods_31 X v0 h5) else none) else none := by
  show pS X 44 (none) k_Md_readMoods 0 [some (.ref v0)] [] h = _
  refine (ss_aload_n rfl rfl).trans ?_
  refine (ss_iconst rfl (v := 4) rfl).trans ?_
  refine (ss_callVI (as := [.int 4]) rfl t_Md_isWord (by decide) rfl rfl (by decide) (Or.inr rfl) ⟨Nat.le_of_ble_eq_true rfl, Nat.le_of_ble_eq_true rfl⟩).trans ?_
  refine pv_ite ?_ rfl
  refine congrArg (Option.bind _) (funext fun q1 => ?_)
  refine (ss_if_ne rfl).trans ?_
  refine pv_ite ?_ ?_
  · refine (ss_aload_n rfl rfl).trans ?_
    refine (ss_getR rfl).trans ?_
    refine congrArg (Option.bind _) (funext fun x2 => ?_)
    refine (ss_bipush rfl (v := 31) rfl).trans ?_
    refine (ss_iaload rfl).trans ?_
    refine congrArg (Option.bind _) (funext fun x3 => ?_)
    refine (ss_if_lt rfl).trans ?_
    refine pv_ite ?_ ?_
    · rfl
    · refine (ss_aload_n rfl rfl).trans ?_
      refine (ss_iconst rfl (v := 3) rfl).trans ?_
      refine (ss_callVN (as := [.int 3]) rfl t_Md_wrong (by decide) rfl rfl (by decide) rfl ⟨Nat.le_of_ble_eq_true rfl, Nat.le_of_ble_eq_true rfl⟩).trans ?_
      refine pv_ite ?_ rfl
      refine congrArg (Option.bind _) (funext fun h4 => ?_)
      rfl
  · refine (ss_aload_n rfl rfl).trans ?_
    refine (ss_iconst rfl (v := 1) rfl).trans ?_
    refine (ss_callVN (as := [.int 1]) rfl t_Md_wrong (by decide) rfl rfl (by decide) rfl ⟨Nat.le_of_ble_eq_true rfl, Nat.le_of_ble_eq_true rfl⟩).trans ?_
    refine pv_ite ?_ rfl
    refine congrArg (Option.bind _) (funext fun h5 => ?_)
    refine (ss_goto rfl).trans ?_
    rfl
set_option maxRecDepth 8000 in
theorem u_Md_readMoods_31 (X : pv_X) (v0 : Nat) (h : pv_H) : f_Md_readMoods_31 X v0 h =
    (pv_fI h v0 11 8).bind (fun x1 => if x1 ≤ 0 then (pv_fI h v0 11 7).bind (fun x2 => (pv_fp h v0 11 7 (.int (x2 + 1))).bind (fun h3 => (pv_fR h3 v0 11 10).bind (fun x4 => (pv_fI h3 v0 11 13).bind (fun x5 => (pv_sI h3 x4 31 x5).bind (fun h6 => if pv_rc h6 v0 11 = true then (pv_tV (pM X m_Md_whole [.ref v0, .int 0] h6)).bind (fun h7 => if pv_rc h7 v0 11 = true then (pv_tV (pM X m_Md_emit [.ref v0, .int 0, .int 0] h7)).bind (fun h8 => some (none, h8)) else none) else none))))) else some (none, h)) := by
  show pS X 44 (none) k_Md_readMoods 31 [some (.ref v0)] [] h = _
  refine (ss_aload_n rfl rfl).trans ?_
  refine (ss_getI rfl).trans ?_
  refine congrArg (Option.bind _) (funext fun x1 => ?_)
  refine (ss_if_le rfl).trans ?_
  refine pv_ite ?_ ?_
  · refine (ss_aload_n rfl rfl).trans ?_
    refine (ss_dupR rfl).trans ?_
    refine (ss_getI rfl).trans ?_
    refine congrArg (Option.bind _) (funext fun x2 => ?_)
    refine (ss_iconst rfl (v := 1) rfl).trans ?_
    refine (ss_iadd rfl).trans ?_
    refine (ss_putI rfl).trans ?_
    refine congrArg (Option.bind _) (funext fun h3 => ?_)
    refine (ss_aload_n rfl rfl).trans ?_
    refine (ss_getR rfl).trans ?_
    refine congrArg (Option.bind _) (funext fun x4 => ?_)
    refine (ss_bipush rfl (v := 31) rfl).trans ?_
    refine (ss_aload_n rfl rfl).trans ?_
    refine (ss_getI rfl).trans ?_
    refine congrArg (Option.bind _) (funext fun x5 => ?_)
    refine (ss_iastore rfl).trans ?_
    refine congrArg (Option.bind _) (funext fun h6 => ?_)
    refine (ss_aload_n rfl rfl).trans ?_
    refine (ss_iconst rfl (v := 0) rfl).trans ?_
    refine (ss_callVN (as := [.int 0]) rfl t_Md_whole (by decide) rfl rfl (by decide) rfl ⟨Nat.le_of_ble_eq_true rfl, Nat.le_of_ble_eq_true rfl⟩).trans ?_
    refine pv_ite ?_ rfl
    refine congrArg (Option.bind _) (funext fun h7 => ?_)
    refine (ss_aload_n rfl rfl).trans ?_
    refine (ss_iconst rfl (v := 0) rfl).trans ?_
    refine (ss_iconst rfl (v := 0) rfl).trans ?_
    refine (ss_callVN (as := [.int 0, .int 0]) rfl t_Md_emit (by decide) rfl rfl (by decide) rfl ⟨Nat.le_of_ble_eq_true rfl, Nat.le_of_ble_eq_true rfl⟩).trans ?_
    refine pv_ite ?_ rfl
    refine congrArg (Option.bind _) (funext fun h8 => ?_)
    exact ss_return rfl
  · exact ss_return rfl
theorem e_Md_readMoods (X : pv_X) (v0 : Nat) (h : pv_H) : pM X m_Md_readMoods [.ref v0] h = f_Md_readMoods_0 X v0 h := rfl
noncomputable def f_Md_day_0 (X : pv_X) (v0 : Nat) (h : pv_H) : Option pv_O := pS X 6 (some .int) k_Md_day 0 [some (.ref v0), none, none] [] h
noncomputable def f_Md_day_11 (X : pv_X) (v0 : Nat) (v1 : Int32) (o2 : Option Value) (h : pv_H) : Option pv_O := pS X 6 (some .int) k_Md_day 11 [some (.ref v0), some (.int v1), o2] [] h
noncomputable def f_Md_day_87 (X : pv_X) (v0 : Nat) (v1 : Int32) (v2 : Int32) (h : pv_H) : Option pv_O := pS X 6 (some .int) k_Md_day 87 [some (.ref v0), some (.int v1), some (.int v2)] [] h
noncomputable def f_Md_day_96 (X : pv_X) (v0 : Nat) (v1 : Int32) (o2 : Option Value) (h : pv_H) : Option pv_O := pS X 6 (some .int) k_Md_day 96 [some (.ref v0), some (.int v1), o2] [] h
noncomputable def f_Md_day_117 (X : pv_X) (v0 : Nat) (v1 : Int32) (v2 : Int32) (h : pv_H) : Option pv_O := pS X 6 (some .int) k_Md_day 117 [some (.ref v0), some (.int v1), some (.int v2)] [] h
set_option maxRecDepth 8000 in
theorem u_Md_day_0 (X : pv_X) (v0 : Nat) (h : pv_H) : f_Md_day_0 X v0 h =
    (pv_fp h v0 11 0 (.int 0)).bind (fun h1 => if pv_rc h1 v0 11 = true then (pv_tV (pM X m_Md_cutAll [.ref v0] h1)).bind (fun h2 => f_Md_day_11 X v0 0 none h2) else none) := by
  show pS X 6 (some .int) k_Md_day 0 [some (.ref v0), none, none] [] h = _
  refine (ss_aload_n rfl rfl).trans ?_
  refine (ss_iconst rfl (v := 0) rfl).trans ?_
  refine (ss_putI rfl).trans ?_
  refine congrArg (Option.bind _) (funext fun h1 => ?_)
  refine (ss_aload_n rfl rfl).trans ?_
  refine (ss_callVN (as := []) rfl t_Md_cutAll (by decide) rfl rfl (by decide) rfl ⟨Nat.le_of_ble_eq_true rfl, Nat.le_of_ble_eq_true rfl⟩).trans ?_
  refine pv_ite ?_ rfl
  refine congrArg (Option.bind _) (funext fun h2 => ?_)
  refine (ss_iconst rfl (v := 0) rfl).trans ?_
  refine (ss_istore_n rfl rfl).trans ?_
  rfl
set_option maxRecDepth 8000 in
theorem u_Md_day_11 (X : pv_X) (v0 : Nat) (v1 : Int32) (o2 : Option Value) (h : pv_H) : f_Md_day_11 X v0 v1 o2 h =
    (pv_fI h v0 11 8).bind (fun x1 => if ¬ x1 = 0 then f_Md_day_96 X v0 v1 o2 h else (pv_fR h v0 11 4).bind (fun x2 => (pv_fI h v0 11 7).bind (fun x3 => (pv_aX X h x2 x3).bind (fun x4 => if x4 = 0 then f_Md_day_96 X v0 v1 o2 h else if pv_rc h v0 11 = true then (pv_tI (pM X m_Md_wordHere [.ref v0, .int 5, .int 4] h)).bind (fun q5 => if 0 ≤ q5.1 then if ¬ v1 = 40 then (pv_fI q5.2 v0 11 7).bind (fun x6 => (pv_fp q5.2 v0 11 7 (.int (x6 + 1))).bind (fun h7 => if pv_rc h7 v0 11 = true then (pv_tV (pM X m_Md_readDay [.ref v0, .int (125 + (3 * v1)), .int q5.1] h7)).bind (fun h8 => f_Md_day_87 X v0 (v1 + 1) q5.1 h8) else none)) else if pv_rc q5.2 v0 11 = true then (pv_tV (pM X m_Md_wrong [.ref v0, .int 5] q5.2)).bind (fun h9 => f_Md_day_87 X v0 v1 q5.1 h9) else none else if pv_rc q5.2 v0 11 = true then (pv_tV (pM X m_Md_wrong [.ref v0, .int 1] q5.2)).bind (fun h10 => f_Md_day_87 X v0 v1 q5.1 h10) else none) else none)))) := by
  show pS X 6 (some .int) k_Md_day 11 [some (.ref v0), some (.int v1), o2] [] h = _
  refine (ss_aload_n rfl rfl).trans ?_
  refine (ss_getI rfl).trans ?_
  refine congrArg (Option.bind _) (funext fun x1 => ?_)
  refine (ss_if_ne rfl).trans ?_
  refine pv_ite ?_ ?_
  · rfl
  · refine (ss_aload_n rfl rfl).trans ?_
    refine (ss_getR rfl).trans ?_
    refine congrArg (Option.bind _) (funext fun x2 => ?_)
    refine (ss_aload_n rfl rfl).trans ?_
    refine (ss_getI rfl).trans ?_
    refine congrArg (Option.bind _) (funext fun x3 => ?_)
    refine (ss_iaload rfl).trans ?_
    refine congrArg (Option.bind _) (funext fun x4 => ?_)
    refine (ss_if_eq rfl).trans ?_
    refine pv_ite ?_ ?_
    · rfl
    · refine (ss_aload_n rfl rfl).trans ?_
      refine (ss_iconst rfl (v := 5) rfl).trans ?_
      refine (ss_iconst rfl (v := 4) rfl).trans ?_
      refine (ss_callVI (as := [.int 5, .int 4]) rfl t_Md_wordHere (by decide) rfl rfl (by decide) (Or.inl rfl) ⟨Nat.le_of_ble_eq_true rfl, Nat.le_of_ble_eq_true rfl⟩).trans ?_
      refine pv_ite ?_ rfl
      refine congrArg (Option.bind _) (funext fun q5 => ?_)
      refine (ss_istore_n rfl rfl).trans ?_
      refine (ss_iload_n rfl rfl).trans ?_
      refine (ss_if_ge rfl).trans ?_
      refine pv_ite ?_ ?_
      · refine (ss_iload_n rfl rfl).trans ?_
        refine (ss_bipush rfl (v := 40) rfl).trans ?_
        refine (ss_icmp_ne rfl).trans ?_
        refine pv_ite ?_ ?_
        · refine (ss_aload_n rfl rfl).trans ?_
          refine (ss_dupR rfl).trans ?_
          refine (ss_getI rfl).trans ?_
          refine congrArg (Option.bind _) (funext fun x6 => ?_)
          refine (ss_iconst rfl (v := 1) rfl).trans ?_
          refine (ss_iadd rfl).trans ?_
          refine (ss_putI rfl).trans ?_
          refine congrArg (Option.bind _) (funext fun h7 => ?_)
          refine (ss_aload_n rfl rfl).trans ?_
          refine (ss_bipush rfl (v := 125) rfl).trans ?_
          refine (ss_iconst rfl (v := 3) rfl).trans ?_
          refine (ss_iload_n rfl rfl).trans ?_
          refine (ss_imul rfl).trans ?_
          refine (ss_iadd rfl).trans ?_
          refine (ss_iload_n rfl rfl).trans ?_
          refine (ss_callVN (as := [.int (125 + (3 * v1)), .int q5.1]) rfl t_Md_readDay (by decide) rfl rfl (by decide) rfl ⟨Nat.le_of_ble_eq_true rfl, Nat.le_of_ble_eq_true rfl⟩).trans ?_
          refine pv_ite ?_ rfl
          refine congrArg (Option.bind _) (funext fun h8 => ?_)
          refine (ss_iinc3 rfl rfl (v := v1 + 1) (congrArg (HAdd.hAdd _) (show Int32.ofInt (1) = 1 by decide)) rfl).trans ?_
          rfl
        · refine (ss_aload_n rfl rfl).trans ?_
          refine (ss_iconst rfl (v := 5) rfl).trans ?_
          refine (ss_callVN (as := [.int 5]) rfl t_Md_wrong (by decide) rfl rfl (by decide) rfl ⟨Nat.le_of_ble_eq_true rfl, Nat.le_of_ble_eq_true rfl⟩).trans ?_
          refine pv_ite ?_ rfl
          refine congrArg (Option.bind _) (funext fun h9 => ?_)
          refine (ss_goto rfl).trans ?_
          rfl
      · refine (ss_aload_n rfl rfl).trans ?_
        refine (ss_iconst rfl (v := 1) rfl).trans ?_
        refine (ss_callVN (as := [.int 1]) rfl t_Md_wrong (by decide) rfl rfl (by decide) rfl ⟨Nat.le_of_ble_eq_true rfl, Nat.le_of_ble_eq_true rfl⟩).trans ?_
        refine pv_ite ?_ rfl
        refine congrArg (Option.bind _) (funext fun h10 => ?_)
        refine (ss_goto rfl).trans ?_
        rfl
set_option maxRecDepth 8000 in
theorem u_Md_day_87 (X : pv_X) (v0 : Nat) (v1 : Int32) (v2 : Int32) (h : pv_H) : f_Md_day_87 X v0 v1 v2 h =
    if pv_rc h v0 11 = true then (pv_tV (pM X m_Md_takeSign [.ref v0, .int 59] h)).bind (fun h1 => f_Md_day_11 X v0 v1 (some (.int v2)) h1) else none := by
  show pS X 6 (some .int) k_Md_day 87 [some (.ref v0), some (.int v1), some (.int v2)] [] h = _
  refine (ss_aload_n rfl rfl).trans ?_
  refine (ss_bipush rfl (v := 59) rfl).trans ?_
  refine (ss_callVN (as := [.int 59]) rfl t_Md_takeSign (by decide) rfl rfl (by decide) rfl ⟨Nat.le_of_ble_eq_true rfl, Nat.le_of_ble_eq_true rfl⟩).trans ?_
  refine pv_ite ?_ rfl
  refine congrArg (Option.bind _) (funext fun h1 => ?_)
  refine (ss_goto rfl).trans ?_
  rfl
set_option maxRecDepth 8000 in
theorem u_Md_day_96 (X : pv_X) (v0 : Nat) (v1 : Int32) (o2 : Option Value) (h : pv_H) : f_Md_day_96 X v0 v1 o2 h =
    (pv_fI h v0 11 8).bind (fun x1 => if x1 ≤ 0 then (pv_fR h v0 11 18).bind (fun x2 => (pv_sI h x2 0 v1).bind (fun h3 => f_Md_day_117 X v0 v1 0 h3)) else (pv_fI h v0 11 8).bind (fun x4 => some (some (.int x4), h))) := by
  show pS X 6 (some .int) k_Md_day 96 [some (.ref v0), some (.int v1), o2] [] h = _
  refine (ss_aload_n rfl rfl).trans ?_
  refine (ss_getI rfl).trans ?_
  refine congrArg (Option.bind _) (funext fun x1 => ?_)
  refine (ss_if_le rfl).trans ?_
  refine pv_ite ?_ ?_
  · refine (ss_aload_n rfl rfl).trans ?_
    refine (ss_getR rfl).trans ?_
    refine congrArg (Option.bind _) (funext fun x2 => ?_)
    refine (ss_iconst rfl (v := 0) rfl).trans ?_
    refine (ss_iload_n rfl rfl).trans ?_
    refine (ss_iastore rfl).trans ?_
    refine congrArg (Option.bind _) (funext fun h3 => ?_)
    refine (ss_iconst rfl (v := 0) rfl).trans ?_
    refine (ss_istore_n rfl rfl).trans ?_
    rfl
  · refine (ss_aload_n rfl rfl).trans ?_
    refine (ss_getI rfl).trans ?_
    refine congrArg (Option.bind _) (funext fun x4 => ?_)
    exact ss_ireturn rfl
set_option maxRecDepth 8000 in
theorem u_Md_day_117 (X : pv_X) (v0 : Nat) (v1 : Int32) (v2 : Int32) (h : pv_H) : f_Md_day_117 X v0 v1 v2 h =
    if (3 * v1) ≤ v2 then some (some (.int 0), h) else (pv_fR h v0 11 18).bind (fun x1 => (pv_fR h v0 11 18).bind (fun x2 => (pv_aX X h x2 (125 + v2)).bind (fun x3 => (pv_sI h x1 (1 + v2) x3).bind (fun h4 => f_Md_day_117 X v0 v1 (v2 + 1) h4)))) := by
  show pS X 6 (some .int) k_Md_day 117 [some (.ref v0), some (.int v1), some (.int v2)] [] h = _
  refine (ss_iload_n rfl rfl).trans ?_
  refine (ss_iconst rfl (v := 3) rfl).trans ?_
  refine (ss_iload_n rfl rfl).trans ?_
  refine (ss_imul rfl).trans ?_
  refine (ss_icmp_ge rfl).trans ?_
  refine pv_ite ?_ ?_
  · refine (ss_iconst rfl (v := 0) rfl).trans ?_
    exact ss_ireturn rfl
  · refine (ss_aload_n rfl rfl).trans ?_
    refine (ss_getR rfl).trans ?_
    refine congrArg (Option.bind _) (funext fun x1 => ?_)
    refine (ss_iconst rfl (v := 1) rfl).trans ?_
    refine (ss_iload_n rfl rfl).trans ?_
    refine (ss_iadd rfl).trans ?_
    refine (ss_aload_n rfl rfl).trans ?_
    refine (ss_getR rfl).trans ?_
    refine congrArg (Option.bind _) (funext fun x2 => ?_)
    refine (ss_bipush rfl (v := 125) rfl).trans ?_
    refine (ss_iload_n rfl rfl).trans ?_
    refine (ss_iadd rfl).trans ?_
    refine (ss_iaload rfl).trans ?_
    refine congrArg (Option.bind _) (funext fun x3 => ?_)
    refine (ss_iastore rfl).trans ?_
    refine congrArg (Option.bind _) (funext fun h4 => ?_)
    refine (ss_iinc3 rfl rfl (v := v2 + 1) (congrArg (HAdd.hAdd _) (show Int32.ofInt (1) = 1 by decide)) rfl).trans ?_
    refine (ss_goto rfl).trans ?_
    rfl
theorem e_Md_day (X : pv_X) (v0 : Nat) (h : pv_H) : pM X m_Md_day [.ref v0] h = f_Md_day_0 X v0 h := rfl
noncomputable def f_Md_readDay_0 (X : pv_X) (v0 : Nat) (v1 : Int32) (v2 : Int32) (h : pv_H) : Option pv_O := pS X 5 (none) k_Md_readDay 0 [some (.ref v0), some (.int v1), some (.int v2)] [] h
noncomputable def f_Md_readDay_90 (X : pv_X) (v0 : Nat) (v1 : Int32) (v2 : Int32) (s0 : Int32) (s1 : Nat) (h : pv_H) : Option pv_O := pS X 5 (none) k_Md_readDay 90 [some (.ref v0), some (.int v1), some (.int v2)] [.int s0, .ref s1] h
noncomputable def f_Md_readDay_111 (X : pv_X) (v0 : Nat) (v1 : Int32) (v2 : Int32) (h : pv_H) : Option pv_O := pS X 5 (none) k_Md_readDay 111 [some (.ref v0), some (.int v1), some (.int v2)] [] h
set_option maxRecDepth 8000 in
theorem u_Md_readDay_0 (X : pv_X) (v0 : Nat) (v1 : Int32) (v2 : Int32) (h : pv_H) : f_Md_readDay_0 X v0 v1 v2 h =
    (pv_fR h v0 11 18).bind (fun x1 => (pv_sI h x1 v1 v2).bind (fun h2 => (pv_fR h2 v0 11 18).bind (fun x3 => (pv_sI h2 x3 (v1 + 1) 0).bind (fun h4 => (pv_fR h4 v0 11 18).bind (fun x5 => (pv_sI h4 x5 (v1 + 2) 0).bind (fun h6 => if 3 ≤ v2 then f_Md_readDay_111 X v0 v1 v2 h6 else (pv_fR h6 v0 11 18).bind (fun x7 => if pv_rc h6 v0 11 = true then (pv_tI (pM X m_Md_toldHere [.ref v0, .int 0] h6)).bind (fun q8 => (pv_sI q8.2 x7 (v1 + 1) q8.1).bind (fun h9 => if pv_rc h9 v0 11 = true then (pv_tV (pM X m_Md_takes [.ref v0, .int 0] h9)).bind (fun h10 => if ¬ v2 = 0 then (pv_fR h10 v0 11 18).bind (fun x11 => if pv_rc h10 v0 11 = true then (pv_tI (pM X m_Md_takeNumber [.ref v0, .int 1, .int 60] h10)).bind (fun q12 => (pv_sI q12.2 x11 (v1 + 2) q12.1).bind (fun h13 => f_Md_readDay_111 X v0 v1 v2 h13)) else none) else (pv_fR h10 v0 11 18).bind (fun x14 => if pv_rc h10 v0 11 = true then (pv_tI (pM X m_Md_toldHere [.ref v0, .int 0] h10)).bind (fun q15 => (pv_sI q15.2 x14 (v1 + 2) q15.1).bind (fun h16 => (pv_fR h16 v0 11 18).bind (fun x17 => (pv_aX X h16 x17 (v1 + 1)).bind (fun x18 => (pv_fR h16 v0 11 18).bind (fun x19 => (pv_aX X h16 x19 (v1 + 2)).bind (fun x20 => if ¬ x18 = x20 then f_Md_readDay_90 X v0 v1 v2 0 v0 h16 else f_Md_readDay_90 X v0 v1 v2 1 v0 h16)))))) else none)) else none)) else none))))))) := by
  show pS X 5 (none) k_Md_readDay 0 [some (.ref v0), some (.int v1), some (.int v2)] [] h = _
  refine (ss_aload_n rfl rfl).trans ?_
  refine (ss_getR rfl).trans ?_
  refine congrArg (Option.bind _) (funext fun x1 => ?_)
  refine (ss_iload_n rfl rfl).trans ?_
  refine (ss_iload_n rfl rfl).trans ?_
  refine (ss_iastore rfl).trans ?_
  refine congrArg (Option.bind _) (funext fun h2 => ?_)
  refine (ss_aload_n rfl rfl).trans ?_
  refine (ss_getR rfl).trans ?_
  refine congrArg (Option.bind _) (funext fun x3 => ?_)
  refine (ss_iload_n rfl rfl).trans ?_
  refine (ss_iconst rfl (v := 1) rfl).trans ?_
  refine (ss_iadd rfl).trans ?_
  refine (ss_iconst rfl (v := 0) rfl).trans ?_
  refine (ss_iastore rfl).trans ?_
  refine congrArg (Option.bind _) (funext fun h4 => ?_)
  refine (ss_aload_n rfl rfl).trans ?_
  refine (ss_getR rfl).trans ?_
  refine congrArg (Option.bind _) (funext fun x5 => ?_)
  refine (ss_iload_n rfl rfl).trans ?_
  refine (ss_iconst rfl (v := 2) rfl).trans ?_
  refine (ss_iadd rfl).trans ?_
  refine (ss_iconst rfl (v := 0) rfl).trans ?_
  refine (ss_iastore rfl).trans ?_
  refine congrArg (Option.bind _) (funext fun h6 => ?_)
  refine (ss_iload_n rfl rfl).trans ?_
  refine (ss_iconst rfl (v := 3) rfl).trans ?_
  refine (ss_icmp_ge rfl).trans ?_
  refine pv_ite ?_ ?_
  · rfl
  · refine (ss_aload_n rfl rfl).trans ?_
    refine (ss_getR rfl).trans ?_
    refine congrArg (Option.bind _) (funext fun x7 => ?_)
    refine (ss_iload_n rfl rfl).trans ?_
    refine (ss_iconst rfl (v := 1) rfl).trans ?_
    refine (ss_iadd rfl).trans ?_
    refine (ss_aload_n rfl rfl).trans ?_
    refine (ss_iconst rfl (v := 0) rfl).trans ?_
    refine (ss_callVI (as := [.int 0]) rfl t_Md_toldHere (by decide) rfl rfl (by simp [Value.category]) (Or.inl rfl) ⟨Nat.le_of_ble_eq_true rfl, Nat.le_of_ble_eq_true rfl⟩).trans ?_
    refine pv_ite ?_ rfl
    refine congrArg (Option.bind _) (funext fun q8 => ?_)
    refine (ss_iastore rfl).trans ?_
    refine congrArg (Option.bind _) (funext fun h9 => ?_)
    refine (ss_aload_n rfl rfl).trans ?_
    refine (ss_iconst rfl (v := 0) rfl).trans ?_
    refine (ss_callVN (as := [.int 0]) rfl t_Md_takes (by decide) rfl rfl (by decide) rfl ⟨Nat.le_of_ble_eq_true rfl, Nat.le_of_ble_eq_true rfl⟩).trans ?_
    refine pv_ite ?_ rfl
    refine congrArg (Option.bind _) (funext fun h10 => ?_)
    refine (ss_iload_n rfl rfl).trans ?_
    refine (ss_if_ne rfl).trans ?_
    refine pv_ite ?_ ?_
    · refine (ss_aload_n rfl rfl).trans ?_
      refine (ss_getR rfl).trans ?_
      refine congrArg (Option.bind _) (funext fun x11 => ?_)
      refine (ss_iload_n rfl rfl).trans ?_
      refine (ss_iconst rfl (v := 2) rfl).trans ?_
      refine (ss_iadd rfl).trans ?_
      refine (ss_aload_n rfl rfl).trans ?_
      refine (ss_iconst rfl (v := 1) rfl).trans ?_
      refine (ss_bipush rfl (v := 60) rfl).trans ?_
      refine (ss_callVI (as := [.int 1, .int 60]) rfl t_Md_takeNumber (by decide) rfl rfl (by simp [Value.category]) (Or.inl rfl) ⟨Nat.le_of_ble_eq_true rfl, Nat.le_of_ble_eq_true rfl⟩).trans ?_
      refine pv_ite ?_ rfl
      refine congrArg (Option.bind _) (funext fun q12 => ?_)
      refine (ss_iastore rfl).trans ?_
      refine congrArg (Option.bind _) (funext fun h13 => ?_)
      rfl
    · refine (ss_aload_n rfl rfl).trans ?_
      refine (ss_getR rfl).trans ?_
      refine congrArg (Option.bind _) (funext fun x14 => ?_)
      refine (ss_iload_n rfl rfl).trans ?_
      refine (ss_iconst rfl (v := 2) rfl).trans ?_
      refine (ss_iadd rfl).trans ?_
      refine (ss_aload_n rfl rfl).trans ?_
      refine (ss_iconst rfl (v := 0) rfl).trans ?_
      refine (ss_callVI (as := [.int 0]) rfl t_Md_toldHere (by decide) rfl rfl (by simp [Value.category]) (Or.inl rfl) ⟨Nat.le_of_ble_eq_true rfl, Nat.le_of_ble_eq_true rfl⟩).trans ?_
      refine pv_ite ?_ rfl
      refine congrArg (Option.bind _) (funext fun q15 => ?_)
      refine (ss_iastore rfl).trans ?_
      refine congrArg (Option.bind _) (funext fun h16 => ?_)
      refine (ss_aload_n rfl rfl).trans ?_
      refine (ss_aload_n rfl rfl).trans ?_
      refine (ss_getR rfl).trans ?_
      refine congrArg (Option.bind _) (funext fun x17 => ?_)
      refine (ss_iload_n rfl rfl).trans ?_
      refine (ss_iconst rfl (v := 1) rfl).trans ?_
      refine (ss_iadd rfl).trans ?_
      refine (ss_iaload rfl).trans ?_
      refine congrArg (Option.bind _) (funext fun x18 => ?_)
      refine (ss_aload_n rfl rfl).trans ?_
      refine (ss_getR rfl).trans ?_
      refine congrArg (Option.bind _) (funext fun x19 => ?_)
      refine (ss_iload_n rfl rfl).trans ?_
      refine (ss_iconst rfl (v := 2) rfl).trans ?_
      refine (ss_iadd rfl).trans ?_
      refine (ss_iaload rfl).trans ?_
      refine congrArg (Option.bind _) (funext fun x20 => ?_)
      refine (ss_icmp_ne rfl).trans ?_
      refine pv_ite ?_ ?_
      · refine (ss_iconst rfl (v := 0) rfl).trans ?_
        rfl
      · refine (ss_iconst rfl (v := 1) rfl).trans ?_
        refine (ss_goto rfl).trans ?_
        rfl
set_option maxRecDepth 8000 in
theorem u_Md_readDay_90 (X : pv_X) (v0 : Nat) (v1 : Int32) (v2 : Int32) (s0 : Int32) (s1 : Nat) (h : pv_H) : f_Md_readDay_90 X v0 v1 v2 s0 s1 h =
    if pv_rc h s1 11 = true then (pv_tV (pM X m_Md_takes [.ref s1, .int s0] h)).bind (fun h1 => f_Md_readDay_111 X v0 v1 v2 h1) else none := by
  show pS X 5 (none) k_Md_readDay 90 [some (.ref v0), some (.int v1), some (.int v2)] [.int s0, .ref s1] h = _
  refine (ss_callVN (as := [.int s0]) rfl t_Md_takes (by decide) rfl rfl (by decide) rfl ⟨Nat.le_of_ble_eq_true rfl, Nat.le_of_ble_eq_true rfl⟩).trans ?_
  refine pv_ite ?_ rfl
  refine congrArg (Option.bind _) (funext fun h1 => ?_)
  refine (ss_goto rfl).trans ?_
  rfl
set_option maxRecDepth 8000 in
theorem u_Md_readDay_111 (X : pv_X) (v0 : Nat) (v1 : Int32) (v2 : Int32) (h : pv_H) : f_Md_readDay_111 X v0 v1 v2 h =
    some (none, h) := by
  show pS X 5 (none) k_Md_readDay 111 [some (.ref v0), some (.int v1), some (.int v2)] [] h = _
  exact ss_return rfl
theorem e_Md_readDay (X : pv_X) (v0 : Nat) (v1 : Int32) (v2 : Int32) (h : pv_H) : pM X m_Md_readDay [.ref v0, .int v1, .int v2] h = f_Md_readDay_0 X v0 v1 v2 h := rfl
noncomputable def f_Md_emit_0 (X : pv_X) (v0 : Nat) (v1 : Int32) (v2 : Int32) (h : pv_H) : Option pv_O := pS X 1 (none) k_Md_emit 0 [some (.ref v0), some (.int v1), some (.int v2)] [] h
set_option maxRecDepth 8000 in
theorem u_Md_emit_0 (X : pv_X) (v0 : Nat) (v1 : Int32) (v2 : Int32) (h : pv_H) : f_Md_emit_0 X v0 v1 v2 h =
    (pv_fR h v0 11 11).bind (fun x1 => (pv_fI h v0 11 13).bind (fun x2 => (pv_sI h x1 (1100 + x2) v1).bind (fun h3 => (pv_fR h3 v0 11 12).bind (fun x4 => (pv_fI h3 v0 11 13).bind (fun x5 => (pv_sI h3 x4 (1100 + x5) v2).bind (fun h6 => (pv_fI h6 v0 11 13).bind (fun x7 => (pv_fp h6 v0 11 13 (.int (x7 + 1))).bind (fun h8 => some (none, h8))))))))) := by
  show pS X 1 (none) k_Md_emit 0 [some (.ref v0), some (.int v1), some (.int v2)] [] h = _
  refine (ss_aload_n rfl rfl).trans ?_
  refine (ss_getR rfl).trans ?_
  refine congrArg (Option.bind _) (funext fun x1 => ?_)
  refine (ss_sipush rfl (v := 1100) rfl).trans ?_
  refine (ss_aload_n rfl rfl).trans ?_
  refine (ss_getI rfl).trans ?_
  refine congrArg (Option.bind _) (funext fun x2 => ?_)
  refine (ss_iadd rfl).trans ?_
  refine (ss_iload_n rfl rfl).trans ?_
  refine (ss_iastore rfl).trans ?_
  refine congrArg (Option.bind _) (funext fun h3 => ?_)
  refine (ss_aload_n rfl rfl).trans ?_
  refine (ss_getR rfl).trans ?_
  refine congrArg (Option.bind _) (funext fun x4 => ?_)
  refine (ss_sipush rfl (v := 1100) rfl).trans ?_
  refine (ss_aload_n rfl rfl).trans ?_
  refine (ss_getI rfl).trans ?_
  refine congrArg (Option.bind _) (funext fun x5 => ?_)
  refine (ss_iadd rfl).trans ?_
  refine (ss_iload_n rfl rfl).trans ?_
  refine (ss_iastore rfl).trans ?_
  refine congrArg (Option.bind _) (funext fun h6 => ?_)
  refine (ss_aload_n rfl rfl).trans ?_
  refine (ss_dupR rfl).trans ?_
  refine (ss_getI rfl).trans ?_
  refine congrArg (Option.bind _) (funext fun x7 => ?_)
  refine (ss_iconst rfl (v := 1) rfl).trans ?_
  refine (ss_iadd rfl).trans ?_
  refine (ss_putI rfl).trans ?_
  refine congrArg (Option.bind _) (funext fun h8 => ?_)
  exact ss_return rfl
theorem e_Md_emit (X : pv_X) (v0 : Nat) (v1 : Int32) (v2 : Int32) (h : pv_H) : pM X m_Md_emit [.ref v0, .int v1, .int v2] h = f_Md_emit_0 X v0 v1 v2 h := rfl
noncomputable def f_Md_whole_0 (X : pv_X) (r : Nat) (v0 : Nat) (v1 : Int32) (h : pv_H) : Option pv_O := pS X r (none) k_Md_whole 0 [some (.ref v0), some (.int v1), none] [] h
noncomputable def f_Md_whole_5 (X : pv_X) (r : Nat) (v0 : Nat) (v1 : Int32) (o2 : Option Value) (h : pv_H) : Option pv_O := pS X r (none) k_Md_whole 5 [some (.ref v0), some (.int v1), o2] [] h
noncomputable def f_Md_whole_23 (X : pv_X) (r : Nat) (v0 : Nat) (v1 : Int32) (o2 : Option Value) (h : pv_H) : Option pv_O := pS X r (none) k_Md_whole 23 [some (.ref v0), some (.int v1), o2] [] h
noncomputable def f_Md_whole_57 (X : pv_X) (r : Nat) (v0 : Nat) (v1 : Int32) (v2 : Int32) (s0 : Int32) (s1 : Nat) (h : pv_H) : Option pv_O := pS X r (none) k_Md_whole 57 [some (.ref v0), some (.int v1), some (.int v2)] [.int s0, .ref s1] h
set_option maxRecDepth 8000 in
theorem u_Md_whole_0 (X : pv_X) (r : Nat) (v0 : Nat) (v1 : Int32) (h : pv_H) : f_Md_whole_0 X r v0 v1 h =
    if m_Md_test.2.2.2.2.2 [.ref v0, .int v1] < r then (if pv_rc h v0 11 = true then (pv_tV (pM X m_Md_test [.ref v0, .int v1] h)).bind (fun h1 => f_Md_whole_5 X r v0 v1 none h1) else none) else none := by
  show pS X r (none) k_Md_whole 0 [some (.ref v0), some (.int v1), none] [] h = _
  refine (ss_aload_n rfl rfl).trans ?_
  refine (ss_iload_n rfl rfl).trans ?_
  refine (ssr_callVN (as := [.int v1]) rfl t_Md_test (by decide) rfl rfl (by decide) rfl (Nat.le_of_ble_eq_true rfl)).trans ?_
  refine pv_ite ?_ rfl
  refine pv_ite ?_ rfl
  refine congrArg (Option.bind _) (funext fun h1 => ?_)
  rfl
set_option maxRecDepth 8000 in
theorem u_Md_whole_5 (X : pv_X) (r : Nat) (v0 : Nat) (v1 : Int32) (o2 : Option Value) (h : pv_H) : f_Md_whole_5 X r v0 v1 o2 h =
    if m_Md_isWord.2.2.2.2.2 [.ref v0, .int 14] < r then (if pv_rc h v0 11 = true then (pv_tI (pM X m_Md_isWord [.ref v0, .int 14] h)).bind (fun q1 => if ¬ q1.1 = 0 then f_Md_whole_23 X r v0 v1 o2 q1.2 else if m_Md_isWord.2.2.2.2.2 [.ref v0, .int 15] < r then (if pv_rc q1.2 v0 11 = true then (pv_tI (pM X m_Md_isWord [.ref v0, .int 15] q1.2)).bind (fun q2 => if q2.1 = 0 then some (none, q2.2) else f_Md_whole_23 X r v0 v1 o2 q2.2) else none) else none) else none) else none := by
  show pS X r (none) k_Md_whole 5 [some (.ref v0), some (.int v1), o2] [] h = _
  refine (ss_aload_n rfl rfl).trans ?_
  refine (ss_bipush rfl (v := 14) rfl).trans ?_
  refine (ssr_callVI (as := [.int 14]) rfl t_Md_isWord (by decide) rfl rfl (by decide) (Or.inr rfl) (Nat.le_of_ble_eq_true rfl)).trans ?_
  refine pv_ite ?_ rfl
  refine pv_ite ?_ rfl
  refine congrArg (Option.bind _) (funext fun q1 => ?_)
  refine (ss_if_ne rfl).trans ?_
  refine pv_ite ?_ ?_
  · rfl
  · refine (ss_aload_n rfl rfl).trans ?_
    refine (ss_bipush rfl (v := 15) rfl).trans ?_
    refine (ssr_callVI (as := [.int 15]) rfl t_Md_isWord (by decide) rfl rfl (by decide) (Or.inr rfl) (Nat.le_of_ble_eq_true rfl)).trans ?_
    refine pv_ite ?_ rfl
    refine pv_ite ?_ rfl
    refine congrArg (Option.bind _) (funext fun q2 => ?_)
    refine (ss_if_eq rfl).trans ?_
    refine pv_ite ?_ ?_
    · exact ss_return rfl
    · rfl
set_option maxRecDepth 8000 in
theorem u_Md_whole_23 (X : pv_X) (r : Nat) (v0 : Nat) (v1 : Int32) (o2 : Option Value) (h : pv_H) : f_Md_whole_23 X r v0 v1 o2 h =
    if m_Md_isWord.2.2.2.2.2 [.ref v0, .int 14] < r then (if pv_rc h v0 11 = true then (pv_tI (pM X m_Md_isWord [.ref v0, .int 14] h)).bind (fun q1 => (pv_fI q1.2 v0 11 7).bind (fun x2 => (pv_fp q1.2 v0 11 7 (.int (x2 + 1))).bind (fun h3 => if m_Md_test.2.2.2.2.2 [.ref v0, .int v1] < r then (if pv_rc h3 v0 11 = true then (pv_tV (pM X m_Md_test [.ref v0, .int v1] h3)).bind (fun h4 => if q1.1 = 0 then f_Md_whole_57 X r v0 v1 q1.1 10 v0 h4 else f_Md_whole_57 X r v0 v1 q1.1 9 v0 h4) else none) else none))) else none) else none := by
  show pS X r (none) k_Md_whole 23 [some (.ref v0), some (.int v1), o2] [] h = _
  refine (ss_aload_n rfl rfl).trans ?_
  refine (ss_bipush rfl (v := 14) rfl).trans ?_
  refine (ssr_callVI (as := [.int 14]) rfl t_Md_isWord (by decide) rfl rfl (by decide) (Or.inr rfl) (Nat.le_of_ble_eq_true rfl)).trans ?_
  refine pv_ite ?_ rfl
  refine pv_ite ?_ rfl
  refine congrArg (Option.bind _) (funext fun q1 => ?_)
  refine (ss_istore_n rfl rfl).trans ?_
  refine (ss_aload_n rfl rfl).trans ?_
  refine (ss_dupR rfl).trans ?_
  refine (ss_getI rfl).trans ?_
  refine congrArg (Option.bind _) (funext fun x2 => ?_)
  refine (ss_iconst rfl (v := 1) rfl).trans ?_
  refine (ss_iadd rfl).trans ?_
  refine (ss_putI rfl).trans ?_
  refine congrArg (Option.bind _) (funext fun h3 => ?_)
  refine (ss_aload_n rfl rfl).trans ?_
  refine (ss_iload_n rfl rfl).trans ?_
  refine (ssr_callVN (as := [.int v1]) rfl t_Md_test (by decide) rfl rfl (by decide) rfl (Nat.le_of_ble_eq_true rfl)).trans ?_
  refine pv_ite ?_ rfl
  refine pv_ite ?_ rfl
  refine congrArg (Option.bind _) (funext fun h4 => ?_)
  refine (ss_aload_n rfl rfl).trans ?_
  refine (ss_iload_n rfl rfl).trans ?_
  refine (ss_if_eq rfl).trans ?_
  refine pv_ite ?_ ?_
  · refine (ss_bipush rfl (v := 10) rfl).trans ?_
    rfl
  · refine (ss_bipush rfl (v := 9) rfl).trans ?_
    refine (ss_goto rfl).trans ?_
    rfl
set_option maxRecDepth 8000 in
theorem u_Md_whole_57 (X : pv_X) (r : Nat) (v0 : Nat) (v1 : Int32) (v2 : Int32) (s0 : Int32) (s1 : Nat) (h : pv_H) : f_Md_whole_57 X r v0 v1 v2 s0 s1 h =
    if m_Md_emit.2.2.2.2.2 [.ref s1, .int s0, .int 0] < r then (if pv_rc h s1 11 = true then (pv_tV (pM X m_Md_emit [.ref s1, .int s0, .int 0] h)).bind (fun h1 => f_Md_whole_5 X r v0 v1 (some (.int v2)) h1) else none) else none := by
  show pS X r (none) k_Md_whole 57 [some (.ref v0), some (.int v1), some (.int v2)] [.int s0, .ref s1] h = _
  refine (ss_iconst rfl (v := 0) rfl).trans ?_
  refine (ssr_callVN (as := [.int s0, .int 0]) rfl t_Md_emit (by decide) rfl rfl (by decide) rfl (Nat.le_of_ble_eq_true rfl)).trans ?_
  refine pv_ite ?_ rfl
  refine pv_ite ?_ rfl
  refine congrArg (Option.bind _) (funext fun h1 => ?_)
  refine (ss_goto rfl).trans ?_
  rfl
theorem e_Md_whole (X : pv_X) (v0 : Nat) (v1 : Int32) (h : pv_H) : pM X m_Md_whole [.ref v0, .int v1] h = f_Md_whole_0 X (m_Md_whole.2.2.2.2.2 [.ref v0, .int v1]) v0 v1 h := rfl
noncomputable def f_Md_test_0 (X : pv_X) (r : Nat) (v0 : Nat) (v1 : Int32) (h : pv_H) : Option pv_O := pS X r (none) k_Md_test 0 [some (.ref v0), some (.int v1), none] [] h
noncomputable def f_Md_test_30 (X : pv_X) (r : Nat) (v0 : Nat) (v1 : Int32) (v2 : Int32) (h : pv_H) : Option pv_O := pS X r (none) k_Md_test 30 [some (.ref v0), some (.int v1), some (.int v2)] [] h
noncomputable def f_Md_test_47 (X : pv_X) (r : Nat) (v0 : Nat) (v1 : Int32) (v2 : Int32) (s0 : Int32) (s1 : Nat) (h : pv_H) : Option pv_O := pS X r (none) k_Md_test 47 [some (.ref v0), some (.int v1), some (.int v2)] [.int s0, .ref s1] h
noncomputable def f_Md_test_51 (X : pv_X) (r : Nat) (v0 : Nat) (v1 : Int32) (v2 : Int32) (h : pv_H) : Option pv_O := pS X r (none) k_Md_test 51 [some (.ref v0), some (.int v1), some (.int v2)] [] h
set_option maxRecDepth 8000 in
theorem u_Md_test_0 (X : pv_X) (r : Nat) (v0 : Nat) (v1 : Int32) (h : pv_H) : f_Md_test_0 X r v0 v1 h =
    if m_Md_sums.2.2.2.2.2 [.ref v0, .int v1] < r then (if pv_rc h v0 11 = true then (pv_tV (pM X m_Md_sums [.ref v0, .int v1] h)).bind (fun h1 => if m_Md_isSign.2.2.2.2.2 [.ref v0, .int 60] < r then (if pv_rc h1 v0 11 = true then (pv_tI (pM X m_Md_isSign [.ref v0, .int 60] h1)).bind (fun q2 => if m_Md_hasSign.2.2.2.2.2 [.ref v0, .int 60] < r then (if pv_rc q2.2 v0 11 = true then (pv_tI (pM X m_Md_hasSign [.ref v0, .int 60] q2.2)).bind (fun q3 => if ¬ q3.1 = 0 then f_Md_test_30 X r v0 v1 q2.1 q3.2 else if m_Md_hasSign.2.2.2.2.2 [.ref v0, .int 61] < r then (if pv_rc q3.2 v0 11 = true then (pv_tI (pM X m_Md_hasSign [.ref v0, .int 61] q3.2)).bind (fun q4 => if q4.1 = 0 then f_Md_test_51 X r v0 v1 q2.1 q4.2 else f_Md_test_30 X r v0 v1 q2.1 q4.2) else none) else none) else none) else none) else none) else none) else none) else none := by
  show pS X r (none) k_Md_test 0 [some (.ref v0), some (.int v1), none] [] h = _
  refine (ss_aload_n rfl rfl).trans ?_
  refine (ss_iload_n rfl rfl).trans ?_
  refine (ssr_callVN (as := [.int v1]) rfl t_Md_sums (by decide) rfl rfl (by decide) rfl (Nat.le_of_ble_eq_true rfl)).trans ?_
  refine pv_ite ?_ rfl
  refine pv_ite ?_ rfl
  refine congrArg (Option.bind _) (funext fun h1 => ?_)
  refine (ss_aload_n rfl rfl).trans ?_
  refine (ss_bipush rfl (v := 60) rfl).trans ?_
  refine (ssr_callVI (as := [.int 60]) rfl t_Md_isSign (by decide) rfl rfl (by decide) (Or.inr rfl) (Nat.le_of_ble_eq_true rfl)).trans ?_
  refine pv_ite ?_ rfl
  refine pv_ite ?_ rfl
  refine congrArg (Option.bind _) (funext fun q2 => ?_)
  refine (ss_istore_n rfl rfl).trans ?_
  refine (ss_aload_n rfl rfl).trans ?_
  refine (ss_bipush rfl (v := 60) rfl).trans ?_
  refine (ssr_callVI (as := [.int 60]) rfl t_Md_hasSign (by decide) rfl rfl (by decide) (Or.inr rfl) (Nat.le_of_ble_eq_true rfl)).trans ?_
  refine pv_ite ?_ rfl
  refine pv_ite ?_ rfl
  refine congrArg (Option.bind _) (funext fun q3 => ?_)
  refine (ss_if_ne rfl).trans ?_
  refine pv_ite ?_ ?_
  · rfl
  · refine (ss_aload_n rfl rfl).trans ?_
    refine (ss_bipush rfl (v := 61) rfl).trans ?_
    refine (ssr_callVI (as := [.int 61]) rfl t_Md_hasSign (by decide) rfl rfl (by decide) (Or.inr rfl) (Nat.le_of_ble_eq_true rfl)).trans ?_
    refine pv_ite ?_ rfl
    refine pv_ite ?_ rfl
    refine congrArg (Option.bind _) (funext fun q4 => ?_)
    refine (ss_if_eq rfl).trans ?_
    refine pv_ite ?_ ?_
    · rfl
    · rfl
set_option maxRecDepth 8000 in
theorem u_Md_test_30 (X : pv_X) (r : Nat) (v0 : Nat) (v1 : Int32) (v2 : Int32) (h : pv_H) : f_Md_test_30 X r v0 v1 v2 h =
    if m_Md_sums.2.2.2.2.2 [.ref v0, .int v1] < r then (if pv_rc h v0 11 = true then (pv_tV (pM X m_Md_sums [.ref v0, .int v1] h)).bind (fun h1 => if v2 = 0 then f_Md_test_47 X r v0 v1 v2 8 v0 h1 else f_Md_test_47 X r v0 v1 v2 7 v0 h1) else none) else none := by
  show pS X r (none) k_Md_test 30 [some (.ref v0), some (.int v1), some (.int v2)] [] h = _
  refine (ss_aload_n rfl rfl).trans ?_
  refine (ss_iload_n rfl rfl).trans ?_
  refine (ssr_callVN (as := [.int v1]) rfl t_Md_sums (by decide) rfl rfl (by decide) rfl (Nat.le_of_ble_eq_true rfl)).trans ?_
  refine pv_ite ?_ rfl
  refine pv_ite ?_ rfl
  refine congrArg (Option.bind _) (funext fun h1 => ?_)
  refine (ss_aload_n rfl rfl).trans ?_
  refine (ss_iload_n rfl rfl).trans ?_
  refine (ss_if_eq rfl).trans ?_
  refine pv_ite ?_ ?_
  · refine (ss_bipush rfl (v := 8) rfl).trans ?_
    rfl
  · refine (ss_bipush rfl (v := 7) rfl).trans ?_
    refine (ss_goto rfl).trans ?_
    rfl
set_option maxRecDepth 8000 in
theorem u_Md_test_47 (X : pv_X) (r : Nat) (v0 : Nat) (v1 : Int32) (v2 : Int32) (s0 : Int32) (s1 : Nat) (h : pv_H) : f_Md_test_47 X r v0 v1 v2 s0 s1 h =
    if m_Md_emit.2.2.2.2.2 [.ref s1, .int s0, .int 0] < r then (if pv_rc h s1 11 = true then (pv_tV (pM X m_Md_emit [.ref s1, .int s0, .int 0] h)).bind (fun h1 => f_Md_test_51 X r v0 v1 v2 h1) else none) else none := by
  show pS X r (none) k_Md_test 47 [some (.ref v0), some (.int v1), some (.int v2)] [.int s0, .ref s1] h = _
  refine (ss_iconst rfl (v := 0) rfl).trans ?_
  refine (ssr_callVN (as := [.int s0, .int 0]) rfl t_Md_emit (by decide) rfl rfl (by decide) rfl (Nat.le_of_ble_eq_true rfl)).trans ?_
  refine pv_ite ?_ rfl
  refine pv_ite ?_ rfl
  refine congrArg (Option.bind _) (funext fun h1 => ?_)
  rfl
set_option maxRecDepth 8000 in
theorem u_Md_test_51 (X : pv_X) (r : Nat) (v0 : Nat) (v1 : Int32) (v2 : Int32) (h : pv_H) : f_Md_test_51 X r v0 v1 v2 h =
    some (none, h) := by
  show pS X r (none) k_Md_test 51 [some (.ref v0), some (.int v1), some (.int v2)] [] h = _
  exact ss_return rfl
theorem e_Md_test (X : pv_X) (v0 : Nat) (v1 : Int32) (h : pv_H) : pM X m_Md_test [.ref v0, .int v1] h = f_Md_test_0 X (m_Md_test.2.2.2.2.2 [.ref v0, .int v1]) v0 v1 h := rfl
noncomputable def f_Md_sums_0 (X : pv_X) (r : Nat) (v0 : Nat) (v1 : Int32) (h : pv_H) : Option pv_O := pS X r (none) k_Md_sums 0 [some (.ref v0), some (.int v1), none] [] h
noncomputable def f_Md_sums_5 (X : pv_X) (r : Nat) (v0 : Nat) (v1 : Int32) (o2 : Option Value) (h : pv_H) : Option pv_O := pS X r (none) k_Md_sums 5 [some (.ref v0), some (.int v1), o2] [] h
noncomputable def f_Md_sums_23 (X : pv_X) (r : Nat) (v0 : Nat) (v1 : Int32) (o2 : Option Value) (h : pv_H) : Option pv_O := pS X r (none) k_Md_sums 23 [some (.ref v0), some (.int v1), o2] [] h
noncomputable def f_Md_sums_55 (X : pv_X) (r : Nat) (v0 : Nat) (v1 : Int32) (v2 : Int32) (s0 : Int32) (s1 : Nat) (h : pv_H) : Option pv_O := pS X r (none) k_Md_sums 55 [some (.ref v0), some (.int v1), some (.int v2)] [.int s0, .ref s1] h
set_option maxRecDepth 8000 in
theorem u_Md_sums_0 (X : pv_X) (r : Nat) (v0 : Nat) (v1 : Int32) (h : pv_H) : f_Md_sums_0 X r v0 v1 h =
    if m_Md_products.2.2.2.2.2 [.ref v0, .int v1] < r then (if pv_rc h v0 11 = true then (pv_tV (pM X m_Md_products [.ref v0, .int v1] h)).bind (fun h1 => f_Md_sums_5 X r v0 v1 none h1) else none) else none := by
  show pS X r (none) k_Md_sums 0 [some (.ref v0), some (.int v1), none] [] h = _
  refine (ss_aload_n rfl rfl).trans ?_
  refine (ss_iload_n rfl rfl).trans ?_
  refine (ssr_callVN (as := [.int v1]) rfl t_Md_products (by decide) rfl rfl (by decide) rfl (Nat.le_of_ble_eq_true rfl)).trans ?_
  refine pv_ite ?_ rfl
  refine pv_ite ?_ rfl
  refine congrArg (Option.bind _) (funext fun h1 => ?_)
  rfl
set_option maxRecDepth 8000 in
theorem u_Md_sums_5 (X : pv_X) (r : Nat) (v0 : Nat) (v1 : Int32) (o2 : Option Value) (h : pv_H) : f_Md_sums_5 X r v0 v1 o2 h =
    if m_Md_isSign.2.2.2.2.2 [.ref v0, .int 43] < r then (if pv_rc h v0 11 = true then (pv_tI (pM X m_Md_isSign [.ref v0, .int 43] h)).bind (fun q1 => if ¬ q1.1 = 0 then f_Md_sums_23 X r v0 v1 o2 q1.2 else if m_Md_isSign.2.2.2.2.2 [.ref v0, .int 45] < r then (if pv_rc q1.2 v0 11 = true then (pv_tI (pM X m_Md_isSign [.ref v0, .int 45] q1.2)).bind (fun q2 => if q2.1 = 0 then some (none, q2.2) else f_Md_sums_23 X r v0 v1 o2 q2.2) else none) else none) else none) else none := by
  show pS X r (none) k_Md_sums 5 [some (.ref v0), some (.int v1), o2] [] h = _
  refine (ss_aload_n rfl rfl).trans ?_
  refine (ss_bipush rfl (v := 43) rfl).trans ?_
  refine (ssr_callVI (as := [.int 43]) rfl t_Md_isSign (by decide) rfl rfl (by decide) (Or.inr rfl) (Nat.le_of_ble_eq_true rfl)).trans ?_
  refine pv_ite ?_ rfl
  refine pv_ite ?_ rfl
  refine congrArg (Option.bind _) (funext fun q1 => ?_)
  refine (ss_if_ne rfl).trans ?_
  refine pv_ite ?_ ?_
  · rfl
  · refine (ss_aload_n rfl rfl).trans ?_
    refine (ss_bipush rfl (v := 45) rfl).trans ?_
    refine (ssr_callVI (as := [.int 45]) rfl t_Md_isSign (by decide) rfl rfl (by decide) (Or.inr rfl) (Nat.le_of_ble_eq_true rfl)).trans ?_
    refine pv_ite ?_ rfl
    refine pv_ite ?_ rfl
    refine congrArg (Option.bind _) (funext fun q2 => ?_)
    refine (ss_if_eq rfl).trans ?_
    refine pv_ite ?_ ?_
    · exact ss_return rfl
    · rfl
set_option maxRecDepth 8000 in
theorem u_Md_sums_23 (X : pv_X) (r : Nat) (v0 : Nat) (v1 : Int32) (o2 : Option Value) (h : pv_H) : f_Md_sums_23 X r v0 v1 o2 h =
    if m_Md_isSign.2.2.2.2.2 [.ref v0, .int 43] < r then (if pv_rc h v0 11 = true then (pv_tI (pM X m_Md_isSign [.ref v0, .int 43] h)).bind (fun q1 => (pv_fI q1.2 v0 11 7).bind (fun x2 => (pv_fp q1.2 v0 11 7 (.int (x2 + 1))).bind (fun h3 => if m_Md_products.2.2.2.2.2 [.ref v0, .int v1] < r then (if pv_rc h3 v0 11 = true then (pv_tV (pM X m_Md_products [.ref v0, .int v1] h3)).bind (fun h4 => if q1.1 = 0 then f_Md_sums_55 X r v0 v1 q1.1 5 v0 h4 else f_Md_sums_55 X r v0 v1 q1.1 4 v0 h4) else none) else none))) else none) else none := by
  show pS X r (none) k_Md_sums 23 [some (.ref v0), some (.int v1), o2] [] h = _
  refine (ss_aload_n rfl rfl).trans ?_
  refine (ss_bipush rfl (v := 43) rfl).trans ?_
  refine (ssr_callVI (as := [.int 43]) rfl t_Md_isSign (by decide) rfl rfl (by decide) (Or.inr rfl) (Nat.le_of_ble_eq_true rfl)).trans ?_
  refine pv_ite ?_ rfl
  refine pv_ite ?_ rfl
  refine congrArg (Option.bind _) (funext fun q1 => ?_)
  refine (ss_istore_n rfl rfl).trans ?_
  refine (ss_aload_n rfl rfl).trans ?_
  refine (ss_dupR rfl).trans ?_
  refine (ss_getI rfl).trans ?_
  refine congrArg (Option.bind _) (funext fun x2 => ?_)
  refine (ss_iconst rfl (v := 1) rfl).trans ?_
  refine (ss_iadd rfl).trans ?_
  refine (ss_putI rfl).trans ?_
  refine congrArg (Option.bind _) (funext fun h3 => ?_)
  refine (ss_aload_n rfl rfl).trans ?_
  refine (ss_iload_n rfl rfl).trans ?_
  refine (ssr_callVN (as := [.int v1]) rfl t_Md_products (by decide) rfl rfl (by decide) rfl (Nat.le_of_ble_eq_true rfl)).trans ?_
  refine pv_ite ?_ rfl
  refine pv_ite ?_ rfl
  refine congrArg (Option.bind _) (funext fun h4 => ?_)
  refine (ss_aload_n rfl rfl).trans ?_
  refine (ss_iload_n rfl rfl).trans ?_
  refine (ss_if_eq rfl).trans ?_
  refine pv_ite ?_ ?_
  · refine (ss_iconst rfl (v := 5) rfl).trans ?_
    rfl
  · refine (ss_iconst rfl (v := 4) rfl).trans ?_
    refine (ss_goto rfl).trans ?_
    rfl
set_option maxRecDepth 8000 in
theorem u_Md_sums_55 (X : pv_X) (r : Nat) (v0 : Nat) (v1 : Int32) (v2 : Int32) (s0 : Int32) (s1 : Nat) (h : pv_H) : f_Md_sums_55 X r v0 v1 v2 s0 s1 h =
    if m_Md_emit.2.2.2.2.2 [.ref s1, .int s0, .int 0] < r then (if pv_rc h s1 11 = true then (pv_tV (pM X m_Md_emit [.ref s1, .int s0, .int 0] h)).bind (fun h1 => f_Md_sums_5 X r v0 v1 (some (.int v2)) h1) else none) else none := by
  show pS X r (none) k_Md_sums 55 [some (.ref v0), some (.int v1), some (.int v2)] [.int s0, .ref s1] h = _
  refine (ss_iconst rfl (v := 0) rfl).trans ?_
  refine (ssr_callVN (as := [.int s0, .int 0]) rfl t_Md_emit (by decide) rfl rfl (by decide) rfl (Nat.le_of_ble_eq_true rfl)).trans ?_
  refine pv_ite ?_ rfl
  refine pv_ite ?_ rfl
  refine congrArg (Option.bind _) (funext fun h1 => ?_)
  refine (ss_goto rfl).trans ?_
  rfl
theorem e_Md_sums (X : pv_X) (v0 : Nat) (v1 : Int32) (h : pv_H) : pM X m_Md_sums [.ref v0, .int v1] h = f_Md_sums_0 X (m_Md_sums.2.2.2.2.2 [.ref v0, .int v1]) v0 v1 h := rfl
noncomputable def f_Md_products_0 (X : pv_X) (r : Nat) (v0 : Nat) (v1 : Int32) (h : pv_H) : Option pv_O := pS X r (none) k_Md_products 0 [some (.ref v0), some (.int v1)] [] h
noncomputable def f_Md_products_5 (X : pv_X) (r : Nat) (v0 : Nat) (v1 : Int32) (h : pv_H) : Option pv_O := pS X r (none) k_Md_products 5 [some (.ref v0), some (.int v1)] [] h
set_option maxRecDepth 8000 in
theorem u_Md_products_0 (X : pv_X) (r : Nat) (v0 : Nat) (v1 : Int32) (h : pv_H) : f_Md_products_0 X r v0 v1 h =
    if m_Md_takePart.2.2.2.2.2 [.ref v0, .int v1] < r then (if pv_rc h v0 11 = true then (pv_tV (pM X m_Md_takePart [.ref v0, .int v1] h)).bind (fun h1 => f_Md_products_5 X r v0 v1 h1) else none) else none := by
  show pS X r (none) k_Md_products 0 [some (.ref v0), some (.int v1)] [] h = _
  refine (ss_aload_n rfl rfl).trans ?_
  refine (ss_iload_n rfl rfl).trans ?_
  refine (ssr_callVN (as := [.int v1]) rfl t_Md_takePart (by decide) rfl rfl (by decide) rfl (Nat.le_of_ble_eq_true rfl)).trans ?_
  refine pv_ite ?_ rfl
  refine pv_ite ?_ rfl
  refine congrArg (Option.bind _) (funext fun h1 => ?_)
  rfl
set_option maxRecDepth 8000 in
theorem u_Md_products_5 (X : pv_X) (r : Nat) (v0 : Nat) (v1 : Int32) (h : pv_H) : f_Md_products_5 X r v0 v1 h =
    if m_Md_hasSign.2.2.2.2.2 [.ref v0, .int 42] < r then (if pv_rc h v0 11 = true then (pv_tI (pM X m_Md_hasSign [.ref v0, .int 42] h)).bind (fun q1 => if q1.1 = 0 then some (none, q1.2) else if m_Md_takePart.2.2.2.2.2 [.ref v0, .int v1] < r then (if pv_rc q1.2 v0 11 = true then (pv_tV (pM X m_Md_takePart [.ref v0, .int v1] q1.2)).bind (fun h2 => if m_Md_emit.2.2.2.2.2 [.ref v0, .int 6, .int 0] < r then (if pv_rc h2 v0 11 = true then (pv_tV (pM X m_Md_emit [.ref v0, .int 6, .int 0] h2)).bind (fun h3 => f_Md_products_5 X r v0 v1 h3) else none) else none) else none) else none) else none) else none := by
  show pS X r (none) k_Md_products 5 [some (.ref v0), some (.int v1)] [] h = _
  refine (ss_aload_n rfl rfl).trans ?_
  refine (ss_bipush rfl (v := 42) rfl).trans ?_
  refine (ssr_callVI (as := [.int 42]) rfl t_Md_hasSign (by decide) rfl rfl (by decide) (Or.inr rfl) (Nat.le_of_ble_eq_true rfl)).trans ?_
  refine pv_ite ?_ rfl
  refine pv_ite ?_ rfl
  refine congrArg (Option.bind _) (funext fun q1 => ?_)
  refine (ss_if_eq rfl).trans ?_
  refine pv_ite ?_ ?_
  · exact ss_return rfl
  · refine (ss_aload_n rfl rfl).trans ?_
    refine (ss_iload_n rfl rfl).trans ?_
    refine (ssr_callVN (as := [.int v1]) rfl t_Md_takePart (by decide) rfl rfl (by decide) rfl (Nat.le_of_ble_eq_true rfl)).trans ?_
    refine pv_ite ?_ rfl
    refine pv_ite ?_ rfl
    refine congrArg (Option.bind _) (funext fun h2 => ?_)
    refine (ss_aload_n rfl rfl).trans ?_
    refine (ss_bipush rfl (v := 6) rfl).trans ?_
    refine (ss_iconst rfl (v := 0) rfl).trans ?_
    refine (ssr_callVN (as := [.int 6, .int 0]) rfl t_Md_emit (by decide) rfl rfl (by decide) rfl (Nat.le_of_ble_eq_true rfl)).trans ?_
    refine pv_ite ?_ rfl
    refine pv_ite ?_ rfl
    refine congrArg (Option.bind _) (funext fun h3 => ?_)
    refine (ss_goto rfl).trans ?_
    rfl
theorem e_Md_products (X : pv_X) (v0 : Nat) (v1 : Int32) (h : pv_H) : pM X m_Md_products [.ref v0, .int v1] h = f_Md_products_0 X (m_Md_products.2.2.2.2.2 [.ref v0, .int v1]) v0 v1 h := rfl
noncomputable def f_Md_takePart_0 (X : pv_X) (r : Nat) (v0 : Nat) (v1 : Int32) (h : pv_H) : Option pv_O := pS X r (none) k_Md_takePart 0 [some (.ref v0), some (.int v1), none, none] [] h
noncomputable def f_Md_takePart_26 (X : pv_X) (r : Nat) (v0 : Nat) (v1 : Int32) (s0 : Int32) (h : pv_H) : Option pv_O := pS X r (none) k_Md_takePart 26 [some (.ref v0), some (.int v1), none, none] [.int s0] h
noncomputable def f_Md_takePart_69 (X : pv_X) (r : Nat) (v0 : Nat) (v1 : Int32) (v2 : Int32) (v3 : Int32) (h : pv_H) : Option pv_O := pS X r (none) k_Md_takePart 69 [some (.ref v0), some (.int v1), some (.int v2), some (.int v3)] [] h
noncomputable def f_Md_takePart_79 (X : pv_X) (r : Nat) (v0 : Nat) (v1 : Int32) (v2 : Int32) (v3 : Int32) (h : pv_H) : Option pv_O := pS X r (none) k_Md_takePart 79 [some (.ref v0), some (.int v1), some (.int v2), some (.int v3)] [] h
noncomputable def f_Md_takePart_147 (X : pv_X) (r : Nat) (v0 : Nat) (v1 : Int32) (v2 : Int32) (v3 : Int32) (s0 : Int32) (s1 : Nat) (h : pv_H) : Option pv_O := pS X r (none) k_Md_takePart 147 [some (.ref v0), some (.int v1), some (.int v2), some (.int v3)] [.int s0, .ref s1] h
noncomputable def f_Md_takePart_165 (X : pv_X) (r : Nat) (v0 : Nat) (v1 : Int32) (v2 : Int32) (v3 : Int32) (s0 : Int32) (s1 : Int32) (s2 : Nat) (h : pv_H) : Option pv_O := pS X r (none) k_Md_takePart 165 [some (.ref v0), some (.int v1), some (.int v2), some (.int v3)] [.int s0, .int s1, .ref s2] h
noncomputable def f_Md_takePart_178 (X : pv_X) (r : Nat) (v0 : Nat) (v1 : Int32) (v2 : Int32) (v3 : Int32) (h : pv_H) : Option pv_O := pS X r (none) k_Md_takePart 178 [some (.ref v0), some (.int v1), some (.int v2), some (.int v3)] [] h
set_option maxRecDepth 8000 in
theorem u_Md_takePart_0 (X : pv_X) (r : Nat) (v0 : Nat) (v1 : Int32) (h : pv_H) : f_Md_takePart_0 X r v0 v1 h =
    (pv_fI h v0 11 8).bind (fun x1 => if x1 ≤ 0 then (pv_fR h v0 11 4).bind (fun x2 => (pv_fI h v0 11 7).bind (fun x3 => (pv_aX X h x2 x3).bind (fun x4 => if ¬ x4 = 2 then f_Md_takePart_26 X r v0 v1 0 h else f_Md_takePart_26 X r v0 v1 1 h))) else some (none, h)) := by
  show pS X r (none) k_Md_takePart 0 [some (.ref v0), some (.int v1), none, none] [] h = _
  refine (ss_aload_n rfl rfl).trans ?_
  refine (ss_getI rfl).trans ?_
  refine congrArg (Option.bind _) (funext fun x1 => ?_)
  refine (ss_if_le rfl).trans ?_
  refine pv_ite ?_ ?_
  · refine (ss_aload_n rfl rfl).trans ?_
    refine (ss_getR rfl).trans ?_
    refine congrArg (Option.bind _) (funext fun x2 => ?_)
    refine (ss_aload_n rfl rfl).trans ?_
    refine (ss_getI rfl).trans ?_
    refine congrArg (Option.bind _) (funext fun x3 => ?_)
    refine (ss_iaload rfl).trans ?_
    refine congrArg (Option.bind _) (funext fun x4 => ?_)
    refine (ss_iconst rfl (v := 2) rfl).trans ?_
    refine (ss_icmp_ne rfl).trans ?_
    refine pv_ite ?_ ?_
    · refine (ss_iconst rfl (v := 0) rfl).trans ?_
      rfl
    · refine (ss_iconst rfl (v := 1) rfl).trans ?_
      refine (ss_goto rfl).trans ?_
      rfl
  · exact ss_return rfl
set_option maxRecDepth 8000 in
theorem u_Md_takePart_26 (X : pv_X) (r : Nat) (v0 : Nat) (v1 : Int32) (s0 : Int32) (h : pv_H) : f_Md_takePart_26 X r v0 v1 s0 h =
    if m_Md_wordHere.2.2.2.2.2 [.ref v0, .int 16, .int 4] < r then (if pv_rc h v0 11 = true then (pv_tI (pM X m_Md_wordHere [.ref v0, .int 16, .int 4] h)).bind (fun q1 => if 0 ≤ q1.1 then f_Md_takePart_69 X r v0 v1 s0 q1.1 q1.2 else if ¬ s0 = 0 then f_Md_takePart_69 X r v0 v1 s0 q1.1 q1.2 else if m_Md_isSign.2.2.2.2.2 [.ref v0, .int 40] < r then (if pv_rc q1.2 v0 11 = true then (pv_tI (pM X m_Md_isSign [.ref v0, .int 40] q1.2)).bind (fun q2 => if ¬ q2.1 = 0 then f_Md_takePart_69 X r v0 v1 s0 q1.1 q2.2 else if m_Md_isWord.2.2.2.2.2 [.ref v0, .int 13] < r then (if pv_rc q2.2 v0 11 = true then (pv_tI (pM X m_Md_isWord [.ref v0, .int 13] q2.2)).bind (fun q3 => if ¬ q3.1 = 0 then f_Md_takePart_69 X r v0 v1 s0 q1.1 q3.2 else if m_Md_wrong.2.2.2.2.2 [.ref v0, .int 1] < r then (if pv_rc q3.2 v0 11 = true then (pv_tV (pM X m_Md_wrong [.ref v0, .int 1] q3.2)).bind (fun h4 => f_Md_takePart_79 X r v0 v1 s0 q1.1 h4) else none) else none) else none) else none) else none) else none) else none) else none := by
  show pS X r (none) k_Md_takePart 26 [some (.ref v0), some (.int v1), none, none] [.int s0] h = _
  refine (ss_istore_n rfl rfl).trans ?_
  refine (ss_aload_n rfl rfl).trans ?_
  refine (ss_bipush rfl (v := 16) rfl).trans ?_
  refine (ss_iconst rfl (v := 4) rfl).trans ?_
  refine (ssr_callVI (as := [.int 16, .int 4]) rfl t_Md_wordHere (by decide) rfl rfl (by decide) (Or.inl rfl) (Nat.le_of_ble_eq_true rfl)).trans ?_
  refine pv_ite ?_ rfl
  refine pv_ite ?_ rfl
  refine congrArg (Option.bind _) (funext fun q1 => ?_)
  refine (ss_istore_n rfl rfl).trans ?_
  refine (ss_iload_n rfl rfl).trans ?_
  refine (ss_if_ge rfl).trans ?_
  refine pv_ite ?_ ?_
  · rfl
  · refine (ss_iload_n rfl rfl).trans ?_
    refine (ss_if_ne rfl).trans ?_
    refine pv_ite ?_ ?_
    · rfl
    · refine (ss_aload_n rfl rfl).trans ?_
      refine (ss_bipush rfl (v := 40) rfl).trans ?_
      refine (ssr_callVI (as := [.int 40]) rfl t_Md_isSign (by decide) rfl rfl (by decide) (Or.inr rfl) (Nat.le_of_ble_eq_true rfl)).trans ?_
      refine pv_ite ?_ rfl
      refine pv_ite ?_ rfl
      refine congrArg (Option.bind _) (funext fun q2 => ?_)
      refine (ss_if_ne rfl).trans ?_
      refine pv_ite ?_ ?_
      · rfl
      · refine (ss_aload_n rfl rfl).trans ?_
        refine (ss_bipush rfl (v := 13) rfl).trans ?_
        refine (ssr_callVI (as := [.int 13]) rfl t_Md_isWord (by decide) rfl rfl (by decide) (Or.inr rfl) (Nat.le_of_ble_eq_true rfl)).trans ?_
        refine pv_ite ?_ rfl
        refine pv_ite ?_ rfl
        refine congrArg (Option.bind _) (funext fun q3 => ?_)
        refine (ss_if_ne rfl).trans ?_
        refine pv_ite ?_ ?_
        · rfl
        · refine (ss_aload_n rfl rfl).trans ?_
          refine (ss_iconst rfl (v := 1) rfl).trans ?_
          refine (ssr_callVN (as := [.int 1]) rfl t_Md_wrong (by decide) rfl rfl (by decide) rfl (Nat.le_of_ble_eq_true rfl)).trans ?_
          refine pv_ite ?_ rfl
          refine pv_ite ?_ rfl
          refine congrArg (Option.bind _) (funext fun h4 => ?_)
          refine (ss_goto rfl).trans ?_
          rfl
set_option maxRecDepth 8000 in
theorem u_Md_takePart_69 (X : pv_X) (r : Nat) (v0 : Nat) (v1 : Int32) (v2 : Int32) (v3 : Int32) (h : pv_H) : f_Md_takePart_69 X r v0 v1 v2 v3 h =
    if ¬ v1 = 5 then f_Md_takePart_79 X r v0 v1 v2 v3 h else if m_Md_wrong.2.2.2.2.2 [.ref v0, .int 5] < r then (if pv_rc h v0 11 = true then (pv_tV (pM X m_Md_wrong [.ref v0, .int 5] h)).bind (fun h1 => f_Md_takePart_79 X r v0 v1 v2 v3 h1) else none) else none := by
  show pS X r (none) k_Md_takePart 69 [some (.ref v0), some (.int v1), some (.int v2), some (.int v3)] [] h = _
  refine (ss_iload_n rfl rfl).trans ?_
  refine (ss_iconst rfl (v := 5) rfl).trans ?_
  refine (ss_icmp_ne rfl).trans ?_
  refine pv_ite ?_ ?_
  · rfl
  · refine (ss_aload_n rfl rfl).trans ?_
    refine (ss_iconst rfl (v := 5) rfl).trans ?_
    refine (ssr_callVN (as := [.int 5]) rfl t_Md_wrong (by decide) rfl rfl (by decide) rfl (Nat.le_of_ble_eq_true rfl)).trans ?_
    refine pv_ite ?_ rfl
    refine pv_ite ?_ rfl
    refine congrArg (Option.bind _) (funext fun h1 => ?_)
    rfl
set_option maxRecDepth 8000 in
theorem u_Md_takePart_79 (X : pv_X) (r : Nat) (v0 : Nat) (v1 : Int32) (v2 : Int32) (v3 : Int32) (h : pv_H) : f_Md_takePart_79 X r v0 v1 v2 v3 h =
    (pv_fI h v0 11 8).bind (fun x1 => if x1 ≤ 0 then if m_Md_hasWord.2.2.2.2.2 [.ref v0, .int 13] < r then (if pv_rc h v0 11 = true then (pv_tI (pM X m_Md_hasWord [.ref v0, .int 13] h)).bind (fun q2 => if q2.1 = 0 then if m_Md_hasSign.2.2.2.2.2 [.ref v0, .int 40] < r then (if pv_rc q2.2 v0 11 = true then (pv_tI (pM X m_Md_hasSign [.ref v0, .int 40] q2.2)).bind (fun q3 => if q3.1 = 0 then if v2 = 0 then f_Md_takePart_147 X r v0 v1 v2 v3 2 v0 q3.2 else f_Md_takePart_147 X r v0 v1 v2 v3 1 v0 q3.2 else if m_Md_whole.2.2.2.2.2 [.ref v0, .int (v1 + 1)] < r then (if pv_rc q3.2 v0 11 = true then (pv_tV (pM X m_Md_whole [.ref v0, .int (v1 + 1)] q3.2)).bind (fun h4 => if m_Md_takeSign.2.2.2.2.2 [.ref v0, .int 41] < r then (if pv_rc h4 v0 11 = true then (pv_tV (pM X m_Md_takeSign [.ref v0, .int 41] h4)).bind (fun h5 => f_Md_takePart_178 X r v0 v1 v2 v3 h5) else none) else none) else none) else none) else none) else none else if m_Md_takePart.2.2.2.2.2 [.ref v0, .int (v1 + 1)] < r then (if pv_rc q2.2 v0 11 = true then (pv_tV (pM X m_Md_takePart [.ref v0, .int (v1 + 1)] q2.2)).bind (fun h6 => if m_Md_emit.2.2.2.2.2 [.ref v0, .int 3, .int 0] < r then (if pv_rc h6 v0 11 = true then (pv_tV (pM X m_Md_emit [.ref v0, .int 3, .int 0] h6)).bind (fun h7 => f_Md_takePart_178 X r v0 v1 v2 v3 h7) else none) else none) else none) else none) else none) else none else some (none, h)) := by
  show pS X r (none) k_Md_takePart 79 [some (.ref v0), some (.int v1), some (.int v2), some (.int v3)] [] h = _
  refine (ss_aload_n rfl rfl).trans ?_
  refine (ss_getI rfl).trans ?_
  refine congrArg (Option.bind _) (funext fun x1 => ?_)
  refine (ss_if_le rfl).trans ?_
  refine pv_ite ?_ ?_
  · refine (ss_aload_n rfl rfl).trans ?_
    refine (ss_bipush rfl (v := 13) rfl).trans ?_
    refine (ssr_callVI (as := [.int 13]) rfl t_Md_hasWord (by decide) rfl rfl (by decide) (Or.inr rfl) (Nat.le_of_ble_eq_true rfl)).trans ?_
    refine pv_ite ?_ rfl
    refine pv_ite ?_ rfl
    refine congrArg (Option.bind _) (funext fun q2 => ?_)
    refine (ss_if_eq rfl).trans ?_
    refine pv_ite ?_ ?_
    · refine (ss_aload_n rfl rfl).trans ?_
      refine (ss_bipush rfl (v := 40) rfl).trans ?_
      refine (ssr_callVI (as := [.int 40]) rfl t_Md_hasSign (by decide) rfl rfl (by decide) (Or.inr rfl) (Nat.le_of_ble_eq_true rfl)).trans ?_
      refine pv_ite ?_ rfl
      refine pv_ite ?_ rfl
      refine congrArg (Option.bind _) (funext fun q3 => ?_)
      refine (ss_if_eq rfl).trans ?_
      refine pv_ite ?_ ?_
      · refine (ss_aload_n rfl rfl).trans ?_
        refine (ss_iload_n rfl rfl).trans ?_
        refine (ss_if_eq rfl).trans ?_
        refine pv_ite ?_ ?_
        · refine (ss_iconst rfl (v := 2) rfl).trans ?_
          rfl
        · refine (ss_iconst rfl (v := 1) rfl).trans ?_
          refine (ss_goto rfl).trans ?_
          rfl
      · refine (ss_aload_n rfl rfl).trans ?_
        refine (ss_iload_n rfl rfl).trans ?_
        refine (ss_iconst rfl (v := 1) rfl).trans ?_
        refine (ss_iadd rfl).trans ?_
        refine (ssr_callVN (as := [.int (v1 + 1)]) rfl t_Md_whole (by decide) rfl rfl (by decide) rfl (Nat.le_of_ble_eq_true rfl)).trans ?_
        refine pv_ite ?_ rfl
        refine pv_ite ?_ rfl
        refine congrArg (Option.bind _) (funext fun h4 => ?_)
        refine (ss_aload_n rfl rfl).trans ?_
        refine (ss_bipush rfl (v := 41) rfl).trans ?_
        refine (ssr_callVN (as := [.int 41]) rfl t_Md_takeSign (by decide) rfl rfl (by decide) rfl (Nat.le_of_ble_eq_true rfl)).trans ?_
        refine pv_ite ?_ rfl
        refine pv_ite ?_ rfl
        refine congrArg (Option.bind _) (funext fun h5 => ?_)
        refine (ss_goto rfl).trans ?_
        rfl
    · refine (ss_aload_n rfl rfl).trans ?_
      refine (ss_iload_n rfl rfl).trans ?_
      refine (ss_iconst rfl (v := 1) rfl).trans ?_
      refine (ss_iadd rfl).trans ?_
      refine (ssr_callVN (as := [.int (v1 + 1)]) rfl t_Md_takePart (by decide) rfl rfl (by decide) rfl (Nat.le_of_ble_eq_true rfl)).trans ?_
      refine pv_ite ?_ rfl
      refine pv_ite ?_ rfl
      refine congrArg (Option.bind _) (funext fun h6 => ?_)
      refine (ss_aload_n rfl rfl).trans ?_
      refine (ss_iconst rfl (v := 3) rfl).trans ?_
      refine (ss_iconst rfl (v := 0) rfl).trans ?_
      refine (ssr_callVN (as := [.int 3, .int 0]) rfl t_Md_emit (by decide) rfl rfl (by decide) rfl (Nat.le_of_ble_eq_true rfl)).trans ?_
      refine pv_ite ?_ rfl
      refine pv_ite ?_ rfl
      refine congrArg (Option.bind _) (funext fun h7 => ?_)
      refine (ss_goto rfl).trans ?_
      rfl
  · exact ss_return rfl
set_option maxRecDepth 8000 in
theorem u_Md_takePart_147 (X : pv_X) (r : Nat) (v0 : Nat) (v1 : Int32) (v2 : Int32) (v3 : Int32) (s0 : Int32) (s1 : Nat) (h : pv_H) : f_Md_takePart_147 X r v0 v1 v2 v3 s0 s1 h =
    if v2 = 0 then f_Md_takePart_165 X r v0 v1 v2 v3 v3 s0 s1 h else (pv_fR h v0 11 6).bind (fun x1 => (pv_fI h v0 11 7).bind (fun x2 => (pv_aJ h x1 x2).bind (fun x3 => f_Md_takePart_165 X r v0 v1 v2 v3 (x3 : Int64).toInt32 s0 s1 h))) := by
  show pS X r (none) k_Md_takePart 147 [some (.ref v0), some (.int v1), some (.int v2), some (.int v3)] [.int s0, .ref s1] h = _
  refine (ss_iload_n rfl rfl).trans ?_
  refine (ss_if_eq rfl).trans ?_
  refine pv_ite ?_ ?_
  · refine (ss_iload_n rfl rfl).trans ?_
    rfl
  · refine (ss_aload_n rfl rfl).trans ?_
    refine (ss_getR rfl).trans ?_
    refine congrArg (Option.bind _) (funext fun x1 => ?_)
    refine (ss_aload_n rfl rfl).trans ?_
    refine (ss_getI rfl).trans ?_
    refine congrArg (Option.bind _) (funext fun x2 => ?_)
    refine (ss_laload rfl).trans ?_
    refine congrArg (Option.bind _) (funext fun x3 => ?_)
    refine (ss_l2i rfl).trans ?_
    refine (ss_goto rfl).trans ?_
    rfl
set_option maxRecDepth 8000 in
theorem u_Md_takePart_165 (X : pv_X) (r : Nat) (v0 : Nat) (v1 : Int32) (v2 : Int32) (v3 : Int32) (s0 : Int32) (s1 : Int32) (s2 : Nat) (h : pv_H) : f_Md_takePart_165 X r v0 v1 v2 v3 s0 s1 s2 h =
    if m_Md_emit.2.2.2.2.2 [.ref s2, .int s1, .int s0] < r then (if pv_rc h s2 11 = true then (pv_tV (pM X m_Md_emit [.ref s2, .int s1, .int s0] h)).bind (fun h1 => (pv_fI h1 v0 11 7).bind (fun x2 => (pv_fp h1 v0 11 7 (.int (x2 + 1))).bind (fun h3 => f_Md_takePart_178 X r v0 v1 v2 v3 h3))) else none) else none := by
  show pS X r (none) k_Md_takePart 165 [some (.ref v0), some (.int v1), some (.int v2), some (.int v3)] [.int s0, .int s1, .ref s2] h = _
  refine (ssr_callVN (as := [.int s1, .int s0]) rfl t_Md_emit (by decide) rfl rfl (by decide) rfl (Nat.le_of_ble_eq_true rfl)).trans ?_
  refine pv_ite ?_ rfl
  refine pv_ite ?_ rfl
  refine congrArg (Option.bind _) (funext fun h1 => ?_)
  refine (ss_aload_n rfl rfl).trans ?_
  refine (ss_dupR rfl).trans ?_
  refine (ss_getI rfl).trans ?_
  refine congrArg (Option.bind _) (funext fun x2 => ?_)
  refine (ss_iconst rfl (v := 1) rfl).trans ?_
  refine (ss_iadd rfl).trans ?_
  refine (ss_putI rfl).trans ?_
  refine congrArg (Option.bind _) (funext fun h3 => ?_)
  rfl
set_option maxRecDepth 8000 in
theorem u_Md_takePart_178 (X : pv_X) (r : Nat) (v0 : Nat) (v1 : Int32) (v2 : Int32) (v3 : Int32) (h : pv_H) : f_Md_takePart_178 X r v0 v1 v2 v3 h =
    some (none, h) := by
  show pS X r (none) k_Md_takePart 178 [some (.ref v0), some (.int v1), some (.int v2), some (.int v3)] [] h = _
  exact ss_return rfl
theorem e_Md_takePart (X : pv_X) (v0 : Nat) (v1 : Int32) (h : pv_H) : pM X m_Md_takePart [.ref v0, .int v1] h = f_Md_takePart_0 X (m_Md_takePart.2.2.2.2.2 [.ref v0, .int v1]) v0 v1 h := rfl
noncomputable def f_Md_worthAt_0 (X : pv_X) (v0 : Nat) (v1 : Int32) (h : pv_H) : Option pv_O := pS X 2 (some .int) k_Md_worthAt 0 [some (.ref v0), some (.int v1), none, none, none] [] h
noncomputable def f_Md_worthAt_4 (X : pv_X) (v0 : Nat) (v1 : Int32) (v2 : Int32) (v3 : Int32) (o4 : Option Value) (h : pv_H) : Option pv_O := pS X 2 (some .int) k_Md_worthAt 4 [some (.ref v0), some (.int v1), some (.int v2), some (.int v3), o4] [] h
noncomputable def f_Md_worthAt_33 (X : pv_X) (v0 : Nat) (v1 : Int32) (v2 : Int32) (v3 : Int32) (v4 : Int32) (h : pv_H) : Option pv_O := pS X 2 (some .int) k_Md_worthAt 33 [some (.ref v0), some (.int v1), some (.int v2), some (.int v3), some (.int v4)] [] h
noncomputable def f_Md_worthAt_64 (X : pv_X) (v0 : Nat) (v1 : Int32) (v2 : Int32) (v3 : Int32) (v4 : Int32) (s0 : Int32) (s1 : Int32) (s2 : Nat) (h : pv_H) : Option pv_O := pS X 2 (some .int) k_Md_worthAt 64 [some (.ref v0), some (.int v1), some (.int v2), some (.int v3), some (.int v4)] [.int s0, .int s1, .ref s2] h
noncomputable def f_Md_worthAt_100 (X : pv_X) (v0 : Nat) (v1 : Int32) (v2 : Int32) (v3 : Int32) (v4 : Int32) (s0 : Int32) (s1 : Int32) (s2 : Nat) (h : pv_H) : Option pv_O := pS X 2 (some .int) k_Md_worthAt 100 [some (.ref v0), some (.int v1), some (.int v2), some (.int v3), some (.int v4)] [.int s0, .int s1, .ref s2] h
noncomputable def f_Md_worthAt_134 (X : pv_X) (v0 : Nat) (v1 : Int32) (v2 : Int32) (v3 : Int32) (v4 : Int32) (h : pv_H) : Option pv_O := pS X 2 (some .int) k_Md_worthAt 134 [some (.ref v0), some (.int v1), some (.int v2), some (.int v3), some (.int v4)] [] h
set_option maxRecDepth 8000 in
theorem u_Md_worthAt_0 (X : pv_X) (v0 : Nat) (v1 : Int32) (h : pv_H) : f_Md_worthAt_0 X v0 v1 h =
    f_Md_worthAt_4 X v0 v1 0 v1 none h := by
  show pS X 2 (some .int) k_Md_worthAt 0 [some (.ref v0), some (.int v1), none, none, none] [] h = _
  refine (ss_iconst rfl (v := 0) rfl).trans ?_
  refine (ss_istore_n rfl rfl).trans ?_
  refine (ss_iload_n rfl rfl).trans ?_
  refine (ss_istore_n rfl rfl).trans ?_
  rfl
set_option maxRecDepth 8000 in
theorem u_Md_worthAt_4 (X : pv_X) (v0 : Nat) (v1 : Int32) (v2 : Int32) (v3 : Int32) (o4 : Option Value) (h : pv_H) : f_Md_worthAt_4 X v0 v1 v2 v3 o4 h =
    (pv_fR h v0 11 11).bind (fun x1 => (pv_aX X h x1 v3).bind (fun x2 => if x2 = 0 then (pv_fR h v0 11 20).bind (fun x3 => (pv_aX X h x3 0).bind (fun x4 => some (some (.int x4), h))) else (pv_fR h v0 11 11).bind (fun x5 => (pv_aX X h x5 v3).bind (fun x6 => if x6 = 1 then f_Md_worthAt_33 X v0 v1 v2 v3 x6 h else if ¬ x6 = 2 then if ¬ x6 = 3 then (pv_fR h v0 11 20).bind (fun x7 => (pv_fR h v0 11 20).bind (fun x8 => (pv_aX X h x8 ((v2 + (-1)) - 1)).bind (fun x9 => (pv_fR h v0 11 20).bind (fun x10 => (pv_aX X h x10 (v2 + (-1))).bind (fun x11 => (pv_tI (pM X m_Md_both [.int x6, .int x9, .int x11] h)).bind (fun q12 => (pv_sI q12.2 x7 ((v2 + (-1)) - 1) q12.1).bind (fun h13 => f_Md_worthAt_134 X v0 v1 (v2 + (-1)) v3 x6 h13))))))) else (pv_fR h v0 11 20).bind (fun x14 => (pv_fR h v0 11 20).bind (fun x15 => (pv_aX X h x15 (v2 - 1)).bind (fun x16 => if ¬ x16 = 0 then f_Md_worthAt_100 X v0 v1 v2 v3 x6 0 (v2 - 1) x14 h else f_Md_worthAt_100 X v0 v1 v2 v3 x6 1 (v2 - 1) x14 h))) else f_Md_worthAt_33 X v0 v1 v2 v3 x6 h)))) := by
  show pS X 2 (some .int) k_Md_worthAt 4 [some (.ref v0), some (.int v1), some (.int v2), some (.int v3), o4] [] h = _
  refine (ss_aload_n rfl rfl).trans ?_
  refine (ss_getR rfl).trans ?_
  refine congrArg (Option.bind _) (funext fun x1 => ?_)
  refine (ss_iload_n rfl rfl).trans ?_
  refine (ss_iaload rfl).trans ?_
  refine congrArg (Option.bind _) (funext fun x2 => ?_)
  refine (ss_if_eq rfl).trans ?_
  refine pv_ite ?_ ?_
  · refine (ss_aload_n rfl rfl).trans ?_
    refine (ss_getR rfl).trans ?_
    refine congrArg (Option.bind _) (funext fun x3 => ?_)
    refine (ss_iconst rfl (v := 0) rfl).trans ?_
    refine (ss_iaload rfl).trans ?_
    refine congrArg (Option.bind _) (funext fun x4 => ?_)
    exact ss_ireturn rfl
  · refine (ss_aload_n rfl rfl).trans ?_
    refine (ss_getR rfl).trans ?_
    refine congrArg (Option.bind _) (funext fun x5 => ?_)
    refine (ss_iload_n rfl rfl).trans ?_
    refine (ss_iaload rfl).trans ?_
    refine congrArg (Option.bind _) (funext fun x6 => ?_)
    refine (ss_istore rfl rfl).trans ?_
    refine (ss_iload rfl rfl).trans ?_
    refine (ss_iconst rfl (v := 1) rfl).trans ?_
    refine (ss_icmp_eq rfl).trans ?_
    refine pv_ite ?_ ?_
    · rfl
    · refine (ss_iload rfl rfl).trans ?_
      refine (ss_iconst rfl (v := 2) rfl).trans ?_
      refine (ss_icmp_ne rfl).trans ?_
      refine pv_ite ?_ ?_
      · refine (ss_iload rfl rfl).trans ?_
        refine (ss_iconst rfl (v := 3) rfl).trans ?_
        refine (ss_icmp_ne rfl).trans ?_
        refine pv_ite ?_ ?_
        · refine (ss_iinc3 rfl rfl (v := v2 + (-1)) (congrArg (HAdd.hAdd _) (show Int32.ofInt (-1) = (-1) by decide)) rfl).trans ?_
          refine (ss_aload_n rfl rfl).trans ?_
          refine (ss_getR rfl).trans ?_
          refine congrArg (Option.bind _) (funext fun x7 => ?_)
          refine (ss_iload_n rfl rfl).trans ?_
          refine (ss_iconst rfl (v := 1) rfl).trans ?_
          refine (ss_isub rfl).trans ?_
          refine (ss_iload rfl rfl).trans ?_
          refine (ss_aload_n rfl rfl).trans ?_
          refine (ss_getR rfl).trans ?_
          refine congrArg (Option.bind _) (funext fun x8 => ?_)
          refine (ss_iload_n rfl rfl).trans ?_
          refine (ss_iconst rfl (v := 1) rfl).trans ?_
          refine (ss_isub rfl).trans ?_
          refine (ss_iaload rfl).trans ?_
          refine congrArg (Option.bind _) (funext fun x9 => ?_)
          refine (ss_aload_n rfl rfl).trans ?_
          refine (ss_getR rfl).trans ?_
          refine congrArg (Option.bind _) (funext fun x10 => ?_)
          refine (ss_iload_n rfl rfl).trans ?_
          refine (ss_iaload rfl).trans ?_
          refine congrArg (Option.bind _) (funext fun x11 => ?_)
          refine (ss_callSI (as := [.int x6, .int x9, .int x11]) rfl t_Md_both (by decide) rfl rfl (by simp [Value.category]) (Or.inl rfl) ⟨Nat.le_of_ble_eq_true rfl, Nat.le_of_ble_eq_true rfl⟩).trans ?_
          refine congrArg (Option.bind _) (funext fun q12 => ?_)
          refine (ss_iastore rfl).trans ?_
          refine congrArg (Option.bind _) (funext fun h13 => ?_)
          rfl
        · refine (ss_aload_n rfl rfl).trans ?_
          refine (ss_getR rfl).trans ?_
          refine congrArg (Option.bind _) (funext fun x14 => ?_)
          refine (ss_iload_n rfl rfl).trans ?_
          refine (ss_iconst rfl (v := 1) rfl).trans ?_
          refine (ss_isub rfl).trans ?_
          refine (ss_aload_n rfl rfl).trans ?_
          refine (ss_getR rfl).trans ?_
          refine congrArg (Option.bind _) (funext fun x15 => ?_)
          refine (ss_iload_n rfl rfl).trans ?_
          refine (ss_iconst rfl (v := 1) rfl).trans ?_
          refine (ss_isub rfl).trans ?_
          refine (ss_iaload rfl).trans ?_
          refine congrArg (Option.bind _) (funext fun x16 => ?_)
          refine (ss_if_ne rfl).trans ?_
          refine pv_ite ?_ ?_
          · refine (ss_iconst rfl (v := 0) rfl).trans ?_
            rfl
          · refine (ss_iconst rfl (v := 1) rfl).trans ?_
            refine (ss_goto rfl).trans ?_
            rfl
      · rfl
set_option maxRecDepth 8000 in
theorem u_Md_worthAt_33 (X : pv_X) (v0 : Nat) (v1 : Int32) (v2 : Int32) (v3 : Int32) (v4 : Int32) (h : pv_H) : f_Md_worthAt_33 X v0 v1 v2 v3 v4 h =
    (pv_fR h v0 11 20).bind (fun x1 => if ¬ v4 = 1 then (pv_fR h v0 11 19).bind (fun x2 => (pv_fR h v0 11 12).bind (fun x3 => (pv_aX X h x3 v3).bind (fun x4 => (pv_aX X h x2 x4).bind (fun x5 => f_Md_worthAt_64 X v0 v1 v2 v3 v4 x5 v2 x1 h)))) else (pv_fR h v0 11 12).bind (fun x6 => (pv_aX X h x6 v3).bind (fun x7 => f_Md_worthAt_64 X v0 v1 v2 v3 v4 x7 v2 x1 h))) := by
  show pS X 2 (some .int) k_Md_worthAt 33 [some (.ref v0), some (.int v1), some (.int v2), some (.int v3), some (.int v4)] [] h = _
  refine (ss_aload_n rfl rfl).trans ?_
  refine (ss_getR rfl).trans ?_
  refine congrArg (Option.bind _) (funext fun x1 => ?_)
  refine (ss_iload_n rfl rfl).trans ?_
  refine (ss_iload rfl rfl).trans ?_
  refine (ss_iconst rfl (v := 1) rfl).trans ?_
  refine (ss_icmp_ne rfl).trans ?_
  refine pv_ite ?_ ?_
  · refine (ss_aload_n rfl rfl).trans ?_
    refine (ss_getR rfl).trans ?_
    refine congrArg (Option.bind _) (funext fun x2 => ?_)
    refine (ss_aload_n rfl rfl).trans ?_
    refine (ss_getR rfl).trans ?_
    refine congrArg (Option.bind _) (funext fun x3 => ?_)
    refine (ss_iload_n rfl rfl).trans ?_
    refine (ss_iaload rfl).trans ?_
    refine congrArg (Option.bind _) (funext fun x4 => ?_)
    refine (ss_iaload rfl).trans ?_
    refine congrArg (Option.bind _) (funext fun x5 => ?_)
    rfl
  · refine (ss_aload_n rfl rfl).trans ?_
    refine (ss_getR rfl).trans ?_
    refine congrArg (Option.bind _) (funext fun x6 => ?_)
    refine (ss_iload_n rfl rfl).trans ?_
    refine (ss_iaload rfl).trans ?_
    refine congrArg (Option.bind _) (funext fun x7 => ?_)
    refine (ss_goto rfl).trans ?_
    rfl
set_option maxRecDepth 8000 in
theorem u_Md_worthAt_64 (X : pv_X) (v0 : Nat) (v1 : Int32) (v2 : Int32) (v3 : Int32) (v4 : Int32) (s0 : Int32) (s1 : Int32) (s2 : Nat) (h : pv_H) : f_Md_worthAt_64 X v0 v1 v2 v3 v4 s0 s1 s2 h =
    (pv_sI h s2 s1 s0).bind (fun h1 => f_Md_worthAt_134 X v0 v1 (v2 + 1) v3 v4 h1) := by
  show pS X 2 (some .int) k_Md_worthAt 64 [some (.ref v0), some (.int v1), some (.int v2), some (.int v3), some (.int v4)] [.int s0, .int s1, .ref s2] h = _
  refine (ss_iastore rfl).trans ?_
  refine congrArg (Option.bind _) (funext fun h1 => ?_)
  refine (ss_iinc3 rfl rfl (v := v2 + 1) (congrArg (HAdd.hAdd _) (show Int32.ofInt (1) = 1 by decide)) rfl).trans ?_
  refine (ss_goto rfl).trans ?_
  rfl
set_option maxRecDepth 8000 in
theorem u_Md_worthAt_100 (X : pv_X) (v0 : Nat) (v1 : Int32) (v2 : Int32) (v3 : Int32) (v4 : Int32) (s0 : Int32) (s1 : Int32) (s2 : Nat) (h : pv_H) : f_Md_worthAt_100 X v0 v1 v2 v3 v4 s0 s1 s2 h =
    (pv_sI h s2 s1 s0).bind (fun h1 => f_Md_worthAt_134 X v0 v1 v2 v3 v4 h1) := by
  show pS X 2 (some .int) k_Md_worthAt 100 [some (.ref v0), some (.int v1), some (.int v2), some (.int v3), some (.int v4)] [.int s0, .int s1, .ref s2] h = _
  refine (ss_iastore rfl).trans ?_
  refine congrArg (Option.bind _) (funext fun h1 => ?_)
  refine (ss_goto rfl).trans ?_
  rfl
set_option maxRecDepth 8000 in
theorem u_Md_worthAt_134 (X : pv_X) (v0 : Nat) (v1 : Int32) (v2 : Int32) (v3 : Int32) (v4 : Int32) (h : pv_H) : f_Md_worthAt_134 X v0 v1 v2 v3 v4 h =
    f_Md_worthAt_4 X v0 v1 v2 (v3 + 1) (some (.int v4)) h := by
  show pS X 2 (some .int) k_Md_worthAt 134 [some (.ref v0), some (.int v1), some (.int v2), some (.int v3), some (.int v4)] [] h = _
  refine (ss_iinc3 rfl rfl (v := v3 + 1) (congrArg (HAdd.hAdd _) (show Int32.ofInt (1) = 1 by decide)) rfl).trans ?_
  refine (ss_goto rfl).trans ?_
  rfl
theorem e_Md_worthAt (X : pv_X) (v0 : Nat) (v1 : Int32) (h : pv_H) : pM X m_Md_worthAt [.ref v0, .int v1] h = f_Md_worthAt_0 X v0 v1 h := rfl
noncomputable def f_Md_both_0 (X : pv_X) (v0 : Int32) (v1 : Int32) (v2 : Int32) (h : pv_H) : Option pv_O := pS X 1 (some .int) k_Md_both 0 [some (.int v0), some (.int v1), some (.int v2)] [] h
noncomputable def f_Md_both_62 (X : pv_X) (v0 : Int32) (v1 : Int32) (v2 : Int32) (s0 : Int32) (h : pv_H) : Option pv_O := pS X 1 (some .int) k_Md_both 62 [some (.int v0), some (.int v1), some (.int v2)] [.int s0] h
noncomputable def f_Md_both_73 (X : pv_X) (v0 : Int32) (v1 : Int32) (v2 : Int32) (s0 : Int32) (h : pv_H) : Option pv_O := pS X 1 (some .int) k_Md_both 73 [some (.int v0), some (.int v1), some (.int v2)] [.int s0] h
noncomputable def f_Md_both_86 (X : pv_X) (v0 : Int32) (v1 : Int32) (v2 : Int32) (h : pv_H) : Option pv_O := pS X 1 (some .int) k_Md_both 86 [some (.int v0), some (.int v1), some (.int v2)] [] h
noncomputable def f_Md_both_87 (X : pv_X) (v0 : Int32) (v1 : Int32) (v2 : Int32) (s0 : Int32) (h : pv_H) : Option pv_O := pS X 1 (some .int) k_Md_both 87 [some (.int v0), some (.int v1), some (.int v2)] [.int s0] h
noncomputable def f_Md_both_96 (X : pv_X) (v0 : Int32) (v1 : Int32) (v2 : Int32) (h : pv_H) : Option pv_O := pS X 1 (some .int) k_Md_both 96 [some (.int v0), some (.int v1), some (.int v2)] [] h
noncomputable def f_Md_both_101 (X : pv_X) (v0 : Int32) (v1 : Int32) (v2 : Int32) (s0 : Int32) (h : pv_H) : Option pv_O := pS X 1 (some .int) k_Md_both 101 [some (.int v0), some (.int v1), some (.int v2)] [.int s0] h
set_option maxRecDepth 8000 in
theorem u_Md_both_0 (X : pv_X) (v0 : Int32) (v1 : Int32) (v2 : Int32) (h : pv_H) : f_Md_both_0 X v0 v1 v2 h =
    if v0 = 4 then some (some (.int (v1 + v2)), h) else if v0 = 5 then some (some (.int (v1 - v2)), h) else if v0 = 6 then some (some (.int (v1 * v2)), h) else if v0 = 7 then if v2 ≤ v1 then f_Md_both_62 X v0 v1 v2 0 h else f_Md_both_62 X v0 v1 v2 1 h else if v0 = 8 then if ¬ v1 = v2 then f_Md_both_73 X v0 v1 v2 0 h else f_Md_both_73 X v0 v1 v2 1 h else if v0 = 9 then if v1 = 0 then f_Md_both_86 X v0 v1 v2 h else if v2 = 0 then f_Md_both_86 X v0 v1 v2 h else f_Md_both_87 X v0 v1 v2 1 h else if ¬ v1 = 0 then f_Md_both_96 X v0 v1 v2 h else if v2 = 0 then f_Md_both_101 X v0 v1 v2 0 h else f_Md_both_96 X v0 v1 v2 h := by
  show pS X 1 (some .int) k_Md_both 0 [some (.int v0), some (.int v1), some (.int v2)] [] h = _
  refine (ss_iload_n rfl rfl).trans ?_
  refine (ss_table rfl).trans ?_
  by_cases c1 : v0 = 4
  · rw [if_pos c1, c1]
    show pS X _ _ _ 40 _ _ _ = _
    refine (ss_iload_n rfl rfl).trans ?_
    refine (ss_iload_n rfl rfl).trans ?_
    refine (ss_iadd rfl).trans ?_
    exact ss_ireturn rfl
  rw [if_neg c1]
  by_cases c2 : v0 = 5
  · rw [if_pos c2, c2]
    show pS X _ _ _ 44 _ _ _ = _
    refine (ss_iload_n rfl rfl).trans ?_
    refine (ss_iload_n rfl rfl).trans ?_
    refine (ss_isub rfl).trans ?_
    exact ss_ireturn rfl
  rw [if_neg c2]
  by_cases c3 : v0 = 6
  · rw [if_pos c3, c3]
    show pS X _ _ _ 48 _ _ _ = _
    refine (ss_iload_n rfl rfl).trans ?_
    refine (ss_iload_n rfl rfl).trans ?_
    refine (ss_imul rfl).trans ?_
    exact ss_ireturn rfl
  rw [if_neg c3]
  by_cases c4 : v0 = 7
  · rw [if_pos c4, c4]
    show pS X _ _ _ 52 _ _ _ = _
    refine (ss_iload_n rfl rfl).trans ?_
    refine (ss_iload_n rfl rfl).trans ?_
    refine (ss_icmp_ge rfl).trans ?_
    refine pv_ite ?_ ?_
    · refine (ss_iconst rfl (v := 0) rfl).trans ?_
      rfl
    · refine (ss_iconst rfl (v := 1) rfl).trans ?_
      refine (ss_goto rfl).trans ?_
      rfl
  rw [if_neg c4]
  by_cases c5 : v0 = 8
  · rw [if_pos c5, c5]
    show pS X _ _ _ 63 _ _ _ = _
    refine (ss_iload_n rfl rfl).trans ?_
    refine (ss_iload_n rfl rfl).trans ?_
    refine (ss_icmp_ne rfl).trans ?_
    refine pv_ite ?_ ?_
    · refine (ss_iconst rfl (v := 0) rfl).trans ?_
      rfl
    · refine (ss_iconst rfl (v := 1) rfl).trans ?_
      refine (ss_goto rfl).trans ?_
      rfl
  rw [if_neg c5]
  by_cases c6 : v0 = 9
  · rw [if_pos c6, c6]
    show pS X _ _ _ 74 _ _ _ = _
    refine (ss_iload_n rfl rfl).trans ?_
    refine (ss_if_eq rfl).trans ?_
    refine pv_ite ?_ ?_
    · rfl
    · refine (ss_iload_n rfl rfl).trans ?_
      refine (ss_if_eq rfl).trans ?_
      refine pv_ite ?_ ?_
      · rfl
      · refine (ss_iconst rfl (v := 1) rfl).trans ?_
        refine (ss_goto rfl).trans ?_
        rfl
  rw [if_neg c6]
  rw [pv_sw_out (pc := 1) (q := 88) (d := 87) (lo := 4) (hi := 9) (by decide) (by decide) (by have z0 := pv_ne c1 (k := 4) (z := 4) (by decide); have z1 := pv_ne c2 (k := 5) (z := 5) (by decide); have z2 := pv_ne c3 (k := 6) (z := 6) (by decide); have z3 := pv_ne c4 (k := 7) (z := 7) (by decide); have z4 := pv_ne c5 (k := 8) (z := 8) (by decide); have z5 := pv_ne c6 (k := 9) (z := 9) (by decide); omega)]
  show pS X _ _ _ 88 _ _ _ = _
  refine (ss_iload_n rfl rfl).trans ?_
  refine (ss_if_ne rfl).trans ?_
  refine pv_ite ?_ ?_
  · rfl
  · refine (ss_iload_n rfl rfl).trans ?_
    refine (ss_if_eq rfl).trans ?_
    refine pv_ite ?_ ?_
    · refine (ss_iconst rfl (v := 0) rfl).trans ?_
      rfl
    · rfl
set_option maxRecDepth 8000 in
theorem u_Md_both_62 (X : pv_X) (v0 : Int32) (v1 : Int32) (v2 : Int32) (s0 : Int32) (h : pv_H) : f_Md_both_62 X v0 v1 v2 s0 h =
    some (some (.int s0), h) := by
  show pS X 1 (some .int) k_Md_both 62 [some (.int v0), some (.int v1), some (.int v2)] [.int s0] h = _
  exact ss_ireturn rfl
set_option maxRecDepth 8000 in
theorem u_Md_both_73 (X : pv_X) (v0 : Int32) (v1 : Int32) (v2 : Int32) (s0 : Int32) (h : pv_H) : f_Md_both_73 X v0 v1 v2 s0 h =
    some (some (.int s0), h) := by
  show pS X 1 (some .int) k_Md_both 73 [some (.int v0), some (.int v1), some (.int v2)] [.int s0] h = _
  exact ss_ireturn rfl
set_option maxRecDepth 8000 in
theorem u_Md_both_86 (X : pv_X) (v0 : Int32) (v1 : Int32) (v2 : Int32) (h : pv_H) : f_Md_both_86 X v0 v1 v2 h =
    f_Md_both_87 X v0 v1 v2 0 h := by
  show pS X 1 (some .int) k_Md_both 86 [some (.int v0), some (.int v1), some (.int v2)] [] h = _
  refine (ss_iconst rfl (v := 0) rfl).trans ?_
  rfl
set_option maxRecDepth 8000 in
theorem u_Md_both_87 (X : pv_X) (v0 : Int32) (v1 : Int32) (v2 : Int32) (s0 : Int32) (h : pv_H) : f_Md_both_87 X v0 v1 v2 s0 h =
    some (some (.int s0), h) := by
  show pS X 1 (some .int) k_Md_both 87 [some (.int v0), some (.int v1), some (.int v2)] [.int s0] h = _
  exact ss_ireturn rfl
set_option maxRecDepth 8000 in
theorem u_Md_both_96 (X : pv_X) (v0 : Int32) (v1 : Int32) (v2 : Int32) (h : pv_H) : f_Md_both_96 X v0 v1 v2 h =
    f_Md_both_101 X v0 v1 v2 1 h := by
  show pS X 1 (some .int) k_Md_both 96 [some (.int v0), some (.int v1), some (.int v2)] [] h = _
  refine (ss_iconst rfl (v := 1) rfl).trans ?_
  refine (ss_goto rfl).trans ?_
  rfl
set_option maxRecDepth 8000 in
theorem u_Md_both_101 (X : pv_X) (v0 : Int32) (v1 : Int32) (v2 : Int32) (s0 : Int32) (h : pv_H) : f_Md_both_101 X v0 v1 v2 s0 h =
    some (some (.int s0), h) := by
  show pS X 1 (some .int) k_Md_both 101 [some (.int v0), some (.int v1), some (.int v2)] [.int s0] h = _
  exact ss_ireturn rfl
theorem e_Md_both (X : pv_X) (v0 : Int32) (v1 : Int32) (v2 : Int32) (h : pv_H) : pM X m_Md_both [.int v0, .int v1, .int v2] h = f_Md_both_0 X v0 v1 v2 h := rfl
noncomputable def f_Md_copies_0 (X : pv_X) (v0 : Nat) (v1 : Int32) (v2 : Int32) (v3 : Int32) (h : pv_H) : Option pv_O := pS X 1 (none) k_Md_copies 0 [some (.ref v0), some (.int v1), some (.int v2), some (.int v3), none] [] h
noncomputable def f_Md_copies_3 (X : pv_X) (v0 : Nat) (v1 : Int32) (v2 : Int32) (v3 : Int32) (v4 : Int32) (h : pv_H) : Option pv_O := pS X 1 (none) k_Md_copies 3 [some (.ref v0), some (.int v1), some (.int v2), some (.int v3), some (.int v4)] [] h
set_option maxRecDepth 8000 in
theorem u_Md_copies_0 (X : pv_X) (v0 : Nat) (v1 : Int32) (v2 : Int32) (v3 : Int32) (h : pv_H) : f_Md_copies_0 X v0 v1 v2 v3 h =
    f_Md_copies_3 X v0 v1 v2 v3 0 h := by
  show pS X 1 (none) k_Md_copies 0 [some (.ref v0), some (.int v1), some (.int v2), some (.int v3), none] [] h = _
  refine (ss_iconst rfl (v := 0) rfl).trans ?_
  refine (ss_istore rfl rfl).trans ?_
  rfl
set_option maxRecDepth 8000 in
theorem u_Md_copies_3 (X : pv_X) (v0 : Nat) (v1 : Int32) (v2 : Int32) (v3 : Int32) (v4 : Int32) (h : pv_H) : f_Md_copies_3 X v0 v1 v2 v3 v4 h =
    if v3 ≤ v4 then some (none, h) else (pv_fR h v0 11 21).bind (fun x1 => (pv_fR h v0 11 21).bind (fun x2 => (pv_aX X h x2 (v1 + v4)).bind (fun x3 => (pv_sI h x1 (v2 + v4) x3).bind (fun h4 => f_Md_copies_3 X v0 v1 v2 v3 (v4 + 1) h4)))) := by
  show pS X 1 (none) k_Md_copies 3 [some (.ref v0), some (.int v1), some (.int v2), some (.int v3), some (.int v4)] [] h = _
  refine (ss_iload rfl rfl).trans ?_
  refine (ss_iload_n rfl rfl).trans ?_
  refine (ss_icmp_ge rfl).trans ?_
  refine pv_ite ?_ ?_
  · exact ss_return rfl
  · refine (ss_aload_n rfl rfl).trans ?_
    refine (ss_getR rfl).trans ?_
    refine congrArg (Option.bind _) (funext fun x1 => ?_)
    refine (ss_iload_n rfl rfl).trans ?_
    refine (ss_iload rfl rfl).trans ?_
    refine (ss_iadd rfl).trans ?_
    refine (ss_aload_n rfl rfl).trans ?_
    refine (ss_getR rfl).trans ?_
    refine congrArg (Option.bind _) (funext fun x2 => ?_)
    refine (ss_iload_n rfl rfl).trans ?_
    refine (ss_iload rfl rfl).trans ?_
    refine (ss_iadd rfl).trans ?_
    refine (ss_iaload rfl).trans ?_
    refine congrArg (Option.bind _) (funext fun x3 => ?_)
    refine (ss_iastore rfl).trans ?_
    refine congrArg (Option.bind _) (funext fun h4 => ?_)
    refine (ss_iinc3 rfl rfl (v := v4 + 1) (congrArg (HAdd.hAdd _) (show Int32.ofInt (1) = 1 by decide)) rfl).trans ?_
    refine (ss_goto rfl).trans ?_
    rfl
theorem e_Md_copies (X : pv_X) (v0 : Nat) (v1 : Int32) (v2 : Int32) (v3 : Int32) (h : pv_H) : pM X m_Md_copies [.ref v0, .int v1, .int v2, .int v3] h = f_Md_copies_0 X v0 v1 v2 v3 h := rfl
noncomputable def f_Md_starts_0 (X : pv_X) (v0 : Nat) (v1 : Int32) (h : pv_H) : Option pv_O := pS X 2 (none) k_Md_starts 0 [some (.ref v0), some (.int v1), none] [] h
noncomputable def f_Md_starts_2 (X : pv_X) (v0 : Nat) (v1 : Int32) (v2 : Int32) (h : pv_H) : Option pv_O := pS X 2 (none) k_Md_starts 2 [some (.ref v0), some (.int v1), some (.int v2)] [] h
noncomputable def f_Md_starts_25 (X : pv_X) (v0 : Nat) (v1 : Int32) (v2 : Int32) (h : pv_H) : Option pv_O := pS X 2 (none) k_Md_starts 25 [some (.ref v0), some (.int v1), some (.int v2)] [] h
noncomputable def f_Md_starts_78 (X : pv_X) (v0 : Nat) (v1 : Int32) (v2 : Int32) (s0 : Int32) (s1 : Int32) (s2 : Nat) (h : pv_H) : Option pv_O := pS X 2 (none) k_Md_starts 78 [some (.ref v0), some (.int v1), some (.int v2)] [.int s0, .int s1, .ref s2] h
set_option maxRecDepth 8000 in
theorem u_Md_starts_0 (X : pv_X) (v0 : Nat) (v1 : Int32) (h : pv_H) : f_Md_starts_0 X v0 v1 h =
    f_Md_starts_2 X v0 v1 0 h := by
  show pS X 2 (none) k_Md_starts 0 [some (.ref v0), some (.int v1), none] [] h = _
  refine (ss_iconst rfl (v := 0) rfl).trans ?_
  refine (ss_istore_n rfl rfl).trans ?_
  rfl
set_option maxRecDepth 8000 in
theorem u_Md_starts_2 (X : pv_X) (v0 : Nat) (v1 : Int32) (v2 : Int32) (h : pv_H) : f_Md_starts_2 X v0 v1 v2 h =
    if 19 ≤ v2 then f_Md_starts_25 X v0 v1 0 h else (pv_fR h v0 11 21).bind (fun x1 => (pv_sI h x1 (v1 + v2) 0).bind (fun h2 => f_Md_starts_2 X v0 v1 (v2 + 1) h2)) := by
  show pS X 2 (none) k_Md_starts 2 [some (.ref v0), some (.int v1), some (.int v2)] [] h = _
  refine (ss_iload_n rfl rfl).trans ?_
  refine (ss_bipush rfl (v := 19) rfl).trans ?_
  refine (ss_icmp_ge rfl).trans ?_
  refine pv_ite ?_ ?_
  · refine (ss_iconst rfl (v := 0) rfl).trans ?_
    refine (ss_istore_n rfl rfl).trans ?_
    rfl
  · refine (ss_aload_n rfl rfl).trans ?_
    refine (ss_getR rfl).trans ?_
    refine congrArg (Option.bind _) (funext fun x1 => ?_)
    refine (ss_iload_n rfl rfl).trans ?_
    refine (ss_iload_n rfl rfl).trans ?_
    refine (ss_iadd rfl).trans ?_
    refine (ss_iconst rfl (v := 0) rfl).trans ?_
    refine (ss_iastore rfl).trans ?_
    refine congrArg (Option.bind _) (funext fun h2 => ?_)
    refine (ss_iinc3 rfl rfl (v := v2 + 1) (congrArg (HAdd.hAdd _) (show Int32.ofInt (1) = 1 by decide)) rfl).trans ?_
    refine (ss_goto rfl).trans ?_
    rfl
set_option maxRecDepth 8000 in
theorem u_Md_starts_25 (X : pv_X) (v0 : Nat) (v1 : Int32) (v2 : Int32) (h : pv_H) : f_Md_starts_25 X v0 v1 v2 h =
    if pv_rc h v0 11 = true then (pv_tI (pM X m_Md_persons [.ref v0] h)).bind (fun q1 => if q1.1 ≤ v2 then some (none, q1.2) else (pv_fR q1.2 v0 11 21).bind (fun x2 => if pv_rc q1.2 v0 11 = true then (pv_tI (pM X m_Md_personOf [.ref v0, .int v2, .int 1] q1.2)).bind (fun q3 => (pv_sI q3.2 x2 ((v1 + 1) + v2) q3.1).bind (fun h4 => (pv_fR h4 v0 11 21).bind (fun x5 => if pv_rc h4 v0 11 = true then (pv_tI (pM X m_Md_personOf [.ref v0, .int v2, .int 3] h4)).bind (fun q6 => if 0 ≤ q6.1 then if pv_rc q6.2 v0 11 = true then (pv_tI (pM X m_Md_personOf [.ref v0, .int v2, .int 3] q6.2)).bind (fun q7 => f_Md_starts_78 X v0 v1 v2 q7.1 ((v1 + 7) + v2) x5 q7.2) else none else f_Md_starts_78 X v0 v1 v2 0 ((v1 + 7) + v2) x5 q6.2) else none))) else none)) else none := by
  show pS X 2 (none) k_Md_starts 25 [some (.ref v0), some (.int v1), some (.int v2)] [] h = _
  refine (ss_iload_n rfl rfl).trans ?_
  refine (ss_aload_n rfl rfl).trans ?_
  refine (ss_callVI (as := []) rfl t_Md_persons (by decide) rfl rfl (by simp [Value.category]) (Or.inl rfl) ⟨Nat.le_of_ble_eq_true rfl, Nat.le_of_ble_eq_true rfl⟩).trans ?_
  refine pv_ite ?_ rfl
  refine congrArg (Option.bind _) (funext fun q1 => ?_)
  refine (ss_icmp_ge rfl).trans ?_
  refine pv_ite ?_ ?_
  · exact ss_return rfl
  · refine (ss_aload_n rfl rfl).trans ?_
    refine (ss_getR rfl).trans ?_
    refine congrArg (Option.bind _) (funext fun x2 => ?_)
    refine (ss_iload_n rfl rfl).trans ?_
    refine (ss_iconst rfl (v := 1) rfl).trans ?_
    refine (ss_iadd rfl).trans ?_
    refine (ss_iload_n rfl rfl).trans ?_
    refine (ss_iadd rfl).trans ?_
    refine (ss_aload_n rfl rfl).trans ?_
    refine (ss_iload_n rfl rfl).trans ?_
    refine (ss_iconst rfl (v := 1) rfl).trans ?_
    refine (ss_callVI (as := [.int v2, .int 1]) rfl t_Md_personOf (by decide) rfl rfl (by simp [Value.category]) (Or.inl rfl) ⟨Nat.le_of_ble_eq_true rfl, Nat.le_of_ble_eq_true rfl⟩).trans ?_
    refine pv_ite ?_ rfl
    refine congrArg (Option.bind _) (funext fun q3 => ?_)
    refine (ss_iastore rfl).trans ?_
    refine congrArg (Option.bind _) (funext fun h4 => ?_)
    refine (ss_aload_n rfl rfl).trans ?_
    refine (ss_getR rfl).trans ?_
    refine congrArg (Option.bind _) (funext fun x5 => ?_)
    refine (ss_iload_n rfl rfl).trans ?_
    refine (ss_bipush rfl (v := 7) rfl).trans ?_
    refine (ss_iadd rfl).trans ?_
    refine (ss_iload_n rfl rfl).trans ?_
    refine (ss_iadd rfl).trans ?_
    refine (ss_aload_n rfl rfl).trans ?_
    refine (ss_iload_n rfl rfl).trans ?_
    refine (ss_iconst rfl (v := 3) rfl).trans ?_
    refine (ss_callVI (as := [.int v2, .int 3]) rfl t_Md_personOf (by decide) rfl rfl (by simp [Value.category]) (Or.inl rfl) ⟨Nat.le_of_ble_eq_true rfl, Nat.le_of_ble_eq_true rfl⟩).trans ?_
    refine pv_ite ?_ rfl
    refine congrArg (Option.bind _) (funext fun q6 => ?_)
    refine (ss_if_ge rfl).trans ?_
    refine pv_ite ?_ ?_
    · refine (ss_aload_n rfl rfl).trans ?_
      refine (ss_iload_n rfl rfl).trans ?_
      refine (ss_iconst rfl (v := 3) rfl).trans ?_
      refine (ss_callVI (as := [.int v2, .int 3]) rfl t_Md_personOf (by decide) rfl rfl (by simp [Value.category]) (Or.inl rfl) ⟨Nat.le_of_ble_eq_true rfl, Nat.le_of_ble_eq_true rfl⟩).trans ?_
      refine pv_ite ?_ rfl
      refine congrArg (Option.bind _) (funext fun q7 => ?_)
      rfl
    · refine (ss_iconst rfl (v := 0) rfl).trans ?_
      refine (ss_goto rfl).trans ?_
      rfl
set_option maxRecDepth 8000 in
theorem u_Md_starts_78 (X : pv_X) (v0 : Nat) (v1 : Int32) (v2 : Int32) (s0 : Int32) (s1 : Int32) (s2 : Nat) (h : pv_H) : f_Md_starts_78 X v0 v1 v2 s0 s1 s2 h =
    (pv_sI h s2 s1 s0).bind (fun h1 => f_Md_starts_25 X v0 v1 (v2 + 1) h1) := by
  show pS X 2 (none) k_Md_starts 78 [some (.ref v0), some (.int v1), some (.int v2)] [.int s0, .int s1, .ref s2] h = _
  refine (ss_iastore rfl).trans ?_
  refine congrArg (Option.bind _) (funext fun h1 => ?_)
  refine (ss_iinc3 rfl rfl (v := v2 + 1) (congrArg (HAdd.hAdd _) (show Int32.ofInt (1) = 1 by decide)) rfl).trans ?_
  refine (ss_goto rfl).trans ?_
  rfl
theorem e_Md_starts (X : pv_X) (v0 : Nat) (v1 : Int32) (h : pv_H) : pM X m_Md_starts [.ref v0, .int v1] h = f_Md_starts_0 X v0 v1 h := rfl
noncomputable def f_Md_begins_0 (X : pv_X) (v0 : Nat) (h : pv_H) : Option pv_O := pS X 3 (none) k_Md_begins 0 [some (.ref v0), none] [] h
noncomputable def f_Md_begins_35 (X : pv_X) (v0 : Nat) (v1 : Int32) (h : pv_H) : Option pv_O := pS X 3 (none) k_Md_begins 35 [some (.ref v0), some (.int v1)] [] h
set_option maxRecDepth 8000 in
theorem u_Md_begins_0 (X : pv_X) (v0 : Nat) (h : pv_H) : f_Md_begins_0 X v0 h =
    if pv_rc h v0 11 = true then (pv_tV (pM X m_Md_starts [.ref v0, .int 0] h)).bind (fun h1 => (pv_fR h1 v0 11 21).bind (fun x2 => (pv_sI h1 x2 19 0).bind (fun h3 => (pv_fR h3 v0 11 21).bind (fun x4 => (pv_sI h3 x4 38 0).bind (fun h5 => (pv_fR h5 v0 11 18).bind (fun x6 => (pv_sI h5 x6 0 0).bind (fun h7 => (pv_fp h7 v0 11 22 (.int 0)).bind (fun h8 => f_Md_begins_35 X v0 0 h8)))))))) else none := by
  show pS X 3 (none) k_Md_begins 0 [some (.ref v0), none] [] h = _
  refine (ss_aload_n rfl rfl).trans ?_
  refine (ss_iconst rfl (v := 0) rfl).trans ?_
  refine (ss_callVN (as := [.int 0]) rfl t_Md_starts (by decide) rfl rfl (by decide) rfl ⟨Nat.le_of_ble_eq_true rfl, Nat.le_of_ble_eq_true rfl⟩).trans ?_
  refine pv_ite ?_ rfl
  refine congrArg (Option.bind _) (funext fun h1 => ?_)
  refine (ss_aload_n rfl rfl).trans ?_
  refine (ss_getR rfl).trans ?_
  refine congrArg (Option.bind _) (funext fun x2 => ?_)
  refine (ss_bipush rfl (v := 19) rfl).trans ?_
  refine (ss_iconst rfl (v := 0) rfl).trans ?_
  refine (ss_iastore rfl).trans ?_
  refine congrArg (Option.bind _) (funext fun h3 => ?_)
  refine (ss_aload_n rfl rfl).trans ?_
  refine (ss_getR rfl).trans ?_
  refine congrArg (Option.bind _) (funext fun x4 => ?_)
  refine (ss_bipush rfl (v := 38) rfl).trans ?_
  refine (ss_iconst rfl (v := 0) rfl).trans ?_
  refine (ss_iastore rfl).trans ?_
  refine congrArg (Option.bind _) (funext fun h5 => ?_)
  refine (ss_aload_n rfl rfl).trans ?_
  refine (ss_getR rfl).trans ?_
  refine congrArg (Option.bind _) (funext fun x6 => ?_)
  refine (ss_iconst rfl (v := 0) rfl).trans ?_
  refine (ss_iconst rfl (v := 0) rfl).trans ?_
  refine (ss_iastore rfl).trans ?_
  refine congrArg (Option.bind _) (funext fun h7 => ?_)
  refine (ss_aload_n rfl rfl).trans ?_
  refine (ss_iconst rfl (v := 0) rfl).trans ?_
  refine (ss_putI rfl).trans ?_
  refine congrArg (Option.bind _) (funext fun h8 => ?_)
  refine (ss_iconst rfl (v := 0) rfl).trans ?_
  refine (ss_istore_n rfl rfl).trans ?_
  rfl
set_option maxRecDepth 8000 in
theorem u_Md_begins_35 (X : pv_X) (v0 : Nat) (v1 : Int32) (h : pv_H) : f_Md_begins_35 X v0 v1 h =
    if 4 ≤ v1 then some (none, h) else (pv_fR h v0 11 23).bind (fun x1 => (pv_sZ h x1 v1 0).bind (fun h2 => f_Md_begins_35 X v0 (v1 + 1) h2)) := by
  show pS X 3 (none) k_Md_begins 35 [some (.ref v0), some (.int v1)] [] h = _
  refine (ss_iload_n rfl rfl).trans ?_
  refine (ss_iconst rfl (v := 4) rfl).trans ?_
  refine (ss_icmp_ge rfl).trans ?_
  refine pv_ite ?_ ?_
  · exact ss_return rfl
  · refine (ss_aload_n rfl rfl).trans ?_
    refine (ss_getR rfl).trans ?_
    refine congrArg (Option.bind _) (funext fun x1 => ?_)
    refine (ss_iload_n rfl rfl).trans ?_
    refine (ss_iconst rfl (v := 0) rfl).trans ?_
    refine (ss_bastore rfl).trans ?_
    refine congrArg (Option.bind _) (funext fun h2 => ?_)
    refine (ss_iinc3 rfl rfl (v := v1 + 1) (congrArg (HAdd.hAdd _) (show Int32.ofInt (1) = 1 by decide)) rfl).trans ?_
    refine (ss_goto rfl).trans ?_
    rfl
theorem e_Md_begins (X : pv_X) (v0 : Nat) (h : pv_H) : pM X m_Md_begins [.ref v0] h = f_Md_begins_0 X v0 h := rfl
noncomputable def f_Md_keeps_0 (X : pv_X) (v0 : Nat) (h : pv_H) : Option pv_O := pS X 2 (none) k_Md_keeps 0 [some (.ref v0), none] [] h
noncomputable def f_Md_keeps_11 (X : pv_X) (v0 : Nat) (v1 : Int32) (h : pv_H) : Option pv_O := pS X 2 (none) k_Md_keeps 11 [some (.ref v0), some (.int v1)] [] h
noncomputable def f_Md_keeps_53 (X : pv_X) (v0 : Nat) (o1 : Option Value) (h : pv_H) : Option pv_O := pS X 2 (none) k_Md_keeps 53 [some (.ref v0), o1] [] h
set_option maxRecDepth 8000 in
theorem u_Md_keeps_0 (X : pv_X) (v0 : Nat) (h : pv_H) : f_Md_keeps_0 X v0 h =
    (pv_fI h v0 11 22).bind (fun x1 => if ¬ x1 = 16 then f_Md_keeps_53 X v0 none h else f_Md_keeps_11 X v0 1 h) := by
  show pS X 2 (none) k_Md_keeps 0 [some (.ref v0), none] [] h = _
  refine (ss_aload_n rfl rfl).trans ?_
  refine (ss_getI rfl).trans ?_
  refine congrArg (Option.bind _) (funext fun x1 => ?_)
  refine (ss_bipush rfl (v := 16) rfl).trans ?_
  refine (ss_icmp_ne rfl).trans ?_
  refine pv_ite ?_ ?_
  · rfl
  · refine (ss_iconst rfl (v := 1) rfl).trans ?_
    refine (ss_istore_n rfl rfl).trans ?_
    rfl
set_option maxRecDepth 8000 in
theorem u_Md_keeps_11 (X : pv_X) (v0 : Nat) (v1 : Int32) (h : pv_H) : f_Md_keeps_11 X v0 v1 h =
    if 16 ≤ v1 then (pv_fI h v0 11 22).bind (fun x1 => (pv_fp h v0 11 22 (.int (x1 - 1))).bind (fun h2 => f_Md_keeps_53 X v0 (some (.int v1)) h2)) else if pv_rc h v0 11 = true then (pv_tV (pM X m_Md_copies [.ref v0, .int (51 * (5 + v1)), .int (51 * ((5 + v1) - 1)), .int 19] h)).bind (fun h3 => f_Md_keeps_11 X v0 (v1 + 1) h3) else none := by
  show pS X 2 (none) k_Md_keeps 11 [some (.ref v0), some (.int v1)] [] h = _
  refine (ss_iload_n rfl rfl).trans ?_
  refine (ss_bipush rfl (v := 16) rfl).trans ?_
  refine (ss_icmp_ge rfl).trans ?_
  refine pv_ite ?_ ?_
  · refine (ss_aload_n rfl rfl).trans ?_
    refine (ss_dupR rfl).trans ?_
    refine (ss_getI rfl).trans ?_
    refine congrArg (Option.bind _) (funext fun x1 => ?_)
    refine (ss_iconst rfl (v := 1) rfl).trans ?_
    refine (ss_isub rfl).trans ?_
    refine (ss_putI rfl).trans ?_
    refine congrArg (Option.bind _) (funext fun h2 => ?_)
    rfl
  · refine (ss_aload_n rfl rfl).trans ?_
    refine (ss_bipush rfl (v := 51) rfl).trans ?_
    refine (ss_iconst rfl (v := 5) rfl).trans ?_
    refine (ss_iload_n rfl rfl).trans ?_
    refine (ss_iadd rfl).trans ?_
    refine (ss_imul rfl).trans ?_
    refine (ss_bipush rfl (v := 51) rfl).trans ?_
    refine (ss_iconst rfl (v := 5) rfl).trans ?_
    refine (ss_iload_n rfl rfl).trans ?_
    refine (ss_iadd rfl).trans ?_
    refine (ss_iconst rfl (v := 1) rfl).trans ?_
    refine (ss_isub rfl).trans ?_
    refine (ss_imul rfl).trans ?_
    refine (ss_bipush rfl (v := 19) rfl).trans ?_
    refine (ss_callVN (as := [.int (51 * (5 + v1)), .int (51 * ((5 + v1) - 1)), .int 19]) rfl t_Md_copies (by decide) rfl rfl (by decide) rfl ⟨Nat.le_of_ble_eq_true rfl, Nat.le_of_ble_eq_true rfl⟩).trans ?_
    refine pv_ite ?_ rfl
    refine congrArg (Option.bind _) (funext fun h3 => ?_)
    refine (ss_iinc3 rfl rfl (v := v1 + 1) (congrArg (HAdd.hAdd _) (show Int32.ofInt (1) = 1 by decide)) rfl).trans ?_
    refine (ss_goto rfl).trans ?_
    rfl
set_option maxRecDepth 8000 in
theorem u_Md_keeps_53 (X : pv_X) (v0 : Nat) (o1 : Option Value) (h : pv_H) : f_Md_keeps_53 X v0 o1 h =
    (pv_fI h v0 11 22).bind (fun x1 => if pv_rc h v0 11 = true then (pv_tV (pM X m_Md_copies [.ref v0, .int 0, .int (51 * (5 + x1)), .int 19] h)).bind (fun h2 => (pv_fI h2 v0 11 22).bind (fun x3 => (pv_fp h2 v0 11 22 (.int (x3 + 1))).bind (fun h4 => some (none, h4)))) else none) := by
  show pS X 2 (none) k_Md_keeps 53 [some (.ref v0), o1] [] h = _
  refine (ss_aload_n rfl rfl).trans ?_
  refine (ss_iconst rfl (v := 0) rfl).trans ?_
  refine (ss_bipush rfl (v := 51) rfl).trans ?_
  refine (ss_iconst rfl (v := 5) rfl).trans ?_
  refine (ss_aload_n rfl rfl).trans ?_
  refine (ss_getI rfl).trans ?_
  refine congrArg (Option.bind _) (funext fun x1 => ?_)
  refine (ss_iadd rfl).trans ?_
  refine (ss_imul rfl).trans ?_
  refine (ss_bipush rfl (v := 19) rfl).trans ?_
  refine (ss_callVN (as := [.int 0, .int (51 * (5 + x1)), .int 19]) rfl t_Md_copies (by decide) rfl rfl (by decide) rfl ⟨Nat.le_of_ble_eq_true rfl, Nat.le_of_ble_eq_true rfl⟩).trans ?_
  refine pv_ite ?_ rfl
  refine congrArg (Option.bind _) (funext fun h2 => ?_)
  refine (ss_aload_n rfl rfl).trans ?_
  refine (ss_dupR rfl).trans ?_
  refine (ss_getI rfl).trans ?_
  refine congrArg (Option.bind _) (funext fun x3 => ?_)
  refine (ss_iconst rfl (v := 1) rfl).trans ?_
  refine (ss_iadd rfl).trans ?_
  refine (ss_putI rfl).trans ?_
  refine congrArg (Option.bind _) (funext fun h4 => ?_)
  exact ss_return rfl
theorem e_Md_keeps (X : pv_X) (v0 : Nat) (h : pv_H) : pM X m_Md_keeps [.ref v0] h = f_Md_keeps_0 X v0 h := rfl
noncomputable def f_Md_persons_0 (X : pv_X) (v0 : Nat) (h : pv_H) : Option pv_O := pS X 1 (some .int) k_Md_persons 0 [some (.ref v0)] [] h
set_option maxRecDepth 8000 in
theorem u_Md_persons_0 (X : pv_X) (v0 : Nat) (h : pv_H) : f_Md_persons_0 X v0 h =
    (pv_fR h v0 11 10).bind (fun x1 => (pv_aX X h x1 0).bind (fun x2 => some (some (.int x2), h))) := by
  show pS X 1 (some .int) k_Md_persons 0 [some (.ref v0)] [] h = _
  refine (ss_aload_n rfl rfl).trans ?_
  refine (ss_getR rfl).trans ?_
  refine congrArg (Option.bind _) (funext fun x1 => ?_)
  refine (ss_iconst rfl (v := 0) rfl).trans ?_
  refine (ss_iaload rfl).trans ?_
  refine congrArg (Option.bind _) (funext fun x2 => ?_)
  exact ss_ireturn rfl
theorem e_Md_persons (X : pv_X) (v0 : Nat) (h : pv_H) : pM X m_Md_persons [.ref v0] h = f_Md_persons_0 X v0 h := rfl
noncomputable def f_Md_personOf_0 (X : pv_X) (v0 : Nat) (v1 : Int32) (v2 : Int32) (h : pv_H) : Option pv_O := pS X 1 (some .int) k_Md_personOf 0 [some (.ref v0), some (.int v1), some (.int v2)] [] h
set_option maxRecDepth 8000 in
theorem u_Md_personOf_0 (X : pv_X) (v0 : Nat) (v1 : Int32) (v2 : Int32) (h : pv_H) : f_Md_personOf_0 X v0 v1 v2 h =
    (pv_fR h v0 11 10).bind (fun x1 => (pv_aX X h x1 ((2 + (4 * v1)) + v2)).bind (fun x2 => some (some (.int x2), h))) := by
  show pS X 1 (some .int) k_Md_personOf 0 [some (.ref v0), some (.int v1), some (.int v2)] [] h = _
  refine (ss_aload_n rfl rfl).trans ?_
  refine (ss_getR rfl).trans ?_
  refine congrArg (Option.bind _) (funext fun x1 => ?_)
  refine (ss_iconst rfl (v := 2) rfl).trans ?_
  refine (ss_iconst rfl (v := 4) rfl).trans ?_
  refine (ss_iload_n rfl rfl).trans ?_
  refine (ss_imul rfl).trans ?_
  refine (ss_iadd rfl).trans ?_
  refine (ss_iload_n rfl rfl).trans ?_
  refine (ss_iadd rfl).trans ?_
  refine (ss_iaload rfl).trans ?_
  refine congrArg (Option.bind _) (funext fun x2 => ?_)
  exact ss_ireturn rfl
theorem e_Md_personOf (X : pv_X) (v0 : Nat) (v1 : Int32) (v2 : Int32) (h : pv_H) : pM X m_Md_personOf [.ref v0, .int v1, .int v2] h = f_Md_personOf_0 X v0 v1 v2 h := rfl
noncomputable def f_Md_isPerson_0 (X : pv_X) (v0 : Nat) (v1 : Int32) (h : pv_H) : Option pv_O := pS X 2 (some .boolean) k_Md_isPerson 0 [some (.ref v0), some (.int v1)] [] h
noncomputable def f_Md_isPerson_16 (X : pv_X) (v0 : Nat) (v1 : Int32) (h : pv_H) : Option pv_O := pS X 2 (some .boolean) k_Md_isPerson 16 [some (.ref v0), some (.int v1)] [] h
noncomputable def f_Md_isPerson_17 (X : pv_X) (v0 : Nat) (v1 : Int32) (s0 : Int32) (h : pv_H) : Option pv_O := pS X 2 (some .boolean) k_Md_isPerson 17 [some (.ref v0), some (.int v1)] [.int s0] h
set_option maxRecDepth 8000 in
theorem u_Md_isPerson_0 (X : pv_X) (v0 : Nat) (v1 : Int32) (h : pv_H) : f_Md_isPerson_0 X v0 v1 h =
    if v1 < 0 then f_Md_isPerson_16 X v0 v1 h else if pv_rc h v0 11 = true then (pv_tI (pM X m_Md_persons [.ref v0] h)).bind (fun q1 => if q1.1 ≤ v1 then f_Md_isPerson_16 X v0 v1 q1.2 else f_Md_isPerson_17 X v0 v1 1 q1.2) else none := by
  show pS X 2 (some .boolean) k_Md_isPerson 0 [some (.ref v0), some (.int v1)] [] h = _
  refine (ss_iload_n rfl rfl).trans ?_
  refine (ss_if_lt rfl).trans ?_
  refine pv_ite ?_ ?_
  · rfl
  · refine (ss_iload_n rfl rfl).trans ?_
    refine (ss_aload_n rfl rfl).trans ?_
    refine (ss_callVI (as := []) rfl t_Md_persons (by decide) rfl rfl (by simp [Value.category]) (Or.inl rfl) ⟨Nat.le_of_ble_eq_true rfl, Nat.le_of_ble_eq_true rfl⟩).trans ?_
    refine pv_ite ?_ rfl
    refine congrArg (Option.bind _) (funext fun q1 => ?_)
    refine (ss_icmp_ge rfl).trans ?_
    refine pv_ite ?_ ?_
    · rfl
    · refine (ss_iconst rfl (v := 1) rfl).trans ?_
      refine (ss_goto rfl).trans ?_
      rfl
set_option maxRecDepth 8000 in
theorem u_Md_isPerson_16 (X : pv_X) (v0 : Nat) (v1 : Int32) (h : pv_H) : f_Md_isPerson_16 X v0 v1 h =
    f_Md_isPerson_17 X v0 v1 0 h := by
  show pS X 2 (some .boolean) k_Md_isPerson 16 [some (.ref v0), some (.int v1)] [] h = _
  refine (ss_iconst rfl (v := 0) rfl).trans ?_
  rfl
set_option maxRecDepth 8000 in
theorem u_Md_isPerson_17 (X : pv_X) (v0 : Nat) (v1 : Int32) (s0 : Int32) (h : pv_H) : f_Md_isPerson_17 X v0 v1 s0 h =
    if s0 = 0 ∨ s0 = 1 then some (some (.int s0), h) else none := by
  show pS X 2 (some .boolean) k_Md_isPerson 17 [some (.ref v0), some (.int v1)] [.int s0] h = _
  exact ss_zreturn rfl
theorem e_Md_isPerson (X : pv_X) (v0 : Nat) (v1 : Int32) (h : pv_H) : pM X m_Md_isPerson [.ref v0, .int v1] h = f_Md_isPerson_0 X v0 v1 h := rfl
noncomputable def f_Md_kept_0 (X : pv_X) (v0 : Int32) (v1 : Int32) (v2 : Int32) (h : pv_H) : Option pv_O := pS X 1 (some .int) k_Md_kept 0 [some (.int v0), some (.int v1), some (.int v2)] [] h
noncomputable def f_Md_kept_19 (X : pv_X) (v0 : Int32) (v1 : Int32) (v2 : Int32) (s0 : Int32) (h : pv_H) : Option pv_O := pS X 1 (some .int) k_Md_kept 19 [some (.int v0), some (.int v1), some (.int v2)] [.int s0] h
set_option maxRecDepth 8000 in
theorem u_Md_kept_0 (X : pv_X) (v0 : Int32) (v1 : Int32) (v2 : Int32) (h : pv_H) : f_Md_kept_0 X v0 v1 v2 h =
    if v1 ≤ v0 then if v0 ≤ v2 then f_Md_kept_19 X v0 v1 v2 v0 h else f_Md_kept_19 X v0 v1 v2 v2 h else f_Md_kept_19 X v0 v1 v2 v1 h := by
  show pS X 1 (some .int) k_Md_kept 0 [some (.int v0), some (.int v1), some (.int v2)] [] h = _
  refine (ss_iload_n rfl rfl).trans ?_
  refine (ss_iload_n rfl rfl).trans ?_
  refine (ss_icmp_ge rfl).trans ?_
  refine pv_ite ?_ ?_
  · refine (ss_iload_n rfl rfl).trans ?_
    refine (ss_iload_n rfl rfl).trans ?_
    refine (ss_icmp_le rfl).trans ?_
    refine pv_ite ?_ ?_
    · refine (ss_iload_n rfl rfl).trans ?_
      rfl
    · refine (ss_iload_n rfl rfl).trans ?_
      refine (ss_goto rfl).trans ?_
      rfl
  · refine (ss_iload_n rfl rfl).trans ?_
    refine (ss_goto rfl).trans ?_
    rfl
set_option maxRecDepth 8000 in
theorem u_Md_kept_19 (X : pv_X) (v0 : Int32) (v1 : Int32) (v2 : Int32) (s0 : Int32) (h : pv_H) : f_Md_kept_19 X v0 v1 v2 s0 h =
    some (some (.int s0), h) := by
  show pS X 1 (some .int) k_Md_kept 19 [some (.int v0), some (.int v1), some (.int v2)] [.int s0] h = _
  exact ss_ireturn rfl
theorem e_Md_kept (X : pv_X) (v0 : Int32) (v1 : Int32) (v2 : Int32) (h : pv_H) : pM X m_Md_kept [.int v0, .int v1, .int v2] h = f_Md_kept_0 X v0 v1 v2 h := rfl
noncomputable def f_Md_unsigned_0 (X : pv_X) (v0 : Int32) (h : pv_H) : Option pv_O := pS X 1 (some .int) k_Md_unsigned 0 [some (.int v0)] [] h
noncomputable def f_Md_unsigned_10 (X : pv_X) (v0 : Int32) (s0 : Int32) (h : pv_H) : Option pv_O := pS X 1 (some .int) k_Md_unsigned 10 [some (.int v0)] [.int s0] h
set_option maxRecDepth 8000 in
theorem u_Md_unsigned_0 (X : pv_X) (v0 : Int32) (h : pv_H) : f_Md_unsigned_0 X v0 h =
    if 0 ≤ v0 then f_Md_unsigned_10 X v0 v0 h else f_Md_unsigned_10 X v0 (-v0) h := by
  show pS X 1 (some .int) k_Md_unsigned 0 [some (.int v0)] [] h = _
  refine (ss_iload_n rfl rfl).trans ?_
  refine (ss_if_ge rfl).trans ?_
  refine pv_ite ?_ ?_
  · refine (ss_iload_n rfl rfl).trans ?_
    rfl
  · refine (ss_iload_n rfl rfl).trans ?_
    refine (ss_ineg rfl).trans ?_
    refine (ss_goto rfl).trans ?_
    rfl
set_option maxRecDepth 8000 in
theorem u_Md_unsigned_10 (X : pv_X) (v0 : Int32) (s0 : Int32) (h : pv_H) : f_Md_unsigned_10 X v0 s0 h =
    some (some (.int s0), h) := by
  show pS X 1 (some .int) k_Md_unsigned 10 [some (.int v0)] [.int s0] h = _
  exact ss_ireturn rfl
theorem e_Md_unsigned (X : pv_X) (v0 : Int32) (h : pv_H) : pM X m_Md_unsigned [.int v0] h = f_Md_unsigned_0 X v0 h := rfl
noncomputable def f_Md_trueOf_0 (X : pv_X) (v0 : Nat) (v1 : Int32) (h : pv_H) : Option pv_O := pS X 1 (some .int) k_Md_trueOf 0 [some (.ref v0), some (.int v1)] [] h
set_option maxRecDepth 8000 in
theorem u_Md_trueOf_0 (X : pv_X) (v0 : Nat) (v1 : Int32) (h : pv_H) : f_Md_trueOf_0 X v0 v1 h =
    (pv_fR h v0 11 21).bind (fun x1 => (pv_aX X h x1 (v1 + 0)).bind (fun x2 => some (some (.int ((15 * x2) - (15 * x2) / 720 * 720)), h))) := by
  show pS X 1 (some .int) k_Md_trueOf 0 [some (.ref v0), some (.int v1)] [] h = _
  refine (ss_bipush rfl (v := 15) rfl).trans ?_
  refine (ss_aload_n rfl rfl).trans ?_
  refine (ss_getR rfl).trans ?_
  refine congrArg (Option.bind _) (funext fun x1 => ?_)
  refine (ss_iload_n rfl rfl).trans ?_
  refine (ss_iconst rfl (v := 0) rfl).trans ?_
  refine (ss_iadd rfl).trans ?_
  refine (ss_iaload rfl).trans ?_
  refine congrArg (Option.bind _) (funext fun x2 => ?_)
  refine (ss_imul rfl).trans ?_
  refine (ss_sipush rfl (v := 720) rfl).trans ?_
  refine (ss_irem rfl (by decide)).trans ?_
  exact ss_ireturn rfl
theorem e_Md_trueOf (X : pv_X) (v0 : Nat) (v1 : Int32) (h : pv_H) : pM X m_Md_trueOf [.ref v0, .int v1] h = f_Md_trueOf_0 X v0 v1 h := rfl
noncomputable def f_Md_outBy_1_0 (X : pv_X) (v0 : Int32) (h : pv_H) : Option pv_O := pS X 1 (some .int) k_Md_outBy_1 0 [some (.int v0), none] [] h
noncomputable def f_Md_outBy_1_37 (X : pv_X) (v0 : Int32) (v1 : Int32) (s0 : Int32) (h : pv_H) : Option pv_O := pS X 1 (some .int) k_Md_outBy_1 37 [some (.int v0), some (.int v1)] [.int s0] h
set_option maxRecDepth 8000 in
theorem u_Md_outBy_1_0 (X : pv_X) (v0 : Int32) (h : pv_H) : f_Md_outBy_1_0 X v0 h =
    if (-360) ≤ (v0 - v0 / 720 * 720) then if (v0 - v0 / 720 * 720) < 360 then f_Md_outBy_1_37 X v0 (v0 - v0 / 720 * 720) (v0 - v0 / 720 * 720) h else f_Md_outBy_1_37 X v0 (v0 - v0 / 720 * 720) ((v0 - v0 / 720 * 720) - 720) h else f_Md_outBy_1_37 X v0 (v0 - v0 / 720 * 720) ((v0 - v0 / 720 * 720) + 720) h := by
  show pS X 1 (some .int) k_Md_outBy_1 0 [some (.int v0), none] [] h = _
  refine (ss_iload_n rfl rfl).trans ?_
  refine (ss_sipush rfl (v := 720) rfl).trans ?_
  refine (ss_irem rfl (by decide)).trans ?_
  refine (ss_istore_n rfl rfl).trans ?_
  refine (ss_iload_n rfl rfl).trans ?_
  refine (ss_sipush rfl (v := (-360)) rfl).trans ?_
  refine (ss_icmp_ge rfl).trans ?_
  refine pv_ite ?_ ?_
  · refine (ss_iload_n rfl rfl).trans ?_
    refine (ss_sipush rfl (v := 360) rfl).trans ?_
    refine (ss_icmp_lt rfl).trans ?_
    refine pv_ite ?_ ?_
    · refine (ss_iload_n rfl rfl).trans ?_
      rfl
    · refine (ss_iload_n rfl rfl).trans ?_
      refine (ss_sipush rfl (v := 720) rfl).trans ?_
      refine (ss_isub rfl).trans ?_
      refine (ss_goto rfl).trans ?_
      rfl
  · refine (ss_iload_n rfl rfl).trans ?_
    refine (ss_sipush rfl (v := 720) rfl).trans ?_
    refine (ss_iadd rfl).trans ?_
    refine (ss_goto rfl).trans ?_
    rfl
set_option maxRecDepth 8000 in
theorem u_Md_outBy_1_37 (X : pv_X) (v0 : Int32) (v1 : Int32) (s0 : Int32) (h : pv_H) : f_Md_outBy_1_37 X v0 v1 s0 h =
    some (some (.int s0), h) := by
  show pS X 1 (some .int) k_Md_outBy_1 37 [some (.int v0), some (.int v1)] [.int s0] h = _
  exact ss_ireturn rfl
theorem e_Md_outBy_1 (X : pv_X) (v0 : Int32) (h : pv_H) : pM X m_Md_outBy_1 [.int v0] h = f_Md_outBy_1_0 X v0 h := rfl
noncomputable def f_Md_outOf_0 (X : pv_X) (v0 : Nat) (v1 : Int32) (v2 : Int32) (h : pv_H) : Option pv_O := pS X 2 (some .int) k_Md_outOf 0 [some (.ref v0), some (.int v1), some (.int v2)] [] h
set_option maxRecDepth 8000 in
theorem u_Md_outOf_0 (X : pv_X) (v0 : Nat) (v1 : Int32) (v2 : Int32) (h : pv_H) : f_Md_outOf_0 X v0 v1 v2 h =
    (pv_fR h v0 11 21).bind (fun x1 => (pv_aX X h x1 ((v1 + 7) + v2)).bind (fun x2 => if pv_rc h v0 11 = true then (pv_tI (pM X m_Md_trueOf [.ref v0, .int v1] h)).bind (fun q3 => (pv_tI (pM X m_Md_outBy_1 [.int (x2 - q3.1)] q3.2)).bind (fun q4 => some (some (.int q4.1), q4.2))) else none)) := by
  show pS X 2 (some .int) k_Md_outOf 0 [some (.ref v0), some (.int v1), some (.int v2)] [] h = _
  refine (ss_aload_n rfl rfl).trans ?_
  refine (ss_getR rfl).trans ?_
  refine congrArg (Option.bind _) (funext fun x1 => ?_)
  refine (ss_iload_n rfl rfl).trans ?_
  refine (ss_bipush rfl (v := 7) rfl).trans ?_
  refine (ss_iadd rfl).trans ?_
  refine (ss_iload_n rfl rfl).trans ?_
  refine (ss_iadd rfl).trans ?_
  refine (ss_iaload rfl).trans ?_
  refine congrArg (Option.bind _) (funext fun x2 => ?_)
  refine (ss_aload_n rfl rfl).trans ?_
  refine (ss_iload_n rfl rfl).trans ?_
  refine (ss_callVI (as := [.int v1]) rfl t_Md_trueOf (by decide) rfl rfl (by simp [Value.category]) (Or.inl rfl) ⟨Nat.le_of_ble_eq_true rfl, Nat.le_of_ble_eq_true rfl⟩).trans ?_
  refine pv_ite ?_ rfl
  refine congrArg (Option.bind _) (funext fun q3 => ?_)
  refine (ss_isub rfl).trans ?_
  refine (ss_callSI (as := [.int (x2 - q3.1)]) rfl t_Md_outBy_1 (by decide) rfl rfl (by decide) (Or.inl rfl) ⟨Nat.le_of_ble_eq_true rfl, Nat.le_of_ble_eq_true rfl⟩).trans ?_
  refine congrArg (Option.bind _) (funext fun q4 => ?_)
  exact ss_ireturn rfl
theorem e_Md_outOf (X : pv_X) (v0 : Nat) (v1 : Int32) (v2 : Int32) (h : pv_H) : pM X m_Md_outOf [.ref v0, .int v1, .int v2] h = f_Md_outOf_0 X v0 v1 v2 h := rfl
noncomputable def f_Md_stepOf_0 (X : pv_X) (v0 : Nat) (v1 : Int32) (v2 : Int32) (h : pv_H) : Option pv_O := pS X 2 (some .int) k_Md_stepOf 0 [some (.ref v0), some (.int v1), some (.int v2), none] [] h
noncomputable def f_Md_stepOf_39 (X : pv_X) (v0 : Nat) (v1 : Int32) (v2 : Int32) (v3 : Int32) (s0 : Int32) (s1 : Int32) (h : pv_H) : Option pv_O := pS X 2 (some .int) k_Md_stepOf 39 [some (.ref v0), some (.int v1), some (.int v2), some (.int v3)] [.int s0, .int s1] h
set_option maxRecDepth 8000 in
theorem u_Md_stepOf_0 (X : pv_X) (v0 : Nat) (v1 : Int32) (v2 : Int32) (h : pv_H) : f_Md_stepOf_0 X v0 v1 v2 h =
    if pv_rc h v0 11 = true then (pv_tI (pM X m_Md_personOf [.ref v0, .int v2, .int 0] h)).bind (fun q1 => (pv_fR q1.2 v0 11 21).bind (fun x2 => (pv_aX X q1.2 x2 ((v1 + 1) + v2)).bind (fun x3 => if ¬ q1.1 = 1 then if ¬ q1.1 = 2 then f_Md_stepOf_39 X v0 v1 v2 q1.1 0 (x3 / 4) q1.2 else f_Md_stepOf_39 X v0 v1 v2 q1.1 (-2) (x3 / 4) q1.2 else f_Md_stepOf_39 X v0 v1 v2 q1.1 2 (x3 / 4) q1.2))) else none := by
  show pS X 2 (some .int) k_Md_stepOf 0 [some (.ref v0), some (.int v1), some (.int v2), none] [] h = _
  refine (ss_aload_n rfl rfl).trans ?_
  refine (ss_iload_n rfl rfl).trans ?_
  refine (ss_iconst rfl (v := 0) rfl).trans ?_
  refine (ss_callVI (as := [.int v2, .int 0]) rfl t_Md_personOf (by decide) rfl rfl (by decide) (Or.inl rfl) ⟨Nat.le_of_ble_eq_true rfl, Nat.le_of_ble_eq_true rfl⟩).trans ?_
  refine pv_ite ?_ rfl
  refine congrArg (Option.bind _) (funext fun q1 => ?_)
  refine (ss_istore_n rfl rfl).trans ?_
  refine (ss_aload_n rfl rfl).trans ?_
  refine (ss_getR rfl).trans ?_
  refine congrArg (Option.bind _) (funext fun x2 => ?_)
  refine (ss_iload_n rfl rfl).trans ?_
  refine (ss_iconst rfl (v := 1) rfl).trans ?_
  refine (ss_iadd rfl).trans ?_
  refine (ss_iload_n rfl rfl).trans ?_
  refine (ss_iadd rfl).trans ?_
  refine (ss_iaload rfl).trans ?_
  refine congrArg (Option.bind _) (funext fun x3 => ?_)
  refine (ss_iconst rfl (v := 4) rfl).trans ?_
  refine (ss_idiv rfl (by decide)).trans ?_
  refine (ss_iload_n rfl rfl).trans ?_
  refine (ss_iconst rfl (v := 1) rfl).trans ?_
  refine (ss_icmp_ne rfl).trans ?_
  refine pv_ite ?_ ?_
  · refine (ss_iload_n rfl rfl).trans ?_
    refine (ss_iconst rfl (v := 2) rfl).trans ?_
    refine (ss_icmp_ne rfl).trans ?_
    refine pv_ite ?_ ?_
    · refine (ss_iconst rfl (v := 0) rfl).trans ?_
      rfl
    · refine (ss_bipush rfl (v := (-2)) rfl).trans ?_
      refine (ss_goto rfl).trans ?_
      rfl
  · refine (ss_iconst rfl (v := 2) rfl).trans ?_
    refine (ss_goto rfl).trans ?_
    rfl
set_option maxRecDepth 8000 in
theorem u_Md_stepOf_39 (X : pv_X) (v0 : Nat) (v1 : Int32) (v2 : Int32) (v3 : Int32) (s0 : Int32) (s1 : Int32) (h : pv_H) : f_Md_stepOf_39 X v0 v1 v2 v3 s0 s1 h =
    some (some (.int (s1 + s0)), h) := by
  show pS X 2 (some .int) k_Md_stepOf 39 [some (.ref v0), some (.int v1), some (.int v2), some (.int v3)] [.int s0, .int s1] h = _
  refine (ss_iadd rfl).trans ?_
  exact ss_ireturn rfl
theorem e_Md_stepOf (X : pv_X) (v0 : Nat) (v1 : Int32) (v2 : Int32) (h : pv_H) : pM X m_Md_stepOf [.ref v0, .int v1, .int v2] h = f_Md_stepOf_0 X v0 v1 v2 h := rfl
noncomputable def f_Md_asks_0 (X : pv_X) (v0 : Nat) (v1 : Int32) (v2 : Int32) (v3 : Int32) (h : pv_H) : Option pv_O := pS X 1 (none) k_Md_asks 0 [some (.ref v0), some (.int v1), some (.int v2), some (.int v3)] [] h
set_option maxRecDepth 8000 in
theorem u_Md_asks_0 (X : pv_X) (v0 : Nat) (v1 : Int32) (v2 : Int32) (v3 : Int32) (h : pv_H) : f_Md_asks_0 X v0 v1 v2 v3 h =
    (pv_fR h v0 11 21).bind (fun x1 => (pv_fR h v0 11 21).bind (fun x2 => (pv_aX X h x2 ((v1 + 7) + v3)).bind (fun x3 => (pv_sI h x1 ((v1 + 7) + v2) x3).bind (fun h4 => (pv_fR h4 v0 11 21).bind (fun x5 => (pv_aX X h4 x5 ((v1 + 13) + v3)).bind (fun x6 => (pv_sI h4 x5 ((v1 + 13) + v3) (x6 + 1)).bind (fun h7 => some (none, h7)))))))) := by
  show pS X 1 (none) k_Md_asks 0 [some (.ref v0), some (.int v1), some (.int v2), some (.int v3)] [] h = _
  refine (ss_aload_n rfl rfl).trans ?_
  refine (ss_getR rfl).trans ?_
  refine congrArg (Option.bind _) (funext fun x1 => ?_)
  refine (ss_iload_n rfl rfl).trans ?_
  refine (ss_bipush rfl (v := 7) rfl).trans ?_
  refine (ss_iadd rfl).trans ?_
  refine (ss_iload_n rfl rfl).trans ?_
  refine (ss_iadd rfl).trans ?_
  refine (ss_aload_n rfl rfl).trans ?_
  refine (ss_getR rfl).trans ?_
  refine congrArg (Option.bind _) (funext fun x2 => ?_)
  refine (ss_iload_n rfl rfl).trans ?_
  refine (ss_bipush rfl (v := 7) rfl).trans ?_
  refine (ss_iadd rfl).trans ?_
  refine (ss_iload_n rfl rfl).trans ?_
  refine (ss_iadd rfl).trans ?_
  refine (ss_iaload rfl).trans ?_
  refine congrArg (Option.bind _) (funext fun x3 => ?_)
  refine (ss_iastore rfl).trans ?_
  refine congrArg (Option.bind _) (funext fun h4 => ?_)
  refine (ss_aload_n rfl rfl).trans ?_
  refine (ss_getR rfl).trans ?_
  refine congrArg (Option.bind _) (funext fun x5 => ?_)
  refine (ss_iload_n rfl rfl).trans ?_
  refine (ss_bipush rfl (v := 13) rfl).trans ?_
  refine (ss_iadd rfl).trans ?_
  refine (ss_iload_n rfl rfl).trans ?_
  refine (ss_iadd rfl).trans ?_
  refine (ss_dup2R rfl).trans ?_
  refine (ss_iaload rfl).trans ?_
  refine congrArg (Option.bind _) (funext fun x6 => ?_)
  refine (ss_iconst rfl (v := 1) rfl).trans ?_
  refine (ss_iadd rfl).trans ?_
  refine (ss_iastore rfl).trans ?_
  refine congrArg (Option.bind _) (funext fun h7 => ?_)
  exact ss_return rfl
theorem e_Md_asks (X : pv_X) (v0 : Nat) (v1 : Int32) (v2 : Int32) (v3 : Int32) (h : pv_H) : pM X m_Md_asks [.ref v0, .int v1, .int v2, .int v3] h = f_Md_asks_0 X v0 v1 v2 v3 h := rfl
noncomputable def f_Md_beatsMore_0 (X : pv_X) (v0 : Nat) (v1 : Int32) (v2 : Int32) (v3 : Int32) (h : pv_H) : Option pv_O := pS X 2 (none) k_Md_beatsMore 0 [some (.ref v0), some (.int v1), some (.int v2), some (.int v3)] [] h
set_option maxRecDepth 8000 in
theorem u_Md_beatsMore_0 (X : pv_X) (v0 : Nat) (v1 : Int32) (v2 : Int32) (v3 : Int32) (h : pv_H) : f_Md_beatsMore_0 X v0 v1 v2 v3 h =
    (pv_fR h v0 11 21).bind (fun x1 => (pv_fR h v0 11 21).bind (fun x2 => (pv_aX X h x2 ((v1 + 1) + v2)).bind (fun x3 => (pv_tI (pM X m_Md_kept [.int (x3 + v3), .int 20, .int 160] h)).bind (fun q4 => (pv_sI q4.2 x1 ((v1 + 1) + v2) q4.1).bind (fun h5 => some (none, h5)))))) := by
  show pS X 2 (none) k_Md_beatsMore 0 [some (.ref v0), some (.int v1), some (.int v2), some (.int v3)] [] h = _
  refine (ss_aload_n rfl rfl).trans ?_
  refine (ss_getR rfl).trans ?_
  refine congrArg (Option.bind _) (funext fun x1 => ?_)
  refine (ss_iload_n rfl rfl).trans ?_
  refine (ss_iconst rfl (v := 1) rfl).trans ?_
  refine (ss_iadd rfl).trans ?_
  refine (ss_iload_n rfl rfl).trans ?_
  refine (ss_iadd rfl).trans ?_
  refine (ss_aload_n rfl rfl).trans ?_
  refine (ss_getR rfl).trans ?_
  refine congrArg (Option.bind _) (funext fun x2 => ?_)
  refine (ss_iload_n rfl rfl).trans ?_
  refine (ss_iconst rfl (v := 1) rfl).trans ?_
  refine (ss_iadd rfl).trans ?_
  refine (ss_iload_n rfl rfl).trans ?_
  refine (ss_iadd rfl).trans ?_
  refine (ss_iaload rfl).trans ?_
  refine congrArg (Option.bind _) (funext fun x3 => ?_)
  refine (ss_iload_n rfl rfl).trans ?_
  refine (ss_iadd rfl).trans ?_
  refine (ss_bipush rfl (v := 20) rfl).trans ?_
  refine (ss_sipush rfl (v := 160) rfl).trans ?_
  refine (ss_callSI (as := [.int (x3 + v3), .int 20, .int 160]) rfl t_Md_kept (by decide) rfl rfl (by simp [Value.category]) (Or.inl rfl) ⟨Nat.le_of_ble_eq_true rfl, Nat.le_of_ble_eq_true rfl⟩).trans ?_
  refine congrArg (Option.bind _) (funext fun q4 => ?_)
  refine (ss_iastore rfl).trans ?_
  refine congrArg (Option.bind _) (funext fun h5 => ?_)
  exact ss_return rfl
theorem e_Md_beatsMore (X : pv_X) (v0 : Nat) (v1 : Int32) (v2 : Int32) (v3 : Int32) (h : pv_H) : pM X m_Md_beatsMore [.ref v0, .int v1, .int v2, .int v3] h = f_Md_beatsMore_0 X v0 v1 v2 v3 h := rfl
noncomputable def f_Md_passes_1_0 (X : pv_X) (v0 : Nat) (v1 : Int32) (h : pv_H) : Option pv_O := pS X 3 (none) k_Md_passes_1 0 [some (.ref v0), some (.int v1), none] [] h
noncomputable def f_Md_passes_1_2 (X : pv_X) (v0 : Nat) (v1 : Int32) (v2 : Int32) (h : pv_H) : Option pv_O := pS X 3 (none) k_Md_passes_1 2 [some (.ref v0), some (.int v1), some (.int v2)] [] h
noncomputable def f_Md_passes_1_63 (X : pv_X) (v0 : Nat) (v1 : Int32) (v2 : Int32) (h : pv_H) : Option pv_O := pS X 3 (none) k_Md_passes_1 63 [some (.ref v0), some (.int v1), some (.int v2)] [] h
noncomputable def f_Md_passes_1_105 (X : pv_X) (v0 : Nat) (v1 : Int32) (v2 : Int32) (h : pv_H) : Option pv_O := pS X 3 (none) k_Md_passes_1 105 [some (.ref v0), some (.int v1), some (.int v2)] [] h
noncomputable def f_Md_passes_1_113 (X : pv_X) (v0 : Nat) (v1 : Int32) (v2 : Int32) (h : pv_H) : Option pv_O := pS X 3 (none) k_Md_passes_1 113 [some (.ref v0), some (.int v1), some (.int v2)] [] h
noncomputable def f_Md_passes_1_204 (X : pv_X) (v0 : Nat) (v1 : Int32) (v2 : Int32) (s0 : Int32) (s1 : Nat) (h : pv_H) : Option pv_O := pS X 3 (none) k_Md_passes_1 204 [some (.ref v0), some (.int v1), some (.int v2)] [.int s0, .ref s1] h
noncomputable def f_Md_passes_1_225 (X : pv_X) (v0 : Nat) (v1 : Int32) (v2 : Int32) (s0 : Int32) (s1 : Int32) (s2 : Nat) (h : pv_H) : Option pv_O := pS X 3 (none) k_Md_passes_1 225 [some (.ref v0), some (.int v1), some (.int v2)] [.int s0, .int s1, .ref s2] h
noncomputable def f_Md_passes_1_234 (X : pv_X) (v0 : Nat) (v1 : Int32) (v2 : Int32) (h : pv_H) : Option pv_O := pS X 3 (none) k_Md_passes_1 234 [some (.ref v0), some (.int v1), some (.int v2)] [] h
set_option maxRecDepth 8000 in
theorem u_Md_passes_1_0 (X : pv_X) (v0 : Nat) (v1 : Int32) (h : pv_H) : f_Md_passes_1_0 X v0 v1 h =
    f_Md_passes_1_2 X v0 v1 0 h := by
  show pS X 3 (none) k_Md_passes_1 0 [some (.ref v0), some (.int v1), none] [] h = _
  refine (ss_iconst rfl (v := 0) rfl).trans ?_
  refine (ss_istore_n rfl rfl).trans ?_
  rfl
set_option maxRecDepth 8000 in
theorem u_Md_passes_1_2 (X : pv_X) (v0 : Nat) (v1 : Int32) (v2 : Int32) (h : pv_H) : f_Md_passes_1_2 X v0 v1 v2 h =
    if pv_rc h v0 11 = true then (pv_tI (pM X m_Md_persons [.ref v0] h)).bind (fun q1 => if q1.1 ≤ v2 then (pv_fR q1.2 v0 11 21).bind (fun x2 => (pv_aX X q1.2 x2 (v1 + 0)).bind (fun x3 => (pv_sI q1.2 x2 (v1 + 0) (x3 + 1)).bind (fun h4 => f_Md_passes_1_63 X v0 v1 0 h4))) else (pv_fR q1.2 v0 11 21).bind (fun x5 => (pv_fR q1.2 v0 11 21).bind (fun x6 => (pv_aX X q1.2 x6 ((v1 + 7) + v2)).bind (fun x7 => if pv_rc q1.2 v0 11 = true then (pv_tI (pM X m_Md_stepOf [.ref v0, .int v1, .int v2] q1.2)).bind (fun q8 => (pv_sI q8.2 x5 ((v1 + 7) + v2) ((x7 + q8.1) - (x7 + q8.1) / 720 * 720)).bind (fun h9 => f_Md_passes_1_2 X v0 v1 (v2 + 1) h9)) else none)))) else none := by
  show pS X 3 (none) k_Md_passes_1 2 [some (.ref v0), some (.int v1), some (.int v2)] [] h = _
  refine (ss_iload_n rfl rfl).trans ?_
  refine (ss_aload_n rfl rfl).trans ?_
  refine (ss_callVI (as := []) rfl t_Md_persons (by decide) rfl rfl (by simp [Value.category]) (Or.inl rfl) ⟨Nat.le_of_ble_eq_true rfl, Nat.le_of_ble_eq_true rfl⟩).trans ?_
  refine pv_ite ?_ rfl
  refine congrArg (Option.bind _) (funext fun q1 => ?_)
  refine (ss_icmp_ge rfl).trans ?_
  refine pv_ite ?_ ?_
  · refine (ss_aload_n rfl rfl).trans ?_
    refine (ss_getR rfl).trans ?_
    refine congrArg (Option.bind _) (funext fun x2 => ?_)
    refine (ss_iload_n rfl rfl).trans ?_
    refine (ss_iconst rfl (v := 0) rfl).trans ?_
    refine (ss_iadd rfl).trans ?_
    refine (ss_dup2R rfl).trans ?_
    refine (ss_iaload rfl).trans ?_
    refine congrArg (Option.bind _) (funext fun x3 => ?_)
    refine (ss_iconst rfl (v := 1) rfl).trans ?_
    refine (ss_iadd rfl).trans ?_
    refine (ss_iastore rfl).trans ?_
    refine congrArg (Option.bind _) (funext fun h4 => ?_)
    refine (ss_iconst rfl (v := 0) rfl).trans ?_
    refine (ss_istore_n rfl rfl).trans ?_
    rfl
  · refine (ss_aload_n rfl rfl).trans ?_
    refine (ss_getR rfl).trans ?_
    refine congrArg (Option.bind _) (funext fun x5 => ?_)
    refine (ss_iload_n rfl rfl).trans ?_
    refine (ss_bipush rfl (v := 7) rfl).trans ?_
    refine (ss_iadd rfl).trans ?_
    refine (ss_iload_n rfl rfl).trans ?_
    refine (ss_iadd rfl).trans ?_
    refine (ss_aload_n rfl rfl).trans ?_
    refine (ss_getR rfl).trans ?_
    refine congrArg (Option.bind _) (funext fun x6 => ?_)
    refine (ss_iload_n rfl rfl).trans ?_
    refine (ss_bipush rfl (v := 7) rfl).trans ?_
    refine (ss_iadd rfl).trans ?_
    refine (ss_iload_n rfl rfl).trans ?_
    refine (ss_iadd rfl).trans ?_
    refine (ss_iaload rfl).trans ?_
    refine congrArg (Option.bind _) (funext fun x7 => ?_)
    refine (ss_aload_n rfl rfl).trans ?_
    refine (ss_iload_n rfl rfl).trans ?_
    refine (ss_iload_n rfl rfl).trans ?_
    refine (ss_callVI (as := [.int v1, .int v2]) rfl t_Md_stepOf (by decide) rfl rfl (by simp [Value.category]) (Or.inl rfl) ⟨Nat.le_of_ble_eq_true rfl, Nat.le_of_ble_eq_true rfl⟩).trans ?_
    refine pv_ite ?_ rfl
    refine congrArg (Option.bind _) (funext fun q8 => ?_)
    refine (ss_iadd rfl).trans ?_
    refine (ss_sipush rfl (v := 720) rfl).trans ?_
    refine (ss_irem rfl (by decide)).trans ?_
    refine (ss_iastore rfl).trans ?_
    refine congrArg (Option.bind _) (funext fun h9 => ?_)
    refine (ss_iinc3 rfl rfl (v := v2 + 1) (congrArg (HAdd.hAdd _) (show Int32.ofInt (1) = 1 by decide)) rfl).trans ?_
    refine (ss_goto rfl).trans ?_
    rfl
set_option maxRecDepth 8000 in
theorem u_Md_passes_1_63 (X : pv_X) (v0 : Nat) (v1 : Int32) (v2 : Int32) (h : pv_H) : f_Md_passes_1_63 X v0 v1 v2 h =
    if pv_rc h v0 11 = true then (pv_tI (pM X m_Md_persons [.ref v0] h)).bind (fun q1 => if q1.1 ≤ v2 then f_Md_passes_1_113 X v0 v1 0 q1.2 else (pv_fR q1.2 v0 11 21).bind (fun x2 => (pv_aX X q1.2 x2 (v1 + 0)).bind (fun x3 => if ¬ (x3 - x3 / 4 * 4) = 0 then f_Md_passes_1_105 X v0 v1 v2 q1.2 else if pv_rc q1.2 v0 11 = true then (pv_tI (pM X m_Md_personOf [.ref v0, .int v2, .int 2] q1.2)).bind (fun q4 => if q4.1 < 0 then f_Md_passes_1_105 X v0 v1 v2 q4.2 else if pv_rc q4.2 v0 11 = true then (pv_tI (pM X m_Md_personOf [.ref v0, .int v2, .int 2] q4.2)).bind (fun q5 => if pv_rc q5.2 v0 11 = true then (pv_tV (pM X m_Md_asks [.ref v0, .int v1, .int v2, .int q5.1] q5.2)).bind (fun h6 => f_Md_passes_1_105 X v0 v1 v2 h6) else none) else none) else none))) else none := by
  show pS X 3 (none) k_Md_passes_1 63 [some (.ref v0), some (.int v1), some (.int v2)] [] h = _
  refine (ss_iload_n rfl rfl).trans ?_
  refine (ss_aload_n rfl rfl).trans ?_
  refine (ss_callVI (as := []) rfl t_Md_persons (by decide) rfl rfl (by simp [Value.category]) (Or.inl rfl) ⟨Nat.le_of_ble_eq_true rfl, Nat.le_of_ble_eq_true rfl⟩).trans ?_
  refine pv_ite ?_ rfl
  refine congrArg (Option.bind _) (funext fun q1 => ?_)
  refine (ss_icmp_ge rfl).trans ?_
  refine pv_ite ?_ ?_
  · refine (ss_iconst rfl (v := 0) rfl).trans ?_
    refine (ss_istore_n rfl rfl).trans ?_
    rfl
  · refine (ss_aload_n rfl rfl).trans ?_
    refine (ss_getR rfl).trans ?_
    refine congrArg (Option.bind _) (funext fun x2 => ?_)
    refine (ss_iload_n rfl rfl).trans ?_
    refine (ss_iconst rfl (v := 0) rfl).trans ?_
    refine (ss_iadd rfl).trans ?_
    refine (ss_iaload rfl).trans ?_
    refine congrArg (Option.bind _) (funext fun x3 => ?_)
    refine (ss_iconst rfl (v := 4) rfl).trans ?_
    refine (ss_irem rfl (by decide)).trans ?_
    refine (ss_if_ne rfl).trans ?_
    refine pv_ite ?_ ?_
    · rfl
    · refine (ss_aload_n rfl rfl).trans ?_
      refine (ss_iload_n rfl rfl).trans ?_
      refine (ss_iconst rfl (v := 2) rfl).trans ?_
      refine (ss_callVI (as := [.int v2, .int 2]) rfl t_Md_personOf (by decide) rfl rfl (by decide) (Or.inl rfl) ⟨Nat.le_of_ble_eq_true rfl, Nat.le_of_ble_eq_true rfl⟩).trans ?_
      refine pv_ite ?_ rfl
      refine congrArg (Option.bind _) (funext fun q4 => ?_)
      refine (ss_if_lt rfl).trans ?_
      refine pv_ite ?_ ?_
      · rfl
      · refine (ss_aload_n rfl rfl).trans ?_
        refine (ss_iload_n rfl rfl).trans ?_
        refine (ss_iload_n rfl rfl).trans ?_
        refine (ss_aload_n rfl rfl).trans ?_
        refine (ss_iload_n rfl rfl).trans ?_
        refine (ss_iconst rfl (v := 2) rfl).trans ?_
        refine (ss_callVI (as := [.int v2, .int 2]) rfl t_Md_personOf (by decide) rfl rfl (by simp [Value.category]) (Or.inl rfl) ⟨Nat.le_of_ble_eq_true rfl, Nat.le_of_ble_eq_true rfl⟩).trans ?_
        refine pv_ite ?_ rfl
        refine congrArg (Option.bind _) (funext fun q5 => ?_)
        refine (ss_callVN (as := [.int v1, .int v2, .int q5.1]) rfl t_Md_asks (by decide) rfl rfl (by decide) rfl ⟨Nat.le_of_ble_eq_true rfl, Nat.le_of_ble_eq_true rfl⟩).trans ?_
        refine pv_ite ?_ rfl
        refine congrArg (Option.bind _) (funext fun h6 => ?_)
        rfl
set_option maxRecDepth 8000 in
theorem u_Md_passes_1_105 (X : pv_X) (v0 : Nat) (v1 : Int32) (v2 : Int32) (h : pv_H) : f_Md_passes_1_105 X v0 v1 v2 h =
    f_Md_passes_1_63 X v0 v1 (v2 + 1) h := by
  show pS X 3 (none) k_Md_passes_1 105 [some (.ref v0), some (.int v1), some (.int v2)] [] h = _
  refine (ss_iinc3 rfl rfl (v := v2 + 1) (congrArg (HAdd.hAdd _) (show Int32.ofInt (1) = 1 by decide)) rfl).trans ?_
  refine (ss_goto rfl).trans ?_
  rfl
set_option maxRecDepth 8000 in
theorem u_Md_passes_1_113 (X : pv_X) (v0 : Nat) (v1 : Int32) (v2 : Int32) (h : pv_H) : f_Md_passes_1_113 X v0 v1 v2 h =
    if pv_rc h v0 11 = true then (pv_tI (pM X m_Md_persons [.ref v0] h)).bind (fun q1 => if q1.1 ≤ v2 then f_Md_passes_1_234 X v0 v1 0 q1.2 else (pv_fR q1.2 v0 11 19).bind (fun x2 => (pv_fR q1.2 v0 11 21).bind (fun x3 => (pv_aX X q1.2 x3 ((v1 + 1) + v2)).bind (fun x4 => (pv_sI q1.2 x2 0 x4).bind (fun h5 => (pv_fR h5 v0 11 19).bind (fun x6 => if pv_rc h5 v0 11 = true then (pv_tI (pM X m_Md_outOf [.ref v0, .int v1, .int v2] h5)).bind (fun q7 => (pv_sI q7.2 x6 1 q7.1).bind (fun h8 => (pv_fR h8 v0 11 19).bind (fun x9 => (pv_fR h8 v0 11 21).bind (fun x10 => (pv_aX X h8 x10 ((v1 + 13) + v2)).bind (fun x11 => (pv_sI h8 x9 2 x11).bind (fun h12 => (pv_fR h12 v0 11 19).bind (fun x13 => if pv_rc h12 v0 11 = true then (pv_tI (pM X m_Md_trueOf [.ref v0, .int v1] h12)).bind (fun q14 => (pv_sI q14.2 x13 3 (q14.1 / 60)).bind (fun h15 => (pv_fR h15 v0 11 24).bind (fun x16 => (pv_fR h15 v0 11 10).bind (fun x17 => (pv_aX X h15 x17 1).bind (fun x18 => if x18 < 0 then f_Md_passes_1_204 X v0 v1 v2 v2 x16 h15 else if pv_rc h15 v0 11 = true then (pv_tI (pM X m_Md_personOf [.ref v0, .int v2, .int 0] h15)).bind (fun q19 => if ¬ q19.1 = 3 then (pv_fR q19.2 v0 11 10).bind (fun x20 => (pv_aX X q19.2 x20 1).bind (fun x21 => if pv_rc q19.2 v0 11 = true then (pv_tI (pM X m_Md_worthAt [.ref v0, .int x21] q19.2)).bind (fun q22 => (pv_tI (pM X m_Md_kept [.int q22.1, .int (-20), .int 20] q22.2)).bind (fun q23 => f_Md_passes_1_225 X v0 v1 v2 q23.1 v2 x16 q23.2)) else none)) else f_Md_passes_1_204 X v0 v1 v2 v2 x16 q19.2) else none))))) else none))))))) else none)))))) else none := by
  show pS X 3 (none) k_Md_passes_1 113 [some (.ref v0), some (.int v1), some (.int v2)] [] h = _
  refine (ss_iload_n rfl rfl).trans ?_
  refine (ss_aload_n rfl rfl).trans ?_
  refine (ss_callVI (as := []) rfl t_Md_persons (by decide) rfl rfl (by simp [Value.category]) (Or.inl rfl) ⟨Nat.le_of_ble_eq_true rfl, Nat.le_of_ble_eq_true rfl⟩).trans ?_
  refine pv_ite ?_ rfl
  refine congrArg (Option.bind _) (funext fun q1 => ?_)
  refine (ss_icmp_ge rfl).trans ?_
  refine pv_ite ?_ ?_
  · refine (ss_iconst rfl (v := 0) rfl).trans ?_
    refine (ss_istore_n rfl rfl).trans ?_
    rfl
  · refine (ss_aload_n rfl rfl).trans ?_
    refine (ss_getR rfl).trans ?_
    refine congrArg (Option.bind _) (funext fun x2 => ?_)
    refine (ss_iconst rfl (v := 0) rfl).trans ?_
    refine (ss_aload_n rfl rfl).trans ?_
    refine (ss_getR rfl).trans ?_
    refine congrArg (Option.bind _) (funext fun x3 => ?_)
    refine (ss_iload_n rfl rfl).trans ?_
    refine (ss_iconst rfl (v := 1) rfl).trans ?_
    refine (ss_iadd rfl).trans ?_
    refine (ss_iload_n rfl rfl).trans ?_
    refine (ss_iadd rfl).trans ?_
    refine (ss_iaload rfl).trans ?_
    refine congrArg (Option.bind _) (funext fun x4 => ?_)
    refine (ss_iastore rfl).trans ?_
    refine congrArg (Option.bind _) (funext fun h5 => ?_)
    refine (ss_aload_n rfl rfl).trans ?_
    refine (ss_getR rfl).trans ?_
    refine congrArg (Option.bind _) (funext fun x6 => ?_)
    refine (ss_iconst rfl (v := 1) rfl).trans ?_
    refine (ss_aload_n rfl rfl).trans ?_
    refine (ss_iload_n rfl rfl).trans ?_
    refine (ss_iload_n rfl rfl).trans ?_
    refine (ss_callVI (as := [.int v1, .int v2]) rfl t_Md_outOf (by decide) rfl rfl (by simp [Value.category]) (Or.inl rfl) ⟨Nat.le_of_ble_eq_true rfl, Nat.le_of_ble_eq_true rfl⟩).trans ?_
    refine pv_ite ?_ rfl
    refine congrArg (Option.bind _) (funext fun q7 => ?_)
    refine (ss_iastore rfl).trans ?_
    refine congrArg (Option.bind _) (funext fun h8 => ?_)
    refine (ss_aload_n rfl rfl).trans ?_
    refine (ss_getR rfl).trans ?_
    refine congrArg (Option.bind _) (funext fun x9 => ?_)
    refine (ss_iconst rfl (v := 2) rfl).trans ?_
    refine (ss_aload_n rfl rfl).trans ?_
    refine (ss_getR rfl).trans ?_
    refine congrArg (Option.bind _) (funext fun x10 => ?_)
    refine (ss_iload_n rfl rfl).trans ?_
    refine (ss_bipush rfl (v := 13) rfl).trans ?_
    refine (ss_iadd rfl).trans ?_
    refine (ss_iload_n rfl rfl).trans ?_
    refine (ss_iadd rfl).trans ?_
    refine (ss_iaload rfl).trans ?_
    refine congrArg (Option.bind _) (funext fun x11 => ?_)
    refine (ss_iastore rfl).trans ?_
    refine congrArg (Option.bind _) (funext fun h12 => ?_)
    refine (ss_aload_n rfl rfl).trans ?_
    refine (ss_getR rfl).trans ?_
    refine congrArg (Option.bind _) (funext fun x13 => ?_)
    refine (ss_iconst rfl (v := 3) rfl).trans ?_
    refine (ss_aload_n rfl rfl).trans ?_
    refine (ss_iload_n rfl rfl).trans ?_
    refine (ss_callVI (as := [.int v1]) rfl t_Md_trueOf (by decide) rfl rfl (by simp [Value.category]) (Or.inl rfl) ⟨Nat.le_of_ble_eq_true rfl, Nat.le_of_ble_eq_true rfl⟩).trans ?_
    refine pv_ite ?_ rfl
    refine congrArg (Option.bind _) (funext fun q14 => ?_)
    refine (ss_bipush rfl (v := 60) rfl).trans ?_
    refine (ss_idiv rfl (by decide)).trans ?_
    refine (ss_iastore rfl).trans ?_
    refine congrArg (Option.bind _) (funext fun h15 => ?_)
    refine (ss_aload_n rfl rfl).trans ?_
    refine (ss_getR rfl).trans ?_
    refine congrArg (Option.bind _) (funext fun x16 => ?_)
    refine (ss_iload_n rfl rfl).trans ?_
    refine (ss_aload_n rfl rfl).trans ?_
    refine (ss_getR rfl).trans ?_
    refine congrArg (Option.bind _) (funext fun x17 => ?_)
    refine (ss_iconst rfl (v := 1) rfl).trans ?_
    refine (ss_iaload rfl).trans ?_
    refine congrArg (Option.bind _) (funext fun x18 => ?_)
    refine (ss_if_lt rfl).trans ?_
    refine pv_ite ?_ ?_
    · rfl
    · refine (ss_aload_n rfl rfl).trans ?_
      refine (ss_iload_n rfl rfl).trans ?_
      refine (ss_iconst rfl (v := 0) rfl).trans ?_
      refine (ss_callVI (as := [.int v2, .int 0]) rfl t_Md_personOf (by decide) rfl rfl (by simp [Value.category]) (Or.inl rfl) ⟨Nat.le_of_ble_eq_true rfl, Nat.le_of_ble_eq_true rfl⟩).trans ?_
      refine pv_ite ?_ rfl
      refine congrArg (Option.bind _) (funext fun q19 => ?_)
      refine (ss_iconst rfl (v := 3) rfl).trans ?_
      refine (ss_icmp_ne rfl).trans ?_
      refine pv_ite ?_ ?_
      · refine (ss_aload_n rfl rfl).trans ?_
        refine (ss_aload_n rfl rfl).trans ?_
        refine (ss_getR rfl).trans ?_
        refine congrArg (Option.bind _) (funext fun x20 => ?_)
        refine (ss_iconst rfl (v := 1) rfl).trans ?_
        refine (ss_iaload rfl).trans ?_
        refine congrArg (Option.bind _) (funext fun x21 => ?_)
        refine (ss_callVI (as := [.int x21]) rfl t_Md_worthAt (by decide) rfl rfl (by simp [Value.category]) (Or.inl rfl) ⟨Nat.le_of_ble_eq_true rfl, Nat.le_of_ble_eq_true rfl⟩).trans ?_
        refine pv_ite ?_ rfl
        refine congrArg (Option.bind _) (funext fun q22 => ?_)
        refine (ss_bipush rfl (v := (-20)) rfl).trans ?_
        refine (ss_bipush rfl (v := 20) rfl).trans ?_
        refine (ss_callSI (as := [.int q22.1, .int (-20), .int 20]) rfl t_Md_kept (by decide) rfl rfl (by simp [Value.category]) (Or.inl rfl) ⟨Nat.le_of_ble_eq_true rfl, Nat.le_of_ble_eq_true rfl⟩).trans ?_
        refine congrArg (Option.bind _) (funext fun q23 => ?_)
        rfl
      · rfl
set_option maxRecDepth 8000 in
theorem u_Md_passes_1_204 (X : pv_X) (v0 : Nat) (v1 : Int32) (v2 : Int32) (s0 : Int32) (s1 : Nat) (h : pv_H) : f_Md_passes_1_204 X v0 v1 v2 s0 s1 h =
    f_Md_passes_1_225 X v0 v1 v2 0 s0 s1 h := by
  show pS X 3 (none) k_Md_passes_1 204 [some (.ref v0), some (.int v1), some (.int v2)] [.int s0, .ref s1] h = _
  refine (ss_iconst rfl (v := 0) rfl).trans ?_
  refine (ss_goto rfl).trans ?_
  rfl
set_option maxRecDepth 8000 in
theorem u_Md_passes_1_225 (X : pv_X) (v0 : Nat) (v1 : Int32) (v2 : Int32) (s0 : Int32) (s1 : Int32) (s2 : Nat) (h : pv_H) : f_Md_passes_1_225 X v0 v1 v2 s0 s1 s2 h =
    (pv_sI h s2 s1 s0).bind (fun h1 => f_Md_passes_1_113 X v0 v1 (v2 + 1) h1) := by
  show pS X 3 (none) k_Md_passes_1 225 [some (.ref v0), some (.int v1), some (.int v2)] [.int s0, .int s1, .ref s2] h = _
  refine (ss_iastore rfl).trans ?_
  refine congrArg (Option.bind _) (funext fun h1 => ?_)
  refine (ss_iinc3 rfl rfl (v := v2 + 1) (congrArg (HAdd.hAdd _) (show Int32.ofInt (1) = 1 by decide)) rfl).trans ?_
  refine (ss_goto rfl).trans ?_
  rfl
set_option maxRecDepth 8000 in
theorem u_Md_passes_1_234 (X : pv_X) (v0 : Nat) (v1 : Int32) (v2 : Int32) (h : pv_H) : f_Md_passes_1_234 X v0 v1 v2 h =
    if pv_rc h v0 11 = true then (pv_tI (pM X m_Md_persons [.ref v0] h)).bind (fun q1 => if q1.1 ≤ v2 then some (none, q1.2) else (pv_fR q1.2 v0 11 24).bind (fun x2 => (pv_aX X q1.2 x2 v2).bind (fun x3 => if pv_rc q1.2 v0 11 = true then (pv_tV (pM X m_Md_beatsMore [.ref v0, .int v1, .int v2, .int x3] q1.2)).bind (fun h4 => f_Md_passes_1_234 X v0 v1 (v2 + 1) h4) else none))) else none := by
  show pS X 3 (none) k_Md_passes_1 234 [some (.ref v0), some (.int v1), some (.int v2)] [] h = _
  refine (ss_iload_n rfl rfl).trans ?_
  refine (ss_aload_n rfl rfl).trans ?_
  refine (ss_callVI (as := []) rfl t_Md_persons (by decide) rfl rfl (by simp [Value.category]) (Or.inl rfl) ⟨Nat.le_of_ble_eq_true rfl, Nat.le_of_ble_eq_true rfl⟩).trans ?_
  refine pv_ite ?_ rfl
  refine congrArg (Option.bind _) (funext fun q1 => ?_)
  refine (ss_icmp_ge rfl).trans ?_
  refine pv_ite ?_ ?_
  · exact ss_return rfl
  · refine (ss_aload_n rfl rfl).trans ?_
    refine (ss_iload_n rfl rfl).trans ?_
    refine (ss_iload_n rfl rfl).trans ?_
    refine (ss_aload_n rfl rfl).trans ?_
    refine (ss_getR rfl).trans ?_
    refine congrArg (Option.bind _) (funext fun x2 => ?_)
    refine (ss_iload_n rfl rfl).trans ?_
    refine (ss_iaload rfl).trans ?_
    refine congrArg (Option.bind _) (funext fun x3 => ?_)
    refine (ss_callVN (as := [.int v1, .int v2, .int x3]) rfl t_Md_beatsMore (by decide) rfl rfl (by decide) rfl ⟨Nat.le_of_ble_eq_true rfl, Nat.le_of_ble_eq_true rfl⟩).trans ?_
    refine pv_ite ?_ rfl
    refine congrArg (Option.bind _) (funext fun h4 => ?_)
    refine (ss_iinc3 rfl rfl (v := v2 + 1) (congrArg (HAdd.hAdd _) (show Int32.ofInt (1) = 1 by decide)) rfl).trans ?_
    refine (ss_goto rfl).trans ?_
    rfl
theorem e_Md_passes_1 (X : pv_X) (v0 : Nat) (v1 : Int32) (h : pv_H) : pM X m_Md_passes_1 [.ref v0, .int v1] h = f_Md_passes_1_0 X v0 v1 h := rfl
noncomputable def f_Md_worstOf_0 (X : pv_X) (v0 : Nat) (v1 : Int32) (h : pv_H) : Option pv_O := pS X 3 (some .int) k_Md_worstOf 0 [some (.ref v0), some (.int v1), none, none, none, none] [] h
noncomputable def f_Md_worstOf_7 (X : pv_X) (v0 : Nat) (v1 : Int32) (v2 : Int32) (v3 : Int32) (v4 : Int32) (o5 : Option Value) (h : pv_H) : Option pv_O := pS X 3 (some .int) k_Md_worstOf 7 [some (.ref v0), some (.int v1), some (.int v2), some (.int v3), some (.int v4), o5] [] h
noncomputable def f_Md_worstOf_40 (X : pv_X) (v0 : Nat) (v1 : Int32) (v2 : Int32) (v3 : Int32) (v4 : Int32) (v5 : Int32) (s0 : Int32) (h : pv_H) : Option pv_O := pS X 3 (some .int) k_Md_worstOf 40 [some (.ref v0), some (.int v1), some (.int v2), some (.int v3), some (.int v4), some (.int v5)] [.int s0] h
noncomputable def f_Md_worstOf_53 (X : pv_X) (v0 : Nat) (v1 : Int32) (v2 : Int32) (v3 : Int32) (v4 : Int32) (v5 : Int32) (s0 : Int32) (h : pv_H) : Option pv_O := pS X 3 (some .int) k_Md_worstOf 53 [some (.ref v0), some (.int v1), some (.int v2), some (.int v3), some (.int v4), some (.int v5)] [.int s0] h
set_option maxRecDepth 8000 in
theorem u_Md_worstOf_0 (X : pv_X) (v0 : Nat) (v1 : Int32) (h : pv_H) : f_Md_worstOf_0 X v0 v1 h =
    f_Md_worstOf_7 X v0 v1 (-1) (-1) 0 none h := by
  show pS X 3 (some .int) k_Md_worstOf 0 [some (.ref v0), some (.int v1), none, none, none, none] [] h = _
  refine (ss_iconst rfl (v := (-1)) rfl).trans ?_
  refine (ss_istore_n rfl rfl).trans ?_
  refine (ss_iconst rfl (v := (-1)) rfl).trans ?_
  refine (ss_istore_n rfl rfl).trans ?_
  refine (ss_iconst rfl (v := 0) rfl).trans ?_
  refine (ss_istore rfl rfl).trans ?_
  rfl
set_option maxRecDepth 8000 in
theorem u_Md_worstOf_7 (X : pv_X) (v0 : Nat) (v1 : Int32) (v2 : Int32) (v3 : Int32) (v4 : Int32) (o5 : Option Value) (h : pv_H) : f_Md_worstOf_7 X v0 v1 v2 v3 v4 o5 h =
    if pv_rc h v0 11 = true then (pv_tI (pM X m_Md_persons [.ref v0] h)).bind (fun q1 => if q1.1 ≤ v4 then some (some (.int v2), q1.2) else if pv_rc q1.2 v0 11 = true then (pv_tI (pM X m_Md_outOf [.ref v0, .int v1, .int v4] q1.2)).bind (fun q2 => (pv_tI (pM X m_Md_unsigned [.int q2.1] q2.2)).bind (fun q3 => if q3.1 ≤ v3 then f_Md_worstOf_40 X v0 v1 v2 v3 v4 q3.1 v2 q3.2 else f_Md_worstOf_40 X v0 v1 v2 v3 v4 q3.1 v4 q3.2)) else none) else none := by
  show pS X 3 (some .int) k_Md_worstOf 7 [some (.ref v0), some (.int v1), some (.int v2), some (.int v3), some (.int v4), o5] [] h = _
  refine (ss_iload rfl rfl).trans ?_
  refine (ss_aload_n rfl rfl).trans ?_
  refine (ss_callVI (as := []) rfl t_Md_persons (by decide) rfl rfl (by simp [Value.category]) (Or.inl rfl) ⟨Nat.le_of_ble_eq_true rfl, Nat.le_of_ble_eq_true rfl⟩).trans ?_
  refine pv_ite ?_ rfl
  refine congrArg (Option.bind _) (funext fun q1 => ?_)
  refine (ss_icmp_ge rfl).trans ?_
  refine pv_ite ?_ ?_
  · refine (ss_iload_n rfl rfl).trans ?_
    exact ss_ireturn rfl
  · refine (ss_aload_n rfl rfl).trans ?_
    refine (ss_iload_n rfl rfl).trans ?_
    refine (ss_iload rfl rfl).trans ?_
    refine (ss_callVI (as := [.int v1, .int v4]) rfl t_Md_outOf (by decide) rfl rfl (by decide) (Or.inl rfl) ⟨Nat.le_of_ble_eq_true rfl, Nat.le_of_ble_eq_true rfl⟩).trans ?_
    refine pv_ite ?_ rfl
    refine congrArg (Option.bind _) (funext fun q2 => ?_)
    refine (ss_callSI (as := [.int q2.1]) rfl t_Md_unsigned (by decide) rfl rfl (by decide) (Or.inl rfl) ⟨Nat.le_of_ble_eq_true rfl, Nat.le_of_ble_eq_true rfl⟩).trans ?_
    refine congrArg (Option.bind _) (funext fun q3 => ?_)
    refine (ss_istore rfl rfl).trans ?_
    refine (ss_iload rfl rfl).trans ?_
    refine (ss_iload_n rfl rfl).trans ?_
    refine (ss_icmp_le rfl).trans ?_
    refine pv_ite ?_ ?_
    · refine (ss_iload_n rfl rfl).trans ?_
      rfl
    · refine (ss_iload rfl rfl).trans ?_
      refine (ss_goto rfl).trans ?_
      rfl
set_option maxRecDepth 8000 in
theorem u_Md_worstOf_40 (X : pv_X) (v0 : Nat) (v1 : Int32) (v2 : Int32) (v3 : Int32) (v4 : Int32) (v5 : Int32) (s0 : Int32) (h : pv_H) : f_Md_worstOf_40 X v0 v1 v2 v3 v4 v5 s0 h =
    if v5 ≤ v3 then f_Md_worstOf_53 X v0 v1 s0 v3 v4 v5 v3 h else f_Md_worstOf_53 X v0 v1 s0 v3 v4 v5 v5 h := by
  show pS X 3 (some .int) k_Md_worstOf 40 [some (.ref v0), some (.int v1), some (.int v2), some (.int v3), some (.int v4), some (.int v5)] [.int s0] h = _
  refine (ss_istore_n rfl rfl).trans ?_
  refine (ss_iload rfl rfl).trans ?_
  refine (ss_iload_n rfl rfl).trans ?_
  refine (ss_icmp_le rfl).trans ?_
  refine pv_ite ?_ ?_
  · refine (ss_iload_n rfl rfl).trans ?_
    rfl
  · refine (ss_iload rfl rfl).trans ?_
    refine (ss_goto rfl).trans ?_
    rfl
set_option maxRecDepth 8000 in
theorem u_Md_worstOf_53 (X : pv_X) (v0 : Nat) (v1 : Int32) (v2 : Int32) (v3 : Int32) (v4 : Int32) (v5 : Int32) (s0 : Int32) (h : pv_H) : f_Md_worstOf_53 X v0 v1 v2 v3 v4 v5 s0 h =
    f_Md_worstOf_7 X v0 v1 v2 s0 (v4 + 1) (some (.int v5)) h := by
  show pS X 3 (some .int) k_Md_worstOf 53 [some (.ref v0), some (.int v1), some (.int v2), some (.int v3), some (.int v4), some (.int v5)] [.int s0] h = _
  refine (ss_istore_n rfl rfl).trans ?_
  refine (ss_iinc3 rfl rfl (v := v4 + 1) (congrArg (HAdd.hAdd _) (show Int32.ofInt (1) = 1 by decide)) rfl).trans ?_
  refine (ss_goto rfl).trans ?_
  rfl
theorem e_Md_worstOf (X : pv_X) (v0 : Nat) (v1 : Int32) (h : pv_H) : pM X m_Md_worstOf [.ref v0, .int v1] h = f_Md_worstOf_0 X v0 v1 h := rfl
noncomputable def f_Md_sumOf_0 (X : pv_X) (v0 : Nat) (v1 : Int32) (h : pv_H) : Option pv_O := pS X 2 (some .int) k_Md_sumOf 0 [some (.ref v0), some (.int v1), none, none] [] h
noncomputable def f_Md_sumOf_4 (X : pv_X) (v0 : Nat) (v1 : Int32) (v2 : Int32) (v3 : Int32) (h : pv_H) : Option pv_O := pS X 2 (some .int) k_Md_sumOf 4 [some (.ref v0), some (.int v1), some (.int v2), some (.int v3)] [] h
set_option maxRecDepth 8000 in
theorem u_Md_sumOf_0 (X : pv_X) (v0 : Nat) (v1 : Int32) (h : pv_H) : f_Md_sumOf_0 X v0 v1 h =
    f_Md_sumOf_4 X v0 v1 0 0 h := by
  show pS X 2 (some .int) k_Md_sumOf 0 [some (.ref v0), some (.int v1), none, none] [] h = _
  refine (ss_iconst rfl (v := 0) rfl).trans ?_
  refine (ss_istore_n rfl rfl).trans ?_
  refine (ss_iconst rfl (v := 0) rfl).trans ?_
  refine (ss_istore_n rfl rfl).trans ?_
  rfl
set_option maxRecDepth 8000 in
theorem u_Md_sumOf_4 (X : pv_X) (v0 : Nat) (v1 : Int32) (v2 : Int32) (v3 : Int32) (h : pv_H) : f_Md_sumOf_4 X v0 v1 v2 v3 h =
    if pv_rc h v0 11 = true then (pv_tI (pM X m_Md_persons [.ref v0] h)).bind (fun q1 => if q1.1 ≤ v3 then some (some (.int v2), q1.2) else (pv_fR q1.2 v0 11 21).bind (fun x2 => (pv_aX X q1.2 x2 (v1 + v3)).bind (fun x3 => f_Md_sumOf_4 X v0 v1 (v2 + x3) (v3 + 1) q1.2))) else none := by
  show pS X 2 (some .int) k_Md_sumOf 4 [some (.ref v0), some (.int v1), some (.int v2), some (.int v3)] [] h = _
  refine (ss_iload_n rfl rfl).trans ?_
  refine (ss_aload_n rfl rfl).trans ?_
  refine (ss_callVI (as := []) rfl t_Md_persons (by decide) rfl rfl (by simp [Value.category]) (Or.inl rfl) ⟨Nat.le_of_ble_eq_true rfl, Nat.le_of_ble_eq_true rfl⟩).trans ?_
  refine pv_ite ?_ rfl
  refine congrArg (Option.bind _) (funext fun q1 => ?_)
  refine (ss_icmp_ge rfl).trans ?_
  refine pv_ite ?_ ?_
  · refine (ss_iload_n rfl rfl).trans ?_
    exact ss_ireturn rfl
  · refine (ss_iload_n rfl rfl).trans ?_
    refine (ss_aload_n rfl rfl).trans ?_
    refine (ss_getR rfl).trans ?_
    refine congrArg (Option.bind _) (funext fun x2 => ?_)
    refine (ss_iload_n rfl rfl).trans ?_
    refine (ss_iload_n rfl rfl).trans ?_
    refine (ss_iadd rfl).trans ?_
    refine (ss_iaload rfl).trans ?_
    refine congrArg (Option.bind _) (funext fun x3 => ?_)
    refine (ss_iadd rfl).trans ?_
    refine (ss_istore_n rfl rfl).trans ?_
    refine (ss_iinc3 rfl rfl (v := v3 + 1) (congrArg (HAdd.hAdd _) (show Int32.ofInt (1) = 1 by decide)) rfl).trans ?_
    refine (ss_goto rfl).trans ?_
    rfl
theorem e_Md_sumOf (X : pv_X) (v0 : Nat) (v1 : Int32) (h : pv_H) : pM X m_Md_sumOf [.ref v0, .int v1] h = f_Md_sumOf_0 X v0 v1 h := rfl
noncomputable def f_Md_person_0 (X : pv_X) (v0 : Nat) (v1 : Int32) (v2 : Int32) (h : pv_H) : Option pv_O := pS X 3 (some .int) k_Md_person 0 [some (.ref v0), some (.int v1), some (.int v2)] [] h
noncomputable def f_Md_person_22 (X : pv_X) (v0 : Nat) (v1 : Int32) (v2 : Int32) (h : pv_H) : Option pv_O := pS X 3 (some .int) k_Md_person 22 [some (.ref v0), some (.int v1), some (.int v2)] [] h
set_option maxRecDepth 8000 in
theorem u_Md_person_0 (X : pv_X) (v0 : Nat) (v1 : Int32) (v2 : Int32) (h : pv_H) : f_Md_person_0 X v0 v1 v2 h =
    (pv_fp h v0 11 0 (.int 0)).bind (fun h1 => if pv_rc h1 v0 11 = true then (pv_tI (pM X m_Md_isPerson [.ref v0, .int v1] h1)).bind (fun q2 => if q2.1 = 0 then f_Md_person_22 X v0 v1 v2 q2.2 else (pv_tI (pM X m_Md_within [.int v2, .int 0, .int 5] q2.2)).bind (fun q3 => if ¬ q3.1 = 0 then if v2 = 0 then if pv_rc q3.2 v0 11 = true then (pv_tI (pM X m_Md_personOf [.ref v0, .int v1, .int 0] q3.2)).bind (fun q4 => some (some (.int q4.1), q4.2)) else none else if v2 = 1 then (pv_fR q3.2 v0 11 21).bind (fun x6 => (pv_aX X q3.2 x6 (1 + v1)).bind (fun x7 => some (some (.int x7), q3.2))) else if v2 = 2 then (pv_fR q3.2 v0 11 21).bind (fun x9 => (pv_aX X q3.2 x9 (7 + v1)).bind (fun x10 => some (some (.int x10), q3.2))) else if v2 = 3 then if pv_rc q3.2 v0 11 = true then (pv_tI (pM X m_Md_outOf [.ref v0, .int 0, .int v1] q3.2)).bind (fun q12 => some (some (.int q12.1), q12.2)) else none else if v2 = 4 then (pv_fR q3.2 v0 11 21).bind (fun x14 => (pv_aX X q3.2 x14 (13 + v1)).bind (fun x15 => some (some (.int x15), q3.2))) else if pv_rc q3.2 v0 11 = true then (pv_tI (pM X m_Md_personOf [.ref v0, .int v1, .int 2] q3.2)).bind (fun q17 => some (some (.int q17.1), q17.2)) else none else f_Md_person_22 X v0 v1 v2 q3.2)) else none) := by
  show pS X 3 (some .int) k_Md_person 0 [some (.ref v0), some (.int v1), some (.int v2)] [] h = _
  refine (ss_aload_n rfl rfl).trans ?_
  refine (ss_iconst rfl (v := 0) rfl).trans ?_
  refine (ss_putI rfl).trans ?_
  refine congrArg (Option.bind _) (funext fun h1 => ?_)
  refine (ss_aload_n rfl rfl).trans ?_
  refine (ss_iload_n rfl rfl).trans ?_
  refine (ss_callVI (as := [.int v1]) rfl t_Md_isPerson (by decide) rfl rfl (by decide) (Or.inr rfl) ⟨Nat.le_of_ble_eq_true rfl, Nat.le_of_ble_eq_true rfl⟩).trans ?_
  refine pv_ite ?_ rfl
  refine congrArg (Option.bind _) (funext fun q2 => ?_)
  refine (ss_if_eq rfl).trans ?_
  refine pv_ite ?_ ?_
  · rfl
  · refine (ss_iload_n rfl rfl).trans ?_
    refine (ss_iconst rfl (v := 0) rfl).trans ?_
    refine (ss_iconst rfl (v := 5) rfl).trans ?_
    refine (ss_callSI (as := [.int v2, .int 0, .int 5]) rfl t_Md_within (by decide) rfl rfl (by decide) (Or.inr rfl) ⟨Nat.le_of_ble_eq_true rfl, Nat.le_of_ble_eq_true rfl⟩).trans ?_
    refine congrArg (Option.bind _) (funext fun q3 => ?_)
    refine (ss_if_ne rfl).trans ?_
    refine pv_ite ?_ ?_
    · refine (ss_iload_n rfl rfl).trans ?_
      refine (ss_table rfl).trans ?_
      by_cases c5 : v2 = 0
      · rw [if_pos c5, c5]
        show pS X _ _ _ 60 _ _ _ = _
        refine (ss_aload_n rfl rfl).trans ?_
        refine (ss_iload_n rfl rfl).trans ?_
        refine (ss_iconst rfl (v := 0) rfl).trans ?_
        refine (ss_callVI (as := [.int v1, .int 0]) rfl t_Md_personOf (by decide) rfl rfl (by decide) (Or.inl rfl) ⟨Nat.le_of_ble_eq_true rfl, Nat.le_of_ble_eq_true rfl⟩).trans ?_
        refine pv_ite ?_ rfl
        refine congrArg (Option.bind _) (funext fun q4 => ?_)
        exact ss_ireturn rfl
      rw [if_neg c5]
      by_cases c8 : v2 = 1
      · rw [if_pos c8, c8]
        show pS X _ _ _ 67 _ _ _ = _
        refine (ss_aload_n rfl rfl).trans ?_
        refine (ss_getR rfl).trans ?_
        refine congrArg (Option.bind _) (funext fun x6 => ?_)
        refine (ss_iconst rfl (v := 1) rfl).trans ?_
        refine (ss_iload_n rfl rfl).trans ?_
        refine (ss_iadd rfl).trans ?_
        refine (ss_iaload rfl).trans ?_
        refine congrArg (Option.bind _) (funext fun x7 => ?_)
        exact ss_ireturn rfl
      rw [if_neg c8]
      by_cases c11 : v2 = 2
      · rw [if_pos c11, c11]
        show pS X _ _ _ 76 _ _ _ = _
        refine (ss_aload_n rfl rfl).trans ?_
        refine (ss_getR rfl).trans ?_
        refine congrArg (Option.bind _) (funext fun x9 => ?_)
        refine (ss_bipush rfl (v := 7) rfl).trans ?_
        refine (ss_iload_n rfl rfl).trans ?_
        refine (ss_iadd rfl).trans ?_
        refine (ss_iaload rfl).trans ?_
        refine congrArg (Option.bind _) (funext fun x10 => ?_)
        exact ss_ireturn rfl
      rw [if_neg c11]
      by_cases c13 : v2 = 3
      · rw [if_pos c13, c13]
        show pS X _ _ _ 86 _ _ _ = _
        refine (ss_aload_n rfl rfl).trans ?_
        refine (ss_iconst rfl (v := 0) rfl).trans ?_
        refine (ss_iload_n rfl rfl).trans ?_
        refine (ss_callVI (as := [.int 0, .int v1]) rfl t_Md_outOf (by decide) rfl rfl (by decide) (Or.inl rfl) ⟨Nat.le_of_ble_eq_true rfl, Nat.le_of_ble_eq_true rfl⟩).trans ?_
        refine pv_ite ?_ rfl
        refine congrArg (Option.bind _) (funext fun q12 => ?_)
        exact ss_ireturn rfl
      rw [if_neg c13]
      by_cases c16 : v2 = 4
      · rw [if_pos c16, c16]
        show pS X _ _ _ 93 _ _ _ = _
        refine (ss_aload_n rfl rfl).trans ?_
        refine (ss_getR rfl).trans ?_
        refine congrArg (Option.bind _) (funext fun x14 => ?_)
        refine (ss_bipush rfl (v := 13) rfl).trans ?_
        refine (ss_iload_n rfl rfl).trans ?_
        refine (ss_iadd rfl).trans ?_
        refine (ss_iaload rfl).trans ?_
        refine congrArg (Option.bind _) (funext fun x15 => ?_)
        exact ss_ireturn rfl
      rw [if_neg c16]
      rw [pv_sw_out (pc := 27) (q := 103) (d := 76) (lo := 0) (hi := 4) (by decide) (by decide) (by have z0 := pv_ne c5 (k := 0) (z := 0) (by decide); have z1 := pv_ne c8 (k := 1) (z := 1) (by decide); have z2 := pv_ne c11 (k := 2) (z := 2) (by decide); have z3 := pv_ne c13 (k := 3) (z := 3) (by decide); have z4 := pv_ne c16 (k := 4) (z := 4) (by decide); omega)]
      show pS X _ _ _ 103 _ _ _ = _
      refine (ss_aload_n rfl rfl).trans ?_
      refine (ss_iload_n rfl rfl).trans ?_
      refine (ss_iconst rfl (v := 2) rfl).trans ?_
      refine (ss_callVI (as := [.int v1, .int 2]) rfl t_Md_personOf (by decide) rfl rfl (by decide) (Or.inl rfl) ⟨Nat.le_of_ble_eq_true rfl, Nat.le_of_ble_eq_true rfl⟩).trans ?_
      refine pv_ite ?_ rfl
      refine congrArg (Option.bind _) (funext fun q17 => ?_)
      exact ss_ireturn rfl
    · rfl
set_option maxRecDepth 8000 in
theorem u_Md_person_22 (X : pv_X) (v0 : Nat) (v1 : Int32) (v2 : Int32) (h : pv_H) : f_Md_person_22 X v0 v1 v2 h =
    some (some (.int (-1000)), h) := by
  show pS X 3 (some .int) k_Md_person 22 [some (.ref v0), some (.int v1), some (.int v2)] [] h = _
  refine (ss_sipush rfl (v := (-1000)) rfl).trans ?_
  exact ss_ireturn rfl
theorem e_Md_person (X : pv_X) (v0 : Nat) (v1 : Int32) (v2 : Int32) (h : pv_H) : pM X m_Md_person [.ref v0, .int v1, .int v2] h = f_Md_person_0 X v0 v1 v2 h := rfl
noncomputable def f_Md_ask_0 (X : pv_X) (v0 : Nat) (v1 : Int32) (v2 : Int32) (h : pv_H) : Option pv_O := pS X 3 (some .int) k_Md_ask 0 [some (.ref v0), some (.int v1), some (.int v2)] [] h
noncomputable def f_Md_ask_26 (X : pv_X) (v0 : Nat) (v1 : Int32) (v2 : Int32) (h : pv_H) : Option pv_O := pS X 3 (some .int) k_Md_ask 26 [some (.ref v0), some (.int v1), some (.int v2)] [] h
set_option maxRecDepth 8000 in
theorem u_Md_ask_0 (X : pv_X) (v0 : Nat) (v1 : Int32) (v2 : Int32) (h : pv_H) : f_Md_ask_0 X v0 v1 v2 h =
    (pv_fp h v0 11 0 (.int 0)).bind (fun h1 => if pv_rc h1 v0 11 = true then (pv_tI (pM X m_Md_isPerson [.ref v0, .int v1] h1)).bind (fun q2 => if q2.1 = 0 then f_Md_ask_26 X v0 v1 v2 q2.2 else if pv_rc q2.2 v0 11 = true then (pv_tI (pM X m_Md_isPerson [.ref v0, .int v2] q2.2)).bind (fun q3 => if q3.1 = 0 then f_Md_ask_26 X v0 v1 v2 q3.2 else if ¬ v1 = v2 then if pv_rc q3.2 v0 11 = true then (pv_tV (pM X m_Md_keeps [.ref v0] q3.2)).bind (fun h4 => if pv_rc h4 v0 11 = true then (pv_tV (pM X m_Md_asks [.ref v0, .int 0, .int v1, .int v2] h4)).bind (fun h5 => (pv_fR h5 v0 11 21).bind (fun x6 => (pv_aX X h5 x6 (7 + v1)).bind (fun x7 => some (some (.int x7), h5)))) else none) else none else f_Md_ask_26 X v0 v1 v2 q3.2) else none) else none) := by
  show pS X 3 (some .int) k_Md_ask 0 [some (.ref v0), some (.int v1), some (.int v2)] [] h = _
  refine (ss_aload_n rfl rfl).trans ?_
  refine (ss_iconst rfl (v := 0) rfl).trans ?_
  refine (ss_putI rfl).trans ?_
  refine congrArg (Option.bind _) (funext fun h1 => ?_)
  refine (ss_aload_n rfl rfl).trans ?_
  refine (ss_iload_n rfl rfl).trans ?_
  refine (ss_callVI (as := [.int v1]) rfl t_Md_isPerson (by decide) rfl rfl (by decide) (Or.inr rfl) ⟨Nat.le_of_ble_eq_true rfl, Nat.le_of_ble_eq_true rfl⟩).trans ?_
  refine pv_ite ?_ rfl
  refine congrArg (Option.bind _) (funext fun q2 => ?_)
  refine (ss_if_eq rfl).trans ?_
  refine pv_ite ?_ ?_
  · rfl
  · refine (ss_aload_n rfl rfl).trans ?_
    refine (ss_iload_n rfl rfl).trans ?_
    refine (ss_callVI (as := [.int v2]) rfl t_Md_isPerson (by decide) rfl rfl (by decide) (Or.inr rfl) ⟨Nat.le_of_ble_eq_true rfl, Nat.le_of_ble_eq_true rfl⟩).trans ?_
    refine pv_ite ?_ rfl
    refine congrArg (Option.bind _) (funext fun q3 => ?_)
    refine (ss_if_eq rfl).trans ?_
    refine pv_ite ?_ ?_
    · rfl
    · refine (ss_iload_n rfl rfl).trans ?_
      refine (ss_iload_n rfl rfl).trans ?_
      refine (ss_icmp_ne rfl).trans ?_
      refine pv_ite ?_ ?_
      · refine (ss_aload_n rfl rfl).trans ?_
        refine (ss_callVN (as := []) rfl t_Md_keeps (by decide) rfl rfl (by decide) rfl ⟨Nat.le_of_ble_eq_true rfl, Nat.le_of_ble_eq_true rfl⟩).trans ?_
        refine pv_ite ?_ rfl
        refine congrArg (Option.bind _) (funext fun h4 => ?_)
        refine (ss_aload_n rfl rfl).trans ?_
        refine (ss_iconst rfl (v := 0) rfl).trans ?_
        refine (ss_iload_n rfl rfl).trans ?_
        refine (ss_iload_n rfl rfl).trans ?_
        refine (ss_callVN (as := [.int 0, .int v1, .int v2]) rfl t_Md_asks (by decide) rfl rfl (by decide) rfl ⟨Nat.le_of_ble_eq_true rfl, Nat.le_of_ble_eq_true rfl⟩).trans ?_
        refine pv_ite ?_ rfl
        refine congrArg (Option.bind _) (funext fun h5 => ?_)
        refine (ss_aload_n rfl rfl).trans ?_
        refine (ss_getR rfl).trans ?_
        refine congrArg (Option.bind _) (funext fun x6 => ?_)
        refine (ss_bipush rfl (v := 7) rfl).trans ?_
        refine (ss_iload_n rfl rfl).trans ?_
        refine (ss_iadd rfl).trans ?_
        refine (ss_iaload rfl).trans ?_
        refine congrArg (Option.bind _) (funext fun x7 => ?_)
        exact ss_ireturn rfl
      · rfl
set_option maxRecDepth 8000 in
theorem u_Md_ask_26 (X : pv_X) (v0 : Nat) (v1 : Int32) (v2 : Int32) (h : pv_H) : f_Md_ask_26 X v0 v1 v2 h =
    some (some (.int (-1)), h) := by
  show pS X 3 (some .int) k_Md_ask 26 [some (.ref v0), some (.int v1), some (.int v2)] [] h = _
  refine (ss_iconst rfl (v := (-1)) rfl).trans ?_
  exact ss_ireturn rfl
theorem e_Md_ask (X : pv_X) (v0 : Nat) (v1 : Int32) (v2 : Int32) (h : pv_H) : pM X m_Md_ask [.ref v0, .int v1, .int v2] h = f_Md_ask_0 X v0 v1 v2 h := rfl
noncomputable def f_Md_fright_0 (X : pv_X) (v0 : Nat) (v1 : Int32) (v2 : Int32) (h : pv_H) : Option pv_O := pS X 3 (some .int) k_Md_fright 0 [some (.ref v0), some (.int v1), some (.int v2)] [] h
noncomputable def f_Md_fright_23 (X : pv_X) (v0 : Nat) (v1 : Int32) (v2 : Int32) (h : pv_H) : Option pv_O := pS X 3 (some .int) k_Md_fright 23 [some (.ref v0), some (.int v1), some (.int v2)] [] h
set_option maxRecDepth 8000 in
theorem u_Md_fright_0 (X : pv_X) (v0 : Nat) (v1 : Int32) (v2 : Int32) (h : pv_H) : f_Md_fright_0 X v0 v1 v2 h =
    (pv_fp h v0 11 0 (.int 0)).bind (fun h1 => if pv_rc h1 v0 11 = true then (pv_tI (pM X m_Md_isPerson [.ref v0, .int v1] h1)).bind (fun q2 => if q2.1 = 0 then f_Md_fright_23 X v0 v1 v2 q2.2 else (pv_tI (pM X m_Md_within [.int v2, .int 1, .int 60] q2.2)).bind (fun q3 => if ¬ q3.1 = 0 then if pv_rc q3.2 v0 11 = true then (pv_tV (pM X m_Md_keeps [.ref v0] q3.2)).bind (fun h4 => if pv_rc h4 v0 11 = true then (pv_tV (pM X m_Md_beatsMore [.ref v0, .int 0, .int v1, .int v2] h4)).bind (fun h5 => (pv_fR h5 v0 11 21).bind (fun x6 => (pv_aX X h5 x6 (1 + v1)).bind (fun x7 => some (some (.int x7), h5)))) else none) else none else f_Md_fright_23 X v0 v1 v2 q3.2)) else none) := by
  show pS X 3 (some .int) k_Md_fright 0 [some (.ref v0), some (.int v1), some (.int v2)] [] h = _
  refine (ss_aload_n rfl rfl).trans ?_
  refine (ss_iconst rfl (v := 0) rfl).trans ?_
  refine (ss_putI rfl).trans ?_
  refine congrArg (Option.bind _) (funext fun h1 => ?_)
  refine (ss_aload_n rfl rfl).trans ?_
  refine (ss_iload_n rfl rfl).trans ?_
  refine (ss_callVI (as := [.int v1]) rfl t_Md_isPerson (by decide) rfl rfl (by decide) (Or.inr rfl) ⟨Nat.le_of_ble_eq_true rfl, Nat.le_of_ble_eq_true rfl⟩).trans ?_
  refine pv_ite ?_ rfl
  refine congrArg (Option.bind _) (funext fun q2 => ?_)
  refine (ss_if_eq rfl).trans ?_
  refine pv_ite ?_ ?_
  · rfl
  · refine (ss_iload_n rfl rfl).trans ?_
    refine (ss_iconst rfl (v := 1) rfl).trans ?_
    refine (ss_bipush rfl (v := 60) rfl).trans ?_
    refine (ss_callSI (as := [.int v2, .int 1, .int 60]) rfl t_Md_within (by decide) rfl rfl (by decide) (Or.inr rfl) ⟨Nat.le_of_ble_eq_true rfl, Nat.le_of_ble_eq_true rfl⟩).trans ?_
    refine congrArg (Option.bind _) (funext fun q3 => ?_)
    refine (ss_if_ne rfl).trans ?_
    refine pv_ite ?_ ?_
    · refine (ss_aload_n rfl rfl).trans ?_
      refine (ss_callVN (as := []) rfl t_Md_keeps (by decide) rfl rfl (by decide) rfl ⟨Nat.le_of_ble_eq_true rfl, Nat.le_of_ble_eq_true rfl⟩).trans ?_
      refine pv_ite ?_ rfl
      refine congrArg (Option.bind _) (funext fun h4 => ?_)
      refine (ss_aload_n rfl rfl).trans ?_
      refine (ss_iconst rfl (v := 0) rfl).trans ?_
      refine (ss_iload_n rfl rfl).trans ?_
      refine (ss_iload_n rfl rfl).trans ?_
      refine (ss_callVN (as := [.int 0, .int v1, .int v2]) rfl t_Md_beatsMore (by decide) rfl rfl (by decide) rfl ⟨Nat.le_of_ble_eq_true rfl, Nat.le_of_ble_eq_true rfl⟩).trans ?_
      refine pv_ite ?_ rfl
      refine congrArg (Option.bind _) (funext fun h5 => ?_)
      refine (ss_aload_n rfl rfl).trans ?_
      refine (ss_getR rfl).trans ?_
      refine congrArg (Option.bind _) (funext fun x6 => ?_)
      refine (ss_iconst rfl (v := 1) rfl).trans ?_
      refine (ss_iload_n rfl rfl).trans ?_
      refine (ss_iadd rfl).trans ?_
      refine (ss_iaload rfl).trans ?_
      refine congrArg (Option.bind _) (funext fun x7 => ?_)
      exact ss_ireturn rfl
    · rfl
set_option maxRecDepth 8000 in
theorem u_Md_fright_23 (X : pv_X) (v0 : Nat) (v1 : Int32) (v2 : Int32) (h : pv_H) : f_Md_fright_23 X v0 v1 v2 h =
    some (some (.int (-1)), h) := by
  show pS X 3 (some .int) k_Md_fright 23 [some (.ref v0), some (.int v1), some (.int v2)] [] h = _
  refine (ss_iconst rfl (v := (-1)) rfl).trans ?_
  exact ss_ireturn rfl
theorem e_Md_fright (X : pv_X) (v0 : Nat) (v1 : Int32) (v2 : Int32) (h : pv_H) : pM X m_Md_fright [.ref v0, .int v1, .int v2] h = f_Md_fright_0 X v0 v1 v2 h := rfl
