noncomputable def f_Mo_init_0 (X : pv_X) (v0 : Nat) (h : pv_H) : Option pv_O := pS X 1 (none) k_Mo_init 0 [some (.ref v0)] [] h
set_option maxRecDepth 8000 in
theorem u_Mo_init_0 (X : pv_X) (v0 : Nat) (h : pv_H) : f_Mo_init_0 X v0 h =
    (pv_na h 1 1000).bind (fun h1 => (pv_fp h1 v0 5 0 (.ref h.length)).bind (fun h2 => (pv_na h2 1 32).bind (fun h3 => (pv_fp h3 v0 5 1 (.ref h2.length)).bind (fun h4 => some (none, h4))))) := by
  show pS X 1 (none) k_Mo_init 0 [some (.ref v0)] [] h = _
  refine (ss_aload_n rfl rfl).trans ?_
  refine (ss_oinit rfl (by decide)).trans ?_
  refine (ss_aload_n rfl rfl).trans ?_
  refine (ss_sipush rfl (v := 1000) rfl).trans ?_
  refine (ss_newarray (by decide) rfl).trans ?_
  refine congrArg (Option.bind _) (funext fun h1 => ?_)
  refine (ss_putR rfl).trans ?_
  refine congrArg (Option.bind _) (funext fun h2 => ?_)
  refine (ss_aload_n rfl rfl).trans ?_
  refine (ss_bipush rfl (v := 32) rfl).trans ?_
  refine (ss_newarray (by decide) rfl).trans ?_
  refine congrArg (Option.bind _) (funext fun h3 => ?_)
  refine (ss_putR rfl).trans ?_
  refine congrArg (Option.bind _) (funext fun h4 => ?_)
  exact ss_return rfl
theorem e_Mo_init (X : pv_X) (v0 : Nat) (h : pv_H) : pM X m_Mo_init [.ref v0] h = f_Mo_init_0 X v0 h := rfl
noncomputable def f_Mo_clear_0 (X : pv_X) (v0 : Nat) (h : pv_H) : Option pv_O := pS X 1 (none) k_Mo_clear 0 [some (.ref v0)] [] h
set_option maxRecDepth 8000 in
theorem u_Mo_clear_0 (X : pv_X) (v0 : Nat) (h : pv_H) : f_Mo_clear_0 X v0 h =
    (pv_fp h v0 5 2 (.int 0)).bind (fun h1 => (pv_fp h1 v0 5 3 (.int 0)).bind (fun h2 => some (none, h2))) := by
  show pS X 1 (none) k_Mo_clear 0 [some (.ref v0)] [] h = _
  refine (ss_aload_n rfl rfl).trans ?_
  refine (ss_iconst rfl (v := 0) rfl).trans ?_
  refine (ss_putI rfl).trans ?_
  refine congrArg (Option.bind _) (funext fun h1 => ?_)
  refine (ss_aload_n rfl rfl).trans ?_
  refine (ss_iconst rfl (v := 0) rfl).trans ?_
  refine ((ss_putZ rfl).trans (if_pos (by decide))).trans ?_
  refine congrArg (Option.bind _) (funext fun h2 => ?_)
  exact ss_return rfl
theorem e_Mo_clear (X : pv_X) (v0 : Nat) (h : pv_H) : pM X m_Mo_clear [.ref v0] h = f_Mo_clear_0 X v0 h := rfl
noncomputable def f_Mo_put_0 (X : pv_X) (v0 : Nat) (v1 : Int32) (h : pv_H) : Option pv_O := pS X 1 (none) k_Mo_put 0 [some (.ref v0), some (.int v1)] [] h
noncomputable def f_Mo_put_32 (X : pv_X) (v0 : Nat) (v1 : Int32) (h : pv_H) : Option pv_O := pS X 1 (none) k_Mo_put 32 [some (.ref v0), some (.int v1)] [] h
set_option maxRecDepth 8000 in
theorem u_Mo_put_0 (X : pv_X) (v0 : Nat) (v1 : Int32) (h : pv_H) : f_Mo_put_0 X v0 v1 h =
    (pv_fI h v0 5 2).bind (fun x1 => (pv_fR h v0 5 0).bind (fun x2 => (pv_len X h x2).bind (fun x3 => if x3 ≤ x1 then f_Mo_put_32 X v0 v1 h else (pv_fR h v0 5 0).bind (fun x4 => (pv_fI h v0 5 2).bind (fun x5 => (pv_sI h x4 x5 v1).bind (fun h6 => (pv_fI h6 v0 5 2).bind (fun x7 => (pv_fp h6 v0 5 2 (.int (x7 + 1))).bind (fun h8 => f_Mo_put_32 X v0 v1 h8)))))))) := by
  show pS X 1 (none) k_Mo_put 0 [some (.ref v0), some (.int v1)] [] h = _
  refine (ss_aload_n rfl rfl).trans ?_
  refine (ss_getI rfl).trans ?_
  refine congrArg (Option.bind _) (funext fun x1 => ?_)
  refine (ss_aload_n rfl rfl).trans ?_
  refine (ss_getR rfl).trans ?_
  refine congrArg (Option.bind _) (funext fun x2 => ?_)
  refine (ss_arraylength rfl).trans ?_
  refine congrArg (Option.bind _) (funext fun x3 => ?_)
  refine (ss_icmp_ge rfl).trans ?_
  refine pv_ite ?_ ?_
  · rfl
  · refine (ss_aload_n rfl rfl).trans ?_
    refine (ss_getR rfl).trans ?_
    refine congrArg (Option.bind _) (funext fun x4 => ?_)
    refine (ss_aload_n rfl rfl).trans ?_
    refine (ss_getI rfl).trans ?_
    refine congrArg (Option.bind _) (funext fun x5 => ?_)
    refine (ss_iload_n rfl rfl).trans ?_
    refine (ss_iastore rfl).trans ?_
    refine congrArg (Option.bind _) (funext fun h6 => ?_)
    refine (ss_aload_n rfl rfl).trans ?_
    refine (ss_dupR rfl).trans ?_
    refine (ss_getI rfl).trans ?_
    refine congrArg (Option.bind _) (funext fun x7 => ?_)
    refine (ss_iconst rfl (v := 1) rfl).trans ?_
    refine (ss_iadd rfl).trans ?_
    refine (ss_putI rfl).trans ?_
    refine congrArg (Option.bind _) (funext fun h8 => ?_)
    rfl
set_option maxRecDepth 8000 in
theorem u_Mo_put_32 (X : pv_X) (v0 : Nat) (v1 : Int32) (h : pv_H) : f_Mo_put_32 X v0 v1 h =
    some (none, h) := by
  show pS X 1 (none) k_Mo_put 32 [some (.ref v0), some (.int v1)] [] h = _
  exact ss_return rfl
theorem e_Mo_put (X : pv_X) (v0 : Nat) (v1 : Int32) (h : pv_H) : pM X m_Mo_put [.ref v0, .int v1] h = f_Mo_put_0 X v0 v1 h := rfl
noncomputable def f_Mo_readTests_0 (X : pv_X) (r : Nat) (v0 : Nat) (v1 : Nat) (v2 : Int32) (h : pv_H) : Option pv_O := pS X r (some .boolean) k_Mo_readTests 0 [some (.ref v0), some (.ref v1), some (.int v2), none, none, none] [] h
noncomputable def f_Mo_readTests_37 (X : pv_X) (r : Nat) (v0 : Nat) (v1 : Nat) (v2 : Int32) (v3 : Int32) (s0 : Int32) (h : pv_H) : Option pv_O := pS X r (some .boolean) k_Mo_readTests 37 [some (.ref v0), some (.ref v1), some (.int v2), some (.int v3), none, none] [.int s0] h
noncomputable def f_Mo_readTests_42 (X : pv_X) (r : Nat) (v0 : Nat) (v1 : Nat) (v2 : Int32) (v3 : Int32) (v4 : Int32) (v5 : Int32) (h : pv_H) : Option pv_O := pS X r (some .boolean) k_Mo_readTests 42 [some (.ref v0), some (.ref v1), some (.int v2), some (.int v3), some (.int v4), some (.int v5)] [] h
noncomputable def f_Mo_readTests_108 (X : pv_X) (r : Nat) (v0 : Nat) (v1 : Nat) (v2 : Int32) (v3 : Int32) (v4 : Int32) (v5 : Int32) (s0 : Int32) (h : pv_H) : Option pv_O := pS X r (some .boolean) k_Mo_readTests 108 [some (.ref v0), some (.ref v1), some (.int v2), some (.int v3), some (.int v4), some (.int v5)] [.int s0] h
noncomputable def f_Mo_readTests_116 (X : pv_X) (r : Nat) (v0 : Nat) (v1 : Nat) (v2 : Int32) (v3 : Int32) (v4 : Int32) (v5 : Int32) (h : pv_H) : Option pv_O := pS X r (some .boolean) k_Mo_readTests 116 [some (.ref v0), some (.ref v1), some (.int v2), some (.int v3), some (.int v4), some (.int v5)] [] h
set_option maxRecDepth 8000 in
theorem u_Mo_readTests_0 (X : pv_X) (r : Nat) (v0 : Nat) (v1 : Nat) (v2 : Int32) (h : pv_H) : f_Mo_readTests_0 X r v0 v1 v2 h =
    if m_Mo_readTest.2.2.2.2.2 [.ref v0, .ref v1, .int v2] < r then (if pv_rc h v0 5 = true then (pv_tI (pM X m_Mo_readTest [.ref v0, .ref v1, .int v2] h)).bind (fun q1 => if m_Tp_isWord.2.2.2.2.2 [.ref v1, .ref (pv_scr + 1 + 11)] < r then (if pv_rc q1.2 v1 9 = true then (pv_tI (pM X m_Tp_isWord [.ref v1, .ref (pv_scr + 1 + 11)] q1.2)).bind (fun q2 => if q2.1 = 0 then if m_Tp_isWord.2.2.2.2.2 [.ref v1, .ref (pv_scr + 1 + 12)] < r then (if pv_rc q2.2 v1 9 = true then (pv_tI (pM X m_Tp_isWord [.ref v1, .ref (pv_scr + 1 + 12)] q2.2)).bind (fun q3 => if q3.1 = 0 then f_Mo_readTests_37 X r v0 v1 v2 q1.1 (-13) q3.2 else f_Mo_readTests_37 X r v0 v1 v2 q1.1 (-7) q3.2) else none) else none else f_Mo_readTests_37 X r v0 v1 v2 q1.1 (-6) q2.2) else none) else none) else none) else none := by
  show pS X r (some .boolean) k_Mo_readTests 0 [some (.ref v0), some (.ref v1), some (.int v2), none, none, none] [] h = _
  refine (ss_aload_n rfl rfl).trans ?_
  refine (ss_aload_n rfl rfl).trans ?_
  refine (ss_iload_n rfl rfl).trans ?_
  refine (ssr_callVI (as := [.ref v1, .int v2]) rfl t_Mo_readTest (by decide) rfl rfl (by decide) (Or.inr rfl) (Nat.le_of_ble_eq_true rfl)).trans ?_
  refine pv_ite ?_ rfl
  refine pv_ite ?_ rfl
  refine congrArg (Option.bind _) (funext fun q1 => ?_)
  refine (ss_istore_n rfl rfl).trans ?_
  refine (ss_aload_n rfl rfl).trans ?_
  refine (ss_ldcs rfl).trans ?_
  refine (ssr_callVI (as := [.ref (pv_scr + 1 + 11)]) rfl t_Tp_isWord (by decide) rfl rfl (by decide) (Or.inr rfl) (Nat.le_of_ble_eq_true rfl)).trans ?_
  refine pv_ite ?_ rfl
  refine pv_ite ?_ rfl
  refine congrArg (Option.bind _) (funext fun q2 => ?_)
  refine (ss_if_eq rfl).trans ?_
  refine pv_ite ?_ ?_
  · refine (ss_aload_n rfl rfl).trans ?_
    refine (ss_ldcs rfl).trans ?_
    refine (ssr_callVI (as := [.ref (pv_scr + 1 + 12)]) rfl t_Tp_isWord (by decide) rfl rfl (by decide) (Or.inr rfl) (Nat.le_of_ble_eq_true rfl)).trans ?_
    refine pv_ite ?_ rfl
    refine pv_ite ?_ rfl
    refine congrArg (Option.bind _) (funext fun q3 => ?_)
    refine (ss_if_eq rfl).trans ?_
    refine pv_ite ?_ ?_
    · refine (ss_bipush rfl (v := (-13)) rfl).trans ?_
      rfl
    · refine (ss_bipush rfl (v := (-7)) rfl).trans ?_
      refine (ss_goto rfl).trans ?_
      rfl
  · refine (ss_bipush rfl (v := (-6)) rfl).trans ?_
    refine (ss_goto rfl).trans ?_
    rfl
set_option maxRecDepth 8000 in
theorem u_Mo_readTests_37 (X : pv_X) (r : Nat) (v0 : Nat) (v1 : Nat) (v2 : Int32) (v3 : Int32) (s0 : Int32) (h : pv_H) : f_Mo_readTests_37 X r v0 v1 v2 v3 s0 h =
    f_Mo_readTests_42 X r v0 v1 v2 v3 s0 0 h := by
  show pS X r (some .boolean) k_Mo_readTests 37 [some (.ref v0), some (.ref v1), some (.int v2), some (.int v3), none, none] [.int s0] h = _
  refine (ss_istore rfl rfl).trans ?_
  refine (ss_iconst rfl (v := 0) rfl).trans ?_
  refine (ss_istore rfl rfl).trans ?_
  rfl
set_option maxRecDepth 8000 in
theorem u_Mo_readTests_42 (X : pv_X) (r : Nat) (v0 : Nat) (v1 : Nat) (v2 : Int32) (v3 : Int32) (v4 : Int32) (v5 : Int32) (h : pv_H) : f_Mo_readTests_42 X r v0 v1 v2 v3 v4 v5 h =
    if 1000 ≤ v5 then f_Mo_readTests_116 X r v0 v1 v2 v3 v4 v5 h else if v3 = 0 then f_Mo_readTests_116 X r v0 v1 v2 v3 v4 v5 h else if v4 = (-13) then f_Mo_readTests_116 X r v0 v1 v2 v3 v4 v5 h else if m_Tp_advance.2.2.2.2.2 [.ref v1] < r then (if pv_rc h v1 9 = true then (pv_tV (pM X m_Tp_advance [.ref v1] h)).bind (fun h1 => if m_Mo_readTest.2.2.2.2.2 [.ref v0, .ref v1, .int v2] < r then (if pv_rc h1 v0 5 = true then (pv_tI (pM X m_Mo_readTest [.ref v0, .ref v1, .int v2] h1)).bind (fun q2 => if m_Mo_put.2.2.2.2.2 [.ref v0, .int v4] < r then (if pv_rc q2.2 v0 5 = true then (pv_tV (pM X m_Mo_put [.ref v0, .int v4] q2.2)).bind (fun h3 => if m_Tp_isWord.2.2.2.2.2 [.ref v1, .ref (pv_scr + 1 + 11)] < r then (if pv_rc h3 v1 9 = true then (pv_tI (pM X m_Tp_isWord [.ref v1, .ref (pv_scr + 1 + 11)] h3)).bind (fun q4 => if q4.1 = 0 then if m_Tp_isWord.2.2.2.2.2 [.ref v1, .ref (pv_scr + 1 + 12)] < r then (if pv_rc q4.2 v1 9 = true then (pv_tI (pM X m_Tp_isWord [.ref v1, .ref (pv_scr + 1 + 12)] q4.2)).bind (fun q5 => if q5.1 = 0 then f_Mo_readTests_108 X r v0 v1 v2 q2.1 v4 v5 (-13) q5.2 else f_Mo_readTests_108 X r v0 v1 v2 q2.1 v4 v5 (-7) q5.2) else none) else none else f_Mo_readTests_108 X r v0 v1 v2 q2.1 v4 v5 (-6) q4.2) else none) else none) else none) else none) else none) else none) else none) else none := by
  show pS X r (some .boolean) k_Mo_readTests 42 [some (.ref v0), some (.ref v1), some (.int v2), some (.int v3), some (.int v4), some (.int v5)] [] h = _
  refine (ss_iload rfl rfl).trans ?_
  refine (ss_sipush rfl (v := 1000) rfl).trans ?_
  refine (ss_icmp_ge rfl).trans ?_
  refine pv_ite ?_ ?_
  · rfl
  · refine (ss_iload_n rfl rfl).trans ?_
    refine (ss_if_eq rfl).trans ?_
    refine pv_ite ?_ ?_
    · rfl
    · refine (ss_iload rfl rfl).trans ?_
      refine (ss_bipush rfl (v := (-13)) rfl).trans ?_
      refine (ss_icmp_eq rfl).trans ?_
      refine pv_ite ?_ ?_
      · rfl
      · refine (ss_aload_n rfl rfl).trans ?_
        refine (ssr_callVN (as := []) rfl t_Tp_advance (by decide) rfl rfl (by decide) rfl (Nat.le_of_ble_eq_true rfl)).trans ?_
        refine pv_ite ?_ rfl
        refine pv_ite ?_ rfl
        refine congrArg (Option.bind _) (funext fun h1 => ?_)
        refine (ss_aload_n rfl rfl).trans ?_
        refine (ss_aload_n rfl rfl).trans ?_
        refine (ss_iload_n rfl rfl).trans ?_
        refine (ssr_callVI (as := [.ref v1, .int v2]) rfl t_Mo_readTest (by decide) rfl rfl (by decide) (Or.inr rfl) (Nat.le_of_ble_eq_true rfl)).trans ?_
        refine pv_ite ?_ rfl
        refine pv_ite ?_ rfl
        refine congrArg (Option.bind _) (funext fun q2 => ?_)
        refine (ss_istore_n rfl rfl).trans ?_
        refine (ss_aload_n rfl rfl).trans ?_
        refine (ss_iload rfl rfl).trans ?_
        refine (ssr_callVN (as := [.int v4]) rfl t_Mo_put (by decide) rfl rfl (by decide) rfl (Nat.le_of_ble_eq_true rfl)).trans ?_
        refine pv_ite ?_ rfl
        refine pv_ite ?_ rfl
        refine congrArg (Option.bind _) (funext fun h3 => ?_)
        refine (ss_aload_n rfl rfl).trans ?_
        refine (ss_ldcs rfl).trans ?_
        refine (ssr_callVI (as := [.ref (pv_scr + 1 + 11)]) rfl t_Tp_isWord (by decide) rfl rfl (by decide) (Or.inr rfl) (Nat.le_of_ble_eq_true rfl)).trans ?_
        refine pv_ite ?_ rfl
        refine pv_ite ?_ rfl
        refine congrArg (Option.bind _) (funext fun q4 => ?_)
        refine (ss_if_eq rfl).trans ?_
        refine pv_ite ?_ ?_
        · refine (ss_aload_n rfl rfl).trans ?_
          refine (ss_ldcs rfl).trans ?_
          refine (ssr_callVI (as := [.ref (pv_scr + 1 + 12)]) rfl t_Tp_isWord (by decide) rfl rfl (by decide) (Or.inr rfl) (Nat.le_of_ble_eq_true rfl)).trans ?_
          refine pv_ite ?_ rfl
          refine pv_ite ?_ rfl
          refine congrArg (Option.bind _) (funext fun q5 => ?_)
          refine (ss_if_eq rfl).trans ?_
          refine pv_ite ?_ ?_
          · refine (ss_bipush rfl (v := (-13)) rfl).trans ?_
            rfl
          · refine (ss_bipush rfl (v := (-7)) rfl).trans ?_
            refine (ss_goto rfl).trans ?_
            rfl
        · refine (ss_bipush rfl (v := (-6)) rfl).trans ?_
          refine (ss_goto rfl).trans ?_
          rfl
set_option maxRecDepth 8000 in
theorem u_Mo_readTests_108 (X : pv_X) (r : Nat) (v0 : Nat) (v1 : Nat) (v2 : Int32) (v3 : Int32) (v4 : Int32) (v5 : Int32) (s0 : Int32) (h : pv_H) : f_Mo_readTests_108 X r v0 v1 v2 v3 v4 v5 s0 h =
    f_Mo_readTests_42 X r v0 v1 v2 v3 s0 (v5 + 1) h := by
  show pS X r (some .boolean) k_Mo_readTests 108 [some (.ref v0), some (.ref v1), some (.int v2), some (.int v3), some (.int v4), some (.int v5)] [.int s0] h = _
  refine (ss_istore rfl rfl).trans ?_
  refine (ss_iinc3 rfl rfl (v := v5 + 1) (congrArg (HAdd.hAdd _) (show Int32.ofInt (1) = 1 by decide)) rfl).trans ?_
  refine (ss_goto rfl).trans ?_
  rfl
set_option maxRecDepth 8000 in
theorem u_Mo_readTests_116 (X : pv_X) (r : Nat) (v0 : Nat) (v1 : Nat) (v2 : Int32) (v3 : Int32) (v4 : Int32) (v5 : Int32) (h : pv_H) : f_Mo_readTests_116 X r v0 v1 v2 v3 v4 v5 h =
    if v3 = 0 ∨ v3 = 1 then some (some (.int v3), h) else none := by
  show pS X r (some .boolean) k_Mo_readTests 116 [some (.ref v0), some (.ref v1), some (.int v2), some (.int v3), some (.int v4), some (.int v5)] [] h = _
  refine (ss_iload_n rfl rfl).trans ?_
  exact ss_zreturn rfl
theorem e_Mo_readTests (X : pv_X) (v0 : Nat) (v1 : Nat) (v2 : Int32) (h : pv_H) : pM X m_Mo_readTests [.ref v0, .ref v1, .int v2] h = f_Mo_readTests_0 X (m_Mo_readTests.2.2.2.2.2 [.ref v0, .ref v1, .int v2]) v0 v1 v2 h := rfl
noncomputable def f_Mo_readTest_0 (X : pv_X) (r : Nat) (v0 : Nat) (v1 : Nat) (v2 : Int32) (h : pv_H) : Option pv_O := pS X r (some .boolean) k_Mo_readTest 0 [some (.ref v0), some (.ref v1), some (.int v2), none, none] [] h
noncomputable def f_Mo_readTest_37 (X : pv_X) (r : Nat) (v0 : Nat) (v1 : Nat) (v2 : Int32) (v3 : Int32) (s0 : Int32) (h : pv_H) : Option pv_O := pS X r (some .boolean) k_Mo_readTest 37 [some (.ref v0), some (.ref v1), some (.int v2), some (.int v3), none] [.int s0] h
noncomputable def f_Mo_readTest_67 (X : pv_X) (r : Nat) (v0 : Nat) (v1 : Nat) (v2 : Int32) (v3 : Int32) (v4 : Int32) (h : pv_H) : Option pv_O := pS X r (some .boolean) k_Mo_readTest 67 [some (.ref v0), some (.ref v1), some (.int v2), some (.int v3), some (.int v4)] [] h
set_option maxRecDepth 8000 in
theorem u_Mo_readTest_0 (X : pv_X) (r : Nat) (v0 : Nat) (v1 : Nat) (v2 : Int32) (h : pv_H) : f_Mo_readTest_0 X r v0 v1 v2 h =
    if m_Mo_readSum.2.2.2.2.2 [.ref v0, .ref v1, .int v2] < r then (if pv_rc h v0 5 = true then (pv_tI (pM X m_Mo_readSum [.ref v0, .ref v1, .int v2] h)).bind (fun q1 => if m_Tp_isSign.2.2.2.2.2 [.ref v1, .int 60] < r then (if pv_rc q1.2 v1 9 = true then (pv_tI (pM X m_Tp_isSign [.ref v1, .int 60] q1.2)).bind (fun q2 => if q2.1 = 0 then if m_Tp_isSign.2.2.2.2.2 [.ref v1, .int 61] < r then (if pv_rc q2.2 v1 9 = true then (pv_tI (pM X m_Tp_isSign [.ref v1, .int 61] q2.2)).bind (fun q3 => if q3.1 = 0 then f_Mo_readTest_37 X r v0 v1 v2 q1.1 (-13) q3.2 else f_Mo_readTest_37 X r v0 v1 v2 q1.1 (-9) q3.2) else none) else none else f_Mo_readTest_37 X r v0 v1 v2 q1.1 (-8) q2.2) else none) else none) else none) else none := by
  show pS X r (some .boolean) k_Mo_readTest 0 [some (.ref v0), some (.ref v1), some (.int v2), none, none] [] h = _
  refine (ss_aload_n rfl rfl).trans ?_
  refine (ss_aload_n rfl rfl).trans ?_
  refine (ss_iload_n rfl rfl).trans ?_
  refine (ssr_callVI (as := [.ref v1, .int v2]) rfl t_Mo_readSum (by decide) rfl rfl (by decide) (Or.inr rfl) (Nat.le_of_ble_eq_true rfl)).trans ?_
  refine pv_ite ?_ rfl
  refine pv_ite ?_ rfl
  refine congrArg (Option.bind _) (funext fun q1 => ?_)
  refine (ss_istore_n rfl rfl).trans ?_
  refine (ss_aload_n rfl rfl).trans ?_
  refine (ss_bipush rfl (v := 60) rfl).trans ?_
  refine (ssr_callVI (as := [.int 60]) rfl t_Tp_isSign (by decide) rfl rfl (by decide) (Or.inr rfl) (Nat.le_of_ble_eq_true rfl)).trans ?_
  refine pv_ite ?_ rfl
  refine pv_ite ?_ rfl
  refine congrArg (Option.bind _) (funext fun q2 => ?_)
  refine (ss_if_eq rfl).trans ?_
  refine pv_ite ?_ ?_
  · refine (ss_aload_n rfl rfl).trans ?_
    refine (ss_bipush rfl (v := 61) rfl).trans ?_
    refine (ssr_callVI (as := [.int 61]) rfl t_Tp_isSign (by decide) rfl rfl (by decide) (Or.inr rfl) (Nat.le_of_ble_eq_true rfl)).trans ?_
    refine pv_ite ?_ rfl
    refine pv_ite ?_ rfl
    refine congrArg (Option.bind _) (funext fun q3 => ?_)
    refine (ss_if_eq rfl).trans ?_
    refine pv_ite ?_ ?_
    · refine (ss_bipush rfl (v := (-13)) rfl).trans ?_
      rfl
    · refine (ss_bipush rfl (v := (-9)) rfl).trans ?_
      refine (ss_goto rfl).trans ?_
      rfl
  · refine (ss_bipush rfl (v := (-8)) rfl).trans ?_
    refine (ss_goto rfl).trans ?_
    rfl
set_option maxRecDepth 8000 in
theorem u_Mo_readTest_37 (X : pv_X) (r : Nat) (v0 : Nat) (v1 : Nat) (v2 : Int32) (v3 : Int32) (s0 : Int32) (h : pv_H) : f_Mo_readTest_37 X r v0 v1 v2 v3 s0 h =
    if v3 = 0 then f_Mo_readTest_67 X r v0 v1 v2 v3 s0 h else if s0 = (-13) then f_Mo_readTest_67 X r v0 v1 v2 v3 s0 h else if m_Tp_advance.2.2.2.2.2 [.ref v1] < r then (if pv_rc h v1 9 = true then (pv_tV (pM X m_Tp_advance [.ref v1] h)).bind (fun h1 => if m_Mo_readSum.2.2.2.2.2 [.ref v0, .ref v1, .int v2] < r then (if pv_rc h1 v0 5 = true then (pv_tI (pM X m_Mo_readSum [.ref v0, .ref v1, .int v2] h1)).bind (fun q2 => if m_Mo_put.2.2.2.2.2 [.ref v0, .int s0] < r then (if pv_rc q2.2 v0 5 = true then (pv_tV (pM X m_Mo_put [.ref v0, .int s0] q2.2)).bind (fun h3 => f_Mo_readTest_67 X r v0 v1 v2 q2.1 s0 h3) else none) else none) else none) else none) else none) else none := by
  show pS X r (some .boolean) k_Mo_readTest 37 [some (.ref v0), some (.ref v1), some (.int v2), some (.int v3), none] [.int s0] h = _
  refine (ss_istore rfl rfl).trans ?_
  refine (ss_iload_n rfl rfl).trans ?_
  refine (ss_if_eq rfl).trans ?_
  refine pv_ite ?_ ?_
  · rfl
  · refine (ss_iload rfl rfl).trans ?_
    refine (ss_bipush rfl (v := (-13)) rfl).trans ?_
    refine (ss_icmp_eq rfl).trans ?_
    refine pv_ite ?_ ?_
    · rfl
    · refine (ss_aload_n rfl rfl).trans ?_
      refine (ssr_callVN (as := []) rfl t_Tp_advance (by decide) rfl rfl (by decide) rfl (Nat.le_of_ble_eq_true rfl)).trans ?_
      refine pv_ite ?_ rfl
      refine pv_ite ?_ rfl
      refine congrArg (Option.bind _) (funext fun h1 => ?_)
      refine (ss_aload_n rfl rfl).trans ?_
      refine (ss_aload_n rfl rfl).trans ?_
      refine (ss_iload_n rfl rfl).trans ?_
      refine (ssr_callVI (as := [.ref v1, .int v2]) rfl t_Mo_readSum (by decide) rfl rfl (by decide) (Or.inr rfl) (Nat.le_of_ble_eq_true rfl)).trans ?_
      refine pv_ite ?_ rfl
      refine pv_ite ?_ rfl
      refine congrArg (Option.bind _) (funext fun q2 => ?_)
      refine (ss_istore_n rfl rfl).trans ?_
      refine (ss_aload_n rfl rfl).trans ?_
      refine (ss_iload rfl rfl).trans ?_
      refine (ssr_callVN (as := [.int s0]) rfl t_Mo_put (by decide) rfl rfl (by decide) rfl (Nat.le_of_ble_eq_true rfl)).trans ?_
      refine pv_ite ?_ rfl
      refine pv_ite ?_ rfl
      refine congrArg (Option.bind _) (funext fun h3 => ?_)
      rfl
set_option maxRecDepth 8000 in
theorem u_Mo_readTest_67 (X : pv_X) (r : Nat) (v0 : Nat) (v1 : Nat) (v2 : Int32) (v3 : Int32) (v4 : Int32) (h : pv_H) : f_Mo_readTest_67 X r v0 v1 v2 v3 v4 h =
    if v3 = 0 ∨ v3 = 1 then some (some (.int v3), h) else none := by
  show pS X r (some .boolean) k_Mo_readTest 67 [some (.ref v0), some (.ref v1), some (.int v2), some (.int v3), some (.int v4)] [] h = _
  refine (ss_iload_n rfl rfl).trans ?_
  exact ss_zreturn rfl
theorem e_Mo_readTest (X : pv_X) (v0 : Nat) (v1 : Nat) (v2 : Int32) (h : pv_H) : pM X m_Mo_readTest [.ref v0, .ref v1, .int v2] h = f_Mo_readTest_0 X (m_Mo_readTest.2.2.2.2.2 [.ref v0, .ref v1, .int v2]) v0 v1 v2 h := rfl
noncomputable def f_Mo_readSum_0 (X : pv_X) (r : Nat) (v0 : Nat) (v1 : Nat) (v2 : Int32) (h : pv_H) : Option pv_O := pS X r (some .boolean) k_Mo_readSum 0 [some (.ref v0), some (.ref v1), some (.int v2), none, none, none] [] h
noncomputable def f_Mo_readSum_37 (X : pv_X) (r : Nat) (v0 : Nat) (v1 : Nat) (v2 : Int32) (v3 : Int32) (s0 : Int32) (h : pv_H) : Option pv_O := pS X r (some .boolean) k_Mo_readSum 37 [some (.ref v0), some (.ref v1), some (.int v2), some (.int v3), none, none] [.int s0] h
noncomputable def f_Mo_readSum_42 (X : pv_X) (r : Nat) (v0 : Nat) (v1 : Nat) (v2 : Int32) (v3 : Int32) (v4 : Int32) (v5 : Int32) (h : pv_H) : Option pv_O := pS X r (some .boolean) k_Mo_readSum 42 [some (.ref v0), some (.ref v1), some (.int v2), some (.int v3), some (.int v4), some (.int v5)] [] h
noncomputable def f_Mo_readSum_108 (X : pv_X) (r : Nat) (v0 : Nat) (v1 : Nat) (v2 : Int32) (v3 : Int32) (v4 : Int32) (v5 : Int32) (s0 : Int32) (h : pv_H) : Option pv_O := pS X r (some .boolean) k_Mo_readSum 108 [some (.ref v0), some (.ref v1), some (.int v2), some (.int v3), some (.int v4), some (.int v5)] [.int s0] h
noncomputable def f_Mo_readSum_116 (X : pv_X) (r : Nat) (v0 : Nat) (v1 : Nat) (v2 : Int32) (v3 : Int32) (v4 : Int32) (v5 : Int32) (h : pv_H) : Option pv_O := pS X r (some .boolean) k_Mo_readSum 116 [some (.ref v0), some (.ref v1), some (.int v2), some (.int v3), some (.int v4), some (.int v5)] [] h
set_option maxRecDepth 8000 in
theorem u_Mo_readSum_0 (X : pv_X) (r : Nat) (v0 : Nat) (v1 : Nat) (v2 : Int32) (h : pv_H) : f_Mo_readSum_0 X r v0 v1 v2 h =
    if m_Mo_readProduct.2.2.2.2.2 [.ref v0, .ref v1, .int v2] < r then (if pv_rc h v0 5 = true then (pv_tI (pM X m_Mo_readProduct [.ref v0, .ref v1, .int v2] h)).bind (fun q1 => if m_Tp_isSign.2.2.2.2.2 [.ref v1, .int 43] < r then (if pv_rc q1.2 v1 9 = true then (pv_tI (pM X m_Tp_isSign [.ref v1, .int 43] q1.2)).bind (fun q2 => if q2.1 = 0 then if m_Tp_isSign.2.2.2.2.2 [.ref v1, .int 45] < r then (if pv_rc q2.2 v1 9 = true then (pv_tI (pM X m_Tp_isSign [.ref v1, .int 45] q2.2)).bind (fun q3 => if q3.1 = 0 then f_Mo_readSum_37 X r v0 v1 v2 q1.1 (-13) q3.2 else f_Mo_readSum_37 X r v0 v1 v2 q1.1 (-11) q3.2) else none) else none else f_Mo_readSum_37 X r v0 v1 v2 q1.1 (-10) q2.2) else none) else none) else none) else none := by
  show pS X r (some .boolean) k_Mo_readSum 0 [some (.ref v0), some (.ref v1), some (.int v2), none, none, none] [] h = _
  refine (ss_aload_n rfl rfl).trans ?_
  refine (ss_aload_n rfl rfl).trans ?_
  refine (ss_iload_n rfl rfl).trans ?_
  refine (ssr_callVI (as := [.ref v1, .int v2]) rfl t_Mo_readProduct (by decide) rfl rfl (by decide) (Or.inr rfl) (Nat.le_of_ble_eq_true rfl)).trans ?_
  refine pv_ite ?_ rfl
  refine pv_ite ?_ rfl
  refine congrArg (Option.bind _) (funext fun q1 => ?_)
  refine (ss_istore_n rfl rfl).trans ?_
  refine (ss_aload_n rfl rfl).trans ?_
  refine (ss_bipush rfl (v := 43) rfl).trans ?_
  refine (ssr_callVI (as := [.int 43]) rfl t_Tp_isSign (by decide) rfl rfl (by decide) (Or.inr rfl) (Nat.le_of_ble_eq_true rfl)).trans ?_
  refine pv_ite ?_ rfl
  refine pv_ite ?_ rfl
  refine congrArg (Option.bind _) (funext fun q2 => ?_)
  refine (ss_if_eq rfl).trans ?_
  refine pv_ite ?_ ?_
  · refine (ss_aload_n rfl rfl).trans ?_
    refine (ss_bipush rfl (v := 45) rfl).trans ?_
    refine (ssr_callVI (as := [.int 45]) rfl t_Tp_isSign (by decide) rfl rfl (by decide) (Or.inr rfl) (Nat.le_of_ble_eq_true rfl)).trans ?_
    refine pv_ite ?_ rfl
    refine pv_ite ?_ rfl
    refine congrArg (Option.bind _) (funext fun q3 => ?_)
    refine (ss_if_eq rfl).trans ?_
    refine pv_ite ?_ ?_
    · refine (ss_bipush rfl (v := (-13)) rfl).trans ?_
      rfl
    · refine (ss_bipush rfl (v := (-11)) rfl).trans ?_
      refine (ss_goto rfl).trans ?_
      rfl
  · refine (ss_bipush rfl (v := (-10)) rfl).trans ?_
    refine (ss_goto rfl).trans ?_
    rfl
set_option maxRecDepth 8000 in
theorem u_Mo_readSum_37 (X : pv_X) (r : Nat) (v0 : Nat) (v1 : Nat) (v2 : Int32) (v3 : Int32) (s0 : Int32) (h : pv_H) : f_Mo_readSum_37 X r v0 v1 v2 v3 s0 h =
    f_Mo_readSum_42 X r v0 v1 v2 v3 s0 0 h := by
  show pS X r (some .boolean) k_Mo_readSum 37 [some (.ref v0), some (.ref v1), some (.int v2), some (.int v3), none, none] [.int s0] h = _
  refine (ss_istore rfl rfl).trans ?_
  refine (ss_iconst rfl (v := 0) rfl).trans ?_
  refine (ss_istore rfl rfl).trans ?_
  rfl
set_option maxRecDepth 8000 in
theorem u_Mo_readSum_42 (X : pv_X) (r : Nat) (v0 : Nat) (v1 : Nat) (v2 : Int32) (v3 : Int32) (v4 : Int32) (v5 : Int32) (h : pv_H) : f_Mo_readSum_42 X r v0 v1 v2 v3 v4 v5 h =
    if 1000 ≤ v5 then f_Mo_readSum_116 X r v0 v1 v2 v3 v4 v5 h else if v3 = 0 then f_Mo_readSum_116 X r v0 v1 v2 v3 v4 v5 h else if v4 = (-13) then f_Mo_readSum_116 X r v0 v1 v2 v3 v4 v5 h else if m_Tp_advance.2.2.2.2.2 [.ref v1] < r then (if pv_rc h v1 9 = true then (pv_tV (pM X m_Tp_advance [.ref v1] h)).bind (fun h1 => if m_Mo_readProduct.2.2.2.2.2 [.ref v0, .ref v1, .int v2] < r then (if pv_rc h1 v0 5 = true then (pv_tI (pM X m_Mo_readProduct [.ref v0, .ref v1, .int v2] h1)).bind (fun q2 => if m_Mo_put.2.2.2.2.2 [.ref v0, .int v4] < r then (if pv_rc q2.2 v0 5 = true then (pv_tV (pM X m_Mo_put [.ref v0, .int v4] q2.2)).bind (fun h3 => if m_Tp_isSign.2.2.2.2.2 [.ref v1, .int 43] < r then (if pv_rc h3 v1 9 = true then (pv_tI (pM X m_Tp_isSign [.ref v1, .int 43] h3)).bind (fun q4 => if q4.1 = 0 then if m_Tp_isSign.2.2.2.2.2 [.ref v1, .int 45] < r then (if pv_rc q4.2 v1 9 = true then (pv_tI (pM X m_Tp_isSign [.ref v1, .int 45] q4.2)).bind (fun q5 => if q5.1 = 0 then f_Mo_readSum_108 X r v0 v1 v2 q2.1 v4 v5 (-13) q5.2 else f_Mo_readSum_108 X r v0 v1 v2 q2.1 v4 v5 (-11) q5.2) else none) else none else f_Mo_readSum_108 X r v0 v1 v2 q2.1 v4 v5 (-10) q4.2) else none) else none) else none) else none) else none) else none) else none) else none := by
  show pS X r (some .boolean) k_Mo_readSum 42 [some (.ref v0), some (.ref v1), some (.int v2), some (.int v3), some (.int v4), some (.int v5)] [] h = _
  refine (ss_iload rfl rfl).trans ?_
  refine (ss_sipush rfl (v := 1000) rfl).trans ?_
  refine (ss_icmp_ge rfl).trans ?_
  refine pv_ite ?_ ?_
  · rfl
  · refine (ss_iload_n rfl rfl).trans ?_
    refine (ss_if_eq rfl).trans ?_
    refine pv_ite ?_ ?_
    · rfl
    · refine (ss_iload rfl rfl).trans ?_
      refine (ss_bipush rfl (v := (-13)) rfl).trans ?_
      refine (ss_icmp_eq rfl).trans ?_
      refine pv_ite ?_ ?_
      · rfl
      · refine (ss_aload_n rfl rfl).trans ?_
        refine (ssr_callVN (as := []) rfl t_Tp_advance (by decide) rfl rfl (by decide) rfl (Nat.le_of_ble_eq_true rfl)).trans ?_
        refine pv_ite ?_ rfl
        refine pv_ite ?_ rfl
        refine congrArg (Option.bind _) (funext fun h1 => ?_)
        refine (ss_aload_n rfl rfl).trans ?_
        refine (ss_aload_n rfl rfl).trans ?_
        refine (ss_iload_n rfl rfl).trans ?_
        refine (ssr_callVI (as := [.ref v1, .int v2]) rfl t_Mo_readProduct (by decide) rfl rfl (by decide) (Or.inr rfl) (Nat.le_of_ble_eq_true rfl)).trans ?_
        refine pv_ite ?_ rfl
        refine pv_ite ?_ rfl
        refine congrArg (Option.bind _) (funext fun q2 => ?_)
        refine (ss_istore_n rfl rfl).trans ?_
        refine (ss_aload_n rfl rfl).trans ?_
        refine (ss_iload rfl rfl).trans ?_
        refine (ssr_callVN (as := [.int v4]) rfl t_Mo_put (by decide) rfl rfl (by decide) rfl (Nat.le_of_ble_eq_true rfl)).trans ?_
        refine pv_ite ?_ rfl
        refine pv_ite ?_ rfl
        refine congrArg (Option.bind _) (funext fun h3 => ?_)
        refine (ss_aload_n rfl rfl).trans ?_
        refine (ss_bipush rfl (v := 43) rfl).trans ?_
        refine (ssr_callVI (as := [.int 43]) rfl t_Tp_isSign (by decide) rfl rfl (by decide) (Or.inr rfl) (Nat.le_of_ble_eq_true rfl)).trans ?_
        refine pv_ite ?_ rfl
        refine pv_ite ?_ rfl
        refine congrArg (Option.bind _) (funext fun q4 => ?_)
        refine (ss_if_eq rfl).trans ?_
        refine pv_ite ?_ ?_
        · refine (ss_aload_n rfl rfl).trans ?_
          refine (ss_bipush rfl (v := 45) rfl).trans ?_
          refine (ssr_callVI (as := [.int 45]) rfl t_Tp_isSign (by decide) rfl rfl (by decide) (Or.inr rfl) (Nat.le_of_ble_eq_true rfl)).trans ?_
          refine pv_ite ?_ rfl
          refine pv_ite ?_ rfl
          refine congrArg (Option.bind _) (funext fun q5 => ?_)
          refine (ss_if_eq rfl).trans ?_
          refine pv_ite ?_ ?_
          · refine (ss_bipush rfl (v := (-13)) rfl).trans ?_
            rfl
          · refine (ss_bipush rfl (v := (-11)) rfl).trans ?_
            refine (ss_goto rfl).trans ?_
            rfl
        · refine (ss_bipush rfl (v := (-10)) rfl).trans ?_
          refine (ss_goto rfl).trans ?_
          rfl
set_option maxRecDepth 8000 in
theorem u_Mo_readSum_108 (X : pv_X) (r : Nat) (v0 : Nat) (v1 : Nat) (v2 : Int32) (v3 : Int32) (v4 : Int32) (v5 : Int32) (s0 : Int32) (h : pv_H) : f_Mo_readSum_108 X r v0 v1 v2 v3 v4 v5 s0 h =
    f_Mo_readSum_42 X r v0 v1 v2 v3 s0 (v5 + 1) h := by
  show pS X r (some .boolean) k_Mo_readSum 108 [some (.ref v0), some (.ref v1), some (.int v2), some (.int v3), some (.int v4), some (.int v5)] [.int s0] h = _
  refine (ss_istore rfl rfl).trans ?_
  refine (ss_iinc3 rfl rfl (v := v5 + 1) (congrArg (HAdd.hAdd _) (show Int32.ofInt (1) = 1 by decide)) rfl).trans ?_
  refine (ss_goto rfl).trans ?_
  rfl
set_option maxRecDepth 8000 in
theorem u_Mo_readSum_116 (X : pv_X) (r : Nat) (v0 : Nat) (v1 : Nat) (v2 : Int32) (v3 : Int32) (v4 : Int32) (v5 : Int32) (h : pv_H) : f_Mo_readSum_116 X r v0 v1 v2 v3 v4 v5 h =
    if v3 = 0 ∨ v3 = 1 then some (some (.int v3), h) else none := by
  show pS X r (some .boolean) k_Mo_readSum 116 [some (.ref v0), some (.ref v1), some (.int v2), some (.int v3), some (.int v4), some (.int v5)] [] h = _
  refine (ss_iload_n rfl rfl).trans ?_
  exact ss_zreturn rfl
theorem e_Mo_readSum (X : pv_X) (v0 : Nat) (v1 : Nat) (v2 : Int32) (h : pv_H) : pM X m_Mo_readSum [.ref v0, .ref v1, .int v2] h = f_Mo_readSum_0 X (m_Mo_readSum.2.2.2.2.2 [.ref v0, .ref v1, .int v2]) v0 v1 v2 h := rfl
noncomputable def f_Mo_readProduct_0 (X : pv_X) (r : Nat) (v0 : Nat) (v1 : Nat) (v2 : Int32) (h : pv_H) : Option pv_O := pS X r (some .boolean) k_Mo_readProduct 0 [some (.ref v0), some (.ref v1), some (.int v2), none, none] [] h
noncomputable def f_Mo_readProduct_10 (X : pv_X) (r : Nat) (v0 : Nat) (v1 : Nat) (v2 : Int32) (v3 : Int32) (v4 : Int32) (h : pv_H) : Option pv_O := pS X r (some .boolean) k_Mo_readProduct 10 [some (.ref v0), some (.ref v1), some (.int v2), some (.int v3), some (.int v4)] [] h
noncomputable def f_Mo_readProduct_54 (X : pv_X) (r : Nat) (v0 : Nat) (v1 : Nat) (v2 : Int32) (v3 : Int32) (v4 : Int32) (h : pv_H) : Option pv_O := pS X r (some .boolean) k_Mo_readProduct 54 [some (.ref v0), some (.ref v1), some (.int v2), some (.int v3), some (.int v4)] [] h
set_option maxRecDepth 8000 in
theorem u_Mo_readProduct_0 (X : pv_X) (r : Nat) (v0 : Nat) (v1 : Nat) (v2 : Int32) (h : pv_H) : f_Mo_readProduct_0 X r v0 v1 v2 h =
    if m_Mo_readPart.2.2.2.2.2 [.ref v0, .ref v1, .int v2] < r then (if pv_rc h v0 5 = true then (pv_tI (pM X m_Mo_readPart [.ref v0, .ref v1, .int v2] h)).bind (fun q1 => f_Mo_readProduct_10 X r v0 v1 v2 q1.1 0 q1.2) else none) else none := by
  show pS X r (some .boolean) k_Mo_readProduct 0 [some (.ref v0), some (.ref v1), some (.int v2), none, none] [] h = _
  refine (ss_aload_n rfl rfl).trans ?_
  refine (ss_aload_n rfl rfl).trans ?_
  refine (ss_iload_n rfl rfl).trans ?_
  refine (ssr_callVI (as := [.ref v1, .int v2]) rfl t_Mo_readPart (by decide) rfl rfl (by decide) (Or.inr rfl) (Nat.le_of_ble_eq_true rfl)).trans ?_
  refine pv_ite ?_ rfl
  refine pv_ite ?_ rfl
  refine congrArg (Option.bind _) (funext fun q1 => ?_)
  refine (ss_istore_n rfl rfl).trans ?_
  refine (ss_iconst rfl (v := 0) rfl).trans ?_
  refine (ss_istore rfl rfl).trans ?_
  rfl
set_option maxRecDepth 8000 in
theorem u_Mo_readProduct_10 (X : pv_X) (r : Nat) (v0 : Nat) (v1 : Nat) (v2 : Int32) (v3 : Int32) (v4 : Int32) (h : pv_H) : f_Mo_readProduct_10 X r v0 v1 v2 v3 v4 h =
    if 1000 ≤ v4 then f_Mo_readProduct_54 X r v0 v1 v2 v3 v4 h else if v3 = 0 then f_Mo_readProduct_54 X r v0 v1 v2 v3 v4 h else if m_Tp_isSign.2.2.2.2.2 [.ref v1, .int 42] < r then (if pv_rc h v1 9 = true then (pv_tI (pM X m_Tp_isSign [.ref v1, .int 42] h)).bind (fun q1 => if q1.1 = 0 then f_Mo_readProduct_54 X r v0 v1 v2 v3 v4 q1.2 else if m_Tp_advance.2.2.2.2.2 [.ref v1] < r then (if pv_rc q1.2 v1 9 = true then (pv_tV (pM X m_Tp_advance [.ref v1] q1.2)).bind (fun h2 => if m_Mo_readPart.2.2.2.2.2 [.ref v0, .ref v1, .int v2] < r then (if pv_rc h2 v0 5 = true then (pv_tI (pM X m_Mo_readPart [.ref v0, .ref v1, .int v2] h2)).bind (fun q3 => if m_Mo_put.2.2.2.2.2 [.ref v0, .int (-12)] < r then (if pv_rc q3.2 v0 5 = true then (pv_tV (pM X m_Mo_put [.ref v0, .int (-12)] q3.2)).bind (fun h4 => f_Mo_readProduct_10 X r v0 v1 v2 q3.1 (v4 + 1) h4) else none) else none) else none) else none) else none) else none) else none) else none := by
  show pS X r (some .boolean) k_Mo_readProduct 10 [some (.ref v0), some (.ref v1), some (.int v2), some (.int v3), some (.int v4)] [] h = _
  refine (ss_iload rfl rfl).trans ?_
  refine (ss_sipush rfl (v := 1000) rfl).trans ?_
  refine (ss_icmp_ge rfl).trans ?_
  refine pv_ite ?_ ?_
  · rfl
  · refine (ss_iload_n rfl rfl).trans ?_
    refine (ss_if_eq rfl).trans ?_
    refine pv_ite ?_ ?_
    · rfl
    · refine (ss_aload_n rfl rfl).trans ?_
      refine (ss_bipush rfl (v := 42) rfl).trans ?_
      refine (ssr_callVI (as := [.int 42]) rfl t_Tp_isSign (by decide) rfl rfl (by decide) (Or.inr rfl) (Nat.le_of_ble_eq_true rfl)).trans ?_
      refine pv_ite ?_ rfl
      refine pv_ite ?_ rfl
      refine congrArg (Option.bind _) (funext fun q1 => ?_)
      refine (ss_if_eq rfl).trans ?_
      refine pv_ite ?_ ?_
      · rfl
      · refine (ss_aload_n rfl rfl).trans ?_
        refine (ssr_callVN (as := []) rfl t_Tp_advance (by decide) rfl rfl (by decide) rfl (Nat.le_of_ble_eq_true rfl)).trans ?_
        refine pv_ite ?_ rfl
        refine pv_ite ?_ rfl
        refine congrArg (Option.bind _) (funext fun h2 => ?_)
        refine (ss_aload_n rfl rfl).trans ?_
        refine (ss_aload_n rfl rfl).trans ?_
        refine (ss_iload_n rfl rfl).trans ?_
        refine (ssr_callVI (as := [.ref v1, .int v2]) rfl t_Mo_readPart (by decide) rfl rfl (by decide) (Or.inr rfl) (Nat.le_of_ble_eq_true rfl)).trans ?_
        refine pv_ite ?_ rfl
        refine pv_ite ?_ rfl
        refine congrArg (Option.bind _) (funext fun q3 => ?_)
        refine (ss_istore_n rfl rfl).trans ?_
        refine (ss_aload_n rfl rfl).trans ?_
        refine (ss_bipush rfl (v := (-12)) rfl).trans ?_
        refine (ssr_callVN (as := [.int (-12)]) rfl t_Mo_put (by decide) rfl rfl (by decide) rfl (Nat.le_of_ble_eq_true rfl)).trans ?_
        refine pv_ite ?_ rfl
        refine pv_ite ?_ rfl
        refine congrArg (Option.bind _) (funext fun h4 => ?_)
        refine (ss_iinc3 rfl rfl (v := v4 + 1) (congrArg (HAdd.hAdd _) (show Int32.ofInt (1) = 1 by decide)) rfl).trans ?_
        refine (ss_goto rfl).trans ?_
        rfl
set_option maxRecDepth 8000 in
theorem u_Mo_readProduct_54 (X : pv_X) (r : Nat) (v0 : Nat) (v1 : Nat) (v2 : Int32) (v3 : Int32) (v4 : Int32) (h : pv_H) : f_Mo_readProduct_54 X r v0 v1 v2 v3 v4 h =
    if v3 = 0 ∨ v3 = 1 then some (some (.int v3), h) else none := by
  show pS X r (some .boolean) k_Mo_readProduct 54 [some (.ref v0), some (.ref v1), some (.int v2), some (.int v3), some (.int v4)] [] h = _
  refine (ss_iload_n rfl rfl).trans ?_
  exact ss_zreturn rfl
theorem e_Mo_readProduct (X : pv_X) (v0 : Nat) (v1 : Nat) (v2 : Int32) (h : pv_H) : pM X m_Mo_readProduct [.ref v0, .ref v1, .int v2] h = f_Mo_readProduct_0 X (m_Mo_readProduct.2.2.2.2.2 [.ref v0, .ref v1, .int v2]) v0 v1 v2 h := rfl
noncomputable def f_Mo_readPart_0 (X : pv_X) (r : Nat) (v0 : Nat) (v1 : Nat) (v2 : Int32) (h : pv_H) : Option pv_O := pS X r (some .boolean) k_Mo_readPart 0 [some (.ref v0), some (.ref v1), some (.int v2), none, none, none, none, none] [] h
noncomputable def f_Mo_readPart_50 (X : pv_X) (r : Nat) (v0 : Nat) (v1 : Nat) (v2 : Int32) (v3 : Int32) (v4 : Int32) (v5 : Int32) (h : pv_H) : Option pv_O := pS X r (some .boolean) k_Mo_readPart 50 [some (.ref v0), some (.ref v1), some (.int v2), some (.int v3), some (.int v4), some (.int v5), none, none] [] h
noncomputable def f_Mo_readPart_123 (X : pv_X) (r : Nat) (v0 : Nat) (v1 : Nat) (v2 : Int32) (v3 : Int32) (v4 : Int32) (v5 : Int32) (v6 : Int32) (h : pv_H) : Option pv_O := pS X r (some .boolean) k_Mo_readPart 123 [some (.ref v0), some (.ref v1), some (.int v2), some (.int v3), some (.int v4), some (.int v5), some (.int v6), none] [] h
noncomputable def f_Mo_readPart_124 (X : pv_X) (r : Nat) (v0 : Nat) (v1 : Nat) (v2 : Int32) (v3 : Int32) (v4 : Int32) (v5 : Int32) (v6 : Int32) (s0 : Int32) (h : pv_H) : Option pv_O := pS X r (some .boolean) k_Mo_readPart 124 [some (.ref v0), some (.ref v1), some (.int v2), some (.int v3), some (.int v4), some (.int v5), some (.int v6), none] [.int s0] h
noncomputable def f_Mo_readPart_140 (X : pv_X) (r : Nat) (v0 : Nat) (v1 : Nat) (v2 : Int32) (v3 : Int32) (v4 : Int32) (v5 : Int32) (v6 : Int32) (s0 : Int32) (s1 : Nat) (h : pv_H) : Option pv_O := pS X r (some .boolean) k_Mo_readPart 140 [some (.ref v0), some (.ref v1), some (.int v2), some (.int v3), some (.int v4), some (.int v5), some (.int v6), none] [.int s0, .ref s1] h
set_option maxRecDepth 8000 in
theorem u_Mo_readPart_0 (X : pv_X) (r : Nat) (v0 : Nat) (v1 : Nat) (v2 : Int32) (h : pv_H) : f_Mo_readPart_0 X r v0 v1 v2 h =
    if m_Tp_isWord.2.2.2.2.2 [.ref v1, .ref (pv_scr + 1 + 10)] < r then (if pv_rc h v1 9 = true then (pv_tI (pM X m_Tp_isWord [.ref v1, .ref (pv_scr + 1 + 10)] h)).bind (fun q1 => if m_Tp_isSign.2.2.2.2.2 [.ref v1, .int 40] < r then (if pv_rc q1.2 v1 9 = true then (pv_tI (pM X m_Tp_isSign [.ref v1, .int 40] q1.2)).bind (fun q2 => if m_Mo_factOf.2.2.2.2.2 [.ref v1] < r then (pv_tI (pM X m_Mo_factOf [.ref v1] q2.2)).bind (fun q3 => if ¬ q1.1 = 0 then f_Mo_readPart_50 X r v0 v1 v2 q1.1 q2.1 q3.1 q3.2 else if ¬ q2.1 = 0 then f_Mo_readPart_50 X r v0 v1 v2 q1.1 q2.1 q3.1 q3.2 else if ¬ q3.1 = (-13) then f_Mo_readPart_50 X r v0 v1 v2 q1.1 q2.1 q3.1 q3.2 else if m_Tp_isNumber.2.2.2.2.2 [.ref v1] < r then (if pv_rc q3.2 v1 9 = true then (pv_tI (pM X m_Tp_isNumber [.ref v1] q3.2)).bind (fun q4 => if ¬ q4.1 = 0 then f_Mo_readPart_50 X r v0 v1 v2 q1.1 q2.1 q3.1 q4.2 else if m_Tp_refuse.2.2.2.2.2 [.ref v1, .int 1] < r then (if pv_rc q4.2 v1 9 = true then (pv_tI (pM X m_Tp_refuse [.ref v1, .int 1] q4.2)).bind (fun q5 => if q5.1 = 0 ∨ q5.1 = 1 then some (some (.int q5.1), q5.2) else none) else none) else none) else none) else none) else none) else none) else none) else none) else none := by
  show pS X r (some .boolean) k_Mo_readPart 0 [some (.ref v0), some (.ref v1), some (.int v2), none, none, none, none, none] [] h = _
  refine (ss_aload_n rfl rfl).trans ?_
  refine (ss_ldcs rfl).trans ?_
  refine (ssr_callVI (as := [.ref (pv_scr + 1 + 10)]) rfl t_Tp_isWord (by decide) rfl rfl (by decide) (Or.inr rfl) (Nat.le_of_ble_eq_true rfl)).trans ?_
  refine pv_ite ?_ rfl
  refine pv_ite ?_ rfl
  refine congrArg (Option.bind _) (funext fun q1 => ?_)
  refine (ss_istore_n rfl rfl).trans ?_
  refine (ss_aload_n rfl rfl).trans ?_
  refine (ss_bipush rfl (v := 40) rfl).trans ?_
  refine (ssr_callVI (as := [.int 40]) rfl t_Tp_isSign (by decide) rfl rfl (by decide) (Or.inr rfl) (Nat.le_of_ble_eq_true rfl)).trans ?_
  refine pv_ite ?_ rfl
  refine pv_ite ?_ rfl
  refine congrArg (Option.bind _) (funext fun q2 => ?_)
  refine (ss_istore rfl rfl).trans ?_
  refine (ss_aload_n rfl rfl).trans ?_
  refine (ssr_callSI (as := [.ref v1]) rfl t_Mo_factOf (by decide) rfl rfl (by decide) (Or.inl rfl) (Nat.le_of_ble_eq_true rfl)).trans ?_
  refine pv_ite ?_ rfl
  refine congrArg (Option.bind _) (funext fun q3 => ?_)
  refine (ss_istore rfl rfl).trans ?_
  refine (ss_iload_n rfl rfl).trans ?_
  refine (ss_if_ne rfl).trans ?_
  refine pv_ite ?_ ?_
  · rfl
  · refine (ss_iload rfl rfl).trans ?_
    refine (ss_if_ne rfl).trans ?_
    refine pv_ite ?_ ?_
    · rfl
    · refine (ss_iload rfl rfl).trans ?_
      refine (ss_bipush rfl (v := (-13)) rfl).trans ?_
      refine (ss_icmp_ne rfl).trans ?_
      refine pv_ite ?_ ?_
      · rfl
      · refine (ss_aload_n rfl rfl).trans ?_
        refine (ssr_callVI (as := []) rfl t_Tp_isNumber (by decide) rfl rfl (by decide) (Or.inr rfl) (Nat.le_of_ble_eq_true rfl)).trans ?_
        refine pv_ite ?_ rfl
        refine pv_ite ?_ rfl
        refine congrArg (Option.bind _) (funext fun q4 => ?_)
        refine (ss_if_ne rfl).trans ?_
        refine pv_ite ?_ ?_
        · rfl
        · refine (ss_aload_n rfl rfl).trans ?_
          refine (ss_iconst rfl (v := 1) rfl).trans ?_
          refine (ssr_callVI (as := [.int 1]) rfl t_Tp_refuse (by decide) rfl rfl (by decide) (Or.inr rfl) (Nat.le_of_ble_eq_true rfl)).trans ?_
          refine pv_ite ?_ rfl
          refine pv_ite ?_ rfl
          refine congrArg (Option.bind _) (funext fun q5 => ?_)
          exact ss_zreturn rfl
set_option maxRecDepth 8000 in
theorem u_Mo_readPart_50 (X : pv_X) (r : Nat) (v0 : Nat) (v1 : Nat) (v2 : Int32) (v3 : Int32) (v4 : Int32) (v5 : Int32) (h : pv_H) : f_Mo_readPart_50 X r v0 v1 v2 v3 v4 v5 h =
    if v2 < 5 then (pv_fI h v1 9 3).bind (fun x1 => if m_Tp_advance.2.2.2.2.2 [.ref v1] < r then (if pv_rc h v1 9 = true then (pv_tV (pM X m_Tp_advance [.ref v1] h)).bind (fun h2 => if v3 = 0 then if v4 = 0 then if ¬ v5 = (-13) then f_Mo_readPart_140 X r v0 v1 v2 v3 v4 v5 x1 v5 v0 h2 else f_Mo_readPart_140 X r v0 v1 v2 v3 v4 v5 x1 x1 v0 h2 else if m_Mo_readTests.2.2.2.2.2 [.ref v0, .ref v1, .int (v2 + 1)] < r then (if pv_rc h2 v0 5 = true then (pv_tI (pM X m_Mo_readTests [.ref v0, .ref v1, .int (v2 + 1)] h2)).bind (fun q3 => if q3.1 = 0 then f_Mo_readPart_123 X r v0 v1 v2 v3 v4 v5 x1 q3.2 else if m_Tp_takeSign.2.2.2.2.2 [.ref v1, .int 41] < r then (if pv_rc q3.2 v1 9 = true then (pv_tI (pM X m_Tp_takeSign [.ref v1, .int 41] q3.2)).bind (fun q4 => if q4.1 = 0 then f_Mo_readPart_123 X r v0 v1 v2 v3 v4 v5 x1 q4.2 else f_Mo_readPart_124 X r v0 v1 v2 v3 v4 v5 x1 1 q4.2) else none) else none) else none) else none else if m_Mo_readPart.2.2.2.2.2 [.ref v0, .ref v1, .int (v2 + 1)] < r then (if pv_rc h2 v0 5 = true then (pv_tI (pM X m_Mo_readPart [.ref v0, .ref v1, .int (v2 + 1)] h2)).bind (fun q5 => if m_Mo_put.2.2.2.2.2 [.ref v0, .int (-5)] < r then (if pv_rc q5.2 v0 5 = true then (pv_tV (pM X m_Mo_put [.ref v0, .int (-5)] q5.2)).bind (fun h6 => if q5.1 = 0 ∨ q5.1 = 1 then some (some (.int q5.1), h6) else none) else none) else none) else none) else none) else none) else none) else if m_Tp_refuse.2.2.2.2.2 [.ref v1, .int 5] < r then (if pv_rc h v1 9 = true then (pv_tI (pM X m_Tp_refuse [.ref v1, .int 5] h)).bind (fun q7 => if q7.1 = 0 ∨ q7.1 = 1 then some (some (.int q7.1), q7.2) else none) else none) else none := by
  show pS X r (some .boolean) k_Mo_readPart 50 [some (.ref v0), some (.ref v1), some (.int v2), some (.int v3), some (.int v4), some (.int v5), none, none] [] h = _
  refine (ss_iload_n rfl rfl).trans ?_
  refine (ss_iconst rfl (v := 5) rfl).trans ?_
  refine (ss_icmp_lt rfl).trans ?_
  refine pv_ite ?_ ?_
  · refine (ss_aload_n rfl rfl).trans ?_
    refine (ss_getI rfl).trans ?_
    refine congrArg (Option.bind _) (funext fun x1 => ?_)
    refine (ss_istore rfl rfl).trans ?_
    refine (ss_aload_n rfl rfl).trans ?_
    refine (ssr_callVN (as := []) rfl t_Tp_advance (by decide) rfl rfl (by decide) rfl (Nat.le_of_ble_eq_true rfl)).trans ?_
    refine pv_ite ?_ rfl
    refine pv_ite ?_ rfl
    refine congrArg (Option.bind _) (funext fun h2 => ?_)
    refine (ss_iload_n rfl rfl).trans ?_
    refine (ss_if_eq rfl).trans ?_
    refine pv_ite ?_ ?_
    · refine (ss_iload rfl rfl).trans ?_
      refine (ss_if_eq rfl).trans ?_
      refine pv_ite ?_ ?_
      · refine (ss_aload_n rfl rfl).trans ?_
        refine (ss_iload rfl rfl).trans ?_
        refine (ss_bipush rfl (v := (-13)) rfl).trans ?_
        refine (ss_icmp_ne rfl).trans ?_
        refine pv_ite ?_ ?_
        · refine (ss_iload rfl rfl).trans ?_
          rfl
        · refine (ss_iload rfl rfl).trans ?_
          refine (ss_goto rfl).trans ?_
          rfl
      · refine (ss_aload_n rfl rfl).trans ?_
        refine (ss_aload_n rfl rfl).trans ?_
        refine (ss_iload_n rfl rfl).trans ?_
        refine (ss_iconst rfl (v := 1) rfl).trans ?_
        refine (ss_iadd rfl).trans ?_
        refine (ssr_callVI (as := [.ref v1, .int (v2 + 1)]) rfl t_Mo_readTests (by decide) rfl rfl (by decide) (Or.inr rfl) (Nat.le_of_ble_eq_true rfl)).trans ?_
        refine pv_ite ?_ rfl
        refine pv_ite ?_ rfl
        refine congrArg (Option.bind _) (funext fun q3 => ?_)
        refine (ss_if_eq rfl).trans ?_
        refine pv_ite ?_ ?_
        · rfl
        · refine (ss_aload_n rfl rfl).trans ?_
          refine (ss_bipush rfl (v := 41) rfl).trans ?_
          refine (ssr_callVI (as := [.int 41]) rfl t_Tp_takeSign (by decide) rfl rfl (by decide) (Or.inr rfl) (Nat.le_of_ble_eq_true rfl)).trans ?_
          refine pv_ite ?_ rfl
          refine pv_ite ?_ rfl
          refine congrArg (Option.bind _) (funext fun q4 => ?_)
          refine (ss_if_eq rfl).trans ?_
          refine pv_ite ?_ ?_
          · rfl
          · refine (ss_iconst rfl (v := 1) rfl).trans ?_
            refine (ss_goto rfl).trans ?_
            rfl
    · refine (ss_aload_n rfl rfl).trans ?_
      refine (ss_aload_n rfl rfl).trans ?_
      refine (ss_iload_n rfl rfl).trans ?_
      refine (ss_iconst rfl (v := 1) rfl).trans ?_
      refine (ss_iadd rfl).trans ?_
      refine (ssr_callVI (as := [.ref v1, .int (v2 + 1)]) rfl t_Mo_readPart (by decide) rfl rfl (by decide) (Or.inr rfl) (Nat.le_of_ble_eq_true rfl)).trans ?_
      refine pv_ite ?_ rfl
      refine pv_ite ?_ rfl
      refine congrArg (Option.bind _) (funext fun q5 => ?_)
      refine (ss_istore rfl rfl).trans ?_
      refine (ss_aload_n rfl rfl).trans ?_
      refine (ss_bipush rfl (v := (-5)) rfl).trans ?_
      refine (ssr_callVN (as := [.int (-5)]) rfl t_Mo_put (by decide) rfl rfl (by decide) rfl (Nat.le_of_ble_eq_true rfl)).trans ?_
      refine pv_ite ?_ rfl
      refine pv_ite ?_ rfl
      refine congrArg (Option.bind _) (funext fun h6 => ?_)
      refine (ss_iload rfl rfl).trans ?_
      exact ss_zreturn rfl
  · refine (ss_aload_n rfl rfl).trans ?_
    refine (ss_iconst rfl (v := 5) rfl).trans ?_
    refine (ssr_callVI (as := [.int 5]) rfl t_Tp_refuse (by decide) rfl rfl (by decide) (Or.inr rfl) (Nat.le_of_ble_eq_true rfl)).trans ?_
    refine pv_ite ?_ rfl
    refine pv_ite ?_ rfl
    refine congrArg (Option.bind _) (funext fun q7 => ?_)
    exact ss_zreturn rfl
set_option maxRecDepth 8000 in
theorem u_Mo_readPart_123 (X : pv_X) (r : Nat) (v0 : Nat) (v1 : Nat) (v2 : Int32) (v3 : Int32) (v4 : Int32) (v5 : Int32) (v6 : Int32) (h : pv_H) : f_Mo_readPart_123 X r v0 v1 v2 v3 v4 v5 v6 h =
    f_Mo_readPart_124 X r v0 v1 v2 v3 v4 v5 v6 0 h := by
  show pS X r (some .boolean) k_Mo_readPart 123 [some (.ref v0), some (.ref v1), some (.int v2), some (.int v3), some (.int v4), some (.int v5), some (.int v6), none] [] h = _
  refine (ss_iconst rfl (v := 0) rfl).trans ?_
  rfl
set_option maxRecDepth 8000 in
theorem u_Mo_readPart_124 (X : pv_X) (r : Nat) (v0 : Nat) (v1 : Nat) (v2 : Int32) (v3 : Int32) (v4 : Int32) (v5 : Int32) (v6 : Int32) (s0 : Int32) (h : pv_H) : f_Mo_readPart_124 X r v0 v1 v2 v3 v4 v5 v6 s0 h =
    if s0 = 0 ∨ s0 = 1 then some (some (.int s0), h) else none := by
  show pS X r (some .boolean) k_Mo_readPart 124 [some (.ref v0), some (.ref v1), some (.int v2), some (.int v3), some (.int v4), some (.int v5), some (.int v6), none] [.int s0] h = _
  exact ss_zreturn rfl
set_option maxRecDepth 8000 in
theorem u_Mo_readPart_140 (X : pv_X) (r : Nat) (v0 : Nat) (v1 : Nat) (v2 : Int32) (v3 : Int32) (v4 : Int32) (v5 : Int32) (v6 : Int32) (s0 : Int32) (s1 : Nat) (h : pv_H) : f_Mo_readPart_140 X r v0 v1 v2 v3 v4 v5 v6 s0 s1 h =
    if m_Mo_put.2.2.2.2.2 [.ref s1, .int s0] < r then (if pv_rc h s1 5 = true then (pv_tV (pM X m_Mo_put [.ref s1, .int s0] h)).bind (fun h1 => some (some (.int 1), h1)) else none) else none := by
  show pS X r (some .boolean) k_Mo_readPart 140 [some (.ref v0), some (.ref v1), some (.int v2), some (.int v3), some (.int v4), some (.int v5), some (.int v6), none] [.int s0, .ref s1] h = _
  refine (ssr_callVN (as := [.int s0]) rfl t_Mo_put (by decide) rfl rfl (by decide) rfl (Nat.le_of_ble_eq_true rfl)).trans ?_
  refine pv_ite ?_ rfl
  refine pv_ite ?_ rfl
  refine congrArg (Option.bind _) (funext fun h1 => ?_)
  refine (ss_iconst rfl (v := 1) rfl).trans ?_
  exact (ss_zreturn rfl).trans (if_pos (by decide))
theorem e_Mo_readPart (X : pv_X) (v0 : Nat) (v1 : Nat) (v2 : Int32) (h : pv_H) : pM X m_Mo_readPart [.ref v0, .ref v1, .int v2] h = f_Mo_readPart_0 X (m_Mo_readPart.2.2.2.2.2 [.ref v0, .ref v1, .int v2]) v0 v1 v2 h := rfl
noncomputable def f_Mo_factOf_0 (X : pv_X) (v0 : Nat) (h : pv_H) : Option pv_O := pS X 14 (some .int) k_Mo_factOf 0 [some (.ref v0)] [] h
noncomputable def f_Mo_factOf_51 (X : pv_X) (v0 : Nat) (s0 : Int32) (h : pv_H) : Option pv_O := pS X 14 (some .int) k_Mo_factOf 51 [some (.ref v0)] [.int s0] h
set_option maxRecDepth 8000 in
theorem u_Mo_factOf_0 (X : pv_X) (v0 : Nat) (h : pv_H) : f_Mo_factOf_0 X v0 h =
    if pv_rc h v0 9 = true then (pv_tI (pM X m_Tp_isWord [.ref v0, .ref (pv_scr + 1 + 17)] h)).bind (fun q1 => if q1.1 = 0 then if pv_rc q1.2 v0 9 = true then (pv_tI (pM X m_Tp_isWord [.ref v0, .ref (pv_scr + 1 + 18)] q1.2)).bind (fun q2 => if q2.1 = 0 then if pv_rc q2.2 v0 9 = true then (pv_tI (pM X m_Tp_isWord [.ref v0, .ref (pv_scr + 1 + 19)] q2.2)).bind (fun q3 => if q3.1 = 0 then if pv_rc q3.2 v0 9 = true then (pv_tI (pM X m_Tp_isWord [.ref v0, .ref (pv_scr + 1 + 20)] q3.2)).bind (fun q4 => if q4.1 = 0 then f_Mo_factOf_51 X v0 (-13) q4.2 else f_Mo_factOf_51 X v0 (-4) q4.2) else none else some (some (.int (-3)), q3.2)) else none else some (some (.int (-2)), q2.2)) else none else some (some (.int (-1)), q1.2)) else none := by
  show pS X 14 (some .int) k_Mo_factOf 0 [some (.ref v0)] [] h = _
  refine (ss_aload_n rfl rfl).trans ?_
  refine (ss_ldcs rfl).trans ?_
  refine (ss_callVI (as := [.ref (pv_scr + 1 + 17)]) rfl t_Tp_isWord (by decide) rfl rfl (by decide) (Or.inr rfl) ⟨Nat.le_of_ble_eq_true rfl, Nat.le_of_ble_eq_true rfl⟩).trans ?_
  refine pv_ite ?_ rfl
  refine congrArg (Option.bind _) (funext fun q1 => ?_)
  refine (ss_if_eq rfl).trans ?_
  refine pv_ite ?_ ?_
  · refine (ss_aload_n rfl rfl).trans ?_
    refine (ss_ldcs rfl).trans ?_
    refine (ss_callVI (as := [.ref (pv_scr + 1 + 18)]) rfl t_Tp_isWord (by decide) rfl rfl (by decide) (Or.inr rfl) ⟨Nat.le_of_ble_eq_true rfl, Nat.le_of_ble_eq_true rfl⟩).trans ?_
    refine pv_ite ?_ rfl
    refine congrArg (Option.bind _) (funext fun q2 => ?_)
    refine (ss_if_eq rfl).trans ?_
    refine pv_ite ?_ ?_
    · refine (ss_aload_n rfl rfl).trans ?_
      refine (ss_ldcs rfl).trans ?_
      refine (ss_callVI (as := [.ref (pv_scr + 1 + 19)]) rfl t_Tp_isWord (by decide) rfl rfl (by decide) (Or.inr rfl) ⟨Nat.le_of_ble_eq_true rfl, Nat.le_of_ble_eq_true rfl⟩).trans ?_
      refine pv_ite ?_ rfl
      refine congrArg (Option.bind _) (funext fun q3 => ?_)
      refine (ss_if_eq rfl).trans ?_
      refine pv_ite ?_ ?_
      · refine (ss_aload_n rfl rfl).trans ?_
        refine (ss_ldcs rfl).trans ?_
        refine (ss_callVI (as := [.ref (pv_scr + 1 + 20)]) rfl t_Tp_isWord (by decide) rfl rfl (by decide) (Or.inr rfl) ⟨Nat.le_of_ble_eq_true rfl, Nat.le_of_ble_eq_true rfl⟩).trans ?_
        refine pv_ite ?_ rfl
        refine congrArg (Option.bind _) (funext fun q4 => ?_)
        refine (ss_if_eq rfl).trans ?_
        refine pv_ite ?_ ?_
        · refine (ss_bipush rfl (v := (-13)) rfl).trans ?_
          rfl
        · refine (ss_bipush rfl (v := (-4)) rfl).trans ?_
          refine (ss_goto rfl).trans ?_
          rfl
      · refine (ss_bipush rfl (v := (-3)) rfl).trans ?_
        exact ss_ireturn rfl
    · refine (ss_bipush rfl (v := (-2)) rfl).trans ?_
      exact ss_ireturn rfl
  · refine (ss_iconst rfl (v := (-1)) rfl).trans ?_
    exact ss_ireturn rfl
set_option maxRecDepth 8000 in
theorem u_Mo_factOf_51 (X : pv_X) (v0 : Nat) (s0 : Int32) (h : pv_H) : f_Mo_factOf_51 X v0 s0 h =
    some (some (.int s0), h) := by
  show pS X 14 (some .int) k_Mo_factOf 51 [some (.ref v0)] [.int s0] h = _
  exact ss_ireturn rfl
theorem e_Mo_factOf (X : pv_X) (v0 : Nat) (h : pv_H) : pM X m_Mo_factOf [.ref v0] h = f_Mo_factOf_0 X v0 h := rfl
noncomputable def f_Mo_value_0 (X : pv_X) (v0 : Nat) (v1 : Int32) (v2 : Int32) (v3 : Int32) (v4 : Int32) (h : pv_H) : Option pv_O := pS X 2 (some .int) k_Mo_value 0 [some (.ref v0), some (.int v1), some (.int v2), some (.int v3), some (.int v4), none, none, none] [] h
noncomputable def f_Mo_value_6 (X : pv_X) (v0 : Nat) (v1 : Int32) (v2 : Int32) (v3 : Int32) (v4 : Int32) (v5 : Int32) (v6 : Int32) (o7 : Option Value) (h : pv_H) : Option pv_O := pS X 2 (some .int) k_Mo_value 6 [some (.ref v0), some (.int v1), some (.int v2), some (.int v3), some (.int v4), some (.int v5), some (.int v6), o7] [] h
noncomputable def f_Mo_value_77 (X : pv_X) (v0 : Nat) (v1 : Int32) (v2 : Int32) (v3 : Int32) (v4 : Int32) (v5 : Int32) (v6 : Int32) (v7 : Int32) (s0 : Int32) (s1 : Int32) (s2 : Nat) (h : pv_H) : Option pv_O := pS X 2 (some .int) k_Mo_value 77 [some (.ref v0), some (.int v1), some (.int v2), some (.int v3), some (.int v4), some (.int v5), some (.int v6), some (.int v7)] [.int s0, .int s1, .ref s2] h
noncomputable def f_Mo_value_122 (X : pv_X) (v0 : Nat) (v1 : Int32) (v2 : Int32) (v3 : Int32) (v4 : Int32) (v5 : Int32) (v6 : Int32) (v7 : Int32) (s0 : Int32) (s1 : Int32) (s2 : Nat) (h : pv_H) : Option pv_O := pS X 2 (some .int) k_Mo_value 122 [some (.ref v0), some (.int v1), some (.int v2), some (.int v3), some (.int v4), some (.int v5), some (.int v6), some (.int v7)] [.int s0, .int s1, .ref s2] h
noncomputable def f_Mo_value_165 (X : pv_X) (v0 : Nat) (v1 : Int32) (v2 : Int32) (v3 : Int32) (v4 : Int32) (v5 : Int32) (v6 : Int32) (v7 : Int32) (h : pv_H) : Option pv_O := pS X 2 (some .int) k_Mo_value 165 [some (.ref v0), some (.int v1), some (.int v2), some (.int v3), some (.int v4), some (.int v5), some (.int v6), some (.int v7)] [] h
noncomputable def f_Mo_value_171 (X : pv_X) (v0 : Nat) (v1 : Int32) (v2 : Int32) (v3 : Int32) (v4 : Int32) (v5 : Int32) (v6 : Int32) (o7 : Option Value) (h : pv_H) : Option pv_O := pS X 2 (some .int) k_Mo_value 171 [some (.ref v0), some (.int v1), some (.int v2), some (.int v3), some (.int v4), some (.int v5), some (.int v6), o7] [] h
noncomputable def f_Mo_value_190 (X : pv_X) (v0 : Nat) (v1 : Int32) (v2 : Int32) (v3 : Int32) (v4 : Int32) (v5 : Int32) (v6 : Int32) (o7 : Option Value) (s0 : Int32) (h : pv_H) : Option pv_O := pS X 2 (some .int) k_Mo_value 190 [some (.ref v0), some (.int v1), some (.int v2), some (.int v3), some (.int v4), some (.int v5), some (.int v6), o7] [.int s0] h
set_option maxRecDepth 8000 in
theorem u_Mo_value_0 (X : pv_X) (v0 : Nat) (v1 : Int32) (v2 : Int32) (v3 : Int32) (v4 : Int32) (h : pv_H) : f_Mo_value_0 X v0 v1 v2 v3 v4 h =
    f_Mo_value_6 X v0 v1 v2 v3 v4 0 0 none h := by
  show pS X 2 (some .int) k_Mo_value 0 [some (.ref v0), some (.int v1), some (.int v2), some (.int v3), some (.int v4), none, none, none] [] h = _
  refine (ss_iconst rfl (v := 0) rfl).trans ?_
  refine (ss_istore rfl rfl).trans ?_
  refine (ss_iconst rfl (v := 0) rfl).trans ?_
  refine (ss_istore rfl rfl).trans ?_
  rfl
set_option maxRecDepth 8000 in
theorem u_Mo_value_6 (X : pv_X) (v0 : Nat) (v1 : Int32) (v2 : Int32) (v3 : Int32) (v4 : Int32) (v5 : Int32) (v6 : Int32) (o7 : Option Value) (h : pv_H) : f_Mo_value_6 X v0 v1 v2 v3 v4 v5 v6 o7 h =
    (pv_fI h v0 5 2).bind (fun x1 => if x1 ≤ v6 then f_Mo_value_171 X v0 v1 v2 v3 v4 v5 v6 o7 h else (pv_fR h v0 5 0).bind (fun x2 => (pv_len X h x2).bind (fun x3 => if x3 ≤ v6 then f_Mo_value_171 X v0 v1 v2 v3 v4 v5 v6 o7 h else (pv_fR h v0 5 0).bind (fun x4 => (pv_aX X h x4 v6).bind (fun x5 => if x5 < (-4) then if ¬ x5 = (-5) then if v5 < 2 then f_Mo_value_165 X v0 v1 v2 v3 v4 v5 v6 x5 h else (pv_fR h v0 5 1).bind (fun x6 => (pv_fR h v0 5 1).bind (fun x7 => (pv_aX X h x7 ((v5 + (-1)) - 1)).bind (fun x8 => (pv_fR h v0 5 1).bind (fun x9 => (pv_aX X h x9 (v5 + (-1))).bind (fun x10 => (pv_tI (pM X m_Mo_joined [.int x5, .int x8, .int x10] h)).bind (fun q11 => (pv_sI q11.2 x6 ((v5 + (-1)) - 1) q11.1).bind (fun h12 => f_Mo_value_165 X v0 v1 v2 v3 v4 (v5 + (-1)) v6 x5 h12))))))) else if v5 < 1 then f_Mo_value_165 X v0 v1 v2 v3 v4 v5 v6 x5 h else (pv_fR h v0 5 1).bind (fun x13 => (pv_fR h v0 5 1).bind (fun x14 => (pv_aX X h x14 (v5 - 1)).bind (fun x15 => if ¬ x15 = 0 then f_Mo_value_122 X v0 v1 v2 v3 v4 v5 v6 x5 0 (v5 - 1) x13 h else f_Mo_value_122 X v0 v1 v2 v3 v4 v5 v6 x5 1 (v5 - 1) x13 h))) else (pv_fR h v0 5 1).bind (fun x16 => (pv_len X h x16).bind (fun x17 => if x17 ≤ v5 then f_Mo_value_165 X v0 v1 v2 v3 v4 v5 v6 x5 h else (pv_fR h v0 5 1).bind (fun x18 => if x5 < 0 then (pv_tI (pM X m_Mo_factValue [.int x5, .int v1, .int v2, .int v3, .int v4] h)).bind (fun q19 => f_Mo_value_77 X v0 v1 v2 v3 v4 v5 v6 x5 q19.1 v5 x18 q19.2) else f_Mo_value_77 X v0 v1 v2 v3 v4 v5 v6 x5 x5 v5 x18 h)))))))) := by
  show pS X 2 (some .int) k_Mo_value 6 [some (.ref v0), some (.int v1), some (.int v2), some (.int v3), some (.int v4), some (.int v5), some (.int v6), o7] [] h = _
  refine (ss_iload rfl rfl).trans ?_
  refine (ss_aload_n rfl rfl).trans ?_
  refine (ss_getI rfl).trans ?_
  refine congrArg (Option.bind _) (funext fun x1 => ?_)
  refine (ss_icmp_ge rfl).trans ?_
  refine pv_ite ?_ ?_
  · rfl
  · refine (ss_iload rfl rfl).trans ?_
    refine (ss_aload_n rfl rfl).trans ?_
    refine (ss_getR rfl).trans ?_
    refine congrArg (Option.bind _) (funext fun x2 => ?_)
    refine (ss_arraylength rfl).trans ?_
    refine congrArg (Option.bind _) (funext fun x3 => ?_)
    refine (ss_icmp_ge rfl).trans ?_
    refine pv_ite ?_ ?_
    · rfl
    · refine (ss_aload_n rfl rfl).trans ?_
      refine (ss_getR rfl).trans ?_
      refine congrArg (Option.bind _) (funext fun x4 => ?_)
      refine (ss_iload rfl rfl).trans ?_
      refine (ss_iaload rfl).trans ?_
      refine congrArg (Option.bind _) (funext fun x5 => ?_)
      refine (ss_istore rfl rfl).trans ?_
      refine (ss_iload rfl rfl).trans ?_
      refine (ss_bipush rfl (v := (-4)) rfl).trans ?_
      refine (ss_icmp_lt rfl).trans ?_
      refine pv_ite ?_ ?_
      · refine (ss_iload rfl rfl).trans ?_
        refine (ss_bipush rfl (v := (-5)) rfl).trans ?_
        refine (ss_icmp_ne rfl).trans ?_
        refine pv_ite ?_ ?_
        · refine (ss_iload rfl rfl).trans ?_
          refine (ss_iconst rfl (v := 2) rfl).trans ?_
          refine (ss_icmp_lt rfl).trans ?_
          refine pv_ite ?_ ?_
          · rfl
          · refine (ss_iinc3 rfl rfl (v := v5 + (-1)) (congrArg (HAdd.hAdd _) (show Int32.ofInt (-1) = (-1) by decide)) rfl).trans ?_
            refine (ss_aload_n rfl rfl).trans ?_
            refine (ss_getR rfl).trans ?_
            refine congrArg (Option.bind _) (funext fun x6 => ?_)
            refine (ss_iload rfl rfl).trans ?_
            refine (ss_iconst rfl (v := 1) rfl).trans ?_
            refine (ss_isub rfl).trans ?_
            refine (ss_iload rfl rfl).trans ?_
            refine (ss_aload_n rfl rfl).trans ?_
            refine (ss_getR rfl).trans ?_
            refine congrArg (Option.bind _) (funext fun x7 => ?_)
            refine (ss_iload rfl rfl).trans ?_
            refine (ss_iconst rfl (v := 1) rfl).trans ?_
            refine (ss_isub rfl).trans ?_
            refine (ss_iaload rfl).trans ?_
            refine congrArg (Option.bind _) (funext fun x8 => ?_)
            refine (ss_aload_n rfl rfl).trans ?_
            refine (ss_getR rfl).trans ?_
            refine congrArg (Option.bind _) (funext fun x9 => ?_)
            refine (ss_iload rfl rfl).trans ?_
            refine (ss_iaload rfl).trans ?_
            refine congrArg (Option.bind _) (funext fun x10 => ?_)
            refine (ss_callSI (as := [.int x5, .int x8, .int x10]) rfl t_Mo_joined (by decide) rfl rfl (by simp [Value.category]) (Or.inl rfl) ⟨Nat.le_of_ble_eq_true rfl, Nat.le_of_ble_eq_true rfl⟩).trans ?_
            refine congrArg (Option.bind _) (funext fun q11 => ?_)
            refine (ss_iastore rfl).trans ?_
            refine congrArg (Option.bind _) (funext fun h12 => ?_)
            rfl
        · refine (ss_iload rfl rfl).trans ?_
          refine (ss_iconst rfl (v := 1) rfl).trans ?_
          refine (ss_icmp_lt rfl).trans ?_
          refine pv_ite ?_ ?_
          · rfl
          · refine (ss_aload_n rfl rfl).trans ?_
            refine (ss_getR rfl).trans ?_
            refine congrArg (Option.bind _) (funext fun x13 => ?_)
            refine (ss_iload rfl rfl).trans ?_
            refine (ss_iconst rfl (v := 1) rfl).trans ?_
            refine (ss_isub rfl).trans ?_
            refine (ss_aload_n rfl rfl).trans ?_
            refine (ss_getR rfl).trans ?_
            refine congrArg (Option.bind _) (funext fun x14 => ?_)
            refine (ss_iload rfl rfl).trans ?_
            refine (ss_iconst rfl (v := 1) rfl).trans ?_
            refine (ss_isub rfl).trans ?_
            refine (ss_iaload rfl).trans ?_
            refine congrArg (Option.bind _) (funext fun x15 => ?_)
            refine (ss_if_ne rfl).trans ?_
            refine pv_ite ?_ ?_
            · refine (ss_iconst rfl (v := 0) rfl).trans ?_
              rfl
            · refine (ss_iconst rfl (v := 1) rfl).trans ?_
              refine (ss_goto rfl).trans ?_
              rfl
      · refine (ss_iload rfl rfl).trans ?_
        refine (ss_aload_n rfl rfl).trans ?_
        refine (ss_getR rfl).trans ?_
        refine congrArg (Option.bind _) (funext fun x16 => ?_)
        refine (ss_arraylength rfl).trans ?_
        refine congrArg (Option.bind _) (funext fun x17 => ?_)
        refine (ss_icmp_ge rfl).trans ?_
        refine pv_ite ?_ ?_
        · rfl
        · refine (ss_aload_n rfl rfl).trans ?_
          refine (ss_getR rfl).trans ?_
          refine congrArg (Option.bind _) (funext fun x18 => ?_)
          refine (ss_iload rfl rfl).trans ?_
          refine (ss_iload rfl rfl).trans ?_
          refine (ss_if_lt rfl).trans ?_
          refine pv_ite ?_ ?_
          · refine (ss_iload rfl rfl).trans ?_
            refine (ss_iload_n rfl rfl).trans ?_
            refine (ss_iload_n rfl rfl).trans ?_
            refine (ss_iload_n rfl rfl).trans ?_
            refine (ss_iload rfl rfl).trans ?_
            refine (ss_callSI (as := [.int x5, .int v1, .int v2, .int v3, .int v4]) rfl t_Mo_factValue (by decide) rfl rfl (by simp [Value.category]) (Or.inl rfl) ⟨Nat.le_of_ble_eq_true rfl, Nat.le_of_ble_eq_true rfl⟩).trans ?_
            refine congrArg (Option.bind _) (funext fun q19 => ?_)
            rfl
          · refine (ss_iload rfl rfl).trans ?_
            refine (ss_goto rfl).trans ?_
            rfl
set_option maxRecDepth 8000 in
theorem u_Mo_value_77 (X : pv_X) (v0 : Nat) (v1 : Int32) (v2 : Int32) (v3 : Int32) (v4 : Int32) (v5 : Int32) (v6 : Int32) (v7 : Int32) (s0 : Int32) (s1 : Int32) (s2 : Nat) (h : pv_H) : f_Mo_value_77 X v0 v1 v2 v3 v4 v5 v6 v7 s0 s1 s2 h =
    (pv_sI h s2 s1 s0).bind (fun h1 => f_Mo_value_165 X v0 v1 v2 v3 v4 (v5 + 1) v6 v7 h1) := by
  show pS X 2 (some .int) k_Mo_value 77 [some (.ref v0), some (.int v1), some (.int v2), some (.int v3), some (.int v4), some (.int v5), some (.int v6), some (.int v7)] [.int s0, .int s1, .ref s2] h = _
  refine (ss_iastore rfl).trans ?_
  refine congrArg (Option.bind _) (funext fun h1 => ?_)
  refine (ss_iinc3 rfl rfl (v := v5 + 1) (congrArg (HAdd.hAdd _) (show Int32.ofInt (1) = 1 by decide)) rfl).trans ?_
  refine (ss_goto rfl).trans ?_
  rfl
set_option maxRecDepth 8000 in
theorem u_Mo_value_122 (X : pv_X) (v0 : Nat) (v1 : Int32) (v2 : Int32) (v3 : Int32) (v4 : Int32) (v5 : Int32) (v6 : Int32) (v7 : Int32) (s0 : Int32) (s1 : Int32) (s2 : Nat) (h : pv_H) : f_Mo_value_122 X v0 v1 v2 v3 v4 v5 v6 v7 s0 s1 s2 h =
    (pv_sI h s2 s1 s0).bind (fun h1 => f_Mo_value_165 X v0 v1 v2 v3 v4 v5 v6 v7 h1) := by
  show pS X 2 (some .int) k_Mo_value 122 [some (.ref v0), some (.int v1), some (.int v2), some (.int v3), some (.int v4), some (.int v5), some (.int v6), some (.int v7)] [.int s0, .int s1, .ref s2] h = _
  refine (ss_iastore rfl).trans ?_
  refine congrArg (Option.bind _) (funext fun h1 => ?_)
  refine (ss_goto rfl).trans ?_
  rfl
set_option maxRecDepth 8000 in
theorem u_Mo_value_165 (X : pv_X) (v0 : Nat) (v1 : Int32) (v2 : Int32) (v3 : Int32) (v4 : Int32) (v5 : Int32) (v6 : Int32) (v7 : Int32) (h : pv_H) : f_Mo_value_165 X v0 v1 v2 v3 v4 v5 v6 v7 h =
    f_Mo_value_6 X v0 v1 v2 v3 v4 v5 (v6 + 1) (some (.int v7)) h := by
  show pS X 2 (some .int) k_Mo_value 165 [some (.ref v0), some (.int v1), some (.int v2), some (.int v3), some (.int v4), some (.int v5), some (.int v6), some (.int v7)] [] h = _
  refine (ss_iinc3 rfl rfl (v := v6 + 1) (congrArg (HAdd.hAdd _) (show Int32.ofInt (1) = 1 by decide)) rfl).trans ?_
  refine (ss_goto rfl).trans ?_
  rfl
set_option maxRecDepth 8000 in
theorem u_Mo_value_171 (X : pv_X) (v0 : Nat) (v1 : Int32) (v2 : Int32) (v3 : Int32) (v4 : Int32) (v5 : Int32) (v6 : Int32) (o7 : Option Value) (h : pv_H) : f_Mo_value_171 X v0 v1 v2 v3 v4 v5 v6 o7 h =
    if v5 < 1 then f_Mo_value_190 X v0 v1 v2 v3 v4 v5 v6 o7 0 h else (pv_fR h v0 5 1).bind (fun x1 => (pv_aX X h x1 (v5 - 1)).bind (fun x2 => f_Mo_value_190 X v0 v1 v2 v3 v4 v5 v6 o7 x2 h)) := by
  show pS X 2 (some .int) k_Mo_value 171 [some (.ref v0), some (.int v1), some (.int v2), some (.int v3), some (.int v4), some (.int v5), some (.int v6), o7] [] h = _
  refine (ss_iload rfl rfl).trans ?_
  refine (ss_iconst rfl (v := 1) rfl).trans ?_
  refine (ss_icmp_lt rfl).trans ?_
  refine pv_ite ?_ ?_
  · refine (ss_iconst rfl (v := 0) rfl).trans ?_
    rfl
  · refine (ss_aload_n rfl rfl).trans ?_
    refine (ss_getR rfl).trans ?_
    refine congrArg (Option.bind _) (funext fun x1 => ?_)
    refine (ss_iload rfl rfl).trans ?_
    refine (ss_iconst rfl (v := 1) rfl).trans ?_
    refine (ss_isub rfl).trans ?_
    refine (ss_iaload rfl).trans ?_
    refine congrArg (Option.bind _) (funext fun x2 => ?_)
    refine (ss_goto rfl).trans ?_
    rfl
set_option maxRecDepth 8000 in
theorem u_Mo_value_190 (X : pv_X) (v0 : Nat) (v1 : Int32) (v2 : Int32) (v3 : Int32) (v4 : Int32) (v5 : Int32) (v6 : Int32) (o7 : Option Value) (s0 : Int32) (h : pv_H) : f_Mo_value_190 X v0 v1 v2 v3 v4 v5 v6 o7 s0 h =
    some (some (.int s0), h) := by
  show pS X 2 (some .int) k_Mo_value 190 [some (.ref v0), some (.int v1), some (.int v2), some (.int v3), some (.int v4), some (.int v5), some (.int v6), o7] [.int s0] h = _
  exact ss_ireturn rfl
theorem e_Mo_value (X : pv_X) (v0 : Nat) (v1 : Int32) (v2 : Int32) (v3 : Int32) (v4 : Int32) (h : pv_H) : pM X m_Mo_value [.ref v0, .int v1, .int v2, .int v3, .int v4] h = f_Mo_value_0 X v0 v1 v2 v3 v4 h := rfl
noncomputable def f_Mo_factValue_0 (X : pv_X) (v0 : Int32) (v1 : Int32) (v2 : Int32) (v3 : Int32) (v4 : Int32) (h : pv_H) : Option pv_O := pS X 1 (some .int) k_Mo_factValue 0 [some (.int v0), some (.int v1), some (.int v2), some (.int v3), some (.int v4)] [] h
set_option maxRecDepth 8000 in
theorem u_Mo_factValue_0 (X : pv_X) (v0 : Int32) (v1 : Int32) (v2 : Int32) (v3 : Int32) (v4 : Int32) (h : pv_H) : f_Mo_factValue_0 X v0 v1 v2 v3 v4 h =
    if v0 = (-3) then some (some (.int v3), h) else if v0 = (-2) then some (some (.int v2), h) else if v0 = (-1) then some (some (.int v1), h) else some (some (.int v4), h) := by
  show pS X 1 (some .int) k_Mo_factValue 0 [some (.int v0), some (.int v1), some (.int v2), some (.int v3), some (.int v4)] [] h = _
  refine (ss_iload_n rfl rfl).trans ?_
  refine (ss_table rfl).trans ?_
  by_cases c1 : v0 = (-3)
  · rw [if_pos c1, c1]
    show pS X _ _ _ 32 _ _ _ = _
    refine (ss_iload_n rfl rfl).trans ?_
    exact ss_ireturn rfl
  rw [if_neg c1]
  by_cases c2 : v0 = (-2)
  · rw [if_pos c2, c2]
    show pS X _ _ _ 30 _ _ _ = _
    refine (ss_iload_n rfl rfl).trans ?_
    exact ss_ireturn rfl
  rw [if_neg c2]
  by_cases c3 : v0 = (-1)
  · rw [if_pos c3, c3]
    show pS X _ _ _ 28 _ _ _ = _
    refine (ss_iload_n rfl rfl).trans ?_
    exact ss_ireturn rfl
  rw [if_neg c3]
  rw [pv_sw_out (pc := 1) (q := 34) (d := 33) (lo := -3) (hi := -1) (by decide) (by decide) (by have z0 := pv_ne c1 (k := (-3)) (z := -3) (by decide); have z1 := pv_ne c2 (k := (-2)) (z := -2) (by decide); have z2 := pv_ne c3 (k := (-1)) (z := -1) (by decide); omega)]
  show pS X _ _ _ 34 _ _ _ = _
  refine (ss_iload rfl rfl).trans ?_
  exact ss_ireturn rfl
theorem e_Mo_factValue (X : pv_X) (v0 : Int32) (v1 : Int32) (v2 : Int32) (v3 : Int32) (v4 : Int32) (h : pv_H) : pM X m_Mo_factValue [.int v0, .int v1, .int v2, .int v3, .int v4] h = f_Mo_factValue_0 X v0 v1 v2 v3 v4 h := rfl
noncomputable def f_Mo_joined_0 (X : pv_X) (v0 : Int32) (v1 : Int32) (v2 : Int32) (h : pv_H) : Option pv_O := pS X 1 (some .int) k_Mo_joined 0 [some (.int v0), some (.int v1), some (.int v2)] [] h
noncomputable def f_Mo_joined_52 (X : pv_X) (v0 : Int32) (v1 : Int32) (v2 : Int32) (h : pv_H) : Option pv_O := pS X 1 (some .int) k_Mo_joined 52 [some (.int v0), some (.int v1), some (.int v2)] [] h
noncomputable def f_Mo_joined_53 (X : pv_X) (v0 : Int32) (v1 : Int32) (v2 : Int32) (s0 : Int32) (h : pv_H) : Option pv_O := pS X 1 (some .int) k_Mo_joined 53 [some (.int v0), some (.int v1), some (.int v2)] [.int s0] h
noncomputable def f_Mo_joined_62 (X : pv_X) (v0 : Int32) (v1 : Int32) (v2 : Int32) (h : pv_H) : Option pv_O := pS X 1 (some .int) k_Mo_joined 62 [some (.int v0), some (.int v1), some (.int v2)] [] h
noncomputable def f_Mo_joined_67 (X : pv_X) (v0 : Int32) (v1 : Int32) (v2 : Int32) (s0 : Int32) (h : pv_H) : Option pv_O := pS X 1 (some .int) k_Mo_joined 67 [some (.int v0), some (.int v1), some (.int v2)] [.int s0] h
noncomputable def f_Mo_joined_78 (X : pv_X) (v0 : Int32) (v1 : Int32) (v2 : Int32) (s0 : Int32) (h : pv_H) : Option pv_O := pS X 1 (some .int) k_Mo_joined 78 [some (.int v0), some (.int v1), some (.int v2)] [.int s0] h
noncomputable def f_Mo_joined_89 (X : pv_X) (v0 : Int32) (v1 : Int32) (v2 : Int32) (s0 : Int32) (h : pv_H) : Option pv_O := pS X 1 (some .int) k_Mo_joined 89 [some (.int v0), some (.int v1), some (.int v2)] [.int s0] h
set_option maxRecDepth 8000 in
theorem u_Mo_joined_0 (X : pv_X) (v0 : Int32) (v1 : Int32) (v2 : Int32) (h : pv_H) : f_Mo_joined_0 X v0 v1 v2 h =
    if v0 = (-11) then some (some (.int (v1 - v2)), h) else if v0 = (-10) then some (some (.int (v1 + v2)), h) else if v0 = (-9) then if ¬ v1 = v2 then f_Mo_joined_89 X v0 v1 v2 0 h else f_Mo_joined_89 X v0 v1 v2 1 h else if v0 = (-8) then if v2 ≤ v1 then f_Mo_joined_78 X v0 v1 v2 0 h else f_Mo_joined_78 X v0 v1 v2 1 h else if v0 = (-7) then if ¬ v1 = 0 then f_Mo_joined_62 X v0 v1 v2 h else if v2 = 0 then f_Mo_joined_67 X v0 v1 v2 0 h else f_Mo_joined_62 X v0 v1 v2 h else if v0 = (-6) then if v1 = 0 then f_Mo_joined_52 X v0 v1 v2 h else if v2 = 0 then f_Mo_joined_52 X v0 v1 v2 h else f_Mo_joined_53 X v0 v1 v2 1 h else some (some (.int (v1 * v2)), h) := by
  show pS X 1 (some .int) k_Mo_joined 0 [some (.int v0), some (.int v1), some (.int v2)] [] h = _
  refine (ss_iload_n rfl rfl).trans ?_
  refine (ss_table rfl).trans ?_
  by_cases c1 : v0 = (-11)
  · rw [if_pos c1, c1]
    show pS X _ _ _ 94 _ _ _ = _
    refine (ss_iload_n rfl rfl).trans ?_
    refine (ss_iload_n rfl rfl).trans ?_
    refine (ss_isub rfl).trans ?_
    exact ss_ireturn rfl
  rw [if_neg c1]
  by_cases c2 : v0 = (-10)
  · rw [if_pos c2, c2]
    show pS X _ _ _ 90 _ _ _ = _
    refine (ss_iload_n rfl rfl).trans ?_
    refine (ss_iload_n rfl rfl).trans ?_
    refine (ss_iadd rfl).trans ?_
    exact ss_ireturn rfl
  rw [if_neg c2]
  by_cases c3 : v0 = (-9)
  · rw [if_pos c3, c3]
    show pS X _ _ _ 79 _ _ _ = _
    refine (ss_iload_n rfl rfl).trans ?_
    refine (ss_iload_n rfl rfl).trans ?_
    refine (ss_icmp_ne rfl).trans ?_
    refine pv_ite ?_ ?_
    · refine (ss_iconst rfl (v := 0) rfl).trans ?_
      rfl
    · refine (ss_iconst rfl (v := 1) rfl).trans ?_
      refine (ss_goto rfl).trans ?_
      rfl
  rw [if_neg c3]
  by_cases c4 : v0 = (-8)
  · rw [if_pos c4, c4]
    show pS X _ _ _ 68 _ _ _ = _
    refine (ss_iload_n rfl rfl).trans ?_
    refine (ss_iload_n rfl rfl).trans ?_
    refine (ss_icmp_ge rfl).trans ?_
    refine pv_ite ?_ ?_
    · refine (ss_iconst rfl (v := 0) rfl).trans ?_
      rfl
    · refine (ss_iconst rfl (v := 1) rfl).trans ?_
      refine (ss_goto rfl).trans ?_
      rfl
  rw [if_neg c4]
  by_cases c5 : v0 = (-7)
  · rw [if_pos c5, c5]
    show pS X _ _ _ 54 _ _ _ = _
    refine (ss_iload_n rfl rfl).trans ?_
    refine (ss_if_ne rfl).trans ?_
    refine pv_ite ?_ ?_
    · rfl
    · refine (ss_iload_n rfl rfl).trans ?_
      refine (ss_if_eq rfl).trans ?_
      refine pv_ite ?_ ?_
      · refine (ss_iconst rfl (v := 0) rfl).trans ?_
        rfl
      · rfl
  rw [if_neg c5]
  by_cases c6 : v0 = (-6)
  · rw [if_pos c6, c6]
    show pS X _ _ _ 40 _ _ _ = _
    refine (ss_iload_n rfl rfl).trans ?_
    refine (ss_if_eq rfl).trans ?_
    refine pv_ite ?_ ?_
    · rfl
    · refine (ss_iload_n rfl rfl).trans ?_
      refine (ss_if_eq rfl).trans ?_
      refine pv_ite ?_ ?_
      · rfl
      · refine (ss_iconst rfl (v := 1) rfl).trans ?_
        refine (ss_goto rfl).trans ?_
        rfl
  rw [if_neg c6]
  rw [pv_sw_out (pc := 1) (q := 98) (d := 97) (lo := -11) (hi := -6) (by decide) (by decide) (by have z0 := pv_ne c1 (k := (-11)) (z := -11) (by decide); have z1 := pv_ne c2 (k := (-10)) (z := -10) (by decide); have z2 := pv_ne c3 (k := (-9)) (z := -9) (by decide); have z3 := pv_ne c4 (k := (-8)) (z := -8) (by decide); have z4 := pv_ne c5 (k := (-7)) (z := -7) (by decide); have z5 := pv_ne c6 (k := (-6)) (z := -6) (by decide); omega)]
  show pS X _ _ _ 98 _ _ _ = _
  refine (ss_iload_n rfl rfl).trans ?_
  refine (ss_iload_n rfl rfl).trans ?_
  refine (ss_imul rfl).trans ?_
  exact ss_ireturn rfl
set_option maxRecDepth 8000 in
theorem u_Mo_joined_52 (X : pv_X) (v0 : Int32) (v1 : Int32) (v2 : Int32) (h : pv_H) : f_Mo_joined_52 X v0 v1 v2 h =
    f_Mo_joined_53 X v0 v1 v2 0 h := by
  show pS X 1 (some .int) k_Mo_joined 52 [some (.int v0), some (.int v1), some (.int v2)] [] h = _
  refine (ss_iconst rfl (v := 0) rfl).trans ?_
  rfl
set_option maxRecDepth 8000 in
theorem u_Mo_joined_53 (X : pv_X) (v0 : Int32) (v1 : Int32) (v2 : Int32) (s0 : Int32) (h : pv_H) : f_Mo_joined_53 X v0 v1 v2 s0 h =
    some (some (.int s0), h) := by
  show pS X 1 (some .int) k_Mo_joined 53 [some (.int v0), some (.int v1), some (.int v2)] [.int s0] h = _
  exact ss_ireturn rfl
set_option maxRecDepth 8000 in
theorem u_Mo_joined_62 (X : pv_X) (v0 : Int32) (v1 : Int32) (v2 : Int32) (h : pv_H) : f_Mo_joined_62 X v0 v1 v2 h =
    f_Mo_joined_67 X v0 v1 v2 1 h := by
  show pS X 1 (some .int) k_Mo_joined 62 [some (.int v0), some (.int v1), some (.int v2)] [] h = _
  refine (ss_iconst rfl (v := 1) rfl).trans ?_
  refine (ss_goto rfl).trans ?_
  rfl
set_option maxRecDepth 8000 in
theorem u_Mo_joined_67 (X : pv_X) (v0 : Int32) (v1 : Int32) (v2 : Int32) (s0 : Int32) (h : pv_H) : f_Mo_joined_67 X v0 v1 v2 s0 h =
    some (some (.int s0), h) := by
  show pS X 1 (some .int) k_Mo_joined 67 [some (.int v0), some (.int v1), some (.int v2)] [.int s0] h = _
  exact ss_ireturn rfl
set_option maxRecDepth 8000 in
theorem u_Mo_joined_78 (X : pv_X) (v0 : Int32) (v1 : Int32) (v2 : Int32) (s0 : Int32) (h : pv_H) : f_Mo_joined_78 X v0 v1 v2 s0 h =
    some (some (.int s0), h) := by
  show pS X 1 (some .int) k_Mo_joined 78 [some (.int v0), some (.int v1), some (.int v2)] [.int s0] h = _
  exact ss_ireturn rfl
set_option maxRecDepth 8000 in
theorem u_Mo_joined_89 (X : pv_X) (v0 : Int32) (v1 : Int32) (v2 : Int32) (s0 : Int32) (h : pv_H) : f_Mo_joined_89 X v0 v1 v2 s0 h =
    some (some (.int s0), h) := by
  show pS X 1 (some .int) k_Mo_joined 89 [some (.int v0), some (.int v1), some (.int v2)] [.int s0] h = _
  exact ss_ireturn rfl
theorem e_Mo_joined (X : pv_X) (v0 : Int32) (v1 : Int32) (v2 : Int32) (h : pv_H) : pM X m_Mo_joined [.int v0, .int v1, .int v2] h = f_Mo_joined_0 X v0 v1 v2 h := rfl
noncomputable def f_Tp_init_0 (X : pv_X) (v0 : Nat) (h : pv_H) : Option pv_O := pS X 1 (none) k_Tp_init 0 [some (.ref v0)] [] h
set_option maxRecDepth 8000 in
theorem u_Tp_init_0 (X : pv_X) (v0 : Nat) (h : pv_H) : f_Tp_init_0 X v0 h =
    (pv_na h 0 1000).bind (fun h1 => (pv_fp h1 v0 9 0 (.ref h.length)).bind (fun h2 => some (none, h2))) := by
  show pS X 1 (none) k_Tp_init 0 [some (.ref v0)] [] h = _
  refine (ss_aload_n rfl rfl).trans ?_
  refine (ss_oinit rfl (by decide)).trans ?_
  refine (ss_aload_n rfl rfl).trans ?_
  refine (ss_sipush rfl (v := 1000) rfl).trans ?_
  refine (ss_newarray (by decide) rfl).trans ?_
  refine congrArg (Option.bind _) (funext fun h1 => ?_)
  refine (ss_putR rfl).trans ?_
  refine congrArg (Option.bind _) (funext fun h2 => ?_)
  exact ss_return rfl
theorem e_Tp_init (X : pv_X) (v0 : Nat) (h : pv_H) : pM X m_Tp_init [.ref v0] h = f_Tp_init_0 X v0 h := rfl
noncomputable def f_Tp_addBytes_0 (X : pv_X) (v0 : Nat) (v1 : Int64) (h : pv_H) : Option pv_O := pS X 1 (none) k_Tp_addBytes 0 [some (.ref v0), some (.long v1), none, none, none, none] [] h
noncomputable def f_Tp_addBytes_3 (X : pv_X) (v0 : Nat) (v1 : Int64) (v3 : Int32) (o4 : Option Value) (o5 : Option Value) (h : pv_H) : Option pv_O := pS X 1 (none) k_Tp_addBytes 3 [some (.ref v0), some (.long v1), none, some (.int v3), o4, o5] [] h
noncomputable def f_Tp_addBytes_38 (X : pv_X) (v0 : Nat) (v1 : Int64) (v3 : Int32) (v4 : Int32) (o5 : Option Value) (h : pv_H) : Option pv_O := pS X 1 (none) k_Tp_addBytes 38 [some (.ref v0), some (.long v1), none, some (.int v3), some (.int v4), o5] [] h
noncomputable def f_Tp_addBytes_42 (X : pv_X) (v0 : Nat) (v1 : Int64) (v3 : Int32) (v4 : Int32) (o5 : Option Value) (h : pv_H) : Option pv_O := pS X 1 (none) k_Tp_addBytes 42 [some (.ref v0), some (.long v1), none, some (.int v3), some (.int v4), o5] [] h
noncomputable def f_Tp_addBytes_43 (X : pv_X) (v0 : Nat) (v1 : Int64) (v3 : Int32) (v4 : Int32) (o5 : Option Value) (s0 : Int32) (h : pv_H) : Option pv_O := pS X 1 (none) k_Tp_addBytes 43 [some (.ref v0), some (.long v1), none, some (.int v3), some (.int v4), o5] [.int s0] h
noncomputable def f_Tp_addBytes_82 (X : pv_X) (v0 : Nat) (v1 : Int64) (v3 : Int32) (v4 : Int32) (v5 : Int32) (h : pv_H) : Option pv_O := pS X 1 (none) k_Tp_addBytes 82 [some (.ref v0), some (.long v1), none, some (.int v3), some (.int v4), some (.int v5)] [] h
set_option maxRecDepth 8000 in
theorem u_Tp_addBytes_0 (X : pv_X) (v0 : Nat) (v1 : Int64) (h : pv_H) : f_Tp_addBytes_0 X v0 v1 h =
    f_Tp_addBytes_3 X v0 v1 56 none none h := by
  show pS X 1 (none) k_Tp_addBytes 0 [some (.ref v0), some (.long v1), none, none, none, none] [] h = _
  refine (ss_bipush rfl (v := 56) rfl).trans ?_
  refine (ss_istore_n rfl rfl).trans ?_
  rfl
set_option maxRecDepth 8000 in
theorem u_Tp_addBytes_3 (X : pv_X) (v0 : Nat) (v1 : Int64) (v3 : Int32) (o4 : Option Value) (o5 : Option Value) (h : pv_H) : f_Tp_addBytes_3 X v0 v1 v3 o4 o5 h =
    if v3 < 0 then some (none, h) else if ((((v1 : Int64).toUInt64 >>> ((v3 : Int32).toInt64.toUInt64 &&& Int64.toUInt64 63)).toInt64 : Int64).toInt32 &&& 255) = 10 then f_Tp_addBytes_38 X v0 v1 v3 ((((v1 : Int64).toUInt64 >>> ((v3 : Int32).toInt64.toUInt64 &&& Int64.toUInt64 63)).toInt64 : Int64).toInt32 &&& 255) o5 h else if ((((v1 : Int64).toUInt64 >>> ((v3 : Int32).toInt64.toUInt64 &&& Int64.toUInt64 63)).toInt64 : Int64).toInt32 &&& 255) < 32 then f_Tp_addBytes_42 X v0 v1 v3 ((((v1 : Int64).toUInt64 >>> ((v3 : Int32).toInt64.toUInt64 &&& Int64.toUInt64 63)).toInt64 : Int64).toInt32 &&& 255) o5 h else if 126 < ((((v1 : Int64).toUInt64 >>> ((v3 : Int32).toInt64.toUInt64 &&& Int64.toUInt64 63)).toInt64 : Int64).toInt32 &&& 255) then f_Tp_addBytes_42 X v0 v1 v3 ((((v1 : Int64).toUInt64 >>> ((v3 : Int32).toInt64.toUInt64 &&& Int64.toUInt64 63)).toInt64 : Int64).toInt32 &&& 255) o5 h else f_Tp_addBytes_38 X v0 v1 v3 ((((v1 : Int64).toUInt64 >>> ((v3 : Int32).toInt64.toUInt64 &&& Int64.toUInt64 63)).toInt64 : Int64).toInt32 &&& 255) o5 h := by
  show pS X 1 (none) k_Tp_addBytes 3 [some (.ref v0), some (.long v1), none, some (.int v3), o4, o5] [] h = _
  refine (ss_iload_n rfl rfl).trans ?_
  refine (ss_if_lt rfl).trans ?_
  refine pv_ite ?_ ?_
  · exact ss_return rfl
  · refine (ss_lload_n rfl rfl).trans ?_
    refine (ss_iload_n rfl rfl).trans ?_
    refine (ss_lushr rfl).trans ?_
    refine (ss_l2i rfl).trans ?_
    refine (ss_sipush rfl (v := 255) rfl).trans ?_
    refine (ss_iand rfl).trans ?_
    refine (ss_istore rfl rfl).trans ?_
    refine (ss_iload rfl rfl).trans ?_
    refine (ss_bipush rfl (v := 10) rfl).trans ?_
    refine (ss_icmp_eq rfl).trans ?_
    refine pv_ite ?_ ?_
    · rfl
    · refine (ss_iload rfl rfl).trans ?_
      refine (ss_bipush rfl (v := 32) rfl).trans ?_
      refine (ss_icmp_lt rfl).trans ?_
      refine pv_ite ?_ ?_
      · rfl
      · refine (ss_iload rfl rfl).trans ?_
        refine (ss_bipush rfl (v := 126) rfl).trans ?_
        refine (ss_icmp_gt rfl).trans ?_
        refine pv_ite ?_ ?_
        · rfl
        · rfl
set_option maxRecDepth 8000 in
theorem u_Tp_addBytes_38 (X : pv_X) (v0 : Nat) (v1 : Int64) (v3 : Int32) (v4 : Int32) (o5 : Option Value) (h : pv_H) : f_Tp_addBytes_38 X v0 v1 v3 v4 o5 h =
    f_Tp_addBytes_43 X v0 v1 v3 v4 o5 1 h := by
  show pS X 1 (none) k_Tp_addBytes 38 [some (.ref v0), some (.long v1), none, some (.int v3), some (.int v4), o5] [] h = _
  refine (ss_iconst rfl (v := 1) rfl).trans ?_
  refine (ss_goto rfl).trans ?_
  rfl
set_option maxRecDepth 8000 in
theorem u_Tp_addBytes_42 (X : pv_X) (v0 : Nat) (v1 : Int64) (v3 : Int32) (v4 : Int32) (o5 : Option Value) (h : pv_H) : f_Tp_addBytes_42 X v0 v1 v3 v4 o5 h =
    f_Tp_addBytes_43 X v0 v1 v3 v4 o5 0 h := by
  show pS X 1 (none) k_Tp_addBytes 42 [some (.ref v0), some (.long v1), none, some (.int v3), some (.int v4), o5] [] h = _
  refine (ss_iconst rfl (v := 0) rfl).trans ?_
  rfl
set_option maxRecDepth 8000 in
theorem u_Tp_addBytes_43 (X : pv_X) (v0 : Nat) (v1 : Int64) (v3 : Int32) (v4 : Int32) (o5 : Option Value) (s0 : Int32) (h : pv_H) : f_Tp_addBytes_43 X v0 v1 v3 v4 o5 s0 h =
    if s0 = 0 then f_Tp_addBytes_82 X v0 v1 v3 v4 s0 h else (pv_fI h v0 9 1).bind (fun x1 => if 1000 ≤ x1 then f_Tp_addBytes_82 X v0 v1 v3 v4 s0 h else (pv_fR h v0 9 0).bind (fun x2 => (pv_fI h v0 9 1).bind (fun x3 => (pv_sC h x2 x3 ((v4 : Int32).toUInt32 % 65536).toInt32).bind (fun h4 => (pv_fI h4 v0 9 1).bind (fun x5 => (pv_fp h4 v0 9 1 (.int (x5 + 1))).bind (fun h6 => f_Tp_addBytes_82 X v0 v1 v3 v4 s0 h6)))))) := by
  show pS X 1 (none) k_Tp_addBytes 43 [some (.ref v0), some (.long v1), none, some (.int v3), some (.int v4), o5] [.int s0] h = _
  refine (ss_istore rfl rfl).trans ?_
  refine (ss_iload rfl rfl).trans ?_
  refine (ss_if_eq rfl).trans ?_
  refine pv_ite ?_ ?_
  · rfl
  · refine (ss_aload_n rfl rfl).trans ?_
    refine (ss_getI rfl).trans ?_
    refine congrArg (Option.bind _) (funext fun x1 => ?_)
    refine (ss_sipush rfl (v := 1000) rfl).trans ?_
    refine (ss_icmp_ge rfl).trans ?_
    refine pv_ite ?_ ?_
    · rfl
    · refine (ss_aload_n rfl rfl).trans ?_
      refine (ss_getR rfl).trans ?_
      refine congrArg (Option.bind _) (funext fun x2 => ?_)
      refine (ss_aload_n rfl rfl).trans ?_
      refine (ss_getI rfl).trans ?_
      refine congrArg (Option.bind _) (funext fun x3 => ?_)
      refine (ss_iload rfl rfl).trans ?_
      refine (ss_i2c rfl).trans ?_
      refine (ss_castore rfl).trans ?_
      refine congrArg (Option.bind _) (funext fun h4 => ?_)
      refine (ss_aload_n rfl rfl).trans ?_
      refine (ss_dupR rfl).trans ?_
      refine (ss_getI rfl).trans ?_
      refine congrArg (Option.bind _) (funext fun x5 => ?_)
      refine (ss_iconst rfl (v := 1) rfl).trans ?_
      refine (ss_iadd rfl).trans ?_
      refine (ss_putI rfl).trans ?_
      refine congrArg (Option.bind _) (funext fun h6 => ?_)
      rfl
set_option maxRecDepth 8000 in
theorem u_Tp_addBytes_82 (X : pv_X) (v0 : Nat) (v1 : Int64) (v3 : Int32) (v4 : Int32) (v5 : Int32) (h : pv_H) : f_Tp_addBytes_82 X v0 v1 v3 v4 v5 h =
    f_Tp_addBytes_3 X v0 v1 (v3 + (-8)) (some (.int v4)) (some (.int v5)) h := by
  show pS X 1 (none) k_Tp_addBytes 82 [some (.ref v0), some (.long v1), none, some (.int v3), some (.int v4), some (.int v5)] [] h = _
  refine (ss_iinc3 rfl rfl (v := v3 + (-8)) (congrArg (HAdd.hAdd _) (show Int32.ofInt (-8) = (-8) by decide)) rfl).trans ?_
  refine (ss_goto rfl).trans ?_
  rfl
theorem e_Tp_addBytes (X : pv_X) (v0 : Nat) (v1 : Int64) (h : pv_H) : pM X m_Tp_addBytes [.ref v0, .long v1] h = f_Tp_addBytes_0 X v0 v1 h := rfl
noncomputable def f_Tp_empty_0 (X : pv_X) (v0 : Nat) (h : pv_H) : Option pv_O := pS X 1 (none) k_Tp_empty 0 [some (.ref v0)] [] h
set_option maxRecDepth 8000 in
theorem u_Tp_empty_0 (X : pv_X) (v0 : Nat) (h : pv_H) : f_Tp_empty_0 X v0 h =
    (pv_fp h v0 9 1 (.int 0)).bind (fun h1 => some (none, h1)) := by
  show pS X 1 (none) k_Tp_empty 0 [some (.ref v0)] [] h = _
  refine (ss_aload_n rfl rfl).trans ?_
  refine (ss_iconst rfl (v := 0) rfl).trans ?_
  refine (ss_putI rfl).trans ?_
  refine congrArg (Option.bind _) (funext fun h1 => ?_)
  exact ss_return rfl
theorem e_Tp_empty (X : pv_X) (v0 : Nat) (h : pv_H) : pM X m_Tp_empty [.ref v0] h = f_Tp_empty_0 X v0 h := rfl
noncomputable def f_Tp_start_0 (X : pv_X) (v0 : Nat) (h : pv_H) : Option pv_O := pS X 14 (none) k_Tp_start 0 [some (.ref v0)] [] h
set_option maxRecDepth 8000 in
theorem u_Tp_start_0 (X : pv_X) (v0 : Nat) (h : pv_H) : f_Tp_start_0 X v0 h =
    (pv_fp h v0 9 7 (.int 0)).bind (fun h1 => (pv_fp h1 v0 9 4 (.int 0)).bind (fun h2 => if pv_rc h2 v0 9 = true then (pv_tV (pM X m_Tp_advance [.ref v0] h2)).bind (fun h3 => some (none, h3)) else none)) := by
  show pS X 14 (none) k_Tp_start 0 [some (.ref v0)] [] h = _
  refine (ss_aload_n rfl rfl).trans ?_
  refine (ss_iconst rfl (v := 0) rfl).trans ?_
  refine (ss_putI rfl).trans ?_
  refine congrArg (Option.bind _) (funext fun h1 => ?_)
  refine (ss_aload_n rfl rfl).trans ?_
  refine (ss_iconst rfl (v := 0) rfl).trans ?_
  refine (ss_putI rfl).trans ?_
  refine congrArg (Option.bind _) (funext fun h2 => ?_)
  refine (ss_aload_n rfl rfl).trans ?_
  refine (ss_callVN (as := []) rfl t_Tp_advance (by decide) rfl rfl (by decide) rfl ⟨Nat.le_of_ble_eq_true rfl, Nat.le_of_ble_eq_true rfl⟩).trans ?_
  refine pv_ite ?_ rfl
  refine congrArg (Option.bind _) (funext fun h3 => ?_)
  exact ss_return rfl
theorem e_Tp_start (X : pv_X) (v0 : Nat) (h : pv_H) : pM X m_Tp_start [.ref v0] h = f_Tp_start_0 X v0 h := rfl
noncomputable def f_Tp_advance_0 (X : pv_X) (v0 : Nat) (h : pv_H) : Option pv_O := pS X 13 (none) k_Tp_advance 0 [some (.ref v0), none] [] h
noncomputable def f_Tp_advance_5 (X : pv_X) (v0 : Nat) (v1 : Int32) (h : pv_H) : Option pv_O := pS X 13 (none) k_Tp_advance 5 [some (.ref v0), some (.int v1)] [] h
noncomputable def f_Tp_advance_31 (X : pv_X) (v0 : Nat) (v1 : Int32) (h : pv_H) : Option pv_O := pS X 13 (none) k_Tp_advance 31 [some (.ref v0), some (.int v1)] [] h
noncomputable def f_Tp_advance_110 (X : pv_X) (v0 : Nat) (v1 : Int32) (s0 : Int32) (s1 : Nat) (h : pv_H) : Option pv_O := pS X 13 (none) k_Tp_advance 110 [some (.ref v0), some (.int v1)] [.int s0, .ref s1] h
noncomputable def f_Tp_advance_120 (X : pv_X) (v0 : Nat) (v1 : Int32) (h : pv_H) : Option pv_O := pS X 13 (none) k_Tp_advance 120 [some (.ref v0), some (.int v1)] [] h
set_option maxRecDepth 8000 in
theorem u_Tp_advance_0 (X : pv_X) (v0 : Nat) (h : pv_H) : f_Tp_advance_0 X v0 h =
    (pv_fI h v0 9 7).bind (fun x1 => f_Tp_advance_5 X v0 x1 h) := by
  show pS X 13 (none) k_Tp_advance 0 [some (.ref v0), none] [] h = _
  refine (ss_aload_n rfl rfl).trans ?_
  refine (ss_getI rfl).trans ?_
  refine congrArg (Option.bind _) (funext fun x1 => ?_)
  refine (ss_istore_n rfl rfl).trans ?_
  rfl
set_option maxRecDepth 8000 in
theorem u_Tp_advance_5 (X : pv_X) (v0 : Nat) (v1 : Int32) (h : pv_H) : f_Tp_advance_5 X v0 v1 h =
    (pv_fI h v0 9 1).bind (fun x1 => if x1 ≤ v1 then f_Tp_advance_31 X v0 v1 h else (pv_fR h v0 9 0).bind (fun x2 => (pv_aI h 0 x2 v1).bind (fun x3 => (pv_tI (pM X m_Tp_isBlank [.int x3] h)).bind (fun q4 => if q4.1 = 0 then f_Tp_advance_31 X v0 v1 q4.2 else f_Tp_advance_5 X v0 (v1 + 1) q4.2)))) := by
  show pS X 13 (none) k_Tp_advance 5 [some (.ref v0), some (.int v1)] [] h = _
  refine (ss_iload_n rfl rfl).trans ?_
  refine (ss_aload_n rfl rfl).trans ?_
  refine (ss_getI rfl).trans ?_
  refine congrArg (Option.bind _) (funext fun x1 => ?_)
  refine (ss_icmp_ge rfl).trans ?_
  refine pv_ite ?_ ?_
  · rfl
  · refine (ss_aload_n rfl rfl).trans ?_
    refine (ss_getR rfl).trans ?_
    refine congrArg (Option.bind _) (funext fun x2 => ?_)
    refine (ss_iload_n rfl rfl).trans ?_
    refine (ss_caload rfl).trans ?_
    refine congrArg (Option.bind _) (funext fun x3 => ?_)
    refine (ss_callSI (as := [.int x3]) rfl t_Tp_isBlank (by decide) rfl rfl (by decide) (Or.inr rfl) ⟨Nat.le_of_ble_eq_true rfl, Nat.le_of_ble_eq_true rfl⟩).trans ?_
    refine congrArg (Option.bind _) (funext fun q4 => ?_)
    refine (ss_if_eq rfl).trans ?_
    refine pv_ite ?_ ?_
    · rfl
    · refine (ss_iinc3 rfl rfl (v := v1 + 1) (congrArg (HAdd.hAdd _) (show Int32.ofInt (1) = 1 by decide)) rfl).trans ?_
      refine (ss_goto rfl).trans ?_
      rfl
set_option maxRecDepth 8000 in
theorem u_Tp_advance_31 (X : pv_X) (v0 : Nat) (v1 : Int32) (h : pv_H) : f_Tp_advance_31 X v0 v1 h =
    (pv_fp h v0 9 6 (.int v1)).bind (fun h1 => (pv_fI h1 v0 9 1).bind (fun x2 => if v1 < x2 then (pv_fR h1 v0 9 0).bind (fun x3 => (pv_aI h1 0 x3 v1).bind (fun x4 => (pv_tI (pM X m_Tp_isLetter [.int x4] h1)).bind (fun q5 => if q5.1 = 0 then (pv_fR q5.2 v0 9 0).bind (fun x6 => (pv_aI q5.2 0 x6 v1).bind (fun x7 => (pv_tI (pM X m_Tp_isDigit [.int x7] q5.2)).bind (fun q8 => if q8.1 = 0 then (pv_fR q8.2 v0 9 0).bind (fun x9 => (pv_aI q8.2 0 x9 v1).bind (fun x10 => (pv_tI (pv_ext 902 [.ref (pv_scr + 1 + 0), .int x10] q8.2)).bind (fun q11 => if q11.1 < 0 then f_Tp_advance_110 X v0 v1 4 v0 q11.2 else f_Tp_advance_110 X v0 v1 3 v0 q11.2))) else if pv_rc q8.2 v0 9 = true then (pv_tV (pM X m_Tp_readNumber [.ref v0] q8.2)).bind (fun h12 => f_Tp_advance_120 X v0 v1 h12) else none))) else if pv_rc q5.2 v0 9 = true then (pv_tV (pM X m_Tp_readWord [.ref v0] q5.2)).bind (fun h13 => f_Tp_advance_120 X v0 v1 h13) else none))) else (pv_fp h1 v0 9 5 (.int 0)).bind (fun h14 => f_Tp_advance_120 X v0 v1 h14))) := by
  show pS X 13 (none) k_Tp_advance 31 [some (.ref v0), some (.int v1)] [] h = _
  refine (ss_aload_n rfl rfl).trans ?_
  refine (ss_iload_n rfl rfl).trans ?_
  refine (ss_putI rfl).trans ?_
  refine congrArg (Option.bind _) (funext fun h1 => ?_)
  refine (ss_iload_n rfl rfl).trans ?_
  refine (ss_aload_n rfl rfl).trans ?_
  refine (ss_getI rfl).trans ?_
  refine congrArg (Option.bind _) (funext fun x2 => ?_)
  refine (ss_icmp_lt rfl).trans ?_
  refine pv_ite ?_ ?_
  · refine (ss_aload_n rfl rfl).trans ?_
    refine (ss_getR rfl).trans ?_
    refine congrArg (Option.bind _) (funext fun x3 => ?_)
    refine (ss_iload_n rfl rfl).trans ?_
    refine (ss_caload rfl).trans ?_
    refine congrArg (Option.bind _) (funext fun x4 => ?_)
    refine (ss_callSI (as := [.int x4]) rfl t_Tp_isLetter (by decide) rfl rfl (by decide) (Or.inr rfl) ⟨Nat.le_of_ble_eq_true rfl, Nat.le_of_ble_eq_true rfl⟩).trans ?_
    refine congrArg (Option.bind _) (funext fun q5 => ?_)
    refine (ss_if_eq rfl).trans ?_
    refine pv_ite ?_ ?_
    · refine (ss_aload_n rfl rfl).trans ?_
      refine (ss_getR rfl).trans ?_
      refine congrArg (Option.bind _) (funext fun x6 => ?_)
      refine (ss_iload_n rfl rfl).trans ?_
      refine (ss_caload rfl).trans ?_
      refine congrArg (Option.bind _) (funext fun x7 => ?_)
      refine (ss_callSI (as := [.int x7]) rfl t_Tp_isDigit (by decide) rfl rfl (by decide) (Or.inr rfl) ⟨Nat.le_of_ble_eq_true rfl, Nat.le_of_ble_eq_true rfl⟩).trans ?_
      refine congrArg (Option.bind _) (funext fun q8 => ?_)
      refine (ss_if_eq rfl).trans ?_
      refine pv_ite ?_ ?_
      · refine (ss_aload_n rfl rfl).trans ?_
        refine (ss_ldcs rfl).trans ?_
        refine (ss_aload_n rfl rfl).trans ?_
        refine (ss_getR rfl).trans ?_
        refine congrArg (Option.bind _) (funext fun x9 => ?_)
        refine (ss_iload_n rfl rfl).trans ?_
        refine (ss_caload rfl).trans ?_
        refine congrArg (Option.bind _) (funext fun x10 => ?_)
        refine (ss_extV (as := [.ref (pv_scr + 1 + 0), .int x10]) rfl (by rfl) (by decide) rfl rfl (by simp [Value.category])).trans ?_
        refine congrArg (Option.bind _) (funext fun q11 => ?_)
        refine (ss_if_lt rfl).trans ?_
        refine pv_ite ?_ ?_
        · refine (ss_iconst rfl (v := 4) rfl).trans ?_
          rfl
        · refine (ss_iconst rfl (v := 3) rfl).trans ?_
          refine (ss_goto rfl).trans ?_
          rfl
      · refine (ss_aload_n rfl rfl).trans ?_
        refine (ss_callVN (as := []) rfl t_Tp_readNumber (by decide) rfl rfl (by decide) rfl ⟨Nat.le_of_ble_eq_true rfl, Nat.le_of_ble_eq_true rfl⟩).trans ?_
        refine pv_ite ?_ rfl
        refine congrArg (Option.bind _) (funext fun h12 => ?_)
        refine (ss_goto rfl).trans ?_
        rfl
    · refine (ss_aload_n rfl rfl).trans ?_
      refine (ss_callVN (as := []) rfl t_Tp_readWord (by decide) rfl rfl (by decide) rfl ⟨Nat.le_of_ble_eq_true rfl, Nat.le_of_ble_eq_true rfl⟩).trans ?_
      refine pv_ite ?_ rfl
      refine congrArg (Option.bind _) (funext fun h13 => ?_)
      refine (ss_goto rfl).trans ?_
      rfl
  · refine (ss_aload_n rfl rfl).trans ?_
    refine (ss_iconst rfl (v := 0) rfl).trans ?_
    refine (ss_putI rfl).trans ?_
    refine congrArg (Option.bind _) (funext fun h14 => ?_)
    refine (ss_goto rfl).trans ?_
    rfl
set_option maxRecDepth 8000 in
theorem u_Tp_advance_110 (X : pv_X) (v0 : Nat) (v1 : Int32) (s0 : Int32) (s1 : Nat) (h : pv_H) : f_Tp_advance_110 X v0 v1 s0 s1 h =
    (pv_fp h s1 9 5 (.int s0)).bind (fun h1 => (pv_fp h1 v0 9 7 (.int (v1 + 1))).bind (fun h2 => f_Tp_advance_120 X v0 v1 h2)) := by
  show pS X 13 (none) k_Tp_advance 110 [some (.ref v0), some (.int v1)] [.int s0, .ref s1] h = _
  refine (ss_putI rfl).trans ?_
  refine congrArg (Option.bind _) (funext fun h1 => ?_)
  refine (ss_aload_n rfl rfl).trans ?_
  refine (ss_iload_n rfl rfl).trans ?_
  refine (ss_iconst rfl (v := 1) rfl).trans ?_
  refine (ss_iadd rfl).trans ?_
  refine (ss_putI rfl).trans ?_
  refine congrArg (Option.bind _) (funext fun h2 => ?_)
  rfl
set_option maxRecDepth 8000 in
theorem u_Tp_advance_120 (X : pv_X) (v0 : Nat) (v1 : Int32) (h : pv_H) : f_Tp_advance_120 X v0 v1 h =
    some (none, h) := by
  show pS X 13 (none) k_Tp_advance 120 [some (.ref v0), some (.int v1)] [] h = _
  exact ss_return rfl
theorem e_Tp_advance (X : pv_X) (v0 : Nat) (h : pv_H) : pM X m_Tp_advance [.ref v0] h = f_Tp_advance_0 X v0 h := rfl
noncomputable def f_Tp_readWord_0 (X : pv_X) (v0 : Nat) (h : pv_H) : Option pv_O := pS X 2 (none) k_Tp_readWord 0 [some (.ref v0), none] [] h
noncomputable def f_Tp_readWord_10 (X : pv_X) (v0 : Nat) (v1 : Int32) (h : pv_H) : Option pv_O := pS X 2 (none) k_Tp_readWord 10 [some (.ref v0), some (.int v1)] [] h
noncomputable def f_Tp_readWord_61 (X : pv_X) (v0 : Nat) (v1 : Int32) (h : pv_H) : Option pv_O := pS X 2 (none) k_Tp_readWord 61 [some (.ref v0), some (.int v1)] [] h
noncomputable def f_Tp_readWord_78 (X : pv_X) (v0 : Nat) (v1 : Int32) (s0 : Int32) (s1 : Nat) (h : pv_H) : Option pv_O := pS X 2 (none) k_Tp_readWord 78 [some (.ref v0), some (.int v1)] [.int s0, .ref s1] h
set_option maxRecDepth 8000 in
theorem u_Tp_readWord_0 (X : pv_X) (v0 : Nat) (h : pv_H) : f_Tp_readWord_0 X v0 h =
    (pv_fI h v0 9 6).bind (fun x1 => (pv_fp h v0 9 2 (.long 0)).bind (fun h2 => f_Tp_readWord_10 X v0 x1 h2)) := by
  show pS X 2 (none) k_Tp_readWord 0 [some (.ref v0), none] [] h = _
  refine (ss_aload_n rfl rfl).trans ?_
  refine (ss_getI rfl).trans ?_
  refine congrArg (Option.bind _) (funext fun x1 => ?_)
  refine (ss_istore_n rfl rfl).trans ?_
  refine (ss_aload_n rfl rfl).trans ?_
  refine (ss_lconst rfl (v := 0) rfl).trans ?_
  refine (ss_putJ rfl).trans ?_
  refine congrArg (Option.bind _) (funext fun h2 => ?_)
  rfl
set_option maxRecDepth 8000 in
theorem u_Tp_readWord_10 (X : pv_X) (v0 : Nat) (v1 : Int32) (h : pv_H) : f_Tp_readWord_10 X v0 v1 h =
    (pv_fI h v0 9 1).bind (fun x1 => if x1 ≤ v1 then f_Tp_readWord_61 X v0 v1 h else (pv_fR h v0 9 0).bind (fun x2 => (pv_aI h 0 x2 v1).bind (fun x3 => (pv_tI (pM X m_Tp_isLetter [.int x3] h)).bind (fun q4 => if q4.1 = 0 then f_Tp_readWord_61 X v0 v1 q4.2 else (pv_fJ q4.2 v0 9 2).bind (fun x5 => (pv_fR q4.2 v0 9 0).bind (fun x6 => (pv_aI q4.2 0 x6 v1).bind (fun x7 => (pv_fp q4.2 v0 9 2 (.long ((x5 * 27) + (((x7 - 97) + 1) : Int32).toInt64))).bind (fun h8 => f_Tp_readWord_10 X v0 (v1 + 1) h8)))))))) := by
  show pS X 2 (none) k_Tp_readWord 10 [some (.ref v0), some (.int v1)] [] h = _
  refine (ss_iload_n rfl rfl).trans ?_
  refine (ss_aload_n rfl rfl).trans ?_
  refine (ss_getI rfl).trans ?_
  refine congrArg (Option.bind _) (funext fun x1 => ?_)
  refine (ss_icmp_ge rfl).trans ?_
  refine pv_ite ?_ ?_
  · rfl
  · refine (ss_aload_n rfl rfl).trans ?_
    refine (ss_getR rfl).trans ?_
    refine congrArg (Option.bind _) (funext fun x2 => ?_)
    refine (ss_iload_n rfl rfl).trans ?_
    refine (ss_caload rfl).trans ?_
    refine congrArg (Option.bind _) (funext fun x3 => ?_)
    refine (ss_callSI (as := [.int x3]) rfl t_Tp_isLetter (by decide) rfl rfl (by decide) (Or.inr rfl) ⟨Nat.le_of_ble_eq_true rfl, Nat.le_of_ble_eq_true rfl⟩).trans ?_
    refine congrArg (Option.bind _) (funext fun q4 => ?_)
    refine (ss_if_eq rfl).trans ?_
    refine pv_ite ?_ ?_
    · rfl
    · refine (ss_aload_n rfl rfl).trans ?_
      refine (ss_aload_n rfl rfl).trans ?_
      refine (ss_getJ rfl).trans ?_
      refine congrArg (Option.bind _) (funext fun x5 => ?_)
      refine (ss_ldc2_w rfl (v := 27) rfl).trans ?_
      refine (ss_lmul rfl).trans ?_
      refine (ss_aload_n rfl rfl).trans ?_
      refine (ss_getR rfl).trans ?_
      refine congrArg (Option.bind _) (funext fun x6 => ?_)
      refine (ss_iload_n rfl rfl).trans ?_
      refine (ss_caload rfl).trans ?_
      refine congrArg (Option.bind _) (funext fun x7 => ?_)
      refine (ss_bipush rfl (v := 97) rfl).trans ?_
      refine (ss_isub rfl).trans ?_
      refine (ss_iconst rfl (v := 1) rfl).trans ?_
      refine (ss_iadd rfl).trans ?_
      refine (ss_i2l rfl).trans ?_
      refine (ss_ladd rfl).trans ?_
      refine (ss_putJ rfl).trans ?_
      refine congrArg (Option.bind _) (funext fun h8 => ?_)
      refine (ss_iinc3 rfl rfl (v := v1 + 1) (congrArg (HAdd.hAdd _) (show Int32.ofInt (1) = 1 by decide)) rfl).trans ?_
      refine (ss_goto rfl).trans ?_
      rfl
set_option maxRecDepth 8000 in
theorem u_Tp_readWord_61 (X : pv_X) (v0 : Nat) (v1 : Int32) (h : pv_H) : f_Tp_readWord_61 X v0 v1 h =
    (pv_fI h v0 9 6).bind (fun x1 => if 8 < (v1 - x1) then f_Tp_readWord_78 X v0 v1 4 v0 h else f_Tp_readWord_78 X v0 v1 1 v0 h) := by
  show pS X 2 (none) k_Tp_readWord 61 [some (.ref v0), some (.int v1)] [] h = _
  refine (ss_aload_n rfl rfl).trans ?_
  refine (ss_iload_n rfl rfl).trans ?_
  refine (ss_aload_n rfl rfl).trans ?_
  refine (ss_getI rfl).trans ?_
  refine congrArg (Option.bind _) (funext fun x1 => ?_)
  refine (ss_isub rfl).trans ?_
  refine (ss_bipush rfl (v := 8) rfl).trans ?_
  refine (ss_icmp_gt rfl).trans ?_
  refine pv_ite ?_ ?_
  · refine (ss_iconst rfl (v := 4) rfl).trans ?_
    rfl
  · refine (ss_iconst rfl (v := 1) rfl).trans ?_
    refine (ss_goto rfl).trans ?_
    rfl
set_option maxRecDepth 8000 in
theorem u_Tp_readWord_78 (X : pv_X) (v0 : Nat) (v1 : Int32) (s0 : Int32) (s1 : Nat) (h : pv_H) : f_Tp_readWord_78 X v0 v1 s0 s1 h =
    (pv_fp h s1 9 5 (.int s0)).bind (fun h1 => (pv_fp h1 v0 9 7 (.int v1)).bind (fun h2 => some (none, h2))) := by
  show pS X 2 (none) k_Tp_readWord 78 [some (.ref v0), some (.int v1)] [.int s0, .ref s1] h = _
  refine (ss_putI rfl).trans ?_
  refine congrArg (Option.bind _) (funext fun h1 => ?_)
  refine (ss_aload_n rfl rfl).trans ?_
  refine (ss_iload_n rfl rfl).trans ?_
  refine (ss_putI rfl).trans ?_
  refine congrArg (Option.bind _) (funext fun h2 => ?_)
  exact ss_return rfl
theorem e_Tp_readWord (X : pv_X) (v0 : Nat) (h : pv_H) : pM X m_Tp_readWord [.ref v0] h = f_Tp_readWord_0 X v0 h := rfl
noncomputable def f_Tp_readNumber_0 (X : pv_X) (v0 : Nat) (h : pv_H) : Option pv_O := pS X 2 (none) k_Tp_readNumber 0 [some (.ref v0), none] [] h
noncomputable def f_Tp_readNumber_10 (X : pv_X) (v0 : Nat) (v1 : Int32) (h : pv_H) : Option pv_O := pS X 2 (none) k_Tp_readNumber 10 [some (.ref v0), some (.int v1)] [] h
noncomputable def f_Tp_readNumber_57 (X : pv_X) (v0 : Nat) (v1 : Int32) (h : pv_H) : Option pv_O := pS X 2 (none) k_Tp_readNumber 57 [some (.ref v0), some (.int v1)] [] h
noncomputable def f_Tp_readNumber_73 (X : pv_X) (v0 : Nat) (v1 : Int32) (s0 : Int32) (s1 : Nat) (h : pv_H) : Option pv_O := pS X 2 (none) k_Tp_readNumber 73 [some (.ref v0), some (.int v1)] [.int s0, .ref s1] h
set_option maxRecDepth 8000 in
theorem u_Tp_readNumber_0 (X : pv_X) (v0 : Nat) (h : pv_H) : f_Tp_readNumber_0 X v0 h =
    (pv_fI h v0 9 6).bind (fun x1 => (pv_fp h v0 9 3 (.int 0)).bind (fun h2 => f_Tp_readNumber_10 X v0 x1 h2)) := by
  show pS X 2 (none) k_Tp_readNumber 0 [some (.ref v0), none] [] h = _
  refine (ss_aload_n rfl rfl).trans ?_
  refine (ss_getI rfl).trans ?_
  refine congrArg (Option.bind _) (funext fun x1 => ?_)
  refine (ss_istore_n rfl rfl).trans ?_
  refine (ss_aload_n rfl rfl).trans ?_
  refine (ss_iconst rfl (v := 0) rfl).trans ?_
  refine (ss_putI rfl).trans ?_
  refine congrArg (Option.bind _) (funext fun h2 => ?_)
  rfl
set_option maxRecDepth 8000 in
theorem u_Tp_readNumber_10 (X : pv_X) (v0 : Nat) (v1 : Int32) (h : pv_H) : f_Tp_readNumber_10 X v0 v1 h =
    (pv_fI h v0 9 1).bind (fun x1 => if x1 ≤ v1 then f_Tp_readNumber_57 X v0 v1 h else (pv_fR h v0 9 0).bind (fun x2 => (pv_aI h 0 x2 v1).bind (fun x3 => (pv_tI (pM X m_Tp_isDigit [.int x3] h)).bind (fun q4 => if q4.1 = 0 then f_Tp_readNumber_57 X v0 v1 q4.2 else (pv_fI q4.2 v0 9 3).bind (fun x5 => (pv_fR q4.2 v0 9 0).bind (fun x6 => (pv_aI q4.2 0 x6 v1).bind (fun x7 => (pv_fp q4.2 v0 9 3 (.int ((x5 * 10) + (x7 - 48)))).bind (fun h8 => f_Tp_readNumber_10 X v0 (v1 + 1) h8)))))))) := by
  show pS X 2 (none) k_Tp_readNumber 10 [some (.ref v0), some (.int v1)] [] h = _
  refine (ss_iload_n rfl rfl).trans ?_
  refine (ss_aload_n rfl rfl).trans ?_
  refine (ss_getI rfl).trans ?_
  refine congrArg (Option.bind _) (funext fun x1 => ?_)
  refine (ss_icmp_ge rfl).trans ?_
  refine pv_ite ?_ ?_
  · rfl
  · refine (ss_aload_n rfl rfl).trans ?_
    refine (ss_getR rfl).trans ?_
    refine congrArg (Option.bind _) (funext fun x2 => ?_)
    refine (ss_iload_n rfl rfl).trans ?_
    refine (ss_caload rfl).trans ?_
    refine congrArg (Option.bind _) (funext fun x3 => ?_)
    refine (ss_callSI (as := [.int x3]) rfl t_Tp_isDigit (by decide) rfl rfl (by decide) (Or.inr rfl) ⟨Nat.le_of_ble_eq_true rfl, Nat.le_of_ble_eq_true rfl⟩).trans ?_
    refine congrArg (Option.bind _) (funext fun q4 => ?_)
    refine (ss_if_eq rfl).trans ?_
    refine pv_ite ?_ ?_
    · rfl
    · refine (ss_aload_n rfl rfl).trans ?_
      refine (ss_aload_n rfl rfl).trans ?_
      refine (ss_getI rfl).trans ?_
      refine congrArg (Option.bind _) (funext fun x5 => ?_)
      refine (ss_bipush rfl (v := 10) rfl).trans ?_
      refine (ss_imul rfl).trans ?_
      refine (ss_aload_n rfl rfl).trans ?_
      refine (ss_getR rfl).trans ?_
      refine congrArg (Option.bind _) (funext fun x6 => ?_)
      refine (ss_iload_n rfl rfl).trans ?_
      refine (ss_caload rfl).trans ?_
      refine congrArg (Option.bind _) (funext fun x7 => ?_)
      refine (ss_bipush rfl (v := 48) rfl).trans ?_
      refine (ss_isub rfl).trans ?_
      refine (ss_iadd rfl).trans ?_
      refine (ss_putI rfl).trans ?_
      refine congrArg (Option.bind _) (funext fun h8 => ?_)
      refine (ss_iinc3 rfl rfl (v := v1 + 1) (congrArg (HAdd.hAdd _) (show Int32.ofInt (1) = 1 by decide)) rfl).trans ?_
      refine (ss_goto rfl).trans ?_
      rfl
set_option maxRecDepth 8000 in
theorem u_Tp_readNumber_57 (X : pv_X) (v0 : Nat) (v1 : Int32) (h : pv_H) : f_Tp_readNumber_57 X v0 v1 h =
    (pv_fI h v0 9 6).bind (fun x1 => if 4 < (v1 - x1) then f_Tp_readNumber_73 X v0 v1 4 v0 h else f_Tp_readNumber_73 X v0 v1 2 v0 h) := by
  show pS X 2 (none) k_Tp_readNumber 57 [some (.ref v0), some (.int v1)] [] h = _
  refine (ss_aload_n rfl rfl).trans ?_
  refine (ss_iload_n rfl rfl).trans ?_
  refine (ss_aload_n rfl rfl).trans ?_
  refine (ss_getI rfl).trans ?_
  refine congrArg (Option.bind _) (funext fun x1 => ?_)
  refine (ss_isub rfl).trans ?_
  refine (ss_iconst rfl (v := 4) rfl).trans ?_
  refine (ss_icmp_gt rfl).trans ?_
  refine pv_ite ?_ ?_
  · refine (ss_iconst rfl (v := 4) rfl).trans ?_
    rfl
  · refine (ss_iconst rfl (v := 2) rfl).trans ?_
    refine (ss_goto rfl).trans ?_
    rfl
set_option maxRecDepth 8000 in
theorem u_Tp_readNumber_73 (X : pv_X) (v0 : Nat) (v1 : Int32) (s0 : Int32) (s1 : Nat) (h : pv_H) : f_Tp_readNumber_73 X v0 v1 s0 s1 h =
    (pv_fp h s1 9 5 (.int s0)).bind (fun h1 => (pv_fp h1 v0 9 7 (.int v1)).bind (fun h2 => some (none, h2))) := by
  show pS X 2 (none) k_Tp_readNumber 73 [some (.ref v0), some (.int v1)] [.int s0, .ref s1] h = _
  refine (ss_putI rfl).trans ?_
  refine congrArg (Option.bind _) (funext fun h1 => ?_)
  refine (ss_aload_n rfl rfl).trans ?_
  refine (ss_iload_n rfl rfl).trans ?_
  refine (ss_putI rfl).trans ?_
  refine congrArg (Option.bind _) (funext fun h2 => ?_)
  exact ss_return rfl
theorem e_Tp_readNumber (X : pv_X) (v0 : Nat) (h : pv_H) : pM X m_Tp_readNumber [.ref v0] h = f_Tp_readNumber_0 X v0 h := rfl
noncomputable def f_Tp_isBlank_0 (X : pv_X) (v0 : Int32) (h : pv_H) : Option pv_O := pS X 1 (some .boolean) k_Tp_isBlank 0 [some (.int v0)] [] h
noncomputable def f_Tp_isBlank_12 (X : pv_X) (v0 : Int32) (h : pv_H) : Option pv_O := pS X 1 (some .boolean) k_Tp_isBlank 12 [some (.int v0)] [] h
noncomputable def f_Tp_isBlank_17 (X : pv_X) (v0 : Int32) (s0 : Int32) (h : pv_H) : Option pv_O := pS X 1 (some .boolean) k_Tp_isBlank 17 [some (.int v0)] [.int s0] h
set_option maxRecDepth 8000 in
theorem u_Tp_isBlank_0 (X : pv_X) (v0 : Int32) (h : pv_H) : f_Tp_isBlank_0 X v0 h =
    if v0 = 10 then f_Tp_isBlank_12 X v0 h else if ¬ v0 = 32 then f_Tp_isBlank_17 X v0 0 h else f_Tp_isBlank_12 X v0 h := by
  show pS X 1 (some .boolean) k_Tp_isBlank 0 [some (.int v0)] [] h = _
  refine (ss_iload_n rfl rfl).trans ?_
  refine (ss_bipush rfl (v := 10) rfl).trans ?_
  refine (ss_icmp_eq rfl).trans ?_
  refine pv_ite ?_ ?_
  · rfl
  · refine (ss_iload_n rfl rfl).trans ?_
    refine (ss_bipush rfl (v := 32) rfl).trans ?_
    refine (ss_icmp_ne rfl).trans ?_
    refine pv_ite ?_ ?_
    · refine (ss_iconst rfl (v := 0) rfl).trans ?_
      rfl
    · rfl
set_option maxRecDepth 8000 in
theorem u_Tp_isBlank_12 (X : pv_X) (v0 : Int32) (h : pv_H) : f_Tp_isBlank_12 X v0 h =
    f_Tp_isBlank_17 X v0 1 h := by
  show pS X 1 (some .boolean) k_Tp_isBlank 12 [some (.int v0)] [] h = _
  refine (ss_iconst rfl (v := 1) rfl).trans ?_
  refine (ss_goto rfl).trans ?_
  rfl
set_option maxRecDepth 8000 in
theorem u_Tp_isBlank_17 (X : pv_X) (v0 : Int32) (s0 : Int32) (h : pv_H) : f_Tp_isBlank_17 X v0 s0 h =
    if s0 = 0 ∨ s0 = 1 then some (some (.int s0), h) else none := by
  show pS X 1 (some .boolean) k_Tp_isBlank 17 [some (.int v0)] [.int s0] h = _
  exact ss_zreturn rfl
theorem e_Tp_isBlank (X : pv_X) (v0 : Int32) (h : pv_H) : pM X m_Tp_isBlank [.int v0] h = f_Tp_isBlank_0 X v0 h := rfl
noncomputable def f_Tp_isLetter_0 (X : pv_X) (v0 : Int32) (h : pv_H) : Option pv_O := pS X 1 (some .boolean) k_Tp_isLetter 0 [some (.int v0)] [] h
noncomputable def f_Tp_isLetter_16 (X : pv_X) (v0 : Int32) (h : pv_H) : Option pv_O := pS X 1 (some .boolean) k_Tp_isLetter 16 [some (.int v0)] [] h
noncomputable def f_Tp_isLetter_17 (X : pv_X) (v0 : Int32) (s0 : Int32) (h : pv_H) : Option pv_O := pS X 1 (some .boolean) k_Tp_isLetter 17 [some (.int v0)] [.int s0] h
set_option maxRecDepth 8000 in
theorem u_Tp_isLetter_0 (X : pv_X) (v0 : Int32) (h : pv_H) : f_Tp_isLetter_0 X v0 h =
    if v0 < 97 then f_Tp_isLetter_16 X v0 h else if 122 < v0 then f_Tp_isLetter_16 X v0 h else f_Tp_isLetter_17 X v0 1 h := by
  show pS X 1 (some .boolean) k_Tp_isLetter 0 [some (.int v0)] [] h = _
  refine (ss_iload_n rfl rfl).trans ?_
  refine (ss_bipush rfl (v := 97) rfl).trans ?_
  refine (ss_icmp_lt rfl).trans ?_
  refine pv_ite ?_ ?_
  · rfl
  · refine (ss_iload_n rfl rfl).trans ?_
    refine (ss_bipush rfl (v := 122) rfl).trans ?_
    refine (ss_icmp_gt rfl).trans ?_
    refine pv_ite ?_ ?_
    · rfl
    · refine (ss_iconst rfl (v := 1) rfl).trans ?_
      refine (ss_goto rfl).trans ?_
      rfl
set_option maxRecDepth 8000 in
theorem u_Tp_isLetter_16 (X : pv_X) (v0 : Int32) (h : pv_H) : f_Tp_isLetter_16 X v0 h =
    f_Tp_isLetter_17 X v0 0 h := by
  show pS X 1 (some .boolean) k_Tp_isLetter 16 [some (.int v0)] [] h = _
  refine (ss_iconst rfl (v := 0) rfl).trans ?_
  rfl
set_option maxRecDepth 8000 in
theorem u_Tp_isLetter_17 (X : pv_X) (v0 : Int32) (s0 : Int32) (h : pv_H) : f_Tp_isLetter_17 X v0 s0 h =
    if s0 = 0 ∨ s0 = 1 then some (some (.int s0), h) else none := by
  show pS X 1 (some .boolean) k_Tp_isLetter 17 [some (.int v0)] [.int s0] h = _
  exact ss_zreturn rfl
theorem e_Tp_isLetter (X : pv_X) (v0 : Int32) (h : pv_H) : pM X m_Tp_isLetter [.int v0] h = f_Tp_isLetter_0 X v0 h := rfl
noncomputable def f_Tp_isDigit_0 (X : pv_X) (v0 : Int32) (h : pv_H) : Option pv_O := pS X 1 (some .boolean) k_Tp_isDigit 0 [some (.int v0)] [] h
noncomputable def f_Tp_isDigit_16 (X : pv_X) (v0 : Int32) (h : pv_H) : Option pv_O := pS X 1 (some .boolean) k_Tp_isDigit 16 [some (.int v0)] [] h
noncomputable def f_Tp_isDigit_17 (X : pv_X) (v0 : Int32) (s0 : Int32) (h : pv_H) : Option pv_O := pS X 1 (some .boolean) k_Tp_isDigit 17 [some (.int v0)] [.int s0] h
set_option maxRecDepth 8000 in
theorem u_Tp_isDigit_0 (X : pv_X) (v0 : Int32) (h : pv_H) : f_Tp_isDigit_0 X v0 h =
    if v0 < 48 then f_Tp_isDigit_16 X v0 h else if 57 < v0 then f_Tp_isDigit_16 X v0 h else f_Tp_isDigit_17 X v0 1 h := by
  show pS X 1 (some .boolean) k_Tp_isDigit 0 [some (.int v0)] [] h = _
  refine (ss_iload_n rfl rfl).trans ?_
  refine (ss_bipush rfl (v := 48) rfl).trans ?_
  refine (ss_icmp_lt rfl).trans ?_
  refine pv_ite ?_ ?_
  · rfl
  · refine (ss_iload_n rfl rfl).trans ?_
    refine (ss_bipush rfl (v := 57) rfl).trans ?_
    refine (ss_icmp_gt rfl).trans ?_
    refine pv_ite ?_ ?_
    · rfl
    · refine (ss_iconst rfl (v := 1) rfl).trans ?_
      refine (ss_goto rfl).trans ?_
      rfl
set_option maxRecDepth 8000 in
theorem u_Tp_isDigit_16 (X : pv_X) (v0 : Int32) (h : pv_H) : f_Tp_isDigit_16 X v0 h =
    f_Tp_isDigit_17 X v0 0 h := by
  show pS X 1 (some .boolean) k_Tp_isDigit 16 [some (.int v0)] [] h = _
  refine (ss_iconst rfl (v := 0) rfl).trans ?_
  rfl
set_option maxRecDepth 8000 in
theorem u_Tp_isDigit_17 (X : pv_X) (v0 : Int32) (s0 : Int32) (h : pv_H) : f_Tp_isDigit_17 X v0 s0 h =
    if s0 = 0 ∨ s0 = 1 then some (some (.int s0), h) else none := by
  show pS X 1 (some .boolean) k_Tp_isDigit 17 [some (.int v0)] [.int s0] h = _
  exact ss_zreturn rfl
theorem e_Tp_isDigit (X : pv_X) (v0 : Int32) (h : pv_H) : pM X m_Tp_isDigit [.int v0] h = f_Tp_isDigit_0 X v0 h := rfl
noncomputable def f_Tp_isEnd_0 (X : pv_X) (v0 : Nat) (h : pv_H) : Option pv_O := pS X 1 (some .boolean) k_Tp_isEnd 0 [some (.ref v0)] [] h
noncomputable def f_Tp_isEnd_12 (X : pv_X) (v0 : Nat) (s0 : Int32) (h : pv_H) : Option pv_O := pS X 1 (some .boolean) k_Tp_isEnd 12 [some (.ref v0)] [.int s0] h
set_option maxRecDepth 8000 in
theorem u_Tp_isEnd_0 (X : pv_X) (v0 : Nat) (h : pv_H) : f_Tp_isEnd_0 X v0 h =
    (pv_fI h v0 9 5).bind (fun x1 => if ¬ x1 = 0 then f_Tp_isEnd_12 X v0 0 h else f_Tp_isEnd_12 X v0 1 h) := by
  show pS X 1 (some .boolean) k_Tp_isEnd 0 [some (.ref v0)] [] h = _
  refine (ss_aload_n rfl rfl).trans ?_
  refine (ss_getI rfl).trans ?_
  refine congrArg (Option.bind _) (funext fun x1 => ?_)
  refine (ss_if_ne rfl).trans ?_
  refine pv_ite ?_ ?_
  · refine (ss_iconst rfl (v := 0) rfl).trans ?_
    rfl
  · refine (ss_iconst rfl (v := 1) rfl).trans ?_
    refine (ss_goto rfl).trans ?_
    rfl
set_option maxRecDepth 8000 in
theorem u_Tp_isEnd_12 (X : pv_X) (v0 : Nat) (s0 : Int32) (h : pv_H) : f_Tp_isEnd_12 X v0 s0 h =
    if s0 = 0 ∨ s0 = 1 then some (some (.int s0), h) else none := by
  show pS X 1 (some .boolean) k_Tp_isEnd 12 [some (.ref v0)] [.int s0] h = _
  exact ss_zreturn rfl
theorem e_Tp_isEnd (X : pv_X) (v0 : Nat) (h : pv_H) : pM X m_Tp_isEnd [.ref v0] h = f_Tp_isEnd_0 X v0 h := rfl
noncomputable def f_Tp_isNumber_0 (X : pv_X) (v0 : Nat) (h : pv_H) : Option pv_O := pS X 1 (some .boolean) k_Tp_isNumber 0 [some (.ref v0)] [] h
noncomputable def f_Tp_isNumber_13 (X : pv_X) (v0 : Nat) (s0 : Int32) (h : pv_H) : Option pv_O := pS X 1 (some .boolean) k_Tp_isNumber 13 [some (.ref v0)] [.int s0] h
set_option maxRecDepth 8000 in
theorem u_Tp_isNumber_0 (X : pv_X) (v0 : Nat) (h : pv_H) : f_Tp_isNumber_0 X v0 h =
    (pv_fI h v0 9 5).bind (fun x1 => if ¬ x1 = 2 then f_Tp_isNumber_13 X v0 0 h else f_Tp_isNumber_13 X v0 1 h) := by
  show pS X 1 (some .boolean) k_Tp_isNumber 0 [some (.ref v0)] [] h = _
  refine (ss_aload_n rfl rfl).trans ?_
  refine (ss_getI rfl).trans ?_
  refine congrArg (Option.bind _) (funext fun x1 => ?_)
  refine (ss_iconst rfl (v := 2) rfl).trans ?_
  refine (ss_icmp_ne rfl).trans ?_
  refine pv_ite ?_ ?_
  · refine (ss_iconst rfl (v := 0) rfl).trans ?_
    rfl
  · refine (ss_iconst rfl (v := 1) rfl).trans ?_
    refine (ss_goto rfl).trans ?_
    rfl
set_option maxRecDepth 8000 in
theorem u_Tp_isNumber_13 (X : pv_X) (v0 : Nat) (s0 : Int32) (h : pv_H) : f_Tp_isNumber_13 X v0 s0 h =
    if s0 = 0 ∨ s0 = 1 then some (some (.int s0), h) else none := by
  show pS X 1 (some .boolean) k_Tp_isNumber 13 [some (.ref v0)] [.int s0] h = _
  exact ss_zreturn rfl
theorem e_Tp_isNumber (X : pv_X) (v0 : Nat) (h : pv_H) : pM X m_Tp_isNumber [.ref v0] h = f_Tp_isNumber_0 X v0 h := rfl
noncomputable def f_Tp_isSign_0 (X : pv_X) (v0 : Nat) (v1 : Int32) (h : pv_H) : Option pv_O := pS X 1 (some .boolean) k_Tp_isSign 0 [some (.ref v0), some (.int v1)] [] h
noncomputable def f_Tp_isSign_36 (X : pv_X) (v0 : Nat) (v1 : Int32) (h : pv_H) : Option pv_O := pS X 1 (some .boolean) k_Tp_isSign 36 [some (.ref v0), some (.int v1)] [] h
noncomputable def f_Tp_isSign_37 (X : pv_X) (v0 : Nat) (v1 : Int32) (s0 : Int32) (h : pv_H) : Option pv_O := pS X 1 (some .boolean) k_Tp_isSign 37 [some (.ref v0), some (.int v1)] [.int s0] h
set_option maxRecDepth 8000 in
theorem u_Tp_isSign_0 (X : pv_X) (v0 : Nat) (v1 : Int32) (h : pv_H) : f_Tp_isSign_0 X v0 v1 h =
    (pv_fI h v0 9 5).bind (fun x1 => if ¬ x1 = 3 then f_Tp_isSign_36 X v0 v1 h else (pv_fI h v0 9 6).bind (fun x2 => (pv_fI h v0 9 1).bind (fun x3 => if x3 ≤ x2 then f_Tp_isSign_36 X v0 v1 h else (pv_fR h v0 9 0).bind (fun x4 => (pv_fI h v0 9 6).bind (fun x5 => (pv_aI h 0 x4 x5).bind (fun x6 => if ¬ x6 = v1 then f_Tp_isSign_36 X v0 v1 h else f_Tp_isSign_37 X v0 v1 1 h)))))) := by
  show pS X 1 (some .boolean) k_Tp_isSign 0 [some (.ref v0), some (.int v1)] [] h = _
  refine (ss_aload_n rfl rfl).trans ?_
  refine (ss_getI rfl).trans ?_
  refine congrArg (Option.bind _) (funext fun x1 => ?_)
  refine (ss_iconst rfl (v := 3) rfl).trans ?_
  refine (ss_icmp_ne rfl).trans ?_
  refine pv_ite ?_ ?_
  · rfl
  · refine (ss_aload_n rfl rfl).trans ?_
    refine (ss_getI rfl).trans ?_
    refine congrArg (Option.bind _) (funext fun x2 => ?_)
    refine (ss_aload_n rfl rfl).trans ?_
    refine (ss_getI rfl).trans ?_
    refine congrArg (Option.bind _) (funext fun x3 => ?_)
    refine (ss_icmp_ge rfl).trans ?_
    refine pv_ite ?_ ?_
    · rfl
    · refine (ss_aload_n rfl rfl).trans ?_
      refine (ss_getR rfl).trans ?_
      refine congrArg (Option.bind _) (funext fun x4 => ?_)
      refine (ss_aload_n rfl rfl).trans ?_
      refine (ss_getI rfl).trans ?_
      refine congrArg (Option.bind _) (funext fun x5 => ?_)
      refine (ss_caload rfl).trans ?_
      refine congrArg (Option.bind _) (funext fun x6 => ?_)
      refine (ss_iload_n rfl rfl).trans ?_
      refine (ss_icmp_ne rfl).trans ?_
      refine pv_ite ?_ ?_
      · rfl
      · refine (ss_iconst rfl (v := 1) rfl).trans ?_
        refine (ss_goto rfl).trans ?_
        rfl
set_option maxRecDepth 8000 in
theorem u_Tp_isSign_36 (X : pv_X) (v0 : Nat) (v1 : Int32) (h : pv_H) : f_Tp_isSign_36 X v0 v1 h =
    f_Tp_isSign_37 X v0 v1 0 h := by
  show pS X 1 (some .boolean) k_Tp_isSign 36 [some (.ref v0), some (.int v1)] [] h = _
  refine (ss_iconst rfl (v := 0) rfl).trans ?_
  rfl
set_option maxRecDepth 8000 in
theorem u_Tp_isSign_37 (X : pv_X) (v0 : Nat) (v1 : Int32) (s0 : Int32) (h : pv_H) : f_Tp_isSign_37 X v0 v1 s0 h =
    if s0 = 0 ∨ s0 = 1 then some (some (.int s0), h) else none := by
  show pS X 1 (some .boolean) k_Tp_isSign 37 [some (.ref v0), some (.int v1)] [.int s0] h = _
  exact ss_zreturn rfl
theorem e_Tp_isSign (X : pv_X) (v0 : Nat) (v1 : Int32) (h : pv_H) : pM X m_Tp_isSign [.ref v0, .int v1] h = f_Tp_isSign_0 X v0 v1 h := rfl
noncomputable def f_Tp_isWord_0 (X : pv_X) (v0 : Nat) (v1 : Nat) (h : pv_H) : Option pv_O := pS X 13 (some .boolean) k_Tp_isWord 0 [some (.ref v0), some (.ref v1), none] [] h
noncomputable def f_Tp_isWord_24 (X : pv_X) (v0 : Nat) (v1 : Nat) (h : pv_H) : Option pv_O := pS X 13 (some .boolean) k_Tp_isWord 24 [some (.ref v0), some (.ref v1), none] [] h
noncomputable def f_Tp_isWord_28 (X : pv_X) (v0 : Nat) (v1 : Nat) (v2 : Int32) (h : pv_H) : Option pv_O := pS X 13 (some .boolean) k_Tp_isWord 28 [some (.ref v0), some (.ref v1), some (.int v2)] [] h
noncomputable def f_Tp_isWord_76 (X : pv_X) (v0 : Nat) (v1 : Nat) (v2 : Int32) (h : pv_H) : Option pv_O := pS X 13 (some .boolean) k_Tp_isWord 76 [some (.ref v0), some (.ref v1), some (.int v2)] [] h
set_option maxRecDepth 8000 in
theorem u_Tp_isWord_0 (X : pv_X) (v0 : Nat) (v1 : Nat) (h : pv_H) : f_Tp_isWord_0 X v0 v1 h =
    (pv_fI h v0 9 5).bind (fun x1 => if ¬ x1 = 1 then f_Tp_isWord_24 X v0 v1 h else (pv_fI h v0 9 7).bind (fun x2 => (pv_fI h v0 9 6).bind (fun x3 => (pv_tI (pv_ext 900 [.ref v1] h)).bind (fun q4 => if (x2 - x3) = q4.1 then f_Tp_isWord_28 X v0 v1 0 q4.2 else f_Tp_isWord_24 X v0 v1 q4.2)))) := by
  show pS X 13 (some .boolean) k_Tp_isWord 0 [some (.ref v0), some (.ref v1), none] [] h = _
  refine (ss_aload_n rfl rfl).trans ?_
  refine (ss_getI rfl).trans ?_
  refine congrArg (Option.bind _) (funext fun x1 => ?_)
  refine (ss_iconst rfl (v := 1) rfl).trans ?_
  refine (ss_icmp_ne rfl).trans ?_
  refine pv_ite ?_ ?_
  · rfl
  · refine (ss_aload_n rfl rfl).trans ?_
    refine (ss_getI rfl).trans ?_
    refine congrArg (Option.bind _) (funext fun x2 => ?_)
    refine (ss_aload_n rfl rfl).trans ?_
    refine (ss_getI rfl).trans ?_
    refine congrArg (Option.bind _) (funext fun x3 => ?_)
    refine (ss_isub rfl).trans ?_
    refine (ss_aload_n rfl rfl).trans ?_
    refine (ss_extV (as := [.ref v1]) rfl (by rfl) (by decide) rfl rfl (by simp [Value.category])).trans ?_
    refine congrArg (Option.bind _) (funext fun q4 => ?_)
    refine (ss_icmp_eq rfl).trans ?_
    refine pv_ite ?_ ?_
    · refine (ss_iconst rfl (v := 0) rfl).trans ?_
      refine (ss_istore_n rfl rfl).trans ?_
      rfl
    · rfl
set_option maxRecDepth 8000 in
theorem u_Tp_isWord_24 (X : pv_X) (v0 : Nat) (v1 : Nat) (h : pv_H) : f_Tp_isWord_24 X v0 v1 h =
    some (some (.int 0), h) := by
  show pS X 13 (some .boolean) k_Tp_isWord 24 [some (.ref v0), some (.ref v1), none] [] h = _
  refine (ss_iconst rfl (v := 0) rfl).trans ?_
  exact (ss_zreturn rfl).trans (if_pos (by decide))
set_option maxRecDepth 8000 in
theorem u_Tp_isWord_28 (X : pv_X) (v0 : Nat) (v1 : Nat) (v2 : Int32) (h : pv_H) : f_Tp_isWord_28 X v0 v1 v2 h =
    (pv_tI (pv_ext 900 [.ref v1] h)).bind (fun q1 => if q1.1 ≤ v2 then f_Tp_isWord_76 X v0 v1 v2 q1.2 else (pv_fI q1.2 v0 9 6).bind (fun x2 => (pv_fI q1.2 v0 9 1).bind (fun x3 => if x3 ≤ (x2 + v2) then f_Tp_isWord_76 X v0 v1 v2 q1.2 else (pv_fR q1.2 v0 9 0).bind (fun x4 => (pv_fI q1.2 v0 9 6).bind (fun x5 => (pv_aI q1.2 0 x4 (x5 + v2)).bind (fun x6 => (pv_tI (pv_ext 901 [.ref v1, .int v2] q1.2)).bind (fun q7 => if x6 = q7.1 then f_Tp_isWord_28 X v0 v1 (v2 + 1) q7.2 else some (some (.int 0), q7.2)))))))) := by
  show pS X 13 (some .boolean) k_Tp_isWord 28 [some (.ref v0), some (.ref v1), some (.int v2)] [] h = _
  refine (ss_iload_n rfl rfl).trans ?_
  refine (ss_aload_n rfl rfl).trans ?_
  refine (ss_extV (as := [.ref v1]) rfl (by rfl) (by decide) rfl rfl (by simp [Value.category])).trans ?_
  refine congrArg (Option.bind _) (funext fun q1 => ?_)
  refine (ss_icmp_ge rfl).trans ?_
  refine pv_ite ?_ ?_
  · rfl
  · refine (ss_aload_n rfl rfl).trans ?_
    refine (ss_getI rfl).trans ?_
    refine congrArg (Option.bind _) (funext fun x2 => ?_)
    refine (ss_iload_n rfl rfl).trans ?_
    refine (ss_iadd rfl).trans ?_
    refine (ss_aload_n rfl rfl).trans ?_
    refine (ss_getI rfl).trans ?_
    refine congrArg (Option.bind _) (funext fun x3 => ?_)
    refine (ss_icmp_ge rfl).trans ?_
    refine pv_ite ?_ ?_
    · rfl
    · refine (ss_aload_n rfl rfl).trans ?_
      refine (ss_getR rfl).trans ?_
      refine congrArg (Option.bind _) (funext fun x4 => ?_)
      refine (ss_aload_n rfl rfl).trans ?_
      refine (ss_getI rfl).trans ?_
      refine congrArg (Option.bind _) (funext fun x5 => ?_)
      refine (ss_iload_n rfl rfl).trans ?_
      refine (ss_iadd rfl).trans ?_
      refine (ss_caload rfl).trans ?_
      refine congrArg (Option.bind _) (funext fun x6 => ?_)
      refine (ss_aload_n rfl rfl).trans ?_
      refine (ss_iload_n rfl rfl).trans ?_
      refine (ss_extV (as := [.ref v1, .int v2]) rfl (by rfl) (by decide) rfl rfl (by simp [Value.category])).trans ?_
      refine congrArg (Option.bind _) (funext fun q7 => ?_)
      refine (ss_icmp_eq rfl).trans ?_
      refine pv_ite ?_ ?_
      · refine (ss_iinc3 rfl rfl (v := v2 + 1) (congrArg (HAdd.hAdd _) (show Int32.ofInt (1) = 1 by decide)) rfl).trans ?_
        refine (ss_goto rfl).trans ?_
        rfl
      · refine (ss_iconst rfl (v := 0) rfl).trans ?_
        exact (ss_zreturn rfl).trans (if_pos (by decide))
set_option maxRecDepth 8000 in
theorem u_Tp_isWord_76 (X : pv_X) (v0 : Nat) (v1 : Nat) (v2 : Int32) (h : pv_H) : f_Tp_isWord_76 X v0 v1 v2 h =
    some (some (.int 1), h) := by
  show pS X 13 (some .boolean) k_Tp_isWord 76 [some (.ref v0), some (.ref v1), some (.int v2)] [] h = _
  refine (ss_iconst rfl (v := 1) rfl).trans ?_
  exact (ss_zreturn rfl).trans (if_pos (by decide))
theorem e_Tp_isWord (X : pv_X) (v0 : Nat) (v1 : Nat) (h : pv_H) : pM X m_Tp_isWord [.ref v0, .ref v1] h = f_Tp_isWord_0 X v0 v1 h := rfl
noncomputable def f_Tp_isName_0 (X : pv_X) (v0 : Nat) (h : pv_H) : Option pv_O := pS X 15 (some .boolean) k_Tp_isName 0 [some (.ref v0)] [] h
noncomputable def f_Tp_isName_26 (X : pv_X) (v0 : Nat) (h : pv_H) : Option pv_O := pS X 15 (some .boolean) k_Tp_isName 26 [some (.ref v0)] [] h
noncomputable def f_Tp_isName_27 (X : pv_X) (v0 : Nat) (s0 : Int32) (h : pv_H) : Option pv_O := pS X 15 (some .boolean) k_Tp_isName 27 [some (.ref v0)] [.int s0] h
set_option maxRecDepth 8000 in
theorem u_Tp_isName_0 (X : pv_X) (v0 : Nat) (h : pv_H) : f_Tp_isName_0 X v0 h =
    (pv_fI h v0 9 5).bind (fun x1 => if ¬ x1 = 1 then f_Tp_isName_26 X v0 h else if pv_rc h v0 9 = true then (pv_tI (pM X m_Tp_isLineWord [.ref v0] h)).bind (fun q2 => if ¬ q2.1 = 0 then f_Tp_isName_26 X v0 q2.2 else if pv_rc q2.2 v0 9 = true then (pv_tI (pM X m_Tp_isOtherWord [.ref v0] q2.2)).bind (fun q3 => if ¬ q3.1 = 0 then f_Tp_isName_26 X v0 q3.2 else f_Tp_isName_27 X v0 1 q3.2) else none) else none) := by
  show pS X 15 (some .boolean) k_Tp_isName 0 [some (.ref v0)] [] h = _
  refine (ss_aload_n rfl rfl).trans ?_
  refine (ss_getI rfl).trans ?_
  refine congrArg (Option.bind _) (funext fun x1 => ?_)
  refine (ss_iconst rfl (v := 1) rfl).trans ?_
  refine (ss_icmp_ne rfl).trans ?_
  refine pv_ite ?_ ?_
  · rfl
  · refine (ss_aload_n rfl rfl).trans ?_
    refine (ss_callVI (as := []) rfl t_Tp_isLineWord (by decide) rfl rfl (by decide) (Or.inr rfl) ⟨Nat.le_of_ble_eq_true rfl, Nat.le_of_ble_eq_true rfl⟩).trans ?_
    refine pv_ite ?_ rfl
    refine congrArg (Option.bind _) (funext fun q2 => ?_)
    refine (ss_if_ne rfl).trans ?_
    refine pv_ite ?_ ?_
    · rfl
    · refine (ss_aload_n rfl rfl).trans ?_
      refine (ss_callVI (as := []) rfl t_Tp_isOtherWord (by decide) rfl rfl (by decide) (Or.inr rfl) ⟨Nat.le_of_ble_eq_true rfl, Nat.le_of_ble_eq_true rfl⟩).trans ?_
      refine pv_ite ?_ rfl
      refine congrArg (Option.bind _) (funext fun q3 => ?_)
      refine (ss_if_ne rfl).trans ?_
      refine pv_ite ?_ ?_
      · rfl
      · refine (ss_iconst rfl (v := 1) rfl).trans ?_
        refine (ss_goto rfl).trans ?_
        rfl
set_option maxRecDepth 8000 in
theorem u_Tp_isName_26 (X : pv_X) (v0 : Nat) (h : pv_H) : f_Tp_isName_26 X v0 h =
    f_Tp_isName_27 X v0 0 h := by
  show pS X 15 (some .boolean) k_Tp_isName 26 [some (.ref v0)] [] h = _
  refine (ss_iconst rfl (v := 0) rfl).trans ?_
  rfl
set_option maxRecDepth 8000 in
theorem u_Tp_isName_27 (X : pv_X) (v0 : Nat) (s0 : Int32) (h : pv_H) : f_Tp_isName_27 X v0 s0 h =
    if s0 = 0 ∨ s0 = 1 then some (some (.int s0), h) else none := by
  show pS X 15 (some .boolean) k_Tp_isName 27 [some (.ref v0)] [.int s0] h = _
  exact ss_zreturn rfl
theorem e_Tp_isName (X : pv_X) (v0 : Nat) (h : pv_H) : pM X m_Tp_isName [.ref v0] h = f_Tp_isName_0 X v0 h := rfl
noncomputable def f_Tp_isLineWord_0 (X : pv_X) (v0 : Nat) (h : pv_H) : Option pv_O := pS X 14 (some .boolean) k_Tp_isLineWord 0 [some (.ref v0)] [] h
noncomputable def f_Tp_isLineWord_72 (X : pv_X) (v0 : Nat) (h : pv_H) : Option pv_O := pS X 14 (some .boolean) k_Tp_isLineWord 72 [some (.ref v0)] [] h
noncomputable def f_Tp_isLineWord_77 (X : pv_X) (v0 : Nat) (s0 : Int32) (h : pv_H) : Option pv_O := pS X 14 (some .boolean) k_Tp_isLineWord 77 [some (.ref v0)] [.int s0] h
set_option maxRecDepth 8000 in
theorem u_Tp_isLineWord_0 (X : pv_X) (v0 : Nat) (h : pv_H) : f_Tp_isLineWord_0 X v0 h =
    if pv_rc h v0 9 = true then (pv_tI (pM X m_Tp_isWord [.ref v0, .ref (pv_scr + 1 + 1)] h)).bind (fun q1 => if ¬ q1.1 = 0 then f_Tp_isLineWord_72 X v0 q1.2 else if pv_rc q1.2 v0 9 = true then (pv_tI (pM X m_Tp_isWord [.ref v0, .ref (pv_scr + 1 + 2)] q1.2)).bind (fun q2 => if ¬ q2.1 = 0 then f_Tp_isLineWord_72 X v0 q2.2 else if pv_rc q2.2 v0 9 = true then (pv_tI (pM X m_Tp_isWord [.ref v0, .ref (pv_scr + 1 + 3)] q2.2)).bind (fun q3 => if ¬ q3.1 = 0 then f_Tp_isLineWord_72 X v0 q3.2 else if pv_rc q3.2 v0 9 = true then (pv_tI (pM X m_Tp_isWord [.ref v0, .ref (pv_scr + 1 + 4)] q3.2)).bind (fun q4 => if ¬ q4.1 = 0 then f_Tp_isLineWord_72 X v0 q4.2 else if pv_rc q4.2 v0 9 = true then (pv_tI (pM X m_Tp_isWord [.ref v0, .ref (pv_scr + 1 + 5)] q4.2)).bind (fun q5 => if ¬ q5.1 = 0 then f_Tp_isLineWord_72 X v0 q5.2 else if pv_rc q5.2 v0 9 = true then (pv_tI (pM X m_Tp_isWord [.ref v0, .ref (pv_scr + 1 + 6)] q5.2)).bind (fun q6 => if ¬ q6.1 = 0 then f_Tp_isLineWord_72 X v0 q6.2 else if pv_rc q6.2 v0 9 = true then (pv_tI (pM X m_Tp_isWord [.ref v0, .ref (pv_scr + 1 + 7)] q6.2)).bind (fun q7 => if ¬ q7.1 = 0 then f_Tp_isLineWord_72 X v0 q7.2 else if pv_rc q7.2 v0 9 = true then (pv_tI (pM X m_Tp_isWord [.ref v0, .ref (pv_scr + 1 + 8)] q7.2)).bind (fun q8 => if q8.1 = 0 then f_Tp_isLineWord_77 X v0 0 q8.2 else f_Tp_isLineWord_72 X v0 q8.2) else none) else none) else none) else none) else none) else none) else none) else none := by
  show pS X 14 (some .boolean) k_Tp_isLineWord 0 [some (.ref v0)] [] h = _
  refine (ss_aload_n rfl rfl).trans ?_
  refine (ss_ldcs rfl).trans ?_
  refine (ss_callVI (as := [.ref (pv_scr + 1 + 1)]) rfl t_Tp_isWord (by decide) rfl rfl (by decide) (Or.inr rfl) ⟨Nat.le_of_ble_eq_true rfl, Nat.le_of_ble_eq_true rfl⟩).trans ?_
  refine pv_ite ?_ rfl
  refine congrArg (Option.bind _) (funext fun q1 => ?_)
  refine (ss_if_ne rfl).trans ?_
  refine pv_ite ?_ ?_
  · rfl
  · refine (ss_aload_n rfl rfl).trans ?_
    refine (ss_ldcs rfl).trans ?_
    refine (ss_callVI (as := [.ref (pv_scr + 1 + 2)]) rfl t_Tp_isWord (by decide) rfl rfl (by decide) (Or.inr rfl) ⟨Nat.le_of_ble_eq_true rfl, Nat.le_of_ble_eq_true rfl⟩).trans ?_
    refine pv_ite ?_ rfl
    refine congrArg (Option.bind _) (funext fun q2 => ?_)
    refine (ss_if_ne rfl).trans ?_
    refine pv_ite ?_ ?_
    · rfl
    · refine (ss_aload_n rfl rfl).trans ?_
      refine (ss_ldcs rfl).trans ?_
      refine (ss_callVI (as := [.ref (pv_scr + 1 + 3)]) rfl t_Tp_isWord (by decide) rfl rfl (by decide) (Or.inr rfl) ⟨Nat.le_of_ble_eq_true rfl, Nat.le_of_ble_eq_true rfl⟩).trans ?_
      refine pv_ite ?_ rfl
      refine congrArg (Option.bind _) (funext fun q3 => ?_)
      refine (ss_if_ne rfl).trans ?_
      refine pv_ite ?_ ?_
      · rfl
      · refine (ss_aload_n rfl rfl).trans ?_
        refine (ss_ldcs rfl).trans ?_
        refine (ss_callVI (as := [.ref (pv_scr + 1 + 4)]) rfl t_Tp_isWord (by decide) rfl rfl (by decide) (Or.inr rfl) ⟨Nat.le_of_ble_eq_true rfl, Nat.le_of_ble_eq_true rfl⟩).trans ?_
        refine pv_ite ?_ rfl
        refine congrArg (Option.bind _) (funext fun q4 => ?_)
        refine (ss_if_ne rfl).trans ?_
        refine pv_ite ?_ ?_
        · rfl
        · refine (ss_aload_n rfl rfl).trans ?_
          refine (ss_ldcs rfl).trans ?_
          refine (ss_callVI (as := [.ref (pv_scr + 1 + 5)]) rfl t_Tp_isWord (by decide) rfl rfl (by decide) (Or.inr rfl) ⟨Nat.le_of_ble_eq_true rfl, Nat.le_of_ble_eq_true rfl⟩).trans ?_
          refine pv_ite ?_ rfl
          refine congrArg (Option.bind _) (funext fun q5 => ?_)
          refine (ss_if_ne rfl).trans ?_
          refine pv_ite ?_ ?_
          · rfl
          · refine (ss_aload_n rfl rfl).trans ?_
            refine (ss_ldcs rfl).trans ?_
            refine (ss_callVI (as := [.ref (pv_scr + 1 + 6)]) rfl t_Tp_isWord (by decide) rfl rfl (by decide) (Or.inr rfl) ⟨Nat.le_of_ble_eq_true rfl, Nat.le_of_ble_eq_true rfl⟩).trans ?_
            refine pv_ite ?_ rfl
            refine congrArg (Option.bind _) (funext fun q6 => ?_)
            refine (ss_if_ne rfl).trans ?_
            refine pv_ite ?_ ?_
            · rfl
            · refine (ss_aload_n rfl rfl).trans ?_
              refine (ss_ldcs rfl).trans ?_
              refine (ss_callVI (as := [.ref (pv_scr + 1 + 7)]) rfl t_Tp_isWord (by decide) rfl rfl (by decide) (Or.inr rfl) ⟨Nat.le_of_ble_eq_true rfl, Nat.le_of_ble_eq_true rfl⟩).trans ?_
              refine pv_ite ?_ rfl
              refine congrArg (Option.bind _) (funext fun q7 => ?_)
              refine (ss_if_ne rfl).trans ?_
              refine pv_ite ?_ ?_
              · rfl
              · refine (ss_aload_n rfl rfl).trans ?_
                refine (ss_ldcs rfl).trans ?_
                refine (ss_callVI (as := [.ref (pv_scr + 1 + 8)]) rfl t_Tp_isWord (by decide) rfl rfl (by decide) (Or.inr rfl) ⟨Nat.le_of_ble_eq_true rfl, Nat.le_of_ble_eq_true rfl⟩).trans ?_
                refine pv_ite ?_ rfl
                refine congrArg (Option.bind _) (funext fun q8 => ?_)
                refine (ss_if_eq rfl).trans ?_
                refine pv_ite ?_ ?_
                · refine (ss_iconst rfl (v := 0) rfl).trans ?_
                  rfl
                · rfl
set_option maxRecDepth 8000 in
theorem u_Tp_isLineWord_72 (X : pv_X) (v0 : Nat) (h : pv_H) : f_Tp_isLineWord_72 X v0 h =
    f_Tp_isLineWord_77 X v0 1 h := by
  show pS X 14 (some .boolean) k_Tp_isLineWord 72 [some (.ref v0)] [] h = _
  refine (ss_iconst rfl (v := 1) rfl).trans ?_
  refine (ss_goto rfl).trans ?_
  rfl
set_option maxRecDepth 8000 in
theorem u_Tp_isLineWord_77 (X : pv_X) (v0 : Nat) (s0 : Int32) (h : pv_H) : f_Tp_isLineWord_77 X v0 s0 h =
    if s0 = 0 ∨ s0 = 1 then some (some (.int s0), h) else none := by
  show pS X 14 (some .boolean) k_Tp_isLineWord 77 [some (.ref v0)] [.int s0] h = _
  exact ss_zreturn rfl
theorem e_Tp_isLineWord (X : pv_X) (v0 : Nat) (h : pv_H) : pM X m_Tp_isLineWord [.ref v0] h = f_Tp_isLineWord_0 X v0 h := rfl
noncomputable def f_Tp_isOtherWord_0 (X : pv_X) (v0 : Nat) (h : pv_H) : Option pv_O := pS X 14 (some .boolean) k_Tp_isOtherWord 0 [some (.ref v0)] [] h
noncomputable def f_Tp_isOtherWord_72 (X : pv_X) (v0 : Nat) (h : pv_H) : Option pv_O := pS X 14 (some .boolean) k_Tp_isOtherWord 72 [some (.ref v0)] [] h
noncomputable def f_Tp_isOtherWord_77 (X : pv_X) (v0 : Nat) (s0 : Int32) (h : pv_H) : Option pv_O := pS X 14 (some .boolean) k_Tp_isOtherWord 77 [some (.ref v0)] [.int s0] h
set_option maxRecDepth 8000 in
theorem u_Tp_isOtherWord_0 (X : pv_X) (v0 : Nat) (h : pv_H) : f_Tp_isOtherWord_0 X v0 h =
    if pv_rc h v0 9 = true then (pv_tI (pM X m_Tp_isWord [.ref v0, .ref (pv_scr + 1 + 9)] h)).bind (fun q1 => if ¬ q1.1 = 0 then f_Tp_isOtherWord_72 X v0 q1.2 else if pv_rc q1.2 v0 9 = true then (pv_tI (pM X m_Tp_isWord [.ref v0, .ref (pv_scr + 1 + 10)] q1.2)).bind (fun q2 => if ¬ q2.1 = 0 then f_Tp_isOtherWord_72 X v0 q2.2 else if pv_rc q2.2 v0 9 = true then (pv_tI (pM X m_Tp_isWord [.ref v0, .ref (pv_scr + 1 + 11)] q2.2)).bind (fun q3 => if ¬ q3.1 = 0 then f_Tp_isOtherWord_72 X v0 q3.2 else if pv_rc q3.2 v0 9 = true then (pv_tI (pM X m_Tp_isWord [.ref v0, .ref (pv_scr + 1 + 12)] q3.2)).bind (fun q4 => if ¬ q4.1 = 0 then f_Tp_isOtherWord_72 X v0 q4.2 else if pv_rc q4.2 v0 9 = true then (pv_tI (pM X m_Tp_isWord [.ref v0, .ref (pv_scr + 1 + 13)] q4.2)).bind (fun q5 => if ¬ q5.1 = 0 then f_Tp_isOtherWord_72 X v0 q5.2 else if pv_rc q5.2 v0 9 = true then (pv_tI (pM X m_Tp_isWord [.ref v0, .ref (pv_scr + 1 + 14)] q5.2)).bind (fun q6 => if ¬ q6.1 = 0 then f_Tp_isOtherWord_72 X v0 q6.2 else if pv_rc q6.2 v0 9 = true then (pv_tI (pM X m_Tp_isWord [.ref v0, .ref (pv_scr + 1 + 15)] q6.2)).bind (fun q7 => if ¬ q7.1 = 0 then f_Tp_isOtherWord_72 X v0 q7.2 else if pv_rc q7.2 v0 9 = true then (pv_tI (pM X m_Tp_isWord [.ref v0, .ref (pv_scr + 1 + 16)] q7.2)).bind (fun q8 => if q8.1 = 0 then f_Tp_isOtherWord_77 X v0 0 q8.2 else f_Tp_isOtherWord_72 X v0 q8.2) else none) else none) else none) else none) else none) else none) else none) else none := by
  show pS X 14 (some .boolean) k_Tp_isOtherWord 0 [some (.ref v0)] [] h = _
  refine (ss_aload_n rfl rfl).trans ?_
  refine (ss_ldcs rfl).trans ?_
  refine (ss_callVI (as := [.ref (pv_scr + 1 + 9)]) rfl t_Tp_isWord (by decide) rfl rfl (by decide) (Or.inr rfl) ⟨Nat.le_of_ble_eq_true rfl, Nat.le_of_ble_eq_true rfl⟩).trans ?_
  refine pv_ite ?_ rfl
  refine congrArg (Option.bind _) (funext fun q1 => ?_)
  refine (ss_if_ne rfl).trans ?_
  refine pv_ite ?_ ?_
  · rfl
  · refine (ss_aload_n rfl rfl).trans ?_
    refine (ss_ldcs rfl).trans ?_
    refine (ss_callVI (as := [.ref (pv_scr + 1 + 10)]) rfl t_Tp_isWord (by decide) rfl rfl (by decide) (Or.inr rfl) ⟨Nat.le_of_ble_eq_true rfl, Nat.le_of_ble_eq_true rfl⟩).trans ?_
    refine pv_ite ?_ rfl
    refine congrArg (Option.bind _) (funext fun q2 => ?_)
    refine (ss_if_ne rfl).trans ?_
    refine pv_ite ?_ ?_
    · rfl
    · refine (ss_aload_n rfl rfl).trans ?_
      refine (ss_ldcs rfl).trans ?_
      refine (ss_callVI (as := [.ref (pv_scr + 1 + 11)]) rfl t_Tp_isWord (by decide) rfl rfl (by decide) (Or.inr rfl) ⟨Nat.le_of_ble_eq_true rfl, Nat.le_of_ble_eq_true rfl⟩).trans ?_
      refine pv_ite ?_ rfl
      refine congrArg (Option.bind _) (funext fun q3 => ?_)
      refine (ss_if_ne rfl).trans ?_
      refine pv_ite ?_ ?_
      · rfl
      · refine (ss_aload_n rfl rfl).trans ?_
        refine (ss_ldcs rfl).trans ?_
        refine (ss_callVI (as := [.ref (pv_scr + 1 + 12)]) rfl t_Tp_isWord (by decide) rfl rfl (by decide) (Or.inr rfl) ⟨Nat.le_of_ble_eq_true rfl, Nat.le_of_ble_eq_true rfl⟩).trans ?_
        refine pv_ite ?_ rfl
        refine congrArg (Option.bind _) (funext fun q4 => ?_)
        refine (ss_if_ne rfl).trans ?_
        refine pv_ite ?_ ?_
        · rfl
        · refine (ss_aload_n rfl rfl).trans ?_
          refine (ss_ldcs rfl).trans ?_
          refine (ss_callVI (as := [.ref (pv_scr + 1 + 13)]) rfl t_Tp_isWord (by decide) rfl rfl (by decide) (Or.inr rfl) ⟨Nat.le_of_ble_eq_true rfl, Nat.le_of_ble_eq_true rfl⟩).trans ?_
          refine pv_ite ?_ rfl
          refine congrArg (Option.bind _) (funext fun q5 => ?_)
          refine (ss_if_ne rfl).trans ?_
          refine pv_ite ?_ ?_
          · rfl
          · refine (ss_aload_n rfl rfl).trans ?_
            refine (ss_ldcs rfl).trans ?_
            refine (ss_callVI (as := [.ref (pv_scr + 1 + 14)]) rfl t_Tp_isWord (by decide) rfl rfl (by decide) (Or.inr rfl) ⟨Nat.le_of_ble_eq_true rfl, Nat.le_of_ble_eq_true rfl⟩).trans ?_
            refine pv_ite ?_ rfl
            refine congrArg (Option.bind _) (funext fun q6 => ?_)
            refine (ss_if_ne rfl).trans ?_
            refine pv_ite ?_ ?_
            · rfl
            · refine (ss_aload_n rfl rfl).trans ?_
              refine (ss_ldcs rfl).trans ?_
              refine (ss_callVI (as := [.ref (pv_scr + 1 + 15)]) rfl t_Tp_isWord (by decide) rfl rfl (by decide) (Or.inr rfl) ⟨Nat.le_of_ble_eq_true rfl, Nat.le_of_ble_eq_true rfl⟩).trans ?_
              refine pv_ite ?_ rfl
              refine congrArg (Option.bind _) (funext fun q7 => ?_)
              refine (ss_if_ne rfl).trans ?_
              refine pv_ite ?_ ?_
              · rfl
              · refine (ss_aload_n rfl rfl).trans ?_
                refine (ss_ldcs rfl).trans ?_
                refine (ss_callVI (as := [.ref (pv_scr + 1 + 16)]) rfl t_Tp_isWord (by decide) rfl rfl (by decide) (Or.inr rfl) ⟨Nat.le_of_ble_eq_true rfl, Nat.le_of_ble_eq_true rfl⟩).trans ?_
                refine pv_ite ?_ rfl
                refine congrArg (Option.bind _) (funext fun q8 => ?_)
                refine (ss_if_eq rfl).trans ?_
                refine pv_ite ?_ ?_
                · refine (ss_iconst rfl (v := 0) rfl).trans ?_
                  rfl
                · rfl
set_option maxRecDepth 8000 in
theorem u_Tp_isOtherWord_72 (X : pv_X) (v0 : Nat) (h : pv_H) : f_Tp_isOtherWord_72 X v0 h =
    f_Tp_isOtherWord_77 X v0 1 h := by
  show pS X 14 (some .boolean) k_Tp_isOtherWord 72 [some (.ref v0)] [] h = _
  refine (ss_iconst rfl (v := 1) rfl).trans ?_
  refine (ss_goto rfl).trans ?_
  rfl
set_option maxRecDepth 8000 in
theorem u_Tp_isOtherWord_77 (X : pv_X) (v0 : Nat) (s0 : Int32) (h : pv_H) : f_Tp_isOtherWord_77 X v0 s0 h =
    if s0 = 0 ∨ s0 = 1 then some (some (.int s0), h) else none := by
  show pS X 14 (some .boolean) k_Tp_isOtherWord 77 [some (.ref v0)] [.int s0] h = _
  exact ss_zreturn rfl
theorem e_Tp_isOtherWord (X : pv_X) (v0 : Nat) (h : pv_H) : pM X m_Tp_isOtherWord [.ref v0] h = f_Tp_isOtherWord_0 X v0 h := rfl
noncomputable def f_Tp_refuse_0 (X : pv_X) (v0 : Nat) (v1 : Int32) (h : pv_H) : Option pv_O := pS X 1 (some .boolean) k_Tp_refuse 0 [some (.ref v0), some (.int v1)] [] h
set_option maxRecDepth 8000 in
theorem u_Tp_refuse_0 (X : pv_X) (v0 : Nat) (v1 : Int32) (h : pv_H) : f_Tp_refuse_0 X v0 v1 h =
    (pv_fI h v0 9 6).bind (fun x1 => (pv_fp h v0 9 4 (.int (v1 + (16 * x1)))).bind (fun h2 => some (some (.int 0), h2))) := by
  show pS X 1 (some .boolean) k_Tp_refuse 0 [some (.ref v0), some (.int v1)] [] h = _
  refine (ss_aload_n rfl rfl).trans ?_
  refine (ss_iload_n rfl rfl).trans ?_
  refine (ss_bipush rfl (v := 16) rfl).trans ?_
  refine (ss_aload_n rfl rfl).trans ?_
  refine (ss_getI rfl).trans ?_
  refine congrArg (Option.bind _) (funext fun x1 => ?_)
  refine (ss_imul rfl).trans ?_
  refine (ss_iadd rfl).trans ?_
  refine (ss_putI rfl).trans ?_
  refine congrArg (Option.bind _) (funext fun h2 => ?_)
  refine (ss_iconst rfl (v := 0) rfl).trans ?_
  exact (ss_zreturn rfl).trans (if_pos (by decide))
theorem e_Tp_refuse (X : pv_X) (v0 : Nat) (v1 : Int32) (h : pv_H) : pM X m_Tp_refuse [.ref v0, .int v1] h = f_Tp_refuse_0 X v0 v1 h := rfl
noncomputable def f_Tp_takeWord_0 (X : pv_X) (v0 : Nat) (v1 : Nat) (h : pv_H) : Option pv_O := pS X 14 (some .boolean) k_Tp_takeWord 0 [some (.ref v0), some (.ref v1)] [] h
set_option maxRecDepth 8000 in
theorem u_Tp_takeWord_0 (X : pv_X) (v0 : Nat) (v1 : Nat) (h : pv_H) : f_Tp_takeWord_0 X v0 v1 h =
    if pv_rc h v0 9 = true then (pv_tI (pM X m_Tp_isWord [.ref v0, .ref v1] h)).bind (fun q1 => if ¬ q1.1 = 0 then if pv_rc q1.2 v0 9 = true then (pv_tV (pM X m_Tp_advance [.ref v0] q1.2)).bind (fun h2 => some (some (.int 1), h2)) else none else if pv_rc q1.2 v0 9 = true then (pv_tI (pM X m_Tp_refuse [.ref v0, .int 1] q1.2)).bind (fun q3 => if q3.1 = 0 ∨ q3.1 = 1 then some (some (.int q3.1), q3.2) else none) else none) else none := by
  show pS X 14 (some .boolean) k_Tp_takeWord 0 [some (.ref v0), some (.ref v1)] [] h = _
  refine (ss_aload_n rfl rfl).trans ?_
  refine (ss_aload_n rfl rfl).trans ?_
  refine (ss_callVI (as := [.ref v1]) rfl t_Tp_isWord (by decide) rfl rfl (by decide) (Or.inr rfl) ⟨Nat.le_of_ble_eq_true rfl, Nat.le_of_ble_eq_true rfl⟩).trans ?_
  refine pv_ite ?_ rfl
  refine congrArg (Option.bind _) (funext fun q1 => ?_)
  refine (ss_if_ne rfl).trans ?_
  refine pv_ite ?_ ?_
  · refine (ss_aload_n rfl rfl).trans ?_
    refine (ss_callVN (as := []) rfl t_Tp_advance (by decide) rfl rfl (by decide) rfl ⟨Nat.le_of_ble_eq_true rfl, Nat.le_of_ble_eq_true rfl⟩).trans ?_
    refine pv_ite ?_ rfl
    refine congrArg (Option.bind _) (funext fun h2 => ?_)
    refine (ss_iconst rfl (v := 1) rfl).trans ?_
    exact (ss_zreturn rfl).trans (if_pos (by decide))
  · refine (ss_aload_n rfl rfl).trans ?_
    refine (ss_iconst rfl (v := 1) rfl).trans ?_
    refine (ss_callVI (as := [.int 1]) rfl t_Tp_refuse (by decide) rfl rfl (by decide) (Or.inr rfl) ⟨Nat.le_of_ble_eq_true rfl, Nat.le_of_ble_eq_true rfl⟩).trans ?_
    refine pv_ite ?_ rfl
    refine congrArg (Option.bind _) (funext fun q3 => ?_)
    exact ss_zreturn rfl
theorem e_Tp_takeWord (X : pv_X) (v0 : Nat) (v1 : Nat) (h : pv_H) : pM X m_Tp_takeWord [.ref v0, .ref v1] h = f_Tp_takeWord_0 X v0 v1 h := rfl
noncomputable def f_Tp_takeSign_0 (X : pv_X) (v0 : Nat) (v1 : Int32) (h : pv_H) : Option pv_O := pS X 14 (some .boolean) k_Tp_takeSign 0 [some (.ref v0), some (.int v1)] [] h
set_option maxRecDepth 8000 in
theorem u_Tp_takeSign_0 (X : pv_X) (v0 : Nat) (v1 : Int32) (h : pv_H) : f_Tp_takeSign_0 X v0 v1 h =
    if pv_rc h v0 9 = true then (pv_tI (pM X m_Tp_isSign [.ref v0, .int v1] h)).bind (fun q1 => if ¬ q1.1 = 0 then if pv_rc q1.2 v0 9 = true then (pv_tV (pM X m_Tp_advance [.ref v0] q1.2)).bind (fun h2 => some (some (.int 1), h2)) else none else if pv_rc q1.2 v0 9 = true then (pv_tI (pM X m_Tp_refuse [.ref v0, .int 1] q1.2)).bind (fun q3 => if q3.1 = 0 ∨ q3.1 = 1 then some (some (.int q3.1), q3.2) else none) else none) else none := by
  show pS X 14 (some .boolean) k_Tp_takeSign 0 [some (.ref v0), some (.int v1)] [] h = _
  refine (ss_aload_n rfl rfl).trans ?_
  refine (ss_iload_n rfl rfl).trans ?_
  refine (ss_callVI (as := [.int v1]) rfl t_Tp_isSign (by decide) rfl rfl (by decide) (Or.inr rfl) ⟨Nat.le_of_ble_eq_true rfl, Nat.le_of_ble_eq_true rfl⟩).trans ?_
  refine pv_ite ?_ rfl
  refine congrArg (Option.bind _) (funext fun q1 => ?_)
  refine (ss_if_ne rfl).trans ?_
  refine pv_ite ?_ ?_
  · refine (ss_aload_n rfl rfl).trans ?_
    refine (ss_callVN (as := []) rfl t_Tp_advance (by decide) rfl rfl (by decide) rfl ⟨Nat.le_of_ble_eq_true rfl, Nat.le_of_ble_eq_true rfl⟩).trans ?_
    refine pv_ite ?_ rfl
    refine congrArg (Option.bind _) (funext fun h2 => ?_)
    refine (ss_iconst rfl (v := 1) rfl).trans ?_
    exact (ss_zreturn rfl).trans (if_pos (by decide))
  · refine (ss_aload_n rfl rfl).trans ?_
    refine (ss_iconst rfl (v := 1) rfl).trans ?_
    refine (ss_callVI (as := [.int 1]) rfl t_Tp_refuse (by decide) rfl rfl (by decide) (Or.inr rfl) ⟨Nat.le_of_ble_eq_true rfl, Nat.le_of_ble_eq_true rfl⟩).trans ?_
    refine pv_ite ?_ rfl
    refine congrArg (Option.bind _) (funext fun q3 => ?_)
    exact ss_zreturn rfl
theorem e_Tp_takeSign (X : pv_X) (v0 : Nat) (v1 : Int32) (h : pv_H) : pM X m_Tp_takeSign [.ref v0, .int v1] h = f_Tp_takeSign_0 X v0 v1 h := rfl
noncomputable def f_Tp_holdsNumber_0 (X : pv_X) (v0 : Nat) (v1 : Int32) (v2 : Int32) (h : pv_H) : Option pv_O := pS X 2 (some .boolean) k_Tp_holdsNumber 0 [some (.ref v0), some (.int v1), some (.int v2)] [] h
noncomputable def f_Tp_holdsNumber_34 (X : pv_X) (v0 : Nat) (v1 : Int32) (v2 : Int32) (h : pv_H) : Option pv_O := pS X 2 (some .boolean) k_Tp_holdsNumber 34 [some (.ref v0), some (.int v1), some (.int v2)] [] h
noncomputable def f_Tp_holdsNumber_39 (X : pv_X) (v0 : Nat) (v1 : Int32) (v2 : Int32) (s0 : Int32) (h : pv_H) : Option pv_O := pS X 2 (some .boolean) k_Tp_holdsNumber 39 [some (.ref v0), some (.int v1), some (.int v2)] [.int s0] h
set_option maxRecDepth 8000 in
theorem u_Tp_holdsNumber_0 (X : pv_X) (v0 : Nat) (v1 : Int32) (v2 : Int32) (h : pv_H) : f_Tp_holdsNumber_0 X v0 v1 v2 h =
    (pv_fI h v0 9 5).bind (fun x1 => if x1 = 2 then (pv_fI h v0 9 3).bind (fun x2 => (pv_tI (pM X m_Wp_isWithin [.int x2, .int v1, .int v2] h)).bind (fun q3 => if ¬ q3.1 = 0 then f_Tp_holdsNumber_34 X v0 v1 v2 q3.2 else if pv_rc q3.2 v0 9 = true then (pv_tI (pM X m_Tp_refuse [.ref v0, .int 4] q3.2)).bind (fun q4 => if q4.1 = 0 then f_Tp_holdsNumber_39 X v0 v1 v2 0 q4.2 else f_Tp_holdsNumber_34 X v0 v1 v2 q4.2) else none)) else if pv_rc h v0 9 = true then (pv_tI (pM X m_Tp_refuse [.ref v0, .int 1] h)).bind (fun q5 => if q5.1 = 0 ∨ q5.1 = 1 then some (some (.int q5.1), q5.2) else none) else none) := by
  show pS X 2 (some .boolean) k_Tp_holdsNumber 0 [some (.ref v0), some (.int v1), some (.int v2)] [] h = _
  refine (ss_aload_n rfl rfl).trans ?_
  refine (ss_getI rfl).trans ?_
  refine congrArg (Option.bind _) (funext fun x1 => ?_)
  refine (ss_iconst rfl (v := 2) rfl).trans ?_
  refine (ss_icmp_eq rfl).trans ?_
  refine pv_ite ?_ ?_
  · refine (ss_aload_n rfl rfl).trans ?_
    refine (ss_getI rfl).trans ?_
    refine congrArg (Option.bind _) (funext fun x2 => ?_)
    refine (ss_iload_n rfl rfl).trans ?_
    refine (ss_iload_n rfl rfl).trans ?_
    refine (ss_callSI (as := [.int x2, .int v1, .int v2]) rfl t_Wp_isWithin (by decide) rfl rfl (by decide) (Or.inr rfl) ⟨Nat.le_of_ble_eq_true rfl, Nat.le_of_ble_eq_true rfl⟩).trans ?_
    refine congrArg (Option.bind _) (funext fun q3 => ?_)
    refine (ss_if_ne rfl).trans ?_
    refine pv_ite ?_ ?_
    · rfl
    · refine (ss_aload_n rfl rfl).trans ?_
      refine (ss_iconst rfl (v := 4) rfl).trans ?_
      refine (ss_callVI (as := [.int 4]) rfl t_Tp_refuse (by decide) rfl rfl (by decide) (Or.inr rfl) ⟨Nat.le_of_ble_eq_true rfl, Nat.le_of_ble_eq_true rfl⟩).trans ?_
      refine pv_ite ?_ rfl
      refine congrArg (Option.bind _) (funext fun q4 => ?_)
      refine (ss_if_eq rfl).trans ?_
      refine pv_ite ?_ ?_
      · refine (ss_iconst rfl (v := 0) rfl).trans ?_
        rfl
      · rfl
  · refine (ss_aload_n rfl rfl).trans ?_
    refine (ss_iconst rfl (v := 1) rfl).trans ?_
    refine (ss_callVI (as := [.int 1]) rfl t_Tp_refuse (by decide) rfl rfl (by decide) (Or.inr rfl) ⟨Nat.le_of_ble_eq_true rfl, Nat.le_of_ble_eq_true rfl⟩).trans ?_
    refine pv_ite ?_ rfl
    refine congrArg (Option.bind _) (funext fun q5 => ?_)
    exact ss_zreturn rfl
set_option maxRecDepth 8000 in
theorem u_Tp_holdsNumber_34 (X : pv_X) (v0 : Nat) (v1 : Int32) (v2 : Int32) (h : pv_H) : f_Tp_holdsNumber_34 X v0 v1 v2 h =
    f_Tp_holdsNumber_39 X v0 v1 v2 1 h := by
  show pS X 2 (some .boolean) k_Tp_holdsNumber 34 [some (.ref v0), some (.int v1), some (.int v2)] [] h = _
  refine (ss_iconst rfl (v := 1) rfl).trans ?_
  refine (ss_goto rfl).trans ?_
  rfl
set_option maxRecDepth 8000 in
theorem u_Tp_holdsNumber_39 (X : pv_X) (v0 : Nat) (v1 : Int32) (v2 : Int32) (s0 : Int32) (h : pv_H) : f_Tp_holdsNumber_39 X v0 v1 v2 s0 h =
    if s0 = 0 ∨ s0 = 1 then some (some (.int s0), h) else none := by
  show pS X 2 (some .boolean) k_Tp_holdsNumber 39 [some (.ref v0), some (.int v1), some (.int v2)] [.int s0] h = _
  exact ss_zreturn rfl
theorem e_Tp_holdsNumber (X : pv_X) (v0 : Nat) (v1 : Int32) (v2 : Int32) (h : pv_H) : pM X m_Tp_holdsNumber [.ref v0, .int v1, .int v2] h = f_Tp_holdsNumber_0 X v0 v1 v2 h := rfl
