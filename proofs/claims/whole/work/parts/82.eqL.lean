/-! The law, arm by arm. -/
noncomputable def f_Lw_law_0 (X : pv_X) (v0 : Nat) (h : pv_H) : Option pv_O := pS X 100 (some .boolean) k_Lw_law 0 [some (.ref v0), none, none, none, none, none, none] [] h
noncomputable def f_Lw_law_23 (X : pv_X) (v0 : Nat) (v1 : Nat) (v2 : Nat) (v3 : Nat) (v4 : Int32) (o5 : Option Value) (o6 : Option Value) (h : pv_H) : Option pv_O := pS X 100 (some .boolean) k_Lw_law 23 [some (.ref v0), some (.ref v1), some (.ref v2), some (.ref v3), some (.int v4), o5, o6] [] h
noncomputable def f_Lw_law_236 (X : pv_X) (v0 : Nat) (v1 : Nat) (v2 : Nat) (v3 : Nat) (v4 : Int32) (o5 : Option Value) (o6 : Option Value) (h : pv_H) : Option pv_O := pS X 100 (some .boolean) k_Lw_law 236 [some (.ref v0), some (.ref v1), some (.ref v2), some (.ref v3), some (.int v4), o5, o6] [] h
noncomputable def f_Lw_law_383 (X : pv_X) (v0 : Nat) (v1 : Nat) (v2 : Nat) (v3 : Nat) (v4 : Int32) (o5 : Option Value) (o6 : Option Value) (h : pv_H) : Option pv_O := pS X 100 (some .boolean) k_Lw_law 383 [some (.ref v0), some (.ref v1), some (.ref v2), some (.ref v3), some (.int v4), o5, o6] [] h
noncomputable def f_Lw_law_396 (X : pv_X) (v0 : Nat) (v1 : Nat) (v2 : Nat) (v3 : Nat) (v4 : Int32) (o5 : Option Value) (o6 : Option Value) (h : pv_H) : Option pv_O := pS X 100 (some .boolean) k_Lw_law 396 [some (.ref v0), some (.ref v1), some (.ref v2), some (.ref v3), some (.int v4), o5, o6] [] h
noncomputable def f_Lw_law_409 (X : pv_X) (v0 : Nat) (v1 : Nat) (v2 : Nat) (v3 : Nat) (v4 : Int32) (o5 : Option Value) (o6 : Option Value) (h : pv_H) : Option pv_O := pS X 100 (some .boolean) k_Lw_law 409 [some (.ref v0), some (.ref v1), some (.ref v2), some (.ref v3), some (.int v4), o5, o6] [] h
noncomputable def f_Lw_law_446 (X : pv_X) (v0 : Nat) (v1 : Nat) (v2 : Nat) (v3 : Nat) (v4 : Int32) (o5 : Option Value) (o6 : Option Value) (h : pv_H) : Option pv_O := pS X 100 (some .boolean) k_Lw_law 446 [some (.ref v0), some (.ref v1), some (.ref v2), some (.ref v3), some (.int v4), o5, o6] [] h
noncomputable def f_Lw_law_483 (X : pv_X) (v0 : Nat) (v1 : Nat) (v2 : Nat) (v3 : Nat) (v4 : Int32) (o5 : Option Value) (o6 : Option Value) (h : pv_H) : Option pv_O := pS X 100 (some .boolean) k_Lw_law 483 [some (.ref v0), some (.ref v1), some (.ref v2), some (.ref v3), some (.int v4), o5, o6] [] h
noncomputable def f_Lw_law_520 (X : pv_X) (v0 : Nat) (v1 : Nat) (v2 : Nat) (v3 : Nat) (v4 : Int32) (o5 : Option Value) (o6 : Option Value) (h : pv_H) : Option pv_O := pS X 100 (some .boolean) k_Lw_law 520 [some (.ref v0), some (.ref v1), some (.ref v2), some (.ref v3), some (.int v4), o5, o6] [] h
noncomputable def f_Lw_law_557 (X : pv_X) (v0 : Nat) (v1 : Nat) (v2 : Nat) (v3 : Nat) (v4 : Int32) (o5 : Option Value) (o6 : Option Value) (h : pv_H) : Option pv_O := pS X 100 (some .boolean) k_Lw_law 557 [some (.ref v0), some (.ref v1), some (.ref v2), some (.ref v3), some (.int v4), o5, o6] [] h
noncomputable def f_Lw_law_570 (X : pv_X) (v0 : Nat) (v1 : Nat) (v2 : Nat) (v3 : Nat) (v4 : Int32) (o5 : Option Value) (o6 : Option Value) (h : pv_H) : Option pv_O := pS X 100 (some .boolean) k_Lw_law 570 [some (.ref v0), some (.ref v1), some (.ref v2), some (.ref v3), some (.int v4), o5, o6] [] h
noncomputable def f_Lw_law_583 (X : pv_X) (v0 : Nat) (v1 : Nat) (v2 : Nat) (v3 : Nat) (v4 : Int32) (o5 : Option Value) (o6 : Option Value) (h : pv_H) : Option pv_O := pS X 100 (some .boolean) k_Lw_law 583 [some (.ref v0), some (.ref v1), some (.ref v2), some (.ref v3), some (.int v4), o5, o6] [] h
noncomputable def f_Lw_law_608 (X : pv_X) (v0 : Nat) (v1 : Nat) (v2 : Nat) (v3 : Nat) (v4 : Int32) (o5 : Option Value) (o6 : Option Value) (h : pv_H) : Option pv_O := pS X 100 (some .boolean) k_Lw_law 608 [some (.ref v0), some (.ref v1), some (.ref v2), some (.ref v3), some (.int v4), o5, o6] [] h
noncomputable def f_Lw_law_645 (X : pv_X) (v0 : Nat) (v1 : Nat) (v2 : Nat) (v3 : Nat) (v4 : Int32) (o5 : Option Value) (o6 : Option Value) (h : pv_H) : Option pv_O := pS X 100 (some .boolean) k_Lw_law 645 [some (.ref v0), some (.ref v1), some (.ref v2), some (.ref v3), some (.int v4), o5, o6] [] h
noncomputable def f_Lw_law_658 (X : pv_X) (v0 : Nat) (v1 : Nat) (v2 : Nat) (v3 : Nat) (v4 : Int32) (o5 : Option Value) (o6 : Option Value) (h : pv_H) : Option pv_O := pS X 100 (some .boolean) k_Lw_law 658 [some (.ref v0), some (.ref v1), some (.ref v2), some (.ref v3), some (.int v4), o5, o6] [] h
noncomputable def f_Lw_law_671 (X : pv_X) (v0 : Nat) (v1 : Nat) (v2 : Nat) (v3 : Nat) (v4 : Int32) (o5 : Option Value) (o6 : Option Value) (h : pv_H) : Option pv_O := pS X 100 (some .boolean) k_Lw_law 671 [some (.ref v0), some (.ref v1), some (.ref v2), some (.ref v3), some (.int v4), o5, o6] [] h
noncomputable def f_Lw_law_696 (X : pv_X) (v0 : Nat) (v1 : Nat) (v2 : Nat) (v3 : Nat) (v4 : Int32) (o5 : Option Value) (o6 : Option Value) (h : pv_H) : Option pv_O := pS X 100 (some .boolean) k_Lw_law 696 [some (.ref v0), some (.ref v1), some (.ref v2), some (.ref v3), some (.int v4), o5, o6] [] h
noncomputable def f_Lw_law_709 (X : pv_X) (v0 : Nat) (v1 : Nat) (v2 : Nat) (v3 : Nat) (v4 : Int32) (o5 : Option Value) (o6 : Option Value) (h : pv_H) : Option pv_O := pS X 100 (some .boolean) k_Lw_law 709 [some (.ref v0), some (.ref v1), some (.ref v2), some (.ref v3), some (.int v4), o5, o6] [] h
noncomputable def f_Lw_law_746 (X : pv_X) (v0 : Nat) (v1 : Nat) (v2 : Nat) (v3 : Nat) (v4 : Int32) (o5 : Option Value) (o6 : Option Value) (h : pv_H) : Option pv_O := pS X 100 (some .boolean) k_Lw_law 746 [some (.ref v0), some (.ref v1), some (.ref v2), some (.ref v3), some (.int v4), o5, o6] [] h
noncomputable def f_Lw_law_771 (X : pv_X) (v0 : Nat) (v1 : Nat) (v2 : Nat) (v3 : Nat) (v4 : Int32) (o5 : Option Value) (o6 : Option Value) (h : pv_H) : Option pv_O := pS X 100 (some .boolean) k_Lw_law 771 [some (.ref v0), some (.ref v1), some (.ref v2), some (.ref v3), some (.int v4), o5, o6] [] h
noncomputable def f_Lw_law_808 (X : pv_X) (v0 : Nat) (v1 : Nat) (v2 : Nat) (v3 : Nat) (v4 : Int32) (o5 : Option Value) (o6 : Option Value) (h : pv_H) : Option pv_O := pS X 100 (some .boolean) k_Lw_law 808 [some (.ref v0), some (.ref v1), some (.ref v2), some (.ref v3), some (.int v4), o5, o6] [] h
noncomputable def f_Lw_law_833 (X : pv_X) (v0 : Nat) (v1 : Nat) (v2 : Nat) (v3 : Nat) (v4 : Int32) (o5 : Option Value) (o6 : Option Value) (h : pv_H) : Option pv_O := pS X 100 (some .boolean) k_Lw_law 833 [some (.ref v0), some (.ref v1), some (.ref v2), some (.ref v3), some (.int v4), o5, o6] [] h
noncomputable def f_Lw_law_870 (X : pv_X) (v0 : Nat) (v1 : Nat) (v2 : Nat) (v3 : Nat) (v4 : Int32) (o5 : Option Value) (o6 : Option Value) (h : pv_H) : Option pv_O := pS X 100 (some .boolean) k_Lw_law 870 [some (.ref v0), some (.ref v1), some (.ref v2), some (.ref v3), some (.int v4), o5, o6] [] h
noncomputable def f_Lw_law_895 (X : pv_X) (v0 : Nat) (v1 : Nat) (v2 : Nat) (v3 : Nat) (v4 : Int32) (o5 : Option Value) (o6 : Option Value) (h : pv_H) : Option pv_O := pS X 100 (some .boolean) k_Lw_law 895 [some (.ref v0), some (.ref v1), some (.ref v2), some (.ref v3), some (.int v4), o5, o6] [] h
noncomputable def f_Lw_law_944 (X : pv_X) (v0 : Nat) (v1 : Nat) (v2 : Nat) (v3 : Nat) (v4 : Int32) (o5 : Option Value) (o6 : Option Value) (h : pv_H) : Option pv_O := pS X 100 (some .boolean) k_Lw_law 944 [some (.ref v0), some (.ref v1), some (.ref v2), some (.ref v3), some (.int v4), o5, o6] [] h
noncomputable def f_Lw_law_969 (X : pv_X) (v0 : Nat) (v1 : Nat) (v2 : Nat) (v3 : Nat) (v4 : Int32) (o5 : Option Value) (o6 : Option Value) (h : pv_H) : Option pv_O := pS X 100 (some .boolean) k_Lw_law 969 [some (.ref v0), some (.ref v1), some (.ref v2), some (.ref v3), some (.int v4), o5, o6] [] h
noncomputable def f_Lw_law_994 (X : pv_X) (v0 : Nat) (v1 : Nat) (v2 : Nat) (v3 : Nat) (v4 : Int32) (o5 : Option Value) (o6 : Option Value) (h : pv_H) : Option pv_O := pS X 100 (some .boolean) k_Lw_law 994 [some (.ref v0), some (.ref v1), some (.ref v2), some (.ref v3), some (.int v4), o5, o6] [] h
noncomputable def f_Lw_law_1031 (X : pv_X) (v0 : Nat) (v1 : Nat) (v2 : Nat) (v3 : Nat) (v4 : Int32) (o5 : Option Value) (o6 : Option Value) (h : pv_H) : Option pv_O := pS X 100 (some .boolean) k_Lw_law 1031 [some (.ref v0), some (.ref v1), some (.ref v2), some (.ref v3), some (.int v4), o5, o6] [] h
noncomputable def f_Lw_law_1056 (X : pv_X) (v0 : Nat) (v1 : Nat) (v2 : Nat) (v3 : Nat) (v4 : Int32) (o5 : Option Value) (o6 : Option Value) (h : pv_H) : Option pv_O := pS X 100 (some .boolean) k_Lw_law 1056 [some (.ref v0), some (.ref v1), some (.ref v2), some (.ref v3), some (.int v4), o5, o6] [] h
noncomputable def f_Lw_law_1069 (X : pv_X) (v0 : Nat) (v1 : Nat) (v2 : Nat) (v3 : Nat) (v4 : Int32) (o5 : Option Value) (o6 : Option Value) (h : pv_H) : Option pv_O := pS X 100 (some .boolean) k_Lw_law 1069 [some (.ref v0), some (.ref v1), some (.ref v2), some (.ref v3), some (.int v4), o5, o6] [] h
noncomputable def f_Lw_law_1094 (X : pv_X) (v0 : Nat) (v1 : Nat) (v2 : Nat) (v3 : Nat) (v4 : Int32) (o5 : Option Value) (o6 : Option Value) (h : pv_H) : Option pv_O := pS X 100 (some .boolean) k_Lw_law 1094 [some (.ref v0), some (.ref v1), some (.ref v2), some (.ref v3), some (.int v4), o5, o6] [] h
noncomputable def f_Lw_law_1107 (X : pv_X) (v0 : Nat) (v1 : Nat) (v2 : Nat) (v3 : Nat) (v4 : Int32) (o5 : Option Value) (o6 : Option Value) (h : pv_H) : Option pv_O := pS X 100 (some .boolean) k_Lw_law 1107 [some (.ref v0), some (.ref v1), some (.ref v2), some (.ref v3), some (.int v4), o5, o6] [] h
noncomputable def f_Lw_law_1120 (X : pv_X) (v0 : Nat) (v1 : Nat) (v2 : Nat) (v3 : Nat) (v4 : Int32) (o5 : Option Value) (o6 : Option Value) (h : pv_H) : Option pv_O := pS X 100 (some .boolean) k_Lw_law 1120 [some (.ref v0), some (.ref v1), some (.ref v2), some (.ref v3), some (.int v4), o5, o6] [] h
noncomputable def f_Lw_law_1157 (X : pv_X) (v0 : Nat) (v1 : Nat) (v2 : Nat) (v3 : Nat) (v4 : Int32) (o5 : Option Value) (o6 : Option Value) (h : pv_H) : Option pv_O := pS X 100 (some .boolean) k_Lw_law 1157 [some (.ref v0), some (.ref v1), some (.ref v2), some (.ref v3), some (.int v4), o5, o6] [] h
noncomputable def f_Lw_law_1182 (X : pv_X) (v0 : Nat) (v1 : Nat) (v2 : Nat) (v3 : Nat) (v4 : Int32) (o5 : Option Value) (o6 : Option Value) (h : pv_H) : Option pv_O := pS X 100 (some .boolean) k_Lw_law 1182 [some (.ref v0), some (.ref v1), some (.ref v2), some (.ref v3), some (.int v4), o5, o6] [] h
noncomputable def f_Lw_law_1195 (X : pv_X) (v0 : Nat) (v1 : Nat) (v2 : Nat) (v3 : Nat) (v4 : Int32) (o5 : Option Value) (o6 : Option Value) (h : pv_H) : Option pv_O := pS X 100 (some .boolean) k_Lw_law 1195 [some (.ref v0), some (.ref v1), some (.ref v2), some (.ref v3), some (.int v4), o5, o6] [] h
noncomputable def f_Lw_law_1220 (X : pv_X) (v0 : Nat) (v1 : Nat) (v2 : Nat) (v3 : Nat) (v4 : Int32) (o5 : Option Value) (o6 : Option Value) (h : pv_H) : Option pv_O := pS X 100 (some .boolean) k_Lw_law 1220 [some (.ref v0), some (.ref v1), some (.ref v2), some (.ref v3), some (.int v4), o5, o6] [] h
noncomputable def f_Lw_law_1233 (X : pv_X) (v0 : Nat) (v1 : Nat) (v2 : Nat) (v3 : Nat) (v4 : Int32) (o5 : Option Value) (o6 : Option Value) (h : pv_H) : Option pv_O := pS X 100 (some .boolean) k_Lw_law 1233 [some (.ref v0), some (.ref v1), some (.ref v2), some (.ref v3), some (.int v4), o5, o6] [] h
noncomputable def f_Lw_law_1282 (X : pv_X) (v0 : Nat) (v1 : Nat) (v2 : Nat) (v3 : Nat) (v4 : Int32) (o5 : Option Value) (o6 : Option Value) (h : pv_H) : Option pv_O := pS X 100 (some .boolean) k_Lw_law 1282 [some (.ref v0), some (.ref v1), some (.ref v2), some (.ref v3), some (.int v4), o5, o6] [] h
noncomputable def f_Lw_law_1295 (X : pv_X) (v0 : Nat) (v1 : Nat) (v2 : Nat) (v3 : Nat) (v4 : Int32) (o5 : Option Value) (o6 : Option Value) (h : pv_H) : Option pv_O := pS X 100 (some .boolean) k_Lw_law 1295 [some (.ref v0), some (.ref v1), some (.ref v2), some (.ref v3), some (.int v4), o5, o6] [] h
noncomputable def f_Lw_law_1320 (X : pv_X) (v0 : Nat) (v1 : Nat) (v2 : Nat) (v3 : Nat) (v4 : Int32) (o5 : Option Value) (o6 : Option Value) (h : pv_H) : Option pv_O := pS X 100 (some .boolean) k_Lw_law 1320 [some (.ref v0), some (.ref v1), some (.ref v2), some (.ref v3), some (.int v4), o5, o6] [] h
noncomputable def f_Lw_law_1333 (X : pv_X) (v0 : Nat) (v1 : Nat) (v2 : Nat) (v3 : Nat) (v4 : Int32) (o5 : Option Value) (o6 : Option Value) (h : pv_H) : Option pv_O := pS X 100 (some .boolean) k_Lw_law 1333 [some (.ref v0), some (.ref v1), some (.ref v2), some (.ref v3), some (.int v4), o5, o6] [] h
noncomputable def f_Lw_law_1358 (X : pv_X) (v0 : Nat) (v1 : Nat) (v2 : Nat) (v3 : Nat) (v4 : Int32) (o5 : Option Value) (o6 : Option Value) (h : pv_H) : Option pv_O := pS X 100 (some .boolean) k_Lw_law 1358 [some (.ref v0), some (.ref v1), some (.ref v2), some (.ref v3), some (.int v4), o5, o6] [] h
noncomputable def f_Lw_law_1419 (X : pv_X) (v0 : Nat) (v1 : Nat) (v2 : Nat) (v3 : Nat) (v4 : Int32) (o5 : Option Value) (o6 : Option Value) (h : pv_H) : Option pv_O := pS X 100 (some .boolean) k_Lw_law 1419 [some (.ref v0), some (.ref v1), some (.ref v2), some (.ref v3), some (.int v4), o5, o6] [] h
noncomputable def f_Lw_law_1508 (X : pv_X) (v0 : Nat) (v1 : Nat) (v2 : Nat) (v3 : Nat) (v4 : Int32) (v5 : Int32) (v6 : Int32) (h : pv_H) : Option pv_O := pS X 100 (some .boolean) k_Lw_law 1508 [some (.ref v0), some (.ref v1), some (.ref v2), some (.ref v3), some (.int v4), some (.int v5), some (.int v6)] [] h
noncomputable def f_Lw_law_1511 (X : pv_X) (v0 : Nat) (v1 : Nat) (v2 : Nat) (v3 : Nat) (v4 : Int32) (o5 : Option Value) (o6 : Option Value) (h : pv_H) : Option pv_O := pS X 100 (some .boolean) k_Lw_law 1511 [some (.ref v0), some (.ref v1), some (.ref v2), some (.ref v3), some (.int v4), o5, o6] [] h
noncomputable def f_Lw_law_1560 (X : pv_X) (v0 : Nat) (v1 : Nat) (v2 : Nat) (v3 : Nat) (v4 : Int32) (o5 : Option Value) (o6 : Option Value) (h : pv_H) : Option pv_O := pS X 100 (some .boolean) k_Lw_law 1560 [some (.ref v0), some (.ref v1), some (.ref v2), some (.ref v3), some (.int v4), o5, o6] [] h
noncomputable def f_Lw_law_1581 (X : pv_X) (v0 : Nat) (v1 : Nat) (v2 : Nat) (v3 : Nat) (v4 : Int32) (o5 : Option Value) (o6 : Option Value) (s0 : Int32) (s1 : Int32) (s2 : Nat) (h : pv_H) : Option pv_O := pS X 100 (some .boolean) k_Lw_law 1581 [some (.ref v0), some (.ref v1), some (.ref v2), some (.ref v3), some (.int v4), o5, o6] [.int s0, .int s1, .ref s2] h
noncomputable def f_Lw_law_1605 (X : pv_X) (v0 : Nat) (v1 : Nat) (v2 : Nat) (v3 : Nat) (v4 : Int32) (o5 : Option Value) (o6 : Option Value) (s0 : Int32) (s1 : Int32) (s2 : Nat) (s3 : Int32) (h : pv_H) : Option pv_O := pS X 100 (some .boolean) k_Lw_law 1605 [some (.ref v0), some (.ref v1), some (.ref v2), some (.ref v3), some (.int v4), o5, o6] [.int s0, .int s1, .ref s2, .int s3] h
noncomputable def f_Lw_law_1613 (X : pv_X) (v0 : Nat) (v1 : Nat) (v2 : Nat) (v3 : Nat) (v4 : Int32) (o5 : Option Value) (o6 : Option Value) (h : pv_H) : Option pv_O := pS X 100 (some .boolean) k_Lw_law 1613 [some (.ref v0), some (.ref v1), some (.ref v2), some (.ref v3), some (.int v4), o5, o6] [] h
noncomputable def f_Lw_law_1638 (X : pv_X) (v0 : Nat) (v1 : Nat) (v2 : Nat) (v3 : Nat) (v4 : Int32) (o5 : Option Value) (o6 : Option Value) (h : pv_H) : Option pv_O := pS X 100 (some .boolean) k_Lw_law 1638 [some (.ref v0), some (.ref v1), some (.ref v2), some (.ref v3), some (.int v4), o5, o6] [] h
set_option maxRecDepth 100000 in
theorem u_Lw_law_0 (X : pv_X) (v0 : Nat) (h : pv_H) : f_Lw_law_0 X v0 h =
    (pv_no h 10 (pv_dft 10)).bind (fun h1 => if pv_rc h1 h.length 10 = true then (pv_tV (pM X m_Wp_init [.ref h.length] h1)).bind (fun h2 => (pv_no h2 11 (pv_dft 11)).bind (fun h3 => if pv_rc h3 h2.length 11 = true then (pv_tV (pM X m_Md_init [.ref h2.length] h3)).bind (fun h4 => (pv_na h4 2 1).bind (fun h5 => f_Lw_law_23 X v0 h.length h2.length h4.length 0 none none h5)) else none)) else none) := by
  show pS X 100 (some .boolean) k_Lw_law 0 [some (.ref v0), none, none, none, none, none, none] [] h = _
  refine (ss_new rfl).trans ?_
  refine congrArg (Option.bind _) (funext fun h1 => ?_)
  refine (ss_dupR rfl).trans ?_
  refine (ss_callIN (as := []) rfl t_Wp_init (by decide) (by decide) rfl rfl (by simp [Value.category]) rfl ⟨Nat.le_of_ble_eq_true rfl, Nat.le_of_ble_eq_true rfl⟩).trans ?_
  refine pv_ite ?_ rfl
  refine congrArg (Option.bind _) (funext fun h2 => ?_)
  refine (ss_astore_n rfl rfl).trans ?_
  refine (ss_new rfl).trans ?_
  refine congrArg (Option.bind _) (funext fun h3 => ?_)
  refine (ss_dupR rfl).trans ?_
  refine (ss_callIN (as := []) rfl t_Md_init (by decide) (by decide) rfl rfl (by simp [Value.category]) rfl ⟨Nat.le_of_ble_eq_true rfl, Nat.le_of_ble_eq_true rfl⟩).trans ?_
  refine pv_ite ?_ rfl
  refine congrArg (Option.bind _) (funext fun h4 => ?_)
  refine (ss_astore_n rfl rfl).trans ?_
  refine (ss_iconst rfl (v := 1) rfl).trans ?_
  refine (ss_newarray (by decide) rfl).trans ?_
  refine congrArg (Option.bind _) (funext fun h5 => ?_)
  refine (ss_astore_n rfl rfl).trans ?_
  refine (ss_iconst rfl (v := 0) rfl).trans ?_
  refine (ss_istore rfl rfl).trans ?_
  rfl
set_option maxRecDepth 100000 in
theorem u_Lw_law_23 (X : pv_X) (v0 : Nat) (v1 : Nat) (v2 : Nat) (v3 : Nat) (v4 : Int32) (o5 : Option Value) (o6 : Option Value) (h : pv_H) : f_Lw_law_23 X v0 v1 v2 v3 v4 o5 o6 h =
    (pv_len X h v0).bind (fun x1 => if (x1 - 7) < v4 then some (some (.int 1), h) else (pv_aX X h v0 v4).bind (fun x2 => if (x2 &&& 63) = 0 then f_Lw_law_236 X v0 v1 v2 v3 v4 o5 o6 h else if (x2 &&& 63) = 1 then f_Lw_law_383 X v0 v1 v2 v3 v4 o5 o6 h else if (x2 &&& 63) = 2 then f_Lw_law_396 X v0 v1 v2 v3 v4 o5 o6 h else if (x2 &&& 63) = 3 then f_Lw_law_409 X v0 v1 v2 v3 v4 o5 o6 h else if (x2 &&& 63) = 4 then f_Lw_law_446 X v0 v1 v2 v3 v4 o5 o6 h else if (x2 &&& 63) = 5 then f_Lw_law_483 X v0 v1 v2 v3 v4 o5 o6 h else if (x2 &&& 63) = 6 then f_Lw_law_520 X v0 v1 v2 v3 v4 o5 o6 h else if (x2 &&& 63) = 7 then f_Lw_law_557 X v0 v1 v2 v3 v4 o5 o6 h else if (x2 &&& 63) = 8 then f_Lw_law_570 X v0 v1 v2 v3 v4 o5 o6 h else if (x2 &&& 63) = 9 then f_Lw_law_583 X v0 v1 v2 v3 v4 o5 o6 h else if (x2 &&& 63) = 10 then f_Lw_law_608 X v0 v1 v2 v3 v4 o5 o6 h else if (x2 &&& 63) = 11 then f_Lw_law_645 X v0 v1 v2 v3 v4 o5 o6 h else if (x2 &&& 63) = 12 then f_Lw_law_658 X v0 v1 v2 v3 v4 o5 o6 h else if (x2 &&& 63) = 13 then f_Lw_law_671 X v0 v1 v2 v3 v4 o5 o6 h else if (x2 &&& 63) = 14 then f_Lw_law_696 X v0 v1 v2 v3 v4 o5 o6 h else if (x2 &&& 63) = 15 then f_Lw_law_709 X v0 v1 v2 v3 v4 o5 o6 h else if (x2 &&& 63) = 16 then f_Lw_law_746 X v0 v1 v2 v3 v4 o5 o6 h else if (x2 &&& 63) = 17 then f_Lw_law_771 X v0 v1 v2 v3 v4 o5 o6 h else if (x2 &&& 63) = 18 then f_Lw_law_808 X v0 v1 v2 v3 v4 o5 o6 h else if (x2 &&& 63) = 19 then f_Lw_law_833 X v0 v1 v2 v3 v4 o5 o6 h else if (x2 &&& 63) = 20 then f_Lw_law_870 X v0 v1 v2 v3 v4 o5 o6 h else if (x2 &&& 63) = 21 then f_Lw_law_895 X v0 v1 v2 v3 v4 o5 o6 h else if (x2 &&& 63) = 22 then f_Lw_law_944 X v0 v1 v2 v3 v4 o5 o6 h else if (x2 &&& 63) = 23 then f_Lw_law_969 X v0 v1 v2 v3 v4 o5 o6 h else if (x2 &&& 63) = 24 then f_Lw_law_994 X v0 v1 v2 v3 v4 o5 o6 h else if (x2 &&& 63) = 25 then f_Lw_law_1031 X v0 v1 v2 v3 v4 o5 o6 h else if (x2 &&& 63) = 26 then f_Lw_law_1056 X v0 v1 v2 v3 v4 o5 o6 h else if (x2 &&& 63) = 27 then f_Lw_law_1069 X v0 v1 v2 v3 v4 o5 o6 h else if (x2 &&& 63) = 28 then f_Lw_law_1094 X v0 v1 v2 v3 v4 o5 o6 h else if (x2 &&& 63) = 29 then f_Lw_law_1107 X v0 v1 v2 v3 v4 o5 o6 h else if (x2 &&& 63) = 30 then f_Lw_law_1120 X v0 v1 v2 v3 v4 o5 o6 h else if (x2 &&& 63) = 31 then f_Lw_law_1157 X v0 v1 v2 v3 v4 o5 o6 h else if (x2 &&& 63) = 32 then f_Lw_law_1182 X v0 v1 v2 v3 v4 o5 o6 h else if (x2 &&& 63) = 33 then f_Lw_law_1195 X v0 v1 v2 v3 v4 o5 o6 h else if (x2 &&& 63) = 34 then f_Lw_law_1220 X v0 v1 v2 v3 v4 o5 o6 h else if (x2 &&& 63) = 35 then f_Lw_law_1233 X v0 v1 v2 v3 v4 o5 o6 h else if (x2 &&& 63) = 36 then f_Lw_law_1282 X v0 v1 v2 v3 v4 o5 o6 h else if (x2 &&& 63) = 37 then f_Lw_law_1295 X v0 v1 v2 v3 v4 o5 o6 h else if (x2 &&& 63) = 38 then f_Lw_law_1320 X v0 v1 v2 v3 v4 o5 o6 h else if (x2 &&& 63) = 39 then f_Lw_law_1333 X v0 v1 v2 v3 v4 o5 o6 h else if (x2 &&& 63) = 40 then f_Lw_law_1358 X v0 v1 v2 v3 v4 o5 o6 h else if (x2 &&& 63) = 41 then f_Lw_law_1419 X v0 v1 v2 v3 v4 o5 o6 h else if (x2 &&& 63) = 42 then f_Lw_law_1511 X v0 v1 v2 v3 v4 o5 o6 h else if (x2 &&& 63) = 43 then f_Lw_law_1560 X v0 v1 v2 v3 v4 o5 o6 h else if (x2 &&& 63) = 44 then f_Lw_law_1613 X v0 v1 v2 v3 v4 o5 o6 h else f_Lw_law_1638 X v0 v1 v2 v3 v4 o5 o6 h)) := by
  show pS X 100 (some .boolean) k_Lw_law 23 [some (.ref v0), some (.ref v1), some (.ref v2), some (.ref v3), some (.int v4), o5, o6] [] h = _
  refine (ss_iload rfl rfl).trans ?_
  refine (ss_aload_n rfl rfl).trans ?_
  refine (ss_arraylength rfl).trans ?_
  refine congrArg (Option.bind _) (funext fun x1 => ?_)
  refine (ss_bipush rfl (v := 7) rfl).trans ?_
  refine (ss_isub rfl).trans ?_
  refine (ss_icmp_gt rfl).trans ?_
  refine pv_ite ?_ ?_
  · refine (ss_iconst rfl (v := 1) rfl).trans ?_
    exact (ss_zreturn rfl).trans (if_pos (by decide))
  · refine (ss_aload_n rfl rfl).trans ?_
    refine (ss_iload rfl rfl).trans ?_
    refine (ss_iaload rfl).trans ?_
    refine congrArg (Option.bind _) (funext fun x2 => ?_)
    refine (ss_bipush rfl (v := 63) rfl).trans ?_
    refine (ss_iand rfl).trans ?_
    refine (ss_table rfl).trans ?_
    by_cases c3 : (x2 &&& 63) = 0
    · rw [if_pos c3, c3]
      show pS X _ _ _ 236 _ _ _ = _
      rfl
    rw [if_neg c3]
    by_cases c4 : (x2 &&& 63) = 1
    · rw [if_pos c4, c4]
      show pS X _ _ _ 383 _ _ _ = _
      rfl
    rw [if_neg c4]
    by_cases c5 : (x2 &&& 63) = 2
    · rw [if_pos c5, c5]
      show pS X _ _ _ 396 _ _ _ = _
      rfl
    rw [if_neg c5]
    by_cases c6 : (x2 &&& 63) = 3
    · rw [if_pos c6, c6]
      show pS X _ _ _ 409 _ _ _ = _
      rfl
    rw [if_neg c6]
    by_cases c7 : (x2 &&& 63) = 4
    · rw [if_pos c7, c7]
      show pS X _ _ _ 446 _ _ _ = _
      rfl
    rw [if_neg c7]
    by_cases c8 : (x2 &&& 63) = 5
    · rw [if_pos c8, c8]
      show pS X _ _ _ 483 _ _ _ = _
      rfl
    rw [if_neg c8]
    by_cases c9 : (x2 &&& 63) = 6
    · rw [if_pos c9, c9]
      show pS X _ _ _ 520 _ _ _ = _
      rfl
    rw [if_neg c9]
    by_cases c10 : (x2 &&& 63) = 7
    · rw [if_pos c10, c10]
      show pS X _ _ _ 557 _ _ _ = _
      rfl
    rw [if_neg c10]
    by_cases c11 : (x2 &&& 63) = 8
    · rw [if_pos c11, c11]
      show pS X _ _ _ 570 _ _ _ = _
      rfl
    rw [if_neg c11]
    by_cases c12 : (x2 &&& 63) = 9
    · rw [if_pos c12, c12]
      show pS X _ _ _ 583 _ _ _ = _
      rfl
    rw [if_neg c12]
    by_cases c13 : (x2 &&& 63) = 10
    · rw [if_pos c13, c13]
      show pS X _ _ _ 608 _ _ _ = _
      rfl
    rw [if_neg c13]
    by_cases c14 : (x2 &&& 63) = 11
    · rw [if_pos c14, c14]
      show pS X _ _ _ 645 _ _ _ = _
      rfl
    rw [if_neg c14]
    by_cases c15 : (x2 &&& 63) = 12
    · rw [if_pos c15, c15]
      show pS X _ _ _ 658 _ _ _ = _
      rfl
    rw [if_neg c15]
    by_cases c16 : (x2 &&& 63) = 13
    · rw [if_pos c16, c16]
      show pS X _ _ _ 671 _ _ _ = _
      rfl
    rw [if_neg c16]
    by_cases c17 : (x2 &&& 63) = 14
    · rw [if_pos c17, c17]
      show pS X _ _ _ 696 _ _ _ = _
      rfl
    rw [if_neg c17]
    by_cases c18 : (x2 &&& 63) = 15
    · rw [if_pos c18, c18]
      show pS X _ _ _ 709 _ _ _ = _
      rfl
    rw [if_neg c18]
    by_cases c19 : (x2 &&& 63) = 16
    · rw [if_pos c19, c19]
      show pS X _ _ _ 746 _ _ _ = _
      rfl
    rw [if_neg c19]
    by_cases c20 : (x2 &&& 63) = 17
    · rw [if_pos c20, c20]
      show pS X _ _ _ 771 _ _ _ = _
      rfl
    rw [if_neg c20]
    by_cases c21 : (x2 &&& 63) = 18
    · rw [if_pos c21, c21]
      show pS X _ _ _ 808 _ _ _ = _
      rfl
    rw [if_neg c21]
    by_cases c22 : (x2 &&& 63) = 19
    · rw [if_pos c22, c22]
      show pS X _ _ _ 833 _ _ _ = _
      rfl
    rw [if_neg c22]
    by_cases c23 : (x2 &&& 63) = 20
    · rw [if_pos c23, c23]
      show pS X _ _ _ 870 _ _ _ = _
      rfl
    rw [if_neg c23]
    by_cases c24 : (x2 &&& 63) = 21
    · rw [if_pos c24, c24]
      show pS X _ _ _ 895 _ _ _ = _
      rfl
    rw [if_neg c24]
    by_cases c25 : (x2 &&& 63) = 22
    · rw [if_pos c25, c25]
      show pS X _ _ _ 944 _ _ _ = _
      rfl
    rw [if_neg c25]
    by_cases c26 : (x2 &&& 63) = 23
    · rw [if_pos c26, c26]
      show pS X _ _ _ 969 _ _ _ = _
      rfl
    rw [if_neg c26]
    by_cases c27 : (x2 &&& 63) = 24
    · rw [if_pos c27, c27]
      show pS X _ _ _ 994 _ _ _ = _
      rfl
    rw [if_neg c27]
    by_cases c28 : (x2 &&& 63) = 25
    · rw [if_pos c28, c28]
      show pS X _ _ _ 1031 _ _ _ = _
      rfl
    rw [if_neg c28]
    by_cases c29 : (x2 &&& 63) = 26
    · rw [if_pos c29, c29]
      show pS X _ _ _ 1056 _ _ _ = _
      rfl
    rw [if_neg c29]
    by_cases c30 : (x2 &&& 63) = 27
    · rw [if_pos c30, c30]
      show pS X _ _ _ 1069 _ _ _ = _
      rfl
    rw [if_neg c30]
    by_cases c31 : (x2 &&& 63) = 28
    · rw [if_pos c31, c31]
      show pS X _ _ _ 1094 _ _ _ = _
      rfl
    rw [if_neg c31]
    by_cases c32 : (x2 &&& 63) = 29
    · rw [if_pos c32, c32]
      show pS X _ _ _ 1107 _ _ _ = _
      rfl
    rw [if_neg c32]
    by_cases c33 : (x2 &&& 63) = 30
    · rw [if_pos c33, c33]
      show pS X _ _ _ 1120 _ _ _ = _
      rfl
    rw [if_neg c33]
    by_cases c34 : (x2 &&& 63) = 31
    · rw [if_pos c34, c34]
      show pS X _ _ _ 1157 _ _ _ = _
      rfl
    rw [if_neg c34]
    by_cases c35 : (x2 &&& 63) = 32
    · rw [if_pos c35, c35]
      show pS X _ _ _ 1182 _ _ _ = _
      rfl
    rw [if_neg c35]
    by_cases c36 : (x2 &&& 63) = 33
    · rw [if_pos c36, c36]
      show pS X _ _ _ 1195 _ _ _ = _
      rfl
    rw [if_neg c36]
    by_cases c37 : (x2 &&& 63) = 34
    · rw [if_pos c37, c37]
      show pS X _ _ _ 1220 _ _ _ = _
      rfl
    rw [if_neg c37]
    by_cases c38 : (x2 &&& 63) = 35
    · rw [if_pos c38, c38]
      show pS X _ _ _ 1233 _ _ _ = _
      rfl
    rw [if_neg c38]
    by_cases c39 : (x2 &&& 63) = 36
    · rw [if_pos c39, c39]
      show pS X _ _ _ 1282 _ _ _ = _
      rfl
    rw [if_neg c39]
    by_cases c40 : (x2 &&& 63) = 37
    · rw [if_pos c40, c40]
      show pS X _ _ _ 1295 _ _ _ = _
      rfl
    rw [if_neg c40]
    by_cases c41 : (x2 &&& 63) = 38
    · rw [if_pos c41, c41]
      show pS X _ _ _ 1320 _ _ _ = _
      rfl
    rw [if_neg c41]
    by_cases c42 : (x2 &&& 63) = 39
    · rw [if_pos c42, c42]
      show pS X _ _ _ 1333 _ _ _ = _
      rfl
    rw [if_neg c42]
    by_cases c43 : (x2 &&& 63) = 40
    · rw [if_pos c43, c43]
      show pS X _ _ _ 1358 _ _ _ = _
      rfl
    rw [if_neg c43]
    by_cases c44 : (x2 &&& 63) = 41
    · rw [if_pos c44, c44]
      show pS X _ _ _ 1419 _ _ _ = _
      rfl
    rw [if_neg c44]
    by_cases c45 : (x2 &&& 63) = 42
    · rw [if_pos c45, c45]
      show pS X _ _ _ 1511 _ _ _ = _
      rfl
    rw [if_neg c45]
    by_cases c46 : (x2 &&& 63) = 43
    · rw [if_pos c46, c46]
      show pS X _ _ _ 1560 _ _ _ = _
      rfl
    rw [if_neg c46]
    by_cases c47 : (x2 &&& 63) = 44
    · rw [if_pos c47, c47]
      show pS X _ _ _ 1613 _ _ _ = _
      rfl
    rw [if_neg c47]
    rw [pv_sw_out (pc := 40) (q := 1638) (d := 1598) (lo := 0) (hi := 44) (by decide) (by decide) (by have z0 := pv_ne c3 (k := 0) (z := 0) (by decide); have z1 := pv_ne c4 (k := 1) (z := 1) (by decide); have z2 := pv_ne c5 (k := 2) (z := 2) (by decide); have z3 := pv_ne c6 (k := 3) (z := 3) (by decide); have z4 := pv_ne c7 (k := 4) (z := 4) (by decide); have z5 := pv_ne c8 (k := 5) (z := 5) (by decide); have z6 := pv_ne c9 (k := 6) (z := 6) (by decide); have z7 := pv_ne c10 (k := 7) (z := 7) (by decide); have z8 := pv_ne c11 (k := 8) (z := 8) (by decide); have z9 := pv_ne c12 (k := 9) (z := 9) (by decide); have z10 := pv_ne c13 (k := 10) (z := 10) (by decide); have z11 := pv_ne c14 (k := 11) (z := 11) (by decide); have z12 := pv_ne c15 (k := 12) (z := 12) (by decide); have z13 := pv_ne c16 (k := 13) (z := 13) (by decide); have z14 := pv_ne c17 (k := 14) (z := 14) (by decide); have z15 := pv_ne c18 (k := 15) (z := 15) (by decide); have z16 := pv_ne c19 (k := 16) (z := 16) (by decide); have z17 := pv_ne c20 (k := 17) (z := 17) (by decide); have z18 := pv_ne c21 (k := 18) (z := 18) (by decide); have z19 := pv_ne c22 (k := 19) (z := 19) (by decide); have z20 := pv_ne c23 (k := 20) (z := 20) (by decide); have z21 := pv_ne c24 (k := 21) (z := 21) (by decide); have z22 := pv_ne c25 (k := 22) (z := 22) (by decide); have z23 := pv_ne c26 (k := 23) (z := 23) (by decide); have z24 := pv_ne c27 (k := 24) (z := 24) (by decide); have z25 := pv_ne c28 (k := 25) (z := 25) (by decide); have z26 := pv_ne c29 (k := 26) (z := 26) (by decide); have z27 := pv_ne c30 (k := 27) (z := 27) (by decide); have z28 := pv_ne c31 (k := 28) (z := 28) (by decide); have z29 := pv_ne c32 (k := 29) (z := 29) (by decide); have z30 := pv_ne c33 (k := 30) (z := 30) (by decide); have z31 := pv_ne c34 (k := 31) (z := 31) (by decide); have z32 := pv_ne c35 (k := 32) (z := 32) (by decide); have z33 := pv_ne c36 (k := 33) (z := 33) (by decide); have z34 := pv_ne c37 (k := 34) (z := 34) (by decide); have z35 := pv_ne c38 (k := 35) (z := 35) (by decide); have z36 := pv_ne c39 (k := 36) (z := 36) (by decide); have z37 := pv_ne c40 (k := 37) (z := 37) (by decide); have z38 := pv_ne c41 (k := 38) (z := 38) (by decide); have z39 := pv_ne c42 (k := 39) (z := 39) (by decide); have z40 := pv_ne c43 (k := 40) (z := 40) (by decide); have z41 := pv_ne c44 (k := 41) (z := 41) (by decide); have z42 := pv_ne c45 (k := 42) (z := 42) (by decide); have z43 := pv_ne c46 (k := 43) (z := 43) (by decide); have z44 := pv_ne c47 (k := 44) (z := 44) (by decide); omega)]
    show pS X _ _ _ 1638 _ _ _ = _
    rfl
set_option maxRecDepth 100000 in
theorem u_Lw_law_236 (X : pv_X) (v0 : Nat) (v1 : Nat) (v2 : Nat) (v3 : Nat) (v4 : Int32) (o5 : Option Value) (o6 : Option Value) (h : pv_H) : f_Lw_law_236 X v0 v1 v2 v3 v4 o5 o6 h =
    (pv_aX X h v0 (v4 + 1)).bind (fun x1 => (pv_aX X h v0 (v4 + 2)).bind (fun x2 => (pv_aX X h v0 (v4 + 3)).bind (fun x3 => (pv_aX X h v0 (v4 + 4)).bind (fun x4 => (pv_aX X h v0 (v4 + 5)).bind (fun x5 => (pv_aX X h v0 (v4 + 6)).bind (fun x6 => if pv_rc h v1 10 = true then (pv_tI (pM X m_Wp_feed [.ref v1, .long ((((x1 : Int32).toInt64 : Int64) <<< ((32 : Int32).toInt64 &&& 63)) ||| ((x2 : Int32).toInt64 &&& 4294967295)), .long ((((x3 : Int32).toInt64 : Int64) <<< ((32 : Int32).toInt64 &&& 63)) ||| ((x4 : Int32).toInt64 &&& 4294967295)), .long ((((x5 : Int32).toInt64 : Int64) <<< ((32 : Int32).toInt64 &&& 63)) ||| ((x6 : Int32).toInt64 &&& 4294967295))] h)).bind (fun q7 => (pv_aX X q7.2 v0 (v4 + 1)).bind (fun x8 => (pv_aX X q7.2 v0 (v4 + 2)).bind (fun x9 => (pv_aX X q7.2 v0 (v4 + 3)).bind (fun x10 => (pv_aX X q7.2 v0 (v4 + 4)).bind (fun x11 => (pv_aX X q7.2 v0 (v4 + 5)).bind (fun x12 => (pv_aX X q7.2 v0 (v4 + 6)).bind (fun x13 => if pv_rc q7.2 v2 11 = true then (pv_tI (pM X m_Md_feed [.ref v2, .long ((((x8 : Int32).toInt64 : Int64) <<< ((32 : Int32).toInt64 &&& 63)) ||| ((x9 : Int32).toInt64 &&& 4294967295)), .long ((((x10 : Int32).toInt64 : Int64) <<< ((32 : Int32).toInt64 &&& 63)) ||| ((x11 : Int32).toInt64 &&& 4294967295)), .long ((((x12 : Int32).toInt64 : Int64) <<< ((32 : Int32).toInt64 &&& 63)) ||| ((x13 : Int32).toInt64 &&& 4294967295))] q7.2)).bind (fun q14 => if q7.1 = q14.1 then f_Lw_law_1638 X v0 v1 v2 v3 v4 o5 o6 q14.2 else some (some (.int 0), q14.2)) else none))))))) else none)))))) := by
  show pS X 100 (some .boolean) k_Lw_law 236 [some (.ref v0), some (.ref v1), some (.ref v2), some (.ref v3), some (.int v4), o5, o6] [] h = _
  refine (ss_aload_n rfl rfl).trans ?_
  refine (ss_aload_n rfl rfl).trans ?_
  refine (ss_iload rfl rfl).trans ?_
  refine (ss_iconst rfl (v := 1) rfl).trans ?_
  refine (ss_iadd rfl).trans ?_
  refine (ss_iaload rfl).trans ?_
  refine congrArg (Option.bind _) (funext fun x1 => ?_)
  refine (ss_i2l rfl).trans ?_
  refine (ss_bipush rfl (v := 32) rfl).trans ?_
  refine (ss_lshl rfl).trans ?_
  refine (ss_aload_n rfl rfl).trans ?_
  refine (ss_iload rfl rfl).trans ?_
  refine (ss_iconst rfl (v := 2) rfl).trans ?_
  refine (ss_iadd rfl).trans ?_
  refine (ss_iaload rfl).trans ?_
  refine congrArg (Option.bind _) (funext fun x2 => ?_)
  refine (ss_i2l rfl).trans ?_
  refine (ss_ldc2_w rfl (v := 4294967295) rfl).trans ?_
  refine (ss_land rfl).trans ?_
  refine (ss_lor rfl).trans ?_
  refine (ss_aload_n rfl rfl).trans ?_
  refine (ss_iload rfl rfl).trans ?_
  refine (ss_iconst rfl (v := 3) rfl).trans ?_
  refine (ss_iadd rfl).trans ?_
  refine (ss_iaload rfl).trans ?_
  refine congrArg (Option.bind _) (funext fun x3 => ?_)
  refine (ss_i2l rfl).trans ?_
  refine (ss_bipush rfl (v := 32) rfl).trans ?_
  refine (ss_lshl rfl).trans ?_
  refine (ss_aload_n rfl rfl).trans ?_
  refine (ss_iload rfl rfl).trans ?_
  refine (ss_iconst rfl (v := 4) rfl).trans ?_
  refine (ss_iadd rfl).trans ?_
  refine (ss_iaload rfl).trans ?_
  refine congrArg (Option.bind _) (funext fun x4 => ?_)
  refine (ss_i2l rfl).trans ?_
  refine (ss_ldc2_w rfl (v := 4294967295) rfl).trans ?_
  refine (ss_land rfl).trans ?_
  refine (ss_lor rfl).trans ?_
  refine (ss_aload_n rfl rfl).trans ?_
  refine (ss_iload rfl rfl).trans ?_
  refine (ss_iconst rfl (v := 5) rfl).trans ?_
  refine (ss_iadd rfl).trans ?_
  refine (ss_iaload rfl).trans ?_
  refine congrArg (Option.bind _) (funext fun x5 => ?_)
  refine (ss_i2l rfl).trans ?_
  refine (ss_bipush rfl (v := 32) rfl).trans ?_
  refine (ss_lshl rfl).trans ?_
  refine (ss_aload_n rfl rfl).trans ?_
  refine (ss_iload rfl rfl).trans ?_
  refine (ss_bipush rfl (v := 6) rfl).trans ?_
  refine (ss_iadd rfl).trans ?_
  refine (ss_iaload rfl).trans ?_
  refine congrArg (Option.bind _) (funext fun x6 => ?_)
  refine (ss_i2l rfl).trans ?_
  refine (ss_ldc2_w rfl (v := 4294967295) rfl).trans ?_
  refine (ss_land rfl).trans ?_
  refine (ss_lor rfl).trans ?_
  refine (ss_callVI (as := [.long ((((x1 : Int32).toInt64 : Int64) <<< ((32 : Int32).toInt64 &&& 63)) ||| ((x2 : Int32).toInt64 &&& 4294967295)), .long ((((x3 : Int32).toInt64 : Int64) <<< ((32 : Int32).toInt64 &&& 63)) ||| ((x4 : Int32).toInt64 &&& 4294967295)), .long ((((x5 : Int32).toInt64 : Int64) <<< ((32 : Int32).toInt64 &&& 63)) ||| ((x6 : Int32).toInt64 &&& 4294967295))]) rfl t_Wp_feed (by decide) rfl rfl (by decide) (Or.inl rfl) ⟨Nat.le_of_ble_eq_true rfl, Nat.le_of_ble_eq_true rfl⟩).trans ?_
  refine pv_ite ?_ rfl
  refine congrArg (Option.bind _) (funext fun q7 => ?_)
  refine (ss_aload_n rfl rfl).trans ?_
  refine (ss_aload_n rfl rfl).trans ?_
  refine (ss_iload rfl rfl).trans ?_
  refine (ss_iconst rfl (v := 1) rfl).trans ?_
  refine (ss_iadd rfl).trans ?_
  refine (ss_iaload rfl).trans ?_
  refine congrArg (Option.bind _) (funext fun x8 => ?_)
  refine (ss_i2l rfl).trans ?_
  refine (ss_bipush rfl (v := 32) rfl).trans ?_
  refine (ss_lshl rfl).trans ?_
  refine (ss_aload_n rfl rfl).trans ?_
  refine (ss_iload rfl rfl).trans ?_
  refine (ss_iconst rfl (v := 2) rfl).trans ?_
  refine (ss_iadd rfl).trans ?_
  refine (ss_iaload rfl).trans ?_
  refine congrArg (Option.bind _) (funext fun x9 => ?_)
  refine (ss_i2l rfl).trans ?_
  refine (ss_ldc2_w rfl (v := 4294967295) rfl).trans ?_
  refine (ss_land rfl).trans ?_
  refine (ss_lor rfl).trans ?_
  refine (ss_aload_n rfl rfl).trans ?_
  refine (ss_iload rfl rfl).trans ?_
  refine (ss_iconst rfl (v := 3) rfl).trans ?_
  refine (ss_iadd rfl).trans ?_
  refine (ss_iaload rfl).trans ?_
  refine congrArg (Option.bind _) (funext fun x10 => ?_)
  refine (ss_i2l rfl).trans ?_
  refine (ss_bipush rfl (v := 32) rfl).trans ?_
  refine (ss_lshl rfl).trans ?_
  refine (ss_aload_n rfl rfl).trans ?_
  refine (ss_iload rfl rfl).trans ?_
  refine (ss_iconst rfl (v := 4) rfl).trans ?_
  refine (ss_iadd rfl).trans ?_
  refine (ss_iaload rfl).trans ?_
  refine congrArg (Option.bind _) (funext fun x11 => ?_)
  refine (ss_i2l rfl).trans ?_
  refine (ss_ldc2_w rfl (v := 4294967295) rfl).trans ?_
  refine (ss_land rfl).trans ?_
  refine (ss_lor rfl).trans ?_
  refine (ss_aload_n rfl rfl).trans ?_
  refine (ss_iload rfl rfl).trans ?_
  refine (ss_iconst rfl (v := 5) rfl).trans ?_
  refine (ss_iadd rfl).trans ?_
  refine (ss_iaload rfl).trans ?_
  refine congrArg (Option.bind _) (funext fun x12 => ?_)
  refine (ss_i2l rfl).trans ?_
  refine (ss_bipush rfl (v := 32) rfl).trans ?_
  refine (ss_lshl rfl).trans ?_
  refine (ss_aload_n rfl rfl).trans ?_
  refine (ss_iload rfl rfl).trans ?_
  refine (ss_bipush rfl (v := 6) rfl).trans ?_
  refine (ss_iadd rfl).trans ?_
  refine (ss_iaload rfl).trans ?_
  refine congrArg (Option.bind _) (funext fun x13 => ?_)
  refine (ss_i2l rfl).trans ?_
  refine (ss_ldc2_w rfl (v := 4294967295) rfl).trans ?_
  refine (ss_land rfl).trans ?_
  refine (ss_lor rfl).trans ?_
  refine (ss_callVI (as := [.long ((((x8 : Int32).toInt64 : Int64) <<< ((32 : Int32).toInt64 &&& 63)) ||| ((x9 : Int32).toInt64 &&& 4294967295)), .long ((((x10 : Int32).toInt64 : Int64) <<< ((32 : Int32).toInt64 &&& 63)) ||| ((x11 : Int32).toInt64 &&& 4294967295)), .long ((((x12 : Int32).toInt64 : Int64) <<< ((32 : Int32).toInt64 &&& 63)) ||| ((x13 : Int32).toInt64 &&& 4294967295))]) rfl t_Md_feed (by decide) rfl rfl (by simp [Value.category]) (Or.inl rfl) ⟨Nat.le_of_ble_eq_true rfl, Nat.le_of_ble_eq_true rfl⟩).trans ?_
  refine pv_ite ?_ rfl
  refine congrArg (Option.bind _) (funext fun q14 => ?_)
  refine (ss_icmp_eq rfl).trans ?_
  refine pv_ite ?_ ?_
  · rfl
  · refine (ss_iconst rfl (v := 0) rfl).trans ?_
    exact (ss_zreturn rfl).trans (if_pos (by decide))
set_option maxRecDepth 100000 in
theorem u_Lw_law_383 (X : pv_X) (v0 : Nat) (v1 : Nat) (v2 : Nat) (v3 : Nat) (v4 : Int32) (o5 : Option Value) (o6 : Option Value) (h : pv_H) : f_Lw_law_383 X v0 v1 v2 v3 v4 o5 o6 h =
    if pv_rc h v1 10 = true then (pv_tI (pM X m_Wp_port [.ref v1] h)).bind (fun q1 => if pv_rc q1.2 v2 11 = true then (pv_tI (pM X m_Md_port [.ref v2] q1.2)).bind (fun q2 => if q1.1 = q2.1 then f_Lw_law_1638 X v0 v1 v2 v3 v4 o5 o6 q2.2 else some (some (.int 0), q2.2)) else none) else none := by
  show pS X 100 (some .boolean) k_Lw_law 383 [some (.ref v0), some (.ref v1), some (.ref v2), some (.ref v3), some (.int v4), o5, o6] [] h = _
  refine (ss_aload_n rfl rfl).trans ?_
  refine (ss_callVI (as := []) rfl t_Wp_port (by decide) rfl rfl (by decide) (Or.inl rfl) ⟨Nat.le_of_ble_eq_true rfl, Nat.le_of_ble_eq_true rfl⟩).trans ?_
  refine pv_ite ?_ rfl
  refine congrArg (Option.bind _) (funext fun q1 => ?_)
  refine (ss_aload_n rfl rfl).trans ?_
  refine (ss_callVI (as := []) rfl t_Md_port (by decide) rfl rfl (by simp [Value.category]) (Or.inl rfl) ⟨Nat.le_of_ble_eq_true rfl, Nat.le_of_ble_eq_true rfl⟩).trans ?_
  refine pv_ite ?_ rfl
  refine congrArg (Option.bind _) (funext fun q2 => ?_)
  refine (ss_icmp_eq rfl).trans ?_
  refine pv_ite ?_ ?_
  · rfl
  · refine (ss_iconst rfl (v := 0) rfl).trans ?_
    exact (ss_zreturn rfl).trans (if_pos (by decide))
set_option maxRecDepth 100000 in
theorem u_Lw_law_396 (X : pv_X) (v0 : Nat) (v1 : Nat) (v2 : Nat) (v3 : Nat) (v4 : Int32) (o5 : Option Value) (o6 : Option Value) (h : pv_H) : f_Lw_law_396 X v0 v1 v2 v3 v4 o5 o6 h =
    if pv_rc h v1 10 = true then (pv_tI (pM X m_Wp_day [.ref v1] h)).bind (fun q1 => if pv_rc q1.2 v2 11 = true then (pv_tI (pM X m_Md_day [.ref v2] q1.2)).bind (fun q2 => if q1.1 = q2.1 then f_Lw_law_1638 X v0 v1 v2 v3 v4 o5 o6 q2.2 else some (some (.int 0), q2.2)) else none) else none := by
  show pS X 100 (some .boolean) k_Lw_law 396 [some (.ref v0), some (.ref v1), some (.ref v2), some (.ref v3), some (.int v4), o5, o6] [] h = _
  refine (ss_aload_n rfl rfl).trans ?_
  refine (ss_callVI (as := []) rfl t_Wp_day (by decide) rfl rfl (by decide) (Or.inl rfl) ⟨Nat.le_of_ble_eq_true rfl, Nat.le_of_ble_eq_true rfl⟩).trans ?_
  refine pv_ite ?_ rfl
  refine congrArg (Option.bind _) (funext fun q1 => ?_)
  refine (ss_aload_n rfl rfl).trans ?_
  refine (ss_callVI (as := []) rfl t_Md_day (by decide) rfl rfl (by simp [Value.category]) (Or.inl rfl) ⟨Nat.le_of_ble_eq_true rfl, Nat.le_of_ble_eq_true rfl⟩).trans ?_
  refine pv_ite ?_ rfl
  refine congrArg (Option.bind _) (funext fun q2 => ?_)
  refine (ss_icmp_eq rfl).trans ?_
  refine pv_ite ?_ ?_
  · rfl
  · refine (ss_iconst rfl (v := 0) rfl).trans ?_
    exact (ss_zreturn rfl).trans (if_pos (by decide))
set_option maxRecDepth 100000 in
theorem u_Lw_law_409 (X : pv_X) (v0 : Nat) (v1 : Nat) (v2 : Nat) (v3 : Nat) (v4 : Int32) (o5 : Option Value) (o6 : Option Value) (h : pv_H) : f_Lw_law_409 X v0 v1 v2 v3 v4 o5 o6 h =
    (pv_aX X h v0 (v4 + 1)).bind (fun x1 => (pv_aX X h v0 (v4 + 2)).bind (fun x2 => if pv_rc h v1 10 = true then (pv_tI (pM X m_Wp_person [.ref v1, .int x1, .int x2] h)).bind (fun q3 => (pv_aX X q3.2 v0 (v4 + 1)).bind (fun x4 => (pv_aX X q3.2 v0 (v4 + 2)).bind (fun x5 => if pv_rc q3.2 v2 11 = true then (pv_tI (pM X m_Md_person [.ref v2, .int x4, .int x5] q3.2)).bind (fun q6 => if q3.1 = q6.1 then f_Lw_law_1638 X v0 v1 v2 v3 v4 o5 o6 q6.2 else some (some (.int 0), q6.2)) else none))) else none)) := by
  show pS X 100 (some .boolean) k_Lw_law 409 [some (.ref v0), some (.ref v1), some (.ref v2), some (.ref v3), some (.int v4), o5, o6] [] h = _
  refine (ss_aload_n rfl rfl).trans ?_
  refine (ss_aload_n rfl rfl).trans ?_
  refine (ss_iload rfl rfl).trans ?_
  refine (ss_iconst rfl (v := 1) rfl).trans ?_
  refine (ss_iadd rfl).trans ?_
  refine (ss_iaload rfl).trans ?_
  refine congrArg (Option.bind _) (funext fun x1 => ?_)
  refine (ss_aload_n rfl rfl).trans ?_
  refine (ss_iload rfl rfl).trans ?_
  refine (ss_iconst rfl (v := 2) rfl).trans ?_
  refine (ss_iadd rfl).trans ?_
  refine (ss_iaload rfl).trans ?_
  refine congrArg (Option.bind _) (funext fun x2 => ?_)
  refine (ss_callVI (as := [.int x1, .int x2]) rfl t_Wp_person (by decide) rfl rfl (by decide) (Or.inl rfl) ⟨Nat.le_of_ble_eq_true rfl, Nat.le_of_ble_eq_true rfl⟩).trans ?_
  refine pv_ite ?_ rfl
  refine congrArg (Option.bind _) (funext fun q3 => ?_)
  refine (ss_aload_n rfl rfl).trans ?_
  refine (ss_aload_n rfl rfl).trans ?_
  refine (ss_iload rfl rfl).trans ?_
  refine (ss_iconst rfl (v := 1) rfl).trans ?_
  refine (ss_iadd rfl).trans ?_
  refine (ss_iaload rfl).trans ?_
  refine congrArg (Option.bind _) (funext fun x4 => ?_)
  refine (ss_aload_n rfl rfl).trans ?_
  refine (ss_iload rfl rfl).trans ?_
  refine (ss_iconst rfl (v := 2) rfl).trans ?_
  refine (ss_iadd rfl).trans ?_
  refine (ss_iaload rfl).trans ?_
  refine congrArg (Option.bind _) (funext fun x5 => ?_)
  refine (ss_callVI (as := [.int x4, .int x5]) rfl t_Md_person (by decide) rfl rfl (by simp [Value.category]) (Or.inl rfl) ⟨Nat.le_of_ble_eq_true rfl, Nat.le_of_ble_eq_true rfl⟩).trans ?_
  refine pv_ite ?_ rfl
  refine congrArg (Option.bind _) (funext fun q6 => ?_)
  refine (ss_icmp_eq rfl).trans ?_
  refine pv_ite ?_ ?_
  · rfl
  · refine (ss_iconst rfl (v := 0) rfl).trans ?_
    exact (ss_zreturn rfl).trans (if_pos (by decide))
set_option maxRecDepth 100000 in
theorem u_Lw_law_446 (X : pv_X) (v0 : Nat) (v1 : Nat) (v2 : Nat) (v3 : Nat) (v4 : Int32) (o5 : Option Value) (o6 : Option Value) (h : pv_H) : f_Lw_law_446 X v0 v1 v2 v3 v4 o5 o6 h =
    (pv_aX X h v0 (v4 + 1)).bind (fun x1 => (pv_aX X h v0 (v4 + 2)).bind (fun x2 => if pv_rc h v1 10 = true then (pv_tI (pM X m_Wp_ask [.ref v1, .int x1, .int x2] h)).bind (fun q3 => (pv_aX X q3.2 v0 (v4 + 1)).bind (fun x4 => (pv_aX X q3.2 v0 (v4 + 2)).bind (fun x5 => if pv_rc q3.2 v2 11 = true then (pv_tI (pM X m_Md_ask [.ref v2, .int x4, .int x5] q3.2)).bind (fun q6 => if q3.1 = q6.1 then f_Lw_law_1638 X v0 v1 v2 v3 v4 o5 o6 q6.2 else some (some (.int 0), q6.2)) else none))) else none)) := by
  show pS X 100 (some .boolean) k_Lw_law 446 [some (.ref v0), some (.ref v1), some (.ref v2), some (.ref v3), some (.int v4), o5, o6] [] h = _
  refine (ss_aload_n rfl rfl).trans ?_
  refine (ss_aload_n rfl rfl).trans ?_
  refine (ss_iload rfl rfl).trans ?_
  refine (ss_iconst rfl (v := 1) rfl).trans ?_
  refine (ss_iadd rfl).trans ?_
  refine (ss_iaload rfl).trans ?_
  refine congrArg (Option.bind _) (funext fun x1 => ?_)
  refine (ss_aload_n rfl rfl).trans ?_
  refine (ss_iload rfl rfl).trans ?_
  refine (ss_iconst rfl (v := 2) rfl).trans ?_
  refine (ss_iadd rfl).trans ?_
  refine (ss_iaload rfl).trans ?_
  refine congrArg (Option.bind _) (funext fun x2 => ?_)
  refine (ss_callVI (as := [.int x1, .int x2]) rfl t_Wp_ask (by decide) rfl rfl (by decide) (Or.inl rfl) ⟨Nat.le_of_ble_eq_true rfl, Nat.le_of_ble_eq_true rfl⟩).trans ?_
  refine pv_ite ?_ rfl
  refine congrArg (Option.bind _) (funext fun q3 => ?_)
  refine (ss_aload_n rfl rfl).trans ?_
  refine (ss_aload_n rfl rfl).trans ?_
  refine (ss_iload rfl rfl).trans ?_
  refine (ss_iconst rfl (v := 1) rfl).trans ?_
  refine (ss_iadd rfl).trans ?_
  refine (ss_iaload rfl).trans ?_
  refine congrArg (Option.bind _) (funext fun x4 => ?_)
  refine (ss_aload_n rfl rfl).trans ?_
  refine (ss_iload rfl rfl).trans ?_
  refine (ss_iconst rfl (v := 2) rfl).trans ?_
  refine (ss_iadd rfl).trans ?_
  refine (ss_iaload rfl).trans ?_
  refine congrArg (Option.bind _) (funext fun x5 => ?_)
  refine (ss_callVI (as := [.int x4, .int x5]) rfl t_Md_ask (by decide) rfl rfl (by simp [Value.category]) (Or.inl rfl) ⟨Nat.le_of_ble_eq_true rfl, Nat.le_of_ble_eq_true rfl⟩).trans ?_
  refine pv_ite ?_ rfl
  refine congrArg (Option.bind _) (funext fun q6 => ?_)
  refine (ss_icmp_eq rfl).trans ?_
  refine pv_ite ?_ ?_
  · rfl
  · refine (ss_iconst rfl (v := 0) rfl).trans ?_
    exact (ss_zreturn rfl).trans (if_pos (by decide))
set_option maxRecDepth 100000 in
theorem u_Lw_law_483 (X : pv_X) (v0 : Nat) (v1 : Nat) (v2 : Nat) (v3 : Nat) (v4 : Int32) (o5 : Option Value) (o6 : Option Value) (h : pv_H) : f_Lw_law_483 X v0 v1 v2 v3 v4 o5 o6 h =
    (pv_aX X h v0 (v4 + 1)).bind (fun x1 => (pv_aX X h v0 (v4 + 2)).bind (fun x2 => if pv_rc h v1 10 = true then (pv_tI (pM X m_Wp_fright [.ref v1, .int x1, .int x2] h)).bind (fun q3 => (pv_aX X q3.2 v0 (v4 + 1)).bind (fun x4 => (pv_aX X q3.2 v0 (v4 + 2)).bind (fun x5 => if pv_rc q3.2 v2 11 = true then (pv_tI (pM X m_Md_fright [.ref v2, .int x4, .int x5] q3.2)).bind (fun q6 => if q3.1 = q6.1 then f_Lw_law_1638 X v0 v1 v2 v3 v4 o5 o6 q6.2 else some (some (.int 0), q6.2)) else none))) else none)) := by
  show pS X 100 (some .boolean) k_Lw_law 483 [some (.ref v0), some (.ref v1), some (.ref v2), some (.ref v3), some (.int v4), o5, o6] [] h = _
  refine (ss_aload_n rfl rfl).trans ?_
  refine (ss_aload_n rfl rfl).trans ?_
  refine (ss_iload rfl rfl).trans ?_
  refine (ss_iconst rfl (v := 1) rfl).trans ?_
  refine (ss_iadd rfl).trans ?_
  refine (ss_iaload rfl).trans ?_
  refine congrArg (Option.bind _) (funext fun x1 => ?_)
  refine (ss_aload_n rfl rfl).trans ?_
  refine (ss_iload rfl rfl).trans ?_
  refine (ss_iconst rfl (v := 2) rfl).trans ?_
  refine (ss_iadd rfl).trans ?_
  refine (ss_iaload rfl).trans ?_
  refine congrArg (Option.bind _) (funext fun x2 => ?_)
  refine (ss_callVI (as := [.int x1, .int x2]) rfl t_Wp_fright (by decide) rfl rfl (by decide) (Or.inl rfl) ⟨Nat.le_of_ble_eq_true rfl, Nat.le_of_ble_eq_true rfl⟩).trans ?_
  refine pv_ite ?_ rfl
  refine congrArg (Option.bind _) (funext fun q3 => ?_)
  refine (ss_aload_n rfl rfl).trans ?_
  refine (ss_aload_n rfl rfl).trans ?_
  refine (ss_iload rfl rfl).trans ?_
  refine (ss_iconst rfl (v := 1) rfl).trans ?_
  refine (ss_iadd rfl).trans ?_
  refine (ss_iaload rfl).trans ?_
  refine congrArg (Option.bind _) (funext fun x4 => ?_)
  refine (ss_aload_n rfl rfl).trans ?_
  refine (ss_iload rfl rfl).trans ?_
  refine (ss_iconst rfl (v := 2) rfl).trans ?_
  refine (ss_iadd rfl).trans ?_
  refine (ss_iaload rfl).trans ?_
  refine congrArg (Option.bind _) (funext fun x5 => ?_)
  refine (ss_callVI (as := [.int x4, .int x5]) rfl t_Md_fright (by decide) rfl rfl (by simp [Value.category]) (Or.inl rfl) ⟨Nat.le_of_ble_eq_true rfl, Nat.le_of_ble_eq_true rfl⟩).trans ?_
  refine pv_ite ?_ rfl
  refine congrArg (Option.bind _) (funext fun q6 => ?_)
  refine (ss_icmp_eq rfl).trans ?_
  refine pv_ite ?_ ?_
  · rfl
  · refine (ss_iconst rfl (v := 0) rfl).trans ?_
    exact (ss_zreturn rfl).trans (if_pos (by decide))
set_option maxRecDepth 100000 in
theorem u_Lw_law_520 (X : pv_X) (v0 : Nat) (v1 : Nat) (v2 : Nat) (v3 : Nat) (v4 : Int32) (o5 : Option Value) (o6 : Option Value) (h : pv_H) : f_Lw_law_520 X v0 v1 v2 v3 v4 o5 o6 h =
    (pv_aX X h v0 (v4 + 1)).bind (fun x1 => (pv_aX X h v0 (v4 + 2)).bind (fun x2 => if pv_rc h v1 10 = true then (pv_tI (pM X m_Wp_soothe [.ref v1, .int x1, .int x2] h)).bind (fun q3 => (pv_aX X q3.2 v0 (v4 + 1)).bind (fun x4 => (pv_aX X q3.2 v0 (v4 + 2)).bind (fun x5 => if pv_rc q3.2 v2 11 = true then (pv_tI (pM X m_Md_soothe [.ref v2, .int x4, .int x5] q3.2)).bind (fun q6 => if q3.1 = q6.1 then f_Lw_law_1638 X v0 v1 v2 v3 v4 o5 o6 q6.2 else some (some (.int 0), q6.2)) else none))) else none)) := by
  show pS X 100 (some .boolean) k_Lw_law 520 [some (.ref v0), some (.ref v1), some (.ref v2), some (.ref v3), some (.int v4), o5, o6] [] h = _
  refine (ss_aload_n rfl rfl).trans ?_
  refine (ss_aload_n rfl rfl).trans ?_
  refine (ss_iload rfl rfl).trans ?_
  refine (ss_iconst rfl (v := 1) rfl).trans ?_
  refine (ss_iadd rfl).trans ?_
  refine (ss_iaload rfl).trans ?_
  refine congrArg (Option.bind _) (funext fun x1 => ?_)
  refine (ss_aload_n rfl rfl).trans ?_
  refine (ss_iload rfl rfl).trans ?_
  refine (ss_iconst rfl (v := 2) rfl).trans ?_
  refine (ss_iadd rfl).trans ?_
  refine (ss_iaload rfl).trans ?_
  refine congrArg (Option.bind _) (funext fun x2 => ?_)
  refine (ss_callVI (as := [.int x1, .int x2]) rfl t_Wp_soothe (by decide) rfl rfl (by decide) (Or.inl rfl) ⟨Nat.le_of_ble_eq_true rfl, Nat.le_of_ble_eq_true rfl⟩).trans ?_
  refine pv_ite ?_ rfl
  refine congrArg (Option.bind _) (funext fun q3 => ?_)
  refine (ss_aload_n rfl rfl).trans ?_
  refine (ss_aload_n rfl rfl).trans ?_
  refine (ss_iload rfl rfl).trans ?_
  refine (ss_iconst rfl (v := 1) rfl).trans ?_
  refine (ss_iadd rfl).trans ?_
  refine (ss_iaload rfl).trans ?_
  refine congrArg (Option.bind _) (funext fun x4 => ?_)
  refine (ss_aload_n rfl rfl).trans ?_
  refine (ss_iload rfl rfl).trans ?_
  refine (ss_iconst rfl (v := 2) rfl).trans ?_
  refine (ss_iadd rfl).trans ?_
  refine (ss_iaload rfl).trans ?_
  refine congrArg (Option.bind _) (funext fun x5 => ?_)
  refine (ss_callVI (as := [.int x4, .int x5]) rfl t_Md_soothe (by decide) rfl rfl (by simp [Value.category]) (Or.inl rfl) ⟨Nat.le_of_ble_eq_true rfl, Nat.le_of_ble_eq_true rfl⟩).trans ?_
  refine pv_ite ?_ rfl
  refine congrArg (Option.bind _) (funext fun q6 => ?_)
  refine (ss_icmp_eq rfl).trans ?_
  refine pv_ite ?_ ?_
  · rfl
  · refine (ss_iconst rfl (v := 0) rfl).trans ?_
    exact (ss_zreturn rfl).trans (if_pos (by decide))
set_option maxRecDepth 100000 in
theorem u_Lw_law_557 (X : pv_X) (v0 : Nat) (v1 : Nat) (v2 : Nat) (v3 : Nat) (v4 : Int32) (o5 : Option Value) (o6 : Option Value) (h : pv_H) : f_Lw_law_557 X v0 v1 v2 v3 v4 o5 o6 h =
    if pv_rc h v1 10 = true then (pv_tI (pM X m_Wp_quarter [.ref v1] h)).bind (fun q1 => if pv_rc q1.2 v2 11 = true then (pv_tI (pM X m_Md_quarter [.ref v2] q1.2)).bind (fun q2 => if q1.1 = q2.1 then f_Lw_law_1638 X v0 v1 v2 v3 v4 o5 o6 q2.2 else some (some (.int 0), q2.2)) else none) else none := by
  show pS X 100 (some .boolean) k_Lw_law 557 [some (.ref v0), some (.ref v1), some (.ref v2), some (.ref v3), some (.int v4), o5, o6] [] h = _
  refine (ss_aload_n rfl rfl).trans ?_
  refine (ss_callVI (as := []) rfl t_Wp_quarter (by decide) rfl rfl (by decide) (Or.inl rfl) ⟨Nat.le_of_ble_eq_true rfl, Nat.le_of_ble_eq_true rfl⟩).trans ?_
  refine pv_ite ?_ rfl
  refine congrArg (Option.bind _) (funext fun q1 => ?_)
  refine (ss_aload_n rfl rfl).trans ?_
  refine (ss_callVI (as := []) rfl t_Md_quarter (by decide) rfl rfl (by simp [Value.category]) (Or.inl rfl) ⟨Nat.le_of_ble_eq_true rfl, Nat.le_of_ble_eq_true rfl⟩).trans ?_
  refine pv_ite ?_ rfl
  refine congrArg (Option.bind _) (funext fun q2 => ?_)
  refine (ss_icmp_eq rfl).trans ?_
  refine pv_ite ?_ ?_
  · rfl
  · refine (ss_iconst rfl (v := 0) rfl).trans ?_
    exact (ss_zreturn rfl).trans (if_pos (by decide))
set_option maxRecDepth 100000 in
theorem u_Lw_law_570 (X : pv_X) (v0 : Nat) (v1 : Nat) (v2 : Nat) (v3 : Nat) (v4 : Int32) (o5 : Option Value) (o6 : Option Value) (h : pv_H) : f_Lw_law_570 X v0 v1 v2 v3 v4 o5 o6 h =
    if pv_rc h v1 10 = true then (pv_tI (pM X m_Wp_undo [.ref v1] h)).bind (fun q1 => if pv_rc q1.2 v2 11 = true then (pv_tI (pM X m_Md_undo [.ref v2] q1.2)).bind (fun q2 => if q1.1 = q2.1 then f_Lw_law_1638 X v0 v1 v2 v3 v4 o5 o6 q2.2 else some (some (.int 0), q2.2)) else none) else none := by
  show pS X 100 (some .boolean) k_Lw_law 570 [some (.ref v0), some (.ref v1), some (.ref v2), some (.ref v3), some (.int v4), o5, o6] [] h = _
  refine (ss_aload_n rfl rfl).trans ?_
  refine (ss_callVI (as := []) rfl t_Wp_undo (by decide) rfl rfl (by decide) (Or.inr rfl) ⟨Nat.le_of_ble_eq_true rfl, Nat.le_of_ble_eq_true rfl⟩).trans ?_
  refine pv_ite ?_ rfl
  refine congrArg (Option.bind _) (funext fun q1 => ?_)
  refine (ss_aload_n rfl rfl).trans ?_
  refine (ss_callVI (as := []) rfl t_Md_undo (by decide) rfl rfl (by simp [Value.category]) (Or.inr rfl) ⟨Nat.le_of_ble_eq_true rfl, Nat.le_of_ble_eq_true rfl⟩).trans ?_
  refine pv_ite ?_ rfl
  refine congrArg (Option.bind _) (funext fun q2 => ?_)
  refine (ss_icmp_eq rfl).trans ?_
  refine pv_ite ?_ ?_
  · rfl
  · refine (ss_iconst rfl (v := 0) rfl).trans ?_
    exact (ss_zreturn rfl).trans (if_pos (by decide))
set_option maxRecDepth 100000 in
theorem u_Lw_law_583 (X : pv_X) (v0 : Nat) (v1 : Nat) (v2 : Nat) (v3 : Nat) (v4 : Int32) (o5 : Option Value) (o6 : Option Value) (h : pv_H) : f_Lw_law_583 X v0 v1 v2 v3 v4 o5 o6 h =
    (pv_aX X h v0 (v4 + 1)).bind (fun x1 => if pv_rc h v1 10 = true then (pv_tI (pM X m_Wp_judged [.ref v1, .int x1] h)).bind (fun q2 => (pv_aX X q2.2 v0 (v4 + 1)).bind (fun x3 => if pv_rc q2.2 v2 11 = true then (pv_tI (pM X m_Md_judged [.ref v2, .int x3] q2.2)).bind (fun q4 => if q2.1 = q4.1 then f_Lw_law_1638 X v0 v1 v2 v3 v4 o5 o6 q4.2 else some (some (.int 0), q4.2)) else none)) else none) := by
  show pS X 100 (some .boolean) k_Lw_law 583 [some (.ref v0), some (.ref v1), some (.ref v2), some (.ref v3), some (.int v4), o5, o6] [] h = _
  refine (ss_aload_n rfl rfl).trans ?_
  refine (ss_aload_n rfl rfl).trans ?_
  refine (ss_iload rfl rfl).trans ?_
  refine (ss_iconst rfl (v := 1) rfl).trans ?_
  refine (ss_iadd rfl).trans ?_
  refine (ss_iaload rfl).trans ?_
  refine congrArg (Option.bind _) (funext fun x1 => ?_)
  refine (ss_callVI (as := [.int x1]) rfl t_Wp_judged (by decide) rfl rfl (by decide) (Or.inl rfl) ⟨Nat.le_of_ble_eq_true rfl, Nat.le_of_ble_eq_true rfl⟩).trans ?_
  refine pv_ite ?_ rfl
  refine congrArg (Option.bind _) (funext fun q2 => ?_)
  refine (ss_aload_n rfl rfl).trans ?_
  refine (ss_aload_n rfl rfl).trans ?_
  refine (ss_iload rfl rfl).trans ?_
  refine (ss_iconst rfl (v := 1) rfl).trans ?_
  refine (ss_iadd rfl).trans ?_
  refine (ss_iaload rfl).trans ?_
  refine congrArg (Option.bind _) (funext fun x3 => ?_)
  refine (ss_callVI (as := [.int x3]) rfl t_Md_judged (by decide) rfl rfl (by simp [Value.category]) (Or.inl rfl) ⟨Nat.le_of_ble_eq_true rfl, Nat.le_of_ble_eq_true rfl⟩).trans ?_
  refine pv_ite ?_ rfl
  refine congrArg (Option.bind _) (funext fun q4 => ?_)
  refine (ss_icmp_eq rfl).trans ?_
  refine pv_ite ?_ ?_
  · rfl
  · refine (ss_iconst rfl (v := 0) rfl).trans ?_
    exact (ss_zreturn rfl).trans (if_pos (by decide))
set_option maxRecDepth 100000 in
theorem u_Lw_law_608 (X : pv_X) (v0 : Nat) (v1 : Nat) (v2 : Nat) (v3 : Nat) (v4 : Int32) (o5 : Option Value) (o6 : Option Value) (h : pv_H) : f_Lw_law_608 X v0 v1 v2 v3 v4 o5 o6 h =
    (pv_aX X h v0 (v4 + 1)).bind (fun x1 => (pv_aX X h v0 (v4 + 2)).bind (fun x2 => if pv_rc h v1 10 = true then (pv_tI (pM X m_Wp_later [.ref v1, .int x1, .int x2] h)).bind (fun q3 => (pv_aX X q3.2 v0 (v4 + 1)).bind (fun x4 => (pv_aX X q3.2 v0 (v4 + 2)).bind (fun x5 => if pv_rc q3.2 v2 11 = true then (pv_tI (pM X m_Md_later [.ref v2, .int x4, .int x5] q3.2)).bind (fun q6 => if q3.1 = q6.1 then f_Lw_law_1638 X v0 v1 v2 v3 v4 o5 o6 q6.2 else some (some (.int 0), q6.2)) else none))) else none)) := by
  show pS X 100 (some .boolean) k_Lw_law 608 [some (.ref v0), some (.ref v1), some (.ref v2), some (.ref v3), some (.int v4), o5, o6] [] h = _
  refine (ss_aload_n rfl rfl).trans ?_
  refine (ss_aload_n rfl rfl).trans ?_
  refine (ss_iload rfl rfl).trans ?_
  refine (ss_iconst rfl (v := 1) rfl).trans ?_
  refine (ss_iadd rfl).trans ?_
  refine (ss_iaload rfl).trans ?_
  refine congrArg (Option.bind _) (funext fun x1 => ?_)
  refine (ss_aload_n rfl rfl).trans ?_
  refine (ss_iload rfl rfl).trans ?_
  refine (ss_iconst rfl (v := 2) rfl).trans ?_
  refine (ss_iadd rfl).trans ?_
  refine (ss_iaload rfl).trans ?_
  refine congrArg (Option.bind _) (funext fun x2 => ?_)
  refine (ss_callVI (as := [.int x1, .int x2]) rfl t_Wp_later (by decide) rfl rfl (by decide) (Or.inl rfl) ⟨Nat.le_of_ble_eq_true rfl, Nat.le_of_ble_eq_true rfl⟩).trans ?_
  refine pv_ite ?_ rfl
  refine congrArg (Option.bind _) (funext fun q3 => ?_)
  refine (ss_aload_n rfl rfl).trans ?_
  refine (ss_aload_n rfl rfl).trans ?_
  refine (ss_iload rfl rfl).trans ?_
  refine (ss_iconst rfl (v := 1) rfl).trans ?_
  refine (ss_iadd rfl).trans ?_
  refine (ss_iaload rfl).trans ?_
  refine congrArg (Option.bind _) (funext fun x4 => ?_)
  refine (ss_aload_n rfl rfl).trans ?_
  refine (ss_iload rfl rfl).trans ?_
  refine (ss_iconst rfl (v := 2) rfl).trans ?_
  refine (ss_iadd rfl).trans ?_
  refine (ss_iaload rfl).trans ?_
  refine congrArg (Option.bind _) (funext fun x5 => ?_)
  refine (ss_callVI (as := [.int x4, .int x5]) rfl t_Md_later (by decide) rfl rfl (by simp [Value.category]) (Or.inl rfl) ⟨Nat.le_of_ble_eq_true rfl, Nat.le_of_ble_eq_true rfl⟩).trans ?_
  refine pv_ite ?_ rfl
  refine congrArg (Option.bind _) (funext fun q6 => ?_)
  refine (ss_icmp_eq rfl).trans ?_
  refine pv_ite ?_ ?_
  · rfl
  · refine (ss_iconst rfl (v := 0) rfl).trans ?_
    exact (ss_zreturn rfl).trans (if_pos (by decide))
set_option maxRecDepth 100000 in
theorem u_Lw_law_645 (X : pv_X) (v0 : Nat) (v1 : Nat) (v2 : Nat) (v3 : Nat) (v4 : Int32) (o5 : Option Value) (o6 : Option Value) (h : pv_H) : f_Lw_law_645 X v0 v1 v2 v3 v4 o5 o6 h =
    if pv_rc h v1 10 = true then (pv_tI (pM X m_Wp_worst [.ref v1] h)).bind (fun q1 => if pv_rc q1.2 v2 11 = true then (pv_tI (pM X m_Md_worst [.ref v2] q1.2)).bind (fun q2 => if q1.1 = q2.1 then f_Lw_law_1638 X v0 v1 v2 v3 v4 o5 o6 q2.2 else some (some (.int 0), q2.2)) else none) else none := by
  show pS X 100 (some .boolean) k_Lw_law 645 [some (.ref v0), some (.ref v1), some (.ref v2), some (.ref v3), some (.int v4), o5, o6] [] h = _
  refine (ss_aload_n rfl rfl).trans ?_
  refine (ss_callVI (as := []) rfl t_Wp_worst (by decide) rfl rfl (by decide) (Or.inl rfl) ⟨Nat.le_of_ble_eq_true rfl, Nat.le_of_ble_eq_true rfl⟩).trans ?_
  refine pv_ite ?_ rfl
  refine congrArg (Option.bind _) (funext fun q1 => ?_)
  refine (ss_aload_n rfl rfl).trans ?_
  refine (ss_callVI (as := []) rfl t_Md_worst (by decide) rfl rfl (by simp [Value.category]) (Or.inl rfl) ⟨Nat.le_of_ble_eq_true rfl, Nat.le_of_ble_eq_true rfl⟩).trans ?_
  refine pv_ite ?_ rfl
  refine congrArg (Option.bind _) (funext fun q2 => ?_)
  refine (ss_icmp_eq rfl).trans ?_
  refine pv_ite ?_ ?_
  · rfl
  · refine (ss_iconst rfl (v := 0) rfl).trans ?_
    exact (ss_zreturn rfl).trans (if_pos (by decide))
set_option maxRecDepth 100000 in
theorem u_Lw_law_658 (X : pv_X) (v0 : Nat) (v1 : Nat) (v2 : Nat) (v3 : Nat) (v4 : Int32) (o5 : Option Value) (o6 : Option Value) (h : pv_H) : f_Lw_law_658 X v0 v1 v2 v3 v4 o5 o6 h =
    if pv_rc h v1 10 = true then (pv_tI (pM X m_Wp_middle [.ref v1] h)).bind (fun q1 => if pv_rc q1.2 v2 11 = true then (pv_tI (pM X m_Md_middle [.ref v2] q1.2)).bind (fun q2 => if q1.1 = q2.1 then f_Lw_law_1638 X v0 v1 v2 v3 v4 o5 o6 q2.2 else some (some (.int 0), q2.2)) else none) else none := by
  show pS X 100 (some .boolean) k_Lw_law 658 [some (.ref v0), some (.ref v1), some (.ref v2), some (.ref v3), some (.int v4), o5, o6] [] h = _
  refine (ss_aload_n rfl rfl).trans ?_
  refine (ss_callVI (as := []) rfl t_Wp_middle (by decide) rfl rfl (by decide) (Or.inl rfl) ⟨Nat.le_of_ble_eq_true rfl, Nat.le_of_ble_eq_true rfl⟩).trans ?_
  refine pv_ite ?_ rfl
  refine congrArg (Option.bind _) (funext fun q1 => ?_)
  refine (ss_aload_n rfl rfl).trans ?_
  refine (ss_callVI (as := []) rfl t_Md_middle (by decide) rfl rfl (by simp [Value.category]) (Or.inl rfl) ⟨Nat.le_of_ble_eq_true rfl, Nat.le_of_ble_eq_true rfl⟩).trans ?_
  refine pv_ite ?_ rfl
  refine congrArg (Option.bind _) (funext fun q2 => ?_)
  refine (ss_icmp_eq rfl).trans ?_
  refine pv_ite ?_ ?_
  · rfl
  · refine (ss_iconst rfl (v := 0) rfl).trans ?_
    exact (ss_zreturn rfl).trans (if_pos (by decide))
set_option maxRecDepth 100000 in
theorem u_Lw_law_671 (X : pv_X) (v0 : Nat) (v1 : Nat) (v2 : Nat) (v3 : Nat) (v4 : Int32) (o5 : Option Value) (o6 : Option Value) (h : pv_H) : f_Lw_law_671 X v0 v1 v2 v3 v4 o5 o6 h =
    (pv_aX X h v0 (v4 + 1)).bind (fun x1 => if pv_rc h v1 10 = true then (pv_tI (pM X m_Wp_noon [.ref v1, .int x1] h)).bind (fun q2 => (pv_aX X q2.2 v0 (v4 + 1)).bind (fun x3 => if pv_rc q2.2 v2 11 = true then (pv_tI (pM X m_Md_noon [.ref v2, .int x3] q2.2)).bind (fun q4 => if q2.1 = q4.1 then f_Lw_law_1638 X v0 v1 v2 v3 v4 o5 o6 q4.2 else some (some (.int 0), q4.2)) else none)) else none) := by
  show pS X 100 (some .boolean) k_Lw_law 671 [some (.ref v0), some (.ref v1), some (.ref v2), some (.ref v3), some (.int v4), o5, o6] [] h = _
  refine (ss_aload_n rfl rfl).trans ?_
  refine (ss_aload_n rfl rfl).trans ?_
  refine (ss_iload rfl rfl).trans ?_
  refine (ss_iconst rfl (v := 1) rfl).trans ?_
  refine (ss_iadd rfl).trans ?_
  refine (ss_iaload rfl).trans ?_
  refine congrArg (Option.bind _) (funext fun x1 => ?_)
  refine (ss_callVI (as := [.int x1]) rfl t_Wp_noon (by decide) rfl rfl (by decide) (Or.inl rfl) ⟨Nat.le_of_ble_eq_true rfl, Nat.le_of_ble_eq_true rfl⟩).trans ?_
  refine pv_ite ?_ rfl
  refine congrArg (Option.bind _) (funext fun q2 => ?_)
  refine (ss_aload_n rfl rfl).trans ?_
  refine (ss_aload_n rfl rfl).trans ?_
  refine (ss_iload rfl rfl).trans ?_
  refine (ss_iconst rfl (v := 1) rfl).trans ?_
  refine (ss_iadd rfl).trans ?_
  refine (ss_iaload rfl).trans ?_
  refine congrArg (Option.bind _) (funext fun x3 => ?_)
  refine (ss_callVI (as := [.int x3]) rfl t_Md_noon (by decide) rfl rfl (by simp [Value.category]) (Or.inl rfl) ⟨Nat.le_of_ble_eq_true rfl, Nat.le_of_ble_eq_true rfl⟩).trans ?_
  refine pv_ite ?_ rfl
  refine congrArg (Option.bind _) (funext fun q4 => ?_)
  refine (ss_icmp_eq rfl).trans ?_
  refine pv_ite ?_ ?_
  · rfl
  · refine (ss_iconst rfl (v := 0) rfl).trans ?_
    exact (ss_zreturn rfl).trans (if_pos (by decide))
set_option maxRecDepth 100000 in
theorem u_Lw_law_696 (X : pv_X) (v0 : Nat) (v1 : Nat) (v2 : Nat) (v3 : Nat) (v4 : Int32) (o5 : Option Value) (o6 : Option Value) (h : pv_H) : f_Lw_law_696 X v0 v1 v2 v3 v4 o5 o6 h =
    if pv_rc h v1 10 = true then (pv_tI (pM X m_Wp_first [.ref v1] h)).bind (fun q1 => if pv_rc q1.2 v2 11 = true then (pv_tI (pM X m_Md_first [.ref v2] q1.2)).bind (fun q2 => if q1.1 = q2.1 then f_Lw_law_1638 X v0 v1 v2 v3 v4 o5 o6 q2.2 else some (some (.int 0), q2.2)) else none) else none := by
  show pS X 100 (some .boolean) k_Lw_law 696 [some (.ref v0), some (.ref v1), some (.ref v2), some (.ref v3), some (.int v4), o5, o6] [] h = _
  refine (ss_aload_n rfl rfl).trans ?_
  refine (ss_callVI (as := []) rfl t_Wp_first (by decide) rfl rfl (by decide) (Or.inl rfl) ⟨Nat.le_of_ble_eq_true rfl, Nat.le_of_ble_eq_true rfl⟩).trans ?_
  refine pv_ite ?_ rfl
  refine congrArg (Option.bind _) (funext fun q1 => ?_)
  refine (ss_aload_n rfl rfl).trans ?_
  refine (ss_callVI (as := []) rfl t_Md_first (by decide) rfl rfl (by simp [Value.category]) (Or.inl rfl) ⟨Nat.le_of_ble_eq_true rfl, Nat.le_of_ble_eq_true rfl⟩).trans ?_
  refine pv_ite ?_ rfl
  refine congrArg (Option.bind _) (funext fun q2 => ?_)
  refine (ss_icmp_eq rfl).trans ?_
  refine pv_ite ?_ ?_
  · rfl
  · refine (ss_iconst rfl (v := 0) rfl).trans ?_
    exact (ss_zreturn rfl).trans (if_pos (by decide))
set_option maxRecDepth 100000 in
theorem u_Lw_law_709 (X : pv_X) (v0 : Nat) (v1 : Nat) (v2 : Nat) (v3 : Nat) (v4 : Int32) (o5 : Option Value) (o6 : Option Value) (h : pv_H) : f_Lw_law_709 X v0 v1 v2 v3 v4 o5 o6 h =
    (pv_aX X h v0 (v4 + 1)).bind (fun x1 => (pv_aX X h v0 (v4 + 2)).bind (fun x2 => if pv_rc h v1 10 = true then (pv_tI (pM X m_Wp_meet [.ref v1, .int x1, .int x2] h)).bind (fun q3 => (pv_aX X q3.2 v0 (v4 + 1)).bind (fun x4 => (pv_aX X q3.2 v0 (v4 + 2)).bind (fun x5 => if pv_rc q3.2 v2 11 = true then (pv_tI (pM X m_Md_meet [.ref v2, .int x4, .int x5] q3.2)).bind (fun q6 => if q3.1 = q6.1 then f_Lw_law_1638 X v0 v1 v2 v3 v4 o5 o6 q6.2 else some (some (.int 0), q6.2)) else none))) else none)) := by
  show pS X 100 (some .boolean) k_Lw_law 709 [some (.ref v0), some (.ref v1), some (.ref v2), some (.ref v3), some (.int v4), o5, o6] [] h = _
  refine (ss_aload_n rfl rfl).trans ?_
  refine (ss_aload_n rfl rfl).trans ?_
  refine (ss_iload rfl rfl).trans ?_
  refine (ss_iconst rfl (v := 1) rfl).trans ?_
  refine (ss_iadd rfl).trans ?_
  refine (ss_iaload rfl).trans ?_
  refine congrArg (Option.bind _) (funext fun x1 => ?_)
  refine (ss_aload_n rfl rfl).trans ?_
  refine (ss_iload rfl rfl).trans ?_
  refine (ss_iconst rfl (v := 2) rfl).trans ?_
  refine (ss_iadd rfl).trans ?_
  refine (ss_iaload rfl).trans ?_
  refine congrArg (Option.bind _) (funext fun x2 => ?_)
  refine (ss_callVI (as := [.int x1, .int x2]) rfl t_Wp_meet (by decide) rfl rfl (by decide) (Or.inl rfl) ⟨Nat.le_of_ble_eq_true rfl, Nat.le_of_ble_eq_true rfl⟩).trans ?_
  refine pv_ite ?_ rfl
  refine congrArg (Option.bind _) (funext fun q3 => ?_)
  refine (ss_aload_n rfl rfl).trans ?_
  refine (ss_aload_n rfl rfl).trans ?_
  refine (ss_iload rfl rfl).trans ?_
  refine (ss_iconst rfl (v := 1) rfl).trans ?_
  refine (ss_iadd rfl).trans ?_
  refine (ss_iaload rfl).trans ?_
  refine congrArg (Option.bind _) (funext fun x4 => ?_)
  refine (ss_aload_n rfl rfl).trans ?_
  refine (ss_iload rfl rfl).trans ?_
  refine (ss_iconst rfl (v := 2) rfl).trans ?_
  refine (ss_iadd rfl).trans ?_
  refine (ss_iaload rfl).trans ?_
  refine congrArg (Option.bind _) (funext fun x5 => ?_)
  refine (ss_callVI (as := [.int x4, .int x5]) rfl t_Md_meet (by decide) rfl rfl (by simp [Value.category]) (Or.inl rfl) ⟨Nat.le_of_ble_eq_true rfl, Nat.le_of_ble_eq_true rfl⟩).trans ?_
  refine pv_ite ?_ rfl
  refine congrArg (Option.bind _) (funext fun q6 => ?_)
  refine (ss_icmp_eq rfl).trans ?_
  refine pv_ite ?_ ?_
  · rfl
  · refine (ss_iconst rfl (v := 0) rfl).trans ?_
    exact (ss_zreturn rfl).trans (if_pos (by decide))
set_option maxRecDepth 100000 in
theorem u_Lw_law_746 (X : pv_X) (v0 : Nat) (v1 : Nat) (v2 : Nat) (v3 : Nat) (v4 : Int32) (o5 : Option Value) (o6 : Option Value) (h : pv_H) : f_Lw_law_746 X v0 v1 v2 v3 v4 o5 o6 h =
    (pv_aX X h v0 (v4 + 1)).bind (fun x1 => if pv_rc h v1 10 = true then (pv_tI (pM X m_Wp_ordered [.ref v1, .int x1] h)).bind (fun q2 => (pv_aX X q2.2 v0 (v4 + 1)).bind (fun x3 => if pv_rc q2.2 v2 11 = true then (pv_tI (pM X m_Md_ordered [.ref v2, .int x3] q2.2)).bind (fun q4 => if q2.1 = q4.1 then f_Lw_law_1638 X v0 v1 v2 v3 v4 o5 o6 q4.2 else some (some (.int 0), q4.2)) else none)) else none) := by
  show pS X 100 (some .boolean) k_Lw_law 746 [some (.ref v0), some (.ref v1), some (.ref v2), some (.ref v3), some (.int v4), o5, o6] [] h = _
  refine (ss_aload_n rfl rfl).trans ?_
  refine (ss_aload_n rfl rfl).trans ?_
  refine (ss_iload rfl rfl).trans ?_
  refine (ss_iconst rfl (v := 1) rfl).trans ?_
  refine (ss_iadd rfl).trans ?_
  refine (ss_iaload rfl).trans ?_
  refine congrArg (Option.bind _) (funext fun x1 => ?_)
  refine (ss_callVI (as := [.int x1]) rfl t_Wp_ordered (by decide) rfl rfl (by decide) (Or.inl rfl) ⟨Nat.le_of_ble_eq_true rfl, Nat.le_of_ble_eq_true rfl⟩).trans ?_
  refine pv_ite ?_ rfl
  refine congrArg (Option.bind _) (funext fun q2 => ?_)
  refine (ss_aload_n rfl rfl).trans ?_
  refine (ss_aload_n rfl rfl).trans ?_
  refine (ss_iload rfl rfl).trans ?_
  refine (ss_iconst rfl (v := 1) rfl).trans ?_
  refine (ss_iadd rfl).trans ?_
  refine (ss_iaload rfl).trans ?_
  refine congrArg (Option.bind _) (funext fun x3 => ?_)
  refine (ss_callVI (as := [.int x3]) rfl t_Md_ordered (by decide) rfl rfl (by simp [Value.category]) (Or.inl rfl) ⟨Nat.le_of_ble_eq_true rfl, Nat.le_of_ble_eq_true rfl⟩).trans ?_
  refine pv_ite ?_ rfl
  refine congrArg (Option.bind _) (funext fun q4 => ?_)
  refine (ss_icmp_eq rfl).trans ?_
  refine pv_ite ?_ ?_
  · rfl
  · refine (ss_iconst rfl (v := 0) rfl).trans ?_
    exact (ss_zreturn rfl).trans (if_pos (by decide))
set_option maxRecDepth 100000 in
theorem u_Lw_law_771 (X : pv_X) (v0 : Nat) (v1 : Nat) (v2 : Nat) (v3 : Nat) (v4 : Int32) (o5 : Option Value) (o6 : Option Value) (h : pv_H) : f_Lw_law_771 X v0 v1 v2 v3 v4 o5 o6 h =
    (pv_aX X h v0 (v4 + 1)).bind (fun x1 => (pv_aX X h v0 (v4 + 2)).bind (fun x2 => if pv_rc h v1 10 = true then (pv_tI (pM X m_Wp_round [.ref v1, .int x1, .int x2] h)).bind (fun q3 => (pv_aX X q3.2 v0 (v4 + 1)).bind (fun x4 => (pv_aX X q3.2 v0 (v4 + 2)).bind (fun x5 => if pv_rc q3.2 v2 11 = true then (pv_tI (pM X m_Md_round [.ref v2, .int x4, .int x5] q3.2)).bind (fun q6 => if q3.1 = q6.1 then f_Lw_law_1638 X v0 v1 v2 v3 v4 o5 o6 q6.2 else some (some (.int 0), q6.2)) else none))) else none)) := by
  show pS X 100 (some .boolean) k_Lw_law 771 [some (.ref v0), some (.ref v1), some (.ref v2), some (.ref v3), some (.int v4), o5, o6] [] h = _
  refine (ss_aload_n rfl rfl).trans ?_
  refine (ss_aload_n rfl rfl).trans ?_
  refine (ss_iload rfl rfl).trans ?_
  refine (ss_iconst rfl (v := 1) rfl).trans ?_
  refine (ss_iadd rfl).trans ?_
  refine (ss_iaload rfl).trans ?_
  refine congrArg (Option.bind _) (funext fun x1 => ?_)
  refine (ss_aload_n rfl rfl).trans ?_
  refine (ss_iload rfl rfl).trans ?_
  refine (ss_iconst rfl (v := 2) rfl).trans ?_
  refine (ss_iadd rfl).trans ?_
  refine (ss_iaload rfl).trans ?_
  refine congrArg (Option.bind _) (funext fun x2 => ?_)
  refine (ss_callVI (as := [.int x1, .int x2]) rfl t_Wp_round (by decide) rfl rfl (by decide) (Or.inl rfl) ⟨Nat.le_of_ble_eq_true rfl, Nat.le_of_ble_eq_true rfl⟩).trans ?_
  refine pv_ite ?_ rfl
  refine congrArg (Option.bind _) (funext fun q3 => ?_)
  refine (ss_aload_n rfl rfl).trans ?_
  refine (ss_aload_n rfl rfl).trans ?_
  refine (ss_iload rfl rfl).trans ?_
  refine (ss_iconst rfl (v := 1) rfl).trans ?_
  refine (ss_iadd rfl).trans ?_
  refine (ss_iaload rfl).trans ?_
  refine congrArg (Option.bind _) (funext fun x4 => ?_)
  refine (ss_aload_n rfl rfl).trans ?_
  refine (ss_iload rfl rfl).trans ?_
  refine (ss_iconst rfl (v := 2) rfl).trans ?_
  refine (ss_iadd rfl).trans ?_
  refine (ss_iaload rfl).trans ?_
  refine congrArg (Option.bind _) (funext fun x5 => ?_)
  refine (ss_callVI (as := [.int x4, .int x5]) rfl t_Md_round (by decide) rfl rfl (by simp [Value.category]) (Or.inl rfl) ⟨Nat.le_of_ble_eq_true rfl, Nat.le_of_ble_eq_true rfl⟩).trans ?_
  refine pv_ite ?_ rfl
  refine congrArg (Option.bind _) (funext fun q6 => ?_)
  refine (ss_icmp_eq rfl).trans ?_
  refine pv_ite ?_ ?_
  · rfl
  · refine (ss_iconst rfl (v := 0) rfl).trans ?_
    exact (ss_zreturn rfl).trans (if_pos (by decide))
set_option maxRecDepth 100000 in
theorem u_Lw_law_808 (X : pv_X) (v0 : Nat) (v1 : Nat) (v2 : Nat) (v3 : Nat) (v4 : Int32) (o5 : Option Value) (o6 : Option Value) (h : pv_H) : f_Lw_law_808 X v0 v1 v2 v3 v4 o5 o6 h =
    (pv_aX X h v0 (v4 + 1)).bind (fun x1 => if pv_rc h v1 10 = true then (pv_tI (pM X m_Wp_askings [.ref v1, .int x1] h)).bind (fun q2 => (pv_aX X q2.2 v0 (v4 + 1)).bind (fun x3 => if pv_rc q2.2 v2 11 = true then (pv_tI (pM X m_Md_askings [.ref v2, .int x3] q2.2)).bind (fun q4 => if q2.1 = q4.1 then f_Lw_law_1638 X v0 v1 v2 v3 v4 o5 o6 q4.2 else some (some (.int 0), q4.2)) else none)) else none) := by
  show pS X 100 (some .boolean) k_Lw_law 808 [some (.ref v0), some (.ref v1), some (.ref v2), some (.ref v3), some (.int v4), o5, o6] [] h = _
  refine (ss_aload_n rfl rfl).trans ?_
  refine (ss_aload_n rfl rfl).trans ?_
  refine (ss_iload rfl rfl).trans ?_
  refine (ss_iconst rfl (v := 1) rfl).trans ?_
  refine (ss_iadd rfl).trans ?_
  refine (ss_iaload rfl).trans ?_
  refine congrArg (Option.bind _) (funext fun x1 => ?_)
  refine (ss_callVI (as := [.int x1]) rfl t_Wp_askings (by decide) rfl rfl (by decide) (Or.inl rfl) ⟨Nat.le_of_ble_eq_true rfl, Nat.le_of_ble_eq_true rfl⟩).trans ?_
  refine pv_ite ?_ rfl
  refine congrArg (Option.bind _) (funext fun q2 => ?_)
  refine (ss_aload_n rfl rfl).trans ?_
  refine (ss_aload_n rfl rfl).trans ?_
  refine (ss_iload rfl rfl).trans ?_
  refine (ss_iconst rfl (v := 1) rfl).trans ?_
  refine (ss_iadd rfl).trans ?_
  refine (ss_iaload rfl).trans ?_
  refine congrArg (Option.bind _) (funext fun x3 => ?_)
  refine (ss_callVI (as := [.int x3]) rfl t_Md_askings (by decide) rfl rfl (by simp [Value.category]) (Or.inl rfl) ⟨Nat.le_of_ble_eq_true rfl, Nat.le_of_ble_eq_true rfl⟩).trans ?_
  refine pv_ite ?_ rfl
  refine congrArg (Option.bind _) (funext fun q4 => ?_)
  refine (ss_icmp_eq rfl).trans ?_
  refine pv_ite ?_ ?_
  · rfl
  · refine (ss_iconst rfl (v := 0) rfl).trans ?_
    exact (ss_zreturn rfl).trans (if_pos (by decide))
set_option maxRecDepth 100000 in
theorem u_Lw_law_833 (X : pv_X) (v0 : Nat) (v1 : Nat) (v2 : Nat) (v3 : Nat) (v4 : Int32) (o5 : Option Value) (o6 : Option Value) (h : pv_H) : f_Lw_law_833 X v0 v1 v2 v3 v4 o5 o6 h =
    (pv_aX X h v0 (v4 + 1)).bind (fun x1 => (pv_aX X h v0 (v4 + 2)).bind (fun x2 => if pv_rc h v1 10 = true then (pv_tI (pM X m_Wp_train [.ref v1, .int x1, .int x2] h)).bind (fun q3 => (pv_aX X q3.2 v0 (v4 + 1)).bind (fun x4 => (pv_aX X q3.2 v0 (v4 + 2)).bind (fun x5 => if pv_rc q3.2 v2 11 = true then (pv_tI (pM X m_Md_train [.ref v2, .int x4, .int x5] q3.2)).bind (fun q6 => if q3.1 = q6.1 then f_Lw_law_1638 X v0 v1 v2 v3 v4 o5 o6 q6.2 else some (some (.int 0), q6.2)) else none))) else none)) := by
  show pS X 100 (some .boolean) k_Lw_law 833 [some (.ref v0), some (.ref v1), some (.ref v2), some (.ref v3), some (.int v4), o5, o6] [] h = _
  refine (ss_aload_n rfl rfl).trans ?_
  refine (ss_aload_n rfl rfl).trans ?_
  refine (ss_iload rfl rfl).trans ?_
  refine (ss_iconst rfl (v := 1) rfl).trans ?_
  refine (ss_iadd rfl).trans ?_
  refine (ss_iaload rfl).trans ?_
  refine congrArg (Option.bind _) (funext fun x1 => ?_)
  refine (ss_aload_n rfl rfl).trans ?_
  refine (ss_iload rfl rfl).trans ?_
  refine (ss_iconst rfl (v := 2) rfl).trans ?_
  refine (ss_iadd rfl).trans ?_
  refine (ss_iaload rfl).trans ?_
  refine congrArg (Option.bind _) (funext fun x2 => ?_)
  refine (ss_callVI (as := [.int x1, .int x2]) rfl t_Wp_train (by decide) rfl rfl (by decide) (Or.inl rfl) ⟨Nat.le_of_ble_eq_true rfl, Nat.le_of_ble_eq_true rfl⟩).trans ?_
  refine pv_ite ?_ rfl
  refine congrArg (Option.bind _) (funext fun q3 => ?_)
  refine (ss_aload_n rfl rfl).trans ?_
  refine (ss_aload_n rfl rfl).trans ?_
  refine (ss_iload rfl rfl).trans ?_
  refine (ss_iconst rfl (v := 1) rfl).trans ?_
  refine (ss_iadd rfl).trans ?_
  refine (ss_iaload rfl).trans ?_
  refine congrArg (Option.bind _) (funext fun x4 => ?_)
  refine (ss_aload_n rfl rfl).trans ?_
  refine (ss_iload rfl rfl).trans ?_
  refine (ss_iconst rfl (v := 2) rfl).trans ?_
  refine (ss_iadd rfl).trans ?_
  refine (ss_iaload rfl).trans ?_
  refine congrArg (Option.bind _) (funext fun x5 => ?_)
  refine (ss_callVI (as := [.int x4, .int x5]) rfl t_Md_train (by decide) rfl rfl (by simp [Value.category]) (Or.inl rfl) ⟨Nat.le_of_ble_eq_true rfl, Nat.le_of_ble_eq_true rfl⟩).trans ?_
  refine pv_ite ?_ rfl
  refine congrArg (Option.bind _) (funext fun q6 => ?_)
  refine (ss_icmp_eq rfl).trans ?_
  refine pv_ite ?_ ?_
  · rfl
  · refine (ss_iconst rfl (v := 0) rfl).trans ?_
    exact (ss_zreturn rfl).trans (if_pos (by decide))
set_option maxRecDepth 100000 in
theorem u_Lw_law_870 (X : pv_X) (v0 : Nat) (v1 : Nat) (v2 : Nat) (v3 : Nat) (v4 : Int32) (o5 : Option Value) (o6 : Option Value) (h : pv_H) : f_Lw_law_870 X v0 v1 v2 v3 v4 o5 o6 h =
    (pv_aX X h v0 (v4 + 1)).bind (fun x1 => if pv_rc h v1 10 = true then (pv_tI (pM X m_Wp_missed [.ref v1, .int x1] h)).bind (fun q2 => (pv_aX X q2.2 v0 (v4 + 1)).bind (fun x3 => if pv_rc q2.2 v2 11 = true then (pv_tI (pM X m_Md_missed [.ref v2, .int x3] q2.2)).bind (fun q4 => if q2.1 = q4.1 then f_Lw_law_1638 X v0 v1 v2 v3 v4 o5 o6 q4.2 else some (some (.int 0), q4.2)) else none)) else none) := by
  show pS X 100 (some .boolean) k_Lw_law 870 [some (.ref v0), some (.ref v1), some (.ref v2), some (.ref v3), some (.int v4), o5, o6] [] h = _
  refine (ss_aload_n rfl rfl).trans ?_
  refine (ss_aload_n rfl rfl).trans ?_
  refine (ss_iload rfl rfl).trans ?_
  refine (ss_iconst rfl (v := 1) rfl).trans ?_
  refine (ss_iadd rfl).trans ?_
  refine (ss_iaload rfl).trans ?_
  refine congrArg (Option.bind _) (funext fun x1 => ?_)
  refine (ss_callVI (as := [.int x1]) rfl t_Wp_missed (by decide) rfl rfl (by decide) (Or.inl rfl) ⟨Nat.le_of_ble_eq_true rfl, Nat.le_of_ble_eq_true rfl⟩).trans ?_
  refine pv_ite ?_ rfl
  refine congrArg (Option.bind _) (funext fun q2 => ?_)
  refine (ss_aload_n rfl rfl).trans ?_
  refine (ss_aload_n rfl rfl).trans ?_
  refine (ss_iload rfl rfl).trans ?_
  refine (ss_iconst rfl (v := 1) rfl).trans ?_
  refine (ss_iadd rfl).trans ?_
  refine (ss_iaload rfl).trans ?_
  refine congrArg (Option.bind _) (funext fun x3 => ?_)
  refine (ss_callVI (as := [.int x3]) rfl t_Md_missed (by decide) rfl rfl (by simp [Value.category]) (Or.inl rfl) ⟨Nat.le_of_ble_eq_true rfl, Nat.le_of_ble_eq_true rfl⟩).trans ?_
  refine pv_ite ?_ rfl
  refine congrArg (Option.bind _) (funext fun q4 => ?_)
  refine (ss_icmp_eq rfl).trans ?_
  refine pv_ite ?_ ?_
  · rfl
  · refine (ss_iconst rfl (v := 0) rfl).trans ?_
    exact (ss_zreturn rfl).trans (if_pos (by decide))
set_option maxRecDepth 100000 in
theorem u_Lw_law_895 (X : pv_X) (v0 : Nat) (v1 : Nat) (v2 : Nat) (v3 : Nat) (v4 : Int32) (o5 : Option Value) (o6 : Option Value) (h : pv_H) : f_Lw_law_895 X v0 v1 v2 v3 v4 o5 o6 h =
    (pv_aX X h v0 (v4 + 1)).bind (fun x1 => (pv_aX X h v0 (v4 + 2)).bind (fun x2 => (pv_aX X h v0 (v4 + 3)).bind (fun x3 => if pv_rc h v1 10 = true then (pv_tI (pM X m_Wp_see [.ref v1, .int x1, .int x2, .int x3] h)).bind (fun q4 => (pv_aX X q4.2 v0 (v4 + 1)).bind (fun x5 => (pv_aX X q4.2 v0 (v4 + 2)).bind (fun x6 => (pv_aX X q4.2 v0 (v4 + 3)).bind (fun x7 => if pv_rc q4.2 v2 11 = true then (pv_tI (pM X m_Md_see [.ref v2, .int x5, .int x6, .int x7] q4.2)).bind (fun q8 => if q4.1 = q8.1 then f_Lw_law_1638 X v0 v1 v2 v3 v4 o5 o6 q8.2 else some (some (.int 0), q8.2)) else none)))) else none))) := by
  show pS X 100 (some .boolean) k_Lw_law 895 [some (.ref v0), some (.ref v1), some (.ref v2), some (.ref v3), some (.int v4), o5, o6] [] h = _
  refine (ss_aload_n rfl rfl).trans ?_
  refine (ss_aload_n rfl rfl).trans ?_
  refine (ss_iload rfl rfl).trans ?_
  refine (ss_iconst rfl (v := 1) rfl).trans ?_
  refine (ss_iadd rfl).trans ?_
  refine (ss_iaload rfl).trans ?_
  refine congrArg (Option.bind _) (funext fun x1 => ?_)
  refine (ss_aload_n rfl rfl).trans ?_
  refine (ss_iload rfl rfl).trans ?_
  refine (ss_iconst rfl (v := 2) rfl).trans ?_
  refine (ss_iadd rfl).trans ?_
  refine (ss_iaload rfl).trans ?_
  refine congrArg (Option.bind _) (funext fun x2 => ?_)
  refine (ss_aload_n rfl rfl).trans ?_
  refine (ss_iload rfl rfl).trans ?_
  refine (ss_iconst rfl (v := 3) rfl).trans ?_
  refine (ss_iadd rfl).trans ?_
  refine (ss_iaload rfl).trans ?_
  refine congrArg (Option.bind _) (funext fun x3 => ?_)
  refine (ss_callVI (as := [.int x1, .int x2, .int x3]) rfl t_Wp_see (by decide) rfl rfl (by decide) (Or.inr rfl) ⟨Nat.le_of_ble_eq_true rfl, Nat.le_of_ble_eq_true rfl⟩).trans ?_
  refine pv_ite ?_ rfl
  refine congrArg (Option.bind _) (funext fun q4 => ?_)
  refine (ss_aload_n rfl rfl).trans ?_
  refine (ss_aload_n rfl rfl).trans ?_
  refine (ss_iload rfl rfl).trans ?_
  refine (ss_iconst rfl (v := 1) rfl).trans ?_
  refine (ss_iadd rfl).trans ?_
  refine (ss_iaload rfl).trans ?_
  refine congrArg (Option.bind _) (funext fun x5 => ?_)
  refine (ss_aload_n rfl rfl).trans ?_
  refine (ss_iload rfl rfl).trans ?_
  refine (ss_iconst rfl (v := 2) rfl).trans ?_
  refine (ss_iadd rfl).trans ?_
  refine (ss_iaload rfl).trans ?_
  refine congrArg (Option.bind _) (funext fun x6 => ?_)
  refine (ss_aload_n rfl rfl).trans ?_
  refine (ss_iload rfl rfl).trans ?_
  refine (ss_iconst rfl (v := 3) rfl).trans ?_
  refine (ss_iadd rfl).trans ?_
  refine (ss_iaload rfl).trans ?_
  refine congrArg (Option.bind _) (funext fun x7 => ?_)
  refine (ss_callVI (as := [.int x5, .int x6, .int x7]) rfl t_Md_see (by decide) rfl rfl (by simp [Value.category]) (Or.inr rfl) ⟨Nat.le_of_ble_eq_true rfl, Nat.le_of_ble_eq_true rfl⟩).trans ?_
  refine pv_ite ?_ rfl
  refine congrArg (Option.bind _) (funext fun q8 => ?_)
  refine (ss_icmp_eq rfl).trans ?_
  refine pv_ite ?_ ?_
  · rfl
  · refine (ss_iconst rfl (v := 0) rfl).trans ?_
    exact (ss_zreturn rfl).trans (if_pos (by decide))
set_option maxRecDepth 100000 in
theorem u_Lw_law_944 (X : pv_X) (v0 : Nat) (v1 : Nat) (v2 : Nat) (v3 : Nat) (v4 : Int32) (o5 : Option Value) (o6 : Option Value) (h : pv_H) : f_Lw_law_944 X v0 v1 v2 v3 v4 o5 o6 h =
    (pv_aX X h v0 (v4 + 1)).bind (fun x1 => if pv_rc h v1 10 = true then (pv_tI (pM X m_Wp_pairs [.ref v1, .int x1] h)).bind (fun q2 => (pv_aX X q2.2 v0 (v4 + 1)).bind (fun x3 => if pv_rc q2.2 v2 11 = true then (pv_tI (pM X m_Md_pairs [.ref v2, .int x3] q2.2)).bind (fun q4 => if q2.1 = q4.1 then f_Lw_law_1638 X v0 v1 v2 v3 v4 o5 o6 q4.2 else some (some (.int 0), q4.2)) else none)) else none) := by
  show pS X 100 (some .boolean) k_Lw_law 944 [some (.ref v0), some (.ref v1), some (.ref v2), some (.ref v3), some (.int v4), o5, o6] [] h = _
  refine (ss_aload_n rfl rfl).trans ?_
  refine (ss_aload_n rfl rfl).trans ?_
  refine (ss_iload rfl rfl).trans ?_
  refine (ss_iconst rfl (v := 1) rfl).trans ?_
  refine (ss_iadd rfl).trans ?_
  refine (ss_iaload rfl).trans ?_
  refine congrArg (Option.bind _) (funext fun x1 => ?_)
  refine (ss_callVI (as := [.int x1]) rfl t_Wp_pairs (by decide) rfl rfl (by decide) (Or.inl rfl) ⟨Nat.le_of_ble_eq_true rfl, Nat.le_of_ble_eq_true rfl⟩).trans ?_
  refine pv_ite ?_ rfl
  refine congrArg (Option.bind _) (funext fun q2 => ?_)
  refine (ss_aload_n rfl rfl).trans ?_
  refine (ss_aload_n rfl rfl).trans ?_
  refine (ss_iload rfl rfl).trans ?_
  refine (ss_iconst rfl (v := 1) rfl).trans ?_
  refine (ss_iadd rfl).trans ?_
  refine (ss_iaload rfl).trans ?_
  refine congrArg (Option.bind _) (funext fun x3 => ?_)
  refine (ss_callVI (as := [.int x3]) rfl t_Md_pairs (by decide) rfl rfl (by simp [Value.category]) (Or.inl rfl) ⟨Nat.le_of_ble_eq_true rfl, Nat.le_of_ble_eq_true rfl⟩).trans ?_
  refine pv_ite ?_ rfl
  refine congrArg (Option.bind _) (funext fun q4 => ?_)
  refine (ss_icmp_eq rfl).trans ?_
  refine pv_ite ?_ ?_
  · rfl
  · refine (ss_iconst rfl (v := 0) rfl).trans ?_
    exact (ss_zreturn rfl).trans (if_pos (by decide))
set_option maxRecDepth 100000 in
theorem u_Lw_law_969 (X : pv_X) (v0 : Nat) (v1 : Nat) (v2 : Nat) (v3 : Nat) (v4 : Int32) (o5 : Option Value) (o6 : Option Value) (h : pv_H) : f_Lw_law_969 X v0 v1 v2 v3 v4 o5 o6 h =
    (pv_aX X h v0 (v4 + 1)).bind (fun x1 => if pv_rc h v1 10 = true then (pv_tI (pM X m_Wp_look [.ref v1, .int x1] h)).bind (fun q2 => (pv_aX X q2.2 v0 (v4 + 1)).bind (fun x3 => if pv_rc q2.2 v2 11 = true then (pv_tI (pM X m_Md_look [.ref v2, .int x3] q2.2)).bind (fun q4 => if q2.1 = q4.1 then f_Lw_law_1638 X v0 v1 v2 v3 v4 o5 o6 q4.2 else some (some (.int 0), q4.2)) else none)) else none) := by
  show pS X 100 (some .boolean) k_Lw_law 969 [some (.ref v0), some (.ref v1), some (.ref v2), some (.ref v3), some (.int v4), o5, o6] [] h = _
  refine (ss_aload_n rfl rfl).trans ?_
  refine (ss_aload_n rfl rfl).trans ?_
  refine (ss_iload rfl rfl).trans ?_
  refine (ss_iconst rfl (v := 1) rfl).trans ?_
  refine (ss_iadd rfl).trans ?_
  refine (ss_iaload rfl).trans ?_
  refine congrArg (Option.bind _) (funext fun x1 => ?_)
  refine (ss_callVI (as := [.int x1]) rfl t_Wp_look (by decide) rfl rfl (by decide) (Or.inl rfl) ⟨Nat.le_of_ble_eq_true rfl, Nat.le_of_ble_eq_true rfl⟩).trans ?_
  refine pv_ite ?_ rfl
  refine congrArg (Option.bind _) (funext fun q2 => ?_)
  refine (ss_aload_n rfl rfl).trans ?_
  refine (ss_aload_n rfl rfl).trans ?_
  refine (ss_iload rfl rfl).trans ?_
  refine (ss_iconst rfl (v := 1) rfl).trans ?_
  refine (ss_iadd rfl).trans ?_
  refine (ss_iaload rfl).trans ?_
  refine congrArg (Option.bind _) (funext fun x3 => ?_)
  refine (ss_callVI (as := [.int x3]) rfl t_Md_look (by decide) rfl rfl (by simp [Value.category]) (Or.inl rfl) ⟨Nat.le_of_ble_eq_true rfl, Nat.le_of_ble_eq_true rfl⟩).trans ?_
  refine pv_ite ?_ rfl
  refine congrArg (Option.bind _) (funext fun q4 => ?_)
  refine (ss_icmp_eq rfl).trans ?_
  refine pv_ite ?_ ?_
  · rfl
  · refine (ss_iconst rfl (v := 0) rfl).trans ?_
    exact (ss_zreturn rfl).trans (if_pos (by decide))
set_option maxRecDepth 100000 in
theorem u_Lw_law_994 (X : pv_X) (v0 : Nat) (v1 : Nat) (v2 : Nat) (v3 : Nat) (v4 : Int32) (o5 : Option Value) (o6 : Option Value) (h : pv_H) : f_Lw_law_994 X v0 v1 v2 v3 v4 o5 o6 h =
    (pv_aX X h v0 (v4 + 1)).bind (fun x1 => (pv_aX X h v0 (v4 + 2)).bind (fun x2 => if pv_rc h v1 10 = true then (pv_tI (pM X m_Wp_tell [.ref v1, .int x1, .int x2] h)).bind (fun q3 => (pv_aX X q3.2 v0 (v4 + 1)).bind (fun x4 => (pv_aX X q3.2 v0 (v4 + 2)).bind (fun x5 => if pv_rc q3.2 v2 11 = true then (pv_tI (pM X m_Md_tell [.ref v2, .int x4, .int x5] q3.2)).bind (fun q6 => if q3.1 = q6.1 then f_Lw_law_1638 X v0 v1 v2 v3 v4 o5 o6 q6.2 else some (some (.int 0), q6.2)) else none))) else none)) := by
  show pS X 100 (some .boolean) k_Lw_law 994 [some (.ref v0), some (.ref v1), some (.ref v2), some (.ref v3), some (.int v4), o5, o6] [] h = _
  refine (ss_aload_n rfl rfl).trans ?_
  refine (ss_aload_n rfl rfl).trans ?_
  refine (ss_iload rfl rfl).trans ?_
  refine (ss_iconst rfl (v := 1) rfl).trans ?_
  refine (ss_iadd rfl).trans ?_
  refine (ss_iaload rfl).trans ?_
  refine congrArg (Option.bind _) (funext fun x1 => ?_)
  refine (ss_aload_n rfl rfl).trans ?_
  refine (ss_iload rfl rfl).trans ?_
  refine (ss_iconst rfl (v := 2) rfl).trans ?_
  refine (ss_iadd rfl).trans ?_
  refine (ss_iaload rfl).trans ?_
  refine congrArg (Option.bind _) (funext fun x2 => ?_)
  refine (ss_callVI (as := [.int x1, .int x2]) rfl t_Wp_tell (by decide) rfl rfl (by decide) (Or.inr rfl) ⟨Nat.le_of_ble_eq_true rfl, Nat.le_of_ble_eq_true rfl⟩).trans ?_
  refine pv_ite ?_ rfl
  refine congrArg (Option.bind _) (funext fun q3 => ?_)
  refine (ss_aload_n rfl rfl).trans ?_
  refine (ss_aload_n rfl rfl).trans ?_
  refine (ss_iload rfl rfl).trans ?_
  refine (ss_iconst rfl (v := 1) rfl).trans ?_
  refine (ss_iadd rfl).trans ?_
  refine (ss_iaload rfl).trans ?_
  refine congrArg (Option.bind _) (funext fun x4 => ?_)
  refine (ss_aload_n rfl rfl).trans ?_
  refine (ss_iload rfl rfl).trans ?_
  refine (ss_iconst rfl (v := 2) rfl).trans ?_
  refine (ss_iadd rfl).trans ?_
  refine (ss_iaload rfl).trans ?_
  refine congrArg (Option.bind _) (funext fun x5 => ?_)
  refine (ss_callVI (as := [.int x4, .int x5]) rfl t_Md_tell (by decide) rfl rfl (by simp [Value.category]) (Or.inr rfl) ⟨Nat.le_of_ble_eq_true rfl, Nat.le_of_ble_eq_true rfl⟩).trans ?_
  refine pv_ite ?_ rfl
  refine congrArg (Option.bind _) (funext fun q6 => ?_)
  refine (ss_icmp_eq rfl).trans ?_
  refine pv_ite ?_ ?_
  · rfl
  · refine (ss_iconst rfl (v := 0) rfl).trans ?_
    exact (ss_zreturn rfl).trans (if_pos (by decide))
set_option maxRecDepth 100000 in
theorem u_Lw_law_1031 (X : pv_X) (v0 : Nat) (v1 : Nat) (v2 : Nat) (v3 : Nat) (v4 : Int32) (o5 : Option Value) (o6 : Option Value) (h : pv_H) : f_Lw_law_1031 X v0 v1 v2 v3 v4 o5 o6 h =
    (pv_aX X h v0 (v4 + 1)).bind (fun x1 => if pv_rc h v1 10 = true then (pv_tI (pM X m_Wp_fits [.ref v1, .int x1] h)).bind (fun q2 => (pv_aX X q2.2 v0 (v4 + 1)).bind (fun x3 => if pv_rc q2.2 v2 11 = true then (pv_tI (pM X m_Md_fits [.ref v2, .int x3] q2.2)).bind (fun q4 => if q2.1 = q4.1 then f_Lw_law_1638 X v0 v1 v2 v3 v4 o5 o6 q4.2 else some (some (.int 0), q4.2)) else none)) else none) := by
  show pS X 100 (some .boolean) k_Lw_law 1031 [some (.ref v0), some (.ref v1), some (.ref v2), some (.ref v3), some (.int v4), o5, o6] [] h = _
  refine (ss_aload_n rfl rfl).trans ?_
  refine (ss_aload_n rfl rfl).trans ?_
  refine (ss_iload rfl rfl).trans ?_
  refine (ss_iconst rfl (v := 1) rfl).trans ?_
  refine (ss_iadd rfl).trans ?_
  refine (ss_iaload rfl).trans ?_
  refine congrArg (Option.bind _) (funext fun x1 => ?_)
  refine (ss_callVI (as := [.int x1]) rfl t_Wp_fits (by decide) rfl rfl (by decide) (Or.inl rfl) ⟨Nat.le_of_ble_eq_true rfl, Nat.le_of_ble_eq_true rfl⟩).trans ?_
  refine pv_ite ?_ rfl
  refine congrArg (Option.bind _) (funext fun q2 => ?_)
  refine (ss_aload_n rfl rfl).trans ?_
  refine (ss_aload_n rfl rfl).trans ?_
  refine (ss_iload rfl rfl).trans ?_
  refine (ss_iconst rfl (v := 1) rfl).trans ?_
  refine (ss_iadd rfl).trans ?_
  refine (ss_iaload rfl).trans ?_
  refine congrArg (Option.bind _) (funext fun x3 => ?_)
  refine (ss_callVI (as := [.int x3]) rfl t_Md_fits (by decide) rfl rfl (by simp [Value.category]) (Or.inl rfl) ⟨Nat.le_of_ble_eq_true rfl, Nat.le_of_ble_eq_true rfl⟩).trans ?_
  refine pv_ite ?_ rfl
  refine congrArg (Option.bind _) (funext fun q4 => ?_)
  refine (ss_icmp_eq rfl).trans ?_
  refine pv_ite ?_ ?_
  · rfl
  · refine (ss_iconst rfl (v := 0) rfl).trans ?_
    exact (ss_zreturn rfl).trans (if_pos (by decide))
set_option maxRecDepth 100000 in
theorem u_Lw_law_1056 (X : pv_X) (v0 : Nat) (v1 : Nat) (v2 : Nat) (v3 : Nat) (v4 : Int32) (o5 : Option Value) (o6 : Option Value) (h : pv_H) : f_Lw_law_1056 X v0 v1 v2 v3 v4 o5 o6 h =
    if pv_rc h v1 10 = true then (pv_tI (pM X m_Wp_when [.ref v1] h)).bind (fun q1 => if pv_rc q1.2 v2 11 = true then (pv_tI (pM X m_Md_when [.ref v2] q1.2)).bind (fun q2 => if q1.1 = q2.1 then f_Lw_law_1638 X v0 v1 v2 v3 v4 o5 o6 q2.2 else some (some (.int 0), q2.2)) else none) else none := by
  show pS X 100 (some .boolean) k_Lw_law 1056 [some (.ref v0), some (.ref v1), some (.ref v2), some (.ref v3), some (.int v4), o5, o6] [] h = _
  refine (ss_aload_n rfl rfl).trans ?_
  refine (ss_callVI (as := []) rfl t_Wp_when (by decide) rfl rfl (by decide) (Or.inl rfl) ⟨Nat.le_of_ble_eq_true rfl, Nat.le_of_ble_eq_true rfl⟩).trans ?_
  refine pv_ite ?_ rfl
  refine congrArg (Option.bind _) (funext fun q1 => ?_)
  refine (ss_aload_n rfl rfl).trans ?_
  refine (ss_callVI (as := []) rfl t_Md_when (by decide) rfl rfl (by simp [Value.category]) (Or.inl rfl) ⟨Nat.le_of_ble_eq_true rfl, Nat.le_of_ble_eq_true rfl⟩).trans ?_
  refine pv_ite ?_ rfl
  refine congrArg (Option.bind _) (funext fun q2 => ?_)
  refine (ss_icmp_eq rfl).trans ?_
  refine pv_ite ?_ ?_
  · rfl
  · refine (ss_iconst rfl (v := 0) rfl).trans ?_
    exact (ss_zreturn rfl).trans (if_pos (by decide))
set_option maxRecDepth 100000 in
theorem u_Lw_law_1069 (X : pv_X) (v0 : Nat) (v1 : Nat) (v2 : Nat) (v3 : Nat) (v4 : Int32) (o5 : Option Value) (o6 : Option Value) (h : pv_H) : f_Lw_law_1069 X v0 v1 v2 v3 v4 o5 o6 h =
    (pv_aX X h v0 (v4 + 1)).bind (fun x1 => if pv_rc h v1 10 = true then (pv_tI (pM X m_Wp_comes [.ref v1, .int x1] h)).bind (fun q2 => (pv_aX X q2.2 v0 (v4 + 1)).bind (fun x3 => if pv_rc q2.2 v2 11 = true then (pv_tI (pM X m_Md_comes [.ref v2, .int x3] q2.2)).bind (fun q4 => if q2.1 = q4.1 then f_Lw_law_1638 X v0 v1 v2 v3 v4 o5 o6 q4.2 else some (some (.int 0), q4.2)) else none)) else none) := by
  show pS X 100 (some .boolean) k_Lw_law 1069 [some (.ref v0), some (.ref v1), some (.ref v2), some (.ref v3), some (.int v4), o5, o6] [] h = _
  refine (ss_aload_n rfl rfl).trans ?_
  refine (ss_aload_n rfl rfl).trans ?_
  refine (ss_iload rfl rfl).trans ?_
  refine (ss_iconst rfl (v := 1) rfl).trans ?_
  refine (ss_iadd rfl).trans ?_
  refine (ss_iaload rfl).trans ?_
  refine congrArg (Option.bind _) (funext fun x1 => ?_)
  refine (ss_callVI (as := [.int x1]) rfl t_Wp_comes (by decide) rfl rfl (by decide) (Or.inl rfl) ⟨Nat.le_of_ble_eq_true rfl, Nat.le_of_ble_eq_true rfl⟩).trans ?_
  refine pv_ite ?_ rfl
  refine congrArg (Option.bind _) (funext fun q2 => ?_)
  refine (ss_aload_n rfl rfl).trans ?_
  refine (ss_aload_n rfl rfl).trans ?_
  refine (ss_iload rfl rfl).trans ?_
  refine (ss_iconst rfl (v := 1) rfl).trans ?_
  refine (ss_iadd rfl).trans ?_
  refine (ss_iaload rfl).trans ?_
  refine congrArg (Option.bind _) (funext fun x3 => ?_)
  refine (ss_callVI (as := [.int x3]) rfl t_Md_comes (by decide) rfl rfl (by simp [Value.category]) (Or.inl rfl) ⟨Nat.le_of_ble_eq_true rfl, Nat.le_of_ble_eq_true rfl⟩).trans ?_
  refine pv_ite ?_ rfl
  refine congrArg (Option.bind _) (funext fun q4 => ?_)
  refine (ss_icmp_eq rfl).trans ?_
  refine pv_ite ?_ ?_
  · rfl
  · refine (ss_iconst rfl (v := 0) rfl).trans ?_
    exact (ss_zreturn rfl).trans (if_pos (by decide))
set_option maxRecDepth 100000 in
theorem u_Lw_law_1094 (X : pv_X) (v0 : Nat) (v1 : Nat) (v2 : Nat) (v3 : Nat) (v4 : Int32) (o5 : Option Value) (o6 : Option Value) (h : pv_H) : f_Lw_law_1094 X v0 v1 v2 v3 v4 o5 o6 h =
    if pv_rc h v1 10 = true then (pv_tI (pM X m_Wp_rings [.ref v1] h)).bind (fun q1 => if pv_rc q1.2 v2 11 = true then (pv_tI (pM X m_Md_rings [.ref v2] q1.2)).bind (fun q2 => if q1.1 = q2.1 then f_Lw_law_1638 X v0 v1 v2 v3 v4 o5 o6 q2.2 else some (some (.int 0), q2.2)) else none) else none := by
  show pS X 100 (some .boolean) k_Lw_law 1094 [some (.ref v0), some (.ref v1), some (.ref v2), some (.ref v3), some (.int v4), o5, o6] [] h = _
  refine (ss_aload_n rfl rfl).trans ?_
  refine (ss_callVI (as := []) rfl t_Wp_rings (by decide) rfl rfl (by decide) (Or.inl rfl) ⟨Nat.le_of_ble_eq_true rfl, Nat.le_of_ble_eq_true rfl⟩).trans ?_
  refine pv_ite ?_ rfl
  refine congrArg (Option.bind _) (funext fun q1 => ?_)
  refine (ss_aload_n rfl rfl).trans ?_
  refine (ss_callVI (as := []) rfl t_Md_rings (by decide) rfl rfl (by simp [Value.category]) (Or.inl rfl) ⟨Nat.le_of_ble_eq_true rfl, Nat.le_of_ble_eq_true rfl⟩).trans ?_
  refine pv_ite ?_ rfl
  refine congrArg (Option.bind _) (funext fun q2 => ?_)
  refine (ss_icmp_eq rfl).trans ?_
  refine pv_ite ?_ ?_
  · rfl
  · refine (ss_iconst rfl (v := 0) rfl).trans ?_
    exact (ss_zreturn rfl).trans (if_pos (by decide))
set_option maxRecDepth 100000 in
theorem u_Lw_law_1107 (X : pv_X) (v0 : Nat) (v1 : Nat) (v2 : Nat) (v3 : Nat) (v4 : Int32) (o5 : Option Value) (o6 : Option Value) (h : pv_H) : f_Lw_law_1107 X v0 v1 v2 v3 v4 o5 o6 h =
    if pv_rc h v1 10 = true then (pv_tI (pM X m_Wp_calm [.ref v1] h)).bind (fun q1 => if pv_rc q1.2 v2 11 = true then (pv_tI (pM X m_Md_calm [.ref v2] q1.2)).bind (fun q2 => if q1.1 = q2.1 then f_Lw_law_1638 X v0 v1 v2 v3 v4 o5 o6 q2.2 else some (some (.int 0), q2.2)) else none) else none := by
  show pS X 100 (some .boolean) k_Lw_law 1107 [some (.ref v0), some (.ref v1), some (.ref v2), some (.ref v3), some (.int v4), o5, o6] [] h = _
  refine (ss_aload_n rfl rfl).trans ?_
  refine (ss_callVI (as := []) rfl t_Wp_calm (by decide) rfl rfl (by decide) (Or.inl rfl) ⟨Nat.le_of_ble_eq_true rfl, Nat.le_of_ble_eq_true rfl⟩).trans ?_
  refine pv_ite ?_ rfl
  refine congrArg (Option.bind _) (funext fun q1 => ?_)
  refine (ss_aload_n rfl rfl).trans ?_
  refine (ss_callVI (as := []) rfl t_Md_calm (by decide) rfl rfl (by simp [Value.category]) (Or.inl rfl) ⟨Nat.le_of_ble_eq_true rfl, Nat.le_of_ble_eq_true rfl⟩).trans ?_
  refine pv_ite ?_ rfl
  refine congrArg (Option.bind _) (funext fun q2 => ?_)
  refine (ss_icmp_eq rfl).trans ?_
  refine pv_ite ?_ ?_
  · rfl
  · refine (ss_iconst rfl (v := 0) rfl).trans ?_
    exact (ss_zreturn rfl).trans (if_pos (by decide))
set_option maxRecDepth 100000 in
theorem u_Lw_law_1120 (X : pv_X) (v0 : Nat) (v1 : Nat) (v2 : Nat) (v3 : Nat) (v4 : Int32) (o5 : Option Value) (o6 : Option Value) (h : pv_H) : f_Lw_law_1120 X v0 v1 v2 v3 v4 o5 o6 h =
    (pv_aX X h v0 (v4 + 1)).bind (fun x1 => (pv_aX X h v0 (v4 + 2)).bind (fun x2 => if pv_rc h v1 10 = true then (pv_tI (pM X m_Wp_drift [.ref v1, .int x1, .int x2] h)).bind (fun q3 => (pv_aX X q3.2 v0 (v4 + 1)).bind (fun x4 => (pv_aX X q3.2 v0 (v4 + 2)).bind (fun x5 => if pv_rc q3.2 v2 11 = true then (pv_tI (pM X m_Md_drift [.ref v2, .int x4, .int x5] q3.2)).bind (fun q6 => if q3.1 = q6.1 then f_Lw_law_1638 X v0 v1 v2 v3 v4 o5 o6 q6.2 else some (some (.int 0), q6.2)) else none))) else none)) := by
  show pS X 100 (some .boolean) k_Lw_law 1120 [some (.ref v0), some (.ref v1), some (.ref v2), some (.ref v3), some (.int v4), o5, o6] [] h = _
  refine (ss_aload_n rfl rfl).trans ?_
  refine (ss_aload_n rfl rfl).trans ?_
  refine (ss_iload rfl rfl).trans ?_
  refine (ss_iconst rfl (v := 1) rfl).trans ?_
  refine (ss_iadd rfl).trans ?_
  refine (ss_iaload rfl).trans ?_
  refine congrArg (Option.bind _) (funext fun x1 => ?_)
  refine (ss_aload_n rfl rfl).trans ?_
  refine (ss_iload rfl rfl).trans ?_
  refine (ss_iconst rfl (v := 2) rfl).trans ?_
  refine (ss_iadd rfl).trans ?_
  refine (ss_iaload rfl).trans ?_
  refine congrArg (Option.bind _) (funext fun x2 => ?_)
  refine (ss_callVI (as := [.int x1, .int x2]) rfl t_Wp_drift (by decide) rfl rfl (by decide) (Or.inl rfl) ⟨Nat.le_of_ble_eq_true rfl, Nat.le_of_ble_eq_true rfl⟩).trans ?_
  refine pv_ite ?_ rfl
  refine congrArg (Option.bind _) (funext fun q3 => ?_)
  refine (ss_aload_n rfl rfl).trans ?_
  refine (ss_aload_n rfl rfl).trans ?_
  refine (ss_iload rfl rfl).trans ?_
  refine (ss_iconst rfl (v := 1) rfl).trans ?_
  refine (ss_iadd rfl).trans ?_
  refine (ss_iaload rfl).trans ?_
  refine congrArg (Option.bind _) (funext fun x4 => ?_)
  refine (ss_aload_n rfl rfl).trans ?_
  refine (ss_iload rfl rfl).trans ?_
  refine (ss_iconst rfl (v := 2) rfl).trans ?_
  refine (ss_iadd rfl).trans ?_
  refine (ss_iaload rfl).trans ?_
  refine congrArg (Option.bind _) (funext fun x5 => ?_)
  refine (ss_callVI (as := [.int x4, .int x5]) rfl t_Md_drift (by decide) rfl rfl (by simp [Value.category]) (Or.inl rfl) ⟨Nat.le_of_ble_eq_true rfl, Nat.le_of_ble_eq_true rfl⟩).trans ?_
  refine pv_ite ?_ rfl
  refine congrArg (Option.bind _) (funext fun q6 => ?_)
  refine (ss_icmp_eq rfl).trans ?_
  refine pv_ite ?_ ?_
  · rfl
  · refine (ss_iconst rfl (v := 0) rfl).trans ?_
    exact (ss_zreturn rfl).trans (if_pos (by decide))
set_option maxRecDepth 100000 in
theorem u_Lw_law_1157 (X : pv_X) (v0 : Nat) (v1 : Nat) (v2 : Nat) (v3 : Nat) (v4 : Int32) (o5 : Option Value) (o6 : Option Value) (h : pv_H) : f_Lw_law_1157 X v0 v1 v2 v3 v4 o5 o6 h =
    (pv_aX X h v0 (v4 + 1)).bind (fun x1 => if pv_rc h v1 10 = true then (pv_tI (pM X m_Wp_near [.ref v1, .int x1] h)).bind (fun q2 => (pv_aX X q2.2 v0 (v4 + 1)).bind (fun x3 => if pv_rc q2.2 v2 11 = true then (pv_tI (pM X m_Md_near [.ref v2, .int x3] q2.2)).bind (fun q4 => if q2.1 = q4.1 then f_Lw_law_1638 X v0 v1 v2 v3 v4 o5 o6 q4.2 else some (some (.int 0), q4.2)) else none)) else none) := by
  show pS X 100 (some .boolean) k_Lw_law 1157 [some (.ref v0), some (.ref v1), some (.ref v2), some (.ref v3), some (.int v4), o5, o6] [] h = _
  refine (ss_aload_n rfl rfl).trans ?_
  refine (ss_aload_n rfl rfl).trans ?_
  refine (ss_iload rfl rfl).trans ?_
  refine (ss_iconst rfl (v := 1) rfl).trans ?_
  refine (ss_iadd rfl).trans ?_
  refine (ss_iaload rfl).trans ?_
  refine congrArg (Option.bind _) (funext fun x1 => ?_)
  refine (ss_callVI (as := [.int x1]) rfl t_Wp_near (by decide) rfl rfl (by decide) (Or.inl rfl) ⟨Nat.le_of_ble_eq_true rfl, Nat.le_of_ble_eq_true rfl⟩).trans ?_
  refine pv_ite ?_ rfl
  refine congrArg (Option.bind _) (funext fun q2 => ?_)
  refine (ss_aload_n rfl rfl).trans ?_
  refine (ss_aload_n rfl rfl).trans ?_
  refine (ss_iload rfl rfl).trans ?_
  refine (ss_iconst rfl (v := 1) rfl).trans ?_
  refine (ss_iadd rfl).trans ?_
  refine (ss_iaload rfl).trans ?_
  refine congrArg (Option.bind _) (funext fun x3 => ?_)
  refine (ss_callVI (as := [.int x3]) rfl t_Md_near (by decide) rfl rfl (by simp [Value.category]) (Or.inl rfl) ⟨Nat.le_of_ble_eq_true rfl, Nat.le_of_ble_eq_true rfl⟩).trans ?_
  refine pv_ite ?_ rfl
  refine congrArg (Option.bind _) (funext fun q4 => ?_)
  refine (ss_icmp_eq rfl).trans ?_
  refine pv_ite ?_ ?_
  · rfl
  · refine (ss_iconst rfl (v := 0) rfl).trans ?_
    exact (ss_zreturn rfl).trans (if_pos (by decide))
set_option maxRecDepth 100000 in
theorem u_Lw_law_1182 (X : pv_X) (v0 : Nat) (v1 : Nat) (v2 : Nat) (v3 : Nat) (v4 : Int32) (o5 : Option Value) (o6 : Option Value) (h : pv_H) : f_Lw_law_1182 X v0 v1 v2 v3 v4 o5 o6 h =
    if pv_rc h v1 10 = true then (pv_tI (pM X m_Wp_spread [.ref v1] h)).bind (fun q1 => if pv_rc q1.2 v2 11 = true then (pv_tI (pM X m_Md_spread [.ref v2] q1.2)).bind (fun q2 => if q1.1 = q2.1 then f_Lw_law_1638 X v0 v1 v2 v3 v4 o5 o6 q2.2 else some (some (.int 0), q2.2)) else none) else none := by
  show pS X 100 (some .boolean) k_Lw_law 1182 [some (.ref v0), some (.ref v1), some (.ref v2), some (.ref v3), some (.int v4), o5, o6] [] h = _
  refine (ss_aload_n rfl rfl).trans ?_
  refine (ss_callVI (as := []) rfl t_Wp_spread (by decide) rfl rfl (by decide) (Or.inl rfl) ⟨Nat.le_of_ble_eq_true rfl, Nat.le_of_ble_eq_true rfl⟩).trans ?_
  refine pv_ite ?_ rfl
  refine congrArg (Option.bind _) (funext fun q1 => ?_)
  refine (ss_aload_n rfl rfl).trans ?_
  refine (ss_callVI (as := []) rfl t_Md_spread (by decide) rfl rfl (by simp [Value.category]) (Or.inl rfl) ⟨Nat.le_of_ble_eq_true rfl, Nat.le_of_ble_eq_true rfl⟩).trans ?_
  refine pv_ite ?_ rfl
  refine congrArg (Option.bind _) (funext fun q2 => ?_)
  refine (ss_icmp_eq rfl).trans ?_
  refine pv_ite ?_ ?_
  · rfl
  · refine (ss_iconst rfl (v := 0) rfl).trans ?_
    exact (ss_zreturn rfl).trans (if_pos (by decide))
set_option maxRecDepth 100000 in
theorem u_Lw_law_1195 (X : pv_X) (v0 : Nat) (v1 : Nat) (v2 : Nat) (v3 : Nat) (v4 : Int32) (o5 : Option Value) (o6 : Option Value) (h : pv_H) : f_Lw_law_1195 X v0 v1 v2 v3 v4 o5 o6 h =
    (pv_aX X h v0 (v4 + 1)).bind (fun x1 => if pv_rc h v1 10 = true then (pv_tI (pM X m_Wp_right [.ref v1, .int x1] h)).bind (fun q2 => (pv_aX X q2.2 v0 (v4 + 1)).bind (fun x3 => if pv_rc q2.2 v2 11 = true then (pv_tI (pM X m_Md_right [.ref v2, .int x3] q2.2)).bind (fun q4 => if q2.1 = q4.1 then f_Lw_law_1638 X v0 v1 v2 v3 v4 o5 o6 q4.2 else some (some (.int 0), q4.2)) else none)) else none) := by
  show pS X 100 (some .boolean) k_Lw_law 1195 [some (.ref v0), some (.ref v1), some (.ref v2), some (.ref v3), some (.int v4), o5, o6] [] h = _
  refine (ss_aload_n rfl rfl).trans ?_
  refine (ss_aload_n rfl rfl).trans ?_
  refine (ss_iload rfl rfl).trans ?_
  refine (ss_iconst rfl (v := 1) rfl).trans ?_
  refine (ss_iadd rfl).trans ?_
  refine (ss_iaload rfl).trans ?_
  refine congrArg (Option.bind _) (funext fun x1 => ?_)
  refine (ss_callVI (as := [.int x1]) rfl t_Wp_right (by decide) rfl rfl (by decide) (Or.inl rfl) ⟨Nat.le_of_ble_eq_true rfl, Nat.le_of_ble_eq_true rfl⟩).trans ?_
  refine pv_ite ?_ rfl
  refine congrArg (Option.bind _) (funext fun q2 => ?_)
  refine (ss_aload_n rfl rfl).trans ?_
  refine (ss_aload_n rfl rfl).trans ?_
  refine (ss_iload rfl rfl).trans ?_
  refine (ss_iconst rfl (v := 1) rfl).trans ?_
  refine (ss_iadd rfl).trans ?_
  refine (ss_iaload rfl).trans ?_
  refine congrArg (Option.bind _) (funext fun x3 => ?_)
  refine (ss_callVI (as := [.int x3]) rfl t_Md_right (by decide) rfl rfl (by simp [Value.category]) (Or.inl rfl) ⟨Nat.le_of_ble_eq_true rfl, Nat.le_of_ble_eq_true rfl⟩).trans ?_
  refine pv_ite ?_ rfl
  refine congrArg (Option.bind _) (funext fun q4 => ?_)
  refine (ss_icmp_eq rfl).trans ?_
  refine pv_ite ?_ ?_
  · rfl
  · refine (ss_iconst rfl (v := 0) rfl).trans ?_
    exact (ss_zreturn rfl).trans (if_pos (by decide))
set_option maxRecDepth 100000 in
theorem u_Lw_law_1220 (X : pv_X) (v0 : Nat) (v1 : Nat) (v2 : Nat) (v3 : Nat) (v4 : Int32) (o5 : Option Value) (o6 : Option Value) (h : pv_H) : f_Lw_law_1220 X v0 v1 v2 v3 v4 o5 o6 h =
    if pv_rc h v1 10 = true then (pv_tI (pM X m_Wp_steady [.ref v1] h)).bind (fun q1 => if pv_rc q1.2 v2 11 = true then (pv_tI (pM X m_Md_steady [.ref v2] q1.2)).bind (fun q2 => if q1.1 = q2.1 then f_Lw_law_1638 X v0 v1 v2 v3 v4 o5 o6 q2.2 else some (some (.int 0), q2.2)) else none) else none := by
  show pS X 100 (some .boolean) k_Lw_law 1220 [some (.ref v0), some (.ref v1), some (.ref v2), some (.ref v3), some (.int v4), o5, o6] [] h = _
  refine (ss_aload_n rfl rfl).trans ?_
  refine (ss_callVI (as := []) rfl t_Wp_steady (by decide) rfl rfl (by decide) (Or.inl rfl) ⟨Nat.le_of_ble_eq_true rfl, Nat.le_of_ble_eq_true rfl⟩).trans ?_
  refine pv_ite ?_ rfl
  refine congrArg (Option.bind _) (funext fun q1 => ?_)
  refine (ss_aload_n rfl rfl).trans ?_
  refine (ss_callVI (as := []) rfl t_Md_steady (by decide) rfl rfl (by simp [Value.category]) (Or.inl rfl) ⟨Nat.le_of_ble_eq_true rfl, Nat.le_of_ble_eq_true rfl⟩).trans ?_
  refine pv_ite ?_ rfl
  refine congrArg (Option.bind _) (funext fun q2 => ?_)
  refine (ss_icmp_eq rfl).trans ?_
  refine pv_ite ?_ ?_
  · rfl
  · refine (ss_iconst rfl (v := 0) rfl).trans ?_
    exact (ss_zreturn rfl).trans (if_pos (by decide))
set_option maxRecDepth 100000 in
theorem u_Lw_law_1233 (X : pv_X) (v0 : Nat) (v1 : Nat) (v2 : Nat) (v3 : Nat) (v4 : Int32) (o5 : Option Value) (o6 : Option Value) (h : pv_H) : f_Lw_law_1233 X v0 v1 v2 v3 v4 o5 o6 h =
    (pv_aX X h v0 (v4 + 1)).bind (fun x1 => (pv_aX X h v0 (v4 + 2)).bind (fun x2 => (pv_aX X h v0 (v4 + 3)).bind (fun x3 => if pv_rc h v1 10 = true then (pv_tI (pM X m_Wp_passes [.ref v1, .int x1, .int x2, .int x3] h)).bind (fun q4 => (pv_aX X q4.2 v0 (v4 + 1)).bind (fun x5 => (pv_aX X q4.2 v0 (v4 + 2)).bind (fun x6 => (pv_aX X q4.2 v0 (v4 + 3)).bind (fun x7 => if pv_rc q4.2 v2 11 = true then (pv_tI (pM X m_Md_passes_3 [.ref v2, .int x5, .int x6, .int x7] q4.2)).bind (fun q8 => if q4.1 = q8.1 then f_Lw_law_1638 X v0 v1 v2 v3 v4 o5 o6 q8.2 else some (some (.int 0), q8.2)) else none)))) else none))) := by
  show pS X 100 (some .boolean) k_Lw_law 1233 [some (.ref v0), some (.ref v1), some (.ref v2), some (.ref v3), some (.int v4), o5, o6] [] h = _
  refine (ss_aload_n rfl rfl).trans ?_
  refine (ss_aload_n rfl rfl).trans ?_
  refine (ss_iload rfl rfl).trans ?_
  refine (ss_iconst rfl (v := 1) rfl).trans ?_
  refine (ss_iadd rfl).trans ?_
  refine (ss_iaload rfl).trans ?_
  refine congrArg (Option.bind _) (funext fun x1 => ?_)
  refine (ss_aload_n rfl rfl).trans ?_
  refine (ss_iload rfl rfl).trans ?_
  refine (ss_iconst rfl (v := 2) rfl).trans ?_
  refine (ss_iadd rfl).trans ?_
  refine (ss_iaload rfl).trans ?_
  refine congrArg (Option.bind _) (funext fun x2 => ?_)
  refine (ss_aload_n rfl rfl).trans ?_
  refine (ss_iload rfl rfl).trans ?_
  refine (ss_iconst rfl (v := 3) rfl).trans ?_
  refine (ss_iadd rfl).trans ?_
  refine (ss_iaload rfl).trans ?_
  refine congrArg (Option.bind _) (funext fun x3 => ?_)
  refine (ss_callVI (as := [.int x1, .int x2, .int x3]) rfl t_Wp_passes (by decide) rfl rfl (by decide) (Or.inl rfl) ⟨Nat.le_of_ble_eq_true rfl, Nat.le_of_ble_eq_true rfl⟩).trans ?_
  refine pv_ite ?_ rfl
  refine congrArg (Option.bind _) (funext fun q4 => ?_)
  refine (ss_aload_n rfl rfl).trans ?_
  refine (ss_aload_n rfl rfl).trans ?_
  refine (ss_iload rfl rfl).trans ?_
  refine (ss_iconst rfl (v := 1) rfl).trans ?_
  refine (ss_iadd rfl).trans ?_
  refine (ss_iaload rfl).trans ?_
  refine congrArg (Option.bind _) (funext fun x5 => ?_)
  refine (ss_aload_n rfl rfl).trans ?_
  refine (ss_iload rfl rfl).trans ?_
  refine (ss_iconst rfl (v := 2) rfl).trans ?_
  refine (ss_iadd rfl).trans ?_
  refine (ss_iaload rfl).trans ?_
  refine congrArg (Option.bind _) (funext fun x6 => ?_)
  refine (ss_aload_n rfl rfl).trans ?_
  refine (ss_iload rfl rfl).trans ?_
  refine (ss_iconst rfl (v := 3) rfl).trans ?_
  refine (ss_iadd rfl).trans ?_
  refine (ss_iaload rfl).trans ?_
  refine congrArg (Option.bind _) (funext fun x7 => ?_)
  refine (ss_callVI (as := [.int x5, .int x6, .int x7]) rfl t_Md_passes_3 (by decide) rfl rfl (by simp [Value.category]) (Or.inl rfl) ⟨Nat.le_of_ble_eq_true rfl, Nat.le_of_ble_eq_true rfl⟩).trans ?_
  refine pv_ite ?_ rfl
  refine congrArg (Option.bind _) (funext fun q8 => ?_)
  refine (ss_icmp_eq rfl).trans ?_
  refine pv_ite ?_ ?_
  · rfl
  · refine (ss_iconst rfl (v := 0) rfl).trans ?_
    exact (ss_zreturn rfl).trans (if_pos (by decide))
set_option maxRecDepth 100000 in
theorem u_Lw_law_1282 (X : pv_X) (v0 : Nat) (v1 : Nat) (v2 : Nat) (v3 : Nat) (v4 : Int32) (o5 : Option Value) (o6 : Option Value) (h : pv_H) : f_Lw_law_1282 X v0 v1 v2 v3 v4 o5 o6 h =
    if pv_rc h v1 10 = true then (pv_tI (pM X m_Wp_hub [.ref v1] h)).bind (fun q1 => if pv_rc q1.2 v2 11 = true then (pv_tI (pM X m_Md_hub [.ref v2] q1.2)).bind (fun q2 => if q1.1 = q2.1 then f_Lw_law_1638 X v0 v1 v2 v3 v4 o5 o6 q2.2 else some (some (.int 0), q2.2)) else none) else none := by
  show pS X 100 (some .boolean) k_Lw_law 1282 [some (.ref v0), some (.ref v1), some (.ref v2), some (.ref v3), some (.int v4), o5, o6] [] h = _
  refine (ss_aload_n rfl rfl).trans ?_
  refine (ss_callVI (as := []) rfl t_Wp_hub (by decide) rfl rfl (by decide) (Or.inl rfl) ⟨Nat.le_of_ble_eq_true rfl, Nat.le_of_ble_eq_true rfl⟩).trans ?_
  refine pv_ite ?_ rfl
  refine congrArg (Option.bind _) (funext fun q1 => ?_)
  refine (ss_aload_n rfl rfl).trans ?_
  refine (ss_callVI (as := []) rfl t_Md_hub (by decide) rfl rfl (by simp [Value.category]) (Or.inl rfl) ⟨Nat.le_of_ble_eq_true rfl, Nat.le_of_ble_eq_true rfl⟩).trans ?_
  refine pv_ite ?_ rfl
  refine congrArg (Option.bind _) (funext fun q2 => ?_)
  refine (ss_icmp_eq rfl).trans ?_
  refine pv_ite ?_ ?_
  · rfl
  · refine (ss_iconst rfl (v := 0) rfl).trans ?_
    exact (ss_zreturn rfl).trans (if_pos (by decide))
set_option maxRecDepth 100000 in
theorem u_Lw_law_1295 (X : pv_X) (v0 : Nat) (v1 : Nat) (v2 : Nat) (v3 : Nat) (v4 : Int32) (o5 : Option Value) (o6 : Option Value) (h : pv_H) : f_Lw_law_1295 X v0 v1 v2 v3 v4 o5 o6 h =
    (pv_aX X h v0 (v4 + 1)).bind (fun x1 => if pv_rc h v1 10 = true then (pv_tI (pM X m_Wp_teacher [.ref v1, .int x1] h)).bind (fun q2 => (pv_aX X q2.2 v0 (v4 + 1)).bind (fun x3 => if pv_rc q2.2 v2 11 = true then (pv_tI (pM X m_Md_teacher [.ref v2, .int x3] q2.2)).bind (fun q4 => if q2.1 = q4.1 then f_Lw_law_1638 X v0 v1 v2 v3 v4 o5 o6 q4.2 else some (some (.int 0), q4.2)) else none)) else none) := by
  show pS X 100 (some .boolean) k_Lw_law 1295 [some (.ref v0), some (.ref v1), some (.ref v2), some (.ref v3), some (.int v4), o5, o6] [] h = _
  refine (ss_aload_n rfl rfl).trans ?_
  refine (ss_aload_n rfl rfl).trans ?_
  refine (ss_iload rfl rfl).trans ?_
  refine (ss_iconst rfl (v := 1) rfl).trans ?_
  refine (ss_iadd rfl).trans ?_
  refine (ss_iaload rfl).trans ?_
  refine congrArg (Option.bind _) (funext fun x1 => ?_)
  refine (ss_callVI (as := [.int x1]) rfl t_Wp_teacher (by decide) rfl rfl (by decide) (Or.inl rfl) ⟨Nat.le_of_ble_eq_true rfl, Nat.le_of_ble_eq_true rfl⟩).trans ?_
  refine pv_ite ?_ rfl
  refine congrArg (Option.bind _) (funext fun q2 => ?_)
  refine (ss_aload_n rfl rfl).trans ?_
  refine (ss_aload_n rfl rfl).trans ?_
  refine (ss_iload rfl rfl).trans ?_
  refine (ss_iconst rfl (v := 1) rfl).trans ?_
  refine (ss_iadd rfl).trans ?_
  refine (ss_iaload rfl).trans ?_
  refine congrArg (Option.bind _) (funext fun x3 => ?_)
  refine (ss_callVI (as := [.int x3]) rfl t_Md_teacher (by decide) rfl rfl (by simp [Value.category]) (Or.inl rfl) ⟨Nat.le_of_ble_eq_true rfl, Nat.le_of_ble_eq_true rfl⟩).trans ?_
  refine pv_ite ?_ rfl
  refine congrArg (Option.bind _) (funext fun q4 => ?_)
  refine (ss_icmp_eq rfl).trans ?_
  refine pv_ite ?_ ?_
  · rfl
  · refine (ss_iconst rfl (v := 0) rfl).trans ?_
    exact (ss_zreturn rfl).trans (if_pos (by decide))
set_option maxRecDepth 100000 in
theorem u_Lw_law_1320 (X : pv_X) (v0 : Nat) (v1 : Nat) (v2 : Nat) (v3 : Nat) (v4 : Int32) (o5 : Option Value) (o6 : Option Value) (h : pv_H) : f_Lw_law_1320 X v0 v1 v2 v3 v4 o5 o6 h =
    if pv_rc h v1 10 = true then (pv_tI (pM X m_Wp_together [.ref v1] h)).bind (fun q1 => if pv_rc q1.2 v2 11 = true then (pv_tI (pM X m_Md_together [.ref v2] q1.2)).bind (fun q2 => if q1.1 = q2.1 then f_Lw_law_1638 X v0 v1 v2 v3 v4 o5 o6 q2.2 else some (some (.int 0), q2.2)) else none) else none := by
  show pS X 100 (some .boolean) k_Lw_law 1320 [some (.ref v0), some (.ref v1), some (.ref v2), some (.ref v3), some (.int v4), o5, o6] [] h = _
  refine (ss_aload_n rfl rfl).trans ?_
  refine (ss_callVI (as := []) rfl t_Wp_together (by decide) rfl rfl (by decide) (Or.inl rfl) ⟨Nat.le_of_ble_eq_true rfl, Nat.le_of_ble_eq_true rfl⟩).trans ?_
  refine pv_ite ?_ rfl
  refine congrArg (Option.bind _) (funext fun q1 => ?_)
  refine (ss_aload_n rfl rfl).trans ?_
  refine (ss_callVI (as := []) rfl t_Md_together (by decide) rfl rfl (by simp [Value.category]) (Or.inl rfl) ⟨Nat.le_of_ble_eq_true rfl, Nat.le_of_ble_eq_true rfl⟩).trans ?_
  refine pv_ite ?_ rfl
  refine congrArg (Option.bind _) (funext fun q2 => ?_)
  refine (ss_icmp_eq rfl).trans ?_
  refine pv_ite ?_ ?_
  · rfl
  · refine (ss_iconst rfl (v := 0) rfl).trans ?_
    exact (ss_zreturn rfl).trans (if_pos (by decide))
set_option maxRecDepth 100000 in
theorem u_Lw_law_1333 (X : pv_X) (v0 : Nat) (v1 : Nat) (v2 : Nat) (v3 : Nat) (v4 : Int32) (o5 : Option Value) (o6 : Option Value) (h : pv_H) : f_Lw_law_1333 X v0 v1 v2 v3 v4 o5 o6 h =
    (pv_aX X h v0 (v4 + 1)).bind (fun x1 => if pv_rc h v1 10 = true then (pv_tI (pM X m_Wp_cure [.ref v1, .int x1] h)).bind (fun q2 => (pv_aX X q2.2 v0 (v4 + 1)).bind (fun x3 => if pv_rc q2.2 v2 11 = true then (pv_tI (pM X m_Md_cure [.ref v2, .int x3] q2.2)).bind (fun q4 => if q2.1 = q4.1 then f_Lw_law_1638 X v0 v1 v2 v3 v4 o5 o6 q4.2 else some (some (.int 0), q4.2)) else none)) else none) := by
  show pS X 100 (some .boolean) k_Lw_law 1333 [some (.ref v0), some (.ref v1), some (.ref v2), some (.ref v3), some (.int v4), o5, o6] [] h = _
  refine (ss_aload_n rfl rfl).trans ?_
  refine (ss_aload_n rfl rfl).trans ?_
  refine (ss_iload rfl rfl).trans ?_
  refine (ss_iconst rfl (v := 1) rfl).trans ?_
  refine (ss_iadd rfl).trans ?_
  refine (ss_iaload rfl).trans ?_
  refine congrArg (Option.bind _) (funext fun x1 => ?_)
  refine (ss_callVI (as := [.int x1]) rfl t_Wp_cure (by decide) rfl rfl (by decide) (Or.inl rfl) ⟨Nat.le_of_ble_eq_true rfl, Nat.le_of_ble_eq_true rfl⟩).trans ?_
  refine pv_ite ?_ rfl
  refine congrArg (Option.bind _) (funext fun q2 => ?_)
  refine (ss_aload_n rfl rfl).trans ?_
  refine (ss_aload_n rfl rfl).trans ?_
  refine (ss_iload rfl rfl).trans ?_
  refine (ss_iconst rfl (v := 1) rfl).trans ?_
  refine (ss_iadd rfl).trans ?_
  refine (ss_iaload rfl).trans ?_
  refine congrArg (Option.bind _) (funext fun x3 => ?_)
  refine (ss_callVI (as := [.int x3]) rfl t_Md_cure (by decide) rfl rfl (by simp [Value.category]) (Or.inl rfl) ⟨Nat.le_of_ble_eq_true rfl, Nat.le_of_ble_eq_true rfl⟩).trans ?_
  refine pv_ite ?_ rfl
  refine congrArg (Option.bind _) (funext fun q4 => ?_)
  refine (ss_icmp_eq rfl).trans ?_
  refine pv_ite ?_ ?_
  · rfl
  · refine (ss_iconst rfl (v := 0) rfl).trans ?_
    exact (ss_zreturn rfl).trans (if_pos (by decide))
set_option maxRecDepth 100000 in
theorem u_Lw_law_1358 (X : pv_X) (v0 : Nat) (v1 : Nat) (v2 : Nat) (v3 : Nat) (v4 : Int32) (o5 : Option Value) (o6 : Option Value) (h : pv_H) : f_Lw_law_1358 X v0 v1 v2 v3 v4 o5 o6 h =
    (pv_aX X h v0 (v4 + 1)).bind (fun x1 => (pv_aX X h v0 (v4 + 2)).bind (fun x2 => (pv_aX X h v0 (v4 + 3)).bind (fun x3 => (pv_aX X h v0 (v4 + 4)).bind (fun x4 => if pv_rc h v1 10 = true then (pv_tI (pM X m_Wp_chance [.ref v1, .int x1, .int x2, .int x3, .int x4] h)).bind (fun q5 => (pv_aX X q5.2 v0 (v4 + 1)).bind (fun x6 => (pv_aX X q5.2 v0 (v4 + 2)).bind (fun x7 => (pv_aX X q5.2 v0 (v4 + 3)).bind (fun x8 => (pv_aX X q5.2 v0 (v4 + 4)).bind (fun x9 => if pv_rc q5.2 v2 11 = true then (pv_tI (pM X m_Md_chance [.ref v2, .int x6, .int x7, .int x8, .int x9] q5.2)).bind (fun q10 => if q5.1 = q10.1 then f_Lw_law_1638 X v0 v1 v2 v3 v4 o5 o6 q10.2 else some (some (.int 0), q10.2)) else none))))) else none)))) := by
  show pS X 100 (some .boolean) k_Lw_law 1358 [some (.ref v0), some (.ref v1), some (.ref v2), some (.ref v3), some (.int v4), o5, o6] [] h = _
  refine (ss_aload_n rfl rfl).trans ?_
  refine (ss_aload_n rfl rfl).trans ?_
  refine (ss_iload rfl rfl).trans ?_
  refine (ss_iconst rfl (v := 1) rfl).trans ?_
  refine (ss_iadd rfl).trans ?_
  refine (ss_iaload rfl).trans ?_
  refine congrArg (Option.bind _) (funext fun x1 => ?_)
  refine (ss_aload_n rfl rfl).trans ?_
  refine (ss_iload rfl rfl).trans ?_
  refine (ss_iconst rfl (v := 2) rfl).trans ?_
  refine (ss_iadd rfl).trans ?_
  refine (ss_iaload rfl).trans ?_
  refine congrArg (Option.bind _) (funext fun x2 => ?_)
  refine (ss_aload_n rfl rfl).trans ?_
  refine (ss_iload rfl rfl).trans ?_
  refine (ss_iconst rfl (v := 3) rfl).trans ?_
  refine (ss_iadd rfl).trans ?_
  refine (ss_iaload rfl).trans ?_
  refine congrArg (Option.bind _) (funext fun x3 => ?_)
  refine (ss_aload_n rfl rfl).trans ?_
  refine (ss_iload rfl rfl).trans ?_
  refine (ss_iconst rfl (v := 4) rfl).trans ?_
  refine (ss_iadd rfl).trans ?_
  refine (ss_iaload rfl).trans ?_
  refine congrArg (Option.bind _) (funext fun x4 => ?_)
  refine (ss_callVI (as := [.int x1, .int x2, .int x3, .int x4]) rfl t_Wp_chance (by decide) rfl rfl (by decide) (Or.inl rfl) ⟨Nat.le_of_ble_eq_true rfl, Nat.le_of_ble_eq_true rfl⟩).trans ?_
  refine pv_ite ?_ rfl
  refine congrArg (Option.bind _) (funext fun q5 => ?_)
  refine (ss_aload_n rfl rfl).trans ?_
  refine (ss_aload_n rfl rfl).trans ?_
  refine (ss_iload rfl rfl).trans ?_
  refine (ss_iconst rfl (v := 1) rfl).trans ?_
  refine (ss_iadd rfl).trans ?_
  refine (ss_iaload rfl).trans ?_
  refine congrArg (Option.bind _) (funext fun x6 => ?_)
  refine (ss_aload_n rfl rfl).trans ?_
  refine (ss_iload rfl rfl).trans ?_
  refine (ss_iconst rfl (v := 2) rfl).trans ?_
  refine (ss_iadd rfl).trans ?_
  refine (ss_iaload rfl).trans ?_
  refine congrArg (Option.bind _) (funext fun x7 => ?_)
  refine (ss_aload_n rfl rfl).trans ?_
  refine (ss_iload rfl rfl).trans ?_
  refine (ss_iconst rfl (v := 3) rfl).trans ?_
  refine (ss_iadd rfl).trans ?_
  refine (ss_iaload rfl).trans ?_
  refine congrArg (Option.bind _) (funext fun x8 => ?_)
  refine (ss_aload_n rfl rfl).trans ?_
  refine (ss_iload rfl rfl).trans ?_
  refine (ss_iconst rfl (v := 4) rfl).trans ?_
  refine (ss_iadd rfl).trans ?_
  refine (ss_iaload rfl).trans ?_
  refine congrArg (Option.bind _) (funext fun x9 => ?_)
  refine (ss_callVI (as := [.int x6, .int x7, .int x8, .int x9]) rfl t_Md_chance (by decide) rfl rfl (by simp [Value.category]) (Or.inl rfl) ⟨Nat.le_of_ble_eq_true rfl, Nat.le_of_ble_eq_true rfl⟩).trans ?_
  refine pv_ite ?_ rfl
  refine congrArg (Option.bind _) (funext fun q10 => ?_)
  refine (ss_icmp_eq rfl).trans ?_
  refine pv_ite ?_ ?_
  · rfl
  · refine (ss_iconst rfl (v := 0) rfl).trans ?_
    exact (ss_zreturn rfl).trans (if_pos (by decide))
set_option maxRecDepth 100000 in
theorem u_Lw_law_1419 (X : pv_X) (v0 : Nat) (v1 : Nat) (v2 : Nat) (v3 : Nat) (v4 : Int32) (o5 : Option Value) (o6 : Option Value) (h : pv_H) : f_Lw_law_1419 X v0 v1 v2 v3 v4 o5 o6 h =
    (pv_aX X h v0 (v4 + 1)).bind (fun x1 => (pv_aX X h v0 (v4 + 2)).bind (fun x2 => (pv_aX X h v0 (v4 + 3)).bind (fun x3 => (pv_aX X h v0 (v4 + 4)).bind (fun x4 => (pv_tI (pv_ext 903 [.ref v1, .int x1, .int x2, .int x3, .int x4, .ref v3] h)).bind (fun q5 => (pv_aX X q5.2 v0 (v4 + 1)).bind (fun x6 => (pv_aX X q5.2 v0 (v4 + 2)).bind (fun x7 => (pv_aX X q5.2 v0 (v4 + 3)).bind (fun x8 => (pv_aX X q5.2 v0 (v4 + 4)).bind (fun x9 => if pv_rc q5.2 v2 11 = true then (pv_tI (pM X m_Md_rests [.ref v2, .int x6, .int x7, .int x8, .int x9] q5.2)).bind (fun q10 => if pv_rc q10.2 v2 11 = true then (pv_tI (pM X m_Md_thrown [.ref v2] q10.2)).bind (fun q11 => if q11.1 = q5.1 then if ¬ q5.1 = 0 then f_Lw_law_1508 X v0 v1 v2 v3 v4 q5.1 q10.1 q11.2 else (pv_aJ q11.2 v3 0).bind (fun x12 => if (lg_cmp x12 (q10.1 : Int32).toInt64) = 0 then f_Lw_law_1508 X v0 v1 v2 v3 v4 q5.1 q10.1 q11.2 else some (some (.int 0), q11.2)) else some (some (.int 0), q11.2)) else none) else none))))))))) := by
  show pS X 100 (some .boolean) k_Lw_law 1419 [some (.ref v0), some (.ref v1), some (.ref v2), some (.ref v3), some (.int v4), o5, o6] [] h = _
  refine (ss_aload_n rfl rfl).trans ?_
  refine (ss_aload_n rfl rfl).trans ?_
  refine (ss_iload rfl rfl).trans ?_
  refine (ss_iconst rfl (v := 1) rfl).trans ?_
  refine (ss_iadd rfl).trans ?_
  refine (ss_iaload rfl).trans ?_
  refine congrArg (Option.bind _) (funext fun x1 => ?_)
  refine (ss_aload_n rfl rfl).trans ?_
  refine (ss_iload rfl rfl).trans ?_
  refine (ss_iconst rfl (v := 2) rfl).trans ?_
  refine (ss_iadd rfl).trans ?_
  refine (ss_iaload rfl).trans ?_
  refine congrArg (Option.bind _) (funext fun x2 => ?_)
  refine (ss_aload_n rfl rfl).trans ?_
  refine (ss_iload rfl rfl).trans ?_
  refine (ss_iconst rfl (v := 3) rfl).trans ?_
  refine (ss_iadd rfl).trans ?_
  refine (ss_iaload rfl).trans ?_
  refine congrArg (Option.bind _) (funext fun x3 => ?_)
  refine (ss_aload_n rfl rfl).trans ?_
  refine (ss_iload rfl rfl).trans ?_
  refine (ss_iconst rfl (v := 4) rfl).trans ?_
  refine (ss_iadd rfl).trans ?_
  refine (ss_iaload rfl).trans ?_
  refine congrArg (Option.bind _) (funext fun x4 => ?_)
  refine (ss_aload_n rfl rfl).trans ?_
  refine (ss_extS (as := [.ref v1, .int x1, .int x2, .int x3, .int x4, .ref v3]) rfl (by rfl) (by decide) rfl rfl (by decide)).trans ?_
  refine congrArg (Option.bind _) (funext fun q5 => ?_)
  refine (ss_istore rfl rfl).trans ?_
  refine (ss_aload_n rfl rfl).trans ?_
  refine (ss_aload_n rfl rfl).trans ?_
  refine (ss_iload rfl rfl).trans ?_
  refine (ss_iconst rfl (v := 1) rfl).trans ?_
  refine (ss_iadd rfl).trans ?_
  refine (ss_iaload rfl).trans ?_
  refine congrArg (Option.bind _) (funext fun x6 => ?_)
  refine (ss_aload_n rfl rfl).trans ?_
  refine (ss_iload rfl rfl).trans ?_
  refine (ss_iconst rfl (v := 2) rfl).trans ?_
  refine (ss_iadd rfl).trans ?_
  refine (ss_iaload rfl).trans ?_
  refine congrArg (Option.bind _) (funext fun x7 => ?_)
  refine (ss_aload_n rfl rfl).trans ?_
  refine (ss_iload rfl rfl).trans ?_
  refine (ss_iconst rfl (v := 3) rfl).trans ?_
  refine (ss_iadd rfl).trans ?_
  refine (ss_iaload rfl).trans ?_
  refine congrArg (Option.bind _) (funext fun x8 => ?_)
  refine (ss_aload_n rfl rfl).trans ?_
  refine (ss_iload rfl rfl).trans ?_
  refine (ss_iconst rfl (v := 4) rfl).trans ?_
  refine (ss_iadd rfl).trans ?_
  refine (ss_iaload rfl).trans ?_
  refine congrArg (Option.bind _) (funext fun x9 => ?_)
  refine (ss_callVI (as := [.int x6, .int x7, .int x8, .int x9]) rfl t_Md_rests (by decide) rfl rfl (by decide) (Or.inl rfl) ⟨Nat.le_of_ble_eq_true rfl, Nat.le_of_ble_eq_true rfl⟩).trans ?_
  refine pv_ite ?_ rfl
  refine congrArg (Option.bind _) (funext fun q10 => ?_)
  refine (ss_istore rfl rfl).trans ?_
  refine (ss_aload_n rfl rfl).trans ?_
  refine (ss_callVI (as := []) rfl t_Md_thrown (by decide) rfl rfl (by decide) (Or.inl rfl) ⟨Nat.le_of_ble_eq_true rfl, Nat.le_of_ble_eq_true rfl⟩).trans ?_
  refine pv_ite ?_ rfl
  refine congrArg (Option.bind _) (funext fun q11 => ?_)
  refine (ss_iload rfl rfl).trans ?_
  refine (ss_icmp_eq rfl).trans ?_
  refine pv_ite ?_ ?_
  · refine (ss_iload rfl rfl).trans ?_
    refine (ss_if_ne rfl).trans ?_
    refine pv_ite ?_ ?_
    · rfl
    · refine (ss_aload_n rfl rfl).trans ?_
      refine (ss_iconst rfl (v := 0) rfl).trans ?_
      refine (ss_laload rfl).trans ?_
      refine congrArg (Option.bind _) (funext fun x12 => ?_)
      refine (ss_iload rfl rfl).trans ?_
      refine (ss_i2l rfl).trans ?_
      refine (ss_lcmp rfl).trans ?_
      refine (ss_if_eq rfl).trans ?_
      refine pv_ite ?_ ?_
      · rfl
      · refine (ss_iconst rfl (v := 0) rfl).trans ?_
        exact (ss_zreturn rfl).trans (if_pos (by decide))
  · refine (ss_iconst rfl (v := 0) rfl).trans ?_
    exact (ss_zreturn rfl).trans (if_pos (by decide))
set_option maxRecDepth 100000 in
theorem u_Lw_law_1508 (X : pv_X) (v0 : Nat) (v1 : Nat) (v2 : Nat) (v3 : Nat) (v4 : Int32) (v5 : Int32) (v6 : Int32) (h : pv_H) : f_Lw_law_1508 X v0 v1 v2 v3 v4 v5 v6 h =
    f_Lw_law_1638 X v0 v1 v2 v3 v4 (some (.int v5)) (some (.int v6)) h := by
  show pS X 100 (some .boolean) k_Lw_law 1508 [some (.ref v0), some (.ref v1), some (.ref v2), some (.ref v3), some (.int v4), some (.int v5), some (.int v6)] [] h = _
  refine (ss_goto rfl).trans ?_
  rfl
set_option maxRecDepth 100000 in
theorem u_Lw_law_1511 (X : pv_X) (v0 : Nat) (v1 : Nat) (v2 : Nat) (v3 : Nat) (v4 : Int32) (o5 : Option Value) (o6 : Option Value) (h : pv_H) : f_Lw_law_1511 X v0 v1 v2 v3 v4 o5 o6 h =
    (pv_aX X h v0 (v4 + 1)).bind (fun x1 => (pv_aX X h v0 (v4 + 2)).bind (fun x2 => (pv_aX X h v0 (v4 + 3)).bind (fun x3 => if pv_rc h v1 10 = true then (pv_tI (pM X m_Wp_years [.ref v1, .int x1, .int x2, .int x3] h)).bind (fun q4 => (pv_aX X q4.2 v0 (v4 + 1)).bind (fun x5 => (pv_aX X q4.2 v0 (v4 + 2)).bind (fun x6 => (pv_aX X q4.2 v0 (v4 + 3)).bind (fun x7 => if pv_rc q4.2 v2 11 = true then (pv_tI (pM X m_Md_years [.ref v2, .int x5, .int x6, .int x7] q4.2)).bind (fun q8 => if q4.1 = q8.1 then f_Lw_law_1638 X v0 v1 v2 v3 v4 o5 o6 q8.2 else some (some (.int 0), q8.2)) else none)))) else none))) := by
  show pS X 100 (some .boolean) k_Lw_law 1511 [some (.ref v0), some (.ref v1), some (.ref v2), some (.ref v3), some (.int v4), o5, o6] [] h = _
  refine (ss_aload_n rfl rfl).trans ?_
  refine (ss_aload_n rfl rfl).trans ?_
  refine (ss_iload rfl rfl).trans ?_
  refine (ss_iconst rfl (v := 1) rfl).trans ?_
  refine (ss_iadd rfl).trans ?_
  refine (ss_iaload rfl).trans ?_
  refine congrArg (Option.bind _) (funext fun x1 => ?_)
  refine (ss_aload_n rfl rfl).trans ?_
  refine (ss_iload rfl rfl).trans ?_
  refine (ss_iconst rfl (v := 2) rfl).trans ?_
  refine (ss_iadd rfl).trans ?_
  refine (ss_iaload rfl).trans ?_
  refine congrArg (Option.bind _) (funext fun x2 => ?_)
  refine (ss_aload_n rfl rfl).trans ?_
  refine (ss_iload rfl rfl).trans ?_
  refine (ss_iconst rfl (v := 3) rfl).trans ?_
  refine (ss_iadd rfl).trans ?_
  refine (ss_iaload rfl).trans ?_
  refine congrArg (Option.bind _) (funext fun x3 => ?_)
  refine (ss_callVI (as := [.int x1, .int x2, .int x3]) rfl t_Wp_years (by decide) rfl rfl (by decide) (Or.inl rfl) ⟨Nat.le_of_ble_eq_true rfl, Nat.le_of_ble_eq_true rfl⟩).trans ?_
  refine pv_ite ?_ rfl
  refine congrArg (Option.bind _) (funext fun q4 => ?_)
  refine (ss_aload_n rfl rfl).trans ?_
  refine (ss_aload_n rfl rfl).trans ?_
  refine (ss_iload rfl rfl).trans ?_
  refine (ss_iconst rfl (v := 1) rfl).trans ?_
  refine (ss_iadd rfl).trans ?_
  refine (ss_iaload rfl).trans ?_
  refine congrArg (Option.bind _) (funext fun x5 => ?_)
  refine (ss_aload_n rfl rfl).trans ?_
  refine (ss_iload rfl rfl).trans ?_
  refine (ss_iconst rfl (v := 2) rfl).trans ?_
  refine (ss_iadd rfl).trans ?_
  refine (ss_iaload rfl).trans ?_
  refine congrArg (Option.bind _) (funext fun x6 => ?_)
  refine (ss_aload_n rfl rfl).trans ?_
  refine (ss_iload rfl rfl).trans ?_
  refine (ss_iconst rfl (v := 3) rfl).trans ?_
  refine (ss_iadd rfl).trans ?_
  refine (ss_iaload rfl).trans ?_
  refine congrArg (Option.bind _) (funext fun x7 => ?_)
  refine (ss_callVI (as := [.int x5, .int x6, .int x7]) rfl t_Md_years (by decide) rfl rfl (by simp [Value.category]) (Or.inl rfl) ⟨Nat.le_of_ble_eq_true rfl, Nat.le_of_ble_eq_true rfl⟩).trans ?_
  refine pv_ite ?_ rfl
  refine congrArg (Option.bind _) (funext fun q8 => ?_)
  refine (ss_icmp_eq rfl).trans ?_
  refine pv_ite ?_ ?_
  · rfl
  · refine (ss_iconst rfl (v := 0) rfl).trans ?_
    exact (ss_zreturn rfl).trans (if_pos (by decide))
set_option maxRecDepth 100000 in
theorem u_Lw_law_1560 (X : pv_X) (v0 : Nat) (v1 : Nat) (v2 : Nat) (v3 : Nat) (v4 : Int32) (o5 : Option Value) (o6 : Option Value) (h : pv_H) : f_Lw_law_1560 X v0 v1 v2 v3 v4 o5 o6 h =
    (pv_aX X h v0 (v4 + 1)).bind (fun x1 => (pv_aX X h v0 (v4 + 2)).bind (fun x2 => if x2 = 0 then f_Lw_law_1581 X v0 v1 v2 v3 v4 o5 o6 0 x1 v1 h else f_Lw_law_1581 X v0 v1 v2 v3 v4 o5 o6 1 x1 v1 h)) := by
  show pS X 100 (some .boolean) k_Lw_law 1560 [some (.ref v0), some (.ref v1), some (.ref v2), some (.ref v3), some (.int v4), o5, o6] [] h = _
  refine (ss_aload_n rfl rfl).trans ?_
  refine (ss_aload_n rfl rfl).trans ?_
  refine (ss_iload rfl rfl).trans ?_
  refine (ss_iconst rfl (v := 1) rfl).trans ?_
  refine (ss_iadd rfl).trans ?_
  refine (ss_iaload rfl).trans ?_
  refine congrArg (Option.bind _) (funext fun x1 => ?_)
  refine (ss_aload_n rfl rfl).trans ?_
  refine (ss_iload rfl rfl).trans ?_
  refine (ss_iconst rfl (v := 2) rfl).trans ?_
  refine (ss_iadd rfl).trans ?_
  refine (ss_iaload rfl).trans ?_
  refine congrArg (Option.bind _) (funext fun x2 => ?_)
  refine (ss_if_eq rfl).trans ?_
  refine pv_ite ?_ ?_
  · refine (ss_iconst rfl (v := 0) rfl).trans ?_
    rfl
  · refine (ss_iconst rfl (v := 1) rfl).trans ?_
    refine (ss_goto rfl).trans ?_
    rfl
set_option maxRecDepth 100000 in
theorem u_Lw_law_1581 (X : pv_X) (v0 : Nat) (v1 : Nat) (v2 : Nat) (v3 : Nat) (v4 : Int32) (o5 : Option Value) (o6 : Option Value) (s0 : Int32) (s1 : Int32) (s2 : Nat) (h : pv_H) : f_Lw_law_1581 X v0 v1 v2 v3 v4 o5 o6 s0 s1 s2 h =
    if pv_rc h s2 10 = true then (pv_tI (pM X m_Wp_mark [.ref s2, .int s1, .int s0] h)).bind (fun q1 => (pv_aX X q1.2 v0 (v4 + 1)).bind (fun x2 => (pv_aX X q1.2 v0 (v4 + 2)).bind (fun x3 => if x3 = 0 then f_Lw_law_1605 X v0 v1 v2 v3 v4 o5 o6 0 x2 v2 q1.1 q1.2 else f_Lw_law_1605 X v0 v1 v2 v3 v4 o5 o6 1 x2 v2 q1.1 q1.2))) else none := by
  show pS X 100 (some .boolean) k_Lw_law 1581 [some (.ref v0), some (.ref v1), some (.ref v2), some (.ref v3), some (.int v4), o5, o6] [.int s0, .int s1, .ref s2] h = _
  refine (ss_callVI (as := [.int s1, .int s0]) rfl t_Wp_mark (by decide) rfl rfl (by decide) (Or.inr rfl) ⟨Nat.le_of_ble_eq_true rfl, Nat.le_of_ble_eq_true rfl⟩).trans ?_
  refine pv_ite ?_ rfl
  refine congrArg (Option.bind _) (funext fun q1 => ?_)
  refine (ss_aload_n rfl rfl).trans ?_
  refine (ss_aload_n rfl rfl).trans ?_
  refine (ss_iload rfl rfl).trans ?_
  refine (ss_iconst rfl (v := 1) rfl).trans ?_
  refine (ss_iadd rfl).trans ?_
  refine (ss_iaload rfl).trans ?_
  refine congrArg (Option.bind _) (funext fun x2 => ?_)
  refine (ss_aload_n rfl rfl).trans ?_
  refine (ss_iload rfl rfl).trans ?_
  refine (ss_iconst rfl (v := 2) rfl).trans ?_
  refine (ss_iadd rfl).trans ?_
  refine (ss_iaload rfl).trans ?_
  refine congrArg (Option.bind _) (funext fun x3 => ?_)
  refine (ss_if_eq rfl).trans ?_
  refine pv_ite ?_ ?_
  · refine (ss_iconst rfl (v := 0) rfl).trans ?_
    rfl
  · refine (ss_iconst rfl (v := 1) rfl).trans ?_
    refine (ss_goto rfl).trans ?_
    rfl
set_option maxRecDepth 100000 in
theorem u_Lw_law_1605 (X : pv_X) (v0 : Nat) (v1 : Nat) (v2 : Nat) (v3 : Nat) (v4 : Int32) (o5 : Option Value) (o6 : Option Value) (s0 : Int32) (s1 : Int32) (s2 : Nat) (s3 : Int32) (h : pv_H) : f_Lw_law_1605 X v0 v1 v2 v3 v4 o5 o6 s0 s1 s2 s3 h =
    if pv_rc h s2 11 = true then (pv_tI (pM X m_Md_mark [.ref s2, .int s1, .int s0] h)).bind (fun q1 => if s3 = q1.1 then f_Lw_law_1638 X v0 v1 v2 v3 v4 o5 o6 q1.2 else some (some (.int 0), q1.2)) else none := by
  show pS X 100 (some .boolean) k_Lw_law 1605 [some (.ref v0), some (.ref v1), some (.ref v2), some (.ref v3), some (.int v4), o5, o6] [.int s0, .int s1, .ref s2, .int s3] h = _
  refine (ss_callVI (as := [.int s1, .int s0]) rfl t_Md_mark (by decide) rfl rfl (by simp [Value.category]) (Or.inr rfl) ⟨Nat.le_of_ble_eq_true rfl, Nat.le_of_ble_eq_true rfl⟩).trans ?_
  refine pv_ite ?_ rfl
  refine congrArg (Option.bind _) (funext fun q1 => ?_)
  refine (ss_icmp_eq rfl).trans ?_
  refine pv_ite ?_ ?_
  · rfl
  · refine (ss_iconst rfl (v := 0) rfl).trans ?_
    exact (ss_zreturn rfl).trans (if_pos (by decide))
set_option maxRecDepth 100000 in
theorem u_Lw_law_1613 (X : pv_X) (v0 : Nat) (v1 : Nat) (v2 : Nat) (v3 : Nat) (v4 : Int32) (o5 : Option Value) (o6 : Option Value) (h : pv_H) : f_Lw_law_1613 X v0 v1 v2 v3 v4 o5 o6 h =
    (pv_aX X h v0 (v4 + 1)).bind (fun x1 => if pv_rc h v1 10 = true then (pv_tI (pM X m_Wp_count [.ref v1, .int x1] h)).bind (fun q2 => (pv_aX X q2.2 v0 (v4 + 1)).bind (fun x3 => if pv_rc q2.2 v2 11 = true then (pv_tI (pM X m_Md_count [.ref v2, .int x3] q2.2)).bind (fun q4 => if q2.1 = q4.1 then f_Lw_law_1638 X v0 v1 v2 v3 v4 o5 o6 q4.2 else some (some (.int 0), q4.2)) else none)) else none) := by
  show pS X 100 (some .boolean) k_Lw_law 1613 [some (.ref v0), some (.ref v1), some (.ref v2), some (.ref v3), some (.int v4), o5, o6] [] h = _
  refine (ss_aload_n rfl rfl).trans ?_
  refine (ss_aload_n rfl rfl).trans ?_
  refine (ss_iload rfl rfl).trans ?_
  refine (ss_iconst rfl (v := 1) rfl).trans ?_
  refine (ss_iadd rfl).trans ?_
  refine (ss_iaload rfl).trans ?_
  refine congrArg (Option.bind _) (funext fun x1 => ?_)
  refine (ss_callVI (as := [.int x1]) rfl t_Wp_count (by decide) rfl rfl (by decide) (Or.inl rfl) ⟨Nat.le_of_ble_eq_true rfl, Nat.le_of_ble_eq_true rfl⟩).trans ?_
  refine pv_ite ?_ rfl
  refine congrArg (Option.bind _) (funext fun q2 => ?_)
  refine (ss_aload_n rfl rfl).trans ?_
  refine (ss_aload_n rfl rfl).trans ?_
  refine (ss_iload rfl rfl).trans ?_
  refine (ss_iconst rfl (v := 1) rfl).trans ?_
  refine (ss_iadd rfl).trans ?_
  refine (ss_iaload rfl).trans ?_
  refine congrArg (Option.bind _) (funext fun x3 => ?_)
  refine (ss_callVI (as := [.int x3]) rfl t_Md_count (by decide) rfl rfl (by simp [Value.category]) (Or.inl rfl) ⟨Nat.le_of_ble_eq_true rfl, Nat.le_of_ble_eq_true rfl⟩).trans ?_
  refine pv_ite ?_ rfl
  refine congrArg (Option.bind _) (funext fun q4 => ?_)
  refine (ss_icmp_eq rfl).trans ?_
  refine pv_ite ?_ ?_
  · rfl
  · refine (ss_iconst rfl (v := 0) rfl).trans ?_
    exact (ss_zreturn rfl).trans (if_pos (by decide))
set_option maxRecDepth 100000 in
theorem u_Lw_law_1638 (X : pv_X) (v0 : Nat) (v1 : Nat) (v2 : Nat) (v3 : Nat) (v4 : Int32) (o5 : Option Value) (o6 : Option Value) (h : pv_H) : f_Lw_law_1638 X v0 v1 v2 v3 v4 o5 o6 h =
    f_Lw_law_23 X v0 v1 v2 v3 (v4 + 7) o5 o6 h := by
  show pS X 100 (some .boolean) k_Lw_law 1638 [some (.ref v0), some (.ref v1), some (.ref v2), some (.ref v3), some (.int v4), o5, o6] [] h = _
  refine (ss_iinc3 rfl rfl (v := v4 + 7) (congrArg (HAdd.hAdd _) (show Int32.ofInt (7) = 7 by decide)) rfl).trans ?_
  refine (ss_goto rfl).trans ?_
  rfl
