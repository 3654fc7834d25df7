/-! see, tell, mark, feed. -/
def cAdd (C : aC) (p q : Nat) (o : Int32) : aC := (C.1 + 1, fun i => if i = C.1 then p else C.2.1 i, fun i => if i = C.1 then q else C.2.2.1 i, fun i => if i = C.1 then o else C.2.2.2 i)
section CLU
variable {m : pm_M} {X : pv_X} {c P a : Nat} {π : aP} {s b : aS} {C T : aC} {D : aD} {hs : List aS} {mk : aK} {tp : aT} {nm : aN}
theorem w_add {e n : Nat} {p q o : Int32} (he : isCl e) (hg : gI m e 3 = nI n) (hn : n < 6) : ∃ m', pM X m_Cl_add [.ref e, .int p, .int q, .int o] (hp m) = some (some (.int 1), hp m') ∧ Same [e, e + 1, e + 2, e + 3] m m' ∧ gI m' e 3 = nI (n + 1) ∧ gA m' (e + 1) = upd (gA m (e + 1)) n p ∧ gA m' (e + 2) = upd (gA m (e + 2)) n q ∧ gA m' (e + 3) = upd (gA m (e + 3)) n o := by
  refine ⟨sI (sA (sA (sA m (e + 1) (upd (gA m (e + 1)) n p)) (e + 2) (upd (gA m (e + 2)) n q)) (e + 3) (upd (gA m (e + 3)) n o)) e 3 (nI (n + 1)), ?_, ((Same.sA (by simp)).tr (Same.sA (by simp))).tr ((Same.sA (by simp)).tr (Same.sI (by simp))), gI_sI_eq, ?_, ?_, ?_⟩
  · have e1 : ¬ e + 2 = e + 1 := by omega
    have e2 : ¬ e + 3 = e + 2 := by omega
    have e3 : ¬ e + 3 = e + 1 := by omega
    rw [e_Cl_add, u_Cl_add_0]
    simp only [tIs, tVs, bs, if_true, true_or, or_true, i10, if_false, not_false_eq_true, not_true_eq_false, Cl_f3 he, hg]
    rw [if_pos (show nI n < 6 from nI_lt (b := 6) hn (by decide))]
    simp only [tIs, tVs, bs, if_true, true_or, or_true, i10, if_false, not_false_eq_true, not_true_eq_false, Cl_f0 he, Cl_f1 he, Cl_f2 he, Cl_f3 he, hg, ar_st he.2.1 hn (by decide), gI_sA, ar_st he.2.2.1 hn (by decide), gA_sA, e1, e2, e3, if_false, ar_st he.2.2.2 hn (by decide), nI_1, Cl_p3 he]
  · rw [gA_sI, gA_sA, if_neg (by omega), gA_sA, if_neg (by omega), gA_sA, if_pos rfl]
  · rw [gA_sI, gA_sA, if_neg (by omega), gA_sA, if_pos rfl]
  · rw [gA_sI, gA_sA, if_pos rfl]
theorem w_full {e : Nat} {p q o : Int32} (he : isCl e) (hg : gI m e 3 = nI 6) : pM X m_Cl_add [.ref e, .int p, .int q, .int o] (hp m) = some (some (.int 0), hp m) := by
  rw [e_Cl_add, u_Cl_add_0]
  simp only [tIs, tVs, bs, if_true, true_or, or_true, i10, if_false, not_false_eq_true, not_true_eq_false, Cl_f3 he, hg]
  rw [if_neg (by decide)]
theorem CLS.cl {C' T' : aC} {m' : pm_M} {L : List Nat} (h : CLS m P a π s b C T D hs mk tp nm) (hS : Same L m m') (hL : ∀ c ∈ L, c ∈ [109, 110, 111, 112, 113, 114, 115, 116]) (h1' : clS m' 109 C') (h2' : clC m' 113 T') : CLS m' P a π s b C' T' D hs mk tp nm := by
  obtain ⟨h1, h2, h3, h4, h5, h6, h7, h8⟩ := h
  have hS' := hS.mono hL
  exact ⟨h1.same hS' (by decide), by rw [vw_same hS' (by decide)]; exact h2, h1', h2', h5.same hS' (by decide), h6.same hS' (by decide), h7.same hS' (by decide), h8.same hS' (by decide) (by decide)⟩
theorem MDS.cl {C' T' : aC} {m' : pm_M} (h : MDS m π s b C T D hs mk tp nm) (ok : OKS c π s b C T D hs mk tp nm) (hS : Same [175, 189] m m') (h0 : ∀ j, j ≠ 0 → gI m' 175 j = gI m 175 j) (he : ∀ i, i < 19 ∨ 51 ≤ i → gA m' 189 i = gA m 189 i) (hd : dClu m' 0 C' T') : MDS m' π s b C' T' D hs mk tp nm := by
  obtain ⟨h1, h2, h3, h4, h5, h6, h7, h8⟩ := h
  obtain ⟨o1, o2, o3, o4, o5, o6, o7, o8, -⟩ := ok
  exact ⟨h1.same hS (h0 _ (by decide)) (by decide), by rw [← h2]; exact vm_eq (fun i _ _ => he i (by omega)), hd, h4.same (hS.A (by decide)), h5.same o7.1 (h0 _ (by decide)) (fun i _ _ => he i (by omega)), h6.same o8 (hS.A (by decide)) (fun i _ _ => he i (by omega)), h7.same (h0 _ (by decide)) (hS.A (by decide)), h8.same (hS.Lr (by decide))⟩
theorem OKS.cl {C' T' : aC} (ok : OKS c π s b C T D hs mk tp nm) (hc : c < 600) (h1 : okC π.1 C') (h2 : okT T') : OKS (c + 1) π s b C' T' D hs mk tp nm := by
  obtain ⟨o1, o2, o3, o4, o5, o6, o7, o8, o9⟩ := ok.up hc
  exact ⟨o1, o2, o3, h1, h2, o6, o7, o8, o9⟩
theorem w_isOut1 {v : Int32} {h : pv_H} (h1 : ¬ v < -360) (h2 : ¬ 359 < v) : pM X m_Wp_isOut [.int v] h = some (some (.int 1), h) := by
  rw [e_Wp_isOut, u_Wp_isOut_0]
  simp only [tIs, tVs, bs, if_true, true_or, or_true, i10, if_false, not_false_eq_true, not_true_eq_false, w_in1 h1 h2]
theorem w_isOut0 {v : Int32} {h : pv_H} (h1 : v < -360 ∨ 359 < v) : pM X m_Wp_isOut [.int v] h = some (some (.int 0), h) := by
  rw [e_Wp_isOut, u_Wp_isOut_0]
  simp only [tIs, tVs, bs, if_true, true_or, or_true, i10, if_false, not_false_eq_true, not_true_eq_false, w_in0 h1]
theorem k_see (h : INV m c) (hc : c < 600) (p v o : Int32) : AgI X m_Wp_see m_Md_see [.int p, .int v, .int o] m c := by
  obtain ⟨⟨P, a, π, s, b, C, T, D, hs, mk, tp, nm, h1, h2, h3⟩, g, hg, hgg⟩ := id h
  have hC := h1.hc
  have hM := h2.hm h3
  have hn := hC.n6
  rcases prs p hn with ⟨k, hk, rfl⟩ | hb1
  · rcases wthL v (L := 0) (U := 24) (l := 0) (u := 24) rfl rfl (by decide) (by decide) with ⟨q, b0, b1, rfl⟩ | hb2
    · have iw := w_in1 (X := X) (h := hp m) (in_l (L := 0) rfl b0 (show q < 2 ^ 31 by omega)) (in_u (U := 24) rfl b1 (by decide))
      have im : ∀ h, pM X m_Md_within [.int (nI q), .int 0, .int 24] h = some (some (.int 1), h) := fun h => m_in1 (in_l (L := 0) rfl b0 (by omega)) (in_u (U := 24) rfl b1 (by decide))
      by_cases ho : o < -360 ∨ 359 < o
      · refine Ag.inv h hc (Ag.mk 0 ⟨m, ?_, Q.rf⟩ (fun m1 hq => ?_))
        · rw [e_Wp_see, u_Wp_see_0]
          simp only [tIs, tVs, bs, if_true, true_or, or_true, i10, if_false, not_false_eq_true, not_true_eq_false, Wp_rc, Wp_f5, Wp_f6, Wp_f7, Wp_f8, Wp_f9, Wp_f10, Wp_f11, Wp_f12, Wp_f13, Wp_f14, w_isP1 hC hk, iw, w_isOut0 ho, u_Wp_see_25]
        · obtain ⟨m2, e2, q2⟩ := m_t0 (m := m1)
          refine ⟨m2, ?_, q2⟩
          rw [e_Md_see, u_Md_see_0]
          simp only [tIs, tVs, bs, if_true, true_or, or_true, i10, if_false, not_false_eq_true, not_true_eq_false, Md_rc, Md_f1, Md_f4, Md_f5, Md_f6, Md_f9, Md_f10, Md_f11, Md_f12, Md_f14, Md_f15, Md_f18, Md_f19, Md_f20, Md_f21, Md_f23, Md_f24, Md_f25, Md_f26, Md_f28, e2, m_isP1 (hM.q (hq.tr q2)).1 hk, im, m_in0 ho, u_Md_see_48]
      · have ho1 : ¬ o < -360 := fun z => ho (Or.inl z)
        have ho2 : ¬ 359 < o := fun z => ho (Or.inr z)
        obtain ⟨c6, cn⟩ := h3.2.2.2.1
        rcases Nat.lt_or_ge C.1 6 with hl | hl
        · obtain ⟨m1, e1, q1, g1, g2, g3, g4⟩ := w_add (X := X) (m := m) (p := nI k) (q := nI q) (o := o) isCl_109 h1.2.2.1.1.2.1 hl
          have q1' : Same [109, 110, 111, 112] m m1 := q1
          have cc : clS m1 109 (cAdd C k q o) := by
            refine ⟨⟨by show C.1 + 1 ≤ 6; omega, g1, fun i hi => ?_⟩, fun i hi => ?_⟩
            · have hi' : i < C.1 + 1 := hi
              rw [g3, g4]
              show _ = nI (if i = C.1 then q else C.2.2.1 i) ∧ _ = (if i = C.1 then o else C.2.2.2 i)
              by_cases hie : i = C.1
              · rw [hie, pk_us, pk_us, if_pos rfl, if_pos rfl]; exact ⟨rfl, rfl⟩
              · rw [pk_un hie, pk_un hie, if_neg hie, if_neg hie]; exact h1.2.2.1.1.2.2 i (by omega)
            · have hi' : i < C.1 + 1 := hi
              rw [g2]
              show _ = nI (if i = C.1 then k else C.2.1 i)
              by_cases hie : i = C.1
              · rw [hie, pk_us, if_pos rfl]
              · rw [pk_un hie, if_neg hie]; exact h1.2.2.1.2 i (by omega)
          have c1 := h1.cl q1' (by decide) cc (h1.2.2.2.1.same q1' (by decide) (by decide) (by decide))
          have b1' := h2.same h3 q1' (by decide)
          obtain ⟨d1, d2, d3, d4⟩ := b1'.2.2.1
          simp only [Nat.zero_add] at d1 d2 d3 d4
          have R2 : RM (sI m1 175 0 0) π := b1'.1.1.same (L := [175]) (Same.sI (by decide)) (by decide) (by decide) (by decide)
          have f1 : pv_aX X (hp (sI m1 175 0 0)) 189 19 = some (nI C.1) := by rw [show (19 : Int32) = nI 19 from rfl, ld_189 (by decide), gA_sI, d1]
          refine ⟨1, m1, sA (sI m1 175 0 0) 189 (upd (upd (upd (upd (gA m1 189) (20 + 3 * C.1) (nI k)) (20 + 3 * C.1 + 1) (nI q)) (20 + 3 * C.1 + 2) o) 19 (nI (C.1 + 1))), ?_, ?_, ?_⟩
          · rw [e_Wp_see, u_Wp_see_0]
            simp only [tIs, tVs, bs, if_true, true_or, or_true, i10, if_false, not_false_eq_true, not_true_eq_false, Wp_rc, Wp_f5, Wp_f6, Wp_f7, Wp_f8, Wp_f9, Wp_f10, Wp_f11, Wp_f12, Wp_f13, Wp_f14, w_isP1 hC hk, iw, w_isOut1 ho1 ho2, Cl_rc isCl_109, e1]
          · rw [e_Md_see, u_Md_see_0, Md_p0]
            simp only [tIs, tVs, bs, if_true, true_or, or_true, i10, if_false, not_false_eq_true, not_true_eq_false, Md_rc, Md_f1, Md_f4, Md_f5, Md_f6, Md_f9, Md_f10, Md_f11, Md_f12, Md_f14, Md_f15, Md_f18, Md_f19, Md_f20, Md_f21, Md_f23, Md_f24, Md_f25, Md_f26, Md_f28, m_isP1 R2 hk, im, m_in1 ho1 ho2, f1]
            rw [if_pos (fun z => by have := (nI_eq (a := C.1) (b := 6) (by omega) (by decide)).mp z; omega), show (20 + 3 * nI C.1 : Int32) = nI (20 + 3 * C.1) from by rw [show (20 : Int32) = nI 20 from rfl, show (3 : Int32) = nI 3 from rfl, pk_mul, nI_add], st_189 (by omega)]
            simp only [tIs, tVs, bs, if_true, true_or, or_true, i10, if_false, not_false_eq_true, not_true_eq_false, Md_rc, Md_f1, Md_f4, Md_f5, Md_f6, Md_f9, Md_f10, Md_f11, Md_f12, Md_f14, Md_f15, Md_f18, Md_f19, Md_f20, Md_f21, Md_f23, Md_f24, Md_f25, Md_f26, Md_f28]
            rw [nI_1, st_189 (by omega), gA_sA, if_pos rfl, sA_sA]
            simp only [tIs, tVs, bs, if_true, true_or, or_true, i10, if_false, not_false_eq_true, not_true_eq_false, Md_rc, Md_f1, Md_f4, Md_f5, Md_f6, Md_f9, Md_f10, Md_f11, Md_f12, Md_f14, Md_f15, Md_f18, Md_f19, Md_f20, Md_f21, Md_f23, Md_f24, Md_f25, Md_f26, Md_f28]
            rw [show (nI (20 + 3 * C.1) + 2 : Int32) = nI (20 + 3 * C.1 + 2) from by rw [show (2 : Int32) = nI 2 from rfl, nI_add], st_189 (by omega), gA_sA, if_pos rfl, sA_sA]
            simp only [tIs, tVs, bs, if_true, true_or, or_true, i10, if_false, not_false_eq_true, not_true_eq_false, Md_rc, Md_f1, Md_f4, Md_f5, Md_f6, Md_f9, Md_f10, Md_f11, Md_f12, Md_f14, Md_f15, Md_f18, Md_f19, Md_f20, Md_f21, Md_f23, Md_f24, Md_f25, Md_f26, Md_f28]
            rw [show (19 : Int32) = nI 19 from rfl, ld_189 (by decide), gA_sA, if_pos rfl, pk_un (by omega), pk_un (by omega), pk_un (by omega), gA_sI, d1]
            simp only [tIs, tVs, bs, if_true, true_or, or_true, i10, if_false, not_false_eq_true, not_true_eq_false, Md_rc, Md_f1, Md_f4, Md_f5, Md_f6, Md_f9, Md_f10, Md_f11, Md_f12, Md_f14, Md_f15, Md_f18, Md_f19, Md_f20, Md_f21, Md_f23, Md_f24, Md_f25, Md_f26, Md_f28]
            rw [nI_1, st_189 (by decide), gA_sA, if_pos rfl, sA_sA]
            simp only [tIs, tVs, bs, if_true, true_or, or_true, i10, if_false, not_false_eq_true, not_true_eq_false, Md_rc, Md_f1, Md_f4, Md_f5, Md_f6, Md_f9, Md_f10, Md_f11, Md_f12, Md_f14, Md_f15, Md_f18, Md_f19, Md_f20, Md_f21, Md_f23, Md_f24, Md_f25, Md_f26, Md_f28]
          · have sm : Same [175, 189] m1 (sA (sI m1 175 0 0) 189 (upd (upd (upd (upd (gA m1 189) (20 + 3 * C.1) (nI k)) (20 + 3 * C.1 + 1) (nI q)) (20 + 3 * C.1 + 2) o) 19 (nI (C.1 + 1)))) := (Same.sI (by decide)).tr (Same.sA (by decide))
            refine k_inv (c := c) (c1.same sm (by decide)) (b1'.cl h3 sm (fun j hj => by rw [gI_sA, gI_sI_ne (Or.inr hj)]) (fun i hi => by rw [gA_sA, if_pos rfl, pk_un (by omega), pk_un (by omega), pk_un (by omega), pk_un (by omega)]) ?_) (h3.cl hc (C' := cAdd C k q o) ⟨by show C.1 + 1 ≤ 6; omega, fun i hi => ?_⟩ h3.2.2.2.2.1) hg (by rw [sm.1, q1'.1]; exact hgg)
            · unfold dClu
              simp only [Nat.zero_add]
              rw [gA_sA, if_pos rfl]
              refine ⟨pk_us, fun i hi => ?_, ?_, fun i hi => ?_⟩
              · have hi' : i < C.1 + 1 := hi
                show _ = nI (if i = C.1 then k else C.2.1 i) ∧ _ = nI (if i = C.1 then q else C.2.2.1 i) ∧ _ = (if i = C.1 then o else C.2.2.2 i)
                by_cases hie : i = C.1
                · rw [hie, if_pos rfl, if_pos rfl, if_pos rfl]
                  refine ⟨?_, ?_, ?_⟩
                  · rw [pk_un (by omega), pk_un (by omega), pk_un (by omega), pk_us]
                  · rw [pk_un (by omega), pk_un (by omega), pk_us]
                  · rw [pk_un (by omega), pk_us]
                · rw [if_neg hie, if_neg hie, if_neg hie]
                  obtain ⟨x1, x2, x3⟩ := d2 i (by omega)
                  refine ⟨?_, ?_, ?_⟩
                  · rw [pk_un (by omega), pk_un (by omega), pk_un (by omega), pk_un (by omega)]; exact x1
                  · rw [pk_un (by omega), pk_un (by omega), pk_un (by omega), pk_un (by omega)]; exact x2
                  · rw [pk_un (by omega), pk_un (by omega), pk_un (by omega), pk_un (by omega)]; exact x3
              · rw [pk_un (by omega), pk_un (by omega), pk_un (by omega), pk_un (by omega)]; exact d3
              · obtain ⟨x1, x2⟩ := d4 i hi
                refine ⟨?_, ?_⟩
                · rw [pk_un (by omega), pk_un (by omega), pk_un (by omega), pk_un (by omega)]; exact x1
                · rw [pk_un (by omega), pk_un (by omega), pk_un (by omega), pk_un (by omega)]; exact x2
            · have hi' : i < C.1 + 1 := hi
              show (if i = C.1 then k else C.2.1 i) < π.1 ∧ (if i = C.1 then q else C.2.2.1 i) ≤ 24
              by_cases hie : i = C.1
              · rw [if_pos hie, if_pos hie]; exact ⟨hk, b1⟩
              · rw [if_neg hie, if_neg hie]; exact cn i (by omega)
        · have h6 : C.1 = 6 := by omega
          refine Ag.inv h hc (Ag.mk 0 ⟨m, ?_, Q.rf⟩ (fun m1 hq => ?_))
          · rw [e_Wp_see, u_Wp_see_0]
            simp only [tIs, tVs, bs, if_true, true_or, or_true, i10, if_false, not_false_eq_true, not_true_eq_false, Wp_rc, Wp_f5, Wp_f6, Wp_f7, Wp_f8, Wp_f9, Wp_f10, Wp_f11, Wp_f12, Wp_f13, Wp_f14, w_isP1 hC hk, iw, w_isOut1 ho1 ho2, Cl_rc isCl_109, w_full (X := X) isCl_109 (show gI m 109 3 = nI 6 by rw [h1.2.2.1.1.2.1, h6])]
          · obtain ⟨m2, e2, q2⟩ := m_t0 (m := m1)
            have d1 := (h2.q h3 (hq.tr q2)).2.2.1.1
            rw [Nat.zero_add, h6] at d1
            have f1 : pv_aX X (hp m2) 189 19 = some (nI 6) := by rw [show (19 : Int32) = nI 19 from rfl, ld_189 (by decide), d1]
            refine ⟨m2, ?_, q2⟩
            rw [e_Md_see, u_Md_see_0]
            simp only [tIs, tVs, bs, if_true, true_or, or_true, i10, if_false, not_false_eq_true, not_true_eq_false, Md_rc, Md_f1, Md_f4, Md_f5, Md_f6, Md_f9, Md_f10, Md_f11, Md_f12, Md_f14, Md_f15, Md_f18, Md_f19, Md_f20, Md_f21, Md_f23, Md_f24, Md_f25, Md_f26, Md_f28, e2, m_isP1 (hM.q (hq.tr q2)).1 hk, im, m_in1 ho1 ho2, f1, u_Md_see_48]
            rw [if_neg (fun z => z rfl)]
    · refine Ag.inv h hc (Ag.mk 0 ⟨m, ?_, Q.rf⟩ (fun m1 hq => ?_))
      · rw [e_Wp_see, u_Wp_see_0]
        simp only [tIs, tVs, bs, if_true, true_or, or_true, i10, if_false, not_false_eq_true, not_true_eq_false, Wp_rc, Wp_f5, Wp_f6, Wp_f7, Wp_f8, Wp_f9, Wp_f10, Wp_f11, Wp_f12, Wp_f13, Wp_f14, w_isP1 hC hk, w_in0 hb2, u_Wp_see_25]
      · obtain ⟨m2, e2, q2⟩ := m_t0 (m := m1)
        refine ⟨m2, ?_, q2⟩
        rw [e_Md_see, u_Md_see_0]
        simp only [tIs, tVs, bs, if_true, true_or, or_true, i10, if_false, not_false_eq_true, not_true_eq_false, Md_rc, Md_f1, Md_f4, Md_f5, Md_f6, Md_f9, Md_f10, Md_f11, Md_f12, Md_f14, Md_f15, Md_f18, Md_f19, Md_f20, Md_f21, Md_f23, Md_f24, Md_f25, Md_f26, Md_f28, e2, m_isP1 (hM.q (hq.tr q2)).1 hk, m_in0 hb2, u_Md_see_48]
  · refine Ag.inv h hc (Ag.mk 0 ⟨m, ?_, Q.rf⟩ (fun m1 hq => ?_))
    · rw [e_Wp_see, u_Wp_see_0]
      simp only [tIs, tVs, bs, if_true, true_or, or_true, i10, if_false, not_false_eq_true, not_true_eq_false, Wp_rc, Wp_f5, Wp_f6, Wp_f7, Wp_f8, Wp_f9, Wp_f10, Wp_f11, Wp_f12, Wp_f13, Wp_f14, w_isP0 hC hb1, u_Wp_see_25]
    · obtain ⟨m2, e2, q2⟩ := m_t0 (m := m1)
      refine ⟨m2, ?_, q2⟩
      rw [e_Md_see, u_Md_see_0]
      simp only [tIs, tVs, bs, if_true, true_or, or_true, i10, if_false, not_false_eq_true, not_true_eq_false, Md_rc, Md_f1, Md_f4, Md_f5, Md_f6, Md_f9, Md_f10, Md_f11, Md_f12, Md_f14, Md_f15, Md_f18, Md_f19, Md_f20, Md_f21, Md_f23, Md_f24, Md_f25, Md_f26, Md_f28, e2, m_isP0 (hM.q (hq.tr q2)).1 hb1, u_Md_see_48]
theorem k_tell (h : INV m c) (hc : c < 600) (v o : Int32) : AgI X m_Wp_tell m_Md_tell [.int v, .int o] m c := by
  obtain ⟨⟨P, a, π, s, b, C, T, D, hs, mk, tp, nm, h1, h2, h3⟩, g, hg, hgg⟩ := id h
  have hC := h1.hc
  have hM := h2.hm h3
  have hn := hC.n6
  rcases wthL v (L := 1) (U := 40) (l := 1) (u := 40) rfl rfl (by decide) (by decide) with ⟨q, b0, b1, rfl⟩ | hb2
  · have iw := w_in1 (X := X) (h := hp m) (in_l (L := 1) rfl b0 (show q < 2 ^ 31 by omega)) (in_u (U := 40) rfl b1 (by decide))
    have im : ∀ h, pM X m_Md_within [.int (nI q), .int 1, .int 40] h = some (some (.int 1), h) := fun h => m_in1 (in_l (L := 1) rfl b0 (by omega)) (in_u (U := 40) rfl b1 (by decide))
    by_cases ho : o < -360 ∨ 359 < o
    · refine Ag.inv h hc (Ag.mk 0 ⟨m, ?_, Q.rf⟩ (fun m1 hq => ?_))
      · rw [e_Wp_tell, u_Wp_tell_0]
        simp only [tIs, tVs, bs, if_true, true_or, or_true, i10, if_false, not_false_eq_true, not_true_eq_false, Wp_rc, Wp_f5, Wp_f6, Wp_f7, Wp_f8, Wp_f9, Wp_f10, Wp_f11, Wp_f12, Wp_f13, Wp_f14, iw, w_isOut0 ho, u_Wp_tell_17]
      · obtain ⟨m2, e2, q2⟩ := m_t0 (m := m1)
        refine ⟨m2, ?_, q2⟩
        rw [e_Md_tell, u_Md_tell_0]
        simp only [tIs, tVs, bs, if_true, true_or, or_true, i10, if_false, not_false_eq_true, not_true_eq_false, Md_rc, Md_f1, Md_f4, Md_f5, Md_f6, Md_f9, Md_f10, Md_f11, Md_f12, Md_f14, Md_f15, Md_f18, Md_f19, Md_f20, Md_f21, Md_f23, Md_f24, Md_f25, Md_f26, Md_f28, e2, im, m_in0 ho, u_Md_tell_40]
    · have ho1 : ¬ o < -360 := fun z => ho (Or.inl z)
      have ho2 : ¬ 359 < o := fun z => ho (Or.inr z)
      obtain ⟨c6, cn⟩ := h3.2.2.2.2.1
      rcases Nat.lt_or_ge T.1 6 with hl | hl
      · obtain ⟨m1, e1, q1, g1, g2, g3, g4⟩ := w_add (X := X) (m := m) (p := -1) (q := nI q) (o := o) isCl_113 h1.2.2.2.1.2.1 hl
        have q1' : Same [113, 114, 115, 116] m m1 := q1
        have cc : clC m1 113 (cAdd T 0 q o) := by
          refine ⟨by show T.1 + 1 ≤ 6; omega, g1, fun i hi => ?_⟩
          have hi' : i < T.1 + 1 := hi
          rw [g3, g4]
          show _ = nI (if i = T.1 then q else T.2.2.1 i) ∧ _ = (if i = T.1 then o else T.2.2.2 i)
          by_cases hie : i = T.1
          · rw [hie, pk_us, pk_us, if_pos rfl, if_pos rfl]; exact ⟨rfl, rfl⟩
          · rw [pk_un hie, pk_un hie, if_neg hie, if_neg hie]; exact h1.2.2.2.1.2.2 i (by omega)
        have c1 := h1.cl q1' (by decide) (h1.2.2.1.same q1' (by decide) (by decide) (by decide) (by decide)) cc
        have b1' := h2.same h3 q1' (by decide)
        obtain ⟨d1, d2, d3, d4⟩ := b1'.2.2.1
        have c6' := h3.2.2.2.1.1
        simp only [Nat.zero_add] at d1 d2 d3 d4
        have f1 : pv_aX X (hp (sI m1 175 0 0)) 189 38 = some (nI T.1) := by rw [show (38 : Int32) = nI 38 from rfl, ld_189 (by decide), gA_sI, d3]
        refine ⟨1, m1, sA (sI m1 175 0 0) 189 (upd (upd (upd (gA m1 189) (39 + 2 * T.1) (nI q)) (39 + 2 * T.1 + 1) o) 38 (nI (T.1 + 1))), ?_, ?_, ?_⟩
        · rw [e_Wp_tell, u_Wp_tell_0]
          simp only [tIs, tVs, bs, if_true, true_or, or_true, i10, if_false, not_false_eq_true, not_true_eq_false, Wp_rc, Wp_f5, Wp_f6, Wp_f7, Wp_f8, Wp_f9, Wp_f10, Wp_f11, Wp_f12, Wp_f13, Wp_f14, iw, w_isOut1 ho1 ho2, Cl_rc isCl_113, e1]
        · rw [e_Md_tell, u_Md_tell_0, Md_p0]
          simp only [tIs, tVs, bs, if_true, true_or, or_true, i10, if_false, not_false_eq_true, not_true_eq_false, Md_rc, Md_f1, Md_f4, Md_f5, Md_f6, Md_f9, Md_f10, Md_f11, Md_f12, Md_f14, Md_f15, Md_f18, Md_f19, Md_f20, Md_f21, Md_f23, Md_f24, Md_f25, Md_f26, Md_f28, im, m_in1 ho1 ho2, f1]
          rw [if_pos (fun z => by have := (nI_eq (a := T.1) (b := 6) (by omega) (by decide)).mp z; omega), show (39 + 2 * nI T.1 : Int32) = nI (39 + 2 * T.1) from by rw [show (39 : Int32) = nI 39 from rfl, show (2 : Int32) = nI 2 from rfl, pk_mul, nI_add], st_189 (by omega)]
          simp only [tIs, tVs, bs, if_true, true_or, or_true, i10, if_false, not_false_eq_true, not_true_eq_false, Md_rc, Md_f1, Md_f4, Md_f5, Md_f6, Md_f9, Md_f10, Md_f11, Md_f12, Md_f14, Md_f15, Md_f18, Md_f19, Md_f20, Md_f21, Md_f23, Md_f24, Md_f25, Md_f26, Md_f28]
          rw [nI_1, st_189 (by omega), gA_sA, if_pos rfl, sA_sA]
          simp only [tIs, tVs, bs, if_true, true_or, or_true, i10, if_false, not_false_eq_true, not_true_eq_false, Md_rc, Md_f1, Md_f4, Md_f5, Md_f6, Md_f9, Md_f10, Md_f11, Md_f12, Md_f14, Md_f15, Md_f18, Md_f19, Md_f20, Md_f21, Md_f23, Md_f24, Md_f25, Md_f26, Md_f28]
          rw [show (38 : Int32) = nI 38 from rfl, ld_189 (by decide), gA_sA, if_pos rfl, pk_un (by omega), pk_un (by omega), gA_sI, d3]
          simp only [tIs, tVs, bs, if_true, true_or, or_true, i10, if_false, not_false_eq_true, not_true_eq_false, Md_rc, Md_f1, Md_f4, Md_f5, Md_f6, Md_f9, Md_f10, Md_f11, Md_f12, Md_f14, Md_f15, Md_f18, Md_f19, Md_f20, Md_f21, Md_f23, Md_f24, Md_f25, Md_f26, Md_f28]
          rw [nI_1, st_189 (by decide), gA_sA, if_pos rfl, sA_sA]
          simp only [tIs, tVs, bs, if_true, true_or, or_true, i10, if_false, not_false_eq_true, not_true_eq_false, Md_rc, Md_f1, Md_f4, Md_f5, Md_f6, Md_f9, Md_f10, Md_f11, Md_f12, Md_f14, Md_f15, Md_f18, Md_f19, Md_f20, Md_f21, Md_f23, Md_f24, Md_f25, Md_f26, Md_f28]
        · have sm : Same [175, 189] m1 (sA (sI m1 175 0 0) 189 (upd (upd (upd (gA m1 189) (39 + 2 * T.1) (nI q)) (39 + 2 * T.1 + 1) o) 38 (nI (T.1 + 1)))) := (Same.sI (by decide)).tr (Same.sA (by decide))
          refine k_inv (c := c) (c1.same sm (by decide)) (b1'.cl h3 sm (fun j hj => by rw [gI_sA, gI_sI_ne (Or.inr hj)]) (fun i hi => by rw [gA_sA, if_pos rfl, pk_un (by omega), pk_un (by omega), pk_un (by omega)]) ?_) (h3.cl hc (T' := cAdd T 0 q o) h3.2.2.2.1 ⟨by show T.1 + 1 ≤ 6; omega, fun i hi => ?_⟩) hg (by rw [sm.1, q1'.1]; exact hgg)
          · unfold dClu
            simp only [Nat.zero_add]
            rw [gA_sA, if_pos rfl]
            refine ⟨?_, fun i hi => ?_, pk_us, fun i hi => ?_⟩
            · rw [pk_un (by omega), pk_un (by omega), pk_un (by omega)]; exact d1
            · obtain ⟨x1, x2, x3⟩ := d2 i hi
              refine ⟨?_, ?_, ?_⟩
              · rw [pk_un (by omega), pk_un (by omega), pk_un (by omega)]; exact x1
              · rw [pk_un (by omega), pk_un (by omega), pk_un (by omega)]; exact x2
              · rw [pk_un (by omega), pk_un (by omega), pk_un (by omega)]; exact x3
            · have hi' : i < T.1 + 1 := hi
              show _ = nI (if i = T.1 then q else T.2.2.1 i) ∧ _ = (if i = T.1 then o else T.2.2.2 i)
              by_cases hie : i = T.1
              · rw [hie, if_pos rfl, if_pos rfl]
                refine ⟨?_, ?_⟩
                · rw [pk_un (by omega), pk_un (by omega), pk_us]
                · rw [pk_un (by omega), pk_us]
              · rw [if_neg hie, if_neg hie]
                obtain ⟨x1, x2⟩ := d4 i (by omega)
                refine ⟨?_, ?_⟩
                · rw [pk_un (by omega), pk_un (by omega), pk_un (by omega)]; exact x1
                · rw [pk_un (by omega), pk_un (by omega), pk_un (by omega)]; exact x2
          · have hi' : i < T.1 + 1 := hi
            show (if i = T.1 then q else T.2.2.1 i) ≤ 40
            by_cases hie : i = T.1
            · rw [if_pos hie]; exact b1
            · rw [if_neg hie]; exact cn i (by omega)
      · have h6 : T.1 = 6 := by omega
        refine Ag.inv h hc (Ag.mk 0 ⟨m, ?_, Q.rf⟩ (fun m1 hq => ?_))
        · rw [e_Wp_tell, u_Wp_tell_0]
          simp only [tIs, tVs, bs, if_true, true_or, or_true, i10, if_false, not_false_eq_true, not_true_eq_false, Wp_rc, Wp_f5, Wp_f6, Wp_f7, Wp_f8, Wp_f9, Wp_f10, Wp_f11, Wp_f12, Wp_f13, Wp_f14, iw, w_isOut1 ho1 ho2, Cl_rc isCl_113, w_full (X := X) isCl_113 (show gI m 113 3 = nI 6 by rw [h1.2.2.2.1.2.1, h6])]
        · obtain ⟨m2, e2, q2⟩ := m_t0 (m := m1)
          have d1 := (h2.q h3 (hq.tr q2)).2.2.1.2.2.1
          rw [Nat.zero_add, h6] at d1
          have f1 : pv_aX X (hp m2) 189 38 = some (nI 6) := by rw [show (38 : Int32) = nI 38 from rfl, ld_189 (by decide), d1]
          refine ⟨m2, ?_, q2⟩
          rw [e_Md_tell, u_Md_tell_0]
          simp only [tIs, tVs, bs, if_true, true_or, or_true, i10, if_false, not_false_eq_true, not_true_eq_false, Md_rc, Md_f1, Md_f4, Md_f5, Md_f6, Md_f9, Md_f10, Md_f11, Md_f12, Md_f14, Md_f15, Md_f18, Md_f19, Md_f20, Md_f21, Md_f23, Md_f24, Md_f25, Md_f26, Md_f28, e2, im, m_in1 ho1 ho2, f1, u_Md_tell_40]
          rw [if_neg (fun z => z rfl)]
  · refine Ag.inv h hc (Ag.mk 0 ⟨m, ?_, Q.rf⟩ (fun m1 hq => ?_))
    · rw [e_Wp_tell, u_Wp_tell_0]
      simp only [tIs, tVs, bs, if_true, true_or, or_true, i10, if_false, not_false_eq_true, not_true_eq_false, Wp_rc, Wp_f5, Wp_f6, Wp_f7, Wp_f8, Wp_f9, Wp_f10, Wp_f11, Wp_f12, Wp_f13, Wp_f14, w_in0 hb2, u_Wp_tell_17]
    · obtain ⟨m2, e2, q2⟩ := m_t0 (m := m1)
      refine ⟨m2, ?_, q2⟩
      rw [e_Md_tell, u_Md_tell_0]
      simp only [tIs, tVs, bs, if_true, true_or, or_true, i10, if_false, not_false_eq_true, not_true_eq_false, Md_rc, Md_f1, Md_f4, Md_f5, Md_f6, Md_f9, Md_f10, Md_f11, Md_f12, Md_f14, Md_f15, Md_f18, Md_f19, Md_f20, Md_f21, Md_f23, Md_f24, Md_f25, Md_f26, Md_f28, e2, m_in0 hb2, u_Md_tell_40]
end CLU
