/-! The calls that are proved apart. -/
theorem lt15 : ∀ q ∈ pv_LT, q.2.2.1 = 15 → (q.1 = 9 ∧ q.2.1 = 65 ∧ q.2.2.2.1 = 900 ∧ q.2.2.2.2.1 = 1) ∨ (q.1 = 9 ∧ q.2.1 = 68 ∧ q.2.2.2.1 = 901 ∧ q.2.2.2.2.1 = 2) ∨ (q.1 = 9 ∧ q.2.1 = 50 ∧ q.2.2.2.1 = 902 ∧ q.2.2.2.2.1 = 2) ∨ (q.1 = 12 ∧ q.2.1 = 193 ∧ q.2.2.2.1 = 903 ∧ q.2.2.2.2.1 = 6) := by decide +kernel
theorem txt_at {k : Nat} {t : List Nat} (hk : pv_scr < k) (e : pv_txt[k - (pv_scr + 1)]? = some t) : ∃ i, i < 21 ∧ k = pv_scr + 1 + i ∧ t = txt i := by
  refine ⟨k - (pv_scr + 1), (List.getElem?_eq_some_iff.mp e).1, by omega, ?_⟩
  unfold txt
  rw [List.getD_eq_getElem?_getD, e]
  rfl
theorem gL_r : GoodIn pv_G (va_wsS "WristPortLaw" 193 yL_rests (Cond.codeWith yL_rests method_3_code 7 (some .int) hhL :: pv_G)) := by
  have gg := pv_G_good wL_rests
  have g1 : GoodIn pv_G ([.methodLink "WristPortLaw" 193 yL_rests, .static yL_rests, .initialized yL_rests.cls] : List Cond) := by
    intro w hw
    have hm : w ∈ pv_G := by
      simp only [List.mem_cons, List.not_mem_nil, or_false] at hw
      rcases hw with rfl | rfl | rfl
      · exact pv_G_in (by decide +kernel) (by decide +kernel)
      · exact pv_G_in (by decide +kernel) (by decide +kernel)
      · exact pv_G_in (by decide +kernel) (by decide +kernel)
    exact gg w (List.mem_cons_of_mem _ hm)
  exact goodIn_app g1 gg
section EXA
variable {D : va_G} {ad : Nat → Nat} {base : Nat} {cyf : Nat → ClassId} {X : pv_X} {NW : List (String × Nat × MethodName × String)} {fv : Value} {l : Launch}
theorem KSt_ext (hl : l.stackTraces = false) (hAd : ∀ k, k < pv_scr → ad k = base + k) (hfv : fv = .null ∨ fv = .ref (pv_scr + 200)) : pv_EXT2 l D ad base cyf X NW (KSt ad base fv) pv_LT pv_ext := by
  refine ⟨pv_ext_grow, ?_⟩
  intro p e R s m args below meth c cc o nL n0 z0 nm ret pc idx i1 i2 i3 ins H locs lsA ls as rest h q C hm hins hd he hlen hcat hf1 hf2 hc1 hc2 hR hz hS hL
  rcases lt15 _ hm rfl with z | z | z | z <;> (obtain ⟨z1, z2, z3, z4⟩ := z; dsimp only at z1 z2 z3 z4; subst z1 z2 z3 z4)
  · rcases hins with ⟨rfl, -⟩ | ⟨-, z⟩
    · obtain ⟨k, rfl⟩ : ∃ k, as = [.ref k] := by
        unfold pv_ext at he
        split at he <;> first | (cases he; done) | exact ⟨_, rfl⟩ | contradiction | (exfalso; omega) | (exfalso; simp_all; done)
      have he' : (if pv_scr < k then (pv_txt[k - (pv_scr + 1)]?).map (fun t => ((some (Value.int (Int32.ofNat t.length)), h) : pv_O)) else none) = some q := he
      split at he'
      · rename_i hk
        obtain ⟨t, ht, rfl⟩ := Option.map_eq_some_iff.mp he'
        obtain ⟨i, hi, rfl, rfl⟩ := txt_at hk ht
        exact j_runV C (as := []) hi xJ_length rfl vJ_length.1 vJ_length.2 (c_length hAd hi) (by omega) (by omega) hc1 hc2 hR hz hS hL rfl hcat hd
      · cases he'
    · exact absurd z (by decide)
  · rcases hins with ⟨rfl, -⟩ | ⟨-, z⟩
    · obtain ⟨k, j, rfl⟩ : ∃ k j, as = [.ref k, .int j] := by
        unfold pv_ext at he
        split at he <;> first | (cases he; done) | exact ⟨_, _, rfl⟩ | contradiction | (exfalso; omega) | (exfalso; simp_all; done)
      have he' : (if pv_scr < k then (pv_txt[k - (pv_scr + 1)]?).bind (fun t => if pv_in j t.length = true then some ((some (Value.int (Int32.ofNat (t.getD j.toNatClampNeg 0))), h) : pv_O) else none) else none) = some q := he
      split at he'
      · rename_i hk
        obtain ⟨t, ht, he2⟩ := Option.bind_eq_some_iff.mp he'
        obtain ⟨i, hi, rfl, rfl⟩ := txt_at hk ht
        split at he2
        · rename_i hin
          cases he2
          have hin' : ¬ j < 0 ∧ j.toNatClampNeg < (txt i).length := by
            simp only [pv_in, Bool.and_eq_true, Bool.not_eq_true', decide_eq_false_iff_not, decide_eq_true_eq] at hin
            exact hin
          obtain ⟨n, hn, rfl⟩ := nI_of hin'.1
          rw [nI_clamp hn] at hin' hc1 hc2 ⊢
          exact j_runV C (as := [.int (nI n)]) hi xJ_charAt rfl vJ_charAt.1 vJ_charAt.2 (c_charAt hAd hfv hi hin'.2) (by omega) (by omega) hc1 hc2 hR hz hS hL rfl hcat hd
        · cases he2
      · cases he'
    · exact absurd z (by decide)
  · rcases hins with ⟨rfl, -⟩ | ⟨-, z⟩
    · obtain ⟨k, j, rfl⟩ : ∃ k j, as = [.ref k, .int j] := by
        unfold pv_ext at he
        split at he <;> first | (cases he; done) | exact ⟨_, _, rfl⟩ | contradiction | (exfalso; omega) | (exfalso; simp_all; done)
      have he' : (if pv_scr < k then (pv_txt[k - (pv_scr + 1)]?).map (fun t => ((some (Value.int (pv_ixo t j)), h) : pv_O)) else none) = some q := he
      split at he'
      · rename_i hk
        obtain ⟨t, ht, rfl⟩ := Option.map_eq_some_iff.mp he'
        obtain ⟨i, hi, rfl, rfl⟩ := txt_at hk ht
        exact j_runV C (as := [.int j]) hi xJ_ix rfl vJ_ix.1 vJ_ix.2 (c_ix hAd hi) (by omega) (by omega) hc1 hc2 hR hz hS hL rfl hcat hd
      · cases he'
    · exact absurd z (by decide)
  · rcases hins with ⟨-, z⟩ | ⟨rfl, -⟩
    · exact absurd rfl z
    · obtain ⟨x, a, b, g, w, qa, rfl⟩ : ∃ x a b g w qa, as = [.ref x, .int a, .int b, .int g, .int w, .ref qa] := by
        unfold pv_ext at he
        split at he <;> first | (cases he; done) | exact ⟨_, _, _, _, _, _, rfl⟩ | contradiction | (exfalso; omega) | (exfalso; simp_all; done)
      have he' : (match h[x]? with
        | some (.inr (10, _)) => (match pv_rv a b g w with
          | none => if h.length < pv_scr then some ((some (Value.int 1), h ++ [pv_exc]) : pv_O) else none
          | some v => (pv_sJ h qa 0 v.toInt64).map (fun h' => (some (.int 0), h')))
        | _ => none) = some q := he
      have hts := C.2.2.2.2.1
      have hFix : CallFix p m c cc nL s args pv_G (pv_own 12) := ⟨C.1, C.2.1, C.2.2.1, C.2.2.2.1, hts⟩
      have hbl := pv_blind (D := D) (ad := ad) (cyf := cyf) (X := X) (NW := NW) (h := h) (KSt_ok ad base fv) ([Value.ref x, .int a, .int b, .int g, .int w, .ref qa].map (pv_tr ad))
      have hcat' := lv_room (m := m) (pc := pc) (ls := lsA) (rest := (([Value.ref x, .int a, .int b, .int g, .int w, .ref qa].reverse ++ rest).map (pv_tr ad))) (st := rest.map (pv_tr ad)) (by rw [pv_cats]; exact hcat)
      have hstk : (([Value.ref x, .int a, .int b, .int g, .int w, .ref qa].reverse ++ rest).map (pv_tr ad)) = ([Value.ref x, .int a, .int b, .int g, .int w, .ref qa].map (pv_tr ad)).reverse ++ rest.map (pv_tr ad) := by simp
      have key : ∀ q' : pv_O, Met l yL_rests (Cond.codeWith yL_rests method_3_code 7 (some .int) hhL :: pv_G) ({ frames := 9, cells := q'.2.length - h.length, slots := pv_sz q'.2 - pv_sz h, locals := 1800 }) (va_Pc ([Value.ref x, .int a, .int b, .int g, .int w, .ref qa].map (pv_tr ad)) (pv_RU D ad base cyf X NW (KSt ad base fv) h)) (pv_Qc D ad base cyf X NW (KSt ad base fv) q') (q'.2.length - h.length) (pv_sz q'.2 - pv_sz h) (pv_A base) → h.length - n0 + (q'.2.length - h.length) ≤ R.cells → pv_sz h - z0 + (pv_sz q'.2 - pv_sz h) ≤ R.slots → va_Run p l e R s m args below meth c H locs (h.length - n0) (pv_sz h - z0) (q'.2.length - h.length) (pv_sz q'.2 - pv_sz h) (F0 m pc lsA (([Value.ref x, .int a, .int b, .int g, .int w, .ref qa].reverse ++ rest).map (pv_tr ad))) (rest.map (pv_tr ad)) (pv_Qc D ad base cyf X NW (KSt ad base fv) q' ([Value.ref x, .int a, .int b, .int g, .int w, .ref qa].map (pv_tr ad)).toArray) (pv_A base) := by
        intro q' hMet g1 g2
        exact vx_runSW (As := [Value.ref x, .int a, .int b, .int g, .int w, .ref qa].map (pv_tr ad)) (n := 6) (hh := hhL) (bytes := method_3_code) (maxL := 7) (ret := some .int) hFix hMet (vx_cwSW 6 hts gL_r rfl rfl rfl (by decide +kernel) ⟨by show 9 + 1 ≤ R.frames; omega, by show 8 + (7 + 11) + 1800 ≤ R.locals; omega⟩) ⟨hbl, j_Pc C hR hz hS⟩ rfl rfl hL.1 hstk hcat' hd ⟨g1, g2⟩
      cases hhx : h[x]? with
      | none => rw [hhx] at he'; cases he'
      | some cx =>
        rw [hhx] at he'
        match cx, he', hhx with
        | .inr (10, fs), he', hhx =>
          (try dsimp only at he')
          cases hrv : pv_rv a b g w with
          | none =>
            rw [hrv] at he'
            have he2 : (if h.length < pv_scr then some ((some (Value.int 1), h ++ [pv_exc]) : pv_O) else none) = some q := he'
            by_cases hls : h.length < pv_scr
            · rw [if_pos hls] at he2
              cases he2
              exact key _ (c_lr0 hl hAd hls hhx hrv) hc1 hc2
            · rw [if_neg hls] at he2
              cases he2
          | some v =>
            rw [hrv] at he'
            (try dsimp only at he')
            obtain ⟨h', hq, rfl⟩ := Option.map_eq_some_iff.mp he'
            exact key _ (c_lr1 hAd hhx hrv hq) hc1 hc2
end EXA
