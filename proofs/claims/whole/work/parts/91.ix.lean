/-! String.indexOf of the String constants. -/
def gx (t : List Nat) (n : Nat) : Nat → Nat → Int32
  | 0, _ => -1
  | d + 1, k => if t.getD k 0 = n then nI k else gx t n d (k + 1)
theorem gx_ixo : ∀ i, i < 21 → ∀ n, n < 256 → gx (txt i) n (txt i).length 0 = pv_ixo (txt i) (nI n) := by decide +kernel
theorem txt_b : ∀ i, i < 21 → (∀ j, j < 8 → (txt i).getD j 0 < 128) ∧ (∀ a ∈ txt i, a < 128) ∧ 0 < (txt i).length := by decide +kernel
theorem byte_n : ∀ n, n < 256 → ((nI n).toInt8.toInt32 = nI n ∧ n < 128) ∨ ((nI n).toInt8.toInt32 < 0 ∧ 128 ≤ n) := by decide +kernel
theorem byt_eq {b n : Nat} (hb : b < 128) (hn : n < 256) : nI b = (nI n).toInt8.toInt32 ↔ b = n := by
  rcases byte_n n hn with ⟨e, -⟩ | ⟨e, h⟩
  · rw [e, nI_eq (by omega) (by omega)]
  · constructor
    · intro z
      rw [← z] at e
      exact absurd e (nI_pos (by omega))
    · intro z
      omega
theorem ixo_no {c : Int32} : ∀ t : List Nat, (∀ a ∈ t, Int32.ofNat a ≠ c) → pv_ixo t c = -1
  | [], _ => rfl
  | a :: l, h => by
    rw [pv_ixo, if_neg (h a List.mem_cons_self), ixo_no l (fun b hb => h b (List.mem_cons_of_mem _ hb)), if_pos rfl]
section STX
variable {D : va_G} {ad : Nat → Nat} {base : Nat} {cyf : Nat → ClassId} {X : pv_X} {NW : List (String × Nat × MethodName × String)} {fv : Value} {l : Launch} {h : pv_H} {i : Nat}
theorem c_can1 (hAd : ∀ k, k < pv_scr → ad k = base + k) {x : Int32} (h1 : ¬ x < 0) (h2 : ¬ 255 < x) : pv_Ct l D ad base cyf X NW (KSt ad base fv) mJ_can 1 [.int x] h (some (.int 1), h) := by
  refine jCt (o := 17) rfl (by decide +kernel) hAd (Nat.le_of_ble_eq_true rfl) ?_
  intro p e R s m args below meth c C hs0 hR1 hR2 hRc hRs
  refine sn_iload_n C (i := 0) (x := x) rfl (by decide +kernel) ?_
  refine sn_if_lt C (off := 14) (tgt := 15) (by decide) (by decide +kernel) (fun hx => absurd hx h1) (fun _ => ?_)
  refine sn_iload_n C (i := 0) (x := x) rfl (by decide +kernel) ?_
  refine sn_sipush C (n := 255) (by decide +kernel) ?_
  refine sn_icmp_gt C (off := 7) (tgt := 15) (by decide) (by decide +kernel) (fun hx => absurd hx h2) (fun _ => ?_)
  refine sn_iconst C (n := 1) (by decide +kernel) ?_
  refine sn_goto C (off := 4) (tgt := 16) (by decide) (by decide +kernel) ?_
  exact j_ret C hs0 rfl rfl (by decide +kernel)
theorem c_can0 (hAd : ∀ k, k < pv_scr → ad k = base + k) {x : Int32} (h1 : x < 0 ∨ 255 < x) : pv_Ct l D ad base cyf X NW (KSt ad base fv) mJ_can 1 [.int x] h (some (.int 0), h) := by
  refine jCt (o := 17) rfl (by decide +kernel) hAd (Nat.le_of_ble_eq_true rfl) ?_
  intro p e R s m args below meth c C hs0 hR1 hR2 hRc hRs
  refine sn_iload_n C (i := 0) (x := x) rfl (by decide +kernel) ?_
  refine sn_if_lt C (off := 14) (tgt := 15) (by decide) (by decide +kernel) (fun _ => ?_) (fun hx => ?_)
  · refine sn_iconst C (n := 0) (by decide +kernel) ?_
    exact j_ret C hs0 rfl rfl (by decide +kernel)
  · refine sn_iload_n C (i := 0) (x := x) rfl (by decide +kernel) ?_
    refine sn_sipush C (n := 255) (by decide +kernel) ?_
    refine sn_icmp_gt C (off := 7) (tgt := 15) (by decide) (by decide +kernel) (fun _ => ?_) (fun hy => ?_)
    · refine sn_iconst C (n := 0) (by decide +kernel) ?_
      exact j_ret C hs0 rfl rfl (by decide +kernel)
    · exact absurd h1 (fun z => z.elim hx hy)
theorem c_max0 (hAd : ∀ k, k < pv_scr → ad k = base + k) : pv_Ct l D ad base cyf X NW (KSt ad base fv) mJ_max 1 [.int 0, .int 0] h (some (.int 0), h) := by
  refine jCt (o := 13) rfl (by decide +kernel) hAd (Nat.le_of_ble_eq_true rfl) ?_
  intro p e R s m args below meth c C hs0 hR1 hR2 hRc hRs
  refine sn_iload_n C (i := 0) (x := 0) rfl (by decide +kernel) ?_
  refine sn_iload_n C (i := 1) (x := 0) rfl (by decide +kernel) ?_
  refine sn_icmp_lt C (off := 7) (tgt := 9) (by decide) (by decide +kernel) (fun hx => absurd hx (by decide)) (fun _ => ?_)
  refine sn_iload_n C (i := 0) (x := 0) rfl (by decide +kernel) ?_
  refine sn_goto C (off := 4) (tgt := 10) (by decide) (by decide +kernel) ?_
  exact j_ret C hs0 rfl rfl (by decide +kernel)
theorem c_minx (hAd : ∀ k, k < pv_scr → ad k = base + k) {x : Int32} : pv_Ct l D ad base cyf X NW (KSt ad base fv) mJ_min 1 [.int x, .int x] h (some (.int x), h) := by
  refine jCt (o := 13) rfl (by decide +kernel) hAd (Nat.le_of_ble_eq_true rfl) ?_
  intro p e R s m args below meth c C hs0 hR1 hR2 hRc hRs
  refine sn_iload_n C (i := 0) (x := x) rfl (by decide +kernel) ?_
  refine sn_iload_n C (i := 1) (x := x) rfl (by decide +kernel) ?_
  refine sn_icmp_gt C (off := 7) (tgt := 9) (by decide) (by decide +kernel) (fun hx => absurd hx (by simp)) (fun _ => ?_)
  refine sn_iload_n C (i := 0) (x := x) rfl (by decide +kernel) ?_
  refine sn_goto C (off := 4) (tgt := 10) (by decide) (by decide +kernel) ?_
  exact j_ret C hs0 rfl rfl (by decide +kernel)
theorem c_ixc (hAd : ∀ k, k < pv_scr → ad k = base + k) (hi : i < 21) {n : Nat} (hn : n < 256) : pv_Ct l D ad base cyf X NW (KSt ad base fv) mJ_ixc 1 [.ref (pv_scr + 101 + i), .int (nI n), .int 0, .int (nI (txt i).length)] h (some (.int (gx (txt i) n (txt i).length 0)), h) := by
  have h8 := txt_8 i
  refine jCt (o := 17) rfl (by decide +kernel) hAd (Nat.le_of_ble_eq_true rfl) ?_
  intro p e R s m args below meth c C hs0 hR1 hR2 hRc hRs
  refine sn_iload_n C (i := 1) (x := nI n) rfl (by decide +kernel) ?_
  refine sn_i2b C (by decide +kernel) ?_
  refine sn_istore C (i := 4) (ls' := [some (.ref (pv_scr + 101 + i)), some (.int (nI n)), some (.int 0), some (.int (nI (txt i).length)), some (.int (nI n).toInt8.toInt32), none]) rfl (by decide +kernel) ?_
  refine sn_iload_n C (i := 2) (x := 0) rfl (by decide +kernel) ?_
  refine sn_istore C (i := 5) (ls' := [some (.ref (pv_scr + 101 + i)), some (.int (nI n)), some (.int 0), some (.int (nI (txt i).length)), some (.int (nI n).toInt8.toInt32), some (.int (nI 0))]) rfl (by decide +kernel) ?_
  have loop : ∀ d k, k + d = (txt i).length → gx (txt i) n (txt i).length 0 = gx (txt i) n d k → pv_Kt D ad base cyf p l e R s m args below meth c 6 h.length (pv_sz h) (MQ below (pv_Qc D ad base cyf X NW (KSt ad base fv) (some (.int (gx (txt i) n (txt i).length 0)), h)) args s (h.length - h.length) (pv_sz h - pv_sz h) (pv_A base)) 7 [some (.ref (pv_scr + 101 + i)), some (.int (nI n)), some (.int 0), some (.int (nI (txt i).length)), some (.int (nI n).toInt8.toInt32), some (.int (nI k))] [] h := by
    intro d
    induction d with
    | zero =>
      intro k hk hg
      refine sn_iload C (i := 5) (x := nI k) rfl (by decide +kernel) ?_
      refine sn_iload_n C (i := 3) (x := nI (txt i).length) rfl (by decide +kernel) ?_
      refine sn_icmp_ge C (off := 21) (tgt := 31) (by decide) (by decide +kernel) (fun _ => ?_) (fun hx => absurd (nI_le (show (txt i).length ≤ k by omega) (by omega)) hx)
      refine sn_iconst C (n := -1) (by decide +kernel) ?_
      rw [hg]
      exact j_ret C hs0 rfl rfl (by decide +kernel)
    | succ d ih =>
      intro k hk hg
      refine sn_iload C (i := 5) (x := nI k) rfl (by decide +kernel) ?_
      refine sn_iload_n C (i := 3) (x := nI (txt i).length) rfl (by decide +kernel) ?_
      refine sn_icmp_ge C (off := 21) (tgt := 31) (by decide) (by decide +kernel) (fun hx => absurd hx (nI_ge (show k < (txt i).length by omega) (by omega))) (fun _ => ?_)
      refine sn_aload_n C (i := 0) (x := pv_scr + 101 + i) rfl (by decide +kernel) ?_
      refine sn_iload C (i := 5) (x := nI k) rfl (by decide +kernel) ?_
      refine j_byte C hi (show k < (txt i).length by omega) (by decide +kernel) ?_
      refine sn_iload C (i := 4) (x := (nI n).toInt8.toInt32) rfl (by decide +kernel) ?_
      have hb : (txt i).getD k 0 < 128 := (txt_b i hi).1 k (by omega)
      refine sn_icmp_ne C (off := 6) (tgt := 25) (by decide) (by decide +kernel) (fun hx => ?_) (fun hx => ?_)
      · have hne : ¬ (txt i).getD k 0 = n := fun z => hx ((byt_eq hb hn).mpr z)
        refine sn_iinc C (i := 5) (n := 1) (x := nI k) (ls' := [some (.ref (pv_scr + 101 + i)), some (.int (nI n)), some (.int 0), some (.int (nI (txt i).length)), some (.int (nI n).toInt8.toInt32), some (.int (nI k + Int32.ofInt 1))]) rfl rfl (by decide +kernel) ?_
        refine sn_goto C (off := -21) (tgt := 7) (by decide) (by decide +kernel) ?_
        rw [show nI k + Int32.ofInt 1 = nI (k + 1) from nI_1 k]
        refine ih (k + 1) (by omega) ?_
        rw [hg, gx, if_neg hne]
      · have heq : (txt i).getD k 0 = n := (byt_eq hb hn).mp (Decidable.not_not.mp hx)
        refine sn_iload C (i := 5) (x := nI k) rfl (by decide +kernel) ?_
        rw [hg, gx, if_pos heq]
        exact j_ret C hs0 rfl rfl (by decide +kernel)
  exact loop _ 0 (by omega) rfl
theorem c_ix1 (hAd : ∀ k, k < pv_scr → ad k = base + k) (hi : i < 21) {x : Int32} : pv_Ct l D ad base cyf X NW (KSt ad base fv) mJ_ix1 2 [.ref (pv_scr + 101 + i), .int x, .int 0, .int (nI (txt i).length)] h (some (.int (pv_ixo (txt i) x)), h) := by
  have h8 := txt_8 i
  obtain ⟨b1, b2, b3⟩ := txt_b i hi
  refine jCt (o := 17) rfl (by decide +kernel) hAd (Nat.le_of_ble_eq_true rfl) ?_
  intro p e R s m args below meth c C hs0 hR1 hR2 hRc hRs
  refine sn_iload_n C (i := 1) (x := x) rfl (by decide +kernel) ?_
  by_cases hx : x < 0 ∨ 255 < x
  · refine jS C (as := [.int x]) (rest := []) (a := some (.int 0)) hs0 wJ_can (pv_G_in (by decide +kernel) (by decide +kernel)) (c_can0 hAd hx) hR1 hR2 rfl (Nat.le_of_ble_eq_true rfl) (by decide +kernel) ?_
    refine sn_if_ne C (off := 5) (tgt := 9) (by decide) (by decide +kernel) (fun z => absurd rfl z) (fun _ => ?_)
    refine sn_iconst C (n := -1) (by decide +kernel) ?_
    have e : pv_ixo (txt i) x = -1 := ixo_no _ (fun a ha z => by
      have := b2 a ha
      rw [← z] at hx
      rcases hx with hx | hx
      · exact nI_pos (n := a) (by omega) hx
      · exact nI_nlt (a := 255) (b := a) (by omega) (by omega) hx)
    rw [e]
    exact j_ret C hs0 rfl rfl (by decide +kernel)
  · have hx1 : ¬ x < 0 := fun z => hx (Or.inl z)
    have hx2 : ¬ 255 < x := fun z => hx (Or.inr z)
    obtain ⟨n, hn, rfl⟩ := nI_of hx1
    have h256 : n < 256 := by
      rcases Nat.lt_or_ge n 256 with q | q
      · exact q
      · exact absurd (nI_lt (a := 255) (b := n) (by omega) hn) hx2
    refine jS C (as := [.int (nI n)]) (rest := []) (a := some (.int 1)) hs0 wJ_can (pv_G_in (by decide +kernel) (by decide +kernel)) (c_can1 hAd hx1 hx2) hR1 hR2 rfl (Nat.le_of_ble_eq_true rfl) (by decide +kernel) ?_
    refine sn_if_ne C (off := 5) (tgt := 9) (by decide) (by decide +kernel) (fun _ => ?_) (fun z => absurd (by decide : ¬ (1 : Int32) = 0) z)
    refine sn_iload_n C (i := 2) (x := 0) rfl (by decide +kernel) ?_
    refine sn_iconst C (n := 0) (by decide +kernel) ?_
    refine jS C (as := [.int 0, .int 0]) (rest := []) (a := some (.int 0)) hs0 wJ_max (pv_G_in (by decide +kernel) (by decide +kernel)) (c_max0 hAd) hR1 hR2 rfl (Nat.le_of_ble_eq_true rfl) (by decide +kernel) ?_
    refine sn_istore_n C (i := 2) (ls' := [some (.ref (pv_scr + 101 + i)), some (.int (nI n)), some (.int 0), some (.int (nI (txt i).length))]) rfl (by decide +kernel) ?_
    refine sn_iload_n C (i := 3) (x := nI (txt i).length) rfl (by decide +kernel) ?_
    refine sn_aload_n C (i := 0) (x := pv_scr + 101 + i) rfl (by decide +kernel) ?_
    refine j_len C hi (by decide +kernel) ?_
    refine jS C (as := [.int (nI (txt i).length), .int (nI (txt i).length)]) (rest := []) (a := some (.int (nI (txt i).length))) hs0 wJ_min (pv_G_in (by decide +kernel) (by decide +kernel)) (c_minx hAd) hR1 hR2 rfl (Nat.le_of_ble_eq_true rfl) (by decide +kernel) ?_
    refine sn_istore_n C (i := 3) (ls' := [some (.ref (pv_scr + 101 + i)), some (.int (nI n)), some (.int 0), some (.int (nI (txt i).length))]) rfl (by decide +kernel) ?_
    refine sn_iload_n C (i := 2) (x := 0) rfl (by decide +kernel) ?_
    refine sn_iload_n C (i := 3) (x := nI (txt i).length) rfl (by decide +kernel) ?_
    refine sn_icmp_lt C (off := 5) (tgt := 29) (by decide) (by decide +kernel) (fun _ => ?_) (fun z => absurd (nI_lt (a := 0) b3 (by omega)) z)
    refine sn_aload_n C (i := 0) (x := pv_scr + 101 + i) rfl (by decide +kernel) ?_
    refine sn_iload_n C (i := 1) (x := nI n) rfl (by decide +kernel) ?_
    refine sn_iload_n C (i := 2) (x := 0) rfl (by decide +kernel) ?_
    refine sn_iload_n C (i := 3) (x := nI (txt i).length) rfl (by decide +kernel) ?_
    refine jS C (as := [.ref (pv_scr + 101 + i), .int (nI n), .int 0, .int (nI (txt i).length)]) (rest := []) (a := some (.int (gx (txt i) n (txt i).length 0))) hs0 wJ_ixc (pv_G_in (by decide +kernel) (by decide +kernel)) (c_ixc hAd hi h256) hR1 hR2 rfl (Nat.le_of_ble_eq_true rfl) (by decide +kernel) ?_
    rw [gx_ixo i hi n h256]
    exact j_ret C hs0 rfl rfl (by decide +kernel)
theorem c_ix2 (hAd : ∀ k, k < pv_scr → ad k = base + k) (hi : i < 21) {x : Int32} : pv_Ct l D ad base cyf X NW (KSt ad base fv) mJ_ix2 3 [.ref (pv_scr + 1 + i), .int x, .int 0] h (some (.int (pv_ixo (txt i) x)), h) := by
  refine jCt (o := 16) rfl (by decide +kernel) hAd (Nat.le_of_ble_eq_true rfl) ?_
  intro p e R s m args below meth c C hs0 hR1 hR2 hRc hRs
  refine sn_aload_n C (i := 0) (x := pv_scr + 1 + i) rfl (by decide +kernel) ?_
  refine jV C (as := []) (rest := []) (a := some (.int 1)) hs0 hi wJ_isLatin1 rfl vJ_isLatin1.1 vJ_isLatin1.2 (c_isLatin1 hAd hi) (by omega) (by omega) rfl (Nat.le_of_ble_eq_true rfl) (by decide +kernel) ?_
  refine sn_if_eq C (off := 19) (tgt := 23) (by decide) (by decide +kernel) (fun hx => absurd hx (by decide)) (fun _ => ?_)
  refine sn_aload_n C (i := 0) (x := pv_scr + 1 + i) rfl (by decide +kernel) ?_
  refine j_value C hi (by decide +kernel) ?_
  refine sn_iload_n C (i := 1) (x := x) rfl (by decide +kernel) ?_
  refine sn_iload_n C (i := 2) (x := 0) rfl (by decide +kernel) ?_
  refine sn_aload_n C (i := 0) (x := pv_scr + 1 + i) rfl (by decide +kernel) ?_
  refine jV C (as := []) (rest := [.int 0, .int x, .ref (pv_scr + 101 + i)]) (a := some (.int (nI (txt i).length))) hs0 hi wJ_length rfl vJ_length.1 vJ_length.2 (c_length hAd hi) hR1 hR2 rfl (Nat.le_of_ble_eq_true rfl) (by decide +kernel) ?_
  refine jS C (as := [.ref (pv_scr + 101 + i), .int x, .int 0, .int (nI (txt i).length)]) (rest := []) (a := some (.int (pv_ixo (txt i) x))) hs0 wJ_ix1 (pv_G_in (by decide +kernel) (by decide +kernel)) (c_ix1 hAd hi) hR1 hR2 rfl (Nat.le_of_ble_eq_true rfl) (by decide +kernel) ?_
  refine sn_goto C (off := 16) (tgt := 36) (by decide) (by decide +kernel) ?_
  exact j_ret C hs0 rfl rfl (by decide +kernel)
theorem c_ix (hAd : ∀ k, k < pv_scr → ad k = base + k) (hi : i < 21) {x : Int32} : pv_Ct l D ad base cyf X NW (KSt ad base fv) mJ_ix 4 [.ref (pv_scr + 1 + i), .int x] h (some (.int (pv_ixo (txt i) x)), h) := by
  refine jCt (o := 16) rfl (by decide +kernel) hAd (Nat.le_of_ble_eq_true rfl) ?_
  intro p e R s m args below meth c C hs0 hR1 hR2 hRc hRs
  refine sn_aload_n C (i := 0) (x := pv_scr + 1 + i) rfl (by decide +kernel) ?_
  refine sn_iload_n C (i := 1) (x := x) rfl (by decide +kernel) ?_
  refine sn_iconst C (n := 0) (by decide +kernel) ?_
  refine jV C (as := [.int x, .int 0]) (rest := []) (a := some (.int (pv_ixo (txt i) x))) hs0 hi wJ_ix2 rfl vJ_ix2.1 vJ_ix2.2 (c_ix2 hAd hi) hR1 hR2 rfl (Nat.le_of_ble_eq_true rfl) (by decide +kernel) ?_
  exact j_ret C hs0 rfl rfl (by decide +kernel)
end STX
