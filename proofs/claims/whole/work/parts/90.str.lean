/-! String.length, charAt, indexOf of the String constants: walks of the JDK's own code. -/
def mJ_coder : pv_M := (⟨"java/lang/String", "coder", "()B"⟩, prog_22_method_152_code, 1, some .byte, [], fun _ => 1)
def mJ_isLatin1 : pv_M := (⟨"java/lang/String", "isLatin1", "()Z"⟩, prog_22_method_154_code, 1, some .boolean, [], fun _ => 1)
def mJ_length : pv_M := (⟨"java/lang/String", "length", "()I"⟩, prog_22_method_54_code, 1, some .int, [], fun _ => 2)
def mJ_pcheck : pv_M := (⟨"jdk/internal/util/Preconditions", "checkIndex", "(IILjava/util/function/BiFunction;)I"⟩, prog_31_method_11_code, 3, some .int, [], fun _ => 1)
def mJ_check : pv_M := (⟨"java/lang/String", "checkIndex", "(II)V"⟩, prog_22_method_155_code, 2, none, [], fun _ => 2)
def mJ_charAt1 : pv_M := (⟨"java/lang/StringLatin1", "charAt", "([BI)C"⟩, prog_23_method_2_code, 2, some .char, [], fun _ => 3)
def mJ_charAt : pv_M := (⟨"java/lang/String", "charAt", "(I)C"⟩, prog_22_method_56_code, 2, some .char, [], fun _ => 4)
def mJ_can : pv_M := (⟨"java/lang/StringLatin1", "canEncode", "(I)Z"⟩, prog_23_method_4_code, 1, some .boolean, [], fun _ => 1)
def mJ_max : pv_M := (⟨"java/lang/Math", "max", "(II)I"⟩, prog_20_method_65_code, 2, some .int, [], fun _ => 1)
def mJ_min : pv_M := (⟨"java/lang/Math", "min", "(II)I"⟩, prog_20_method_69_code, 2, some .int, [], fun _ => 1)
def mJ_ixc : pv_M := (⟨"java/lang/StringLatin1", "indexOfChar", "([BIII)I"⟩, prog_23_method_23_code, 6, some .int, [], fun _ => 1)
def mJ_ix1 : pv_M := (⟨"java/lang/StringLatin1", "indexOf", "([BIII)I"⟩, prog_23_method_22_code, 4, some .int, [], fun _ => 2)
def mJ_ix2 : pv_M := (⟨"java/lang/String", "indexOf", "(II)I"⟩, prog_22_method_80_code, 3, some .int, [], fun _ => 3)
def mJ_ix : pv_M := (⟨"java/lang/String", "indexOf", "(I)I"⟩, prog_22_method_79_code, 2, some .int, [], fun _ => 4)
theorem wJ_coder : j_W 16 335 0 mJ_coder := ⟨pv_G_in (by decide +kernel) (by decide +kernel), pv_G_in (by decide +kernel) (by decide +kernel), by decide +kernel, pv_G_in (by decide +kernel) (by decide +kernel), by decide⟩
theorem wJ_isLatin1 : j_W 16 492 0 mJ_isLatin1 := ⟨pv_G_in (by decide +kernel) (by decide +kernel), pv_G_in (by decide +kernel) (by decide +kernel), by decide +kernel, pv_G_in (by decide +kernel) (by decide +kernel), by decide⟩
theorem wJ_length : j_W 16 505 0 mJ_length := ⟨pv_G_in (by decide +kernel) (by decide +kernel), pv_G_in (by decide +kernel) (by decide +kernel), by decide +kernel, pv_G_in (by decide +kernel) (by decide +kernel), by decide⟩
theorem wJ_pcheck : j_W 16 1059 3 mJ_pcheck := ⟨pv_G_in (by decide +kernel) (by decide +kernel), pv_G_in (by decide +kernel) (by decide +kernel), by decide +kernel, pv_G_in (by decide +kernel) (by decide +kernel), by decide⟩
theorem wJ_check : j_W 17 9 2 mJ_check := ⟨pv_G_in (by decide +kernel) (by decide +kernel), pv_G_in (by decide +kernel) (by decide +kernel), by decide +kernel, pv_G_in (by decide +kernel) (by decide +kernel), by decide⟩
theorem wJ_charAt1 : j_W 16 495 2 mJ_charAt1 := ⟨pv_G_in (by decide +kernel) (by decide +kernel), pv_G_in (by decide +kernel) (by decide +kernel), by decide +kernel, pv_G_in (by decide +kernel) (by decide +kernel), by decide⟩
theorem wJ_can : j_W 17 88 1 mJ_can := ⟨pv_G_in (by decide +kernel) (by decide +kernel), pv_G_in (by decide +kernel) (by decide +kernel), by decide +kernel, pv_G_in (by decide +kernel) (by decide +kernel), by decide⟩
theorem wJ_max : j_W 17 92 2 mJ_max := ⟨pv_G_in (by decide +kernel) (by decide +kernel), pv_G_in (by decide +kernel) (by decide +kernel), by decide +kernel, pv_G_in (by decide +kernel) (by decide +kernel), by decide⟩
theorem wJ_min : j_W 17 38 2 mJ_min := ⟨pv_G_in (by decide +kernel) (by decide +kernel), pv_G_in (by decide +kernel) (by decide +kernel), by decide +kernel, pv_G_in (by decide +kernel) (by decide +kernel), by decide⟩
theorem wJ_ixc : j_W 17 95 4 mJ_ixc := ⟨pv_G_in (by decide +kernel) (by decide +kernel), pv_G_in (by decide +kernel) (by decide +kernel), by decide +kernel, pv_G_in (by decide +kernel) (by decide +kernel), by decide⟩
theorem wJ_ix1 : j_W 16 637 4 mJ_ix1 := ⟨pv_G_in (by decide +kernel) (by decide +kernel), pv_G_in (by decide +kernel) (by decide +kernel), by decide +kernel, pv_G_in (by decide +kernel) (by decide +kernel), by decide⟩
theorem wJ_ix2 : j_W 16 633 2 mJ_ix2 := ⟨pv_G_in (by decide +kernel) (by decide +kernel), pv_G_in (by decide +kernel) (by decide +kernel), by decide +kernel, pv_G_in (by decide +kernel) (by decide +kernel), by decide⟩
theorem xJ_length : j_W 9 65 0 mJ_length := ⟨pv_G_in (by decide +kernel) (by decide +kernel), pv_G_in (by decide +kernel) (by decide +kernel), by decide +kernel, pv_G_in (by decide +kernel) (by decide +kernel), by decide⟩
theorem xJ_charAt : j_W 9 68 1 mJ_charAt := ⟨pv_G_in (by decide +kernel) (by decide +kernel), pv_G_in (by decide +kernel) (by decide +kernel), by decide +kernel, pv_G_in (by decide +kernel) (by decide +kernel), by decide⟩
theorem xJ_ix : j_W 9 50 1 mJ_ix := ⟨pv_G_in (by decide +kernel) (by decide +kernel), pv_G_in (by decide +kernel) (by decide +kernel), by decide +kernel, pv_G_in (by decide +kernel) (by decide +kernel), by decide⟩
def vJ (M : pv_M) : Prop := Cond.instanceMethod M.1 ∈ pv_G ∧ Cond.selects M.1.cls M.1 M.1 ∈ pv_G
theorem vJ_coder : vJ mJ_coder := ⟨pv_G_in (by decide +kernel) (by decide +kernel), pv_G_in (by decide +kernel) (by decide +kernel)⟩
theorem vJ_isLatin1 : vJ mJ_isLatin1 := ⟨pv_G_in (by decide +kernel) (by decide +kernel), pv_G_in (by decide +kernel) (by decide +kernel)⟩
theorem vJ_length : vJ mJ_length := ⟨pv_G_in (by decide +kernel) (by decide +kernel), pv_G_in (by decide +kernel) (by decide +kernel)⟩
theorem vJ_charAt : vJ mJ_charAt := ⟨pv_G_in (by decide +kernel) (by decide +kernel), pv_G_in (by decide +kernel) (by decide +kernel)⟩
theorem vJ_ix : vJ mJ_ix := ⟨pv_G_in (by decide +kernel) (by decide +kernel), pv_G_in (by decide +kernel) (by decide +kernel)⟩
theorem vJ_ix2 : vJ mJ_ix2 := ⟨pv_G_in (by decide +kernel) (by decide +kernel), pv_G_in (by decide +kernel) (by decide +kernel)⟩
section STW
variable {D : va_G} {ad : Nat → Nat} {base : Nat} {cyf : Nat → ClassId} {X : pv_X} {NW : List (String × Nat × MethodName × String)} {fv : Value} {l : Launch} {h : pv_H} {i : Nat}
theorem c_coder (hAd : ∀ k, k < pv_scr → ad k = base + k) (hi : i < 21) : pv_Ct l D ad base cyf X NW (KSt ad base fv) mJ_coder 1 [.ref (pv_scr + 1 + i)] h (some (.int 0), h) := by
  refine jCt (o := 16) rfl (by decide +kernel) hAd (Nat.le_of_ble_eq_true rfl) ?_
  intro p e R s m args below meth c C hs0 hR1 hR2 hRc hRs
  refine j_compact C (by decide +kernel) ?_
  refine sn_if_eq C (off := 10) (tgt := 13) (by decide) (by decide +kernel) (fun hx => absurd hx (by decide)) (fun _ => ?_)
  refine sn_aload_n C (i := 0) (x := pv_scr + 1 + i) rfl (by decide +kernel) ?_
  refine j_coder C hi (by decide +kernel) ?_
  refine sn_goto C (off := 4) (tgt := 14) (by decide) (by decide +kernel) ?_
  exact j_ret C hs0 rfl rfl (by decide +kernel)
theorem c_isLatin1 (hAd : ∀ k, k < pv_scr → ad k = base + k) (hi : i < 21) : pv_Ct l D ad base cyf X NW (KSt ad base fv) mJ_isLatin1 1 [.ref (pv_scr + 1 + i)] h (some (.int 1), h) := by
  refine jCt (o := 16) rfl (by decide +kernel) hAd (Nat.le_of_ble_eq_true rfl) ?_
  intro p e R s m args below meth c C hs0 hR1 hR2 hRc hRs
  refine j_compact C (by decide +kernel) ?_
  refine sn_if_eq C (off := 14) (tgt := 17) (by decide) (by decide +kernel) (fun hx => absurd hx (by decide)) (fun _ => ?_)
  refine sn_aload_n C (i := 0) (x := pv_scr + 1 + i) rfl (by decide +kernel) ?_
  refine j_coder C hi (by decide +kernel) ?_
  refine sn_if_ne C (off := 7) (tgt := 17) (by decide) (by decide +kernel) (fun hx => absurd rfl hx) (fun _ => ?_)
  refine sn_iconst C (n := 1) (by decide +kernel) ?_
  refine sn_goto C (off := 4) (tgt := 18) (by decide) (by decide +kernel) ?_
  exact j_ret C hs0 rfl rfl (by decide +kernel)
theorem shr_0 : ∀ n, n < 9 → nI n >>> ((0 : Int32) &&& 31) = nI n := by decide
theorem c_length (hAd : ∀ k, k < pv_scr → ad k = base + k) (hi : i < 21) : pv_Ct l D ad base cyf X NW (KSt ad base fv) mJ_length 2 [.ref (pv_scr + 1 + i)] h (some (.int (nI (txt i).length)), h) := by
  refine jCt (o := 16) rfl (by decide +kernel) hAd (Nat.le_of_ble_eq_true rfl) ?_
  intro p e R s m args below meth c C hs0 hR1 hR2 hRc hRs
  refine sn_aload_n C (i := 0) (x := pv_scr + 1 + i) rfl (by decide +kernel) ?_
  refine j_value C hi (by decide +kernel) ?_
  refine j_len C hi (by decide +kernel) ?_
  refine sn_aload_n C (i := 0) (x := pv_scr + 1 + i) rfl (by decide +kernel) ?_
  refine jV C (as := []) (rest := [.int (nI (txt i).length)]) (a := some (.int 0)) hs0 hi wJ_coder rfl vJ_coder.1 vJ_coder.2 (c_coder hAd hi) hR1 hR2 rfl (Nat.le_of_ble_eq_true rfl) (by decide +kernel) ?_
  refine sn_ishr C (by decide +kernel) ?_
  rw [shr_0 _ (by have := txt_8 i; omega)]
  exact j_ret C hs0 rfl rfl (by decide +kernel)
theorem c_pcheck (hAd : ∀ k, k < pv_scr → ad k = base + k) (hfv : fv = .null ∨ fv = .ref (pv_scr + 200)) {x y : Int32} (h1 : ¬ x < 0) (h2 : x < y) : pv_Ct l D ad base cyf X NW (KSt ad base fv) mJ_pcheck 1 [.int x, .int y, fv] h (some (.int x), h) := by
  have hsl : (pv_sl [.int x, .int y, fv]).length ≤ 3 := by rcases hfv with rfl | rfl <;> exact Nat.le_of_ble_eq_true rfl
  have hl0 : pv_ld (pv_ent 3 [.int x, .int y, fv]) 0 = some (.int x) := by rcases hfv with rfl | rfl <;> rfl
  have hl1 : pv_ld (pv_ent 3 [.int x, .int y, fv]) 1 = some (.int y) := by rcases hfv with rfl | rfl <;> rfl
  refine jCt (o := 18) rfl (by decide +kernel) hAd hsl ?_
  intro p e R s m args below meth c C hs0 hR1 hR2 hRc hRs
  refine sn_iload_n C (i := 0) (x := x) hl0 (by decide +kernel) ?_
  refine sn_if_lt C (off := 8) (tgt := 9) (by decide) (by decide +kernel) (fun hx => absurd hx h1) (fun _ => ?_)
  refine sn_iload_n C (i := 0) (x := x) hl0 (by decide +kernel) ?_
  refine sn_iload_n C (i := 1) (x := y) hl1 (by decide +kernel) ?_
  refine sn_icmp_lt C (off := 10) (tgt := 16) (by decide) (by decide +kernel) (fun _ => ?_) (fun hx => absurd h2 hx)
  refine sn_iload_n C (i := 0) (x := x) hl0 (by decide +kernel) ?_
  exact j_ret C hs0 rfl rfl (by decide +kernel)
theorem c_check (hAd : ∀ k, k < pv_scr → ad k = base + k) (hfv : fv = .null ∨ fv = .ref (pv_scr + 200)) {x y : Int32} (h1 : ¬ x < 0) (h2 : x < y) : pv_Ct l D ad base cyf X NW (KSt ad base fv) mJ_check 2 [.int x, .int y] h (none, h) := by
  refine jCt (o := 16) rfl (by decide +kernel) hAd (Nat.le_of_ble_eq_true rfl) ?_
  intro p e R s m args below meth c C hs0 hR1 hR2 hRc hRs
  refine sn_iload_n C (i := 0) (x := x) rfl (by decide +kernel) ?_
  refine sn_iload_n C (i := 1) (x := y) rfl (by decide +kernel) ?_
  refine j_form C (by decide +kernel) ?_
  refine jS C (as := [.int x, .int y, fv]) (rest := []) (a := some (.int x)) hs0 wJ_pcheck (pv_G_in (by decide +kernel) (by decide +kernel)) (c_pcheck hAd hfv h1 h2) hR1 hR2 rfl (Nat.le_of_ble_eq_true rfl) (by decide +kernel) ?_
  refine sn_popI C (x := x) (by decide +kernel) ?_
  exact j_vret C hs0 (by decide +kernel)
theorem and_255 : ∀ i, i < 21 → ∀ j, j < 8 → ((nI ((txt i).getD j 0) &&& (Int16.ofInt 255).toInt32).toUInt32 % 65536).toInt32 = nI ((txt i).getD j 0) ∧ narrow .char (.int (nI ((txt i).getD j 0))) = .int (nI ((txt i).getD j 0)) := by decide +kernel
theorem c_charAt1 (hAd : ∀ k, k < pv_scr → ad k = base + k) (hfv : fv = .null ∨ fv = .ref (pv_scr + 200)) (hi : i < 21) {j : Nat} (hj : j < (txt i).length) : pv_Ct l D ad base cyf X NW (KSt ad base fv) mJ_charAt1 3 [.ref (pv_scr + 101 + i), .int (nI j)] h (some (.int (nI ((txt i).getD j 0))), h) := by
  have h8 := txt_8 i
  refine jCt (o := 17) rfl (by decide +kernel) hAd (Nat.le_of_ble_eq_true rfl) ?_
  intro p e R s m args below meth c C hs0 hR1 hR2 hRc hRs
  refine sn_iload_n C (i := 1) (x := nI j) rfl (by decide +kernel) ?_
  refine sn_aload_n C (i := 0) (x := pv_scr + 101 + i) rfl (by decide +kernel) ?_
  refine j_len C hi (by decide +kernel) ?_
  refine jS C (as := [.int (nI j), .int (nI (txt i).length)]) (rest := []) (a := none) hs0 wJ_check (pv_G_in (by decide +kernel) (by decide +kernel)) (c_check hAd hfv (nI_pos (by omega)) (nI_lt hj (by omega))) hR1 hR2 rfl (Nat.le_of_ble_eq_true rfl) (by decide +kernel) ?_
  refine sn_aload_n C (i := 0) (x := pv_scr + 101 + i) rfl (by decide +kernel) ?_
  refine sn_iload_n C (i := 1) (x := nI j) rfl (by decide +kernel) ?_
  refine j_byte C hi hj (by decide +kernel) ?_
  refine sn_sipush C (n := 255) (by decide +kernel) ?_
  refine sn_iand C (by decide +kernel) ?_
  refine sn_i2c C (by decide +kernel) ?_
  obtain ⟨e1, e2⟩ := and_255 i hi j (by omega)
  rw [e1]
  exact j_ret C hs0 rfl e2 (by decide +kernel)
theorem c_charAt (hAd : ∀ k, k < pv_scr → ad k = base + k) (hfv : fv = .null ∨ fv = .ref (pv_scr + 200)) (hi : i < 21) {j : Nat} (hj : j < (txt i).length) : pv_Ct l D ad base cyf X NW (KSt ad base fv) mJ_charAt 4 [.ref (pv_scr + 1 + i), .int (nI j)] h (some (.int (nI ((txt i).getD j 0))), h) := by
  have h8 := txt_8 i
  refine jCt (o := 16) rfl (by decide +kernel) hAd (Nat.le_of_ble_eq_true rfl) ?_
  intro p e R s m args below meth c C hs0 hR1 hR2 hRc hRs
  refine sn_aload_n C (i := 0) (x := pv_scr + 1 + i) rfl (by decide +kernel) ?_
  refine jV C (as := []) (rest := []) (a := some (.int 1)) hs0 hi wJ_isLatin1 rfl vJ_isLatin1.1 vJ_isLatin1.2 (c_isLatin1 hAd hi) (by omega) (by omega) rfl (Nat.le_of_ble_eq_true rfl) (by decide +kernel) ?_
  refine sn_if_eq C (off := 12) (tgt := 16) (by decide) (by decide +kernel) (fun hx => absurd hx (by decide)) (fun _ => ?_)
  refine sn_aload_n C (i := 0) (x := pv_scr + 1 + i) rfl (by decide +kernel) ?_
  refine j_value C hi (by decide +kernel) ?_
  refine sn_iload_n C (i := 1) (x := nI j) rfl (by decide +kernel) ?_
  refine jS C (as := [.ref (pv_scr + 101 + i), .int (nI j)]) (rest := []) (a := some (.int (nI ((txt i).getD j 0)))) hs0 wJ_charAt1 (pv_G_in (by decide +kernel) (by decide +kernel)) (c_charAt1 hAd hfv hi hj) hR1 hR2 rfl (Nat.le_of_ble_eq_true rfl) (by decide +kernel) ?_
  exact j_ret C hs0 rfl (and_255 i hi j (by omega)).2 (by decide +kernel)
end STW
