/-! round: all rows of the others, one after the other. -/
def fac : Nat → Nat
  | 0 => 1
  | l + 1 => fac l * (l + 1)
theorem fac_le : ∀ d, d ≤ 5 → fac d ≤ 120 ∧ 0 < fac d := by decide
def ers (L : Nat → Nat) (j k : Nat) : Nat := if k < j then L k else L (k + 1)
def pmu : Nat → (Nat → Nat) → Nat → Nat → Nat
  | 0, _, _, _ => 0
  | l + 1, L, r, 0 => L (r / fac l)
  | l + 1, L, r, k + 1 => pmu l (ers L (r / fac l)) (r % fac l) k
theorem pmu_lt {n : Nat} : ∀ (d : Nat) (L : Nat → Nat) (r k : Nat), d ≤ 5 → (∀ j, j < d → L j < n) → r < fac d → k < d → pmu d L r k < n
  | 0, _, _, _, _, _, _, hk => absurd hk (by omega)
  | d + 1, L, r, 0, h5, hL, hr, _ => by
    obtain ⟨f1, f2⟩ := fac_le d (by omega)
    refine hL (r / fac d) ?_
    rw [Nat.div_lt_iff_lt_mul f2, Nat.mul_comm]
    exact hr
  | d + 1, L, r, k + 1, h5, hL, hr, hk => by
    obtain ⟨f1, f2⟩ := fac_le d (by omega)
    refine pmu_lt d _ _ k (by omega) (fun j hj => ?_) (Nat.mod_lt _ f2) (by omega)
    unfold ers
    split
    · exact hL j (by omega)
    · exact hL (j + 1) (by omega)
section DFS
variable {σ : Type}
def dfs (f : (Nat → Nat) → σ → σ) : Nat → Nat → (Nat → Nat) → (Nat → Nat) → σ → σ
  | 0, _, R, _, x => f R x
  | d + 1, k, R, L, x => fr (fun j x => dfs f d (k + 1) (fun q => if q = k then L j else R q) (ers L j) x) (d + 1) 0 x
theorem dfs_eq {f : (Nat → Nat) → σ → σ} {l : Nat} (hf : ∀ R R' x, (∀ q, q < l → R q = R' q) → f R x = f R' x) (h5 : l ≤ 5) : ∀ d k R L x, k + d = l → dfs f d k R L x = fr (fun num x => f (fun q => if q < k then R q else pmu d L num (q - k)) x) (fac d) 0 x := by
  intro d
  induction d with
  | zero =>
    intro k R L x hk
    show f R x = f (fun q => if q < k then R q else pmu 0 L 0 (q - k)) x
    exact hf _ _ x (fun q hq => by rw [if_pos (by omega)])
  | succ d ih =>
    intro k R L x hk
    obtain ⟨f1, f2⟩ := fac_le d (by omega)
    have h1 := fr_mul (g := fun num x => f (fun q => if q < k then R q else pmu (d + 1) L num (q - k)) x) (w := fac d) (d + 1) 0 x
    rw [Nat.mul_zero] at h1
    show fr (fun j x => dfs f d (k + 1) (fun q => if q = k then L j else R q) (ers L j) x) (d + 1) 0 x = fr (fun num x => f (fun q => if q < k then R q else pmu (d + 1) L num (q - k)) x) (fac d * (d + 1)) 0 x
    rw [h1]
    refine fr_ext (fun a y ha => ?_) x
    rw [ih (k + 1) _ _ y (by omega)]
    refine fr_ext (fun b z hb => ?_) y
    refine hf _ _ z (fun q hq => ?_)
    have e1 : (fac d * a + b) / fac d = a := by rw [Nat.mul_add_div f2, Nat.div_eq_of_lt hb]; rfl
    have e2 : (fac d * a + b) % fac d = b := by rw [Nat.mul_add_mod, Nat.mod_eq_of_lt hb]
    rcases Nat.lt_trichotomy q k with h | h | h
    · rw [if_pos (by omega), if_neg (by omega), if_pos h]
    · subst h
      rw [if_pos (by omega), if_pos rfl, if_neg (by omega), Nat.sub_self]
      show L a = L ((fac d * a + b) / fac d)
      rw [e1]
    · rw [if_neg (by omega), if_neg (by omega), show q - k = (q - (k + 1)) + 1 by omega]
      show _ = pmu d (ers L ((fac d * a + b) / fac d)) ((fac d * a + b) % fac d) (q - (k + 1))
      rw [e1, e2]
end DFS
/-- L has them in order -/
def Enm (b : Nat → Bool) (n d : Nat) (L : Nat → Nat) : Prop := (∀ j, j < d → L j < n ∧ b (L j) = true) ∧ (∀ i j, i < j → j < d → L i < L j) ∧ ∀ o, o < n → b o = true → ∃ j, j < d ∧ L j = o
theorem Enm_ers {b b' : Nat → Bool} {n d j : Nat} {L : Nat → Nat} (h : Enm b n (d + 1) L) (hj : j < d + 1) (hb : ∀ o, o < n → b' o = (b o && !decide (o = L j))) : Enm b' n d (ers L j) := by
  obtain ⟨h1, h2, h3⟩ := h
  have inj : ∀ i k, i < d + 1 → k < d + 1 → L i = L k → i = k := by
    intro i k hi hk he
    rcases Nat.lt_trichotomy i k with h | h | h
    · have := h2 i k h hk; omega
    · exact h
    · have := h2 k i h hi; omega
  refine ⟨fun k hk => ?_, fun i k hik hk => ?_, fun o ho hbo => ?_⟩
  · have key : ∀ q, q < d + 1 → q ≠ j → L q < n ∧ b' (L q) = true := fun q hq hqj => by
      obtain ⟨a1, a2⟩ := h1 q hq
      refine ⟨a1, ?_⟩
      rw [hb _ a1, a2, decide_eq_false (fun z => hqj (inj q j hq hj z))]
      rfl
    unfold ers
    split
    · exact key k (by omega) (by omega)
    · exact key (k + 1) (by omega) (by omega)
  · unfold ers
    by_cases a : i < j <;> by_cases c : k < j
    · rw [if_pos a, if_pos c]; exact h2 _ _ hik (by omega)
    · rw [if_pos a, if_neg c]; exact h2 _ _ (by omega) (by omega)
    · omega
    · rw [if_neg a, if_neg c]; exact h2 _ _ (by omega) (by omega)
  · rw [hb o ho, Bool.and_eq_true] at hbo
    obtain ⟨q, hq, he⟩ := h3 o ho hbo.1
    have hqj : q ≠ j := fun z => by
      subst z
      rw [he] at hbo
      have := hbo.2
      simp at this
    rcases Nat.lt_or_ge q j with h | h
    · exact ⟨q, by omega, by unfold ers; rw [if_pos h]; exact he⟩
    · exact ⟨q - 1, by omega, by unfold ers; rw [if_neg (by omega), show q - 1 + 1 = q by omega]; exact he⟩
theorem del_nI : ∀ w, w < 64 → ∀ o, o < 6 → nI w &&& (((1 : Int32) <<< (nI o &&& 31)) ^^^ (-1)) = nI (w &&& (63 - 2 ^ o)) ∧ w &&& (63 - 2 ^ o) < 64 ∧ ∀ k, k < 6 → (w &&& (63 - 2 ^ o)).testBit k = (w.testBit k && !decide (k = o)) := by decide +kernel
theorem oth_nI : ∀ n, n ≤ 6 → ∀ o, o < 6 → (((1 : Int32) <<< (nI n &&& 31)) - 1) &&& (((1 : Int32) <<< (nI o &&& 31)) ^^^ (-1)) = nI ((2 ^ n - 1) &&& (63 - 2 ^ o)) ∧ (2 ^ n - 1) &&& (63 - 2 ^ o) < 64 ∧ ∀ k, k < 6 → ((2 ^ n - 1) &&& (63 - 2 ^ o)).testBit k = (decide (k < n) && !decide (k = o)) := by decide +kernel
/-- the others, in order -/
def L0 (p k : Nat) : Nat := if k < p then k else k + 1
theorem Enm_L0 {b : Nat → Bool} {n p : Nat} (hp' : p < n) (hb : ∀ o, o < n → b o = (decide (o < n) && !decide (o = p))) : Enm b n (n - 1) (L0 p) := by
  refine ⟨fun j hj => ?_, fun i j hij hj => ?_, fun o ho hbo => ?_⟩
  · have : L0 p j < n ∧ L0 p j ≠ p := by unfold L0; split <;> omega
    refine ⟨this.1, ?_⟩
    rw [hb _ this.1, decide_eq_true this.1, decide_eq_false this.2]
    rfl
  · unfold L0; split <;> split <;> omega
  · rw [hb o ho, Bool.and_eq_true] at hbo
    have hop : o ≠ p := fun z => by
      have := hbo.2
      rw [decide_eq_true z] at this
      cases this
    rcases Nat.lt_or_ge o p with h | h
    · exact ⟨o, by omega, by unfold L0; rw [if_pos h]⟩
    · exact ⟨o - 1, by omega, by unfold L0; rw [if_neg (by omega)]; omega⟩
abbrev aR : Type := Int32 × (Nat → Int32)
section QR
variable {m : pm_M} {X : pv_X} {P c p : Nat} {π : aP} {s : aS}
/-- how it is behind a round -/
def tR (π : aP) (s : aS) (p : Nat) (R : Nat → Nat) (l : Nat) : aS := fr (fun q t => (aPQ π (aAsk t (R q) p)).1) l 0 s
def smO (n : Nat) (t : aS) : Int32 := fr (fun i v => v + ab (aOut t i)) n 0 0
def rS (π : aP) (s : aS) (p : Nat) (R : Nat → Nat) : Int32 := smO π.1 (tR π s p R (π.1 - 1))
def lfR (π : aP) (s : aS) (p : Nat) (R : Nat → Nat) (x : aR) : aR := if x.1 < 0 ∨ rS π s p R < x.1 then (rS π s p R, fun q => if q < π.1 - 1 then nI (R q) else 0) else x
theorem tR_ext {R R' : Nat → Nat} {l : Nat} (h : ∀ q, q < l → R q = R' q) : tR π s p R l = tR π s p R' l := fr_ext (fun q t hq => by rw [h q hq]) s
theorem okS_tR {R : Nat → Nat} {l : Nat} (hπ : okA π) (ok : okS π.1 c s) (hp' : p < π.1) : ∀ d i t, i + d = l → okS π.1 (c + i) t → okS π.1 (c + l) (fr (fun q t => (aPQ π (aAsk t (R q) p)).1) d i t) := by
  intro d
  induction d with
  | zero => intro i t hi ht; simp only [fr]; rw [show l = i by omega]; exact ht
  | succ d ih => intro i t hi ht; simp only [fr]; exact ih (i + 1) _ (by omega) (okS_aPQ hπ (okS_ask ht hp'))
theorem smO_rng {n : Nat} {t : aS} (ok : okS n c t) (hc : c ≤ 1000000) (hn : n ≤ 6) : 0 ≤ (smO n t).toInt ∧ (smO n t).toInt ≤ 360 * n := by
  have := fr_inv (n := n) (R := fun i (v : Int32) => 0 ≤ v.toInt ∧ v.toInt ≤ 360 * i) (g := fun i v => v + ab (aOut t i)) (fun i v hi hr => by
    obtain ⟨a1, a2⟩ := out_rng ok hc hi
    have ha := ab_toInt (v := aOut t i) (by omega)
    rw [Int32.toInt_add, ha, Int.bmod_eq_of_le (by omega) (by omega)]
    omega) n 0 0 (by omega) ⟨by decide, by decide⟩
  exact this
theorem rS_pos {R : Nat → Nat} (hπ : okA π) (ok : okS π.1 c s) (hc : c ≤ 1000) (hp' : p < π.1) : ¬ rS π s p R < 0 := by
  have h6 := hπ.1
  have := smO_rng (okS_tR (l := π.1 - 1) (R := R) hπ ok hp' (π.1 - 1) 0 s (by omega) ok) (by omega) hπ.1
  intro z
  rw [Int32.lt_iff_toInt_lt, show (0 : Int32).toInt = 0 from rfl] at z
  unfold rS tR at z
  omega
/-! the reference -/
def RS (m m' : pm_M) (k l : Nat) (R : Nat → Nat) (x : aR) : Prop := Q m m' ∧ (∀ q, q < k → gA m' 192 q = nI (R q)) ∧ gI m' 175 27 = x.1 ∧ ∀ q, q < l → gA m' 193 q = x.2 q
theorem Q_27 {v : Int32} : Q m (sI m 175 27 v) := ⟨Same.sI (by decide), fun j _ h => gI_sI_ne (Or.inr h), fun i _ => by rw [gA_sI]⟩
theorem m_rounds0 {l r : Nat} {R : Nat → Nat} {x : aR} (hM : HM m π s c) (hl : l = π.1 - 1) (hp' : p < π.1) (hr : 4 < r) (hR : ∀ q, q < l → R q < π.1) {m1 : pm_M} (hS : RS m m1 l l R x) : ∃ m', f_Md_rounds_0 X r 175 (nI p) (nI l) (nI 0) (hp m1) = some (none, hp m') ∧ RS m m' l l R (lfR π s p R x) := by
  have hn := hM.1.1
  have hc := hM.2.2.2
  obtain ⟨s1, s2, s3, s4⟩ := hS
  obtain ⟨m2, e2, q2, v2⟩ := n_tries (X := X) (hM.q s1)
  obtain ⟨m3, h1, h2, h3, h4⟩ := lpi (n := l) (F := fun (_ : aS) q m => f_Md_rounds_11 X r 175 (nI p) (nI l) (nI 0) (nI q) (hp m)) (R := fun q t m' => SameM 1071 m1 m' ∧ vm m' 1071 = t ∧ okS π.1 (c + q) t) (g := fun q t => (aPQ π (aAsk t (R q) p)).1) (fun t q m4 hq hr4 => by
    obtain ⟨r1, r2, r3⟩ := hr4
    have hRq := hR q hq
    obtain ⟨m5, e5, q5, v5⟩ := n_ask (X := X) (B := 1071) (k := R q) (o := p) r2 rfl (by decide) (by omega) (by omega)
    have R5 : RM m5 π := hM.1.same (L := scrL) ((s1.tr (Q.ofM (r1.tr q5) (by decide))).1) (by decide) (by decide) (by decide)
    obtain ⟨m6, e6, q6, v6⟩ := n_pass (X := X) (B := 1071) R5 v5 (okS_ask r3 hp') rfl (by decide) (by omega)
    refine ⟨m6, ?_, (r1.tr q5).tr q6, v6, okS_aPQ (RM_okA hM.1) (okS_ask r3 hp')⟩
    rw [u_Md_rounds_11, if_neg (nI_ge hq (by omega))]
    simp only [tIs, tVs, bs, if_true, true_or, or_true, i10, if_false, not_false_eq_true, not_true_eq_false, Md_rc, Md_f1, Md_f4, Md_f5, Md_f6, Md_f9, Md_f10, Md_f11, Md_f12, Md_f14, Md_f15, Md_f18, Md_f19, Md_f20, Md_f21, Md_f23, Md_f24, Md_f25, Md_f26, Md_f28]
    rw [ld_192 (by omega), r1.1.A (by decide), s2 q hq]
    simp only [tIs, tVs, bs, if_true, true_or, or_true, i10, if_false, not_false_eq_true, not_true_eq_false, Md_rc, Md_f1, Md_f4, Md_f5, Md_f6, Md_f9, Md_f10, Md_f11, Md_f12, Md_f14, Md_f15, Md_f18, Md_f19, Md_f20, Md_f21, Md_f23, Md_f24, Md_f25, Md_f26, Md_f28]
    rw [if_pos (show m_Md_asks.2.2.2.2.2 [.ref 175, .int 1071, .int (nI (R q)), .int (nI p)] < r from (by show 1 < r; omega)), e5]
    simp only [tIs, tVs, bs, if_true, true_or, or_true, i10, if_false, not_false_eq_true, not_true_eq_false, Md_rc, Md_f1, Md_f4, Md_f5, Md_f6, Md_f9, Md_f10, Md_f11, Md_f12, Md_f14, Md_f15, Md_f18, Md_f19, Md_f20, Md_f21, Md_f23, Md_f24, Md_f25, Md_f26, Md_f28]
    rw [if_pos (show m_Md_passes_1.2.2.2.2.2 [.ref 175, .int 1071] < r from (by show 3 < r; omega)), e6]
    simp only [tIs, tVs, bs, if_true, true_or, or_true, i10, if_false, not_false_eq_true, not_true_eq_false, Md_rc, Md_f1, Md_f4, Md_f5, Md_f6, Md_f9, Md_f10, Md_f11, Md_f12, Md_f14, Md_f15, Md_f18, Md_f19, Md_f20, Md_f21, Md_f23, Md_f24, Md_f25, Md_f26, Md_f28, nI_1]) l 0 s m2 (by omega) ⟨q2, v2, hM.2.2.1⟩
  have ht : fr (fun q t => (aPQ π (aAsk t (R q) p)).1) l 0 s = tR π s p R l := rfl
  rw [ht] at h3 h4
  have Q3 : Q m m3 := s1.tr (Q.ofM h2 (by decide))
  have R3 : RM m3 π := hM.1.same (L := scrL) Q3.1 (by decide) (by decide) (by decide)
  have hsm : f_Md_rounds_51 X r 175 (nI p) (nI l) (nI 0) 0 (nI 0) (hp m3) = f_Md_rounds_51 X r 175 (nI p) (nI l) (nI 0) (rS π s p R) (nI π.1) (hp m3) := by
    obtain ⟨⟨-, g1⟩, -⟩ := lg0 (n := π.1) (F := fun (_ : Unit) (v : Int32) i => f_Md_rounds_51 X r 175 (nI p) (nI l) (nI 0) v (nI i) (hp m3)) (R := fun _ _ => True) (g := fun i v => v + ab (aOut (tR π s p R l) i)) (fun _ v i hi _ => by
      refine ⟨⟨(), ?_⟩, trivial⟩
      rw [u_Md_rounds_51, if_pos (show m_Md_persons.2.2.2.2.2 [.ref 175] < r from (by show 1 < r; omega)), m_n R3]
      simp only [tIs, tVs, bs, if_true, true_or, or_true, i10, if_false, not_false_eq_true, not_true_eq_false, Md_rc, Md_f1, Md_f4, Md_f5, Md_f6, Md_f9, Md_f10, Md_f11, Md_f12, Md_f14, Md_f15, Md_f18, Md_f19, Md_f20, Md_f21, Md_f23, Md_f24, Md_f25, Md_f26, Md_f28]
      rw [if_neg (nI_ge hi (by omega)), if_pos (show m_Md_outOf.2.2.2.2.2 [.ref 175, .int 1071, .int (nI i)] < r from (by show 2 < r; omega)), m_out (B := 1071) R3 h3 h4 rfl (by decide) (by omega) hi]
      simp only [tIs, tVs, bs, if_true, true_or, or_true, i10, if_false, not_false_eq_true, not_true_eq_false, Md_rc, Md_f1, Md_f4, Md_f5, Md_f6, Md_f9, Md_f10, Md_f11, Md_f12, Md_f14, Md_f15, Md_f18, Md_f19, Md_f20, Md_f21, Md_f23, Md_f24, Md_f25, Md_f26, Md_f28]
      rw [if_pos (show m_Md_unsigned.2.2.2.2.2 [.int (aOut (tR π s p R l) i)] < r from (by show 1 < r; omega)), d_unsigned]
      simp only [tIs, tVs, bs, if_true, true_or, or_true, i10, if_false, not_false_eq_true, not_true_eq_false, Md_rc, Md_f1, Md_f4, Md_f5, Md_f6, Md_f9, Md_f10, Md_f11, Md_f12, Md_f14, Md_f15, Md_f18, Md_f19, Md_f20, Md_f21, Md_f23, Md_f24, Md_f25, Md_f26, Md_f28, nI_1]) π.1 0 () 0 (by omega) trivial
    rw [hl] at g1 ⊢
    exact g1
  have k3 : gI m3 175 27 = x.1 := by rw [h2.1.I (by decide), s3]
  have a3 : ∀ q, q < l → gA m3 192 q = nI (R q) := fun q hq => by rw [h2.1.A (by decide)]; exact s2 q hq
  have b3 : ∀ q, q < l → gA m3 193 q = x.2 q := fun q hq => by rw [h2.1.A (by decide)]; exact s4 q hq
  have c0 : f_Md_rounds_104 X r 175 (nI p) (nI l) (nI 0) (rS π s p R) (nI π.1) 0 (hp m3) = some (none, hp (sI m3 175 27 x.1)) := by
    rw [u_Md_rounds_104, u_Md_rounds_109, u_Md_rounds_140, if_pos rfl, if_pos rfl, Md_f27, k3]
    simp only [tIs, tVs, bs, if_true, true_or, or_true, i10, if_false, not_false_eq_true, not_true_eq_false, Md_rc, Md_f1, Md_f4, Md_f5, Md_f6, Md_f9, Md_f10, Md_f11, Md_f12, Md_f14, Md_f15, Md_f18, Md_f19, Md_f20, Md_f21, Md_f23, Md_f24, Md_f25, Md_f26, Md_f28, u_Md_rounds_155, Md_p27]
    split <;> rfl
  have c1 : ∃ m', f_Md_rounds_104 X r 175 (nI p) (nI l) (nI 0) (rS π s p R) (nI π.1) 1 (hp m3) = some (none, hp m') ∧ RS m m' l l R (rS π s p R, fun q => if q < π.1 - 1 then nI (R q) else 0) := by
    rw [u_Md_rounds_104]
    obtain ⟨m4, g1, g2, g3⟩ := lpi (n := l) (F := fun (_ : Unit) q m => f_Md_rounds_109 X r 175 (nI p) (nI l) (nI 0) (rS π s p R) 1 (nI q) (hp m)) (R := fun q _ m' => Same [193] m3 m' ∧ ∀ k, k < q → gA m' 193 k = nI (R k)) (g := fun _ u => u) (fun _ q m4 hq hr4 => by
      refine ⟨_, ?_, hr4.1.tr (Same.sA (c := 193) (f := upd (gA m4 193) q (nI (R q))) (by decide)), fun k hk => ?_⟩
      · rw [u_Md_rounds_109, if_neg (nI_ge hq (by omega)), if_neg (by decide)]
        simp only [tIs, tVs, bs, if_true, true_or, or_true, i10, if_false, not_false_eq_true, not_true_eq_false, Md_rc, Md_f1, Md_f4, Md_f5, Md_f6, Md_f9, Md_f10, Md_f11, Md_f12, Md_f14, Md_f15, Md_f18, Md_f19, Md_f20, Md_f21, Md_f23, Md_f24, Md_f25, Md_f26, Md_f28]
        rw [ld_192 (by omega), hr4.1.A (by decide), a3 q hq]
        simp only [tIs, tVs, bs, if_true, true_or, or_true, i10, if_false, not_false_eq_true, not_true_eq_false, Md_rc, Md_f1, Md_f4, Md_f5, Md_f6, Md_f9, Md_f10, Md_f11, Md_f12, Md_f14, Md_f15, Md_f18, Md_f19, Md_f20, Md_f21, Md_f23, Md_f24, Md_f25, Md_f26, Md_f28]
        rw [st_193 (by omega)]
        simp only [tIs, tVs, bs, if_true, true_or, or_true, i10, if_false, not_false_eq_true, not_true_eq_false, Md_rc, Md_f1, Md_f4, Md_f5, Md_f6, Md_f9, Md_f10, Md_f11, Md_f12, Md_f14, Md_f15, Md_f18, Md_f19, Md_f20, Md_f21, Md_f23, Md_f24, Md_f25, Md_f26, Md_f28, nI_1]
      · rw [gA_sA, if_pos rfl]
        by_cases h : k = q
        · subst h; rw [pk_us]
        · rw [pk_un h]; exact hr4.2 k (by omega)) l 0 () m3 (by omega) ⟨Same.rf, fun k hk => absurd hk (by omega)⟩
    refine ⟨sI m4 175 27 (rS π s p R), ?_, (Q3.tr (Q.of g2 (by decide) (by decide) (by decide))).tr Q_27, fun q hq => ?_, gI_sI_eq, fun q hq => ?_⟩
    · refine Eq.trans (b := f_Md_rounds_109 X r 175 (nI p) (nI l) (nI 0) (rS π s p R) 1 (nI 0) (hp m3)) rfl ?_
      rw [g1, u_Md_rounds_109, if_pos (nI_le (Nat.le_refl _) (by omega)), u_Md_rounds_140, if_neg (by decide), u_Md_rounds_155, Md_p27]
      simp only [tIs, tVs, bs, if_true, true_or, or_true, i10, if_false, not_false_eq_true, not_true_eq_false, Md_rc, Md_f1, Md_f4, Md_f5, Md_f6, Md_f9, Md_f10, Md_f11, Md_f12, Md_f14, Md_f15, Md_f18, Md_f19, Md_f20, Md_f21, Md_f23, Md_f24, Md_f25, Md_f26, Md_f28]
    · rw [gA_sI, g2.A (by decide)]; exact a3 q hq
    · rw [gA_sI, g3 q hq]
      dsimp only
      rw [if_pos (by omega)]
  rw [u_Md_rounds_0, if_neg (fun z => z rfl), if_pos (show m_Md_triesNow.2.2.2.2.2 [.ref 175] < r from (by show 2 < r; omega)), e2]
  simp only [tIs, tVs, bs, if_true, true_or, or_true, i10, if_false, not_false_eq_true, not_true_eq_false, Md_rc, Md_f1, Md_f4, Md_f5, Md_f6, Md_f9, Md_f10, Md_f11, Md_f12, Md_f14, Md_f15, Md_f18, Md_f19, Md_f20, Md_f21, Md_f23, Md_f24, Md_f25, Md_f26, Md_f28]
  have h1' : f_Md_rounds_11 X r 175 (nI p) (nI l) (nI 0) 0 (hp m2) = f_Md_rounds_11 X r 175 (nI p) (nI l) (nI 0) (nI l) (hp m3) := h1
  have hsm' : f_Md_rounds_51 X r 175 (nI p) (nI l) (nI 0) 0 0 (hp m3) = f_Md_rounds_51 X r 175 (nI p) (nI l) (nI 0) (rS π s p R) (nI π.1) (hp m3) := hsm
  rw [h1', u_Md_rounds_11, if_pos (nI_le (Nat.le_refl _) (by omega)), hsm']
  rw [u_Md_rounds_51, if_pos (show m_Md_persons.2.2.2.2.2 [.ref 175] < r from (by show 1 < r; omega)), m_n R3]
  simp only [tIs, tVs, bs, if_true, true_or, or_true, i10, if_false, not_false_eq_true, not_true_eq_false, Md_rc, Md_f1, Md_f4, Md_f5, Md_f6, Md_f9, Md_f10, Md_f11, Md_f12, Md_f14, Md_f15, Md_f18, Md_f19, Md_f20, Md_f21, Md_f23, Md_f24, Md_f25, Md_f26, Md_f28]
  rw [if_pos (nI_le (Nat.le_refl _) (by omega)), Md_f27, k3]
  simp only [tIs, tVs, bs, if_true, true_or, or_true, i10, if_false, not_false_eq_true, not_true_eq_false, Md_rc, Md_f1, Md_f4, Md_f5, Md_f6, Md_f9, Md_f10, Md_f11, Md_f12, Md_f14, Md_f15, Md_f18, Md_f19, Md_f20, Md_f21, Md_f23, Md_f24, Md_f25, Md_f26, Md_f28, u_Md_rounds_99]
  unfold lfR
  by_cases hx : x.1 < 0
  · rw [if_pos hx, if_pos (Or.inl hx)]; exact c1
  · rw [if_neg hx]
    by_cases hy : x.1 ≤ rS π s p R
    · rw [if_pos hy, if_neg (fun z => z.elim hx (fun z => by rw [Int32.lt_iff_toInt_lt] at z; rw [Int32.le_iff_toInt_le] at hy; omega))]
      refine ⟨_, c0, Q3.tr Q_27, fun q hq => ?_, gI_sI_eq, fun q hq => ?_⟩
      · rw [gA_sI]; exact a3 q hq
      · rw [gA_sI]; exact b3 q hq
    · rw [if_neg hy, if_pos (Or.inr (by rw [Int32.lt_iff_toInt_lt]; rw [Int32.le_iff_toInt_le] at hy; omega))]; exact c1
theorem m_rounds {l : Nat} (hM : HM m π s c) (hl : l = π.1 - 1) (hp' : p < π.1) : ∀ (d k w : Nat) (R L : Nat → Nat) (x : aR) (m1 : pm_M), k + d = l → w < 64 → (∀ q, q < 6 → w.testBit q = true → q < π.1) → Enm (fun o => w.testBit o) π.1 d L → (∀ q, q < k → R q < π.1) → RS m m1 k l R x →
    ∃ m', pM X m_Md_rounds [.ref 175, .int (nI p), .int (nI k), .int (nI w)] (hp m1) = some (none, hp m') ∧ RS m m' k l R (dfs (lfR π s p) d k R L x) := by
  have hn := hM.1.1
  intro d
  induction d with
  | zero =>
    intro k w R L x m1 hk hw hb hE hR hS
    have hkl : k = l := by omega
    subst hkl
    have h0 : w = 0 := bit_eq hw (by decide) (fun i hi => by
      cases hwi : w.testBit i with
      | false => simp
      | true => obtain ⟨j, hj, -⟩ := hE.2.2 i (hb i hi hwi) hwi; omega)
    subst h0
    rw [e_Md_rounds]
    exact m_rounds0 hM hl hp' (by show 4 < 4 + (7 - (nI k).toNatClampNeg); rw [nI_clamp (by omega)]; omega) hR hS
  | succ d ih =>
    intro k w R L x m1 hk hw hb hE hR hS
    have hr : (m_Md_rounds.2.2.2.2.2 [.ref 175, .int (nI p), .int (nI k), .int (nI w)]) = 4 + (7 - k) := by
      show 4 + (7 - (nI k).toNatClampNeg) = _
      rw [nI_clamp (by omega)]
    have hw0 : w ≠ 0 := fun z => by
      have := (hE.1 0 (by omega)).2
      rw [z] at this
      simp at this
    have loop : ∀ (e i j : Nat) (x : aR) (m1 : pm_M), i + e = π.1 → j ≤ d + 1 → (∀ j', j' < j → L j' < i) → (∀ j', j ≤ j' → j' < d + 1 → i ≤ L j') → RS m m1 k l R x →
        ∃ m', f_Md_rounds_162 X (4 + (7 - k)) 175 (nI p) (nI k) (nI w) (nI i) (hp m1) = some (none, hp m') ∧ RS m m' k l R (fr (fun j x => dfs (lfR π s p) d (k + 1) (fun q => if q = k then L j else R q) (ers L j) x) (d + 1 - j) j x) := by
      intro e
      induction e with
      | zero =>
        intro i j x m1 hi hj h1 h2 hS
        have hjd : d + 1 - j = 0 := by
          rcases Nat.lt_or_ge j (d + 1) with h | h
          · have := h2 j (Nat.le_refl _) h
            have := (hE.1 j h).1
            omega
          · omega
        refine ⟨m1, ?_, by rw [hjd]; exact hS⟩
        rw [u_Md_rounds_162, if_pos (show m_Md_persons.2.2.2.2.2 [.ref 175] < 4 + (7 - k) from (by show 1 < 4 + (7 - k); omega)), m_n (hM.q hS.1).1]
        simp only [tIs, tVs, bs, if_true, true_or, or_true, i10, if_false, not_false_eq_true, not_true_eq_false, Md_rc, Md_f1, Md_f4, Md_f5, Md_f6, Md_f9, Md_f10, Md_f11, Md_f12, Md_f14, Md_f15, Md_f18, Md_f19, Md_f20, Md_f21, Md_f23, Md_f24, Md_f25, Md_f26, Md_f28]
        rw [if_pos (nI_le (by omega) (by omega))]
      | succ e ihe =>
        intro i j x m1 hi hj h1 h2 hS
        have hi6 : i < 6 := by omega
        rw [u_Md_rounds_162, if_pos (show m_Md_persons.2.2.2.2.2 [.ref 175] < 4 + (7 - k) from (by show 1 < 4 + (7 - k); omega)), m_n (hM.q hS.1).1]
        simp only [tIs, tVs, bs, if_true, true_or, or_true, i10, if_false, not_false_eq_true, not_true_eq_false, Md_rc, Md_f1, Md_f4, Md_f5, Md_f6, Md_f9, Md_f10, Md_f11, Md_f12, Md_f14, Md_f15, Md_f18, Md_f19, Md_f20, Md_f21, Md_f23, Md_f24, Md_f25, Md_f26, Md_f28]
        rw [if_neg (nI_ge (by omega) (by omega))]
        simp only [has1_nI w hw i hi6, u_Md_rounds_205, nI_1]
        by_cases hbi : w.testBit i = true
        · obtain ⟨j', hj', he⟩ := hE.2.2 i (by omega) hbi
          have hjj : j' = j := by
            rcases Nat.lt_trichotomy j' j with h | h | h
            · have := h1 j' h; omega
            · exact h
            · have a1 := hE.2.1 j j' h hj'
              have a2 := h2 j (Nat.le_refl _) (by omega)
              omega
          subst hjj
          rw [if_neg (fun z => z hbi)]
          obtain ⟨d1, d2, d3⟩ := del_nI w hw i hi6
          have st := st_192 (m := m1) (k := k) (x := nI i) (by omega)
          have sm : Q m1 (sA m1 192 (upd (gA m1 192) k (nI i))) := Q.of (L := [192]) (Same.sA (by decide)) (by decide) (by decide) (by decide)
          have ga : gA (sA m1 192 (upd (gA m1 192) k (nI i))) 192 = upd (gA m1 192) k (nI i) := by rw [gA_sA, if_pos rfl]
          have gb : gA (sA m1 192 (upd (gA m1 192) k (nI i))) 193 = gA m1 193 := by rw [gA_sA, if_neg (by decide)]
          have gc : gI (sA m1 192 (upd (gA m1 192) k (nI i))) 175 27 = gI m1 175 27 := gI_sA
          generalize sA m1 192 (upd (gA m1 192) k (nI i)) = m2 at st sm ga gb gc
          obtain ⟨m3, e3, r3⟩ := ih (k + 1) (w &&& (63 - 2 ^ i)) (fun q => if q = k then L j' else R q) (ers L j') x m2 (by omega) d2 (fun q hq hb' => by
              rw [d3 q hq, Bool.and_eq_true] at hb'
              exact hb q hq hb'.1) (Enm_ers hE hj' (fun o ho => by rw [he]; exact d3 o (by omega))) (fun q hq => by
              by_cases h : q = k
              · rw [if_pos h, he]; omega
              · rw [if_neg h]; exact hR q (by omega)) ⟨hS.1.tr sm, fun q hq => by
                rw [ga]
                dsimp only
                by_cases h : q = k
                · rw [if_pos h, h, pk_us, he]
                · rw [if_neg h, pk_un h]; exact hS.2.1 q (by omega), by rw [gc]; exact hS.2.2.1, fun q hq => by rw [gb]; exact hS.2.2.2 q hq⟩
          have r3' : RS m m3 k l R (dfs (lfR π s p) d (k + 1) (fun q => if q = k then L j' else R q) (ers L j') x) := ⟨r3.1, fun q hq => by
            have := r3.2.1 q (by omega)
            dsimp only at this
            rw [if_neg (by omega)] at this
            exact this, r3.2.2⟩
          obtain ⟨m4, e4, r4⟩ := ihe (i + 1) (j' + 1) _ m3 (by omega) (by omega) (fun q hq => by
              by_cases h : q = j'
              · subst h; omega
              · have := h1 q (by omega); omega) (fun q hq hq' => by have := hE.2.1 j' q (by omega) hq'; omega) r3'
          refine ⟨m4, ?_, ?_⟩
          · rw [st]
            simp only [tIs, tVs, bs, if_true, true_or, or_true, i10, if_false, not_false_eq_true, not_true_eq_false, Md_rc, Md_f1, Md_f4, Md_f5, Md_f6, Md_f9, Md_f10, Md_f11, Md_f12, Md_f14, Md_f15, Md_f18, Md_f19, Md_f20, Md_f21, Md_f23, Md_f24, Md_f25, Md_f26, Md_f28]
            rw [d1, if_pos (show m_Md_rounds.2.2.2.2.2 [.ref 175, .int (nI p), .int (nI (k + 1)), .int (nI (w &&& (63 - 2 ^ i)))] < 4 + (7 - k) from (by show 4 + (7 - (nI (k + 1)).toNatClampNeg) < 4 + (7 - k); rw [nI_clamp (by omega)]; omega)), e3]
            simp only [tIs, tVs, bs, if_true, true_or, or_true, i10, if_false, not_false_eq_true, not_true_eq_false, Md_rc, Md_f1, Md_f4, Md_f5, Md_f6, Md_f9, Md_f10, Md_f11, Md_f12, Md_f14, Md_f15, Md_f18, Md_f19, Md_f20, Md_f21, Md_f23, Md_f24, Md_f25, Md_f26, Md_f28]
            exact e4
          · rw [show d + 1 - j' = (d + 1 - (j' + 1)) + 1 by omega]
            exact r4
        · rw [if_pos hbi]
          exact ihe (i + 1) j x m1 (by omega) hj (fun q hq => by have := h1 q hq; omega) (fun q hq hq' => by
            have a := h2 q hq hq'
            rcases Nat.lt_or_ge i (L q) with h | h
            · omega
            · have : L q = i := by omega
              have hb' := (hE.1 q hq').2
              rw [this] at hb'
              exact absurd hb' hbi) hS
    rw [e_Md_rounds, hr, u_Md_rounds_0, if_pos (fun z => hw0 (by
      have := (nI_eq (a := w) (b := 0) (by omega) (by decide)).mp z
      exact this))]
    exact loop π.1 0 0 x m1 (by omega) (by omega) (fun j hj => absurd hj (by omega)) (fun j _ _ => Nat.zero_le _) hS
/-! the class -/
theorem w_rowsOf {a : Nat} {h : pv_H} (ha : a ≤ 5) : pM X m_Wp_rowsOf [.int (nI a)] h = some (some (.int (nI (fac a))), h) := by
  rw [e_Wp_rowsOf, u_Wp_rowsOf_0]
  have : a = 0 ∨ a = 1 ∨ a = 2 ∨ a = 3 ∨ a = 4 ∨ a = 5 := by omega
  rcases this with rfl | rfl | rfl | rfl | rfl | rfl
  · rw [u_Wp_rowsOf_4, if_pos (by decide)]; rfl
  · rw [u_Wp_rowsOf_4, if_pos (by decide)]; rfl
  · rw [u_Wp_rowsOf_4, if_neg (by decide), u_Wp_rowsOf_4, if_pos (by decide)]; rfl
  · rw [u_Wp_rowsOf_4, if_neg (by decide), u_Wp_rowsOf_4, if_neg (by decide), u_Wp_rowsOf_4, if_pos (by decide)]; rfl
  · rw [u_Wp_rowsOf_4, if_neg (by decide), u_Wp_rowsOf_4, if_neg (by decide), u_Wp_rowsOf_4, if_neg (by decide), u_Wp_rowsOf_4, if_pos (by decide)]; rfl
  · rw [u_Wp_rowsOf_4, if_neg (by decide), u_Wp_rowsOf_4, if_neg (by decide), u_Wp_rowsOf_4, if_neg (by decide), u_Wp_rowsOf_4, if_neg (by decide), u_Wp_rowsOf_4, if_pos (by decide)]; rfl
theorem T_121 : pm_T[121]? = some (.inl (1, 6)) := rfl
theorem w_pull29 {i j : Nat} {v2 v3 : Int32} (hj : i + j < 6) : ∀ (e : Nat) (m1 : pm_M), e ≤ j → ∃ m', f_Wp_pullForward_29 X 0 (nI i) v2 v3 (nI (i + e)) (hp m1) = some (none, hp m') ∧ Same [121] m1 m' ∧ ∀ k, gA m' 121 k = if k = i then v3 else if i < k ∧ k ≤ i + e then gA m1 121 (k - 1) else gA m1 121 k := by
  intro e
  induction e with
  | zero =>
    intro m1 he
    refine ⟨sA m1 121 (upd (gA m1 121) i v3), ?_, Same.sA (by decide), fun k => ?_⟩
    · rw [u_Wp_pullForward_29, if_pos (nI_le (by omega) (by omega))]
      simp only [tIs, tVs, bs, if_true, true_or, or_true, i10, if_false, not_false_eq_true, not_true_eq_false, Wp_rc, Wp_f5, Wp_f6, Wp_f7, Wp_f8, Wp_f9, Wp_f10, Wp_f11, Wp_f12, Wp_f13, Wp_f14]
      rw [ar_st T_121 (by omega) (by decide)]
      simp only [tIs, tVs, bs, if_true, true_or, or_true, i10, if_false, not_false_eq_true, not_true_eq_false, Wp_rc, Wp_f5, Wp_f6, Wp_f7, Wp_f8, Wp_f9, Wp_f10, Wp_f11, Wp_f12, Wp_f13, Wp_f14]
    · rw [gA_sA, if_pos rfl]
      by_cases h : k = i
      · rw [if_pos h, h, pk_us]
      · rw [if_neg h, pk_un h, if_neg (by omega)]
  | succ e ih =>
    intro m1 he
    obtain ⟨m', h1, h2, h3⟩ := ih (sA m1 121 (upd (gA m1 121) (i + e + 1) (gA m1 121 (i + e)))) (by omega)
    refine ⟨m', ?_, (Same.sA (by decide)).tr h2, fun k => ?_⟩
    · rw [u_Wp_pullForward_29, if_neg (nI_ge (by omega) (by omega))]
      simp only [tIs, tVs, bs, if_true, true_or, or_true, i10, if_false, not_false_eq_true, not_true_eq_false, Wp_rc, Wp_f5, Wp_f6, Wp_f7, Wp_f8, Wp_f9, Wp_f10, Wp_f11, Wp_f12, Wp_f13, Wp_f14]
      rw [show i + (e + 1) = i + e + 1 from rfl, nI_pred, ar_ld T_121 (by omega) (by decide)]
      simp only [tIs, tVs, bs, if_true, true_or, or_true, i10, if_false, not_false_eq_true, not_true_eq_false, Wp_rc, Wp_f5, Wp_f6, Wp_f7, Wp_f8, Wp_f9, Wp_f10, Wp_f11, Wp_f12, Wp_f13, Wp_f14]
      rw [ar_st T_121 (by omega) (by decide)]
      simp only [tIs, tVs, bs, if_true, true_or, or_true, i10, if_false, not_false_eq_true, not_true_eq_false, Wp_rc, Wp_f5, Wp_f6, Wp_f7, Wp_f8, Wp_f9, Wp_f10, Wp_f11, Wp_f12, Wp_f13, Wp_f14]
      rw [pk_m1]
      exact h1
    · rw [h3 k, gA_sA, if_pos rfl]
      by_cases hk : k = i
      · rw [if_pos hk, if_pos hk]
      · rw [if_neg hk, if_neg hk]
        by_cases hk2 : i < k ∧ k ≤ i + e
        · rw [if_pos hk2, if_pos ⟨hk2.1, by omega⟩, pk_un (by omega)]
        · rw [if_neg hk2]
          by_cases hk3 : k = i + e + 1
          · rw [if_pos ⟨by omega, by omega⟩, hk3, pk_us, show i + e + 1 - 1 = i + e by omega]
          · rw [if_neg (by omega), pk_un hk3]
theorem w_pull {i j : Nat} (hj : i + j < 6) : ∃ m', pM X m_Wp_pullForward [.ref 0, .int (nI i), .int (nI (i + j))] (hp m) = some (none, hp m') ∧ Same [121] m m' ∧ ∀ k, gA m' 121 k = if k = i then gA m 121 (i + j) else if i < k ∧ k ≤ i + j then gA m 121 (k - 1) else gA m 121 k := by
  obtain ⟨m', h1, h2, h3⟩ := w_pull29 (X := X) (v2 := nI (i + j)) (v3 := gA m 121 (i + j)) hj j m (Nat.le_refl _)
  refine ⟨m', ?_, h2, h3⟩
  rw [e_Wp_pullForward, u_Wp_pullForward_0, if_neg (nI_pos (by omega)), if_neg (nI_nlt (by omega) (by omega))]
  simp only [tIs, tVs, bs, if_true, true_or, or_true, i10, if_false, not_false_eq_true, not_true_eq_false, Wp_rc, Wp_f5, Wp_f6, Wp_f7, Wp_f8, Wp_f9, Wp_f10, Wp_f11, Wp_f12, Wp_f13, Wp_f14]
  rw [hp_len (by decide) T_121]
  simp only [tIs, tVs, bs, if_true, true_or, or_true, i10, if_false, not_false_eq_true, not_true_eq_false, Wp_rc, Wp_f5, Wp_f6, Wp_f7, Wp_f8, Wp_f9, Wp_f10, Wp_f11, Wp_f12, Wp_f13, Wp_f14]
  rw [if_pos (show nI (i + j) < Int32.ofNat 6 from nI_lt hj (by decide)), ar_ld T_121 hj (by decide)]
  simp only [tIs, tVs, bs, if_true, true_or, or_true, i10, if_false, not_false_eq_true, not_true_eq_false, Wp_rc, Wp_f5, Wp_f6, Wp_f7, Wp_f8, Wp_f9, Wp_f10, Wp_f11, Wp_f12, Wp_f13, Wp_f14]
  exact h1
theorem w_lay55 {l : Nat} {vp vn : Int32} (hl : l ≤ 5) : ∀ (d i r : Nat) (L : Nat → Nat) (m1 : pm_M) (o : Option Value), i + d = l → r < fac d → (∀ k, k < d → gA m1 121 (i + k) = nI (L k)) → ∃ m', f_Wp_layRow_55 X 0 vp vn (nI l) (nI r) (nI i) o (hp m1) = some (some (.int (nI l)), hp m') ∧ Same [121] m1 m' ∧ (∀ k, k < i → gA m' 121 k = gA m1 121 k) ∧ ∀ k, k < d → gA m' 121 (i + k) = nI (pmu d L r k) := by
  intro d
  induction d with
  | zero =>
    intro i r L m1 o hi hr hL
    refine ⟨m1, ?_, Same.rf, fun _ _ => rfl, fun k hk => absurd hk (by omega)⟩
    rw [u_Wp_layRow_55, if_pos (nI_le (by omega) (by omega))]
  | succ d ih =>
    intro i r L m1 o hi hr hL
    obtain ⟨f1, f2⟩ := fac_le d (by omega)
    obtain ⟨f3, -⟩ := fac_le (d + 1) (by omega)
    have hj : r / fac d < d + 1 := by
      rw [Nat.div_lt_iff_lt_mul f2]
      rw [Nat.mul_comm]
      exact hr
    generalize hjj : r / fac d = j at hj
    obtain ⟨m2, e2, q2, g2⟩ := w_pull (X := X) (m := m1) (i := i) (j := j) (by omega)
    obtain ⟨m', e', q', g', p'⟩ := ih (i + 1) (r % fac d) (ers L j) m2 (some (.int (nI (fac d)))) (by omega) (Nat.mod_lt _ f2) (fun k hk => by
      rw [g2, if_neg (by omega)]
      unfold ers
      by_cases h : k < j
      · rw [if_pos ⟨by omega, by omega⟩, if_pos h, show i + 1 + k - 1 = i + k by omega]
        exact hL k (by omega)
      · rw [if_neg (by omega), if_neg h, show i + 1 + k = i + (k + 1) by omega]
        exact hL (k + 1) (by omega))
    refine ⟨m', ?_, q2.tr q', fun k hk => ?_, fun k hk => ?_⟩
    · rw [u_Wp_layRow_55, if_neg (nI_ge (by omega) (by omega)), show (nI l - nI i - 1 : Int32) = nI d from by rw [pk_sub (by omega), show l - i = d + 1 by omega, nI_pred], w_rowsOf (by omega)]
      simp only [tIs, tVs, bs, if_true, true_or, or_true, i10, if_false, not_false_eq_true, not_true_eq_false, Wp_rc, Wp_f5, Wp_f6, Wp_f7, Wp_f8, Wp_f9, Wp_f10, Wp_f11, Wp_f12, Wp_f13, Wp_f14]
      have fz : ¬ nI (fac d) = 0 := nI_ne0 f2 (by omega)
      rw [if_neg fz, pk_rem (by omega) f2 (by omega), pk_div (by omega) f2 (by omega), hjj, nI_add, e2]
      simp only [tIs, tVs, bs, if_true, true_or, or_true, i10, if_false, not_false_eq_true, not_true_eq_false, Wp_rc, Wp_f5, Wp_f6, Wp_f7, Wp_f8, Wp_f9, Wp_f10, Wp_f11, Wp_f12, Wp_f13, Wp_f14, nI_1, fz]
      exact e'
    · rw [g' k (by omega), g2, if_neg (by omega), if_neg (by omega)]
    · cases k with
      | zero =>
        rw [g' (i + 0) (by omega), g2, if_pos (by omega)]
        show _ = nI (L (r / fac d))
        rw [hjj]
        exact hL j (by omega)
      | succ k =>
        rw [show i + (k + 1) = i + 1 + k by omega, p' k (by omega)]
        show _ = nI (pmu d (ers L (r / fac d)) (r % fac d) k)
        rw [hjj]
theorem w_layRow {r : Nat} (hC : HC m P π s) (hp' : p < π.1) (hr : r < fac (π.1 - 1)) : ∃ m', pM X m_Wp_layRow [.ref 0, .int (nI p), .int (nI r)] (hp m) = some (some (.int (nI (π.1 - 1))), hp m') ∧ Same [121] m m' ∧ ∀ k, k < π.1 - 1 → gA m' 121 k = nI (pmu (π.1 - 1) (L0 p) r k) := by
  have hn := hC.n6
  rw [e_Wp_layRow, u_Wp_layRow_0]
  obtain ⟨m1, h1, h2, h3⟩ := lpi (n := π.1) (F := fun (_ : Unit) i m => f_Wp_layRow_5 X 0 (nI p) (nI r) (nI (if i ≤ p then i else i - 1)) (nI i) (hp m)) (R := fun i _ m' => Same [121] m m' ∧ ∀ k, k < (if i ≤ p then i else i - 1) → gA m' 121 k = nI (L0 p k)) (g := fun _ u => u) (fun _ i m2 hi hr2 => by
    obtain ⟨r1, r2⟩ := hr2
    have hC2 := hC.q (Q.of r1 (by decide) (by decide) (by decide))
    have hlt : (if i ≤ p then i else i - 1) < 6 := by split <;> omega
    rw [u_Wp_layRow_5]
    simp only [tIs, tVs, bs, if_true, true_or, or_true, i10, if_false, not_false_eq_true, not_true_eq_false, Wp_rc, Wp_f5, Wp_f6, Wp_f7, Wp_f8, Wp_f9, Wp_f10, Wp_f11, Wp_f12, Wp_f13, Wp_f14, hC2.f1, hC2.sz]
    rw [if_neg (nI_ge hi (by omega)), hp_len (by decide) T_121]
    simp only [tIs, tVs, bs, if_true, true_or, or_true, i10, if_false, not_false_eq_true, not_true_eq_false]
    rw [if_neg (show ¬ Int32.ofNat 6 ≤ nI (if i ≤ p then i else i - 1) from nI_ge hlt (by decide))]
    simp only [nI_eq (show i < 2 ^ 31 by omega) (show p < 2 ^ 31 by omega)]
    by_cases hip : i = p
    · refine ⟨m2, ?_, r1, fun k hk => ?_⟩
      · rw [if_pos hip, u_Wp_layRow_43, nI_1, if_pos (show i ≤ p by omega), if_neg (show ¬ i + 1 ≤ p by omega)]
        rfl
      · rw [if_neg (by omega)] at hk
        exact r2 k (by rw [if_pos (by omega)]; omega)
    · refine ⟨sA m2 121 (upd (gA m2 121) (if i ≤ p then i else i - 1) (nI i)), ?_, r1.tr (Same.sA (by decide)), fun k hk => ?_⟩
      · rw [if_neg hip, ar_st T_121 hlt (by decide)]
        simp only [tIs, tVs, bs, if_true, true_or, or_true, i10, if_false, not_false_eq_true, not_true_eq_false, Wp_rc, Wp_f5, Wp_f6, Wp_f7, Wp_f8, Wp_f9, Wp_f10, Wp_f11, Wp_f12, Wp_f13, Wp_f14, u_Wp_layRow_43, nI_1]
        have : (if i ≤ p then i else i - 1) + 1 = (if i + 1 ≤ p then i + 1 else i + 1 - 1) := by
          by_cases h : i ≤ p
          · rw [if_pos h, if_pos (by omega)]
          · rw [if_neg h, if_neg (by omega)]; omega
        rw [this]
      · rw [gA_sA, if_pos rfl]
        by_cases hk2 : k = (if i ≤ p then i else i - 1)
        · rw [hk2, pk_us]
          unfold L0
          by_cases h : i ≤ p
          · rw [if_pos h, if_pos (by omega)]
          · rw [if_neg h, if_neg (by omega), show i - 1 + 1 = i by omega]
        · rw [pk_un hk2]
          refine r2 k ?_
          by_cases h : i ≤ p
          · rw [if_pos h] at hk2 ⊢; rw [if_pos (by omega)] at hk; omega
          · rw [if_neg h] at hk2 ⊢; rw [if_neg (by omega)] at hk; omega) π.1 0 () m (by omega) ⟨Same.rf, fun k hk => by rw [if_pos (by omega)] at hk; omega⟩
  rw [if_neg (show ¬ π.1 ≤ p by omega)] at h1 h3
  obtain ⟨m', e', q', -, p'⟩ := w_lay55 (X := X) (l := π.1 - 1) (vp := nI p) (vn := nI r) (by omega) (π.1 - 1) 0 r (L0 p) m1 none (by omega) hr (fun k hk => by rw [Nat.zero_add]; exact h3 k hk)
  have hC1 := hC.q (Q.of h2 (by decide) (by decide) (by decide))
  refine ⟨m', ?_, h2.tr q', fun k hk => by have := p' k hk; rw [Nat.zero_add] at this; exact this⟩
  refine Eq.trans (b := f_Wp_layRow_5 X 0 (nI p) (nI r) (nI (if 0 ≤ p then 0 else 0 - 1)) (nI 0) (hp m)) (by rw [if_pos (Nat.zero_le p)]; rfl) ?_
  rw [h1, u_Wp_layRow_5]
  simp only [tIs, tVs, bs, if_true, true_or, or_true, i10, if_false, not_false_eq_true, not_true_eq_false, Wp_rc, Wp_f5, Wp_f6, Wp_f7, Wp_f8, Wp_f9, Wp_f10, Wp_f11, Wp_f12, Wp_f13, Wp_f14, hC1.f1, hC1.sz]
  rw [if_pos (nI_le (Nat.le_refl _) (by omega)), u_Wp_layRow_49]
  exact e'
def RLs : List Nat := [8, 20, 39, 40, 41, 42, 121]
theorem RLs_Q {m' : pm_M} (h : Same RLs m m') : Q m m' := Q.of h (by decide) (by decide) (by decide)
theorem w_roundSum {r : Nat} (hC : HC m P π s) (hp' : p < π.1) (hr : r < fac (π.1 - 1)) : ∃ m', pM X m_Wp_roundSum [.ref 0, .int (nI p), .int (nI r)] (hp m) = some (some (.int (rS π s p (pmu (π.1 - 1) (L0 p) r))), hp m') ∧ Same RLs m m' := by
  have hn := hC.n6
  obtain ⟨m1, e1, q1, g1⟩ := w_layRow (X := X) hC hp' hr
  have q1' : Same RLs m m1 := q1.mono (by decide)
  obtain ⟨m2, e2, q2, v2⟩ := t_copy (X := X) (hC.q (RLs_Q q1'))
  have hrow : ∀ q, q < π.1 - 1 → pmu (π.1 - 1) (L0 p) r q < 6 := fun q hq => pmu_lt (π.1 - 1) (L0 p) r q (by omega) (fun j hj => by unfold L0; split <;> omega) hr hq
  obtain ⟨m3, h1, h2, h3⟩ := lpi (n := π.1 - 1) (F := fun (_ : aS) q m => f_Wp_roundSum_21 X 0 (nI p) (nI r) (nI (π.1 - 1)) (nI q) (hp m)) (R := fun q t m' => Same TL m1 m' ∧ vw m' 39 = t) (g := fun q t => (aPQ π (aAsk t (pmu (π.1 - 1) (L0 p) r q) p)).1) (fun t q m4 hq hr4 => by
    obtain ⟨r1, r2⟩ := hr4
    obtain ⟨m5, e5, q5, v5⟩ := t_take (X := X) (k := pmu (π.1 - 1) (L0 p) r q) (o := p) r2 (hrow q hq) (by omega)
    have hC5 : HC m5 P π s := hC.q (RLs_Q (q1'.tr ((r1.tr q5).mono (by decide))))
    obtain ⟨m6, e6, q6, v6⟩ := t_pass (X := X) hC5 v5
    refine ⟨m6, ?_, (r1.tr q5).tr q6, v6⟩
    rw [u_Wp_roundSum_21, if_neg (nI_ge hq (by omega))]
    simp only [tIs, tVs, bs, if_true, true_or, or_true, i10, if_false, not_false_eq_true, not_true_eq_false, Wp_rc, Wp_f5, Wp_f6, Wp_f7, Wp_f8, Wp_f9, Wp_f10, Wp_f11, Wp_f12, Wp_f13, Wp_f14]
    rw [hp_len (by decide) T_121]
    simp only [tIs, tVs, bs, if_true, true_or, or_true, i10, if_false, not_false_eq_true, not_true_eq_false, Wp_rc, Wp_f5, Wp_f6, Wp_f7, Wp_f8, Wp_f9, Wp_f10, Wp_f11, Wp_f12, Wp_f13, Wp_f14]
    rw [if_neg (show ¬ Int32.ofNat 6 ≤ nI q from nI_ge (show q < 6 by omega) (by decide))]
    rw [ar_ld T_121 (by omega) (by decide), r1.A (by decide), g1 q hq]
    simp only [tIs, tVs, bs, if_true, true_or, or_true, i10, if_false, not_false_eq_true, not_true_eq_false, Wp_rc, Wp_f5, Wp_f6, Wp_f7, Wp_f8, Wp_f9, Wp_f10, Wp_f11, Wp_f12, Wp_f13, Wp_f14, St_rc isSt_39, e5, hC5.f1, hC5.rc, e6, nI_1]) (π.1 - 1) 0 s m2 (by omega) ⟨q2, v2⟩
  have q3 : Same RLs m m3 := q1'.tr (h2.mono (by decide))
  have hC3 := hC.q (RLs_Q q3)
  refine ⟨m3, ?_, q3⟩
  rw [e_Wp_roundSum, u_Wp_roundSum_0]
  simp only [tIs, tVs, bs, if_true, true_or, or_true, i10, if_false, not_false_eq_true, not_true_eq_false, Wp_rc, Wp_f5, Wp_f6, Wp_f7, Wp_f8, Wp_f9, Wp_f10, Wp_f11, Wp_f12, Wp_f13, Wp_f14, e1, St_rc isSt_39, e2]
  refine Eq.trans (b := f_Wp_roundSum_21 X 0 (nI p) (nI r) (nI (π.1 - 1)) (nI 0) (hp m2)) rfl ?_
  rw [h1, u_Wp_roundSum_21, if_pos (nI_le (Nat.le_refl _) (by omega)), u_Wp_roundSum_70]
  obtain ⟨⟨-, h5⟩, -⟩ := lg0 (n := π.1) (F := fun (_ : Unit) (v : Int32) i => f_Wp_roundSum_76 X 0 (nI p) (nI r) (nI (π.1 - 1)) v (nI i) (hp m3)) (R := fun _ _ => True) (g := fun i v => v + ab (aOut (tR π s p (pmu (π.1 - 1) (L0 p) r) (π.1 - 1)) i)) (fun _ v i hi _ => by
    refine ⟨⟨(), ?_⟩, trivial⟩
    rw [u_Wp_roundSum_76]
    simp only [tIs, tVs, bs, if_true, true_or, or_true, i10, if_false, not_false_eq_true, not_true_eq_false, Wp_rc, Wp_f5, Wp_f6, Wp_f7, Wp_f8, Wp_f9, Wp_f10, Wp_f11, Wp_f12, Wp_f13, Wp_f14, hC3.f1, hC3.sz]
    rw [if_neg (nI_ge hi (by omega))]
    simp only [tIs, tVs, bs, if_true, true_or, or_true, i10, if_false, not_false_eq_true, not_true_eq_false, Wp_rc, Wp_f5, Wp_f6, Wp_f7, Wp_f8, Wp_f9, Wp_f10, Wp_f11, Wp_f12, Wp_f13, Wp_f14, vw_far (X := X) isSt_39 (show i < 6 by omega) h3, nI_1]
    rfl) π.1 0 () 0 (by omega) trivial
  refine Eq.trans (b := f_Wp_roundSum_76 X 0 (nI p) (nI r) (nI (π.1 - 1)) 0 (nI 0) (hp m3)) rfl ?_
  rw [show f_Wp_roundSum_76 X 0 (nI p) (nI r) (nI (π.1 - 1)) 0 (nI 0) (hp m3) = _ from h5, u_Wp_roundSum_76]
  simp only [tIs, tVs, bs, if_true, true_or, or_true, i10, if_false, not_false_eq_true, not_true_eq_false, Wp_rc, Wp_f5, Wp_f6, Wp_f7, Wp_f8, Wp_f9, Wp_f10, Wp_f11, Wp_f12, Wp_f13, Wp_f14, hC3.f1, hC3.sz]
  rw [if_pos (nI_le (Nat.le_refl _) (by omega))]
  rfl
def gRc (π : aP) (s : aS) (p : Nat) (r : Nat) (x : Nat × Int32) : Nat × Int32 := if rS π s p (pmu (π.1 - 1) (L0 p) r) < x.2 then (r, rS π s p (pmu (π.1 - 1) (L0 p) r)) else x
def aRc (π : aP) (s : aS) (p : Nat) : Nat × Int32 := fr (gRc π s p) (fac (π.1 - 1) - 1) 1 (0, rS π s p (pmu (π.1 - 1) (L0 p) 0))
theorem lfR_ext (R R' : Nat → Nat) (x : aR) (h : ∀ q, q < π.1 - 1 → R q = R' q) : lfR π s p R x = lfR π s p R' x := by
  have e : rS π s p R = rS π s p R' := by unfold rS; rw [tR_ext h]
  unfold lfR
  rw [e, show (fun q => if q < π.1 - 1 then nI (R q) else 0) = (fun q => if q < π.1 - 1 then nI (R' q) else 0) from funext (fun q => by by_cases hq : q < π.1 - 1 <;> simp only [hq, if_true, if_false]; rw [h q hq])]
theorem round_eq (hπ : okA π) (ok : okS π.1 c s) (hc : c ≤ 1000) (hp' : p < π.1) (R : Nat → Nat) (b : Nat → Int32) : dfs (lfR π s p) (π.1 - 1) 0 R (L0 p) (-1, b) = ((aRc π s p).2, fun q => if q < π.1 - 1 then nI (pmu (π.1 - 1) (L0 p) (aRc π s p).1 q) else 0) ∧ (aRc π s p).1 < fac (π.1 - 1) := by
  have h6 := hπ.1
  obtain ⟨f1, f2⟩ := fac_le (π.1 - 1) (by omega)
  rw [dfs_eq (l := π.1 - 1) (fun R R' x h => lfR_ext R R' x h) (by omega) (π.1 - 1) 0 R (L0 p) (-1, b) (by omega)]
  have hg : ∀ (n : Nat) (x : aR), fr (fun num x => lfR π s p (fun q => if q < 0 then R q else pmu (π.1 - 1) (L0 p) num (q - 0)) x) n 0 x = fr (fun num x => lfR π s p (pmu (π.1 - 1) (L0 p) num) x) n 0 x := fun n x => fr_ext (fun num x _ => lfR_ext _ _ x (fun q _ => by rw [if_neg (by omega)]; rfl)) x
  rw [hg]
  have e0 : lfR π s p (pmu (π.1 - 1) (L0 p) 0) (-1, b) = (rS π s p (pmu (π.1 - 1) (L0 p) 0), fun q => if q < π.1 - 1 then nI (pmu (π.1 - 1) (L0 p) 0 q) else 0) := by
    unfold lfR
    rw [if_pos (Or.inl (show (-1 : Int32) < 0 by decide))]
  have e1 : fr (fun num x => lfR π s p (pmu (π.1 - 1) (L0 p) num) x) (fac (π.1 - 1)) 0 (-1, b) = fr (fun num x => lfR π s p (pmu (π.1 - 1) (L0 p) num) x) (fac (π.1 - 1) - 1) 1 (rS π s p (pmu (π.1 - 1) (L0 p) 0), fun q => if q < π.1 - 1 then nI (pmu (π.1 - 1) (L0 p) 0 q) else 0) := by
    rw [show fac (π.1 - 1) = (fac (π.1 - 1) - 1) + 1 by omega]
    simp only [fr, e0, Nat.add_sub_cancel, Nat.zero_add]
  rw [e1]
  have h := fr_rel (n := fac (π.1 - 1)) (R := fun i (a : aR) (x : Nat × Int32) => a = (x.2, fun q => if q < π.1 - 1 then nI (pmu (π.1 - 1) (L0 p) x.1 q) else 0) ∧ ¬ x.2 < 0 ∧ x.1 < fac (π.1 - 1)) (g := fun num x => lfR π s p (pmu (π.1 - 1) (L0 p) num) x) (g' := gRc π s p) (fun i a x hi hr => by
    obtain ⟨rfl, h2, h3⟩ := hr
    have hp0 := rS_pos (R := pmu (π.1 - 1) (L0 p) i) hπ ok hc hp'
    unfold lfR gRc
    dsimp only
    by_cases hl : rS π s p (pmu (π.1 - 1) (L0 p) i) < x.2
    · rw [if_pos (Or.inr hl), if_pos hl]; exact ⟨rfl, hp0, hi⟩
    · rw [if_neg (fun z => z.elim h2 hl), if_neg hl]; exact ⟨rfl, h2, h3⟩) (fac (π.1 - 1) - 1) 1 (rS π s p (pmu (π.1 - 1) (L0 p) 0), fun q => if q < π.1 - 1 then nI (pmu (π.1 - 1) (L0 p) 0 q) else 0) (0, rS π s p (pmu (π.1 - 1) (L0 p) 0)) (by omega) ⟨rfl, rS_pos hπ ok hc hp', f2⟩
  exact ⟨h.1, h.2.2⟩
theorem w_round55 (hC : HC m P π s) (hp' : p < π.1) {v2 : Int32} : ∃ o m', f_Wp_round_55 X 0 (nI p) v2 (nI (fac (π.1 - 1))) 0 (rS π s p (pmu (π.1 - 1) (L0 p) 0)) 1 none (hp m) = f_Wp_round_55 X 0 (nI p) v2 (nI (fac (π.1 - 1))) (nI (aRc π s p).1) (aRc π s p).2 (nI (fac (π.1 - 1))) o (hp m') ∧ Same RLs m m' := by
  have hn := hC.n6
  obtain ⟨f1, f2⟩ := fac_le (π.1 - 1) (by omega)
  obtain ⟨o, m', h1, h2⟩ := lg (n := fac (π.1 - 1)) (F := fun (o : Option Value) (x : Nat × Int32) r m => f_Wp_round_55 X 0 (nI p) v2 (nI (fac (π.1 - 1))) (nI x.1) x.2 (nI r) o (hp m)) (R := fun _ _ m' => Same RLs m m') (g := gRc π s p) (fun o x r m1 hr hs => by
    obtain ⟨m2, e2, q2⟩ := w_roundSum (X := X) (hC.q (RLs_Q hs)) hp' hr
    refine ⟨some (.int (rS π s p (pmu (π.1 - 1) (L0 p) r))), m2, ?_, hs.tr q2⟩
    rw [u_Wp_round_55, if_neg (nI_ge hr (by omega))]
    simp only [tIs, tVs, bs, if_true, true_or, or_true, i10, if_false, not_false_eq_true, not_true_eq_false, Wp_rc, Wp_f5, Wp_f6, Wp_f7, Wp_f8, Wp_f9, Wp_f10, Wp_f11, Wp_f12, Wp_f13, Wp_f14, e2, u_Wp_round_85, nI_1]
    unfold gRc
    by_cases hl : x.2 ≤ rS π s p (pmu (π.1 - 1) (L0 p) r)
    · rw [if_pos hl, if_neg (fun z => by rw [Int32.lt_iff_toInt_lt] at z; rw [Int32.le_iff_toInt_le] at hl; omega)]
    · rw [if_neg hl, if_pos (by rw [Int32.lt_iff_toInt_lt]; rw [Int32.le_iff_toInt_le] at hl; omega)]) (fac (π.1 - 1) - 1) 1 none (0, rS π s p (pmu (π.1 - 1) (L0 p) 0)) m (by omega) Same.rf
  exact ⟨o, m', h1, h2⟩
theorem rw_cases (v : Int32) {n : Nat} (h0 : 0 < n) (hn : n ≤ 6) : (v = -1 ∨ ∃ q, q < n - 1 ∧ v = nI q) ∨ (v < -1 ∨ nI n - 2 < v) := by
  have e := pk_sub_toInt (a := n) (b := 2) (by omega) (by decide)
  rw [show (nI 2 : Int32) = 2 from rfl] at e
  rcases pk_ix v (n := n - 1) (by omega) with h | h | ⟨j, h1, h2⟩
  · by_cases hv : v = -1
    · exact Or.inl (Or.inl hv)
    · refine Or.inr (Or.inl ?_)
      rw [Int32.lt_iff_toInt_lt] at h ⊢
      have : v.toInt ≠ (-1 : Int32).toInt := fun z => hv (Int32.toInt_inj.mp z)
      rw [show (-1 : Int32).toInt = -1 by decide] at this ⊢
      rw [show (0 : Int32).toInt = 0 from rfl] at h
      omega
  · refine Or.inr (Or.inr ?_)
    rw [Int32.lt_iff_toInt_lt, e]
    rw [Int32.le_iff_toInt_le, nI_toInt (by omega)] at h
    omega
  · exact Or.inl (Or.inr ⟨j, h1, h2⟩)
theorem rw_in {v : Int32} {n : Nat} (h0 : 0 < n) (hn : n ≤ 6) (h : v = -1 ∨ ∃ q, q < n - 1 ∧ v = nI q) : ¬ v < -1 ∧ ¬ nI n - 2 < v := by
  have e := pk_sub_toInt (a := n) (b := 2) (by omega) (by decide)
  rw [show (nI 2 : Int32) = 2 from rfl] at e
  rw [Int32.lt_iff_toInt_lt, Int32.lt_iff_toInt_lt, e, show (-1 : Int32).toInt = -1 by decide]
  rcases h with rfl | ⟨q, hq, rfl⟩
  · rw [show (-1 : Int32).toInt = -1 by decide]; omega
  · rw [nI_toInt (by omega)]; omega
def aRv (π : aP) (s : aS) (p : Nat) (v : Int32) : Int32 := if v = -1 then (aRc π s p).2 else nI (pmu (π.1 - 1) (L0 p) (aRc π s p).1 v.toNatClampNeg)
theorem w_round {v : Int32} (hC : HC m P π s) (ok : okS π.1 c s) (hc : c ≤ 1000) (hp' : p < π.1) (hv : v = -1 ∨ ∃ q, q < π.1 - 1 ∧ v = nI q) : Gi X m_Wp_round [.ref 0, .int (nI p), .int v] m (aRv π s p v) := by
  have hn := hC.n6
  obtain ⟨f1, f2⟩ := fac_le (π.1 - 1) (by omega)
  obtain ⟨i1, i2⟩ := rw_in (show 0 < π.1 by omega) hn hv
  obtain ⟨-, hb⟩ := round_eq hC.okA ok hc hp' (fun _ => 0) (fun _ => 0)
  obtain ⟨m1, e1, q1⟩ := w_roundSum (X := X) (r := 0) hC hp' f2
  have e1' : pM X m_Wp_roundSum [.ref 0, .int (nI p), .int 0] (hp m) = some (some (.int (rS π s p (pmu (π.1 - 1) (L0 p) 0))), hp m1) := e1
  obtain ⟨o, m2, h2, q2⟩ := w_round55 (X := X) (v2 := v) (hC.q (RLs_Q q1)) hp'
  unfold Gi
  rw [e_Wp_round, u_Wp_round_0]
  simp only [tIs, tVs, bs, if_true, true_or, or_true, i10, if_false, not_false_eq_true, not_true_eq_false, Wp_rc, Wp_f5, Wp_f6, Wp_f7, Wp_f8, Wp_f9, Wp_f10, Wp_f11, Wp_f12, Wp_f13, Wp_f14, w_isP1 hC hp', hC.f1, hC.sz, w_in1 i1 i2]
  rw [show (nI π.1 - 1 : Int32) = nI (π.1 - 1) from by rw [show (1 : Int32) = nI 1 from rfl, pk_sub (by omega)], w_rowsOf (by omega)]
  simp only [tIs, tVs, bs, if_true, true_or, or_true, i10, if_false, not_false_eq_true, not_true_eq_false, Wp_rc, Wp_f5, Wp_f6, Wp_f7, Wp_f8, Wp_f9, Wp_f10, Wp_f11, Wp_f12, Wp_f13, Wp_f14, e1', h2]
  rw [u_Wp_round_55, if_pos (nI_le (Nat.le_refl _) (by omega))]
  unfold aRv
  by_cases hv1 : v = -1
  · rw [if_neg (fun z => z hv1), if_pos hv1]
    exact ⟨m2, rfl, RLs_Q (q1.tr q2)⟩
  · obtain ⟨q, hq, rfl⟩ := hv.resolve_left hv1
    obtain ⟨m3, e3, q3, g3⟩ := w_layRow (X := X) (hC.q (RLs_Q (q1.tr q2))) hp' hb
    rw [if_pos hv1, if_neg hv1, nI_clamp (by omega)]
    refine ⟨m3, ?_, RLs_Q ((q1.tr q2).tr (q3.mono (by decide)))⟩
    simp only [tIs, tVs, bs, if_true, true_or, or_true, i10, if_false, not_false_eq_true, not_true_eq_false, Wp_rc, Wp_f5, Wp_f6, Wp_f7, Wp_f8, Wp_f9, Wp_f10, Wp_f11, Wp_f12, Wp_f13, Wp_f14, e3]
    rw [if_neg (nI_pos (by omega)), hp_len (by decide) T_121]
    simp only [tIs, tVs, bs, if_true, true_or, or_true, i10, if_false, not_false_eq_true, not_true_eq_false, Wp_rc, Wp_f5, Wp_f6, Wp_f7, Wp_f8, Wp_f9, Wp_f10, Wp_f11, Wp_f12, Wp_f13, Wp_f14]
    rw [if_neg (show ¬ Int32.ofNat 6 ≤ nI q from nI_ge (show q < 6 by omega) (by decide)), ar_ld T_121 (by omega) (by decide), g3 q hq]
    simp only [tIs, tVs, bs, if_true, true_or, or_true, i10, if_false, not_false_eq_true, not_true_eq_false, Wp_rc, Wp_f5, Wp_f6, Wp_f7, Wp_f8, Wp_f9, Wp_f10, Wp_f11, Wp_f12, Wp_f13, Wp_f14, u_Wp_round_131]
theorem m_round {v : Int32} (hM : HM m π s c) (hp' : p < π.1) (hv : v = -1 ∨ ∃ q, q < π.1 - 1 ∧ v = nI q) : Gi X m_Md_round [.ref 175, .int (nI p), .int v] m (aRv π s p v) := by
  have hn := hM.1.1
  obtain ⟨i1, i2⟩ := rw_in (show 0 < π.1 by omega) hn hv
  obtain ⟨m1, e1, q1⟩ := m_t0 (m := m)
  obtain ⟨o1, o2, o3⟩ := oth_nI π.1 hn p (by omega)
  obtain ⟨m2, e2, r2⟩ := m_rounds (X := X) (l := π.1 - 1) hM rfl hp' (π.1 - 1) 0 _ (fun _ => 0) (L0 p) (-1, gA m1 193) (sI m1 175 27 (-1)) (by omega) o2 (fun q hq h => by
    rw [o3 q hq, Bool.and_eq_true, decide_eq_true_eq] at h
    exact h.1) (Enm_L0 hp' (fun o ho => o3 o (by omega))) (fun q hq => absurd hq (by omega)) ⟨q1.tr Q_27, fun q hq => absurd hq (by omega), gI_sI_eq, fun q _ => by rw [gA_sI]⟩
  rw [(round_eq (RM_okA hM.1) hM.2.2.1 hM.2.2.2 hp' _ _).1] at r2
  obtain ⟨s1, s2, s3, s4⟩ := r2
  have e2' : pM X m_Md_rounds [.ref 175, .int (nI p), .int 0, .int (nI ((2 ^ π.1 - 1) &&& (63 - 2 ^ p)))] (hp (sI m1 175 27 (-1))) = some (none, hp m2) := e2
  have R1 := (hM.q q1).1
  have R1' : RM (sI m1 175 27 (-1)) π := (hM.q (q1.tr Q_27)).1
  unfold Gi
  rw [e_Md_round, u_Md_round_0, e1]
  simp only [tIs, tVs, bs, if_true, true_or, or_true, i10, if_false, not_false_eq_true, not_true_eq_false, Md_rc, Md_f1, Md_f4, Md_f5, Md_f6, Md_f9, Md_f10, Md_f11, Md_f12, Md_f14, Md_f15, Md_f18, Md_f19, Md_f20, Md_f21, Md_f23, Md_f24, Md_f25, Md_f26, Md_f28, m_isP1 R1 hp', m_n R1, m_in1 i1 i2]
  rw [Md_p27]
  simp only [tIs, tVs, bs, if_true, true_or, or_true, i10, if_false, not_false_eq_true, not_true_eq_false, Md_rc, Md_f1, Md_f4, Md_f5, Md_f6, Md_f9, Md_f10, Md_f11, Md_f12, Md_f14, Md_f15, Md_f18, Md_f19, Md_f20, Md_f21, Md_f23, Md_f24, Md_f25, Md_f26, Md_f28, m_n R1']
  rw [o1, e2']
  simp only [tIs, tVs, bs, if_true, true_or, or_true, i10, if_false, not_false_eq_true, not_true_eq_false, Md_rc, Md_f1, Md_f4, Md_f5, Md_f6, Md_f9, Md_f10, Md_f11, Md_f12, Md_f14, Md_f15, Md_f18, Md_f19, Md_f20, Md_f21, Md_f23, Md_f24, Md_f25, Md_f26, Md_f28, u_Md_round_73]
  refine ⟨m2, ?_, s1⟩
  unfold aRv
  by_cases hv1 : v = -1
  · rw [if_neg (fun z => z hv1), if_pos hv1, Md_f27, s3]
    rfl
  · obtain ⟨q, hq, rfl⟩ := hv.resolve_left hv1
    rw [if_pos hv1, if_neg hv1, nI_clamp (by omega), ld_193 (by omega), s4 q hq]
    simp only [tIs, tVs, bs, if_true, true_or, or_true, i10, if_false, not_false_eq_true, not_true_eq_false, Md_rc, Md_f1, Md_f4, Md_f5, Md_f6, Md_f9, Md_f10, Md_f11, Md_f12, Md_f14, Md_f15, Md_f18, Md_f19, Md_f20, Md_f21, Md_f23, Md_f24, Md_f25, Md_f26, Md_f28]
    rw [if_pos hq]
theorem q_round (hC : HC m P π s) (hM : HM m π s c) (p v : Int32) : Ag X m_Wp_round m_Md_round [.int p, .int v] m := by
  have hn := hC.n6
  rcases prs p hn with ⟨k, hk, rfl⟩ | hb
  · rcases rw_cases v (show 0 < π.1 by omega) hn with hv | hb
    · exact Ag.mk _ (w_round hC hM.2.2.1 hM.2.2.2 hk hv) (fun m1 hq => m_round (hM.q hq) hk hv)
    · refine Ag.mk (-2) ⟨m, ?_, Q.rf⟩ (fun m1 hq => ?_)
      · rw [e_Wp_round, u_Wp_round_0]
        simp only [tIs, tVs, bs, if_true, true_or, or_true, i10, if_false, not_false_eq_true, not_true_eq_false, Wp_rc, Wp_f5, Wp_f6, Wp_f7, Wp_f8, Wp_f9, Wp_f10, Wp_f11, Wp_f12, Wp_f13, Wp_f14, w_isP1 hC hk, hC.f1, hC.sz, w_in0 hb, u_Wp_round_25]
      · obtain ⟨m2, e2, q2⟩ := m_t0 (m := m1)
        refine ⟨m2, ?_, q2⟩
        rw [e_Md_round, u_Md_round_0]
        simp only [tIs, tVs, bs, if_true, true_or, or_true, i10, if_false, not_false_eq_true, not_true_eq_false, Md_rc, Md_f1, Md_f4, Md_f5, Md_f6, Md_f9, Md_f10, Md_f11, Md_f12, Md_f14, Md_f15, Md_f18, Md_f19, Md_f20, Md_f21, Md_f23, Md_f24, Md_f25, Md_f26, Md_f28, e2, m_isP1 (hM.q (hq.tr q2)).1 hk, m_n (hM.q (hq.tr q2)).1, m_in0 hb, u_Md_round_27]
  · refine Ag.mk (-2) ⟨m, ?_, Q.rf⟩ (fun m1 hq => ?_)
    · rw [e_Wp_round, u_Wp_round_0]
      simp only [tIs, tVs, bs, if_true, true_or, or_true, i10, if_false, not_false_eq_true, not_true_eq_false, Wp_rc, Wp_f5, Wp_f6, Wp_f7, Wp_f8, Wp_f9, Wp_f10, Wp_f11, Wp_f12, Wp_f13, Wp_f14, w_isP0 hC hb, u_Wp_round_25]
    · obtain ⟨m2, e2, q2⟩ := m_t0 (m := m1)
      refine ⟨m2, ?_, q2⟩
      rw [e_Md_round, u_Md_round_0]
      simp only [tIs, tVs, bs, if_true, true_or, or_true, i10, if_false, not_false_eq_true, not_true_eq_false, Md_rc, Md_f1, Md_f4, Md_f5, Md_f6, Md_f9, Md_f10, Md_f11, Md_f12, Md_f14, Md_f15, Md_f18, Md_f19, Md_f20, Md_f21, Md_f23, Md_f24, Md_f25, Md_f26, Md_f28, e2, m_isP0 (hM.q (hq.tr q2)).1 hb, u_Md_round_27]
end QR
