/-! Expressions: what class and reference take, token by token. -/
abbrev aJ3 : Type := Int32 × Int32 × Int32
def Ext (pr : aJ3 → Int32) (f f' : Nat → Int32) (k : Nat) (L : List aJ3) : Prop := (∀ j, j < k → f' j = f j) ∧ ∀ j x, L[j]? = some x → f' (k + j) = pr x
section EXT
variable {pr : aJ3 → Int32} {f f1 f2 : Nat → Int32} {k : Nat} {L L' : List aJ3}
theorem Ext.nil : Ext pr f f k [] := ⟨fun _ _ => rfl, fun j x hx => by simp at hx⟩
theorem Ext.app (h : Ext pr f f1 k L) (h' : Ext pr f1 f2 (k + L.length) L') : Ext pr f f2 k (L ++ L') := by
  refine ⟨fun j hj => ?_, fun j x hx => ?_⟩
  · rw [h'.1 j (by omega), h.1 j hj]
  · rcases Nat.lt_or_ge j L.length with hl | hl
    · rw [List.getElem?_append_left hl] at hx
      rw [h'.1 _ (by omega)]
      exact h.2 j x hx
    · rw [List.getElem?_append_right hl] at hx
      have h2 := h'.2 (j - L.length) x hx
      rw [show k + L.length + (j - L.length) = k + j by omega] at h2
      exact h2
theorem Ext.one {x : aJ3} {v : Int32} (hx : pr x = v) : Ext pr f (upd f k v) k [x] := by
  refine ⟨fun j hj => pk_un (by omega), fun j y hy => ?_⟩
  match j, hy with
  | 0, hy =>
    have e : x = y := by simpa using hy
    rw [← e, Nat.add_zero, pk_us, hx]
  | j + 1, hy => simp at hy
end EXT
theorem upd_sh {g : Nat → Int32} {c k : Nat} {v : Int32} : (fun j => upd g (c + k) v (c + j)) = upd (fun j => g (c + j)) k v := by
  funext j
  by_cases h : j = k
  · subst h; rw [pk_us, pk_us]
  · rw [pk_un h, pk_un (by omega)]
def dpL : List aJ3 → Nat → Option Nat
  | [], k => some k
  | x :: L, k => (dp1 k x.1).bind (dpL L)
theorem dpL_app : ∀ (L L' : List aJ3) (k : Nat), dpL (L ++ L') k = (dpL L k).bind (dpL L')
  | [], L', k => by simp only [List.nil_append, dpL, bs]
  | x :: L, L', k => by
    simp only [List.cons_append, dpL]
    cases dp1 k x.1 with
    | none => rfl
    | some v => simp only [bs]; exact dpL_app L L' v
theorem dpL_join {L : List aJ3} {b c : Nat} {s o : Int32} (hJ : mrJ s o) (h : dpL L c = some (b + 2)) : dpL (L ++ [(s, o, 0)]) c = some (b + 1) := by
  obtain ⟨h4, h5, -⟩ := mrJ_lt hJ
  rw [dpL_app, h]
  simp only [bs, dpL]
  have e : dp1 (b + 2) s = some (b + 1) := by unfold dp1; rw [if_pos h4, if_neg h5, if_pos (by omega)]; rfl
  rw [e]
  simp only [bs]
theorem mr_join {s o : Int32} (hJ : mrJ s o) : mr s o 0 := Or.inr (Or.inr (Or.inr hJ))
/-- the class stands at the n-th token -/
def CA (m : pm_M) (tp : aT) (n : Nat) : Prop := cTap m tp ∧ CTk m tp (ps tp n)
def rb (e : Nat) : Int32 := if e = 0 then 1 else 0
theorem rb_0 : rb 0 = 1 := rfl
theorem rb_n {e : Nat} (h : ¬ e = 0) : rb e = 0 := if_neg h
theorem bI_t : bI true = 1 := rfl
theorem bI_f : bI false = 0 := rfl
theorem le00 : ((0 : Int32) ≤ 0) = True := by decide
def CR (tp : aT) (M : Nat) (m : pm_M) (k : Nat) (m' : pm_M) (n' e : Nat) (L : List aJ3) : Prop := Same [1, M, M + 1] m m' ∧ gI m' M 3 = gI m M 3 ∧ gI m' 1 4 = nI e ∧ CA m' tp n' ∧ gI m' M 2 = nI (k + L.length) ∧ Ext (fun x => x.1) (gA m (M + 1)) (gA m' (M + 1)) k L
def RR (m : pm_M) (k : Nat) (m' : pm_M) (n' e : Nat) (L : List aJ3) : Prop := Same [175, 182, 183] m m' ∧ (∀ j, j ≠ 7 → j ≠ 8 → j ≠ 13 → gI m' 175 j = gI m 175 j) ∧ gI m' 175 7 = nI n' ∧ gI m' 175 8 = nI e ∧ gI m' 175 13 = nI (k + L.length) ∧ (∀ j, j < 1100 → gA m' 182 j = gA m 182 j ∧ gA m' 183 j = gA m 183 j) ∧ Ext (fun x => x.2.1) (fun j => gA m 182 (1100 + j)) (fun j => gA m' 182 (1100 + j)) k L ∧ Ext (fun x => x.2.2) (fun j => gA m 183 (1100 + j)) (fun j => gA m' 183 (1100 + j)) k L
def CD (tp : aT) (M n n' e : Nat) (L : List aJ3) (F : pv_H → Option pv_O) : Prop := ∀ m k, CA m tp n → gI m 1 4 = 0 → gI m M 2 = nI k → k ≤ n → ∃ m', F (hp m) = some (some (.int (rb e)), hp m') ∧ CR tp M m k m' n' e L
def RD (tp : aT) (N n n' e : Nat) (L : List aJ3) (F : pv_H → Option pv_O) : Prop := ∀ m k, MAt m tp N n → gI m 175 13 = nI k → k ≤ n → ∃ m', F (hp m) = some (none, hp m') ∧ RR m k m' n' e L
def FB (N n n' e : Nat) (L : List aJ3) : Prop := n ≤ n' ∧ n' ≤ N ∧ n + L.length ≤ n' ∧ e < 20000 ∧ ∀ x ∈ L, mr x.1 x.2.1 x.2.2
def FA (N p n n' e : Nat) (L : List aJ3) : Prop := FB N n n' e L ∧ (e = 0 → n < n' ∧ ∀ b, b + p ≤ 32 → dpL L b = some (b + 1))
def FL (N p n n' e : Nat) (L : List aJ3) : Prop := FB N n n' e L ∧ (e = 0 → ∀ b, b + p ≤ 32 → dpL L (b + 1) = some (b + 1))
def PO (tp : aT) (N M p n : Nat) (Fc Fr : pv_H → Option pv_O) : Prop := ∃ n' e L, FA N p n n' e L ∧ CD tp M n n' e L Fc ∧ RD tp N n n' e L Fr
/-- the tokens end at the N-th -/
def TK (tp : aT) (N : Nat) : Prop := okTp tp ∧ N ≤ 1000 ∧ (∀ j, j < N → tkS tp (ps tp j) ≠ 0) ∧ tkS tp (ps tp N) = 0
theorem MTb.tk {m : pm_M} {tp : aT} {N : Nat} (h : MTb m tp N) (ok : okTp tp) : TK tp N := ⟨ok, h.2.2.2.2, fun j hj => (h.1 j hj).2.2.2.2.2, h.2.1⟩
theorem TK.lt {tp : aT} {N n : Nat} (h : TK tp N) (hn : n ≤ N) (hs : tkS tp (ps tp n) ≠ 0) : n < N := by
  rcases Nat.lt_or_ge n N with hl | hl
  · exact hl
  · exfalso
    apply hs
    rw [show n = N by omega]
    exact h.2.2.2
theorem isG_s {tp : aT} {i c : Nat} (h : isG tp i c = true) : tkS tp i = 3 := by
  unfold isG at h
  simp only [Bool.and_eq_true, decide_eq_true_eq] at h
  exact h.1
theorem isW_s {tp : aT} {i : Nat} {t : List Nat} (h : isW tp i t = true) : tkS tp i = 1 ∧ tkX tp i = t := by
  unfold isW at h
  simp only [Bool.and_eq_true, decide_eq_true_eq] at h
  exact h
theorem fl_lt {tp : aT} {N n v : Nat} (h : TK tp N) (hv : 0 < v) (hv' : v ≤ 5) : fl tp (ps tp n) v < 20000 ∧ ¬ fl tp (ps tp n) v = 0 := by
  have h1 := (tkP_le (ps_le (tp := tp) n)).2
  have h2 := h.1.1
  unfold fl
  omega
theorem sI_self {m : pm_M} {a j : Nat} {v : Int32} (h : gI m a j = v) : sI m a j v = m := by
  rw [← h]
  unfold sI gI
  have e : ∀ (α : Type) (f : Nat → α) (x : Nat), va_up f x (f x) = f := fun α f x => by
    funext y
    by_cases hy : y = x
    · subst hy; simp [va_up]
    · simp [va_up, hy]
  rw [e, e]
section EXC
variable {m m' m1 m2 : pm_M} {X : pv_X} {tp : aT} {N M n k d r n1 n2 e e1 e2 : Nat} {L L1 L2 : List aJ3} {LL : List Nat}
theorem CTk.same {i : Nat} (h : CTk m tp i) (hs : Same LL m m') (h1 : 1 ∉ LL) : CTk m' tp i := by
  unfold CTk at h ⊢
  simp only [hs.I h1, hs.J h1]
  exact h
theorem CA.same (h : CA m tp n) (hs : Same LL m m') (h1 : 1 ∉ LL) (h2 : 2 ∉ LL) : CA m' tp n := ⟨h.1.same hs h1 h2, h.2.same hs h1⟩
theorem w_adv (ok : okTp tp) (h : CA m tp n) : ∃ m', pM X m_Tp_advance [.ref 1] (hp m) = some (none, hp m') ∧ Same [1] m m' ∧ gI m' 1 4 = gI m 1 4 ∧ CA m' tp (n + 1) := by
  obtain ⟨hT, hc⟩ := h
  obtain ⟨m', e1, s1, g1, g4, c1⟩ := w_advance (X := X) hT ok (tkE_le (ps_le n)).1 hc.2.2.1
  exact ⟨m', e1, s1, g4, hT.tok g1 (s1.A (by decide)), c1⟩
theorem c_adv (ok : okTp tp) (h3 : 3 ≤ M) (hA : CA m tp n) (h4 : gI m 1 4 = 0) (hk : gI m M 2 = nI k) : ∃ m1, pM X m_Tp_advance [.ref 1] (hp m) = some (none, hp m1) ∧ CA m1 tp (n + 1) ∧ gI m1 1 4 = 0 ∧ gI m1 M 2 = nI k ∧ ∀ m2 n2 e2 L2, CR tp M m1 k m2 n2 e2 L2 → CR tp M m k m2 n2 e2 L2 := by
  obtain ⟨m1, a1, s1, g1, c1⟩ := w_adv (X := X) ok hA
  have hM : M ∉ [1] := by simp; omega
  have hM1 : M + 1 ∉ [1] := by simp; omega
  refine ⟨m1, a1, c1, by rw [g1]; exact h4, by rw [s1.I hM]; exact hk, fun m2 n2 e2 L2 h => ?_⟩
  obtain ⟨b1, b2, b3, b4, b5, b6⟩ := h
  refine ⟨(s1.mono (by simp)).tr b1, by rw [b2, s1.I hM], b3, b4, b5, ?_⟩
  rw [s1.A hM1] at b6
  exact b6
theorem w_put {v : Int32} (hM : isMo M) (hk : gI m M 2 = nI k) (h1000 : k < 1000) : pM X m_Mo_put [.ref M, .int v] (hp m) = some (none, hp (sI (sA m (M + 1) (upd (gA m (M + 1)) k v)) M 2 (nI (k + 1)))) := by
  rw [e_Mo_put, u_Mo_put_0, Mo_f2 hM, hk]
  simp only [tIs, tVs, bs, if_true, true_or, or_true, i10, if_false, not_false_eq_true, not_true_eq_false]
  rw [Mo_f0 hM]
  simp only [tIs, tVs, bs, if_true, true_or, or_true, i10, if_false, not_false_eq_true, not_true_eq_false]
  rw [Mo_l1 hM]
  simp only [tIs, tVs, bs, if_true, true_or, or_true, i10, if_false, not_false_eq_true, not_true_eq_false]
  rw [if_neg (nI_ge h1000 (by decide)), Mo_s1 hM h1000]
  simp only [tIs, tVs, bs, if_true, true_or, or_true, i10, if_false, not_false_eq_true, not_true_eq_false]
  rw [Mo_f2 hM, gI_sA, hk]
  simp only [tIs, tVs, bs, if_true, true_or, or_true, i10, if_false, not_false_eq_true, not_true_eq_false]
  rw [nI_1, Mo_p2 hM]
  simp only [tIs, tVs, bs, if_true, true_or, or_true, i10, if_false, not_false_eq_true, not_true_eq_false, u_Mo_put_32]
theorem CR.rf (hA : CA m tp n) (h4 : gI m 1 4 = nI e) (hk : gI m M 2 = nI k) : CR tp M m k m n e [] := ⟨Same.rf, rfl, h4, hA, hk, Ext.nil⟩
theorem CR.tr (h : CR tp M m k m1 n1 e1 L1) (h' : CR tp M m1 (k + L1.length) m2 n2 e2 L2) : CR tp M m k m2 n2 e2 (L1 ++ L2) := ⟨h.1.tr h'.1, h'.2.1.trans h.2.1, h'.2.2.1, h'.2.2.2.1, by rw [List.length_append, ← Nat.add_assoc]; exact h'.2.2.2.2.1, h.2.2.2.2.2.app h'.2.2.2.2.2⟩
theorem CR.put {x : aJ3} {v : Int32} (hx : x.1 = v) (h3 : 3 ≤ M) (hA : CA m tp n) (h4 : gI m 1 4 = nI e) (hk : gI m M 2 = nI k) : CR tp M m k (sI (sA m (M + 1) (upd (gA m (M + 1)) k v)) M 2 (nI (k + 1))) n e [x] := by
  have s0 : Same [M, M + 1] m (sI (sA m (M + 1) (upd (gA m (M + 1)) k v)) M 2 (nI (k + 1))) := (Same.sA (by simp)).tr (Same.sI (by simp))
  have n1 : 1 ∉ [M, M + 1] := by simp; omega
  have n2 : 2 ∉ [M, M + 1] := by simp; omega
  refine ⟨s0.mono (by simp), by rw [gI_sI_ne (Or.inr (by decide)), gI_sA], by rw [s0.I n1]; exact h4, hA.same s0 n1 n2, gI_sI_eq, ?_⟩
  rw [gA_sI, gA_sA, if_pos rfl]
  exact Ext.one hx
theorem CR.ca (h : CR tp M m k m' n e L) : CA m' tp n := h.2.2.2.1
theorem CR.f4 (h : CR tp M m k m' n e L) : gI m' 1 4 = nI e := h.2.2.1
theorem CR.sz (h : CR tp M m k m' n e L) : gI m' M 2 = nI (k + L.length) := h.2.2.2.2.1
/-- the reference goes on to the next token -/
theorem r_nx (hA : MAt m tp N n) (hn : n < N) (hk : gI m 175 13 = nI k) : MAt (sI m 175 7 (nI (n + 1))) tp N (n + 1) ∧ gI (sI m 175 7 (nI (n + 1))) 175 13 = nI k ∧ ∀ m2 n2 e2 L2, RR (sI m 175 7 (nI (n + 1))) k m2 n2 e2 L2 → RR m k m2 n2 e2 L2 := by
  refine ⟨⟨?_, hA.2.1, gI_sI_eq, hn, by rw [gI_sI_ne (Or.inr (by decide))]; exact hA.2.2.2.2⟩, by rw [gI_sI_ne (Or.inr (by decide))]; exact hk, fun m2 n2 e2 L2 h => ?_⟩
  · exact hA.1
  · obtain ⟨b1, b2, b3⟩ := h
    exact ⟨(Same.sI (by decide)).tr b1, fun j h7 h8 h13 => by rw [b2 j h7 h8 h13, gI_sI_ne (Or.inr h7)], b3⟩
def em (m : pm_M) (k : Nat) (o a : Int32) : pm_M := sI (sA (sA m 182 (upd (gA m 182) (1100 + k) o)) 183 (upd (gA m 183) (1100 + k) a)) 175 13 (nI (k + 1))
theorem m_emit {o a : Int32} (hk : gI m 175 13 = nI k) (h1 : k < 1100) : pM X m_Md_emit [.ref 175, .int o, .int a] (hp m) = some (none, hp (em m k o a)) := by
  rw [e_Md_emit, u_Md_emit_0, Md_f13, hk]
  simp only [tIs, tVs, bs, if_true, true_or, or_true, i10, if_false, not_false_eq_true, not_true_eq_false, Md_rc, Md_f1, Md_f4, Md_f5, Md_f6, Md_f9, Md_f10, Md_f11, Md_f12, Md_f14, Md_f15, Md_f18, Md_f19, Md_f20, Md_f21, Md_f23, Md_f24, Md_f25, Md_f26, Md_f28]
  rw [show (1100 : Int32) = nI 1100 from rfl, nI_add, st_182 (by omega)]
  simp only [tIs, tVs, bs, if_true, true_or, or_true, i10, if_false, not_false_eq_true, not_true_eq_false, Md_rc, Md_f1, Md_f4, Md_f5, Md_f6, Md_f9, Md_f10, Md_f11, Md_f12, Md_f14, Md_f15, Md_f18, Md_f19, Md_f20, Md_f21, Md_f23, Md_f24, Md_f25, Md_f26, Md_f28]
  rw [Md_f13, gI_sA, hk]
  simp only [tIs, tVs, bs, if_true, true_or, or_true, i10, if_false, not_false_eq_true, not_true_eq_false, Md_rc, Md_f1, Md_f4, Md_f5, Md_f6, Md_f9, Md_f10, Md_f11, Md_f12, Md_f14, Md_f15, Md_f18, Md_f19, Md_f20, Md_f21, Md_f23, Md_f24, Md_f25, Md_f26, Md_f28]
  rw [nI_add, st_183 (by omega)]
  simp only [tIs, tVs, bs, if_true, true_or, or_true, i10, if_false, not_false_eq_true, not_true_eq_false, Md_rc, Md_f1, Md_f4, Md_f5, Md_f6, Md_f9, Md_f10, Md_f11, Md_f12, Md_f14, Md_f15, Md_f18, Md_f19, Md_f20, Md_f21, Md_f23, Md_f24, Md_f25, Md_f26, Md_f28]
  rw [Md_f13, gI_sA, gI_sA, hk]
  simp only [tIs, tVs, bs, if_true, true_or, or_true, i10, if_false, not_false_eq_true, not_true_eq_false, Md_rc, Md_f1, Md_f4, Md_f5, Md_f6, Md_f9, Md_f10, Md_f11, Md_f12, Md_f14, Md_f15, Md_f18, Md_f19, Md_f20, Md_f21, Md_f23, Md_f24, Md_f25, Md_f26, Md_f28]
  rw [nI_1, Md_p13]
  simp only [tIs, tVs, bs, if_true, true_or, or_true, i10, if_false, not_false_eq_true, not_true_eq_false, Md_rc, Md_f1, Md_f4, Md_f5, Md_f6, Md_f9, Md_f10, Md_f11, Md_f12, Md_f14, Md_f15, Md_f18, Md_f19, Md_f20, Md_f21, Md_f23, Md_f24, Md_f25, Md_f26, Md_f28]
  rw [gA_sA, if_neg (show ¬ 183 = 182 by decide)]
  rfl
theorem RR.rf (h7 : gI m 175 7 = nI n) (h8 : gI m 175 8 = nI e) (hk : gI m 175 13 = nI k) : RR m k m n e [] := ⟨Same.rf, fun _ _ _ _ => rfl, h7, h8, hk, fun _ _ => ⟨rfl, rfl⟩, Ext.nil, Ext.nil⟩
theorem RR.tr (h : RR m k m1 n1 e1 L1) (h' : RR m1 (k + L1.length) m2 n2 e2 L2) : RR m k m2 n2 e2 (L1 ++ L2) := ⟨h.1.tr h'.1, fun j h7 h8 h13 => (h'.2.1 j h7 h8 h13).trans (h.2.1 j h7 h8 h13), h'.2.2.1, h'.2.2.2.1, by rw [List.length_append, ← Nat.add_assoc]; exact h'.2.2.2.2.1, fun j hj => ⟨(h'.2.2.2.2.2.1 j hj).1.trans (h.2.2.2.2.2.1 j hj).1, (h'.2.2.2.2.2.1 j hj).2.trans (h.2.2.2.2.2.1 j hj).2⟩, h.2.2.2.2.2.2.1.app h'.2.2.2.2.2.2.1, h.2.2.2.2.2.2.2.app h'.2.2.2.2.2.2.2⟩
theorem RR.put {x : aJ3} {o a : Int32} (ho : x.2.1 = o) (ha : x.2.2 = a) (h7 : gI m 175 7 = nI n) (h8 : gI m 175 8 = nI e) : RR m k (em m k o a) n e [x] := by
  have s0 : Same [175, 182, 183] m (em m k o a) := ((Same.sA (by decide)).tr (Same.sA (by decide))).tr (Same.sI (by decide))
  have g : ∀ j, j ≠ 13 → gI (em m k o a) 175 j = gI m 175 j := fun j hj => by
    unfold em
    rw [gI_sI_ne (Or.inr hj), gI_sA, gI_sA]
  have a2 : gA (em m k o a) 182 = upd (gA m 182) (1100 + k) o := by
    unfold em
    rw [gA_sI, gA_sA, if_neg (by decide), gA_sA, if_pos rfl]
  have a3 : gA (em m k o a) 183 = upd (gA m 183) (1100 + k) a := by
    unfold em
    rw [gA_sI, gA_sA, if_pos rfl]
  refine ⟨s0, fun j _ _ h13 => g j h13, by rw [g 7 (by decide)]; exact h7, by rw [g 8 (by decide)]; exact h8, by unfold em; exact gI_sI_eq, fun j hj => ⟨by rw [a2, pk_un (by omega)], by rw [a3, pk_un (by omega)]⟩, ?_, ?_⟩
  · rw [a2, upd_sh]; exact Ext.one ho
  · rw [a3, upd_sh]; exact Ext.one ha
theorem MAt.same (h : MAt m tp N n) (hs : Same LL m m') (h1 : 177 ∉ LL) (h2 : 178 ∉ LL) (h3 : 179 ∉ LL) (h4 : 180 ∉ LL) (h7 : gI m' 175 7 = nI n1) (hn : n1 ≤ N) (h8 : gI m' 175 8 = 0) : MAt m' tp N n1 := by
  refine ⟨?_, h.2.1.same (hs.Lr h4), h7, hn, h8⟩
  have hb := h.1
  unfold MTb TabR at hb ⊢
  rw [hs.A h1, hs.A h2, hs.Lr h3]
  exact hb
theorem RR.mat (h : RR m k m' n1 0 L) (hA : MAt m tp N n) (hn : n1 ≤ N) : MAt m' tp N n1 := hA.same h.1 (by decide) (by decide) (by decide) (by decide) h.2.2.1 hn h.2.2.2.1
theorem RR.f7 (h : RR m k m' n e L) : gI m' 175 7 = nI n := h.2.2.1
theorem RR.f8 (h : RR m k m' n e L) : gI m' 175 8 = nI e := h.2.2.2.1
theorem RR.sz (h : RR m k m' n e L) : gI m' 175 13 = nI (k + L.length) := h.2.2.2.2.1
theorem m_hasSign1 {c : Nat} {vc : Int32} (hvc : vc = nI c) (hc' : c < 127) (ok : okTp tp) (hA : MAt m tp N n) (hg : isG tp (ps tp n) c = true) : pM X m_Md_hasSign [.ref 175, .int vc] (hp m) = some (some (.int 1), hp (sI m 175 7 (nI (n + 1)))) := by
  rw [e_Md_hasSign, u_Md_hasSign_0]
  simp only [tIs, tVs, bs, if_true, true_or, or_true, i10, if_false, not_false_eq_true, not_true_eq_false, Md_rc, Md_f1, Md_f4, Md_f5, Md_f6, Md_f9, Md_f10, Md_f11, Md_f12, Md_f14, Md_f15, Md_f18, Md_f19, Md_f20, Md_f21, Md_f23, Md_f24, Md_f25, Md_f26, Md_f28, m_isSign (X := X) hvc hc' ok hA, hg, bI_t, Md_f7, hA.2.2.1, u_Md_hasSign_20, nI_1, Md_p7, eq_self]
theorem m_hasSign0 {c : Nat} {vc : Int32} (hvc : vc = nI c) (hc' : c < 127) (ok : okTp tp) (hA : MAt m tp N n) (hg : isG tp (ps tp n) c = false) : pM X m_Md_hasSign [.ref 175, .int vc] (hp m) = some (some (.int 0), hp m) := by
  rw [e_Md_hasSign, u_Md_hasSign_0]
  simp only [tIs, tVs, bs, if_true, true_or, or_true, i10, if_false, not_false_eq_true, not_true_eq_false, Md_rc, Md_f1, Md_f4, Md_f5, Md_f6, Md_f9, Md_f10, Md_f11, Md_f12, Md_f14, Md_f15, Md_f18, Md_f19, Md_f20, Md_f21, Md_f23, Md_f24, Md_f25, Md_f26, Md_f28, m_isSign (X := X) hvc hc' ok hA, hg, bI_f, Md_f7, u_Md_hasSign_20, Md_p7, eq_self]
  rw [sI_self (Int32.add_zero _).symm]
theorem x_hasSign {v : Int32} {e : Nat} (h8 : gI m 175 8 = nI e) (h0 : 0 < e) (h31 : e < 2 ^ 31) : pM X m_Md_hasSign [.ref 175, .int v] (hp m) = some (some (.int 0), hp m) := by
  rw [e_Md_hasSign, u_Md_hasSign_0]
  simp only [tIs, tVs, bs, if_true, true_or, or_true, i10, if_false, not_false_eq_true, not_true_eq_false, Md_rc, Md_f1, Md_f4, Md_f5, Md_f6, Md_f9, Md_f10, Md_f11, Md_f12, Md_f14, Md_f15, Md_f18, Md_f19, Md_f20, Md_f21, Md_f23, Md_f24, Md_f25, Md_f26, Md_f28, x_isSign (X := X) (v := v) h8 h0 h31, Md_f7, u_Md_hasSign_20, Md_p7, eq_self]
  rw [sI_self (Int32.add_zero _).symm]
theorem m_hasWord1 {c : Nat} {vc : Int32} (hvc : vc = nI c) (hc' : c < 20) (hA : MAt m tp N n) (hg : isW tp (ps tp n) (wdv.getD c []) = true) : pM X m_Md_hasWord [.ref 175, .int vc] (hp m) = some (some (.int 1), hp (sI m 175 7 (nI (n + 1)))) := by
  rw [e_Md_hasWord, u_Md_hasWord_0]
  simp only [tIs, tVs, bs, if_true, true_or, or_true, i10, if_false, not_false_eq_true, not_true_eq_false, Md_rc, Md_f1, Md_f4, Md_f5, Md_f6, Md_f9, Md_f10, Md_f11, Md_f12, Md_f14, Md_f15, Md_f18, Md_f19, Md_f20, Md_f21, Md_f23, Md_f24, Md_f25, Md_f26, Md_f28, m_isWord (X := X) hvc hc' hA, hg, bI_t, Md_f7, hA.2.2.1, u_Md_hasWord_20, nI_1, Md_p7, eq_self]
theorem m_hasWord0 {c : Nat} {vc : Int32} (hvc : vc = nI c) (hc' : c < 20) (hA : MAt m tp N n) (hg : isW tp (ps tp n) (wdv.getD c []) = false) : pM X m_Md_hasWord [.ref 175, .int vc] (hp m) = some (some (.int 0), hp m) := by
  rw [e_Md_hasWord, u_Md_hasWord_0]
  simp only [tIs, tVs, bs, if_true, true_or, or_true, i10, if_false, not_false_eq_true, not_true_eq_false, Md_rc, Md_f1, Md_f4, Md_f5, Md_f6, Md_f9, Md_f10, Md_f11, Md_f12, Md_f14, Md_f15, Md_f18, Md_f19, Md_f20, Md_f21, Md_f23, Md_f24, Md_f25, Md_f26, Md_f28, m_isWord (X := X) hvc hc' hA, hg, bI_f, Md_f7, u_Md_hasWord_20, Md_p7, eq_self]
  rw [sI_self (Int32.add_zero _).symm]
theorem x_hasWord {v : Int32} {e : Nat} (h8 : gI m 175 8 = nI e) (h0 : 0 < e) (h31 : e < 2 ^ 31) : pM X m_Md_hasWord [.ref 175, .int v] (hp m) = some (some (.int 0), hp m) := by
  rw [e_Md_hasWord, u_Md_hasWord_0]
  simp only [tIs, tVs, bs, if_true, true_or, or_true, i10, if_false, not_false_eq_true, not_true_eq_false, Md_rc, Md_f1, Md_f4, Md_f5, Md_f6, Md_f9, Md_f10, Md_f11, Md_f12, Md_f14, Md_f15, Md_f18, Md_f19, Md_f20, Md_f21, Md_f23, Md_f24, Md_f25, Md_f26, Md_f28, x_isWord (X := X) (v := v) h8 h0 h31, Md_f7, u_Md_hasWord_20, Md_p7, eq_self]
  rw [sI_self (Int32.add_zero _).symm]
theorem m_takeSign1 {c : Nat} {vc : Int32} (hvc : vc = nI c) (hc' : c < 127) (ok : okTp tp) (hA : MAt m tp N n) (hg : isG tp (ps tp n) c = true) : pM X m_Md_takeSign [.ref 175, .int vc] (hp m) = some (none, hp (sI m 175 7 (nI (n + 1)))) := by
  rw [e_Md_takeSign, u_Md_takeSign_0]
  simp only [tIs, tVs, bs, if_true, true_or, or_true, i10, if_false, not_false_eq_true, not_true_eq_false, Md_rc, Md_f1, Md_f4, Md_f5, Md_f6, Md_f9, Md_f10, Md_f11, Md_f12, Md_f14, Md_f15, Md_f18, Md_f19, Md_f20, Md_f21, Md_f23, Md_f24, Md_f25, Md_f26, Md_f28, m_isSign (X := X) hvc hc' ok hA, hg, bI_t, Md_f7, hA.2.2.1, u_Md_takeSign_26, nI_1, Md_p7]
theorem m_takeSign0 {c : Nat} {vc : Int32} (hvc : vc = nI c) (hc' : c < 127) (ok : okTp tp) (hA : MAt m tp N n) (hg : isG tp (ps tp n) c = false) : pM X m_Md_takeSign [.ref 175, .int vc] (hp m) = some (none, hp (sI m 175 8 (nI (fl tp (ps tp n) 1)))) := by
  rw [e_Md_takeSign, u_Md_takeSign_0]
  simp only [tIs, tVs, bs, if_true, true_or, or_true, i10, if_false, not_false_eq_true, not_true_eq_false, Md_rc, Md_f1, Md_f4, Md_f5, Md_f6, Md_f9, Md_f10, Md_f11, Md_f12, Md_f14, Md_f15, Md_f18, Md_f19, Md_f20, Md_f21, Md_f23, Md_f24, Md_f25, Md_f26, Md_f28, m_isSign (X := X) hvc hc' ok hA, hg, bI_f, u_Md_takeSign_26, m_wrong (X := X) (v := 1) (vv := 1) rfl hA, eq_self]
theorem x_takeSign {v : Int32} {e : Nat} (h8 : gI m 175 8 = nI e) (h0 : 0 < e) (h31 : e < 2 ^ 31) : pM X m_Md_takeSign [.ref 175, .int v] (hp m) = some (none, hp m) := by
  rw [e_Md_takeSign, u_Md_takeSign_0]
  simp only [tIs, tVs, bs, if_true, true_or, or_true, i10, if_false, not_false_eq_true, not_true_eq_false, Md_rc, Md_f1, Md_f4, Md_f5, Md_f6, Md_f9, Md_f10, Md_f11, Md_f12, Md_f14, Md_f15, Md_f18, Md_f19, Md_f20, Md_f21, Md_f23, Md_f24, Md_f25, Md_f26, Md_f28, x_isSign (X := X) (v := v) h8 h0 h31, x_wrong (X := X) (v := 1) h8 h0 h31, u_Md_takeSign_26, eq_self]
theorem w_takeSign1 {c : Nat} {vc : Int32} (hvc : vc = nI c) (hc' : c < 127) (ok : okTp tp) (hA : CA m tp n) (hg : isG tp (ps tp n) c = true) (ha : pM X m_Tp_advance [.ref 1] (hp m) = some (none, hp m1)) : pM X m_Tp_takeSign [.ref 1, .int vc] (hp m) = some (some (.int 1), hp m1) := by
  rw [e_Tp_takeSign, u_Tp_takeSign_0]
  simp only [tIs, tVs, bs, if_true, true_or, or_true, i10, if_false, not_false_eq_true, not_true_eq_false, Tp_rc, w_isSign (X := X) hvc hc' hA.1 ok (ps_le n) hA.2, hg, bI_t, ha]
theorem w_takeSign0 {c : Nat} {vc : Int32} (hvc : vc = nI c) (hc' : c < 127) (ok : okTp tp) (hA : CA m tp n) (hg : isG tp (ps tp n) c = false) : pM X m_Tp_takeSign [.ref 1, .int vc] (hp m) = some (some (.int 0), hp (sI m 1 4 (nI (fl tp (ps tp n) 1)))) := by
  rw [e_Tp_takeSign, u_Tp_takeSign_0]
  simp only [tIs, tVs, bs, if_true, true_or, or_true, i10, if_false, not_false_eq_true, not_true_eq_false, Tp_rc, w_isSign (X := X) hvc hc' hA.1 ok (ps_le n) hA.2, hg, bI_f, w_refuse (X := X) (v := 1) (vv := 1) rfl hA.2, eq_self]
/-- a fault that is met: nothing else changes -/
theorem CR.ref (h3 : 3 ≤ M) (hA : CA m tp n) (hk : gI m M 2 = nI k) : CR tp M m k (sI m 1 4 (nI e)) n e [] := by
  have s0 : Same [1] m (sI m 1 4 (nI e)) := Same.sI (by decide)
  have hM : M ∉ [1] := by simp; omega
  refine ⟨s0.mono (by simp), by rw [s0.I hM], gI_sI_eq, ⟨hA.1.tok (gI_sI_ne (Or.inr (by decide))) gA_sI, ?_⟩, by rw [s0.I hM]; exact hk, ?_⟩
  · have hc := hA.2
    unfold CTk at hc ⊢
    rw [gI_sI_ne (Or.inr (by decide)), gI_sI_ne (Or.inr (by decide)), gI_sI_ne (Or.inr (by decide)), gI_sI_ne (Or.inr (by decide)), gJ_sI]
    exact hc
  · rw [gA_sI]; exact Ext.nil
theorem RR.ref (h7 : gI m 175 7 = nI n) (hk : gI m 175 13 = nI k) : RR m k (sI m 175 8 (nI e)) n e [] := ⟨Same.sI (by decide), fun j _ h8 _ => gI_sI_ne (Or.inr h8), by rw [gI_sI_ne (Or.inr (by decide))]; exact h7, gI_sI_eq, by rw [gI_sI_ne (Or.inr (by decide))]; exact hk, fun _ _ => ⟨by rw [gA_sI], by rw [gA_sI]⟩, by rw [gA_sI]; exact Ext.nil, by rw [gA_sI]; exact Ext.nil⟩
end EXC
