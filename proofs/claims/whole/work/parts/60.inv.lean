/-! What lasts from call to call: the class's side, the reference's side, one abstract state for both. -/
def En (b : Nat) (l : List Nat) : Nat := l.foldl (fun v ch => b * v + (ch - 96)) 0
def clS (m : pm_M) (a : Nat) (C : aC) : Prop := clC m a C ∧ ∀ i, i < C.1 → gA m (a + 1) i = nI (C.2.1 i)
abbrev aN : Type := Nat → List Nat
abbrev aK : Type := Nat → Option (aS × aC × aC)
abbrev aT : Type := Nat × (Nat → Nat)
def cPort (m : pm_M) (P : Nat) (π : aP) (b : aS) (nm : aN) : Prop := gR m 0 1 = P ∧ (P = 3 ∨ P = 15) ∧ gR m 0 2 = 18 - P ∧ okP m P ∧ vP m P = π ∧ vw m (P + 8) = b ∧ ∀ k, k < π.1 → gL m (P + 1) k = lN (En 27 (nm k))
def cDay (m : pm_M) (a : Nat) (D : aD) : Prop := gR m 0 3 = a ∧ (a = 27 ∨ a = 31) ∧ gR m 0 4 = 58 - a ∧ gI m a 3 = nI D.1 ∧ ∀ i, i < D.1 → lnC (gA m (a + 1) i) (gA m (a + 2) i) (gA m (a + 3) i) (D.2 i)
def cHis (m : pm_M) (hs : List aS) : Prop := ∃ x, x < 16 ∧ gI m 43 1 = nI x ∧ gI m 43 2 = nI hs.length ∧ ∀ j, j < hs.length → vw m (45 + 4 * ((x + 15 - j) % 16)) = hs.getD j aS0
def cMrk (m : pm_M) (mk : aK) : Prop := ∀ i, i < 4 → gI m (123 + 13 * i) 3 = bI (mk i).isSome ∧ ∀ y, mk i = some y → vw m (124 + 13 * i) = y.1 ∧ clS m (128 + 13 * i) y.2.1 ∧ clC m (132 + 13 * i) y.2.2
def cTap (m : pm_M) (tp : aT) : Prop := gI m 1 1 = nI tp.1 ∧ ∀ i, i < tp.1 → gA m 2 i = nI (tp.2 i)
def dPort (m : pm_M) (π : aP) (b : aS) (nm : aN) : Prop := RM m π ∧ BGm m π.1 b ∧ gI m 175 16 = nI π.1 ∧ ∀ k, k < π.1 → gL m 184 k = lN (En 37 (nm k))
def dClu (m : pm_M) (B : Nat) (C T : aC) : Prop := gA m 189 (B + 19) = nI C.1 ∧ (∀ i, i < C.1 → gA m 189 (B + 20 + 3 * i) = nI (C.2.1 i) ∧ gA m 189 (B + 20 + 3 * i + 1) = nI (C.2.2.1 i) ∧ gA m 189 (B + 20 + 3 * i + 2) = C.2.2.2 i) ∧ gA m 189 (B + 38) = nI T.1 ∧ ∀ i, i < T.1 → gA m 189 (B + 39 + 2 * i) = nI (T.2.2.1 i) ∧ gA m 189 (B + 39 + 2 * i + 1) = T.2.2.2 i
def dDay (m : pm_M) (D : aD) : Prop := gA m 186 0 = nI D.1 ∧ ∀ i, i < D.1 → gA m 186 (1 + 3 * i) = nI (D.2 i).1 ∧ gA m 186 (2 + 3 * i) = nI (D.2 i).2.1 ∧ gA m 186 (3 + 3 * i) = nI (D.2 i).2.2
def dHis (m : pm_M) (hs : List aS) : Prop := gI m 175 22 = nI hs.length ∧ ∀ j, j < hs.length → vm m (51 * (5 + (hs.length - 1 - j))) = hs.getD j aS0
def dMrk (m : pm_M) (mk : aK) : Prop := ∀ i, i < 4 → gA m 190 i = bI (mk i).isSome ∧ ∀ y, mk i = some y → vm m (51 * (1 + i)) = y.1 ∧ dClu m (51 * (1 + i)) y.2.1 y.2.2
def dTap (m : pm_M) (tp : aT) : Prop := gI m 175 2 = nI tp.1 ∧ ∀ i, i < tp.1 → gA m 176 i = nI (tp.2 i)
def wdv : List (List Nat) := [[112, 101, 114, 115, 111, 110], [98, 101, 97, 116, 115], [97, 115, 107, 115], [115, 101, 116, 115], [109, 111, 111, 100, 115], [97, 115, 107], [102, 114, 105, 103, 104, 116], [115, 111, 111, 116, 104, 101], [113, 117, 97, 114, 116, 101, 114], [112, 108, 97, 105, 110], [99, 104, 105, 108, 100], [111, 108, 100], [99, 97, 108, 109], [110, 111, 116], [97, 110, 100], [111, 114], [98, 101, 97, 116], [111, 117, 116], [97, 115, 107, 101, 100], [104, 111, 117, 114]]
def dWrd (m : pm_M) : Prop := ∀ k, k < 20 → gL m 180 k = lN (En 37 (wdv.getD k []))
def okC (n : Nat) (C : aC) : Prop := C.1 ≤ 6 ∧ ∀ i, i < C.1 → C.2.1 i < n ∧ C.2.2.1 i ≤ 24
def okT (T : aC) : Prop := T.1 ≤ 6 ∧ ∀ i, i < T.1 → T.2.2.1 i ≤ 40
def okch (x : Nat) : Prop := x = 10 ∨ (32 ≤ x ∧ x ≤ 126)
def okW (l : List Nat) : Prop := l.length ≤ 8 ∧ ∀ x ∈ l, 97 ≤ x ∧ x ≤ 122
def CLS (m : pm_M) (P a : Nat) (π : aP) (s b : aS) (C T : aC) (D : aD) (hs : List aS) (mk : aK) (tp : aT) (nm : aN) : Prop := cPort m P π b nm ∧ vw m 35 = s ∧ clS m 109 C ∧ clC m 113 T ∧ cDay m a D ∧ cHis m hs ∧ cMrk m mk ∧ cTap m tp
def MDS (m : pm_M) (π : aP) (s b : aS) (C T : aC) (D : aD) (hs : List aS) (mk : aK) (tp : aT) (nm : aN) : Prop := dPort m π b nm ∧ vm m 0 = s ∧ dClu m 0 C T ∧ dDay m D ∧ dHis m hs ∧ dMrk m mk ∧ dTap m tp ∧ dWrd m
def OKS (c : Nat) (π : aP) (s b : aS) (C T : aC) (D : aD) (hs : List aS) (mk : aK) (tp : aT) (nm : aN) : Prop := c ≤ 600 ∧ okS π.1 c s ∧ okS π.1 0 b ∧ okC π.1 C ∧ okT T ∧ (D.1 ≤ 40 ∧ ∀ i, i < D.1 → okL π.1 (D.2 i)) ∧ (hs.length ≤ 16 ∧ ∀ x ∈ hs, okS π.1 c x) ∧ (∀ i y, i < 4 → mk i = some y → okS π.1 c y.1 ∧ okC π.1 y.2.1 ∧ okT y.2.2) ∧ (tp.1 ≤ 1000 ∧ ∀ i, i < tp.1 → okch (tp.2 i)) ∧ ∀ k, k < π.1 → okW (nm k)
def INV (m : pm_M) (c : Nat) : Prop := (∃ P a π s b C T D hs mk tp nm, CLS m P a π s b C T D hs mk tp nm ∧ MDS m π s b C T D hs mk tp nm ∧ OKS c π s b C T D hs mk tp nm) ∧ ∃ k, k ≤ c ∧ gG m = List.replicate k pv_exc
section SMC
variable {m m' : pm_M} {L : List Nat} {P a : Nat} {π : aP} {s b : aS} {C T : aC} {D : aD} {hs : List aS} {mk : aK} {tp : aT} {nm : aN}
theorem clC.same (h : clC m a C) (hs : Same L m m') (h0 : a ∉ L) (h2 : a + 2 ∉ L) (h3 : a + 3 ∉ L) : clC m' a C := by
  unfold clC at h ⊢
  rw [hs.I h0, hs.A h2, hs.A h3]
  exact h
theorem clS.same (h : clS m a C) (hs : Same L m m') (h0 : a ∉ L) (h1 : a + 1 ∉ L) (h2 : a + 2 ∉ L) (h3 : a + 3 ∉ L) : clS m' a C := by
  refine ⟨h.1.same hs h0 h2 h3, ?_⟩
  rw [hs.A h1]
  exact h.2
def KPort : List Nat := [0, 3, 4, 5, 6, 7, 9, 10, 11, 12, 13, 14, 15, 16, 17, 18, 19, 21, 22, 23, 24, 25, 26]
theorem cPort.same (h : cPort m P π b nm) (hs : Same L m m') (hL : ∀ c ∈ KPort, c ∉ L) : cPort m' P π b nm := by
  obtain ⟨h1, h2, h3, h4, h5, h6, h7⟩ := h
  have z : ∀ d, d = 0 ∨ d = 1 ∨ d = 2 ∨ d = 3 ∨ d = 4 ∨ d = 6 ∨ d = 7 ∨ d = 8 ∨ d = 9 ∨ d = 10 ∨ d = 11 → P + d ∉ L := by
    intro d hd
    apply hL
    rcases h2 with rfl | rfl <;> rcases hd with rfl | rfl | rfl | rfl | rfl | rfl | rfl | rfl | rfl | rfl | rfl <;> decide
  have z0 : P ∉ L := z 0 (by omega)
  refine ⟨by rw [hs.R (hL 0 (by decide))]; exact h1, h2, by rw [hs.R (hL 0 (by decide))]; exact h3, ?_, ?_, ?_, ?_⟩
  · unfold okP at h4 ⊢
    rw [hs.I z0, hs.I (z 3 (by omega)), hs.I (z 3 (by omega)), hs.A (z 4 (by omega)), hs.A (z 7 (by omega))]
    exact h4
  · rw [← h5]
    unfold vP vL
    rw [hs.I z0, hs.I (z 3 (by omega)), hs.I (z 3 (by omega)), hs.A (z 4 (by omega)), hs.A (z 6 (by omega)), hs.A (z 7 (by omega))]
  · rw [← h6]
    refine vw_same hs (fun c hc => ?_)
    simp only [cSt, List.mem_cons, List.not_mem_nil, or_false] at hc
    rcases hc with rfl | rfl | rfl | rfl
    · exact z 8 (by omega)
    · exact z 9 (by omega)
    · exact z 10 (by omega)
    · exact z 11 (by omega)
  · rw [hs.Lr (z 1 (by omega))]; exact h7
theorem cDay.same (h : cDay m a D) (hs : Same L m m') (hL : ∀ c ∈ [0, 27, 28, 29, 30, 31, 32, 33, 34], c ∉ L) : cDay m' a D := by
  obtain ⟨h1, h2, h3, h4, h5⟩ := h
  have z : ∀ d, d = 0 ∨ d = 1 ∨ d = 2 ∨ d = 3 → a + d ∉ L := by
    intro d hd
    apply hL
    rcases h2 with rfl | rfl <;> rcases hd with rfl | rfl | rfl | rfl <;> decide
  have z0 : a ∉ L := z 0 (by omega)
  refine ⟨by rw [hs.R (hL 0 (by decide))]; exact h1, h2, by rw [hs.R (hL 0 (by decide))]; exact h3, by rw [hs.I z0]; exact h4, ?_⟩
  rw [hs.A (z 1 (by omega)), hs.A (z 2 (by omega)), hs.A (z 3 (by omega))]
  exact h5
def KHis : List Nat := [43, 45, 46, 47, 48, 49, 50, 51, 52, 53, 54, 55, 56, 57, 58, 59, 60, 61, 62, 63, 64, 65, 66, 67, 68, 69, 70, 71, 72, 73, 74, 75, 76, 77, 78, 79, 80, 81, 82, 83, 84, 85, 86, 87, 88, 89, 90, 91, 92, 93, 94, 95, 96, 97, 98, 99, 100, 101, 102, 103, 104, 105, 106, 107, 108]
theorem KHis_in {k : Nat} (h : 45 ≤ k) (h' : k < 109) : k ∈ KHis := by
  have : ∀ j, j < 64 → 45 + j ∈ KHis := by decide
  have := this (k - 45) (by omega)
  rw [show 45 + (k - 45) = k by omega] at this
  exact this
theorem cHis.same (h : cHis m hs) (hS : Same L m m') (hL : ∀ c ∈ KHis, c ∉ L) : cHis m' hs := by
  obtain ⟨x, h1, h2, h3, h4⟩ := h
  refine ⟨x, h1, by rw [hS.I (hL 43 (by decide))]; exact h2, by rw [hS.I (hL 43 (by decide))]; exact h3, fun j hj => ?_⟩
  rw [← h4 j hj]
  refine vw_same hS (fun c hc => hL c ?_)
  simp only [cSt, List.mem_cons, List.not_mem_nil, or_false] at hc
  have : (x + 15 - j) % 16 < 16 := Nat.mod_lt _ (by decide)
  exact KHis_in (by omega) (by omega)
def KMrk : List Nat := [123, 124, 125, 126, 127, 128, 129, 130, 131, 132, 133, 134, 135, 136, 137, 138, 139, 140, 141, 142, 143, 144, 145, 146, 147, 148, 149, 150, 151, 152, 153, 154, 155, 156, 157, 158, 159, 160, 161, 162, 163, 164, 165, 166, 167, 168, 169, 170, 171, 172, 173, 174]
theorem KMrk_in {k : Nat} (h : 123 ≤ k) (h' : k < 175) : k ∈ KMrk := by
  have : ∀ j, j < 52 → 123 + j ∈ KMrk := by decide
  have := this (k - 123) (by omega)
  rw [show 123 + (k - 123) = k by omega] at this
  exact this
theorem cMrk1.same {i : Nat} {y : Option (aS × aC × aC)} (hi : i < 4) (h : gI m (123 + 13 * i) 3 = bI y.isSome ∧ ∀ z, y = some z → vw m (124 + 13 * i) = z.1 ∧ clS m (128 + 13 * i) z.2.1 ∧ clC m (132 + 13 * i) z.2.2) (hS : Same L m m') (hL : ∀ d, d < 13 → 123 + 13 * i + d ∉ L) : gI m' (123 + 13 * i) 3 = bI y.isSome ∧ ∀ z, y = some z → vw m' (124 + 13 * i) = z.1 ∧ clS m' (128 + 13 * i) z.2.1 ∧ clC m' (132 + 13 * i) z.2.2 := by
  have z : ∀ c, 123 + 13 * i ≤ c → c < 136 + 13 * i → c ∉ L := fun c h1 h2 => by
    have := hL (c - (123 + 13 * i)) (by omega)
    rw [show 123 + 13 * i + (c - (123 + 13 * i)) = c by omega] at this
    exact this
  refine ⟨by rw [hS.I (z _ (by omega) (by omega))]; exact h.1, fun w hw => ?_⟩
  obtain ⟨h1, h2, h3⟩ := h.2 w hw
  refine ⟨?_, h2.same hS (z _ (by omega) (by omega)) (z _ (by omega) (by omega)) (z _ (by omega) (by omega)) (z _ (by omega) (by omega)), h3.same hS (z _ (by omega) (by omega)) (z _ (by omega) (by omega)) (z _ (by omega) (by omega))⟩
  rw [← h1]
  refine vw_same hS (fun c hc => ?_)
  simp only [cSt, List.mem_cons, List.not_mem_nil, or_false] at hc
  exact z c (by omega) (by omega)
theorem cMrk.same (h : cMrk m mk) (hS : Same L m m') (hL : ∀ c ∈ KMrk, c ∉ L) : cMrk m' mk := fun i hi => cMrk1.same hi (h i hi) hS (fun d hd => hL _ (KMrk_in (by omega) (by omega)))
theorem cTap.same (h : cTap m tp) (hS : Same L m m') (h1 : 1 ∉ L) (h2 : 2 ∉ L) : cTap m' tp := by
  unfold cTap at h ⊢
  rw [hS.I h1, hS.A h2]
  exact h
/-- only the reference's cells change: the class's side stays -/
theorem CLS.same (h : CLS m P a π s b C T D hs mk tp nm) (hS : Same L m m') (hL : ∀ c ∈ L, 175 ≤ c) : CLS m' P a π s b C T D hs mk tp nm := by
  obtain ⟨h1, h2, h3, h4, h5, h6, h7, h8⟩ := h
  have z : ∀ c, c < 175 → c ∉ L := fun c hc hc' => by have := hL c hc'; omega
  have zz : ∀ K : List Nat, (∀ c ∈ K, c < 175) → ∀ c ∈ K, c ∉ L := fun K hK c hc => z c (hK c hc)
  refine ⟨h1.same hS (zz _ (by decide)), ?_, h3.same hS (z _ (by decide)) (z _ (by decide)) (z _ (by decide)) (z _ (by decide)), h4.same hS (z _ (by decide)) (z _ (by decide)) (z _ (by decide)), h5.same hS (zz _ (by decide)), h6.same hS (zz _ (by decide)), h7.same hS (zz _ (by decide)), h8.same hS (z _ (by decide)) (z _ (by decide))⟩
  rw [← h2]
  exact vw_same hS (zz _ (by decide))
theorem vm_eq {B : Nat} (h : ∀ i, B ≤ i → i < B + 19 → gA m' 189 i = gA m 189 i) : vm m' B = vm m B := by
  unfold vm
  rw [h B (by omega) (by omega), show nr (fun k => gA m' 189 (B + 7 + k)) = nr (fun k => gA m 189 (B + 7 + k)) from nr_ext (fun k hk => h _ (by omega) (by omega)), show nr (fun k => gA m' 189 (B + 1 + k)) = nr (fun k => gA m 189 (B + 1 + k)) from nr_ext (fun k hk => h _ (by omega) (by omega)), show nr (fun k => gA m' 189 (B + 13 + k)) = nr (fun k => gA m 189 (B + 13 + k)) from nr_ext (fun k hk => h _ (by omega) (by omega))]
theorem dClu.same {B : Nat} (h : dClu m B C T) (hC : C.1 ≤ 6) (hT : T.1 ≤ 6) (he : ∀ i, B + 19 ≤ i → i < B + 51 → gA m' 189 i = gA m 189 i) : dClu m' B C T := by
  obtain ⟨h1, h2, h3, h4⟩ := h
  refine ⟨by rw [he _ (by omega) (by omega)]; exact h1, fun i hi => ?_, by rw [he _ (by omega) (by omega)]; exact h3, fun i hi => ?_⟩
  · rw [he _ (by omega) (by omega), he _ (by omega) (by omega), he _ (by omega) (by omega)]; exact h2 i hi
  · rw [he _ (by omega) (by omega), he _ (by omega) (by omega)]; exact h4 i hi
theorem dHis.same (h : dHis m hs) (h16 : hs.length ≤ 16) (h0 : gI m' 175 22 = gI m 175 22) (he : ∀ i, 255 ≤ i → i < 1071 → gA m' 189 i = gA m 189 i) : dHis m' hs := by
  refine ⟨by rw [h0]; exact h.1, fun j hj => ?_⟩
  rw [← h.2 j hj]
  exact vm_eq (fun i h1 h2 => he i (by omega) (by omega))
theorem dMrk.same {n c : Nat} (h : dMrk m mk) (ok : ∀ i y, i < 4 → mk i = some y → okS n c y.1 ∧ okC n y.2.1 ∧ okT y.2.2) (h0 : gA m' 190 = gA m 190) (he : ∀ i, 51 ≤ i → i < 255 → gA m' 189 i = gA m 189 i) : dMrk m' mk := by
  intro i hi
  refine ⟨by rw [h0]; exact (h i hi).1, fun y hy => ?_⟩
  obtain ⟨h1, h2⟩ := (h i hi).2 y hy
  obtain ⟨-, o2, o3⟩ := ok i y hi hy
  exact ⟨by rw [← h1]; exact vm_eq (fun k h1 h2 => he k (by omega) (by omega)), h2.same o2.1 o3.1 (fun k h1 h2 => he k (by omega) (by omega))⟩
theorem dPort.same (h : dPort m π b nm) (hS : Same L m m') (h0 : gI m' 175 16 = gI m 175 16) (hL : ∀ c ∈ [181, 182, 183, 184], c ∉ L) : dPort m' π b nm := by
  obtain ⟨h1, h2, h3, h4⟩ := h
  refine ⟨h1.same hS (hL _ (by decide)) (hL _ (by decide)) (hL _ (by decide)), ?_, by rw [h0]; exact h3, by rw [hS.Lr (hL _ (by decide))]; exact h4⟩
  unfold BGm
  rw [hS.A (hL 181 (by decide))]
  exact h2
theorem dDay.same (h : dDay m D) (h0 : gA m' 186 = gA m 186) : dDay m' D := by
  unfold dDay at h ⊢
  rw [h0]
  exact h
theorem dTap.same (h : dTap m tp) (h0 : gI m' 175 2 = gI m 175 2) (h1 : gA m' 176 = gA m 176) : dTap m' tp := by
  unfold dTap at h ⊢
  rw [h0, h1]
  exact h
theorem dWrd.same (h : dWrd m) (h0 : gL m' 180 = gL m 180) : dWrd m' := by
  unfold dWrd at h ⊢
  rw [h0]
  exact h
/-- only the class's cells change: the reference's side stays -/
theorem MDS.same {c : Nat} (h : MDS m π s b C T D hs mk tp nm) (ok : OKS c π s b C T D hs mk tp nm) (hS : Same L m m') (hL : ∀ c ∈ L, c < 175) : MDS m' π s b C T D hs mk tp nm := by
  obtain ⟨h1, h2, h3, h4, h5, h6, h7, h8⟩ := h
  have z : ∀ c, 175 ≤ c → c ∉ L := fun c hc hc' => by have := hL c hc'; omega
  have e : gA m' 189 = gA m 189 := hS.A (z _ (by decide))
  obtain ⟨o1, o2, o3, o4, o5, o6, o7, o8, -⟩ := ok
  refine ⟨h1.same hS (hS.I (z _ (by decide))) (fun c hc => z c ?_), ?_, h3.same o4.1 o5.1 (fun i _ _ => by rw [e]), h4.same (hS.A (z _ (by decide))), h5.same o7.1 (hS.I (z _ (by decide))) (fun i _ _ => by rw [e]), h6.same o8 (hS.A (z _ (by decide))) (fun i _ _ => by rw [e]), h7.same (hS.I (z _ (by decide))) (hS.A (z _ (by decide))), h8.same (hS.Lr (z _ (by decide)))⟩
  · have : ∀ c ∈ [181, 182, 183, 184], 175 ≤ c := by decide
    exact this c hc
  · rw [← h2]; exact vm_eq (fun i _ _ => by rw [e])
theorem CLS.q (h : CLS m P a π s b C T D hs mk tp nm) (hq : Q m m') : CLS m' P a π s b C T D hs mk tp nm := by
  obtain ⟨h1, h2, h3, h4, h5, h6, h7, h8⟩ := h
  have hS := hq.1
  refine ⟨h1.same hS (by decide), ?_, h3.same hS (by decide) (by decide) (by decide) (by decide), h4.same hS (by decide) (by decide) (by decide), h5.same hS (by decide), h6.same hS (by decide), h7.same hS (by decide), h8.same hS (by decide) (by decide)⟩
  rw [← h2]
  exact vw_same hS (by decide)
theorem MDS.q {c : Nat} (h : MDS m π s b C T D hs mk tp nm) (ok : OKS c π s b C T D hs mk tp nm) (hq : Q m m') : MDS m' π s b C T D hs mk tp nm := by
  obtain ⟨h1, h2, h3, h4, h5, h6, h7, h8⟩ := h
  have hS := hq.1
  obtain ⟨o1, o2, o3, o4, o5, o6, o7, o8, -⟩ := ok
  refine ⟨h1.same hS (hq.2.1 _ (by decide) (by decide)) (by decide), ?_, h3.same o4.1 o5.1 (fun i _ _ => hq.2.2 i (by omega)), h4.same (hS.A (by decide)), h5.same o7.1 (hq.2.1 _ (by decide) (by decide)) (fun i _ _ => hq.2.2 i (by omega)), h6.same o8 (hS.A (by decide)) (fun i _ _ => hq.2.2 i (by omega)), h7.same (hq.2.1 _ (by decide) (by decide)) (hS.A (by decide)), h8.same (hS.Lr (by decide))⟩
  rw [← h2]
  exact vm_eq (fun i _ _ => hq.2.2 i (by omega))
theorem okS.up {n c : Nat} {s : aS} (h : okS n c s) : okS n (c + 1) s := ⟨h.1, h.2.1, by obtain ⟨q, h1, h2⟩ := h.2.2; exact ⟨q, by omega, h2⟩⟩
theorem OKS.up {c : Nat} (ok : OKS c π s b C T D hs mk tp nm) (hc : c < 600) : OKS (c + 1) π s b C T D hs mk tp nm := by
  obtain ⟨o1, o2, o3, o4, o5, o6, o7, o8, o9⟩ := ok
  exact ⟨by omega, o2.up, o3, o4, o5, o6, ⟨o7.1, fun x hx => (o7.2 x hx).up⟩, fun i y hi hy => ⟨(o8 i y hi hy).1.up, (o8 i y hi hy).2⟩, o9⟩
theorem INV.q {c : Nat} (h : INV m c) (hc : c < 600) (hq : Q m m') : INV m' (c + 1) := by
  obtain ⟨⟨P, a, π, s, b, C, T, D, hs, mk, tp, nm, h1, h2, h3⟩, k, hk, hg⟩ := h
  exact ⟨⟨P, a, π, s, b, C, T, D, hs, mk, tp, nm, h1.q hq, h2.q h3 hq, h3.up hc⟩, k, by omega, by rw [hq.1.1]; exact hg⟩
end SMC
section IVU
variable {m : pm_M} {c P a : Nat} {π : aP} {s b : aS} {C T : aC} {D : aD} {hs : List aS} {mk : aK} {tp : aT} {nm : aN}
theorem CLS.hc (h : CLS m P a π s b C T D hs mk tp nm) : HC m P π s := ⟨h.1.1, h.1.2.1, h.1.2.2.2.1, h.1.2.2.2.2.1, h.2.1⟩
theorem MDS.hm (h : MDS m π s b C T D hs mk tp nm) (ok : OKS c π s b C T D hs mk tp nm) : HM m π s c := ⟨h.1.1, h.2.1, ok.2.1, by have := ok.1; omega⟩
theorem iv_SN (h : CLS m P a π s b C T D hs mk tp nm) (h' : MDS m π s b C T D hs mk tp nm) (ok : OKS c π s b C T D hs mk tp nm) : SN m π.1 C := by
  obtain ⟨d1, d2, -⟩ := h'.2.2.1
  refine ⟨h.2.2.1.1, fun i hi => ⟨h.2.2.1.2 i hi, (ok.2.2.2.1.2 i hi).1, (ok.2.2.2.1.2 i hi).2⟩, ?_, fun i hi => ?_⟩
  · rw [Nat.zero_add] at d1; exact d1
  · have := d2 i hi
    simp only [Nat.zero_add] at this
    exact this
theorem iv_TN (h : CLS m P a π s b C T D hs mk tp nm) (h' : MDS m π s b C T D hs mk tp nm) (ok : OKS c π s b C T D hs mk tp nm) : TN m T := by
  obtain ⟨-, -, d3, d4⟩ := h'.2.2.1
  refine ⟨h.2.2.2.1, fun i hi => ok.2.2.2.2.1.2 i hi, ?_, fun i hi => ?_⟩
  · rw [Nat.zero_add] at d3; exact d3
  · have := d4 i hi
    simp only [Nat.zero_add] at this
    exact this
theorem iv_DN (h : CLS m P a π s b C T D hs mk tp nm) (h' : MDS m π s b C T D hs mk tp nm) (ok : OKS c π s b C T D hs mk tp nm) : DN m π.1 a D := by
  obtain ⟨c1, c2, -, c4, c5⟩ := h.2.2.2.2.1
  obtain ⟨d1, d2⟩ := h'.2.2.2.1
  exact ⟨c1, c2, ok.2.2.2.2.2.1.1, c4, d1, fun i hi => ⟨c5 i hi, (d2 i hi).1, (d2 i hi).2.1, (d2 i hi).2.2, ok.2.2.2.2.2.1.2 i hi⟩⟩
theorem iv_BG (h : CLS m P a π s b C T D hs mk tp nm) (h' : MDS m π s b C T D hs mk tp nm) (ok : OKS c π s b C T D hs mk tp nm) : BG m P π.1 b := ⟨h.1.2.2.2.2.2.1, ok.2.2.1, h'.1.2.1⟩
theorem iv_hu (h : CLS m P a π s b C T D hs mk tp nm) (h' : MDS m π s b C T D hs mk tp nm) : gI m 175 22 = gI m 43 2 := by
  obtain ⟨x, -, -, h3, -⟩ := h.2.2.2.2.2.1
  rw [h3, h'.2.2.2.2.1.1]
theorem iv_tl (h : CLS m P a π s b C T D hs mk tp nm) (h' : MDS m π s b C T D hs mk tp nm) : gI m 175 2 = gI m 1 1 := by rw [h.2.2.2.2.2.2.2.1, h'.2.2.2.2.2.2.1.1]
end IVU
/-- a call: class and reference answer alike, and what lasts holds again -/
def AgI (X : pv_X) (Mc Mm : pv_M) (as : List Value) (m : pm_M) (c : Nat) : Prop := ∃ v m1 m2, pM X Mc (.ref 0 :: as) (hp m) = some (some (.int v), hp m1) ∧ pM X Mm (.ref 175 :: as) (hp m1) = some (some (.int v), hp m2) ∧ INV m2 (c + 1)
theorem Ag.inv {X : pv_X} {Mc Mm : pv_M} {as : List Value} {m : pm_M} {c : Nat} (h : INV m c) (hc : c < 600) (hA : Ag X Mc Mm as m) : AgI X Mc Mm as m c := by
  obtain ⟨v, m1, m2, e1, e2, q⟩ := hA
  exact ⟨v, m1, m2, e1, e2, h.q hc q⟩
