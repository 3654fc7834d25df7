/-! The reference: its cells. -/
section MDF
variable {m : pm_M} {X : pv_X} {k : Nat}
theorem Md_T : pm_T[175]? = some (.inr (11, [(0, 0), (2, 176), (0, 0), (0, 0), (2, 177), (2, 178), (2, 179), (0, 0), (0, 0), (2, 180), (2, 181), (2, 182), (2, 183), (0, 0), (2, 184), (2, 185), (0, 0), (0, 0), (2, 186), (2, 187), (2, 188), (2, 189), (0, 0), (2, 190), (2, 191), (2, 192), (2, 193), (0, 0), (2, 194), (1, 0)])) := rfl
theorem Md_rc : pv_rc (hp m) 175 11 = true := hp_rc Md_T
theorem Md_f0 : pv_fI (hp m) 175 11 0 = some (gI m 175 0) := hp_fI Md_T rfl
theorem Md_p0 {v : Int32} : pv_fp (hp m) 175 11 0 (.int v) = some (hp (sI m 175 0 v)) := hp_pI Md_T rfl
theorem Md_f1 : pv_fR (hp m) 175 11 1 = some 176 := hp_fR Md_T rfl
theorem Md_f2 : pv_fI (hp m) 175 11 2 = some (gI m 175 2) := hp_fI Md_T rfl
theorem Md_p2 {v : Int32} : pv_fp (hp m) 175 11 2 (.int v) = some (hp (sI m 175 2 v)) := hp_pI Md_T rfl
theorem Md_f3 : pv_fI (hp m) 175 11 3 = some (gI m 175 3) := hp_fI Md_T rfl
theorem Md_p3 {v : Int32} : pv_fp (hp m) 175 11 3 (.int v) = some (hp (sI m 175 3 v)) := hp_pI Md_T rfl
theorem Md_f4 : pv_fR (hp m) 175 11 4 = some 177 := hp_fR Md_T rfl
theorem Md_f5 : pv_fR (hp m) 175 11 5 = some 178 := hp_fR Md_T rfl
theorem Md_f6 : pv_fR (hp m) 175 11 6 = some 179 := hp_fR Md_T rfl
theorem Md_f7 : pv_fI (hp m) 175 11 7 = some (gI m 175 7) := hp_fI Md_T rfl
theorem Md_p7 {v : Int32} : pv_fp (hp m) 175 11 7 (.int v) = some (hp (sI m 175 7 v)) := hp_pI Md_T rfl
theorem Md_f8 : pv_fI (hp m) 175 11 8 = some (gI m 175 8) := hp_fI Md_T rfl
theorem Md_p8 {v : Int32} : pv_fp (hp m) 175 11 8 (.int v) = some (hp (sI m 175 8 v)) := hp_pI Md_T rfl
theorem Md_f9 : pv_fR (hp m) 175 11 9 = some 180 := hp_fR Md_T rfl
theorem Md_f10 : pv_fR (hp m) 175 11 10 = some 181 := hp_fR Md_T rfl
theorem Md_f11 : pv_fR (hp m) 175 11 11 = some 182 := hp_fR Md_T rfl
theorem Md_f12 : pv_fR (hp m) 175 11 12 = some 183 := hp_fR Md_T rfl
theorem Md_f13 : pv_fI (hp m) 175 11 13 = some (gI m 175 13) := hp_fI Md_T rfl
theorem Md_p13 {v : Int32} : pv_fp (hp m) 175 11 13 (.int v) = some (hp (sI m 175 13 v)) := hp_pI Md_T rfl
theorem Md_f14 : pv_fR (hp m) 175 11 14 = some 184 := hp_fR Md_T rfl
theorem Md_f15 : pv_fR (hp m) 175 11 15 = some 185 := hp_fR Md_T rfl
theorem Md_f16 : pv_fI (hp m) 175 11 16 = some (gI m 175 16) := hp_fI Md_T rfl
theorem Md_p16 {v : Int32} : pv_fp (hp m) 175 11 16 (.int v) = some (hp (sI m 175 16 v)) := hp_pI Md_T rfl
theorem Md_f17 : pv_fI (hp m) 175 11 17 = some (gI m 175 17) := hp_fI Md_T rfl
theorem Md_p17 {v : Int32} : pv_fp (hp m) 175 11 17 (.int v) = some (hp (sI m 175 17 v)) := hp_pI Md_T rfl
theorem Md_f18 : pv_fR (hp m) 175 11 18 = some 186 := hp_fR Md_T rfl
theorem Md_f19 : pv_fR (hp m) 175 11 19 = some 187 := hp_fR Md_T rfl
theorem Md_f20 : pv_fR (hp m) 175 11 20 = some 188 := hp_fR Md_T rfl
theorem Md_f21 : pv_fR (hp m) 175 11 21 = some 189 := hp_fR Md_T rfl
theorem Md_f22 : pv_fI (hp m) 175 11 22 = some (gI m 175 22) := hp_fI Md_T rfl
theorem Md_p22 {v : Int32} : pv_fp (hp m) 175 11 22 (.int v) = some (hp (sI m 175 22 v)) := hp_pI Md_T rfl
theorem Md_f23 : pv_fR (hp m) 175 11 23 = some 190 := hp_fR Md_T rfl
theorem Md_f24 : pv_fR (hp m) 175 11 24 = some 191 := hp_fR Md_T rfl
theorem Md_f25 : pv_fR (hp m) 175 11 25 = some 192 := hp_fR Md_T rfl
theorem Md_f26 : pv_fR (hp m) 175 11 26 = some 193 := hp_fR Md_T rfl
theorem Md_f27 : pv_fI (hp m) 175 11 27 = some (gI m 175 27) := hp_fI Md_T rfl
theorem Md_p27 {v : Int32} : pv_fp (hp m) 175 11 27 (.int v) = some (hp (sI m 175 27 v)) := hp_pI Md_T rfl
theorem Md_f28 : pv_fR (hp m) 175 11 28 = some 194 := hp_fR Md_T rfl
theorem Md_f29 : pv_fJ (hp m) 175 11 29 = some (gJ m 175 29) := hp_fJ Md_T rfl
theorem Md_p29 {v : Int64} : pv_fp (hp m) 175 11 29 (.long v) = some (hp (sJ m 175 29 v)) := hp_pJ Md_T rfl
theorem T_176 : pm_T[176]? = some (.inl (1, 1000)) := rfl
theorem ld_176 (h : k < 1000) : pv_aX X (hp m) 176 (nI k) = some (gA m 176 k) := ar_ld T_176 h (by decide)
theorem st_176 {x : Int32} (h : k < 1000) : pv_sI (hp m) 176 (nI k) x = some (hp (sA m 176 (upd (gA m 176) k x))) := ar_st T_176 h (by decide)
theorem T_177 : pm_T[177]? = some (.inl (1, 1002)) := rfl
theorem ld_177 (h : k < 1002) : pv_aX X (hp m) 177 (nI k) = some (gA m 177 k) := ar_ld T_177 h (by decide)
theorem st_177 {x : Int32} (h : k < 1002) : pv_sI (hp m) 177 (nI k) x = some (hp (sA m 177 (upd (gA m 177) k x))) := ar_st T_177 h (by decide)
theorem T_178 : pm_T[178]? = some (.inl (1, 1002)) := rfl
theorem ld_178 (h : k < 1002) : pv_aX X (hp m) 178 (nI k) = some (gA m 178 k) := ar_ld T_178 h (by decide)
theorem st_178 {x : Int32} (h : k < 1002) : pv_sI (hp m) 178 (nI k) x = some (hp (sA m 178 (upd (gA m 178) k x))) := ar_st T_178 h (by decide)
theorem T_179 : pm_T[179]? = some (.inl (2, 1002)) := rfl
theorem ld_179 (h : k < 1002) : pv_aJ (hp m) 179 (nI k) = some (gL m 179 k) := by rw [hp_aJ T_179, if_pos (pv_in_nI h (by decide)), nI_clamp (by omega)]
theorem st_179 {x : Int64} (h : k < 1002) : pv_sJ (hp m) 179 (nI k) x = some (hp (sL m 179 (vp_updL (gL m 179) k x))) := by rw [hp_sJ T_179, if_pos (pv_in_nI h (by decide)), nI_clamp (by omega)]
theorem T_180 : pm_T[180]? = some (.inl (2, 20)) := rfl
theorem ld_180 (h : k < 20) : pv_aJ (hp m) 180 (nI k) = some (gL m 180 k) := by rw [hp_aJ T_180, if_pos (pv_in_nI h (by decide)), nI_clamp (by omega)]
theorem st_180 {x : Int64} (h : k < 20) : pv_sJ (hp m) 180 (nI k) x = some (hp (sL m 180 (vp_updL (gL m 180) k x))) := by rw [hp_sJ T_180, if_pos (pv_in_nI h (by decide)), nI_clamp (by omega)]
theorem T_181 : pm_T[181]? = some (.inl (1, 60)) := rfl
theorem ld_181 (h : k < 60) : pv_aX X (hp m) 181 (nI k) = some (gA m 181 k) := ar_ld T_181 h (by decide)
theorem st_181 {x : Int32} (h : k < 60) : pv_sI (hp m) 181 (nI k) x = some (hp (sA m 181 (upd (gA m 181) k x))) := ar_st T_181 h (by decide)
theorem T_182 : pm_T[182]? = some (.inl (1, 2200)) := rfl
theorem ld_182 (h : k < 2200) : pv_aX X (hp m) 182 (nI k) = some (gA m 182 k) := ar_ld T_182 h (by decide)
theorem st_182 {x : Int32} (h : k < 2200) : pv_sI (hp m) 182 (nI k) x = some (hp (sA m 182 (upd (gA m 182) k x))) := ar_st T_182 h (by decide)
theorem T_183 : pm_T[183]? = some (.inl (1, 2200)) := rfl
theorem ld_183 (h : k < 2200) : pv_aX X (hp m) 183 (nI k) = some (gA m 183 k) := ar_ld T_183 h (by decide)
theorem st_183 {x : Int32} (h : k < 2200) : pv_sI (hp m) 183 (nI k) x = some (hp (sA m 183 (upd (gA m 183) k x))) := ar_st T_183 h (by decide)
theorem T_184 : pm_T[184]? = some (.inl (2, 6)) := rfl
theorem ld_184 (h : k < 6) : pv_aJ (hp m) 184 (nI k) = some (gL m 184 k) := by rw [hp_aJ T_184, if_pos (pv_in_nI h (by decide)), nI_clamp (by omega)]
theorem st_184 {x : Int64} (h : k < 6) : pv_sJ (hp m) 184 (nI k) x = some (hp (sL m 184 (vp_updL (gL m 184) k x))) := by rw [hp_sJ T_184, if_pos (pv_in_nI h (by decide)), nI_clamp (by omega)]
theorem T_185 : pm_T[185]? = some (.inl (2, 6)) := rfl
theorem ld_185 (h : k < 6) : pv_aJ (hp m) 185 (nI k) = some (gL m 185 k) := by rw [hp_aJ T_185, if_pos (pv_in_nI h (by decide)), nI_clamp (by omega)]
theorem st_185 {x : Int64} (h : k < 6) : pv_sJ (hp m) 185 (nI k) x = some (hp (sL m 185 (vp_updL (gL m 185) k x))) := by rw [hp_sJ T_185, if_pos (pv_in_nI h (by decide)), nI_clamp (by omega)]
theorem T_186 : pm_T[186]? = some (.inl (1, 250)) := rfl
theorem ld_186 (h : k < 250) : pv_aX X (hp m) 186 (nI k) = some (gA m 186 k) := ar_ld T_186 h (by decide)
theorem st_186 {x : Int32} (h : k < 250) : pv_sI (hp m) 186 (nI k) x = some (hp (sA m 186 (upd (gA m 186) k x))) := ar_st T_186 h (by decide)
theorem T_187 : pm_T[187]? = some (.inl (1, 4)) := rfl
theorem ld_187 (h : k < 4) : pv_aX X (hp m) 187 (nI k) = some (gA m 187 k) := ar_ld T_187 h (by decide)
theorem st_187 {x : Int32} (h : k < 4) : pv_sI (hp m) 187 (nI k) x = some (hp (sA m 187 (upd (gA m 187) k x))) := ar_st T_187 h (by decide)
theorem T_188 : pm_T[188]? = some (.inl (1, 1100)) := rfl
theorem ld_188 (h : k < 1100) : pv_aX X (hp m) 188 (nI k) = some (gA m 188 k) := ar_ld T_188 h (by decide)
theorem st_188 {x : Int32} (h : k < 1100) : pv_sI (hp m) 188 (nI k) x = some (hp (sA m 188 (upd (gA m 188) k x))) := ar_st T_188 h (by decide)
theorem T_189 : pm_T[189]? = some (.inl (1, 1173)) := rfl
theorem ld_189 (h : k < 1173) : pv_aX X (hp m) 189 (nI k) = some (gA m 189 k) := ar_ld T_189 h (by decide)
theorem st_189 {x : Int32} (h : k < 1173) : pv_sI (hp m) 189 (nI k) x = some (hp (sA m 189 (upd (gA m 189) k x))) := ar_st T_189 h (by decide)
theorem T_190 : pm_T[190]? = some (.inl (3, 4)) := rfl
theorem ld_190 (h : k < 4) : pv_aI (hp m) 3 190 (nI k) = some (gA m 190 k) := by rw [hp_aI (by decide) T_190, if_pos (pv_in_nI h (by decide)), nI_clamp (by omega)]
theorem st_190 {x : Int32} (h : k < 4) : pv_sZ (hp m) 190 (nI k) x = some (hp (sA m 190 (upd (gA m 190) k (vp_nar .boolean x)))) := by rw [hp_sZ T_190, if_pos (pv_in_nI h (by decide)), nI_clamp (by omega)]
theorem T_191 : pm_T[191]? = some (.inl (1, 6)) := rfl
theorem ld_191 (h : k < 6) : pv_aX X (hp m) 191 (nI k) = some (gA m 191 k) := ar_ld T_191 h (by decide)
theorem st_191 {x : Int32} (h : k < 6) : pv_sI (hp m) 191 (nI k) x = some (hp (sA m 191 (upd (gA m 191) k x))) := ar_st T_191 h (by decide)
theorem T_192 : pm_T[192]? = some (.inl (1, 6)) := rfl
theorem ld_192 (h : k < 6) : pv_aX X (hp m) 192 (nI k) = some (gA m 192 k) := ar_ld T_192 h (by decide)
theorem st_192 {x : Int32} (h : k < 6) : pv_sI (hp m) 192 (nI k) x = some (hp (sA m 192 (upd (gA m 192) k x))) := ar_st T_192 h (by decide)
theorem T_193 : pm_T[193]? = some (.inl (1, 6)) := rfl
theorem ld_193 (h : k < 6) : pv_aX X (hp m) 193 (nI k) = some (gA m 193 k) := ar_ld T_193 h (by decide)
theorem st_193 {x : Int32} (h : k < 6) : pv_sI (hp m) 193 (nI k) x = some (hp (sA m 193 (upd (gA m 193) k x))) := ar_st T_193 h (by decide)
theorem T_194 : pm_T[194]? = some (.inl (1, 900)) := rfl
theorem ld_194 (h : k < 900) : pv_aX X (hp m) 194 (nI k) = some (gA m 194 k) := ar_ld T_194 h (by decide)
theorem st_194 {x : Int32} (h : k < 900) : pv_sI (hp m) 194 (nI k) x = some (hp (sA m 194 (upd (gA m 194) k x))) := ar_st T_194 h (by decide)
end MDF
theorem n3 (a b c : Nat) : nI a + nI b + nI c = nI (a + b + c) := by rw [nI_add, nI_add]
/-- the reference's state at a place of its row -/
def vm (m : pm_M) (b : Nat) : aS := (nr (fun k => gA m 189 (b + 7 + k)), nr (fun k => gA m 189 (b + 1 + k)), nr (fun k => gA m 189 (b + 13 + k)), gA m 189 b)
/-- nothing else of that row, nothing but scratch rows -/
def SameM (b : Nat) (m m' : pm_M) : Prop := Same [187, 188, 189, 191] m m' ∧ ∀ i, i < b ∨ b + 19 ≤ i → gA m' 189 i = gA m 189 i
theorem SameM.rf {b : Nat} {m : pm_M} : SameM b m m := ⟨Same.rf, fun _ _ => rfl⟩
theorem SameM.tr {b : Nat} {m m' m'' : pm_M} (h : SameM b m m') (h' : SameM b m' m'') : SameM b m m'' := ⟨h.1.tr h'.1, fun i hi => (h'.2 i hi).trans (h.2 i hi)⟩
theorem SameM.put {b k : Nat} {m : pm_M} {x : Int32} (h1 : b ≤ k) (h2 : k < b + 19) : SameM b m (sA m 189 (upd (gA m 189) k x)) := ⟨Same.sA (by simp), fun i hi => by rw [gA_sA, if_pos rfl, pk_un (by omega)]⟩
theorem SameM.scr {b : Nat} {m : pm_M} {c : Nat} {f : Nat → Int32} (hc : c = 187 ∨ c = 188 ∨ c = 191) : SameM b m (sA m c f) := ⟨Same.sA (by rcases hc with rfl | rfl | rfl <;> simp), fun i hi => by rw [gA_sA, if_neg (by omega)]⟩
theorem vm_scr {b c : Nat} {m : pm_M} {f : Nat → Int32} (hc : c = 187 ∨ c = 188 ∨ c = 191) : vm (sA m c f) b = vm m b := by unfold vm; rw [gA_sA, if_neg (by omega)]
theorem vm_other {b b' : Nat} {m m' : pm_M} (h : SameM b m m') (hb : b' + 19 ≤ b ∨ b + 19 ≤ b') : vm m' b' = vm m b' := by
  unfold vm
  rw [h.2 b' (by omega)]
  rw [show nr (fun k => gA m' 189 (b' + 7 + k)) = nr (fun k => gA m 189 (b' + 7 + k)) from nr_ext (fun k hk => h.2 _ (by omega)), show nr (fun k => gA m' 189 (b' + 1 + k)) = nr (fun k => gA m 189 (b' + 1 + k)) from nr_ext (fun k hk => h.2 _ (by omega)), show nr (fun k => gA m' 189 (b' + 13 + k)) = nr (fun k => gA m 189 (b' + 13 + k)) from nr_ext (fun k hk => h.2 _ (by omega))]
/-- the row's places: a time, beats, how often asked, quarters -/
theorem vm_t {b k : Nat} {m : pm_M} {x : Int32} (hk : k < 6) : vm (sA m 189 (upd (gA m 189) (b + 7 + k) x)) b = (upd (vm m b).1 k x, (vm m b).2) := by
  unfold vm
  rw [gA_sA, if_pos rfl]
  refine Prod.ext ?_ (Prod.ext ?_ (Prod.ext ?_ ?_))
  · show nr _ = upd (nr _) k x
    rw [← nr_upd hk]
    refine nr_ext (fun j hj => ?_)
    by_cases h : j = k
    · subst h; rw [pk_us, pk_us]
    · rw [pk_un (by omega), pk_un h]
  · exact nr_ext (fun j hj => pk_un (by omega))
  · exact nr_ext (fun j hj => pk_un (by omega))
  · exact pk_un (by omega)
theorem vm_b {b k : Nat} {m : pm_M} {x : Int32} (hk : k < 6) : vm (sA m 189 (upd (gA m 189) (b + 1 + k) x)) b = ((vm m b).1, upd (vm m b).2.1 k x, (vm m b).2.2) := by
  unfold vm
  rw [gA_sA, if_pos rfl]
  refine Prod.ext ?_ (Prod.ext ?_ (Prod.ext ?_ ?_))
  · exact nr_ext (fun j hj => pk_un (by omega))
  · show nr _ = upd (nr _) k x
    rw [← nr_upd hk]
    refine nr_ext (fun j hj => ?_)
    by_cases h : j = k
    · subst h; rw [pk_us, pk_us]
    · rw [pk_un (by omega), pk_un h]
  · exact nr_ext (fun j hj => pk_un (by omega))
  · exact pk_un (by omega)
theorem vm_a {b k : Nat} {m : pm_M} {x : Int32} (hk : k < 6) : vm (sA m 189 (upd (gA m 189) (b + 13 + k) x)) b = ((vm m b).1, (vm m b).2.1, upd (vm m b).2.2.1 k x, (vm m b).2.2.2) := by
  unfold vm
  rw [gA_sA, if_pos rfl]
  refine Prod.ext ?_ (Prod.ext ?_ (Prod.ext ?_ ?_))
  · exact nr_ext (fun j hj => pk_un (by omega))
  · exact nr_ext (fun j hj => pk_un (by omega))
  · show nr _ = upd (nr _) k x
    rw [← nr_upd hk]
    refine nr_ext (fun j hj => ?_)
    by_cases h : j = k
    · subst h; rw [pk_us, pk_us]
    · rw [pk_un (by omega), pk_un h]
  · exact pk_un (by omega)
theorem vm_q {b : Nat} {m : pm_M} {x : Int32} : vm (sA m 189 (upd (gA m 189) b x)) b = ((vm m b).1, (vm m b).2.1, (vm m b).2.2.1, x) := by
  unfold vm
  rw [gA_sA, if_pos rfl]
  refine Prod.ext ?_ (Prod.ext ?_ (Prod.ext ?_ ?_))
  · exact nr_ext (fun j hj => pk_un (by omega))
  · exact nr_ext (fun j hj => pk_un (by omega))
  · exact nr_ext (fun j hj => pk_un (by omega))
  · exact pk_us
/-- out of minutes, round the twelve hours -/
def ob (v : Int32) : Int32 := if (-360) ≤ rm v 720 then (if rm v 720 < 360 then rm v 720 else rm v 720 - 720) else rm v 720 + 720
/-- kept within bounds -/
def kp (v l u : Int32) : Int32 := if l ≤ v then (if v ≤ u then v else u) else l
section MDM
variable {m : pm_M} {X : pv_X} {b k o : Nat} {h : pv_H}
theorem d_persons : pM X m_Md_persons [.ref 175] (hp m) = some (some (.int (gA m 181 0)), hp m) := by
  rw [e_Md_persons, u_Md_persons_0, Md_f10]
  simp only [Option.bind_some]
  rw [show (0 : Int32) = nI 0 from rfl, ld_181 (by decide)]
  rfl
theorem d_personOf {j : Nat} (hk : k < 6) (hj : j < 4) : pM X m_Md_personOf [.ref 175, .int (nI k), .int (nI j)] (hp m) = some (some (.int (gA m 181 (2 + 4 * k + j))), hp m) := by
  rw [e_Md_personOf, u_Md_personOf_0, Md_f10]
  simp only [Option.bind_some]
  rw [show (2 + 4 * nI k + nI j : Int32) = nI (2 + 4 * k + j) from by rw [show (2 : Int32) = nI 2 from rfl, show (4 : Int32) = nI 4 from rfl, pk_mul, nI_add, nI_add], ld_181 (by omega)]
  rfl
theorem d_kept {v l u : Int32} : pM X m_Md_kept [.int v, .int l, .int u] h = some (some (.int (kp v l u)), h) := by
  rw [e_Md_kept, u_Md_kept_0]
  simp only [u_Md_kept_19]
  unfold kp
  by_cases h1 : l ≤ v <;> by_cases h2 : v ≤ u <;> simp [h1, h2]
theorem d_unsigned {v : Int32} : pM X m_Md_unsigned [.int v] h = some (some (.int (ab v)), h) := by
  rw [e_Md_unsigned, u_Md_unsigned_0]
  simp only [u_Md_unsigned_10]
  unfold ab
  by_cases h1 : 0 ≤ v <;> simp [h1]
theorem d_outBy {v : Int32} : pM X m_Md_outBy_1 [.int v] h = some (some (.int (ob v)), h) := by
  rw [e_Md_outBy_1, u_Md_outBy_1_0]
  simp only [u_Md_outBy_1_37]
  unfold ob rm
  split
  · split <;> rfl
  · rfl
theorem d_trueOf (hb : b < 1173) : pM X m_Md_trueOf [.ref 175, .int (nI b)] (hp m) = some (some (.int (rm (15 * (vm m b).2.2.2) 720)), hp m) := by
  rw [e_Md_trueOf, u_Md_trueOf_0, Md_f21]
  simp only [Option.bind_some]
  rw [show (nI b + 0 : Int32) = nI b from by rw [show (0 : Int32) = nI 0 from rfl, nI_add]; rfl, ld_189 hb]
  rfl
theorem d_outOf (hb : b + 19 ≤ 1173) (hk : k < 6) : pM X m_Md_outOf [.ref 175, .int (nI b), .int (nI k)] (hp m) = some (some (.int (ob ((vm m b).1 k - rm (15 * (vm m b).2.2.2) 720))), hp m) := by
  rw [e_Md_outOf, u_Md_outOf_0, Md_f21]
  simp only [Option.bind_some]
  rw [show (7 : Int32) = nI 7 from rfl, n3, ld_189 (by omega)]
  simp only [Option.bind_some, Md_rc, if_true, d_trueOf (show b < 1173 by omega), pv_tI, d_outBy]
  have e : (vm m b).1 k = gA m 189 (b + 7 + k) := nr_lt (f := fun j => gA m 189 (b + 7 + j)) hk
  rw [e]
theorem d_stepOf (hb : b + 19 ≤ 1173) (hk : k < 6) : pM X m_Md_stepOf [.ref 175, .int (nI b), .int (nI k)] (hp m) = some (some (.int ((vm m b).2.1 k / 4 + stp (gA m 181 (2 + 4 * k)))), hp m) := by
  rw [e_Md_stepOf, u_Md_stepOf_0]
  rw [show (0 : Int32) = nI 0 from rfl, d_personOf hk (by decide)]
  simp only [Md_rc, if_true, pv_tI, Option.bind_some, Md_f21]
  rw [show (1 : Int32) = nI 1 from rfl, n3, ld_189 (by omega)]
  simp only [Option.bind_some, u_Md_stepOf_39, Nat.add_zero]
  have e : (vm m b).2.1 k = gA m 189 (b + 1 + k) := nr_lt (f := fun j => gA m 189 (b + 1 + j)) hk
  rw [e]
  unfold stp
  rw [show (nI 1 : Int32) = 1 from rfl, show (nI 0 : Int32) = 0 from rfl]
  by_cases h1 : gA m 181 (2 + 4 * k) = 1
  · simp [h1]
  · by_cases h2 : gA m 181 (2 + 4 * k) = 2 <;> simp [h1, h2]
theorem d_asks (hb : b + 19 ≤ 1173) (hk : k < 6) (ho : o < 6) : ∃ m', pM X m_Md_asks [.ref 175, .int (nI b), .int (nI k), .int (nI o)] (hp m) = some (none, hp m') ∧ vm m' b = aAsk (vm m b) k o ∧ SameM b m m' := by
  rw [e_Md_asks, u_Md_asks_0, Md_f21]
  simp only [Option.bind_some]
  rw [show (7 : Int32) = nI 7 from rfl, show (13 : Int32) = nI 13 from rfl, n3, n3, n3, ld_189 (by omega)]
  simp only [Option.bind_some]
  rw [st_189 (by omega)]
  simp only [Option.bind_some, Md_f21]
  rw [ld_189 (by omega)]
  simp only [Option.bind_some]
  rw [st_189 (by omega)]
  simp only [Option.bind_some]
  refine ⟨_, rfl, ?_, (SameM.put (by omega) (by omega)).tr (SameM.put (by omega) (by omega))⟩
  rw [vm_a ho, vm_t hk]
  have e1 : (vm m b).1 o = gA m 189 (b + 7 + o) := nr_lt (f := fun j => gA m 189 (b + 7 + j)) ho
  have e2 : (vm m b).2.2.1 o = gA m 189 (b + 13 + o) := nr_lt (f := fun j => gA m 189 (b + 13 + j)) ho
  have e3 : gA (sA m 189 (upd (gA m 189) (b + 7 + k) (gA m 189 (b + 7 + o)))) 189 (b + 13 + o) = gA m 189 (b + 13 + o) := by rw [gA_sA, if_pos rfl, pk_un (by omega)]
  simp only [aAsk, e1, e2, e3]
theorem d_beatsMore (hb : b + 19 ≤ 1173) (hk : k < 6) {v : Int32} : ∃ m', pM X m_Md_beatsMore [.ref 175, .int (nI b), .int (nI k), .int v] (hp m) = some (none, hp m') ∧ vm m' b = ((vm m b).1, upd (vm m b).2.1 k (kp ((vm m b).2.1 k + v) 20 160), (vm m b).2.2) ∧ SameM b m m' := by
  rw [e_Md_beatsMore, u_Md_beatsMore_0, Md_f21]
  simp only [Option.bind_some]
  rw [show (1 : Int32) = nI 1 from rfl, n3, ld_189 (by omega)]
  simp only [Option.bind_some, d_kept, pv_tI]
  rw [st_189 (by omega)]
  simp only [Option.bind_some]
  refine ⟨_, rfl, ?_, SameM.put (by omega) (by omega)⟩
  have e1 : (vm m b).2.1 k = gA m 189 (b + 1 + k) := nr_lt (f := fun j => gA m 189 (b + 1 + j)) hk
  rw [vm_b hk, e1]
end MDM
