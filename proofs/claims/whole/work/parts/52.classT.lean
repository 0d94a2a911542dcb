/-! the class's shelf: counts, putting, freeing, samples -/
section CLASST
variable {n : Nat} {h : mH} {A M : Nat → Nat → Int32} {R : Nat → Nat → Option Nat} {b a : Nat} {L : Lib} {p w : List Nat}
theorem lNp_snoc (L : Lib) (k : Nat) : ((List.range (k + 1)).filter fun q => decide (lP L q ≠ [])).length = ((List.range k).filter fun q => decide (lP L q ≠ [])).length + (if lP L k = [] then 0 else 1) := by
  rw [List.range_succ, List.filter_append, List.length_append]
  congr 1
  by_cases e : lP L k = [] <;> simp [e]
theorem lNp_le (L : Lib) (k : Nat) : ((List.range k).filter fun q => decide (lP L q ≠ [])).length ≤ k := by
  have := List.length_filter_le (fun q => decide (lP L q ≠ [])) (List.range k)
  rw [List.length_range] at this
  exact this
def lSum (L : Lib) (k : Nat) : Nat := ((List.range k).map fun q => nLet (lP L q)).sum
theorem lSum_snoc (L : Lib) (k : Nat) : lSum L (k + 1) = lSum L k + nLet (lP L k) := by
  unfold lSum
  rw [List.range_succ, List.map_append, List.sum_append]
  simp
theorem c_letters (hp : Pat n h a p) : f_X4_letters a (E n h A M R) = some (nI (nLet p), E n h A M R) := by
  obtain ⟨p1, p2, p3, q, q1, q2, q3, q4, q5, q6, q7, q8⟩ := hp
  unfold f_X4_letters
  simp (disch := omega) only [↓grd_u, ↓bnd_e, ↓orf_u, ↓oif_u, ↓cal_u, ↓calX_u, ↓inrO_u, ↓reduceIte, EM, EMg, EMs, z0, oi, n_inbT, n_cntT, n_ltT, n_ltF, n_leT, n_leF, n_eqT, n_eqF, n_m1T, n_m1F, n_m1F', n_cl, n_add, n_mul, ro_at, ro_ro, up_at, up_up, kd_X, gi_X, p3, q7]
theorem c_large (hp : Pat n h a p) (hl : p.length ≤ 255) : f_X4_isTooLarge a (E n h A M R) = some (nI (b1 (8 ≤ nLet p ∨ 10 ≤ nSig p)), E n h A M R) := by
  have l1 := nLet_le p
  have l2 := nSig_le p
  obtain ⟨p1, p2, p3, q, q1, q2, q3, q4, q5, q6, q7, q8⟩ := hp
  unfold f_X4_isTooLarge g_X4_isTooLarge_18 g_X4_isTooLarge_23
  by_cases h1 : 8 ≤ nLet p
  · simp (disch := omega) only [↓grd_u, ↓bnd_e, ↓orf_u, ↓oif_u, ↓cal_u, ↓calX_u, ↓inrO_u, ↓reduceIte, EM, EMg, EMs, z0, oi, n_inbT, n_cntT, n_ltT, n_ltF, n_leT, n_leF, n_eqT, n_eqF, n_m1T, n_m1F, n_m1F', n_cl, n_add, n_mul, ro_at, ro_ro, up_at, up_up, kd_X, gi_X, p3, q7, q8, nz1]
    unfold b1
    rw [if_pos (Or.inl h1)]
  · by_cases h2 : 10 ≤ nSig p
    · simp (disch := omega) only [↓grd_u, ↓bnd_e, ↓orf_u, ↓oif_u, ↓cal_u, ↓calX_u, ↓inrO_u, ↓reduceIte, EM, EMg, EMs, z0, oi, n_inbT, n_cntT, n_ltT, n_ltF, n_leT, n_leF, n_eqT, n_eqF, n_m1T, n_m1F, n_m1F', n_cl, n_add, n_mul, ro_at, ro_ro, up_at, up_up, kd_X, gi_X, p3, q7, q8, nz1]
      unfold b1
      rw [if_pos (Or.inr h2)]
    · simp (disch := omega) only [↓grd_u, ↓bnd_e, ↓orf_u, ↓oif_u, ↓cal_u, ↓calX_u, ↓inrO_u, ↓reduceIte, EM, EMg, EMs, z0, oi, n_inbT, n_cntT, n_ltT, n_ltF, n_leT, n_leF, n_eqT, n_eqF, n_m1T, n_m1F, n_m1F', n_cl, n_add, n_mul, ro_at, ro_ro, up_at, up_up, kd_X, gi_X, p3, q7, q8, nz0]
      unfold b1
      rw [if_neg (by omega)]
theorem c_wsize (hw : Wrd n h a w) : f_X10_size a (E n h A M R) = some (nI w.length, E n h A M R) := by
  obtain ⟨p1, p2, p3, q, q1, q2, q3, q4, q5, q6⟩ := hw
  unfold f_X10_size
  simp (disch := omega) only [↓grd_u, ↓bnd_e, ↓orf_u, ↓oif_u, ↓cal_u, ↓calX_u, ↓inrO_u, ↓reduceIte, EM, EMg, EMs, z0, oi, n_inbT, n_cntT, n_ltT, n_ltF, n_leT, n_leF, n_eqT, n_eqF, n_m1T, n_m1F, n_m1F', n_cl, n_add, n_mul, ro_at, ro_ro, up_at, up_up, kd_X, gr_X, sz_X, p3, q1, q4, q5]
theorem ShOK_no {s : Nat} (hs : ShOK n h A R b L) (h6 : s < 6) (he : lP L s = []) : R (b + 1) s = none := by
  have := hs.2.2.1 s h6
  cases e : R (b + 1) s with
  | none => rfl
  | some a => rw [e] at this; exact absurd he this.1
theorem ShOK_so {s : Nat} (hs : ShOK n h A R b L) (h6 : s < 6) (he : lP L s ≠ []) : ∃ a, R (b + 1) s = some a ∧ Pat n h a (lP L s) := by
  have := hs.2.2.1 s h6
  cases e : R (b + 1) s with
  | none => rw [e] at this; exact absurd this he
  | some a => rw [e] at this; exact ⟨a, rfl, this.2⟩
theorem c_patternTotal (hb : bSh b) (hs : ShOK n h A R b L) : f_X6_patternTotal (ca n b) (E n h A M R) = some (nI (nPat L), E n h A M R) := by
  have e1 := ESh hb
  have e1r := EShr hb
  unfold f_X6_patternTotal g_X6_patternTotal_13
  simp (disch := omega) only [↓grd_u, ↓bnd_e, ↓orf_u, ↓oif_u, ↓cal_u, ↓calX_u, ↓inrO_u, ↓reduceIte, EM, EMg, EMs, z0, oi, n_inbT, n_cntT, n_ltT, n_ltF, n_leT, n_leF, n_eqT, n_eqF, n_m1T, n_m1F, n_m1F', n_cl, n_add, n_mul, ro_at, ro_ro, up_at, up_up, e1]
  have hl := lp_for0 (f := b_X6_patternTotal_13 (ca n (b + 1)) (nI 6)) (fun k => (nI ((List.range k).filter fun q => decide (lP L q ≠ [])).length, nI k, E n h A M R)) 6 (nI (nPat L), E n h A M R) (fun k hk => ?_) ?_ (L := 100000) (by decide)
  · exact hl
  · unfold b_X6_patternTotal_13 b0_X6_patternTotal_13 g_X6_patternTotal_36
    rw [lNp_snoc]
    by_cases he : lP L k = []
    · have hk0 := ShOK_no hs hk he
      simp (disch := omega) only [↓grd_u, ↓bnd_e, ↓orf_u, ↓oif_u, ↓cal_u, ↓calX_u, ↓inrO_u, ↓reduceIte, EM, EMg, EMs, z0, oi, n_inbT, n_cntT, n_ltT, n_ltF, n_leT, n_leF, n_eqT, n_eqF, n_m1T, n_m1F, n_m1F', n_cl, n_add, n_mul, ro_at, ro_ro, up_at, up_up, e1, e1r, hk0]
      rw [if_pos he]
    · obtain ⟨a, hk0, -⟩ := ShOK_so hs hk he
      simp (disch := omega) only [↓grd_u, ↓bnd_e, ↓orf_u, ↓oif_u, ↓cal_u, ↓calX_u, ↓inrO_u, ↓reduceIte, EM, EMg, EMs, z0, oi, n_inbT, n_cntT, n_ltT, n_ltF, n_leT, n_leF, n_eqT, n_eqF, n_m1T, n_m1F, n_m1F', n_cl, n_add, n_mul, ro_at, ro_ro, up_at, up_up, e1, e1r, hk0]
      rw [if_neg he]
  · unfold b_X6_patternTotal_13 b0_X6_patternTotal_13
    simp (disch := omega) only [↓grd_u, ↓bnd_e, ↓orf_u, ↓oif_u, ↓cal_u, ↓calX_u, ↓inrO_u, ↓reduceIte, EM, EMg, EMs, z0, oi, n_inbT, n_cntT, n_ltT, n_ltF, n_leT, n_leF, n_eqT, n_eqF, n_m1T, n_m1F, n_m1F', n_cl, n_add, n_mul, ro_at, ro_ro, up_at, up_up]
    rfl
theorem c_letterSum (hb : bSh b) (hs : ShOK n h A R b L) : f_X6_letterSum (ca n b) (E n h A M R) = some (nI (lSum L 6), E n h A M R) := by
  have e1 := ESh hb
  have e1r := EShr hb
  unfold f_X6_letterSum g_X6_letterSum_13
  simp (disch := omega) only [↓grd_u, ↓bnd_e, ↓orf_u, ↓oif_u, ↓cal_u, ↓calX_u, ↓inrO_u, ↓reduceIte, EM, EMg, EMs, z0, oi, n_inbT, n_cntT, n_ltT, n_ltF, n_leT, n_leF, n_eqT, n_eqF, n_m1T, n_m1F, n_m1F', n_cl, n_add, n_mul, ro_at, ro_ro, up_at, up_up, e1]
  have hl := lp_for0 (f := b_X6_letterSum_13 (ca n (b + 1)) (nI 6)) (fun k => (nI (lSum L k), nI k, E n h A M R)) 6 (nI (lSum L 6), E n h A M R) (fun k hk => ?_) ?_ (L := 100000) (by decide)
  · exact hl
  · unfold b_X6_letterSum_13 b0_X6_letterSum_13 g_X6_letterSum_40
    rw [lSum_snoc]
    by_cases he : lP L k = []
    · have hk0 := ShOK_no hs hk he
      simp (disch := omega) only [↓grd_u, ↓bnd_e, ↓orf_u, ↓oif_u, ↓cal_u, ↓calX_u, ↓inrO_u, ↓reduceIte, EM, EMg, EMs, z0, oi, n_inbT, n_cntT, n_ltT, n_ltF, n_leT, n_leF, n_eqT, n_eqF, n_m1T, n_m1F, n_m1F', n_cl, n_add, n_mul, ro_at, ro_ro, up_at, up_up, e1, e1r, hk0]
      rw [he]
      rfl
    · obtain ⟨a, hk0, hp⟩ := ShOK_so hs hk he
      have hk1 : kd (E n h A M R) a = 9 := by rw [kd_X (by have := hp.1; omega)]; exact hp.2.2.1
      simp (disch := omega) only [↓grd_u, ↓bnd_e, ↓orf_u, ↓oif_u, ↓cal_u, ↓calX_u, ↓inrO_u, ↓reduceIte, EM, EMg, EMs, z0, oi, n_inbT, n_cntT, n_ltT, n_ltF, n_leT, n_leF, n_eqT, n_eqF, n_m1T, n_m1F, n_m1F', n_cl, n_add, n_mul, ro_at, ro_ro, up_at, up_up, e1, e1r, hk0, hk1, c_letters hp]
  · unfold b_X6_letterSum_13 b0_X6_letterSum_13
    simp (disch := omega) only [↓grd_u, ↓bnd_e, ↓orf_u, ↓oif_u, ↓cal_u, ↓calX_u, ↓inrO_u, ↓reduceIte, EM, EMg, EMs, z0, oi, n_inbT, n_cntT, n_ltT, n_ltF, n_leT, n_leF, n_eqT, n_eqF, n_m1T, n_m1F, n_m1F', n_cl, n_add, n_mul, ro_at, ro_ro, up_at, up_up]
/-- putting a pattern -/
def ptA (A : Nat → Nat → Int32) (b : Nat) : Nat → Nat → Int32 := ro A b (up (A b) 3 (A b 3 + nI 1))
def ptR (R : Nat → Nat → Option Nat) (b s : Nat) (o : Option Nat) : Nat → Nat → Option Nat := ro R (b + 1) (up (R (b + 1)) s o)
theorem c_putT {s : Nat} (hb : bSh b) (h6 : s < 6) (hp : Pat n h a p) (hl : p.length ≤ 255) (ht : ¬ (8 ≤ nLet p ∨ 10 ≤ nSig p)) : f_X6_put (ca n b) (nI s) a (E n h A M R) = some (nI (nLet p), E n h (ptA A b) M (ptR R b s (some a))) := by
  have e1 := ESh hb
  have e1g := EShg hb
  have e1s := EShs hb
  have e1r := EShr hb
  have e1w := EShw hb
  have hk1 : ∀ A R, kd (E n h A M R) a = 9 := fun A R => by rw [kd_X (by have := hp.1; omega)]; exact hp.2.2.1
  have hz : f_X4_isTooLarge a (E n h A M R) = some (nI 0, E n h A M R) := by rw [c_large hp hl]; unfold b1; rw [if_neg ht]
  unfold f_X6_put
  simp (disch := omega) only [↓grd_u, ↓bnd_e, ↓orf_u, ↓oif_u, ↓cal_u, ↓calX_u, ↓inrO_u, ↓reduceIte, EM, EMg, EMs, z0, oi, n_inbT, n_cntT, n_ltT, n_ltF, n_leT, n_leF, n_eqT, n_eqF, n_m1T, n_m1F, n_m1F', n_cl, n_add, n_mul, ro_at, ro_ro, up_at, up_up, c_isSlotT, hk1, hz, e1, e1g, e1s, e1r, e1w, c_letters hp]
  rfl
theorem c_putL {s : Nat} (h6 : s < 6) (hp : Pat n h a p) (hl : p.length ≤ 255) (ht : 8 ≤ nLet p ∨ 10 ≤ nSig p) : f_X6_put (ca n b) (nI s) a (E n h A M R) = some (Int32.ofInt (-3), E n h A M R) := by
  have hk1 : ∀ A R, kd (E n h A M R) a = 9 := fun A R => by rw [kd_X (by have := hp.1; omega)]; exact hp.2.2.1
  have hz : f_X4_isTooLarge a (E n h A M R) = some (nI 1, E n h A M R) := by rw [c_large hp hl]; unfold b1; rw [if_pos ht]
  unfold f_X6_put
  simp (disch := omega) only [↓grd_u, ↓bnd_e, ↓orf_u, ↓oif_u, ↓cal_u, ↓calX_u, ↓inrO_u, ↓reduceIte, EM, EMg, EMs, z0, oi, n_inbT, n_cntT, n_ltT, n_ltF, n_leT, n_leF, n_eqT, n_eqF, n_m1T, n_m1F, n_m1F', n_cl, n_add, n_mul, ro_at, ro_ro, up_at, up_up, c_isSlotT, hk1, hz]
theorem pt_OK {s : Nat} (h6 : s < 6) (hs : ShOK n h A R b L) (hp : Pat n h a p) (hne : p ≠ []) : ShOK n h (ptA A b) (ptR R b s (some a)) b (putP L s p) := by
  obtain ⟨s1, s2, s3, s4⟩ := hs
  unfold ptA ptR
  refine ⟨?_, ?_, fun q hq => ?_, fun i hi => ?_⟩
  · rw [ro_at, up_ne _ _ (by decide)]; exact s1
  · rw [ro_at, up_at, s2, n_add]; rfl
  · rw [ro_at]
    show refP n h _ (up (lP L) s p q)
    by_cases e : q = s
    · rw [e, up_at, up_at]; exact ⟨hne, hp⟩
    · rw [up_ne _ _ e, up_ne _ _ e]; exact s3 q hq
  · rw [ro_ne _ _ (by omega)]; exact s4 i hi
theorem fr_OK {s : Nat} (h6 : s < 6) (hs : ShOK n h A R b L) : ShOK n h A (ptR R b s none) b (freeP L s) := by
  obtain ⟨s1, s2, s3, s4⟩ := hs
  unfold ptR
  refine ⟨s1, s2, fun q hq => ?_, fun i hi => ?_⟩
  · rw [ro_at]
    show refP n h _ (up (lP L) s [] q)
    by_cases e : q = s
    · rw [e, up_at, up_at]; rfl
    · rw [up_ne _ _ e, up_ne _ _ e]; exact s3 q hq
  · rw [ro_ne _ _ (by omega)]; exact s4 i hi
theorem c_freeT {s : Nat} (hb : bSh b) (h6 : s < 6) (hs : ShOK n h A R b L) (he : lP L s ≠ []) : f_X6_free (ca n b) (nI s) (E n h A M R) = some (nI (nPat (freeP L s)), E n h A M (ptR R b s none)) := by
  have e1 := ESh hb
  have e1r := EShr hb
  have e1w := EShw hb
  obtain ⟨a, hk0, -⟩ := ShOK_so hs h6 he
  have ht := c_patternTotal (M := M) hb (fr_OK h6 hs)
  unfold ptR at ht ⊢
  unfold f_X6_free
  simp (disch := omega) only [↓grd_u, ↓bnd_e, ↓orf_u, ↓oif_u, ↓cal_u, ↓calX_u, ↓inrO_u, ↓reduceIte, EM, EMg, EMs, z0, oi, n_inbT, n_cntT, n_ltT, n_ltF, n_leT, n_leF, n_eqT, n_eqF, n_m1T, n_m1F, n_m1F', n_cl, n_add, n_mul, ro_at, ro_ro, up_at, up_up, c_isSlotT, e1, e1r, e1w, hk0, ht]
theorem c_freeE {s : Nat} (hb : bSh b) (h6 : s < 6) (hs : ShOK n h A R b L) (he : lP L s = []) : f_X6_free (ca n b) (nI s) (E n h A M R) = some (Int32.ofInt (-2), E n h A M R) := by
  have e1 := ESh hb
  have e1r := EShr hb
  have hk0 := ShOK_no hs h6 he
  unfold f_X6_free
  simp (disch := omega) only [↓grd_u, ↓bnd_e, ↓orf_u, ↓oif_u, ↓cal_u, ↓calX_u, ↓inrO_u, ↓reduceIte, EM, EMg, EMs, z0, oi, n_inbT, n_cntT, n_ltT, n_ltF, n_leT, n_leF, n_eqT, n_eqF, n_m1T, n_m1F, n_m1F', n_cl, n_add, n_mul, ro_at, ro_ro, up_at, up_up, c_isSlotT, e1, e1r, hk0]
theorem c_freeF {v : Int32} (hv : v < nI 0 ∨ nI 5 < v) : f_X6_free (ca n b) v (E n h A M R) = some (Int32.ofInt (-1), E n h A M R) := by
  unfold f_X6_free
  simp (disch := omega) only [↓grd_u, ↓bnd_e, ↓orf_u, ↓oif_u, ↓cal_u, ↓calX_u, ↓inrO_u, ↓reduceIte, EM, EMg, EMs, z0, oi, n_inbT, n_cntT, n_ltT, n_ltF, n_leT, n_leF, n_eqT, n_eqF, n_m1T, n_m1F, n_m1F', n_cl, n_add, n_mul, ro_at, ro_ro, up_at, up_up, c_isSlotF hv]
end CLASST
