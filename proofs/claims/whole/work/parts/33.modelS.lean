section MODELS
variable {n : Nat} {h : mH} {A M : Nat → Nat → Int32} {R : Nat → Nat → Option Nat}
/-- the row of what is built holds p -/
def Blt (M : Nat → Nat → Int32) (p : List Nat) : Prop := M 0 9 = nI p.length ∧ (∀ k, k < p.length → M 5 k = nI (p.getD k 0)) ∧ p.length ≤ 130 ∧ small p
theorem m_letters {p : List Nat} (hb : Blt M p) : f_X12_letters (ma n 0) (E n h A M R) = some (nI (nLet p), E n h A M R) := by
  obtain ⟨b1, b2, b3, b4⟩ := hb
  unfold f_X12_letters g_X12_letters_4
  rw [oi.1]
  have hle : ∀ k, nLet (p.take k) ≤ 130 := fun k => Nat.le_trans (nLet_le _) (by rw [List.length_take]; omega)
  refine lp_for0 (f := b_X12_letters_4 (ma n 0)) (fun k => (nI (nLet (p.take k)), nI k, E n h A M R)) p.length (nI (nLet p), E n h A M R) (fun k hk => ?_) ?_ (L := 100000) (by omega)
  · have h9 := b4 k hk
    have hl := hle k
    unfold b_X12_letters_4 b0_X12_letters_4 g_X12_letters_28
    by_cases hc : p.getD k 0 < 4
    · simp (disch := omega) only [↓grd_u, ↓bnd_e, ↓orf_u, ↓oif_u, ↓cal_u, ↓calX_u, ↓inrO_u, ↓reduceIte, EM, EMg, EMs, z0, oi, n_inbT, n_cntT, n_ltT, n_ltF, n_leT, n_leF, n_eqT, n_eqF, n_m1T, n_m1F, n_m1F', n_cl, n_add, n_mul, ro_at, ro_ro, up_at, up_up, b1, b2, take_snoc hk, nLet_snoc, if_pos hc]
    · simp (disch := omega) only [↓grd_u, ↓bnd_e, ↓orf_u, ↓oif_u, ↓cal_u, ↓calX_u, ↓inrO_u, ↓reduceIte, EM, EMg, EMs, z0, oi, n_inbT, n_cntT, n_ltT, n_ltF, n_leT, n_leF, n_eqT, n_eqF, n_m1T, n_m1F, n_m1F', n_cl, n_add, n_mul, ro_at, ro_ro, up_at, up_up, b1, b2, take_snoc hk, nLet_snoc, if_neg hc]
  · unfold b_X12_letters_4 b0_X12_letters_4
    simp (disch := omega) only [↓grd_u, ↓bnd_e, ↓orf_u, ↓oif_u, ↓cal_u, ↓calX_u, ↓inrO_u, ↓reduceIte, EM, EMg, EMs, z0, oi, n_inbT, n_cntT, n_ltT, n_ltF, n_leT, n_leF, n_eqT, n_eqF, n_m1T, n_m1F, n_m1F', n_cl, n_add, n_mul, ro_at, ro_ro, up_at, up_up, b1, List.take_length]
theorem m_signs {p : List Nat} (hb : Blt M p) : f_X12_signs (ma n 0) (E n h A M R) = some (nI (nSig p), E n h A M R) := by
  obtain ⟨b1, b2, b3, b4⟩ := hb
  unfold f_X12_signs g_X12_signs_4
  rw [oi.1]
  have hle : ∀ k, nSig (p.take k) ≤ 130 := fun k => Nat.le_trans (nSig_le _) (by rw [List.length_take]; omega)
  refine lp_for0 (f := b_X12_signs_4 (ma n 0)) (fun k => (nI (nSig (p.take k)), nI k, E n h A M R)) p.length (nI (nSig p), E n h A M R) (fun k hk => ?_) ?_ (L := 100000) (by omega)
  · have h9 := b4 k hk
    have hl := hle k
    unfold b_X12_signs_4 b0_X12_signs_4 g_X12_signs_29
    by_cases hc : 6 ≤ p.getD k 0
    · simp (disch := omega) only [↓grd_u, ↓bnd_e, ↓orf_u, ↓oif_u, ↓cal_u, ↓calX_u, ↓inrO_u, ↓reduceIte, EM, EMg, EMs, z0, oi, n_inbT, n_cntT, n_ltT, n_ltF, n_leT, n_leF, n_eqT, n_eqF, n_m1T, n_m1F, n_m1F', n_cl, n_add, n_mul, ro_at, ro_ro, up_at, up_up, b1, b2, take_snoc hk, nSig_snoc, if_pos hc]
    · simp (disch := omega) only [↓grd_u, ↓bnd_e, ↓orf_u, ↓oif_u, ↓cal_u, ↓calX_u, ↓inrO_u, ↓reduceIte, EM, EMg, EMs, z0, oi, n_inbT, n_cntT, n_ltT, n_ltF, n_leT, n_leF, n_eqT, n_eqF, n_m1T, n_m1F, n_m1F', n_cl, n_add, n_mul, ro_at, ro_ro, up_at, up_up, b1, b2, take_snoc hk, nSig_snoc, if_neg hc]
  · unfold b_X12_signs_4 b0_X12_signs_4
    simp (disch := omega) only [↓grd_u, ↓bnd_e, ↓orf_u, ↓oif_u, ↓cal_u, ↓calX_u, ↓inrO_u, ↓reduceIte, EM, EMg, EMs, z0, oi, n_inbT, n_cntT, n_ltT, n_ltF, n_leT, n_leF, n_eqT, n_eqF, n_m1T, n_m1F, n_m1F', n_cl, n_add, n_mul, ro_at, ro_ro, up_at, up_up, b1, List.take_length]
def tooBig (p : List Nat) : Prop := 7 < nLet p ∨ 9 < nSig p
theorem m_tooLargeT {p : List Nat} (hb : Blt M p) (ht : tooBig p) : f_X12_isTooLarge (ma n 0) (E n h A M R) = some (nI 1, E n h A M R) := by
  unfold f_X12_isTooLarge g_X12_isTooLarge_18 g_X12_isTooLarge_23
  have h1 : nLet p ≤ 130 := Nat.le_trans (nLet_le _) hb.2.2.1
  have h2 : nSig p ≤ 130 := Nat.le_trans (nSig_le _) hb.2.2.1
  simp (disch := omega) only [↓grd_u, ↓bnd_e, ↓orf_u, ↓oif_u, ↓cal_u, ↓calX_u, ↓inrO_u, ↓reduceIte, EM, EMg, EMs, z0, oi, n_inbT, n_cntT, n_ltT, n_ltF, n_leT, n_leF, n_eqT, n_eqF, n_m1T, n_m1F, n_m1F', n_cl, n_add, n_mul, ro_at, ro_ro, up_at, up_up, m_letters hb, m_signs hb, nz1]
  by_cases h3 : 7 < nLet p
  · simp (disch := omega) only [↓grd_u, ↓bnd_e, ↓orf_u, ↓oif_u, ↓cal_u, ↓calX_u, ↓inrO_u, ↓reduceIte, EM, EMg, EMs, z0, oi, n_inbT, n_cntT, n_ltT, n_ltF, n_leT, n_leF, n_eqT, n_eqF, n_m1T, n_m1F, n_m1F', n_cl, n_add, n_mul, ro_at, ro_ro, up_at, up_up]
  · have h4 : 9 < nSig p := ht.resolve_left h3
    simp (disch := omega) only [↓grd_u, ↓bnd_e, ↓orf_u, ↓oif_u, ↓cal_u, ↓calX_u, ↓inrO_u, ↓reduceIte, EM, EMg, EMs, z0, oi, n_inbT, n_cntT, n_ltT, n_ltF, n_leT, n_leF, n_eqT, n_eqF, n_m1T, n_m1F, n_m1F', n_cl, n_add, n_mul, ro_at, ro_ro, up_at, up_up]
theorem m_tooLargeF {p : List Nat} (hb : Blt M p) (ht : ¬ tooBig p) : f_X12_isTooLarge (ma n 0) (E n h A M R) = some (nI 0, E n h A M R) := by
  unfold f_X12_isTooLarge g_X12_isTooLarge_18 g_X12_isTooLarge_23
  have h1 : ¬ 7 < nLet p := fun q => ht (Or.inl q)
  have h2 : ¬ 9 < nSig p := fun q => ht (Or.inr q)
  simp (disch := omega) only [↓grd_u, ↓bnd_e, ↓orf_u, ↓oif_u, ↓cal_u, ↓calX_u, ↓inrO_u, ↓reduceIte, EM, EMg, EMs, z0, oi, n_inbT, n_cntT, n_ltT, n_ltF, n_leT, n_leF, n_eqT, n_eqF, n_m1T, n_m1F, n_m1F', n_cl, n_add, n_mul, ro_at, ro_ro, up_at, up_up, m_letters hb, m_signs hb, nz0]
theorem m_lays {L : Lib} {s : Nat} {p : List Nat} (hs : s < 6) (hb : Blt M p) (hp : p.length ≤ 28) (hw : M 1 = enc L) : f_X12_lays (ma n 0) (nI s) (E n h A M R) = some (nI (nLet p), E n h A (ro M 1 (enc (putP L s p))) R) := by
  have hb' := hb
  obtain ⟨b1, b2, b3, b4⟩ := hb'
  unfold f_X12_lays g_X12_lays_2
  rw [oi.1]
  have hpl := pad_len hp
  have h0 := lp_for0 (f := b_X12_lays_2 (ma n 0) (nI s)) (fun k => (nI k, E n h A (ro M 1 (ap (M 1) (2 + 29 * s + 1) ((pad 28 p).take k))) R)) 28 (nI (nLet p), E n h A (ro M 1 (enc (putP L s p))) R) (fun k hk => ?_) ?_ (L := 100000) (by decide)
  · simp only [List.take_zero, ap_nil, ro_self] at h0
    exact h0
  · unfold b_X12_lays_2 b0_X12_lays_2 g_X12_lays_40
    by_cases hc : k < p.length
    · simp (disch := omega) only [↓grd_u, ↓bnd_e, ↓orf_u, ↓oif_u, ↓cal_u, ↓calX_u, ↓inrO_u, ↓reduceIte, EM, EMg, EMs, z0, oi, n_inbT, n_cntT, n_ltT, n_ltF, n_leT, n_leF, n_eqT, n_eqF, n_m1T, n_m1F, n_m1F', n_cl, n_add, n_mul, ro_at, ro_ro, up_at, up_up, ro_ne, up_ne, ro_sw, b1, b2]
      rw [← pad_at (m := 28), ap_take _ _ _ (by omega)]
    · simp (disch := omega) only [↓grd_u, ↓bnd_e, ↓orf_u, ↓oif_u, ↓cal_u, ↓calX_u, ↓inrO_u, ↓reduceIte, EM, EMg, EMs, z0, oi, n_inbT, n_cntT, n_ltT, n_ltF, n_leT, n_leF, n_eqT, n_eqF, n_m1T, n_m1F, n_m1F', n_cl, n_add, n_mul, ro_at, ro_ro, up_at, up_up, ro_ne, up_ne, ro_sw, b1]
      have e : (0 : Nat) = (pad 28 p).getD k 0 := by rw [pad_at, List.getD_eq_getElem?_getD, List.getElem?_eq_none (by omega)]; rfl
      rw [show nI 0 = nI ((pad 28 p).getD k 0) by rw [← e], ap_take _ _ _ (by omega)]
  · unfold b_X12_lays_2 b0_X12_lays_2
    have e : (pad 28 p).take 28 = pad 28 p := by rw [List.take_of_length_le (by omega)]
    simp (disch := omega) only [↓grd_u, ↓bnd_e, ↓orf_u, ↓oif_u, ↓cal_u, ↓calX_u, ↓inrO_u, ↓reduceIte, EM, EMg, EMs, z0, oi, n_inbT, n_cntT, n_ltT, n_ltF, n_leT, n_leF, n_eqT, n_eqF, n_m1T, n_m1F, n_m1F', n_cl, n_add, n_mul, ro_at, ro_ro, up_at, up_up, ro_ne, up_ne, ro_sw, b1, e]
    rw [ap_out _ _ _ (by omega), hw, enc_0, n_add, enc_put L hs hp, m_letters (p := p) ⟨by rw [ro_ne _ _ (by decide)]; exact b1, fun k hk => by rw [ro_ne _ _ (by decide)]; exact b2 k hk, b3, b4⟩]
theorem m_patterns {L : Lib} (hw : M 1 = enc L) (hl : ∀ s, s < 6 → (lP L s).length ≤ 28) : f_X12_patterns (ma n 0) (E n h A M R) = some (nI (((List.range 6).filter fun s => decide (lP L s ≠ [])).length), E n h A M R) := by
  unfold f_X12_patterns g_X12_patterns_4
  rw [oi.1]
  have hle : ∀ k, k ≤ 6 → (((List.range k).filter fun s => decide (lP L s ≠ [])).length) ≤ k := fun k _ => Nat.le_trans (List.length_filter_le _ _) (by simp)
  refine lp_for0 (f := b_X12_patterns_4 (ma n 0)) (fun k => (nI (((List.range k).filter fun s => decide (lP L s ≠ [])).length), nI k, E n h A M R)) 6 _ (fun k hk => ?_) ?_ (L := 100000) (by decide)
  · unfold b_X12_patterns_4 b0_X12_patterns_4 g_X12_patterns_24
    have h1 := hl k hk
    have h2 := hle k (by omega)
    rw [List.range_succ, List.filter_append, List.length_append]
    by_cases hc : lP L k = []
    · have e : (lP L k).length = 0 := by rw [hc]; rfl
      simp (disch := omega) only [↓grd_u, ↓bnd_e, ↓orf_u, ↓oif_u, ↓cal_u, ↓calX_u, ↓inrO_u, ↓reduceIte, EM, EMg, EMs, z0, oi, n_inbT, n_cntT, n_ltT, n_ltF, n_leT, n_leF, n_eqT, n_eqF, n_m1T, n_m1F, n_m1F', n_cl, n_add, n_mul, ro_at, ro_ro, up_at, up_up, m_length, hw, enc_len, e]
      simp [hc]
    · have e : 0 < (lP L k).length := by cases hq : lP L k with | nil => exact absurd hq hc | cons a b => simp
      simp (disch := omega) only [↓grd_u, ↓bnd_e, ↓orf_u, ↓oif_u, ↓cal_u, ↓calX_u, ↓inrO_u, ↓reduceIte, EM, EMg, EMs, z0, oi, n_inbT, n_cntT, n_ltT, n_ltF, n_leT, n_leF, n_eqT, n_eqF, n_m1T, n_m1F, n_m1F', n_cl, n_add, n_mul, ro_at, ro_ro, up_at, up_up, m_length, hw, enc_len]
      simp [hc]
  · unfold b_X12_patterns_4 b0_X12_patterns_4
    simp (disch := omega) only [↓grd_u, ↓bnd_e, ↓orf_u, ↓oif_u, ↓cal_u, ↓calX_u, ↓inrO_u, ↓reduceIte, EM, EMg, EMs, z0, oi, n_inbT, n_cntT, n_ltT, n_ltF, n_leT, n_leF, n_eqT, n_eqF, n_m1T, n_m1F, n_m1F', n_cl, n_add, n_mul, ro_at, ro_ro, up_at, up_up]
end MODELS
