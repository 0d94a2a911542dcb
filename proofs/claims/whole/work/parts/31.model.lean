/-! the reference's methods over the heap E: what they answer and leave -/
section MODEL
variable {n : Nat} {h : mH} {A M : Nat → Nat → Int32} {R : Nat → Nat → Option Nat}
theorem m_fails {v : Int32} : f_X12_fails (ma n 0) v (E n h A M R) = some (nI 0, E n h A (ro M 0 (up (M 0) 0 v)) R) := by
  unfold f_X12_fails
  simp (disch := omega) only [grd, bnd_e, orf_e, oif_n, oif_s, cal_e, calX_l, calX_r, inrO_e, ↓reduceIte, EM, EMg, EMs, z0, oi, n_inbT, n_cntT, n_ltT, n_ltF, n_leT, n_leF, n_eqT, n_eqF, n_m1T, n_m1F, n_m1F', n_cl, n_add, n_mul, ro_at, ro_ro, up_at]
theorem m_code {s k : Nat} (hs : s < 6) (hk : k < 28) : f_X12_code (ma n 0) (nI s) (nI k) (E n h A M R) = some (M 1 (2 + 29 * s + 1 + k), E n h A M R) := by
  unfold f_X12_code
  simp (disch := omega) only [grd, bnd_e, orf_e, oif_n, oif_s, cal_e, calX_l, calX_r, inrO_e, ↓reduceIte, EM, EMg, EMs, z0, oi, n_inbT, n_cntT, n_ltT, n_ltF, n_leT, n_leF, n_eqT, n_eqF, n_m1T, n_m1F, n_m1F', n_cl, n_add, n_mul, ro_at, ro_ro, up_at]
theorem m_length {s : Nat} (hs : s < 6) : f_X12_length (ma n 0) (nI s) (E n h A M R) = some (M 1 (2 + 29 * s), E n h A M R) := by
  unfold f_X12_length
  simp (disch := omega) only [grd, bnd_e, orf_e, oif_n, oif_s, cal_e, calX_l, calX_r, inrO_e, ↓reduceIte, EM, EMg, EMs, z0, oi, n_inbT, n_cntT, n_ltT, n_ltF, n_leT, n_leF, n_eqT, n_eqF, n_m1T, n_m1F, n_m1F', n_cl, n_add, n_mul, ro_at, ro_ro, up_at]
theorem m_copies : f_X12_copies (ma n 0) (E n h A M R) = some ((), E n h A (ro M 4 (pre 248 (M 1) (M 4))) R) := by
  unfold f_X12_copies g_X12_copies_2
  rw [oi.1]
  have h0 := lp_for0 (f := b_X12_copies_2 (ma n 0)) (fun k => (nI k, E n h A (ro M 4 (pre k (M 1) (M 4))) R)) 248 ((), E n h A (ro M 4 (pre 248 (M 1) (M 4))) R) (fun k hk => ?_) ?_ (L := 100000) (by decide)
  · simp only [pre_0, ro_self] at h0
    exact h0
  · unfold b_X12_copies_2 b0_X12_copies_2
    simp (disch := omega) only [grd, bnd_e, orf_e, oif_n, oif_s, cal_e, calX_l, calX_r, inrO_e, ↓reduceIte, EM, EMg, EMs, z0, oi, n_inbT, n_cntT, n_ltT, n_ltF, n_leT, n_leF, n_eqT, n_eqF, n_m1T, n_m1F, n_m1F', n_cl, n_add, n_mul, ro_at, ro_ro, up_at, ro_ne, up_ne, up_pre]
  · unfold b_X12_copies_2 b0_X12_copies_2
    simp (disch := omega) only [grd, bnd_e, orf_e, oif_n, oif_s, cal_e, calX_l, calX_r, inrO_e, ↓reduceIte, EM, EMg, EMs, z0, oi, n_inbT, n_cntT, n_ltT, n_ltF, n_leT, n_leF, n_eqT, n_eqF, n_m1T, n_m1F, n_m1F', n_cl, n_add, n_mul, ro_at, ro_ro, up_at]
end MODEL
