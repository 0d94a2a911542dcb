/-! the reference's methods over the heap E: what they answer and leave -/
section MODEL
variable {n : Nat} {h : mH} {A M : Nat → Nat → Int32} {R : Nat → Nat → Option Nat}
theorem m_fails {v : Int32} : f_X12_fails (ma n 0) v (E n h A M R) = some (nI 0, E n h A (ro M 0 (up (M 0) 0 v)) R) := by
  unfold f_X12_fails
  simp (disch := omega) only [↓grd_u, ↓bnd_e, ↓orf_u, ↓oif_u, ↓cal_u, ↓calX_u, ↓inrO_u, ↓reduceIte, EM, EMg, EMs, z0, oi, n_inbT, n_cntT, n_ltT, n_ltF, n_leT, n_leF, n_eqT, n_eqF, n_m1T, n_m1F, n_m1F', n_cl, n_add, n_mul, ro_at, ro_ro, up_at, up_up, ro_ne, up_ne, ro_sw]
theorem m_code {s k : Nat} (hs : s < 6) (hk : k < 28) : f_X12_code (ma n 0) (nI s) (nI k) (E n h A M R) = some (M 1 (2 + 29 * s + 1 + k), E n h A M R) := by
  unfold f_X12_code
  simp (disch := omega) only [↓grd_u, ↓bnd_e, ↓orf_u, ↓oif_u, ↓cal_u, ↓calX_u, ↓inrO_u, ↓reduceIte, EM, EMg, EMs, z0, oi, n_inbT, n_cntT, n_ltT, n_ltF, n_leT, n_leF, n_eqT, n_eqF, n_m1T, n_m1F, n_m1F', n_cl, n_add, n_mul, ro_at, ro_ro, up_at, up_up, ro_ne, up_ne, ro_sw]
theorem m_length {s : Nat} (hs : s < 6) : f_X12_length (ma n 0) (nI s) (E n h A M R) = some (M 1 (2 + 29 * s), E n h A M R) := by
  unfold f_X12_length
  simp (disch := omega) only [↓grd_u, ↓bnd_e, ↓orf_u, ↓oif_u, ↓cal_u, ↓calX_u, ↓inrO_u, ↓reduceIte, EM, EMg, EMs, z0, oi, n_inbT, n_cntT, n_ltT, n_ltF, n_leT, n_leF, n_eqT, n_eqF, n_m1T, n_m1F, n_m1F', n_cl, n_add, n_mul, ro_at, ro_ro, up_at, up_up, ro_ne, up_ne, ro_sw]
theorem m_copies : f_X12_copies (ma n 0) (E n h A M R) = some ((), E n h A (ro M 4 (pre 248 (M 1) (M 4))) R) := by
  unfold f_X12_copies g_X12_copies_2
  rw [oi.1]
  have h0 := lp_for0 (f := b_X12_copies_2 (ma n 0)) (fun k => (nI k, E n h A (ro M 4 (pre k (M 1) (M 4))) R)) 248 ((), E n h A (ro M 4 (pre 248 (M 1) (M 4))) R) (fun k hk => ?_) ?_ (L := 100000) (by decide)
  · simp only [pre_0, ro_self] at h0
    exact h0
  · unfold b_X12_copies_2 b0_X12_copies_2
    simp (disch := omega) only [↓grd_u, ↓bnd_e, ↓orf_u, ↓oif_u, ↓cal_u, ↓calX_u, ↓inrO_u, ↓reduceIte, EM, EMg, EMs, z0, oi, n_inbT, n_cntT, n_ltT, n_ltF, n_leT, n_leF, n_eqT, n_eqF, n_m1T, n_m1F, n_m1F', n_cl, n_add, n_mul, ro_at, ro_ro, up_at, up_up, ro_ne, up_ne, ro_sw, up_pre]
  · unfold b_X12_copies_2 b0_X12_copies_2
    simp (disch := omega) only [↓grd_u, ↓bnd_e, ↓orf_u, ↓oif_u, ↓cal_u, ↓calX_u, ↓inrO_u, ↓reduceIte, EM, EMg, EMs, z0, oi, n_inbT, n_cntT, n_ltT, n_ltF, n_leT, n_leF, n_eqT, n_eqF, n_m1T, n_m1F, n_m1F', n_cl, n_add, n_mul, ro_at, ro_ro, up_at, up_up, ro_ne, up_ne, ro_sw]
theorem m_goesBack : f_X12_goesBack (ma n 0) (E n h A M R) = some ((), E n h A (ro M 1 (pre 248 (M 4) (M 1))) R) := by
  unfold f_X12_goesBack g_X12_goesBack_2
  rw [oi.1]
  have h0 := lp_for0 (f := b_X12_goesBack_2 (ma n 0)) (fun k => (nI k, E n h A (ro M 1 (pre k (M 4) (M 1))) R)) 248 ((), E n h A (ro M 1 (pre 248 (M 4) (M 1))) R) (fun k hk => ?_) ?_ (L := 100000) (by decide)
  · simp only [pre_0, ro_self] at h0
    exact h0
  · unfold b_X12_goesBack_2 b0_X12_goesBack_2
    simp (disch := omega) only [↓grd_u, ↓bnd_e, ↓orf_u, ↓oif_u, ↓cal_u, ↓calX_u, ↓inrO_u, ↓reduceIte, EM, EMg, EMs, z0, oi, n_inbT, n_cntT, n_ltT, n_ltF, n_leT, n_leF, n_eqT, n_eqF, n_m1T, n_m1F, n_m1F', n_cl, n_add, n_mul, ro_at, ro_ro, up_at, up_up, ro_ne, up_ne, ro_sw, up_pre]
  · unfold b_X12_goesBack_2 b0_X12_goesBack_2
    simp (disch := omega) only [↓grd_u, ↓bnd_e, ↓orf_u, ↓oif_u, ↓cal_u, ↓calX_u, ↓inrO_u, ↓reduceIte, EM, EMg, EMs, z0, oi, n_inbT, n_cntT, n_ltT, n_ltF, n_leT, n_leF, n_eqT, n_eqF, n_m1T, n_m1F, n_m1F', n_cl, n_add, n_mul, ro_at, ro_ro, up_at, up_up, ro_ne, up_ne, ro_sw]
theorem m_between {a b v : Nat} {g : mH} (hv : v < 2147483648) (ha : a ≤ v) (hb : v ≤ b) (hb2 : b < 2147483648) : f_X12_isBetween (nI v) (nI a) (nI b) g = some (nI 1, g) := by
  unfold f_X12_isBetween g_X12_isBetween_15
  simp (disch := omega) only [↓grd_u, ↓bnd_e, ↓orf_u, ↓oif_u, ↓cal_u, ↓calX_u, ↓inrO_u, ↓reduceIte, EM, EMg, EMs, z0, oi, n_inbT, n_cntT, n_ltT, n_ltF, n_leT, n_leF, n_eqT, n_eqF, n_m1T, n_m1F, n_m1F', n_cl, n_add, n_mul, ro_at, ro_ro, up_at, up_up, nz1]
theorem m_betweenF {a b : Int32} {v : Int32} {g : mH} (hv : v < a ∨ b < v) : f_X12_isBetween v a b g = some (nI 0, g) := by
  unfold f_X12_isBetween g_X12_isBetween_14 g_X12_isBetween_15
  by_cases h1 : v < a
  · simp only [h1, ↓reduceIte, oi, grd, nz0]
  · have h2 : b < v := hv.resolve_left h1
    simp only [h1, h2, ↓reduceIte, oi, grd, nz0]
theorem m_isSlotT {s : Nat} {g : mH} (hs : s < 6) : f_X12_isSlot (nI s) g = some (nI 1, g) := by
  unfold f_X12_isSlot
  rw [oi.1, show Int32.ofInt 5 = nI 5 from rfl, m_between (by omega) (by omega) (by omega) (by omega)]
  simp only [cal_e, grd, nz1, ↓reduceIte]
theorem m_isSlotF {v : Int32} {g : mH} (hv : v < nI 0 ∨ nI 5 < v) : f_X12_isSlot v g = some (nI 0, g) := by
  unfold f_X12_isSlot
  rw [oi.1, show Int32.ofInt 5 = nI 5 from rfl, m_betweenF hv]
  simp only [cal_e, grd, nz0, ↓reduceIte]
theorem m_holdsN {v : Int32} (hv : v < nI 0 ∨ nI 5 < v) : f_X12_holds (ma n 0) v (E n h A M R) = some (nI 0, E n h A M R) := by
  unfold f_X12_holds g_X12_holds_19 g_X12_holds_20
  rw [m_isSlotF hv]
  simp (disch := omega) only [↓grd_u, ↓bnd_e, ↓orf_u, ↓oif_u, ↓cal_u, ↓calX_u, ↓inrO_u, ↓reduceIte, EM, EMg, EMs, z0, oi, n_inbT, n_cntT, n_ltT, n_ltF, n_leT, n_leF, n_eqT, n_eqF, n_m1T, n_m1F, n_m1F', n_cl, n_add, n_mul, ro_at, ro_ro, up_at, up_up, nz0]
theorem m_holdsT {s l : Nat} (hs : s < 6) (hl : M 1 (2 + 29 * s) = nI l) (h0 : 0 < l) (h1 : l < 100) : f_X12_holds (ma n 0) (nI s) (E n h A M R) = some (nI 1, E n h A M R) := by
  unfold f_X12_holds g_X12_holds_19 g_X12_holds_20
  rw [m_isSlotT hs]
  simp (disch := omega) only [↓grd_u, ↓bnd_e, ↓orf_u, ↓oif_u, ↓cal_u, ↓calX_u, ↓inrO_u, ↓reduceIte, EM, EMg, EMs, z0, oi, n_inbT, n_cntT, n_ltT, n_ltF, n_leT, n_leF, n_eqT, n_eqF, n_m1T, n_m1F, n_m1F', n_cl, n_add, n_mul, ro_at, ro_ro, up_at, up_up, m_length, hl, nz1]
theorem m_holdsF {s : Nat} (hs : s < 6) (hl : M 1 (2 + 29 * s) = nI 0) : f_X12_holds (ma n 0) (nI s) (E n h A M R) = some (nI 0, E n h A M R) := by
  unfold f_X12_holds g_X12_holds_19 g_X12_holds_20
  rw [m_isSlotT hs]
  simp (disch := omega) only [↓grd_u, ↓bnd_e, ↓orf_u, ↓oif_u, ↓cal_u, ↓calX_u, ↓inrO_u, ↓reduceIte, EM, EMg, EMs, z0, oi, n_inbT, n_cntT, n_ltT, n_ltF, n_leT, n_leF, n_eqT, n_eqF, n_m1T, n_m1F, n_m1F', n_cl, n_add, n_mul, ro_at, ro_ro, up_at, up_up, m_length, hl, nz0]
theorem m_adds {k : Nat} {v : Int32} (hk : M 0 9 = nI k) (h1 : k < 130) : f_X12_adds (ma n 0) v (E n h A M R) = some ((), E n h A (ro (ro M 5 (up (M 5) k v)) 0 (up (M 0) 9 (nI (k + 1)))) R) := by
  unfold f_X12_adds
  simp (disch := omega) only [↓grd_u, ↓bnd_e, ↓orf_u, ↓oif_u, ↓cal_u, ↓calX_u, ↓inrO_u, ↓reduceIte, EM, EMg, EMs, z0, oi, n_inbT, n_cntT, n_ltT, n_ltF, n_leT, n_leF, n_eqT, n_eqF, n_m1T, n_m1F, n_m1F', n_cl, n_add, n_mul, ro_at, ro_ro, up_at, up_up, ro_ne, up_ne, ro_sw, hk]
theorem m_copiesSlot {s k0 : Nat} {p : List Nat} (hs : s < 6) (hl : M 1 (2 + 29 * s) = nI p.length) (hc : ∀ k, k < p.length → M 1 (2 + 29 * s + 1 + k) = nI (p.getD k 0)) (h28 : p.length ≤ 28) (hm : M 0 9 = nI k0) (hk : k0 + p.length ≤ 130) :
    f_X12_copiesSlot (ma n 0) (nI s) (E n h A M R) = some ((), E n h A (ro (ro M 5 (ap (M 5) k0 p)) 0 (up (M 0) 9 (nI (k0 + p.length)))) R) := by
  unfold f_X12_copiesSlot g_X12_copiesSlot_2
  rw [oi.1]
  have h0 := lp_for0 (f := b_X12_copiesSlot_2 (ma n 0) (nI s)) (fun k => (nI k, E n h A (ro (ro M 5 (ap (M 5) k0 (p.take k))) 0 (up (M 0) 9 (nI (k0 + k)))) R)) p.length ((), E n h A (ro (ro M 5 (ap (M 5) k0 p)) 0 (up (M 0) 9 (nI (k0 + p.length)))) R) (fun k hk => ?_) ?_ (L := 100000) (by omega)
  · simp only [List.take_zero, ap_nil, Nat.add_zero, ro_self] at h0
    rw [← hm, up_self, ro_self] at h0
    exact h0
  · unfold b_X12_copiesSlot_2 b0_X12_copiesSlot_2
    simp (disch := omega) only [↓grd_u, ↓bnd_e, ↓orf_u, ↓oif_u, ↓cal_u, ↓calX_u, ↓inrO_u, ↓reduceIte, EM, EMg, EMs, z0, oi, n_inbT, n_cntT, n_ltT, n_ltF, n_leT, n_leF, n_eqT, n_eqF, n_m1T, n_m1F, n_m1F', n_cl, n_add, n_mul, ro_at, ro_ro, up_at, up_up, ro_ne, up_ne, ro_sw, m_length, hl, m_code, hc]
    rw [m_adds (k := k0 + k) (by simp only [ro_at, up_at]) (by omega)]
    simp (disch := omega) only [↓grd_u, ↓bnd_e, ↓orf_u, ↓oif_u, ↓cal_u, ↓calX_u, ↓inrO_u, ↓reduceIte, EM, EMg, EMs, z0, oi, n_inbT, n_cntT, n_ltT, n_ltF, n_leT, n_leF, n_eqT, n_eqF, n_m1T, n_m1F, n_m1F', n_cl, n_add, n_mul, ro_at, ro_ro, up_at, up_up, ro_ne, up_ne, ro_sw, ap_take, Nat.add_assoc]
  · unfold b_X12_copiesSlot_2 b0_X12_copiesSlot_2
    simp (disch := omega) only [↓grd_u, ↓bnd_e, ↓orf_u, ↓oif_u, ↓cal_u, ↓calX_u, ↓inrO_u, ↓reduceIte, EM, EMg, EMs, z0, oi, n_inbT, n_cntT, n_ltT, n_ltF, n_leT, n_leF, n_eqT, n_eqF, n_m1T, n_m1F, n_m1F', n_cl, n_add, n_mul, ro_at, ro_ro, up_at, up_up, ro_ne, up_ne, ro_sw, m_length, hl, List.take_length]
end MODEL
