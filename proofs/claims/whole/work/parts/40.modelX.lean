section MODELX
variable {n : Nat} {h : mH} {A M : Nat → Nat → Int32} {R : Nat → Nat → Option Nat} {S : St}
/-! words: taken from the buffer, added, cut -/
def okW (T : List Nat) (fr d : Nat) : Nat := if ((List.range d).all fun j => decide (97 ≤ T.getD (fr + j) 0) && decide (T.getD (fr + j) 0 ≤ 99)) = true then 1 else 0
theorem okW_le (T : List Nat) (fr d : Nat) : okW T fr d ≤ 1 := by unfold okW; split <;> decide
theorem okW_succ (T : List Nat) (fr d : Nat) : okW T fr (d + 1) = okW T fr d &&& (if 97 ≤ T.getD (fr + d) 0 ∧ T.getD (fr + d) 0 ≤ 99 then 1 else 0) := by
  unfold okW
  rw [List.range_succ, List.all_append]
  simp only [List.all_cons, List.all_nil, Bool.and_true, Bool.and_eq_true, decide_eq_true_eq]
  by_cases h1 : ((List.range d).all fun j => decide (97 ≤ T.getD (fr + j) 0) && decide (T.getD (fr + j) 0 ≤ 99)) = true
  · by_cases h2 : 97 ≤ T.getD (fr + d) 0 ∧ T.getD (fr + d) 0 ≤ 99
    · rw [if_pos ⟨h1, h2⟩, if_pos h1, if_pos h2]; rfl
    · rw [if_neg (fun q => h2 q.2), if_pos h1, if_neg h2]; rfl
  · rw [if_neg (fun q => h1 q.1), if_neg h1, Nat.zero_and]
theorem okW_1 {T : List Nat} {fr d : Nat} : okW T fr d = 1 ↔ ∀ j, j < d → 97 ≤ T.getD (fr + j) 0 ∧ T.getD (fr + j) 0 ≤ 99 := by
  unfold okW
  constructor
  · intro h j hj
    split at h
    case isTrue q =>
      have := List.all_eq_true.mp q j (List.mem_range.mpr hj)
      simpa using this
    case isFalse q => cases h
  · intro h
    rw [if_pos]
    exact List.all_eq_true.mpr fun j hj => by simpa using h j (List.mem_range.mp hj)
theorem m_takes {T : List Nat} {fr to : Nat} (hft : fr ≤ to) (h60 : to ≤ 60) (ht : ∀ k, k < to → M 6 k = nI (T.getD k 0)) (hT : ∀ k, k < to → T.getD k 0 < 128) :
    f_X12_takesWord (ma n 0) (nI fr) (nI to) (E n h A M R) = some (nI (okW T fr (to - fr)), E n h A (ro (ro M 8 (pre (to - fr) (fun j => M 6 (fr + j) - nI 97) (M 8))) 0 (up (M 0) 19 (nI (to - fr)))) R) := by
  unfold f_X12_takesWord g_X12_takesWord_12
  simp (disch := omega) only [↓grd_u, ↓bnd_e, ↓orf_u, ↓oif_u, ↓cal_u, ↓calX_u, ↓inrO_u, ↓reduceIte, EM, EMg, EMs, z0, oi, n_inbT, n_cntT, n_ltT, n_ltF, n_leT, n_leF, n_eqT, n_eqF, n_m1T, n_m1F, n_m1F', n_cl, n_add, n_mul, ro_at, ro_ro, up_at, up_up, n_sub]
  have hl := lp_for0 (f := b_X12_takesWord_12 (ma n 0) (nI fr) (nI to)) (fun k => (nI (okW T fr k), nI (fr + k), E n h A (ro (ro M 8 (pre k (fun j => M 6 (fr + j) - nI 97) (M 8))) 0 (up (M 0) 19 (nI (to - fr)))) R)) (to - fr) (nI (okW T fr (to - fr)), E n h A (ro (ro M 8 (pre (to - fr) (fun j => M 6 (fr + j) - nI 97) (M 8))) 0 (up (M 0) 19 (nI (to - fr)))) R) (fun k hk => ?_) ?_ (L := 100000) (by omega)
  · simp only [pre_0, ro_self] at hl
    exact hl
  · have h1 := ht (fr + k) (by omega)
    have h2 := hT (fr + k) (by omega)
    have h3 := okW_le T fr k
    unfold b_X12_takesWord_12 b0_X12_takesWord_12
    have e : up (pre k (fun j => M 6 (fr + j) - nI 97) (M 8)) k (nI (T.getD (fr + k) 0) - nI 97) = pre (k + 1) (fun j => M 6 (fr + j) - nI 97) (M 8) := by rw [← h1, ← up_pre]
    by_cases hc : 97 ≤ T.getD (fr + k) 0 ∧ T.getD (fr + k) 0 ≤ 99
    · obtain ⟨c1, c2⟩ := hc
      simp (disch := omega) only [↓grd_u, ↓bnd_e, ↓orf_u, ↓oif_u, ↓cal_u, ↓calX_u, ↓inrO_u, ↓reduceIte, EM, EMg, EMs, z0, oi, n_inbT, n_cntT, n_ltT, n_ltF, n_leT, n_leF, n_eqT, n_eqF, n_m1T, n_m1F, n_m1F', n_cl, n_add, n_mul, ro_at, ro_ro, up_at, up_up, ro_ne, up_ne, ro_sw, n_sub, h1, Nat.add_sub_cancel_left, m_between, n_and]
      rw [← e, okW_succ, if_pos ⟨c1, c2⟩, n_sub c1]
      rfl
    · have hb : nI (T.getD (fr + k) 0) < nI 97 ∨ nI 99 < nI (T.getD (fr + k) 0) := by rw [n_lt (by omega) (by decide), n_lt (by decide) (by omega)]; omega
      have hb2 : ∀ g, f_X12_isBetween (nI (T.getD (fr + k) 0)) (nI 97) (nI 99) g = some (nI 0, g) := fun g => m_betweenF hb
      have e2 : nI (fr + k) - nI fr = nI k := by rw [n_sub (by omega), Nat.add_sub_cancel_left]
      simp (disch := omega) only [↓grd_u, ↓bnd_e, ↓orf_u, ↓oif_u, ↓cal_u, ↓calX_u, ↓inrO_u, ↓reduceIte, EM, EMg, EMs, z0, oi, n_inbT, n_cntT, n_ltT, n_ltF, n_leT, n_leF, n_eqT, n_eqF, n_m1T, n_m1F, n_m1F', n_cl, n_add, n_mul, ro_at, ro_ro, up_at, up_up, ro_ne, up_ne, ro_sw, e2, h1, hb2, n_and]
      rw [← e, okW_succ, if_neg hc]
      rfl
  · have h3 := okW_le T fr (to - fr)
    have hn : (vp_nar .boolean (nI (okW T fr (to - fr))) = nI (okW T fr (to - fr))) = True := eq_true (n_nar01 h3)
    unfold b_X12_takesWord_12 b0_X12_takesWord_12
    simp (disch := omega) only [↓grd_u, ↓bnd_e, ↓orf_u, ↓oif_u, ↓cal_u, ↓calX_u, ↓inrO_u, ↓reduceIte, EM, EMg, EMs, z0, oi, n_inbT, n_cntT, n_ltT, n_ltF, n_leT, n_leF, n_eqT, n_eqF, n_m1T, n_m1F, n_m1F', n_cl, n_add, n_mul, ro_at, ro_ro, up_at, up_up, hn]
end MODELX
