/-! the class: one code of a pattern's text, with brackets -/
section CWRU
variable {n : Nat} {h : mH} {A M : Nat → Nat → Int32} {R : Nat → Nat → Option Nat} {S : St} {l r : List Nat} {y cap : Nat}
theorem wpt_w38 (c m : Nat) (r out : List Nat) : wpt c m r out = w38 c (if (m = 50 ∧ 4 ≤ c) ∨ (m = 49 ∧ c = 5) then 40 :: r else r) (if (m = 50 ∧ 4 ≤ c) ∨ (m = 49 ∧ c = 5) then out ++ [41] else out) := rfl
theorem c_w25 {c : Nat} (o1 : 1 ≤ c) (o2 : c < 9) (hp : Pil A r) (hs : Sb n h A R l y cap) (hr : r.length ≤ 89) (hl : l.length ≤ 129) : ∃ h' A' R' y' cap' ch mh, g_X2_writePart_25 (ca n 39) (nI (chC c)) (ca n 42) (E n h A M R) = some (((), E n h' A' M R'), ch, mh) ∧ Pil A' (w38 c (40 :: r) (l ++ [41])).1 ∧ Sb n h' A' R' (w38 c (40 :: r) (l ++ [41])).2 y' cap' ∧ FrN n h h' A A' R R' ∧ ch + fcC cap = fcC cap' ∧ mh + fcM cap = fcM cap' := by
  obtain ⟨h1, A1, R1, y1, cap1, ch1, mh1, e1, g1, f1, k1, k2⟩ := c_sbApp (M := M) (c := 41) hs (by omega) (by decide)
  obtain ⟨A2, e2, g2, f2⟩ := c_pPush (n := n) (h := h1) (M := M) (R := R1) (c := 40) (Pil_L hp f1.2.1) (by decide) (by omega)
  obtain ⟨h3, A3, R3, y3, cap3, ch3, mh3, e3, g3, s3, f3, k3, k4⟩ := c_w38 (M := M) o1 o2 g2 (Sb_39 g1 f2) (by rw [List.length_cons]; omega) (by rw [List.length_append, List.length_singleton]; omega)
  refine ⟨h3, A3, R3, y3, cap3, ch3 + ch1, mh3 + mh1, ?_, g3, s3, FrN_tr (FrN_L f1) (FrN_tr (FrN_A f2) f3), by omega, by omega⟩
  unfold g_X2_writePart_25
  simp (disch := omega) only [↓grd_u, ↓bnd_e, ↓orf_u, ↓oif_u, ↓cal_u, ↓calX_u, ↓inrO_u, ↓reduceIte, EM, EMg, EMs, z0, oi, n_inbT, n_cntT, n_ltT, n_ltF, n_leT, n_leF, n_eqT, n_eqF, n_m1T, n_m1F, n_m1F', n_cl, n_add, n_mul, ro_at, ro_ro, up_at, up_up, ↓calC_u, ↓adc_u, EC, e1, e2, e3]
theorem c_writePart {c m : Nat} (o1 : 1 ≤ c) (o2 : c < 9) (hm : mk3 m) (hp : Pil A r) (hs : Sb n h A R l y cap) (hr : r.length ≤ 89) (hl : l.length ≤ 129) : ∃ h' A' R' y' cap' ch mh, f_X2_writePart (ca n 39) (nI (chC c)) (nI m) (ca n 42) (E n h A M R) = some (((), E n h' A' M R'), ch, mh) ∧ Pil A' (wpt c m r l).1 ∧ Sb n h' A' R' (wpt c m r l).2 y' cap' ∧ FrN n h h' A A' R R' ∧ ch + fcC cap = fcC cap' ∧ mh + fcM cap = fcM cap' := by
  rw [wpt_w38]
  unfold f_X2_writePart g_X2_writePart_13
  have hl1 := fun g => c_let (g := g) o1 o2
  have h124 : (nI (chC c) = nI 124) = (c = 5) := by
    have : c = 1 ∨ c = 2 ∨ c = 3 ∨ c = 4 ∨ c = 5 ∨ c = 6 ∨ c = 7 ∨ c = 8 := by omega
    rcases this with rfl | rfl | rfl | rfl | rfl | rfl | rfl | rfl <;> decide +kernel
  unfold mk3 at hm
  by_cases q : (m = 50 ∧ 4 ≤ c) ∨ (m = 49 ∧ c = 5)
  · rw [if_pos q, if_pos q]
    obtain ⟨h', A', R', y', cap', ch, mh, e, rest⟩ := c_w25 (M := M) o1 o2 hp hs hr hl
    refine ⟨h', A', R', y', cap', ch, mh, ?_, rest⟩
    by_cases q1 : m = 50
    · have q4 : ¬ c < 4 := by omega
      rw [q1]
      simp (disch := omega) only [↓grd_u, ↓bnd_e, ↓orf_u, ↓oif_u, ↓cal_u, ↓calX_u, ↓inrO_u, ↓reduceIte, EM, EMg, EMs, z0, oi, n_inbT, n_cntT, n_ltT, n_ltF, n_leT, n_leF, n_eqT, n_eqF, n_m1T, n_m1F, n_m1F', n_cl, n_add, n_mul, ro_at, ro_ro, up_at, up_up, hl1, b1, q4, e]
    · have q2 : m = 49 := by omega
      have q5 : c = 5 := by omega
      rw [q2]
      simp (disch := omega) only [↓grd_u, ↓bnd_e, ↓orf_u, ↓oif_u, ↓cal_u, ↓calX_u, ↓inrO_u, ↓reduceIte, EM, EMg, EMs, z0, oi, n_inbT, n_cntT, n_ltT, n_ltF, n_leT, n_leF, n_eqT, n_eqF, n_m1T, n_m1F, n_m1F', n_cl, n_add, n_mul, ro_at, ro_ro, up_at, up_up, h124, q5, if_true]
      rw [q5] at e
      exact e
  · rw [if_neg q, if_neg q]
    obtain ⟨h', A', R', y', cap', ch, mh, e, rest⟩ := c_w38 (M := M) o1 o2 hp hs (by omega) (by omega)
    refine ⟨h', A', R', y', cap', ch, mh, ?_, rest⟩
    by_cases q1 : m = 50
    · have q4 : c < 4 := by omega
      rw [q1]
      simp (disch := omega) only [↓grd_u, ↓bnd_e, ↓orf_u, ↓oif_u, ↓cal_u, ↓calX_u, ↓inrO_u, ↓reduceIte, EM, EMg, EMs, z0, oi, n_inbT, n_cntT, n_ltT, n_ltF, n_leT, n_leF, n_eqT, n_eqF, n_m1T, n_m1F, n_m1F', n_cl, n_add, n_mul, ro_at, ro_ro, up_at, up_up, hl1, b1, q4, e]
    · by_cases q2 : m = 49
      · have q5 : ¬ c = 5 := by omega
        rw [q2]
        simp (disch := omega) only [↓grd_u, ↓bnd_e, ↓orf_u, ↓oif_u, ↓cal_u, ↓calX_u, ↓inrO_u, ↓reduceIte, EM, EMg, EMs, z0, oi, n_inbT, n_cntT, n_ltT, n_ltF, n_leT, n_leF, n_eqT, n_eqF, n_m1T, n_m1F, n_m1F', n_cl, n_add, n_mul, ro_at, ro_ro, up_at, up_up, h124, q5, if_false, e]
      · simp (disch := omega) only [↓grd_u, ↓bnd_e, ↓orf_u, ↓oif_u, ↓cal_u, ↓calX_u, ↓inrO_u, ↓reduceIte, EM, EMg, EMs, z0, oi, n_inbT, n_cntT, n_ltT, n_ltF, n_leT, n_leF, n_eqT, n_eqF, n_m1T, n_m1F, n_m1F', n_cl, n_add, n_mul, ro_at, ro_ro, up_at, up_up, e]
end CWRU
