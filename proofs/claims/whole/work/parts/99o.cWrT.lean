/-! the class: one code of a pattern's text -/
section CWRT
variable {n : Nat} {h : mH} {A M : Nat → Nat → Int32} {R : Nat → Nat → Option Nat} {S : St} {l r : List Nat} {y cap : Nat}
def w38 (c : Nat) (r out : List Nat) : List Nat × List Nat := if c = 5 then (48 :: 124 :: 48 :: r, out) else if c = 4 then (49 :: 49 :: r, out) else (if 6 ≤ c then 50 :: r else r, out ++ [chC c])
theorem c_w38 {c : Nat} (o1 : 1 ≤ c) (o2 : c < 9) (hp : Pil A r) (hs : Sb n h A R l y cap) (hr : r.length ≤ 90) (hl : l.length ≤ 130) : ∃ h' A' R' y' cap' ch mh, g_X2_writePart_38 (ca n 39) (nI (chC c)) (ca n 42) (E n h A M R) = some (((), E n h' A' M R'), ch, mh) ∧ Pil A' (w38 c r l).1 ∧ Sb n h' A' R' (w38 c r l).2 y' cap' ∧ FrN n h h' A A' R R' ∧ ch + fcC cap = fcC cap' ∧ mh + fcM cap = fcM cap' := by
  unfold g_X2_writePart_38 g_X2_writePart_105 w38
  by_cases c5 : c = 5
  · rw [if_pos c5]
    obtain ⟨A1, e1, g1, f1⟩ := c_pPush (n := n) (h := h) (M := M) (R := R) (c := 48) hp (by decide) (by omega)
    obtain ⟨A2, e2, g2, f2⟩ := c_pPush (n := n) (h := h) (M := M) (R := R) (c := 124) g1 (by decide) (by rw [List.length_cons]; omega)
    obtain ⟨A3, e3, g3, f3⟩ := c_pPush (n := n) (h := h) (M := M) (R := R) (c := 48) g2 (by decide) (by rw [List.length_cons, List.length_cons]; omega)
    have ff : ∀ r, r ≠ 39 → r ≠ 40 → A3 r = A r := fun r z1 z2 => (f3 r z1 z2).trans ((f2 r z1 z2).trans (f1 r z1 z2))
    refine ⟨h, A3, R, y, cap, 0, 0, ?_, g3, Sb_39 hs ff, FrN_A ff, Nat.zero_add _, Nat.zero_add _⟩
    rw [c5, show chC 5 = 124 from rfl]
    simp (disch := omega) only [↓grd_u, ↓bnd_e, ↓orf_u, ↓oif_u, ↓cal_u, ↓calX_u, ↓inrO_u, ↓reduceIte, EM, EMg, EMs, z0, oi, n_inbT, n_cntT, n_ltT, n_ltF, n_leT, n_leF, n_eqT, n_eqF, n_m1T, n_m1F, n_m1F', n_cl, n_add, n_mul, ro_at, ro_ro, up_at, up_up, EC, e1, e2, e3]
  · rw [if_neg c5]
    by_cases c4 : c = 4
    · rw [if_pos c4]
      obtain ⟨A1, e1, g1, f1⟩ := c_pPush (n := n) (h := h) (M := M) (R := R) (c := 49) hp (by decide) (by omega)
      obtain ⟨A2, e2, g2, f2⟩ := c_pPush (n := n) (h := h) (M := M) (R := R) (c := 49) g1 (by decide) (by rw [List.length_cons]; omega)
      have ff : ∀ r, r ≠ 39 → r ≠ 40 → A2 r = A r := fun r z1 z2 => (f2 r z1 z2).trans (f1 r z1 z2)
      refine ⟨h, A2, R, y, cap, 0, 0, ?_, g2, Sb_39 hs ff, FrN_A ff, Nat.zero_add _, Nat.zero_add _⟩
      rw [c4, show chC 4 = 46 from rfl]
      simp (disch := omega) only [↓grd_u, ↓bnd_e, ↓orf_u, ↓oif_u, ↓cal_u, ↓calX_u, ↓inrO_u, ↓reduceIte, EM, EMg, EMs, z0, oi, n_inbT, n_cntT, n_ltT, n_ltF, n_leT, n_leF, n_eqT, n_eqF, n_m1T, n_m1F, n_m1F', n_cl, n_add, n_mul, ro_at, ro_ro, up_at, up_up, EC, e1, e2]
    · rw [if_neg c4]
      have hch : chC c < 124 ∧ chC c ≠ 46 := by
        have : c = 1 ∨ c = 2 ∨ c = 3 ∨ c = 6 ∨ c = 7 ∨ c = 8 := by omega
        rcases this with rfl | rfl | rfl | rfl | rfl | rfl <;> decide
      obtain ⟨h1, A1, R1, y1, cap1, ch1, mh1, e1, g1, f1, k1, k2⟩ := c_sbApp (M := M) hs (by omega) (show chC c < 128 by omega)
      have hp1 := Pil_L hp f1.2.1
      by_cases c6 : 6 ≤ c
      · rw [if_pos c6]
        obtain ⟨A2, e2, g2, f2⟩ := c_pPush (n := n) (h := h1) (M := M) (R := R1) (c := 50) hp1 (by decide) (by omega)
        refine ⟨h1, A2, R1, y1, cap1, ch1, mh1, ?_, g2, Sb_39 g1 f2, FrN_tr (FrN_L f1) (FrN_A f2), k1, k2⟩
        simp (disch := omega) only [↓grd_u, ↓bnd_e, ↓orf_u, ↓oif_u, ↓cal_u, ↓calX_u, ↓inrO_u, ↓reduceIte, EM, EMg, EMs, z0, oi, n_inbT, n_cntT, n_ltT, n_ltF, n_leT, n_leF, n_eqT, n_eqF, n_m1T, n_m1F, n_m1F', n_cl, n_add, n_mul, ro_at, ro_ro, up_at, up_up, ↓calC_u, ↓adc_u, EC, e1, c_sig o1 o2, b1, c6, e2, Nat.zero_add]
      · rw [if_neg c6]
        refine ⟨h1, A1, R1, y1, cap1, ch1, mh1, ?_, hp1, g1, FrN_L f1, k1, k2⟩
        simp (disch := omega) only [↓grd_u, ↓bnd_e, ↓orf_u, ↓oif_u, ↓cal_u, ↓calX_u, ↓inrO_u, ↓reduceIte, EM, EMg, EMs, z0, oi, n_inbT, n_cntT, n_ltT, n_ltF, n_leT, n_leF, n_eqT, n_eqF, n_m1T, n_m1F, n_m1F', n_cl, n_add, n_mul, ro_at, ro_ro, up_at, up_up, ↓calC_u, ↓adc_u, EC, e1, c_sig o1 o2, b1, c6, Nat.zero_add]
end CWRT
