/-! the class: formatShortest -/
theorem rv_m2 : (nI 0 - nI 1) = Int32.ofInt (-1) := by decide
theorem rv_s1 : (Int32.ofInt (-1)) >>> (nI 1 &&& 31) = Int32.ofInt (-1) := by decide +kernel
theorem rv_s2 : (Int32.ofInt (-1) - nI 1) >>> (nI 1 &&& 31) = Int32.ofInt (-1) := by decide +kernel
theorem hrem3 {a : Nat} (ha : a < 2147483648) : nI a - nI a / nI 3 * nI 3 = nI (a % 3) := n_rem ha (by decide) (by decide)
theorem lpC_nx {σ ρ : Type} {f : σ → Option ((σ ⊕ ρ) × Nat × Nat)} {s s' : σ} {L c m : Nat} (h : f s = some (.inl s', c, m)) : lpC f (L + 1) s = adc c m (lpC f L s') := by
  simp only [lpC, h]
theorem lpC_en {σ ρ : Type} {f : σ → Option ((σ ⊕ ρ) × Nat × Nat)} {s : σ} {r : ρ} {L c m : Nat} (h : f s = some (.inr r, c, m)) : lpC f (L + 1) s = some (r, c, m) := by
  simp only [lpC, h]
section CFMTA
variable {n : Nat} {h : mH} {A M : Nat → Nat → Int32} {R : Nat → Nat → Option Nat} {S : St} {y cap b : Nat} {l : List Nat} {g : Glu}
theorem c_isL (h1 : A 42 1 = nI 0) : f_J5_isLatin1_aae02 (ca n 42) (E n h A M R) = some (nI 1, E n h A M R) := by
  unfold f_J5_isLatin1_aae02 g_J5_isLatin1_aae02_18
  simp (disch := omega) only [↓grd_u, ↓bnd_e, ↓orf_u, ↓oif_u, ↓cal_u, ↓calX_u, ↓inrO_u, ↓reduceIte, EM, EMg, EMs, z0, oi, n_inbT, n_cntT, n_ltT, n_ltF, n_leT, n_leF, n_eqT, n_eqF, n_m1T, n_m1F, n_m1F', n_cl, n_add, n_mul, ro_at, ro_ro, up_at, up_up, EC, ECg, h1, nb1]
theorem c_sbRev (hs : Sb n h A R l y cap) : ∃ h' A', f_J4_reverse_43fcb (ca n 42) (E n h A M R) = some (some (ca n 42), E n h' A' M R) ∧ Sb n h' A' R l.reverse y cap ∧ FrL n h h' A A' R R := by
  obtain ⟨s0, s1, s2, s3, s4, s5, s6, s7⟩ := id hs
  have hcp := YB_cap s4
  have r0 := gr42 (n := n) (h := h) (A := A) (M := M) s3
  have hL := c_isL (n := n) (h := h) (M := M) (R := R) s1
  have hend : ∀ x, g_J5_reverse_278bc_28 (ca n 42) y x (Int32.ofInt (-1)) (E n h A M R) = some (some (ca n 42), E n h A M R) := fun x => by
    unfold g_J5_reverse_278bc_28
    refine lp_en (L := 99999) ?_
    unfold b_J5_reverse_278bc_28 b0_J5_reverse_278bc_28 g_J5_reverse_278bc_73
    simp (disch := omega) only [↓grd_u, ↓bnd_e, ↓orf_u, ↓oif_u, ↓cal_u, ↓calX_u, ↓inrO_u, ↓reduceIte, EM, EMg, EMs, z0, oi, n_inbT, n_cntT, n_ltT, n_ltF, n_leT, n_leF, n_eqT, n_eqF, n_m1T, n_m1F, n_m1F', n_cl, n_add, n_mul, ro_at, ro_ro, up_at, up_up, sng, if_true]
  unfold f_J4_reverse_43fcb f_J5_reverse_278bc
  by_cases h2 : 2 ≤ l.length
  · obtain ⟨h', A', e, q, f⟩ := c_rv28 (M := M) hs h2 rfl
    have e1 : nI l.length - nI 1 = nI (l.length - 1) := n_sub (by omega)
    have e2 : nI (l.length - 1) - nI 1 = nI (l.length - 2) := by rw [n_sub (by omega), show l.length - 1 - 1 = l.length - 2 by omega]
    have e3 := n_shr (s := l.length - 2) (k := 1) (by omega) (by decide)
    rw [show (2 : Nat) ^ 1 = 2 from rfl] at e3
    refine ⟨h', A', ?_, q, f⟩
    simp (disch := omega) only [↓grd_u, ↓bnd_e, ↓orf_u, ↓oif_u, ↓cal_u, ↓calX_u, ↓inrO_u, ↓reduceIte, EM, EMg, EMs, z0, oi, n_inbT, n_cntT, n_ltT, n_ltF, n_leT, n_leF, n_eqT, n_eqF, n_m1T, n_m1F, n_m1F', n_cl, n_add, n_mul, ro_at, ro_ro, up_at, up_up, EC, ECg, r0, s2, e1, hL, e2, e3, e]
  · by_cases h0 : l.length = 0
    · have hl : l = [] := List.length_eq_zero_iff.mp h0
      rw [h0] at s2
      refine ⟨h, A, ?_, by rw [hl] at hs ⊢; exact hs, FrL_rf⟩
      simp (disch := omega) only [↓grd_u, ↓bnd_e, ↓orf_u, ↓oif_u, ↓cal_u, ↓calX_u, ↓inrO_u, ↓reduceIte, EM, EMg, EMs, z0, oi, n_inbT, n_cntT, n_ltT, n_ltF, n_leT, n_leF, n_eqT, n_eqF, n_m1T, n_m1F, n_m1F', n_cl, n_add, n_mul, ro_at, ro_ro, up_at, up_up, EC, ECg, r0, s2, rv_m2, hL, rv_s2, hend]
    · have h1 : l.length = 1 := by omega
      have hl : l.reverse = l := by
        match l, h1 with
        | [x], _ => rfl
      rw [h1] at s2
      have e1 : nI 1 - nI 1 = nI 0 := by decide
      refine ⟨h, A, ?_, by rw [hl]; exact hs, FrL_rf⟩
      simp (disch := omega) only [↓grd_u, ↓bnd_e, ↓orf_u, ↓oif_u, ↓cal_u, ↓calX_u, ↓inrO_u, ↓reduceIte, EM, EMg, EMs, z0, oi, n_inbT, n_cntT, n_ltT, n_ltF, n_leT, n_leF, n_eqT, n_eqF, n_m1T, n_m1F, n_m1F', n_cl, n_add, n_mul, ro_at, ro_ro, up_at, up_up, EC, ECg, r0, s2, e1, rv_m2, hL, rv_s1, hend]
theorem c_ws10 (hb : bAu b) (ok : GluOK g) : ∀ (d i L : Nat) (h : mH) (A : Nat → Nat → Int32) (R : Nat → Nat → Option Nat) (l : List Nat) (y cap : Nat), AuF A b g → i < gL g → (wd (bN (gB g).2.1 i)).length = d → Sb n h A R l y cap → l.length + d ≤ 120 → d < L →
    ∃ h' A' R' y' cap' ch mh, lpC (b_X0_writeShortest_10 (ca n b) (ca n 42)) L (nI i, E n h A M R) = some (((), E n h' A' M R'), ch, mh) ∧ Sb n h' A' R' (l ++ ((wd (bN (gB g).2.1 i)).map (97 + ·)).reverse).reverse y' cap' ∧ FrL n h h' A A' R R' ∧ ch + fcC cap = fcC cap' ∧ mh + fcM cap = fcM cap' := by
  have hL129 := gL_le ok
  have e1 := EAu hb
  have e2 := EAug hb
  have hb42 : b ≠ 42 ∧ 44 ≤ b := by rcases hb with rfl | rfl <;> decide
  intro d
  induction d with
  | zero =>
    intro i L h A R l y cap hu hi hd hs hl hL
    have hi0 : i = 0 := by
      rcases Nat.eq_zero_or_pos i with z | z
      · exact z
      · have hw := congrArg List.length (wd_bN (gB_Bf g) z hi)
        rw [List.length_append, List.length_singleton] at hw
        omega
    obtain ⟨h', A', er, q, f⟩ := c_sbRev (M := M) hs
    obtain ⟨L, rfl⟩ : ∃ L', L = L' + 1 := ⟨L - 1, by omega⟩
    have hw0 : wd (bN (gB g).2.1 i) = [] := List.length_eq_zero_iff.mp hd
    refine ⟨h', A', R, y, cap, 0, 0, lpC_en ?_, by rw [hw0, List.map_nil, List.reverse_nil, List.append_nil]; exact q, f, Nat.zero_add _, Nat.zero_add _⟩
    unfold b_X0_writeShortest_10 b0_X0_writeShortest_10 g_X0_writeShortest_60 inrC
    rw [hi0]
    simp (disch := omega) only [↓grd_u, ↓bnd_e, ↓orf_u, ↓oif_u, ↓cal_u, ↓calX_u, ↓inrO_u, ↓reduceIte, EM, EMg, EMs, z0, oi, n_inbT, n_cntT, n_ltT, n_ltF, n_leT, n_leF, n_eqT, n_eqF, n_m1T, n_m1F, n_m1F', n_cl, n_add, n_mul, ro_at, ro_ro, up_at, up_up, ↓calC_u, ↓adc_u, EC, er]
  | succ d ih =>
    intro i L h A R l y cap hu hi hd hs hl hL
    have hi0 : 1 ≤ i := by
      rcases Nat.eq_zero_or_pos i with z | z
      · rw [z] at hd
        have : (wd (bN (gB g).2.1 0)).length = 0 := rfl
        omega
      · exact z
    have hwd := wd_bN (gB_Bf g) hi0 hi
    have hw := congrArg List.length hwd
    rw [List.length_append, List.length_singleton] at hw
    have hpar := par_lt ok hi0 hi
    obtain ⟨p, hp⟩ : ∃ p, p = (gB g).2.1 i := ⟨_, rfl⟩
    have hu1 := (hu.2.2 i hi).2
    rw [← hp] at hw hpar hu1 hwd
    have hch := nch (97 + p % 3) (by omega)
    have hp5 : p < 2147483648 := by omega
    have hr : nI p - nI (p / 3 * 3) = nI (p % 3) := by rw [n_sub (by omega), show p - p / 3 * 3 = p % 3 by omega]
    obtain ⟨h1, A1, R1, y1, cap1, ch1, mh1, ea, q1, f1, k1, k2⟩ := c_sbApp (M := M) hs (by omega) (show 97 + p % 3 < 128 by omega)
    have hu' : AuF A1 b g := AuF_fr hu (fun r z1 z2 => f1.2.1 r (by omega) (by omega))
    have hu1' := (hu'.2.2 i hi).2
    rw [← hp] at hu1'
    obtain ⟨L, rfl⟩ : ∃ L', L = L' + 1 := ⟨L - 1, by omega⟩
    obtain ⟨h2, A2, R2, y2, cap2, ch2, mh2, eb, q2, f2, k3, k4⟩ := ih (p / 3) L h1 A1 R1 (l ++ [97 + p % 3]) y1 cap1 hu' (by omega) (by omega) q1 (by rw [List.length_append, List.length_singleton]; omega) (by omega)
    have hlen : f_J4_length_8abf5 (ca n 42) (E n h A M R) = some (nI l.length, E n h A M R) := by
      have := hs.2.2.1
      unfold f_J4_length_8abf5 f_J5_length_8abf5
      simp (disch := omega) only [↓grd_u, ↓bnd_e, ↓orf_u, ↓oif_u, ↓cal_u, ↓calX_u, ↓inrO_u, ↓reduceIte, EM, EMg, EMs, z0, oi, n_inbT, n_cntT, n_ltT, n_ltF, n_leT, n_leF, n_eqT, n_eqF, n_m1T, n_m1F, n_m1F', n_cl, n_add, n_mul, ro_at, ro_ro, up_at, up_up, EC, ECg, this]
    refine ⟨h2, A2, R2, y2, cap2, ch2 + ch1, mh2 + mh1, ?_, ?_, FrL_tr f1 f2, by omega, by omega⟩
    · rw [lpC_nx (s' := (nI (p / 3), E n h1 A1 M R1)) (c := ch1) (m := mh1), eb]
      · rfl
      · unfold b_X0_writeShortest_10 b0_X0_writeShortest_10
        simp (disch := omega) only [↓grd_u, ↓bnd_e, ↓orf_u, ↓oif_u, ↓cal_u, ↓calX_u, ↓inrO_u, ↓reduceIte, EM, EMg, EMs, z0, oi, n_inbT, n_cntT, n_ltT, n_ltF, n_leT, n_leF, n_eqT, n_eqF, n_m1T, n_m1F, n_m1F', n_cl, n_add, n_mul, ro_at, ro_ro, up_at, up_up, ↓calC_u, ↓adc_u, EC, e1, e2, hlen, hu1, hr, hch, ea, hu1', n_div, Nat.zero_add, Nat.add_zero]
    · have e : l ++ ((wd (bN (gB g).2.1 (p / 3)) ++ [p % 3]).map (97 + ·)).reverse = l ++ [97 + p % 3] ++ ((wd (bN (gB g).2.1 (p / 3))).map (97 + ·)).reverse := by simp
      rw [hwd, e]
      exact q2
end CFMTA
