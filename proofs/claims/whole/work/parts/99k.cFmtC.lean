/-! the class: formatDifference -/
section CFMTC
variable {n : Nat} {h : mH} {A M : Nat → Nat → Int32} {R : Nat → Nat → Option Nat} {S : St} {y cap : Nat} {l : List Nat} {g g' : Glu}
theorem c_wf10 {s : bst} {u : Nat} (hB : Bf (pnx g g') 0 s u) (hN : s.2.2 ≤ 16641) : ∀ (d i L : Nat) (h : mH) (A : Nat → Nat → Int32) (R : Nat → Nat → Option Nat) (l : List Nat) (y cap : Nat), (∀ i, i < s.2.2 → A 93 i = nI (s.2.1 i) ∧ s.2.1 i < 100000) → i < s.2.2 → (wd (bN s.2.1 i)).length = d → Sb n h A R l y cap → l.length + d ≤ 120 → d < L →
    ∃ h' A' R' y' cap' ch mh, lpC (b_X3_writeFound_10 (ca n 90) (ca n 42)) L (nI i, E n h A M R) = some (((), E n h' A' M R'), ch, mh) ∧ Sb n h' A' R' (l ++ ((wd (bN s.2.1 i)).map (97 + ·)).reverse).reverse y' cap' ∧ FrL n h h' A A' R R' ∧ ch + fcC cap = fcC cap' ∧ mh + fcM cap = fcM cap' := by
  intro d
  induction d with
  | zero =>
    intro i L h A R l y cap hu hi hd hs hl hL
    have hi0 : i = 0 := by
      rcases Nat.eq_zero_or_pos i with z | z
      · exact z
      · have hw := congrArg List.length (wd_bN hB z hi)
        rw [List.length_append, List.length_singleton] at hw
        omega
    obtain ⟨h', A', er, q, f⟩ := c_sbRev (M := M) hs
    obtain ⟨L, rfl⟩ : ∃ L', L = L' + 1 := ⟨L - 1, by omega⟩
    have hw0 : wd (bN s.2.1 i) = [] := List.length_eq_zero_iff.mp hd
    refine ⟨h', A', R, y, cap, 0, 0, lpC_en ?_, by rw [hw0, List.map_nil, List.reverse_nil, List.append_nil]; exact q, f, Nat.zero_add _, Nat.zero_add _⟩
    unfold b_X3_writeFound_10 b0_X3_writeFound_10 g_X3_writeFound_60 inrC
    rw [hi0]
    simp (disch := omega) only [↓grd_u, ↓bnd_e, ↓orf_u, ↓oif_u, ↓cal_u, ↓calX_u, ↓inrO_u, ↓reduceIte, EM, EMg, EMs, z0, oi, n_inbT, n_cntT, n_ltT, n_ltF, n_leT, n_leF, n_eqT, n_eqF, n_m1T, n_m1F, n_m1F', n_cl, n_add, n_mul, ro_at, ro_ro, up_at, up_up, ↓calC_u, ↓adc_u, EC, er]
  | succ d ih =>
    intro i L h A R l y cap hu hi hd hs hl hL
    have hi0 : 1 ≤ i := by
      rcases Nat.eq_zero_or_pos i with z | z
      · rw [z] at hd
        have : (wd (bN s.2.1 0)).length = 0 := rfl
        omega
      · exact z
    have hwd := wd_bN hB hi0 hi
    have hw := congrArg List.length hwd
    rw [List.length_append, List.length_singleton] at hw
    have hpar := (hB.2.2.2.2.1 i hi0 hi).2.1
    obtain ⟨p, hp⟩ : ∃ p, p = s.2.1 i := ⟨_, rfl⟩
    obtain ⟨hu1, hu5⟩ := hu i hi
    rw [← hp] at hw hpar hu1 hu5 hwd
    have hch := nch (97 + p % 3) (by omega)
    have hr : nI p - nI (p / 3 * 3) = nI (p % 3) := by rw [n_sub (by omega), show p - p / 3 * 3 = p % 3 by omega]
    obtain ⟨h1, A1, R1, y1, cap1, ch1, mh1, ea, q1, f1, k1, k2⟩ := c_sbApp (M := M) hs (by omega) (show 97 + p % 3 < 128 by omega)
    have e93 : A1 93 = A 93 := f1.2.1 93 (by decide) (by decide)
    have hu1' : A1 93 i = nI p := by rw [e93]; exact hu1
    obtain ⟨L, rfl⟩ : ∃ L', L = L' + 1 := ⟨L - 1, by omega⟩
    obtain ⟨h2, A2, R2, y2, cap2, ch2, mh2, eb, q2, f2, k3, k4⟩ := ih (p / 3) L h1 A1 R1 (l ++ [97 + p % 3]) y1 cap1 (fun i hi => by rw [e93]; exact hu i hi) (by omega) (by omega) q1 (by rw [List.length_append, List.length_singleton]; omega) (by omega)
    have hlen := c_lenL (n := n) (h := h) (A := A) (M := M) (R := R) (l := l) (hl := hs.2.2.1)
    refine ⟨h2, A2, R2, y2, cap2, ch2 + ch1, mh2 + mh1, ?_, ?_, FrL_tr f1 f2, by omega, by omega⟩
    · rw [lpC_nx (s' := (nI (p / 3), E n h1 A1 M R1)) (c := ch1) (m := mh1), eb]
      · rfl
      · unfold b_X3_writeFound_10 b0_X3_writeFound_10
        simp (disch := omega) only [↓grd_u, ↓bnd_e, ↓orf_u, ↓oif_u, ↓cal_u, ↓calX_u, ↓inrO_u, ↓reduceIte, EM, EMg, EMs, z0, oi, n_inbT, n_cntT, n_ltT, n_ltF, n_leT, n_leF, n_eqT, n_eqF, n_m1T, n_m1F, n_m1F', n_cl, n_add, n_mul, ro_at, ro_ro, up_at, up_up, ↓calC_u, ↓adc_u, EC, ECg, hlen, hu1, hr, hch, ea, hu1', n_div, Nat.zero_add, Nat.add_zero]
    · have e : l ++ ((wd (bN s.2.1 (p / 3)) ++ [p % 3]).map (97 + ·)).reverse = l ++ [97 + p % 3] ++ ((wd (bN s.2.1 (p / 3))).map (97 + ·)).reverse := by simp
      rw [hwd, e]
      exact q2
theorem c_writeFound {v : Nat} (ok : GluOK g) (ok' : GluOK g') (hf : Fnd A false g g' v) (hs : Sb n h A R l y cap) (h120 : ∀ k, isD (nx2 g g') (T2 false g g') (128, 128) k → k ≤ 120) : ∃ h' A' R' y' cap' ch mh, f_X3_writeFound (ca n 90) (ca n 42) (E n h A M R) = some (((), E n h' A' M R'), ch, mh) ∧ Sb n h' A' R' ((chw (isB (nx2 g g') (T2 false g g') (128, 128))).map (97 + ·)) y' cap' ∧ FrL n h h' A A' R R' ∧ ch + fcC cap = fcC cap' ∧ mh + fcM cap = fcM cap' := by
  obtain ⟨h1, A1, R1, y1, cap1, ch1, mh1, ez, q1, f1, k1, k2⟩ := c_sbZero (M := M) hs
  have e93 : A1 93 = A 93 := f1.2.1 93 (by decide) (by decide)
  have e90 : A1 90 = A 90 := f1.2.1 90 (by decide) (by decide)
  rcases hf with ⟨rfl, s, u, j, hB, hj, hN, hp, h4, hw⟩ | ⟨rfl, h4, hno⟩
  · have hw2 := isB_link ok ok' hw
    have hc : chw (isB (nx2 g g') (T2 false g g') (128, 128)) = wd (bN s.2.1 j) := chw_u hw2 (fun j hj => isB_u hj hw2)
    have hl := h120 _ (isB_len hw2)
    obtain ⟨h2, A2, R2, y2, cap2, ch2, mh2, el, q2, f2, k3, k4⟩ := c_wf10 (M := M) hB hN (wd (bN s.2.1 j)).length j 100000 h1 A1 R1 [] y1 cap1 (fun i hi => by rw [e93]; exact hp i hi) hj rfl q1 (by show 0 + _ ≤ 120; omega) (by omega)
    refine ⟨h2, A2, R2, y2, cap2, ch2 + ch1, mh2 + mh1, ?_, by rw [hc]; rw [List.nil_append, List.reverse_reverse] at q2; exact q2, FrL_tr f1 f2, by omega, by omega⟩
    unfold f_X3_writeFound
    have el : g_X3_writeFound_10 (ca n 90) (ca n 42) (nI j) (E n h1 A1 M R1) = some (((), E n h2 A2 M R2), ch2, mh2) := el
    rw [← e90] at h4
    simp (disch := omega) only [↓grd_u, ↓bnd_e, ↓orf_u, ↓oif_u, ↓cal_u, ↓calX_u, ↓inrO_u, ↓reduceIte, EM, EMg, EMs, z0, oi, n_inbT, n_cntT, n_ltT, n_ltF, n_leT, n_leF, n_eqT, n_eqF, n_m1T, n_m1F, n_m1F', n_cl, n_add, n_mul, ro_at, ro_ro, up_at, up_up, ↓calC_u, ↓adc_u, EC, ECg, ez, h4, el]
  · have hc : chw (isB (nx2 g g') (T2 false g g') (128, 128)) = [] := chw_no (fun u hu => by
      have h1 := (isB_len hu).1
      rw [noD_link ok ok' hno] at h1
      cases h1)
    obtain ⟨h2, A2, er, q2, f2⟩ := c_sbRev (M := M) q1
    have el : g_X3_writeFound_10 (ca n 90) (ca n 42) (Int32.ofInt (-1)) (E n h1 A1 M R1) = some (((), E n h2 A2 M R1), 0, 0) := by
      unfold g_X3_writeFound_10
      refine lpC_en (L := 99999) ?_
      unfold b_X3_writeFound_10 b0_X3_writeFound_10 g_X3_writeFound_60 inrC
      have hz : (Int32.ofInt (-1) ≤ nI 0) = True := eq_true nz_m1
      simp (disch := omega) only [↓grd_u, ↓bnd_e, ↓orf_u, ↓oif_u, ↓cal_u, ↓calX_u, ↓inrO_u, ↓reduceIte, EM, EMg, EMs, z0, oi, n_inbT, n_cntT, n_ltT, n_ltF, n_leT, n_leF, n_eqT, n_eqF, n_m1T, n_m1F, n_m1F', n_cl, n_add, n_mul, ro_at, ro_ro, up_at, up_up, ↓calC_u, ↓adc_u, EC, hz, if_true, er]
    refine ⟨h2, A2, R1, y1, cap1, ch1, mh1, ?_, by rw [hc]; exact q2, FrL_tr f1 f2, k1, k2⟩
    unfold f_X3_writeFound
    rw [← e90] at h4
    simp (disch := omega) only [↓grd_u, ↓bnd_e, ↓orf_u, ↓oif_u, ↓cal_u, ↓calX_u, ↓inrO_u, ↓reduceIte, EM, EMg, EMs, z0, oi, n_inbT, n_cntT, n_ltT, n_ltF, n_leT, n_leF, n_eqT, n_eqF, n_m1T, n_m1F, n_m1F', n_cl, n_add, n_mul, ro_at, ro_ro, up_at, up_up, ↓calC_u, ↓adc_u, EC, ECg, ez, h4, el, Nat.zero_add]
theorem c_formatDifference {v w : Int32} (hi : IC n h A R S) (hg : GoodS S) (h120 : ∀ a b k, patN S v = some a → patN S w = some b → isD (nx2 (gluOf (lP (sCur S) a)) (gluOf (lP (sCur S) b))) (T2 false (gluOf (lP (sCur S) a)) (gluOf (lP (sCur S) b))) (128, 128) k → k ≤ 120) : CA n M (f_X11_formatDifference (ca n 0) v w (E n h A M R)) exN (aFmtD S v w) := by
  rcases pat_cases S v with ⟨s, hs, rfl, hp, e⟩ | ⟨e, hc⟩
  · obtain ⟨a, ep, ha⟩ := c_patT (M := M) hi hs hp
    rcases pat_cases S w with ⟨t, ht, rfl, hq, e'⟩ | ⟨e', hc⟩
    · obtain ⟨b, eq, hb⟩ := c_patT (M := M) hi ht hq
      have ok := good_glu hg hs hp
      have ok' := good_glu hg ht hq
      obtain ⟨A1, b1, au, au2, f1⟩ := c_both (A := A) (M := M) (R := R) hg hs ht hp hq ha hb
      obtain ⟨x, A2, e2, hv, f2, -⟩ := c_findApart (n := n) (h := h) (M := M) (R := R) ok ok' au au2
      have i2 : IC n h A2 R S := IC_wk hi (MonoS_rf n h) (fun r hr => (f2 r (by omega)).trans (f1 r (by omega)))
      obtain ⟨y, cap, hsb⟩ := Line_Sb i2.1.1 i2.2.2.2.2.2.2.2
      obtain ⟨h3, A3, R3, y3, cap3, ch, mh, ew, q3, f3, k1, k2⟩ := c_writeFound (M := M) ok ok' hv hsb (fun k => h120 s t k e e')
      unfold aFmtD
      rw [e, e']
      dsimp only
      have hfc := fc_le (YB_cap q3.2.2.2.2.1) k1 k2
      have hlen := c_lenL (n := n) (h := h3) (A := A3) (M := M) (R := R3) (l := (chw (isB (nx2 (gluOf (lP (sCur S) s)) (gluOf (lP (sCur S) t))) (T2 false (gluOf (lP (sCur S) s)) (gluOf (lP (sCur S) t))) (128, 128))).map (97 + ·)) (hl := q3.2.2.1)
      rw [List.length_map] at hlen
      refine ⟨h3, A3, R3, ?_, IC_line i2 f3 (Sb_Line q3)⟩
      rw [if_pos rfl]
      unfold f_X11_formatDifference
      simp (disch := omega) only [↓grd_u, ↓bnd_e, ↓orf_u, ↓oif_u, ↓cal_u, ↓calX_u, ↓inrO_u, ↓reduceIte, EM, EMg, EMs, z0, oi, n_inbT, n_cntT, n_ltT, n_ltF, n_leT, n_leF, n_eqT, n_eqF, n_m1T, n_m1F, n_m1F', n_cl, n_add, n_mul, ro_at, ro_ro, up_at, up_up, ↓calC_u, EC, ep, eq, b1, e2, ew, hlen]
      rw [if_pos hfc]
    · rw [aFmtD_X (Or.inr e')]
      refine CA_no hi (by decide) ?_
      unfold f_X11_formatDifference
      simp (disch := omega) only [↓grd_u, ↓bnd_e, ↓orf_u, ↓oif_u, ↓cal_u, ↓calX_u, ↓inrO_u, ↓reduceIte, EM, EMg, EMs, z0, oi, n_inbT, n_cntT, n_ltT, n_ltF, n_leT, n_leF, n_eqT, n_eqF, n_m1T, n_m1F, n_m1F', n_cl, n_add, n_mul, ro_at, ro_ro, up_at, up_up, EC, ep, c_patF hi hc]
      rfl
  · rw [aFmtD_X (Or.inl e)]
    refine CA_no hi (by decide) ?_
    unfold f_X11_formatDifference
    simp (disch := omega) only [↓grd_u, ↓bnd_e, ↓orf_u, ↓oif_u, ↓cal_u, ↓calX_u, ↓inrO_u, ↓reduceIte, EM, EMg, EMs, z0, oi, n_inbT, n_cntT, n_ltT, n_ltF, n_leT, n_leF, n_eqT, n_eqF, n_m1T, n_m1F, n_m1F', n_cl, n_add, n_mul, ro_at, ro_ro, up_at, up_up, EC, c_patF hi hc]
    rfl
end CFMTC
