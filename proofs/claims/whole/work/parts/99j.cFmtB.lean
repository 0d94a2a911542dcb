/-! the class: formatShortest, the call -/
theorem fc_le {cap c m c0 : Nat} (h : cap = 16 ∨ cap = 34 ∨ cap = 70 ∨ cap = 142) (hc : c + fcC c0 = fcC cap) (hm : m + fcM c0 = fcM cap) : c ≤ 3 ∧ m ≤ 246 := by
  have h1 : fcC cap ≤ 3 ∧ fcM cap ≤ 246 := by
    rcases h with rfl | rfl | rfl | rfl <;> decide
  omega
section CFMTB
variable {n : Nat} {h : mH} {A M : Nat → Nat → Int32} {R : Nat → Nat → Option Nat} {S : St} {y cap b : Nat} {l : List Nat} {g : Glu}
theorem c_lenL {hl : A 42 3 = nI l.length} : f_J4_length_8abf5 (ca n 42) (E n h A M R) = some (nI l.length, E n h A M R) := by
  unfold f_J4_length_8abf5 f_J5_length_8abf5
  simp (disch := omega) only [↓grd_u, ↓bnd_e, ↓orf_u, ↓oif_u, ↓cal_u, ↓calX_u, ↓inrO_u, ↓reduceIte, EM, EMg, EMs, z0, oi, n_inbT, n_cntT, n_ltT, n_ltF, n_leT, n_leF, n_eqT, n_eqF, n_m1T, n_m1F, n_m1F', n_cl, n_add, n_mul, ro_at, ro_ro, up_at, up_up, EC, ECg, hl]
theorem c_writeShortest (hb : bAu b) (ok : GluOK g) (hu : AuF A b g) (hs : Sb n h A R l y cap) (hne : ∃ k, k ≤ 7 ∧ ek (gnext g) (gab g) k 128 = true) : ∃ w h' A' R' y' cap' ch mh, isB (gnext g) (gab g) 128 w ∧ f_X0_writeShortest (ca n b) (ca n 42) (E n h A M R) = some (((), E n h' A' M R'), ch, mh) ∧ Sb n h' A' R' (w.map (97 + ·)) y' cap' ∧ FrL n h h' A A' R R' ∧ ch + fcC cap = fcC cap' ∧ mh + fcM cap = fcM cap' := by
  obtain ⟨h1, A1, R1, y1, cap1, ch1, mh1, ez, q1, f1, k1, k2⟩ := c_sbZero (M := M) hs
  have e1 := EAu hb
  have hb42 : b ≠ 42 ∧ 44 ≤ b := by rcases hb with rfl | rfl <;> decide
  have hu' : AuF A1 b g := AuF_fr hu (fun r z1 z2 => f1.2.1 r (by omega) (by omega))
  obtain ⟨k0, k7, hk⟩ := hne
  obtain ⟨j, hj, ef, hB, -⟩ := c_shortAcc (n := n) (h := h1) (M := M) (R := R1) hb hu' ok ⟨k0, hk⟩
  have hw7 : (wd (bN (gB g).2.1 j)).length ≤ 7 := by
    have h1 := (isB_len hB).2 k0
    rcases Nat.lt_or_ge k0 (wd (bN (gB g).2.1 j)).length with z | z
    · rw [h1 z] at hk; cases hk
    · omega
  obtain ⟨h2, A2, R2, y2, cap2, ch2, mh2, el, q2, f2, k3, k4⟩ := c_ws10 (M := M) hb ok (wd (bN (gB g).2.1 j)).length j 100000 h1 A1 R1 [] y1 cap1 hu' hj rfl q1 (by show 0 + _ ≤ 120; omega) (by omega)
  refine ⟨wd (bN (gB g).2.1 j), h2, A2, R2, y2, cap2, ch2 + ch1, mh2 + mh1, hB, ?_, by rw [List.nil_append, List.reverse_reverse] at q2; exact q2, FrL_tr f1 f2, by omega, by omega⟩
  unfold f_X0_writeShortest
  have el : g_X0_writeShortest_10 (ca n b) (ca n 42) (nI j) (E n h1 A1 M R1) = some (((), E n h2 A2 M R2), ch2, mh2) := el
  simp (disch := omega) only [↓grd_u, ↓bnd_e, ↓orf_u, ↓oif_u, ↓cal_u, ↓calX_u, ↓inrO_u, ↓reduceIte, EM, EMg, EMs, z0, oi, n_inbT, n_cntT, n_ltT, n_ltF, n_leT, n_leF, n_eqT, n_eqF, n_m1T, n_m1F, n_m1F', n_cl, n_add, n_mul, ro_at, ro_ro, up_at, up_up, ↓calC_u, ↓adc_u, EC, e1, ez, ef, el]
theorem c_formatShortest {v : Int32} (hi : IC n h A R S) (hg : GoodS S) : CA n M (f_X11_formatShortest (ca n 0) v (E n h A M R)) exN (aFmt S v) := by
  have e1 := EAu bAu_1
  unfold aFmt
  rcases pat_cases S v with ⟨s, hs, rfl, hp, e⟩ | ⟨e, hc⟩
  · rw [e]
    dsimp only
    obtain ⟨a, ep, ha⟩ := c_patT (M := M) hi hs hp
    obtain ⟨A', eb, au, f⟩ := c_bld (A := A) (M := M) (R := R) bAu_1 hg hs hp ha
    have i1 := IC_wk hi (MonoS_rf n h) (FrA_44 bAu_1 f)
    obtain ⟨y, cap, hsb⟩ := Line_Sb i1.1.1 i1.2.2.2.2.2.2.2
    obtain ⟨w, h2, A2, R2, y2, cap2, ch, mh, hB, ew, q2, f2, k1, k2⟩ := c_writeShortest (M := M) bAu_1 (good_glu hg hs hp) au hsb (good_short hg hs hp)
    have hcw : chw (isB (gnext (gluOf (lP (sCur S) s))) (gab (gluOf (lP (sCur S) s))) 128) = w := chw_u hB (fun j hj => isB_u hj hB)
    rw [hcw]
    have hfc := fc_le (YB_cap q2.2.2.2.2.1) k1 k2
    have hlen := c_lenL (n := n) (h := h2) (A := A2) (M := M) (R := R2) (l := w.map (97 + ·)) (hl := q2.2.2.1)
    rw [List.length_map] at hlen
    refine ⟨h2, A2, R2, ?_, IC_line i1 f2 (Sb_Line q2)⟩
    rw [if_pos rfl]
    unfold f_X11_formatShortest
    simp (disch := omega) only [↓grd_u, ↓bnd_e, ↓orf_u, ↓oif_u, ↓cal_u, ↓calX_u, ↓inrO_u, ↓reduceIte, EM, EMg, EMs, z0, oi, n_inbT, n_cntT, n_ltT, n_ltF, n_leT, n_leF, n_eqT, n_eqF, n_m1T, n_m1F, n_m1F', n_cl, n_add, n_mul, ro_at, ro_ro, up_at, up_up, ↓calC_u, EC, ep, e1, eb, ew, hlen]
    rw [if_pos hfc]
  · rw [e]
    refine CA_no hi (by decide) ?_
    unfold f_X11_formatShortest
    simp (disch := omega) only [↓grd_u, ↓bnd_e, ↓orf_u, ↓oif_u, ↓cal_u, ↓calX_u, ↓inrO_u, ↓reduceIte, EM, EMg, EMs, z0, oi, n_inbT, n_cntT, n_ltT, n_ltF, n_leT, n_leF, n_eqT, n_eqF, n_m1T, n_m1F, n_m1F', n_cl, n_add, n_mul, ro_at, ro_ro, up_at, up_up, EC, c_patF hi hc]
    rfl
end CFMTB
