/-! the class: two patterns side by side -/
section CEQUIV
variable {n : Nat} {h : mH} {A M : Nat → Nat → Int32} {R : Nat → Nat → Option Nat} {S : St} {g g' : Glu}
theorem nb0 : vp_nar .boolean (nI 0) = nI 0 := by decide +kernel
theorem nb1 : vp_nar .boolean (nI 1) = nI 1 := by decide +kernel
theorem c_both {s t a b : Nat} (hg : GoodS S) (hs : s < 6) (ht : t < 6) (ps : lP (sCur S) s ≠ []) (pt : lP (sCur S) t ≠ []) (ha : Pat n h a (lP (sCur S) s)) (hb : Pat n h b (lP (sCur S) t)) : ∃ A', f_X11_buildBoth (ca n 0) a b (E n h A M R) = some ((), E n h A' M R) ∧ AuF A' 50 (gluOf (lP (sCur S) s)) ∧ AuF A' 64 (gluOf (lP (sCur S) t)) ∧ ∀ r, r < 50 ∨ 78 ≤ r → A' r = A r := by
  have e1 := EAu bAu_1
  have e2 := EAu bAu_2
  obtain ⟨A1, b1, au, f1⟩ := c_bld (A := A) (M := M) (R := R) bAu_1 hg hs ps ha
  obtain ⟨A2, b2, au2, f2⟩ := c_bld (A := A1) (M := M) (R := R) bAu_2 hg ht pt hb
  refine ⟨A2, ?_, AuF_fr au (fun r h1 h2 => f2 r (by omega)), au2, fun r hr => (f2 r (by omega)).trans (f1 r (by omega))⟩
  unfold f_X11_buildBoth
  simp (disch := omega) only [↓grd_u, ↓bnd_e, ↓orf_u, ↓oif_u, ↓cal_u, ↓calX_u, ↓inrO_u, ↓reduceIte, EM, EMg, EMs, z0, oi, n_inbT, n_cntT, n_ltT, n_ltF, n_leT, n_leF, n_eqT, n_eqF, n_m1T, n_m1F, n_m1F', n_cl, n_add, n_mul, ro_at, ro_ro, up_at, up_up, EC, e1, e2, b1, b2]
theorem c_sameByPairs {s t a b : Nat} (hg : GoodS S) (hs : s < 6) (ht : t < 6) (ps : lP (sCur S) s ≠ []) (pt : lP (sCur S) t ≠ []) (ha : Pat n h a (lP (sCur S) s)) (hb : Pat n h b (lP (sCur S) t)) : ∃ A', f_X11_sameByPairs (ca n 0) a b (E n h A M R) = some (nI (pv (noD false (gluOf (lP (sCur S) s)) (gluOf (lP (sCur S) t)))), E n h A' M R) ∧ ∀ r, r < 50 ∨ 94 ≤ r → A' r = A r := by
  have ok := good_glu hg hs ps
  have ok' := good_glu hg ht pt
  obtain ⟨A1, b1, au, au2, f1⟩ := c_both (A := A) (M := M) (R := R) hg hs ht ps pt ha hb
  obtain ⟨v, A2, e2, hv, f2, -⟩ := c_findApart (n := n) (h := h) (M := M) (R := R) ok ok' au au2
  refine ⟨A2, ?_, fun r hr => (f2 r (by omega)).trans (f1 r (by omega))⟩
  unfold f_X11_sameByPairs g_X11_sameByPairs_29
  rcases hv with ⟨rfl, s', u, j, hB, hj, -, -, -, hw⟩ | ⟨rfl, -, hno⟩
  · have hd : ¬ noD false (gluOf (lP (sCur S) s)) (gluOf (lP (sCur S) t)) := isD_noD (isB_len (isB_link ok ok' hw))
    rw [pv_F hd]
    simp (disch := omega) only [↓grd_u, ↓bnd_e, ↓orf_u, ↓oif_u, ↓cal_u, ↓calX_u, ↓inrO_u, ↓reduceIte, EM, EMg, EMs, z0, oi, n_inbT, n_cntT, n_ltT, n_ltF, n_leT, n_leF, n_eqT, n_eqF, n_m1T, n_m1F, n_m1F', n_cl, n_add, n_mul, ro_at, ro_ro, up_at, up_up, EC, b1, e2, nb0]
  · rw [pv_T (noD_link ok ok' hno)]
    simp (disch := omega) only [↓grd_u, ↓bnd_e, ↓orf_u, ↓oif_u, ↓cal_u, ↓calX_u, ↓inrO_u, ↓reduceIte, EM, EMg, EMs, z0, oi, n_inbT, n_cntT, n_ltT, n_ltF, n_leT, n_leF, n_eqT, n_eqF, n_m1T, n_m1F, n_m1F', n_cl, n_add, n_mul, ro_at, ro_ro, up_at, up_up, EC, b1, e2, nb1]
theorem c_areEquivalent {v w : Int32} (hi : IC n h A R S) (hg : GoodS S) : CA n M (f_X11_areEquivalent (ca n 0) v w (E n h A M R)) exN (aTwoP S v w (fun g g' => pv (noD false g g'))) := by
  have hn := fun P => n_nar01 (show pv P ≤ 1 by unfold pv; split <;> omega)
  rcases pat_cases S v with ⟨s, hs, rfl, hp, e⟩ | ⟨e, hc⟩
  · obtain ⟨a, ep, ha⟩ := c_patT (M := M) hi hs hp
    rcases pat_cases S w with ⟨t, ht, rfl, hq, e'⟩ | ⟨e', hc⟩
    · obtain ⟨b, eq, hb⟩ := c_patT (M := M) hi ht hq
      obtain ⟨A1, e1, f1⟩ := c_sameByPairs (A := A) (M := M) (R := R) hg hs ht hp hq ha hb
      unfold aTwoP
      rw [e, e']
      refine CA_ok hi (MonoS_rf n h) (fun r hr => f1 r (by omega)) ?_
      unfold f_X11_areEquivalent
      simp (disch := omega) only [↓grd_u, ↓bnd_e, ↓orf_u, ↓oif_u, ↓cal_u, ↓calX_u, ↓inrO_u, ↓reduceIte, EM, EMg, EMs, z0, oi, n_inbT, n_cntT, n_ltT, n_ltF, n_leT, n_leF, n_eqT, n_eqF, n_m1T, n_m1F, n_m1F', n_cl, n_add, n_mul, ro_at, ro_ro, up_at, up_up, EC, ep, eq, e1, hn]
    · rw [aTwoP_X (Or.inr e')]
      refine CA_no hi (by decide) ?_
      unfold f_X11_areEquivalent
      simp (disch := omega) only [↓grd_u, ↓bnd_e, ↓orf_u, ↓oif_u, ↓cal_u, ↓calX_u, ↓inrO_u, ↓reduceIte, EM, EMg, EMs, z0, oi, n_inbT, n_cntT, n_ltT, n_ltF, n_leT, n_leF, n_eqT, n_eqF, n_m1T, n_m1F, n_m1F', n_cl, n_add, n_mul, ro_at, ro_ro, up_at, up_up, EC, ep, c_patF hi hc]
      rfl
  · rw [aTwoP_X (Or.inl e)]
    refine CA_no hi (by decide) ?_
    unfold f_X11_areEquivalent
    simp (disch := omega) only [↓grd_u, ↓bnd_e, ↓orf_u, ↓oif_u, ↓cal_u, ↓calX_u, ↓inrO_u, ↓reduceIte, EM, EMg, EMs, z0, oi, n_inbT, n_cntT, n_ltT, n_ltF, n_leT, n_leF, n_eqT, n_eqF, n_m1T, n_m1F, n_m1F', n_cl, n_add, n_mul, ro_at, ro_ro, up_at, up_up, EC, c_patF hi hc]
    rfl
theorem c_isIncluded {v w : Int32} (hi : IC n h A R S) (hg : GoodS S) : CA n M (f_X11_isIncluded (ca n 0) v w (E n h A M R)) exN (aTwoP S v w (fun g g' => pv (noD true g g'))) := by
  rcases pat_cases S v with ⟨s, hs, rfl, hp, e⟩ | ⟨e, hc⟩
  · obtain ⟨a, ep, ha⟩ := c_patT (M := M) hi hs hp
    rcases pat_cases S w with ⟨t, ht, rfl, hq, e'⟩ | ⟨e', hc⟩
    · obtain ⟨b, eq, hb⟩ := c_patT (M := M) hi ht hq
      have ok := good_glu hg hs hp
      have ok' := good_glu hg ht hq
      obtain ⟨A1, b1, au, au2, f1⟩ := c_both (A := A) (M := M) (R := R) hg hs ht hp hq ha hb
      obtain ⟨v, A2, e2, hv, f2, -⟩ := c_findOnly (n := n) (h := h) (M := M) (R := R) ok ok' au au2
      unfold aTwoP
      rw [e, e']
      refine CA_ok (v := pv (noD true (gluOf (lP (sCur S) s)) (gluOf (lP (sCur S) t)))) hi (MonoS_rf n h) (fun r hr => (f2 r (by omega)).trans (f1 r (by omega))) ?_
      unfold f_X11_isIncluded g_X11_isIncluded_37
      rcases hv with ⟨rfl, s', u, j, hB, hj, -, -, -, hw⟩ | ⟨rfl, -, hno⟩
      · have hd : ¬ noD true (gluOf (lP (sCur S) s)) (gluOf (lP (sCur S) t)) := isD_noD (isB_len (isB_link ok ok' hw))
        rw [pv_F hd]
        simp (disch := omega) only [↓grd_u, ↓bnd_e, ↓orf_u, ↓oif_u, ↓cal_u, ↓calX_u, ↓inrO_u, ↓reduceIte, EM, EMg, EMs, z0, oi, n_inbT, n_cntT, n_ltT, n_ltF, n_leT, n_leF, n_eqT, n_eqF, n_m1T, n_m1F, n_m1F', n_cl, n_add, n_mul, ro_at, ro_ro, up_at, up_up, EC, ep, eq, b1, e2, nb0]
      · rw [pv_T (noD_link ok ok' hno)]
        simp (disch := omega) only [↓grd_u, ↓bnd_e, ↓orf_u, ↓oif_u, ↓cal_u, ↓calX_u, ↓inrO_u, ↓reduceIte, EM, EMg, EMs, z0, oi, n_inbT, n_cntT, n_ltT, n_ltF, n_leT, n_leF, n_eqT, n_eqF, n_m1T, n_m1F, n_m1F', n_cl, n_add, n_mul, ro_at, ro_ro, up_at, up_up, EC, ep, eq, b1, e2, nb1]
    · rw [aTwoP_X (Or.inr e')]
      refine CA_no hi (by decide) ?_
      unfold f_X11_isIncluded
      simp (disch := omega) only [↓grd_u, ↓bnd_e, ↓orf_u, ↓oif_u, ↓cal_u, ↓calX_u, ↓inrO_u, ↓reduceIte, EM, EMg, EMs, z0, oi, n_inbT, n_cntT, n_ltT, n_ltF, n_leT, n_leF, n_eqT, n_eqF, n_m1T, n_m1F, n_m1F', n_cl, n_add, n_mul, ro_at, ro_ro, up_at, up_up, EC, ep, c_patF hi hc]
      rfl
  · rw [aTwoP_X (Or.inl e)]
    refine CA_no hi (by decide) ?_
    unfold f_X11_isIncluded
    simp (disch := omega) only [↓grd_u, ↓bnd_e, ↓orf_u, ↓oif_u, ↓cal_u, ↓calX_u, ↓inrO_u, ↓reduceIte, EM, EMg, EMs, z0, oi, n_inbT, n_cntT, n_ltT, n_ltF, n_leT, n_leF, n_eqT, n_eqF, n_m1T, n_m1F, n_m1F', n_cl, n_add, n_mul, ro_at, ro_ro, up_at, up_up, EC, c_patF hi hc]
    rfl
theorem c_differenceLength {v w : Int32} (hi : IC n h A R S) (hg : GoodS S) : CA n M (f_X11_differenceLength (ca n 0) v w (E n h A M R)) exN (aTwoP S v w dLen) := by
  rcases pat_cases S v with ⟨s, hs, rfl, hp, e⟩ | ⟨e, hc⟩
  · obtain ⟨a, ep, ha⟩ := c_patT (M := M) hi hs hp
    rcases pat_cases S w with ⟨t, ht, rfl, hq, e'⟩ | ⟨e', hc⟩
    · obtain ⟨b, eq, hb⟩ := c_patT (M := M) hi ht hq
      have ok := good_glu hg hs hp
      have ok' := good_glu hg ht hq
      obtain ⟨A1, b1, au, au2, f1⟩ := c_both (A := A) (M := M) (R := R) hg hs ht hp hq ha hb
      obtain ⟨v, A2, e2, hv, f2, -⟩ := c_findApart (n := n) (h := h) (M := M) (R := R) ok ok' au au2
      unfold aTwoP
      rw [e, e']
      refine CA_ok hi (MonoS_rf n h) (fun r hr => (f2 r (by omega)).trans (f1 r (by omega))) ?_
      unfold f_X11_differenceLength g_X11_differenceLength_43
      rcases hv with ⟨rfl, s', u, j, hB, hj, hL, hp4, h4, hw⟩ | ⟨rfl, -, hno⟩
      · have hlen := c_foundLen (n := n) (h := h) (A := A2) (M := M) (R := R) hB hj hL hp4 h4
        rw [dLen_T (isB_len (isB_link ok ok' hw))]
        simp (disch := omega) only [↓grd_u, ↓bnd_e, ↓orf_u, ↓oif_u, ↓cal_u, ↓calX_u, ↓inrO_u, ↓reduceIte, EM, EMg, EMs, z0, oi, n_inbT, n_cntT, n_ltT, n_ltF, n_leT, n_leF, n_eqT, n_eqF, n_m1T, n_m1F, n_m1F', n_cl, n_add, n_mul, ro_at, ro_ro, up_at, up_up, EC, ep, eq, b1, e2, hlen]
      · rw [dLen_F (noD_link ok ok' hno), ← m1_I]
        simp (disch := omega) only [↓grd_u, ↓bnd_e, ↓orf_u, ↓oif_u, ↓cal_u, ↓calX_u, ↓inrO_u, ↓reduceIte, EM, EMg, EMs, z0, oi, n_inbT, n_cntT, n_ltT, n_ltF, n_leT, n_leF, n_eqT, n_eqF, n_m1T, n_m1F, n_m1F', n_cl, n_add, n_mul, ro_at, ro_ro, up_at, up_up, EC, ep, eq, b1, e2]
    · rw [aTwoP_X (Or.inr e')]
      refine CA_no hi (by decide) ?_
      unfold f_X11_differenceLength
      simp (disch := omega) only [↓grd_u, ↓bnd_e, ↓orf_u, ↓oif_u, ↓cal_u, ↓calX_u, ↓inrO_u, ↓reduceIte, EM, EMg, EMs, z0, oi, n_inbT, n_cntT, n_ltT, n_ltF, n_leT, n_leF, n_eqT, n_eqF, n_m1T, n_m1F, n_m1F', n_cl, n_add, n_mul, ro_at, ro_ro, up_at, up_up, EC, ep, c_patF hi hc]
      rfl
  · rw [aTwoP_X (Or.inl e)]
    refine CA_no hi (by decide) ?_
    unfold f_X11_differenceLength
    simp (disch := omega) only [↓grd_u, ↓bnd_e, ↓orf_u, ↓oif_u, ↓cal_u, ↓calX_u, ↓inrO_u, ↓reduceIte, EM, EMg, EMs, z0, oi, n_inbT, n_cntT, n_ltT, n_ltF, n_leT, n_leF, n_eqT, n_eqF, n_m1T, n_m1F, n_m1F', n_cl, n_add, n_mul, ro_at, ro_ro, up_at, up_up, EC, c_patF hi hc]
    rfl
end CEQUIV
