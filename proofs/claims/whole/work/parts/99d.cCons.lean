/-! the class: isConsistent -/
section CCONS
variable {n : Nat} {h : mH} {A M : Nat → Nat → Int32} {R : Nat → Nat → Option Nat} {S : St} {a : Nat} {g : Glu}
theorem c_agr65 {s : Nat} (hi : IC n h A R S) (hg : GoodS S) (hs : s < 6) (hp : lP (sCur S) s ≠ []) (ha : Pat n h a (lP (sCur S) s)) (hu : AuF A 50 (gluOf (lP (sCur S) s))) : ∃ A', g_X11_agreesAlone_65 (ca n 0) a (nI 0) (E n h A M R) = some (nI 1, E n h A' M R) ∧ ∀ r, r ≠ 94 → r ≠ 95 → A' r = A r := by
  have e1 := ESh bSh_1
  have e2 := EAu bAu_1
  have h8 := hg.1.2.1
  have ok := good_glu hg hs hp
  obtain ⟨w1, w2, w3⟩ := good_wf hg hs hp
  have key : ∃ r, g_X11_agreesAlone_65 (ca n 0) a (nI 0) (E n h A M R) = some r ∧ ∃ A', r = (nI 1, E n h A' M R) ∧ ∀ r, r ≠ 94 → r ≠ 95 → A' r = A r := by
    unfold g_X11_agreesAlone_65
    refine lp_inv0 (f := b_X11_agreesAlone_65 (ca n 0) a) (fun k s' => ∃ A2, s' = (nI k, E n h A2 M R) ∧ ∀ r, r ≠ 94 → r ≠ 95 → A2 r = A r) _ (lW (sCur S)).length (fun k s' hk hI => ?_) (L := 100000) (by omega) ⟨A, rfl, fun _ _ _ => rfl⟩
    obtain ⟨A2, rfl, fr⟩ := hI
    have i2 : IC n h A2 R S := IC_wk hi (MonoS_rf n h) (fun r hr => fr r (by omega) (by omega))
    have u2 : AuF A2 50 (gluOf (lP (sCur S) s)) := AuF_fr hu (fun r q1 q2 => fr r (by omega) (by omega))
    have hst := c_sampTot (M := M) i2
    unfold b_X11_agreesAlone_65 b0_X11_agreesAlone_65
    by_cases hkL : k < (lW (sCur S)).length
    · obtain ⟨x, ha1, ha2⟩ := ShOK_w i2.2.1 (by omega) hkL
      have hsa := c_sampleT (M := M) bSh_1 i2.2.1 h8 hkL
      rw [ha1] at hsa
      obtain ⟨z1, z2⟩ := word_good hg hkL
      have hac := c_accepts (n := n) (h := h) (M := M) (R := R) bAu_1 u2 ok ha2 (word_le3 hg hkL) (by omega)
      obtain ⟨A3, e3, f3⟩ := c_spanAcc (n := n) (h := h) (A := A2) (M := M) (R := R) ha w1 w2 (by omega) ha2 (by omega) (word_le3 hg hkL)
      refine Or.inl ⟨(nI (k + 1), E n h A3 M R), ?_, hkL, A3, rfl, fun r q1 q2 => (f3 r q1 q2).trans (fr r q1 q2)⟩
      simp (disch := omega) only [↓grd_u, ↓bnd_e, ↓orf_u, ↓oif_u, ↓cal_u, ↓calX_u, ↓inrO_u, ↓reduceIte, EM, EMg, EMs, z0, oi, n_inbT, n_cntT, n_ltT, n_ltF, n_leT, n_leF, n_eqT, n_eqF, n_m1T, n_m1F, n_m1F', n_cl, n_add, n_mul, ro_at, ro_ro, up_at, up_up, EC, e1, e2, hst, hsa, hac, e3]
    · refine Or.inr ⟨(nI 1, E n h A2 M R), ?_, A2, rfl, fr⟩
      simp (disch := omega) only [↓grd_u, ↓bnd_e, ↓orf_u, ↓oif_u, ↓cal_u, ↓calX_u, ↓inrO_u, ↓reduceIte, EM, EMg, EMs, z0, oi, n_inbT, n_cntT, n_ltT, n_ltF, n_leT, n_leF, n_eqT, n_eqF, n_m1T, n_m1F, n_m1F', n_cl, n_add, n_mul, ro_at, ro_ro, up_at, up_up, EC, e1, hst]
  obtain ⟨r, e, A', rfl, f⟩ := key
  exact ⟨A', e, f⟩
theorem c_agreesAlone {s : Nat} (hi : IC n h A R S) (hg : GoodS S) (hs : s < 6) (hp : lP (sCur S) s ≠ []) (ha : Pat n h a (lP (sCur S) s)) : ∃ A', f_X11_agreesAlone (ca n 0) a (E n h A M R) = some (nI 1, E n h A' M R) ∧ ∀ r, r < 50 → A' r = A r := by
  have e1 := EAu bAu_1
  have e2 := ESm bSm_1
  have ok := good_glu hg hs hp
  obtain ⟨A1, eb, au, f⟩ := c_bld (A := A) (M := M) (R := R) bAu_1 hg hs hp ha
  obtain ⟨A2, es, sm, f2⟩ := c_sbuild (n := n) (h := h) (M := M) (R := R) bSm_1 bAu_1 ok au
  have ez := c_sms (n := n) (h := h) (M := M) (R := R) bSm_1 sm
  have au2 := AuF_S bSm_1 bAu_1 au f2
  obtain ⟨A3, et, f3⟩ := c_told (n := n) (h := h) (M := M) (R := R) bAu_1 ok au2
  have au3 : AuF A3 50 (gluOf (lP (sCur S) s)) := AuF_fr au2 (fun r q1 q2 => f3 r (by omega))
  obtain ⟨A4, ec, f4⟩ := c_countSt (n := n) (h := h) (M := M) (R := R) (len := 3) bAu_1 ok au3 (by decide)
  have au4 : AuF A4 50 (gluOf (lP (sCur S) s)) := AuF_fr au3 (fun r q1 q2 => f4 r (by omega) (by omega))
  have el := c_countLi (n := n) (h := h) (M := M) (R := R) (len := 3) bAu_1 ok au4 (by decide)
  have i4 : IC n h A4 R S := IC_wk hi (MonoS_rf n h) (fun r hr => (f4 r (by omega) (by omega)).trans ((f3 r (by omega)).trans ((f2 r (by omega)).trans (f r (by omega)))))
  obtain ⟨A5, e5, f5⟩ := c_agr65 (M := M) i4 hg hs hp ha au4
  refine ⟨A5, ?_, fun r hr => (f5 r (by omega) (by omega)).trans ((f4 r (by omega) (by omega)).trans ((f3 r (by omega)).trans ((f2 r (by omega)).trans (f r (by omega)))))⟩
  unfold f_X11_agreesAlone
  simp (disch := omega) only [↓grd_u, ↓bnd_e, ↓orf_u, ↓oif_u, ↓cal_u, ↓calX_u, ↓inrO_u, ↓reduceIte, EM, EMg, EMs, z0, oi, n_inbT, n_cntT, n_ltT, n_ltF, n_leT, n_leF, n_eqT, n_eqF, n_m1T, n_m1F, n_m1F', n_cl, n_add, n_mul, ro_at, ro_ro, up_at, up_up, EC, e1, e2, eb, es, ez, et, ec, el, e5]
theorem c_isConsistent (hi : IC n h A R S) (hg : GoodS S) : ∃ A', f_X11_isConsistent (ca n 0) (E n h A M R) = some (nI 1, E n h A' M R) ∧ IC n h A' R S := by
  have e0 := ESh bSh_1
  have key : ∃ r, g_X11_isConsistent_4 (ca n 0) none (nI 0) (E n h A M R) = some r ∧ ∃ A', r = (nI 1, E n h A' M R) ∧ IC n h A' R S := by
    unfold g_X11_isConsistent_4
    refine lp_inv0 (f := b_X11_isConsistent_4 (ca n 0)) (fun k s' => ∃ A1 o, s' = (o, nI k, E n h A1 M R) ∧ IC n h A1 R S ∧ (o = none ∨ ∃ t a', t < 6 ∧ lP (sCur S) t ≠ [] ∧ Pat n h a' (lP (sCur S) t) ∧ o = some a')) _ 6 (fun k s' hk hI => ?_) (L := 100000) (by decide) ⟨A, none, rfl, hi, Or.inl rfl⟩
    obtain ⟨A1, o, rfl, i1, ho⟩ := hI
    unfold b_X11_isConsistent_4 b0_X11_isConsistent_4 g_X11_isConsistent_47
    by_cases hk6 : k < 6
    · by_cases ep : lP (sCur S) k = []
      · have e1 := c_slF (M := M) i1 hk6 ep
        exact Or.inl ⟨(o, nI (k + 1), E n h A1 M R), by simp (disch := omega) only [↓grd_u, ↓bnd_e, ↓orf_u, ↓oif_u, ↓cal_u, ↓calX_u, ↓inrO_u, ↓reduceIte, EM, EMg, EMs, z0, oi, n_inbT, n_cntT, n_ltT, n_ltF, n_leT, n_leF, n_eqT, n_eqF, n_m1T, n_m1F, n_m1F', n_cl, n_add, n_mul, ro_at, ro_ro, up_at, up_up, EC, e0, e1], hk6, A1, o, rfl, i1, ho⟩
      · obtain ⟨pa, e1, q1⟩ := c_slT (M := M) i1 hk6 ep
        obtain ⟨A2, e2, f2⟩ := c_agreesAlone (M := M) i1 hg hk6 ep q1
        have i2 : IC n h A2 R S := IC_wk i1 (MonoS_rf n h) (fun r hr => f2 r (by omega))
        rcases ho with rfl | ⟨t, a', ht, hpt, hat, rfl⟩
        · refine Or.inl ⟨(some pa, nI (k + 1), E n h A2 M R), ?_, hk6, A2, some pa, rfl, i2, Or.inr ⟨k, pa, hk6, ep, q1, rfl⟩⟩
          have ew : f_X11_agreesWithNext (ca n 0) none (some pa) (E n h A2 M R) = some (nI 1, E n h A2 M R) := by
            unfold f_X11_agreesWithNext g_X11_agreesWithNext_8
            simp (disch := omega) only [↓grd_u, ↓bnd_e, ↓orf_u, ↓oif_u, ↓cal_u, ↓calX_u, ↓inrO_u, ↓reduceIte, EM, EMg, EMs, z0, oi, n_inbT, n_cntT, n_ltT, n_ltF, n_leT, n_leF, n_eqT, n_eqF, n_m1T, n_m1F, n_m1F', n_cl, n_add, n_mul, ro_at, ro_ro, up_at, up_up]
          simp (disch := omega) only [↓grd_u, ↓bnd_e, ↓orf_u, ↓oif_u, ↓cal_u, ↓calX_u, ↓inrO_u, ↓reduceIte, EM, EMg, EMs, z0, oi, n_inbT, n_cntT, n_ltT, n_ltF, n_leT, n_leF, n_eqT, n_eqF, n_m1T, n_m1F, n_m1F', n_cl, n_add, n_mul, ro_at, ro_ro, up_at, up_up, EC, e0, e1, e2, ew]
        · obtain ⟨A3, e3, f3⟩ := c_sameByPairs (A := A2) (M := M) (R := R) hg ht hk6 hpt ep hat q1
          obtain ⟨A4, e4, f4⟩ := c_sameBySmallest (A := A3) (M := M) (R := R) hg ht hk6 hpt ep hat q1
          have i4 : IC n h A4 R S := IC_wk i2 (MonoS_rf n h) (fun r hr => (f4 r (by omega)).trans (f3 r (by omega)))
          refine Or.inl ⟨(some pa, nI (k + 1), E n h A4 M R), ?_, hk6, A4, some pa, rfl, i4, Or.inr ⟨k, pa, hk6, ep, q1, rfl⟩⟩
          have ew : f_X11_agreesWithNext (ca n 0) (some a') (some pa) (E n h A2 M R) = some (nI 1, E n h A4 M R) := by
            unfold f_X11_agreesWithNext g_X11_agreesWithNext_30
            simp (disch := omega) only [↓grd_u, ↓bnd_e, ↓orf_u, ↓oif_u, ↓cal_u, ↓calX_u, ↓inrO_u, ↓reduceIte, EM, EMg, EMs, z0, oi, n_inbT, n_cntT, n_ltT, n_ltF, n_leT, n_leF, n_eqT, n_eqF, n_m1T, n_m1F, n_m1F', n_cl, n_add, n_mul, ro_at, ro_ro, up_at, up_up, EC, e3, e4, nb1]
          simp (disch := omega) only [↓grd_u, ↓bnd_e, ↓orf_u, ↓oif_u, ↓cal_u, ↓calX_u, ↓inrO_u, ↓reduceIte, EM, EMg, EMs, z0, oi, n_inbT, n_cntT, n_ltT, n_ltF, n_leT, n_leF, n_eqT, n_eqF, n_m1T, n_m1F, n_m1F', n_cl, n_add, n_mul, ro_at, ro_ro, up_at, up_up, EC, e0, e1, e2, ew]
    · have hke : k = 6 := by omega
      refine Or.inr ⟨(nI 1, E n h A1 M R), ?_, A1, rfl, i1⟩
      rw [hke]
      simp (disch := omega) only [↓grd_u, ↓bnd_e, ↓orf_u, ↓oif_u, ↓cal_u, ↓calX_u, ↓inrO_u, ↓reduceIte, EM, EMg, EMs, z0, oi, n_inbT, n_cntT, n_ltT, n_ltF, n_leT, n_leF, n_eqT, n_eqF, n_m1T, n_m1F, n_m1F', n_cl, n_add, n_mul, ro_at, ro_ro, up_at, up_up]
  obtain ⟨r, e, A', rfl, i⟩ := key
  refine ⟨A', ?_, i⟩
  unfold f_X11_isConsistent
  exact e
end CCONS
