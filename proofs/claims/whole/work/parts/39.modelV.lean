section MODELV
variable {n : Nat} {h : mH} {A M : Nat → Nat → Int32} {R : Nat → Nat → Option Nat} {S : St}
/-! save, restore, undo -/
def aSave (S : St) : St := (sCur S, sUndo S, some (sCur S), sText S, sErr S, sFail S, sLine S)
theorem m_save (hi : IM M S) (hg : GoodS S) : MA n h A R (f_X12_save (ma n 0) (E n h A M R)) (0, nPat (sCur S), aSave S) := by
  have h0 : IM (ro M 0 (up (M 0) 0 (nI 0))) S := IM_thrown hi
  obtain ⟨M0, hM0⟩ : ∃ M0, M0 = ro M 0 (up (M 0) 0 (nI 0)) := ⟨_, rfl⟩
  rw [← hM0] at h0
  obtain ⟨a1, a2, a3, a4, a5, a6, a8, a9, a10⟩ := id h0
  have hz : pre 248 (M0 1) (M0 3) = enc (sCur S) := by rw [a1]; exact enc_copy _ a5
  refine ⟨ro (ro M0 3 (enc (sCur S))) 0 (up (M0 0) 7 (nI 1)), ?_, ⟨a1, ?_, ⟨by rw [ro_at, up_at], ?_⟩, a4, ?_, a6, a8, a9, a10⟩, ?_⟩
  · unfold f_X12_save g_X12_save_7
    simp (disch := omega) only [↓grd_u, ↓bnd_e, ↓orf_u, ↓oif_u, ↓cal_u, ↓calX_u, ↓inrO_u, ↓reduceIte, EM, EMg, EMs, z0, oi, n_inbT, n_cntT, n_ltT, n_ltF, n_leT, n_leF, n_eqT, n_eqF, n_m1T, n_m1F, n_m1F', n_cl, n_add, n_mul, ro_at, ro_ro, up_at, up_up]
    rw [← hM0]
    have hl := lp_for0 (f := b_X12_save_7 (ma n 0)) (fun k => (nI k, E n h A (ro M0 3 (pre k (M0 1) (M0 3))) R)) 248 (nI (nPat (sCur S)), E n h A (ro (ro M0 3 (enc (sCur S))) 0 (up (M0 0) 7 (nI 1))) R) (fun k hk => ?_) ?_ (L := 100000) (by decide)
    · simp only [pre_0, ro_self] at hl
      exact hl
    · unfold b_X12_save_7 b0_X12_save_7
      simp (disch := omega) only [↓grd_u, ↓bnd_e, ↓orf_u, ↓oif_u, ↓cal_u, ↓calX_u, ↓inrO_u, ↓reduceIte, EM, EMg, EMs, z0, oi, n_inbT, n_cntT, n_ltT, n_ltF, n_leT, n_leF, n_eqT, n_eqF, n_m1T, n_m1F, n_m1F', n_cl, n_add, n_mul, ro_at, ro_ro, up_at, up_up, ro_ne, up_ne, ro_sw, up_pre]
    · unfold b_X12_save_7 b0_X12_save_7
      simp (disch := omega) only [↓grd_u, ↓bnd_e, ↓orf_u, ↓oif_u, ↓cal_u, ↓calX_u, ↓inrO_u, ↓reduceIte, EM, EMg, EMs, z0, oi, n_inbT, n_cntT, n_ltT, n_ltF, n_leT, n_leF, n_eqT, n_eqF, n_m1T, n_m1F, n_m1F', n_cl, n_add, n_mul, ro_at, ro_ro, up_at, up_up, ro_ne, up_ne, ro_sw, hz]
      rw [m_patterns (L := sCur S) (by rw [ro_ne _ _ (by decide), ro_ne _ _ (by decide)]; exact a1) (good_28 hg)]
      rfl
  · exact Ring_fr (Ring_fr a2 (Fr_ro (rows := [3]) (sc := []) _ (by decide) (by decide)) (by decide) (by decide) (by decide)) (Fr_r0 (rows := []) (sc := [7]) _ (by decide)) (by decide) (by decide) (by decide)
  · rw [ro_ne _ _ (by decide), ro_at]
  · intro j hj
    rw [ro_ne _ _ (by decide), ro_at]
    exact enc_z _ hj
  · rw [ro_at, up_ne _ _ (by decide), hM0, ro_at, up_at]
def aRest (S : St) : Nat × Nat × St := match sSaved S with
  | none => (1, 0, S)
  | some L => (0, nPat L, (L, [], some L, sText S, sErr S, sFail S, sLine S))
theorem m_restore (hi : IM M S) (hg : GoodS S) : MA n h A R (f_X12_restore (ma n 0) (E n h A M R)) (aRest S) := by
  have h0 : IM (ro M 0 (up (M 0) 0 (nI 0))) S := IM_thrown hi
  obtain ⟨M0, hM0⟩ : ∃ M0, M0 = ro M 0 (up (M 0) 0 (nI 0)) := ⟨_, rfl⟩
  have ht0 : M0 0 0 = nI 0 := by rw [hM0, ro_at, up_at]
  rw [← hM0] at h0
  obtain ⟨a1, a2, a3, a4, a5, a6, a8, a9, a10⟩ := id h0
  unfold f_X12_restore aRest
  have e0 : M 0 7 = M0 0 7 := by rw [hM0, ro_at, up_ne _ _ (by decide)]
  cases hs : sSaved S with
  | none =>
    rw [hs] at a3
    obtain ⟨M', e, i, t⟩ := m_failed (n := n) (h := h) (A := A) (R := R) (k := 1) h0
    refine ⟨M', ?_, i, t⟩
    simp (disch := omega) only [↓grd_u, ↓bnd_e, ↓orf_u, ↓oif_u, ↓cal_u, ↓calX_u, ↓inrO_u, ↓reduceIte, EM, EMg, EMs, z0, oi, n_inbT, n_cntT, n_ltT, n_ltF, n_leT, n_leF, n_eqT, n_eqF, n_m1T, n_m1F, n_m1F', n_cl, n_add, n_mul, ro_at, ro_ro, up_at, up_up, ro_ne, up_ne, ro_sw]
    rw [← hM0, e0, a3]
    simp (disch := omega) only [↓grd_u, ↓bnd_e, ↓orf_u, ↓oif_u, ↓cal_u, ↓calX_u, ↓inrO_u, ↓reduceIte, EM, EMg, EMs, z0, oi, n_inbT, n_cntT, n_ltT, n_ltF, n_leT, n_leF, n_eqT, n_eqF, n_m1T, n_m1F, n_m1F', n_cl, n_add, n_mul, ro_at, ro_ro, up_at, up_up, e]
  | some L =>
    rw [hs] at a3
    obtain ⟨b1, b2⟩ := a3
    have gl : GoodL L := hg.2.2.2.1 L (by rw [hs]; rfl)
    have hz : pre 248 (M0 3) (M0 1) = enc L := by rw [b2]; exact enc_copy _ (fun j hj => by rw [a1]; exact enc_z _ hj)
    refine ⟨ro (ro M0 1 (enc L)) 0 (up (up (M0 0) 6 (nI 0)) 5 (nI 0)), ?_, ⟨?_, ?_, ⟨?_, ?_⟩, a4, a5, a6, a8, a9, a10⟩, ?_⟩
    · simp (disch := omega) only [↓grd_u, ↓bnd_e, ↓orf_u, ↓oif_u, ↓cal_u, ↓calX_u, ↓inrO_u, ↓reduceIte, EM, EMg, EMs, z0, oi, n_inbT, n_cntT, n_ltT, n_ltF, n_leT, n_leF, n_eqT, n_eqF, n_m1T, n_m1F, n_m1F', n_cl, n_add, n_mul, ro_at, ro_ro, up_at, up_up, ro_ne, up_ne, ro_sw]
      rw [← hM0, e0, b1]
      simp (disch := omega) only [↓grd_u, ↓bnd_e, ↓orf_u, ↓oif_u, ↓cal_u, ↓calX_u, ↓inrO_u, ↓reduceIte, EM, EMg, EMs, z0, oi, n_inbT, n_cntT, n_ltT, n_ltF, n_leT, n_leF, n_eqT, n_eqF, n_m1T, n_m1F, n_m1F', n_cl, n_add, n_mul, ro_at, ro_ro, up_at, up_up]
      unfold g_X12_restore_20
      have hl := lp_for0 (f := b_X12_restore_20 (ma n 0)) (fun k => (nI k, E n h A (ro M0 1 (pre k (M0 3) (M0 1))) R)) 248 (nI (nPat L), E n h A (ro (ro M0 1 (enc L)) 0 (up (up (M0 0) 6 (nI 0)) 5 (nI 0))) R) (fun k hk => ?_) ?_ (L := 100000) (by decide)
      · simp only [pre_0, ro_self] at hl
        exact hl
      · unfold b_X12_restore_20 b0_X12_restore_20
        simp (disch := omega) only [↓grd_u, ↓bnd_e, ↓orf_u, ↓oif_u, ↓cal_u, ↓calX_u, ↓inrO_u, ↓reduceIte, EM, EMg, EMs, z0, oi, n_inbT, n_cntT, n_ltT, n_ltF, n_leT, n_leF, n_eqT, n_eqF, n_m1T, n_m1F, n_m1F', n_cl, n_add, n_mul, ro_at, ro_ro, up_at, up_up, ro_ne, up_ne, ro_sw, up_pre]
      · unfold b_X12_restore_20 b0_X12_restore_20
        simp (disch := omega) only [↓grd_u, ↓bnd_e, ↓orf_u, ↓oif_u, ↓cal_u, ↓calX_u, ↓inrO_u, ↓reduceIte, EM, EMg, EMs, z0, oi, n_inbT, n_cntT, n_ltT, n_ltF, n_leT, n_leF, n_eqT, n_eqF, n_m1T, n_m1F, n_m1F', n_cl, n_add, n_mul, ro_at, ro_ro, up_at, up_up, ro_ne, up_ne, ro_sw, hz, up_sw]
        rw [m_patterns (L := L) (by rw [ro_ne _ _ (by decide), ro_at]) (fun s hs => by have := GoodP_len (gl.1 s hs); omega)]
        rfl
    · rw [ro_ne _ _ (by decide), ro_at]; rfl
    · exact ⟨0, by decide, by rw [ro_at, up_ne _ _ (by decide), up_at], by rw [ro_at, up_at]; rfl, Nat.zero_le _, fun i hi => absurd hi (Nat.not_lt_zero i)⟩
    · rw [ro_at, up_ne _ _ (by decide), up_ne _ _ (by decide)]; exact b1
    · rw [ro_ne _ _ (by decide), ro_ne _ _ (by decide)]; exact b2
    · rw [ro_at, up_ne _ _ (by decide), up_ne _ _ (by decide)]; exact ht0
def aUndo (S : St) : Nat × Nat × St := match sUndo S with
  | [] => (1, 0, S)
  | L :: u => (0, u.length, (L, u, sSaved S, sText S, sErr S, sFail S, sLine S))
theorem m_undo (hi : IM M S) (hg : GoodS S) : MA n h A R (f_X12_undo (ma n 0) (E n h A M R)) (aUndo S) := by
  have h0 : IM (ro M 0 (up (M 0) 0 (nI 0))) S := IM_thrown hi
  obtain ⟨M0, hM0⟩ : ∃ M0, M0 = ro M 0 (up (M 0) 0 (nI 0)) := ⟨_, rfl⟩
  have ht0 : M0 0 0 = nI 0 := by rw [hM0, ro_at, up_at]
  rw [← hM0] at h0
  obtain ⟨a1, a2, a3, a4, a5, a6, a8, a9, a10⟩ := id h0
  obtain ⟨f, r1, r2, r3, r4, r5⟩ := a2
  have e0 : M 0 5 = M0 0 5 := by rw [hM0, ro_at, up_ne _ _ (by decide)]
  have e1 : M 0 6 = M0 0 6 := by rw [hM0, ro_at, up_ne _ _ (by decide)]
  unfold f_X12_undo aUndo
  cases hs : sUndo S with
  | nil =>
    rw [hs] at r3
    obtain ⟨M', e, i, t⟩ := m_failed (n := n) (h := h) (A := A) (R := R) (k := 1) h0
    refine ⟨M', ?_, i, t⟩
    simp (disch := omega) only [↓grd_u, ↓bnd_e, ↓orf_u, ↓oif_u, ↓cal_u, ↓calX_u, ↓inrO_u, ↓reduceIte, EM, EMg, EMs, z0, oi, n_inbT, n_cntT, n_ltT, n_ltF, n_leT, n_leF, n_eqT, n_eqF, n_m1T, n_m1F, n_m1F', n_cl, n_add, n_mul, ro_at, ro_ro, up_at, up_up, ro_ne, up_ne, ro_sw]
    rw [← hM0, e0, r3]
    simp (disch := omega) only [↓grd_u, ↓bnd_e, ↓orf_u, ↓oif_u, ↓cal_u, ↓calX_u, ↓inrO_u, ↓reduceIte, EM, EMg, EMs, z0, oi, n_inbT, n_cntT, n_ltT, n_ltF, n_leT, n_leF, n_eqT, n_eqF, n_m1T, n_m1F, n_m1F', n_cl, n_add, n_mul, ro_at, ro_ro, up_at, up_up, e, List.length_nil]
  | cons L u =>
    rw [hs] at r3 r4 r5
    simp only [List.length_cons] at r3 r4 r5
    have hz : pre 248 (fun j => M0 2 (248 * ((f + u.length) % 8) + j)) (M0 1) = enc L := by
      funext j
      by_cases hj : j < 248
      · rw [pre_lt _ _ hj]
        have := r5 0 (by omega) j hj
        rw [show u.length + 1 - 1 - 0 = u.length by omega] at this
        exact this
      · rw [pre_ge _ _ (by omega), a1, enc_z _ (by omega), enc_z _ (by omega)]
    refine ⟨ro (ro M0 1 (enc L)) 0 (up (M0 0) 5 (nI u.length)), ?_, ⟨?_, ⟨f, r1, ?_, ?_, ?_, ?_⟩, a3, a4, a5, a6, a8, a9, a10⟩, ?_⟩
    · simp (disch := omega) only [↓grd_u, ↓bnd_e, ↓orf_u, ↓oif_u, ↓cal_u, ↓calX_u, ↓inrO_u, ↓reduceIte, EM, EMg, EMs, z0, oi, n_inbT, n_cntT, n_ltT, n_ltF, n_leT, n_leF, n_eqT, n_eqF, n_m1T, n_m1F, n_m1F', n_cl, n_add, n_mul, ro_at, ro_ro, up_at, up_up, ro_ne, up_ne, ro_sw]
      rw [← hM0, e0, e1, r3, r2]
      have hM1 : ro M 0 (up (up (M 0) 0 (nI 0)) 5 (nI (u.length + 1) - nI 1)) = ro M0 0 (up (M0 0) 5 (nI u.length)) := by
        rw [n_sub (by omega), Nat.add_sub_cancel, hM0, ro_at, ro_ro]
      have hM2 : ro M 0 (up (up (M 0) 5 (nI (u.length + 1) - nI 1)) 0 (nI 0)) = ro M0 0 (up (M0 0) 5 (nI u.length)) := by
        rw [n_sub (by omega), Nat.add_sub_cancel, hM0, ro_at, ro_ro, up_swap _ _ _ (by decide : 0 < 5)]
      simp (disch := omega) only [↓grd_u, ↓bnd_e, ↓orf_u, ↓oif_u, ↓cal_u, ↓calX_u, ↓inrO_u, ↓reduceIte, EM, EMg, EMs, z0, oi, n_inbT, n_cntT, n_ltT, n_ltF, n_leT, n_leF, n_eqT, n_eqF, n_m1T, n_m1F, n_m1F', n_cl, n_add, n_mul, ro_at, ro_ro, up_at, up_up, ro_ne, up_ne, ro_sw, hM1, hM2, n_sub, n_rem, Nat.add_sub_cancel]
      unfold g_X12_undo_43
      have hl := lp_for0 (f := b_X12_undo_43 (ma n 0) (nI ((f + u.length) % 8))) (fun k => (nI k, E n h A (ro (ro M0 1 (pre k (fun j => M0 2 (248 * ((f + u.length) % 8) + j)) (M0 1))) 0 (up (M0 0) 5 (nI u.length))) R)) 248 (nI u.length, E n h A (ro (ro M0 1 (enc L)) 0 (up (M0 0) 5 (nI u.length))) R) (fun k hk => ?_) ?_ (L := 100000) (by decide)
      · simp only [pre_0, ro_self] at hl
        rw [show ro M 0 (up (up (M 0) 0 (nI 0)) 5 (nI u.length)) = ro M0 0 (up (M0 0) 5 (nI u.length)) by rw [hM0, ro_at, ro_ro]]
        exact hl
      · unfold b_X12_undo_43 b0_X12_undo_43
        simp (disch := omega) only [↓grd_u, ↓bnd_e, ↓orf_u, ↓oif_u, ↓cal_u, ↓calX_u, ↓inrO_u, ↓reduceIte, EM, EMg, EMs, z0, oi, n_inbT, n_cntT, n_ltT, n_ltF, n_leT, n_leF, n_eqT, n_eqF, n_m1T, n_m1F, n_m1F', n_cl, n_add, n_mul, ro_at, ro_ro, up_at, up_up, ro_ne, up_ne, ro_sw]
        rw [← up_pre]
      · unfold b_X12_undo_43 b0_X12_undo_43
        simp (disch := omega) only [↓grd_u, ↓bnd_e, ↓orf_u, ↓oif_u, ↓cal_u, ↓calX_u, ↓inrO_u, ↓reduceIte, EM, EMg, EMs, z0, oi, n_inbT, n_cntT, n_ltT, n_ltF, n_leT, n_leF, n_eqT, n_eqF, n_m1T, n_m1F, n_m1F', n_cl, n_add, n_mul, ro_at, ro_ro, up_at, up_up, ro_ne, up_ne, ro_sw, hz]
    · rw [ro_ne _ _ (by decide), ro_at]; rfl
    · rw [ro_at, up_ne _ _ (by decide)]; exact r2
    · rw [ro_at, up_at]; rfl
    · show u.length ≤ 8; omega
    · intro i hi j hj
      have hi : i < u.length := hi
      show (ro (_ : Nat → Nat → Int32) 0 _ 2) _ = _
      rw [ro_ne _ _ (by decide), ro_ne _ _ (by decide)]
      have := r5 (i + 1) (by omega) j hj
      rw [show u.length + 1 - 1 - (i + 1) = u.length - 1 - i by omega] at this
      exact this
    · rw [ro_at, up_ne _ _ (by decide)]; exact ht0
end MODELV
