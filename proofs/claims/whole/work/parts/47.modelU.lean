section MODELU
variable {n : Nat} {h : mH} {A M : Nat → Nat → Int32} {R : Nat → Nat → Option Nat} {S : St}
theorem g0_ok : GInv g0 := ⟨by decide, by decide, fun v hv => (nomatch hv), fun _ => (by decide : 0 < 128), fun _ => (by decide : 0 < 128)⟩
theorem up_fr {M1 : Nat → Nat → Int32} {r sd : Nat} {v : Int32} : ∀ j, j ≠ sd → ro M1 r (up (M1 r) sd v) r j = M1 r j := fun j hj => by rw [ro_at, up_ne _ _ hj]
/-- the pattern of a slot is built on a side -/
theorem m_builds {sd sl : Nat} (hs : sd < 2) (hsl : sl < 6) (hw : M 1 = enc (sCur S)) (hg : GoodS S) (hp : lP (sCur S) sl ≠ []) :
    ∃ M', f_X12_builds (ma n 0) (nI sd) (nI sl) (E n h A M R) = some ((), E n h A M' R) ∧ AutM M' sd (gluOf (lP (sCur S) sl)) ∧ FrB sd M M' := by
  obtain ⟨p, hpe⟩ : ∃ p, p = lP (sCur S) sl := ⟨_, rfl⟩
  have gp := hg.1.1 sl hsl
  rw [← hpe] at gp hp
  have wf := GoodP_wf gp hp
  have h7 : nLet p ≤ 7 := by
    rcases gp with q | ⟨-, q⟩
    · exact absurd q hp
    · exact Nat.not_lt.mp (fun z => q (Or.inl z))
  have hlen := GoodP_len gp
  have hsm := GoodP_small gp
  have gok := glu_ok wf h7
  obtain ⟨a1, a2, ⟨v, a3⟩, a4⟩ := GRun_all wf g0 g0_ok (by show 0 + _ ≤ 7; omega) (by show 0 + _ ≤ 7; omega)
  rw [← hpe]
  -- the rows emptied
  obtain ⟨M2, hM2⟩ : ∃ M2, M2 = ro (ro (ro M 11 (ap (M 11) (3 * sd) (List.replicate 3 0))) 10 (ap (M 10) (7 * sd) (List.replicate 7 0))) 0 (up (M 0) 29 (nI 0)) := ⟨_, rfl⟩
  have hz : ∀ m q, (List.replicate m 0).getD q 0 = 0 := fun m q => by simp only [List.getD_eq_getElem?_getD, List.getElem?_replicate]; split <;> rfl
  have f2 : FrG sd M M2 := by
    rw [hM2]
    refine ⟨⟨fun q h0 hr => ?_, fun k hk => ?_⟩, fun j hj => ?_, fun j hj => ?_⟩
    · simp only [List.mem_cons, List.not_mem_nil, or_false, not_or] at hr
      obtain ⟨r1, r2, r3, r4, r5⟩ := hr
      simp only [ro_ne _ _ h0, ro_ne _ _ r4, ro_ne _ _ r5]
    · simp only [List.mem_cons, List.not_mem_nil, or_false] at hk
      simp only [ro_at, up_ne _ _ hk]
    · rw [ro_ne _ _ (by decide), ro_at, ap_out _ _ _ (by simp; omega)]
    · rw [ro_ne _ _ (by decide), ro_ne _ _ (by decide), ro_at, ap_out _ _ _ (by simp; omega)]
  have gm2 : GM M2 sd g0 := by
    rw [hM2]
    refine ⟨by rw [ro_at, up_at]; rfl, fun j hj => absurd hj (Nat.not_lt_zero j), fun k hk => ?_, fun k hk => ?_⟩
    · rw [ro_ne _ _ (by decide), ro_at, ap_at _ _ _ (by simp; omega), hz]; rfl
    · rw [ro_ne _ _ (by decide), ro_ne _ _ (by decide), ro_at, ap_at _ _ _ (by simp; omega), hz]; rfl
  have hw2 : M2 1 = enc (sCur S) := by rw [f2.1.1 _ (by decide) (by decide)]; exact hw
  -- the loop over the codes
  have hloop : ∃ r, g_X12_builds_60 (ma n 0) (nI sd) (nI sl) (nI 0) (nI 0) (E n h A M2 R) = some r ∧ ∃ M', r = ((), E n h A M' R) ∧ AutM M' sd (gluOf p) ∧ FrB sd M2 M' := by
    unfold g_X12_builds_60
    refine lp_inv0 (f := b_X12_builds_60 (ma n 0) (nI sd) (nI sl)) (fun k s => ∃ M', s = (nI (grun g0 (p.take k)).2.2.2, nI k, E n h A M' R) ∧ GM M' sd (grun g0 (p.take k)) ∧ FrG sd M2 M') _ p.length (fun k s hk hI => ?_) (L := 100000) (by omega) ⟨M2, rfl, gm2, FrG_rf _ _⟩
    obtain ⟨M1, rfl, gm, fr⟩ := hI
    have hw1 : M1 1 = enc (sCur S) := by rw [fr.1.1 _ (by decide) (by decide)]; exact hw2
    by_cases hk2 : k < p.length
    · obtain ⟨hi, hpre⟩ := a1 k hk2
      obtain ⟨M', e, g, f⟩ := m_stepB (n := n) (h := h) (A := A) (M := M1) (R := R) (S := S) hs hsl hw1 hpe.symm (by omega) hk2 (hsm k hk2) gm hi hpre
      refine Or.inl ⟨_, e, hk2, M', ?_, ?_, FrG_tr fr f⟩
      · rw [take_snoc hk2, grun_snoc]
      · rw [take_snoc hk2, grun_snoc]; exact g
    · have hke : k = p.length := by omega
      subst hke
      rw [List.take_length] at gm
      obtain ⟨g1, g2, g3, g4⟩ := gm
      rw [a3] at g1 g2
      obtain ⟨e1, e2, e3⟩ := g2 0 (by simp)
      have htop : gT (v :: g0.1) 0 = v := gT_top v []
      rw [htop] at e1 e2 e3
      have eg : gluOf p = (v.1, v.2.1, v.2.2, (grun g0 p).2.1, (grun g0 p).2.2.1) := by unfold gluOf; rw [a3]; rfl
      rw [eg] at gok ⊢
      obtain ⟨M3, hM3⟩ : ∃ M3, M3 = ro (ro (ro M1 14 (up (M1 14) sd (nI v.1))) 13 (up (M1 13) sd (nI v.2.1))) 12 (up (M1 12) sd (nI v.2.2)) := ⟨_, rfl⟩
      have hst := m_steps (n := n) (h := h) (A := A) (M := M3) (R := R) (g := (v.1, v.2.1, v.2.2, (grun g0 p).2.1, (grun g0 p).2.2.1)) hs gok (by rw [hM3, ro_ne _ _ (by decide), ro_at, up_at]) (fun k hk => by rw [hM3, ro_ne _ _ (by decide), ro_ne _ _ (by decide), ro_ne _ _ (by decide)]; exact g3 k hk) (fun k hk => by rw [hM3, ro_ne _ _ (by decide), ro_ne _ _ (by decide), ro_ne _ _ (by decide)]; exact g4 k hk)
      have hlc : M1 1 (2 + 29 * sl) = nI p.length := by rw [hw1, enc_len _ hsl, hpe]
      refine Or.inr ⟨((), E n h A (ro M3 9 (blk (M3 9) (387 * sd) 387 (fun j => nI (gnext (v.1, v.2.1, v.2.2, (grun g0 p).2.1, (grun g0 p).2.2.1) (j / 3) (j % 3))))) R), ?_, _, rfl, ⟨?_, ?_, ?_, ?_, ?_, ?_⟩, ?_⟩
      · unfold b_X12_builds_60 b0_X12_builds_60
        simp (disch := omega) only [↓grd_u, ↓bnd_e, ↓orf_u, ↓oif_u, ↓cal_u, ↓calX_u, ↓inrO_u, ↓reduceIte, EM, EMg, EMs, z0, oi, n_inbT, n_cntT, n_ltT, n_ltF, n_leT, n_leF, n_eqT, n_eqF, n_m1T, n_m1F, n_m1F', n_cl, n_add, n_mul, ro_at, ro_ro, up_at, up_up, ro_ne, up_ne, ro_sw, m_length, hlc, e1, e2, e3]
        rw [← hM3, hst]
      · rw [ro_ne _ _ (by decide), hM3, ro_ne _ _ (by decide), ro_ne _ _ (by decide), ro_at, up_at]
      · rw [ro_ne _ _ (by decide), hM3, ro_ne _ _ (by decide), ro_at, up_at]
      · rw [ro_ne _ _ (by decide), hM3, ro_at, up_at]
      · intro k hk
        rw [ro_ne _ _ (by decide), hM3, ro_ne _ _ (by decide), ro_ne _ _ (by decide), ro_ne _ _ (by decide)]
        exact g3 k hk
      · intro k hk
        rw [ro_ne _ _ (by decide), hM3, ro_ne _ _ (by decide), ro_ne _ _ (by decide), ro_ne _ _ (by decide)]
        exact g4 k hk
      · intro q hq c hc
        rw [ro_at, Nat.add_assoc, blk_at _ _ _ (by omega), show (3 * q + c) / 3 = q by omega, show (3 * q + c) % 3 = c by omega]
      · refine FrB_tr (FrB_G fr) ⟨⟨fun r h0 hr => ?_, fun k _ => ?_⟩, fun j _ => ?_, fun j _ => ?_, fun j hj => ⟨?_, ?_, ?_⟩, fun j hj => ?_⟩
        · simp only [List.mem_cons, List.not_mem_nil, or_false, not_or] at hr
          obtain ⟨r1, r2, r3, r4, r5, r6, r7, r8, r9⟩ := hr
          rw [ro_ne _ _ r9, hM3, ro_ne _ _ r7, ro_ne _ _ r6, ro_ne _ _ r8]
        · rw [ro_ne _ _ (by decide), hM3, ro_ne _ _ (by decide), ro_ne _ _ (by decide), ro_ne _ _ (by decide)]
        · rw [ro_ne _ _ (by decide), hM3, ro_ne _ _ (by decide), ro_ne _ _ (by decide), ro_ne _ _ (by decide)]
        · rw [ro_ne _ _ (by decide), hM3, ro_ne _ _ (by decide), ro_ne _ _ (by decide), ro_ne _ _ (by decide)]
        · rw [ro_ne _ _ (by decide), hM3, ro_ne _ _ (by decide), ro_at, up_ne _ _ hj]
        · rw [ro_ne _ _ (by decide), hM3, ro_at, up_ne _ _ hj]
        · rw [ro_ne _ _ (by decide), hM3, ro_ne _ _ (by decide), ro_ne _ _ (by decide), ro_at, up_ne _ _ hj]
        · rw [ro_at, blk_out _ _ _ _ hj, hM3, ro_ne _ _ (by decide), ro_ne _ _ (by decide), ro_ne _ _ (by decide)]
  obtain ⟨r, e60, M', rfl, aut, fb⟩ := hloop
  refine ⟨M', ?_, aut, FrB_tr (FrB_G f2) fb⟩
  -- the two loops that empty the rows
  have e28 : g_X12_builds_28 (ma n 0) (nI sd) (nI sl) (nI 0) (E n h A (ro M 10 (ap (M 10) (7 * sd) (List.replicate 7 0))) R) = some ((), E n h A M' R) := by
    unfold g_X12_builds_28
    have hl := lp_for0 (f := b_X12_builds_28 (ma n 0) (nI sd) (nI sl)) (fun k => (nI k, E n h A (ro (ro M 11 (ap (M 11) (3 * sd) ((List.replicate 3 0).take k))) 10 (ap (M 10) (7 * sd) (List.replicate 7 0))) R)) 3 ((), E n h A M' R) (fun k hk => ?_) ?_ (L := 100000) (by decide)
    · simp only [List.take_zero, ap_nil, ro_self] at hl
      exact hl
    · unfold b_X12_builds_28 b0_X12_builds_28
      simp (disch := omega) only [↓grd_u, ↓bnd_e, ↓orf_u, ↓oif_u, ↓cal_u, ↓calX_u, ↓inrO_u, ↓reduceIte, EM, EMg, EMs, z0, oi, n_inbT, n_cntT, n_ltT, n_ltF, n_leT, n_leF, n_eqT, n_eqF, n_m1T, n_m1F, n_m1F', n_cl, n_add, n_mul, ro_at, ro_ro, up_at, up_up, ro_ne, up_ne, ro_sw]
      have e : nI 0 = nI ((List.replicate 3 0).getD k 0) := by rw [hz]
      rw [e, ap_take _ _ _ (by simp; omega)]
    · unfold b_X12_builds_28 b0_X12_builds_28
      have et : (List.replicate 3 0).take 3 = List.replicate 3 0 := rfl
      simp (disch := omega) only [↓grd_u, ↓bnd_e, ↓orf_u, ↓oif_u, ↓cal_u, ↓calX_u, ↓inrO_u, ↓reduceIte, EM, EMg, EMs, z0, oi, n_inbT, n_cntT, n_ltT, n_ltF, n_leT, n_leF, n_eqT, n_eqF, n_m1T, n_m1F, n_m1F', n_cl, n_add, n_mul, ro_at, ro_ro, up_at, up_up, ro_ne, up_ne, ro_sw, et]
      rw [← hM2, e60]
  unfold f_X12_builds g_X12_builds_2
  rw [oi.1]
  have hl := lp_for0 (f := b_X12_builds_2 (ma n 0) (nI sd) (nI sl)) (fun k => (nI k, E n h A (ro M 10 (ap (M 10) (7 * sd) ((List.replicate 7 0).take k))) R)) 7 ((), E n h A M' R) (fun k hk => ?_) ?_ (L := 100000) (by decide)
  · simp only [List.take_zero, ap_nil, ro_self] at hl
    exact hl
  · unfold b_X12_builds_2 b0_X12_builds_2
    simp (disch := omega) only [↓grd_u, ↓bnd_e, ↓orf_u, ↓oif_u, ↓cal_u, ↓calX_u, ↓inrO_u, ↓reduceIte, EM, EMg, EMs, z0, oi, n_inbT, n_cntT, n_ltT, n_ltF, n_leT, n_leF, n_eqT, n_eqF, n_m1T, n_m1F, n_m1F', n_cl, n_add, n_mul, ro_at, ro_ro, up_at, up_up, ro_ne, up_ne, ro_sw]
    have e : nI 0 = nI ((List.replicate 7 0).getD k 0) := by rw [hz]
    rw [e, ap_take _ _ _ (by simp; omega)]
  · unfold b_X12_builds_2 b0_X12_builds_2
    have et : (List.replicate 7 0).take 7 = List.replicate 7 0 := rfl
    simp (disch := omega) only [↓grd_u, ↓bnd_e, ↓orf_u, ↓oif_u, ↓cal_u, ↓calX_u, ↓inrO_u, ↓reduceIte, EM, EMg, EMs, z0, oi, n_inbT, n_cntT, n_ltT, n_ltF, n_leT, n_leF, n_eqT, n_eqF, n_m1T, n_m1F, n_m1F', n_cl, n_add, n_mul, ro_at, ro_ro, up_at, up_up, ro_ne, up_ne, ro_sw, et, e28]
end MODELU
