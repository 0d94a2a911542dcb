/-! the reference: the slots in the order of their smallest automata; shares -/
theorem fp_dv : ∀ a, a < 64 → ∀ b, b < 7 → 1 ≤ b → vd64 (FP.ddiv (FP.i2d (nI a)) (FP.i2d (nI b))) := by decide +kernel
theorem fp_fv : ∀ a, a < 9 → ∀ b, b < 9 → 1 ≤ b → vd32 (FP.fdiv (FP.i2f (nI a)) (FP.i2f (nI b))) := by decide +kernel
noncomputable def smZ (S : St) (s : Nat) : Nat := if lP (sCur S) s = [] then 0 else gMc (gluOf (lP (sCur S) s))
def ahP (S : St) (a b : Nat) : Prop := smZ S a < smZ S b ∨ (smZ S a = smZ S b ∧ (nLet (lP (sCur S) a) < nLet (lP (sCur S) b) ∨ (nLet (lP (sCur S) a) = nLet (lP (sCur S) b) ∧ a < b)))
noncomputable def rkB (S : St) (b a : Nat) : Bool := @decide (a ≠ b ∧ lP (sCur S) a ≠ [] ∧ ahP S a b) (Classical.propDecidable _)
theorem rkB_t {S : St} {a b : Nat} (h : a ≠ b ∧ lP (sCur S) a ≠ [] ∧ ahP S a b) : rkB S b a = true := by
  unfold rkB
  exact @decide_eq_true _ (Classical.propDecidable _) h
theorem rkB_f {S : St} {a b : Nat} (h : ¬ (a ≠ b ∧ lP (sCur S) a ≠ [] ∧ ahP S a b)) : rkB S b a = false := by
  unfold rkB
  exact @decide_eq_false _ (Classical.propDecidable _) h
noncomputable def rank (S : St) (b : Nat) : Nat := cs (rkB S b) 6
def slP (S : St) (v : Int32) (b : Nat) : Prop := b < 6 ∧ lP (sCur S) b ≠ [] ∧ nI (rank S b) = v
noncomputable def aSlot (S : St) (v : Int32) : Nat × Nat × St := @ite _ (∃ b, slP S v b) (Classical.propDecidable _) (0, chz (fun b => slP S v b ∧ ∀ a, a < b → ¬ slP S v a), S) (1, 0, S)
theorem aSlot_T {S : St} {v : Int32} {b : Nat} (h : slP S v b) (hl : ∀ a, a < b → ¬ slP S v a) : aSlot S v = (0, b, S) := by
  unfold aSlot
  rw [if_pos ⟨b, h⟩]
  rw [chz_u (k := b) ⟨h, hl⟩ (fun j hj => by
    rcases Nat.lt_trichotomy j b with e | e | e
    · exact absurd hj.1 (hl j e)
    · exact e
    · exact absurd h (hj.2 b e))]
theorem aSlot_F {S : St} {v : Int32} (h : ∀ b, ¬ slP S v b) : aSlot S v = (1, 0, S) := by
  unfold aSlot
  rw [if_neg (fun ⟨b, hb⟩ => h b hb)]
theorem gMc_le (g : Glu) : gMc g ≤ gL g := csn_le _ _
theorem cs_t {T : Nat → Bool} {k : Nat} (h : T k = true) : cs T (k + 1) = cs T k + 1 := by
  show cs T k + (if T k = true then 1 else 0) = _
  rw [if_pos h]
theorem cs_f {T : Nat → Bool} {k : Nat} (h : T k = false) : cs T (k + 1) = cs T k + 0 := by
  show cs T k + (if T k = true then 1 else 0) = _
  rw [if_neg (by rw [h]; decide)]
section MSLOT
variable {n : Nat} {h : mH} {A M : Nat → Nat → Int32} {R : Nat → Nat → Option Nat} {S : St} {g : Glu}
theorem smZ_lt (hg : GoodS S) {s : Nat} (hs : s < 6) : smZ S s < 1000 := by
  unfold smZ
  by_cases e : lP (sCur S) s = []
  · rw [if_pos e]; decide
  · rw [if_neg e]
    have ok := good_glu hg hs e
    have := gL_le ok
    have := gMc_le (gluOf (lP (sCur S) s))
    omega
theorem nLet_lt (hg : GoodS S) {s : Nat} (hs : s < 6) : nLet (lP (sCur S) s) ≤ 7 := by
  rcases hg.1.1 s hs with e | ⟨-, e⟩
  · rw [e]; decide
  · exact Nat.not_lt.mp (fun z => e (Or.inl z))
theorem m_isAhead {a b : Nat} (hi : IM M S) (hg : GoodS S) (ha : a < 6) (hb : b < 6) (hsm : ∀ j, j < 6 → M 29 j = nI (smZ S j)) : ∃ v, f_X12_isAhead (ma n 0) (nI a) (nI b) (E n h A M R) = some (nI v, E n h A M R) ∧ ((v = 1 ∧ ahP S a b) ∨ (v = 0 ∧ ¬ ahP S a b)) := by
  have e1 := hsm a ha
  have e2 := hsm b hb
  have l1 := smZ_lt hg ha
  have l2 := smZ_lt hg hb
  have la := m_lettersOf (n := n) (h := h) (A := A) (R := R) hi.1 hg ha
  have lb := m_lettersOf (n := n) (h := h) (A := A) (R := R) hi.1 hg hb
  have k1 := nLet_lt hg ha
  have k2 := nLet_lt hg hb
  have n0 : vp_nar .boolean (nI 0) = nI 0 := by decide +kernel
  have n1 : vp_nar .boolean (nI 1) = nI 1 := by decide +kernel
  unfold f_X12_isAhead g_X12_isAhead_35 g_X12_isAhead_80
  unfold ahP
  by_cases q1 : smZ S a = smZ S b
  · by_cases q2 : nLet (lP (sCur S) a) = nLet (lP (sCur S) b)
    · by_cases q3 : a < b
      · refine ⟨1, ?_, Or.inl ⟨rfl, Or.inr ⟨q1, Or.inr ⟨q2, q3⟩⟩⟩⟩
        simp (disch := omega) only [↓grd_u, ↓bnd_e, ↓orf_u, ↓oif_u, ↓cal_u, ↓calX_u, ↓inrO_u, ↓reduceIte, EM, EMg, EMs, z0, oi, n_inbT, n_cntT, n_ltT, n_ltF, n_leT, n_leF, n_eqT, n_eqF, n_m1T, n_m1F, n_m1F', n_cl, n_add, n_mul, ro_at, ro_ro, up_at, up_up, e1, e2, la, lb, n1]
      · refine ⟨0, ?_, Or.inr ⟨rfl, by omega⟩⟩
        simp (disch := omega) only [↓grd_u, ↓bnd_e, ↓orf_u, ↓oif_u, ↓cal_u, ↓calX_u, ↓inrO_u, ↓reduceIte, EM, EMg, EMs, z0, oi, n_inbT, n_cntT, n_ltT, n_ltF, n_leT, n_leF, n_eqT, n_eqF, n_m1T, n_m1F, n_m1F', n_cl, n_add, n_mul, ro_at, ro_ro, up_at, up_up, e1, e2, la, lb, n0]
    · by_cases q3 : nLet (lP (sCur S) a) < nLet (lP (sCur S) b)
      · refine ⟨1, ?_, Or.inl ⟨rfl, Or.inr ⟨q1, Or.inl q3⟩⟩⟩
        simp (disch := omega) only [↓grd_u, ↓bnd_e, ↓orf_u, ↓oif_u, ↓cal_u, ↓calX_u, ↓inrO_u, ↓reduceIte, EM, EMg, EMs, z0, oi, n_inbT, n_cntT, n_ltT, n_ltF, n_leT, n_leF, n_eqT, n_eqF, n_m1T, n_m1F, n_m1F', n_cl, n_add, n_mul, ro_at, ro_ro, up_at, up_up, e1, e2, la, lb, n1]
      · refine ⟨0, ?_, Or.inr ⟨rfl, by omega⟩⟩
        simp (disch := omega) only [↓grd_u, ↓bnd_e, ↓orf_u, ↓oif_u, ↓cal_u, ↓calX_u, ↓inrO_u, ↓reduceIte, EM, EMg, EMs, z0, oi, n_inbT, n_cntT, n_ltT, n_ltF, n_leT, n_leF, n_eqT, n_eqF, n_m1T, n_m1F, n_m1F', n_cl, n_add, n_mul, ro_at, ro_ro, up_at, up_up, e1, e2, la, lb, n0]
  · by_cases q2 : smZ S a < smZ S b
    · refine ⟨1, ?_, Or.inl ⟨rfl, Or.inl q2⟩⟩
      simp (disch := omega) only [↓grd_u, ↓bnd_e, ↓orf_u, ↓oif_u, ↓cal_u, ↓calX_u, ↓inrO_u, ↓reduceIte, EM, EMg, EMs, z0, oi, n_inbT, n_cntT, n_ltT, n_ltF, n_leT, n_leF, n_eqT, n_eqF, n_m1T, n_m1F, n_m1F', n_cl, n_add, n_mul, ro_at, ro_ro, up_at, up_up, e1, e2, n1]
    · refine ⟨0, ?_, Or.inr ⟨rfl, by omega⟩⟩
      simp (disch := omega) only [↓grd_u, ↓bnd_e, ↓orf_u, ↓oif_u, ↓cal_u, ↓calX_u, ↓inrO_u, ↓reduceIte, EM, EMg, EMs, z0, oi, n_inbT, n_cntT, n_ltT, n_ltF, n_leT, n_leF, n_eqT, n_eqF, n_m1T, n_m1F, n_m1F', n_cl, n_add, n_mul, ro_at, ro_ro, up_at, up_up, e1, e2, n0]
theorem m_sl55 {v : Int32} {b : Nat} (hi : IM M S) (hg : GoodS S) (hb : b < 6) (hsm : ∀ j, j < 6 → M 29 j = nI (smZ S j)) :
    (slP S v b → g_X12_slotByStates_55 (ma n 0) v (nI b) (nI 0) (nI 0) (E n h A M R) = some (.inr (nI b, E n h A M R))) ∧ (¬ slP S v b → g_X12_slotByStates_55 (ma n 0) v (nI b) (nI 0) (nI 0) (E n h A M R) = some (.inl (nI (b + 1), E n h A M R))) := by
  have hend : ∀ r, b_X12_slotByStates_55 (ma n 0) v (nI b) (nI (cs (rkB S b) 6), nI 6, E n h A M R) = some (.inr r) → g_X12_slotByStates_55 (ma n 0) v (nI b) (nI 0) (nI 0) (E n h A M R) = some r := fun r hr => by
    unfold g_X12_slotByStates_55
    refine lp_for0 (f := b_X12_slotByStates_55 (ma n 0) v (nI b)) (fun k => (nI (cs (rkB S b) k), nI k, E n h A M R)) 6 r (fun k hk => ?_) hr (L := 100000) (by decide)
    unfold b_X12_slotByStates_55 b0_X12_slotByStates_55 g_X12_slotByStates_92 g_X12_slotByStates_93
    by_cases e : k = b
    · rw [cs_f (rkB_f (fun z => z.1 e))]
      simp (disch := omega) only [↓grd_u, ↓bnd_e, ↓orf_u, ↓oif_u, ↓cal_u, ↓calX_u, ↓inrO_u, ↓reduceIte, EM, EMg, EMs, z0, oi, n_inbT, n_cntT, n_ltT, n_ltF, n_leT, n_leF, n_eqT, n_eqF, n_m1T, n_m1F, n_m1F', n_cl, n_add, n_mul, ro_at, ro_ro, up_at, up_up]
    · by_cases ep : lP (sCur S) k = []
      · rw [cs_f (rkB_f (fun z => z.2.1 ep))]
        simp (disch := omega) only [↓grd_u, ↓bnd_e, ↓orf_u, ↓oif_u, ↓cal_u, ↓calX_u, ↓inrO_u, ↓reduceIte, EM, EMg, EMs, z0, oi, n_inbT, n_cntT, n_ltT, n_ltF, n_leT, n_leF, n_eqT, n_eqF, n_m1T, n_m1F, n_m1F', n_cl, n_add, n_mul, ro_at, ro_ro, up_at, up_up, holdsF hi hk ep]
      · obtain ⟨u, e1, hu⟩ := m_isAhead (n := n) (h := h) (A := A) (R := R) hi hg hk hb hsm
        rcases hu with ⟨rfl, hu⟩ | ⟨rfl, hu⟩
        · rw [cs_t (rkB_t ⟨e, ep, hu⟩)]
          simp (disch := omega) only [↓grd_u, ↓bnd_e, ↓orf_u, ↓oif_u, ↓cal_u, ↓calX_u, ↓inrO_u, ↓reduceIte, EM, EMg, EMs, z0, oi, n_inbT, n_cntT, n_ltT, n_ltF, n_leT, n_leF, n_eqT, n_eqF, n_m1T, n_m1F, n_m1F', n_cl, n_add, n_mul, ro_at, ro_ro, up_at, up_up, holdsT hi hg hk ep, e1]
        · rw [cs_f (rkB_f (fun z => hu z.2.2))]
          simp (disch := omega) only [↓grd_u, ↓bnd_e, ↓orf_u, ↓oif_u, ↓cal_u, ↓calX_u, ↓inrO_u, ↓reduceIte, EM, EMg, EMs, z0, oi, n_inbT, n_cntT, n_ltT, n_ltF, n_leT, n_leF, n_eqT, n_eqF, n_m1T, n_m1F, n_m1F', n_cl, n_add, n_mul, ro_at, ro_ro, up_at, up_up, holdsT hi hg hk ep, e1]
  constructor
  · rintro ⟨-, h2, h3⟩
    refine hend _ ?_
    unfold b_X12_slotByStates_55 b0_X12_slotByStates_55
    unfold rank at h3
    simp (disch := omega) only [↓grd_u, ↓bnd_e, ↓orf_u, ↓oif_u, ↓cal_u, ↓calX_u, ↓inrO_u, ↓reduceIte, EM, EMg, EMs, z0, oi, n_inbT, n_cntT, n_ltT, n_ltF, n_leT, n_leF, n_eqT, n_eqF, n_m1T, n_m1F, n_m1F', n_cl, n_add, n_mul, ro_at, ro_ro, up_at, up_up, holdsT hi hg hb h2, h3, if_true]
  · intro hno
    refine hend _ ?_
    unfold b_X12_slotByStates_55 b0_X12_slotByStates_55 g_X12_slotByStates_116
    by_cases ep : lP (sCur S) b = []
    · simp (disch := omega) only [↓grd_u, ↓bnd_e, ↓orf_u, ↓oif_u, ↓cal_u, ↓calX_u, ↓inrO_u, ↓reduceIte, EM, EMg, EMs, z0, oi, n_inbT, n_cntT, n_ltT, n_ltF, n_leT, n_leF, n_eqT, n_eqF, n_m1T, n_m1F, n_m1F', n_cl, n_add, n_mul, ro_at, ro_ro, up_at, up_up, holdsF hi hb ep]
    · have h3 : ¬ nI (cs (rkB S b) 6) = v := fun z => hno ⟨hb, ep, z⟩
      simp (disch := omega) only [↓grd_u, ↓bnd_e, ↓orf_u, ↓oif_u, ↓cal_u, ↓calX_u, ↓inrO_u, ↓reduceIte, EM, EMg, EMs, z0, oi, n_inbT, n_cntT, n_ltT, n_ltF, n_leT, n_leF, n_eqT, n_eqF, n_m1T, n_m1F, n_m1F', n_cl, n_add, n_mul, ro_at, ro_ro, up_at, up_up, holdsT hi hg hb ep]
      rw [if_neg h3]
def SlQ (n : Nat) (h : mH) (A : Nat → Nat → Int32) (R : Nat → Nat → Option Nat) (q : Nat × Nat × St) (r : Int32 × mH) : Prop := ∃ M', r = (nI q.2.1, E n h A M' R) ∧ IM M' q.2.2 ∧ M' 0 0 = nI q.1
theorem m_sl44 {v : Int32} (hi : IM M S) (hg : GoodS S) (ht : M 0 0 = nI 0) (hsm : ∀ j, j < 6 → M 29 j = nI (smZ S j)) : ∃ r, g_X12_slotByStates_44 (ma n 0) v (nI 0) (E n h A M R) = some r ∧ SlQ n h A R (aSlot S v) r := by
  unfold g_X12_slotByStates_44
  refine lp_inv0 (f := b_X12_slotByStates_44 (ma n 0) v) (fun b s' => s' = (nI b, E n h A M R) ∧ ∀ a, a < b → ¬ slP S v a) _ 6 (fun b s' hb hI => ?_) (L := 100000) (by decide) ⟨rfl, fun a ha => absurd ha (Nat.not_lt_zero _)⟩
  obtain ⟨rfl, hno⟩ := hI
  unfold b_X12_slotByStates_44 b0_X12_slotByStates_44
  by_cases hb6 : b < 6
  · obtain ⟨l1, l2⟩ := m_sl55 (n := n) (h := h) (A := A) (R := R) (v := v) hi hg hb6 hsm
    by_cases e : slP S v b
    · refine Or.inr ⟨(nI b, E n h A M R), by simp (disch := omega) only [↓grd_u, ↓bnd_e, ↓orf_u, ↓oif_u, ↓cal_u, ↓calX_u, ↓inrO_u, ↓reduceIte, EM, EMg, EMs, z0, oi, n_inbT, n_cntT, n_ltT, n_ltF, n_leT, n_leF, n_eqT, n_eqF, n_m1T, n_m1F, n_m1F', n_cl, n_add, n_mul, ro_at, ro_ro, up_at, up_up, l1 e], ?_⟩
      rw [aSlot_T e hno]
      exact ⟨M, rfl, hi, ht⟩
    · refine Or.inl ⟨(nI (b + 1), E n h A M R), by simp (disch := omega) only [↓grd_u, ↓bnd_e, ↓orf_u, ↓oif_u, ↓cal_u, ↓calX_u, ↓inrO_u, ↓reduceIte, EM, EMg, EMs, z0, oi, n_inbT, n_cntT, n_ltT, n_ltF, n_leT, n_leF, n_eqT, n_eqF, n_m1T, n_m1F, n_m1F', n_cl, n_add, n_mul, ro_at, ro_ro, up_at, up_up, l2 e], hb6, rfl, fun a ha => ?_⟩
      by_cases ea : a = b
      · rw [ea]; exact e
      · exact hno a (by omega)
  · have hbe : b = 6 := by omega
    obtain ⟨M', e, i, t⟩ := m_failed (n := n) (h := h) (A := A) (R := R) (k := 1) hi
    refine Or.inr ⟨(nI 0, E n h A M' R), ?_, ?_⟩
    · rw [hbe]
      simp (disch := omega) only [↓grd_u, ↓bnd_e, ↓orf_u, ↓oif_u, ↓cal_u, ↓calX_u, ↓inrO_u, ↓reduceIte, EM, EMg, EMs, z0, oi, n_inbT, n_cntT, n_ltT, n_ltF, n_leT, n_leF, n_eqT, n_eqF, n_m1T, n_m1F, n_m1F', n_cl, n_add, n_mul, ro_at, ro_ro, up_at, up_up, e]
    · rw [aSlot_F (fun b hb => hno b (by have := hb.1; omega) hb)]
      exact ⟨M', rfl, i, t⟩
theorem m_slotByStates {v : Int32} (hi : IM M S) (hg : GoodS S) : MA n h A R (f_X12_slotByStates (ma n 0) v (E n h A M R)) (aSlot S v) := by
  have h0 : IM (ro M 0 (up (M 0) 0 (nI 0))) S := IM_thrown hi
  obtain ⟨M0, hM0⟩ : ∃ M0, M0 = ro M 0 (up (M 0) 0 (nI 0)) := ⟨_, rfl⟩
  have ht : M0 0 0 = nI 0 := by rw [hM0, ro_at, up_at]
  rw [← hM0] at h0
  have key : ∃ r, g_X12_slotByStates_7 (ma n 0) v (nI 0) (E n h A M0 R) = some r ∧ SlQ n h A R (aSlot S v) r := by
    unfold g_X12_slotByStates_7
    refine lp_inv0 (f := b_X12_slotByStates_7 (ma n 0) v) (fun b s' => ∃ M1, s' = (nI b, E n h A M1 R) ∧ IM M1 S ∧ M1 0 0 = nI 0 ∧ ∀ j, j < b → M1 29 j = nI (smZ S j)) _ 6 (fun b s' hb hI => ?_) (L := 100000) (by decide) ⟨M0, rfl, h0, ht, fun a ha => absurd ha (Nat.not_lt_zero _)⟩
    obtain ⟨M1, rfl, i1, t1, hsm⟩ := hI
    unfold b_X12_slotByStates_7 b0_X12_slotByStates_7 g_X12_slotByStates_35
    by_cases hb6 : b < 6
    · by_cases ep : lP (sCur S) b = []
      · have ez : smZ S b = 0 := by unfold smZ; rw [if_pos ep]
        refine Or.inl ⟨(nI (b + 1), E n h A (ro M1 29 (up (M1 29) b (nI 0))) R), by simp (disch := omega) only [↓grd_u, ↓bnd_e, ↓orf_u, ↓oif_u, ↓cal_u, ↓calX_u, ↓inrO_u, ↓reduceIte, EM, EMg, EMs, z0, oi, n_inbT, n_cntT, n_ltT, n_ltF, n_leT, n_leF, n_eqT, n_eqF, n_m1T, n_m1F, n_m1F', n_cl, n_add, n_mul, ro_at, ro_ro, up_at, up_up, ro_ne, up_ne, ro_sw, holdsF i1 hb6 ep], hb6, _, rfl, IM_fr i1 (Fr_ro (r := 29) (rows := [29]) (sc := []) _ (by decide) (by decide)) (by decide) (by decide), by rw [ro_ne _ _ (by decide)]; exact t1, fun j hj => ?_⟩
        rw [ro_at]
        by_cases e : j = b
        · rw [e, up_at, ez]
        · rw [up_ne _ _ e]; exact hsm j (by omega)
      · obtain ⟨M2, e2, i2, t2, f2⟩ := m_smallest (n := n) (h := h) (A := A) (R := R) i1 hg hb6 ep
        have ez : smZ S b = gMc (gluOf (lP (sCur S) b)) := by unfold smZ; rw [if_neg ep]
        refine Or.inl ⟨(nI (b + 1), E n h A (ro M2 29 (up (M2 29) b (nI (gMc (gluOf (lP (sCur S) b)))))) R), ?_, hb6, _, rfl, IM_fr i2 (Fr_ro (r := 29) (rows := [29]) (sc := []) _ (by decide) (by decide)) (by decide) (by decide), by rw [ro_ne _ _ (by decide), t2]; exact t1, fun j hj => ?_⟩
        · simp (disch := omega) only [↓grd_u, ↓bnd_e, ↓orf_u, ↓oif_u, ↓cal_u, ↓calX_u, ↓inrO_u, ↓reduceIte, EM, EMg, EMs, z0, oi, n_inbT, n_cntT, n_ltT, n_ltF, n_leT, n_leF, n_eqT, n_eqF, n_m1T, n_m1F, n_m1F', n_cl, n_add, n_mul, ro_at, ro_ro, up_at, up_up, holdsT i1 hg hb6 ep]
          simp (disch := omega) only [↓grd_u, ↓bnd_e, ↓orf_u, ↓oif_u, ↓cal_u, ↓calX_u, ↓inrO_u, ↓reduceIte, EM, EMg, EMs, z0, oi, n_inbT, n_cntT, n_ltT, n_ltF, n_leT, n_leF, n_eqT, n_eqF, n_m1T, n_m1F, n_m1F', n_cl, n_add, n_mul, ro_at, ro_ro, up_at, up_up, ro_ne, up_ne, ro_sw, e2]
        · rw [ro_at]
          by_cases e : j = b
          · rw [e, up_at, ez]
          · rw [up_ne _ _ e, f2.1 29 (by decide) (by decide)]; exact hsm j (by omega)
    · have hbe : b = 6 := by omega
      obtain ⟨r, e, hr⟩ := m_sl44 (n := n) (h := h) (A := A) (R := R) (v := v) i1 hg t1 (fun j hj => hsm j (by omega))
      refine Or.inr ⟨r, ?_, hr⟩
      rw [hbe]
      simp (disch := omega) only [↓grd_u, ↓bnd_e, ↓orf_u, ↓oif_u, ↓cal_u, ↓calX_u, ↓inrO_u, ↓reduceIte, EM, EMg, EMs, z0, oi, n_inbT, n_cntT, n_ltT, n_ltF, n_leT, n_leF, n_eqT, n_eqF, n_m1T, n_m1F, n_m1F', n_cl, n_add, n_mul, ro_at, ro_ro, up_at, up_up, e]
  obtain ⟨r, e, M', rfl, i', t'⟩ := key
  refine ⟨M', ?_, i', t'⟩
  unfold f_X12_slotByStates
  simp (disch := omega) only [↓grd_u, ↓bnd_e, ↓orf_u, ↓oif_u, ↓cal_u, ↓calX_u, ↓inrO_u, ↓reduceIte, EM, EMg, EMs, z0, oi, n_inbT, n_cntT, n_ltT, n_ltF, n_leT, n_leF, n_eqT, n_eqF, n_m1T, n_m1F, n_m1F', n_cl, n_add, n_mul, ro_at, ro_ro, up_at, up_up]
  rw [← hM0]
  exact e
end MSLOT
