/-- what a call of the reference gives: q is (what is thrown, the answer, the state) -/
def MA (n : Nat) (h : mH) (A : Nat → Nat → Int32) (R : Nat → Nat → Option Nat) (x : Option (Int32 × mH)) (q : Nat × Nat × St) : Prop := ∃ M', x = some (nI q.2.1, E n h A M' R) ∧ IM M' q.2.2 ∧ M' 0 0 = nI q.1
section MODELQ
variable {n : Nat} {h : mH} {A M : Nat → Nat → Int32} {R : Nat → Nat → Option Nat} {S : St}
theorem m_unite {v a b : Int32} (hi : IM M S) (hg : GoodS S) : MA n h A R (f_X12_unite (ma n 0) v a b (E n h A M R)) (aTwo S (slN v) (slN a) (slN b) 5) := by
  obtain ⟨M', e, i, t⟩ := m_makes (n := n) (h := h) (A := A) (R := R) (v := v) (a := a) (b := b) (o := 5) hi hg (Or.inr rfl)
  refine ⟨M', ?_, i, t⟩
  unfold f_X12_unite
  simp (disch := omega) only [↓grd_u, ↓bnd_e, ↓orf_u, ↓oif_u, ↓cal_u, ↓calX_u, ↓inrO_u, ↓reduceIte, EM, EMg, EMs, z0, oi, n_inbT, n_cntT, n_ltT, n_ltF, n_leT, n_leF, n_eqT, n_eqF, n_m1T, n_m1F, n_m1F', n_cl, n_add, n_mul, ro_at, ro_ro, up_at, up_up, e]
theorem m_concatenate {v a b : Int32} (hi : IM M S) (hg : GoodS S) : MA n h A R (f_X12_concatenate (ma n 0) v a b (E n h A M R)) (aTwo S (slN v) (slN a) (slN b) 4) := by
  obtain ⟨M', e, i, t⟩ := m_makes (n := n) (h := h) (A := A) (R := R) (v := v) (a := a) (b := b) (o := 4) hi hg (Or.inl rfl)
  refine ⟨M', ?_, i, t⟩
  unfold f_X12_concatenate
  simp (disch := omega) only [↓grd_u, ↓bnd_e, ↓orf_u, ↓oif_u, ↓cal_u, ↓calX_u, ↓inrO_u, ↓reduceIte, EM, EMg, EMs, z0, oi, n_inbT, n_cntT, n_ltT, n_ltF, n_leT, n_leF, n_eqT, n_eqF, n_m1T, n_m1F, n_m1F', n_cl, n_add, n_mul, ro_at, ro_ro, up_at, up_up, e]
theorem m_notRep {v a : Nat} (hi : IM M S) (hg : GoodS S) (hv : v < 6) (ha : a < 6) (pa : lP (sCur S) a ≠ []) :
    f_X12_notRepeat (ma n 0) (nI v) (nI a) (E n h A M R) = some (nI (if 7 < nLet (lP (sCur S) a ++ [6]) ∨ 9 < nSig (lP (sCur S) a ++ [6]) then 3 else 0), E n h A (bltM M (lP (sCur S) a ++ [6])) R) := by
  have la := GoodP_len (hg.1.1 a ha)
  have hsm : small (lP (sCur S) a ++ [6]) := small_of fun c hc => by
    rcases List.mem_append.mp hc with hc | hc
    · exact small_mem (GoodP_small (hg.1.1 a ha)) c hc
    · rw [List.mem_singleton] at hc; omega
  have hB := bltM_ok (M := M) (p := lP (sCur S) a ++ [6]) (by simp; omega) hsm
  unfold f_X12_notRepeat g_X12_notRepeat_54
  simp (disch := omega) only [↓grd_u, ↓bnd_e, ↓orf_u, ↓oif_u, ↓cal_u, ↓calX_u, ↓inrO_u, ↓reduceIte, EM, EMg, EMs, z0, oi, n_inbT, n_cntT, n_ltT, n_ltF, n_leT, n_leF, n_eqT, n_eqF, n_m1T, n_m1F, n_m1F', n_cl, n_add, n_mul, ro_at, ro_ro, up_at, up_up, m_isSlotT, holdsT hi hg ha pa, bltM_0]
  rw [m_copyB hi.1 hg ha (by simp)]
  simp (disch := omega) only [↓grd_u, ↓bnd_e, ↓orf_u, ↓oif_u, ↓cal_u, ↓calX_u, ↓inrO_u, ↓reduceIte, EM, EMg, EMs, z0, oi, n_inbT, n_cntT, n_ltT, n_ltF, n_leT, n_leF, n_eqT, n_eqF, n_m1T, n_m1F, n_m1F', n_cl, n_add, n_mul, ro_at, ro_ro, up_at, up_up, List.nil_append]
  rw [m_addsB (by omega)]
  simp (disch := omega) only [↓grd_u, ↓bnd_e, ↓orf_u, ↓oif_u, ↓cal_u, ↓calX_u, ↓inrO_u, ↓reduceIte, EM, EMg, EMs, z0, oi, n_inbT, n_cntT, n_ltT, n_ltF, n_leT, n_leF, n_eqT, n_eqF, n_m1T, n_m1F, n_m1F', n_cl, n_add, n_mul, ro_at, ro_ro, up_at, up_up]
  by_cases ht : 7 < nLet (lP (sCur S) a ++ [6]) ∨ 9 < nSig (lP (sCur S) a ++ [6])
  · rw [m_tooLargeT hB ht, if_pos ht]
    simp (disch := omega) only [↓grd_u, ↓bnd_e, ↓orf_u, ↓oif_u, ↓cal_u, ↓calX_u, ↓inrO_u, ↓reduceIte, EM, EMg, EMs, z0, oi, n_inbT, n_cntT, n_ltT, n_ltF, n_leT, n_leF, n_eqT, n_eqF, n_m1T, n_m1F, n_m1F', n_cl, n_add, n_mul, ro_at, ro_ro, up_at, up_up]
  · rw [m_tooLargeF hB ht, if_neg ht]
    simp (disch := omega) only [↓grd_u, ↓bnd_e, ↓orf_u, ↓oif_u, ↓cal_u, ↓calX_u, ↓inrO_u, ↓reduceIte, EM, EMg, EMs, z0, oi, n_inbT, n_cntT, n_ltT, n_ltF, n_leT, n_leF, n_eqT, n_eqF, n_m1T, n_m1F, n_m1F', n_cl, n_add, n_mul, ro_at, ro_ro, up_at, up_up]
theorem m_repeat {v a : Int32} (hi : IM M S) (hg : GoodS S) : MA n h A R (f_X12_repeat (ma n 0) v a (E n h A M R)) (aRep S (slN v) (slN a)) := by
  unfold f_X12_repeat
  have h0 : IM (ro M 0 (up (M 0) 0 (nI 0))) S := IM_thrown hi
  by_cases hx : (v < nI 0 ∨ nI 5 < v) ∨ (a < nI 0 ∨ nI 5 < a)
  · obtain ⟨M', e, i, t⟩ := m_failed (n := n) (h := h) (A := A) (R := R) (k := 1) h0
    have hz : aRep S (slN v) (slN a) = (1, 0, S) := by
      unfold aRep
      rcases hx with hx | hx
      · rw [slN_F hx]
      · rw [slN_F hx]
        cases slN v <;> rfl
    rw [hz]
    refine ⟨M', ?_, i, t⟩
    have hn : f_X12_notRepeat (ma n 0) v a (E n h A (ro M 0 (up (M 0) 0 (nI 0))) R) = some (nI 1, E n h A (ro M 0 (up (M 0) 0 (nI 0))) R) := by
      unfold f_X12_notRepeat g_X12_notRepeat_14
      rcases slot_cases v with ⟨v, hv, rfl⟩ | hv
      · rcases slot_cases a with ⟨a, ha, rfl⟩ | ha
        · exfalso
          rw [n_lt (by omega) (by decide), n_lt (by decide) (by omega), n_lt (by omega) (by decide), n_lt (by decide) (by omega)] at hx
          omega
        · simp (disch := omega) only [↓grd_u, ↓bnd_e, ↓orf_u, ↓oif_u, ↓cal_u, ↓calX_u, ↓inrO_u, ↓reduceIte, EM, EMg, EMs, z0, oi, n_inbT, n_cntT, n_ltT, n_ltF, n_leT, n_leF, n_eqT, n_eqF, n_m1T, n_m1F, n_m1F', n_cl, n_add, n_mul, ro_at, ro_ro, up_at, up_up, m_isSlotT, m_isSlotF ha]
      · simp (disch := omega) only [↓grd_u, ↓bnd_e, ↓orf_u, ↓oif_u, ↓cal_u, ↓calX_u, ↓inrO_u, ↓reduceIte, EM, EMg, EMs, z0, oi, n_inbT, n_cntT, n_ltT, n_ltF, n_leT, n_leF, n_eqT, n_eqF, n_m1T, n_m1F, n_m1F', n_cl, n_add, n_mul, ro_at, ro_ro, up_at, up_up, m_isSlotF hv]
    simp (disch := omega) only [↓grd_u, ↓bnd_e, ↓orf_u, ↓oif_u, ↓cal_u, ↓calX_u, ↓inrO_u, ↓reduceIte, EM, EMg, EMs, z0, oi, n_inbT, n_cntT, n_ltT, n_ltF, n_leT, n_leF, n_eqT, n_eqF, n_m1T, n_m1F, n_m1F', n_cl, n_add, n_mul, ro_at, ro_ro, up_at, up_up, hn]
    simp (disch := omega) only [↓grd_u, ↓bnd_e, ↓orf_u, ↓oif_u, ↓cal_u, ↓calX_u, ↓inrO_u, ↓reduceIte, EM, EMg, EMs, z0, oi, n_inbT, n_cntT, n_ltT, n_ltF, n_leT, n_leF, n_eqT, n_eqF, n_m1T, n_m1F, n_m1F', n_cl, n_add, n_mul, ro_at, ro_ro, up_at, up_up, e]
  · rcases slot_cases v with ⟨v, hv, rfl⟩ | hv
    case inr => exact absurd (Or.inl hv) hx
    rcases slot_cases a with ⟨a, ha, rfl⟩ | ha
    case inr => exact absurd (Or.inr ha) hx
    rw [slN_T hv, slN_T ha]
    by_cases hp : lP (sCur S) a = []
    · obtain ⟨M', e, i, t⟩ := m_failed (n := n) (h := h) (A := A) (R := R) (k := 2) h0
      have hz : aRep S (some v) (some a) = (2, 0, S) := by unfold aRep; exact if_pos hp
      rw [hz]
      refine ⟨M', ?_, i, t⟩
      have hn : f_X12_notRepeat (ma n 0) (nI v) (nI a) (E n h A (ro M 0 (up (M 0) 0 (nI 0))) R) = some (nI 2, E n h A (ro M 0 (up (M 0) 0 (nI 0))) R) := by
        unfold f_X12_notRepeat
        simp (disch := omega) only [↓grd_u, ↓bnd_e, ↓orf_u, ↓oif_u, ↓cal_u, ↓calX_u, ↓inrO_u, ↓reduceIte, EM, EMg, EMs, z0, oi, n_inbT, n_cntT, n_ltT, n_ltF, n_leT, n_leF, n_eqT, n_eqF, n_m1T, n_m1F, n_m1F', n_cl, n_add, n_mul, ro_at, ro_ro, up_at, up_up, m_isSlotT, holdsF h0 ha hp]
      simp (disch := omega) only [↓grd_u, ↓bnd_e, ↓orf_u, ↓oif_u, ↓cal_u, ↓calX_u, ↓inrO_u, ↓reduceIte, EM, EMg, EMs, z0, oi, n_inbT, n_cntT, n_ltT, n_ltF, n_leT, n_leF, n_eqT, n_eqF, n_m1T, n_m1F, n_m1F', n_cl, n_add, n_mul, ro_at, ro_ro, up_at, up_up, hn]
      simp (disch := omega) only [↓grd_u, ↓bnd_e, ↓orf_u, ↓oif_u, ↓cal_u, ↓calX_u, ↓inrO_u, ↓reduceIte, EM, EMg, EMs, z0, oi, n_inbT, n_cntT, n_ltT, n_ltF, n_leT, n_leF, n_eqT, n_eqF, n_m1T, n_m1F, n_m1F', n_cl, n_add, n_mul, ro_at, ro_ro, up_at, up_up, e]
    · have hz : aRep S (some v) (some a) = laid S v (lP (sCur S) a ++ [6]) := by unfold aRep; exact if_neg hp
      rw [hz]
      have hn := m_notRep (n := n) (h := h) (A := A) (R := R) h0 hg hv ha hp
      have iB : IM (bltM (ro M 0 (up (M 0) 0 (nI 0))) (lP (sCur S) a ++ [6])) S := IM_fr h0 bltM_fr (by decide) (by decide)
      unfold laid
      by_cases ht : 7 < nLet (lP (sCur S) a ++ [6]) ∨ 9 < nSig (lP (sCur S) a ++ [6])
      · rw [if_pos ht] at hn ⊢
        obtain ⟨M', e, i, t⟩ := m_failed (n := n) (h := h) (A := A) (R := R) (k := 3) iB
        refine ⟨M', ?_, i, t⟩
        simp (disch := omega) only [↓grd_u, ↓bnd_e, ↓orf_u, ↓oif_u, ↓cal_u, ↓calX_u, ↓inrO_u, ↓reduceIte, EM, EMg, EMs, z0, oi, n_inbT, n_cntT, n_ltT, n_ltF, n_leT, n_leF, n_eqT, n_eqF, n_m1T, n_m1F, n_m1F', n_cl, n_add, n_mul, ro_at, ro_ro, up_at, up_up, hn]
        simp (disch := omega) only [↓grd_u, ↓bnd_e, ↓orf_u, ↓oif_u, ↓cal_u, ↓calX_u, ↓inrO_u, ↓reduceIte, EM, EMg, EMs, z0, oi, n_inbT, n_cntT, n_ltT, n_ltF, n_leT, n_leF, n_eqT, n_eqF, n_m1T, n_m1F, n_m1F', n_cl, n_add, n_mul, ro_at, ro_ro, up_at, up_up, e]
      · rw [if_neg ht] at hn ⊢
        have gp : GoodP (lP (sCur S) a ++ [6]) := Or.inr ⟨WF_sign (GoodP_wf (hg.1.1 a ha) hp) (by decide) (by decide), ht⟩
        have gl := GoodP_len gp
        obtain ⟨M1, M', e1, e2, i, t⟩ := m_laid (n := n) (h := h) (A := A) (R := R) (s := v) iB hg hv (bltM_ok (by omega) (GoodP_small gp)) (by omega) (by rw [bltM_fr.2 _ (by decide), ro_at, up_at])
        refine ⟨M', ?_, i, t⟩
        simp (disch := omega) only [↓grd_u, ↓bnd_e, ↓orf_u, ↓oif_u, ↓cal_u, ↓calX_u, ↓inrO_u, ↓reduceIte, EM, EMg, EMs, z0, oi, n_inbT, n_cntT, n_ltT, n_ltF, n_leT, n_leF, n_eqT, n_eqF, n_m1T, n_m1F, n_m1F', n_cl, n_add, n_mul, ro_at, ro_ro, up_at, up_up, hn]
        simp (disch := omega) only [↓grd_u, ↓bnd_e, ↓orf_u, ↓oif_u, ↓cal_u, ↓calX_u, ↓inrO_u, ↓reduceIte, EM, EMg, EMs, z0, oi, n_inbT, n_cntT, n_ltT, n_ltF, n_leT, n_leF, n_eqT, n_eqF, n_m1T, n_m1F, n_m1F', n_cl, n_add, n_mul, ro_at, ro_ro, up_at, up_up, e1, e2]
theorem good_28 (hg : GoodS S) : ∀ s, s < 6 → (lP (sCur S) s).length ≤ 28 := fun s hs => by have := GoodP_len (hg.1.1 s hs); omega
theorem m_remove {v : Int32} (hi : IM M S) (hg : GoodS S) : MA n h A R (f_X12_remove (ma n 0) v (E n h A M R)) (aRem S (slN v)) := by
  unfold f_X12_remove
  have h0 : IM (ro M 0 (up (M 0) 0 (nI 0))) S := IM_thrown hi
  rcases slot_cases v with ⟨v, hv, rfl⟩ | hv
  · rw [slN_T hv]
    by_cases hp : lP (sCur S) v = []
    · obtain ⟨M', e, i, t⟩ := m_failed (n := n) (h := h) (A := A) (R := R) (k := 2) h0
      have hz : aRem S (some v) = (2, 0, S) := by unfold aRem; exact if_pos hp
      rw [hz]
      refine ⟨M', ?_, i, t⟩
      have hn : f_X12_notRemove (ma n 0) (nI v) (E n h A (ro M 0 (up (M 0) 0 (nI 0))) R) = some (nI 2, E n h A (ro M 0 (up (M 0) 0 (nI 0))) R) := by
        unfold f_X12_notRemove g_X12_notRemove_22
        simp (disch := omega) only [↓grd_u, ↓bnd_e, ↓orf_u, ↓oif_u, ↓cal_u, ↓calX_u, ↓inrO_u, ↓reduceIte, EM, EMg, EMs, z0, oi, n_inbT, n_cntT, n_ltT, n_ltF, n_leT, n_leF, n_eqT, n_eqF, n_m1T, n_m1F, n_m1F', n_cl, n_add, n_mul, ro_at, ro_ro, up_at, up_up, m_isSlotT, holdsF h0 hv hp]
      simp (disch := omega) only [↓grd_u, ↓bnd_e, ↓orf_u, ↓oif_u, ↓cal_u, ↓calX_u, ↓inrO_u, ↓reduceIte, EM, EMg, EMs, z0, oi, n_inbT, n_cntT, n_ltT, n_ltF, n_leT, n_leF, n_eqT, n_eqF, n_m1T, n_m1F, n_m1F', n_cl, n_add, n_mul, ro_at, ro_ro, up_at, up_up, hn]
      simp (disch := omega) only [↓grd_u, ↓bnd_e, ↓orf_u, ↓oif_u, ↓cal_u, ↓calX_u, ↓inrO_u, ↓reduceIte, EM, EMg, EMs, z0, oi, n_inbT, n_cntT, n_ltT, n_ltF, n_leT, n_leF, n_eqT, n_eqF, n_m1T, n_m1F, n_m1F', n_cl, n_add, n_mul, ro_at, ro_ro, up_at, up_up, e]
    · have hz : aRem S (some v) = (0, nPat (freeP (sCur S) v), remember S (freeP (sCur S) v)) := by unfold aRem; exact if_neg hp
      rw [hz]
      obtain ⟨M1, e1, i1, f1⟩ := m_remembers (n := n) (h := h) (A := A) (R := R) h0
      have hr := m_removes (n := n) (h := h) (A := A) (M := M1) (R := R) (L := sCur S) hv i1.1 (good_28 hg)
      refine ⟨_, ?_, IM_set (L := freeP (sCur S) v) i1, ?_⟩
      · have hn : f_X12_notRemove (ma n 0) (nI v) (E n h A (ro M 0 (up (M 0) 0 (nI 0))) R) = some (nI 0, E n h A (ro M 0 (up (M 0) 0 (nI 0))) R) := by
          unfold f_X12_notRemove g_X12_notRemove_22
          simp (disch := omega) only [↓grd_u, ↓bnd_e, ↓orf_u, ↓oif_u, ↓cal_u, ↓calX_u, ↓inrO_u, ↓reduceIte, EM, EMg, EMs, z0, oi, n_inbT, n_cntT, n_ltT, n_ltF, n_leT, n_leF, n_eqT, n_eqF, n_m1T, n_m1F, n_m1F', n_cl, n_add, n_mul, ro_at, ro_ro, up_at, up_up, m_isSlotT, holdsT h0 hg hv hp]
        simp (disch := omega) only [↓grd_u, ↓bnd_e, ↓orf_u, ↓oif_u, ↓cal_u, ↓calX_u, ↓inrO_u, ↓reduceIte, EM, EMg, EMs, z0, oi, n_inbT, n_cntT, n_ltT, n_ltF, n_leT, n_leF, n_eqT, n_eqF, n_m1T, n_m1F, n_m1F', n_cl, n_add, n_mul, ro_at, ro_ro, up_at, up_up, hn]
        simp (disch := omega) only [↓grd_u, ↓bnd_e, ↓orf_u, ↓oif_u, ↓cal_u, ↓calX_u, ↓inrO_u, ↓reduceIte, EM, EMg, EMs, z0, oi, n_inbT, n_cntT, n_ltT, n_ltF, n_leT, n_leF, n_eqT, n_eqF, n_m1T, n_m1F, n_m1F', n_cl, n_add, n_mul, ro_at, ro_ro, up_at, up_up, e1, hr]
        rfl
      · rw [ro_ne _ _ (by decide), f1.2 _ (by decide), ro_at, up_at]
  · rw [slN_F hv]
    obtain ⟨M', e, i, t⟩ := m_failed (n := n) (h := h) (A := A) (R := R) (k := 1) h0
    refine ⟨M', ?_, i, t⟩
    have hn : f_X12_notRemove (ma n 0) v (E n h A (ro M 0 (up (M 0) 0 (nI 0))) R) = some (nI 1, E n h A (ro M 0 (up (M 0) 0 (nI 0))) R) := by
      unfold f_X12_notRemove
      simp (disch := omega) only [↓grd_u, ↓bnd_e, ↓orf_u, ↓oif_u, ↓cal_u, ↓calX_u, ↓inrO_u, ↓reduceIte, EM, EMg, EMs, z0, oi, n_inbT, n_cntT, n_ltT, n_ltF, n_leT, n_leF, n_eqT, n_eqF, n_m1T, n_m1F, n_m1F', n_cl, n_add, n_mul, ro_at, ro_ro, up_at, up_up, m_isSlotF hv]
    simp (disch := omega) only [↓grd_u, ↓bnd_e, ↓orf_u, ↓oif_u, ↓cal_u, ↓calX_u, ↓inrO_u, ↓reduceIte, EM, EMg, EMs, z0, oi, n_inbT, n_cntT, n_ltT, n_ltF, n_leT, n_leF, n_eqT, n_eqF, n_m1T, n_m1F, n_m1F', n_cl, n_add, n_mul, ro_at, ro_ro, up_at, up_up, hn]
    simp (disch := omega) only [↓grd_u, ↓bnd_e, ↓orf_u, ↓oif_u, ↓cal_u, ↓calX_u, ↓inrO_u, ↓reduceIte, EM, EMg, EMs, z0, oi, n_inbT, n_cntT, n_ltT, n_ltF, n_leT, n_leF, n_eqT, n_eqF, n_m1T, n_m1F, n_m1F', n_cl, n_add, n_mul, ro_at, ro_ro, up_at, up_up, e]
    rfl
/-! plain reads -/
theorem m_patternCount (hi : IM M S) (hg : GoodS S) : MA n h A R (f_X12_patternCount (ma n 0) (E n h A M R)) (0, nPat (sCur S), S) := by
  have h0 : IM (ro M 0 (up (M 0) 0 (nI 0))) S := IM_thrown hi
  refine ⟨_, ?_, h0, by rw [ro_at, up_at]⟩
  unfold f_X12_patternCount
  simp (disch := omega) only [↓grd_u, ↓bnd_e, ↓orf_u, ↓oif_u, ↓cal_u, ↓calX_u, ↓inrO_u, ↓reduceIte, EM, EMg, EMs, z0, oi, n_inbT, n_cntT, n_ltT, n_ltF, n_leT, n_leF, n_eqT, n_eqF, n_m1T, n_m1F, n_m1F', n_cl, n_add, n_mul, ro_at, ro_ro, up_at, up_up]
  rw [m_patterns h0.1 (good_28 hg)]
  rfl
def b1 (p : Prop) [Decidable p] : Nat := if p then 1 else 0
theorem m_hasPattern {v : Int32} (hi : IM M S) (hg : GoodS S) : MA n h A R (f_X12_hasPattern (ma n 0) v (E n h A M R)) (match slN v with | some s => (0, b1 (lP (sCur S) s ≠ []), S) | none => (1, 0, S)) := by
  have h0 : IM (ro M 0 (up (M 0) 0 (nI 0))) S := IM_thrown hi
  unfold f_X12_hasPattern g_X12_hasPattern_25
  rcases slot_cases v with ⟨v, hv, rfl⟩ | hv
  · rw [slN_T hv]
    refine ⟨_, ?_, h0, by rw [ro_at, up_at]⟩
    by_cases hp : lP (sCur S) v = []
    · simp (disch := omega) only [↓grd_u, ↓bnd_e, ↓orf_u, ↓oif_u, ↓cal_u, ↓calX_u, ↓inrO_u, ↓reduceIte, EM, EMg, EMs, z0, oi, n_inbT, n_cntT, n_ltT, n_ltF, n_leT, n_leF, n_eqT, n_eqF, n_m1T, n_m1F, n_m1F', n_cl, n_add, n_mul, ro_at, ro_ro, up_at, up_up, m_isSlotT, holdsF h0 hv hp, nz0]
      unfold b1
      rw [if_neg (fun q => q hp)]
    · simp (disch := omega) only [↓grd_u, ↓bnd_e, ↓orf_u, ↓oif_u, ↓cal_u, ↓calX_u, ↓inrO_u, ↓reduceIte, EM, EMg, EMs, z0, oi, n_inbT, n_cntT, n_ltT, n_ltF, n_leT, n_leF, n_eqT, n_eqF, n_m1T, n_m1F, n_m1F', n_cl, n_add, n_mul, ro_at, ro_ro, up_at, up_up, m_isSlotT, holdsT h0 hg hv hp, nz1]
      unfold b1
      rw [if_pos hp]
  · rw [slN_F hv]
    obtain ⟨M', e, i, t⟩ := m_failed (n := n) (h := h) (A := A) (R := R) (k := 1) h0
    refine ⟨M', ?_, i, t⟩
    simp (disch := omega) only [↓grd_u, ↓bnd_e, ↓orf_u, ↓oif_u, ↓cal_u, ↓calX_u, ↓inrO_u, ↓reduceIte, EM, EMg, EMs, z0, oi, n_inbT, n_cntT, n_ltT, n_ltF, n_leT, n_leF, n_eqT, n_eqF, n_m1T, n_m1F, n_m1F', n_cl, n_add, n_mul, ro_at, ro_ro, up_at, up_up, m_isSlotF hv]
    simp (disch := omega) only [↓grd_u, ↓bnd_e, ↓orf_u, ↓oif_u, ↓cal_u, ↓calX_u, ↓inrO_u, ↓reduceIte, EM, EMg, EMs, z0, oi, n_inbT, n_cntT, n_ltT, n_ltF, n_leT, n_leF, n_eqT, n_eqF, n_m1T, n_m1F, n_m1F', n_cl, n_add, n_mul, ro_at, ro_ro, up_at, up_up, e, nz0]
theorem m_lettersOf {s : Nat} (hw : M 1 = enc (sCur S)) (hg : GoodS S) (hs : s < 6) : f_X12_lettersOf (ma n 0) (nI s) (E n h A M R) = some (nI (nLet (lP (sCur S) s)), E n h A M R) := by
  unfold f_X12_lettersOf g_X12_lettersOf_4
  rw [oi.1]
  have hl := GoodP_len (hg.1.1 s hs)
  have h9 := GoodP_small (hg.1.1 s hs)
  have hle : ∀ k, nLet ((lP (sCur S) s).take k) ≤ 130 := fun k => Nat.le_trans (nLet_le _) (by rw [List.length_take]; omega)
  refine lp_for0 (f := b_X12_lettersOf_4 (ma n 0) (nI s)) (fun k => (nI (nLet ((lP (sCur S) s).take k)), nI k, E n h A M R)) (lP (sCur S) s).length (nI (nLet (lP (sCur S) s)), E n h A M R) (fun k hk => ?_) ?_ (L := 100000) (by omega)
  · have h9 := h9 k hk
    have hl := hle k
    unfold b_X12_lettersOf_4 b0_X12_lettersOf_4 g_X12_lettersOf_29
    by_cases hc : (lP (sCur S) s).getD k 0 < 4
    · simp (disch := omega) only [↓grd_u, ↓bnd_e, ↓orf_u, ↓oif_u, ↓cal_u, ↓calX_u, ↓inrO_u, ↓reduceIte, EM, EMg, EMs, z0, oi, n_inbT, n_cntT, n_ltT, n_ltF, n_leT, n_leF, n_eqT, n_eqF, n_m1T, n_m1F, n_m1F', n_cl, n_add, n_mul, ro_at, ro_ro, up_at, up_up, m_length, m_code, hw, enc_len, enc_code, take_snoc hk, nLet_snoc, if_pos hc]
    · simp (disch := omega) only [↓grd_u, ↓bnd_e, ↓orf_u, ↓oif_u, ↓cal_u, ↓calX_u, ↓inrO_u, ↓reduceIte, EM, EMg, EMs, z0, oi, n_inbT, n_cntT, n_ltT, n_ltF, n_leT, n_leF, n_eqT, n_eqF, n_m1T, n_m1F, n_m1F', n_cl, n_add, n_mul, ro_at, ro_ro, up_at, up_up, m_length, m_code, hw, enc_len, enc_code, take_snoc hk, nLet_snoc, if_neg hc]
  · unfold b_X12_lettersOf_4 b0_X12_lettersOf_4
    simp (disch := omega) only [↓grd_u, ↓bnd_e, ↓orf_u, ↓oif_u, ↓cal_u, ↓calX_u, ↓inrO_u, ↓reduceIte, EM, EMg, EMs, z0, oi, n_inbT, n_cntT, n_ltT, n_ltF, n_leT, n_leF, n_eqT, n_eqF, n_m1T, n_m1F, n_m1F', n_cl, n_add, n_mul, ro_at, ro_ro, up_at, up_up, m_length, hw, enc_len, List.take_length]
/-- the pattern of a slot that holds one -/
def patN (S : St) (v : Int32) : Option Nat := match slN v with | some s => if lP (sCur S) s = [] then none else some s | none => none
theorem pat_cases (S : St) (v : Int32) : (∃ s, s < 6 ∧ v = nI s ∧ lP (sCur S) s ≠ [] ∧ patN S v = some s) ∨ (patN S v = none ∧ ((v < nI 0 ∨ nI 5 < v) ∨ ∃ s, s < 6 ∧ v = nI s ∧ lP (sCur S) s = [])) := by
  unfold patN
  rcases slot_cases v with ⟨s, hs, rfl⟩ | hv
  · rw [slN_T hs]
    by_cases hp : lP (sCur S) s = []
    · exact Or.inr ⟨if_pos hp, Or.inr ⟨s, hs, rfl, hp⟩⟩
    · exact Or.inl ⟨s, hs, rfl, hp, if_neg hp⟩
  · rw [slN_F hv]
    exact Or.inr ⟨rfl, Or.inl hv⟩
theorem m_holdsX {v : Int32} (hi : IM M S) (hp : patN S v = none) (hc : (v < nI 0 ∨ nI 5 < v) ∨ ∃ s, s < 6 ∧ v = nI s ∧ lP (sCur S) s = []) : f_X12_holds (ma n 0) v (E n h A M R) = some (nI 0, E n h A M R) := by
  rcases hc with hc | ⟨s, hs, rfl, hq⟩
  · exact m_holdsN hc
  · exact holdsF hi hs hq
theorem m_letterCount {v : Int32} (hi : IM M S) (hg : GoodS S) : MA n h A R (f_X12_letterCount (ma n 0) v (E n h A M R)) (match patN S v with | some s => (0, nLet (lP (sCur S) s), S) | none => (1, 0, S)) := by
  have h0 : IM (ro M 0 (up (M 0) 0 (nI 0))) S := IM_thrown hi
  unfold f_X12_letterCount g_X12_letterCount_26
  rcases pat_cases S v with ⟨s, hs, rfl, hp, e⟩ | ⟨e, hc⟩
  · rw [e]
    refine ⟨_, ?_, h0, by rw [ro_at, up_at]⟩
    simp (disch := omega) only [↓grd_u, ↓bnd_e, ↓orf_u, ↓oif_u, ↓cal_u, ↓calX_u, ↓inrO_u, ↓reduceIte, EM, EMg, EMs, z0, oi, n_inbT, n_cntT, n_ltT, n_ltF, n_leT, n_leF, n_eqT, n_eqF, n_m1T, n_m1F, n_m1F', n_cl, n_add, n_mul, ro_at, ro_ro, up_at, up_up, holdsT h0 hg hs hp, m_lettersOf h0.1 hg hs]
  · have hh := m_holdsX (n := n) (h := h) (A := A) (R := R) h0 e hc
    rw [e]
    obtain ⟨M', e, i, t⟩ := m_failed (n := n) (h := h) (A := A) (R := R) (k := 1) h0
    refine ⟨M', ?_, i, t⟩
    simp (disch := omega) only [↓grd_u, ↓bnd_e, ↓orf_u, ↓oif_u, ↓cal_u, ↓calX_u, ↓inrO_u, ↓reduceIte, EM, EMg, EMs, z0, oi, n_inbT, n_cntT, n_ltT, n_ltF, n_leT, n_leF, n_eqT, n_eqF, n_m1T, n_m1F, n_m1F', n_cl, n_add, n_mul, ro_at, ro_ro, up_at, up_up, hh]
    simp (disch := omega) only [↓grd_u, ↓bnd_e, ↓orf_u, ↓oif_u, ↓cal_u, ↓calX_u, ↓inrO_u, ↓reduceIte, EM, EMg, EMs, z0, oi, n_inbT, n_cntT, n_ltT, n_ltF, n_leT, n_leF, n_eqT, n_eqF, n_m1T, n_m1F, n_m1F', n_cl, n_add, n_mul, ro_at, ro_ro, up_at, up_up, e]
end MODELQ
