/-! the reference: one command is done -/
section MONE
variable {n : Nat} {h : mH} {A M : Nat → Nat → Int32} {R : Nat → Nat → Option Nat} {S : St} {T : List Nat} {i : Nat}
theorem dg_slot {d : Nat} (hd : d < 10) : (d < 6 ∧ slN (nI d) = some d) ∨ ((nI d < nI 0 ∨ nI 5 < nI d) ∧ slN (nI d) = none) := by
  by_cases q : d < 6
  · exact Or.inl ⟨q, slN_T q⟩
  · have : nI d < nI 0 ∨ nI 5 < nI d := Or.inr (by rw [n_lt (by decide) (by omega)]; omega)
    exact Or.inr ⟨this, slN_F this⟩
theorem wT_ok (T : List Nat) (i : Nat) : (wT T i).length = lrn (T.drop (i + 5)) ∧ okW (wT T i) 0 (wT T i).length = 1 ∧ ∀ j, j < (wT T i).length → (wT T i).getD j 0 = T.getD (i + 5 + j) 0 := by
  have key : ∀ U : List Nat, ∀ j, j < lrn U → 97 ≤ U.getD j 0 ∧ U.getD j 0 ≤ 99 := by
    intro U
    induction U with
    | nil => intro j hj; exact absurd hj (Nat.not_lt_zero _)
    | cons c r ih =>
      intro j hj
      unfold lrn at hj
      by_cases q : 97 ≤ c ∧ c ≤ 99
      · rw [if_pos q] at hj
        cases j with
        | zero => exact q
        | succ j => exact ih j (by omega)
      · rw [if_neg q] at hj
        exact absurd hj (Nat.not_lt_zero _)
  have hl : (wT T i).length = lrn (T.drop (i + 5)) := by
    unfold wT
    rw [List.length_take]
    have := lrn_le (T.drop (i + 5))
    omega
  have hg : ∀ j, j < (wT T i).length → (wT T i).getD j 0 = (T.drop (i + 5)).getD j 0 := fun j hj => by
    unfold wT
    simp only [List.getD_eq_getElem?_getD]
    rw [List.getElem?_take_of_lt (by omega)]
  refine ⟨hl, okW_1.mpr fun j hj => ?_, fun j hj => ?_⟩
  · rw [Nat.zero_add, hg j hj]
    exact key _ j (by omega)
  · rw [hg j hj]
    simp only [List.getD_eq_getElem?_getD, List.getElem?_drop]
theorem m_one (hi : IM M S) (hg : GoodS S) (hi2 : i ≤ T.length) (h60 : T.length ≤ 60) (hok : (cmR T i).1 = true) (hc : CMD M T i) : One n h A R M (exC T i S) := by
  have hk := ksel_le T i
  have hs := hc.1
  have h8 := hg.1.2.1
  unfold exC
  by_cases k0 : ksel T i = 0
  · rw [if_pos k0]
    rw [k0] at hs
    have hd := CMD_dg (j := 0) hc (by rw [k0]; decide)
    have hd10 := (dgt_ok hi2 hok (j := 0) (by rw [k0]; decide)).2
    have hB := hc.2.2.1 k0
    obtain ⟨p, hp⟩ : ∃ p, p = rdE (pR T (i + 6)).2 := ⟨_, rfl⟩
    rw [← hp] at hB ⊢
    have hs' : M 0 48 = nI 115 := hs
    refine One_put (T := T) (i := i) (k := 0) (x := f_X12_notNow (ma n 0) (E n h A M R)) hi (by decide) hs hd rfl ?_
    rcases dg_slot hd10 with ⟨s6, es⟩ | ⟨hx, es⟩
    · rw [es]
      show CanP n h A R S M _ _ (laid S (dgt T i 0) p)
      by_cases ht : 7 < nLet p ∨ 9 < nSig p
      · refine ⟨1, M, ?_, Fr_rf _ _ _, by decide, Or.inl ⟨by decide, by rw [laid_1 ht]; decide⟩⟩
        unfold f_X12_notNow g_X12_notNow_130 g_X12_notNow_131
        simp (disch := omega) only [↓grd_u, ↓bnd_e, ↓orf_u, ↓oif_u, ↓cal_u, ↓calX_u, ↓inrO_u, ↓reduceIte, EM, EMg, EMs, z0, oi, n_inbT, n_cntT, n_ltT, n_ltF, n_leT, n_leF, n_eqT, n_eqF, n_m1T, n_m1F, n_m1F', n_cl, n_add, n_mul, ro_at, ro_ro, up_at, up_up, hs', hd, m_isSlotT, m_tooLargeT hB ht]
      · have wf : WF p := by
          rw [hp]
          refine (rdE_wf (pR_ok T (i + 6)).1 ?_).1
          obtain ⟨q1, -⟩ := cmR_sq hi2 hok
          unfold cmR at hok
          rw [k0] at hok q1
          obtain ⟨-, -, q3, -⟩ := sq_ok (T := T) (itk 0) i (items_pos 0 (by decide)) hi2
          match e : sq T (itk 0) i with
          | (false, j) => rw [e] at q1; exact absurd q1 Bool.false_ne_true
          | (true, j) =>
            rw [show sq T (kwd 0 ++ rst1 0) i = (true, j) from e] at hok
            rw [e] at q3
            have hj : j = i + 6 := (q3 rfl).1
            have hok : decide (rdOk (pR T j).2) = true := hok
            rw [← hj]
            exact of_decide_eq_true hok
        have gp : GoodP p := Or.inr ⟨wf, ht⟩
        have gl := GoodP_len gp
        refine ⟨0, M, ?_, Fr_rf _ _ _, by decide, Or.inr ⟨rfl, (laid_0 ht).1, _, p, rfl, s6, hB, by omega, (laid_0 ht).2⟩⟩
        unfold f_X12_notNow g_X12_notNow_131
        simp (disch := omega) only [↓grd_u, ↓bnd_e, ↓orf_u, ↓oif_u, ↓cal_u, ↓calX_u, ↓inrO_u, ↓reduceIte, EM, EMg, EMs, z0, oi, n_inbT, n_cntT, n_ltT, n_ltF, n_leT, n_leF, n_eqT, n_eqF, n_m1T, n_m1F, n_m1F', n_cl, n_add, n_mul, ro_at, ro_ro, up_at, up_up, hs', hd, m_isSlotT, m_tooLargeF hB ht]
    · rw [es]
      show CanP n h A R S M _ _ (1, 0, S)
      refine ⟨1, M, ?_, Fr_rf _ _ _, by decide, Or.inl ⟨by decide, show (1 : Nat) ≠ 0 by decide⟩⟩
      unfold f_X12_notNow g_X12_notNow_130 g_X12_notNow_131
      simp (disch := omega) only [↓grd_u, ↓bnd_e, ↓orf_u, ↓oif_u, ↓cal_u, ↓calX_u, ↓inrO_u, ↓reduceIte, EM, EMg, EMs, z0, oi, n_inbT, n_cntT, n_ltT, n_ltF, n_leT, n_leF, n_eqT, n_eqF, n_m1T, n_m1F, n_m1F', n_cl, n_add, n_mul, ro_at, ro_ro, up_at, up_up, hs', hd, m_isSlotF hx]
  rw [if_neg k0]
  by_cases k1 : ksel T i = 1
  · rw [if_pos k1]
    rw [k1] at hs
    have d0 := CMD_dg (j := 0) hc (by rw [k1]; decide)
    have d1 := CMD_dg (j := 1) hc (by rw [k1]; decide)
    have d2 := CMD_dg (j := 2) hc (by rw [k1]; decide)
    have hs' : M 0 48 = nI 111 := hs
    have hcp := m_canTwo (n := n) (h := h) (A := A) (R := R) (v := nI (dgt T i 0)) (a := nI (dgt T i 1)) (b := nI (dgt T i 2)) (o := 5) hi hg (Or.inr rfl)
    refine One_put (T := T) (i := i) (k := 1) hi (by decide) hs d0 ?_ hcp
    obtain ⟨e, M1, ex, -⟩ := hcp
    rw [ex]
    unfold f_X12_notNow
    simp (disch := omega) only [↓grd_u, ↓bnd_e, ↓orf_u, ↓oif_u, ↓cal_u, ↓calX_u, ↓inrO_u, ↓reduceIte, EM, EMg, EMs, z0, oi, n_inbT, n_cntT, n_ltT, n_ltF, n_leT, n_leF, n_eqT, n_eqF, n_m1T, n_m1F, n_m1F', n_cl, n_add, n_mul, ro_at, ro_ro, up_at, up_up, hs', d0, d1, d2, ex]
  rw [if_neg k1]
  by_cases k2 : ksel T i = 2
  · rw [if_pos k2]
    rw [k2] at hs
    have d0 := CMD_dg (j := 0) hc (by rw [k2]; decide)
    have d1 := CMD_dg (j := 1) hc (by rw [k2]; decide)
    have d2 := CMD_dg (j := 2) hc (by rw [k2]; decide)
    have hs' : M 0 48 = nI 116 := hs
    have hcp := m_canTwo (n := n) (h := h) (A := A) (R := R) (v := nI (dgt T i 0)) (a := nI (dgt T i 1)) (b := nI (dgt T i 2)) (o := 4) hi hg (Or.inl rfl)
    refine One_put (T := T) (i := i) (k := 2) hi (by decide) hs d0 ?_ hcp
    obtain ⟨e, M1, ex, -⟩ := hcp
    rw [ex]
    unfold f_X12_notNow
    simp (disch := omega) only [↓grd_u, ↓bnd_e, ↓orf_u, ↓oif_u, ↓cal_u, ↓calX_u, ↓inrO_u, ↓reduceIte, EM, EMg, EMs, z0, oi, n_inbT, n_cntT, n_ltT, n_ltF, n_leT, n_leF, n_eqT, n_eqF, n_m1T, n_m1F, n_m1F', n_cl, n_add, n_mul, ro_at, ro_ro, up_at, up_up, hs', d0, d1, d2, ex]
  rw [if_neg k2]
  by_cases k3 : ksel T i = 3
  · rw [if_pos k3]
    rw [k3] at hs
    have d0 := CMD_dg (j := 0) hc (by rw [k3]; decide)
    have d1 := CMD_dg (j := 1) hc (by rw [k3]; decide)
    have hs' : M 0 48 = nI 114 := hs
    have hcp := m_canRep (n := n) (h := h) (A := A) (R := R) (v := nI (dgt T i 0)) (a := nI (dgt T i 1)) hi hg
    refine One_put (T := T) (i := i) (k := 3) hi (by decide) hs d0 ?_ hcp
    obtain ⟨e, M1, ex, -⟩ := hcp
    rw [ex]
    unfold f_X12_notNow
    simp (disch := omega) only [↓grd_u, ↓bnd_e, ↓orf_u, ↓oif_u, ↓cal_u, ↓calX_u, ↓inrO_u, ↓reduceIte, EM, EMg, EMs, z0, oi, n_inbT, n_cntT, n_ltT, n_ltF, n_leT, n_leF, n_eqT, n_eqF, n_m1T, n_m1F, n_m1F', n_cl, n_add, n_mul, ro_at, ro_ro, up_at, up_up, hs', d0, d1, ex]
  rw [if_neg k3]
  by_cases k4 : ksel T i = 4
  · rw [if_pos k4]
    rw [k4] at hs
    have d0 := CMD_dg (j := 0) hc (by rw [k4]; decide)
    have hd10 := (dgt_ok hi2 hok (j := 0) (by rw [k4]; decide)).2
    have hs' : M 0 48 = nI 100 := hs
    rcases dg_slot hd10 with ⟨s6, es⟩ | ⟨hx, es⟩
    · rw [es]
      by_cases hp : lP (sCur S) (dgt T i 0) = []
      · have hz : aRem S (some (dgt T i 0)) = (2, 0, S) := by unfold aRem; exact if_pos hp
        rw [hz]
        refine ⟨2, M, ?_, Fr_rf _ _ _, by decide, Or.inl ⟨by decide, show (2 : Nat) ≠ 0 by decide⟩⟩
        unfold f_X12_notNow f_X12_notRemove g_X12_notRemove_22
        simp (disch := omega) only [↓grd_u, ↓bnd_e, ↓orf_u, ↓oif_u, ↓cal_u, ↓calX_u, ↓inrO_u, ↓reduceIte, EM, EMg, EMs, z0, oi, n_inbT, n_cntT, n_ltT, n_ltF, n_leT, n_leF, n_eqT, n_eqF, n_m1T, n_m1F, n_m1F', n_cl, n_add, n_mul, ro_at, ro_ro, up_at, up_up, hs', d0, m_isSlotT, holdsF hi s6 hp]
      · have hz : aRem S (some (dgt T i 0)) = (0, nPat (freeP (sCur S) (dgt T i 0)), remember S (freeP (sCur S) (dgt T i 0))) := by unfold aRem; exact if_neg hp
        rw [hz]
        have hr := m_removes (n := n) (h := h) (A := A) (M := M) (R := R) (L := sCur S) s6 hi.1 (good_28 hg)
        refine ⟨0, M, ?_, Fr_rf _ _ _, by decide, Or.inr ⟨rfl, rfl, nI (((List.range 6).filter fun q => decide (lP (freeP (sCur S) (dgt T i 0)) q ≠ [])).length), ro M 1 (enc (freeP (sCur S) (dgt T i 0))), ?_, ro_at _ _ _, Fr_ro _ (by decide) (by decide)⟩⟩
        · unfold f_X12_notNow f_X12_notRemove g_X12_notRemove_22
          simp (disch := omega) only [↓grd_u, ↓bnd_e, ↓orf_u, ↓oif_u, ↓cal_u, ↓calX_u, ↓inrO_u, ↓reduceIte, EM, EMg, EMs, z0, oi, n_inbT, n_cntT, n_ltT, n_ltF, n_leT, n_leF, n_eqT, n_eqF, n_m1T, n_m1F, n_m1F', n_cl, n_add, n_mul, ro_at, ro_ro, up_at, up_up, hs', d0, m_isSlotT, holdsT hi hg s6 hp]
        · unfold f_X12_doesNow
          simp (disch := omega) only [↓grd_u, ↓bnd_e, ↓orf_u, ↓oif_u, ↓cal_u, ↓calX_u, ↓inrO_u, ↓reduceIte, EM, EMg, EMs, z0, oi, n_inbT, n_cntT, n_ltT, n_ltF, n_leT, n_leF, n_eqT, n_eqF, n_m1T, n_m1F, n_m1F', n_cl, n_add, n_mul, ro_at, ro_ro, up_at, up_up, hs', d0, hr]
    · rw [es]
      show One n h A R M (1, 0, S)
      refine ⟨1, M, ?_, Fr_rf _ _ _, by decide, Or.inl ⟨by decide, show (1 : Nat) ≠ 0 by decide⟩⟩
      unfold f_X12_notNow f_X12_notRemove
      simp (disch := omega) only [↓grd_u, ↓bnd_e, ↓orf_u, ↓oif_u, ↓cal_u, ↓calX_u, ↓inrO_u, ↓reduceIte, EM, EMg, EMs, z0, oi, n_inbT, n_cntT, n_ltT, n_ltF, n_leT, n_leF, n_eqT, n_eqF, n_m1T, n_m1F, n_m1F', n_cl, n_add, n_mul, ro_at, ro_ro, up_at, up_up, hs', d0, m_isSlotF hx]
  rw [if_neg k4]
  by_cases k5 : ksel T i = 5
  · rw [if_pos k5]
    rw [k5] at hs
    have hs' : M 0 48 = nI 119 := hs
    obtain ⟨w1, w2⟩ := hc.2.2.2 k5
    obtain ⟨u1, u2, u3⟩ := wT_ok T i
    have hw1 : M 1 1 = nI (lW (sCur S)).length := by rw [hi.1, enc_1]
    have hm := lrn_le (T.drop (i + 5))
    rw [List.length_drop] at hm
    have hnw := m_notWord (n := n) (h := h) (A := A) (M := M) (R := R) (b := 1) (d := lrn (T.drop (i + 5))) (k := (lW (sCur S)).length) (by decide) w1 (by omega) hw1 h8
    rw [← u1] at hnw w1
    have n1 : f_X12_notNow (ma n 0) (E n h A M R) = some (nI (if 1 = 1 ∧ 1 ≤ (wT T i).length ∧ (wT T i).length ≤ 8 then (if (lW (sCur S)).length = 8 then 2 else 0) else 1), E n h A M R) := by
      unfold f_X12_notNow
      simp (disch := omega) only [↓grd_u, ↓bnd_e, ↓orf_u, ↓oif_u, ↓cal_u, ↓calX_u, ↓inrO_u, ↓reduceIte, EM, EMg, EMs, z0, oi, n_inbT, n_cntT, n_ltT, n_ltF, n_leT, n_leF, n_eqT, n_eqF, n_m1T, n_m1F, n_m1F', n_cl, n_add, n_mul, ro_at, ro_ro, up_at, up_up, hs', hnw]
    unfold exW
    by_cases q1 : 1 ≤ (wT T i).length ∧ (wT T i).length ≤ 8
    · rw [if_pos ⟨rfl, q1.1, q1.2⟩] at n1
      rw [if_pos ⟨u2, q1.1, q1.2⟩]
      by_cases q2 : (lW (sCur S)).length = 8
      · rw [if_pos q2] at n1 ⊢
        exact ⟨2, M, n1, Fr_rf _ _ _, by decide, Or.inl ⟨by decide, show (2 : Nat) ≠ 0 by decide⟩⟩
      · rw [if_neg q2] at n1 ⊢
        have ll : (lets (wT T i)).length = (wT T i).length := lets_len _
        have ha := m_addsWord (n := n) (h := h) (A := A) (M := M) (R := R) (L := sCur S) (ws := lets (wT T i)) (k := (lW (sCur S)).length) hi.1 rfl (by omega) (by rw [ll]; exact w1) (by omega) (fun j hj => by
          rw [ll] at hj
          rw [w2 j (by omega), lets_getD hj, u3 j hj])
        refine ⟨0, M, n1, Fr_rf _ _ _, by decide, Or.inr ⟨rfl, rfl, nI (lW (sCur S)).length, ro M 1 (enc (addW (sCur S) (lets (wT T i)))), ?_, ro_at _ _ _, Fr_ro _ (by decide) (by decide)⟩⟩
        unfold f_X12_doesNow
        simp (disch := omega) only [↓grd_u, ↓bnd_e, ↓orf_u, ↓oif_u, ↓cal_u, ↓calX_u, ↓inrO_u, ↓reduceIte, EM, EMg, EMs, z0, oi, n_inbT, n_cntT, n_ltT, n_ltF, n_leT, n_leF, n_eqT, n_eqF, n_m1T, n_m1F, n_m1F', n_cl, n_add, n_mul, ro_at, ro_ro, up_at, up_up, hs', ha]
    · rw [if_neg (fun z => q1 z.2)] at n1
      rw [if_neg (fun z => q1 z.2)]
      exact ⟨1, M, n1, Fr_rf _ _ _, by decide, Or.inl ⟨by decide, show (1 : Nat) ≠ 0 by decide⟩⟩
  rw [if_neg k5]
  have k6 : ksel T i = 6 := by omega
  rw [k6] at hs
  have d0 := CMD_dg (j := 0) hc (by rw [k6]; decide)
  have hd10 := (dgt_ok hi2 hok (j := 0) (by rw [k6]; decide)).2
  have hs' : M 0 48 = nI 99 := hs
  unfold aCutW
  by_cases hj : dgt T i 0 < (lW (sCur S)).length
  · rw [ixN_T hj (by omega)]
    have hcu := m_cuts (n := n) (h := h) (A := A) (M := M) (R := R) (L := sCur S) hi.1 rfl h8 hj
    refine ⟨0, M, ?_, Fr_rf _ _ _, by decide, Or.inr ⟨rfl, rfl, nI ((lW (sCur S)).length - 1), ro M 1 (enc (cutW (sCur S) (dgt T i 0))), ?_, ro_at _ _ _, Fr_ro _ (by decide) (by decide)⟩⟩
    · unfold f_X12_notNow g_X12_notNow_179 g_X12_notNow_192
      simp (disch := omega) only [↓grd_u, ↓bnd_e, ↓orf_u, ↓oif_u, ↓cal_u, ↓calX_u, ↓inrO_u, ↓reduceIte, EM, EMg, EMs, z0, oi, n_inbT, n_cntT, n_ltT, n_ltF, n_leT, n_leF, n_eqT, n_eqF, n_m1T, n_m1F, n_m1F', n_cl, n_add, n_mul, ro_at, ro_ro, up_at, up_up, hs', d0, m_isWordT hi.1 hj h8]
    · unfold f_X12_doesNow
      simp (disch := omega) only [↓grd_u, ↓bnd_e, ↓orf_u, ↓oif_u, ↓cal_u, ↓calX_u, ↓inrO_u, ↓reduceIte, EM, EMg, EMs, z0, oi, n_inbT, n_cntT, n_ltT, n_ltF, n_leT, n_leF, n_eqT, n_eqF, n_m1T, n_m1F, n_m1F', n_cl, n_add, n_mul, ro_at, ro_ro, up_at, up_up, hs', d0, hcu]
  · have hx : nI (dgt T i 0) < nI 0 ∨ nI (lW (sCur S)).length ≤ nI (dgt T i 0) := Or.inr (by rw [n_le (by omega) (by omega)]; omega)
    rw [ixN_F hx]
    refine ⟨1, M, ?_, Fr_rf _ _ _, by decide, Or.inl ⟨by decide, show (1 : Nat) ≠ 0 by decide⟩⟩
    unfold f_X12_notNow g_X12_notNow_179 g_X12_notNow_192
    simp (disch := omega) only [↓grd_u, ↓bnd_e, ↓orf_u, ↓oif_u, ↓cal_u, ↓calX_u, ↓inrO_u, ↓reduceIte, EM, EMg, EMs, z0, oi, n_inbT, n_cntT, n_ltT, n_ltF, n_leT, n_leF, n_eqT, n_eqF, n_m1T, n_m1F, n_m1F', n_cl, n_add, n_mul, ro_at, ro_ro, up_at, up_up, hs', d0, m_isWordF hi.1 h8 hx]
end MONE
