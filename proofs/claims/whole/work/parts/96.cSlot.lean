/-! the class: the slots in the order of their smallest automata -/
section CSLOT
variable {n : Nat} {h : mH} {A M : Nat → Nat → Int32} {R : Nat → Nat → Option Nat} {S : St} {g g' : Glu} {b : Nat}
theorem c_slT {s : Nat} (hi : IC n h A R S) (hs : s < 6) (hp : lP (sCur S) s ≠ []) : ∃ a, f_X6_pattern (ca n 1) (nI s) (E n h A M R) = some (some a, E n h A M R) ∧ Pat n h a (lP (sCur S) s) := by
  obtain ⟨a, h1, h2⟩ := ShOK_so hi.2.1 hs hp
  have hq := c_pattern (n := n) (h := h) (A := A) (M := M) (R := R) bSh_1 hs
  rw [h1] at hq
  exact ⟨a, hq, h2⟩
theorem c_slF {s : Nat} (hi : IC n h A R S) (hs : s < 6) (hp : lP (sCur S) s = []) : f_X6_pattern (ca n 1) (nI s) (E n h A M R) = some (none, E n h A M R) := by
  have h1 := ShOK_no hi.2.1 hs hp
  have hq := c_pattern (n := n) (h := h) (A := A) (M := M) (R := R) bSh_1 hs
  rw [h1] at hq
  exact hq
theorem c_before {a b : Nat} (hi : IC n h A R S) (hg : GoodS S) (ha : a < 6) (hb : b < 6) (hsm : ∀ j, j < 6 → A 96 j = nI (smZ S j)) (hpb : lP (sCur S) b ≠ []) : f_X11_comesBefore (ca n 0) (nI a) (nI b) (E n h A M R) = some (nI (b2 (rkB S b a)), E n h A M R) := by
  have e0 := ESh bSh_1
  obtain ⟨pb, e2, q2⟩ := c_slT (M := M) hi hb hpb
  have k1 := kd_X (n := n) (h := h) (A := A) (M := M) (R := R) (a := pb) (by have := q2.1; omega)
  rw [q2.2.2.1] at k1
  have s1 := hsm a ha
  have s2 := hsm b hb
  have l1 := smZ_lt hg ha
  have l2 := smZ_lt hg hb
  have n1 := nLet_lt hg ha
  have n2 := nLet_lt hg hb
  have tb := c_letters (A := A) (M := M) (R := R) q2
  have ta := c_isSlotT (s := a) (g := E n h A M R) ha
  have ts := c_isSlotT (s := b) (g := E n h A M R) hb
  unfold f_X11_comesBefore g_X11_comesBefore_42 g_X11_comesBefore_79 g_X11_comesBefore_109 g_X11_comesBefore_120
  by_cases ep : lP (sCur S) a = []
  · have e1 := c_slF (M := M) hi ha ep
    rw [rkB_f (fun z => z.2.1 ep)]
    simp (disch := omega) only [↓grd_u, ↓bnd_e, ↓orf_u, ↓oif_u, ↓cal_u, ↓calX_u, ↓inrO_u, ↓reduceIte, EM, EMg, EMs, z0, oi, n_inbT, n_cntT, n_ltT, n_ltF, n_leT, n_leF, n_eqT, n_eqF, n_m1T, n_m1F, n_m1F', n_cl, n_add, n_mul, ro_at, ro_ro, up_at, up_up, EC, e0, e1, e2]
    rfl
  · obtain ⟨pa, e1, q1⟩ := c_slT (M := M) hi ha ep
    have k0 := kd_X (n := n) (h := h) (A := A) (M := M) (R := R) (a := pa) (by have := q1.1; omega)
    rw [q1.2.2.1] at k0
    have tl := c_letters (A := A) (M := M) (R := R) q1
    have fin : ∀ (P : Prop), (P ↔ ahP S a b) → (∀ v, ((P ∧ v = 1) ∨ (¬ P ∧ v = 0)) → b2 (rkB S b a) = v) := fun P hP v hv => by
      rcases hv with ⟨h1, rfl⟩ | ⟨h1, rfl⟩
      · have hah := hP.mp h1
        have hab : a ≠ b := fun z => by
          rw [z] at hah
          unfold ahP at hah
          omega
        rw [rkB_t ⟨hab, ep, hah⟩]
        rfl
      · rw [rkB_f (fun z => h1 (hP.mpr z.2.2))]
        rfl
    by_cases c1 : smZ S a = smZ S b
    · by_cases c2 : nLet (lP (sCur S) a) = nLet (lP (sCur S) b)
      · by_cases c3 : a < b
        · rw [fin (a < b) (by unfold ahP; omega) 1 (Or.inl ⟨c3, rfl⟩)]
          simp (disch := omega) only [↓grd_u, ↓bnd_e, ↓orf_u, ↓oif_u, ↓cal_u, ↓calX_u, ↓inrO_u, ↓reduceIte, EM, EMg, EMs, z0, oi, n_inbT, n_cntT, n_ltT, n_ltF, n_leT, n_leF, n_eqT, n_eqF, n_m1T, n_m1F, n_m1F', n_cl, n_add, n_mul, ro_at, ro_ro, up_at, up_up, EC, ECg, e0, e1, e2, ta, ts, s1, s2, k0, k1, tl, tb, nb1]
        · rw [fin (a < b) (by unfold ahP; omega) 0 (Or.inr ⟨c3, rfl⟩)]
          simp (disch := omega) only [↓grd_u, ↓bnd_e, ↓orf_u, ↓oif_u, ↓cal_u, ↓calX_u, ↓inrO_u, ↓reduceIte, EM, EMg, EMs, z0, oi, n_inbT, n_cntT, n_ltT, n_ltF, n_leT, n_leF, n_eqT, n_eqF, n_m1T, n_m1F, n_m1F', n_cl, n_add, n_mul, ro_at, ro_ro, up_at, up_up, EC, ECg, e0, e1, e2, ta, ts, s1, s2, k0, k1, tl, tb, nb0]
      · by_cases c3 : nLet (lP (sCur S) a) < nLet (lP (sCur S) b)
        · rw [fin (nLet (lP (sCur S) a) < nLet (lP (sCur S) b)) (by unfold ahP; omega) 1 (Or.inl ⟨c3, rfl⟩)]
          simp (disch := omega) only [↓grd_u, ↓bnd_e, ↓orf_u, ↓oif_u, ↓cal_u, ↓calX_u, ↓inrO_u, ↓reduceIte, EM, EMg, EMs, z0, oi, n_inbT, n_cntT, n_ltT, n_ltF, n_leT, n_leF, n_eqT, n_eqF, n_m1T, n_m1F, n_m1F', n_cl, n_add, n_mul, ro_at, ro_ro, up_at, up_up, EC, ECg, e0, e1, e2, ta, ts, s1, s2, k0, k1, tl, tb, nb1]
        · rw [fin (nLet (lP (sCur S) a) < nLet (lP (sCur S) b)) (by unfold ahP; omega) 0 (Or.inr ⟨c3, rfl⟩)]
          simp (disch := omega) only [↓grd_u, ↓bnd_e, ↓orf_u, ↓oif_u, ↓cal_u, ↓calX_u, ↓inrO_u, ↓reduceIte, EM, EMg, EMs, z0, oi, n_inbT, n_cntT, n_ltT, n_ltF, n_leT, n_leF, n_eqT, n_eqF, n_m1T, n_m1F, n_m1F', n_cl, n_add, n_mul, ro_at, ro_ro, up_at, up_up, EC, ECg, e0, e1, e2, ta, ts, s1, s2, k0, k1, tl, tb, nb0]
    · by_cases c2 : smZ S a < smZ S b
      · rw [fin (smZ S a < smZ S b) (by unfold ahP; omega) 1 (Or.inl ⟨c2, rfl⟩)]
        simp (disch := omega) only [↓grd_u, ↓bnd_e, ↓orf_u, ↓oif_u, ↓cal_u, ↓calX_u, ↓inrO_u, ↓reduceIte, EM, EMg, EMs, z0, oi, n_inbT, n_cntT, n_ltT, n_ltF, n_leT, n_leF, n_eqT, n_eqF, n_m1T, n_m1F, n_m1F', n_cl, n_add, n_mul, ro_at, ro_ro, up_at, up_up, EC, ECg, e0, e1, e2, ta, ts, s1, s2, nb1]
      · rw [fin (smZ S a < smZ S b) (by unfold ahP; omega) 0 (Or.inr ⟨c2, rfl⟩)]
        simp (disch := omega) only [↓grd_u, ↓bnd_e, ↓orf_u, ↓oif_u, ↓cal_u, ↓calX_u, ↓inrO_u, ↓reduceIte, EM, EMg, EMs, z0, oi, n_inbT, n_cntT, n_ltT, n_ltF, n_leT, n_leF, n_eqT, n_eqF, n_m1T, n_m1F, n_m1F', n_cl, n_add, n_mul, ro_at, ro_ro, up_at, up_up, EC, ECg, e0, e1, e2, ta, ts, s1, s2, nb0]
theorem c_rankOf {b : Nat} (hi : IC n h A R S) (hg : GoodS S) (hb : b < 6) (hsm : ∀ j, j < 6 → A 96 j = nI (smZ S j)) (hpb : lP (sCur S) b ≠ []) : f_X11_rankOf (ca n 0) (nI b) (E n h A M R) = some (nI (rank S b), E n h A M R) := by
  unfold f_X11_rankOf g_X11_rankOf_4
  refine lp_for0 (f := b_X11_rankOf_4 (ca n 0) (nI b)) (fun k => (nI (cs (rkB S b) k), nI k, E n h A M R)) 6 _ (fun k hk => ?_) ?_ (L := 100000) (by decide)
  · have hbf := c_before (M := M) hi hg hk hb hsm hpb
    have hle := csn_le (rkB S b) k
    unfold b_X11_rankOf_4 b0_X11_rankOf_4 g_X11_rankOf_22
    cases z : rkB S b k with
    | true =>
      rw [z] at hbf
      have hbf : f_X11_comesBefore (ca n 0) (nI k) (nI b) (E n h A M R) = some (nI 1, E n h A M R) := hbf
      rw [cs_t z]
      simp (disch := omega) only [↓grd_u, ↓bnd_e, ↓orf_u, ↓oif_u, ↓cal_u, ↓calX_u, ↓inrO_u, ↓reduceIte, EM, EMg, EMs, z0, oi, n_inbT, n_cntT, n_ltT, n_ltF, n_leT, n_leF, n_eqT, n_eqF, n_m1T, n_m1F, n_m1F', n_cl, n_add, n_mul, ro_at, ro_ro, up_at, up_up, EC, hbf]
    | false =>
      rw [z] at hbf
      have hbf : f_X11_comesBefore (ca n 0) (nI k) (nI b) (E n h A M R) = some (nI 0, E n h A M R) := hbf
      rw [cs_f z]
      simp (disch := omega) only [↓grd_u, ↓bnd_e, ↓orf_u, ↓oif_u, ↓cal_u, ↓calX_u, ↓inrO_u, ↓reduceIte, EM, EMg, EMs, z0, oi, n_inbT, n_cntT, n_ltT, n_ltF, n_leT, n_leF, n_eqT, n_eqF, n_m1T, n_m1F, n_m1F', n_cl, n_add, n_mul, ro_at, ro_ro, up_at, up_up, EC, hbf, Nat.add_zero]
  · unfold b_X11_rankOf_4 b0_X11_rankOf_4
    simp (disch := omega) only [↓grd_u, ↓bnd_e, ↓orf_u, ↓oif_u, ↓cal_u, ↓calX_u, ↓inrO_u, ↓reduceIte, EM, EMg, EMs, z0, oi, n_inbT, n_cntT, n_ltT, n_ltF, n_leT, n_leF, n_eqT, n_eqF, n_m1T, n_m1F, n_m1F', n_cl, n_add, n_mul, ro_at, ro_ro, up_at, up_up]
    rfl
theorem c_sl44 {v : Int32} (hi : IC n h A R S) (hg : GoodS S) (hsm : ∀ j, j < 6 → A 96 j = nI (smZ S j)) : ∃ r, g_X11_slotByStates_44 (ca n 0) v (nI 0) (E n h A M R) = some r ∧ r = (if (aSlot S v).1 = 0 then .inl (nI (aSlot S v).2.1) else .inr (exN (aSlot S v).1), E n h A M R) := by
  unfold g_X11_slotByStates_44
  refine lp_inv0 (f := b_X11_slotByStates_44 (ca n 0) v) (fun b s' => s' = (nI b, E n h A M R) ∧ ∀ a, a < b → ¬ slP S v a) _ 6 (fun b s' hb hI => ?_) (L := 100000) (by decide) ⟨rfl, fun a ha => absurd ha (Nat.not_lt_zero _)⟩
  obtain ⟨rfl, hno⟩ := hI
  have e0 := ESh bSh_1
  unfold b_X11_slotByStates_44 b0_X11_slotByStates_44 g_X11_slotByStates_72
  by_cases hb6 : b < 6
  · have step : ¬ slP S v b → ∀ a, a < b + 1 → ¬ slP S v a := fun hn a ha => by
      by_cases ea : a = b
      · rw [ea]; exact hn
      · exact hno a (by omega)
    by_cases ep : lP (sCur S) b = []
    · have e1 := c_slF (M := M) hi hb6 ep
      refine Or.inl ⟨(nI (b + 1), E n h A M R), ?_, hb6, rfl, step (fun z => z.2.1 ep)⟩
      simp (disch := omega) only [↓grd_u, ↓bnd_e, ↓orf_u, ↓oif_u, ↓cal_u, ↓calX_u, ↓inrO_u, ↓reduceIte, EM, EMg, EMs, z0, oi, n_inbT, n_cntT, n_ltT, n_ltF, n_leT, n_leF, n_eqT, n_eqF, n_m1T, n_m1F, n_m1F', n_cl, n_add, n_mul, ro_at, ro_ro, up_at, up_up, EC, e0, e1]
    · obtain ⟨pa, e1, -⟩ := c_slT (M := M) hi hb6 ep
      have e2 := c_rankOf (M := M) hi hg hb6 hsm ep
      by_cases ev : nI (rank S b) = v
      · refine Or.inr ⟨(.inl (nI b), E n h A M R), ?_, ?_⟩
        · simp (disch := omega) only [↓grd_u, ↓bnd_e, ↓orf_u, ↓oif_u, ↓cal_u, ↓calX_u, ↓inrO_u, ↓reduceIte, EM, EMg, EMs, z0, oi, n_inbT, n_cntT, n_ltT, n_ltF, n_leT, n_leF, n_eqT, n_eqF, n_m1T, n_m1F, n_m1F', n_cl, n_add, n_mul, ro_at, ro_ro, up_at, up_up, EC, e0, e1, e2]
          rw [if_pos ev]
        · rw [aSlot_T ⟨hb6, ep, ev⟩ hno]
          rfl
      · refine Or.inl ⟨(nI (b + 1), E n h A M R), ?_, hb6, rfl, step (fun z => ev z.2.2)⟩
        simp (disch := omega) only [↓grd_u, ↓bnd_e, ↓orf_u, ↓oif_u, ↓cal_u, ↓calX_u, ↓inrO_u, ↓reduceIte, EM, EMg, EMs, z0, oi, n_inbT, n_cntT, n_ltT, n_ltF, n_leT, n_leF, n_eqT, n_eqF, n_m1T, n_m1F, n_m1F', n_cl, n_add, n_mul, ro_at, ro_ro, up_at, up_up, EC, e0, e1, e2]
        rw [if_neg ev]
  · have hbe : b = 6 := by omega
    refine Or.inr ⟨(.inr "java/util/NoSuchElementException", E n h A M R), ?_, ?_⟩
    · rw [hbe]
      simp (disch := omega) only [↓grd_u, ↓bnd_e, ↓orf_u, ↓oif_u, ↓cal_u, ↓calX_u, ↓inrO_u, ↓reduceIte, EM, EMg, EMs, z0, oi, n_inbT, n_cntT, n_ltT, n_ltF, n_leT, n_leF, n_eqT, n_eqF, n_m1T, n_m1F, n_m1F', n_cl, n_add, n_mul, ro_at, ro_ro, up_at, up_up]
    · rw [aSlot_F (fun b hb => hno b (by have := hb.1; omega) hb)]
      rfl
theorem c_slotByStates {v : Int32} (hi : IC n h A R S) (hg : GoodS S) : CA n M (f_X11_slotByStates (ca n 0) v (E n h A M R)) exN (aSlot S v) := by
  have e0 := ESh bSh_1
  have key : ∃ r, g_X11_slotByStates_2 (ca n 0) v (nI 0) (E n h A M R) = some r ∧ ∃ A', r = (if (aSlot S v).1 = 0 then .inl (nI (aSlot S v).2.1) else .inr (exN (aSlot S v).1), E n h A' M R) ∧ IC n h A' R S := by
    unfold g_X11_slotByStates_2
    refine lp_inv0 (f := b_X11_slotByStates_2 (ca n 0) v) (fun b s' => ∃ A1, s' = (nI b, E n h A1 M R) ∧ IC n h A1 R S ∧ ∀ j, j < b → A1 96 j = nI (smZ S j)) _ 6 (fun b s' hb hI => ?_) (L := 100000) (by decide) ⟨A, rfl, hi, fun a ha => absurd ha (Nat.not_lt_zero _)⟩
    obtain ⟨A1, rfl, i1, hsm⟩ := hI
    have i2 : ∀ A2 F, IC n h A2 R S → IC n h (ro A2 96 F) R S := fun A2 F hi2 => IC_wk hi2 (MonoS_rf n h) (fun r hr => ro_ne _ _ (by omega))
    unfold b_X11_slotByStates_2 b0_X11_slotByStates_2 g_X11_slotByStates_35
    by_cases hb6 : b < 6
    · by_cases ep : lP (sCur S) b = []
      · have e1 := c_slF (M := M) i1 hb6 ep
        have ez : smZ S b = 0 := by unfold smZ; rw [if_pos ep]
        refine Or.inl ⟨(nI (b + 1), E n h (ro A1 96 (up (A1 96) b (nI 0))) M R), ?_, hb6, _, rfl, i2 _ _ i1, fun j hj => ?_⟩
        · simp (disch := omega) only [↓grd_u, ↓bnd_e, ↓orf_u, ↓oif_u, ↓cal_u, ↓calX_u, ↓inrO_u, ↓reduceIte, EM, EMg, EMs, z0, oi, n_inbT, n_cntT, n_ltT, n_ltF, n_leT, n_leF, n_eqT, n_eqF, n_m1T, n_m1F, n_m1F', n_cl, n_add, n_mul, ro_at, ro_ro, up_at, up_up, EC, ECs, e0, e1]
        · rw [ro_at]
          by_cases e : j = b
          · rw [e, up_at, ez]
          · rw [up_ne _ _ e]; exact hsm j (by omega)
      · obtain ⟨pa, e1, q1⟩ := c_slT (M := M) i1 hb6 ep
        obtain ⟨A2, e2, f2, f3⟩ := c_smallSize (A := A1) (M := M) (R := R) hg hb6 ep q1
        have ez : smZ S b = gMc (gluOf (lP (sCur S) b)) := by unfold smZ; rw [if_neg ep]
        refine Or.inl ⟨(nI (b + 1), E n h (ro A2 96 (up (A2 96) b (nI (gMc (gluOf (lP (sCur S) b)))))) M R), ?_, hb6, _, rfl, i2 _ _ (IC_wk i1 (MonoS_rf n h) f2), fun j hj => ?_⟩
        · simp (disch := omega) only [↓grd_u, ↓bnd_e, ↓orf_u, ↓oif_u, ↓cal_u, ↓calX_u, ↓inrO_u, ↓reduceIte, EM, EMg, EMs, z0, oi, n_inbT, n_cntT, n_ltT, n_ltF, n_leT, n_leF, n_eqT, n_eqF, n_m1T, n_m1F, n_m1F', n_cl, n_add, n_mul, ro_at, ro_ro, up_at, up_up, EC, ECs, e0, e1, e2]
        · rw [ro_at]
          by_cases e : j = b
          · rw [e, up_at, ez]
          · rw [up_ne _ _ e, f3]; exact hsm j (by omega)
    · have hbe : b = 6 := by omega
      obtain ⟨r, e, hr⟩ := c_sl44 (M := M) (v := v) i1 hg (fun j hj => hsm j (by omega))
      refine Or.inr ⟨r, ?_, A1, hr, i1⟩
      rw [hbe]
      simp (disch := omega) only [↓grd_u, ↓bnd_e, ↓orf_u, ↓oif_u, ↓cal_u, ↓calX_u, ↓inrO_u, ↓reduceIte, EM, EMg, EMs, z0, oi, n_inbT, n_cntT, n_ltT, n_ltF, n_leT, n_leF, n_eqT, n_eqF, n_m1T, n_m1F, n_m1F', n_cl, n_add, n_mul, ro_at, ro_ro, up_at, up_up, e]
  obtain ⟨r, e, A', rfl, i'⟩ := key
  have e9 : (aSlot S v).2.2 = S := by
    unfold aSlot
    split <;> rfl
  exact ⟨h, A', R, e, by rw [e9]; exact i'⟩
end CSLOT
