/-! the class: the smallest automaton built, compared -/
section CSMALLB
variable {n : Nat} {h : mH} {A M : Nat → Nat → Int32} {R : Nat → Nat → Option Nat} {S : St} {b b' c0 a : Nat} {g g' : Glu}
theorem bSm_c (hb : bSm b) : b + 1 < 97 ∧ b + 2 < 97 := by rcases hb with rfl | rfl <;> exact ⟨by decide, by decide⟩
theorem c_sbuild (hb : bSm b) (hc : bAu c0) (ok : GluOK g) (hu : AuF A c0 g) : ∃ A', f_X7_build (ca n b) (ca n c0) (E n h A M R) = some ((), E n h A' M R) ∧ SmF A' b g ∧ FrS b A A' := by
  have e1 := ESm hb
  have e2 := ESmg hb
  have e3 := ESms hb
  have e4 := EAu hc
  have hL := gL_le ok
  have hL1 := gL_pos g
  obtain ⟨w1, w2⟩ := bSm_c hb
  have hz := c_ssize (n := n) (h := h) (M := M) (R := R) hc hu
  -- the classes at first
  obtain ⟨l0, hl0⟩ : ∃ l0 : Nat → Nat, l0 = fun k => if gA g k = gA g 0 then 0 else 1 := ⟨_, rfl⟩
  have l01 : ∀ k, l0 k ≤ 1 := fun k => by
    rw [hl0]
    show (if gA g k = gA g 0 then 0 else 1) ≤ 1
    split <;> omega
  obtain ⟨A1, hA1⟩ : ∃ A1, A1 = ro (ro A (b + 1) (pre (gL g) (fun k => nI (l0 k)) (A (b + 1)))) b (up (A b) 5 (nI 0)) := ⟨_, rfl⟩
  have f1 : FrS b A A1 := fun r hr => by rw [hA1, ro_ne _ _ (by omega), ro_ne _ _ (by omega)]
  have cl1 : ClC A1 (b + 1) (gL g) l0 := fun j hj => by
    rw [hA1, ro_ne _ _ (by omega), ro_at, pre_lt _ _ hj]
    exact ⟨rfl, by have := l01 j; omega⟩
  have lab1 : labs (gS g) (gA g) (gL g) 0 l0 := fun i j _ _ => by
    rw [hl0]
    show (if gA g i = gA g 0 then 0 else 1) = (if gA g j = gA g 0 then 0 else 1) ↔ (gA g i == gA g j) = true
    cases gA g i <;> cases gA g j <;> cases gA g 0 <;> simp
  have key : ∃ r, g_X7_build_55 (ca n b) (ca n c0) (nI (gL g)) (nI 0) (E n h A1 M R) = some r ∧ ∃ A', r = ((), E n h A' M R) ∧ SmF A' b g ∧ FrS b A A' := by
    unfold g_X7_build_55
    refine lp_inv0 (f := b_X7_build_55 (ca n b) (ca n c0) (nI (gL g))) (fun t s' => ∃ A2 l, s' = (nI t, E n h A2 M R) ∧ FrS b A A2 ∧ ClC A2 (b + 1) (gL g) l ∧ labs (gS g) (gA g) (gL g) t l ∧ A2 b 5 = nI (if t = 0 then 0 else mc (gS g) (gA g) (gL g) t) ∧ (t = 129 → (∀ j, j < gL g → l j = gLab g j) ∧ HdC A2 b (gR g) (gL g))) _ 129 (fun t s' ht hI => ?_) (L := 100000) (by decide) ⟨A1, l0, rfl, f1, cl1, lab1, by rw [hA1, ro_at, up_at, if_pos rfl], fun z => absurd z (by decide)⟩
    obtain ⟨A2, l, rfl, f2, cl2, lab2, sz2, fin2⟩ := hI
    have hu2 : AuF A2 c0 g := AuF_S hb hc hu f2
    unfold b_X7_build_55 b0_X7_build_55 g_X7_build_110
    -- the last lines
    have hend : ∀ A3, FrS b A A3 → ClC A3 (b + 1) (gL g) (gLab g) → HdC A3 b (gR g) (gL g) → A3 b 5 = nI (gMc g) → ∃ A4, f_X7_fillTargets (ca n b) (ca n c0) (E n h A3 M R) = some ((), E n h A4 M R) ∧ SmF A4 b g ∧ FrS b A A4 := fun A3 q1 q2 q3 q4 => by
      obtain ⟨A4, e, s, f⟩ := c_fillT (n := n) (h := h) (M := M) (R := R) hb hc ok (AuF_S hb hc hu q1) q2 q3 q4
      exact ⟨A4, e, s, FrS_tr q1 f⟩
    by_cases ht2 : t < 129
    · obtain ⟨A3, ed, cl3, hd3, f3⟩ := c_divide (n := n) (h := h) (M := M) (R := R) hb hc ok hu2 cl2 lab2
      have hcp := cp_C (n := n) (h := h) (A := A3) (M := M) (R := R) (r := b + 1) (q := b + 2) (m := 129) w1 w2
      obtain ⟨A5, hA5⟩ : ∃ A5, A5 = ro A3 (b + 1) (pre 129 (A3 (b + 2)) (A3 (b + 1))) := ⟨_, rfl⟩
      rw [← hA5] at hcp
      have f5 : ∀ r, r ≠ b + 1 → r ≠ b + 2 → r ≠ b + 3 → A5 r = A2 r := fun r h1 h2 h3 => by rw [hA5, ro_ne _ _ h1]; exact f3 r h2 h3
      have fr5 : FrS b A A5 := fun r hr => (f5 r (by omega) (by omega) (by omega)).trans (f2 r hr)
      have cl5 : ClC A5 (b + 1) (gL g) (labR (mr (gS g) (gA g) (t + 1))) := fun j hj => by
        rw [hA5, ro_at, pre_lt _ _ (by omega)]
        exact cl3 j hj
      have hd5 : HdC A5 b (mr (gS g) (gA g) (t + 1)) (gL g) := fun j hj hh => by
        rw [hA5, ro_ne _ _ (by omega)]
        exact hd3 j hj hh
      have sz5 : A5 b 5 = nI (if t = 0 then 0 else mc (gS g) (gA g) (gL g) t) := by rw [f5 _ (by omega) (by omega) (by omega)]; exact sz2
      have n3 : ∀ x : Nat, (x ≤ x) = True := fun x => eq_true (Nat.le_refl x)
      have b3 : mc (gS g) (gA g) (gL g) (t + 1) ≤ gL g := csn_le _ _
      have b4 : mc (gS g) (gA g) (gL g) t ≤ gL g := csn_le _ _
      have p1 := mc_pos (s := gS g) (ac := gA g) hL1 (t + 1)
      obtain ⟨N, hN⟩ : ∃ N, N = if t = 0 then 0 else mc (gS g) (gA g) (gL g) t := ⟨_, rfl⟩
      rw [← hN] at sz5
      have hN2 : N ≤ 129 := by rw [hN]; split <;> omega
      -- stable: the relation is the last one
      have hlast : ∀ k, mc (gS g) (gA g) (gL g) (k + 1) ≤ mc (gS g) (gA g) (gL g) k → (∀ j, j < gL g → labR (mr (gS g) (gA g) k) j = gLab g j) ∧ (HdC A5 b (mr (gS g) (gA g) k) (gL g) → HdC A5 b (gR g) (gL g)) := fun k hk => by
        have hcg : ∀ i j, i < gL g → j < gL g → mr (gS g) (gA g) k i j = gR g i j := fun i j hi hj => mr_fin hL1 (by omega) (gS_lt ok) hk i j hi hj
        refine ⟨fun j hj => lab_cg hcg hj, fun hd j hj hh => ?_⟩
        have e5 : cs (hdR (gR g)) j = cs (hdR (mr (gS g) (gA g) k)) j := (cs_eq fun x hx => hd_cg hcg (by omega)).symm
        rw [e5]
        exact hd j hj (by rw [hd_cg hcg hj]; exact hh)
      by_cases hx : mc (gS g) (gA g) (gL g) (t + 1) = N
      · have t0 : t ≠ 0 := fun z => by rw [hN, if_pos z] at hx; omega
        rw [hN, if_neg t0] at hx
        have st0 : mc (gS g) (gA g) (gL g) (t + 1) ≤ mc (gS g) (gA g) (gL g) t := by omega
        have st1 : mc (gS g) (gA g) (gL g) (t + 1 + 1) ≤ mc (gS g) (gA g) (gL g) (t + 1) := by
          have a := mc_done (gS_lt ok) st0 1
          have b := mc_done (gS_lt ok) st0 2
          rw [show t + 1 + 1 = t + 2 by omega, b, a]
          exact Nat.le_refl _
        have hf := mc_fin (ac := gA g) hL1 (by omega) (gS_lt ok) st0
        obtain ⟨q1, q2⟩ := hlast (t + 1) st1
        have hNf : N = gMc g := by rw [hN, if_neg t0]; exact hf
        obtain ⟨A6, e6, s6, f6⟩ := hend A5 fr5 (fun j hj => by rw [← q1 j hj]; exact cl5 j hj) (q2 hd5) (by rw [sz5, hNf])
        refine Or.inr ⟨((), E n h A6 M R), ?_, A6, rfl, s6, f6⟩
        have hx2 : mc (gS g) (gA g) (gL g) (t + 1) = gMc g := by rw [hx]; exact hf
        rw [hx2] at ed
        rw [hNf] at sz5
        simp (disch := omega) only [↓grd_u, ↓bnd_e, ↓orf_u, ↓oif_u, ↓cal_u, ↓calX_u, ↓inrO_u, ↓reduceIte, EM, EMg, EMs, z0, oi, n_inbT, n_cntT, n_ltT, n_ltF, n_leT, n_leF, n_eqT, n_eqF, n_m1T, n_m1F, n_m1F', n_cl, n_add, n_mul, ro_at, ro_ro, up_at, up_up, e1, e2, ed, not_false_eq_true, and_true, true_and, Nat.zero_add, n3, hcp, sz5, e6]
      · obtain ⟨A6, hA6⟩ : ∃ A6, A6 = ro A5 b (up (A5 b) 5 (nI (mc (gS g) (gA g) (gL g) (t + 1)))) := ⟨_, rfl⟩
        have f6 : ∀ r, r ≠ b → A6 r = A5 r := fun r hr => by rw [hA6, ro_ne _ _ hr]
        refine Or.inl ⟨(nI (t + 1), E n h A6 M R), ?_, ht2, A6, labR (mr (gS g) (gA g) (t + 1)), rfl, fun r hr => (f6 r (by omega)).trans (fr5 r hr), fun j hj => by rw [f6 _ (by omega)]; exact cl5 j hj, labs_lab _ _ _ _, by rw [hA6, ro_at, up_at, if_neg (by omega)], fun h129 => ?_⟩
        · have hA6' := hA6.symm
          simp (disch := omega) only [↓grd_u, ↓bnd_e, ↓orf_u, ↓oif_u, ↓cal_u, ↓calX_u, ↓inrO_u, ↓reduceIte, EM, EMg, EMs, z0, oi, n_inbT, n_cntT, n_ltT, n_ltF, n_leT, n_leF, n_eqT, n_eqF, n_m1T, n_m1F, n_m1F', n_cl, n_add, n_mul, ro_at, ro_ro, up_at, up_up, e1, e2, e3, ed, not_false_eq_true, and_true, true_and, Nat.zero_add, n3, hcp, sz5]
          rw [hA6']
        · have st1 := mc_L (ac := gA g) hL1 (gS_lt ok) (t + 1) (by omega)
          obtain ⟨q1, q2⟩ := hlast (t + 1) st1
          refine ⟨q1, fun j hj hh => ?_⟩
          rw [f6 _ (by omega)]
          exact q2 hd5 j hj hh
    · have hte : t = 129 := by omega
      obtain ⟨q1, q2⟩ := fin2 hte
      have st1 := mc_L (ac := gA g) hL1 (gS_lt ok) 129 (by omega)
      have hf := mc_fin (ac := gA g) hL1 (by omega) (gS_lt ok) st1
      obtain ⟨A6, e6, s6, f6⟩ := hend A2 f2 (fun j hj => by rw [← q1 j hj]; exact cl2 j hj) q2 (by
        rw [sz2, hte, if_neg (by decide), hf]
        rfl)
      refine Or.inr ⟨((), E n h A6 M R), ?_, A6, rfl, s6, f6⟩
      rw [hte]
      simp (disch := omega) only [↓grd_u, ↓bnd_e, ↓orf_u, ↓oif_u, ↓cal_u, ↓calX_u, ↓inrO_u, ↓reduceIte, EM, EMg, EMs, z0, oi, n_inbT, n_cntT, n_ltT, n_ltF, n_leT, n_leF, n_eqT, n_eqF, n_m1T, n_m1F, n_m1F', n_cl, n_add, n_mul, ro_at, ro_ro, up_at, up_up, e1, e6]
  obtain ⟨r, e, A', rfl, q1, q2⟩ := key
  refine ⟨A', ?_, q1, q2⟩
  have h13 : g_X7_build_13 (ca n b) (ca n c0) (nI (gL g)) (nI 0) (E n h A M R) = some ((), E n h A' M R) := by
    unfold g_X7_build_13
    have hl := lp_for0 (f := b_X7_build_13 (ca n b) (ca n c0) (nI (gL g))) (fun k => (nI k, E n h (ro A (b + 1) (pre k (fun k => nI (l0 k)) (A (b + 1)))) M R)) (gL g) ((), E n h A' M R) (fun k hk => ?_) ?_ (L := 100000) (by omega)
    · simp only [pre_0, ro_self] at hl
      exact hl
    · have hu1 : AuF (ro A (b + 1) (pre k (fun k => nI (l0 k)) (A (b + 1)))) c0 g := AuF_fr hu (fun r h1 h2 => ro_ne _ _ (by have := apart_SA hb hc; omega))
      have a1 := c_isAcc (n := n) (h := h) (M := M) (R := R) hc hu1 ok hk
      have a2 := c_isAcc (n := n) (h := h) (M := M) (R := R) hc hu1 ok hL1
      have hup := up_pre k (fun k => nI (l0 k)) (A (b + 1))
      have hk1 := b2_le (gA g k)
      have hk2 := b2_le (gA g 0)
      have hlk : l0 k = if gA g k = gA g 0 then 0 else 1 := by rw [hl0]
      unfold b_X7_build_13 b0_X7_build_13 g_X7_build_41
      rw [← hup]
      by_cases q : gA g k = gA g 0
      · rw [if_pos q] at hlk
        rw [q] at a1
        simp (disch := omega) only [↓grd_u, ↓bnd_e, ↓orf_u, ↓oif_u, ↓cal_u, ↓calX_u, ↓inrO_u, ↓reduceIte, EM, EMg, EMs, z0, oi, n_inbT, n_cntT, n_ltT, n_ltF, n_leT, n_leF, n_eqT, n_eqF, n_m1T, n_m1F, n_m1F', n_cl, n_add, n_mul, ro_at, ro_ro, up_at, up_up, e1, e3, e4, a1, a2, hlk]
      · rw [if_neg q] at hlk
        have qn : b2 (gA g k) ≠ b2 (gA g 0) := fun z => q (by revert z; cases gA g k <;> cases gA g 0 <;> simp [b2])
        simp (disch := omega) only [↓grd_u, ↓bnd_e, ↓orf_u, ↓oif_u, ↓cal_u, ↓calX_u, ↓inrO_u, ↓reduceIte, EM, EMg, EMs, z0, oi, n_inbT, n_cntT, n_ltT, n_ltF, n_leT, n_leF, n_eqT, n_eqF, n_m1T, n_m1F, n_m1F', n_cl, n_add, n_mul, ro_at, ro_ro, up_at, up_up, e1, e3, e4, a1, a2, hlk]
    · have hA1' := hA1.symm
      have hb0 : ro A (b + 1) (pre (gL g) (fun k => nI (l0 k)) (A (b + 1))) b = A b := ro_ne _ _ (by omega)
      unfold b_X7_build_13 b0_X7_build_13
      simp (disch := omega) only [↓grd_u, ↓bnd_e, ↓orf_u, ↓oif_u, ↓cal_u, ↓calX_u, ↓inrO_u, ↓reduceIte, EM, EMg, EMs, z0, oi, n_inbT, n_cntT, n_ltT, n_ltF, n_leT, n_leF, n_eqT, n_eqF, n_m1T, n_m1F, n_m1F', n_cl, n_add, n_mul, ro_at, ro_ro, up_at, up_up, e1, e3, hb0]
      rw [hA1']
      simp (disch := omega) only [↓grd_u, ↓bnd_e, ↓orf_u, ↓oif_u, ↓cal_u, ↓calX_u, ↓inrO_u, ↓reduceIte, EM, EMg, EMs, z0, oi, n_inbT, n_cntT, n_ltT, n_ltF, n_leT, n_leF, n_eqT, n_eqF, n_m1T, n_m1F, n_m1F', n_cl, n_add, n_mul, ro_at, ro_ro, up_at, up_up, e]
  unfold f_X7_build
  simp (disch := omega) only [↓grd_u, ↓bnd_e, ↓orf_u, ↓oif_u, ↓cal_u, ↓calX_u, ↓inrO_u, ↓reduceIte, EM, EMg, EMs, z0, oi, n_inbT, n_cntT, n_ltT, n_ltF, n_leT, n_leF, n_eqT, n_eqF, n_m1T, n_m1F, n_m1F', n_cl, n_add, n_mul, ro_at, ro_ro, up_at, up_up, e4, hz, h13]
theorem c_sms (hb : bSm b) (hs : SmF A b g) : f_X7_size (ca n b) (E n h A M R) = some (nI (gMc g), E n h A M R) := by
  have e1 := ESm hb
  have e2 := ESmg hb
  have e0 := hs.1
  unfold f_X7_size
  simp (disch := omega) only [↓grd_u, ↓bnd_e, ↓orf_u, ↓oif_u, ↓cal_u, ↓calX_u, ↓inrO_u, ↓reduceIte, EM, EMg, EMs, z0, oi, n_inbT, n_cntT, n_ltT, n_ltF, n_leT, n_leF, n_eqT, n_eqF, n_m1T, n_m1F, n_m1F', n_cl, n_add, n_mul, ro_at, ro_ro, up_at, up_up, e1, e2, e0]
/-- both smallest automata are the same, number by number -/
def smEq (g g' : Glu) : Prop := gMc g = gMc g' ∧ (∀ q, q < gMc g → smA g q = smA g' q) ∧ (∀ q, q < gMc g → ∀ c, c < 3 → smT g q c = smT g' q c)
theorem smT_lt (ok : GluOK g) {q c : Nat} (hq : q < gMc g) (hc : c < 3) : smT g q c < 129 := by
  have h1 := gS_lt ok _ c (hOf_ok hq).1 hc
  have h2 := lab_lt (mr_eqv (gS g) (gA g) 200) h1
  have h3 := csn_le (hdR (gR g)) (gL g)
  have := gL_le ok
  show labR (mr (gS g) (gA g) 200) _ < 129
  unfold gR at h3
  omega
theorem c_equals (hb : bSm b) (hb' : bSm b') (ok : GluOK g) (ok' : GluOK g') (hs : SmF A b g) (hs' : SmF A b' g') : ∃ v, f_X7_equalsOther (ca n b) (ca n b') (E n h A M R) = some (nI v, E n h A M R) ∧ ((v = 1 ∧ smEq g g') ∨ (v = 0 ∧ ¬ smEq g g')) := by
  have e1 := ESm hb
  have e2 := ESmg hb
  have e1' := ESm hb'
  have e2' := ESmg hb'
  have hL := gL_le ok
  have hL' := gL_le ok'
  have m1 : gMc g ≤ gL g := csn_le _ _
  have m2 : gMc g' ≤ gL g' := csn_le _ _
  obtain ⟨s1, s2, s3⟩ := hs
  obtain ⟨t1, t2, t3⟩ := hs'
  unfold f_X7_equalsOther
  by_cases q : gMc g = gMc g'
  · have key : ∃ r, g_X7_equalsOther_15 (ca n b) (ca n b') (nI 0) (E n h A M R) = some r ∧ ∃ v, r = (nI v, E n h A M R) ∧ ((v = 1 ∧ smEq g g') ∨ (v = 0 ∧ ¬ smEq g g')) := by
      unfold g_X7_equalsOther_15
      refine lp_inv0 (f := b_X7_equalsOther_15 (ca n b) (ca n b')) (fun k s' => s' = (nI k, E n h A M R) ∧ ∀ p, p < k → smA g p = smA g' p) _ (gMc g) (fun k s' hk hI => ?_) (L := 100000) (by omega) ⟨rfl, fun p hp => absurd hp (Nat.not_lt_zero _)⟩
      obtain ⟨rfl, hn⟩ := hI
      unfold b_X7_equalsOther_15 b0_X7_equalsOther_15 g_X7_equalsOther_53
      by_cases hk2 : k < gMc g
      · have v1 := s2 k hk2
        have v2 := t2 k (by omega)
        have l1 := b2_le (smA g k)
        have l2 := b2_le (smA g' k)
        by_cases z : smA g k = smA g' k
        · rw [z] at v1
          refine Or.inl ⟨(nI (k + 1), E n h A M R), ?_, hk2, rfl, fun p hp => ?_⟩
          · simp (disch := omega) only [↓grd_u, ↓bnd_e, ↓orf_u, ↓oif_u, ↓cal_u, ↓calX_u, ↓inrO_u, ↓reduceIte, EM, EMg, EMs, z0, oi, n_inbT, n_cntT, n_ltT, n_ltF, n_leT, n_leF, n_eqT, n_eqF, n_m1T, n_m1F, n_m1F', n_cl, n_add, n_mul, ro_at, ro_ro, up_at, up_up, e1, e2, e1', e2', s1, v1, v2]
          · by_cases e : p = k
            · rw [e]; exact z
            · exact hn p (by omega)
        · have zn : b2 (smA g k) ≠ b2 (smA g' k) := fun w => z (by revert w; cases smA g k <;> cases smA g' k <;> simp [b2])
          refine Or.inr ⟨(nI 0, E n h A M R), ?_, 0, rfl, Or.inr ⟨rfl, fun w => z (w.2.1 k hk2)⟩⟩
          simp (disch := omega) only [↓grd_u, ↓bnd_e, ↓orf_u, ↓oif_u, ↓cal_u, ↓calX_u, ↓inrO_u, ↓reduceIte, EM, EMg, EMs, z0, oi, n_inbT, n_cntT, n_ltT, n_ltF, n_leT, n_leF, n_eqT, n_eqF, n_m1T, n_m1F, n_m1F', n_cl, n_add, n_mul, ro_at, ro_ro, up_at, up_up, e1, e2, e1', e2', s1, v1, v2]
      · have hke : k = gMc g := by omega
        have key2 : ∃ r, g_X7_equalsOther_55 (ca n b) (ca n b') (nI 0) (E n h A M R) = some r ∧ ∃ v, r = (nI v, E n h A M R) ∧ ((v = 1 ∧ smEq g g') ∨ (v = 0 ∧ ¬ smEq g g')) := by
          unfold g_X7_equalsOther_55
          refine lp_inv0 (f := b_X7_equalsOther_55 (ca n b) (ca n b')) (fun i s' => s' = (nI i, E n h A M R) ∧ ∀ p, p < i → smT g (p / 3) (p % 3) = smT g' (p / 3) (p % 3)) _ (3 * gMc g) (fun i s' hi hJ => ?_) (L := 100000) (by omega) ⟨rfl, fun p hp => absurd hp (Nat.not_lt_zero _)⟩
          obtain ⟨rfl, hm⟩ := hJ
          unfold b_X7_equalsOther_55 b0_X7_equalsOther_55 g_X7_equalsOther_97
          by_cases hi2 : i < 3 * gMc g
          · have v1 := s3 (i / 3) (by omega) (i % 3) (by omega)
            have v2 := t3 (i / 3) (by omega) (i % 3) (by omega)
            rw [show 3 * (i / 3) + i % 3 = i by omega] at v1 v2
            have l1 := smT_lt ok (q := i / 3) (c := i % 3) (by omega) (by omega)
            have l2 := smT_lt ok' (q := i / 3) (c := i % 3) (by omega) (by omega)
            by_cases z : smT g (i / 3) (i % 3) = smT g' (i / 3) (i % 3)
            · rw [z] at v1
              refine Or.inl ⟨(nI (i + 1), E n h A M R), ?_, hi2, rfl, fun p hp => ?_⟩
              · simp (disch := omega) only [↓grd_u, ↓bnd_e, ↓orf_u, ↓oif_u, ↓cal_u, ↓calX_u, ↓inrO_u, ↓reduceIte, EM, EMg, EMs, z0, oi, n_inbT, n_cntT, n_ltT, n_ltF, n_leT, n_leF, n_eqT, n_eqF, n_m1T, n_m1F, n_m1F', n_cl, n_add, n_mul, ro_at, ro_ro, up_at, up_up, e1, e2, e1', e2', s1, v1, v2]
              · by_cases e : p = i
                · rw [e]; exact z
                · exact hm p (by omega)
            · refine Or.inr ⟨(nI 0, E n h A M R), ?_, 0, rfl, Or.inr ⟨rfl, fun w => z (w.2.2 (i / 3) (by omega) (i % 3) (by omega))⟩⟩
              simp (disch := omega) only [↓grd_u, ↓bnd_e, ↓orf_u, ↓oif_u, ↓cal_u, ↓calX_u, ↓inrO_u, ↓reduceIte, EM, EMg, EMs, z0, oi, n_inbT, n_cntT, n_ltT, n_ltF, n_leT, n_leF, n_eqT, n_eqF, n_m1T, n_m1F, n_m1F', n_cl, n_add, n_mul, ro_at, ro_ro, up_at, up_up, e1, e2, e1', e2', s1, v1, v2]
          · refine Or.inr ⟨(nI 1, E n h A M R), ?_, 1, rfl, Or.inl ⟨rfl, q, fun p hp => hn p (by omega), fun p hp c hc => ?_⟩⟩
            · simp (disch := omega) only [↓grd_u, ↓bnd_e, ↓orf_u, ↓oif_u, ↓cal_u, ↓calX_u, ↓inrO_u, ↓reduceIte, EM, EMg, EMs, z0, oi, n_inbT, n_cntT, n_ltT, n_ltF, n_leT, n_leF, n_eqT, n_eqF, n_m1T, n_m1F, n_m1F', n_cl, n_add, n_mul, ro_at, ro_ro, up_at, up_up, e1, e2, s1]
            · have := hm (3 * p + c) (by omega)
              rwa [show (3 * p + c) / 3 = p by omega, show (3 * p + c) % 3 = c by omega] at this
        obtain ⟨r, e, v, rfl, hv⟩ := key2
        refine Or.inr ⟨(nI v, E n h A M R), ?_, v, rfl, hv⟩
        simp (disch := omega) only [↓grd_u, ↓bnd_e, ↓orf_u, ↓oif_u, ↓cal_u, ↓calX_u, ↓inrO_u, ↓reduceIte, EM, EMg, EMs, z0, oi, n_inbT, n_cntT, n_ltT, n_ltF, n_leT, n_leF, n_eqT, n_eqF, n_m1T, n_m1F, n_m1F', n_cl, n_add, n_mul, ro_at, ro_ro, up_at, up_up, e1, e2, s1, e]
    obtain ⟨r, e, v, rfl, hv⟩ := key
    refine ⟨v, ?_, hv⟩
    rw [q] at s1
    simp (disch := omega) only [↓grd_u, ↓bnd_e, ↓orf_u, ↓oif_u, ↓cal_u, ↓calX_u, ↓inrO_u, ↓reduceIte, EM, EMg, EMs, z0, oi, n_inbT, n_cntT, n_ltT, n_ltF, n_leT, n_leF, n_eqT, n_eqF, n_m1T, n_m1F, n_m1F', n_cl, n_add, n_mul, ro_at, ro_ro, up_at, up_up, e1, e2, e1', e2', s1, t1, e]
  · refine ⟨0, ?_, Or.inr ⟨rfl, fun w => q w.1⟩⟩
    simp (disch := omega) only [↓grd_u, ↓bnd_e, ↓orf_u, ↓oif_u, ↓cal_u, ↓calX_u, ↓inrO_u, ↓reduceIte, EM, EMg, EMs, z0, oi, n_inbT, n_cntT, n_ltT, n_ltF, n_leT, n_leF, n_eqT, n_eqF, n_m1T, n_m1F, n_m1F', n_cl, n_add, n_mul, ro_at, ro_ro, up_at, up_up, e1, e2, e1', e2', s1, t1]
theorem bSm_1 : bSm 78 := Or.inl rfl
theorem bSm_2 : bSm 84 := Or.inr rfl
theorem c_smallSize {s : Nat} (hg : GoodS S) (hs : s < 6) (hp : lP (sCur S) s ≠ []) (ha : Pat n h a (lP (sCur S) s)) : ∃ A', f_X11_smallestSize (ca n 0) a (E n h A M R) = some (nI (gMc (gluOf (lP (sCur S) s))), E n h A' M R) ∧ (∀ r, r < 44 → A' r = A r) ∧ A' 96 = A 96 := by
  have e1 := EAu bAu_1
  have e2 := ESm bSm_1
  obtain ⟨A1, eb, au, f⟩ := c_bld (A := A) (M := M) (R := R) bAu_1 hg hs hp ha
  obtain ⟨A2, es, sm, f2⟩ := c_sbuild (n := n) (h := h) (M := M) (R := R) bSm_1 bAu_1 (good_glu hg hs hp) au
  have ez := c_sms (n := n) (h := h) (M := M) (R := R) bSm_1 sm
  refine ⟨A2, ?_, fun r hr => (f2 r (by omega)).trans (f r (by omega)), (f2 96 (by omega)).trans (f 96 (by omega))⟩
  unfold f_X11_smallestSize
  simp (disch := omega) only [↓grd_u, ↓bnd_e, ↓orf_u, ↓oif_u, ↓cal_u, ↓calX_u, ↓inrO_u, ↓reduceIte, EM, EMg, EMs, z0, oi, n_inbT, n_cntT, n_ltT, n_ltF, n_leT, n_leF, n_eqT, n_eqF, n_m1T, n_m1F, n_m1F', n_cl, n_add, n_mul, ro_at, ro_ro, up_at, up_up, EC, e1, eb, e2, es, ez]
theorem c_smallestCount {v : Int32} (hi : IC n h A R S) (hg : GoodS S) : CA n M (f_X11_smallestCount (ca n 0) v (E n h A M R)) exN (aCnt S v gMc) := by
  unfold aCnt
  rcases pat_cases S v with ⟨s, hs, rfl, hp, e⟩ | ⟨e, hc⟩
  · rw [e]
    obtain ⟨a, ep, ha⟩ := c_patT (M := M) hi hs hp
    obtain ⟨A', es, f, -⟩ := c_smallSize (A := A) (M := M) (R := R) hg hs hp ha
    refine CA_ok hi (MonoS_rf n h) f ?_
    unfold f_X11_smallestCount
    simp (disch := omega) only [↓grd_u, ↓bnd_e, ↓orf_u, ↓oif_u, ↓cal_u, ↓calX_u, ↓inrO_u, ↓reduceIte, EM, EMg, EMs, z0, oi, n_inbT, n_cntT, n_ltT, n_ltF, n_leT, n_leF, n_eqT, n_eqF, n_m1T, n_m1F, n_m1F', n_cl, n_add, n_mul, ro_at, ro_ro, up_at, up_up, EC, ep, es]
  · rw [e]
    refine CA_no hi (by decide) ?_
    unfold f_X11_smallestCount
    simp (disch := omega) only [↓grd_u, ↓bnd_e, ↓orf_u, ↓oif_u, ↓cal_u, ↓calX_u, ↓inrO_u, ↓reduceIte, EM, EMg, EMs, z0, oi, n_inbT, n_cntT, n_ltT, n_ltF, n_leT, n_leF, n_eqT, n_eqF, n_m1T, n_m1F, n_m1F', n_cl, n_add, n_mul, ro_at, ro_ro, up_at, up_up, EC, c_patF hi hc]
    rfl
end CSMALLB
