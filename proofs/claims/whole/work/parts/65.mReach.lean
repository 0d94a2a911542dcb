/-! the reference: states found level by level -/
theorem ng1 : (Int32.ofInt (-1) < nI 0) = True := eq_true (by decide +kernel)
def gB (g : Glu) : bst := brun (gnext g) 128 387
def gL (g : Glu) : Nat := (gB g).2.2
def gO (g : Glu) (j : Nat) : Nat := (gB g).1 j
def gS (g : Glu) (j c : Nat) : Nat := lf (fun i => decide (gO g i = gnext g (gO g j) c)) (gL g)
def gA (g : Glu) (j : Nat) : Bool := gab g (gO g j)
section GB
variable {g : Glu}
theorem gB_nx (hg : GluOK g) : ∀ q c, q < 129 → c < 3 → gnext g q c < 129 := fun q c _ _ => by have := gnext_lt hg q c; omega
theorem gB_lt (hg : GluOK g) (u j : Nat) : (brun (gnext g) 128 u).1 j < 129 := brun_lt (by decide) (gB_nx hg) u j
theorem gB_le (hg : GluOK g) (u : Nat) : (brun (gnext g) 128 u).2.2 ≤ 129 := brun_le (by decide) (gB_nx hg) u
theorem gL_le (hg : GluOK g) : gL g ≤ 129 := by
  unfold gL gB
  exact gB_le hg 387
theorem gB_Bf (g : Glu) : Bf (gnext g) 128 (gB g) 387 := by
  unfold gB
  exact Bf_all _ _ _
theorem gL_pos (g : Glu) : 1 ≤ gL g := (gB_Bf g).1
theorem gB_end (hg : GluOK g) {u : Nat} (h : 3 * (brun (gnext g) 128 u).2.2 ≤ u) : brun (gnext g) 128 u = gB g := by
  have a := brun_done h 387
  have b := brun_done (nx := gnext g) (r := 128) (u := 387) (by have := gB_le hg 387; omega) u
  rw [Nat.add_comm u 387] at a
  unfold gB
  rw [← b, ← a]
theorem gO_lt (hg : GluOK g) (j : Nat) : gO g j < 129 := by
  unfold gO gB
  exact gB_lt hg 387 j
theorem gO_0 (g : Glu) : gO g 0 = 128 := (gB_Bf g).2.1
theorem gO_inj (g : Glu) {i j : Nat} (hi : i < gL g) (hj : j < gL g) (h : gO g i = gO g j) : i = j := (gB_Bf g).2.2.2.1 i j hi hj h
theorem gS_ok (hg : GluOK g) {j c : Nat} (hj : j < gL g) (hc : c < 3) : gS g j c < gL g ∧ gO g (gS g j c) = gnext g (gO g j) c := by
  have hl := gL_le hg
  obtain ⟨i, h1, h2, -⟩ := (gB_Bf g).2.2.2.2.2.2.1 (3 * j + c) (by omega) (by have : j < (gB g).2.2 := hj; omega)
  rw [show (3 * j + c) / 3 = j by omega, show (3 * j + c) % 3 = c by omega] at h2
  have hi : i < gL g := h1
  have ht : decide (gO g i = gnext g (gO g j) c) = true := decide_eq_true h2
  have hle : gS g j c ≤ i := lf_ge (P := fun i => decide (gO g i = gnext g (gO g j) c)) ht
  have hlt : gS g j c < gL g := by omega
  exact ⟨hlt, of_decide_eq_true (lf_T (fun i => decide (gO g i = gnext g (gO g j) c)) (gL g) hlt)⟩
theorem gS_is (hg : GluOK g) {j c i : Nat} (hj : j < gL g) (hc : c < 3) (hi : i < gL g) (h : gO g i = gnext g (gO g j) c) : gS g j c = i := gO_inj g (gS_ok hg hj hc).1 hi ((gS_ok hg hj hc).2.trans h.symm)
theorem gS_lt (hg : GluOK g) : ∀ i c, i < gL g → c < 3 → gS g i c < gL g := fun i c hi hc => (gS_ok hg hi hc).1
end GB
def RI (M : Nat → Nat → Int32) (sd : Nat) (s : bst) : Prop := M 0 36 = nI s.2.2 ∧ (∀ j, j < s.2.2 → M 18 (129 * sd + j) = nI (s.1 j)) ∧ (∀ j, j < s.2.2 → M 19 (129 * sd + s.1 j) = nI j) ∧ (∀ x, x < 129 → bin s.1 s.2.2 x = false → M 19 (129 * sd + x) = Int32.ofInt (-1))
def FrR (sd : Nat) (M M' : Nat → Nat → Int32) : Prop := Fr [18, 19, 20] [36] M M' ∧ (∀ j, j < 129 * sd ∨ 129 * sd + 129 ≤ j → M' 18 j = M 18 j ∧ M' 19 j = M 19 j) ∧ (∀ j, j ≠ sd → M' 20 j = M 20 j)
theorem FrR_rf (sd : Nat) (M : Nat → Nat → Int32) : FrR sd M M := ⟨Fr_rf _ _ _, fun _ _ => ⟨rfl, rfl⟩, fun _ _ => rfl⟩
theorem FrR_tr {sd : Nat} {M M' M'' : Nat → Nat → Int32} (h : FrR sd M M') (h' : FrR sd M' M'') : FrR sd M M'' := ⟨Fr_tr h.1 h'.1, fun j hj => ⟨(h'.2.1 j hj).1.trans (h.2.1 j hj).1, (h'.2.1 j hj).2.trans (h.2.1 j hj).2⟩, fun j hj => (h'.2.2 j hj).trans (h.2.2 j hj)⟩
section MREACH
variable {n : Nat} {h : mH} {A M : Nat → Nat → Int32} {R : Nat → Nat → Option Nat} {S : St}
theorem m_rvis {sd k c : Nat} {g : Glu} (hs : sd < 2) (hg : GluOK g) (ha : AutM M sd g) (hi : RI M sd (brun (gnext g) 128 (3 * k + c))) (hk : k < (brun (gnext g) 128 (3 * k + c)).2.2) (hc : c < 3) :
    ∃ M', b_X12_reaches_68 (ma n 0) (nI sd) (nI (129 * sd)) (nI k) (nI c, E n h A M R) = some (.inl (nI (c + 1), E n h A M' R)) ∧ RI M' sd (brun (gnext g) 128 (3 * k + c + 1)) ∧ FrR sd M M' := by
  obtain ⟨s, hse⟩ : ∃ s, s = brun (gnext g) 128 (3 * k + c) := ⟨_, rfl⟩
  have hB := Bf_all (gnext g) 128 (3 * k + c)
  have hL := gB_le hg (3 * k + c)
  have hL2 := gB_le hg (3 * k + c + 1)
  have hlt := fun j => gB_lt hg (3 * k + c) j
  rw [show brun (gnext g) 128 (3 * k + c + 1) = bvis (gnext g) (brun (gnext g) 128 (3 * k + c)) (3 * k + c) from rfl] at hL2 ⊢
  rw [← hse] at hi hk hB hL hL2 hlt ⊢
  obtain ⟨o, pr, L⟩ := s
  obtain ⟨i1, i2, i3, i4⟩ := hi
  dsimp only at i1 i2 i3 i4 hk hL hlt
  unfold bvis at hL2 ⊢
  dsimp only at hL2 ⊢
  rw [show (3 * k + c) / 3 = k by omega, show (3 * k + c) % 3 = c by omega] at hL2 ⊢
  have hq := hlt k
  have e1 := i2 k hk
  have ht := m_to (n := n) (h := h) (A := A) (R := R) ha hs hq hc
  obtain ⟨t, hte⟩ : ∃ t, t = gnext g (o k) c := ⟨_, rfl⟩
  have tl : t < 128 := by rw [hte]; exact gnext_lt hg _ _
  rw [← hte] at ht hL2 ⊢
  unfold b_X12_reaches_68 b0_X12_reaches_68 g_X12_reaches_142
  by_cases hb : bin o L t = true
  · rw [if_pos hb]
    obtain ⟨j, hj, hjt⟩ := bin_iff.mp hb
    have e2 := i3 j hj
    rw [hjt] at e2
    refine ⟨M, ?_, ⟨i1, i2, i3, i4⟩, FrR_rf _ _⟩
    simp (disch := omega) only [↓grd_u, ↓bnd_e, ↓orf_u, ↓oif_u, ↓cal_u, ↓calX_u, ↓inrO_u, ↓reduceIte, EM, EMg, EMs, z0, oi, n_inbT, n_cntT, n_ltT, n_ltF, n_leT, n_leF, n_eqT, n_eqF, n_m1T, n_m1F, n_m1F', n_cl, n_add, n_mul, ro_at, ro_ro, up_at, up_up, e1, ht, e2]
  · have hb' : bin o L t = false := by cases z : bin o L t with
      | false => rfl
      | true => exact absurd z hb
    rw [if_neg hb] at hL2 ⊢
    have e2 := i4 t (by omega) hb'
    dsimp only at hL2 ⊢
    have hne : ∀ j, j < L → o j ≠ t := fun j hj q => hb (bin_iff.mpr ⟨j, hj, q⟩)
    refine ⟨ro (ro (ro M 19 (up (M 19) (129 * sd + t) (nI L))) 18 (up (M 18) (129 * sd + L) (nI t))) 0 (up (M 0) 36 (nI (L + 1))), ?_, ⟨?_, fun j hj => ?_, fun j hj => ?_, fun x hx hbx => ?_⟩, ⟨fun r h0 hr => ?_, fun q hq => ?_⟩, fun j hj => ⟨?_, ?_⟩, fun j _ => ?_⟩
    · simp (disch := omega) only [↓grd_u, ↓bnd_e, ↓orf_u, ↓oif_u, ↓cal_u, ↓calX_u, ↓inrO_u, ↓reduceIte, EM, EMg, EMs, z0, oi, n_inbT, n_cntT, n_ltT, n_ltF, n_leT, n_leF, n_eqT, n_eqF, n_m1T, n_m1F, n_m1F', n_cl, n_add, n_mul, ro_at, ro_ro, up_at, up_up, ro_ne, up_ne, ro_sw, e1, ht, e2, ng1, i1]
    · rw [ro_at, up_at]
    · have hj : j < L + 1 := hj
      rw [ro_ne _ _ (by decide), ro_at]
      show up _ _ _ _ = nI (up o L t j)
      by_cases e : j = L
      · rw [e, up_at, up_at]
      · rw [up_ne _ _ (by omega), up_ne _ _ e]
        exact i2 j (by omega)
    · have hj : j < L + 1 := hj
      rw [ro_ne _ _ (by decide), ro_ne _ _ (by decide), ro_at]
      show up _ _ _ (129 * sd + up o L t j) = nI j
      by_cases e : j = L
      · rw [e, up_at, up_at]
      · have := hne j (by omega)
        rw [up_ne _ _ e, up_ne _ _ (by omega)]
        exact i3 j (by omega)
    · rw [ro_ne _ _ (by decide), ro_ne _ _ (by decide), ro_at]
      have hbx : bin (up o L t) (L + 1) x = false := hbx
      have hxt : x ≠ t := fun e => by
        rw [show bin (up o L t) (L + 1) x = true from bin_iff.mpr ⟨L, by omega, by rw [up_at, e]⟩] at hbx
        cases hbx
      rw [up_ne _ _ (by omega)]
      refine i4 x hx ?_
      cases z : bin o L x with
      | false => rfl
      | true =>
        obtain ⟨j, hj, e⟩ := bin_iff.mp z
        rw [show bin (up o L t) (L + 1) x = true from bin_iff.mpr ⟨j, by omega, by rw [up_ne _ _ (by omega), e]⟩] at hbx
        cases hbx
    · simp only [List.mem_cons, List.not_mem_nil, or_false, not_or] at hr
      rw [ro_ne _ _ h0, ro_ne _ _ hr.1, ro_ne _ _ hr.2.1]
    · rw [ro_at, up_ne _ _ (fun e => hq (by rw [e]; simp))]
    · rw [ro_ne _ _ (by decide), ro_at, up_ne _ _ (by omega)]
    · rw [ro_ne _ _ (by decide), ro_ne _ _ (by decide), ro_at, up_ne _ _ (by omega)]
    · rw [ro_ne _ _ (by decide), ro_ne _ _ (by decide), ro_ne _ _ (by decide)]
theorem AutM_R {M' : Nat → Nat → Int32} {sd so : Nat} {g : Glu} (h : AutM M so g) (hf : FrR sd M M') : AutM M' so g := AutM_keep h hf.1 (by decide)
theorem m_rin {sd k : Nat} {g : Glu} (hs : sd < 2) (hg : GluOK g) (ha : AutM M sd g) (hi : RI M sd (brun (gnext g) 128 (3 * k))) (hk : k < (brun (gnext g) 128 (3 * k)).2.2) :
    ∃ M', g_X12_reaches_68 (ma n 0) (nI sd) (nI (129 * sd)) (nI k) (nI 0) (E n h A M R) = some (.inl (nI (k + 1), E n h A M' R)) ∧ RI M' sd (brun (gnext g) 128 (3 * (k + 1))) ∧ FrR sd M M' := by
  obtain ⟨M1, a1, a2, a3⟩ := m_rvis (n := n) (h := h) (A := A) (R := R) (c := 0) hs hg ha hi hk (by decide)
  have k1 := (brun_pre (gnext g) 128 (3 * k) 1).1
  have k2 := (brun_pre (gnext g) 128 (3 * k) 2).1
  obtain ⟨M2, b1, b2, b3⟩ := m_rvis (n := n) (h := h) (A := A) (R := R) (k := k) (c := 1) hs hg (AutM_R ha a3) a2 (by omega) (by decide)
  obtain ⟨M3, c1, c2, c3⟩ := m_rvis (n := n) (h := h) (A := A) (R := R) (k := k) (c := 2) hs hg (AutM_R (AutM_R ha a3) b3) b2 (by omega) (by decide)
  refine ⟨M3, ?_, c2, FrR_tr a3 (FrR_tr b3 c3)⟩
  unfold g_X12_reaches_68
  show lp _ (99996 + 1 + 1 + 1 + 1) _ = _
  unfold lp
  rw [a1]
  dsimp only
  unfold lp
  rw [b1]
  dsimp only
  unfold lp
  rw [c1]
  dsimp only
  unfold lp b_X12_reaches_68 b0_X12_reaches_68
  simp (disch := omega) only [↓grd_u, ↓bnd_e, ↓orf_u, ↓oif_u, ↓cal_u, ↓calX_u, ↓inrO_u, ↓reduceIte, EM, EMg, EMs, z0, oi, n_inbT, n_cntT, n_ltT, n_ltF, n_leT, n_leF, n_eqT, n_eqF, n_m1T, n_m1F, n_m1F', n_cl, n_add, n_mul, ro_at, ro_ro, up_at, up_up]
theorem m_reaches {sd : Nat} {g : Glu} (hs : sd < 2) (hg : GluOK g) (ha : AutM M sd g) : ∃ M', f_X12_reaches (ma n 0) (nI sd) (E n h A M R) = some ((), E n h A M' R) ∧ RI M' sd (gB g) ∧ FrR sd M M' ∧ M' 20 sd = nI (gL g) := by
  -- the rows emptied
  obtain ⟨M1, hM1⟩ : ∃ M1, M1 = ro M 19 (blk (M 19) (129 * sd) 129 (fun _ => Int32.ofInt (-1))) := ⟨_, rfl⟩
  obtain ⟨M2, hM2⟩ : ∃ M2, M2 = ro (ro (ro M1 18 (up (M1 18) (129 * sd) (nI 128))) 19 (up (M1 19) (129 * sd + 128) (nI 0))) 0 (up (M1 0) 36 (nI 1)) := ⟨_, rfl⟩
  have f2 : FrR sd M M2 := by
    rw [hM2, hM1]
    refine ⟨⟨fun r h0 hr => ?_, fun q hq => ?_⟩, fun j hj => ⟨?_, ?_⟩, fun j _ => ?_⟩
    · simp only [List.mem_cons, List.not_mem_nil, or_false, not_or] at hr
      rw [ro_ne _ _ h0, ro_ne _ _ hr.2.1, ro_ne _ _ hr.1, ro_ne _ _ hr.2.1]
    · rw [ro_at, up_ne _ _ (fun e => hq (by rw [e]; simp)), ro_ne _ _ (by decide)]
    · rw [ro_ne _ _ (by decide), ro_ne _ _ (by decide), ro_at, up_ne _ _ (by omega), ro_ne _ _ (by decide)]
    · rw [ro_ne _ _ (by decide), ro_at, up_ne _ _ (by omega), ro_at, blk_out _ _ _ _ (by omega)]
    · rw [ro_ne _ _ (by decide), ro_ne _ _ (by decide), ro_ne _ _ (by decide), ro_ne _ _ (by decide)]
  have r2 : RI M2 sd (brun (gnext g) 128 0) := by
    rw [hM2, hM1]
    refine ⟨by rw [ro_at, up_at]; rfl, fun j hj => ?_, fun j hj => ?_, fun x hx hb => ?_⟩
    · have hj : j < 1 := hj
      have : j = 0 := by omega
      subst this
      rw [ro_ne _ _ (by decide), ro_ne _ _ (by decide), ro_at, Nat.add_zero, up_at]
      rfl
    · have hj : j < 1 := hj
      have : j = 0 := by omega
      subst this
      rw [ro_ne _ _ (by decide), ro_at]
      show up _ _ _ (129 * sd + 128) = _
      rw [up_at]
    · have hx8 : x ≠ 128 := fun e => by
        rw [show bin (brun (gnext g) 128 0).1 (brun (gnext g) 128 0).2.2 x = true from bin_iff.mpr ⟨0, by show 0 < 1; decide, by rw [e]; rfl⟩] at hb
        cases hb
      rw [ro_ne _ _ (by decide), ro_at, up_ne _ _ (by omega), ro_at, blk_at _ _ _ hx]
  have au2 := AutM_R ha f2
  have key : ∃ r, g_X12_reaches_57 (ma n 0) (nI sd) (nI (129 * sd)) (nI 0) (E n h A M2 R) = some r ∧ ∃ M', r = ((), E n h A M' R) ∧ RI M' sd (gB g) ∧ FrR sd M M' ∧ M' 20 sd = nI (gL g) := by
    unfold g_X12_reaches_57
    refine lp_inv0 (f := b_X12_reaches_57 (ma n 0) (nI sd) (nI (129 * sd))) (fun k s' => k ≤ (brun (gnext g) 128 (3 * k)).2.2 ∧ ∃ M', s' = (nI k, E n h A M' R) ∧ RI M' sd (brun (gnext g) 128 (3 * k)) ∧ FrR sd M M') _ 129 (fun k s' hk hI => ?_) (L := 100000) (by decide) ⟨Nat.zero_le _, M2, rfl, r2, f2⟩
    obtain ⟨hkl, M3, rfl, r3, f3⟩ := hI
    have au3 := AutM_R ha f3
    have hL := gB_le hg (3 * k)
    have e0 := r3.1
    unfold b_X12_reaches_57 b0_X12_reaches_57
    by_cases hk2 : k < (brun (gnext g) 128 (3 * k)).2.2
    · obtain ⟨M4, e4, r4, f4⟩ := m_rin (n := n) (h := h) (A := A) (R := R) hs hg au3 r3 hk2
      have hp := (brun_pre (gnext g) 128 (3 * k) 3).1
      refine Or.inl ⟨(nI (k + 1), E n h A M4 R), ?_, by omega, ?_, M4, rfl, r4, FrR_tr f3 f4⟩
      · simp (disch := omega) only [↓grd_u, ↓bnd_e, ↓orf_u, ↓oif_u, ↓cal_u, ↓calX_u, ↓inrO_u, ↓reduceIte, EM, EMg, EMs, z0, oi, n_inbT, n_cntT, n_ltT, n_ltF, n_leT, n_leF, n_eqT, n_eqF, n_m1T, n_m1F, n_m1F', n_cl, n_add, n_mul, ro_at, ro_ro, up_at, up_up, e0, e4]
      · rw [show 3 * (k + 1) = 3 * k + 3 by omega]; omega
    · have hke : k = (brun (gnext g) 128 (3 * k)).2.2 := by omega
      have hend : brun (gnext g) 128 (3 * k) = gB g := gB_end hg (by omega)
      rw [hend] at r3 e0 hke
      refine Or.inr ⟨((), E n h A (ro M3 20 (up (M3 20) sd (nI (gL g)))) R), ?_, _, rfl, ⟨?_, fun j hj => ?_, fun j hj => ?_, fun x hx hb => ?_⟩, FrR_tr f3 ⟨⟨fun r h0 hr => ?_, fun q hq => ?_⟩, fun j hj => ⟨?_, ?_⟩, fun j hj => ?_⟩, ?_⟩
      · have e9 : M3 0 36 = nI (gL g) := e0
        have e8 : k = gL g := hke
        simp (disch := omega) only [↓grd_u, ↓bnd_e, ↓orf_u, ↓oif_u, ↓cal_u, ↓calX_u, ↓inrO_u, ↓reduceIte, EM, EMg, EMs, z0, oi, n_inbT, n_cntT, n_ltT, n_ltF, n_leT, n_leF, n_eqT, n_eqF, n_m1T, n_m1F, n_m1F', n_cl, n_add, n_mul, ro_at, ro_ro, up_at, up_up, e9]
      · rw [ro_ne _ _ (by decide)]; exact e0
      · rw [ro_ne _ _ (by decide)]; exact r3.2.1 j hj
      · rw [ro_ne _ _ (by decide)]; exact r3.2.2.1 j hj
      · rw [ro_ne _ _ (by decide)]; exact r3.2.2.2 x hx hb
      · rw [ro_ne _ _ (fun e => hr (by rw [e]; simp))]
      · rw [ro_ne _ _ (by decide)]
      · rw [ro_ne _ _ (by decide)]
      · rw [ro_ne _ _ (by decide)]
      · rw [ro_at, up_ne _ _ hj]
      · rw [ro_at, up_at]
  obtain ⟨r, e, M', rfl, q1, q2, q3⟩ := key
  refine ⟨M', ?_, q1, q2, q3⟩
  unfold f_X12_reaches g_X12_reaches_8
  simp (disch := omega) only [↓grd_u, ↓bnd_e, ↓orf_u, ↓oif_u, ↓cal_u, ↓calX_u, ↓inrO_u, ↓reduceIte, EM, EMg, EMs, z0, oi, n_inbT, n_cntT, n_ltT, n_ltF, n_leT, n_leF, n_eqT, n_eqF, n_m1T, n_m1F, n_m1F', n_cl, n_add, n_mul, ro_at, ro_ro, up_at, up_up]
  have hl := lp_for0 (f := b_X12_reaches_8 (ma n 0) (nI sd) (nI (129 * sd))) (fun k => (nI k, E n h A (ro M 19 (blk (M 19) (129 * sd) k (fun _ => Int32.ofInt (-1)))) R)) 129 ((), E n h A M' R) (fun k hk => ?_) ?_ (L := 100000) (by decide)
  · simp only [blk_0, ro_self] at hl
    exact hl
  · unfold b_X12_reaches_8 b0_X12_reaches_8
    simp (disch := omega) only [↓grd_u, ↓bnd_e, ↓orf_u, ↓oif_u, ↓cal_u, ↓calX_u, ↓inrO_u, ↓reduceIte, EM, EMg, EMs, z0, oi, n_inbT, n_cntT, n_ltT, n_ltF, n_leT, n_leF, n_eqT, n_eqF, n_m1T, n_m1F, n_m1F', n_cl, n_add, n_mul, ro_at, ro_ro, up_at, up_up, ro_ne, up_ne, ro_sw]
    have e := blk_up (M 19) (129 * sd) k (fun _ => Int32.ofInt (-1))
    rw [e]
  · unfold b_X12_reaches_8 b0_X12_reaches_8
    rw [← hM1]
    have hM2' : ro (ro (ro M1 18 (up (M1 18) (129 * sd) (nI 128))) 19 (up (M1 19) (129 * sd + 128) (nI 0))) 0 (up (M1 0) 36 (nI 1)) = M2 := hM2.symm
    simp (disch := omega) only [↓grd_u, ↓bnd_e, ↓orf_u, ↓oif_u, ↓cal_u, ↓calX_u, ↓inrO_u, ↓reduceIte, EM, EMg, EMs, z0, oi, n_inbT, n_cntT, n_ltT, n_ltF, n_leT, n_leF, n_eqT, n_eqF, n_m1T, n_m1F, n_m1F', n_cl, n_add, n_mul, ro_at, ro_ro, up_at, up_up, ro_ne, hM2', e]
/-- a slot's automaton with its states -/
theorem m_opens {s : Nat} (hi : IM M S) (hg : GoodS S) (hs : s < 6) (hp : lP (sCur S) s ≠ []) : ∃ M', f_X12_opens (ma n 0) (nI s) (E n h A M R) = some ((), E n h A M' R) ∧ AutM M' 0 (gluOf (lP (sCur S) s)) ∧ RI M' 0 (gB (gluOf (lP (sCur S) s))) ∧ IM M' S ∧ M' 0 0 = M 0 0 ∧ Fr [15, 16, 17, 10, 11, 13, 12, 14, 9, 18, 19, 20] [29, 36] M M' := by
  obtain ⟨M1, eb, au, f, i, t⟩ := m_bld (n := n) (h := h) (A := A) (R := R) hi hg hs hp
  obtain ⟨M2, er, ri, fr, -⟩ := m_reaches (n := n) (h := h) (A := A) (R := R) (by decide : 0 < 2) (good_glu hg hs hp) au
  refine ⟨M2, ?_, AutM_R au fr, ri, IM_fr i fr.1 (by decide) (by decide), by rw [fr.1.2 _ (by decide), t], Fr_tr (Fr_wk f.1 (by decide) (by decide)) (Fr_wk fr.1 (by decide) (by decide))⟩
  unfold f_X12_opens
  simp (disch := omega) only [↓grd_u, ↓bnd_e, ↓orf_u, ↓oif_u, ↓cal_u, ↓calX_u, ↓inrO_u, ↓reduceIte, EM, EMg, EMs, z0, oi, n_inbT, n_cntT, n_ltT, n_ltF, n_leT, n_leF, n_eqT, n_eqF, n_m1T, n_m1F, n_m1F', n_cl, n_add, n_mul, ro_at, ro_ro, up_at, up_up, eb]
  simp (disch := omega) only [↓grd_u, ↓bnd_e, ↓orf_u, ↓oif_u, ↓cal_u, ↓calX_u, ↓inrO_u, ↓reduceIte, EM, EMg, EMs, z0, oi, n_inbT, n_cntT, n_ltT, n_ltF, n_leT, n_leF, n_eqT, n_eqF, n_m1T, n_m1F, n_m1F', n_cl, n_add, n_mul, ro_at, ro_ro, up_at, up_up, er]
end MREACH
