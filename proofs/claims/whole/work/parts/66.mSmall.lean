/-! the reference: counts of states, the smallest automaton -/
theorem mr_cm (s : Nat → Nat → Nat) (ac : Nat → Bool) (k i j : Nat) : mr s ac k i j = mr s ac k j i := by
  cases z : mr s ac k i j with
  | true => exact (mr_sy k z).symm
  | false =>
    cases w : mr s ac k j i with
    | false => rfl
    | true => rw [mr_sy k w] at z; cases z
def aCnt (S : St) (v : Int32) (f : Glu → Nat) : Nat × Nat × St := match patN S v with
  | some s => (0, f (gluOf (lP (sCur S) s)), S)
  | none => (1, 0, S)
def gCs (g : Glu) (k : Nat) : Nat := cs (gA g) k
def gMc (g : Glu) : Nat := mcF (gS g) (gA g) (gL g)
section MSMALL
variable {n : Nat} {h : mH} {A M : Nat → Nat → Int32} {R : Nat → Nat → Option Nat} {S : St}
theorem ri_o {g : Glu} (h : RI M 0 (gB g)) {j : Nat} (hj : j < gL g) : M 18 j = nI (gO g j) := by
  have := h.2.1 j hj
  rwa [show 129 * 0 + j = j by omega] at this
theorem ri_p {g : Glu} (h : RI M 0 (gB g)) {j : Nat} (hj : j < gL g) : M 19 (gO g j) = nI j := by
  have := h.2.2.1 j hj
  rwa [show 129 * 0 + (gB g).1 j = gO g j by unfold gO; omega] at this
theorem ri_n {g : Glu} (h : RI M 0 (gB g)) : M 0 36 = nI (gL g) := h.1
theorem m_stateCount {v : Int32} (hi : IM M S) (hg : GoodS S) : MA n h A R (f_X12_stateCount (ma n 0) v (E n h A M R)) (aCnt S v gL) := by
  have h0 : IM (ro M 0 (up (M 0) 0 (nI 0))) S := IM_thrown hi
  unfold f_X12_stateCount aCnt
  rcases pat_cases S v with ⟨s, hs, rfl, hp, e⟩ | ⟨e, hc⟩
  · rw [e]
    obtain ⟨M', eo, au, ri, i, t, -⟩ := m_opens (n := n) (h := h) (A := A) (R := R) h0 hg hs hp
    have e1 := ri_n ri
    refine ⟨M', ?_, i, by rw [t, ro_at, up_at]⟩
    simp (disch := omega) only [↓grd_u, ↓bnd_e, ↓orf_u, ↓oif_u, ↓cal_u, ↓calX_u, ↓inrO_u, ↓reduceIte, EM, EMg, EMs, z0, oi, n_inbT, n_cntT, n_ltT, n_ltF, n_leT, n_leF, n_eqT, n_eqF, n_m1T, n_m1F, n_m1F', n_cl, n_add, n_mul, ro_at, ro_ro, up_at, up_up, holdsT h0 hg hs hp]
    simp (disch := omega) only [↓grd_u, ↓bnd_e, ↓orf_u, ↓oif_u, ↓cal_u, ↓calX_u, ↓inrO_u, ↓reduceIte, EM, EMg, EMs, z0, oi, n_inbT, n_cntT, n_ltT, n_ltF, n_leT, n_leF, n_eqT, n_eqF, n_m1T, n_m1F, n_m1F', n_cl, n_add, n_mul, ro_at, ro_ro, up_at, up_up, eo, e1]
  · have hh := m_holdsX (n := n) (h := h) (A := A) (R := R) h0 e hc
    rw [e]
    obtain ⟨M', e, i, t⟩ := m_failed (n := n) (h := h) (A := A) (R := R) (k := 1) h0
    refine ⟨M', ?_, i, t⟩
    simp (disch := omega) only [↓grd_u, ↓bnd_e, ↓orf_u, ↓oif_u, ↓cal_u, ↓calX_u, ↓inrO_u, ↓reduceIte, EM, EMg, EMs, z0, oi, n_inbT, n_cntT, n_ltT, n_ltF, n_leT, n_leF, n_eqT, n_eqF, n_m1T, n_m1F, n_m1F', n_cl, n_add, n_mul, ro_at, ro_ro, up_at, up_up, hh]
    simp (disch := omega) only [↓grd_u, ↓bnd_e, ↓orf_u, ↓oif_u, ↓cal_u, ↓calX_u, ↓inrO_u, ↓reduceIte, EM, EMg, EMs, z0, oi, n_inbT, n_cntT, n_ltT, n_ltF, n_leT, n_leF, n_eqT, n_eqF, n_m1T, n_m1F, n_m1F', n_cl, n_add, n_mul, ro_at, ro_ro, up_at, up_up, e]
theorem gCs_s (g : Glu) (k : Nat) : gCs g (k + 1) = gCs g k + b2 (gA g k) := rfl
theorem m_acceptingCount {v : Int32} (hi : IM M S) (hg : GoodS S) : MA n h A R (f_X12_acceptingCount (ma n 0) v (E n h A M R)) (aCnt S v (fun g => gCs g (gL g))) := by
  have h0 : IM (ro M 0 (up (M 0) 0 (nI 0))) S := IM_thrown hi
  unfold f_X12_acceptingCount aCnt
  rcases pat_cases S v with ⟨s, hs, rfl, hp, e⟩ | ⟨e, hc⟩
  · rw [e]
    obtain ⟨M', eo, au, ri, i, t, -⟩ := m_opens (n := n) (h := h) (A := A) (R := R) h0 hg hs hp
    have ok := good_glu hg hs hp
    have e1 := ri_n ri
    have hL := gL_le ok
    have hl : g_X12_acceptingCount_28 (ma n 0) (nI 0) (nI 0) (E n h A M' R) = some (nI (gCs (gluOf (lP (sCur S) s)) (gL (gluOf (lP (sCur S) s)))), E n h A M' R) := by
      unfold g_X12_acceptingCount_28
      refine lp_for0 (f := b_X12_acceptingCount_28 (ma n 0)) (fun k => (nI (gCs (gluOf (lP (sCur S) s)) k), nI k, E n h A M' R)) (gL (gluOf (lP (sCur S) s))) _ (fun k hk => ?_) ?_ (L := 100000) (by omega)
      · have e2 := ri_o ri hk
        have hac := m_acc (n := n) (h := h) (A := A) (R := R) au ok (by decide : 0 < 2) (gO_lt ok k)
        unfold b_X12_acceptingCount_28 b0_X12_acceptingCount_28 g_X12_acceptingCount_56
        rw [gCs_s]
        unfold gA
        unfold b2 at hac ⊢
        by_cases q : gab (gluOf (lP (sCur S) s)) (gO (gluOf (lP (sCur S) s)) k) = true
        · rw [if_pos q] at hac ⊢
          simp (disch := omega) only [↓grd_u, ↓bnd_e, ↓orf_u, ↓oif_u, ↓cal_u, ↓calX_u, ↓inrO_u, ↓reduceIte, EM, EMg, EMs, z0, oi, n_inbT, n_cntT, n_ltT, n_ltF, n_leT, n_leF, n_eqT, n_eqF, n_m1T, n_m1F, n_m1F', n_cl, n_add, n_mul, ro_at, ro_ro, up_at, up_up, e1, e2, hac]
        · rw [if_neg q] at hac ⊢
          simp (disch := omega) only [↓grd_u, ↓bnd_e, ↓orf_u, ↓oif_u, ↓cal_u, ↓calX_u, ↓inrO_u, ↓reduceIte, EM, EMg, EMs, z0, oi, n_inbT, n_cntT, n_ltT, n_ltF, n_leT, n_leF, n_eqT, n_eqF, n_m1T, n_m1F, n_m1F', n_cl, n_add, n_mul, ro_at, ro_ro, up_at, up_up, e1, e2, hac]
      · unfold b_X12_acceptingCount_28 b0_X12_acceptingCount_28
        simp (disch := omega) only [↓grd_u, ↓bnd_e, ↓orf_u, ↓oif_u, ↓cal_u, ↓calX_u, ↓inrO_u, ↓reduceIte, EM, EMg, EMs, z0, oi, n_inbT, n_cntT, n_ltT, n_ltF, n_leT, n_leF, n_eqT, n_eqF, n_m1T, n_m1F, n_m1F', n_cl, n_add, n_mul, ro_at, ro_ro, up_at, up_up, e1]
    refine ⟨M', ?_, i, by rw [t, ro_at, up_at]⟩
    simp (disch := omega) only [↓grd_u, ↓bnd_e, ↓orf_u, ↓oif_u, ↓cal_u, ↓calX_u, ↓inrO_u, ↓reduceIte, EM, EMg, EMs, z0, oi, n_inbT, n_cntT, n_ltT, n_ltF, n_leT, n_leF, n_eqT, n_eqF, n_m1T, n_m1F, n_m1F', n_cl, n_add, n_mul, ro_at, ro_ro, up_at, up_up, holdsT h0 hg hs hp]
    simp (disch := omega) only [↓grd_u, ↓bnd_e, ↓orf_u, ↓oif_u, ↓cal_u, ↓calX_u, ↓inrO_u, ↓reduceIte, EM, EMg, EMs, z0, oi, n_inbT, n_cntT, n_ltT, n_ltF, n_leT, n_leF, n_eqT, n_eqF, n_m1T, n_m1F, n_m1F', n_cl, n_add, n_mul, ro_at, ro_ro, up_at, up_up, eo, hl]
  · have hh := m_holdsX (n := n) (h := h) (A := A) (R := R) h0 e hc
    rw [e]
    obtain ⟨M', e, i, t⟩ := m_failed (n := n) (h := h) (A := A) (R := R) (k := 1) h0
    refine ⟨M', ?_, i, t⟩
    simp (disch := omega) only [↓grd_u, ↓bnd_e, ↓orf_u, ↓oif_u, ↓cal_u, ↓calX_u, ↓inrO_u, ↓reduceIte, EM, EMg, EMs, z0, oi, n_inbT, n_cntT, n_ltT, n_ltF, n_leT, n_leF, n_eqT, n_eqF, n_m1T, n_m1F, n_m1F', n_cl, n_add, n_mul, ro_at, ro_ro, up_at, up_up, hh]
    simp (disch := omega) only [↓grd_u, ↓bnd_e, ↓orf_u, ↓oif_u, ↓cal_u, ↓calX_u, ↓inrO_u, ↓reduceIte, EM, EMg, EMs, z0, oi, n_inbT, n_cntT, n_ltT, n_ltF, n_leT, n_leF, n_eqT, n_eqF, n_m1T, n_m1F, n_m1F', n_cl, n_add, n_mul, ro_at, ro_ro, up_at, up_up, e]
theorem m_isUniversal {v : Int32} (hi : IM M S) (hg : GoodS S) : MA n h A R (f_X12_isUniversal (ma n 0) v (E n h A M R)) (aCnt S v (fun g => b2 (decide (gCs g (gL g) = gL g)))) := by
  have h0 : IM (ro M 0 (up (M 0) 0 (nI 0))) S := IM_thrown hi
  unfold f_X12_isUniversal aCnt g_X12_isUniversal_26
  rcases pat_cases S v with ⟨s, hs, rfl, hp, e⟩ | ⟨e, hc⟩
  · rw [e]
    obtain ⟨M', eo, au, ri, i, t, -⟩ := m_opens (n := n) (h := h) (A := A) (R := R) h0 hg hs hp
    have ok := good_glu hg hs hp
    obtain ⟨g, hge⟩ : ∃ g, g = gluOf (lP (sCur S) s) := ⟨_, rfl⟩
    rw [← hge] at au ri ok
    have e1 := ri_n ri
    have hL := gL_le ok
    have key : ∃ r, g_X12_isUniversal_34 (ma n 0) (nI 0) (E n h A M' R) = some r ∧ r = (nI (b2 (decide (gCs g (gL g) = gL g))), E n h A M' R) := by
      unfold g_X12_isUniversal_34
      refine lp_inv0 (f := b_X12_isUniversal_34 (ma n 0)) (fun k s' => s' = (nI k, E n h A M' R) ∧ ∀ j, j < k → gA g j = true) _ (gL g) (fun k s' hk hI => ?_) (L := 100000) (by omega) ⟨rfl, fun j hj => absurd hj (Nat.not_lt_zero _)⟩
      obtain ⟨rfl, hn⟩ := hI
      unfold b_X12_isUniversal_34 b0_X12_isUniversal_34
      by_cases hk2 : k < gL g
      · have e2 := ri_o ri hk2
        have hac := m_acc (n := n) (h := h) (A := A) (R := R) au ok (by decide : 0 < 2) (gO_lt ok k)
        unfold b2 at hac
        by_cases q : gab g (gO g k) = true
        · rw [if_pos q] at hac
          refine Or.inl ⟨(nI (k + 1), E n h A M' R), ?_, hk2, rfl, fun j hj => ?_⟩
          · simp (disch := omega) only [↓grd_u, ↓bnd_e, ↓orf_u, ↓oif_u, ↓cal_u, ↓calX_u, ↓inrO_u, ↓reduceIte, EM, EMg, EMs, z0, oi, n_inbT, n_cntT, n_ltT, n_ltF, n_leT, n_leF, n_eqT, n_eqF, n_m1T, n_m1F, n_m1F', n_cl, n_add, n_mul, ro_at, ro_ro, up_at, up_up, e1, e2, hac]
          · by_cases ej : j = k
            · rw [ej]; exact q
            · exact hn j (by omega)
        · rw [if_neg q] at hac
          refine Or.inr ⟨(nI 0, E n h A M' R), ?_, ?_⟩
          · simp (disch := omega) only [↓grd_u, ↓bnd_e, ↓orf_u, ↓oif_u, ↓cal_u, ↓calX_u, ↓inrO_u, ↓reduceIte, EM, EMg, EMs, z0, oi, n_inbT, n_cntT, n_ltT, n_ltF, n_leT, n_leF, n_eqT, n_eqF, n_m1T, n_m1F, n_m1F', n_cl, n_add, n_mul, ro_at, ro_ro, up_at, up_up, e1, e2, hac]
          · have : ¬ (gCs g (gL g) = gL g) := fun z => q (cs_all (S := gA g) (n := gL g) (by unfold gCs at z; omega) k hk2)
            rw [decide_eq_false this]
            rfl
      · have hke : k = gL g := by omega
        refine Or.inr ⟨(nI 1, E n h A M' R), ?_, ?_⟩
        · simp (disch := omega) only [↓grd_u, ↓bnd_e, ↓orf_u, ↓oif_u, ↓cal_u, ↓calX_u, ↓inrO_u, ↓reduceIte, EM, EMg, EMs, z0, oi, n_inbT, n_cntT, n_ltT, n_ltF, n_leT, n_leF, n_eqT, n_eqF, n_m1T, n_m1F, n_m1F', n_cl, n_add, n_mul, ro_at, ro_ro, up_at, up_up, e1]
        · have : gCs g (gL g) = gL g := by
            have h1 : ∀ m, m ≤ gL g → cs (gA g) m = m := fun m => by
              induction m with
              | zero => exact fun _ => rfl
              | succ m ih =>
                intro hm
                show cs (gA g) m + _ = _
                rw [ih (by omega), if_pos (hn m (by omega))]
            exact h1 _ (Nat.le_refl _)
          rw [decide_eq_true this]
          rfl
    obtain ⟨r, e5, rfl⟩ := key
    refine ⟨M', ?_, i, by rw [t, ro_at, up_at]⟩
    simp (disch := omega) only [↓grd_u, ↓bnd_e, ↓orf_u, ↓oif_u, ↓cal_u, ↓calX_u, ↓inrO_u, ↓reduceIte, EM, EMg, EMs, z0, oi, n_inbT, n_cntT, n_ltT, n_ltF, n_leT, n_leF, n_eqT, n_eqF, n_m1T, n_m1F, n_m1F', n_cl, n_add, n_mul, ro_at, ro_ro, up_at, up_up, holdsT h0 hg hs hp]
    simp (disch := omega) only [↓grd_u, ↓bnd_e, ↓orf_u, ↓oif_u, ↓cal_u, ↓calX_u, ↓inrO_u, ↓reduceIte, EM, EMg, EMs, z0, oi, n_inbT, n_cntT, n_ltT, n_ltF, n_leT, n_leF, n_eqT, n_eqF, n_m1T, n_m1F, n_m1F', n_cl, n_add, n_mul, ro_at, ro_ro, up_at, up_up, eo, e5, hge]
  · have hh := m_holdsX (n := n) (h := h) (A := A) (R := R) h0 e hc
    rw [e]
    obtain ⟨M', e, i, t⟩ := m_failed (n := n) (h := h) (A := A) (R := R) (k := 1) h0
    refine ⟨M', ?_, i, t⟩
    simp (disch := omega) only [↓grd_u, ↓bnd_e, ↓orf_u, ↓oif_u, ↓cal_u, ↓calX_u, ↓inrO_u, ↓reduceIte, EM, EMg, EMs, z0, oi, n_inbT, n_cntT, n_ltT, n_ltF, n_leT, n_leF, n_eqT, n_eqF, n_m1T, n_m1F, n_m1F', n_cl, n_add, n_mul, ro_at, ro_ro, up_at, up_up, hh]
    simp (disch := omega) only [↓grd_u, ↓bnd_e, ↓orf_u, ↓oif_u, ↓cal_u, ↓calX_u, ↓inrO_u, ↓reduceIte, EM, EMg, EMs, z0, oi, n_inbT, n_cntT, n_ltT, n_ltF, n_leT, n_leF, n_eqT, n_eqF, n_m1T, n_m1F, n_m1F', n_cl, n_add, n_mul, ro_at, ro_ro, up_at, up_up, e, nz0]
/-! dividing -/
def GrM (M : Nat → Nat → Int32) (L : Nat) (l : Nat → Nat) : Prop := ∀ j, j < L → M 21 j = nI (l j) ∧ l j < 1000
theorem m_alike {g : Glu} {l : Nat → Nat} {a b : Nat} (ok : GluOK g) (au : AutM M 0 g) (ri : RI M 0 (gB g)) (hl : GrM M (gL g) l) (ha : a < gL g) (hb : b < gL g) : f_X12_areAlike (ma n 0) (nI a) (nI b) (E n h A M R) = some (nI (b2 (alk (gS g) l a b)), E n h A M R) := by
  have hL := gL_le ok
  obtain ⟨ga, ga'⟩ := hl a ha
  obtain ⟨gb, gb'⟩ := hl b hb
  have oa := ri_o ri ha
  have ob := ri_o ri hb
  unfold f_X12_areAlike
  by_cases q : l a = l b
  · have key : ∃ r, g_X12_areAlike_19 (ma n 0) (nI a) (nI b) (nI 0) (E n h A M R) = some r ∧ r = (nI (b2 (alk (gS g) l a b)), E n h A M R) := by
      unfold g_X12_areAlike_19
      refine lp_inv0 (f := b_X12_areAlike_19 (ma n 0) (nI a) (nI b)) (fun c s' => s' = (nI c, E n h A M R) ∧ ∀ d, d < c → l (gS g a d) = l (gS g b d)) _ 3 (fun c s' hc hI => ?_) (L := 100000) (by decide) ⟨rfl, fun j hj => absurd hj (Nat.not_lt_zero _)⟩
      obtain ⟨rfl, hn⟩ := hI
      unfold b_X12_areAlike_19 b0_X12_areAlike_19
      by_cases hc3 : c < 3
      · obtain ⟨s1, s2⟩ := gS_ok ok ha hc3
        obtain ⟨t1, t2⟩ := gS_ok ok hb hc3
        have to1 := m_to (n := n) (h := h) (A := A) (R := R) au (by decide : 0 < 2) (gO_lt ok a) hc3
        have to2 := m_to (n := n) (h := h) (A := A) (R := R) au (by decide : 0 < 2) (gO_lt ok b) hc3
        rw [← s2] at to1
        rw [← t2] at to2
        have p1 := ri_p ri s1
        have p2 := ri_p ri t1
        have o1 := gO_lt ok (gS g a c)
        have o2 := gO_lt ok (gS g b c)
        obtain ⟨g1, g1'⟩ := hl _ s1
        obtain ⟨g2, g2'⟩ := hl _ t1
        by_cases q2 : l (gS g a c) = l (gS g b c)
        · refine Or.inl ⟨(nI (c + 1), E n h A M R), ?_, hc3, rfl, fun d hd => ?_⟩
          · simp (disch := omega) only [↓grd_u, ↓bnd_e, ↓orf_u, ↓oif_u, ↓cal_u, ↓calX_u, ↓inrO_u, ↓reduceIte, EM, EMg, EMs, z0, oi, n_inbT, n_cntT, n_ltT, n_ltF, n_leT, n_leF, n_eqT, n_eqF, n_m1T, n_m1F, n_m1F', n_cl, n_add, n_mul, ro_at, ro_ro, up_at, up_up, oa, ob, to1, to2, p1, p2, g1, g2]
          · by_cases e : d = c
            · rw [e]; exact q2
            · exact hn d (by omega)
        · refine Or.inr ⟨(nI 0, E n h A M R), ?_, ?_⟩
          · simp (disch := omega) only [↓grd_u, ↓bnd_e, ↓orf_u, ↓oif_u, ↓cal_u, ↓calX_u, ↓inrO_u, ↓reduceIte, EM, EMg, EMs, z0, oi, n_inbT, n_cntT, n_ltT, n_ltF, n_leT, n_leF, n_eqT, n_eqF, n_m1T, n_m1F, n_m1F', n_cl, n_add, n_mul, ro_at, ro_ro, up_at, up_up, oa, ob, to1, to2, p1, p2, g1, g2]
          · have : alk (gS g) l a b = false := by
              cases z : alk (gS g) l a b with
              | false => rfl
              | true =>
                exfalso
                unfold alk at z
                simp only [Bool.and_eq_true, decide_eq_true_eq] at z
                have : c = 0 ∨ c = 1 ∨ c = 2 := by omega
                rcases this with rfl | rfl | rfl
                · exact q2 z.2.1
                · exact q2 z.2.2.1
                · exact q2 z.2.2.2
            rw [this]
            rfl
      · have hce : c = 3 := by omega
        subst hce
        refine Or.inr ⟨(nI 1, E n h A M R), ?_, ?_⟩
        · simp (disch := omega) only [↓grd_u, ↓bnd_e, ↓orf_u, ↓oif_u, ↓cal_u, ↓calX_u, ↓inrO_u, ↓reduceIte, EM, EMg, EMs, z0, oi, n_inbT, n_cntT, n_ltT, n_ltF, n_leT, n_leF, n_eqT, n_eqF, n_m1T, n_m1F, n_m1F', n_cl, n_add, n_mul, ro_at, ro_ro, up_at, up_up]
        · have : alk (gS g) l a b = true := by
            unfold alk
            simp only [Bool.and_eq_true, decide_eq_true_eq]
            exact ⟨q, hn 0 (by decide), hn 1 (by decide), hn 2 (by decide)⟩
          rw [this]
          rfl
    obtain ⟨r, e, rfl⟩ := key
    simp (disch := omega) only [↓grd_u, ↓bnd_e, ↓orf_u, ↓oif_u, ↓cal_u, ↓calX_u, ↓inrO_u, ↓reduceIte, EM, EMg, EMs, z0, oi, n_inbT, n_cntT, n_ltT, n_ltF, n_leT, n_leF, n_eqT, n_eqF, n_m1T, n_m1F, n_m1F', n_cl, n_add, n_mul, ro_at, ro_ro, up_at, up_up, ga, gb, e]
  · have : alk (gS g) l a b = false := by
      unfold alk
      rw [decide_eq_false q]
      rfl
    rw [this]
    simp (disch := omega) only [↓grd_u, ↓bnd_e, ↓orf_u, ↓oif_u, ↓cal_u, ↓calX_u, ↓inrO_u, ↓reduceIte, EM, EMg, EMs, z0, oi, n_inbT, n_cntT, n_ltT, n_ltF, n_leT, n_leF, n_eqT, n_eqF, n_m1T, n_m1F, n_m1F', n_cl, n_add, n_mul, ro_at, ro_ro, up_at, up_up, ga, gb]
    rfl
/-- a state's class among the new ones -/
theorem m_div14 {g : Glu} {l : Nat → Nat} {k a N : Nat} (ok : GluOK g) (au : AutM M 0 g) (ri : RI M 0 (gB g)) (hl : GrM M (gL g) l) (hlab : labs (gS g) (gA g) (gL g) k l) (ha : a < gL g) (hN : N = cs (hdR (mr (gS g) (gA g) (k + 1))) a)
    (hnew : ∀ j, j < a → M 22 j = nI (labR (mr (gS g) (gA g) (k + 1)) j)) :
    g_X12_divides_14 (ma n 0) (nI N) (nI a) (nI 0) (E n h A M R) = some (.inl (nI (cs (hdR (mr (gS g) (gA g) (k + 1))) (a + 1)), nI (a + 1), E n h A (ro M 22 (up (M 22) a (nI (labR (mr (gS g) (gA g) (k + 1)) a)))) R)) := by
  have hL := gL_le ok
  have hcsl := csn_le (hdR (mr (gS g) (gA g) (k + 1))) a
  have hstep : cs (hdR (mr (gS g) (gA g) (k + 1))) (a + 1) = cs (hdR (mr (gS g) (gA g) (k + 1))) a + (if hdR (mr (gS g) (gA g) (k + 1)) a = true then 1 else 0) := rfl
  have heq := mr_eqv (gS g) (gA g) (k + 1)
  have halk : ∀ b, b < gL g → alk (gS g) l a b = mr (gS g) (gA g) (k + 1) b a := fun b hb => by rw [alk_mr (gS_lt ok) hlab a b ha hb, mr_cm]
  have key : ∃ r, g_X12_divides_14 (ma n 0) (nI N) (nI a) (nI 0) (E n h A M R) = some r ∧ r = .inl (nI (cs (hdR (mr (gS g) (gA g) (k + 1))) (a + 1)), nI (a + 1), E n h A (ro M 22 (up (M 22) a (nI (labR (mr (gS g) (gA g) (k + 1)) a)))) R) := by
    unfold g_X12_divides_14
    refine lp_inv0 (f := b_X12_divides_14 (ma n 0) (nI N) (nI a)) (fun b s' => s' = (nI b, E n h A M R) ∧ ∀ d, d < b → mr (gS g) (gA g) (k + 1) d a = false) _ a (fun b s' hb hI => ?_) (L := 100000) (by omega) ⟨rfl, fun j hj => absurd hj (Nat.not_lt_zero _)⟩
    obtain ⟨rfl, hn⟩ := hI
    unfold b_X12_divides_14 b0_X12_divides_14 g_X12_divides_34 g_X12_divides_54 g_X12_divides_66
    by_cases hb2 : b < a
    · have hal := m_alike (n := n) (h := h) (A := A) (R := R) ok au ri hl ha (by omega : b < gL g)
      rw [halk b (by omega)] at hal
      unfold b2 at hal
      by_cases q : mr (gS g) (gA g) (k + 1) b a = true
      · rw [if_pos q] at hal
        have hfs : fsR (mr (gS g) (gA g) (k + 1)) a = b := lf_is hb2 q hn
        have hlb : labR (mr (gS g) (gA g) (k + 1)) b = labR (mr (gS g) (gA g) (k + 1)) a := (lab_iff heq).mpr q
        have hnh : hdR (mr (gS g) (gA g) (k + 1)) a = false := by
          cases z : hdR (mr (gS g) (gA g) (k + 1)) a with
          | false => rfl
          | true => rw [hd_iff] at z; omega
        have e1 := hnew b hb2
        rw [hlb] at e1
        refine Or.inr ⟨_, ?_, rfl⟩
        rw [hstep, hnh, hN]
        simp (disch := omega) only [↓grd_u, ↓bnd_e, ↓orf_u, ↓oif_u, ↓cal_u, ↓calX_u, ↓inrO_u, ↓reduceIte, EM, EMg, EMs, z0, oi, n_inbT, n_cntT, n_ltT, n_ltF, n_leT, n_leF, n_eqT, n_eqF, n_m1T, n_m1F, n_m1F', n_cl, n_add, n_mul, ro_at, ro_ro, up_at, up_up, hal, e1]
        rfl
      · rw [if_neg q] at hal
        have qf : mr (gS g) (gA g) (k + 1) b a = false := by
          cases z : mr (gS g) (gA g) (k + 1) b a with
          | false => rfl
          | true => exact absurd z q
        refine Or.inl ⟨(nI (b + 1), E n h A M R), ?_, hb2, rfl, fun d hd => ?_⟩
        · simp (disch := omega) only [↓grd_u, ↓bnd_e, ↓orf_u, ↓oif_u, ↓cal_u, ↓calX_u, ↓inrO_u, ↓reduceIte, EM, EMg, EMs, z0, oi, n_inbT, n_cntT, n_ltT, n_ltF, n_leT, n_leF, n_eqT, n_eqF, n_m1T, n_m1F, n_m1F', n_cl, n_add, n_mul, ro_at, ro_ro, up_at, up_up, hal]
        · by_cases e : d = b
          · rw [e]; exact qf
          · exact hn d (by omega)
    · have hbe : b = a := by omega
      subst hbe
      have hh : hdR (mr (gS g) (gA g) (k + 1)) b = true := hd_no.mpr hn
      have hlb : labR (mr (gS g) (gA g) (k + 1)) b = N := by
        unfold labR
        rw [hd_iff.mp hh, hN]
      refine Or.inr ⟨_, ?_, rfl⟩
      rw [hstep, hh, hlb, hN]
      simp (disch := omega) only [↓grd_u, ↓bnd_e, ↓orf_u, ↓oif_u, ↓cal_u, ↓calX_u, ↓inrO_u, ↓reduceIte, EM, EMg, EMs, z0, oi, n_inbT, n_cntT, n_ltT, n_ltF, n_leT, n_leF, n_eqT, n_eqF, n_m1T, n_m1F, n_m1F', n_cl, n_add, n_mul, ro_at, ro_ro, up_at, up_up]
  obtain ⟨r, e, rfl⟩ := key
  exact e
theorem m_divides {g : Glu} {l : Nat → Nat} {k : Nat} (ok : GluOK g) (au : AutM M 0 g) (ri : RI M 0 (gB g)) (hl : GrM M (gL g) l) (hlab : labs (gS g) (gA g) (gL g) k l) : ∃ M', f_X12_divides (ma n 0) (E n h A M R) = some (nI (mc (gS g) (gA g) (gL g) (k + 1)), E n h A M' R) ∧ GrM M' (gL g) (labR (mr (gS g) (gA g) (k + 1))) ∧ Fr [21, 22] [] M M' := by
  have hL := gL_le ok
  have heq := mr_eqv (gS g) (gA g) (k + 1)
  have key : ∃ r, g_X12_divides_4 (ma n 0) (nI 0) (nI 0) (E n h A M R) = some r ∧ ∃ M', r = (nI (mc (gS g) (gA g) (gL g) (k + 1)), E n h A M' R) ∧ GrM M' (gL g) (labR (mr (gS g) (gA g) (k + 1))) ∧ Fr [21, 22] [] M M' := by
    unfold g_X12_divides_4
    refine lp_inv0 (f := b_X12_divides_4 (ma n 0)) (fun a s' => ∃ M1, s' = (nI (cs (hdR (mr (gS g) (gA g) (k + 1))) a), nI a, E n h A M1 R) ∧ Fr [22] [] M M1 ∧ ∀ j, j < a → M1 22 j = nI (labR (mr (gS g) (gA g) (k + 1)) j)) _ (gL g) (fun a s' ha hI => ?_) (L := 100000) (by omega) ⟨M, rfl, Fr_rf _ _ _, fun j hj => absurd hj (Nat.not_lt_zero _)⟩
    obtain ⟨M1, rfl, f1, hn⟩ := hI
    have au1 := AutM_keep au f1 (by decide)
    have ri1 : RI M1 0 (gB g) := ⟨by rw [f1.2 _ (by decide)]; exact ri.1, by rw [f1.1 _ (by decide) (by decide)]; exact ri.2.1, by rw [f1.1 _ (by decide) (by decide)]; exact ri.2.2.1, by rw [f1.1 _ (by decide) (by decide)]; exact ri.2.2.2⟩
    have gr1 : GrM M1 (gL g) l := fun j hj => by rw [f1.1 _ (by decide) (by decide)]; exact hl j hj
    have e0 := ri_n ri1
    unfold b_X12_divides_4 b0_X12_divides_4
    by_cases ha2 : a < gL g
    · have hd := m_div14 (n := n) (h := h) (A := A) (R := R) ok au1 ri1 gr1 hlab ha2 rfl hn
      refine Or.inl ⟨(nI (cs (hdR (mr (gS g) (gA g) (k + 1))) (a + 1)), nI (a + 1), E n h A (ro M1 22 (up (M1 22) a (nI (labR (mr (gS g) (gA g) (k + 1)) a)))) R), ?_, ha2, ro M1 22 (up (M1 22) a (nI (labR (mr (gS g) (gA g) (k + 1)) a))), rfl, Fr_tr f1 (Fr_ro _ (by decide) (by decide)), fun j hj => ?_⟩
      · simp (disch := omega) only [↓grd_u, ↓bnd_e, ↓orf_u, ↓oif_u, ↓cal_u, ↓calX_u, ↓inrO_u, ↓reduceIte, EM, EMg, EMs, z0, oi, n_inbT, n_cntT, n_ltT, n_ltF, n_leT, n_leF, n_eqT, n_eqF, n_m1T, n_m1F, n_m1F', n_cl, n_add, n_mul, ro_at, ro_ro, up_at, up_up, e0, hd]
      · rw [ro_at]
        by_cases e : j = a
        · rw [e, up_at]
        · rw [up_ne _ _ e]; exact hn j (by omega)
    · have hae : a = gL g := by omega
      rw [hae]
      have hn : ∀ j, j < gL g → M1 22 j = nI (labR (mr (gS g) (gA g) (k + 1)) j) := fun j hj => hn j (by omega)
      have hcp : g_X12_divides_76 (ma n 0) (nI (cs (hdR (mr (gS g) (gA g) (k + 1))) (gL g))) (nI 0) (E n h A M1 R) = some (nI (mc (gS g) (gA g) (gL g) (k + 1)), E n h A (ro M1 21 (pre (gL g) (M1 22) (M1 21))) R) := by
        unfold g_X12_divides_76
        have hl2 := lp_for0 (f := b_X12_divides_76 (ma n 0) (nI (cs (hdR (mr (gS g) (gA g) (k + 1))) (gL g)))) (fun q => (nI q, E n h A (ro M1 21 (pre q (M1 22) (M1 21))) R)) (gL g) (nI (mc (gS g) (gA g) (gL g) (k + 1)), E n h A (ro M1 21 (pre (gL g) (M1 22) (M1 21))) R) (fun q hq => ?_) ?_ (L := 100000) (by omega)
        · simp only [pre_0, ro_self] at hl2
          exact hl2
        · unfold b_X12_divides_76 b0_X12_divides_76
          simp (disch := omega) only [↓grd_u, ↓bnd_e, ↓orf_u, ↓oif_u, ↓cal_u, ↓calX_u, ↓inrO_u, ↓reduceIte, EM, EMg, EMs, z0, oi, n_inbT, n_cntT, n_ltT, n_ltF, n_leT, n_leF, n_eqT, n_eqF, n_m1T, n_m1F, n_m1F', n_cl, n_add, n_mul, ro_at, ro_ro, up_at, up_up, ro_ne, up_ne, ro_sw, e0, up_pre]
        · unfold b_X12_divides_76 b0_X12_divides_76
          simp (disch := omega) only [↓grd_u, ↓bnd_e, ↓orf_u, ↓oif_u, ↓cal_u, ↓calX_u, ↓inrO_u, ↓reduceIte, EM, EMg, EMs, z0, oi, n_inbT, n_cntT, n_ltT, n_ltF, n_leT, n_leF, n_eqT, n_eqF, n_m1T, n_m1F, n_m1F', n_cl, n_add, n_mul, ro_at, ro_ro, up_at, up_up, ro_ne, up_ne, ro_sw, e0]
          rfl
      refine Or.inr ⟨_, ?_, ro M1 21 (pre (gL g) (M1 22) (M1 21)), rfl, fun j hj => ?_, Fr_tr (Fr_wk f1 (by decide) (by decide)) (Fr_ro _ (by decide) (by decide))⟩
      · simp (disch := omega) only [↓grd_u, ↓bnd_e, ↓orf_u, ↓oif_u, ↓cal_u, ↓calX_u, ↓inrO_u, ↓reduceIte, EM, EMg, EMs, z0, oi, n_inbT, n_cntT, n_ltT, n_ltF, n_leT, n_leF, n_eqT, n_eqF, n_m1T, n_m1F, n_m1F', n_cl, n_add, n_mul, ro_at, ro_ro, up_at, up_up, e0, hcp]
      · rw [ro_at, pre_lt _ _ hj]
        exact ⟨hn j hj, by have := lab_lt heq hj; have := csn_le (hdR (mr (gS g) (gA g) (k + 1))) (gL g); omega⟩
  obtain ⟨r, e, M', rfl, q1, q2⟩ := key
  exact ⟨M', e, q1, q2⟩
theorem m_smallest {s : Nat} (hi : IM M S) (hg : GoodS S) (hs : s < 6) (hp : lP (sCur S) s ≠ []) : ∃ M', f_X12_smallest (ma n 0) (nI s) (E n h A M R) = some (nI (gMc (gluOf (lP (sCur S) s))), E n h A M' R) ∧ IM M' S ∧ M' 0 0 = M 0 0 ∧ Fr [15, 16, 17, 10, 11, 13, 12, 14, 9, 18, 19, 20, 21, 22] [29, 36] M M' := by
  obtain ⟨M1, eo, au, ri, i, t, fo⟩ := m_opens (n := n) (h := h) (A := A) (R := R) hi hg hs hp
  have ok := good_glu hg hs hp
  obtain ⟨g, hge⟩ : ∃ g, g = gluOf (lP (sCur S) s) := ⟨_, rfl⟩
  rw [← hge] at au ri ok ⊢
  have e1 := ri_n ri
  have hL := gL_le ok
  have hL1 := gL_pos g
  -- the groups at first
  obtain ⟨M2, hM2⟩ : ∃ M2, M2 = ro M1 21 (pre (gL g) (fun k => nI (b2 (gA g k))) (M1 21)) := ⟨_, rfl⟩
  have f2 : Fr [21, 22] [] M1 M2 := by rw [hM2]; exact Fr_ro _ (by decide) (by decide)
  have gr2 : GrM M2 (gL g) (fun k => b2 (gA g k)) := fun j hj => by
    rw [hM2, ro_at, pre_lt _ _ hj]
    exact ⟨rfl, by show b2 (gA g j) < 1000; have := b2_le (gA g j); omega⟩
  have lab2 : labs (gS g) (gA g) (gL g) 0 (fun k => b2 (gA g k)) := fun i j _ _ => by
    show b2 (gA g i) = b2 (gA g j) ↔ (gA g i == gA g j) = true
    cases gA g i <;> cases gA g j <;> simp [b2]
  have key : ∃ r, g_X12_smallest_50 (ma n 0) (nI 0) (nI 1) (E n h A M2 R) = some r ∧ ∃ M', r = (nI (gMc g), E n h A M' R) ∧ Fr [21, 22] [] M1 M' := by
    unfold g_X12_smallest_50
    refine lp_inv0 (f := b_X12_smallest_50 (ma n 0)) (fun t s' => ∃ M3 l, s' = (nI (if t = 0 then 0 else if t = 1 then 1 else mc (gS g) (gA g) (gL g) (t - 1)), nI (if t = 0 then 1 else mc (gS g) (gA g) (gL g) t), E n h A M3 R) ∧ Fr [21, 22] [] M1 M3 ∧ GrM M3 (gL g) l ∧ labs (gS g) (gA g) (gL g) t l) _ (gL g + 2) (fun t s' ht hI => ?_) (L := 100000) (by omega) ⟨M2, _, rfl, f2, gr2, lab2⟩
    obtain ⟨M3, l, rfl, f3, gr3, lab3⟩ := hI
    have au3 := AutM_keep au f3 (by decide)
    have ri3 : RI M3 0 (gB g) := ⟨by rw [f3.2 _ (by decide)]; exact ri.1, by rw [f3.1 _ (by decide) (by decide)]; exact ri.2.1, by rw [f3.1 _ (by decide) (by decide)]; exact ri.2.2.1, by rw [f3.1 _ (by decide) (by decide)]; exact ri.2.2.2⟩
    obtain ⟨M4, e4, gr4, f4⟩ := m_divides (n := n) (h := h) (A := A) (R := R) ok au3 ri3 gr3 lab3
    have b1 := csn_le (hdR (mr (gS g) (gA g) t)) (gL g)
    have b2' := csn_le (hdR (mr (gS g) (gA g) (t - 1))) (gL g)
    have b3 : mc (gS g) (gA g) (gL g) t ≤ gL g := b1
    have b4 : mc (gS g) (gA g) (gL g) (t - 1) ≤ gL g := b2'
    unfold b_X12_smallest_50 b0_X12_smallest_50
    by_cases t0 : t = 0
    · subst t0
      refine Or.inl ⟨(nI 1, nI (mc (gS g) (gA g) (gL g) 1), E n h A M4 R), ?_, by omega, M4, labR (mr (gS g) (gA g) (0 + 1)), by rw [if_neg (by omega), if_pos (by omega), if_neg (by omega)], Fr_tr f3 (Fr_wk f4 (by decide) (by decide)), gr4, labs_lab _ _ _ _⟩
      rw [if_pos rfl, if_pos rfl]
      simp (disch := omega) only [↓grd_u, ↓bnd_e, ↓orf_u, ↓oif_u, ↓cal_u, ↓calX_u, ↓inrO_u, ↓reduceIte, EM, EMg, EMs, z0, oi, n_inbT, n_cntT, n_ltT, n_ltF, n_leT, n_leF, n_eqT, n_eqF, n_m1T, n_m1F, n_m1F', n_cl, n_add, n_mul, ro_at, ro_ro, up_at, up_up, e4]
    · obtain ⟨q, rfl⟩ : ∃ q, t = q + 1 := ⟨t - 1, by omega⟩
      rw [show q + 1 - 1 = q by omega] at b4
      obtain ⟨N, hN⟩ : ∃ N, N = if q + 1 = 1 then 1 else mc (gS g) (gA g) (gL g) q := ⟨_, rfl⟩
      rw [if_neg (by omega : ¬ q + 1 = 0), if_neg (by omega : ¬ q + 1 = 0), show q + 1 - 1 = q by omega, ← hN]
      have hN2 : N ≤ 129 := by rw [hN]; split <;> omega
      by_cases hx : mc (gS g) (gA g) (gL g) (q + 1) ≤ N
      · have hst : mc (gS g) (gA g) (gL g) (q + 1) ≤ mc (gS g) (gA g) (gL g) q := by
          have p0 := mc_pos (s := gS g) (ac := gA g) hL1 q
          rw [hN] at hx
          split at hx <;> omega
        have hf := mc_fin (ac := gA g) hL1 (by omega) (gS_lt ok) hst
        have hm := mc_mono (s := gS g) (ac := gA g) (L := gL g) q
        have hfin : mc (gS g) (gA g) (gL g) (q + 1) = gMc g := by unfold gMc; omega
        refine Or.inr ⟨(nI (gMc g), E n h A M3 R), ?_, M3, rfl, f3⟩
        rw [← hfin]
        simp (disch := omega) only [↓grd_u, ↓bnd_e, ↓orf_u, ↓oif_u, ↓cal_u, ↓calX_u, ↓inrO_u, ↓reduceIte, EM, EMg, EMs, z0, oi, n_inbT, n_cntT, n_ltT, n_ltF, n_leT, n_leF, n_eqT, n_eqF, n_m1T, n_m1F, n_m1F', n_cl, n_add, n_mul, ro_at, ro_ro, up_at, up_up]
      · have hlt : q + 1 < gL g + 2 := by
          rcases Nat.lt_or_ge (q + 1) (gL g + 2) with z | z
          · exact z
          · exfalso
            have := mc_L (ac := gA g) hL1 (gS_lt ok) q (by omega)
            rw [hN, if_neg (by omega)] at hx
            omega
        refine Or.inl ⟨(nI (mc (gS g) (gA g) (gL g) (q + 1)), nI (mc (gS g) (gA g) (gL g) (q + 1 + 1)), E n h A M4 R), ?_, hlt, M4, labR (mr (gS g) (gA g) (q + 1 + 1)), ?_, Fr_tr f3 (Fr_wk f4 (by decide) (by decide)), gr4, labs_lab _ _ _ _⟩
        · simp (disch := omega) only [↓grd_u, ↓bnd_e, ↓orf_u, ↓oif_u, ↓cal_u, ↓calX_u, ↓inrO_u, ↓reduceIte, EM, EMg, EMs, z0, oi, n_inbT, n_cntT, n_ltT, n_ltF, n_leT, n_leF, n_eqT, n_eqF, n_m1T, n_m1F, n_m1F', n_cl, n_add, n_mul, ro_at, ro_ro, up_at, up_up, e4]
        · rw [if_neg (by omega), if_neg (by omega), if_neg (by omega), show q + 1 + 1 - 1 = q + 1 by omega]
  obtain ⟨r, e5, M', rfl, f'⟩ := key
  refine ⟨M', ?_, IM_fr i f' (by decide) (by decide), by rw [f'.2 _ (by decide), t], Fr_tr (Fr_wk fo (by decide) (by decide)) (Fr_wk f' (by decide) (by decide))⟩
  have hl : g_X12_smallest_7 (ma n 0) (nI 0) (E n h A M1 R) = some (nI (gMc g), E n h A M' R) := by
    unfold g_X12_smallest_7
    have hl := lp_for0 (f := b_X12_smallest_7 (ma n 0)) (fun k => (nI k, E n h A (ro M1 21 (pre k (fun k => nI (b2 (gA g k))) (M1 21))) R)) (gL g) (nI (gMc g), E n h A M' R) (fun k hk => ?_) ?_ (L := 100000) (by omega)
    · simp only [pre_0, ro_self] at hl
      exact hl
    · have f3 : Fr [21] [] M1 (ro M1 21 (pre k (fun k => nI (b2 (gA g k))) (M1 21))) := Fr_ro _ (by decide) (by decide)
      have au3 := AutM_keep au f3 (by decide)
      have e2 := ri_o ri hk
      have hac := m_acc (n := n) (h := h) (A := A) (R := R) au3 ok (by decide : 0 < 2) (gO_lt ok k)
      have hup := up_pre k (fun k => nI (b2 (gA g k))) (M1 21)
      unfold b_X12_smallest_7 b0_X12_smallest_7 g_X12_smallest_39
      rw [← hup]
      unfold gA
      unfold gA at hac
      unfold b2 at hac ⊢
      by_cases q : gab g (gO g k) = true
      · simp only [if_pos q] at hac ⊢
        simp (disch := omega) only [↓grd_u, ↓bnd_e, ↓orf_u, ↓oif_u, ↓cal_u, ↓calX_u, ↓inrO_u, ↓reduceIte, EM, EMg, EMs, z0, oi, n_inbT, n_cntT, n_ltT, n_ltF, n_leT, n_leF, n_eqT, n_eqF, n_m1T, n_m1F, n_m1F', n_cl, n_add, n_mul, ro_at, ro_ro, up_at, up_up, ro_ne, up_ne, ro_sw, e1, e2, hac]
      · simp only [if_neg q] at hac ⊢
        simp (disch := omega) only [↓grd_u, ↓bnd_e, ↓orf_u, ↓oif_u, ↓cal_u, ↓calX_u, ↓inrO_u, ↓reduceIte, EM, EMg, EMs, z0, oi, n_inbT, n_cntT, n_ltT, n_ltF, n_leT, n_leF, n_eqT, n_eqF, n_m1T, n_m1F, n_m1F', n_cl, n_add, n_mul, ro_at, ro_ro, up_at, up_up, ro_ne, up_ne, ro_sw, e1, e2, hac]
    · unfold b_X12_smallest_7 b0_X12_smallest_7
      rw [← hM2]
      have e2 : M2 0 36 = nI (gL g) := by rw [f2.2 _ (by decide)]; exact e1
      simp (disch := omega) only [↓grd_u, ↓bnd_e, ↓orf_u, ↓oif_u, ↓cal_u, ↓calX_u, ↓inrO_u, ↓reduceIte, EM, EMg, EMs, z0, oi, n_inbT, n_cntT, n_ltT, n_ltF, n_leT, n_leF, n_eqT, n_eqF, n_m1T, n_m1F, n_m1F', n_cl, n_add, n_mul, ro_at, ro_ro, up_at, up_up, e2, e5]
  unfold f_X12_smallest
  simp (disch := omega) only [↓grd_u, ↓bnd_e, ↓orf_u, ↓oif_u, ↓cal_u, ↓calX_u, ↓inrO_u, ↓reduceIte, EM, EMg, EMs, z0, oi, n_inbT, n_cntT, n_ltT, n_ltF, n_leT, n_leF, n_eqT, n_eqF, n_m1T, n_m1F, n_m1F', n_cl, n_add, n_mul, ro_at, ro_ro, up_at, up_up, eo, hl]
theorem m_smallestCount {v : Int32} (hi : IM M S) (hg : GoodS S) : MA n h A R (f_X12_smallestCount (ma n 0) v (E n h A M R)) (aCnt S v gMc) := by
  have h0 : IM (ro M 0 (up (M 0) 0 (nI 0))) S := IM_thrown hi
  unfold f_X12_smallestCount aCnt g_X12_smallestCount_26
  rcases pat_cases S v with ⟨s, hs, rfl, hp, e⟩ | ⟨e, hc⟩
  · rw [e]
    obtain ⟨M', eo, i, t, -⟩ := m_smallest (n := n) (h := h) (A := A) (R := R) h0 hg hs hp
    refine ⟨M', ?_, i, by rw [t, ro_at, up_at]⟩
    simp (disch := omega) only [↓grd_u, ↓bnd_e, ↓orf_u, ↓oif_u, ↓cal_u, ↓calX_u, ↓inrO_u, ↓reduceIte, EM, EMg, EMs, z0, oi, n_inbT, n_cntT, n_ltT, n_ltF, n_leT, n_leF, n_eqT, n_eqF, n_m1T, n_m1F, n_m1F', n_cl, n_add, n_mul, ro_at, ro_ro, up_at, up_up, holdsT h0 hg hs hp]
    simp (disch := omega) only [↓grd_u, ↓bnd_e, ↓orf_u, ↓oif_u, ↓cal_u, ↓calX_u, ↓inrO_u, ↓reduceIte, EM, EMg, EMs, z0, oi, n_inbT, n_cntT, n_ltT, n_ltF, n_leT, n_leF, n_eqT, n_eqF, n_m1T, n_m1F, n_m1F', n_cl, n_add, n_mul, ro_at, ro_ro, up_at, up_up, eo]
  · have hh := m_holdsX (n := n) (h := h) (A := A) (R := R) h0 e hc
    rw [e]
    obtain ⟨M', e, i, t⟩ := m_failed (n := n) (h := h) (A := A) (R := R) (k := 1) h0
    refine ⟨M', ?_, i, t⟩
    simp (disch := omega) only [↓grd_u, ↓bnd_e, ↓orf_u, ↓oif_u, ↓cal_u, ↓calX_u, ↓inrO_u, ↓reduceIte, EM, EMg, EMs, z0, oi, n_inbT, n_cntT, n_ltT, n_ltF, n_leT, n_leF, n_eqT, n_eqF, n_m1T, n_m1F, n_m1F', n_cl, n_add, n_mul, ro_at, ro_ro, up_at, up_up, hh]
    simp (disch := omega) only [↓grd_u, ↓bnd_e, ↓orf_u, ↓oif_u, ↓cal_u, ↓calX_u, ↓inrO_u, ↓reduceIte, EM, EMg, EMs, z0, oi, n_inbT, n_cntT, n_ltT, n_ltF, n_leT, n_leF, n_eqT, n_eqF, n_m1T, n_m1F, n_m1F', n_cl, n_add, n_mul, ro_at, ro_ro, up_at, up_up, e]
theorem m_smallestCountByPairs {v : Int32} (hi : IM M S) (hg : GoodS S) : MA n h A R (f_X12_smallestCountByPairs (ma n 0) v (E n h A M R)) (aCnt S v gMc) := by
  obtain ⟨M', e, i, t⟩ := m_smallestCount (n := n) (h := h) (A := A) (R := R) (v := v) hi hg
  refine ⟨M', ?_, i, t⟩
  unfold f_X12_smallestCountByPairs
  simp (disch := omega) only [↓grd_u, ↓bnd_e, ↓orf_u, ↓oif_u, ↓cal_u, ↓calX_u, ↓inrO_u, ↓reduceIte, EM, EMg, EMs, z0, oi, n_inbT, n_cntT, n_ltT, n_ltF, n_leT, n_leF, n_eqT, n_eqF, n_m1T, n_m1F, n_m1F', n_cl, n_add, n_mul, ro_at, ro_ro, up_at, up_up, e]
end MSMALL
