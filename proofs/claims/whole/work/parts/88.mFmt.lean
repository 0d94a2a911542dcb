/-! the reference: means and shares; a pattern as text -/
def wrp (x : List Nat) : List Nat := 40 :: (x ++ [41])
def sgc (c : Nat) : Nat := if c = 6 then 42 else if c = 7 then 43 else 63
abbrev fst1 : Type := List (List Nat × Nat)
def fstep (st : fst1) (c : Nat) : fst1 := if c < 4 then ([96 + c], 3) :: st else if 6 ≤ c then (match st with
  | [] => []
  | x :: r => ((if 3 ≤ x.2 then x.1 else wrp x.1) ++ [sgc c], 2) :: r) else (match st with
  | y :: x :: r => (if c = 5 then (x.1 ++ 124 :: y.1, 0) else ((if x.2 = 0 then wrp x.1 else x.1) ++ (if y.2 = 0 then wrp y.1 else y.1), 1)) :: r
  | _ => st)
def frun (st : fst1) (p : List Nat) : fst1 := p.foldl fstep st
theorem frun_app (s : fst1) (l l' : List Nat) : frun s (l ++ l') = frun (frun s l) l' := List.foldl_append
theorem frun_1 (s : fst1) (c : Nat) : frun s [c] = fstep s c := rfl
def flt : fst1 → List Nat
  | [] => []
  | x :: r => flt r ++ x.1
theorem flt_c (x : List Nat × Nat) (r : fst1) : flt (x :: r) = flt r ++ x.1 := rfl
/-- the text of a pattern -/
def ptx (p : List Nat) : List Nat := ((frun [] p).getD 0 ([], 0)).1
section MFMT
variable {n : Nat} {h : mH} {A M : Nat → Nat → Int32} {R : Nat → Nat → Option Nat} {S : St} {g : Glu}
theorem m_meanLetters (hi : IM M S) (hg : GoodS S) : ∃ M', f_X12_meanLetters (ma n 0) (E n h A M R) = some (if nPat (sCur S) = 0 then FP.i2d (nI 0) else FP.ddiv (FP.i2d (nI (lSum (sCur S) 6))) (FP.i2d (nI (nPat (sCur S)))), E n h A M' R) ∧ IM M' S ∧ M' 0 0 = nI (if nPat (sCur S) = 0 then 1 else 0) := by
  have h0 : IM (ro M 0 (up (M 0) 0 (nI 0))) S := IM_thrown hi
  have h6 := nPat_le (sCur S)
  have hp : ∀ M1, IM M1 S → f_X12_patterns (ma n 0) (E n h A M1 R) = some (nI (nPat (sCur S)), E n h A M1 R) := fun M1 i1 => m_patterns i1.1 (good_28 hg)
  unfold f_X12_meanLetters
  by_cases e0 : nPat (sCur S) = 0
  · obtain ⟨M', e, i, t⟩ := m_failed (n := n) (h := h) (A := A) (R := R) (k := 1) h0
    have hp0 := hp _ h0
    rw [e0] at hp0
    refine ⟨M', ?_, i, by rw [if_pos e0]; exact t⟩
    rw [if_pos e0]
    simp (disch := omega) only [↓grd_u, ↓bnd_e, ↓orf_u, ↓oif_u, ↓cal_u, ↓calX_u, ↓inrO_u, ↓reduceIte, EM, EMg, EMs, z0, oi, n_inbT, n_cntT, n_ltT, n_ltF, n_leT, n_leF, n_eqT, n_eqF, n_m1T, n_m1F, n_m1F', n_cl, n_add, n_mul, ro_at, ro_ro, up_at, up_up, hp0]
    simp (disch := omega) only [↓grd_u, ↓bnd_e, ↓orf_u, ↓oif_u, ↓cal_u, ↓calX_u, ↓inrO_u, ↓reduceIte, EM, EMg, EMs, z0, oi, n_inbT, n_cntT, n_ltT, n_ltF, n_leT, n_leF, n_eqT, n_eqF, n_m1T, n_m1F, n_m1F', n_cl, n_add, n_mul, ro_at, ro_ro, up_at, up_up, e]
  · have hs : lSum (sCur S) 6 < 64 := by
      have a := fun s (hs : s < 6) => nLet_lt hg hs
      have a0 := a 0 (by decide)
      have a1 := a 1 (by decide)
      have a2 := a 2 (by decide)
      have a3 := a 3 (by decide)
      have a4 := a 4 (by decide)
      have a5 := a 5 (by decide)
      have z : lSum (sCur S) 0 = 0 := rfl
      rw [lSum_snoc, lSum_snoc, lSum_snoc, lSum_snoc, lSum_snoc, lSum_snoc]
      omega
    have hv := fp_dv _ hs _ (show nPat (sCur S) < 7 by omega) (by omega)
    refine ⟨_, ?_, h0, by rw [if_neg e0, ro_at, up_at]⟩
    rw [if_neg e0]
    have hl : g_X12_meanLetters_23 (ma n 0) (nI 0) (nI 0) (E n h A (ro M 0 (up (M 0) 0 (nI 0))) R) = some (FP.ddiv (FP.i2d (nI (lSum (sCur S) 6))) (FP.i2d (nI (nPat (sCur S)))), E n h A (ro M 0 (up (M 0) 0 (nI 0))) R) := by
      unfold g_X12_meanLetters_23
      refine lp_for0 (f := b_X12_meanLetters_23 (ma n 0)) (fun k => (nI (lSum (sCur S) k), nI k, E n h A (ro M 0 (up (M 0) 0 (nI 0))) R)) 6 _ (fun k hk => ?_) ?_ (L := 100000) (by decide)
      · have hl := m_lettersOf (n := n) (h := h) (A := A) (R := R) h0.1 hg hk
        unfold b_X12_meanLetters_23 b0_X12_meanLetters_23
        rw [lSum_snoc]
        simp (disch := omega) only [↓grd_u, ↓bnd_e, ↓orf_u, ↓oif_u, ↓cal_u, ↓calX_u, ↓inrO_u, ↓reduceIte, EM, EMg, EMs, z0, oi, n_inbT, n_cntT, n_ltT, n_ltF, n_leT, n_leF, n_eqT, n_eqF, n_m1T, n_m1F, n_m1F', n_cl, n_add, n_mul, ro_at, ro_ro, up_at, up_up, hl]
      · unfold b_X12_meanLetters_23 b0_X12_meanLetters_23
        simp (disch := omega) only [↓grd_u, ↓bnd_e, ↓orf_u, ↓oif_u, ↓cal_u, ↓calX_u, ↓inrO_u, ↓reduceIte, EM, EMg, EMs, z0, oi, n_inbT, n_cntT, n_ltT, n_ltF, n_leT, n_leF, n_eqT, n_eqF, n_m1T, n_m1F, n_m1F', n_cl, n_add, n_mul, ro_at, ro_ro, up_at, up_up, hp _ h0, hv]
    simp (disch := omega) only [↓grd_u, ↓bnd_e, ↓orf_u, ↓oif_u, ↓cal_u, ↓calX_u, ↓inrO_u, ↓reduceIte, EM, EMg, EMs, z0, oi, n_inbT, n_cntT, n_ltT, n_ltF, n_leT, n_leF, n_eqT, n_eqF, n_m1T, n_m1F, n_m1F', n_cl, n_add, n_mul, ro_at, ro_ro, up_at, up_up, hp _ h0, hl]
theorem m_acceptedShare {v : Int32} (hi : IM M S) (hg : GoodS S) : ∃ M' b, f_X12_acceptedShare (ma n 0) v (E n h A M R) = some (b, E n h A M' R) ∧ IM M' S ∧ (match patN S v with
    | some s => if (lW (sCur S)).length = 0 then M' 0 0 = nI 2 else M' 0 0 = nI 0 ∧ b = FP.fdiv (FP.i2f (nI (acN S (gluOf (lP (sCur S) s)) (lW (sCur S)).length))) (FP.i2f (nI (lW (sCur S)).length))
    | none => M' 0 0 = nI 1) := by
  have h0 : IM (ro M 0 (up (M 0) 0 (nI 0))) S := IM_thrown hi
  have h8 := hg.1.2.1
  have ew : (ro M 0 (up (M 0) 0 (nI 0))) 1 = enc (sCur S) := h0.1
  have el : M 1 1 = nI (lW (sCur S)).length := by
    have := hi.1
    rw [this]
    exact enc_1 _
  unfold f_X12_acceptedShare g_X12_acceptedShare_52
  rcases pat_cases S v with ⟨s, hs, rfl, hp, e⟩ | ⟨e, hc⟩
  · rw [e]
    dsimp only
    by_cases e0 : (lW (sCur S)).length = 0
    · obtain ⟨M', e, i, t⟩ := m_failed (n := n) (h := h) (A := A) (R := R) (k := 2) h0
      rw [e0] at el
      refine ⟨M', FP.i2f (nI 0), ?_, i, by rw [if_pos e0]; exact t⟩
      simp (disch := omega) only [↓grd_u, ↓bnd_e, ↓orf_u, ↓oif_u, ↓cal_u, ↓calX_u, ↓inrO_u, ↓reduceIte, EM, EMg, EMs, z0, oi, n_inbT, n_cntT, n_ltT, n_ltF, n_leT, n_leF, n_eqT, n_eqF, n_m1T, n_m1F, n_m1F', n_cl, n_add, n_mul, ro_at, ro_ro, up_at, up_up, ro_ne, up_ne, ro_sw, holdsT h0 hg hs hp, el]
      simp (disch := omega) only [↓grd_u, ↓bnd_e, ↓orf_u, ↓oif_u, ↓cal_u, ↓calX_u, ↓inrO_u, ↓reduceIte, EM, EMg, EMs, z0, oi, n_inbT, n_cntT, n_ltT, n_ltF, n_leT, n_leF, n_eqT, n_eqF, n_m1T, n_m1F, n_m1F', n_cl, n_add, n_mul, ro_at, ro_ro, up_at, up_up, e]
    · obtain ⟨M2, e2, i2, t2⟩ := m_accepted (n := n) (h := h) (A := A) (R := R) h0 hg hs hp
      have el2 : M2 1 1 = nI (lW (sCur S)).length := by
        have := i2.1
        rw [this]
        exact enc_1 _
      have hle : acN S (gluOf (lP (sCur S) s)) (lW (sCur S)).length ≤ (lW (sCur S)).length := csn_le _ _
      have hv := fp_fv (acN S (gluOf (lP (sCur S) s)) (lW (sCur S)).length) (by omega) (lW (sCur S)).length (by omega) (by omega)
      refine ⟨M2, FP.fdiv (FP.i2f (nI (acN S (gluOf (lP (sCur S) s)) (lW (sCur S)).length))) (FP.i2f (nI (lW (sCur S)).length)), ?_, i2, by rw [if_neg e0]; exact ⟨by rw [t2, ro_at, up_at], rfl⟩⟩
      simp (disch := omega) only [↓grd_u, ↓bnd_e, ↓orf_u, ↓oif_u, ↓cal_u, ↓calX_u, ↓inrO_u, ↓reduceIte, EM, EMg, EMs, z0, oi, n_inbT, n_cntT, n_ltT, n_ltF, n_leT, n_leF, n_eqT, n_eqF, n_m1T, n_m1F, n_m1F', n_cl, n_add, n_mul, ro_at, ro_ro, up_at, up_up, ro_ne, up_ne, ro_sw, holdsT h0 hg hs hp, el]
      simp (disch := omega) only [↓grd_u, ↓bnd_e, ↓orf_u, ↓oif_u, ↓cal_u, ↓calX_u, ↓inrO_u, ↓reduceIte, EM, EMg, EMs, z0, oi, n_inbT, n_cntT, n_ltT, n_ltF, n_leT, n_leF, n_eqT, n_eqF, n_m1T, n_m1F, n_m1F', n_cl, n_add, n_mul, ro_at, ro_ro, up_at, up_up, e2, el2, hv]
  · have hh := m_holdsX (n := n) (h := h) (A := A) (R := R) h0 e hc
    rw [e]
    obtain ⟨M', e, i, t⟩ := m_failed (n := n) (h := h) (A := A) (R := R) (k := 1) h0
    refine ⟨M', FP.i2f (nI 0), ?_, i, t⟩
    simp (disch := omega) only [↓grd_u, ↓bnd_e, ↓orf_u, ↓oif_u, ↓cal_u, ↓calX_u, ↓inrO_u, ↓reduceIte, EM, EMg, EMs, z0, oi, n_inbT, n_cntT, n_ltT, n_ltF, n_leT, n_leF, n_eqT, n_eqF, n_m1T, n_m1F, n_m1F', n_cl, n_add, n_mul, ro_at, ro_ro, up_at, up_up, hh]
    simp (disch := omega) only [↓grd_u, ↓bnd_e, ↓orf_u, ↓oif_u, ↓cal_u, ↓calX_u, ↓inrO_u, ↓reduceIte, EM, EMg, EMs, z0, oi, n_inbT, n_cntT, n_ltT, n_ltF, n_leT, n_leF, n_eqT, n_eqF, n_m1T, n_m1F, n_m1F', n_cl, n_add, n_mul, ro_at, ro_ro, up_at, up_up, e]
theorem m_isConsistent (hi : IM M S) (hg : GoodS S) : MA n h A R (f_X12_isConsistent (ma n 0) (E n h A M R)) (0, 1, S) := by
  have h0 : IM (ro M 0 (up (M 0) 0 (nI 0))) S := IM_thrown hi
  have h8 := hg.1.2.1
  have el : M 1 1 = nI (lW (sCur S)).length := by
    have := hi.1
    rw [this]
    exact enc_1 _
  have n1 : vp_nar .boolean (nI 1) = nI 1 := by decide +kernel
  refine ⟨_, ?_, h0, by rw [ro_at, up_at]⟩
  unfold f_X12_isConsistent g_X12_isConsistent_19
  simp (disch := omega) only [↓grd_u, ↓bnd_e, ↓orf_u, ↓oif_u, ↓cal_u, ↓calX_u, ↓inrO_u, ↓reduceIte, EM, EMg, EMs, z0, oi, n_inbT, n_cntT, n_ltT, n_ltF, n_leT, n_leF, n_eqT, n_eqF, n_m1T, n_m1F, n_m1F', n_cl, n_add, n_mul, ro_at, ro_ro, up_at, up_up, ro_ne, up_ne, ro_sw, el, n1]
end MFMT
