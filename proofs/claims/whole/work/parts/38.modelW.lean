section MODELW
variable {n : Nat} {h : mH} {A M : Nat → Nat → Int32} {R : Nat → Nat → Option Nat} {S : St}
theorem ix_cases (v : Int32) (k : Nat) (hk : k < 2147483648) : (∃ i, i < k ∧ v = nI i) ∨ (v < nI 0 ∨ nI k ≤ v) := by
  by_cases h : v < nI 0
  · exact Or.inr (Or.inl h)
  · obtain ⟨j, hj, rfl⟩ := nI_of h
    by_cases h2 : j < k
    · exact Or.inl ⟨j, h2, rfl⟩
    · exact Or.inr (Or.inr (by rw [n_le hk hj]; omega))
def ixN (v : Int32) (k : Nat) : Option Nat := if v < nI 0 ∨ nI k ≤ v then none else some v.toNatClampNeg
theorem ixN_T {i k : Nat} (h : i < k) (hk : k < 2147483648) : ixN (nI i) k = some i := by
  unfold ixN
  rw [if_neg (by rw [n_lt (by omega) (by decide), n_le hk (by omega)]; omega), n_cl (by omega)]
theorem ixN_F {v : Int32} {k : Nat} (h : v < nI 0 ∨ nI k ≤ v) : ixN v k = none := if_pos h
/-- below k, as the reference asks it: at most k - 1 -/
theorem lt_pred {v : Int32} {k : Nat} (hk : k < 2147483648) (h : v < nI 0 ∨ nI k ≤ v) : v < nI 0 ∨ nI k - nI 1 < v := by
  rcases h with h | h
  · exact Or.inl h
  · by_cases h0 : v < nI 0
    · exact Or.inl h0
    · obtain ⟨j, hj, rfl⟩ := nI_of h0
      rw [n_le hk hj] at h
      refine Or.inr ?_
      by_cases hz : k = 0
      · subst hz
        have e : nI 0 - nI 1 = Int32.ofInt (-1) := by decide +kernel
        rw [e, Int32.lt_iff_toInt_lt, nI_toInt hj]
        have : (Int32.ofInt (-1)).toInt = -1 := by decide +kernel
        omega
      · rw [n_sub (by omega), n_lt (by omega) hj]
        omega
theorem m_isWordT {i : Nat} (hw : M 1 = enc (sCur S)) (hi : i < (lW (sCur S)).length) (h8 : (lW (sCur S)).length ≤ 8) : f_X12_isWord (ma n 0) (nI i) (E n h A M R) = some (nI 1, E n h A M R) := by
  unfold f_X12_isWord
  simp (disch := omega) only [↓grd_u, ↓bnd_e, ↓orf_u, ↓oif_u, ↓cal_u, ↓calX_u, ↓inrO_u, ↓reduceIte, EM, EMg, EMs, z0, oi, n_inbT, n_cntT, n_ltT, n_ltF, n_leT, n_leF, n_eqT, n_eqF, n_m1T, n_m1F, n_m1F', n_cl, n_add, n_mul, ro_at, ro_ro, up_at, up_up, hw, enc_1, n_sub, m_between, nz1]
theorem m_isWordF {v : Int32} (hw : M 1 = enc (sCur S)) (h8 : (lW (sCur S)).length ≤ 8) (hv : v < nI 0 ∨ nI (lW (sCur S)).length ≤ v) : f_X12_isWord (ma n 0) v (E n h A M R) = some (nI 0, E n h A M R) := by
  unfold f_X12_isWord
  have h2 := lt_pred (by omega) hv
  simp (disch := omega) only [↓grd_u, ↓bnd_e, ↓orf_u, ↓oif_u, ↓cal_u, ↓calX_u, ↓inrO_u, ↓reduceIte, EM, EMg, EMs, z0, oi, n_inbT, n_cntT, n_ltT, n_ltF, n_leT, n_leF, n_eqT, n_eqF, n_m1T, n_m1F, n_m1F', n_cl, n_add, n_mul, ro_at, ro_ro, up_at, up_up, hw, enc_1]
  rw [m_betweenF h2]
  simp (disch := omega) only [↓grd_u, ↓bnd_e, ↓orf_u, ↓oif_u, ↓cal_u, ↓calX_u, ↓inrO_u, ↓reduceIte, EM, EMg, EMs, z0, oi, n_inbT, n_cntT, n_ltT, n_ltF, n_leT, n_leF, n_eqT, n_eqF, n_m1T, n_m1F, n_m1F', n_cl, n_add, n_mul, ro_at, ro_ro, up_at, up_up, nz0]
theorem m_wordCount (hi : IM M S) : MA n h A R (f_X12_wordCount (ma n 0) (E n h A M R)) (0, (lW (sCur S)).length, S) := by
  have h0 : IM (ro M 0 (up (M 0) 0 (nI 0))) S := IM_thrown hi
  refine ⟨_, ?_, h0, by rw [ro_at, up_at]⟩
  unfold f_X12_wordCount
  simp (disch := omega) only [↓grd_u, ↓bnd_e, ↓orf_u, ↓oif_u, ↓cal_u, ↓calX_u, ↓inrO_u, ↓reduceIte, EM, EMg, EMs, z0, oi, n_inbT, n_cntT, n_ltT, n_ltF, n_leT, n_leF, n_eqT, n_eqF, n_m1T, n_m1F, n_m1F', n_cl, n_add, n_mul, ro_at, ro_ro, up_at, up_up, h0.1, enc_1]
theorem m_definedTotal (hi : IM M S) : MA n h A R (f_X12_definedTotal (ma n 0) (E n h A M R)) (0, lD (sCur S), S) := by
  have h0 : IM (ro M 0 (up (M 0) 0 (nI 0))) S := IM_thrown hi
  refine ⟨_, ?_, h0, by rw [ro_at, up_at]⟩
  unfold f_X12_definedTotal
  simp (disch := omega) only [↓grd_u, ↓bnd_e, ↓orf_u, ↓oif_u, ↓cal_u, ↓calX_u, ↓inrO_u, ↓reduceIte, EM, EMg, EMs, z0, oi, n_inbT, n_cntT, n_ltT, n_ltF, n_leT, n_leF, n_eqT, n_eqF, n_m1T, n_m1F, n_m1F', n_cl, n_add, n_mul, ro_at, ro_ro, up_at, up_up, h0.1, enc_0]
theorem m_undoableCount (hi : IM M S) : MA n h A R (f_X12_undoableCount (ma n 0) (E n h A M R)) (0, (sUndo S).length, S) := by
  have h0 : IM (ro M 0 (up (M 0) 0 (nI 0))) S := IM_thrown hi
  refine ⟨_, ?_, h0, by rw [ro_at, up_at]⟩
  obtain ⟨f, -, -, e, -⟩ := h0.2.1
  unfold f_X12_undoableCount
  simp (disch := omega) only [↓grd_u, ↓bnd_e, ↓orf_u, ↓oif_u, ↓cal_u, ↓calX_u, ↓inrO_u, ↓reduceIte, EM, EMg, EMs, z0, oi, n_inbT, n_cntT, n_ltT, n_ltF, n_leT, n_leF, n_eqT, n_eqF, n_m1T, n_m1F, n_m1F', n_cl, n_add, n_mul, ro_at, ro_ro, up_at, up_up, e]
theorem m_wordLength {v : Int32} (hi : IM M S) (hg : GoodS S) : MA n h A R (f_X12_wordLength (ma n 0) v (E n h A M R)) (match ixN v (lW (sCur S)).length with | some i => (0, ((lW (sCur S)).getD i []).length, S) | none => (1, 0, S)) := by
  have h0 : IM (ro M 0 (up (M 0) 0 (nI 0))) S := IM_thrown hi
  have h8 := hg.1.2.1
  unfold f_X12_wordLength g_X12_wordLength_34
  rcases ix_cases v (lW (sCur S)).length (by omega) with ⟨i, hk, rfl⟩ | hv
  · rw [ixN_T hk (by omega)]
    refine ⟨_, ?_, h0, by rw [ro_at, up_at]⟩
    simp (disch := omega) only [↓grd_u, ↓bnd_e, ↓orf_u, ↓oif_u, ↓cal_u, ↓calX_u, ↓inrO_u, ↓reduceIte, EM, EMg, EMs, z0, oi, n_inbT, n_cntT, n_ltT, n_ltF, n_leT, n_leF, n_eqT, n_eqF, n_m1T, n_m1F, n_m1F', n_cl, n_add, n_mul, ro_at, ro_ro, up_at, up_up, m_isWordT h0.1 hk h8, h0.1, enc_wl]
  · rw [ixN_F hv]
    obtain ⟨M', e, i, t⟩ := m_failed (n := n) (h := h) (A := A) (R := R) (k := 1) h0
    refine ⟨M', ?_, i, t⟩
    simp (disch := omega) only [↓grd_u, ↓bnd_e, ↓orf_u, ↓oif_u, ↓cal_u, ↓calX_u, ↓inrO_u, ↓reduceIte, EM, EMg, EMs, z0, oi, n_inbT, n_cntT, n_ltT, n_ltF, n_leT, n_leF, n_eqT, n_eqF, n_m1T, n_m1F, n_m1F', n_cl, n_add, n_mul, ro_at, ro_ro, up_at, up_up, m_isWordF h0.1 h8 hv]
    simp (disch := omega) only [↓grd_u, ↓bnd_e, ↓orf_u, ↓oif_u, ↓cal_u, ↓calX_u, ↓inrO_u, ↓reduceIte, EM, EMg, EMs, z0, oi, n_inbT, n_cntT, n_ltT, n_ltF, n_leT, n_leF, n_eqT, n_eqF, n_m1T, n_m1F, n_m1F', n_cl, n_add, n_mul, ro_at, ro_ro, up_at, up_up, e]
theorem m_errorPosition (hi : IM M S) (hg : GoodS S) : MA n h A R (f_X12_errorPosition (ma n 0) (E n h A M R)) (match sErr S with | some e => (0, e, S) | none => (1, 0, S)) := by
  have h0 : IM (ro M 0 (up (M 0) 0 (nI 0))) S := IM_thrown hi
  have he := h0.2.2.2.2.2.2.1
  have hq := hg.2.2.2.2.2.2.1
  unfold f_X12_errorPosition g_X12_errorPosition_24
  cases hs : sErr S with
  | some x =>
    rw [hs] at he hq
    have hx := hq x rfl
    refine ⟨_, ?_, h0, by rw [ro_at, up_at]⟩
    simp (disch := omega) only [↓grd_u, ↓bnd_e, ↓orf_u, ↓oif_u, ↓cal_u, ↓calX_u, ↓inrO_u, ↓reduceIte, EM, EMg, EMs, z0, oi, n_inbT, n_cntT, n_ltT, n_ltF, n_leT, n_leF, n_eqT, n_eqF, n_m1T, n_m1F, n_m1F', n_cl, n_add, n_mul, ro_at, ro_ro, up_at, up_up, he, oI]
  | none =>
    rw [hs] at he
    obtain ⟨M', e, i, t⟩ := m_failed (n := n) (h := h) (A := A) (R := R) (k := 1) h0
    refine ⟨M', ?_, i, t⟩
    have hneg : ¬ (nI 0 ≤ Int32.ofInt (-1)) := by decide +kernel
    simp (disch := omega) only [↓grd_u, ↓bnd_e, ↓orf_u, ↓oif_u, ↓cal_u, ↓calX_u, ↓inrO_u, ↓reduceIte, EM, EMg, EMs, z0, oi, n_inbT, n_cntT, n_ltT, n_ltF, n_leT, n_leF, n_eqT, n_eqF, n_m1T, n_m1F, n_m1F', n_cl, n_add, n_mul, ro_at, ro_ro, up_at, up_up, he, oI, hneg]
    simp (disch := omega) only [↓grd_u, ↓bnd_e, ↓orf_u, ↓oif_u, ↓cal_u, ↓calX_u, ↓inrO_u, ↓reduceIte, EM, EMg, EMs, z0, oi, n_inbT, n_cntT, n_ltT, n_ltF, n_leT, n_leF, n_eqT, n_eqF, n_m1T, n_m1F, n_m1F', n_cl, n_add, n_mul, ro_at, ro_ro, up_at, up_up, e]
theorem m_failedCommand (hi : IM M S) (hg : GoodS S) : MA n h A R (f_X12_failedCommand (ma n 0) (E n h A M R)) (match sFail S with | some e => (0, e, S) | none => (1, 0, S)) := by
  have h0 : IM (ro M 0 (up (M 0) 0 (nI 0))) S := IM_thrown hi
  have he := h0.2.2.2.2.2.2.2.1
  have hq := hg.2.2.2.2.2.2.2.1
  unfold f_X12_failedCommand g_X12_failedCommand_24
  cases hs : sFail S with
  | some x =>
    rw [hs] at he hq
    have hx := hq x rfl
    refine ⟨_, ?_, h0, by rw [ro_at, up_at]⟩
    simp (disch := omega) only [↓grd_u, ↓bnd_e, ↓orf_u, ↓oif_u, ↓cal_u, ↓calX_u, ↓inrO_u, ↓reduceIte, EM, EMg, EMs, z0, oi, n_inbT, n_cntT, n_ltT, n_ltF, n_leT, n_leF, n_eqT, n_eqF, n_m1T, n_m1F, n_m1F', n_cl, n_add, n_mul, ro_at, ro_ro, up_at, up_up, he, oI]
  | none =>
    rw [hs] at he
    obtain ⟨M', e, i, t⟩ := m_failed (n := n) (h := h) (A := A) (R := R) (k := 1) h0
    refine ⟨M', ?_, i, t⟩
    have hneg : ¬ (nI 0 ≤ Int32.ofInt (-1)) := by decide +kernel
    simp (disch := omega) only [↓grd_u, ↓bnd_e, ↓orf_u, ↓oif_u, ↓cal_u, ↓calX_u, ↓inrO_u, ↓reduceIte, EM, EMg, EMs, z0, oi, n_inbT, n_cntT, n_ltT, n_ltF, n_leT, n_leF, n_eqT, n_eqF, n_m1T, n_m1F, n_m1F', n_cl, n_add, n_mul, ro_at, ro_ro, up_at, up_up, he, oI, hneg]
    simp (disch := omega) only [↓grd_u, ↓bnd_e, ↓orf_u, ↓oif_u, ↓cal_u, ↓calX_u, ↓inrO_u, ↓reduceIte, EM, EMg, EMs, z0, oi, n_inbT, n_cntT, n_ltT, n_ltF, n_leT, n_leF, n_eqT, n_eqF, n_m1T, n_m1F, n_m1F', n_cl, n_add, n_mul, ro_at, ro_ro, up_at, up_up, e]
/-! the buffer -/
def setText (S : St) (T : List Nat) : St := (sCur S, sUndo S, sSaved S, T, sErr S, sFail S, sLine S)
theorem IM_text0 (hi : IM M S) : IM (ro M 0 (up (M 0) 11 (nI 0))) (setText S []) := by
  obtain ⟨a1, a2, a3, a4, a5, a6, a8, a9, a10⟩ := hi
  refine ⟨by rw [ro_ne _ _ (by decide)]; exact a1, Ring_fr a2 (Fr_r0 (rows := []) (sc := [11]) _ (by decide)) (by decide) (by decide) (by decide), a3, a4, a5, ⟨by rw [ro_at, up_at]; rfl, fun k hk => absurd hk (Nat.not_lt_zero k)⟩, a8, a9, a10⟩
theorem m_clearBuffer (hi : IM M S) : MA n h A R (f_X12_clearBuffer (ma n 0) (E n h A M R)) (0, (sText S).length, setText S []) := by
  have h0 : IM (ro M 0 (up (M 0) 0 (nI 0))) S := IM_thrown hi
  refine ⟨_, ?_, IM_text0 h0, by rw [ro_at, up_ne _ _ (by decide), ro_at, up_at]⟩
  have ht := h0.2.2.2.2.2.1.1
  unfold f_X12_clearBuffer
  simp (disch := omega) only [↓grd_u, ↓bnd_e, ↓orf_u, ↓oif_u, ↓cal_u, ↓calX_u, ↓inrO_u, ↓reduceIte, EM, EMg, EMs, z0, oi, n_inbT, n_cntT, n_ltT, n_ltF, n_leT, n_leF, n_eqT, n_eqF, n_m1T, n_m1F, n_m1F', n_cl, n_add, n_mul, ro_at, ro_ro, up_at, up_up, ht]
/-- a character that can be appended -/
def chN (v : Int32) : Option Nat := if v < nI 32 ∨ nI 126 < v then none else some v.toNatClampNeg
theorem ch_cases (v : Int32) : (∃ c, 32 ≤ c ∧ c ≤ 126 ∧ v = nI c ∧ chN v = some c) ∨ ((v < nI 32 ∨ nI 126 < v) ∧ chN v = none) := by
  by_cases h : v < nI 32 ∨ nI 126 < v
  · exact Or.inr ⟨h, if_pos h⟩
  · have h0 : ¬ v < nI 0 := fun q => h (Or.inl (by rw [Int32.lt_iff_toInt_lt] at q ⊢; rw [nI_toInt (by decide)] at q ⊢; omega))
    obtain ⟨j, hj, rfl⟩ := nI_of h0
    have h2 := h
    rw [n_lt hj (by decide), n_lt (by decide) hj] at h2
    exact Or.inl ⟨j, by omega, by omega, rfl, by unfold chN; rw [if_neg h, n_cl hj]⟩
theorem nar_ch : ∀ c, c < 128 → vp_nar .char (nI c) = nI c := by decide +kernel
def aApp (S : St) (v : Int32) : Nat × Nat × St := match chN v with
  | some c => if (sText S).length = 60 then (2, 0, S) else (0, (sText S).length + 1, setText S (sText S ++ [c]))
  | none => (1, 0, S)
theorem m_append {v : Int32} (hi : IM M S) (hg : GoodS S) : MA n h A R (f_X12_append (ma n 0) v (E n h A M R)) (aApp S v) := by
  have h0 : IM (ro M 0 (up (M 0) 0 (nI 0))) S := IM_thrown hi
  obtain ⟨a1, a2, a3, a4, a5, ⟨t1, t2⟩, a8, a9, a10⟩ := id h0
  have h60 := hg.2.2.2.2.1
  unfold f_X12_append
  rcases ch_cases v with ⟨c, h1, h2, rfl, e⟩ | ⟨hv, e⟩
  · unfold aApp
    rw [e]
    by_cases h6 : (sText S).length = 60
    · obtain ⟨M', e, i, t⟩ := m_failed (n := n) (h := h) (A := A) (R := R) (k := 2) h0
      dsimp only
      rw [if_pos h6]
      refine ⟨M', ?_, i, t⟩
      simp (disch := omega) only [↓grd_u, ↓bnd_e, ↓orf_u, ↓oif_u, ↓cal_u, ↓calX_u, ↓inrO_u, ↓reduceIte, EM, EMg, EMs, z0, oi, n_inbT, n_cntT, n_ltT, n_ltF, n_leT, n_leF, n_eqT, n_eqF, n_m1T, n_m1F, n_m1F', n_cl, n_add, n_mul, ro_at, ro_ro, up_at, up_up, m_between, t1]
      simp (disch := omega) only [↓grd_u, ↓bnd_e, ↓orf_u, ↓oif_u, ↓cal_u, ↓calX_u, ↓inrO_u, ↓reduceIte, EM, EMg, EMs, z0, oi, n_inbT, n_cntT, n_ltT, n_ltF, n_leT, n_leF, n_eqT, n_eqF, n_m1T, n_m1F, n_m1F', n_cl, n_add, n_mul, ro_at, ro_ro, up_at, up_up, e]
    · dsimp only
      rw [if_neg h6]
      have hc := nar_ch c (by omega)
      refine ⟨ro (ro (ro M 0 (up (M 0) 0 (nI 0))) 6 (up ((ro M 0 (up (M 0) 0 (nI 0))) 6) (sText S).length (nI c))) 0 (up ((ro M 0 (up (M 0) 0 (nI 0))) 0) 11 (nI ((sText S).length + 1))), ?_, ⟨?_, ?_, ?_, ?_, ?_, ⟨?_, ?_⟩, ?_, ?_, ?_, ?_⟩, ?_⟩
      · have t3 : M 0 11 = nI (sText S).length := hi.2.2.2.2.2.1.1
        simp (disch := omega) only [↓grd_u, ↓bnd_e, ↓orf_u, ↓oif_u, ↓cal_u, ↓calX_u, ↓inrO_u, ↓reduceIte, EM, EMg, EMs, z0, oi, n_inbT, n_cntT, n_ltT, n_ltF, n_leT, n_leF, n_eqT, n_eqF, n_m1T, n_m1F, n_m1F', n_cl, n_add, n_mul, ro_at, ro_ro, up_at, up_up, ro_ne, up_ne, ro_sw, m_between, t1, t3, hc]
      · simp only [ro_ne _ _ (show 1 ≠ 0 by decide), ro_ne _ _ (show 1 ≠ 6 by decide)] at a1 ⊢; exact a1
      · exact Ring_fr (Ring_fr a2 (Fr_ro (rows := [6]) (sc := []) _ (by decide) (by decide)) (by decide) (by decide) (by decide)) (Fr_r0 (rows := []) (sc := [11]) _ (by decide)) (by decide) (by decide) (by decide)
      · exact a3
      · exact a4
      · exact a5
      · show _ = nI (sText S ++ [c]).length
        rw [ro_at, up_at, List.length_append]; rfl
      · intro k hk
        have hk : k < (sText S ++ [c]).length := hk
        show (ro (_ : Nat → Nat → Int32) 0 _ 6) k = nI ((sText S ++ [c]).getD k 0)
        rw [ro_ne _ _ (by decide), ro_at]
        rw [List.length_append, List.length_singleton] at hk
        by_cases h7 : k = (sText S).length
        · subst h7
          rw [up_at, gD_r (by omega), Nat.sub_self]
          rfl
        · rw [up_ne _ _ h7, gD_l (by omega)]
          exact t2 k (by omega)
      · exact a8
      · exact a9
      · exact a10.1
      · exact a10.2
      · rw [ro_at, up_ne _ _ (by decide), ro_at, up_at]
  · unfold aApp
    rw [e]
    obtain ⟨M', e, i, t⟩ := m_failed (n := n) (h := h) (A := A) (R := R) (k := 1) h0
    refine ⟨M', ?_, i, t⟩
    simp (disch := omega) only [↓grd_u, ↓bnd_e, ↓orf_u, ↓oif_u, ↓cal_u, ↓calX_u, ↓inrO_u, ↓reduceIte, EM, EMg, EMs, z0, oi, n_inbT, n_cntT, n_ltT, n_ltF, n_leT, n_leF, n_eqT, n_eqF, n_m1T, n_m1F, n_m1F', n_cl, n_add, n_mul, ro_at, ro_ro, up_at, up_up, m_betweenF hv]
    simp (disch := omega) only [↓grd_u, ↓bnd_e, ↓orf_u, ↓oif_u, ↓cal_u, ↓calX_u, ↓inrO_u, ↓reduceIte, EM, EMg, EMs, z0, oi, n_inbT, n_cntT, n_ltT, n_ltF, n_leT, n_leF, n_eqT, n_eqF, n_m1T, n_m1F, n_m1F', n_cl, n_add, n_mul, ro_at, ro_ro, up_at, up_up, e]
end MODELW
