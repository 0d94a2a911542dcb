/-! the reference: words accepted -/
section MACC
variable {n : Nat} {h : mH} {A M : Nat → Nat → Int32} {R : Nat → Nat → Option Nat} {S : St}
theorem lets_len (T : List Nat) : (lets T).length = T.length := by unfold lets; rw [List.length_map]
theorem lets_le3 {T : List Nat} (h : okW T 0 T.length = 1) : le3 (lets T) := fun c hc => by
  unfold lets at hc
  obtain ⟨d, hd, rfl⟩ := List.mem_map.mp hc
  obtain ⟨j, hj, e⟩ := List.getElem_of_mem hd
  have := (okW_1.mp h) j hj
  rw [Nat.zero_add, List.getD_eq_getElem?_getD, List.getElem?_eq_getElem hj] at this
  have h2 : 97 ≤ T[j] ∧ T[j] ≤ 99 := this
  rw [e] at h2
  omega
theorem okT_dec (S : St) : (okW (sText S) 0 (sText S).length = 1 ∧ (sText S).length ≤ 12) ∨ ¬ (okW (sText S) 0 (sText S).length = 1 ∧ (sText S).length ≤ 12) := Classical.em _
theorem m_noneX {v : Int32} (hi : IM M S) (e : patN S v = none) (hc : (v < nI 0 ∨ nI 5 < v) ∨ ∃ s, s < 6 ∧ v = nI s ∧ lP (sCur S) s = []) : ∃ M', f_X12_hasNone (ma n 0) v (E n h A M R) = some (nI 1, E n h A M' R) ∧ IM M' S ∧ M' 0 0 = nI 1 := by
  have h0 : IM (ro M 0 (up (M 0) 0 (nI 0))) S := IM_thrown hi
  have hh := m_holdsX (n := n) (h := h) (A := A) (R := R) h0 e hc
  obtain ⟨M', e, i, t⟩ := m_failed (n := n) (h := h) (A := A) (R := R) (k := 1) h0
  refine ⟨M', ?_, i, t⟩
  unfold f_X12_hasNone g_X12_hasNone_26
  simp (disch := omega) only [↓grd_u, ↓bnd_e, ↓orf_u, ↓oif_u, ↓cal_u, ↓calX_u, ↓inrO_u, ↓reduceIte, EM, EMg, EMs, z0, oi, n_inbT, n_cntT, n_ltT, n_ltF, n_leT, n_leF, n_eqT, n_eqF, n_m1T, n_m1F, n_m1F', n_cl, n_add, n_mul, ro_at, ro_ro, up_at, up_up, hh]
  simp (disch := omega) only [↓grd_u, ↓bnd_e, ↓orf_u, ↓oif_u, ↓cal_u, ↓calX_u, ↓inrO_u, ↓reduceIte, EM, EMg, EMs, z0, oi, n_inbT, n_cntT, n_ltT, n_ltF, n_leT, n_leF, n_eqT, n_eqF, n_m1T, n_m1F, n_m1F', n_cl, n_add, n_mul, ro_at, ro_ro, up_at, up_up, e, nz1]
/-- the word in the buffer is taken -/
theorem m_tk (hi : IM M S) (hg : GoodS S) : ∃ M', f_X12_takesWord (ma n 0) (nI 0) (nI (sText S).length) (E n h A M R) = some (nI (okW (sText S) 0 (sText S).length), E n h A M' R) ∧ IM M' S ∧ M' 0 19 = nI (sText S).length ∧ M' 0 0 = M 0 0 ∧ (okW (sText S) 0 (sText S).length = 1 → ∀ j, j < (sText S).length → M' 8 j = nI ((lets (sText S)).getD j 0)) := by
  obtain ⟨t1, t2⟩ := hi.2.2.2.2.2.1
  have h60 := hg.2.2.2.2.1
  have hT := text_lt hg
  have htk := m_takes (n := n) (h := h) (A := A) (M := M) (R := R) (T := sText S) (fr := 0) (to := (sText S).length) (Nat.zero_le _) h60 t2 hT
  rw [Nat.sub_zero] at htk
  refine ⟨_, htk, IM_fr hi (rows := [8]) (sc := [19]) ⟨fun r h0 hr => ?_, fun k hk => ?_⟩ (by decide) (by decide), by rw [ro_at, up_at], by rw [ro_at, up_ne _ _ (by decide)], fun ok j hj => ?_⟩
  · rw [ro_ne _ _ h0, ro_ne _ _ (fun e => hr (by rw [e]; simp))]
  · rw [ro_at, up_ne _ _ (fun e => hk (by rw [e]; simp))]
  · rw [ro_ne _ _ (by decide), ro_at, pre_lt _ _ hj, lets_getD hj, Nat.zero_add, t2 j hj]
    have := (okW_1.mp ok) j hj
    rw [Nat.zero_add] at this
    exact n_sub this.1
theorem m_none2 {s : Nat} (hi : IM M S) (hg : GoodS S) (hs : s < 6) (hp : lP (sCur S) s ≠ []) (hx : ¬ (okW (sText S) 0 (sText S).length = 1 ∧ (sText S).length ≤ 12)) : ∃ M', f_X12_hasNone (ma n 0) (nI s) (E n h A M R) = some (nI 1, E n h A M' R) ∧ IM M' S ∧ M' 0 0 = nI 2 := by
  have h0 : IM (ro M 0 (up (M 0) 0 (nI 0))) S := IM_thrown hi
  have hl : M 0 11 = nI (sText S).length := hi.2.2.2.2.2.1.1
  have h60 := hg.2.2.2.2.1
  obtain ⟨M1, e1, i1, w1, t1, -⟩ := m_tk (n := n) (h := h) (A := A) (R := R) h0 hg
  obtain ⟨M', e, i, t⟩ := m_failed (n := n) (h := h) (A := A) (R := R) (k := 2) i1
  refine ⟨M', ?_, i, t⟩
  unfold f_X12_hasNone g_X12_hasNone_48 g_X12_hasNone_61
  have hle := okW_le (sText S) 0 (sText S).length
  by_cases q : okW (sText S) 0 (sText S).length = 1
  · have h12 : 12 < (sText S).length := Nat.not_le.mp fun z => hx ⟨q, z⟩
    rw [q] at e1
    simp (disch := omega) only [↓grd_u, ↓bnd_e, ↓orf_u, ↓oif_u, ↓cal_u, ↓calX_u, ↓inrO_u, ↓reduceIte, EM, EMg, EMs, z0, oi, n_inbT, n_cntT, n_ltT, n_ltF, n_leT, n_leF, n_eqT, n_eqF, n_m1T, n_m1F, n_m1F', n_cl, n_add, n_mul, ro_at, ro_ro, up_at, up_up, ro_ne, up_ne, ro_sw, holdsT h0 hg hs hp, hl]
    simp (disch := omega) only [↓grd_u, ↓bnd_e, ↓orf_u, ↓oif_u, ↓cal_u, ↓calX_u, ↓inrO_u, ↓reduceIte, EM, EMg, EMs, z0, oi, n_inbT, n_cntT, n_ltT, n_ltF, n_leT, n_leF, n_eqT, n_eqF, n_m1T, n_m1F, n_m1F', n_cl, n_add, n_mul, ro_at, ro_ro, up_at, up_up, e1, w1]
    simp (disch := omega) only [↓grd_u, ↓bnd_e, ↓orf_u, ↓oif_u, ↓cal_u, ↓calX_u, ↓inrO_u, ↓reduceIte, EM, EMg, EMs, z0, oi, n_inbT, n_cntT, n_ltT, n_ltF, n_leT, n_leF, n_eqT, n_eqF, n_m1T, n_m1F, n_m1F', n_cl, n_add, n_mul, ro_at, ro_ro, up_at, up_up, e, nz1]
  · have q0 : okW (sText S) 0 (sText S).length = 0 := by omega
    rw [q0] at e1
    simp (disch := omega) only [↓grd_u, ↓bnd_e, ↓orf_u, ↓oif_u, ↓cal_u, ↓calX_u, ↓inrO_u, ↓reduceIte, EM, EMg, EMs, z0, oi, n_inbT, n_cntT, n_ltT, n_ltF, n_leT, n_leF, n_eqT, n_eqF, n_m1T, n_m1F, n_m1F', n_cl, n_add, n_mul, ro_at, ro_ro, up_at, up_up, ro_ne, up_ne, ro_sw, holdsT h0 hg hs hp, hl]
    simp (disch := omega) only [↓grd_u, ↓bnd_e, ↓orf_u, ↓oif_u, ↓cal_u, ↓calX_u, ↓inrO_u, ↓reduceIte, EM, EMg, EMs, z0, oi, n_inbT, n_cntT, n_ltT, n_ltF, n_leT, n_leF, n_eqT, n_eqF, n_m1T, n_m1F, n_m1F', n_cl, n_add, n_mul, ro_at, ro_ro, up_at, up_up, e1]
    simp (disch := omega) only [↓grd_u, ↓bnd_e, ↓orf_u, ↓oif_u, ↓cal_u, ↓calX_u, ↓inrO_u, ↓reduceIte, EM, EMg, EMs, z0, oi, n_inbT, n_cntT, n_ltT, n_ltF, n_leT, n_leF, n_eqT, n_eqF, n_m1T, n_m1F, n_m1F', n_cl, n_add, n_mul, ro_at, ro_ro, up_at, up_up, e, nz1]
theorem m_none0 {s : Nat} (hi : IM M S) (hg : GoodS S) (hs : s < 6) (hp : lP (sCur S) s ≠ []) (hx : okW (sText S) 0 (sText S).length = 1 ∧ (sText S).length ≤ 12) : ∃ M', f_X12_hasNone (ma n 0) (nI s) (E n h A M R) = some (nI 0, E n h A M' R) ∧ IM M' S ∧ M' 0 0 = nI 0 ∧ AutM M' 0 (gluOf (lP (sCur S) s)) ∧ M' 0 19 = nI (sText S).length ∧ ∀ j, j < (lets (sText S)).length → M' 8 j = nI ((lets (sText S)).getD j 0) := by
  have h0 : IM (ro M 0 (up (M 0) 0 (nI 0))) S := IM_thrown hi
  have hl : M 0 11 = nI (sText S).length := hi.2.2.2.2.2.1.1
  obtain ⟨M1, e1, i1, w1, t1, r1⟩ := m_tk (n := n) (h := h) (A := A) (R := R) h0 hg
  obtain ⟨M', eb, au, f, i, t⟩ := m_bld (n := n) (h := h) (A := A) (R := R) i1 hg hs hp
  obtain ⟨x1, x2⟩ := hx
  rw [x1] at e1
  refine ⟨M', ?_, i, by rw [t, t1, ro_at, up_at], au, by rw [f.1.2 _ (by decide)]; exact w1, fun j hj => ?_⟩
  · unfold f_X12_hasNone
    simp (disch := omega) only [↓grd_u, ↓bnd_e, ↓orf_u, ↓oif_u, ↓cal_u, ↓calX_u, ↓inrO_u, ↓reduceIte, EM, EMg, EMs, z0, oi, n_inbT, n_cntT, n_ltT, n_ltF, n_leT, n_leF, n_eqT, n_eqF, n_m1T, n_m1F, n_m1F', n_cl, n_add, n_mul, ro_at, ro_ro, up_at, up_up, ro_ne, up_ne, ro_sw, holdsT h0 hg hs hp, hl]
    simp (disch := omega) only [↓grd_u, ↓bnd_e, ↓orf_u, ↓oif_u, ↓cal_u, ↓calX_u, ↓inrO_u, ↓reduceIte, EM, EMg, EMs, z0, oi, n_inbT, n_cntT, n_ltT, n_ltF, n_leT, n_leF, n_eqT, n_eqF, n_m1T, n_m1F, n_m1F', n_cl, n_add, n_mul, ro_at, ro_ro, up_at, up_up, e1, w1]
    simp (disch := omega) only [↓grd_u, ↓bnd_e, ↓orf_u, ↓oif_u, ↓cal_u, ↓calX_u, ↓inrO_u, ↓reduceIte, EM, EMg, EMs, z0, oi, n_inbT, n_cntT, n_ltT, n_ltF, n_leT, n_leF, n_eqT, n_eqF, n_m1T, n_m1F, n_m1F', n_cl, n_add, n_mul, ro_at, ro_ro, up_at, up_up, eb]
  · rw [f.1.1 _ (by decide) (by decide)]
    rw [lets_len] at hj
    exact r1 x1 j hj
theorem b2_nar (b : Bool) : (vp_nar .boolean (nI (b2 b)) = nI (b2 b)) = True := eq_true (n_nar01 (b2_le b))
theorem m_matches {v : Int32} (hi : IM M S) (hg : GoodS S) : MA n h A R (f_X12_matches (ma n 0) v (E n h A M R)) (aMat S v) := by
  unfold f_X12_matches aMat
  rcases pat_cases S v with ⟨s, hs, rfl, hp, e⟩ | ⟨e, hc⟩
  · rw [e]
    dsimp only
    rcases okT_dec S with hx | hx
    · rw [if_pos hx]
      obtain ⟨M', e, i, t, au, ws, wr⟩ := m_none0 (n := n) (h := h) (A := A) (R := R) hi hg hs hp hx
      have ok := good_glu hg hs hp
      have hb := m_behind (n := n) (h := h) (A := A) (R := R) (w := lets (sText S)) (k := (sText S).length) au ok wr (lets_le3 hx.1) (by rw [lets_len]; omega) (by rw [lets_len]; exact Nat.le_refl _)
      rw [show (lets (sText S)).take (sText S).length = lets (sText S) from List.take_of_length_le (by rw [lets_len]; exact Nat.le_refl _)] at hb
      have hac := m_acc (n := n) (h := h) (A := A) (R := R) au ok (by decide : 0 < 2) (grn_lt ok (lets (sText S)))
      refine ⟨M', ?_, i, t⟩
      simp (disch := omega) only [↓grd_u, ↓bnd_e, ↓orf_u, ↓oif_u, ↓cal_u, ↓calX_u, ↓inrO_u, ↓reduceIte, EM, EMg, EMs, z0, oi, n_inbT, n_cntT, n_ltT, n_ltF, n_leT, n_leF, n_eqT, n_eqF, n_m1T, n_m1F, n_m1F', n_cl, n_add, n_mul, ro_at, ro_ro, up_at, up_up, e, ws, hb, hac, b2_nar]
    · rw [if_neg hx]
      obtain ⟨M', e, i, t⟩ := m_none2 (n := n) (h := h) (A := A) (R := R) hi hg hs hp hx
      refine ⟨M', ?_, i, t⟩
      simp (disch := omega) only [↓grd_u, ↓bnd_e, ↓orf_u, ↓oif_u, ↓cal_u, ↓calX_u, ↓inrO_u, ↓reduceIte, EM, EMg, EMs, z0, oi, n_inbT, n_cntT, n_ltT, n_ltF, n_leT, n_leF, n_eqT, n_eqF, n_m1T, n_m1F, n_m1F', n_cl, n_add, n_mul, ro_at, ro_ro, up_at, up_up, e]
  · rw [e]
    obtain ⟨M', e, i, t⟩ := m_noneX (n := n) (h := h) (A := A) (R := R) hi e hc
    refine ⟨M', ?_, i, t⟩
    simp (disch := omega) only [↓grd_u, ↓bnd_e, ↓orf_u, ↓oif_u, ↓cal_u, ↓calX_u, ↓inrO_u, ↓reduceIte, EM, EMg, EMs, z0, oi, n_inbT, n_cntT, n_ltT, n_ltF, n_leT, n_leF, n_eqT, n_eqF, n_m1T, n_m1F, n_m1F', n_cl, n_add, n_mul, ro_at, ro_ro, up_at, up_up, e]
theorem aMat_le (S : St) (v : Int32) : (aMat S v).2.1 ≤ 1 := by
  unfold aMat
  split
  · split
    · exact b2_le _
    · exact Nat.zero_le _
  · exact Nat.zero_le _
theorem m_matchesBySpans {v : Int32} (hi : IM M S) (hg : GoodS S) : MA n h A R (f_X12_matchesBySpans (ma n 0) v (E n h A M R)) (aMat S v) := by
  obtain ⟨M', e, i, t⟩ := m_matches (n := n) (h := h) (A := A) (R := R) (v := v) hi hg
  have hn : (vp_nar .boolean (nI (aMat S v).2.1) = nI (aMat S v).2.1) = True := eq_true (n_nar01 (aMat_le S v))
  refine ⟨M', ?_, i, t⟩
  unfold f_X12_matchesBySpans
  simp (disch := omega) only [↓grd_u, ↓bnd_e, ↓orf_u, ↓oif_u, ↓cal_u, ↓calX_u, ↓inrO_u, ↓reduceIte, EM, EMg, EMs, z0, oi, n_inbT, n_cntT, n_ltT, n_ltF, n_leT, n_leF, n_eqT, n_eqF, n_m1T, n_m1F, n_m1F', n_cl, n_add, n_mul, ro_at, ro_ro, up_at, up_up, e, hn]
theorem m_longestPrefix {v : Int32} (hi : IM M S) (hg : GoodS S) : MA n h A R (f_X12_longestPrefix (ma n 0) v (E n h A M R)) (aPre S v) := by
  unfold f_X12_longestPrefix aPre
  rcases pat_cases S v with ⟨s, hs, rfl, hp, e⟩ | ⟨e, hc⟩
  · rw [e]
    dsimp only
    rcases okT_dec S with hx | hx
    · rw [if_pos hx]
      obtain ⟨M', e, i, t, au, ws, wr⟩ := m_none0 (n := n) (h := h) (A := A) (R := R) hi hg hs hp hx
      have ok := good_glu hg hs hp
      have x2 := hx.2
      have hb := fun k (hk : k ≤ (sText S).length) => m_behind (n := n) (h := h) (A := A) (R := R) (w := lets (sText S)) (k := k) au ok wr (lets_le3 hx.1) (by rw [lets_len]; omega) (by rw [lets_len]; exact hk)
      refine ⟨M', ?_, i, t⟩
      have hl : g_X12_longestPrefix_14 (ma n 0) (nI m1) (nI 0) (E n h A M' R) = some (nI (lpx (gluOf (lP (sCur S) s)) (lets (sText S)) ((sText S).length + 1)), E n h A M' R) := by
        unfold g_X12_longestPrefix_14
        refine lp_for0 (f := b_X12_longestPrefix_14 (ma n 0)) (fun k => (nI (lpx (gluOf (lP (sCur S) s)) (lets (sText S)) k), nI k, E n h A M' R)) ((sText S).length + 1) _ (fun k hk => ?_) ?_ (L := 100000) (by omega)
        · have hbk := hb k (by omega)
          have hac := m_acc (n := n) (h := h) (A := A) (R := R) au ok (by decide : 0 < 2) (grn_lt ok ((lets (sText S)).take k))
          unfold b_X12_longestPrefix_14 b0_X12_longestPrefix_14 g_X12_longestPrefix_40
          rw [show lpx (gluOf (lP (sCur S) s)) (lets (sText S)) (k + 1) = if gab (gluOf (lP (sCur S) s)) (grn (gluOf (lP (sCur S) s)) ((lets (sText S)).take k)) = true then k else lpx (gluOf (lP (sCur S) s)) (lets (sText S)) k from rfl]
          by_cases q : gab (gluOf (lP (sCur S) s)) (grn (gluOf (lP (sCur S) s)) ((lets (sText S)).take k)) = true
          · rw [show b2 (gab (gluOf (lP (sCur S) s)) (grn (gluOf (lP (sCur S) s)) ((lets (sText S)).take k))) = 1 from if_pos q] at hac
            rw [if_pos q]
            simp (disch := omega) only [↓grd_u, ↓bnd_e, ↓orf_u, ↓oif_u, ↓cal_u, ↓calX_u, ↓inrO_u, ↓reduceIte, EM, EMg, EMs, z0, oi, n_inbT, n_cntT, n_ltT, n_ltF, n_leT, n_leF, n_eqT, n_eqF, n_m1T, n_m1F, n_m1F', n_cl, n_add, n_mul, ro_at, ro_ro, up_at, up_up, ws, hbk, hac]
          · rw [show b2 (gab (gluOf (lP (sCur S) s)) (grn (gluOf (lP (sCur S) s)) ((lets (sText S)).take k))) = 0 from if_neg q] at hac
            rw [if_neg q]
            simp (disch := omega) only [↓grd_u, ↓bnd_e, ↓orf_u, ↓oif_u, ↓cal_u, ↓calX_u, ↓inrO_u, ↓reduceIte, EM, EMg, EMs, z0, oi, n_inbT, n_cntT, n_ltT, n_ltF, n_leT, n_leF, n_eqT, n_eqF, n_m1T, n_m1F, n_m1F', n_cl, n_add, n_mul, ro_at, ro_ro, up_at, up_up, ws, hbk, hac]
        · unfold b_X12_longestPrefix_14 b0_X12_longestPrefix_14
          simp (disch := omega) only [↓grd_u, ↓bnd_e, ↓orf_u, ↓oif_u, ↓cal_u, ↓calX_u, ↓inrO_u, ↓reduceIte, EM, EMg, EMs, z0, oi, n_inbT, n_cntT, n_ltT, n_ltF, n_leT, n_leF, n_eqT, n_eqF, n_m1T, n_m1F, n_m1F', n_cl, n_add, n_mul, ro_at, ro_ro, up_at, up_up, ws]
      simp (disch := omega) only [↓grd_u, ↓bnd_e, ↓orf_u, ↓oif_u, ↓cal_u, ↓calX_u, ↓inrO_u, ↓reduceIte, EM, EMg, EMs, z0, oi, n_inbT, n_cntT, n_ltT, n_ltF, n_leT, n_leF, n_eqT, n_eqF, n_m1T, n_m1F, n_m1F', n_cl, n_add, n_mul, ro_at, ro_ro, up_at, up_up, e, m1_I, hl]
    · rw [if_neg hx]
      obtain ⟨M', e, i, t⟩ := m_none2 (n := n) (h := h) (A := A) (R := R) hi hg hs hp hx
      refine ⟨M', ?_, i, t⟩
      simp (disch := omega) only [↓grd_u, ↓bnd_e, ↓orf_u, ↓oif_u, ↓cal_u, ↓calX_u, ↓inrO_u, ↓reduceIte, EM, EMg, EMs, z0, oi, n_inbT, n_cntT, n_ltT, n_ltF, n_leT, n_leF, n_eqT, n_eqF, n_m1T, n_m1F, n_m1F', n_cl, n_add, n_mul, ro_at, ro_ro, up_at, up_up, e]
  · rw [e]
    obtain ⟨M', e, i, t⟩ := m_noneX (n := n) (h := h) (A := A) (R := R) hi e hc
    refine ⟨M', ?_, i, t⟩
    simp (disch := omega) only [↓grd_u, ↓bnd_e, ↓orf_u, ↓oif_u, ↓cal_u, ↓calX_u, ↓inrO_u, ↓reduceIte, EM, EMg, EMs, z0, oi, n_inbT, n_cntT, n_ltT, n_ltF, n_leT, n_leF, n_eqT, n_eqF, n_m1T, n_m1F, n_m1F', n_cl, n_add, n_mul, ro_at, ro_ro, up_at, up_up, e]
theorem word_le3 (hg : GoodS S) {i : Nat} (hi : i < (lW (sCur S)).length) : le3 ((lW (sCur S)).getD i []) := fun c hc => by
  obtain ⟨j, hj, e⟩ := List.getElem_of_mem hc
  have := (word_good hg hi).2 j hj
  rw [List.getD_eq_getElem?_getD, List.getElem?_eq_getElem hj] at this
  have h2 : ((lW (sCur S)).getD i [])[j] < 3 := this
  rwa [e] at h2
theorem m_sample {i : Nat} {g : Glu} (hi : IM M S) (hg : GoodS S) (ok : GluOK g) (au : AutM M 0 g) (hk : i < (lW (sCur S)).length) : ∃ M', f_X12_acceptsSample (ma n 0) (nI i) (E n h A M R) = some (nI (b2 (gab g (grn g ((lW (sCur S)).getD i [])))), E n h A M' R) ∧ Fr [8] [19] M M' := by
  have h8 := hg.1.2.1
  obtain ⟨w1, w2⟩ := word_good hg hk
  obtain ⟨w, hw⟩ : ∃ w, w = (lW (sCur S)).getD i [] := ⟨_, rfl⟩
  have w3 := word_le3 hg hk
  rw [← hw] at w1 w2 w3 ⊢
  have ew : M 1 = enc (sCur S) := hi.1
  have e1 : M 1 (176 + 9 * i) = nI w.length := by rw [ew, enc_wl _ (by omega), hw]
  have e2 : ∀ k, k < w.length → M 1 (176 + 9 * i + 1 + k) = nI (w.getD k 0) := fun k hk => by rw [ew, enc_w _ (by omega) (by omega), hw]
  obtain ⟨M1, hM1⟩ : ∃ M1, M1 = ro M 0 (up (M 0) 19 (nI w.length)) := ⟨_, rfl⟩
  obtain ⟨M2, hM2⟩ : ∃ M2, M2 = ro M1 8 (pre w.length (fun k => nI (w.getD k 0)) (M 8)) := ⟨_, rfl⟩
  have f2 : Fr [8] [19] M M2 := by
    rw [hM2, hM1]
    refine ⟨fun r h0 hr => ?_, fun k hk => ?_⟩
    · rw [ro_ne _ _ (fun e => hr (by rw [e]; simp)), ro_ne _ _ h0]
    · rw [ro_ne _ _ (by decide), ro_at, up_ne _ _ (fun e => hk (by rw [e]; simp))]
  have au2 : AutM M2 0 g := AutM_keep au f2 (by decide)
  have r2 : ∀ j, j < w.length → M2 8 j = nI (w.getD j 0) := fun j hj => by rw [hM2, ro_at, pre_lt _ _ hj]
  have s2 : M2 0 19 = nI w.length := by rw [hM2, ro_ne _ _ (by decide), hM1, ro_at, up_at]
  have hb := m_behind (n := n) (h := h) (A := A) (R := R) (w := w) (k := w.length) au2 ok r2 w3 (by omega) (Nat.le_refl _)
  rw [List.take_length] at hb
  have hac := m_acc (n := n) (h := h) (A := A) (R := R) au2 ok (by decide : 0 < 2) (grn_lt ok w)
  refine ⟨M2, ?_, f2⟩
  unfold f_X12_acceptsSample g_X12_acceptsSample_19
  simp (disch := omega) only [↓grd_u, ↓bnd_e, ↓orf_u, ↓oif_u, ↓cal_u, ↓calX_u, ↓inrO_u, ↓reduceIte, EM, EMg, EMs, z0, oi, n_inbT, n_cntT, n_ltT, n_ltF, n_leT, n_leF, n_eqT, n_eqF, n_m1T, n_m1F, n_m1F', n_cl, n_add, n_mul, ro_at, ro_ro, up_at, up_up, e1]
  rw [← hM1]
  have hl := lp_for0 (f := b_X12_acceptsSample_19 (ma n 0) (nI i)) (fun k => (nI k, E n h A (ro M1 8 (pre k (fun k => nI (w.getD k 0)) (M 8))) R)) w.length (nI (b2 (gab g (grn g w))), E n h A M2 R) (fun k hk => ?_) ?_ (L := 100000) (by omega)
  · have e0 : ro M1 8 (M 8) = M1 := by
      rw [show M 8 = M1 8 by rw [hM1, ro_ne _ _ (by decide)], ro_self]
    simp only [pre_0, e0] at hl
    exact hl
  · have e3 := e2 k hk
    have s1 : M1 0 19 = nI w.length := by rw [hM1, ro_at, up_at]
    have e4 : M1 1 (176 + 9 * i + 1 + k) = nI (w.getD k 0) := by rw [hM1, ro_ne _ _ (by decide)]; exact e3
    unfold b_X12_acceptsSample_19 b0_X12_acceptsSample_19
    simp (disch := omega) only [↓grd_u, ↓bnd_e, ↓orf_u, ↓oif_u, ↓cal_u, ↓calX_u, ↓inrO_u, ↓reduceIte, EM, EMg, EMs, z0, oi, n_inbT, n_cntT, n_ltT, n_ltF, n_leT, n_leF, n_eqT, n_eqF, n_m1T, n_m1F, n_m1F', n_cl, n_add, n_mul, ro_at, ro_ro, up_at, up_up, ro_ne, up_ne, ro_sw, s1, e4]
    rw [← up_pre]
  · unfold b_X12_acceptsSample_19 b0_X12_acceptsSample_19
    rw [← hM2]
    simp (disch := omega) only [↓grd_u, ↓bnd_e, ↓orf_u, ↓oif_u, ↓cal_u, ↓calX_u, ↓inrO_u, ↓reduceIte, EM, EMg, EMs, z0, oi, n_inbT, n_cntT, n_ltT, n_ltF, n_leT, n_leF, n_eqT, n_eqF, n_m1T, n_m1F, n_m1F', n_cl, n_add, n_mul, ro_at, ro_ro, up_at, up_up, s2, hb, hac, b2_nar]
theorem m_acceptsWord {v x : Int32} (hi : IM M S) (hg : GoodS S) : MA n h A R (f_X12_acceptsWord (ma n 0) v x (E n h A M R)) (aAcW S v x) := by
  have h0 : IM (ro M 0 (up (M 0) 0 (nI 0))) S := IM_thrown hi
  have h8 := hg.1.2.1
  unfold f_X12_acceptsWord aAcW g_X12_acceptsWord_26 g_X12_acceptsWord_48
  rcases pat_cases S v with ⟨s, hs, rfl, hp, e⟩ | ⟨e, hc⟩
  · rw [e]
    dsimp only
    rcases ix_cases x (lW (sCur S)).length (by omega) with ⟨i, hk, rfl⟩ | hv
    · rw [ixN_T hk (by omega)]
      obtain ⟨M', eb, au, f, i', t⟩ := m_bld (n := n) (h := h) (A := A) (R := R) h0 hg hs hp
      have ok := good_glu hg hs hp
      obtain ⟨M2, e2, f2⟩ := m_sample (n := n) (h := h) (A := A) (R := R) i' hg ok au hk
      refine ⟨M2, ?_, IM_fr i' f2 (by decide) (by decide), by rw [f2.2 _ (by decide), t, ro_at, up_at]⟩
      simp (disch := omega) only [↓grd_u, ↓bnd_e, ↓orf_u, ↓oif_u, ↓cal_u, ↓calX_u, ↓inrO_u, ↓reduceIte, EM, EMg, EMs, z0, oi, n_inbT, n_cntT, n_ltT, n_ltF, n_leT, n_leF, n_eqT, n_eqF, n_m1T, n_m1F, n_m1F', n_cl, n_add, n_mul, ro_at, ro_ro, up_at, up_up, holdsT h0 hg hs hp, m_isWordT h0.1 hk h8]
      simp (disch := omega) only [↓grd_u, ↓bnd_e, ↓orf_u, ↓oif_u, ↓cal_u, ↓calX_u, ↓inrO_u, ↓reduceIte, EM, EMg, EMs, z0, oi, n_inbT, n_cntT, n_ltT, n_ltF, n_leT, n_leF, n_eqT, n_eqF, n_m1T, n_m1F, n_m1F', n_cl, n_add, n_mul, ro_at, ro_ro, up_at, up_up, eb, e2, b2_nar]
    · rw [ixN_F hv]
      obtain ⟨M', e, i, t⟩ := m_failed (n := n) (h := h) (A := A) (R := R) (k := 2) h0
      refine ⟨M', ?_, i, t⟩
      simp (disch := omega) only [↓grd_u, ↓bnd_e, ↓orf_u, ↓oif_u, ↓cal_u, ↓calX_u, ↓inrO_u, ↓reduceIte, EM, EMg, EMs, z0, oi, n_inbT, n_cntT, n_ltT, n_ltF, n_leT, n_leF, n_eqT, n_eqF, n_m1T, n_m1F, n_m1F', n_cl, n_add, n_mul, ro_at, ro_ro, up_at, up_up, holdsT h0 hg hs hp, m_isWordF h0.1 h8 hv]
      simp (disch := omega) only [↓grd_u, ↓bnd_e, ↓orf_u, ↓oif_u, ↓cal_u, ↓calX_u, ↓inrO_u, ↓reduceIte, EM, EMg, EMs, z0, oi, n_inbT, n_cntT, n_ltT, n_ltF, n_leT, n_leF, n_eqT, n_eqF, n_m1T, n_m1F, n_m1F', n_cl, n_add, n_mul, ro_at, ro_ro, up_at, up_up, e, nz0]
  · have hh := m_holdsX (n := n) (h := h) (A := A) (R := R) h0 e hc
    rw [e]
    obtain ⟨M', e, i, t⟩ := m_failed (n := n) (h := h) (A := A) (R := R) (k := 1) h0
    refine ⟨M', ?_, i, t⟩
    simp (disch := omega) only [↓grd_u, ↓bnd_e, ↓orf_u, ↓oif_u, ↓cal_u, ↓calX_u, ↓inrO_u, ↓reduceIte, EM, EMg, EMs, z0, oi, n_inbT, n_cntT, n_ltT, n_ltF, n_leT, n_leF, n_eqT, n_eqF, n_m1T, n_m1F, n_m1F', n_cl, n_add, n_mul, ro_at, ro_ro, up_at, up_up, hh]
    simp (disch := omega) only [↓grd_u, ↓bnd_e, ↓orf_u, ↓oif_u, ↓cal_u, ↓calX_u, ↓inrO_u, ↓reduceIte, EM, EMg, EMs, z0, oi, n_inbT, n_cntT, n_ltT, n_ltF, n_leT, n_leF, n_eqT, n_eqF, n_m1T, n_m1F, n_m1F', n_cl, n_add, n_mul, ro_at, ro_ro, up_at, up_up, e, nz0]
theorem acN_s (g : Glu) (k : Nat) : acN S g (k + 1) = acN S g k + b2 (gab g (grn g ((lW (sCur S)).getD k []))) := rfl
theorem acN_le (g : Glu) (k : Nat) : acN S g k ≤ k := csn_le _ _
theorem m_accepted {s : Nat} (hi : IM M S) (hg : GoodS S) (hs : s < 6) (hp : lP (sCur S) s ≠ []) : ∃ M', f_X12_accepted (ma n 0) (nI s) (E n h A M R) = some (nI (acN S (gluOf (lP (sCur S) s)) (lW (sCur S)).length), E n h A M' R) ∧ IM M' S ∧ M' 0 0 = M 0 0 := by
  have h8 := hg.1.2.1
  obtain ⟨M1, eb, au, f, i', t⟩ := m_bld (n := n) (h := h) (A := A) (R := R) hi hg hs hp
  have ok := good_glu hg hs hp
  have key : ∃ r, g_X12_accepted_10 (ma n 0) (nI 0) (nI 0) (E n h A M1 R) = some r ∧ ∃ M', r = (nI (acN S (gluOf (lP (sCur S) s)) (lW (sCur S)).length), E n h A M' R) ∧ Fr [8] [19] M1 M' := by
    unfold g_X12_accepted_10
    refine lp_inv0 (f := b_X12_accepted_10 (ma n 0)) (fun k s' => ∃ M', s' = (nI (acN S (gluOf (lP (sCur S) s)) k), nI k, E n h A M' R) ∧ Fr [8] [19] M1 M') _ (lW (sCur S)).length (fun k s' hk hI => ?_) (L := 100000) (by omega) ⟨M1, rfl, Fr_rf _ _ _⟩
    obtain ⟨M2, rfl, f2⟩ := hI
    have i2 : IM M2 S := IM_fr i' f2 (by decide) (by decide)
    have au2 := AutM_keep au f2 (by decide)
    have e0 : M2 1 1 = nI (lW (sCur S)).length := by rw [i2.1, enc_1]
    have hle := acN_le (S := S) (gluOf (lP (sCur S) s)) k
    unfold b_X12_accepted_10 b0_X12_accepted_10 g_X12_accepted_34
    by_cases hk2 : k < (lW (sCur S)).length
    · obtain ⟨M3, e3, f3⟩ := m_sample (n := n) (h := h) (A := A) (R := R) i2 hg ok au2 hk2
      refine Or.inl ⟨(nI (acN S (gluOf (lP (sCur S) s)) (k + 1)), nI (k + 1), E n h A M3 R), ?_, hk2, M3, rfl, Fr_tr f2 f3⟩
      rw [acN_s]
      unfold b2 at e3 ⊢
      by_cases q : gab (gluOf (lP (sCur S) s)) (grn (gluOf (lP (sCur S) s)) ((lW (sCur S)).getD k [])) = true
      · rw [if_pos q] at e3 ⊢
        simp (disch := omega) only [↓grd_u, ↓bnd_e, ↓orf_u, ↓oif_u, ↓cal_u, ↓calX_u, ↓inrO_u, ↓reduceIte, EM, EMg, EMs, z0, oi, n_inbT, n_cntT, n_ltT, n_ltF, n_leT, n_leF, n_eqT, n_eqF, n_m1T, n_m1F, n_m1F', n_cl, n_add, n_mul, ro_at, ro_ro, up_at, up_up, e0, e3]
      · rw [if_neg q] at e3 ⊢
        simp (disch := omega) only [↓grd_u, ↓bnd_e, ↓orf_u, ↓oif_u, ↓cal_u, ↓calX_u, ↓inrO_u, ↓reduceIte, EM, EMg, EMs, z0, oi, n_inbT, n_cntT, n_ltT, n_ltF, n_leT, n_leF, n_eqT, n_eqF, n_m1T, n_m1F, n_m1F', n_cl, n_add, n_mul, ro_at, ro_ro, up_at, up_up, e0, e3]
    · have hke : k = (lW (sCur S)).length := by omega
      refine Or.inr ⟨(nI (acN S (gluOf (lP (sCur S) s)) k), E n h A M2 R), ?_, M2, by rw [hke], f2⟩
      simp (disch := omega) only [↓grd_u, ↓bnd_e, ↓orf_u, ↓oif_u, ↓cal_u, ↓calX_u, ↓inrO_u, ↓reduceIte, EM, EMg, EMs, z0, oi, n_inbT, n_cntT, n_ltT, n_ltF, n_leT, n_leF, n_eqT, n_eqF, n_m1T, n_m1F, n_m1F', n_cl, n_add, n_mul, ro_at, ro_ro, up_at, up_up, e0]
  obtain ⟨r, e, M', rfl, f'⟩ := key
  refine ⟨M', ?_, IM_fr i' f' (by decide) (by decide), by rw [f'.2 _ (by decide), t]⟩
  unfold f_X12_accepted
  simp (disch := omega) only [↓grd_u, ↓bnd_e, ↓orf_u, ↓oif_u, ↓cal_u, ↓calX_u, ↓inrO_u, ↓reduceIte, EM, EMg, EMs, z0, oi, n_inbT, n_cntT, n_ltT, n_ltF, n_leT, n_leF, n_eqT, n_eqF, n_m1T, n_m1F, n_m1F', n_cl, n_add, n_mul, ro_at, ro_ro, up_at, up_up, eb, e]
theorem m_acceptedWords {v : Int32} (hi : IM M S) (hg : GoodS S) : MA n h A R (f_X12_acceptedWords (ma n 0) v (E n h A M R)) (aAcs S v) := by
  have h0 : IM (ro M 0 (up (M 0) 0 (nI 0))) S := IM_thrown hi
  unfold f_X12_acceptedWords aAcs g_X12_acceptedWords_26
  rcases pat_cases S v with ⟨s, hs, rfl, hp, e⟩ | ⟨e, hc⟩
  · rw [e]
    obtain ⟨M', e, i, t⟩ := m_accepted (n := n) (h := h) (A := A) (R := R) h0 hg hs hp
    refine ⟨M', ?_, i, by rw [t, ro_at, up_at]⟩
    simp (disch := omega) only [↓grd_u, ↓bnd_e, ↓orf_u, ↓oif_u, ↓cal_u, ↓calX_u, ↓inrO_u, ↓reduceIte, EM, EMg, EMs, z0, oi, n_inbT, n_cntT, n_ltT, n_ltF, n_leT, n_leF, n_eqT, n_eqF, n_m1T, n_m1F, n_m1F', n_cl, n_add, n_mul, ro_at, ro_ro, up_at, up_up, holdsT h0 hg hs hp]
    simp (disch := omega) only [↓grd_u, ↓bnd_e, ↓orf_u, ↓oif_u, ↓cal_u, ↓calX_u, ↓inrO_u, ↓reduceIte, EM, EMg, EMs, z0, oi, n_inbT, n_cntT, n_ltT, n_ltF, n_leT, n_leF, n_eqT, n_eqF, n_m1T, n_m1F, n_m1F', n_cl, n_add, n_mul, ro_at, ro_ro, up_at, up_up, e]
  · have hh := m_holdsX (n := n) (h := h) (A := A) (R := R) h0 e hc
    rw [e]
    obtain ⟨M', e, i, t⟩ := m_failed (n := n) (h := h) (A := A) (R := R) (k := 1) h0
    refine ⟨M', ?_, i, t⟩
    simp (disch := omega) only [↓grd_u, ↓bnd_e, ↓orf_u, ↓oif_u, ↓cal_u, ↓calX_u, ↓inrO_u, ↓reduceIte, EM, EMg, EMs, z0, oi, n_inbT, n_cntT, n_ltT, n_ltF, n_leT, n_leF, n_eqT, n_eqF, n_m1T, n_m1F, n_m1F', n_cl, n_add, n_mul, ro_at, ro_ro, up_at, up_up, hh]
    simp (disch := omega) only [↓grd_u, ↓bnd_e, ↓orf_u, ↓oif_u, ↓cal_u, ↓calX_u, ↓inrO_u, ↓reduceIte, EM, EMg, EMs, z0, oi, n_inbT, n_cntT, n_ltT, n_ltF, n_leT, n_leF, n_eqT, n_eqF, n_m1T, n_m1F, n_m1F', n_cl, n_add, n_mul, ro_at, ro_ro, up_at, up_up, e]
end MACC
