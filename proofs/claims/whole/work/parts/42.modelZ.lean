section MODELZ
variable {n : Nat} {h : mH} {A M : Nat → Nat → Int32} {R : Nat → Nat → Option Nat} {S : St}
theorem m_notWord {b d k : Nat} (hb : b ≤ 1) (hs : M 0 19 = nI d) (hd : d ≤ 60) (hw : M 1 1 = nI k) (hk : k ≤ 8) : f_X12_notWord (ma n 0) (nI b) (E n h A M R) = some (nI (if b = 1 ∧ 1 ≤ d ∧ d ≤ 8 then (if k = 8 then 2 else 0) else 1), E n h A M R) := by
  unfold f_X12_notWord g_X12_notWord_17 g_X12_notWord_35
  by_cases h0 : b = 0
  · subst h0
    have hr : (if 0 = 1 ∧ 1 ≤ d ∧ d ≤ 8 then (if k = 8 then 2 else 0) else 1 : Nat) = 1 := if_neg (by omega)
    rw [hr]
    simp (disch := omega) only [↓grd_u, ↓bnd_e, ↓orf_u, ↓oif_u, ↓cal_u, ↓calX_u, ↓inrO_u, ↓reduceIte, EM, EMg, EMs, z0, oi, n_inbT, n_cntT, n_ltT, n_ltF, n_leT, n_leF, n_eqT, n_eqF, n_m1T, n_m1F, n_m1F', n_cl, n_add, n_mul, ro_at, ro_ro, up_at, up_up]
  · have h1 : b = 1 := by omega
    subst h1
    by_cases hd8 : 1 ≤ d ∧ d ≤ 8
    · obtain ⟨d1, d2⟩ := hd8
      have hr : (if 1 = 1 ∧ 1 ≤ d ∧ d ≤ 8 then (if k = 8 then 2 else 0) else 1 : Nat) = if k = 8 then 2 else 0 := if_pos ⟨rfl, d1, d2⟩
      rw [hr]
      by_cases h8 : k = 8
      · have hr2 : (if k = 8 then 2 else 0 : Nat) = 2 := if_pos h8
        rw [hr2]
        simp (disch := omega) only [↓grd_u, ↓bnd_e, ↓orf_u, ↓oif_u, ↓cal_u, ↓calX_u, ↓inrO_u, ↓reduceIte, EM, EMg, EMs, z0, oi, n_inbT, n_cntT, n_ltT, n_ltF, n_leT, n_leF, n_eqT, n_eqF, n_m1T, n_m1F, n_m1F', n_cl, n_add, n_mul, ro_at, ro_ro, up_at, up_up, hs, m_between, hw, h8]
      · have hr2 : (if k = 8 then 2 else 0 : Nat) = 0 := if_neg h8
        rw [hr2]
        simp (disch := omega) only [↓grd_u, ↓bnd_e, ↓orf_u, ↓oif_u, ↓cal_u, ↓calX_u, ↓inrO_u, ↓reduceIte, EM, EMg, EMs, z0, oi, n_inbT, n_cntT, n_ltT, n_ltF, n_leT, n_leF, n_eqT, n_eqF, n_m1T, n_m1F, n_m1F', n_cl, n_add, n_mul, ro_at, ro_ro, up_at, up_up, hs, m_between, hw]
    · have hr : (if 1 = 1 ∧ 1 ≤ d ∧ d ≤ 8 then (if k = 8 then 2 else 0) else 1 : Nat) = 1 := if_neg (by omega)
      rw [hr]
      have hq : nI d < nI 1 ∨ nI 8 < nI d := by rw [n_lt (by omega) (by decide), n_lt (by decide) (by omega)]; omega
      have hq2 : ∀ g, f_X12_isBetween (nI d) (nI 1) (nI 8) g = some (nI 0, g) := fun g => m_betweenF hq
      simp (disch := omega) only [↓grd_u, ↓bnd_e, ↓orf_u, ↓oif_u, ↓cal_u, ↓calX_u, ↓inrO_u, ↓reduceIte, EM, EMg, EMs, z0, oi, n_inbT, n_cntT, n_ltT, n_ltF, n_leT, n_leF, n_eqT, n_eqF, n_m1T, n_m1F, n_m1F', n_cl, n_add, n_mul, ro_at, ro_ro, up_at, up_up, hs, hq2]
def lets (T : List Nat) : List Nat := T.map fun c => c - 97
theorem lets_getD {T : List Nat} {j : Nat} (h : j < T.length) : (lets T).getD j 0 = T.getD j 0 - 97 := by
  unfold lets
  simp only [List.getD_eq_getElem?_getD, List.getElem?_map, List.getElem?_eq_getElem h]
  rfl
def aAddW (S : St) : Nat × Nat × St :=
  if okW (sText S) 0 (sText S).length = 1 ∧ 1 ≤ (sText S).length ∧ (sText S).length ≤ 8 then
    (if (lW (sCur S)).length = 8 then (2, 0, setText S []) else (0, (lW (sCur S)).length, setText (remember S (addW (sCur S) (lets (sText S)))) []))
  else (1, 0, setText S [])
theorem text_lt (hg : GoodS S) : ∀ k, k < (sText S).length → (sText S).getD k 0 < 128 := fun k hk => by
  rw [List.getD_eq_getElem?_getD, List.getElem?_eq_getElem hk]
  have := (hg.2.2.2.2.2.1 _ (List.getElem_mem hk)).2
  show (sText S)[k] < 128
  omega
theorem GoodS_text (hg : GoodS S) : GoodS (setText S []) := ⟨hg.1, hg.2.1, hg.2.2.1, hg.2.2.2.1, Nat.zero_le _, fun c hc => absurd hc (by simp [setText, sText]), hg.2.2.2.2.2.2⟩
theorem m_addWord (hi : IM M S) (hg : GoodS S) : MA n h A R (f_X12_addWord (ma n 0) (E n h A M R)) (aAddW S) := by
  have h0 : IM (ro M 0 (up (M 0) 0 (nI 0))) S := IM_thrown hi
  obtain ⟨M0, hM0⟩ : ∃ M0, M0 = ro M 0 (up (M 0) 0 (nI 0)) := ⟨_, rfl⟩
  have ht0 : M0 0 0 = nI 0 := by rw [hM0, ro_at, up_at]
  rw [← hM0] at h0
  have e11 : M 0 11 = nI (sText S).length := hi.2.2.2.2.2.1.1
  obtain ⟨t1, t2⟩ := h0.2.2.2.2.2.1
  have h60 := hg.2.2.2.2.1
  have hT := text_lt hg
  have htk := m_takes (n := n) (h := h) (A := A) (M := M0) (R := R) (T := sText S) (fr := 0) (to := (sText S).length) (Nat.zero_le _) h60 t2 hT
  rw [Nat.sub_zero] at htk
  obtain ⟨M1, hM1⟩ : ∃ M1, M1 = ro (ro M0 8 (pre (sText S).length (fun j => M0 6 (0 + j) - nI 97) (M0 8))) 0 (up (M0 0) 19 (nI (sText S).length)) := ⟨_, rfl⟩
  rw [← hM1] at htk
  have f1 : Fr [8] [19] M0 M1 := by
    rw [hM1]
    refine ⟨fun r h0 hr => ?_, fun k hk => ?_⟩
    · rw [ro_ne _ _ h0, ro_ne _ _ (fun e => hr (by rw [e]; simp))]
    · rw [ro_at, up_ne _ _ (fun e => hk (by rw [e]; simp))]
  have i1 : IM M1 S := IM_fr h0 f1 (by decide) (by decide)
  have ws1 : M1 0 19 = nI (sText S).length := by rw [hM1, ro_at, up_at]
  have hn := m_notWord (n := n) (h := h) (A := A) (M := M1) (R := R) (b := okW (sText S) 0 (sText S).length) (okW_le _ _ _) ws1 h60 (k := (lW (sCur S)).length) (by rw [i1.1, enc_1]) hg.1.2.1
  have i2 := IM_text0 i1
  have ht2 : (ro M1 0 (up (M1 0) 11 (nI 0))) 0 0 = nI 0 := by rw [ro_at, up_ne _ _ (by decide), f1.2 _ (by decide)]; exact ht0
  unfold f_X12_addWord aAddW
  by_cases hc : okW (sText S) 0 (sText S).length = 1 ∧ 1 ≤ (sText S).length ∧ (sText S).length ≤ 8
  · rw [if_pos hc] at hn ⊢
    obtain ⟨hc1, hc2, hc3⟩ := hc
    by_cases h8 : (lW (sCur S)).length = 8
    · rw [if_pos h8] at hn ⊢
      obtain ⟨M', e, i, t⟩ := m_failed (n := n) (h := h) (A := A) (R := R) (k := 2) i2
      refine ⟨M', ?_, i, t⟩
      simp (disch := omega) only [↓grd_u, ↓bnd_e, ↓orf_u, ↓oif_u, ↓cal_u, ↓calX_u, ↓inrO_u, ↓reduceIte, EM, EMg, EMs, z0, oi, n_inbT, n_cntT, n_ltT, n_ltF, n_leT, n_leF, n_eqT, n_eqF, n_m1T, n_m1F, n_m1F', n_cl, n_add, n_mul, ro_at, ro_ro, up_at, up_up, ro_ne, up_ne, ro_sw, e11]
      rw [← hM0]
      simp (disch := omega) only [↓grd_u, ↓bnd_e, ↓orf_u, ↓oif_u, ↓cal_u, ↓calX_u, ↓inrO_u, ↓reduceIte, EM, EMg, EMs, z0, oi, n_inbT, n_cntT, n_ltT, n_ltF, n_leT, n_leF, n_eqT, n_eqF, n_m1T, n_m1F, n_m1F', n_cl, n_add, n_mul, ro_at, ro_ro, up_at, up_up, htk, hn]
      simp (disch := omega) only [↓grd_u, ↓bnd_e, ↓orf_u, ↓oif_u, ↓cal_u, ↓calX_u, ↓inrO_u, ↓reduceIte, EM, EMg, EMs, z0, oi, n_inbT, n_cntT, n_ltT, n_ltF, n_leT, n_leF, n_eqT, n_eqF, n_m1T, n_m1F, n_m1F', n_cl, n_add, n_mul, ro_at, ro_ro, up_at, up_up, e]
    · rw [if_neg h8] at hn ⊢
      have h7 := hg.1.2.1
      obtain ⟨M3, e3, i3, f3⟩ := m_remembers (n := n) (h := h) (A := A) (R := R) i2
      have hadd := m_addsWord (n := n) (h := h) (A := A) (M := M3) (R := R) (L := sCur S) (ws := lets (sText S)) (k := (lW (sCur S)).length) i3.1 rfl (by omega) (by
        rw [f3.2 _ (by decide), ro_at, up_ne _ _ (by decide), ws1]; unfold lets; rw [List.length_map]) (by unfold lets; rw [List.length_map]; exact hc3) (fun j hj => by
        have hj : j < (sText S).length := by unfold lets at hj; rwa [List.length_map] at hj
        rw [f3.1 _ (by decide) (by decide), ro_ne _ _ (by decide), hM1, ro_ne _ _ (by decide), ro_at, pre_lt _ _ hj, lets_getD hj, Nat.zero_add, t2 j hj]
        have := (okW_1.mp hc1) j hj
        rw [Nat.zero_add] at this
        exact n_sub this.1)
      refine ⟨_, ?_, IM_set (L := addW (sCur S) (lets (sText S))) i3, ?_⟩
      · simp (disch := omega) only [↓grd_u, ↓bnd_e, ↓orf_u, ↓oif_u, ↓cal_u, ↓calX_u, ↓inrO_u, ↓reduceIte, EM, EMg, EMs, z0, oi, n_inbT, n_cntT, n_ltT, n_ltF, n_leT, n_leF, n_eqT, n_eqF, n_m1T, n_m1F, n_m1F', n_cl, n_add, n_mul, ro_at, ro_ro, up_at, up_up, ro_ne, up_ne, ro_sw, e11]
        rw [← hM0]
        simp (disch := omega) only [↓grd_u, ↓bnd_e, ↓orf_u, ↓oif_u, ↓cal_u, ↓calX_u, ↓inrO_u, ↓reduceIte, EM, EMg, EMs, z0, oi, n_inbT, n_cntT, n_ltT, n_ltF, n_leT, n_leF, n_eqT, n_eqF, n_m1T, n_m1F, n_m1F', n_cl, n_add, n_mul, ro_at, ro_ro, up_at, up_up, htk, hn]
        simp (disch := omega) only [↓grd_u, ↓bnd_e, ↓orf_u, ↓oif_u, ↓cal_u, ↓calX_u, ↓inrO_u, ↓reduceIte, EM, EMg, EMs, z0, oi, n_inbT, n_cntT, n_ltT, n_ltF, n_leT, n_leF, n_eqT, n_eqF, n_m1T, n_m1F, n_m1F', n_cl, n_add, n_mul, ro_at, ro_ro, up_at, up_up, e3, hadd]
      · rw [ro_ne _ _ (by decide), f3.2 _ (by decide)]; exact ht2
  · rw [if_neg hc] at hn ⊢
    obtain ⟨M', e, i, t⟩ := m_failed (n := n) (h := h) (A := A) (R := R) (k := 1) i2
    refine ⟨M', ?_, i, t⟩
    simp (disch := omega) only [↓grd_u, ↓bnd_e, ↓orf_u, ↓oif_u, ↓cal_u, ↓calX_u, ↓inrO_u, ↓reduceIte, EM, EMg, EMs, z0, oi, n_inbT, n_cntT, n_ltT, n_ltF, n_leT, n_leF, n_eqT, n_eqF, n_m1T, n_m1F, n_m1F', n_cl, n_add, n_mul, ro_at, ro_ro, up_at, up_up, ro_ne, up_ne, ro_sw, e11]
    rw [← hM0]
    simp (disch := omega) only [↓grd_u, ↓bnd_e, ↓orf_u, ↓oif_u, ↓cal_u, ↓calX_u, ↓inrO_u, ↓reduceIte, EM, EMg, EMs, z0, oi, n_inbT, n_cntT, n_ltT, n_ltF, n_leT, n_leF, n_eqT, n_eqF, n_m1T, n_m1F, n_m1F', n_cl, n_add, n_mul, ro_at, ro_ro, up_at, up_up, htk, hn]
    simp (disch := omega) only [↓grd_u, ↓bnd_e, ↓orf_u, ↓oif_u, ↓cal_u, ↓calX_u, ↓inrO_u, ↓reduceIte, EM, EMg, EMs, z0, oi, n_inbT, n_cntT, n_ltT, n_ltF, n_leT, n_leF, n_eqT, n_eqF, n_m1T, n_m1F, n_m1F', n_cl, n_add, n_mul, ro_at, ro_ro, up_at, up_up, e]
def aCutW (S : St) (v : Int32) : Nat × Nat × St := match ixN v (lW (sCur S)).length with
  | some i => (0, (lW (sCur S)).length - 1, remember S (cutW (sCur S) i))
  | none => (1, 0, S)
theorem m_removeWord {v : Int32} (hi : IM M S) (hg : GoodS S) : MA n h A R (f_X12_removeWord (ma n 0) v (E n h A M R)) (aCutW S v) := by
  have h0 : IM (ro M 0 (up (M 0) 0 (nI 0))) S := IM_thrown hi
  have h8 := hg.1.2.1
  unfold f_X12_removeWord aCutW
  rcases ix_cases v (lW (sCur S)).length (by omega) with ⟨i, hk, rfl⟩ | hv
  · rw [ixN_T hk (by omega)]
    obtain ⟨M1, e1, i1, f1⟩ := m_remembers (n := n) (h := h) (A := A) (R := R) h0
    have hc := m_cuts (n := n) (h := h) (A := A) (M := M1) (R := R) (L := sCur S) i1.1 rfl h8 hk
    refine ⟨_, ?_, IM_set (L := cutW (sCur S) i) i1, ?_⟩
    · simp (disch := omega) only [↓grd_u, ↓bnd_e, ↓orf_u, ↓oif_u, ↓cal_u, ↓calX_u, ↓inrO_u, ↓reduceIte, EM, EMg, EMs, z0, oi, n_inbT, n_cntT, n_ltT, n_ltF, n_leT, n_leF, n_eqT, n_eqF, n_m1T, n_m1F, n_m1F', n_cl, n_add, n_mul, ro_at, ro_ro, up_at, up_up, m_isWordT h0.1 hk h8]
      simp (disch := omega) only [↓grd_u, ↓bnd_e, ↓orf_u, ↓oif_u, ↓cal_u, ↓calX_u, ↓inrO_u, ↓reduceIte, EM, EMg, EMs, z0, oi, n_inbT, n_cntT, n_ltT, n_ltF, n_leT, n_leF, n_eqT, n_eqF, n_m1T, n_m1F, n_m1F', n_cl, n_add, n_mul, ro_at, ro_ro, up_at, up_up, e1, hc]
    · rw [ro_ne _ _ (by decide), f1.2 _ (by decide), ro_at, up_at]
  · rw [ixN_F hv]
    obtain ⟨M', e, i, t⟩ := m_failed (n := n) (h := h) (A := A) (R := R) (k := 1) h0
    refine ⟨M', ?_, i, t⟩
    simp (disch := omega) only [↓grd_u, ↓bnd_e, ↓orf_u, ↓oif_u, ↓cal_u, ↓calX_u, ↓inrO_u, ↓reduceIte, EM, EMg, EMs, z0, oi, n_inbT, n_cntT, n_ltT, n_ltF, n_leT, n_leF, n_eqT, n_eqF, n_m1T, n_m1F, n_m1F', n_cl, n_add, n_mul, ro_at, ro_ro, up_at, up_up, m_isWordF h0.1 h8 hv]
    simp (disch := omega) only [↓grd_u, ↓bnd_e, ↓orf_u, ↓oif_u, ↓cal_u, ↓calX_u, ↓inrO_u, ↓reduceIte, EM, EMg, EMs, z0, oi, n_inbT, n_cntT, n_ltT, n_ltF, n_leT, n_leF, n_eqT, n_eqF, n_m1T, n_m1F, n_m1F', n_cl, n_add, n_mul, ro_at, ro_ro, up_at, up_up, e]
theorem nch : ∀ c, c < 128 → ((nI c).toUInt32 % 65536).toInt32 = nI c := by decide +kernel
def aWLet (S : St) (v w : Int32) : Nat × Nat × St := match ixN v (lW (sCur S)).length with
  | some i => (match ixN w ((lW (sCur S)).getD i []).length with | some k => (0, 97 + ((lW (sCur S)).getD i []).getD k 0, S) | none => (1, 0, S))
  | none => (1, 0, S)
theorem word_good (hg : GoodS S) {i : Nat} (hi : i < (lW (sCur S)).length) : ((lW (sCur S)).getD i []).length ≤ 8 ∧ ∀ k, k < ((lW (sCur S)).getD i []).length → ((lW (sCur S)).getD i []).getD k 0 < 3 := by
  have e : (lW (sCur S)).getD i [] = (lW (sCur S))[i] := by rw [List.getD_eq_getElem?_getD, List.getElem?_eq_getElem hi]; rfl
  rw [e]
  obtain ⟨-, h2, h3⟩ := hg.1.2.2 _ (List.getElem_mem hi)
  refine ⟨h2, fun k hk => ?_⟩
  rw [List.getD_eq_getElem?_getD, List.getElem?_eq_getElem hk]
  exact h3 _ (List.getElem_mem hk)
theorem m_wordLetter {v w : Int32} (hi : IM M S) (hg : GoodS S) : MA n h A R (f_X12_wordLetter (ma n 0) v w (E n h A M R)) (aWLet S v w) := by
  have h0 : IM (ro M 0 (up (M 0) 0 (nI 0))) S := IM_thrown hi
  have h8 := hg.1.2.1
  obtain ⟨M', e, i', t⟩ := m_failed (n := n) (h := h) (A := A) (R := R) (k := 1) h0
  unfold f_X12_wordLetter aWLet g_X12_wordLetter_58
  rcases ix_cases v (lW (sCur S)).length (by omega) with ⟨i, hk, rfl⟩ | hv
  · rw [ixN_T hk (by omega)]
    obtain ⟨w1, w2⟩ := word_good hg hk
    dsimp only
    rcases ix_cases w ((lW (sCur S)).getD i []).length (by omega) with ⟨k, hk2, rfl⟩ | hv
    · rw [ixN_T hk2 (by omega)]
      have h3 := w2 k hk2
      refine ⟨_, ?_, h0, by rw [ro_at, up_at]⟩
      have hn := nar_ch (97 + ((lW (sCur S)).getD i []).getD k 0) (by omega)
      have hn2 := nch (97 + ((lW (sCur S)).getD i []).getD k 0) (by omega)
      simp (disch := omega) only [↓grd_u, ↓bnd_e, ↓orf_u, ↓oif_u, ↓cal_u, ↓calX_u, ↓inrO_u, ↓reduceIte, EM, EMg, EMs, z0, oi, n_inbT, n_cntT, n_ltT, n_ltF, n_leT, n_leF, n_eqT, n_eqF, n_m1T, n_m1F, n_m1F', n_cl, n_add, n_mul, ro_at, ro_ro, up_at, up_up, m_isWordT h0.1 hk h8, h0.1, enc_wl, n_sub, m_between, enc_w, hn2, hn]
    · rw [ixN_F hv]
      have hq2 : ∀ g, f_X12_isBetween w (nI 0) (nI ((lW (sCur S)).getD i []).length - nI 1) g = some (nI 0, g) := fun g => m_betweenF (lt_pred (by omega) hv)
      refine ⟨M', ?_, i', t⟩
      simp (disch := omega) only [↓grd_u, ↓bnd_e, ↓orf_u, ↓oif_u, ↓cal_u, ↓calX_u, ↓inrO_u, ↓reduceIte, EM, EMg, EMs, z0, oi, n_inbT, n_cntT, n_ltT, n_ltF, n_leT, n_leF, n_eqT, n_eqF, n_m1T, n_m1F, n_m1F', n_cl, n_add, n_mul, ro_at, ro_ro, up_at, up_up, m_isWordT h0.1 hk h8, h0.1, enc_wl, hq2]
      simp (disch := omega) only [↓grd_u, ↓bnd_e, ↓orf_u, ↓oif_u, ↓cal_u, ↓calX_u, ↓inrO_u, ↓reduceIte, EM, EMg, EMs, z0, oi, n_inbT, n_cntT, n_ltT, n_ltF, n_leT, n_leF, n_eqT, n_eqF, n_m1T, n_m1F, n_m1F', n_cl, n_add, n_mul, ro_at, ro_ro, up_at, up_up, e, nch, nar_ch]
  · rw [ixN_F hv]
    refine ⟨M', ?_, i', t⟩
    simp (disch := omega) only [↓grd_u, ↓bnd_e, ↓orf_u, ↓oif_u, ↓cal_u, ↓calX_u, ↓inrO_u, ↓reduceIte, EM, EMg, EMs, z0, oi, n_inbT, n_cntT, n_ltT, n_ltF, n_leT, n_leF, n_eqT, n_eqF, n_m1T, n_m1F, n_m1F', n_cl, n_add, n_mul, ro_at, ro_ro, up_at, up_up, m_isWordF h0.1 h8 hv]
    simp (disch := omega) only [↓grd_u, ↓bnd_e, ↓orf_u, ↓oif_u, ↓cal_u, ↓calX_u, ↓inrO_u, ↓reduceIte, EM, EMg, EMs, z0, oi, n_inbT, n_cntT, n_ltT, n_ltF, n_leT, n_leF, n_eqT, n_eqF, n_m1T, n_m1F, n_m1F', n_cl, n_add, n_mul, ro_at, ro_ro, up_at, up_up, e, nch, nar_ch]
def aLine (S : St) (v : Int32) : Nat × Nat × St := match ixN v (sLine S).length with
  | some i => (0, (sLine S).getD i 0, S)
  | none => (1, 0, S)
theorem line_lt (hg : GoodS S) : ∀ k, k < (sLine S).length → (sLine S).getD k 0 < 128 := fun k hk => by
  rw [List.getD_eq_getElem?_getD, List.getElem?_eq_getElem hk]
  have := (hg.2.2.2.2.2.2.2.2.2 _ (List.getElem_mem hk)).2
  show (sLine S)[k] < 128
  omega
theorem m_lineChar {v : Int32} (hi : IM M S) (hg : GoodS S) : MA n h A R (f_X12_lineChar (ma n 0) v (E n h A M R)) (aLine S v) := by
  have h0 : IM (ro M 0 (up (M 0) 0 (nI 0))) S := IM_thrown hi
  obtain ⟨l1, l2⟩ := h0.2.2.2.2.2.2.2.2
  have h120 := hg.2.2.2.2.2.2.2.2.1
  unfold f_X12_lineChar aLine
  rcases ix_cases v (sLine S).length (by omega) with ⟨i, hk, rfl⟩ | hv
  · rw [ixN_T hk (by omega)]
    have hc := line_lt hg i hk
    have hn := nar_ch _ hc
    have hl := l2 i hk
    refine ⟨_, ?_, h0, by rw [ro_at, up_at]⟩
    simp (disch := omega) only [↓grd_u, ↓bnd_e, ↓orf_u, ↓oif_u, ↓cal_u, ↓calX_u, ↓inrO_u, ↓reduceIte, EM, EMg, EMs, z0, oi, n_inbT, n_cntT, n_ltT, n_ltF, n_leT, n_leF, n_eqT, n_eqF, n_m1T, n_m1F, n_m1F', n_cl, n_add, n_mul, ro_at, ro_ro, up_at, up_up, l1, n_sub, m_between, hl, hn]
  · rw [ixN_F hv]
    obtain ⟨M', e, i, t⟩ := m_failed (n := n) (h := h) (A := A) (R := R) (k := 1) h0
    have hq2 : ∀ g, f_X12_isBetween v (nI 0) (nI (sLine S).length - nI 1) g = some (nI 0, g) := fun g => m_betweenF (lt_pred (by omega) hv)
    refine ⟨M', ?_, i, t⟩
    simp (disch := omega) only [↓grd_u, ↓bnd_e, ↓orf_u, ↓oif_u, ↓cal_u, ↓calX_u, ↓inrO_u, ↓reduceIte, EM, EMg, EMs, z0, oi, n_inbT, n_cntT, n_ltT, n_ltF, n_leT, n_leF, n_eqT, n_eqF, n_m1T, n_m1F, n_m1F', n_cl, n_add, n_mul, ro_at, ro_ro, up_at, up_up, l1, hq2]
    simp (disch := omega) only [↓grd_u, ↓bnd_e, ↓orf_u, ↓oif_u, ↓cal_u, ↓calX_u, ↓inrO_u, ↓reduceIte, EM, EMg, EMs, z0, oi, n_inbT, n_cntT, n_ltT, n_ltF, n_leT, n_leF, n_eqT, n_eqF, n_m1T, n_m1F, n_m1F', n_cl, n_add, n_mul, ro_at, ro_ro, up_at, up_up, e, nch, nar_ch]
end MODELZ
