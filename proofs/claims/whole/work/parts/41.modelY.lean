section MODELY
variable {n : Nat} {h : mH} {A M : Nat → Nat → Int32} {R : Nat → Nat → Option Nat} {S : St}
theorem getD_eraseIdx {α : Type} (l : List α) (i q : Nat) (d : α) : (l.eraseIdx i).getD q d = if q < i then l.getD q d else l.getD (q + 1) d := by
  simp only [List.getD_eq_getElem?_getD, List.getElem?_eraseIdx]
  split <;> rfl
theorem getD_snoc {α : Type} (l : List α) (x d : α) (q : Nat) : (l ++ [x]).getD q d = if q < l.length then l.getD q d else if q = l.length then x else d := by
  simp only [List.getD_eq_getElem?_getD]
  by_cases h1 : q < l.length
  · rw [if_pos h1, List.getElem?_append_left h1]
  · rw [if_neg h1, List.getElem?_append_right (by omega)]
    by_cases h2 : q = l.length
    · rw [if_pos h2, h2, Nat.sub_self]; rfl
    · rw [if_neg h2, List.getElem?_eq_none (by simp; omega)]; rfl
theorem getD_out {α : Type} {l : List α} {q : Nat} (d : α) (h : l.length ≤ q) : l.getD q d = d := by
  rw [List.getD_eq_getElem?_getD, List.getElem?_eq_none h]; rfl
theorem enc_addW (L : Lib) {ws : List Nat} {k : Nat} (hk : (lW L).length = k) (h8 : k < 8) (hw : ws.length ≤ 8) : up (ap (up (enc L) (176 + 9 * k) (nI ws.length)) (176 + 9 * k + 1) (pad 8 ws)) 1 (nI (k + 1)) = enc (addW L ws) := by
  funext j
  by_cases h1 : j = 1
  · subst h1; rw [up_at]; show _ = nI (lW L ++ [ws]).length; rw [List.length_append, hk]; rfl
  rw [up_ne _ _ h1]
  by_cases h2 : 176 + 9 * k + 1 ≤ j ∧ j < 176 + 9 * k + 1 + 8
  · obtain ⟨q, hq⟩ : ∃ q, j = 176 + 9 * k + 1 + q := ⟨j - (176 + 9 * k + 1), by omega⟩
    subst hq
    rw [ap_at _ _ _ (by rw [pad_len hw]; omega), enc_w _ h8 (by omega), pad_at]
    show _ = nI (((lW L ++ [ws]).getD k []).getD q 0)
    rw [getD_snoc, if_neg (by omega), if_pos hk.symm]
  · rw [ap_out _ _ _ (by rw [pad_len hw]; omega)]
    by_cases h3 : j = 176 + 9 * k
    · subst h3
      rw [up_at, enc_wl _ h8]
      show _ = nI ((lW L ++ [ws]).getD k []).length
      rw [getD_snoc, if_neg (by omega), if_pos hk.symm]
    · rw [up_ne _ _ h3]
      unfold enc wfN
      by_cases h0 : j = 0
      · subst h0; rfl
      rw [if_neg h0, if_neg h1, if_neg h0, if_neg h1]
      by_cases h4 : j < 176
      · rw [if_pos h4, if_pos h4]; rfl
      · rw [if_neg h4, if_neg h4]
        by_cases h5 : j < 248
        · have h6 : (j - 176) / 9 ≠ k := by omega
          have e : (lW (addW L ws)).getD ((j - 176) / 9) [] = (lW L).getD ((j - 176) / 9) [] := by
            show (lW L ++ [ws]).getD ((j - 176) / 9) [] = _
            rw [getD_snoc]
            by_cases h7 : (j - 176) / 9 < (lW L).length
            · rw [if_pos h7]
            · rw [if_neg h7, if_neg (by omega), getD_out _ (by omega)]
          rw [if_pos h5, if_pos h5, e]
        · rw [if_neg h5, if_neg h5]
theorem enc_cut (L : Lib) {i m : Nat} (hm : (lW L).length = m) (h8 : m ≤ 8) (hi : i < m) : ap (blk (up (enc L) 1 (nI (m - 1))) (176 + 9 * i) (9 * (m - 1 - i)) (fun q => enc L (176 + 9 * i + q + 9))) (176 + 9 * (m - 1)) (List.replicate 9 0) = enc (cutW L i) := by
  funext j
  have hz : ∀ q, (List.replicate 9 0).getD q 0 = 0 := fun q => by simp only [List.getD_eq_getElem?_getD, List.getElem?_replicate]; split <;> rfl
  by_cases h1 : j = 1
  · subst h1
    rw [ap_out _ _ _ (by omega)]
    unfold blk
    rw [if_neg (by omega), up_at]
    show _ = nI ((lW L).eraseIdx i).length
    rw [List.length_eraseIdx, if_pos (by omega), hm]
  · by_cases h2 : 176 + 9 * (m - 1) ≤ j ∧ j < 176 + 9 * (m - 1) + 9
    · obtain ⟨q, hq⟩ : ∃ q, j = 176 + 9 * (m - 1) + q := ⟨j - (176 + 9 * (m - 1)), by omega⟩
      subst hq
      rw [ap_at _ _ _ (by simp; omega), hz]
      have e : (lW (cutW L i)).getD (m - 1) [] = [] := getD_out _ (by show ((lW L).eraseIdx i).length ≤ m - 1; rw [List.length_eraseIdx, if_pos (by omega)]; omega)
      by_cases hq0 : q = 0
      · subst hq0; rw [Nat.add_zero, enc_wl _ (by omega), e]; rfl
      · obtain ⟨q', rfl⟩ : ∃ q', q = 1 + q' := ⟨q - 1, by omega⟩
        rw [← Nat.add_assoc, enc_w _ (by omega) (by omega), e]; rfl
    · rw [ap_out _ _ _ (by simp; omega)]
      unfold blk
      by_cases h3 : 176 + 9 * i ≤ j ∧ j < 176 + 9 * i + 9 * (m - 1 - i)
      · rw [if_pos h3]
        show enc L (176 + 9 * i + (j - (176 + 9 * i)) + 9) = _
        rw [show 176 + 9 * i + (j - (176 + 9 * i)) + 9 = j + 9 by omega]
        have e : (lW (cutW L i)).getD ((j - 176) / 9) [] = (lW L).getD ((j + 9 - 176) / 9) [] := by
          show ((lW L).eraseIdx i).getD ((j - 176) / 9) [] = _
          rw [getD_eraseIdx, if_neg (by omega), show (j - 176) / 9 + 1 = (j + 9 - 176) / 9 by omega]
        have f1 : ∀ (L' : Lib) (x : Nat), 176 ≤ x → x < 248 → wfN L' x = (if (x - 176) % 9 = 0 then ((lW L').getD ((x - 176) / 9) []).length else ((lW L').getD ((x - 176) / 9) []).getD ((x - 176) % 9 - 1) 0) := fun L' x g1 g2 => by
          unfold wfN
          rw [if_neg (by omega), if_neg (by omega), if_neg (by omega), if_pos g2]
        unfold enc
        rw [f1 L (j + 9) (by omega) (by omega), f1 (cutW L i) j (by omega) (by omega), e, show (j + 9 - 176) % 9 = (j - 176) % 9 by omega]
      · rw [if_neg h3, up_ne _ _ h1]
        unfold enc wfN
        by_cases h0 : j = 0
        · subst h0; rfl
        rw [if_neg h0, if_neg h1, if_neg h0, if_neg h1]
        by_cases h4 : j < 176
        · rw [if_pos h4, if_pos h4]; rfl
        · rw [if_neg h4, if_neg h4]
          by_cases h5 : j < 248
          · have e : (lW (cutW L i)).getD ((j - 176) / 9) [] = (lW L).getD ((j - 176) / 9) [] := by
              show ((lW L).eraseIdx i).getD ((j - 176) / 9) [] = _
              rw [getD_eraseIdx]
              by_cases h7 : (j - 176) / 9 < i
              · rw [if_pos h7]
              · rw [if_neg h7, getD_out _ (by omega), getD_out _ (by omega)]
            rw [if_pos h5, if_pos h5, e]
          · rw [if_neg h5, if_neg h5]
theorem m_addsWord {L : Lib} {ws : List Nat} {k : Nat} (hw : M 1 = enc L) (hk : (lW L).length = k) (h8 : k < 8) (hs : M 0 19 = nI ws.length) (hl : ws.length ≤ 8) (hc : ∀ j, j < ws.length → M 8 j = nI (ws.getD j 0)) :
    f_X12_addsWord (ma n 0) (E n h A M R) = some (nI k, E n h A (ro M 1 (enc (addW L ws))) R) := by
  unfold f_X12_addsWord g_X12_addsWord_26
  simp (disch := omega) only [↓grd_u, ↓bnd_e, ↓orf_u, ↓oif_u, ↓cal_u, ↓calX_u, ↓inrO_u, ↓reduceIte, EM, EMg, EMs, z0, oi, n_inbT, n_cntT, n_ltT, n_ltF, n_leT, n_leF, n_eqT, n_eqF, n_m1T, n_m1F, n_m1F', n_cl, n_add, n_mul, ro_at, ro_ro, up_at, up_up, hw, enc_1, hk, hs]
  have hpl := pad_len hl
  have h0 := lp_for0 (f := b_X12_addsWord_26 (ma n 0) (nI (176 + 9 * k))) (fun q => (nI q, E n h A (ro M 1 (ap (up (enc L) (176 + 9 * k) (nI ws.length)) (176 + 9 * k + 1) ((pad 8 ws).take q))) R)) 8 (nI k, E n h A (ro M 1 (enc (addW L ws))) R) (fun q hq => ?_) ?_ (L := 100000) (by decide)
  · simp only [List.take_zero, ap_nil] at h0
    exact h0
  · unfold b_X12_addsWord_26 b0_X12_addsWord_26 g_X12_addsWord_59
    by_cases hcc : q < ws.length
    · simp (disch := omega) only [↓grd_u, ↓bnd_e, ↓orf_u, ↓oif_u, ↓cal_u, ↓calX_u, ↓inrO_u, ↓reduceIte, EM, EMg, EMs, z0, oi, n_inbT, n_cntT, n_ltT, n_ltF, n_leT, n_leF, n_eqT, n_eqF, n_m1T, n_m1F, n_m1F', n_cl, n_add, n_mul, ro_at, ro_ro, up_at, up_up, ro_ne, up_ne, ro_sw, hs, hc]
      rw [← pad_at (m := 8), ap_take _ _ _ (by omega)]
    · simp (disch := omega) only [↓grd_u, ↓bnd_e, ↓orf_u, ↓oif_u, ↓cal_u, ↓calX_u, ↓inrO_u, ↓reduceIte, EM, EMg, EMs, z0, oi, n_inbT, n_cntT, n_ltT, n_ltF, n_leT, n_leF, n_eqT, n_eqF, n_m1T, n_m1F, n_m1F', n_cl, n_add, n_mul, ro_at, ro_ro, up_at, up_up, ro_ne, up_ne, ro_sw, hs]
      have e : (0 : Nat) = (pad 8 ws).getD q 0 := by rw [pad_at, getD_out _ (by omega)]
      rw [show nI 0 = nI ((pad 8 ws).getD q 0) by rw [← e], ap_take _ _ _ (by omega)]
  · unfold b_X12_addsWord_26 b0_X12_addsWord_26
    have e : (pad 8 ws).take 8 = pad 8 ws := by rw [List.take_of_length_le (by omega)]
    simp (disch := omega) only [↓grd_u, ↓bnd_e, ↓orf_u, ↓oif_u, ↓cal_u, ↓calX_u, ↓inrO_u, ↓reduceIte, EM, EMg, EMs, z0, oi, n_inbT, n_cntT, n_ltT, n_ltF, n_leT, n_leF, n_eqT, n_eqF, n_m1T, n_m1F, n_m1F', n_cl, n_add, n_mul, ro_at, ro_ro, up_at, up_up, ro_ne, up_ne, ro_sw, e]
    rw [ap_out _ _ _ (by omega), up_ne _ _ (by omega), enc_1, hk, n_add, enc_addW L hk h8 hl, n_sub (by omega), Nat.add_sub_cancel]
theorem m_cuts {L : Lib} {i m : Nat} (hw : M 1 = enc L) (hm : (lW L).length = m) (h8 : m ≤ 8) (hi : i < m) : f_X12_cuts (ma n 0) (nI i) (E n h A M R) = some (nI (m - 1), E n h A (ro M 1 (enc (cutW L i))) R) := by
  unfold f_X12_cuts g_X12_cuts_33
  simp (disch := omega) only [↓grd_u, ↓bnd_e, ↓orf_u, ↓oif_u, ↓cal_u, ↓calX_u, ↓inrO_u, ↓reduceIte, EM, EMg, EMs, z0, oi, n_inbT, n_cntT, n_ltT, n_ltF, n_leT, n_leF, n_eqT, n_eqF, n_m1T, n_m1F, n_m1F', n_cl, n_add, n_mul, ro_at, ro_ro, up_at, up_up, hw, enc_1, hm, n_sub]
  have h0 := lp_for0 (f := b_X12_cuts_33 (ma n 0) (nI (176 + 9 * (m - 1)))) (fun q => (nI (176 + 9 * i + q), E n h A (ro M 1 (blk (up (enc L) 1 (nI (m - 1))) (176 + 9 * i) q (fun q => enc L (176 + 9 * i + q + 9)))) R)) (9 * (m - 1 - i)) (nI (m - 1), E n h A (ro M 1 (enc (cutW L i))) R) (fun q hq => ?_) ?_ (L := 100000) (by omega)
  · simp only [blk_0, Nat.add_zero] at h0
    exact h0
  · unfold b_X12_cuts_33 b0_X12_cuts_33
    simp (disch := omega) only [↓grd_u, ↓bnd_e, ↓orf_u, ↓oif_u, ↓cal_u, ↓calX_u, ↓inrO_u, ↓reduceIte, EM, EMg, EMs, z0, oi, n_inbT, n_cntT, n_ltT, n_ltF, n_leT, n_leF, n_eqT, n_eqF, n_m1T, n_m1F, n_m1F', n_cl, n_add, n_mul, ro_at, ro_ro, up_at, up_up, ro_ne, up_ne, ro_sw]
    have e : blk (up (enc L) 1 (nI (m - 1))) (176 + 9 * i) q (fun q => enc L (176 + 9 * i + q + 9)) (176 + 9 * i + q + 9) = enc L (176 + 9 * i + q + 9) := by unfold blk; rw [if_neg (by omega), up_ne _ _ (by omega)]
    rw [e, ← blk_up]
    simp only [Nat.add_assoc]
  · unfold b_X12_cuts_33 b0_X12_cuts_33
    simp (disch := omega) only [↓grd_u, ↓bnd_e, ↓orf_u, ↓oif_u, ↓cal_u, ↓calX_u, ↓inrO_u, ↓reduceIte, EM, EMg, EMs, z0, oi, n_inbT, n_cntT, n_ltT, n_ltF, n_leT, n_leF, n_eqT, n_eqF, n_m1T, n_m1F, n_m1F', n_cl, n_add, n_mul, ro_at, ro_ro, up_at, up_up]
    have h1 := lp_for0 (f := b_X12_cuts_61 (ma n 0) (nI (176 + 9 * (m - 1)))) (fun q => (nI q, E n h A (ro M 1 (ap (blk (up (enc L) 1 (nI (m - 1))) (176 + 9 * i) (9 * (m - 1 - i)) (fun q => enc L (176 + 9 * i + q + 9))) (176 + 9 * (m - 1)) ((List.replicate 9 0).take q))) R)) 9 (nI (m - 1), E n h A (ro M 1 (enc (cutW L i))) R) (fun q hq => ?_) ?_ (L := 100000) (by decide)
    · simp only [List.take_zero, ap_nil] at h1
      unfold g_X12_cuts_61
      rw [h1]
    · unfold b_X12_cuts_61 b0_X12_cuts_61
      simp (disch := omega) only [↓grd_u, ↓bnd_e, ↓orf_u, ↓oif_u, ↓cal_u, ↓calX_u, ↓inrO_u, ↓reduceIte, EM, EMg, EMs, z0, oi, n_inbT, n_cntT, n_ltT, n_ltF, n_leT, n_leF, n_eqT, n_eqF, n_m1T, n_m1F, n_m1F', n_cl, n_add, n_mul, ro_at, ro_ro, up_at, up_up, ro_ne, up_ne, ro_sw]
      have e : nI 0 = nI ((List.replicate 9 0).getD q 0) := by simp only [List.getD_eq_getElem?_getD, List.getElem?_replicate]; split <;> rfl
      rw [e, ap_take _ _ _ (by simp; omega)]
    · unfold b_X12_cuts_61 b0_X12_cuts_61
      simp (disch := omega) only [↓grd_u, ↓bnd_e, ↓orf_u, ↓oif_u, ↓cal_u, ↓calX_u, ↓inrO_u, ↓reduceIte, EM, EMg, EMs, z0, oi, n_inbT, n_cntT, n_ltT, n_ltF, n_leT, n_leF, n_eqT, n_eqF, n_m1T, n_m1F, n_m1F', n_cl, n_add, n_mul, ro_at, ro_ro, up_at, up_up, ro_ne, up_ne, ro_sw]
      rw [show (List.replicate 9 0).take 9 = List.replicate 9 0 from rfl, enc_cut L hm h8 hi, enc_1]
      show some (Sum.inr (nI ((lW L).eraseIdx i).length, _)) = _
      rw [List.length_eraseIdx, if_pos (by omega), hm]
end MODELY
