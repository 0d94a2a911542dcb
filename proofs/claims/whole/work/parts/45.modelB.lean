section MODELB
variable {n : Nat} {h : mH} {A M : Nat → Nat → Int32} {R : Nat → Nat → Option Nat} {S : St}
theorem m_stepB {sd sl k : Nat} {s : gst} {p : List Nat} (hs : sd < 2) (hsl : sl < 6) (hw : M 1 = enc (sCur S)) (hp : lP (sCur S) sl = p) (hl : p.length ≤ 28) (hk : k < p.length) (h9 : p.getD k 0 < 9) (hg : GM M sd s) (hi : GInv s) (hpre : GPre s (p.getD k 0)) :
    ∃ M', b_X12_builds_60 (ma n 0) (nI sd) (nI sl) (nI s.2.2.2, nI k, E n h A M R) = some (.inl (nI (gstep s (p.getD k 0)).2.2.2, nI (k + 1), E n h A M' R)) ∧ GM M' sd (gstep s (p.getD k 0)) ∧ FrG sd M M' := by
  subst hp
  unfold b_X12_builds_60 b0_X12_builds_60 g_X12_builds_151 g_X12_builds_170
  have hlen : M 1 (2 + 29 * sl) = nI (lP (sCur S) sl).length := by rw [hw, enc_len _ hsl]
  have hcode : M 1 (2 + 29 * sl + 1 + k) = nI ((lP (sCur S) sl).getD k 0) := by rw [hw, enc_code _ hsl (by omega)]
  generalize hc : (lP (sCur S) sl).getD k 0 = c at *
  by_cases c4 : c < 4
  · obtain ⟨M', e, g, f⟩ := m_pile (n := n) (h := h) (A := A) (R := R) hs hg hi hpre c4
    refine ⟨M', ?_, g, f⟩
    have hpos : (gstep s c).2.2.2 = s.2.2.2 + 1 := by unfold gstep; rw [if_pos c4]
    rw [hpos]
    simp (disch := omega) only [↓grd_u, ↓bnd_e, ↓orf_u, ↓oif_u, ↓cal_u, ↓calX_u, ↓inrO_u, ↓reduceIte, EM, EMg, EMs, z0, oi, n_inbT, n_cntT, n_ltT, n_ltF, n_leT, n_leF, n_eqT, n_eqF, n_m1T, n_m1F, n_m1F', n_cl, n_add, n_mul, ro_at, ro_ro, up_at, up_up, m_length, m_code, hlen, hcode, e]
  · by_cases c6 : 6 ≤ c
    · obtain ⟨st, fo, ol, pos⟩ := s
      obtain ⟨g1, g2, g3, g4⟩ := hg
      obtain ⟨i1, i2, i3, i4, i5⟩ := hi
      unfold GPre at hpre
      rw [if_neg c4, if_pos c6] at hpre
      obtain ⟨-, p2⟩ := hpre
      dsimp only at p2 g1 g2 g3 g4 i1 i3 i4 i5
      match st, p2, g1, g2, i1, i3 with
      | v :: r, _, g1, g2, i1, i3 =>
        have hv := i3 v List.mem_cons_self
        simp only [List.length_cons] at g1 g2 i1
        obtain ⟨ev, fv, lv⟩ := g2 r.length (by omega)
        rw [gT_top] at ev fv lv
        have low : ∀ j, j < r.length → M 15 j = nI (gT r j).1 ∧ M 16 j = nI (gT r j).2.1 ∧ M 17 j = nI (gT r j).2.2 := fun j hj => by
          have := g2 j (by omega)
          rwa [gT_low _ _ hj] at this
        have hfol := m_followed (n := n) (h := h) (A := A) (M := M) (R := R) (sd := sd) (set := v.2.2) (bb := v.2.1) (fo := fo) hs hv.2.2 hv.2.1 g3
        unfold gstep gsign
        rw [if_neg c4, if_pos c6]
        dsimp only
        by_cases c8 : c = 8
        · subst c8
          rw [if_neg (by decide), if_pos rfl]
          refine ⟨ro M 15 (up (M 15) r.length (nI 1)), ?_, ⟨?_, ?_, ?_, ?_⟩, ⟨?_, ?_⟩, ?_, ?_⟩
          · simp (disch := omega) only [↓grd_u, ↓bnd_e, ↓orf_u, ↓oif_u, ↓cal_u, ↓calX_u, ↓inrO_u, ↓reduceIte, EM, EMg, EMs, z0, oi, n_inbT, n_cntT, n_ltT, n_ltF, n_leT, n_leF, n_eqT, n_eqF, n_m1T, n_m1F, n_m1F', n_cl, n_add, n_mul, ro_at, ro_ro, up_at, up_up, ro_ne, up_ne, ro_sw, m_length, m_code, hlen, hcode, g1, n_sub, Nat.add_sub_cancel]
          · rw [ro_ne _ _ (by decide)]; exact g1
          · intro j hj
            simp only [List.length_cons] at hj
            simp (disch := omega) only [↓grd_u, ↓bnd_e, ↓orf_u, ↓oif_u, ↓cal_u, ↓calX_u, ↓inrO_u, ↓reduceIte, EM, EMg, EMs, z0, oi, n_inbT, n_cntT, n_ltT, n_ltF, n_leT, n_leF, n_eqT, n_eqF, n_m1T, n_m1F, n_m1F', n_cl, n_add, n_mul, ro_at, ro_ro, up_at, up_up, ro_ne, up_ne, ro_sw]
            by_cases hj2 : j = r.length
            · subst hj2
              rw [gT_top, up_at]
              exact ⟨rfl, fv, lv⟩
            · rw [gT_low _ _ (by omega), up_ne _ _ hj2]
              exact low j (by omega)
          · intro q hq; rw [ro_ne _ _ (by decide)]; exact g3 q hq
          · intro q hq; rw [ro_ne _ _ (by decide)]; exact g4 q hq
          · intro q h0 hr; exact ro_ne _ _ (fun e => hr (by rw [e]; simp))
          · intro q _; rw [ro_ne _ _ (by decide)]
          · intro j _; rw [ro_ne _ _ (by decide)]
          · intro j _; rw [ro_ne _ _ (by decide)]
        · have n8 : (nI c = nI 8) = False := by rw [n_eq (by omega) (by decide)]; exact eq_false c8
          rw [if_neg c8]
          by_cases c7 : c = 7
          · subst c7
            rw [if_pos rfl]
            refine ⟨ro M 10 (blk (M 10) (7 * sd) 7 (fun k => nI (folw fo v.2.2 v.2.1 k))), ?_, ⟨?_, ?_, ?_, ?_⟩, ⟨?_, ?_⟩, ?_, ?_⟩
            · simp (disch := omega) only [↓grd_u, ↓bnd_e, ↓orf_u, ↓oif_u, ↓cal_u, ↓calX_u, ↓inrO_u, ↓reduceIte, EM, EMg, EMs, z0, oi, n_inbT, n_cntT, n_ltT, n_ltF, n_leT, n_leF, n_eqT, n_eqF, n_m1T, n_m1F, n_m1F', n_cl, n_add, n_mul, ro_at, ro_ro, up_at, up_up, ro_ne, up_ne, ro_sw, m_length, m_code, hlen, hcode, n8, g1, n_sub, Nat.add_sub_cancel, lv, fv, hfol]
            · rw [ro_ne _ _ (by decide)]; exact g1
            · intro j hj
              simp (disch := omega) only [↓grd_u, ↓bnd_e, ↓orf_u, ↓oif_u, ↓cal_u, ↓calX_u, ↓inrO_u, ↓reduceIte, EM, EMg, EMs, z0, oi, n_inbT, n_cntT, n_ltT, n_ltF, n_leT, n_leF, n_eqT, n_eqF, n_m1T, n_m1F, n_m1F', n_cl, n_add, n_mul, ro_at, ro_ro, up_at, up_up, ro_ne, up_ne, ro_sw]
              by_cases hj2 : j = r.length
              · subst hj2
                rw [gT_top]
                exact ⟨ev, fv, lv⟩
              · simp only [List.length_cons] at hj
                rw [gT_low _ _ (by omega)]
                exact low j (by omega)
            · intro q hq; rw [ro_at, blk_at _ _ _ hq]
            · intro q hq; rw [ro_ne _ _ (by decide)]; exact g4 q hq
            · intro q h0 hr; exact ro_ne _ _ (fun e => hr (by rw [e]; simp))
            · intro q _; rw [ro_ne _ _ (by decide)]
            · intro j hj; rw [ro_at, blk_out _ _ _ _ hj]
            · intro j _; rw [ro_ne _ _ (by decide)]
          · have n7 : (nI c = nI 7) = False := by rw [n_eq (by omega) (by decide)]; exact eq_false c7
            rw [if_neg c7]
            refine ⟨ro (ro M 15 (up (M 15) r.length (nI 1))) 10 (blk (M 10) (7 * sd) 7 (fun k => nI (folw fo v.2.2 v.2.1 k))), ?_, ⟨?_, ?_, ?_, ?_⟩, ⟨?_, ?_⟩, ?_, ?_⟩
            · simp (disch := omega) only [↓grd_u, ↓bnd_e, ↓orf_u, ↓oif_u, ↓cal_u, ↓calX_u, ↓inrO_u, ↓reduceIte, EM, EMg, EMs, z0, oi, n_inbT, n_cntT, n_ltT, n_ltF, n_leT, n_leF, n_eqT, n_eqF, n_m1T, n_m1F, n_m1F', n_cl, n_add, n_mul, ro_at, ro_ro, up_at, up_up, ro_ne, up_ne, ro_sw, m_length, m_code, hlen, hcode, n8, n7, g1, n_sub, Nat.add_sub_cancel, lv, fv, hfol]
            · rw [ro_ne _ _ (by decide), ro_ne _ _ (by decide)]; exact g1
            · intro j hj
              simp only [List.length_cons] at hj
              simp (disch := omega) only [↓grd_u, ↓bnd_e, ↓orf_u, ↓oif_u, ↓cal_u, ↓calX_u, ↓inrO_u, ↓reduceIte, EM, EMg, EMs, z0, oi, n_inbT, n_cntT, n_ltT, n_ltF, n_leT, n_leF, n_eqT, n_eqF, n_m1T, n_m1F, n_m1F', n_cl, n_add, n_mul, ro_at, ro_ro, up_at, up_up, ro_ne, up_ne, ro_sw]
              by_cases hj2 : j = r.length
              · subst hj2
                rw [gT_top, up_at]
                exact ⟨rfl, fv, lv⟩
              · rw [gT_low _ _ (by omega), up_ne _ _ hj2]
                exact low j (by omega)
            · intro q hq; rw [ro_at, blk_at _ _ _ hq]
            · intro q hq; rw [ro_ne _ _ (by decide), ro_ne _ _ (by decide)]; exact g4 q hq
            · intro q h0 hr; rw [ro_ne _ _ (fun e => hr (by rw [e]; simp)), ro_ne _ _ (fun e => hr (by rw [e]; simp))]
            · intro q _; rw [ro_ne _ _ (by decide), ro_ne _ _ (by decide)]
            · intro j hj; rw [ro_at, blk_out _ _ _ _ hj]
            · intro j _; rw [ro_ne _ _ (by decide), ro_ne _ _ (by decide)]
    · obtain ⟨M', e, g, f⟩ := m_joins (n := n) (h := h) (A := A) (R := R) hs hg hi hpre c4 c6
      refine ⟨M', ?_, g, f⟩
      have hpos : (gstep s c).2.2.2 = s.2.2.2 := by unfold gstep gjoin; rw [if_neg c4, if_neg c6]; split <;> (try split) <;> rfl
      rw [hpos]
      simp (disch := omega) only [↓grd_u, ↓bnd_e, ↓orf_u, ↓oif_u, ↓cal_u, ↓calX_u, ↓inrO_u, ↓reduceIte, EM, EMg, EMs, z0, oi, n_inbT, n_cntT, n_ltT, n_ltF, n_leT, n_leF, n_eqT, n_eqF, n_m1T, n_m1F, n_m1F', n_cl, n_add, n_mul, ro_at, ro_ro, up_at, up_up, m_length, m_code, hlen, hcode, e]
end MODELB
