/-! the reference: formatPattern, the loop -/
def aFmtP (S : St) (v : Int32) : Nat × Nat × St := match patN S v with
  | some s => (0, (ptx (lP (sCur S) s)).length, setL S (ptx (lP (sCur S) s)))
  | none => (1, 0, S)
section MFMTS
variable {n : Nat} {h : mH} {A M : Nat → Nat → Int32} {R : Nat → Nat → Option Nat} {S : St} {g : Glu}
theorem take_s {p : List Nat} {k : Nat} (hk : k < p.length) : p.take (k + 1) = p.take k ++ [p.getD k 0] := by
  rw [List.take_succ, List.getElem?_eq_getElem hk, List.getD_eq_getElem?_getD, List.getElem?_eq_getElem hk]
  rfl
theorem frun_s {p : List Nat} {k : Nat} (hk : k < p.length) : frun [] (p.take (k + 1)) = fstep (frun [] (p.take k)) (p.getD k 0) := by
  rw [take_s hk, frun_app, frun_1]
theorem m_fp31 {s : Nat} {p : List Nat} (hi : M 1 = enc (sCur S)) (hg : GoodS S) (hs : s < 6) (hp : p = lP (sCur S) s) (hne : p ≠ []) (hf : FS M [] 0) :
    ∃ M', g_X12_formatPattern_31 (ma n 0) (nI s) (nI 0) (E n h A M R) = some (nI (ptx p).length, E n h A M' R) ∧ LnI M' (ptx p) ∧ Fr [30, 31, 32] [44, 29] M M' := by
  have gp := hg.1.1 s hs
  rw [← hp] at gp
  have hw := GoodP_wf gp hne
  have h22 := GoodP_len gp
  have h7 : nLet p ≤ 7 := by
    rcases gp with q | ⟨-, q⟩
    · exact absurd q hne
    · exact Nat.not_lt.mp (fun z => q (Or.inl z))
  obtain ⟨a1, a2, ⟨v0, a3⟩, -⟩ := GRun_all hw g0 ⟨by decide, by decide, fun v hv => (nomatch hv), fun _ => (by decide : 0 < 128), fun _ => (by decide : 0 < 128)⟩ (by show 0 + _ ≤ 7; omega) (by show 0 + _ ≤ 7; omega)
  have hlen := fun k => frun_len (p.take k) (s := g0) (st := []) rfl
  have key : ∃ r, g_X12_formatPattern_31 (ma n 0) (nI s) (nI 0) (E n h A M R) = some r ∧ ∃ M', r = (nI (flt (frun [] p)).length, E n h A M' R) ∧ LnI M' (flt (frun [] p)) ∧ Fr [30, 31, 32] [44, 29] M M' := by
    unfold g_X12_formatPattern_31
    refine lp_inv0 (f := b_X12_formatPattern_31 (ma n 0) (nI s)) (fun k s' => ∃ M1, s' = (nI k, E n h A M1 R) ∧ FS M1 (frun [] (p.take k)) k ∧ Fr [30, 31, 32] [44, 29] M M1) _ p.length (fun k s' hk hI => ?_) (L := 100000) (by omega) ⟨M, rfl, hf, Fr_rf _ _ _⟩
    obtain ⟨M1, rfl, q1, fr1⟩ := hI
    have i1 : M1 1 = enc (sCur S) := by rw [fr1.1 1 (by decide) (by decide)]; exact hi
    have el : f_X12_length (ma n 0) (nI s) (E n h A M1 R) = some (nI p.length, E n h A M1 R) := by rw [m_length hs, i1, enc_len _ hs, hp]
    unfold b_X12_formatPattern_31 b0_X12_formatPattern_31 g_X12_formatPattern_120
    by_cases hkL : k < p.length
    · obtain ⟨b1, b2⟩ := a1 k hkL
      have ec : f_X12_code (ma n 0) (nI s) (nI k) (E n h A M1 R) = some (nI (p.getD k 0), E n h A M1 R) := by rw [m_code hs (by omega), i1, enc_code _ hs (by omega), hp]
      have hl7 := b1.1
      rw [hlen k] at hl7
      have hL := hlen k
      unfold GPre at b2
      by_cases c4 : p.getD k 0 < 4
      · rw [if_pos c4] at b2
        obtain ⟨M2, w1, w2, M0, hM0, e2, l0⟩ := m_let (n := n) (h := h) (A := A) (R := R) q1 (by omega) (c := p.getD k 0) ⟨b2.1, by omega⟩ (by omega)
        refine Or.inl ⟨(nI (k + 1), E n h A M2 R), ?_, hkL, M2, rfl, by rw [frun_s hkL]; exact w1, Fr_tr fr1 w2⟩
        obtain ⟨s1, s2, s3, s4, s5⟩ := q1
        have s11 := s1.1
        simp (disch := omega) only [↓grd_u, ↓bnd_e, ↓orf_u, ↓oif_u, ↓cal_u, ↓calX_u, ↓inrO_u, ↓reduceIte, EM, EMg, EMs, z0, oi, n_inbT, n_cntT, n_ltT, n_ltF, n_leT, n_leF, n_eqT, n_eqF, n_m1T, n_m1F, n_m1F', n_cl, n_add, n_mul, ro_at, ro_ro, up_at, up_up, ro_ne, up_ne, ro_sw, el, ec, s3, s11, n_sub]
        rw [← hM0, show 97 + p.getD k 0 - 1 = 96 + p.getD k 0 by omega, e2]
      · rw [if_neg c4] at b2
        by_cases c6 : 6 ≤ p.getD k 0
        · rw [if_pos c6] at b2
          obtain ⟨M2, e2, w1, w2⟩ := m_sign (n := n) (h := h) (A := A) (R := R) q1 (by omega) (c := p.getD k 0) ⟨c6, by omega⟩ (by rw [← hL]; exact b2.2) (by omega)
          refine Or.inl ⟨(nI (k + 1), E n h A M2 R), ?_, hkL, M2, rfl, by rw [frun_s hkL]; exact w1, Fr_tr fr1 w2⟩
          simp (disch := omega) only [↓grd_u, ↓bnd_e, ↓orf_u, ↓oif_u, ↓cal_u, ↓calX_u, ↓inrO_u, ↓reduceIte, EM, EMg, EMs, z0, oi, n_inbT, n_cntT, n_ltT, n_ltF, n_leT, n_leF, n_eqT, n_eqF, n_m1T, n_m1F, n_m1F', n_cl, n_add, n_mul, ro_at, ro_ro, up_at, up_up, el, ec, e2]
        · rw [if_neg c6] at b2
          obtain ⟨M2, e2, w1, w2⟩ := m_twoW (n := n) (h := h) (A := A) (R := R) q1 (by omega) (c := p.getD k 0) (by omega) (by rw [← hL]; exact b2) (by omega)
          refine Or.inl ⟨(nI (k + 1), E n h A M2 R), ?_, hkL, M2, rfl, by rw [frun_s hkL]; exact w1, Fr_tr fr1 w2⟩
          simp (disch := omega) only [↓grd_u, ↓bnd_e, ↓orf_u, ↓oif_u, ↓cal_u, ↓calX_u, ↓inrO_u, ↓reduceIte, EM, EMg, EMs, z0, oi, n_inbT, n_cntT, n_ltT, n_ltF, n_leT, n_leF, n_eqT, n_eqF, n_m1T, n_m1F, n_m1F', n_cl, n_add, n_mul, ro_at, ro_ro, up_at, up_up, el, ec, e2]
    · have hke : k = p.length := by omega
      have ht : p.take k = p := by rw [hke, List.take_length]
      rw [ht] at q1
      have l1 := q1.1.1
      refine Or.inr ⟨(nI (flt (frun [] p)).length, E n h A M1 R), ?_, M1, rfl, q1.1, fr1⟩
      simp (disch := omega) only [↓grd_u, ↓bnd_e, ↓orf_u, ↓oif_u, ↓cal_u, ↓calX_u, ↓inrO_u, ↓reduceIte, EM, EMg, EMs, z0, oi, n_inbT, n_cntT, n_ltT, n_ltF, n_leT, n_leF, n_eqT, n_eqF, n_m1T, n_m1F, n_m1F', n_cl, n_add, n_mul, ro_at, ro_ro, up_at, up_up, el, l1]
  obtain ⟨r, e, M', rfl, q1, q2⟩ := key
  have h1 : (frun [] p).length = 1 := by
    have := hlen p.length
    rw [List.take_length, a3] at this
    exact this.symm
  have hpt : flt (frun [] p) = ptx p := by
    unfold ptx
    match hq : frun [] p, h1 with
    | [x], _ => rfl
  rw [hpt] at e q1
  exact ⟨M', e, q1, q2⟩
theorem m_formatPattern {v : Int32} (hi : IM M S) (hg : GoodS S) : MA n h A R (f_X12_formatPattern (ma n 0) v (E n h A M R)) (aFmtP S v) := by
  have h0 : IM (ro M 0 (up (M 0) 0 (nI 0))) S := IM_thrown hi
  unfold f_X12_formatPattern aFmtP
  rcases pat_cases S v with ⟨s, hs, rfl, hp, e⟩ | ⟨e, hc⟩
  · rw [e]
    obtain ⟨M1, hM1⟩ : ∃ M1, M1 = ro M 0 (up (up (up (M 0) 0 (nI 0)) 44 (nI 0)) 29 (nI 0)) := ⟨_, rfl⟩
    have f1 : Fr [] [0, 44, 29] M M1 := by
      rw [hM1]
      refine ⟨fun r h0 _ => ro_ne _ _ h0, fun k hk => ?_⟩
      rw [ro_at, up_ne _ _ (fun e => hk (by rw [e]; decide)), up_ne _ _ (fun e => hk (by rw [e]; decide)), up_ne _ _ (fun e => hk (by rw [e]; decide))]
    have hfs : FS M1 [] 0 := ⟨⟨by rw [hM1, ro_at, up_ne _ _ (by decide), up_at]; rfl, fun k hk => absurd hk (Nat.not_lt_zero _)⟩, by unfold FB; trivial, by rw [hM1, ro_at, up_at]; rfl, Ch7_n, Nat.le_refl _⟩
    obtain ⟨M2, e2, q2, f2⟩ := m_fp31 (n := n) (h := h) (A := A) (R := R) (by rw [f1.1 1 (by decide) (by decide)]; exact hi.1) hg hs rfl hp hfs
    have t1 : M1 0 0 = nI 0 := by rw [hM1, ro_at, up_ne _ _ (by decide), up_ne _ _ (by decide), up_at]
    refine ⟨M2, ?_, IM_L (rows := [30, 31, 32]) (sc := [0, 44, 29]) hi (Fr_tr (Fr_wk f1 (by decide) (by decide)) (Fr_wk f2 (by decide) (by decide))) (by decide) (by decide) q2.1 q2.2, by rw [f2.2 _ (by decide)]; exact t1⟩
    simp (disch := omega) only [↓grd_u, ↓bnd_e, ↓orf_u, ↓oif_u, ↓cal_u, ↓calX_u, ↓inrO_u, ↓reduceIte, EM, EMg, EMs, z0, oi, n_inbT, n_cntT, n_ltT, n_ltF, n_leT, n_leF, n_eqT, n_eqF, n_m1T, n_m1F, n_m1F', n_cl, n_add, n_mul, ro_at, ro_ro, up_at, up_up, ro_ne, up_ne, ro_sw, holdsT h0 hg hs hp]
    rw [← hM1]
    exact e2
  · have hh := m_holdsX (n := n) (h := h) (A := A) (R := R) h0 e hc
    rw [e]
    obtain ⟨M', e, i, t⟩ := m_failed (n := n) (h := h) (A := A) (R := R) (k := 1) h0
    refine ⟨M', ?_, i, t⟩
    simp (disch := omega) only [↓grd_u, ↓bnd_e, ↓orf_u, ↓oif_u, ↓cal_u, ↓calX_u, ↓inrO_u, ↓reduceIte, EM, EMg, EMs, z0, oi, n_inbT, n_cntT, n_ltT, n_ltF, n_leT, n_leF, n_eqT, n_eqF, n_m1T, n_m1F, n_m1F', n_cl, n_add, n_mul, ro_at, ro_ro, up_at, up_up, hh]
    simp (disch := omega) only [↓grd_u, ↓bnd_e, ↓orf_u, ↓oif_u, ↓cal_u, ↓calX_u, ↓inrO_u, ↓reduceIte, EM, EMg, EMs, z0, oi, n_inbT, n_cntT, n_ltT, n_ltF, n_leT, n_leF, n_eqT, n_eqF, n_m1T, n_m1F, n_m1F', n_cl, n_add, n_mul, ro_at, ro_ro, up_at, up_up, e]
end MFMTS
