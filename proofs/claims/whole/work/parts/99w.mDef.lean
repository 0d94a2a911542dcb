/-! the reference: define -/
def setErr (S : St) (e : Nat) : St := (sCur S, sUndo S, sSaved S, sText S, some e, sFail S, sLine S)
abbrev pOk (T : List Nat) : Prop := rdOk (pR T 0).2 ∧ (pR T 0).1 = T.length
def aDef (S : St) (v : Int32) : Nat × Nat × St := match slN v with
  | none => (1, 0, S)
  | some s => if pOk (sText S) then laid (setText S []) s (rdE (pR (sText S) 0).2) else (2, 0, setErr (setText S []) (pR (sText S) 0).1)
theorem pR_ok (T : List Nat) (i : Nat) : RIn (pR T i).2 ∧ PB (pR T i).1 (pR T i).2 ∧ (pR T i).1 ≤ T.length - i := by
  obtain ⟨a, b, c⟩ := rdP_ok (T.drop i) rs0 0 rs0_ok.1 rs0_ok.2
  rw [Nat.zero_add] at b
  rw [List.length_drop] at c
  exact ⟨a, b, c⟩
theorem brg_len (e : Nat) : ∀ (w o : List Nat), (brg e o w).1.length + (brg e o w).2.length = o.length + w.length
  | [], o => rfl
  | t :: w, o => by
    unfold brg
    by_cases q : t = 4 ∨ (t = 5 ∧ e = 5)
    · rw [if_pos q, brg_len e w, List.length_append, List.length_singleton, List.length_cons]
      omega
    · rw [if_neg q]
theorem GoodS_text0 {S : St} (hg : GoodS S) : GoodS (setText S []) := ⟨hg.1, hg.2.1, hg.2.2.1, hg.2.2.2.1, Nat.zero_le _, fun c hc => absurd hc (by show ¬ c ∈ []; simp), hg.2.2.2.2.2.2⟩
section MDEF
variable {n : Nat} {h : mH} {A M : Nat → Nat → Int32} {R : Nat → Nat → Option Nat} {S : St} {T : List Nat}
theorem TM_of (hi : IM M S) (hg : GoodS S) : TM M (sText S) := by
  obtain ⟨-, -, -, -, -, ⟨t1, t2⟩, -⟩ := hi
  obtain ⟨-, -, -, -, g1, g2, -⟩ := hg
  refine ⟨t1, g1, fun k hk => ⟨t2 k hk, g2 _ ?_⟩⟩
  rw [List.getD_eq_getElem?_getD, List.getElem?_eq_getElem hk]
  exact List.getElem_mem hk
theorem IM_err {e : Nat} (hi : IM M S) : IM (ro M 0 (up (M 0) 13 (nI e))) (setErr S e) := by
  obtain ⟨a1, a2, a3, a4, a5, a6, a8, a9, a10⟩ := hi
  exact ⟨by rw [ro_ne _ _ (by decide)]; exact a1, Ring_fr a2 (Fr_r0 (rows := []) (sc := [13]) _ (by decide)) (by decide) (by decide) (by decide), a3, a4, a5, a6, by rw [ro_at, up_at]; rfl, a9, a10⟩
theorem IM_R {M' : Nat → Nat → Int32} (hi : IM M S) (f : FrD M M') : IM M' S := IM_fr hi f (by decide) (by decide)
theorem m_define {v : Int32} (hi : IM M S) (hg : GoodS S) : MA n h A R (f_X12_define (ma n 0) v (E n h A M R)) (aDef S v) := by
  have h0 : IM (ro M 0 (up (M 0) 0 (nI 0))) S := IM_thrown hi
  unfold f_X12_define aDef
  rcases slot_cases v with ⟨s, hs, rfl⟩ | hv
  · rw [slN_T hs]
    dsimp only
    obtain ⟨M1, hM1⟩ : ∃ M1, M1 = ro M 0 (up (up (M 0) 0 (nI 0)) 12 (nI 0)) := ⟨_, rfl⟩
    have fr1 : Fr [] [0, 12] M M1 := ⟨fun r hr _ => by rw [hM1, ro_ne _ _ hr], fun k hk => by
      rw [hM1, ro_at, up_ne _ _ (fun e => hk (by rw [e]; decide)), up_ne _ _ (fun e => hk (by rw [e]; decide))]⟩
    have i1 : IM M1 S := IM_fr hi fr1 (by decide) (by decide)
    obtain ⟨M2, e2, q1, f2, q3⟩ := m_readsPattern (n := n) (h := h) (A := A) (R := R) (TM_of i1 hg) (i := 0) (by rw [hM1, ro_at, up_at]) (Nat.zero_le _)
    rw [Nat.zero_add] at q1
    have i2 := IM_R i1 f2
    have tl : M2 0 11 = nI (sText S).length := i2.2.2.2.2.2.1.1
    have th2 : M2 0 0 = nI 0 := by rw [f2.2 _ (by decide), hM1, ro_at, up_ne _ _ (by decide), up_at]
    obtain ⟨r1, r2, r3⟩ := pR_ok (sText S) 0
    have t60 := hg.2.2.2.2.1
    obtain ⟨M3, hM3⟩ : ∃ M3, M3 = ro M2 0 (up (M2 0) 11 (nI 0)) := ⟨_, rfl⟩
    have i3 : IM M3 (setText S []) := by rw [hM3]; exact IM_text0 i2
    have v3 : ∀ k, k ≠ 11 → M3 0 k = M2 0 k := fun k hk => by rw [hM3, ro_at, up_ne _ _ hk]
    have bad : ¬ pOk (sText S) → ∃ M', g_X12_define_45 (ma n 0) (nI s) (E n h A M2 R) = some (nI 0, E n h A M' R) ∧ IM M' (setErr (setText S []) (pR (sText S) 0).1) ∧ M' 0 0 = nI 2 := fun hb => by
      obtain ⟨M', e, i, t⟩ := m_failed (n := n) (h := h) (A := A) (R := R) (k := 2) (IM_err (e := (pR (sText S) 0).1) i3)
      refine ⟨M', ?_, i, t⟩
      have q1' : M3 0 12 = nI (pR (sText S) 0).1 := by rw [v3 _ (by decide)]; exact q1
      unfold g_X12_define_45 g_X12_define_46
      simp (disch := omega) only [↓grd_u, ↓bnd_e, ↓orf_u, ↓oif_u, ↓cal_u, ↓calX_u, ↓inrO_u, ↓reduceIte, EM, EMg, EMs, z0, oi, n_inbT, n_cntT, n_ltT, n_ltF, n_leT, n_leF, n_eqT, n_eqF, n_m1T, n_m1F, n_m1F', n_cl, n_add, n_mul, ro_at, ro_ro, up_at, up_up, ← hM3, q1', e]
    by_cases ok : rdOk (pR (sText S) 0).2
    · rw [show b1 (rdOk (pR (sText S) 0).2) = 1 from if_pos ok] at e2
      by_cases al : (pR (sText S) 0).1 = (sText S).length
      · rw [if_pos ⟨ok, al⟩]
        have hB := q3 ok
        have wf := (rdE_wf r1 ok).1
        have hB3 : Blt M3 (rdE (pR (sText S) 0).2) := Blt_fr hB (v3 _ (by decide)) (by rw [hM3, ro_ne _ _ (by decide)])
        unfold laid
        by_cases ht : 7 < nLet (rdE (pR (sText S) 0).2) ∨ 9 < nSig (rdE (pR (sText S) 0).2)
        · rw [if_pos ht]
          obtain ⟨M', e, i, t⟩ := m_failed (n := n) (h := h) (A := A) (R := R) (k := 3) i3
          refine ⟨M', ?_, i, t⟩
          unfold g_X12_define_46
          simp (disch := omega) only [↓grd_u, ↓bnd_e, ↓orf_u, ↓oif_u, ↓cal_u, ↓calX_u, ↓inrO_u, ↓reduceIte, EM, EMg, EMs, z0, oi, n_inbT, n_cntT, n_ltT, n_ltF, n_leT, n_leF, n_eqT, n_eqF, n_m1T, n_m1F, n_m1F', n_cl, n_add, n_mul, ro_at, ro_ro, up_at, up_up, m_isSlotT, ← hM1, e2, q1, tl, al, ← hM3, m_tooLargeT hB3 ht, e]
        · rw [if_neg ht]
          have gp : GoodP (rdE (pR (sText S) 0).2) := Or.inr ⟨wf, ht⟩
          have gl := GoodP_len gp
          obtain ⟨M4, M', e4, e5, i, t⟩ := m_laid (n := n) (h := h) (A := A) (R := R) (s := s) i3 (GoodS_text0 hg) hs hB3 (by omega) (by rw [v3 _ (by decide)]; exact th2)
          refine ⟨M', ?_, i, t⟩
          unfold g_X12_define_46
          simp (disch := omega) only [↓grd_u, ↓bnd_e, ↓orf_u, ↓oif_u, ↓cal_u, ↓calX_u, ↓inrO_u, ↓reduceIte, EM, EMg, EMs, z0, oi, n_inbT, n_cntT, n_ltT, n_ltF, n_leT, n_leF, n_eqT, n_eqF, n_m1T, n_m1F, n_m1F', n_cl, n_add, n_mul, ro_at, ro_ro, up_at, up_up, m_isSlotT, ← hM1, e2, q1, tl, al, ← hM3, m_tooLargeF hB3 ht, e4, e5]
      · have hb : ¬ pOk (sText S) := fun z => al z.2
        rw [if_neg hb]
        obtain ⟨M', e, i, t⟩ := bad hb
        refine ⟨M', ?_, i, t⟩
        simp (disch := omega) only [↓grd_u, ↓bnd_e, ↓orf_u, ↓oif_u, ↓cal_u, ↓calX_u, ↓inrO_u, ↓reduceIte, EM, EMg, EMs, z0, oi, n_inbT, n_cntT, n_ltT, n_ltF, n_leT, n_leF, n_eqT, n_eqF, n_m1T, n_m1F, n_m1F', n_cl, n_add, n_mul, ro_at, ro_ro, up_at, up_up, m_isSlotT, ← hM1, e2, q1, tl, e]
    · rw [show b1 (rdOk (pR (sText S) 0).2) = 0 from if_neg ok] at e2
      have hb : ¬ pOk (sText S) := fun z => ok z.1
      rw [if_neg hb]
      obtain ⟨M', e, i, t⟩ := bad hb
      refine ⟨M', ?_, i, t⟩
      simp (disch := omega) only [↓grd_u, ↓bnd_e, ↓orf_u, ↓oif_u, ↓cal_u, ↓calX_u, ↓inrO_u, ↓reduceIte, EM, EMg, EMs, z0, oi, n_inbT, n_cntT, n_ltT, n_ltF, n_leT, n_leF, n_eqT, n_eqF, n_m1T, n_m1F, n_m1F', n_cl, n_add, n_mul, ro_at, ro_ro, up_at, up_up, m_isSlotT, ← hM1, e2, e]
  · rw [slN_F hv]
    obtain ⟨M', e, i, t⟩ := m_failed (n := n) (h := h) (A := A) (R := R) (k := 1) h0
    refine ⟨M', ?_, i, t⟩
    simp (disch := omega) only [↓grd_u, ↓bnd_e, ↓orf_u, ↓oif_u, ↓cal_u, ↓calX_u, ↓inrO_u, ↓reduceIte, EM, EMg, EMs, z0, oi, n_inbT, n_cntT, n_ltT, n_ltF, n_leT, n_leF, n_eqT, n_eqF, n_m1T, n_m1F, n_m1F', n_cl, n_add, n_mul, ro_at, ro_ro, up_at, up_up, m_isSlotF hv]
    simp (disch := omega) only [↓grd_u, ↓bnd_e, ↓orf_u, ↓oif_u, ↓cal_u, ↓calX_u, ↓inrO_u, ↓reduceIte, EM, EMg, EMs, z0, oi, n_inbT, n_cntT, n_ltT, n_ltF, n_leT, n_leF, n_eqT, n_eqF, n_m1T, n_m1F, n_m1F', n_cl, n_add, n_mul, ro_at, ro_ro, up_at, up_up, e]
end MDEF
