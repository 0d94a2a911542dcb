/-! the reference: run -/
def setC (S : St) (L : Lib) : St := (L, sUndo S, sSaved S, sText S, sErr S, sFail S, sLine S)
def setFail (S : St) (e : Nat) : St := (sCur S, sUndo S, sSaved S, sText S, sErr S, some e, sLine S)
def doR (T : List Nat) : Nat → Nat → St → Nat → Bool × Nat × Lib
  | 0, _, S, m => (false, m, sCur S)
  | f + 1, i, S, m => if (exC T i S).1 = 0 then (if T.getD (cmR T i).2 0 = 59 then doR T f ((cmR T i).2 + 1) (setC S (sCur (exC T i S).2.2)) (m + 1) else (true, m + 1, sCur (exC T i S).2.2)) else (false, m, sCur S)
def aRun (S : St) : Nat × Nat × St := match (prR (sText S) 11 0).1 with
  | none => (1, 0, setErr (setText S []) (prR (sText S) 11 0).2)
  | some _ => if (doR (sText S) 11 0 S 0).1 = true then (0, (doR (sText S) 11 0 S 0).2.1, remember (setText S []) (doR (sText S) 11 0 S 0).2.2) else (2, 0, setFail (setText S []) (doR (sText S) 11 0 S 0).2.1)
theorem set_wf {T : List Nat} {i : Nat} (hi : i ≤ T.length) (hok : (cmR T i).1 = true) (k0 : ksel T i = 0) : WF (rdE (pR T (i + 6)).2) ∧ rdOk (pR T (i + 6)).2 := by
  have ok : rdOk (pR T (i + 6)).2 := by
    obtain ⟨q1, -⟩ := cmR_sq hi hok
    unfold cmR at hok
    rw [k0] at hok q1
    obtain ⟨-, -, q3, -⟩ := sq_ok (T := T) (itk 0) i (items_pos 0 (by decide)) hi
    match e : sq T (itk 0) i with
    | (false, j) => rw [e] at q1; exact absurd q1 Bool.false_ne_true
    | (true, j) =>
      rw [show sq T (kwd 0 ++ rst1 0) i = (true, j) from e] at hok
      rw [e] at q3
      have hj : j = i + 6 := (q3 rfl).1
      have hok : decide (rdOk (pR T j).2) = true := hok
      rw [← hj]
      exact of_decide_eq_true hok
  exact ⟨(rdE_wf (pR_ok T (i + 6)).1 ok).1, ok⟩
theorem exC_good {T : List Nat} {i : Nat} {S : St} (hg : GoodS S) (h60 : T.length ≤ 60) (hi : i ≤ T.length) (hok : (cmR T i).1 = true) : GoodL (sCur (exC T i S).2.2) := by
  have hk := ksel_le T i
  unfold exC
  by_cases k0 : ksel T i = 0
  · rw [if_pos k0]
    unfold exS0
    cases slN (nI (dgt T i 0)) with
    | none => exact hg.1
    | some s => exact (GoodS_laid hg (set_wf hi hok k0).1).1
  rw [if_neg k0]
  by_cases k1 : ksel T i = 1
  · rw [if_pos k1]; exact (GoodS_two hg (Or.inr rfl)).1
  rw [if_neg k1]
  by_cases k2 : ksel T i = 2
  · rw [if_pos k2]; exact (GoodS_two hg (Or.inl rfl)).1
  rw [if_neg k2]
  by_cases k3 : ksel T i = 3
  · rw [if_pos k3]; exact (GoodS_rep hg).1
  rw [if_neg k3]
  by_cases k4 : ksel T i = 4
  · rw [if_pos k4]; exact (GoodS_remv hg).1
  rw [if_neg k4]
  by_cases k5 : ksel T i = 5
  · rw [if_pos k5]
    obtain ⟨u1, u2, u3⟩ := wT_ok T i
    unfold exW
    by_cases q : okW (wT T i) 0 (wT T i).length = 1 ∧ 1 ≤ (wT T i).length ∧ (wT T i).length ≤ 8
    · rw [if_pos q]
      by_cases q2 : (lW (sCur S)).length = 8
      · rw [if_pos q2]; exact hg.1
      · rw [if_neg q2]
        have gs : GoodS (setText S (wT T i)) := GoodS_setT hg (by omega) (fun c hc => by
          obtain ⟨j, hj, e⟩ := List.getElem_of_mem hc
          have := okW_1.mp u2 j hj
          rw [Nat.zero_add, List.getD_eq_getElem?_getD, List.getElem?_eq_getElem hj] at this
          have h3 : 97 ≤ (wT T i)[j] ∧ (wT T i)[j] ≤ 99 := this
          rw [e] at h3
          omega)
        have ga := GoodS_addW gs
        unfold aAddW at ga
        rw [if_pos (show okW (sText (setText S (wT T i))) 0 (sText (setText S (wT T i))).length = 1 ∧ 1 ≤ (sText (setText S (wT T i))).length ∧ (sText (setText S (wT T i))).length ≤ 8 from q), if_neg (show ¬ (lW (sCur (setText S (wT T i)))).length = 8 from q2)] at ga
        exact ga.1
    · rw [if_neg q]; exact hg.1
  rw [if_neg k5]
  exact (GoodS_cutW hg).1
theorem GoodS_setC {S : St} {L : Lib} (hg : GoodS S) (hL : GoodL L) : GoodS (setC S L) := ⟨hL, hg.2⟩
section MRUN
variable {n : Nat} {h : mH} {A M : Nat → Nat → Int32} {R : Nat → Nat → Option Nat} {S : St} {T : List Nat} {i : Nat}
theorem m_ra7 : ∀ (f i L : Nat) (M : Nat → Nat → Int32), T.length < i + 6 * f → i ≤ T.length → f + 1 < L → TM M T → M 0 12 = nI i →
    ∃ M', lp (b_X12_readsAll_7 (ma n 0)) L (nI 1, E n h A M R) = some (nI (b2 (prR T f i).1.isSome), E n h A M' R) ∧ M' 0 12 = nI (prR T f i).2 ∧ FrC M M' := by
  intro f
  induction f with
  | zero => intro i L M h1 h2; omega
  | succ f ih =>
    intro i L M h1 h2 hL t hi
    obtain ⟨L, rfl⟩ : ∃ L', L = L' + 1 := ⟨L - 1, by omega⟩
    have t60 := t.2.1
    obtain ⟨M1, e1, a1, f1, -⟩ := m_readsCommand (n := n) (h := h) (A := A) (R := R) t hi h2
    obtain ⟨c1, c2, c3⟩ := cmR_ok h2
    have t1 : TM M1 T := TM_q t f1 (by decide) (by decide)
    have tl1 : M1 0 11 = nI T.length := t1.1
    unfold prR
    by_cases q : (cmR T i).1 = true
    · rw [if_pos q]
      have c3 := c3 q
      rw [q, show b2 true = 1 from rfl] at e1
      -- the loop's last turn
      have fin : T.getD (cmR T i).2 0 ≠ 59 → lp (b_X12_readsAll_7 (ma n 0)) (L + 1) (nI 1, E n h A M R) = some (nI (if (cmR T i).2 = T.length then 1 else 0), E n h A M1 R) := fun q59 => by
        have er := m_readsF (n := n) (h := h) (A := A) (R := R) (c := 59) t1 a1 (by omega) (by decide) (by decide) q59
        obtain ⟨L, rfl⟩ : ∃ L', L = L' + 1 := ⟨L - 1, by omega⟩
        rw [lp_nx (s' := (nI 0, E n h A M1 R))]
        · rw [lp_en (r := (nI (if (cmR T i).2 = T.length then 1 else 0), E n h A M1 R))]
          unfold b_X12_readsAll_7 b0_X12_readsAll_7 g_X12_readsAll_46
          by_cases ql : (cmR T i).2 = T.length
          · rw [if_pos ql]
            rw [ql] at a1
            simp (disch := omega) only [↓grd_u, ↓bnd_e, ↓orf_u, ↓oif_u, ↓cal_u, ↓calX_u, ↓inrO_u, ↓reduceIte, EM, EMg, EMs, z0, oi, n_inbT, n_cntT, n_ltT, n_ltF, n_leT, n_leF, n_eqT, n_eqF, n_m1T, n_m1F, n_m1F', n_cl, n_add, n_mul, ro_at, ro_ro, up_at, up_up, tl1, a1, nz1]
          · rw [if_neg ql]
            simp (disch := omega) only [↓grd_u, ↓bnd_e, ↓orf_u, ↓oif_u, ↓cal_u, ↓calX_u, ↓inrO_u, ↓reduceIte, EM, EMg, EMs, z0, oi, n_inbT, n_cntT, n_ltT, n_ltF, n_leT, n_leF, n_eqT, n_eqF, n_m1T, n_m1F, n_m1F', n_cl, n_add, n_mul, ro_at, ro_ro, up_at, up_up, tl1, a1, nz0]
        · unfold b_X12_readsAll_7 b0_X12_readsAll_7
          simp (disch := omega) only [↓grd_u, ↓bnd_e, ↓orf_u, ↓oif_u, ↓cal_u, ↓calX_u, ↓inrO_u, ↓reduceIte, EM, EMg, EMs, z0, oi, n_inbT, n_cntT, n_ltT, n_ltF, n_leT, n_leF, n_eqT, n_eqF, n_m1T, n_m1F, n_m1F', n_cl, n_add, n_mul, ro_at, ro_ro, up_at, up_up, e1, er]
      by_cases q2 : (cmR T i).2 = T.length
      · rw [if_pos q2]
        have := fin (by rw [q2, getD_ov (Nat.le_refl _)]; decide)
        rw [if_pos q2] at this
        exact ⟨M1, this, by rw [a1, q2], f1⟩
      · rw [if_neg q2]
        by_cases q3 : T.getD (cmR T i).2 0 = 59
        · rw [if_pos q3]
          obtain ⟨hl, er⟩ := m_readsT (n := n) (h := h) (A := A) (R := R) (c := 59) t1 a1 (by decide) (by decide) q3
          obtain ⟨M2, hM2⟩ : ∃ M2, M2 = ro M1 0 (up (M1 0) 12 (nI ((cmR T i).2 + 1))) := ⟨_, rfl⟩
          rw [← hM2] at er
          have f2 : FrC M1 M2 := by rw [hM2]; exact Fr_r0 _ (by decide)
          obtain ⟨M', e, a, f9⟩ := ih ((cmR T i).2 + 1) L M2 (by omega) hl (by omega) (TM_q t1 f2 (by decide) (by decide)) (by rw [hM2, ro_at, up_at])
          refine ⟨M', ?_, a, Fr_tr f1 (Fr_tr f2 f9)⟩
          rw [lp_nx (s' := (nI 1, E n h A M2 R)), e]
          · show _ = some (nI (b2 ((prR T f ((cmR T i).2 + 1)).1.map (· + 1)).isSome), _)
            rw [Option.isSome_map]
          · unfold b_X12_readsAll_7 b0_X12_readsAll_7
            simp (disch := omega) only [↓grd_u, ↓bnd_e, ↓orf_u, ↓oif_u, ↓cal_u, ↓calX_u, ↓inrO_u, ↓reduceIte, EM, EMg, EMs, z0, oi, n_inbT, n_cntT, n_ltT, n_ltF, n_leT, n_leF, n_eqT, n_eqF, n_m1T, n_m1F, n_m1F', n_cl, n_add, n_mul, ro_at, ro_ro, up_at, up_up, e1, er]
        · rw [if_neg q3]
          have := fin q3
          rw [if_neg q2] at this
          exact ⟨M1, this, a1, f1⟩
    · rw [if_neg q]
      have q' : (cmR T i).1 = false := Bool.eq_false_iff.mpr q
      rw [q', show b2 false = 0 from rfl] at e1
      refine ⟨M1, ?_, a1, f1⟩
      rw [lp_en (r := (nI 0, E n h A M1 R))]
      · rfl
      · unfold b_X12_readsAll_7 b0_X12_readsAll_7
        simp (disch := omega) only [↓grd_u, ↓bnd_e, ↓orf_u, ↓oif_u, ↓cal_u, ↓calX_u, ↓inrO_u, ↓reduceIte, EM, EMg, EMs, z0, oi, n_inbT, n_cntT, n_ltT, n_ltF, n_leT, n_leF, n_eqT, n_eqF, n_m1T, n_m1F, n_m1F', n_cl, n_add, n_mul, ro_at, ro_ro, up_at, up_up, e1]
theorem m_readsAll (t : TM M T) : ∃ M', f_X12_readsAll (ma n 0) (E n h A M R) = some (nI (b2 (prR T 11 0).1.isSome), E n h A M' R) ∧ M' 0 12 = nI (prR T 11 0).2 ∧ FrC M M' := by
  have t60 := t.2.1
  obtain ⟨M0, hM0⟩ : ∃ M0, M0 = ro M 0 (up (M 0) 12 (nI 0)) := ⟨_, rfl⟩
  have f0 : FrC M M0 := by rw [hM0]; exact Fr_r0 _ (by decide)
  obtain ⟨M', e, a, f⟩ := m_ra7 (n := n) (h := h) (A := A) (R := R) (T := T) 11 0 100000 M0 (by omega) (Nat.zero_le _) (by decide) (TM_q t f0 (by decide) (by decide)) (by rw [hM0, ro_at, up_at])
  refine ⟨M', ?_, a, Fr_tr f0 f⟩
  have e : g_X12_readsAll_7 (ma n 0) (nI 1) (E n h A M0 R) = some (nI (b2 (prR T 11 0).1.isSome), E n h A M' R) := e
  unfold f_X12_readsAll
  simp (disch := omega) only [↓grd_u, ↓bnd_e, ↓orf_u, ↓oif_u, ↓cal_u, ↓calX_u, ↓inrO_u, ↓reduceIte, EM, EMg, EMs, z0, oi, n_inbT, n_cntT, n_ltT, n_ltF, n_leT, n_leF, n_eqT, n_eqF, n_m1T, n_m1F, n_m1F', n_cl, n_add, n_mul, ro_at, ro_ro, up_at, up_up, ← hM0, e]
end MRUN
