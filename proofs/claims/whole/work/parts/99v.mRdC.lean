/-! the reference: reading a pattern, the loop -/
section MRDC
variable {n : Nat} {h : mH} {A M : Nat → Nat → Int32} {R : Nat → Nat → Option Nat} {S : St} {T : List Nat} {i n0 : Nat} {s : rst}
theorem Cont_st {i' : Nat} {s' : rst} (a : Cont T i s i' s') (b : rdP (T.drop i') s' = (0, s')) : (rdP (T.drop i) s).1 = i' - i ∧ (rdP (T.drop i) s).2 = s' := by
  rw [a.1, b]
  exact ⟨rfl, rfl⟩
theorem Cont_2 {i' : Nat} {s' : rst} (a : Cont T i s i' s') : i + (rdP (T.drop i) s).1 = i' + (rdP (T.drop i') s').1 ∧ (rdP (T.drop i) s).2 = (rdP (T.drop i') s').2 := by
  have := a.2.1
  rw [a.1]
  exact ⟨by show i + (i' - i + _) = _; omega, rfl⟩
theorem RS_at (hs : RS M T i s) {M0 : Nat → Nat → Int32} (hM0 : M0 = ro M 0 (up (M 0) 12 (nI (i + 1)))) : RS M0 T (i + 1) s ∧ FrD M M0 := by
  obtain ⟨t, r1, r2, r3, r4⟩ := hs
  have f0 : FrD M M0 := by rw [hM0]; exact Fr_r0 _ (by decide)
  have v0 : ∀ k, k ≠ 12 → M0 0 k = M 0 k := fun k hk => by rw [hM0, ro_at, up_ne _ _ hk]
  have u0 : ∀ r, r ≠ 0 → M0 r = M r := fun r hr => by rw [hM0, ro_ne _ _ hr]
  exact ⟨⟨TM_fr t f0, by rw [hM0, ro_at, up_at], Blt_fr r2 (v0 _ (by decide)) (u0 _ (by decide)), WT_fr r3 (v0 _ (by decide)) (u0 _ (by decide)), by rw [v0 _ (by decide)]; exact r4⟩, f0⟩
theorem RS_add {c : Nat} (hs : RS M T i s) (hc : c < 9) (hl : s.1.length < 130) (k : Nat) : ∃ M', f_X12_adds (ma n 0) (nI c) (E n h A M R) = some ((), E n h A M' R) ∧ RS M' T i (s.1 ++ [c], s.2.1, k) ∧ FrD M M' := by
  obtain ⟨t, r1, r2, r3, r4⟩ := hs
  obtain ⟨M', e, b, f⟩ := m_addsO (n := n) (h := h) (A := A) (R := R) r2 hc hl
  have ff : FrD M M' := Fr_wk f (by decide) (by decide)
  exact ⟨M', e, ⟨TM_fr t ff, by rw [f.2 _ (by decide)]; exact r1, b, WT_fr r3 (f.2 _ (by decide)) (f.1 _ (by decide) (by decide)), by rw [f.2 _ (by decide)]; exact r4⟩, ff⟩
theorem m_readsBehind (hs : RS M T i s) (hI : RIn s) (hP : PB n0 s) (hn : n0 + (T.length - i) ≤ 60) (hi : i ≤ T.length) (k1 : s.2.2 = 1) :
    ∃ m M' i' s', f_X12_readsBehind (ma n 0) (E n h A M R) = some (nI m, E n h A M' R) ∧ RS M' T i' s' ∧ FrD M M' ∧ Cont T i s i' s' ∧ RIn s' ∧ PB (n0 + (i' - i)) s' ∧ After m T i i' s' := by
  obtain ⟨t, r1, r2, r3, r4⟩ := id hs
  have t60 := t.2.1
  unfold f_X12_readsBehind
  by_cases q : 0 < sgo (T.getD i 0)
  · have q1 := (sgo_n q).1
    have q2 := (sgo_n q).2
    have hl : i < T.length := by
      rcases Nat.lt_or_ge i T.length with z | z
      · exact z
      · rw [getD_ov z] at q1
        omega
    have e0 := m_nextT (n := n) (h := h) (A := A) (R := R) t r1 hl
    have eg := m_signOf (c := T.getD i 0) (g := E n h A M R) (by omega)
    obtain ⟨M0, hM0⟩ : ∃ M0, M0 = ro M 0 (up (M 0) 12 (nI (i + 1))) := ⟨_, rfl⟩
    obtain ⟨q0, f0⟩ := RS_at hs hM0
    have p1 := hP.1
    obtain ⟨M1, e1, s1, f1⟩ := RS_add (n := n) (h := h) (A := A) (R := R) (c := sgo (T.getD i 0)) q0 (by omega) (by omega) 2
    have hcf : cf s.2.2 (opn s.2.1) (T.getD i 0) := Or.inr (Or.inr (Or.inl ⟨q, k1⟩))
    rcases rd1_ok (c := T.getD i 0) hI hP with ⟨-, z⟩ | ⟨-, s2, z, y1, y2, y3, y4⟩
    · exact absurd hcf z
    have es2 : s2 = (s.1 ++ [sgo (T.getD i 0)], s.2.1, 2) := by
      unfold rd1 at z
      have ej : jnt s (T.getD i 0) = s := if_neg (fun q => by omega)
      rw [ej] at z
      unfold rd0 at z
      rw [if_neg (by omega), if_neg (by omega), if_pos q, if_pos k1] at z
      exact (Option.some.inj z).symm
    rw [← es2] at s1
    obtain ⟨m, M', i', s', e2, g1, g2, g3, g4, g5, g6⟩ := m_b27 (n := n) (h := h) (A := A) (R := R) (n0 := n0 + 1) s1 y1 y2 (by omega) hl (by rw [es2]; show (2 : Nat) ≠ 0; decide) (fun z => by rw [es2] at z; exact absurd z (by show ¬ (2 : Nat) = 1; decide))
    have hii := g3.2.1
    refine ⟨m, M', i', s', ?_, g1, FrD_tr f0 (FrD_tr f1 g2), Cont_tr (Cont_1 hl z) g3, g4, by rw [show n0 + (i' - i) = n0 + 1 + (i' - (i + 1)) by omega]; exact g5, ?_⟩
    · simp (disch := omega) only [↓grd_u, ↓bnd_e, ↓orf_u, ↓oif_u, ↓cal_u, ↓calX_u, ↓inrO_u, ↓reduceIte, EM, EMg, EMs, z0, oi, n_inbT, n_cntT, n_ltT, n_ltF, n_leT, n_leF, n_eqT, n_eqF, n_m1T, n_m1F, n_m1F', n_cl, n_add, n_mul, ro_at, ro_ro, up_at, up_up, e0, eg, r1, ← hM0, e1, e2]
    · rcases g6 with z | z | z
      · exact Or.inl z
      · exact Or.inr (Or.inl z)
      · exact Or.inr (Or.inr ⟨z.1, z.2.1, by omega⟩)
  · have q0 : sgo (T.getD i 0) = 0 := by omega
    obtain ⟨m, M', i', s', e2, g⟩ := m_b27 (n := n) (h := h) (A := A) (R := R) hs hI hP hn hi (by omega) (fun _ => q0)
    refine ⟨m, M', i', s', ?_, g⟩
    rcases Nat.lt_or_ge i T.length with z | z
    · have e0 := m_nextT (n := n) (h := h) (A := A) (R := R) t r1 z
      have b := (t.2.2 i z).2
      have eg := m_signOf (c := T.getD i 0) (g := E n h A M R) (by omega)
      rw [q0] at eg
      simp (disch := omega) only [↓grd_u, ↓bnd_e, ↓orf_u, ↓oif_u, ↓cal_u, ↓calX_u, ↓inrO_u, ↓reduceIte, EM, EMg, EMs, z0, oi, n_inbT, n_cntT, n_ltT, n_ltF, n_leT, n_leF, n_eqT, n_eqF, n_m1T, n_m1F, n_m1F', n_cl, n_add, n_mul, ro_at, ro_ro, up_at, up_up, e0, eg, e2]
    · have e0 := m_nextF (n := n) (h := h) (A := A) (R := R) t r1 z (by omega)
      have eg : f_X12_signOf (Int32.ofInt (-1)) (E n h A M R) = some (nI 0, E n h A M R) := by
        unfold f_X12_signOf
        simp (disch := omega) only [↓grd_u, ↓bnd_e, ↓orf_u, ↓oif_u, ↓cal_u, ↓calX_u, ↓inrO_u, ↓reduceIte, EM, EMg, EMs, z0, oi, n_inbT, n_cntT, n_ltT, n_ltF, n_leT, n_leF, n_eqT, n_eqF, n_m1T, n_m1F, n_m1F', n_cl, n_add, n_mul, ro_at, ro_ro, up_at, up_up]
      simp (disch := omega) only [↓grd_u, ↓bnd_e, ↓orf_u, ↓oif_u, ↓cal_u, ↓calX_u, ↓inrO_u, ↓reduceIte, EM, EMg, EMs, z0, oi, n_inbT, n_cntT, n_ltT, n_ltF, n_leT, n_leF, n_eqT, n_eqF, n_m1T, n_m1F, n_m1F', n_cl, n_add, n_mul, ro_at, ro_ro, up_at, up_up, e0, eg, e2]
/-- where the loop stands -/
def Md (m : Nat) (T : List Nat) (i : Nat) (s : rst) : Prop := (m = 0 ∧ s.2.2 ≠ 0 ∧ rdP (T.drop i) s = (0, s)) ∨ (m = 1 ∧ s.2.2 = 0) ∨ (m = 2 ∧ s.2.2 = 1)
theorem m_rp17 : ∀ (N m L n0 i : Nat) (s : rst) (M : Nat → Nat → Int32), 2 * (T.length - i) + (if m = 2 then 1 else 0) < N → N < L → RS M T i s → RIn s → PB n0 s → n0 + (T.length - i) ≤ 60 → i ≤ T.length → Md m T i s →
    ∃ M', lp (b_X12_readsPattern_17 (ma n 0)) L (nI m, E n h A M R) = some (nI (b1 (rdOk (rdP (T.drop i) s).2)), E n h A M' R) ∧ M' 0 12 = nI (i + (rdP (T.drop i) s).1) ∧ FrD M M' ∧ (rdOk (rdP (T.drop i) s).2 → Blt M' (rdE (rdP (T.drop i) s).2)) := by
  intro N
  induction N with
  | zero => intro m L n0 i s M hN; exact absurd hN (Nat.not_lt_zero _)
  | succ N ih =>
    intro m L n0 i s M hN hL hs hI hP hn hi hM
    obtain ⟨L, rfl⟩ : ∃ L', L = L' + 1 := ⟨L - 1, by omega⟩
    obtain ⟨t, r1, r2, r3, r4⟩ := id hs
    have t60 := t.2.1
    have p1 := hP.1
    have p2 := hP.2
    have ho := opn_le s.2.1
    rcases hM with ⟨rfl, k0, hst⟩ | ⟨rfl, k0⟩ | ⟨rfl, k1⟩
    · -- the end
      rw [hst]
      by_cases ok : rdOk s
      · obtain ⟨M1, e1, g1, g2, g3⟩ := m_brings (n := n) (h := h) (A := A) (R := R) (e := 5) (Or.inr rfl) r2 r3 (by omega)
        have ob := ok.2
        rw [ob] at r4
        refine ⟨M1, ?_, by rw [g3.2 _ (by decide)]; exact r1, Fr_wk g3 (by decide) (by decide), fun _ => g1⟩
        rw [lp_en (r := (nI (b1 (rdOk s)), E n h A M1 R))]
        unfold b_X12_readsPattern_17 b0_X12_readsPattern_17 b1
        rw [if_pos ok]
        simp (disch := omega) only [↓grd_u, ↓bnd_e, ↓orf_u, ↓oif_u, ↓cal_u, ↓calX_u, ↓inrO_u, ↓reduceIte, EM, EMg, EMs, z0, oi, n_inbT, n_cntT, n_ltT, n_ltF, n_leT, n_leF, n_eqT, n_eqF, n_m1T, n_m1F, n_m1F', n_cl, n_add, n_mul, ro_at, ro_ro, up_at, up_up, r4, e1]
      · refine ⟨M, ?_, r1, FrD_rf, fun z => absurd z ok⟩
        have ob : 0 < opn s.2.1 := Nat.pos_of_ne_zero fun z => ok ⟨k0, z⟩
        rw [lp_en (r := (nI (b1 (rdOk s)), E n h A M R))]
        unfold b_X12_readsPattern_17 b0_X12_readsPattern_17 b1
        rw [if_neg ok]
        simp (disch := omega) only [↓grd_u, ↓bnd_e, ↓orf_u, ↓oif_u, ↓cal_u, ↓calX_u, ↓inrO_u, ↓reduceIte, EM, EMg, EMs, z0, oi, n_inbT, n_cntT, n_ltT, n_ltF, n_leT, n_leF, n_eqT, n_eqF, n_m1T, n_m1F, n_m1F', n_cl, n_add, n_mul, ro_at, ro_ro, up_at, up_up, r4]
    · -- an atom must come
      by_cases q1 : T.getD i 0 = 40
      · obtain ⟨hl, er⟩ := m_readsT (n := n) (h := h) (A := A) (R := R) (c := 40) t r1 (by decide) (by decide) q1
        obtain ⟨M0, hM0⟩ : ∃ M0, M0 = ro M 0 (up (M 0) 12 (nI (i + 1))) := ⟨_, rfl⟩
        rw [← hM0] at er
        obtain ⟨⟨t0, a1, a2, a3, a4⟩, f0⟩ := RS_at hs hM0
        obtain ⟨M1, e1, w1, f1⟩ := m_waitsFor (n := n) (h := h) (A := A) (R := R) (t := 9) a3 (by decide) (by omega)
        obtain ⟨M2, hM2⟩ : ∃ M2, M2 = ro M1 0 (up (M1 0) 17 (nI (opn s.2.1 + 1))) := ⟨_, rfl⟩
        have v2 : ∀ k, k ≠ 17 → M2 0 k = M1 0 k := fun k hk => by rw [hM2, ro_at, up_ne _ _ hk]
        have u2 : ∀ r, r ≠ 0 → M2 r = M1 r := fun r hr => by rw [hM2, ro_ne _ _ hr]
        have f1' : FrD M0 M1 := Fr_wk f1 (by decide) (by decide)
        have f2' : FrD M1 M2 := by rw [hM2]; exact Fr_r0 _ (by decide)
        have ff := FrD_tr f0 (FrD_tr f1' f2')
        have hcf : cf s.2.2 (opn s.2.1) (T.getD i 0) := Or.inr (Or.inl q1)
        rcases rd1_ok (c := T.getD i 0) hI hP with ⟨-, z⟩ | ⟨-, s1, z, y1, y2, y3, y4⟩
        · exact absurd hcf z
        have es1 : s1 = (s.1, 9 :: s.2.1, 0) := by
          unfold rd1 at z
          rw [q1] at z
          have ej : jnt s 40 = s := if_neg (fun q => q.1 k0)
          rw [ej] at z
          unfold rd0 at z
          rw [if_neg (by omega), if_pos rfl, if_pos k0] at z
          exact (Option.some.inj z).symm
        have b1' : M1 0 17 = nI (opn s.2.1) := by rw [f1.2 _ (by decide)]; exact a4
        have hRS : RS M2 T (i + 1) s1 := by
          rw [es1]
          refine ⟨TM_fr t ff, ?_, Blt_fr a2 ?_ ?_, WT_fr w1 (v2 _ (by decide)) (u2 _ (by decide)), ?_⟩
          · rw [v2 _ (by decide), f1.2 _ (by decide)]; exact a1
          · rw [v2 _ (by decide), f1.2 _ (by decide)]
          · rw [u2 _ (by decide), f1.1 _ (by decide) (by decide)]
          · rw [hM2, ro_at, up_at]
            rfl
        obtain ⟨M', e2, g1, g2, g3⟩ := ih 1 L (n0 + 1) (i + 1) s1 M2 (by rw [if_neg (by decide)] at hN ⊢; omega) (by omega) hRS y1 y2 (by omega) hl (Or.inr (Or.inl ⟨rfl, by rw [es1]⟩))
        obtain ⟨c1, c2⟩ := Cont_2 (Cont_1 hl z)
        refine ⟨M', ?_, by rw [c1]; exact g1, FrD_tr ff g2, by rw [c2]; exact g3⟩
        rw [c2, lp_nx (s' := (nI 1, E n h A M2 R))]
        · exact e2
        · unfold b_X12_readsPattern_17 b0_X12_readsPattern_17
          simp (disch := omega) only [↓grd_u, ↓bnd_e, ↓orf_u, ↓oif_u, ↓cal_u, ↓calX_u, ↓inrO_u, ↓reduceIte, EM, EMg, EMs, z0, oi, n_inbT, n_cntT, n_ltT, n_ltF, n_leT, n_leF, n_eqT, n_eqF, n_m1T, n_m1F, n_m1F', n_cl, n_add, n_mul, ro_at, ro_ro, up_at, up_up, er, e1, b1', ← hM2]
      · have er := m_readsF (n := n) (h := h) (A := A) (R := R) (c := 40) t r1 (by omega) (by decide) (by decide) q1
        by_cases q2 : 97 ≤ T.getD i 0 ∧ T.getD i 0 ≤ 99
        · have hl : i < T.length := by
            rcases Nat.lt_or_ge i T.length with z | z
            · exact z
            · rw [getD_ov z] at q2
              omega
          have e0 := m_nextT (n := n) (h := h) (A := A) (R := R) t r1 hl
          have eb := m_between (v := T.getD i 0) (a := 97) (b := 99) (g := E n h A M R) (by omega) q2.1 q2.2 (by decide)
          obtain ⟨M0, hM0⟩ : ∃ M0, M0 = ro M 0 (up (M 0) 12 (nI (i + 1))) := ⟨_, rfl⟩
          obtain ⟨hs0, f0⟩ := RS_at hs hM0
          obtain ⟨M1, e1, hs1, f1⟩ := RS_add (n := n) (h := h) (A := A) (R := R) (c := T.getD i 0 - 96) hs0 (by omega) (by omega) 1
          have hcf : cf s.2.2 (opn s.2.1) (T.getD i 0) := Or.inl q2
          rcases rd1_ok (c := T.getD i 0) hI hP with ⟨-, z⟩ | ⟨-, s1, z, y1, y2, y3, y4⟩
          · exact absurd hcf z
          have es1 : s1 = (s.1 ++ [T.getD i 0 - 96], s.2.1, 1) := by
            unfold rd1 at z
            have ej : jnt s (T.getD i 0) = s := if_neg (fun q => q.1 k0)
            rw [ej] at z
            unfold rd0 at z
            rw [if_pos q2, if_pos k0] at z
            exact (Option.some.inj z).symm
          rw [← es1] at hs1
          obtain ⟨m, M2, i2, s2, e2, g1, g2, g3, g4, g5, g6⟩ := m_readsBehind (n := n) (h := h) (A := A) (R := R) (n0 := n0 + 1) hs1 y1 y2 (by omega) hl (by rw [es1])
          have i12 := g3.2.1
          have i22 := g3.2.2
          have hMd : Md m T i2 s2 := by
            rcases g6 with z | z | z
            · exact Or.inl z
            · exact Or.inr (Or.inl z)
            · exact Or.inr (Or.inr ⟨z.1, z.2.1⟩)
          obtain ⟨M', e3, k1, k2, k3⟩ := ih m L (n0 + 1 + (i2 - (i + 1))) i2 s2 M2 (by rw [if_neg (by decide)] at hN; split <;> omega) (by omega) g1 g4 g5 (by omega) i22 hMd
          obtain ⟨c1, c2⟩ := Cont_2 (Cont_tr (Cont_1 hl z) g3)
          refine ⟨M', ?_, by rw [c1]; exact k1, FrD_tr f0 (FrD_tr f1 (FrD_tr g2 k2)), by rw [c2]; exact k3⟩
          rw [c2, lp_nx (s' := (nI m, E n h A M2 R))]
          · exact e3
          · have el : f_X12_readsLetter (ma n 0) (E n h A M R) = some (nI 1, E n h A M1 R) := by
              unfold f_X12_readsLetter
              simp (disch := omega) only [↓grd_u, ↓bnd_e, ↓orf_u, ↓oif_u, ↓cal_u, ↓calX_u, ↓inrO_u, ↓reduceIte, EM, EMg, EMs, z0, oi, n_inbT, n_cntT, n_ltT, n_ltF, n_leT, n_leF, n_eqT, n_eqF, n_m1T, n_m1F, n_m1F', n_cl, n_add, n_mul, ro_at, ro_ro, up_at, up_up, e0, eb, r1, ← hM0, n_sub]
              rw [show T.getD i 0 - 97 + 1 = T.getD i 0 - 96 by omega, e1]
            unfold b_X12_readsPattern_17 b0_X12_readsPattern_17 g_X12_readsPattern_54
            simp (disch := omega) only [↓grd_u, ↓bnd_e, ↓orf_u, ↓oif_u, ↓cal_u, ↓calX_u, ↓inrO_u, ↓reduceIte, EM, EMg, EMs, z0, oi, n_inbT, n_cntT, n_ltT, n_ltF, n_leT, n_leF, n_eqT, n_eqF, n_m1T, n_m1F, n_m1F', n_cl, n_add, n_mul, ro_at, ro_ro, up_at, up_up, er, el, e2]
        · have eb : f_X12_readsLetter (ma n 0) (E n h A M R) = some (nI 0, E n h A M R) := by
            unfold f_X12_readsLetter
            rcases Nat.lt_or_ge i T.length with z | z
            · have b := (t.2.2 i z).2
              have e0 := m_nextT (n := n) (h := h) (A := A) (R := R) t r1 z
              have eb := m_betweenF (v := nI (T.getD i 0)) (a := nI 97) (b := nI 99) (g := E n h A M R) (by
                rcases Nat.lt_or_ge (T.getD i 0) 97 with y | y
                · left
                  rw [n_lt (by omega) (by decide)]
                  exact y
                · right
                  rw [n_lt (by decide) (by omega)]
                  omega)
              simp (disch := omega) only [↓grd_u, ↓bnd_e, ↓orf_u, ↓oif_u, ↓cal_u, ↓calX_u, ↓inrO_u, ↓reduceIte, EM, EMg, EMs, z0, oi, n_inbT, n_cntT, n_ltT, n_ltF, n_leT, n_leF, n_eqT, n_eqF, n_m1T, n_m1F, n_m1F', n_cl, n_add, n_mul, ro_at, ro_ro, up_at, up_up, e0, eb]
            · have e0 := m_nextF (n := n) (h := h) (A := A) (R := R) t r1 z (by omega)
              have eb := m_betweenF (v := Int32.ofInt (-1)) (a := nI 97) (b := nI 99) (g := E n h A M R) (Or.inl (by decide +kernel))
              simp (disch := omega) only [↓grd_u, ↓bnd_e, ↓orf_u, ↓oif_u, ↓cal_u, ↓calX_u, ↓inrO_u, ↓reduceIte, EM, EMg, EMs, z0, oi, n_inbT, n_cntT, n_ltT, n_ltF, n_leT, n_leF, n_eqT, n_eqF, n_m1T, n_m1F, n_m1F', n_cl, n_add, n_mul, ro_at, ro_ro, up_at, up_up, e0, eb]
          have hst : rdP (T.drop i) s = (0, s) := by
            rcases Nat.lt_or_ge i T.length with z | z
            · rw [drop_c z]
              unfold rdP
              rcases rd1_ok (c := T.getD i 0) hI hP with ⟨e, -⟩ | ⟨e, -⟩
              · rw [e]
              · exfalso
                unfold cf at e
                omega
            · rw [List.drop_eq_nil_of_le z]
              rfl
          rw [hst]
          have nok : ¬ rdOk s := fun z => z.1 k0
          refine ⟨M, ?_, r1, FrD_rf, fun z => absurd z nok⟩
          rw [lp_en (r := (nI (b1 (rdOk s)), E n h A M R))]
          unfold b_X12_readsPattern_17 b0_X12_readsPattern_17 g_X12_readsPattern_54 b1
          rw [if_neg nok]
          simp (disch := omega) only [↓grd_u, ↓bnd_e, ↓orf_u, ↓oif_u, ↓cal_u, ↓calX_u, ↓inrO_u, ↓reduceIte, EM, EMg, EMs, z0, oi, n_inbT, n_cntT, n_ltT, n_ltF, n_leT, n_leF, n_eqT, n_eqF, n_m1T, n_m1F, n_m1F', n_cl, n_add, n_mul, ro_at, ro_ro, up_at, up_up, er, eb]
    · -- another atom has ended
      obtain ⟨m, M2, i2, s2, e2, g1, g2, g3, g4, g5, g6⟩ := m_readsBehind (n := n) (h := h) (A := A) (R := R) (n0 := n0) hs hI hP hn hi k1
      have i12 := g3.2.1
      have i22 := g3.2.2
      have hMd : Md m T i2 s2 := by
        rcases g6 with z | z | z
        · exact Or.inl z
        · exact Or.inr (Or.inl z)
        · exact Or.inr (Or.inr ⟨z.1, z.2.1⟩)
      obtain ⟨M', e3, k1, k2, k3⟩ := ih m L (n0 + (i2 - i)) i2 s2 M2 (by
        rw [if_pos rfl] at hN
        rcases g6 with z | z | z
        · rw [if_neg (by omega)]; omega
        · rw [if_neg (by omega)]; omega
        · rw [if_pos z.1]; omega) (by omega) g1 g4 g5 (by omega) i22 hMd
      obtain ⟨c1, c2⟩ := Cont_2 g3
      refine ⟨M', ?_, by rw [c1]; exact k1, FrD_tr g2 k2, by rw [c2]; exact k3⟩
      rw [c2, lp_nx (s' := (nI m, E n h A M2 R))]
      · exact e3
      · unfold b_X12_readsPattern_17 b0_X12_readsPattern_17 g_X12_readsPattern_54
        simp (disch := omega) only [↓grd_u, ↓bnd_e, ↓orf_u, ↓oif_u, ↓cal_u, ↓calX_u, ↓inrO_u, ↓reduceIte, EM, EMg, EMs, z0, oi, n_inbT, n_cntT, n_ltT, n_ltF, n_leT, n_leF, n_eqT, n_eqF, n_m1T, n_m1F, n_m1F', n_cl, n_add, n_mul, ro_at, ro_ro, up_at, up_up, e2]
/-- a pattern is read from a place: how far, whether it is whole, its codes -/
def pR (T : List Nat) (i : Nat) : Nat × rst := rdP (T.drop i) rs0
theorem m_readsPattern (t : TM M T) (hi : M 0 12 = nI i) (hi2 : i ≤ T.length) : ∃ M', f_X12_readsPattern (ma n 0) (E n h A M R) = some (nI (b1 (rdOk (pR T i).2)), E n h A M' R) ∧ M' 0 12 = nI (i + (pR T i).1) ∧ FrD M M' ∧ (rdOk (pR T i).2 → Blt M' (rdE (pR T i).2)) := by
  have t60 := t.2.1
  obtain ⟨M0, hM0⟩ : ∃ M0, M0 = ro M 0 (up (up (up (M 0) 9 (nI 0)) 16 (nI 0)) 17 (nI 0)) := ⟨_, rfl⟩
  have f0 : FrD M M0 := ⟨fun r hr _ => by rw [hM0, ro_ne _ _ hr], fun k hk => by
    rw [hM0, ro_at, up_ne _ _ (fun e => hk (by rw [e]; decide)), up_ne _ _ (fun e => hk (by rw [e]; decide)), up_ne _ _ (fun e => hk (by rw [e]; decide))]⟩
  have hs : RS M0 T i rs0 := ⟨TM_fr t f0, by rw [hM0, ro_at, up_ne _ _ (by decide), up_ne _ _ (by decide), up_ne _ _ (by decide)]; exact hi, ⟨by rw [hM0, ro_at, up_ne _ _ (by decide), up_ne _ _ (by decide), up_at]; rfl, fun k hk => absurd hk (Nat.not_lt_zero _), by decide, fun k hk => absurd hk (Nat.not_lt_zero _)⟩, ⟨by rw [hM0, ro_at, up_ne _ _ (by decide), up_at]; rfl, by decide, fun k hk => absurd hk (Nat.not_lt_zero _)⟩, by rw [hM0, ro_at, up_at]; rfl⟩
  obtain ⟨M', e, g1, g2, g3⟩ := m_rp17 (n := n) (h := h) (A := A) (R := R) (T := T) 1000 1 100000 0 i rs0 M0 (by rw [if_neg (by decide)]; omega) (by decide) hs rs0_ok.1 rs0_ok.2 (by omega) hi2 (Or.inr (Or.inl ⟨rfl, rfl⟩))
  refine ⟨M', ?_, g1, FrD_tr f0 g2, g3⟩
  have e : g_X12_readsPattern_17 (ma n 0) (nI 1) (E n h A M0 R) = some (nI (b1 (rdOk (pR T i).2)), E n h A M' R) := e
  unfold f_X12_readsPattern
  simp (disch := omega) only [↓grd_u, ↓bnd_e, ↓orf_u, ↓oif_u, ↓cal_u, ↓calX_u, ↓inrO_u, ↓reduceIte, EM, EMg, EMs, z0, oi, n_inbT, n_cntT, n_ltT, n_ltF, n_leT, n_leF, n_eqT, n_eqF, n_m1T, n_m1F, n_m1F', n_cl, n_add, n_mul, ro_at, ro_ro, up_at, up_up, ← hM0, e]
end MRDC
