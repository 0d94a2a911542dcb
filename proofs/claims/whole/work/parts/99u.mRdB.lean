/-! the reference: reading a pattern -/
section MRDB
variable {n : Nat} {h : mH} {A M : Nat → Nat → Int32} {R : Nat → Nat → Option Nat} {S : St} {T : List Nat} {i n0 : Nat} {s : rst}
/-- rows while a pattern is read -/
def RS (M : Nat → Nat → Int32) (T : List Nat) (i : Nat) (s : rst) : Prop := TM M T ∧ M 0 12 = nI i ∧ Blt M s.1 ∧ WT M s.2.1 ∧ M 0 17 = nI (opn s.2.1)
theorem opn_le : ∀ w : List Nat, opn w ≤ w.length
  | [] => Nat.le_refl _
  | t :: w => by
    have := opn_le w
    show (if t = 9 then opn w + 1 else opn w) ≤ w.length + 1
    split <;> omega
theorem m_signOf {c : Nat} (hc : c < 128) {g : mH} : f_X12_signOf (nI c) g = some (nI (sgo c), g) := by
  unfold f_X12_signOf sgo
  by_cases a : c = 42
  · rw [a]; rfl
  by_cases b : c = 43
  · rw [b]; rfl
  by_cases d : c = 63
  · rw [d]; rfl
  rw [if_neg a, if_neg b, if_neg d]
  simp (disch := omega) only [↓grd_u, ↓bnd_e, ↓orf_u, ↓oif_u, ↓cal_u, ↓calX_u, ↓inrO_u, ↓reduceIte, EM, EMg, EMs, z0, oi, n_inbT, n_cntT, n_ltT, n_ltF, n_leT, n_leF, n_eqT, n_eqF, n_m1T, n_m1F, n_m1F', n_cl, n_add, n_mul, ro_at, ro_ro, up_at, up_up]
/-- what stands behind an atom and its sign -/
def After (m : Nat) (T : List Nat) (i i' : Nat) (s' : rst) : Prop := (m = 0 ∧ s'.2.2 ≠ 0 ∧ rdP (T.drop i') s' = (0, s')) ∨ (m = 1 ∧ s'.2.2 = 0) ∨ (m = 2 ∧ s'.2.2 = 1 ∧ i < i')
theorem m_b50 {c : Nat} (hs : RS M T i s) (hI : RIn s) (hP : PB n0 s) (hn : n0 ≤ 60) (k0 : s.2.2 ≠ 0) (hc : (97 ≤ c ∧ c ≤ 99) ∨ c = 40) : ∃ M', g_X12_readsBehind_50 (ma n 0) (E n h A M R) = some (nI 1, E n h A M' R) ∧ RS M' T i (jnt s c) ∧ FrD M M' := by
  obtain ⟨t, r1, r2, r3, r4⟩ := hs
  have p1 := hP.1
  have p2 := hP.2
  obtain ⟨M1, e1, b1, w1, f1⟩ := m_brings (n := n) (h := h) (A := A) (R := R) (e := 4) (Or.inl rfl) r2 r3 (by omega)
  obtain ⟨-, j2, j3, -, -⟩ := jnt_ok (c := c) hI hP
  have ej : jnt s c = ((brg 4 s.1 s.2.1).1, 4 :: (brg 4 s.1 s.2.1).2, 0) := by
    unfold jnt
    rw [if_pos ⟨k0, hc⟩]
  rw [ej] at j2 j3
  have j4 : (brg 4 s.1 s.2.1).2.length + 1 + 0 ≤ n0 := j3.2
  obtain ⟨M2, e2, w2, f2⟩ := m_waitsFor (n := n) (h := h) (A := A) (R := R) (t := 4) w1 (by decide) (by omega)
  have f1' : FrD M M1 := Fr_wk f1 (by decide) (by decide)
  have f2' : FrD M1 M2 := Fr_wk f2 (by decide) (by decide)
  have ff := FrD_tr f1' f2'
  refine ⟨M2, ?_, ?_, ff⟩
  · unfold g_X12_readsBehind_50
    simp (disch := omega) only [↓grd_u, ↓bnd_e, ↓orf_u, ↓oif_u, ↓cal_u, ↓calX_u, ↓inrO_u, ↓reduceIte, EM, EMg, EMs, z0, oi, n_inbT, n_cntT, n_ltT, n_ltF, n_leT, n_leF, n_eqT, n_eqF, n_m1T, n_m1F, n_m1F', n_cl, n_add, n_mul, ro_at, ro_ro, up_at, up_up, e1, e2]
  · rw [ej]
    refine ⟨TM_fr t ff, by rw [f2.2 _ (by decide), f1.2 _ (by decide)]; exact r1, Blt_fr b1 (f2.2 _ (by decide)) (f2.1 _ (by decide) (by decide)), w2, ?_⟩
    rw [f2.2 _ (by decide), f1.2 _ (by decide), r4]
    exact congrArg nI j2.symm
theorem m_b27 (hs : RS M T i s) (hI : RIn s) (hP : PB n0 s) (hn : n0 + (T.length - i) ≤ 60) (hi : i ≤ T.length) (k0 : s.2.2 ≠ 0) (hsg : s.2.2 = 1 → sgo (T.getD i 0) = 0) :
    ∃ m M' i' s', g_X12_readsBehind_27 (ma n 0) (E n h A M R) = some (nI m, E n h A M' R) ∧ RS M' T i' s' ∧ FrD M M' ∧ Cont T i s i' s' ∧ RIn s' ∧ PB (n0 + (i' - i)) s' ∧ After m T i i' s' := by
  obtain ⟨t, r1, r2, r3, r4⟩ := id hs
  have p1 := hP.1
  have p2 := hP.2
  have t60 := t.2.1
  have ho := opn_le s.2.1
  have w80 := r3.2.1
  unfold g_X12_readsBehind_27
  by_cases hA : (97 ≤ T.getD i 0 ∧ T.getD i 0 ≤ 99) ∨ T.getD i 0 = 40
  · have hl : i < T.length := by
      rcases Nat.lt_or_ge i T.length with z | z
      · exact z
      · rw [getD_ov z] at hA
        omega
    have e0 := m_nextT (n := n) (h := h) (A := A) (R := R) t r1 hl
    obtain ⟨M1, e1, q1, f1⟩ := m_b50 (n := n) (h := h) (A := A) (R := R) hs hI hP (by omega) k0 hA
    obtain ⟨j1, j2, j3, j6, j7⟩ := jnt_ok (c := T.getD i 0) hI hP
    have hcf : cf s.2.2 (opn s.2.1) (T.getD i 0) := hA.elim Or.inl (fun z => Or.inr (Or.inl z))
    obtain ⟨s1, es1⟩ : ∃ s1, rd1 s (T.getD i 0) = some s1 := by
      rcases rd1_ok (c := T.getD i 0) hI hP with ⟨-, z⟩ | ⟨-, s1, z, -⟩
      · exact absurd hcf z
      · exact ⟨s1, z⟩
    refine ⟨1, M1, i, _, ?_, q1, f1, Cont_j hl es1, j1, by rw [Nat.sub_self, Nat.add_zero]; exact j3, Or.inr (Or.inl ⟨rfl, j6 hA⟩)⟩
    have b := (t.2.2 i hl).2
    by_cases hL : 97 ≤ T.getD i 0 ∧ T.getD i 0 ≤ 99
    · have eb := m_between (v := T.getD i 0) (a := 97) (b := 99) (g := E n h A M R) (by omega) hL.1 hL.2 (by decide)
      simp (disch := omega) only [↓grd_u, ↓bnd_e, ↓orf_u, ↓oif_u, ↓cal_u, ↓calX_u, ↓inrO_u, ↓reduceIte, EM, EMg, EMs, z0, oi, n_inbT, n_cntT, n_ltT, n_ltF, n_leT, n_leF, n_eqT, n_eqF, n_m1T, n_m1F, n_m1F', n_cl, n_add, n_mul, ro_at, ro_ro, up_at, up_up, e0, eb, e1]
    · have h40 : T.getD i 0 = 40 := by omega
      rw [h40] at e0
      have eb := m_betweenF (v := nI 40) (a := nI 97) (b := nI 99) (g := E n h A M R) (Or.inl (by decide +kernel))
      simp (disch := omega) only [↓grd_u, ↓bnd_e, ↓orf_u, ↓oif_u, ↓cal_u, ↓calX_u, ↓inrO_u, ↓reduceIte, EM, EMg, EMs, z0, oi, n_inbT, n_cntT, n_ltT, n_ltF, n_leT, n_leF, n_eqT, n_eqF, n_m1T, n_m1F, n_m1F', n_cl, n_add, n_mul, ro_at, ro_ro, up_at, up_up, e0, eb, e1]
  · have eb : ∃ x, f_X12_nextChar (ma n 0) (E n h A M R) = some (x, E n h A M R) ∧ f_X12_isBetween x (nI 97) (nI 99) (E n h A M R) = some (nI 0, E n h A M R) ∧ (x = nI 40) = False := by
      rcases Nat.lt_or_ge i T.length with z | z
      · have b := (t.2.2 i z).2
        refine ⟨_, m_nextT (n := n) (h := h) (A := A) (R := R) t r1 z, m_betweenF ?_, eq_false ?_⟩
        · rcases Nat.lt_or_ge (T.getD i 0) 97 with y | y
          · left
            rw [n_lt (by omega) (by decide)]
            exact y
          · right
            rw [n_lt (by decide) (by omega)]
            omega
        · rw [n_eq (by omega) (by decide)]
          omega
      · refine ⟨_, m_nextF (n := n) (h := h) (A := A) (R := R) t r1 z (by omega), m_betweenF (Or.inl (by decide +kernel)), eq_false (by decide +kernel)⟩
    obtain ⟨x, x1, x2, x3⟩ := eb
    by_cases hB : T.getD i 0 = 124
    · obtain ⟨hl, er⟩ := m_readsT (n := n) (h := h) (A := A) (R := R) (c := 124) t r1 (by decide) (by decide) hB
      obtain ⟨M0, hM0⟩ : ∃ M0, M0 = ro M 0 (up (M 0) 12 (nI (i + 1))) := ⟨_, rfl⟩
      rw [← hM0] at er
      have f0 : FrD M M0 := by rw [hM0]; exact Fr_r0 _ (by decide)
      have v0 : ∀ k, k ≠ 12 → M0 0 k = M 0 k := fun k hk => by rw [hM0, ro_at, up_ne _ _ hk]
      have u0 : ∀ r, r ≠ 0 → M0 r = M r := fun r hr => by rw [hM0, ro_ne _ _ hr]
      obtain ⟨M1, e1, b1, w1, f1⟩ := m_brings (n := n) (h := h) (A := A) (M := M0) (R := R) (e := 5) (Or.inr rfl) (Blt_fr r2 (v0 _ (by decide)) (u0 _ (by decide))) (WT_fr r3 (v0 _ (by decide)) (u0 _ (by decide))) (by omega)
      have hcf : cf s.2.2 (opn s.2.1) (T.getD i 0) := Or.inr (Or.inr (Or.inr (Or.inl ⟨hB, k0⟩)))
      rcases rd1_ok (c := T.getD i 0) hI hP with ⟨-, z⟩ | ⟨-, s1, z, y1, y2, y3, y4⟩
      · exact absurd hcf z
      have es1 : s1 = ((brg 5 s.1 s.2.1).1, 5 :: (brg 5 s.1 s.2.1).2, 0) := by
        unfold rd1 at z
        rw [hB] at z
        have ej : jnt s 124 = s := if_neg (fun q => by omega)
        rw [ej] at z
        unfold rd0 at z
        rw [if_neg (by omega), if_neg (by omega), if_neg (by decide), if_pos rfl, if_neg k0] at z
        exact (Option.some.inj z).symm
      have y5 : s1.2.1.length ≤ n0 + 1 := by have := y2.2; omega
      rw [es1] at y5
      have y5 : (brg 5 s.1 s.2.1).2.length + 1 ≤ n0 + 1 := y5
      obtain ⟨M2, e2, w2, f2⟩ := m_waitsFor (n := n) (h := h) (A := A) (R := R) (t := 5) w1 (by decide) (by omega)
      have f1' : FrD M0 M1 := Fr_wk f1 (by decide) (by decide)
      have f2' : FrD M1 M2 := Fr_wk f2 (by decide) (by decide)
      have ff := FrD_tr f0 (FrD_tr f1' f2')
      refine ⟨1, M2, i + 1, s1, ?_, ⟨TM_fr t ff, ?_, ?_, ?_, ?_⟩, ff, Cont_1 hl z, y1, by rw [show n0 + (i + 1 - i) = n0 + 1 by omega]; exact y2, Or.inr (Or.inl ⟨rfl, by rw [es1]⟩)⟩
      · simp (disch := omega) only [↓grd_u, ↓bnd_e, ↓orf_u, ↓oif_u, ↓cal_u, ↓calX_u, ↓inrO_u, ↓reduceIte, EM, EMg, EMs, z0, oi, n_inbT, n_cntT, n_ltT, n_ltF, n_leT, n_leF, n_eqT, n_eqF, n_m1T, n_m1F, n_m1F', n_cl, n_add, n_mul, ro_at, ro_ro, up_at, up_up, x1, x2, x3, er, e1, e2]
      · rw [f2.2 _ (by decide), f1.2 _ (by decide), hM0, ro_at, up_at]
      · rw [es1]
        exact Blt_fr b1 (f2.2 _ (by decide)) (f2.1 _ (by decide) (by decide))
      · rw [es1]
        exact w2
      · rw [f2.2 _ (by decide), f1.2 _ (by decide), v0 _ (by decide), r4, y4]
        unfold no
        rw [hB, if_neg (by decide), if_neg (by decide)]
    · have er := m_readsF (n := n) (h := h) (A := A) (R := R) (c := 124) t r1 (by omega) (by decide) (by decide) hB
      by_cases hC : T.getD i 0 = 41 ∧ opn s.2.1 ≠ 0
      · obtain ⟨hl, er2⟩ := m_readsT (n := n) (h := h) (A := A) (R := R) (c := 41) t r1 (by decide) (by decide) hC.1
        obtain ⟨M0, hM0⟩ : ∃ M0, M0 = ro M 0 (up (M 0) 12 (nI (i + 1))) := ⟨_, rfl⟩
        rw [← hM0] at er2
        have f0 : FrD M M0 := by rw [hM0]; exact Fr_r0 _ (by decide)
        have v0 : ∀ k, k ≠ 12 → M0 0 k = M 0 k := fun k hk => by rw [hM0, ro_at, up_ne _ _ hk]
        have u0 : ∀ r, r ≠ 0 → M0 r = M r := fun r hr => by rw [hM0, ro_ne _ _ hr]
        obtain ⟨M1, e1, b1, w1, f1⟩ := m_brings (n := n) (h := h) (A := A) (M := M0) (R := R) (e := 5) (Or.inr rfl) (Blt_fr r2 (v0 _ (by decide)) (u0 _ (by decide))) (WT_fr r3 (v0 _ (by decide)) (u0 _ (by decide))) (by omega)
        have hcf : cf s.2.2 (opn s.2.1) (T.getD i 0) := Or.inr (Or.inr (Or.inr (Or.inr ⟨hC.1, k0, hC.2⟩)))
        rcases rd1_ok (c := T.getD i 0) hI hP with ⟨-, z⟩ | ⟨-, s1, z, y1, y2, y3, y4⟩
        · exact absurd hcf z
        have es1 : s1 = ((brg 5 s.1 s.2.1).1, (brg 5 s.1 s.2.1).2.tail, 1) := by
          unfold rd1 at z
          rw [hC.1] at z
          have ej : jnt s 41 = s := if_neg (fun q => by omega)
          rw [ej] at z
          unfold rd0 at z
          rw [if_neg (by omega), if_neg (by omega), if_neg (by decide), if_neg (by omega), if_pos rfl, if_neg (by omega)] at z
          exact (Option.some.inj z).symm
        obtain ⟨⟨vs, hv⟩, -⟩ := id hI
        unfold kk at hv
        rw [if_neg k0] at hv
        obtain ⟨-, g2, g3, g4, g5⟩ := brg_RJ (e := 5) s.2.1 vs s.1 hv
        obtain ⟨r, er9⟩ : ∃ r, (brg 5 s.1 s.2.1).2 = 9 :: r := by
          rcases g5 rfl with z | z
          · rw [z] at g2
            have : 0 = opn s.2.1 := g2
            omega
          · exact z
        rw [er9] at w1 es1 g4
        have w11 : M1 0 16 = nI (r.length + 1) := w1.1
        have hbr : M1 0 17 = nI (opn s.2.1) := by rw [f1.2 _ (by decide), v0 _ (by decide), r4]
        have hbr0 : M 0 17 = nI (opn s.2.1) := r4
        have g4 : r.length + 1 ≤ s.2.1.length := g4
        obtain ⟨M2, hM2⟩ : ∃ M2, M2 = ro M1 0 (up (up (M1 0) 16 (nI r.length)) 17 (nI (opn s.2.1 - 1))) := ⟨_, rfl⟩
        have f1' : FrD M0 M1 := Fr_wk f1 (by decide) (by decide)
        have v2 : ∀ k, k ≠ 16 → k ≠ 17 → M2 0 k = M1 0 k := fun k hk hk2 => by rw [hM2, ro_at, up_ne _ _ hk2, up_ne _ _ hk]
        have u2 : ∀ r, r ≠ 0 → M2 r = M1 r := fun r hr => by rw [hM2, ro_ne _ _ hr]
        have f2' : FrD M1 M2 := ⟨fun r hr _ => u2 r hr, fun k hk => v2 k (fun e => hk (by rw [e]; decide)) (fun e => hk (by rw [e]; decide))⟩
        have ff := FrD_tr f0 (FrD_tr f1' f2')
        refine ⟨2, M2, i + 1, s1, ?_, ⟨TM_fr t ff, ?_, ?_, ?_, ?_⟩, ff, Cont_1 hl z, y1, by rw [show n0 + (i + 1 - i) = n0 + 1 by omega]; exact y2, Or.inr (Or.inr ⟨rfl, by rw [es1], by omega⟩)⟩
        · simp (disch := omega) only [↓grd_u, ↓bnd_e, ↓orf_u, ↓oif_u, ↓cal_u, ↓calX_u, ↓inrO_u, ↓reduceIte, EM, EMg, EMs, z0, oi, n_inbT, n_cntT, n_ltT, n_ltF, n_leT, n_leF, n_eqT, n_eqF, n_m1T, n_m1F, n_m1F', n_cl, n_add, n_mul, ro_at, ro_ro, up_at, up_up, x1, x2, x3, er, hbr0, er2, e1, w11, n_sub, Nat.add_sub_cancel, up_ne, hbr, ← hM2]
        · rw [v2 _ (by decide) (by decide), f1.2 _ (by decide), hM0, ro_at, up_at]
        · rw [es1]
          exact Blt_fr b1 (v2 _ (by decide) (by decide)) (u2 _ (by decide))
        · rw [es1]
          show WT M2 r
          exact WT_pop w1 (by rw [hM2, ro_at, up_ne _ _ (by decide), up_at]) (u2 _ (by decide))
        · rw [hM2, ro_at, up_at, y4]
          unfold no
          rw [hC.1, if_neg (by decide), if_pos rfl]
      · have hst : rdP (T.drop i) s = (0, s) := by
          rcases Nat.lt_or_ge i T.length with z | z
          · rw [drop_c z]
            unfold rdP
            rcases rd1_ok (c := T.getD i 0) hI hP with ⟨e, -⟩ | ⟨e, -⟩
            · rw [e]
            · exfalso
              unfold cf at e
              rcases e with e | e | e | e | e
              · exact hA (Or.inl e)
              · exact hA (Or.inr e)
              · have := hsg e.2
                omega
              · exact hB e.1
              · exact hC ⟨e.1, e.2.2⟩
          · rw [List.drop_eq_nil_of_le z]
            rfl
        refine ⟨0, M, i, s, ?_, hs, FrD_rf, Cont_rf hi, hI, by rw [Nat.sub_self, Nat.add_zero]; exact hP, Or.inl ⟨rfl, k0, hst⟩⟩
        unfold g_X12_readsBehind_126
        by_cases hz : opn s.2.1 = 0
        · rw [hz] at r4
          simp (disch := omega) only [↓grd_u, ↓bnd_e, ↓orf_u, ↓oif_u, ↓cal_u, ↓calX_u, ↓inrO_u, ↓reduceIte, EM, EMg, EMs, z0, oi, n_inbT, n_cntT, n_ltT, n_ltF, n_leT, n_leF, n_eqT, n_eqF, n_m1T, n_m1F, n_m1F', n_cl, n_add, n_mul, ro_at, ro_ro, up_at, up_up, x1, x2, x3, er, r4]
        · have er2 := m_readsF (n := n) (h := h) (A := A) (R := R) (c := 41) t r1 (by omega) (by decide) (by decide) (fun q => hC ⟨q, hz⟩)
          simp (disch := omega) only [↓grd_u, ↓bnd_e, ↓orf_u, ↓oif_u, ↓cal_u, ↓calX_u, ↓inrO_u, ↓reduceIte, EM, EMg, EMs, z0, oi, n_inbT, n_cntT, n_ltT, n_ltF, n_leT, n_leF, n_eqT, n_eqF, n_m1T, n_m1F, n_m1F', n_cl, n_add, n_mul, ro_at, ro_ro, up_at, up_up, x1, x2, x3, er, r4, er2]
end MRDB
