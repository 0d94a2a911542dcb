/-! the reference: the first word that tells two patterns apart -/
noncomputable def aFmtD (S : St) (v w : Int32) : Nat × Nat × St := match patN S v, patN S w with
  | some a, some b => (0, (chw (isB (nx2 (gluOf (lP (sCur S) a)) (gluOf (lP (sCur S) b))) (T2 false (gluOf (lP (sCur S) a)) (gluOf (lP (sCur S) b))) (128, 128))).length, setL S ((chw (isB (nx2 (gluOf (lP (sCur S) a)) (gluOf (lP (sCur S) b))) (T2 false (gluOf (lP (sCur S) a)) (gluOf (lP (sCur S) b))) (128, 128))).map (97 + ·)))
  | _, _ => (1, 0, S)
theorem aFmtD_X {S : St} {v w : Int32} (hx : (patN S v = none) ∨ (patN S w = none)) : aFmtD S v w = (1, 0, S) := by
  unfold aFmtD
  rcases hx with z | z
  · rw [z]
  · rw [z]
    cases patN S v <;> rfl
theorem n_dec (d : Nat) : nI (d + 1) + Int32.ofInt (-1) = nI d := by
  rw [← n_add, Int32.add_assoc, show nI 1 + Int32.ofInt (-1) = 0 by decide, Int32.add_zero]
section MDIFF
variable {n : Nat} {h : mH} {A M : Nat → Nat → Int32} {R : Nat → Nat → Option Nat} {S : St} {g g' : Glu}
theorem m1_ne {d : Nat} (hd : d ≤ 200) : ¬ (Int32.ofInt (-1) = nI d) := fun e => n_m1 (a := d) (by omega) e.symm
theorem m_fd41 {x y i d : Nat} (ok : GluOK g) (ok' : GluOK g') (tw : TwoM M g g') (hx : x < gL g) (hy : y < gL g') (hl : M 0 44 = nI i) (hi : i < 120) (hd : isD (nx2 g g') (T2 false g g') (gO g x, gO g' y) (d + 1)) (hd2 : d < 200) :
    ∃ c M', c < 3 ∧ isD (nx2 g g') (T2 false g g') (nx2 g g' (gO g x, gO g' y) c) d ∧ (∀ e, e < c → ¬ isD (nx2 g g') (T2 false g g') (nx2 g g' (gO g x, gO g' y) e) d) ∧ g_X12_formatDifference_41 (ma n 0) (nI (d + 1)) (nI (gO g x)) (nI (gO g' y)) (nI 0) (E n h A M R) = some (.inl (nI d, nI (gnext g (gO g x) c), nI (gnext g' (gO g' y) c), E n h A M' R)) ∧ Fr [24, 25, 26, 30] [44] M M' ∧ M' 0 44 = nI (i + 1) ∧ M' 30 = up (M 30) i (nI (97 + c)) := by
  have lx := gO_lt ok x
  have ly := gO_lt ok' y
  have key : ∃ r, g_X12_formatDifference_41 (ma n 0) (nI (d + 1)) (nI (gO g x)) (nI (gO g' y)) (nI 0) (E n h A M R) = some r ∧ ∃ c M', c < 3 ∧ isD (nx2 g g') (T2 false g g') (nx2 g g' (gO g x, gO g' y) c) d ∧ (∀ e, e < c → ¬ isD (nx2 g g') (T2 false g g') (nx2 g g' (gO g x, gO g' y) e) d) ∧ r = .inl (nI d, nI (gnext g (gO g x) c), nI (gnext g' (gO g' y) c), E n h A M' R) ∧ Fr [24, 25, 26, 30] [44] M M' ∧ M' 0 44 = nI (i + 1) ∧ M' 30 = up (M 30) i (nI (97 + c)) := by
    unfold g_X12_formatDifference_41
    refine lp_inv0 (f := b_X12_formatDifference_41 (ma n 0) (nI (d + 1)) (nI (gO g x)) (nI (gO g' y))) (fun c s' => ∃ M1, s' = (nI c, E n h A M1 R) ∧ Fr [24, 25, 26] [] M M1 ∧ ∀ e, e < c → ¬ isD (nx2 g g') (T2 false g g') (nx2 g g' (gO g x, gO g' y) e) d) _ 3 (fun c s' hc hI => ?_) (L := 100000) (by decide) ⟨M, rfl, Fr_rf _ _ _, fun e he => absurd he (Nat.not_lt_zero _)⟩
    obtain ⟨M1, rfl, fr1, hno⟩ := hI
    have tw1 := TwoM_fr tw fr1 (by decide)
    have l1 : M1 0 44 = nI i := by rw [fr1.2 _ (by decide)]; exact hl
    by_cases hc3 : c < 3
    · have to := m_to (n := n) (h := h) (A := A) (R := R) tw1.1 (by decide : 0 < 2) lx hc3
      have to' := m_to (n := n) (h := h) (A := A) (R := R) tw1.2.1 (by decide : 1 < 2) ly hc3
      have tl : gnext g (gO g x) c < 129 := gB_nx ok _ _ lx hc3
      have tl' : gnext g' (gO g' y) c < 129 := gB_nx ok' _ _ ly hc3
      obtain ⟨s1, s2⟩ := gS_ok ok hx hc3
      obtain ⟨t1, t2⟩ := gS_ok ok' hy hc3
      obtain ⟨v, M2, e2, fr2, hv⟩ := m_apart (n := n) (h := h) (A := A) (R := R) (one := false) ok ok' tw1 s1 t1
      have e2 : f_X12_apart (ma n 0) (nI (gO g (gS g x c))) (nI (gO g' (gS g' y c))) (nI 0) (E n h A M1 R) = some (v, E n h A M2 R) := e2
      rw [s2, t2] at e2 hv
      rw [← nx2_e] at hv
      have tw2 := TwoM_fr tw1 fr2 (by decide)
      have l2 : M2 0 44 = nI i := by rw [fr2.2 _ (by decide)]; exact l1
      unfold b_X12_formatDifference_41 b0_X12_formatDifference_41
      by_cases he : v = nI d
      · have hin := m_ins (n := n) (h := h) (A := A) (M := M2) (R := R) (c := 97 + c) hi (by omega) l2
        have frL : Fr [30] [44] M2 (ro (ro M2 30 (up (M2 30) i (nI (97 + c)))) 0 (up (M2 0) 44 (nI (i + 1)))) := by
          refine ⟨fun r h0 hr => ?_, fun k hk => ?_⟩
          · rw [ro_ne _ _ h0, ro_ne _ _ (fun e => hr (by rw [e]; exact List.mem_cons_self))]
          · rw [ro_at, up_ne _ _ (fun e => hk (by rw [e]; exact List.mem_cons_self))]
        have tw3 := TwoM_fr tw2 frL (by decide)
        have to2 := m_to (n := n) (h := h) (A := A) (R := R) tw3.1 (by decide : 0 < 2) lx hc3
        have to2' := m_to (n := n) (h := h) (A := A) (R := R) tw3.2.1 (by decide : 1 < 2) ly hc3
        have hDd : isD (nx2 g g') (T2 false g g') (nx2 g g' (gO g x, gO g' y) c) d := by
          rcases hv with ⟨k, k1, k2, k3⟩ | ⟨k1, -⟩
          · rw [he] at k1
            have := (nI_eq (by omega) (by omega)).mp k1
            rw [this]
            exact k3
          · exact absurd (k1.symm.trans he) (m1_ne (by omega))
        refine Or.inr ⟨_, ?_, c, _, hc3, hDd, hno, rfl, Fr_tr (Fr_wk fr1 (by decide) (by decide)) (Fr_tr (Fr_wk fr2 (by decide) (by decide)) (Fr_wk frL (by decide) (by decide))), by rw [ro_at, up_at], ?_⟩
        · simp (disch := omega) only [↓grd_u, ↓bnd_e, ↓orf_u, ↓oif_u, ↓cal_u, ↓calX_u, ↓inrO_u, ↓reduceIte, EM, EMg, EMs, z0, oi, n_inbT, n_cntT, n_ltT, n_ltF, n_leT, n_leF, n_eqT, n_eqF, n_m1T, n_m1F, n_m1F', n_cl, n_add, n_mul, ro_at, ro_ro, up_at, up_up, to]
          simp (disch := omega) only [↓grd_u, ↓bnd_e, ↓orf_u, ↓oif_u, ↓cal_u, ↓calX_u, ↓inrO_u, ↓reduceIte, EM, EMg, EMs, z0, oi, n_inbT, n_cntT, n_ltT, n_ltF, n_leT, n_leF, n_eqT, n_eqF, n_m1T, n_m1F, n_m1F', n_cl, n_add, n_mul, ro_at, ro_ro, up_at, up_up, to']
          simp (disch := omega) only [↓grd_u, ↓bnd_e, ↓orf_u, ↓oif_u, ↓cal_u, ↓calX_u, ↓inrO_u, ↓reduceIte, EM, EMg, EMs, z0, oi, n_inbT, n_cntT, n_ltT, n_ltF, n_leT, n_leF, n_eqT, n_eqF, n_m1T, n_m1F, n_m1F', n_cl, n_add, n_mul, ro_at, ro_ro, up_at, up_up, e2, he, n_sub, l2, hin]
          simp (disch := omega) only [↓grd_u, ↓bnd_e, ↓orf_u, ↓oif_u, ↓cal_u, ↓calX_u, ↓inrO_u, ↓reduceIte, EM, EMg, EMs, z0, oi, n_inbT, n_cntT, n_ltT, n_ltF, n_leT, n_leF, n_eqT, n_eqF, n_m1T, n_m1F, n_m1F', n_cl, n_add, n_mul, ro_at, ro_ro, up_at, up_up, to2]
          simp (disch := omega) only [↓grd_u, ↓bnd_e, ↓orf_u, ↓oif_u, ↓cal_u, ↓calX_u, ↓inrO_u, ↓reduceIte, EM, EMg, EMs, z0, oi, n_inbT, n_cntT, n_ltT, n_ltF, n_leT, n_leF, n_eqT, n_eqF, n_m1T, n_m1F, n_m1F', n_cl, n_add, n_mul, ro_at, ro_ro, up_at, up_up, to2', n_dec]
        · rw [ro_ne _ _ (by decide), ro_at, fr2.1 30 (by decide) (by decide), fr1.1 30 (by decide) (by decide)]
      · have hne : ¬ (v = nI (d + 1) - nI 1) := by
          rw [n_sub (by omega)]
          exact he
        refine Or.inl ⟨(nI (c + 1), E n h A M2 R), ?_, hc3, M2, rfl, Fr_tr fr1 fr2, fun e hec => ?_⟩
        · simp (disch := omega) only [↓grd_u, ↓bnd_e, ↓orf_u, ↓oif_u, ↓cal_u, ↓calX_u, ↓inrO_u, ↓reduceIte, EM, EMg, EMs, z0, oi, n_inbT, n_cntT, n_ltT, n_ltF, n_leT, n_leF, n_eqT, n_eqF, n_m1T, n_m1F, n_m1F', n_cl, n_add, n_mul, ro_at, ro_ro, up_at, up_up, to]
          simp (disch := omega) only [↓grd_u, ↓bnd_e, ↓orf_u, ↓oif_u, ↓cal_u, ↓calX_u, ↓inrO_u, ↓reduceIte, EM, EMg, EMs, z0, oi, n_inbT, n_cntT, n_ltT, n_ltF, n_leT, n_leF, n_eqT, n_eqF, n_m1T, n_m1F, n_m1F', n_cl, n_add, n_mul, ro_at, ro_ro, up_at, up_up, to']
          simp (disch := omega) only [↓grd_u, ↓bnd_e, ↓orf_u, ↓oif_u, ↓cal_u, ↓calX_u, ↓inrO_u, ↓reduceIte, EM, EMg, EMs, z0, oi, n_inbT, n_cntT, n_ltT, n_ltF, n_leT, n_leF, n_eqT, n_eqF, n_m1T, n_m1F, n_m1F', n_cl, n_add, n_mul, ro_at, ro_ro, up_at, up_up, e2]
          rw [if_neg hne]
        · by_cases z : e = c
          · rw [z]
            intro y
            rcases hv with ⟨k, k1, -, k3⟩ | ⟨-, k2⟩
            · rw [isD_u y k3] at he
              exact he k1
            · have := y.1
              rw [k2 d] at this
              cases this
          · exact hno e (by omega)
    · exfalso
      obtain ⟨c', hc', hk⟩ := ek_s.mp hd.1
      exact hno c' (by omega) (isD_next hd hc' hk)
  obtain ⟨r, e, c, M', h1, h2, h3, rfl, h4⟩ := key
  exact ⟨c, M', h1, h2, h3, e, h4⟩
theorem m_fd34 (ok : GluOK g) (ok' : GluOK g') : ∀ (d x y i L : Nat) (M : Nat → Nat → Int32), TwoM M g g' → x < gL g → y < gL g' → M 0 44 = nI i → i + d ≤ 120 → d < L → isD (nx2 g g') (T2 false g g') (gO g x, gO g' y) d →
    ∃ w M', isB (nx2 g g') (T2 false g g') (gO g x, gO g' y) w ∧ w.length = d ∧ lp (b_X12_formatDifference_34 (ma n 0)) L (nI d, nI (gO g x), nI (gO g' y), E n h A M R) = some (nI (i + d), E n h A M' R) ∧ M' 0 44 = nI (i + d) ∧ (∀ k, k < d → M' 30 (i + k) = nI (97 + w.getD k 0)) ∧ (∀ k, k < i → M' 30 k = M 30 k) ∧ Fr [24, 25, 26, 30] [44] M M' := by
  intro d
  induction d with
  | zero =>
    intro x y i L M tw hx hy hl hi hL hd
    have lx := gO_lt ok x
    have ly := gO_lt ok' y
    have hT : T2 false g g' (gO g x, gO g' y) = true := by
      have := hd.1
      rw [ek_z] at this
      exact this
    obtain ⟨L, rfl⟩ : ∃ L', L = L' + 1 := ⟨L - 1, by omega⟩
    refine ⟨[], M, isB_nil hT, rfl, lp_en ?_, hl, fun k hk => absurd hk (Nat.not_lt_zero _), fun k _ => rfl, Fr_rf _ _ _⟩
    unfold b_X12_formatDifference_34 b0_X12_formatDifference_34
    simp (disch := omega) only [↓grd_u, ↓bnd_e, ↓orf_u, ↓oif_u, ↓cal_u, ↓calX_u, ↓inrO_u, ↓reduceIte, EM, EMg, EMs, z0, oi, n_inbT, n_cntT, n_ltT, n_ltF, n_leT, n_leF, n_eqT, n_eqF, n_m1T, n_m1F, n_m1F', n_cl, n_add, n_mul, ro_at, ro_ro, up_at, up_up, hl, Nat.add_zero]
  | succ d ih =>
    intro x y i L M tw hx hy hl hi hL hd
    have lx := gO_lt ok x
    have ly := gO_lt ok' y
    obtain ⟨c, M1, c1, c2, c4, c5, fr1, l1, hline⟩ := m_fd41 (n := n) (h := h) (A := A) (R := R) ok ok' tw hx hy hl (by omega) hd (by omega)
    obtain ⟨s1, s2⟩ := gS_ok ok hx c1
    obtain ⟨t1, t2⟩ := gS_ok ok' hy c1
    obtain ⟨L, rfl⟩ : ∃ L', L = L' + 1 := ⟨L - 1, by omega⟩
    have tw1 := TwoM_fr tw fr1 (by decide)
    have e2 : nx2 g g' (gO g x, gO g' y) c = (gO g (gS g x c), gO g' (gS g' y c)) := by rw [nx2_e, s2, t2]
    rw [e2] at c2
    obtain ⟨w, M2, w1, w2, w3, w4, w5, w6, w7⟩ := ih (gS g x c) (gS g' y c) (i + 1) L M1 tw1 s1 t1 l1 (by omega) (by omega) c2
    rw [← e2] at w1 c2
    rw [s2, t2] at w3
    refine ⟨c :: w, M2, isB_cons hd c1 w1 c2 c4, by rw [List.length_cons, w2], ?_, by rw [w4, Nat.add_right_comm, Nat.add_assoc], fun k hk => ?_, fun k hk => ?_, Fr_tr fr1 w7⟩
    · rw [lp_nx (s' := (nI d, nI (gnext g (gO g x) c), nI (gnext g' (gO g' y) c), E n h A M1 R)), w3, Nat.add_right_comm, Nat.add_assoc]
      unfold b_X12_formatDifference_34 b0_X12_formatDifference_34
      simp (disch := omega) only [↓grd_u, ↓bnd_e, ↓orf_u, ↓oif_u, ↓cal_u, ↓calX_u, ↓inrO_u, ↓reduceIte, EM, EMg, EMs, z0, oi, n_inbT, n_cntT, n_ltT, n_ltF, n_leT, n_leF, n_eqT, n_eqF, n_m1T, n_m1F, n_m1F', n_cl, n_add, n_mul, ro_at, ro_ro, up_at, up_up, c5]
    · cases k with
      | zero =>
        rw [Nat.add_zero, w6 i (by omega), hline, up_at]
        rfl
      | succ k =>
        rw [show i + (k + 1) = i + 1 + k by omega, w5 k (by omega)]
        rfl
    · rw [w6 k (by omega), hline, up_ne _ _ (by omega)]
theorem nz_m1 : Int32.ofInt (-1) ≤ nI 0 := by decide
/-- where the line is long enough -/
theorem m_formatDifference {v w : Int32} (hi : IM M S) (hg : GoodS S) (h120 : ∀ a b k, patN S v = some a → patN S w = some b → isD (nx2 (gluOf (lP (sCur S) a)) (gluOf (lP (sCur S) b))) (T2 false (gluOf (lP (sCur S) a)) (gluOf (lP (sCur S) b))) (128, 128) k → k ≤ 120) : MA n h A R (f_X12_formatDifference (ma n 0) v w (E n h A M R)) (aFmtD S v w) := by
  unfold f_X12_formatDifference
  rcases two_cases S v w with ⟨a, b, ha, hb, rfl, rfl, pa, pb, ea, eb⟩ | hx
  · have h0 : IM (ro M 0 (up (M 0) 0 (nI 0))) S := IM_thrown hi
    obtain ⟨x, M', e, i, t, tw, hv⟩ := m_two (n := n) (h := h) (A := A) (R := R) (one := false) h0 hg ha hb pa pb
    have e : f_X12_apartSlots (ma n 0) (nI a) (nI b) (nI 0) (E n h A (ro M 0 (up (M 0) 0 (nI 0))) R) = some (x, E n h A M' R) := e
    have h120 := h120 a b
    unfold aFmtD
    rw [ea, eb]
    dsimp only
    have hn := m_not0 (n := n) (h := h) (A := A) (R := R) hi hg ha hb pa pb
    have ok := good_glu hg ha pa
    have ok' := good_glu hg hb pb
    obtain ⟨g, hge⟩ : ∃ g, g = gluOf (lP (sCur S) a) := ⟨_, rfl⟩
    obtain ⟨g', hge'⟩ : ∃ g', g' = gluOf (lP (sCur S) b) := ⟨_, rfl⟩
    rw [← hge, ← hge'] at hv tw h120
    rw [← hge] at ok
    rw [← hge'] at ok'
    rw [← hge, ← hge']
    obtain ⟨M3, hM3⟩ : ∃ M3, M3 = ro M' 0 (up (M' 0) 44 (nI 0)) := ⟨_, rfl⟩
    have f4 : Fr [] [44] M' M3 := by rw [hM3]; exact Fr_r0 _ (by decide)
    have tw3 := TwoM_fr tw f4 (by decide)
    have l3 : M3 0 44 = nI 0 := by rw [hM3, ro_at, up_at]
    rcases hv with ⟨k, rfl, hk, hd⟩ | ⟨rfl, hd⟩
    · have hk120 := h120 k ea eb hd
      have hd1 : isD (nx2 g g') (T2 false g g') (gO g 0, gO g' 0) k := by rw [gO_0, gO_0]; exact hd
      obtain ⟨u, M4, w1, w2, w3, w4, w5, -, w7⟩ := m_fd34 (n := n) (h := h) (A := A) (R := R) ok ok' k 0 0 0 100000 M3 tw3 (gL_pos _) (gL_pos _) l3 (by omega) (by omega) hd1
      have w3 : g_X12_formatDifference_34 (ma n 0) (nI k) (nI (gO g 0)) (nI (gO g' 0)) (E n h A M3 R) = some (nI (0 + k), E n h A M4 R) := w3
      rw [gO_0, gO_0] at w1 w3
      have hc : chw (isB (nx2 g g') (T2 false g g') (128, 128)) = u := chw_u w1 (fun j hj => isB_u hj w1)
      rw [hc]
      have fr : Fr [24, 25, 26, 30] [44] M' M4 := Fr_tr (Fr_wk f4 (by decide) (by decide)) w7
      refine ⟨M4, ?_, IM_L i fr (by decide) (by decide) ?_ (fun j hj => ?_), by rw [fr.2 _ (by decide), t, ro_at, up_at]⟩
      · simp (disch := omega) only [↓grd_u, ↓bnd_e, ↓orf_u, ↓oif_u, ↓cal_u, ↓calX_u, ↓inrO_u, ↓reduceIte, EM, EMg, EMs, z0, oi, n_inbT, n_cntT, n_ltT, n_ltF, n_leT, n_leF, n_eqT, n_eqF, n_m1T, n_m1F, n_m1F', n_cl, n_add, n_mul, ro_at, ro_ro, up_at, up_up, hn, e, nz0]
        rw [← hM3, w3, w2, Nat.zero_add]
      · rw [w4, List.length_map, w2, Nat.zero_add]
      · rw [List.length_map] at hj
        have := w5 j (by omega)
        rw [Nat.zero_add] at this
        rw [this, gD_map hj]
    · have hc : chw (isB (nx2 g g') (T2 false g g') (128, 128)) = [] := chw_no (fun u hu => by
        have h1 := (isB_len hu).1
        rw [hd] at h1
        cases h1)
      rw [hc]
      refine ⟨M3, ?_, IM_L i f4 (by decide) (by decide) l3 (fun j hj => absurd hj (Nat.not_lt_zero _)), by rw [f4.2 _ (by decide), t, ro_at, up_at]⟩
      have hl : g_X12_formatDifference_34 (ma n 0) (Int32.ofInt (-1)) (nI 128) (nI 128) (E n h A M3 R) = some (nI 0, E n h A M3 R) := by
        unfold g_X12_formatDifference_34
        refine lp_en (L := 99999) ?_
        unfold b_X12_formatDifference_34 b0_X12_formatDifference_34
        simp (disch := omega) only [↓grd_u, ↓bnd_e, ↓orf_u, ↓oif_u, ↓cal_u, ↓calX_u, ↓inrO_u, ↓reduceIte, EM, EMg, EMs, z0, oi, n_inbT, n_cntT, n_ltT, n_ltF, n_leT, n_leF, n_eqT, n_eqF, n_m1T, n_m1F, n_m1F', n_cl, n_add, n_mul, ro_at, ro_ro, up_at, up_up, l3]
        rw [if_pos nz_m1]
      simp (disch := omega) only [↓grd_u, ↓bnd_e, ↓orf_u, ↓oif_u, ↓cal_u, ↓calX_u, ↓inrO_u, ↓reduceIte, EM, EMg, EMs, z0, oi, n_inbT, n_cntT, n_ltT, n_ltF, n_leT, n_leF, n_eqT, n_eqF, n_m1T, n_m1F, n_m1F', n_cl, n_add, n_mul, ro_at, ro_ro, up_at, up_up, hn, e, nz0]
      rw [← hM3, hl]
      rfl
  · rw [aFmtD_X hx]
    obtain ⟨M', e, i, t⟩ := m_notX (n := n) (h := h) (A := A) (R := R) hi hg hx
    refine ⟨M', ?_, i, t⟩
    simp (disch := omega) only [↓grd_u, ↓bnd_e, ↓orf_u, ↓oif_u, ↓cal_u, ↓calX_u, ↓inrO_u, ↓reduceIte, EM, EMg, EMs, z0, oi, n_inbT, n_cntT, n_ltT, n_ltF, n_leT, n_leF, n_eqT, n_eqF, n_m1T, n_m1F, n_m1F', n_cl, n_add, n_mul, ro_at, ro_ro, up_at, up_up, e]
end MDIFF
