/-! the reference: a command is read, all keywords -/
section MCMDC
variable {n : Nat} {h : mH} {A M : Nat → Nat → Int32} {R : Nat → Nat → Option Nat} {S : St} {T : List Nat} {i : Nat}
/-- what reading a command gives -/
def Cmd (n : Nat) (h : mH) (A : Nat → Nat → Int32) (R : Nat → Nat → Option Nat) (T : List Nat) (i : Nat) (M : Nat → Nat → Int32) (x : Option (Int32 × mH)) : Prop := ∃ M', x = some (nI (b2 (cmR T i).1), E n h A M' R) ∧ M' 0 12 = nI (cmR T i).2 ∧ FrC M M' ∧ ((cmR T i).1 = true → CMD M' T i)
theorem mtc_l {c x : Nat} (h : c < 200) (e : x = c) : mtc c x := by
  unfold mtc
  rw [if_pos h]
  exact e
theorem rdl {v : Int32} (c : Nat) (hv : v = nI c) (h1 : 1 ≤ c) (h2 : c < 128) : RDt n h A R T (f_X12_reads (ma n 0) v) [c] ret1 := rd_lit hv h1 h2
theorem rdd {v : Int32} (k : Nat) (hv : v = nI k) (hk : k < 3) : RDt n h A R T (f_X12_readsDigit (ma n 0) v) [200 + k] ret1 := rd_dig hv hk
theorem m_star {M2 : Nat → Nat → Int32} (h0 : T.getD i 0 = 115) (h1 : T.getD (i + 1) 0 ≠ 101) (t : TM M2 T) (hi : M2 0 12 = nI (i + 1)) (f2 : FrC M M2) (hl : i < T.length) : Cmd n h A R T i M (f_X12_readsS (ma n 0) (E n h A M2 R)) := by
  have t60 := t.2.1
  have ek : ksel T i = 3 := by unfold ksel; rw [if_pos h0, if_neg h1]
  have e1 : f_X12_reads (ma n 0) (Int32.ofInt 101) (E n h A M2 R) = some (nI 0, E n h A M2 R) := m_readsF (n := n) (h := h) (A := A) (R := R) (c := 101) t hi (by omega) (by decide) (by decide) h1
  have hF : ∀ h, g_X12_readsS_128 h = some (nI 0, h) := fun h => by
    unfold g_X12_readsS_128 g_X12_readsS_129
    simp only [↓grd_u, ↓bnd_e, ↓orf_u, ↓oif_u, ↓cal_u, ↓calX_u, ↓inrO_u, ↓reduceIte, EM, EMg, EMs, z0, oi, n_inbT, n_cntT, n_ltT, n_ltF, n_leT, n_leF, n_eqT, n_eqF, n_m1T, n_m1F, n_m1F', n_cl, n_add, n_mul, ro_at, ro_ro, up_at, up_up, nz0]
  have hG : ∀ h, g_X12_readsS_129 (Int32.ofInt 1) h = ret1 h := fun h => by
    unfold g_X12_readsS_129 ret1
    simp only [↓grd_u, ↓bnd_e, ↓orf_u, ↓oif_u, ↓cal_u, ↓calX_u, ↓inrO_u, ↓reduceIte, EM, EMg, EMs, z0, oi, n_inbT, n_cntT, n_ltT, n_ltF, n_leT, n_leF, n_eqT, n_eqF, n_m1T, n_m1F, n_m1F', n_cl, n_add, n_mul, ro_at, ro_ro, up_at, up_up, nz1]
  have key := rdt_grd (n := n) (h := h) (A := A) (R := R) (T := T) (rdt_c hF (rdl (v := Int32.ofInt 116) 116 rfl (by decide) (by decide)) (rdt_grd (rdt_c hF (rdl (v := Int32.ofInt 97) 97 rfl (by decide) (by decide)) (rdt_grd (rdt_c hF (rdl (v := Int32.ofInt 114) 114 rfl (by decide) (by decide)) (rdt_grd (rdt_c hF (rdl (v := Int32.ofInt 32) 32 rfl (by decide) (by decide)) (rdt_grd (rdt_c hF (rdd (v := Int32.ofInt 0) 0 rfl (by decide)) (rdt_grd (rdt_c hF (rdl (v := Int32.ofInt 61) 61 rfl (by decide) (by decide)) (rdt_grd (rdt_c hF (rdd (v := Int32.ofInt 1) 1 rfl (by decide)) (rdt_end hG) (by decide) (by decide))) (by decide) (by decide))) (by decide) (by decide))) (by decide) (by decide))) (by decide) (by decide))) (by decide) (by decide))) (by decide) (by decide))
  obtain ⟨M3, hM3⟩ : ∃ M3, M3 = ro M2 0 (up (M2 0) 48 (Int32.ofInt 114)) := ⟨_, rfl⟩
  have f3 : FrC M2 M3 := by rw [hM3]; exact Fr_r0 _ (by decide)
  have q := cmd_fin (M := M) (k := 3) (c0 := 115) (M2 := M3) key ek (by decide) (by decide) rfl h0 (by decide) (by decide) (TM_q t f3 (by decide) (by decide)) (by rw [hM3, ro_at, up_ne _ _ (by decide)]; exact hi) (by rw [hM3, ro_at, up_at]; rfl) (Fr_tr f2 f3)
  unfold Cmd
  unfold f_X12_readsS
  rw [grd_w k17, cal_w e1, if_pos (show nI 0 = 0 from rfl), grd_w k17, bnd_w, si_M (by decide), ← hM3]
  exact q
theorem m_set {M2 : Nat → Nat → Int32} (h0 : T.getD i 0 = 115) (h1 : T.getD (i + 1) 0 = 101) (t : TM M2 T) (hi : M2 0 12 = nI (i + 1)) (hs : M2 0 48 = nI 115) (f2 : FrC M M2) (hl : i < T.length) : Cmd n h A R T i M (f_X12_readsS (ma n 0) (E n h A M2 R)) := by
  have t60 := t.2.1
  have ek : ksel T i = 0 := by unfold ksel; rw [if_pos h0, if_pos h1]
  obtain ⟨hl1, e1⟩ := m_readsT (n := n) (h := h) (A := A) (R := R) (c := 101) t hi (by decide) (by decide) h1
  obtain ⟨M3, hM3⟩ : ∃ M3, M3 = ro M2 0 (up (M2 0) 12 (nI (i + 1 + 1))) := ⟨_, rfl⟩
  rw [← hM3] at e1
  have e1 : f_X12_reads (ma n 0) (Int32.ofInt 101) (E n h A M2 R) = some (nI 1, E n h A M3 R) := e1
  have f3 : FrC M2 M3 := by rw [hM3]; exact Fr_r0 _ (by decide)
  have t3 := TM_q t f3 (by decide) (by decide)
  have hi3 : M3 0 12 = nI (i + 2) := by rw [hM3, ro_at, up_at]
  have hF : ∀ h, g_X12_readsS_55 h = some (nI 0, h) := fun h => by
    unfold g_X12_readsS_55 g_X12_readsS_56
    simp only [↓grd_u, ↓bnd_e, ↓orf_u, ↓oif_u, ↓cal_u, ↓calX_u, ↓inrO_u, ↓reduceIte, EM, EMg, EMs, z0, oi, n_inbT, n_cntT, n_ltT, n_ltF, n_leT, n_leF, n_eqT, n_eqF, n_m1T, n_m1F, n_m1F', n_cl, n_add, n_mul, ro_at, ro_ro, up_at, up_up, nz0]
  have hG : ∀ h, g_X12_readsS_56 (Int32.ofInt 1) h = some (nI 1, h) := fun h => by
    unfold g_X12_readsS_56
    simp only [↓grd_u, ↓bnd_e, ↓orf_u, ↓oif_u, ↓cal_u, ↓calX_u, ↓inrO_u, ↓reduceIte, EM, EMg, EMs, z0, oi, n_inbT, n_cntT, n_ltT, n_ltF, n_leT, n_leF, n_eqT, n_eqF, n_m1T, n_m1F, n_m1F', n_cl, n_add, n_mul, ro_at, ro_ro, up_at, up_up, nz1]
  have key := rdt_grd (n := n) (h := h) (A := A) (R := R) (T := T) (rdt_c hF (rdl (v := Int32.ofInt 116) 116 rfl (by decide) (by decide)) (rdt_grd (rdt_c hF (rdl (v := Int32.ofInt 32) 32 rfl (by decide) (by decide)) (rdt_grd (rdt_c hF (rdd (v := Int32.ofInt 0) 0 rfl (by decide)) (rdt_grd (rdt_c hF (rdl (v := Int32.ofInt 61) 61 rfl (by decide) (by decide)) (rdt_end (G := fun h47 => grd (kd h47 (ma n 0) = 17) <| cal (f_X12_readsPattern (ma n 0) h47) fun x52 h51 => if x52 = 0 then (g_X12_readsS_55 h51) else (g_X12_readsS_56 (Int32.ofInt 1) h51)) (fun _ => rfl)) (by decide) (by decide))) (by decide) (by decide))) (by decide) (by decide))) (by decide) (by decide))
  obtain ⟨M4, a4, b4, c4, d4, g4⟩ := key M3 (i + 2) t3 hi3 hl1
  have hc0 : mtc 115 (T.getD i 0) := mtc_l (by decide) h0
  have hc1 : mtc 101 (T.getD (i + 1) 0) := mtc_l (by decide) h1
  have ec : cmR T i = cmK T 0 (sq T [116, 32, 200, 61] (i + 2)) := by
    rw [cmR_1 (c := 115) (l := [101, 116, 32, 200, 61]) (fun c' l' e => by rw [ek] at e; cases e; exact hc0) (by rw [ek]; rfl), ek]
    rw [show sq T [101, 116, 32, 200, 61] (i + 1) = sq T [116, 32, 200, 61] (i + 1 + 1) from if_pos hc1]
  obtain ⟨s1, s2, s3, -⟩ := sq_ok (T := T) [116, 32, 200, 61] (i + 2) (by decide) hl1
  have f24 : FrC M M4 := Fr_tr f2 (Fr_tr f3 (Fr_wk a4 (by decide) (by decide)))
  have st4 : M4 0 48 = nI 115 := by rw [a4.2 _ (by decide), hM3, ro_at, up_ne _ _ (by decide)]; exact hs
  unfold Cmd
  rw [ec]
  match es : sq T [116, 32, 200, 61] (i + 2) with
  | (false, j) =>
    rw [es] at b4 c4
    refine ⟨M4, ?_, b4, f24, fun z => absurd z Bool.false_ne_true⟩
    unfold f_X12_readsS
    rw [grd_w k17, cal_w e1, if_neg (show ¬ nI 1 = 0 by decide)]
    exact c4
  | (true, j) =>
    rw [es] at b4 c4 g4 s2 s3
    have hj : j = i + 2 + 4 := (s3 rfl).1
    have s2 : j ≤ T.length := s2
    have b4 : M4 0 12 = nI j := b4
    have t4 := TM_q t3 a4 (by decide) (by decide)
    obtain ⟨M5, e5, a5, f5, g5⟩ := m_readsPattern (n := n) (h := h) (A := A) (R := R) t4 b4 s2
    have f5' : FrC M4 M5 := Fr_wk f5 (by decide) (by decide)
    have etl : cmK T 0 (true, j) = (decide (rdOk (pR T j).2), j + (pR T j).1) := rfl
    rw [etl]
    have c4 : _ = grd (kd (E n h A M4 R) (ma n 0) = 17) (cal (f_X12_readsPattern (ma n 0) (E n h A M4 R)) fun x52 h51 => if x52 = 0 then (g_X12_readsS_55 h51) else (g_X12_readsS_56 (Int32.ofInt 1) h51)) := c4
    rw [grd_w k17, cal_w e5] at c4
    refine ⟨M5, ?_, a5, Fr_tr f24 f5', fun z => ⟨?_, fun u hu h200 => ?_, fun _ => ?_, fun q => absurd q (by rw [ek]; decide)⟩⟩
    · unfold f_X12_readsS
      rw [grd_w k17, cal_w e1, if_neg (show ¬ nI 1 = 0 by decide)]
      refine c4.trans ?_
      by_cases ok : rdOk (pR T j).2
      · rw [show b1 (rdOk (pR T j).2) = 1 from if_pos ok, if_neg (show ¬ nI 1 = 0 by decide), hG, show decide (rdOk (pR T j).2) = true from decide_eq_true ok]
        rfl
      · rw [show b1 (rdOk (pR T j).2) = 0 from if_neg ok, if_pos (show nI 0 = 0 from rfl), hF, show decide (rdOk (pR T j).2) = false from decide_eq_false ok]
        rfl
    · rw [f5.2 _ (by decide), ek]
      exact st4
    · rw [ek] at hu h200 ⊢
      have hu : u < 6 := hu
      have : u = 4 := by
        have : u = 0 ∨ u = 1 ∨ u = 2 ∨ u = 3 ∨ u = 4 ∨ u = 5 := by omega
        rcases this with rfl | rfl | rfl | rfl | rfl | rfl
        · exact absurd h200 (by decide)
        · exact absurd h200 (by decide)
        · exact absurd h200 (by decide)
        · exact absurd h200 (by decide)
        · rfl
        · exact absurd h200 (by decide)
      rw [this, f5.1 _ (by decide) (by decide)]
      exact g4 rfl 2 (by decide) (by decide)
    · rw [show i + 6 = j by omega]
      exact g5 (of_decide_eq_true z)
theorem m_word {M2 : Nat → Nat → Int32} (h0 : T.getD i 0 = 119) (t : TM M2 T) (hi : M2 0 12 = nI (i + 1)) (hs : M2 0 48 = nI 119) (f2 : FrC M M2) (hl : i < T.length) : Cmd n h A R T i M (f_X12_readsWord (ma n 0) (E n h A M2 R)) := by
  have t60 := t.2.1
  have ek : ksel T i = 5 := by unfold ksel; rw [if_neg (by omega), if_neg (by omega), if_neg (by omega), if_neg (by omega), if_pos h0]
  have hF : ∀ h, g_X12_readsWord_36 h = some (nI 0, h) := fun h => by
    unfold g_X12_readsWord_36
    simp only [↓grd_u, ↓bnd_e, ↓orf_u, ↓oif_u, ↓cal_u, ↓calX_u, ↓inrO_u, ↓reduceIte, EM, EMg, EMs, z0, oi, n_inbT, n_cntT, n_ltT, n_ltF, n_leT, n_leF, n_eqT, n_eqF, n_m1T, n_m1F, n_m1F', n_cl, n_add, n_mul, ro_at, ro_ro, up_at, up_up]
  have key := rdt_grd (n := n) (h := h) (A := A) (R := R) (T := T) (rdt_c hF (rdl (v := Int32.ofInt 111) 111 rfl (by decide) (by decide)) (rdt_grd (rdt_c hF (rdl (v := Int32.ofInt 114) 114 rfl (by decide) (by decide)) (rdt_grd (rdt_c hF (rdl (v := Int32.ofInt 100) 100 rfl (by decide) (by decide)) (rdt_grd (rdt_c hF (rdl (v := Int32.ofInt 32) 32 rfl (by decide) (by decide)) (rdt_end (G := fun h13 => grd (kd h13 (ma n 0) = 17) <| bnd (gi h13 (ma n 0) 12) fun x18 => g_X12_readsWord_43 (ma n 0) x18 h13) (fun _ => rfl)) (by decide) (by decide))) (by decide) (by decide))) (by decide) (by decide))) (by decide) (by decide))
  obtain ⟨M4, a4, b4, c4, d4, g4⟩ := key M2 (i + 1) t hi hl
  have hc0 : mtc 119 (T.getD i 0) := mtc_l (by decide) h0
  have ec : cmR T i = cmK T 5 (sq T [111, 114, 100, 32] (i + 1)) := by
    rw [cmR_1 (c := 119) (l := [111, 114, 100, 32]) (fun c' l' e => by rw [ek] at e; cases e; exact hc0) (by rw [ek]; rfl), ek]
  obtain ⟨s1, s2, s3, -⟩ := sq_ok (T := T) [111, 114, 100, 32] (i + 1) (by decide) hl
  have f24 : FrC M M4 := Fr_tr f2 (Fr_wk a4 (by decide) (by decide))
  have st4 : M4 0 48 = nI 119 := by rw [a4.2 _ (by decide)]; exact hs
  unfold Cmd
  rw [ec]
  match es : sq T [111, 114, 100, 32] (i + 1) with
  | (false, j) =>
    rw [es] at b4 c4
    exact ⟨M4, c4, b4, f24, fun z => absurd z Bool.false_ne_true⟩
  | (true, j) =>
    rw [es] at b4 c4 g4 s2 s3
    have hj : j = i + 1 + 4 := (s3 rfl).1
    have s2 : j ≤ T.length := s2
    have b4 : M4 0 12 = nI j := b4
    have t4 := TM_q t a4 (by decide) (by decide)
    have hlr := lrn_le (T.drop j)
    rw [List.length_drop] at hlr
    obtain ⟨M5, e5, a5, f5, w5, g5⟩ := m_rw43 (n := n) (h := h) (A := A) (R := R) (T := T) (fr := j) (lrn (T.drop j)) 100000 j M4 rfl (by omega) t4 b4 s2 (Nat.le_refl _) (fun k h1 h2 => by omega)
    have e5 : g_X12_readsWord_43 (ma n 0) (nI j) (E n h A M4 R) = _ := e5
    have f5' : FrC M4 M5 := Fr_wk f5 (by decide) (by decide)
    have etl : cmK T 5 (true, j) = (decide (0 < lrn (T.drop j)), j + lrn (T.drop j)) := rfl
    rw [etl]
    have c4 : _ = grd (kd (E n h A M4 R) (ma n 0) = 17) (bnd (gi (E n h A M4 R) (ma n 0) 12) fun x18 => g_X12_readsWord_43 (ma n 0) x18 (E n h A M4 R)) := c4
    rw [grd_w k17, bnd_w, gi_M (by decide), b4, e5] at c4
    refine ⟨M5, c4.trans ?_, a5, Fr_tr f24 f5', fun z => ⟨?_, fun u hu h200 => ?_, fun q => absurd q (by rw [ek]; decide), fun _ => ?_⟩⟩
    · congr 3
      unfold b1 b2
      by_cases q : 0 < lrn (T.drop j)
      · rw [if_pos (by omega), if_pos (decide_eq_true q)]
      · rw [if_neg (by omega), if_neg (by rw [decide_eq_false q]; exact Bool.false_ne_true)]
    · rw [f5.2 _ (by decide), ek]
      exact st4
    · rw [ek] at hu h200 ⊢
      have hu : u < 5 := hu
      have : u = 0 ∨ u = 1 ∨ u = 2 ∨ u = 3 ∨ u = 4 := by omega
      rcases this with rfl | rfl | rfl | rfl | rfl <;> exact absurd h200 (by decide)
    · rw [show j + lrn (T.drop j) - j = lrn (T.drop j) by omega] at w5 g5
      rw [show i + 5 = j by omega]
      exact ⟨w5, g5⟩
end MCMDC
