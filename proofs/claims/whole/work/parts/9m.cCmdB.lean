/-! the class: a command is read -/
def FrU (A A' : Nat → Nat → Int32) : Prop := (∀ r, r ≠ 36 → r ≠ 38 → A' r = A r) ∧ A' 36 2 = A 36 2
def CMC (A' : Nat → Nat → Int32) (T : List Nat) (i : Nat) : Prop := A' 36 4 = nI (ksel T i) ∧ (∀ j, j < ndg (ksel T i) → A' 38 j = nI (dgt T i j)) ∧ (ksel T i = 0 → A' 36 5 = nI (i + 6) ∧ A' 36 6 = nI (i + 6 + (pR T (i + 6)).1)) ∧ (ksel T i = 5 → A' 36 5 = nI (i + 5) ∧ A' 36 6 = nI (i + 5 + lrn (T.drop (i + 5))))
def CmdC (n : Nat) (h : mH) (M : Nat → Nat → Int32) (R : Nat → Nat → Option Nat) (T : List Nat) (i : Nat) (A : Nat → Nat → Int32) (x : Option (Int32 × mH)) : Prop := ∃ A', x = some (nI (b2 (cmR T i).1), E n h A' M R) ∧ A' 36 3 = nI (cmR T i).2 ∧ FrU A A' ∧ ((cmR T i).1 = true → CMC A' T i)
theorem rst_dg : ∀ k, k ≤ 6 → ∀ j, j < ndg k → 2 * j < (rst1 k).length ∧ (rst1 k).getD (2 * j) 0 = 200 + j := by decide
section CCMDB
variable {n : Nat} {h : mH} {A M : Nat → Nat → Int32} {R : Nat → Nat → Option Nat} {S : St} {T : List Nat} {i : Nat}
theorem FrU_tr {A' A'' : Nat → Nat → Int32} (a : FrU A A') (b : FrU A' A'') : FrU A A'' := ⟨fun r h1 h2 => (b.1 r h1 h2).trans (a.1 r h1 h2), b.2.trans a.2⟩
theorem FrU_T {A' : Nat → Nat → Int32} (a : FrT A A') : FrU A A' := ⟨a.1, a.2 2 (by decide)⟩
/-- a chain behind the keyword -/
theorem cc_fin {BR : mH → Option (Int32 × mH)} {k : Nat} {A1 : Nat → Nat → Int32} (key : RDc n h M R T BR (rst1 k) ret1) (ek : ksel T i = k) (h0 : k ≠ 0) (h5 : k ≠ 5) (t : TX A1 T) (hj : i + (kwd k).length ≤ T.length) (hi : A1 36 3 = nI (i + (kwd k).length)) (hk : A1 36 4 = nI k) (ec : cmR T i = cmK T k (sq T (rst1 k) (i + (kwd k).length))) (f1 : FrU A A1) : CmdC n h M R T i A (BR (E n h A1 M R)) := by
  obtain ⟨A', a, b, c, d, e⟩ := key A1 (i + (kwd k).length) t hi hj
  have hk6 : k ≤ 6 := by rw [← ek]; exact ksel_le T i
  have ec : cmR T i = sq T (rst1 k) (i + (kwd k).length) := by
    rw [ec]
    match sq T (rst1 k) (i + (kwd k).length) with
    | (true, j) =>
      show tl5 T k j = _
      unfold tl5
      rw [if_neg h0, if_neg h5]
    | (false, j) => rfl
  refine ⟨A', ?_, by rw [ec]; exact b, FrU_tr f1 (FrU_T a), fun z => ⟨by rw [a.2 4 (by decide), ek]; exact hk, fun j hj => ?_, fun q => absurd q (by rw [ek]; exact h0), fun q => absurd q (by rw [ek]; exact h5)⟩⟩
  · rw [c, ec]
    match sq T (rst1 k) (i + (kwd k).length) with
    | (true, j) => rfl
    | (false, j) => rfl
  · rw [ec] at z
    rw [ek] at hj
    obtain ⟨x1, x2⟩ := rst_dg k hk6 j hj
    have := e z _ x1 (by omega)
    rw [x2, Nat.add_sub_cancel_left] at this
    rw [this]
    unfold dgt
    rw [ek]
theorem c_readCommand (t : TX A T) (hi : A 36 3 = nI i) (hi2 : i ≤ T.length) : CmdC n h M R T i A (f_X9_readCommand (ca n 36) (E n h A M R)) := by
  have t60 := t.2.1
  have hK := ksel_le T i
  obtain ⟨x, ek, hx⟩ := c_readKeyword (n := n) (h := h) (M := M) (R := R) t hi hi2
  obtain ⟨k, hk⟩ : ∃ k, k = ksel T i := ⟨_, rfl⟩
  rw [← hk] at ek hx hK
  have hlit : ∀ c ∈ kwd k, c < 200 := fun c hc => by
    have := kwd_lt k (by omega) c hc
    omega
  have hsq := shp_sq T (kwd k) i hlit
  have hsl := shp_le T (kwd k) i
  obtain ⟨s1, s2, s3, -⟩ := sq_ok (T := T) (kwd k) i (fun c hc => items_pos k hK c (List.mem_append_left _ hc)) hi2
  rw [hsq] at s2
  have s2 : i + shp T i (kwd k) ≤ T.length := s2
  have ec0 : cmR T i = cmK T k (sq T (kwd k ++ rst1 k) i) := by unfold cmR; rw [← hk]
  rw [sq_app, hsq] at ec0
  obtain ⟨A1, hA1⟩ : ∃ A1, A1 = ro A 36 (up (up (A 36) 3 (nI (i + shp T i (kwd k)))) 4 x) := ⟨_, rfl⟩
  have f1 : FrU A A1 := ⟨fun r h1 _ => by rw [hA1, ro_ne _ _ h1], by rw [hA1, ro_at, up_ne _ _ (by decide), up_ne _ _ (by decide)]⟩
  have t1 : TX A1 T := TX_A t f1.2 (f1.1 37 (by decide) (by decide))
  have a1 : A1 36 3 = nI (i + shp T i (kwd k)) := by rw [hA1, ro_at, up_ne _ _ (by decide), up_at]
  have v1 : A1 36 4 = x := by rw [hA1, ro_at, up_at]
  have eA : ro (ro A 36 (up (A 36) 3 (nI (i + shp T i (kwd k))))) 36 (up ((ro A 36 (up (A 36) 3 (nI (i + shp T i (kwd k))))) 36) 4 x) = A1 := by rw [hA1, ro_at, ro_ro]
  rcases hx with ⟨full, hx⟩ | ⟨nf, hx⟩
  · rw [full] at ec0 a1 s2
    rw [show decide ((kwd k).length = (kwd k).length) = true from decide_eq_true rfl] at ec0
    have ec0 : cmR T i = cmK T k (sq T (rst1 k) (i + (kwd k).length)) := ec0
    rw [hx] at v1
    have e0 : ∀ a b : Nat, a < 100 → b < 100 → a ≠ b → ¬ nI a = nI b := fun a b ha hb hab => by
      rw [n_eq (by omega) (by omega)]
      exact hab
    have top : ∀ y, CmdC n h M R T i A y → (∀ z, z = f_X9_readCommand (ca n 36) (E n h A M R) → z = y) → CmdC n h M R T i A (f_X9_readCommand (ca n 36) (E n h A M R)) := fun y q e => by rw [e _ rfl]; exact q
    have hkk : k = 0 ∨ k = 1 ∨ k = 2 ∨ k = 3 ∨ k = 4 ∨ k = 5 ∨ k = 6 := by omega
    have n1 : ∀ {P : Prop} {y z : Option (Int32 × mH)} [Decidable P], P → (if P then y else z) = y := fun hP => if_pos hP
    rcases hkk with rfl | rfl | rfl | rfl | rfl | rfl | rfl
    · -- set
      have hF : ∀ h, g_X9_readCommand_84 h = some (nI 0, h) := fun h => by
        unfold g_X9_readCommand_84 g_X9_readCommand_85
        simp only [↓grd_u, ↓bnd_e, ↓orf_u, ↓oif_u, ↓cal_u, ↓calX_u, ↓inrO_u, ↓reduceIte, EM, EMg, EMs, z0, oi, n_inbT, n_cntT, n_ltT, n_ltF, n_leT, n_leF, n_eqT, n_eqF, n_m1T, n_m1F, n_m1F', n_cl, n_add, n_mul, ro_at, ro_ro, up_at, up_up, nz0]
      have hG : ∀ h, g_X9_readCommand_85 (Int32.ofInt 1) h = some (nI 1, h) := fun h => by
        unfold g_X9_readCommand_85
        simp only [↓grd_u, ↓bnd_e, ↓orf_u, ↓oif_u, ↓cal_u, ↓calX_u, ↓inrO_u, ↓reduceIte, EM, EMg, EMs, z0, oi, n_inbT, n_cntT, n_ltT, n_ltF, n_leT, n_leF, n_eqT, n_eqF, n_m1T, n_m1F, n_m1F', n_cl, n_add, n_mul, ro_at, ro_ro, up_at, up_up, nz1]
      have key := rc_c (n := n) (h := h) (M := M) (R := R) (T := T) hF (rcd (v := Int32.ofInt 0) 0 rfl (by decide)) (rc_grd (rc_c hF (rcl (v := Int32.ofInt 61) 61 rfl (by decide) (by decide)) (rc_end (G := fun h10 => grd (kd h10 (ca n 36) = 14) <| cal (f_X9_readPattern (ca n 36) h10) fun x15 h14 => if x15 = 0 then (g_X9_readCommand_84 h14) else (g_X9_readCommand_85 (Int32.ofInt 1) h14)) (fun _ => rfl)) (by decide) (by decide))) (by decide) (by decide)
      obtain ⟨A', a, b, c, d, e⟩ := key A1 (i + 4) t1 a1 s2
      have c' : f_X9_readCommand (ca n 36) (E n h A M R) = (if (sq T [200, 61] (i + 4)).1 = true then (grd (kd (E n h A' M R) (ca n 36) = 14) <| cal (f_X9_readPattern (ca n 36) (E n h A' M R)) fun x15 h14 => if x15 = 0 then (g_X9_readCommand_84 h14) else (g_X9_readCommand_85 (Int32.ofInt 1) h14)) else some (nI 0, E n h A' M R)) := by
        unfold f_X9_readCommand
        rw [grd_w k14, cal_w ek, grd_w k14, bnd_w, si_C (by decide), eA, grd_w k14, gi_C (by decide), v1, if_pos (show nI 0 = Int32.ofInt 0 from rfl)]
        exact c
      · rw [c']
        obtain ⟨u1, u2, u3, -⟩ := sq_ok (T := T) [200, 61] (i + 4) (by decide) s2
        unfold CmdC
        have ec0 : cmR T i = cmK T 0 (sq T [200, 61] (i + 4)) := ec0
        rw [ec0]
        match es : sq T [200, 61] (i + 4) with
        | (false, j) =>
          rw [es] at b
          exact ⟨A', rfl, b, FrU_tr f1 (FrU_T a), fun z => absurd z Bool.false_ne_true⟩
        | (true, j) =>
          rw [es] at b e u2 u3
          have hj : j = i + 4 + 2 := (u3 rfl).1
          have u2 : j ≤ T.length := u2
          have b : A' 36 3 = nI j := b
          have t2 := TX_T t1 a
          have er := c_readPattern (n := n) (h := h) (A := A') (M := M) (R := R) t2 b u2
          obtain ⟨A2, hA2⟩ : ∃ A2, A2 = ro A' 36 (up (up (up (A' 36) 5 (nI j)) 3 (nI (j + (pR T j).1))) 6 (nI (j + (pR T j).1))) := ⟨_, rfl⟩
          rw [← hA2] at er
          have etl : cmK T 0 (true, j) = (decide (rdOk (pR T j).2), j + (pR T j).1) := rfl
          rw [etl]
          refine ⟨A2, ?_, by rw [hA2, ro_at, up_ne _ _ (by decide), up_at], FrU_tr f1 (FrU_tr (FrU_T a) ⟨fun r h1 _ => by rw [hA2, ro_ne _ _ h1], by rw [hA2, ro_at, up_ne _ _ (by decide), up_ne _ _ (by decide), up_ne _ _ (by decide)]⟩), fun z => ⟨?_, fun q hq => ?_, fun _ => ⟨?_, ?_⟩, fun q => absurd q (by rw [← hk]; decide)⟩⟩
          · rw [if_pos rfl]
            rw [grd_w k14, cal_w er]
            by_cases ok : rdOk (pR T j).2
            · rw [show b1 (rdOk (pR T j).2) = 1 from if_pos ok, if_neg (show ¬ nI 1 = 0 by decide), hG, show decide (rdOk (pR T j).2) = true from decide_eq_true ok]
              rfl
            · rw [show b1 (rdOk (pR T j).2) = 0 from if_neg ok, if_pos (show nI 0 = 0 from rfl), hF, show decide (rdOk (pR T j).2) = false from decide_eq_false ok]
              rfl
          · rw [hA2, ro_at, up_ne _ _ (by decide), up_ne _ _ (by decide), up_ne _ _ (by decide), a.2 4 (by decide), v1, ← hk]
          · rw [← hk] at hq
            have hq : q < 1 := hq
            have hq : q = 0 := by omega
            rw [hq, hA2, ro_ne _ _ (by decide)]
            have := e rfl 0 (by decide) (by decide)
            have this : A' 38 0 = nI (T.getD (i + 4 + 0) 0 - 48) := this
            rw [this]
            unfold dgt
            rw [← hk]
            rfl
          · rw [hA2, ro_at, up_ne _ _ (by decide), up_ne _ _ (by decide), up_at, hj]
          · rw [hA2, ro_at, up_at, hj]
    · refine top _ (cc_fin (A := A) (k := 1) rc_86 hk.symm (by decide) (by decide) t1 s2 a1 v1 ec0 f1) (fun z hz => ?_)
      rw [hz]
      unfold f_X9_readCommand
      rw [grd_w k14, cal_w ek, grd_w k14, bnd_w, si_C (by decide), eA, grd_w k14, gi_C (by decide), v1, if_neg (show ¬ nI 1 = Int32.ofInt 0 by decide), if_pos (show nI 1 = Int32.ofInt 1 from rfl)]
    · refine top _ (cc_fin (A := A) (k := 2) rc_86 hk.symm (by decide) (by decide) t1 s2 a1 v1 ec0 f1) (fun z hz => ?_)
      rw [hz]
      unfold f_X9_readCommand
      rw [grd_w k14, cal_w ek, grd_w k14, bnd_w, si_C (by decide), eA, grd_w k14, gi_C (by decide), v1, if_neg (show ¬ nI 2 = Int32.ofInt 0 by decide), if_neg (show ¬ nI 2 = Int32.ofInt 1 by decide), if_pos (show nI 2 = Int32.ofInt 2 from rfl)]
    · have hF : ∀ h, g_X9_readCommand_163 h = some (nI 0, h) := fun h => by
        unfold g_X9_readCommand_163 g_X9_readCommand_164
        simp only [↓grd_u, ↓bnd_e, ↓orf_u, ↓oif_u, ↓cal_u, ↓calX_u, ↓inrO_u, ↓reduceIte, EM, EMg, EMs, z0, oi, n_inbT, n_cntT, n_ltT, n_ltF, n_leT, n_leF, n_eqT, n_eqF, n_m1T, n_m1F, n_m1F', n_cl, n_add, n_mul, ro_at, ro_ro, up_at, up_up, nz0]
      have hG : ∀ h, g_X9_readCommand_164 (Int32.ofInt 1) h = ret1 h := fun h => by
        unfold g_X9_readCommand_164 ret1
        simp only [↓grd_u, ↓bnd_e, ↓orf_u, ↓oif_u, ↓cal_u, ↓calX_u, ↓inrO_u, ↓reduceIte, EM, EMg, EMs, z0, oi, n_inbT, n_cntT, n_ltT, n_ltF, n_leT, n_leF, n_eqT, n_eqF, n_m1T, n_m1F, n_m1F', n_cl, n_add, n_mul, ro_at, ro_ro, up_at, up_up, nz1]
      have key := rc_c (n := n) (h := h) (M := M) (R := R) (T := T) hF (rcd (v := Int32.ofInt 0) 0 rfl (by decide)) (rc_grd (rc_c hF (rcl (v := Int32.ofInt 61) 61 rfl (by decide) (by decide)) (rc_grd (rc_c hF (rcd (v := Int32.ofInt 1) 1 rfl (by decide)) (rc_end hG) (by decide) (by decide))) (by decide) (by decide))) (by decide) (by decide)
      refine top _ (cc_fin (A := A) (k := 3) key hk.symm (by decide) (by decide) t1 s2 a1 v1 ec0 f1) (fun z hz => ?_)
      rw [hz]
      unfold f_X9_readCommand
      rw [grd_w k14, cal_w ek, grd_w k14, bnd_w, si_C (by decide), eA, grd_w k14, gi_C (by decide), v1, if_neg (show ¬ nI 3 = Int32.ofInt 0 by decide), if_neg (show ¬ nI 3 = Int32.ofInt 1 by decide), if_neg (show ¬ nI 3 = Int32.ofInt 2 by decide), if_pos (show nI 3 = Int32.ofInt 3 from rfl)]
    · refine top _ (cc_fin (A := A) (k := 4) rc_170 hk.symm (by decide) (by decide) t1 s2 a1 v1 ec0 f1) (fun z hz => ?_)
      rw [hz]
      unfold f_X9_readCommand
      rw [grd_w k14, cal_w ek, grd_w k14, bnd_w, si_C (by decide), eA, grd_w k14, gi_C (by decide), v1, if_neg (show ¬ nI 4 = Int32.ofInt 0 by decide), if_neg (show ¬ nI 4 = Int32.ofInt 1 by decide), if_neg (show ¬ nI 4 = Int32.ofInt 2 by decide), if_neg (show ¬ nI 4 = Int32.ofInt 3 by decide), if_pos (show nI 4 = Int32.ofInt 4 from rfl)]
    · have er := c_readLetters (n := n) (h := h) (A := A1) (M := M) (R := R) t1 a1 s2
      have er : f_X9_readLetters (ca n 36) (E n h A1 M R) = some (nI (b1 (0 < lrn (T.drop (i + 5)))), E n h (ro A1 36 (up (up (up (A1 36) 5 (nI (i + 5))) 3 (nI (i + 5 + lrn (T.drop (i + 5))))) 6 (nI (i + 5 + lrn (T.drop (i + 5)))))) M R) := er
      obtain ⟨A2, hA2⟩ : ∃ A2, A2 = ro A1 36 (up (up (up (A1 36) 5 (nI (i + 5))) 3 (nI (i + 5 + lrn (T.drop (i + 5))))) 6 (nI (i + 5 + lrn (T.drop (i + 5))))) := ⟨_, rfl⟩
      rw [← hA2] at er
      have ec0 : cmR T i = (decide (0 < lrn (T.drop (i + 5))), i + 5 + lrn (T.drop (i + 5))) := ec0
      unfold CmdC
      rw [ec0]
      have ebb : b1 (0 < lrn (T.drop (i + 5))) = b2 (decide (0 < lrn (T.drop (i + 5)))) := by
        unfold b1 b2
        by_cases q : 0 < lrn (T.drop (i + 5))
        · rw [if_pos q, if_pos (decide_eq_true q)]
        · rw [if_neg q, if_neg (by rw [decide_eq_false q]; exact Bool.false_ne_true)]
      rw [ebb] at er
      refine ⟨A2, ?_, by rw [hA2, ro_at, up_ne _ _ (by decide), up_at], FrU_tr f1 ⟨fun r h1 _ => by rw [hA2, ro_ne _ _ h1], by rw [hA2, ro_at, up_ne _ _ (by decide), up_ne _ _ (by decide), up_ne _ _ (by decide)]⟩, fun z => ⟨?_, fun q hq => ?_, fun q => absurd q (by rw [← hk]; decide), fun _ => ⟨?_, ?_⟩⟩⟩
      · unfold f_X9_readCommand
        rw [grd_w k14, cal_w ek, grd_w k14, bnd_w, si_C (by decide), eA, grd_w k14, gi_C (by decide), v1, if_neg (show ¬ nI 5 = Int32.ofInt 0 by decide), if_neg (show ¬ nI 5 = Int32.ofInt 1 by decide), if_neg (show ¬ nI 5 = Int32.ofInt 2 by decide), if_neg (show ¬ nI 5 = Int32.ofInt 3 by decide), if_neg (show ¬ nI 5 = Int32.ofInt 4 by decide), if_pos (show nI 5 = Int32.ofInt 5 from rfl), cal_w er, grd_w (of_eq_true (b2_nar _))]
      · rw [hA2, ro_at, up_ne _ _ (by decide), up_ne _ _ (by decide), up_ne _ _ (by decide), v1, ← hk]
      · rw [← hk] at hq
        exact absurd hq (Nat.not_lt_zero _)
      · rw [hA2, ro_at, up_ne _ _ (by decide), up_ne _ _ (by decide), up_at]
      · rw [hA2, ro_at, up_at]
    · refine top _ (cc_fin (A := A) (k := 6) rc_170 hk.symm (by decide) (by decide) t1 s2 a1 v1 ec0 f1) (fun z hz => ?_)
      rw [hz]
      unfold f_X9_readCommand
      rw [grd_w k14, cal_w ek, grd_w k14, bnd_w, si_C (by decide), eA, grd_w k14, gi_C (by decide), v1, if_neg (show ¬ nI 6 = Int32.ofInt 0 by decide), if_neg (show ¬ nI 6 = Int32.ofInt 1 by decide), if_neg (show ¬ nI 6 = Int32.ofInt 2 by decide), if_neg (show ¬ nI 6 = Int32.ofInt 3 by decide), if_neg (show ¬ nI 6 = Int32.ofInt 4 by decide), if_neg (show ¬ nI 6 = Int32.ofInt 5 by decide), if_pos (show nI 6 = Int32.ofInt 6 from rfl)]
  · rw [show decide (shp T i (kwd k) = (kwd k).length) = false from decide_eq_false nf] at ec0
    have ec0 : cmR T i = (false, i + shp T i (kwd k)) := ec0
    rw [hx] at v1
    unfold CmdC
    rw [ec0]
    refine ⟨A1, ?_, a1, f1, fun z => absurd z Bool.false_ne_true⟩
    unfold f_X9_readCommand
    rw [grd_w k14, cal_w ek, grd_w k14, bnd_w, si_C (by decide), eA, grd_w k14, gi_C (by decide), v1, if_neg (by decide), if_neg (by decide), if_neg (by decide), if_neg (by decide), if_neg (by decide), if_neg (by decide), if_neg (by decide)]
    rfl
end CCMDB
