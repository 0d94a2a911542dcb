/-! the reference: run, the commands are done -/
section MRUNB
variable {n : Nat} {h : mH} {A M : Nat → Nat → Int32} {R : Nat → Nat → Option Nat} {S : St} {T : List Nat} {i : Nat}
def FrE (M M' : Nat → Nat → Int32) : Prop := Fr [5, 7, 33, 8, 1] [9, 16, 12, 17, 48, 19, 49] M M'
theorem IM_setw {M' : Nat → Nat → Int32} {L : Lib} (hi : IM M S) (f : Fr [1] [] M M') (hw : M' 1 = enc L) : IM M' (setC S L) := by
  obtain ⟨a1, a2, a3, a4, a5, ⟨a6, a7⟩, a8, a9, a10, a11⟩ := hi
  have u : ∀ r, r ≠ 0 → r ≠ 1 → M' r = M r := fun r h0 h1 => f.1 r h0 (fun z => h1 (List.mem_singleton.mp z))
  have v : ∀ k, M' 0 k = M 0 k := fun k => f.2 k (by simp)
  refine ⟨hw, Ring_fr a2 f (by decide) (by decide) (by decide), ?_, by rw [u _ (by decide) (by decide)]; exact a4, by rw [u _ (by decide) (by decide)]; exact a5, ⟨by rw [v]; exact a6, by rw [u _ (by decide) (by decide)]; exact a7⟩, by rw [v]; exact a8, by rw [v]; exact a9, by rw [v]; exact a10, by rw [u _ (by decide) (by decide)]; exact a11⟩
  rw [v, u _ (by decide) (by decide)]
  exact a3
theorem m_da12 : ∀ (f i L m : Nat) (S : St) (M : Nat → Nat → Int32), (prR T f i).1.isSome = true → i ≤ T.length → f + 1 < L → m + f ≤ 100 → TM M T → IM M S → GoodS S → M 0 12 = nI i → M 0 49 = nI m →
    ∃ M', lp (b_X12_doesAll_12 (ma n 0)) L (nI 1, E n h A M R) = some (nI (b2 (doR T f i S m).1), E n h A M' R) ∧ M' 0 49 = nI (doR T f i S m).2.1 ∧ M' 1 = enc (doR T f i S m).2.2 ∧ FrE M M' := by
  intro f
  induction f with
  | zero => intro i L m S M h1; exact absurd h1 Bool.false_ne_true
  | succ f ih =>
    intro i L m S M h1 h2 hL hm t hi hg ha hd
    obtain ⟨L, rfl⟩ : ∃ L', L = L' + 1 := ⟨L - 1, by omega⟩
    have t60 := t.2.1
    have hok : (cmR T i).1 = true := Decidable.byContradiction fun z => by
      unfold prR at h1
      rw [if_neg z] at h1
      exact absurd h1 Bool.false_ne_true
    obtain ⟨M1, e1, a1, f1, cm⟩ := m_readsCommand (n := n) (h := h) (A := A) (R := R) t ha h2
    rw [hok, show b2 true = 1 from rfl] at e1
    have cm := cm hok
    obtain ⟨c1, c2, c3⟩ := cmR_ok h2
    have c3 := c3 hok
    have i1 : IM M1 S := IM_fr hi f1 (by decide) (by decide)
    have t1 : TM M1 T := TM_q t f1 (by decide) (by decide)
    obtain ⟨e, M2, e2, f2, e10, hq⟩ := m_one (n := n) (h := h) (A := A) (R := R) i1 hg h2 t60 hok cm
    have f12 : FrE M M2 := Fr_tr (Fr_wk f1 (by decide) (by decide)) (Fr_wk f2 (by decide) (by decide))
    unfold doR
    rcases hq with ⟨e0, q0⟩ | ⟨e0, q0, v, M3, e3, w3, f3⟩
    · rw [if_neg q0]
      refine ⟨M2, ?_, by rw [f2.2 _ (by decide), f1.2 _ (by decide)]; exact hd, by rw [f2.1 _ (by decide) (by decide), f1.1 _ (by decide) (by decide)]; exact hi.1, f12⟩
      rw [lp_en (r := (nI 0, E n h A M2 R))]
      · rfl
      · unfold b_X12_doesAll_12 b0_X12_doesAll_12
        simp (disch := omega) only [↓grd_u, ↓bnd_e, ↓orf_u, ↓oif_u, ↓cal_u, ↓calX_u, ↓inrO_u, ↓reduceIte, EM, EMg, EMs, z0, oi, n_inbT, n_cntT, n_ltT, n_ltF, n_leT, n_leF, n_eqT, n_eqF, n_m1T, n_m1F, n_m1F', n_cl, n_add, n_mul, ro_at, ro_ro, up_at, up_up, e1, e2]
    · rw [if_pos q0]
      rw [e0] at e2
      have i2 : IM M2 S := IM_fr i1 f2 (by decide) (by decide)
      have i3 : IM M3 (setC S (sCur (exC T i S).2.2)) := IM_setw i2 f3 w3
      obtain ⟨M4, hM4⟩ : ∃ M4, M4 = ro M3 0 (up (M3 0) 49 (nI (m + 1))) := ⟨_, rfl⟩
      have f4 : Fr [] [49] M3 M4 := by rw [hM4]; exact Fr_r0 _ (by decide)
      have i4 : IM M4 (setC S (sCur (exC T i S).2.2)) := IM_fr i3 f4 (by decide) (by decide)
      have d3 : M3 0 49 = nI m := by rw [f3.2 _ (by decide), f2.2 _ (by decide), f1.2 _ (by decide)]; exact hd
      have d4 : M4 0 49 = nI (m + 1) := by rw [hM4, ro_at, up_at]
      have a4 : M4 0 12 = nI (cmR T i).2 := by rw [f4.2 _ (by decide), f3.2 _ (by decide), f2.2 _ (by decide)]; exact a1
      have t4 : TM M4 T := TM_q (TM_q (TM_q t1 f2 (by decide) (by decide)) f3 (by decide) (by decide)) f4 (by decide) (by decide)
      have w4 : M4 1 = enc (sCur (exC T i S).2.2) := by rw [f4.1 _ (by decide) (by decide)]; exact w3
      have f14 : FrE M M4 := Fr_tr f12 (Fr_tr (Fr_wk f3 (by decide) (by decide)) (Fr_wk f4 (by decide) (by decide)))
      by_cases q3 : T.getD (cmR T i).2 0 = 59
      · rw [if_pos q3]
        obtain ⟨hl, er⟩ := m_readsT (n := n) (h := h) (A := A) (R := R) (c := 59) t4 a4 (by decide) (by decide) q3
        obtain ⟨M5, hM5⟩ : ∃ M5, M5 = ro M4 0 (up (M4 0) 12 (nI ((cmR T i).2 + 1))) := ⟨_, rfl⟩
        rw [← hM5] at er
        have f5 : Fr [] [12] M4 M5 := by rw [hM5]; exact Fr_r0 _ (by decide)
        have hp : (prR T f ((cmR T i).2 + 1)).1.isSome = true := by
          unfold prR at h1
          rw [if_pos hok, if_neg (by omega), if_pos q3] at h1
          have h1 : ((prR T f ((cmR T i).2 + 1)).1.map (· + 1)).isSome = true := h1
          rw [Option.isSome_map] at h1
          exact h1
        obtain ⟨M', e, b1, b2', b3⟩ := ih ((cmR T i).2 + 1) L (m + 1) (setC S (sCur (exC T i S).2.2)) M5 hp hl (by omega) (by omega) (TM_q t4 f5 (by decide) (by decide)) (IM_fr i4 f5 (by decide) (by decide)) (GoodS_setC hg (exC_good hg t60 h2 hok)) (by rw [hM5, ro_at, up_at]) (by rw [f5.2 _ (by decide)]; exact d4)
        refine ⟨M', ?_, b1, b2', Fr_tr f14 (Fr_tr (Fr_wk f5 (by decide) (by decide)) b3)⟩
        rw [lp_nx (s' := (nI 1, E n h A M5 R)), e]
        unfold b_X12_doesAll_12 b0_X12_doesAll_12
        simp (disch := omega) only [↓grd_u, ↓bnd_e, ↓orf_u, ↓oif_u, ↓cal_u, ↓calX_u, ↓inrO_u, ↓reduceIte, EM, EMg, EMs, z0, oi, n_inbT, n_cntT, n_ltT, n_ltF, n_leT, n_leF, n_eqT, n_eqF, n_m1T, n_m1F, n_m1F', n_cl, n_add, n_mul, ro_at, ro_ro, up_at, up_up, e1, e2, e3, d3, ← hM4, er]
      · rw [if_neg q3]
        have er := m_readsF (n := n) (h := h) (A := A) (R := R) (c := 59) t4 a4 (by omega) (by decide) (by decide) q3
        refine ⟨M4, ?_, d4, w4, f14⟩
        obtain ⟨L, rfl⟩ : ∃ L', L = L' + 1 := ⟨L - 1, by omega⟩
        rw [lp_nx (s' := (nI 0, E n h A M4 R))]
        · rw [lp_en (r := (nI 1, E n h A M4 R))]
          · rfl
          · unfold b_X12_doesAll_12 b0_X12_doesAll_12
            simp (disch := omega) only [↓grd_u, ↓bnd_e, ↓orf_u, ↓oif_u, ↓cal_u, ↓calX_u, ↓inrO_u, ↓reduceIte, EM, EMg, EMs, z0, oi, n_inbT, n_cntT, n_ltT, n_ltF, n_leT, n_leF, n_eqT, n_eqF, n_m1T, n_m1F, n_m1F', n_cl, n_add, n_mul, ro_at, ro_ro, up_at, up_up]
        · unfold b_X12_doesAll_12 b0_X12_doesAll_12
          simp (disch := omega) only [↓grd_u, ↓bnd_e, ↓orf_u, ↓oif_u, ↓cal_u, ↓calX_u, ↓inrO_u, ↓reduceIte, EM, EMg, EMs, z0, oi, n_inbT, n_cntT, n_ltT, n_ltF, n_leT, n_leF, n_eqT, n_eqF, n_m1T, n_m1F, n_m1F', n_cl, n_add, n_mul, ro_at, ro_ro, up_at, up_up, e1, e2, e3, d3, ← hM4, er]
theorem doR_le (T : List Nat) : ∀ (f i : Nat) (S : St) (m : Nat), m ≤ (doR T f i S m).2.1 ∧ (doR T f i S m).2.1 ≤ m + f
  | 0, i, S, m => ⟨Nat.le_refl _, Nat.le_refl _⟩
  | f + 1, i, S, m => by
    unfold doR
    split
    · split
      · have := doR_le T f ((cmR T i).2 + 1) (setC S (sCur (exC T i S).2.2)) (m + 1)
        omega
      · exact ⟨by show m ≤ m + 1; omega, by show m + 1 ≤ m + (f + 1); omega⟩
    · exact ⟨Nat.le_refl _, by show m ≤ _; omega⟩
theorem IM_fail {e : Nat} (hi : IM M S) : IM (ro M 0 (up (M 0) 14 (nI e))) (setFail S e) := by
  obtain ⟨a1, a2, a3, a4, a5, a6, a8, a9, a10⟩ := hi
  exact ⟨by rw [ro_ne _ _ (by decide)]; exact a1, Ring_fr a2 (Fr_r0 (rows := []) (sc := [14]) _ (by decide)) (by decide) (by decide) (by decide), a3, a4, a5, a6, a8, by rw [ro_at, up_at]; rfl, a10⟩
theorem m_run (hi : IM M S) (hg : GoodS S) : MA n h A R (f_X12_run (ma n 0) (E n h A M R)) (aRun S) := by
  have h0 : IM (ro M 0 (up (M 0) 0 (nI 0))) S := IM_thrown hi
  obtain ⟨M0, hM0⟩ : ∃ M0, M0 = ro M 0 (up (M 0) 0 (nI 0)) := ⟨_, rfl⟩
  rw [← hM0] at h0
  have th0 : M0 0 0 = nI 0 := by rw [hM0, ro_at, up_at]
  have t0 := TM_of h0 hg
  obtain ⟨M1, e1, a1, f1⟩ := m_readsAll (n := n) (h := h) (A := A) (R := R) t0
  have i1 : IM M1 S := IM_fr h0 f1 (by decide) (by decide)
  have th1 : M1 0 0 = nI 0 := by rw [f1.2 _ (by decide)]; exact th0
  unfold aRun
  cases hp : (prR (sText S) 11 0).1 with
  | none =>
    rw [hp] at e1
    have e1 : f_X12_readsAll (ma n 0) (E n h A M0 R) = some (nI 0, E n h A M1 R) := e1
    dsimp only
    have i2 := IM_text0 (IM_err (e := (prR (sText S) 11 0).2) i1)
    obtain ⟨M2, hM2⟩ : ∃ M2, M2 = ro M1 0 (up (up (M1 0) 13 (nI (prR (sText S) 11 0).2)) 11 (nI 0)) := ⟨_, rfl⟩
    have i2 : IM M2 (setErr (setText S []) (prR (sText S) 11 0).2) := by
      rw [hM2]
      rw [ro_at, ro_ro] at i2
      exact i2
    obtain ⟨M', e, i, t⟩ := m_failed (n := n) (h := h) (A := A) (R := R) (k := 1) i2
    refine ⟨M', ?_, i, t⟩
    unfold f_X12_run
    simp (disch := omega) only [↓grd_u, ↓bnd_e, ↓orf_u, ↓oif_u, ↓cal_u, ↓calX_u, ↓inrO_u, ↓reduceIte, EM, EMg, EMs, z0, oi, n_inbT, n_cntT, n_ltT, n_ltF, n_leT, n_leF, n_eqT, n_eqF, n_m1T, n_m1F, n_m1F', n_cl, n_add, n_mul, ro_at, ro_ro, up_at, up_up, ← hM0, e1, a1, ← hM2, e]
  | some c =>
    rw [hp] at e1
    have e1 : f_X12_readsAll (ma n 0) (E n h A M0 R) = some (nI 1, E n h A M1 R) := e1
    dsimp only
    obtain ⟨b1, b2', b3, b4, b5, b6, b8, b9, b10⟩ := id i1
    have hz : pre 248 (M1 1) (M1 4) = enc (sCur S) := by rw [b1]; exact enc_copy _ b4
    have ec := m_copies (n := n) (h := h) (A := A) (M := M1) (R := R)
    rw [hz] at ec
    obtain ⟨M2, hM2⟩ : ∃ M2, M2 = ro M1 4 (enc (sCur S)) := ⟨_, rfl⟩
    rw [← hM2] at ec
    have f2 : Fr [4] [] M1 M2 := by rw [hM2]; exact Fr_ro _ (by decide) (by decide)
    have bf2 : M2 4 = enc (sCur S) := by rw [hM2, ro_at]
    have i2 : IM M2 S := by
      refine ⟨by rw [f2.1 _ (by decide) (by decide)]; exact b1, Ring_fr b2' f2 (by decide) (by decide) (by decide), ?_, by rw [bf2]; exact fun j hj => enc_z _ hj, by rw [f2.1 _ (by decide) (by decide)]; exact b5, ⟨by rw [f2.2 _ (by decide)]; exact b6.1, by rw [f2.1 _ (by decide) (by decide)]; exact b6.2⟩, by rw [f2.2 _ (by decide)]; exact b8, by rw [f2.2 _ (by decide)]; exact b9, by rw [f2.2 _ (by decide)]; exact b10.1, by rw [f2.1 _ (by decide) (by decide)]; exact b10.2⟩
      rw [f2.2 _ (by decide), f2.1 _ (by decide) (by decide)]
      exact b3
    obtain ⟨M3, hM3⟩ : ∃ M3, M3 = ro M2 0 (up (up (M2 0) 49 (nI 0)) 12 (nI 0)) := ⟨_, rfl⟩
    have f3 : Fr [] [49, 12] M2 M3 := ⟨fun r hr _ => by rw [hM3, ro_ne _ _ hr], fun k hk => by
      rw [hM3, ro_at, up_ne _ _ (fun e => hk (by rw [e]; decide)), up_ne _ _ (fun e => hk (by rw [e]; decide))]⟩
    have i3 : IM M3 S := IM_fr i2 f3 (by decide) (by decide)
    obtain ⟨M4, e4, d4, w4, f4⟩ := m_da12 (n := n) (h := h) (A := A) (R := R) (T := sText S) 11 0 100000 0 S M3 (by rw [hp]; rfl) (Nat.zero_le _) (by decide) (by decide) (TM_of i3 hg) i3 hg (by rw [hM3, ro_at, up_at]) (by rw [hM3, ro_at, up_ne _ _ (by decide), up_at])
    have e4 : f_X12_doesAll (ma n 0) (E n h A M2 R) = some (nI (b2 (doR (sText S) 11 0 S 0).1), E n h A M4 R) := by
      have e4 : g_X12_doesAll_12 (ma n 0) (nI 1) (E n h A M3 R) = _ := e4
      unfold f_X12_doesAll
      simp (disch := omega) only [↓grd_u, ↓bnd_e, ↓orf_u, ↓oif_u, ↓cal_u, ↓calX_u, ↓inrO_u, ↓reduceIte, EM, EMg, EMs, z0, oi, n_inbT, n_cntT, n_ltT, n_ltF, n_leT, n_leF, n_eqT, n_eqF, n_m1T, n_m1F, n_m1F', n_cl, n_add, n_mul, ro_at, ro_ro, up_at, up_up, ← hM3, e4]
    have hdl := (doR_le (sText S) 11 0 S 0).2
    obtain ⟨dn, hdn⟩ : ∃ dn, dn = (doR (sText S) 11 0 S 0).2.1 := ⟨_, rfl⟩
    obtain ⟨Ld, hLd⟩ : ∃ Ld, Ld = (doR (sText S) 11 0 S 0).2.2 := ⟨_, rfl⟩
    rw [← hdn] at d4 hdl ⊢
    rw [← hLd] at w4 ⊢
    -- the state after the commands, with the text emptied
    have i4 : IM M4 (setC S Ld) := by
      obtain ⟨a1, a2, a3, a4, a5, ⟨a6, a7⟩, a8, a9, a10, a11⟩ := i3
      refine ⟨w4, Ring_fr a2 f4 (by decide) (by decide) (by decide), ?_, by rw [f4.1 _ (by decide) (by decide)]; exact a4, by rw [f4.1 _ (by decide) (by decide)]; exact a5, ⟨by rw [f4.2 _ (by decide)]; exact a6, by rw [f4.1 _ (by decide) (by decide)]; exact a7⟩, by rw [f4.2 _ (by decide)]; exact a8, by rw [f4.2 _ (by decide)]; exact a9, by rw [f4.2 _ (by decide)]; exact a10, by rw [f4.1 _ (by decide) (by decide)]; exact a11⟩
      rw [f4.2 _ (by decide), f4.1 _ (by decide) (by decide)]
      exact a3
    obtain ⟨M5, hM5⟩ : ∃ M5, M5 = ro M4 0 (up (M4 0) 11 (nI 0)) := ⟨_, rfl⟩
    have i5 : IM M5 (setText (setC S Ld) []) := by rw [hM5]; exact IM_text0 i4
    have f5 : Fr [] [11] M4 M5 := by rw [hM5]; exact Fr_r0 _ (by decide)
    have bf5 : M5 4 = enc (sCur S) := by rw [f5.1 _ (by decide) (by decide), f4.1 _ (by decide) (by decide), f3.1 _ (by decide) (by decide)]; exact bf2
    have d5 : M5 0 49 = nI dn := by rw [f5.2 _ (by decide)]; exact d4
    have th5 : M5 0 0 = nI 0 := by rw [f5.2 _ (by decide), f4.2 _ (by decide), f3.2 _ (by decide), f2.2 _ (by decide)]; exact th1
    by_cases ok : (doR (sText S) 11 0 S 0).1 = true
    · rw [if_pos ok]
      rw [ok, show b2 true = 1 from rfl] at e4
      obtain ⟨M6, e6, r6, f6⟩ := m_keeps (n := n) (h := h) (A := A) (M := M5) (R := R) (u := sUndo S) (L0 := sCur S) i5.2.1 (fun j _ => by rw [bf5])
      have d6 : M6 0 49 = nI dn := by rw [f6.2 _ (by decide)]; exact d5
      refine ⟨M6, ?_, ?_, by rw [f6.2 _ (by decide)]; exact th5⟩
      · unfold f_X12_run
        simp (disch := omega) only [↓grd_u, ↓bnd_e, ↓orf_u, ↓oif_u, ↓cal_u, ↓calX_u, ↓inrO_u, ↓reduceIte, EM, EMg, EMs, z0, oi, n_inbT, n_cntT, n_ltT, n_ltF, n_leT, n_leF, n_eqT, n_eqF, n_m1T, n_m1F, n_m1F', n_cl, n_add, n_mul, ro_at, ro_ro, up_at, up_up, ← hM0, e1, ec, e4, ← hM5, e6, d6]
      · obtain ⟨a1, a2, a3, a4, a5, ⟨a6, a7⟩, a8, a9, a10, a11⟩ := i5
        refine ⟨by rw [f6.1 _ (by decide) (by decide)]; exact a1, r6, ?_, by rw [f6.1 _ (by decide) (by decide)]; exact a4, by rw [f6.1 _ (by decide) (by decide)]; exact a5, ⟨by rw [f6.2 _ (by decide)]; exact a6, by rw [f6.1 _ (by decide) (by decide)]; exact a7⟩, by rw [f6.2 _ (by decide)]; exact a8, by rw [f6.2 _ (by decide)]; exact a9, by rw [f6.2 _ (by decide)]; exact a10, by rw [f6.1 _ (by decide) (by decide)]; exact a11⟩
        rw [f6.2 _ (by decide), f6.1 _ (by decide) (by decide)]
        exact a3
    · rw [if_neg ok]
      have ok' : (doR (sText S) 11 0 S 0).1 = false := Bool.eq_false_iff.mpr ok
      rw [ok', show b2 false = 0 from rfl] at e4
      have eg := m_goesBack (n := n) (h := h) (A := A) (M := M5) (R := R)
      have hz5 : pre 248 (M5 4) (M5 1) = enc (sCur S) := by
        rw [bf5]
        exact enc_copy _ (fun j hj => by rw [i5.1]; exact enc_z _ hj)
      rw [hz5] at eg
      obtain ⟨M6, hM6⟩ : ∃ M6, M6 = ro M5 1 (enc (sCur S)) := ⟨_, rfl⟩
      rw [← hM6] at eg
      have i6 : IM M6 (setText S []) := by
        have := IM_setw (M' := M6) (L := sCur S) i5 (by rw [hM6]; exact Fr_ro _ (by decide) (by decide)) (by rw [hM6, ro_at])
        exact this
      have d6 : M6 0 49 = nI dn := by rw [hM6, ro_ne _ _ (by decide)]; exact d5
      have i7 := IM_fail (e := dn) i6
      obtain ⟨M', e, i, t⟩ := m_failed (n := n) (h := h) (A := A) (R := R) (k := 2) i7
      refine ⟨M', ?_, i, t⟩
      unfold f_X12_run
      simp (disch := omega) only [↓grd_u, ↓bnd_e, ↓orf_u, ↓oif_u, ↓cal_u, ↓calX_u, ↓inrO_u, ↓reduceIte, EM, EMg, EMs, z0, oi, n_inbT, n_cntT, n_ltT, n_ltF, n_leT, n_leF, n_eqT, n_eqF, n_m1T, n_m1F, n_m1F', n_cl, n_add, n_mul, ro_at, ro_ro, up_at, up_up, ← hM0, e1, ec, e4, ← hM5, eg, d6, e]
end MRUNB
