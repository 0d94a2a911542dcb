/-! the reference: a command is read, from its first letter -/
section MCMDD
variable {n : Nat} {h : mH} {A M : Nat → Nat → Int32} {R : Nat → Nat → Option Nat} {S : St} {T : List Nat} {i : Nat}
theorem ksel_1 (h : T.getD i 0 = 111) : ksel T i = 1 := by
  unfold ksel
  rw [if_neg (by omega), if_pos h]
theorem ksel_2 (h : T.getD i 0 = 116) : ksel T i = 2 := by
  unfold ksel
  rw [if_neg (by omega), if_neg (by omega), if_pos h]
theorem ksel_4 (h : T.getD i 0 = 100) : ksel T i = 4 := by
  unfold ksel
  rw [if_neg (by omega), if_neg (by omega), if_neg (by omega), if_pos h]
theorem ksel_6 (h1 : T.getD i 0 ≠ 115) (h2 : T.getD i 0 ≠ 111) (h3 : T.getD i 0 ≠ 116) (h4 : T.getD i 0 ≠ 100) (h5 : T.getD i 0 ≠ 119) : ksel T i = 6 := by
  unfold ksel
  rw [if_neg h1, if_neg h2, if_neg h3, if_neg h4, if_neg h5]
theorem m_readsCommand (t : TM M T) (hi : M 0 12 = nI i) (hi2 : i ≤ T.length) : Cmd n h A R T i M (f_X12_readsCommand (ma n 0) (E n h A M R)) := by
  have t60 := t.2.1
  obtain ⟨x, e0, hx⟩ : ∃ x, f_X12_nextChar (ma n 0) (E n h A M R) = some (x, E n h A M R) ∧ (i < T.length → x = nI (T.getD i 0)) := by
    rcases Nat.lt_or_ge i T.length with z | z
    · exact ⟨_, m_nextT (n := n) (h := h) (A := A) (R := R) t hi z, fun _ => rfl⟩
    · exact ⟨_, m_nextF (n := n) (h := h) (A := A) (R := R) t hi z (by omega), fun q => by omega⟩
  obtain ⟨M1, hM1⟩ : ∃ M1, M1 = ro M 0 (up (M 0) 48 x) := ⟨_, rfl⟩
  have f1 : FrC M M1 := by rw [hM1]; exact Fr_r0 _ (by decide)
  have t1 : TM M1 T := TM_q t f1 (by decide) (by decide)
  have hi1 : M1 0 12 = nI i := by rw [hM1, ro_at, up_ne _ _ (by decide)]; exact hi
  have s1 : M1 0 48 = x := by rw [hM1, ro_at, up_at]
  obtain ⟨M2, hM2⟩ : ∃ M2, M2 = ro M1 0 (up (M1 0) 12 (nI (i + 1))) := ⟨_, rfl⟩
  have f12 : FrC M1 M2 := by rw [hM2]; exact Fr_r0 _ (by decide)
  have f2 : FrC M M2 := Fr_tr f1 f12
  have t2 : TM M2 T := TM_q t f2 (by decide) (by decide)
  have hi2' : M2 0 12 = nI (i + 1) := by rw [hM2, ro_at, up_at]
  have s2 : M2 0 48 = x := by rw [hM2, ro_at, up_ne _ _ (by decide)]; exact s1
  have rF : ∀ c, 1 ≤ c → c < 128 → T.getD i 0 ≠ c → f_X12_reads (ma n 0) (nI c) (E n h A M1 R) = some (nI 0, E n h A M1 R) := fun c h1 h2 h3 => m_readsF (n := n) (h := h) (A := A) (R := R) (c := c) t1 hi1 (by omega) h1 h2 h3
  have rT : ∀ c, 1 ≤ c → c < 128 → T.getD i 0 = c → i < T.length ∧ f_X12_reads (ma n 0) (nI c) (E n h A M1 R) = some (nI 1, E n h A M2 R) := fun c h1 h2 h3 => by
    rw [hM2]
    exact m_readsT (n := n) (h := h) (A := A) (R := R) (c := c) t1 hi1 h1 h2 h3
  have n10 : ¬ nI 1 = 0 := by decide
  have n00 : nI 0 = 0 := rfl
  -- the common beginning
  have tail : ∀ y, Cmd n h A R T i M y → ∀ z, z = y → Cmd n h A R T i M z := fun y q z e => by rw [e]; exact q
  by_cases c1 : T.getD i 0 = 115
  · obtain ⟨hl, e1⟩ := rT 115 (by decide) (by decide) c1
    have e1 : f_X12_reads (ma n 0) (Int32.ofInt 115) (E n h A M1 R) = some (nI 1, E n h A M2 R) := e1
    have hxx := hx hl
    rw [c1] at hxx
    have q : Cmd n h A R T i M (f_X12_readsS (ma n 0) (E n h A M2 R)) := by
      by_cases c1' : T.getD (i + 1) 0 = 101
      · exact m_set c1 c1' t2 hi2' (by rw [s2, hxx]) f2 hl
      · exact m_star c1 c1' t2 hi2' f2 hl
    obtain ⟨M', e, r⟩ := q
    refine ⟨M', ?_, r⟩
    unfold f_X12_readsCommand
    rw [grd_w k17, cal_w e0, grd_w k17, bnd_w, si_M (by decide), ← hM1, grd_w k17, cal_w e1, if_neg n10, grd_w k17, cal_w e, grd_w (of_eq_true (b2_nar _))]
  have e1 : f_X12_reads (ma n 0) (Int32.ofInt 115) (E n h A M1 R) = some (nI 0, E n h A M1 R) := rF 115 (by decide) (by decide) c1
  by_cases c2 : T.getD i 0 = 111
  · obtain ⟨hl, e2⟩ := rT 111 (by decide) (by decide) c2
    have e2 : f_X12_reads (ma n 0) (Int32.ofInt 111) (E n h A M1 R) = some (nI 1, E n h A M2 R) := e2
    have hxx := hx hl
    rw [c2] at hxx
    have hF : ∀ h, g_X12_readsCommand_51 h = some (nI 0, h) := fun h => by
      unfold g_X12_readsCommand_51 g_X12_readsCommand_52
      simp only [↓grd_u, ↓bnd_e, ↓orf_u, ↓oif_u, ↓cal_u, ↓calX_u, ↓inrO_u, ↓reduceIte, EM, EMg, EMs, z0, oi, n_inbT, n_cntT, n_ltT, n_ltF, n_leT, n_leF, n_eqT, n_eqF, n_m1T, n_m1F, n_m1F', n_cl, n_add, n_mul, ro_at, ro_ro, up_at, up_up, nz0]
    have hG : ∀ h, g_X12_readsCommand_52 (Int32.ofInt 1) h = ret1 h := fun h => by
      unfold g_X12_readsCommand_52 ret1
      simp only [↓grd_u, ↓bnd_e, ↓orf_u, ↓oif_u, ↓cal_u, ↓calX_u, ↓inrO_u, ↓reduceIte, EM, EMg, EMs, z0, oi, n_inbT, n_cntT, n_ltT, n_ltF, n_leT, n_leF, n_eqT, n_eqF, n_m1T, n_m1F, n_m1F', n_cl, n_add, n_mul, ro_at, ro_ro, up_at, up_up, nz1]
    have key := rdt_grd (n := n) (h := h) (A := A) (R := R) (T := T) (rdt_c hF (rdl (v := Int32.ofInt 114) 114 rfl (by decide) (by decide)) (rdt_grd (rdt_last hF rd_three hG (by decide))) (by decide) (by decide))
    obtain ⟨M', e, r⟩ := cmd_fin (M := M) (k := 1) (c0 := 111) (M2 := M2) key (ksel_1 c2) (by decide) (by decide) rfl c2 (by decide) (by decide) t2 hi2' (by rw [s2, hxx]; rfl) f2
    refine ⟨M', ?_, r⟩
    unfold f_X12_readsCommand
    rw [grd_w k17, cal_w e0, grd_w k17, bnd_w, si_M (by decide), ← hM1, grd_w k17, cal_w e1, if_pos n00, grd_w k17, cal_w e2, if_neg n10]
    exact e
  have e2 : f_X12_reads (ma n 0) (Int32.ofInt 111) (E n h A M1 R) = some (nI 0, E n h A M1 R) := rF 111 (by decide) (by decide) c2
  by_cases c3 : T.getD i 0 = 116
  · obtain ⟨hl, e3⟩ := rT 116 (by decide) (by decide) c3
    have e3 : f_X12_reads (ma n 0) (Int32.ofInt 116) (E n h A M1 R) = some (nI 1, E n h A M2 R) := e3
    have hxx := hx hl
    rw [c3] at hxx
    have hF : ∀ h, g_X12_readsCommand_100 h = some (nI 0, h) := fun h => by
      unfold g_X12_readsCommand_100 g_X12_readsCommand_101
      simp only [↓grd_u, ↓bnd_e, ↓orf_u, ↓oif_u, ↓cal_u, ↓calX_u, ↓inrO_u, ↓reduceIte, EM, EMg, EMs, z0, oi, n_inbT, n_cntT, n_ltT, n_ltF, n_leT, n_leF, n_eqT, n_eqF, n_m1T, n_m1F, n_m1F', n_cl, n_add, n_mul, ro_at, ro_ro, up_at, up_up, nz0]
    have hG : ∀ h, g_X12_readsCommand_101 (Int32.ofInt 1) h = ret1 h := fun h => by
      unfold g_X12_readsCommand_101 ret1
      simp only [↓grd_u, ↓bnd_e, ↓orf_u, ↓oif_u, ↓cal_u, ↓calX_u, ↓inrO_u, ↓reduceIte, EM, EMg, EMs, z0, oi, n_inbT, n_cntT, n_ltT, n_ltF, n_leT, n_leF, n_eqT, n_eqF, n_m1T, n_m1F, n_m1F', n_cl, n_add, n_mul, ro_at, ro_ro, up_at, up_up, nz1]
    have key := rdt_grd (n := n) (h := h) (A := A) (R := R) (T := T) (rdt_c hF (rdl (v := Int32.ofInt 104) 104 rfl (by decide) (by decide)) (rdt_grd (rdt_c hF (rdl (v := Int32.ofInt 101) 101 rfl (by decide) (by decide)) (rdt_grd (rdt_c hF (rdl (v := Int32.ofInt 110) 110 rfl (by decide) (by decide)) (rdt_grd (rdt_last hF rd_three hG (by decide))) (by decide) (by decide))) (by decide) (by decide))) (by decide) (by decide))
    obtain ⟨M', e, r⟩ := cmd_fin (M := M) (k := 2) (c0 := 116) (M2 := M2) key (ksel_2 c3) (by decide) (by decide) rfl c3 (by decide) (by decide) t2 hi2' (by rw [s2, hxx]; rfl) f2
    refine ⟨M', ?_, r⟩
    unfold f_X12_readsCommand
    rw [grd_w k17, cal_w e0, grd_w k17, bnd_w, si_M (by decide), ← hM1, grd_w k17, cal_w e1, if_pos n00, grd_w k17, cal_w e2, if_pos n00, grd_w k17, cal_w e3, if_neg n10]
    exact e
  have e3 : f_X12_reads (ma n 0) (Int32.ofInt 116) (E n h A M1 R) = some (nI 0, E n h A M1 R) := rF 116 (by decide) (by decide) c3
  by_cases c4 : T.getD i 0 = 100
  · obtain ⟨hl, e4⟩ := rT 100 (by decide) (by decide) c4
    have e4 : f_X12_reads (ma n 0) (Int32.ofInt 100) (E n h A M1 R) = some (nI 1, E n h A M2 R) := e4
    have hxx := hx hl
    rw [c4] at hxx
    have hF : ∀ h, g_X12_readsCommand_159 h = some (nI 0, h) := fun h => by
      unfold g_X12_readsCommand_159 g_X12_readsCommand_160
      simp only [↓grd_u, ↓bnd_e, ↓orf_u, ↓oif_u, ↓cal_u, ↓calX_u, ↓inrO_u, ↓reduceIte, EM, EMg, EMs, z0, oi, n_inbT, n_cntT, n_ltT, n_ltF, n_leT, n_leF, n_eqT, n_eqF, n_m1T, n_m1F, n_m1F', n_cl, n_add, n_mul, ro_at, ro_ro, up_at, up_up, nz0]
    have hG : ∀ h, g_X12_readsCommand_160 (Int32.ofInt 1) h = ret1 h := fun h => by
      unfold g_X12_readsCommand_160 ret1
      simp only [↓grd_u, ↓bnd_e, ↓orf_u, ↓oif_u, ↓cal_u, ↓calX_u, ↓inrO_u, ↓reduceIte, EM, EMg, EMs, z0, oi, n_inbT, n_cntT, n_ltT, n_ltF, n_leT, n_leF, n_eqT, n_eqF, n_m1T, n_m1F, n_m1F', n_cl, n_add, n_mul, ro_at, ro_ro, up_at, up_up, nz1]
    have key := rdt_grd (n := n) (h := h) (A := A) (R := R) (T := T) (rdt_c hF (rdl (v := Int32.ofInt 114) 114 rfl (by decide) (by decide)) (rdt_grd (rdt_c hF (rdl (v := Int32.ofInt 111) 111 rfl (by decide) (by decide)) (rdt_grd (rdt_c hF (rdl (v := Int32.ofInt 112) 112 rfl (by decide) (by decide)) (rdt_grd (rdt_c hF (rdl (v := Int32.ofInt 32) 32 rfl (by decide) (by decide)) (rdt_grd (rdt_c hF (rdd (v := Int32.ofInt 0) 0 rfl (by decide)) (rdt_end hG) (by decide) (by decide))) (by decide) (by decide))) (by decide) (by decide))) (by decide) (by decide))) (by decide) (by decide))
    obtain ⟨M', e, r⟩ := cmd_fin (M := M) (k := 4) (c0 := 100) (M2 := M2) key (ksel_4 c4) (by decide) (by decide) rfl c4 (by decide) (by decide) t2 hi2' (by rw [s2, hxx]; rfl) f2
    refine ⟨M', ?_, r⟩
    unfold f_X12_readsCommand
    rw [grd_w k17, cal_w e0, grd_w k17, bnd_w, si_M (by decide), ← hM1, grd_w k17, cal_w e1, if_pos n00, grd_w k17, cal_w e2, if_pos n00, grd_w k17, cal_w e3, if_pos n00, grd_w k17, cal_w e4, if_neg n10]
    exact e
  have e4 : f_X12_reads (ma n 0) (Int32.ofInt 100) (E n h A M1 R) = some (nI 0, E n h A M1 R) := rF 100 (by decide) (by decide) c4
  by_cases c5 : T.getD i 0 = 119
  · obtain ⟨hl, e5⟩ := rT 119 (by decide) (by decide) c5
    have e5 : f_X12_reads (ma n 0) (Int32.ofInt 119) (E n h A M1 R) = some (nI 1, E n h A M2 R) := e5
    have hxx := hx hl
    rw [c5] at hxx
    obtain ⟨M', e, r⟩ := m_word (M := M) (n := n) (h := h) (A := A) (R := R) c5 t2 hi2' (by rw [s2, hxx]) f2 hl
    refine ⟨M', ?_, r⟩
    unfold f_X12_readsCommand
    rw [grd_w k17, cal_w e0, grd_w k17, bnd_w, si_M (by decide), ← hM1, grd_w k17, cal_w e1, if_pos n00, grd_w k17, cal_w e2, if_pos n00, grd_w k17, cal_w e3, if_pos n00, grd_w k17, cal_w e4, if_pos n00, grd_w k17, cal_w e5, if_neg n10, grd_w k17, cal_w e, grd_w (of_eq_true (b2_nar _))]
  have e5 : f_X12_reads (ma n 0) (Int32.ofInt 119) (E n h A M1 R) = some (nI 0, E n h A M1 R) := rF 119 (by decide) (by decide) c5
  have ek := ksel_6 c1 c2 c3 c4 c5
  by_cases c6 : T.getD i 0 = 99
  · obtain ⟨hl, e6⟩ := rT 99 (by decide) (by decide) c6
    have e6 : f_X12_reads (ma n 0) (Int32.ofInt 99) (E n h A M1 R) = some (nI 1, E n h A M2 R) := e6
    have hxx := hx hl
    rw [c6] at hxx
    have hF : ∀ h, g_X12_readsCommand_223 h = some (nI 0, h) := fun h => by
      unfold g_X12_readsCommand_223 g_X12_readsCommand_224
      simp only [↓grd_u, ↓bnd_e, ↓orf_u, ↓oif_u, ↓cal_u, ↓calX_u, ↓inrO_u, ↓reduceIte, EM, EMg, EMs, z0, oi, n_inbT, n_cntT, n_ltT, n_ltF, n_leT, n_leF, n_eqT, n_eqF, n_m1T, n_m1F, n_m1F', n_cl, n_add, n_mul, ro_at, ro_ro, up_at, up_up, nz0]
    have hG : ∀ h, g_X12_readsCommand_224 (Int32.ofInt 1) h = ret1 h := fun h => by
      unfold g_X12_readsCommand_224 ret1
      simp only [↓grd_u, ↓bnd_e, ↓orf_u, ↓oif_u, ↓cal_u, ↓calX_u, ↓inrO_u, ↓reduceIte, EM, EMg, EMs, z0, oi, n_inbT, n_cntT, n_ltT, n_ltF, n_leT, n_leF, n_eqT, n_eqF, n_m1T, n_m1F, n_m1F', n_cl, n_add, n_mul, ro_at, ro_ro, up_at, up_up, nz1]
    have key := rdt_grd (n := n) (h := h) (A := A) (R := R) (T := T) (rdt_c hF (rdl (v := Int32.ofInt 117) 117 rfl (by decide) (by decide)) (rdt_grd (rdt_c hF (rdl (v := Int32.ofInt 116) 116 rfl (by decide) (by decide)) (rdt_grd (rdt_c hF (rdl (v := Int32.ofInt 32) 32 rfl (by decide) (by decide)) (rdt_grd (rdt_c hF (rdd (v := Int32.ofInt 0) 0 rfl (by decide)) (rdt_end hG) (by decide) (by decide))) (by decide) (by decide))) (by decide) (by decide))) (by decide) (by decide))
    obtain ⟨M', e, r⟩ := cmd_fin (M := M) (k := 6) (c0 := 99) (M2 := M2) key ek (by decide) (by decide) rfl c6 (by decide) (by decide) t2 hi2' (by rw [s2, hxx]; rfl) f2
    refine ⟨M', ?_, r⟩
    unfold f_X12_readsCommand
    rw [grd_w k17, cal_w e0, grd_w k17, bnd_w, si_M (by decide), ← hM1, grd_w k17, cal_w e1, if_pos n00, grd_w k17, cal_w e2, if_pos n00, grd_w k17, cal_w e3, if_pos n00, grd_w k17, cal_w e4, if_pos n00, grd_w k17, cal_w e5, if_pos n00, grd_w k17, cal_w e6, if_neg n10]
    exact e
  · have e6 : f_X12_reads (ma n 0) (Int32.ofInt 99) (E n h A M1 R) = some (nI 0, E n h A M1 R) := rF 99 (by decide) (by decide) c6
    have ec : cmR T i = (false, i) := by
      have nm : ¬ mtc 99 (T.getD i 0) := by
        unfold mtc
        rw [if_pos (by decide)]
        exact c6
      unfold cmR
      rw [ek]
      rw [show sq T (kwd 6 ++ rst1 6) i = (false, i) from if_neg nm]
      rfl
    refine ⟨M1, ?_, by rw [ec]; exact hi1, f1, fun z => by rw [ec] at z; exact absurd z Bool.false_ne_true⟩
    rw [ec]
    unfold f_X12_readsCommand
    rw [grd_w k17, cal_w e0, grd_w k17, bnd_w, si_M (by decide), ← hM1, grd_w k17, cal_w e1, if_pos n00, grd_w k17, cal_w e2, if_pos n00, grd_w k17, cal_w e3, if_pos n00, grd_w k17, cal_w e4, if_pos n00, grd_w k17, cal_w e5, if_pos n00, grd_w k17, cal_w e6, if_pos n00]
    unfold g_X12_readsCommand_223 g_X12_readsCommand_224
    simp only [↓grd_u, ↓bnd_e, ↓orf_u, ↓oif_u, ↓cal_u, ↓calX_u, ↓inrO_u, ↓reduceIte, EM, EMg, EMs, z0, oi, n_inbT, n_cntT, n_ltT, n_ltF, n_leT, n_leF, n_eqT, n_eqF, n_m1T, n_m1F, n_m1F', n_cl, n_add, n_mul, ro_at, ro_ro, up_at, up_up, nz0]
    rfl
end MCMDD
