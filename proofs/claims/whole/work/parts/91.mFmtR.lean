/-! the reference: formatPattern, two parts and the loop -/
section MFMTR
variable {n : Nat} {h : mH} {A M : Nat → Nat → Int32} {R : Nat → Nat → Option Nat} {S : St} {g : Glu}
theorem m_two95 {q : Nat} (hq : q < 8) : g_X12_writesTwo_95 (ma n 0) (nI q) (E n h A M R) = some ((), E n h A (ro M 32 (up (M 32) q (nI 1))) R) := by
  unfold g_X12_writesTwo_95
  simp (disch := omega) only [↓grd_u, ↓bnd_e, ↓orf_u, ↓oif_u, ↓cal_u, ↓calX_u, ↓inrO_u, ↓reduceIte, EM, EMg, EMs, z0, oi, n_inbT, n_cntT, n_ltT, n_ltF, n_leT, n_leF, n_eqT, n_eqF, n_m1T, n_m1F, n_m1F', n_cl, n_add, n_mul, ro_at, ro_ro, up_at, up_up]
theorem m_two70 {q k : Nat} {x : List Nat × Nat} {r : fst1} {y : List Nat} (hr : r.length = q) (hq : q < 7) (b1 : M 31 q = nI (flt r).length) (b1' : M 31 (q + 1) = nI (flt r ++ x.1).length) (b2 : M 32 q = nI x.2) (b3 : x.2 ≤ 3) (hl : LnI M ((flt r ++ x.1) ++ y)) (hch : Ch7 ((flt r ++ x.1) ++ y)) (hn : ((flt r ++ x.1) ++ y).length ≤ k) (hk : k + 2 ≤ 120) :
    ∃ M1, g_X12_writesTwo_70 (ma n 0) (nI q) (nI (q + 1)) (E n h A M R) = some ((), E n h A (ro M1 32 (up (M 32) q (nI 1))) R) ∧ LnI M1 (flt r ++ ((if x.2 = 0 then wrp x.1 else x.1) ++ y)) ∧ Ch7 (flt r ++ ((if x.2 = 0 then wrp x.1 else x.1) ++ y)) ∧ (flt r ++ ((if x.2 = 0 then wrp x.1 else x.1) ++ y)).length ≤ k + 2 ∧ Fr [30] [44] M M1 := by
  unfold g_X12_writesTwo_70
  by_cases e0 : x.2 = 0
  · obtain ⟨M1, e1, q1, f1⟩ := m_enc (n := n) (h := h) (A := A) (M := M) (R := R) (a := flt r) (b := x.1) (c := y) hl (by omega) hch
    have lv : M1 32 = M 32 := f1.1 32 (by decide) (by decide)
    rw [e0] at b2
    refine ⟨M1, ?_, by rw [if_pos e0, ← List.append_assoc]; exact q1, ?_, ?_, f1⟩
    · have h95 := m_two95 (n := n) (h := h) (A := A) (M := M1) (R := R) (q := q) (by omega)
      rw [lv] at h95
      simp (disch := omega) only [↓grd_u, ↓bnd_e, ↓orf_u, ↓oif_u, ↓cal_u, ↓calX_u, ↓inrO_u, ↓reduceIte, EM, EMg, EMs, z0, oi, n_inbT, n_cntT, n_ltT, n_ltF, n_leT, n_leF, n_eqT, n_eqF, n_m1T, n_m1F, n_m1F', n_cl, n_add, n_mul, ro_at, ro_ro, up_at, up_up, b1, b1', b2, e1, h95]
    · rw [if_pos e0, ← List.append_assoc]
      exact Ch7_app (Ch7_app (Ch7_l (Ch7_l hch)) (Ch7_w (Ch7_r (Ch7_l hch)))) (Ch7_r hch)
    · rw [if_pos e0]
      simp only [List.length_append, wrp_len] at hn ⊢
      omega
  · have h95 := m_two95 (n := n) (h := h) (A := A) (M := M) (R := R) (q := q) (by omega)
    refine ⟨M, ?_, by rw [if_neg e0, ← List.append_assoc]; exact hl, by rw [if_neg e0, ← List.append_assoc]; exact hch, by rw [if_neg e0, ← List.append_assoc]; omega, Fr_rf _ _ _⟩
    simp (disch := omega) only [↓grd_u, ↓bnd_e, ↓orf_u, ↓oif_u, ↓cal_u, ↓calX_u, ↓inrO_u, ↓reduceIte, EM, EMg, EMs, z0, oi, n_inbT, n_cntT, n_ltT, n_ltF, n_leT, n_leF, n_eqT, n_eqF, n_m1T, n_m1F, n_m1F', n_cl, n_add, n_mul, ro_at, ro_ro, up_at, up_up, b2, h95]
theorem m_twoW {st : fst1} {c k : Nat} (hs : FS M st k) (hk : k < 22) (hc : c = 4 ∨ c = 5) (h0 : 2 ≤ st.length) (h8 : st.length ≤ 8) : ∃ M', f_X12_writesTwo (ma n 0) (nI c) (E n h A M R) = some ((), E n h A M' R) ∧ FS M' (fstep st c) (k + 1) ∧ Fr [30, 31, 32] [44, 29] M M' := by
  obtain ⟨s1, s2, s3, s4, s5⟩ := hs
  match st, h0, h8, s1, s2, s3, s4, s5 with
  | y :: x :: r, h0, h8, s1, s2, s3, s4, s5 =>
    obtain ⟨y1, y2, y3, s2'⟩ := FB_c.mp s2
    obtain ⟨x1, x2, x3, x4⟩ := FB_c.mp s2'
    have h8 : r.length + 2 ≤ 8 := h8
    have s3 : M 0 29 = nI (r.length + 2) := s3
    have y1 : M 31 (r.length + 1) = nI (flt r ++ x.1).length := y1
    have y2 : M 32 (r.length + 1) = nI y.2 := y2
    rw [flt_c, flt_c] at s1 s4 s5
    obtain ⟨M0, hM0⟩ : ∃ M0, M0 = ro M 0 (up (M 0) 29 (nI (r.length + 1))) := ⟨_, rfl⟩
    have m0 : ∀ r, r ≠ 0 → M0 r = M r := fun r hr => by rw [hM0, ro_ne _ _ hr]
    have p0 : M0 0 29 = nI (r.length + 1) := by rw [hM0, ro_at, up_at]
    have f0 : Fr [30, 31, 32] [44, 29] M M0 := by rw [hM0]; exact Fr_r0 _ (by decide)
    have s1' : LnI M0 (flt r ++ x.1 ++ y.1) := LnI_fr (rows := []) (sc := [29]) s1 (by rw [hM0]; exact Fr_r0 _ (by decide)) (by decide) (by decide)
    have e21 : r.length + 2 - 1 = r.length + 1 := rfl
    -- the whole once the texts stand
    have fin : ∀ (z : List Nat) (lv : Nat) (M1 : Nat → Nat → Int32), lv ≤ 3 → LnI M1 (flt r ++ z) → Ch7 (flt r ++ z) → (flt r ++ z).length ≤ 5 * (k + 1) → Fr [30] [44] M0 M1 → FS (ro M1 32 (up (M0 32) r.length (nI lv))) ((z, lv) :: r) (k + 1) ∧ Fr [30, 31, 32] [44, 29] M (ro M1 32 (up (M0 32) r.length (nI lv))) := fun z lv M1 g1 g2 g3 g4 g5 => by
      refine ⟨⟨?_, ?_, ?_, g3, g4⟩, Fr_tr f0 (Fr_tr (Fr_wk g5 (by decide) (by decide)) (Fr_ro (r := 32) _ (by decide) (by decide)))⟩
      · rw [flt_c]
        exact LnI_fr g2 (Fr_ro (r := 32) (rows := [32]) (sc := []) _ (by decide) (by decide)) (by decide) (by decide)
      · have bg : M1 31 = M 31 := (g5.1 31 (by decide) (by decide)).trans (m0 _ (by decide))
        have lg : M0 32 = M 32 := m0 _ (by decide)
        refine FB_c.mpr ⟨?_, ?_, g1, FB_fr x4 (fun j hj => ⟨?_, ?_⟩)⟩
        · rw [ro_ne _ _ (by decide), bg]; exact x1
        · rw [ro_at, up_at]
        · rw [ro_ne _ _ (by decide), bg]
        · rw [ro_at, up_ne _ _ (by omega), lg]
      · rw [ro_ne _ _ (by decide), g5.2 _ (by decide)]
        exact p0
    rcases hc with rfl | rfl
    · have ef : fstep (y :: x :: r) 4 = ((if x.2 = 0 then wrp x.1 else x.1) ++ (if y.2 = 0 then wrp y.1 else y.1), 1) :: r := rfl
      rw [ef]
      by_cases e0 : y.2 = 0
      · obtain ⟨M1, e1, q1, f1⟩ := m_enc (n := n) (h := h) (A := A) (M := M0) (R := R) (a := flt r ++ x.1) (b := y.1) (c := []) (by rw [List.append_nil]; exact s1') (by rw [List.append_nil]; omega) (by rw [List.append_nil]; exact s4)
        rw [List.append_nil] at q1
        have bg : M1 31 = M 31 := (f1.1 31 (by decide) (by decide)).trans (m0 _ (by decide))
        have lg : M1 32 = M0 32 := f1.1 32 (by decide) (by decide)
        obtain ⟨M2, e2, q2, q3, q4, f2⟩ := m_two70 (n := n) (h := h) (A := A) (M := M1) (R := R) (x := x) (k := 5 * k + 2) rfl (by omega) (by rw [bg]; exact x1) (by rw [bg]; exact y1) (by rw [lg, m0 _ (by decide)]; exact x2) x3 q1 (Ch7_app (Ch7_l s4) (Ch7_w (Ch7_r s4))) (by rw [List.length_append, wrp_len]; rw [List.length_append] at s5; omega) (by omega)
        rw [lg] at e2
        rw [if_pos e0]
        obtain ⟨w1, w2⟩ := fin _ 1 M2 (by omega) q2 q3 (by omega) (Fr_tr f1 f2)
        refine ⟨_, ?_, w1, w2⟩
        unfold f_X12_writesTwo
        have sl := s1.1
        rw [e0] at y2
        simp (disch := omega) only [↓grd_u, ↓bnd_e, ↓orf_u, ↓oif_u, ↓cal_u, ↓calX_u, ↓inrO_u, ↓reduceIte, EM, EMg, EMs, z0, oi, n_inbT, n_cntT, n_ltT, n_ltF, n_leT, n_leF, n_eqT, n_eqF, n_m1T, n_m1F, n_m1F', n_cl, n_add, n_mul, ro_at, ro_ro, up_at, up_up, ro_ne, up_ne, ro_sw, s3, e21, n_sub, Nat.add_sub_cancel, y1, y2, sl]
        rw [← hM0, e1]
        exact e2
      · obtain ⟨M2, e2, q2, q3, q4, f2⟩ := m_two70 (n := n) (h := h) (A := A) (M := M0) (R := R) (x := x) (k := 5 * k + 2) rfl (by omega) (by rw [m0 _ (by decide)]; exact x1) (by rw [m0 _ (by decide)]; exact y1) (by rw [m0 _ (by decide)]; exact x2) x3 s1' s4 (by omega) (by omega)
        rw [if_neg e0]
        obtain ⟨w1, w2⟩ := fin _ 1 M2 (by omega) q2 q3 (by omega) f2
        refine ⟨_, ?_, w1, w2⟩
        unfold f_X12_writesTwo
        simp (disch := omega) only [↓grd_u, ↓bnd_e, ↓orf_u, ↓oif_u, ↓cal_u, ↓calX_u, ↓inrO_u, ↓reduceIte, EM, EMg, EMs, z0, oi, n_inbT, n_cntT, n_ltT, n_ltF, n_leT, n_leF, n_eqT, n_eqF, n_m1T, n_m1F, n_m1F', n_cl, n_add, n_mul, ro_at, ro_ro, up_at, up_up, ro_ne, up_ne, ro_sw, s3, e21, n_sub, Nat.add_sub_cancel, y1, y2]
        rw [← hM0]
        exact e2
    · have ef : fstep (y :: x :: r) 5 = (x.1 ++ 124 :: y.1, 0) :: r := rfl
      rw [ef]
      obtain ⟨M1, e1, q1, f1⟩ := m_insP (n := n) (h := h) (A := A) (M := M0) (R := R) (pos := (flt r ++ x.1).length) (c := 124) s1' (by rw [List.length_append (as := flt r ++ x.1)]; omega) (by omega) (by decide) s4
      rw [List.take_left' rfl, List.drop_left' rfl, List.append_assoc] at q1
      have hch : Ch7 (flt r ++ (x.1 ++ 124 :: y.1)) := Ch7_app (Ch7_l (Ch7_l s4)) (Ch7_app (Ch7_r (Ch7_l s4)) (Ch7_c (by decide) (Ch7_r s4)))
      obtain ⟨w1, w2⟩ := fin (x.1 ++ 124 :: y.1) 0 M1 (by omega) q1 hch (by simp only [List.length_append, List.length_cons] at s5 ⊢; omega) f1
      refine ⟨_, ?_, w1, w2⟩
      have lg : M1 32 = M0 32 := f1.1 32 (by decide) (by decide)
      unfold f_X12_writesTwo
      simp (disch := omega) only [↓grd_u, ↓bnd_e, ↓orf_u, ↓oif_u, ↓cal_u, ↓calX_u, ↓inrO_u, ↓reduceIte, EM, EMg, EMs, z0, oi, n_inbT, n_cntT, n_ltT, n_ltF, n_leT, n_leF, n_eqT, n_eqF, n_m1T, n_m1F, n_m1F', n_cl, n_add, n_mul, ro_at, ro_ro, up_at, up_up, ro_ne, up_ne, ro_sw, s3, e21, n_sub, Nat.add_sub_cancel, y1]
      rw [← hM0, e1]
      simp (disch := omega) only [↓grd_u, ↓bnd_e, ↓orf_u, ↓oif_u, ↓cal_u, ↓calX_u, ↓inrO_u, ↓reduceIte, EM, EMg, EMs, z0, oi, n_inbT, n_cntT, n_ltT, n_ltF, n_leT, n_leF, n_eqT, n_eqF, n_m1T, n_m1F, n_m1F', n_cl, n_add, n_mul, ro_at, ro_ro, up_at, up_up]
      rw [lg]
theorem fstep_len {s : gst} {st : fst1} {c : Nat} (h : s.1.length = st.length) : (gstep s c).1.length = (fstep st c).length := by
  obtain ⟨q, fo, ol, pos⟩ := s
  have h : q.length = st.length := h
  unfold gstep fstep
  by_cases h4 : c < 4
  · rw [if_pos h4, if_pos h4]
    show q.length + 1 = st.length + 1
    omega
  · rw [if_neg h4, if_neg h4]
    by_cases h6 : 6 ≤ c
    · rw [if_pos h6, if_pos h6]
      unfold gsign
      cases q with
      | nil => cases st with
        | nil => rfl
        | cons x r => simp at h
      | cons v q => cases st with
        | nil => simp at h
        | cons x r => simpa using h
    · rw [if_neg h6, if_neg h6]
      unfold gjoin
      match q, st, h with
      | [], [], _ => rfl
      | [v], [x], _ => rfl
      | v :: w :: q, y :: x :: r, h =>
        have h : q.length + 2 = r.length + 2 := h
        dsimp only
        split <;> (show q.length + 1 = r.length + 1; omega)
theorem frun_len (p : List Nat) : ∀ {s : gst} {st : fst1}, s.1.length = st.length → (grun s p).1.length = (frun st p).length := by
  induction p with
  | nil => exact fun h => h
  | cons c p ih => exact fun h => ih (fstep_len h)
end MFMTR
