/-! the reference: formatPattern -/
def FS (M : Nat → Nat → Int32) (st : fst1) (k : Nat) : Prop := LnI M (flt st) ∧ FB M st ∧ M 0 29 = nI st.length ∧ Ch7 (flt st) ∧ (flt st).length ≤ 5 * k
theorem sgc_lt (c : Nat) : sgc c < 128 := by unfold sgc; split; decide; split <;> decide
theorem wrp_len (l : List Nat) : (wrp l).length = l.length + 2 := by unfold wrp; simp
section MFMTQ
variable {n : Nat} {h : mH} {A M : Nat → Nat → Int32} {R : Nat → Nat → Option Nat} {S : St} {g : Glu}
theorem LnI_fr {M' : Nat → Nat → Int32} {l : List Nat} {rows sc : List Nat} (h : LnI M l) (hf : Fr rows sc M M') (h1 : 30 ∉ rows) (h2 : 44 ∉ sc) : LnI M' l := ⟨by rw [hf.2 _ h2]; exact h.1, fun k hk => by rw [hf.1 30 (by decide) h1]; exact h.2 k hk⟩
theorem FB_f {M' : Nat → Nat → Int32} {st : fst1} {rows sc : List Nat} (h : FB M st) (hf : Fr rows sc M M') (h1 : 31 ∉ rows) (h2 : 32 ∉ rows) : FB M' st := FB_fr h (fun k _ => ⟨by rw [hf.1 31 (by decide) h1], by rw [hf.1 32 (by decide) h2]⟩)
theorem m_let {st : fst1} {c k : Nat} (hs : FS M st k) (hk : k < 22) (hc : 1 ≤ c ∧ c ≤ 3) (h8 : st.length < 8) : ∃ M', FS M' (fstep st c) (k + 1) ∧ Fr [30, 31, 32] [44, 29] M M' ∧ ∃ M0, M0 = ro (ro (ro M 32 (up (M 32) st.length (nI 3))) 31 (up (M 31) st.length (nI (flt st).length))) 0 (up (M 0) 29 (nI (st.length + 1))) ∧ f_X12_inserts (ma n 0) (nI (flt st).length) (nI (96 + c)) (E n h A M0 R) = some ((), E n h A M' R) ∧ M0 0 44 = nI (flt st).length := by
  obtain ⟨s1, s2, s3, s4, s5⟩ := hs
  obtain ⟨M0, hM0⟩ : ∃ M0, M0 = ro (ro (ro M 32 (up (M 32) st.length (nI 3))) 31 (up (M 31) st.length (nI (flt st).length))) 0 (up (M 0) 29 (nI (st.length + 1))) := ⟨_, rfl⟩
  have m00 : M0 0 = up (M 0) 29 (nI (st.length + 1)) := by rw [hM0, ro_at]
  have mb : M0 31 = up (M 31) st.length (nI (flt st).length) := by rw [hM0, ro_ne _ _ (by decide), ro_at]
  have ml : M0 32 = up (M 32) st.length (nI 3) := by rw [hM0, ro_ne _ _ (by decide), ro_ne _ _ (by decide), ro_at]
  have mn : M0 30 = M 30 := by rw [hM0, ro_ne _ _ (by decide), ro_ne _ _ (by decide), ro_ne _ _ (by decide)]
  have f0 : Fr [30, 31, 32] [44, 29] M M0 := ⟨fun r h0 hr => by rw [hM0, ro_ne _ _ h0, ro_ne _ _ (fun e => hr (by rw [e]; decide)), ro_ne _ _ (fun e => hr (by rw [e]; decide))], fun j hj => by rw [m00, up_ne _ _ (fun e => hj (by rw [e]; decide))]⟩
  have l0 : M0 0 44 = nI (flt st).length := by rw [m00, up_ne _ _ (by decide)]; exact s1.1
  obtain ⟨M1, e1, q1, f1⟩ := m_insP (n := n) (h := h) (A := A) (R := R) (M := M0) (pos := (flt st).length) (c := 96 + c) (l := flt st) ⟨l0, fun j hj => by rw [mn]; exact s1.2 j hj⟩ (Nat.le_refl _) (by omega) (by omega) s4
  rw [List.take_length, List.drop_length] at q1
  refine ⟨M1, ⟨?_, ?_, ?_, ?_, ?_⟩, Fr_tr f0 (Fr_wk f1 (by decide) (by decide)), M0, hM0, e1, l0⟩
  · unfold fstep
    rw [if_pos (by omega), flt_c]
    exact q1
  · unfold fstep
    rw [if_pos (by omega)]
    refine FB_c.mpr ⟨?_, ?_, Nat.le_refl _, FB_fr s2 (fun j hj => ⟨?_, ?_⟩)⟩
    · rw [f1.1 31 (by decide) (by decide), mb, up_at]
    · rw [f1.1 32 (by decide) (by decide), ml, up_at]
    · rw [f1.1 31 (by decide) (by decide), mb, up_ne _ _ (by omega)]
    · rw [f1.1 32 (by decide) (by decide), ml, up_ne _ _ (by omega)]
  · unfold fstep
    rw [if_pos (by omega), f1.2 _ (by decide), m00, up_at]
    rfl
  · unfold fstep
    rw [if_pos (by omega), flt_c]
    exact Ch7_app s4 (Ch7_c (by omega) Ch7_n)
  · unfold fstep
    rw [if_pos (by omega), flt_c, List.length_append]
    show _ + 1 ≤ _
    omega
theorem m_sgn63 {v : Nat} {l : List Nat} {q : Nat} (hl : LnI M l) (h1 : l.length < 120) (hv : v < 128) (hch : Ch7 l) (hp : M 0 29 = nI (q + 1)) (hq : q < 8) : ∃ M1 M', f_X12_inserts (ma n 0) (nI l.length) (nI v) (E n h A M R) = some ((), E n h A M1 R) ∧ g_X12_writesSign_63 (ma n 0) (nI v) (nI l.length) (ma n 0) (E n h A M R) = some ((), E n h A M' R) ∧ M' = ro M1 32 (up (M 32) q (nI 2)) ∧ LnI M1 (l ++ [v]) ∧ Fr [30] [44] M M1 := by
  obtain ⟨M1, e1, q1, f1⟩ := m_insP (n := n) (h := h) (A := A) (R := R) (pos := l.length) (c := v) hl (Nat.le_refl _) h1 hv hch
  rw [List.take_length, List.drop_length] at q1
  have p1 : M1 0 29 = nI (q + 1) := by rw [f1.2 _ (by decide)]; exact hp
  have lv : M1 32 = M 32 := f1.1 32 (by decide) (by decide)
  refine ⟨M1, _, e1, ?_, rfl, q1, f1⟩
  unfold g_X12_writesSign_63
  simp (disch := omega) only [↓grd_u, ↓bnd_e, ↓orf_u, ↓oif_u, ↓cal_u, ↓calX_u, ↓inrO_u, ↓reduceIte, EM, EMg, EMs, z0, oi, n_inbT, n_cntT, n_ltT, n_ltF, n_leT, n_leF, n_eqT, n_eqF, n_m1T, n_m1F, n_m1F', n_cl, n_add, n_mul, ro_at, ro_ro, up_at, up_up, e1, p1, n_sub, Nat.add_sub_cancel]
  rw [lv]
theorem m_sign {st : fst1} {c k : Nat} (hs : FS M st k) (hk : k < 22) (hc : 6 ≤ c ∧ c ≤ 8) (h0 : 1 ≤ st.length) (h8 : st.length ≤ 8) : ∃ M', f_X12_writesSign (ma n 0) (nI c) (E n h A M R) = some ((), E n h A M' R) ∧ FS M' (fstep st c) (k + 1) ∧ Fr [30, 31, 32] [44, 29] M M' := by
  obtain ⟨s1, s2, s3, s4, s5⟩ := hs
  cases st with
  | nil => simp at h0
  | cons x r =>
    obtain ⟨b1, b2, b3, b4⟩ := FB_c.mp s2
    have h8 : r.length + 1 ≤ 8 := h8
    have s3 : M 0 29 = nI (r.length + 1) := s3
    have ef : fstep (x :: r) c = ((if 3 ≤ x.2 then x.1 else wrp x.1) ++ [sgc c], 2) :: r := by unfold fstep; rw [if_neg (by omega), if_pos hc.1]
    -- brackets first
    have step : ∃ M1, f_X12_writesSign (ma n 0) (nI c) (E n h A M R) = g_X12_writesSign_34 (ma n 0) (nI c) (E n h A M1 R) ∧ LnI M1 (flt r ++ (if 3 ≤ x.2 then x.1 else wrp x.1)) ∧ Ch7 (flt r ++ (if 3 ≤ x.2 then x.1 else wrp x.1)) ∧ (flt r ++ (if 3 ≤ x.2 then x.1 else wrp x.1)).length ≤ 5 * k + 2 ∧ Fr [30] [44] M M1 := by
      rw [flt_c] at s1 s4 s5
      unfold f_X12_writesSign
      by_cases e3 : 3 ≤ x.2
      · refine ⟨M, ?_, by rw [if_pos e3]; exact s1, by rw [if_pos e3]; exact s4, by rw [if_pos e3]; omega, Fr_rf _ _ _⟩
        simp (disch := omega) only [↓grd_u, ↓bnd_e, ↓orf_u, ↓oif_u, ↓cal_u, ↓calX_u, ↓inrO_u, ↓reduceIte, EM, EMg, EMs, z0, oi, n_inbT, n_cntT, n_ltT, n_ltF, n_leT, n_leF, n_eqT, n_eqF, n_m1T, n_m1F, n_m1F', n_cl, n_add, n_mul, ro_at, ro_ro, up_at, up_up, s3, n_sub, Nat.add_sub_cancel, b2]
      · obtain ⟨M1, e1, q1, f1⟩ := m_enc (n := n) (h := h) (A := A) (M := M) (R := R) (a := flt r) (b := x.1) (c := []) (by rw [List.append_nil]; exact s1) (by rw [List.append_nil]; omega) (by rw [List.append_nil]; exact s4)
        rw [List.append_nil] at q1
        refine ⟨M1, ?_, by rw [if_neg e3]; exact q1, by rw [if_neg e3]; exact Ch7_app (Ch7_l s4) (Ch7_w (Ch7_r s4)), ?_, f1⟩
        · simp (disch := omega) only [↓grd_u, ↓bnd_e, ↓orf_u, ↓oif_u, ↓cal_u, ↓calX_u, ↓inrO_u, ↓reduceIte, EM, EMg, EMs, z0, oi, n_inbT, n_cntT, n_ltT, n_ltF, n_leT, n_leF, n_eqT, n_eqF, n_m1T, n_m1F, n_m1F', n_cl, n_add, n_mul, ro_at, ro_ro, up_at, up_up, s3, n_sub, Nat.add_sub_cancel, b1, b2, s1.1, e1]
        · rw [if_neg e3, List.length_append, wrp_len]
          rw [List.length_append] at s5
          omega
    obtain ⟨M1, e1, q1, q2, q3, f1⟩ := step
    have p1 : M1 0 29 = nI (r.length + 1) := by rw [f1.2 _ (by decide)]; exact s3
    obtain ⟨M2, M', e2, e3, rfl, q4, f2⟩ := m_sgn63 (n := n) (h := h) (A := A) (R := R) (v := sgc c) q1 (by omega) (sgc_lt c) q2 p1 (by omega)
    have e4 : g_X12_writesSign_34 (ma n 0) (nI c) (E n h A M1 R) = some ((), E n h A (ro M2 32 (up (M1 32) r.length (nI 2))) R) := by
      rw [← e3]
      have l1 := q1.1
      have hcc : c = 6 ∨ c = 7 ∨ c = 8 := by omega
      unfold g_X12_writesSign_34
      rcases hcc with rfl | rfl | rfl
      · simp (disch := omega) only [↓grd_u, ↓bnd_e, ↓orf_u, ↓oif_u, ↓cal_u, ↓calX_u, ↓inrO_u, ↓reduceIte, EM, EMg, EMs, z0, oi, n_inbT, n_cntT, n_ltT, n_ltF, n_leT, n_leF, n_eqT, n_eqF, n_m1T, n_m1F, n_m1F', n_cl, n_add, n_mul, ro_at, ro_ro, up_at, up_up, l1]
        rfl
      · simp (disch := omega) only [↓grd_u, ↓bnd_e, ↓orf_u, ↓oif_u, ↓cal_u, ↓calX_u, ↓inrO_u, ↓reduceIte, EM, EMg, EMs, z0, oi, n_inbT, n_cntT, n_ltT, n_ltF, n_leT, n_leF, n_eqT, n_eqF, n_m1T, n_m1F, n_m1F', n_cl, n_add, n_mul, ro_at, ro_ro, up_at, up_up, l1]
        rfl
      · simp (disch := omega) only [↓grd_u, ↓bnd_e, ↓orf_u, ↓oif_u, ↓cal_u, ↓calX_u, ↓inrO_u, ↓reduceIte, EM, EMg, EMs, z0, oi, n_inbT, n_cntT, n_ltT, n_ltF, n_leT, n_leF, n_eqT, n_eqF, n_m1T, n_m1F, n_m1F', n_cl, n_add, n_mul, ro_at, ro_ro, up_at, up_up, l1]
        rfl
    have lv : M1 32 = M 32 := f1.1 32 (by decide) (by decide)
    have bg : M2 31 = M 31 := (f2.1 31 (by decide) (by decide)).trans (f1.1 31 (by decide) (by decide))
    refine ⟨_, by rw [e1, e4], ?_, Fr_tr (Fr_wk f1 (by decide) (by decide)) (Fr_tr (Fr_wk f2 (by decide) (by decide)) (Fr_ro (r := 32) _ (by decide) (by decide)))⟩
    rw [ef]
    refine ⟨?_, ?_, ?_, ?_, ?_⟩
    · rw [flt_c]
      dsimp only
      rw [← List.append_assoc]
      exact LnI_fr q4 (Fr_ro (r := 32) (rows := [32]) (sc := []) _ (by decide) (by decide)) (by decide) (by decide)
    · refine FB_c.mpr ⟨?_, ?_, by show 2 ≤ 3; omega, FB_fr b4 (fun j hj => ⟨?_, ?_⟩)⟩
      · rw [ro_ne _ _ (by decide), bg]; exact b1
      · rw [ro_at, up_at]
      · rw [ro_ne _ _ (by decide), bg]
      · rw [ro_at, up_ne _ _ (by omega), lv]
    · rw [ro_ne _ _ (by decide), f2.2 _ (by decide)]
      exact p1
    · rw [flt_c]
      dsimp only
      rw [← List.append_assoc]
      exact Ch7_app q2 (Ch7_c (sgc_lt c) Ch7_n)
    · rw [flt_c]
      dsimp only
      rw [← List.append_assoc, List.length_append]
      show _ + 1 ≤ _
      omega
end MFMTQ
