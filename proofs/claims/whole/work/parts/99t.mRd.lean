/-! the reference: reading a pattern, the parts -/
section MRD
variable {n : Nat} {h : mH} {A M : Nat → Nat → Int32} {R : Nat → Nat → Option Nat} {S : St} {T : List Nat} {i : Nat} {o w : List Nat}
def TM (M : Nat → Nat → Int32) (T : List Nat) : Prop := M 0 11 = nI T.length ∧ T.length ≤ 60 ∧ ∀ k, k < T.length → M 6 k = nI (T.getD k 0) ∧ 32 ≤ T.getD k 0 ∧ T.getD k 0 ≤ 126
def WT (M : Nat → Nat → Int32) (w : List Nat) : Prop := M 0 16 = nI w.length ∧ w.length ≤ 80 ∧ ∀ k, k < w.length → M 7 (w.length - 1 - k) = nI (w.getD k 0) ∧ w.getD k 0 < 10
/-- what reading changes -/
def FrD (M M' : Nat → Nat → Int32) : Prop := Fr [5, 7] [9, 16, 12, 17] M M'
theorem FrD_tr {M' M'' : Nat → Nat → Int32} (a : FrD M M') (b : FrD M' M'') : FrD M M'' := Fr_tr a b
theorem FrD_rf : FrD M M := Fr_rf _ _ _
theorem TM_fr {M' : Nat → Nat → Int32} (t : TM M T) (f : FrD M M') : TM M' T := ⟨by rw [f.2 _ (by decide)]; exact t.1, t.2.1, fun k hk => by rw [f.1 6 (by decide) (by decide)]; exact t.2.2 k hk⟩
theorem getD_ov {T : List Nat} {i : Nat} (h : T.length ≤ i) : T.getD i 0 = 0 := by
  rw [List.getD_eq_getElem?_getD, List.getElem?_eq_none h]
  rfl
theorem m_nextT (t : TM M T) (hi : M 0 12 = nI i) (hq : i < T.length) : f_X12_nextChar (ma n 0) (E n h A M R) = some (nI (T.getD i 0), E n h A M R) := by
  obtain ⟨t1, t2, t3⟩ := t
  have e := (t3 i hq).1
  unfold f_X12_nextChar g_X12_nextChar_24
  simp (disch := omega) only [↓grd_u, ↓bnd_e, ↓orf_u, ↓oif_u, ↓cal_u, ↓calX_u, ↓inrO_u, ↓reduceIte, EM, EMg, EMs, z0, oi, n_inbT, n_cntT, n_ltT, n_ltF, n_leT, n_leF, n_eqT, n_eqF, n_m1T, n_m1F, n_m1F', n_cl, n_add, n_mul, ro_at, ro_ro, up_at, up_up, t1, hi, e]
theorem m_nextF (t : TM M T) (hi : M 0 12 = nI i) (hq : T.length ≤ i) (h2 : i ≤ 60) : f_X12_nextChar (ma n 0) (E n h A M R) = some (Int32.ofInt (-1), E n h A M R) := by
  obtain ⟨t1, t2, t3⟩ := t
  unfold f_X12_nextChar g_X12_nextChar_24
  simp (disch := omega) only [↓grd_u, ↓bnd_e, ↓orf_u, ↓oif_u, ↓cal_u, ↓calX_u, ↓inrO_u, ↓reduceIte, EM, EMg, EMs, z0, oi, n_inbT, n_cntT, n_ltT, n_ltF, n_leT, n_leF, n_eqT, n_eqF, n_m1T, n_m1F, n_m1F', n_cl, n_add, n_mul, ro_at, ro_ro, up_at, up_up, t1, hi]
theorem m_readsT {c : Nat} (t : TM M T) (hi : M 0 12 = nI i) (h1 : 1 ≤ c) (h2 : c < 128) (hq : T.getD i 0 = c) : i < T.length ∧ f_X12_reads (ma n 0) (nI c) (E n h A M R) = some (nI 1, E n h A (ro M 0 (up (M 0) 12 (nI (i + 1)))) R) := by
  have hl : i < T.length := by
    rcases Nat.lt_or_ge i T.length with z | z
    · exact z
    · rw [getD_ov z] at hq
      omega
  have e := m_nextT (n := n) (h := h) (A := A) (R := R) t hi hl
  refine ⟨hl, ?_⟩
  unfold f_X12_reads
  simp (disch := omega) only [↓grd_u, ↓bnd_e, ↓orf_u, ↓oif_u, ↓cal_u, ↓calX_u, ↓inrO_u, ↓reduceIte, EM, EMg, EMs, z0, oi, n_inbT, n_cntT, n_ltT, n_ltF, n_leT, n_leF, n_eqT, n_eqF, n_m1T, n_m1F, n_m1F', n_cl, n_add, n_mul, ro_at, ro_ro, up_at, up_up, e, hq, hi]
theorem m_readsF {c : Nat} (t : TM M T) (hi : M 0 12 = nI i) (hi2 : i ≤ 60) (h1 : 1 ≤ c) (h2 : c < 128) (hq : T.getD i 0 ≠ c) : f_X12_reads (ma n 0) (nI c) (E n h A M R) = some (nI 0, E n h A M R) := by
  unfold f_X12_reads
  rcases Nat.lt_or_ge i T.length with z | z
  · have e := m_nextT (n := n) (h := h) (A := A) (R := R) t hi z
    have b := (t.2.2 i z).2
    have hx : ¬ (T.getD i 0 = c) := hq
    simp (disch := omega) only [↓grd_u, ↓bnd_e, ↓orf_u, ↓oif_u, ↓cal_u, ↓calX_u, ↓inrO_u, ↓reduceIte, EM, EMg, EMs, z0, oi, n_inbT, n_cntT, n_ltT, n_ltF, n_leT, n_leF, n_eqT, n_eqF, n_m1T, n_m1F, n_m1F', n_cl, n_add, n_mul, ro_at, ro_ro, up_at, up_up, e]
  · have e := m_nextF (n := n) (h := h) (A := A) (R := R) t hi z hi2
    simp (disch := omega) only [↓grd_u, ↓bnd_e, ↓orf_u, ↓oif_u, ↓cal_u, ↓calX_u, ↓inrO_u, ↓reduceIte, EM, EMg, EMs, z0, oi, n_inbT, n_cntT, n_ltT, n_ltF, n_leT, n_leF, n_eqT, n_eqF, n_m1T, n_m1F, n_m1F', n_cl, n_add, n_mul, ro_at, ro_ro, up_at, up_up, e]
theorem WT_pop {M' : Nat → Nat → Int32} {t : Nat} (hw : WT M (t :: w)) (e1 : M' 0 16 = nI w.length) (e2 : M' 7 = M 7) : WT M' w := by
  obtain ⟨w1, w2, w3⟩ := hw
  rw [List.length_cons] at w2 w3
  refine ⟨e1, by omega, fun k hk => ?_⟩
  have := w3 (k + 1) (by omega)
  rw [show w.length + 1 - 1 - (k + 1) = w.length - 1 - k by omega] at this
  rw [e2]
  exact this
theorem WT_fr {M' : Nat → Nat → Int32} (hw : WT M w) (e1 : M' 0 16 = M 0 16) (e2 : M' 7 = M 7) : WT M' w := ⟨by rw [e1]; exact hw.1, hw.2.1, fun k hk => by rw [e2]; exact hw.2.2 k hk⟩
theorem Blt_fr {M' : Nat → Nat → Int32} (hw : Blt M o) (e1 : M' 0 9 = M 0 9) (e2 : M' 5 = M 5) : Blt M' o := ⟨by rw [e1]; exact hw.1, fun k hk => by rw [e2]; exact hw.2.1 k hk, hw.2.2⟩
theorem m_waitsFor {t : Nat} (hw : WT M w) (ht : t < 10) (hl : w.length < 80) : ∃ M', f_X12_waitsFor (ma n 0) (nI t) (E n h A M R) = some ((), E n h A M' R) ∧ WT M' (t :: w) ∧ Fr [7] [16] M M' := by
  obtain ⟨w1, w2, w3⟩ := hw
  refine ⟨ro (ro M 7 (up (M 7) w.length (nI t))) 0 (up (M 0) 16 (nI (w.length + 1))), ?_, ⟨by rw [ro_at, up_at]; rfl, by rw [List.length_cons]; omega, fun k hk => ?_⟩, Fr_tr (Fr_ro _ (by decide) (by decide)) ⟨fun q h0 _ => ro_ne _ _ h0, fun q hq => by
    rw [ro_at, ro_ne _ _ (by decide)]
    exact up_ne _ _ (fun e => hq (by rw [e]; decide))⟩⟩
  · unfold f_X12_waitsFor
    simp (disch := omega) only [↓grd_u, ↓bnd_e, ↓orf_u, ↓oif_u, ↓cal_u, ↓calX_u, ↓inrO_u, ↓reduceIte, EM, EMg, EMs, z0, oi, n_inbT, n_cntT, n_ltT, n_ltF, n_leT, n_leF, n_eqT, n_eqF, n_m1T, n_m1F, n_m1F', n_cl, n_add, n_mul, ro_at, ro_ro, up_at, up_up, ro_ne, up_ne, ro_sw, w1]
  · rw [List.length_cons] at hk ⊢
    rw [ro_ne _ _ (by decide), ro_at]
    cases k with
    | zero =>
      rw [show w.length + 1 - 1 - 0 = w.length by omega, up_at]
      exact ⟨rfl, ht⟩
    | succ k =>
      rw [show w.length + 1 - 1 - (k + 1) = w.length - 1 - k by omega, up_ne _ _ (by omega)]
      exact w3 k (by omega)
theorem m_addsO {c : Nat} (hb : Blt M o) (hc : c < 9) (hl : o.length < 130) : ∃ M', f_X12_adds (ma n 0) (nI c) (E n h A M R) = some ((), E n h A M' R) ∧ Blt M' (o ++ [c]) ∧ Fr [5] [9] M M' := by
  obtain ⟨b1, b2, b3, b4⟩ := hb
  refine ⟨_, m_adds b1 hl, ⟨by rw [ro_at, up_at, List.length_append]; rfl, fun k hk => ?_, by rw [List.length_append, List.length_singleton]; omega, fun k hk => ?_⟩, Fr_tr (Fr_ro _ (by decide) (by decide)) ⟨fun q h0 _ => ro_ne _ _ h0, fun q hq => by
    rw [ro_at, ro_ne _ _ (by decide)]
    exact up_ne _ _ (fun e => hq (by rw [e]; decide))⟩⟩
  · rw [ro_ne _ _ (by decide), ro_at]
    rw [List.length_append, List.length_singleton] at hk
    by_cases q : k = o.length
    · rw [q, up_at, gD_r (Nat.le_refl _), Nat.sub_self]
      rfl
    · rw [up_ne _ _ q, gD_l (by omega)]
      exact b2 k (by omega)
  · rw [List.length_append, List.length_singleton] at hk
    by_cases q : k = o.length
    · rw [q, gD_r (Nat.le_refl _), Nat.sub_self]
      exact hc
    · rw [gD_l (by omega)]
      exact b4 k (by omega)
/-- signs that wait are added -/
theorem m_br2 {e : Nat} (he : e = 4 ∨ e = 5) : ∀ (w o : List Nat) (M : Nat → Nat → Int32) (L : Nat), Blt M o → WT M w → o.length + w.length ≤ 130 → w.length + 1 < L →
    ∃ M', lp (b_X12_brings_2 (ma n 0) (nI e)) L (nI 1, E n h A M R) = some ((), E n h A M' R) ∧ Blt M' (brg e o w).1 ∧ WT M' (brg e o w).2 ∧ Fr [5] [9, 16] M M' := by
  intro w
  induction w with
  | nil =>
    intro o M L hb hw hl hL
    obtain ⟨L, rfl⟩ : ∃ L', L = L' + 1 := ⟨L - 1, by omega⟩
    refine ⟨M, ?_, hb, hw, Fr_rf _ _ _⟩
    have w1 := hw.1
    unfold lp b_X12_brings_2 b0_X12_brings_2 g_X12_brings_52 g_X12_brings_53
    rw [List.length_nil] at w1
    simp (disch := omega) only [↓grd_u, ↓bnd_e, ↓orf_u, ↓oif_u, ↓cal_u, ↓calX_u, ↓inrO_u, ↓reduceIte, EM, EMg, EMs, z0, oi, n_inbT, n_cntT, n_ltT, n_ltF, n_leT, n_leF, n_eqT, n_eqF, n_m1T, n_m1F, n_m1F', n_cl, n_add, n_mul, ro_at, ro_ro, up_at, up_up, w1]
  | cons t w ih =>
    intro o M L hb hw hl hL
    obtain ⟨L, rfl⟩ : ∃ L', L = L' + 1 := ⟨L - 1, by omega⟩
    have w1 := hw.1
    rw [List.length_cons] at w1 hl hL
    have w3 := hw.2.2 0 (Nat.succ_pos _)
    have w80 := hw.2.1
    rw [List.length_cons] at w3 w80
    obtain ⟨w3, w4⟩ := w3
    have w3 : M 7 w.length = nI t := by
      rw [show w.length + 1 - 1 - 0 = w.length by omega] at w3
      exact w3
    have w4 : t < 10 := w4
    by_cases q : t = 4 ∨ (t = 5 ∧ e = 5)
    · have eb : brg e o (t :: w) = brg e (o ++ [t]) w := if_pos q
      obtain ⟨M0, hM0⟩ : ∃ M0, M0 = ro M 0 (up (M 0) 16 (nI w.length)) := ⟨_, rfl⟩
      have f0 : Fr [5] [9, 16] M M0 := by rw [hM0]; exact Fr_r0 _ (by decide)
      have q0 : Blt M0 o := Blt_fr hb (by rw [hM0, ro_at, up_ne _ _ (by decide)]) (by rw [hM0, ro_ne _ _ (by decide)])
      have v0 : M0 0 16 = nI w.length := by rw [hM0, ro_at, up_at]
      have u0 : M0 7 w.length = nI t := by rw [hM0, ro_ne _ _ (by decide)]; exact w3
      obtain ⟨M1, e1, b1, f1⟩ := m_addsO (n := n) (h := h) (A := A) (R := R) (c := t) q0 (by omega) (by omega)
      have hw0 : WT M0 w := WT_pop hw (by rw [hM0, ro_at, up_at]) (by rw [hM0, ro_ne _ _ (by decide)])
      have hw1 : WT M1 w := WT_fr hw0 (f1.2 _ (by decide)) (f1.1 _ (by decide) (by decide))
      obtain ⟨M', e2, b2, w2, f2⟩ := ih (o ++ [t]) M1 L b1 hw1 (by rw [List.length_append, List.length_singleton]; omega) (by omega)
      refine ⟨M', ?_, by rw [eb]; exact b2, by rw [eb]; exact w2, Fr_tr f0 (Fr_tr (Fr_wk f1 (by decide) (by decide)) f2)⟩
      unfold lp
      have es : b_X12_brings_2 (ma n 0) (nI e) (nI 1, E n h A M R) = some (.inl (nI 1, E n h A M1 R)) := by
        unfold b_X12_brings_2 b0_X12_brings_2 g_X12_brings_48 g_X12_brings_52 g_X12_brings_53
        rcases q with q | ⟨q, q5⟩
        · rw [q] at w3 e1 u0
          simp (disch := omega) only [↓grd_u, ↓bnd_e, ↓orf_u, ↓oif_u, ↓cal_u, ↓calX_u, ↓inrO_u, ↓reduceIte, EM, EMg, EMs, z0, oi, n_inbT, n_cntT, n_ltT, n_ltF, n_leT, n_leF, n_eqT, n_eqF, n_m1T, n_m1F, n_m1F', n_cl, n_add, n_mul, ro_at, ro_ro, up_at, up_up, w1, n_sub, Nat.add_sub_cancel, w3, ro_ne, ← hM0, v0, u0, e1]
        · rw [q] at w3 e1 u0
          rw [q5]
          simp (disch := omega) only [↓grd_u, ↓bnd_e, ↓orf_u, ↓oif_u, ↓cal_u, ↓calX_u, ↓inrO_u, ↓reduceIte, EM, EMg, EMs, z0, oi, n_inbT, n_cntT, n_ltT, n_ltF, n_leT, n_leF, n_eqT, n_eqF, n_m1T, n_m1F, n_m1F', n_cl, n_add, n_mul, ro_at, ro_ro, up_at, up_up, w1, n_sub, Nat.add_sub_cancel, w3, ro_ne, ← hM0, v0, u0, e1]
      rw [es]
      exact e2
    · have eb : brg e o (t :: w) = (o, t :: w) := if_neg q
      refine ⟨M, ?_, by rw [eb]; exact hb, by rw [eb]; exact hw, Fr_rf _ _ _⟩
      unfold lp b_X12_brings_2 b0_X12_brings_2 g_X12_brings_48 g_X12_brings_52 g_X12_brings_53
      by_cases q5 : t = 5
      · have qe : e = 4 := by omega
        rw [q5] at w3
        rw [qe]
        simp (disch := omega) only [↓grd_u, ↓bnd_e, ↓orf_u, ↓oif_u, ↓cal_u, ↓calX_u, ↓inrO_u, ↓reduceIte, EM, EMg, EMs, z0, oi, n_inbT, n_cntT, n_ltT, n_ltF, n_leT, n_leF, n_eqT, n_eqF, n_m1T, n_m1F, n_m1F', n_cl, n_add, n_mul, ro_at, ro_ro, up_at, up_up, w1, n_sub, Nat.add_sub_cancel, w3]
      · simp (disch := omega) only [↓grd_u, ↓bnd_e, ↓orf_u, ↓oif_u, ↓cal_u, ↓calX_u, ↓inrO_u, ↓reduceIte, EM, EMg, EMs, z0, oi, n_inbT, n_cntT, n_ltT, n_ltF, n_leT, n_leF, n_eqT, n_eqF, n_m1T, n_m1F, n_m1F', n_cl, n_add, n_mul, ro_at, ro_ro, up_at, up_up, w1, n_sub, Nat.add_sub_cancel, w3]
theorem m_brings {e : Nat} (he : e = 4 ∨ e = 5) (hb : Blt M o) (hw : WT M w) (hl : o.length + w.length ≤ 130) : ∃ M', f_X12_brings (ma n 0) (nI e) (E n h A M R) = some ((), E n h A M' R) ∧ Blt M' (brg e o w).1 ∧ WT M' (brg e o w).2 ∧ Fr [5] [9, 16] M M' := by
  have := hw.2.1
  obtain ⟨M', e1, r⟩ := m_br2 (n := n) (h := h) (A := A) (R := R) he w o M 100000 hb hw hl (by omega)
  exact ⟨M', e1, r⟩
end MRD
