/-! the class: signs from the pile into the text -/
section CWRS
variable {n : Nat} {h : mH} {A M : Nat → Nat → Int32} {R : Nat → Nat → Option Nat} {S : St} {l : List Nat} {y cap : Nat}
def FrN (n : Nat) (h h' : mH) (A A' : Nat → Nat → Int32) (R R' : Nat → Nat → Option Nat) : Prop := Mono n h h' ∧ (∀ r, r ≠ 39 → r ≠ 40 → r ≠ 42 → r ≠ 43 → A' r = A r) ∧ ∀ r, r ≠ 42 → R' r = R r
theorem FrN_rf : FrN n h h A A R R := ⟨Mono_rf n h, fun _ _ _ _ _ => rfl, fun _ _ => rfl⟩
theorem FrN_tr {h' h'' : mH} {A' A'' : Nat → Nat → Int32} {R' R'' : Nat → Nat → Option Nat} (a : FrN n h h' A A' R R') (b : FrN n h' h'' A' A'' R' R'') : FrN n h h'' A A'' R R'' := ⟨Mono_tr a.1 b.1, fun r h1 h2 h3 h4 => (b.2.1 r h1 h2 h3 h4).trans (a.2.1 r h1 h2 h3 h4), fun r h1 => (b.2.2 r h1).trans (a.2.2 r h1)⟩
theorem FrN_L {h' : mH} {A' : Nat → Nat → Int32} {R' : Nat → Nat → Option Nat} (a : FrL n h h' A A' R R') : FrN n h h' A A' R R' := ⟨a.1, fun r _ _ h3 h4 => a.2.1 r h3 h4, a.2.2⟩
theorem FrN_A {A' : Nat → Nat → Int32} (a : ∀ r, r ≠ 39 → r ≠ 40 → A' r = A r) : FrN n h h A A' R R := ⟨Mono_rf n h, fun r h1 h2 _ _ => a r h1 h2, fun _ _ => rfl⟩
theorem Sb_39 {A' : Nat → Nat → Int32} (hs : Sb n h A R l y cap) (a : ∀ r, r ≠ 39 → r ≠ 40 → A' r = A r) : Sb n h A' R l y cap := by
  obtain ⟨s0, s1, s2, s3, s4, s5, s6, s7⟩ := hs
  have hrd : ∀ k, rdY n h A' y k = rdY n h A y k := fun k => by
    unfold rdY
    rw [a 43 (by decide) (by decide)]
  exact ⟨s0, by rw [a 42 (by decide) (by decide)]; exact s1, by rw [a 42 (by decide) (by decide)]; exact s2, s3, s4, s5, fun k hk => by rw [hrd]; exact s6 k hk, fun k => by rw [hrd]; exact s7 k⟩
theorem Pil_L {p : List Nat} {A' : Nat → Nat → Int32} (hp : Pil A p) (a : ∀ r, r ≠ 42 → r ≠ 43 → A' r = A r) : Pil A' p := by
  obtain ⟨p1, p2, p3⟩ := hp
  exact ⟨by rw [a 39 (by decide) (by decide)]; exact p1, p2, fun k hk => by rw [a 40 (by decide) (by decide)]; exact p3 k hk⟩
theorem c_ws5 : ∀ (p : List Nat) (L : Nat) (h : mH) (A : Nat → Nat → Int32) (R : Nat → Nat → Option Nat) (l : List Nat) (y cap : Nat), Pil A p → Sb n h A R l y cap → l.length + p.length ≤ 140 → p.length < L →
    ∃ h' A' R' y' cap' ch mh, lpC (b_X2_writeSigns_5 (ca n 39) (ca n 42)) L (nI p.length, E n h A M R) = some (((), E n h' A' M R'), ch, mh) ∧ Pil A' (flS p l).1 ∧ Sb n h' A' R' (flS p l).2 y' cap' ∧ FrN n h h' A A' R R' ∧ ch + fcC cap = fcC cap' ∧ mh + fcM cap = fcM cap' := by
  intro p
  induction p with
  | nil =>
    intro L h A R l y cap hp hs hl hL
    obtain ⟨L, rfl⟩ : ∃ L', L = L' + 1 := ⟨L - 1, by omega⟩
    refine ⟨h, A, R, y, cap, 0, 0, lpC_en ?_, hp, hs, FrN_rf, Nat.zero_add _, Nat.zero_add _⟩
    unfold b_X2_writeSigns_5 b0_X2_writeSigns_5 g_X2_writeSigns_42 inrC
    simp (disch := omega) only [↓grd_u, ↓bnd_e, ↓orf_u, ↓oif_u, ↓cal_u, ↓calX_u, ↓inrO_u, ↓reduceIte, EM, EMg, EMs, z0, oi, n_inbT, n_cntT, n_ltT, n_ltF, n_leT, n_leF, n_eqT, n_eqF, n_m1T, n_m1F, n_m1F', n_cl, n_add, n_mul, ro_at, ro_ro, up_at, up_up, List.length_nil]
  | cons t r ih =>
    intro L h A R l y cap hp hs hl hL
    have hl2 : (t :: r).length = r.length + 1 := rfl
    rw [hl2] at hl hL
    have ht := fun M => c_pTop (n := n) (h := h) (M := M) (R := R) hp
    have ht7 : t < 128 := (hp.2.2 0 (Nat.succ_pos _)).2
    obtain ⟨L, rfl⟩ : ∃ L', L = L' + 1 := ⟨L - 1, by omega⟩
    by_cases q : t = 40 ∨ t = 124
    · obtain ⟨A1, e1, g1, f1⟩ := c_pPop (n := n) (h := h) (M := M) (R := R) hp
      obtain ⟨h2, A2, R2, y2, cap2, ch2, mh2, e2, g2, f2, k1, k2⟩ := c_sbApp (M := M) (Sb_39 hs (fun r z _ => f1 r z)) (by omega) ht7
      obtain ⟨h3, A3, R3, y3, cap3, ch3, mh3, e3, g3, s3, f3, k3, k4⟩ := ih L h2 A2 R2 (l ++ [t]) y2 cap2 (Pil_L g1 f2.2.1) g2 (by rw [List.length_append, List.length_singleton]; omega) (by omega)
      have efl : flS (t :: r) l = flS r (l ++ [t]) := by
        show (if t = 40 ∨ t = 124 then flS r (l ++ [t]) else _) = _
        rw [if_pos q]
      have hdec := n_dec r.length
      refine ⟨h3, A3, R3, y3, cap3, ch3 + ch2, mh3 + mh2, ?_, by rw [efl]; exact g3, by rw [efl]; exact s3, FrN_tr (FrN_A (fun r z _ => f1 r z)) (FrN_tr (FrN_L f2) f3), by omega, by omega⟩
      rw [lpC_nx (s' := (nI r.length, E n h2 A2 M R2)) (c := ch2) (m := mh2), e3]
      · rfl
      · unfold b_X2_writeSigns_5 b0_X2_writeSigns_5 g_X2_writeSigns_27
        rw [hl2]
        rcases q with q | q
        · rw [q] at ht e1 e2
          simp (disch := omega) only [↓grd_u, ↓bnd_e, ↓orf_u, ↓oif_u, ↓cal_u, ↓calX_u, ↓inrO_u, ↓reduceIte, EM, EMg, EMs, z0, oi, n_inbT, n_cntT, n_ltT, n_ltF, n_leT, n_leF, n_eqT, n_eqF, n_m1T, n_m1F, n_m1F', n_cl, n_add, n_mul, ro_at, ro_ro, up_at, up_up, ↓calC_u, ↓adc_u, EC, ht, e1, e2, hdec, Nat.zero_add]
        · rw [q] at ht e1 e2
          simp (disch := omega) only [↓grd_u, ↓bnd_e, ↓orf_u, ↓oif_u, ↓cal_u, ↓calX_u, ↓inrO_u, ↓reduceIte, EM, EMg, EMs, z0, oi, n_inbT, n_cntT, n_ltT, n_ltF, n_leT, n_leF, n_eqT, n_eqF, n_m1T, n_m1F, n_m1F', n_cl, n_add, n_mul, ro_at, ro_ro, up_at, up_up, ↓calC_u, ↓adc_u, EC, ht, e1, e2, hdec, Nat.zero_add]
    · have efl : flS (t :: r) l = (t :: r, l) := by
        show (if t = 40 ∨ t = 124 then flS r (l ++ [t]) else _) = _
        rw [if_neg q]
      refine ⟨h, A, R, y, cap, 0, 0, lpC_en ?_, by rw [efl]; exact hp, by rw [efl]; exact hs, FrN_rf, Nat.zero_add _, Nat.zero_add _⟩
      unfold b_X2_writeSigns_5 b0_X2_writeSigns_5 g_X2_writeSigns_42 inrC
      rw [hl2]
      simp (disch := omega) only [↓grd_u, ↓bnd_e, ↓orf_u, ↓oif_u, ↓cal_u, ↓calX_u, ↓inrO_u, ↓reduceIte, EM, EMg, EMs, z0, oi, n_inbT, n_cntT, n_ltT, n_ltF, n_leT, n_leF, n_eqT, n_eqF, n_m1T, n_m1F, n_m1F', n_cl, n_add, n_mul, ro_at, ro_ro, up_at, up_up, EC, ht]
theorem c_writeSigns {p : List Nat} (hp : Pil A p) (hs : Sb n h A R l y cap) (hl : l.length + p.length ≤ 140) : ∃ h' A' R' y' cap' ch mh, f_X2_writeSigns (ca n 39) (ca n 42) (E n h A M R) = some (((), E n h' A' M R'), ch, mh) ∧ Pil A' (flS p l).1 ∧ Sb n h' A' R' (flS p l).2 y' cap' ∧ FrN n h h' A A' R R' ∧ ch + fcC cap = fcC cap' ∧ mh + fcM cap = fcM cap' := by
  have h100 := hp.2.1
  obtain ⟨h', A', R', y', cap', ch, mh, e, q⟩ := c_ws5 (n := n) (M := M) p 100000 h A R l y cap hp hs hl (by omega)
  refine ⟨h', A', R', y', cap', ch, mh, ?_, q⟩
  have p1 := hp.1
  have e : g_X2_writeSigns_5 (ca n 39) (ca n 42) (nI p.length) (E n h A M R) = some (((), E n h' A' M R'), ch, mh) := e
  unfold f_X2_writeSigns
  simp (disch := omega) only [↓grd_u, ↓bnd_e, ↓orf_u, ↓oif_u, ↓cal_u, ↓calX_u, ↓inrO_u, ↓reduceIte, EM, EMg, EMs, z0, oi, n_inbT, n_cntT, n_ltT, n_ltF, n_leT, n_leF, n_eqT, n_eqF, n_m1T, n_m1F, n_m1F', n_cl, n_add, n_mul, ro_at, ro_ro, up_at, up_up, EC, ECg, p1, e]
end CWRS
