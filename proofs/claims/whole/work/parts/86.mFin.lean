/-! the reference: has a pattern finitely many words -/
def infG (g : Glu) : Prop := ∃ k, gL g ≤ k ∧ ek (gnext g) (gab g) k 128 = true
def ZR (M : Nat → Nat → Int32) (r : Nat) (Z : Nat → Bool) : Prop := ∀ q, q < 129 → M r q = nI (b2 (Z q))
theorem b2_t {b : Bool} (h : b = true) : b2 b = 1 := by rw [h]; rfl
theorem b2_f {b : Bool} (h : ¬ b = true) : b2 b = 0 := by
  cases b with
  | true => exact absurd rfl h
  | false => rfl
section MFIN
variable {n : Nat} {h : mH} {A M : Nat → Nat → Int32} {R : Nat → Nat → Option Nat} {S : St} {g : Glu}
theorem m_fi113 {v2 x : Nat} {Z Z0 : Nat → Bool} (ok : GluOK g) (au : AutM M 0 g) (hx : x < 129) (hZ : ZR M 27 Z) (hZ0 : ZR M 28 Z0) :
    ∃ M' Z1, g_X12_isFinite_113 (ma n 0) (nI v2) (nI x) (nI 0) (E n h A M R) = some (.inl (nI (x + 1), E n h A M' R)) ∧ ZR M' 28 Z1 ∧ (∀ q, Z1 q = true ↔ Z0 q = true ∨ (Z x = true ∧ ∃ c, c < 3 ∧ gnext g x c = q)) ∧ Fr [28] [] M M' := by
  have key : ∃ r, g_X12_isFinite_113 (ma n 0) (nI v2) (nI x) (nI 0) (E n h A M R) = some r ∧ ∃ M' Z1, r = .inl (nI (x + 1), E n h A M' R) ∧ ZR M' 28 Z1 ∧ (∀ q, Z1 q = true ↔ Z0 q = true ∨ (Z x = true ∧ ∃ c, c < 3 ∧ gnext g x c = q)) ∧ Fr [28] [] M M' := by
    unfold g_X12_isFinite_113
    refine lp_inv0 (f := b_X12_isFinite_113 (ma n 0) (nI v2) (nI x)) (fun c s' => ∃ M1 Z1, s' = (nI c, E n h A M1 R) ∧ ZR M1 28 Z1 ∧ (∀ q, Z1 q = true ↔ Z0 q = true ∨ (Z x = true ∧ ∃ d, d < c ∧ gnext g x d = q)) ∧ Fr [28] [] M M1) _ 3 (fun c s' hc hI => ?_) (L := 100000) (by decide) ⟨M, Z0, rfl, hZ0, fun q => ⟨Or.inl, fun z => z.elim id (fun ⟨_, d, hd, _⟩ => absurd hd (Nat.not_lt_zero _))⟩, Fr_rf _ _ _⟩
    obtain ⟨M1, Z1, rfl, q1, q2, fr1⟩ := hI
    have hz : M1 27 x = nI (b2 (Z x)) := by rw [fr1.1 27 (by decide) (by decide)]; exact hZ x hx
    unfold b_X12_isFinite_113 b0_X12_isFinite_113 g_X12_isFinite_148
    by_cases hc3 : c < 3
    · have to := m_to (n := n) (h := h) (A := A) (R := R) (AutM_keep au fr1 (by decide)) (by decide : 0 < 2) hx hc3
      have tl : gnext g x c < 129 := gB_nx ok _ _ hx hc3
      by_cases e : Z x = true
      · rw [b2_t e] at hz
        refine Or.inl ⟨(nI (c + 1), E n h A (ro M1 28 (up (M1 28) (gnext g x c) (nI 1))) R), ?_, hc3, _, fun q => Z1 q || decide (q = gnext g x c), rfl, fun q hq => ?_, fun q => ?_, Fr_tr fr1 (Fr_ro (r := 28) _ (by decide) (by decide))⟩
        · simp (disch := omega) only [↓grd_u, ↓bnd_e, ↓orf_u, ↓oif_u, ↓cal_u, ↓calX_u, ↓inrO_u, ↓reduceIte, EM, EMg, EMs, z0, oi, n_inbT, n_cntT, n_ltT, n_ltF, n_leT, n_leF, n_eqT, n_eqF, n_m1T, n_m1F, n_m1F', n_cl, n_add, n_mul, ro_at, ro_ro, up_at, up_up, ro_ne, up_ne, ro_sw, hz, to]
        · rw [ro_at]
          by_cases eq : q = gnext g x c
          · rw [eq, up_at, b2_t (by simp)]
          · rw [up_ne _ _ eq, q1 q hq]
            show nI (b2 (Z1 q)) = nI (b2 (Z1 q || decide (q = gnext g x c)))
            rw [decide_eq_false eq, Bool.or_false]
        · show (Z1 q || decide (q = gnext g x c)) = true ↔ _
          rw [Bool.or_eq_true, q2, decide_eq_true_eq]
          constructor
          · rintro ((z | ⟨z, d, d1, d2⟩) | z)
            · exact Or.inl z
            · exact Or.inr ⟨z, d, by omega, d2⟩
            · exact Or.inr ⟨e, c, by omega, z.symm⟩
          · rintro (z | ⟨z, d, d1, d2⟩)
            · exact Or.inl (Or.inl z)
            · by_cases ed : d = c
              · rw [ed] at d2; exact Or.inr d2.symm
              · exact Or.inl (Or.inr ⟨z, d, by omega, d2⟩)
      · rw [b2_f e] at hz
        refine Or.inr ⟨.inl (nI (x + 1), E n h A M1 R), ?_, M1, Z1, rfl, q1, fun q => ?_, fr1⟩
        · simp (disch := omega) only [↓grd_u, ↓bnd_e, ↓orf_u, ↓oif_u, ↓cal_u, ↓calX_u, ↓inrO_u, ↓reduceIte, EM, EMg, EMs, z0, oi, n_inbT, n_cntT, n_ltT, n_ltF, n_leT, n_leF, n_eqT, n_eqF, n_m1T, n_m1F, n_m1F', n_cl, n_add, n_mul, ro_at, ro_ro, up_at, up_up, hz]
        · rw [q2]
          exact ⟨fun z => z.elim Or.inl (fun y => absurd y.1 e), fun z => z.elim Or.inl (fun y => absurd y.1 e)⟩
    · have hce : c = 3 := by omega
      refine Or.inr ⟨.inl (nI (x + 1), E n h A M1 R), ?_, M1, Z1, rfl, q1, fun q => by rw [q2, hce], fr1⟩
      rw [hce]
      simp (disch := omega) only [↓grd_u, ↓bnd_e, ↓orf_u, ↓oif_u, ↓cal_u, ↓calX_u, ↓inrO_u, ↓reduceIte, EM, EMg, EMs, z0, oi, n_inbT, n_cntT, n_ltT, n_ltF, n_leT, n_leF, n_eqT, n_eqF, n_m1T, n_m1F, n_m1F', n_cl, n_add, n_mul, ro_at, ro_ro, up_at, up_up]
  obtain ⟨r, e, M', Z1, rfl, q⟩ := key
  exact ⟨M', Z1, e, q⟩
theorem m_fi103 {v2 : Nat} {Z : Nat → Bool} (ok : GluOK g) (au : AutM M 0 g) (hv : v2 < 1000) (hZ : ZR M 27 Z) (hZ0 : ZR M 28 (fun _ => false)) :
    ∃ M' Z', g_X12_isFinite_103 (ma n 0) (nI v2) (nI 0) (E n h A M R) = some (.inl (nI (v2 + 1), E n h A M' R)) ∧ ZR M' 27 Z' ∧ (∀ q, Z' q = true ↔ ∃ x c, x < 129 ∧ c < 3 ∧ Z x = true ∧ gnext g x c = q) ∧ Fr [27, 28] [] M M' := by
  have key : ∃ r, g_X12_isFinite_103 (ma n 0) (nI v2) (nI 0) (E n h A M R) = some r ∧ ∃ M' Z', r = .inl (nI (v2 + 1), E n h A M' R) ∧ ZR M' 27 Z' ∧ (∀ q, Z' q = true ↔ ∃ x c, x < 129 ∧ c < 3 ∧ Z x = true ∧ gnext g x c = q) ∧ Fr [27, 28] [] M M' := by
    unfold g_X12_isFinite_103
    refine lp_inv0 (f := b_X12_isFinite_103 (ma n 0) (nI v2)) (fun k s' => ∃ M1 Z1, s' = (nI k, E n h A M1 R) ∧ ZR M1 28 Z1 ∧ (∀ q, Z1 q = true ↔ ∃ x c, x < k ∧ c < 3 ∧ Z x = true ∧ gnext g x c = q) ∧ Fr [28] [] M M1) _ 129 (fun k s' hk hI => ?_) (L := 100000) (by decide) ⟨M, fun _ => false, rfl, hZ0, fun q => ⟨fun z => (Bool.noConfusion z), fun ⟨x, c, hx, _⟩ => absurd hx (Nat.not_lt_zero _)⟩, Fr_rf _ _ _⟩
    obtain ⟨M1, Z1, rfl, q1, q2, fr1⟩ := hI
    unfold b_X12_isFinite_103 b0_X12_isFinite_103
    by_cases hk9 : k < 129
    · obtain ⟨M2, Z2, e2, r1, r2, fr2⟩ := m_fi113 (n := n) (h := h) (A := A) (R := R) (v2 := v2) ok (AutM_keep au fr1 (by decide)) hk9 (Z := Z) (fun q hq => by rw [fr1.1 27 (by decide) (by decide)]; exact hZ q hq) q1
      refine Or.inl ⟨(nI (k + 1), E n h A M2 R), by simp (disch := omega) only [↓grd_u, ↓bnd_e, ↓orf_u, ↓oif_u, ↓cal_u, ↓calX_u, ↓inrO_u, ↓reduceIte, EM, EMg, EMs, z0, oi, n_inbT, n_cntT, n_ltT, n_ltF, n_leT, n_leF, n_eqT, n_eqF, n_m1T, n_m1F, n_m1F', n_cl, n_add, n_mul, ro_at, ro_ro, up_at, up_up, e2], hk9, M2, Z2, rfl, r1, fun q => ?_, Fr_tr fr1 fr2⟩
      rw [r2, q2]
      constructor
      · rintro (⟨x, c, y1, y2⟩ | ⟨y1, c, y2, y3⟩)
        · exact ⟨x, c, by omega, y2⟩
        · exact ⟨k, c, by omega, y2, y1, y3⟩
      · rintro ⟨x, c, y1, y2, y3, y4⟩
        by_cases ex : x = k
        · rw [ex] at y3 y4; exact Or.inr ⟨y3, c, y2, y4⟩
        · exact Or.inl ⟨x, c, by omega, y2, y3, y4⟩
    · have hke : k = 129 := by omega
      obtain ⟨M2, hM2⟩ : ∃ M2, M2 = ro M1 27 (pre 129 (fun j => M1 28 j) (M1 27)) := ⟨_, rfl⟩
      have hcp : g_X12_isFinite_156 (ma n 0) (nI v2) (nI 0) (E n h A M1 R) = some (.inl (nI (v2 + 1), E n h A M2 R)) := by
        unfold g_X12_isFinite_156
        have hl := lp_for0 (f := b_X12_isFinite_156 (ma n 0) (nI v2)) (fun k => (nI k, E n h A (ro M1 27 (pre k (fun j => M1 28 j) (M1 27))) R)) 129 (.inl (nI (v2 + 1), E n h A M2 R)) (fun k hk => ?_) ?_ (L := 100000) (by decide)
        · simp only [pre_0, ro_self] at hl
          exact hl
        · unfold b_X12_isFinite_156 b0_X12_isFinite_156
          simp (disch := omega) only [↓grd_u, ↓bnd_e, ↓orf_u, ↓oif_u, ↓cal_u, ↓calX_u, ↓inrO_u, ↓reduceIte, EM, EMg, EMs, z0, oi, n_inbT, n_cntT, n_ltT, n_ltF, n_leT, n_leF, n_eqT, n_eqF, n_m1T, n_m1F, n_m1F', n_cl, n_add, n_mul, ro_at, ro_ro, up_at, up_up, ro_ne, up_ne, ro_sw]
          rw [← up_pre]
        · unfold b_X12_isFinite_156 b0_X12_isFinite_156
          simp (disch := omega) only [↓grd_u, ↓bnd_e, ↓orf_u, ↓oif_u, ↓cal_u, ↓calX_u, ↓inrO_u, ↓reduceIte, EM, EMg, EMs, z0, oi, n_inbT, n_cntT, n_ltT, n_ltF, n_leT, n_leF, n_eqT, n_eqF, n_m1T, n_m1F, n_m1F', n_cl, n_add, n_mul, ro_at, ro_ro, up_at, up_up, ← hM2]
      refine Or.inr ⟨.inl (nI (v2 + 1), E n h A M2 R), ?_, M2, Z1, rfl, fun q hq => ?_, fun q => by rw [q2, hke], Fr_tr (Fr_wk fr1 (by decide) (by decide)) (by rw [hM2]; exact Fr_ro (r := 27) _ (by decide) (by decide))⟩
      · rw [hke]
        simp (disch := omega) only [↓grd_u, ↓bnd_e, ↓orf_u, ↓oif_u, ↓cal_u, ↓calX_u, ↓inrO_u, ↓reduceIte, EM, EMg, EMs, z0, oi, n_inbT, n_cntT, n_ltT, n_ltF, n_leT, n_leF, n_eqT, n_eqF, n_m1T, n_m1F, n_m1F', n_cl, n_add, n_mul, ro_at, ro_ro, up_at, up_up, hcp]
      · rw [hM2, ro_at, pre_lt _ _ hq]
        exact q1 q hq
  obtain ⟨r, e, M', Z', rfl, q⟩ := key
  exact ⟨M', Z', e, q⟩
theorem m_fi189 {Z : Nat → Bool} {F : Nat → Nat} (ok : GluOK g) (f1 : FaR M g F) (hZ : ZR M 27 Z) (hr : ∀ q, Z q = true → ∃ j, j < gL g ∧ q = gO g j) :
    ∃ v, g_X12_isFinite_189 (ma n 0) (nI 0) (E n h A M R) = some (nI v, E n h A M R) ∧ ((v = 0 ∧ ∃ q, Z q = true ∧ F q < 999) ∨ (v = 1 ∧ ∀ q, q < 129 → Z q = true → F q = 999)) := by
  have key : ∃ r, g_X12_isFinite_189 (ma n 0) (nI 0) (E n h A M R) = some r ∧ ∃ v, r = (nI v, E n h A M R) ∧ ((v = 0 ∧ ∃ q, Z q = true ∧ F q < 999) ∨ (v = 1 ∧ ∀ q, q < 129 → Z q = true → F q = 999)) := by
    unfold g_X12_isFinite_189
    refine lp_inv0 (f := b_X12_isFinite_189 (ma n 0)) (fun k s' => s' = (nI k, E n h A M R) ∧ ∀ q, q < k → Z q = true → F q = 999) _ 129 (fun k s' hk hI => ?_) (L := 100000) (by decide) ⟨rfl, fun q hq => absurd hq (Nat.not_lt_zero _)⟩
    obtain ⟨rfl, hno⟩ := hI
    unfold b_X12_isFinite_189 b0_X12_isFinite_189 g_X12_isFinite_219
    by_cases hk9 : k < 129
    · have hz := hZ k hk9
      by_cases e : Z k = true
      · rw [b2_t e] at hz
        obtain ⟨j, j1, j2⟩ := hr k e
        obtain ⟨a1, a2, -⟩ := f1 j j1
        rw [← j2] at a1 a2
        by_cases e9 : F k < 999
        · exact Or.inr ⟨(nI 0, E n h A M R), by simp (disch := omega) only [↓grd_u, ↓bnd_e, ↓orf_u, ↓oif_u, ↓cal_u, ↓calX_u, ↓inrO_u, ↓reduceIte, EM, EMg, EMs, z0, oi, n_inbT, n_cntT, n_ltT, n_ltF, n_leT, n_leF, n_eqT, n_eqF, n_m1T, n_m1F, n_m1F', n_cl, n_add, n_mul, ro_at, ro_ro, up_at, up_up, hz, a1], 0, rfl, Or.inl ⟨rfl, k, e, e9⟩⟩
        · refine Or.inl ⟨(nI (k + 1), E n h A M R), by simp (disch := omega) only [↓grd_u, ↓bnd_e, ↓orf_u, ↓oif_u, ↓cal_u, ↓calX_u, ↓inrO_u, ↓reduceIte, EM, EMg, EMs, z0, oi, n_inbT, n_cntT, n_ltT, n_ltF, n_leT, n_leF, n_eqT, n_eqF, n_m1T, n_m1F, n_m1F', n_cl, n_add, n_mul, ro_at, ro_ro, up_at, up_up, hz, a1], hk9, rfl, fun q hq hz => ?_⟩
          by_cases ek : q = k
          · rw [ek]; omega
          · exact hno q (by omega) hz
      · rw [b2_f e] at hz
        refine Or.inl ⟨(nI (k + 1), E n h A M R), by simp (disch := omega) only [↓grd_u, ↓bnd_e, ↓orf_u, ↓oif_u, ↓cal_u, ↓calX_u, ↓inrO_u, ↓reduceIte, EM, EMg, EMs, z0, oi, n_inbT, n_cntT, n_ltT, n_ltF, n_leT, n_leF, n_eqT, n_eqF, n_m1T, n_m1F, n_m1F', n_cl, n_add, n_mul, ro_at, ro_ro, up_at, up_up, hz], hk9, rfl, fun q hq hz => ?_⟩
        by_cases ek : q = k
        · rw [ek] at hz; exact absurd hz e
        · exact hno q (by omega) hz
    · have hke : k = 129 := by omega
      refine Or.inr ⟨(nI 1, E n h A M R), ?_, 1, rfl, Or.inr ⟨rfl, fun q hq => hno q (by omega)⟩⟩
      rw [hke]
      simp (disch := omega) only [↓grd_u, ↓bnd_e, ↓orf_u, ↓oif_u, ↓cal_u, ↓calX_u, ↓inrO_u, ↓reduceIte, EM, EMg, EMs, z0, oi, n_inbT, n_cntT, n_ltT, n_ltF, n_leT, n_leF, n_eqT, n_eqF, n_m1T, n_m1F, n_m1F', n_cl, n_add, n_mul, ro_at, ro_ro, up_at, up_up]
  obtain ⟨r, e, v, rfl, q⟩ := key
  exact ⟨v, e, q⟩
def ExL (g : Glu) (t q : Nat) : Prop := ∃ w, le3 w ∧ w.length = t ∧ rn (gnext g) 128 w = q
theorem ExL_s {t q : Nat} (ok : GluOK g) : ExL g (t + 1) q ↔ ∃ x c, x < 129 ∧ c < 3 ∧ ExL g t x ∧ gnext g x c = q := by
  constructor
  · rintro ⟨w, w1, w2, w3⟩
    have hne : w ≠ [] := fun z => by rw [z] at w2; simp at w2
    have ew := List.dropLast_concat_getLast hne
    refine ⟨rn (gnext g) 128 w.dropLast, w.getLast hne, grn_lt ok _, w1 _ (List.getLast_mem hne), ⟨w.dropLast, fun c hc => w1 c (List.dropLast_subset _ hc), by rw [List.length_dropLast]; omega, rfl⟩, ?_⟩
    have hs := rn_snoc (nx := gnext g) (q := 128) w.dropLast (w.getLast hne)
    rw [← hs, ew, w3]
  · rintro ⟨x, c, -, hc, ⟨w, w1, w2, w3⟩, e⟩
    exact ⟨w ++ [c], le3_app w1 (fun d hd => by rw [List.mem_singleton.mp hd]; exact hc), by rw [List.length_append, w2]; rfl, by rw [rn_snoc, w3, e]⟩
theorem ExL_O {t q : Nat} (ok : GluOK g) (h : ExL g t q) : ∃ j, j < gL g ∧ q = gO g j := by
  induction t generalizing q with
  | zero =>
    obtain ⟨w, w1, w2, w3⟩ := h
    have : w = [] := List.length_eq_zero_iff.mp w2
    rw [this, rn_nil] at w3
    exact ⟨0, gL_pos g, by rw [gO_0, w3]⟩
  | succ t ih =>
    obtain ⟨x, c, -, hc, hx, e⟩ := (ExL_s ok).mp h
    obtain ⟨j, j1, j2⟩ := ih hx
    obtain ⟨s1, s2⟩ := gS_ok ok j1 hc
    exact ⟨gS g j c, s1, by rw [s2, ← j2, e]⟩
theorem m_fi71 {F : Nat → Nat} (ok : GluOK g) (au : AutM M 0 g) (hre : M 0 36 = nI (gL g)) (f1 : FaR M g F) (hZ : ZR M 27 (fun q => decide (q = 128))) :
    ∃ v M', ∃ Z : Nat → Bool, g_X12_isFinite_71 (ma n 0) (nI 0) (E n h A M R) = some (nI v, E n h A M' R) ∧ (∀ q, Z q = true ↔ ExL g (gL g) q) ∧ ((v = 0 ∧ ∃ q, Z q = true ∧ F q < 999) ∨ (v = 1 ∧ ∀ q, q < 129 → Z q = true → F q = 999)) ∧ Fr [27, 28] [] M M' := by
  have hL := gL_le ok
  have key : ∃ r, g_X12_isFinite_71 (ma n 0) (nI 0) (E n h A M R) = some r ∧ ∃ v M', ∃ Z : Nat → Bool, r = (nI v, E n h A M' R) ∧ (∀ q, Z q = true ↔ ExL g (gL g) q) ∧ ((v = 0 ∧ ∃ q, Z q = true ∧ F q < 999) ∨ (v = 1 ∧ ∀ q, q < 129 → Z q = true → F q = 999)) ∧ Fr [27, 28] [] M M' := by
    unfold g_X12_isFinite_71
    refine lp_inv0 (f := b_X12_isFinite_71 (ma n 0)) (fun t s' => ∃ M1, ∃ Z : Nat → Bool, s' = (nI t, E n h A M1 R) ∧ ZR M1 27 Z ∧ (∀ q, Z q = true ↔ ExL g t q) ∧ Fr [27, 28] [] M M1) _ (gL g) (fun t s' ht hI => ?_) (L := 100000) (by omega) ⟨M, fun q => decide (q = 128), rfl, hZ, fun q => ?_, Fr_rf _ _ _⟩
    · obtain ⟨M1, Z, rfl, q1, q2, fr1⟩ := hI
      have hre1 : M1 0 36 = nI (gL g) := by rw [fr1.2 _ (by decide)]; exact hre
      unfold b_X12_isFinite_71 b0_X12_isFinite_71
      by_cases htL : t < gL g
      · obtain ⟨M2, hM2⟩ : ∃ M2, M2 = ro M1 28 (pre 129 (fun _ => nI 0) (M1 28)) := ⟨_, rfl⟩
        have fr2 : Fr [27, 28] [] M1 M2 := by rw [hM2]; exact Fr_ro (r := 28) _ (by decide) (by decide)
        obtain ⟨M3, Z', e3, r1, r2, fr3⟩ := m_fi103 (n := n) (h := h) (A := A) (R := R) (v2 := t) (Z := Z) ok (AutM_keep (AutM_keep au fr1 (by decide)) fr2 (by decide)) (by omega) (fun q hq => by rw [hM2, ro_ne _ _ (by decide)]; exact q1 q hq) (fun q hq => by rw [hM2, ro_at, pre_lt _ _ hq]; rfl)
        have hcl : g_X12_isFinite_81 (ma n 0) (nI t) (nI 0) (E n h A M1 R) = some (.inl (nI (t + 1), E n h A M3 R)) := by
          unfold g_X12_isFinite_81
          have hl := lp_for0 (f := b_X12_isFinite_81 (ma n 0) (nI t)) (fun k => (nI k, E n h A (ro M1 28 (pre k (fun _ => nI 0) (M1 28))) R)) 129 (.inl (nI (t + 1), E n h A M3 R)) (fun k hk => ?_) ?_ (L := 100000) (by decide)
          · simp only [pre_0, ro_self] at hl
            exact hl
          · unfold b_X12_isFinite_81 b0_X12_isFinite_81
            simp (disch := omega) only [↓grd_u, ↓bnd_e, ↓orf_u, ↓oif_u, ↓cal_u, ↓calX_u, ↓inrO_u, ↓reduceIte, EM, EMg, EMs, z0, oi, n_inbT, n_cntT, n_ltT, n_ltF, n_leT, n_leF, n_eqT, n_eqF, n_m1T, n_m1F, n_m1F', n_cl, n_add, n_mul, ro_at, ro_ro, up_at, up_up, ro_ne, up_ne, ro_sw]
            rw [← up_pre]
          · unfold b_X12_isFinite_81 b0_X12_isFinite_81
            rw [← hM2]
            simp (disch := omega) only [↓grd_u, ↓bnd_e, ↓orf_u, ↓oif_u, ↓cal_u, ↓calX_u, ↓inrO_u, ↓reduceIte, EM, EMg, EMs, z0, oi, n_inbT, n_cntT, n_ltT, n_ltF, n_leT, n_leF, n_eqT, n_eqF, n_m1T, n_m1F, n_m1F', n_cl, n_add, n_mul, ro_at, ro_ro, up_at, up_up, e3]
        refine Or.inl ⟨(nI (t + 1), E n h A M3 R), by simp (disch := omega) only [↓grd_u, ↓bnd_e, ↓orf_u, ↓oif_u, ↓cal_u, ↓calX_u, ↓inrO_u, ↓reduceIte, EM, EMg, EMs, z0, oi, n_inbT, n_cntT, n_ltT, n_ltF, n_leT, n_leF, n_eqT, n_eqF, n_m1T, n_m1F, n_m1F', n_cl, n_add, n_mul, ro_at, ro_ro, up_at, up_up, hre1, hcl], htL, M3, Z', rfl, r1, fun q => ?_, Fr_tr fr1 (Fr_tr fr2 fr3)⟩
        rw [r2, ExL_s ok]
        constructor
        · rintro ⟨x, c, y1, y2, y3, y4⟩
          exact ⟨x, c, y1, y2, (q2 x).mp y3, y4⟩
        · rintro ⟨x, c, y1, y2, y3, y4⟩
          exact ⟨x, c, y1, y2, (q2 x).mpr y3, y4⟩
      · have hte : t = gL g := by omega
        obtain ⟨v, e9, hv⟩ := m_fi189 (n := n) (h := h) (A := A) (M := M1) (R := R) (F := F) ok (fun j hj => by rw [fr1.1 23 (by decide) (by decide)]; exact f1 j hj) q1 (fun q hq => ExL_O ok ((q2 q).mp hq))
        exact Or.inr ⟨(nI v, E n h A M1 R), by simp (disch := omega) only [↓grd_u, ↓bnd_e, ↓orf_u, ↓oif_u, ↓cal_u, ↓calX_u, ↓inrO_u, ↓reduceIte, EM, EMg, EMs, z0, oi, n_inbT, n_cntT, n_ltT, n_ltF, n_leT, n_leF, n_eqT, n_eqF, n_m1T, n_m1F, n_m1F', n_cl, n_add, n_mul, ro_at, ro_ro, up_at, up_up, hre1, e9], v, M1, Z, rfl, fun q => by rw [q2, hte], hv, fr1⟩
    · rw [decide_eq_true_eq]
      constructor
      · intro e
        exact ⟨[], le3_nil, rfl, by rw [rn_nil, e]⟩
      · rintro ⟨w, w1, w2, w3⟩
        have : w = [] := List.length_eq_zero_iff.mp w2
        rw [this, rn_nil] at w3
        exact w3.symm
  obtain ⟨r, e, v, M', Z, rfl, q⟩ := key
  exact ⟨v, M', Z, e, q⟩
theorem m_fi38 {F : Nat → Nat} (ok : GluOK g) (au : AutM M 0 g) (ri : RI M 0 (gB g)) (f1 : FaR M g F) (f2 : ∀ t, FaT g F t) :
    ∃ M', g_X12_isFinite_38 (ma n 0) (nI 0) (E n h A M R) = some (nI (pv (¬ infG g)), E n h A M' R) ∧ Fr [27, 28] [] M M' := by
  obtain ⟨M1, hM1⟩ : ∃ M1, M1 = ro M 27 (pre 129 (fun q => nI (b2 (decide (q = 128)))) (M 27)) := ⟨_, rfl⟩
  have fr1 : Fr [27, 28] [] M M1 := by rw [hM1]; exact Fr_ro (r := 27) _ (by decide) (by decide)
  obtain ⟨v, M2, Z, e2, hZ, hv, fr2⟩ := m_fi71 (n := n) (h := h) (A := A) (R := R) (F := F) ok (AutM_keep au fr1 (by decide)) (by rw [fr1.2 _ (by decide)]; exact ri_n ri) (fun j hj => by rw [fr1.1 23 (by decide) (by decide)]; exact f1 j hj) (fun q hq => by rw [hM1, ro_at, pre_lt _ _ hq])
  have hvp : v = pv (¬ infG g) := by
    rcases hv with ⟨rfl, q, hq, h9⟩ | ⟨rfl, hno⟩
    · obtain ⟨w, w1, w2, w3⟩ := (hZ q).mp hq
      obtain ⟨j, j1, j2⟩ := ExL_O ok ((hZ q).mp hq)
      have hek := (f1 j j1).2.2 (by rw [← j2]; exact h9)
      obtain ⟨u, u1, u2, u3⟩ := ek_w.mp hek
      refine (pv_F (fun hn => hn ⟨(w ++ u).length, ?_, ek_w.mpr ⟨w ++ u, le3_app w1 u1, rfl, ?_⟩⟩)).symm
      · rw [List.length_append]; omega
      · rw [rn_app, w3, j2]; exact u3
    · refine (pv_T (fun ⟨k, hk, hek⟩ => ?_)).symm
      obtain ⟨w, w1, w2, w3⟩ := ek_w.mp hek
      have hE : ExL g (gL g) (rn (gnext g) 128 (w.take (gL g))) := ⟨w.take (gL g), fun c hc => w1 c (List.take_subset _ _ hc), by rw [List.length_take]; omega, rfl⟩
      obtain ⟨j, j1, j2⟩ := ExL_O ok hE
      have hF := hno _ (by rw [j2]; exact gO_lt ok j) ((hZ _).mpr hE)
      have hek2 : ek (gnext g) (gab g) (k - gL g) (gO g j) = true := ek_w.mpr ⟨w.drop (gL g), fun c hc => w1 c (List.drop_subset _ _ hc), by rw [List.length_drop]; omega, by rw [← j2, ← rn_app, List.take_append_drop]; exact w3⟩
      have := (Fa_D ok f1 f2 j1 hek2).2
      rw [← j2] at this
      omega
  refine ⟨M2, ?_, Fr_tr fr1 fr2⟩
  unfold g_X12_isFinite_38
  rw [← hvp]
  have hl := lp_for0 (f := b_X12_isFinite_38 (ma n 0)) (fun k => (nI k, E n h A (ro M 27 (pre k (fun q => nI (b2 (decide (q = 128)))) (M 27))) R)) 129 (nI v, E n h A M2 R) (fun k hk => ?_) ?_ (L := 100000) (by decide)
  · simp only [pre_0, ro_self] at hl
    exact hl
  · unfold b_X12_isFinite_38 b0_X12_isFinite_38 g_X12_isFinite_62
    by_cases e : k = 128
    · have eb : b2 (decide (k = 128)) = 1 := by rw [decide_eq_true e]; rfl
      simp (disch := omega) only [↓grd_u, ↓bnd_e, ↓orf_u, ↓oif_u, ↓cal_u, ↓calX_u, ↓inrO_u, ↓reduceIte, EM, EMg, EMs, z0, oi, n_inbT, n_cntT, n_ltT, n_ltF, n_leT, n_leF, n_eqT, n_eqF, n_m1T, n_m1F, n_m1F', n_cl, n_add, n_mul, ro_at, ro_ro, up_at, up_up, ro_ne, up_ne, ro_sw]
      rw [← up_pre, eb]
    · have eb : b2 (decide (k = 128)) = 0 := by rw [decide_eq_false e]; rfl
      simp (disch := omega) only [↓grd_u, ↓bnd_e, ↓orf_u, ↓oif_u, ↓cal_u, ↓calX_u, ↓inrO_u, ↓reduceIte, EM, EMg, EMs, z0, oi, n_inbT, n_cntT, n_ltT, n_ltF, n_leT, n_leF, n_eqT, n_eqF, n_m1T, n_m1F, n_m1F', n_cl, n_add, n_mul, ro_at, ro_ro, up_at, up_up, ro_ne, up_ne, ro_sw]
      rw [← up_pre, eb]
  · unfold b_X12_isFinite_38 b0_X12_isFinite_38
    rw [← hM1]
    simp (disch := omega) only [↓grd_u, ↓bnd_e, ↓orf_u, ↓oif_u, ↓cal_u, ↓calX_u, ↓inrO_u, ↓reduceIte, EM, EMg, EMs, z0, oi, n_inbT, n_cntT, n_ltT, n_ltF, n_leT, n_leF, n_eqT, n_eqF, n_m1T, n_m1F, n_m1F', n_cl, n_add, n_mul, ro_at, ro_ro, up_at, up_up, e2]
theorem m_isFinite {v : Int32} (hi : IM M S) (hg : GoodS S) : MA n h A R (f_X12_isFinite (ma n 0) v (E n h A M R)) (aCnt S v (fun g => pv (¬ infG g))) := by
  have h0 : IM (ro M 0 (up (M 0) 0 (nI 0))) S := IM_thrown hi
  unfold f_X12_isFinite aCnt g_X12_isFinite_26
  rcases pat_cases S v with ⟨s, hs, rfl, hp, e⟩ | ⟨e, hc⟩
  · rw [e]
    obtain ⟨M', eo, au, ri, i, t, -⟩ := m_opens (n := n) (h := h) (A := A) (R := R) h0 hg hs hp
    have ok := good_glu hg hs hp
    obtain ⟨M2, F, e2, f1, f2, f3⟩ := m_findsFar (n := n) (h := h) (A := A) (R := R) ok au ri
    obtain ⟨M3, e3, f4⟩ := m_fi38 (n := n) (h := h) (A := A) (R := R) ok (AutM_keep au f3 (by decide)) (RI_fr ri f3 (by decide) (by decide) (by decide)) f1 f2
    refine ⟨M3, ?_, IM_fr (IM_fr i f3 (by decide) (by decide)) f4 (by decide) (by decide), by rw [f4.2 _ (by decide), f3.2 _ (by decide), t, ro_at, up_at]⟩
    simp (disch := omega) only [↓grd_u, ↓bnd_e, ↓orf_u, ↓oif_u, ↓cal_u, ↓calX_u, ↓inrO_u, ↓reduceIte, EM, EMg, EMs, z0, oi, n_inbT, n_cntT, n_ltT, n_ltF, n_leT, n_leF, n_eqT, n_eqF, n_m1T, n_m1F, n_m1F', n_cl, n_add, n_mul, ro_at, ro_ro, up_at, up_up, holdsT h0 hg hs hp]
    simp (disch := omega) only [↓grd_u, ↓bnd_e, ↓orf_u, ↓oif_u, ↓cal_u, ↓calX_u, ↓inrO_u, ↓reduceIte, EM, EMg, EMs, z0, oi, n_inbT, n_cntT, n_ltT, n_ltF, n_leT, n_leF, n_eqT, n_eqF, n_m1T, n_m1F, n_m1F', n_cl, n_add, n_mul, ro_at, ro_ro, up_at, up_up, eo]
    simp (disch := omega) only [↓grd_u, ↓bnd_e, ↓orf_u, ↓oif_u, ↓cal_u, ↓calX_u, ↓inrO_u, ↓reduceIte, EM, EMg, EMs, z0, oi, n_inbT, n_cntT, n_ltT, n_ltF, n_leT, n_leF, n_eqT, n_eqF, n_m1T, n_m1F, n_m1F', n_cl, n_add, n_mul, ro_at, ro_ro, up_at, up_up, e2]
    exact e3
  · have hh := m_holdsX (n := n) (h := h) (A := A) (R := R) h0 e hc
    rw [e]
    obtain ⟨M', e, i, t⟩ := m_failed (n := n) (h := h) (A := A) (R := R) (k := 1) h0
    refine ⟨M', ?_, i, t⟩
    simp (disch := omega) only [↓grd_u, ↓bnd_e, ↓orf_u, ↓oif_u, ↓cal_u, ↓calX_u, ↓inrO_u, ↓reduceIte, EM, EMg, EMs, z0, oi, n_inbT, n_cntT, n_ltT, n_ltF, n_leT, n_leF, n_eqT, n_eqF, n_m1T, n_m1F, n_m1F', n_cl, n_add, n_mul, ro_at, ro_ro, up_at, up_up, hh]
    simp (disch := omega) only [↓grd_u, ↓bnd_e, ↓orf_u, ↓oif_u, ↓cal_u, ↓calX_u, ↓inrO_u, ↓reduceIte, EM, EMg, EMs, z0, oi, n_inbT, n_cntT, n_ltT, n_ltF, n_leT, n_leF, n_eqT, n_eqF, n_m1T, n_m1F, n_m1F', n_cl, n_add, n_mul, ro_at, ro_ro, up_at, up_up, e, nz0]
end MFIN
