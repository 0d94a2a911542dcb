/-! the reference: sets of pairs of states; the shortest word that tells two states apart -/
def SetM (M : Nat → Nat → Int32) (r : Nat) (Z : Nat → Nat → Bool) : Prop := ∀ q, q < 645 → ∃ v, M r q = nI v ∧ v < 2 ^ 30 ∧ ∀ t, t < 30 → v.testBit t = Z (q / 5) (30 * (q % 5) + t)
theorem and2p (v t : Nat) : v &&& 2 ^ t = 0 ↔ v.testBit t = false := by
  constructor
  · intro h
    have := congrArg (fun x => x.testBit t) h
    simp only [Nat.testBit_and, Nat.testBit_two_pow_self, Nat.zero_testBit, Bool.and_true] at this
    exact this
  · intro h
    apply Nat.eq_of_testBit_eq
    intro i
    rw [Nat.testBit_and, Nat.zero_testBit, Nat.testBit_two_pow]
    by_cases e : t = i
    · subst e; rw [h]; rfl
    · rw [decide_eq_false e, Bool.and_false]
theorem sq_row {a b : Nat} (hb : b < 129) : (5 * a + b / 30) / 5 = a ∧ 30 * ((5 * a + b / 30) % 5) + b % 30 = b := by omega
def setZ (Z : Nat → Nat → Bool) (a b : Nat) : Nat → Nat → Bool := fun x y => decide (x = a ∧ y = b) || Z x y
theorem SetM_get {M : Nat → Nat → Int32} {r : Nat} {Z : Nat → Nat → Bool} {a b : Nat} (h : SetM M r Z) (ha : a < 129) (hb : b < 129) : ∃ v, M r (5 * a + b / 30) = nI v ∧ v < 2 ^ 30 ∧ (v &&& 2 ^ (b % 30) = 0 ↔ Z a b = false) := by
  obtain ⟨v, h1, h2, h3⟩ := h (5 * a + b / 30) (by omega)
  have h4 := h3 (b % 30) (by omega)
  rw [(sq_row hb).1, (sq_row hb).2] at h4
  exact ⟨v, h1, h2, by rw [and2p, h4]⟩
theorem SetM_set {M : Nat → Nat → Int32} {r : Nat} {Z : Nat → Nat → Bool} {a b v : Nat} (h : SetM M r Z) (ha : a < 129) (hb : b < 129) (hv : M r (5 * a + b / 30) = nI v) (hv2 : v < 2 ^ 30) : SetM (ro M r (up (M r) (5 * a + b / 30) (nI (v ||| 2 ^ (b % 30))))) r (setZ Z a b) := fun q hq => by
  rw [ro_at]
  by_cases e : q = 5 * a + b / 30
  · obtain ⟨v', h1, h2, h3⟩ := h q hq
    rw [e] at h1 h3
    have hvv : v' = v := by
      rw [hv] at h1
      exact ((nI_eq (by omega) (by omega)).mp h1).symm
    subst hvv
    refine ⟨v' ||| 2 ^ (b % 30), by rw [e, up_at], Nat.or_lt_two_pow h2 (Nat.pow_lt_pow_right (by decide) (by omega)), fun t ht => ?_⟩
    rw [Nat.testBit_or, h3 t ht, Nat.testBit_two_pow, e]
    unfold setZ
    rw [(sq_row hb).1]
    by_cases e2 : b % 30 = t
    · rw [decide_eq_true e2, Bool.or_true]
      have : 30 * ((5 * a + b / 30) % 5) + t = b := by omega
      rw [this]
      simp
    · rw [decide_eq_false e2, Bool.or_false]
      have : ¬ (a = a ∧ 30 * ((5 * a + b / 30) % 5) + t = b) := by omega
      rw [decide_eq_false this, Bool.false_or]
  · obtain ⟨v', h1, h2, h3⟩ := h q hq
    refine ⟨v', by rw [up_ne _ _ e]; exact h1, h2, fun t ht => ?_⟩
    rw [h3 t ht]
    unfold setZ
    have : ¬ (q / 5 = a ∧ 30 * (q % 5) + t = b) := by omega
    rw [decide_eq_false this, Bool.false_or]
theorem SetM_fr {M M' : Nat → Nat → Int32} {r : Nat} {Z : Nat → Nat → Bool} (h : SetM M r Z) (e : M' r = M r) : SetM M' r Z := fun q hq => by rw [e]; exact h q hq
theorem SetM_emp {M : Nat → Nat → Int32} {r : Nat} (h : ∀ q, q < 645 → M r q = nI 0) : SetM M r (fun _ _ => false) := fun q hq => ⟨0, h q hq, by decide, fun t _ => Nat.zero_testBit t⟩
def nx2 (g g' : Glu) (q : Nat × Nat) (c : Nat) : Nat × Nat := (gnext g q.1 c, gnext g' q.2 c)
def T2 (one : Bool) (g g' : Glu) (q : Nat × Nat) : Bool := tdf one (gab g q.1) (gab g' q.2)
/-- both automata with their states -/
def TwoM (M : Nat → Nat → Int32) (g g' : Glu) : Prop := AutM M 0 g ∧ AutM M 1 g' ∧ M 20 0 = nI (gL g) ∧ M 20 1 = nI (gL g') ∧ (∀ j, j < gL g → M 18 j = nI (gO g j)) ∧ (∀ j, j < gL g' → M 18 (129 + j) = nI (gO g' j))
theorem TwoM_fr {M M' : Nat → Nat → Int32} {g g' : Glu} {rows sc : List Nat} (h : TwoM M g g') (hf : Fr rows sc M M') (h1 : ∀ r ∈ [10, 11, 13, 12, 14, 9, 18, 20], r ∉ rows) : TwoM M' g g' := by
  obtain ⟨a1, a2, a3, a4, a5, a6⟩ := h
  have e1 := hf.1 18 (by decide) (h1 _ (by decide))
  have e2 := hf.1 20 (by decide) (h1 _ (by decide))
  refine ⟨AutM_keep a1 hf (fun r hr => h1 r (by
    simp only [List.mem_cons, List.not_mem_nil, or_false] at hr ⊢
    omega)), AutM_keep a2 hf (fun r hr => h1 r (by
    simp only [List.mem_cons, List.not_mem_nil, or_false] at hr ⊢
    omega)), by rw [e2]; exact a3, by rw [e2]; exact a4, by rw [e1]; exact a5, by rw [e1]; exact a6⟩
section MAPART
variable {n : Nat} {h : mH} {A M : Nat → Nat → Int32} {R : Nat → Nat → Option Nat} {S : St} {g g' : Glu}
theorem m_row {a b : Nat} {x : mH} (ha : a < 129) (hb : b < 129) : f_X12_row (nI a) (nI b) x = some (nI (5 * a + b / 30), x) := by
  unfold f_X12_row
  simp (disch := omega) only [↓grd_u, ↓bnd_e, ↓orf_u, ↓oif_u, ↓cal_u, ↓calX_u, ↓inrO_u, ↓reduceIte, EM, EMg, EMs, z0, oi, n_inbT, n_cntT, n_ltT, n_ltF, n_leT, n_leF, n_eqT, n_eqF, n_m1T, n_m1F, n_m1F', n_cl, n_add, n_mul, ro_at, ro_ro, up_at, up_up, n_div]
theorem m_bit {b : Nat} {x : mH} (hb : b < 129) : f_X12_bit (nI b) x = some (nI (2 ^ (b % 30)), x) := by
  unfold f_X12_bit
  rw [show Int32.ofInt 30 = nI 30 from rfl, n_rem (by omega) (by decide) (by decide), oi.2.1, n_shl1 _ (by omega)]
theorem m_tells {one : Bool} {a b : Nat} (ok : GluOK g) (ok' : GluOK g') (tw : TwoM M g g') (ha : a < 129) (hb : b < 129) : f_X12_tells (ma n 0) (nI a) (nI b) (nI (b2 one)) (E n h A M R) = some (nI (b2 (T2 one g g' (a, b))), E n h A M R) := by
  have a1 := m_acc (n := n) (h := h) (A := A) (R := R) tw.1 ok (by decide : 0 < 2) ha
  have a2 := m_acc (n := n) (h := h) (A := A) (R := R) tw.2.1 ok' (by decide : 1 < 2) hb
  unfold f_X12_tells g_X12_tells_26 g_X12_tells_50 T2 tdf
  cases x1 : gab g a <;> cases x2 : gab g' b <;> rw [x1] at a1 <;> rw [x2] at a2
  · have a1 : f_X12_accepts (ma n 0) (nI 0) (nI a) (E n h A M R) = some (nI 0, E n h A M R) := a1
    have a2 : f_X12_accepts (ma n 0) (nI 1) (nI b) (E n h A M R) = some (nI 0, E n h A M R) := a2
    cases one
    · show (if nI 0 = 0 then _ else _) = some (nI 0, _)
      simp (disch := omega) only [↓grd_u, ↓bnd_e, ↓orf_u, ↓oif_u, ↓cal_u, ↓calX_u, ↓inrO_u, ↓reduceIte, EM, EMg, EMs, z0, oi, n_inbT, n_cntT, n_ltT, n_ltF, n_leT, n_leF, n_eqT, n_eqF, n_m1T, n_m1F, n_m1F', n_cl, n_add, n_mul, ro_at, ro_ro, up_at, up_up, a1, a2, nz0]
    · show (if nI 1 = 0 then _ else _) = some (nI 0, _)
      simp (disch := omega) only [↓grd_u, ↓bnd_e, ↓orf_u, ↓oif_u, ↓cal_u, ↓calX_u, ↓inrO_u, ↓reduceIte, EM, EMg, EMs, z0, oi, n_inbT, n_cntT, n_ltT, n_ltF, n_leT, n_leF, n_eqT, n_eqF, n_m1T, n_m1F, n_m1F', n_cl, n_add, n_mul, ro_at, ro_ro, up_at, up_up, a1, a2, nz0]
  · have a1 : f_X12_accepts (ma n 0) (nI 0) (nI a) (E n h A M R) = some (nI 0, E n h A M R) := a1
    have a2 : f_X12_accepts (ma n 0) (nI 1) (nI b) (E n h A M R) = some (nI 1, E n h A M R) := a2
    cases one
    · show (if nI 0 = 0 then _ else _) = some (nI 1, _)
      simp (disch := omega) only [↓grd_u, ↓bnd_e, ↓orf_u, ↓oif_u, ↓cal_u, ↓calX_u, ↓inrO_u, ↓reduceIte, EM, EMg, EMs, z0, oi, n_inbT, n_cntT, n_ltT, n_ltF, n_leT, n_leF, n_eqT, n_eqF, n_m1T, n_m1F, n_m1F', n_cl, n_add, n_mul, ro_at, ro_ro, up_at, up_up, a1, a2, nz1]
    · show (if nI 1 = 0 then _ else _) = some (nI 0, _)
      simp (disch := omega) only [↓grd_u, ↓bnd_e, ↓orf_u, ↓oif_u, ↓cal_u, ↓calX_u, ↓inrO_u, ↓reduceIte, EM, EMg, EMs, z0, oi, n_inbT, n_cntT, n_ltT, n_ltF, n_leT, n_leF, n_eqT, n_eqF, n_m1T, n_m1F, n_m1F', n_cl, n_add, n_mul, ro_at, ro_ro, up_at, up_up, a1, a2, nz0]
  · have a1 : f_X12_accepts (ma n 0) (nI 0) (nI a) (E n h A M R) = some (nI 1, E n h A M R) := a1
    have a2 : f_X12_accepts (ma n 0) (nI 1) (nI b) (E n h A M R) = some (nI 0, E n h A M R) := a2
    cases one
    · show (if nI 0 = 0 then _ else _) = some (nI 1, _)
      simp (disch := omega) only [↓grd_u, ↓bnd_e, ↓orf_u, ↓oif_u, ↓cal_u, ↓calX_u, ↓inrO_u, ↓reduceIte, EM, EMg, EMs, z0, oi, n_inbT, n_cntT, n_ltT, n_ltF, n_leT, n_leF, n_eqT, n_eqF, n_m1T, n_m1F, n_m1F', n_cl, n_add, n_mul, ro_at, ro_ro, up_at, up_up, a1, a2, nz1]
    · show (if nI 1 = 0 then _ else _) = some (nI 1, _)
      simp (disch := omega) only [↓grd_u, ↓bnd_e, ↓orf_u, ↓oif_u, ↓cal_u, ↓calX_u, ↓inrO_u, ↓reduceIte, EM, EMg, EMs, z0, oi, n_inbT, n_cntT, n_ltT, n_ltF, n_leT, n_leF, n_eqT, n_eqF, n_m1T, n_m1F, n_m1F', n_cl, n_add, n_mul, ro_at, ro_ro, up_at, up_up, a1, a2, nz1]
  · have a1 : f_X12_accepts (ma n 0) (nI 0) (nI a) (E n h A M R) = some (nI 1, E n h A M R) := a1
    have a2 : f_X12_accepts (ma n 0) (nI 1) (nI b) (E n h A M R) = some (nI 1, E n h A M R) := a2
    cases one
    · show (if nI 0 = 0 then _ else _) = some (nI 0, _)
      simp (disch := omega) only [↓grd_u, ↓bnd_e, ↓orf_u, ↓oif_u, ↓cal_u, ↓calX_u, ↓inrO_u, ↓reduceIte, EM, EMg, EMs, z0, oi, n_inbT, n_cntT, n_ltT, n_ltF, n_leT, n_leF, n_eqT, n_eqF, n_m1T, n_m1F, n_m1F', n_cl, n_add, n_mul, ro_at, ro_ro, up_at, up_up, a1, a2, nz0]
    · show (if nI 1 = 0 then _ else _) = some (nI 0, _)
      simp (disch := omega) only [↓grd_u, ↓bnd_e, ↓orf_u, ↓oif_u, ↓cal_u, ↓calX_u, ↓inrO_u, ↓reduceIte, EM, EMg, EMs, z0, oi, n_inbT, n_cntT, n_ltT, n_ltF, n_leT, n_leF, n_eqT, n_eqF, n_m1T, n_m1F, n_m1F', n_cl, n_add, n_mul, ro_at, ro_ro, up_at, up_up, a1, a2, nz0]
/-- a pair of the level is told apart -/
theorem m_tellsLev {one : Bool} {Y : Nat → Nat → Bool} (ok : GluOK g) (ok' : GluOK g') (tw : TwoM M g g') (hY : SetM M 25 Y) : ∃ v, f_X12_tellsLevel (ma n 0) (nI (b2 one)) (E n h A M R) = some (nI v, E n h A M R) ∧ ((v = 1 ∧ ∃ i j, i < gL g ∧ j < gL g' ∧ Y (gO g i) (gO g' j) = true ∧ T2 one g g' (gO g i, gO g' j) = true) ∨ (v = 0 ∧ ∀ i j, i < gL g → j < gL g' → Y (gO g i) (gO g' j) = true → T2 one g g' (gO g i, gO g' j) = false)) := by
  have hL := gL_le ok
  have hL' := gL_le ok'
  obtain ⟨-, -, t3, t4, t5, t6⟩ := id tw
  have key : ∃ r, g_X12_tellsLevel_2 (ma n 0) (nI (b2 one)) (nI 0) (E n h A M R) = some r ∧ ∃ v, r = (nI v, E n h A M R) ∧ ((v = 1 ∧ ∃ i j, i < gL g ∧ j < gL g' ∧ Y (gO g i) (gO g' j) = true ∧ T2 one g g' (gO g i, gO g' j) = true) ∨ (v = 0 ∧ ∀ i j, i < gL g → j < gL g' → Y (gO g i) (gO g' j) = true → T2 one g g' (gO g i, gO g' j) = false)) := by
    unfold g_X12_tellsLevel_2
    refine lp_inv0 (f := b_X12_tellsLevel_2 (ma n 0) (nI (b2 one))) (fun i s' => s' = (nI i, E n h A M R) ∧ ∀ x y, x < i → y < gL g' → Y (gO g x) (gO g' y) = true → T2 one g g' (gO g x, gO g' y) = false) _ (gL g) (fun i s' hi hI => ?_) (L := 100000) (by omega) ⟨rfl, fun x y hx => absurd hx (Nat.not_lt_zero _)⟩
    obtain ⟨rfl, hn⟩ := hI
    unfold b_X12_tellsLevel_2 b0_X12_tellsLevel_2
    by_cases hi2 : i < gL g
    · have oi' := t5 i hi2
      have li := gO_lt ok i
      have key2 : ∃ r, g_X12_tellsLevel_14 (ma n 0) (nI (b2 one)) (nI i) (nI 0) (E n h A M R) = some r ∧ ((r = .inl (nI (i + 1), E n h A M R) ∧ ∀ y, y < gL g' → Y (gO g i) (gO g' y) = true → T2 one g g' (gO g i, gO g' y) = false) ∨ (r = .inr (nI 1, E n h A M R) ∧ ∃ j, j < gL g' ∧ Y (gO g i) (gO g' j) = true ∧ T2 one g g' (gO g i, gO g' j) = true)) := by
        unfold g_X12_tellsLevel_14
        refine lp_inv0 (f := b_X12_tellsLevel_14 (ma n 0) (nI (b2 one)) (nI i)) (fun j s' => s' = (nI j, E n h A M R) ∧ ∀ y, y < j → Y (gO g i) (gO g' y) = true → T2 one g g' (gO g i, gO g' y) = false) _ (gL g') (fun j s' hj hJ => ?_) (L := 100000) (by omega) ⟨rfl, fun y hy => absurd hy (Nat.not_lt_zero _)⟩
        obtain ⟨rfl, hm⟩ := hJ
        unfold b_X12_tellsLevel_14 b0_X12_tellsLevel_14 g_X12_tellsLevel_79
        by_cases hj2 : j < gL g'
        · have oj := t6 j hj2
          have lj := gO_lt ok' j
          obtain ⟨v, v1, v2, v3⟩ := SetM_get hY li lj
          have hr := fun x => m_row (x := x) li lj
          have hb := fun x => m_bit (x := x) lj
          have hte := m_tells (n := n) (h := h) (A := A) (R := R) (one := one) ok ok' tw li lj
          have vl : v &&& 2 ^ (gO g' j % 30) < 2 ^ 30 := Nat.lt_of_le_of_lt Nat.and_le_left v2
          cases z : Y (gO g i) (gO g' j) with
          | false =>
            have vz := v3.mpr z
            refine Or.inl ⟨(nI (j + 1), E n h A M R), ?_, hj2, rfl, fun y hy hyy => ?_⟩
            · simp (disch := omega) only [↓grd_u, ↓bnd_e, ↓orf_u, ↓oif_u, ↓cal_u, ↓calX_u, ↓inrO_u, ↓reduceIte, EM, EMg, EMs, z0, oi, n_inbT, n_cntT, n_ltT, n_ltF, n_leT, n_leF, n_eqT, n_eqF, n_m1T, n_m1F, n_m1F', n_cl, n_add, n_mul, ro_at, ro_ro, up_at, up_up, t4, oj, oi', hr, v1, hb, n_and, vz]
            · by_cases e : y = j
              · rw [e, z] at hyy; cases hyy
              · exact hm y (by omega) hyy
          | true =>
            have vz : v &&& 2 ^ (gO g' j % 30) ≠ 0 := fun w => by rw [v3.mp w] at z; cases z
            cases zt : T2 one g g' (gO g i, gO g' j) with
            | true =>
              rw [zt] at hte
              have hte : f_X12_tells (ma n 0) (nI (gO g i)) (nI (gO g' j)) (nI (b2 one)) (E n h A M R) = some (nI 1, E n h A M R) := hte
              refine Or.inr ⟨.inr (nI 1, E n h A M R), ?_, Or.inr ⟨rfl, j, hj2, z, zt⟩⟩
              simp (disch := omega) only [↓grd_u, ↓bnd_e, ↓orf_u, ↓oif_u, ↓cal_u, ↓calX_u, ↓inrO_u, ↓reduceIte, EM, EMg, EMs, z0, oi, n_inbT, n_cntT, n_ltT, n_ltF, n_leT, n_leF, n_eqT, n_eqF, n_m1T, n_m1F, n_m1F', n_cl, n_add, n_mul, ro_at, ro_ro, up_at, up_up, t4, oj, oi', hr, v1, hb, n_and, hte]
            | false =>
              rw [zt] at hte
              have hte : f_X12_tells (ma n 0) (nI (gO g i)) (nI (gO g' j)) (nI (b2 one)) (E n h A M R) = some (nI 0, E n h A M R) := hte
              refine Or.inl ⟨(nI (j + 1), E n h A M R), ?_, hj2, rfl, fun y hy hyy => ?_⟩
              · simp (disch := omega) only [↓grd_u, ↓bnd_e, ↓orf_u, ↓oif_u, ↓cal_u, ↓calX_u, ↓inrO_u, ↓reduceIte, EM, EMg, EMs, z0, oi, n_inbT, n_cntT, n_ltT, n_ltF, n_leT, n_leF, n_eqT, n_eqF, n_m1T, n_m1F, n_m1F', n_cl, n_add, n_mul, ro_at, ro_ro, up_at, up_up, t4, oj, oi', hr, v1, hb, n_and, hte]
              · by_cases e : y = j
                · rw [e]; exact zt
                · exact hm y (by omega) hyy
        · have hje : j = gL g' := by omega
          refine Or.inr ⟨.inl (nI (i + 1), E n h A M R), ?_, Or.inl ⟨rfl, fun y hy => hm y (by omega)⟩⟩
          simp (disch := omega) only [↓grd_u, ↓bnd_e, ↓orf_u, ↓oif_u, ↓cal_u, ↓calX_u, ↓inrO_u, ↓reduceIte, EM, EMg, EMs, z0, oi, n_inbT, n_cntT, n_ltT, n_ltF, n_leT, n_leF, n_eqT, n_eqF, n_m1T, n_m1F, n_m1F', n_cl, n_add, n_mul, ro_at, ro_ro, up_at, up_up, t4]
      obtain ⟨r, e, hr⟩ := key2
      rcases hr with ⟨rfl, hr⟩ | ⟨rfl, j, hj, hy, ht⟩
      · refine Or.inl ⟨(nI (i + 1), E n h A M R), ?_, hi2, rfl, fun x y hx hy => ?_⟩
        · simp (disch := omega) only [↓grd_u, ↓bnd_e, ↓orf_u, ↓oif_u, ↓cal_u, ↓calX_u, ↓inrO_u, ↓reduceIte, EM, EMg, EMs, z0, oi, n_inbT, n_cntT, n_ltT, n_ltF, n_leT, n_leF, n_eqT, n_eqF, n_m1T, n_m1F, n_m1F', n_cl, n_add, n_mul, ro_at, ro_ro, up_at, up_up, t3, e]
        · by_cases ex : x = i
          · rw [ex]; exact hr y hy
          · exact hn x y (by omega) hy
      · refine Or.inr ⟨(nI 1, E n h A M R), ?_, 1, rfl, Or.inl ⟨rfl, i, j, hi2, hj, hy, ht⟩⟩
        simp (disch := omega) only [↓grd_u, ↓bnd_e, ↓orf_u, ↓oif_u, ↓cal_u, ↓calX_u, ↓inrO_u, ↓reduceIte, EM, EMg, EMs, z0, oi, n_inbT, n_cntT, n_ltT, n_ltF, n_leT, n_leF, n_eqT, n_eqF, n_m1T, n_m1F, n_m1F', n_cl, n_add, n_mul, ro_at, ro_ro, up_at, up_up, t3, e]
    · have hie : i = gL g := by omega
      refine Or.inr ⟨(nI 0, E n h A M R), ?_, 0, rfl, Or.inr ⟨rfl, fun x y hx => hn x y (by omega)⟩⟩
      simp (disch := omega) only [↓grd_u, ↓bnd_e, ↓orf_u, ↓oif_u, ↓cal_u, ↓calX_u, ↓inrO_u, ↓reduceIte, EM, EMg, EMs, z0, oi, n_inbT, n_cntT, n_ltT, n_ltF, n_leT, n_leF, n_eqT, n_eqF, n_m1T, n_m1F, n_m1F', n_cl, n_add, n_mul, ro_at, ro_ro, up_at, up_up, t3]
  obtain ⟨r, e, v, rfl, hv⟩ := key
  refine ⟨v, ?_, hv⟩
  unfold f_X12_tellsLevel
  rw [oi.1, e]
/-- going on from a level, so far -/
def GoI (M : Nat → Nat → Int32) (g g' : Glu) (Z Y : Nat → Nat → Bool) (fl : Nat) (vis : Nat → Nat → Nat → Prop) : Prop := ∃ Z1 W : Nat → Nat → Bool, SetM M 24 Z1 ∧ SetM M 26 W ∧ fl ≤ 1 ∧ (∀ x y, Z1 x y = (Z x y || W x y)) ∧ (∀ x y, W x y = true → Z x y = false ∧ x < 129 ∧ y < 129 ∧ ∃ i j c, i < gL g ∧ j < gL g' ∧ c < 3 ∧ Y (gO g i) (gO g' j) = true ∧ x = gnext g (gO g i) c ∧ y = gnext g' (gO g' j) c) ∧ (∀ i j c, i < gL g → j < gL g' → c < 3 → vis i j c → Y (gO g i) (gO g' j) = true → Z1 (gnext g (gO g i) c) (gnext g' (gO g' j) c) = true) ∧ (fl = 0 → ∀ x y, W x y = false) ∧ (fl = 1 → ∃ x y, W x y = true)
theorem m_go95 {i j fl : Nat} {Z Y : Nat → Nat → Bool} (ok : GluOK g) (ok' : GluOK g') (tw : TwoM M g g') (hi : i < gL g) (hj : j < gL g') (hY : SetM M 25 Y) (hy : Y (gO g i) (gO g' j) = true) (hg : GoI M g g' Z Y fl (fun x y c => x < i ∨ (x = i ∧ y < j))) :
    ∃ M' fl', g_X12_goesOn_95 (ma n 0) (nI fl) (nI i) (nI j) (nI (gO g i)) (nI (gO g' j)) (nI 0) (E n h A M R) = some (.inl (nI fl', nI (j + 1), E n h A M' R)) ∧ GoI M' g g' Z Y fl' (fun x y c => x < i ∨ (x = i ∧ y < j + 1)) ∧ Fr [24, 26] [] M M' := by
  have li := gO_lt ok i
  have lj := gO_lt ok' j
  have key : ∃ r, g_X12_goesOn_95 (ma n 0) (nI fl) (nI i) (nI j) (nI (gO g i)) (nI (gO g' j)) (nI 0) (E n h A M R) = some r ∧ ∃ M' fl', r = .inl (nI fl', nI (j + 1), E n h A M' R) ∧ GoI M' g g' Z Y fl' (fun x y c => x < i ∨ (x = i ∧ y < j + 1)) ∧ Fr [24, 26] [] M M' := by
    unfold g_X12_goesOn_95
    refine lp_inv0 (f := b_X12_goesOn_95 (ma n 0) (nI i) (nI j) (nI (gO g i)) (nI (gO g' j))) (fun c s' => ∃ M1 f1, s' = (nI f1, nI c, E n h A M1 R) ∧ GoI M1 g g' Z Y f1 (fun x y d => x < i ∨ (x = i ∧ y < j) ∨ (x = i ∧ y = j ∧ d < c)) ∧ Fr [24, 26] [] M M1) _ 3 (fun c s' hc hI => ?_) (L := 100000) (by decide) ⟨M, fl, rfl, ?_, Fr_rf _ _ _⟩
    · obtain ⟨M1, f1, rfl, ⟨Z1, W, s1, s2, f01, g1, g2, g3, g4, g5⟩, fr1⟩ := hI
      have tw1 := TwoM_fr tw fr1 (by decide)
      unfold b_X12_goesOn_95 b0_X12_goesOn_95 g_X12_goesOn_209 g_X12_goesOn_215
      by_cases hc3 : c < 3
      · have t1 := m_to (n := n) (h := h) (A := A) (R := R) tw1.1 (by decide : 0 < 2) li hc3
        have t2 := m_to (n := n) (h := h) (A := A) (R := R) tw1.2.1 (by decide : 1 < 2) lj hc3
        obtain ⟨x, hx⟩ : ∃ x, x = gnext g (gO g i) c := ⟨_, rfl⟩
        obtain ⟨y, hyy⟩ : ∃ y, y = gnext g' (gO g' j) c := ⟨_, rfl⟩
        have lx : x < 129 := by rw [hx]; have := gnext_lt ok (gO g i) c; omega
        have ly : y < 129 := by rw [hyy]; have := gnext_lt ok' (gO g' j) c; omega
        rw [← hx] at t1
        rw [← hyy] at t2
        have hr := fun z => m_row (x := z) lx ly
        have hb := fun z => m_bit (x := z) ly
        obtain ⟨v, v1, v2, v3⟩ := SetM_get s1 lx ly
        have vl : v &&& 2 ^ (y % 30) < 2 ^ 30 := Nat.lt_of_le_of_lt Nat.and_le_left v2
        cases z : Z1 x y with
        | true =>
          have vz : v &&& 2 ^ (y % 30) ≠ 0 := fun w => by rw [v3.mp w] at z; cases z
          refine Or.inl ⟨(nI f1, nI (c + 1), E n h A M1 R), ?_, hc3, M1, f1, rfl, ⟨Z1, W, s1, s2, f01, g1, g2, fun i' j' c' h1 h2 h3 hv hY' => ?_, g4, g5⟩, fr1⟩
          · simp (disch := omega) only [↓grd_u, ↓bnd_e, ↓orf_u, ↓oif_u, ↓cal_u, ↓calX_u, ↓inrO_u, ↓reduceIte, EM, EMg, EMs, z0, oi, n_inbT, n_cntT, n_ltT, n_ltF, n_leT, n_leF, n_eqT, n_eqF, n_m1T, n_m1F, n_m1F', n_cl, n_add, n_mul, ro_at, ro_ro, up_at, up_up, t1, t2, hr, hb, v1, n_and]
          · by_cases e : i' = i ∧ j' = j ∧ c' = c
            · rw [e.1, e.2.1, e.2.2, ← hx, ← hyy]; exact z
            · exact g3 i' j' c' h1 h2 h3 (by omega) hY'
        | false =>
          have vz := v3.mpr z
          obtain ⟨w, w1, w2, w3⟩ := SetM_get s2 lx ly
          have hzw := g1 x y
          rw [z] at hzw
          have hZf : Z x y = false := by cases q : Z x y with
            | false => rfl
            | true => rw [q] at hzw; cases hzw
          refine Or.inl ⟨(nI 1, nI (c + 1), E n h A (ro (ro M1 24 (up (M1 24) (5 * x + y / 30) (nI (v ||| 2 ^ (y % 30))))) 26 (up (M1 26) (5 * x + y / 30) (nI (w ||| 2 ^ (y % 30))))) R), ?_, hc3, _, 1, rfl, ⟨setZ Z1 x y, setZ W x y, ?_, ?_, Nat.le_refl _, fun p q => ?_, fun p q hpq => ?_, fun i' j' c' h1 h2 h3 hv hY' => ?_, fun h0 => absurd h0 (by decide), fun _ => ⟨x, y, by unfold setZ; simp⟩⟩, Fr_tr fr1 ⟨fun r h0 hr => ?_, fun q hq => ?_⟩⟩
          · simp (disch := omega) only [↓grd_u, ↓bnd_e, ↓orf_u, ↓oif_u, ↓cal_u, ↓calX_u, ↓inrO_u, ↓reduceIte, EM, EMg, EMs, z0, oi, n_inbT, n_cntT, n_ltT, n_ltF, n_leT, n_leF, n_eqT, n_eqF, n_m1T, n_m1F, n_m1F', n_cl, n_add, n_mul, ro_at, ro_ro, up_at, up_up, ro_ne, up_ne, ro_sw, t1, t2, hr, hb, v1, n_and, n_or, vz, w1]
          · exact SetM_fr (SetM_set s1 lx ly v1 v2) (ro_ne _ _ (by decide))
          · have := SetM_set s2 lx ly w1 w2
            refine SetM_fr this ?_
            rw [ro_at, ro_at]
          · unfold setZ
            rw [g1 p q, ← Bool.or_assoc, ← Bool.or_assoc, Bool.or_comm (decide (p = x ∧ q = y)) (Z p q)]
          · unfold setZ at hpq
            rw [Bool.or_eq_true, decide_eq_true_eq] at hpq
            rcases hpq with ⟨rfl, rfl⟩ | hpq
            · exact ⟨hZf, lx, ly, i, j, c, hi, hj, hc3, hy, hx, hyy⟩
            · exact g2 p q hpq
          · unfold setZ
            by_cases e : i' = i ∧ j' = j ∧ c' = c
            · rw [e.1, e.2.1, e.2.2, ← hx, ← hyy]; simp
            · rw [g3 i' j' c' h1 h2 h3 (by omega) hY', Bool.or_true]
          · simp only [List.mem_cons, List.not_mem_nil, or_false, not_or] at hr
            rw [ro_ne _ _ hr.2, ro_ne _ _ hr.1]
          · rw [ro_ne _ _ (by decide), ro_ne _ _ (by decide)]
      · have hce : c = 3 := by omega
        refine Or.inr ⟨.inl (nI f1, nI (j + 1), E n h A M1 R), ?_, M1, f1, rfl, ⟨Z1, W, s1, s2, f01, g1, g2, fun i' j' c' h1 h2 h3 hv hY' => g3 i' j' c' h1 h2 h3 (by omega) hY', g4, g5⟩, fr1⟩
        rw [hce]
        simp (disch := omega) only [↓grd_u, ↓bnd_e, ↓orf_u, ↓oif_u, ↓cal_u, ↓calX_u, ↓inrO_u, ↓reduceIte, EM, EMg, EMs, z0, oi, n_inbT, n_cntT, n_ltT, n_ltF, n_leT, n_leF, n_eqT, n_eqF, n_m1T, n_m1F, n_m1F', n_cl, n_add, n_mul, ro_at, ro_ro, up_at, up_up]
    · obtain ⟨Z1, W, s1, s2, f01, g1, g2, g3, g4, g5⟩ := hg
      exact ⟨Z1, W, s1, s2, f01, g1, g2, fun i' j' c' h1 h2 h3 hv hY' => g3 i' j' c' h1 h2 h3 (by omega) hY', g4, g5⟩
  obtain ⟨r, e, M', fl', rfl, q1, q2⟩ := key
  exact ⟨M', fl', e, q1, q2⟩
theorem GoI_w {Z Y : Nat → Nat → Bool} {fl : Nat} {vis vis' : Nat → Nat → Nat → Prop} (h : GoI M g g' Z Y fl vis) (hv : ∀ i j c, i < gL g → j < gL g' → c < 3 → Y (gO g i) (gO g' j) = true → vis' i j c → vis i j c) : GoI M g g' Z Y fl vis' := by
  obtain ⟨Z1, W, s1, s2, f01, g1, g2, g3, g4, g5⟩ := h
  exact ⟨Z1, W, s1, s2, f01, g1, g2, fun i' j' c' h1 h2 h3 w hY' => g3 i' j' c' h1 h2 h3 (hv i' j' c' h1 h2 h3 hY' w) hY', g4, g5⟩
theorem m_goesOn {Z Y : Nat → Nat → Bool} (ok : GluOK g) (ok' : GluOK g') (tw : TwoM M g g') (hZ : SetM M 24 Z) (hY : SetM M 25 Y) :
    ∃ M' fl W Z1, f_X12_goesOn (ma n 0) (E n h A M R) = some (nI fl, E n h A M' R) ∧ SetM M' 24 Z1 ∧ SetM M' 25 W ∧ fl ≤ 1 ∧ (∀ x y, Z1 x y = (Z x y || W x y)) ∧ (∀ x y, W x y = true → Z x y = false ∧ x < 129 ∧ y < 129 ∧ ∃ i j c, i < gL g ∧ j < gL g' ∧ c < 3 ∧ Y (gO g i) (gO g' j) = true ∧ x = gnext g (gO g i) c ∧ y = gnext g' (gO g' j) c) ∧ (∀ i j c, i < gL g → j < gL g' → c < 3 → Y (gO g i) (gO g' j) = true → Z1 (gnext g (gO g i) c) (gnext g' (gO g' j) c) = true) ∧ (fl = 0 → ∀ x y, W x y = false) ∧ (fl = 1 → ∃ x y, W x y = true) ∧ Fr [24, 25, 26] [] M M' := by
  have hL := gL_le ok
  have hL' := gL_le ok'
  obtain ⟨M1, hM1⟩ : ∃ M1, M1 = ro M 26 (pre 645 (fun _ => nI 0) (M 26)) := ⟨_, rfl⟩
  have f1 : Fr [24, 26] [] M M1 := by rw [hM1]; exact Fr_ro _ (by decide) (by decide)
  have g1 : GoI M1 g g' Z Y 0 (fun x _ _ => x < 0) := ⟨Z, fun _ _ => false, SetM_fr hZ (by rw [hM1, ro_ne _ _ (by decide)]), SetM_emp (fun q hq => by rw [hM1, ro_at, pre_lt _ _ hq]), by decide, fun x y => by rw [Bool.or_false], fun x y hw => (by cases hw), fun i j c _ _ _ hv => absurd hv (Nat.not_lt_zero _), fun _ _ _ => rfl, fun h0 => absurd h0 (by decide)⟩
  have key : ∃ r, g_X12_goesOn_26 (ma n 0) (nI 0) (nI 0) (E n h A M1 R) = some r ∧ ∃ M2 fl, GoI M2 g g' Z Y fl (fun _ _ _ => True) ∧ Fr [24, 26] [] M M2 ∧ r = (nI fl, E n h A (ro M2 25 (pre 645 (M2 26) (M2 25))) R) := by
    unfold g_X12_goesOn_26
    refine lp_inv0 (f := b_X12_goesOn_26 (ma n 0)) (fun i s' => ∃ M2 fl, s' = (nI fl, nI i, E n h A M2 R) ∧ GoI M2 g g' Z Y fl (fun x _ _ => x < i) ∧ Fr [24, 26] [] M M2) _ (gL g) (fun i s' hi hI => ?_) (L := 100000) (by omega) ⟨M1, 0, rfl, g1, f1⟩
    obtain ⟨M2, fl, rfl, gi2, fr2⟩ := hI
    have tw2 := TwoM_fr tw fr2 (by decide)
    obtain ⟨-, -, t3, t4, t5, t6⟩ := id tw2
    unfold b_X12_goesOn_26 b0_X12_goesOn_26
    by_cases hi2 : i < gL g
    · have key2 : ∃ r, g_X12_goesOn_38 (ma n 0) (nI fl) (nI i) (nI 0) (E n h A M2 R) = some r ∧ ∃ M3 f3, r = .inl (nI f3, nI (i + 1), E n h A M3 R) ∧ GoI M3 g g' Z Y f3 (fun x _ _ => x < i + 1) ∧ Fr [24, 26] [] M M3 := by
        unfold g_X12_goesOn_38
        refine lp_inv0 (f := b_X12_goesOn_38 (ma n 0) (nI i)) (fun j s' => ∃ M3 f3, s' = (nI f3, nI j, E n h A M3 R) ∧ GoI M3 g g' Z Y f3 (fun x y _ => x < i ∨ (x = i ∧ y < j)) ∧ Fr [24, 26] [] M M3) _ (gL g') (fun j s' hj hJ => ?_) (L := 100000) (by omega) ⟨M2, fl, rfl, GoI_w gi2 (fun x y c _ _ _ _ hv => by omega), fr2⟩
        obtain ⟨M3, f3, rfl, gi3, fr3⟩ := hJ
        have tw3 := TwoM_fr tw fr3 (by decide)
        obtain ⟨-, -, u3, u4, u5, u6⟩ := id tw3
        have hY3 : SetM M3 25 Y := SetM_fr hY (fr3.1 _ (by decide) (by decide))
        unfold b_X12_goesOn_38 b0_X12_goesOn_38 g_X12_goesOn_215
        by_cases hj2 : j < gL g'
        · have oi' := u5 i hi2
          have oj := u6 j hj2
          have li := gO_lt ok i
          have lj := gO_lt ok' j
          have hr := fun z => m_row (x := z) li lj
          have hb := fun z => m_bit (x := z) lj
          obtain ⟨v, v1, v2, v3⟩ := SetM_get hY3 li lj
          have vl : v &&& 2 ^ (gO g' j % 30) < 2 ^ 30 := Nat.lt_of_le_of_lt Nat.and_le_left v2
          cases z : Y (gO g i) (gO g' j) with
          | false =>
            have vz := v3.mpr z
            refine Or.inl ⟨(nI f3, nI (j + 1), E n h A M3 R), ?_, hj2, M3, f3, rfl, GoI_w gi3 (fun x y c _ _ _ hyt hv => ?_), fr3⟩
            · simp (disch := omega) only [↓grd_u, ↓bnd_e, ↓orf_u, ↓oif_u, ↓cal_u, ↓calX_u, ↓inrO_u, ↓reduceIte, EM, EMg, EMs, z0, oi, n_inbT, n_cntT, n_ltT, n_ltF, n_leT, n_leF, n_eqT, n_eqF, n_m1T, n_m1F, n_m1F', n_cl, n_add, n_mul, ro_at, ro_ro, up_at, up_up, u4, oi', oj, hr, hb, v1, n_and, vz]
            · by_cases e : x = i ∧ y = j
              · rw [e.1, e.2, z] at hyt; cases hyt
              · omega
          | true =>
            have vz : v &&& 2 ^ (gO g' j % 30) ≠ 0 := fun w => by rw [v3.mp w] at z; cases z
            obtain ⟨M4, f4, e4, gi4, fr4⟩ := m_go95 (n := n) (h := h) (A := A) (R := R) ok ok' tw3 hi2 hj2 hY3 z gi3
            refine Or.inl ⟨(nI f4, nI (j + 1), E n h A M4 R), ?_, hj2, M4, f4, rfl, gi4, Fr_tr fr3 fr4⟩
            simp (disch := omega) only [↓grd_u, ↓bnd_e, ↓orf_u, ↓oif_u, ↓cal_u, ↓calX_u, ↓inrO_u, ↓reduceIte, EM, EMg, EMs, z0, oi, n_inbT, n_cntT, n_ltT, n_ltF, n_leT, n_leF, n_eqT, n_eqF, n_m1T, n_m1F, n_m1F', n_cl, n_add, n_mul, ro_at, ro_ro, up_at, up_up, u4, oi', oj, hr, hb, v1, n_and, e4]
        · have hje : j = gL g' := by omega
          refine Or.inr ⟨.inl (nI f3, nI (i + 1), E n h A M3 R), ?_, M3, f3, rfl, GoI_w gi3 (fun x y c h1 h2 h3 hyt hv => by omega), fr3⟩
          simp (disch := omega) only [↓grd_u, ↓bnd_e, ↓orf_u, ↓oif_u, ↓cal_u, ↓calX_u, ↓inrO_u, ↓reduceIte, EM, EMg, EMs, z0, oi, n_inbT, n_cntT, n_ltT, n_ltF, n_leT, n_leF, n_eqT, n_eqF, n_m1T, n_m1F, n_m1F', n_cl, n_add, n_mul, ro_at, ro_ro, up_at, up_up, u4]
      obtain ⟨r, e, M3, f3, rfl, gi3, fr3⟩ := key2
      refine Or.inl ⟨(nI f3, nI (i + 1), E n h A M3 R), ?_, hi2, M3, f3, rfl, gi3, fr3⟩
      simp (disch := omega) only [↓grd_u, ↓bnd_e, ↓orf_u, ↓oif_u, ↓cal_u, ↓calX_u, ↓inrO_u, ↓reduceIte, EM, EMg, EMs, z0, oi, n_inbT, n_cntT, n_ltT, n_ltF, n_leT, n_leF, n_eqT, n_eqF, n_m1T, n_m1F, n_m1F', n_cl, n_add, n_mul, ro_at, ro_ro, up_at, up_up, t3, e]
    · have hie : i = gL g := by omega
      have hfl : fl ≤ 1 := gi2.choose_spec.choose_spec.2.2.1
      have hn : (vp_nar .boolean (nI fl) = nI fl) = True := eq_true (n_nar01 hfl)
      have hcp : g_X12_goesOn_229 (ma n 0) (nI fl) (nI 0) (E n h A M2 R) = some (nI fl, E n h A (ro M2 25 (pre 645 (M2 26) (M2 25))) R) := by
        unfold g_X12_goesOn_229
        have hl2 := lp_for0 (f := b_X12_goesOn_229 (ma n 0) (nI fl)) (fun q => (nI q, E n h A (ro M2 25 (pre q (M2 26) (M2 25))) R)) 645 (nI fl, E n h A (ro M2 25 (pre 645 (M2 26) (M2 25))) R) (fun q hq => ?_) ?_ (L := 100000) (by decide)
        · simp only [pre_0, ro_self] at hl2
          exact hl2
        · unfold b_X12_goesOn_229 b0_X12_goesOn_229
          simp (disch := omega) only [↓grd_u, ↓bnd_e, ↓orf_u, ↓oif_u, ↓cal_u, ↓calX_u, ↓inrO_u, ↓reduceIte, EM, EMg, EMs, z0, oi, n_inbT, n_cntT, n_ltT, n_ltF, n_leT, n_leF, n_eqT, n_eqF, n_m1T, n_m1F, n_m1F', n_cl, n_add, n_mul, ro_at, ro_ro, up_at, up_up, ro_ne, up_ne, ro_sw, up_pre]
        · unfold b_X12_goesOn_229 b0_X12_goesOn_229
          simp (disch := omega) only [↓grd_u, ↓bnd_e, ↓orf_u, ↓oif_u, ↓cal_u, ↓calX_u, ↓inrO_u, ↓reduceIte, EM, EMg, EMs, z0, oi, n_inbT, n_cntT, n_ltT, n_ltF, n_leT, n_leF, n_eqT, n_eqF, n_m1T, n_m1F, n_m1F', n_cl, n_add, n_mul, ro_at, ro_ro, up_at, up_up, hn]
      refine Or.inr ⟨_, ?_, M2, fl, GoI_w gi2 (fun x y c h1 h2 h3 _ _ => by omega), fr2, rfl⟩
      simp (disch := omega) only [↓grd_u, ↓bnd_e, ↓orf_u, ↓oif_u, ↓cal_u, ↓calX_u, ↓inrO_u, ↓reduceIte, EM, EMg, EMs, z0, oi, n_inbT, n_cntT, n_ltT, n_ltF, n_leT, n_leF, n_eqT, n_eqF, n_m1T, n_m1F, n_m1F', n_cl, n_add, n_mul, ro_at, ro_ro, up_at, up_up, t3, hcp]
  obtain ⟨r, e, M2, fl, ⟨Z1, W, s1, s2, f01, q1, q2, q3, q4, q5⟩, fr2, rfl⟩ := key
  refine ⟨ro M2 25 (pre 645 (M2 26) (M2 25)), fl, W, Z1, ?_, SetM_fr s1 (ro_ne _ _ (by decide)), fun q hq => ?_, f01, q1, q2, fun i j c h1 h2 h3 hy => q3 i j c h1 h2 h3 trivial hy, q4, q5, Fr_tr (Fr_wk fr2 (by decide) (by decide)) (Fr_ro (r := 25) _ (by decide) (by decide))⟩
  · unfold f_X12_goesOn g_X12_goesOn_4
    rw [oi.1]
    have hl := lp_for0 (f := b_X12_goesOn_4 (ma n 0) (nI 0)) (fun k => (nI k, E n h A (ro M 26 (pre k (fun _ => nI 0) (M 26))) R)) 645 (nI fl, E n h A (ro M2 25 (pre 645 (M2 26) (M2 25))) R) (fun k hk => ?_) ?_ (L := 100000) (by decide)
    · simp only [pre_0, ro_self] at hl
      exact hl
    · have hup := up_pre k (fun _ => nI 0) (M 26)
      unfold b_X12_goesOn_4 b0_X12_goesOn_4
      simp (disch := omega) only [↓grd_u, ↓bnd_e, ↓orf_u, ↓oif_u, ↓cal_u, ↓calX_u, ↓inrO_u, ↓reduceIte, EM, EMg, EMs, z0, oi, n_inbT, n_cntT, n_ltT, n_ltF, n_leT, n_leF, n_eqT, n_eqF, n_m1T, n_m1F, n_m1F', n_cl, n_add, n_mul, ro_at, ro_ro, up_at, up_up, ro_ne, up_ne, ro_sw, hup]
    · unfold b_X12_goesOn_4 b0_X12_goesOn_4
      rw [← hM1]
      simp (disch := omega) only [↓grd_u, ↓bnd_e, ↓orf_u, ↓oif_u, ↓cal_u, ↓calX_u, ↓inrO_u, ↓reduceIte, EM, EMg, EMs, z0, oi, n_inbT, n_cntT, n_ltT, n_ltF, n_leT, n_leF, n_eqT, n_eqF, n_m1T, n_m1F, n_m1F', n_cl, n_add, n_mul, ro_at, ro_ro, up_at, up_up, e]
  · rw [ro_at, pre_lt _ _ hq]
    exact s2 q hq
end MAPART
