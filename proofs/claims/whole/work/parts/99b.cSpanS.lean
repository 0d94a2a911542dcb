/-! the class: spans, signs and two parts -/
theorem sng : (Int32.ofInt (-1) < nI 0) = True := eq_true (by decide)
theorem sm0 : nI 0 + Int32.ofInt (-1) = Int32.ofInt (-1) := by decide
theorem eq_bits {x y : Nat} (h : ∀ j, x.testBit j = true ↔ y.testBit j = true) : x = y := Nat.eq_of_testBit_eq (fun j => by
  have := h j
  cases z : x.testBit j <;> cases z' : y.testBit j <;> simp_all)
theorem X_bit {x i : Nat} (hx : x < 8192) (hi : i < 13) (k : Nat) : (x &&& (4294967295 ^^^ 2 ^ i)).testBit k = true ↔ x.testBit k = true ∧ k ≠ i := by
  rw [and_b]
  by_cases hk : k < 32
  · rw [xr_bit hi hk, decide_eq_true_eq]
  · have : ¬ x.testBit k = true := fun z => by
      have := Nat.testBit_lt_two_pow (x := x) (i := k) (Nat.lt_of_lt_of_le hx (Nat.pow_le_pow_right (n := 2) (show 2 > 0 by decide) (show 13 ≤ k by omega)))
      rw [this] at z
      cases z
    exact ⟨fun z => absurd z.1 this, fun z => absurd z.1 this⟩
section CSPANS
variable {n : Nat} {h : mH} {A M : Nat → Nat → Int32} {R : Nat → Nat → Option Nat} {S : St} {a : Nat} {w : List Nat} {B : Lng}
theorem pls_bits {f cur : Nat → Nat} {i : Nat} (hf : Row B w f) (h12 : w.length ≤ 12) (hi : i ≤ w.length) {P : Lng} (hc : ∀ k, i < k → k ≤ w.length → ∀ j, (cur k).testBit j = true ↔ k ≤ j ∧ j ≤ w.length ∧ P (sub w k j)) (j : Nat) : (f i ||| efN cur (f i &&& (4294967295 ^^^ 2 ^ i)) (w.length + 1)).testBit j = true ↔ i ≤ j ∧ j ≤ w.length ∧ (B (sub w i j) ∨ ∃ k, i < k ∧ k ≤ j ∧ B (sub w i k) ∧ P (sub w k j)) := by
  obtain ⟨f1, f2⟩ := hf i hi
  rw [or_b, f2, efN_b]
  constructor
  · rintro (⟨a1, a2, a3⟩ | ⟨k, k1, k2, k3⟩)
    · exact ⟨a1, a2, Or.inl a3⟩
    · obtain ⟨x1, x2⟩ := (X_bit f1 (by omega) k).mp k2
      obtain ⟨y1, y2, y3⟩ := (f2 k).mp x1
      obtain ⟨z1, z2, z3⟩ := (hc k (by omega) y2 j).mp k3
      exact ⟨by omega, z2, Or.inr ⟨k, by omega, z1, y3, z3⟩⟩
  · rintro ⟨a1, a2, a3 | ⟨k, k1, k2, k3, k4⟩⟩
    · exact Or.inl ⟨a1, a2, a3⟩
    · exact Or.inr ⟨k, by omega, (X_bit f1 (by omega) k).mpr ⟨(f2 k).mpr ⟨by omega, by omega, k3⟩, by omega⟩, (hc k k1 (by omega) j).mpr ⟨k2, a2, k4⟩⟩
theorem sig_7 {f cur : Nat → Nat} {i : Nat} (hf : Row B w f) (h12 : w.length ≤ 12) (hi : i ≤ w.length) (hc : ∀ k, i < k → k ≤ w.length → cur k = rowF (lSig 7 B) w k) : f i ||| efN cur (f i &&& (4294967295 ^^^ 2 ^ i)) (w.length + 1) = rowF (lSig 7 B) w i := by
  have hR := rowF_R (B := lSig 7 B) h12
  refine eq_bits (fun j => ?_)
  rw [pls_bits hf h12 hi (P := lSig 7 B) (fun k h1 h2 j => by rw [hc k h1 h2]; exact (hR k h2).2 j), (hR i hi).2]
  have e7 : lSig 7 B = lPls B := rfl
  rw [e7]
  constructor
  · rintro ⟨a, b, c⟩
    exact ⟨a, b, (lPls_sub a b).mpr c⟩
  · rintro ⟨a, b, c⟩
    exact ⟨a, b, (lPls_sub a b).mp c⟩
theorem sig_6 {f cur : Nat → Nat} {i : Nat} (hf : Row B w f) (h12 : w.length ≤ 12) (hi : i ≤ w.length) (hc : ∀ k, i < k → k ≤ w.length → cur k = rowF (lSig 6 B) w k) : f i ||| efN cur (f i &&& (4294967295 ^^^ 2 ^ i)) (w.length + 1) ||| 2 ^ i = rowF (lSig 6 B) w i := by
  have hR := rowF_R (B := lSig 6 B) h12
  refine eq_bits (fun j => ?_)
  rw [or_b, pls_bits hf h12 hi (P := lSig 6 B) (fun k h1 h2 j => by rw [hc k h1 h2]; exact (hR k h2).2 j), (hR i hi).2, Nat.testBit_two_pow, decide_eq_true_eq]
  have e6 : lSig 6 B = fun w => w = [] ∨ lPls B w := rfl
  rw [e6]
  constructor
  · rintro (⟨a, b, c | ⟨k, k1, k2, k3, k4⟩⟩ | e)
    · exact ⟨a, b, Or.inr ((lPls_sub a b).mpr (Or.inl c))⟩
    · refine ⟨a, b, Or.inr ?_⟩
      rcases k4 with k4 | k4
      · have := sub_n b k4 k2
        rw [this] at k3
        exact (lPls_sub a b).mpr (Or.inl k3)
      · exact (lPls_sub a b).mpr (Or.inr ⟨k, k1, k2, k3, k4⟩)
    · rw [← e]
      exact ⟨Nat.le_refl _, hi, Or.inl (sub_0 w i)⟩
  · rintro ⟨a, b, c | c⟩
    · exact Or.inr (sub_n b c a)
    · rcases (lPls_sub a b).mp c with c | ⟨k, k1, k2, k3, k4⟩
      · exact Or.inl ⟨a, b, Or.inl c⟩
      · exact Or.inl ⟨a, b, Or.inr ⟨k, k1, k2, k3, Or.inr k4⟩⟩
theorem sig_8 {f : Nat → Nat} {i : Nat} (hf : Row B w f) (h12 : w.length ≤ 12) (hi : i ≤ w.length) : f i ||| 2 ^ i = rowF (lSig 8 B) w i := by
  have hR := rowF_R (B := lSig 8 B) h12
  refine eq_bits (fun j => ?_)
  rw [or_b, (hf i hi).2, (hR i hi).2, Nat.testBit_two_pow, decide_eq_true_eq]
  have e8 : lSig 8 B = fun w => w = [] ∨ B w := rfl
  rw [e8]
  constructor
  · rintro (⟨a, b, c⟩ | e)
    · exact ⟨a, b, Or.inr c⟩
    · rw [← e]
      exact ⟨Nat.le_refl _, hi, Or.inl (sub_0 w i)⟩
  · rintro ⟨a, b, c | c⟩
    · exact Or.inr (sub_n b c a)
    · exact Or.inl ⟨a, b, c⟩
theorem c_ends {q X : Nat} {cur : Nat → Nat} (h2 : A 94 2 = nI w.length) (h12 : w.length ≤ 12) (hq : q < 7) (hX : X < 8192) (hc : ∀ i, i ≤ w.length → A 95 (13 * q + i) = nI (cur i)) : f_X8_endsFrom (ca n 94) (nI q) (nI X) (E n h A M R) = some (nI (efN cur X (w.length + 1)), E n h A M R) := by
  unfold f_X8_endsFrom g_X8_endsFrom_5
  refine lp_for0 (f := b_X8_endsFrom_5 (ca n 94) (nI q) (nI X)) (fun k => (nI (efN cur X k), nI k, E n h A M R)) (w.length + 1) _ (fun k hk => ?_) ?_ (L := 100000) (by omega)
  · have hck := hc k (by omega)
    have hs := sb0 (s := X) (k := k) (by omega) (by omega)
    unfold b_X8_endsFrom_5 b0_X8_endsFrom_5 g_X8_endsFrom_45
    have es : efN cur X (k + 1) = if X.testBit k = true then efN cur X k ||| cur k else efN cur X k := rfl
    rw [es]
    by_cases e : X.testBit k = true
    · have ht : ((nI X >>> (nI k &&& 31)) &&& nI 1 = nI 0) = False := eq_false (fun z => hs.mp z e)
      rw [if_pos e]
      simp (disch := omega) only [↓grd_u, ↓bnd_e, ↓orf_u, ↓oif_u, ↓cal_u, ↓calX_u, ↓inrO_u, ↓reduceIte, EM, EMg, EMs, z0, oi, n_inbT, n_cntT, n_ltT, n_ltF, n_leT, n_leF, n_eqT, n_eqF, n_m1T, n_m1F, n_m1F', n_cl, n_add, n_mul, ro_at, ro_ro, up_at, up_up, EC, ECg, h2, ht, Nat.mul_comm q 13, hck, n_or]
    · have ht : ((nI X >>> (nI k &&& 31)) &&& nI 1 = nI 0) = True := eq_true (hs.mpr e)
      rw [if_neg e]
      simp (disch := omega) only [↓grd_u, ↓bnd_e, ↓orf_u, ↓oif_u, ↓cal_u, ↓calX_u, ↓inrO_u, ↓reduceIte, EM, EMg, EMs, z0, oi, n_inbT, n_cntT, n_ltT, n_ltF, n_leT, n_leF, n_eqT, n_eqF, n_m1T, n_m1F, n_m1F', n_cl, n_add, n_mul, ro_at, ro_ro, up_at, up_up, EC, ECg, h2, ht]
  · unfold b_X8_endsFrom_5 b0_X8_endsFrom_5 g_X8_endsFrom_51
    simp (disch := omega) only [↓grd_u, ↓bnd_e, ↓orf_u, ↓oif_u, ↓cal_u, ↓calX_u, ↓inrO_u, ↓reduceIte, EM, EMg, EMs, z0, oi, n_inbT, n_cntT, n_ltT, n_ltF, n_leT, n_leF, n_eqT, n_eqF, n_m1T, n_m1F, n_m1F', n_cl, n_add, n_mul, ro_at, ro_ro, up_at, up_up, EC, ECg, h2]
theorem c_sJoin {q c : Nat} {f f' : Nat → Nat} (hs : SpH A w (q + 2)) (hq : q + 1 < 7) (h12 : w.length ≤ 12) (hc : c = 4 ∨ c = 5) (hf : ∀ i, i ≤ w.length → A 95 (13 * q + i) = nI (f i) ∧ f i < 8192) (hf' : ∀ i, i ≤ w.length → A 95 (13 * (q + 1) + i) = nI (f' i)) :
    ∃ A', f_X8_join (ca n 94) (nI (chC c)) (E n h A M R) = some ((), E n h A' M R) ∧ SpH A' w (q + 1) ∧ A' 95 = tb (fun i => if c = 5 then f i ||| f' i else efN f' (f i) (w.length + 1)) (A 95) q 0 (w.length + 1) ∧ ∀ r, r ≠ 94 → r ≠ 95 → A' r = A r := by
  obtain ⟨s1, s2⟩ := hs
  obtain ⟨g, hg⟩ : ∃ g : Nat → Nat, g = fun i => if c = 5 then f i ||| f' i else efN f' (f i) (w.length + 1) := ⟨_, rfl⟩
  obtain ⟨A0, hA0⟩ : ∃ A0, A0 = ro A 94 (up (A 94) 1 (nI (q + 1))) := ⟨_, rfl⟩
  have a01 : A0 94 1 = nI (q + 1) := by rw [hA0, ro_at, up_at]
  have a02 : A0 94 2 = nI w.length := by rw [hA0, ro_at, up_ne _ _ (by decide)]; exact s2
  have a05 : A0 95 = A 95 := by rw [hA0, ro_ne _ _ (by decide)]
  have hl : g_X8_join_38 (ca n 94) (nI (chC c)) (nI q) (nI (q + 1)) (nI 0) (E n h A0 M R) = some ((), E n h (ro A0 95 (tb g (A 95) q 0 (w.length + 1))) M R) := by
    unfold g_X8_join_38
    have hh := lp_for0 (f := b_X8_join_38 (ca n 94) (nI (chC c)) (nI q) (nI (q + 1))) (fun k => (nI k, E n h (ro A0 95 (tb g (A 95) q 0 k)) M R)) (w.length + 1) ((), E n h (ro A0 95 (tb g (A 95) q 0 (w.length + 1))) M R) (fun k hk => ?_) ?_ (L := 100000) (by omega)
    · simp only [tb_0] at hh
      rw [← a05, ro_self] at hh
      rw [a05] at hh
      exact hh
    · obtain ⟨f1, f2⟩ := hf k (by omega)
      have f3 := hf' k (by omega)
      have r2 : (ro A0 95 (tb g (A 95) q 0 k)) 94 2 = nI w.length := by rw [ro_ne _ _ (by decide)]; exact a02
      have r1 : (ro A0 95 (tb g (A 95) q 0 k)) 95 (13 * q + k) = nI (f k) := by
        rw [ro_at]
        unfold tb
        rw [if_neg (by omega)]
        exact f1
      have r3 : ∀ i, i ≤ w.length → (ro A0 95 (tb g (A 95) q 0 k)) 95 (13 * (q + 1) + i) = nI (f' i) := fun i hi => by
        rw [ro_at]
        unfold tb
        rw [if_neg (by omega)]
        exact hf' i hi
      have r3k := r3 k (by omega)
      have hup := tb_up (f := g) (F := A 95) (q := q) (k := k)
      unfold b_X8_join_38 b0_X8_join_38 g_X8_join_110
      rcases hc with rfl | rfl
      · have hgk : g k = efN f' (f k) (w.length + 1) := by rw [hg]; rfl
        have hen := c_ends (n := n) (h := h) (A := ro A0 95 (tb g (A 95) q 0 k)) (M := M) (R := R) (q := q + 1) r2 h12 (by omega) f2 r3
        rw [hgk] at hup
        have e46 : chC 4 = 46 := rfl
        rw [e46]
        have r1' := r1
        rw [ro_at] at r1'
        simp (disch := omega) only [↓grd_u, ↓bnd_e, ↓orf_u, ↓oif_u, ↓cal_u, ↓calX_u, ↓inrO_u, ↓reduceIte, EM, EMg, EMs, z0, oi, n_inbT, n_cntT, n_ltT, n_ltF, n_leT, n_leF, n_eqT, n_eqF, n_m1T, n_m1F, n_m1F', n_cl, n_add, n_mul, ro_at, ro_ro, up_at, up_up, EC, ECg, ECs, r2, Nat.mul_comm q 13, r1', r1, hen, hup]
      · have hgk : g k = f k ||| f' k := by rw [hg]; rfl
        rw [hgk] at hup
        have e124 : chC 5 = 124 := rfl
        rw [e124]
        have r1' := r1
        rw [ro_at] at r1'
        have r3' := r3k
        rw [ro_at] at r3'
        simp (disch := omega) only [↓grd_u, ↓bnd_e, ↓orf_u, ↓oif_u, ↓cal_u, ↓calX_u, ↓inrO_u, ↓reduceIte, EM, EMg, EMs, z0, oi, n_inbT, n_cntT, n_ltT, n_ltF, n_leT, n_leF, n_eqT, n_eqF, n_m1T, n_m1F, n_m1F', n_cl, n_add, n_mul, ro_at, ro_ro, up_at, up_up, EC, ECg, ECs, r2, Nat.mul_comm q 13, Nat.mul_comm (q + 1) 13, r1', r3', n_or, hup]
    · have r2 : (ro A0 95 (tb g (A 95) q 0 (w.length + 1))) 94 2 = nI w.length := by rw [ro_ne _ _ (by decide)]; exact a02
      unfold b_X8_join_38 b0_X8_join_38 g_X8_join_117
      simp (disch := omega) only [↓grd_u, ↓bnd_e, ↓orf_u, ↓oif_u, ↓cal_u, ↓calX_u, ↓inrO_u, ↓reduceIte, EM, EMg, EMs, z0, oi, n_inbT, n_cntT, n_ltT, n_ltF, n_leT, n_leF, n_eqT, n_eqF, n_m1T, n_m1F, n_m1F', n_cl, n_add, n_mul, ro_at, ro_ro, up_at, up_up, EC, ECg, r2]
  refine ⟨ro A0 95 (tb g (A 95) q 0 (w.length + 1)), ?_, ⟨by rw [ro_ne _ _ (by decide)]; exact a01, by rw [ro_ne _ _ (by decide)]; exact a02⟩, by rw [ro_at, hg], fun r h1 h2 => by rw [ro_ne _ _ h2, hA0, ro_ne _ _ h1]⟩
  unfold f_X8_join
  simp (disch := omega) only [↓grd_u, ↓bnd_e, ↓orf_u, ↓oif_u, ↓cal_u, ↓calX_u, ↓inrO_u, ↓reduceIte, EM, EMg, EMs, z0, oi, n_inbT, n_cntT, n_ltT, n_ltF, n_leT, n_leF, n_eqT, n_eqF, n_m1T, n_m1F, n_m1F', n_cl, n_add, n_mul, ro_at, ro_ro, up_at, up_up, EC, ECg, ECs, s1, n_sub, Nat.add_sub_cancel]
  rw [show q + 2 - 1 = q + 1 from rfl, ← hA0, hl]
end CSPANS
