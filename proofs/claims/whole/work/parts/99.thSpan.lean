/-! spans of a word: sets of ends as bits -/
theorem k31 : ∀ k, k < 31 → (nI k &&& 31) = nI k := by decide +kernel
theorem k31s : ∀ k, k < 31 → ((nI k).toBitVec.smod 32).toNat = k := by decide +kernel
theorem n_shr {s k : Nat} (hs : s < 2147483648) (hk : k < 31) : nI s >>> (nI k &&& 31) = nI (s / 2 ^ k) := by
  rw [k31 k hk]
  apply Int32.toBitVec_inj.1
  show (BitVec.ofNat 32 s).sshiftRight ((nI k).toBitVec.smod 32).toNat = BitVec.ofNat 32 (s / 2 ^ k)
  rw [k31s k hk]
  have hm : (BitVec.ofNat 32 s).msb = false := by
    rw [BitVec.msb_eq_false_iff_two_mul_lt]
    simp only [BitVec.toNat_ofNat]
    omega
  rw [BitVec.sshiftRight_eq_of_msb_false hm]
  apply BitVec.eq_of_toNat_eq
  rw [BitVec.toNat_ushiftRight, BitVec.toNat_ofNat, BitVec.toNat_ofNat, Nat.shiftRight_eq_div_pow, Nat.mod_eq_of_lt (by omega)]
  exact (Nat.mod_eq_of_lt (Nat.lt_of_le_of_lt (Nat.div_le_self _ _) (by omega))).symm
theorem sb0 {s k : Nat} (hs : s < 2147483648) (hk : k < 31) : ((nI s >>> (nI k &&& 31)) &&& nI 1 = nI 0) ↔ ¬ s.testBit k = true := by
  rw [n_shr hs hk, n_and, nI_eq (by rw [Nat.and_one_is_mod]; omega) (by decide), Nat.and_one_is_mod]
  have : s.testBit k = decide (s / 2 ^ k % 2 = 1) := Nat.testBit_eq_decide_div_mod_eq
  rw [this, decide_eq_true_eq]
  omega
theorem sclr : ∀ k, k < 13 → ((nI 1 <<< (nI k &&& 31)) ^^^ Int32.ofInt (-1)) = nI (4294967295 ^^^ 2 ^ k) := by decide +kernel
theorem xr_bit {k j : Nat} (hk : k < 13) (hj : j < 32) : (4294967295 ^^^ 2 ^ k).testBit j = decide (j ≠ k) := by
  rw [Nat.testBit_xor, show (4294967295 : Nat) = 2 ^ 32 - 1 by decide, Nat.testBit_two_pow_sub_one, Nat.testBit_two_pow, decide_eq_true hj]
  by_cases e : j = k
  · rw [e]; simp
  · rw [decide_eq_true e, decide_eq_false (fun z => e z.symm)]; rfl
/-- the part of a word -/
def sub (w : List Nat) (i j : Nat) : List Nat := (w.take j).drop i
theorem sub_len {w : List Nat} {i j : Nat} (hj : j ≤ w.length) : (sub w i j).length = j - i := by
  unfold sub
  rw [List.length_drop, List.length_take]
  omega
theorem sub_app {w : List Nat} {i k j : Nat} (h1 : i ≤ k) (h2 : k ≤ j) : sub w i j = sub w i k ++ sub w k j := by
  unfold sub
  have e1 : w.take k = (w.take j).take k := by rw [List.take_take, Nat.min_eq_left h2]
  rw [e1]
  have e2 := (List.take_append_drop k (w.take j)).symm
  obtain ⟨u, hu⟩ : ∃ u, u = w.take j := ⟨_, rfl⟩
  rw [← hu] at e2 ⊢
  by_cases hl : k ≤ u.length
  · have : (u.take k ++ u.drop k).drop i = (u.take k).drop i ++ u.drop k := List.drop_append_of_le_length (by rw [List.length_take]; omega)
    rw [List.take_append_drop] at this
    exact this
  · rw [List.take_of_length_le (by omega), List.drop_eq_nil_of_le (by omega : u.length ≤ k), List.append_nil]
theorem sub_n {w : List Nat} {i j : Nat} (hj : j ≤ w.length) (h : sub w i j = []) (hi : i ≤ j) : i = j := by
  have := sub_len (w := w) (i := i) hj
  rw [h] at this
  have : 0 = j - i := this
  omega
theorem sub_0 (w : List Nat) (i : Nat) : sub w i i = [] := by
  unfold sub
  exact List.drop_eq_nil_of_le (by rw [List.length_take]; omega)
theorem sub_split {w u v : List Nat} {i j : Nat} (hi : i ≤ j) (hj : j ≤ w.length) (h : sub w i j = u ++ v) : ∃ k, i ≤ k ∧ k ≤ j ∧ u = sub w i k ∧ v = sub w k j := by
  have hl := congrArg List.length h
  rw [sub_len hj, List.length_append] at hl
  have e := sub_app (w := w) (show i ≤ i + u.length by omega) (show i + u.length ≤ j by omega)
  rw [h] at e
  have h2 := sub_len (w := w) (i := i) (j := i + u.length) (by omega)
  obtain ⟨e1, e2⟩ := List.append_inj e (by rw [h2]; omega)
  exact ⟨i + u.length, by omega, by omega, e1, e2⟩
/-- a row: for each start the ends of the spans -/
def Row (B : Lng) (w : List Nat) (f : Nat → Nat) : Prop := ∀ i, i ≤ w.length → f i < 8192 ∧ ∀ j, (f i).testBit j = true ↔ i ≤ j ∧ j ≤ w.length ∧ B (sub w i j)
def efN (f : Nat → Nat) (X : Nat) : Nat → Nat
  | 0 => 0
  | k + 1 => if X.testBit k = true then efN f X k ||| f k else efN f X k
theorem efN_b {f : Nat → Nat} {X j : Nat} : ∀ k, (efN f X k).testBit j = true ↔ ∃ i, i < k ∧ X.testBit i = true ∧ (f i).testBit j = true
  | 0 => ⟨fun h => absurd ((Nat.zero_testBit j).symm.trans h) (by decide), fun ⟨i, h, _⟩ => absurd h (Nat.not_lt_zero _)⟩
  | k + 1 => by
    have ih := efN_b (f := f) (X := X) (j := j) k
    unfold efN
    by_cases e : X.testBit k = true
    · rw [if_pos e, or_b, ih]
      constructor
      · rintro (⟨i, h1, h2⟩ | h)
        · exact ⟨i, by omega, h2⟩
        · exact ⟨k, by omega, e, h⟩
      · rintro ⟨i, h1, h2, h3⟩
        by_cases e2 : i = k
        · rw [e2] at h3; exact Or.inr h3
        · exact Or.inl ⟨i, by omega, h2, h3⟩
    · rw [if_neg e, ih]
      constructor
      · rintro ⟨i, h1, h2⟩
        exact ⟨i, by omega, h2⟩
      · rintro ⟨i, h1, h2, h3⟩
        by_cases e2 : i = k
        · rw [e2] at h2; exact absurd h2 e
        · exact ⟨i, by omega, h2, h3⟩
theorem efN_lt {f : Nat → Nat} {X : Nat} : ∀ k, (∀ i, i < k → f i < 8192) → efN f X k < 8192
  | 0, _ => Nat.zero_lt_succ _
  | k + 1, h => by
    have ih := efN_lt (f := f) (X := X) k (fun i hi => h i (by omega))
    unfold efN
    split
    · exact Nat.or_lt_two_pow (n := 13) ih (h k (Nat.lt_succ_self k))
    · exact ih
theorem Row_or {B C : Lng} {w : List Nat} {f f' : Nat → Nat} (h : Row B w f) (h' : Row C w f') : Row (fun u => B u ∨ C u) w (fun i => f i ||| f' i) := fun i hi => ⟨Nat.or_lt_two_pow (n := 13) (h i hi).1 (h' i hi).1, fun j => by
  rw [or_b, (h i hi).2, (h' i hi).2]
  constructor
  · rintro (⟨a, b, c⟩ | ⟨a, b, c⟩)
    · exact ⟨a, b, Or.inl c⟩
    · exact ⟨a, b, Or.inr c⟩
  · rintro ⟨a, b, c | c⟩
    · exact Or.inl ⟨a, b, c⟩
    · exact Or.inr ⟨a, b, c⟩⟩
theorem Row_cat {B C : Lng} {w : List Nat} {f f' : Nat → Nat} (h : Row B w f) (h' : Row C w f') : Row (lCat B C) w (fun i => efN f' (f i) (w.length + 1)) := fun i hi => ⟨efN_lt _ (fun k hk => (h' k (by omega)).1), fun j => by
  rw [efN_b]
  constructor
  · rintro ⟨k, k1, k2, k3⟩
    obtain ⟨a1, a2, a3⟩ := ((h i hi).2 k).mp k2
    obtain ⟨b1, b2, b3⟩ := ((h' k a2).2 j).mp k3
    exact ⟨by omega, b2, _, _, sub_app a1 b1, a3, b3⟩
  · rintro ⟨a, b, u, v, e, hu, hv⟩
    obtain ⟨k, k1, k2, rfl, rfl⟩ := sub_split a b e
    exact ⟨k, by omega, ((h i hi).2 k).mpr ⟨k1, by omega, hu⟩, ((h' k (by omega)).2 j).mpr ⟨k2, b, hv⟩⟩⟩
theorem lPls_sub {B : Lng} {w : List Nat} {i j : Nat} (hi : i ≤ j) (hj : j ≤ w.length) : lPls B (sub w i j) ↔ B (sub w i j) ∨ ∃ k, i < k ∧ k ≤ j ∧ B (sub w i k) ∧ lPls B (sub w k j) := by
  constructor
  · rintro ⟨us, h1, h2, h3⟩
    induction us with
    | nil => exact absurd rfl h1
    | cons u us ih =>
      have h3 : sub w i j = u ++ List.flatten us := h3
      by_cases e : us = []
      · rw [e] at h3
        have h3 : sub w i j = u := by rw [h3]; exact List.append_nil u
        left
        rw [h3]
        exact h2 u List.mem_cons_self
      · by_cases eu : u = []
        · rw [eu] at h3
          exact ih e (fun v hv => h2 v (List.mem_cons_of_mem _ hv)) h3
        · obtain ⟨k, k1, k2, k3, k4⟩ := sub_split hi hj h3
          have hki : i ≠ k := fun z => by
            rw [← z, sub_0] at k3
            exact eu k3
          right
          refine ⟨k, by omega, k2, ?_, us, e, fun v hv => h2 v (List.mem_cons_of_mem _ hv), k4.symm⟩
          rw [← k3]
          exact h2 u List.mem_cons_self
  · rintro (h | ⟨k, k1, k2, k3, us, u1, u2, u3⟩)
    · exact ⟨[sub w i j], List.cons_ne_nil _ _, (fun u hu => by rw [List.mem_singleton.mp hu]; exact h), by simp⟩
    · refine ⟨sub w i k :: us, List.cons_ne_nil _ _, fun u hu => ?_, ?_⟩
      · rcases List.mem_cons.mp hu with z | z
        · rw [z]; exact k3
        · exact u2 u z
      · rw [sub_app (show i ≤ k by omega) k2, u3]
        rfl
