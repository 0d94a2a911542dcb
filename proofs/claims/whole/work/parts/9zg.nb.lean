/-! one letter: the lengths of the words are periodic -/
def prP (m P : Nat) : Bool := decide ((1 ≤ P ∧ P ≤ m ∧ m ≤ 7) ∨ (P = 6 ∧ 5 ≤ m ∧ m ≤ 7) ∨ (m = 7 ∧ (P = 10 ∨ P = 12)))
theorem prP_iff {m P : Nat} : prP m P = true ↔ ((1 ≤ P ∧ P ≤ m ∧ m ≤ 7) ∨ (P = 6 ∧ 5 ≤ m ∧ m ≤ 7) ∨ (m = 7 ∧ (P = 10 ∨ P = 12))) := decide_eq_true_iff
theorem prP_all : ((List.range 8).all fun m => (List.range 8).all fun m' => !(decide (m + m' ≤ 7)) || (List.range 13).all fun P => !(prP m P) || (List.range 13).all fun P' => !(prP m' P') || prP (m + m') (Nat.lcm P P')) = true := by decide +kernel
theorem prP_lcm0 (m : Nat) (hm : m < 8) (m' : Nat) (hm' : m' < 8) (h7 : m + m' ≤ 7) (P : Nat) (hP : P < 13) (h : prP m P = true) (P' : Nat) (hP' : P' < 13) (h' : prP m' P' = true) : prP (m + m') (Nat.lcm P P') = true := by
  have a := List.all_eq_true.mp (List.all_eq_true.mp prP_all m (List.mem_range.mpr hm)) m' (List.mem_range.mpr hm')
  rw [decide_eq_true h7, Bool.not_true, Bool.false_or] at a
  have a := List.all_eq_true.mp a P (List.mem_range.mpr hP)
  rw [h, Bool.not_true, Bool.false_or] at a
  have a := List.all_eq_true.mp a P' (List.mem_range.mpr hP')
  rw [h', Bool.not_true, Bool.false_or] at a
  exact a
theorem prP_le {m P : Nat} (h : prP m P = true) : 1 ≤ P ∧ P ≤ 12 ∧ m ≤ 7 := by
  have := prP_iff.mp h
  omega
theorem prP_lcm {m m' P P' : Nat} (h : prP m P = true) (h' : prP m' P' = true) (h7 : m + m' ≤ 7) : prP (m + m') (Nat.lcm P P') = true := by
  have := prP_le h
  have := prP_le h'
  exact prP_lcm0 m (by omega) m' (by omega) h7 P (by omega) h P' (by omega) h'
theorem per_k {a : Nat → Prop} {I P : Nat} (h : ∀ n, I ≤ n → (a n ↔ a (n + P))) (k : Nat) : ∀ n, I ≤ n → (a n ↔ a (n + P * k)) := by
  induction k with
  | zero => exact fun n _ => Iff.rfl
  | succ k ih =>
    intro n hn
    rw [Nat.mul_succ, ← Nat.add_assoc]
    exact (ih n hn).trans (h (n + P * k) (by omega))
theorem per_d {a : Nat → Prop} {I P Q : Nat} (h : ∀ n, I ≤ n → (a n ↔ a (n + P))) (hd : P ∣ Q) : ∀ n, I ≤ n → (a n ↔ a (n + Q)) := by
  obtain ⟨k, rfl⟩ := hd
  exact per_k h k
def Nbr (x m : Nat) (A : Lng) : Prop := (∃ n, 1 ≤ n ∧ n ≤ m ∧ A (List.replicate n x)) ∧ ∃ I P, prP m P = true ∧ I + 11 ≤ 13 * m ∧ ∀ n, I ≤ n → (A (List.replicate n x) ↔ A (List.replicate (n + P) x))
theorem Nbr_let (x : Nat) : Nbr x 1 (fun w => w = [x]) := by
  refine ⟨⟨1, Nat.le_refl _, Nat.le_refl _, rfl⟩, 2, 1, by decide, by decide, fun n hn => ⟨fun h => ?_, fun h => ?_⟩⟩
  · have := congrArg List.length h
    rw [List.length_replicate, List.length_singleton] at this
    omega
  · have := congrArg List.length h
    rw [List.length_replicate, List.length_singleton] at this
    omega
theorem Nbr_opt {x m : Nat} {A : Lng} (h1 : 1 ≤ m) (h : Nbr x m A) : Nbr x m (fun w => w = [] ∨ A w) := by
  obtain ⟨⟨l, l1, l2, l3⟩, I, P, hP, hI, hn⟩ := h
  have nn : ∀ n, 1 ≤ n → List.replicate n x ≠ [] := fun n hn e => by
    have := congrArg List.length e
    rw [List.length_replicate, List.length_nil] at this
    omega
  refine ⟨⟨l, l1, l2, Or.inr l3⟩, max I 1, P, hP, by omega, fun n h => ⟨fun z => ?_, fun z => ?_⟩⟩
  · exact Or.inr ((hn n (by omega)).mp (z.resolve_left (nn _ (by omega))))
  · exact Or.inr ((hn n (by omega)).mpr (z.resolve_left (nn _ (by omega))))
theorem Nbr_un {x m m' : Nat} {A B : Lng} (h7 : m + m' ≤ 7) (h : Nbr x m A) (h' : Nbr x m' B) : Nbr x (m + m') (fun w => A w ∨ B w) := by
  obtain ⟨⟨l, l1, l2, l3⟩, I, P, hP, hI, hn⟩ := h
  obtain ⟨-, I', P', hP', hI', hn'⟩ := h'
  have e1 := per_d (a := fun n => A (List.replicate n x)) hn (Nat.dvd_lcm_left P P')
  have e2 := per_d (a := fun n => B (List.replicate n x)) hn' (Nat.dvd_lcm_right P P')
  refine ⟨⟨l, l1, by omega, Or.inl l3⟩, max I I', Nat.lcm P P', prP_lcm hP hP' h7, by omega, fun n h => ?_⟩
  have z1 := e1 n (by omega)
  have z2 := e2 n (by omega)
  exact ⟨fun z => z.imp z1.mp z2.mp, fun z => z.imp z1.mpr z2.mpr⟩
theorem cat_n {x : Nat} {A B : Lng} (n : Nat) : lCat A B (List.replicate n x) ↔ ∃ i j, i + j = n ∧ A (List.replicate i x) ∧ B (List.replicate j x) := by
  constructor
  · rintro ⟨u, v, e, hu, hv⟩
    obtain ⟨e1, e2, e3⟩ := List.append_eq_replicate_iff.mp e.symm
    exact ⟨u.length, v.length, e1, by rw [← e2]; exact hu, by rw [← e3]; exact hv⟩
  · rintro ⟨i, j, rfl, hu, hv⟩
    exact ⟨_, _, List.replicate_append_replicate.symm, hu, hv⟩
theorem Nbr_cat {x m m' : Nat} {A B : Lng} (h7 : m + m' ≤ 7) (h : Nbr x m A) (h' : Nbr x m' B) : Nbr x (m + m') (lCat A B) := by
  obtain ⟨⟨l, l1, l2, l3⟩, I, P, hP, hI, hn⟩ := h
  obtain ⟨⟨l', l1', l2', l3'⟩, I', P', hP', hI', hn'⟩ := h'
  have e1 := per_d (a := fun n => A (List.replicate n x)) hn (Nat.dvd_lcm_left P P')
  have e2 := per_d (a := fun n => B (List.replicate n x)) hn' (Nat.dvd_lcm_right P P')
  have ok := prP_lcm hP hP' h7
  have ok2 := prP_le ok
  obtain ⟨Q, hQ⟩ : ∃ Q, Q = Nat.lcm P P' := ⟨_, rfl⟩
  rw [← hQ] at e1 e2 ok ok2
  refine ⟨⟨l + l', by omega, by omega, (cat_n _).mpr ⟨l, l', rfl, l3, l3'⟩⟩, I + I' + Q - 1, Q, ok, by omega, fun n h => ⟨fun z => ?_, fun z => ?_⟩⟩
  · obtain ⟨i, j, e, a, b⟩ := (cat_n _).mp z
    by_cases q : I ≤ i
    · exact (cat_n _).mpr ⟨i + Q, j, by omega, (e1 i q).mp a, b⟩
    · exact (cat_n _).mpr ⟨i, j + Q, by omega, a, (e2 j (by omega)).mp b⟩
  · obtain ⟨i, j, e, a, b⟩ := (cat_n _).mp z
    by_cases q : I + Q ≤ i
    · refine (cat_n _).mpr ⟨i - Q, j, by omega, (e1 (i - Q) (by omega)).mpr ?_, b⟩
      rw [Nat.sub_add_cancel (by omega)]
      exact a
    · refine (cat_n _).mpr ⟨i, j - Q, by omega, a, (e2 (j - Q) (by omega)).mpr ?_⟩
      rw [Nat.sub_add_cancel (by omega)]
      exact b
theorem lPls_app {A : Lng} {u v : List Nat} (h : lPls A u) (h' : lPls A v) : lPls A (u ++ v) := by
  obtain ⟨us, n, a, rfl⟩ := h
  obtain ⟨vs, -, b, rfl⟩ := h'
  refine ⟨us ++ vs, fun z => n (List.append_eq_nil_iff.mp z).1, fun w hw => ?_, by rw [List.flatten_append]⟩
  rcases List.mem_append.mp hw with hw | hw
  · exact a w hw
  · exact b w hw
theorem lPls_k {A : Lng} {x l : Nat} (hl : A (List.replicate l x)) {r : Nat} (hr : lPls A (List.replicate r x)) (k : Nat) : lPls A (List.replicate (r + l * k) x) := by
  induction k with
  | zero => exact hr
  | succ k ih =>
    rw [Nat.mul_succ, ← Nat.add_assoc, ← List.replicate_append_replicate]
    exact lPls_app ih (lPls_1 hl)
theorem mul_eqs {l x y r r' : Nat} (h : r < l) (h' : r' < l) (e : x * l + r = y * l + r') : x = y ∧ r = r' := by
  have a : ∀ x r, r < l → (x * l + r) / l = x := fun x r h => by
    rw [Nat.add_comm, Nat.add_mul_div_right _ _ (by omega), Nat.div_eq_of_lt h, Nat.zero_add]
  have e1 := congrArg (· / l) e
  have e1 : (x * l + r) / l = (y * l + r') / l := e1
  rw [a x r h, a y r' h'] at e1
  rw [e1] at e
  exact ⟨e1, by omega⟩
/-- a long word of a repeated pattern can be cut by a multiple of l -/
theorem cut {x m l n : Nat} {A : Lng} (ht : Trc x m A) (h1 : 1 ≤ l) (hl : m * l < n) (hA : A (List.replicate n x)) : ∃ r k, 1 ≤ k ∧ n = r + l * k ∧ A (List.replicate r x) := by
  obtain ⟨T, t1, t2, t3⟩ := ht 0
  obtain ⟨t, a, e⟩ := (t3 _).mp hA
  have len : t.length = n := by
    have := congrArg List.length e
    rw [List.length_replicate, List.length_replicate] at this
    exact this.symm
  obtain ⟨i, j, hij, hj, hf⟩ := pig (m * l) (fun i => t.getD i 0 * l + i % l) (fun i hi => by
    obtain ⟨u, v, e, -⟩ := sp_at t i (by omega)
    have h0 := (t1 t a (t.getD i 0) (by
      have := mem_mid u v (t.getD i 0)
      rw [← e] at this
      exact this)).2
    rw [Nat.zero_add] at h0
    have h2 := Nat.mod_lt i h1
    have h3 : (t.getD i 0 + 1) * l ≤ m * l := Nat.mul_le_mul_right l h0
    rw [Nat.succ_mul] at h3
    show t.getD i 0 * l + i % l < m * l
    omega)
  obtain ⟨f1, f2⟩ := mul_eqs (Nat.mod_lt i h1) (Nat.mod_lt j h1) hf
  obtain ⟨k, hk⟩ : l ∣ j - i := Nat.dvd_of_mod_eq_zero (Nat.sub_mod_eq_zero_of_mod_eq f2.symm)
  obtain ⟨u, v, e1, lu⟩ := sp_at t i (by omega)
  obtain ⟨u', v', e2, lu'⟩ := sp_at t j (by omega)
  have g1 : T (u ++ t.getD i 0 :: v) := by rw [← e1]; exact a
  have g2 : T (u' ++ t.getD i 0 :: v') := by rw [f1, ← e2]; exact a
  have g3 := t2 _ _ _ _ _ g1 g2
  have len' : u'.length + (v'.length + 1) = n := by
    have := congrArg List.length e2
    rw [List.length_append, List.length_cons, len] at this
    exact this.symm
  have k1 : 1 ≤ k := by
    refine Nat.pos_of_ne_zero fun z => ?_
    rw [z, Nat.mul_zero] at hk
    omega
  refine ⟨u.length + (v'.length + 1), k, k1, by omega, (t3 _).mpr ⟨_, g3, ?_⟩⟩
  rw [List.length_append, List.length_cons]
theorem Nbr_pls {x m : Nat} {A : Lng} (h1 : 1 ≤ m) (h7 : m ≤ 7) (ht : Trc x m A) (h : Nbr x m A) : Nbr x m (lPls A) := by
  obtain ⟨⟨l, l1, l2, l3⟩, -⟩ := h
  have hle : (m - 1) * l ≤ (m - 1) * 7 := Nat.mul_le_mul_left _ (by omega)
  refine ⟨⟨l, l1, l2, lPls_1 l3⟩, (m - 1) * l + 1, l, prP_iff.mpr (Or.inl ⟨l1, l2, h7⟩), by omega, fun n hn => ⟨fun z => lPls_k l3 z 1 |> fun y => (by rw [Nat.mul_one] at y; exact y), fun z => ?_⟩⟩
  have e : m * l = (m - 1) * l + l := by
    rw [← Nat.succ_mul]
    congr 1
    omega
  obtain ⟨r, k, k1, e2, hr⟩ := cut (Trc_pls ht) l1 (show m * l < n + l by omega) z
  have := lPls_k l3 hr (k - 1)
  have e3 : l * k = l * (k - 1) + l := by
    rw [← Nat.mul_succ]
    congr 1
    omega
  rw [show r + l * (k - 1) = n by omega] at this
  exact this
