/-! six positions of one letter -/
theorem cs_inj : ∀ (n : Nat) (P Q : Nat → Bool) (f : Nat → Nat) (m : Nat), (∀ x, x < n → P x = true → f x < m ∧ Q (f x) = true) → (∀ x y, x < n → y < n → P x = true → P y = true → f x = f y → x = y) → cs P n ≤ cs Q m
  | 0, _, _, _, _, _, _ => Nat.zero_le _
  | n + 1, P, Q, f, m, h1, h2 => by
    by_cases q : P n = true
    · obtain ⟨a, b⟩ := h1 n (Nat.lt_succ_self n) q
      have ih := cs_inj n P (fun y => Q y && decide (y ≠ f n)) f m (fun x hx hp => by
        obtain ⟨c, d⟩ := h1 x (by omega) hp
        refine ⟨c, ?_⟩
        rw [Bool.and_eq_true, decide_eq_true_eq]
        refine ⟨d, fun z => ?_⟩
        have := h2 x n (by omega) (Nat.lt_succ_self n) hp q z
        omega) (fun x y hx hy => h2 x y (by omega) (by omega))
      have hlt : cs (fun y => Q y && decide (y ≠ f n)) m < cs Q m := cs_lt (fun x _ hx => by
        rw [Bool.and_eq_true] at hx
        exact hx.1) ⟨f n, a, by rw [b]; simp, b⟩
      show cs P n + (if P n = true then 1 else 0) ≤ _
      rw [if_pos q]
      omega
    · have ih := cs_inj n P Q f m (fun x hx => h1 x (by omega)) (fun x y hx hy => h2 x y (by omega) (by omega))
      show cs P n + (if P n = true then 1 else 0) ≤ _
      rw [if_neg q]
      exact ih
theorem cs_split (P Q : Nat → Bool) : ∀ n, cs (fun x => P x && Q x) n + cs (fun x => P x && !Q x) n = cs P n
  | 0 => rfl
  | n + 1 => by
    have ih := cs_split P Q n
    show cs (fun x => P x && Q x) n + (if (P n && Q n) = true then 1 else 0) + (cs (fun x => P x && !Q x) n + (if (P n && !Q n) = true then 1 else 0)) = cs P n + (if P n = true then 1 else 0)
    cases P n <;> cases Q n <;> simp <;> omega
/-- the sets that a row's letter leads to -/
def imN (fo : Nat → Nat) (m S : Nat) : Nat := folU fo S 7 &&& m
theorem imN_b {fo : Nat → Nat} {m S j : Nat} : (imN fo m S).testBit j = true ↔ (∃ k, k < 7 ∧ S.testBit k = true ∧ (fo k).testBit j = true) ∧ m.testBit j = true := by
  unfold imN
  rw [and_b, folU_b]
theorem sub_b {S m : Nat} (h : S &&& m = S) {j : Nat} (hj : S.testBit j = true) : m.testBit j = true := by
  rw [← h] at hj
  exact (and_b.mp hj).2
theorem eq_bit7 {x y : Nat} (hx : x < 128) (hy : y < 128) (h : ∀ j, j < 7 → x.testBit j = y.testBit j) : x = y := by
  apply Nat.eq_of_testBit_eq
  intro i
  by_cases q : i < 7
  · exact h i q
  · have e : ∀ z, z < 128 → z.testBit i = false := fun z hz => by
      cases w : z.testBit i with
      | false => rfl
      | true => exact absurd (bit7 hz w) q
    rw [e x hx, e y hy]
theorem f32 : ∀ m, m < 128 → ct m = 6 → ∀ x, x < 7 → m.testBit x = true → ((subs m).filter fun S => !S.testBit x).length = 32 ∧ ((subs m).filter fun S => S.testBit x).length = 32 := by decide +kernel
theorem f48c : ((List.range 128).all fun m => (List.range 7).all fun x => (List.range 7).all fun y => !(decide (ct m = 6) && m.testBit x && m.testBit y && decide (x ≠ y)) || (decide (((subs m).filter fun S => !S.testBit x || S.testBit y).length = 48) && decide (((subs m).filter fun S => !S.testBit x && !S.testBit y).length = 16))) = true := by decide +kernel
theorem f48 (m : Nat) (hm : m < 128) (h6 : ct m = 6) (x : Nat) (hx : x < 7) (mx : m.testBit x = true) (y : Nat) (hy : y < 7) (my : m.testBit y = true) (hxy : x ≠ y) : ((subs m).filter fun S => !S.testBit x || S.testBit y).length = 48 ∧ ((subs m).filter fun S => !S.testBit x && !S.testBit y).length = 16 := by
  have a := List.all_eq_true.mp (List.all_eq_true.mp (List.all_eq_true.mp f48c m (List.mem_range.mpr hm)) x (List.mem_range.mpr hx)) y (List.mem_range.mpr hy)
  rw [decide_eq_true h6, mx, my, decide_eq_true hxy] at a
  have a : (decide (((subs m).filter fun S => !S.testBit x || S.testBit y).length = 48) && decide (((subs m).filter fun S => !S.testBit x && !S.testBit y).length = 16)) = true := a
  rw [Bool.and_eq_true, decide_eq_true_eq, decide_eq_true_eq] at a
  exact a
theorem f41 : ∀ m, m < 128 → ct m = 6 → ∀ a, a < 8 → ∀ b, b < 8 → ((subs m).filter fun S => decide (ct S = a) || decide (ct S = b) || decide (ct S = 0)).length ≤ 41 := by decide +kernel
/-- if no row is the set of x alone: few images -/
theorem im_few {fo : Nat → Nat} {m x : Nat} (hm : m < 128) (h6 : ct m = 6) (hx : x < 7) (hmx : m.testBit x = true) (hno : ∀ i, i < 7 → m.testBit i = true → fo i &&& m ≠ 2 ^ x) : ∃ Lm : List Nat, Lm.length ≤ 48 ∧ (∀ S, S < 128 → S &&& m = S → imN fo m S ∈ Lm) ∧ ∀ S ∈ Lm, S ∈ subs m := by
  have im128 : ∀ S, imN fo m S < 128 := fun S => Nat.lt_of_le_of_lt Nat.and_le_right hm
  have imsub : ∀ S, imN fo m S ∈ subs m := fun S => mem_subs.mpr ⟨im128 S, by unfold imN; rw [and_self2]⟩
  by_cases h0 : ∃ i, i < 7 ∧ m.testBit i = true ∧ (fo i).testBit x = true
  · obtain ⟨i0, i7, im0, ix0⟩ := h0
    by_cases h1 : ∃ i, i < 7 ∧ m.testBit i = true ∧ (fo i).testBit x = true ∧ i ≠ i0
    · obtain ⟨i1, j7, im1, ix1, hne⟩ := h1
      refine ⟨((subs m).filter fun S => S.testBit x) ++ ((subs m).filter fun S => !S.testBit i1 && !S.testBit i0).map (imN fo m), ?_, fun S hS hsm => ?_, fun S hS => ?_⟩
      · rw [List.length_append, List.length_map, (f32 m hm h6 x hx hmx).2, (f48 m hm h6 i1 j7 im1 i0 i7 im0 hne).2]
        decide
      · by_cases q : (imN fo m S).testBit x = true
        · exact List.mem_append_left _ (List.mem_filter.mpr ⟨imsub S, q⟩)
        · refine List.mem_append_right _ (List.mem_map.mpr ⟨S, List.mem_filter.mpr ⟨mem_subs.mpr ⟨hS, hsm⟩, ?_⟩, rfl⟩)
          have n0 : S.testBit i0 = false := by
            cases z : S.testBit i0 with
            | false => rfl
            | true => exact absurd (imN_b.mpr ⟨⟨i0, i7, z, ix0⟩, hmx⟩) q
          have n1 : S.testBit i1 = false := by
            cases z : S.testBit i1 with
            | false => rfl
            | true => exact absurd (imN_b.mpr ⟨⟨i1, j7, z, ix1⟩, hmx⟩) q
          rw [n0, n1]
          rfl
      · rcases List.mem_append.mp hS with z | z
        · exact (List.mem_filter.mp z).1
        · obtain ⟨X, -, rfl⟩ := List.mem_map.mp z
          exact imsub X
    · -- one row holds x: it holds another one too
      have hy : ∃ y, y < 7 ∧ m.testBit y = true ∧ (fo i0).testBit y = true ∧ x ≠ y := by
        refine Decidable.byContradiction fun hn => hno i0 i7 im0 (eq_bit7 (Nat.lt_of_le_of_lt Nat.and_le_right hm) (pow7 hx) fun j hj => ?_)
        rw [Nat.testBit_two_pow]
        by_cases q : x = j
        · rw [← q, decide_eq_true rfl]
          exact and_b.mpr ⟨ix0, hmx⟩
        · rw [decide_eq_false q]
          cases z : (fo i0 &&& m).testBit j with
          | false => rfl
          | true =>
            obtain ⟨z1, z2⟩ := and_b.mp z
            exact absurd ⟨j, hj, z2, z1, q⟩ hn
      obtain ⟨y, y7, my, iy, hxy⟩ := hy
      refine ⟨(subs m).filter fun S => !S.testBit x || S.testBit y, by rw [(f48 m hm h6 x hx hmx y y7 my hxy).1]; decide, fun S hS hsm => List.mem_filter.mpr ⟨imsub S, ?_⟩, fun S hS => (List.mem_filter.mp hS).1⟩
      cases q : (imN fo m S).testBit x with
      | false => rfl
      | true =>
        obtain ⟨⟨k, k7, sk, fk⟩, -⟩ := imN_b.mp q
        have ek : k = i0 := Decidable.byContradiction fun z => h1 ⟨k, k7, sub_b hsm sk, fk, z⟩
        rw [ek] at sk
        rw [imN_b.mpr ⟨⟨i0, i7, sk, iy⟩, my⟩]
        rfl
  · refine ⟨(subs m).filter fun S => !S.testBit x, by rw [(f32 m hm h6 x hx hmx).1]; decide, fun S hS hsm => List.mem_filter.mpr ⟨imsub S, ?_⟩, fun S hS => (List.mem_filter.mp hS).1⟩
    cases q : (imN fo m S).testBit x with
    | false => rfl
    | true =>
      obtain ⟨⟨k, k7, sk, fk⟩, -⟩ := imN_b.mp q
      exact absurd ⟨k, k7, sub_b hsm sk, fk⟩ h0
/-- if each is: sizes stay -/
theorem im_perm {fo : Nat → Nat} {m : Nat} (hm : m < 128) (hall : ∀ x, x < 7 → m.testBit x = true → ∃ i, i < 7 ∧ m.testBit i = true ∧ fo i &&& m = 2 ^ x) {S : Nat} (hS : S < 128) (hsm : S &&& m = S) : ct (imN fo m S) = ct S := by
  have hcho : ∃ io : Nat → Nat, ∀ x, x < 7 → m.testBit x = true → io x < 7 ∧ m.testBit (io x) = true ∧ fo (io x) &&& m = 2 ^ x := by
    refine ⟨fun x => lf (fun i => m.testBit i && decide (fo i &&& m = 2 ^ x)) 7, fun x hx hmx => ?_⟩
    obtain ⟨i, i7, mi, fi⟩ := hall x hx hmx
    have hl : lf (fun i => m.testBit i && decide (fo i &&& m = 2 ^ x)) 7 ≤ i := lf_ge (by
      rw [Bool.and_eq_true, decide_eq_true_eq]
      exact ⟨mi, fi⟩)
    have ht := lf_T (fun i => m.testBit i && decide (fo i &&& m = 2 ^ x)) 7 (by omega)
    rw [Bool.and_eq_true, decide_eq_true_eq] at ht
    exact ⟨show lf (fun i => m.testBit i && decide (fo i &&& m = 2 ^ x)) 7 < 7 by omega, ht.1, ht.2⟩
  obtain ⟨io, hio⟩ := hcho
  have inj : ∀ x y, x < 7 → y < 7 → m.testBit x = true → m.testBit y = true → io x = io y → x = y := fun x y hx hy mx my e => by
    have a := (hio x hx mx).2.2
    have b := (hio y hy my).2.2
    rw [e, b] at a
    have h2 := congrArg (fun z => Nat.testBit z x) a
    simp only [Nat.testBit_two_pow] at h2
    rw [show decide True = true from rfl, decide_eq_true_eq] at h2
    exact h2.symm
  have surj : ∀ i, i < 7 → m.testBit i = true → ∃ x, x < 7 ∧ m.testBit x = true ∧ io x = i := fun i hi mi => by
    refine Decidable.byContradiction fun hn => ?_
    have h1 : cs (fun j => m.testBit j) 7 ≤ cs (fun j => m.testBit j && decide (j ≠ i)) 7 := cs_inj 7 _ _ io 7 (fun x hx mx => ⟨(hio x hx mx).1, by
      rw [Bool.and_eq_true, decide_eq_true_eq]
      exact ⟨(hio x hx mx).2.1, fun z => hn ⟨x, hx, mx, z⟩⟩⟩) (fun x y hx hy mx my => inj x y hx hy mx my)
    have h2 : cs (fun j => m.testBit j && decide (j ≠ i)) 7 < cs (fun j => m.testBit j) 7 := cs_lt (fun x _ hx => by
      rw [Bool.and_eq_true] at hx
      exact hx.1) ⟨i, hi, by simp, mi⟩
    omega
  have key : ∀ j, j < 7 → ((imN fo m S).testBit j = (m.testBit j && S.testBit (io j))) := fun j hj => by
    cases mj : m.testBit j with
    | false =>
      cases z : (imN fo m S).testBit j with
      | false => rfl
      | true => rw [(imN_b.mp z).2] at mj; cases mj
    | true =>
      obtain ⟨a1, a2, a3⟩ := hio j hj mj
      cases z : S.testBit (io j) with
      | true =>
        have : (fo (io j) &&& m).testBit j = true := by
          rw [a3, Nat.testBit_two_pow, decide_eq_true rfl]
        rw [imN_b.mpr ⟨⟨io j, a1, z, (and_b.mp this).1⟩, mj⟩]
        rfl
      | false =>
        cases w : (imN fo m S).testBit j with
        | false => rfl
        | true =>
          obtain ⟨⟨k, k7, sk, fk⟩, -⟩ := imN_b.mp w
          obtain ⟨x, x7, mx, ex⟩ := surj k k7 (sub_b hsm sk)
          have : (fo k &&& m).testBit j = true := and_b.mpr ⟨fk, mj⟩
          rw [← ex, (hio x x7 mx).2.2, Nat.testBit_two_pow, decide_eq_true_eq] at this
          rw [← this, ex, sk] at z
          cases z
  have e1 : ct (imN fo m S) = cs (fun j => m.testBit j && S.testBit (io j)) 7 := cs_eq key
  have e2 : ct S = cs (fun j => m.testBit j && S.testBit j) 7 := cs_eq fun j _ => by
    cases z : S.testBit j with
    | false => rw [Bool.and_false]
    | true => rw [sub_b hsm z]; rfl
  have s1 := cs_split (fun j => m.testBit j) (fun j => S.testBit (io j)) 7
  have s2 := cs_split (fun j => m.testBit j) (fun j => S.testBit j) 7
  have l1 : cs (fun j => m.testBit j && S.testBit (io j)) 7 ≤ cs (fun j => m.testBit j && S.testBit j) 7 := cs_inj 7 _ _ io 7 (fun x hx hh => by
    rw [Bool.and_eq_true] at hh
    refine ⟨(hio x hx hh.1).1, ?_⟩
    rw [Bool.and_eq_true]
    exact ⟨(hio x hx hh.1).2.1, hh.2⟩) (fun x y hx hy p q => by
    rw [Bool.and_eq_true] at p q
    exact inj x y hx hy p.1 q.1)
  have l2 : cs (fun j => m.testBit j && !S.testBit (io j)) 7 ≤ cs (fun j => m.testBit j && !S.testBit j) 7 := cs_inj 7 _ _ io 7 (fun x hx hh => by
    rw [Bool.and_eq_true] at hh
    refine ⟨(hio x hx hh.1).1, ?_⟩
    rw [Bool.and_eq_true]
    exact ⟨(hio x hx hh.1).2.1, hh.2⟩) (fun x y hx hy p q => by
    rw [Bool.and_eq_true] at p q
    exact inj x y hx hy p.1 q.1)
  rw [e1, e2]
  omega
theorem sub1 : ∀ m, m < 128 → ct m ≤ 1 → ∀ x, x < 128 → x &&& m = x → x = 0 ∨ x = m := by decide +kernel
/-- six positions of one letter, at most one of another -/
theorem gL_6 {g : Glu} (ok : GluOK g) {c c1 c2 : Nat} (hcc : ∀ d, d < 3 → d = c ∨ d = c1 ∨ d = c2) (hc : c < 3) (h6 : ct (g.2.2.2.2 c) = 6) (h1 : ct (g.2.2.2.2 c1) + ct (g.2.2.2.2 c2) ≤ 1) : gL g ≤ 60 := by
  have hm := ok.2.2.2.2 c
  obtain ⟨m, em⟩ : ∃ m, m = g.2.2.2.2 c := ⟨_, rfl⟩
  have l1 := subs_len _ (ok.2.2.2.2 c1)
  have l2 := subs_len _ (ok.2.2.2.2 c2)
  have l12 : (subs (g.2.2.2.2 c1)).length + (subs (g.2.2.2.2 c2)).length ≤ 3 := by
    have hp : ∀ a, a < 2 → ∀ b, b < 2 → a + b ≤ 1 → 2 ^ a + 2 ^ b ≤ 3 := by decide
    rw [l1, l2]
    exact hp _ (by omega) _ (by omega) h1
  have gn : ∀ S, S < 128 → gnext g S c = imN g.2.2.2.1 m S := fun S hS => by
    unfold gnext imN
    rw [if_neg (by omega), em]
  by_cases hall : ∀ x, x < 7 → m.testBit x = true → ∃ i, i < 7 ∧ m.testBit i = true ∧ g.2.2.2.1 i &&& m = 2 ^ x
  · -- sizes stay
    obtain ⟨W, eW⟩ : ∃ W, W = subs (g.2.2.2.2 c1) ++ subs (g.2.2.2.2 c2) := ⟨_, rfl⟩
    have lW : W.length ≤ 3 := by rw [eW, List.length_append]; exact l12
    have wz : ∀ q, q ∈ W → q = 0 ∨ q = (g.2.2.2.2 c1 ||| g.2.2.2.2 c2) := fun q hq => by
      rw [eW] at hq
      rcases List.mem_append.mp hq with z | z
      · obtain ⟨z1, z2⟩ := mem_subs.mp z
        rcases sub1 _ (ok.2.2.2.2 c1) (by omega) q z1 z2 with e | e
        · exact Or.inl e
        · by_cases q0 : g.2.2.2.2 c1 = 0
          · exact Or.inl (by rw [e, q0])
          · right
            have : ct (g.2.2.2.2 c1) ≠ 0 := fun z => q0 (ct_0 (ok.2.2.2.2 c1) z)
            rw [e, ct_0 (ok.2.2.2.2 c2) (by omega), Nat.or_zero]
      · obtain ⟨z1, z2⟩ := mem_subs.mp z
        rcases sub1 _ (ok.2.2.2.2 c2) (by omega) q z1 z2 with e | e
        · exact Or.inl e
        · by_cases q0 : g.2.2.2.2 c2 = 0
          · exact Or.inl (by rw [e, q0])
          · right
            have : ct (g.2.2.2.2 c2) ≠ 0 := fun z => q0 (ct_0 (ok.2.2.2.2 c2) z)
            rw [e, ct_0 (ok.2.2.2.2 c1) (by omega), Nat.zero_or]
    have g0 : ct (gnext g 0 c) = 0 := by
      rw [gn 0 (by decide)]
      have : imN g.2.2.2.1 m 0 = 0 := by
        refine Nat.eq_of_testBit_eq fun i => ?_
        rw [Nat.zero_testBit]
        cases z : (imN g.2.2.2.1 m 0).testBit i with
        | false => rfl
        | true =>
          obtain ⟨⟨k, -, sk, -⟩, -⟩ := imN_b.mp z
          rw [Nat.zero_testBit] at sk
          cases sk
      rw [this]
      rfl
    obtain ⟨a, ea⟩ : ∃ a, a = ct (gnext g 128 c) := ⟨_, rfl⟩
    obtain ⟨b, eb⟩ : ∃ b, b = ct (gnext g (g.2.2.2.2 c1 ||| g.2.2.2.2 c2) c) := ⟨_, rfl⟩
    have hl := gL_list (g := g) (Q := 128 :: (W ++ (subs m).filter fun S => decide (ct S = a) || decide (ct S = b) || decide (ct S = 0))) List.mem_cons_self (fun q hq d hd => by
      refine List.mem_cons_of_mem _ ?_
      rcases hcc d hd with rfl | rfl | rfl
      · refine List.mem_append_right _ (List.mem_filter.mpr ⟨by rw [em]; exact gnext_sub ok q _, ?_⟩)
        rw [Bool.or_eq_true, Bool.or_eq_true, decide_eq_true_eq, decide_eq_true_eq, decide_eq_true_eq]
        rcases List.mem_cons.mp hq with rfl | hq
        · exact Or.inl (Or.inl ea.symm)
        · rcases List.mem_append.mp hq with hq | hq
          · rcases wz q hq with rfl | rfl
            · exact Or.inr g0
            · exact Or.inl (Or.inr eb.symm)
          · obtain ⟨s1, s2⟩ := List.mem_filter.mp hq
            obtain ⟨s3, s4⟩ := mem_subs.mp s1
            rw [Bool.or_eq_true, Bool.or_eq_true, decide_eq_true_eq, decide_eq_true_eq, decide_eq_true_eq] at s2
            rw [gn q s3, im_perm (by rw [em]; exact hm) hall s3 s4]
            exact s2
      · exact List.mem_append_left _ (by rw [eW]; exact List.mem_append_left _ (gnext_sub ok q _))
      · exact List.mem_append_left _ (by rw [eW]; exact List.mem_append_right _ (gnext_sub ok q _)))
    have hf := f41 m (by rw [em]; exact hm) (by rw [em]; exact h6) a (by have := ct_7 (gnext g 128 c); omega) b (by have := ct_7 (gnext g (g.2.2.2.2 c1 ||| g.2.2.2.2 c2) c); omega)
    rw [List.length_cons, List.length_append] at hl
    omega
  · -- few images
    obtain ⟨x, hx, mx, hno⟩ : ∃ x, x < 7 ∧ m.testBit x = true ∧ ∀ i, i < 7 → m.testBit i = true → g.2.2.2.1 i &&& m ≠ 2 ^ x := by
      refine Classical.byContradiction fun hn => hall fun x hx mx => Classical.byContradiction fun hi => hn ⟨x, hx, mx, fun i i7 mi z => hi ⟨i, i7, mi, z⟩⟩
    obtain ⟨Lm, lL, hL, hLs⟩ := im_few (fo := g.2.2.2.1) (by rw [em]; exact hm) (by rw [em]; exact h6) hx mx hno
    obtain ⟨W, eW⟩ : ∃ W, W = subs (g.2.2.2.2 c1) ++ subs (g.2.2.2.2 c2) := ⟨_, rfl⟩
    have lW : W.length ≤ 3 := by rw [eW, List.length_append]; exact l12
    have hl := gL_list (g := g) (Q := 128 :: gnext g 128 c :: (W ++ (W.map (fun S => gnext g S c) ++ Lm))) List.mem_cons_self (fun q hq d hd => by
      refine List.mem_cons_of_mem _ ?_
      rcases hcc d hd with rfl | rfl | rfl
      · rcases List.mem_cons.mp hq with rfl | hq
        · exact List.mem_cons_self
        · refine List.mem_cons_of_mem _ (List.mem_append_right _ ?_)
          have img : ∀ S, S ∈ subs m → gnext g S _ ∈ Lm := fun S hS => by
            obtain ⟨s3, s4⟩ := mem_subs.mp hS
            rw [gn S s3]
            exact hL S s3 s4
          have inm : ∀ S, gnext g S _ ∈ subs m := fun S => by rw [em]; exact gnext_sub ok S _
          rcases List.mem_cons.mp hq with rfl | hq
          · exact List.mem_append_right _ (img _ (inm _))
          · rcases List.mem_append.mp hq with hq | hq
            · exact List.mem_append_left _ (List.mem_map.mpr ⟨q, hq, rfl⟩)
            · rcases List.mem_append.mp hq with hq | hq
              · obtain ⟨S, -, rfl⟩ := List.mem_map.mp hq
                exact List.mem_append_right _ (img _ (inm _))
              · exact List.mem_append_right _ (img _ (hLs q hq))
      · exact List.mem_cons_of_mem _ (List.mem_append_left _ (by rw [eW]; exact List.mem_append_left _ (gnext_sub ok q _)))
      · exact List.mem_cons_of_mem _ (List.mem_append_left _ (by rw [eW]; exact List.mem_append_right _ (gnext_sub ok q _))))
    rw [List.length_cons, List.length_cons, List.length_append, List.length_append, List.length_map] at hl
    omega
