/-! the positions of a list, part by part -/
def pth (fo : Nat → Nat) (P : Nat → Prop) (m k : Nat) : Prop := match m with
  | 0 => P k
  | m + 1 => ∃ j, (fo k).testBit j = true ∧ pth fo P m j
theorem pth_0 (fo : Nat → Nat) (P : Nat → Prop) (k : Nat) : pth fo P 0 k ↔ P k := by unfold pth; exact Iff.rfl
theorem pth_s (fo : Nat → Nat) (P : Nat → Prop) (m k : Nat) : pth fo P (m + 1) k ↔ ∃ j, (fo k).testBit j = true ∧ pth fo P m j := by
  constructor
  · intro h; unfold pth at h; exact h
  · intro h; unfold pth; exact h
def PT (fo : Nat → Nat) (P : Nat → Prop) (k : Nat) : Prop := ∃ m, pth fo P m k
theorem PT_0 {fo : Nat → Nat} {P : Nat → Prop} {k : Nat} (h : P k) : PT fo P k := ⟨0, (pth_0 ..).mpr h⟩
theorem PT_s {fo : Nat → Nat} {P : Nat → Prop} {k j : Nat} (h : (fo k).testBit j = true) (hj : PT fo P j) : PT fo P k := by
  obtain ⟨m, hm⟩ := hj
  exact ⟨m + 1, (pth_s ..).mpr ⟨j, h, hm⟩⟩
theorem PT_tr {fo : Nat → Nat} {P Q : Nat → Prop} {k : Nat} (h : PT fo P k) (hq : ∀ j, P j → PT fo Q j) : PT fo Q k := by
  obtain ⟨m, hm⟩ := h
  induction m generalizing k with
  | zero => exact hq k ((pth_0 ..).mp hm)
  | succ m ih =>
    obtain ⟨j, h1, h2⟩ := (pth_s ..).mp hm
    exact PT_s h1 (ih h2)
theorem PT_mo {fo fo' : Nat → Nat} {P Q : Nat → Prop} {a b : Nat} (hcl : ∀ k j, a ≤ k → k < b → (fo k).testBit j = true → a ≤ j ∧ j < b) (hsub : ∀ k j, a ≤ k → k < b → (fo k).testBit j = true → (fo' k).testBit j = true) (hP : ∀ j, a ≤ j → j < b → P j → Q j) {k : Nat} (h1 : a ≤ k) (h2 : k < b) (h : PT fo P k) : PT fo' Q k := by
  obtain ⟨m, hm⟩ := h
  induction m generalizing k with
  | zero => exact PT_0 (hP k h1 h2 ((pth_0 ..).mp hm))
  | succ m ih =>
    obtain ⟨j, q1, q2⟩ := (pth_s ..).mp hm
    obtain ⟨r1, r2⟩ := hcl k j h1 h2 q1
    exact PT_s (hsub k j h1 h2 q1) (ih r1 r2 q2)
/-- a part: positions from a to b -/
def Cor (a b : Nat) (fo ol : Nat → Nat) (v : Nat × Nat × Nat) (A : Lng) : Prop :=
  a < b ∧ v.1 ≤ 1 ∧ (∀ k, v.2.1.testBit k = true → a ≤ k ∧ k < b) ∧ (∀ k, v.2.2.testBit k = true → a ≤ k ∧ k < b) ∧ (∀ k j, a ≤ k → k < b → (fo k).testBit j = true → a ≤ j ∧ j < b) ∧ (∀ k, a ≤ k → k < b → ∃ c, c < 3 ∧ (ol c).testBit k = true) ∧ (∀ w, A w ↔ pl fo ol v w) ∧ ∀ k, a ≤ k → k < b → (∃ i, v.2.1.testBit i = true ∧ PT fo (fun j => j = k) i) ∧ PT fo (fun j => v.2.2.testBit j = true) k
theorem Cor_up {a b : Nat} {fo fo' ol ol' : Nat → Nat} {v : Nat × Nat × Nat} {A : Lng} (h : Cor a b fo ol v A) (hf : ∀ k, a ≤ k → k < b → fo' k = fo k) (ho : ∀ c k, a ≤ k → k < b → (ol' c).testBit k = (ol c).testBit k) : Cor a b fo' ol' v A := by
  obtain ⟨h1, h2, h3, h4, h5, h6, h7, h8⟩ := h
  refine ⟨h1, h2, h3, h4, fun k j q1 q2 q3 => h5 k j q1 q2 (by rw [← hf k q1 q2]; exact q3), fun k q1 q2 => ?_, fun w => (h7 w).trans (pl_loc hf h5 ho h3 w).symm, fun k q1 q2 => ?_⟩
  · obtain ⟨c, c1, c2⟩ := h6 k q1 q2
    exact ⟨c, c1, by rw [ho c k q1 q2]; exact c2⟩
  · obtain ⟨⟨i, i1, i2⟩, i3⟩ := h8 k q1 q2
    have sub : ∀ k j, a ≤ k → k < b → (fo k).testBit j = true → (fo' k).testBit j = true := fun k j q1 q2 q3 => by rw [hf k q1 q2]; exact q3
    exact ⟨⟨i, i1, PT_mo h5 sub (fun j _ _ z => z) (h3 i i1).1 (h3 i i1).2 i2⟩, PT_mo h5 sub (fun j _ _ z => z) q1 q2 i3⟩
theorem Cor_sig {a b c : Nat} {fo ol : Nat → Nat} {v : Nat × Nat × Nat} {A : Lng} (h : Cor a b fo ol v A) (c1 : 6 ≤ c) (c2 : c ≤ 8) : Cor a b (if c = 8 then fo else folw fo v.2.2 v.2.1) ol (if c = 7 then v.1 else 1, v.2.1, v.2.2) (lSig c A) := by
  obtain ⟨h1, h2, h3, h4, h5, h6, h7, h8⟩ := h
  have sub : ∀ k j, a ≤ k → k < b → (fo k).testBit j = true → ((if c = 8 then fo else folw fo v.2.2 v.2.1) k).testBit j = true := fun k j _ _ q => by
    by_cases e : c = 8
    · rw [if_pos e]; exact q
    · rw [if_neg e]; exact folw_b.mpr (Or.inl q)
  refine ⟨h1, ?_, h3, h4, fun k j q1 q2 q3 => ?_, h6, fun w => ?_, fun k q1 q2 => ?_⟩
  · dsimp only
    split <;> omega
  · by_cases e : c = 8
    · rw [if_pos e] at q3; exact h5 k j q1 q2 q3
    · rw [if_neg e] at q3
      rcases folw_b.mp q3 with q | ⟨-, q⟩
      · exact h5 k j q1 q2 q
      · exact h3 j q
  · unfold lSig
    cases w with
    | nil =>
      rw [pl_n]
      by_cases e6 : c = 6
      · rw [if_pos e6]
        exact ⟨fun _ => by rw [if_neg (by omega)], fun _ => Or.inl rfl⟩
      · rw [if_neg e6]
        by_cases e7 : c = 7
        · rw [if_pos e7, lPls_n, h7, pl_n]
          dsimp only
          rw [if_pos e7]
        · rw [if_neg e7]
          exact ⟨fun _ => by rw [if_neg e7], fun _ => Or.inl rfl⟩
    | cons x w =>
      rw [pl_c]
      dsimp only
      by_cases e8 : c = 8
      · rw [if_neg (by omega), if_neg (by omega), if_pos e8]
        constructor
        · rintro (q | q)
          · cases q
          · exact (pl_c ..).mp ((h7 _).mp q)
        · exact fun q => Or.inr ((h7 _).mpr ((pl_c ..).mpr q))
      · rw [if_neg e8]
        have key : lPls A (x :: w) ↔ ∃ j, v.2.1.testBit j = true ∧ (ol x).testBit j = true ∧ pw (folw fo v.2.2 v.2.1) ol v.2.2 j w := by
          rw [lPls_c]
          constructor
          · rintro ⟨u, us, e, s1, s2⟩
            obtain ⟨j, t1, t2, t3⟩ := (pl_c ..).mp ((h7 _).mp s1)
            obtain ⟨r1, r2⟩ := h3 j t1
            exact ⟨j, t1, t2, (pw_str h5 h3 w j r1 r2).mpr ⟨u, us, e, t3, fun v hv => ⟨(s2 v hv).1, (h7 v).mp (s2 v hv).2⟩⟩⟩
          · rintro ⟨j, t1, t2, t3⟩
            obtain ⟨r1, r2⟩ := h3 j t1
            obtain ⟨u, us, e, s1, s2⟩ := (pw_str h5 h3 w j r1 r2).mp t3
            exact ⟨u, us, e, (h7 _).mpr ((pl_c ..).mpr ⟨j, t1, t2, s1⟩), fun v hv => ⟨(s2 v hv).1, (h7 v).mpr (s2 v hv).2⟩⟩
        by_cases e6 : c = 6
        · rw [if_pos e6, ← key]
          exact ⟨fun z => z.resolve_left (fun q => nomatch q), Or.inr⟩
        · rw [if_neg e6, if_pos (by omega), key]
  · obtain ⟨⟨i, i1, i2⟩, i3⟩ := h8 k q1 q2
    exact ⟨⟨i, i1, PT_mo h5 sub (fun j _ _ z => z) (h3 i i1).1 (h3 i i1).2 i2⟩, PT_mo h5 sub (fun j _ _ z => z) q1 q2 i3⟩
theorem or_b {x y k : Nat} : (x ||| y).testBit k = true ↔ x.testBit k = true ∨ y.testBit k = true := by rw [Nat.testBit_or, Bool.or_eq_true]
theorem Cor_or {a b d : Nat} {fo ol : Nat → Nat} {x y : Nat × Nat × Nat} {A B : Lng} (hx : Cor a b fo ol x A) (hy : Cor b d fo ol y B) : Cor a d fo ol (x.1 ||| y.1, x.2.1 ||| y.2.1, x.2.2 ||| y.2.2) (fun w => A w ∨ B w) := by
  obtain ⟨x1, x2, x3, x4, x5, x6, x7, x8⟩ := hx
  obtain ⟨y1, y2, y3, y4, y5, y6, y7, y8⟩ := hy
  have e1 : x.1 ||| y.1 = 1 ↔ x.1 = 1 ∨ y.1 = 1 := by
    have p : x.1 = 0 ∨ x.1 = 1 := by omega
    have q : y.1 = 0 ∨ y.1 = 1 := by omega
    rcases p with p | p <;> rcases q with q | q <;> rw [p, q] <;> decide
  have hX : ∀ w k, a ≤ k → k < b → (pw fo ol (x.2.2 ||| y.2.2) k w ↔ pw fo ol x.2.2 k w) := pw_loc (fun _ _ _ => rfl) x5 (fun _ _ _ _ => rfl) (fun k q1 q2 => by
    have : ¬ y.2.2.testBit k = true := fun z => by have := y4 k z; omega
    rw [Nat.testBit_or]; simp_all)
  have hY : ∀ w k, b ≤ k → k < d → (pw fo ol (x.2.2 ||| y.2.2) k w ↔ pw fo ol y.2.2 k w) := pw_loc (fun _ _ _ => rfl) y5 (fun _ _ _ _ => rfl) (fun k q1 q2 => by
    have : ¬ x.2.2.testBit k = true := fun z => by have := x4 k z; omega
    rw [Nat.testBit_or]; simp_all)
  refine ⟨by omega, ?_, fun k q => ?_, fun k q => ?_, fun k j q1 q2 q3 => ?_, fun k q1 q2 => ?_, fun w => ?_, fun k q1 q2 => ?_⟩
  · show x.1 ||| y.1 ≤ 1
    have p : x.1 = 0 ∨ x.1 = 1 := by omega
    have q : y.1 = 0 ∨ y.1 = 1 := by omega
    rcases p with p | p <;> rcases q with q | q <;> rw [p, q] <;> decide
  · rcases or_b.mp q with q | q
    · have := x3 k q; omega
    · have := y3 k q; omega
  · rcases or_b.mp q with q | q
    · have := x4 k q; omega
    · have := y4 k q; omega
  · by_cases e : k < b
    · have := x5 k j q1 e q3; omega
    · have := y5 k j (by omega) q2 q3; omega
  · by_cases e : k < b
    · exact x6 k q1 e
    · exact y6 k (by omega) q2
  · show A w ∨ B w ↔ _
    cases w with
    | nil => rw [pl_n, x7, y7, pl_n, pl_n]; exact e1.symm
    | cons c w =>
      rw [pl_c, x7, y7, pl_c, pl_c]
      constructor
      · rintro (⟨j, t1, t2, t3⟩ | ⟨j, t1, t2, t3⟩)
        · exact ⟨j, or_b.mpr (Or.inl t1), t2, (hX w j (x3 j t1).1 (x3 j t1).2).mpr t3⟩
        · exact ⟨j, or_b.mpr (Or.inr t1), t2, (hY w j (y3 j t1).1 (y3 j t1).2).mpr t3⟩
      · rintro ⟨j, t1, t2, t3⟩
        rcases or_b.mp t1 with t | t
        · exact Or.inl ⟨j, t, t2, (hX w j (x3 j t).1 (x3 j t).2).mp t3⟩
        · exact Or.inr ⟨j, t, t2, (hY w j (y3 j t).1 (y3 j t).2).mp t3⟩
  · by_cases e : k < b
    · obtain ⟨⟨i, i1, i2⟩, i3⟩ := x8 k q1 e
      exact ⟨⟨i, or_b.mpr (Or.inl i1), i2⟩, PT_mo x5 (fun _ _ _ _ z => z) (fun j _ _ z => or_b.mpr (Or.inl z)) q1 e i3⟩
    · obtain ⟨⟨i, i1, i2⟩, i3⟩ := y8 k (by omega) q2
      exact ⟨⟨i, or_b.mpr (Or.inr i1), i2⟩, PT_mo y5 (fun _ _ _ _ z => z) (fun j _ _ z => or_b.mpr (Or.inr z)) (by omega) q2 i3⟩
theorem ifor_b {p : Prop} [Decidable p] {x y k : Nat} : (if p then x ||| y else x).testBit k = true ↔ x.testBit k = true ∨ (p ∧ y.testBit k = true) := by
  by_cases e : p
  · rw [if_pos e, or_b]
    exact ⟨fun z => z.elim Or.inl (fun q => Or.inr ⟨e, q⟩), fun z => z.elim Or.inl (fun q => Or.inr q.2)⟩
  · rw [if_neg e]
    exact ⟨Or.inl, fun z => z.elim id (fun q => absurd q.1 e)⟩
theorem ifro_b {p : Prop} [Decidable p] {x y k : Nat} : (if p then x ||| y else y).testBit k = true ↔ (p ∧ x.testBit k = true) ∨ y.testBit k = true := by
  by_cases e : p
  · rw [if_pos e, or_b]
    exact ⟨fun z => z.elim (fun q => Or.inl ⟨e, q⟩) Or.inr, fun z => z.elim (fun q => Or.inl q.2) Or.inr⟩
  · rw [if_neg e]
    exact ⟨Or.inr, fun z => z.elim (fun q => absurd q.1 e) id⟩
theorem Cor_cat {a b d : Nat} {fo ol : Nat → Nat} {x y : Nat × Nat × Nat} {A B : Lng} (hx : Cor a b fo ol x A) (hy : Cor b d fo ol y B) : Cor a d (folw fo x.2.2 y.2.1) ol (x.1 &&& y.1, if x.1 = 1 then x.2.1 ||| y.2.1 else x.2.1, if y.1 = 1 then x.2.2 ||| y.2.2 else y.2.2) (lCat A B) := by
  obtain ⟨x1, x2, x3, x4, x5, x6, x7, x8⟩ := hx
  obtain ⟨y1, y2, y3, y4, y5, y6, y7, y8⟩ := hy
  obtain ⟨c1, c2⟩ := pw_cat (ol := ol) (L3 := if y.1 = 1 then x.2.2 ||| y.2.2 else y.2.2) x5 y5 x4 y3 y4 (fun k => ifro_b)
  have e1 : x.1 &&& y.1 = 1 ↔ x.1 = 1 ∧ y.1 = 1 := by
    have p : x.1 = 0 ∨ x.1 = 1 := by omega
    have q : y.1 = 0 ∨ y.1 = 1 := by omega
    rcases p with p | p <;> rcases q with q | q <;> rw [p, q] <;> decide
  have subx : ∀ k j, a ≤ k → k < b → (fo k).testBit j = true → ((folw fo x.2.2 y.2.1) k).testBit j = true := fun k j _ _ q => folw_b.mpr (Or.inl q)
  have suby : ∀ k j, b ≤ k → k < d → (fo k).testBit j = true → ((folw fo x.2.2 y.2.1) k).testBit j = true := fun k j _ _ q => folw_b.mpr (Or.inl q)
  have toY : ∀ k, a ≤ k → k < b → ∀ j, y.2.1.testBit j = true → PT (folw fo x.2.2 y.2.1) (fun i => i = j) k := fun k q1 q2 j hj => by
    obtain ⟨-, i3⟩ := x8 k q1 q2
    exact PT_tr (PT_mo x5 subx (fun j _ _ z => z) q1 q2 i3) (fun i hi => PT_s (folw_b.mpr (Or.inr ⟨hi, hj⟩)) (PT_0 rfl))
  refine ⟨by omega, ?_, fun k q => ?_, fun k q => ?_, fun k j q1 q2 q3 => ?_, fun k q1 q2 => ?_, fun w => ?_, fun k q1 q2 => ?_⟩
  · show x.1 &&& y.1 ≤ 1
    exact Nat.le_trans Nat.and_le_left x2
  · rcases ifor_b.mp q with q | ⟨-, q⟩
    · have := x3 k q; omega
    · have := y3 k q; omega
  · rcases ifro_b.mp q with ⟨-, q⟩ | q
    · have := x4 k q; omega
    · have := y4 k q; omega
  · rcases folw_b.mp q3 with q | ⟨-, q⟩
    · by_cases e : k < b
      · have := x5 k j q1 e q; omega
      · have := y5 k j (by omega) q2 q; omega
    · have := y3 j q; omega
  · by_cases e : k < b
    · exact x6 k q1 e
    · exact y6 k (by omega) q2
  · constructor
    · rintro ⟨u, v, e, h1, h2⟩
      have h1 := (x7 u).mp h1
      have h2 := (y7 v).mp h2
      cases u with
      | nil =>
        have e : w = v := e
        rw [e]
        cases v with
        | nil => exact (pl_n ..).mpr (e1.mpr ⟨h1, h2⟩)
        | cons c v =>
          obtain ⟨j, t1, t2, t3⟩ := (pl_c ..).mp h2
          exact (pl_c ..).mpr ⟨j, ifor_b.mpr (Or.inr ⟨h1, t1⟩), t2, (c1 v j (y3 j t1).1 (y3 j t1).2).mpr t3⟩
      | cons c u =>
        have e : w = c :: (u ++ v) := e
        rw [e]
        obtain ⟨j, t1, t2, t3⟩ := (pl_c ..).mp h1
        exact (pl_c ..).mpr ⟨j, ifor_b.mpr (Or.inl t1), t2, (c2 _ j (x3 j t1).1 (x3 j t1).2).mpr ⟨u, v, rfl, t3, h2⟩⟩
    · intro h
      cases w with
      | nil =>
        obtain ⟨h1, h2⟩ := e1.mp h
        exact ⟨[], [], rfl, (x7 []).mpr h1, (y7 []).mpr h2⟩
      | cons c w =>
        obtain ⟨j, t1, t2, t3⟩ := (pl_c ..).mp h
        rcases ifor_b.mp t1 with t | ⟨s, t⟩
        · obtain ⟨u, v, e, s1, s2⟩ := (c2 _ j (x3 j t).1 (x3 j t).2).mp t3
          exact ⟨c :: u, v, by rw [e]; rfl, (x7 _).mpr ((pl_c ..).mpr ⟨j, t, t2, s1⟩), (y7 v).mpr s2⟩
        · exact ⟨[], c :: w, rfl, (x7 []).mpr s, (y7 _).mpr ((pl_c ..).mpr ⟨j, t, t2, (c1 w j (y3 j t).1 (y3 j t).2).mp t3⟩)⟩
  · by_cases e : k < b
    · obtain ⟨⟨i, i1, i2⟩, i3⟩ := x8 k q1 e
      refine ⟨⟨i, ifor_b.mpr (Or.inl i1), PT_mo x5 subx (fun j _ _ z => z) (x3 i i1).1 (x3 i i1).2 i2⟩, ?_⟩
      obtain ⟨⟨j, j1, -⟩, -⟩ := y8 b (Nat.le_refl _) y1
      exact PT_tr (toY k q1 e j j1) (fun i hi => by
        rw [hi]
        exact PT_mo y5 suby (fun j _ _ z => ifro_b.mpr (Or.inr z)) (y3 j j1).1 (y3 j j1).2 (y8 j (y3 j j1).1 (y3 j j1).2).2)
    · obtain ⟨⟨i, i1, i2⟩, i3⟩ := y8 k (by omega) q2
      obtain ⟨⟨f, f1, -⟩, -⟩ := x8 a (Nat.le_refl _) x1
      refine ⟨⟨f, ifor_b.mpr (Or.inl f1), PT_tr (toY f (x3 f f1).1 (x3 f f1).2 i i1) (fun j hj => ?_)⟩, PT_mo y5 suby (fun j _ _ z => ifro_b.mpr (Or.inr z)) (by omega) q2 i3⟩
      rw [hj]
      exact PT_mo y5 suby (fun j _ _ z => z) (y3 i i1).1 (y3 i i1).2 i2
