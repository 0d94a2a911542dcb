/-! the words of a pattern; its positions tell them -/
def pw (fo ol : Nat → Nat) (L : Nat) (k : Nat) (w : List Nat) : Prop := match w with
  | [] => L.testBit k = true
  | c :: w => ∃ j, (fo k).testBit j = true ∧ (ol c).testBit j = true ∧ pw fo ol L j w
def pl (fo ol : Nat → Nat) (v : Nat × Nat × Nat) (w : List Nat) : Prop := match w with
  | [] => v.1 = 1
  | c :: w => ∃ j, v.2.1.testBit j = true ∧ (ol c).testBit j = true ∧ pw fo ol v.2.2 j w
theorem pw_n (fo ol : Nat → Nat) (L k : Nat) : pw fo ol L k [] ↔ L.testBit k = true := by unfold pw; exact Iff.rfl
theorem pw_c (fo ol : Nat → Nat) (L k c : Nat) (w : List Nat) : pw fo ol L k (c :: w) ↔ ∃ j, (fo k).testBit j = true ∧ (ol c).testBit j = true ∧ pw fo ol L j w := by
  constructor
  · intro h; unfold pw at h; exact h
  · intro h; unfold pw; exact h
theorem pl_n (fo ol : Nat → Nat) (v : Nat × Nat × Nat) : pl fo ol v [] ↔ v.1 = 1 := Iff.rfl
theorem pl_c (fo ol : Nat → Nat) (v : Nat × Nat × Nat) (c : Nat) (w : List Nat) : pl fo ol v (c :: w) ↔ ∃ j, v.2.1.testBit j = true ∧ (ol c).testBit j = true ∧ pw fo ol v.2.2 j w := Iff.rfl
abbrev Lng : Type := List Nat → Prop
def lCat (A B : Lng) : Lng := fun w => ∃ u v, w = u ++ v ∧ A u ∧ B v
def lPls (A : Lng) : Lng := fun w => ∃ us : List (List Nat), us ≠ [] ∧ (∀ u ∈ us, A u) ∧ w = us.flatten
def lSig (c : Nat) (A : Lng) : Lng := if c = 6 then fun w => w = [] ∨ lPls A w else if c = 7 then lPls A else fun w => w = [] ∨ A w
def lBin (c : Nat) (A B : Lng) : Lng := if c = 5 then fun w => A w ∨ B w else lCat A B
def lstp (st : List Lng) (c : Nat) : List Lng := if c < 4 then (fun w => w = [c - 1]) :: st else if 6 ≤ c then (match st with
  | [] => []
  | A :: r => lSig c A :: r) else (match st with
  | B :: A :: r => lBin c A B :: r
  | _ => st)
def lrun (st : List Lng) (p : List Nat) : List Lng := p.foldl lstp st
theorem lrun_app (s : List Lng) (l l' : List Nat) : lrun s (l ++ l') = lrun (lrun s l) l' := List.foldl_append
theorem lrun_1 (s : List Lng) (c : Nat) : lrun s [c] = lstp s c := rfl
theorem folw_b {fo : Nat → Nat} {S B k j : Nat} : (folw fo S B k).testBit j = true ↔ (fo k).testBit j = true ∨ (S.testBit k = true ∧ B.testBit j = true) := by
  unfold folw
  by_cases e : S.testBit k = true
  · rw [if_pos e, Nat.testBit_or, Bool.or_eq_true]
    constructor
    · rintro (q | q)
      · exact Or.inl q
      · exact Or.inr ⟨e, q⟩
    · rintro (q | ⟨-, q⟩)
      · exact Or.inl q
      · exact Or.inr q
  · rw [if_neg e]
    constructor
    · exact Or.inl
    · rintro (q | ⟨q, -⟩)
      · exact q
      · exact absurd q e
theorem pw_loc {fo fo' ol ol' : Nat → Nat} {L L' a b : Nat} (hfo : ∀ k, a ≤ k → k < b → fo' k = fo k) (hcl : ∀ k j, a ≤ k → k < b → (fo k).testBit j = true → a ≤ j ∧ j < b) (hol : ∀ c k, a ≤ k → k < b → (ol' c).testBit k = (ol c).testBit k) (hL : ∀ k, a ≤ k → k < b → L'.testBit k = L.testBit k) : ∀ (w : List Nat) (k : Nat), a ≤ k → k < b → (pw fo' ol' L' k w ↔ pw fo ol L k w) := by
  intro w
  induction w with
  | nil =>
    intro k h1 h2
    rw [pw_n, pw_n, hL k h1 h2]
  | cons c w ih =>
    intro k h1 h2
    rw [pw_c, pw_c, hfo k h1 h2]
    constructor
    · rintro ⟨j, q1, q2, q3⟩
      obtain ⟨r1, r2⟩ := hcl k j h1 h2 q1
      exact ⟨j, q1, by rw [← hol c j r1 r2]; exact q2, (ih j r1 r2).mp q3⟩
    · rintro ⟨j, q1, q2, q3⟩
      obtain ⟨r1, r2⟩ := hcl k j h1 h2 q1
      exact ⟨j, q1, by rw [hol c j r1 r2]; exact q2, (ih j r1 r2).mpr q3⟩
theorem pl_loc {fo fo' ol ol' : Nat → Nat} {v : Nat × Nat × Nat} {a b : Nat} (hfo : ∀ k, a ≤ k → k < b → fo' k = fo k) (hcl : ∀ k j, a ≤ k → k < b → (fo k).testBit j = true → a ≤ j ∧ j < b) (hol : ∀ c k, a ≤ k → k < b → (ol' c).testBit k = (ol c).testBit k) (hF : ∀ k, v.2.1.testBit k = true → a ≤ k ∧ k < b) (w : List Nat) : pl fo' ol' v w ↔ pl fo ol v w := by
  cases w with
  | nil => rw [pl_n, pl_n]
  | cons c w =>
    rw [pl_c, pl_c]
    constructor
    · rintro ⟨j, q1, q2, q3⟩
      obtain ⟨r1, r2⟩ := hF j q1
      exact ⟨j, q1, by rw [← hol c j r1 r2]; exact q2, (pw_loc hfo hcl hol (fun _ _ _ => rfl) w j r1 r2).mp q3⟩
    · rintro ⟨j, q1, q2, q3⟩
      obtain ⟨r1, r2⟩ := hF j q1
      exact ⟨j, q1, by rw [hol c j r1 r2]; exact q2, (pw_loc hfo hcl hol (fun _ _ _ => rfl) w j r1 r2).mpr q3⟩
/-- one part behind another -/
theorem pw_cat {fo ol : Nat → Nat} {x y : Nat × Nat × Nat} {a b d L3 : Nat} (hcx : ∀ k j, a ≤ k → k < b → (fo k).testBit j = true → a ≤ j ∧ j < b) (hcy : ∀ k j, b ≤ k → k < d → (fo k).testBit j = true → b ≤ j ∧ j < d) (hLx : ∀ k, x.2.2.testBit k = true → a ≤ k ∧ k < b) (hFy : ∀ k, y.2.1.testBit k = true → b ≤ k ∧ k < d) (hLy : ∀ k, y.2.2.testBit k = true → b ≤ k ∧ k < d) (h3 : ∀ k, L3.testBit k = true ↔ (y.1 = 1 ∧ x.2.2.testBit k = true) ∨ y.2.2.testBit k = true) :
    (∀ w k, b ≤ k → k < d → (pw (folw fo x.2.2 y.2.1) ol L3 k w ↔ pw fo ol y.2.2 k w)) ∧ ∀ w k, a ≤ k → k < b → (pw (folw fo x.2.2 y.2.1) ol L3 k w ↔ ∃ u v, w = u ++ v ∧ pw fo ol x.2.2 k u ∧ pl fo ol y v) := by
  have c1 : ∀ w k, b ≤ k → k < d → (pw (folw fo x.2.2 y.2.1) ol L3 k w ↔ pw fo ol y.2.2 k w) := fun w k h1 h2 => by
    refine pw_loc (fun k h1 h2 => ?_) hcy (fun _ _ _ _ => rfl) (fun k h1 h2 => ?_) w k h1 h2
    · unfold folw
      by_cases e : x.2.2.testBit k = true
      · have := hLx k e; omega
      · rw [if_neg e]
    · have hx : ¬ x.2.2.testBit k = true := fun e => by have := hLx k e; omega
      have := h3 k
      cases z1 : L3.testBit k <;> cases z2 : y.2.2.testBit k <;> simp_all
  refine ⟨c1, fun w => ?_⟩
  induction w with
  | nil =>
    intro k h1 h2
    rw [pw_n, h3]
    constructor
    · rintro (⟨q1, q2⟩ | q)
      · exact ⟨[], [], rfl, (pw_n ..).mpr q2, q1⟩
      · have := hLy k q; omega
    · rintro ⟨u, v, e, q1, q2⟩
      cases u with
      | cons _ _ => cases e
      | nil => cases v with
        | cons _ _ => cases e
        | nil => exact Or.inl ⟨q2, (pw_n ..).mp q1⟩
  | cons c w ih =>
    intro k h1 h2
    rw [pw_c]
    constructor
    · rintro ⟨j, q1, q2, q3⟩
      rcases folw_b.mp q1 with q | ⟨e1, e2⟩
      · obtain ⟨r1, r2⟩ := hcx k j h1 h2 q
        obtain ⟨u, v, e, s1, s2⟩ := (ih j r1 r2).mp q3
        exact ⟨c :: u, v, by rw [e]; rfl, (pw_c ..).mpr ⟨j, q, q2, s1⟩, s2⟩
      · obtain ⟨r1, r2⟩ := hFy j e2
        exact ⟨[], c :: w, rfl, (pw_n ..).mpr e1, (pl_c ..).mpr ⟨j, e2, q2, (c1 w j r1 r2).mp q3⟩⟩
    · rintro ⟨u, v, e, q1, q2⟩
      cases u with
      | nil =>
        have e : c :: w = v := e
        rw [← e] at q2
        obtain ⟨j, s1, s2, s3⟩ := (pl_c ..).mp q2
        obtain ⟨r1, r2⟩ := hFy j s1
        exact ⟨j, folw_b.mpr (Or.inr ⟨(pw_n ..).mp q1, s1⟩), s2, (c1 w j r1 r2).mpr s3⟩
      | cons c' u =>
        injection e with e1 e2
        rw [← e1] at q1
        obtain ⟨j, s1, s2, s3⟩ := (pw_c ..).mp q1
        obtain ⟨r1, r2⟩ := hcx k j h1 h2 s1
        exact ⟨j, folw_b.mpr (Or.inl s1), s2, (ih j r1 r2).mpr ⟨u, v, e2, s3, q2⟩⟩
theorem pw_str {fo ol : Nat → Nat} {x : Nat × Nat × Nat} {a b : Nat} (hcx : ∀ k j, a ≤ k → k < b → (fo k).testBit j = true → a ≤ j ∧ j < b) (hFx : ∀ k, x.2.1.testBit k = true → a ≤ k ∧ k < b) :
    ∀ w k, a ≤ k → k < b → (pw (folw fo x.2.2 x.2.1) ol x.2.2 k w ↔ ∃ u us, w = u ++ List.flatten us ∧ pw fo ol x.2.2 k u ∧ ∀ v ∈ us, v ≠ [] ∧ pl fo ol x v) := by
  intro w
  induction w with
  | nil =>
    intro k h1 h2
    rw [pw_n]
    constructor
    · exact fun q => ⟨[], [], rfl, (pw_n ..).mpr q, fun v hv => nomatch hv⟩
    · rintro ⟨u, us, e, q1, q2⟩
      cases u with
      | cons _ _ => cases e
      | nil => exact (pw_n ..).mp q1
  | cons c w ih =>
    intro k h1 h2
    rw [pw_c]
    constructor
    · rintro ⟨j, q1, q2, q3⟩
      rcases folw_b.mp q1 with q | ⟨e1, e2⟩
      · obtain ⟨r1, r2⟩ := hcx k j h1 h2 q
        obtain ⟨u, us, e, s1, s2⟩ := (ih j r1 r2).mp q3
        exact ⟨c :: u, us, by rw [e]; rfl, (pw_c ..).mpr ⟨j, q, q2, s1⟩, s2⟩
      · obtain ⟨r1, r2⟩ := hFx j e2
        obtain ⟨u, us, e, s1, s2⟩ := (ih j r1 r2).mp q3
        refine ⟨[], (c :: u) :: us, by rw [e]; rfl, (pw_n ..).mpr e1, fun v hv => ?_⟩
        rcases List.mem_cons.mp hv with e | hv
        · rw [e]
          exact ⟨List.cons_ne_nil _ _, (pl_c ..).mpr ⟨j, e2, q2, s1⟩⟩
        · exact s2 v hv
    · rintro ⟨u, us, e, q1, q2⟩
      cases u with
      | nil =>
        cases us with
        | nil => cases e
        | cons v us =>
          obtain ⟨v0, v1⟩ := q2 v List.mem_cons_self
          cases v with
          | nil => exact absurd rfl v0
          | cons c' v =>
            have e : c :: w = c' :: (v ++ List.flatten us) := e
            injection e with e1 e2
            rw [← e1] at v1
            obtain ⟨j, s1, s2, s3⟩ := (pl_c ..).mp v1
            obtain ⟨r1, r2⟩ := hFx j s1
            exact ⟨j, folw_b.mpr (Or.inr ⟨(pw_n ..).mp q1, s1⟩), s2, (ih j r1 r2).mpr ⟨v, us, e2, s3, fun u hu => q2 u (List.mem_cons_of_mem _ hu)⟩⟩
      | cons c' u =>
        have e : c :: w = c' :: (u ++ List.flatten us) := e
        injection e with e1 e2
        rw [← e1] at q1
        obtain ⟨j, s1, s2, s3⟩ := (pw_c ..).mp q1
        obtain ⟨r1, r2⟩ := hcx k j h1 h2 s1
        exact ⟨j, folw_b.mpr (Or.inl s1), s2, (ih j r1 r2).mpr ⟨u, us, e2, s3, q2⟩⟩
theorem fl_filter : ∀ us : List (List Nat), List.flatten (us.filter (fun u => decide (u ≠ []))) = List.flatten us
  | [] => rfl
  | u :: us => by
    have ih := fl_filter us
    cases u with
    | nil => exact ih
    | cons c u => 
      rw [List.filter_cons_of_pos (by simp)]
      show (c :: u) ++ _ = (c :: u) ++ _
      rw [ih]
theorem lPls_c {A : Lng} {c : Nat} {w : List Nat} : lPls A (c :: w) ↔ ∃ u us, w = u ++ List.flatten us ∧ A (c :: u) ∧ ∀ v ∈ us, v ≠ [] ∧ A v := by
  constructor
  · rintro ⟨us, -, h2, h3⟩
    have h4 := fl_filter us
    rw [← h3] at h4
    have h5 : ∀ v ∈ us.filter (fun u => decide (u ≠ [])), v ≠ [] ∧ A v := fun v hv => by
      obtain ⟨a1, a2⟩ := List.mem_filter.mp hv
      exact ⟨of_decide_eq_true a2, h2 v a1⟩
    cases hq : us.filter (fun u => decide (u ≠ [])) with
    | nil => rw [hq] at h4; cases h4
    | cons v vs =>
      rw [hq] at h4 h5
      obtain ⟨v0, v1⟩ := h5 v List.mem_cons_self
      cases v with
      | nil => exact absurd rfl v0
      | cons c' v =>
        have e : c' :: (v ++ List.flatten vs) = c :: w := h4
        injection e with e1 e2
        rw [e1] at v1
        exact ⟨v, vs, e2.symm, v1, fun u hu => h5 u (List.mem_cons_of_mem _ hu)⟩
  · rintro ⟨u, us, e, h1, h2⟩
    refine ⟨(c :: u) :: us, List.cons_ne_nil _ _, fun v hv => ?_, by rw [e]; rfl⟩
    rcases List.mem_cons.mp hv with e | hv
    · rw [e]; exact h1
    · exact (h2 v hv).2
theorem lPls_n {A : Lng} : lPls A [] ↔ A [] := by
  constructor
  · rintro ⟨us, h1, h2, h3⟩
    cases us with
    | nil => exact absurd rfl h1
    | cons u us =>
      cases u with
      | nil => exact h2 [] List.mem_cons_self
      | cons _ _ => cases h3
  · exact fun h => ⟨[[]], List.cons_ne_nil _ _, fun u hu => by rw [List.mem_singleton.mp hu]; exact h, rfl⟩
