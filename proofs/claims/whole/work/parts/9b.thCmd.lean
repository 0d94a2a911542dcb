/-! reading commands: literal characters (below 200) and digits (200 and on) -/
abbrev mtc (c x : Nat) : Prop := if c < 200 then x = c else 48 ≤ x ∧ x ≤ 57
def sq (T : List Nat) : List Nat → Nat → Bool × Nat
  | [], i => (true, i)
  | c :: l, i => if mtc c (T.getD i 0) then sq T l (i + 1) else (false, i)
def kwd (k : Nat) : List Nat := if k = 0 then [115, 101, 116, 32] else if k = 1 then [111, 114, 32] else if k = 2 then [116, 104, 101, 110, 32] else if k = 3 then [115, 116, 97, 114, 32] else if k = 4 then [100, 114, 111, 112, 32] else if k = 5 then [119, 111, 114, 100, 32] else [99, 117, 116, 32]
def rst1 (k : Nat) : List Nat := if k = 0 then [200, 61] else if k = 1 then [200, 61, 201, 44, 202] else if k = 2 then [200, 61, 201, 44, 202] else if k = 3 then [200, 61, 201] else if k = 5 then [] else [200]
/-- which keyword it is, if it is one -/
def ksel (T : List Nat) (i : Nat) : Nat := if T.getD i 0 = 115 then (if T.getD (i + 1) 0 = 101 then 0 else 3) else if T.getD i 0 = 111 then 1 else if T.getD i 0 = 116 then 2 else if T.getD i 0 = 100 then 4 else if T.getD i 0 = 119 then 5 else 6
def lrn : List Nat → Nat
  | [] => 0
  | c :: r => if 97 ≤ c ∧ c ≤ 99 then lrn r + 1 else 0
def tl5 (T : List Nat) (k i : Nat) : Bool × Nat := if k = 0 then (decide (rdOk (pR T i).2), i + (pR T i).1) else if k = 5 then (decide (0 < lrn (T.drop i)), i + lrn (T.drop i)) else (true, i)
/-- a command is read: whether it is whole, where the reading ends -/
def cmK (T : List Nat) (k : Nat) (r : Bool × Nat) : Bool × Nat := if r.1 = true then tl5 T k r.2 else (false, r.2)
def cmR (T : List Nat) (i : Nat) : Bool × Nat := cmK T (ksel T i) (sq T (kwd (ksel T i) ++ rst1 (ksel T i)) i)
theorem sq_app (T : List Nat) : ∀ (l l' : List Nat) (i : Nat), sq T (l ++ l') i = (match sq T l i with
    | (true, j) => sq T l' j
    | (false, j) => (false, j))
  | [], l', i => rfl
  | c :: l, l', i => by
    show (if mtc c (T.getD i 0) then sq T (l ++ l') (i + 1) else (false, i)) = (match (if mtc c (T.getD i 0) then sq T l (i + 1) else (false, i)) with
      | (true, j) => sq T l' j
      | (false, j) => (false, j))
    by_cases q : mtc c (T.getD i 0)
    · rw [if_pos q, if_pos q]
      exact sq_app T l l' (i + 1)
    · rw [if_neg q, if_neg q]
theorem mtc_pos {c : Nat} (hc : 1 ≤ c) {T : List Nat} {i : Nat} (h : mtc c (T.getD i 0)) : i < T.length := by
  rcases Nat.lt_or_ge i T.length with z | z
  · exact z
  · unfold mtc at h
    rw [List.getD_eq_getElem?_getD, List.getElem?_eq_none z] at h
    have h : if c < 200 then 0 = c else 48 ≤ 0 ∧ 0 ≤ 57 := h
    split at h <;> omega
theorem sq_ok {T : List Nat} : ∀ (l : List Nat) (i : Nat), (∀ c ∈ l, 1 ≤ c) → i ≤ T.length → i ≤ (sq T l i).2 ∧ (sq T l i).2 ≤ T.length ∧ ((sq T l i).1 = true → (sq T l i).2 = i + l.length ∧ ∀ t, t < l.length → mtc (l.getD t 0) (T.getD (i + t) 0)) ∧ (sq T l i).2 ≤ i + l.length
  | [], i, _, hi => ⟨Nat.le_refl _, hi, fun _ => ⟨rfl, fun t ht => absurd ht (Nat.not_lt_zero _)⟩, Nat.le_refl _⟩
  | c :: l, i, hl, hi => by
    unfold sq
    by_cases q : mtc c (T.getD i 0)
    · rw [if_pos q]
      have hlt := mtc_pos (hl c List.mem_cons_self) q
      obtain ⟨a, b, d, e⟩ := sq_ok (T := T) l (i + 1) (fun x hx => hl x (List.mem_cons_of_mem _ hx)) hlt
      refine ⟨by omega, b, fun h => ?_, by rw [List.length_cons]; omega⟩
      obtain ⟨d1, d2⟩ := d h
      refine ⟨by rw [d1, List.length_cons]; omega, fun t ht => ?_⟩
      cases t with
      | zero => exact q
      | succ t =>
        rw [List.length_cons] at ht
        have := d2 t (by omega)
        rw [show i + (t + 1) = i + 1 + t by omega]
        exact this
    · rw [if_neg q]
      exact ⟨Nat.le_refl _, hi, fun h => absurd h Bool.false_ne_true, by rw [List.length_cons]; exact Nat.le_add_right _ _⟩
theorem lrn_le : ∀ T : List Nat, lrn T ≤ T.length
  | [] => Nat.le_refl _
  | c :: r => by
    have := lrn_le r
    unfold lrn
    rw [List.length_cons]
    split <;> omega
theorem ksel_le (T : List Nat) (i : Nat) : ksel T i ≤ 6 := by
  unfold ksel
  repeat' split
  all_goals omega
theorem items_pos : ∀ k, k ≤ 6 → ∀ c ∈ kwd k ++ rst1 k, 1 ≤ c := by decide
theorem items_len : ∀ k, k ≤ 6 → 5 ≤ (kwd k ++ rst1 k).length ∧ (kwd k ++ rst1 k).length ≤ 10 := by decide
theorem cmR_ok {T : List Nat} {i : Nat} (hi : i ≤ T.length) : i ≤ (cmR T i).2 ∧ (cmR T i).2 ≤ T.length ∧ ((cmR T i).1 = true → i + 5 ≤ (cmR T i).2) := by
  have hk := ksel_le T i
  obtain ⟨a, b, c, -⟩ := sq_ok (T := T) (kwd (ksel T i) ++ rst1 (ksel T i)) i (items_pos _ hk) hi
  have hl := items_len _ hk
  unfold cmR
  match e : sq T (kwd (ksel T i) ++ rst1 (ksel T i)) i with
  | (false, j) =>
    rw [e] at a b
    exact ⟨a, b, fun z => absurd z Bool.false_ne_true⟩
  | (true, j) =>
    rw [e] at a b c
    show i ≤ (tl5 T (ksel T i) j).2 ∧ (tl5 T (ksel T i) j).2 ≤ T.length ∧ ((tl5 T (ksel T i) j).1 = true → i + 5 ≤ (tl5 T (ksel T i) j).2)
    obtain ⟨c1, -⟩ := c rfl
    have c1 : j = i + (kwd (ksel T i) ++ rst1 (ksel T i)).length := c1
    have b : j ≤ T.length := b
    unfold tl5
    by_cases q0 : ksel T i = 0
    · rw [if_pos q0]
      have := (pR_ok T j).2.2
      exact ⟨by show i ≤ j + _; omega, by show j + _ ≤ _; omega, fun _ => by show _ ≤ j + _; omega⟩
    · rw [if_neg q0]
      by_cases q5 : ksel T i = 5
      · rw [if_pos q5]
        have := lrn_le (T.drop j)
        rw [List.length_drop] at this
        exact ⟨by show i ≤ j + _; omega, by show j + _ ≤ _; omega, fun _ => by show _ ≤ j + _; omega⟩
      · rw [if_neg q5]
        exact ⟨by show i ≤ j; omega, b, fun _ => by show _ ≤ j; omega⟩
/-- a whole program: how many commands, or where it is malformed -/
def prR (T : List Nat) : Nat → Nat → Option Nat × Nat
  | 0, i => (none, i)
  | f + 1, i => if (cmR T i).1 = true then (if (cmR T i).2 = T.length then (some 1, T.length) else if T.getD (cmR T i).2 0 = 59 then ((prR T f ((cmR T i).2 + 1)).1.map (· + 1), (prR T f ((cmR T i).2 + 1)).2) else (none, (cmR T i).2)) else (none, (cmR T i).2)
theorem prR_f {T : List Nat} : ∀ (f f' i : Nat), T.length < i + 6 * f → T.length < i + 6 * f' → i ≤ T.length → prR T f i = prR T f' i
  | 0, f', i, h, _, hi => by omega
  | f + 1, 0, i, _, h', hi => by omega
  | f + 1, f' + 1, i, h, h', hi => by
    obtain ⟨a, b, c⟩ := cmR_ok hi
    unfold prR
    by_cases q : (cmR T i).1 = true
    · rw [if_pos q, if_pos q]
      have c := c q
      by_cases q2 : (cmR T i).2 = T.length
      · rw [if_pos q2, if_pos q2]
      · rw [if_neg q2, if_neg q2]
        by_cases q3 : T.getD (cmR T i).2 0 = 59
        · rw [if_pos q3, if_pos q3, prR_f f f' ((cmR T i).2 + 1) (by omega) (by omega) (by omega)]
        · rw [if_neg q3, if_neg q3]
    · rw [if_neg q, if_neg q]
/-- the places of the commands -/
def nx6 (T : List Nat) (i : Nat) : Nat := (cmR T i).2 + 1
