/-! one letter: traces of positions, and the lengths of the words -/
theorem pig : ∀ (N : Nat) (f : Nat → Nat), (∀ i, i ≤ N → f i < N) → ∃ i j, i < j ∧ j ≤ N ∧ f i = f j := fun N => by
  induction N with
  | zero => exact fun f h => absurd (h 0 (Nat.le_refl _)) (Nat.not_lt_zero _)
  | succ N ih =>
    intro f h
    by_cases q : ∃ i, i ≤ N ∧ f i = f (N + 1)
    · obtain ⟨i, a, b⟩ := q
      exact ⟨i, N + 1, by omega, Nat.le_refl _, b⟩
    have ne : ∀ i, i ≤ N → f i ≠ f (N + 1) := fun i hi e => q ⟨i, hi, e⟩
    have hN := h (N + 1) (Nat.le_refl _)
    obtain ⟨i, j, a, b, e⟩ := ih (fun i => if f i < f (N + 1) then f i else f i - 1) (fun i hi => by
      have h1 := h i (by omega)
      have h2 := ne i hi
      show (if f i < f (N + 1) then f i else f i - 1) < N
      by_cases z : f i < f (N + 1)
      · rw [if_pos z]; omega
      · rw [if_neg z]; omega)
    refine ⟨i, j, a, by omega, ?_⟩
    have e : (if f i < f (N + 1) then f i else f i - 1) = (if f j < f (N + 1) then f j else f j - 1) := e
    have n1 := ne i (by omega)
    have n2 := ne j b
    by_cases z : f i < f (N + 1) <;> by_cases y : f j < f (N + 1)
    · rw [if_pos z, if_pos y] at e; exact e
    · rw [if_pos z, if_neg y] at e; omega
    · rw [if_neg z, if_pos y] at e; omega
    · rw [if_neg z, if_neg y] at e; omega
theorem sp_app {a : Nat} {q t2 : List Nat} : ∀ (t1 p : List Nat), p ++ a :: q = t1 ++ t2 → (∃ q1, t1 = p ++ a :: q1 ∧ q = q1 ++ t2) ∨ (∃ p2, p = t1 ++ p2 ∧ t2 = p2 ++ a :: q) := fun t1 => by
  induction t1 with
  | nil => exact fun p e => Or.inr ⟨p, rfl, e.symm⟩
  | cons b t1 ih =>
    intro p e
    cases p with
    | nil =>
      have e : a :: q = b :: (t1 ++ t2) := e
      injection e with e1 e2
      exact Or.inl ⟨t1, by rw [e1]; rfl, e2⟩
    | cons d p =>
      have e : d :: (p ++ a :: q) = b :: (t1 ++ t2) := e
      injection e with e1 e2
      rcases ih p e2 with ⟨q1, r1, r2⟩ | ⟨p2, r1, r2⟩
      · exact Or.inl ⟨q1, by rw [r1, e1]; rfl, r2⟩
      · exact Or.inr ⟨p2, by rw [r1, e1]; rfl, r2⟩
theorem sp_fl {a : Nat} {v : List Nat} : ∀ (us : List (List Nat)) (u : List Nat), us.flatten = u ++ a :: v → ∃ us1 s1 s2 us2, us = us1 ++ (s1 ++ a :: s2) :: us2 ∧ u = us1.flatten ++ s1 ∧ v = s2 ++ us2.flatten := fun us => by
  induction us with
  | nil =>
    intro u e
    have e : [] = u ++ a :: v := e
    have := congrArg List.length e
    rw [List.length_append, List.length_cons] at this
    exact absurd this (by simp)
  | cons t us ih =>
    intro u e
    have e : t ++ us.flatten = u ++ a :: v := e
    rcases sp_app t u e.symm with ⟨q1, r1, r2⟩ | ⟨p2, r1, r2⟩
    · exact ⟨[], u, q1, us, by rw [r1]; rfl, rfl, r2⟩
    · obtain ⟨us1, s1, s2, us2, k1, k2, k3⟩ := ih p2 r2
      exact ⟨t :: us1, s1, s2, us2, by rw [k1]; rfl, by rw [r1, k2, List.flatten_cons, List.append_assoc], k3⟩
theorem sp_at : ∀ (t : List Nat) (i : Nat), i < t.length → ∃ u v, t = u ++ t.getD i 0 :: v ∧ u.length = i := fun t => by
  induction t with
  | nil => exact fun i h => absurd h (Nat.not_lt_zero _)
  | cons a t ih =>
    intro i h
    cases i with
    | zero => exact ⟨[], t, rfl, rfl⟩
    | succ i =>
      obtain ⟨u, v, e, l⟩ := ih i (Nat.lt_of_succ_lt_succ h)
      refine ⟨a :: u, v, ?_, by rw [List.length_cons, l]⟩
      rw [List.getD_cons_succ, List.cons_append, ← e]
def Loc (T : Lng) : Prop := ∀ u v a u' v', T (u ++ a :: v) → T (u' ++ a :: v') → T (u ++ a :: v')
def Trc (x m : Nat) (A : Lng) : Prop := ∀ s, ∃ T : Lng, (∀ t, T t → ∀ y ∈ t, s ≤ y ∧ y < s + m) ∧ Loc T ∧ ∀ w, A w ↔ ∃ t, T t ∧ w = List.replicate t.length x
theorem Trc_let (x : Nat) : Trc x 1 (fun w => w = [x]) := fun s => by
  refine ⟨fun t => t = [s], fun t ht y hy => ?_, fun u v a u' v' h h' => ?_, fun w => ⟨fun e => ⟨[s], rfl, e⟩, fun ⟨t, e, e'⟩ => ?_⟩⟩
  · have ht : t = [s] := ht
    rw [ht, List.mem_singleton] at hy
    omega
  · have h : u ++ a :: v = [s] := h
    have h' : u' ++ a :: v' = [s] := h'
    show u ++ a :: v' = [s]
    have l := congrArg List.length h
    have l' := congrArg List.length h'
    rw [List.length_append, List.length_cons, List.length_singleton] at l l'
    have e1 : u = [] := List.eq_nil_of_length_eq_zero (by omega)
    have e2 : u' = [] := List.eq_nil_of_length_eq_zero (by omega)
    rw [e2] at h'
    rw [e1]
    exact h'
  · have e : t = [s] := e
    rw [e] at e'
    exact e'
theorem Trc_opt {x m : Nat} {A : Lng} (h : Trc x m A) : Trc x m (fun w => w = [] ∨ A w) := fun s => by
  obtain ⟨T, t1, t2, t3⟩ := h s
  have nn : ∀ (u v : List Nat) (a : Nat), u ++ a :: v ≠ [] := fun u v a e => by
    have := congrArg List.length e
    rw [List.length_append, List.length_cons] at this
    exact absurd this (by simp)
  refine ⟨fun t => t = [] ∨ T t, fun t ht y hy => ?_, fun u v a u' v' h h' => ?_, fun w => ⟨fun e => ?_, fun ⟨t, e, e'⟩ => ?_⟩⟩
  · rcases ht with e | ht
    · rw [e] at hy
      cases hy
    · exact t1 t ht y hy
  · exact Or.inr (t2 u v a u' v' (h.resolve_left (nn _ _ _)) (h'.resolve_left (nn _ _ _)))
  · rcases e with e | e
    · exact ⟨[], Or.inl rfl, e⟩
    · obtain ⟨t, a, b⟩ := (t3 w).mp e
      exact ⟨t, Or.inr a, b⟩
  · rcases e with e | e
    · rw [e] at e'
      exact Or.inl e'
    · exact Or.inr ((t3 w).mpr ⟨t, e, e'⟩)
theorem mem_mid (u v : List Nat) (a : Nat) : a ∈ u ++ a :: v := List.mem_append_right _ List.mem_cons_self
theorem Trc_un {x m m' : Nat} {A B : Lng} (h : Trc x m A) (h' : Trc x m' B) : Trc x (m + m') (fun w => A w ∨ B w) := fun s => by
  obtain ⟨T, t1, t2, t3⟩ := h s
  obtain ⟨T', t1', t2', t3'⟩ := h' (s + m)
  refine ⟨fun t => T t ∨ T' t, fun t ht y hy => ?_, fun u v a u' v' h h' => ?_, fun w => ⟨fun e => ?_, fun ⟨t, e, e'⟩ => ?_⟩⟩
  · rcases ht with ht | ht
    · have := t1 t ht y hy; omega
    · have := t1' t ht y hy; omega
  · rcases h with h | h <;> rcases h' with h' | h'
    · exact Or.inl (t2 _ _ _ _ _ h h')
    · have := t1 _ h a (mem_mid _ _ _)
      have := t1' _ h' a (mem_mid _ _ _)
      omega
    · have := t1' _ h a (mem_mid _ _ _)
      have := t1 _ h' a (mem_mid _ _ _)
      omega
    · exact Or.inr (t2' _ _ _ _ _ h h')
  · rcases e with e | e
    · obtain ⟨t, a, b⟩ := (t3 w).mp e
      exact ⟨t, Or.inl a, b⟩
    · obtain ⟨t, a, b⟩ := (t3' w).mp e
      exact ⟨t, Or.inr a, b⟩
  · rcases e with e | e
    · exact Or.inl ((t3 w).mpr ⟨t, e, e'⟩)
    · exact Or.inr ((t3' w).mpr ⟨t, e, e'⟩)
theorem Trc_cat {x m m' : Nat} {A B : Lng} (h : Trc x m A) (h' : Trc x m' B) : Trc x (m + m') (lCat A B) := fun s => by
  obtain ⟨T, t1, t2, t3⟩ := h s
  obtain ⟨T', t1', t2', t3'⟩ := h' (s + m)
  refine ⟨lCat T T', fun t ht y hy => ?_, fun u v a u' v' h h' => ?_, fun w => ⟨fun e => ?_, fun ⟨t, e, e'⟩ => ?_⟩⟩
  · obtain ⟨p, q, rfl, hp, hq⟩ := ht
    rcases List.mem_append.mp hy with hy | hy
    · have := t1 p hp y hy; omega
    · have := t1' q hq y hy; omega
  · obtain ⟨p, q, e, hp, hq⟩ := h
    obtain ⟨p', q', e', hp', hq'⟩ := h'
    rcases sp_app p u e with ⟨q1, r1, r2⟩ | ⟨p2, r1, r2⟩ <;> rcases sp_app p' u' e' with ⟨q1', r1', r2'⟩ | ⟨p2', r1', r2'⟩
    · rw [r1] at hp
      rw [r1'] at hp'
      exact ⟨u ++ a :: q1', q', by rw [r2', List.append_assoc]; rfl, t2 _ _ _ _ _ hp hp', hq'⟩
    · rw [r1] at hp
      rw [r2'] at hq'
      have := t1 _ hp a (mem_mid _ _ _)
      have := t1' _ hq' a (mem_mid _ _ _)
      omega
    · rw [r2] at hq
      rw [r1'] at hp'
      have := t1' _ hq a (mem_mid _ _ _)
      have := t1 _ hp' a (mem_mid _ _ _)
      omega
    · rw [r2] at hq
      rw [r2'] at hq'
      exact ⟨p, p2 ++ a :: v', by rw [r1, List.append_assoc], hp, t2' _ _ _ _ _ hq hq'⟩
  · obtain ⟨u, v, rfl, hu, hv⟩ := e
    obtain ⟨t, a, b⟩ := (t3 u).mp hu
    obtain ⟨t', a', b'⟩ := (t3' v).mp hv
    exact ⟨t ++ t', ⟨t, t', rfl, a, a'⟩, by rw [b, b', List.length_append, List.replicate_append_replicate]⟩
  · obtain ⟨p, q, rfl, hp, hq⟩ := e
    exact ⟨List.replicate p.length x, List.replicate q.length x, by rw [e', List.length_append, List.replicate_append_replicate], (t3 _).mpr ⟨p, hp, rfl⟩, (t3' _).mpr ⟨q, hq, rfl⟩⟩
theorem Trc_pls {x m : Nat} {A : Lng} (h : Trc x m A) : Trc x m (lPls A) := fun s => by
  obtain ⟨T, t1, t2, t3⟩ := h s
  have k1 : ∀ us : List (List Nat), (∀ u ∈ us, A u) → ∃ ts : List (List Nat), (∀ t ∈ ts, T t) ∧ ts.length = us.length ∧ us.flatten = List.replicate ts.flatten.length x := fun us => by
    induction us with
    | nil => exact fun _ => ⟨[], fun t ht => (by cases ht), rfl, rfl⟩
    | cons u us ih =>
      intro hu
      obtain ⟨ts, a, b, e⟩ := ih (fun v hv => hu v (List.mem_cons_of_mem _ hv))
      obtain ⟨t, a', b'⟩ := (t3 u).mp (hu u List.mem_cons_self)
      refine ⟨t :: ts, fun r hr => ?_, by rw [List.length_cons, List.length_cons, b], by rw [List.flatten_cons, List.flatten_cons, List.length_append, e, b', List.replicate_append_replicate]⟩
      rcases List.mem_cons.mp hr with e | hr
      · rw [e]; exact a'
      · exact a r hr
  have k2 : ∀ ts : List (List Nat), (∀ t ∈ ts, T t) → ∃ us : List (List Nat), (∀ u ∈ us, A u) ∧ us.length = ts.length ∧ us.flatten = List.replicate ts.flatten.length x := fun ts => by
    induction ts with
    | nil => exact fun _ => ⟨[], fun t ht => (by cases ht), rfl, rfl⟩
    | cons t ts ih =>
      intro hu
      obtain ⟨us, a, b, e⟩ := ih (fun v hv => hu v (List.mem_cons_of_mem _ hv))
      have a' := (t3 _).mpr ⟨t, hu t List.mem_cons_self, rfl⟩
      refine ⟨List.replicate t.length x :: us, fun r hr => ?_, by rw [List.length_cons, List.length_cons, b], by rw [List.flatten_cons, List.flatten_cons, List.length_append, e, List.replicate_append_replicate]⟩
      rcases List.mem_cons.mp hr with e | hr
      · rw [e]; exact a'
      · exact a r hr
  have nz : ∀ {us ts : List (List Nat)}, us.length = ts.length → ts ≠ [] → us ≠ [] := fun {us ts} e h z => h (by
    rw [z] at e
    exact List.eq_nil_of_length_eq_zero e.symm)
  refine ⟨lPls T, fun t ht y hy => lPls_mem ht (Q := fun y => s ≤ y ∧ y < s + m) t1 y hy, fun u v a u' v' h h' => ?_, fun w => ⟨fun e => ?_, fun ⟨t, e, e'⟩ => ?_⟩⟩
  · obtain ⟨us, n1, h1, e1⟩ := h
    obtain ⟨us', n1', h1', e1'⟩ := h'
    obtain ⟨a1, a2, a3, a4, b1, b2, b3⟩ := sp_fl us u e1.symm
    obtain ⟨c1, c2, c3, c4, d1, d2, d3⟩ := sp_fl us' u' e1'.symm
    refine ⟨a1 ++ (a2 ++ a :: c3) :: c4, fun z => ?_, fun r hr => ?_, ?_⟩
    · have := congrArg List.length z
      rw [List.length_append, List.length_cons] at this
      exact absurd this (by simp)
    · rcases List.mem_append.mp hr with hr | hr
      · exact h1 r (by rw [b1]; exact List.mem_append_left _ hr)
      · rcases List.mem_cons.mp hr with e | hr
        · rw [e]
          exact t2 _ _ _ _ _ (h1 (a2 ++ a :: a3) (by rw [b1]; exact List.mem_append_right _ List.mem_cons_self)) (h1' (c2 ++ a :: c3) (by rw [d1]; exact List.mem_append_right _ List.mem_cons_self))
        · exact h1' r (by rw [d1]; exact List.mem_append_right _ (List.mem_cons_of_mem _ hr))
    · rw [b2, d3, List.flatten_append, List.flatten_cons]
      simp only [List.append_assoc, List.cons_append]
  · obtain ⟨us, n, hu, rfl⟩ := e
    obtain ⟨ts, a, b, e⟩ := k1 us hu
    exact ⟨ts.flatten, ⟨ts, nz b n, a, rfl⟩, e⟩
  · obtain ⟨ts, n, hu, rfl⟩ := e
    obtain ⟨us, a, b, e⟩ := k2 ts hu
    exact ⟨us, nz b n, a, by rw [e', e]⟩
