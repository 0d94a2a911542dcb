/-! graphs with three letters: words as numbers, the search by levels -/
theorem pg_le : ∀ (K L : Nat) (f : Nat → Nat), (∀ j, j < L → f j < K) → (∀ i j, i < L → j < L → f i = f j → i = j) → L ≤ K
  | 0, L, f, h, _ => by
    rcases Nat.eq_zero_or_pos L with e | e
    · omega
    · exact absurd (h 0 e) (Nat.not_lt_zero _)
  | K + 1, 0, _, _, _ => Nat.zero_le _
  | K + 1, L + 1, f, h, hi => by
    by_cases q : ∃ j, j < L + 1 ∧ f j = K
    · obtain ⟨x, hx, ex⟩ := q
      have : L ≤ K := pg_le K L (fun j => if j = x then f L else f j) (fun j hj => by
        by_cases e : j = x
        · rw [if_pos e]
          have h1 := h L (by omega)
          have h2 : f L ≠ K := fun q => by
            have := hi L x (by omega) hx (q.trans ex.symm)
            omega
          omega
        · rw [if_neg e]
          have h1 := h j (by omega)
          have h2 : f j ≠ K := fun q => e (hi j x (by omega) hx (q.trans ex.symm))
          omega) (fun i j h1 h2 e => by
        by_cases e1 : i = x
        · by_cases e2 : j = x
          · rw [e1, e2]
          · rw [if_pos e1, if_neg e2] at e
            have := hi L j (by omega) (by omega) e
            omega
        · by_cases e2 : j = x
          · rw [if_neg e1, if_pos e2] at e
            have := hi i L (by omega) (by omega) e
            omega
          · rw [if_neg e1, if_neg e2] at e
            exact hi i j (by omega) (by omega) e)
      omega
    · have := pg_le K (L + 1) f (fun j hj => by
        have h1 := h j hj
        have h2 : f j ≠ K := fun e => q ⟨j, hj, e⟩
        omega) hi
      omega
/-- how many below n -/
def cs (S : Nat → Bool) : Nat → Nat
  | 0 => 0
  | n + 1 => cs S n + (if S n = true then 1 else 0)
theorem csn_le (S : Nat → Bool) : ∀ n, cs S n ≤ n
  | 0 => Nat.le_refl _
  | n + 1 => by
    have := csn_le S n
    unfold cs
    split <;> omega
theorem cs_mono (S : Nat → Bool) : ∀ {a b : Nat}, a ≤ b → cs S a ≤ cs S b := by
  intro a b h
  induction h with
  | refl => exact Nat.le_refl _
  | step _ ih => exact Nat.le_trans ih (Nat.le_add_right _ _)
theorem cs_sub {S S' : Nat → Bool} : ∀ {n : Nat}, (∀ x, x < n → S x = true → S' x = true) → cs S n ≤ cs S' n
  | 0, _ => Nat.le_refl _
  | n + 1, h => by
    have h1 := cs_sub (n := n) (fun x hx => h x (by omega))
    have h2 := h n (by omega)
    unfold cs
    by_cases e : S n = true
    · rw [if_pos e, if_pos (h2 e)]; omega
    · rw [if_neg e]; omega
theorem cs_eq {S S' : Nat → Bool} {n : Nat} (h : ∀ x, x < n → S x = S' x) : cs S n = cs S' n := Nat.le_antisymm (cs_sub fun x hx e => by rw [← h x hx]; exact e) (cs_sub fun x hx e => by rw [h x hx]; exact e)
theorem cs_lt {S S' : Nat → Bool} : ∀ {n : Nat}, (∀ x, x < n → S x = true → S' x = true) → (∃ x, x < n ∧ S x = false ∧ S' x = true) → cs S n < cs S' n
  | 0, _, ⟨x, hx, _⟩ => absurd hx (Nat.not_lt_zero _)
  | n + 1, h, ⟨x, hx, h1, h2⟩ => by
    unfold cs
    have hs := cs_sub (n := n) (fun y hy => h y (by omega))
    by_cases e : x = n
    · subst e
      rw [h1, h2]
      simp
      omega
    · have := cs_lt (n := n) (fun y hy => h y (by omega)) ⟨x, by omega, h1, h2⟩
      have h3 := h n (by omega)
      by_cases e : S n = true
      · rw [if_pos e, if_pos (h3 e)]; omega
      · rw [if_neg e]; omega
theorem cs_all {S : Nat → Bool} : ∀ {n : Nat}, n ≤ cs S n → ∀ x, x < n → S x = true
  | 0, _, x, hx => absurd hx (Nat.not_lt_zero _)
  | n + 1, h, x, hx => by
    have h1 := csn_le S n
    unfold cs at h
    by_cases e : S n = true
    · by_cases q : x = n
      · rw [q]; exact e
      · rw [if_pos e] at h
        exact cs_all (n := n) (by omega) x (by omega)
    · rw [if_neg e] at h
      omega
/-- a growing row of sets below N that once stops and then stays -/
theorem cs_stab (S : Nat → Nat → Bool) (N : Nat) (mono : ∀ k x, x < N → S k x = true → S (k + 1) x = true) (stp : ∀ k, (∀ x, x < N → S (k + 1) x = S k x) → ∀ x, x < N → S (k + 2) x = S (k + 1) x) : ∀ m, N ≤ m → ∀ x, x < N → S m x = S N x := by
  have st : ∀ k, (∀ x, x < N → S (k + 1) x = S k x) → ∀ d, (∀ x, x < N → S (k + d + 1) x = S (k + d) x) ∧ ∀ x, x < N → S (k + d) x = S k x := fun k h d => by
    induction d with
    | zero => exact ⟨h, fun x _ => rfl⟩
    | succ d ih =>
      have h1 := stp (k + d) ih.1
      exact ⟨h1, fun x hx => (ih.1 x hx).trans (ih.2 x hx)⟩
  have key : ∀ k, k ≤ cs (S k) N ∨ (∀ x, x < N → S (k + 1) x = S k x) := fun k => by
    induction k with
    | zero => exact Or.inl (Nat.zero_le _)
    | succ k ih =>
      rcases ih with ih | ih
      · by_cases q : ∀ x, x < N → S (k + 1) x = S k x
        · exact Or.inr (stp k q)
        · refine Or.inl ?_
          have q2 : ∃ x, x < N ∧ S (k + 1) x ≠ S k x := Classical.byContradiction fun z => q fun x hx => Classical.byContradiction fun y => z ⟨x, hx, y⟩
          obtain ⟨x, hx, hne⟩ := q2
          have h1 : S k x = false := by
            cases e : S k x with
            | false => rfl
            | true => exact absurd ((mono k x hx e).trans e.symm) hne
          have h2 : S (k + 1) x = true := by
            cases e : S (k + 1) x with
            | true => rfl
            | false => exact absurd (e.trans h1.symm) hne
          have := cs_lt (mono k) ⟨x, hx, h1, h2⟩
          omega
      · exact Or.inr (stp k ih)
  intro m hm x hx
  have hst : ∀ x, x < N → S (N + 1) x = S N x := by
    rcases key N with h | h
    · have hall := cs_all h
      exact fun x hx => by rw [hall x hx]; exact mono N x hx (hall x hx)
    · exact h
  have := (st N hst (m - N)).2 x hx
  rwa [show N + (m - N) = m by omega] at this
/-! words -/
def nmf (a : Nat) (w : List Nat) : Nat := w.foldl (fun m c => 3 * m + 1 + c) a
def num (w : List Nat) : Nat := nmf 0 w
def le3 (w : List Nat) : Prop := ∀ c ∈ w, c < 3
theorem nmf_eq : ∀ (w : List Nat) (a : Nat), nmf a w = a * 3 ^ w.length + num w
  | [], a => by simp [nmf, num]
  | c :: w, a => by
    show nmf (3 * a + 1 + c) w = a * 3 ^ (w.length + 1) + nmf (3 * 0 + 1 + c) w
    rw [nmf_eq w, nmf_eq w (3 * 0 + 1 + c), Nat.pow_succ, Nat.add_mul, Nat.add_mul, Nat.add_mul, Nat.add_mul, ← Nat.mul_assoc a, Nat.mul_comm (a * 3 ^ w.length) 3, ← Nat.mul_assoc 3 a]
    omega
theorem num_cons (c : Nat) (w : List Nat) : num (c :: w) = (c + 1) * 3 ^ w.length + num w := by
  show nmf (3 * 0 + 1 + c) w = _
  rw [nmf_eq, show 3 * 0 + 1 + c = c + 1 by omega]
theorem num_snoc (w : List Nat) (c : Nat) : num (w ++ [c]) = 3 * num w + 1 + c := by
  unfold num nmf
  rw [List.foldl_append]
  rfl
theorem num_bd : ∀ (w : List Nat), le3 w → 3 ^ w.length ≤ 2 * num w + 1 ∧ 2 * num w + 1 < 3 ^ (w.length + 1)
  | [], _ => by decide
  | c :: w, h => by
    have ih := num_bd w (fun d hd => h d (List.mem_cons_of_mem _ hd))
    have hc := h c List.mem_cons_self
    rw [num_cons, List.length_cons]
    have e1 : 3 ^ (w.length + 1) = 3 * 3 ^ w.length := by rw [Nat.pow_succ, Nat.mul_comm]
    have e2 : 3 ^ (w.length + 1 + 1) = 9 * 3 ^ w.length := by rw [Nat.pow_succ, e1]; omega
    rw [e1] at ih
    rw [e2, e1]
    have : c = 0 ∨ c = 1 ∨ c = 2 := by omega
    rcases this with rfl | rfl | rfl <;> omega
theorem num_len {w w' : List Nat} (h : le3 w) (h' : le3 w') (hl : w.length < w'.length) : num w < num w' := by
  have a := num_bd w h
  have b := num_bd w' h'
  have : 3 ^ (w.length + 1) ≤ 3 ^ w'.length := Nat.pow_le_pow_right (by decide) hl
  omega
theorem num_inj : ∀ {w w' : List Nat}, le3 w → le3 w' → num w = num w' → w = w' := by
  intro w
  induction hk : w.length generalizing w with
  | zero =>
    intro w' h h' e
    have hw : w = [] := List.length_eq_zero_iff.mp hk
    subst hw
    cases w' with
    | nil => rfl
    | cons c v => have := num_len h h' (by simp); omega
  | succ k ih =>
    intro w' h h' e
    cases w with
    | nil => simp at hk
    | cons c v =>
      cases w' with
      | nil => have := num_len h' h (by simp); omega
      | cons d u =>
        have hl : (c :: v).length = (d :: u).length := by
          rcases Nat.lt_trichotomy (c :: v).length (d :: u).length with q | q | q
          · have := num_len h h' q; omega
          · exact q
          · have := num_len h' h q; omega
        simp only [List.length_cons, Nat.add_right_cancel_iff] at hl hk
        have hv : le3 v := fun x hx => h x (List.mem_cons_of_mem _ hx)
        have hu : le3 u := fun x hx => h' x (List.mem_cons_of_mem _ hx)
        have a := num_bd v hv
        have b := num_bd u hu
        have hc := h c List.mem_cons_self
        have hd := h' d List.mem_cons_self
        rw [num_cons, num_cons, hl] at e
        rw [hl] at a
        have e1 : 3 ^ (u.length + 1) = 3 * 3 ^ u.length := by rw [Nat.pow_succ, Nat.mul_comm]
        rw [e1] at a b
        have hcd : c = d := by
          have h1 : c = 0 ∨ c = 1 ∨ c = 2 := by omega
          have h2 : d = 0 ∨ d = 1 ∨ d = 2 := by omega
          rcases h1 with rfl | rfl | rfl <;> rcases h2 with rfl | rfl | rfl <;> first | rfl | (exfalso; omega)
        subst hcd
        rw [ih hk hv hu (by omega)]
/-- the word of a number -/
def wdf : Nat → Nat → List Nat
  | 0, _ => []
  | f + 1, n => if n = 0 then [] else wdf f ((n - 1) / 3) ++ [(n - 1) % 3]
def wd (n : Nat) : List Nat := wdf n n
theorem wdf_eq : ∀ (f g n : Nat), n ≤ f → n ≤ g → wdf f n = wdf g n
  | 0, 0, n, _, _ => rfl
  | 0, g + 1, n, h, _ => by
    have : n = 0 := by omega
    subst this
    rfl
  | f + 1, 0, n, _, h => by
    have : n = 0 := by omega
    subst this
    rfl
  | f + 1, g + 1, n, h1, h2 => by
    unfold wdf
    by_cases e : n = 0
    · rw [if_pos e, if_pos e]
    · rw [if_neg e, if_neg e, wdf_eq f g ((n - 1) / 3) (by omega) (by omega)]
theorem wd_0 : wd 0 = [] := rfl
theorem wd_s (m c : Nat) (h : c < 3) : wd (3 * m + 1 + c) = wd m ++ [c] := by
  unfold wd
  rw [show wdf (3 * m + 1 + c) (3 * m + 1 + c) = wdf (3 * m + c) ((3 * m + 1 + c - 1) / 3) ++ [(3 * m + 1 + c - 1) % 3] by
    rw [show 3 * m + 1 + c = (3 * m + c) + 1 by omega]
    show (if 3 * m + c + 1 = 0 then _ else _) = _
    rw [if_neg (by omega)]]
  rw [show (3 * m + 1 + c - 1) / 3 = m by omega, show (3 * m + 1 + c - 1) % 3 = c by omega, wdf_eq _ m m (by omega) (by omega)]
theorem nat3 (P : Nat → Prop) (h0 : P 0) (hs : ∀ m c, c < 3 → P m → P (3 * m + 1 + c)) : ∀ n, P n := by
  intro n
  induction n using Nat.strongRecOn with
  | ind n ih =>
    by_cases e : n = 0
    · rw [e]; exact h0
    · have := hs ((n - 1) / 3) ((n - 1) % 3) (by omega) (ih _ (by omega))
      rwa [show 3 * ((n - 1) / 3) + 1 + (n - 1) % 3 = n by omega] at this
theorem wd_le3 (n : Nat) : le3 (wd n) := nat3 (fun n => le3 (wd n)) (fun c hc => by rw [wd_0] at hc; exact absurd hc (by simp)) (fun m c hc ih d hd => by
  rw [wd_s m c hc] at hd
  rcases List.mem_append.mp hd with q | q
  · exact ih d q
  · rw [List.mem_singleton.mp q]; exact hc) n
theorem num_wd (n : Nat) : num (wd n) = n := nat3 (fun n => num (wd n) = n) rfl (fun m c hc ih => by rw [wd_s m c hc, num_snoc, ih]) n
theorem wd_num {w : List Nat} (h : le3 w) : wd (num w) = w := num_inj (wd_le3 _) h (num_wd _)
section GRAPH
variable {α : Type} {nx : α → Nat → α} {T : α → Bool} {r q : α}
def rn (nx : α → Nat → α) (q : α) (w : List Nat) : α := w.foldl nx q
def sg (nx : α → Nat → α) (r : α) (n : Nat) : α := rn nx r (wd n)
theorem rn_app (w v : List Nat) : rn nx q (w ++ v) = rn nx (rn nx q w) v := List.foldl_append
theorem rn_snoc (w : List Nat) (c : Nat) : rn nx q (w ++ [c]) = nx (rn nx q w) c := by rw [rn_app]; rfl
theorem sg_0 : sg nx r 0 = r := rfl
theorem sg_s (m c : Nat) (h : c < 3) : sg nx r (3 * m + 1 + c) = nx (sg nx r m) c := by unfold sg; rw [wd_s m c h, rn_snoc]
/-- a word of exactly so many letters leads to T -/
def ek (nx : α → Nat → α) (T : α → Bool) : Nat → α → Bool
  | 0, q => T q
  | k + 1, q => ek nx T k (nx q 0) || ek nx T k (nx q 1) || ek nx T k (nx q 2)
theorem ek_s {k : Nat} : ek nx T (k + 1) q = true ↔ ∃ c, c < 3 ∧ ek nx T k (nx q c) = true := by
  show (_ || _ || _) = true ↔ _
  rw [Bool.or_eq_true, Bool.or_eq_true]
  constructor
  · intro h
    rcases h with (h | h) | h
    · exact ⟨0, by decide, h⟩
    · exact ⟨1, by decide, h⟩
    · exact ⟨2, by decide, h⟩
  · rintro ⟨c, hc, h⟩
    have : c = 0 ∨ c = 1 ∨ c = 2 := by omega
    rcases this with rfl | rfl | rfl
    · exact Or.inl (Or.inl h)
    · exact Or.inl (Or.inr h)
    · exact Or.inr h
theorem ek_w : ∀ {k : Nat} {q : α}, ek nx T k q = true ↔ ∃ w, le3 w ∧ w.length = k ∧ T (rn nx q w) = true
  | 0, q => ⟨fun h => ⟨[], fun c hc => absurd hc (by simp), rfl, h⟩, fun ⟨w, _, hl, h⟩ => by
      have : w = [] := List.length_eq_zero_iff.mp hl
      subst this
      exact h⟩
  | k + 1, q => by
    rw [ek_s]
    constructor
    · rintro ⟨c, hc, h⟩
      obtain ⟨w, h1, h2, h3⟩ := ek_w.mp h
      exact ⟨c :: w, fun d hd => by
        rcases List.mem_cons.mp hd with q | q
        · rw [q]; exact hc
        · exact h1 d q, by rw [List.length_cons, h2], h3⟩
    · rintro ⟨w, h1, h2, h3⟩
      cases w with
      | nil => simp at h2
      | cons c v => exact ⟨c, h1 c List.mem_cons_self, ek_w.mpr ⟨v, fun d hd => h1 d (List.mem_cons_of_mem _ hd), by simpa using h2, h3⟩⟩
/-- the least length -/
def isD (nx : α → Nat → α) (T : α → Bool) (q : α) (k : Nat) : Prop := ek nx T k q = true ∧ ∀ i, i < k → ek nx T i q = false
theorem isD_u {k k' : Nat} (h : isD nx T q k) (h' : isD nx T q k') : k = k' := by
  rcases Nat.lt_trichotomy k k' with e | e | e
  · have := h'.2 k e; rw [h.1] at this; cases this
  · exact e
  · have := h.2 k' e; rw [h'.1] at this; cases this
theorem isD_ex {m : Nat} (h : ek nx T m q = true) : ∃ k, k ≤ m ∧ isD nx T q k := by
  induction m using Nat.strongRecOn with
  | ind m ih =>
    by_cases e : ∃ i, i < m ∧ ek nx T i q = true
    · obtain ⟨i, hi, he⟩ := e
      obtain ⟨k, h1, h2⟩ := ih i hi he
      exact ⟨k, by omega, h2⟩
    · exact ⟨m, Nat.le_refl _, h, fun i hi => by
        cases z : ek nx T i q with
        | false => rfl
        | true => exact absurd ⟨i, hi, z⟩ e⟩
theorem isD_next {k c : Nat} (h : isD nx T q (k + 1)) (hc : c < 3) (he : ek nx T k (nx q c) = true) : isD nx T (nx q c) k := ⟨he, fun i hi => by
  cases z : ek nx T i (nx q c) with
  | false => rfl
  | true =>
    have := h.2 (i + 1) (by omega)
    rw [ek_s.mpr ⟨c, hc, z⟩] at this
    cases this⟩
/-- the first word that leads to T -/
def isB (nx : α → Nat → α) (T : α → Bool) (q : α) (w : List Nat) : Prop := le3 w ∧ T (rn nx q w) = true ∧ ∀ v, le3 v → T (rn nx q v) = true → num w ≤ num v
theorem isB_u {w v : List Nat} (h : isB nx T q w) (h' : isB nx T q v) : w = v := num_inj h.1 h'.1 (Nat.le_antisymm (h.2.2 v h'.1 h'.2.1) (h'.2.2 w h.1 h.2.1))
theorem isB_len {w : List Nat} (h : isB nx T q w) : isD nx T q w.length := ⟨ek_w.mpr ⟨w, h.1, rfl, h.2.1⟩, fun i hi => by
  cases z : ek nx T i q with
  | false => rfl
  | true =>
    obtain ⟨v, h1, h2, h3⟩ := ek_w.mp z
    have a := h.2.2 v h1 h3
    have b := num_len h1 h.1 (by omega)
    omega⟩
theorem isB_nil (h : T q = true) : isB nx T q [] := ⟨fun c hc => absurd hc (by simp), h, fun v _ _ => Nat.zero_le _⟩
/-- a letter ahead: the least one that leads nearer -/
theorem isB_cons {k c : Nat} {w : List Nat} (hd : isD nx T q (k + 1)) (hc : c < 3) (hw : isB nx T (nx q c) w) (hk : isD nx T (nx q c) k) (hl : ∀ d, d < c → ¬ isD nx T (nx q d) k) : isB nx T q (c :: w) := by
  have hwl : w.length = k := isD_u (isB_len hw) hk
  refine ⟨fun d hd => ?_, hw.2.1, fun v hv ht => ?_⟩
  · rcases List.mem_cons.mp hd with e | e
    · rw [e]; exact hc
    · exact hw.1 d e
  · have hcw : le3 (c :: w) := fun d hd => by
      rcases List.mem_cons.mp hd with e | e
      · rw [e]; exact hc
      · exact hw.1 d e
    have hlen : k + 1 ≤ v.length := by
      rcases Nat.lt_or_ge v.length (k + 1) with e | e
      · have := hd.2 _ e
        rw [ek_w.mpr ⟨v, hv, rfl, ht⟩] at this
        cases this
      · exact e
    rcases Nat.lt_or_ge (k + 1) v.length with e | e
    · exact Nat.le_of_lt (num_len hcw hv (by rw [List.length_cons, hwl]; exact e))
    · cases v with
      | nil => simp at hlen
      | cons d u =>
        have hu : le3 u := fun x hx => hv x (List.mem_cons_of_mem _ hx)
        have hul : u.length = k := by rw [List.length_cons] at hlen e; omega
        have hdd := hv d List.mem_cons_self
        have h1 : isD nx T (nx q d) k := isD_next hd hdd (ek_w.mpr ⟨u, hu, hul, ht⟩)
        rw [num_cons, num_cons, hwl, hul]
        by_cases e3 : c = d
        · subst e3
          have := hw.2.2 u hu ht
          omega
        · have hcd : c < d := by
            rcases Nat.lt_or_ge d c with q | q
            · exact absurd h1 (hl d q)
            · omega
          have a := (num_bd w hw.1).2
          have b := (num_bd u hu).1
          rw [hwl, Nat.pow_succ] at a
          rw [hul] at b
          have : (c + 1) * 3 ^ k + 3 ^ k ≤ (d + 1) * 3 ^ k := by
            have : (c + 1 + 1) * 3 ^ k ≤ (d + 1) * 3 ^ k := Nat.mul_le_mul_right _ (by omega)
            rw [Nat.add_mul (c + 1) 1, Nat.one_mul] at this
            exact this
          omega
theorem isB_sg {n : Nat} (h : T (sg nx r n) = true) (hl : ∀ m, m < n → T (sg nx r m) = false) : isB nx T r (wd n) := ⟨wd_le3 n, h, fun v hv ht => by
  rw [num_wd]
  rcases Nat.lt_or_ge (num v) n with e | e
  · have := hl _ e
    unfold sg at this
    rw [wd_num hv, ht] at this
    cases this
  · exact e⟩
end GRAPH
/-! the search by levels: the nodes in the order of finding, for each (3 times the node before it, plus the letter) -/
abbrev bst : Type := (Nat → Nat) × (Nat → Nat) × Nat
def bin (o : Nat → Nat) (L x : Nat) : Bool := (List.range L).any fun j => decide (o j = x)
theorem bin_iff {o : Nat → Nat} {L x : Nat} : bin o L x = true ↔ ∃ j, j < L ∧ o j = x := by
  unfold bin
  rw [List.any_eq_true]
  constructor
  · rintro ⟨j, h1, h2⟩
    exact ⟨j, List.mem_range.mp h1, by simpa using h2⟩
  · rintro ⟨j, h1, h2⟩
    exact ⟨j, List.mem_range.mpr h1, by simpa using h2⟩
def bvis (nx : Nat → Nat → Nat) (s : bst) (u : Nat) : bst := if bin s.1 s.2.2 (nx (s.1 (u / 3)) (u % 3)) = true then s else (up s.1 s.2.2 (nx (s.1 (u / 3)) (u % 3)), up s.2.1 s.2.2 u, s.2.2 + 1)
def brun (nx : Nat → Nat → Nat) (r : Nat) : Nat → bst
  | 0 => (fun _ => r, fun _ => 0, 1)
  | u + 1 => bvis nx (brun nx r u) u
def Bf (nx : Nat → Nat → Nat) (r : Nat) (s : bst) (u : Nat) : Prop := 1 ≤ s.2.2 ∧ s.1 0 = r ∧ s.2.1 0 = 0 ∧ (∀ i j, i < s.2.2 → j < s.2.2 → s.1 i = s.1 j → i = j) ∧
  (∀ j, 1 ≤ j → j < s.2.2 → s.2.1 j < u ∧ s.2.1 j / 3 < j ∧ s.1 j = nx (s.1 (s.2.1 j / 3)) (s.2.1 j % 3)) ∧
  (∀ i j, 1 ≤ i → i < j → j < s.2.2 → s.2.1 i < s.2.1 j) ∧
  (∀ v, v < u → v / 3 < s.2.2 → ∃ j, j < s.2.2 ∧ s.1 j = nx (s.1 (v / 3)) (v % 3) ∧ (j = 0 ∨ s.2.1 j ≤ v)) ∧
  (∀ j, s.2.2 ≤ j → s.1 j = r)
theorem Bf_0 (nx : Nat → Nat → Nat) (r : Nat) : Bf nx r (brun nx r 0) 0 := ⟨Nat.le_refl _, rfl, rfl, fun i j h1 h2 _ => by
  have h1 : i < 1 := h1
  have h2 : j < 1 := h2
  omega, fun j h1 h2 => by
  have h2 : j < 1 := h2
  omega, fun i j h1 h2 h3 => by
  have h3 : j < 1 := h3
  omega, fun v hv => absurd hv (Nat.not_lt_zero _), fun _ _ => rfl⟩
theorem Bf_s {nx : Nat → Nat → Nat} {r u : Nat} {s : bst} (h : Bf nx r s u) : Bf nx r (bvis nx s u) (u + 1) := by
  obtain ⟨o, pr, L⟩ := s
  obtain ⟨b1, b2, b2', b3, b4, b5, b6, b7⟩ := h
  dsimp only at b1 b2 b2' b3 b4 b5 b6 b7
  unfold bvis
  dsimp only
  by_cases e : bin o L (nx (o (u / 3)) (u % 3)) = true
  · rw [if_pos e]
    refine ⟨b1, b2, b2', b3, fun j h1 h2 => ⟨Nat.lt_succ_of_lt (b4 j h1 h2).1, (b4 j h1 h2).2⟩, b5, fun v hv hl => ?_, b7⟩
    by_cases q : v < u
    · exact b6 v q hl
    · have : v = u := by omega
      subst this
      obtain ⟨j, h1, h2⟩ := bin_iff.mp e
      refine ⟨j, h1, h2, ?_⟩
      by_cases z : j = 0
      · exact Or.inl z
      · exact Or.inr (Nat.le_of_lt (b4 j (by omega) h1).1)
  · rw [if_neg e]
    have hne : ∀ j, j < L → o j ≠ nx (o (u / 3)) (u % 3) := fun j hj q => e (bin_iff.mpr ⟨j, hj, q⟩)
    have hu : u / 3 < L := by
      rcases Nat.lt_or_ge (u / 3) L with q | q
      · exact q
      · exfalso
        obtain ⟨j, h1, h2, -⟩ := b6 (u % 3) (by omega) (by omega)
        rw [show u % 3 / 3 = 0 by omega, show u % 3 % 3 = u % 3 by omega, b2] at h2
        exact hne j h1 (by rw [b7 _ q]; exact h2)
    refine ⟨Nat.succ_le_succ (Nat.zero_le _), ?_, ?_, fun i j h1 h2 he => ?_, fun j h1 h2 => ?_, fun i j h0 h1 h2 => ?_, fun v hv hl => ?_, fun j hj => ?_⟩
    · show up o L _ 0 = r
      rw [up_ne _ _ (by omega)]; exact b2
    · show up pr L _ 0 = 0
      rw [up_ne _ _ (by omega)]; exact b2'
    · have h1 : i < L + 1 := h1
      have h2 : j < L + 1 := h2
      have he : up o L (nx (o (u / 3)) (u % 3)) i = up o L (nx (o (u / 3)) (u % 3)) j := he
      by_cases e1 : i = L
      · by_cases e2 : j = L
        · rw [e1, e2]
        · rw [e1, up_at, up_ne _ _ e2] at he
          exact absurd he.symm (hne j (by omega))
      · by_cases e2 : j = L
        · rw [e2, up_at, up_ne _ _ e1] at he
          exact absurd he (hne i (by omega))
        · rw [up_ne _ _ e1, up_ne _ _ e2] at he
          exact b3 i j (by omega) (by omega) he
    · have h2 : j < L + 1 := h2
      show up pr L u j < u + 1 ∧ up pr L u j / 3 < j ∧ up o L _ j = nx (up o L _ (up pr L u j / 3)) (up pr L u j % 3)
      by_cases e1 : j = L
      · subst e1
        rw [up_at, up_at, up_ne _ _ (by omega)]
        exact ⟨Nat.lt_succ_self _, hu, rfl⟩
      · rw [up_ne _ _ e1, up_ne _ _ e1]
        obtain ⟨c1, c2, c3⟩ := b4 j h1 (by omega)
        rw [up_ne _ _ (by omega)]
        exact ⟨by omega, c2, c3⟩
    · have h2 : j < L + 1 := h2
      show up pr L u i < up pr L u j
      rw [up_ne _ _ (by omega)]
      by_cases e1 : j = L
      · rw [e1, up_at]; exact (b4 i h0 (by omega)).1
      · rw [up_ne _ _ e1]; exact b5 i j h0 h1 (by omega)
    · have hl : v / 3 < L + 1 := hl
      show ∃ j, j < L + 1 ∧ up o L _ j = nx (up o L _ (v / 3)) (v % 3) ∧ (j = 0 ∨ up pr L u j ≤ v)
      by_cases q : v < u
      · obtain ⟨j, h1, h2, h3⟩ := b6 v q (by omega)
        exact ⟨j, by omega, by rw [up_ne _ _ (by omega), up_ne _ _ (by omega)]; exact h2, by rw [up_ne _ _ (by omega)]; exact h3⟩
      · have : v = u := by omega
        subst this
        exact ⟨L, by omega, by rw [up_at, up_ne _ _ (by omega)], Or.inr (by rw [up_at]; exact Nat.le_refl _)⟩
    · have hj : L + 1 ≤ j := hj
      show up o L _ j = r
      rw [up_ne _ _ (by omega)]
      exact b7 j (by omega)
theorem Bf_all (nx : Nat → Nat → Nat) (r : Nat) : ∀ u, Bf nx r (brun nx r u) u
  | 0 => Bf_0 nx r
  | u + 1 => Bf_s (Bf_all nx r u)
theorem bvis_pre (nx : Nat → Nat → Nat) (s : bst) (u : Nat) : s.2.2 ≤ (bvis nx s u).2.2 ∧ ∀ j, j < s.2.2 → (bvis nx s u).1 j = s.1 j ∧ (bvis nx s u).2.1 j = s.2.1 j := by
  unfold bvis
  split
  · exact ⟨Nat.le_refl _, fun _ _ => ⟨rfl, rfl⟩⟩
  · exact ⟨Nat.le_succ _, fun j hj => ⟨up_ne _ _ (by omega), up_ne _ _ (by omega)⟩⟩
theorem brun_pre (nx : Nat → Nat → Nat) (r u : Nat) : ∀ d, (brun nx r u).2.2 ≤ (brun nx r (u + d)).2.2 ∧ ∀ j, j < (brun nx r u).2.2 → (brun nx r (u + d)).1 j = (brun nx r u).1 j ∧ (brun nx r (u + d)).2.1 j = (brun nx r u).2.1 j
  | 0 => ⟨Nat.le_refl _, fun _ _ => ⟨rfl, rfl⟩⟩
  | d + 1 => by
    obtain ⟨h1, h2⟩ := brun_pre nx r u d
    obtain ⟨g1, g2⟩ := bvis_pre nx (brun nx r (u + d)) (u + d)
    exact ⟨Nat.le_trans h1 g1, fun j hj => ⟨(g2 j (by omega)).1.trans (h2 j hj).1, (g2 j (by omega)).2.trans (h2 j hj).2⟩⟩
/-- nodes below K: found ones are fewer -/
theorem brun_lt {nx : Nat → Nat → Nat} {r K : Nat} (hr : r < K) (hx : ∀ q c, q < K → c < 3 → nx q c < K) (u : Nat) : ∀ j, (brun nx r u).1 j < K := by
  induction u with
  | zero => exact fun _ => hr
  | succ u ih =>
    intro j
    show (bvis nx (brun nx r u) u).1 j < K
    unfold bvis
    split
    · exact ih j
    · show up _ _ _ j < K
      unfold up
      split
      · exact hx _ _ (ih _) (by omega)
      · exact ih j
theorem brun_le {nx : Nat → Nat → Nat} {r K : Nat} (hr : r < K) (hx : ∀ q c, q < K → c < 3 → nx q c < K) (u : Nat) : (brun nx r u).2.2 ≤ K := pg_le K _ (brun nx r u).1 (fun j _ => brun_lt hr hx u j) (Bf_all nx r u).2.2.2.1
/-- once all found ones are gone through, no more is found -/
theorem brun_done {nx : Nat → Nat → Nat} {r u : Nat} (h : 3 * (brun nx r u).2.2 ≤ u) : ∀ d, brun nx r (u + d) = brun nx r u
  | 0 => rfl
  | d + 1 => by
    have ih := brun_done h d
    show bvis nx (brun nx r (u + d)) (u + d) = _
    rw [ih]
    obtain ⟨b1, b2, b2', b3, b4, b5, b6, b7⟩ := Bf_all nx r u
    unfold bvis
    rw [if_pos]
    obtain ⟨j, h1, h2, -⟩ := b6 ((u + d) % 3) (by omega) (by omega)
    rw [show (u + d) % 3 / 3 = 0 by omega, show (u + d) % 3 % 3 = (u + d) % 3 by omega, b2] at h2
    exact bin_iff.mpr ⟨j, h1, by rw [b7 ((u + d) / 3) (by omega)]; exact h2⟩
/-- the number of the word that finds a node first -/
def bNf (pr : Nat → Nat) : Nat → Nat → Nat
  | 0, _ => 0
  | f + 1, j => if j = 0 then 0 else 3 * bNf pr f (pr j / 3) + 1 + pr j % 3
def bN (pr : Nat → Nat) (j : Nat) : Nat := bNf pr j j
section BN
variable {nx : Nat → Nat → Nat} {r u : Nat} {s : bst}
theorem bNf_eq (h : Bf nx r s u) : ∀ (f g j : Nat), j ≤ f → j ≤ g → j < s.2.2 → bNf s.2.1 f j = bNf s.2.1 g j
  | 0, 0, j, _, _, _ => rfl
  | 0, g + 1, j, h1, _, _ => by
    have : j = 0 := by omega
    subst this
    rfl
  | f + 1, 0, j, _, h1, _ => by
    have : j = 0 := by omega
    subst this
    rfl
  | f + 1, g + 1, j, h1, h2, h3 => by
    unfold bNf
    by_cases e : j = 0
    · rw [if_pos e, if_pos e]
    · have := (h.2.2.2.2.1 j (by omega) h3).2.1
      rw [if_neg e, if_neg e, bNf_eq h f g (s.2.1 j / 3) (by omega) (by omega) (by omega)]
theorem bN_0 (pr : Nat → Nat) : bN pr 0 = 0 := rfl
theorem bN_s (h : Bf nx r s u) {j : Nat} (h0 : 1 ≤ j) (hj : j < s.2.2) : bN s.2.1 j = 3 * bN s.2.1 (s.2.1 j / 3) + 1 + s.2.1 j % 3 := by
  obtain ⟨k, rfl⟩ : ∃ k, j = k + 1 := ⟨j - 1, by omega⟩
  have := (h.2.2.2.2.1 _ h0 hj).2.1
  show (if k + 1 = 0 then 0 else 3 * bNf s.2.1 k (s.2.1 (k + 1) / 3) + 1 + s.2.1 (k + 1) % 3) = _
  rw [if_neg (by omega)]
  unfold bN
  rw [bNf_eq h k (s.2.1 (k + 1) / 3) (s.2.1 (k + 1) / 3) (by omega) (by omega) (by omega)]
theorem bN_sg (h : Bf nx r s u) : ∀ j, j < s.2.2 → sg nx r (bN s.2.1 j) = s.1 j := by
  intro j
  induction j using Nat.strongRecOn with
  | ind j ih =>
    intro hj
    by_cases e : j = 0
    · rw [e, bN_0, sg_0]; exact h.2.1.symm
    · obtain ⟨c1, c2, c3⟩ := h.2.2.2.2.1 j (by omega) hj
      rw [bN_s h (by omega) hj, sg_s _ _ (by omega), ih _ c2 (by omega)]
      exact c3.symm
theorem bN_mono (h : Bf nx r s u) : ∀ j, j < s.2.2 → ∀ i, i < j → bN s.2.1 i < bN s.2.1 j := by
  intro j
  induction j using Nat.strongRecOn with
  | ind j ih =>
    intro hj i hi
    obtain ⟨c1, c2, c3⟩ := h.2.2.2.2.1 j (by omega) hj
    rw [bN_s h (by omega) hj]
    by_cases e : i = 0
    · rw [e, bN_0]; omega
    · obtain ⟨d1, d2, d3⟩ := h.2.2.2.2.1 i (by omega) (by omega)
      have hp := h.2.2.2.2.2.1 i j (by omega) hi hj
      rw [bN_s h (by omega) (by omega)]
      by_cases q : s.2.1 i / 3 = s.2.1 j / 3
      · rw [q]; omega
      · have := ih (s.2.1 j / 3) c2 (by omega) (s.2.1 i / 3) (by omega)
        omega
theorem bN_le (h : Bf nx r s u) {i j : Nat} (hj : j < s.2.2) (hi : i ≤ j) : bN s.2.1 i ≤ bN s.2.1 j := by
  by_cases e : i = j
  · rw [e]; exact Nat.le_refl _
  · exact Nat.le_of_lt (bN_mono h j hj i (by omega))
/-- each word's node is found, by a word that is no later -/
theorem bN_all (h : Bf nx r s u) (hd : 3 * s.2.2 ≤ u) (n : Nat) : ∃ j, j < s.2.2 ∧ s.1 j = sg nx r n ∧ bN s.2.1 j ≤ n := by
  refine nat3 (fun n => ∃ j, j < s.2.2 ∧ s.1 j = sg nx r n ∧ bN s.2.1 j ≤ n) ⟨0, h.1, h.2.1, Nat.le_refl _⟩ (fun m c hc ih => ?_) n
  obtain ⟨i, h1, h2, h3⟩ := ih
  obtain ⟨j, g1, g2, g3⟩ := h.2.2.2.2.2.2.1 (3 * i + c) (by omega) (by omega)
  rw [show (3 * i + c) / 3 = i by omega, show (3 * i + c) % 3 = c by omega] at g2
  refine ⟨j, g1, by rw [g2, h2, sg_s _ _ hc], ?_⟩
  rcases g3 with rfl | g3
  · rw [bN_0]; omega
  · by_cases e : j = 0
    · rw [e, bN_0]; omega
    · obtain ⟨c1, c2, c3⟩ := h.2.2.2.2.1 j (by omega) g1
      rw [bN_s h (by omega) g1]
      have hle := bN_le h h1 (show s.2.1 j / 3 ≤ i by omega)
      by_cases q : s.2.1 j / 3 = i
      · rw [q] at hle ⊢; omega
      · have := bN_mono h i h1 (s.2.1 j / 3) (by omega)
        omega
theorem bN_first (h : Bf nx r s u) (hd : 3 * s.2.2 ≤ u) {T : Nat → Bool} {j : Nat} (hj : j < s.2.2) (ht : T (s.1 j) = true) (hf : ∀ i, i < j → T (s.1 i) = false) : isB nx T r (wd (bN s.2.1 j)) := isB_sg (by rw [bN_sg h j hj]; exact ht) fun m hm => by
  cases z : T (sg nx r m) with
  | false => rfl
  | true =>
    obtain ⟨i, h1, h2, h3⟩ := bN_all h hd m
    rw [← h2] at z
    rcases Nat.lt_or_ge i j with q | q
    · rw [hf i q] at z; cases z
    · have := bN_le h h1 q
      omega
theorem bN_none (h : Bf nx r s u) (hd : 3 * s.2.2 ≤ u) {T : Nat → Bool} (hf : ∀ i, i < s.2.2 → T (s.1 i) = false) (k : Nat) : ek nx T k r = false := by
  cases z : ek nx T k r with
  | false => rfl
  | true =>
    obtain ⟨w, h1, h2, h3⟩ := ek_w.mp z
    obtain ⟨i, g1, g2, g3⟩ := bN_all h hd (num w)
    rw [show rn nx r w = s.1 i by rw [g2]; unfold sg; rw [wd_num h1], hf i g1] at h3
    cases h3
end BN
