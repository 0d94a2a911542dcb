/-! states divided into classes -/
/-- the least place with P, or the end -/
def lf (P : Nat → Bool) : Nat → Nat
  | 0 => 0
  | n + 1 => if lf P n < n then lf P n else if P n = true then n else n + 1
theorem lf_le (P : Nat → Bool) : ∀ n, lf P n ≤ n
  | 0 => Nat.le_refl _
  | n + 1 => by
    have := lf_le P n
    unfold lf
    split
    · omega
    · split <;> omega
theorem lf_T (P : Nat → Bool) : ∀ n, lf P n < n → P (lf P n) = true
  | 0, h => absurd h (Nat.not_lt_zero _)
  | n + 1, h => by
    unfold lf at h ⊢
    by_cases e : lf P n < n
    · rw [if_pos e]; exact lf_T P n e
    · rw [if_neg e] at h ⊢
      by_cases q : P n = true
      · rw [if_pos q]; exact q
      · rw [if_neg q] at h; omega
theorem lf_F (P : Nat → Bool) : ∀ n i, i < lf P n → P i = false
  | 0, i, h => absurd h (Nat.not_lt_zero _)
  | n + 1, i, h => by
    unfold lf at h
    by_cases e : lf P n < n
    · rw [if_pos e] at h; exact lf_F P n i h
    · rw [if_neg e] at h
      have hl := lf_le P n
      by_cases q : P n = true
      · rw [if_pos q] at h; exact lf_F P n i (by omega)
      · rw [if_neg q] at h
        by_cases z : i = n
        · rw [z]
          cases w : P n with
          | false => rfl
          | true => exact absurd w q
        · exact lf_F P n i (by omega)
theorem lf_is {P : Nat → Bool} {n i : Nat} (h1 : i < n) (h2 : P i = true) (h3 : ∀ j, j < i → P j = false) : lf P n = i := by
  rcases Nat.lt_trichotomy (lf P n) i with e | e | e
  · have := lf_T P n (by omega)
    rw [h3 _ e] at this
    cases this
  · exact e
  · have := lf_F P n i e
    rw [h2] at this
    cases this
theorem lf_no {P : Nat → Bool} {n : Nat} (h : ∀ j, j < n → P j = false) : lf P n = n := by
  rcases Nat.lt_or_ge (lf P n) n with e | e
  · have := lf_T P n e
    rw [h _ e] at this
    cases this
  · have := lf_le P n
    omega
theorem lf_ge {P : Nat → Bool} {n i : Nat} (h : P i = true) : lf P n ≤ i := by
  rcases Nat.lt_or_ge i (lf P n) with e | e
  · have := lf_F P n i e
    rw [h] at this
    cases this
  · exact e
theorem lf_cg {P Q : Nat → Bool} : ∀ {n : Nat}, (∀ i, i < n → P i = Q i) → lf P n = lf Q n
  | 0, _ => rfl
  | n + 1, h => by
    unfold lf
    rw [lf_cg (n := n) (fun i hi => h i (by omega)), h n (by omega)]
/-- two states that no word of at most k letters tells apart -/
def mr (s : Nat → Nat → Nat) (ac : Nat → Bool) : Nat → Nat → Nat → Bool
  | 0, i, j => ac i == ac j
  | k + 1, i, j => mr s ac k i j && (mr s ac k (s i 0) (s j 0) && (mr s ac k (s i 1) (s j 1) && mr s ac k (s i 2) (s j 2)))
section MR
variable {s : Nat → Nat → Nat} {ac : Nat → Bool}
theorem mr_s {k i j : Nat} : mr s ac (k + 1) i j = true ↔ mr s ac k i j = true ∧ ∀ c, c < 3 → mr s ac k (s i c) (s j c) = true := by
  show (_ && (_ && (_ && _))) = true ↔ _
  rw [Bool.and_eq_true, Bool.and_eq_true, Bool.and_eq_true]
  constructor
  · rintro ⟨h, h0, h1, h2⟩
    refine ⟨h, fun c hc => ?_⟩
    have : c = 0 ∨ c = 1 ∨ c = 2 := by omega
    rcases this with rfl | rfl | rfl
    · exact h0
    · exact h1
    · exact h2
  · rintro ⟨h, hc⟩
    exact ⟨h, hc 0 (by decide), hc 1 (by decide), hc 2 (by decide)⟩
theorem mr_rf : ∀ (k i : Nat), mr s ac k i i = true
  | 0, i => by simp [mr]
  | k + 1, i => mr_s.mpr ⟨mr_rf k i, fun c _ => mr_rf k _⟩
theorem mr_sy : ∀ (k : Nat) {i j : Nat}, mr s ac k i j = true → mr s ac k j i = true
  | 0, i, j, h => by
    have : ac i = ac j := by simpa [mr] using h
    simp [mr, this]
  | k + 1, i, j, h => mr_s.mpr ⟨mr_sy k (mr_s.mp h).1, fun c hc => mr_sy k ((mr_s.mp h).2 c hc)⟩
theorem mr_tr : ∀ (k : Nat) {i j l : Nat}, mr s ac k i j = true → mr s ac k j l = true → mr s ac k i l = true
  | 0, i, j, l, h, h' => by
    have h1 : ac i = ac j := by simpa [mr] using h
    have h2 : ac j = ac l := by simpa [mr] using h'
    simp [mr, h1, h2]
  | k + 1, i, j, l, h, h' => mr_s.mpr ⟨mr_tr k (mr_s.mp h).1 (mr_s.mp h').1, fun c hc => mr_tr k ((mr_s.mp h).2 c hc) ((mr_s.mp h').2 c hc)⟩
theorem mr_dn {k i j : Nat} : ∀ d, mr s ac (k + d) i j = true → mr s ac k i j = true
  | 0, h => h
  | d + 1, h => mr_dn d (mr_s.mp h).1
theorem mr_le {k m i j : Nat} (hk : k ≤ m) (h : mr s ac m i j = true) : mr s ac k i j = true := mr_dn (m - k) (by rwa [show k + (m - k) = m by omega])
/-- words -/
theorem mr_w : ∀ {k i j : Nat}, mr s ac k i j = true ↔ ∀ w, le3 w → w.length ≤ k → ac (rn s i w) = ac (rn s j w)
  | 0, i, j => by
    constructor
    · intro h w _ hl
      have : w = [] := List.length_eq_zero_iff.mp (by omega)
      subst this
      have h2 : ac i = ac j := by simpa [mr] using h
      exact h2
    · intro h
      have h2 : ac i = ac j := h [] (fun c hc => absurd hc (by simp)) (Nat.le_refl _)
      simpa [mr] using h2
  | k + 1, i, j => by
    rw [mr_s]
    constructor
    · rintro ⟨h1, h2⟩ w hw hl
      cases w with
      | nil => exact mr_w.mp h1 [] hw (Nat.zero_le _)
      | cons c v => exact mr_w.mp (h2 c (hw c List.mem_cons_self)) v (fun d hd => hw d (List.mem_cons_of_mem _ hd)) (by simpa using hl)
    · intro h
      refine ⟨mr_w.mpr fun w hw hl => h w hw (by omega), fun c hc => mr_w.mpr fun w hw hl => h (c :: w) (fun d hd => ?_) (by simpa using hl)⟩
      rcases List.mem_cons.mp hd with e | e
      · rw [e]; exact hc
      · exact hw d e
end MR
/-! heads: states with no earlier one that is alike; a state's class is numbered by the heads before its own -/
def hdR (R : Nat → Nat → Bool) (a : Nat) : Bool := decide (lf (fun b => R b a) a = a)
def fsR (R : Nat → Nat → Bool) (a : Nat) : Nat := lf (fun b => R b a) a
def labR (R : Nat → Nat → Bool) (a : Nat) : Nat := cs (hdR R) (fsR R a)
def eqv (R : Nat → Nat → Bool) : Prop := (∀ i, R i i = true) ∧ (∀ i j, R i j = true → R j i = true) ∧ (∀ i j l, R i j = true → R j l = true → R i l = true)
theorem mr_eqv (s : Nat → Nat → Nat) (ac : Nat → Bool) (k : Nat) : eqv (mr s ac k) := ⟨mr_rf k, fun _ _ => mr_sy k, fun _ _ _ => mr_tr k⟩
section HD
variable {R R' : Nat → Nat → Bool} {a b L : Nat}
theorem hd_iff : hdR R a = true ↔ fsR R a = a := by unfold hdR fsR; rw [decide_eq_true_eq]
theorem fs_le : fsR R a ≤ a := lf_le _ _
theorem fs_R (h : eqv R) : R (fsR R a) a = true := by
  rcases Nat.lt_or_ge (fsR R a) a with e | e
  · exact lf_T (fun b => R b a) a e
  · have := fs_le (R := R) (a := a)
    rw [show fsR R a = a by omega]
    exact h.1 a
theorem fs_first {b : Nat} (hb : b < fsR R a) : R b a = false := lf_F (fun b => R b a) a b hb
theorem hd_no : hdR R a = true ↔ ∀ b, b < a → R b a = false := by
  rw [hd_iff]
  constructor
  · intro h b hb
    exact fs_first (by rw [h]; exact hb)
  · intro h
    exact lf_no h
theorem fs_hd (h : eqv R) : hdR R (fsR R a) = true := hd_no.mpr fun b hb => by
  cases z : R b (fsR R a) with
  | false => rfl
  | true =>
    have := h.2.2 _ _ _ z (fs_R h)
    rw [fs_first hb] at this
    cases this
theorem fs_cg (h : eqv R) (hr : R a b = true) : fsR R a = fsR R b := by
  have le : ∀ {a b : Nat}, R a b = true → fsR R b ≤ fsR R a := fun {a b} hr => lf_ge (P := fun x => R x b) (h.2.2 _ _ _ (fs_R h) hr)
  exact Nat.le_antisymm (le (h.2.1 _ _ hr)) (le hr)
theorem cs_hd {x y : Nat} (hx : hdR R x = true) (h : x < y) : cs (hdR R) x < cs (hdR R) y := by
  have h1 : cs (hdR R) (x + 1) = cs (hdR R) x + 1 := by
    show cs (hdR R) x + _ = _
    rw [if_pos hx]
  have h2 := cs_mono (hdR R) (show x + 1 ≤ y from h)
  omega
theorem lab_iff (h : eqv R) : labR R a = labR R b ↔ R a b = true := by
  constructor
  · intro e
    have hfs : fsR R a = fsR R b := by
      rcases Nat.lt_trichotomy (fsR R a) (fsR R b) with q | q | q
      · have := cs_hd (fs_hd h (a := a)) q; unfold labR at e; omega
      · exact q
      · have := cs_hd (fs_hd h (a := b)) q; unfold labR at e; omega
    exact h.2.2 _ _ _ (h.2.1 _ _ (fs_R h)) (by rw [hfs]; exact fs_R h)
  · intro e
    unfold labR
    rw [fs_cg h e]
theorem hd_cg (hc : ∀ i j, i < L → j < L → R i j = R' i j) (ha : a < L) : hdR R a = hdR R' a := by
  have : lf (fun b => R b a) a = lf (fun b => R' b a) a := lf_cg fun i hi => hc i a (by omega) ha
  unfold hdR
  rw [this]
theorem fsR_cg (hc : ∀ i j, i < L → j < L → R i j = R' i j) (ha : a < L) : fsR R a = fsR R' a := lf_cg fun i hi => hc i a (by omega) ha
theorem lab_cg (hc : ∀ i j, i < L → j < L → R i j = R' i j) (ha : a < L) : labR R a = labR R' a := by
  unfold labR
  rw [fsR_cg hc ha]
  have hl := fs_le (R := R') (a := a)
  exact cs_eq fun x hx => hd_cg hc (by omega)
theorem lab_lt (h : eqv R) (ha : a < L) : labR R a < cs (hdR R) L := cs_hd (fs_hd h) (Nat.lt_of_le_of_lt fs_le ha)
end HD
section MOORE
variable {s : Nat → Nat → Nat} {ac : Nat → Bool} {L : Nat}
def mc (s : Nat → Nat → Nat) (ac : Nat → Bool) (L k : Nat) : Nat := cs (hdR (mr s ac k)) L
theorem hd_up {k a : Nat} (h : hdR (mr s ac k) a = true) : hdR (mr s ac (k + 1)) a = true := hd_no.mpr fun b hb => by
  cases z : mr s ac (k + 1) b a with
  | false => rfl
  | true =>
    have := hd_no.mp h b hb
    rw [(mr_s.mp z).1] at this
    cases this
theorem mc_mono (k : Nat) : mc s ac L k ≤ mc s ac L (k + 1) := cs_sub fun _ _ => hd_up
/-- as many classes as before: the same classes -/
theorem mc_same {k : Nat} (h : mc s ac L (k + 1) ≤ mc s ac L k) : ∀ i j, i < L → j < L → mr s ac k i j = true → mr s ac (k + 1) i j = true := by
  have hh : ∀ x, x < L → hdR (mr s ac (k + 1)) x = true → hdR (mr s ac k) x = true := fun x hx e => by
    cases z : hdR (mr s ac k) x with
    | true => rfl
    | false =>
      have := cs_lt (S := hdR (mr s ac k)) (S' := hdR (mr s ac (k + 1))) (n := L) (fun _ _ => hd_up) ⟨x, hx, z, e⟩
      unfold mc at h
      omega
  intro i j hi hj hr
  have e1 := mr_eqv s ac (k + 1)
  have e0 := mr_eqv s ac k
  have li := fs_le (R := mr s ac (k + 1)) (a := i)
  have lj := fs_le (R := mr s ac (k + 1)) (a := j)
  have h1 := hh _ (by omega) (fs_hd e1 (a := i))
  have h2 := hh _ (by omega) (fs_hd e1 (a := j))
  have r1 : mr s ac k (fsR (mr s ac (k + 1)) i) i = true := (mr_s.mp (fs_R e1)).1
  have r2 : mr s ac k (fsR (mr s ac (k + 1)) j) j = true := (mr_s.mp (fs_R e1)).1
  have r3 : mr s ac k (fsR (mr s ac (k + 1)) i) (fsR (mr s ac (k + 1)) j) = true := e0.2.2 _ _ _ r1 (e0.2.2 _ _ _ hr (e0.2.1 _ _ r2))
  have hfs : fsR (mr s ac (k + 1)) i = fsR (mr s ac (k + 1)) j := by
    rcases Nat.lt_trichotomy (fsR (mr s ac (k + 1)) i) (fsR (mr s ac (k + 1)) j) with q | q | q
    · have := hd_no.mp h2 _ q
      rw [r3] at this
      cases this
    · exact q
    · have := hd_no.mp h1 _ q
      rw [e0.2.1 _ _ r3] at this
      cases this
  exact e1.2.2 _ _ _ (e1.2.1 _ _ (fs_R e1)) (by rw [hfs]; exact fs_R e1)
theorem mr_stab {k : Nat} (hs : ∀ i c, i < L → c < 3 → s i c < L) (h : ∀ i j, i < L → j < L → mr s ac k i j = true → mr s ac (k + 1) i j = true) : ∀ d i j, i < L → j < L → mr s ac k i j = true → mr s ac (k + d) i j = true
  | 0, _, _, _, _, e => e
  | d + 1, i, j, hi, hj, e => by
    refine mr_s.mpr ⟨mr_stab hs h d i j hi hj e, fun c hc => ?_⟩
    exact mr_stab hs h d _ _ (hs i c hi hc) (hs j c hj hc) ((mr_s.mp (h i j hi hj e)).2 c hc)
theorem mr_iff {k : Nat} (hs : ∀ i c, i < L → c < 3 → s i c < L) (h : mc s ac L (k + 1) ≤ mc s ac L k) (d i j : Nat) (hi : i < L) (hj : j < L) : mr s ac (k + d) i j = mr s ac k i j := by
  cases z : mr s ac k i j with
  | true => exact mr_stab hs (mc_same h) d i j hi hj z
  | false =>
    cases w : mr s ac (k + d) i j with
    | false => rfl
    | true => rw [mr_dn d w] at z; cases z
theorem mc_done {k : Nat} (hs : ∀ i c, i < L → c < 3 → s i c < L) (h : mc s ac L (k + 1) ≤ mc s ac L k) (d : Nat) : mc s ac L (k + d) = mc s ac L k := cs_eq fun x hx => hd_cg (L := L) (fun i j hi hj => mr_iff hs h d i j hi hj) hx
theorem mc_pos (h : 1 ≤ L) (k : Nat) : 1 ≤ mc s ac L k := by
  have h0 : hdR (mr s ac k) 0 = true := hd_no.mpr fun b hb => absurd hb (Nat.not_lt_zero _)
  have h1 : cs (hdR (mr s ac k)) 1 = 1 := by
    show 0 + _ = 1
    rw [if_pos h0]
  have := cs_mono (hdR (mr s ac k)) h
  unfold mc
  omega
/-- k + 1 classes at least, or no more are made -/
theorem mc_key (hL : 1 ≤ L) (hs : ∀ i c, i < L → c < 3 → s i c < L) : ∀ k, k + 1 ≤ mc s ac L k ∨ mc s ac L (k + 1) ≤ mc s ac L k
  | 0 => Or.inl (mc_pos hL 0)
  | k + 1 => by
    rcases mc_key hL hs k with h | h
    · rcases Nat.lt_or_ge (mc s ac L k) (mc s ac L (k + 1)) with q | q
      · exact Or.inl (by omega)
      · have a := mc_done hs q 1
        have b := mc_done hs q 2
        exact Or.inr (by rw [show k + 1 + 1 = k + 2 by omega, b, a]; exact Nat.le_refl _)
    · have a := mc_done hs h 1
      have b := mc_done hs h 2
      exact Or.inr (by rw [show k + 1 + 1 = k + 2 by omega, b, a]; exact Nat.le_refl _)
theorem mc_L (hL : 1 ≤ L) (hs : ∀ i c, i < L → c < 3 → s i c < L) : ∀ k, L ≤ k → mc s ac L (k + 1) ≤ mc s ac L k := fun k hk => by
  rcases mc_key (ac := ac) hL hs k with h | h
  · have := csn_le (hdR (mr s ac k)) L
    unfold mc at h
    omega
  · exact h
/-- the number of classes: any k from which no more are made gives it -/
def mcF (s : Nat → Nat → Nat) (ac : Nat → Bool) (L : Nat) : Nat := mc s ac L 200
theorem mc_fin (hL : 1 ≤ L) (hL2 : L ≤ 200) (hs : ∀ i c, i < L → c < 3 → s i c < L) {k : Nat} (h : mc s ac L (k + 1) ≤ mc s ac L k) : mc s ac L k = mcF s ac L := by
  have a := mc_done hs h 200
  have b := mc_done hs (mc_L (ac := ac) hL hs 200 hL2) k
  unfold mcF
  rw [← b, ← a, Nat.add_comm]
theorem mr_fin (hL : 1 ≤ L) (hL2 : L ≤ 200) (hs : ∀ i c, i < L → c < 3 → s i c < L) {k : Nat} (h : mc s ac L (k + 1) ≤ mc s ac L k) (i j : Nat) (hi : i < L) (hj : j < L) : mr s ac k i j = mr s ac 200 i j := by
  have a := mr_iff hs h 200 i j hi hj
  have b := mr_iff hs (mc_L (ac := ac) hL hs 200 hL2) k i j hi hj
  rw [← b, ← a, Nat.add_comm]
theorem mr_far (hL : 1 ≤ L) (hL2 : L ≤ 200) (hs : ∀ i c, i < L → c < 3 → s i c < L) {i j : Nat} (hi : i < L) (hj : j < L) (h : mr s ac 200 i j = true) (w : List Nat) (hw : le3 w) : ac (rn s i w) = ac (rn s j w) := by
  have b := mr_iff hs (mc_L (ac := ac) hL hs 200 hL2) w.length i j hi hj
  rw [h] at b
  exact mr_w.mp b w hw (by omega)
end MOORE
/-! labels that stand for classes; dividing them once more -/
section LAB
variable {s : Nat → Nat → Nat} {ac : Nat → Bool} {L k : Nat} {l : Nat → Nat}
def labs (s : Nat → Nat → Nat) (ac : Nat → Bool) (L k : Nat) (l : Nat → Nat) : Prop := ∀ i j, i < L → j < L → (l i = l j ↔ mr s ac k i j = true)
def alk (s : Nat → Nat → Nat) (l : Nat → Nat) (a b : Nat) : Bool := decide (l a = l b) && (decide (l (s a 0) = l (s b 0)) && (decide (l (s a 1) = l (s b 1)) && decide (l (s a 2) = l (s b 2))))
theorem alk_mr (hs : ∀ i c, i < L → c < 3 → s i c < L) (h : labs s ac L k l) (i j : Nat) (hi : i < L) (hj : j < L) : alk s l i j = mr s ac (k + 1) i j := by
  have key : alk s l i j = true ↔ mr s ac (k + 1) i j = true := by
    rw [mr_s]
    unfold alk
    rw [Bool.and_eq_true, Bool.and_eq_true, Bool.and_eq_true, decide_eq_true_eq, decide_eq_true_eq, decide_eq_true_eq, decide_eq_true_eq, h i j hi hj, h _ _ (hs i 0 hi (by decide)) (hs j 0 hj (by decide)), h _ _ (hs i 1 hi (by decide)) (hs j 1 hj (by decide)), h _ _ (hs i 2 hi (by decide)) (hs j 2 hj (by decide))]
    constructor
    · rintro ⟨h0, h1, h2, h3⟩
      refine ⟨h0, fun c hc => ?_⟩
      have : c = 0 ∨ c = 1 ∨ c = 2 := by omega
      rcases this with rfl | rfl | rfl
      · exact h1
      · exact h2
      · exact h3
    · rintro ⟨h0, hc⟩
      exact ⟨h0, hc 0 (by decide), hc 1 (by decide), hc 2 (by decide)⟩
  cases z : mr s ac (k + 1) i j with
  | true => exact key.mpr z
  | false =>
    cases w : alk s l i j with
    | false => rfl
    | true => rw [key.mp w] at z; cases z
theorem labs_lab (s : Nat → Nat → Nat) (ac : Nat → Bool) (L k : Nat) : labs s ac L k (labR (mr s ac k)) := fun _ _ _ _ => lab_iff (mr_eqv s ac k)
theorem labs_cg {l' : Nat → Nat} (h : labs s ac L k l) (e : ∀ i, i < L → l' i = l i) : labs s ac L k l' := fun i j hi hj => by rw [e i hi, e j hj]; exact h i j hi hj
end LAB
