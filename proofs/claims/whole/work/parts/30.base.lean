/-! numbers that are small, kept as nI n -/
theorem z0 : (0 : Int32) = nI 0 := rfl
theorem oi : Int32.ofInt 0 = nI 0 ∧ Int32.ofInt 1 = nI 1 ∧ Int32.ofInt 2 = nI 2 ∧ Int32.ofInt 3 = nI 3 ∧ Int32.ofInt 4 = nI 4 ∧ Int32.ofInt 5 = nI 5 ∧ Int32.ofInt 6 = nI 6 ∧ Int32.ofInt 7 = nI 7 ∧ Int32.ofInt 8 = nI 8 ∧ Int32.ofInt 9 = nI 9 ∧ Int32.ofInt 12 = nI 12 ∧ Int32.ofInt 13 = nI 13 ∧ Int32.ofInt 14 = nI 14 ∧ Int32.ofInt 16 = nI 16 ∧ Int32.ofInt 28 = nI 28 ∧ Int32.ofInt 29 = nI 29 ∧ Int32.ofInt 30 = nI 30 ∧ Int32.ofInt 32 = nI 32 ∧ Int32.ofInt 40 = nI 40 ∧ Int32.ofInt 41 = nI 41 ∧ Int32.ofInt 42 = nI 42 ∧ Int32.ofInt 43 = nI 43 ∧ Int32.ofInt 44 = nI 44 ∧ Int32.ofInt 46 = nI 46 ∧ Int32.ofInt 48 = nI 48 ∧ Int32.ofInt 49 = nI 49 ∧ Int32.ofInt 50 = nI 50 ∧ Int32.ofInt 57 = nI 57 ∧ Int32.ofInt 59 = nI 59 ∧ Int32.ofInt 60 = nI 60 ∧ Int32.ofInt 61 = nI 61 ∧ Int32.ofInt 62 = nI 62 ∧ Int32.ofInt 63 = nI 63 ∧ Int32.ofInt 80 = nI 80 ∧ Int32.ofInt 91 = nI 91 ∧ Int32.ofInt 97 = nI 97 ∧ Int32.ofInt 98 = nI 98 ∧ Int32.ofInt 99 = nI 99 ∧ Int32.ofInt 100 = nI 100 ∧ Int32.ofInt 101 = nI 101 ∧ Int32.ofInt 102 = nI 102 ∧ Int32.ofInt 103 = nI 103 ∧ Int32.ofInt 104 = nI 104 ∧ Int32.ofInt 105 = nI 105 ∧ Int32.ofInt 106 = nI 106 ∧ Int32.ofInt 107 = nI 107 ∧ Int32.ofInt 108 = nI 108 ∧ Int32.ofInt 109 = nI 109 ∧ Int32.ofInt 110 = nI 110 ∧ Int32.ofInt 111 = nI 111 ∧ Int32.ofInt 112 = nI 112 ∧ Int32.ofInt 113 = nI 113 ∧ Int32.ofInt 114 = nI 114 ∧ Int32.ofInt 115 = nI 115 ∧ Int32.ofInt 116 = nI 116 ∧ Int32.ofInt 117 = nI 117 ∧ Int32.ofInt 118 = nI 118 ∧ Int32.ofInt 119 = nI 119 ∧ Int32.ofInt 120 = nI 120 ∧ Int32.ofInt 124 = nI 124 ∧ Int32.ofInt 126 = nI 126 ∧ Int32.ofInt 127 = nI 127 ∧ Int32.ofInt 128 = nI 128 ∧ Int32.ofInt 129 = nI 129 ∧ Int32.ofInt 130 = nI 130 ∧ Int32.ofInt 176 = nI 176 ∧ Int32.ofInt 248 = nI 248 ∧ Int32.ofInt 255 = nI 255 ∧ Int32.ofInt 258 = nI 258 ∧ Int32.ofInt 387 = nI 387 ∧ Int32.ofInt 645 = nI 645 ∧ Int32.ofInt 774 = nI 774 ∧ Int32.ofInt 999 = nI 999 ∧ Int32.ofInt 1984 = nI 1984 ∧ Int32.ofInt 16641 = nI 16641 ∧ Int32.ofInt 2147483639 = nI 2147483639 ∧ Int32.ofInt 2147483647 = nI 2147483647 := ⟨rfl, rfl, rfl, rfl, rfl, rfl, rfl, rfl, rfl, rfl, rfl, rfl, rfl, rfl, rfl, rfl, rfl, rfl, rfl, rfl, rfl, rfl, rfl, rfl, rfl, rfl, rfl, rfl, rfl, rfl, rfl, rfl, rfl, rfl, rfl, rfl, rfl, rfl, rfl, rfl, rfl, rfl, rfl, rfl, rfl, rfl, rfl, rfl, rfl, rfl, rfl, rfl, rfl, rfl, rfl, rfl, rfl, rfl, rfl, rfl, rfl, rfl, rfl, rfl, rfl, rfl, rfl, rfl, rfl, rfl, rfl, rfl, rfl, rfl, rfl, rfl, rfl⟩
theorem n_lt {a b : Nat} (ha : a < 2147483648) (hb : b < 2147483648) : (nI a < nI b) = (a < b) := propext (nI_ltI ha hb)
theorem n_le {a b : Nat} (ha : a < 2147483648) (hb : b < 2147483648) : (nI a ≤ nI b) = (a ≤ b) := propext (nI_leI ha hb)
theorem n_eq {a b : Nat} (ha : a < 2147483648) (hb : b < 2147483648) : (nI a = nI b) = (a = b) := propext (nI_eq ha hb)
theorem n_cl {a : Nat} (ha : a < 2147483648) : (nI a).toNatClampNeg = a := nI_clamp ha
theorem n_neg {a : Nat} (ha : a < 2147483648) : (nI a < nI 0) = False := by rw [n_lt ha (by decide)]; exact eq_false (Nat.not_lt_zero a)
theorem n_inb {a n : Nat} (ha : a < 2147483648) : inb (nI a) n = (a < n) := by
  unfold inb
  rw [z0, n_neg ha, n_cl ha]
  simp
theorem n_cnt {a n : Nat} (ha : a < 2147483648) : cnt (nI a) n = (a ≤ n) := by
  unfold cnt
  rw [z0, n_neg ha, n_cl ha]
  simp
theorem n_add (a b : Nat) : nI a + nI b = nI (a + b) := nI_add a b
theorem n_mul (a b : Nat) : nI a * nI b = nI (a * b) := (Int32.ofNat_mul a b).symm
theorem n_sub {a b : Nat} (h : b ≤ a) : nI a - nI b = nI (a - b) := by
  have h1 : nI a = nI (a - b) + nI b := by rw [n_add]; congr 1; omega
  rw [h1]
  exact Int32.add_sub_cancel _ _
theorem n_div {a d : Nat} (ha : a < 2147483648) (h0 : 0 < d) (hd : d < 2147483648) : nI a / nI d = nI (a / d) := pk_div ha h0 hd
theorem n_rem {a d : Nat} (ha : a < 2147483648) (h0 : 0 < d) (hd : d < 2147483648) : nI a - nI a / nI d * nI d = nI (a % d) := pk_rem ha h0 hd
theorem n_and (a b : Nat) : nI a &&& nI b = nI (a &&& b) := by
  apply Int32.toBitVec_inj.1
  show BitVec.ofNat 32 a &&& BitVec.ofNat 32 b = BitVec.ofNat 32 (a &&& b)
  apply BitVec.eq_of_getLsbD_eq
  intro i hi
  simp [hi]
theorem n_or (a b : Nat) : nI a ||| nI b = nI (a ||| b) := by
  apply Int32.toBitVec_inj.1
  show BitVec.ofNat 32 a ||| BitVec.ofNat 32 b = BitVec.ofNat 32 (a ||| b)
  apply BitVec.eq_of_getLsbD_eq
  intro i hi
  simp [hi]
theorem n_shl1 : ∀ k, k < 31 → nI 1 <<< (nI k &&& 31) = nI (2 ^ k) := by decide +kernel
theorem n_m1 {a : Nat} (ha : a < 2147483648) : ¬ nI a = Int32.ofInt (-1) := fun e => by
  have := congrArg Int32.toInt e
  rw [nI_toInt ha] at this
  have h2 : (Int32.ofInt (-1)).toInt = -1 := by decide +kernel
  rw [h2] at this
  omega
theorem n_nar01 {a : Nat} (h : a ≤ 1) : vp_nar .boolean (nI a) = nI a := by
  rcases Nat.le_one_iff_eq_zero_or_eq_one.mp h with rfl | rfl <;> decide +kernel
/-! loops -/
theorem lp_for {σ ρ : Type} {f : σ → Option (σ ⊕ ρ)} (S : Nat → σ) (N : Nat) (r : ρ) (hs : ∀ k, k < N → f (S k) = some (.inl (S (k + 1)))) (he : f (S N) = some (.inr r)) : ∀ (d k L : Nat), k + d = N → d < L → lp f L (S k) = some r
  | 0, k, L + 1, h, _ => by
    have hk : k = N := by omega
    subst hk
    unfold lp
    rw [he]
  | d + 1, k, L + 1, h, hl => by
    unfold lp
    rw [hs k (by omega)]
    exact lp_for S N r hs he d (k + 1) L (by omega) (by omega)
theorem lp_for0 {σ ρ : Type} {f : σ → Option (σ ⊕ ρ)} (S : Nat → σ) (N : Nat) (r : ρ) (hs : ∀ k, k < N → f (S k) = some (.inl (S (k + 1)))) (he : f (S N) = some (.inr r)) {L : Nat} (hl : N < L) : lp f L (S 0) = some r := lp_for S N r hs he N 0 L (by omega) hl
/-- a loop by an invariant and a measure; it may be left early -/
theorem lp_inv {σ ρ : Type} {f : σ → Option (σ ⊕ ρ)} (I : Nat → σ → Prop) (Q : ρ → Prop) (N : Nat) (hs : ∀ k s, k ≤ N → I k s → (∃ s', f s = some (.inl s') ∧ k < N ∧ I (k + 1) s') ∨ (∃ r, f s = some (.inr r) ∧ Q r)) : ∀ (d k L : Nat) (s : σ), k + d = N → d < L → I k s → ∃ r, lp f L s = some r ∧ Q r
  | d, k, L + 1, s, h, hl, hi => by
    unfold lp
    rcases hs k s (by omega) hi with ⟨s', e, hk, hi'⟩ | ⟨r, e, hq⟩
    · rw [e]
      match d, h, hl with
      | 0, h, _ => omega
      | d + 1, h, hl => exact lp_inv I Q N hs d (k + 1) L s' (by omega) (by omega) hi'
    · rw [e]
      exact ⟨r, rfl, hq⟩
theorem lp_inv0 {σ ρ : Type} {f : σ → Option (σ ⊕ ρ)} (I : Nat → σ → Prop) (Q : ρ → Prop) (N : Nat) (hs : ∀ k s, k ≤ N → I k s → (∃ s', f s = some (.inl s') ∧ k < N ∧ I (k + 1) s') ∨ (∃ r, f s = some (.inr r) ∧ Q r)) {L : Nat} {s : σ} (hl : N < L) (hi : I 0 s) : ∃ r, lp f L s = some r ∧ Q r := lp_inv I Q N hs N 0 L s (by omega) hl hi
/-! rows of numbers: one row replaced, the first places replaced -/
def ro {β : Type} (M : Nat → β) (r : Nat) (F : β) : Nat → β := fun q => if q = r then F else M q
def up {β : Type} (F : Nat → β) (k : Nat) (v : β) : Nat → β := fun j => if j = k then v else F j
def pre {β : Type} (k : Nat) (f g : Nat → β) : Nat → β := fun j => if j < k then f j else g j
theorem ro_self {β : Type} (M : Nat → β) (r : Nat) : ro M r (M r) = M := by funext q; unfold ro; split <;> simp_all
theorem ro_ro {β : Type} (M : Nat → β) (r : Nat) (F G : β) : ro (ro M r F) r G = ro M r G := by funext q; unfold ro; split <;> simp_all
theorem ro_at {β : Type} (M : Nat → β) (r : Nat) (F : β) : ro M r F r = F := by simp [ro]
theorem ro_ne {β : Type} (M : Nat → β) {r q : Nat} (F : β) (h : q ≠ r) : ro M r F q = M q := by simp [ro, h]
theorem ro_comm {β : Type} (M : Nat → β) {r q : Nat} (F G : β) (h : q ≠ r) : ro (ro M r F) q G = ro (ro M q G) r F := by funext x; unfold ro; split <;> split <;> simp_all
theorem u2_ro {β : Type} (M : Nat → Nat → β) (r k : Nat) (v : β) : u2 M r k v = ro M r (up (M r) k v) := by
  funext q j
  unfold u2 ro up
  by_cases h : q = r
  · subst h; by_cases h2 : j = k <;> simp [h2]
  · simp [h]
theorem up_pre {β : Type} (k : Nat) (f g : Nat → β) : up (pre k f g) k (f k) = pre (k + 1) f g := by
  funext j
  unfold up pre
  by_cases h : j = k
  · subst h; simp
  · by_cases h2 : j < k
    · simp [h, h2, Nat.lt_succ_of_lt h2]
    · simp [h, h2, show ¬ j < k + 1 by omega]
theorem pre_0 {β : Type} (f g : Nat → β) : pre 0 f g = g := by funext j; simp [pre]
theorem up_at {β : Type} (F : Nat → β) (k : Nat) (v : β) : up F k v k = v := by simp [up]
theorem up_ne {β : Type} (F : Nat → β) {k j : Nat} (v : β) (h : j ≠ k) : up F k v j = F j := by simp [up, h]
theorem pre_lt {β : Type} {k j : Nat} (f g : Nat → β) (h : j < k) : pre k f g j = f j := by simp [pre, h]
theorem pre_ge {β : Type} {k j : Nat} (f g : Nat → β) (h : k ≤ j) : pre k f g j = g j := by simp [pre, Nat.not_lt.mpr h]
/-! partial functions, read forwards -/
theorem grd_t {α : Type} {p : Prop} [Decidable p] (x : Option α) (h : p) : grd p x = x := by unfold grd; rw [if_pos h]
theorem bnd_e {α β : Type} (a : α) (f : α → Option β) : bnd a f = f a := rfl
theorem orf_e {α β : Type} (a : α) (f : α → Option β) : orf (some a) f = f a := rfl
theorem oif_n {α β : Type} (x : Option β) (f : α → Option β) : oif none x f = x := rfl
theorem oif_s {α β : Type} (a : α) (x : Option β) (f : α → Option β) : oif (some a) x f = f a := rfl
theorem cal_e {ρ β : Type} (r : ρ) (h : mH) (f : ρ → mH → Option β) : cal (some (r, h)) f = f r h := rfl
theorem calX_l {ρ β : Type} (r : ρ) (h : mH) (f : ρ → mH → Option β) (g : String → mH → Option β) : calX (some (.inl r, h)) f g = f r h := rfl
theorem calX_r {ρ β : Type} (e : String) (h : mH) (f : ρ → mH → Option β) (g : String → mH → Option β) : calX (some (.inr e, h)) f g = g e h := rfl
theorem inrO_e {σ ρ : Type} (r : ρ) : (inrO (some r) : Option (σ ⊕ ρ)) = some (.inr r) := rfl

/-! the cells that both constructors make, in the order of their making: kinds, sizes, which holds which -/
def KCl : List Nat := [16, 11, 111, 113, 11, 111, 113, 6, 112, 11, 111, 113, 11, 111, 113, 11, 111, 113, 11, 111, 113, 11, 111, 113, 11, 111, 113, 11, 111, 113, 11, 111, 113, 11, 111, 113, 14, 103, 104, 7, 103, 103, 2, 102, 10, 104, 104, 104, 104, 101, 5, 10, 104, 104, 104, 104, 101, 104, 104, 104, 101, 104, 104, 104, 5, 10, 104, 104, 104, 104, 101, 104, 104, 104, 101, 104, 104, 104, 12, 104, 104, 104, 104, 101, 12, 104, 104, 104, 104, 101, 8, 101, 104, 104, 13, 104, 104]
def SCl : List Nat := [17, 4, 6, 8, 4, 6, 8, 3, 9, 4, 6, 8, 4, 6, 8, 4, 6, 8, 4, 6, 8, 4, 6, 8, 4, 6, 8, 4, 6, 8, 4, 6, 8, 4, 6, 8, 7, 60, 3, 4, 120, 120, 4, 16, 7, 3, 7, 7, 7, 7, 9, 7, 3, 7, 7, 7, 7, 129, 128, 387, 129, 129, 129, 129, 9, 7, 3, 7, 7, 7, 7, 129, 128, 387, 129, 129, 129, 129, 6, 129, 129, 129, 387, 129, 6, 129, 129, 129, 387, 129, 5, 16641, 16641, 16641, 3, 91, 6]
def KMl : List Nat := [17, 104, 104, 104, 104, 104, 103, 104, 104, 104, 104, 104, 104, 104, 104, 104, 104, 104, 104, 104, 104, 104, 104, 104, 104, 104, 104, 104, 104, 104, 103, 104, 104, 104]
def SMl : List Nat := [50, 248, 1984, 248, 248, 130, 60, 80, 60, 774, 14, 6, 2, 2, 2, 8, 8, 8, 258, 258, 2, 129, 129, 129, 645, 645, 645, 129, 129, 6, 120, 8, 8, 3]
def RC : Nat → Nat → Option Nat
  | 0, 0 => some 1
  | 0, 1 => some 4
  | 0, 2 => some 7
  | 0, 3 => some 36
  | 0, 4 => some 39
  | 0, 5 => some 42
  | 0, 6 => some 44
  | 0, 7 => some 50
  | 0, 8 => some 64
  | 0, 9 => some 78
  | 0, 10 => some 84
  | 0, 11 => some 90
  | 0, 12 => some 94
  | 0, 13 => some 96
  | 1, 0 => some 2
  | 1, 1 => some 3
  | 4, 0 => some 5
  | 4, 1 => some 6
  | 7, 0 => some 8
  | 8, 0 => some 9
  | 8, 1 => some 12
  | 8, 2 => some 15
  | 8, 3 => some 18
  | 8, 4 => some 21
  | 8, 5 => some 24
  | 8, 6 => some 27
  | 8, 7 => some 30
  | 8, 8 => some 33
  | 9, 0 => some 10
  | 9, 1 => some 11
  | 12, 0 => some 13
  | 12, 1 => some 14
  | 15, 0 => some 16
  | 15, 1 => some 17
  | 18, 0 => some 19
  | 18, 1 => some 20
  | 21, 0 => some 22
  | 21, 1 => some 23
  | 24, 0 => some 25
  | 24, 1 => some 26
  | 27, 0 => some 28
  | 27, 1 => some 29
  | 30, 0 => some 31
  | 30, 1 => some 32
  | 33, 0 => some 34
  | 33, 1 => some 35
  | 36, 0 => some 37
  | 36, 1 => some 38
  | 39, 0 => some 40
  | 39, 1 => some 41
  | 44, 0 => some 45
  | 44, 1 => some 46
  | 44, 2 => some 47
  | 44, 3 => some 48
  | 44, 4 => some 49
  | 50, 0 => some 51
  | 50, 1 => some 57
  | 50, 2 => some 58
  | 50, 3 => some 59
  | 50, 4 => some 60
  | 50, 5 => some 61
  | 50, 6 => some 62
  | 50, 7 => some 63
  | 51, 0 => some 52
  | 51, 1 => some 53
  | 51, 2 => some 54
  | 51, 3 => some 55
  | 51, 4 => some 56
  | 64, 0 => some 65
  | 64, 1 => some 71
  | 64, 2 => some 72
  | 64, 3 => some 73
  | 64, 4 => some 74
  | 64, 5 => some 75
  | 64, 6 => some 76
  | 64, 7 => some 77
  | 65, 0 => some 66
  | 65, 1 => some 67
  | 65, 2 => some 68
  | 65, 3 => some 69
  | 65, 4 => some 70
  | 78, 0 => some 79
  | 78, 1 => some 80
  | 78, 2 => some 81
  | 78, 3 => some 82
  | 78, 4 => some 83
  | 84, 0 => some 85
  | 84, 1 => some 86
  | 84, 2 => some 87
  | 84, 3 => some 88
  | 84, 4 => some 89
  | 90, 0 => some 91
  | 90, 1 => some 92
  | 90, 2 => some 93
  | 94, 0 => some 95
  | _, _ => none
def RMr : Nat → Nat → Option Nat
  | 0, 1 => some 1
  | 0, 2 => some 2
  | 0, 3 => some 3
  | 0, 4 => some 4
  | 0, 8 => some 5
  | 0, 10 => some 6
  | 0, 15 => some 7
  | 0, 18 => some 8
  | 0, 20 => some 9
  | 0, 21 => some 10
  | 0, 22 => some 11
  | 0, 23 => some 12
  | 0, 24 => some 13
  | 0, 25 => some 14
  | 0, 26 => some 15
  | 0, 27 => some 16
  | 0, 28 => some 17
  | 0, 30 => some 18
  | 0, 31 => some 19
  | 0, 32 => some 20
  | 0, 33 => some 21
  | 0, 34 => some 22
  | 0, 35 => some 23
  | 0, 37 => some 24
  | 0, 38 => some 25
  | 0, 39 => some 26
  | 0, 40 => some 27
  | 0, 41 => some 28
  | 0, 42 => some 29
  | 0, 43 => some 30
  | 0, 45 => some 31
  | 0, 46 => some 32
  | 0, 47 => some 33
  | _, _ => none
def KC (r : Nat) : Nat := KCl.getD r 0
def SC (r : Nat) : Nat := SCl.getD r 0
def KM (r : Nat) : Nat := KMl.getD r 0
def SM (r : Nat) : Nat := SMl.getD r 0
/-- the heap whose first cells, from n on, hold A (the class's numbers), M (the reference's), R (references that change); all else as in h -/
def E (n : Nat) (h : mH) (A M : Nat → Nat → Int32) (R : Nat → Nat → Option Nat) : mH :=
  (nx h,
   fun b => if b < n then kd h b else if b < n + 97 then KC (b - n) else if b < n + 131 then KM (b - n - 97) else kd h b,
   fun b => if b < n then sz h b else if b < n + 97 then SC (b - n) else if b < n + 131 then SM (b - n - 97) else sz h b,
   fun b j => if b < n then gi h b j else if b < n + 97 then A (b - n) j else if b < n + 131 then M (b - n - 97) j else gi h b j,
   fun b j => if b < n then gr h b j else if b < n + 97 then (match RC (b - n) j with | some q => some (n + q) | none => R (b - n) j) else if b < n + 131 then (match RMr (b - n - 97) j with | some q => some (n + 97 + q) | none => none) else gr h b j,
   gl h, gd h)
def ca (n r : Nat) : Nat := n + r
def ma (n r : Nat) : Nat := n + 97 + r
theorem ca_sub (n r : Nat) : ca n r - n = r := Nat.add_sub_cancel_left n r
theorem ma_sub (n r : Nat) : ma n r - n - 97 = r := by unfold ma; omega
section EROWS
variable {n r k : Nat} {h : mH} {A M : Nat → Nat → Int32} {R : Nat → Nat → Option Nat} {v : Int32} {o : Option Nat}
theorem nx_E : nx (E n h A M R) = nx h := rfl
theorem gl_E : gl (E n h A M R) = gl h := rfl
theorem gd_E : gd (E n h A M R) = gd h := rfl
theorem kd_C (hr : r < 97) : kd (E n h A M R) (ca n r) = KC r := by
  show (if n + r < n then _ else if n + r < n + 97 then _ else _) = _
  rw [if_neg (by omega), if_pos (by omega), ca_sub]
theorem sz_C (hr : r < 97) : sz (E n h A M R) (ca n r) = SC r := by
  show (if n + r < n then _ else if n + r < n + 97 then _ else _) = _
  rw [if_neg (by omega), if_pos (by omega), ca_sub]
theorem gi_C (hr : r < 97) : gi (E n h A M R) (ca n r) k = A r k := by
  show (if n + r < n then _ else if n + r < n + 97 then _ else _) = _
  rw [if_neg (by omega), if_pos (by omega), ca_sub]
theorem gr_C {q : Nat} (hr : r < 97) (hq : RC r k = some q) : gr (E n h A M R) (ca n r) k = some (ca n q) := by
  show (if n + r < n then _ else if n + r < n + 97 then _ else _) = _
  rw [if_neg (by omega), if_pos (by omega), ca_sub, hq]
  rfl
theorem gr_D (hr : r < 97) (hq : RC r k = none) : gr (E n h A M R) (ca n r) k = R r k := by
  show (if n + r < n then _ else if n + r < n + 97 then _ else _) = _
  rw [if_neg (by omega), if_pos (by omega), ca_sub, hq]
theorem kd_M (hr : r < 34) : kd (E n h A M R) (ma n r) = KM r := by
  show (if n + 97 + r < n then _ else if n + 97 + r < n + 97 then _ else if n + 97 + r < n + 131 then _ else _) = _
  rw [if_neg (by omega), if_neg (by omega), if_pos (by omega), ma_sub]
theorem sz_M (hr : r < 34) : sz (E n h A M R) (ma n r) = SM r := by
  show (if n + 97 + r < n then _ else if n + 97 + r < n + 97 then _ else if n + 97 + r < n + 131 then _ else _) = _
  rw [if_neg (by omega), if_neg (by omega), if_pos (by omega), ma_sub]
theorem gi_M (hr : r < 34) : gi (E n h A M R) (ma n r) k = M r k := by
  show (if n + 97 + r < n then _ else if n + 97 + r < n + 97 then _ else if n + 97 + r < n + 131 then _ else _) = _
  rw [if_neg (by omega), if_neg (by omega), if_pos (by omega), ma_sub]
theorem gr_M {q : Nat} (hr : r < 34) (hq : RMr r k = some q) : gr (E n h A M R) (ma n r) k = some (ma n q) := by
  show (if n + 97 + r < n then _ else if n + 97 + r < n + 97 then _ else if n + 97 + r < n + 131 then _ else _) = _
  rw [if_neg (by omega), if_neg (by omega), if_pos (by omega), ma_sub, hq]
  rfl
theorem si_M (hr : r < 34) : si (E n h A M R) (ma n r) k v = E n h A (ro M r (up (M r) k v)) R := by
  rw [← u2_ro]
  have e : u2 (gi (E n h A M R)) (ma n r) k v = gi (E n h A (u2 M r k v) R) := by
    funext b j
    show (if b = n + 97 + r ∧ j = k then v else (if b < n then gi h b j else if b < n + 97 then A (b - n) j else if b < n + 131 then M (b - n - 97) j else gi h b j)) = (if b < n then gi h b j else if b < n + 97 then A (b - n) j else if b < n + 131 then (if b - n - 97 = r ∧ j = k then v else M (b - n - 97) j) else gi h b j)
    by_cases h1 : b < n
    · rw [if_pos h1, if_pos h1, if_neg (by omega)]
    · rw [if_neg h1, if_neg h1]
      by_cases h2 : b < n + 97
      · rw [if_pos h2, if_pos h2, if_neg (by omega)]
      · rw [if_neg h2, if_neg h2]
        by_cases h3 : b < n + 131
        · rw [if_pos h3, if_pos h3]
          by_cases h4 : b = n + 97 + r ∧ j = k
          · rw [if_pos h4, if_pos (by omega)]
          · rw [if_neg h4, if_neg (by omega)]
        · rw [if_neg h3, if_neg h3, if_neg (by omega)]
  show (nx h, kd (E n h A M R), sz (E n h A M R), u2 (gi (E n h A M R)) (ma n r) k v, gr (E n h A M R), gl h, gd h) = _
  rw [e]
  rfl
theorem si_C (hr : r < 97) : si (E n h A M R) (ca n r) k v = E n h (ro A r (up (A r) k v)) M R := by
  rw [← u2_ro]
  have e : u2 (gi (E n h A M R)) (ca n r) k v = gi (E n h (u2 A r k v) M R) := by
    funext b j
    show (if b = n + r ∧ j = k then v else (if b < n then gi h b j else if b < n + 97 then A (b - n) j else if b < n + 131 then M (b - n - 97) j else gi h b j)) = (if b < n then gi h b j else if b < n + 97 then (if b - n = r ∧ j = k then v else A (b - n) j) else if b < n + 131 then M (b - n - 97) j else gi h b j)
    by_cases h1 : b < n
    · rw [if_pos h1, if_pos h1, if_neg (by omega)]
    · rw [if_neg h1, if_neg h1]
      by_cases h2 : b < n + 97
      · rw [if_pos h2, if_pos h2]
        by_cases h4 : b = n + r ∧ j = k
        · rw [if_pos h4, if_pos (by omega)]
        · rw [if_neg h4, if_neg (by omega)]
      · rw [if_neg h2, if_neg h2, if_neg (by omega)]
  show (nx h, kd (E n h A M R), sz (E n h A M R), u2 (gi (E n h A M R)) (ca n r) k v, gr (E n h A M R), gl h, gd h) = _
  rw [e]
  rfl
/-- a reference of the first cells that changes -/
theorem sr_C (hr : r < 97) (hq : RC r k = none) : sr (E n h A M R) (ca n r) k o = E n h A M (ro R r (up (R r) k o)) := by
  rw [← u2_ro]
  have e : u2 (gr (E n h A M R)) (ca n r) k o = gr (E n h A M (u2 R r k o)) := by
    funext b j
    show (if b = n + r ∧ j = k then o else (if b < n then gr h b j else if b < n + 97 then (match RC (b - n) j with | some q => some (n + q) | none => R (b - n) j) else if b < n + 131 then (match RMr (b - n - 97) j with | some q => some (n + 97 + q) | none => none) else gr h b j)) = (if b < n then gr h b j else if b < n + 97 then (match RC (b - n) j with | some q => some (n + q) | none => u2 R r k o (b - n) j) else if b < n + 131 then (match RMr (b - n - 97) j with | some q => some (n + 97 + q) | none => none) else gr h b j)
    by_cases h1 : b < n
    · rw [if_pos h1, if_pos h1, if_neg (by omega)]
    · rw [if_neg h1, if_neg h1]
      by_cases h2 : b < n + 97
      · rw [if_pos h2, if_pos h2]
        by_cases h4 : b = n + r ∧ j = k
        · obtain ⟨rfl, rfl⟩ := h4
          rw [if_pos ⟨rfl, rfl⟩, Nat.add_sub_cancel_left, hq]
          simp [u2]
        · rw [if_neg h4]
          cases RC (b - n) j with
          | some q => rfl
          | none =>
            show _ = if b - n = r ∧ j = k then o else R (b - n) j
            rw [if_neg (by omega)]
      · rw [if_neg h2, if_neg h2, if_neg (by omega)]
  show (nx h, kd (E n h A M R), sz (E n h A M R), gi (E n h A M R), u2 (gr (E n h A M R)) (ca n r) k o, gl h, gd h) = _
  rw [e]
  rfl
end EROWS
theorem EM (n : Nat) (h : mH) (A M : Nat → Nat → Int32) (R : Nat → Nat → Option Nat) : kd (E n h A M R) (ma n 0) = 17 ∧ sz (E n h A M R) (ma n 0) = 50 ∧ kd (E n h A M R) (ma n 1) = 104 ∧ sz (E n h A M R) (ma n 1) = 248 ∧ kd (E n h A M R) (ma n 2) = 104 ∧ sz (E n h A M R) (ma n 2) = 1984 ∧ kd (E n h A M R) (ma n 3) = 104 ∧ sz (E n h A M R) (ma n 3) = 248 ∧ kd (E n h A M R) (ma n 4) = 104 ∧ sz (E n h A M R) (ma n 4) = 248 ∧ kd (E n h A M R) (ma n 5) = 104 ∧ sz (E n h A M R) (ma n 5) = 130 ∧ kd (E n h A M R) (ma n 6) = 103 ∧ sz (E n h A M R) (ma n 6) = 60 ∧ kd (E n h A M R) (ma n 7) = 104 ∧ sz (E n h A M R) (ma n 7) = 80 ∧ kd (E n h A M R) (ma n 8) = 104 ∧ sz (E n h A M R) (ma n 8) = 60 ∧ kd (E n h A M R) (ma n 9) = 104 ∧ sz (E n h A M R) (ma n 9) = 774 ∧ kd (E n h A M R) (ma n 10) = 104 ∧ sz (E n h A M R) (ma n 10) = 14 ∧ kd (E n h A M R) (ma n 11) = 104 ∧ sz (E n h A M R) (ma n 11) = 6 ∧ kd (E n h A M R) (ma n 12) = 104 ∧ sz (E n h A M R) (ma n 12) = 2 ∧ kd (E n h A M R) (ma n 13) = 104 ∧ sz (E n h A M R) (ma n 13) = 2 ∧ kd (E n h A M R) (ma n 14) = 104 ∧ sz (E n h A M R) (ma n 14) = 2 ∧ kd (E n h A M R) (ma n 15) = 104 ∧ sz (E n h A M R) (ma n 15) = 8 ∧ kd (E n h A M R) (ma n 16) = 104 ∧ sz (E n h A M R) (ma n 16) = 8 ∧ kd (E n h A M R) (ma n 17) = 104 ∧ sz (E n h A M R) (ma n 17) = 8 ∧ kd (E n h A M R) (ma n 18) = 104 ∧ sz (E n h A M R) (ma n 18) = 258 ∧ kd (E n h A M R) (ma n 19) = 104 ∧ sz (E n h A M R) (ma n 19) = 258 ∧ kd (E n h A M R) (ma n 20) = 104 ∧ sz (E n h A M R) (ma n 20) = 2 ∧ kd (E n h A M R) (ma n 21) = 104 ∧ sz (E n h A M R) (ma n 21) = 129 ∧ kd (E n h A M R) (ma n 22) = 104 ∧ sz (E n h A M R) (ma n 22) = 129 ∧ kd (E n h A M R) (ma n 23) = 104 ∧ sz (E n h A M R) (ma n 23) = 129 ∧ kd (E n h A M R) (ma n 24) = 104 ∧ sz (E n h A M R) (ma n 24) = 645 ∧ kd (E n h A M R) (ma n 25) = 104 ∧ sz (E n h A M R) (ma n 25) = 645 ∧ kd (E n h A M R) (ma n 26) = 104 ∧ sz (E n h A M R) (ma n 26) = 645 ∧ kd (E n h A M R) (ma n 27) = 104 ∧ sz (E n h A M R) (ma n 27) = 129 ∧ kd (E n h A M R) (ma n 28) = 104 ∧ sz (E n h A M R) (ma n 28) = 129 ∧ kd (E n h A M R) (ma n 29) = 104 ∧ sz (E n h A M R) (ma n 29) = 6 ∧ kd (E n h A M R) (ma n 30) = 103 ∧ sz (E n h A M R) (ma n 30) = 120 ∧ kd (E n h A M R) (ma n 31) = 104 ∧ sz (E n h A M R) (ma n 31) = 8 ∧ kd (E n h A M R) (ma n 32) = 104 ∧ sz (E n h A M R) (ma n 32) = 8 ∧ kd (E n h A M R) (ma n 33) = 104 ∧ sz (E n h A M R) (ma n 33) = 3 ∧ gr (E n h A M R) (ma n 0) 1 = some (ma n 1) ∧ gr (E n h A M R) (ma n 0) 2 = some (ma n 2) ∧ gr (E n h A M R) (ma n 0) 3 = some (ma n 3) ∧ gr (E n h A M R) (ma n 0) 4 = some (ma n 4) ∧ gr (E n h A M R) (ma n 0) 8 = some (ma n 5) ∧ gr (E n h A M R) (ma n 0) 10 = some (ma n 6) ∧ gr (E n h A M R) (ma n 0) 15 = some (ma n 7) ∧ gr (E n h A M R) (ma n 0) 18 = some (ma n 8) ∧ gr (E n h A M R) (ma n 0) 20 = some (ma n 9) ∧ gr (E n h A M R) (ma n 0) 21 = some (ma n 10) ∧ gr (E n h A M R) (ma n 0) 22 = some (ma n 11) ∧ gr (E n h A M R) (ma n 0) 23 = some (ma n 12) ∧ gr (E n h A M R) (ma n 0) 24 = some (ma n 13) ∧ gr (E n h A M R) (ma n 0) 25 = some (ma n 14) ∧ gr (E n h A M R) (ma n 0) 26 = some (ma n 15) ∧ gr (E n h A M R) (ma n 0) 27 = some (ma n 16) ∧ gr (E n h A M R) (ma n 0) 28 = some (ma n 17) ∧ gr (E n h A M R) (ma n 0) 30 = some (ma n 18) ∧ gr (E n h A M R) (ma n 0) 31 = some (ma n 19) ∧ gr (E n h A M R) (ma n 0) 32 = some (ma n 20) ∧ gr (E n h A M R) (ma n 0) 33 = some (ma n 21) ∧ gr (E n h A M R) (ma n 0) 34 = some (ma n 22) ∧ gr (E n h A M R) (ma n 0) 35 = some (ma n 23) ∧ gr (E n h A M R) (ma n 0) 37 = some (ma n 24) ∧ gr (E n h A M R) (ma n 0) 38 = some (ma n 25) ∧ gr (E n h A M R) (ma n 0) 39 = some (ma n 26) ∧ gr (E n h A M R) (ma n 0) 40 = some (ma n 27) ∧ gr (E n h A M R) (ma n 0) 41 = some (ma n 28) ∧ gr (E n h A M R) (ma n 0) 42 = some (ma n 29) ∧ gr (E n h A M R) (ma n 0) 43 = some (ma n 30) ∧ gr (E n h A M R) (ma n 0) 45 = some (ma n 31) ∧ gr (E n h A M R) (ma n 0) 46 = some (ma n 32) ∧ gr (E n h A M R) (ma n 0) 47 = some (ma n 33) := ⟨kd_M (r := 0) (by decide), sz_M (r := 0) (by decide), kd_M (r := 1) (by decide), sz_M (r := 1) (by decide), kd_M (r := 2) (by decide), sz_M (r := 2) (by decide), kd_M (r := 3) (by decide), sz_M (r := 3) (by decide), kd_M (r := 4) (by decide), sz_M (r := 4) (by decide), kd_M (r := 5) (by decide), sz_M (r := 5) (by decide), kd_M (r := 6) (by decide), sz_M (r := 6) (by decide), kd_M (r := 7) (by decide), sz_M (r := 7) (by decide), kd_M (r := 8) (by decide), sz_M (r := 8) (by decide), kd_M (r := 9) (by decide), sz_M (r := 9) (by decide), kd_M (r := 10) (by decide), sz_M (r := 10) (by decide), kd_M (r := 11) (by decide), sz_M (r := 11) (by decide), kd_M (r := 12) (by decide), sz_M (r := 12) (by decide), kd_M (r := 13) (by decide), sz_M (r := 13) (by decide), kd_M (r := 14) (by decide), sz_M (r := 14) (by decide), kd_M (r := 15) (by decide), sz_M (r := 15) (by decide), kd_M (r := 16) (by decide), sz_M (r := 16) (by decide), kd_M (r := 17) (by decide), sz_M (r := 17) (by decide), kd_M (r := 18) (by decide), sz_M (r := 18) (by decide), kd_M (r := 19) (by decide), sz_M (r := 19) (by decide), kd_M (r := 20) (by decide), sz_M (r := 20) (by decide), kd_M (r := 21) (by decide), sz_M (r := 21) (by decide), kd_M (r := 22) (by decide), sz_M (r := 22) (by decide), kd_M (r := 23) (by decide), sz_M (r := 23) (by decide), kd_M (r := 24) (by decide), sz_M (r := 24) (by decide), kd_M (r := 25) (by decide), sz_M (r := 25) (by decide), kd_M (r := 26) (by decide), sz_M (r := 26) (by decide), kd_M (r := 27) (by decide), sz_M (r := 27) (by decide), kd_M (r := 28) (by decide), sz_M (r := 28) (by decide), kd_M (r := 29) (by decide), sz_M (r := 29) (by decide), kd_M (r := 30) (by decide), sz_M (r := 30) (by decide), kd_M (r := 31) (by decide), sz_M (r := 31) (by decide), kd_M (r := 32) (by decide), sz_M (r := 32) (by decide), kd_M (r := 33) (by decide), sz_M (r := 33) (by decide), gr_M (r := 0) (k := 1) (q := 1) (by decide) rfl, gr_M (r := 0) (k := 2) (q := 2) (by decide) rfl, gr_M (r := 0) (k := 3) (q := 3) (by decide) rfl, gr_M (r := 0) (k := 4) (q := 4) (by decide) rfl, gr_M (r := 0) (k := 8) (q := 5) (by decide) rfl, gr_M (r := 0) (k := 10) (q := 6) (by decide) rfl, gr_M (r := 0) (k := 15) (q := 7) (by decide) rfl, gr_M (r := 0) (k := 18) (q := 8) (by decide) rfl, gr_M (r := 0) (k := 20) (q := 9) (by decide) rfl, gr_M (r := 0) (k := 21) (q := 10) (by decide) rfl, gr_M (r := 0) (k := 22) (q := 11) (by decide) rfl, gr_M (r := 0) (k := 23) (q := 12) (by decide) rfl, gr_M (r := 0) (k := 24) (q := 13) (by decide) rfl, gr_M (r := 0) (k := 25) (q := 14) (by decide) rfl, gr_M (r := 0) (k := 26) (q := 15) (by decide) rfl, gr_M (r := 0) (k := 27) (q := 16) (by decide) rfl, gr_M (r := 0) (k := 28) (q := 17) (by decide) rfl, gr_M (r := 0) (k := 30) (q := 18) (by decide) rfl, gr_M (r := 0) (k := 31) (q := 19) (by decide) rfl, gr_M (r := 0) (k := 32) (q := 20) (by decide) rfl, gr_M (r := 0) (k := 33) (q := 21) (by decide) rfl, gr_M (r := 0) (k := 34) (q := 22) (by decide) rfl, gr_M (r := 0) (k := 35) (q := 23) (by decide) rfl, gr_M (r := 0) (k := 37) (q := 24) (by decide) rfl, gr_M (r := 0) (k := 38) (q := 25) (by decide) rfl, gr_M (r := 0) (k := 39) (q := 26) (by decide) rfl, gr_M (r := 0) (k := 40) (q := 27) (by decide) rfl, gr_M (r := 0) (k := 41) (q := 28) (by decide) rfl, gr_M (r := 0) (k := 42) (q := 29) (by decide) rfl, gr_M (r := 0) (k := 43) (q := 30) (by decide) rfl, gr_M (r := 0) (k := 45) (q := 31) (by decide) rfl, gr_M (r := 0) (k := 46) (q := 32) (by decide) rfl, gr_M (r := 0) (k := 47) (q := 33) (by decide) rfl⟩
theorem EMg (n : Nat) (h : mH) (A M : Nat → Nat → Int32) (R : Nat → Nat → Option Nat) (k : Nat) : gi (E n h A M R) (ma n 0) k = M 0 k ∧ gi (E n h A M R) (ma n 1) k = M 1 k ∧ gi (E n h A M R) (ma n 2) k = M 2 k ∧ gi (E n h A M R) (ma n 3) k = M 3 k ∧ gi (E n h A M R) (ma n 4) k = M 4 k ∧ gi (E n h A M R) (ma n 5) k = M 5 k ∧ gi (E n h A M R) (ma n 6) k = M 6 k ∧ gi (E n h A M R) (ma n 7) k = M 7 k ∧ gi (E n h A M R) (ma n 8) k = M 8 k ∧ gi (E n h A M R) (ma n 9) k = M 9 k ∧ gi (E n h A M R) (ma n 10) k = M 10 k ∧ gi (E n h A M R) (ma n 11) k = M 11 k ∧ gi (E n h A M R) (ma n 12) k = M 12 k ∧ gi (E n h A M R) (ma n 13) k = M 13 k ∧ gi (E n h A M R) (ma n 14) k = M 14 k ∧ gi (E n h A M R) (ma n 15) k = M 15 k ∧ gi (E n h A M R) (ma n 16) k = M 16 k ∧ gi (E n h A M R) (ma n 17) k = M 17 k ∧ gi (E n h A M R) (ma n 18) k = M 18 k ∧ gi (E n h A M R) (ma n 19) k = M 19 k ∧ gi (E n h A M R) (ma n 20) k = M 20 k ∧ gi (E n h A M R) (ma n 21) k = M 21 k ∧ gi (E n h A M R) (ma n 22) k = M 22 k ∧ gi (E n h A M R) (ma n 23) k = M 23 k ∧ gi (E n h A M R) (ma n 24) k = M 24 k ∧ gi (E n h A M R) (ma n 25) k = M 25 k ∧ gi (E n h A M R) (ma n 26) k = M 26 k ∧ gi (E n h A M R) (ma n 27) k = M 27 k ∧ gi (E n h A M R) (ma n 28) k = M 28 k ∧ gi (E n h A M R) (ma n 29) k = M 29 k ∧ gi (E n h A M R) (ma n 30) k = M 30 k ∧ gi (E n h A M R) (ma n 31) k = M 31 k ∧ gi (E n h A M R) (ma n 32) k = M 32 k ∧ gi (E n h A M R) (ma n 33) k = M 33 k := ⟨gi_M (by decide), gi_M (by decide), gi_M (by decide), gi_M (by decide), gi_M (by decide), gi_M (by decide), gi_M (by decide), gi_M (by decide), gi_M (by decide), gi_M (by decide), gi_M (by decide), gi_M (by decide), gi_M (by decide), gi_M (by decide), gi_M (by decide), gi_M (by decide), gi_M (by decide), gi_M (by decide), gi_M (by decide), gi_M (by decide), gi_M (by decide), gi_M (by decide), gi_M (by decide), gi_M (by decide), gi_M (by decide), gi_M (by decide), gi_M (by decide), gi_M (by decide), gi_M (by decide), gi_M (by decide), gi_M (by decide), gi_M (by decide), gi_M (by decide), gi_M (by decide)⟩
theorem EMs (n : Nat) (h : mH) (A M : Nat → Nat → Int32) (R : Nat → Nat → Option Nat) (k : Nat) (v : Int32) : si (E n h A M R) (ma n 0) k v = E n h A (ro M 0 (up (M 0) k v)) R ∧ si (E n h A M R) (ma n 1) k v = E n h A (ro M 1 (up (M 1) k v)) R ∧ si (E n h A M R) (ma n 2) k v = E n h A (ro M 2 (up (M 2) k v)) R ∧ si (E n h A M R) (ma n 3) k v = E n h A (ro M 3 (up (M 3) k v)) R ∧ si (E n h A M R) (ma n 4) k v = E n h A (ro M 4 (up (M 4) k v)) R ∧ si (E n h A M R) (ma n 5) k v = E n h A (ro M 5 (up (M 5) k v)) R ∧ si (E n h A M R) (ma n 6) k v = E n h A (ro M 6 (up (M 6) k v)) R ∧ si (E n h A M R) (ma n 7) k v = E n h A (ro M 7 (up (M 7) k v)) R ∧ si (E n h A M R) (ma n 8) k v = E n h A (ro M 8 (up (M 8) k v)) R ∧ si (E n h A M R) (ma n 9) k v = E n h A (ro M 9 (up (M 9) k v)) R ∧ si (E n h A M R) (ma n 10) k v = E n h A (ro M 10 (up (M 10) k v)) R ∧ si (E n h A M R) (ma n 11) k v = E n h A (ro M 11 (up (M 11) k v)) R ∧ si (E n h A M R) (ma n 12) k v = E n h A (ro M 12 (up (M 12) k v)) R ∧ si (E n h A M R) (ma n 13) k v = E n h A (ro M 13 (up (M 13) k v)) R ∧ si (E n h A M R) (ma n 14) k v = E n h A (ro M 14 (up (M 14) k v)) R ∧ si (E n h A M R) (ma n 15) k v = E n h A (ro M 15 (up (M 15) k v)) R ∧ si (E n h A M R) (ma n 16) k v = E n h A (ro M 16 (up (M 16) k v)) R ∧ si (E n h A M R) (ma n 17) k v = E n h A (ro M 17 (up (M 17) k v)) R ∧ si (E n h A M R) (ma n 18) k v = E n h A (ro M 18 (up (M 18) k v)) R ∧ si (E n h A M R) (ma n 19) k v = E n h A (ro M 19 (up (M 19) k v)) R ∧ si (E n h A M R) (ma n 20) k v = E n h A (ro M 20 (up (M 20) k v)) R ∧ si (E n h A M R) (ma n 21) k v = E n h A (ro M 21 (up (M 21) k v)) R ∧ si (E n h A M R) (ma n 22) k v = E n h A (ro M 22 (up (M 22) k v)) R ∧ si (E n h A M R) (ma n 23) k v = E n h A (ro M 23 (up (M 23) k v)) R ∧ si (E n h A M R) (ma n 24) k v = E n h A (ro M 24 (up (M 24) k v)) R ∧ si (E n h A M R) (ma n 25) k v = E n h A (ro M 25 (up (M 25) k v)) R ∧ si (E n h A M R) (ma n 26) k v = E n h A (ro M 26 (up (M 26) k v)) R ∧ si (E n h A M R) (ma n 27) k v = E n h A (ro M 27 (up (M 27) k v)) R ∧ si (E n h A M R) (ma n 28) k v = E n h A (ro M 28 (up (M 28) k v)) R ∧ si (E n h A M R) (ma n 29) k v = E n h A (ro M 29 (up (M 29) k v)) R ∧ si (E n h A M R) (ma n 30) k v = E n h A (ro M 30 (up (M 30) k v)) R ∧ si (E n h A M R) (ma n 31) k v = E n h A (ro M 31 (up (M 31) k v)) R ∧ si (E n h A M R) (ma n 32) k v = E n h A (ro M 32 (up (M 32) k v)) R ∧ si (E n h A M R) (ma n 33) k v = E n h A (ro M 33 (up (M 33) k v)) R := ⟨si_M (by decide), si_M (by decide), si_M (by decide), si_M (by decide), si_M (by decide), si_M (by decide), si_M (by decide), si_M (by decide), si_M (by decide), si_M (by decide), si_M (by decide), si_M (by decide), si_M (by decide), si_M (by decide), si_M (by decide), si_M (by decide), si_M (by decide), si_M (by decide), si_M (by decide), si_M (by decide), si_M (by decide), si_M (by decide), si_M (by decide), si_M (by decide), si_M (by decide), si_M (by decide), si_M (by decide), si_M (by decide), si_M (by decide), si_M (by decide), si_M (by decide), si_M (by decide), si_M (by decide), si_M (by decide)⟩
/-! comparisons that the context decides -/
theorem n_inbT {a n : Nat} (h : a < n) (hn : n < 2147483648) : inb (nI a) n = True := by rw [n_inb (by omega)]; exact eq_true h
theorem n_cntT {a n : Nat} (h : a ≤ n) (hn : n < 2147483648) : cnt (nI a) n = True := by rw [n_cnt (by omega)]; exact eq_true h
theorem n_ltT {a b : Nat} (h : a < b) (hb : b < 2147483648) : (nI a < nI b) = True := by rw [n_lt (by omega) hb]; exact eq_true h
theorem n_ltF {a b : Nat} (h : b ≤ a) (hb : a < 2147483648) : (nI a < nI b) = False := by rw [n_lt hb (by omega)]; exact eq_false (Nat.not_lt.mpr h)
theorem n_leT {a b : Nat} (h : a ≤ b) (hb : b < 2147483648) : (nI a ≤ nI b) = True := by rw [n_le (by omega) hb]; exact eq_true h
theorem n_leF {a b : Nat} (h : b < a) (hb : a < 2147483648) : (nI a ≤ nI b) = False := by rw [n_le hb (by omega)]; exact eq_false (Nat.not_le.mpr h)
theorem n_eqT {a b : Nat} (h : a = b) : (nI a = nI b) = True := by subst h; exact eq_self _
theorem n_eqF {a b : Nat} (h : a ≠ b) (ha : a < 2147483648) (hb : b < 2147483648) : (nI a = nI b) = False := by rw [n_eq ha hb]; exact eq_false h
theorem n_m1T : (Int32.ofInt (-1) = Int32.ofInt (-1)) = True := eq_self _
theorem n_m1F {a : Nat} (ha : a < 2147483648) : (nI a = Int32.ofInt (-1)) = False := eq_false (n_m1 ha)
theorem n_m1F' {a : Nat} (ha : a < 2147483648) : (Int32.ofInt (-1) = nI a) = False := eq_false (fun e => n_m1 ha e.symm)
theorem up_up {β : Type} (F : Nat → β) (k : Nat) (v w : β) : up (up F k v) k w = up F k w := by funext j; unfold up; split <;> simp_all
theorem up_swap {β : Type} (F : Nat → β) {k j : Nat} (v w : β) (h : k < j) : up (up F k v) j w = up (up F j w) k v := by funext x; unfold up; split <;> split <;> first | rfl | (exfalso; omega)
theorem up_self {β : Type} (F : Nat → β) (k : Nat) : up F k (F k) = F := by funext j; unfold up; split <;> simp_all
theorem ro_swap {β : Type} (M : Nat → β) {r q : Nat} (F G : β) (h : r < q) : ro (ro M r F) q G = ro (ro M q G) r F := ro_comm M F G (by omega)
theorem gD_l {l l' : List Nat} {j : Nat} (h : j < l.length) : (l ++ l').getD j 0 = l.getD j 0 := by simp only [List.getD_eq_getElem?_getD, List.getElem?_append_left h]
theorem gD_r {l l' : List Nat} {j : Nat} (h : l.length ≤ j) : (l ++ l').getD j 0 = l'.getD (j - l.length) 0 := by simp only [List.getD_eq_getElem?_getD, List.getElem?_append_right h]
/-! a list written into a row from a place on -/
def ap (f : Nat → Int32) (k0 : Nat) (l : List Nat) : Nat → Int32 := fun j => if k0 ≤ j ∧ j < k0 + l.length then nI (l.getD (j - k0) 0) else f j
theorem ap_nil (f : Nat → Int32) (k0 : Nat) : ap f k0 [] = f := by funext j; unfold ap; rw [if_neg (by simp)]
theorem ap_snoc (f : Nat → Int32) (k0 : Nat) (l : List Nat) (c : Nat) : up (ap f k0 l) (k0 + l.length) (nI c) = ap f k0 (l ++ [c]) := by
  funext j
  unfold up ap
  by_cases h : j = k0 + l.length
  · subst h
    rw [if_pos rfl, if_pos ⟨by omega, by simp⟩]
    simp
  · rw [if_neg h]
    by_cases h2 : k0 ≤ j ∧ j < k0 + l.length
    · rw [if_pos h2, if_pos ⟨h2.1, by simp; omega⟩]
      congr 1
      rw [gD_l (by omega)]
    · rw [if_neg h2, if_neg (by simp; omega)]
theorem ap_take (f : Nat → Int32) (k0 : Nat) (l : List Nat) {k : Nat} (h : k < l.length) : up (ap f k0 (l.take k)) (k0 + k) (nI (l.getD k 0)) = ap f k0 (l.take (k + 1)) := by
  have e : k0 + k = k0 + (l.take k).length := by rw [List.length_take, Nat.min_eq_left (by omega)]
  rw [e, ap_snoc]
  congr 1
  rw [List.take_succ]
  simp [h]
theorem ap_ap (f : Nat → Int32) (k0 : Nat) (l l' : List Nat) : ap (ap f k0 l) (k0 + l.length) l' = ap f k0 (l ++ l') := by
  funext j
  unfold ap
  by_cases h : k0 + l.length ≤ j ∧ j < k0 + l.length + l'.length
  · rw [if_pos h, if_pos ⟨by omega, by simp; omega⟩, gD_r (by omega)]
    congr 2
    omega
  · rw [if_neg h]
    by_cases h2 : k0 ≤ j ∧ j < k0 + l.length
    · rw [if_pos h2, if_pos ⟨h2.1, by simp; omega⟩, gD_l (by omega)]
    · rw [if_neg h2, if_neg (by simp; omega)]
theorem ap_at (f : Nat → Int32) (k0 : Nat) (l : List Nat) {j : Nat} (h : j < l.length) : ap f k0 l (k0 + j) = nI (l.getD j 0) := by
  unfold ap
  rw [if_pos ⟨by omega, by omega⟩, Nat.add_sub_cancel_left]
theorem ap_at0 (f : Nat → Int32) (l : List Nat) {j : Nat} (h : j < l.length) : ap f 0 l j = nI (l.getD j 0) := by
  have := ap_at f 0 l h
  rwa [Nat.zero_add] at this
theorem ap_out (f : Nat → Int32) (k0 : Nat) (l : List Nat) {j : Nat} (h : j < k0 ∨ k0 + l.length ≤ j) : ap f k0 l j = f j := by
  unfold ap
  rw [if_neg (by omega)]
/-- a slot's number, or none -/
theorem slot_cases (v : Int32) : (∃ s, s < 6 ∧ v = nI s) ∨ (v < nI 0 ∨ nI 5 < v) := by
  by_cases h : v < nI 0
  · exact Or.inr (Or.inl h)
  · by_cases h2 : nI 5 < v
    · exact Or.inr (Or.inr h2)
    · obtain ⟨j, hj, rfl⟩ := nI_of h
      rw [n_lt (by decide) hj] at h2
      exact Or.inl ⟨j, by omega, rfl⟩
theorem ite_T {α : Type} {p : Prop} [Decidable p] {x y : α} (h : p) : (if p then x else y) = x := if_pos h
theorem ite_F {α : Type} {p : Prop} [Decidable p] {x y : α} (h : ¬ p) : (if p then x else y) = y := if_neg h
theorem nz0 : (vp_nar .boolean (nI 0) = nI 0) = True := eq_true (by decide +kernel)
theorem nz1 : (vp_nar .boolean (nI 1) = nI 1) = True := eq_true (by decide +kernel)
theorem ro_sw {β : Type} (M : Nat → β) (q : Nat) (F G : β) : (0 < q → ro (ro M 0 F) q G = ro (ro M q G) 0 F) ∧ (1 < q → ro (ro M 1 F) q G = ro (ro M q G) 1 F) ∧ (2 < q → ro (ro M 2 F) q G = ro (ro M q G) 2 F) ∧ (3 < q → ro (ro M 3 F) q G = ro (ro M q G) 3 F) ∧ (4 < q → ro (ro M 4 F) q G = ro (ro M q G) 4 F) ∧ (5 < q → ro (ro M 5 F) q G = ro (ro M q G) 5 F) ∧ (6 < q → ro (ro M 6 F) q G = ro (ro M q G) 6 F) ∧ (7 < q → ro (ro M 7 F) q G = ro (ro M q G) 7 F) ∧ (8 < q → ro (ro M 8 F) q G = ro (ro M q G) 8 F) ∧ (9 < q → ro (ro M 9 F) q G = ro (ro M q G) 9 F) ∧ (10 < q → ro (ro M 10 F) q G = ro (ro M q G) 10 F) ∧ (11 < q → ro (ro M 11 F) q G = ro (ro M q G) 11 F) ∧ (12 < q → ro (ro M 12 F) q G = ro (ro M q G) 12 F) ∧ (13 < q → ro (ro M 13 F) q G = ro (ro M q G) 13 F) ∧ (14 < q → ro (ro M 14 F) q G = ro (ro M q G) 14 F) ∧ (15 < q → ro (ro M 15 F) q G = ro (ro M q G) 15 F) ∧ (16 < q → ro (ro M 16 F) q G = ro (ro M q G) 16 F) ∧ (17 < q → ro (ro M 17 F) q G = ro (ro M q G) 17 F) ∧ (18 < q → ro (ro M 18 F) q G = ro (ro M q G) 18 F) ∧ (19 < q → ro (ro M 19 F) q G = ro (ro M q G) 19 F) ∧ (20 < q → ro (ro M 20 F) q G = ro (ro M q G) 20 F) ∧ (21 < q → ro (ro M 21 F) q G = ro (ro M q G) 21 F) ∧ (22 < q → ro (ro M 22 F) q G = ro (ro M q G) 22 F) ∧ (23 < q → ro (ro M 23 F) q G = ro (ro M q G) 23 F) ∧ (24 < q → ro (ro M 24 F) q G = ro (ro M q G) 24 F) ∧ (25 < q → ro (ro M 25 F) q G = ro (ro M q G) 25 F) ∧ (26 < q → ro (ro M 26 F) q G = ro (ro M q G) 26 F) ∧ (27 < q → ro (ro M 27 F) q G = ro (ro M q G) 27 F) ∧ (28 < q → ro (ro M 28 F) q G = ro (ro M q G) 28 F) ∧ (29 < q → ro (ro M 29 F) q G = ro (ro M q G) 29 F) ∧ (30 < q → ro (ro M 30 F) q G = ro (ro M q G) 30 F) ∧ (31 < q → ro (ro M 31 F) q G = ro (ro M q G) 31 F) ∧ (32 < q → ro (ro M 32 F) q G = ro (ro M q G) 32 F) ∧ (33 < q → ro (ro M 33 F) q G = ro (ro M q G) 33 F) := ⟨ro_swap M F G, ro_swap M F G, ro_swap M F G, ro_swap M F G, ro_swap M F G, ro_swap M F G, ro_swap M F G, ro_swap M F G, ro_swap M F G, ro_swap M F G, ro_swap M F G, ro_swap M F G, ro_swap M F G, ro_swap M F G, ro_swap M F G, ro_swap M F G, ro_swap M F G, ro_swap M F G, ro_swap M F G, ro_swap M F G, ro_swap M F G, ro_swap M F G, ro_swap M F G, ro_swap M F G, ro_swap M F G, ro_swap M F G, ro_swap M F G, ro_swap M F G, ro_swap M F G, ro_swap M F G, ro_swap M F G, ro_swap M F G, ro_swap M F G, ro_swap M F G⟩
theorem up_sw {β : Type} (F : Nat → β) (j : Nat) (v w : β) : (0 < j → up (up F 0 v) j w = up (up F j w) 0 v) ∧ (1 < j → up (up F 1 v) j w = up (up F j w) 1 v) ∧ (2 < j → up (up F 2 v) j w = up (up F j w) 2 v) ∧ (3 < j → up (up F 3 v) j w = up (up F j w) 3 v) ∧ (4 < j → up (up F 4 v) j w = up (up F j w) 4 v) ∧ (5 < j → up (up F 5 v) j w = up (up F j w) 5 v) ∧ (6 < j → up (up F 6 v) j w = up (up F j w) 6 v) ∧ (7 < j → up (up F 7 v) j w = up (up F j w) 7 v) ∧ (8 < j → up (up F 8 v) j w = up (up F j w) 8 v) ∧ (9 < j → up (up F 9 v) j w = up (up F j w) 9 v) ∧ (10 < j → up (up F 10 v) j w = up (up F j w) 10 v) ∧ (11 < j → up (up F 11 v) j w = up (up F j w) 11 v) ∧ (12 < j → up (up F 12 v) j w = up (up F j w) 12 v) ∧ (13 < j → up (up F 13 v) j w = up (up F j w) 13 v) ∧ (14 < j → up (up F 14 v) j w = up (up F j w) 14 v) ∧ (15 < j → up (up F 15 v) j w = up (up F j w) 15 v) ∧ (16 < j → up (up F 16 v) j w = up (up F j w) 16 v) ∧ (17 < j → up (up F 17 v) j w = up (up F j w) 17 v) ∧ (18 < j → up (up F 18 v) j w = up (up F j w) 18 v) ∧ (19 < j → up (up F 19 v) j w = up (up F j w) 19 v) ∧ (20 < j → up (up F 20 v) j w = up (up F j w) 20 v) ∧ (21 < j → up (up F 21 v) j w = up (up F j w) 21 v) ∧ (22 < j → up (up F 22 v) j w = up (up F j w) 22 v) ∧ (23 < j → up (up F 23 v) j w = up (up F j w) 23 v) ∧ (24 < j → up (up F 24 v) j w = up (up F j w) 24 v) ∧ (25 < j → up (up F 25 v) j w = up (up F j w) 25 v) ∧ (26 < j → up (up F 26 v) j w = up (up F j w) 26 v) ∧ (27 < j → up (up F 27 v) j w = up (up F j w) 27 v) ∧ (28 < j → up (up F 28 v) j w = up (up F j w) 28 v) ∧ (29 < j → up (up F 29 v) j w = up (up F j w) 29 v) ∧ (30 < j → up (up F 30 v) j w = up (up F j w) 30 v) ∧ (31 < j → up (up F 31 v) j w = up (up F j w) 31 v) ∧ (32 < j → up (up F 32 v) j w = up (up F j w) 32 v) ∧ (33 < j → up (up F 33 v) j w = up (up F j w) 33 v) ∧ (34 < j → up (up F 34 v) j w = up (up F j w) 34 v) ∧ (35 < j → up (up F 35 v) j w = up (up F j w) 35 v) ∧ (36 < j → up (up F 36 v) j w = up (up F j w) 36 v) ∧ (37 < j → up (up F 37 v) j w = up (up F j w) 37 v) ∧ (38 < j → up (up F 38 v) j w = up (up F j w) 38 v) ∧ (39 < j → up (up F 39 v) j w = up (up F j w) 39 v) ∧ (40 < j → up (up F 40 v) j w = up (up F j w) 40 v) ∧ (41 < j → up (up F 41 v) j w = up (up F j w) 41 v) ∧ (42 < j → up (up F 42 v) j w = up (up F j w) 42 v) ∧ (43 < j → up (up F 43 v) j w = up (up F j w) 43 v) ∧ (44 < j → up (up F 44 v) j w = up (up F j w) 44 v) ∧ (45 < j → up (up F 45 v) j w = up (up F j w) 45 v) ∧ (46 < j → up (up F 46 v) j w = up (up F j w) 46 v) ∧ (47 < j → up (up F 47 v) j w = up (up F j w) 47 v) ∧ (48 < j → up (up F 48 v) j w = up (up F j w) 48 v) ∧ (49 < j → up (up F 49 v) j w = up (up F j w) 49 v) := ⟨up_swap F v w, up_swap F v w, up_swap F v w, up_swap F v w, up_swap F v w, up_swap F v w, up_swap F v w, up_swap F v w, up_swap F v w, up_swap F v w, up_swap F v w, up_swap F v w, up_swap F v w, up_swap F v w, up_swap F v w, up_swap F v w, up_swap F v w, up_swap F v w, up_swap F v w, up_swap F v w, up_swap F v w, up_swap F v w, up_swap F v w, up_swap F v w, up_swap F v w, up_swap F v w, up_swap F v w, up_swap F v w, up_swap F v w, up_swap F v w, up_swap F v w, up_swap F v w, up_swap F v w, up_swap F v w, up_swap F v w, up_swap F v w, up_swap F v w, up_swap F v w, up_swap F v w, up_swap F v w, up_swap F v w, up_swap F v w, up_swap F v w, up_swap F v w, up_swap F v w, up_swap F v w, up_swap F v w, up_swap F v w, up_swap F v w, up_swap F v w⟩
theorem grd_u {α : Type} {p : Prop} [Decidable p] (x : Option α) : grd p x = if p then x else none := rfl
theorem orf_u {α β : Type} (o : Option α) (f : α → Option β) : orf o f = match o with | none => none | some a => f a := rfl
theorem oif_u {α β : Type} (o : Option α) (x : Option β) (f : α → Option β) : oif o x f = match o with | none => x | some a => f a := rfl
theorem cal_u {ρ β : Type} (x : Option (ρ × mH)) (f : ρ → mH → Option β) : cal x f = match x with | none => none | some o => f o.1 o.2 := rfl
theorem calX_u {ρ β : Type} (x : Option ((ρ ⊕ String) × mH)) (f : ρ → mH → Option β) (g : String → mH → Option β) : calX x f g = match x with | none => none | some (.inl r, h) => f r h | some (.inr e, h) => g e h := rfl
theorem inrO_u {σ ρ : Type} (x : Option ρ) : (inrO x : Option (σ ⊕ ρ)) = match x with | none => none | some r => some (.inr r) := rfl
