/-! the heap that a list of steps makes, the latest step first: (0, kind, size, -) a new cell, (1, cell, place, number), (q + 2, cell, place, -) a reference to cell q -/
abbrev stp : Type := Nat × Nat × Nat × Int32
def hp1 (N : Nat) (h : mH) (o : stp) : mH := match o.1 with
  | 0 => al h o.2.1 o.2.2.1
  | 1 => si h (N + o.2.1) o.2.2.1 o.2.2.2
  | q + 2 => sr h (N + o.2.1) o.2.2.1 (some (N + q))
def hp (N : Nat) : List stp → mH
  | [] => eH N
  | o :: O => hp1 N (hp N O) o
def nO : List stp → Nat
  | [] => 0
  | o :: O => if o.1 = 0 then nO O + 1 else nO O
def kO : List stp → Nat → Nat
  | [], _ => 0
  | o :: O, r => if o.1 = 0 ∧ r = nO O then o.2.1 else kO O r
def zO : List stp → Nat → Nat
  | [], _ => 0
  | o :: O, r => if o.1 = 0 ∧ r = nO O then o.2.2.1 else zO O r
def iO : List stp → Nat → Nat → Int32
  | [], _, _ => 0
  | o :: O, r, k => if o.1 = 0 ∧ r = nO O then 0 else if o.1 = 1 ∧ r = o.2.1 ∧ k = o.2.2.1 then o.2.2.2 else iO O r k
def rO : List stp → Nat → Nat → Option Nat
  | [], _, _ => none
  | o :: O, r, k => if o.1 = 0 ∧ r = nO O then none else if 2 ≤ o.1 ∧ r = o.2.1 ∧ k = o.2.2.1 then some (o.1 - 2) else rO O r k
theorem hp_nx (N : Nat) : ∀ O, nx (hp N O) = N + nO O
  | [] => rfl
  | (0, a, b, v) :: O => by
    show nx (hp N O) + 1 = N + (if (0 : Nat) = 0 then nO O + 1 else nO O)
    rw [hp_nx N O, if_pos rfl, Nat.add_assoc]
  | (1, a, b, v) :: O => by
    show nx (hp N O) = N + (if (1 : Nat) = 0 then nO O + 1 else nO O)
    rw [hp_nx N O, if_neg (by decide)]
  | (q + 2, a, b, v) :: O => by
    show nx (hp N O) = N + (if q + 2 = 0 then nO O + 1 else nO O)
    rw [hp_nx N O, if_neg (by omega)]
theorem hp_kd (N : Nat) : ∀ O r, kd (hp N O) (N + r) = kO O r
  | [], r => rfl
  | (0, a, b, v) :: O, r => by
    show va_up (kd (hp N O)) (nx (hp N O)) a (N + r) = if (0 : Nat) = 0 ∧ r = nO O then a else kO O r
    rw [upD, hp_nx, hp_kd N O r]
    by_cases q : r = nO O
    · rw [if_pos (by rw [q]), if_pos ⟨rfl, q⟩]
    · rw [if_neg (by omega), if_neg (fun z => q z.2)]
  | (1, a, b, v) :: O, r => by
    show kd (hp N O) (N + r) = if (1 : Nat) = 0 ∧ r = nO O then a else kO O r
    rw [hp_kd N O r, if_neg (by omega)]
  | (q + 2, a, b, v) :: O, r => by
    show kd (hp N O) (N + r) = if q + 2 = 0 ∧ r = nO O then a else kO O r
    rw [hp_kd N O r, if_neg (by omega)]
theorem hp_sz (N : Nat) : ∀ O r, sz (hp N O) (N + r) = zO O r
  | [], r => rfl
  | (0, a, b, v) :: O, r => by
    show va_up (sz (hp N O)) (nx (hp N O)) b (N + r) = if (0 : Nat) = 0 ∧ r = nO O then b else zO O r
    rw [upD, hp_nx, hp_sz N O r]
    by_cases q : r = nO O
    · rw [if_pos (by rw [q]), if_pos ⟨rfl, q⟩]
    · rw [if_neg (by omega), if_neg (fun z => q z.2)]
  | (1, a, b, v) :: O, r => by
    show sz (hp N O) (N + r) = if (1 : Nat) = 0 ∧ r = nO O then b else zO O r
    rw [hp_sz N O r, if_neg (by omega)]
  | (q + 2, a, b, v) :: O, r => by
    show sz (hp N O) (N + r) = if q + 2 = 0 ∧ r = nO O then b else zO O r
    rw [hp_sz N O r, if_neg (by omega)]
theorem hp_gi (N : Nat) : ∀ O r k, gi (hp N O) (N + r) k = iO O r k
  | [], r, k => rfl
  | (0, a, b, v) :: O, r, k => by
    show va_up (gi (hp N O)) (nx (hp N O)) (fun _ => 0) (N + r) k = if (0 : Nat) = 0 ∧ r = nO O then 0 else if (0 : Nat) = 1 ∧ r = a ∧ k = b then v else iO O r k
    rw [upD, hp_nx]
    by_cases q : r = nO O
    · rw [if_pos (by rw [q]), if_pos ⟨rfl, q⟩]
    · rw [if_neg (by omega), if_neg (fun z => q z.2), if_neg (fun z => absurd z.1 (by decide)), hp_gi N O r k]
  | (1, a, b, v) :: O, r, k => by
    show (if N + r = N + a ∧ k = b then v else gi (hp N O) (N + r) k) = if (1 : Nat) = 0 ∧ r = nO O then 0 else if (1 : Nat) = 1 ∧ r = a ∧ k = b then v else iO O r k
    rw [if_neg (show ¬ ((1 : Nat) = 0 ∧ r = nO O) from fun z => absurd z.1 (by decide)), hp_gi N O r k]
    by_cases q : r = a ∧ k = b
    · rw [if_pos ⟨by rw [q.1], q.2⟩, if_pos ⟨rfl, q⟩]
    · rw [if_neg (fun z => q ⟨by omega, z.2⟩), if_neg (fun z => q z.2)]
  | (q + 2, a, b, v) :: O, r, k => by
    show gi (hp N O) (N + r) k = if q + 2 = 0 ∧ r = nO O then 0 else if q + 2 = 1 ∧ r = a ∧ k = b then v else iO O r k
    rw [hp_gi N O r k, if_neg (by omega), if_neg (by omega)]
theorem hp_gr (N : Nat) : ∀ O r k, gr (hp N O) (N + r) k = (rO O r k).map (N + ·)
  | [], r, k => rfl
  | (0, a, b, v) :: O, r, k => by
    show va_up (gr (hp N O)) (nx (hp N O)) (fun _ => none) (N + r) k = Option.map _ (if (0 : Nat) = 0 ∧ r = nO O then none else if 2 ≤ (0 : Nat) ∧ r = a ∧ k = b then some (0 - 2) else rO O r k)
    rw [upD, hp_nx]
    by_cases q : r = nO O
    · rw [if_pos (by rw [q]), if_pos ⟨rfl, q⟩]
      rfl
    · rw [if_neg (by omega), if_neg (fun z => q z.2), if_neg (fun z => absurd z.1 (by decide)), hp_gr N O r k]
  | (1, a, b, v) :: O, r, k => by
    show gr (hp N O) (N + r) k = Option.map _ (if (1 : Nat) = 0 ∧ r = nO O then none else if 2 ≤ (1 : Nat) ∧ r = a ∧ k = b then some (1 - 2) else rO O r k)
    rw [if_neg (show ¬ ((1 : Nat) = 0 ∧ r = nO O) from fun z => absurd z.1 (by decide)), if_neg (fun z => absurd z.1 (by decide)), hp_gr N O r k]
  | (q + 2, a, b, v) :: O, r, k => by
    show (if N + r = N + a ∧ k = b then some (N + q) else gr (hp N O) (N + r) k) = Option.map _ (if q + 2 = 0 ∧ r = nO O then none else if 2 ≤ q + 2 ∧ r = a ∧ k = b then some (q + 2 - 2) else rO O r k)
    rw [if_neg (show ¬ (q + 2 = 0 ∧ r = nO O) from fun z => absurd z.1 (by omega)), hp_gr N O r k]
    by_cases z : r = a ∧ k = b
    · rw [if_pos ⟨by rw [z.1], z.2⟩, if_pos ⟨by omega, z⟩]
      rfl
    · rw [if_neg (fun y => z ⟨by omega, y.2⟩), if_neg (fun y => z y.2)]
theorem hp_al {N : Nat} {O : List stp} {c m : Nat} : al (hp N O) c m = hp N ((0, c, m, 0) :: O) := rfl
theorem hp_si {N : Nat} {O : List stp} {a k : Nat} {v : Int32} : si (hp N O) (N + a) k v = hp N ((1, a, k, v) :: O) := rfl
theorem hp_sr {N : Nat} {O : List stp} {a k q : Nat} : sr (hp N O) (N + a) k (some (N + q)) = hp N ((q + 2, a, k, 0) :: O) := rfl
/-! the class's objects are made -/
section START
variable {N a : Nat} {O : List stp}
theorem nO_0 {a b : Nat} {v : Int32} : nO ((0, a, b, v) :: O) = nO O + 1 := rfl
theorem nO_1 {a b : Nat} {v : Int32} : nO ((1, a, b, v) :: O) = nO O := rfl
theorem nO_2 {a b q : Nat} {v : Int32} : nO ((q + 2, a, b, v) :: O) = nO O := if_neg (by show ¬ q + 2 = 0; omega)
/-- cell r is there and has kind c -/
def KQ (O : List stp) (r c : Nat) : Prop := kO O r = c ∧ r < nO O
theorem KQ_c {o : stp} {r c : Nat} (h : KQ O r c) : KQ (o :: O) r c := by
  obtain ⟨h1, h2⟩ := h
  refine ⟨?_, ?_⟩
  · show (if o.1 = 0 ∧ r = nO O then o.2.1 else kO O r) = c
    rw [if_neg (fun z => by omega)]
    exact h1
  · show r < (if o.1 = 0 then nO O + 1 else nO O)
    split <;> omega
theorem KQ_n {a b : Nat} {v : Int32} : KQ ((0, a, b, v) :: O) (nO O) a := ⟨if_pos ⟨rfl, rfl⟩, by rw [nO_0]; omega⟩
def aA (c m j a : Nat) (O : List stp) : List stp := (nO O + 2, a, j, 0) :: (0, c, m, 0) :: O
def aN (j : Nat) (v : Int32) (a : Nat) (O : List stp) : List stp := (1, a, j, v) :: O
def aO (c m j : Nat) (B : Nat → List stp → List stp) (a : Nat) (O : List stp) : List stp := (nO O + 2, a, j, 0) :: B (nO O) ((0, c, m, 0) :: O)
/-- a new row in a field -/
theorem st_arr {β : Type} {p c m m' j kind : Nat} {K : mH → Option β} (hk : KQ O p c) (hm : m = m') : (bnd (nx (hp N O)) fun a2 => bnd (al (hp N O) kind m) fun h3 => grd (kd h3 (N + p) = c) <| bnd (sr h3 (N + p) j (some a2)) K) = K (hp N (aA kind m' j p O)) := by
  subst hm
  rw [bnd_w, bnd_w, hp_al, grd_w (by rw [hp_kd]; exact (KQ_c hk).1), bnd_w, hp_nx, hp_sr]
  rfl
theorem st_nmb {β : Type} {p c j : Nat} {v : Int32} {K : mH → Option β} (hk : KQ O p c) : (grd (kd (hp N O) (N + p) = c) <| bnd (si (hp N O) (N + p) j v) K) = K (hp N (aN j v p O)) := by
  rw [grd_w (by rw [hp_kd]; exact hk.1), bnd_w, hp_si]
  rfl
end START
