/-! the class: the line's bytes: room -/
theorem byt : ∀ v, v < 128 → fits .byte (.int (nI v)) = true := by decide +kernel
theorem sleT : ∀ m, m < 144 → ∀ c, c < 144 → m ≤ c → nI m - nI c ≤ nI 0 := by decide +kernel
theorem shl0 (x : Int32) : x <<< (nI 0 &&& 31) = x := by
  rw [show (nI 0 &&& 31 : Int32) = 0 by decide +kernel, Int32.shiftLeft_zero]
section CSB
variable {n : Nat} {h : mH} {A M : Nat → Nat → Int32} {R : Nat → Nat → Option Nat} {S : St} {y cap : Nat} {l : List Nat}
theorem cp_XE {a b sp dp k : Nat} (ha : n + 131 ≤ a) : cp (E n h A M R) b a sp dp k = E n (nx h, kd h, sz h, va_up (gi h) a (va_cpy (gi (E n h A M R) b) (gi h a) sp dp k), gr h, gl h, gd h) A M R := by
  unfold cp
  have e2 : gi (E n h A M R) a = gi h a := by funext j; exact gi_X ha
  rw [e2]
  obtain ⟨X, hX⟩ : ∃ X, X = va_cpy (gi (E n h A M R) b) (gi h a) sp dp k := ⟨_, rfl⟩
  rw [← hX]
  have e : va_up (gi (E n h A M R)) a X = gi (E n (nx h, kd h, sz h, va_up (gi h) a X, gr h, gl h, gd h) A M R) := by
    funext x j
    rw [upD]
    by_cases q : x = a
    · subst q
      rw [if_pos rfl, gi_X ha]
      show _ = va_up (gi h) x _ x j
      rw [vu_at]
    · rw [if_neg q]
      show (if x < n then gi h x j else if x < n + 97 then A (x - n) j else if x < n + 131 then M (x - n - 97) j else gi h x j) = (if x < n then va_up (gi h) a _ x j else if x < n + 97 then A (x - n) j else if x < n + 131 then M (x - n - 97) j else va_up (gi h) a _ x j)
      rw [vu_ne _ _ q]
  show (nx h, kd (E n h A M R), sz (E n h A M R), va_up (gi (E n h A M R)) a X, gr (E n h A M R), gl h, gd h) = _
  rw [e]
  rfl
theorem gi_Ecel {b m : Nat} {F : Nat → Int32} {G : Nat → Option Nat} (hb : b ≠ nx h) : gi (E n (celH h 102 m F G) A M R) b = gi (E n h A M R) b := by
  funext j
  show (if b < n then gi (celH h 102 m F G) b j else if b < n + 97 then A (b - n) j else if b < n + 131 then M (b - n - 97) j else gi (celH h 102 m F G) b j) = (if b < n then gi h b j else if b < n + 97 then A (b - n) j else if b < n + 131 then M (b - n - 97) j else gi h b j)
  rw [gi_celN hb]
theorem cp_new {m k b : Nat} (hx : n + 131 ≤ nx h) (hb : b ≠ nx h) : cp (E n (celH h 102 m (fun _ => nI 0) (fun _ => none)) A M R) b (nx h) 0 0 k = E n (celH h 102 m (fun j => if j < k then gi (E n h A M R) b j else nI 0) (fun _ => none)) A M R := by
  rw [cp_XE hx, gi_Ecel hb, gi_celS]
  have e : va_cpy (gi (E n h A M R) b) (fun _ => nI 0) 0 0 k = fun j => if j < k then gi (E n h A M R) b j else nI 0 := by
    funext j
    show (if 0 ≤ j ∧ j < 0 + k then gi (E n h A M R) b (0 + (j - 0)) else nI 0) = if j < k then gi (E n h A M R) b j else nI 0
    rw [Nat.zero_add, Nat.zero_add, Nat.sub_zero]
    by_cases q : j < k
    · rw [if_pos q, if_pos ⟨Nat.zero_le _, q⟩]
    · rw [if_neg q, if_neg (fun z => q z.2)]
  rw [e]
  have e3 : va_up (gi (celH h 102 m (fun _ => nI 0) (fun _ => none))) (nx h) (fun j => if j < k then gi (E n h A M R) b j else nI 0) = va_up (gi h) (nx h) (fun j => if j < k then gi (E n h A M R) b j else nI 0) := by
    show va_up (va_up (gi h) (nx h) _) (nx h) _ = _
    rw [vu_vu]
  rw [e3]
  rfl
/-- the bytes' cell: its room -/
def YB (n : Nat) (h : mH) (y cap : Nat) : Prop := (y = ca n 43 ∧ cap = 16) ∨ (n + 133 ≤ y ∧ y < nx h ∧ kd h y = 102 ∧ sz h y = cap ∧ (cap = 34 ∨ cap = 70 ∨ cap = 142))
def Sb (n : Nat) (h : mH) (A : Nat → Nat → Int32) (R : Nat → Nat → Option Nat) (l : List Nat) (y cap : Nat) : Prop := n + 133 ≤ nx h ∧ A 42 1 = nI 0 ∧ A 42 3 = nI l.length ∧ R 42 0 = some y ∧ YB n h y cap ∧ l.length ≤ cap ∧ (∀ k, k < l.length → rdY n h A y k = nI (l.getD k 0)) ∧ ∀ k, ∃ v, v < 128 ∧ rdY n h A y k = nI v
theorem YB_cap (hy : YB n h y cap) : cap = 16 ∨ cap = 34 ∨ cap = 70 ∨ cap = 142 := by
  rcases hy with ⟨-, q⟩ | ⟨-, -, -, -, q⟩
  · exact Or.inl q
  · exact Or.inr q
theorem YB_kd (hy : YB n h y cap) : kd (E n h A M R) y = 102 ∧ sz (E n h A M R) y = cap := by
  rcases hy with ⟨rfl, rfl⟩ | ⟨q1, q2, q3, q4, -⟩
  · exact ⟨by rw [kd_C (by decide)]; rfl, by rw [sz_C (by decide)]; rfl⟩
  · exact ⟨by rw [kd_X (by omega)]; exact q3, by rw [sz_X (by omega)]; exact q4⟩
theorem YB_gi (hy : YB n h y cap) (k : Nat) : gi (E n h A M R) y k = rdY n h A y k := by
  unfold rdY
  rcases hy with ⟨rfl, rfl⟩ | ⟨q1, q2, q3, q4, -⟩
  · rw [if_pos rfl, gi_C (by decide)]
  · rw [if_neg (by unfold ca; omega), gi_X (by omega)]
theorem YB_ne (hx : n + 133 ≤ nx h) (hy : YB n h y cap) : y ≠ nx h := by
  rcases hy with ⟨rfl, -⟩ | ⟨q1, q2, -⟩
  · unfold ca; omega
  · omega
theorem Sb_Line (hs : Sb n h A R l y cap) : LineOK n h A R l := by
  obtain ⟨s0, s1, s2, s3, s4, s5, s6, s7⟩ := hs
  refine ⟨s1, s2, y, s3, ?_, s6, s7⟩
  rcases s4 with ⟨rfl, rfl⟩ | ⟨q1, q2, q3, q4, q5⟩
  · exact Or.inl ⟨rfl, s5⟩
  · exact Or.inr ⟨q1, q2, q3, by rw [q4]; exact s5, by rw [q4]; exact q5⟩
theorem Line_Sb (hx : n + 133 ≤ nx h) (hl : LineOK n h A R l) : ∃ y cap, Sb n h A R l y cap := by
  obtain ⟨s1, s2, y, s3, s4, s6, s7⟩ := hl
  rcases s4 with ⟨rfl, q⟩ | ⟨q1, q2, q3, q4, q5⟩
  · exact ⟨_, 16, hx, s1, s2, s3, Or.inl ⟨rfl, rfl⟩, q, s6, s7⟩
  · exact ⟨y, sz h y, hx, s1, s2, s3, Or.inr ⟨q1, q2, q3, rfl, q5⟩, q4, s6, s7⟩
/-- what a change of the line leaves alone -/
def FrL (n : Nat) (h h' : mH) (A A' : Nat → Nat → Int32) (R R' : Nat → Nat → Option Nat) : Prop := Mono n h h' ∧ (∀ r, r ≠ 42 → r ≠ 43 → A' r = A r) ∧ ∀ r, r ≠ 42 → R' r = R r
theorem FrL_rf : FrL n h h A A R R := ⟨Mono_rf n h, fun _ _ _ => rfl, fun _ _ => rfl⟩
theorem FrL_tr {h' h'' : mH} {A' A'' : Nat → Nat → Int32} {R' R'' : Nat → Nat → Option Nat} (a : FrL n h h' A A' R R') (b : FrL n h' h'' A' A'' R' R'') : FrL n h h'' A A'' R R'' := ⟨Mono_tr a.1 b.1, fun r h1 h2 => (b.2.1 r h1 h2).trans (a.2.1 r h1 h2), fun r h1 => (b.2.2 r h1).trans (a.2.2 r h1)⟩
theorem IC_line {h' : mH} {A' : Nat → Nat → Int32} {R' : Nat → Nat → Option Nat} (hi : IC n h A R S) (hf : FrL n h h' A A' R R') (hl : LineOK n h' A' R' l) : IC n h' A' R' (setL S l) := by
  obtain ⟨a0, a1, ⟨f, a2⟩, a3, a4, a5, a6, a7⟩ := hi
  obtain ⟨m, fA, fR⟩ := hf
  refine ⟨NX_mono a0 m, ShOK_mono (ShOK_rows a1 (fA 1 (by decide) (by decide)) (fR 2 (by decide)) (fR 3 (by decide))) m, ⟨f, Hist_mono (Hist_fr a2 (fun r _ h2 => fA r (by omega) (by omega)) (fun r _ h2 => fR r (by omega))) m⟩, ?_, ?_, ?_, ?_, hl⟩
  · show (match sSaved S with | none => A' 0 14 = nI 0 | some L => A' 0 14 = nI 1 ∧ ShOK n h' A' R' 4 L)
    rw [fA 0 (by decide) (by decide)]
    cases e : sSaved S with
    | none => rw [e] at a3; exact a3
    | some L =>
      rw [e] at a3
      exact ⟨a3.1, ShOK_mono (ShOK_rows a3.2 (fA 4 (by decide) (by decide)) (fR 5 (by decide)) (fR 6 (by decide))) m⟩
  · rw [fA 36 (by decide) (by decide), fA 37 (by decide) (by decide)]
    exact a4
  · rw [fA 0 (by decide) (by decide)]; exact a5
  · rw [fA 0 (by decide) (by decide)]; exact a6
def fcC (cap : Nat) : Nat := if cap = 16 then 0 else if cap = 34 then 1 else if cap = 70 then 2 else 3
def fcM (cap : Nat) : Nat := if cap = 16 then 0 else if cap = 34 then 34 else if cap = 70 then 104 else 246
end CSB
