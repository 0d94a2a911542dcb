/-! what changes can change: the slots' patterns in postfix order (1 to 3 letters, 4 then, 5 or, 6 to 8 signs), the sample words, how often a pattern was put -/
abbrev Lib : Type := (Nat → List Nat) × List (List Nat) × Nat
def lP (L : Lib) : Nat → List Nat := L.1
def lW (L : Lib) : List (List Nat) := L.2.1
def lD (L : Lib) : Nat := L.2.2
/-- the reference's row of 248 numbers for it -/
def wfN (L : Lib) (j : Nat) : Nat :=
  if j = 0 then lD L else if j = 1 then (lW L).length else
  if j < 176 then (if (j - 2) % 29 = 0 then (lP L ((j - 2) / 29)).length else (lP L ((j - 2) / 29)).getD ((j - 2) % 29 - 1) 0) else
  if j < 248 then (if (j - 176) % 9 = 0 then ((lW L).getD ((j - 176) / 9) []).length else ((lW L).getD ((j - 176) / 9) []).getD ((j - 176) % 9 - 1) 0) else 0
def enc (L : Lib) : Nat → Int32 := fun j => nI (wfN L j)
theorem enc_0 (L : Lib) : enc L 0 = nI (lD L) := rfl
theorem enc_1 (L : Lib) : enc L 1 = nI (lW L).length := rfl
theorem enc_len (L : Lib) {s : Nat} (hs : s < 6) : enc L (2 + 29 * s) = nI (lP L s).length := by
  unfold enc wfN
  rw [if_neg (by omega), if_neg (by omega), if_pos (by omega), if_pos (by omega), show (2 + 29 * s - 2) / 29 = s by omega]
theorem enc_code (L : Lib) {s k : Nat} (hs : s < 6) (hk : k < 28) : enc L (2 + 29 * s + 1 + k) = nI ((lP L s).getD k 0) := by
  unfold enc wfN
  rw [if_neg (by omega), if_neg (by omega), if_pos (by omega), if_neg (by omega), show (2 + 29 * s + 1 + k - 2) / 29 = s by omega, show (2 + 29 * s + 1 + k - 2) % 29 - 1 = k by omega]
theorem enc_wl (L : Lib) {i : Nat} (hi : i < 8) : enc L (176 + 9 * i) = nI ((lW L).getD i []).length := by
  unfold enc wfN
  rw [if_neg (by omega), if_neg (by omega), if_neg (by omega), if_pos (by omega), if_pos (by omega), show (176 + 9 * i - 176) / 9 = i by omega]
theorem enc_w (L : Lib) {i k : Nat} (hi : i < 8) (hk : k < 8) : enc L (176 + 9 * i + 1 + k) = nI (((lW L).getD i []).getD k 0) := by
  unfold enc wfN
  rw [if_neg (by omega), if_neg (by omega), if_neg (by omega), if_pos (by omega), if_neg (by omega), show (176 + 9 * i + 1 + k - 176) / 9 = i by omega, show (176 + 9 * i + 1 + k - 176) % 9 - 1 = k by omega]
theorem enc_z (L : Lib) {j : Nat} (hj : 248 ≤ j) : enc L j = nI 0 := by
  unfold enc wfN
  rw [if_neg (by omega), if_neg (by omega), if_neg (by omega), if_neg (by omega)]
def putP (L : Lib) (s : Nat) (p : List Nat) : Lib := (up (lP L) s p, lW L, lD L + 1)
def freeP (L : Lib) (s : Nat) : Lib := (up (lP L) s [], lW L, lD L)
def addW (L : Lib) (w : List Nat) : Lib := (lP L, lW L ++ [w], lD L)
def cutW (L : Lib) (i : Nat) : Lib := (lP L, (lW L).eraseIdx i, lD L)
def pad (m : Nat) (p : List Nat) : List Nat := p ++ List.replicate (m - p.length) 0
theorem pad_len {m : Nat} {p : List Nat} (h : p.length ≤ m) : (pad m p).length = m := by simp [pad]; omega
theorem pad_at {m k : Nat} {p : List Nat} : (pad m p).getD k 0 = p.getD k 0 := by
  unfold pad
  by_cases h : k < p.length
  · rw [gD_l h]
  · rw [gD_r (by omega)]
    simp only [List.getD_eq_getElem?_getD, List.getElem?_replicate]
    rw [List.getElem?_eq_none (by omega)]
    split <;> rfl
theorem enc_put (L : Lib) {s : Nat} {p : List Nat} (hs : s < 6) (hp : p.length ≤ 28) : up (up (ap (enc L) (2 + 29 * s + 1) (pad 28 p)) (2 + 29 * s) (nI p.length)) 0 (nI (lD L + 1)) = enc (putP L s p) := by
  funext j
  by_cases h0 : j = 0
  · subst h0; rw [up_at]; rfl
  rw [up_ne _ _ h0]
  by_cases h1 : j = 2 + 29 * s
  · subst h1; rw [up_at, enc_len _ hs]; show _ = nI (up (lP L) s p s).length; rw [up_at]
  rw [up_ne _ _ h1]
  by_cases h2 : 2 + 29 * s + 1 ≤ j ∧ j < 2 + 29 * s + 1 + 28
  · obtain ⟨k, hk⟩ : ∃ k, j = 2 + 29 * s + 1 + k := ⟨j - (2 + 29 * s + 1), by omega⟩
    subst hk
    rw [ap_at _ _ _ (by rw [pad_len hp]; omega), enc_code _ hs (by omega), pad_at]
    show _ = nI ((up (lP L) s p s).getD k 0)
    rw [up_at]
  · rw [ap_out _ _ _ (by rw [pad_len hp]; omega)]
    unfold enc wfN
    by_cases h3 : j = 1
    · subst h3; rfl
    rw [if_neg h0, if_neg h3, if_neg h0, if_neg h3]
    by_cases h4 : j < 176
    · rw [if_pos h4, if_pos h4]
      have h5 : (j - 2) / 29 ≠ s := by omega
      show _ = nI (if _ then (up (lP L) s p ((j - 2) / 29)).length else (up (lP L) s p ((j - 2) / 29)).getD _ 0)
      rw [up_ne _ _ h5]
    · rw [if_neg h4, if_neg h4]
      rfl
theorem enc_free (L : Lib) {s : Nat} (hs : s < 6) : ap (enc L) (2 + 29 * s) (List.replicate 29 0) = enc (freeP L s) := by
  funext j
  by_cases h2 : 2 + 29 * s ≤ j ∧ j < 2 + 29 * s + 29
  · obtain ⟨k, hk⟩ : ∃ k, j = 2 + 29 * s + k := ⟨j - (2 + 29 * s), by omega⟩
    subst hk
    rw [ap_at _ _ _ (by simp; omega)]
    have e : (List.replicate 29 0).getD k 0 = 0 := by simp only [List.getD_eq_getElem?_getD, List.getElem?_replicate]; split <;> rfl
    rw [e]
    by_cases hk0 : k = 0
    · subst hk0; rw [Nat.add_zero, enc_len _ hs]; show _ = nI (up (lP L) s [] s).length; rw [up_at]; rfl
    · obtain ⟨k', rfl⟩ : ∃ k', k = 1 + k' := ⟨k - 1, by omega⟩
      rw [← Nat.add_assoc, enc_code _ hs (by omega)]
      show _ = nI ((up (lP L) s [] s).getD k' 0)
      rw [up_at]; rfl
  · rw [ap_out _ _ _ (by simp; omega)]
    unfold enc wfN
    by_cases h0 : j = 0
    · subst h0; rfl
    by_cases h3 : j = 1
    · subst h3; rfl
    rw [if_neg h0, if_neg h3, if_neg h0, if_neg h3]
    by_cases h4 : j < 176
    · rw [if_pos h4, if_pos h4]
      have h5 : (j - 2) / 29 ≠ s := by omega
      show _ = nI (if _ then (up (lP L) s [] ((j - 2) / 29)).length else (up (lP L) s [] ((j - 2) / 29)).getD _ 0)
      rw [up_ne _ _ h5]
    · rw [if_neg h4, if_neg h4]
      rfl
theorem enc_copy (L : Lib) {f : Nat → Int32} (hf : ∀ j, 248 ≤ j → f j = nI 0) : pre 248 (enc L) f = enc L := by
  funext j
  by_cases h : j < 248
  · rw [pre_lt _ _ h]
  · rw [pre_ge _ _ (by omega), hf j (by omega), enc_z L (by omega)]
/-! how many letters, how many signs -/
def nLet (l : List Nat) : Nat := (l.filter fun c => decide (c < 4)).length
def nSig (l : List Nat) : Nat := (l.filter fun c => decide (6 ≤ c)).length
theorem nLet_snoc (l : List Nat) (c : Nat) : nLet (l ++ [c]) = nLet l + (if c < 4 then 1 else 0) := by
  unfold nLet
  rw [List.filter_append, List.length_append]
  congr 1
  by_cases h : c < 4 <;> simp [h]
theorem nSig_snoc (l : List Nat) (c : Nat) : nSig (l ++ [c]) = nSig l + (if 6 ≤ c then 1 else 0) := by
  unfold nSig
  rw [List.filter_append, List.length_append]
  congr 1
  by_cases h : 6 ≤ c <;> simp [h]
theorem nLet_le (l : List Nat) : nLet l ≤ l.length := List.length_filter_le _ _
theorem nSig_le (l : List Nat) : nSig l ≤ l.length := List.length_filter_le _ _
theorem take_snoc {l : List Nat} {k : Nat} (h : k < l.length) : l.take (k + 1) = l.take k ++ [l.getD k 0] := by
  rw [List.take_succ]
  simp [h]
def small (p : List Nat) : Prop := ∀ k, k < p.length → p.getD k 0 < 9
