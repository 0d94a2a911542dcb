/-! a cycle of positions and words without end -/
def clr (v k : Nat) : Nat := v &&& (127 ^^^ 2 ^ k)
theorem clr_lt {v k : Nat} (hv : v < 128) : clr v k < 128 := Nat.lt_of_le_of_lt Nat.and_le_left hv
theorem clr_bit : ∀ v, v < 128 → ∀ k, k < 7 → ∀ j, j < 7 → (clr v k).testBit j = (v.testBit j && decide (j ≠ k)) := by decide +kernel
theorem clr_I : ∀ v, v < 128 → ∀ k, k < 7 → nI v &&& ((nI 1 <<< (nI k &&& 31)) ^^^ Int32.ofInt (-1)) = nI (clr v k) := by decide +kernel
def hst (fo : Nat → Nat) (v k : Nat) : Nat := if fo k &&& v = 0 then clr v k else v
def hsN (fo : Nat → Nat) (v : Nat) : Nat → Nat
  | 0 => v
  | k + 1 => hst fo (hsN fo v k) k
def rdN (fo : Nat → Nat) (v : Nat) : Nat → Nat
  | 0 => v
  | r + 1 => hsN fo (rdN fo v r) 7
theorem hst_lt {fo : Nat → Nat} {v k : Nat} (hv : v < 128) : hst fo v k < 128 := by
  unfold hst
  split
  · exact clr_lt hv
  · exact hv
theorem hsN_lt {fo : Nat → Nat} {v : Nat} (hv : v < 128) : ∀ k, hsN fo v k < 128
  | 0 => hv
  | k + 1 => hst_lt (hsN_lt hv k)
theorem rdN_lt {fo : Nat → Nat} {v : Nat} (hv : v < 128) : ∀ r, rdN fo v r < 128
  | 0 => hv
  | r + 1 => hsN_lt (rdN_lt hv r) 7
theorem hst_sub {fo : Nat → Nat} {v k j : Nat} (h : (hst fo v k).testBit j = true) : v.testBit j = true := by
  unfold hst at h
  split at h
  · unfold clr at h
    exact (and_b.mp h).1
  · exact h
theorem hsN_sub {fo : Nat → Nat} {v j : Nat} : ∀ k, (hsN fo v k).testBit j = true → v.testBit j = true
  | 0, h => h
  | k + 1, h => hsN_sub k (hst_sub h)
/-- paths of positions from it end -/
def Bd (fo : Nat → Nat) (k : Nat) : Prop := ∃ N, ∀ m, N ≤ m → ¬ pth fo (fun _ => True) m k
theorem Bd_all {fo : Nat → Nat} (T : Nat → Prop) : ∀ K, (∀ j, j < K → T j → Bd fo j) → ∃ N, ∀ j, j < K → T j → ∀ m, N ≤ m → ¬ pth fo (fun _ => True) m j
  | 0, _ => ⟨0, fun j hj => absurd hj (Nat.not_lt_zero _)⟩
  | K + 1, h => by
    obtain ⟨N, hN⟩ := Bd_all T K (fun j hj => h j (by omega))
    by_cases e : T K
    · obtain ⟨N', hN'⟩ := h K (Nat.lt_succ_self K) e
      refine ⟨N + N', fun j hj ht m hm => ?_⟩
      by_cases ej : j = K
      · rw [ej]; exact hN' m (by omega)
      · exact hN j (by omega) ht m (by omega)
    · refine ⟨N, fun j hj ht m hm => ?_⟩
      by_cases ej : j = K
      · rw [ej] at ht; exact absurd ht e
      · exact hN j (by omega) ht m hm
theorem Bd_step {fo : Nat → Nat} {k : Nat} (h7 : ∀ k, fo k < 128) (h : ∀ j, (fo k).testBit j = true → Bd fo j) : Bd fo k := by
  obtain ⟨N, hN⟩ := Bd_all (fo := fo) (fun j => (fo k).testBit j = true) 7 (fun j _ => h j)
  refine ⟨N + 1, fun m hm hp => ?_⟩
  obtain ⟨m', rfl⟩ : ∃ m', m = m' + 1 := ⟨m - 1, by omega⟩
  obtain ⟨j, j1, j2⟩ := (pth_s ..).mp hp
  exact hN j (bit7 (h7 k) j1) j1 m' (by omega) j2
theorem hst_Bd {fo : Nat → Nat} {v k : Nat} (h7 : ∀ k, fo k < 128) (hv : v < 128) (hk : k < 7) (h : ∀ j, j < 7 → ¬ v.testBit j = true → Bd fo j) : ∀ j, j < 7 → ¬ (hst fo v k).testBit j = true → Bd fo j := fun j hj hn => by
  unfold hst at hn
  by_cases e : fo k &&& v = 0
  · rw [if_pos e, clr_bit v hv k hk j hj] at hn
    by_cases ej : j = k
    · rw [ej]
      refine Bd_step h7 (fun i hi => ?_)
      refine h i (bit7 (h7 k) hi) (fun z => ?_)
      have : (fo k &&& v) ≠ 0 := ne0_b.mpr ⟨i, and_b.mpr ⟨hi, z⟩⟩
      exact this e
    · exact h j hj (fun z => hn (by rw [z, decide_eq_true ej]; rfl))
  · rw [if_neg e] at hn
    exact h j hj hn
theorem hsN_Bd {fo : Nat → Nat} {v : Nat} (h7 : ∀ k, fo k < 128) (hv : v < 128) (h : ∀ j, j < 7 → ¬ v.testBit j = true → Bd fo j) : ∀ k, k ≤ 7 → ∀ j, j < 7 → ¬ (hsN fo v k).testBit j = true → Bd fo j
  | 0, _ => h
  | k + 1, hk => hst_Bd h7 (hsN_lt hv k) (by omega) (hsN_Bd h7 hv h k (by omega))
theorem rdN_Bd {fo : Nat → Nat} {v : Nat} (h7 : ∀ k, fo k < 128) (hv : v < 128) (h : ∀ j, j < 7 → ¬ v.testBit j = true → Bd fo j) : ∀ r j, j < 7 → ¬ (rdN fo v r).testBit j = true → Bd fo j
  | 0 => h
  | r + 1 => hsN_Bd h7 (rdN_lt hv r) (rdN_Bd h7 hv h r) 7 (Nat.le_refl _)
def ct (v : Nat) : Nat := cs (fun j => v.testBit j) 7
/-- a round takes one away, or the set is stable -/
theorem hsN_key {fo : Nat → Nat} {v : Nat} (hv : v < 128) : ∀ k, k ≤ 7 → (hsN fo v k = v ∧ ∀ j, j < k → v.testBit j = true → fo j &&& v ≠ 0) ∨ ct (hsN fo v k) < ct v
  | 0, _ => Or.inl ⟨rfl, fun j hj => absurd hj (Nat.not_lt_zero _)⟩
  | k + 1, hk => by
    have e : hsN fo v (k + 1) = hst fo (hsN fo v k) k := rfl
    rcases hsN_key hv k (by omega) with ⟨h1, h2⟩ | h
    · rw [e, h1]
      by_cases z : fo k &&& v = 0
      · by_cases y : v.testBit k = true
        · refine Or.inr (cs_lt (fun x _ hx => hst_sub hx) ⟨k, by omega, ?_, y⟩)
          unfold hst
          rw [if_pos z]
          have := clr_bit v hv k (by omega) k (by omega)
          rw [this, decide_eq_false (fun q => q rfl), Bool.and_false]
        · refine Or.inl ⟨?_, fun j hj hb => ?_⟩
          · unfold hst
            rw [if_pos z]
            refine Nat.eq_of_testBit_eq (fun j => ?_)
            by_cases hj : j < 7
            · rw [clr_bit v hv k (by omega) j hj]
              by_cases ej : j = k
              · rw [ej]
                cases q : v.testBit k with
                | true => exact absurd q y
                | false => rfl
              · rw [decide_eq_true ej, Bool.and_true]
            · have q1 : ∀ x, x < 128 → x.testBit j = false := fun x hx => by
                cases q : x.testBit j with
                | true => exact absurd (bit7 hx q) hj
                | false => rfl
              rw [q1 _ (clr_lt hv), q1 _ hv]
          · by_cases ej : j = k
            · rw [ej] at hb; exact absurd hb y
            · exact h2 j (by omega) hb
      · refine Or.inl ⟨?_, fun j hj hb => ?_⟩
        · unfold hst
          rw [if_neg z]
        · by_cases ej : j = k
          · rw [ej]; exact z
          · exact h2 j (by omega) hb
    · right
      rw [e]
      have : ct (hst fo (hsN fo v k) k) ≤ ct (hsN fo v k) := cs_sub (fun x _ hx => hst_sub hx)
      omega
theorem ct_0 {v : Nat} (hv : v < 128) (h : ct v = 0) : v = 0 := by
  rcases Nat.eq_zero_or_pos v with e | e
  · exact e
  · obtain ⟨k, hk⟩ := ne0_b.mp (show v ≠ 0 by omega)
    have h7 := bit7 hv hk
    have h1 := cs_t (T := fun j => v.testBit j) hk
    have h2 := cs_mono (fun j => v.testBit j) (show k + 1 ≤ 7 by omega)
    have h3 : cs (fun j => v.testBit j) 7 = 0 := h
    omega
theorem rdN_key {fo : Nat → Nat} {v : Nat} (hv : v < 128) : ∀ r, (hsN fo (rdN fo v r) 7 = rdN fo v r ∧ ∀ j, j < 7 → (rdN fo v r).testBit j = true → fo j &&& rdN fo v r ≠ 0) ∨ ct (rdN fo v r) + r ≤ 7
  | 0 => Or.inr (csn_le _ _)
  | r + 1 => by
    have e : rdN fo v (r + 1) = hsN fo (rdN fo v r) 7 := rfl
    rcases rdN_key hv r with ⟨h1, h2⟩ | h
    · left
      rw [e, h1]
      exact ⟨h1, h2⟩
    · rcases hsN_key (fo := fo) (rdN_lt (fo := fo) hv r) 7 (Nat.le_refl _) with ⟨h1, h2⟩ | h3
      · left
        rw [e, h1]
        exact ⟨h1, h2⟩
      · right
        rw [e]
        omega
