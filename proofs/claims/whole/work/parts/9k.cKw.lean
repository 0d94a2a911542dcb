/-! keywords: how far a text goes along one -/
def shp (T : List Nat) (i : Nat) : List Nat → Nat
  | [] => 0
  | c :: l => if T.getD i 0 = c then shp T (i + 1) l + 1 else 0
theorem shp_le (T : List Nat) : ∀ (l : List Nat) (i : Nat), shp T i l ≤ l.length
  | [], i => Nat.le_refl _
  | c :: l, i => by
    have := shp_le T l (i + 1)
    unfold shp
    rw [List.length_cons]
    split <;> omega
theorem shp_sq (T : List Nat) : ∀ (l : List Nat) (i : Nat), (∀ c ∈ l, c < 200) → sq T l i = (decide (shp T i l = l.length), i + shp T i l)
  | [], i, _ => rfl
  | c :: l, i, h => by
    have hc := h c List.mem_cons_self
    have ih := shp_sq T l (i + 1) (fun x hx => h x (List.mem_cons_of_mem _ hx))
    unfold sq shp
    by_cases q : T.getD i 0 = c
    · rw [if_pos (mtc_l hc q), if_pos q, ih, List.length_cons]
      refine Prod.ext ?_ (by show i + 1 + _ = i + (_ + 1); omega)
      show decide _ = decide _
      congr 1
      exact propext ⟨fun z => by rw [z], fun z => by omega⟩
    · rw [if_neg (by unfold mtc; rw [if_pos hc]; exact q), if_neg q]
      rfl
theorem shp_0 {T : List Nat} {i c : Nat} {l : List Nat} (h : T.getD i 0 ≠ c) : shp T i (c :: l) = 0 := if_neg h
theorem shp_s {T : List Nat} {i c : Nat} {l : List Nat} (h : T.getD i 0 = c) : shp T i (c :: l) = shp T (i + 1) l + 1 := if_pos h
/-- the other keywords go no further -/
theorem ksel_sh (T : List Nat) (i k : Nat) (hk : k < 7) (hne : k ≠ ksel T i) : shp T i (kwd k) < (kwd k).length ∧ shp T i (kwd k) ≤ shp T i (kwd (ksel T i)) := by
  have z : ∀ c l, kwd k = c :: l → T.getD i 0 ≠ c → shp T i (kwd k) < (kwd k).length ∧ shp T i (kwd k) ≤ shp T i (kwd (ksel T i)) := fun c l e h => by
    rw [e, shp_0 h, List.length_cons]
    exact ⟨by omega, Nat.zero_le _⟩
  have hk : k = 0 ∨ k = 1 ∨ k = 2 ∨ k = 3 ∨ k = 4 ∨ k = 5 ∨ k = 6 := by omega
  rcases hk with rfl | rfl | rfl | rfl | rfl | rfl | rfl
  · by_cases q : T.getD i 0 = 115
    · have q1 : T.getD (i + 1) 0 ≠ 101 := fun y => hne (by unfold ksel; rw [if_pos q, if_pos y])
      have e : ksel T i = 3 := by unfold ksel; rw [if_pos q, if_neg q1]
      rw [e]
      show shp T i [115, 101, 116, 32] < 4 ∧ shp T i [115, 101, 116, 32] ≤ shp T i [115, 116, 97, 114, 32]
      rw [shp_s q, shp_0 q1, shp_s q]
      omega
    · exact z 115 [101, 116, 32] rfl q
  · by_cases q : T.getD i 0 = 111
    · exact absurd (ksel_1 q).symm hne
    · exact z 111 _ rfl q
  · by_cases q : T.getD i 0 = 116
    · exact absurd (ksel_2 q).symm hne
    · exact z 116 _ rfl q
  · by_cases q : T.getD i 0 = 115
    · have q1 : T.getD (i + 1) 0 = 101 := Decidable.byContradiction fun y => hne (by unfold ksel; rw [if_pos q, if_neg y])
      have e : ksel T i = 0 := by unfold ksel; rw [if_pos q, if_pos q1]
      rw [e]
      show shp T i [115, 116, 97, 114, 32] < 5 ∧ shp T i [115, 116, 97, 114, 32] ≤ shp T i [115, 101, 116, 32]
      rw [shp_s q, shp_0 (show T.getD (i + 1) 0 ≠ 116 by omega), shp_s q]
      omega
    · exact z 115 _ rfl q
  · by_cases q : T.getD i 0 = 100
    · exact absurd (ksel_4 q).symm hne
    · exact z 100 _ rfl q
  · by_cases q : T.getD i 0 = 119
    · exact absurd (show ksel T i = 5 by unfold ksel; rw [if_neg (by omega), if_neg (by omega), if_neg (by omega), if_neg (by omega), if_pos q]).symm hne
    · exact z 119 _ rfl q
  · by_cases q : T.getD i 0 = 99
    · exact absurd (ksel_6 (by omega) (by omega) (by omega) (by omega) (by omega)).symm hne
    · exact z 99 _ rfl q
def mxs (T : List Nat) (i : Nat) : Nat → Nat
  | 0 => 0
  | k + 1 => if mxs T i k < shp T i (kwd k) then shp T i (kwd k) else mxs T i k
theorem mxs_le (T : List Nat) (i : Nat) : ∀ k, k ≤ 7 → mxs T i k ≤ shp T i (kwd (ksel T i))
  | 0, _ => Nat.zero_le _
  | k + 1, h => by
    have := mxs_le T i k (by omega)
    unfold mxs
    split
    · by_cases q : k = ksel T i
      · rw [← q]; exact Nat.le_refl _
      · exact (ksel_sh T i k (by omega) q).2
    · exact this
theorem mxs_ge (T : List Nat) (i : Nat) : ∀ k j, j < k → shp T i (kwd j) ≤ mxs T i k
  | 0, j, h => absurd h (Nat.not_lt_zero _)
  | k + 1, j, h => by
    unfold mxs
    by_cases q : j = k
    · rw [q]
      split <;> omega
    · have := mxs_ge T i k j (by omega)
      split <;> omega
theorem mxs_7 (T : List Nat) (i : Nat) : mxs T i 7 = shp T i (kwd (ksel T i)) := Nat.le_antisymm (mxs_le T i 7 (Nat.le_refl _)) (mxs_ge T i 7 _ (by have := ksel_le T i; omega))
section CKW
variable {n : Nat} {h : mH} {A M : Nat → Nat → Int32} {R : Nat → Nat → Option Nat} {S : St} {T : List Nat} {i : Nat} {g : mH}
theorem c_strL {j : Nat} (hj : j < 7) : f_J0_length_8abf5 j g = some (nI (kwd j).length, g) := by
  have hc : f_J0_coder_7d493 j g = some (nI 0, g) := by
    have : j = 0 ∨ j = 1 ∨ j = 2 ∨ j = 3 ∨ j = 4 ∨ j = 5 ∨ j = 6 := by omega
    rcases this with rfl | rfl | rfl | rfl | rfl | rfl | rfl <;> rfl
  unfold f_J0_length_8abf5
  rw [grd_w hj, cal_w hc, shr0]
  have : j = 0 ∨ j = 1 ∨ j = 2 ∨ j = 3 ∨ j = 4 ∨ j = 5 ∨ j = 6 := by omega
  rcases this with rfl | rfl | rfl | rfl | rfl | rfl | rfl <;> rfl
theorem c_strC {j k : Nat} (hj : j < 7) (hk : k < (kwd j).length) : f_J0_charAt_5068e j (nI k) g = some (nI ((kwd j).getD k 0), g) := by
  have : j = 0 ∨ j = 1 ∨ j = 2 ∨ j = 3 ∨ j = 4 ∨ j = 5 ∨ j = 6 := by omega
  rcases this with rfl | rfl | rfl | rfl | rfl | rfl | rfl
  all_goals
    have hk5 : k < 5 := Nat.lt_of_lt_of_le hk (by decide)
    have : k = 0 ∨ k = 1 ∨ k = 2 ∨ k = 3 ∨ k = 4 := by omega
    rcases this with rfl | rfl | rfl | rfl | rfl <;> first | rfl | (exact absurd hk (by decide))
theorem c_spell {k : Nat} (hk : k < 7) : f_X9_spelling (nI k) g = some (k, g) := by
  have : k = 0 ∨ k = 1 ∨ k = 2 ∨ k = 3 ∨ k = 4 ∨ k = 5 ∨ k = 6 := by omega
  rcases this with rfl | rfl | rfl | rfl | rfl | rfl | rfl <;> rfl
theorem c_chA {k : Nat} (ht : TX A T) (hk : k < 1000) : f_X9_character (ca n 36) (nI k) (E n h A M R) = some (nI (T.getD k 0), E n h A M R) := by
  rcases Nat.lt_or_ge k T.length with z | z
  · exact c_char ht z
  · rw [getD_ov z]
    exact c_charF ht z hk
theorem TX_lt (ht : TX A T) (k : Nat) : T.getD k 0 < 128 := by
  rcases Nat.lt_or_ge k T.length with z | z
  · have := (ht.2.2 k z).2
    omega
  · rw [getD_ov z]
    decide
theorem kwd_lt : ∀ k, k < 7 → ∀ c ∈ kwd k, c < 128 := by decide
theorem kwd_len : ∀ k, k < 7 → (kwd k).length ≤ 5 := by decide
theorem kwd_gd {j k : Nat} (hj : j < 7) (hk : k < (kwd j).length) : (kwd j).getD k 0 < 128 := by
  rw [List.getD_eq_getElem?_getD, List.getElem?_eq_getElem hk]
  exact kwd_lt j hj _ (List.getElem_mem hk)
theorem c_sh2 {j : Nat} (hj : j < 7) (ht : TX A T) (hi : A 36 3 = nI i) (hi2 : i ≤ T.length) : ∀ (d s L : Nat), s + d = (kwd j).length → d < L →
    lp (b_X9_sharedLength_2 (ca n 36) j) L (nI s, E n h A M R) = some (nI (s + shp T (i + s) ((kwd j).drop s)), E n h A M R) := by
  have t60 := ht.2.1
  have h5 := kwd_len j hj
  intro d
  induction d with
  | zero =>
    intro s L hs hL
    obtain ⟨L, rfl⟩ : ∃ L', L = L' + 1 := ⟨L - 1, by omega⟩
    rw [List.drop_eq_nil_of_le (by omega), lp_en (r := (nI s, E n h A M R))]
    · rfl
    · have el := c_strL (g := E n h A M R) hj
      unfold b_X9_sharedLength_2 b0_X9_sharedLength_2 g_X9_sharedLength_34
      simp (disch := omega) only [↓grd_u, ↓bnd_e, ↓orf_u, ↓oif_u, ↓cal_u, ↓calX_u, ↓inrO_u, ↓reduceIte, EM, EMg, EMs, z0, oi, n_inbT, n_cntT, n_ltT, n_ltF, n_leT, n_leF, n_eqT, n_eqF, n_m1T, n_m1F, n_m1F', n_cl, n_add, n_mul, ro_at, ro_ro, up_at, up_up, EC, hj, el]
  | succ d ih =>
    intro s L hs hL
    obtain ⟨L, rfl⟩ : ∃ L', L = L' + 1 := ⟨L - 1, by omega⟩
    have hsl : s < (kwd j).length := by omega
    have el := c_strL (g := E n h A M R) hj
    have ec := c_strC (g := E n h A M R) hj hsl
    have ech := c_chA (n := n) (h := h) (M := M) (R := R) (k := i + s) ht (by omega)
    have hlt := TX_lt ht (i + s)
    have hlt2 := kwd_gd hj hsl
    rw [drop_c hsl]
    by_cases q : T.getD (i + s) 0 = (kwd j).getD s 0
    · rw [shp_s q, lp_nx (s' := (nI (s + 1), E n h A M R)), ih (s + 1) L (by omega) (by omega)]
      · congr 3
        rw [show i + (s + 1) = i + s + 1 by omega]
        omega
      · rw [q] at ech
        unfold b_X9_sharedLength_2 b0_X9_sharedLength_2
        simp (disch := omega) only [↓grd_u, ↓bnd_e, ↓orf_u, ↓oif_u, ↓cal_u, ↓calX_u, ↓inrO_u, ↓reduceIte, EM, EMg, EMs, z0, oi, n_inbT, n_cntT, n_ltT, n_ltF, n_leT, n_leF, n_eqT, n_eqF, n_m1T, n_m1F, n_m1F', n_cl, n_add, n_mul, ro_at, ro_ro, up_at, up_up, EC, ECg, hj, el, hi, ech, ec]
    · rw [shp_0 q, lp_en (r := (nI s, E n h A M R))]
      · rfl
      unfold b_X9_sharedLength_2 b0_X9_sharedLength_2 g_X9_sharedLength_34
      simp (disch := omega) only [↓grd_u, ↓bnd_e, ↓orf_u, ↓oif_u, ↓cal_u, ↓calX_u, ↓inrO_u, ↓reduceIte, EM, EMg, EMs, z0, oi, n_inbT, n_cntT, n_ltT, n_ltF, n_leT, n_leF, n_eqT, n_eqF, n_m1T, n_m1F, n_m1F', n_cl, n_add, n_mul, ro_at, ro_ro, up_at, up_up, EC, ECg, hj, el, hi, ech, ec]
theorem c_shared {j : Nat} (hj : j < 7) (ht : TX A T) (hi : A 36 3 = nI i) (hi2 : i ≤ T.length) : f_X9_sharedLength (ca n 36) j (E n h A M R) = some (nI (shp T i (kwd j)), E n h A M R) := by
  have h5 := kwd_len j hj
  have q := c_sh2 (n := n) (h := h) (M := M) (R := R) hj ht hi hi2 (kwd j).length 0 100000 (by omega) (by omega)
  rw [Nat.zero_add, Nat.add_zero, List.drop_zero] at q
  exact q
theorem c_rk4 (ht : TX A T) (hi : A 36 3 = nI i) (hi2 : i ≤ T.length) : ∀ (d k L : Nat), k + d = 7 → d < L → (∀ j, j < k → shp T i (kwd j) ≠ (kwd j).length) →
    ∃ x, lp (b_X9_readKeyword_4 (ca n 36)) L (nI (mxs T i k), nI k, E n h A M R) = some (x, E n h (ro A 36 (up (A 36) 3 (nI (i + shp T i (kwd (ksel T i)))))) M R) ∧ ((shp T i (kwd (ksel T i)) = (kwd (ksel T i)).length ∧ x = nI (ksel T i)) ∨ (shp T i (kwd (ksel T i)) ≠ (kwd (ksel T i)).length ∧ x = Int32.ofInt (-1))) := by
  have t60 := ht.2.1
  have hK := ksel_le T i
  intro d
  induction d with
  | zero =>
    intro k L hk hL hall
    obtain ⟨L, rfl⟩ : ∃ L', L = L' + 1 := ⟨L - 1, by omega⟩
    have k7 : k = 7 := by omega
    refine ⟨Int32.ofInt (-1), ?_, Or.inr ⟨hall _ (by omega), rfl⟩⟩
    rw [k7, mxs_7]
    rw [lp_en (r := (Int32.ofInt (-1), E n h (ro A 36 (up (A 36) 3 (nI (i + shp T i (kwd (ksel T i)))))) M R))]
    unfold b_X9_readKeyword_4 b0_X9_readKeyword_4
    simp (disch := omega) only [↓grd_u, ↓bnd_e, ↓orf_u, ↓oif_u, ↓cal_u, ↓calX_u, ↓inrO_u, ↓reduceIte, EM, EMg, EMs, z0, oi, n_inbT, n_cntT, n_ltT, n_ltF, n_leT, n_leF, n_eqT, n_eqF, n_m1T, n_m1F, n_m1F', n_cl, n_add, n_mul, ro_at, ro_ro, up_at, up_up, EC, ECg, ECs, hi]
  | succ d ih =>
    intro k L hk hL hall
    obtain ⟨L, rfl⟩ : ∃ L', L = L' + 1 := ⟨L - 1, by omega⟩
    have k7 : k < 7 := by omega
    have e1 := c_spell (g := E n h A M R) k7
    have e2 := c_shared (n := n) (h := h) (M := M) (R := R) k7 ht hi hi2
    have e3 := c_strL (g := E n h A M R) k7
    have h5 := kwd_len k k7
    have hle := shp_le T (kwd k) i
    have hmx := mxs_le T i k (by omega)
    have hle2 := shp_le T (kwd (ksel T i)) i
    have h52 := kwd_len (ksel T i) (by omega)
    have n7 : ¬ nI 7 ≤ nI k := by
      rw [n_le (by decide) (by omega)]
      omega
    by_cases q : shp T i (kwd k) = (kwd k).length
    · have ek : k = ksel T i := Decidable.byContradiction fun z => by
        have := (ksel_sh T i k k7 z).1
        omega
      refine ⟨nI k, ?_, Or.inl ⟨by rw [← ek]; exact q, by rw [ek]⟩⟩
      rw [← ek]
      rw [lp_en (r := (nI k, E n h (ro A 36 (up (A 36) 3 (nI (i + shp T i (kwd k))))) M R))]
      unfold b_X9_readKeyword_4 b0_X9_readKeyword_4
      simp (disch := omega) only [↓grd_u, ↓bnd_e, ↓orf_u, ↓oif_u, ↓cal_u, ↓calX_u, ↓inrO_u, ↓reduceIte, EM, EMg, EMs, z0, oi, n_inbT, n_cntT, n_ltT, n_ltF, n_leT, n_leF, n_eqT, n_eqF, n_m1T, n_m1F, n_m1F', n_cl, n_add, n_mul, ro_at, ro_ro, up_at, up_up, EC, ECg, ECs, k7, hi, e1, e2, e3, q]
    · obtain ⟨x, ex, hx⟩ := ih (k + 1) L (by omega) (by omega) (fun j hj => by
        by_cases z : j = k
        · rw [z]; exact q
        · exact hall j (by omega))
      refine ⟨x, ?_, hx⟩
      rw [lp_nx (s' := (nI (mxs T i (k + 1)), nI (k + 1), E n h A M R)), ex]
      have emx : (if nI (mxs T i k) < nI (shp T i (kwd k)) then nI (shp T i (kwd k)) else nI (mxs T i k)) = nI (mxs T i (k + 1)) := by
        rw [show mxs T i (k + 1) = if mxs T i k < shp T i (kwd k) then shp T i (kwd k) else mxs T i k from rfl]
        by_cases z : mxs T i k < shp T i (kwd k)
        · rw [if_pos z, if_pos (by rw [n_lt (by omega) (by omega)]; exact z)]
        · rw [if_neg z, if_neg (by rw [n_lt (by omega) (by omega)]; exact z)]
      unfold b_X9_readKeyword_4 b0_X9_readKeyword_4
      simp (disch := omega) only [↓grd_u, ↓bnd_e, ↓orf_u, ↓oif_u, ↓cal_u, ↓calX_u, ↓inrO_u, ↓reduceIte, EM, EMg, EMs, z0, oi, n_inbT, n_cntT, n_ltT, n_ltF, n_leT, n_leF, n_eqT, n_eqF, n_m1T, n_m1F, n_m1F', n_cl, n_add, n_mul, ro_at, ro_ro, up_at, up_up, EC, k7, e1, e2, e3]
      rw [emx]
theorem c_readKeyword (ht : TX A T) (hi : A 36 3 = nI i) (hi2 : i ≤ T.length) : ∃ x, f_X9_readKeyword (ca n 36) (E n h A M R) = some (x, E n h (ro A 36 (up (A 36) 3 (nI (i + shp T i (kwd (ksel T i)))))) M R) ∧ ((shp T i (kwd (ksel T i)) = (kwd (ksel T i)).length ∧ x = nI (ksel T i)) ∨ (shp T i (kwd (ksel T i)) ≠ (kwd (ksel T i)).length ∧ x = Int32.ofInt (-1))) := c_rk4 ht hi hi2 7 0 100000 rfl (by decide) (fun j hj => absurd hj (Nat.not_lt_zero _))
end CKW
