/-! each call on both sides -/
/-- the first telling word of two patterns has at most 120 letters -/
def H120 : Prop := ∀ p p' : List Nat, GoodP p → GoodP p' → p ≠ [] → p' ≠ [] → ∀ k, isD (nx2 (gluOf p) (gluOf p')) (T2 false (gluOf p) (gluOf p')) (128, 128) k → k ≤ 120
section OPS
variable {N t : Nat} {h : mH} {A M : Nat → Nat → Int32} {R : Nat → Nat → Option Nat} {S : St} {a1 a2 a3 : Int32}
theorem h120_S (H : H120) (hg : GoodS S) {v w : Int32} : ∀ a b k, patN S v = some a → patN S w = some b → isD (nx2 (gluOf (lP (sCur S) a)) (gluOf (lP (sCur S) b))) (T2 false (gluOf (lP (sCur S) a)) (gluOf (lP (sCur S) b))) (128, 128) k → k ≤ 120 := fun a b k ea eb hd => by
  obtain ⟨ha, pa⟩ : a < 6 ∧ lP (sCur S) a ≠ [] := by
    rcases pat_cases S v with ⟨s, hs, -, hp, e⟩ | ⟨e, -⟩
    · rw [e] at ea; cases ea; exact ⟨hs, hp⟩
    · rw [e] at ea; cases ea
  obtain ⟨hb, pb⟩ : b < 6 ∧ lP (sCur S) b ≠ [] := by
    rcases pat_cases S w with ⟨s, hs, -, hp, e⟩ | ⟨e, -⟩
    · rw [e] at eb; cases eb; exact ⟨hs, hp⟩
    · rw [e] at eb; cases eb
  exact H _ _ (hg.1.1 a ha) (hg.1.1 b hb) pa pb k hd
theorem o_0 (hi : IC N h A R S) (im : IM M S) (hg : GoodS S) : op_0 N (N + 97) (N + 131) (N + 132) (E N h A M R) (INV N t) a1 a2 a3 := by
  unfold op_0
  exact glueT (m := 3) (c := Int32.toInt64) (ex := exD) (c_define hi hg) (fun h A R => m_define im hg) (GoodS_def hg) (bd_def) (by decide) (fun e h1 h2 => by
      have : e = 1 ∨ e = 2 ∨ e = 3 := by omega
      rcases this with rfl | rfl | rfl <;> exact ⟨by decide, by decide⟩)
theorem o_1 (hi : IC N h A R S) (im : IM M S) (hg : GoodS S) : op_1 N (N + 97) (N + 131) (N + 132) (E N h A M R) (INV N t) a1 a2 a3 := by
  unfold op_1
  exact glueT (m := 3) (c := Int32.toInt64) (ex := exS) (c_unite hi hg) (fun h A R => m_unite im hg) (GoodS_two hg (Or.inr rfl)) (bd_two) (by decide) (fun e h1 h2 => by
      have : e = 1 ∨ e = 2 ∨ e = 3 := by omega
      rcases this with rfl | rfl | rfl <;> exact ⟨by decide, by decide⟩)
theorem o_2 (hi : IC N h A R S) (im : IM M S) (hg : GoodS S) : op_2 N (N + 97) (N + 131) (N + 132) (E N h A M R) (INV N t) a1 a2 a3 := by
  unfold op_2
  exact glueT (m := 3) (c := Int32.toInt64) (ex := exS) (c_concatenate hi hg) (fun h A R => m_concatenate im hg) (GoodS_two hg (Or.inl rfl)) (bd_two) (by decide) (fun e h1 h2 => by
      have : e = 1 ∨ e = 2 ∨ e = 3 := by omega
      rcases this with rfl | rfl | rfl <;> exact ⟨by decide, by decide⟩)
theorem o_3 (hi : IC N h A R S) (im : IM M S) (hg : GoodS S) : op_3 N (N + 97) (N + 131) (N + 132) (E N h A M R) (INV N t) a1 a2 a3 := by
  unfold op_3
  exact glueT (m := 3) (c := Int32.toInt64) (ex := exS) (c_repeat hi hg) (fun h A R => m_repeat im hg) (GoodS_rep hg) (bd_rep) (by decide) (fun e h1 h2 => by
      have : e = 1 ∨ e = 2 ∨ e = 3 := by omega
      rcases this with rfl | rfl | rfl <;> exact ⟨by decide, by decide⟩)
theorem o_4 (hi : IC N h A R S) (im : IM M S) (hg : GoodS S) : op_4 N (N + 97) (N + 131) (N + 132) (E N h A M R) (INV N t) a1 a2 a3 := by
  unfold op_4
  exact glueT (m := 2) (c := Int32.toInt64) (ex := exS) (c_remove hi) (fun h A R => m_remove im hg) (GoodS_remv hg) (bd_rem) (by decide) (fun e h1 h2 => by
      have : e = 1 ∨ e = 2 := by omega
      rcases this with rfl | rfl <;> exact ⟨by decide, by decide⟩)
theorem o_5 (hi : IC N h A R S) (im : IM M S) (hg : GoodS S) : op_5 N (N + 97) (N + 131) (N + 132) (E N h A M R) (INV N t) a1 a2 a3 := by
  unfold op_5
  exact glueT (m := 2) (c := Int32.toInt64) (ex := exAS) (c_addWord hi hg) (fun h A R => m_addWord im hg) (GoodS_addW hg) (bd_addW) (by decide) (fun e h1 h2 => by
      have : e = 1 ∨ e = 2 := by omega
      rcases this with rfl | rfl <;> exact ⟨by decide, by decide⟩)
theorem o_6 (hi : IC N h A R S) (im : IM M S) (hg : GoodS S) : op_6 N (N + 97) (N + 131) (N + 132) (E N h A M R) (INV N t) a1 a2 a3 := by
  unfold op_6
  exact glueT (m := 1) (c := Int32.toInt64) (ex := exS) (c_removeWord hi hg) (fun h A R => m_removeWord im hg) (GoodS_cutW hg) (bd_cutW) (by decide) (fun e h1 h2 => by
      have : e = 1 := by omega
      rw [this]
      exact ⟨by decide, by decide⟩)
theorem o_8 (hi : IC N h A R S) (im : IM M S) (hg : GoodS S) : op_8 N (N + 97) (N + 131) (N + 132) (E N h A M R) (INV N t) a1 a2 a3 := by
  unfold op_8
  exact glueT (m := 1) (c := (fun r => if r = 0 then Int64.ofNat 0 else Int64.ofNat 1)) (ex := exB) (c_hasPattern hi) (fun h A R => m_hasPattern im hg) (by cases slN a1 <;> exact hg) (by cases slN a1 <;> exact Nat.le_of_ble_eq_true rfl) (by decide) (fun e h1 h2 => by
      have : e = 1 := by omega
      rw [this]
      exact ⟨by decide, by decide⟩)
theorem o_9 (hi : IC N h A R S) (im : IM M S) (hg : GoodS S) : op_9 N (N + 97) (N + 131) (N + 132) (E N h A M R) (INV N t) a1 a2 a3 := by
  unfold op_9
  exact glueT (m := 1) (c := Int32.toInt64) (ex := exN) (c_letterCount hi) (fun h A R => m_letterCount im hg) (by cases patN S a1 <;> exact hg) (by cases patN S a1 <;> exact Nat.le_of_ble_eq_true rfl) (by decide) (fun e h1 h2 => by
      have : e = 1 := by omega
      rw [this]
      exact ⟨by decide, by decide⟩)
theorem o_10 (hi : IC N h A R S) (im : IM M S) (hg : GoodS S) : op_10 N (N + 97) (N + 131) (N + 132) (E N h A M R) (INV N t) a1 a2 a3 := by
  unfold op_10
  exact glueT (m := 1) (c := (fun r => if r = 0 then Int64.ofNat 0 else Int64.ofNat 1)) (ex := exN) (c_acceptsEmpty hi hg) (fun h A R => m_acceptsEmpty im hg) (by rw [(ro_empty (S := S) (v := a1)).2]; exact hg) ((ro_empty (S := S) (v := a1)).1) (by decide) (fun e h1 h2 => by
      have : e = 1 := by omega
      rw [this]
      exact ⟨by decide, by decide⟩)
theorem o_11 (hi : IC N h A R S) (im : IM M S) (hg : GoodS S) : op_11 N (N + 97) (N + 131) (N + 132) (E N h A M R) (INV N t) a1 a2 a3 := by
  unfold op_11
  exact glueT (m := 2) (c := (fun r => if r = 0 then Int64.ofNat 0 else Int64.ofNat 1)) (ex := exNA) (c_canBegin hi hg) (fun h A R => m_canBegin im hg) (by rw [(ro_beg (S := S) (v := a1) (c := chr a2)).2]; exact hg) ((ro_beg (S := S) (v := a1) (c := chr a2)).1) (by decide) (fun e h1 h2 => by
      have : e = 1 ∨ e = 2 := by omega
      rcases this with rfl | rfl <;> exact ⟨by decide, by decide⟩)
theorem o_12 (hi : IC N h A R S) (im : IM M S) (hg : GoodS S) : op_12 N (N + 97) (N + 131) (N + 132) (E N h A M R) (INV N t) a1 a2 a3 := by
  unfold op_12
  exact glueT (m := 2) (c := (fun r => if r = 0 then Int64.ofNat 0 else Int64.ofNat 1)) (ex := exNA) (c_canEnd hi hg) (fun h A R => m_canEnd im hg) (by rw [(ro_end (S := S) (v := a1) (c := chr a2)).2]; exact hg) ((ro_end (S := S) (v := a1) (c := chr a2)).1) (by decide) (fun e h1 h2 => by
      have : e = 1 ∨ e = 2 := by omega
      rcases this with rfl | rfl <;> exact ⟨by decide, by decide⟩)
theorem o_13 (hi : IC N h A R S) (im : IM M S) (hg : GoodS S) : op_13 N (N + 97) (N + 131) (N + 132) (E N h A M R) (INV N t) a1 a2 a3 := by
  unfold op_13
  exact glueT (m := 2) (c := (fun r => if r = 0 then Int64.ofNat 0 else Int64.ofNat 1)) (ex := exNA) (c_canBeAdjacent hi hg) (fun h A R => m_canBeAdjacent im hg) (by rw [(ro_adj (S := S) (v := a1) (c := chr a2) (d := chr a3)).2]; exact hg) ((ro_adj (S := S) (v := a1) (c := chr a2) (d := chr a3)).1) (by decide) (fun e h1 h2 => by
      have : e = 1 ∨ e = 2 := by omega
      rcases this with rfl | rfl <;> exact ⟨by decide, by decide⟩)
theorem o_14 (hi : IC N h A R S) (im : IM M S) (hg : GoodS S) : op_14 N (N + 97) (N + 131) (N + 132) (E N h A M R) (INV N t) a1 a2 a3 := by
  unfold op_14
  exact glueT (m := 2) (c := (fun r => if r = 0 then Int64.ofNat 0 else Int64.ofNat 1)) (ex := exNA) (c_matches hi hg) (fun h A R => m_matches im hg) (by rw [(ro_mat (S := S) (v := a1)).2]; exact hg) ((ro_mat (S := S) (v := a1)).1) (by decide) (fun e h1 h2 => by
      have : e = 1 ∨ e = 2 := by omega
      rcases this with rfl | rfl <;> exact ⟨by decide, by decide⟩)
theorem o_15 (hi : IC N h A R S) (im : IM M S) (hg : GoodS S) : op_15 N (N + 97) (N + 131) (N + 132) (E N h A M R) (INV N t) a1 a2 a3 := by
  unfold op_15
  exact glueT (m := 2) (c := (fun r => if r = 0 then Int64.ofNat 0 else Int64.ofNat 1)) (ex := exNA) (c_matchesBySpans hi hg) (fun h A R => m_matchesBySpans im hg) (by rw [(ro_mat (S := S) (v := a1)).2]; exact hg) ((ro_mat (S := S) (v := a1)).1) (by decide) (fun e h1 h2 => by
      have : e = 1 ∨ e = 2 := by omega
      rcases this with rfl | rfl <;> exact ⟨by decide, by decide⟩)
theorem o_16 (hi : IC N h A R S) (im : IM M S) (hg : GoodS S) : op_16 N (N + 97) (N + 131) (N + 132) (E N h A M R) (INV N t) a1 a2 a3 := by
  unfold op_16
  exact glueT (m := 2) (c := Int32.toInt64) (ex := exNA) (c_longestPrefix hi hg) (fun h A R => m_longestPrefix im hg) (by rw [(ro_pre (S := S) (v := a1)).2]; exact hg) ((ro_pre (S := S) (v := a1)).1) (by decide) (fun e h1 h2 => by
      have : e = 1 ∨ e = 2 := by omega
      rcases this with rfl | rfl <;> exact ⟨by decide, by decide⟩)
theorem o_17 (hi : IC N h A R S) (im : IM M S) (hg : GoodS S) : op_17 N (N + 97) (N + 131) (N + 132) (E N h A M R) (INV N t) a1 a2 a3 := by
  unfold op_17
  exact glueT (m := 2) (c := (fun r => if r = 0 then Int64.ofNat 0 else Int64.ofNat 1)) (ex := exNI) (c_acceptsWord hi hg) (fun h A R => m_acceptsWord im hg) (by rw [(ro_acW (S := S) (v := a1) (x := a2)).2]; exact hg) ((ro_acW (S := S) (v := a1) (x := a2)).1) (by decide) (fun e h1 h2 => by
      have : e = 1 ∨ e = 2 := by omega
      rcases this with rfl | rfl <;> exact ⟨by decide, by decide⟩)
theorem o_18 (hi : IC N h A R S) (im : IM M S) (hg : GoodS S) : op_18 N (N + 97) (N + 131) (N + 132) (E N h A M R) (INV N t) a1 a2 a3 := by
  unfold op_18
  exact glueT (m := 1) (c := Int32.toInt64) (ex := exN) (c_acceptedWords hi hg) (fun h A R => m_acceptedWords im hg) (by rw [(ro_acs (S := S) (v := a1)).2]; exact hg) ((ro_acs (S := S) (v := a1)).1) (by decide) (fun e h1 h2 => by
      have : e = 1 := by omega
      rw [this]
      exact ⟨by decide, by decide⟩)
theorem o_19 (hi : IC N h A R S) (im : IM M S) (hg : GoodS S) : op_19 N (N + 97) (N + 131) (N + 132) (E N h A M R) (INV N t) a1 a2 a3 := by
  unfold op_19
  exact glueT (m := 2) (c := Int32.toInt64) (ex := exNA) (c_countWords hi hg) (fun h A R => m_countWords im hg) (by rw [(ro_cw (S := S) (v := a1) (w := a2)).2]; exact hg) ((ro_cw (S := S) (v := a1) (w := a2)).1) (by decide) (fun e h1 h2 => by
      have : e = 1 ∨ e = 2 := by omega
      rcases this with rfl | rfl <;> exact ⟨by decide, by decide⟩)
theorem o_20 (hi : IC N h A R S) (im : IM M S) (hg : GoodS S) : op_20 N (N + 97) (N + 131) (N + 132) (E N h A M R) (INV N t) a1 a2 a3 := by
  unfold op_20
  exact glueT (m := 2) (c := Int32.toInt64) (ex := exNA) (c_countWordsL hi hg) (fun h A R => m_countWordsByListing im hg) (by rw [(ro_cw (S := S) (v := a1) (w := a2)).2]; exact hg) ((ro_cw (S := S) (v := a1) (w := a2)).1) (by decide) (fun e h1 h2 => by
      have : e = 1 ∨ e = 2 := by omega
      rcases this with rfl | rfl <;> exact ⟨by decide, by decide⟩)
theorem o_21 (hi : IC N h A R S) (im : IM M S) (hg : GoodS S) : op_21 N (N + 97) (N + 131) (N + 132) (E N h A M R) (INV N t) a1 a2 a3 := by
  unfold op_21
  exact glueT (m := 1) (c := Int32.toInt64) (ex := exN) (c_shortestLength hi hg) (fun h A R => m_shortestLength im hg) (by rw [(ro_cnt (S := S) (v := a1) (f := fun g => chz (isD (gnext g) (gab g) 128))).2]; exact hg) ((ro_cnt (S := S) (v := a1) (f := fun g => chz (isD (gnext g) (gab g) 128))).1) (by decide) (fun e h1 h2 => by
      have : e = 1 := by omega
      rw [this]
      exact ⟨by decide, by decide⟩)
theorem o_22 (hi : IC N h A R S) (im : IM M S) (hg : GoodS S) : op_22 N (N + 97) (N + 131) (N + 132) (E N h A M R) (INV N t) a1 a2 a3 := by
  unfold op_22
  exact glueT (m := 1) (c := Int32.toInt64) (ex := exN) (c_stateCount hi hg) (fun h A R => m_stateCount im hg) (by rw [(ro_cnt (S := S) (v := a1) (f := gL)).2]; exact hg) ((ro_cnt (S := S) (v := a1) (f := gL)).1) (by decide) (fun e h1 h2 => by
      have : e = 1 := by omega
      rw [this]
      exact ⟨by decide, by decide⟩)
theorem o_23 (hi : IC N h A R S) (im : IM M S) (hg : GoodS S) : op_23 N (N + 97) (N + 131) (N + 132) (E N h A M R) (INV N t) a1 a2 a3 := by
  unfold op_23
  exact glueT (m := 1) (c := Int32.toInt64) (ex := exN) (c_acceptingCount hi hg) (fun h A R => m_acceptingCount im hg) (by rw [(ro_cnt (S := S) (v := a1) (f := fun g => gCs g (gL g))).2]; exact hg) ((ro_cnt (S := S) (v := a1) (f := fun g => gCs g (gL g))).1) (by decide) (fun e h1 h2 => by
      have : e = 1 := by omega
      rw [this]
      exact ⟨by decide, by decide⟩)
theorem o_24 (hi : IC N h A R S) (im : IM M S) (hg : GoodS S) : op_24 N (N + 97) (N + 131) (N + 132) (E N h A M R) (INV N t) a1 a2 a3 := by
  unfold op_24
  exact glueT (m := 1) (c := Int32.toInt64) (ex := exN) (c_smallestCount hi hg) (fun h A R => m_smallestCount im hg) (by rw [(ro_cnt (S := S) (v := a1) (f := gMc)).2]; exact hg) ((ro_cnt (S := S) (v := a1) (f := gMc)).1) (by decide) (fun e h1 h2 => by
      have : e = 1 := by omega
      rw [this]
      exact ⟨by decide, by decide⟩)
theorem o_25 (hi : IC N h A R S) (im : IM M S) (hg : GoodS S) : op_25 N (N + 97) (N + 131) (N + 132) (E N h A M R) (INV N t) a1 a2 a3 := by
  unfold op_25
  exact glueT (m := 1) (c := Int32.toInt64) (ex := exN) (c_smallestByPairs hi hg) (fun h A R => m_smallestCountByPairs im hg) (by rw [(ro_cnt (S := S) (v := a1) (f := gMc)).2]; exact hg) ((ro_cnt (S := S) (v := a1) (f := gMc)).1) (by decide) (fun e h1 h2 => by
      have : e = 1 := by omega
      rw [this]
      exact ⟨by decide, by decide⟩)
theorem o_26 (hi : IC N h A R S) (im : IM M S) (hg : GoodS S) : op_26 N (N + 97) (N + 131) (N + 132) (E N h A M R) (INV N t) a1 a2 a3 := by
  unfold op_26
  exact glueT (m := 1) (c := (fun r => if r = 0 then Int64.ofNat 0 else Int64.ofNat 1)) (ex := exN) (c_isFinite hi hg) (fun h A R => m_isFinite im hg) (by rw [(ro_cnt (S := S) (v := a1) (f := fun g => pv (¬ infG g))).2]; exact hg) ((ro_cnt (S := S) (v := a1) (f := fun g => pv (¬ infG g))).1) (by decide) (fun e h1 h2 => by
      have : e = 1 := by omega
      rw [this]
      exact ⟨by decide, by decide⟩)
theorem o_27 (hi : IC N h A R S) (im : IM M S) (hg : GoodS S) : op_27 N (N + 97) (N + 131) (N + 132) (E N h A M R) (INV N t) a1 a2 a3 := by
  unfold op_27
  exact glueT (m := 1) (c := (fun r => if r = 0 then Int64.ofNat 0 else Int64.ofNat 1)) (ex := exN) (c_isUniversal hi hg) (fun h A R => m_isUniversal im hg) (by rw [(ro_cnt (S := S) (v := a1) (f := fun g => b2 (decide (gCs g (gL g) = gL g)))).2]; exact hg) ((ro_cnt (S := S) (v := a1) (f := fun g => b2 (decide (gCs g (gL g) = gL g)))).1) (by decide) (fun e h1 h2 => by
      have : e = 1 := by omega
      rw [this]
      exact ⟨by decide, by decide⟩)
theorem o_28 (hi : IC N h A R S) (im : IM M S) (hg : GoodS S) : op_28 N (N + 97) (N + 131) (N + 132) (E N h A M R) (INV N t) a1 a2 a3 := by
  unfold op_28
  exact glueT (m := 1) (c := (fun r => if r = 0 then Int64.ofNat 0 else Int64.ofNat 1)) (ex := exN) (c_areEquivalent hi hg) (fun h A R => m_areEquivalent im hg) (by rw [(ro_twoP (S := S) (v := a1) (w := a2) (f := fun g g' => pv (noD false g g'))).2]; exact hg) ((ro_twoP (S := S) (v := a1) (w := a2) (f := fun g g' => pv (noD false g g'))).1) (by decide) (fun e h1 h2 => by
      have : e = 1 := by omega
      rw [this]
      exact ⟨by decide, by decide⟩)
theorem o_29 (hi : IC N h A R S) (im : IM M S) (hg : GoodS S) : op_29 N (N + 97) (N + 131) (N + 132) (E N h A M R) (INV N t) a1 a2 a3 := by
  unfold op_29
  exact glueT (m := 1) (c := (fun r => if r = 0 then Int64.ofNat 0 else Int64.ofNat 1)) (ex := exN) (c_areEquivalentBySmallest hi hg) (fun h A R => m_areEquivS im hg) (by rw [(ro_twoP (S := S) (v := a1) (w := a2) (f := fun g g' => pv (noD false g g'))).2]; exact hg) ((ro_twoP (S := S) (v := a1) (w := a2) (f := fun g g' => pv (noD false g g'))).1) (by decide) (fun e h1 h2 => by
      have : e = 1 := by omega
      rw [this]
      exact ⟨by decide, by decide⟩)
theorem o_30 (hi : IC N h A R S) (im : IM M S) (hg : GoodS S) : op_30 N (N + 97) (N + 131) (N + 132) (E N h A M R) (INV N t) a1 a2 a3 := by
  unfold op_30
  exact glueT (m := 1) (c := (fun r => if r = 0 then Int64.ofNat 0 else Int64.ofNat 1)) (ex := exN) (c_isIncluded hi hg) (fun h A R => m_isIncluded im hg) (by rw [(ro_twoP (S := S) (v := a1) (w := a2) (f := fun g g' => pv (noD true g g'))).2]; exact hg) ((ro_twoP (S := S) (v := a1) (w := a2) (f := fun g g' => pv (noD true g g'))).1) (by decide) (fun e h1 h2 => by
      have : e = 1 := by omega
      rw [this]
      exact ⟨by decide, by decide⟩)
theorem o_31 (hi : IC N h A R S) (im : IM M S) (hg : GoodS S) : op_31 N (N + 97) (N + 131) (N + 132) (E N h A M R) (INV N t) a1 a2 a3 := by
  unfold op_31
  exact glueT (m := 1) (c := Int32.toInt64) (ex := exN) (c_differenceLength hi hg) (fun h A R => m_differenceLength im hg) (by rw [(ro_twoP (S := S) (v := a1) (w := a2) (f := dLen)).2]; exact hg) ((ro_twoP (S := S) (v := a1) (w := a2) (f := dLen)).1) (by decide) (fun e h1 h2 => by
      have : e = 1 := by omega
      rw [this]
      exact ⟨by decide, by decide⟩)
theorem o_32 (hi : IC N h A R S) (im : IM M S) (hg : GoodS S) : op_32 N (N + 97) (N + 131) (N + 132) (E N h A M R) (INV N t) a1 a2 a3 := by
  unfold op_32
  exact glueT (m := 1) (c := Int32.toInt64) (ex := exN) (c_slotByStates hi hg) (fun h A R => m_slotByStates im hg) (by rw [(ro_slot (S := S) (v := a1)).2]; exact hg) ((ro_slot (S := S) (v := a1)).1) (by decide) (fun e h1 h2 => by
      have : e = 1 := by omega
      rw [this]
      exact ⟨by decide, by decide⟩)
theorem o_34 (hi : IC N h A R S) (im : IM M S) (hg : GoodS S) : op_34 N (N + 97) (N + 131) (N + 132) (E N h A M R) (INV N t) a1 a2 a3 := by
  unfold op_34
  exact glueT (m := 1) (c := Int32.toInt64) (ex := exB) (c_wordLength hi hg) (fun h A R => m_wordLength im hg) (by cases ixN a1 (lW (sCur S)).length <;> exact hg) (by cases ixN a1 (lW (sCur S)).length <;> exact Nat.le_of_ble_eq_true rfl) (by decide) (fun e h1 h2 => by
      have : e = 1 := by omega
      rw [this]
      exact ⟨by decide, by decide⟩)
theorem o_35 (hi : IC N h A R S) (im : IM M S) (hg : GoodS S) : op_35 N (N + 97) (N + 131) (N + 132) (E N h A M R) (INV N t) a1 a2 a3 := by
  unfold op_35
  exact glueT (m := 1) (c := Int32.toInt64) (ex := exB) (c_wordLetter hi hg) (fun h A R => m_wordLetter im hg) (by rw [(ro_wLet (S := S) (v := a1) (w := a2)).2]; exact hg) ((ro_wLet (S := S) (v := a1) (w := a2)).1) (by decide) (fun e h1 h2 => by
      have : e = 1 := by omega
      rw [this]
      exact ⟨by decide, by decide⟩)
theorem o_40 (hi : IC N h A R S) (im : IM M S) (hg : GoodS S) : op_40 N (N + 97) (N + 131) (N + 132) (E N h A M R) (INV N t) a1 a2 a3 := by
  unfold op_40
  exact glueT (m := 1) (c := Int32.toInt64) (ex := exN) (c_formatPattern hi hg) (fun h A R => m_formatPattern im hg) (GoodS_fmtP hg) (bd_fmtP) (by decide) (fun e h1 h2 => by
      have : e = 1 := by omega
      rw [this]
      exact ⟨by decide, by decide⟩)
theorem o_41 (hi : IC N h A R S) (im : IM M S) (hg : GoodS S) : op_41 N (N + 97) (N + 131) (N + 132) (E N h A M R) (INV N t) a1 a2 a3 := by
  unfold op_41
  exact glueT (m := 1) (c := Int32.toInt64) (ex := exN) (c_formatShortest hi hg) (fun h A R => m_formatShortest im hg) (GoodS_fmt hg) (bd_fmt) (by decide) (fun e h1 h2 => by
      have : e = 1 := by omega
      rw [this]
      exact ⟨by decide, by decide⟩)
theorem o_42 (hi : IC N h A R S) (im : IM M S) (hg : GoodS S) (H : H120) : op_42 N (N + 97) (N + 131) (N + 132) (E N h A M R) (INV N t) a1 a2 a3 := by
  unfold op_42
  exact glueT (m := 1) (c := Int32.toInt64) (ex := exN) (c_formatDifference hi hg (h120_S H hg)) (fun h A R => m_formatDifference im hg (h120_S H hg)) (GoodS_fmtD hg (h120_S H hg)) (bd_fmtD) (by decide) (fun e h1 h2 => by
      have : e = 1 := by omega
      rw [this]
      exact ⟨by decide, by decide⟩)
theorem o_43 (hi : IC N h A R S) (im : IM M S) (hg : GoodS S) : op_43 N (N + 97) (N + 131) (N + 132) (E N h A M R) (INV N t) a1 a2 a3 := by
  unfold op_43
  exact glueT (m := 1) (c := Int32.toInt64) (ex := exB) (c_lineChar hi hg) (fun h A R => m_lineChar im hg) (by rw [(ro_line (S := S) (v := a1)).2]; exact hg) ((ro_line (S := S) (v := a1)).1) (by decide) (fun e h1 h2 => by
      have : e = 1 := by omega
      rw [this]
      exact ⟨by decide, by decide⟩)
theorem o_44 (hi : IC N h A R S) (im : IM M S) (hg : GoodS S) : op_44 N (N + 97) (N + 131) (N + 132) (E N h A M R) (INV N t) a1 a2 a3 := by
  unfold op_44
  exact glueT (m := 2) (c := Int32.toInt64) (ex := exAS) (c_append hi hg) (fun h A R => m_append im hg) (GoodS_app hg) (bd_app) (by decide) (fun e h1 h2 => by
      have : e = 1 ∨ e = 2 := by omega
      rcases this with rfl | rfl <;> exact ⟨by decide, by decide⟩)
theorem o_46 (hi : IC N h A R S) (im : IM M S) (hg : GoodS S) : op_46 N (N + 97) (N + 131) (N + 132) (E N h A M R) (INV N t) a1 a2 a3 := by
  unfold op_46
  exact glueT (m := 2) (c := Int32.toInt64) (ex := exR) (c_run hi hg) (fun h A R => m_run im hg) (GoodS_run hg) (bd_run) (by decide) (fun e h1 h2 => by
      have : e = 1 ∨ e = 2 := by omega
      rcases this with rfl | rfl <;> exact ⟨by decide, by decide⟩)
theorem o_47 (hi : IC N h A R S) (im : IM M S) (hg : GoodS S) : op_47 N (N + 97) (N + 131) (N + 132) (E N h A M R) (INV N t) a1 a2 a3 := by
  unfold op_47
  exact glueT (m := 1) (c := Int32.toInt64) (ex := exN) (c_errorPosition hi hg) (fun h A R => m_errorPosition im hg) (by cases sErr S <;> exact hg) (by cases sErr S <;> exact Nat.le_of_ble_eq_true rfl) (by decide) (fun e h1 h2 => by
      have : e = 1 := by omega
      rw [this]
      exact ⟨by decide, by decide⟩)
theorem o_48 (hi : IC N h A R S) (im : IM M S) (hg : GoodS S) : op_48 N (N + 97) (N + 131) (N + 132) (E N h A M R) (INV N t) a1 a2 a3 := by
  unfold op_48
  exact glueT (m := 1) (c := Int32.toInt64) (ex := exN) (c_failedCommand hi hg) (fun h A R => m_failedCommand im hg) (by cases sFail S <;> exact hg) (by cases sFail S <;> exact Nat.le_of_ble_eq_true rfl) (by decide) (fun e h1 h2 => by
      have : e = 1 := by omega
      rw [this]
      exact ⟨by decide, by decide⟩)
theorem o_50 (hi : IC N h A R S) (im : IM M S) (hg : GoodS S) : op_50 N (N + 97) (N + 131) (N + 132) (E N h A M R) (INV N t) a1 a2 a3 := by
  unfold op_50
  exact glueT (m := 1) (c := Int32.toInt64) (ex := exI) (c_undo hi) (fun h A R => m_undo im hg) (GoodS_undo hg) (bd_undo) (by decide) (fun e h1 h2 => by
      have : e = 1 := by omega
      rw [this]
      exact ⟨by decide, by decide⟩)
theorem o_52 (hi : IC N h A R S) (im : IM M S) (hg : GoodS S) : op_52 N (N + 97) (N + 131) (N + 132) (E N h A M R) (INV N t) a1 a2 a3 := by
  unfold op_52
  exact glueT (m := 1) (c := Int32.toInt64) (ex := exI) (c_restore hi) (fun h A R => m_restore im hg) (GoodS_rest hg) (bd_rest) (by decide) (fun e h1 h2 => by
      have : e = 1 := by omega
      rw [this]
      exact ⟨by decide, by decide⟩)
theorem o_7 (hi : IC N h A R S) (im : IM M S) (hg : GoodS S) : op_7 N (N + 97) (N + 131) (N + 132) (E N h A M R) (INV N t) a1 a2 a3 := by
  unfold op_7
  exact glueN (c_patternCount hi) hi (fun h A R => m_patternCount im hg) hg
theorem o_33 (hi : IC N h A R S) (im : IM M S) (hg : GoodS S) : op_33 N (N + 97) (N + 131) (N + 132) (E N h A M R) (INV N t) a1 a2 a3 := by
  unfold op_33
  exact glueN (c_wordCount hi) hi (fun h A R => m_wordCount im) hg
theorem o_36 (hi : IC N h A R S) (im : IM M S) (hg : GoodS S) : op_36 N (N + 97) (N + 131) (N + 132) (E N h A M R) (INV N t) a1 a2 a3 := by
  unfold op_36
  exact glueN (c_definedTotal hi) hi (fun h A R => m_definedTotal im) hg
theorem o_39 (hi : IC N h A R S) (im : IM M S) (hg : GoodS S) : op_39 N (N + 97) (N + 131) (N + 132) (E N h A M R) (INV N t) a1 a2 a3 := by
  unfold op_39
  obtain ⟨A', e, ic⟩ := c_isConsistent (M := M) hi hg
  exact glueN e ic (fun h A R => m_isConsistent im hg) hg
theorem o_45 (hi : IC N h A R S) (im : IM M S) (hg : GoodS S) : op_45 N (N + 97) (N + 131) (N + 132) (E N h A M R) (INV N t) a1 a2 a3 := by
  unfold op_45
  obtain ⟨A', e, ic⟩ := c_clearBuffer (M := M) hi hg
  exact glueN e ic (fun h A R => m_clearBuffer im) (GoodS_text hg)
theorem o_49 (hi : IC N h A R S) (im : IM M S) (hg : GoodS S) : op_49 N (N + 97) (N + 131) (N + 132) (E N h A M R) (INV N t) a1 a2 a3 := by
  unfold op_49
  exact glueN (c_undoable hi) hi (fun h A R => m_undoableCount im) hg
theorem o_51 (hi : IC N h A R S) (im : IM M S) (hg : GoodS S) : op_51 N (N + 97) (N + 131) (N + 132) (E N h A M R) (INV N t) a1 a2 a3 := by
  unfold op_51
  obtain ⟨A', R', e, ic⟩ := c_save (M := M) hi
  exact glueN e ic (fun h A R => m_save im hg) (GoodS_save hg)
end OPS
