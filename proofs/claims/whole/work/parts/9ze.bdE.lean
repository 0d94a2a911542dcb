/-! the bound: all cases but that of one letter -/
theorem gL_two {p : List Nat} (hw : WF p) (h7 : nLet p ≤ 7) {c d : Nat} (hc : c ∈ p) (c4 : c < 4) (hd : d ∈ p) (d4 : d < 4) (hne : c ≠ d) : gL (gluOf p) ≤ 60 := by
  have ok := glu_ok hw h7
  have di : DI (grun g0 p) := DI_run p g0 (fun x hx => (WF_mem hw x hx).1) (fun c k h => by
    have h : (0 : Nat).testBit k = true := h
    rw [Nat.zero_testBit] at h
    cases h)
  obtain ⟨ol, eol⟩ : ∃ ol, ol = (gluOf p).2.2.2.2 := ⟨_, rfl⟩
  have eol2 : ol = (grun g0 p).2.2.1 := eol
  have di : ∀ c k, (ol c).testBit k = true → c < 3 ∧ ∀ c', c' ≠ c → (ol c').testBit k = false := fun c k h => by
    rw [eol2] at h ⊢
    exact (di c k h).2
  have l128 : ∀ i, ol i < 128 := fun i => by rw [eol]; exact ok.2.2.2.2 i
  have dis : ∀ i j, i ≠ j → ol i &&& ol j = 0 := fun i j hij => Nat.eq_of_testBit_eq fun k => by
    rw [Nat.zero_testBit]
    cases z : (ol i &&& ol j).testBit k with
    | false => rfl
    | true =>
      obtain ⟨z1, z2⟩ := and_b.mp z
      rw [(di i k z1).2 j (fun e => hij e.symm)] at z2
      cases z2
  have s01 := ct_or _ (l128 0) _ (l128 1) (dis 0 1 (by decide))
  have s012 := ct_or (ol 0 ||| ol 1) (or128 (l128 0) (l128 1)) _ (l128 2) (Nat.eq_of_testBit_eq fun k => by
    rw [Nat.zero_testBit]
    cases z : ((ol 0 ||| ol 1) &&& ol 2).testBit k with
    | false => rfl
    | true =>
      obtain ⟨z1, z2⟩ := and_b.mp z
      rcases or_b.mp z1 with y | y
      · rw [(di 0 k y).2 2 (by decide)] at z2; cases z2
      · rw [(di 1 k y).2 2 (by decide)] at z2; cases z2)
  have sum7 : ct (ol 0) + ct (ol 1) + ct (ol 2) ≤ 7 := by
    have := ct_7 (ol 0 ||| ol 1 ||| ol 2)
    omega
  have pos : ∀ e, e ∈ p → e < 4 → 1 ≤ ct (ol (e - 1)) := fun e he h4 => by
    obtain ⟨k, hk⟩ := ol_has h4 p g0 he
    rw [← eol2] at hk
    refine Nat.pos_of_ne_zero fun z => ?_
    rw [ct_0 (l128 _) z, Nat.zero_testBit] at hk
    cases hk
  have pc := pos c hc c4
  have pd := pos d hd d4
  have c1 := (WF_mem hw c hc).1
  have d1 := (WF_mem hw d hd).1
  rw [eol] at sum7 pc pd
  -- each letter has at most six positions
  have le6 : ct ((gluOf p).2.2.2.2 0) ≤ 6 ∧ ct ((gluOf p).2.2.2.2 1) ≤ 6 ∧ ct ((gluOf p).2.2.2.2 2) ≤ 6 := by
    have hh : ∀ i j, i < 3 → j < 3 → i ≠ j → 1 ≤ ct ((gluOf p).2.2.2.2 i) → 1 ≤ ct ((gluOf p).2.2.2.2 j) → ct ((gluOf p).2.2.2.2 0) ≤ 6 ∧ ct ((gluOf p).2.2.2.2 1) ≤ 6 ∧ ct ((gluOf p).2.2.2.2 2) ≤ 6 := by
      intro i j hi hj hij a b
      have hcc : i = 0 ∨ i = 1 ∨ i = 2 := by omega
      have hdd : j = 0 ∨ j = 1 ∨ j = 2 := by omega
      rcases hcc with rfl | rfl | rfl <;> rcases hdd with rfl | rfl | rfl <;> first | exact absurd rfl hij | (refine ⟨?_, ?_, ?_⟩ <;> omega)
    exact hh (c - 1) (d - 1) (by omega) (by omega) (by omega) pc pd
  by_cases a0 : ct ((gluOf p).2.2.2.2 0) = 6
  · exact gL_6 ok (c := 0) (c1 := 1) (c2 := 2) (fun d hd => by omega) (by decide) a0 (by omega)
  by_cases a1 : ct ((gluOf p).2.2.2.2 1) = 6
  · exact gL_6 ok (c := 1) (c1 := 0) (c2 := 2) (fun d hd => by omega) (by decide) a1 (by omega)
  by_cases a2 : ct ((gluOf p).2.2.2.2 2) = 6
  · exact gL_6 ok (c := 2) (c1 := 0) (c2 := 1) (fun d hd => by omega) (by decide) a2 (by omega)
  exact gL_5 ok (by omega) (by omega) (by omega) sum7
/-- the bound for patterns of one letter -/
def HU : Prop := ∀ (p p' : List Nat) (c : Nat), WF p → WF p' → nLet p ≤ 7 → nLet p' ≤ 7 → (∀ d ∈ p, d < 4 → d = c) → (∀ d ∈ p', d < 4 → d = c) → ∀ k, isD (nx2 (gluOf p) (gluOf p')) (T2 false (gluOf p) (gluOf p')) (128, 128) k → k ≤ 120
theorem GoodP_7 {p : List Nat} (h : GoodP p) (hp : p ≠ []) : nLet p ≤ 7 := by
  rcases h with q | ⟨-, q⟩
  · exact absurd q hp
  · exact Nat.not_lt.mp (fun z => q (Or.inl z))
theorem let_ex {p : List Nat} (hw : WF p) : ∃ c ∈ p, c < 4 :=
  WF_ind (P := fun p => ∃ c ∈ p, c < 4) (fun c _ h3 => ⟨c, List.mem_singleton.mpr rfl, by omega⟩) (fun x s _ ih _ _ => by
    obtain ⟨c, hc, h4⟩ := ih
    exact ⟨c, List.mem_append_left _ hc, h4⟩) (fun x y b _ ih _ _ _ => by
    obtain ⟨c, hc, h4⟩ := ih
    exact ⟨c, List.mem_append_left _ (List.mem_append_left _ hc), h4⟩) hw
theorem h120_of (H : HU) : H120 := by
  intro p p' hg hg' hp hp' k hd
  have hw := GoodP_wf hg hp
  have hw' := GoodP_wf hg' hp'
  have h7 := GoodP_7 hg hp
  have h7' := GoodP_7 hg' hp'
  obtain ⟨-, hlt⟩ := isD_acc hd
  by_cases q1 : ∃ c, c ∈ p ∧ c < 4 ∧ c ∉ p'
  · obtain ⟨c, a, b, e⟩ := q1
    obtain ⟨w, w1, w2, w3⟩ := bd_let hw hw' h7 h7' a b e
    refine Decidable.byContradiction fun z => w3 (hlt w w1 (by omega))
  by_cases q2 : ∃ c, c ∈ p' ∧ c < 4 ∧ c ∉ p
  · obtain ⟨c, a, b, e⟩ := q2
    obtain ⟨w, w1, w2, w3⟩ := bd_let hw' hw h7' h7 a b e
    refine Decidable.byContradiction fun z => w3 (hlt w w1 (by omega)).symm
  obtain ⟨c, hc, c4⟩ := let_ex hw
  by_cases q3 : ∃ d, d ∈ p ∧ d < 4 ∧ d ≠ c
  · obtain ⟨d, hd', d4, hne⟩ := q3
    have l1 := gL_two hw h7 hc c4 hd' d4 (fun e => hne e.symm)
    have hc' : c ∈ p' := Decidable.byContradiction fun z => q1 ⟨c, hc, c4, z⟩
    have hdd : d ∈ p' := Decidable.byContradiction fun z => q1 ⟨d, hd', d4, z⟩
    have l2 := gL_two hw' h7' hc' c4 hdd d4 (fun e => hne e.symm)
    have := bd_moore (glu_ok hw h7) (glu_ok hw' h7') hd
    omega
  · refine H p p' c hw hw' h7 h7' (fun d hd' d4 => Decidable.byContradiction fun z => q3 ⟨d, hd', d4, z⟩) (fun d hd' d4 => ?_) k hd
    have : d ∈ p := Decidable.byContradiction fun z => q2 ⟨d, hd', d4, z⟩
    exact Decidable.byContradiction fun z => q3 ⟨d, this, d4, z⟩
