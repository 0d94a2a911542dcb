/-! the first telling word: at most as many letters as there are states on both sides, less one -/
section BDA
variable {g g' : Glu}
noncomputable def uS (g g' : Glu) (i c : Nat) : Nat := if i < gL g then gS g i c else gL g + gS g' (i - gL g) c
noncomputable def uA (g g' : Glu) (i : Nat) : Bool := if i < gL g then gA g i else gA g' (i - gL g)
theorem rn_uS1 (ok : GluOK g) : ∀ (w : List Nat), le3 w → ∀ i, i < gL g → rn (uS g g') i w = rn (gS g) i w ∧ rn (gS g) i w < gL g := fun w => by
  induction w with
  | nil => exact fun _ i hi => ⟨by rw [rn_nil, rn_nil], by rw [rn_nil]; exact hi⟩
  | cons c w ih =>
    intro hw i hi
    obtain ⟨s1, -⟩ := gS_ok ok hi (hw c List.mem_cons_self)
    obtain ⟨a, b⟩ := ih (fun d hd => hw d (List.mem_cons_of_mem _ hd)) (gS g i c) s1
    have e : uS g g' i c = gS g i c := if_pos hi
    rw [rn_cn, rn_cn, e]
    exact ⟨a, b⟩
theorem rn_uS2 (ok' : GluOK g') : ∀ (w : List Nat), le3 w → ∀ i, i < gL g' → rn (uS g g') (gL g + i) w = gL g + rn (gS g') i w ∧ rn (gS g') i w < gL g' := fun w => by
  induction w with
  | nil => exact fun _ i hi => ⟨by rw [rn_nil, rn_nil], by rw [rn_nil]; exact hi⟩
  | cons c w ih =>
    intro hw i hi
    obtain ⟨s1, -⟩ := gS_ok ok' hi (hw c List.mem_cons_self)
    obtain ⟨a, b⟩ := ih (fun d hd => hw d (List.mem_cons_of_mem _ hd)) (gS g' i c) s1
    have e : uS g g' (gL g + i) c = gL g + gS g' i c := by
      unfold uS
      rw [if_neg (by omega), Nat.add_sub_cancel_left]
    rw [rn_cn, rn_cn, e]
    exact ⟨a, b⟩
theorem uA_1 (ok : GluOK g) {w : List Nat} (hw : le3 w) : uA g g' (rn (uS g g') 0 w) = accW g w := by
  obtain ⟨a, b⟩ := rn_uS1 (g' := g') ok w hw 0 (gL_pos g)
  rw [a]
  unfold uA
  rw [if_pos b]
  unfold gA accW grn
  rw [← (rnS ok w hw 0 (gL_pos g)).2, gO_0]
theorem uA_2 (ok' : GluOK g') {w : List Nat} (hw : le3 w) : uA g g' (rn (uS g g') (gL g) w) = accW g' w := by
  obtain ⟨a, b⟩ := rn_uS2 (g := g) ok' w hw 0 (gL_pos g')
  rw [Nat.add_zero] at a
  rw [a]
  unfold uA
  rw [if_neg (by omega), Nat.add_sub_cancel_left]
  unfold gA accW grn
  rw [← (rnS ok' w hw 0 (gL_pos g')).2, gO_0]
theorem rn_nx2 : ∀ (w : List Nat) (a b : Nat), rn (nx2 g g') (a, b) w = (rn (gnext g) a w, rn (gnext g') b w) := fun w => by
  induction w with
  | nil => exact fun a b => rfl
  | cons c w ih =>
    intro a b
    rw [rn_cn, rn_cn, rn_cn]
    exact ih _ _
theorem T2_acc {w : List Nat} : T2 false g g' (rn (nx2 g g') (128, 128) w) = true ↔ accW g w ≠ accW g' w := by
  rw [rn_nx2]
  unfold T2 accW grn
  cases gab g (rn (gnext g) 128 w) <;> cases gab g' (rn (gnext g') 128 w) <;> (unfold tdf; decide)
/-- the first telling word and its length, in words -/
theorem isD_acc {k : Nat} (hd : isD (nx2 g g') (T2 false g g') (128, 128) k) : (∃ w, le3 w ∧ w.length = k ∧ accW g w ≠ accW g' w) ∧ ∀ w, le3 w → w.length < k → accW g w = accW g' w := by
  obtain ⟨h1, h2⟩ := hd
  obtain ⟨w, w1, w2, w3⟩ := ek_w.mp h1
  refine ⟨⟨w, w1, w2, T2_acc.mp w3⟩, fun v hv hl => ?_⟩
  have := h2 v.length hl
  exact Decidable.byContradiction fun z => by
    have : ek (nx2 g g') (T2 false g g') v.length (128, 128) = true := ek_w.mpr ⟨v, hv, rfl, T2_acc.mpr z⟩
    rw [h2 v.length hl] at this
    cases this
theorem bd_moore (ok : GluOK g) (ok' : GluOK g') {k : Nat} (hd : isD (nx2 g g') (T2 false g g') (128, 128) k) : k + 1 ≤ gL g + gL g' := by
  obtain ⟨⟨w, w1, w2, w3⟩, hlt⟩ := isD_acc hd
  have p1 := gL_pos g
  have p2 := gL_pos g'
  cases k with
  | zero => omega
  | succ k =>
    have hs : ∀ i c, i < gL g + gL g' → c < 3 → uS g g' i c < gL g + gL g' := fun i c hi hc => by
      unfold uS
      by_cases q : i < gL g
      · rw [if_pos q]
        have := (gS_ok ok q hc).1
        omega
      · rw [if_neg q]
        have := (gS_ok ok' (show i - gL g < gL g' by omega) hc).1
        omega
    have t1 : mr (uS g g') (uA g g') k 0 (gL g) = true := mr_w.mpr fun v hv hl => by
      rw [uA_1 ok hv, uA_2 ok' hv]
      exact hlt v hv (by omega)
    have t2 : ¬ mr (uS g g') (uA g g') (k + 1) 0 (gL g) = true := fun z => by
      have := mr_w.mp z w w1 (by omega)
      rw [uA_1 ok w1, uA_2 ok' w1] at this
      exact w3 this
    have t3 : ¬ mc (uS g g') (uA g g') (gL g + gL g') (k + 1) ≤ mc (uS g g') (uA g g') (gL g + gL g') k := fun z => t2 (mc_same z 0 (gL g) (by omega) (by omega) t1)
    have t4 := (mc_key (s := uS g g') (ac := uA g g') (L := gL g + gL g') (by omega) hs k).resolve_right t3
    have t5 : mc (uS g g') (uA g g') (gL g + gL g') (k + 1) ≤ gL g + gL g' := csn_le _ _
    omega
end BDA
