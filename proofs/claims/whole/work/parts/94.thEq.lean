/-! two patterns with the same words have the same smallest automaton, and the other way round -/
theorem rn_cn {α : Type} (nx : α → Nat → α) (q : α) (c : Nat) (w : List Nat) : rn nx q (c :: w) = rn nx (nx q c) w := rfl
section THEQ
variable {g g' : Glu}
def accW (g : Glu) (w : List Nat) : Bool := gab g (grn g w)
/-- the same words may follow -/
def simW (g : Glu) (u v : List Nat) : Prop := ∀ w, le3 w → accW g (u ++ w) = accW g (v ++ w)
theorem simW_rf (g : Glu) (u : List Nat) : simW g u u := fun _ _ => rfl
theorem simW_sy {u v : List Nat} (h : simW g u v) : simW g v u := fun w hw => (h w hw).symm
theorem simW_tr {u v x : List Nat} (h : simW g u v) (h' : simW g v x) : simW g u x := fun w hw => (h w hw).trans (h' w hw)
theorem accW_app (g : Glu) (u w : List Nat) : accW g (u ++ w) = gab g (rn (gnext g) (grn g u) w) := by
  unfold accW grn
  rw [rn_app]
theorem noD_acc (h : noD false g g') {w : List Nat} (hw : le3 w) : accW g w = accW g' w := by
  have h1 := h w.length
  have h2 : T2 false g g' (rn (nx2 g g') (128, 128) w) = false := by
    cases z : T2 false g g' (rn (nx2 g g') (128, 128) w) with
    | false => rfl
    | true =>
      rw [ek_w.mpr ⟨w, hw, rfl, z⟩] at h1
      cases h1
  have h3 : ∀ (w : List Nat) (a b : Nat), rn (nx2 g g') (a, b) w = (rn (gnext g) a w, rn (gnext g') b w) := fun w => by
    induction w with
    | nil => exact fun _ _ => rfl
    | cons c w ih => exact fun a b => ih (gnext g a c) (gnext g' b c)
  rw [h3, T2_e] at h2
  unfold accW grn
  revert h2
  cases gab g (rn (gnext g) 128 w) <;> cases gab g' (rn (gnext g') 128 w) <;> (unfold tdf; decide)
theorem acc_noD (h : ∀ w, le3 w → accW g w = accW g' w) : noD false g g' := fun k => by
  have h3 : ∀ (w : List Nat) (a b : Nat), rn (nx2 g g') (a, b) w = (rn (gnext g) a w, rn (gnext g') b w) := fun w => by
    induction w with
    | nil => exact fun _ _ => rfl
    | cons c w ih => exact fun a b => ih (gnext g a c) (gnext g' b c)
  cases z : ek (nx2 g g') (T2 false g g') k (128, 128) with
  | false => rfl
  | true =>
    obtain ⟨w, w1, -, w3⟩ := ek_w.mp z
    have h4 := h w w1
    unfold accW grn at h4
    rw [h3, T2_e, h4] at w3
    revert w3
    cases gab g' (rn (gnext g') 128 w) <;> (unfold tdf; decide)
theorem rnS (ok : GluOK g) : ∀ (w : List Nat), le3 w → ∀ j, j < gL g → rn (gS g) j w < gL g ∧ rn (gnext g) (gO g j) w = gO g (rn (gS g) j w) := fun w => by
  induction w with
  | nil => exact fun _ j hj => ⟨by rw [rn_nil]; exact hj, by rw [rn_nil, rn_nil]⟩
  | cons c w ih =>
    intro hw j hj
    obtain ⟨s1, s2⟩ := gS_ok ok hj (hw c List.mem_cons_self)
    obtain ⟨h1, h2⟩ := ih (fun d hd => hw d (List.mem_cons_of_mem _ hd)) (gS g j c) s1
    rw [s2] at h2
    rw [rn_cn, rn_cn]
    exact ⟨h1, h2⟩
/-- the state of a number -/
theorem st_num (ok : GluOK g) (m : Nat) : ∃ j, j < gL g ∧ grn g (wd m) = gO g j ∧ bN (gB g).2.1 j ≤ m := by
  have hL := gL_le ok
  obtain ⟨j, h1, h2, h3⟩ := bN_all (gB_Bf g) (show 3 * (gB g).2.2 ≤ 387 by have : (gB g).2.2 = gL g := rfl; omega) m
  exact ⟨j, h1, h2.symm, h3⟩
theorem st_bN (j : Nat) (hj : j < gL g) : grn g (wd (bN (gB g).2.1 j)) = gO g j := bN_sg (gB_Bf g) j hj
theorem gR_iff (ok : GluOK g) {i j : Nat} (hi : i < gL g) (hj : j < gL g) : gR g i j = true ↔ ∀ w, le3 w → gab g (rn (gnext g) (gO g i) w) = gab g (rn (gnext g) (gO g j) w) := by
  have hL := gL_le ok
  have key : ∀ w, le3 w → (gA g (rn (gS g) i w) = gA g (rn (gS g) j w) ↔ gab g (rn (gnext g) (gO g i) w) = gab g (rn (gnext g) (gO g j) w)) := fun w hw => by
    rw [gA_e, gA_e, (rnS ok w hw i hi).2, (rnS ok w hw j hj).2]
  constructor
  · intro h w hw
    exact (key w hw).mp (mr_far (gL_pos g) (by omega) (gS_lt ok) hi hj h w hw)
  · intro h
    exact mr_w.mpr (fun w hw _ => (key w hw).mpr (h w hw))
theorem gR_sim (ok : GluOK g) {u v : List Nat} {i j : Nat} (hi : i < gL g) (hj : j < gL g) (hu : grn g u = gO g i) (hv : grn g v = gO g j) : gR g i j = true ↔ simW g u v := by
  rw [gR_iff ok hi hj]
  unfold simW
  constructor
  · intro h w hw
    rw [accW_app, accW_app, hu, hv]
    exact h w hw
  · intro h w hw
    have := h w hw
    rw [accW_app, accW_app, hu, hv] at this
    exact this
def FN (g : Glu) (n : Nat) : Prop := ∀ m, m < n → ¬ simW g (wd m) (wd n)
noncomputable def fnB (g : Glu) (n : Nat) : Bool := @decide (FN g n) (Classical.propDecidable _)
theorem fnB_iff {n : Nat} : fnB g n = true ↔ FN g n := by
  unfold fnB
  exact @decide_eq_true_iff (FN g n) (Classical.propDecidable _)
theorem gH_FN (ok : GluOK g) {j : Nat} (hj : j < gL g) : gH g j = true ↔ FN g (bN (gB g).2.1 j) := by
  have e : gH g j = true ↔ ∀ b, b < j → gR g b j = false := hd_no
  rw [e]
  constructor
  · intro h m hm hs
    obtain ⟨i, i1, i2, i3⟩ := st_num ok m
    have hij : i < j := by
      rcases Nat.lt_or_ge i j with z | z
      · exact z
      · have := bN_le (gB_Bf g) (i := j) (j := i) i1 z
        omega
    have := (gR_sim ok i1 hj i2 (st_bN j hj)).mpr hs
    rw [h i hij] at this
    cases this
  · intro h b hb
    cases z : gR g b j with
    | false => rfl
    | true =>
      have hb' : b < gL g := by omega
      exact absurd ((gR_sim ok hb' hj (st_bN b hb') (st_bN j hj)).mp z) (h _ (bN_mono (gB_Bf g) j hj b hb))
theorem FN_bN (ok : GluOK g) {m : Nat} (h : FN g m) : ∃ j, j < gL g ∧ bN (gB g).2.1 j = m ∧ gH g j = true := by
  obtain ⟨j, j1, j2, j3⟩ := st_num ok m
  have e : bN (gB g).2.1 j = m := by
    rcases Nat.lt_or_ge (bN (gB g).2.1 j) m with z | z
    · exact absurd (fun w hw => by rw [accW_app, accW_app, st_bN j j1, j2]) (h _ z)
    · omega
  refine ⟨j, j1, e, ?_⟩
  rw [gH_FN ok j1, e]
  exact h
theorem cs_gap {T : Nat → Bool} {a : Nat} : ∀ d, (∀ x, a ≤ x → x < a + d → T x = false) → cs T (a + d) = cs T a
  | 0, _ => rfl
  | d + 1, h => by
    have ih := cs_gap (T := T) (a := a) d (fun x h1 h2 => h x h1 (by omega))
    have e : cs T (a + (d + 1)) = cs T (a + d) + (if T (a + d) = true then 1 else 0) := rfl
    rw [e, ih, h (a + d) (by omega) (by omega)]
    rfl
theorem cs_gH (ok : GluOK g) : ∀ j, j < gL g → cs (gH g) j = cs (fnB g) (bN (gB g).2.1 j)
  | 0, _ => by rw [bN_0]; rfl
  | j + 1, hj => by
    have ih := cs_gH ok j (by omega)
    have hm := bN_mono (gB_Bf g) (j + 1) hj j (Nat.lt_succ_self j)
    have e1 : cs (gH g) (j + 1) = cs (gH g) j + (if gH g j = true then 1 else 0) := rfl
    have e2 : cs (fnB g) (bN (gB g).2.1 j + 1) = cs (fnB g) (bN (gB g).2.1 j) + (if fnB g (bN (gB g).2.1 j) = true then 1 else 0) := rfl
    have e3 : cs (fnB g) (bN (gB g).2.1 (j + 1)) = cs (fnB g) (bN (gB g).2.1 j + 1) := by
      have := cs_gap (T := fnB g) (a := bN (gB g).2.1 j + 1) (bN (gB g).2.1 (j + 1) - (bN (gB g).2.1 j + 1)) (fun x h1 h2 => by
        cases z : fnB g x with
        | false => rfl
        | true =>
          exfalso
          obtain ⟨i, i1, i2, -⟩ := FN_bN ok (fnB_iff.mp z)
          rcases Nat.lt_or_ge i (j + 1) with q | q
          · have := bN_le (gB_Bf g) (i := i) (j := j) (show j < (gB g).2.2 by have : (gB g).2.2 = gL g := rfl; omega) (by omega)
            omega
          · have := bN_le (gB_Bf g) (i := j + 1) (j := i) i1 q
            omega)
      rw [show bN (gB g).2.1 j + 1 + (bN (gB g).2.1 (j + 1) - (bN (gB g).2.1 j + 1)) = bN (gB g).2.1 (j + 1) by omega] at this
      exact this
    rw [e1, e3, e2, ih]
    have e4 : gH g j = true ↔ fnB g (bN (gB g).2.1 j) = true := (gH_FN ok (by omega)).trans fnB_iff.symm
    by_cases z : gH g j = true
    · rw [if_pos z, if_pos (e4.mp z)]
    · rw [if_neg z, if_neg (fun y => z (e4.mpr y))]
/-- the number of a class's first word -/
theorem hd_num (ok : GluOK g) {q : Nat} (hq : q < gMc g) : ∃ m, FN g m ∧ cs (fnB g) m = q ∧ bN (gB g).2.1 (hOf g q) = m := by
  obtain ⟨h1, h2, h3⟩ := hOf_ok hq
  exact ⟨bN (gB g).2.1 (hOf g q), (gH_FN ok h1).mp h2, by rw [← cs_gH ok _ h1]; exact h3, rfl⟩
theorem num_hd (ok : GluOK g) {m q : Nat} (hm : FN g m) (hq : cs (fnB g) m = q) : q < gMc g ∧ bN (gB g).2.1 (hOf g q) = m := by
  obtain ⟨j, j1, j2, j3⟩ := FN_bN ok hm
  have e : cs (gH g) j = q := by rw [cs_gH ok j j1, j2]; exact hq
  refine ⟨?_, by rw [hOf_is j1 j3 e]; exact j2⟩
  have h1 := cs_t (T := gH g) j3
  have h2 := cs_mono (gH g) (show j + 1 ≤ gL g from j1)
  have h3 : gMc g = cs (gH g) (gL g) := rfl
  omega
/-- the label of a state, by its class's first word -/
theorem lab_num (ok : GluOK g) {j : Nat} (hj : j < gL g) {u : List Nat} (hu : grn g u = gO g j) : ∃ m, FN g m ∧ simW g (wd m) u ∧ gLab g j = cs (fnB g) m := by
  have h1 : fsR (gR g) j ≤ j := fs_le
  have hl : fsR (gR g) j < gL g := by omega
  have h2 : gR g (fsR (gR g) j) j = true := fs_R (mr_eqv (gS g) (gA g) 200)
  have h3 : gH g (fsR (gR g) j) = true := fs_hd (mr_eqv (gS g) (gA g) 200)
  refine ⟨bN (gB g).2.1 (fsR (gR g) j), (gH_FN ok hl).mp h3, (gR_sim ok hl hj (st_bN _ hl) hu).mp h2, ?_⟩
  rw [← cs_gH ok _ hl]
  rfl
theorem FN_u {m m' : Nat} (h : FN g m) (h' : FN g m') (hs : simW g (wd m) (wd m')) : m = m' := by
  rcases Nat.lt_trichotomy m m' with e | e | e
  · exact absurd hs (h' m e)
  · exact e
  · exact absurd (simW_sy hs) (h m' e)
theorem simW_cg (h : ∀ w, le3 w → accW g w = accW g' w) {u v : List Nat} (hu : le3 u) (hv : le3 v) : simW g u v ↔ simW g' u v := by
  unfold simW
  constructor
  · intro hs w hw
    rw [← h _ (le3_app hu hw), ← h _ (le3_app hv hw)]
    exact hs w hw
  · intro hs w hw
    rw [h _ (le3_app hu hw), h _ (le3_app hv hw)]
    exact hs w hw
theorem FN_cg (h : ∀ w, le3 w → accW g w = accW g' w) (m : Nat) : FN g m ↔ FN g' m := by
  unfold FN
  constructor
  · exact fun hs x hx z => hs x hx ((simW_cg h (wd_le3 x) (wd_le3 m)).mpr z)
  · exact fun hs x hx z => hs x hx ((simW_cg h (wd_le3 x) (wd_le3 m)).mp z)
theorem fnB_cg (h : ∀ w, le3 w → accW g w = accW g' w) : fnB g = fnB g' := by
  funext m
  have h1 := (fnB_iff (g := g) (n := m)).trans ((FN_cg h m).trans (fnB_iff (g := g') (n := m)).symm)
  cases z : fnB g m <;> cases z' : fnB g' m <;> simp_all
theorem smEq_of (ok : GluOK g) (ok' : GluOK g') (h : ∀ w, le3 w → accW g w = accW g' w) : smEq g g' := by
  have hf := fnB_cg h
  have one : ∀ {g g' : Glu}, GluOK g → GluOK g' → (∀ w, le3 w → accW g w = accW g' w) → ∀ q, q < gMc g → q < gMc g' ∧ bN (gB g').2.1 (hOf g' q) = bN (gB g).2.1 (hOf g q) := fun {g g'} ok ok' h q hq => by
    obtain ⟨m, m1, m2, m3⟩ := hd_num ok hq
    rw [fnB_cg h] at m2
    obtain ⟨r1, r2⟩ := num_hd ok' ((FN_cg h m).mp m1) m2
    exact ⟨r1, by rw [r2, m3]⟩
  have eM : gMc g = gMc g' := by
    rcases Nat.lt_trichotomy (gMc g) (gMc g') with e | e | e
    · have := (one ok' ok (fun w hw => (h w hw).symm) _ e).1
      omega
    · exact e
    · have := (one ok ok' h _ e).1
      omega
  refine ⟨eM, fun q hq => ?_, fun q hq c hc => ?_⟩
  · obtain ⟨r1, r2⟩ := one ok ok' h q hq
    have a1 := st_bN (g := g) _ (hOf_ok hq).1
    have a2 := st_bN (g := g') _ (hOf_ok r1).1
    rw [r2] at a2
    have := h _ (wd_le3 (bN (gB g).2.1 (hOf g q)))
    unfold accW at this
    rw [a1, a2] at this
    unfold smA
    rw [gA_e, gA_e]
    exact this
  · obtain ⟨r1, r2⟩ := one ok ok' h q hq
    have a1 := st_bN (g := g) _ (hOf_ok hq).1
    have a2 := st_bN (g := g') _ (hOf_ok r1).1
    rw [r2] at a2
    obtain ⟨s1, s2⟩ := gS_ok ok (hOf_ok hq).1 hc
    obtain ⟨t1, t2⟩ := gS_ok ok' (hOf_ok r1).1 hc
    obtain ⟨m, m1, m2, m3⟩ := lab_num ok s1 (u := wd (bN (gB g).2.1 (hOf g q)) ++ [c]) (by unfold grn at a1 ⊢; rw [rn_snoc, a1, s2])
    obtain ⟨m', m1', m2', m3'⟩ := lab_num ok' t1 (u := wd (bN (gB g).2.1 (hOf g q)) ++ [c]) (by unfold grn at a2 ⊢; rw [rn_snoc, a2, t2])
    have hu : le3 (wd (bN (gB g).2.1 (hOf g q)) ++ [c]) := le3_app (wd_le3 _) (fun d hd => by rw [List.mem_singleton.mp hd]; exact hc)
    have e : m = m' := FN_u m1 ((FN_cg h m').mpr m1') (simW_tr m2 (simW_sy ((simW_cg h (wd_le3 m') hu).mpr m2')))
    unfold smT
    rw [m3, m3', e, hf]
theorem smEq_acc (ok : GluOK g) (ok' : GluOK g') (h : smEq g g') {w : List Nat} (hw : le3 w) : accW g w = accW g' w := by
  obtain ⟨-, h2, h3⟩ := h
  have lb0 : ∀ g, gLab g 0 = 0 := fun g => by
    have h1 : fsR (gR g) 0 ≤ 0 := fs_le
    have h1 : fsR (gR g) 0 = 0 := by omega
    show cs (gH g) (fsR (gR g) 0) = 0
    rw [h1]
    rfl
  have lbl : ∀ {g : Glu}, GluOK g → ∀ j, j < gL g → gLab g j < gMc g := fun {g} ok j hj => lab_lt (mr_eqv (gS g) (gA g) 200) hj
  have hof : ∀ {g : Glu}, GluOK g → ∀ j, j < gL g → hOf g (gLab g j) = fsR (gR g) j := fun {g} ok j hj => by
    have h1 : fsR (gR g) j ≤ j := fs_le
    exact hOf_is (by omega) (fs_hd (mr_eqv (gS g) (gA g) 200)) rfl
  have stp : ∀ {g : Glu}, GluOK g → ∀ j c, j < gL g → c < 3 → gLab g (gS g j c) = smT g (gLab g j) c := fun {g} ok j c hj hc => by
    have h1 : fsR (gR g) j ≤ j := fs_le
    have hl : fsR (gR g) j < gL g := by omega
    have h2 : gR g (fsR (gR g) j) j = true := fs_R (mr_eqv (gS g) (gA g) 200)
    obtain ⟨s1, s2⟩ := gS_ok ok hj hc
    obtain ⟨t1, t2⟩ := gS_ok ok hl hc
    unfold smT
    rw [hof ok j hj]
    refine (lab_iff (mr_eqv (gS g) (gA g) 200)).mpr ?_
    refine mr_sy 200 ((gR_iff ok t1 s1).mpr (fun w hw => ?_))
    have := (gR_iff ok hl hj).mp h2 (c :: w) (fun d hd => by
      rcases List.mem_cons.mp hd with e | e
      · rw [e]; exact hc
      · exact hw d e)
    rw [rn_cn, rn_cn] at this
    rw [s2, t2]
    exact this
  have acc : ∀ {g : Glu}, GluOK g → ∀ j, j < gL g → gA g j = smA g (gLab g j) := fun {g} ok j hj => by
    have h1 : fsR (gR g) j ≤ j := fs_le
    have hl : fsR (gR g) j < gL g := by omega
    have h2 : gR g (fsR (gR g) j) j = true := fs_R (mr_eqv (gS g) (gA g) 200)
    have := (gR_iff ok hl hj).mp h2 [] le3_nil
    rw [rn_nil, rn_nil] at this
    unfold smA
    rw [hof ok j hj, gA_e, gA_e]
    exact this.symm
  have run : ∀ (w : List Nat), le3 w → ∀ i j, i < gL g → j < gL g' → gLab g i = gLab g' j → gLab g (rn (gS g) i w) = gLab g' (rn (gS g') j w) := fun w => by
    induction w with
    | nil =>
      intro _ i j _ _ h
      rw [rn_nil, rn_nil]
      exact h
    | cons c w ih =>
      intro hw i j hi hj h
      have hc := hw c List.mem_cons_self
      rw [rn_cn, rn_cn]
      refine ih (fun d hd => hw d (List.mem_cons_of_mem _ hd)) _ _ (gS_ok ok hi hc).1 (gS_ok ok' hj hc).1 ?_
      rw [stp ok i c hi hc, stp ok' j c hj hc, ← h]
      exact h3 _ (lbl ok i hi) c hc
  have hr := run w hw 0 0 (gL_pos g) (gL_pos g') (by rw [lb0, lb0])
  obtain ⟨r1, r2⟩ := rnS ok w hw 0 (gL_pos g)
  obtain ⟨r1', r2'⟩ := rnS ok' w hw 0 (gL_pos g')
  rw [gO_0] at r2 r2'
  unfold accW grn
  rw [r2, r2', ← gA_e, ← gA_e, acc ok _ r1, acc ok' _ r1', ← hr]
  exact h2 _ (lbl ok _ r1)
theorem smEq_noD (ok : GluOK g) (ok' : GluOK g') : smEq g g' ↔ noD false g g' := ⟨fun h => acc_noD (fun _ hw => smEq_acc ok ok' h hw), fun h => smEq_of ok ok' (fun _ hw => noD_acc h hw)⟩
end THEQ
