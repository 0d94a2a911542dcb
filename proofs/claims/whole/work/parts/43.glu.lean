/-! positions by a stack machine over the postfix list: for each part that waits (the top first): may it be empty (0, 1), its first positions, its last ones (sets as bits); followers; the positions of a letter; how many positions -/
abbrev gst : Type := List (Nat × Nat × Nat) × (Nat → Nat) × (Nat → Nat) × Nat
def folw (fo : Nat → Nat) (set bb : Nat) : Nat → Nat := fun k => if set.testBit k = true then fo k ||| bb else fo k
def gsign (c : Nat) (st : List (Nat × Nat × Nat)) (fo ol : Nat → Nat) (pos : Nat) : gst := match st with
  | [] => (st, fo, ol, pos)
  | v :: r => ((if c = 7 then v.1 else 1, v.2.1, v.2.2) :: r, if c = 8 then fo else folw fo v.2.2 v.2.1, ol, pos)
def gjoin (c : Nat) (st : List (Nat × Nat × Nat)) (fo ol : Nat → Nat) (pos : Nat) : gst := match st with
  | b :: a :: r => if c = 5 then ((a.1 ||| b.1, a.2.1 ||| b.2.1, a.2.2 ||| b.2.2) :: r, fo, ol, pos)
    else ((a.1 &&& b.1, if a.1 = 1 then a.2.1 ||| b.2.1 else a.2.1, if b.1 = 1 then a.2.2 ||| b.2.2 else b.2.2) :: r, folw fo a.2.2 b.2.1, ol, pos)
  | _ => (st, fo, ol, pos)
def gstep (s : gst) (c : Nat) : gst :=
  if c < 4 then ((0, 2 ^ s.2.2.2, 2 ^ s.2.2.2) :: s.1, s.2.1, up s.2.2.1 (c - 1) (s.2.2.1 (c - 1) ||| 2 ^ s.2.2.2), s.2.2.2 + 1)
  else if 6 ≤ c then gsign c s.1 s.2.1 s.2.2.1 s.2.2.2 else gjoin c s.1 s.2.1 s.2.2.1 s.2.2.2
def grun (s : gst) (l : List Nat) : gst := l.foldl gstep s
def g0 : gst := ([], fun _ => 0, fun _ => 0, 0)
theorem grun_app (s : gst) (l l' : List Nat) : grun s (l ++ l') = grun (grun s l) l' := List.foldl_append
theorem grun_snoc (s : gst) (l : List Nat) (c : Nat) : grun s (l ++ [c]) = gstep (grun s l) c := by rw [grun_app]; rfl
def gv (v : Nat × Nat × Nat) : Prop := v.1 ≤ 1 ∧ v.2.1 < 128 ∧ v.2.2 < 128
def GInv (s : gst) : Prop := s.1.length ≤ 7 ∧ s.2.2.2 ≤ 7 ∧ (∀ v ∈ s.1, gv v) ∧ (∀ k, s.2.1 k < 128) ∧ (∀ k, s.2.2.1 k < 128)
def GPre (s : gst) (c : Nat) : Prop := if c < 4 then 1 ≤ c ∧ s.1.length < 7 ∧ s.2.2.2 < 7 else if 6 ≤ c then c < 9 ∧ 1 ≤ s.1.length else 2 ≤ s.1.length
theorem or128 {a b : Nat} (ha : a < 128) (hb : b < 128) : a ||| b < 128 := Nat.or_lt_two_pow (n := 7) ha hb
theorem folw_lt {fo : Nat → Nat} {s b : Nat} (h : ∀ k, fo k < 128) (hb : b < 128) : ∀ k, folw fo s b k < 128 := fun k => by
  unfold folw
  split
  · exact or128 (h k) hb
  · exact h k
theorem pow7 {p : Nat} (h : p < 7) : 2 ^ p < 128 := Nat.pow_lt_pow_right (a := 2) (n := 7) (by decide) h
theorem GInv_step {s : gst} {c : Nat} (h : GInv s) (hp : GPre s c) : GInv (gstep s c) := by
  obtain ⟨st, fo, ol, pos⟩ := s
  obtain ⟨h1, h2, h3, h4, h5⟩ := h
  dsimp only at h1 h2 h3 h4 h5
  unfold GPre at hp
  unfold gstep
  by_cases hc : c < 4
  · rw [if_pos hc] at hp ⊢
    obtain ⟨p1, p2, p3⟩ := hp
    dsimp only at p2 p3
    refine ⟨by simp; omega, by show pos + 1 ≤ 7; omega, fun v hv => ?_, h4, fun k => ?_⟩
    · rcases List.mem_cons.mp hv with rfl | hv
      · exact ⟨Nat.zero_le _, pow7 p3, pow7 p3⟩
      · exact h3 v hv
    · show up ol (c - 1) (ol (c - 1) ||| 2 ^ pos) k < 128
      unfold up
      split
      · exact or128 (h5 _) (pow7 p3)
      · exact h5 k
  · rw [if_neg hc] at hp ⊢
    by_cases hc2 : 6 ≤ c
    · rw [if_pos hc2] at hp ⊢
      obtain ⟨p1, p2⟩ := hp
      dsimp only at p2 ⊢
      match st, h1, h3, p2 with
      | v :: r, h1, h3, _ =>
        have hv := h3 v List.mem_cons_self
        refine ⟨h1, h2, fun u hu => ?_, fun k => ?_, h5⟩
        · rcases List.mem_cons.mp hu with rfl | hu
          · refine ⟨?_, hv.2.1, hv.2.2⟩
            dsimp only
            split
            · exact hv.1
            · exact Nat.le_refl 1
          · exact h3 u (List.mem_cons_of_mem _ hu)
        · show (if c = 8 then fo else folw fo v.2.2 v.2.1) k < 128
          split
          · exact h4 k
          · exact folw_lt h4 hv.2.1 k
    · rw [if_neg hc2] at hp ⊢
      dsimp only at hp ⊢
      match st, h1, h3, hp with
      | b :: a :: r, h1, h3, _ =>
        have hb := h3 b List.mem_cons_self
        have ha := h3 a (List.mem_cons_of_mem _ List.mem_cons_self)
        have hr : ∀ v ∈ r, gv v := fun v hv => h3 v (List.mem_cons_of_mem _ (List.mem_cons_of_mem _ hv))
        have hl : r.length + 2 ≤ 7 := h1
        show GInv (if c = 5 then _ else _)
        by_cases h55 : c = 5
        · rw [if_pos h55]
          refine ⟨by show r.length + 1 ≤ 7; omega, h2, fun u hu => ?_, h4, h5⟩
          rcases List.mem_cons.mp hu with rfl | hu
          · refine ⟨?_, or128 ha.2.1 hb.2.1, or128 ha.2.2 hb.2.2⟩
            have := Nat.or_lt_two_pow (n := 1) (x := a.1) (y := b.1) (by have := ha.1; omega) (by have := hb.1; omega)
            show a.1 ||| b.1 ≤ 1
            omega
          · exact hr u hu
        · rw [if_neg h55]
          refine ⟨by show r.length + 1 ≤ 7; omega, h2, fun u hu => ?_, folw_lt h4 hb.2.1, h5⟩
          rcases List.mem_cons.mp hu with rfl | hu
          · refine ⟨Nat.le_trans Nat.and_le_left ha.1, ?_, ?_⟩
            · dsimp only
              split
              · exact or128 ha.2.1 hb.2.1
              · exact ha.2.1
            · dsimp only
              split
              · exact or128 ha.2.2 hb.2.2
              · exact hb.2.2
          · exact hr u hu
theorem nLet_pos {x : List Nat} (h : WF x) : 1 ≤ nLet x := by
  refine WF_ind (P := fun p => 1 ≤ nLet p) (fun c h1 h2 => ?_) (fun x s _ ih h1 h2 => ?_) (fun x y b _ ih _ ih2 h1 => ?_) h
  · rw [nLet_one, if_pos (by omega)]; exact Nat.le_refl _
  · rw [nLet_app]; omega
  · rw [nLet_app, nLet_app]; omega
/-- along a well-formed part: each step can be made; at its end one value more stands on the stack, what was below it is as it was -/
def GRun (x : List Nat) : Prop := ∀ s : gst, GInv s → s.1.length + nLet x ≤ 7 → s.2.2.2 + nLet x ≤ 7 → (∀ k, k < x.length → GInv (grun s (x.take k)) ∧ GPre (grun s (x.take k)) (x.getD k 0)) ∧ GInv (grun s x) ∧ (∃ v, (grun s x).1 = v :: s.1) ∧ (grun s x).2.2.2 = s.2.2.2 + nLet x
theorem take_app_l {l l' : List Nat} {k : Nat} (h : k ≤ l.length) : (l ++ l').take k = l.take k := List.take_append_of_le_length h
theorem take_app_r {l l' : List Nat} {k : Nat} (h : l.length ≤ k) : (l ++ l').take k = l ++ l'.take (k - l.length) := by rw [List.take_append, List.take_of_length_le h]
theorem GRun_all {x : List Nat} (h : WF x) : GRun x := by
  refine WF_ind (P := GRun) (fun c h1 h2 => ?_) (fun x c wx ih h1 h2 => ?_) (fun x y b wx ihx wy ihy hb => ?_) h
  · intro s hi hl hp
    have e : nLet [c] = 1 := by rw [nLet_one, if_pos (by omega)]
    rw [e] at hl hp
    have hpre : GPre s c := by unfold GPre; rw [if_pos (by omega)]; exact ⟨h1, by omega, by omega⟩
    refine ⟨fun k hk => ?_, GInv_step hi hpre, ⟨(0, 2 ^ s.2.2.2, 2 ^ s.2.2.2), by show (gstep s c).1 = _; unfold gstep; rw [if_pos (by omega)]⟩, by rw [e]; show (gstep s c).2.2.2 = _; unfold gstep; rw [if_pos (by omega)]⟩
    have hk0 : k = 0 := by simpa using hk
    subst hk0
    exact ⟨hi, hpre⟩
  · intro s hi hl hp
    have e : nLet (x ++ [c]) = nLet x := by rw [nLet_app, nLet_one, if_neg (by omega)]; rfl
    rw [e] at hl hp
    obtain ⟨a1, a2, ⟨v, a3⟩, a4⟩ := ih s hi hl hp
    have hpre : GPre (grun s x) c := by unfold GPre; rw [if_neg (by omega), if_pos (by omega), a3]; exact ⟨by omega, by simp⟩
    refine ⟨fun k hk => ?_, by rw [grun_snoc]; exact GInv_step a2 hpre, ?_, ?_⟩
    · by_cases hk2 : k < x.length
      · rw [take_app_l (by omega), gD_l hk2]; exact a1 k hk2
      · have hk3 : k = x.length := by simp at hk; omega
        subst hk3
        rw [take_app_l (Nat.le_refl _), List.take_length, gD_r (Nat.le_refl _), Nat.sub_self]
        exact ⟨a2, hpre⟩
    · rw [grun_snoc]
      unfold gstep
      rw [if_neg (by omega), if_pos (by omega), a3]
      exact ⟨_, rfl⟩
    · rw [grun_snoc, e]
      unfold gstep
      rw [if_neg (by omega), if_pos (by omega), a3]
      exact a4
  · intro s hi hl hp
    have px := nLet_pos wx
    have py := nLet_pos wy
    have e : nLet (x ++ y ++ [b]) = nLet x + nLet y := by rw [nLet_app, nLet_app, nLet_one, if_neg (by omega)]; rfl
    rw [e] at hl hp
    obtain ⟨a1, a2, ⟨v, a3⟩, a4⟩ := ihx s hi (by omega) (by omega)
    obtain ⟨b1, b2, ⟨u, b3⟩, b4⟩ := ihy (grun s x) a2 (by rw [a3]; simp; omega) (by rw [a4]; omega)
    have hpre : GPre (grun s (x ++ y)) b := by unfold GPre; rw [if_neg (by omega), if_neg (by omega), grun_app, b3, a3]; simp
    have hin : GInv (grun s (x ++ y)) := by rw [grun_app]; exact b2
    refine ⟨fun k hk => ?_, by rw [grun_snoc]; exact GInv_step hin hpre, ?_, ?_⟩
    · by_cases hk2 : k < (x ++ y).length
      · rw [take_app_l (by omega), gD_l hk2]
        by_cases hk3 : k < x.length
        · rw [take_app_l (by omega), gD_l hk3]; exact a1 k hk3
        · rw [take_app_r (by omega), gD_r (by omega), grun_app]
          exact b1 (k - x.length) (by simp at hk2; omega)
      · have hk3 : k = (x ++ y).length := by simp only [List.length_append, List.length_singleton] at hk hk2 ⊢; omega
        subst hk3
        rw [take_app_l (Nat.le_refl _), List.take_length, gD_r (Nat.le_refl _), Nat.sub_self]
        exact ⟨hin, hpre⟩
    · rw [grun_snoc, grun_app]
      unfold gstep
      rw [if_neg (by omega), if_neg (by omega), b3, a3]
      unfold gjoin
      dsimp only
      split
      · exact ⟨_, rfl⟩
      · exact ⟨_, rfl⟩
    · rw [grun_snoc, grun_app, e]
      unfold gstep
      rw [if_neg (by omega), if_neg (by omega), b3, a3]
      unfold gjoin
      dsimp only
      split
      · show (grun (grun s x) y).2.2.2 = _; rw [b4, a4]; omega
      · show (grun (grun s x) y).2.2.2 = _; rw [b4, a4]; omega
