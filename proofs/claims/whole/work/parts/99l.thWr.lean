/-! a pattern's text, written from its end -/
def flS (p out : List Nat) : List Nat × List Nat := match p with
  | [] => ([], out)
  | t :: r => if t = 40 ∨ t = 124 then flS r (out ++ [t]) else (t :: r, out)
def wpt (c m : Nat) (r out : List Nat) : List Nat × List Nat :=
  if c = 5 then (48 :: 124 :: 48 :: (if (m = 50 ∧ 4 ≤ c) ∨ (m = 49 ∧ c = 5) then 40 :: r else r), if (m = 50 ∧ 4 ≤ c) ∨ (m = 49 ∧ c = 5) then out ++ [41] else out)
  else if c = 4 then (49 :: 49 :: (if (m = 50 ∧ 4 ≤ c) ∨ (m = 49 ∧ c = 5) then 40 :: r else r), if (m = 50 ∧ 4 ≤ c) ∨ (m = 49 ∧ c = 5) then out ++ [41] else out)
  else (if 6 ≤ c then 50 :: (if (m = 50 ∧ 4 ≤ c) ∨ (m = 49 ∧ c = 5) then 40 :: r else r) else (if (m = 50 ∧ 4 ≤ c) ∨ (m = 49 ∧ c = 5) then 40 :: r else r), (if (m = 50 ∧ 4 ≤ c) ∨ (m = 49 ∧ c = 5) then out ++ [41] else out) ++ [chC c])
def wst (s : List Nat × List Nat) (c : Nat) : List Nat × List Nat := match flS s.1 s.2 with
  | (m :: r, out) => wpt c m r out
  | ([], out) => ([], out)
theorem flS_p : ∀ (pend r out : List Nat), (∀ t ∈ pend, t = 40) → flS (pend ++ r) out = flS r (out ++ pend)
  | [], r, out, _ => by rw [List.append_nil]; rfl
  | t :: p, r, out, h => by
    have ht := h t List.mem_cons_self
    show (if t = 40 ∨ t = 124 then flS (p ++ r) (out ++ [t]) else _) = _
    rw [if_pos (Or.inl ht), flS_p p r (out ++ [t]) (fun x hx => h x (List.mem_cons_of_mem _ hx)), List.append_assoc]
    rfl
theorem flS_m {m : Nat} (h1 : m ≠ 40) (h2 : m ≠ 124) (r out : List Nat) : flS (m :: r) out = (m :: r, out) := by
  unfold flS
  rw [if_neg (fun z => z.elim h1 h2)]
def tx (m : Nat) (x : List Nat × Nat) : List Nat := if (m = 50 ∧ x.2 ≠ 3) ∨ (m = 49 ∧ x.2 = 0) then wrp x.1 else x.1
def mk3 (m : Nat) : Prop := m = 48 ∨ m = 49 ∨ m = 50
def WrP (p : List Nat) (x : List Nat × Nat) : Prop := ∀ m r out, mk3 m → ∃ pend, (∀ t ∈ pend, t = 40) ∧ (p.reverse.foldl wst (m :: r, out)).1 = pend ++ r ∧ (p.reverse.foldl wst (m :: r, out)).2 ++ pend = out ++ (tx m x).reverse
theorem wrp_r (l : List Nat) : (wrp l).reverse = 41 :: (l.reverse ++ [40]) := by
  unfold wrp
  simp
theorem mk3_n {m : Nat} (h : mk3 m) : m ≠ 40 ∧ m ≠ 124 := by
  unfold mk3 at h
  omega
theorem wst_m {m : Nat} (h : mk3 m) (r out : List Nat) (c : Nat) : wst (m :: r, out) c = wpt c m r out := by
  unfold wst
  rw [flS_m (mk3_n h).1 (mk3_n h).2]
theorem wst_p {m : Nat} (h : mk3 m) {pend : List Nat} (hp : ∀ t ∈ pend, t = 40) (r out : List Nat) (c : Nat) : wst (pend ++ m :: r, out) c = wst (m :: r, out ++ pend) c := by
  unfold wst
  dsimp only
  rw [flS_p pend (m :: r) out hp]
theorem wst_fl {s s' : List Nat × List Nat} (h : flS s.1 s.2 = flS s'.1 s'.2) : ∀ (l : List Nat), l ≠ [] → l.foldl wst s = l.foldl wst s'
  | [], hn => absurd rfl hn
  | c :: l, _ => by
    have e : wst s c = wst s' c := by
      unfold wst
      rw [h]
    show l.foldl wst (wst s c) = l.foldl wst (wst s' c)
    rw [e]
theorem Wr_sig {x : List Nat} {c : Nat} {z : List Nat × Nat} (h1 : 6 ≤ c) (h3 : c ≤ 8) (hz3 : z.2 ≤ 3) (hW : WrP x z) : WrP (x ++ [c]) ((if 3 ≤ z.2 then z.1 else wrp z.1) ++ [sgc c], 2) := by
  intro m r out hm
  have hcc : chC c = sgc c := by
    have : c = 6 ∨ c = 7 ∨ c = 8 := by omega
    rcases this with rfl | rfl | rfl <;> rfl
  have et : tx 50 z = if 3 ≤ z.2 then z.1 else wrp z.1 := by
    unfold tx
    by_cases q : 3 ≤ z.2
    · rw [if_pos q, if_neg (by omega)]
    · rw [if_neg q, if_pos (by omega)]
  have e0 : (x ++ [c]).reverse.foldl wst (m :: r, out) = x.reverse.foldl wst (wpt c m r out) := by
    rw [List.reverse_append]
    show x.reverse.foldl wst (wst (m :: r, out) c) = _
    rw [wst_m hm]
  rw [e0]
  unfold wpt
  rw [if_neg (by omega), if_neg (by omega), if_pos h1]
  by_cases q : m = 50
  · rw [if_pos (Or.inl ⟨q, by omega⟩), if_pos (Or.inl ⟨q, by omega⟩)]
    obtain ⟨pend, p1, p2, p3⟩ := hW 50 (40 :: r) (out ++ [41] ++ [chC c]) (Or.inr (Or.inr rfl))
    refine ⟨pend ++ [40], fun t ht => ?_, by rw [p2, List.append_assoc]; rfl, ?_⟩
    · rcases List.mem_append.mp ht with y | y
      · exact p1 t y
      · exact List.mem_singleton.mp y
    · rw [← List.append_assoc, p3, et, hcc]
      unfold tx
      rw [if_pos (Or.inl ⟨q, show (2 : Nat) ≠ 3 by decide⟩), wrp_r]
      simp
  · rw [if_neg (by omega), if_neg (by omega)]
    obtain ⟨pend, p1, p2, p3⟩ := hW 50 r (out ++ [chC c]) (Or.inr (Or.inr rfl))
    refine ⟨pend, p1, p2, ?_⟩
    rw [p3, et, hcc]
    unfold tx
    rw [if_neg (show ¬ ((m = 50 ∧ (2 : Nat) ≠ 3) ∨ (m = 49 ∧ (2 : Nat) = 0)) by omega)]
    simp
theorem Wr_uni {x y : List Nat} {z z' : List Nat × Nat} (hx : x ≠ []) (hW : WrP x z) (hW' : WrP y z') : WrP (x ++ y ++ [5]) (z.1 ++ 124 :: z'.1, 0) := by
  intro m r out hm
  have e0 : (x ++ y ++ [5]).reverse.foldl wst (m :: r, out) = x.reverse.foldl wst (y.reverse.foldl wst (wpt 5 m r out)) := by
    rw [List.reverse_append, List.reverse_append]
    show (y.reverse ++ x.reverse).foldl wst (wst (m :: r, out) 5) = _
    rw [wst_m hm, List.foldl_append]
  rw [e0]
  unfold wpt
  rw [if_pos rfl]
  have t48 : ∀ u : List Nat × Nat, tx 48 u = u.1 := fun u => by
    unfold tx
    rw [if_neg (by omega)]
  have go : ∀ r1 out1, ∃ pend, (∀ t ∈ pend, t = 40) ∧ (x.reverse.foldl wst (y.reverse.foldl wst (48 :: 124 :: 48 :: r1, out1))).1 = pend ++ r1 ∧ (x.reverse.foldl wst (y.reverse.foldl wst (48 :: 124 :: 48 :: r1, out1))).2 ++ pend = out1 ++ (z.1 ++ 124 :: z'.1).reverse := fun r1 out1 => by
    obtain ⟨pend, p1, p2, p3⟩ := hW' 48 (124 :: 48 :: r1) out1 (Or.inl rfl)
    obtain ⟨s, hs⟩ : ∃ s, s = y.reverse.foldl wst (48 :: 124 :: 48 :: r1, out1) := ⟨_, rfl⟩
    rw [← hs] at p2 p3 ⊢
    have hfl : flS s.1 s.2 = flS (48 :: r1) (s.2 ++ pend ++ [124]) := by
      rw [p2, flS_p pend (124 :: 48 :: r1) s.2 p1]
      rfl
    rw [wst_fl (s' := (48 :: r1, s.2 ++ pend ++ [124])) hfl x.reverse (by simpa using hx), p3, t48]
    obtain ⟨pend', p1', p2', p3'⟩ := hW 48 r1 (out1 ++ z'.1.reverse ++ [124]) (Or.inl rfl)
    refine ⟨pend', p1', p2', ?_⟩
    rw [p3', t48]
    simp
  by_cases q : (m = 50 ∧ 4 ≤ 5) ∨ (m = 49 ∧ 5 = 5)
  · rw [if_pos q, if_pos q]
    obtain ⟨pend, p1, p2, p3⟩ := go (40 :: r) (out ++ [41])
    refine ⟨pend ++ [40], fun t ht => ?_, by rw [p2, List.append_assoc]; rfl, ?_⟩
    · rcases List.mem_append.mp ht with y | y
      · exact p1 t y
      · exact List.mem_singleton.mp y
    · rw [← List.append_assoc, p3]
      unfold tx
      rw [if_pos (by omega), wrp_r]
      simp
  · rw [if_neg q, if_neg q]
    obtain ⟨pend, p1, p2, p3⟩ := go r out
    refine ⟨pend, p1, p2, ?_⟩
    rw [p3]
    unfold tx
    rw [if_neg (show ¬ ((m = 50 ∧ (0 : Nat) ≠ 3) ∨ (m = 49 ∧ (0 : Nat) = 0)) by omega)]
theorem Wr_cat {x y : List Nat} {z z' : List Nat × Nat} (hx : x ≠ []) (hW : WrP x z) (hW' : WrP y z') : WrP (x ++ y ++ [4]) ((if z.2 = 0 then wrp z.1 else z.1) ++ (if z'.2 = 0 then wrp z'.1 else z'.1), 1) := by
  intro m r out hm
  have e0 : (x ++ y ++ [4]).reverse.foldl wst (m :: r, out) = x.reverse.foldl wst (y.reverse.foldl wst (wpt 4 m r out)) := by
    rw [List.reverse_append, List.reverse_append]
    show (y.reverse ++ x.reverse).foldl wst (wst (m :: r, out) 4) = _
    rw [wst_m hm, List.foldl_append]
  rw [e0]
  unfold wpt
  rw [if_neg (by omega), if_pos rfl]
  have t49 : ∀ u : List Nat × Nat, tx 49 u = if u.2 = 0 then wrp u.1 else u.1 := fun u => by
    unfold tx
    by_cases q : u.2 = 0
    · rw [if_pos q, if_pos (by omega)]
    · rw [if_neg q, if_neg (by omega)]
  have go : ∀ r1 out1, ∃ pend, (∀ t ∈ pend, t = 40) ∧ (x.reverse.foldl wst (y.reverse.foldl wst (49 :: 49 :: r1, out1))).1 = pend ++ r1 ∧ (x.reverse.foldl wst (y.reverse.foldl wst (49 :: 49 :: r1, out1))).2 ++ pend = out1 ++ ((if z.2 = 0 then wrp z.1 else z.1) ++ (if z'.2 = 0 then wrp z'.1 else z'.1)).reverse := fun r1 out1 => by
    obtain ⟨pend, p1, p2, p3⟩ := hW' 49 (49 :: r1) out1 (Or.inr (Or.inl rfl))
    obtain ⟨s, hs⟩ : ∃ s, s = y.reverse.foldl wst (49 :: 49 :: r1, out1) := ⟨_, rfl⟩
    rw [← hs] at p2 p3 ⊢
    have hfl : flS s.1 s.2 = flS (49 :: r1) (s.2 ++ pend) := by
      rw [p2, flS_p pend (49 :: r1) s.2 p1]
    rw [wst_fl (s' := (49 :: r1, s.2 ++ pend)) hfl x.reverse (by simpa using hx), p3, t49]
    obtain ⟨pend', p1', p2', p3'⟩ := hW 49 r1 (out1 ++ (if z'.2 = 0 then wrp z'.1 else z'.1).reverse) (Or.inr (Or.inl rfl))
    refine ⟨pend', p1', p2', ?_⟩
    rw [p3', t49, List.reverse_append, List.append_assoc]
  by_cases q : (m = 50 ∧ 4 ≤ 4) ∨ (m = 49 ∧ 4 = 5)
  · rw [if_pos q, if_pos q]
    obtain ⟨pend, p1, p2, p3⟩ := go (40 :: r) (out ++ [41])
    refine ⟨pend ++ [40], fun t ht => ?_, by rw [p2, List.append_assoc]; rfl, ?_⟩
    · rcases List.mem_append.mp ht with y | y
      · exact p1 t y
      · exact List.mem_singleton.mp y
    · rw [← List.append_assoc, p3]
      unfold tx
      rw [if_pos (show (m = 50 ∧ (1 : Nat) ≠ 3) ∨ (m = 49 ∧ (1 : Nat) = 0) by omega), wrp_r]
      simp
  · rw [if_neg q, if_neg q]
    obtain ⟨pend, p1, p2, p3⟩ := go r out
    refine ⟨pend, p1, p2, ?_⟩
    rw [p3]
    unfold tx
    rw [if_neg (show ¬ ((m = 50 ∧ (1 : Nat) ≠ 3) ∨ (m = 49 ∧ (1 : Nat) = 0)) by omega)]
theorem Wr_all {p : List Nat} (hw : WF p) : ∃ x : List Nat × Nat, x.2 ≤ 3 ∧ (∀ st, frun st p = x :: st) ∧ WrP p x := by
  refine WF_ind (P := fun p => ∃ x : List Nat × Nat, x.2 ≤ 3 ∧ (∀ st, frun st p = x :: st) ∧ WrP p x) (fun c h1 h3 => ?_) (fun x c _ ih h1 h3 => ?_) (fun x y c wx ihx _ ihy hc => ?_) hw
  · refine ⟨([96 + c], 3), Nat.le_refl _, fun st => ?_, fun m r out hm => ⟨[], fun t ht => absurd ht (by simp), ?_, ?_⟩⟩
    · rw [frun_1]
      unfold fstep
      rw [if_pos (by omega)]
    · show (wst (m :: r, out) c).1 = r
      rw [wst_m hm]
      unfold wpt
      rw [if_neg (by omega), if_neg (by omega)]
      dsimp only
      rw [if_neg (by omega), if_neg (by omega)]
    · show (wst (m :: r, out) c).2 ++ [] = _
      rw [wst_m hm]
      unfold wpt tx
      rw [if_neg (by omega), if_neg (by omega), if_neg (show ¬ ((m = 50 ∧ (3 : Nat) ≠ 3) ∨ (m = 49 ∧ (3 : Nat) = 0)) by omega)]
      dsimp only
      rw [if_neg (by omega), List.append_nil]
      have hcc : c = 1 ∨ c = 2 ∨ c = 3 := by omega
      rcases hcc with rfl | rfl | rfl <;> rfl
  · obtain ⟨z, z3, hz, hW⟩ := ih
    refine ⟨((if 3 ≤ z.2 then z.1 else wrp z.1) ++ [sgc c], 2), by show 2 ≤ 3; omega, fun st => ?_, Wr_sig h1 h3 z3 hW⟩
    rw [frun_app, hz, frun_1]
    unfold fstep
    rw [if_neg (by omega), if_pos h1]
  · obtain ⟨z, z3, hz, hW⟩ := ihx
    obtain ⟨z', z3', hz', hW'⟩ := ihy
    rcases hc with rfl | rfl
    · refine ⟨_, by show 1 ≤ 3; omega, fun st => ?_, Wr_cat (WF_ne wx) hW hW'⟩
      rw [frun_app, frun_app, hz, hz', frun_1]
      rfl
    · refine ⟨_, by show 0 ≤ 3; omega, fun st => ?_, Wr_uni (WF_ne wx) hW hW'⟩
      rw [frun_app, frun_app, hz, hz', frun_1]
      rfl
theorem wr_ptx {p : List Nat} (hw : WF p) : flS (p.reverse.foldl wst ([48], [])).1 (p.reverse.foldl wst ([48], [])).2 = ([], (ptx p).reverse) := by
  obtain ⟨x, -, hz, hW⟩ := Wr_all hw
  obtain ⟨pend, p1, p2, p3⟩ := hW 48 [] [] (Or.inl rfl)
  have e : ptx p = x.1 := by
    unfold ptx
    rw [hz]
    rfl
  rw [p2, flS_p pend [] _ p1, p3, e]
  unfold tx
  rw [if_neg (by omega)]
  rfl
