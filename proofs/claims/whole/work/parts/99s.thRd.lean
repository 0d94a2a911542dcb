/-! reading patterns: built codes, waiting signs (the latest first), what was read last (0: an atom must come, 1: an atom, 2: a sign) -/
abbrev rst : Type := List Nat × List Nat × Nat
def brg (e : Nat) : List Nat → List Nat → List Nat × List Nat
  | o, [] => (o, [])
  | o, t :: r => if t = 4 ∨ (t = 5 ∧ e = 5) then brg e (o ++ [t]) r else (o, t :: r)
def opn : List Nat → Nat
  | [] => 0
  | t :: r => if t = 9 then opn r + 1 else opn r
def ops : List Nat → Nat
  | [] => 0
  | t :: r => if t = 9 then ops r else ops r + 1
def sgo (c : Nat) : Nat := if c = 42 then 6 else if c = 43 then 7 else if c = 63 then 8 else 0
def rd0 (s : rst) (c : Nat) : Option rst :=
  if 97 ≤ c ∧ c ≤ 99 then (if s.2.2 = 0 then some (s.1 ++ [c - 96], s.2.1, 1) else none)
  else if c = 40 then (if s.2.2 = 0 then some (s.1, 9 :: s.2.1, 0) else none)
  else if 0 < sgo c then (if s.2.2 = 1 then some (s.1 ++ [sgo c], s.2.1, 2) else none)
  else if c = 124 then (if s.2.2 = 0 then none else some ((brg 5 s.1 s.2.1).1, 5 :: (brg 5 s.1 s.2.1).2, 0))
  else if c = 41 then (if s.2.2 = 0 ∨ opn s.2.1 = 0 then none else some ((brg 5 s.1 s.2.1).1, (brg 5 s.1 s.2.1).2.tail, 1))
  else none
def jnt (s : rst) (c : Nat) : rst := if s.2.2 ≠ 0 ∧ ((97 ≤ c ∧ c ≤ 99) ∨ c = 40) then ((brg 4 s.1 s.2.1).1, 4 :: (brg 4 s.1 s.2.1).2, 0) else s
def rd1 (s : rst) (c : Nat) : Option rst := rd0 (jnt s c) c
def rdP : List Nat → rst → Nat × rst
  | [], s => (0, s)
  | c :: r, s => match rd1 s c with
    | none => (0, s)
    | some s' => ((rdP r s').1 + 1, (rdP r s').2)
abbrev rdOk (s : rst) : Prop := s.2.2 ≠ 0 ∧ opn s.2.1 = 0
def rs0 : rst := ([], [], 0)
def fl : List (List Nat) → List Nat
  | [] => []
  | v :: r => fl r ++ v
/-- whole parts stand in the built codes, one for each waiting sign and one more behind an atom -/
def RJ (vs : List (List Nat)) (o w : List Nat) (m : Nat) : Prop := (∀ v ∈ vs, WF v) ∧ o = fl vs ∧ vs.length = ops w + m ∧ ∀ t ∈ w, t = 4 ∨ t = 5 ∨ t = 9
theorem brg_RJ {e : Nat} : ∀ (w : List Nat) (vs : List (List Nat)) (o : List Nat), RJ vs o w 1 → (∃ vs', RJ vs' (brg e o w).1 (brg e o w).2 1) ∧ opn (brg e o w).2 = opn w ∧ (brg e o w).1.length + (brg e o w).2.length = o.length + w.length ∧ (brg e o w).2.length ≤ w.length ∧ (e = 5 → (brg e o w).2 = [] ∨ ∃ r, (brg e o w).2 = 9 :: r)
  | [], vs, o, h => ⟨⟨vs, h⟩, rfl, rfl, Nat.le_refl _, fun _ => Or.inl rfl⟩
  | t :: w, vs, o, h => by
    unfold brg
    by_cases q : t = 4 ∨ (t = 5 ∧ e = 5)
    · rw [if_pos q]
      obtain ⟨h1, h2, h3, h4⟩ := h
      have t9 : t ≠ 9 := by omega
      have e1 : ops (t :: w) = ops w + 1 := by
        show (if t = 9 then ops w else ops w + 1) = _
        rw [if_neg t9]
      have e2 : opn (t :: w) = opn w := by
        show (if t = 9 then opn w + 1 else opn w) = _
        rw [if_neg t9]
      rw [e1] at h3
      match vs, h1, h2, h3 with
      | y :: x :: r, h1, h2, h3 =>
        have hn : RJ ((x ++ y ++ [t]) :: r) (o ++ [t]) w 1 := by
          refine ⟨fun v hv => ?_, ?_, ?_, fun u hu => h4 u (List.mem_cons_of_mem _ hu)⟩
          · rcases List.mem_cons.mp hv with rfl | hv
            · exact WF_bin (h1 x (List.mem_cons_of_mem _ List.mem_cons_self)) (h1 y List.mem_cons_self) (by omega)
            · exact h1 v (List.mem_cons_of_mem _ (List.mem_cons_of_mem _ hv))
          · rw [h2]
            show fl r ++ x ++ y ++ [t] = fl r ++ (x ++ y ++ [t])
            simp only [List.append_assoc]
          · rw [List.length_cons] at h3 ⊢
            rw [List.length_cons] at h3
            omega
        obtain ⟨a, b, c, d, f⟩ := brg_RJ (e := e) w _ _ hn
        refine ⟨a, by rw [e2]; exact b, ?_, by rw [List.length_cons]; omega, f⟩
        rw [c, List.length_append, List.length_singleton, List.length_cons]
        omega
    · rw [if_neg q]
      refine ⟨⟨vs, h⟩, rfl, rfl, Nat.le_refl _, fun he => Or.inr ⟨w, ?_⟩⟩
      have := h.2.2.2 t List.mem_cons_self
      rw [show t = 9 by omega]
def kk (k : Nat) : Nat := if k = 0 then 0 else 1
def RIn (s : rst) : Prop := (∃ vs, RJ vs s.1 s.2.1 (kk s.2.2)) ∧ s.2.2 ≤ 2
def PB (n : Nat) (s : rst) : Prop := s.1.length + s.2.1.length + kk s.2.2 ≤ 2 * n + 1 ∧ s.2.1.length + kk s.2.2 ≤ n
theorem rs0_ok : RIn rs0 ∧ PB 0 rs0 := ⟨⟨⟨[], fun v hv => absurd hv (by simp), rfl, rfl, fun t ht => absurd ht (by show ¬ t ∈ []; simp)⟩, by decide⟩, by decide, by decide⟩
/-- the joint that is put before a letter or a bracket behind an atom -/
theorem jnt_ok {s : rst} {c n : Nat} (h : RIn s) (hb : PB n s) : RIn (jnt s c) ∧ opn (jnt s c).2.1 = opn s.2.1 ∧ PB n (jnt s c) ∧ (((97 ≤ c ∧ c ≤ 99) ∨ c = 40) → (jnt s c).2.2 = 0) ∧ (¬((97 ≤ c ∧ c ≤ 99) ∨ c = 40) → jnt s c = s) := by
  obtain ⟨o, w, k⟩ := s
  obtain ⟨⟨vs, hv⟩, hk⟩ := h
  obtain ⟨b1, b2⟩ := hb
  dsimp only at hv hk b1 b2
  unfold jnt kk at *
  dsimp only
  by_cases q : k ≠ 0 ∧ ((97 ≤ c ∧ c ≤ 99) ∨ c = 40)
  · rw [if_pos q]
    rw [if_neg q.1] at hv b1 b2
    obtain ⟨⟨vs', a⟩, b, d, f, -⟩ := brg_RJ (e := 4) w vs o hv
    obtain ⟨a1, a2, a3, a4⟩ := a
    dsimp only
    refine ⟨⟨⟨vs', a1, a2, ?_, fun t ht => ?_⟩, by show 0 ≤ 2; omega⟩, ?_, ?_, fun _ => rfl, fun z => absurd q.2 z⟩
    · show vs'.length = ops (brg 4 o w).2 + 1 + 0
      exact a3
    · rcases List.mem_cons.mp ht with rfl | ht
      · exact Or.inl rfl
      · exact a4 t ht
    · show opn (brg 4 o w).2 = _
      exact b
    · refine ⟨?_, ?_⟩
      · show (brg 4 o w).1.length + ((brg 4 o w).2.length + 1) + 0 ≤ _
        omega
      · show (brg 4 o w).2.length + 1 + 0 ≤ _
        omega
  · rw [if_neg q]
    dsimp only
    refine ⟨⟨⟨vs, hv⟩, hk⟩, rfl, ⟨b1, b2⟩, fun z => ?_, fun _ => rfl⟩
    exact Decidable.byContradiction fun y => q ⟨y, z⟩
/-- what may follow, and what was read then -/
def nk (k c : Nat) : Nat := if 97 ≤ c ∧ c ≤ 99 then 1 else if c = 40 then 0 else if 0 < sgo c then 2 else if c = 124 then 0 else 1
def no (o c : Nat) : Nat := if c = 40 then o + 1 else if c = 41 then o - 1 else o
abbrev cf (k o c : Nat) : Prop := (97 ≤ c ∧ c ≤ 99) ∨ c = 40 ∨ (0 < sgo c ∧ k = 1) ∨ (c = 124 ∧ k ≠ 0) ∨ (c = 41 ∧ k ≠ 0 ∧ o ≠ 0)
theorem sgo_n {c : Nat} (h : 0 < sgo c) : (c = 42 ∨ c = 43 ∨ c = 63) ∧ 6 ≤ sgo c ∧ sgo c ≤ 8 := by
  unfold sgo at h ⊢
  by_cases a : c = 42
  · rw [if_pos a]; omega
  · rw [if_neg a] at h ⊢
    by_cases b : c = 43
    · rw [if_pos b]; omega
    · rw [if_neg b] at h ⊢
      by_cases d : c = 63
      · rw [if_pos d]; omega
      · rw [if_neg d] at h; omega
theorem rd1_ok {s : rst} {c n : Nat} (h : RIn s) (hb : PB n s) : (rd1 s c = none ∧ ¬ cf s.2.2 (opn s.2.1) c) ∨ (cf s.2.2 (opn s.2.1) c ∧ ∃ s', rd1 s c = some s' ∧ RIn s' ∧ PB (n + 1) s' ∧ s'.2.2 = nk s.2.2 c ∧ opn s'.2.1 = no (opn s.2.1) c) := by
  obtain ⟨j1, j2, j3, j6, j7⟩ := jnt_ok (c := c) h hb
  unfold rd1 rd0
  obtain ⟨s1, hs1⟩ : ∃ s1, s1 = jnt s c := ⟨_, rfl⟩
  rw [← hs1] at j1 j2 j3 j6 j7 ⊢
  unfold cf nk no
  by_cases c1 : 97 ≤ c ∧ c ≤ 99
  · have k0 := j6 (Or.inl c1)
    rw [if_pos c1, if_pos k0, if_pos c1, if_neg (by omega), if_neg (by omega)]
    obtain ⟨⟨vs, a1, a2, a3, a4⟩, -⟩ := j1
    rw [k0] at a3
    have a3 : vs.length = ops s1.2.1 := a3
    refine Or.inr ⟨Or.inl c1, _, rfl, ⟨⟨[c - 96] :: vs, fun v hv => ?_, ?_, ?_, a4⟩, by show 1 ≤ 2; decide⟩, ⟨?_, ?_⟩, rfl, j2⟩
    · rcases List.mem_cons.mp hv with rfl | hv
      · exact WF_let (by omega) (by omega)
      · exact a1 v hv
    · rw [a2]; rfl
    · show vs.length + 1 = ops s1.2.1 + 1
      rw [a3]
    · obtain ⟨j3, j4⟩ := j3
      unfold kk at j3
      rw [if_pos k0] at j3
      show (s1.1 ++ [c - 96]).length + s1.2.1.length + 1 ≤ _
      rw [List.length_append, List.length_singleton]
      omega
    · show s1.2.1.length + 1 ≤ n + 1
      obtain ⟨j3, j4⟩ := j3
      omega
  rw [if_neg c1, if_neg c1]
  by_cases c2 : c = 40
  · have k0 := j6 (Or.inr c2)
    rw [if_pos c2, if_pos k0, if_pos c2, if_pos c2]
    obtain ⟨⟨vs, a1, a2, a3, a4⟩, -⟩ := j1
    rw [k0] at a3
    refine Or.inr ⟨Or.inr (Or.inl c2), _, rfl, ⟨⟨vs, a1, a2, ?_, fun t ht => ?_⟩, by show 0 ≤ 2; decide⟩, ⟨?_, ?_⟩, rfl, ?_⟩
    · show vs.length = ops s1.2.1 + 0
      exact a3
    · rcases List.mem_cons.mp ht with rfl | ht
      · exact Or.inr (Or.inr rfl)
      · exact a4 t ht
    · obtain ⟨j3, j4⟩ := j3
      show s1.1.length + (s1.2.1.length + 1) + 0 ≤ _
      omega
    · show s1.2.1.length + 1 + 0 ≤ n + 1
      obtain ⟨j3, j4⟩ := j3
      omega
    · show opn s1.2.1 + 1 = _
      rw [j2]
  rw [if_neg c2, if_neg c2, if_neg c2]
  have es := j7 (by omega)
  rw [es]
  rw [es] at j1
  obtain ⟨⟨vs, a1, a2, a3, a4⟩, a5⟩ := j1
  obtain ⟨b1, b2⟩ := hb
  by_cases c3 : 0 < sgo c
  · have c3' := (sgo_n c3).1
    rw [if_pos c3, if_pos c3, if_neg (show ¬ c = 41 by omega)]
    by_cases k1 : s.2.2 = 1
    · rw [if_pos k1]
      rw [k1] at a3 b1 b2
      have b1 : s.1.length + s.2.1.length + 1 ≤ 2 * n + 1 := b1
      match vs, a1, a2, a3 with
      | v :: r, a1, a2, a3 =>
        have a3 : r.length + 1 = ops s.2.1 + 1 := a3
        refine Or.inr ⟨Or.inr (Or.inr (Or.inl ⟨c3, k1⟩)), _, rfl, ⟨⟨(v ++ [sgo c]) :: r, fun u hu => ?_, ?_, ?_, a4⟩, by show 2 ≤ 2; decide⟩, ⟨?_, ?_⟩, rfl, rfl⟩
        · rcases List.mem_cons.mp hu with rfl | hu
          · exact WF_sign (a1 v List.mem_cons_self) (sgo_n c3).2.1 (sgo_n c3).2.2
          · exact a1 u (List.mem_cons_of_mem _ hu)
        · dsimp only
          rw [a2]
          show fl r ++ v ++ [sgo c] = fl r ++ (v ++ [sgo c])
          rw [List.append_assoc]
        · show r.length + 1 = ops s.2.1 + 1
          exact a3
        · show (s.1 ++ [sgo c]).length + s.2.1.length + 1 ≤ _
          rw [List.length_append, List.length_singleton]
          omega
        · show s.2.1.length + 1 ≤ n + 1
          have : s.2.1.length + 1 ≤ n := b2
          omega
    · rw [if_neg k1]
      exact Or.inl ⟨rfl, by omega⟩
  rw [if_neg c3, if_neg c3]
  by_cases c4 : c = 124
  · rw [if_pos c4, if_pos c4, if_neg (show ¬ c = 41 by omega)]
    by_cases k0 : s.2.2 = 0
    · rw [if_pos k0]
      exact Or.inl ⟨rfl, by omega⟩
    · rw [if_neg k0]
      unfold kk at a3 b1 b2
      rw [if_neg k0] at a3 b1 b2
      obtain ⟨⟨vs', d1, d2, d3, d4⟩, e2, e3, e4, -⟩ := brg_RJ (e := 5) s.2.1 vs s.1 ⟨a1, a2, a3, a4⟩
      refine Or.inr ⟨Or.inr (Or.inr (Or.inr (Or.inl ⟨c4, k0⟩))), _, rfl, ⟨⟨vs', d1, d2, ?_, fun t ht => ?_⟩, by show 0 ≤ 2; decide⟩, ⟨?_, ?_⟩, rfl, ?_⟩
      · show vs'.length = ops (brg 5 s.1 s.2.1).2 + 1 + 0
        exact d3
      · rcases List.mem_cons.mp ht with rfl | ht
        · exact Or.inr (Or.inl rfl)
        · exact d4 t ht
      · show (brg 5 s.1 s.2.1).1.length + ((brg 5 s.1 s.2.1).2.length + 1) + 0 ≤ _
        omega
      · show (brg 5 s.1 s.2.1).2.length + 1 + 0 ≤ n + 1
        omega
      · show opn (brg 5 s.1 s.2.1).2 = _
        exact e2
  rw [if_neg c4, if_neg c4]
  by_cases c5 : c = 41
  · rw [if_pos c5, if_pos c5]
    by_cases k0 : s.2.2 = 0 ∨ opn s.2.1 = 0
    · rw [if_pos k0]
      exact Or.inl ⟨rfl, by omega⟩
    · rw [if_neg k0]
      unfold kk at a3 b1 b2
      rw [if_neg (by omega)] at a3 b1 b2
      obtain ⟨⟨vs', d1, d2, d3, d4⟩, e2, e3, e4, e5⟩ := brg_RJ (e := 5) s.2.1 vs s.1 ⟨a1, a2, a3, a4⟩
      obtain ⟨r, er⟩ : ∃ r, (brg 5 s.1 s.2.1).2 = 9 :: r := by
        rcases e5 rfl with z | z
        · rw [z] at e2
          have : 0 = opn s.2.1 := e2
          omega
        · exact z
      rw [er] at d3 d4 e2 e3 e4 ⊢
      have e2 : opn r + 1 = opn s.2.1 := e2
      have d3 : vs'.length = ops r + 1 := d3
      rw [List.length_cons] at e3 e4
      refine Or.inr ⟨by omega, _, rfl, ⟨⟨vs', d1, d2, d3, fun t ht => d4 t (List.mem_cons_of_mem _ ht)⟩, by show 1 ≤ 2; decide⟩, ⟨?_, ?_⟩, rfl, ?_⟩
      · show (brg 5 s.1 s.2.1).1.length + r.length + 1 ≤ _
        omega
      · show r.length + 1 ≤ n + 1
        omega
      · show opn r = _
        omega
  · rw [if_neg c5]
    exact Or.inl ⟨rfl, by omega⟩
/-- at the end of a whole pattern -/
def rdE (s : rst) : List Nat := (brg 5 s.1 s.2.1).1
theorem rdE_wf {s : rst} (h : RIn s) (ok : rdOk s) : WF (rdE s) ∧ (brg 5 s.1 s.2.1).2 = [] := by
  obtain ⟨⟨vs, hv⟩, -⟩ := h
  unfold kk at hv
  rw [if_neg ok.1] at hv
  obtain ⟨⟨vs', d1, d2, d3, d4⟩, e2, e3, e4, e5⟩ := brg_RJ (e := 5) s.2.1 vs s.1 hv
  rw [ok.2] at e2
  have hn : (brg 5 s.1 s.2.1).2 = [] := by
    rcases e5 rfl with z | ⟨r, z⟩
    · exact z
    · rw [z] at e2
      have : opn r + 1 = 0 := e2
      omega
  refine ⟨?_, hn⟩
  rw [hn] at d3
  have d3 : vs'.length = 1 := d3
  unfold rdE
  rw [d2]
  match vs', d1, d3 with
  | [v], d1, _ =>
    show WF ([] ++ v)
    rw [List.nil_append]
    exact d1 v List.mem_cons_self
/-- along a text -/
theorem rdP_ok : ∀ (T : List Nat) (s : rst) (n : Nat), RIn s → PB n s → RIn (rdP T s).2 ∧ PB (n + (rdP T s).1) (rdP T s).2 ∧ (rdP T s).1 ≤ T.length
  | [], s, n, h, hb => ⟨h, hb, Nat.le_refl _⟩
  | c :: T, s, n, h, hb => by
    unfold rdP
    rcases rd1_ok (c := c) h hb with ⟨e, -⟩ | ⟨-, s', e, h1, h2, -, -⟩
    · rw [e]
      exact ⟨h, hb, Nat.zero_le _⟩
    · rw [e]
      obtain ⟨a, b, d⟩ := rdP_ok T s' (n + 1) h1 h2
      refine ⟨a, ?_, Nat.succ_le_succ d⟩
      rw [show n + ((rdP T s').1 + 1) = n + 1 + (rdP T s').1 by omega]
      exact b
theorem rd1_jnt {s : rst} {c : Nat} : rd1 (jnt s c) c = rd1 s c := by
  unfold rd1
  have e : jnt (jnt s c) c = jnt s c := by
    by_cases q : s.2.2 ≠ 0 ∧ ((97 ≤ c ∧ c ≤ 99) ∨ c = 40)
    · have e1 : (jnt s c).2.2 = 0 := by
        unfold jnt
        rw [if_pos q]
      rw [show jnt (jnt s c) c = jnt s c from if_neg (fun z => z.1 e1)]
    · rw [show jnt s c = s from if_neg q, show jnt s c = s from if_neg q]
  rw [e]
/-- reading goes on from a place -/
def Cont (T : List Nat) (i : Nat) (s : rst) (i' : Nat) (s' : rst) : Prop := rdP (T.drop i) s = (i' - i + (rdP (T.drop i') s').1, (rdP (T.drop i') s').2) ∧ i ≤ i' ∧ i' ≤ T.length
theorem Cont_rf {T : List Nat} {i : Nat} {s : rst} (h : i ≤ T.length) : Cont T i s i s := ⟨by rw [Nat.sub_self, Nat.zero_add], Nat.le_refl _, h⟩
theorem Cont_tr {T : List Nat} {i i' i'' : Nat} {s s' s'' : rst} (a : Cont T i s i' s') (b : Cont T i' s' i'' s'') : Cont T i s i'' s'' := ⟨by
  rw [a.1, b.1]
  have := a.2.1
  have := b.2.1
  refine Prod.ext ?_ rfl
  show i' - i + (i'' - i' + _) = i'' - i + _
  omega, Nat.le_trans a.2.1 b.2.1, b.2.2⟩
theorem drop_c {T : List Nat} {i : Nat} (h : i < T.length) : T.drop i = T.getD i 0 :: T.drop (i + 1) := by
  rw [List.drop_eq_getElem_cons h, List.getD_eq_getElem?_getD, List.getElem?_eq_getElem h]
  rfl
theorem Cont_1 {T : List Nat} {i : Nat} {s s' : rst} (h : i < T.length) (e : rd1 s (T.getD i 0) = some s') : Cont T i s (i + 1) s' := by
  refine ⟨?_, by omega, h⟩
  rw [drop_c h]
  unfold rdP
  rw [e]
  dsimp only
  rw [show i + 1 - i = 1 by omega, Nat.add_comm]
  match T.drop (i + 1) with
  | [] => rfl
  | c :: r => rfl
theorem Cont_j {T : List Nat} {i : Nat} {s s' : rst} (h : i < T.length) (e : rd1 s (T.getD i 0) = some s') : Cont T i s i (jnt s (T.getD i 0)) := by
  refine ⟨?_, Nat.le_refl _, by omega⟩
  rw [drop_c h, Nat.sub_self, Nat.zero_add]
  unfold rdP
  rw [rd1_jnt, e]
