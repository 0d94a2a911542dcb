/-! how many states an automaton with two letters has -/
def ixL : List Nat → Nat → Nat
  | [], _ => 0
  | a :: l, x => if a = x then 0 else ixL l x + 1
theorem ixL_lt : ∀ (l : List Nat) (x : Nat), x ∈ l → ixL l x < l.length
  | [], x, h => absurd h (by simp)
  | a :: l, x, h => by
    unfold ixL
    by_cases q : a = x
    · rw [if_pos q]; exact Nat.succ_pos _
    · rw [if_neg q]
      rcases List.mem_cons.mp h with z | z
      · exact absurd z.symm q
      · exact Nat.succ_lt_succ (ixL_lt l x z)
theorem ixL_inj : ∀ (l : List Nat) (x y : Nat), x ∈ l → y ∈ l → ixL l x = ixL l y → x = y
  | [], x, y, h, _, _ => absurd h (by simp)
  | a :: l, x, y, hx, hy, e => by
    unfold ixL at e
    by_cases q : a = x
    · rw [if_pos q] at e
      by_cases q' : a = y
      · omega
      · rw [if_neg q'] at e; omega
    · rw [if_neg q] at e
      by_cases q' : a = y
      · rw [if_pos q'] at e; omega
      · rw [if_neg q'] at e
        rcases List.mem_cons.mp hx with z | z
        · exact absurd z.symm q
        · rcases List.mem_cons.mp hy with z' | z'
          · exact absurd z'.symm q'
          · exact ixL_inj l x y z z' (by omega)
theorem gL_list {g : Glu} {Q : List Nat} (h0 : 128 ∈ Q) (hc : ∀ q ∈ Q, ∀ c, c < 3 → gnext g q c ∈ Q) : gL g ≤ Q.length := by
  have run : ∀ (w : List Nat), le3 w → ∀ q ∈ Q, rn (gnext g) q w ∈ Q := fun w => by
    induction w with
    | nil => exact fun _ q hq => by rw [rn_nil]; exact hq
    | cons c w ih =>
      intro hw q hq
      rw [rn_cn]
      exact ih (fun d hd => hw d (List.mem_cons_of_mem _ hd)) _ (hc q hq c (hw c List.mem_cons_self))
  have mem : ∀ j, j < gL g → gO g j ∈ Q := fun j hj => by
    rw [← st_bN j hj]
    exact run _ (wd_le3 _) _ h0
  exact pg_le Q.length (gL g) (fun j => ixL Q (gO g j)) (fun j hj => ixL_lt _ _ (mem j hj)) (fun i j hi hj e => gO_inj g hi hj (ixL_inj _ _ _ (mem i hi) (mem j hj) e))
/-- each position has one letter -/
def DI (s : gst) : Prop := ∀ c k, (s.2.2.1 c).testBit k = true → k < s.2.2.2 ∧ c < 3 ∧ ∀ c', c' ≠ c → (s.2.2.1 c').testBit k = false
theorem tb_or2 {v p k : Nat} : (v ||| 2 ^ p).testBit k = true ↔ v.testBit k = true ∨ k = p := by
  rw [or_b, Nat.testBit_two_pow, decide_eq_true_eq]
  exact ⟨fun h => h.elim Or.inl (fun z => Or.inr z.symm), fun h => h.elim Or.inl (fun z => Or.inr z.symm)⟩
theorem gstep_ol {s : gst} {c : Nat} (h : ¬ c < 4) : (gstep s c).2.2 = s.2.2 := by
  unfold gstep
  rw [if_neg h]
  split
  · unfold gsign
    split <;> rfl
  · unfold gjoin
    split
    · split <;> rfl
    · rfl
theorem DI_step {s : gst} {c : Nat} (h : DI s) (h1 : 1 ≤ c) : DI (gstep s c) := by
  by_cases q : c < 4
  · have e : (gstep s c).2.2 = (up s.2.2.1 (c - 1) (s.2.2.1 (c - 1) ||| 2 ^ s.2.2.2), s.2.2.2 + 1) := by
      unfold gstep
      rw [if_pos q]
    unfold DI
    rw [e]
    intro d k hk
    have hk : (up s.2.2.1 (c - 1) (s.2.2.1 (c - 1) ||| 2 ^ s.2.2.2) d).testBit k = true := hk
    show k < s.2.2.2 + 1 ∧ d < 3 ∧ ∀ c', c' ≠ d → (up s.2.2.1 (c - 1) (s.2.2.1 (c - 1) ||| 2 ^ s.2.2.2) c').testBit k = false
    have fr : ∀ c', (s.2.2.1 c').testBit s.2.2.2 = false := fun c' => by
      cases z : (s.2.2.1 c').testBit s.2.2.2 with
      | false => rfl
      | true => exact absurd (h c' _ z).1 (Nat.lt_irrefl _)
    by_cases qd : d = c - 1
    · rw [qd, up_at] at hk
      rcases tb_or2.mp hk with z | z
      · obtain ⟨a1, a2, a3⟩ := h _ _ z
        refine ⟨by omega, by omega, fun c' hc' => ?_⟩
        rw [up_ne _ _ (by omega)]
        exact a3 c' (by omega)
      · refine ⟨by omega, by omega, fun c' hc' => ?_⟩
        rw [up_ne _ _ (by omega), z]
        exact fr c'
    · rw [up_ne _ _ qd] at hk
      obtain ⟨a1, a2, a3⟩ := h _ _ hk
      refine ⟨by omega, a2, fun c' hc' => ?_⟩
      by_cases qc : c' = c - 1
      · rw [qc, up_at]
        cases z : (s.2.2.1 (c - 1) ||| 2 ^ s.2.2.2).testBit k with
        | false => rfl
        | true =>
          rcases tb_or2.mp z with y | y
          · rw [a3 (c - 1) (by omega)] at y; cases y
          · omega
      · rw [up_ne _ _ qc]
        exact a3 c' hc'
  · have e := gstep_ol (s := s) q
    unfold DI
    rw [e]
    exact h
theorem DI_run : ∀ (p : List Nat) (s : gst), (∀ c ∈ p, 1 ≤ c) → DI s → DI (grun s p)
  | [], s, _, h => h
  | c :: p, s, hp, h => DI_run p (gstep s c) (fun x hx => hp x (List.mem_cons_of_mem _ hx)) (DI_step h (hp c List.mem_cons_self))
theorem ol_mono {s : gst} {c d k : Nat} (h : (s.2.2.1 d).testBit k = true) : ((gstep s c).2.2.1 d).testBit k = true := by
  by_cases q : c < 4
  · unfold gstep
    rw [if_pos q]
    show (up s.2.2.1 (c - 1) (s.2.2.1 (c - 1) ||| 2 ^ s.2.2.2) d).testBit k = true
    by_cases qd : d = c - 1
    · rw [qd, up_at]
      exact tb_or2.mpr (Or.inl (by rw [← qd]; exact h))
    · rw [up_ne _ _ qd]; exact h
  · rw [gstep_ol q]; exact h
theorem ol_run {d k : Nat} : ∀ (p : List Nat) (s : gst), (s.2.2.1 d).testBit k = true → ((grun s p).2.2.1 d).testBit k = true
  | [], s, h => h
  | c :: p, s, h => ol_run p (gstep s c) (ol_mono h)
theorem ol_has {c : Nat} (h4 : c < 4) : ∀ (p : List Nat) (s : gst), c ∈ p → ∃ k, ((grun s p).2.2.1 (c - 1)).testBit k = true
  | [], s, h => absurd h (by simp)
  | d :: p, s, h => by
    by_cases q : c = d
    · refine ⟨s.2.2.2, ol_run p (gstep s d) ?_⟩
      rw [← q]
      unfold gstep
      rw [if_pos h4]
      show (up s.2.2.1 (c - 1) (s.2.2.1 (c - 1) ||| 2 ^ s.2.2.2) (c - 1)).testBit s.2.2.2 = true
      rw [up_at]
      exact tb_or2.mpr (Or.inr rfl)
    · rcases List.mem_cons.mp h with z | z
      · exact absurd z q
      · exact ol_has h4 p (gstep s d) z
/-! counting sets -/
def subs (m : Nat) : List Nat := (List.range 128).filter fun x => decide (x &&& m = x)
theorem subs_len : ∀ m, m < 128 → (subs m).length = 2 ^ ct m := by decide +kernel
theorem mem_subs {m x : Nat} : x ∈ subs m ↔ x < 128 ∧ x &&& m = x := by
  unfold subs
  rw [List.mem_filter, List.mem_range, decide_eq_true_eq]
theorem ct_or : ∀ a, a < 128 → ∀ b, b < 128 → a &&& b = 0 → ct (a ||| b) = ct a + ct b := by decide +kernel
theorem ct_7 (v : Nat) : ct v ≤ 7 := csn_le _ _
theorem and_self2 (x m : Nat) : (x &&& m) &&& m = x &&& m := by rw [Nat.and_assoc, Nat.and_self]
theorem gnext_sub {g : Glu} (ok : GluOK g) (q c : Nat) : gnext g q c ∈ subs (g.2.2.2.2 c) := mem_subs.mpr ⟨gnext_lt ok q c, by unfold gnext; rw [and_self2]⟩
theorem pow5 : ∀ a, a < 6 → ∀ b, b < 6 → ∀ c, c < 6 → a + b + c ≤ 7 → 1 + (2 ^ a + (2 ^ b + 2 ^ c)) ≤ 60 := by decide
/-- at most five positions of each letter -/
theorem gL_5 {g : Glu} (ok : GluOK g) (h0 : ct (g.2.2.2.2 0) < 6) (h1 : ct (g.2.2.2.2 1) < 6) (h2 : ct (g.2.2.2.2 2) < 6) (hs : ct (g.2.2.2.2 0) + ct (g.2.2.2.2 1) + ct (g.2.2.2.2 2) ≤ 7) : gL g ≤ 60 := by
  have hl := gL_list (g := g) (Q := 128 :: (subs (g.2.2.2.2 0) ++ (subs (g.2.2.2.2 1) ++ subs (g.2.2.2.2 2)))) List.mem_cons_self (fun q _ c hc => by
    have := gnext_sub ok q c
    refine List.mem_cons_of_mem _ ?_
    have h3 : c = 0 ∨ c = 1 ∨ c = 2 := by omega
    rcases h3 with rfl | rfl | rfl
    · exact List.mem_append_left _ this
    · exact List.mem_append_right _ (List.mem_append_left _ this)
    · exact List.mem_append_right _ (List.mem_append_right _ this))
  rw [List.length_cons, List.length_append, List.length_append, subs_len _ (ok.2.2.2.2 0), subs_len _ (ok.2.2.2.2 1), subs_len _ (ok.2.2.2.2 2)] at hl
  have := pow5 _ h0 _ h1 _ h2 hs
  omega
