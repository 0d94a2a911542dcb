/-! patterns with different letters are told apart by at most 7 letters -/
theorem Lg_ind {P : List Nat → Lng → Prop} (hl : ∀ c, 1 ≤ c → c ≤ 3 → P [c] (fun w => w = [c - 1])) (hs : ∀ x c A, WF x → P x A → 6 ≤ c → c ≤ 8 → P (x ++ [c]) (lSig c A)) (hb : ∀ x y c A B, WF x → P x A → WF y → P y B → (c = 4 ∨ c = 5) → P (x ++ y ++ [c]) (lBin c A B)) {p : List Nat} (hw : WF p) : ∃ A, (∀ st, lrun st p = A :: st) ∧ P p A := by
  refine WF_ind (P := fun p => ∃ A, (∀ st, lrun st p = A :: st) ∧ P p A) (fun c h1 h3 => ?_) (fun x c wx ih h1 h3 => ?_) (fun x y c wx ihx wy ihy hc => ?_) hw
  · refine ⟨_, fun st => ?_, hl c h1 h3⟩
    rw [lrun_1]
    unfold lstp
    rw [if_pos (by omega)]
  · obtain ⟨A, e, pa⟩ := ih
    refine ⟨_, fun st => ?_, hs x c A wx pa h1 h3⟩
    rw [lrun_app, e, lrun_1]
    unfold lstp
    rw [if_neg (by omega), if_pos h1]
  · obtain ⟨A, e, pa⟩ := ihx
    obtain ⟨B, e', pb⟩ := ihy
    refine ⟨_, fun st => ?_, hb x y c A B wx pa wy pb hc⟩
    rw [lrun_app, lrun_app, e, e', lrun_1]
    unfold lstp
    rw [if_neg (by omega), if_neg (by omega)]
/-- the language of the automaton by such an induction -/
theorem Lg_glu {P : List Nat → Lng → Prop} (hl : ∀ c, 1 ≤ c → c ≤ 3 → P [c] (fun w => w = [c - 1])) (hs : ∀ x c A, WF x → P x A → 6 ≤ c → c ≤ 8 → P (x ++ [c]) (lSig c A)) (hb : ∀ x y c A B, WF x → P x A → WF y → P y B → (c = 4 ∨ c = 5) → P (x ++ y ++ [c]) (lBin c A B)) {p : List Nat} (hw : WF p) (h7 : nLet p ≤ 7) : ∃ A, (∀ w, accW (gluOf p) w = true ↔ A w) ∧ P p A := by
  obtain ⟨A, e, pa⟩ := Lg_ind (P := P) hl hs hb hw
  obtain ⟨B, b, e', -, -, -, -, hg⟩ := glu_lang hw h7
  rw [e []] at e'
  injection e' with e1 e2
  rw [← e1] at hg
  exact ⟨A, hg, pa⟩
def UW (p : List Nat) (A : Lng) : Prop := (∃ w, le3 w ∧ w.length ≤ nLet p ∧ A w) ∧ (∀ c ∈ p, c < 4 → ∃ w, le3 w ∧ w.length ≤ nLet p ∧ A w ∧ (c - 1) ∈ w) ∧ ∀ w, A w → ∀ x ∈ w, x + 1 ∈ p ∧ x < 3
theorem UW_let (c : Nat) (h1 : 1 ≤ c) (h3 : c ≤ 3) : UW [c] (fun w => w = [c - 1]) := by
  have hl : nLet [c] = 1 := by rw [nLet_one, if_pos (by omega)]
  have l3 : le3 [c - 1] := fun d hd => by rw [List.mem_singleton.mp hd]; omega
  refine ⟨⟨[c - 1], l3, by rw [hl]; exact Nat.le_refl _, rfl⟩, fun d hd _ => ?_, fun w e x hx => ?_⟩
  · rw [List.mem_singleton.mp hd]
    exact ⟨[c - 1], l3, by rw [hl]; exact Nat.le_refl _, rfl, List.mem_singleton.mpr rfl⟩
  · have e : w = [c - 1] := e
    rw [e] at hx
    rw [List.mem_singleton.mp hx]
    exact ⟨by rw [show c - 1 + 1 = c by omega]; exact List.mem_singleton.mpr rfl, by omega⟩
theorem lPls_mem {A : Lng} {w : List Nat} (h : lPls A w) {Q : Nat → Prop} (hq : ∀ u, A u → ∀ x ∈ u, Q x) : ∀ x ∈ w, Q x := by
  obtain ⟨us, -, h2, rfl⟩ := h
  intro x hx
  obtain ⟨u, hu, hxu⟩ := List.mem_flatten.mp hx
  exact hq u (h2 u hu) x hxu
theorem lPls_1 {A : Lng} {w : List Nat} (h : A w) : lPls A w := ⟨[w], List.cons_ne_nil _ _, fun u hu => by rw [List.mem_singleton.mp hu]; exact h, by simp⟩
theorem UW_sig (x : List Nat) (c : Nat) (A : Lng) (_ : WF x) (h : UW x A) (h1 : 6 ≤ c) (h3 : c ≤ 8) : UW (x ++ [c]) (lSig c A) := by
  have hl : nLet (x ++ [c]) = nLet x := by rw [nLet_app, nLet_one, if_neg (by omega), Nat.add_zero]
  obtain ⟨⟨w0, a1, a2, a3⟩, b, d⟩ := h
  have up : ∀ w, A w → lSig c A w := fun w hw => by
    unfold lSig
    by_cases e6 : c = 6
    · rw [if_pos e6]; exact Or.inr (lPls_1 hw)
    · rw [if_neg e6]
      by_cases e7 : c = 7
      · rw [if_pos e7]; exact lPls_1 hw
      · rw [if_neg e7]; exact Or.inr hw
  refine ⟨⟨w0, a1, by rw [hl]; exact a2, up w0 a3⟩, fun e he h4 => ?_, fun w hw y hy => ?_⟩
  · rcases List.mem_append.mp he with z | z
    · obtain ⟨w, w1, w2, w3, w4⟩ := b e z h4
      exact ⟨w, w1, by rw [hl]; exact w2, up w w3, w4⟩
    · rw [List.mem_singleton.mp z] at h4
      omega
  · have key : y + 1 ∈ x ∧ y < 3 := by
      unfold lSig at hw
      by_cases e6 : c = 6
      · rw [if_pos e6] at hw
        rcases hw with rfl | hw
        · exact absurd hy (by simp)
        · exact lPls_mem hw d y hy
      · rw [if_neg e6] at hw
        by_cases e7 : c = 7
        · rw [if_pos e7] at hw; exact lPls_mem hw d y hy
        · rw [if_neg e7] at hw
          rcases hw with rfl | hw
          · exact absurd hy (by simp)
          · exact d w hw y hy
    exact ⟨List.mem_append_left _ key.1, key.2⟩
theorem UW_bin (x y : List Nat) (c : Nat) (A B : Lng) (_ : WF x) (h : UW x A) (_ : WF y) (h' : UW y B) (hc : c = 4 ∨ c = 5) : UW (x ++ y ++ [c]) (lBin c A B) := by
  have hl : nLet (x ++ y ++ [c]) = nLet x + nLet y := by rw [nLet_app, nLet_app, nLet_one, if_neg (by omega), Nat.add_zero]
  obtain ⟨⟨u0, a1, a2, a3⟩, b, d⟩ := h
  obtain ⟨⟨v0, a1', a2', a3'⟩, b', d'⟩ := h'
  unfold lBin
  by_cases e5 : c = 5
  · rw [if_pos e5]
    refine ⟨⟨u0, a1, by omega, Or.inl a3⟩, fun e he h4 => ?_, fun w hw z hz => ?_⟩
    · rcases List.mem_append.mp he with q | q
      · rcases List.mem_append.mp q with q | q
        · obtain ⟨w, w1, w2, w3, w4⟩ := b e q h4
          exact ⟨w, w1, by omega, Or.inl w3, w4⟩
        · obtain ⟨w, w1, w2, w3, w4⟩ := b' e q h4
          exact ⟨w, w1, by omega, Or.inr w3, w4⟩
      · rw [List.mem_singleton.mp q] at h4
        omega
    · rcases hw with hw | hw
      · exact ⟨List.mem_append_left _ (List.mem_append_left _ (d w hw z hz).1), (d w hw z hz).2⟩
      · exact ⟨List.mem_append_left _ (List.mem_append_right _ (d' w hw z hz).1), (d' w hw z hz).2⟩
  · rw [if_neg e5]
    refine ⟨⟨u0 ++ v0, le3_app a1 a1', by rw [List.length_append]; omega, u0, v0, rfl, a3, a3'⟩, fun e he h4 => ?_, fun w hw z hz => ?_⟩
    · rcases List.mem_append.mp he with q | q
      · rcases List.mem_append.mp q with q | q
        · obtain ⟨w, w1, w2, w3, w4⟩ := b e q h4
          exact ⟨w ++ v0, le3_app w1 a1', by rw [List.length_append]; omega, ⟨w, v0, rfl, w3, a3'⟩, List.mem_append_left _ w4⟩
        · obtain ⟨w, w1, w2, w3, w4⟩ := b' e q h4
          exact ⟨u0 ++ w, le3_app a1 w1, by rw [List.length_append]; omega, ⟨u0, w, rfl, a3, w3⟩, List.mem_append_right _ w4⟩
      · rw [List.mem_singleton.mp q] at h4
        omega
    · obtain ⟨u, v, rfl, hu, hv⟩ := hw
      rcases List.mem_append.mp hz with q | q
      · exact ⟨List.mem_append_left _ (List.mem_append_left _ (d u hu z q).1), (d u hu z q).2⟩
      · exact ⟨List.mem_append_left _ (List.mem_append_right _ (d' v hv z q).1), (d' v hv z q).2⟩
theorem bd_let {p p' : List Nat} (hw : WF p) (hw' : WF p') (h7 : nLet p ≤ 7) (h7' : nLet p' ≤ 7) {c : Nat} (hc : c ∈ p) (h4 : c < 4) (hn : c ∉ p') : ∃ w, le3 w ∧ w.length ≤ 7 ∧ accW (gluOf p) w ≠ accW (gluOf p') w := by
  obtain ⟨A, a1, -, a2, -⟩ := Lg_glu (P := UW) UW_let UW_sig UW_bin hw h7
  obtain ⟨B, b1, -, -, b2⟩ := Lg_glu (P := UW) UW_let UW_sig UW_bin hw' h7'
  have c1 := (WF_mem hw c hc).1
  obtain ⟨w, w1, w2, w3, w4⟩ := a2 c hc h4
  refine ⟨w, w1, by omega, fun e => ?_⟩
  rw [(a1 w).mpr w3] at e
  have := (b2 w ((b1 w).mp e.symm) _ w4).1
  rw [show c - 1 + 1 = c by omega] at this
  exact hn this
