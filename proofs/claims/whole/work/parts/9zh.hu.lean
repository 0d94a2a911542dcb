/-! the bound for patterns of one letter -/
def UQ (c : Nat) (p : List Nat) (A : Lng) : Prop := nLet p ≤ 7 → (∀ d ∈ p, d < 4 → d = c) → Trc (c - 1) (nLet p) A ∧ Nbr (c - 1) (nLet p) A
theorem UQ_let (c e : Nat) (h1 : 1 ≤ e) (h3 : e ≤ 3) : UQ c [e] (fun w => w = [e - 1]) := fun _ h => by
  have ee := h e (List.mem_singleton.mpr rfl) (by omega)
  rw [nLet_one, if_pos (by omega), ee]
  exact ⟨Trc_let _, Nbr_let _⟩
theorem UQ_sig (c : Nat) (x : List Nat) (s : Nat) (A : Lng) (hw : WF x) (h : UQ c x A) (h1 : 6 ≤ s) (h3 : s ≤ 8) : UQ c (x ++ [s]) (lSig s A) := fun h7 hc => by
  have hl : nLet (x ++ [s]) = nLet x := by rw [nLet_app, nLet_one, if_neg (by omega), Nat.add_zero]
  rw [hl] at h7 ⊢
  obtain ⟨ht, hn⟩ := h h7 (fun d hd => hc d (List.mem_append_left _ hd))
  have hp := nLet_pos hw
  unfold lSig
  by_cases e6 : s = 6
  · rw [if_pos e6]
    exact ⟨Trc_opt (Trc_pls ht), Nbr_opt hp (Nbr_pls hp h7 ht hn)⟩
  rw [if_neg e6]
  by_cases e7 : s = 7
  · rw [if_pos e7]
    exact ⟨Trc_pls ht, Nbr_pls hp h7 ht hn⟩
  rw [if_neg e7]
  exact ⟨Trc_opt ht, Nbr_opt hp hn⟩
theorem UQ_bin (c : Nat) (x y : List Nat) (s : Nat) (A B : Lng) (_ : WF x) (h : UQ c x A) (_ : WF y) (h' : UQ c y B) (hs : s = 4 ∨ s = 5) : UQ c (x ++ y ++ [s]) (lBin s A B) := fun h7 hc => by
  have hl : nLet (x ++ y ++ [s]) = nLet x + nLet y := by rw [nLet_app, nLet_app, nLet_one, if_neg (by omega), Nat.add_zero]
  rw [hl] at h7 ⊢
  obtain ⟨ht, hn⟩ := h (by omega) (fun d hd => hc d (List.mem_append_left _ (List.mem_append_left _ hd)))
  obtain ⟨ht', hn'⟩ := h' (by omega) (fun d hd => hc d (List.mem_append_left _ (List.mem_append_right _ hd)))
  unfold lBin
  by_cases e5 : s = 5
  · rw [if_pos e5]
    exact ⟨Trc_un ht ht', Nbr_un h7 hn hn'⟩
  rw [if_neg e5]
  exact ⟨Trc_cat ht ht', Nbr_cat h7 hn hn'⟩
theorem hu : HU := by
  intro p p' c hw hw' h7 h7' hc hc' k hd
  obtain ⟨e, he, e4⟩ := let_ex hw
  have ec := hc e he e4
  have c1 := (WF_mem hw e he).1
  rw [ec] at c1 e4
  obtain ⟨A, a1, a2⟩ := Lg_glu (P := UQ c) (UQ_let c) (UQ_sig c) (UQ_bin c) hw h7
  obtain ⟨B, b1, b2⟩ := Lg_glu (P := UQ c) (UQ_let c) (UQ_sig c) (UQ_bin c) hw' h7'
  obtain ⟨ta, -, I, P, hP, hI, hn⟩ := a2 h7 hc
  obtain ⟨tb, -, I', P', hP', hI', hn'⟩ := b2 h7' hc'
  have okp := prP_le hP
  have okp' := prP_le hP'
  refine Decidable.byContradiction fun z => ?_
  obtain ⟨⟨w, w1, w2, w3⟩, hlt⟩ := isD_acc hd
  have l3 : ∀ n, le3 (List.replicate n (c - 1)) := fun n d hd => by
    rw [(List.mem_replicate.mp hd).2]
    omega
  have ag : ∀ n, n < k → (A (List.replicate n (c - 1)) ↔ B (List.replicate n (c - 1))) := fun n hn => by
    have := hlt _ (l3 n) (by rw [List.length_replicate]; exact hn)
    rw [← a1, ← b1, this]
  have q1 := hn (k - P) (by omega)
  have q2 := hn' (k - P - P') (by omega)
  have q3 := hn (k - P' - P) (by omega)
  have q4 := hn' (k - P') (by omega)
  rw [show k - P + P = k by omega] at q1
  rw [show k - P - P' + P' = k - P by omega] at q2
  rw [show k - P' - P + P = k - P' by omega, show k - P' - P = k - P - P' by omega] at q3
  rw [show k - P' + P' = k by omega] at q4
  have r1 := ag (k - P) (by omega)
  have r2 := ag (k - P - P') (by omega)
  have r3 := ag (k - P') (by omega)
  have key : A (List.replicate k (c - 1)) ↔ B (List.replicate k (c - 1)) := q1.symm.trans (r1.trans (q2.symm.trans (r2.symm.trans (q3.trans (r3.trans q4)))))
  have fa : ∀ {T : Lng}, Trc (c - 1) (nLet p) T → T w → w = List.replicate k (c - 1) := fun {T} h hT => by
    obtain ⟨S, -, -, s3⟩ := h 0
    obtain ⟨t, -, e⟩ := (s3 w).mp hT
    have l := congrArg List.length e
    rw [List.length_replicate, w2] at l
    rw [l]
    exact e
  have fb : ∀ {T : Lng}, Trc (c - 1) (nLet p') T → T w → w = List.replicate k (c - 1) := fun {T} h hT => by
    obtain ⟨S, -, -, s3⟩ := h 0
    obtain ⟨t, -, e⟩ := (s3 w).mp hT
    have l := congrArg List.length e
    rw [List.length_replicate, w2] at l
    rw [l]
    exact e
  refine w3 (Bool.eq_iff_iff.mpr ((a1 w).trans (Iff.trans ⟨fun h => ?_, fun h => ?_⟩ (b1 w).symm)))
  · have e := fa ta h
    rw [e] at h ⊢
    exact key.mp h
  · have e := fb tb h
    rw [e] at h ⊢
    exact key.mpr h
