/-! the start, and the law -/
theorem rO_no {r : Nat} : ∀ {O : List stp}, (∀ o ∈ O, ¬ (2 ≤ o.1 ∧ r = o.2.1)) → ∀ k, rO O r k = none
  | [], _, _ => rfl
  | o :: O, h, k => by
    show (if o.1 = 0 ∧ r = nO O then none else if 2 ≤ o.1 ∧ r = o.2.1 ∧ k = o.2.2.1 then some (o.1 - 2) else rO O r k) = none
    split
    · rfl
    · rw [if_neg (fun z => h o List.mem_cons_self ⟨z.1, z.2.1⟩)]
      exact rO_no (fun x hx => h x (List.mem_cons_of_mem _ hx)) k
theorem rO_hi {r m : Nat} : ∀ {O : List stp}, (∀ o ∈ O, 2 ≤ o.1 → r = o.2.1 → o.2.2.1 < m) → ∀ k, m ≤ k → rO O r k = none
  | [], _, _, _ => rfl
  | o :: O, h, k, hk => by
    show (if o.1 = 0 ∧ r = nO O then none else if 2 ≤ o.1 ∧ r = o.2.1 ∧ k = o.2.2.1 then some (o.1 - 2) else rO O r k) = none
    split
    · rfl
    · rw [if_neg (fun z => by
        have := h o List.mem_cons_self z.1 z.2.1
        omega)]
      exact rO_hi (fun x hx => h x (List.mem_cons_of_mem _ hx)) k hk
theorem iO_no {r : Nat} : ∀ {O : List stp}, (∀ o ∈ O, ¬ (o.1 = 1 ∧ r = o.2.1)) → ∀ k, iO O r k = 0
  | [], _, _ => rfl
  | o :: O, h, k => by
    show (if o.1 = 0 ∧ r = nO O then 0 else if o.1 = 1 ∧ r = o.2.1 ∧ k = o.2.2.1 then o.2.2.2 else iO O r k) = 0
    split
    · rfl
    · rw [if_neg (fun z => h o List.mem_cons_self ⟨z.1, z.2.1⟩)]
      exact iO_no (fun x hx => h x (List.mem_cons_of_mem _ hx)) k
theorem kC_ok : ∀ r, r < 97 → kO OF r = KC r ∧ zO OF r = SC r := by decide +kernel
theorem kM_ok : ∀ r, r < 34 → kO OF (97 + r) = KM r ∧ zO OF (97 + r) = SM r := by decide +kernel
theorem RC_ok (r k q : Nat) (h : RC r k = some q) : rO OF r k = some q := by
  unfold RC at h
  split at h
  all_goals first
    | (cases h; decide +kernel)
    | cases h
theorem RM_ok (r k q : Nat) (h : RMr r k = some q) : rO OF (97 + r) k = some (97 + q) := by
  unfold RMr at h
  split at h
  all_goals first
    | (cases h; decide +kernel)
    | cases h
theorem RM_no (r k : Nat) (hr : r < 34) (h : RMr r k = none) : rO OF (97 + r) k = none := by
  by_cases r0 : r = 0
  · subst r0
    by_cases hk : k < 50
    · have : ∀ k, k < 50 → RMr 0 k = none → rO OF (97 + 0) k = none := by decide +kernel
      exact this k hk h
    · exact rO_hi (m := 50) (by decide +kernel) k (by omega)
  · have : ∀ r, r < 34 → r ≠ 0 → ∀ o ∈ OF, ¬ (2 ≤ o.1 ∧ 97 + r = o.2.1) := by decide +kernel
    exact rO_no (this r hr r0) k
def A00 : Nat → Nat → Int32 := fun r k => iO OF r k
def M00 : Nat → Nat → Int32 := fun r k => iO OF (97 + r) k
def R00 (N : Nat) : Nat → Nat → Option Nat := fun r k => (rO OF r k).map (N + ·)
theorem start_E (N : Nat) : hp N OF = E N (hp N OF) A00 M00 (R00 N) := by
  have e1 : kd (hp N OF) = fun b => if b < N then kd (hp N OF) b else if b < N + 97 then KC (b - N) else if b < N + 131 then KM (b - N - 97) else kd (hp N OF) b := by
    funext b
    by_cases q1 : b < N
    · rw [if_pos q1]
    · rw [if_neg q1]
      obtain ⟨r, rfl⟩ : ∃ r, b = N + r := ⟨b - N, by omega⟩
      by_cases q2 : N + r < N + 97
      · rw [if_pos q2, hp_kd, (kC_ok r (by omega)).1]
        congr 1
        omega
      · rw [if_neg q2]
        by_cases q3 : N + r < N + 131
        · obtain ⟨s, rfl⟩ : ∃ s, r = 97 + s := ⟨r - 97, by omega⟩
          rw [if_pos q3, hp_kd, (kM_ok s (by omega)).1]
          congr 1
          omega
        · rw [if_neg q3]
  have e2 : sz (hp N OF) = fun b => if b < N then sz (hp N OF) b else if b < N + 97 then SC (b - N) else if b < N + 131 then SM (b - N - 97) else sz (hp N OF) b := by
    funext b
    by_cases q1 : b < N
    · rw [if_pos q1]
    · rw [if_neg q1]
      obtain ⟨r, rfl⟩ : ∃ r, b = N + r := ⟨b - N, by omega⟩
      by_cases q2 : N + r < N + 97
      · rw [if_pos q2, hp_sz, (kC_ok r (by omega)).2]
        congr 1
        omega
      · rw [if_neg q2]
        by_cases q3 : N + r < N + 131
        · obtain ⟨s, rfl⟩ : ∃ s, r = 97 + s := ⟨r - 97, by omega⟩
          rw [if_pos q3, hp_sz, (kM_ok s (by omega)).2]
          congr 1
          omega
        · rw [if_neg q3]
  have e3 : gi (hp N OF) = fun b j => if b < N then gi (hp N OF) b j else if b < N + 97 then A00 (b - N) j else if b < N + 131 then M00 (b - N - 97) j else gi (hp N OF) b j := by
    funext b j
    by_cases q1 : b < N
    · rw [if_pos q1]
    · rw [if_neg q1]
      obtain ⟨r, rfl⟩ : ∃ r, b = N + r := ⟨b - N, by omega⟩
      by_cases q2 : N + r < N + 97
      · rw [if_pos q2, hp_gi, show N + r - N = r by omega]
        rfl
      · rw [if_neg q2]
        by_cases q3 : N + r < N + 131
        · obtain ⟨s, rfl⟩ : ∃ s, r = 97 + s := ⟨r - 97, by omega⟩
          rw [if_pos q3, hp_gi, show N + (97 + s) - N - 97 = s by omega]
          rfl
        · rw [if_neg q3]
  have e4 : gr (hp N OF) = fun b j => if b < N then gr (hp N OF) b j else if b < N + 97 then (match RC (b - N) j with | some q => some (N + q) | none => R00 N (b - N) j) else if b < N + 131 then (match RMr (b - N - 97) j with | some q => some (N + 97 + q) | none => none) else gr (hp N OF) b j := by
    funext b j
    by_cases q1 : b < N
    · rw [if_pos q1]
    · rw [if_neg q1]
      obtain ⟨r, rfl⟩ : ∃ r, b = N + r := ⟨b - N, by omega⟩
      by_cases q2 : N + r < N + 97
      · rw [if_pos q2, hp_gr, show N + r - N = r by omega]
        cases e : RC r j with
        | none => rfl
        | some q => rw [RC_ok r j q e]; rfl
      · rw [if_neg q2]
        by_cases q3 : N + r < N + 131
        · obtain ⟨s, rfl⟩ : ∃ s, r = 97 + s := ⟨r - 97, by omega⟩
          rw [if_pos q3, hp_gr, show N + (97 + s) - N - 97 = s by omega]
          cases e : RMr s j with
          | none => rw [RM_no s j (by omega) e]; rfl
          | some q =>
            rw [RM_ok s j q e]
            show some (N + (97 + q)) = some (N + 97 + q)
            rw [Nat.add_assoc]
        · rw [if_neg q3]
  show (nx (hp N OF), kd (hp N OF), sz (hp N OF), gi (hp N OF), gr (hp N OF), gl (hp N OF), gd (hp N OF)) = _
  unfold E
  rw [← e1, ← e2, ← e3]
  exact congrArg (fun G => (nx (hp N OF), kd (hp N OF), sz (hp N OF), gi (hp N OF), G, gl (hp N OF), gd (hp N OF))) e4
def L00 : Lib := (fun _ => [], [], 0)
def S00 : St := (L00, [], none, [], none, none, [])
theorem start_G : GoodS S00 := ⟨⟨fun s _ => Or.inl rfl, by decide, fun w hw => absurd hw (by show ¬ w ∈ []; simp)⟩, fun L hL => absurd hL (by show ¬ L ∈ []; simp), by decide, fun L hL => absurd hL (by show ¬ L ∈ none; simp), by decide, fun c hc => absurd hc (by show ¬ c ∈ []; simp), fun e he => absurd he (by show ¬ e ∈ none; simp), fun e he => absurd he (by show ¬ e ∈ none; simp), by decide, fun c hc => absurd hc (by show ¬ c ∈ []; simp)⟩
theorem start_C (N : Nat) : IC N (hp N OF) A00 (R00 N) S00 := by
  refine ⟨⟨?_, ?_, ?_, ?_, ?_⟩, ⟨by decide +kernel, by decide +kernel, fun s hs => ?_, fun i hi => ?_⟩, ⟨0, by decide, by decide +kernel, by decide +kernel, by decide, fun i L e => ?_⟩, (show A00 0 14 = nI 0 by decide +kernel), ⟨by decide +kernel, fun k hk => absurd hk (Nat.not_lt_zero _)⟩, by decide +kernel, by decide +kernel, by decide +kernel, by decide +kernel, ca N 43, ?_, Or.inl ⟨rfl, by decide⟩, fun k hk => absurd hk (Nat.not_lt_zero _), fun k => ⟨0, by decide, ?_⟩⟩
  · rw [hp_nx]
    have : nO OF = 133 := by decide +kernel
    omega
  · rw [hp_kd]; decide +kernel
  · rw [hp_sz]; decide +kernel
  · rw [hp_kd]; decide +kernel
  · rw [hp_sz]; decide +kernel
  · have : ∀ s, s < 6 → rO OF 2 s = none := by decide +kernel
    show refP N _ ((rO OF 2 s).map (N + ·)) []
    rw [this s hs]
    rfl
  · have : ∀ s, s < 8 → rO OF 3 s = none := by decide +kernel
    show refW N _ ((rO OF 3 i).map (N + ·)) (([] : List (List Nat))[i]?)
    rw [this i hi]
    exact trivial
  · exact absurd e (by show ¬ ([] : List Lib)[i]? = some L; simp)
  · show (rO OF 42 0).map (N + ·) = some (N + 43)
    have : rO OF 42 0 = some 43 := by decide +kernel
    rw [this]
    rfl
  · show (if ca N 43 = ca N 43 then iO OF 43 k else _) = _
    rw [if_pos rfl, iO_no (by decide +kernel)]
    rfl
theorem start_M : IM M00 S00 := by
  have z : ∀ r, 1 ≤ r → r < 34 → ∀ k, M00 r k = nI 0 := fun r h1 h2 k => by
    have : ∀ r, r < 34 → 1 ≤ r → ∀ o ∈ OF, ¬ (o.1 = 1 ∧ 97 + r = o.2.1) := by decide +kernel
    show iO OF (97 + r) k = nI 0
    rw [iO_no (this r h2 h1)]
    rfl
  refine ⟨?_, ⟨0, by decide, by decide +kernel, by decide +kernel, by decide, fun i hi => absurd hi (Nat.not_lt_zero _)⟩, (show M00 0 7 = nI 0 by decide +kernel), fun j _ => z _ (by decide) (by decide) j, fun j _ => z _ (by decide) (by decide) j, ⟨by decide +kernel, fun k hk => absurd hk (Nat.not_lt_zero _)⟩, by decide +kernel, by decide +kernel, by decide +kernel, fun k hk => absurd hk (Nat.not_lt_zero _)⟩
  funext j
  rw [z _ (by decide) (by decide)]
  unfold enc wfN
  repeat' split
  all_goals rfl
theorem f_law_of (H : H120) : FLaw := by
  intro N
  have n97 : nO OX = 97 := by decide +kernel
  have n131 : nO OM = 131 := by decide +kernel
  have x1 : nx (hp N OX) = N + 97 := by rw [hp_nx, n97]
  have x2 : nx (hp N OM) = N + 131 := by rw [hp_nx, n131]
  refine ⟨hp N OX, hp N OM, INV N, i_X11, ?_, ?_, fun t h hh => ?_, fun t h hh => hh, fun t h hh _ a1 a2 a3 => ?_⟩
  · rw [x1]
    exact i_X12
  · exact ⟨hp N OF, A00, M00, R00 N, S00, start_E N, start_C N, start_M, start_G⟩
  · rw [x1, x2]
    exact inv_ok hh
  · rw [x1, x2]
    obtain ⟨h, A, M, R, S, rfl, hi, im, hg⟩ := hh
    exact ⟨o_0 hi im hg, o_1 hi im hg, o_2 hi im hg, o_3 hi im hg, o_4 hi im hg, o_5 hi im hg, o_6 hi im hg, o_7 hi im hg, o_8 hi im hg, o_9 hi im hg, o_10 hi im hg, o_11 hi im hg, o_12 hi im hg, o_13 hi im hg, o_14 hi im hg, o_15 hi im hg, o_16 hi im hg, o_17 hi im hg, o_18 hi im hg, o_19 hi im hg, o_20 hi im hg, o_21 hi im hg, o_22 hi im hg, o_23 hi im hg, o_24 hi im hg, o_25 hi im hg, o_26 hi im hg, o_27 hi im hg, o_28 hi im hg, o_29 hi im hg, o_30 hi im hg, o_31 hi im hg, o_32 hi im hg, o_33 hi im hg, o_34 hi im hg, o_35 hi im hg, o_36 hi im hg, o_37 hi im hg, o_38 hi im hg, o_39 hi im hg, o_40 hi im hg, o_41 hi im hg, o_42 hi im hg H, o_43 hi im hg, o_44 hi im hg, o_45 hi im hg, o_46 hi im hg, o_47 hi im hg, o_48 hi im hg, o_49 hi im hg, o_50 hi im hg, o_51 hi im hg, o_52 hi im hg⟩
