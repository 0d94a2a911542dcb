/-! the class: positions of a pattern, by the same stack machine -/
def GC (A : Nat → Nat → Int32) (b : Nat) (s : gst) : Prop := A b 5 = nI s.1.length ∧ A b 6 = nI s.2.2.2 ∧ (∀ j, j < s.1.length → A (b + 5) j = nI (gT s.1 j).1 ∧ A (b + 3) j = nI (gT s.1 j).2.1 ∧ A (b + 4) j = nI (gT s.1 j).2.2) ∧ (∀ k, k < 7 → A (b + 2) k = nI (s.2.1 k)) ∧ (∀ k, k < 3 → A (b + 1) k = nI (s.2.2.1 k))
def FrP (b : Nat) (A A' : Nat → Nat → Int32) : Prop := ∀ r, r < b ∨ b + 6 ≤ r → A' r = A r
theorem FrP_rf (b : Nat) (A : Nat → Nat → Int32) : FrP b A A := fun _ _ => rfl
theorem FrP_tr {b : Nat} {A A' A'' : Nat → Nat → Int32} (h : FrP b A A') (h' : FrP b A' A'') : FrP b A A'' := fun r hr => (h' r hr).trans (h r hr)
theorem pre_skip {β : Type} {k : Nat} {f g : Nat → β} (h : g k = f k) : pre k f g = pre (k + 1) f g := by
  funext j
  unfold pre
  by_cases e : j = k
  · subst e; rw [if_neg (by omega), if_pos (by omega), h]
  · by_cases q : j < k
    · rw [if_pos q, if_pos (by omega)]
    · rw [if_neg q, if_neg (by omega)]
theorem tb0 : ∀ s, s < 128 → ∀ k, k < 7 → ((nI s >>> (nI k &&& 31)) &&& nI 1 = nI 0 ↔ ¬ s.testBit k = true) := by decide +kernel
section CPOS
variable {n : Nat} {h : mH} {A M : Nat → Nat → Int32} {R : Nat → Nat → Option Nat} {b a : Nat}
theorem c_addFo {set bb : Nat} {fo : Nat → Nat} (hb : bPo b) (h1 : set < 128) (h2 : bb < 128) (hf : ∀ k, k < 7 → A (b + 2) k = nI (fo k)) : f_X5_addFollowers (ca n b) (nI set) (nI bb) (E n h A M R) = some ((), E n h (ro A (b + 2) (pre 7 (fun k => nI (folw fo set bb k)) (A (b + 2)))) M R) := by
  have e1 := EPo hb
  have e2 := EPog hb
  have e3 := EPos hb
  unfold f_X5_addFollowers g_X5_addFollowers_2
  rw [oi.1]
  have h0 := lp_for0 (f := b_X5_addFollowers_2 (ca n b) (nI set) (nI bb)) (fun k => (nI k, E n h (ro A (b + 2) (pre k (fun k => nI (folw fo set bb k)) (A (b + 2)))) M R)) 7 ((), E n h (ro A (b + 2) (pre 7 (fun k => nI (folw fo set bb k)) (A (b + 2)))) M R) (fun k hk => ?_) ?_ (L := 100000) (by decide)
  · simp only [pre_0, ro_self] at h0
    exact h0
  · unfold b_X5_addFollowers_2 b0_X5_addFollowers_2 g_X5_addFollowers_26
    by_cases hbt : set.testBit k = true
    · have ht : ((nI set >>> (nI k &&& 31)) &&& nI 1 = nI 0) = False := eq_false (fun q => (tb0 set h1 k hk).mp q hbt)
      have e : pre k (fun k => nI (folw fo set bb k)) (A (b + 2)) k = nI (fo k) := by rw [pre_ge _ _ (Nat.le_refl _)]; exact hf k hk
      simp (disch := omega) only [↓grd_u, ↓bnd_e, ↓orf_u, ↓oif_u, ↓cal_u, ↓calX_u, ↓inrO_u, ↓reduceIte, EM, EMg, EMs, z0, oi, n_inbT, n_cntT, n_ltT, n_ltF, n_leT, n_leF, n_eqT, n_eqF, n_m1T, n_m1F, n_m1F', n_cl, n_add, n_mul, ro_at, ro_ro, up_at, up_up, e1, e2, e3, ht, e, n_or]
      rw [← up_pre]
      unfold folw
      rw [if_pos hbt]
    · have ht : ((nI set >>> (nI k &&& 31)) &&& nI 1 = nI 0) = True := eq_true ((tb0 set h1 k hk).mpr hbt)
      simp (disch := omega) only [↓grd_u, ↓bnd_e, ↓orf_u, ↓oif_u, ↓cal_u, ↓calX_u, ↓inrO_u, ↓reduceIte, EM, EMg, EMs, z0, oi, n_inbT, n_cntT, n_ltT, n_ltF, n_leT, n_leF, n_eqT, n_eqF, n_m1T, n_m1F, n_m1F', n_cl, n_add, n_mul, ro_at, ro_ro, up_at, up_up, ht]
      rw [pre_skip (k := k) (by rw [hf k hk]; unfold folw; rw [if_neg hbt])]
  · unfold b_X5_addFollowers_2 b0_X5_addFollowers_2
    simp (disch := omega) only [↓grd_u, ↓bnd_e, ↓orf_u, ↓oif_u, ↓cal_u, ↓calX_u, ↓inrO_u, ↓reduceIte, EM, EMg, EMs, z0, oi, n_inbT, n_cntT, n_ltT, n_ltF, n_leT, n_leF, n_eqT, n_eqF, n_m1T, n_m1F, n_m1F', n_cl, n_add, n_mul, ro_at, ro_ro, up_at, up_up]
theorem c_pos {c : Nat} {s : gst} (hb : bPo b) (hg : GC A b s) (hi : GInv s) (hp : GPre s c) (hc : c < 4) :
    ∃ A', f_X5_addPosition (ca n b) (nI (c - 1)) (E n h A M R) = some ((), E n h A' M R) ∧ GC A' b (gstep s c) ∧ FrP b A A' := by
  have e1 := EPo hb
  have e2 := EPog hb
  have e3 := EPos hb
  obtain ⟨st, fo, ol, pos⟩ := s
  obtain ⟨g1, g2, g3, g4, g5⟩ := hg
  unfold GPre at hp
  rw [if_pos hc] at hp
  obtain ⟨p1, p2, p3⟩ := hp
  dsimp only at p2 p3 g1 g2 g3 g4 g5 ⊢
  have hol := g5 (c - 1) (by omega)
  have h1 := n_shl1 pos (by omega)
  unfold f_X5_addPosition
  simp (disch := omega) only [↓grd_u, ↓bnd_e, ↓orf_u, ↓oif_u, ↓cal_u, ↓calX_u, ↓inrO_u, ↓reduceIte, EM, EMg, EMs, z0, oi, n_inbT, n_cntT, n_ltT, n_ltF, n_leT, n_leF, n_eqT, n_eqF, n_m1T, n_m1F, n_m1F', n_cl, n_add, n_mul, ro_at, ro_ro, up_at, up_up, ro_ne, up_ne, e1, e2, e3, h1, hol, g1, g2, n_or]
  refine ⟨_, rfl, ?_, fun r hr => ?_⟩
  · unfold gstep
    rw [if_pos hc]
    dsimp only
    refine ⟨?_, ?_, fun j hj => ?_, fun k hk => ?_, fun k hk => ?_⟩
    · simp (disch := omega) only [↓grd_u, ↓bnd_e, ↓orf_u, ↓oif_u, ↓cal_u, ↓calX_u, ↓inrO_u, ↓reduceIte, EM, EMg, EMs, z0, oi, n_inbT, n_cntT, n_ltT, n_ltF, n_leT, n_leF, n_eqT, n_eqF, n_m1T, n_m1F, n_m1F', n_cl, n_add, n_mul, ro_at, ro_ro, up_at, up_up, ro_ne, up_ne, List.length_cons]
    · simp (disch := omega) only [↓grd_u, ↓bnd_e, ↓orf_u, ↓oif_u, ↓cal_u, ↓calX_u, ↓inrO_u, ↓reduceIte, EM, EMg, EMs, z0, oi, n_inbT, n_cntT, n_ltT, n_ltF, n_leT, n_leF, n_eqT, n_eqF, n_m1T, n_m1F, n_m1F', n_cl, n_add, n_mul, ro_at, ro_ro, up_at, up_up, ro_ne, up_ne]
    · simp only [List.length_cons] at hj
      simp (disch := omega) only [↓grd_u, ↓bnd_e, ↓orf_u, ↓oif_u, ↓cal_u, ↓calX_u, ↓inrO_u, ↓reduceIte, EM, EMg, EMs, z0, oi, n_inbT, n_cntT, n_ltT, n_ltF, n_leT, n_leF, n_eqT, n_eqF, n_m1T, n_m1F, n_m1F', n_cl, n_add, n_mul, ro_at, ro_ro, up_at, up_up, ro_ne]
      by_cases hj2 : j = st.length
      · subst hj2
        rw [gT_top, up_at, up_at, up_at]
        exact ⟨rfl, rfl, rfl⟩
      · rw [gT_low _ _ (by omega), up_ne _ _ hj2, up_ne _ _ hj2, up_ne _ _ hj2]
        exact g3 j (by omega)
    · simp (disch := omega) only [↓grd_u, ↓bnd_e, ↓orf_u, ↓oif_u, ↓cal_u, ↓calX_u, ↓inrO_u, ↓reduceIte, EM, EMg, EMs, z0, oi, n_inbT, n_cntT, n_ltT, n_ltF, n_leT, n_leF, n_eqT, n_eqF, n_m1T, n_m1F, n_m1F', n_cl, n_add, n_mul, ro_at, ro_ro, up_at, up_up, ro_ne]
      exact g4 k hk
    · simp (disch := omega) only [↓grd_u, ↓bnd_e, ↓orf_u, ↓oif_u, ↓cal_u, ↓calX_u, ↓inrO_u, ↓reduceIte, EM, EMg, EMs, z0, oi, n_inbT, n_cntT, n_ltT, n_ltF, n_leT, n_leF, n_eqT, n_eqF, n_m1T, n_m1F, n_m1F', n_cl, n_add, n_mul, ro_at, ro_ro, up_at, up_up, ro_ne]
      by_cases hk2 : k = c - 1
      · subst hk2
        rw [up_at, up_at]
      · rw [up_ne _ _ (by omega), up_ne _ _ hk2]
        exact g5 k hk
  · simp (disch := omega) only [ro_ne]
theorem c_sgn {c : Nat} {s : gst} (hb : bPo b) (hg : GC A b s) (hi : GInv s) (hp : GPre s c) (hc : 6 ≤ c) :
    ∃ A', f_X5_sign (ca n b) (nI (chC c)) (E n h A M R) = some ((), E n h A' M R) ∧ GC A' b (gstep s c) ∧ FrP b A A' := by
  have e1 := EPo hb
  have e2 := EPog hb
  have e3 := EPos hb
  obtain ⟨st, fo, ol, pos⟩ := s
  obtain ⟨g1, g2, g3, g4, g5⟩ := hg
  obtain ⟨i1, i2, i3, i4, i5⟩ := hi
  unfold GPre at hp
  rw [if_neg (by omega), if_pos hc] at hp
  obtain ⟨c9, p2⟩ := hp
  dsimp only at p2 g1 g2 g3 g4 g5 i1 i3 i4 i5
  match st, p2, g1, g3, i1, i3 with
  | v :: r, _, g1, g3, i1, i3 =>
    have hv := i3 v List.mem_cons_self
    simp only [List.length_cons] at g1 g3 i1
    obtain ⟨ev, fv, lv⟩ := g3 r.length (by omega)
    rw [gT_top] at ev fv lv
    have low : ∀ j, j < r.length → A (b + 5) j = nI (gT r j).1 ∧ A (b + 3) j = nI (gT r j).2.1 ∧ A (b + 4) j = nI (gT r j).2.2 := fun j hj => by
      have := g3 j (by omega)
      rwa [gT_low _ _ hj] at this
    have hfol := c_addFo (n := n) (h := h) (A := A) (M := M) (R := R) (set := v.2.2) (bb := v.2.1) (fo := fo) hb hv.2.2 hv.2.1 g4
    unfold gstep gsign
    rw [if_neg (by omega), if_pos hc]
    dsimp only
    unfold f_X5_sign g_X5_sign_40 g_X5_sign_53
    have h678 : c = 6 ∨ c = 7 ∨ c = 8 := by omega
    rcases h678 with rfl | rfl | rfl
    · rw [if_neg (by decide), if_neg (by decide), show nI (chC 6) = nI 42 from rfl]
      simp (disch := omega) only [↓grd_u, ↓bnd_e, ↓orf_u, ↓oif_u, ↓cal_u, ↓calX_u, ↓inrO_u, ↓reduceIte, EM, EMg, EMs, z0, oi, n_inbT, n_cntT, n_ltT, n_ltF, n_leT, n_leF, n_eqT, n_eqF, n_m1T, n_m1F, n_m1F', n_cl, n_add, n_mul, ro_at, ro_ro, up_at, up_up, ro_ne, e1, e2, e3, g1, n_sub, Nat.add_sub_cancel, lv, fv, hfol]
      refine ⟨_, rfl, ⟨?_, ?_, fun j hj => ?_, fun k hk => ?_, fun k hk => ?_⟩, fun q hr => ?_⟩
      · simp (disch := omega) only [ro_ne, g1, List.length_cons]
      · simp (disch := omega) only [ro_ne, g2]
      · simp only [List.length_cons] at hj
        simp (disch := omega) only [↓grd_u, ↓bnd_e, ↓orf_u, ↓oif_u, ↓cal_u, ↓calX_u, ↓inrO_u, ↓reduceIte, EM, EMg, EMs, z0, oi, n_inbT, n_cntT, n_ltT, n_ltF, n_leT, n_leF, n_eqT, n_eqF, n_m1T, n_m1F, n_m1F', n_cl, n_add, n_mul, ro_at, ro_ro, up_at, up_up, ro_ne]
        by_cases hj2 : j = r.length
        · subst hj2
          rw [gT_top, up_at]
          exact ⟨rfl, fv, lv⟩
        · rw [gT_low _ _ (by omega), up_ne _ _ hj2]
          exact low j (by omega)
      · simp (disch := omega) only [↓grd_u, ↓bnd_e, ↓orf_u, ↓oif_u, ↓cal_u, ↓calX_u, ↓inrO_u, ↓reduceIte, EM, EMg, EMs, z0, oi, n_inbT, n_cntT, n_ltT, n_ltF, n_leT, n_leF, n_eqT, n_eqF, n_m1T, n_m1F, n_m1F', n_cl, n_add, n_mul, ro_at, ro_ro, up_at, up_up, ro_ne]
        rw [pre_lt _ _ hk]
      · simp (disch := omega) only [↓grd_u, ↓bnd_e, ↓orf_u, ↓oif_u, ↓cal_u, ↓calX_u, ↓inrO_u, ↓reduceIte, EM, EMg, EMs, z0, oi, n_inbT, n_cntT, n_ltT, n_ltF, n_leT, n_leF, n_eqT, n_eqF, n_m1T, n_m1F, n_m1F', n_cl, n_add, n_mul, ro_at, ro_ro, up_at, up_up, ro_ne]
        exact g5 k hk
      · simp (disch := omega) only [ro_ne]
    · rw [if_pos rfl, if_neg (by decide), show nI (chC 7) = nI 43 from rfl]
      simp (disch := omega) only [↓grd_u, ↓bnd_e, ↓orf_u, ↓oif_u, ↓cal_u, ↓calX_u, ↓inrO_u, ↓reduceIte, EM, EMg, EMs, z0, oi, n_inbT, n_cntT, n_ltT, n_ltF, n_leT, n_leF, n_eqT, n_eqF, n_m1T, n_m1F, n_m1F', n_cl, n_add, n_mul, ro_at, ro_ro, up_at, up_up, ro_ne, e1, e2, e3, g1, n_sub, Nat.add_sub_cancel, lv, fv, hfol]
      refine ⟨_, rfl, ⟨?_, ?_, fun j hj => ?_, fun k hk => ?_, fun k hk => ?_⟩, fun q hr => ?_⟩
      · simp (disch := omega) only [ro_ne, g1, List.length_cons]
      · simp (disch := omega) only [ro_ne, g2]
      · simp only [List.length_cons] at hj
        simp (disch := omega) only [↓grd_u, ↓bnd_e, ↓orf_u, ↓oif_u, ↓cal_u, ↓calX_u, ↓inrO_u, ↓reduceIte, EM, EMg, EMs, z0, oi, n_inbT, n_cntT, n_ltT, n_ltF, n_leT, n_leF, n_eqT, n_eqF, n_m1T, n_m1F, n_m1F', n_cl, n_add, n_mul, ro_at, ro_ro, up_at, up_up, ro_ne]
        by_cases hj2 : j = r.length
        · subst hj2
          rw [gT_top]
          exact ⟨ev, fv, lv⟩
        · rw [gT_low _ _ (by omega)]
          exact low j (by omega)
      · simp (disch := omega) only [↓grd_u, ↓bnd_e, ↓orf_u, ↓oif_u, ↓cal_u, ↓calX_u, ↓inrO_u, ↓reduceIte, EM, EMg, EMs, z0, oi, n_inbT, n_cntT, n_ltT, n_ltF, n_leT, n_leF, n_eqT, n_eqF, n_m1T, n_m1F, n_m1F', n_cl, n_add, n_mul, ro_at, ro_ro, up_at, up_up, ro_ne]
        rw [pre_lt _ _ hk]
      · simp (disch := omega) only [↓grd_u, ↓bnd_e, ↓orf_u, ↓oif_u, ↓cal_u, ↓calX_u, ↓inrO_u, ↓reduceIte, EM, EMg, EMs, z0, oi, n_inbT, n_cntT, n_ltT, n_ltF, n_leT, n_leF, n_eqT, n_eqF, n_m1T, n_m1F, n_m1F', n_cl, n_add, n_mul, ro_at, ro_ro, up_at, up_up, ro_ne]
        exact g5 k hk
      · simp (disch := omega) only [ro_ne]
    · rw [if_neg (by decide), if_pos rfl, show nI (chC 8) = nI 63 from rfl]
      simp (disch := omega) only [↓grd_u, ↓bnd_e, ↓orf_u, ↓oif_u, ↓cal_u, ↓calX_u, ↓inrO_u, ↓reduceIte, EM, EMg, EMs, z0, oi, n_inbT, n_cntT, n_ltT, n_ltF, n_leT, n_leF, n_eqT, n_eqF, n_m1T, n_m1F, n_m1F', n_cl, n_add, n_mul, ro_at, ro_ro, up_at, up_up, ro_ne, e1, e2, e3, g1, n_sub, Nat.add_sub_cancel]
      refine ⟨_, rfl, ⟨?_, ?_, fun j hj => ?_, fun k hk => ?_, fun k hk => ?_⟩, fun q hr => ?_⟩
      · simp (disch := omega) only [ro_ne, g1, List.length_cons]
      · simp (disch := omega) only [ro_ne, g2]
      · simp only [List.length_cons] at hj
        simp (disch := omega) only [↓grd_u, ↓bnd_e, ↓orf_u, ↓oif_u, ↓cal_u, ↓calX_u, ↓inrO_u, ↓reduceIte, EM, EMg, EMs, z0, oi, n_inbT, n_cntT, n_ltT, n_ltF, n_leT, n_leF, n_eqT, n_eqF, n_m1T, n_m1F, n_m1F', n_cl, n_add, n_mul, ro_at, ro_ro, up_at, up_up, ro_ne]
        by_cases hj2 : j = r.length
        · subst hj2
          rw [gT_top, up_at]
          exact ⟨rfl, fv, lv⟩
        · rw [gT_low _ _ (by omega), up_ne _ _ hj2]
          exact low j (by omega)
      · simp (disch := omega) only [↓grd_u, ↓bnd_e, ↓orf_u, ↓oif_u, ↓cal_u, ↓calX_u, ↓inrO_u, ↓reduceIte, EM, EMg, EMs, z0, oi, n_inbT, n_cntT, n_ltT, n_ltF, n_leT, n_leF, n_eqT, n_eqF, n_m1T, n_m1F, n_m1F', n_cl, n_add, n_mul, ro_at, ro_ro, up_at, up_up, ro_ne]
        exact g4 k hk
      · simp (disch := omega) only [↓grd_u, ↓bnd_e, ↓orf_u, ↓oif_u, ↓cal_u, ↓calX_u, ↓inrO_u, ↓reduceIte, EM, EMg, EMs, z0, oi, n_inbT, n_cntT, n_ltT, n_ltF, n_leT, n_leF, n_eqT, n_eqF, n_m1T, n_m1F, n_m1F', n_cl, n_add, n_mul, ro_at, ro_ro, up_at, up_up, ro_ne]
        exact g5 k hk
      · simp (disch := omega) only [ro_ne]
theorem or_le1 {a b : Nat} (ha : a ≤ 1) (hb : b ≤ 1) : a ||| b ≤ 1 := by
  have := Nat.or_lt_two_pow (n := 1) (x := a) (y := b) (by omega) (by omega)
  omega
theorem c_jn {c : Nat} {s : gst} (hb : bPo b) (hg : GC A b s) (hi : GInv s) (hp : GPre s c) (hc : c = 4 ∨ c = 5) :
    ∃ A', f_X5_join (ca n b) (nI (chC c)) (E n h A M R) = some ((), E n h A' M R) ∧ GC A' b (gstep s c) ∧ FrP b A A' := by
  have e1 := EPo hb
  have e2 := EPog hb
  have e3 := EPos hb
  obtain ⟨st, fo, ol, pos⟩ := s
  obtain ⟨g1, g2, g3, g4, g5⟩ := hg
  obtain ⟨i1, i2, i3, i4, i5⟩ := hi
  unfold GPre at hp
  rw [if_neg (by omega), if_neg (by omega)] at hp
  dsimp only at hp g1 g2 g3 g4 g5 i1 i3 i4 i5
  match st, hp, g1, g3, i1, i3 with
  | y :: x :: r, _, g1, g3, i1, i3 =>
    have hy := i3 y List.mem_cons_self
    have hx := i3 x (List.mem_cons_of_mem _ List.mem_cons_self)
    simp only [List.length_cons] at g1 g3 i1
    obtain ⟨ey, fy, ly⟩ := g3 (r.length + 1) (by omega)
    obtain ⟨ex, fx, lx⟩ := g3 r.length (by omega)
    rw [show gT (y :: x :: r) (r.length + 1) = y from gT_top y (x :: r)] at ey fy ly
    rw [gT_low2] at ex fx lx
    have low : ∀ j, j < r.length → A (b + 5) j = nI (gT r j).1 ∧ A (b + 3) j = nI (gT r j).2.1 ∧ A (b + 4) j = nI (gT r j).2.2 := fun j hj => by
      have := g3 j (by omega)
      rwa [gT_low _ _ (by simp; omega), gT_low _ _ hj] at this
    unfold gstep gjoin
    rw [if_neg (by omega), if_neg (by omega)]
    dsimp only
    unfold f_X5_join g_X5_join_129 g_X5_join_161
    rcases hc with rfl | rfl
    · rw [if_neg (by decide), show nI (chC 4) = nI 46 from rfl]
      have hfol := c_addFo (n := n) (h := h) (A := ro A b (up (A b) 5 (nI (r.length + 1)))) (M := M) (R := R) (set := x.2.2) (bb := y.2.1) (fo := fo) hb hx.2.2 hy.2.1 (fun k hk => by rw [ro_ne _ _ (by omega)]; exact g4 k hk)
      have hn : (vp_nar .boolean (nI (x.1 &&& y.1)) = nI (x.1 &&& y.1)) = True := eq_true (n_nar01 (Nat.le_trans Nat.and_le_left hx.1))
      have hx1 := hx.1
      have hy1 := hy.1
      have hex : x.1 = 0 ∨ x.1 = 1 := by omega
      have hey : y.1 = 0 ∨ y.1 = 1 := by omega
      have q1 : r.length + 1 + 1 - 2 = r.length := by omega
      have q2 : r.length + 1 + 1 - 1 = r.length + 1 := by omega
      have z2 : ∀ x : Nat, x ||| 0 = x := Nat.or_zero
      rcases hex with hex | hex
      · rcases hey with hey | hey
        · rw [hex] at ex hn
          rw [hey] at ey hn
          rw [hex, hey]
          simp (disch := omega) only [↓grd_u, ↓bnd_e, ↓orf_u, ↓oif_u, ↓cal_u, ↓calX_u, ↓inrO_u, ↓reduceIte, EM, EMg, EMs, z0, oi, n_inbT, n_cntT, n_ltT, n_ltF, n_leT, n_leF, n_eqT, n_eqF, n_m1T, n_m1F, n_m1F', n_cl, n_add, n_mul, ro_at, ro_ro, up_at, up_up, ro_ne, up_ne, e1, e2, e3, g1, n_sub, q1, q2, lx, fy, hfol]
          simp (disch := omega) only [↓grd_u, ↓bnd_e, ↓orf_u, ↓oif_u, ↓cal_u, ↓calX_u, ↓inrO_u, ↓reduceIte, EM, EMg, EMs, z0, oi, n_inbT, n_cntT, n_ltT, n_ltF, n_leT, n_leF, n_eqT, n_eqF, n_m1T, n_m1F, n_m1F', n_cl, n_add, n_mul, ro_at, ro_ro, up_at, up_up, ro_ne, up_ne, e1, e2, e3, ex, ey, fx, ly, n_or, n_and, hn, z2]
          refine ⟨_, rfl, ⟨?_, ?_, fun j hj => ?_, fun k hk => ?_, fun k hk => ?_⟩, fun q hr => ?_⟩
          · simp (disch := omega) only [↓grd_u, ↓bnd_e, ↓orf_u, ↓oif_u, ↓cal_u, ↓calX_u, ↓inrO_u, ↓reduceIte, EM, EMg, EMs, z0, oi, n_inbT, n_cntT, n_ltT, n_ltF, n_leT, n_leF, n_eqT, n_eqF, n_m1T, n_m1F, n_m1F', n_cl, n_add, n_mul, ro_at, ro_ro, up_at, up_up, ro_ne, List.length_cons]
          · simp (disch := omega) only [↓grd_u, ↓bnd_e, ↓orf_u, ↓oif_u, ↓cal_u, ↓calX_u, ↓inrO_u, ↓reduceIte, EM, EMg, EMs, z0, oi, n_inbT, n_cntT, n_ltT, n_ltF, n_leT, n_leF, n_eqT, n_eqF, n_m1T, n_m1F, n_m1F', n_cl, n_add, n_mul, ro_at, ro_ro, up_at, up_up, ro_ne, up_ne, g2]
          · simp only [List.length_cons] at hj
            simp (disch := omega) only [↓grd_u, ↓bnd_e, ↓orf_u, ↓oif_u, ↓cal_u, ↓calX_u, ↓inrO_u, ↓reduceIte, EM, EMg, EMs, z0, oi, n_inbT, n_cntT, n_ltT, n_ltF, n_leT, n_leF, n_eqT, n_eqF, n_m1T, n_m1F, n_m1F', n_cl, n_add, n_mul, ro_at, ro_ro, up_at, up_up, ro_ne]
            by_cases hj2 : j = r.length
            · subst hj2
              rw [gT_top, up_at, up_at, up_at]
              exact ⟨rfl, rfl, rfl⟩
            · rw [gT_low _ _ (by omega), up_ne _ _ hj2, up_ne _ _ hj2, up_ne _ _ hj2]
              exact low j (by omega)
          · simp (disch := omega) only [↓grd_u, ↓bnd_e, ↓orf_u, ↓oif_u, ↓cal_u, ↓calX_u, ↓inrO_u, ↓reduceIte, EM, EMg, EMs, z0, oi, n_inbT, n_cntT, n_ltT, n_ltF, n_leT, n_leF, n_eqT, n_eqF, n_m1T, n_m1F, n_m1F', n_cl, n_add, n_mul, ro_at, ro_ro, up_at, up_up, ro_ne]
            rw [pre_lt _ _ hk]
          · simp (disch := omega) only [↓grd_u, ↓bnd_e, ↓orf_u, ↓oif_u, ↓cal_u, ↓calX_u, ↓inrO_u, ↓reduceIte, EM, EMg, EMs, z0, oi, n_inbT, n_cntT, n_ltT, n_ltF, n_leT, n_leF, n_eqT, n_eqF, n_m1T, n_m1F, n_m1F', n_cl, n_add, n_mul, ro_at, ro_ro, up_at, up_up, ro_ne]
            exact g5 k hk
          · simp (disch := omega) only [ro_ne]
        · rw [hex] at ex hn
          rw [hey] at ey hn
          rw [hex, hey]
          simp (disch := omega) only [↓grd_u, ↓bnd_e, ↓orf_u, ↓oif_u, ↓cal_u, ↓calX_u, ↓inrO_u, ↓reduceIte, EM, EMg, EMs, z0, oi, n_inbT, n_cntT, n_ltT, n_ltF, n_leT, n_leF, n_eqT, n_eqF, n_m1T, n_m1F, n_m1F', n_cl, n_add, n_mul, ro_at, ro_ro, up_at, up_up, ro_ne, up_ne, e1, e2, e3, g1, n_sub, q1, q2, lx, fy, hfol]
          simp (disch := omega) only [↓grd_u, ↓bnd_e, ↓orf_u, ↓oif_u, ↓cal_u, ↓calX_u, ↓inrO_u, ↓reduceIte, EM, EMg, EMs, z0, oi, n_inbT, n_cntT, n_ltT, n_ltF, n_leT, n_leF, n_eqT, n_eqF, n_m1T, n_m1F, n_m1F', n_cl, n_add, n_mul, ro_at, ro_ro, up_at, up_up, ro_ne, up_ne, e1, e2, e3, ex, ey, fx, lx, ly, n_or, n_and, hn, z2]
          refine ⟨_, rfl, ⟨?_, ?_, fun j hj => ?_, fun k hk => ?_, fun k hk => ?_⟩, fun q hr => ?_⟩
          · simp (disch := omega) only [↓grd_u, ↓bnd_e, ↓orf_u, ↓oif_u, ↓cal_u, ↓calX_u, ↓inrO_u, ↓reduceIte, EM, EMg, EMs, z0, oi, n_inbT, n_cntT, n_ltT, n_ltF, n_leT, n_leF, n_eqT, n_eqF, n_m1T, n_m1F, n_m1F', n_cl, n_add, n_mul, ro_at, ro_ro, up_at, up_up, ro_ne, List.length_cons]
          · simp (disch := omega) only [↓grd_u, ↓bnd_e, ↓orf_u, ↓oif_u, ↓cal_u, ↓calX_u, ↓inrO_u, ↓reduceIte, EM, EMg, EMs, z0, oi, n_inbT, n_cntT, n_ltT, n_ltF, n_leT, n_leF, n_eqT, n_eqF, n_m1T, n_m1F, n_m1F', n_cl, n_add, n_mul, ro_at, ro_ro, up_at, up_up, ro_ne, up_ne, g2]
          · simp only [List.length_cons] at hj
            simp (disch := omega) only [↓grd_u, ↓bnd_e, ↓orf_u, ↓oif_u, ↓cal_u, ↓calX_u, ↓inrO_u, ↓reduceIte, EM, EMg, EMs, z0, oi, n_inbT, n_cntT, n_ltT, n_ltF, n_leT, n_leF, n_eqT, n_eqF, n_m1T, n_m1F, n_m1F', n_cl, n_add, n_mul, ro_at, ro_ro, up_at, up_up, ro_ne]
            by_cases hj2 : j = r.length
            · subst hj2
              rw [gT_top, up_at, up_at, up_at, Nat.or_comm y.2.2 x.2.2]
              exact ⟨rfl, rfl, rfl⟩
            · rw [gT_low _ _ (by omega), up_ne _ _ hj2, up_ne _ _ hj2, up_ne _ _ hj2]
              exact low j (by omega)
          · simp (disch := omega) only [↓grd_u, ↓bnd_e, ↓orf_u, ↓oif_u, ↓cal_u, ↓calX_u, ↓inrO_u, ↓reduceIte, EM, EMg, EMs, z0, oi, n_inbT, n_cntT, n_ltT, n_ltF, n_leT, n_leF, n_eqT, n_eqF, n_m1T, n_m1F, n_m1F', n_cl, n_add, n_mul, ro_at, ro_ro, up_at, up_up, ro_ne]
            rw [pre_lt _ _ hk]
          · simp (disch := omega) only [↓grd_u, ↓bnd_e, ↓orf_u, ↓oif_u, ↓cal_u, ↓calX_u, ↓inrO_u, ↓reduceIte, EM, EMg, EMs, z0, oi, n_inbT, n_cntT, n_ltT, n_ltF, n_leT, n_leF, n_eqT, n_eqF, n_m1T, n_m1F, n_m1F', n_cl, n_add, n_mul, ro_at, ro_ro, up_at, up_up, ro_ne]
            exact g5 k hk
          · simp (disch := omega) only [ro_ne]
      · rcases hey with hey | hey
        · rw [hex] at ex hn
          rw [hey] at ey hn
          rw [hex, hey]
          simp (disch := omega) only [↓grd_u, ↓bnd_e, ↓orf_u, ↓oif_u, ↓cal_u, ↓calX_u, ↓inrO_u, ↓reduceIte, EM, EMg, EMs, z0, oi, n_inbT, n_cntT, n_ltT, n_ltF, n_leT, n_leF, n_eqT, n_eqF, n_m1T, n_m1F, n_m1F', n_cl, n_add, n_mul, ro_at, ro_ro, up_at, up_up, ro_ne, up_ne, e1, e2, e3, g1, n_sub, q1, q2, lx, fy, hfol]
          simp (disch := omega) only [↓grd_u, ↓bnd_e, ↓orf_u, ↓oif_u, ↓cal_u, ↓calX_u, ↓inrO_u, ↓reduceIte, EM, EMg, EMs, z0, oi, n_inbT, n_cntT, n_ltT, n_ltF, n_leT, n_leF, n_eqT, n_eqF, n_m1T, n_m1F, n_m1F', n_cl, n_add, n_mul, ro_at, ro_ro, up_at, up_up, ro_ne, up_ne, e1, e2, e3, ex, ey, fx, fy, ly, n_or, n_and, hn, z2]
          refine ⟨_, rfl, ⟨?_, ?_, fun j hj => ?_, fun k hk => ?_, fun k hk => ?_⟩, fun q hr => ?_⟩
          · simp (disch := omega) only [↓grd_u, ↓bnd_e, ↓orf_u, ↓oif_u, ↓cal_u, ↓calX_u, ↓inrO_u, ↓reduceIte, EM, EMg, EMs, z0, oi, n_inbT, n_cntT, n_ltT, n_ltF, n_leT, n_leF, n_eqT, n_eqF, n_m1T, n_m1F, n_m1F', n_cl, n_add, n_mul, ro_at, ro_ro, up_at, up_up, ro_ne, List.length_cons]
          · simp (disch := omega) only [↓grd_u, ↓bnd_e, ↓orf_u, ↓oif_u, ↓cal_u, ↓calX_u, ↓inrO_u, ↓reduceIte, EM, EMg, EMs, z0, oi, n_inbT, n_cntT, n_ltT, n_ltF, n_leT, n_leF, n_eqT, n_eqF, n_m1T, n_m1F, n_m1F', n_cl, n_add, n_mul, ro_at, ro_ro, up_at, up_up, ro_ne, up_ne, g2]
          · simp only [List.length_cons] at hj
            simp (disch := omega) only [↓grd_u, ↓bnd_e, ↓orf_u, ↓oif_u, ↓cal_u, ↓calX_u, ↓inrO_u, ↓reduceIte, EM, EMg, EMs, z0, oi, n_inbT, n_cntT, n_ltT, n_ltF, n_leT, n_leF, n_eqT, n_eqF, n_m1T, n_m1F, n_m1F', n_cl, n_add, n_mul, ro_at, ro_ro, up_at, up_up, ro_ne]
            by_cases hj2 : j = r.length
            · subst hj2
              rw [gT_top, up_at, up_at, up_at]
              exact ⟨rfl, rfl, rfl⟩
            · rw [gT_low _ _ (by omega), up_ne _ _ hj2, up_ne _ _ hj2, up_ne _ _ hj2]
              exact low j (by omega)
          · simp (disch := omega) only [↓grd_u, ↓bnd_e, ↓orf_u, ↓oif_u, ↓cal_u, ↓calX_u, ↓inrO_u, ↓reduceIte, EM, EMg, EMs, z0, oi, n_inbT, n_cntT, n_ltT, n_ltF, n_leT, n_leF, n_eqT, n_eqF, n_m1T, n_m1F, n_m1F', n_cl, n_add, n_mul, ro_at, ro_ro, up_at, up_up, ro_ne]
            rw [pre_lt _ _ hk]
          · simp (disch := omega) only [↓grd_u, ↓bnd_e, ↓orf_u, ↓oif_u, ↓cal_u, ↓calX_u, ↓inrO_u, ↓reduceIte, EM, EMg, EMs, z0, oi, n_inbT, n_cntT, n_ltT, n_ltF, n_leT, n_leF, n_eqT, n_eqF, n_m1T, n_m1F, n_m1F', n_cl, n_add, n_mul, ro_at, ro_ro, up_at, up_up, ro_ne]
            exact g5 k hk
          · simp (disch := omega) only [ro_ne]
        · rw [hex] at ex hn
          rw [hey] at ey hn
          rw [hex, hey]
          simp (disch := omega) only [↓grd_u, ↓bnd_e, ↓orf_u, ↓oif_u, ↓cal_u, ↓calX_u, ↓inrO_u, ↓reduceIte, EM, EMg, EMs, z0, oi, n_inbT, n_cntT, n_ltT, n_ltF, n_leT, n_leF, n_eqT, n_eqF, n_m1T, n_m1F, n_m1F', n_cl, n_add, n_mul, ro_at, ro_ro, up_at, up_up, ro_ne, up_ne, e1, e2, e3, g1, n_sub, q1, q2, lx, fy, hfol]
          simp (disch := omega) only [↓grd_u, ↓bnd_e, ↓orf_u, ↓oif_u, ↓cal_u, ↓calX_u, ↓inrO_u, ↓reduceIte, EM, EMg, EMs, z0, oi, n_inbT, n_cntT, n_ltT, n_ltF, n_leT, n_leF, n_eqT, n_eqF, n_m1T, n_m1F, n_m1F', n_cl, n_add, n_mul, ro_at, ro_ro, up_at, up_up, ro_ne, up_ne, e1, e2, e3, ex, ey, fx, fy, lx, ly, n_or, n_and, hn, z2]
          refine ⟨_, rfl, ⟨?_, ?_, fun j hj => ?_, fun k hk => ?_, fun k hk => ?_⟩, fun q hr => ?_⟩
          · simp (disch := omega) only [↓grd_u, ↓bnd_e, ↓orf_u, ↓oif_u, ↓cal_u, ↓calX_u, ↓inrO_u, ↓reduceIte, EM, EMg, EMs, z0, oi, n_inbT, n_cntT, n_ltT, n_ltF, n_leT, n_leF, n_eqT, n_eqF, n_m1T, n_m1F, n_m1F', n_cl, n_add, n_mul, ro_at, ro_ro, up_at, up_up, ro_ne, List.length_cons]
          · simp (disch := omega) only [↓grd_u, ↓bnd_e, ↓orf_u, ↓oif_u, ↓cal_u, ↓calX_u, ↓inrO_u, ↓reduceIte, EM, EMg, EMs, z0, oi, n_inbT, n_cntT, n_ltT, n_ltF, n_leT, n_leF, n_eqT, n_eqF, n_m1T, n_m1F, n_m1F', n_cl, n_add, n_mul, ro_at, ro_ro, up_at, up_up, ro_ne, up_ne, g2]
          · simp only [List.length_cons] at hj
            simp (disch := omega) only [↓grd_u, ↓bnd_e, ↓orf_u, ↓oif_u, ↓cal_u, ↓calX_u, ↓inrO_u, ↓reduceIte, EM, EMg, EMs, z0, oi, n_inbT, n_cntT, n_ltT, n_ltF, n_leT, n_leF, n_eqT, n_eqF, n_m1T, n_m1F, n_m1F', n_cl, n_add, n_mul, ro_at, ro_ro, up_at, up_up, ro_ne]
            by_cases hj2 : j = r.length
            · subst hj2
              rw [gT_top, up_at, up_at, up_at, Nat.or_comm y.2.2 x.2.2]
              exact ⟨rfl, rfl, rfl⟩
            · rw [gT_low _ _ (by omega), up_ne _ _ hj2, up_ne _ _ hj2, up_ne _ _ hj2]
              exact low j (by omega)
          · simp (disch := omega) only [↓grd_u, ↓bnd_e, ↓orf_u, ↓oif_u, ↓cal_u, ↓calX_u, ↓inrO_u, ↓reduceIte, EM, EMg, EMs, z0, oi, n_inbT, n_cntT, n_ltT, n_ltF, n_leT, n_leF, n_eqT, n_eqF, n_m1T, n_m1F, n_m1F', n_cl, n_add, n_mul, ro_at, ro_ro, up_at, up_up, ro_ne]
            rw [pre_lt _ _ hk]
          · simp (disch := omega) only [↓grd_u, ↓bnd_e, ↓orf_u, ↓oif_u, ↓cal_u, ↓calX_u, ↓inrO_u, ↓reduceIte, EM, EMg, EMs, z0, oi, n_inbT, n_cntT, n_ltT, n_ltF, n_leT, n_leF, n_eqT, n_eqF, n_m1T, n_m1F, n_m1F', n_cl, n_add, n_mul, ro_at, ro_ro, up_at, up_up, ro_ne]
            exact g5 k hk
          · simp (disch := omega) only [ro_ne]
    · rw [if_pos rfl, show nI (chC 5) = nI 124 from rfl]
      have hn : (vp_nar .boolean (nI (x.1 ||| y.1)) = nI (x.1 ||| y.1)) = True := eq_true (n_nar01 (or_le1 hx.1 hy.1))
      have q1 : r.length + 1 + 1 - 2 = r.length := by omega
      have q2 : r.length + 1 + 1 - 1 = r.length + 1 := by omega
      simp (disch := omega) only [↓grd_u, ↓bnd_e, ↓orf_u, ↓oif_u, ↓cal_u, ↓calX_u, ↓inrO_u, ↓reduceIte, EM, EMg, EMs, z0, oi, n_inbT, n_cntT, n_ltT, n_ltF, n_leT, n_leF, n_eqT, n_eqF, n_m1T, n_m1F, n_m1F', n_cl, n_add, n_mul, ro_at, ro_ro, up_at, up_up, ro_ne, up_ne, e1, e2, e3, g1, n_sub, q1, q2, ex, ey, fx, fy, lx, ly, n_or, hn]
      refine ⟨_, rfl, ⟨?_, ?_, fun j hj => ?_, fun k hk => ?_, fun k hk => ?_⟩, fun q hr => ?_⟩
      · simp (disch := omega) only [↓grd_u, ↓bnd_e, ↓orf_u, ↓oif_u, ↓cal_u, ↓calX_u, ↓inrO_u, ↓reduceIte, EM, EMg, EMs, z0, oi, n_inbT, n_cntT, n_ltT, n_ltF, n_leT, n_leF, n_eqT, n_eqF, n_m1T, n_m1F, n_m1F', n_cl, n_add, n_mul, ro_at, ro_ro, up_at, up_up, ro_ne, List.length_cons]
      · simp (disch := omega) only [↓grd_u, ↓bnd_e, ↓orf_u, ↓oif_u, ↓cal_u, ↓calX_u, ↓inrO_u, ↓reduceIte, EM, EMg, EMs, z0, oi, n_inbT, n_cntT, n_ltT, n_ltF, n_leT, n_leF, n_eqT, n_eqF, n_m1T, n_m1F, n_m1F', n_cl, n_add, n_mul, ro_at, ro_ro, up_at, up_up, ro_ne, up_ne, g2]
      · simp only [List.length_cons] at hj
        simp (disch := omega) only [↓grd_u, ↓bnd_e, ↓orf_u, ↓oif_u, ↓cal_u, ↓calX_u, ↓inrO_u, ↓reduceIte, EM, EMg, EMs, z0, oi, n_inbT, n_cntT, n_ltT, n_ltF, n_leT, n_leF, n_eqT, n_eqF, n_m1T, n_m1F, n_m1F', n_cl, n_add, n_mul, ro_at, ro_ro, up_at, up_up, ro_ne]
        by_cases hj2 : j = r.length
        · subst hj2
          rw [gT_top, up_at, up_at, up_at]
          exact ⟨rfl, rfl, rfl⟩
        · rw [gT_low _ _ (by omega), up_ne _ _ hj2, up_ne _ _ hj2, up_ne _ _ hj2]
          exact low j (by omega)
      · simp (disch := omega) only [↓grd_u, ↓bnd_e, ↓orf_u, ↓oif_u, ↓cal_u, ↓calX_u, ↓inrO_u, ↓reduceIte, EM, EMg, EMs, z0, oi, n_inbT, n_cntT, n_ltT, n_ltF, n_leT, n_leF, n_eqT, n_eqF, n_m1T, n_m1F, n_m1F', n_cl, n_add, n_mul, ro_at, ro_ro, up_at, up_up, ro_ne]
        exact g4 k hk
      · simp (disch := omega) only [↓grd_u, ↓bnd_e, ↓orf_u, ↓oif_u, ↓cal_u, ↓calX_u, ↓inrO_u, ↓reduceIte, EM, EMg, EMs, z0, oi, n_inbT, n_cntT, n_ltT, n_ltF, n_leT, n_leF, n_eqT, n_eqF, n_m1T, n_m1F, n_m1F', n_cl, n_add, n_mul, ro_at, ro_ro, up_at, up_up, ro_ne]
        exact g5 k hk
      · simp (disch := omega) only [ro_ne]
/-! reading a pattern's codes -/
theorem c_psize {p : List Nat} (hp : Pat n h a p) : f_X4_size a (E n h A M R) = some (nI p.length, E n h A M R) := by
  obtain ⟨p1, p2, p3, q, q1, q2, q3, q4, q5, q6, q7, q8⟩ := hp
  unfold f_X4_size
  simp (disch := omega) only [↓grd_u, ↓bnd_e, ↓orf_u, ↓oif_u, ↓cal_u, ↓calX_u, ↓inrO_u, ↓reduceIte, EM, EMg, EMs, z0, oi, n_inbT, n_cntT, n_ltT, n_ltF, n_leT, n_leF, n_eqT, n_eqF, n_m1T, n_m1F, n_m1F', n_cl, n_add, n_mul, ro_at, ro_ro, up_at, up_up, kd_X, gr_X, sz_X, p3, q1, q4, q5]
theorem c_code {p : List Nat} {k : Nat} (hp : Pat n h a p) (hk : k < p.length) (hl : p.length ≤ 255) : f_X4_code a (nI k) (E n h A M R) = some (nI (chC (p.getD k 0)), E n h A M R) := by
  obtain ⟨p1, p2, p3, q, q1, q2, q3, q4, q5, q6, q7, q8⟩ := hp
  have e := q6 k hk
  unfold f_X4_code g_X4_code_23
  simp (disch := omega) only [↓grd_u, ↓bnd_e, ↓orf_u, ↓oif_u, ↓cal_u, ↓calX_u, ↓inrO_u, ↓reduceIte, EM, EMg, EMs, z0, oi, n_inbT, n_cntT, n_ltT, n_ltF, n_leT, n_leF, n_eqT, n_eqF, n_m1T, n_m1F, n_m1F', n_cl, n_add, n_mul, ro_at, ro_ro, up_at, up_up, kd_X, gr_X, sz_X, gi_X, p3, q1, q4, q5, e, narQ]
theorem chC_sub : ∀ c, c < 4 → 1 ≤ c → nI (chC c) - nI 97 = nI (c - 1) := by decide +kernel
theorem c_fill {r m : Nat} {v : Int32} (hr : r < 97) (hk : KC r = 104) (hs : SC r = m) (hm : m < 1000) : f_J7_fill_53178 (ca n r) v (E n h A M R) = some ((), E n h (ro A r (pre m (fun _ => v) (A r))) M R) := by
  have k1 : ∀ A, kd (E n h A M R) (ca n r) = 104 := fun A => by rw [kd_C hr, hk]
  have k2 : ∀ A, sz (E n h A M R) (ca n r) = m := fun A => by rw [sz_C hr, hs]
  have k3 : ∀ A k v, si (E n h A M R) (ca n r) k v = E n h (ro A r (up (A r) k v)) M R := fun A k v => si_C hr
  unfold f_J7_fill_53178 g_J7_fill_53178_5
  simp (disch := omega) only [↓grd_u, ↓bnd_e, ↓orf_u, ↓oif_u, ↓cal_u, ↓calX_u, ↓inrO_u, ↓reduceIte, EM, EMg, EMs, z0, oi, n_inbT, n_cntT, n_ltT, n_ltF, n_leT, n_leF, n_eqT, n_eqF, n_m1T, n_m1F, n_m1F', n_cl, n_add, n_mul, ro_at, ro_ro, up_at, up_up, k1, k2]
  have hl := lp_for0 (f := b_J7_fill_53178_5 (ca n r) v (nI m)) (fun k => (nI k, E n h (ro A r (pre k (fun _ => v) (A r))) M R)) m ((), E n h (ro A r (pre m (fun _ => v) (A r))) M R) (fun k hk => ?_) ?_ (L := 100000) (by omega)
  · simp only [pre_0, ro_self] at hl
    exact hl
  · unfold b_J7_fill_53178_5 b0_J7_fill_53178_5
    have e := up_pre k (fun _ => v) (A r)
    simp (disch := omega) only [↓grd_u, ↓bnd_e, ↓orf_u, ↓oif_u, ↓cal_u, ↓calX_u, ↓inrO_u, ↓reduceIte, EM, EMg, EMs, z0, oi, n_inbT, n_cntT, n_ltT, n_ltF, n_leT, n_leF, n_eqT, n_eqF, n_m1T, n_m1F, n_m1F', n_cl, n_add, n_mul, ro_at, ro_ro, up_at, up_up, k1, k2, k3, e]
  · unfold b_J7_fill_53178_5 b0_J7_fill_53178_5
    simp (disch := omega) only [↓grd_u, ↓bnd_e, ↓orf_u, ↓oif_u, ↓cal_u, ↓calX_u, ↓inrO_u, ↓reduceIte, EM, EMg, EMs, z0, oi, n_inbT, n_cntT, n_ltT, n_ltF, n_leT, n_leF, n_eqT, n_eqF, n_m1T, n_m1F, n_m1F', n_cl, n_add, n_mul, ro_at, ro_ro, up_at, up_up]
theorem bPo_cells (hb : bPo b) : b + 1 < 97 ∧ b + 2 < 97 ∧ KC (b + 1) = 104 ∧ SC (b + 1) = 3 ∧ KC (b + 2) = 104 ∧ SC (b + 2) = 7 := by
  rcases hb with rfl | rfl | rfl <;> exact ⟨by decide, by decide, rfl, rfl, rfl, rfl⟩
/-- the positions of a pattern are numbered -/
theorem c_number {p : List Nat} (hb : bPo b) (hp : Pat n h a p) (wf : WF p) (h7 : nLet p ≤ 7) (hl : p.length ≤ 28) : ∃ A', f_X5_number (ca n b) a (E n h A M R) = some ((), E n h A' M R) ∧ GC A' b (grun g0 p) ∧ FrP b A A' := by
  have e1 := EPo hb
  have e2 := EPog hb
  have e3 := EPos hb
  obtain ⟨c1, c2, c3, c4, c5, c6⟩ := bPo_cells hb
  obtain ⟨a1, a2, ⟨v, a3⟩, a4⟩ := GRun_all wf g0 g0_ok (by show 0 + _ ≤ 7; omega) (by show 0 + _ ≤ 7; omega)
  have hka : ∀ A, kd (E n h A M R) a = 9 := fun A => by rw [kd_X (by have := hp.1; omega)]; exact hp.2.2.1
  have hcs := WF_mem wf
  have hcd : ∀ k, k < p.length → 1 ≤ p.getD k 0 ∧ p.getD k 0 < 9 := fun k hk => by
    rw [List.getD_eq_getElem?_getD, List.getElem?_eq_getElem hk]
    exact hcs _ (List.getElem_mem hk)
  obtain ⟨A1, hA1⟩ : ∃ A1, A1 = ro (ro (ro (ro A b (up (A b) 5 (nI 0))) b (up ((ro A b (up (A b) 5 (nI 0))) b) 6 (nI 0))) (b + 1) (pre 3 (fun _ => nI 0) (A (b + 1)))) (b + 2) (pre 7 (fun _ => nI 0) (A (b + 2))) := ⟨_, rfl⟩
  have g1 : GC A1 b g0 := by
    rw [hA1]
    refine ⟨?_, ?_, fun j hj => absurd hj (Nat.not_lt_zero _), fun k hk => ?_, fun k hk => ?_⟩
    · simp (disch := omega) only [ro_ne, ro_at, up_ne, up_at]; rfl
    · simp (disch := omega) only [ro_ne, ro_at, up_ne, up_at]; rfl
    · simp (disch := omega) only [ro_ne, ro_at]; rw [pre_lt _ _ hk]; rfl
    · simp (disch := omega) only [ro_ne, ro_at]; rw [pre_lt _ _ hk]; rfl
  have f1 : FrP b A A1 := fun r hr => by
    rw [hA1]
    simp (disch := omega) only [ro_ne]
  have key : ∃ r, g_X5_number_28 (ca n b) a (nI 0) (E n h A1 M R) = some r ∧ ∃ A', r = ((), E n h A' M R) ∧ GC A' b (grun g0 p) ∧ FrP b A A' := by
    unfold g_X5_number_28
    refine lp_inv0 (f := b_X5_number_28 (ca n b) a) (fun k s' => ∃ A2, s' = (nI k, E n h A2 M R) ∧ GC A2 b (grun g0 (p.take k)) ∧ FrP b A A2) _ p.length (fun k s' hk hI => ?_) (L := 100000) (by omega) ⟨A1, rfl, g1, f1⟩
    obtain ⟨A2, rfl, gc, fr⟩ := hI
    have hz := c_psize (n := n) (h := h) (A := A2) (M := M) (R := R) hp
    unfold b_X5_number_28 b0_X5_number_28 g_X5_number_80
    by_cases hk2 : k < p.length
    · obtain ⟨hi, hpre⟩ := a1 k hk2
      obtain ⟨o1, o2⟩ := hcd k hk2
      have hc := c_code (n := n) (h := h) (A := A2) (M := M) (R := R) hp hk2 (by omega)
      have hs : grun g0 (p.take (k + 1)) = gstep (grun g0 (p.take k)) (p.getD k 0) := by rw [take_snoc hk2, grun_snoc]
      generalize hce : p.getD k 0 = c at *
      by_cases q1 : c < 4
      · obtain ⟨A3, e4, g3, f3⟩ := c_pos (n := n) (h := h) (M := M) (R := R) hb gc hi hpre q1
        refine Or.inl ⟨(nI (k + 1), E n h A3 M R), ?_, hk2, A3, rfl, by rw [hs]; exact g3, FrP_tr fr f3⟩
        simp (disch := omega) only [↓grd_u, ↓bnd_e, ↓orf_u, ↓oif_u, ↓cal_u, ↓calX_u, ↓inrO_u, ↓reduceIte, EM, EMg, EMs, z0, oi, n_inbT, n_cntT, n_ltT, n_ltF, n_leT, n_leF, n_eqT, n_eqF, n_m1T, n_m1F, n_m1F', n_cl, n_add, n_mul, ro_at, ro_ro, up_at, up_up, hka, hz, hc, c_let o1 o2, b1, q1, e1, chC_sub, e4]
      · by_cases q2 : 6 ≤ c
        · obtain ⟨A3, e4, g3, f3⟩ := c_sgn (n := n) (h := h) (M := M) (R := R) hb gc hi hpre q2
          refine Or.inl ⟨(nI (k + 1), E n h A3 M R), ?_, hk2, A3, rfl, by rw [hs]; exact g3, FrP_tr fr f3⟩
          simp (disch := omega) only [↓grd_u, ↓bnd_e, ↓orf_u, ↓oif_u, ↓cal_u, ↓calX_u, ↓inrO_u, ↓reduceIte, EM, EMg, EMs, z0, oi, n_inbT, n_cntT, n_ltT, n_ltF, n_leT, n_leF, n_eqT, n_eqF, n_m1T, n_m1F, n_m1F', n_cl, n_add, n_mul, ro_at, ro_ro, up_at, up_up, hka, hz, hc, c_let o1 o2, c_sig o1 o2, b1, q1, q2, e1, e4]
        · obtain ⟨A3, e4, g3, f3⟩ := c_jn (n := n) (h := h) (M := M) (R := R) hb gc hi hpre (by omega)
          refine Or.inl ⟨(nI (k + 1), E n h A3 M R), ?_, hk2, A3, rfl, by rw [hs]; exact g3, FrP_tr fr f3⟩
          simp (disch := omega) only [↓grd_u, ↓bnd_e, ↓orf_u, ↓oif_u, ↓cal_u, ↓calX_u, ↓inrO_u, ↓reduceIte, EM, EMg, EMs, z0, oi, n_inbT, n_cntT, n_ltT, n_ltF, n_leT, n_leF, n_eqT, n_eqF, n_m1T, n_m1F, n_m1F', n_cl, n_add, n_mul, ro_at, ro_ro, up_at, up_up, hka, hz, hc, c_let o1 o2, c_sig o1 o2, b1, q1, q2, e1, e4]
    · have hke : k = p.length := by omega
      subst hke
      rw [List.take_length] at gc
      refine Or.inr ⟨((), E n h A2 M R), ?_, A2, rfl, gc, fr⟩
      simp (disch := omega) only [↓grd_u, ↓bnd_e, ↓orf_u, ↓oif_u, ↓cal_u, ↓calX_u, ↓inrO_u, ↓reduceIte, EM, EMg, EMs, z0, oi, n_inbT, n_cntT, n_ltT, n_ltF, n_leT, n_leF, n_eqT, n_eqF, n_m1T, n_m1F, n_m1F', n_cl, n_add, n_mul, ro_at, ro_ro, up_at, up_up, hka, hz]
  obtain ⟨r, e, A', rfl, g, f⟩ := key
  refine ⟨A', ?_, g, f⟩
  unfold f_X5_number
  have fl1 := fun A => c_fill (n := n) (h := h) (A := A) (M := M) (R := R) (v := nI 0) c1 c3 c4 (by decide)
  have fl2 := fun A => c_fill (n := n) (h := h) (A := A) (M := M) (R := R) (v := nI 0) c2 c5 c6 (by decide)
  have hA1' := hA1.symm
  simp (disch := omega) only [ro_ne] at hA1'
  simp (disch := omega) only [↓grd_u, ↓bnd_e, ↓orf_u, ↓oif_u, ↓cal_u, ↓reduceIte, z0, oi, ro_ne, e1, e3, fl1, fl2]
  rw [hA1', e]
end CPOS
