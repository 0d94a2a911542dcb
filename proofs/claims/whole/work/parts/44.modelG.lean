section MODELG
variable {n : Nat} {h : mH} {A M : Nat → Nat → Int32} {R : Nat → Nat → Option Nat}
theorem tb7 : ∀ s, s < 128 → ∀ k, k < 7 → ((nI s >>> (nI k &&& 31)) &&& nI 1 = nI 1 ↔ s.testBit k = true) := by decide +kernel
theorem blk_skip {f : Nat → Int32} {b k : Nat} {g : Nat → Int32} (h : f (b + k) = g k) : blk f b k g = blk f b (k + 1) g := by
  rw [← blk_up]
  funext j
  unfold up
  split
  case isTrue q =>
    subst q
    unfold blk
    rw [if_neg (by omega), h]
  case isFalse q => rfl
theorem blk_at (f : Nat → Int32) (b : Nat) {k m : Nat} (g : Nat → Int32) (h : k < m) : blk f b m g (b + k) = g k := by
  unfold blk
  rw [if_pos (by omega), Nat.add_sub_cancel_left]
theorem blk_out (f : Nat → Int32) (b m : Nat) (g : Nat → Int32) {j : Nat} (h : j < b ∨ b + m ≤ j) : blk f b m g j = f j := by
  unfold blk
  rw [if_neg (by omega)]
theorem m_followed {sd set bb : Nat} {fo : Nat → Nat} (hs : sd < 2) (h1 : set < 128) (h2 : bb < 128) (hf : ∀ k, k < 7 → M 10 (7 * sd + k) = nI (fo k)) :
    f_X12_followed (ma n 0) (nI sd) (nI set) (nI bb) (E n h A M R) = some ((), E n h A (ro M 10 (blk (M 10) (7 * sd) 7 (fun k => nI (folw fo set bb k)))) R) := by
  unfold f_X12_followed g_X12_followed_3
  rw [oi.1]
  have h0 := lp_for0 (f := b_X12_followed_3 (ma n 0) (nI sd) (nI set) (nI bb)) (fun k => (nI k, E n h A (ro M 10 (blk (M 10) (7 * sd) k (fun k => nI (folw fo set bb k)))) R)) 7 ((), E n h A (ro M 10 (blk (M 10) (7 * sd) 7 (fun k => nI (folw fo set bb k)))) R) (fun k hk => ?_) ?_ (L := 100000) (by decide)
  · simp only [blk_0, ro_self] at h0
    exact h0
  · unfold b_X12_followed_3 b0_X12_followed_3 g_X12_followed_46
    by_cases hb : set.testBit k = true
    · have ht : ((nI set >>> (nI k &&& 31)) &&& nI 1 = nI 1) = True := eq_true ((tb7 set h1 k hk).mpr hb)
      have e : blk (M 10) (7 * sd) k (fun k => nI (folw fo set bb k)) (7 * sd + k) = nI (fo k) := by rw [blk_out _ _ _ _ (by omega)]; exact hf k hk
      simp (disch := omega) only [↓grd_u, ↓bnd_e, ↓orf_u, ↓oif_u, ↓cal_u, ↓calX_u, ↓inrO_u, ↓reduceIte, EM, EMg, EMs, z0, oi, n_inbT, n_cntT, n_ltT, n_ltF, n_leT, n_leF, n_eqT, n_eqF, n_m1T, n_m1F, n_m1F', n_cl, n_add, n_mul, ro_at, ro_ro, up_at, up_up, ro_ne, up_ne, ro_sw, ht, e, n_or]
      rw [← blk_up]
      unfold folw
      rw [if_pos hb]
    · have ht : ((nI set >>> (nI k &&& 31)) &&& nI 1 = nI 1) = False := eq_false (fun q => hb ((tb7 set h1 k hk).mp q))
      simp (disch := omega) only [↓grd_u, ↓bnd_e, ↓orf_u, ↓oif_u, ↓cal_u, ↓calX_u, ↓inrO_u, ↓reduceIte, EM, EMg, EMs, z0, oi, n_inbT, n_cntT, n_ltT, n_ltF, n_leT, n_leF, n_eqT, n_eqF, n_m1T, n_m1F, n_m1F', n_cl, n_add, n_mul, ro_at, ro_ro, up_at, up_up, ro_ne, up_ne, ro_sw, ht]
      rw [blk_skip (k := k) (by rw [hf k hk]; unfold folw; rw [if_neg hb])]
  · unfold b_X12_followed_3 b0_X12_followed_3
    simp (disch := omega) only [↓grd_u, ↓bnd_e, ↓orf_u, ↓oif_u, ↓cal_u, ↓calX_u, ↓inrO_u, ↓reduceIte, EM, EMg, EMs, z0, oi, n_inbT, n_cntT, n_ltT, n_ltF, n_leT, n_leF, n_eqT, n_eqF, n_m1T, n_m1F, n_m1F', n_cl, n_add, n_mul, ro_at, ro_ro, up_at, up_up]
/-- the stack machine's state in the reference's rows, on a side -/
def gT (st : List (Nat × Nat × Nat)) (j : Nat) : Nat × Nat × Nat := st.getD (st.length - 1 - j) (0, 0, 0)
def GM (M : Nat → Nat → Int32) (sd : Nat) (s : gst) : Prop := M 0 29 = nI s.1.length ∧ (∀ j, j < s.1.length → M 15 j = nI (gT s.1 j).1 ∧ M 16 j = nI (gT s.1 j).2.1 ∧ M 17 j = nI (gT s.1 j).2.2) ∧ (∀ k, k < 7 → M 10 (7 * sd + k) = nI (s.2.1 k)) ∧ (∀ k, k < 3 → M 11 (3 * sd + k) = nI (s.2.2.1 k))
def FrG (sd : Nat) (M M' : Nat → Nat → Int32) : Prop := Fr [15, 16, 17, 10, 11] [29] M M' ∧ (∀ j, j < 7 * sd ∨ 7 * sd + 7 ≤ j → M' 10 j = M 10 j) ∧ (∀ j, j < 3 * sd ∨ 3 * sd + 3 ≤ j → M' 11 j = M 11 j)
theorem FrG_rf (sd : Nat) (M : Nat → Nat → Int32) : FrG sd M M := ⟨Fr_rf _ _ _, fun _ _ => rfl, fun _ _ => rfl⟩
theorem FrG_tr {sd : Nat} {M M' M'' : Nat → Nat → Int32} (h : FrG sd M M') (h' : FrG sd M' M'') : FrG sd M M'' := ⟨Fr_tr h.1 h'.1, fun j hj => (h'.2.1 j hj).trans (h.2.1 j hj), fun j hj => (h'.2.2 j hj).trans (h.2.2 j hj)⟩
theorem gT_top (v : Nat × Nat × Nat) (r : List (Nat × Nat × Nat)) : gT (v :: r) r.length = v := by unfold gT; simp
theorem gT_low (v : Nat × Nat × Nat) (r : List (Nat × Nat × Nat)) {j : Nat} (h : j < r.length) : gT (v :: r) j = gT r j := by
  unfold gT
  rw [show (v :: r).length - 1 - j = (r.length - 1 - j) + 1 by simp; omega, List.getD_cons_succ]
theorem gT_low2 (u v : Nat × Nat × Nat) (r : List (Nat × Nat × Nat)) : gT (u :: v :: r) r.length = v := by rw [gT_low _ _ (by simp), gT_top]
theorem up7 (sd : Nat) {q j : Nat} (F : Nat → Int32) (v : Int32) (hq : q < 7) (h : j < 7 * sd ∨ 7 * sd + 7 ≤ j) : up F (7 * sd + q) v j = F j := up_ne _ _ (by omega)
theorem m_pile {sd c : Nat} {s : gst} (hs : sd < 2) (hg : GM M sd s) (hi : GInv s) (hp : GPre s c) (hc : c < 4) :
    ∃ M', f_X12_pileLetter (ma n 0) (nI sd) (nI c - nI 1) (nI s.2.2.2) (E n h A M R) = some ((), E n h A M' R) ∧ GM M' sd (gstep s c) ∧ FrG sd M M' := by
  obtain ⟨st, fo, ol, pos⟩ := s
  obtain ⟨g1, g2, g3, g4⟩ := hg
  unfold GPre at hp
  rw [if_pos hc] at hp
  obtain ⟨p1, p2, p3⟩ := hp
  dsimp only at p2 p3 g1 g2 g3 g4 ⊢
  have hol := g4 (c - 1) (by omega)
  have h1 := n_shl1 pos (by omega)
  unfold f_X12_pileLetter
  rw [n_sub p1]
  simp (disch := omega) only [↓grd_u, ↓bnd_e, ↓orf_u, ↓oif_u, ↓cal_u, ↓calX_u, ↓inrO_u, ↓reduceIte, EM, EMg, EMs, z0, oi, n_inbT, n_cntT, n_ltT, n_ltF, n_leT, n_leF, n_eqT, n_eqF, n_m1T, n_m1F, n_m1F', n_cl, n_add, n_mul, ro_at, ro_ro, up_at, up_up, ro_ne, up_ne, ro_sw, h1, hol, g1, n_or]
  refine ⟨_, rfl, ?_, ?_⟩
  · unfold gstep
    rw [if_pos hc]
    dsimp only
    refine ⟨by simp (disch := omega) only [↓grd_u, ↓bnd_e, ↓orf_u, ↓oif_u, ↓cal_u, ↓calX_u, ↓inrO_u, ↓reduceIte, EM, EMg, EMs, z0, oi, n_inbT, n_cntT, n_ltT, n_ltF, n_leT, n_leF, n_eqT, n_eqF, n_m1T, n_m1F, n_m1F', n_cl, n_add, n_mul, ro_at, ro_ro, up_at, up_up, ro_ne, up_ne, ro_sw, List.length_cons], fun j hj => ?_, fun k hk => ?_, fun k hk => ?_⟩
    · simp only [List.length_cons] at hj
      simp (disch := omega) only [↓grd_u, ↓bnd_e, ↓orf_u, ↓oif_u, ↓cal_u, ↓calX_u, ↓inrO_u, ↓reduceIte, EM, EMg, EMs, z0, oi, n_inbT, n_cntT, n_ltT, n_ltF, n_leT, n_leF, n_eqT, n_eqF, n_m1T, n_m1F, n_m1F', n_cl, n_add, n_mul, ro_at, ro_ro, up_at, up_up, ro_ne, up_ne, ro_sw]
      by_cases hj2 : j = st.length
      · subst hj2
        rw [gT_top, up_at, up_at, up_at]
        exact ⟨rfl, rfl, rfl⟩
      · rw [gT_low _ _ (by omega), up_ne _ _ hj2, up_ne _ _ hj2, up_ne _ _ hj2]
        exact g2 j (by omega)
    · simp (disch := omega) only [↓grd_u, ↓bnd_e, ↓orf_u, ↓oif_u, ↓cal_u, ↓calX_u, ↓inrO_u, ↓reduceIte, EM, EMg, EMs, z0, oi, n_inbT, n_cntT, n_ltT, n_ltF, n_leT, n_leF, n_eqT, n_eqF, n_m1T, n_m1F, n_m1F', n_cl, n_add, n_mul, ro_at, ro_ro, up_at, up_up, ro_ne, up_ne, ro_sw]
      exact g3 k hk
    · simp (disch := omega) only [↓grd_u, ↓bnd_e, ↓orf_u, ↓oif_u, ↓cal_u, ↓calX_u, ↓inrO_u, ↓reduceIte, EM, EMg, EMs, z0, oi, n_inbT, n_cntT, n_ltT, n_ltF, n_leT, n_leF, n_eqT, n_eqF, n_m1T, n_m1F, n_m1F', n_cl, n_add, n_mul, ro_at, ro_ro, up_at, up_up, ro_ne, up_ne, ro_sw]
      by_cases hk2 : k = c - 1
      · subst hk2
        rw [up_at, up_at]
      · rw [up_ne _ _ (by omega), up_ne _ _ hk2]
        exact g4 k hk
  · refine ⟨⟨fun r h0 hr => ?_, fun k hk => ?_⟩, fun j hj => ?_, fun j hj => ?_⟩
    · simp only [List.mem_cons, List.not_mem_nil, or_false, not_or] at hr
      obtain ⟨r1, r2, r3, r4, r5⟩ := hr
      simp only [ro_ne _ _ h0, ro_ne _ _ r1, ro_ne _ _ r2, ro_ne _ _ r3, ro_ne _ _ r5]
    · simp only [List.mem_cons, List.not_mem_nil, or_false] at hk
      simp only [ro_at, up_ne _ _ hk]
    · simp (disch := omega) only [↓grd_u, ↓bnd_e, ↓orf_u, ↓oif_u, ↓cal_u, ↓calX_u, ↓inrO_u, ↓reduceIte, EM, EMg, EMs, z0, oi, n_inbT, n_cntT, n_ltT, n_ltF, n_leT, n_leF, n_eqT, n_eqF, n_m1T, n_m1F, n_m1F', n_cl, n_add, n_mul, ro_at, ro_ro, up_at, up_up, ro_ne, up_ne, ro_sw]
    · simp (disch := omega) only [↓grd_u, ↓bnd_e, ↓orf_u, ↓oif_u, ↓cal_u, ↓calX_u, ↓inrO_u, ↓reduceIte, EM, EMg, EMs, z0, oi, n_inbT, n_cntT, n_ltT, n_ltF, n_leT, n_leF, n_eqT, n_eqF, n_m1T, n_m1F, n_m1F', n_cl, n_add, n_mul, ro_at, ro_ro, up_at, up_up, ro_ne, up_ne, ro_sw]
theorem m_joins {sd c : Nat} {s : gst} (hs : sd < 2) (hg : GM M sd s) (hi : GInv s) (hp : GPre s c) (hc : ¬ c < 4) (hc2 : ¬ 6 ≤ c) :
    ∃ M', f_X12_joins (ma n 0) (nI sd) (nI c) (E n h A M R) = some ((), E n h A M' R) ∧ GM M' sd (gstep s c) ∧ FrG sd M M' := by
  obtain ⟨st, fo, ol, pos⟩ := s
  obtain ⟨g1, g2, g3, g4⟩ := hg
  obtain ⟨i1, i2, i3, i4, i5⟩ := hi
  unfold GPre at hp
  rw [if_neg hc, if_neg hc2] at hp
  dsimp only at hp g1 g2 g3 g4 i1 i3 i4 i5
  match st, hp, g1, g2, i1, i3 with
  | b :: a :: r, _, g1, g2, i1, i3 =>
    have hb := i3 b List.mem_cons_self
    have ha := i3 a (List.mem_cons_of_mem _ List.mem_cons_self)
    simp only [List.length_cons] at g1 g2 i1
    obtain ⟨ea, fa, la⟩ := g2 r.length (by omega)
    obtain ⟨eb, fb, lb⟩ := g2 (r.length + 1) (by omega)
    rw [gT_low2] at ea fa la
    rw [show r.length + 1 = (a :: r).length from rfl, gT_top] at eb fb lb
    rw [show (a :: r).length = r.length + 1 from rfl] at eb fb lb
    have low : ∀ j, j < r.length → M 15 j = nI (gT r j).1 ∧ M 16 j = nI (gT r j).2.1 ∧ M 17 j = nI (gT r j).2.2 := fun j hj => by
      have := g2 j (by omega)
      rwa [gT_low _ _ (by simp; omega), gT_low _ _ hj] at this
    unfold f_X12_joins gstep gjoin
    rw [if_neg hc, if_neg hc2]
    dsimp only
    by_cases h5 : c = 5
    · subst h5
      rw [if_pos rfl]
      simp (disch := omega) only [↓grd_u, ↓bnd_e, ↓orf_u, ↓oif_u, ↓cal_u, ↓calX_u, ↓inrO_u, ↓reduceIte, EM, EMg, EMs, z0, oi, n_inbT, n_cntT, n_ltT, n_ltF, n_leT, n_leF, n_eqT, n_eqF, n_m1T, n_m1F, n_m1F', n_cl, n_add, n_mul, ro_at, ro_ro, up_at, up_up, ro_ne, up_ne, ro_sw, g1, n_sub, Nat.add_sub_cancel, fa, fb, la, lb, ea, eb, n_or]
      refine ⟨_, rfl, ?_, ?_⟩
      · refine ⟨by simp (disch := omega) only [↓grd_u, ↓bnd_e, ↓orf_u, ↓oif_u, ↓cal_u, ↓calX_u, ↓inrO_u, ↓reduceIte, EM, EMg, EMs, z0, oi, n_inbT, n_cntT, n_ltT, n_ltF, n_leT, n_leF, n_eqT, n_eqF, n_m1T, n_m1F, n_m1F', n_cl, n_add, n_mul, ro_at, ro_ro, up_at, up_up, ro_ne, up_ne, ro_sw, List.length_cons], fun j hj => ?_, fun k hk => ?_, fun k hk => ?_⟩
        · simp only [List.length_cons] at hj
          simp (disch := omega) only [↓grd_u, ↓bnd_e, ↓orf_u, ↓oif_u, ↓cal_u, ↓calX_u, ↓inrO_u, ↓reduceIte, EM, EMg, EMs, z0, oi, n_inbT, n_cntT, n_ltT, n_ltF, n_leT, n_leF, n_eqT, n_eqF, n_m1T, n_m1F, n_m1F', n_cl, n_add, n_mul, ro_at, ro_ro, up_at, up_up, ro_ne, up_ne, ro_sw]
          by_cases hj2 : j = r.length
          · subst hj2
            rw [gT_top, up_at, up_at, up_at]
            exact ⟨rfl, rfl, rfl⟩
          · rw [gT_low _ _ (by omega), up_ne _ _ hj2, up_ne _ _ hj2, up_ne _ _ hj2]
            exact low j (by omega)
        · simp (disch := omega) only [↓grd_u, ↓bnd_e, ↓orf_u, ↓oif_u, ↓cal_u, ↓calX_u, ↓inrO_u, ↓reduceIte, EM, EMg, EMs, z0, oi, n_inbT, n_cntT, n_ltT, n_ltF, n_leT, n_leF, n_eqT, n_eqF, n_m1T, n_m1F, n_m1F', n_cl, n_add, n_mul, ro_at, ro_ro, up_at, up_up, ro_ne, up_ne, ro_sw]
          exact g3 k hk
        · simp (disch := omega) only [↓grd_u, ↓bnd_e, ↓orf_u, ↓oif_u, ↓cal_u, ↓calX_u, ↓inrO_u, ↓reduceIte, EM, EMg, EMs, z0, oi, n_inbT, n_cntT, n_ltT, n_ltF, n_leT, n_leF, n_eqT, n_eqF, n_m1T, n_m1F, n_m1F', n_cl, n_add, n_mul, ro_at, ro_ro, up_at, up_up, ro_ne, up_ne, ro_sw]
          exact g4 k hk
      · refine ⟨⟨fun q h0 hr => ?_, fun k hk => ?_⟩, fun j hj => ?_, fun j hj => ?_⟩
        · simp only [List.mem_cons, List.not_mem_nil, or_false, not_or] at hr
          obtain ⟨r1, r2, r3, r4, r5⟩ := hr
          simp only [ro_ne _ _ h0, ro_ne _ _ r1, ro_ne _ _ r2, ro_ne _ _ r3]
        · simp only [List.mem_cons, List.not_mem_nil, or_false] at hk
          simp only [ro_at, up_ne _ _ hk]
        · simp (disch := omega) only [↓grd_u, ↓bnd_e, ↓orf_u, ↓oif_u, ↓cal_u, ↓calX_u, ↓inrO_u, ↓reduceIte, EM, EMg, EMs, z0, oi, n_inbT, n_cntT, n_ltT, n_ltF, n_leT, n_leF, n_eqT, n_eqF, n_m1T, n_m1F, n_m1F', n_cl, n_add, n_mul, ro_at, ro_ro, up_at, up_up, ro_ne, up_ne, ro_sw]
        · simp (disch := omega) only [↓grd_u, ↓bnd_e, ↓orf_u, ↓oif_u, ↓cal_u, ↓calX_u, ↓inrO_u, ↓reduceIte, EM, EMg, EMs, z0, oi, n_inbT, n_cntT, n_ltT, n_ltF, n_leT, n_leF, n_eqT, n_eqF, n_m1T, n_m1F, n_m1F', n_cl, n_add, n_mul, ro_at, ro_ro, up_at, up_up, ro_ne, up_ne, ro_sw]
    · rw [if_neg h5]
      have hfol := fun (M1 : Nat → Nat → Int32) (h1 : M1 10 = M 10) => m_followed (n := n) (h := h) (A := A) (M := M1) (R := R) (sd := sd) (set := a.2.2) (bb := b.2.1) (fo := fo) hs ha.2.2 hb.2.1 (fun k hk => by rw [h1]; exact g3 k hk)
      have hc5 : (nI c = nI 5) = False := by rw [n_eq (by omega) (by decide)]; exact eq_false h5
      have hf0 := hfol (ro M 0 (up (M 0) 29 (nI (r.length + 1)))) (ro_ne _ _ (by decide))
      unfold g_X12_joins_145 g_X12_joins_186
      have key : ∀ F L, F = nI (if a.1 = 1 then a.2.1 ||| b.2.1 else a.2.1) → L = nI (if b.1 = 1 then a.2.2 ||| b.2.2 else b.2.2) → ∀ M', M' = ro (ro (ro (ro (ro M 17 (up (M 17) r.length L)) 16 (up (M 16) r.length F)) 15 (up (M 15) r.length (nI (a.1 &&& b.1)))) 10 (blk (M 10) (7 * sd) 7 (fun k => nI (folw fo a.2.2 b.2.1 k)))) 0 (up (M 0) 29 (nI (r.length + 1))) → GM M' sd ((a.1 &&& b.1, if a.1 = 1 then a.2.1 ||| b.2.1 else a.2.1, if b.1 = 1 then a.2.2 ||| b.2.2 else b.2.2) :: r, folw fo a.2.2 b.2.1, ol, pos) ∧ FrG sd M M' := by
        intro F L hF hL M' hM'
        subst hF; subst hL; subst hM'
        refine ⟨⟨by simp (disch := omega) only [↓grd_u, ↓bnd_e, ↓orf_u, ↓oif_u, ↓cal_u, ↓calX_u, ↓inrO_u, ↓reduceIte, EM, EMg, EMs, z0, oi, n_inbT, n_cntT, n_ltT, n_ltF, n_leT, n_leF, n_eqT, n_eqF, n_m1T, n_m1F, n_m1F', n_cl, n_add, n_mul, ro_at, ro_ro, up_at, up_up, ro_ne, up_ne, ro_sw, List.length_cons], fun j hj => ?_, fun k hk => ?_, fun k hk => ?_⟩, ⟨fun q h0 hr => ?_, fun k hk => ?_⟩, fun j hj => ?_, fun j hj => ?_⟩
        · simp only [List.length_cons] at hj
          simp (disch := omega) only [↓grd_u, ↓bnd_e, ↓orf_u, ↓oif_u, ↓cal_u, ↓calX_u, ↓inrO_u, ↓reduceIte, EM, EMg, EMs, z0, oi, n_inbT, n_cntT, n_ltT, n_ltF, n_leT, n_leF, n_eqT, n_eqF, n_m1T, n_m1F, n_m1F', n_cl, n_add, n_mul, ro_at, ro_ro, up_at, up_up, ro_ne, up_ne, ro_sw]
          by_cases hj2 : j = r.length
          · subst hj2
            rw [gT_top, up_at, up_at, up_at]
            exact ⟨rfl, rfl, rfl⟩
          · rw [gT_low _ _ (by omega), up_ne _ _ hj2, up_ne _ _ hj2, up_ne _ _ hj2]
            exact low j (by omega)
        · simp (disch := omega) only [↓grd_u, ↓bnd_e, ↓orf_u, ↓oif_u, ↓cal_u, ↓calX_u, ↓inrO_u, ↓reduceIte, EM, EMg, EMs, z0, oi, n_inbT, n_cntT, n_ltT, n_ltF, n_leT, n_leF, n_eqT, n_eqF, n_m1T, n_m1F, n_m1F', n_cl, n_add, n_mul, ro_at, ro_ro, up_at, up_up, ro_ne, up_ne, ro_sw]
          exact blk_at _ _ _ hk
        · simp (disch := omega) only [↓grd_u, ↓bnd_e, ↓orf_u, ↓oif_u, ↓cal_u, ↓calX_u, ↓inrO_u, ↓reduceIte, EM, EMg, EMs, z0, oi, n_inbT, n_cntT, n_ltT, n_ltF, n_leT, n_leF, n_eqT, n_eqF, n_m1T, n_m1F, n_m1F', n_cl, n_add, n_mul, ro_at, ro_ro, up_at, up_up, ro_ne, up_ne, ro_sw]
          exact g4 k hk
        · simp only [List.mem_cons, List.not_mem_nil, or_false, not_or] at hr
          obtain ⟨r1, r2, r3, r4, r5⟩ := hr
          simp only [ro_ne _ _ h0, ro_ne _ _ r1, ro_ne _ _ r2, ro_ne _ _ r3, ro_ne _ _ r4]
        · simp only [List.mem_cons, List.not_mem_nil, or_false] at hk
          simp only [ro_at, up_ne _ _ hk]
        · simp (disch := omega) only [↓grd_u, ↓bnd_e, ↓orf_u, ↓oif_u, ↓cal_u, ↓calX_u, ↓inrO_u, ↓reduceIte, EM, EMg, EMs, z0, oi, n_inbT, n_cntT, n_ltT, n_ltF, n_leT, n_leF, n_eqT, n_eqF, n_m1T, n_m1F, n_m1F', n_cl, n_add, n_mul, ro_at, ro_ro, up_at, up_up, ro_ne, up_ne, ro_sw]
          exact blk_out _ _ _ _ hj
        · simp (disch := omega) only [↓grd_u, ↓bnd_e, ↓orf_u, ↓oif_u, ↓cal_u, ↓calX_u, ↓inrO_u, ↓reduceIte, EM, EMg, EMs, z0, oi, n_inbT, n_cntT, n_ltT, n_ltF, n_leT, n_leF, n_eqT, n_eqF, n_m1T, n_m1F, n_m1F', n_cl, n_add, n_mul, ro_at, ro_ro, up_at, up_up, ro_ne, up_ne, ro_sw]
      by_cases ha1 : a.1 = 1
      · have e1 : (nI a.1 = nI 1) = True := by rw [n_eq (by have := ha.1; omega) (by decide)]; exact eq_true ha1
        by_cases hb1 : b.1 = 1
        · have e2 : (nI b.1 = nI 1) = True := by rw [n_eq (by have := hb.1; omega) (by decide)]; exact eq_true hb1
          simp (disch := omega) only [↓grd_u, ↓bnd_e, ↓orf_u, ↓oif_u, ↓cal_u, ↓calX_u, ↓inrO_u, ↓reduceIte, EM, EMg, EMs, z0, oi, n_inbT, n_cntT, n_ltT, n_ltF, n_leT, n_leF, n_eqT, n_eqF, n_m1T, n_m1F, n_m1F', n_cl, n_add, n_mul, ro_at, ro_ro, up_at, up_up, ro_ne, up_ne, ro_sw, g1, n_sub, Nat.add_sub_cancel, hc5, hf0, ea, eb, fa, fb, la, lb, e1, e2, n_or, n_and]
          exact ⟨_, rfl, key _ _ (by rw [if_pos ha1]) (by rw [if_pos hb1]) _ rfl⟩
        · have e2 : (nI b.1 = nI 1) = False := by rw [n_eq (by have := hb.1; omega) (by decide)]; exact eq_false hb1
          simp (disch := omega) only [↓grd_u, ↓bnd_e, ↓orf_u, ↓oif_u, ↓cal_u, ↓calX_u, ↓inrO_u, ↓reduceIte, EM, EMg, EMs, z0, oi, n_inbT, n_cntT, n_ltT, n_ltF, n_leT, n_leF, n_eqT, n_eqF, n_m1T, n_m1F, n_m1F', n_cl, n_add, n_mul, ro_at, ro_ro, up_at, up_up, ro_ne, up_ne, ro_sw, g1, n_sub, Nat.add_sub_cancel, hc5, hf0, ea, eb, fa, fb, la, lb, e1, e2, n_or, n_and]
          exact ⟨_, rfl, key _ _ (by rw [if_pos ha1]) (by rw [if_neg hb1]) _ rfl⟩
      · have e1 : (nI a.1 = nI 1) = False := by rw [n_eq (by have := ha.1; omega) (by decide)]; exact eq_false ha1
        by_cases hb1 : b.1 = 1
        · have e2 : (nI b.1 = nI 1) = True := by rw [n_eq (by have := hb.1; omega) (by decide)]; exact eq_true hb1
          simp (disch := omega) only [↓grd_u, ↓bnd_e, ↓orf_u, ↓oif_u, ↓cal_u, ↓calX_u, ↓inrO_u, ↓reduceIte, EM, EMg, EMs, z0, oi, n_inbT, n_cntT, n_ltT, n_ltF, n_leT, n_leF, n_eqT, n_eqF, n_m1T, n_m1F, n_m1F', n_cl, n_add, n_mul, ro_at, ro_ro, up_at, up_up, ro_ne, up_ne, ro_sw, g1, n_sub, Nat.add_sub_cancel, hc5, hf0, ea, eb, fa, fb, la, lb, e1, e2, n_or, n_and]
          exact ⟨_, rfl, key _ _ (by rw [if_neg ha1]) (by rw [if_pos hb1]) _ rfl⟩
        · have e2 : (nI b.1 = nI 1) = False := by rw [n_eq (by have := hb.1; omega) (by decide)]; exact eq_false hb1
          simp (disch := omega) only [↓grd_u, ↓bnd_e, ↓orf_u, ↓oif_u, ↓cal_u, ↓calX_u, ↓inrO_u, ↓reduceIte, EM, EMg, EMs, z0, oi, n_inbT, n_cntT, n_ltT, n_ltF, n_leT, n_leF, n_eqT, n_eqF, n_m1T, n_m1F, n_m1F', n_cl, n_add, n_mul, ro_at, ro_ro, up_at, up_up, ro_ne, up_ne, ro_sw, g1, n_sub, Nat.add_sub_cancel, hc5, hf0, ea, eb, fa, fb, la, lb, e1, e2, n_or, n_and]
          exact ⟨_, rfl, key _ _ (by rw [if_neg ha1]) (by rw [if_neg hb1]) _ rfl⟩
end MODELG
