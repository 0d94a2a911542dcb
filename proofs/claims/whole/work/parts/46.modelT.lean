/-! the automaton of positions: 128 stands for the initial state, a set of positions for itself -/
abbrev Glu : Type := Nat × Nat × Nat × (Nat → Nat) × (Nat → Nat)
def gluOf (p : List Nat) : Glu := (((grun g0 p).1.getD 0 (0, 0, 0)).1, ((grun g0 p).1.getD 0 (0, 0, 0)).2.1, ((grun g0 p).1.getD 0 (0, 0, 0)).2.2, (grun g0 p).2.1, (grun g0 p).2.2.1)
def folU (fo : Nat → Nat) (q : Nat) : Nat → Nat
  | 0 => 0
  | k + 1 => if q.testBit k = true then folU fo q k ||| fo k else folU fo q k
def gnext (g : Glu) (q c : Nat) : Nat := (if q = 128 then g.2.1 else folU g.2.2.2.1 q 7) &&& g.2.2.2.2 c
def gacc (g : Glu) (q : Nat) : Prop := if q = 128 then g.1 = 1 else q &&& g.2.2.1 ≠ 0
def GluOK (g : Glu) : Prop := g.1 ≤ 1 ∧ g.2.1 < 128 ∧ g.2.2.1 < 128 ∧ (∀ k, g.2.2.2.1 k < 128) ∧ (∀ k, g.2.2.2.2 k < 128)
theorem folU_lt {fo : Nat → Nat} (h : ∀ k, fo k < 128) (q : Nat) : ∀ m, folU fo q m < 128
  | 0 => Nat.zero_lt_succ _
  | m + 1 => by
    unfold folU
    split
    · exact or128 (folU_lt h q m) (h m)
    · exact folU_lt h q m
theorem gnext_lt {g : Glu} (h : GluOK g) (q c : Nat) : gnext g q c < 128 := Nat.lt_of_le_of_lt Nat.and_le_right (h.2.2.2.2 c)
theorem glu_ok {p : List Nat} (hw : WF p) (h7 : nLet p ≤ 7) : GluOK (gluOf p) := by
  obtain ⟨-, a2, ⟨v, a3⟩, -⟩ := GRun_all hw g0 ⟨by decide, by decide, fun v hv => (nomatch hv), fun _ => (by decide : 0 < 128), fun _ => (by decide : 0 < 128)⟩ (by show 0 + _ ≤ 7; omega) (by show 0 + _ ≤ 7; omega)
  have hv := a2.2.2.1 v (by rw [a3]; exact List.mem_cons_self)
  unfold gluOf
  rw [a3]
  exact ⟨hv.1, hv.2.1, hv.2.2, a2.2.2.2.1, a2.2.2.2.2⟩
/-- the automaton g stands in the reference's rows, on a side -/
def AutM (M : Nat → Nat → Int32) (sd : Nat) (g : Glu) : Prop := M 14 sd = nI g.1 ∧ M 13 sd = nI g.2.1 ∧ M 12 sd = nI g.2.2.1 ∧ (∀ k, k < 7 → M 10 (7 * sd + k) = nI (g.2.2.2.1 k)) ∧ (∀ k, k < 3 → M 11 (3 * sd + k) = nI (g.2.2.2.2 k)) ∧ (∀ q, q < 129 → ∀ c, c < 3 → M 9 (387 * sd + 3 * q + c) = nI (gnext g q c))
def FrB (sd : Nat) (M M' : Nat → Nat → Int32) : Prop := Fr [15, 16, 17, 10, 11, 13, 12, 14, 9] [29] M M' ∧ (∀ j, j < 7 * sd ∨ 7 * sd + 7 ≤ j → M' 10 j = M 10 j) ∧ (∀ j, j < 3 * sd ∨ 3 * sd + 3 ≤ j → M' 11 j = M 11 j) ∧ (∀ j, j ≠ sd → M' 13 j = M 13 j ∧ M' 12 j = M 12 j ∧ M' 14 j = M 14 j) ∧ (∀ j, j < 387 * sd ∨ 387 * sd + 387 ≤ j → M' 9 j = M 9 j)
theorem FrB_tr {sd : Nat} {M M' M'' : Nat → Nat → Int32} (h : FrB sd M M') (h' : FrB sd M' M'') : FrB sd M M'' := ⟨Fr_tr h.1 h'.1, fun j hj => (h'.2.1 j hj).trans (h.2.1 j hj), fun j hj => (h'.2.2.1 j hj).trans (h.2.2.1 j hj), fun j hj => ⟨(h'.2.2.2.1 j hj).1.trans (h.2.2.2.1 j hj).1, (h'.2.2.2.1 j hj).2.1.trans (h.2.2.2.1 j hj).2.1, (h'.2.2.2.1 j hj).2.2.trans (h.2.2.2.1 j hj).2.2⟩, fun j hj => (h'.2.2.2.2 j hj).trans (h.2.2.2.2 j hj)⟩
theorem FrB_G {sd : Nat} {M M' : Nat → Nat → Int32} (h : FrG sd M M') : FrB sd M M' := ⟨Fr_wk h.1 (by decide) (by decide), h.2.1, h.2.2, fun j _ => ⟨by rw [h.1.1 _ (by decide) (by decide)], by rw [h.1.1 _ (by decide) (by decide)], by rw [h.1.1 _ (by decide) (by decide)]⟩, fun j _ => by rw [h.1.1 _ (by decide) (by decide)]⟩
/-- the other side's automaton stays -/
theorem AutM_fr {M M' : Nat → Nat → Int32} {sd so : Nat} {g : Glu} (h : AutM M so g) (hf : FrB sd M M') (h1 : sd < 2) (h2 : so < 2) (hne : so ≠ sd) : AutM M' so g := by
  obtain ⟨a1, a2, a3, a4, a5, a6⟩ := h
  obtain ⟨-, f1, f2, f3, f4⟩ := hf
  obtain ⟨e1, e2, e3⟩ := f3 so hne
  exact ⟨by rw [e3]; exact a1, by rw [e1]; exact a2, by rw [e2]; exact a3, fun k hk => by rw [f1 _ (by omega)]; exact a4 k hk, fun k hk => by rw [f2 _ (by omega)]; exact a5 k hk, fun q hq c hc => by rw [f4 _ (by omega)]; exact a6 q hq c hc⟩
theorem AutM_keep {M M' : Nat → Nat → Int32} {sd : Nat} {g : Glu} {rows sc : List Nat} (h : AutM M sd g) (hf : Fr rows sc M M') (h1 : ∀ r ∈ [10, 11, 13, 12, 14, 9], r ∉ rows) : AutM M' sd g := by
  obtain ⟨a1, a2, a3, a4, a5, a6⟩ := h
  have e1 := hf.1 10 (by decide) (h1 _ (by decide))
  have e2 := hf.1 11 (by decide) (h1 _ (by decide))
  have e3 := hf.1 13 (by decide) (h1 _ (by decide))
  have e4 := hf.1 12 (by decide) (h1 _ (by decide))
  have e5 := hf.1 14 (by decide) (h1 _ (by decide))
  have e6 := hf.1 9 (by decide) (h1 _ (by decide))
  exact ⟨by rw [e5]; exact a1, by rw [e3]; exact a2, by rw [e4]; exact a3, by rw [e1]; exact a4, by rw [e2]; exact a5, by rw [e6]; exact a6⟩
section MODELT
variable {n : Nat} {h : mH} {A M : Nat → Nat → Int32} {R : Nat → Nat → Option Nat} {S : St}
theorem m_next {sd q c : Nat} {g : Glu} (hs : sd < 2) (hq : q < 129) (hc : c < 3) (hg : GluOK g) (h1 : M 13 sd = nI g.2.1) (h2 : ∀ k, k < 7 → M 10 (7 * sd + k) = nI (g.2.2.2.1 k)) (h3 : ∀ k, k < 3 → M 11 (3 * sd + k) = nI (g.2.2.2.2 k)) :
    f_X12_next (ma n 0) (nI sd) (nI q) (nI c) (E n h A M R) = some (nI (gnext g q c), E n h A M R) := by
  have ho := h3 c hc
  unfold f_X12_next g_X12_next_17 g_X12_next_22
  by_cases h128 : q = 128
  · subst h128
    simp (disch := omega) only [↓grd_u, ↓bnd_e, ↓orf_u, ↓oif_u, ↓cal_u, ↓calX_u, ↓inrO_u, ↓reduceIte, EM, EMg, EMs, z0, oi, n_inbT, n_cntT, n_ltT, n_ltF, n_leT, n_leF, n_eqT, n_eqF, n_m1T, n_m1F, n_m1F', n_cl, n_add, n_mul, ro_at, ro_ro, up_at, up_up, h1]
    unfold lp b_X12_next_22 b0_X12_next_22 g_X12_next_74
    simp (disch := omega) only [↓grd_u, ↓bnd_e, ↓orf_u, ↓oif_u, ↓cal_u, ↓calX_u, ↓inrO_u, ↓reduceIte, EM, EMg, EMs, z0, oi, n_inbT, n_cntT, n_ltT, n_ltF, n_leT, n_leF, n_eqT, n_eqF, n_m1T, n_m1F, n_m1F', n_cl, n_add, n_mul, ro_at, ro_ro, up_at, up_up, ho, n_and]
    unfold gnext
    rw [if_pos rfl]
  · have hlt : q < 128 := by omega
    have hn : (nI q = nI 128) = False := by rw [n_eq (by omega) (by decide)]; exact eq_false h128
    simp (disch := omega) only [↓grd_u, ↓bnd_e, ↓orf_u, ↓oif_u, ↓cal_u, ↓calX_u, ↓inrO_u, ↓reduceIte, EM, EMg, EMs, z0, oi, n_inbT, n_cntT, n_ltT, n_ltF, n_leT, n_leF, n_eqT, n_eqF, n_m1T, n_m1F, n_m1F', n_cl, n_add, n_mul, ro_at, ro_ro, up_at, up_up, hn]
    have hl := lp_for0 (f := b_X12_next_22 (ma n 0) (nI sd) (nI q) (nI c)) (fun k => (nI (folU g.2.2.2.1 q k), nI k, E n h A M R)) 7 (nI (gnext g q c), E n h A M R) (fun k hk => ?_) ?_ (L := 100000) (by decide)
    · exact hl
    · unfold b_X12_next_22 b0_X12_next_22 g_X12_next_66
      have hf := h2 k hk
      by_cases hb : q.testBit k = true
      · have ht : ((nI q >>> (nI k &&& 31)) &&& nI 1 = nI 1) = True := eq_true ((tb7 q hlt k hk).mpr hb)
        simp (disch := omega) only [↓grd_u, ↓bnd_e, ↓orf_u, ↓oif_u, ↓cal_u, ↓calX_u, ↓inrO_u, ↓reduceIte, EM, EMg, EMs, z0, oi, n_inbT, n_cntT, n_ltT, n_ltF, n_leT, n_leF, n_eqT, n_eqF, n_m1T, n_m1F, n_m1F', n_cl, n_add, n_mul, ro_at, ro_ro, up_at, up_up, hn, ht, hf, n_or]
        rw [show folU g.2.2.2.1 q (k + 1) = folU g.2.2.2.1 q k ||| g.2.2.2.1 k from if_pos hb]
      · have ht : ((nI q >>> (nI k &&& 31)) &&& nI 1 = nI 1) = False := eq_false (fun x => hb ((tb7 q hlt k hk).mp x))
        simp (disch := omega) only [↓grd_u, ↓bnd_e, ↓orf_u, ↓oif_u, ↓cal_u, ↓calX_u, ↓inrO_u, ↓reduceIte, EM, EMg, EMs, z0, oi, n_inbT, n_cntT, n_ltT, n_ltF, n_leT, n_leF, n_eqT, n_eqF, n_m1T, n_m1F, n_m1F', n_cl, n_add, n_mul, ro_at, ro_ro, up_at, up_up, hn, ht]
        rw [show folU g.2.2.2.1 q (k + 1) = folU g.2.2.2.1 q k from if_neg hb]
    · unfold b_X12_next_22 b0_X12_next_22 g_X12_next_74
      simp (disch := omega) only [↓grd_u, ↓bnd_e, ↓orf_u, ↓oif_u, ↓cal_u, ↓calX_u, ↓inrO_u, ↓reduceIte, EM, EMg, EMs, z0, oi, n_inbT, n_cntT, n_ltT, n_ltF, n_leT, n_leF, n_eqT, n_eqF, n_m1T, n_m1F, n_m1F', n_cl, n_add, n_mul, ro_at, ro_ro, up_at, up_up, ho, n_and]
      unfold gnext
      rw [if_neg h128]
theorem m_steps {sd : Nat} {g : Glu} (hs : sd < 2) (hg : GluOK g) (h1 : M 13 sd = nI g.2.1) (h2 : ∀ k, k < 7 → M 10 (7 * sd + k) = nI (g.2.2.2.1 k)) (h3 : ∀ k, k < 3 → M 11 (3 * sd + k) = nI (g.2.2.2.2 k)) :
    g_X12_builds_215 (ma n 0) (nI sd) (nI 0) (E n h A M R) = some ((), E n h A (ro M 9 (blk (M 9) (387 * sd) 387 (fun j => nI (gnext g (j / 3) (j % 3))))) R) := by
  unfold g_X12_builds_215
  have hl := lp_for0 (f := b_X12_builds_215 (ma n 0) (nI sd)) (fun q => (nI q, E n h A (ro M 9 (blk (M 9) (387 * sd) (3 * q) (fun j => nI (gnext g (j / 3) (j % 3))))) R)) 129 ((), E n h A (ro M 9 (blk (M 9) (387 * sd) 387 (fun j => nI (gnext g (j / 3) (j % 3))))) R) (fun q hq => ?_) ?_ (L := 100000) (by decide)
  · simp only [Nat.mul_zero, blk_0, ro_self] at hl
    exact hl
  · unfold b_X12_builds_215 b0_X12_builds_215 g_X12_builds_226
    simp (disch := omega) only [↓grd_u, ↓bnd_e, ↓orf_u, ↓oif_u, ↓cal_u, ↓calX_u, ↓inrO_u, ↓reduceIte, EM, EMg, EMs, z0, oi, n_inbT, n_cntT, n_ltT, n_ltF, n_leT, n_leF, n_eqT, n_eqF, n_m1T, n_m1F, n_m1F', n_cl, n_add, n_mul, ro_at, ro_ro, up_at, up_up]
    have hl2 := lp_for0 (f := b_X12_builds_226 (ma n 0) (nI sd) (nI q)) (fun c => (nI c, E n h A (ro M 9 (blk (M 9) (387 * sd) (3 * q + c) (fun j => nI (gnext g (j / 3) (j % 3))))) R)) 3 (.inl (nI (q + 1), E n h A (ro M 9 (blk (M 9) (387 * sd) (3 * (q + 1)) (fun j => nI (gnext g (j / 3) (j % 3))))) R)) (fun c hc => ?_) ?_ (L := 100000) (by decide)
    · exact hl2
    · unfold b_X12_builds_226 b0_X12_builds_226
      have hn := m_next (n := n) (h := h) (A := A) (M := ro M 9 (blk (M 9) (387 * sd) (3 * q + c) (fun j => nI (gnext g (j / 3) (j % 3))))) (R := R) (g := g) (q := q) (c := c) hs hq hc hg (by rw [ro_ne _ _ (by decide)]; exact h1) (fun k hk => by rw [ro_ne _ _ (by decide)]; exact h2 k hk) (fun k hk => by rw [ro_ne _ _ (by decide)]; exact h3 k hk)
      simp (disch := omega) only [↓grd_u, ↓bnd_e, ↓orf_u, ↓oif_u, ↓cal_u, ↓calX_u, ↓inrO_u, ↓reduceIte, EM, EMg, EMs, z0, oi, n_inbT, n_cntT, n_ltT, n_ltF, n_leT, n_leF, n_eqT, n_eqF, n_m1T, n_m1F, n_m1F', n_cl, n_add, n_mul, ro_at, ro_ro, up_at, up_up, ro_ne, up_ne, ro_sw, hn]
      have e := blk_up (M 9) (387 * sd) (3 * q + c) (fun j => nI (gnext g (j / 3) (j % 3)))
      rw [show (3 * q + c) / 3 = q by omega, show (3 * q + c) % 3 = c by omega, ← Nat.add_assoc] at e
      rw [e, Nat.add_assoc (3 * q)]
    · unfold b_X12_builds_226 b0_X12_builds_226
      simp (disch := omega) only [↓grd_u, ↓bnd_e, ↓orf_u, ↓oif_u, ↓cal_u, ↓calX_u, ↓inrO_u, ↓reduceIte, EM, EMg, EMs, z0, oi, n_inbT, n_cntT, n_ltT, n_ltF, n_leT, n_leF, n_eqT, n_eqF, n_m1T, n_m1F, n_m1F', n_cl, n_add, n_mul, ro_at, ro_ro, up_at, up_up]
      rfl
  · unfold b_X12_builds_215 b0_X12_builds_215
    simp (disch := omega) only [↓grd_u, ↓bnd_e, ↓orf_u, ↓oif_u, ↓cal_u, ↓calX_u, ↓inrO_u, ↓reduceIte, EM, EMg, EMs, z0, oi, n_inbT, n_cntT, n_ltT, n_ltF, n_leT, n_leF, n_eqT, n_eqF, n_m1T, n_m1F, n_m1F', n_cl, n_add, n_mul, ro_at, ro_ro, up_at, up_up]
end MODELT
