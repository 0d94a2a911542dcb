/-! the reference: calls on one automaton -/
def b2 (b : Bool) : Nat := if b = true then 1 else 0
def gab (g : Glu) (q : Nat) : Bool := if q = 128 then decide (g.1 = 1) else decide (q &&& g.2.2.1 ≠ 0)
def grn (g : Glu) (w : List Nat) : Nat := rn (gnext g) 128 w
def m1 : Nat := 4294967295
theorem m1_I : Int32.ofInt (-1) = nI m1 := by decide +kernel
theorem b2_le (b : Bool) : b2 b ≤ 1 := by unfold b2; split <;> omega
theorem grn_lt {g : Glu} (hg : GluOK g) (w : List Nat) : grn g w < 129 := by
  unfold grn rn
  have : ∀ (w : List Nat) (q : Nat), q < 129 → w.foldl (gnext g) q < 129 := fun w => by
    induction w with
    | nil => exact fun q h => h
    | cons c w ih => exact fun q _ => ih _ (by have := gnext_lt hg q c; omega)
  exact this w 128 (by decide)
theorem and_lt {a b : Nat} (hb : b < 128) : a &&& b < 128 := Nat.lt_of_le_of_lt Nat.and_le_right hb
/-- a letter's number -/
def leN (v : Int32) : Option Nat := if v < nI 97 ∨ nI 99 < v then none else some (v.toNatClampNeg - 97)
theorem le_cases (v : Int32) : (∃ c, c < 3 ∧ v = nI (97 + c) ∧ leN v = some c) ∨ ((v < nI 97 ∨ nI 99 < v) ∧ leN v = none) := by
  by_cases h : v < nI 97 ∨ nI 99 < v
  · exact Or.inr ⟨h, if_pos h⟩
  · have h0 : ¬ v < nI 0 := fun q => h (Or.inl (by rw [Int32.lt_iff_toInt_lt] at q ⊢; rw [nI_toInt (by decide)] at q ⊢; omega))
    obtain ⟨j, hj, rfl⟩ := nI_of h0
    have h2 := h
    rw [n_lt hj (by decide), n_lt (by decide) hj] at h2
    exact Or.inl ⟨j - 97, by omega, by rw [show 97 + (j - 97) = j by omega], by unfold leN; rw [if_neg h, n_cl hj]⟩
def aEmpty (S : St) (v : Int32) : Nat × Nat × St := match patN S v with
  | some s => (0, (gluOf (lP (sCur S) s)).1, S)
  | none => (1, 0, S)
def aBeg (S : St) (v : Int32) (c : Int32) : Nat × Nat × St := match patN S v with
  | some s => (match leN c with | some l => (0, b2 (decide ((gluOf (lP (sCur S) s)).2.1 &&& (gluOf (lP (sCur S) s)).2.2.2.2 l ≠ 0)), S) | none => (2, 0, S))
  | none => (1, 0, S)
def aEnd (S : St) (v : Int32) (c : Int32) : Nat × Nat × St := match patN S v with
  | some s => (match leN c with | some l => (0, b2 (decide ((gluOf (lP (sCur S) s)).2.2.1 &&& (gluOf (lP (sCur S) s)).2.2.2.2 l ≠ 0)), S) | none => (2, 0, S))
  | none => (1, 0, S)
def aAdj (S : St) (v : Int32) (c d : Int32) : Nat × Nat × St := match patN S v with
  | some s => (match leN c, leN d with | some l, some k => (0, b2 (decide (folU (gluOf (lP (sCur S) s)).2.2.2.1 ((gluOf (lP (sCur S) s)).2.2.2.2 l) 7 &&& (gluOf (lP (sCur S) s)).2.2.2.2 k ≠ 0)), S) | _, _ => (2, 0, S))
  | none => (1, 0, S)
def okT (S : St) : Prop := okW (sText S) 0 (sText S).length = 1 ∧ (sText S).length ≤ 12
def aMat (S : St) (v : Int32) : Nat × Nat × St := match patN S v with
  | some s => if okW (sText S) 0 (sText S).length = 1 ∧ (sText S).length ≤ 12 then (0, b2 (gab (gluOf (lP (sCur S) s)) (grn (gluOf (lP (sCur S) s)) (lets (sText S)))), S) else (2, 0, S)
  | none => (1, 0, S)
def lpx (g : Glu) (w : List Nat) : Nat → Nat
  | 0 => m1
  | k + 1 => if gab g (grn g (w.take k)) = true then k else lpx g w k
def aPre (S : St) (v : Int32) : Nat × Nat × St := match patN S v with
  | some s => if okW (sText S) 0 (sText S).length = 1 ∧ (sText S).length ≤ 12 then (0, lpx (gluOf (lP (sCur S) s)) (lets (sText S)) ((sText S).length + 1), S) else (2, 0, S)
  | none => (1, 0, S)
def aAcW (S : St) (v x : Int32) : Nat × Nat × St := match patN S v with
  | some s => (match ixN x (lW (sCur S)).length with | some i => (0, b2 (gab (gluOf (lP (sCur S) s)) (grn (gluOf (lP (sCur S) s)) ((lW (sCur S)).getD i []))), S) | none => (2, 0, S))
  | none => (1, 0, S)
def acN (S : St) (g : Glu) (k : Nat) : Nat := cs (fun i => gab g (grn g ((lW (sCur S)).getD i []))) k
def aAcs (S : St) (v : Int32) : Nat × Nat × St := match patN S v with
  | some s => (0, acN S (gluOf (lP (sCur S) s)) (lW (sCur S)).length, S)
  | none => (1, 0, S)
theorem good_glu {S : St} {s : Nat} (hg : GoodS S) (hs : s < 6) (hp : lP (sCur S) s ≠ []) : GluOK (gluOf (lP (sCur S) s)) := by
  have gp := hg.1.1 s hs
  have h7 : nLet (lP (sCur S) s) ≤ 7 := by
    rcases gp with q | ⟨-, q⟩
    · exact absurd q hp
    · exact Nat.not_lt.mp (fun z => q (Or.inl z))
  exact glu_ok (GoodP_wf gp hp) h7
theorem folU_and {fo : Nat → Nat} {q x : Nat} : ∀ m, folU fo q m &&& x ≠ 0 ↔ ∃ k, k < m ∧ q.testBit k = true ∧ fo k &&& x ≠ 0
  | 0 => ⟨fun h => absurd (Nat.zero_and x) h, fun ⟨k, h, _⟩ => absurd h (Nat.not_lt_zero _)⟩
  | m + 1 => by
    have ih := folU_and (fo := fo) (q := q) (x := x) m
    unfold folU
    by_cases hb : q.testBit m = true
    · rw [if_pos hb, Nat.and_or_distrib_right]
      constructor
      · intro h
        by_cases e : folU fo q m &&& x = 0
        · refine ⟨m, Nat.lt_succ_self _, hb, fun z => h ?_⟩
          rw [e, z]; rfl
        · obtain ⟨k, h1, h2⟩ := ih.mp e
          exact ⟨k, by omega, h2⟩
      · rintro ⟨k, h1, h2, h3⟩ h
        have h4 := Nat.or_eq_zero_iff.mp h
        by_cases e : k = m
        · rw [e] at h3; exact h3 h4.2
        · exact ih.mpr ⟨k, by omega, h2, h3⟩ h4.1
    · rw [if_neg hb, ih]
      constructor
      · rintro ⟨k, h1, h2⟩; exact ⟨k, by omega, h2⟩
      · rintro ⟨k, h1, h2, h3⟩
        have : k ≠ m := fun e => hb (by rw [← e]; exact h2)
        exact ⟨k, by omega, h2, h3⟩
section MAUT
variable {n : Nat} {h : mH} {A M : Nat → Nat → Int32} {R : Nat → Nat → Option Nat} {S : St}
theorem m_to {sd q c : Nat} {g : Glu} (ha : AutM M sd g) (hs : sd < 2) (hq : q < 129) (hc : c < 3) : f_X12_to (ma n 0) (nI sd) (nI q) (nI c) (E n h A M R) = some (nI (gnext g q c), E n h A M R) := by
  have e := ha.2.2.2.2.2 q hq c hc
  unfold f_X12_to
  simp (disch := omega) only [↓grd_u, ↓bnd_e, ↓orf_u, ↓oif_u, ↓cal_u, ↓calX_u, ↓inrO_u, ↓reduceIte, EM, EMg, EMs, z0, oi, n_inbT, n_cntT, n_ltT, n_ltF, n_leT, n_leF, n_eqT, n_eqF, n_m1T, n_m1F, n_m1F', n_cl, n_add, n_mul, ro_at, ro_ro, up_at, up_up, e]
theorem m_acc {sd q : Nat} {g : Glu} (ha : AutM M sd g) (hg : GluOK g) (hs : sd < 2) (hq : q < 129) : f_X12_accepts (ma n 0) (nI sd) (nI q) (E n h A M R) = some (nI (b2 (gab g q)), E n h A M R) := by
  obtain ⟨a1, a2, a3, a4, a5, a6⟩ := ha
  obtain ⟨g1, g2, g3, g4, g5⟩ := hg
  unfold f_X12_accepts g_X12_accepts_41 gab b2
  by_cases h128 : q = 128
  · rw [if_pos h128]
    subst h128
    by_cases e : g.1 = 1
    · simp (disch := omega) only [↓grd_u, ↓bnd_e, ↓orf_u, ↓oif_u, ↓cal_u, ↓calX_u, ↓inrO_u, ↓reduceIte, EM, EMg, EMs, z0, oi, n_inbT, n_cntT, n_ltT, n_ltF, n_leT, n_leF, n_eqT, n_eqF, n_m1T, n_m1F, n_m1F', n_cl, n_add, n_mul, ro_at, ro_ro, up_at, up_up, a1, e, nz1]
      simp
    · simp (disch := omega) only [↓grd_u, ↓bnd_e, ↓orf_u, ↓oif_u, ↓cal_u, ↓calX_u, ↓inrO_u, ↓reduceIte, EM, EMg, EMs, z0, oi, n_inbT, n_cntT, n_ltT, n_ltF, n_leT, n_leF, n_eqT, n_eqF, n_m1T, n_m1F, n_m1F', n_cl, n_add, n_mul, ro_at, ro_ro, up_at, up_up, a1, nz0]
      simp [e]
  · rw [if_neg h128]
    have hn : (nI q = nI 128) = False := by rw [n_eq (by omega) (by decide)]; exact eq_false h128
    have hl := and_lt (a := q) g3
    by_cases e : q &&& g.2.2.1 = 0
    · simp (disch := omega) only [↓grd_u, ↓bnd_e, ↓orf_u, ↓oif_u, ↓cal_u, ↓calX_u, ↓inrO_u, ↓reduceIte, EM, EMg, EMs, z0, oi, n_inbT, n_cntT, n_ltT, n_ltF, n_leT, n_leF, n_eqT, n_eqF, n_m1T, n_m1F, n_m1F', n_cl, n_add, n_mul, ro_at, ro_ro, up_at, up_up, hn, a3, n_and, nz0]
      simp [e]
    · simp (disch := omega) only [↓grd_u, ↓bnd_e, ↓orf_u, ↓oif_u, ↓cal_u, ↓calX_u, ↓inrO_u, ↓reduceIte, EM, EMg, EMs, z0, oi, n_inbT, n_cntT, n_ltT, n_ltF, n_leT, n_leF, n_eqT, n_eqF, n_m1T, n_m1F, n_m1F', n_cl, n_add, n_mul, ro_at, ro_ro, up_at, up_up, hn, a3, n_and, nz1]
      simp [e]
theorem m_behind {w : List Nat} {g : Glu} {k : Nat} (ha : AutM M 0 g) (hg : GluOK g) (hw : ∀ j, j < w.length → M 8 j = nI (w.getD j 0)) (h3 : le3 w) (hl : w.length ≤ 60) (hk : k ≤ w.length) : f_X12_behind (ma n 0) (nI k) (E n h A M R) = some (nI (grn g (w.take k)), E n h A M R) := by
  unfold f_X12_behind g_X12_behind_6
  rw [oi.1]
  refine lp_for0 (f := b_X12_behind_6 (ma n 0) (nI k)) (fun j => (nI (grn g (w.take j)), nI j, E n h A M R)) k _ (fun j hj => ?_) ?_ (L := 100000) (by omega)
  · have hq := grn_lt hg (w.take j)
    have e := hw j (by omega)
    have hc : w.getD j 0 < 3 := by
      rw [List.getD_eq_getElem?_getD, List.getElem?_eq_getElem (by omega)]
      exact h3 _ (List.getElem_mem (by omega))
    have ht := m_to (n := n) (h := h) (A := A) (R := R) ha (by decide) hq hc
    unfold b_X12_behind_6 b0_X12_behind_6
    simp (disch := omega) only [↓grd_u, ↓bnd_e, ↓orf_u, ↓oif_u, ↓cal_u, ↓calX_u, ↓inrO_u, ↓reduceIte, EM, EMg, EMs, z0, oi, n_inbT, n_cntT, n_ltT, n_ltF, n_leT, n_leF, n_eqT, n_eqF, n_m1T, n_m1F, n_m1F', n_cl, n_add, n_mul, ro_at, ro_ro, up_at, up_up, e, ht]
    rw [take_snoc (by omega : j < w.length)]
    unfold grn
    rw [rn_snoc]
  · unfold b_X12_behind_6 b0_X12_behind_6
    simp (disch := omega) only [↓grd_u, ↓bnd_e, ↓orf_u, ↓oif_u, ↓cal_u, ↓calX_u, ↓inrO_u, ↓reduceIte, EM, EMg, EMs, z0, oi, n_inbT, n_cntT, n_ltT, n_ltF, n_leT, n_leF, n_eqT, n_eqF, n_m1T, n_m1F, n_m1F', n_cl, n_add, n_mul, ro_at, ro_ro, up_at, up_up]
/-- a call that builds an automaton and keeps the state -/
theorem m_bld {s : Nat} (hi : IM M S) (hg : GoodS S) (hs : s < 6) (hp : lP (sCur S) s ≠ []) : ∃ M', f_X12_builds (ma n 0) (nI 0) (nI s) (E n h A M R) = some ((), E n h A M' R) ∧ AutM M' 0 (gluOf (lP (sCur S) s)) ∧ FrB 0 M M' ∧ IM M' S ∧ M' 0 0 = M 0 0 := by
  obtain ⟨M', e, a, f⟩ := m_builds (n := n) (h := h) (A := A) (M := M) (R := R) (S := S) (sd := 0) (by decide) hs hi.1 hg hp
  exact ⟨M', e, a, f, IM_fr hi f.1 (by decide) (by decide), f.1.2 _ (by decide)⟩
theorem m_acceptsEmpty {v : Int32} (hi : IM M S) (hg : GoodS S) : MA n h A R (f_X12_acceptsEmpty (ma n 0) v (E n h A M R)) (aEmpty S v) := by
  have h0 : IM (ro M 0 (up (M 0) 0 (nI 0))) S := IM_thrown hi
  unfold f_X12_acceptsEmpty aEmpty g_X12_acceptsEmpty_26 g_X12_acceptsEmpty_48
  rcases pat_cases S v with ⟨s, hs, rfl, hp, e⟩ | ⟨e, hc⟩
  · rw [e]
    obtain ⟨M', eb, au, f, i, t⟩ := m_bld (n := n) (h := h) (A := A) (R := R) h0 hg hs hp
    have ok := good_glu hg hs hp
    have e1 := au.1
    have h1 := ok.1
    refine ⟨M', ?_, i, by rw [t, ro_at, up_at]⟩
    simp (disch := omega) only [↓grd_u, ↓bnd_e, ↓orf_u, ↓oif_u, ↓cal_u, ↓calX_u, ↓inrO_u, ↓reduceIte, EM, EMg, EMs, z0, oi, n_inbT, n_cntT, n_ltT, n_ltF, n_leT, n_leF, n_eqT, n_eqF, n_m1T, n_m1F, n_m1F', n_cl, n_add, n_mul, ro_at, ro_ro, up_at, up_up, holdsT h0 hg hs hp]
    simp (disch := omega) only [↓grd_u, ↓bnd_e, ↓orf_u, ↓oif_u, ↓cal_u, ↓calX_u, ↓inrO_u, ↓reduceIte, EM, EMg, EMs, z0, oi, n_inbT, n_cntT, n_ltT, n_ltF, n_leT, n_leF, n_eqT, n_eqF, n_m1T, n_m1F, n_m1F', n_cl, n_add, n_mul, ro_at, ro_ro, up_at, up_up, eb, e1]
    by_cases q : (gluOf (lP (sCur S) s)).1 = 1
    · simp (disch := omega) only [↓grd_u, ↓bnd_e, ↓orf_u, ↓oif_u, ↓cal_u, ↓calX_u, ↓inrO_u, ↓reduceIte, EM, EMg, EMs, z0, oi, n_inbT, n_cntT, n_ltT, n_ltF, n_leT, n_leF, n_eqT, n_eqF, n_m1T, n_m1F, n_m1F', n_cl, n_add, n_mul, ro_at, ro_ro, up_at, up_up, q, nz1]
    · have q0 : (gluOf (lP (sCur S) s)).1 = 0 := by omega
      simp (disch := omega) only [↓grd_u, ↓bnd_e, ↓orf_u, ↓oif_u, ↓cal_u, ↓calX_u, ↓inrO_u, ↓reduceIte, EM, EMg, EMs, z0, oi, n_inbT, n_cntT, n_ltT, n_ltF, n_leT, n_leF, n_eqT, n_eqF, n_m1T, n_m1F, n_m1F', n_cl, n_add, n_mul, ro_at, ro_ro, up_at, up_up, q0, nz0]
  · have hh := m_holdsX (n := n) (h := h) (A := A) (R := R) h0 e hc
    rw [e]
    obtain ⟨M', e, i, t⟩ := m_failed (n := n) (h := h) (A := A) (R := R) (k := 1) h0
    refine ⟨M', ?_, i, t⟩
    simp (disch := omega) only [↓grd_u, ↓bnd_e, ↓orf_u, ↓oif_u, ↓cal_u, ↓calX_u, ↓inrO_u, ↓reduceIte, EM, EMg, EMs, z0, oi, n_inbT, n_cntT, n_ltT, n_ltF, n_leT, n_leF, n_eqT, n_eqF, n_m1T, n_m1F, n_m1F', n_cl, n_add, n_mul, ro_at, ro_ro, up_at, up_up, hh]
    simp (disch := omega) only [↓grd_u, ↓bnd_e, ↓orf_u, ↓oif_u, ↓cal_u, ↓calX_u, ↓inrO_u, ↓reduceIte, EM, EMg, EMs, z0, oi, n_inbT, n_cntT, n_ltT, n_ltF, n_leT, n_leF, n_eqT, n_eqF, n_m1T, n_m1F, n_m1F', n_cl, n_add, n_mul, ro_at, ro_ro, up_at, up_up, e, nz0]
/-- the first lines of the calls with letters -/
theorem m_missX {v c d : Int32} (hi : IM M S) (e : patN S v = none) (hc : (v < nI 0 ∨ nI 5 < v) ∨ ∃ s, s < 6 ∧ v = nI s ∧ lP (sCur S) s = []) : ∃ M', f_X12_misses (ma n 0) v c d (E n h A M R) = some (nI 1, E n h A M' R) ∧ IM M' S ∧ M' 0 0 = nI 1 := by
  have h0 : IM (ro M 0 (up (M 0) 0 (nI 0))) S := IM_thrown hi
  have hh := m_holdsX (n := n) (h := h) (A := A) (R := R) h0 e hc
  obtain ⟨M', e, i, t⟩ := m_failed (n := n) (h := h) (A := A) (R := R) (k := 1) h0
  refine ⟨M', ?_, i, t⟩
  unfold f_X12_misses g_X12_misses_26
  simp (disch := omega) only [↓grd_u, ↓bnd_e, ↓orf_u, ↓oif_u, ↓cal_u, ↓calX_u, ↓inrO_u, ↓reduceIte, EM, EMg, EMs, z0, oi, n_inbT, n_cntT, n_ltT, n_ltF, n_leT, n_leF, n_eqT, n_eqF, n_m1T, n_m1F, n_m1F', n_cl, n_add, n_mul, ro_at, ro_ro, up_at, up_up, hh]
  simp (disch := omega) only [↓grd_u, ↓bnd_e, ↓orf_u, ↓oif_u, ↓cal_u, ↓calX_u, ↓inrO_u, ↓reduceIte, EM, EMg, EMs, z0, oi, n_inbT, n_cntT, n_ltT, n_ltF, n_leT, n_leF, n_eqT, n_eqF, n_m1T, n_m1F, n_m1F', n_cl, n_add, n_mul, ro_at, ro_ro, up_at, up_up, e, nz1]
theorem m_miss2 {s : Nat} {c d : Int32} (hi : IM M S) (hg : GoodS S) (hs : s < 6) (hp : lP (sCur S) s ≠ []) (hq : (c < nI 97 ∨ nI 99 < c) ∨ (d < nI 97 ∨ nI 99 < d)) : ∃ M', f_X12_misses (ma n 0) (nI s) c d (E n h A M R) = some (nI 1, E n h A M' R) ∧ IM M' S ∧ M' 0 0 = nI 2 := by
  have h0 : IM (ro M 0 (up (M 0) 0 (nI 0))) S := IM_thrown hi
  obtain ⟨M', e, i, t⟩ := m_failed (n := n) (h := h) (A := A) (R := R) (k := 2) h0
  refine ⟨M', ?_, i, t⟩
  unfold f_X12_misses g_X12_misses_49 g_X12_misses_62
  rcases le_cases c with ⟨c', h3, rfl, -⟩ | ⟨hc, -⟩
  · rcases le_cases d with ⟨d', h3, rfl, -⟩ | ⟨hd, -⟩
    · exfalso
      rw [n_lt (by omega) (by decide), n_lt (by decide) (by omega), n_lt (by omega) (by decide), n_lt (by decide) (by omega)] at hq
      omega
    · have hb2 : ∀ g, f_X12_isBetween d (nI 97) (nI 99) g = some (nI 0, g) := fun g => m_betweenF hd
      simp (disch := omega) only [↓grd_u, ↓bnd_e, ↓orf_u, ↓oif_u, ↓cal_u, ↓calX_u, ↓inrO_u, ↓reduceIte, EM, EMg, EMs, z0, oi, n_inbT, n_cntT, n_ltT, n_ltF, n_leT, n_leF, n_eqT, n_eqF, n_m1T, n_m1F, n_m1F', n_cl, n_add, n_mul, ro_at, ro_ro, up_at, up_up, holdsT h0 hg hs hp, m_between, hb2]
      simp (disch := omega) only [↓grd_u, ↓bnd_e, ↓orf_u, ↓oif_u, ↓cal_u, ↓calX_u, ↓inrO_u, ↓reduceIte, EM, EMg, EMs, z0, oi, n_inbT, n_cntT, n_ltT, n_ltF, n_leT, n_leF, n_eqT, n_eqF, n_m1T, n_m1F, n_m1F', n_cl, n_add, n_mul, ro_at, ro_ro, up_at, up_up, e, nz1]
  · have hb2 : ∀ g, f_X12_isBetween c (nI 97) (nI 99) g = some (nI 0, g) := fun g => m_betweenF hc
    simp (disch := omega) only [↓grd_u, ↓bnd_e, ↓orf_u, ↓oif_u, ↓cal_u, ↓calX_u, ↓inrO_u, ↓reduceIte, EM, EMg, EMs, z0, oi, n_inbT, n_cntT, n_ltT, n_ltF, n_leT, n_leF, n_eqT, n_eqF, n_m1T, n_m1F, n_m1F', n_cl, n_add, n_mul, ro_at, ro_ro, up_at, up_up, holdsT h0 hg hs hp, hb2]
    simp (disch := omega) only [↓grd_u, ↓bnd_e, ↓orf_u, ↓oif_u, ↓cal_u, ↓calX_u, ↓inrO_u, ↓reduceIte, EM, EMg, EMs, z0, oi, n_inbT, n_cntT, n_ltT, n_ltF, n_leT, n_leF, n_eqT, n_eqF, n_m1T, n_m1F, n_m1F', n_cl, n_add, n_mul, ro_at, ro_ro, up_at, up_up, e, nz1]
theorem m_miss0 {s c d : Nat} (hi : IM M S) (hg : GoodS S) (hs : s < 6) (hp : lP (sCur S) s ≠ []) (hc : c < 3) (hd : d < 3) : f_X12_misses (ma n 0) (nI s) (nI (97 + c)) (nI (97 + d)) (E n h A M R) = some (nI 0, E n h A (ro M 0 (up (M 0) 0 (nI 0))) R) := by
  have h0 : IM (ro M 0 (up (M 0) 0 (nI 0))) S := IM_thrown hi
  unfold f_X12_misses g_X12_misses_61 g_X12_misses_62
  simp (disch := omega) only [↓grd_u, ↓bnd_e, ↓orf_u, ↓oif_u, ↓cal_u, ↓calX_u, ↓inrO_u, ↓reduceIte, EM, EMg, EMs, z0, oi, n_inbT, n_cntT, n_ltT, n_ltF, n_leT, n_leF, n_eqT, n_eqF, n_m1T, n_m1F, n_m1F', n_cl, n_add, n_mul, ro_at, ro_ro, up_at, up_up, holdsT h0 hg hs hp, m_between, nz0]
theorem le_97 : nI 97 = nI (97 + 0) := rfl
theorem m_canBegin {v c : Int32} (hi : IM M S) (hg : GoodS S) : MA n h A R (f_X12_canBegin (ma n 0) v c (E n h A M R)) (aBeg S v c) := by
  have h0 : IM (ro M 0 (up (M 0) 0 (nI 0))) S := IM_thrown hi
  unfold f_X12_canBegin aBeg g_X12_canBegin_43
  rcases pat_cases S v with ⟨s, hs, rfl, hp, e⟩ | ⟨e, hc⟩
  · rw [e]
    dsimp only
    rcases le_cases c with ⟨l, hl, rfl, e2⟩ | ⟨hc, e2⟩
    · rw [e2]
      obtain ⟨M', eb, au, f, i, t⟩ := m_bld (n := n) (h := h) (A := A) (R := R) h0 hg hs hp
      have ok := good_glu hg hs hp
      have e3 := au.2.1
      have e4 := au.2.2.2.2.1 l hl
      rw [show 3 * 0 + l = l by omega] at e4
      have ms := m_miss0 (n := n) (h := h) (A := A) (R := R) (d := 0) hi hg hs hp hl (by decide)
      rw [← le_97] at ms
      have hlt := and_lt (a := (gluOf (lP (sCur S) s)).2.1) (ok.2.2.2.2 l)
      refine ⟨M', ?_, i, by rw [t, ro_at, up_at]⟩
      simp (disch := omega) only [↓grd_u, ↓bnd_e, ↓orf_u, ↓oif_u, ↓cal_u, ↓calX_u, ↓inrO_u, ↓reduceIte, EM, EMg, EMs, z0, oi, n_inbT, n_cntT, n_ltT, n_ltF, n_leT, n_leF, n_eqT, n_eqF, n_m1T, n_m1F, n_m1F', n_cl, n_add, n_mul, ro_at, ro_ro, up_at, up_up, ms]
      simp (disch := omega) only [↓grd_u, ↓bnd_e, ↓orf_u, ↓oif_u, ↓cal_u, ↓calX_u, ↓inrO_u, ↓reduceIte, EM, EMg, EMs, z0, oi, n_inbT, n_cntT, n_ltT, n_ltF, n_leT, n_leF, n_eqT, n_eqF, n_m1T, n_m1F, n_m1F', n_cl, n_add, n_mul, ro_at, ro_ro, up_at, up_up, eb, n_sub, show 97 + l - 97 = l by omega, e3, e4, n_and]
      unfold b2
      by_cases q : (gluOf (lP (sCur S) s)).2.1 &&& (gluOf (lP (sCur S) s)).2.2.2.2 l = 0
      · simp (disch := omega) only [↓grd_u, ↓bnd_e, ↓orf_u, ↓oif_u, ↓cal_u, ↓calX_u, ↓inrO_u, ↓reduceIte, EM, EMg, EMs, z0, oi, n_inbT, n_cntT, n_ltT, n_ltF, n_leT, n_leF, n_eqT, n_eqF, n_m1T, n_m1F, n_m1F', n_cl, n_add, n_mul, ro_at, ro_ro, up_at, up_up, nz0]
        simp [q]
      · simp (disch := omega) only [↓grd_u, ↓bnd_e, ↓orf_u, ↓oif_u, ↓cal_u, ↓calX_u, ↓inrO_u, ↓reduceIte, EM, EMg, EMs, z0, oi, n_inbT, n_cntT, n_ltT, n_ltF, n_leT, n_leF, n_eqT, n_eqF, n_m1T, n_m1F, n_m1F', n_cl, n_add, n_mul, ro_at, ro_ro, up_at, up_up, nz1]
        simp [q]
    · rw [e2]
      obtain ⟨M', e, i, t⟩ := m_miss2 (n := n) (h := h) (A := A) (R := R) (c := c) (d := nI 97) hi hg hs hp (Or.inl hc)
      refine ⟨M', ?_, i, t⟩
      simp (disch := omega) only [↓grd_u, ↓bnd_e, ↓orf_u, ↓oif_u, ↓cal_u, ↓calX_u, ↓inrO_u, ↓reduceIte, EM, EMg, EMs, z0, oi, n_inbT, n_cntT, n_ltT, n_ltF, n_leT, n_leF, n_eqT, n_eqF, n_m1T, n_m1F, n_m1F', n_cl, n_add, n_mul, ro_at, ro_ro, up_at, up_up, e]
  · rw [e]
    obtain ⟨M', e, i, t⟩ := m_missX (n := n) (h := h) (A := A) (R := R) (c := c) (d := nI 97) hi e hc
    refine ⟨M', ?_, i, t⟩
    simp (disch := omega) only [↓grd_u, ↓bnd_e, ↓orf_u, ↓oif_u, ↓cal_u, ↓calX_u, ↓inrO_u, ↓reduceIte, EM, EMg, EMs, z0, oi, n_inbT, n_cntT, n_ltT, n_ltF, n_leT, n_leF, n_eqT, n_eqF, n_m1T, n_m1F, n_m1F', n_cl, n_add, n_mul, ro_at, ro_ro, up_at, up_up, e]
theorem m_canEnd {v c : Int32} (hi : IM M S) (hg : GoodS S) : MA n h A R (f_X12_canEnd (ma n 0) v c (E n h A M R)) (aEnd S v c) := by
  have h0 : IM (ro M 0 (up (M 0) 0 (nI 0))) S := IM_thrown hi
  unfold f_X12_canEnd aEnd g_X12_canEnd_43
  rcases pat_cases S v with ⟨s, hs, rfl, hp, e⟩ | ⟨e, hc⟩
  · rw [e]
    dsimp only
    rcases le_cases c with ⟨l, hl, rfl, e2⟩ | ⟨hc, e2⟩
    · rw [e2]
      obtain ⟨M', eb, au, f, i, t⟩ := m_bld (n := n) (h := h) (A := A) (R := R) h0 hg hs hp
      have ok := good_glu hg hs hp
      have e3 := au.2.2.1
      have e4 := au.2.2.2.2.1 l hl
      rw [show 3 * 0 + l = l by omega] at e4
      have ms := m_miss0 (n := n) (h := h) (A := A) (R := R) (d := 0) hi hg hs hp hl (by decide)
      rw [← le_97] at ms
      have hlt := and_lt (a := (gluOf (lP (sCur S) s)).2.2.1) (ok.2.2.2.2 l)
      refine ⟨M', ?_, i, by rw [t, ro_at, up_at]⟩
      simp (disch := omega) only [↓grd_u, ↓bnd_e, ↓orf_u, ↓oif_u, ↓cal_u, ↓calX_u, ↓inrO_u, ↓reduceIte, EM, EMg, EMs, z0, oi, n_inbT, n_cntT, n_ltT, n_ltF, n_leT, n_leF, n_eqT, n_eqF, n_m1T, n_m1F, n_m1F', n_cl, n_add, n_mul, ro_at, ro_ro, up_at, up_up, ms]
      simp (disch := omega) only [↓grd_u, ↓bnd_e, ↓orf_u, ↓oif_u, ↓cal_u, ↓calX_u, ↓inrO_u, ↓reduceIte, EM, EMg, EMs, z0, oi, n_inbT, n_cntT, n_ltT, n_ltF, n_leT, n_leF, n_eqT, n_eqF, n_m1T, n_m1F, n_m1F', n_cl, n_add, n_mul, ro_at, ro_ro, up_at, up_up, eb, n_sub, show 97 + l - 97 = l by omega, e3, e4, n_and]
      unfold b2
      by_cases q : (gluOf (lP (sCur S) s)).2.2.1 &&& (gluOf (lP (sCur S) s)).2.2.2.2 l = 0
      · simp (disch := omega) only [↓grd_u, ↓bnd_e, ↓orf_u, ↓oif_u, ↓cal_u, ↓calX_u, ↓inrO_u, ↓reduceIte, EM, EMg, EMs, z0, oi, n_inbT, n_cntT, n_ltT, n_ltF, n_leT, n_leF, n_eqT, n_eqF, n_m1T, n_m1F, n_m1F', n_cl, n_add, n_mul, ro_at, ro_ro, up_at, up_up, nz0]
        simp [q]
      · simp (disch := omega) only [↓grd_u, ↓bnd_e, ↓orf_u, ↓oif_u, ↓cal_u, ↓calX_u, ↓inrO_u, ↓reduceIte, EM, EMg, EMs, z0, oi, n_inbT, n_cntT, n_ltT, n_ltF, n_leT, n_leF, n_eqT, n_eqF, n_m1T, n_m1F, n_m1F', n_cl, n_add, n_mul, ro_at, ro_ro, up_at, up_up, nz1]
        simp [q]
    · rw [e2]
      obtain ⟨M', e, i, t⟩ := m_miss2 (n := n) (h := h) (A := A) (R := R) (c := c) (d := nI 97) hi hg hs hp (Or.inl hc)
      refine ⟨M', ?_, i, t⟩
      simp (disch := omega) only [↓grd_u, ↓bnd_e, ↓orf_u, ↓oif_u, ↓cal_u, ↓calX_u, ↓inrO_u, ↓reduceIte, EM, EMg, EMs, z0, oi, n_inbT, n_cntT, n_ltT, n_ltF, n_leT, n_leF, n_eqT, n_eqF, n_m1T, n_m1F, n_m1F', n_cl, n_add, n_mul, ro_at, ro_ro, up_at, up_up, e]
  · rw [e]
    obtain ⟨M', e, i, t⟩ := m_missX (n := n) (h := h) (A := A) (R := R) (c := c) (d := nI 97) hi e hc
    refine ⟨M', ?_, i, t⟩
    simp (disch := omega) only [↓grd_u, ↓bnd_e, ↓orf_u, ↓oif_u, ↓cal_u, ↓calX_u, ↓inrO_u, ↓reduceIte, EM, EMg, EMs, z0, oi, n_inbT, n_cntT, n_ltT, n_ltF, n_leT, n_leF, n_eqT, n_eqF, n_m1T, n_m1F, n_m1F', n_cl, n_add, n_mul, ro_at, ro_ro, up_at, up_up, e]
theorem m_adj21 {l d : Nat} {g : Glu} (ha : AutM M 0 g) (hg : GluOK g) (hl : l < 3) (hd : d < 3) : g_X12_canBeAdjacent_21 (ma n 0) (nI (97 + l)) (nI (97 + d)) (nI 0) (E n h A M R) = some (nI (b2 (decide (folU g.2.2.2.1 (g.2.2.2.2 l) 7 &&& g.2.2.2.2 d ≠ 0))), E n h A M R) := by
  obtain ⟨a1, a2, a3, a4, a5, a6⟩ := ha
  have e1 := a5 l hl
  have e2 := a5 d hd
  rw [show 3 * 0 + l = l by omega] at e1
  rw [show 3 * 0 + d = d by omega] at e2
  have key : ∃ r, g_X12_canBeAdjacent_21 (ma n 0) (nI (97 + l)) (nI (97 + d)) (nI 0) (E n h A M R) = some r ∧ r = (nI (b2 (decide (folU g.2.2.2.1 (g.2.2.2.2 l) 7 &&& g.2.2.2.2 d ≠ 0))), E n h A M R) := by
    unfold g_X12_canBeAdjacent_21
    refine lp_inv0 (f := b_X12_canBeAdjacent_21 (ma n 0) (nI (97 + l)) (nI (97 + d))) (fun k s => s = (nI k, E n h A M R) ∧ ∀ j, j < k → ¬ ((g.2.2.2.2 l).testBit j = true ∧ g.2.2.2.1 j &&& g.2.2.2.2 d ≠ 0)) _ 7 (fun k s hk hI => ?_) (L := 100000) (by decide) ⟨rfl, fun j hj => absurd hj (Nat.not_lt_zero _)⟩
    obtain ⟨rfl, hn⟩ := hI
    unfold b_X12_canBeAdjacent_21 b0_X12_canBeAdjacent_21 g_X12_canBeAdjacent_68
    by_cases hk7 : k < 7
    · have e3 := a4 k hk7
      rw [show 7 * 0 + k = k by omega] at e3
      have hlt := and_lt (a := g.2.2.2.1 k) (hg.2.2.2.2 d)
      by_cases hb : (g.2.2.2.2 l).testBit k = true
      · have ht : ((nI (g.2.2.2.2 l) >>> (nI k &&& 31)) &&& nI 1 = nI 1) = True := eq_true ((tb7 _ (hg.2.2.2.2 l) k hk7).mpr hb)
        by_cases hz : g.2.2.2.1 k &&& g.2.2.2.2 d = 0
        · refine Or.inl ⟨(nI (k + 1), E n h A M R), ?_, hk7, rfl, fun j hj => ?_⟩
          · simp (disch := omega) only [↓grd_u, ↓bnd_e, ↓orf_u, ↓oif_u, ↓cal_u, ↓calX_u, ↓inrO_u, ↓reduceIte, EM, EMg, EMs, z0, oi, n_inbT, n_cntT, n_ltT, n_ltF, n_leT, n_leF, n_eqT, n_eqF, n_m1T, n_m1F, n_m1F', n_cl, n_add, n_mul, ro_at, ro_ro, up_at, up_up, n_sub, show 97 + l - 97 = l by omega, show 97 + d - 97 = d by omega, e1, e2, e3, ht, n_and]
          · by_cases ej : j = k
            · rw [ej]; exact fun z => z.2 hz
            · exact hn j (by omega)
        · refine Or.inr ⟨(nI 1, E n h A M R), ?_, ?_⟩
          · simp (disch := omega) only [↓grd_u, ↓bnd_e, ↓orf_u, ↓oif_u, ↓cal_u, ↓calX_u, ↓inrO_u, ↓reduceIte, EM, EMg, EMs, z0, oi, n_inbT, n_cntT, n_ltT, n_ltF, n_leT, n_leF, n_eqT, n_eqF, n_m1T, n_m1F, n_m1F', n_cl, n_add, n_mul, ro_at, ro_ro, up_at, up_up, n_sub, show 97 + l - 97 = l by omega, show 97 + d - 97 = d by omega, e1, e2, e3, ht, n_and]
          · have : folU g.2.2.2.1 (g.2.2.2.2 l) 7 &&& g.2.2.2.2 d ≠ 0 := (folU_and 7).mpr ⟨k, hk7, hb, hz⟩
            rw [decide_eq_true this]
            rfl
      · have ht : ((nI (g.2.2.2.2 l) >>> (nI k &&& 31)) &&& nI 1 = nI 1) = False := eq_false (fun q => hb ((tb7 _ (hg.2.2.2.2 l) k hk7).mp q))
        refine Or.inl ⟨(nI (k + 1), E n h A M R), ?_, hk7, rfl, fun j hj => ?_⟩
        · simp (disch := omega) only [↓grd_u, ↓bnd_e, ↓orf_u, ↓oif_u, ↓cal_u, ↓calX_u, ↓inrO_u, ↓reduceIte, EM, EMg, EMs, z0, oi, n_inbT, n_cntT, n_ltT, n_ltF, n_leT, n_leF, n_eqT, n_eqF, n_m1T, n_m1F, n_m1F', n_cl, n_add, n_mul, ro_at, ro_ro, up_at, up_up, n_sub, show 97 + l - 97 = l by omega, e1, ht]
        · by_cases ej : j = k
          · rw [ej]; exact fun z => hb z.1
          · exact hn j (by omega)
    · have hk' : k = 7 := by omega
      subst hk'
      refine Or.inr ⟨(nI 0, E n h A M R), ?_, ?_⟩
      · simp (disch := omega) only [↓grd_u, ↓bnd_e, ↓orf_u, ↓oif_u, ↓cal_u, ↓calX_u, ↓inrO_u, ↓reduceIte, EM, EMg, EMs, z0, oi, n_inbT, n_cntT, n_ltT, n_ltF, n_leT, n_leF, n_eqT, n_eqF, n_m1T, n_m1F, n_m1F', n_cl, n_add, n_mul, ro_at, ro_ro, up_at, up_up]
      · have : ¬ (folU g.2.2.2.1 (g.2.2.2.2 l) 7 &&& g.2.2.2.2 d ≠ 0) := fun z => by
          obtain ⟨k, h1, h2, h3⟩ := (folU_and 7).mp z
          exact hn k h1 ⟨h2, h3⟩
        rw [decide_eq_false this]
        rfl
  obtain ⟨r, e, rfl⟩ := key
  exact e
theorem m_canBeAdjacent {v c d : Int32} (hi : IM M S) (hg : GoodS S) : MA n h A R (f_X12_canBeAdjacent (ma n 0) v c d (E n h A M R)) (aAdj S v c d) := by
  have h0 : IM (ro M 0 (up (M 0) 0 (nI 0))) S := IM_thrown hi
  unfold f_X12_canBeAdjacent aAdj
  rcases pat_cases S v with ⟨s, hs, rfl, hp, e⟩ | ⟨e, hc⟩
  · rw [e]
    dsimp only
    rcases le_cases c with ⟨l, hl, rfl, e2⟩ | ⟨hc, e2⟩
    · rcases le_cases d with ⟨k, hk, rfl, e5⟩ | ⟨hd, e5⟩
      · rw [e2, e5]
        obtain ⟨M', eb, au, f, i, t⟩ := m_bld (n := n) (h := h) (A := A) (R := R) h0 hg hs hp
        have ok := good_glu hg hs hp
        have ms := m_miss0 (n := n) (h := h) (A := A) (R := R) hi hg hs hp hl hk
        have ha := m_adj21 (n := n) (h := h) (A := A) (R := R) au ok hl hk
        refine ⟨M', ?_, i, by rw [t, ro_at, up_at]⟩
        simp (disch := omega) only [↓grd_u, ↓bnd_e, ↓orf_u, ↓oif_u, ↓cal_u, ↓calX_u, ↓inrO_u, ↓reduceIte, EM, EMg, EMs, z0, oi, n_inbT, n_cntT, n_ltT, n_ltF, n_leT, n_leF, n_eqT, n_eqF, n_m1T, n_m1F, n_m1F', n_cl, n_add, n_mul, ro_at, ro_ro, up_at, up_up, ms]
        simp (disch := omega) only [↓grd_u, ↓bnd_e, ↓orf_u, ↓oif_u, ↓cal_u, ↓calX_u, ↓inrO_u, ↓reduceIte, EM, EMg, EMs, z0, oi, n_inbT, n_cntT, n_ltT, n_ltF, n_leT, n_leF, n_eqT, n_eqF, n_m1T, n_m1F, n_m1F', n_cl, n_add, n_mul, ro_at, ro_ro, up_at, up_up, eb, ha]
      · rw [e2, e5]
        obtain ⟨M', e, i, t⟩ := m_miss2 (n := n) (h := h) (A := A) (R := R) (c := nI (97 + l)) (d := d) hi hg hs hp (Or.inr hd)
        refine ⟨M', ?_, i, t⟩
        simp (disch := omega) only [↓grd_u, ↓bnd_e, ↓orf_u, ↓oif_u, ↓cal_u, ↓calX_u, ↓inrO_u, ↓reduceIte, EM, EMg, EMs, z0, oi, n_inbT, n_cntT, n_ltT, n_ltF, n_leT, n_leF, n_eqT, n_eqF, n_m1T, n_m1F, n_m1F', n_cl, n_add, n_mul, ro_at, ro_ro, up_at, up_up, e]
    · rw [e2]
      obtain ⟨M', e, i, t⟩ := m_miss2 (n := n) (h := h) (A := A) (R := R) (c := c) (d := d) hi hg hs hp (Or.inl hc)
      refine ⟨M', ?_, i, t⟩
      simp (disch := omega) only [↓grd_u, ↓bnd_e, ↓orf_u, ↓oif_u, ↓cal_u, ↓calX_u, ↓inrO_u, ↓reduceIte, EM, EMg, EMs, z0, oi, n_inbT, n_cntT, n_ltT, n_ltF, n_leT, n_leF, n_eqT, n_eqF, n_m1T, n_m1F, n_m1F', n_cl, n_add, n_mul, ro_at, ro_ro, up_at, up_up, e]
  · rw [e]
    obtain ⟨M', e, i, t⟩ := m_missX (n := n) (h := h) (A := A) (R := R) (c := c) (d := d) hi e hc
    refine ⟨M', ?_, i, t⟩
    simp (disch := omega) only [↓grd_u, ↓bnd_e, ↓orf_u, ↓oif_u, ↓cal_u, ↓calX_u, ↓inrO_u, ↓reduceIte, EM, EMg, EMs, z0, oi, n_inbT, n_cntT, n_ltT, n_ltF, n_leT, n_leF, n_eqT, n_eqF, n_m1T, n_m1F, n_m1F', n_cl, n_add, n_mul, ro_at, ro_ro, up_at, up_up, e]
end MAUT
