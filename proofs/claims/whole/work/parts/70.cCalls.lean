/-! the class's calls on positions and on one automaton -/
theorem b2n_nar (b : Bool) : (vp_nar .boolean (nI (b2 b)) = nI (b2 b)) = True := eq_true (n_nar01 (b2_le b))
section CCALLS
variable {n : Nat} {h : mH} {A M : Nat → Nat → Int32} {R : Nat → Nat → Option Nat} {S : St} {b a : Nat} {g : Glu}
theorem CA_no {x : Option ((Int32 ⊕ String) × mH)} {ex : Nat → String} {e : Nat} (hi : IC n h A R S) (he : e ≠ 0) (hx : x = some (.inr (ex e), E n h A M R)) : CA n M x ex (e, 0, S) := ⟨h, A, R, by rw [if_neg he]; exact hx, hi⟩
theorem CA_ok {x : Option ((Int32 ⊕ String) × mH)} {ex : Nat → String} {v : Nat} {h' : mH} {A' : Nat → Nat → Int32} (hi : IC n h A R S) (hm : MonoS n h h') (hA : ∀ r, r < 44 → A' r = A r) (hx : x = some (.inl (nI v), E n h' A' M R)) : CA n M x ex (0, v, S) := ⟨h', A', R, by rw [if_pos rfl]; exact hx, IC_wk hi hm hA⟩
theorem c_step {j c : Nat} (hb : bAu b) (hu : AuF A b g) (ok : GluOK g) (hj : j < gL g) (hc : c < 3) : f_X0_step (ca n b) (nI j) (nI c) (E n h A M R) = some (nI (gS g j c), E n h A M R) := by
  have e1 := EAu hb
  have e2 := EAug hb
  have e3 := hu.2.1 j hj c hc
  have hL := gL_le ok
  rw [Nat.mul_comm] at e3
  unfold f_X0_step g_X0_step_29
  simp (disch := omega) only [↓grd_u, ↓bnd_e, ↓orf_u, ↓oif_u, ↓cal_u, ↓calX_u, ↓inrO_u, ↓reduceIte, EM, EMg, EMs, z0, oi, n_inbT, n_cntT, n_ltT, n_ltF, n_leT, n_leF, n_eqT, n_eqF, n_m1T, n_m1F, n_m1F', n_cl, n_add, n_mul, ro_at, ro_ro, up_at, up_up, e1, e2, e3]
theorem c_isAcc {j : Nat} (hb : bAu b) (hu : AuF A b g) (ok : GluOK g) (hj : j < gL g) : f_X0_isAccepting (ca n b) (nI j) (E n h A M R) = some (nI (b2 (gA g j)), E n h A M R) := by
  have e1 := EAu hb
  have e2 := EAug hb
  have e3 := (hu.2.2 j hj).1
  have hL := gL_le ok
  unfold f_X0_isAccepting g_X0_isAccepting_24 g_X0_isAccepting_25
  unfold b2 at e3 ⊢
  by_cases q : gA g j = true
  · rw [if_pos q] at e3 ⊢
    simp (disch := omega) only [↓grd_u, ↓bnd_e, ↓orf_u, ↓oif_u, ↓cal_u, ↓calX_u, ↓inrO_u, ↓reduceIte, EM, EMg, EMs, z0, oi, n_inbT, n_cntT, n_ltT, n_ltF, n_leT, n_leF, n_eqT, n_eqF, n_m1T, n_m1F, n_m1F', n_cl, n_add, n_mul, ro_at, ro_ro, up_at, up_up, e1, e2, e3, nz1]
  · rw [if_neg q] at e3 ⊢
    simp (disch := omega) only [↓grd_u, ↓bnd_e, ↓orf_u, ↓oif_u, ↓cal_u, ↓calX_u, ↓inrO_u, ↓reduceIte, EM, EMg, EMs, z0, oi, n_inbT, n_cntT, n_ltT, n_ltF, n_leT, n_leF, n_eqT, n_eqF, n_m1T, n_m1F, n_m1F', n_cl, n_add, n_mul, ro_at, ro_ro, up_at, up_up, e1, e2, e3, nz0]
/-- the index of the state behind a word -/
def gI (g : Glu) (w : List Nat) : Nat := w.foldl (gS g) 0
theorem gI_ok (ok : GluOK g) : ∀ (w : List Nat), le3 w → gI g w < gL g ∧ gO g (gI g w) = grn g w := by
  have key : ∀ (w : List Nat), le3 w → ∀ (j q : Nat), j < gL g → gO g j = q → w.foldl (gS g) j < gL g ∧ gO g (w.foldl (gS g) j) = w.foldl (gnext g) q := fun w => by
    induction w with
    | nil => exact fun _ j q h1 h2 => ⟨h1, h2⟩
    | cons c w ih =>
      intro hw j q h1 h2
      have hs := gS_ok ok h1 (hw c List.mem_cons_self)
      rw [List.foldl_cons, List.foldl_cons]
      exact ih (fun d hd => hw d (List.mem_cons_of_mem _ hd)) _ _ hs.1 (by rw [hs.2, h2])
  exact fun w hw => key w hw 0 128 (gL_pos g) (gO_0 g)
theorem gI_acc (ok : GluOK g) {w : List Nat} (hw : le3 w) : gA g (gI g w) = gab g (grn g w) := by unfold gA; rw [(gI_ok ok w hw).2]
theorem gI_snoc (w : List Nat) (c : Nat) : gI g (w ++ [c]) = gS g (gI g w) c := by unfold gI; rw [List.foldl_append, List.foldl_cons, List.foldl_nil]
theorem le3_take {w : List Nat} (h : le3 w) (k : Nat) : le3 (w.take k) := fun c hc => h c (List.mem_of_mem_take hc)
theorem le3_at {w : List Nat} (h : le3 w) {k : Nat} (hk : k < w.length) : w.getD k 0 < 3 := by
  rw [List.getD_eq_getElem?_getD, List.getElem?_eq_getElem hk]
  exact h _ (List.getElem_mem hk)
theorem c_wlet {w : List Nat} {k : Nat} (hw : Wrd n h a w) (hk : k < w.length) (hl : w.length ≤ 255) : f_X10_letter a (nI k) (E n h A M R) = some (nI (w.getD k 0), E n h A M R) := by
  obtain ⟨p1, p2, p3, q, q1, q2, q3, q4, q5, q6⟩ := hw
  have e := q6 k hk
  unfold f_X10_letter g_X10_letter_23
  simp (disch := omega) only [↓grd_u, ↓bnd_e, ↓orf_u, ↓oif_u, ↓cal_u, ↓calX_u, ↓inrO_u, ↓reduceIte, EM, EMg, EMs, z0, oi, n_inbT, n_cntT, n_ltT, n_ltF, n_leT, n_leF, n_eqT, n_eqF, n_m1T, n_m1F, n_m1F', n_cl, n_add, n_mul, ro_at, ro_ro, up_at, up_up, kd_X, gr_X, sz_X, gi_X, p3, q1, q4, q5, e]
theorem kd_W {w : List Nat} (hw : Wrd n h a w) (A M R) : kd (E n h A M R) a = 15 := by rw [kd_X (by have := hw.1; omega)]; exact hw.2.2.1
theorem kd_P {p : List Nat} (hp : Pat n h a p) (A M R) : kd (E n h A M R) a = 9 := by rw [kd_X (by have := hp.1; omega)]; exact hp.2.2.1
theorem c_accepts {w : List Nat} (hb : bAu b) (hu : AuF A b g) (ok : GluOK g) (hw : Wrd n h a w) (h3 : le3 w) (hl : w.length ≤ 255) : f_X0_accepts (ca n b) (some a) (E n h A M R) = some (nI (b2 (gab g (grn g w))), E n h A M R) := by
  have e1 := EAu hb
  have hL := gL_le ok
  have hkw := kd_W hw
  have hz := c_wsize (n := n) (h := h) (A := A) (M := M) (R := R) hw
  have hl2 : g_X0_accepts_10 (ca n b) a (nI 0) (nI 0) (E n h A M R) = some (nI (b2 (gab g (grn g w))), E n h A M R) := by
    unfold g_X0_accepts_10
    refine lp_for0 (f := b_X0_accepts_10 (ca n b) a) (fun k => (nI (gI g (w.take k)), nI k, E n h A M R)) w.length _ (fun k hk => ?_) ?_ (L := 100000) (by omega)
    · have i1 := (gI_ok ok _ (le3_take h3 k)).1
      have hlt := c_wlet (A := A) (M := M) (R := R) hw hk hl
      have hst := c_step (n := n) (h := h) (M := M) (R := R) hb hu ok i1 (le3_at h3 hk)
      unfold b_X0_accepts_10 b0_X0_accepts_10
      simp (disch := omega) only [↓grd_u, ↓bnd_e, ↓orf_u, ↓oif_u, ↓cal_u, ↓calX_u, ↓inrO_u, ↓reduceIte, EM, EMg, EMs, z0, oi, n_inbT, n_cntT, n_ltT, n_ltF, n_leT, n_leF, n_eqT, n_eqF, n_m1T, n_m1F, n_m1F', n_cl, n_add, n_mul, ro_at, ro_ro, up_at, up_up, hkw, hz, hlt, e1, hst]
      rw [take_snoc hk, gI_snoc]
    · have i1 := (gI_ok ok _ h3).1
      have hac := c_isAcc (n := n) (h := h) (M := M) (R := R) hb hu ok i1
      rw [gI_acc ok h3] at hac
      unfold b_X0_accepts_10 b0_X0_accepts_10
      rw [List.take_length]
      simp (disch := omega) only [↓grd_u, ↓bnd_e, ↓orf_u, ↓oif_u, ↓cal_u, ↓calX_u, ↓inrO_u, ↓reduceIte, EM, EMg, EMs, z0, oi, n_inbT, n_cntT, n_ltT, n_ltF, n_leT, n_leF, n_eqT, n_eqF, n_m1T, n_m1F, n_m1F', n_cl, n_add, n_mul, ro_at, ro_ro, up_at, up_up, hkw, hz, e1, hac, b2n_nar]
  unfold f_X0_accepts
  simp (disch := omega) only [↓grd_u, ↓bnd_e, ↓orf_u, ↓oif_u, ↓cal_u, ↓calX_u, ↓inrO_u, ↓reduceIte, EM, EMg, EMs, z0, oi, n_inbT, n_cntT, n_ltT, n_ltF, n_leT, n_leF, n_eqT, n_eqF, n_m1T, n_m1F, n_m1F', n_cl, n_add, n_mul, ro_at, ro_ro, up_at, up_up, hl2]
theorem c_longest {w : List Nat} (hb : bAu b) (hu : AuF A b g) (ok : GluOK g) (hw : Wrd n h a w) (h3 : le3 w) (hl : w.length ≤ 255) : f_X0_longestAcceptedPrefix (ca n b) a (E n h A M R) = some (nI (lpx g w (w.length + 1)), E n h A M R) := by
  have e1 := EAu hb
  have hL := gL_le ok
  have hkw := kd_W hw
  have hz := c_wsize (n := n) (h := h) (A := A) (M := M) (R := R) hw
  have hl2 : g_X0_longestAcceptedPrefix_19 (ca n b) a (nI 0) (nI (lpx g w 1)) (nI 0) (E n h A M R) = some (nI (lpx g w (w.length + 1)), E n h A M R) := by
    unfold g_X0_longestAcceptedPrefix_19
    refine lp_for0 (f := b_X0_longestAcceptedPrefix_19 (ca n b) a) (fun k => (nI (gI g (w.take k)), nI (lpx g w (k + 1)), nI k, E n h A M R)) w.length _ (fun k hk => ?_) ?_ (L := 100000) (by omega)
    · have i1 := (gI_ok ok _ (le3_take h3 k)).1
      have i2 := (gI_ok ok _ (le3_take h3 (k + 1))).1
      have hlt := c_wlet (A := A) (M := M) (R := R) hw hk hl
      have hst := c_step (n := n) (h := h) (M := M) (R := R) hb hu ok i1 (le3_at h3 hk)
      have hac := c_isAcc (n := n) (h := h) (M := M) (R := R) hb hu ok i2
      rw [gI_acc ok (le3_take h3 (k + 1))] at hac
      have hsn : gI g (w.take (k + 1)) = gS g (gI g (w.take k)) (w.getD k 0) := by rw [take_snoc hk, gI_snoc]
      rw [hsn] at hac
      unfold b_X0_longestAcceptedPrefix_19 b0_X0_longestAcceptedPrefix_19 g_X0_longestAcceptedPrefix_56
      rw [show lpx g w (k + 1 + 1) = if gab g (grn g (w.take (k + 1))) = true then k + 1 else lpx g w (k + 1) from rfl]
      dsimp only
      rw [hsn]
      unfold b2 at hac
      by_cases q : gab g (grn g (w.take (k + 1))) = true
      · rw [if_pos q] at hac ⊢
        simp (disch := omega) only [↓grd_u, ↓bnd_e, ↓orf_u, ↓oif_u, ↓cal_u, ↓calX_u, ↓inrO_u, ↓reduceIte, EM, EMg, EMs, z0, oi, n_inbT, n_cntT, n_ltT, n_ltF, n_leT, n_leF, n_eqT, n_eqF, n_m1T, n_m1F, n_m1F', n_cl, n_add, n_mul, ro_at, ro_ro, up_at, up_up, hkw, hz, hlt, e1, hst, hac]
      · rw [if_neg q] at hac ⊢
        simp (disch := omega) only [↓grd_u, ↓bnd_e, ↓orf_u, ↓oif_u, ↓cal_u, ↓calX_u, ↓inrO_u, ↓reduceIte, EM, EMg, EMs, z0, oi, n_inbT, n_cntT, n_ltT, n_ltF, n_leT, n_leF, n_eqT, n_eqF, n_m1T, n_m1F, n_m1F', n_cl, n_add, n_mul, ro_at, ro_ro, up_at, up_up, hkw, hz, hlt, e1, hst, hac]
    · unfold b_X0_longestAcceptedPrefix_19 b0_X0_longestAcceptedPrefix_19
      simp (disch := omega) only [↓grd_u, ↓bnd_e, ↓orf_u, ↓oif_u, ↓cal_u, ↓calX_u, ↓inrO_u, ↓reduceIte, EM, EMg, EMs, z0, oi, n_inbT, n_cntT, n_ltT, n_ltF, n_leT, n_leF, n_eqT, n_eqF, n_m1T, n_m1F, n_m1F', n_cl, n_add, n_mul, ro_at, ro_ro, up_at, up_up, hkw, hz]
  have hac := c_isAcc (n := n) (h := h) (M := M) (R := R) hb hu ok (gL_pos g)
  have hg0 : gA g 0 = gab g (grn g []) := by
    have := gI_acc ok (w := []) (fun c hc => absurd hc (by simp))
    exact this
  have hlp : lpx g w 1 = if gab g (grn g []) = true then 0 else m1 := rfl
  rw [hlp] at hl2
  unfold f_X0_longestAcceptedPrefix g_X0_longestAcceptedPrefix_15
  rw [hg0] at hac
  unfold b2 at hac
  by_cases q : gab g (grn g []) = true
  · rw [if_pos q] at hac hl2
    simp (disch := omega) only [↓grd_u, ↓bnd_e, ↓orf_u, ↓oif_u, ↓cal_u, ↓calX_u, ↓inrO_u, ↓reduceIte, EM, EMg, EMs, z0, oi, n_inbT, n_cntT, n_ltT, n_ltF, n_leT, n_leF, n_eqT, n_eqF, n_m1T, n_m1F, n_m1F', n_cl, n_add, n_mul, ro_at, ro_ro, up_at, up_up, e1, hac, hl2]
  · rw [if_neg q] at hac hl2
    simp (disch := omega) only [↓grd_u, ↓bnd_e, ↓orf_u, ↓oif_u, ↓cal_u, ↓calX_u, ↓inrO_u, ↓reduceIte, EM, EMg, EMs, z0, oi, n_inbT, n_cntT, n_ltT, n_ltF, n_leT, n_leF, n_eqT, n_eqF, n_m1T, n_m1F, n_m1F', n_cl, n_add, n_mul, ro_at, ro_ro, up_at, up_up, e1, hac, m1_I, hl2]
theorem c_asize (hb : bAu b) (hu : AuF A b g) (ok : GluOK g) : f_X0_acceptingSize (ca n b) (E n h A M R) = some (nI (gCs g (gL g)), E n h A M R) := by
  have e1 := EAu hb
  have e2 := EAug hb
  have e0 := hu.1
  have hL := gL_le ok
  unfold f_X0_acceptingSize g_X0_acceptingSize_4
  rw [oi.1]
  refine lp_for0 (f := b_X0_acceptingSize_4 (ca n b)) (fun k => (nI (gCs g k), nI k, E n h A M R)) (gL g) _ (fun k hk => ?_) ?_ (L := 100000) (by omega)
  · have e3 := (hu.2.2 k hk).1
    unfold b_X0_acceptingSize_4 b0_X0_acceptingSize_4 g_X0_acceptingSize_34
    rw [gCs_s]
    unfold b2 at e3 ⊢
    by_cases q : gA g k = true
    · rw [if_pos q] at e3 ⊢
      simp (disch := omega) only [↓grd_u, ↓bnd_e, ↓orf_u, ↓oif_u, ↓cal_u, ↓calX_u, ↓inrO_u, ↓reduceIte, EM, EMg, EMs, z0, oi, n_inbT, n_cntT, n_ltT, n_ltF, n_leT, n_leF, n_eqT, n_eqF, n_m1T, n_m1F, n_m1F', n_cl, n_add, n_mul, ro_at, ro_ro, up_at, up_up, e1, e2, e0, e3]
    · rw [if_neg q] at e3 ⊢
      simp (disch := omega) only [↓grd_u, ↓bnd_e, ↓orf_u, ↓oif_u, ↓cal_u, ↓calX_u, ↓inrO_u, ↓reduceIte, EM, EMg, EMs, z0, oi, n_inbT, n_cntT, n_ltT, n_ltF, n_leT, n_leF, n_eqT, n_eqF, n_m1T, n_m1F, n_m1F', n_cl, n_add, n_mul, ro_at, ro_ro, up_at, up_up, e1, e2, e0, e3]
  · unfold b_X0_acceptingSize_4 b0_X0_acceptingSize_4 g_X0_acceptingSize_42
    simp (disch := omega) only [↓grd_u, ↓bnd_e, ↓orf_u, ↓oif_u, ↓cal_u, ↓calX_u, ↓inrO_u, ↓reduceIte, EM, EMg, EMs, z0, oi, n_inbT, n_cntT, n_ltT, n_ltF, n_leT, n_leF, n_eqT, n_eqF, n_m1T, n_m1F, n_m1F', n_cl, n_add, n_mul, ro_at, ro_ro, up_at, up_up, e1, e2, e0]
theorem c_ssize (hb : bAu b) (hu : AuF A b g) : f_X0_size (ca n b) (E n h A M R) = some (nI (gL g), E n h A M R) := by
  have e1 := EAu hb
  have e2 := EAug hb
  have e0 := hu.1
  unfold f_X0_size
  simp (disch := omega) only [↓grd_u, ↓bnd_e, ↓orf_u, ↓oif_u, ↓cal_u, ↓calX_u, ↓inrO_u, ↓reduceIte, EM, EMg, EMs, z0, oi, n_inbT, n_cntT, n_ltT, n_ltF, n_leT, n_leF, n_eqT, n_eqF, n_m1T, n_m1F, n_m1F', n_cl, n_add, n_mul, ro_at, ro_ro, up_at, up_up, e1, e2, e0]
theorem bAu_1 : bAu 50 := Or.inl rfl
theorem bAu_2 : bAu 64 := Or.inr rfl
theorem bPo_1 : bPo 44 := Or.inl rfl
/-- the positions of a slot's pattern -/
theorem c_pnum {s : Nat} (hi : IC n h A R S) (hg : GoodS S) (hs : s < 6) (hp : lP (sCur S) s ≠ []) (ha : Pat n h a (lP (sCur S) s)) : ∃ A', f_X5_number (ca n 44) a (E n h A M R) = some ((), E n h A' M R) ∧ PosC A' 44 (gluOf (lP (sCur S) s)) (nLet (lP (sCur S) s)) ∧ ∀ r, r < 44 → A' r = A r := by
  obtain ⟨w1, w2, w3⟩ := good_wf hg hs hp
  obtain ⟨A', e, gc, f⟩ := c_number (n := n) (h := h) (A := A) (M := M) (R := R) bPo_1 ha w1 w2 (by omega)
  exact ⟨A', e, PosC_of w1 w2 gc, fun r hr => f r (by omega)⟩
theorem c_bld {s : Nat} (hb : bAu b) (hg : GoodS S) (hs : s < 6) (hp : lP (sCur S) s ≠ []) (ha : Pat n h a (lP (sCur S) s)) : ∃ A', f_X0_build (ca n b) a (E n h A M R) = some ((), E n h A' M R) ∧ AuF A' b (gluOf (lP (sCur S) s)) ∧ FrA b A A' := by
  obtain ⟨w1, w2, w3⟩ := good_wf hg hs hp
  exact c_build hb ha w1 w2 (by omega)
theorem c_acceptsEmpty {v : Int32} (hi : IC n h A R S) (hg : GoodS S) : CA n M (f_X11_acceptsEmpty (ca n 0) v (E n h A M R)) exN (aEmpty S v) := by
  have e1 := EPo bPo_1
  unfold aEmpty
  rcases pat_cases S v with ⟨s, hs, rfl, hp, e⟩ | ⟨e, hc⟩
  · rw [e]
    obtain ⟨a, ep, ha⟩ := c_patT (M := M) hi hs hp
    obtain ⟨A', en, pc, f⟩ := c_pnum (M := M) hi hg hs hp ha
    have ok := good_glu hg hs hp
    have hn := c_nothing (n := n) (h := h) (M := M) (R := R) bPo_1 pc ok
    have hr : (vp_nar .boolean (nI (gluOf (lP (sCur S) s)).1) = nI (gluOf (lP (sCur S) s)).1) = True := eq_true (n_nar01 ok.1)
    refine CA_ok hi (MonoS_rf n h) f ?_
    unfold f_X11_acceptsEmpty
    simp (disch := omega) only [↓grd_u, ↓bnd_e, ↓orf_u, ↓oif_u, ↓cal_u, ↓calX_u, ↓inrO_u, ↓reduceIte, EM, EMg, EMs, z0, oi, n_inbT, n_cntT, n_ltT, n_ltF, n_leT, n_leF, n_eqT, n_eqF, n_m1T, n_m1F, n_m1F', n_cl, n_add, n_mul, ro_at, ro_ro, up_at, up_up, EC, ep, e1, en, hn, hr]
  · rw [e]
    refine CA_no hi (by decide) ?_
    unfold f_X11_acceptsEmpty
    simp (disch := omega) only [↓grd_u, ↓bnd_e, ↓orf_u, ↓oif_u, ↓cal_u, ↓calX_u, ↓inrO_u, ↓reduceIte, EM, EMg, EMs, z0, oi, n_inbT, n_cntT, n_ltT, n_ltF, n_leT, n_leF, n_eqT, n_eqF, n_m1T, n_m1F, n_m1F', n_cl, n_add, n_mul, ro_at, ro_ro, up_at, up_up, EC, c_patF hi hc]
    rfl
theorem c_letNT {c : Nat} {g : mH} (hc : c < 3) : f_X11_letterNumber (nI (97 + c)) g = some (.inl (nI c), g) := by
  unfold f_X11_letterNumber
  have hs := c_isLT (c := 97 + c) (g := g) (by omega) (by omega)
  simp (disch := omega) only [↓grd_u, ↓bnd_e, ↓orf_u, ↓oif_u, ↓cal_u, ↓calX_u, ↓inrO_u, ↓reduceIte, EM, EMg, EMs, z0, oi, n_inbT, n_cntT, n_ltT, n_ltF, n_leT, n_leF, n_eqT, n_eqF, n_m1T, n_m1F, n_m1F', n_cl, n_add, n_mul, ro_at, ro_ro, up_at, up_up, hs, n_sub, Nat.add_sub_cancel_left]
theorem c_letNF {v : Int32} {g : mH} (hv : v < nI 97 ∨ nI 99 < v) : f_X11_letterNumber v g = some (.inr "java/lang/IllegalArgumentException", g) := by
  unfold f_X11_letterNumber
  simp (disch := omega) only [↓grd_u, ↓bnd_e, ↓orf_u, ↓oif_u, ↓cal_u, ↓calX_u, ↓inrO_u, ↓reduceIte, EM, EMg, EMs, z0, oi, n_inbT, n_cntT, n_ltT, n_ltF, n_leT, n_leF, n_eqT, n_eqF, n_m1T, n_m1F, n_m1F', n_cl, n_add, n_mul, ro_at, ro_ro, up_at, up_up, c_isLX hv]
theorem c_canBegin {v c : Int32} (hi : IC n h A R S) (hg : GoodS S) : CA n M (f_X11_canBegin (ca n 0) v c (E n h A M R)) exNA (aBeg S v c) := by
  have e1 := EPo bPo_1
  unfold aBeg
  rcases pat_cases S v with ⟨s, hs, rfl, hp, e⟩ | ⟨e, hc⟩
  · rw [e]
    dsimp only
    obtain ⟨a, ep, ha⟩ := c_patT (M := M) hi hs hp
    obtain ⟨A', en, pc, f⟩ := c_pnum (M := M) hi hg hs hp ha
    have ok := good_glu hg hs hp
    have hf := c_first (n := n) (h := h) (M := M) (R := R) bPo_1 pc
    unfold f_X11_canBegin g_X11_canBegin_39
    rcases le_cases c with ⟨l, hl, rfl, e2⟩ | ⟨hc, e2⟩
    · rw [e2]
      have hh := c_having (n := n) (h := h) (M := M) (R := R) bPo_1 pc hl
      have hlt := and_lt (a := (gluOf (lP (sCur S) s)).2.1) (ok.2.2.2.2 l)
      refine CA_ok hi (MonoS_rf n h) f ?_
      unfold b2
      by_cases q : (gluOf (lP (sCur S) s)).2.1 &&& (gluOf (lP (sCur S) s)).2.2.2.2 l = 0
      · rw [if_neg (by simp [q])]
        simp (disch := omega) only [↓grd_u, ↓bnd_e, ↓orf_u, ↓oif_u, ↓cal_u, ↓calX_u, ↓inrO_u, ↓reduceIte, EM, EMg, EMs, z0, oi, n_inbT, n_cntT, n_ltT, n_ltF, n_leT, n_leF, n_eqT, n_eqF, n_m1T, n_m1F, n_m1F', n_cl, n_add, n_mul, ro_at, ro_ro, up_at, up_up, EC, ep, e1, en, hf, c_letNT hl, hh, n_and, nz0]
      · rw [if_pos (by simp [q])]
        simp (disch := omega) only [↓grd_u, ↓bnd_e, ↓orf_u, ↓oif_u, ↓cal_u, ↓calX_u, ↓inrO_u, ↓reduceIte, EM, EMg, EMs, z0, oi, n_inbT, n_cntT, n_ltT, n_ltF, n_leT, n_leF, n_eqT, n_eqF, n_m1T, n_m1F, n_m1F', n_cl, n_add, n_mul, ro_at, ro_ro, up_at, up_up, EC, ep, e1, en, hf, c_letNT hl, hh, n_and, nz1]
    · rw [e2]
      refine ⟨h, A', R, ?_, IC_wk hi (MonoS_rf n h) f⟩
      simp (disch := omega) only [↓grd_u, ↓bnd_e, ↓orf_u, ↓oif_u, ↓cal_u, ↓calX_u, ↓inrO_u, ↓reduceIte, EM, EMg, EMs, z0, oi, n_inbT, n_cntT, n_ltT, n_ltF, n_leT, n_leF, n_eqT, n_eqF, n_m1T, n_m1F, n_m1F', n_cl, n_add, n_mul, ro_at, ro_ro, up_at, up_up, EC, ep, e1, en, hf, c_letNF hc]
      rfl
  · rw [e]
    refine CA_no hi (by decide) ?_
    unfold f_X11_canBegin
    simp (disch := omega) only [↓grd_u, ↓bnd_e, ↓orf_u, ↓oif_u, ↓cal_u, ↓calX_u, ↓inrO_u, ↓reduceIte, EM, EMg, EMs, z0, oi, n_inbT, n_cntT, n_ltT, n_ltF, n_leT, n_leF, n_eqT, n_eqF, n_m1T, n_m1F, n_m1F', n_cl, n_add, n_mul, ro_at, ro_ro, up_at, up_up, EC, c_patF hi hc]
    rfl
theorem c_canEnd {v c : Int32} (hi : IC n h A R S) (hg : GoodS S) : CA n M (f_X11_canEnd (ca n 0) v c (E n h A M R)) exNA (aEnd S v c) := by
  have e1 := EPo bPo_1
  unfold aEnd
  rcases pat_cases S v with ⟨s, hs, rfl, hp, e⟩ | ⟨e, hc⟩
  · rw [e]
    dsimp only
    obtain ⟨a, ep, ha⟩ := c_patT (M := M) hi hs hp
    obtain ⟨A', en, pc, f⟩ := c_pnum (M := M) hi hg hs hp ha
    have ok := good_glu hg hs hp
    have hf := c_last (n := n) (h := h) (M := M) (R := R) bPo_1 pc
    unfold f_X11_canEnd g_X11_canEnd_39
    rcases le_cases c with ⟨l, hl, rfl, e2⟩ | ⟨hc, e2⟩
    · rw [e2]
      have hh := c_having (n := n) (h := h) (M := M) (R := R) bPo_1 pc hl
      have hlt := and_lt (a := (gluOf (lP (sCur S) s)).2.2.1) (ok.2.2.2.2 l)
      refine CA_ok hi (MonoS_rf n h) f ?_
      unfold b2
      by_cases q : (gluOf (lP (sCur S) s)).2.2.1 &&& (gluOf (lP (sCur S) s)).2.2.2.2 l = 0
      · rw [if_neg (by simp [q])]
        simp (disch := omega) only [↓grd_u, ↓bnd_e, ↓orf_u, ↓oif_u, ↓cal_u, ↓calX_u, ↓inrO_u, ↓reduceIte, EM, EMg, EMs, z0, oi, n_inbT, n_cntT, n_ltT, n_ltF, n_leT, n_leF, n_eqT, n_eqF, n_m1T, n_m1F, n_m1F', n_cl, n_add, n_mul, ro_at, ro_ro, up_at, up_up, EC, ep, e1, en, hf, c_letNT hl, hh, n_and, nz0]
      · rw [if_pos (by simp [q])]
        simp (disch := omega) only [↓grd_u, ↓bnd_e, ↓orf_u, ↓oif_u, ↓cal_u, ↓calX_u, ↓inrO_u, ↓reduceIte, EM, EMg, EMs, z0, oi, n_inbT, n_cntT, n_ltT, n_ltF, n_leT, n_leF, n_eqT, n_eqF, n_m1T, n_m1F, n_m1F', n_cl, n_add, n_mul, ro_at, ro_ro, up_at, up_up, EC, ep, e1, en, hf, c_letNT hl, hh, n_and, nz1]
    · rw [e2]
      refine ⟨h, A', R, ?_, IC_wk hi (MonoS_rf n h) f⟩
      simp (disch := omega) only [↓grd_u, ↓bnd_e, ↓orf_u, ↓oif_u, ↓cal_u, ↓calX_u, ↓inrO_u, ↓reduceIte, EM, EMg, EMs, z0, oi, n_inbT, n_cntT, n_ltT, n_ltF, n_leT, n_leF, n_eqT, n_eqF, n_m1T, n_m1F, n_m1F', n_cl, n_add, n_mul, ro_at, ro_ro, up_at, up_up, EC, ep, e1, en, hf, c_letNF hc]
      rfl
  · rw [e]
    refine CA_no hi (by decide) ?_
    unfold f_X11_canEnd
    simp (disch := omega) only [↓grd_u, ↓bnd_e, ↓orf_u, ↓oif_u, ↓cal_u, ↓calX_u, ↓inrO_u, ↓reduceIte, EM, EMg, EMs, z0, oi, n_inbT, n_cntT, n_ltT, n_ltF, n_leT, n_leF, n_eqT, n_eqF, n_m1T, n_m1F, n_m1F', n_cl, n_add, n_mul, ro_at, ro_ro, up_at, up_up, EC, c_patF hi hc]
    rfl
theorem c_canBeAdjacent {v c d : Int32} (hi : IC n h A R S) (hg : GoodS S) : CA n M (f_X11_canBeAdjacent (ca n 0) v c d (E n h A M R)) exNA (aAdj S v c d) := by
  have e1 := EPo bPo_1
  unfold aAdj
  rcases pat_cases S v with ⟨s, hs, rfl, hp, e⟩ | ⟨e, hc⟩
  · rw [e]
    dsimp only
    obtain ⟨a, ep, ha⟩ := c_patT (M := M) hi hs hp
    obtain ⟨A', en, pc, f⟩ := c_pnum (M := M) hi hg hs hp ha
    have ok := good_glu hg hs hp
    unfold f_X11_canBeAdjacent g_X11_canBeAdjacent_58
    rcases le_cases c with ⟨l, hl, rfl, e2⟩ | ⟨hc, e2⟩
    · have hh := c_having (n := n) (h := h) (M := M) (R := R) bPo_1 pc hl
      rcases le_cases d with ⟨k, hk, rfl, e3⟩ | ⟨hd, e3⟩
      · rw [e2, e3]
        have hh2 := c_having (n := n) (h := h) (M := M) (R := R) bPo_1 pc hk
        have hfo := c_follow (n := n) (h := h) (M := M) (R := R) bPo_1 pc ok (ok.2.2.2.2 l)
        have hlt := and_lt (a := folU (gluOf (lP (sCur S) s)).2.2.2.1 ((gluOf (lP (sCur S) s)).2.2.2.2 l) 7) (ok.2.2.2.2 k)
        refine CA_ok hi (MonoS_rf n h) f ?_
        unfold b2
        by_cases q : folU (gluOf (lP (sCur S) s)).2.2.2.1 ((gluOf (lP (sCur S) s)).2.2.2.2 l) 7 &&& (gluOf (lP (sCur S) s)).2.2.2.2 k = 0
        · rw [if_neg (by simp [q])]
          simp (disch := omega) only [↓grd_u, ↓bnd_e, ↓orf_u, ↓oif_u, ↓cal_u, ↓calX_u, ↓inrO_u, ↓reduceIte, EM, EMg, EMs, z0, oi, n_inbT, n_cntT, n_ltT, n_ltF, n_leT, n_leF, n_eqT, n_eqF, n_m1T, n_m1F, n_m1F', n_cl, n_add, n_mul, ro_at, ro_ro, up_at, up_up, EC, ep, e1, en, c_letNT hl, c_letNT hk, hh, hh2, hfo, n_and, nz0]
        · rw [if_pos (by simp [q])]
          simp (disch := omega) only [↓grd_u, ↓bnd_e, ↓orf_u, ↓oif_u, ↓cal_u, ↓calX_u, ↓inrO_u, ↓reduceIte, EM, EMg, EMs, z0, oi, n_inbT, n_cntT, n_ltT, n_ltF, n_leT, n_leF, n_eqT, n_eqF, n_m1T, n_m1F, n_m1F', n_cl, n_add, n_mul, ro_at, ro_ro, up_at, up_up, EC, ep, e1, en, c_letNT hl, c_letNT hk, hh, hh2, hfo, n_and, nz1]
      · rw [e2, e3]
        refine ⟨h, A', R, ?_, IC_wk hi (MonoS_rf n h) f⟩
        simp (disch := omega) only [↓grd_u, ↓bnd_e, ↓orf_u, ↓oif_u, ↓cal_u, ↓calX_u, ↓inrO_u, ↓reduceIte, EM, EMg, EMs, z0, oi, n_inbT, n_cntT, n_ltT, n_ltF, n_leT, n_leF, n_eqT, n_eqF, n_m1T, n_m1F, n_m1F', n_cl, n_add, n_mul, ro_at, ro_ro, up_at, up_up, EC, ep, e1, en, c_letNT hl, hh, c_letNF hd]
        rfl
    · rw [e2]
      refine ⟨h, A', R, ?_, IC_wk hi (MonoS_rf n h) f⟩
      simp (disch := omega) only [↓grd_u, ↓bnd_e, ↓orf_u, ↓oif_u, ↓cal_u, ↓calX_u, ↓inrO_u, ↓reduceIte, EM, EMg, EMs, z0, oi, n_inbT, n_cntT, n_ltT, n_ltF, n_leT, n_leF, n_eqT, n_eqF, n_m1T, n_m1F, n_m1F', n_cl, n_add, n_mul, ro_at, ro_ro, up_at, up_up, EC, ep, e1, en, c_letNF hc]
      rfl
  · rw [e]
    refine CA_no hi (by decide) ?_
    unfold f_X11_canBeAdjacent
    simp (disch := omega) only [↓grd_u, ↓bnd_e, ↓orf_u, ↓oif_u, ↓cal_u, ↓calX_u, ↓inrO_u, ↓reduceIte, EM, EMg, EMs, z0, oi, n_inbT, n_cntT, n_ltT, n_ltF, n_leT, n_leF, n_eqT, n_eqF, n_m1T, n_m1F, n_m1F', n_cl, n_add, n_mul, ro_at, ro_ro, up_at, up_up, EC, c_patF hi hc]
    rfl
theorem FrA_44 {A' : Nat → Nat → Int32} (hb : bAu b) (f : FrA b A A') : ∀ r, r < 44 → A' r = A r := fun r hr => f r (by rcases hb with rfl | rfl <;> omega)
theorem c_matches {v : Int32} (hi : IC n h A R S) (hg : GoodS S) : CA n M (f_X11_matches (ca n 0) v (E n h A M R)) exNA (aMat S v) := by
  have e1 := EAu bAu_1
  unfold aMat
  rcases pat_cases S v with ⟨s, hs, rfl, hp, e⟩ | ⟨e, hc⟩
  · rw [e]
    dsimp only
    obtain ⟨a, ep, ha⟩ := c_patT (M := M) hi hs hp
    obtain ⟨g, m, hq⟩ := c_matchedW (M := M) hi hg
    unfold f_X11_matches
    rcases okT_dec S with hx | hx
    · rw [if_pos hx] at hq ⊢
      obtain ⟨x, ew, hw⟩ := hq
      obtain ⟨A', eb, au, f⟩ := c_bld (A := A) (M := M) (R := R) bAu_1 hg hs hp (Pat_mono ha (MonoS_w m))
      have ok := good_glu hg hs hp
      have hac := c_accepts (n := n) (h := g) (M := M) (R := R) bAu_1 au ok hw (lets_le3 hx.1) (by rw [lets_len]; have := hx.2; omega)
      refine CA_ok hi m (FrA_44 bAu_1 f) ?_
      simp (disch := omega) only [↓grd_u, ↓bnd_e, ↓orf_u, ↓oif_u, ↓cal_u, ↓calX_u, ↓inrO_u, ↓reduceIte, EM, EMg, EMs, z0, oi, n_inbT, n_cntT, n_ltT, n_ltF, n_leT, n_leF, n_eqT, n_eqF, n_m1T, n_m1F, n_m1F', n_cl, n_add, n_mul, ro_at, ro_ro, up_at, up_up, EC, ep, ew, e1, eb, hac, b2n_nar]
    · rw [if_neg hx] at hq ⊢
      refine ⟨g, A, R, ?_, IC_wk hi m (fun _ _ => rfl)⟩
      simp (disch := omega) only [↓grd_u, ↓bnd_e, ↓orf_u, ↓oif_u, ↓cal_u, ↓calX_u, ↓inrO_u, ↓reduceIte, EM, EMg, EMs, z0, oi, n_inbT, n_cntT, n_ltT, n_ltF, n_leT, n_leF, n_eqT, n_eqF, n_m1T, n_m1F, n_m1F', n_cl, n_add, n_mul, ro_at, ro_ro, up_at, up_up, EC, ep, hq]
      rfl
  · rw [e]
    refine CA_no hi (by decide) ?_
    unfold f_X11_matches
    simp (disch := omega) only [↓grd_u, ↓bnd_e, ↓orf_u, ↓oif_u, ↓cal_u, ↓calX_u, ↓inrO_u, ↓reduceIte, EM, EMg, EMs, z0, oi, n_inbT, n_cntT, n_ltT, n_ltF, n_leT, n_leF, n_eqT, n_eqF, n_m1T, n_m1F, n_m1F', n_cl, n_add, n_mul, ro_at, ro_ro, up_at, up_up, EC, c_patF hi hc]
    rfl
theorem c_longestPrefix {v : Int32} (hi : IC n h A R S) (hg : GoodS S) : CA n M (f_X11_longestPrefix (ca n 0) v (E n h A M R)) exNA (aPre S v) := by
  have e1 := EAu bAu_1
  unfold aPre
  rcases pat_cases S v with ⟨s, hs, rfl, hp, e⟩ | ⟨e, hc⟩
  · rw [e]
    dsimp only
    obtain ⟨a, ep, ha⟩ := c_patT (M := M) hi hs hp
    obtain ⟨g, m, hq⟩ := c_matchedW (M := M) hi hg
    unfold f_X11_longestPrefix
    rcases okT_dec S with hx | hx
    · rw [if_pos hx] at hq ⊢
      obtain ⟨x, ew, hw⟩ := hq
      obtain ⟨A', eb, au, f⟩ := c_bld (A := A) (M := M) (R := R) bAu_1 hg hs hp (Pat_mono ha (MonoS_w m))
      have ok := good_glu hg hs hp
      have hac := c_longest (n := n) (h := g) (M := M) (R := R) bAu_1 au ok hw (lets_le3 hx.1) (by rw [lets_len]; have := hx.2; omega)
      rw [lets_len] at hac
      refine CA_ok hi m (FrA_44 bAu_1 f) ?_
      simp (disch := omega) only [↓grd_u, ↓bnd_e, ↓orf_u, ↓oif_u, ↓cal_u, ↓calX_u, ↓inrO_u, ↓reduceIte, EM, EMg, EMs, z0, oi, n_inbT, n_cntT, n_ltT, n_ltF, n_leT, n_leF, n_eqT, n_eqF, n_m1T, n_m1F, n_m1F', n_cl, n_add, n_mul, ro_at, ro_ro, up_at, up_up, EC, ep, ew, e1, eb, hac]
    · rw [if_neg hx] at hq ⊢
      refine ⟨g, A, R, ?_, IC_wk hi m (fun _ _ => rfl)⟩
      simp (disch := omega) only [↓grd_u, ↓bnd_e, ↓orf_u, ↓oif_u, ↓cal_u, ↓calX_u, ↓inrO_u, ↓reduceIte, EM, EMg, EMs, z0, oi, n_inbT, n_cntT, n_ltT, n_ltF, n_leT, n_leF, n_eqT, n_eqF, n_m1T, n_m1F, n_m1F', n_cl, n_add, n_mul, ro_at, ro_ro, up_at, up_up, EC, ep, hq]
      rfl
  · rw [e]
    refine CA_no hi (by decide) ?_
    unfold f_X11_longestPrefix
    simp (disch := omega) only [↓grd_u, ↓bnd_e, ↓orf_u, ↓oif_u, ↓cal_u, ↓calX_u, ↓inrO_u, ↓reduceIte, EM, EMg, EMs, z0, oi, n_inbT, n_cntT, n_ltT, n_ltF, n_leT, n_leF, n_eqT, n_eqF, n_m1T, n_m1F, n_m1F', n_cl, n_add, n_mul, ro_at, ro_ro, up_at, up_up, EC, c_patF hi hc]
    rfl
theorem c_acceptsWord {v x : Int32} (hi : IC n h A R S) (hg : GoodS S) : CA n M (f_X11_acceptsWord (ca n 0) v x (E n h A M R)) exNI (aAcW S v x) := by
  have e1 := EAu bAu_1
  have h8 := hg.1.2.1
  unfold aAcW
  rcases pat_cases S v with ⟨s, hs, rfl, hp, e⟩ | ⟨e, hc⟩
  · rw [e]
    dsimp only
    obtain ⟨a, ep, ha⟩ := c_patT (M := M) hi hs hp
    unfold f_X11_acceptsWord
    rcases ix_cases x (lW (sCur S)).length (by omega) with ⟨i, hk, rfl⟩ | hv
    · rw [ixN_T hk (by omega)]
      obtain ⟨y, ew, hw⟩ := c_sampT (M := M) hi hg hk
      obtain ⟨A', eb, au, f⟩ := c_bld (A := A) (M := M) (R := R) bAu_1 hg hs hp ha
      have ok := good_glu hg hs hp
      have hac := c_accepts (n := n) (h := h) (M := M) (R := R) bAu_1 au ok hw (word_le3 hg hk) (by have := (word_good hg hk).1; omega)
      refine CA_ok hi (MonoS_rf n h) (FrA_44 bAu_1 f) ?_
      simp (disch := omega) only [↓grd_u, ↓bnd_e, ↓orf_u, ↓oif_u, ↓cal_u, ↓calX_u, ↓inrO_u, ↓reduceIte, EM, EMg, EMs, z0, oi, n_inbT, n_cntT, n_ltT, n_ltF, n_leT, n_leF, n_eqT, n_eqF, n_m1T, n_m1F, n_m1F', n_cl, n_add, n_mul, ro_at, ro_ro, up_at, up_up, EC, ep, ew, e1, eb, hac, b2n_nar]
    · rw [ixN_F hv]
      refine CA_no hi (by decide) ?_
      simp (disch := omega) only [↓grd_u, ↓bnd_e, ↓orf_u, ↓oif_u, ↓cal_u, ↓calX_u, ↓inrO_u, ↓reduceIte, EM, EMg, EMs, z0, oi, n_inbT, n_cntT, n_ltT, n_ltF, n_leT, n_leF, n_eqT, n_eqF, n_m1T, n_m1F, n_m1F', n_cl, n_add, n_mul, ro_at, ro_ro, up_at, up_up, EC, ep, c_sampF hi hg hv]
      rfl
  · rw [e]
    refine CA_no hi (by decide) ?_
    unfold f_X11_acceptsWord
    simp (disch := omega) only [↓grd_u, ↓bnd_e, ↓orf_u, ↓oif_u, ↓cal_u, ↓calX_u, ↓inrO_u, ↓reduceIte, EM, EMg, EMs, z0, oi, n_inbT, n_cntT, n_ltT, n_ltF, n_leT, n_leF, n_eqT, n_eqF, n_m1T, n_m1F, n_m1F', n_cl, n_add, n_mul, ro_at, ro_ro, up_at, up_up, EC, c_patF hi hc]
    rfl
theorem c_sampTot (hi : IC n h A R S) : f_X6_sampleTotal (ca n 1) (E n h A M R) = some (nI (lW (sCur S)).length, E n h A M R) := by
  have e1 := ESh bSh_1
  have e1g := EShg bSh_1
  have s1 := hi.2.1.1
  unfold f_X6_sampleTotal
  simp (disch := omega) only [↓grd_u, ↓bnd_e, ↓orf_u, ↓oif_u, ↓cal_u, ↓calX_u, ↓inrO_u, ↓reduceIte, EM, EMg, EMs, z0, oi, n_inbT, n_cntT, n_ltT, n_ltF, n_leT, n_leF, n_eqT, n_eqF, n_m1T, n_m1F, n_m1F', n_cl, n_add, n_mul, ro_at, ro_ro, up_at, up_up, e1, e1g, s1]
theorem c_acSamples (hi : IC n h A R S) (hg : GoodS S) (hu : AuF A 50 g) (ok : GluOK g) : f_X11_acceptedSamples (ca n 0) (E n h A M R) = some (nI (acN S g (lW (sCur S)).length), E n h A M R) := by
  have e1 := ESh bSh_1
  have e2 := EAu bAu_1
  have h8 := hg.1.2.1
  have hst := c_sampTot (M := M) hi
  unfold f_X11_acceptedSamples g_X11_acceptedSamples_4
  rw [oi.1]
  refine lp_for0 (f := b_X11_acceptedSamples_4 (ca n 0)) (fun k => (nI (acN S g k), nI k, E n h A M R)) (lW (sCur S)).length _ (fun k hk => ?_) ?_ (L := 100000) (by omega)
  · obtain ⟨a, ha1, ha2⟩ := ShOK_w hi.2.1 (by omega) hk
    have hsa := c_sampleT (M := M) bSh_1 hi.2.1 h8 hk
    rw [ha1] at hsa
    have hac := c_accepts (n := n) (h := h) (M := M) (R := R) bAu_1 hu ok ha2 (word_le3 hg hk) (by have := (word_good hg hk).1; omega)
    have hle := acN_le (S := S) g k
    unfold b_X11_acceptedSamples_4 b0_X11_acceptedSamples_4 g_X11_acceptedSamples_36
    rw [acN_s]
    unfold b2 at hac ⊢
    by_cases q : gab g (grn g ((lW (sCur S)).getD k [])) = true
    · rw [if_pos q] at hac ⊢
      simp (disch := omega) only [↓grd_u, ↓bnd_e, ↓orf_u, ↓oif_u, ↓cal_u, ↓calX_u, ↓inrO_u, ↓reduceIte, EM, EMg, EMs, z0, oi, n_inbT, n_cntT, n_ltT, n_ltF, n_leT, n_leF, n_eqT, n_eqF, n_m1T, n_m1F, n_m1F', n_cl, n_add, n_mul, ro_at, ro_ro, up_at, up_up, EC, e1, e2, hst, hsa, hac]
    · rw [if_neg q] at hac ⊢
      simp (disch := omega) only [↓grd_u, ↓bnd_e, ↓orf_u, ↓oif_u, ↓cal_u, ↓calX_u, ↓inrO_u, ↓reduceIte, EM, EMg, EMs, z0, oi, n_inbT, n_cntT, n_ltT, n_ltF, n_leT, n_leF, n_eqT, n_eqF, n_m1T, n_m1F, n_m1F', n_cl, n_add, n_mul, ro_at, ro_ro, up_at, up_up, EC, e1, e2, hst, hsa, hac, Nat.add_zero]
  · unfold b_X11_acceptedSamples_4 b0_X11_acceptedSamples_4
    simp (disch := omega) only [↓grd_u, ↓bnd_e, ↓orf_u, ↓oif_u, ↓cal_u, ↓calX_u, ↓inrO_u, ↓reduceIte, EM, EMg, EMs, z0, oi, n_inbT, n_cntT, n_ltT, n_ltF, n_leT, n_leF, n_eqT, n_eqF, n_m1T, n_m1F, n_m1F', n_cl, n_add, n_mul, ro_at, ro_ro, up_at, up_up, EC, e1, hst]
theorem c_acceptedWords {v : Int32} (hi : IC n h A R S) (hg : GoodS S) : CA n M (f_X11_acceptedWords (ca n 0) v (E n h A M R)) exN (aAcs S v) := by
  have e1 := EAu bAu_1
  unfold aAcs
  rcases pat_cases S v with ⟨s, hs, rfl, hp, e⟩ | ⟨e, hc⟩
  · rw [e]
    obtain ⟨a, ep, ha⟩ := c_patT (M := M) hi hs hp
    obtain ⟨A', eb, au, f⟩ := c_bld (A := A) (M := M) (R := R) bAu_1 hg hs hp ha
    have ok := good_glu hg hs hp
    have hac := c_acSamples (M := M) (IC_wk hi (MonoS_rf n h) (FrA_44 bAu_1 f)) hg au ok
    refine CA_ok hi (MonoS_rf n h) (FrA_44 bAu_1 f) ?_
    unfold f_X11_acceptedWords
    simp (disch := omega) only [↓grd_u, ↓bnd_e, ↓orf_u, ↓oif_u, ↓cal_u, ↓calX_u, ↓inrO_u, ↓reduceIte, EM, EMg, EMs, z0, oi, n_inbT, n_cntT, n_ltT, n_ltF, n_leT, n_leF, n_eqT, n_eqF, n_m1T, n_m1F, n_m1F', n_cl, n_add, n_mul, ro_at, ro_ro, up_at, up_up, EC, ep, e1, eb, hac]
  · rw [e]
    refine CA_no hi (by decide) ?_
    unfold f_X11_acceptedWords
    simp (disch := omega) only [↓grd_u, ↓bnd_e, ↓orf_u, ↓oif_u, ↓cal_u, ↓calX_u, ↓inrO_u, ↓reduceIte, EM, EMg, EMs, z0, oi, n_inbT, n_cntT, n_ltT, n_ltF, n_leT, n_leF, n_eqT, n_eqF, n_m1T, n_m1F, n_m1F', n_cl, n_add, n_mul, ro_at, ro_ro, up_at, up_up, EC, c_patF hi hc]
    rfl
theorem c_stateCount {v : Int32} (hi : IC n h A R S) (hg : GoodS S) : CA n M (f_X11_stateCount (ca n 0) v (E n h A M R)) exN (aCnt S v gL) := by
  have e1 := EAu bAu_1
  unfold aCnt
  rcases pat_cases S v with ⟨s, hs, rfl, hp, e⟩ | ⟨e, hc⟩
  · rw [e]
    obtain ⟨a, ep, ha⟩ := c_patT (M := M) hi hs hp
    obtain ⟨A', eb, au, f⟩ := c_bld (A := A) (M := M) (R := R) bAu_1 hg hs hp ha
    have hz := c_ssize (n := n) (h := h) (M := M) (R := R) bAu_1 au
    refine CA_ok hi (MonoS_rf n h) (FrA_44 bAu_1 f) ?_
    unfold f_X11_stateCount
    simp (disch := omega) only [↓grd_u, ↓bnd_e, ↓orf_u, ↓oif_u, ↓cal_u, ↓calX_u, ↓inrO_u, ↓reduceIte, EM, EMg, EMs, z0, oi, n_inbT, n_cntT, n_ltT, n_ltF, n_leT, n_leF, n_eqT, n_eqF, n_m1T, n_m1F, n_m1F', n_cl, n_add, n_mul, ro_at, ro_ro, up_at, up_up, EC, ep, e1, eb, hz]
  · rw [e]
    refine CA_no hi (by decide) ?_
    unfold f_X11_stateCount
    simp (disch := omega) only [↓grd_u, ↓bnd_e, ↓orf_u, ↓oif_u, ↓cal_u, ↓calX_u, ↓inrO_u, ↓reduceIte, EM, EMg, EMs, z0, oi, n_inbT, n_cntT, n_ltT, n_ltF, n_leT, n_leF, n_eqT, n_eqF, n_m1T, n_m1F, n_m1F', n_cl, n_add, n_mul, ro_at, ro_ro, up_at, up_up, EC, c_patF hi hc]
    rfl
theorem c_acceptingCount {v : Int32} (hi : IC n h A R S) (hg : GoodS S) : CA n M (f_X11_acceptingCount (ca n 0) v (E n h A M R)) exN (aCnt S v (fun g => gCs g (gL g))) := by
  have e1 := EAu bAu_1
  unfold aCnt
  rcases pat_cases S v with ⟨s, hs, rfl, hp, e⟩ | ⟨e, hc⟩
  · rw [e]
    obtain ⟨a, ep, ha⟩ := c_patT (M := M) hi hs hp
    obtain ⟨A', eb, au, f⟩ := c_bld (A := A) (M := M) (R := R) bAu_1 hg hs hp ha
    have hz := c_asize (n := n) (h := h) (M := M) (R := R) bAu_1 au (good_glu hg hs hp)
    refine CA_ok hi (MonoS_rf n h) (FrA_44 bAu_1 f) ?_
    unfold f_X11_acceptingCount
    simp (disch := omega) only [↓grd_u, ↓bnd_e, ↓orf_u, ↓oif_u, ↓cal_u, ↓calX_u, ↓inrO_u, ↓reduceIte, EM, EMg, EMs, z0, oi, n_inbT, n_cntT, n_ltT, n_ltF, n_leT, n_leF, n_eqT, n_eqF, n_m1T, n_m1F, n_m1F', n_cl, n_add, n_mul, ro_at, ro_ro, up_at, up_up, EC, ep, e1, eb, hz]
  · rw [e]
    refine CA_no hi (by decide) ?_
    unfold f_X11_acceptingCount
    simp (disch := omega) only [↓grd_u, ↓bnd_e, ↓orf_u, ↓oif_u, ↓cal_u, ↓calX_u, ↓inrO_u, ↓reduceIte, EM, EMg, EMs, z0, oi, n_inbT, n_cntT, n_ltT, n_ltF, n_leT, n_leF, n_eqT, n_eqF, n_m1T, n_m1F, n_m1F', n_cl, n_add, n_mul, ro_at, ro_ro, up_at, up_up, EC, c_patF hi hc]
    rfl
theorem c_isUniversal {v : Int32} (hi : IC n h A R S) (hg : GoodS S) : CA n M (f_X11_isUniversal (ca n 0) v (E n h A M R)) exN (aCnt S v (fun g => b2 (decide (gCs g (gL g) = gL g)))) := by
  have e1 := EAu bAu_1
  unfold aCnt
  rcases pat_cases S v with ⟨s, hs, rfl, hp, e⟩ | ⟨e, hc⟩
  · rw [e]
    dsimp only
    obtain ⟨a, ep, ha⟩ := c_patT (M := M) hi hs hp
    obtain ⟨A', eb, au, f⟩ := c_bld (A := A) (M := M) (R := R) bAu_1 hg hs hp ha
    have ok := good_glu hg hs hp
    have hz := c_asize (n := n) (h := h) (M := M) (R := R) bAu_1 au ok
    have hz2 := c_ssize (n := n) (h := h) (M := M) (R := R) bAu_1 au
    have hL := gL_le ok
    have hcl : gCs (gluOf (lP (sCur S) s)) (gL (gluOf (lP (sCur S) s))) ≤ gL (gluOf (lP (sCur S) s)) := csn_le _ _
    refine CA_ok hi (MonoS_rf n h) (FrA_44 bAu_1 f) ?_
    unfold f_X11_isUniversal g_X11_isUniversal_34
    unfold b2
    by_cases q : gCs (gluOf (lP (sCur S) s)) (gL (gluOf (lP (sCur S) s))) = gL (gluOf (lP (sCur S) s))
    · rw [if_pos (decide_eq_true q)]
      simp (disch := omega) only [↓grd_u, ↓bnd_e, ↓orf_u, ↓oif_u, ↓cal_u, ↓calX_u, ↓inrO_u, ↓reduceIte, EM, EMg, EMs, z0, oi, n_inbT, n_cntT, n_ltT, n_ltF, n_leT, n_leF, n_eqT, n_eqF, n_m1T, n_m1F, n_m1F', n_cl, n_add, n_mul, ro_at, ro_ro, up_at, up_up, EC, ep, e1, eb, hz, hz2, nz1]
    · rw [if_neg (by simp [q])]
      simp (disch := omega) only [↓grd_u, ↓bnd_e, ↓orf_u, ↓oif_u, ↓cal_u, ↓calX_u, ↓inrO_u, ↓reduceIte, EM, EMg, EMs, z0, oi, n_inbT, n_cntT, n_ltT, n_ltF, n_leT, n_leF, n_eqT, n_eqF, n_m1T, n_m1F, n_m1F', n_cl, n_add, n_mul, ro_at, ro_ro, up_at, up_up, EC, ep, e1, eb, hz, hz2, nz0]
  · rw [e]
    refine CA_no hi (by decide) ?_
    unfold f_X11_isUniversal
    simp (disch := omega) only [↓grd_u, ↓bnd_e, ↓orf_u, ↓oif_u, ↓cal_u, ↓calX_u, ↓inrO_u, ↓reduceIte, EM, EMg, EMs, z0, oi, n_inbT, n_cntT, n_ltT, n_ltF, n_leT, n_leF, n_eqT, n_eqF, n_m1T, n_m1F, n_m1F', n_cl, n_add, n_mul, ro_at, ro_ro, up_at, up_up, EC, c_patF hi hc]
    rfl
end CCALLS
