/-! the class: same by smallest; the shortest length; means and shares -/
section CSHORT
variable {n : Nat} {h : mH} {A M : Nat → Nat → Int32} {R : Nat → Nat → Option Nat} {S : St} {g g' : Glu} {b : Nat}
theorem c_sameBySmallest {s t a b : Nat} (hg : GoodS S) (hs : s < 6) (ht : t < 6) (ps : lP (sCur S) s ≠ []) (pt : lP (sCur S) t ≠ []) (ha : Pat n h a (lP (sCur S) s)) (hb : Pat n h b (lP (sCur S) t)) : ∃ A', f_X11_sameBySmallest (ca n 0) a b (E n h A M R) = some (nI (pv (noD false (gluOf (lP (sCur S) s)) (gluOf (lP (sCur S) t)))), E n h A' M R) ∧ ∀ r, r < 50 ∨ 90 ≤ r → A' r = A r := by
  have ok := good_glu hg hs ps
  have ok' := good_glu hg ht pt
  have e1 := ESm bSm_1
  have e2 := ESm bSm_2
  obtain ⟨A1, b1, au, au2, f1⟩ := c_both (A := A) (M := M) (R := R) hg hs ht ps pt ha hb
  obtain ⟨A2, es, sm, f2⟩ := c_sbuild (n := n) (h := h) (M := M) (R := R) bSm_1 bAu_1 ok au
  obtain ⟨A3, es2, sm2, f3⟩ := c_sbuild (n := n) (h := h) (M := M) (R := R) bSm_2 bAu_2 ok' (AuF_S bSm_1 bAu_2 au2 f2)
  have sm1 : SmF A3 78 (gluOf (lP (sCur S) s)) := by
    obtain ⟨q1, q2, q3⟩ := sm
    exact ⟨by rw [f3 78 (by omega)]; exact q1, by rw [f3 83 (by omega)]; exact q2, by rw [f3 82 (by omega)]; exact q3⟩
  obtain ⟨v, e5, hv⟩ := c_equals (n := n) (h := h) (M := M) (R := R) bSm_1 bSm_2 ok ok' sm1 sm2
  have hpv : v = pv (noD false (gluOf (lP (sCur S) s)) (gluOf (lP (sCur S) t))) := by
    rcases hv with ⟨rfl, h1⟩ | ⟨rfl, h1⟩
    · exact (pv_T ((smEq_noD ok ok').mp h1)).symm
    · exact (pv_F (fun z => h1 ((smEq_noD ok ok').mpr z))).symm
  have hn : vp_nar .boolean (nI v) = nI v := n_nar01 (by rcases hv with ⟨rfl, -⟩ | ⟨rfl, -⟩ <;> decide)
  refine ⟨A3, ?_, fun r hr => (f3 r (by omega)).trans ((f2 r (by omega)).trans (f1 r (by omega)))⟩
  rw [← hpv]
  unfold f_X11_sameBySmallest
  simp (disch := omega) only [↓grd_u, ↓bnd_e, ↓orf_u, ↓oif_u, ↓cal_u, ↓calX_u, ↓inrO_u, ↓reduceIte, EM, EMg, EMs, z0, oi, n_inbT, n_cntT, n_ltT, n_ltF, n_leT, n_leF, n_eqT, n_eqF, n_m1T, n_m1F, n_m1F', n_cl, n_add, n_mul, ro_at, ro_ro, up_at, up_up, EC, b1, e1, e2, es, es2, e5, hn]
theorem c_areEquivalentBySmallest {v w : Int32} (hi : IC n h A R S) (hg : GoodS S) : CA n M (f_X11_areEquivalentBySmallest (ca n 0) v w (E n h A M R)) exN (aTwoP S v w (fun g g' => pv (noD false g g'))) := by
  have hn := fun P => n_nar01 (show pv P ≤ 1 by unfold pv; split <;> omega)
  rcases pat_cases S v with ⟨s, hs, rfl, hp, e⟩ | ⟨e, hc⟩
  · obtain ⟨a, ep, ha⟩ := c_patT (M := M) hi hs hp
    rcases pat_cases S w with ⟨t, ht, rfl, hq, e'⟩ | ⟨e', hc⟩
    · obtain ⟨b, eq, hb⟩ := c_patT (M := M) hi ht hq
      obtain ⟨A1, e1, f1⟩ := c_sameBySmallest (A := A) (M := M) (R := R) hg hs ht hp hq ha hb
      unfold aTwoP
      rw [e, e']
      refine CA_ok hi (MonoS_rf n h) (fun r hr => f1 r (by omega)) ?_
      unfold f_X11_areEquivalentBySmallest
      simp (disch := omega) only [↓grd_u, ↓bnd_e, ↓orf_u, ↓oif_u, ↓cal_u, ↓calX_u, ↓inrO_u, ↓reduceIte, EM, EMg, EMs, z0, oi, n_inbT, n_cntT, n_ltT, n_ltF, n_leT, n_leF, n_eqT, n_eqF, n_m1T, n_m1F, n_m1F', n_cl, n_add, n_mul, ro_at, ro_ro, up_at, up_up, EC, ep, eq, e1, hn]
    · rw [aTwoP_X (Or.inr e')]
      refine CA_no hi (by decide) ?_
      unfold f_X11_areEquivalentBySmallest
      simp (disch := omega) only [↓grd_u, ↓bnd_e, ↓orf_u, ↓oif_u, ↓cal_u, ↓calX_u, ↓inrO_u, ↓reduceIte, EM, EMg, EMs, z0, oi, n_inbT, n_cntT, n_ltT, n_ltF, n_leT, n_leF, n_eqT, n_eqF, n_m1T, n_m1F, n_m1F', n_cl, n_add, n_mul, ro_at, ro_ro, up_at, up_up, EC, ep, c_patF hi hc]
      rfl
  · rw [aTwoP_X (Or.inl e)]
    refine CA_no hi (by decide) ?_
    unfold f_X11_areEquivalentBySmallest
    simp (disch := omega) only [↓grd_u, ↓bnd_e, ↓orf_u, ↓oif_u, ↓cal_u, ↓calX_u, ↓inrO_u, ↓reduceIte, EM, EMg, EMs, z0, oi, n_inbT, n_cntT, n_ltT, n_ltF, n_leT, n_leF, n_eqT, n_eqF, n_m1T, n_m1F, n_m1F', n_cl, n_add, n_mul, ro_at, ro_ro, up_at, up_up, EC, c_patF hi hc]
    rfl
/-- the first state in the order that accepts -/
theorem c_firstAcc (hb : bAu b) (hu : AuF A b g) (ok : GluOK g) : ∃ r, f_X0_firstAccepting (ca n b) (E n h A M R) = some r ∧ ((∃ j, r = (nI j, E n h A M R) ∧ j < gL g ∧ gA g j = true ∧ ∀ i, i < j → gA g i = false) ∨ (r = (Int32.ofInt (-1), E n h A M R) ∧ ∀ i, i < gL g → gA g i = false)) := by
  have e1 := EAu hb
  have e2 := EAug hb
  have hL := gL_le ok
  unfold f_X0_firstAccepting g_X0_firstAccepting_2
  refine lp_inv0 (f := b_X0_firstAccepting_2 (ca n b)) (fun k s' => s' = (nI k, E n h A M R) ∧ ∀ i, i < k → gA g i = false) _ (gL g) (fun k s' hk hI => ?_) (L := 100000) (by omega) ⟨rfl, fun i hi => absurd hi (Nat.not_lt_zero _)⟩
  obtain ⟨rfl, hno⟩ := hI
  have es := hu.1
  unfold b_X0_firstAccepting_2 b0_X0_firstAccepting_2 g_X0_firstAccepting_34
  by_cases hkL : k < gL g
  · have ea := (hu.2.2 k hkL).1
    by_cases q : gA g k = true
    · rw [b2_t q] at ea
      refine Or.inr ⟨(nI k, E n h A M R), ?_, Or.inl ⟨k, rfl, hkL, q, hno⟩⟩
      simp (disch := omega) only [↓grd_u, ↓bnd_e, ↓orf_u, ↓oif_u, ↓cal_u, ↓calX_u, ↓inrO_u, ↓reduceIte, EM, EMg, EMs, z0, oi, n_inbT, n_cntT, n_ltT, n_ltF, n_leT, n_leF, n_eqT, n_eqF, n_m1T, n_m1F, n_m1F', n_cl, n_add, n_mul, ro_at, ro_ro, up_at, up_up, e1, e2, es, ea]
    · rw [b2_f q] at ea
      refine Or.inl ⟨(nI (k + 1), E n h A M R), ?_, hkL, rfl, fun i hi => ?_⟩
      · simp (disch := omega) only [↓grd_u, ↓bnd_e, ↓orf_u, ↓oif_u, ↓cal_u, ↓calX_u, ↓inrO_u, ↓reduceIte, EM, EMg, EMs, z0, oi, n_inbT, n_cntT, n_ltT, n_ltF, n_leT, n_leF, n_eqT, n_eqF, n_m1T, n_m1F, n_m1F', n_cl, n_add, n_mul, ro_at, ro_ro, up_at, up_up, e1, e2, es, ea]
      · by_cases z : i = k
        · rw [z]
          cases y : gA g k with
          | false => rfl
          | true => exact absurd y q
        · exact hno i (by omega)
  · refine Or.inr ⟨(Int32.ofInt (-1), E n h A M R), ?_, Or.inr ⟨rfl, fun i hi => hno i (by omega)⟩⟩
    simp (disch := omega) only [↓grd_u, ↓bnd_e, ↓orf_u, ↓oif_u, ↓cal_u, ↓calX_u, ↓inrO_u, ↓reduceIte, EM, EMg, EMs, z0, oi, n_inbT, n_cntT, n_ltT, n_ltF, n_leT, n_leF, n_eqT, n_eqF, n_m1T, n_m1F, n_m1F', n_cl, n_add, n_mul, ro_at, ro_ro, up_at, up_up, e1, e2, es]
theorem par_lt (ok : GluOK g) {i : Nat} (h1 : 1 ≤ i) (hi : i < gL g) : (gB g).2.1 i / 3 < i := ((gB_Bf g).2.2.2.2.1 i h1 hi).2.1
theorem c_shortAcc (hb : bAu b) (hu : AuF A b g) (ok : GluOK g) (hne : ∃ k, ek (gnext g) (gab g) k 128 = true) : ∃ j, j < gL g ∧ f_X0_firstAccepting (ca n b) (E n h A M R) = some (nI j, E n h A M R) ∧ isB (gnext g) (gab g) 128 (wd (bN (gB g).2.1 j)) ∧ f_X0_shortestAccepted (ca n b) (E n h A M R) = some (nI (wd (bN (gB g).2.1 j)).length, E n h A M R) := by
  have e1 := EAu hb
  have e2 := EAug hb
  have hL := gL_le ok
  obtain ⟨r, er, hr⟩ := c_firstAcc (n := n) (h := h) (M := M) (R := R) hb hu ok
  rcases hr with ⟨j, rfl, hj, hT, hf⟩ | ⟨-, hno⟩
  · have hB : isB (gnext g) (gab g) 128 (wd (bN (gB g).2.1 j)) := bN_first (gB_Bf g) (show 3 * (gB g).2.2 ≤ 387 by have : (gB g).2.2 = gL g := rfl; omega) hj (T := gab g) (by rw [gA_e] at hT; exact hT) (fun i hi => by have := hf i hi; rw [gA_e] at this; exact this)
    refine ⟨j, hj, er, hB, ?_⟩
    have key : ∃ r, g_X0_shortestAccepted_7 (ca n b) (nI 0) (nI j) (E n h A M R) = some r ∧ r = (nI (wd (bN (gB g).2.1 j)).length, E n h A M R) := by
      unfold g_X0_shortestAccepted_7
      refine lp_inv0 (f := b_X0_shortestAccepted_7 (ca n b)) (fun k s' => ∃ i, s' = (nI k, nI i, E n h A M R) ∧ i + k ≤ j ∧ k + (wd (bN (gB g).2.1 i)).length = (wd (bN (gB g).2.1 j)).length) _ j (fun k s' hk hI => ?_) (L := 100000) (by omega) ⟨j, rfl, by omega, by omega⟩
      obtain ⟨i, rfl, hik, hlen⟩ := hI
      unfold b_X0_shortestAccepted_7 b0_X0_shortestAccepted_7 g_X0_shortestAccepted_40 g_X0_shortestAccepted_49
      by_cases hi : i = 0
      · rw [hi] at hlen ⊢
        have : (wd (bN (gB g).2.1 0)).length = 0 := rfl
        rw [this] at hlen
        refine Or.inr ⟨(nI k, E n h A M R), ?_, by rw [← hlen]; rfl⟩
        simp (disch := omega) only [↓grd_u, ↓bnd_e, ↓orf_u, ↓oif_u, ↓cal_u, ↓calX_u, ↓inrO_u, ↓reduceIte, EM, EMg, EMs, z0, oi, n_inbT, n_cntT, n_ltT, n_ltF, n_leT, n_leF, n_eqT, n_eqF, n_m1T, n_m1F, n_m1F', n_cl, n_add, n_mul, ro_at, ro_ro, up_at, up_up]
      · have hiL : i < gL g := by omega
        have p1 := (hu.2.2 i hiL).2
        have p2 := par_lt ok (show 1 ≤ i by omega) hiL
        have hw := congrArg List.length (wd_bN (gB_Bf g) (show 1 ≤ i by omega) hiL)
        rw [List.length_append, List.length_singleton] at hw
        refine Or.inl ⟨(nI (k + 1), nI ((gB g).2.1 i / 3), E n h A M R), ?_, by omega, (gB g).2.1 i / 3, rfl, by omega, by omega⟩
        simp (disch := omega) only [↓grd_u, ↓bnd_e, ↓orf_u, ↓oif_u, ↓cal_u, ↓calX_u, ↓inrO_u, ↓reduceIte, EM, EMg, EMs, z0, oi, n_inbT, n_cntT, n_ltT, n_ltF, n_leT, n_leF, n_eqT, n_eqF, n_m1T, n_m1F, n_m1F', n_cl, n_add, n_mul, ro_at, ro_ro, up_at, up_up, e1, e2, p1, n_div]
    obtain ⟨r, e, rfl⟩ := key
    unfold f_X0_shortestAccepted
    simp (disch := omega) only [↓grd_u, ↓bnd_e, ↓orf_u, ↓oif_u, ↓cal_u, ↓calX_u, ↓inrO_u, ↓reduceIte, EM, EMg, EMs, z0, oi, n_inbT, n_cntT, n_ltT, n_ltF, n_leT, n_leF, n_eqT, n_eqF, n_m1T, n_m1F, n_m1F', n_cl, n_add, n_mul, ro_at, ro_ro, up_at, up_up, e1, er, e]
  · obtain ⟨k, hk⟩ := hne
    have := bN_none (gB_Bf g) (show 3 * (gB g).2.2 ≤ 387 by have : (gB g).2.2 = gL g := rfl; omega) (T := gab g) (fun i hi => by have := hno i hi; rw [gA_e] at this; exact this) k
    rw [hk] at this
    cases this
theorem c_shortestLength {v : Int32} (hi : IC n h A R S) (hg : GoodS S) : CA n M (f_X11_shortestLength (ca n 0) v (E n h A M R)) exN (aCnt S v (fun g => chz (isD (gnext g) (gab g) 128))) := by
  have e1 := EAu bAu_1
  unfold aCnt
  rcases pat_cases S v with ⟨s, hs, rfl, hp, e⟩ | ⟨e, hc⟩
  · rw [e]
    obtain ⟨a, ep, ha⟩ := c_patT (M := M) hi hs hp
    obtain ⟨A', eb, au, f⟩ := c_bld (A := A) (M := M) (R := R) bAu_1 hg hs hp ha
    obtain ⟨j, -, -, hB, hz⟩ := c_shortAcc (n := n) (h := h) (M := M) (R := R) bAu_1 au (good_glu hg hs hp) (good_ne hg hs hp)
    have hc : chz (isD (gnext (gluOf (lP (sCur S) s))) (gab (gluOf (lP (sCur S) s))) 128) = (wd (bN (gB (gluOf (lP (sCur S) s))).2.1 j)).length := chz_u (isB_len hB) (fun j hj => isD_u hj (isB_len hB))
    refine CA_ok (v := chz (isD (gnext (gluOf (lP (sCur S) s))) (gab (gluOf (lP (sCur S) s))) 128)) hi (MonoS_rf n h) (FrA_44 bAu_1 f) ?_
    rw [hc]
    unfold f_X11_shortestLength
    simp (disch := omega) only [↓grd_u, ↓bnd_e, ↓orf_u, ↓oif_u, ↓cal_u, ↓calX_u, ↓inrO_u, ↓reduceIte, EM, EMg, EMs, z0, oi, n_inbT, n_cntT, n_ltT, n_ltF, n_leT, n_leF, n_eqT, n_eqF, n_m1T, n_m1F, n_m1F', n_cl, n_add, n_mul, ro_at, ro_ro, up_at, up_up, EC, ep, e1, eb, hz]
  · rw [e]
    refine CA_no hi (by decide) ?_
    unfold f_X11_shortestLength
    simp (disch := omega) only [↓grd_u, ↓bnd_e, ↓orf_u, ↓oif_u, ↓cal_u, ↓calX_u, ↓inrO_u, ↓reduceIte, EM, EMg, EMs, z0, oi, n_inbT, n_cntT, n_ltT, n_ltF, n_leT, n_leF, n_eqT, n_eqF, n_m1T, n_m1F, n_m1F', n_cl, n_add, n_mul, ro_at, ro_ro, up_at, up_up, EC, c_patF hi hc]
    rfl
theorem c_meanLetters (hi : IC n h A R S) (hg : GoodS S) : f_X11_meanLetters (ca n 0) (E n h A M R) = some (if nPat (sCur S) = 0 then .inr "java/lang/ArithmeticException" else .inl (FP.ddiv (FP.i2d (nI (lSum (sCur S) 6))) (FP.i2d (nI (nPat (sCur S))))), E n h A M R) := by
  have e1 := ESh bSh_1
  have hp := c_patternTotal (M := M) bSh_1 hi.2.1
  have hl := c_letterSum (M := M) bSh_1 hi.2.1
  have h6 := nPat_le (sCur S)
  unfold f_X11_meanLetters
  by_cases e0 : nPat (sCur S) = 0
  · rw [if_pos e0]
    rw [e0] at hp
    simp (disch := omega) only [↓grd_u, ↓bnd_e, ↓orf_u, ↓oif_u, ↓cal_u, ↓calX_u, ↓inrO_u, ↓reduceIte, EM, EMg, EMs, z0, oi, n_inbT, n_cntT, n_ltT, n_ltF, n_leT, n_leF, n_eqT, n_eqF, n_m1T, n_m1F, n_m1F', n_cl, n_add, n_mul, ro_at, ro_ro, up_at, up_up, EC, e1, hp]
  · have hs : lSum (sCur S) 6 < 64 := by
      have a := fun s (hs : s < 6) => nLet_lt hg hs
      have a0 := a 0 (by decide)
      have a1 := a 1 (by decide)
      have a2 := a 2 (by decide)
      have a3 := a 3 (by decide)
      have a4 := a 4 (by decide)
      have a5 := a 5 (by decide)
      have z : lSum (sCur S) 0 = 0 := rfl
      rw [lSum_snoc, lSum_snoc, lSum_snoc, lSum_snoc, lSum_snoc, lSum_snoc]
      omega
    have hv := fp_dv _ hs _ (show nPat (sCur S) < 7 by omega) (by omega)
    rw [if_neg e0]
    simp (disch := omega) only [↓grd_u, ↓bnd_e, ↓orf_u, ↓oif_u, ↓cal_u, ↓calX_u, ↓inrO_u, ↓reduceIte, EM, EMg, EMs, z0, oi, n_inbT, n_cntT, n_ltT, n_ltF, n_leT, n_leF, n_eqT, n_eqF, n_m1T, n_m1F, n_m1F', n_cl, n_add, n_mul, ro_at, ro_ro, up_at, up_up, EC, e1, hp, hl, hv]
def exNM : Nat → String := fun e => if e = 1 then "java/util/NoSuchElementException" else "java/lang/ArithmeticException"
theorem c_acceptedShare {v : Int32} (hi : IC n h A R S) (hg : GoodS S) : ∃ A' q, f_X11_acceptedShare (ca n 0) v (E n h A M R) = some (q, E n h A' M R) ∧ IC n h A' R S ∧ (match patN S v with
    | some s => if (lW (sCur S)).length = 0 then q = .inr (exNM 2) else q = .inl (FP.fdiv (FP.i2f (nI (acN S (gluOf (lP (sCur S) s)) (lW (sCur S)).length))) (FP.i2f (nI (lW (sCur S)).length)))
    | none => q = .inr (exNM 1)) := by
  have e1 := EAu bAu_1
  have e2 := ESh bSh_1
  have h8 := hg.1.2.1
  rcases pat_cases S v with ⟨s, hs, rfl, hp, e⟩ | ⟨e, hc⟩
  · rw [e]
    dsimp only
    obtain ⟨a, ep, ha⟩ := c_patT (M := M) hi hs hp
    have hst := c_sampTot (M := M) hi
    by_cases e0 : (lW (sCur S)).length = 0
    · rw [e0] at hst
      refine ⟨A, .inr (exNM 2), ?_, hi, by rw [if_pos e0]⟩
      unfold f_X11_acceptedShare
      simp (disch := omega) only [↓grd_u, ↓bnd_e, ↓orf_u, ↓oif_u, ↓cal_u, ↓calX_u, ↓inrO_u, ↓reduceIte, EM, EMg, EMs, z0, oi, n_inbT, n_cntT, n_ltT, n_ltF, n_leT, n_leF, n_eqT, n_eqF, n_m1T, n_m1F, n_m1F', n_cl, n_add, n_mul, ro_at, ro_ro, up_at, up_up, EC, e2, ep, hst]
      rfl
    · obtain ⟨A', eb, au, f⟩ := c_bld (A := A) (M := M) (R := R) bAu_1 hg hs hp ha
      have ok := good_glu hg hs hp
      have hi' := IC_wk hi (MonoS_rf n h) (FrA_44 bAu_1 f)
      have hac := c_acSamples (M := M) hi' hg au ok
      have hle : acN S (gluOf (lP (sCur S) s)) (lW (sCur S)).length ≤ (lW (sCur S)).length := csn_le _ _
      have hv := fp_fv (acN S (gluOf (lP (sCur S) s)) (lW (sCur S)).length) (by omega) (lW (sCur S)).length (by omega) (by omega)
      refine ⟨A', .inl (FP.fdiv (FP.i2f (nI (acN S (gluOf (lP (sCur S) s)) (lW (sCur S)).length))) (FP.i2f (nI (lW (sCur S)).length))), ?_, hi', by rw [if_neg e0]⟩
      unfold f_X11_acceptedShare
      simp (disch := omega) only [↓grd_u, ↓bnd_e, ↓orf_u, ↓oif_u, ↓cal_u, ↓calX_u, ↓inrO_u, ↓reduceIte, EM, EMg, EMs, z0, oi, n_inbT, n_cntT, n_ltT, n_ltF, n_leT, n_leF, n_eqT, n_eqF, n_m1T, n_m1F, n_m1F', n_cl, n_add, n_mul, ro_at, ro_ro, up_at, up_up, EC, e1, e2, ep, hst, eb, hac, hv]
  · rw [e]
    refine ⟨A, .inr (exNM 1), ?_, hi, rfl⟩
    unfold f_X11_acceptedShare
    simp (disch := omega) only [↓grd_u, ↓bnd_e, ↓orf_u, ↓oif_u, ↓cal_u, ↓calX_u, ↓inrO_u, ↓reduceIte, EM, EMg, EMs, z0, oi, n_inbT, n_cntT, n_ltT, n_ltF, n_leT, n_leF, n_eqT, n_eqF, n_m1T, n_m1F, n_m1F', n_cl, n_add, n_mul, ro_at, ro_ro, up_at, up_up, EC, c_patF hi hc]
    rfl
end CSHORT
