/-! the reference: the shortest word -/
def SW (p : List Nat) : Prop := ∀ st, ∃ A, lrun st p = A :: st ∧ ∃ w, le3 w ∧ w.length ≤ nLet p ∧ A w
theorem le3_app {u v : List Nat} (hu : le3 u) (hv : le3 v) : le3 (u ++ v) := fun c hc => by
  rcases List.mem_append.mp hc with z | z
  · exact hu c z
  · exact hv c z
theorem le3_nil : le3 [] := fun c hc => absurd hc (by simp)
theorem SW_all {p : List Nat} (hw : WF p) : SW p := by
  refine WF_ind (P := SW) (fun c h1 h3 st => ?_) (fun x c _ ih h1 h3 st => ?_) (fun x y c _ ihx _ ihy hc st => ?_) hw
  · refine ⟨fun w => w = [c - 1], ?_, [c - 1], fun d hd => ?_, ?_, rfl⟩
    · rw [lrun_1]
      unfold lstp
      rw [if_pos (by omega)]
    · rw [List.mem_singleton.mp hd]; omega
    · rw [nLet_one, if_pos (by omega)]
      exact Nat.le_refl _
  · obtain ⟨A, e, w, w1, w2, w3⟩ := ih st
    refine ⟨lSig c A, ?_, ?_⟩
    · rw [lrun_app, e, lrun_1]
      unfold lstp
      rw [if_neg (by omega), if_pos h1]
    · unfold lSig
      rw [nLet_app]
      by_cases e6 : c = 6
      · rw [if_pos e6]
        exact ⟨[], le3_nil, Nat.zero_le _, Or.inl rfl⟩
      · rw [if_neg e6]
        by_cases e7 : c = 7
        · rw [if_pos e7]
          exact ⟨w, w1, by omega, [w], List.cons_ne_nil _ _, (fun u hu => by rw [List.mem_singleton.mp hu]; exact w3), by simp⟩
        · rw [if_neg e7]
          exact ⟨[], le3_nil, Nat.zero_le _, Or.inl rfl⟩
  · obtain ⟨A, e, w, w1, w2, w3⟩ := ihx st
    obtain ⟨B, e', v, v1, v2, v3⟩ := ihy (A :: st)
    refine ⟨lBin c A B, ?_, ?_⟩
    · rw [lrun_app, lrun_app, e, e', lrun_1]
      unfold lstp
      rw [if_neg (by omega), if_neg (by omega)]
    · unfold lBin
      rw [nLet_app, nLet_app]
      by_cases e5 : c = 5
      · rw [if_pos e5]
        exact ⟨w, w1, by omega, Or.inl w3⟩
      · rw [if_neg e5]
        exact ⟨w ++ v, le3_app w1 v1, by rw [List.length_append]; omega, w, v, rfl, w3, v3⟩
theorem good_short {S : St} {s : Nat} (hg : GoodS S) (hs : s < 6) (hp : lP (sCur S) s ≠ []) : ∃ k, k ≤ 7 ∧ ek (gnext (gluOf (lP (sCur S) s))) (gab (gluOf (lP (sCur S) s))) k 128 = true := by
  have gp := hg.1.1 s hs
  have h7 : nLet (lP (sCur S) s) ≤ 7 := by
    rcases gp with q | ⟨-, q⟩
    · exact absurd q hp
    · exact Nat.not_lt.mp (fun z => q (Or.inl z))
  have hw := GoodP_wf gp hp
  obtain ⟨A, b, e, -, -, -, -, hl⟩ := glu_lang hw h7
  obtain ⟨B, e', w, w1, w2, w3⟩ := SW_all hw []
  rw [e] at e'
  injection e' with e1 e2
  rw [← e1] at w3
  exact ⟨w.length, by omega, ek_w.mpr ⟨w, w1, rfl, (hl w).mpr w3⟩⟩
theorem lp_nx {σ ρ : Type} {f : σ → Option (σ ⊕ ρ)} {s s' : σ} {L : Nat} (h : f s = some (.inl s')) : lp f (L + 1) s = lp f L s' := by
  simp only [lp, h]
theorem lp_en {σ ρ : Type} {f : σ → Option (σ ⊕ ρ)} {s : σ} {r : ρ} {L : Nat} (h : f s = some (.inr r)) : lp f (L + 1) s = some r := by
  simp only [lp, h]
def setL (S : St) (l : List Nat) : St := (sCur S, sUndo S, sSaved S, sText S, sErr S, sFail S, l)
section MSHORT
variable {n : Nat} {h : mH} {A M : Nat → Nat → Int32} {R : Nat → Nat → Option Nat} {S : St} {g : Glu}
theorem IM_L {M' : Nat → Nat → Int32} {l : List Nat} {rows sc : List Nat} (h : IM M S) (hf : Fr rows sc M M') (h1 : ∀ r ∈ [1, 2, 3, 4, 6], r ∉ rows) (h2 : ∀ k ∈ [6, 5, 7, 11, 13, 14], k ∉ sc) (hl : M' 0 44 = nI l.length) (hk : ∀ k, k < l.length → M' 30 k = nI (l.getD k 0)) : IM M' (setL S l) := by
  obtain ⟨a1, a2, a3, a4, a5, ⟨a6, a7⟩, a8, a9, a10, a11⟩ := h
  have e1 := hf.1 1 (by decide) (h1 _ (by decide))
  have e3 := hf.1 3 (by decide) (h1 _ (by decide))
  have e4 := hf.1 4 (by decide) (h1 _ (by decide))
  have e5 := hf.1 6 (by decide) (h1 _ (by decide))
  have f1 := hf.2 7 (h2 _ (by decide))
  have f2 := hf.2 11 (h2 _ (by decide))
  have f3 := hf.2 13 (h2 _ (by decide))
  have f4 := hf.2 14 (h2 _ (by decide))
  refine ⟨by rw [e1]; exact a1, Ring_fr a2 hf (h1 _ (by decide)) (h2 _ (by decide)) (h2 _ (by decide)), ?_, by rw [e4]; exact a4, by rw [e3]; exact a5, ⟨by rw [f2]; exact a6, by rw [e5]; exact a7⟩, by rw [f3]; exact a8, by rw [f4]; exact a9, hl, hk⟩
  rw [f1, e3]
  exact a3
theorem m_shortestLength {v : Int32} (hi : IM M S) (hg : GoodS S) : MA n h A R (f_X12_shortestLength (ma n 0) v (E n h A M R)) (aCnt S v (fun g => chz (isD (gnext g) (gab g) 128))) := by
  have h0 : IM (ro M 0 (up (M 0) 0 (nI 0))) S := IM_thrown hi
  unfold f_X12_shortestLength aCnt
  rcases pat_cases S v with ⟨s, hs, rfl, hp, e⟩ | ⟨e, hc⟩
  · rw [e]
    obtain ⟨M', eo, au, ri, i, t, -⟩ := m_opens (n := n) (h := h) (A := A) (R := R) h0 hg hs hp
    have ok := good_glu hg hs hp
    obtain ⟨M2, F, e2, f1, f2, f3⟩ := m_findsFar (n := n) (h := h) (A := A) (R := R) ok au ri
    obtain ⟨k, hk⟩ := good_ne hg hs hp
    have hD := Fa_D ok f1 f2 (gL_pos _) (by rw [gO_0]; exact hk)
    rw [gO_0] at hD
    have hv := (f1 0 (gL_pos _)).1
    rw [gO_0] at hv
    have hc : chz (isD (gnext (gluOf (lP (sCur S) s))) (gab (gluOf (lP (sCur S) s))) 128) = F 128 := chz_u hD.1 (fun j hj => isD_u hj hD.1)
    refine ⟨M2, ?_, IM_fr i f3 (by decide) (by decide), by rw [f3.2 _ (by decide), t, ro_at, up_at]⟩
    simp (disch := omega) only [↓grd_u, ↓bnd_e, ↓orf_u, ↓oif_u, ↓cal_u, ↓calX_u, ↓inrO_u, ↓reduceIte, EM, EMg, EMs, z0, oi, n_inbT, n_cntT, n_ltT, n_ltF, n_leT, n_leF, n_eqT, n_eqF, n_m1T, n_m1F, n_m1F', n_cl, n_add, n_mul, ro_at, ro_ro, up_at, up_up, holdsT h0 hg hs hp]
    simp (disch := omega) only [↓grd_u, ↓bnd_e, ↓orf_u, ↓oif_u, ↓cal_u, ↓calX_u, ↓inrO_u, ↓reduceIte, EM, EMg, EMs, z0, oi, n_inbT, n_cntT, n_ltT, n_ltF, n_leT, n_leF, n_eqT, n_eqF, n_m1T, n_m1F, n_m1F', n_cl, n_add, n_mul, ro_at, ro_ro, up_at, up_up, eo]
    simp (disch := omega) only [↓grd_u, ↓bnd_e, ↓orf_u, ↓oif_u, ↓cal_u, ↓calX_u, ↓inrO_u, ↓reduceIte, EM, EMg, EMs, z0, oi, n_inbT, n_cntT, n_ltT, n_ltF, n_leT, n_leF, n_eqT, n_eqF, n_m1T, n_m1F, n_m1F', n_cl, n_add, n_mul, ro_at, ro_ro, up_at, up_up, e2, hv, hc]
  · have hh := m_holdsX (n := n) (h := h) (A := A) (R := R) h0 e hc
    rw [e]
    obtain ⟨M', e, i, t⟩ := m_failed (n := n) (h := h) (A := A) (R := R) (k := 1) h0
    refine ⟨M', ?_, i, t⟩
    simp (disch := omega) only [↓grd_u, ↓bnd_e, ↓orf_u, ↓oif_u, ↓cal_u, ↓calX_u, ↓inrO_u, ↓reduceIte, EM, EMg, EMs, z0, oi, n_inbT, n_cntT, n_ltT, n_ltF, n_leT, n_leF, n_eqT, n_eqF, n_m1T, n_m1F, n_m1F', n_cl, n_add, n_mul, ro_at, ro_ro, up_at, up_up, hh]
    simp (disch := omega) only [↓grd_u, ↓bnd_e, ↓orf_u, ↓oif_u, ↓cal_u, ↓calX_u, ↓inrO_u, ↓reduceIte, EM, EMg, EMs, z0, oi, n_inbT, n_cntT, n_ltT, n_ltF, n_leT, n_leF, n_eqT, n_eqF, n_m1T, n_m1F, n_m1F', n_cl, n_add, n_mul, ro_at, ro_ro, up_at, up_up, e]
theorem m_ins {i c : Nat} (hi : i < 120) (hc : c < 128) (hl : M 0 44 = nI i) : f_X12_inserts (ma n 0) (nI i) (nI c) (E n h A M R) = some ((), E n h A (ro (ro M 30 (up (M 30) i (nI c))) 0 (up (M 0) 44 (nI (i + 1)))) R) := by
  have h1 := nar_ch c hc
  have h2 := nch c hc
  unfold f_X12_inserts g_X12_inserts_5
  have hb : b_X12_inserts_5 (ma n 0) (nI i) (nI c) (nI i, E n h A M R) = some (.inr ((), E n h A (ro (ro M 30 (up (M 30) i (nI c))) 0 (up (M 0) 44 (nI (i + 1)))) R)) := by
    unfold b_X12_inserts_5 b0_X12_inserts_5
    simp (disch := omega) only [↓grd_u, ↓bnd_e, ↓orf_u, ↓oif_u, ↓cal_u, ↓calX_u, ↓inrO_u, ↓reduceIte, EM, EMg, EMs, z0, oi, n_inbT, n_cntT, n_ltT, n_ltF, n_leT, n_leF, n_eqT, n_eqF, n_m1T, n_m1F, n_m1F', n_cl, n_add, n_mul, ro_at, ro_ro, up_at, up_up, ro_ne, up_ne, ro_sw, hl, h1, h2]
  have := lp_en (L := 99999) hb
  simp (disch := omega) only [↓grd_u, ↓bnd_e, ↓orf_u, ↓oif_u, ↓cal_u, ↓calX_u, ↓inrO_u, ↓reduceIte, EM, EMg, EMs, z0, oi, n_inbT, n_cntT, n_ltT, n_ltF, n_leT, n_leF, n_eqT, n_eqF, n_m1T, n_m1F, n_m1F', n_cl, n_add, n_mul, ro_at, ro_ro, up_at, up_up, hl, this]
theorem m_fs48 {j i d : Nat} {F : Nat → Nat} (ok : GluOK g) (au : AutM M 0 g) (f1 : FaR M g F) (f2 : ∀ t, FaT g F t) (hj : j < gL g) (hl : M 0 44 = nI i) (hi : i < 120) (hd : isD (gnext g) (gab g) (gO g j) (d + 1)) (hF : F (gO g j) = d + 1) :
    ∃ c, c < 3 ∧ isD (gnext g) (gab g) (gnext g (gO g j) c) d ∧ F (gnext g (gO g j) c) = d ∧ (∀ e, e < c → ¬ isD (gnext g) (gab g) (gnext g (gO g j) e) d) ∧ g_X12_formatShortest_48 (ma n 0) (nI (gO g j)) (nI 0) (E n h A M R) = some (.inl (nI (gnext g (gO g j) c), E n h A (ro (ro M 30 (up (M 30) i (nI (97 + c)))) 0 (up (M 0) 44 (nI (i + 1)))) R)) := by
  have lk := gO_lt ok j
  have hv := (f1 j hj).1
  have hv9 := (f1 j hj).2.1
  have hnx : ∀ c, c < 3 → M 23 (gnext g (gO g j) c) = nI (F (gnext g (gO g j) c)) ∧ F (gnext g (gO g j) c) ≤ 999 ∧ (F (gnext g (gO g j) c) < 999 → isD (gnext g) (gab g) (gnext g (gO g j) c) (F (gnext g (gO g j) c))) ∧ (isD (gnext g) (gab g) (gnext g (gO g j) c) d → F (gnext g (gO g j) c) = d) := fun c hc => by
    obtain ⟨s1, s2⟩ := gS_ok ok hj hc
    obtain ⟨q1, q2, q3⟩ := f1 _ s1
    have q4 := fun k => Fa_D (k := k) ok f1 f2 s1
    rw [s2] at q1 q2 q3 q4
    exact ⟨q1, q2, fun z => (q4 _ (q3 z)).1, fun z => isD_u (q4 _ z.1).1 z⟩
  have key : ∃ r, g_X12_formatShortest_48 (ma n 0) (nI (gO g j)) (nI 0) (E n h A M R) = some r ∧ ∃ c, c < 3 ∧ isD (gnext g) (gab g) (gnext g (gO g j) c) d ∧ F (gnext g (gO g j) c) = d ∧ (∀ e, e < c → ¬ isD (gnext g) (gab g) (gnext g (gO g j) e) d) ∧ r = .inl (nI (gnext g (gO g j) c), E n h A (ro (ro M 30 (up (M 30) i (nI (97 + c)))) 0 (up (M 0) 44 (nI (i + 1)))) R) := by
    unfold g_X12_formatShortest_48
    refine lp_inv0 (f := b_X12_formatShortest_48 (ma n 0) (nI (gO g j))) (fun c s' => s' = (nI c, E n h A M R) ∧ ∀ e, e < c → ¬ isD (gnext g) (gab g) (gnext g (gO g j) e) d) _ 3 (fun c s' hc hI => ?_) (L := 100000) (by decide) ⟨rfl, fun e he => absurd he (Nat.not_lt_zero _)⟩
    obtain ⟨rfl, hno⟩ := hI
    by_cases hc3 : c < 3
    · obtain ⟨q1, q2, q3, q4⟩ := hnx c hc3
      have to := m_to (n := n) (h := h) (A := A) (R := R) au (by decide : 0 < 2) lk hc3
      have tl : gnext g (gO g j) c < 129 := gB_nx ok _ _ lk hc3
      unfold b_X12_formatShortest_48 b0_X12_formatShortest_48
      by_cases he : F (gnext g (gO g j) c) = d
      · have hin := m_ins (n := n) (h := h) (A := A) (M := M) (R := R) (c := 97 + c) hi (by omega) hl
        have to2 := m_to (n := n) (h := h) (A := A) (R := R) (M := ro (ro M 30 (up (M 30) i (nI (97 + c)))) 0 (up (M 0) 44 (nI (i + 1)))) (AutM_keep (AutM_keep au (Fr_ro (r := 30) (rows := [30]) (sc := []) _ (by decide) (by decide)) (by decide)) (Fr_r0 (rows := []) (sc := [44]) _ (by decide)) (by decide)) (by decide : 0 < 2) lk hc3
        refine Or.inr ⟨_, ?_, c, hc3, ?_, he, hno, rfl⟩
        · simp (disch := omega) only [↓grd_u, ↓bnd_e, ↓orf_u, ↓oif_u, ↓cal_u, ↓calX_u, ↓inrO_u, ↓reduceIte, EM, EMg, EMs, z0, oi, n_inbT, n_cntT, n_ltT, n_ltF, n_leT, n_leF, n_eqT, n_eqF, n_m1T, n_m1F, n_m1F', n_cl, n_add, n_mul, ro_at, ro_ro, up_at, up_up, n_sub, to, q1, hv, he, hF, hl, hin]
          simp (disch := omega) only [↓grd_u, ↓bnd_e, ↓orf_u, ↓oif_u, ↓cal_u, ↓calX_u, ↓inrO_u, ↓reduceIte, EM, EMg, EMs, z0, oi, n_inbT, n_cntT, n_ltT, n_ltF, n_leT, n_leF, n_eqT, n_eqF, n_m1T, n_m1F, n_m1F', n_cl, n_add, n_mul, ro_at, ro_ro, up_at, up_up, to2]
        · rw [← he]
          exact q3 (by omega)
      · refine Or.inl ⟨(nI (c + 1), E n h A M R), ?_, hc3, rfl, fun e hec => ?_⟩
        · simp (disch := omega) only [↓grd_u, ↓bnd_e, ↓orf_u, ↓oif_u, ↓cal_u, ↓calX_u, ↓inrO_u, ↓reduceIte, EM, EMg, EMs, z0, oi, n_inbT, n_cntT, n_ltT, n_ltF, n_leT, n_leF, n_eqT, n_eqF, n_m1T, n_m1F, n_m1F', n_cl, n_add, n_mul, ro_at, ro_ro, up_at, up_up, n_sub, to, q1, hv, hF]
        · by_cases z : e = c
          · rw [z]
            exact fun y => he (q4 y)
          · exact hno e (by omega)
    · exfalso
      obtain ⟨c', hc', hk⟩ := ek_s.mp hd.1
      exact hno c' (by omega) (isD_next hd hc' hk)
  obtain ⟨r, e, c, h1, h2, h3, h4, rfl⟩ := key
  exact ⟨c, h1, h2, h3, h4, e⟩
/-- greedy: the least letter that leads nearer -/
theorem m_fs37 (ok : GluOK g) {F : Nat → Nat} : ∀ (d j i L : Nat) (M : Nat → Nat → Int32), AutM M 0 g → FaR M g F → (∀ t, FaT g F t) → j < gL g → M 0 44 = nI i → i + d ≤ 120 → d < L → isD (gnext g) (gab g) (gO g j) d → F (gO g j) = d →
    ∃ w M', isB (gnext g) (gab g) (gO g j) w ∧ w.length = d ∧ lp (b_X12_formatShortest_37 (ma n 0)) L (nI (gO g j), E n h A M R) = some (nI (i + d), E n h A M' R) ∧ M' 0 44 = nI (i + d) ∧ (∀ k, k < d → M' 30 (i + k) = nI (97 + w.getD k 0)) ∧ (∀ k, k < i → M' 30 k = M 30 k) ∧ Fr [30] [44] M M' := by
  intro d
  induction d with
  | zero =>
    intro j i L M au f1 f2 hj hl hi hL hd hF
    have lk := gO_lt ok j
    have hv := (f1 j hj).1
    rw [hF] at hv
    have hT : gab g (gO g j) = true := by
      have := hd.1
      rw [ek_z] at this
      exact this
    obtain ⟨L, rfl⟩ : ∃ L', L = L' + 1 := ⟨L - 1, by omega⟩
    refine ⟨[], M, isB_nil hT, rfl, lp_en ?_, hl, fun k hk => absurd hk (Nat.not_lt_zero _), fun k _ => rfl, Fr_rf _ _ _⟩
    unfold b_X12_formatShortest_37 b0_X12_formatShortest_37
    simp (disch := omega) only [↓grd_u, ↓bnd_e, ↓orf_u, ↓oif_u, ↓cal_u, ↓calX_u, ↓inrO_u, ↓reduceIte, EM, EMg, EMs, z0, oi, n_inbT, n_cntT, n_ltT, n_ltF, n_leT, n_leF, n_eqT, n_eqF, n_m1T, n_m1F, n_m1F', n_cl, n_add, n_mul, ro_at, ro_ro, up_at, up_up, hv, hl, Nat.add_zero]
  | succ d ih =>
    intro j i L M au f1 f2 hj hl hi hL hd hF
    have lk := gO_lt ok j
    have hv := (f1 j hj).1
    have hv9 := (f1 j hj).2.1
    rw [hF] at hv hv9
    obtain ⟨c, c1, c2, c3, c4, c5⟩ := m_fs48 (n := n) (h := h) (A := A) (R := R) ok au f1 f2 hj hl (by omega) hd hF
    obtain ⟨s1, s2⟩ := gS_ok ok hj c1
    obtain ⟨L, rfl⟩ : ∃ L', L = L' + 1 := ⟨L - 1, by omega⟩
    obtain ⟨M1, hM1⟩ : ∃ M1, M1 = ro (ro M 30 (up (M 30) i (nI (97 + c)))) 0 (up (M 0) 44 (nI (i + 1))) := ⟨_, rfl⟩
    have fr1 : Fr [30] [44] M M1 := by
      rw [hM1]
      refine ⟨fun r h0 hr => ?_, fun k hk => ?_⟩
      · rw [ro_ne _ _ h0, ro_ne _ _ (fun e => hr (by rw [e]; exact List.mem_cons_self))]
      · rw [ro_at, up_ne _ _ (fun e => hk (by rw [e]; exact List.mem_cons_self))]
    rw [← hM1] at c5
    have l1 : M1 0 44 = nI (i + 1) := by rw [hM1, ro_at, up_at]
    have f1' : FaR M1 g F := fun j hj => by rw [fr1.1 23 (by decide) (by decide)]; exact f1 j hj
    rw [← s2] at c2 c3
    obtain ⟨w, M2, w1, w2, w3, w4, w5, w6, w7⟩ := ih (gS g j c) (i + 1) L M1 (AutM_keep au fr1 (by decide)) f1' f2 s1 l1 (by omega) (by omega) c2 c3
    rw [s2] at w1 w3 c2
    have hline : M1 30 = up (M 30) i (nI (97 + c)) := by rw [hM1, ro_ne _ _ (by decide), ro_at]
    refine ⟨c :: w, M2, isB_cons hd c1 w1 c2 c4, by rw [List.length_cons, w2], ?_, by rw [w4, Nat.add_right_comm, Nat.add_assoc], fun k hk => ?_, fun k hk => ?_, Fr_tr fr1 w7⟩
    · rw [lp_nx (s' := (nI (gnext g (gO g j) c), E n h A M1 R)), w3, Nat.add_right_comm, Nat.add_assoc]
      unfold b_X12_formatShortest_37 b0_X12_formatShortest_37
      simp (disch := omega) only [↓grd_u, ↓bnd_e, ↓orf_u, ↓oif_u, ↓cal_u, ↓calX_u, ↓inrO_u, ↓reduceIte, EM, EMg, EMs, z0, oi, n_inbT, n_cntT, n_ltT, n_ltF, n_leT, n_leF, n_eqT, n_eqF, n_m1T, n_m1F, n_m1F', n_cl, n_add, n_mul, ro_at, ro_ro, up_at, up_up, hv, c5]
    · cases k with
      | zero =>
        rw [Nat.add_zero, w6 i (by omega), hline, up_at]
        rfl
      | succ k =>
        rw [show i + (k + 1) = i + 1 + k by omega, w5 k (by omega)]
        rfl
    · rw [w6 k (by omega), hline, up_ne _ _ (by omega)]
noncomputable def aFmt (S : St) (v : Int32) : Nat × Nat × St := match patN S v with
  | some s => (0, (chw (isB (gnext (gluOf (lP (sCur S) s))) (gab (gluOf (lP (sCur S) s))) 128)).length, setL S ((chw (isB (gnext (gluOf (lP (sCur S) s))) (gab (gluOf (lP (sCur S) s))) 128)).map (97 + ·)))
  | none => (1, 0, S)
theorem gD_map {w : List Nat} {k : Nat} (hk : k < w.length) : (w.map (97 + ·)).getD k 0 = 97 + w.getD k 0 := by
  rw [List.getD_eq_getElem?_getD, List.getD_eq_getElem?_getD, List.getElem?_map, List.getElem?_eq_getElem hk]
  rfl
theorem m_formatShortest {v : Int32} (hi : IM M S) (hg : GoodS S) : MA n h A R (f_X12_formatShortest (ma n 0) v (E n h A M R)) (aFmt S v) := by
  have h0 : IM (ro M 0 (up (M 0) 0 (nI 0))) S := IM_thrown hi
  unfold f_X12_formatShortest aFmt
  rcases pat_cases S v with ⟨s, hs, rfl, hp, e⟩ | ⟨e, hc⟩
  · rw [e]
    obtain ⟨M', eo, au, ri, i, t, -⟩ := m_opens (n := n) (h := h) (A := A) (R := R) h0 hg hs hp
    have ok := good_glu hg hs hp
    obtain ⟨M2, F, e2, f1, f2, f3⟩ := m_findsFar (n := n) (h := h) (A := A) (R := R) ok au ri
    obtain ⟨k, hk7, hk⟩ := good_short hg hs hp
    have hD := Fa_D ok f1 f2 (gL_pos _) (by rw [gO_0]; exact hk)
    have h7 := f2 0 0 (gL_pos _)
    obtain ⟨M3, hM3⟩ : ∃ M3, M3 = ro M2 0 (up (M2 0) 44 (nI 0)) := ⟨_, rfl⟩
    have f4 : Fr [] [44] M2 M3 := by rw [hM3]; exact Fr_r0 _ (by decide)
    have au3 := AutM_keep (AutM_keep au f3 (by decide)) f4 (by decide)
    have f1' : FaR M3 (gluOf (lP (sCur S) s)) F := fun j hj => by rw [f4.1 23 (by decide) (by decide)]; exact f1 j hj
    have hF7 : F (gO (gluOf (lP (sCur S) s)) 0) ≤ 7 := by
      have := f2 k 0 (gL_pos _) k (Nat.le_refl _) (by rw [gO_0]; exact hk)
      omega
    obtain ⟨w, M4, w1, w2, w3, w4, w5, -, w7⟩ := m_fs37 (n := n) (h := h) (A := A) (R := R) ok (F (gO (gluOf (lP (sCur S) s)) 0)) 0 0 100000 M3 au3 f1' f2 (gL_pos _) (by rw [hM3, ro_at, up_at]) (by omega) (by omega) hD.1 rfl
    have w3 : g_X12_formatShortest_37 (ma n 0) (nI (gO (gluOf (lP (sCur S) s)) 0)) (E n h A M3 R) = some (nI (0 + F (gO (gluOf (lP (sCur S) s)) 0)), E n h A M4 R) := w3
    rw [gO_0] at w1 w3
    have hc : chw (isB (gnext (gluOf (lP (sCur S) s))) (gab (gluOf (lP (sCur S) s))) 128) = w := chw_u w1 (fun j hj => isB_u hj w1)
    dsimp only
    rw [hc]
    have fr : Fr [23, 30] [44] M' M4 := Fr_tr (Fr_tr (Fr_wk f3 (by decide) (by decide)) (Fr_wk f4 (by decide) (by decide))) (Fr_wk w7 (by decide) (by decide))
    refine ⟨M4, ?_, IM_L i fr (by decide) (by decide) ?_ (fun k hk => ?_), by rw [fr.2 _ (by decide), t, ro_at, up_at]⟩
    · simp (disch := omega) only [↓grd_u, ↓bnd_e, ↓orf_u, ↓oif_u, ↓cal_u, ↓calX_u, ↓inrO_u, ↓reduceIte, EM, EMg, EMs, z0, oi, n_inbT, n_cntT, n_ltT, n_ltF, n_leT, n_leF, n_eqT, n_eqF, n_m1T, n_m1F, n_m1F', n_cl, n_add, n_mul, ro_at, ro_ro, up_at, up_up, holdsT h0 hg hs hp]
      simp (disch := omega) only [↓grd_u, ↓bnd_e, ↓orf_u, ↓oif_u, ↓cal_u, ↓calX_u, ↓inrO_u, ↓reduceIte, EM, EMg, EMs, z0, oi, n_inbT, n_cntT, n_ltT, n_ltF, n_leT, n_leF, n_eqT, n_eqF, n_m1T, n_m1F, n_m1F', n_cl, n_add, n_mul, ro_at, ro_ro, up_at, up_up, eo]
      simp (disch := omega) only [↓grd_u, ↓bnd_e, ↓orf_u, ↓oif_u, ↓cal_u, ↓calX_u, ↓inrO_u, ↓reduceIte, EM, EMg, EMs, z0, oi, n_inbT, n_cntT, n_ltT, n_ltF, n_leT, n_leF, n_eqT, n_eqF, n_m1T, n_m1F, n_m1F', n_cl, n_add, n_mul, ro_at, ro_ro, up_at, up_up, e2]
      rw [← hM3, w3, w2, Nat.zero_add, gO_0]
    · rw [w4, List.length_map, w2, Nat.zero_add]
    · rw [List.length_map] at hk
      have := w5 k (by omega)
      rw [Nat.zero_add] at this
      rw [this, gD_map hk]
  · have hh := m_holdsX (n := n) (h := h) (A := A) (R := R) h0 e hc
    rw [e]
    obtain ⟨M', e, i, t⟩ := m_failed (n := n) (h := h) (A := A) (R := R) (k := 1) h0
    refine ⟨M', ?_, i, t⟩
    simp (disch := omega) only [↓grd_u, ↓bnd_e, ↓orf_u, ↓oif_u, ↓cal_u, ↓calX_u, ↓inrO_u, ↓reduceIte, EM, EMg, EMs, z0, oi, n_inbT, n_cntT, n_ltT, n_ltF, n_leT, n_leF, n_eqT, n_eqF, n_m1T, n_m1F, n_m1F', n_cl, n_add, n_mul, ro_at, ro_ro, up_at, up_up, hh]
    simp (disch := omega) only [↓grd_u, ↓bnd_e, ↓orf_u, ↓oif_u, ↓cal_u, ↓calX_u, ↓inrO_u, ↓reduceIte, EM, EMg, EMs, z0, oi, n_inbT, n_cntT, n_ltT, n_ltF, n_leT, n_leF, n_eqT, n_eqF, n_m1T, n_m1F, n_m1F', n_cl, n_add, n_mul, ro_at, ro_ro, up_at, up_up, e]
end MSHORT
