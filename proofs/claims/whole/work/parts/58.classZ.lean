/-! the class's changes -/
def Out (n : Nat) (h : mH) (A M : Nat → Nat → Int32) (R : Nat → Nat → Option Nat) (S : St) (x : Option (Int32 × mH)) (ex : Nat → String) (q : Nat × Nat × St) : Prop := ∃ k h' A' R', x = some (k, E n h' A' M R') ∧ MonoS n h h' ∧ Kp A A' R R' ∧ (∀ r, 7 ≤ r → r < 36 → A' r = A r ∧ R' r = R r) ∧ ((q.1 ≠ 0 ∧ (∀ g, f_X11_finishChange (ca n 0) k g = some (.inr (ex q.1), g)) ∧ A' = A ∧ R' = R ∧ q.2.2 = S) ∨ (q.1 = 0 ∧ k = nI q.2.1 ∧ q.2.1 < 1000 ∧ ∃ L, ShOK n h' A' R' 1 L ∧ q.2.2 = remember S L))
section CLASSZ
variable {n : Nat} {h : mH} {A M : Nat → Nat → Int32} {R : Nat → Nat → Option Nat} {S : St}
theorem n_negs {a : Nat} (ha : a < 2147483648) : (nI a = Int32.ofInt (-1)) = False ∧ (nI a = Int32.ofInt (-2)) = False ∧ (nI a = Int32.ofInt (-3)) = False ∧ (nI a = Int32.ofInt (-4)) = False ∧ (nI a = Int32.ofInt (-5)) = False ∧ (nI a = Int32.ofInt (-6)) = False := by
  have key : ∀ z : Int32, z.toInt < 0 → (nI a = z) = False := fun z hz => eq_false fun e => by
    rw [← e, nI_toInt ha] at hz
    omega
  exact ⟨key _ (by decide +kernel), key _ (by decide +kernel), key _ (by decide +kernel), key _ (by decide +kernel), key _ (by decide +kernel), key _ (by decide +kernel)⟩
theorem c_prep (hi : IC n h A R S) : ∃ A1 R1 f, f_X1_prepare (ca n 7) (ca n 1) (E n h A M R) = some ((), E n h A1 M R1) ∧ IC n h A1 R1 S ∧ Hist n h A1 R1 f (sUndo S) ∧ ShOK n h A1 R1 (9 + 3 * f) (sCur S) := by
  obtain ⟨f, hf⟩ := hi.2.2.1
  have p := prep_OK hf hi.2.1
  exact ⟨_, _, f, c_prepare hf hi.2.1, IC_set hi (MonoS_rf n h) (Kp_prep hf.1) p.2.2 p.1 rfl, p.1, p.2.1⟩
theorem c_fin {x : Option (Int32 × mH)} {ex : Nat → String} {q : Nat × Nat × St} {f : Nat} (hi : IC n h A R S) (hh : Hist n h A R f (sUndo S)) (hs : ShOK n h A R (9 + 3 * f) (sCur S)) (ho : Out n h A M R S x ex q) : ∃ k g A2 R2 A3, x = some (k, E n g A2 M R2) ∧ IC n g A3 R2 q.2.2 ∧ ((q.1 = 0 ∧ f_X11_finishChange (ca n 0) k (E n g A2 M R2) = some (.inl (nI q.2.1), E n g A3 M R2)) ∨ (q.1 ≠ 0 ∧ f_X11_finishChange (ca n 0) k (E n g A2 M R2) = some (.inr (ex q.1), E n g A3 M R2))) := by
  obtain ⟨k, g, A2, R2, e, m, kp, fr, hc⟩ := ho
  rcases hc with ⟨h0, hf, rfl, rfl, hq⟩ | ⟨h0, hk, hq, L, hL, hr⟩
  · exact ⟨k, g, _, _, _, e, IC_set hi m kp (by rw [hq]; exact ShOK_mono hi.2.1 (MonoS_w m)) (by rw [hq]; exact Hist_mono hh (MonoS_w m)) (by rw [hq]), Or.inr ⟨h0, hf _⟩⟩
  · have hh2 : Hist n g A2 R2 f (sUndo S) := Hist_fr (Hist_mono hh (MonoS_w m)) (fun r h1 h2 => (fr r h1 h2).1) (fun r h1 h2 => (fr r h1 h2).2)
    have hs2 : ShOK n g A2 R2 (9 + 3 * f) (sCur S) := by
      have := hh.1
      exact ShOK_rows (ShOK_mono hs (MonoS_w m)) (fr _ (by omega) (by omega)).1 (fr _ (by omega) (by omega)).2 (fr _ (by omega) (by omega)).2
    refine ⟨k, g, A2, R2, kpA A2 ((f + 1) % 9) (min 8 ((sUndo S).length + 1)), e, ?_, Or.inl ⟨h0, ?_⟩⟩
    · refine IC_set (f := (f + 1) % 9) hi m (Kp_tr kp Kp_keep) ?_ ?_ (by rw [hr]; rfl)
      · rw [hr]
        exact ShOK_rows hL (by unfold kpA; exact ro_ne _ _ (by decide)) rfl rfl
      · rw [hr]
        exact keep_OK hh2 hs2
    · have nn := n_negs (a := q.2.1) (by omega)
      have hkeep := c_keep (M := M) hh2
      rw [hk]
      unfold f_X11_finishChange
      simp (disch := omega) only [↓grd_u, ↓bnd_e, ↓orf_u, ↓oif_u, ↓cal_u, ↓calX_u, ↓inrO_u, ↓reduceIte, EM, EMg, EMs, z0, oi, n_inbT, n_cntT, n_ltT, n_ltF, n_leT, n_leF, n_eqT, n_eqF, n_m1T, n_m1F, n_m1F', n_cl, n_add, n_mul, ro_at, ro_ro, up_at, up_up, EC, nn, hkeep]
theorem c_change {x : Option (Int32 × mH)} {ex : Nat → String} {q : Nat × Nat × St} {f : Nat} {y : Option ((Int32 ⊕ String) × mH)} (hi : IC n h A R S) (hh : Hist n h A R f (sUndo S)) (hs : ShOK n h A R (9 + 3 * f) (sCur S)) (ho : Out n h A M R S x ex q) (hy : ∀ k g r, x = some (k, g) → f_X11_finishChange (ca n 0) k g = some r → y = some r) : CA n M y ex q := by
  obtain ⟨k, g, A2, R2, A3, e, ic, hc⟩ := c_fin hi hh hs ho
  rcases hc with ⟨h0, hf⟩ | ⟨h0, hf⟩
  · exact ⟨g, A3, R2, by rw [hy _ _ _ e hf, if_pos h0], ic⟩
  · exact ⟨g, A3, R2, by rw [hy _ _ _ e hf, if_neg h0], ic⟩
theorem fin_S1 (g : mH) : f_X11_finishChange (ca n 0) (Int32.ofInt (-1)) g = some (.inr (exS 1), g) := by
  unfold f_X11_finishChange
  rw [if_neg (by decide +kernel), if_neg (by decide +kernel), if_neg (by decide +kernel), if_neg (by decide +kernel), if_neg (by decide +kernel), if_pos rfl]
  rfl
theorem fin_S2 (g : mH) : f_X11_finishChange (ca n 0) (Int32.ofInt (-2)) g = some (.inr (exS 2), g) := by
  unfold f_X11_finishChange
  rw [if_neg (by decide +kernel), if_neg (by decide +kernel), if_neg (by decide +kernel), if_neg (by decide +kernel), if_pos rfl]
  rfl
theorem fin_S3 (g : mH) : f_X11_finishChange (ca n 0) (Int32.ofInt (-3)) g = some (.inr (exS 3), g) := by
  unfold f_X11_finishChange
  rw [if_neg (by decide +kernel), if_neg (by decide +kernel), if_neg (by decide +kernel), if_pos rfl]
  rfl
theorem fin_S6 (g : mH) : f_X11_finishChange (ca n 0) (Int32.ofInt (-6)) g = some (.inr (exS 1), g) := by
  unfold f_X11_finishChange
  rw [if_pos rfl]
  rfl
theorem Kp_rf (A : Nat → Nat → Int32) (R : Nat → Nat → Option Nat) : Kp A A R R := ⟨rfl, fun _ _ => rfl, fun _ _ => rfl, fun _ _ _ => ⟨rfl, rfl⟩⟩
theorem Out_no {x : Option (Int32 × mH)} {ex : Nat → String} {e : Nat} {k : Int32} (he : e ≠ 0) (hx : x = some (k, E n h A M R)) (hf : ∀ g, f_X11_finishChange (ca n 0) k g = some (.inr (ex e), g)) : Out n h A M R S x ex (e, 0, S) := ⟨k, h, A, R, hx, MonoS_rf n h, Kp_rf A R, fun _ _ _ => ⟨rfl, rfl⟩, Or.inl ⟨he, hf, rfl, rfl, rfl⟩⟩
theorem c_put {g : mH} {a s : Nat} {p : List Nat} (hi : IC n h A R S) (m : MonoS n h g) (h6 : s < 6) (hp : Pat n g a p) (hne : p ≠ []) (hl : p.length ≤ 255) : Out n h A M R S (f_X6_put (ca n 1) (nI s) a (E n g A M R)) exS (laid S s p) := by
  unfold laid
  by_cases ht : 7 < nLet p ∨ 9 < nSig p
  · rw [if_pos ht]
    exact ⟨_, g, A, R, c_putL h6 hp hl (by omega), m, Kp_rf A R, fun _ _ _ => ⟨rfl, rfl⟩, Or.inl ⟨Nat.succ_ne_zero 2, fin_S3, rfl, rfl, rfl⟩⟩
  · rw [if_neg ht]
    exact ⟨_, g, _, _, c_putT bSh_1 h6 hp hl (by omega), m, Kp_put, fun r h1 h2 => ⟨by unfold ptA; exact ro_ne _ _ (by omega), by unfold ptR; exact ro_ne _ _ (by omega)⟩, Or.inr ⟨rfl, rfl, by show nLet p < 1000; have := nLet_le p; omega, _, pt_OK h6 (ShOK_mono hi.2.1 (MonoS_w m)) hp hne, rfl⟩⟩
theorem c_pj {v a b : Int32} {o : Nat} (hi : IC n h A R S) (hg : GoodS S) (ho : o = 4 ∨ o = 5) : Out n h A M R S (f_X6_putJoined (ca n 1) v a b (nI (chC o)) (E n h A M R)) exS (aTwo S (slN v) (slN a) (slN b) o) := by
  have e1 := ESh bSh_1
  have e1r := EShr bSh_1
  rcases slot_cases v with ⟨v, hv, rfl⟩ | hv
  · rcases slot_cases a with ⟨a, ha, rfl⟩ | ha
    · rcases slot_cases b with ⟨b, hb, rfl⟩ | hb
      · rw [slN_T hv, slN_T ha, slN_T hb]
        unfold aTwo
        show Out n h A M R S _ exS (if lP (sCur S) a = [] ∨ lP (sCur S) b = [] then (2, 0, S) else _)
        by_cases ea : lP (sCur S) a = []
        · rw [if_pos (Or.inl ea)]
          have k1 := ShOK_no hi.2.1 ha ea
          refine Out_no (by decide) ?_ fin_S2
          unfold f_X6_putJoined g_X6_putJoined_49
          simp (disch := omega) only [↓grd_u, ↓bnd_e, ↓orf_u, ↓oif_u, ↓cal_u, ↓calX_u, ↓inrO_u, ↓reduceIte, EM, EMg, EMs, z0, oi, n_inbT, n_cntT, n_ltT, n_ltF, n_leT, n_leF, n_eqT, n_eqF, n_m1T, n_m1F, n_m1F', n_cl, n_add, n_mul, ro_at, ro_ro, up_at, up_up, c_isSlotT, e1, e1r, k1]
        · obtain ⟨x, k1, p1⟩ := ShOK_so hi.2.1 ha ea
          by_cases eb : lP (sCur S) b = []
          · rw [if_pos (Or.inr eb)]
            have k2 := ShOK_no hi.2.1 hb eb
            refine Out_no (by decide) ?_ fin_S2
            unfold f_X6_putJoined g_X6_putJoined_49
            simp (disch := omega) only [↓grd_u, ↓bnd_e, ↓orf_u, ↓oif_u, ↓cal_u, ↓calX_u, ↓inrO_u, ↓reduceIte, EM, EMg, EMs, z0, oi, n_inbT, n_cntT, n_ltT, n_ltF, n_leT, n_leF, n_eqT, n_eqF, n_m1T, n_m1F, n_m1F', n_cl, n_add, n_mul, ro_at, ro_ro, up_at, up_up, c_isSlotT, e1, e1r, k1, k2]
          · rw [if_neg (fun q => q.elim ea eb)]
            obtain ⟨y, k2, p2⟩ := ShOK_so hi.2.1 hb eb
            have ga := hg.1.1 a ha
            have gb := hg.1.1 b hb
            have la := GoodP_len ga
            have lb := GoodP_len gb
            obtain ⟨z, g, ej, m, pz⟩ := c_joined (A := A) (M := M) (R := R) (o := o) hi.1.1 p1 p2 (okP_good ga) (okP_good gb) (by omega) (by omega)
            have hp := c_put (M := M) hi m hv pz (by simp) (by simp; omega)
            obtain ⟨k, g', A', R', ep, rest⟩ := hp
            refine ⟨k, g', A', R', ?_, rest⟩
            unfold f_X6_putJoined
            simp (disch := omega) only [↓grd_u, ↓bnd_e, ↓orf_u, ↓oif_u, ↓cal_u, ↓calX_u, ↓inrO_u, ↓reduceIte, EM, EMg, EMs, z0, oi, n_inbT, n_cntT, n_ltT, n_ltF, n_leT, n_leF, n_eqT, n_eqF, n_m1T, n_m1F, n_m1F', n_cl, n_add, n_mul, ro_at, ro_ro, up_at, up_up, c_isSlotT, e1, e1r, k1, k2, ej, ep]
      · rw [slN_F hb]
        have hz : aTwo S (slN (nI v)) (slN (nI a)) none o = (1, 0, S) := by rw [slN_T hv, slN_T ha]; rfl
        rw [hz]
        refine Out_no (by decide) ?_ fin_S1
        unfold f_X6_putJoined g_X6_putJoined_21
        simp (disch := omega) only [↓grd_u, ↓bnd_e, ↓orf_u, ↓oif_u, ↓cal_u, ↓calX_u, ↓inrO_u, ↓reduceIte, EM, EMg, EMs, z0, oi, n_inbT, n_cntT, n_ltT, n_ltF, n_leT, n_leF, n_eqT, n_eqF, n_m1T, n_m1F, n_m1F', n_cl, n_add, n_mul, ro_at, ro_ro, up_at, up_up, c_isSlotT, c_isSlotF hb]
    · rw [slN_F ha]
      have hz : aTwo S (slN (nI v)) none (slN b) o = (1, 0, S) := by rw [slN_T hv]; rfl
      rw [hz]
      refine Out_no (by decide) ?_ fin_S1
      unfold f_X6_putJoined g_X6_putJoined_21
      simp (disch := omega) only [↓grd_u, ↓bnd_e, ↓orf_u, ↓oif_u, ↓cal_u, ↓calX_u, ↓inrO_u, ↓reduceIte, EM, EMg, EMs, z0, oi, n_inbT, n_cntT, n_ltT, n_ltF, n_leT, n_leF, n_eqT, n_eqF, n_m1T, n_m1F, n_m1F', n_cl, n_add, n_mul, ro_at, ro_ro, up_at, up_up, c_isSlotT, c_isSlotF ha]
  · rw [slN_F hv]
    have hz : aTwo S none (slN a) (slN b) o = (1, 0, S) := rfl
    rw [hz]
    refine Out_no (by decide) ?_ fin_S1
    unfold f_X6_putJoined g_X6_putJoined_21
    simp (disch := omega) only [↓grd_u, ↓bnd_e, ↓orf_u, ↓oif_u, ↓cal_u, ↓calX_u, ↓inrO_u, ↓reduceIte, EM, EMg, EMs, z0, oi, n_inbT, n_cntT, n_ltT, n_ltF, n_leT, n_leF, n_eqT, n_eqF, n_m1T, n_m1F, n_m1F', n_cl, n_add, n_mul, ro_at, ro_ro, up_at, up_up, c_isSlotF hv]
theorem c_unite {v a b : Int32} (hi : IC n h A R S) (hg : GoodS S) : CA n M (f_X11_unite (ca n 0) v a b (E n h A M R)) exS (aTwo S (slN v) (slN a) (slN b) 5) := by
  obtain ⟨A1, R1, f, ep, i1, hh, hs⟩ := c_prep (M := M) hi
  refine c_change i1 hh hs (c_pj (v := v) (a := a) (b := b) (o := 5) i1 hg (Or.inr rfl)) (fun k g r ex ef => ?_)
  rw [show nI (chC 5) = nI 124 from rfl] at ex
  unfold f_X11_unite
  have e1 := ESh bSh_1
  obtain ⟨k0, g', A', R', ex', -⟩ := c_pj (M := M) (v := v) (a := a) (b := b) (o := 5) i1 hg (Or.inr rfl)
  rw [show nI (chC 5) = nI 124 from rfl, ex] at ex'
  cases ex'
  rcases r with ⟨r | r, gr⟩
  · simp (disch := omega) only [↓grd_u, ↓bnd_e, ↓orf_u, ↓oif_u, ↓cal_u, ↓calX_u, ↓inrO_u, ↓reduceIte, EM, EMg, EMs, z0, oi, n_inbT, n_cntT, n_ltT, n_ltF, n_leT, n_leF, n_eqT, n_eqF, n_m1T, n_m1F, n_m1F', n_cl, n_add, n_mul, ro_at, ro_ro, up_at, up_up, EC, e1, ep, ex, ef]
  · simp (disch := omega) only [↓grd_u, ↓bnd_e, ↓orf_u, ↓oif_u, ↓cal_u, ↓calX_u, ↓inrO_u, ↓reduceIte, EM, EMg, EMs, z0, oi, n_inbT, n_cntT, n_ltT, n_ltF, n_leT, n_leF, n_eqT, n_eqF, n_m1T, n_m1F, n_m1F', n_cl, n_add, n_mul, ro_at, ro_ro, up_at, up_up, EC, e1, ep, ex, ef]
theorem c_concatenate {v a b : Int32} (hi : IC n h A R S) (hg : GoodS S) : CA n M (f_X11_concatenate (ca n 0) v a b (E n h A M R)) exS (aTwo S (slN v) (slN a) (slN b) 4) := by
  obtain ⟨A1, R1, f, ep, i1, hh, hs⟩ := c_prep (M := M) hi
  refine c_change i1 hh hs (c_pj (v := v) (a := a) (b := b) (o := 4) i1 hg (Or.inl rfl)) (fun k g r ex ef => ?_)
  rw [show nI (chC 4) = nI 46 from rfl] at ex
  unfold f_X11_concatenate
  have e1 := ESh bSh_1
  obtain ⟨k0, g', A', R', ex', -⟩ := c_pj (M := M) (v := v) (a := a) (b := b) (o := 4) i1 hg (Or.inl rfl)
  rw [show nI (chC 4) = nI 46 from rfl, ex] at ex'
  cases ex'
  rcases r with ⟨r | r, gr⟩
  · simp (disch := omega) only [↓grd_u, ↓bnd_e, ↓orf_u, ↓oif_u, ↓cal_u, ↓calX_u, ↓inrO_u, ↓reduceIte, EM, EMg, EMs, z0, oi, n_inbT, n_cntT, n_ltT, n_ltF, n_leT, n_leF, n_eqT, n_eqF, n_m1T, n_m1F, n_m1F', n_cl, n_add, n_mul, ro_at, ro_ro, up_at, up_up, EC, e1, ep, ex, ef]
  · simp (disch := omega) only [↓grd_u, ↓bnd_e, ↓orf_u, ↓oif_u, ↓cal_u, ↓calX_u, ↓inrO_u, ↓reduceIte, EM, EMg, EMs, z0, oi, n_inbT, n_cntT, n_ltT, n_ltF, n_leT, n_leF, n_eqT, n_eqF, n_m1T, n_m1F, n_m1F', n_cl, n_add, n_mul, ro_at, ro_ro, up_at, up_up, EC, e1, ep, ex, ef]
theorem c_ps {v a : Int32} (hi : IC n h A R S) (hg : GoodS S) : Out n h A M R S (f_X6_putStarred (ca n 1) v a (E n h A M R)) exS (aRep S (slN v) (slN a)) := by
  have e1 := ESh bSh_1
  have e1r := EShr bSh_1
  rcases slot_cases v with ⟨v, hv, rfl⟩ | hv
  · rcases slot_cases a with ⟨a, ha, rfl⟩ | ha
    · rw [slN_T hv, slN_T ha]
      unfold aRep
      show Out n h A M R S _ exS (if lP (sCur S) a = [] then (2, 0, S) else _)
      by_cases ea : lP (sCur S) a = []
      · rw [if_pos ea]
        have k1 := ShOK_no hi.2.1 ha ea
        refine Out_no (by decide) ?_ fin_S2
        unfold f_X6_putStarred g_X6_putStarred_41
        simp (disch := omega) only [↓grd_u, ↓bnd_e, ↓orf_u, ↓oif_u, ↓cal_u, ↓calX_u, ↓inrO_u, ↓reduceIte, EM, EMg, EMs, z0, oi, n_inbT, n_cntT, n_ltT, n_ltF, n_leT, n_leF, n_eqT, n_eqF, n_m1T, n_m1F, n_m1F', n_cl, n_add, n_mul, ro_at, ro_ro, up_at, up_up, c_isSlotT, e1, e1r, k1]
      · obtain ⟨x, k1, p1⟩ := ShOK_so hi.2.1 ha ea
        rw [if_neg ea]
        have ga := hg.1.1 a ha
        have la := GoodP_len ga
        obtain ⟨z, g, ej, m, pz⟩ := c_starred (A := A) (M := M) (R := R) hi.1.1 p1 (okP_good ga) (by omega)
        have hp := c_put (M := M) hi m hv pz (by simp) (by simp; omega)
        obtain ⟨k, g', A', R', ep, rest⟩ := hp
        refine ⟨k, g', A', R', ?_, rest⟩
        unfold f_X6_putStarred g_X6_putStarred_41
        simp (disch := omega) only [↓grd_u, ↓bnd_e, ↓orf_u, ↓oif_u, ↓cal_u, ↓calX_u, ↓inrO_u, ↓reduceIte, EM, EMg, EMs, z0, oi, n_inbT, n_cntT, n_ltT, n_ltF, n_leT, n_leF, n_eqT, n_eqF, n_m1T, n_m1F, n_m1F', n_cl, n_add, n_mul, ro_at, ro_ro, up_at, up_up, c_isSlotT, e1, e1r, k1, ej, ep]
    · rw [slN_F ha]
      have hz : aRep S (slN (nI v)) none = (1, 0, S) := by rw [slN_T hv]; rfl
      rw [hz]
      refine Out_no (by decide) ?_ fin_S1
      unfold f_X6_putStarred g_X6_putStarred_14
      simp (disch := omega) only [↓grd_u, ↓bnd_e, ↓orf_u, ↓oif_u, ↓cal_u, ↓calX_u, ↓inrO_u, ↓reduceIte, EM, EMg, EMs, z0, oi, n_inbT, n_cntT, n_ltT, n_ltF, n_leT, n_leF, n_eqT, n_eqF, n_m1T, n_m1F, n_m1F', n_cl, n_add, n_mul, ro_at, ro_ro, up_at, up_up, c_isSlotT, c_isSlotF ha]
  · rw [slN_F hv]
    have hz : aRep S none (slN a) = (1, 0, S) := rfl
    rw [hz]
    refine Out_no (by decide) ?_ fin_S1
    unfold f_X6_putStarred g_X6_putStarred_14
    simp (disch := omega) only [↓grd_u, ↓bnd_e, ↓orf_u, ↓oif_u, ↓cal_u, ↓calX_u, ↓inrO_u, ↓reduceIte, EM, EMg, EMs, z0, oi, n_inbT, n_cntT, n_ltT, n_ltF, n_leT, n_leF, n_eqT, n_eqF, n_m1T, n_m1F, n_m1F', n_cl, n_add, n_mul, ro_at, ro_ro, up_at, up_up, c_isSlotF hv]
theorem c_repeat {v a : Int32} (hi : IC n h A R S) (hg : GoodS S) : CA n M (f_X11_repeat (ca n 0) v a (E n h A M R)) exS (aRep S (slN v) (slN a)) := by
  obtain ⟨A1, R1, f, ep, i1, hh, hs⟩ := c_prep (M := M) hi
  refine c_change i1 hh hs (c_ps (v := v) (a := a) i1 hg) (fun k g r ex ef => ?_)
  unfold f_X11_repeat
  have e1 := ESh bSh_1
  obtain ⟨k0, g', A', R', ex', -⟩ := c_ps (M := M) (v := v) (a := a) i1 hg
  rw [ex] at ex'
  cases ex'
  rcases r with ⟨r | r, gr⟩
  · simp (disch := omega) only [↓grd_u, ↓bnd_e, ↓orf_u, ↓oif_u, ↓cal_u, ↓calX_u, ↓inrO_u, ↓reduceIte, EM, EMg, EMs, z0, oi, n_inbT, n_cntT, n_ltT, n_ltF, n_leT, n_leF, n_eqT, n_eqF, n_m1T, n_m1F, n_m1F', n_cl, n_add, n_mul, ro_at, ro_ro, up_at, up_up, EC, e1, ep, ex, ef]
  · simp (disch := omega) only [↓grd_u, ↓bnd_e, ↓orf_u, ↓oif_u, ↓cal_u, ↓calX_u, ↓inrO_u, ↓reduceIte, EM, EMg, EMs, z0, oi, n_inbT, n_cntT, n_ltT, n_ltF, n_leT, n_leF, n_eqT, n_eqF, n_m1T, n_m1F, n_m1F', n_cl, n_add, n_mul, ro_at, ro_ro, up_at, up_up, EC, e1, ep, ex, ef]
theorem nPat_le (L : Lib) : nPat L ≤ 6 := by
  unfold nPat
  have := List.length_filter_le (fun q => decide (lP L q ≠ [])) (List.range 6)
  rw [List.length_range] at this
  exact this
theorem c_fr {v : Int32} (hi : IC n h A R S) : Out n h A M R S (f_X6_free (ca n 1) v (E n h A M R)) exS (aRem S (slN v)) := by
  rcases slot_cases v with ⟨v, hv, rfl⟩ | hv
  · rw [slN_T hv]
    unfold aRem
    show Out n h A M R S _ exS (if lP (sCur S) v = [] then (2, 0, S) else _)
    by_cases ea : lP (sCur S) v = []
    · rw [if_pos ea]
      exact Out_no (by decide) (c_freeE bSh_1 hv hi.2.1 ea) fin_S2
    · rw [if_neg ea]
      exact ⟨_, h, _, _, c_freeT bSh_1 hv hi.2.1 ea, MonoS_rf n h, Kp_free, fun r h1 h2 => ⟨rfl, by unfold ptR; exact ro_ne _ _ (by omega)⟩, Or.inr ⟨rfl, rfl, by show nPat _ < 1000; have := nPat_le (freeP (sCur S) v); omega, _, fr_OK hv hi.2.1, rfl⟩⟩
  · rw [slN_F hv]
    exact Out_no (by decide) (c_freeF hv) fin_S1
theorem c_remove {v : Int32} (hi : IC n h A R S) : CA n M (f_X11_remove (ca n 0) v (E n h A M R)) exS (aRem S (slN v)) := by
  obtain ⟨A1, R1, f, ep, i1, hh, hs⟩ := c_prep (M := M) hi
  refine c_change i1 hh hs (c_fr (v := v) i1) (fun k g r ex ef => ?_)
  unfold f_X11_remove
  have e1 := ESh bSh_1
  obtain ⟨k0, g', A', R', ex', -⟩ := c_fr (M := M) (v := v) i1
  rw [ex] at ex'
  cases ex'
  rcases r with ⟨r | r, gr⟩
  · simp (disch := omega) only [↓grd_u, ↓bnd_e, ↓orf_u, ↓oif_u, ↓cal_u, ↓calX_u, ↓inrO_u, ↓reduceIte, EM, EMg, EMs, z0, oi, n_inbT, n_cntT, n_ltT, n_ltF, n_leT, n_leF, n_eqT, n_eqF, n_m1T, n_m1F, n_m1F', n_cl, n_add, n_mul, ro_at, ro_ro, up_at, up_up, EC, e1, ep, ex, ef]
  · simp (disch := omega) only [↓grd_u, ↓bnd_e, ↓orf_u, ↓oif_u, ↓cal_u, ↓calX_u, ↓inrO_u, ↓reduceIte, EM, EMg, EMs, z0, oi, n_inbT, n_cntT, n_ltT, n_ltF, n_leT, n_leF, n_eqT, n_eqF, n_m1T, n_m1F, n_m1F', n_cl, n_add, n_mul, ro_at, ro_ro, up_at, up_up, EC, e1, ep, ex, ef]
end CLASSZ
