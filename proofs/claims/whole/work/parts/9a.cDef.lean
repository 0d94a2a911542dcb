/-! the class: define -/
def exD : Nat → String := fun e => if e = 1 then "java/lang/IndexOutOfBoundsException" else if e = 2 then "java/lang/IllegalArgumentException" else "java/lang/IllegalStateException"
section CDEF
variable {n : Nat} {h : mH} {A M : Nat → Nat → Int32} {R : Nat → Nat → Option Nat} {S : St} {T : List Nat}
/-- rows 36 (but its size), 38 to 41 don't hold the state -/
theorem IC_nt {h' : mH} {A' : Nat → Nat → Int32} (hi : IC n h A R S) (hm : MonoS n h h') (h0 : ∀ r, r < 44 → r ≠ 36 → r ≠ 38 → r ≠ 39 → r ≠ 40 → r ≠ 41 → A' r = A r) (h2 : A' 36 2 = A 36 2) : IC n h' A' R S := by
  have ht := hi.2.2.2.2.1
  have e : IC n h' (ro A' 36 (A 36)) R S := by
    have hk : ∀ r, r < 36 → (ro A' 36 (A 36)) r = A r := fun r hr => by
      rw [ro_ne _ _ (by omega)]
      exact h0 r (by omega) (by omega) (by omega) (by omega) (by omega) (by omega)
    obtain ⟨a0, a1, ⟨f, a2⟩, a3, a4, a5, a6, a7⟩ := hi
    refine ⟨NX_mono a0 (MonoS_w hm), ShOK_mono (ShOK_rows a1 (hk 1 (by decide)) rfl rfl) (MonoS_w hm), ⟨f, Hist_mono (Hist_fr a2 (fun r h1 h2 => hk r (by omega)) (fun r _ _ => rfl)) (MonoS_w hm)⟩, ?_, ?_, ?_, ?_, ?_⟩
    · rw [hk 0 (by decide)]
      cases e : sSaved S with
      | none => rw [e] at a3; exact a3
      | some L =>
        rw [e] at a3
        exact ⟨a3.1, ShOK_mono (ShOK_rows a3.2 (hk 4 (by decide)) rfl rfl) (MonoS_w hm)⟩
    · rw [ro_at, ro_ne _ _ (by decide), h0 37 (by decide) (by decide) (by decide) (by decide) (by decide) (by decide)]; exact a4
    · rw [hk 0 (by decide)]; exact a5
    · rw [hk 0 (by decide)]; exact a6
    · refine Line_mono a7 hm ?_ ?_ rfl
      · rw [ro_ne _ _ (by decide), h0 42 (by decide) (by decide) (by decide) (by decide) (by decide) (by decide)]
      · rw [ro_ne _ _ (by decide), h0 43 (by decide) (by decide) (by decide) (by decide) (by decide) (by decide)]
  have e2 : S = setText S (sText S) := rfl
  rw [e2]
  refine IC_txt e (fun r h1 h2 => (ro_ne _ _ h1).symm) ⟨by rw [h2]; exact ht.1, fun k hk => ?_⟩
  rw [h0 37 (by decide) (by decide) (by decide) (by decide) (by decide) (by decide)]
  exact ht.2 k hk
theorem IC_cerr {e : Nat} (hi : IC n h A R S) : IC n h (ro A 0 (up (A 0) 15 (nI e))) R (setErr S e) := by
  obtain ⟨a0, a1, ⟨f, a2⟩, a3, a4, a5, a6, a7⟩ := hi
  refine ⟨a0, ShOK_rows a1 (ro_ne _ _ (by decide)) rfl rfl, ⟨f, Hist_fr a2 (fun r h1 h2 => ro_ne _ _ (by omega)) (fun r _ _ => rfl)⟩, ?_, ?_, ?_, ?_, ?_⟩
  · show match sSaved S with | none => (ro A 0 (up (A 0) 15 (nI e))) 0 14 = nI 0 | some L => (ro A 0 (up (A 0) 15 (nI e))) 0 14 = nI 1 ∧ ShOK n h (ro A 0 (up (A 0) 15 (nI e))) R 4 L
    rw [ro_at, up_ne _ _ (by decide)]
    cases e : sSaved S with
    | none => rw [e] at a3; exact a3
    | some L =>
      rw [e] at a3
      exact ⟨a3.1, ShOK_rows a3.2 (ro_ne _ _ (by decide)) rfl rfl⟩
  · rw [ro_ne _ _ (by decide), ro_ne _ _ (by decide)]; exact a4
  · rw [ro_at, up_at]; rfl
  · rw [ro_at, up_ne _ _ (by decide)]; exact a6
  · exact Line_mono a7 (MonoS_rf n h) (ro_ne _ _ (by decide)) (ro_ne _ _ (by decide)) rfl
theorem c_prep2 (hi : IC n h A R S) : ∃ A1 R1 f, f_X1_prepare (ca n 7) (ca n 1) (E n h A M R) = some ((), E n h A1 M R1) ∧ IC n h A1 R1 S ∧ Hist n h A1 R1 f (sUndo S) ∧ ShOK n h A1 R1 (9 + 3 * f) (sCur S) ∧ Kp A A1 R R1 := by
  obtain ⟨f, hf⟩ := hi.2.2.1
  have p := prep_OK hf hi.2.1
  exact ⟨_, _, f, c_prepare hf hi.2.1, IC_set hi (MonoS_rf n h) (Kp_prep hf.1) p.2.2 p.1 rfl, p.1, p.2.1, Kp_prep hf.1⟩
theorem c_pos36 {k : Nat} (hk : A 36 3 = nI k) : f_X9_position (ca n 36) (E n h A M R) = some (nI k, E n h A M R) := by
  unfold f_X9_position
  simp (disch := omega) only [↓grd_u, ↓bnd_e, ↓orf_u, ↓oif_u, ↓cal_u, ↓calX_u, ↓inrO_u, ↓reduceIte, EM, EMg, EMs, z0, oi, n_inbT, n_cntT, n_ltT, n_ltF, n_leT, n_leF, n_eqT, n_eqF, n_m1T, n_m1F, n_m1F', n_cl, n_add, n_mul, ro_at, ro_ro, up_at, up_up, EC, ECg, hk]
theorem c_readWhole (t : TX A T) : ∃ A1, f_X9_readWholePattern (ca n 36) (E n h A M R) = some (nI (b1 (pOk T)), E n h A1 M R) ∧ (∀ r, r ≠ 36 → A1 r = A r) ∧ A1 36 2 = A 36 2 ∧ A1 36 3 = nI (pR T 0).1 ∧ A1 36 5 = nI 0 ∧ A1 36 6 = nI (pR T 0).1 := by
  have t60 := t.2.1
  have t1 := t.1
  obtain ⟨A0, hA0⟩ : ∃ A0, A0 = ro A 36 (up (A 36) 3 (nI 0)) := ⟨_, rfl⟩
  have e := c_readPattern (n := n) (h := h) (A := A0) (M := M) (R := R) (T := T) (i := 0) (TX_A t (by rw [hA0, ro_at, up_ne _ _ (by decide)]) (by rw [hA0, ro_ne _ _ (by decide)])) (by rw [hA0, ro_at, up_at]) (Nat.zero_le _)
  rw [Nat.zero_add] at e
  obtain ⟨A1, hA1⟩ : ∃ A1, A1 = ro A0 36 (up (up (up (A0 36) 5 (nI 0)) 3 (nI (pR T 0).1)) 6 (nI (pR T 0).1)) := ⟨_, rfl⟩
  rw [← hA1] at e
  have v2 : A1 36 2 = A 36 2 := by rw [hA1, ro_at, up_ne _ _ (by decide), up_ne _ _ (by decide), up_ne _ _ (by decide), hA0, ro_at, up_ne _ _ (by decide)]
  have v3 : A1 36 3 = nI (pR T 0).1 := by rw [hA1, ro_at, up_ne _ _ (by decide), up_at]
  have hle := (pR_ok T 0).2.2
  refine ⟨A1, ?_, fun r hr => by rw [hA1, ro_ne _ _ hr, hA0, ro_ne _ _ hr], v2, v3, by rw [hA1, ro_at, up_ne _ _ (by decide), up_ne _ _ (by decide), up_at], by rw [hA1, ro_at, up_at]⟩
  have v2' : A1 36 2 = nI T.length := by rw [v2]; exact t1
  unfold f_X9_readWholePattern f_X9_rewind g_X9_readWholePattern_26 g_X9_readWholePattern_27
  by_cases ok : rdOk (pR T 0).2
  · rw [show b1 (rdOk (pR T 0).2) = 1 from if_pos ok] at e
    by_cases al : (pR T 0).1 = T.length
    · rw [show b1 (pOk T) = 1 from if_pos ⟨ok, al⟩]
      rw [al] at v3
      simp (disch := omega) only [↓grd_u, ↓bnd_e, ↓orf_u, ↓oif_u, ↓cal_u, ↓calX_u, ↓inrO_u, ↓reduceIte, EM, EMg, EMs, z0, oi, n_inbT, n_cntT, n_ltT, n_ltF, n_leT, n_leF, n_eqT, n_eqF, n_m1T, n_m1F, n_m1F', n_cl, n_add, n_mul, ro_at, ro_ro, up_at, up_up, EC, ECg, ECs, ← hA0, e, v2', v3, nz1]
    · rw [show b1 (pOk T) = 0 from if_neg (fun z => al z.2)]
      simp (disch := omega) only [↓grd_u, ↓bnd_e, ↓orf_u, ↓oif_u, ↓cal_u, ↓calX_u, ↓inrO_u, ↓reduceIte, EM, EMg, EMs, z0, oi, n_inbT, n_cntT, n_ltT, n_ltF, n_leT, n_leF, n_eqT, n_eqF, n_m1T, n_m1F, n_m1F', n_cl, n_add, n_mul, ro_at, ro_ro, up_at, up_up, EC, ECg, ECs, ← hA0, e, v2', v3, nz0]
  · rw [show b1 (rdOk (pR T 0).2) = 0 from if_neg ok] at e
    rw [show b1 (pOk T) = 0 from if_neg (fun z => ok z.1)]
    simp (disch := omega) only [↓grd_u, ↓bnd_e, ↓orf_u, ↓oif_u, ↓cal_u, ↓calX_u, ↓inrO_u, ↓reduceIte, EM, EMg, EMs, z0, oi, n_inbT, n_cntT, n_ltT, n_ltF, n_leT, n_leF, n_eqT, n_eqF, n_m1T, n_m1F, n_m1F', n_cl, n_add, n_mul, ro_at, ro_ro, up_at, up_up, EC, ECg, ECs, ← hA0, e, nz0]
theorem Out_exD {x : Option (Int32 × mH)} {s : Nat} {p : List Nat} (o : Out n h A M R S x exS (laid S s p)) : Out n h A M R S x exD (laid S s p) := by
  obtain ⟨k, h', A', R', e, m, kp, fr, hc⟩ := o
  refine ⟨k, h', A', R', e, m, kp, fr, ?_⟩
  rcases hc with ⟨h0, hf, r⟩ | z
  · refine Or.inl ⟨h0, fun g => ?_, r⟩
    rw [hf g]
    unfold laid at h0 ⊢
    by_cases q : 7 < nLet p ∨ 9 < nSig p
    · rw [if_pos q]; rfl
    · rw [if_neg q] at h0
      exact absurd rfl h0
  · exact Or.inr z
theorem c_define {v : Int32} (hi : IC n h A R S) (hg : GoodS S) : CA n M (f_X11_define (ca n 0) v (E n h A M R)) exD (aDef S v) := by
  have e1 := ESh bSh_1
  unfold aDef
  rcases slot_cases v with ⟨s, hs, rfl⟩ | hv
  · rw [slN_T hs]
    dsimp only
    have ht := IC_TX hi hg
    obtain ⟨A1, er, f1, v2, v3, v5, v6⟩ := c_readWhole (n := n) (h := h) (M := M) (R := R) ht
    have i1 : IC n h A1 R S := IC_nt hi (MonoS_rf n h) (fun r _ h36 _ _ _ _ => f1 r h36) v2
    by_cases ok : pOk (sText S)
    · rw [if_pos ok]
      rw [show b1 (pOk (sText S)) = 1 from if_pos ok] at er
      obtain ⟨A2, R2, f, ep, i2, hh, hsh, kp⟩ := c_prep2 (M := M) i1
      have ht2 := IC_TX i2 hg
      have k36 := kp.2.1 36 (by decide)
      obtain ⟨A3, g, x, ec, m, px, f3⟩ := c_read (n := n) (h := h) (A := A2) (M := M) (R := R2) (T := sText S) (i := 0) i2.1.1 ht2 (Nat.zero_le _) (by rw [k36]; exact v5) (by rw [k36, Nat.zero_add]; exact v6) ok.1
      have i3 : IC n g A3 R2 S := IC_nt i2 m (fun r _ _ _ a b c => f3 r a b c) (by rw [f3 36 (by decide) (by decide) (by decide)])
      obtain ⟨r1, -, -⟩ := pR_ok (sText S) 0
      obtain ⟨p, hp⟩ : ∃ p, p = rdE (pR (sText S) 0).2 := ⟨_, rfl⟩
      have wf : WF p := by rw [hp]; exact (rdE_wf r1 ok.1).1
      rw [← hp] at px ⊢
      have hx := i3.1.1
      have hpl : p.length ≤ 255 := by
        have hb := (pR_ok (sText S) 0).2.1.1
        have hk := (pR_ok (sText S) 0).2.2
        have hbl := brg_len 5 (pR (sText S) 0).2.2.1 (pR (sText S) 0).2.1
        have t60 := hg.2.2.2.2.1
        rw [hp]
        unfold rdE
        omega
      obtain ⟨Ae, hAe⟩ : ∃ Ae, Ae = ro A3 36 (up (A3 36) 2 (nI 0)) := ⟨_, rfl⟩
      have ie : IC n g Ae R2 (setText S []) := by rw [hAe]; exact IC_txt0 i3
      have fe : ∀ r, r ≠ 36 → r ≠ 39 → r ≠ 40 → r ≠ 41 → Ae r = A2 r := fun r a b c d => by rw [hAe, ro_ne _ _ a]; exact f3 r b c d
      have he : Hist n g Ae R2 f (sUndo (setText S [])) := Hist_mono (Hist_fr hh (fun r h1 h2 => fe r (by omega) (by omega) (by omega) (by omega)) (fun r _ _ => rfl)) (MonoS_w m)
      have hse : ShOK n g Ae R2 (9 + 3 * f) (sCur (setText S [])) := by
        have := hh.1
        exact ShOK_mono (ShOK_rows hsh (fe _ (by omega) (by omega) (by omega) (by omega)) rfl rfl) (MonoS_w m)
      have ho := Out_exD (c_put (M := M) (a := x) ie (MonoS_rf n g) hs px (WF_ne wf) hpl)
      have key : ∃ k A4 R4, f_X6_put (ca n 1) (nI s) x (E n g A3 M R2) = some (k, E n g A4 M R4) ∧ f_X6_put (ca n 1) (nI s) x (E n g Ae M R2) = some (k, E n g (ro A4 36 (up (A4 36) 2 (nI 0))) M R4) := by
        by_cases htb : 7 < nLet p ∨ 9 < nSig p
        · exact ⟨_, A3, R2, c_putL hs px hpl (by omega), by rw [← hAe]; exact c_putL hs px hpl (by omega)⟩
        · refine ⟨_, _, _, c_putT bSh_1 hs px hpl (by omega), ?_⟩
          rw [c_putT bSh_1 hs px hpl (by omega)]
          have e3 : ro (ptA A3 1) 36 (up (ptA A3 1 36) 2 (nI 0)) = ptA Ae 1 := by
            rw [hAe]
            unfold ptA
            rw [ro_ne _ _ (by decide : 36 ≠ 1), ro_ne _ _ (by decide : 1 ≠ 36), ro_comm _ _ _ (by decide)]
          rw [e3]
      obtain ⟨k, A4, R4, ex1, ex2⟩ := key
      rw [ex2] at ho
      have hem := c_empty36 (n := n) (h := g) (A := A4) (M := M) (R := R4)
      have hk7 : kd (E n g A3 M R2) x = 9 := by rw [kd_X (by have := px.1; omega)]; exact px.2.2.1
      refine c_change ie he hse ho (fun k' g' r hx' hf => ?_)
      have hx' := Option.some.inj hx'
      have hk : k' = k := (congrArg Prod.fst hx').symm
      have hgg : g' = E n g (ro A4 36 (up (A4 36) 2 (nI 0))) M R4 := (congrArg Prod.snd hx').symm
      rw [hk, hgg] at hf
      unfold f_X11_define
      rcases r with ⟨r | r, gr⟩
      · simp (disch := omega) only [↓grd_u, ↓bnd_e, ↓orf_u, ↓oif_u, ↓cal_u, ↓calX_u, ↓inrO_u, ↓reduceIte, EM, EMg, EMs, z0, oi, n_inbT, n_cntT, n_ltT, n_ltF, n_leT, n_leF, n_eqT, n_eqF, n_m1T, n_m1F, n_m1F', n_cl, n_add, n_mul, ro_at, ro_ro, up_at, up_up, EC, c_isSlotT, er, e1, ep, ec, ex1, hem, hf]
      · simp (disch := omega) only [↓grd_u, ↓bnd_e, ↓orf_u, ↓oif_u, ↓cal_u, ↓calX_u, ↓inrO_u, ↓reduceIte, EM, EMg, EMs, z0, oi, n_inbT, n_cntT, n_ltT, n_ltF, n_leT, n_leF, n_eqT, n_eqF, n_m1T, n_m1F, n_m1F', n_cl, n_add, n_mul, ro_at, ro_ro, up_at, up_up, EC, c_isSlotT, er, e1, ep, ec, ex1, hem, hf]
    · rw [if_neg ok]
      rw [show b1 (pOk (sText S)) = 0 from if_neg ok] at er
      have epos := c_pos36 (n := n) (h := h) (M := M) (R := R) v3
      obtain ⟨A2, hA2⟩ : ∃ A2, A2 = ro A1 0 (up (A1 0) 15 (nI (pR (sText S) 0).1)) := ⟨_, rfl⟩
      have hem := c_empty36 (n := n) (h := h) (A := A2) (M := M) (R := R)
      refine ⟨h, ro A2 36 (up (A2 36) 2 (nI 0)), R, ?_, ?_⟩
      · rw [if_neg (show ¬ (2 : Nat) = 0 by decide)]
        unfold f_X11_define
        simp (disch := omega) only [↓grd_u, ↓bnd_e, ↓orf_u, ↓oif_u, ↓cal_u, ↓calX_u, ↓inrO_u, ↓reduceIte, EM, EMg, EMs, z0, oi, n_inbT, n_cntT, n_ltT, n_ltF, n_leT, n_leF, n_eqT, n_eqF, n_m1T, n_m1F, n_m1F', n_cl, n_add, n_mul, ro_at, ro_ro, up_at, up_up, EC, ECs, c_isSlotT, er, epos, ← hA2, hem]
        rfl
      · rw [hA2]
        exact IC_txt0 (IC_cerr i1)
  · rw [slN_F hv]
    refine ⟨h, A, R, ?_, hi⟩
    unfold f_X11_define
    rw [if_neg (show ¬ (1 : Nat) = 0 by decide)]
    simp (disch := omega) only [↓grd_u, ↓bnd_e, ↓orf_u, ↓oif_u, ↓cal_u, ↓calX_u, ↓inrO_u, ↓reduceIte, EM, EMg, EMs, z0, oi, n_inbT, n_cntT, n_ltT, n_ltF, n_leT, n_leF, n_eqT, n_eqF, n_m1T, n_m1F, n_m1F', n_cl, n_add, n_mul, ro_at, ro_ro, up_at, up_up, EC, c_isSlotF hv]
    rfl
end CDEF
