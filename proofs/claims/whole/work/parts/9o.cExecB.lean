/-! the class: one command is done, all kinds -/
section CEXECB
variable {n : Nat} {h : mH} {A M : Nat → Nat → Int32} {R : Nat → Nat → Option Nat} {S : St} {T : List Nat} {i : Nat}
theorem c_kw36 {k : Nat} (hk : A 36 4 = nI k) : f_X9_keyword (ca n 36) (E n h A M R) = some (nI k, E n h A M R) := by
  unfold f_X9_keyword
  simp (disch := omega) only [↓grd_u, ↓bnd_e, ↓orf_u, ↓oif_u, ↓cal_u, ↓calX_u, ↓inrO_u, ↓reduceIte, EM, EMg, EMs, z0, oi, n_inbT, n_cntT, n_ltT, n_ltF, n_leT, n_leF, n_eqT, n_eqF, n_m1T, n_m1F, n_m1F', n_cl, n_add, n_mul, ro_at, ro_ro, up_at, up_up, EC, ECg, hk]
theorem c_st36 {k : Nat} (hk : A 36 5 = nI k) : f_X9_start (ca n 36) (E n h A M R) = some (nI k, E n h A M R) := by
  unfold f_X9_start
  simp (disch := omega) only [↓grd_u, ↓bnd_e, ↓orf_u, ↓oif_u, ↓cal_u, ↓calX_u, ↓inrO_u, ↓reduceIte, EM, EMg, EMs, z0, oi, n_inbT, n_cntT, n_ltT, n_ltF, n_leT, n_leF, n_eqT, n_eqF, n_m1T, n_m1F, n_m1F', n_cl, n_add, n_mul, ro_at, ro_ro, up_at, up_up, EC, ECg, hk]
theorem c_en36 {k : Nat} (hk : A 36 6 = nI k) : f_X9_end (ca n 36) (E n h A M R) = some (nI k, E n h A M R) := by
  unfold f_X9_end
  simp (disch := omega) only [↓grd_u, ↓bnd_e, ↓orf_u, ↓oif_u, ↓cal_u, ↓calX_u, ↓inrO_u, ↓reduceIte, EM, EMg, EMs, z0, oi, n_inbT, n_cntT, n_ltT, n_ltF, n_leT, n_leF, n_eqT, n_eqF, n_m1T, n_m1F, n_m1F', n_cl, n_add, n_mul, ro_at, ro_ro, up_at, up_up, EC, ECg, hk]
theorem c_execute (hi : IC n h A R S) (hg : GoodS S) (hT : sText S = T) (hi2 : i ≤ T.length) (hok : (cmR T i).1 = true) (hc : CMC A T i) : Exe n h A M R S (f_X11_executeCommand (ca n 0) (E n h A M R)) (exC T i S) := by
  have e1 := ESh bSh_1
  have hk := ksel_le T i
  have ht := IC_TX hi hg
  rw [hT] at ht
  have t60 := ht.2.1
  have kw := c_kw36 (n := n) (h := h) (M := M) (R := R) hc.1
  have dg := fun j (hj : j < ndg (ksel T i)) (h3 : j < 3) => c_digit (n := n) (h := h) (M := M) (R := R) (j := j) h3 (hc.2.1 j hj)
  unfold exC
  by_cases k0 : ksel T i = 0
  · rw [if_pos k0]
    rw [k0] at kw
    have d0 := dg 0 (by rw [k0]; decide) (by decide)
    have hd10 := (dgt_ok hi2 hok (j := 0) (by rw [k0]; decide)).2
    obtain ⟨v5, v6⟩ := hc.2.2.1 k0
    obtain ⟨wf, rok⟩ := set_wf hi2 hok k0
    have h6 : i + 6 ≤ T.length := by
      obtain ⟨q1, -⟩ := cmR_sq hi2 hok
      rw [k0] at q1
      obtain ⟨-, x2, x3, -⟩ := sq_ok (T := T) (itk 0) i (items_pos 0 (by decide)) hi2
      have := (x3 q1).1
      rw [this] at x2
      exact x2
    obtain ⟨A1, g, x, ec, m, px, f1⟩ := c_read (n := n) (h := h) (A := A) (M := M) (R := R) (T := T) (i := i + 6) hi.1.1 ht h6 v5 v6 rok
    have i1 : IC n g A1 R S := IC_nt hi m (fun r _ _ _ a b c => f1 r a b c) (by rw [f1 36 (by decide) (by decide) (by decide)])
    obtain ⟨p, hp⟩ : ∃ p, p = rdE (pR T (i + 6)).2 := ⟨_, rfl⟩
    rw [← hp] at wf px ⊢
    have hpl : p.length ≤ 255 := by
      have hb := (pR_ok T (i + 6)).2.1.1
      have hk := (pR_ok T (i + 6)).2.2
      have hbl := brg_len 5 (pR T (i + 6)).2.2.1 (pR T (i + 6)).2.1
      rw [hp]
      unfold rdE
      omega
    have hk7 : kd (E n g A1 M R) x = 9 := by rw [kd_X (by have := px.1; omega)]; exact px.2.2.1
    have hput : Exe n g A1 M R S (f_X6_put (ca n 1) (nI (dgt T i 0)) x (E n g A1 M R)) (exS0 S (slN (nI (dgt T i 0))) p) := by
      rcases dg_slot hd10 with ⟨s6, es⟩ | ⟨hx, es⟩
      · rw [es]
        exact Exe_out i1 (c_put (M := M) (a := x) i1 (MonoS_rf n g) s6 px (WF_ne wf) hpl)
      · rw [es]
        refine Exe_out i1 (ex := exS) (Out_no (e := 1) (k := Int32.ofInt (-1)) (by decide) ?_ fin_S1)
        unfold f_X6_put
        simp (disch := omega) only [↓grd_u, ↓bnd_e, ↓orf_u, ↓oif_u, ↓cal_u, ↓calX_u, ↓inrO_u, ↓reduceIte, EM, EMg, EMs, z0, oi, n_inbT, n_cntT, n_ltT, n_ltF, n_leT, n_leF, n_eqT, n_eqF, n_m1T, n_m1F, n_m1F', n_cl, n_add, n_mul, ro_at, ro_ro, up_at, up_up, c_isSlotF hx]
    obtain ⟨k, h', A', R', L, ex, m2, fr, f36, ic, hq⟩ := hput
    refine ⟨k, h', A', R', L, ?_, MonoS_tr m m2, fun r h1 h2 => ⟨(fr r h1 h2).1.trans (f1 r (by omega) (by omega) (by omega)), (fr r h1 h2).2⟩, f36.trans (f1 36 (by decide) (by decide) (by decide)), ic, hq⟩
    unfold f_X11_executeCommand
    simp (disch := omega) only [↓grd_u, ↓bnd_e, ↓orf_u, ↓oif_u, ↓cal_u, ↓calX_u, ↓inrO_u, ↓reduceIte, EM, EMg, EMs, z0, oi, n_inbT, n_cntT, n_ltT, n_ltF, n_leT, n_leF, n_eqT, n_eqF, n_m1T, n_m1F, n_m1F', n_cl, n_add, n_mul, ro_at, ro_ro, up_at, up_up, EC, kw, d0, e1, ec, ex]
  rw [if_neg k0]
  by_cases k1 : ksel T i = 1
  · rw [if_pos k1]
    rw [k1] at kw
    have d0 := dg 0 (by rw [k1]; decide) (by decide)
    have d1 := dg 1 (by rw [k1]; decide) (by decide)
    have d2 := dg 2 (by rw [k1]; decide) (by decide)
    refine Exe_eq (Exe_out hi (c_pj (M := M) (v := nI (dgt T i 0)) (a := nI (dgt T i 1)) (b := nI (dgt T i 2)) (o := 5) hi hg (Or.inr rfl))) (fun k g ex => ?_)
    rw [show nI (chC 5) = nI 124 from rfl] at ex
    unfold f_X11_executeCommand
    simp (disch := omega) only [↓grd_u, ↓bnd_e, ↓orf_u, ↓oif_u, ↓cal_u, ↓calX_u, ↓inrO_u, ↓reduceIte, EM, EMg, EMs, z0, oi, n_inbT, n_cntT, n_ltT, n_ltF, n_leT, n_leF, n_eqT, n_eqF, n_m1T, n_m1F, n_m1F', n_cl, n_add, n_mul, ro_at, ro_ro, up_at, up_up, EC, kw, d0, d1, d2, e1, ex]
  rw [if_neg k1]
  by_cases k2 : ksel T i = 2
  · rw [if_pos k2]
    rw [k2] at kw
    have d0 := dg 0 (by rw [k2]; decide) (by decide)
    have d1 := dg 1 (by rw [k2]; decide) (by decide)
    have d2 := dg 2 (by rw [k2]; decide) (by decide)
    refine Exe_eq (Exe_out hi (c_pj (M := M) (v := nI (dgt T i 0)) (a := nI (dgt T i 1)) (b := nI (dgt T i 2)) (o := 4) hi hg (Or.inl rfl))) (fun k g ex => ?_)
    rw [show nI (chC 4) = nI 46 from rfl] at ex
    unfold f_X11_executeCommand
    simp (disch := omega) only [↓grd_u, ↓bnd_e, ↓orf_u, ↓oif_u, ↓cal_u, ↓calX_u, ↓inrO_u, ↓reduceIte, EM, EMg, EMs, z0, oi, n_inbT, n_cntT, n_ltT, n_ltF, n_leT, n_leF, n_eqT, n_eqF, n_m1T, n_m1F, n_m1F', n_cl, n_add, n_mul, ro_at, ro_ro, up_at, up_up, EC, kw, d0, d1, d2, e1, ex]
  rw [if_neg k2]
  by_cases k3 : ksel T i = 3
  · rw [if_pos k3]
    rw [k3] at kw
    have d0 := dg 0 (by rw [k3]; decide) (by decide)
    have d1 := dg 1 (by rw [k3]; decide) (by decide)
    refine Exe_eq (Exe_out hi (c_ps (M := M) (v := nI (dgt T i 0)) (a := nI (dgt T i 1)) hi hg)) (fun k g ex => ?_)
    unfold f_X11_executeCommand
    simp (disch := omega) only [↓grd_u, ↓bnd_e, ↓orf_u, ↓oif_u, ↓cal_u, ↓calX_u, ↓inrO_u, ↓reduceIte, EM, EMg, EMs, z0, oi, n_inbT, n_cntT, n_ltT, n_ltF, n_leT, n_leF, n_eqT, n_eqF, n_m1T, n_m1F, n_m1F', n_cl, n_add, n_mul, ro_at, ro_ro, up_at, up_up, EC, kw, d0, d1, e1, ex]
  rw [if_neg k3]
  by_cases k4 : ksel T i = 4
  · rw [if_pos k4]
    rw [k4] at kw
    have d0 := dg 0 (by rw [k4]; decide) (by decide)
    refine Exe_eq (Exe_out hi (c_fr (M := M) (v := nI (dgt T i 0)) hi)) (fun k g ex => ?_)
    unfold f_X11_executeCommand
    simp (disch := omega) only [↓grd_u, ↓bnd_e, ↓orf_u, ↓oif_u, ↓cal_u, ↓calX_u, ↓inrO_u, ↓reduceIte, EM, EMg, EMs, z0, oi, n_inbT, n_cntT, n_ltT, n_ltF, n_leT, n_leF, n_eqT, n_eqF, n_m1T, n_m1F, n_m1F', n_cl, n_add, n_mul, ro_at, ro_ro, up_at, up_up, EC, kw, d0, e1, ex]
  rw [if_neg k4]
  by_cases k5 : ksel T i = 5
  · rw [if_pos k5]
    rw [k5] at kw
    obtain ⟨v5, v6⟩ := hc.2.2.2 k5
    have s5 := c_st36 (n := n) (h := h) (M := M) (R := R) v5
    have s6 := c_en36 (n := n) (h := h) (M := M) (R := R) v6
    obtain ⟨u1, u2, u3⟩ := wT_ok T i
    have hlr := lrn_le (T.drop (i + 5))
    rw [List.length_drop] at hlr
    have h5 : i + 5 ≤ T.length := by
      obtain ⟨q1, -⟩ := cmR_sq hi2 hok
      rw [k5] at q1
      obtain ⟨-, x2, x3, -⟩ := sq_ok (T := T) (itk 5) i (items_pos 5 (by decide)) hi2
      have := (x3 q1).1
      rw [this] at x2
      exact x2
    obtain ⟨o, g, ew, m, hq⟩ := c_wordB (n := n) (h := h) (A := A) (M := M) (R := R) (T := T) (fr := i + 5) (d := lrn (T.drop (i + 5))) (most := 8) hi.1.1 ht (by omega) (by decide)
    have ok1 : okW T (i + 5) (lrn (T.drop (i + 5))) = 1 := okW_1.mpr fun j hj => by
      have := okW_1.mp u2 j (by omega)
      rw [Nat.zero_add, u3 j (by omega)] at this
      exact this
    have hq' : if okW (wT T i) 0 (wT T i).length = 1 ∧ (wT T i).length ≤ 8 then ∃ x, o = some x ∧ Wrd n g x (lets (wT T i)) else o = none := by
      by_cases q : lrn (T.drop (i + 5)) ≤ 8
      · rw [if_pos ⟨ok1, q⟩] at hq
        rw [if_pos ⟨u2, by omega⟩]
        exact hq
      · rw [if_neg (fun z => q z.2)] at hq
        rw [if_neg (fun z => q (by omega))]
        exact hq
    have ho := c_addW (M := M) (T := wT T i) hi hg m hq'
    refine Exe_eq (Exe_out (q := exW S (wT T i)) hi ho) (fun k g' ex => ?_)
    unfold f_X11_executeCommand
    simp (disch := omega) only [↓grd_u, ↓bnd_e, ↓orf_u, ↓oif_u, ↓cal_u, ↓calX_u, ↓inrO_u, ↓reduceIte, EM, EMg, EMs, z0, oi, n_inbT, n_cntT, n_ltT, n_ltF, n_leT, n_leF, n_eqT, n_eqF, n_m1T, n_m1F, n_m1F', n_cl, n_add, n_mul, ro_at, ro_ro, up_at, up_up, EC, kw, s5, s6, ew, e1, ex]
  rw [if_neg k5]
  have k6 : ksel T i = 6 := by omega
  rw [k6] at kw
  have d0 := dg 0 (by rw [k6]; decide) (by decide)
  refine Exe_eq (Exe_out hi (c_ct (M := M) (v := nI (dgt T i 0)) hi hg)) (fun k g ex => ?_)
  unfold f_X11_executeCommand
  simp (disch := omega) only [↓grd_u, ↓bnd_e, ↓orf_u, ↓oif_u, ↓cal_u, ↓calX_u, ↓inrO_u, ↓reduceIte, EM, EMg, EMs, z0, oi, n_inbT, n_cntT, n_ltT, n_ltF, n_leT, n_leF, n_eqT, n_eqF, n_m1T, n_m1F, n_m1F', n_cl, n_add, n_mul, ro_at, ro_ro, up_at, up_up, EC, kw, d0, e1, ex]
/-- the commands of a program -/
theorem c_ex9 {f9 cT : Nat} {u : List Lib} {L0 : Lib} (hcT : cT ≤ 10) (hu : u.length ≤ 8) : ∀ (f i d m L : Nat) (S : St) (h : mH) (A : Nat → Nat → Int32) (R : Nat → Nat → Option Nat), (prR T f i).1 = some m → d + m = cT → i ≤ T.length → m < L → IC n h A R S → GoodS S → sText S = T → A 36 3 = nI i → Hist n h A R f9 u → ShOK n h A R (9 + 3 * f9) L0 →
    ∃ h' A' R' ch mh, lpC (b_X11_executeCommands_9 (ca n 0) (nI cT)) L (nI d, E n h A M R) = some ((nI (doR T f i S d).2.1, E n h' A' M R'), ch, mh) ∧ ch ≤ 2 * m ∧ mh ≤ 258 * m ∧ IC n h' A' R' (setC S (doR T f i S d).2.2) ∧ Hist n h' A' R' f9 u ∧ ShOK n h' A' R' (9 + 3 * f9) L0 ∧ (((doR T f i S d).1 = true ∧ (doR T f i S d).2.1 = cT) ∨ ((doR T f i S d).1 = false ∧ (doR T f i S d).2.1 < cT)) := by
  intro f
  induction f with
  | zero => intro i d m L S h A R h1; cases h1
  | succ f ih =>
    intro i d m L S h A R hp hdm h2 hL hi hg hT ha hh hs
    obtain ⟨L, rfl⟩ : ∃ L', L = L' + 1 := ⟨L - 1, by omega⟩
    have t := IC_TX hi hg
    rw [hT] at t
    have t60 := t.2.1
    have hm1 := (prR_le (f + 1) i m h2 hp).2
    have hok : (cmR T i).1 = true := Decidable.byContradiction fun z => by
      unfold prR at hp
      rw [if_neg z] at hp
      cases hp
    obtain ⟨A1, e1, a1, f1, cm⟩ := c_readCommand (n := n) (h := h) (M := M) (R := R) t ha h2
    rw [hok, show b2 true = 1 from rfl] at e1
    have cm := cm hok
    obtain ⟨c1, c2, c3⟩ := cmR_ok h2
    have c3 := c3 hok
    have i1 : IC n h A1 R S := IC_nt hi (MonoS_rf n h) (fun r _ h36 h38 _ _ _ => f1.1 r h36 h38) f1.2
    have hf9 := hh.1
    have hh1 : Hist n h A1 R f9 u := Hist_fr hh (fun r _ _ => f1.1 r (by omega) (by omega)) (fun _ _ _ => rfl)
    have hs1 : ShOK n h A1 R (9 + 3 * f9) L0 := ShOK_rows hs (f1.1 _ (by omega) (by omega)) rfl rfl
    obtain ⟨k, h3, A3, R3, Lq, e3, m3, fr3, f36, i3, hq⟩ := c_execute (M := M) i1 hg hT h2 hok cm
    have hh3 : Hist n h3 A3 R3 f9 u := Hist_mono (Hist_fr hh1 (fun r x y => (fr3 r x y).1) (fun r x y => (fr3 r x y).2)) (MonoS_w m3)
    have hs3 : ShOK n h3 A3 R3 (9 + 3 * f9) L0 := ShOK_mono (ShOK_rows hs1 (fr3 _ (by omega) (by omega)).1 (fr3 _ (by omega) (by omega)).2 (fr3 _ (by omega) (by omega)).2) (MonoS_w m3)
    have hnd : ¬ nI cT ≤ nI d := by
      rw [n_le (by omega) (by omega)]
      omega
    unfold doR
    rcases hq with ⟨q0, kn, hLq⟩ | ⟨q0, kp, hLq⟩
    · rw [if_neg q0]
      rw [hLq] at i3
      refine ⟨h3, A3, R3, 0 + 2, 0 + 258, lpC_en ?_, by omega, by omega, i3, hh3, hs3, Or.inr ⟨rfl, by show d < cT; omega⟩⟩
      have kn' : ¬ nI 0 ≤ k := fun z => by
        rw [Int32.le_iff_toInt_le] at z
        rw [Int32.lt_iff_toInt_lt] at kn
        omega
      unfold b_X11_executeCommands_9 b0_X11_executeCommands_9 g_X11_executeCommands_31 inrC
      simp (disch := omega) only [↓grd_u, ↓bnd_e, ↓orf_u, ↓oif_u, ↓cal_u, ↓calX_u, ↓inrO_u, ↓reduceIte, EM, EMg, EMs, z0, oi, n_inbT, n_cntT, n_ltT, n_ltF, n_leT, n_leF, n_eqT, n_eqF, n_m1T, n_m1F, n_m1F', n_cl, n_add, n_mul, ro_at, ro_ro, up_at, up_up, ↓calC_u, ↓adc_u, EC, hnd, e1, e3, kn']
    · rw [if_pos q0]
      rw [hLq] at i3
      have hgq : GoodS (setC S (sCur (exC T i S).2.2)) := GoodS_setC hg (exC_good hg t60 h2 hok)
      have t3 := IC_TX i3 hgq
      rw [show sText (setC S (sCur (exC T i S).2.2)) = T from hT] at t3
      have a3 : A3 36 3 = nI (cmR T i).2 := by rw [f36]; exact a1
      by_cases q3 : T.getD (cmR T i).2 0 = 59
      · rw [if_pos q3]
        have hl : (cmR T i).2 < T.length := by
          rcases Nat.lt_or_ge (cmR T i).2 T.length with z | z
          · exact z
          · rw [getD_ov z] at q3
            exact absurd q3 (by decide)
        have es := c_signT (n := n) (h := h3) (M := M) (R := R3) t3 a3 c2 (by decide) q3
        obtain ⟨A4, hA4⟩ : ∃ A4, A4 = ro A3 36 (up (A3 36) 3 (nI ((cmR T i).2 + 1))) := ⟨_, rfl⟩
        rw [← hA4] at es
        have f4 : ∀ r, r ≠ 36 → A4 r = A3 r := fun r h1 => by rw [hA4, ro_ne _ _ h1]
        have i4 : IC n h3 A4 R3 (setC S (sCur (exC T i S).2.2)) := IC_nt i3 (MonoS_rf n h3) (fun r _ h36 _ _ _ _ => f4 r h36) (by rw [hA4, ro_at, up_ne _ _ (by decide)])
        obtain ⟨m', hp', hmm⟩ : ∃ m', (prR T f ((cmR T i).2 + 1)).1 = some m' ∧ m = m' + 1 := by
          unfold prR at hp
          rw [if_pos hok, if_neg (by omega), if_pos q3] at hp
          cases e : (prR T f ((cmR T i).2 + 1)).1 with
          | none => rw [e] at hp; cases hp
          | some m' =>
            rw [e] at hp
            cases hp
            exact ⟨m', rfl, rfl⟩
        obtain ⟨h5, A5, R5, ch, mh, e5, b1', b2', i5, hh5, hs5, hr⟩ := ih ((cmR T i).2 + 1) (d + 1) m' L (setC S (sCur (exC T i S).2.2)) h3 A4 R3 hp' (by omega) hl (by omega) i4 hgq hT (by rw [hA4, ro_at, up_at]) (Hist_fr hh3 (fun r _ _ => f4 r (by omega)) (fun _ _ _ => rfl)) (ShOK_rows hs3 (f4 _ (by omega)) rfl rfl)
        refine ⟨h5, A5, R5, ch + 2, mh + 258, ?_, by omega, by omega, i5, hh5, hs5, hr⟩
        rw [lpC_nx (s' := (nI (d + 1), E n h3 A4 M R3)) (c := 2) (m := 258), e5]
        · rfl
        · unfold b_X11_executeCommands_9 b0_X11_executeCommands_9
          simp (disch := omega) only [↓grd_u, ↓bnd_e, ↓orf_u, ↓oif_u, ↓cal_u, ↓calX_u, ↓inrO_u, ↓reduceIte, EM, EMg, EMs, z0, oi, n_inbT, n_cntT, n_ltT, n_ltF, n_leT, n_leF, n_eqT, n_eqF, n_m1T, n_m1F, n_m1F', n_cl, n_add, n_mul, ro_at, ro_ro, up_at, up_up, ↓calC_u, ↓adc_u, EC, hnd, e1, e3, kp, es, Nat.zero_add]
      · rw [if_neg q3]
        have es := c_signF (n := n) (h := h3) (M := M) (R := R3) t3 a3 c2 (by decide) q3
        have m1 : m = 1 := by
          unfold prR at hp
          rw [if_pos hok] at hp
          by_cases q2 : (cmR T i).2 = T.length
          · rw [if_pos q2] at hp
            cases hp
            rfl
          · rw [if_neg q2, if_neg q3] at hp
            cases hp
        refine ⟨h3, A3, R3, 0 + 2, 0 + 258, ?_, by omega, by omega, i3, hh3, hs3, Or.inl ⟨rfl, by show d + 1 = cT; omega⟩⟩
        obtain ⟨L, rfl⟩ : ∃ L', L = L' + 1 := ⟨L - 1, by omega⟩
        rw [lpC_nx (s' := (nI (d + 1), E n h3 A3 M R3)) (c := 2) (m := 258), lpC_en (r := (nI (d + 1), E n h3 A3 M R3)) (c := 0) (m := 0)]
        · rfl
        · unfold b_X11_executeCommands_9 b0_X11_executeCommands_9
          rw [show cT = d + 1 by omega]
          simp (disch := omega) only [↓grd_u, ↓bnd_e, ↓orf_u, ↓oif_u, ↓cal_u, ↓calX_u, ↓inrO_u, ↓reduceIte, EM, EMg, EMs, z0, oi, n_inbT, n_cntT, n_ltT, n_ltF, n_leT, n_leF, n_eqT, n_eqF, n_m1T, n_m1F, n_m1F', n_cl, n_add, n_mul, ro_at, ro_ro, up_at, up_up]
        · unfold b_X11_executeCommands_9 b0_X11_executeCommands_9
          simp (disch := omega) only [↓grd_u, ↓bnd_e, ↓orf_u, ↓oif_u, ↓cal_u, ↓calX_u, ↓inrO_u, ↓reduceIte, EM, EMg, EMs, z0, oi, n_inbT, n_cntT, n_ltT, n_ltF, n_leT, n_leF, n_eqT, n_eqF, n_m1T, n_m1F, n_m1F', n_cl, n_add, n_mul, ro_at, ro_ro, up_at, up_up, ↓calC_u, ↓adc_u, EC, hnd, e1, e3, kp, es, Nat.zero_add]
end CEXECB
