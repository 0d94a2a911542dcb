/-! the class: a program is read; one command is done -/
section CEXEC
variable {n : Nat} {h : mH} {A M : Nat → Nat → Int32} {R : Nat → Nat → Option Nat} {S : St} {T : List Nat} {i : Nat}
theorem c_signT {c : Nat} (t : TX A T) (hi : A 36 3 = nI i) (hi2 : i ≤ T.length) (hc : c < 128) (q : T.getD i 0 = c) : f_X9_readSign (ca n 36) (nI c) (E n h A M R) = some (nI 1, E n h (ro A 36 (up (A 36) 3 (nI (i + 1)))) M R) := by
  have t60 := t.2.1
  have e0 := c_chA (n := n) (h := h) (M := M) (R := R) (k := i) t (by omega)
  rw [q] at e0
  unfold f_X9_readSign
  simp (disch := omega) only [↓grd_u, ↓bnd_e, ↓orf_u, ↓oif_u, ↓cal_u, ↓calX_u, ↓inrO_u, ↓reduceIte, EM, EMg, EMs, z0, oi, n_inbT, n_cntT, n_ltT, n_ltF, n_leT, n_leF, n_eqT, n_eqF, n_m1T, n_m1F, n_m1F', n_cl, n_add, n_mul, ro_at, ro_ro, up_at, up_up, EC, ECg, ECs, hi, e0]
theorem c_signF {c : Nat} (t : TX A T) (hi : A 36 3 = nI i) (hi2 : i ≤ T.length) (hc : c < 128) (q : T.getD i 0 ≠ c) : f_X9_readSign (ca n 36) (nI c) (E n h A M R) = some (nI 0, E n h A M R) := by
  have t60 := t.2.1
  have e0 := c_chA (n := n) (h := h) (M := M) (R := R) (k := i) t (by omega)
  have hlt := TX_lt t i
  unfold f_X9_readSign
  simp (disch := omega) only [↓grd_u, ↓bnd_e, ↓orf_u, ↓oif_u, ↓cal_u, ↓calX_u, ↓inrO_u, ↓reduceIte, EM, EMg, EMs, z0, oi, n_inbT, n_cntT, n_ltT, n_ltF, n_leT, n_leF, n_eqT, n_eqF, n_m1T, n_m1F, n_m1F', n_cl, n_add, n_mul, ro_at, ro_ro, up_at, up_up, EC, ECg, hi, e0]
theorem prR_le {T : List Nat} : ∀ (f i m : Nat), i ≤ T.length → (prR T f i).1 = some m → i + 6 * m ≤ T.length + 1 ∧ 1 ≤ m
  | 0, i, m, _, h => by cases h
  | f + 1, i, m, hi, h => by
    obtain ⟨c1, c2, c3⟩ := cmR_ok hi
    unfold prR at h
    by_cases q : (cmR T i).1 = true
    · rw [if_pos q] at h
      have c3 := c3 q
      by_cases q2 : (cmR T i).2 = T.length
      · rw [if_pos q2] at h
        cases h
        omega
      · rw [if_neg q2] at h
        by_cases q3 : T.getD (cmR T i).2 0 = 59
        · rw [if_pos q3] at h
          cases e : (prR T f ((cmR T i).2 + 1)).1 with
          | none => rw [e] at h; cases h
          | some m' =>
            rw [e] at h
            cases h
            obtain ⟨x1, x2⟩ := prR_le f ((cmR T i).2 + 1) m' (by omega) e
            show i + 6 * (m' + 1) ≤ T.length + 1 ∧ 1 ≤ m' + 1
            omega
        · rw [if_neg q3] at h
          cases h
    · rw [if_neg q] at h
      cases h
def cnt4 (c : Nat) (o : Option Nat) : Int32 := match o with
  | some m => nI (c + m - 1)
  | none => Int32.ofInt (-4)
theorem c_rp6 : ∀ (f i c L : Nat) (A : Nat → Nat → Int32), T.length < i + 6 * f → i ≤ T.length → f < L → c + f ≤ 61 → TX A T → A 36 3 = nI i →
    ∃ A', lp (b_X9_readProgram_6 (ca n 36)) L (nI c, E n h A M R) = some (cnt4 c (prR T f i).1, E n h A' M R) ∧ A' 36 3 = nI (prR T f i).2 ∧ FrU A A' := by
  intro f
  induction f with
  | zero => intro i c L A h1 h2; omega
  | succ f ih =>
    intro i c L A h1 h2 hL hc t hi
    obtain ⟨L, rfl⟩ : ∃ L', L = L' + 1 := ⟨L - 1, by omega⟩
    have t60 := t.2.1
    obtain ⟨A1, e1, a1, f1, -⟩ := c_readCommand (n := n) (h := h) (M := M) (R := R) t hi h2
    obtain ⟨c1, c2, c3⟩ := cmR_ok h2
    have t1 : TX A1 T := TX_A t f1.2 (f1.1 37 (by decide) (by decide))
    have s1 : A1 36 2 = nI T.length := t1.1
    unfold prR
    by_cases q : (cmR T i).1 = true
    · rw [if_pos q]
      have c3 := c3 q
      rw [q, show b2 true = 1 from rfl] at e1
      by_cases q2 : (cmR T i).2 = T.length
      · rw [if_pos q2]
        rw [q2] at a1
        refine ⟨A1, ?_, a1, f1⟩
        rw [lp_en (r := (cnt4 c (some 1), E n h A1 M R))]
        unfold b_X9_readProgram_6 b0_X9_readProgram_6 cnt4
        simp (disch := omega) only [↓grd_u, ↓bnd_e, ↓orf_u, ↓oif_u, ↓cal_u, ↓calX_u, ↓inrO_u, ↓reduceIte, EM, EMg, EMs, z0, oi, n_inbT, n_cntT, n_ltT, n_ltF, n_leT, n_leF, n_eqT, n_eqF, n_m1T, n_m1F, n_m1F', n_cl, n_add, n_mul, ro_at, ro_ro, up_at, up_up, EC, ECg, e1, a1, s1]
        rw [show c + 1 - 1 = c by omega]
      · rw [if_neg q2]
        by_cases q3 : T.getD (cmR T i).2 0 = 59
        · rw [if_pos q3]
          have hl : (cmR T i).2 < T.length := by omega
          have es := c_signT (n := n) (h := h) (M := M) (R := R) t1 a1 c2 (by decide) q3
          obtain ⟨A2, hA2⟩ : ∃ A2, A2 = ro A1 36 (up (A1 36) 3 (nI ((cmR T i).2 + 1))) := ⟨_, rfl⟩
          rw [← hA2] at es
          have f2 : FrU A1 A2 := ⟨fun r h1 _ => by rw [hA2, ro_ne _ _ h1], by rw [hA2, ro_at, up_ne _ _ (by decide)]⟩
          obtain ⟨A', e, a, f9⟩ := ih ((cmR T i).2 + 1) (c + 1) L A2 (by omega) hl (by omega) (by omega) (TX_A t1 f2.2 (f2.1 37 (by decide) (by decide))) (by rw [hA2, ro_at, up_at])
          refine ⟨A', ?_, a, FrU_tr f1 (FrU_tr f2 f9)⟩
          rw [lp_nx (s' := (nI (c + 1), E n h A2 M R)), e]
          · show some (cnt4 (c + 1) (prR T f ((cmR T i).2 + 1)).1, _) = some (cnt4 c ((prR T f ((cmR T i).2 + 1)).1.map (· + 1)), _)
            congr 2
            cases (prR T f ((cmR T i).2 + 1)).1 with
            | none => rfl
            | some m =>
              show nI (c + 1 + m - 1) = nI (c + (m + 1) - 1)
              congr 1
              omega
          · unfold b_X9_readProgram_6 b0_X9_readProgram_6
            simp (disch := omega) only [↓grd_u, ↓bnd_e, ↓orf_u, ↓oif_u, ↓cal_u, ↓calX_u, ↓inrO_u, ↓reduceIte, EM, EMg, EMs, z0, oi, n_inbT, n_cntT, n_ltT, n_ltF, n_leT, n_leF, n_eqT, n_eqF, n_m1T, n_m1F, n_m1F', n_cl, n_add, n_mul, ro_at, ro_ro, up_at, up_up, EC, ECg, e1, a1, s1, es]
        · rw [if_neg q3]
          have es := c_signF (n := n) (h := h) (M := M) (R := R) t1 a1 c2 (by decide) q3
          refine ⟨A1, ?_, a1, f1⟩
          rw [lp_en (r := (cnt4 c none, E n h A1 M R))]
          unfold b_X9_readProgram_6 b0_X9_readProgram_6 cnt4
          simp (disch := omega) only [↓grd_u, ↓bnd_e, ↓orf_u, ↓oif_u, ↓cal_u, ↓calX_u, ↓inrO_u, ↓reduceIte, EM, EMg, EMs, z0, oi, n_inbT, n_cntT, n_ltT, n_ltF, n_leT, n_leF, n_eqT, n_eqF, n_m1T, n_m1F, n_m1F', n_cl, n_add, n_mul, ro_at, ro_ro, up_at, up_up, EC, ECg, e1, a1, s1, es]
    · rw [if_neg q]
      have q' : (cmR T i).1 = false := Bool.eq_false_iff.mpr q
      rw [q', show b2 false = 0 from rfl] at e1
      refine ⟨A1, ?_, a1, f1⟩
      rw [lp_en (r := (cnt4 c none, E n h A1 M R))]
      unfold b_X9_readProgram_6 b0_X9_readProgram_6 cnt4
      simp (disch := omega) only [↓grd_u, ↓bnd_e, ↓orf_u, ↓oif_u, ↓cal_u, ↓calX_u, ↓inrO_u, ↓reduceIte, EM, EMg, EMs, z0, oi, n_inbT, n_cntT, n_ltT, n_ltF, n_leT, n_leF, n_eqT, n_eqF, n_m1T, n_m1F, n_m1F', n_cl, n_add, n_mul, ro_at, ro_ro, up_at, up_up, EC, e1]
theorem c_readProgram (t : TX A T) : ∃ A', f_X9_readProgram (ca n 36) (E n h A M R) = some (cnt4 1 (prR T 11 0).1, E n h A' M R) ∧ A' 36 3 = nI (prR T 11 0).2 ∧ FrU A A' := by
  have t60 := t.2.1
  obtain ⟨A0, hA0⟩ : ∃ A0, A0 = ro A 36 (up (A 36) 3 (nI 0)) := ⟨_, rfl⟩
  have f0 : FrU A A0 := ⟨fun r h1 _ => by rw [hA0, ro_ne _ _ h1], by rw [hA0, ro_at, up_ne _ _ (by decide)]⟩
  obtain ⟨A', e, a, f⟩ := c_rp6 (n := n) (h := h) (M := M) (R := R) (T := T) 11 0 1 100000 A0 (by omega) (Nat.zero_le _) (by decide) (by decide) (TX_A t f0.2 (f0.1 37 (by decide) (by decide))) (by rw [hA0, ro_at, up_at])
  refine ⟨A', ?_, a, FrU_tr f0 f⟩
  have e : g_X9_readProgram_6 (ca n 36) (nI 1) (E n h A0 M R) = _ := e
  unfold f_X9_readProgram f_X9_rewind
  simp (disch := omega) only [↓grd_u, ↓bnd_e, ↓orf_u, ↓oif_u, ↓cal_u, ↓calX_u, ↓inrO_u, ↓reduceIte, EM, EMg, EMs, z0, oi, n_inbT, n_cntT, n_ltT, n_ltF, n_leT, n_leF, n_eqT, n_eqF, n_m1T, n_m1F, n_m1F', n_cl, n_add, n_mul, ro_at, ro_ro, up_at, up_up, EC, ECs, ← hA0, e]
theorem c_digit {j d : Nat} (hj : j < 3) (hd : A 38 j = nI d) : f_X9_digit (ca n 36) (nI j) (E n h A M R) = some (nI d, E n h A M R) := by
  unfold f_X9_digit g_X9_digit_23
  simp (disch := omega) only [↓grd_u, ↓bnd_e, ↓orf_u, ↓oif_u, ↓cal_u, ↓calX_u, ↓inrO_u, ↓reduceIte, EM, EMg, EMs, z0, oi, n_inbT, n_cntT, n_ltT, n_ltF, n_leT, n_leF, n_eqT, n_eqF, n_m1T, n_m1F, n_m1F', n_cl, n_add, n_mul, ro_at, ro_ro, up_at, up_up, EC, ECg, hd]
/-- a failed change's code is below 0 -/
theorem fin_neg {n : Nat} (h : mH) (A M : Nat → Nat → Int32) (R : Nat → Nat → Option Nat) {k : Int32} {ex : String} (hf : ∀ g, f_X11_finishChange (ca n 0) k g = some (.inr ex, g)) : k < nI 0 := by
  have h0 := hf (E n h A M R)
  unfold f_X11_finishChange at h0
  by_cases q6 : k = Int32.ofInt (-6)
  · rw [q6]; decide +kernel
  by_cases q5 : k = Int32.ofInt (-5)
  · rw [q5]; decide +kernel
  by_cases q4 : k = Int32.ofInt (-4)
  · rw [q4]; decide +kernel
  by_cases q3 : k = Int32.ofInt (-3)
  · rw [q3]; decide +kernel
  by_cases q2 : k = Int32.ofInt (-2)
  · rw [q2]; decide +kernel
  by_cases q1 : k = Int32.ofInt (-1)
  · rw [q1]; decide +kernel
  exfalso
  rw [if_neg q6, if_neg q5, if_neg q4, if_neg q3, if_neg q2, if_neg q1] at h0
  rw [grd_w (by rw [kd_C (by decide)]; rfl)] at h0
  rw [gr_C (q := 7) (by decide) rfl] at h0
  have h0 : grd (kd (E n h A M R) (ca n 7) = 6) (cal (f_X1_keepPrepared (ca n 7) (E n h A M R)) fun _ h3 => some ((Sum.inl k, h3))) = some (Sum.inr ex, E n h A M R) := h0
  rw [grd_w (by rw [kd_C (by decide)]; rfl)] at h0
  unfold cal at h0
  cases e : f_X1_keepPrepared (ca n 7) (E n h A M R) with
  | none => rw [e] at h0; cases h0
  | some o => rw [e] at h0; cases h0
/-- what one command makes of the class -/
def Exe (n : Nat) (h : mH) (A M : Nat → Nat → Int32) (R : Nat → Nat → Option Nat) (S : St) (x : Option (Int32 × mH)) (q : Nat × Nat × St) : Prop := ∃ k h' A' R' L, x = some (k, E n h' A' M R') ∧ MonoS n h h' ∧ (∀ r, 7 ≤ r → r < 36 → A' r = A r ∧ R' r = R r) ∧ A' 36 = A 36 ∧ IC n h' A' R' (setC S L) ∧ ((q.1 ≠ 0 ∧ k < nI 0 ∧ L = sCur S) ∨ (q.1 = 0 ∧ nI 0 ≤ k ∧ L = sCur q.2.2))
theorem Exe_out {x : Option (Int32 × mH)} {ex : Nat → String} {q : Nat × Nat × St} (hi : IC n h A R S) (ho : Out n h A M R S x ex q) : Exe n h A M R S x q := by
  obtain ⟨k, h', A', R', e, m, kp, fr, hc⟩ := ho
  obtain ⟨f, hf⟩ := hi.2.2.1
  rcases hc with ⟨h0, hfn, rfl, rfl, hq⟩ | ⟨h0, hk, hq, L, hL, hr⟩
  · refine ⟨k, h', _, _, sCur S, e, m, fr, rfl, IC_set (S' := setC S (sCur S)) (f := f) hi m (Kp_rf _ _) (ShOK_mono hi.2.1 (MonoS_w m)) (Hist_mono hf (MonoS_w m)) rfl, Or.inl ⟨h0, fin_neg h A' M R' hfn, rfl⟩⟩
  · have hL' : L = sCur q.2.2 := by rw [hr]; rfl
    refine ⟨k, h', A', R', L, e, m, fr, kp.2.1 36 (by decide), IC_set (S' := setC S L) (f := f) hi m kp hL (Hist_fr (Hist_mono hf (MonoS_w m)) (fun r h1 h2 => (fr r h1 h2).1) (fun r h1 h2 => (fr r h1 h2).2)) rfl, Or.inr ⟨h0, ?_, hL'⟩⟩
    rw [hk, n_le (by decide) (by omega)]
    omega
theorem Exe_eq {x y : Option (Int32 × mH)} {q : Nat × Nat × St} (he : Exe n h A M R S x q) (hxy : ∀ k g, x = some (k, g) → y = some (k, g)) : Exe n h A M R S y q := by
  obtain ⟨k, h', A', R', L, e, r⟩ := he
  exact ⟨k, h', A', R', L, hxy _ _ e, r⟩
end CEXEC
