/-! the class: reading a pattern, how far -/
def kB (b : Nat) : Nat := if (97 ≤ b ∧ b ≤ 99) ∨ b = 41 then 1 else if 0 < sgo b then 2 else 0
theorem nk_kB {k o c : Nat} (h : cf k o c) : nk k c = kB c := by
  unfold cf at h
  unfold nk kB
  by_cases a : 97 ≤ c ∧ c ≤ 99
  · rw [if_pos a, if_pos (Or.inl a)]
  rw [if_neg a]
  by_cases b : c = 40
  · rw [b]; rfl
  rw [if_neg b]
  by_cases d : 0 < sgo c
  · have := (sgo_n d).1
    rw [if_pos d, if_neg (by omega), if_pos d]
  rw [if_neg d]
  by_cases e : c = 124
  · rw [e]; rfl
  rw [if_neg e, if_pos (by omega)]
section CRD
variable {n : Nat} {h : mH} {A M : Nat → Nat → Int32} {R : Nat → Nat → Option Nat} {S : St} {T : List Nat} {g : mH}
theorem c_isLb {c : Nat} (hc : c < 128) : f_X11_isLetter (nI c) g = some (nI (b1 (97 ≤ c ∧ c ≤ 99)), g) := by
  unfold b1
  by_cases q : 97 ≤ c ∧ c ≤ 99
  · rw [if_pos q]; exact c_isLT q.1 q.2
  · rw [if_neg q]; exact c_isLF hc q
theorem c_isSg {c : Nat} (hc : c < 128) : f_X11_isSign (nI c) g = some (nI (b1 (0 < sgo c)), g) := by
  unfold f_X11_isSign g_X11_isSign_18 g_X11_isSign_23 b1 sgo
  by_cases a : c = 42
  · rw [a]; rfl
  by_cases b : c = 43
  · rw [b]; rfl
  by_cases d : c = 63
  · rw [d]; rfl
  rw [if_neg a, if_neg b, if_neg d]
  simp (disch := omega) only [↓grd_u, ↓bnd_e, ↓orf_u, ↓oif_u, ↓cal_u, ↓calX_u, ↓inrO_u, ↓reduceIte, EM, EMg, EMs, z0, oi, n_inbT, n_cntT, n_ltT, n_ltF, n_leT, n_leF, n_eqT, n_eqF, n_m1T, n_m1F, n_m1F', n_cl, n_add, n_mul, ro_at, ro_ro, up_at, up_up, nz0, Nat.lt_irrefl]
theorem c_endsF {b : Nat} (hb : b < 128) : f_X9_endsFactor (nI b) g = some (nI (b1 (kB b ≠ 0)), g) := by
  have e1 := c_isLb (g := g) hb
  have e2 := c_isSg (g := g) hb
  unfold f_X9_endsFactor g_X9_endsFactor_20 g_X9_endsFactor_25
  unfold kB b1 at *
  by_cases q1 : 97 ≤ b ∧ b ≤ 99
  · rw [if_pos q1] at e1
    rw [if_pos (Or.inl q1)]
    simp (disch := omega) only [↓grd_u, ↓bnd_e, ↓orf_u, ↓oif_u, ↓cal_u, ↓calX_u, ↓inrO_u, ↓reduceIte, EM, EMg, EMs, z0, oi, n_inbT, n_cntT, n_ltT, n_ltF, n_leT, n_leF, n_eqT, n_eqF, n_m1T, n_m1F, n_m1F', n_cl, n_add, n_mul, ro_at, ro_ro, up_at, up_up, e1, nz1]
    rfl
  · rw [if_neg q1] at e1
    by_cases q2 : 0 < sgo b
    · have := (sgo_n q2).1
      rw [if_pos q2] at e2
      rw [if_neg (show ¬ ((97 ≤ b ∧ b ≤ 99) ∨ b = 41) by omega), if_pos q2]
      simp (disch := omega) only [↓grd_u, ↓bnd_e, ↓orf_u, ↓oif_u, ↓cal_u, ↓calX_u, ↓inrO_u, ↓reduceIte, EM, EMg, EMs, z0, oi, n_inbT, n_cntT, n_ltT, n_ltF, n_leT, n_leF, n_eqT, n_eqF, n_m1T, n_m1F, n_m1F', n_cl, n_add, n_mul, ro_at, ro_ro, up_at, up_up, e1, e2, nz1]
      rfl
    · rw [if_neg q2] at e2
      by_cases q3 : b = 41
      · rw [if_pos (Or.inr q3)]
        simp (disch := omega) only [↓grd_u, ↓bnd_e, ↓orf_u, ↓oif_u, ↓cal_u, ↓calX_u, ↓inrO_u, ↓reduceIte, EM, EMg, EMs, z0, oi, n_inbT, n_cntT, n_ltT, n_ltF, n_leT, n_leF, n_eqT, n_eqF, n_m1T, n_m1F, n_m1F', n_cl, n_add, n_mul, ro_at, ro_ro, up_at, up_up, e1, e2, nz1]
        rfl
      · rw [if_neg (show ¬ ((97 ≤ b ∧ b ≤ 99) ∨ b = 41) by omega), if_neg q2]
        simp (disch := omega) only [↓grd_u, ↓bnd_e, ↓orf_u, ↓oif_u, ↓cal_u, ↓calX_u, ↓inrO_u, ↓reduceIte, EM, EMg, EMs, z0, oi, n_inbT, n_cntT, n_ltT, n_ltF, n_leT, n_leF, n_eqT, n_eqF, n_m1T, n_m1F, n_m1F', n_cl, n_add, n_mul, ro_at, ro_ro, up_at, up_up, e1, e2, nz0]
        rfl
theorem c_canFollow {b c o : Nat} (hb : b < 128) (hc : c < 128) (ho : o < 1000) : f_X9_canFollow (nI b) (nI c) (nI o) g = some (nI (b1 (cf (kB b) o c)), g) := by
  have e1 := c_isLb (g := g) hc
  have e2 := c_isSg (g := g) hc
  have e3 := c_isLb (g := g) hb
  have e4 := c_endsF (g := g) hb
  unfold f_X9_canFollow g_X9_canFollow_13 g_X9_canFollow_35 g_X9_canFollow_40 g_X9_canFollow_64 g_X9_canFollow_68 g_X9_canFollow_69
  unfold b1 at *
  by_cases q1 : 97 ≤ c ∧ c ≤ 99
  · rw [if_pos q1] at e1
    rw [if_pos (show cf (kB b) o c from Or.inl q1)]
    simp (disch := omega) only [↓grd_u, ↓bnd_e, ↓orf_u, ↓oif_u, ↓cal_u, ↓calX_u, ↓inrO_u, ↓reduceIte, EM, EMg, EMs, z0, oi, n_inbT, n_cntT, n_ltT, n_ltF, n_leT, n_leF, n_eqT, n_eqF, n_m1T, n_m1F, n_m1F', n_cl, n_add, n_mul, ro_at, ro_ro, up_at, up_up, e1]
  rw [if_neg q1] at e1
  by_cases q2 : c = 40
  · rw [if_pos (show cf (kB b) o c from Or.inr (Or.inl q2))]
    simp (disch := omega) only [↓grd_u, ↓bnd_e, ↓orf_u, ↓oif_u, ↓cal_u, ↓calX_u, ↓inrO_u, ↓reduceIte, EM, EMg, EMs, z0, oi, n_inbT, n_cntT, n_ltT, n_ltF, n_leT, n_leF, n_eqT, n_eqF, n_m1T, n_m1F, n_m1F', n_cl, n_add, n_mul, ro_at, ro_ro, up_at, up_up, e1]
  by_cases q3 : 0 < sgo c
  · rw [if_pos q3] at e2
    have s3 := (sgo_n q3).1
    by_cases q4 : 97 ≤ b ∧ b ≤ 99
    · rw [if_pos q4] at e3
      have k1 : kB b = 1 := if_pos (Or.inl q4)
      rw [if_pos (show cf (kB b) o c from Or.inr (Or.inr (Or.inl ⟨q3, k1⟩)))]
      simp (disch := omega) only [↓grd_u, ↓bnd_e, ↓orf_u, ↓oif_u, ↓cal_u, ↓calX_u, ↓inrO_u, ↓reduceIte, EM, EMg, EMs, z0, oi, n_inbT, n_cntT, n_ltT, n_ltF, n_leT, n_leF, n_eqT, n_eqF, n_m1T, n_m1F, n_m1F', n_cl, n_add, n_mul, ro_at, ro_ro, up_at, up_up, e1, e2, e3, nz1]
    · rw [if_neg q4] at e3
      by_cases q5 : b = 41
      · have k1 : kB b = 1 := if_pos (Or.inr q5)
        rw [if_pos (show cf (kB b) o c from Or.inr (Or.inr (Or.inl ⟨q3, k1⟩)))]
        simp (disch := omega) only [↓grd_u, ↓bnd_e, ↓orf_u, ↓oif_u, ↓cal_u, ↓calX_u, ↓inrO_u, ↓reduceIte, EM, EMg, EMs, z0, oi, n_inbT, n_cntT, n_ltT, n_ltF, n_leT, n_leF, n_eqT, n_eqF, n_m1T, n_m1F, n_m1F', n_cl, n_add, n_mul, ro_at, ro_ro, up_at, up_up, e1, e2, e3, nz1]
      · have k1 : kB b ≠ 1 := by
          unfold kB
          rw [if_neg (by omega)]
          split <;> omega
        rw [if_neg (show ¬ cf (kB b) o c by unfold cf; omega)]
        simp (disch := omega) only [↓grd_u, ↓bnd_e, ↓orf_u, ↓oif_u, ↓cal_u, ↓calX_u, ↓inrO_u, ↓reduceIte, EM, EMg, EMs, z0, oi, n_inbT, n_cntT, n_ltT, n_ltF, n_leT, n_leF, n_eqT, n_eqF, n_m1T, n_m1F, n_m1F', n_cl, n_add, n_mul, ro_at, ro_ro, up_at, up_up, e1, e2, e3, nz0]
  rw [if_neg q3] at e2
  by_cases q4 : kB b = 0
  · rw [if_neg (show ¬ kB b ≠ 0 from fun z => z q4)] at e4
    rw [if_neg (show ¬ cf (kB b) o c by unfold cf; omega)]
    simp (disch := omega) only [↓grd_u, ↓bnd_e, ↓orf_u, ↓oif_u, ↓cal_u, ↓calX_u, ↓inrO_u, ↓reduceIte, EM, EMg, EMs, z0, oi, n_inbT, n_cntT, n_ltT, n_ltF, n_leT, n_leF, n_eqT, n_eqF, n_m1T, n_m1F, n_m1F', n_cl, n_add, n_mul, ro_at, ro_ro, up_at, up_up, e1, e2, e4, nz0]
  rw [if_pos q4] at e4
  by_cases q5 : c = 124
  · rw [if_pos (show cf (kB b) o c from Or.inr (Or.inr (Or.inr (Or.inl ⟨q5, q4⟩))))]
    simp (disch := omega) only [↓grd_u, ↓bnd_e, ↓orf_u, ↓oif_u, ↓cal_u, ↓calX_u, ↓inrO_u, ↓reduceIte, EM, EMg, EMs, z0, oi, n_inbT, n_cntT, n_ltT, n_ltF, n_leT, n_leF, n_eqT, n_eqF, n_m1T, n_m1F, n_m1F', n_cl, n_add, n_mul, ro_at, ro_ro, up_at, up_up, e1, e2, e4, nz1]
  by_cases q6 : c = 41
  · by_cases q7 : o = 0
    · rw [if_neg (show ¬ cf (kB b) o c by unfold cf; omega), q7]
      simp (disch := omega) only [↓grd_u, ↓bnd_e, ↓orf_u, ↓oif_u, ↓cal_u, ↓calX_u, ↓inrO_u, ↓reduceIte, EM, EMg, EMs, z0, oi, n_inbT, n_cntT, n_ltT, n_ltF, n_leT, n_leF, n_eqT, n_eqF, n_m1T, n_m1F, n_m1F', n_cl, n_add, n_mul, ro_at, ro_ro, up_at, up_up, e1, e2, e4, nz0]
    · rw [if_pos (show cf (kB b) o c from Or.inr (Or.inr (Or.inr (Or.inr ⟨q6, q4, q7⟩))))]
      simp (disch := omega) only [↓grd_u, ↓bnd_e, ↓orf_u, ↓oif_u, ↓cal_u, ↓calX_u, ↓inrO_u, ↓reduceIte, EM, EMg, EMs, z0, oi, n_inbT, n_cntT, n_ltT, n_ltF, n_leT, n_leF, n_eqT, n_eqF, n_m1T, n_m1F, n_m1F', n_cl, n_add, n_mul, ro_at, ro_ro, up_at, up_up, e1, e2, e4, nz1]
  · rw [if_neg (show ¬ cf (kB b) o c by unfold cf; omega)]
    simp (disch := omega) only [↓grd_u, ↓bnd_e, ↓orf_u, ↓oif_u, ↓cal_u, ↓calX_u, ↓inrO_u, ↓reduceIte, EM, EMg, EMs, z0, oi, n_inbT, n_cntT, n_ltT, n_ltF, n_leT, n_leF, n_eqT, n_eqF, n_m1T, n_m1F, n_m1F', n_cl, n_add, n_mul, ro_at, ro_ro, up_at, up_up, e1, e2, e4, nz0]
theorem TX_A {A' : Nat → Nat → Int32} (t : TX A T) (h1 : A' 36 2 = A 36 2) (h2 : A' 37 = A 37) : TX A' T := ⟨by rw [h1]; exact t.1, t.2.1, fun k hk => by rw [h2]; exact t.2.2 k hk⟩
/-- how far a pattern goes -/
theorem c_rp13 : ∀ (N L n0 i b : Nat) (s : rst) (A : Nat → Nat → Int32), T.length - i < N → N < L → TX A T → A 36 3 = nI i → i ≤ T.length → RIn s → PB n0 s → n0 + (T.length - i) ≤ 60 → b < 128 → kB b = s.2.2 →
    lp (b_X9_readPattern_13 (ca n 36)) L (nI (opn s.2.1), nI b, E n h A M R) = some (nI (b1 (rdOk (rdP (T.drop i) s).2)), E n h (ro A 36 (up (up (A 36) 3 (nI (i + (rdP (T.drop i) s).1))) 6 (nI (i + (rdP (T.drop i) s).1)))) M R) := by
  intro N
  induction N with
  | zero => intro L n0 i b s A hN; exact absurd hN (Nat.not_lt_zero _)
  | succ N ih =>
    intro L n0 i b s A hN hL t hi hi2 hI hP hn hb hk
    obtain ⟨L, rfl⟩ : ∃ L', L = L' + 1 := ⟨L - 1, by omega⟩
    have t60 := t.2.1
    have t1 := t.1
    have ho := opn_le s.2.1
    have p2 := hP.2
    -- the end of it
    have fin : rdP (T.drop i) s = (0, s) → g_X9_readPattern_83 (ca n 36) (nI (opn s.2.1)) (nI b) (E n h A M R) = some (nI (b1 (rdOk (rdP (T.drop i) s).2)), E n h (ro A 36 (up (up (A 36) 3 (nI (i + (rdP (T.drop i) s).1))) 6 (nI (i + (rdP (T.drop i) s).1)))) M R) := fun hst => by
      rw [hst]
      have e36 : ro A 36 (up (up (A 36) 3 (nI (i + 0))) 6 (nI (i + 0))) = ro A 36 (up (A 36) 6 (nI i)) := by
        rw [Nat.add_zero]
        congr 1
        funext j
        unfold up
        by_cases q : j = 6
        · rw [if_pos q, if_pos q]
        · rw [if_neg q, if_neg q]
          by_cases q3 : j = 3
          · rw [if_pos q3, q3, hi]
          · rw [if_neg q3]
      dsimp only
      rw [e36]
      have e4 := fun g => c_endsF (g := g) hb
      unfold g_X9_readPattern_83 g_X9_readPattern_106 g_X9_readPattern_107
      by_cases ok : opn s.2.1 = 0
      · by_cases k0 : kB b = 0
        · rw [show b1 (kB b ≠ 0) = 0 from if_neg (fun z => z k0)] at e4
          rw [show b1 (rdOk s) = 0 from if_neg (fun z => z.1 (by omega)), ok]
          simp (disch := omega) only [↓grd_u, ↓bnd_e, ↓orf_u, ↓oif_u, ↓cal_u, ↓calX_u, ↓inrO_u, ↓reduceIte, EM, EMg, EMs, z0, oi, n_inbT, n_cntT, n_ltT, n_ltF, n_leT, n_leF, n_eqT, n_eqF, n_m1T, n_m1F, n_m1F', n_cl, n_add, n_mul, ro_at, ro_ro, up_at, up_up, EC, ECg, ECs, hi, e4, nz0]
        · rw [show b1 (kB b ≠ 0) = 1 from if_pos k0] at e4
          rw [show b1 (rdOk s) = 1 from if_pos ⟨by omega, ok⟩, ok]
          simp (disch := omega) only [↓grd_u, ↓bnd_e, ↓orf_u, ↓oif_u, ↓cal_u, ↓calX_u, ↓inrO_u, ↓reduceIte, EM, EMg, EMs, z0, oi, n_inbT, n_cntT, n_ltT, n_ltF, n_leT, n_leF, n_eqT, n_eqF, n_m1T, n_m1F, n_m1F', n_cl, n_add, n_mul, ro_at, ro_ro, up_at, up_up, EC, ECg, ECs, hi, e4, nz1]
      · rw [show b1 (rdOk s) = 0 from if_neg (fun z => ok z.2)]
        simp (disch := omega) only [↓grd_u, ↓bnd_e, ↓orf_u, ↓oif_u, ↓cal_u, ↓calX_u, ↓inrO_u, ↓reduceIte, EM, EMg, EMs, z0, oi, n_inbT, n_cntT, n_ltT, n_ltF, n_leT, n_leF, n_eqT, n_eqF, n_m1T, n_m1F, n_m1F', n_cl, n_add, n_mul, ro_at, ro_ro, up_at, up_up, EC, ECg, ECs, hi, nz0]
    rcases Nat.lt_or_ge i T.length with hl | hl
    · have ec := c_char (n := n) (h := h) (M := M) (R := R) t hl
      have hc := (t.2.2 i hl).2
      have ef := fun g => c_canFollow (g := g) (b := b) (c := T.getD i 0) (o := opn s.2.1) hb (by omega) (by omega)
      rw [hk] at ef
      rcases rd1_ok (c := T.getD i 0) hI hP with ⟨z, z2⟩ | ⟨z2, s1, z, y1, y2, y3, y4⟩
      · have hst : rdP (T.drop i) s = (0, s) := by
          rw [drop_c hl]
          unfold rdP
          rw [z]
        rw [show b1 (cf s.2.2 (opn s.2.1) (T.getD i 0)) = 0 from if_neg z2] at ef
        rw [lp_en (r := _)]
        unfold b_X9_readPattern_13 b0_X9_readPattern_13
        simp (disch := omega) only [↓grd_u, ↓bnd_e, ↓orf_u, ↓oif_u, ↓cal_u, ↓calX_u, ↓inrO_u, ↓reduceIte, EM, EMg, EMs, z0, oi, n_inbT, n_cntT, n_ltT, n_ltF, n_leT, n_leF, n_eqT, n_eqF, n_m1T, n_m1F, n_m1F', n_cl, n_add, n_mul, ro_at, ro_ro, up_at, up_up, EC, ECg, t1, hi, ec, ef, fin hst]
      · rw [show b1 (cf s.2.2 (opn s.2.1) (T.getD i 0)) = 1 from if_pos z2] at ef
        obtain ⟨c1, c2⟩ := Cont_2 (Cont_1 hl z)
        obtain ⟨A1, hA1⟩ : ∃ A1, A1 = ro A 36 (up (A 36) 3 (nI (i + 1))) := ⟨_, rfl⟩
        have q := ih L (n0 + 1) (i + 1) (T.getD i 0) s1 A1 (by omega) (by omega) (TX_A t (by rw [hA1, ro_at, up_ne _ _ (by decide)]) (by rw [hA1, ro_ne _ _ (by decide)])) (by rw [hA1, ro_at, up_at]) hl y1 y2 (by omega) (by omega) (by rw [y3]; exact (nk_kB z2).symm)
        rw [c1, c2]
        have e36 : ro A1 36 (up (up (A1 36) 3 (nI (i + 1 + (rdP (T.drop (i + 1)) s1).1))) 6 (nI (i + 1 + (rdP (T.drop (i + 1)) s1).1))) = ro A 36 (up (up (A 36) 3 (nI (i + 1 + (rdP (T.drop (i + 1)) s1).1))) 6 (nI (i + 1 + (rdP (T.drop (i + 1)) s1).1))) := by
          rw [hA1, ro_at, ro_ro, up_up]
        rw [e36] at q
        rw [lp_nx (s' := (nI (opn s1.2.1), nI (T.getD i 0), E n h A1 M R)), q]
        rw [y4]
        unfold b_X9_readPattern_13 b0_X9_readPattern_13 g_X9_readPattern_70 no
        by_cases q1 : T.getD i 0 = 40
        · rw [q1] at ec ef ⊢
          rw [if_pos (show (40 : Nat) = 40 from rfl)]
          simp (disch := omega) only [↓grd_u, ↓bnd_e, ↓orf_u, ↓oif_u, ↓cal_u, ↓calX_u, ↓inrO_u, ↓reduceIte, EM, EMg, EMs, z0, oi, n_inbT, n_cntT, n_ltT, n_ltF, n_leT, n_leF, n_eqT, n_eqF, n_m1T, n_m1F, n_m1F', n_cl, n_add, n_mul, ro_at, ro_ro, up_at, up_up, EC, ECg, ECs, t1, hi, ec, ef, ← hA1]
        · by_cases q2 : T.getD i 0 = 41
          · have o1 : 1 ≤ opn s.2.1 := by
              unfold cf at z2
              have : sgo 41 = 0 := rfl
              rw [q2, this] at z2
              omega
            rw [q2] at ec ef ⊢
            rw [if_neg (show ¬ (41 : Nat) = 40 by decide), if_pos (show (41 : Nat) = 41 from rfl)]
            have hnd := n_dec0 (opn s.2.1)
            simp (disch := omega) only [↓grd_u, ↓bnd_e, ↓orf_u, ↓oif_u, ↓cal_u, ↓calX_u, ↓inrO_u, ↓reduceIte, EM, EMg, EMs, z0, oi, n_inbT, n_cntT, n_ltT, n_ltF, n_leT, n_leF, n_eqT, n_eqF, n_m1T, n_m1F, n_m1F', n_cl, n_add, n_mul, ro_at, ro_ro, up_at, up_up, EC, ECg, ECs, t1, hi, ec, ef, hnd, n_sub, ← hA1]
          · rw [if_neg q1, if_neg q2]
            simp (disch := omega) only [↓grd_u, ↓bnd_e, ↓orf_u, ↓oif_u, ↓cal_u, ↓calX_u, ↓inrO_u, ↓reduceIte, EM, EMg, EMs, z0, oi, n_inbT, n_cntT, n_ltT, n_ltF, n_leT, n_leF, n_eqT, n_eqF, n_m1T, n_m1F, n_m1F', n_cl, n_add, n_mul, ro_at, ro_ro, up_at, up_up, EC, ECg, ECs, t1, hi, ec, ef, ← hA1]
    · have hst : rdP (T.drop i) s = (0, s) := by
        rw [List.drop_eq_nil_of_le hl]
        rfl
      rw [lp_en (r := _)]
      unfold b_X9_readPattern_13 b0_X9_readPattern_13
      simp (disch := omega) only [↓grd_u, ↓bnd_e, ↓orf_u, ↓oif_u, ↓cal_u, ↓calX_u, ↓inrO_u, ↓reduceIte, EM, EMg, EMs, z0, oi, n_inbT, n_cntT, n_ltT, n_ltF, n_leT, n_leF, n_eqT, n_eqF, n_m1T, n_m1F, n_m1F', n_cl, n_add, n_mul, ro_at, ro_ro, up_at, up_up, EC, ECg, t1, hi, fin hst]
theorem c_readPattern {i : Nat} (t : TX A T) (hi : A 36 3 = nI i) (hi2 : i ≤ T.length) : f_X9_readPattern (ca n 36) (E n h A M R) = some (nI (b1 (rdOk (pR T i).2)), E n h (ro A 36 (up (up (up (A 36) 5 (nI i)) 3 (nI (i + (pR T i).1))) 6 (nI (i + (pR T i).1)))) M R) := by
  have t60 := t.2.1
  obtain ⟨A1, hA1⟩ : ∃ A1, A1 = ro A 36 (up (A 36) 5 (nI i)) := ⟨_, rfl⟩
  have q := c_rp13 (n := n) (h := h) (M := M) (R := R) (T := T) 1000 100000 0 i 40 rs0 A1 (by omega) (by decide) (TX_A t (by rw [hA1, ro_at, up_ne _ _ (by decide)]) (by rw [hA1, ro_ne _ _ (by decide)])) (by rw [hA1, ro_at, up_ne _ _ (by decide)]; exact hi) hi2 rs0_ok.1 rs0_ok.2 (by omega) (by decide) rfl
  have e36 : ro A1 36 (up (up (A1 36) 3 (nI (i + (pR T i).1))) 6 (nI (i + (pR T i).1))) = ro A 36 (up (up (up (A 36) 5 (nI i)) 3 (nI (i + (pR T i).1))) 6 (nI (i + (pR T i).1))) := by
    rw [hA1, ro_at, ro_ro]
  have q : g_X9_readPattern_13 (ca n 36) (nI 0) (nI 40) (E n h A1 M R) = some (nI (b1 (rdOk (pR T i).2)), E n h (ro A1 36 (up (up (A1 36) 3 (nI (i + (pR T i).1))) 6 (nI (i + (pR T i).1)))) M R) := q
  rw [e36] at q
  unfold f_X9_readPattern
  simp (disch := omega) only [↓grd_u, ↓bnd_e, ↓orf_u, ↓oif_u, ↓cal_u, ↓calX_u, ↓inrO_u, ↓reduceIte, EM, EMg, EMs, z0, oi, n_inbT, n_cntT, n_ltT, n_ltF, n_leT, n_leF, n_eqT, n_eqF, n_m1T, n_m1F, n_m1F', n_cl, n_add, n_mul, ro_at, ro_ro, up_at, up_up, EC, ECg, ECs, hi, ← hA1, q]
end CRD
