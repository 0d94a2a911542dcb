/-! the class: isFinite -/
def ynr (y : List Nat) : Nat → List Nat
  | 0 => []
  | n + 1 => y ++ ynr y n
theorem ynr_le3 {y : List Nat} (h : le3 y) : ∀ n, le3 (ynr y n)
  | 0 => le3_nil
  | n + 1 => le3_app h (ynr_le3 h n)
theorem ynr_len {y : List Nat} (h : 1 ≤ y.length) : ∀ n, n ≤ (ynr y n).length
  | 0 => Nat.le_refl _
  | n + 1 => by
    have := ynr_len h n
    show n + 1 ≤ (y ++ ynr y n).length
    rw [List.length_append]
    omega
theorem ynr_rn {α : Type} {nx : α → Nat → α} {q : α} {y : List Nat} (h : rn nx q y = q) : ∀ n, rn nx q (ynr y n) = q
  | 0 => rfl
  | n + 1 => by
    show rn nx q (y ++ ynr y n) = q
    rw [rn_app, h, ynr_rn h n]
theorem pump {g : Glu} (ok : GluOK g) {w : List Nat} (hw : le3 w) (ha : accW g w = true) (hl : gL g ≤ w.length) (N : Nat) : ∃ u, le3 u ∧ N ≤ u.length ∧ accW g u = true := by
  have htk : ∀ i, le3 (w.take i) := fun i c hc => hw c (List.take_subset _ _ hc)
  have hex : ∃ i i', i < i' ∧ i' ≤ w.length ∧ rn (gS g) 0 (w.take i) = rn (gS g) 0 (w.take i') := by
    refine Classical.byContradiction (fun hno => ?_)
    have := pg_le (gL g) (w.length + 1) (fun i => rn (gS g) 0 (w.take i)) (fun j _ => (rnS ok _ (htk j) 0 (gL_pos g)).1) (fun i j hi hj e => by
      rcases Nat.lt_trichotomy i j with z | z | z
      · exact absurd ⟨i, j, z, by omega, e⟩ hno
      · exact z
      · exact absurd ⟨j, i, z, by omega, e.symm⟩ hno)
    omega
  obtain ⟨i, i', h1, h2, h3⟩ := hex
  have e1 := (rnS ok _ (htk i) 0 (gL_pos g)).2
  have e2 := (rnS ok _ (htk i') 0 (gL_pos g)).2
  rw [gO_0] at e1 e2
  have hsp : w.take i' = w.take i ++ (w.take i').drop i := by
    have a := (List.take_append_drop i (w.take i')).symm
    rw [List.take_take, Nat.min_eq_left (by omega)] at a
    exact a
  have hy : rn (gnext g) (rn (gnext g) 128 (w.take i)) ((w.take i').drop i) = rn (gnext g) 128 (w.take i) := by
    rw [← rn_app, ← hsp, e2, e1, h3]
  have hyl : 1 ≤ ((w.take i').drop i).length := by
    rw [List.length_drop, List.length_take]
    omega
  refine ⟨w.take i ++ (ynr ((w.take i').drop i) N ++ w.drop i'), le3_app (htk i) (le3_app (ynr_le3 (fun c hc => htk i' c (List.drop_subset _ _ hc)) N) (fun c hc => hw c (List.drop_subset _ _ hc))), ?_, ?_⟩
  · have := ynr_len hyl N
    rw [List.length_append, List.length_append]
    omega
  · unfold accW grn
    rw [rn_app, rn_app, ynr_rn hy]
    have h4 : rn (gnext g) 128 (w.take i) = rn (gnext g) 128 (w.take i') := by rw [e1, e2, h3]
    rw [h4, ← rn_app, List.take_append_drop]
    exact ha
theorem pw_pth {fo ol : Nat → Nat} {L : Nat} : ∀ (w : List Nat) (k : Nat), pw fo ol L k w → pth fo (fun _ => True) w.length k := fun w => by
  induction w with
  | nil => exact fun k _ => (pth_0 ..).mpr trivial
  | cons c w ih =>
    intro k h
    obtain ⟨j, j1, -, j3⟩ := (pw_c ..).mp h
    exact (pth_s ..).mpr ⟨j, j1, ih j j3⟩
theorem pth_app {fo : Nat → Nat} {P Q : Nat → Prop} : ∀ (m k : Nat), pth fo P m k → (∀ j, P j → PT fo Q j) → ∃ n, m ≤ n ∧ pth fo Q n k := fun m => by
  induction m with
  | zero =>
    intro k h hq
    obtain ⟨n, hn⟩ := hq k ((pth_0 ..).mp h)
    exact ⟨n, Nat.zero_le _, hn⟩
  | succ m ih =>
    intro k h hq
    obtain ⟨j, j1, j2⟩ := (pth_s ..).mp h
    obtain ⟨n, n1, n2⟩ := ih j j2 hq
    exact ⟨n + 1, by omega, (pth_s ..).mpr ⟨j, j1, n2⟩⟩
theorem fin_link {p : List Nat} (hw : WF p) (h7 : nLet p ≤ 7) : rdN (gluOf p).2.2.2.1 (2 ^ nLet p - 1) 7 = 0 ↔ ¬ infG (gluOf p) := by
  have ok := glu_ok hw h7
  obtain ⟨A, b, -, b7, cr, f0, eb, hl⟩ := glu_lang hw h7
  obtain ⟨-, -, -, a4⟩ := GRun_all hw g0 ⟨by decide, by decide, fun v hv => (nomatch hv), fun _ => (by decide : 0 < 128), fun _ => (by decide : 0 < 128)⟩ (by show 0 + _ ≤ 7; omega) (by show 0 + _ ≤ 7; omega)
  have ebn : nLet p = b := by
    rw [← eb, a4]
    show _ = 0 + nLet p
    omega
  rw [ebn]
  obtain ⟨g, hge⟩ : ∃ g, g = gluOf p := ⟨_, rfl⟩
  rw [← hge] at ok cr f0 hl
  rw [← hge]
  obtain ⟨k1, k2, k3, k4, k5, k6, k7, k8⟩ := cr
  have hv0 : 2 ^ b - 1 < 128 := by
    have : 2 ^ b ≤ 2 ^ 7 := Nat.pow_le_pow_right (by decide) b7
    omega
  have hbit : ∀ j, (2 ^ b - 1).testBit j = true ↔ j < b := fun j => by rw [Nat.testBit_two_pow_sub_one, decide_eq_true_eq]
  have hfo := ok.2.2.2.1
  constructor
  · intro h0 hinf
    have hB : ∀ j, j < 7 → Bd g.2.2.2.1 j := fun j hj => rdN_Bd hfo hv0 (fun j _ hn => ⟨1, fun m hm hp => by
      obtain ⟨m', rfl⟩ : ∃ m', m = m' + 1 := ⟨m - 1, by omega⟩
      obtain ⟨i, i1, -⟩ := (pth_s ..).mp hp
      rw [f0 j (by
        have := hbit j
        rcases Nat.lt_or_ge j b with z | z
        · exact absurd (this.mpr z) hn
        · exact z), Nat.zero_testBit] at i1
      cases i1⟩) 7 j hj (by rw [h0, Nat.zero_testBit]; decide)
    obtain ⟨N, hN⟩ := Bd_all (fo := g.2.2.2.1) (fun _ => True) 7 (fun j hj _ => hB j hj)
    obtain ⟨k, hk, hek⟩ := hinf
    obtain ⟨w, w1, w2, w3⟩ := ek_w.mp hek
    obtain ⟨u, u1, u2, u3⟩ := pump ok w1 w3 (by omega) (N + 1)
    have hA := (k7 u).mp ((hl u).mp u3)
    cases u with
    | nil => simp at u2
    | cons c u =>
      obtain ⟨j, j1, -, j3⟩ := (pl_c ..).mp hA
      rw [List.length_cons] at u2
      exact hN j (by have := (k3 j j1).2; omega) trivial u.length (by omega) (pw_pth u j j3)
  · intro hinf
    rcases Nat.eq_zero_or_pos (rdN g.2.2.2.1 (2 ^ b - 1) 7) with e | e
    · exact e
    · exfalso
      rcases rdN_key (fo := g.2.2.2.1) hv0 7 with ⟨-, hst⟩ | hct
      · obtain ⟨v, hv⟩ : ∃ v, v = rdN g.2.2.2.1 (2 ^ b - 1) 7 := ⟨_, rfl⟩
        rw [← hv] at hst e
        have hv128 : v < 128 := by rw [hv]; exact rdN_lt hv0 7
        have hsub : ∀ r j, (rdN g.2.2.2.1 (2 ^ b - 1) r).testBit j = true → j < b := fun r => by
          induction r with
          | zero => exact fun j hj => (hbit j).mp hj
          | succ r ih => exact fun j hj => ih j (hsN_sub 7 hj)
        have hvb : ∀ j, v.testBit j = true → j < b := fun j hj => hsub 7 j (by rw [← hv]; exact hj)
        have long : ∀ m k, v.testBit k = true → pth g.2.2.2.1 (fun j => v.testBit j = true) m k := fun m => by
          induction m with
          | zero => exact fun k hk => (pth_0 ..).mpr hk
          | succ m ih =>
            intro k hk
            obtain ⟨j, hj⟩ := ne0_b.mp (hst k (bit7 hv128 hk) hk)
            obtain ⟨j1, j2⟩ := and_b.mp hj
            exact (pth_s ..).mpr ⟨j, j1, ih j j2⟩
        obtain ⟨k, hk⟩ := ne0_b.mp (show v ≠ 0 by omega)
        obtain ⟨L0, hL0⟩ : ∃ L0, L0 = gL g := ⟨_, rfl⟩
        obtain ⟨n1, hn1, hp1⟩ := pth_app (fo := g.2.2.2.1) (P := fun j => v.testBit j = true) (Q := fun j => g.2.2.1.testBit j = true) L0 k (long L0 k hk) (fun j hj => (k8 j (Nat.zero_le _) (hvb j hj)).2)
        obtain ⟨⟨i, i1, m2, hm2⟩, -⟩ := k8 k (Nat.zero_le _) (hvb k hk)
        have hlong : ∃ n, gL g ≤ n ∧ pth g.2.2.2.1 (fun j => g.2.2.1.testBit j = true) n i := by
          have gen : ∀ m i, pth g.2.2.2.1 (fun j => j = k) m i → ∃ n, n1 ≤ n ∧ pth g.2.2.2.1 (fun j => g.2.2.1.testBit j = true) n i := fun m => by
            induction m with
            | zero =>
              intro i hi
              have := (pth_0 ..).mp hi
              rw [this]
              exact ⟨n1, Nat.le_refl _, hp1⟩
            | succ m ih =>
              intro i hi
              obtain ⟨j, j1, j2⟩ := (pth_s ..).mp hi
              obtain ⟨n, q1, q2⟩ := ih j j2
              exact ⟨n + 1, by omega, (pth_s ..).mpr ⟨j, j1, q2⟩⟩
          obtain ⟨n, q1, q2⟩ := gen m2 i hm2
          exact ⟨n, by omega, q2⟩
        obtain ⟨n, q1, q2⟩ := hlong
        obtain ⟨r1, r2⟩ := k3 i i1
        obtain ⟨w, w1, w2, w3⟩ := pth_w k5 k6 n i r1 r2 q2
        obtain ⟨c, c1, c2⟩ := k6 i r1 r2
        refine hinf ⟨(c :: w).length, by rw [List.length_cons]; omega, ek_w.mpr ⟨c :: w, fun d hd => ?_, rfl, (hl _).mpr ((k7 _).mpr ((pl_c ..).mpr ⟨i, i1, c2, w3⟩))⟩⟩
        rcases List.mem_cons.mp hd with z | z
        · rw [z]; exact c1
        · exact w1 d z
      · have := ct_0 (rdN_lt (fo := g.2.2.2.1) hv0 7) (by omega)
        omega
section CFIN
variable {n : Nat} {h : mH} {A M : Nat → Nat → Int32} {R : Nat → Nat → Option Nat} {S : St} {g g' : Glu} {b m : Nat}
theorem c_haveCycle (hp : PosC A 44 g m) (hm : m ≤ 7) (ok : GluOK g) : f_X5_haveCycle (ca n 44) (E n h A M R) = some (nI (pv (rdN g.2.2.2.1 (2 ^ m - 1) 7 ≠ 0)), E n h A M R) := by
  obtain ⟨p1, -, -, -, p5, -⟩ := hp
  have e1 := EPo bPo_1
  have e2 := EPog bPo_1
  have hv0 : 2 ^ m - 1 < 128 := by
    have : 2 ^ m ≤ 2 ^ 7 := Nat.pow_le_pow_right (by decide) hm
    omega
  have hpw : 1 ≤ 2 ^ m := Nat.one_le_two_pow
  have hsh := n_shl1 m (by omega)
  have hin : ∀ v, v < 128 → ∀ r, r < 7 → g_X5_haveCycle_19 (ca n 44) (nI v) (nI r) (nI 0) (E n h A M R) = some (.inl (nI (hsN g.2.2.2.1 v 7), nI (r + 1), E n h A M R)) := fun v hv r hr => by
    unfold g_X5_haveCycle_19
    refine lp_for0 (f := b_X5_haveCycle_19 (ca n 44) (nI r)) (fun k => (nI (hsN g.2.2.2.1 v k), nI k, E n h A M R)) 7 _ (fun k hk => ?_) ?_ (L := 100000) (by decide)
    · have hvk := hsN_lt (fo := g.2.2.2.1) hv k
      have hfk := p5 k hk
      have hcl := clr_I _ hvk k hk
      have hx : (g.2.2.2.1 k &&& hsN g.2.2.2.1 v k) < 128 := Nat.lt_of_le_of_lt Nat.and_le_right hvk
      have es : hsN g.2.2.2.1 v (k + 1) = hst g.2.2.2.1 (hsN g.2.2.2.1 v k) k := rfl
      rw [es]
      unfold b_X5_haveCycle_19 b0_X5_haveCycle_19 g_X5_haveCycle_44 hst
      by_cases z : g.2.2.2.1 k &&& hsN g.2.2.2.1 v k = 0
      · rw [if_pos z]
        simp (disch := omega) only [↓grd_u, ↓bnd_e, ↓orf_u, ↓oif_u, ↓cal_u, ↓calX_u, ↓inrO_u, ↓reduceIte, EM, EMg, EMs, z0, oi, n_inbT, n_cntT, n_ltT, n_ltF, n_leT, n_leF, n_eqT, n_eqF, n_m1T, n_m1F, n_m1F', n_cl, n_add, n_mul, ro_at, ro_ro, up_at, up_up, e1, e2, hfk, n_and, z, hcl]
      · rw [if_neg z]
        obtain ⟨y, hy⟩ : ∃ y, y = g.2.2.2.1 k &&& hsN g.2.2.2.1 v k := ⟨_, rfl⟩
        rw [← hy] at z hx
        simp (disch := omega) only [↓grd_u, ↓bnd_e, ↓orf_u, ↓oif_u, ↓cal_u, ↓calX_u, ↓inrO_u, ↓reduceIte, EM, EMg, EMs, z0, oi, n_inbT, n_cntT, n_ltT, n_ltF, n_leT, n_leF, n_eqT, n_eqF, n_m1T, n_m1F, n_m1F', n_cl, n_add, n_mul, ro_at, ro_ro, up_at, up_up, e1, e2, hfk, n_and, ← hy]
    · unfold b_X5_haveCycle_19 b0_X5_haveCycle_19
      simp (disch := omega) only [↓grd_u, ↓bnd_e, ↓orf_u, ↓oif_u, ↓cal_u, ↓calX_u, ↓inrO_u, ↓reduceIte, EM, EMg, EMs, z0, oi, n_inbT, n_cntT, n_ltT, n_ltF, n_leT, n_leF, n_eqT, n_eqF, n_m1T, n_m1F, n_m1F', n_cl, n_add, n_mul, ro_at, ro_ro, up_at, up_up]
  have hout : g_X5_haveCycle_11 (ca n 44) (nI (2 ^ m - 1)) (nI 0) (E n h A M R) = some (nI (pv (rdN g.2.2.2.1 (2 ^ m - 1) 7 ≠ 0)), E n h A M R) := by
    unfold g_X5_haveCycle_11
    refine lp_for0 (f := b_X5_haveCycle_11 (ca n 44)) (fun r => (nI (rdN g.2.2.2.1 (2 ^ m - 1) r), nI r, E n h A M R)) 7 _ (fun r hr => ?_) ?_ (L := 100000) (by decide)
    · have hi := hin _ (rdN_lt (fo := g.2.2.2.1) hv0 r) r hr
      unfold b_X5_haveCycle_11 b0_X5_haveCycle_11
      simp (disch := omega) only [↓grd_u, ↓bnd_e, ↓orf_u, ↓oif_u, ↓cal_u, ↓calX_u, ↓inrO_u, ↓reduceIte, EM, EMg, EMs, z0, oi, n_inbT, n_cntT, n_ltT, n_ltF, n_leT, n_leF, n_eqT, n_eqF, n_m1T, n_m1F, n_m1F', n_cl, n_add, n_mul, ro_at, ro_ro, up_at, up_up, hi]
      rfl
    · have hl := rdN_lt (fo := g.2.2.2.1) hv0 7
      unfold b_X5_haveCycle_11 b0_X5_haveCycle_11 g_X5_haveCycle_65
      obtain ⟨y, hy⟩ : ∃ y, y = rdN g.2.2.2.1 (2 ^ m - 1) 7 := ⟨_, rfl⟩
      rw [← hy] at hl ⊢
      by_cases z : y = 0
      · rw [pv_F (fun q => q z)]
        simp (disch := omega) only [↓grd_u, ↓bnd_e, ↓orf_u, ↓oif_u, ↓cal_u, ↓calX_u, ↓inrO_u, ↓reduceIte, EM, EMg, EMs, z0, oi, n_inbT, n_cntT, n_ltT, n_ltF, n_leT, n_leF, n_eqT, n_eqF, n_m1T, n_m1F, n_m1F', n_cl, n_add, n_mul, ro_at, ro_ro, up_at, up_up, nb0]
      · rw [pv_T z]
        simp (disch := omega) only [↓grd_u, ↓bnd_e, ↓orf_u, ↓oif_u, ↓cal_u, ↓calX_u, ↓inrO_u, ↓reduceIte, EM, EMg, EMs, z0, oi, n_inbT, n_cntT, n_ltT, n_ltF, n_leT, n_leF, n_eqT, n_eqF, n_m1T, n_m1F, n_m1F', n_cl, n_add, n_mul, ro_at, ro_ro, up_at, up_up, nb1]
  unfold f_X5_haveCycle
  simp (disch := omega) only [↓grd_u, ↓bnd_e, ↓orf_u, ↓oif_u, ↓cal_u, ↓calX_u, ↓inrO_u, ↓reduceIte, EM, EMg, EMs, z0, oi, n_inbT, n_cntT, n_ltT, n_ltF, n_leT, n_leF, n_eqT, n_eqF, n_m1T, n_m1F, n_m1F', n_cl, n_add, n_mul, ro_at, ro_ro, up_at, up_up, e1, e2, p1, hsh, n_sub, hout]
theorem c_isFinite {v : Int32} (hi : IC n h A R S) (hg : GoodS S) : CA n M (f_X11_isFinite (ca n 0) v (E n h A M R)) exN (aCnt S v (fun g => pv (¬ infG g))) := by
  have e1 := EPo bPo_1
  unfold aCnt
  rcases pat_cases S v with ⟨s, hs, rfl, hp, e⟩ | ⟨e, hc⟩
  · rw [e]
    obtain ⟨a, ep, ha⟩ := c_patT (M := M) hi hs hp
    obtain ⟨w1, w2, w3⟩ := good_wf hg hs hp
    obtain ⟨A', eb, pc, f⟩ := c_pnum (A := A) (M := M) (R := R) hi hg hs hp ha
    have hcy := c_haveCycle (n := n) (h := h) (M := M) (R := R) pc w2 (good_glu hg hs hp)
    have hlk := fin_link w1 w2
    refine CA_ok (v := pv (¬ infG (gluOf (lP (sCur S) s)))) hi (MonoS_rf n h) f ?_
    unfold f_X11_isFinite g_X11_isFinite_27
    by_cases z : rdN (gluOf (lP (sCur S) s)).2.2.2.1 (2 ^ nLet (lP (sCur S) s) - 1) 7 = 0
    · rw [pv_F (fun q => q z)] at hcy
      rw [pv_T (hlk.mp z)]
      simp (disch := omega) only [↓grd_u, ↓bnd_e, ↓orf_u, ↓oif_u, ↓cal_u, ↓calX_u, ↓inrO_u, ↓reduceIte, EM, EMg, EMs, z0, oi, n_inbT, n_cntT, n_ltT, n_ltF, n_leT, n_leF, n_eqT, n_eqF, n_m1T, n_m1F, n_m1F', n_cl, n_add, n_mul, ro_at, ro_ro, up_at, up_up, EC, ep, e1, eb, hcy, nb1]
    · rw [pv_T z] at hcy
      rw [pv_F (fun q => z (hlk.mpr q))]
      simp (disch := omega) only [↓grd_u, ↓bnd_e, ↓orf_u, ↓oif_u, ↓cal_u, ↓calX_u, ↓inrO_u, ↓reduceIte, EM, EMg, EMs, z0, oi, n_inbT, n_cntT, n_ltT, n_ltF, n_leT, n_leF, n_eqT, n_eqF, n_m1T, n_m1F, n_m1F', n_cl, n_add, n_mul, ro_at, ro_ro, up_at, up_up, EC, ep, e1, eb, hcy, nb0]
  · rw [e]
    refine CA_no hi (by decide) ?_
    unfold f_X11_isFinite
    simp (disch := omega) only [↓grd_u, ↓bnd_e, ↓orf_u, ↓oif_u, ↓cal_u, ↓calX_u, ↓inrO_u, ↓reduceIte, EM, EMg, EMs, z0, oi, n_inbT, n_cntT, n_ltT, n_ltF, n_leT, n_leF, n_eqT, n_eqF, n_m1T, n_m1F, n_m1F', n_cl, n_add, n_mul, ro_at, ro_ro, up_at, up_up, EC, c_patF hi hc]
    rfl
end CFIN
