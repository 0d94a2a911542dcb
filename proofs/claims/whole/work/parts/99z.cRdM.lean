/-! the class: a pattern is made of what was read -/
section CRDM
variable {n : Nat} {h : mH} {A M : Nat → Nat → Int32} {R : Nat → Nat → Option Nat} {S : St} {T o w : List Nat}
theorem cp_new3 {m k : Nat} (hx : n + 133 ≤ nx h) : cp (E n (celH h 103 m (fun _ => nI 0) (fun _ => none)) A M R) (ca n 41) (nx h) 0 0 k = E n (celH h 103 m (fun j => if j < k then A 41 j else nI 0) (fun _ => none)) A M R := by
  rw [cp_XE (by omega), gi_celS]
  have e : va_cpy (gi (E n (celH h 103 m (fun _ => nI 0) (fun _ => none)) A M R) (ca n 41)) (fun _ => nI 0) 0 0 k = fun j => if j < k then A 41 j else nI 0 := by
    funext j
    show (if 0 ≤ j ∧ j < 0 + k then gi (E n (celH h 103 m (fun _ => nI 0) (fun _ => none)) A M R) (ca n 41) (0 + (j - 0)) else nI 0) = if j < k then A 41 j else nI 0
    rw [Nat.zero_add, Nat.zero_add, Nat.sub_zero, gi_C (by decide)]
    by_cases q : j < k
    · rw [if_pos q, if_pos ⟨Nat.zero_le _, q⟩]
    · rw [if_neg q, if_neg (fun z => q z.2)]
  rw [e]
  have e2 : ∀ F, va_up (gi (celH h 103 m (fun _ => nI 0) (fun _ => none))) (nx h) F = gi (celH h 103 m F (fun _ => none)) := fun F => by
    show va_up (va_up (gi h) (nx h) (fun _ => nI 0)) (nx h) F = va_up (gi h) (nx h) F
    rw [vu_vu]
  rw [e2]
  rfl
theorem okP_wf {p : List Nat} (hw : WF p) (hl : p.length ≤ 255) : okP p := ⟨fun k hk => by
  have := WF_mem hw (p.getD k 0) (by
    rw [List.getD_eq_getElem?_getD, List.getElem?_eq_getElem hk]
    exact List.getElem_mem hk)
  exact this, hl⟩
theorem c_make {p : List Nat} (hx : n + 133 ≤ nx h) (hc : Cod A p) (hw : WF p) : ∃ g, MonoS n h g ∧ Pat n g (nx h + 1) p ∧ f_X4_init (nx h + 1) (nx h) (E n (al (celH h 103 p.length (fun j => if j < p.length then A 41 j else nI 0) (fun _ => none)) 9 3) A M R) = some ((), E n g A M R) := by
  obtain ⟨c1, c2, c3⟩ := hc
  obtain ⟨g, e, m, pp⟩ := c_newPat (n := n) (A := A) (M := M) (R := R) (g := celH h 103 p.length (fun j => if j < p.length then A 41 j else nI 0) (fun _ => none)) (y := nx h) (p := p) (okP_wf hw (by omega)) (by rw [nx_cel]; omega) hx (by rw [nx_cel]; omega) kd_celS sz_celS (fun k hk => by rw [gi_celS, if_pos hk]; exact c3 k hk)
  exact ⟨g, MonoS_tr (MonoS_cel n) m, pp, e⟩
theorem RIn_w {s : rst} (hI : RIn s) : ∀ t ∈ s.2.1, t = 4 ∨ t = 5 ∨ t = 9 := by
  obtain ⟨⟨vs, -, -, -, h4⟩, -⟩ := hI
  exact h4
theorem c_rd17 {s' : rst} (ok : rdOk s') (hx : n + 133 ≤ nx h) : ∀ (d L n0 i b : Nat) (s : rst) (A : Nat → Nat → Int32), TX A T → A 36 6 = nI (i + d) → i + d ≤ T.length → d < L → RIn s → PB n0 s → n0 + d ≤ 60 → b < 128 → kB b = s.2.2 → NSt A s.1 s.2.1 → rdP (T.drop i) s = (d, s') →
    ∃ A' g x, lp (b_X2_read_17 (ca n 39) (ca n 36)) L (nI b, nI i, E n h A M R) = some (some x, E n g A' M R) ∧ MonoS n h g ∧ Pat n g x (rdE s') ∧ FrK A A' := by
  intro d
  induction d with
  | zero =>
    intro L n0 i b s A t h6 hT hL hI hP hn hb hk hs hr
    obtain ⟨L, rfl⟩ : ∃ L', L = L' + 1 := ⟨L - 1, by omega⟩
    have t60 := t.2.1
    have es : s = s' := by
      rcases Nat.lt_or_ge i T.length with hl | hl
      · rw [drop_c hl] at hr
        unfold rdP at hr
        cases e : rd1 s (T.getD i 0) with
        | none => rw [e] at hr; exact congrArg Prod.snd hr
        | some s1 => rw [e] at hr; exact absurd (congrArg Prod.fst hr) (Nat.succ_ne_zero _)
      · rw [List.drop_eq_nil_of_le hl] at hr
        exact congrArg Prod.snd hr
    subst es
    have p1 := hP.1
    have p2 := hP.2
    unfold kk at p1 p2
    rw [if_neg ok.1] at p1 p2
    obtain ⟨wf, w0⟩ := rdE_wf hI ok
    have hbl := brg_len 5 s.2.1 s.1
    obtain ⟨A1, e1, g1, f1⟩ := c_flush (n := n) (h := h) (A := A) (M := M) (R := R) (e := 5) (Or.inr rfl) hs (RIn_w hI) (by omega)
    have e0 := c_level (g := E n h A M R) (t := 5) (by omega)
    have e0 : f_X2_level (nI 124) (E n h A M R) = some (nI 1, E n h A M R) := e0
    have e1 : f_X2_flush (ca n 39) (nI 1) (E n h A M R) = some ((), E n h A1 M R) := e1
    obtain ⟨p, hp⟩ : ∃ p, p = rdE s := ⟨_, rfl⟩
    have hc : Cod A1 p := by rw [hp]; exact g1.1
    rw [← hp] at wf
    have hpl : p.length ≤ 120 := hc.2.1
    have hp0 : 0 < p.length := ne_len (WF_ne wf)
    obtain ⟨g, m, pp, ei⟩ := c_make (n := n) (h := h) (M := M) (R := R) hx hc wf
    refine ⟨A1, g, nx h + 1, ?_, m, by rw [← hp]; exact pp, f1⟩
    have a6 := h6
    rw [Nat.add_zero] at a6
    have c1 := hc.1
    have hal : al (E n h A1 M R) 103 p.length = E n (celH h 103 p.length (fun _ => nI 0) (fun _ => none)) A1 M R := by rw [al_X (by omega), al_cel]
    have k3 : kd (E n (celH h 103 p.length (fun _ => nI 0) (fun _ => none)) A1 M R) (nx h) = 103 := by rw [kd_X (by omega), kd_celS]
    have k4 : sz (E n (celH h 103 p.length (fun _ => nI 0) (fun _ => none)) A1 M R) (nx h) = p.length := by rw [sz_X (by omega), sz_celS]
    have f1' : (∀ i, i < p.length → fits .char (.int (A1 41 i)) = true) = True := eq_true fun i hi => by rw [hc.2.2 i hi]; exact fitsC _
    have hcp := cp_new3 (n := n) (h := h) (A := A1) (M := M) (R := R) (m := p.length) (k := p.length) hx
    have ha : al (E n (celH h 103 p.length (fun j => if j < p.length then A1 41 j else nI 0) (fun _ => none)) A1 M R) 9 3 = E n (al (celH h 103 p.length (fun j => if j < p.length then A1 41 j else nI 0) (fun _ => none)) 9 3) A1 M R := al_X (by rw [nx_cel]; omega)
    have n3 : ∀ x : Nat, (x ≤ x) = True := fun x => eq_true (Nat.le_refl x)
    have n4 : (p.length ≤ 120) = True := eq_true hpl
    rw [lp_en (r := _)]
    unfold b_X2_read_17 b0_X2_read_17 f_X9_end
    simp (disch := omega) only [↓grd_u, ↓bnd_e, ↓orf_u, ↓oif_u, ↓cal_u, ↓calX_u, ↓inrO_u, ↓reduceIte, EM, EMg, EMs, z0, oi, n_inbT, n_cntT, n_ltT, n_ltF, n_leT, n_leF, n_eqT, n_eqF, n_m1T, n_m1F, n_m1F', n_cl, n_add, n_mul, ro_at, ro_ro, up_at, up_up, EC, ECg, a6, e0, e1, c1, nx_E, nx_cel, hal, k3, k4, not_false_eq_true, and_true, true_and, Nat.zero_add, f1', n3, n4, hcp, ha, ei]
  | succ d ih =>
    intro L n0 i b s A t h6 hT hL hI hP hn hb hk hs hr
    obtain ⟨L, rfl⟩ : ∃ L', L = L' + 1 := ⟨L - 1, by omega⟩
    have t60 := t.2.1
    have hl : i < T.length := by omega
    have hc := (t.2.2 i hl).2
    have ec := c_char (n := n) (h := h) (M := M) (R := R) t hl
    have p1 := hP.1
    have p2 := hP.2
    rw [drop_c hl] at hr
    unfold rdP at hr
    obtain ⟨s1, er⟩ : ∃ s1, rd1 s (T.getD i 0) = some s1 := by
      cases e : rd1 s (T.getD i 0) with
      | none => rw [e] at hr; exact absurd (congrArg Prod.fst hr) (fun z => (nomatch z))
      | some s1 => exact ⟨s1, rfl⟩
    rw [er] at hr
    have hr1 : rdP (T.drop (i + 1)) s1 = (d, s') := by
      have x1 := congrArg Prod.fst hr
      have x2 := congrArg Prod.snd hr
      exact Prod.ext (Nat.succ.inj x1) x2
    obtain ⟨z2, y1, y2, y3⟩ : cf s.2.2 (opn s.2.1) (T.getD i 0) ∧ RIn s1 ∧ PB (n0 + 1) s1 ∧ s1.2.2 = nk s.2.2 (T.getD i 0) := by
      rcases rd1_ok (c := T.getD i 0) hI hP with ⟨z, -⟩ | ⟨z2, s2, z, y1, y2, y3, y4⟩
      · rw [z] at er; cases er
      · rw [z] at er
        have := Option.some.inj er
        rw [← this]
        exact ⟨z2, y1, y2, y3⟩
    obtain ⟨j1, j2, j3, j6, j7⟩ := jnt_ok (c := T.getD i 0) hI hP
    -- the joint
    have e4 := fun g => c_endsF (g := g) hb
    have e5 := fun g => c_isLb (g := g) (c := T.getD i 0) (by omega)
    unfold b1 at e4 e5
    have key : ∃ A1, NSt A1 (jnt s (T.getD i 0)).1 (jnt s (T.getD i 0)).2.1 ∧ FrK A A1 ∧ ∀ x, g_X2_read_69 (ca n 39) (ca n 36) (nI i) (nI (T.getD i 0)) (E n h A1 M R) = some x → b_X2_read_17 (ca n 39) (ca n 36) (nI b, nI i, E n h A M R) = some x := by
      unfold b_X2_read_17 b0_X2_read_17 f_X9_end
      by_cases q : s.2.2 ≠ 0 ∧ ((97 ≤ T.getD i 0 ∧ T.getD i 0 ≤ 99) ∨ T.getD i 0 = 40)
      · have ej : jnt s (T.getD i 0) = ((brg 4 s.1 s.2.1).1, 4 :: (brg 4 s.1 s.2.1).2, 0) := if_pos q
        have hbl := brg_len 4 s.2.1 s.1
        rw [ej] at j3
        have j3' : (brg 4 s.1 s.2.1).2.length + 1 + 0 ≤ n0 := j3.2
        unfold kk at p1
        rw [if_neg q.1] at p1
        obtain ⟨A0, A1, e0, e1, e2, g1, f1⟩ := c_takeOp (n := n) (h := h) (A := A) (M := M) (R := R) (e := 4) (Or.inl rfl) hs (RIn_w hI) (by omega) (by omega)
        have e0 : f_X2_level (nI 46) (E n h A M R) = some (nI 2, E n h A M R) := e0
        have e1 : f_X2_flush (ca n 39) (nI 2) (E n h A M R) = some ((), E n h A0 M R) := e1
        have e2 : f_X2_push (ca n 39) (nI 46) (E n h A0 M R) = some ((), E n h A1 M R) := e2
        refine ⟨A1, by rw [ej]; exact g1, f1, fun x hx => ?_⟩
        rw [if_pos (by omega)] at e4
        unfold g_X2_read_54
        by_cases q1 : 97 ≤ T.getD i 0 ∧ T.getD i 0 ≤ 99
        · rw [if_pos q1] at e5
          simp (disch := omega) only [↓grd_u, ↓bnd_e, ↓orf_u, ↓oif_u, ↓cal_u, ↓calX_u, ↓inrO_u, ↓reduceIte, EM, EMg, EMs, z0, oi, n_inbT, n_cntT, n_ltT, n_ltF, n_leT, n_leF, n_eqT, n_eqF, n_m1T, n_m1F, n_m1F', n_cl, n_add, n_mul, ro_at, ro_ro, up_at, up_up, EC, ECg, h6, ec, e4, e5, e0, e1, e2, hx]
        · rw [if_neg q1] at e5
          have q2 : T.getD i 0 = 40 := by omega
          rw [q2] at ec e5 hx
          simp (disch := omega) only [↓grd_u, ↓bnd_e, ↓orf_u, ↓oif_u, ↓cal_u, ↓calX_u, ↓inrO_u, ↓reduceIte, EM, EMg, EMs, z0, oi, n_inbT, n_cntT, n_ltT, n_ltF, n_leT, n_leF, n_eqT, n_eqF, n_m1T, n_m1F, n_m1F', n_cl, n_add, n_mul, ro_at, ro_ro, up_at, up_up, EC, ECg, h6, ec, e4, e5, e0, e1, e2, hx]
      · have ej : jnt s (T.getD i 0) = s := if_neg q
        refine ⟨A, by rw [ej]; exact hs, FrK_rf, fun x hx => ?_⟩
        by_cases k0 : kB b = 0
        · rw [if_neg (fun z => z k0)] at e4
          simp (disch := omega) only [↓grd_u, ↓bnd_e, ↓orf_u, ↓oif_u, ↓cal_u, ↓calX_u, ↓inrO_u, ↓reduceIte, EM, EMg, EMs, z0, oi, n_inbT, n_cntT, n_ltT, n_ltF, n_leT, n_leF, n_eqT, n_eqF, n_m1T, n_m1F, n_m1F', n_cl, n_add, n_mul, ro_at, ro_ro, up_at, up_up, EC, ECg, h6, ec, e4, hx]
        · rw [if_pos k0] at e4
          have q1 : ¬ (97 ≤ T.getD i 0 ∧ T.getD i 0 ≤ 99) := fun z => q ⟨by omega, Or.inl z⟩
          have q2 : ¬ T.getD i 0 = 40 := fun z => q ⟨by omega, Or.inr z⟩
          rw [if_neg q1] at e5
          simp (disch := omega) only [↓grd_u, ↓bnd_e, ↓orf_u, ↓oif_u, ↓cal_u, ↓calX_u, ↓inrO_u, ↓reduceIte, EM, EMg, EMs, z0, oi, n_inbT, n_cntT, n_ltT, n_ltF, n_leT, n_leF, n_eqT, n_eqF, n_m1T, n_m1F, n_m1F', n_cl, n_add, n_mul, ro_at, ro_ro, up_at, up_up, EC, ECg, h6, ec, e4, e5, hx]
    obtain ⟨A1, g1, f1, hx1⟩ := key
    obtain ⟨A2, e2, g2, f2⟩ := c_takeCh (n := n) (h := h) (A := A1) (M := M) (R := R) (c := T.getD i 0) (by omega) g1 (RIn_w j1) j1 j3 (by omega) er
    have f12 := FrK_tr f1 f2
    have t2 : TX A2 T := TX_A t (by rw [f12 36 (by decide) (by decide) (by decide)]) (f12 37 (by decide) (by decide) (by decide))
    obtain ⟨A', g, x, e3, m, pp, f3⟩ := ih L (n0 + 1) (i + 1) (T.getD i 0) s1 A2 t2 (by rw [f12 36 (by decide) (by decide) (by decide), h6]; congr 1; omega) (by omega) (by omega) y1 y2 (by omega) (by omega) (by rw [y3]; exact (nk_kB z2).symm) g2 hr1
    refine ⟨A', g, x, ?_, m, pp, FrK_tr f12 f3⟩
    rw [lp_nx (s' := (nI (T.getD i 0), nI (i + 1), E n h A2 M R)), e3]
    refine hx1 _ ?_
    unfold g_X2_read_69
    simp (disch := omega) only [↓grd_u, ↓bnd_e, ↓orf_u, ↓oif_u, ↓cal_u, ↓calX_u, ↓inrO_u, ↓reduceIte, EM, EMg, EMs, z0, oi, n_inbT, n_cntT, n_ltT, n_ltF, n_leT, n_leF, n_eqT, n_eqF, n_m1T, n_m1F, n_m1F', n_cl, n_add, n_mul, ro_at, ro_ro, up_at, up_up, EC, e2]
theorem c_read {i : Nat} (hx : n + 133 ≤ nx h) (t : TX A T) (hi : i ≤ T.length) (h5 : A 36 5 = nI i) (h6 : A 36 6 = nI (i + (pR T i).1)) (ok : rdOk (pR T i).2) : ∃ A' g x, f_X2_read (ca n 39) (ca n 36) (E n h A M R) = some (some x, E n g A' M R) ∧ MonoS n h g ∧ Pat n g x (rdE (pR T i).2) ∧ FrK A A' := by
  have t60 := t.2.1
  have hp := (pR_ok T i).2.2
  obtain ⟨A1, hA1⟩ : ∃ A1, A1 = ro A 39 (up (up (A 39) 2 (nI 0)) 3 (nI 0)) := ⟨_, rfl⟩
  have f1 : FrK A A1 := fun r h1 _ _ => by rw [hA1, ro_ne _ _ h1]
  have t1 : TX A1 T := TX_A t (by rw [f1 36 (by decide) (by decide) (by decide)]) (f1 37 (by decide) (by decide) (by decide))
  have h51 : A1 36 5 = nI i := by rw [f1 36 (by decide) (by decide) (by decide)]; exact h5
  obtain ⟨A', g, x, e, m, pp, f2⟩ := c_rd17 (n := n) (h := h) (M := M) (R := R) (T := T) ok hx (pR T i).1 100000 0 i 0 rs0 A1 t1 (by rw [f1 36 (by decide) (by decide) (by decide)]; exact h6) (by omega) (by omega) rs0_ok.1 rs0_ok.2 (by omega) (by decide) rfl ⟨⟨by rw [hA1, ro_at, up_at]; rfl, by decide, fun k hk => absurd hk (Nat.not_lt_zero _)⟩, by rw [hA1, ro_at, up_ne _ _ (by decide), up_at]; rfl, by decide, fun k hk => absurd hk (Nat.not_lt_zero _)⟩ rfl
  refine ⟨A', g, x, ?_, m, pp, FrK_tr f1 f2⟩
  have e : g_X2_read_17 (ca n 39) (ca n 36) (nI 0) (nI i) (E n h A1 M R) = some (some x, E n g A' M R) := e
  unfold f_X2_read f_X9_start
  simp (disch := omega) only [↓grd_u, ↓bnd_e, ↓orf_u, ↓oif_u, ↓cal_u, ↓calX_u, ↓inrO_u, ↓reduceIte, EM, EMg, EMs, z0, oi, n_inbT, n_cntT, n_ltT, n_ltF, n_leT, n_leF, n_eqT, n_eqF, n_m1T, n_m1F, n_m1F', n_cl, n_add, n_mul, ro_at, ro_ro, up_at, up_up, ro_ne, up_ne, ro_sw, EC, ECg, ECs, ← hA1, h51, e]
end CRDM
