/-! the class: the automaton of a pattern -/
def PosC (A : Nat → Nat → Int32) (b : Nat) (g : Glu) (m : Nat) : Prop := A b 6 = nI m ∧ A (b + 5) 0 = nI g.1 ∧ A (b + 3) 0 = nI g.2.1 ∧ A (b + 4) 0 = nI g.2.2.1 ∧ (∀ k, k < 7 → A (b + 2) k = nI (g.2.2.2.1 k)) ∧ (∀ k, k < 3 → A (b + 1) k = nI (g.2.2.2.2 k))
theorem PosC_of {A : Nat → Nat → Int32} {b : Nat} {p : List Nat} (wf : WF p) (h7 : nLet p ≤ 7) (hg : GC A b (grun g0 p)) : PosC A b (gluOf p) (nLet p) := by
  obtain ⟨-, a2, ⟨v, a3⟩, a4⟩ := GRun_all wf g0 g0_ok (by show 0 + _ ≤ 7; omega) (by show 0 + _ ≤ 7; omega)
  obtain ⟨g1, g2, g3, g4, g5⟩ := hg
  rw [a3] at g1 g3
  obtain ⟨e1, e2, e3⟩ := g3 0 (by simp)
  have htop : gT (v :: g0.1) 0 = v := gT_top v []
  rw [htop] at e1 e2 e3
  have eg : gluOf p = (v.1, v.2.1, v.2.2, (grun g0 p).2.1, (grun g0 p).2.2.1) := by unfold gluOf; rw [a3]; rfl
  rw [eg]
  refine ⟨?_, e1, e2, e3, g4, g5⟩
  rw [g2, a4]
  show nI (0 + nLet p) = _
  rw [Nat.zero_add]
theorem PosC_fr {A A' : Nat → Nat → Int32} {b m : Nat} {g : Glu} (h : PosC A b g m) (hf : ∀ r, b ≤ r → r < b + 6 → A' r = A r) : PosC A' b g m := by
  obtain ⟨a1, a2, a3, a4, a5, a6⟩ := h
  exact ⟨by rw [hf _ (by omega) (by omega)]; exact a1, by rw [hf _ (by omega) (by omega)]; exact a2, by rw [hf _ (by omega) (by omega)]; exact a3, by rw [hf _ (by omega) (by omega)]; exact a4, by rw [hf _ (by omega) (by omega)]; exact a5, by rw [hf _ (by omega) (by omega)]; exact a6⟩
def AuC (A : Nat → Nat → Int32) (b : Nat) (g : Glu) (s : bst) (u : Nat) : Prop := A b 8 = nI s.2.2 ∧ (∀ j, 1 ≤ j → j < s.2.2 → A (b + 7) j = nI (s.1 j) ∧ A (b + 8) (s.1 j) = nI j) ∧ (∀ x, x < 128 → bin s.1 s.2.2 x = false → A (b + 8) x = Int32.ofInt (-1)) ∧
  (∀ v, v < u → ∃ i, i < s.2.2 ∧ s.1 i = gnext g (s.1 (v / 3)) (v % 3) ∧ A (b + 9) v = nI i) ∧ (∀ j, j < s.2.2 → A (b + 10) j = nI (b2 (gab g (s.1 j))) ∧ A (b + 11) j = nI (s.2.1 j))
def AuF (A : Nat → Nat → Int32) (b : Nat) (g : Glu) : Prop := A b 8 = nI (gL g) ∧ (∀ j, j < gL g → ∀ c, c < 3 → A (b + 9) (3 * j + c) = nI (gS g j c)) ∧ (∀ j, j < gL g → A (b + 10) j = nI (b2 (gA g j)) ∧ A (b + 11) j = nI ((gB g).2.1 j))
def FrA (b : Nat) (A A' : Nat → Nat → Int32) : Prop := ∀ r, r < b ∨ b + 14 ≤ r → A' r = A r
theorem FrA_tr {b : Nat} {A A' A'' : Nat → Nat → Int32} (h : FrA b A A') (h' : FrA b A' A'') : FrA b A A'' := fun r hr => (h' r hr).trans (h r hr)
theorem AuF_fr {A A' : Nat → Nat → Int32} {b : Nat} {g : Glu} (h : AuF A b g) (hf : ∀ r, b ≤ r → r < b + 12 → A' r = A r) : AuF A' b g := by
  obtain ⟨a1, a2, a3⟩ := h
  exact ⟨by rw [hf _ (by omega) (by omega)]; exact a1, by rw [hf _ (by omega) (by omega)]; exact a2, by rw [hf _ (by omega) (by omega), hf _ (by omega) (by omega)]; exact a3⟩
theorem ng0 : (nI 0 ≤ Int32.ofInt (-1)) = False := eq_false (by decide +kernel)
theorem and127 : ∀ x, x < 128 → x &&& 127 = x := by decide +kernel
section CAUT
variable {n : Nat} {h : mH} {A M : Nat → Nat → Int32} {R : Nat → Nat → Option Nat} {b a m : Nat} {g : Glu}
theorem c_nothing (hb : bPo b) (hp : PosC A b g m) (ok : GluOK g) : f_X5_acceptNothing (ca n b) (E n h A M R) = some (nI g.1, E n h A M R) := by
  have e1 := EPo hb
  have e2 := EPog hb
  have e3 := hp.2.1
  have hn : (vp_nar .boolean (nI g.1) = nI g.1) = True := eq_true (n_nar01 ok.1)
  unfold f_X5_acceptNothing
  simp (disch := omega) only [↓grd_u, ↓bnd_e, ↓orf_u, ↓oif_u, ↓cal_u, ↓calX_u, ↓inrO_u, ↓reduceIte, EM, EMg, EMs, z0, oi, n_inbT, n_cntT, n_ltT, n_ltF, n_leT, n_leF, n_eqT, n_eqF, n_m1T, n_m1F, n_m1F', n_cl, n_add, n_mul, ro_at, ro_ro, up_at, up_up, e1, e2, e3, hn]
theorem c_first (hb : bPo b) (hp : PosC A b g m) : f_X5_first (ca n b) (E n h A M R) = some (nI g.2.1, E n h A M R) := by
  have e1 := EPo hb
  have e2 := EPog hb
  have e3 := hp.2.2.1
  unfold f_X5_first
  simp (disch := omega) only [↓grd_u, ↓bnd_e, ↓orf_u, ↓oif_u, ↓cal_u, ↓calX_u, ↓inrO_u, ↓reduceIte, EM, EMg, EMs, z0, oi, n_inbT, n_cntT, n_ltT, n_ltF, n_leT, n_leF, n_eqT, n_eqF, n_m1T, n_m1F, n_m1F', n_cl, n_add, n_mul, ro_at, ro_ro, up_at, up_up, e1, e2, e3]
theorem c_last (hb : bPo b) (hp : PosC A b g m) : f_X5_last (ca n b) (E n h A M R) = some (nI g.2.2.1, E n h A M R) := by
  have e1 := EPo hb
  have e2 := EPog hb
  have e3 := hp.2.2.2.1
  unfold f_X5_last
  simp (disch := omega) only [↓grd_u, ↓bnd_e, ↓orf_u, ↓oif_u, ↓cal_u, ↓calX_u, ↓inrO_u, ↓reduceIte, EM, EMg, EMs, z0, oi, n_inbT, n_cntT, n_ltT, n_ltF, n_leT, n_leF, n_eqT, n_eqF, n_m1T, n_m1F, n_m1F', n_cl, n_add, n_mul, ro_at, ro_ro, up_at, up_up, e1, e2, e3]
theorem c_having {c : Nat} (hb : bPo b) (hp : PosC A b g m) (hc : c < 3) : f_X5_having (ca n b) (nI c) (E n h A M R) = some (nI (g.2.2.2.2 c), E n h A M R) := by
  have e1 := EPo hb
  have e2 := EPog hb
  have e3 := hp.2.2.2.2.2 c hc
  unfold f_X5_having g_X5_having_19
  simp (disch := omega) only [↓grd_u, ↓bnd_e, ↓orf_u, ↓oif_u, ↓cal_u, ↓calX_u, ↓inrO_u, ↓reduceIte, EM, EMg, EMs, z0, oi, n_inbT, n_cntT, n_ltT, n_ltF, n_leT, n_leF, n_eqT, n_eqF, n_m1T, n_m1F, n_m1F', n_cl, n_add, n_mul, ro_at, ro_ro, up_at, up_up, e1, e2, e3]
theorem c_follow {s : Nat} (hb : bPo b) (hp : PosC A b g m) (ok : GluOK g) (hs : s < 128) : f_X5_followersOf (ca n b) (nI s) (E n h A M R) = some (nI (folU g.2.2.2.1 s 7), E n h A M R) := by
  have e1 := EPo hb
  have e2 := EPog hb
  unfold f_X5_followersOf g_X5_followersOf_4
  rw [oi.1]
  refine lp_for0 (f := b_X5_followersOf_4 (ca n b) (nI s)) (fun k => (nI (folU g.2.2.2.1 s k), nI k, E n h A M R)) 7 _ (fun k hk => ?_) ?_ (L := 100000) (by decide)
  · have e3 := hp.2.2.2.2.1 k hk
    unfold b_X5_followersOf_4 b0_X5_followersOf_4 g_X5_followersOf_27
    by_cases hbt : s.testBit k = true
    · have ht : ((nI s >>> (nI k &&& 31)) &&& nI 1 = nI 0) = False := eq_false (fun q => (tb0 s hs k hk).mp q hbt)
      simp (disch := omega) only [↓grd_u, ↓bnd_e, ↓orf_u, ↓oif_u, ↓cal_u, ↓calX_u, ↓inrO_u, ↓reduceIte, EM, EMg, EMs, z0, oi, n_inbT, n_cntT, n_ltT, n_ltF, n_leT, n_leF, n_eqT, n_eqF, n_m1T, n_m1F, n_m1F', n_cl, n_add, n_mul, ro_at, ro_ro, up_at, up_up, e1, e2, e3, ht, n_or]
      rw [show folU g.2.2.2.1 s (k + 1) = folU g.2.2.2.1 s k ||| g.2.2.2.1 k from if_pos hbt]
    · have ht : ((nI s >>> (nI k &&& 31)) &&& nI 1 = nI 0) = True := eq_true ((tb0 s hs k hk).mpr hbt)
      simp (disch := omega) only [↓grd_u, ↓bnd_e, ↓orf_u, ↓oif_u, ↓cal_u, ↓calX_u, ↓inrO_u, ↓reduceIte, EM, EMg, EMs, z0, oi, n_inbT, n_cntT, n_ltT, n_ltF, n_leT, n_leF, n_eqT, n_eqF, n_m1T, n_m1F, n_m1F', n_cl, n_add, n_mul, ro_at, ro_ro, up_at, up_up, ht]
      rw [show folU g.2.2.2.1 s (k + 1) = folU g.2.2.2.1 s k from if_neg hbt]
  · unfold b_X5_followersOf_4 b0_X5_followersOf_4
    simp (disch := omega) only [↓grd_u, ↓bnd_e, ↓orf_u, ↓oif_u, ↓cal_u, ↓calX_u, ↓inrO_u, ↓reduceIte, EM, EMg, EMs, z0, oi, n_inbT, n_cntT, n_ltT, n_ltF, n_leT, n_leF, n_eqT, n_eqF, n_m1T, n_m1F, n_m1F', n_cl, n_add, n_mul, ro_at, ro_ro, up_at, up_up]
theorem c_numberOf {u : Nat} {s : bst} (hb : bAu b) (ok : GluOK g) (hp : PosC A (b + 1) g m) (hu : AuC A b g s u) (hB : Bf (gnext g) 128 s u) (hk : u / 3 < s.2.2) (hu3 : u < 387) (hL : s.2.2 ≤ 129) (hL2 : (bvis (gnext g) s u).2.2 ≤ 129) :
    ∃ A' i, f_X0_numberOf (ca n b) (nI (gnext g (s.1 (u / 3)) (u % 3))) (nI u) (E n h A M R) = some (nI i, E n h A' M R) ∧ i < (bvis (gnext g) s u).2.2 ∧ (bvis (gnext g) s u).1 i = gnext g (s.1 (u / 3)) (u % 3) ∧ AuC A' b g (bvis (gnext g) s u) u ∧ PosC A' (b + 1) g m ∧ FrA b A A' ∧ A' (b + 9) = A (b + 9) := by
  have e1 := EAu hb
  have e2 := EAug hb
  have e3 := EAus hb
  obtain ⟨o, pr, L⟩ := s
  obtain ⟨u1, u2, u3, u4, u5⟩ := hu
  dsimp only at u1 u2 u3 u4 u5 hk hL ⊢
  obtain ⟨t, hte⟩ : ∃ t, t = gnext g (o (u / 3)) (u % 3) := ⟨_, rfl⟩
  have tl : t < 128 := by rw [hte]; exact gnext_lt ok _ _
  have ta := and127 t tl
  unfold bvis at hL2 ⊢
  dsimp only at hL2 ⊢
  rw [← hte] at hL2 ⊢
  have hb5 : bPo (b + 1) := by rcases hb with rfl | rfl; exact Or.inr (Or.inl rfl); exact Or.inr (Or.inr rfl)
  unfold f_X0_numberOf g_X0_numberOf_97 g_X0_numberOf_86
  by_cases hbn : bin o L t = true
  · rw [if_pos hbn]
    obtain ⟨j, hj, hjt⟩ := bin_iff.mp hbn
    have hj1 : 1 ≤ j := by
      rcases Nat.eq_zero_or_pos j with q | q
      · subst q
        rw [show o 0 = 128 from hB.2.1] at hjt
        omega
      · exact q
    have e4 := (u2 j hj1 hj).2
    rw [hjt] at e4
    refine ⟨A, j, ?_, hj, hjt, ⟨u1, u2, u3, u4, u5⟩, hp, fun _ _ => rfl, rfl⟩
    simp (disch := omega) only [↓grd_u, ↓bnd_e, ↓orf_u, ↓oif_u, ↓cal_u, ↓calX_u, ↓inrO_u, ↓reduceIte, EM, EMg, EMs, z0, oi, n_inbT, n_cntT, n_ltT, n_ltF, n_leT, n_leF, n_eqT, n_eqF, n_m1T, n_m1F, n_m1F', n_cl, n_add, n_mul, ro_at, ro_ro, up_at, up_up, n_and, ta, e1, e2, e4]
  · have hbn' : bin o L t = false := by cases z : bin o L t with
      | false => rfl
      | true => exact absurd z hbn
    rw [if_neg hbn] at hL2 ⊢
    dsimp only at hL2 ⊢
    have hne : ∀ j, j < L → o j ≠ t := fun j hj q => hbn (bin_iff.mpr ⟨j, hj, q⟩)
    have e4 := u3 t tl hbn'
    have hla := and_lt (a := t) ok.2.2.1
    obtain ⟨A1, hA1⟩ : ∃ A1, A1 = ro (ro (ro A (b + 8) (up (A (b + 8)) t (nI L))) (b + 7) (up (A (b + 7)) L (nI t))) (b + 11) (up (A (b + 11)) L (nI u)) := ⟨_, rfl⟩
    have hp1 : PosC A1 (b + 1) g m := PosC_fr hp (fun r h1 h2 => by rw [hA1]; simp (disch := omega) only [ro_ne])
    have hls := c_last (n := n) (h := h) (M := M) (R := R) hb5 hp1
    obtain ⟨A2, hA2⟩ : ∃ A2, A2 = ro (ro A1 (b + 10) (up (A1 (b + 10)) L (nI (b2 (gab g t))))) b (up (A b) 8 (nI (L + 1))) := ⟨_, rfl⟩
    have hrows : ∀ r, r ≠ b → r ≠ b + 7 → r ≠ b + 8 → r ≠ b + 10 → r ≠ b + 11 → A2 r = A r := fun r h1 h2 h3 h4 h5 => by
      rw [hA2, hA1]
      simp (disch := omega) only [ro_ne]
    have hgab : gab g t = decide (t &&& g.2.2.1 ≠ 0) := by unfold gab; rw [if_neg (by omega)]
    refine ⟨A2, L, ?_, Nat.lt_succ_self L, up_at _ _ _, ⟨?_, fun j h1 h2 => ?_, fun x hx hbx => ?_, fun v hv => ?_, fun j hj => ?_⟩, PosC_fr hp (fun r h1 h2 => hrows r (by omega) (by omega) (by omega) (by omega) (by omega)), fun r hr => hrows r (by omega) (by omega) (by omega) (by omega) (by omega), hrows _ (by omega) (by omega) (by omega) (by omega) (by omega)⟩
    · have hA1' := hA1.symm
      simp (disch := omega) only [↓grd_u, ↓bnd_e, ↓orf_u, ↓oif_u, ↓cal_u, ↓calX_u, ↓inrO_u, ↓reduceIte, EM, EMg, EMs, z0, oi, n_inbT, n_cntT, n_ltT, n_ltF, n_leT, n_leF, n_eqT, n_eqF, n_m1T, n_m1F, n_m1F', n_cl, n_add, n_mul, ro_at, ro_ro, up_at, up_up, ro_ne, up_ne, n_and, ta, e1, e2, e3, e4, ng0, ng1, u1]
      rw [hA1']
      have hA2' := hA2.symm
      have u1' : A1 b 8 = nI L := by rw [hA1]; simp (disch := omega) only [ro_ne]; exact u1
      have hb1 : A1 b = A b := by rw [hA1]; simp (disch := omega) only [ro_ne]
      have hb8 : A2 (b + 8) t = nI L := by rw [hA2, hA1]; simp (disch := omega) only [ro_ne, ro_at, up_at]
      unfold b2 at hA2'
      rw [hgab] at hA2'
      by_cases q : t &&& g.2.2.1 = 0
      · rw [if_neg (by simp [q])] at hA2'
        simp (disch := omega) only [↓grd_u, ↓bnd_e, ↓orf_u, ↓oif_u, ↓cal_u, ↓calX_u, ↓inrO_u, ↓reduceIte, EM, EMg, EMs, z0, oi, n_inbT, n_cntT, n_ltT, n_ltF, n_leT, n_leF, n_eqT, n_eqF, n_m1T, n_m1F, n_m1F', n_cl, n_add, n_mul, ro_at, ro_ro, up_at, up_up, ro_ne, up_ne, e1, e2, e3, hls, n_and, nz0, u1']
        rw [hb1, hA2']
        unfold g_X0_numberOf_97
        simp (disch := omega) only [↓grd_u, ↓bnd_e, ↓orf_u, ↓oif_u, ↓cal_u, ↓calX_u, ↓inrO_u, ↓reduceIte, EM, EMg, EMs, z0, oi, n_inbT, n_cntT, n_ltT, n_ltF, n_leT, n_leF, n_eqT, n_eqF, n_m1T, n_m1F, n_m1F', n_cl, n_add, n_mul, ro_at, ro_ro, up_at, up_up, e1, e2, hb8]
      · rw [if_pos (by simp [q])] at hA2'
        simp (disch := omega) only [↓grd_u, ↓bnd_e, ↓orf_u, ↓oif_u, ↓cal_u, ↓calX_u, ↓inrO_u, ↓reduceIte, EM, EMg, EMs, z0, oi, n_inbT, n_cntT, n_ltT, n_ltF, n_leT, n_leF, n_eqT, n_eqF, n_m1T, n_m1F, n_m1F', n_cl, n_add, n_mul, ro_at, ro_ro, up_at, up_up, ro_ne, up_ne, e1, e2, e3, hls, n_and, nz1, u1']
        rw [hb1, hA2']
        unfold g_X0_numberOf_97
        simp (disch := omega) only [↓grd_u, ↓bnd_e, ↓orf_u, ↓oif_u, ↓cal_u, ↓calX_u, ↓inrO_u, ↓reduceIte, EM, EMg, EMs, z0, oi, n_inbT, n_cntT, n_ltT, n_ltF, n_leT, n_leF, n_eqT, n_eqF, n_m1T, n_m1F, n_m1F', n_cl, n_add, n_mul, ro_at, ro_ro, up_at, up_up, e1, e2, hb8]
    · rw [hA2, ro_at, up_at]
    · have h2 : j < L + 1 := h2
      rw [hA2, hA1]
      simp (disch := omega) only [ro_ne, ro_at]
      show up (A (b + 7)) L (nI t) j = nI (up o L t j) ∧ up (A (b + 8)) t (nI L) (up o L t j) = nI j
      by_cases e : j = L
      · subst e
        rw [up_at, up_at, up_at]
        exact ⟨rfl, rfl⟩
      · rw [up_ne _ _ e, up_ne _ _ e, up_ne _ _ (hne j (by omega))]
        exact u2 j h1 (by omega)
    · have hbx : bin (up o L t) (L + 1) x = false := hbx
      have hxt : x ≠ t := fun e => by
        rw [show bin (up o L t) (L + 1) x = true from bin_iff.mpr ⟨L, by omega, by rw [up_at, e]⟩] at hbx
        cases hbx
      rw [hA2, hA1]
      simp (disch := omega) only [ro_ne, ro_at]
      rw [up_ne _ _ hxt]
      refine u3 x hx ?_
      cases z : bin o L x with
      | false => rfl
      | true =>
        obtain ⟨j, hj, e⟩ := bin_iff.mp z
        rw [show bin (up o L t) (L + 1) x = true from bin_iff.mpr ⟨j, by omega, by rw [up_ne _ _ (by omega), e]⟩] at hbx
        cases hbx
    · obtain ⟨i, h1, h2, h3⟩ := u4 v hv
      refine ⟨i, Nat.lt_succ_of_lt h1, ?_, by rw [hrows _ (by omega) (by omega) (by omega) (by omega) (by omega)]; exact h3⟩
      show up o L t i = gnext g (up o L t (v / 3)) (v % 3)
      rw [up_ne _ _ (by omega), up_ne _ _ (by omega)]
      exact h2
    · have hj : j < L + 1 := hj
      rw [hA2, hA1]
      simp (disch := omega) only [ro_ne, ro_at]
      show up (A (b + 10)) L (nI (b2 (gab g t))) j = nI (b2 (gab g (up o L t j))) ∧ up (A (b + 11)) L (nI u) j = nI (up pr L u j)
      by_cases e : j = L
      · subst e
        rw [up_at, up_at, up_at, up_at]
        exact ⟨rfl, rfl⟩
      · rw [up_ne _ _ e, up_ne _ _ e, up_ne _ _ e, up_ne _ _ e]
        exact u5 j (by omega)
theorem c_bvis {k c : Nat} (hb : bAu b) (ok : GluOK g) (hp : PosC A (b + 1) g m) (hu : AuC A b g (brun (gnext g) 128 (3 * k + c)) (3 * k + c)) (hk : k < (brun (gnext g) 128 (3 * k + c)).2.2) (hc : c < 3) {q : Nat} (hq : ∀ c, q &&& g.2.2.2.2 c = gnext g ((brun (gnext g) 128 (3 * k + c)).1 k) c ∨ True) (hq2 : q &&& g.2.2.2.2 c = gnext g ((brun (gnext g) 128 (3 * k + c)).1 k) c) :
    ∃ A', b_X0_build_96 (ca n b) (nI k) (nI q) (nI c, E n h A M R) = some (.inl (nI (c + 1), E n h A' M R)) ∧ AuC A' b g (brun (gnext g) 128 (3 * k + c + 1)) (3 * k + c + 1) ∧ PosC A' (b + 1) g m ∧ FrA b A A' := by
  have e1 := EAu hb
  have e2 := EAug hb
  have e3 := EAus hb
  have hb5 : bPo (b + 1) := by rcases hb with rfl | rfl; exact Or.inr (Or.inl rfl); exact Or.inr (Or.inr rfl)
  have hL := gB_le ok (3 * k + c)
  have hL2 := gB_le ok (3 * k + c + 1)
  obtain ⟨A', i, en, i1, i2, i3, i4, i5, i6⟩ := c_numberOf (n := n) (h := h) (M := M) (R := R) hb ok hp hu (Bf_all _ _ _) (by omega) (by omega) hL hL2
  rw [show (3 * k + c) / 3 = k by omega, show (3 * k + c) % 3 = c by omega] at en i2
  have hh := c_having (n := n) (h := h) (M := M) (R := R) hb5 hp hc
  rw [show nI (3 * k + c) = nI (k * 3 + c) by rw [Nat.mul_comm]] at en
  refine ⟨ro A' (b + 9) (up (A' (b + 9)) (k * 3 + c) (nI i)), ?_, ⟨?_, fun j h1 h2 => ?_, fun x hx hbx => ?_, fun v hv => ?_, fun j hj => ?_⟩, PosC_fr i4 (fun r h1 h2 => ro_ne _ _ (by omega)), fun r hr => by rw [ro_ne _ _ (by omega)]; exact i5 r hr⟩
  · unfold b_X0_build_96 b0_X0_build_96
    simp (disch := omega) only [↓grd_u, ↓bnd_e, ↓orf_u, ↓oif_u, ↓cal_u, ↓calX_u, ↓inrO_u, ↓reduceIte, EM, EMg, EMs, z0, oi, n_inbT, n_cntT, n_ltT, n_ltF, n_leT, n_leF, n_eqT, n_eqF, n_m1T, n_m1F, n_m1F', n_cl, n_add, n_mul, ro_at, ro_ro, up_at, up_up, e1, hh, n_and, hq2]
    simp (disch := omega) only [↓grd_u, ↓bnd_e, ↓orf_u, ↓oif_u, ↓cal_u, ↓calX_u, ↓inrO_u, ↓reduceIte, EM, EMg, EMs, z0, oi, n_inbT, n_cntT, n_ltT, n_ltF, n_leT, n_leF, n_eqT, n_eqF, n_m1T, n_m1F, n_m1F', n_cl, n_add, n_mul, ro_at, ro_ro, up_at, up_up, e1, e3, en]
  · rw [ro_ne _ _ (by omega)]; exact i3.1
  · rw [ro_ne _ _ (by omega), ro_ne _ _ (by omega)]; exact i3.2.1 j h1 h2
  · rw [ro_ne _ _ (by omega)]; exact i3.2.2.1 x hx hbx
  · rw [ro_at]
    by_cases e : v = 3 * k + c
    · subst e
      rw [show k * 3 + c = 3 * k + c by omega, up_at]
      refine ⟨i, i1, ?_, rfl⟩
      rw [show (3 * k + c) / 3 = k by omega, show (3 * k + c) % 3 = c by omega]
      have : (brun (gnext g) 128 (3 * k + c + 1)).1 k = (brun (gnext g) 128 (3 * k + c)).1 k := ((brun_pre (gnext g) 128 (3 * k + c) 1).2 k hk).1
      rw [this]
      exact i2
    · rw [up_ne _ _ (by omega)]
      exact i3.2.2.2.1 v (by omega)
  · rw [ro_ne _ _ (by omega), ro_ne _ _ (by omega)]; exact i3.2.2.2.2 j hj
theorem c_bin {k q : Nat} (hb : bAu b) (ok : GluOK g) (hp : PosC A (b + 1) g m) (hu : AuC A b g (brun (gnext g) 128 (3 * k)) (3 * k)) (hk : k < (brun (gnext g) 128 (3 * k)).2.2) (hq : ∀ c, q &&& g.2.2.2.2 c = gnext g ((brun (gnext g) 128 (3 * k)).1 k) c) :
    ∃ A', g_X0_build_96 (ca n b) (nI k) (nI q) (nI 0) (E n h A M R) = some (.inl (nI (k + 1), E n h A' M R)) ∧ AuC A' b g (brun (gnext g) 128 (3 * (k + 1))) (3 * (k + 1)) ∧ PosC A' (b + 1) g m ∧ FrA b A A' := by
  have k1 := brun_pre (gnext g) 128 (3 * k) 1
  have k2 := brun_pre (gnext g) 128 (3 * k) 2
  obtain ⟨A1, a1, a2, a3, a4⟩ := c_bvis (n := n) (h := h) (M := M) (R := R) (c := 0) (q := q) hb ok hp hu hk (by decide) (fun _ => Or.inr trivial) (hq 0)
  obtain ⟨A2, b1, b2, b3, b4⟩ := c_bvis (n := n) (h := h) (M := M) (R := R) (k := k) (c := 1) (q := q) hb ok a3 a2 (by omega) (by decide) (fun _ => Or.inr trivial) (by rw [(k1.2 k hk).1]; exact hq 1)
  obtain ⟨A3, c1, c2, c3, c4⟩ := c_bvis (n := n) (h := h) (M := M) (R := R) (k := k) (c := 2) (q := q) hb ok b3 b2 (by omega) (by decide) (fun _ => Or.inr trivial) (by rw [(k2.2 k hk).1]; exact hq 2)
  refine ⟨A3, ?_, c2, c3, FrA_tr a4 (FrA_tr b4 c4)⟩
  unfold g_X0_build_96
  show lp _ (99996 + 1 + 1 + 1 + 1) _ = _
  unfold lp
  rw [a1]
  dsimp only
  unfold lp
  rw [b1]
  dsimp only
  unfold lp
  rw [c1]
  dsimp only
  unfold lp b_X0_build_96 b0_X0_build_96
  simp (disch := omega) only [↓grd_u, ↓bnd_e, ↓orf_u, ↓oif_u, ↓cal_u, ↓calX_u, ↓inrO_u, ↓reduceIte, EM, EMg, EMs, z0, oi, n_inbT, n_cntT, n_ltT, n_ltF, n_leT, n_leF, n_eqT, n_eqF, n_m1T, n_m1F, n_m1F', n_cl, n_add, n_mul, ro_at, ro_ro, up_at, up_up]
theorem bAu_cells (hb : bAu b) : b + 8 < 97 ∧ KC (b + 8) = 104 ∧ SC (b + 8) = 128 := by
  rcases hb with rfl | rfl <;> exact ⟨by decide, rfl, rfl⟩
theorem good_wf {S : St} {s : Nat} (hg : GoodS S) (hs : s < 6) (hp : lP (sCur S) s ≠ []) : WF (lP (sCur S) s) ∧ nLet (lP (sCur S) s) ≤ 7 ∧ (lP (sCur S) s).length ≤ 22 := by
  have gp := hg.1.1 s hs
  have h7 : nLet (lP (sCur S) s) ≤ 7 := by
    rcases gp with q | ⟨-, q⟩
    · exact absurd q hp
    · exact Nat.not_lt.mp (fun z => q (Or.inl z))
  exact ⟨GoodP_wf gp hp, h7, GoodP_len gp⟩
/-- the automaton of a pattern is built -/
theorem c_build {p : List Nat} (hb : bAu b) (hp : Pat n h a p) (wf : WF p) (h7 : nLet p ≤ 7) (hl : p.length ≤ 28) : ∃ A', f_X0_build (ca n b) a (E n h A M R) = some ((), E n h A' M R) ∧ AuF A' b (gluOf p) ∧ FrA b A A' := by
  have e1 := EAu hb
  have e2 := EAug hb
  have e3 := EAus hb
  have hb5 : bPo (b + 1) := by rcases hb with rfl | rfl; exact Or.inr (Or.inl rfl); exact Or.inr (Or.inr rfl)
  obtain ⟨w1, w2, w3⟩ := bAu_cells hb
  have ok := glu_ok wf h7
  obtain ⟨A1, en, gc, f1⟩ := c_number (n := n) (h := h) (A := A) (M := M) (R := R) hb5 hp wf h7 hl
  have pc := PosC_of wf h7 gc
  obtain ⟨g, hge⟩ : ∃ g, g = gluOf p := ⟨_, rfl⟩
  rw [← hge] at ok pc ⊢
  have fl := c_fill (n := n) (h := h) (A := A1) (M := M) (R := R) (v := Int32.ofInt (-1)) w1 w2 w3 (by decide)
  obtain ⟨A2, hA2⟩ : ∃ A2, A2 = ro (ro (ro (ro A1 (b + 8) (pre 128 (fun _ => Int32.ofInt (-1)) (A1 (b + 8)))) b (up (A1 b) 8 (nI 1))) (b + 7) (up (A1 (b + 7)) 0 (nI 0))) (b + 11) (up (A1 (b + 11)) 0 (nI 0)) := ⟨_, rfl⟩
  have pc2 : PosC A2 (b + 1) g (nLet p) := PosC_fr pc (fun r h1 h2 => by rw [hA2]; simp (disch := omega) only [ro_ne])
  have cn := c_nothing (n := n) (h := h) (M := M) (R := R) hb5 pc2 ok
  obtain ⟨A3, hA3⟩ : ∃ A3, A3 = ro A2 (b + 10) (up (A2 (b + 10)) 0 (nI g.1)) := ⟨_, rfl⟩
  have pc3 : PosC A3 (b + 1) g (nLet p) := PosC_fr pc2 (fun r h1 h2 => by rw [hA3]; simp (disch := omega) only [ro_ne])
  have f3 : FrA b A A3 := fun r hr => by
    rw [hA3, hA2]
    simp (disch := omega) only [ro_ne]
    exact f1 r (by omega)
  have hg1 : nI g.1 = nI (b2 (gab g 128)) := by
    have := ok.1
    unfold gab b2
    rw [if_pos rfl]
    by_cases q : g.1 = 1
    · rw [if_pos (decide_eq_true q), q]
    · rw [if_neg (by simpa using q), show g.1 = 0 by omega]
  have au3 : AuC A3 b g (brun (gnext g) 128 0) 0 := by
    refine ⟨?_, fun j h1 h2 => ?_, fun x hx hbx => ?_, fun v hv => absurd hv (Nat.not_lt_zero _), fun j hj => ?_⟩
    · rw [hA3, hA2]
      simp (disch := omega) only [ro_ne, ro_at, up_at]
      rfl
    · have h2 : j < 1 := h2
      omega
    · rw [hA3, hA2]
      simp (disch := omega) only [ro_ne, ro_at]
      rw [pre_lt _ _ hx]
    · have hj : j < 1 := hj
      have : j = 0 := by omega
      subst this
      rw [hA3, hA2]
      simp (disch := omega) only [ro_ne, ro_at, up_at]
      exact ⟨hg1, rfl⟩
  have key : ∃ r, g_X0_build_50 (ca n b) (nI 0) (E n h A3 M R) = some r ∧ ∃ A', r = ((), E n h A' M R) ∧ AuF A' b g ∧ FrA b A A' := by
    unfold g_X0_build_50
    refine lp_inv0 (f := b_X0_build_50 (ca n b)) (fun k s' => k ≤ (brun (gnext g) 128 (3 * k)).2.2 ∧ ∃ A4, s' = (nI k, E n h A4 M R) ∧ AuC A4 b g (brun (gnext g) 128 (3 * k)) (3 * k) ∧ PosC A4 (b + 1) g (nLet p) ∧ FrA b A A4) _ 129 (fun k s' hk hI => ?_) (L := 100000) (by decide) ⟨Nat.zero_le _, A3, rfl, au3, pc3, f3⟩
    obtain ⟨hkl, A4, rfl, au4, pc4, f4⟩ := hI
    have hL := gB_le ok (3 * k)
    have e0 := au4.1
    unfold b_X0_build_50 b0_X0_build_50 g_X0_build_92 g_X0_build_146
    by_cases hk2 : k < (brun (gnext g) 128 (3 * k)).2.2
    · have hpre := (brun_pre (gnext g) 128 (3 * k) 3).1
      by_cases k0 : k = 0
      · have hfi := c_first (n := n) (h := h) (M := M) (R := R) hb5 pc4
        obtain ⟨A5, e5, au5, pc5, f5⟩ := c_bin (n := n) (h := h) (M := M) (R := R) (q := g.2.1) hb ok pc4 au4 hk2 (fun c => by
          rw [k0]
          show _ = gnext g 128 c
          unfold gnext
          rw [if_pos rfl])
        refine Or.inl ⟨(nI (k + 1), E n h A5 M R), ?_, by omega, ?_, A5, rfl, au5, pc5, FrA_tr f4 f5⟩
        · simp (disch := omega) only [↓grd_u, ↓bnd_e, ↓orf_u, ↓oif_u, ↓cal_u, ↓calX_u, ↓inrO_u, ↓reduceIte, EM, EMg, EMs, z0, oi, n_inbT, n_cntT, n_ltT, n_ltF, n_leT, n_leF, n_eqT, n_eqF, n_m1T, n_m1F, n_m1F', n_cl, n_add, n_mul, ro_at, ro_ro, up_at, up_up, e1, e2, e0, hfi, e5]
        · rw [show 3 * (k + 1) = 3 * k + 3 by omega]; omega
      · have hse := (au4.2.1 k (by omega) hk2).1
        have hlt : (brun (gnext g) 128 (3 * k)).1 k < 128 := by
          obtain ⟨-, -, c3⟩ := (Bf_all (gnext g) 128 (3 * k)).2.2.2.2.1 k (by omega) hk2
          rw [c3]
          exact gnext_lt ok _ _
        have hfo := c_follow (n := n) (h := h) (M := M) (R := R) hb5 pc4 ok hlt
        obtain ⟨A5, e5, au5, pc5, f5⟩ := c_bin (n := n) (h := h) (M := M) (R := R) (q := folU g.2.2.2.1 ((brun (gnext g) 128 (3 * k)).1 k) 7) hb ok pc4 au4 hk2 (fun c => by
          have h128 : (brun (gnext g) 128 (3 * k)).1 k ≠ 128 := by omega
          unfold gnext at h128 ⊢
          rw [if_neg h128])
        refine Or.inl ⟨(nI (k + 1), E n h A5 M R), ?_, by omega, ?_, A5, rfl, au5, pc5, FrA_tr f4 f5⟩
        · simp (disch := omega) only [↓grd_u, ↓bnd_e, ↓orf_u, ↓oif_u, ↓cal_u, ↓calX_u, ↓inrO_u, ↓reduceIte, EM, EMg, EMs, z0, oi, n_inbT, n_cntT, n_ltT, n_ltF, n_leT, n_leF, n_eqT, n_eqF, n_m1T, n_m1F, n_m1F', n_cl, n_add, n_mul, ro_at, ro_ro, up_at, up_up, e1, e2, e0, hse, hfo, e5]
        · rw [show 3 * (k + 1) = 3 * k + 3 by omega]; omega
    · have hke : k = (brun (gnext g) 128 (3 * k)).2.2 := by omega
      have hend : brun (gnext g) 128 (3 * k) = gB g := gB_end ok (by omega)
      rw [hend] at au4 e0 hke
      refine Or.inr ⟨((), E n h A4 M R), ?_, A4, rfl, ⟨e0, fun j hj c hc => ?_, au4.2.2.2.2⟩, f4⟩
      · simp (disch := omega) only [↓grd_u, ↓bnd_e, ↓orf_u, ↓oif_u, ↓cal_u, ↓calX_u, ↓inrO_u, ↓reduceIte, EM, EMg, EMs, z0, oi, n_inbT, n_cntT, n_ltT, n_ltF, n_leT, n_leF, n_eqT, n_eqF, n_m1T, n_m1F, n_m1F', n_cl, n_add, n_mul, ro_at, ro_ro, up_at, up_up, e1, e2, e0]
      · have hjl : j < (gB g).2.2 := hj
        obtain ⟨i, h1, h2, h3⟩ := au4.2.2.2.1 (3 * j + c) (by omega)
        rw [show (3 * j + c) / 3 = j by omega, show (3 * j + c) % 3 = c by omega] at h2
        rw [h3, gS_is ok hj hc h1 h2]
  obtain ⟨r, e, A', rfl, q1, q2⟩ := key
  refine ⟨A', ?_, q1, q2⟩
  have hn : (vp_nar .boolean (nI g.1) = nI g.1) = True := eq_true (n_nar01 ok.1)
  have hA2' := hA2.symm
  have hA3' := hA3.symm
  unfold f_X0_build
  simp (disch := omega) only [↓grd_u, ↓bnd_e, ↓orf_u, ↓oif_u, ↓cal_u, ↓calX_u, ↓inrO_u, ↓reduceIte, EM, EMg, EMs, z0, oi, n_inbT, n_cntT, n_ltT, n_ltF, n_leT, n_leF, n_eqT, n_eqF, n_m1T, n_m1F, n_m1F', n_cl, n_add, n_mul, ro_at, ro_ro, up_at, up_up, e1, e2, e3, en, fl, ro_ne, up_ne]
  rw [hA2']
  simp (disch := omega) only [↓grd_u, ↓bnd_e, ↓orf_u, ↓oif_u, ↓cal_u, ↓calX_u, ↓inrO_u, ↓reduceIte, EM, EMg, EMs, z0, oi, n_inbT, n_cntT, n_ltT, n_ltF, n_leT, n_leF, n_eqT, n_eqF, n_m1T, n_m1F, n_m1F', n_cl, n_add, n_mul, ro_at, ro_ro, up_at, up_up, e1, e2, e3, cn, hn]
  rw [hA3', e]
end CAUT
