/-! the reference: how far a state is from accepting; the first shortest words -/
theorem ek_far {nx : Nat → Nat → Nat} {T : Nat → Bool} {N : Nat} (hx : ∀ q c, q < N → c < 3 → nx q c < N) {m x : Nat} (hxN : x < N) (h : ek nx T m x = true) : ∃ i, i ≤ N ∧ ek nx T i x = true := by
  have hS : ∀ k x, (List.range (k + 1)).any (fun i => ek nx T i x) = true ↔ ∃ i, i ≤ k ∧ ek nx T i x = true := fun k x => by
    rw [List.any_eq_true]
    constructor
    · rintro ⟨i, h1, h2⟩
      exact ⟨i, by have := List.mem_range.mp h1; omega, h2⟩
    · rintro ⟨i, h1, h2⟩
      exact ⟨i, List.mem_range.mpr (by omega), h2⟩
  have beq : ∀ (a b : Bool), (a = true ↔ b = true) → a = b := fun a b hab => by
    cases a <;> cases b <;> simp_all
  have key := cs_stab (fun k x => (List.range (k + 1)).any (fun i => ek nx T i x)) N (fun k x _ hk => by
    obtain ⟨i, h1, h2⟩ := (hS k x).mp hk
    exact (hS (k + 1) x).mpr ⟨i, by omega, h2⟩) (fun k hst x hxN => by
    apply beq
    rw [hS, hS]
    constructor
    · rintro ⟨i, h1, h2⟩
      by_cases e : i ≤ k + 1
      · exact ⟨i, e, h2⟩
      · have : i = (k + 1) + 1 := by omega
        subst this
        obtain ⟨c, hc, h3⟩ := ek_s.mp h2
        have h4 := (hS (k + 1) (nx x c)).mpr ⟨k + 1, Nat.le_refl _, h3⟩
        rw [hst _ (hx x c hxN hc)] at h4
        obtain ⟨i', h5, h6⟩ := (hS k (nx x c)).mp h4
        exact ⟨i' + 1, by omega, ek_s.mpr ⟨c, hc, h6⟩⟩
    · rintro ⟨i, h1, h2⟩
      exact ⟨i, by omega, h2⟩)
  by_cases e : m ≤ N
  · exact ⟨m, e, h⟩
  · have h1 := key m (by omega) x hxN
    have h2 := (hS m x).mpr ⟨m, Nat.le_refl _, h⟩
    have h2 : (List.range (m + 1)).any (fun i => ek nx T i x) = true := h2
    have h3 : (List.range (N + 1)).any (fun i => ek nx T i x) = true := by rw [← h1]; exact h2
    exact (hS N x).mp h3
theorem ek_z {α : Type} (nx : α → Nat → α) (T : α → Bool) (q : α) : ek nx T 0 q = T q := rfl
def FaR (M : Nat → Nat → Int32) (g : Glu) (F : Nat → Nat) : Prop := ∀ j, j < gL g → M 23 (gO g j) = nI (F (gO g j)) ∧ F (gO g j) ≤ 999 ∧ (F (gO g j) < 999 → ek (gnext g) (gab g) (F (gO g j)) (gO g j) = true)
/-- right for the words of at most t letters -/
def FaT (g : Glu) (F : Nat → Nat) (t : Nat) : Prop := ∀ j, j < gL g → ∀ k, k ≤ t → ek (gnext g) (gab g) k (gO g j) = true → F (gO g j) ≤ k
def FaX (g : Glu) (F : Nat → Nat) : Prop := ∀ j c, j < gL g → c < 3 → F (gO g j) ≤ F (gnext g (gO g j) c) + 1
theorem FaX_T {g : Glu} {F : Nat → Nat} (ok : GluOK g) (h0 : FaT g F 0) (hx : FaX g F) : ∀ t, FaT g F t := fun t j hj k _ => by
  have key : ∀ k j, j < gL g → ek (gnext g) (gab g) k (gO g j) = true → F (gO g j) ≤ k := by
    intro k
    induction k with
    | zero => exact fun j hj hk => h0 j hj 0 (Nat.le_refl _) hk
    | succ k ih =>
      intro j hj hk
      obtain ⟨c, hc, h2⟩ := ek_s.mp hk
      obtain ⟨s1, s2⟩ := gS_ok ok hj hc
      have h3 := ih (gS g j c) s1 (by rw [s2]; exact h2)
      rw [s2] at h3
      have := hx j c hj hc
      omega
  exact key k j hj
theorem FaT_129 {g : Glu} {F : Nat → Nat} (ok : GluOK g) (h : FaT g F 129) : ∀ t, FaT g F t := fun t j hj k _ hk => by
  by_cases e : k ≤ 129
  · exact h j hj k e hk
  · obtain ⟨i, i1, i2⟩ := ek_far (gB_nx ok) (gO_lt ok j) hk
    have := h j hj i i1 i2
    omega
section MFAR
variable {n : Nat} {h : mH} {A M : Nat → Nat → Int32} {R : Nat → Nat → Option Nat} {S : St} {g : Glu}
theorem RI_fr {M' : Nat → Nat → Int32} {rows sc : List Nat} {s : bst} (h : RI M 0 s) (hf : Fr rows sc M M') (h1 : 18 ∉ rows) (h2 : 19 ∉ rows) (h3 : 36 ∉ sc) : RI M' 0 s := ⟨by rw [hf.2 _ h3]; exact h.1, by rw [hf.1 _ (by decide) h1]; exact h.2.1, by rw [hf.1 _ (by decide) h2]; exact h.2.2.1, by rw [hf.1 _ (by decide) h2]; exact h.2.2.2⟩
/-- one pass: nothing but smaller values; the flag tells whether one changed -/
def Pas (g : Glu) (M0 M1 : Nat → Nat → Int32) (F0 F1 : Nat → Nat) (fl : Nat) (vis : Nat → Nat → Prop) : Prop :=
  FaR M1 g F1 ∧ fl ≤ 1 ∧ (∀ x, F1 x ≤ F0 x) ∧ (fl = 0 → F1 = F0) ∧ (∀ j c, j < gL g → c < 3 → vis j c → F1 (gO g j) ≤ F0 (gnext g (gO g j) c) + 1) ∧ ((∀ t, FaT g F0 t) → fl = 0) ∧ Fr [23] [] M0 M1
theorem m_ff57 {k fl : Nat} {M0 M : Nat → Nat → Int32} {F0 F : Nat → Nat} (ok : GluOK g) (au : AutM M0 0 g) (ri : RI M0 0 (gB g)) (hk : k < gL g) (hp : Pas g M0 M F0 F fl (fun x _ => x < k)) :
    ∃ M' F' fl', g_X12_findsFar_57 (ma n 0) (nI fl) (nI k) (nI 0) (E n h A M R) = some (.inl (nI fl', nI (k + 1), E n h A M' R)) ∧ Pas g M0 M' F0 F' fl' (fun x _ => x < k + 1) := by
  have hL := gL_le ok
  have lk := gO_lt ok k
  have key : ∃ r, g_X12_findsFar_57 (ma n 0) (nI fl) (nI k) (nI 0) (E n h A M R) = some r ∧ ∃ M' F' fl', r = .inl (nI fl', nI (k + 1), E n h A M' R) ∧ Pas g M0 M' F0 F' fl' (fun x _ => x < k + 1) := by
    unfold g_X12_findsFar_57
    refine lp_inv0 (f := b_X12_findsFar_57 (ma n 0) (nI k)) (fun c s' => ∃ M1 F1 f1, s' = (nI f1, nI c, E n h A M1 R) ∧ Pas g M0 M1 F0 F1 f1 (fun x d => x < k ∨ (x = k ∧ d < c))) _ 3 (fun c s' hc hI => ?_) (L := 100000) (by decide) ⟨M, F, fl, rfl, hp.1, hp.2.1, hp.2.2.1, hp.2.2.2.1, fun j c h1 h2 hv => hp.2.2.2.2.1 j c h1 h2 (by omega), hp.2.2.2.2.2⟩
    obtain ⟨M1, F1, f1, rfl, p1, p2, p3, p4, p5, p6, fr1⟩ := hI
    have au1 := AutM_keep au fr1 (by decide)
    have ri1 := RI_fr ri fr1 (by decide) (by decide) (by decide)
    unfold b_X12_findsFar_57 b0_X12_findsFar_57 g_X12_findsFar_117
    by_cases hc3 : c < 3
    · have e2 := ri_o ri1 hk
      have to := m_to (n := n) (h := h) (A := A) (R := R) au1 (by decide : 0 < 2) lk hc3
      obtain ⟨s1, s2⟩ := gS_ok ok hk hc3
      obtain ⟨v1, v2, v3⟩ := p1 k hk
      obtain ⟨u1, u2, u3⟩ := p1 _ s1
      rw [s2] at u1 u2 u3
      have tl : gnext g (gO g k) c < 129 := gB_nx ok _ _ lk hc3
      by_cases hlt : F1 (gnext g (gO g k) c) + 1 < F1 (gO g k)
      · have hek : ek (gnext g) (gab g) (F1 (gnext g (gO g k) c) + 1) (gO g k) = true := ek_s.mpr ⟨c, hc3, u3 (by omega)⟩
        refine Or.inl ⟨(nI 1, nI (c + 1), E n h A (ro M1 23 (up (M1 23) (gO g k) (nI (F1 (gnext g (gO g k) c) + 1)))) R), ?_, hc3, _, up F1 (gO g k) (F1 (gnext g (gO g k) c) + 1), 1, rfl, fun j hj => ?_, Nat.le_refl _, fun x => ?_, fun h0 => absurd h0 (by decide), fun j d hj hd hv => ?_, fun hx => ?_, Fr_tr fr1 (Fr_ro (r := 23) _ (by decide) (by decide))⟩
        · simp (disch := omega) only [↓grd_u, ↓bnd_e, ↓orf_u, ↓oif_u, ↓cal_u, ↓calX_u, ↓inrO_u, ↓reduceIte, EM, EMg, EMs, z0, oi, n_inbT, n_cntT, n_ltT, n_ltF, n_leT, n_leF, n_eqT, n_eqF, n_m1T, n_m1F, n_m1F', n_cl, n_add, n_mul, ro_at, ro_ro, up_at, up_up, ro_ne, up_ne, ro_sw, e2, to, v1, u1]
        · rw [ro_at]
          by_cases e : gO g j = gO g k
          · rw [e, up_at, up_at]
            exact ⟨rfl, by omega, fun _ => hek⟩
          · rw [up_ne _ _ e, up_ne _ _ e]
            exact p1 j hj
        · by_cases e : x = gO g k
          · rw [e, up_at]
            have := p3 (gO g k)
            omega
          · rw [up_ne _ _ e]
            exact p3 x
        · by_cases e : gO g j = gO g k
          · have ejk := gO_inj g hj hk e
            have l1 := p3 (gnext g (gO g k) c)
            rw [e, up_at]
            by_cases q : d = c
            · rw [q]; omega
            · have l2 := p5 k d hk hd (by omega)
              omega
          · rw [up_ne _ _ e]
            exact p5 j d hj hd (by
              rcases hv with e1 | ⟨e1, -⟩
              · exact Or.inl e1
              · exact absurd (by rw [e1]) e)
        · exfalso
          have h0 := p6 hx
          have e1 := p4 h0
          have := hx _ k hk _ (Nat.le_refl _) hek
          rw [e1] at this hlt
          omega
      · refine Or.inl ⟨(nI f1, nI (c + 1), E n h A M1 R), ?_, hc3, M1, F1, f1, rfl, p1, p2, p3, p4, fun j d hj hd hv => ?_, p6, fr1⟩
        · simp (disch := omega) only [↓grd_u, ↓bnd_e, ↓orf_u, ↓oif_u, ↓cal_u, ↓calX_u, ↓inrO_u, ↓reduceIte, EM, EMg, EMs, z0, oi, n_inbT, n_cntT, n_ltT, n_ltF, n_leT, n_leF, n_eqT, n_eqF, n_m1T, n_m1F, n_m1F', n_cl, n_add, n_mul, ro_at, ro_ro, up_at, up_up, ro_ne, up_ne, ro_sw, e2, to, v1, u1]
        · by_cases q : j = k ∧ d = c
          · rw [q.1, q.2]
            have := p3 (gnext g (gO g k) c)
            omega
          · exact p5 j d hj hd (by omega)
    · have hce : c = 3 := by omega
      refine Or.inr ⟨.inl (nI f1, nI (k + 1), E n h A M1 R), ?_, M1, F1, f1, rfl, p1, p2, p3, p4, fun j d h1 h2 hv => p5 j d h1 h2 (by omega), p6, fr1⟩
      rw [hce]
      simp (disch := omega) only [↓grd_u, ↓bnd_e, ↓orf_u, ↓oif_u, ↓cal_u, ↓calX_u, ↓inrO_u, ↓reduceIte, EM, EMg, EMs, z0, oi, n_inbT, n_cntT, n_ltT, n_ltF, n_leT, n_leF, n_eqT, n_eqF, n_m1T, n_m1F, n_m1F', n_cl, n_add, n_mul, ro_at, ro_ro, up_at, up_up]
  obtain ⟨r, e, M', F', fl', rfl, q⟩ := key
  exact ⟨M', F', fl', e, q⟩
theorem m_ff47 {M0 : Nat → Nat → Int32} {F0 : Nat → Nat} (ok : GluOK g) (au : AutM M0 0 g) (ri : RI M0 0 (gB g)) (hp : FaR M0 g F0) :
    ∃ M' F' fl', g_X12_findsFar_47 (ma n 0) (nI 0) (nI 0) (E n h A M0 R) = some (.inl (nI fl', E n h A M' R)) ∧ Pas g M0 M' F0 F' fl' (fun _ _ => True) := by
  have hL := gL_le ok
  have key : ∃ r, g_X12_findsFar_47 (ma n 0) (nI 0) (nI 0) (E n h A M0 R) = some r ∧ ∃ M' F' fl', r = .inl (nI fl', E n h A M' R) ∧ Pas g M0 M' F0 F' fl' (fun _ _ => True) := by
    unfold g_X12_findsFar_47
    refine lp_inv0 (f := b_X12_findsFar_47 (ma n 0)) (fun k s' => ∃ M1 F1 f1, s' = (nI f1, nI k, E n h A M1 R) ∧ Pas g M0 M1 F0 F1 f1 (fun x _ => x < k)) _ (gL g) (fun k s' hk hI => ?_) (L := 100000) (by omega) ⟨M0, F0, 0, rfl, hp, by decide, fun _ => Nat.le_refl _, fun _ => rfl, fun j c _ _ hv => absurd hv (by omega), fun _ => rfl, Fr_rf _ _ _⟩
    obtain ⟨M1, F1, f1, rfl, p⟩ := hI
    have ri1 := RI_fr ri p.2.2.2.2.2.2 (by decide) (by decide) (by decide)
    have e1 := ri_n ri1
    unfold b_X12_findsFar_47 b0_X12_findsFar_47
    by_cases hkL : k < gL g
    · obtain ⟨M2, F2, f2, e3, p2⟩ := m_ff57 (n := n) (h := h) (A := A) (R := R) ok au ri hkL p
      exact Or.inl ⟨(nI f2, nI (k + 1), E n h A M2 R), by simp (disch := omega) only [↓grd_u, ↓bnd_e, ↓orf_u, ↓oif_u, ↓cal_u, ↓calX_u, ↓inrO_u, ↓reduceIte, EM, EMg, EMs, z0, oi, n_inbT, n_cntT, n_ltT, n_ltF, n_leT, n_leF, n_eqT, n_eqF, n_m1T, n_m1F, n_m1F', n_cl, n_add, n_mul, ro_at, ro_ro, up_at, up_up, e1, e3], hkL, M2, F2, f2, rfl, p2⟩
    · exact Or.inr ⟨.inl (nI f1, E n h A M1 R), by simp (disch := omega) only [↓grd_u, ↓bnd_e, ↓orf_u, ↓oif_u, ↓cal_u, ↓calX_u, ↓inrO_u, ↓reduceIte, EM, EMg, EMs, z0, oi, n_inbT, n_cntT, n_ltT, n_ltF, n_leT, n_leF, n_eqT, n_eqF, n_m1T, n_m1F, n_m1F', n_cl, n_add, n_mul, ro_at, ro_ro, up_at, up_up, e1], M1, F1, f1, rfl, p.1, p.2.1, p.2.2.1, p.2.2.2.1, fun j c h1 h2 _ => p.2.2.2.2.1 j c h1 h2 (by omega), p.2.2.2.2.2⟩
  obtain ⟨r, e, M', F', fl', rfl, q⟩ := key
  exact ⟨M', F', fl', e, q⟩
theorem m_ff39 {M0 : Nat → Nat → Int32} {F0 : Nat → Nat} (ok : GluOK g) (au : AutM M0 0 g) (ri : RI M0 0 (gB g)) (hp : FaR M0 g F0) (h0 : FaT g F0 0) :
    ∃ M' F', g_X12_findsFar_39 (ma n 0) (nI 1) (E n h A M0 R) = some ((), E n h A M' R) ∧ FaR M' g F' ∧ (∀ t, FaT g F' t) ∧ Fr [23] [] M0 M' := by
  have key : ∃ r, g_X12_findsFar_39 (ma n 0) (nI 1) (E n h A M0 R) = some r ∧ ∃ M' F', r = ((), E n h A M' R) ∧ FaR M' g F' ∧ (∀ t, FaT g F' t) ∧ Fr [23] [] M0 M' := by
    unfold g_X12_findsFar_39
    refine lp_inv0 (f := b_X12_findsFar_39 (ma n 0)) (fun t s' => ∃ M1 F1 f1, s' = (nI f1, E n h A M1 R) ∧ f1 ≤ 1 ∧ FaR M1 g F1 ∧ FaT g F1 t ∧ (f1 = 0 → FaX g F1) ∧ (131 ≤ t → f1 = 0) ∧ Fr [23] [] M0 M1) _ 131 (fun t s' ht hI => ?_) (L := 100000) (by decide) ⟨M0, F0, 1, rfl, by decide, hp, h0, fun z => absurd z (by decide), fun z => absurd z (by decide), Fr_rf _ _ _⟩
    obtain ⟨M1, F1, f1, rfl, p1, p2, p3, p4, p5, fr1⟩ := hI
    have au1 := AutM_keep au fr1 (by decide)
    have ri1 := RI_fr ri fr1 (by decide) (by decide) (by decide)
    unfold b_X12_findsFar_39 b0_X12_findsFar_39
    by_cases hf : f1 = 0
    · refine Or.inr ⟨((), E n h A M1 R), ?_, M1, F1, rfl, p2, FaX_T ok (fun j hj k hk => p3 j hj k (by omega)) (p4 hf), fr1⟩
      rw [hf]
      simp (disch := omega) only [↓grd_u, ↓bnd_e, ↓orf_u, ↓oif_u, ↓cal_u, ↓calX_u, ↓inrO_u, ↓reduceIte, EM, EMg, EMs, z0, oi, n_inbT, n_cntT, n_ltT, n_ltF, n_leT, n_leF, n_eqT, n_eqF, n_m1T, n_m1F, n_m1F', n_cl, n_add, n_mul, ro_at, ro_ro, up_at, up_up]
    · obtain ⟨M2, F2, f2, e3, q1, q2, q3, q4, q5, q6, q7⟩ := m_ff47 (n := n) (h := h) (A := A) (R := R) ok au1 ri1 p2
      have ht131 : t < 131 := Nat.lt_of_not_le (fun z => hf (p5 z))
      refine Or.inl ⟨(nI f2, E n h A M2 R), ?_, ht131, M2, F2, f2, rfl, q2, q1, fun j hj k hk hek => ?_, fun z j c hj hc => ?_, fun z => q6 (FaT_129 ok (fun j hj k hk => p3 j hj k (by omega))), Fr_tr fr1 q7⟩
      · simp (disch := omega) only [↓grd_u, ↓bnd_e, ↓orf_u, ↓oif_u, ↓cal_u, ↓calX_u, ↓inrO_u, ↓reduceIte, EM, EMg, EMs, z0, oi, n_inbT, n_cntT, n_ltT, n_ltF, n_leT, n_leF, n_eqT, n_eqF, n_m1T, n_m1F, n_m1F', n_cl, n_add, n_mul, ro_at, ro_ro, up_at, up_up, e3]
      · cases k with
        | zero =>
          have a1 := p3 j hj 0 (Nat.zero_le _) hek
          have a2 := q3 (gO g j)
          omega
        | succ k =>
          obtain ⟨c, hc, h2⟩ := ek_s.mp hek
          obtain ⟨s1, s2⟩ := gS_ok ok hj hc
          have a1 := p3 _ s1 k (by omega) (by rw [s2]; exact h2)
          rw [s2] at a1
          have a2 := q5 j c hj hc trivial
          omega
      · have a2 := q5 j c hj hc trivial
        rw [← q4 z] at a2
        exact a2
  obtain ⟨r, e, M', F', rfl, q⟩ := key
  exact ⟨M', F', e, q⟩
def fa0 (g : Glu) (x : Nat) : Nat := if gab g x = true then 0 else 999
theorem m_findsFar (ok : GluOK g) (au : AutM M 0 g) (ri : RI M 0 (gB g)) : ∃ M' F', f_X12_findsFar (ma n 0) (E n h A M R) = some ((), E n h A M' R) ∧ FaR M' g F' ∧ (∀ t, FaT g F' t) ∧ Fr [23] [] M M' := by
  have fr0 : Fr [23] [] M (ro M 23 (pre 129 (fun k => nI (fa0 g k)) (M 23))) := Fr_ro (r := 23) _ (by decide) (by decide)
  have hp : FaR (ro M 23 (pre 129 (fun k => nI (fa0 g k)) (M 23))) g (fa0 g) := fun j hj => by
    rw [ro_at, pre_lt _ _ (gO_lt ok j)]
    refine ⟨rfl, ?_, ?_⟩
    · unfold fa0
      split <;> decide
    · unfold fa0
      by_cases q : gab g (gO g j) = true
      · rw [if_pos q, ek_z]; exact fun _ => q
      · rw [if_neg q]; exact fun z => absurd z (by decide)
  have h0 : FaT g (fa0 g) 0 := fun j hj k hk hek => by
    have hk0 : k = 0 := by omega
    rw [hk0, ek_z] at hek
    unfold fa0
    rw [if_pos hek]
    omega
  obtain ⟨M', F', e, q1, q2, q3⟩ := m_ff39 (n := n) (h := h) (A := A) (R := R) ok (AutM_keep au fr0 (by decide)) (RI_fr ri fr0 (by decide) (by decide) (by decide)) hp h0
  refine ⟨M', F', ?_, q1, q2, Fr_tr fr0 q3⟩
  unfold f_X12_findsFar g_X12_findsFar_2
  have hl := lp_for0 (f := b_X12_findsFar_2 (ma n 0)) (fun k => (nI k, E n h A (ro M 23 (pre k (fun k => nI (fa0 g k)) (M 23))) R)) 129 ((), E n h A M' R) (fun k hk => ?_) ?_ (L := 100000) (by decide)
  · simp only [pre_0, ro_self] at hl
    exact hl
  · have au1 : AutM (ro M 23 (pre k (fun k => nI (fa0 g k)) (M 23))) 0 g := AutM_keep au (Fr_ro (r := 23) (rows := [23]) (sc := []) _ (by decide) (by decide)) (by decide)
    have hac := m_acc (n := n) (h := h) (A := A) (R := R) au1 ok (by decide : 0 < 2) hk
    unfold b_X12_findsFar_2 b0_X12_findsFar_2 g_X12_findsFar_30
    unfold b2 at hac
    by_cases q : gab g k = true
    · have ef : fa0 g k = 0 := by unfold fa0; rw [if_pos q]
      rw [if_pos q] at hac
      simp (disch := omega) only [↓grd_u, ↓bnd_e, ↓orf_u, ↓oif_u, ↓cal_u, ↓calX_u, ↓inrO_u, ↓reduceIte, EM, EMg, EMs, z0, oi, n_inbT, n_cntT, n_ltT, n_ltF, n_leT, n_leF, n_eqT, n_eqF, n_m1T, n_m1F, n_m1F', n_cl, n_add, n_mul, ro_at, ro_ro, up_at, up_up, ro_ne, up_ne, ro_sw, hac]
      rw [← up_pre, ef]
    · have ef : fa0 g k = 999 := by unfold fa0; rw [if_neg q]
      rw [if_neg q] at hac
      simp (disch := omega) only [↓grd_u, ↓bnd_e, ↓orf_u, ↓oif_u, ↓cal_u, ↓calX_u, ↓inrO_u, ↓reduceIte, EM, EMg, EMs, z0, oi, n_inbT, n_cntT, n_ltT, n_ltF, n_leT, n_leF, n_eqT, n_eqF, n_m1T, n_m1F, n_m1F', n_cl, n_add, n_mul, ro_at, ro_ro, up_at, up_up, ro_ne, up_ne, ro_sw, hac]
      rw [← up_pre, ef]
  · unfold b_X12_findsFar_2 b0_X12_findsFar_2
    simp (disch := omega) only [↓grd_u, ↓bnd_e, ↓orf_u, ↓oif_u, ↓cal_u, ↓calX_u, ↓inrO_u, ↓reduceIte, EM, EMg, EMs, z0, oi, n_inbT, n_cntT, n_ltT, n_ltF, n_leT, n_leF, n_eqT, n_eqF, n_m1T, n_m1F, n_m1F', n_cl, n_add, n_mul, ro_at, ro_ro, up_at, up_up, e]
/-- a state from which a word is accepted -/
theorem Fa_D {F : Nat → Nat} {j k : Nat} (ok : GluOK g) (h1 : FaR M g F) (h2 : ∀ t, FaT g F t) (hj : j < gL g) (hk : ek (gnext g) (gab g) k (gO g j) = true) : isD (gnext g) (gab g) (gO g j) (F (gO g j)) ∧ F (gO g j) ≤ 129 := by
  obtain ⟨v1, v2, v3⟩ := h1 j hj
  obtain ⟨i, i1, i2⟩ := ek_far (gB_nx ok) (gO_lt ok j) hk
  have := h2 i j hj i (Nat.le_refl _) i2
  refine ⟨⟨v3 (by omega), fun i hi => ?_⟩, by omega⟩
  cases z : ek (gnext g) (gab g) i (gO g j) with
  | false => rfl
  | true =>
    have := h2 i j hj i (Nat.le_refl _) z
    omega
end MFAR
