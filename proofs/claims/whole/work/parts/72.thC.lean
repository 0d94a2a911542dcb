/-! how many words of a length are accepted -/
def sm (f : Nat → Nat) : Nat → Nat
  | 0 => 0
  | n + 1 => sm f n + f n
theorem sm_s (f : Nat → Nat) (n : Nat) : sm f (n + 1) = sm f n + f n := rfl
theorem sm_cg {f f' : Nat → Nat} : ∀ {n : Nat}, (∀ k, k < n → f k = f' k) → sm f n = sm f' n
  | 0, _ => rfl
  | n + 1, h => by
    unfold sm
    rw [sm_cg (n := n) (fun k hk => h k (by omega)), h n (by omega)]
theorem sm_0 {f : Nat → Nat} : ∀ {n : Nat}, (∀ k, k < n → f k = 0) → sm f n = 0
  | 0, _ => rfl
  | n + 1, h => by
    unfold sm
    rw [sm_0 (n := n) (fun k hk => h k (by omega)), h n (by omega)]
theorem sm_one {f : Nat → Nat} {t : Nat} : ∀ {n : Nat}, t < n → (∀ k, k < n → k ≠ t → f k = 0) → sm f n = f t
  | 0, h, _ => absurd h (Nat.not_lt_zero _)
  | n + 1, h, hf => by
    unfold sm
    by_cases e : t = n
    · subst e
      rw [sm_0 (fun k hk => hf k (by omega) (by omega)), Nat.zero_add]
    · rw [sm_one (n := n) (by omega) (fun k hk hne => hf k (by omega) hne), hf n (by omega) (by omega)]
      rfl
theorem sm_up {W f : Nat → Nat} {t v : Nat} : ∀ {n : Nat}, t < n → sm (fun x => up W t (W t + v) x * f x) n = sm (fun x => W x * f x) n + v * f t
  | 0, h => absurd h (Nat.not_lt_zero _)
  | n + 1, h => by
    show sm (fun x => up W t (W t + v) x * f x) n + up W t (W t + v) n * f n = sm (fun x => W x * f x) n + W n * f n + v * f t
    by_cases e : t = n
    · subst e
      rw [show up W t (W t + v) t = W t + v from up_at _ _ _, Nat.add_mul]
      rw [sm_cg (f := fun x => up W t (W t + v) x * f x) (f' := fun x => W x * f x) (fun k hk => by
        show up W t (W t + v) k * f k = _
        rw [up_ne _ _ (by omega)])]
      omega
    · have ih := sm_up (W := W) (f := f) (v := v) (n := n) (t := t) (by omega)
      rw [ih, show up W t (W t + v) n = W n from up_ne _ _ (fun q => e q.symm)]
      omega
theorem sm_3 (f : Nat → Nat) : ∀ m, sm f (3 * m) = sm (fun k => f (3 * k) + f (3 * k + 1) + f (3 * k + 2)) m
  | 0 => rfl
  | m + 1 => by
    show sm f (3 * m + 1 + 1 + 1) = sm (fun k => f (3 * k) + f (3 * k + 1) + f (3 * k + 2)) m + (f (3 * m) + f (3 * m + 1) + f (3 * m + 2))
    rw [sm_s, sm_s, sm_s, sm_3 f m]
    omega
theorem sm_add (f f' : Nat → Nat) : ∀ n, sm (fun k => f k + f' k) n = sm f n + sm f' n
  | 0 => rfl
  | n + 1 => by
    show sm (fun k => f k + f' k) n + (f n + f' n) = sm f n + f n + (sm f' n + f' n)
    rw [sm_add f f' n]
    omega
def cw (nx : Nat → Nat → Nat) (T : Nat → Bool) : Nat → Nat → Nat
  | 0, q => b2 (T q)
  | n + 1, q => cw nx T n (nx q 0) + cw nx T n (nx q 1) + cw nx T n (nx q 2)
/-- the letters are the digits of a number -/
def adg (nx : Nat → Nat → Nat) (T : Nat → Bool) : Nat → Nat → Nat → Bool
  | 0, q, _ => T q
  | n + 1, q, m => adg nx T n (nx q (m % 3)) (m / 3)
theorem adg_cw (nx : Nat → Nat → Nat) (T : Nat → Bool) : ∀ (n q : Nat), sm (fun m => b2 (adg nx T n q m)) (3 ^ n) = cw nx T n q
  | 0, q => Nat.zero_add _
  | n + 1, q => by
    rw [Nat.pow_succ, Nat.mul_comm, sm_3]
    have e : ∀ k, b2 (adg nx T (n + 1) q (3 * k)) + b2 (adg nx T (n + 1) q (3 * k + 1)) + b2 (adg nx T (n + 1) q (3 * k + 2)) = b2 (adg nx T n (nx q 0) k) + b2 (adg nx T n (nx q 1) k) + b2 (adg nx T n (nx q 2) k) := fun k => by
      show b2 (adg nx T n (nx q (3 * k % 3)) (3 * k / 3)) + b2 (adg nx T n (nx q ((3 * k + 1) % 3)) ((3 * k + 1) / 3)) + b2 (adg nx T n (nx q ((3 * k + 2) % 3)) ((3 * k + 2) / 3)) = _
      rw [show 3 * k % 3 = 0 by omega, show 3 * k / 3 = k by omega, show (3 * k + 1) % 3 = 1 by omega, show (3 * k + 1) / 3 = k by omega, show (3 * k + 2) % 3 = 2 by omega, show (3 * k + 2) / 3 = k by omega]
    rw [sm_cg (f' := fun k => b2 (adg nx T n (nx q 0) k) + b2 (adg nx T n (nx q 1) k) + b2 (adg nx T n (nx q 2) k)) (fun k _ => e k)]
    rw [sm_add (fun k => b2 (adg nx T n (nx q 0) k) + b2 (adg nx T n (nx q 1) k)) (fun k => b2 (adg nx T n (nx q 2) k)), sm_add (fun k => b2 (adg nx T n (nx q 0) k)) (fun k => b2 (adg nx T n (nx q 1) k)), adg_cw nx T n, adg_cw nx T n, adg_cw nx T n]
    rfl
theorem cw_gS {g : Glu} (ok : GluOK g) : ∀ (n j : Nat), j < gL g → cw (gS g) (gA g) n j = cw (gnext g) (gab g) n (gO g j)
  | 0, j, _ => by
    unfold cw gA
    rfl
  | n + 1, j, hj => by
    have h0 := gS_ok ok hj (by decide : 0 < 3)
    have h1 := gS_ok ok hj (by decide : 1 < 3)
    have h2 := gS_ok ok hj (by decide : 2 < 3)
    show cw (gS g) (gA g) n (gS g j 0) + cw (gS g) (gA g) n (gS g j 1) + cw (gS g) (gA g) n (gS g j 2) = _
    rw [cw_gS ok n _ h0.1, cw_gS ok n _ h1.1, cw_gS ok n _ h2.1, h0.2, h1.2, h2.2]
    rfl
def gCw (g : Glu) (n : Nat) : Nat := cw (gnext g) (gab g) n 128
theorem gCw_S {g : Glu} (ok : GluOK g) (n : Nat) : cw (gS g) (gA g) n 0 = gCw g n := by
  rw [cw_gS ok n 0 (gL_pos g), gO_0]
  rfl
/-- one letter on: what is at a state goes to the three states that follow it -/
def pot (nx : Nat → Nat → Nat) (T : Nat → Bool) (n : Nat) (C : Nat → Nat) (N : Nat) : Nat := sm (fun x => C x * cw nx T n x) N
/-- what has gone on so far: states below k whole, of k the letters below c -/
def potP (nx : Nat → Nat → Nat) (T : Nat → Bool) (n : Nat) (C : Nat → Nat) (k c : Nat) : Nat := pot nx T (n + 1) C k + C k * ((if 0 < c then cw nx T n (nx k 0) else 0) + (if 1 < c then cw nx T n (nx k 1) else 0) + (if 2 < c then cw nx T n (nx k 2) else 0))
theorem potP_0 (nx : Nat → Nat → Nat) (T : Nat → Bool) (n : Nat) (C : Nat → Nat) (k : Nat) : potP nx T n C k 0 = pot nx T (n + 1) C k := by unfold potP; simp
theorem potP_3 (nx : Nat → Nat → Nat) (T : Nat → Bool) (n : Nat) (C : Nat → Nat) (k : Nat) : potP nx T n C k 3 = pot nx T (n + 1) C (k + 1) := by unfold potP; simp; rfl
theorem potP_s (nx : Nat → Nat → Nat) (T : Nat → Bool) (n : Nat) (C : Nat → Nat) (k : Nat) {c : Nat} (hc : c < 3) : potP nx T n C k (c + 1) = potP nx T n C k c + C k * cw nx T n (nx k c) := by
  unfold potP
  have : c = 0 ∨ c = 1 ∨ c = 2 := by omega
  rcases this with rfl | rfl | rfl
  · simp
  · simp [Nat.mul_add]; omega
  · simp [Nat.mul_add]; omega
theorem pot_up {nx : Nat → Nat → Nat} {T : Nat → Bool} {n N : Nat} {W : Nat → Nat} {t v : Nat} (ht : t < N) : pot nx T n (up W t (W t + v)) N = pot nx T n W N + v * cw nx T n t := sm_up ht
def lnN (v : Int32) : Option Nat := if v < nI 0 ∨ nI 6 < v then none else some v.toNatClampNeg
theorem ln_cases (v : Int32) : (∃ c, c < 7 ∧ v = nI c ∧ lnN v = some c) ∨ ((v < nI 0 ∨ nI 6 < v) ∧ lnN v = none) := by
  by_cases h : v < nI 0 ∨ nI 6 < v
  · exact Or.inr ⟨h, if_pos h⟩
  · obtain ⟨j, hj, rfl⟩ := nI_of (fun q => h (Or.inl q))
    have h2 := h
    rw [n_lt hj (by decide), n_lt (by decide) hj] at h2
    exact Or.inl ⟨j, by omega, rfl, by unfold lnN; rw [if_neg h, n_cl hj]⟩
def aCw (S : St) (v w : Int32) : Nat × Nat × St := match patN S v with
  | some s => (match lnN w with | some k => (0, gCw (gluOf (lP (sCur S) s)) k, S) | none => (2, 0, S))
  | none => (1, 0, S)
/-! the reference counts -/
def RwM (M : Nat → Nat → Int32) (r : Nat) (C : Nat → Nat) (N : Nat) : Prop := ∀ k, k < N → M r k = nI (C k)
section MCW
variable {n : Nat} {h : mH} {A M : Nat → Nat → Int32} {R : Nat → Nat → Option Nat} {S : St} {g : Glu}
theorem m_cw120 {len i k m : Nat} {C W : Nat → Nat} (ok : GluOK g) (au : AutM M 0 g) (hC : RwM M 27 C 129) (hW : RwM M 28 W 129) (hk : k < 129) (hp : pot (gnext g) (gab g) m W 129 = pot (gnext g) (gab g) (m + 1) C k) :
    ∃ M' W', g_X12_countWords_120 (ma n 0) (nI len) (nI i) (nI k) (nI 0) (E n h A M R) = some (.inl (nI (k + 1), E n h A M' R)) ∧ RwM M' 28 W' 129 ∧ pot (gnext g) (gab g) m W' 129 = pot (gnext g) (gab g) (m + 1) C (k + 1) ∧ Fr [28] [] M M' := by
  have key : ∃ r, g_X12_countWords_120 (ma n 0) (nI len) (nI i) (nI k) (nI 0) (E n h A M R) = some r ∧ ∃ M' W', r = .inl (nI (k + 1), E n h A M' R) ∧ RwM M' 28 W' 129 ∧ pot (gnext g) (gab g) m W' 129 = pot (gnext g) (gab g) (m + 1) C (k + 1) ∧ Fr [28] [] M M' := by
    unfold g_X12_countWords_120
    refine lp_inv0 (f := b_X12_countWords_120 (ma n 0) (nI len) (nI i) (nI k)) (fun c s' => ∃ M1 W1, s' = (nI c, E n h A M1 R) ∧ RwM M1 28 W1 129 ∧ pot (gnext g) (gab g) m W1 129 = potP (gnext g) (gab g) m C k c ∧ Fr [28] [] M M1) _ 3 (fun c s' hc hI => ?_) (L := 100000) (by decide) ⟨M, W, rfl, hW, by rw [hp, potP_0], Fr_rf _ _ _⟩
    obtain ⟨M1, W1, rfl, hW1, hp1, f1⟩ := hI
    have au1 := AutM_keep au f1 (by decide)
    have hC1 : RwM M1 27 C 129 := fun k hk => by rw [f1.1 _ (by decide) (by decide)]; exact hC k hk
    unfold b_X12_countWords_120 b0_X12_countWords_120
    by_cases hc3 : c < 3
    · have ht := m_to (n := n) (h := h) (A := A) (R := R) au1 (by decide : 0 < 2) hk hc3
      have tl := gnext_lt ok k c
      have e1 := hC1 k hk
      have e2 := hW1 (gnext g k c) (by omega)
      refine Or.inl ⟨(nI (c + 1), E n h A (ro M1 28 (up (M1 28) (gnext g k c) (nI (W1 (gnext g k c) + C k)))) R), ?_, hc3, _, up W1 (gnext g k c) (W1 (gnext g k c) + C k), rfl, fun x hx => ?_, ?_, Fr_tr f1 (Fr_ro (r := 28) _ (by decide) (by decide))⟩
      · simp (disch := omega) only [↓grd_u, ↓bnd_e, ↓orf_u, ↓oif_u, ↓cal_u, ↓calX_u, ↓inrO_u, ↓reduceIte, EM, EMg, EMs, z0, oi, n_inbT, n_cntT, n_ltT, n_ltF, n_leT, n_leF, n_eqT, n_eqF, n_m1T, n_m1F, n_m1F', n_cl, n_add, n_mul, ro_at, ro_ro, up_at, up_up, ro_ne, up_ne, ro_sw, ht, e1, e2]
      · rw [ro_at]
        by_cases e : x = gnext g k c
        · rw [e, up_at, up_at]
        · rw [up_ne _ _ e, up_ne _ _ e]; exact hW1 x hx
      · rw [pot_up (by omega), hp1, potP_s _ _ _ _ _ hc3]
    · have hce : c = 3 := by omega
      subst hce
      refine Or.inr ⟨.inl (nI (k + 1), E n h A M1 R), ?_, M1, W1, rfl, hW1, by rw [hp1, potP_3], f1⟩
      simp (disch := omega) only [↓grd_u, ↓bnd_e, ↓orf_u, ↓oif_u, ↓cal_u, ↓calX_u, ↓inrO_u, ↓reduceIte, EM, EMg, EMs, z0, oi, n_inbT, n_cntT, n_ltT, n_ltF, n_leT, n_leF, n_eqT, n_eqF, n_m1T, n_m1F, n_m1F', n_cl, n_add, n_mul, ro_at, ro_ro, up_at, up_up]
  obtain ⟨r, e, M', W', rfl, q1, q2, q3⟩ := key
  exact ⟨M', W', e, q1, q2, q3⟩
theorem m_cw84 {len i m : Nat} {C : Nat → Nat} (ok : GluOK g) (au : AutM M 0 g) (hC : RwM M 27 C 129) :
    ∃ M' C', g_X12_countWords_84 (ma n 0) (nI len) (nI i) (nI 0) (E n h A M R) = some (.inl (nI (i + 1), E n h A M' R)) ∧ RwM M' 27 C' 129 ∧ pot (gnext g) (gab g) m C' 129 = pot (gnext g) (gab g) (m + 1) C 129 ∧ Fr [27, 28] [] M M' := by
  -- the new row emptied
  obtain ⟨M1, hM1⟩ : ∃ M1, M1 = ro M 28 (pre 129 (fun _ => nI 0) (M 28)) := ⟨_, rfl⟩
  have f1 : Fr [28] [] M M1 := by rw [hM1]; exact Fr_ro _ (by decide) (by decide)
  have hC1 : RwM M1 27 C 129 := fun k hk => by rw [f1.1 _ (by decide) (by decide)]; exact hC k hk
  have hW1 : RwM M1 28 (fun _ => 0) 129 := fun k hk => by rw [hM1, ro_at, pre_lt _ _ hk]
  have au1 := AutM_keep au f1 (by decide)
  have key : ∃ r, g_X12_countWords_109 (ma n 0) (nI len) (nI i) (nI 0) (E n h A M1 R) = some r ∧ ∃ M' C', r = .inl (nI (i + 1), E n h A M' R) ∧ RwM M' 27 C' 129 ∧ pot (gnext g) (gab g) m C' 129 = pot (gnext g) (gab g) (m + 1) C 129 ∧ Fr [27, 28] [] M M' := by
    unfold g_X12_countWords_109
    refine lp_inv0 (f := b_X12_countWords_109 (ma n 0) (nI len) (nI i)) (fun k s' => ∃ M2 W2, s' = (nI k, E n h A M2 R) ∧ RwM M2 28 W2 129 ∧ pot (gnext g) (gab g) m W2 129 = pot (gnext g) (gab g) (m + 1) C k ∧ Fr [28] [] M M2) _ 129 (fun k s' hk hI => ?_) (L := 100000) (by decide) ⟨M1, fun _ => 0, rfl, hW1, by unfold pot; rw [sm_0 (fun k _ => Nat.zero_mul _)]; rfl, f1⟩
    obtain ⟨M2, W2, rfl, hW2, hp2, f2⟩ := hI
    have au2 := AutM_keep au f2 (by decide)
    have hC2 : RwM M2 27 C 129 := fun k hk => by rw [f2.1 _ (by decide) (by decide)]; exact hC k hk
    unfold b_X12_countWords_109 b0_X12_countWords_109
    by_cases hk2 : k < 129
    · obtain ⟨M3, W3, e3, hW3, hp3, f3⟩ := m_cw120 (n := n) (h := h) (A := A) (R := R) (len := len) (i := i) ok au2 hC2 hW2 hk2 hp2
      refine Or.inl ⟨(nI (k + 1), E n h A M3 R), ?_, hk2, M3, W3, rfl, hW3, hp3, Fr_tr f2 f3⟩
      simp (disch := omega) only [↓grd_u, ↓bnd_e, ↓orf_u, ↓oif_u, ↓cal_u, ↓calX_u, ↓inrO_u, ↓reduceIte, EM, EMg, EMs, z0, oi, n_inbT, n_cntT, n_ltT, n_ltF, n_leT, n_leF, n_eqT, n_eqF, n_m1T, n_m1F, n_m1F', n_cl, n_add, n_mul, ro_at, ro_ro, up_at, up_up, e3]
    · have hke : k = 129 := by omega
      subst hke
      have hcp : g_X12_countWords_165 (ma n 0) (nI len) (nI i) (nI 0) (E n h A M2 R) = some (.inl (nI (i + 1), E n h A (ro M2 27 (pre 129 (M2 28) (M2 27))) R)) := by
        unfold g_X12_countWords_165
        have hl2 := lp_for0 (f := b_X12_countWords_165 (ma n 0) (nI len) (nI i)) (fun q => (nI q, E n h A (ro M2 27 (pre q (M2 28) (M2 27))) R)) 129 (.inl (nI (i + 1), E n h A (ro M2 27 (pre 129 (M2 28) (M2 27))) R)) (fun q hq => ?_) ?_ (L := 100000) (by decide)
        · simp only [pre_0, ro_self] at hl2
          exact hl2
        · unfold b_X12_countWords_165 b0_X12_countWords_165
          simp (disch := omega) only [↓grd_u, ↓bnd_e, ↓orf_u, ↓oif_u, ↓cal_u, ↓calX_u, ↓inrO_u, ↓reduceIte, EM, EMg, EMs, z0, oi, n_inbT, n_cntT, n_ltT, n_ltF, n_leT, n_leF, n_eqT, n_eqF, n_m1T, n_m1F, n_m1F', n_cl, n_add, n_mul, ro_at, ro_ro, up_at, up_up, ro_ne, up_ne, ro_sw, up_pre]
        · unfold b_X12_countWords_165 b0_X12_countWords_165
          simp (disch := omega) only [↓grd_u, ↓bnd_e, ↓orf_u, ↓oif_u, ↓cal_u, ↓calX_u, ↓inrO_u, ↓reduceIte, EM, EMg, EMs, z0, oi, n_inbT, n_cntT, n_ltT, n_ltF, n_leT, n_leF, n_eqT, n_eqF, n_m1T, n_m1F, n_m1F', n_cl, n_add, n_mul, ro_at, ro_ro, up_at, up_up]
      refine Or.inr ⟨.inl (nI (i + 1), E n h A (ro M2 27 (pre 129 (M2 28) (M2 27))) R), ?_, ro M2 27 (pre 129 (M2 28) (M2 27)), W2, rfl, fun x hx => ?_, hp2, Fr_tr (Fr_wk f2 (by decide) (by decide)) (Fr_ro (r := 27) _ (by decide) (by decide))⟩
      · simp (disch := omega) only [↓grd_u, ↓bnd_e, ↓orf_u, ↓oif_u, ↓cal_u, ↓calX_u, ↓inrO_u, ↓reduceIte, EM, EMg, EMs, z0, oi, n_inbT, n_cntT, n_ltT, n_ltF, n_leT, n_leF, n_eqT, n_eqF, n_m1T, n_m1F, n_m1F', n_cl, n_add, n_mul, ro_at, ro_ro, up_at, up_up, hcp]
      · rw [ro_at, pre_lt _ _ hx]; exact hW2 x hx
  obtain ⟨r, e, M', C', rfl, q1, q2, q3⟩ := key
  refine ⟨M', C', ?_, q1, q2, q3⟩
  unfold g_X12_countWords_84
  have hl := lp_for0 (f := b_X12_countWords_84 (ma n 0) (nI len) (nI i)) (fun k => (nI k, E n h A (ro M 28 (pre k (fun _ => nI 0) (M 28))) R)) 129 (.inl (nI (i + 1), E n h A M' R)) (fun k hk => ?_) ?_ (L := 100000) (by decide)
  · simp only [pre_0, ro_self] at hl
    exact hl
  · have hup := up_pre k (fun _ => nI 0) (M 28)
    unfold b_X12_countWords_84 b0_X12_countWords_84
    simp (disch := omega) only [↓grd_u, ↓bnd_e, ↓orf_u, ↓oif_u, ↓cal_u, ↓calX_u, ↓inrO_u, ↓reduceIte, EM, EMg, EMs, z0, oi, n_inbT, n_cntT, n_ltT, n_ltF, n_leT, n_leF, n_eqT, n_eqF, n_m1T, n_m1F, n_m1F', n_cl, n_add, n_mul, ro_at, ro_ro, up_at, up_up, ro_ne, up_ne, ro_sw, hup]
  · unfold b_X12_countWords_84 b0_X12_countWords_84
    rw [← hM1]
    simp (disch := omega) only [↓grd_u, ↓bnd_e, ↓orf_u, ↓oif_u, ↓cal_u, ↓calX_u, ↓inrO_u, ↓reduceIte, EM, EMg, EMs, z0, oi, n_inbT, n_cntT, n_ltT, n_ltF, n_leT, n_leF, n_eqT, n_eqF, n_m1T, n_m1F, n_m1F', n_cl, n_add, n_mul, ro_at, ro_ro, up_at, up_up, e]
theorem m_cwAll {len : Nat} (ok : GluOK g) (au : AutM M 0 g) (hl6 : len < 7) : ∃ M', g_X12_countWords_43 (ma n 0) (nI len) (nI 0) (E n h A M R) = some (nI (gCw g len), E n h A M' R) ∧ Fr [27, 28] [] M M' := by
  obtain ⟨M1, hM1⟩ : ∃ M1, M1 = ro M 27 (pre 129 (fun k => nI (if k = 128 then 1 else 0)) (M 27)) := ⟨_, rfl⟩
  have f1 : Fr [27, 28] [] M M1 := by rw [hM1]; exact Fr_ro _ (by decide) (by decide)
  have hC1 : RwM M1 27 (fun k => if k = 128 then 1 else 0) 129 := fun k hk => by rw [hM1, ro_at, pre_lt _ _ hk]
  have p1 : pot (gnext g) (gab g) len (fun k => if k = 128 then 1 else 0) 129 = gCw g len := by
    unfold pot
    rw [sm_one (t := 128) (by decide) (fun k _ hne => by
      show (if k = 128 then 1 else 0) * _ = 0
      rw [if_neg hne, Nat.zero_mul])]
    show (if 128 = 128 then 1 else 0) * _ = _
    rw [if_pos rfl, Nat.one_mul]
    rfl
  have key : ∃ r, g_X12_countWords_76 (ma n 0) (nI len) (nI 0) (E n h A M1 R) = some r ∧ ∃ M', r = (nI (gCw g len), E n h A M' R) ∧ Fr [27, 28] [] M M' := by
    unfold g_X12_countWords_76
    refine lp_inv0 (f := b_X12_countWords_76 (ma n 0) (nI len)) (fun i s' => ∃ M2 C2, s' = (nI i, E n h A M2 R) ∧ RwM M2 27 C2 129 ∧ pot (gnext g) (gab g) (len - i) C2 129 = gCw g len ∧ Fr [27, 28] [] M M2) _ len (fun i s' hi hI => ?_) (L := 100000) (by omega) ⟨M1, _, rfl, hC1, p1, f1⟩
    obtain ⟨M2, C2, rfl, hC2, p2, f2⟩ := hI
    have au2 := AutM_keep au f2 (by decide)
    unfold b_X12_countWords_76 b0_X12_countWords_76
    by_cases hi2 : i < len
    · obtain ⟨M3, C3, e3, hC3, p3, f3⟩ := m_cw84 (n := n) (h := h) (A := A) (R := R) (len := len) (i := i) (m := len - (i + 1)) ok au2 hC2
      refine Or.inl ⟨(nI (i + 1), E n h A M3 R), ?_, hi2, M3, C3, rfl, hC3, ?_, Fr_tr f2 f3⟩
      · simp (disch := omega) only [↓grd_u, ↓bnd_e, ↓orf_u, ↓oif_u, ↓cal_u, ↓calX_u, ↓inrO_u, ↓reduceIte, EM, EMg, EMs, z0, oi, n_inbT, n_cntT, n_ltT, n_ltF, n_leT, n_leF, n_eqT, n_eqF, n_m1T, n_m1F, n_m1F', n_cl, n_add, n_mul, ro_at, ro_ro, up_at, up_up, e3]
      · rw [p3, show len - (i + 1) + 1 = len - i by omega, p2]
    · have hie : i = len := by omega
      subst hie
      rw [Nat.sub_self] at p2
      have hfin : g_X12_countWords_204 (ma n 0) (nI 0) (nI 0) (E n h A M2 R) = some (nI (gCw g i), E n h A M2 R) := by
        unfold g_X12_countWords_204
        have hl2 := lp_for0 (f := b_X12_countWords_204 (ma n 0)) (fun q => (nI (pot (gnext g) (gab g) 0 C2 q), nI q, E n h A M2 R)) 129 (nI (pot (gnext g) (gab g) 0 C2 129), E n h A M2 R) (fun q hq => ?_) ?_ (L := 100000) (by decide)
        · rw [p2] at hl2
          exact hl2
        · have hac := m_acc (n := n) (h := h) (A := A) (R := R) au2 ok (by decide : 0 < 2) hq
          have ec := hC2 q hq
          unfold b_X12_countWords_204 b0_X12_countWords_204 g_X12_countWords_234
          rw [show pot (gnext g) (gab g) 0 C2 (q + 1) = pot (gnext g) (gab g) 0 C2 q + C2 q * b2 (gab g q) from rfl]
          unfold b2 at hac ⊢
          by_cases z : gab g q = true
          · rw [if_pos z] at hac ⊢
            simp (disch := omega) only [↓grd_u, ↓bnd_e, ↓orf_u, ↓oif_u, ↓cal_u, ↓calX_u, ↓inrO_u, ↓reduceIte, EM, EMg, EMs, z0, oi, n_inbT, n_cntT, n_ltT, n_ltF, n_leT, n_leF, n_eqT, n_eqF, n_m1T, n_m1F, n_m1F', n_cl, n_add, n_mul, ro_at, ro_ro, up_at, up_up, hac, ec, Nat.mul_one]
          · rw [if_neg z] at hac ⊢
            simp (disch := omega) only [↓grd_u, ↓bnd_e, ↓orf_u, ↓oif_u, ↓cal_u, ↓calX_u, ↓inrO_u, ↓reduceIte, EM, EMg, EMs, z0, oi, n_inbT, n_cntT, n_ltT, n_ltF, n_leT, n_leF, n_eqT, n_eqF, n_m1T, n_m1F, n_m1F', n_cl, n_add, n_mul, ro_at, ro_ro, up_at, up_up, hac, Nat.mul_zero]
        · unfold b_X12_countWords_204 b0_X12_countWords_204
          simp (disch := omega) only [↓grd_u, ↓bnd_e, ↓orf_u, ↓oif_u, ↓cal_u, ↓calX_u, ↓inrO_u, ↓reduceIte, EM, EMg, EMs, z0, oi, n_inbT, n_cntT, n_ltT, n_ltF, n_leT, n_leF, n_eqT, n_eqF, n_m1T, n_m1F, n_m1F', n_cl, n_add, n_mul, ro_at, ro_ro, up_at, up_up]
      refine Or.inr ⟨(nI (gCw g i), E n h A M2 R), ?_, M2, rfl, f2⟩
      simp (disch := omega) only [↓grd_u, ↓bnd_e, ↓orf_u, ↓oif_u, ↓cal_u, ↓calX_u, ↓inrO_u, ↓reduceIte, EM, EMg, EMs, z0, oi, n_inbT, n_cntT, n_ltT, n_ltF, n_leT, n_leF, n_eqT, n_eqF, n_m1T, n_m1F, n_m1F', n_cl, n_add, n_mul, ro_at, ro_ro, up_at, up_up, hfin]
  obtain ⟨r, e, M', rfl, q3⟩ := key
  refine ⟨M', ?_, q3⟩
  unfold g_X12_countWords_43
  have hl := lp_for0 (f := b_X12_countWords_43 (ma n 0) (nI len)) (fun k => (nI k, E n h A (ro M 27 (pre k (fun k => nI (if k = 128 then 1 else 0)) (M 27))) R)) 129 (nI (gCw g len), E n h A M' R) (fun k hk => ?_) ?_ (L := 100000) (by decide)
  · simp only [pre_0, ro_self] at hl
    exact hl
  · have hup := up_pre k (fun k => nI (if k = 128 then 1 else 0)) (M 27)
    unfold b_X12_countWords_43 b0_X12_countWords_43 g_X12_countWords_67
    rw [← hup]
    by_cases z : k = 128
    · rw [if_pos z]
      simp (disch := omega) only [↓grd_u, ↓bnd_e, ↓orf_u, ↓oif_u, ↓cal_u, ↓calX_u, ↓inrO_u, ↓reduceIte, EM, EMg, EMs, z0, oi, n_inbT, n_cntT, n_ltT, n_ltF, n_leT, n_leF, n_eqT, n_eqF, n_m1T, n_m1F, n_m1F', n_cl, n_add, n_mul, ro_at, ro_ro, up_at, up_up, ro_ne, up_ne, ro_sw]
    · rw [if_neg z]
      simp (disch := omega) only [↓grd_u, ↓bnd_e, ↓orf_u, ↓oif_u, ↓cal_u, ↓calX_u, ↓inrO_u, ↓reduceIte, EM, EMg, EMs, z0, oi, n_inbT, n_cntT, n_ltT, n_ltF, n_leT, n_leF, n_eqT, n_eqF, n_m1T, n_m1F, n_m1F', n_cl, n_add, n_mul, ro_at, ro_ro, up_at, up_up, ro_ne, up_ne, ro_sw]
  · unfold b_X12_countWords_43 b0_X12_countWords_43
    rw [← hM1]
    simp (disch := omega) only [↓grd_u, ↓bnd_e, ↓orf_u, ↓oif_u, ↓cal_u, ↓calX_u, ↓inrO_u, ↓reduceIte, EM, EMg, EMs, z0, oi, n_inbT, n_cntT, n_ltT, n_ltF, n_leT, n_leF, n_eqT, n_eqF, n_m1T, n_m1F, n_m1F', n_cl, n_add, n_mul, ro_at, ro_ro, up_at, up_up, e]
theorem m_countWords {v w : Int32} (hi : IM M S) (hg : GoodS S) : MA n h A R (f_X12_countWords (ma n 0) v w (E n h A M R)) (aCw S v w) := by
  have h0 : IM (ro M 0 (up (M 0) 0 (nI 0))) S := IM_thrown hi
  unfold f_X12_countWords aCw
  rcases pat_cases S v with ⟨s, hs, rfl, hp, e⟩ | ⟨e, hc⟩
  · rw [e]
    dsimp only
    rcases ln_cases w with ⟨k, hk, rfl, e2⟩ | ⟨hw, e2⟩
    · rw [e2]
      obtain ⟨M', eb, au, f, i, t⟩ := m_bld (n := n) (h := h) (A := A) (R := R) h0 hg hs hp
      obtain ⟨M2, ec, f2⟩ := m_cwAll (n := n) (h := h) (A := A) (R := R) (good_glu hg hs hp) au hk
      refine ⟨M2, ?_, IM_fr i f2 (by decide) (by decide), by rw [f2.2 _ (by decide), t, ro_at, up_at]⟩
      simp (disch := omega) only [↓grd_u, ↓bnd_e, ↓orf_u, ↓oif_u, ↓cal_u, ↓calX_u, ↓inrO_u, ↓reduceIte, EM, EMg, EMs, z0, oi, n_inbT, n_cntT, n_ltT, n_ltF, n_leT, n_leF, n_eqT, n_eqF, n_m1T, n_m1F, n_m1F', n_cl, n_add, n_mul, ro_at, ro_ro, up_at, up_up, holdsT h0 hg hs hp, m_between]
      simp (disch := omega) only [↓grd_u, ↓bnd_e, ↓orf_u, ↓oif_u, ↓cal_u, ↓calX_u, ↓inrO_u, ↓reduceIte, EM, EMg, EMs, z0, oi, n_inbT, n_cntT, n_ltT, n_ltF, n_leT, n_leF, n_eqT, n_eqF, n_m1T, n_m1F, n_m1F', n_cl, n_add, n_mul, ro_at, ro_ro, up_at, up_up, eb, ec]
    · rw [e2]
      have hb2 : ∀ g, f_X12_isBetween w (nI 0) (nI 6) g = some (nI 0, g) := fun g => m_betweenF hw
      obtain ⟨M', e, i, t⟩ := m_failed (n := n) (h := h) (A := A) (R := R) (k := 2) h0
      refine ⟨M', ?_, i, t⟩
      simp (disch := omega) only [↓grd_u, ↓bnd_e, ↓orf_u, ↓oif_u, ↓cal_u, ↓calX_u, ↓inrO_u, ↓reduceIte, EM, EMg, EMs, z0, oi, n_inbT, n_cntT, n_ltT, n_ltF, n_leT, n_leF, n_eqT, n_eqF, n_m1T, n_m1F, n_m1F', n_cl, n_add, n_mul, ro_at, ro_ro, up_at, up_up, holdsT h0 hg hs hp, hb2]
      simp (disch := omega) only [↓grd_u, ↓bnd_e, ↓orf_u, ↓oif_u, ↓cal_u, ↓calX_u, ↓inrO_u, ↓reduceIte, EM, EMg, EMs, z0, oi, n_inbT, n_cntT, n_ltT, n_ltF, n_leT, n_leF, n_eqT, n_eqF, n_m1T, n_m1F, n_m1F', n_cl, n_add, n_mul, ro_at, ro_ro, up_at, up_up, e]
  · have hh := m_holdsX (n := n) (h := h) (A := A) (R := R) h0 e hc
    rw [e]
    obtain ⟨M', e, i, t⟩ := m_failed (n := n) (h := h) (A := A) (R := R) (k := 1) h0
    refine ⟨M', ?_, i, t⟩
    simp (disch := omega) only [↓grd_u, ↓bnd_e, ↓orf_u, ↓oif_u, ↓cal_u, ↓calX_u, ↓inrO_u, ↓reduceIte, EM, EMg, EMs, z0, oi, n_inbT, n_cntT, n_ltT, n_ltF, n_leT, n_leF, n_eqT, n_eqF, n_m1T, n_m1F, n_m1F', n_cl, n_add, n_mul, ro_at, ro_ro, up_at, up_up, hh]
    simp (disch := omega) only [↓grd_u, ↓bnd_e, ↓orf_u, ↓oif_u, ↓cal_u, ↓calX_u, ↓inrO_u, ↓reduceIte, EM, EMg, EMs, z0, oi, n_inbT, n_cntT, n_ltT, n_ltF, n_leT, n_leF, n_eqT, n_eqF, n_m1T, n_m1F, n_m1F', n_cl, n_add, n_mul, ro_at, ro_ro, up_at, up_up, e]
theorem m_countWordsByListing {v w : Int32} (hi : IM M S) (hg : GoodS S) : MA n h A R (f_X12_countWordsByListing (ma n 0) v w (E n h A M R)) (aCw S v w) := by
  obtain ⟨M', e, i, t⟩ := m_countWords (n := n) (h := h) (A := A) (R := R) (v := v) (w := w) hi hg
  refine ⟨M', ?_, i, t⟩
  unfold f_X12_countWordsByListing
  simp (disch := omega) only [↓grd_u, ↓bnd_e, ↓orf_u, ↓oif_u, ↓cal_u, ↓calX_u, ↓inrO_u, ↓reduceIte, EM, EMg, EMs, z0, oi, n_inbT, n_cntT, n_ltT, n_ltF, n_leT, n_leF, n_eqT, n_eqF, n_m1T, n_m1F, n_m1F', n_cl, n_add, n_mul, ro_at, ro_ro, up_at, up_up, e]
end MCW
