/-! the class: both automata followed at once -/
def pnx (g g' : Glu) (q c : Nat) : Nat := gS g (q / gL g') c * gL g' + gS g' (q % gL g') c
def tdf (one a a' : Bool) : Bool := if one = true then a && !a' else a != a'
def pT (one : Bool) (g g' : Glu) (q : Nat) : Bool := tdf one (gA g (q / gL g')) (gA g' (q % gL g'))
theorem bN_ext {pr pr' : Nat → Nat} {L : Nat} (h : ∀ i, 1 ≤ i → i < L → pr' i = pr i ∧ pr i / 3 < i) : ∀ (f j : Nat), j < L → bNf pr' f j = bNf pr f j
  | 0, _, _ => rfl
  | f + 1, j, hj => by
    unfold bNf
    by_cases e : j = 0
    · rw [if_pos e, if_pos e]
    · obtain ⟨h1, h2⟩ := h j (by omega) hj
      rw [if_neg e, if_neg e, h1, bN_ext h f (pr j / 3) (by omega)]
theorem bN_run {nx : Nat → Nat → Nat} {r u : Nat} (d j : Nat) (hj : j < (brun nx r u).2.2) : bN (brun nx r (u + d)).2.1 j = bN (brun nx r u).2.1 j := bN_ext (L := (brun nx r u).2.2) (fun i h1 h2 => ⟨((brun_pre nx r u d).2 i h2).2, ((Bf_all nx r u).2.2.2.2.1 i h1 h2).2.1⟩) j j hj
section PN
variable {g g' : Glu}
theorem pdiv {L i j : Nat} (hj : j < L) : (i * L + j) / L = i ∧ (i * L + j) % L = j := by
  have e1 : (i * L + j) / L = i := by rw [Nat.mul_comm, Nat.mul_add_div (by omega), Nat.div_eq_of_lt hj, Nat.add_zero]
  refine ⟨e1, ?_⟩
  have := Nat.div_add_mod (i * L + j) L
  rw [e1, Nat.mul_comm] at this
  omega
theorem pmul (ok : GluOK g) (ok' : GluOK g') : gL g * gL g' ≤ 16641 := by
  have := Nat.mul_le_mul (gL_le ok) (gL_le ok')
  omega
theorem plt {L L' i j : Nat} (hi : i < L) (hj : j < L') : i * L' + j < L * L' := by
  have h1 : (i + 1) * L' ≤ L * L' := Nat.mul_le_mul_right _ hi
  rw [Nat.add_mul, Nat.one_mul] at h1
  omega
theorem qdiv {q L L' : Nat} (h : q < L * L') : q / L' < L := Nat.div_lt_of_lt_mul (by rw [Nat.mul_comm]; exact h)
theorem pnx_lt (ok : GluOK g) (ok' : GluOK g') : ∀ q c, q < gL g * gL g' → c < 3 → pnx g g' q c < gL g * gL g' := fun q c hq hc => by
  have h0 := gL_pos g'
  have h1 : q / gL g' < gL g := qdiv hq
  have h2 : q % gL g' < gL g' := Nat.mod_lt _ (by omega)
  exact plt (gS_lt ok _ c h1 hc) (gS_lt ok' _ c h2 hc)
theorem pbrun_le (ok : GluOK g) (ok' : GluOK g') (u : Nat) : (brun (pnx g g') 0 u).2.2 ≤ 16641 := Nat.le_trans (brun_le (Nat.mul_pos (gL_pos g) (gL_pos g')) (pnx_lt ok ok') u) (pmul ok ok')
theorem pbrun_lt (ok : GluOK g) (ok' : GluOK g') (u j : Nat) : (brun (pnx g g') 0 u).1 j < gL g * gL g' := brun_lt (Nat.mul_pos (gL_pos g) (gL_pos g')) (pnx_lt ok ok') u j
end PN
def FdC (A : Nat → Nat → Int32) (N : Nat) (s : bst) : Prop := A 90 3 = nI s.2.2 ∧ (∀ j, j < s.2.2 → A 92 j = nI (s.1 j) ∧ A 93 j = nI (s.2.1 j)) ∧ (∀ x, x < N → A 91 x = nI (b2 (bin s.1 s.2.2 x)))
def FrF (A A' : Nat → Nat → Int32) : Prop := ∀ r, r < 90 ∨ 94 ≤ r → A' r = A r
theorem FrF_tr {A A' A'' : Nat → Nat → Int32} (h : FrF A A') (h' : FrF A' A'') : FrF A A'' := fun r hr => (h' r hr).trans (h r hr)
section CFIND
variable {n : Nat} {h : mH} {A M : Nat → Nat → Int32} {R : Nat → Nat → Option Nat} {S : St} {g g' : Glu}
theorem AuF_F {A' : Nat → Nat → Int32} {c0 : Nat} (hc : bAu c0) (hu : AuF A c0 g) (hf : FrF A A') : AuF A' c0 g := AuF_fr hu (fun r h1 h2 => hf r (by have := bAu_90 hc; omega))
theorem c_reach {u N : Nat} {nx : Nat → Nat → Nat} {s : bst} (hN : N ≤ 16641) (hf : FdC A N s) (hu : u < 100000) (ht : nx (s.1 (u / 3)) (u % 3) < N) (hL : (bvis nx s u).2.2 ≤ 16641) : ∃ A', f_X3_reach (ca n 90) (nI (nx (s.1 (u / 3)) (u % 3))) (nI u) (E n h A M R) = some ((), E n h A' M R) ∧ FdC A' N (bvis nx s u) ∧ FrF A A' := by
  obtain ⟨o, pr, L⟩ := s
  obtain ⟨f1, f2, f3⟩ := hf
  dsimp only at f1 f2 f3 ht ⊢
  obtain ⟨t, hte⟩ : ∃ t, t = nx (o (u / 3)) (u % 3) := ⟨_, rfl⟩
  unfold bvis at hL ⊢
  dsimp only at hL ⊢
  rw [← hte] at hL ht ⊢
  have e3 := f3 t ht
  unfold f_X3_reach g_X3_reach_37
  cases hb : bin o L t with
  | true =>
    rw [hb] at e3
    have e3 : A 91 t = nI 1 := e3
    rw [if_pos rfl]
    refine ⟨A, ?_, ⟨f1, f2, f3⟩, fun _ _ => rfl⟩
    simp (disch := omega) only [↓grd_u, ↓bnd_e, ↓orf_u, ↓oif_u, ↓cal_u, ↓calX_u, ↓inrO_u, ↓reduceIte, EM, EMg, EMs, z0, oi, n_inbT, n_cntT, n_ltT, n_ltF, n_leT, n_leF, n_eqT, n_eqF, n_m1T, n_m1F, n_m1F', n_cl, n_add, n_mul, ro_at, ro_ro, up_at, up_up, EC, ECg, e3]
  | false =>
    rw [hb] at e3 hL
    have e3 : A 91 t = nI 0 := e3
    rw [if_neg (show ¬ (false = true) by decide)] at hL ⊢
    have hL : L + 1 ≤ 16641 := hL
    refine ⟨ro (ro (ro (ro A 91 (up (A 91) t (nI 1))) 92 (up (A 92) L (nI t))) 93 (up (A 93) L (nI u))) 90 (up (A 90) 3 (nI (L + 1))), ?_, ⟨?_, fun j hj => ?_, fun x hx => ?_⟩, fun r hr => ?_⟩
    · simp (disch := omega) only [↓grd_u, ↓bnd_e, ↓orf_u, ↓oif_u, ↓cal_u, ↓calX_u, ↓inrO_u, ↓reduceIte, EM, EMg, EMs, z0, oi, n_inbT, n_cntT, n_ltT, n_ltF, n_leT, n_leF, n_eqT, n_eqF, n_m1T, n_m1F, n_m1F', n_cl, n_add, n_mul, ro_at, ro_ro, up_at, up_up, ro_ne, EC, ECg, ECs, e3, f1]
    · rw [ro_at, up_at]
    · have hj : j < L + 1 := hj
      rw [ro_ne _ _ (by decide), ro_ne _ _ (by decide), ro_at, ro_ne _ _ (by decide), ro_at]
      show up (A 92) L (nI t) j = nI (up o L t j) ∧ up (A 93) L (nI u) j = nI (up pr L u j)
      by_cases e : j = L
      · rw [e, up_at, up_at, up_at, up_at]; exact ⟨rfl, rfl⟩
      · rw [up_ne _ _ e, up_ne _ _ e, up_ne _ _ e, up_ne _ _ e]; exact f2 j (by omega)
    · rw [ro_ne _ _ (by decide), ro_ne _ _ (by decide), ro_ne _ _ (by decide), ro_at]
      show up (A 91) t (nI 1) x = nI (b2 (bin (up o L t) (L + 1) x))
      by_cases e : x = t
      · rw [e, up_at, show bin (up o L t) (L + 1) t = true from bin_iff.mpr ⟨L, by omega, up_at _ _ _⟩]
        rfl
      · rw [up_ne _ _ e, f3 x hx]
        congr 2
        cases z : bin o L x with
        | true =>
          obtain ⟨j, hj, hjx⟩ := bin_iff.mp z
          exact (bin_iff.mpr ⟨j, by omega, by rw [up_ne _ _ (by omega)]; exact hjx⟩).symm
        | false =>
          cases w : bin (up o L t) (L + 1) x with
          | false => rfl
          | true =>
            obtain ⟨j, hj, hjx⟩ := bin_iff.mp w
            by_cases e2 : j = L
            · rw [e2, up_at] at hjx
              exact absurd hjx.symm e
            · rw [up_ne _ _ e2] at hjx
              rw [bin_iff.mpr ⟨j, by omega, hjx⟩] at z
              cases z
    · rw [ro_ne _ _ (by omega), ro_ne _ _ (by omega), ro_ne _ _ (by omega), ro_ne _ _ (by omega)]
theorem c_find144 {k : Nat} {one : Nat} (ok : GluOK g) (ok' : GluOK g') (hu : AuF A 50 g) (hu' : AuF A 64 g') (hf : FdC A (gL g * gL g') (brun (pnx g g') 0 (3 * k))) (hk : k < (brun (pnx g g') 0 (3 * k)).2.2) :
    ∃ A', g_X3_find_144 (ca n 90) (ca n 50) (ca n 64) (nI one) (nI (gL g')) (nI k) (nI ((brun (pnx g g') 0 (3 * k)).1 k / gL g')) (nI ((brun (pnx g g') 0 (3 * k)).1 k % gL g')) (nI 0) (E n h A M R) = some (.inl (nI (k + 1), E n h A' M R)) ∧ FdC A' (gL g * gL g') (brun (pnx g g') 0 (3 * (k + 1))) ∧ FrF A A' := by
  have e1 := EAu bAu_1
  have e2 := EAu bAu_2
  have hN := pmul ok ok'
  have hkl := pbrun_le ok ok' (3 * k)
  have hq := pbrun_lt ok ok' (3 * k) k
  have h0 := gL_pos g'
  have h1 : (brun (pnx g g') 0 (3 * k)).1 k / gL g' < gL g := qdiv hq
  have h2 : (brun (pnx g g') 0 (3 * k)).1 k % gL g' < gL g' := Nat.mod_lt _ (by omega)
  have key : ∃ r, g_X3_find_144 (ca n 90) (ca n 50) (ca n 64) (nI one) (nI (gL g')) (nI k) (nI ((brun (pnx g g') 0 (3 * k)).1 k / gL g')) (nI ((brun (pnx g g') 0 (3 * k)).1 k % gL g')) (nI 0) (E n h A M R) = some r ∧ ∃ A', r = .inl (nI (k + 1), E n h A' M R) ∧ FdC A' (gL g * gL g') (brun (pnx g g') 0 (3 * (k + 1))) ∧ FrF A A' := by
    unfold g_X3_find_144
    refine lp_inv0 (f := b_X3_find_144 (ca n 90) (ca n 50) (ca n 64) (nI one) (nI (gL g')) (nI k) (nI ((brun (pnx g g') 0 (3 * k)).1 k / gL g')) (nI ((brun (pnx g g') 0 (3 * k)).1 k % gL g'))) (fun c s' => ∃ A1, s' = (nI c, E n h A1 M R) ∧ FdC A1 (gL g * gL g') (brun (pnx g g') 0 (3 * k + c)) ∧ FrF A A1) _ 3 (fun c s' hc hI => ?_) (L := 100000) (by decide) ⟨A, rfl, hf, fun _ _ => rfl⟩
    obtain ⟨A1, rfl, hf1, fr1⟩ := hI
    have hu1 := AuF_F bAu_1 hu fr1
    have hu2 := AuF_F bAu_2 hu' fr1
    unfold b_X3_find_144 b0_X3_find_144
    by_cases hc3 : c < 3
    · have s1 := c_step (n := n) (h := h) (M := M) (R := R) bAu_1 hu1 ok h1 hc3
      have s2 := c_step (n := n) (h := h) (M := M) (R := R) bAu_2 hu2 ok' h2 hc3
      have hok : (brun (pnx g g') 0 (3 * k + c)).1 k = (brun (pnx g g') 0 (3 * k)).1 k := ((brun_pre (pnx g g') 0 (3 * k) c).2 k hk).1
      have hnx : pnx g g' ((brun (pnx g g') 0 (3 * k + c)).1 ((3 * k + c) / 3)) ((3 * k + c) % 3) = gS g ((brun (pnx g g') 0 (3 * k)).1 k / gL g') c * gL g' + gS g' ((brun (pnx g g') 0 (3 * k)).1 k % gL g') c := by
        rw [show (3 * k + c) / 3 = k by omega, show (3 * k + c) % 3 = c by omega, hok]
        rfl
      obtain ⟨A2, er, f2, fr2⟩ := c_reach (n := n) (h := h) (M := M) (R := R) (nx := pnx g g') (u := 3 * k + c) hN hf1 (by omega) (by rw [hnx]; exact plt (gS_lt ok _ c h1 hc3) (gS_lt ok' _ c h2 hc3)) (pbrun_le ok ok' (3 * k + c + 1))
      rw [hnx, show nI (3 * k + c) = nI (k * 3 + c) by rw [Nat.mul_comm]] at er
      refine Or.inl ⟨(nI (c + 1), E n h A2 M R), ?_, hc3, A2, rfl, f2, FrF_tr fr1 fr2⟩
      simp (disch := omega) only [↓grd_u, ↓bnd_e, ↓orf_u, ↓oif_u, ↓cal_u, ↓calX_u, ↓inrO_u, ↓reduceIte, EM, EMg, EMs, z0, oi, n_inbT, n_cntT, n_ltT, n_ltF, n_leT, n_leF, n_eqT, n_eqF, n_m1T, n_m1F, n_m1F', n_cl, n_add, n_mul, ro_at, ro_ro, up_at, up_up, EC, e1, e2, s1, s2, er]
    · have hce : c = 3 := by omega
      subst hce
      refine Or.inr ⟨.inl (nI (k + 1), E n h A1 M R), ?_, A1, rfl, hf1, fr1⟩
      simp (disch := omega) only [↓grd_u, ↓bnd_e, ↓orf_u, ↓oif_u, ↓cal_u, ↓calX_u, ↓inrO_u, ↓reduceIte, EM, EMg, EMs, z0, oi, n_inbT, n_cntT, n_ltT, n_ltF, n_leT, n_leF, n_eqT, n_eqF, n_m1T, n_m1F, n_m1F', n_cl, n_add, n_mul, ro_at, ro_ro, up_at, up_up]
  obtain ⟨r, e, A', rfl, q1, q2⟩ := key
  exact ⟨A', e, q1, q2⟩
/-- what a search leaves -/
def Fnd (A : Nat → Nat → Int32) (one : Bool) (g g' : Glu) (v : Nat) : Prop := (v = 1 ∧ ∃ s u j, Bf (pnx g g') 0 s u ∧ j < s.2.2 ∧ s.2.2 ≤ 16641 ∧ (∀ i, i < s.2.2 → A 93 i = nI (s.2.1 i) ∧ s.2.1 i < 100000) ∧ A 90 4 = nI j ∧ isB (pnx g g') (pT one g g') 0 (wd (bN s.2.1 j))) ∨ (v = 0 ∧ A 90 4 = Int32.ofInt (-1) ∧ ∀ k, ek (pnx g g') (pT one g g') k 0 = false)
theorem c_find {one : Bool} (ok : GluOK g) (ok' : GluOK g') (hu : AuF A 50 g) (hu' : AuF A 64 g') : ∃ v A', f_X3_find (ca n 90) (ca n 50) (ca n 64) (nI (b2 one)) (E n h A M R) = some (nI v, E n h A' M R) ∧ Fnd A' one g g' v ∧ FrF A A' ∧ v ≤ 1 := by
  have e1 := EAu bAu_1
  have e2 := EAu bAu_2
  have hN := pmul ok ok'
  have hL' := gL_le ok'
  have h0 := gL_pos g'
  have z1 := c_ssize (n := n) (h := h) (M := M) (R := R) bAu_1 hu
  have z2 := c_ssize (n := n) (h := h) (M := M) (R := R) bAu_2 hu'
  have hfin : ∀ u, 3 * (brun (pnx g g') 0 (u + 3 * 16641)).2.2 ≤ u + 3 * 16641 := fun u => by
    have := pbrun_le ok ok' (u + 3 * 16641)
    omega
  -- the search itself
  have h64 : ∀ A1, FrF A A1 → FdC A1 (gL g * gL g') (brun (pnx g g') 0 0) → ∃ v A', g_X3_find_64 (ca n 90) (ca n 50) (ca n 64) (nI (b2 one)) (nI (gL g')) (nI 0) (E n h A1 M R) = some (nI v, E n h A' M R) ∧ Fnd A' one g g' v ∧ FrF A A' ∧ v ≤ 1 := fun A1 fr1 fd1 => by
    have key : ∃ r, g_X3_find_64 (ca n 90) (ca n 50) (ca n 64) (nI (b2 one)) (nI (gL g')) (nI 0) (E n h A1 M R) = some r ∧ ∃ v A', r = (nI v, E n h A' M R) ∧ Fnd A' one g g' v ∧ FrF A A' ∧ v ≤ 1 := by
      unfold g_X3_find_64
      refine lp_inv0 (f := b_X3_find_64 (ca n 90) (ca n 50) (ca n 64) (nI (b2 one)) (nI (gL g'))) (fun k s' => k ≤ (brun (pnx g g') 0 (3 * k)).2.2 ∧ ∃ A2, s' = (nI k, E n h A2 M R) ∧ FdC A2 (gL g * gL g') (brun (pnx g g') 0 (3 * k)) ∧ FrF A A2 ∧ ∀ i, i < k → pT one g g' ((brun (pnx g g') 0 (3 * k)).1 i) = false) _ 16641 (fun k s' hk hI => ?_) (L := 100000) (by decide) ⟨Nat.zero_le _, A1, rfl, fd1, fr1, fun i hi => absurd hi (Nat.not_lt_zero _)⟩
      obtain ⟨hkl, A2, rfl, fd2, fr2, hno⟩ := hI
      have hLk := pbrun_le ok ok' (3 * k)
      have hu1 := AuF_F bAu_1 hu fr2
      have hu2 := AuF_F bAu_2 hu' fr2
      have e0 := fd2.1
      unfold b_X3_find_64 b0_X3_find_64 g_X3_find_197 g_X3_find_141 g_X3_find_133
      by_cases hk2 : k < (brun (pnx g g') 0 (3 * k)).2.2
      · have hq := pbrun_lt ok ok' (3 * k) k
        have q1 : (brun (pnx g g') 0 (3 * k)).1 k / gL g' < gL g := qdiv hq
        have q2 : (brun (pnx g g') 0 (3 * k)).1 k % gL g' < gL g' := Nat.mod_lt _ (by omega)
        have hfo := (fd2.2.1 k hk2).1
        have hdv : nI ((brun (pnx g g') 0 (3 * k)).1 k) / nI (gL g') = nI ((brun (pnx g g') 0 (3 * k)).1 k / gL g') := n_div (by omega) (by omega) (by omega)
        have hrm : nI ((brun (pnx g g') 0 (3 * k)).1 k) - nI ((brun (pnx g g') 0 (3 * k)).1 k / gL g' * gL g') = nI ((brun (pnx g g') 0 (3 * k)).1 k % gL g') := by
          have hdm := Nat.div_add_mod ((brun (pnx g g') 0 (3 * k)).1 k) (gL g')
          rw [Nat.mul_comm] at hdm
          rw [n_sub (by omega), show (brun (pnx g g') 0 (3 * k)).1 k - (brun (pnx g g') 0 (3 * k)).1 k / gL g' * gL g' = (brun (pnx g g') 0 (3 * k)).1 k % gL g' by omega]
        have a1 := c_isAcc (n := n) (h := h) (M := M) (R := R) bAu_1 hu1 ok q1
        have a2 := c_isAcc (n := n) (h := h) (M := M) (R := R) bAu_2 hu2 ok' q2
        have hpre := brun_pre (pnx g g') 0 (3 * k) 3
        cases ht : pT one g g' ((brun (pnx g g') 0 (3 * k)).1 k) with
        | true =>
          -- found
          have hres : isB (pnx g g') (pT one g g') 0 (wd (bN (brun (pnx g g') 0 (3 * k)).2.1 k)) := by
            rw [← bN_run (3 * 16641) k hk2]
            have hp2 := brun_pre (pnx g g') 0 (3 * k) (3 * 16641)
            refine bN_first (Bf_all _ _ _) (hfin (3 * k)) (Nat.lt_of_lt_of_le hk2 hp2.1) ?_ (fun i hi => ?_)
            · rw [(hp2.2 k hk2).1]; exact ht
            · rw [(hp2.2 i (by omega)).1]; exact hno i hi
          have hpr : ∀ i, i < (brun (pnx g g') 0 (3 * k)).2.2 → (brun (pnx g g') 0 (3 * k)).2.1 i < 100000 := fun i hi => by
            by_cases i0 : i = 0
            · rw [i0, (Bf_all (pnx g g') 0 (3 * k)).2.2.1]; decide
            · have := ((Bf_all (pnx g g') 0 (3 * k)).2.2.2.2.1 i (by omega) hi).1
              omega
          refine Or.inr ⟨(nI 1, E n h (ro A2 90 (up (A2 90) 4 (nI k))) M R), ?_, 1, _, rfl, Or.inl ⟨rfl, _, _, k, Bf_all _ _ _, hk2, hLk, fun i hi => ⟨by rw [ro_ne _ _ (by decide)]; exact (fd2.2.1 i hi).2, hpr i hi⟩, by rw [ro_at, up_at], hres⟩, fun r hr => by rw [ro_ne _ _ (by omega)]; exact fr2 r hr, Nat.le_refl _⟩
          unfold pT tdf at ht
          cases x1 : gA g ((brun (pnx g g') 0 (3 * k)).1 k / gL g') with
          | true =>
            cases x2 : gA g' ((brun (pnx g g') 0 (3 * k)).1 k % gL g') with
            | true => rw [x1, x2] at ht; cases one <;> cases ht
            | false =>
              rw [x1] at a1
              rw [x2] at a2
              have a1 : f_X0_isAccepting (ca n 50) (nI ((brun (pnx g g') 0 (3 * k)).1 k / gL g')) (E n h A2 M R) = some (nI 1, E n h A2 M R) := a1
              have a2 : f_X0_isAccepting (ca n 64) (nI ((brun (pnx g g') 0 (3 * k)).1 k % gL g')) (E n h A2 M R) = some (nI 0, E n h A2 M R) := a2
              simp (disch := omega) only [↓grd_u, ↓bnd_e, ↓orf_u, ↓oif_u, ↓cal_u, ↓calX_u, ↓inrO_u, ↓reduceIte, EM, EMg, EMs, z0, oi, n_inbT, n_cntT, n_ltT, n_ltF, n_leT, n_leF, n_eqT, n_eqF, n_m1T, n_m1F, n_m1F', n_cl, n_add, n_mul, ro_at, ro_ro, up_at, up_up, EC, ECg, ECs, e0, hfo, hdv, hrm, e1, e2, a1, a2, not_false_eq_true]
          | false =>
            cases x2 : gA g' ((brun (pnx g g') 0 (3 * k)).1 k % gL g') with
            | false => rw [x1, x2] at ht; cases one <;> cases ht
            | true =>
              cases one with
              | true => rw [x1, x2] at ht; cases ht
              | false =>
                rw [x1] at a1
                rw [x2] at a2
                have a1 : f_X0_isAccepting (ca n 50) (nI ((brun (pnx g g') 0 (3 * k)).1 k / gL g')) (E n h A2 M R) = some (nI 0, E n h A2 M R) := a1
                have a2 : f_X0_isAccepting (ca n 64) (nI ((brun (pnx g g') 0 (3 * k)).1 k % gL g')) (E n h A2 M R) = some (nI 1, E n h A2 M R) := a2
                have hb0 : nI (b2 false) = nI 0 := rfl
                simp (disch := omega) only [↓grd_u, ↓bnd_e, ↓orf_u, ↓oif_u, ↓cal_u, ↓calX_u, ↓inrO_u, ↓reduceIte, EM, EMg, EMs, z0, oi, n_inbT, n_cntT, n_ltT, n_ltF, n_leT, n_leF, n_eqT, n_eqF, n_m1T, n_m1F, n_m1F', n_cl, n_add, n_mul, ro_at, ro_ro, up_at, up_up, EC, ECg, ECs, e0, hfo, hdv, hrm, e1, e2, a1, a2, hb0, not_false_eq_true]
        | false =>
          obtain ⟨A3, e3, fd3, fr3⟩ := c_find144 (n := n) (h := h) (M := M) (R := R) (one := b2 one) ok ok' hu1 hu2 fd2 hk2
          have hnew : ∀ i, i < k + 1 → pT one g g' ((brun (pnx g g') 0 (3 * (k + 1))).1 i) = false := fun i hi => by
            have : (brun (pnx g g') 0 (3 * (k + 1))).1 i = (brun (pnx g g') 0 (3 * k)).1 i := (hpre.2 i (by omega)).1
            rw [this]
            by_cases e : i = k
            · rw [e]; exact ht
            · exact hno i (by omega)
          refine Or.inl ⟨(nI (k + 1), E n h A3 M R), ?_, by omega, ?_, A3, rfl, fd3, FrF_tr fr2 fr3, hnew⟩
          · unfold pT tdf at ht
            cases x1 : gA g ((brun (pnx g g') 0 (3 * k)).1 k / gL g') with
            | true =>
              cases x2 : gA g' ((brun (pnx g g') 0 (3 * k)).1 k % gL g') with
              | false => rw [x1, x2] at ht; cases one <;> cases ht
              | true =>
                rw [x1] at a1
                rw [x2] at a2
                have a1 : f_X0_isAccepting (ca n 50) (nI ((brun (pnx g g') 0 (3 * k)).1 k / gL g')) (E n h A2 M R) = some (nI 1, E n h A2 M R) := a1
                have a2 : f_X0_isAccepting (ca n 64) (nI ((brun (pnx g g') 0 (3 * k)).1 k % gL g')) (E n h A2 M R) = some (nI 1, E n h A2 M R) := a2
                simp (disch := omega) only [↓grd_u, ↓bnd_e, ↓orf_u, ↓oif_u, ↓cal_u, ↓calX_u, ↓inrO_u, ↓reduceIte, EM, EMg, EMs, z0, oi, n_inbT, n_cntT, n_ltT, n_ltF, n_leT, n_leF, n_eqT, n_eqF, n_m1T, n_m1F, n_m1F', n_cl, n_add, n_mul, ro_at, ro_ro, up_at, up_up, EC, ECg, ECs, e0, hfo, hdv, hrm, e1, e2, a1, a2, not_false_eq_true, e3]
            | false =>
              cases x2 : gA g' ((brun (pnx g g') 0 (3 * k)).1 k % gL g') with
              | false =>
                rw [x1] at a1
                rw [x2] at a2
                have a1 : f_X0_isAccepting (ca n 50) (nI ((brun (pnx g g') 0 (3 * k)).1 k / gL g')) (E n h A2 M R) = some (nI 0, E n h A2 M R) := a1
                have a2 : f_X0_isAccepting (ca n 64) (nI ((brun (pnx g g') 0 (3 * k)).1 k % gL g')) (E n h A2 M R) = some (nI 0, E n h A2 M R) := a2
                simp (disch := omega) only [↓grd_u, ↓bnd_e, ↓orf_u, ↓oif_u, ↓cal_u, ↓calX_u, ↓inrO_u, ↓reduceIte, EM, EMg, EMs, z0, oi, n_inbT, n_cntT, n_ltT, n_ltF, n_leT, n_leF, n_eqT, n_eqF, n_m1T, n_m1F, n_m1F', n_cl, n_add, n_mul, ro_at, ro_ro, up_at, up_up, EC, ECg, ECs, e0, hfo, hdv, hrm, e1, e2, a1, a2, not_false_eq_true, e3]
              | true =>
                cases one with
                | false => rw [x1, x2] at ht; cases ht
                | true =>
                  rw [x1] at a1
                  rw [x2] at a2
                  have a1 : f_X0_isAccepting (ca n 50) (nI ((brun (pnx g g') 0 (3 * k)).1 k / gL g')) (E n h A2 M R) = some (nI 0, E n h A2 M R) := a1
                  have a2 : f_X0_isAccepting (ca n 64) (nI ((brun (pnx g g') 0 (3 * k)).1 k % gL g')) (E n h A2 M R) = some (nI 1, E n h A2 M R) := a2
                  have hb1 : nI (b2 true) = nI 1 := rfl
                  rw [hb1] at e3
                  simp (disch := omega) only [↓grd_u, ↓bnd_e, ↓orf_u, ↓oif_u, ↓cal_u, ↓calX_u, ↓inrO_u, ↓reduceIte, EM, EMg, EMs, z0, oi, n_inbT, n_cntT, n_ltT, n_ltF, n_leT, n_leF, n_eqT, n_eqF, n_m1T, n_m1F, n_m1F', n_cl, n_add, n_mul, ro_at, ro_ro, up_at, up_up, EC, ECg, ECs, e0, hfo, hdv, hrm, e1, e2, a1, a2, hb1, not_false_eq_true, e3]
          · show k + 1 ≤ (brun (pnx g g') 0 (3 * k + 3)).2.2
            omega
      · have hke : k = (brun (pnx g g') 0 (3 * k)).2.2 := by omega
        have hdone : 3 * (brun (pnx g g') 0 (3 * k)).2.2 ≤ 3 * k := by omega
        refine Or.inr ⟨(nI 0, E n h (ro A2 90 (up (A2 90) 4 (Int32.ofInt (-1)))) M R), ?_, 0, _, rfl, Or.inr ⟨rfl, by rw [ro_at, up_at], fun m => bN_none (Bf_all _ _ _) hdone (fun i hi => hno i (by omega)) m⟩, fun r hr => by rw [ro_ne _ _ (by omega)]; exact fr2 r hr, Nat.zero_le _⟩
        rw [← hke] at e0
        simp (disch := omega) only [↓grd_u, ↓bnd_e, ↓orf_u, ↓oif_u, ↓cal_u, ↓calX_u, ↓inrO_u, ↓reduceIte, EM, EMg, EMs, z0, oi, n_inbT, n_cntT, n_ltT, n_ltF, n_leT, n_leF, n_eqT, n_eqF, n_m1T, n_m1F, n_m1F', n_cl, n_add, n_mul, ro_at, ro_ro, up_at, up_up, EC, ECg, ECs, e0]
    obtain ⟨r, e, v, A', rfl, q⟩ := key
    exact ⟨v, A', e, q⟩
  -- the marks taken away
  have hpos : 0 < gL g * gL g' := Nat.mul_pos (gL_pos g) h0
  obtain ⟨A1, hA1⟩ : ∃ A1, A1 = ro (ro A 91 (pre (gL g * gL g') (fun _ => nI 0) (A 91))) 90 (up (A 90) 3 (nI 0)) := ⟨_, rfl⟩
  have fd0 : FdC (ro (ro (ro (ro A1 91 (up (A1 91) 0 (nI 1))) 92 (up (A1 92) 0 (nI 0))) 93 (up (A1 93) 0 (nI 0))) 90 (up (A1 90) 3 (nI 1))) (gL g * gL g') (brun (pnx g g') 0 0) := by
    refine ⟨by rw [ro_at, up_at]; rfl, fun j hj => ?_, fun x hx => ?_⟩
    · have hj : j < 1 := hj
      have : j = 0 := by omega
      subst this
      rw [ro_ne _ _ (by decide), ro_ne _ _ (by decide), ro_at, up_at, ro_ne _ _ (by decide), ro_at, up_at]
      exact ⟨rfl, rfl⟩
    · rw [ro_ne _ _ (by decide), ro_ne _ _ (by decide), ro_ne _ _ (by decide), ro_at]
      by_cases e : x = 0
      · rw [e, up_at, show bin (brun (pnx g g') 0 0).1 (brun (pnx g g') 0 0).2.2 0 = true from bin_iff.mpr ⟨0, by show 0 < 1; decide, rfl⟩]
        rfl
      · rw [up_ne _ _ e, hA1, ro_ne _ _ (by decide), ro_at, pre_lt _ _ hx]
        have : bin (brun (pnx g g') 0 0).1 (brun (pnx g g') 0 0).2.2 x = false := by
          cases z : bin (brun (pnx g g') 0 0).1 (brun (pnx g g') 0 0).2.2 x with
          | false => rfl
          | true =>
            obtain ⟨j, hj, hjx⟩ := bin_iff.mp z
            exact absurd hjx.symm e
        rw [this]
        rfl
  have frA : FrF A (ro (ro (ro (ro A1 91 (up (A1 91) 0 (nI 1))) 92 (up (A1 92) 0 (nI 0))) 93 (up (A1 93) 0 (nI 0))) 90 (up (A1 90) 3 (nI 1))) := fun r hr => by
    rw [ro_ne _ _ (by omega), ro_ne _ _ (by omega), ro_ne _ _ (by omega), ro_ne _ _ (by omega), hA1, ro_ne _ _ (by omega), ro_ne _ _ (by omega)]
  obtain ⟨v, A', e5, q1, q2, q3⟩ := h64 _ frA fd0
  refine ⟨v, A', ?_, q1, q2, q3⟩
  have h10 : A1 91 0 = nI 0 := by rw [hA1, ro_ne _ _ (by decide), ro_at, pre_lt _ _ hpos]
  have h13 : A1 90 3 = nI 0 := by rw [hA1, ro_at, up_at]
  have hre : f_X3_reach (ca n 90) (nI 0) (nI 0) (E n h A1 M R) = some ((), E n h (ro (ro (ro (ro A1 91 (up (A1 91) 0 (nI 1))) 92 (up (A1 92) 0 (nI 0))) 93 (up (A1 93) 0 (nI 0))) 90 (up (A1 90) 3 (nI 1))) M R) := by
    unfold f_X3_reach g_X3_reach_37
    simp (disch := omega) only [↓grd_u, ↓bnd_e, ↓orf_u, ↓oif_u, ↓cal_u, ↓calX_u, ↓inrO_u, ↓reduceIte, EM, EMg, EMs, z0, oi, n_inbT, n_cntT, n_ltT, n_ltF, n_leT, n_leF, n_eqT, n_eqF, n_m1T, n_m1F, n_m1F', n_cl, n_add, n_mul, ro_at, ro_ro, up_at, up_up, ro_ne, EC, ECg, ECs, h10, h13]
  have h16 : g_X3_find_16 (ca n 90) (ca n 50) (ca n 64) (nI (b2 one)) (nI (gL g')) (nI 0) (E n h A M R) = some (nI v, E n h A' M R) := by
    unfold g_X3_find_16
    have hl := lp_for0 (f := b_X3_find_16 (ca n 90) (ca n 50) (ca n 64) (nI (b2 one)) (nI (gL g'))) (fun k => (nI k, E n h (ro A 91 (pre k (fun _ => nI 0) (A 91))) M R)) (gL g * gL g') (nI v, E n h A' M R) (fun k hk => ?_) ?_ (L := 100000) (by omega)
    · simp only [pre_0, ro_self] at hl
      exact hl
    · have zk := c_ssize (n := n) (h := h) (M := M) (R := R) bAu_1 (AuF_91 (F := pre k (fun _ => nI 0) (A 91)) bAu_1 hu)
      have hup := up_pre k (fun _ => nI 0) (A 91)
      unfold b_X3_find_16 b0_X3_find_16
      simp (disch := omega) only [↓grd_u, ↓bnd_e, ↓orf_u, ↓oif_u, ↓cal_u, ↓calX_u, ↓inrO_u, ↓reduceIte, EM, EMg, EMs, z0, oi, n_inbT, n_cntT, n_ltT, n_ltF, n_leT, n_leF, n_eqT, n_eqF, n_m1T, n_m1F, n_m1F', n_cl, n_add, n_mul, ro_at, ro_ro, up_at, up_up, EC, ECs, e1, zk, hup]
    · have zk := c_ssize (n := n) (h := h) (M := M) (R := R) bAu_1 (AuF_91 (F := pre (gL g * gL g') (fun _ => nI 0) (A 91)) bAu_1 hu)
      have hA1' := hA1.symm
      have h90 : ro A 91 (pre (gL g * gL g') (fun _ => nI 0) (A 91)) 90 = A 90 := ro_ne _ _ (by decide)
      unfold b_X3_find_16 b0_X3_find_16 g_X3_find_50
      simp (disch := omega) only [↓grd_u, ↓bnd_e, ↓orf_u, ↓oif_u, ↓cal_u, ↓calX_u, ↓inrO_u, ↓reduceIte, EM, EMg, EMs, z0, oi, n_inbT, n_cntT, n_ltT, n_ltF, n_leT, n_leF, n_eqT, n_eqF, n_m1T, n_m1F, n_m1F', n_cl, n_add, n_mul, ro_at, ro_ro, up_at, up_up, EC, ECs, e1, zk, h90]
      rw [hA1']
      simp (disch := omega) only [↓grd_u, ↓bnd_e, ↓orf_u, ↓oif_u, ↓cal_u, ↓calX_u, ↓inrO_u, ↓reduceIte, EM, EMg, EMs, z0, oi, n_inbT, n_cntT, n_ltT, n_ltF, n_leT, n_leF, n_eqT, n_eqF, n_m1T, n_m1F, n_m1F', n_cl, n_add, n_mul, ro_at, ro_ro, up_at, up_up, EC, hre, e5]
  unfold f_X3_find
  simp (disch := omega) only [↓grd_u, ↓bnd_e, ↓orf_u, ↓oif_u, ↓cal_u, ↓calX_u, ↓inrO_u, ↓reduceIte, EM, EMg, EMs, z0, oi, n_inbT, n_cntT, n_ltT, n_ltF, n_leT, n_leF, n_eqT, n_eqF, n_m1T, n_m1F, n_m1F', n_cl, n_add, n_mul, ro_at, ro_ro, up_at, up_up, e2, z2, h16]
theorem c_findApart (ok : GluOK g) (ok' : GluOK g') (hu : AuF A 50 g) (hu' : AuF A 64 g') : ∃ v A', f_X3_findApart (ca n 90) (ca n 50) (ca n 64) (E n h A M R) = some (nI v, E n h A' M R) ∧ Fnd A' false g g' v ∧ FrF A A' ∧ v ≤ 1 := by
  obtain ⟨v, A', e, q1, q2, q3⟩ := c_find (n := n) (h := h) (M := M) (R := R) (one := false) ok ok' hu hu'
  have e : f_X3_find (ca n 90) (ca n 50) (ca n 64) (nI 0) (E n h A M R) = some (nI v, E n h A' M R) := e
  have hn : (vp_nar .boolean (nI v) = nI v) = True := eq_true (n_nar01 q3)
  refine ⟨v, A', ?_, q1, q2, q3⟩
  unfold f_X3_findApart
  simp (disch := omega) only [↓grd_u, ↓bnd_e, ↓orf_u, ↓oif_u, ↓cal_u, ↓calX_u, ↓inrO_u, ↓reduceIte, EM, EMg, EMs, z0, oi, n_inbT, n_cntT, n_ltT, n_ltF, n_leT, n_leF, n_eqT, n_eqF, n_m1T, n_m1F, n_m1F', n_cl, n_add, n_mul, ro_at, ro_ro, up_at, up_up, EC, e, hn]
theorem c_findOnly (ok : GluOK g) (ok' : GluOK g') (hu : AuF A 50 g) (hu' : AuF A 64 g') : ∃ v A', f_X3_findOnlyFirst (ca n 90) (ca n 50) (ca n 64) (E n h A M R) = some (nI v, E n h A' M R) ∧ Fnd A' true g g' v ∧ FrF A A' ∧ v ≤ 1 := by
  obtain ⟨v, A', e, q1, q2, q3⟩ := c_find (n := n) (h := h) (M := M) (R := R) (one := true) ok ok' hu hu'
  have e : f_X3_find (ca n 90) (ca n 50) (ca n 64) (nI 1) (E n h A M R) = some (nI v, E n h A' M R) := e
  have hn : (vp_nar .boolean (nI v) = nI v) = True := eq_true (n_nar01 q3)
  refine ⟨v, A', ?_, q1, q2, q3⟩
  unfold f_X3_findOnlyFirst
  simp (disch := omega) only [↓grd_u, ↓bnd_e, ↓orf_u, ↓oif_u, ↓cal_u, ↓calX_u, ↓inrO_u, ↓reduceIte, EM, EMg, EMs, z0, oi, n_inbT, n_cntT, n_ltT, n_ltF, n_leT, n_leF, n_eqT, n_eqF, n_m1T, n_m1F, n_m1F', n_cl, n_add, n_mul, ro_at, ro_ro, up_at, up_up, EC, e, hn]
/-- the length of the word found -/
theorem wd_bN {nx : Nat → Nat → Nat} {r u : Nat} {s : bst} (hB : Bf nx r s u) {i : Nat} (h1 : 1 ≤ i) (hi : i < s.2.2) : wd (bN s.2.1 i) = wd (bN s.2.1 (s.2.1 i / 3)) ++ [s.2.1 i % 3] := by
  rw [bN_s hB h1 hi, wd_s _ _ (by omega)]
theorem c_foundLen {s : bst} {u j : Nat} (hB : Bf (pnx g g') 0 s u) (hj : j < s.2.2) (hL : s.2.2 ≤ 16641) (hp : ∀ i, i < s.2.2 → A 93 i = nI (s.2.1 i) ∧ s.2.1 i < 100000) (h4 : A 90 4 = nI j) : f_X3_foundLength (ca n 90) (E n h A M R) = some (nI (wd (bN s.2.1 j)).length, E n h A M R) := by
  have key : ∃ r, g_X3_foundLength_7 (ca n 90) (nI 0) (nI j) (E n h A M R) = some r ∧ r = (nI (wd (bN s.2.1 j)).length, E n h A M R) := by
    unfold g_X3_foundLength_7
    refine lp_inv0 (f := b_X3_foundLength_7 (ca n 90)) (fun k s' => ∃ i, s' = (nI k, nI i, E n h A M R) ∧ i + k ≤ j ∧ k + (wd (bN s.2.1 i)).length = (wd (bN s.2.1 j)).length) _ j (fun k s' hk hI => ?_) (L := 100000) (by omega) ⟨j, rfl, by omega, by omega⟩
    obtain ⟨i, rfl, hik, hlen⟩ := hI
    unfold b_X3_foundLength_7 b0_X3_foundLength_7 g_X3_foundLength_40
    by_cases hi : i = 0
    · rw [hi] at hlen ⊢
      have : (wd (bN s.2.1 0)).length = 0 := rfl
      rw [this] at hlen
      refine Or.inr ⟨(nI k, E n h A M R), ?_, by rw [← hlen]; rfl⟩
      simp (disch := omega) only [↓grd_u, ↓bnd_e, ↓orf_u, ↓oif_u, ↓cal_u, ↓calX_u, ↓inrO_u, ↓reduceIte, EM, EMg, EMs, z0, oi, n_inbT, n_cntT, n_ltT, n_ltF, n_leT, n_leF, n_eqT, n_eqF, n_m1T, n_m1F, n_m1F', n_cl, n_add, n_mul, ro_at, ro_ro, up_at, up_up]
    · obtain ⟨p1, p2⟩ := hp i (by omega)
      have hlt := (hB.2.2.2.2.1 i (by omega) (by omega)).2.1
      have hw := congrArg List.length (wd_bN hB (show 1 ≤ i by omega) (by omega))
      rw [List.length_append, List.length_singleton] at hw
      refine Or.inl ⟨(nI (k + 1), nI (s.2.1 i / 3), E n h A M R), ?_, by omega, s.2.1 i / 3, rfl, by omega, by omega⟩
      simp (disch := omega) only [↓grd_u, ↓bnd_e, ↓orf_u, ↓oif_u, ↓cal_u, ↓calX_u, ↓inrO_u, ↓reduceIte, EM, EMg, EMs, z0, oi, n_inbT, n_cntT, n_ltT, n_ltF, n_leT, n_leF, n_eqT, n_eqF, n_m1T, n_m1F, n_m1F', n_cl, n_add, n_mul, ro_at, ro_ro, up_at, up_up, EC, ECg, p1, n_div]
  obtain ⟨r, e, rfl⟩ := key
  unfold f_X3_foundLength
  simp (disch := omega) only [↓grd_u, ↓bnd_e, ↓orf_u, ↓oif_u, ↓cal_u, ↓calX_u, ↓inrO_u, ↓reduceIte, EM, EMg, EMs, z0, oi, n_inbT, n_cntT, n_ltT, n_ltF, n_leT, n_leF, n_eqT, n_eqF, n_m1T, n_m1F, n_m1F', n_cl, n_add, n_mul, ro_at, ro_ro, up_at, up_up, EC, ECg, h4, e]
end CFIND
