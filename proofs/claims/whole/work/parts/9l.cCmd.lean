/-! the class: reading commands, chains of characters and digits -/
section CCMD
variable {n : Nat} {h : mH} {A M : Nat → Nat → Int32} {R : Nat → Nat → Option Nat} {S : St} {T : List Nat} {i : Nat} {f g G F : mH → Option (Int32 × mH)} {l l1 l2 : List Nat} {v : Int32}
def FrT (A A' : Nat → Nat → Int32) : Prop := (∀ r, r ≠ 36 → r ≠ 38 → A' r = A r) ∧ ∀ j, j ≠ 3 → A' 36 j = A 36 j
theorem FrT_rf : FrT A A := ⟨fun _ _ _ => rfl, fun _ _ => rfl⟩
theorem FrT_tr {A' A'' : Nat → Nat → Int32} (a : FrT A A') (b : FrT A' A'') : FrT A A'' := ⟨fun r h1 h2 => (b.1 r h1 h2).trans (a.1 r h1 h2), fun j hj => (b.2 j hj).trans (a.2 j hj)⟩
theorem TX_T {A' : Nat → Nat → Int32} (t : TX A T) (a : FrT A A') : TX A' T := TX_A t (a.2 2 (by decide)) (a.1 37 (by decide) (by decide))
def RDc (n : Nat) (h : mH) (M : Nat → Nat → Int32) (R : Nat → Nat → Option Nat) (T : List Nat) (f : mH → Option (Int32 × mH)) (l : List Nat) (G : mH → Option (Int32 × mH)) : Prop := ∀ (A : Nat → Nat → Int32) (i : Nat), TX A T → A 36 3 = nI i → i ≤ T.length → ∃ A', FrT A A' ∧ A' 36 3 = nI (sq T l i).2 ∧ f (E n h A M R) = (if (sq T l i).1 = true then G (E n h A' M R) else some (nI 0, E n h A' M R)) ∧ (∀ j, (∀ c ∈ l, c ≠ 200 + j) → A' 38 j = A 38 j) ∧ ((sq T l i).1 = true → ∀ t, t < l.length → 200 ≤ l.getD t 0 → A' 38 (l.getD t 0 - 200) = nI (T.getD (i + t) 0 - 48))
theorem k14 : kd (E n h A M R) (ca n 36) = 14 := by
  rw [kd_C (by decide)]
  rfl
theorem rc_lit {c : Nat} (hv : v = nI c) (h1 : 1 ≤ c) (h2 : c < 128) : RDc n h M R T (f_X9_readSign (ca n 36) v) [c] ret1 := by
  intro A i t hi hi2
  have t60 := t.2.1
  have hm : mtc c (T.getD i 0) ↔ T.getD i 0 = c := by
    unfold mtc
    rw [if_pos (by omega)]
  have e0 := c_chA (n := n) (h := h) (M := M) (R := R) (k := i) t (by omega)
  have hlt := TX_lt t i
  unfold sq sq
  rw [hv]
  by_cases q : T.getD i 0 = c
  · rw [if_pos (hm.mpr q)]
    refine ⟨ro A 36 (up (A 36) 3 (nI (i + 1))), ⟨fun r h1 _ => ro_ne _ _ h1, fun j hj => by rw [ro_at, up_ne _ _ hj]⟩, by rw [ro_at, up_at], ?_, fun j _ => by rw [ro_ne _ _ (by decide)], fun _ k hk h200 => ?_⟩
    · rw [if_pos rfl]
      rw [q] at e0
      unfold f_X9_readSign ret1
      simp (disch := omega) only [↓grd_u, ↓bnd_e, ↓orf_u, ↓oif_u, ↓cal_u, ↓calX_u, ↓inrO_u, ↓reduceIte, EM, EMg, EMs, z0, oi, n_inbT, n_cntT, n_ltT, n_ltF, n_leT, n_leF, n_eqT, n_eqF, n_m1T, n_m1F, n_m1F', n_cl, n_add, n_mul, ro_at, ro_ro, up_at, up_up, EC, ECg, ECs, hi, e0]
    · have hk : k < 1 := hk
      have hk : k = 0 := by omega
      rw [hk] at h200
      have h200 : 200 ≤ c := h200
      omega
  · rw [if_neg (fun z => q (hm.mp z))]
    refine ⟨A, FrT_rf, hi, ?_, fun _ _ => rfl, fun z => absurd z Bool.false_ne_true⟩
    rw [if_neg Bool.false_ne_true]
    unfold f_X9_readSign
    simp (disch := omega) only [↓grd_u, ↓bnd_e, ↓orf_u, ↓oif_u, ↓cal_u, ↓calX_u, ↓inrO_u, ↓reduceIte, EM, EMg, EMs, z0, oi, n_inbT, n_cntT, n_ltT, n_ltF, n_leT, n_leF, n_eqT, n_eqF, n_m1T, n_m1F, n_m1F', n_cl, n_add, n_mul, ro_at, ro_ro, up_at, up_up, EC, ECg, hi, e0]
theorem rc_dig {k : Nat} (hv : v = nI k) (hk : k < 3) : RDc n h M R T (f_X9_readDigit (ca n 36) v) [200 + k] ret1 := by
  intro A i t hi hi2
  have t60 := t.2.1
  have hm : mtc (200 + k) (T.getD i 0) ↔ 48 ≤ T.getD i 0 ∧ T.getD i 0 ≤ 57 := by
    unfold mtc
    rw [if_neg (by omega)]
  have e0 := c_chA (n := n) (h := h) (M := M) (R := R) (k := i) t (by omega)
  have hlt := TX_lt t i
  unfold sq sq
  rw [hv]
  by_cases q : 48 ≤ T.getD i 0 ∧ T.getD i 0 ≤ 57
  · rw [if_pos (hm.mpr q)]
    refine ⟨ro (ro A 38 (up (A 38) k (nI (T.getD i 0 - 48)))) 36 (up (A 36) 3 (nI (i + 1))), ⟨fun r h1 h2 => by rw [ro_ne _ _ h1, ro_ne _ _ h2], fun j hj => by rw [ro_at, up_ne _ _ hj]⟩, by rw [ro_at, up_at], ?_, fun j hj => ?_, fun _ t' ht' h200 => ?_⟩
    · rw [if_pos rfl]
      unfold f_X9_readDigit ret1 g_X9_readDigit_34
      simp (disch := omega) only [↓grd_u, ↓bnd_e, ↓orf_u, ↓oif_u, ↓cal_u, ↓calX_u, ↓inrO_u, ↓reduceIte, EM, EMg, EMs, z0, oi, n_inbT, n_cntT, n_ltT, n_ltF, n_leT, n_leF, n_eqT, n_eqF, n_m1T, n_m1F, n_m1F', n_cl, n_add, n_mul, ro_at, ro_ro, up_at, up_up, ro_ne, up_ne, ro_sw, EC, ECg, ECs, hi, e0, n_sub]
    · rw [ro_ne _ _ (by decide), ro_at, up_ne _ _ (fun z => hj (200 + k) List.mem_cons_self (by rw [z]))]
    · have ht' : t' < 1 := ht'
      have ht' : t' = 0 := by omega
      rw [ht']
      show (ro (ro A 38 (up (A 38) k (nI (T.getD i 0 - 48)))) 36 (up (A 36) 3 (nI (i + 1)))) 38 (200 + k - 200) = nI (T.getD i 0 - 48)
      rw [Nat.add_sub_cancel_left, ro_ne _ _ (by decide), ro_at, up_at]
  · rw [if_neg (fun z => q (hm.mp z))]
    refine ⟨A, FrT_rf, hi, ?_, fun _ _ => rfl, fun z => absurd z Bool.false_ne_true⟩
    rw [if_neg Bool.false_ne_true]
    unfold f_X9_readDigit g_X9_readDigit_34
    rcases Nat.lt_or_ge (T.getD i 0) 48 with y | y
    · simp (disch := omega) only [↓grd_u, ↓bnd_e, ↓orf_u, ↓oif_u, ↓cal_u, ↓calX_u, ↓inrO_u, ↓reduceIte, EM, EMg, EMs, z0, oi, n_inbT, n_cntT, n_ltT, n_ltF, n_leT, n_leF, n_eqT, n_eqF, n_m1T, n_m1F, n_m1F', n_cl, n_add, n_mul, ro_at, ro_ro, up_at, up_up, EC, ECg, hi, e0]
    · simp (disch := omega) only [↓grd_u, ↓bnd_e, ↓orf_u, ↓oif_u, ↓cal_u, ↓calX_u, ↓inrO_u, ↓reduceIte, EM, EMg, EMs, z0, oi, n_inbT, n_cntT, n_ltT, n_ltF, n_leT, n_leF, n_eqT, n_eqF, n_m1T, n_m1F, n_m1F', n_cl, n_add, n_mul, ro_at, ro_ro, up_at, up_up, EC, ECg, hi, e0]
theorem rc_end (hG : ∀ h, g h = G h) : RDc n h M R T g [] G := fun A i _ hi _ => ⟨A, FrT_rf, hi, by rw [hG]; exact (if_pos rfl).symm, fun _ _ => rfl, fun _ k hk => absurd hk (Nat.not_lt_zero _)⟩
theorem rc_grd (hf : RDc n h M R T f l G) : RDc n h M R T (fun h => grd (kd h (ca n 36) = 14) (f h)) l G := fun A i t hi hi2 => by
  obtain ⟨A', a, b, c, d⟩ := hf A i t hi hi2
  refine ⟨A', a, b, ?_, d⟩
  rw [← c]
  exact grd_w k14
theorem rc_sub (hF : ∀ h, F h = some (nI 0, h)) (hf : RDc n h M R T f l1 ret1) (hg : RDc n h M R T g l2 G) (hp : ∀ c ∈ l1, 1 ≤ c) (hd : ∀ c ∈ l1, 200 ≤ c → c ∉ l2) : RDc n h M R T (fun h => cal (f h) fun x h1 => if x = 0 then F h1 else g h1) (l1 ++ l2) G := fun A i t hi hi2 => by
  obtain ⟨A1, a1, b1, c1, d1, e1⟩ := hf A i t hi hi2
  rw [sq_app]
  obtain ⟨s1, s2, s3, -⟩ := sq_ok (T := T) l1 i hp hi2
  match es : sq T l1 i with
  | (false, j) =>
    rw [es] at b1 c1
    refine ⟨A1, a1, b1, ?_, fun j hj => d1 j (fun c hc => hj c (List.mem_append_left _ hc)), fun z => absurd z Bool.false_ne_true⟩
    have c1 : f (E n h A M R) = some (nI 0, E n h A1 M R) := c1
    show cal (f (E n h A M R)) _ = some (nI 0, E n h A1 M R)
    rw [c1]
    exact hF _
  | (true, j) =>
    rw [es] at b1 c1 e1 s1 s2 s3
    have c1 : f (E n h A M R) = some (nI 1, E n h A1 M R) := c1
    have s3 := (s3 rfl).1
    have s3 : j = i + l1.length := s3
    obtain ⟨A2, a2, b2, c2, d2, e2⟩ := hg A1 j (TX_T t a1) b1 s2
    refine ⟨A2, FrT_tr a1 a2, b2, ?_, fun k hk => by rw [d2 k (fun c hc => hk c (List.mem_append_right _ hc)), d1 k (fun c hc => hk c (List.mem_append_left _ hc))], fun z k hk h200 => ?_⟩
    · show cal (f (E n h A M R)) _ = _
      rw [c1, ← c2]
      show (if nI 1 = 0 then F (E n h A1 M R) else g (E n h A1 M R)) = g (E n h A1 M R)
      rw [if_neg (by decide)]
    · rw [List.length_append] at hk
      by_cases q : k < l1.length
      · rw [gD_l q] at h200 ⊢
        rw [d2]
        · exact e1 rfl k q h200
        · intro c hc z
          have hm : l1.getD k 0 ∈ l1 := by
            rw [List.getD_eq_getElem?_getD, List.getElem?_eq_getElem q]
            exact List.getElem_mem q
          exact hd _ hm h200 (by rw [show l1.getD k 0 = c by omega]; exact hc)
      · rw [gD_r (by omega)] at h200 ⊢
        have := e2 z (k - l1.length) (by omega) h200
        rw [this, s3]
        congr 2
        congr 1
        omega
theorem rc_c {c : Nat} (hF : ∀ h, F h = some (nI 0, h)) (hf : RDc n h M R T f [c] ret1) (hg : RDc n h M R T g l2 G) (hp : 1 ≤ c) (hd : 200 ≤ c → c ∉ l2) : RDc n h M R T (fun h => cal (f h) fun x h1 => if x = 0 then F h1 else g h1) (c :: l2) G := rc_sub (l1 := [c]) hF hf hg (fun x hx => by rw [List.mem_singleton.mp hx]; exact hp) (fun x hx => by rw [List.mem_singleton.mp hx]; exact hd)
theorem rcl {v : Int32} (c : Nat) (hv : v = nI c) (h1 : 1 ≤ c) (h2 : c < 128) : RDc n h M R T (f_X9_readSign (ca n 36) v) [c] ret1 := rc_lit hv h1 h2
theorem rcd {v : Int32} (k : Nat) (hv : v = nI k) (hk : k < 3) : RDc n h M R T (f_X9_readDigit (ca n 36) v) [200 + k] ret1 := rc_dig hv hk
/-- three digits -/
theorem rc_86 : RDc n h M R T (g_X9_readCommand_86 (ca n 36)) [200, 61, 201, 44, 202] ret1 := by
  have hF : ∀ h, g_X9_readCommand_132 h = some (nI 0, h) := fun h => by
    unfold g_X9_readCommand_132 g_X9_readCommand_133
    simp only [↓grd_u, ↓bnd_e, ↓orf_u, ↓oif_u, ↓cal_u, ↓calX_u, ↓inrO_u, ↓reduceIte, EM, EMg, EMs, z0, oi, n_inbT, n_cntT, n_ltT, n_ltF, n_leT, n_leF, n_eqT, n_eqF, n_m1T, n_m1F, n_m1F', n_cl, n_add, n_mul, ro_at, ro_ro, up_at, up_up, nz0]
  have hG : ∀ h, g_X9_readCommand_133 (Int32.ofInt 1) h = ret1 h := fun h => by
    unfold g_X9_readCommand_133 ret1
    simp only [↓grd_u, ↓bnd_e, ↓orf_u, ↓oif_u, ↓cal_u, ↓calX_u, ↓inrO_u, ↓reduceIte, EM, EMg, EMs, z0, oi, n_inbT, n_cntT, n_ltT, n_ltF, n_leT, n_leF, n_eqT, n_eqF, n_m1T, n_m1F, n_m1F', n_cl, n_add, n_mul, ro_at, ro_ro, up_at, up_up, nz1]
  exact rc_grd (rc_c hF (rcd (v := Int32.ofInt 0) 0 rfl (by decide)) (rc_grd (rc_c hF (rcl (v := Int32.ofInt 61) 61 rfl (by decide) (by decide)) (rc_grd (rc_c hF (rcd (v := Int32.ofInt 1) 1 rfl (by decide)) (rc_grd (rc_c hF (rcl (v := Int32.ofInt 44) 44 rfl (by decide) (by decide)) (rc_grd (rc_c hF (rcd (v := Int32.ofInt 2) 2 rfl (by decide)) (rc_end hG) (by decide) (by decide))) (by decide) (by decide))) (by decide) (by decide))) (by decide) (by decide))) (by decide) (by decide))
theorem rc_170 : RDc n h M R T (g_X9_readCommand_170 (ca n 36)) [200] ret1 := by
  intro A i t hi hi2
  obtain ⟨A', a, b, c, d⟩ := rc_dig (n := n) (h := h) (M := M) (R := R) (T := T) (v := Int32.ofInt 0) (k := 0) rfl (by decide) A i t hi hi2
  refine ⟨A', a, b, ?_, d⟩
  unfold g_X9_readCommand_170
  rw [grd_w k14]
  have c : f_X9_readDigit (ca n 36) (Int32.ofInt 0) (E n h A M R) = (if (sq T [200] i).1 = true then ret1 (E n h A' M R) else some (nI 0, E n h A' M R)) := c
  by_cases q : (sq T [200] i).1 = true
  · rw [if_pos q] at c ⊢
    rw [cal_w (a := nI 1) (h := E n h A' M R) c, grd_w (of_eq_true nz1)]
    rfl
  · rw [if_neg q] at c ⊢
    rw [cal_w (a := nI 0) (h := E n h A' M R) c, grd_w (of_eq_true nz0)]
/-- letters of a word -/
theorem c_rl8 {st : Nat} (hst : st ≤ 60) : ∀ (m L i : Nat) (A : Nat → Nat → Int32), lrn (T.drop i) = m → m < L → TX A T → A 36 3 = nI i → A 36 5 = nI st → i ≤ T.length →
    lp (b_X9_readLetters_8 (ca n 36)) L (E n h A M R) = some (nI (b1 (st < i + m)), E n h (ro A 36 (up (up (A 36) 3 (nI (i + m))) 6 (nI (i + m)))) M R) := by
  intro m
  induction m with
  | zero =>
    intro L i A hm hL t hi h5 hi2
    obtain ⟨L, rfl⟩ : ∃ L', L = L' + 1 := ⟨L - 1, by omega⟩
    have t60 := t.2.1
    have t1 := t.1
    have e36 : ro A 36 (up (up (A 36) 3 (nI (i + 0))) 6 (nI (i + 0))) = ro A 36 (up (A 36) 6 (nI i)) := by
      rw [Nat.add_zero]
      congr 1
      funext j
      unfold up
      by_cases q : j = 6
      · rw [if_pos q, if_pos q]
      · rw [if_neg q, if_neg q]
        by_cases q3 : j = 3
        · rw [if_pos q3, q3, hi]
        · rw [if_neg q3]
    have fin : g_X9_readLetters_46 (ca n 36) (E n h A M R) = some (nI (b1 (st < i + 0)), E n h (ro A 36 (up (A 36) 6 (nI i))) M R) := by
      unfold g_X9_readLetters_46 g_X9_readLetters_70 b1
      by_cases q : st < i
      · rw [if_pos (show st < i + 0 by omega)]
        simp (disch := omega) only [↓grd_u, ↓bnd_e, ↓orf_u, ↓oif_u, ↓cal_u, ↓calX_u, ↓inrO_u, ↓reduceIte, EM, EMg, EMs, z0, oi, n_inbT, n_cntT, n_ltT, n_ltF, n_leT, n_leF, n_eqT, n_eqF, n_m1T, n_m1F, n_m1F', n_cl, n_add, n_mul, ro_at, ro_ro, up_at, up_up, ro_ne, up_ne, ro_sw, EC, ECg, ECs, hi, h5, nz1]
      · rw [if_neg (show ¬ st < i + 0 by omega)]
        simp (disch := omega) only [↓grd_u, ↓bnd_e, ↓orf_u, ↓oif_u, ↓cal_u, ↓calX_u, ↓inrO_u, ↓reduceIte, EM, EMg, EMs, z0, oi, n_inbT, n_cntT, n_ltT, n_ltF, n_leT, n_leF, n_eqT, n_eqF, n_m1T, n_m1F, n_m1F', n_cl, n_add, n_mul, ro_at, ro_ro, up_at, up_up, ro_ne, up_ne, ro_sw, EC, ECg, ECs, hi, h5, nz0]
    rw [e36, lp_en (r := _)]
    unfold b_X9_readLetters_8 b0_X9_readLetters_8
    rcases Nat.lt_or_ge i T.length with z | z
    · have e0 := c_chA (n := n) (h := h) (M := M) (R := R) (k := i) t (by omega)
      have hlt := TX_lt t i
      rw [drop_c z] at hm
      unfold lrn at hm
      have hn : ¬ (97 ≤ T.getD i 0 ∧ T.getD i 0 ≤ 99) := fun q => by
        rw [if_pos q] at hm
        omega
      have el := c_isLF (g := E n h A M R) hlt hn
      simp (disch := omega) only [↓grd_u, ↓bnd_e, ↓orf_u, ↓oif_u, ↓cal_u, ↓calX_u, ↓inrO_u, ↓reduceIte, EM, EMg, EMs, z0, oi, n_inbT, n_cntT, n_ltT, n_ltF, n_leT, n_leF, n_eqT, n_eqF, n_m1T, n_m1F, n_m1F', n_cl, n_add, n_mul, ro_at, ro_ro, up_at, up_up, EC, ECg, t1, hi, e0, el, fin]
    · simp (disch := omega) only [↓grd_u, ↓bnd_e, ↓orf_u, ↓oif_u, ↓cal_u, ↓calX_u, ↓inrO_u, ↓reduceIte, EM, EMg, EMs, z0, oi, n_inbT, n_cntT, n_ltT, n_ltF, n_leT, n_leF, n_eqT, n_eqF, n_m1T, n_m1F, n_m1F', n_cl, n_add, n_mul, ro_at, ro_ro, up_at, up_up, EC, ECg, t1, hi, fin]
  | succ m ih =>
    intro L i A hm hL t hi h5 hi2
    obtain ⟨L, rfl⟩ : ∃ L', L = L' + 1 := ⟨L - 1, by omega⟩
    have t60 := t.2.1
    have t1 := t.1
    have hl : i < T.length := by
      rcases Nat.lt_or_ge i T.length with z | z
      · exact z
      · rw [List.drop_eq_nil_of_le z] at hm
        exact absurd hm (by show ¬ 0 = m + 1; omega)
    rw [drop_c hl] at hm
    unfold lrn at hm
    have q : 97 ≤ T.getD i 0 ∧ T.getD i 0 ≤ 99 := Decidable.byContradiction fun z => by
      rw [if_neg z] at hm
      omega
    rw [if_pos q] at hm
    have e0 := c_chA (n := n) (h := h) (M := M) (R := R) (k := i) t (by omega)
    have el := c_isLT (g := E n h A M R) q.1 q.2
    obtain ⟨A1, hA1⟩ : ∃ A1, A1 = ro A 36 (up (A 36) 3 (nI (i + 1))) := ⟨_, rfl⟩
    have e := ih L (i + 1) A1 (by omega) (by omega) (TX_A t (by rw [hA1, ro_at, up_ne _ _ (by decide)]) (by rw [hA1, ro_ne _ _ (by decide)])) (by rw [hA1, ro_at, up_at]) (by rw [hA1, ro_at, up_ne _ _ (by decide)]; exact h5) hl
    rw [show i + 1 + m = i + (m + 1) by omega] at e
    have e36 : ro A1 36 (up (up (A1 36) 3 (nI (i + (m + 1)))) 6 (nI (i + (m + 1)))) = ro A 36 (up (up (A 36) 3 (nI (i + (m + 1)))) 6 (nI (i + (m + 1)))) := by
      rw [hA1, ro_at, ro_ro, up_up]
    rw [e36] at e
    rw [lp_nx (s' := E n h A1 M R), e]
    unfold b_X9_readLetters_8 b0_X9_readLetters_8
    simp (disch := omega) only [↓grd_u, ↓bnd_e, ↓orf_u, ↓oif_u, ↓cal_u, ↓calX_u, ↓inrO_u, ↓reduceIte, EM, EMg, EMs, z0, oi, n_inbT, n_cntT, n_ltT, n_ltF, n_leT, n_leF, n_eqT, n_eqF, n_m1T, n_m1F, n_m1F', n_cl, n_add, n_mul, ro_at, ro_ro, up_at, up_up, EC, ECg, ECs, t1, hi, e0, el, ← hA1]
theorem c_readLetters (t : TX A T) (hi : A 36 3 = nI i) (hi2 : i ≤ T.length) : f_X9_readLetters (ca n 36) (E n h A M R) = some (nI (b1 (0 < lrn (T.drop i))), E n h (ro A 36 (up (up (up (A 36) 5 (nI i)) 3 (nI (i + lrn (T.drop i)))) 6 (nI (i + lrn (T.drop i))))) M R) := by
  have t60 := t.2.1
  have hlr := lrn_le (T.drop i)
  rw [List.length_drop] at hlr
  obtain ⟨A1, hA1⟩ : ∃ A1, A1 = ro A 36 (up (A 36) 5 (nI i)) := ⟨_, rfl⟩
  have e := c_rl8 (n := n) (h := h) (M := M) (R := R) (T := T) (st := i) (by omega) (lrn (T.drop i)) 100000 i A1 rfl (by omega) (TX_A t (by rw [hA1, ro_at, up_ne _ _ (by decide)]) (by rw [hA1, ro_ne _ _ (by decide)])) (by rw [hA1, ro_at, up_ne _ _ (by decide)]; exact hi) (by rw [hA1, ro_at, up_at]) hi2
  have e36 : ro A1 36 (up (up (A1 36) 3 (nI (i + lrn (T.drop i)))) 6 (nI (i + lrn (T.drop i)))) = ro A 36 (up (up (up (A 36) 5 (nI i)) 3 (nI (i + lrn (T.drop i)))) 6 (nI (i + lrn (T.drop i)))) := by
    rw [hA1, ro_at, ro_ro]
  have eb : b1 (i < i + lrn (T.drop i)) = b1 (0 < lrn (T.drop i)) := by
    unfold b1
    by_cases q : 0 < lrn (T.drop i)
    · rw [if_pos q, if_pos (by omega)]
    · rw [if_neg q, if_neg (by omega)]
  rw [e36, eb] at e
  have e : g_X9_readLetters_8 (ca n 36) (E n h A1 M R) = _ := e
  unfold f_X9_readLetters
  simp (disch := omega) only [↓grd_u, ↓bnd_e, ↓orf_u, ↓oif_u, ↓cal_u, ↓calX_u, ↓inrO_u, ↓reduceIte, EM, EMg, EMs, z0, oi, n_inbT, n_cntT, n_ltT, n_ltF, n_leT, n_leF, n_eqT, n_eqF, n_m1T, n_m1F, n_m1F', n_cl, n_add, n_mul, ro_at, ro_ro, up_at, up_up, EC, ECg, ECs, hi, ← hA1, e]
end CCMD
