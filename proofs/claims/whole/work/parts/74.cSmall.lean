/-! the class: the smallest automaton -/
theorem cs_surj {S : Nat → Bool} : ∀ {n q : Nat}, q < cs S n → ∃ j, j < n ∧ S j = true ∧ cs S j = q
  | 0, q, h => absurd h (Nat.not_lt_zero _)
  | n + 1, q, h => by
    by_cases e : q < cs S n
    · obtain ⟨j, h1, h2⟩ := cs_surj e
      exact ⟨j, by omega, h2⟩
    · have h2 : cs S (n + 1) = cs S n + (if S n = true then 1 else 0) := rfl
      by_cases z : S n = true
      · rw [if_pos z] at h2
        exact ⟨n, by omega, z, by omega⟩
      · rw [if_neg z] at h2
        omega
def gR (g : Glu) : Nat → Nat → Bool := mr (gS g) (gA g) 200
def gH (g : Glu) : Nat → Bool := hdR (gR g)
def gLab (g : Glu) : Nat → Nat := labR (gR g)
/-- the head of a class -/
def hOf (g : Glu) (q : Nat) : Nat := lf (fun j => gH g j && decide (cs (gH g) j = q)) (gL g)
theorem hOf_is {g : Glu} {q j : Nat} (hj : j < gL g) (hh : gH g j = true) (hc : cs (gH g) j = q) : hOf g q = j := by
  refine lf_is hj (by rw [hh, decide_eq_true hc]; rfl) (fun i hi => ?_)
  cases z : gH g i with
  | false => rfl
  | true =>
    have := cs_hd (R := gR g) z hi
    have h2 : ¬ cs (gH g) i = q := fun e => by
      have h3 : cs (gH g) i < cs (gH g) j := this
      omega
    rw [decide_eq_false h2]
    rfl
theorem hOf_ok {g : Glu} {q : Nat} (hq : q < gMc g) : hOf g q < gL g ∧ gH g (hOf g q) = true ∧ cs (gH g) (hOf g q) = q := by
  obtain ⟨j, h1, h2, h3⟩ := cs_surj (S := gH g) (n := gL g) (q := q) hq
  rw [hOf_is h1 h2 h3]
  exact ⟨h1, h2, h3⟩
def smA (g : Glu) (q : Nat) : Bool := gA g (hOf g q)
def smT (g : Glu) (q c : Nat) : Nat := gLab g (gS g (hOf g q) c)
def SmF (A : Nat → Nat → Int32) (b : Nat) (g : Glu) : Prop := A b 5 = nI (gMc g) ∧ (∀ q, q < gMc g → A (b + 5) q = nI (b2 (smA g q))) ∧ (∀ q, q < gMc g → ∀ c, c < 3 → A (b + 4) (3 * q + c) = nI (smT g q c))
def FrS (b : Nat) (A A' : Nat → Nat → Int32) : Prop := ∀ r, r < b ∨ b + 6 ≤ r → A' r = A r
theorem FrS_tr {b : Nat} {A A' A'' : Nat → Nat → Int32} (h : FrS b A A') (h' : FrS b A' A'') : FrS b A A'' := fun r hr => (h' r hr).trans (h r hr)
/-- the class's rows: labels; heads up to a state -/
def ClC (A : Nat → Nat → Int32) (r L : Nat) (l : Nat → Nat) : Prop := ∀ j, j < L → A r j = nI (l j) ∧ l j < 1000
def HdC (A : Nat → Nat → Int32) (b : Nat) (R : Nat → Nat → Bool) (a : Nat) : Prop := ∀ j, j < a → hdR R j = true → A (b + 3) (cs (hdR R) j) = nI j
section CSMALL
variable {n : Nat} {h : mH} {A M : Nat → Nat → Int32} {R : Nat → Nat → Option Nat} {S : St} {b c0 : Nat} {g : Glu}
theorem apart_SA (hb : bSm b) (hc : bAu c0) : c0 + 14 ≤ b := by
  rcases hb with rfl | rfl <;> rcases hc with rfl | rfl <;> omega
theorem AuF_S {A' : Nat → Nat → Int32} (hb : bSm b) (hc : bAu c0) (h : AuF A c0 g) (hf : FrS b A A') : AuF A' c0 g := AuF_fr h (fun r h1 h2 => hf r (by have := apart_SA hb hc; omega))
theorem c_clsOf {l : Nat → Nat} {L j : Nat} (hb : bSm b) (hl : ClC A (b + 1) L l) (hL : L ≤ 129) (hj : j < L) : f_X7_classOf (ca n b) (nI j) (E n h A M R) = some (nI (l j), E n h A M R) := by
  have e1 := ESm hb
  have e2 := ESmg hb
  have e3 := (hl j hj).1
  unfold f_X7_classOf g_X7_classOf_21
  simp (disch := omega) only [↓grd_u, ↓bnd_e, ↓orf_u, ↓oif_u, ↓cal_u, ↓calX_u, ↓inrO_u, ↓reduceIte, EM, EMg, EMs, z0, oi, n_inbT, n_cntT, n_ltT, n_ltF, n_leT, n_leF, n_eqT, n_eqF, n_m1T, n_m1F, n_m1F', n_cl, n_add, n_mul, ro_at, ro_ro, up_at, up_up, e1, e2, e3]
theorem c_alike {l : Nat → Nat} {x y : Nat} (hb : bSm b) (hc : bAu c0) (ok : GluOK g) (hu : AuF A c0 g) (hl : ClC A (b + 1) (gL g) l) (hx : x < gL g) (hy : y < gL g) : f_X7_areAlike (ca n b) (ca n c0) (nI x) (nI y) (E n h A M R) = some (nI (b2 (alk (gS g) l x y)), E n h A M R) := by
  have e1 := ESm hb
  have e2 := EAu hc
  have hL := gL_le ok
  have cx := c_clsOf (n := n) (h := h) (M := M) (R := R) hb hl hL hx
  have cy := c_clsOf (n := n) (h := h) (M := M) (R := R) hb hl hL hy
  have lx := (hl x hx).2
  have ly := (hl y hy).2
  unfold f_X7_areAlike
  by_cases q : l x = l y
  · have key : ∃ r, g_X7_areAlike_18 (ca n b) (ca n c0) (nI x) (nI y) (nI 0) (E n h A M R) = some r ∧ r = (nI (b2 (alk (gS g) l x y)), E n h A M R) := by
      unfold g_X7_areAlike_18
      refine lp_inv0 (f := b_X7_areAlike_18 (ca n b) (ca n c0) (nI x) (nI y)) (fun c s' => s' = (nI c, E n h A M R) ∧ ∀ d, d < c → l (gS g x d) = l (gS g y d)) _ 3 (fun c s' hc3 hI => ?_) (L := 100000) (by decide) ⟨rfl, fun j hj => absurd hj (Nat.not_lt_zero _)⟩
      obtain ⟨rfl, hn⟩ := hI
      unfold b_X7_areAlike_18 b0_X7_areAlike_18
      by_cases hc4 : c < 3
      · have s1 := c_step (n := n) (h := h) (A := A) (M := M) (R := R) hc hu ok hx hc4
        have s2 := c_step (n := n) (h := h) (A := A) (M := M) (R := R) hc hu ok hy hc4
        have i1 := gS_lt ok x c hx hc4
        have i2 := gS_lt ok y c hy hc4
        have t1 := c_clsOf (n := n) (h := h) (M := M) (R := R) hb hl hL i1
        have t2 := c_clsOf (n := n) (h := h) (M := M) (R := R) hb hl hL i2
        have l1 := (hl _ i1).2
        have l2 := (hl _ i2).2
        by_cases q2 : l (gS g x c) = l (gS g y c)
        · refine Or.inl ⟨(nI (c + 1), E n h A M R), ?_, hc4, rfl, fun d hd => ?_⟩
          · simp (disch := omega) only [↓grd_u, ↓bnd_e, ↓orf_u, ↓oif_u, ↓cal_u, ↓calX_u, ↓inrO_u, ↓reduceIte, EM, EMg, EMs, z0, oi, n_inbT, n_cntT, n_ltT, n_ltF, n_leT, n_leF, n_eqT, n_eqF, n_m1T, n_m1F, n_m1F', n_cl, n_add, n_mul, ro_at, ro_ro, up_at, up_up, e1, e2, s1, s2, t1, t2]
          · by_cases e : d = c
            · rw [e]; exact q2
            · exact hn d (by omega)
        · refine Or.inr ⟨(nI 0, E n h A M R), ?_, ?_⟩
          · simp (disch := omega) only [↓grd_u, ↓bnd_e, ↓orf_u, ↓oif_u, ↓cal_u, ↓calX_u, ↓inrO_u, ↓reduceIte, EM, EMg, EMs, z0, oi, n_inbT, n_cntT, n_ltT, n_ltF, n_leT, n_leF, n_eqT, n_eqF, n_m1T, n_m1F, n_m1F', n_cl, n_add, n_mul, ro_at, ro_ro, up_at, up_up, e1, e2, s1, s2, t1, t2]
          · have : alk (gS g) l x y = false := by
              cases z : alk (gS g) l x y with
              | false => rfl
              | true =>
                exfalso
                unfold alk at z
                simp only [Bool.and_eq_true, decide_eq_true_eq] at z
                have : c = 0 ∨ c = 1 ∨ c = 2 := by omega
                rcases this with rfl | rfl | rfl
                · exact q2 z.2.1
                · exact q2 z.2.2.1
                · exact q2 z.2.2.2
            rw [this]
            rfl
      · have hce : c = 3 := by omega
        subst hce
        refine Or.inr ⟨(nI 1, E n h A M R), ?_, ?_⟩
        · simp (disch := omega) only [↓grd_u, ↓bnd_e, ↓orf_u, ↓oif_u, ↓cal_u, ↓calX_u, ↓inrO_u, ↓reduceIte, EM, EMg, EMs, z0, oi, n_inbT, n_cntT, n_ltT, n_ltF, n_leT, n_leF, n_eqT, n_eqF, n_m1T, n_m1F, n_m1F', n_cl, n_add, n_mul, ro_at, ro_ro, up_at, up_up]
        · have : alk (gS g) l x y = true := by
            unfold alk
            simp only [Bool.and_eq_true, decide_eq_true_eq]
            exact ⟨q, hn 0 (by decide), hn 1 (by decide), hn 2 (by decide)⟩
          rw [this]
          rfl
    obtain ⟨r, e, rfl⟩ := key
    simp (disch := omega) only [↓grd_u, ↓bnd_e, ↓orf_u, ↓oif_u, ↓cal_u, ↓calX_u, ↓inrO_u, ↓reduceIte, EM, EMg, EMs, z0, oi, n_inbT, n_cntT, n_ltT, n_ltF, n_leT, n_leF, n_eqT, n_eqF, n_m1T, n_m1F, n_m1F', n_cl, n_add, n_mul, ro_at, ro_ro, up_at, up_up, e1, cx, cy, e]
  · have : alk (gS g) l x y = false := by
      unfold alk
      rw [decide_eq_false q]
      rfl
    rw [this]
    simp (disch := omega) only [↓grd_u, ↓bnd_e, ↓orf_u, ↓oif_u, ↓cal_u, ↓calX_u, ↓inrO_u, ↓reduceIte, EM, EMg, EMs, z0, oi, n_inbT, n_cntT, n_ltT, n_ltF, n_leT, n_leF, n_eqT, n_eqF, n_m1T, n_m1F, n_m1F', n_cl, n_add, n_mul, ro_at, ro_ro, up_at, up_up, e1, cx, cy]
    rfl
theorem c_div14 {l : Nat → Nat} {k a : Nat} (hb : bSm b) (hc : bAu c0) (ok : GluOK g) (hu : AuF A c0 g) (hl : ClC A (b + 1) (gL g) l) (hlab : labs (gS g) (gA g) (gL g) k l) (ha : a < gL g) (hh : HdC A b (mr (gS g) (gA g) (k + 1)) a) :
    ∃ A', g_X7_divide_22 (ca n b) (ca n c0) (nI (gL g)) (nI (cs (hdR (mr (gS g) (gA g) (k + 1))) a)) (nI a) (nI 0) (E n h A M R) = some (.inl (nI (cs (hdR (mr (gS g) (gA g) (k + 1))) (a + 1)), nI (a + 1), E n h A' M R)) ∧ A' (b + 2) = up (A (b + 2)) a (nI (labR (mr (gS g) (gA g) (k + 1)) a)) ∧ HdC A' b (mr (gS g) (gA g) (k + 1)) (a + 1) ∧ ∀ r, r ≠ b + 2 → r ≠ b + 3 → A' r = A r := by
  have e1 := ESm hb
  have e2 := ESmg hb
  have e3 := ESms hb
  have hL := gL_le ok
  obtain ⟨Q, hQ⟩ : ∃ Q, Q = mr (gS g) (gA g) (k + 1) := ⟨_, rfl⟩
  have heq := mr_eqv (gS g) (gA g) (k + 1)
  have halk : ∀ x, x < gL g → alk (gS g) l x a = Q x a := fun x hx => by rw [hQ]; exact alk_mr (gS_lt ok) hlab x a hx ha
  rw [← hQ] at hh heq ⊢
  have hcsl := csn_le (hdR Q) a
  have hstep : cs (hdR Q) (a + 1) = cs (hdR Q) a + (if hdR Q a = true then 1 else 0) := rfl
  have key : ∃ r, g_X7_divide_22 (ca n b) (ca n c0) (nI (gL g)) (nI (cs (hdR Q) a)) (nI a) (nI 0) (E n h A M R) = some r ∧ ∃ A', r = .inl (nI (cs (hdR Q) (a + 1)), nI (a + 1), E n h A' M R) ∧ A' (b + 2) = up (A (b + 2)) a (nI (labR Q a)) ∧ HdC A' b Q (a + 1) ∧ ∀ r, r ≠ b + 2 → r ≠ b + 3 → A' r = A r := by
    unfold g_X7_divide_22
    refine lp_inv0 (f := b_X7_divide_22 (ca n b) (ca n c0) (nI (gL g)) (nI (cs (hdR Q) a)) (nI a)) (fun q s' => s' = (nI q, E n h A M R) ∧ ∀ j, j < a → hdR Q j = true → cs (hdR Q) j < q → Q j a = false) _ (cs (hdR Q) a) (fun q s' hq hI => ?_) (L := 100000) (by omega) ⟨rfl, fun j _ _ hj => absurd hj (Nat.not_lt_zero _)⟩
    obtain ⟨rfl, hn⟩ := hI
    unfold b_X7_divide_22 b0_X7_divide_22 g_X7_divide_59 g_X7_divide_83
    by_cases hq2 : q < cs (hdR Q) a
    · obtain ⟨j, j1, j2, j3⟩ := cs_surj hq2
      have hv := hh j j1 j2
      rw [j3] at hv
      have hal := c_alike (n := n) (h := h) (M := M) (R := R) hb hc ok hu hl (show j < gL g by omega) ha
      rw [halk j (by omega)] at hal
      unfold b2 at hal
      by_cases z : Q j a = true
      · rw [if_pos z] at hal
        have hfs : fsR Q a = j := by
          refine lf_is j1 z (fun i hi => ?_)
          cases w : Q i a with
          | false => rfl
          | true =>
            have := hd_no.mp j2 i hi
            rw [heq.2.2 _ _ _ w (heq.2.1 _ _ z)] at this
            cases this
        have hlb : labR Q a = q := by unfold labR; rw [hfs]; exact j3
        have hnh : hdR Q a = false := by
          cases w : hdR Q a with
          | false => rfl
          | true => rw [hd_iff] at w; omega
        refine Or.inr ⟨.inl (nI (cs (hdR Q) a), nI (a + 1), E n h (ro A (b + 2) (up (A (b + 2)) a (nI q))) M R), ?_, ro A (b + 2) (up (A (b + 2)) a (nI q)), ?_, by rw [ro_at, hlb], fun i hi hhi => ?_, fun r h1 h2 => ro_ne _ _ h1⟩
        · simp (disch := omega) only [↓grd_u, ↓bnd_e, ↓orf_u, ↓oif_u, ↓cal_u, ↓calX_u, ↓inrO_u, ↓reduceIte, EM, EMg, EMs, z0, oi, n_inbT, n_cntT, n_ltT, n_ltF, n_leT, n_leF, n_eqT, n_eqF, n_m1T, n_m1F, n_m1F', n_cl, n_add, n_mul, ro_at, ro_ro, up_at, up_up, e1, e2, e3, hv, hal]
        · rw [hstep, hnh]; rfl
        · have hia : i ≠ a := fun e => by rw [e, hnh] at hhi; cases hhi
          rw [ro_ne _ _ (by omega)]
          exact hh i (by omega) hhi
      · rw [if_neg z] at hal
        refine Or.inl ⟨(nI (q + 1), E n h A M R), ?_, hq2, rfl, fun i hi hhi hci => ?_⟩
        · simp (disch := omega) only [↓grd_u, ↓bnd_e, ↓orf_u, ↓oif_u, ↓cal_u, ↓calX_u, ↓inrO_u, ↓reduceIte, EM, EMg, EMs, z0, oi, n_inbT, n_cntT, n_ltT, n_ltF, n_leT, n_leF, n_eqT, n_eqF, n_m1T, n_m1F, n_m1F', n_cl, n_add, n_mul, ro_at, ro_ro, up_at, up_up, e1, e2, hv, hal]
        · by_cases e : cs (hdR Q) i < q
          · exact hn i hi hhi e
          · have hij : i = j := by
              rcases Nat.lt_trichotomy i j with w | w | w
              · have := cs_hd hhi w; omega
              · exact w
              · have := cs_hd j2 w; omega
            rw [hij]
            cases w : Q j a with
            | false => rfl
            | true => exact absurd w z
    · have hqe : q = cs (hdR Q) a := by omega
      have hhd : hdR Q a = true := by
        rw [hd_iff]
        rcases Nat.lt_or_ge (fsR Q a) a with w | w
        · have h1 := fs_hd heq (a := a)
          have h2 := cs_hd h1 w
          have h3 := hn _ w h1 (by omega)
          rw [fs_R heq] at h3
          cases h3
        · have := fs_le (R := Q) (a := a)
          omega
      have hlb : labR Q a = q := by unfold labR; rw [hd_iff.mp hhd]; exact hqe.symm
      rw [← hqe] at hstep ⊢
      refine Or.inr ⟨.inl (nI (q + 1), nI (a + 1), E n h (ro (ro A (b + 3) (up (A (b + 3)) q (nI a))) (b + 2) (up (A (b + 2)) a (nI q))) M R), ?_, ro (ro A (b + 3) (up (A (b + 3)) q (nI a))) (b + 2) (up (A (b + 2)) a (nI q)), ?_, by rw [ro_at, hlb], fun i hi hhi => ?_, fun r h1 h2 => by rw [ro_ne _ _ h1, ro_ne _ _ h2]⟩
      · simp (disch := omega) only [↓grd_u, ↓bnd_e, ↓orf_u, ↓oif_u, ↓cal_u, ↓calX_u, ↓inrO_u, ↓reduceIte, EM, EMg, EMs, z0, oi, n_inbT, n_cntT, n_ltT, n_ltF, n_leT, n_leF, n_eqT, n_eqF, n_m1T, n_m1F, n_m1F', n_cl, n_add, n_mul, ro_at, ro_ro, up_at, up_up, ro_ne, e1, e2, e3]
      · rw [hstep, hhd]; rfl
      · rw [ro_ne _ _ (by omega), ro_at]
        by_cases e : i = a
        · rw [e, ← hqe, up_at]
        · have := cs_hd hhi (show i < a by omega)
          rw [up_ne _ _ (by omega)]
          exact hh i (by omega) hhi
  obtain ⟨r, e, A', rfl, q1, q2, q3⟩ := key
  exact ⟨A', e, q1, q2, q3⟩
theorem c_divide {l : Nat → Nat} {k : Nat} (hb : bSm b) (hc : bAu c0) (ok : GluOK g) (hu : AuF A c0 g) (hl : ClC A (b + 1) (gL g) l) (hlab : labs (gS g) (gA g) (gL g) k l) :
    ∃ A', f_X7_divide (ca n b) (ca n c0) (nI (gL g)) (E n h A M R) = some (nI (mc (gS g) (gA g) (gL g) (k + 1)), E n h A' M R) ∧ ClC A' (b + 2) (gL g) (labR (mr (gS g) (gA g) (k + 1))) ∧ HdC A' b (mr (gS g) (gA g) (k + 1)) (gL g) ∧ ∀ r, r ≠ b + 2 → r ≠ b + 3 → A' r = A r := by
  have hL := gL_le ok
  have heq := mr_eqv (gS g) (gA g) (k + 1)
  have key : ∃ r, g_X7_divide_5 (ca n b) (ca n c0) (nI (gL g)) (nI 0) (nI 0) (E n h A M R) = some r ∧ ∃ A', r = (nI (mc (gS g) (gA g) (gL g) (k + 1)), E n h A' M R) ∧ ClC A' (b + 2) (gL g) (labR (mr (gS g) (gA g) (k + 1))) ∧ HdC A' b (mr (gS g) (gA g) (k + 1)) (gL g) ∧ ∀ r, r ≠ b + 2 → r ≠ b + 3 → A' r = A r := by
    unfold g_X7_divide_5
    refine lp_inv0 (f := b_X7_divide_5 (ca n b) (ca n c0) (nI (gL g))) (fun a s' => ∃ A1, s' = (nI (cs (hdR (mr (gS g) (gA g) (k + 1))) a), nI a, E n h A1 M R) ∧ (∀ j, j < a → A1 (b + 2) j = nI (labR (mr (gS g) (gA g) (k + 1)) j)) ∧ HdC A1 b (mr (gS g) (gA g) (k + 1)) a ∧ ∀ r, r ≠ b + 2 → r ≠ b + 3 → A1 r = A r) _ (gL g) (fun a s' ha hI => ?_) (L := 100000) (by omega) ⟨A, rfl, fun j hj => absurd hj (Nat.not_lt_zero _), fun j hj => absurd hj (Nat.not_lt_zero _), fun _ _ _ => rfl⟩
    obtain ⟨A1, rfl, hn, hd1, f1⟩ := hI
    have hu1 : AuF A1 c0 g := AuF_fr hu (fun r h1 h2 => f1 r (by have := apart_SA hb hc; omega) (by have := apart_SA hb hc; omega))
    have hl1 : ClC A1 (b + 1) (gL g) l := fun j hj => by rw [f1 _ (by omega) (by omega)]; exact hl j hj
    unfold b_X7_divide_5 b0_X7_divide_5 g_X7_divide_98
    by_cases ha2 : a < gL g
    · obtain ⟨A2, e2, r2, hd2, f2⟩ := c_div14 (n := n) (h := h) (M := M) (R := R) hb hc ok hu1 hl1 hlab ha2 hd1
      refine Or.inl ⟨(nI (cs (hdR (mr (gS g) (gA g) (k + 1))) (a + 1)), nI (a + 1), E n h A2 M R), ?_, ha2, A2, rfl, fun j hj => ?_, hd2, fun r h1 h2 => (f2 r h1 h2).trans (f1 r h1 h2)⟩
      · simp (disch := omega) only [↓grd_u, ↓bnd_e, ↓orf_u, ↓oif_u, ↓cal_u, ↓calX_u, ↓inrO_u, ↓reduceIte, EM, EMg, EMs, z0, oi, n_inbT, n_cntT, n_ltT, n_ltF, n_leT, n_leF, n_eqT, n_eqF, n_m1T, n_m1F, n_m1F', n_cl, n_add, n_mul, ro_at, ro_ro, up_at, up_up, e2]
      · rw [r2]
        by_cases e : j = a
        · rw [e, up_at]
        · rw [up_ne _ _ e]; exact hn j (by omega)
    · have hae : a = gL g := by omega
      rw [hae] at hn hd1
      refine Or.inr ⟨(nI (mc (gS g) (gA g) (gL g) (k + 1)), E n h A1 M R), ?_, A1, rfl, fun j hj => ⟨hn j hj, by have := lab_lt heq hj; have := csn_le (hdR (mr (gS g) (gA g) (k + 1))) (gL g); omega⟩, hd1, f1⟩
      rw [hae]
      simp (disch := omega) only [↓grd_u, ↓bnd_e, ↓orf_u, ↓oif_u, ↓cal_u, ↓calX_u, ↓inrO_u, ↓reduceIte, EM, EMg, EMs, z0, oi, n_inbT, n_cntT, n_ltT, n_ltF, n_leT, n_leF, n_eqT, n_eqF, n_m1T, n_m1F, n_m1F', n_cl, n_add, n_mul, ro_at, ro_ro, up_at, up_up]
      rfl
  obtain ⟨r, e, A', rfl, q1, q2, q3⟩ := key
  exact ⟨A', e, q1, q2, q3⟩
/-- the rows of the smallest automaton, from its heads -/
theorem c_fillT (hb : bSm b) (hc : bAu c0) (ok : GluOK g) (hu : AuF A c0 g) (hl : ClC A (b + 1) (gL g) (gLab g)) (hh : HdC A b (gR g) (gL g)) (hs : A b 5 = nI (gMc g)) : ∃ A', f_X7_fillTargets (ca n b) (ca n c0) (E n h A M R) = some ((), E n h A' M R) ∧ SmF A' b g ∧ FrS b A A' := by
  have e1 := ESm hb
  have e2 := ESmg hb
  have e3 := ESms hb
  have e4 := EAu hc
  have hL := gL_le ok
  have hmL : gMc g ≤ gL g := csn_le _ _
  have key : ∃ r, g_X7_fillTargets_2 (ca n b) (ca n c0) (nI 0) (E n h A M R) = some r ∧ ∃ A', r = ((), E n h A' M R) ∧ SmF A' b g ∧ FrS b A A' := by
    unfold g_X7_fillTargets_2
    refine lp_inv0 (f := b_X7_fillTargets_2 (ca n b) (ca n c0)) (fun q s' => ∃ A1, s' = (nI q, E n h A1 M R) ∧ (∀ p, p < q → A1 (b + 5) p = nI (b2 (smA g p)) ∧ ∀ c, c < 3 → A1 (b + 4) (3 * p + c) = nI (smT g p c)) ∧ ∀ r, r ≠ b + 4 → r ≠ b + 5 → A1 r = A r) _ (gMc g) (fun q s' hq hI => ?_) (L := 100000) (by omega) ⟨A, rfl, fun p hp => absurd hp (Nat.not_lt_zero _), fun _ _ _ => rfl⟩
    obtain ⟨A1, rfl, hn, f1⟩ := hI
    have e0 : A1 b 5 = nI (gMc g) := by rw [f1 _ (by omega) (by omega)]; exact hs
    unfold b_X7_fillTargets_2 b0_X7_fillTargets_2 g_X7_fillTargets_77
    by_cases hq2 : q < gMc g
    · obtain ⟨o1, o2, o3⟩ := hOf_ok hq2
      have hv : A1 (b + 3) q = nI (hOf g q) := by
        rw [f1 _ (by omega) (by omega)]
        have := hh _ o1 o2
        rw [show cs (hdR (gR g)) (hOf g q) = q from o3] at this
        exact this
      have hu1 : AuF A1 c0 g := AuF_fr hu (fun r h1 h2 => f1 r (by have := apart_SA hb hc; omega) (by have := apart_SA hb hc; omega))
      have hac := c_isAcc (n := n) (h := h) (M := M) (R := R) hc hu1 ok o1
      obtain ⟨A2, hA2⟩ : ∃ A2, A2 = ro A1 (b + 5) (up (A1 (b + 5)) q (nI (b2 (gA g (hOf g q))))) := ⟨_, rfl⟩
      have f2 : ∀ r, r ≠ b + 4 → r ≠ b + 5 → A2 r = A r := fun r h1 h2 => by rw [hA2, ro_ne _ _ h2]; exact f1 r h1 h2
      have h35 : ∃ r, g_X7_fillTargets_35 (ca n b) (ca n c0) (nI q) (nI 0) (E n h A2 M R) = some r ∧ ∃ A3, r = .inl (nI (q + 1), E n h A3 M R) ∧ (∀ c, c < 3 → A3 (b + 4) (3 * q + c) = nI (smT g q c)) ∧ (∀ x, x < 3 * q → A3 (b + 4) x = A2 (b + 4) x) ∧ ∀ r, r ≠ b + 4 → A3 r = A2 r := by
        unfold g_X7_fillTargets_35
        refine lp_inv0 (f := b_X7_fillTargets_35 (ca n b) (ca n c0) (nI q)) (fun c s' => ∃ A3, s' = (nI c, E n h A3 M R) ∧ (∀ d, d < c → A3 (b + 4) (3 * q + d) = nI (smT g q d)) ∧ (∀ x, x < 3 * q → A3 (b + 4) x = A2 (b + 4) x) ∧ ∀ r, r ≠ b + 4 → A3 r = A2 r) _ 3 (fun c s' hc3 hJ => ?_) (L := 100000) (by decide) ⟨A2, rfl, fun d hd => absurd hd (Nat.not_lt_zero _), fun _ _ => rfl, fun _ _ => rfl⟩
        obtain ⟨A3, rfl, hm, hm2, f3⟩ := hJ
        unfold b_X7_fillTargets_35 b0_X7_fillTargets_35
        by_cases hc4 : c < 3
        · have f3' : ∀ r, r ≠ b + 4 → r ≠ b + 5 → A3 r = A r := fun r h1 h2 => (f3 r h1).trans (f2 r h1 h2)
          have hu3 : AuF A3 c0 g := AuF_fr hu (fun r h1 h2 => f3' r (by have := apart_SA hb hc; omega) (by have := apart_SA hb hc; omega))
          have hl3 : ClC A3 (b + 1) (gL g) (gLab g) := fun j hj => by rw [f3' _ (by omega) (by omega)]; exact hl j hj
          have hv3 : A3 (b + 3) q = nI (hOf g q) := by rw [f3' _ (by omega) (by omega), ← f1 _ (by omega) (by omega)]; exact hv
          have hst := c_step (n := n) (h := h) (M := M) (R := R) hc hu3 ok o1 hc4
          have hcl := c_clsOf (n := n) (h := h) (M := M) (R := R) hb hl3 hL (gS_lt ok _ c o1 hc4)
          refine Or.inl ⟨(nI (c + 1), E n h (ro A3 (b + 4) (up (A3 (b + 4)) (q * 3 + c) (nI (smT g q c)))) M R), ?_, hc4, _, rfl, fun d hd => ?_, fun x hx => ?_, fun r hr => by rw [ro_ne _ _ hr]; exact f3 r hr⟩
          · simp (disch := omega) only [↓grd_u, ↓bnd_e, ↓orf_u, ↓oif_u, ↓cal_u, ↓calX_u, ↓inrO_u, ↓reduceIte, EM, EMg, EMs, z0, oi, n_inbT, n_cntT, n_ltT, n_ltF, n_leT, n_leF, n_eqT, n_eqF, n_m1T, n_m1F, n_m1F', n_cl, n_add, n_mul, ro_at, ro_ro, up_at, up_up, e1, e2, e3, e4, hv3, hst, hcl]
            rfl
          · rw [ro_at]
            by_cases e : d = c
            · rw [e, show 3 * q + c = q * 3 + c by omega, up_at]
            · rw [up_ne _ _ (by omega)]; exact hm d (by omega)
          · rw [ro_at, up_ne _ _ (by omega)]; exact hm2 x hx
        · have hce : c = 3 := by omega
          subst hce
          refine Or.inr ⟨.inl (nI (q + 1), E n h A3 M R), ?_, A3, rfl, hm, hm2, f3⟩
          simp (disch := omega) only [↓grd_u, ↓bnd_e, ↓orf_u, ↓oif_u, ↓cal_u, ↓calX_u, ↓inrO_u, ↓reduceIte, EM, EMg, EMs, z0, oi, n_inbT, n_cntT, n_ltT, n_ltF, n_leT, n_leF, n_eqT, n_eqF, n_m1T, n_m1F, n_m1F', n_cl, n_add, n_mul, ro_at, ro_ro, up_at, up_up]
      obtain ⟨r, e5, A3, rfl, hm, hm2, f3⟩ := h35
      refine Or.inl ⟨(nI (q + 1), E n h A3 M R), ?_, hq2, A3, rfl, fun p hp => ?_, fun r h1 h2 => (f3 r h1).trans (f2 r h1 h2)⟩
      · have hA2' := hA2.symm
        simp (disch := omega) only [↓grd_u, ↓bnd_e, ↓orf_u, ↓oif_u, ↓cal_u, ↓calX_u, ↓inrO_u, ↓reduceIte, EM, EMg, EMs, z0, oi, n_inbT, n_cntT, n_ltT, n_ltF, n_leT, n_leF, n_eqT, n_eqF, n_m1T, n_m1F, n_m1F', n_cl, n_add, n_mul, ro_at, ro_ro, up_at, up_up, e1, e2, e3, e4, e0, hv, hac, b2n_nar]
        rw [hA2', e5]
      · rw [f3 _ (by omega)]
        by_cases e : p = q
        · rw [e]
          exact ⟨by rw [hA2, ro_at, up_at]; rfl, hm⟩
        · refine ⟨by rw [hA2, ro_at, up_ne _ _ e]; exact (hn p (by omega)).1, fun c hc5 => ?_⟩
          rw [hm2 _ (by omega), hA2, ro_ne _ _ (by omega)]
          exact (hn p (by omega)).2 c hc5
    · have hqe : q = gMc g := by omega
      refine Or.inr ⟨((), E n h A1 M R), ?_, A1, rfl, ⟨e0, fun p hp => (hn p (by omega)).1, fun p hp => (hn p (by omega)).2⟩, fun r hr => f1 r (by omega) (by omega)⟩
      simp (disch := omega) only [↓grd_u, ↓bnd_e, ↓orf_u, ↓oif_u, ↓cal_u, ↓calX_u, ↓inrO_u, ↓reduceIte, EM, EMg, EMs, z0, oi, n_inbT, n_cntT, n_ltT, n_ltF, n_leT, n_leF, n_eqT, n_eqF, n_m1T, n_m1F, n_m1F', n_cl, n_add, n_mul, ro_at, ro_ro, up_at, up_up, e1, e2, e0]
  obtain ⟨r, e, A', rfl, q1, q2⟩ := key
  refine ⟨A', ?_, q1, q2⟩
  unfold f_X7_fillTargets
  rw [oi.1, e]
end CSMALL
