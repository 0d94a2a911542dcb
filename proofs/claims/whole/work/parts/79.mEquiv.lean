/-! values of propositions -/
noncomputable def pv (P : Prop) : Nat := @ite Nat P (Classical.propDecidable P) 1 0
theorem pv_T {P : Prop} (h : P) : pv P = 1 := by unfold pv; exact if_pos h
theorem pv_F {P : Prop} (h : ¬ P) : pv P = 0 := by unfold pv; exact if_neg h
noncomputable def chz (P : Nat → Prop) : Nat := @dite Nat (∃ k, P k) (Classical.propDecidable _) (fun h => h.choose) (fun _ => m1)
theorem chz_u {P : Nat → Prop} {k : Nat} (h : P k) (hu : ∀ j, P j → j = k) : chz P = k := by
  unfold chz
  rw [dif_pos ⟨k, h⟩]
  exact hu _ (Exists.choose_spec _)
theorem chz_no {P : Nat → Prop} (h : ∀ k, ¬ P k) : chz P = m1 := by
  unfold chz
  rw [dif_neg (fun ⟨k, hk⟩ => h k hk)]
noncomputable def chw (P : List Nat → Prop) : List Nat := @dite (List Nat) (∃ k, P k) (Classical.propDecidable _) (fun h => h.choose) (fun _ => [])
theorem chw_u {P : List Nat → Prop} {k : List Nat} (h : P k) (hu : ∀ j, P j → j = k) : chw P = k := by
  unfold chw
  rw [dif_pos ⟨k, h⟩]
  exact hu _ (Exists.choose_spec _)
theorem chw_no {P : List Nat → Prop} (h : ∀ k, ¬ P k) : chw P = [] := by
  unfold chw
  rw [dif_neg (fun ⟨k, hk⟩ => h k hk)]
/-! two automata: the same words -/
def noD (one : Bool) (g g' : Glu) : Prop := ∀ k, ek (nx2 g g') (T2 one g g') k (128, 128) = false
noncomputable def dLen (g g' : Glu) : Nat := chz (isD (nx2 g g') (T2 false g g') (128, 128))
theorem dLen_T {g g' : Glu} {k : Nat} (h : isD (nx2 g g') (T2 false g g') (128, 128) k) : dLen g g' = k := chz_u h (fun j hj => isD_u hj h)
theorem dLen_F {g g' : Glu} (h : noD false g g') : dLen g g' = m1 := chz_no (fun k hk => by
  have h1 := hk.1
  rw [h k] at h1
  cases h1)
theorem rn_nil {α : Type} (nx : α → Nat → α) (q : α) : rn nx q [] = q := rfl
theorem nx2_e (g g' : Glu) (a b c : Nat) : nx2 g g' (a, b) c = (gnext g a c, gnext g' b c) := rfl
theorem gA_e (g : Glu) (j : Nat) : gA g j = gab g (gO g j) := by unfold gA; rfl
theorem T2_e (one : Bool) (g g' : Glu) (a b : Nat) : T2 one g g' (a, b) = tdf one (gab g a) (gab g' b) := rfl
theorem cs_ge1 {S : Nat → Bool} {N x : Nat} (hx : x < N) (hs : S x = true) : 0 + 1 ≤ cs S N := by
  have h1 := cs_mono S (show x + 1 ≤ N from hx)
  have h2 : cs S (x + 1) = cs S x + 1 := by
    show cs S x + _ = _
    rw [if_pos hs]
  omega
section LINK
variable {g g' : Glu} {one : Bool}
theorem rn2_O (ok : GluOK g) (ok' : GluOK g') : ∀ (w : List Nat), le3 w → ∀ i j, i < gL g → j < gL g' → ∃ i' j', i' < gL g ∧ j' < gL g' ∧ rn (nx2 g g') (gO g i, gO g' j) w = (gO g i', gO g' j') ∧ rn (pnx g g') (i * gL g' + j) w = i' * gL g' + j' := fun w => by
  induction w with
  | nil => exact fun _ i j hi hj => ⟨i, j, hi, hj, rfl, rfl⟩
  | cons c w ih =>
    intro hw i j hi hj
    have hc := hw c List.mem_cons_self
    have s1 := gS_ok ok hi hc
    have s2 := gS_ok ok' hj hc
    obtain ⟨i', j', h1, h2, h3, h4⟩ := ih (fun d hd => hw d (List.mem_cons_of_mem _ hd)) _ _ s1.1 s2.1
    refine ⟨i', j', h1, h2, ?_, ?_⟩
    · rw [← h3, s1.2, s2.2]
      unfold rn
      rw [List.foldl_cons, nx2_e]
    · rw [← h4]
      unfold rn
      rw [List.foldl_cons]
      have e : pnx g g' (i * gL g' + j) c = gS g i c * gL g' + gS g' j c := by
        unfold pnx
        rw [(pdiv hj).1, (pdiv hj).2]
      rw [e]
theorem pT_O {i j : Nat} (hj : j < gL g') : pT one g g' (i * gL g' + j) = T2 one g g' (gO g i, gO g' j) := by
  unfold pT
  rw [(pdiv hj).1, (pdiv hj).2, T2_e, gA_e, gA_e]
theorem pT_rn (ok : GluOK g) (ok' : GluOK g') {w : List Nat} (hw : le3 w) : pT one g g' (rn (pnx g g') 0 w) = T2 one g g' (rn (nx2 g g') (128, 128) w) := by
  obtain ⟨i', j', h1, h2, h3, h4⟩ := rn2_O ok ok' w hw 0 0 (gL_pos g) (gL_pos g')
  rw [gO_0, gO_0] at h3
  rw [Nat.zero_mul, Nat.zero_add] at h4
  rw [h3, h4, pT_O h2]
theorem isB_link (ok : GluOK g) (ok' : GluOK g') {w : List Nat} (h : isB (pnx g g') (pT one g g') 0 w) : isB (nx2 g g') (T2 one g g') (128, 128) w := ⟨h.1, by rw [← pT_rn ok ok' h.1]; exact h.2.1, fun v hv ht => h.2.2 v hv (by rw [pT_rn ok ok' hv]; exact ht)⟩
theorem noD_link (ok : GluOK g) (ok' : GluOK g') (h : ∀ k, ek (pnx g g') (pT one g g') k 0 = false) : noD one g g' := fun k => by
  cases z : ek (nx2 g g') (T2 one g g') k (128, 128) with
  | false => rfl
  | true =>
    obtain ⟨w, h1, h2, h3⟩ := ek_w.mp z
    rw [← pT_rn ok ok' h1] at h3
    have := ek_w.mpr ⟨w, h1, h2, h3⟩
    rw [h k] at this
    cases this
theorem isD_noD {k : Nat} (h : isD (nx2 g g') (T2 one g g') (128, 128) k) : ¬ noD one g g' := fun z => by
  have := h.1
  rw [z k] at this
  cases this
end LINK
section MEQUIV
variable {n : Nat} {h : mH} {A M : Nat → Nat → Int32} {R : Nat → Nat → Option Nat} {S : St} {g g' : Glu} {one : Bool}
/-- the sets at a level -/
def LevI (M : Nat → Nat → Int32) (g g' : Glu) (one : Bool) (q : Nat × Nat) (m fl : Nat) : Prop := ∃ Z Y : Nat → Nat → Bool, SetM M 24 Z ∧ SetM M 25 Y ∧ fl ≤ 1 ∧
  (∀ x y, Z x y = true ↔ ∃ w, le3 w ∧ w.length ≤ m ∧ rn (nx2 g g') q w = (x, y)) ∧
  (∀ x y, Y x y = true → Z x y = true ∧ ∃ w, le3 w ∧ w.length = m ∧ rn (nx2 g g') q w = (x, y)) ∧
  (∀ x y, Z x y = true → Y x y = false → T2 one g g' (x, y) = false ∧ ∀ c, c < 3 → Z (gnext g x c) (gnext g' y c) = true) ∧
  (∀ i, i < m → ek (nx2 g g') (T2 one g g') i q = false) ∧ (fl = 0 → ∀ x y, Y x y = false) ∧ (fl = 1 → m + 1 ≤ cs (fun c => Z (c / 129) (c % 129)) 16641)
theorem m_apart67 {i0 j0 : Nat} (ok : GluOK g) (ok' : GluOK g') (tw : TwoM M g g') (hi : i0 < gL g) (hj : j0 < gL g') (hI : LevI M g g' one (gO g i0, gO g' j0) 0 1) :
    ∃ v M', g_X12_apart_67 (ma n 0) (nI (b2 one)) (nI 0) (nI 1) (E n h A M R) = some (v, E n h A M' R) ∧ Fr [24, 25, 26] [] M M' ∧ ((∃ k, v = nI k ∧ k ≤ 20000 ∧ isD (nx2 g g') (T2 one g g') (gO g i0, gO g' j0) k) ∨ (v = Int32.ofInt (-1) ∧ ∀ k, ek (nx2 g g') (T2 one g g') k (gO g i0, gO g' j0) = false)) := by
  obtain ⟨q, hq⟩ : ∃ q, q = (gO g i0, gO g' j0) := ⟨_, rfl⟩
  have hrO : ∀ w, le3 w → ∃ i j, i < gL g ∧ j < gL g' ∧ rn (nx2 g g') q w = (gO g i, gO g' j) := fun w hw => by
    obtain ⟨i, j, h1, h2, h3, -⟩ := rn2_O ok ok' w hw i0 j0 hi hj
    exact ⟨i, j, h1, h2, by rw [hq]; exact h3⟩
  rw [← hq] at hI ⊢
  have key : ∃ r, g_X12_apart_67 (ma n 0) (nI (b2 one)) (nI 0) (nI 1) (E n h A M R) = some r ∧ ∃ v M', r = (v, E n h A M' R) ∧ Fr [24, 25, 26] [] M M' ∧ ((∃ k, v = nI k ∧ k ≤ 20000 ∧ isD (nx2 g g') (T2 one g g') q k) ∨ (v = Int32.ofInt (-1) ∧ ∀ k, ek (nx2 g g') (T2 one g g') k q = false)) := by
    unfold g_X12_apart_67
    refine lp_inv0 (f := b_X12_apart_67 (ma n 0) (nI (b2 one))) (fun m s' => ∃ M1 fl, s' = (nI m, nI fl, E n h A M1 R) ∧ Fr [24, 25, 26] [] M M1 ∧ LevI M1 g g' one q m fl) _ 16642 (fun m s' hm hJ => ?_) (L := 100000) (by decide) ⟨M, 1, rfl, Fr_rf _ _ _, hI⟩
    obtain ⟨M1, fl, rfl, fr1, ⟨Z, Y, s1, s2, fl1, l1, l2, l3, l4, l5, l6⟩⟩ := hJ
    have tw1 := TwoM_fr tw fr1 (by decide)
    unfold b_X12_apart_67 b0_X12_apart_67
    by_cases hfl : fl = 0
    · have hcl : ∀ w, le3 w → Z (rn (nx2 g g') q w).1 (rn (nx2 g g') q w).2 = true := fun w => by
        induction hk : w.length generalizing w with
        | zero =>
          intro hw
          have : w = [] := List.length_eq_zero_iff.mp hk
          subst this
          exact (l1 _ _).mpr ⟨[], hw, Nat.zero_le _, rfl⟩
        | succ k ih =>
          intro hw
          rcases List.eq_nil_or_concat w with e | ⟨v, c, e⟩
          · rw [e] at hk; simp at hk
          · have e : w = v ++ [c] := by rw [e, List.concat_eq_append]
            subst e
            have hv : le3 v := fun d hd => hw d (List.mem_append_left _ hd)
            have hc := hw c (List.mem_append_right _ (List.mem_singleton.mpr rfl))
            rw [List.length_append, List.length_singleton] at hk
            have := ih v (by omega) hv
            rw [rn_snoc]
            exact (l3 _ _ this (l5 hfl _ _)).2 c hc
      refine Or.inr ⟨(Int32.ofInt (-1), E n h A M1 R), ?_, _, M1, rfl, fr1, Or.inr ⟨rfl, fun k => ?_⟩⟩
      · rw [hfl]
        simp (disch := omega) only [↓grd_u, ↓bnd_e, ↓orf_u, ↓oif_u, ↓cal_u, ↓calX_u, ↓inrO_u, ↓reduceIte, EM, EMg, EMs, z0, oi, n_inbT, n_cntT, n_ltT, n_ltF, n_leT, n_leF, n_eqT, n_eqF, n_m1T, n_m1F, n_m1F', n_cl, n_add, n_mul, ro_at, ro_ro, up_at, up_up]
      · cases z : ek (nx2 g g') (T2 one g g') k q with
        | false => rfl
        | true =>
          obtain ⟨w, h1, h2, h3⟩ := ek_w.mp z
          have := (l3 _ _ (hcl w h1) (l5 hfl _ _)).1
          have h4 : T2 one g g' ((rn (nx2 g g') q w).1, (rn (nx2 g g') q w).2) = true := h3
          rw [this] at h4
          cases h4
    · have hf1 : fl = 1 := by omega
      have hcnt := l6 hf1
      have hcn := csn_le (fun c => Z (c / 129) (c % 129)) 16641
      obtain ⟨v, e5, hv⟩ := m_tellsLev (n := n) (h := h) (A := A) (R := R) (one := one) ok ok' tw1 s2
      rcases hv with ⟨rfl, i, j, h1, h2, h3, h4⟩ | ⟨rfl, hno⟩
      · obtain ⟨-, w, w1, w2, w3⟩ := l2 _ _ h3
        refine Or.inr ⟨(nI m, E n h A M1 R), ?_, _, M1, rfl, fr1, Or.inl ⟨m, rfl, by omega, ek_w.mpr ⟨w, w1, w2, by rw [w3]; exact h4⟩, l4⟩⟩
        rw [hf1]
        simp (disch := omega) only [↓grd_u, ↓bnd_e, ↓orf_u, ↓oif_u, ↓cal_u, ↓calX_u, ↓inrO_u, ↓reduceIte, EM, EMg, EMs, z0, oi, n_inbT, n_cntT, n_ltT, n_ltF, n_leT, n_leF, n_eqT, n_eqF, n_m1T, n_m1F, n_m1F', n_cl, n_add, n_mul, ro_at, ro_ro, up_at, up_up, e5]
      · obtain ⟨M2, f2, W, Z1, eg, t1, t2, f21, q1, q2, q3, q4, q5, fr2⟩ := m_goesOn (n := n) (h := h) (A := A) (R := R) ok ok' tw1 s1 s2
        -- every pair seen is found false
        have hTZ : ∀ x y, Z x y = true → T2 one g g' (x, y) = false := fun x y hz => by
          cases yy : Y x y with
          | false => exact (l3 x y hz yy).1
          | true =>
            obtain ⟨w, w1, w2, w3⟩ := (l1 x y).mp hz
            obtain ⟨i, j, h1, h2, h3⟩ := hrO w w1
            rw [w3] at h3
            have ex := congrArg Prod.fst h3
            have ey := congrArg Prod.snd h3
            dsimp only at ex ey
            rw [ex, ey] at yy ⊢
            exact hno i j h1 h2 yy
        have hsucc : ∀ x y c, Z x y = true → c < 3 → Z1 (gnext g x c) (gnext g' y c) = true := fun x y c hz hc => by
          cases yy : Y x y with
          | false => rw [q1, (l3 x y hz yy).2 c hc]; rfl
          | true =>
            obtain ⟨w, w1, w2, w3⟩ := (l1 x y).mp hz
            obtain ⟨i, j, h1, h2, h3⟩ := hrO w w1
            rw [w3] at h3
            have ex := congrArg Prod.fst h3
            have ey := congrArg Prod.snd h3
            dsimp only at ex ey
            rw [ex, ey] at yy ⊢
            exact q3 i j c h1 h2 hc yy
        refine Or.inl ⟨(nI (m + 1), nI f2, E n h A M2 R), ?_, by omega, M2, f2, rfl, Fr_tr fr1 fr2, Z1, W, t1, t2, f21, fun x y => ⟨fun hz => ?_, fun hw => ?_⟩, fun x y hw => ⟨by rw [q1, hw, Bool.or_true], ?_⟩, fun x y hz hw => ?_, fun i hi2 => ?_, q4, fun h1 => ?_⟩
        · rw [hf1]
          simp (disch := omega) only [↓grd_u, ↓bnd_e, ↓orf_u, ↓oif_u, ↓cal_u, ↓calX_u, ↓inrO_u, ↓reduceIte, EM, EMg, EMs, z0, oi, n_inbT, n_cntT, n_ltT, n_ltF, n_leT, n_leF, n_eqT, n_eqF, n_m1T, n_m1F, n_m1F', n_cl, n_add, n_mul, ro_at, ro_ro, up_at, up_up, e5, eg]
        · rw [q1, Bool.or_eq_true] at hz
          rcases hz with hz | hz
          · obtain ⟨w, w1, w2, w3⟩ := (l1 x y).mp hz
            exact ⟨w, w1, by omega, w3⟩
          · obtain ⟨-, -, -, i, j, c, h1, h2, h3, h4, h5, h6⟩ := q2 x y hz
            obtain ⟨-, w, w1, w2, w3⟩ := l2 _ _ h4
            refine ⟨w ++ [c], fun d hd => ?_, by rw [List.length_append, w2]; exact Nat.le_refl _, ?_⟩
            · rcases List.mem_append.mp hd with z | z
              · exact w1 d z
              · rw [List.mem_singleton.mp z]; exact h3
            · rw [rn_snoc, w3, nx2_e, h5, h6]
        · obtain ⟨w, w1, w2, w3⟩ := hw
          by_cases hl : w.length ≤ m
          · rw [q1, (l1 x y).mpr ⟨w, w1, hl, w3⟩]; rfl
          · rcases List.eq_nil_or_concat w with e | ⟨v, c, e⟩
            · rw [e] at hl; exact absurd (Nat.zero_le _) hl
            · have e : w = v ++ [c] := by rw [e, List.concat_eq_append]
              subst e
              have hv : le3 v := fun d hd => w1 d (List.mem_append_left _ hd)
              have hc := w1 c (List.mem_append_right _ (List.mem_singleton.mpr rfl))
              rw [List.length_append, List.length_singleton] at w2
              rw [rn_snoc] at w3
              have hz : Z (rn (nx2 g g') q v).1 (rn (nx2 g g') q v).2 = true := (l1 _ _).mpr ⟨v, hv, by omega, rfl⟩
              have := hsucc _ _ c hz hc
              have ex := congrArg Prod.fst w3
              have ey := congrArg Prod.snd w3
              rw [show x = gnext g (rn (nx2 g g') q v).1 c from ex.symm, show y = gnext g' (rn (nx2 g g') q v).2 c from ey.symm]
              exact this
        · obtain ⟨-, -, -, i, j, c, h1, h2, h3, h4, h5, h6⟩ := q2 x y hw
          obtain ⟨-, w, w1, w2, w3⟩ := l2 _ _ h4
          refine ⟨w ++ [c], fun d hd => ?_, by rw [List.length_append, w2]; rfl, ?_⟩
          · rcases List.mem_append.mp hd with z | z
            · exact w1 d z
            · rw [List.mem_singleton.mp z]; exact h3
          · rw [rn_snoc, w3, nx2_e, h5, h6]
        · rw [q1, hw, Bool.or_false] at hz
          exact ⟨hTZ x y hz, fun c hc => hsucc x y c hz hc⟩
        · by_cases e : i < m
          · exact l4 i e
          · have : i = m := by omega
            subst this
            cases z : ek (nx2 g g') (T2 one g g') i q with
            | false => rfl
            | true =>
              obtain ⟨w, h1, h2, h3⟩ := ek_w.mp z
              have hz : Z (rn (nx2 g g') q w).1 (rn (nx2 g g') q w).2 = true := (l1 _ _).mpr ⟨w, h1, by omega, rfl⟩
              have h4 := hTZ _ _ hz
              have h5 : T2 one g g' ((rn (nx2 g g') q w).1, (rn (nx2 g g') q w).2) = true := h3
              rw [h4] at h5
              cases h5
        · obtain ⟨x, y, hw⟩ := q5 h1
          obtain ⟨hz, lx, ly, -⟩ := q2 x y hw
          have hc : (x * 129 + y) / 129 = x ∧ (x * 129 + y) % 129 = y := by omega
          have := cs_lt (S := fun c => Z (c / 129) (c % 129)) (S' := fun c => Z1 (c / 129) (c % 129)) (n := 16641) (fun c _ hcz => by
            show Z1 _ _ = true
            rw [q1, show Z (c / 129) (c % 129) = true from hcz]
            rfl) ⟨x * 129 + y, by omega, by
            show Z ((x * 129 + y) / 129) ((x * 129 + y) % 129) = false
            rw [hc.1, hc.2]; exact hz, by
            show Z1 ((x * 129 + y) / 129) ((x * 129 + y) % 129) = true
            rw [hc.1, hc.2, q1, hw, Bool.or_true]⟩
          omega
  obtain ⟨r, e, v, M', rfl, hv⟩ := key
  exact ⟨v, M', e, hv⟩
theorem m_apart0 {a b : Nat} {x : Int32 × mH} {M1 M2 : Nat → Nat → Int32} (ha : a < 129) (hb : b < 129) (hM1 : M1 = ro (ro M 24 (pre 645 (fun _ => nI 0) (M 24))) 25 (pre 645 (fun _ => nI 0) (M 25))) (hM2 : M2 = ro (ro M1 24 (up (M1 24) (5 * a + b / 30) (nI (2 ^ (b % 30))))) 25 (up (M1 25) (5 * a + b / 30) (nI (2 ^ (b % 30))))) (e : g_X12_apart_67 (ma n 0) (nI (b2 one)) (nI 0) (nI 1) (E n h A M2 R) = some x) : f_X12_apart (ma n 0) (nI a) (nI b) (nI (b2 one)) (E n h A M R) = some x := by
  have e2 : b_X12_apart_3 (ma n 0) (nI a) (nI b) (nI (b2 one)) (nI 645, E n h A M1 R) = some (.inr x) := by
    have hr := fun z => m_row (a := a) (b := b) (x := z) ha hb
    have hbb := fun z => m_bit (b := b) (x := z) hb
    obtain ⟨q, hq⟩ : ∃ q, q = 5 * a + b / 30 := ⟨_, rfl⟩
    obtain ⟨z, hz⟩ : ∃ z, z = 2 ^ (b % 30) := ⟨_, rfl⟩
    have hql : q < 645 := by omega
    rw [← hq] at hr hM2
    rw [← hz] at hbb hM2
    have e' := e
    rw [hM2] at e'
    unfold b_X12_apart_3 b0_X12_apart_3
    have hrem : nI b - nI (b / 30 * 30) = nI (b % 30) := by rw [n_sub (by omega), show b - b / 30 * 30 = b % 30 by omega]
    have hshl : nI 1 <<< (nI (b % 30) &&& 31) = nI z := by rw [hz]; exact n_shl1 _ (by omega)
    have hq' : 5 * a + b / 30 = q := hq.symm
    clear hr hbb
    unfold f_X12_row f_X12_bit
    simp (disch := omega) only [↓grd_u, ↓bnd_e, ↓orf_u, ↓oif_u, ↓cal_u, ↓calX_u, ↓inrO_u, ↓reduceIte, EM, EMg, EMs, z0, oi, n_inbT, n_cntT, n_ltT, n_ltF, n_leT, n_leF, n_eqT, n_eqF, n_m1T, n_m1F, n_m1F', n_cl, n_add, n_mul, ro_at, ro_ro, up_at, up_up, ro_ne, n_div, hrem, hshl, hq', e']
  rw [hM1] at e2
  unfold f_X12_apart g_X12_apart_3
  rw [oi.1]
  have hl := lp_for0 (f := b_X12_apart_3 (ma n 0) (nI a) (nI b) (nI (b2 one))) (fun k => (nI k, E n h A (ro (ro M 24 (pre k (fun _ => nI 0) (M 24))) 25 (pre k (fun _ => nI 0) (M 25))) R)) 645 x (fun k hk => ?_) ?_ (L := 100000) (by decide)
  · simp only [pre_0, ro_self] at hl
    exact hl
  · have u1 := up_pre k (fun _ => nI 0) (M 24)
    have u2 := up_pre k (fun _ => nI 0) (M 25)
    unfold b_X12_apart_3 b0_X12_apart_3
    simp (disch := omega) only [↓grd_u, ↓bnd_e, ↓orf_u, ↓oif_u, ↓cal_u, ↓calX_u, ↓inrO_u, ↓reduceIte, EM, EMg, EMs, z0, oi, n_inbT, n_cntT, n_ltT, n_ltF, n_leT, n_leF, n_eqT, n_eqF, n_m1T, n_m1F, n_m1F', n_cl, n_add, n_mul, ro_at, ro_ro, up_at, up_up, ro_ne, up_ne, ro_sw, u1, u2]
  · exact e2
theorem m_apart {i0 j0 : Nat} (ok : GluOK g) (ok' : GluOK g') (tw : TwoM M g g') (hi : i0 < gL g) (hj : j0 < gL g') :
    ∃ v M', f_X12_apart (ma n 0) (nI (gO g i0)) (nI (gO g' j0)) (nI (b2 one)) (E n h A M R) = some (v, E n h A M' R) ∧ Fr [24, 25, 26] [] M M' ∧ ((∃ k, v = nI k ∧ k ≤ 20000 ∧ isD (nx2 g g') (T2 one g g') (gO g i0, gO g' j0) k) ∨ (v = Int32.ofInt (-1) ∧ ∀ k, ek (nx2 g g') (T2 one g g') k (gO g i0, gO g' j0) = false)) := by
  have li := gO_lt ok i0
  have lj := gO_lt ok' j0
  obtain ⟨a, ha⟩ : ∃ a, a = gO g i0 := ⟨_, rfl⟩
  obtain ⟨b, hb⟩ : ∃ b, b = gO g' j0 := ⟨_, rfl⟩
  obtain ⟨M1, hM1⟩ : ∃ M1, M1 = ro (ro M 24 (pre 645 (fun _ => nI 0) (M 24))) 25 (pre 645 (fun _ => nI 0) (M 25)) := ⟨_, rfl⟩
  obtain ⟨M2, hM2⟩ : ∃ M2, M2 = ro (ro M1 24 (up (M1 24) (5 * a + b / 30) (nI (2 ^ (b % 30))))) 25 (up (M1 25) (5 * a + b / 30) (nI (2 ^ (b % 30)))) := ⟨_, rfl⟩
  have f2 : Fr [24, 25, 26] [] M M2 := by
    rw [hM2, hM1]
    refine ⟨fun r h0 hr => ?_, fun q hq => ?_⟩
    · simp only [List.mem_cons, List.not_mem_nil, or_false, not_or] at hr
      rw [ro_ne _ _ hr.2.1, ro_ne _ _ hr.1, ro_ne _ _ hr.2.1, ro_ne _ _ hr.1]
    · rw [ro_ne _ _ (by decide), ro_ne _ _ (by decide), ro_ne _ _ (by decide), ro_ne _ _ (by decide)]
  have z1 : SetM M1 24 (fun _ _ => false) := SetM_emp (fun q hq => by rw [hM1, ro_ne _ _ (by decide), ro_at, pre_lt _ _ hq])
  have z2 : SetM M1 25 (fun _ _ => false) := SetM_emp (fun q hq => by rw [hM1, ro_at, pre_lt _ _ hq])
  have w1 := SetM_set (v := 0) z1 (a := a) (b := b) (by omega) (by omega) (by rw [hM1, ro_ne _ _ (by decide), ro_at, pre_lt _ _ (by omega)]) (by decide)
  have w2 := SetM_set (v := 0) z2 (a := a) (b := b) (by omega) (by omega) (by rw [hM1, ro_at, pre_lt _ _ (by omega)]) (by decide)
  rw [Nat.zero_or] at w1 w2
  have s1 : SetM M2 24 (setZ (fun _ _ => false) a b) := SetM_fr w1 (by rw [hM2, ro_ne _ _ (by decide), ro_at])
  have s2 : SetM M2 25 (setZ (fun _ _ => false) a b) := SetM_fr w2 (by rw [hM2, ro_at, ro_at])
  have hset : ∀ x y, setZ (fun _ _ => false) a b x y = true ↔ x = a ∧ y = b := fun x y => by unfold setZ; simp
  have lev : LevI M2 g g' one (gO g i0, gO g' j0) 0 1 := by
    refine ⟨_, _, s1, s2, Nat.le_refl _, fun x y => ?_, fun x y hy => ⟨hy, [], fun c hc => absurd hc (by simp), rfl, ?_⟩, fun x y hz hy => ?_, fun i hi3 => absurd hi3 (Nat.not_lt_zero _), fun h0 => absurd h0 (by decide), fun _ => ?_⟩
    · rw [hset]
      constructor
      · rintro ⟨rfl, rfl⟩
        exact ⟨[], fun c hc => absurd hc (by simp), Nat.le_refl _, by rw [ha, hb, rn_nil]⟩
      · rintro ⟨w, -, hl, e⟩
        have : w = [] := List.length_eq_zero_iff.mp (by omega)
        subst this
        rw [rn_nil] at e
        obtain ⟨e1, e2⟩ := Prod.mk.inj e
        exact ⟨by rw [ha, e1], by rw [hb, e2]⟩
    · rw [hset] at hy
      rw [hy.1, hy.2, ha, hb, rn_nil]
    · rw [hz] at hy
      cases hy
    · exact cs_ge1 (S := fun c => setZ (fun _ _ => false) a b (c / 129) (c % 129)) (N := 16641) (x := a * 129 + b) (by omega) ((hset _ _).mpr (by omega))
  obtain ⟨v, M', e, fr, hv⟩ := m_apart67 (n := n) (h := h) (A := A) (R := R) ok ok' (TwoM_fr tw f2 (by decide)) hi hj lev
  refine ⟨v, M', ?_, Fr_tr f2 fr, hv⟩
  have h0 := m_apart0 (one := one) (a := a) (b := b) (by omega) (by omega) hM1 hM2 e
  rw [ha, hb] at h0
  exact h0
/-- two slots: built, followed -/
theorem m_two {a b : Nat} (hi : IM M S) (hg : GoodS S) (ha : a < 6) (hb : b < 6) (pa : lP (sCur S) a ≠ []) (pb : lP (sCur S) b ≠ []) : ∃ v M', f_X12_apartSlots (ma n 0) (nI a) (nI b) (nI (b2 one)) (E n h A M R) = some (v, E n h A M' R) ∧ IM M' S ∧ M' 0 0 = M 0 0 ∧ TwoM M' (gluOf (lP (sCur S) a)) (gluOf (lP (sCur S) b)) ∧ ((∃ k, v = nI k ∧ k ≤ 20000 ∧ isD (nx2 (gluOf (lP (sCur S) a)) (gluOf (lP (sCur S) b))) (T2 one (gluOf (lP (sCur S) a)) (gluOf (lP (sCur S) b))) (128, 128) k) ∨ (v = Int32.ofInt (-1) ∧ noD one (gluOf (lP (sCur S) a)) (gluOf (lP (sCur S) b)))) := by
  have ok := good_glu hg ha pa
  have ok' := good_glu hg hb pb
  obtain ⟨M1, e1, a1, f1⟩ := m_builds (n := n) (h := h) (A := A) (M := M) (R := R) (S := S) (sd := 0) (by decide) ha hi.1 hg pa
  have i1 : IM M1 S := IM_fr hi f1.1 (by decide) (by decide)
  obtain ⟨M2, e2, a2, f2⟩ := m_builds (n := n) (h := h) (A := A) (M := M1) (R := R) (S := S) (sd := 1) (by decide) hb i1.1 hg pb
  have i2 : IM M2 S := IM_fr i1 f2.1 (by decide) (by decide)
  have a12 := AutM_fr a1 f2 (by decide) (by decide) (by decide)
  obtain ⟨M3, e3, r3, f3, ra3⟩ := m_reaches (n := n) (h := h) (A := A) (R := R) (by decide : 0 < 2) ok a12
  have i3 : IM M3 S := IM_fr i2 f3.1 (by decide) (by decide)
  have a13 := AutM_R a12 f3
  have a23 := AutM_R a2 f3
  obtain ⟨M4, e4, r4, f4, ra4⟩ := m_reaches (n := n) (h := h) (A := A) (R := R) (by decide : 1 < 2) ok' a23
  have i4 : IM M4 S := IM_fr i3 f4.1 (by decide) (by decide)
  have hL := gL_le ok
  have tw : TwoM M4 (gluOf (lP (sCur S) a)) (gluOf (lP (sCur S) b)) := by
    refine ⟨AutM_R a13 f4, AutM_R a23 f4, by rw [f4.2.2 0 (by decide)]; exact ra3, ra4, fun j hj => ?_, fun j hj => ?_⟩
    · rw [(f4.2.1 j (Or.inl (by omega))).1]
      have := r3.2.1 j hj
      rwa [show 129 * 0 + j = j by omega] at this
    · have := r4.2.1 j hj
      rwa [show 129 * 1 + j = 129 + j by omega] at this
  obtain ⟨v, M5, e5, f5, hv⟩ := m_apart (n := n) (h := h) (A := A) (R := R) (one := one) ok ok' tw (gL_pos _) (gL_pos _)
  rw [gO_0, gO_0] at e5 hv
  refine ⟨v, M5, ?_, IM_fr i4 f5 (by decide) (by decide), by rw [f5.2 _ (by decide), f4.1.2 _ (by decide), f3.1.2 _ (by decide), f2.1.2 _ (by decide), f1.1.2 _ (by decide)], TwoM_fr tw f5 (by decide), hv⟩
  unfold f_X12_apartSlots
  simp (disch := omega) only [↓grd_u, ↓bnd_e, ↓orf_u, ↓oif_u, ↓cal_u, ↓calX_u, ↓inrO_u, ↓reduceIte, EM, EMg, EMs, z0, oi, n_inbT, n_cntT, n_ltT, n_ltF, n_leT, n_leF, n_eqT, n_eqF, n_m1T, n_m1F, n_m1F', n_cl, n_add, n_mul, ro_at, ro_ro, up_at, up_up, e1]
  simp (disch := omega) only [↓grd_u, ↓bnd_e, ↓orf_u, ↓oif_u, ↓cal_u, ↓calX_u, ↓inrO_u, ↓reduceIte, EM, EMg, EMs, z0, oi, n_inbT, n_cntT, n_ltT, n_ltF, n_leT, n_leF, n_eqT, n_eqF, n_m1T, n_m1F, n_m1F', n_cl, n_add, n_mul, ro_at, ro_ro, up_at, up_up, e2]
  simp (disch := omega) only [↓grd_u, ↓bnd_e, ↓orf_u, ↓oif_u, ↓cal_u, ↓calX_u, ↓inrO_u, ↓reduceIte, EM, EMg, EMs, z0, oi, n_inbT, n_cntT, n_ltT, n_ltF, n_leT, n_leF, n_eqT, n_eqF, n_m1T, n_m1F, n_m1F', n_cl, n_add, n_mul, ro_at, ro_ro, up_at, up_up, e3]
  simp (disch := omega) only [↓grd_u, ↓bnd_e, ↓orf_u, ↓oif_u, ↓cal_u, ↓calX_u, ↓inrO_u, ↓reduceIte, EM, EMg, EMs, z0, oi, n_inbT, n_cntT, n_ltT, n_ltF, n_leT, n_leF, n_eqT, n_eqF, n_m1T, n_m1F, n_m1F', n_cl, n_add, n_mul, ro_at, ro_ro, up_at, up_up, e4]
  simp (disch := omega) only [↓grd_u, ↓bnd_e, ↓orf_u, ↓oif_u, ↓cal_u, ↓calX_u, ↓inrO_u, ↓reduceIte, EM, EMg, EMs, z0, oi, n_inbT, n_cntT, n_ltT, n_ltF, n_leT, n_leF, n_eqT, n_eqF, n_m1T, n_m1F, n_m1F', n_cl, n_add, n_mul, ro_at, ro_ro, up_at, up_up, e5]
noncomputable def aTwoP (S : St) (v w : Int32) (f : Glu → Glu → Nat) : Nat × Nat × St := match patN S v, patN S w with
  | some a, some b => (0, f (gluOf (lP (sCur S) a)) (gluOf (lP (sCur S) b)), S)
  | _, _ => (1, 0, S)
theorem m_notX {v w : Int32} (hi : IM M S) (hg : GoodS S) (hx : (patN S v = none) ∨ (patN S w = none)) : ∃ M', f_X12_areNot (ma n 0) v w (E n h A M R) = some (nI 1, E n h A M' R) ∧ IM M' S ∧ M' 0 0 = nI 1 := by
  have h0 : IM (ro M 0 (up (M 0) 0 (nI 0))) S := IM_thrown hi
  obtain ⟨M', e, i, t⟩ := m_failed (n := n) (h := h) (A := A) (R := R) (k := 1) h0
  refine ⟨M', ?_, i, t⟩
  unfold f_X12_areNot g_X12_areNot_21 g_X12_areNot_34
  rcases pat_cases S v with ⟨s, hs, rfl, hp, e1⟩ | ⟨e1, hc⟩
  · rcases pat_cases S w with ⟨s2, hs2, rfl, hp2, e2⟩ | ⟨e2, hc2⟩
    · rw [e1, e2] at hx
      rcases hx with z | z <;> cases z
    · have hh := m_holdsX (n := n) (h := h) (A := A) (R := R) h0 e2 hc2
      simp (disch := omega) only [↓grd_u, ↓bnd_e, ↓orf_u, ↓oif_u, ↓cal_u, ↓calX_u, ↓inrO_u, ↓reduceIte, EM, EMg, EMs, z0, oi, n_inbT, n_cntT, n_ltT, n_ltF, n_leT, n_leF, n_eqT, n_eqF, n_m1T, n_m1F, n_m1F', n_cl, n_add, n_mul, ro_at, ro_ro, up_at, up_up, holdsT h0 hg hs hp, hh]
      simp (disch := omega) only [↓grd_u, ↓bnd_e, ↓orf_u, ↓oif_u, ↓cal_u, ↓calX_u, ↓inrO_u, ↓reduceIte, EM, EMg, EMs, z0, oi, n_inbT, n_cntT, n_ltT, n_ltF, n_leT, n_leF, n_eqT, n_eqF, n_m1T, n_m1F, n_m1F', n_cl, n_add, n_mul, ro_at, ro_ro, up_at, up_up, e, nz1]
  · have hh := m_holdsX (n := n) (h := h) (A := A) (R := R) h0 e1 hc
    simp (disch := omega) only [↓grd_u, ↓bnd_e, ↓orf_u, ↓oif_u, ↓cal_u, ↓calX_u, ↓inrO_u, ↓reduceIte, EM, EMg, EMs, z0, oi, n_inbT, n_cntT, n_ltT, n_ltF, n_leT, n_leF, n_eqT, n_eqF, n_m1T, n_m1F, n_m1F', n_cl, n_add, n_mul, ro_at, ro_ro, up_at, up_up, hh]
    simp (disch := omega) only [↓grd_u, ↓bnd_e, ↓orf_u, ↓oif_u, ↓cal_u, ↓calX_u, ↓inrO_u, ↓reduceIte, EM, EMg, EMs, z0, oi, n_inbT, n_cntT, n_ltT, n_ltF, n_leT, n_leF, n_eqT, n_eqF, n_m1T, n_m1F, n_m1F', n_cl, n_add, n_mul, ro_at, ro_ro, up_at, up_up, e, nz1]
theorem m_not0 {a b : Nat} (hi : IM M S) (hg : GoodS S) (ha : a < 6) (hb : b < 6) (pa : lP (sCur S) a ≠ []) (pb : lP (sCur S) b ≠ []) : f_X12_areNot (ma n 0) (nI a) (nI b) (E n h A M R) = some (nI 0, E n h A (ro M 0 (up (M 0) 0 (nI 0))) R) := by
  have h0 : IM (ro M 0 (up (M 0) 0 (nI 0))) S := IM_thrown hi
  unfold f_X12_areNot g_X12_areNot_33 g_X12_areNot_34
  simp (disch := omega) only [↓grd_u, ↓bnd_e, ↓orf_u, ↓oif_u, ↓cal_u, ↓calX_u, ↓inrO_u, ↓reduceIte, EM, EMg, EMs, z0, oi, n_inbT, n_cntT, n_ltT, n_ltF, n_leT, n_leF, n_eqT, n_eqF, n_m1T, n_m1F, n_m1F', n_cl, n_add, n_mul, ro_at, ro_ro, up_at, up_up, holdsT h0 hg ha pa, holdsT h0 hg hb pb, nz0]
theorem two_cases (S : St) (v w : Int32) : (∃ a b, a < 6 ∧ b < 6 ∧ v = nI a ∧ w = nI b ∧ lP (sCur S) a ≠ [] ∧ lP (sCur S) b ≠ [] ∧ patN S v = some a ∧ patN S w = some b) ∨ ((patN S v = none) ∨ (patN S w = none)) := by
  rcases pat_cases S v with ⟨s, hs, hv, hp, e1⟩ | ⟨e1, -⟩
  · rcases pat_cases S w with ⟨s2, hs2, hw, hp2, e2⟩ | ⟨e2, -⟩
    · exact Or.inl ⟨s, s2, hs, hs2, hv, hw, hp, hp2, e1, e2⟩
    · exact Or.inr (Or.inr e2)
  · exact Or.inr (Or.inl e1)
theorem aTwoP_X {v w : Int32} {f : Glu → Glu → Nat} (hx : (patN S v = none) ∨ (patN S w = none)) : aTwoP S v w f = (1, 0, S) := by
  unfold aTwoP
  rcases hx with z | z
  · rw [z]
  · rw [z]
    cases patN S v <;> rfl
theorem m_areEquivalent {v w : Int32} (hi : IM M S) (hg : GoodS S) : MA n h A R (f_X12_areEquivalent (ma n 0) v w (E n h A M R)) (aTwoP S v w (fun g g' => pv (noD false g g'))) := by
  unfold f_X12_areEquivalent g_X12_areEquivalent_26
  rcases two_cases S v w with ⟨a, b, ha, hb, rfl, rfl, pa, pb, ea, eb⟩ | hx
  · have h0 : IM (ro M 0 (up (M 0) 0 (nI 0))) S := IM_thrown hi
    obtain ⟨x, M', e, i, t, -, hv⟩ := m_two (n := n) (h := h) (A := A) (R := R) (one := false) h0 hg ha hb pa pb
    have e : f_X12_apartSlots (ma n 0) (nI a) (nI b) (nI 0) (E n h A (ro M 0 (up (M 0) 0 (nI 0))) R) = some (x, E n h A M' R) := e
    unfold aTwoP
    rw [ea, eb]
    have hn := m_not0 (n := n) (h := h) (A := A) (R := R) hi hg ha hb pa pb
    refine ⟨M', ?_, i, by rw [t, ro_at, up_at]⟩
    rcases hv with ⟨k, rfl, hk, hd⟩ | ⟨rfl, hd⟩
    · simp (disch := omega) only [↓grd_u, ↓bnd_e, ↓orf_u, ↓oif_u, ↓cal_u, ↓calX_u, ↓inrO_u, ↓reduceIte, EM, EMg, EMs, z0, oi, n_inbT, n_cntT, n_ltT, n_ltF, n_leT, n_leF, n_eqT, n_eqF, n_m1T, n_m1F, n_m1F', n_cl, n_add, n_mul, ro_at, ro_ro, up_at, up_up, hn, e, nz0, pv_F (isD_noD hd)]
    · simp (disch := omega) only [↓grd_u, ↓bnd_e, ↓orf_u, ↓oif_u, ↓cal_u, ↓calX_u, ↓inrO_u, ↓reduceIte, EM, EMg, EMs, z0, oi, n_inbT, n_cntT, n_ltT, n_ltF, n_leT, n_leF, n_eqT, n_eqF, n_m1T, n_m1F, n_m1F', n_cl, n_add, n_mul, ro_at, ro_ro, up_at, up_up, hn, e, ng0, nz1, pv_T hd]
  · rw [aTwoP_X hx]
    obtain ⟨M', e, i, t⟩ := m_notX (n := n) (h := h) (A := A) (R := R) hi hg hx
    refine ⟨M', ?_, i, t⟩
    simp (disch := omega) only [↓grd_u, ↓bnd_e, ↓orf_u, ↓oif_u, ↓cal_u, ↓calX_u, ↓inrO_u, ↓reduceIte, EM, EMg, EMs, z0, oi, n_inbT, n_cntT, n_ltT, n_ltF, n_leT, n_leF, n_eqT, n_eqF, n_m1T, n_m1F, n_m1F', n_cl, n_add, n_mul, ro_at, ro_ro, up_at, up_up, e]
theorem pv_le (P : Prop) : pv P ≤ 1 := by
  by_cases h : P
  · rw [pv_T h]; exact Nat.le_refl _
  · rw [pv_F h]; exact Nat.zero_le _
theorem m_areEquivS {v w : Int32} (hi : IM M S) (hg : GoodS S) : MA n h A R (f_X12_areEquivalentBySmallest (ma n 0) v w (E n h A M R)) (aTwoP S v w (fun g g' => pv (noD false g g'))) := by
  obtain ⟨M', e, i, t⟩ := m_areEquivalent (n := n) (h := h) (A := A) (R := R) (v := v) (w := w) hi hg
  have hle : (aTwoP S v w (fun g g' => pv (noD false g g'))).2.1 ≤ 1 := by
    unfold aTwoP
    split
    · exact pv_le _
    · exact Nat.zero_le _
  have hn : (vp_nar .boolean (nI (aTwoP S v w (fun g g' => pv (noD false g g'))).2.1) = nI (aTwoP S v w (fun g g' => pv (noD false g g'))).2.1) = True := eq_true (n_nar01 hle)
  refine ⟨M', ?_, i, t⟩
  unfold f_X12_areEquivalentBySmallest
  simp (disch := omega) only [↓grd_u, ↓bnd_e, ↓orf_u, ↓oif_u, ↓cal_u, ↓calX_u, ↓inrO_u, ↓reduceIte, EM, EMg, EMs, z0, oi, n_inbT, n_cntT, n_ltT, n_ltF, n_leT, n_leF, n_eqT, n_eqF, n_m1T, n_m1F, n_m1F', n_cl, n_add, n_mul, ro_at, ro_ro, up_at, up_up, e, hn]
theorem m_isIncluded {v w : Int32} (hi : IM M S) (hg : GoodS S) : MA n h A R (f_X12_isIncluded (ma n 0) v w (E n h A M R)) (aTwoP S v w (fun g g' => pv (noD true g g'))) := by
  unfold f_X12_isIncluded g_X12_isIncluded_26
  rcases two_cases S v w with ⟨a, b, ha, hb, rfl, rfl, pa, pb, ea, eb⟩ | hx
  · have h0 : IM (ro M 0 (up (M 0) 0 (nI 0))) S := IM_thrown hi
    obtain ⟨x, M', e, i, t, -, hv⟩ := m_two (n := n) (h := h) (A := A) (R := R) (one := true) h0 hg ha hb pa pb
    have e : f_X12_apartSlots (ma n 0) (nI a) (nI b) (nI 1) (E n h A (ro M 0 (up (M 0) 0 (nI 0))) R) = some (x, E n h A M' R) := e
    unfold aTwoP
    rw [ea, eb]
    have hn := m_not0 (n := n) (h := h) (A := A) (R := R) hi hg ha hb pa pb
    refine ⟨M', ?_, i, by rw [t, ro_at, up_at]⟩
    rcases hv with ⟨k, rfl, hk, hd⟩ | ⟨rfl, hd⟩
    · simp (disch := omega) only [↓grd_u, ↓bnd_e, ↓orf_u, ↓oif_u, ↓cal_u, ↓calX_u, ↓inrO_u, ↓reduceIte, EM, EMg, EMs, z0, oi, n_inbT, n_cntT, n_ltT, n_ltF, n_leT, n_leF, n_eqT, n_eqF, n_m1T, n_m1F, n_m1F', n_cl, n_add, n_mul, ro_at, ro_ro, up_at, up_up, hn, e, nz0, pv_F (isD_noD hd)]
    · simp (disch := omega) only [↓grd_u, ↓bnd_e, ↓orf_u, ↓oif_u, ↓cal_u, ↓calX_u, ↓inrO_u, ↓reduceIte, EM, EMg, EMs, z0, oi, n_inbT, n_cntT, n_ltT, n_ltF, n_leT, n_leF, n_eqT, n_eqF, n_m1T, n_m1F, n_m1F', n_cl, n_add, n_mul, ro_at, ro_ro, up_at, up_up, hn, e, ng0, nz1, pv_T hd]
  · rw [aTwoP_X hx]
    obtain ⟨M', e, i, t⟩ := m_notX (n := n) (h := h) (A := A) (R := R) hi hg hx
    refine ⟨M', ?_, i, t⟩
    simp (disch := omega) only [↓grd_u, ↓bnd_e, ↓orf_u, ↓oif_u, ↓cal_u, ↓calX_u, ↓inrO_u, ↓reduceIte, EM, EMg, EMs, z0, oi, n_inbT, n_cntT, n_ltT, n_ltF, n_leT, n_leF, n_eqT, n_eqF, n_m1T, n_m1F, n_m1F', n_cl, n_add, n_mul, ro_at, ro_ro, up_at, up_up, e]
theorem m_differenceLength {v w : Int32} (hi : IM M S) (hg : GoodS S) : MA n h A R (f_X12_differenceLength (ma n 0) v w (E n h A M R)) (aTwoP S v w dLen) := by
  unfold f_X12_differenceLength
  rcases two_cases S v w with ⟨a, b, ha, hb, rfl, rfl, pa, pb, ea, eb⟩ | hx
  · have h0 : IM (ro M 0 (up (M 0) 0 (nI 0))) S := IM_thrown hi
    obtain ⟨x, M', e, i, t, -, hv⟩ := m_two (n := n) (h := h) (A := A) (R := R) (one := false) h0 hg ha hb pa pb
    have e : f_X12_apartSlots (ma n 0) (nI a) (nI b) (nI 0) (E n h A (ro M 0 (up (M 0) 0 (nI 0))) R) = some (x, E n h A M' R) := e
    unfold aTwoP
    rw [ea, eb]
    have hn := m_not0 (n := n) (h := h) (A := A) (R := R) hi hg ha hb pa pb
    refine ⟨M', ?_, i, by rw [t, ro_at, up_at]⟩
    rcases hv with ⟨k, rfl, hk, hd⟩ | ⟨rfl, hd⟩
    · simp (disch := omega) only [↓grd_u, ↓bnd_e, ↓orf_u, ↓oif_u, ↓cal_u, ↓calX_u, ↓inrO_u, ↓reduceIte, EM, EMg, EMs, z0, oi, n_inbT, n_cntT, n_ltT, n_ltF, n_leT, n_leF, n_eqT, n_eqF, n_m1T, n_m1F, n_m1F', n_cl, n_add, n_mul, ro_at, ro_ro, up_at, up_up, hn, e, dLen_T hd]
    · simp (disch := omega) only [↓grd_u, ↓bnd_e, ↓orf_u, ↓oif_u, ↓cal_u, ↓calX_u, ↓inrO_u, ↓reduceIte, EM, EMg, EMs, z0, oi, n_inbT, n_cntT, n_ltT, n_ltF, n_leT, n_leF, n_eqT, n_eqF, n_m1T, n_m1F, n_m1F', n_cl, n_add, n_mul, ro_at, ro_ro, up_at, up_up, hn, e, dLen_F hd, m1_I]
  · rw [aTwoP_X hx]
    obtain ⟨M', e, i, t⟩ := m_notX (n := n) (h := h) (A := A) (R := R) hi hg hx
    refine ⟨M', ?_, i, t⟩
    simp (disch := omega) only [↓grd_u, ↓bnd_e, ↓orf_u, ↓oif_u, ↓cal_u, ↓calX_u, ↓inrO_u, ↓reduceIte, EM, EMg, EMs, z0, oi, n_inbT, n_cntT, n_ltT, n_ltF, n_leT, n_leF, n_eqT, n_eqF, n_m1T, n_m1F, n_m1F', n_cl, n_add, n_mul, ro_at, ro_ro, up_at, up_up, e]
end MEQUIV
