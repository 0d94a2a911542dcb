/-! the reference: a command is read -/
def itk (k : Nat) : List Nat := kwd k ++ rst1 k
def srt (k : Nat) : Nat := [115, 111, 116, 114, 100, 119, 99].getD k 0
section MCMDB
variable {n : Nat} {h : mH} {A M : Nat → Nat → Int32} {R : Nat → Nat → Option Nat} {S : St} {T : List Nat} {i : Nat} {f g G F : mH → Option (Int32 × mH)} {l l1 l2 : List Nat} {v : Int32}
def FrC (M M' : Nat → Nat → Int32) : Prop := Fr [5, 7, 33, 8] [9, 16, 12, 17, 48, 19] M M'
def CMD (M' : Nat → Nat → Int32) (T : List Nat) (i : Nat) : Prop := M' 0 48 = nI (srt (ksel T i)) ∧ (∀ t, t < (itk (ksel T i)).length → 200 ≤ (itk (ksel T i)).getD t 0 → M' 33 ((itk (ksel T i)).getD t 0 - 200) = nI (T.getD (i + t) 0 - 48)) ∧ (ksel T i = 0 → Blt M' (rdE (pR T (i + 6)).2)) ∧ (ksel T i = 5 → M' 0 19 = nI (lrn (T.drop (i + 5))) ∧ ∀ j, j < lrn (T.drop (i + 5)) → M' 8 j = nI (T.getD (i + 5 + j) 0 - 97))
theorem grd_w {α : Type} {p : Prop} [Decidable p] {x : Option α} (h : p) : grd p x = x := if_pos h
theorem cal_w {ρ β : Type} {x : Option (ρ × mH)} {f : ρ → mH → Option β} {a : ρ} {h : mH} (e : x = some (a, h)) : cal x f = f a h := by
  rw [e]
  rfl
theorem bnd_w {α β : Type} (a : α) (f : α → Option β) : bnd a f = f a := rfl
theorem k17 : kd (E n h A M R) (ma n 0) = 17 := by
  rw [kd_M (by decide)]
  rfl
theorem cmR_1 (ek : ∀ c l, itk (ksel T i) = c :: l → mtc c (T.getD i 0)) {c : Nat} {l : List Nat} (hi : itk (ksel T i) = c :: l) : cmR T i = cmK T (ksel T i) (sq T l (i + 1)) := by
  unfold cmR
  rw [show kwd (ksel T i) ++ rst1 (ksel T i) = c :: l from hi]
  have e : sq T (c :: l) i = sq T l (i + 1) := if_pos (ek c l hi)
  rw [e]
/-- a chain behind the first letter -/
theorem cmd_fin {BR : mH → Option (Int32 × mH)} {k c0 : Nat} {M2 : Nat → Nat → Int32} (key : RDt n h A R T BR l ret1) (ek : ksel T i = k) (h0 : k ≠ 0) (h5 : k ≠ 5) (hit : itk k = c0 :: l) (hc : T.getD i 0 = c0) (h1 : 1 ≤ c0) (h2 : c0 < 200) (t : TM M2 T) (hi : M2 0 12 = nI (i + 1)) (hs : M2 0 48 = nI (srt k)) (f2 : FrC M M2) :
    ∃ M', BR (E n h A M2 R) = some (nI (b2 (cmR T i).1), E n h A M' R) ∧ M' 0 12 = nI (cmR T i).2 ∧ FrC M M' ∧ ((cmR T i).1 = true → CMD M' T i) := by
  have hm : mtc c0 (T.getD i 0) := by unfold mtc; rw [if_pos h2]; exact hc
  have hl : i < T.length := mtc_pos h1 hm
  have ec : cmR T i = sq T l (i + 1) := by
    rw [cmR_1 (c := c0) (l := l) (fun c' l' e => by rw [ek, hit] at e; cases e; exact hm) (by rw [ek]; exact hit), ek]
    match sq T l (i + 1) with
    | (true, j) =>
      show tl5 T k j = _
      unfold tl5
      rw [if_neg h0, if_neg h5]
    | (false, j) => rfl
  obtain ⟨M', a, b, c, d, e⟩ := key M2 (i + 1) t hi hl
  rw [ec]
  refine ⟨M', ?_, b, Fr_tr f2 (Fr_wk a (by decide) (by decide)), fun z => ⟨?_, fun u hu h200 => ?_, fun q => absurd q (by rw [ek]; exact h0), fun q => absurd q (by rw [ek]; exact h5)⟩⟩
  · rw [c]
    match sq T l (i + 1) with
    | (true, j) => rfl
    | (false, j) => rfl
  · rw [a.2 _ (by decide), ek]
    exact hs
  · rw [ek, hit] at hu h200 ⊢
    cases u with
    | zero => exact absurd h200 (by show ¬ 200 ≤ c0; omega)
    | succ u =>
      rw [List.length_cons] at hu
      have := e z u (by omega) h200
      rw [show i + (u + 1) = i + 1 + u by omega]
      exact this
/-- letters of a word -/
theorem m_rw43 {fr : Nat} : ∀ (m L i : Nat) (M : Nat → Nat → Int32), lrn (T.drop i) = m → m < L → TM M T → M 0 12 = nI i → i ≤ T.length → fr ≤ i → (∀ j, fr ≤ j → j < i → 97 ≤ T.getD j 0 ∧ T.getD j 0 ≤ 99) →
    ∃ M', lp (b_X12_readsWord_43 (ma n 0) (nI fr)) L (E n h A M R) = some (nI (b1 (fr < i + m)), E n h A M' R) ∧ M' 0 12 = nI (i + m) ∧ Fr [8] [12, 19] M M' ∧ M' 0 19 = nI (i + m - fr) ∧ ∀ j, j < i + m - fr → M' 8 j = nI (T.getD (fr + j) 0 - 97) := by
  intro m
  induction m with
  | zero =>
    intro L i M hm hL t hi hi2 hfr hall
    obtain ⟨L, rfl⟩ : ∃ L', L = L' + 1 := ⟨L - 1, by omega⟩
    have t60 := t.2.1
    have hnb : ∃ x, f_X12_nextChar (ma n 0) (E n h A M R) = some (x, E n h A M R) ∧ f_X12_isBetween x (nI 97) (nI 99) (E n h A M R) = some (nI 0, E n h A M R) := by
      rcases Nat.lt_or_ge i T.length with z | z
      · have b := (t.2.2 i z).2
        refine ⟨_, m_nextT (n := n) (h := h) (A := A) (R := R) t hi z, m_betweenF ?_⟩
        rw [drop_c z] at hm
        unfold lrn at hm
        have hn : ¬ (97 ≤ T.getD i 0 ∧ T.getD i 0 ≤ 99) := fun q => by
          rw [if_pos q] at hm
          omega
        rcases Nat.lt_or_ge (T.getD i 0) 97 with y | y
        · left
          rw [n_lt (by omega) (by decide)]
          exact y
        · right
          rw [n_lt (by decide) (by omega)]
          omega
      · exact ⟨_, m_nextF (n := n) (h := h) (A := A) (R := R) t hi z (by omega), m_betweenF (Or.inl (by decide +kernel))⟩
    obtain ⟨x, x1, x2⟩ := hnb
    have ok1 : okW T fr (i - fr) = 1 := okW_1.mpr fun j hj => hall (fr + j) (by omega) (by omega)
    have et := m_takes (n := n) (h := h) (A := A) (M := M) (R := R) (T := T) hfr (by omega) (fun k hk => (t.2.2 k (by omega)).1) (fun k hk => by have := (t.2.2 k (by omega)).2; omega)
    rw [ok1] at et
    obtain ⟨M1, hM1⟩ : ∃ M1, M1 = ro (ro M 8 (pre (i - fr) (fun j => M 6 (fr + j) - nI 97) (M 8))) 0 (up (M 0) 19 (nI (i - fr))) := ⟨_, rfl⟩
    rw [← hM1] at et
    have v1 : M1 0 12 = nI i := by rw [hM1, ro_at, up_ne _ _ (by decide)]; exact hi
    refine ⟨M1, ?_, v1, ?_, by rw [hM1, ro_at, up_at]; rfl, fun j hj => ?_⟩
    · rw [lp_en (r := (nI (b1 (fr < i + 0)), E n h A M1 R))]
      unfold b_X12_readsWord_43 b0_X12_readsWord_43 g_X12_readsWord_94 g_X12_readsWord_95 b1
      by_cases q : fr < i
      · rw [if_pos (show fr < i + 0 by omega)]
        simp (disch := omega) only [↓grd_u, ↓bnd_e, ↓orf_u, ↓oif_u, ↓cal_u, ↓calX_u, ↓inrO_u, ↓reduceIte, EM, EMg, EMs, z0, oi, n_inbT, n_cntT, n_ltT, n_ltF, n_leT, n_leF, n_eqT, n_eqF, n_m1T, n_m1F, n_m1F', n_cl, n_add, n_mul, ro_at, ro_ro, up_at, up_up, x1, x2, hi, et, v1, nz1]
      · rw [if_neg (show ¬ fr < i + 0 by omega)]
        simp (disch := omega) only [↓grd_u, ↓bnd_e, ↓orf_u, ↓oif_u, ↓cal_u, ↓calX_u, ↓inrO_u, ↓reduceIte, EM, EMg, EMs, z0, oi, n_inbT, n_cntT, n_ltT, n_ltF, n_leT, n_leF, n_eqT, n_eqF, n_m1T, n_m1F, n_m1F', n_cl, n_add, n_mul, ro_at, ro_ro, up_at, up_up, x1, x2, hi, et, v1, nz0]
    · rw [hM1]
      exact Fr_tr (Fr_ro _ (by decide) (by decide)) ⟨fun q h0 _ => ro_ne _ _ h0, fun q hq => by
        rw [ro_at, ro_ne _ _ (by decide)]
        exact up_ne _ _ (fun e => hq (by rw [e]; decide))⟩
    · have hj : j < i - fr := by omega
      have hh := hall (fr + j) (by omega) (by omega)
      rw [hM1, ro_ne _ _ (by decide), ro_at, pre_lt _ _ hj, (t.2.2 (fr + j) (by omega)).1, n_sub hh.1]
  | succ m ih =>
    intro L i M hm hL t hi hi2 hfr hall
    obtain ⟨L, rfl⟩ : ∃ L', L = L' + 1 := ⟨L - 1, by omega⟩
    have t60 := t.2.1
    have hl : i < T.length := by
      rcases Nat.lt_or_ge i T.length with z | z
      · exact z
      · rw [List.drop_eq_nil_of_le z] at hm
        exact absurd hm (by show ¬ 0 = m + 1; omega)
    rw [drop_c hl] at hm
    unfold lrn at hm
    have q : 97 ≤ T.getD i 0 ∧ T.getD i 0 ≤ 99 := Decidable.byContradiction fun z => by
      rw [if_neg z] at hm
      omega
    rw [if_pos q] at hm
    have x1 := m_nextT (n := n) (h := h) (A := A) (R := R) t hi hl
    have x2 := m_between (v := T.getD i 0) (a := 97) (b := 99) (g := E n h A M R) (by omega) q.1 q.2 (by decide)
    obtain ⟨M0, hM0⟩ : ∃ M0, M0 = ro M 0 (up (M 0) 12 (nI (i + 1))) := ⟨_, rfl⟩
    have f0 : Fr [8] [12, 19] M M0 := by rw [hM0]; exact Fr_r0 _ (by decide)
    obtain ⟨M', e, a1, a2, a3, a4⟩ := ih L (i + 1) M0 (by omega) (by omega) (TM_q t f0 (by decide) (by decide)) (by rw [hM0, ro_at, up_at]) hl (by omega) (fun j h1 h2 => by
      by_cases z : j = i
      · rw [z]; exact q
      · exact hall j h1 (by omega))
    rw [show i + 1 + m = i + (m + 1) by omega] at e a1 a3 a4
    refine ⟨M', ?_, a1, Fr_tr f0 a2, a3, a4⟩
    rw [lp_nx (s' := E n h A M0 R), e]
    unfold b_X12_readsWord_43 b0_X12_readsWord_43
    simp (disch := omega) only [↓grd_u, ↓bnd_e, ↓orf_u, ↓oif_u, ↓cal_u, ↓calX_u, ↓inrO_u, ↓reduceIte, EM, EMg, EMs, z0, oi, n_inbT, n_cntT, n_ltT, n_ltF, n_leT, n_leF, n_eqT, n_eqF, n_m1T, n_m1F, n_m1F', n_cl, n_add, n_mul, ro_at, ro_ro, up_at, up_up, x1, x2, hi, ← hM0]
end MCMDB
