/-! one command is done -/
def dgt (T : List Nat) (i j : Nat) : Nat := T.getD (i + (kwd (ksel T i)).length + 2 * j) 0 - 48
def wT (T : List Nat) (i : Nat) : List Nat := (T.drop (i + 5)).take (lrn (T.drop (i + 5)))
def exW (S : St) (T : List Nat) : Nat × Nat × St := if okW T 0 T.length = 1 ∧ 1 ≤ T.length ∧ T.length ≤ 8 then (if (lW (sCur S)).length = 8 then (2, 0, S) else (0, (lW (sCur S)).length, remember S (addW (sCur S) (lets T)))) else (1, 0, S)
def exS0 (S : St) (v : Option Nat) (p : List Nat) : Nat × Nat × St := match v with
  | some s => laid S s p
  | none => (1, 0, S)
def exC (T : List Nat) (i : Nat) (S : St) : Nat × Nat × St :=
  if ksel T i = 0 then exS0 S (slN (nI (dgt T i 0))) (rdE (pR T (i + 6)).2)
  else if ksel T i = 1 then aTwo S (slN (nI (dgt T i 0))) (slN (nI (dgt T i 1))) (slN (nI (dgt T i 2))) 5
  else if ksel T i = 2 then aTwo S (slN (nI (dgt T i 0))) (slN (nI (dgt T i 1))) (slN (nI (dgt T i 2))) 4
  else if ksel T i = 3 then aRep S (slN (nI (dgt T i 0))) (slN (nI (dgt T i 1)))
  else if ksel T i = 4 then aRem S (slN (nI (dgt T i 0)))
  else if ksel T i = 5 then exW S (wT T i)
  else aCutW S (nI (dgt T i 0))
def ndg (k : Nat) : Nat := if k = 1 then 3 else if k = 2 then 3 else if k = 3 then 2 else if k = 5 then 0 else 1
theorem itk_dg : ∀ k, k ≤ 6 → ∀ j, j < ndg k → (kwd k).length + 2 * j < (itk k).length ∧ (itk k).getD ((kwd k).length + 2 * j) 0 = 200 + j := by decide
theorem cmR_sq {T : List Nat} {i : Nat} (hi : i ≤ T.length) (h : (cmR T i).1 = true) : (sq T (itk (ksel T i)) i).1 = true ∧ ∀ t, t < (itk (ksel T i)).length → mtc ((itk (ksel T i)).getD t 0) (T.getD (i + t) 0) := by
  have h1 : (sq T (itk (ksel T i)) i).1 = true := by
    unfold cmR at h
    match e : sq T (itk (ksel T i)) i with
    | (true, j) => rfl
    | (false, j) =>
      rw [show sq T (kwd (ksel T i) ++ rst1 (ksel T i)) i = (false, j) from e] at h
      exact absurd h Bool.false_ne_true
  exact ⟨h1, ((sq_ok (T := T) _ i (items_pos _ (ksel_le T i)) hi).2.2.1 h1).2⟩
theorem dgt_ok {T : List Nat} {i j : Nat} (hi : i ≤ T.length) (h : (cmR T i).1 = true) (hj : j < ndg (ksel T i)) : T.getD (i + (kwd (ksel T i)).length + 2 * j) 0 = 48 + dgt T i j ∧ dgt T i j < 10 := by
  obtain ⟨a, b⟩ := itk_dg _ (ksel_le T i) j hj
  have := (cmR_sq hi h).2 _ a
  rw [b] at this
  unfold mtc at this
  rw [if_neg (by omega)] at this
  unfold dgt
  rw [← Nat.add_assoc] at this
  omega
section MEX
variable {n : Nat} {h : mH} {A M : Nat → Nat → Int32} {R : Nat → Nat → Option Nat} {S : St} {T : List Nat} {i : Nat}
def FrBl (M M' : Nat → Nat → Int32) : Prop := Fr [5] [9] M M'
theorem CMD_dg {j : Nat} (hc : CMD M T i) (hj : j < ndg (ksel T i)) : M 33 j = nI (dgt T i j) := by
  obtain ⟨a, b⟩ := itk_dg _ (ksel_le T i) j hj
  have := hc.2.1 _ a (by omega)
  rw [b, Nat.add_sub_cancel_left, ← Nat.add_assoc] at this
  exact this
/-- a put that can be done or not -/
def CanP (n : Nat) (h : mH) (A : Nat → Nat → Int32) (R : Nat → Nat → Option Nat) (S : St) (M : Nat → Nat → Int32) (x : Option (Int32 × mH)) (v : Int32) (q : Nat × Nat × St) : Prop := ∃ e M1, x = some (nI e, E n h A M1 R) ∧ FrBl M M1 ∧ e < 10 ∧ ((e ≠ 0 ∧ q.1 ≠ 0) ∨ (e = 0 ∧ q.1 = 0 ∧ ∃ s p, v = nI s ∧ s < 6 ∧ Blt M1 p ∧ p.length ≤ 28 ∧ sCur q.2.2 = putP (sCur S) s p))
theorem laid_1 {s : Nat} {p : List Nat} (ht : 7 < nLet p ∨ 9 < nSig p) : (laid S s p).1 = 3 := by
  unfold laid
  rw [if_pos ht]
theorem laid_0 {s : Nat} {p : List Nat} (ht : ¬ (7 < nLet p ∨ 9 < nSig p)) : (laid S s p).1 = 0 ∧ sCur (laid S s p).2.2 = putP (sCur S) s p := by
  unfold laid
  rw [if_neg ht]
  exact ⟨rfl, rfl⟩
theorem m_canTwo {v a b : Int32} {o : Nat} (hi : IM M S) (hg : GoodS S) (ho : o = 4 ∨ o = 5) : CanP n h A R S M (f_X12_notTwo (ma n 0) v a b (nI o) (E n h A M R)) v (aTwo S (slN v) (slN a) (slN b) o) := by
  by_cases hx : (v < nI 0 ∨ nI 5 < v) ∨ (a < nI 0 ∨ nI 5 < a) ∨ (b < nI 0 ∨ nI 5 < b)
  · have hz : aTwo S (slN v) (slN a) (slN b) o = (1, 0, S) := by
      unfold aTwo
      rcases hx with hx | hx | hx
      · rw [slN_F hx]
      · rw [slN_F hx]
        cases slN v <;> rfl
      · rw [slN_F hx]
        cases slN v <;> cases slN a <;> rfl
    rw [hz]
    exact ⟨1, M, m_notTwo1 hx, Fr_rf _ _ _, by decide, Or.inl ⟨by decide, show (1 : Nat) ≠ 0 by decide⟩⟩
  · rcases slot_cases v with ⟨v, hv, rfl⟩ | hv
    case inr => exact absurd (Or.inl hv) hx
    rcases slot_cases a with ⟨a, ha, rfl⟩ | ha
    case inr => exact absurd (Or.inr (Or.inl ha)) hx
    rcases slot_cases b with ⟨b, hb, rfl⟩ | hb
    case inr => exact absurd (Or.inr (Or.inr hb)) hx
    rw [slN_T hv, slN_T ha, slN_T hb]
    by_cases hp : lP (sCur S) a = [] ∨ lP (sCur S) b = []
    · have hz : aTwo S (some v) (some a) (some b) o = (2, 0, S) := by unfold aTwo; exact if_pos hp
      rw [hz]
      exact ⟨2, M, m_notTwo2 hi hg hv ha hb hp, Fr_rf _ _ _, by decide, Or.inl ⟨by decide, show (2 : Nat) ≠ 0 by decide⟩⟩
    · have hz : aTwo S (some v) (some a) (some b) o = laid S v (lP (sCur S) a ++ lP (sCur S) b ++ [o]) := by unfold aTwo; exact if_neg hp
      rw [hz]
      have pa : lP (sCur S) a ≠ [] := fun q => hp (Or.inl q)
      have pb : lP (sCur S) b ≠ [] := fun q => hp (Or.inr q)
      have hn := m_notTwo (n := n) (h := h) (A := A) (R := R) (o := o) hi hg hv ha hb pa pb (by omega)
      by_cases ht : 7 < nLet (lP (sCur S) a ++ lP (sCur S) b ++ [o]) ∨ 9 < nSig (lP (sCur S) a ++ lP (sCur S) b ++ [o])
      · rw [if_pos ht] at hn
        exact ⟨3, _, hn, bltM_fr, by decide, Or.inl ⟨by decide, by rw [laid_1 ht]; decide⟩⟩
      · rw [if_neg ht] at hn
        have wf : WF (lP (sCur S) a ++ lP (sCur S) b ++ [o]) := WF_bin (GoodP_wf (hg.1.1 a ha) pa) (GoodP_wf (hg.1.1 b hb) pb) ho
        have gp : GoodP (lP (sCur S) a ++ lP (sCur S) b ++ [o]) := Or.inr ⟨wf, ht⟩
        have gl := GoodP_len gp
        exact ⟨0, _, hn, bltM_fr, by decide, Or.inr ⟨rfl, (laid_0 ht).1, v, _, rfl, hv, bltM_ok (by omega) (GoodP_small gp), by omega, (laid_0 ht).2⟩⟩
theorem m_canRep {v a : Int32} (hi : IM M S) (hg : GoodS S) : CanP n h A R S M (f_X12_notRepeat (ma n 0) v a (E n h A M R)) v (aRep S (slN v) (slN a)) := by
  by_cases hx : (v < nI 0 ∨ nI 5 < v) ∨ (a < nI 0 ∨ nI 5 < a)
  · have hz : aRep S (slN v) (slN a) = (1, 0, S) := by
      unfold aRep
      rcases hx with hx | hx
      · rw [slN_F hx]
      · rw [slN_F hx]
        cases slN v <;> rfl
    rw [hz]
    refine ⟨1, M, ?_, Fr_rf _ _ _, by decide, Or.inl ⟨by decide, show (1 : Nat) ≠ 0 by decide⟩⟩
    unfold f_X12_notRepeat g_X12_notRepeat_14
    rcases slot_cases v with ⟨v, hv, rfl⟩ | hv
    · rcases slot_cases a with ⟨a, ha, rfl⟩ | ha
      · exfalso
        rw [n_lt (by omega) (by decide), n_lt (by decide) (by omega), n_lt (by omega) (by decide), n_lt (by decide) (by omega)] at hx
        omega
      · simp (disch := omega) only [↓grd_u, ↓bnd_e, ↓orf_u, ↓oif_u, ↓cal_u, ↓calX_u, ↓inrO_u, ↓reduceIte, EM, EMg, EMs, z0, oi, n_inbT, n_cntT, n_ltT, n_ltF, n_leT, n_leF, n_eqT, n_eqF, n_m1T, n_m1F, n_m1F', n_cl, n_add, n_mul, ro_at, ro_ro, up_at, up_up, m_isSlotT, m_isSlotF ha]
    · simp (disch := omega) only [↓grd_u, ↓bnd_e, ↓orf_u, ↓oif_u, ↓cal_u, ↓calX_u, ↓inrO_u, ↓reduceIte, EM, EMg, EMs, z0, oi, n_inbT, n_cntT, n_ltT, n_ltF, n_leT, n_leF, n_eqT, n_eqF, n_m1T, n_m1F, n_m1F', n_cl, n_add, n_mul, ro_at, ro_ro, up_at, up_up, m_isSlotF hv]
  · rcases slot_cases v with ⟨v, hv, rfl⟩ | hv
    case inr => exact absurd (Or.inl hv) hx
    rcases slot_cases a with ⟨a, ha, rfl⟩ | ha
    case inr => exact absurd (Or.inr ha) hx
    rw [slN_T hv, slN_T ha]
    by_cases hp : lP (sCur S) a = []
    · have hz : aRep S (some v) (some a) = (2, 0, S) := by unfold aRep; exact if_pos hp
      rw [hz]
      refine ⟨2, M, ?_, Fr_rf _ _ _, by decide, Or.inl ⟨by decide, show (2 : Nat) ≠ 0 by decide⟩⟩
      unfold f_X12_notRepeat
      simp (disch := omega) only [↓grd_u, ↓bnd_e, ↓orf_u, ↓oif_u, ↓cal_u, ↓calX_u, ↓inrO_u, ↓reduceIte, EM, EMg, EMs, z0, oi, n_inbT, n_cntT, n_ltT, n_ltF, n_leT, n_leF, n_eqT, n_eqF, n_m1T, n_m1F, n_m1F', n_cl, n_add, n_mul, ro_at, ro_ro, up_at, up_up, m_isSlotT, holdsF hi ha hp]
    · have hz : aRep S (some v) (some a) = laid S v (lP (sCur S) a ++ [6]) := by unfold aRep; exact if_neg hp
      rw [hz]
      have hn := m_notRep (n := n) (h := h) (A := A) (R := R) hi hg hv ha hp
      by_cases ht : 7 < nLet (lP (sCur S) a ++ [6]) ∨ 9 < nSig (lP (sCur S) a ++ [6])
      · rw [if_pos ht] at hn
        exact ⟨3, _, hn, bltM_fr, by decide, Or.inl ⟨by decide, by rw [laid_1 ht]; decide⟩⟩
      · rw [if_neg ht] at hn
        have gp : GoodP (lP (sCur S) a ++ [6]) := Or.inr ⟨WF_sign (GoodP_wf (hg.1.1 a ha) hp) (by decide) (by decide), ht⟩
        have gl := GoodP_len gp
        exact ⟨0, _, hn, bltM_fr, by decide, Or.inr ⟨rfl, (laid_0 ht).1, v, _, rfl, hv, bltM_ok (by omega) (GoodP_small gp), by omega, (laid_0 ht).2⟩⟩
/-- one command: whether it can be done, and that it is done -/
def One (n : Nat) (h : mH) (A : Nat → Nat → Int32) (R : Nat → Nat → Option Nat) (M : Nat → Nat → Int32) (q : Nat × Nat × St) : Prop := ∃ e M1, f_X12_notNow (ma n 0) (E n h A M R) = some (nI e, E n h A M1 R) ∧ FrBl M M1 ∧ e < 10 ∧ ((e ≠ 0 ∧ q.1 ≠ 0) ∨ (e = 0 ∧ q.1 = 0 ∧ ∃ v M2, f_X12_doesNow (ma n 0) (E n h A M1 R) = some (v, E n h A M2 R) ∧ M2 1 = enc (sCur q.2.2) ∧ Fr [1] [] M1 M2))
theorem One_put {x : Option (Int32 × mH)} {q : Nat × Nat × St} {k : Nat} (hi : IM M S) (hk : k ≤ 3) (hs : M 0 48 = nI (srt k)) (hd : M 33 0 = nI (dgt T i 0)) (hx : f_X12_notNow (ma n 0) (E n h A M R) = x) (hc : CanP n h A R S M x (nI (dgt T i 0)) q) : One n h A R M q := by
  obtain ⟨e, M1, ex, f1, e10, hq⟩ := hc
  refine ⟨e, M1, hx.trans ex, f1, e10, ?_⟩
  rcases hq with hq | ⟨e0, q0, s, p, ev, s6, hB, pl, hL⟩
  · exact Or.inl hq
  · refine Or.inr ⟨e0, q0, nI (nLet p), ro M1 1 (enc (putP (sCur S) s p)), ?_, ?_, Fr_ro _ (by decide) (by decide)⟩
    · have hw1 : M1 1 = enc (sCur S) := by rw [f1.1 _ (by decide) (by decide)]; exact hi.1
      have hl := m_lays (n := n) (h := h) (A := A) (R := R) (L := sCur S) s6 hB pl hw1
      have hs1 : M1 0 48 = nI (srt k) := by rw [f1.2 _ (by decide)]; exact hs
      have hd1 : M1 33 0 = nI s := by rw [f1.1 _ (by decide) (by decide), hd, ev]
      unfold f_X12_doesNow
      have hk' : k = 0 ∨ k = 1 ∨ k = 2 ∨ k = 3 := by omega
      rcases hk' with rfl | rfl | rfl | rfl
      · rw [show srt 0 = 115 from rfl] at hs1
        simp (disch := omega) only [↓grd_u, ↓bnd_e, ↓orf_u, ↓oif_u, ↓cal_u, ↓calX_u, ↓inrO_u, ↓reduceIte, EM, EMg, EMs, z0, oi, n_inbT, n_cntT, n_ltT, n_ltF, n_leT, n_leF, n_eqT, n_eqF, n_m1T, n_m1F, n_m1F', n_cl, n_add, n_mul, ro_at, ro_ro, up_at, up_up, hs1, hd1, hl]
      · rw [show srt 1 = 111 from rfl] at hs1
        simp (disch := omega) only [↓grd_u, ↓bnd_e, ↓orf_u, ↓oif_u, ↓cal_u, ↓calX_u, ↓inrO_u, ↓reduceIte, EM, EMg, EMs, z0, oi, n_inbT, n_cntT, n_ltT, n_ltF, n_leT, n_leF, n_eqT, n_eqF, n_m1T, n_m1F, n_m1F', n_cl, n_add, n_mul, ro_at, ro_ro, up_at, up_up, hs1, hd1, hl]
      · rw [show srt 2 = 116 from rfl] at hs1
        simp (disch := omega) only [↓grd_u, ↓bnd_e, ↓orf_u, ↓oif_u, ↓cal_u, ↓calX_u, ↓inrO_u, ↓reduceIte, EM, EMg, EMs, z0, oi, n_inbT, n_cntT, n_ltT, n_ltF, n_leT, n_leF, n_eqT, n_eqF, n_m1T, n_m1F, n_m1F', n_cl, n_add, n_mul, ro_at, ro_ro, up_at, up_up, hs1, hd1, hl]
      · rw [show srt 3 = 114 from rfl] at hs1
        simp (disch := omega) only [↓grd_u, ↓bnd_e, ↓orf_u, ↓oif_u, ↓cal_u, ↓calX_u, ↓inrO_u, ↓reduceIte, EM, EMg, EMs, z0, oi, n_inbT, n_cntT, n_ltT, n_ltF, n_leT, n_leF, n_eqT, n_eqF, n_m1T, n_m1F, n_m1F', n_cl, n_add, n_mul, ro_at, ro_ro, up_at, up_up, hs1, hd1, hl]
    · rw [ro_at, hL]
end MEX
