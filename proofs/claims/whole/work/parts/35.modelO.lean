def oI (o : Option Nat) : Int32 := match o with | none => Int32.ofInt (-1) | some e => nI e
/-- the reference's rows hold the state S -/
def IM (M : Nat → Nat → Int32) (S : St) : Prop :=
  M 1 = enc (sCur S) ∧ Ring M (sUndo S) ∧ (match sSaved S with | none => M 0 7 = nI 0 | some L => M 0 7 = nI 1 ∧ M 3 = enc L) ∧
  (∀ j, 248 ≤ j → M 4 j = nI 0) ∧ (∀ j, 248 ≤ j → M 3 j = nI 0) ∧
  (M 0 11 = nI (sText S).length ∧ ∀ k, k < (sText S).length → M 6 k = nI ((sText S).getD k 0)) ∧
  M 0 13 = oI (sErr S) ∧ M 0 14 = oI (sFail S) ∧
  (M 0 44 = nI (sLine S).length ∧ ∀ k, k < (sLine S).length → M 30 k = nI ((sLine S).getD k 0))
/-- what holds the state: rows and scalars -/
def keepR : List Nat := [1, 2, 3, 4, 6, 30]
def keepC : List Nat := [6, 5, 7, 11, 13, 14, 44]
theorem IM_fr {M M' : Nat → Nat → Int32} {S : St} {rows sc : List Nat} (h : IM M S) (hf : Fr rows sc M M') (h1 : ∀ r ∈ keepR, r ∉ rows) (h2 : ∀ k ∈ keepC, k ∉ sc) : IM M' S := by
  obtain ⟨a1, a2, a3, a4, a5, ⟨a6, a7⟩, a8, a9, a10, a11⟩ := h
  have e1 := hf.1 1 (by decide) (h1 _ (by decide))
  have e3 := hf.1 3 (by decide) (h1 _ (by decide))
  have e4 := hf.1 4 (by decide) (h1 _ (by decide))
  have e5 := hf.1 6 (by decide) (h1 _ (by decide))
  have e6 := hf.1 30 (by decide) (h1 _ (by decide))
  have f1 := hf.2 7 (h2 _ (by decide))
  have f2 := hf.2 11 (h2 _ (by decide))
  have f3 := hf.2 13 (h2 _ (by decide))
  have f4 := hf.2 14 (h2 _ (by decide))
  have f5 := hf.2 44 (h2 _ (by decide))
  refine ⟨by rw [e1]; exact a1, Ring_fr a2 hf (h1 _ (by decide)) (h2 _ (by decide)) (h2 _ (by decide)), ?_, by rw [e4]; exact a4, by rw [e3]; exact a5, ⟨by rw [f2]; exact a6, by rw [e5]; exact a7⟩, by rw [f3]; exact a8, by rw [f4]; exact a9, by rw [f5]; exact a10, by rw [e6]; exact a11⟩
  rw [f1, e3]
  exact a3
section MODELO
variable {n : Nat} {h : mH} {A M : Nat → Nat → Int32} {R : Nat → Nat → Option Nat} {S : St}
/-- a change is remembered -/
theorem m_remembers (hi : IM M S) : ∃ M', f_X12_remembers (ma n 0) (E n h A M R) = some ((), E n h A M' R) ∧ IM M' (remember S (sCur S)) ∧ Fr [2, 4] [5, 6] M M' := by
  obtain ⟨a1, a2, a3, a4, a5, a6, a8, a9, a10⟩ := hi
  unfold f_X12_remembers
  have hz : pre 248 (M 1) (M 4) = enc (sCur S) := by rw [a1]; exact enc_copy _ a4
  have hf1 : Fr [2, 4] [5, 6] M (ro M 4 (enc (sCur S))) := Fr_ro _ (by decide) (by decide)
  obtain ⟨M', e1, r1, f1⟩ := m_keeps (n := n) (h := h) (A := A) (M := ro M 4 (enc (sCur S))) (R := R) (u := sUndo S) (L0 := sCur S) (Ring_fr a2 (Fr_ro (rows := [4]) (sc := []) _ (by decide) (by decide)) (by decide) (by decide) (by decide)) (fun j _ => by rw [ro_at])
  have hf : Fr [2, 4] [5, 6] M M' := Fr_tr hf1 (Fr_wk f1 (by decide) (by decide))
  refine ⟨M', ?_, ?_, hf⟩
  · simp (disch := omega) only [↓grd_u, ↓bnd_e, ↓orf_u, ↓oif_u, ↓cal_u, ↓calX_u, ↓inrO_u, ↓reduceIte, EM, EMg, EMs, z0, oi, n_inbT, n_cntT, n_ltT, n_ltF, n_leT, n_leF, n_eqT, n_eqF, n_m1T, n_m1F, n_m1F', n_cl, n_add, n_mul, ro_at, ro_ro, up_at, up_up, m_copies, hz, e1]
  · have g1 := hf.1 1 (by decide) (by decide)
    have g3 := hf.1 3 (by decide) (by decide)
    have g5 := hf.1 6 (by decide) (by decide)
    have g6 := hf.1 30 (by decide) (by decide)
    have g4 : M' 4 = enc (sCur S) := by rw [f1.1 4 (by decide) (by decide), ro_at]
    have k1 := hf.2 7 (by decide)
    have k2 := hf.2 11 (by decide)
    have k3 := hf.2 13 (by decide)
    have k4 := hf.2 14 (by decide)
    have k5 := hf.2 44 (by decide)
    refine ⟨by rw [g1]; exact a1, r1, ?_, ?_, by rw [g3]; exact a5, ⟨by rw [k2]; exact a6.1, by rw [g5]; exact a6.2⟩, by rw [k3]; exact a8, by rw [k4]; exact a9, by rw [k5]; exact a10.1, by rw [g6]; exact a10.2⟩
    · rw [k1, g3]; exact a3
    · rw [g4]; exact fun j hj => enc_z _ hj
theorem IM_set {L : Lib} (hi : IM M S) : IM (ro M 1 (enc L)) (L, sUndo S, sSaved S, sText S, sErr S, sFail S, sLine S) := by
  obtain ⟨a1, a2, a3, a4, a5, a6, a8, a9, a10⟩ := hi
  exact ⟨ro_at _ _ _, Ring_fr a2 (Fr_ro (rows := [1]) (sc := []) _ (by decide) (by decide)) (by decide) (by decide) (by decide), a3, a4, a5, a6, a8, a9, a10⟩
theorem m_removes {L : Lib} {s : Nat} (hs : s < 6) (hw : M 1 = enc L) (hl : ∀ s, s < 6 → (lP L s).length ≤ 28) : f_X12_removes (ma n 0) (nI s) (E n h A M R) = some (nI (((List.range 6).filter fun q => decide (lP (freeP L s) q ≠ [])).length), E n h A (ro M 1 (enc (freeP L s))) R) := by
  unfold f_X12_removes g_X12_removes_2
  rw [oi.1]
  have h0 := lp_for0 (f := b_X12_removes_2 (ma n 0) (nI s)) (fun k => (nI k, E n h A (ro M 1 (ap (M 1) (2 + 29 * s) ((List.replicate 29 0).take k))) R)) 29 (nI (((List.range 6).filter fun q => decide (lP (freeP L s) q ≠ [])).length), E n h A (ro M 1 (enc (freeP L s))) R) (fun k hk => ?_) ?_ (L := 100000) (by decide)
  · simp only [List.take_zero, ap_nil, ro_self] at h0
    exact h0
  · unfold b_X12_removes_2 b0_X12_removes_2
    simp (disch := omega) only [↓grd_u, ↓bnd_e, ↓orf_u, ↓oif_u, ↓cal_u, ↓calX_u, ↓inrO_u, ↓reduceIte, EM, EMg, EMs, z0, oi, n_inbT, n_cntT, n_ltT, n_ltF, n_leT, n_leF, n_eqT, n_eqF, n_m1T, n_m1F, n_m1F', n_cl, n_add, n_mul, ro_at, ro_ro, up_at, up_up, ro_ne, up_ne, ro_sw]
    have e : nI 0 = nI ((List.replicate 29 0).getD k 0) := by simp only [List.getD_eq_getElem?_getD, List.getElem?_replicate]; split <;> rfl
    rw [e, ap_take _ _ _ (by simp; omega)]
  · unfold b_X12_removes_2 b0_X12_removes_2
    simp (disch := omega) only [↓grd_u, ↓bnd_e, ↓orf_u, ↓oif_u, ↓cal_u, ↓calX_u, ↓inrO_u, ↓reduceIte, EM, EMg, EMs, z0, oi, n_inbT, n_cntT, n_ltT, n_ltF, n_leT, n_leF, n_eqT, n_eqF, n_m1T, n_m1F, n_m1F', n_cl, n_add, n_mul, ro_at, ro_ro, up_at, up_up, ro_ne, up_ne, ro_sw]
    rw [show (List.replicate 29 0).take 29 = List.replicate 29 0 from rfl, hw, enc_free L hs, m_patterns (L := freeP L s) (ro_at _ _ _) (fun q hq => by
      show (up (lP L) s [] q).length ≤ 28
      by_cases e : q = s
      · subst e; rw [up_at]; decide
      · rw [up_ne _ _ e]; exact hl q hq)]
/-! what unite, concatenate, repeat, remove make: a number (0: done), an answer, the state -/
def slN (v : Int32) : Option Nat := if v < nI 0 ∨ nI 5 < v then none else some v.toNatClampNeg
theorem slN_T {s : Nat} (hs : s < 6) : slN (nI s) = some s := by
  unfold slN
  rw [if_neg (by rw [n_lt (by omega) (by decide), n_lt (by decide) (by omega)]; omega), n_cl (by omega)]
theorem slN_F {v : Int32} (hv : v < nI 0 ∨ nI 5 < v) : slN v = none := if_pos hv
def laid (S : St) (s : Nat) (p : List Nat) : Nat × Nat × St := if 7 < nLet p ∨ 9 < nSig p then (3, 0, S) else (0, nLet p, remember S (putP (sCur S) s p))
def aTwo (S : St) (v a b : Option Nat) (o : Nat) : Nat × Nat × St := match v, a, b with
  | some v, some a, some b => if lP (sCur S) a = [] ∨ lP (sCur S) b = [] then (2, 0, S) else laid S v (lP (sCur S) a ++ lP (sCur S) b ++ [o])
  | _, _, _ => (1, 0, S)
def aRep (S : St) (v a : Option Nat) : Nat × Nat × St := match v, a with
  | some v, some a => if lP (sCur S) a = [] then (2, 0, S) else laid S v (lP (sCur S) a ++ [6])
  | _, _ => (1, 0, S)
def nPat (L : Lib) : Nat := ((List.range 6).filter fun q => decide (lP L q ≠ [])).length
def aRem (S : St) (v : Option Nat) : Nat × Nat × St := match v with
  | some v => if lP (sCur S) v = [] then (2, 0, S) else (0, nPat (freeP (sCur S) v), remember S (freeP (sCur S) v))
  | none => (1, 0, S)
theorem ne_len {l : List Nat} (h : l ≠ []) : 0 < l.length := by cases l with | nil => exact absurd rfl h | cons a b => simp
theorem holdsT {s : Nat} (hi : IM M S) (hg : GoodS S) (hs : s < 6) (hp : lP (sCur S) s ≠ []) : f_X12_holds (ma n 0) (nI s) (E n h A M R) = some (nI 1, E n h A M R) := m_holdsT (l := (lP (sCur S) s).length) hs (by rw [hi.1, enc_len _ hs]) (ne_len hp) (by have := GoodP_len (hg.1.1 s hs); omega)
theorem holdsF {s : Nat} (hi : IM M S) (hs : s < 6) (hp : lP (sCur S) s = []) : f_X12_holds (ma n 0) (nI s) (E n h A M R) = some (nI 0, E n h A M R) := m_holdsF hs (by rw [hi.1, enc_len _ hs, hp]; rfl)
theorem copy2 {s k0 : Nat} (hw : M 1 = enc (sCur S)) (hg : GoodS S) (hs : s < 6) (hm : M 0 9 = nI k0) (hk : k0 ≤ 100) :
    f_X12_copiesSlot (ma n 0) (nI s) (E n h A M R) = some ((), E n h A (ro (ro M 5 (ap (M 5) k0 (lP (sCur S) s))) 0 (up (M 0) 9 (nI (k0 + (lP (sCur S) s).length)))) R) := by
  have hl := GoodP_len (hg.1.1 s hs)
  exact m_copiesSlot hs (by rw [hw, enc_len _ hs]) (fun k hk => by rw [hw, enc_code _ hs (by omega)]) (by omega) hm (by omega)
end MODELO
