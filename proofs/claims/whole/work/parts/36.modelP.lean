section MODELP
variable {n : Nat} {h : mH} {A M : Nat → Nat → Int32} {R : Nat → Nat → Option Nat} {S : St}
/-- p stands in the row of what is built -/
def bltM (M : Nat → Nat → Int32) (p : List Nat) : Nat → Nat → Int32 := ro (ro M 5 (ap (M 5) 0 p)) 0 (up (M 0) 9 (nI p.length))
theorem bltM_ok {p : List Nat} (hl : p.length ≤ 130) (hs : small p) : Blt (bltM M p) p := by
  refine ⟨by unfold bltM; rw [ro_at, up_at], fun k hk => ?_, hl, hs⟩
  unfold bltM
  rw [ro_ne _ _ (by decide), ro_at, ap_at0 _ _ hk]
theorem bltM_fr {p : List Nat} : Fr [5] [9] M (bltM M p) := ⟨fun r h0 hr => by
  have : r ≠ 5 := fun e => hr (by rw [e]; simp)
  simp only [bltM, ro_ne _ _ h0, ro_ne _ _ this], fun k hk => by
  have : k ≠ 9 := fun e => hk (by rw [e]; simp)
  simp only [bltM, ro_at, up_ne _ _ this]⟩
theorem bltM_w {p : List Nat} : bltM M p 1 = M 1 := bltM_fr.1 _ (by decide) (by decide)
theorem bltM_0 : ro M 0 (up (M 0) 9 (nI 0)) = bltM M [] := by unfold bltM; rw [ap_nil, ro_self]; rfl
theorem m_addsB {p : List Nat} {c : Nat} (hl : p.length < 130) : f_X12_adds (ma n 0) (nI c) (E n h A (bltM M p) R) = some ((), E n h A (bltM M (p ++ [c])) R) := by
  rw [m_adds (k := p.length) (by unfold bltM; rw [ro_at, up_at]) hl]
  unfold bltM
  simp (disch := omega) only [↓grd_u, ↓bnd_e, ↓orf_u, ↓oif_u, ↓cal_u, ↓calX_u, ↓inrO_u, ↓reduceIte, EM, EMg, EMs, z0, oi, n_inbT, n_cntT, n_ltT, n_ltF, n_leT, n_leF, n_eqT, n_eqF, n_m1T, n_m1F, n_m1F', n_cl, n_add, n_mul, ro_at, ro_ro, up_at, up_up, ro_ne, up_ne, ro_sw]
  have e := ap_snoc (M 5) 0 p c
  rw [Nat.zero_add] at e
  rw [e, List.length_append]
  rfl
theorem m_copyB {p : List Nat} {s : Nat} (hw : M 1 = enc (sCur S)) (hg : GoodS S) (hs : s < 6) (hl : p.length ≤ 100) : f_X12_copiesSlot (ma n 0) (nI s) (E n h A (bltM M p) R) = some ((), E n h A (bltM M (p ++ lP (sCur S) s)) R) := by
  rw [copy2 (k0 := p.length) (by rw [bltM_w]; exact hw) hg hs (by unfold bltM; rw [ro_at, up_at]) hl]
  unfold bltM
  simp (disch := omega) only [↓grd_u, ↓bnd_e, ↓orf_u, ↓oif_u, ↓cal_u, ↓calX_u, ↓inrO_u, ↓reduceIte, EM, EMg, EMs, z0, oi, n_inbT, n_cntT, n_ltT, n_ltF, n_leT, n_leF, n_eqT, n_eqF, n_m1T, n_m1F, n_m1F', n_cl, n_add, n_mul, ro_at, ro_ro, up_at, up_up, ro_ne, up_ne, ro_sw]
  have e := ap_ap (M 5) 0 p (lP (sCur S) s)
  rw [Nat.zero_add] at e
  rw [e, List.length_append]
theorem m_notTwo {v a b o : Nat} (hi : IM M S) (hg : GoodS S) (hv : v < 6) (ha : a < 6) (hb : b < 6) (pa : lP (sCur S) a ≠ []) (pb : lP (sCur S) b ≠ []) (ho : o < 9) :
    f_X12_notTwo (ma n 0) (nI v) (nI a) (nI b) (nI o) (E n h A M R) = some (nI (if 7 < nLet (lP (sCur S) a ++ lP (sCur S) b ++ [o]) ∨ 9 < nSig (lP (sCur S) a ++ lP (sCur S) b ++ [o]) then 3 else 0), E n h A (bltM M (lP (sCur S) a ++ lP (sCur S) b ++ [o])) R) := by
  have la := GoodP_len (hg.1.1 a ha)
  have lb := GoodP_len (hg.1.1 b hb)
  have hsm : small (lP (sCur S) a ++ lP (sCur S) b ++ [o]) := small_of fun c hc => by
    rcases List.mem_append.mp hc with hc | hc
    · rcases List.mem_append.mp hc with hc | hc
      · exact small_mem (GoodP_small (hg.1.1 a ha)) c hc
      · exact small_mem (GoodP_small (hg.1.1 b hb)) c hc
    · rw [List.mem_singleton] at hc; omega
  have hB := bltM_ok (M := M) (p := lP (sCur S) a ++ lP (sCur S) b ++ [o]) (by simp; omega) hsm
  unfold f_X12_notTwo g_X12_notTwo_74
  simp (disch := omega) only [↓grd_u, ↓bnd_e, ↓orf_u, ↓oif_u, ↓cal_u, ↓calX_u, ↓inrO_u, ↓reduceIte, EM, EMg, EMs, z0, oi, n_inbT, n_cntT, n_ltT, n_ltF, n_leT, n_leF, n_eqT, n_eqF, n_m1T, n_m1F, n_m1F', n_cl, n_add, n_mul, ro_at, ro_ro, up_at, up_up, m_isSlotT, holdsT hi hg ha pa, holdsT hi hg hb pb, bltM_0]
  rw [m_copyB hi.1 hg ha (by simp)]
  simp (disch := omega) only [↓grd_u, ↓bnd_e, ↓orf_u, ↓oif_u, ↓cal_u, ↓calX_u, ↓inrO_u, ↓reduceIte, EM, EMg, EMs, z0, oi, n_inbT, n_cntT, n_ltT, n_ltF, n_leT, n_leF, n_eqT, n_eqF, n_m1T, n_m1F, n_m1F', n_cl, n_add, n_mul, ro_at, ro_ro, up_at, up_up, List.nil_append]
  rw [m_copyB hi.1 hg hb (by omega)]
  simp (disch := omega) only [↓grd_u, ↓bnd_e, ↓orf_u, ↓oif_u, ↓cal_u, ↓calX_u, ↓inrO_u, ↓reduceIte, EM, EMg, EMs, z0, oi, n_inbT, n_cntT, n_ltT, n_ltF, n_leT, n_leF, n_eqT, n_eqF, n_m1T, n_m1F, n_m1F', n_cl, n_add, n_mul, ro_at, ro_ro, up_at, up_up]
  rw [m_addsB (by simp; omega)]
  simp (disch := omega) only [↓grd_u, ↓bnd_e, ↓orf_u, ↓oif_u, ↓cal_u, ↓calX_u, ↓inrO_u, ↓reduceIte, EM, EMg, EMs, z0, oi, n_inbT, n_cntT, n_ltT, n_ltF, n_leT, n_leF, n_eqT, n_eqF, n_m1T, n_m1F, n_m1F', n_cl, n_add, n_mul, ro_at, ro_ro, up_at, up_up]
  by_cases ht : 7 < nLet (lP (sCur S) a ++ lP (sCur S) b ++ [o]) ∨ 9 < nSig (lP (sCur S) a ++ lP (sCur S) b ++ [o])
  · rw [m_tooLargeT hB ht, if_pos ht]
    simp (disch := omega) only [↓grd_u, ↓bnd_e, ↓orf_u, ↓oif_u, ↓cal_u, ↓calX_u, ↓inrO_u, ↓reduceIte, EM, EMg, EMs, z0, oi, n_inbT, n_cntT, n_ltT, n_ltF, n_leT, n_leF, n_eqT, n_eqF, n_m1T, n_m1F, n_m1F', n_cl, n_add, n_mul, ro_at, ro_ro, up_at, up_up]
  · rw [m_tooLargeF hB ht, if_neg ht]
    simp (disch := omega) only [↓grd_u, ↓bnd_e, ↓orf_u, ↓oif_u, ↓cal_u, ↓calX_u, ↓inrO_u, ↓reduceIte, EM, EMg, EMs, z0, oi, n_inbT, n_cntT, n_ltT, n_ltF, n_leT, n_leF, n_eqT, n_eqF, n_m1T, n_m1F, n_m1F', n_cl, n_add, n_mul, ro_at, ro_ro, up_at, up_up]
theorem m_notTwo1 {v a b : Int32} {o : Int32} (hx : (v < nI 0 ∨ nI 5 < v) ∨ (a < nI 0 ∨ nI 5 < a) ∨ (b < nI 0 ∨ nI 5 < b)) : f_X12_notTwo (ma n 0) v a b o (E n h A M R) = some (nI 1, E n h A M R) := by
  unfold f_X12_notTwo g_X12_notTwo_21
  rcases slot_cases v with ⟨v, hv, rfl⟩ | hv
  · rcases slot_cases a with ⟨a, ha, rfl⟩ | ha
    · rcases slot_cases b with ⟨b, hb, rfl⟩ | hb
      · exfalso
        rw [n_lt (by omega) (by decide), n_lt (by decide) (by omega), n_lt (by omega) (by decide), n_lt (by decide) (by omega), n_lt (by omega) (by decide), n_lt (by decide) (by omega)] at hx
        omega
      · simp (disch := omega) only [↓grd_u, ↓bnd_e, ↓orf_u, ↓oif_u, ↓cal_u, ↓calX_u, ↓inrO_u, ↓reduceIte, EM, EMg, EMs, z0, oi, n_inbT, n_cntT, n_ltT, n_ltF, n_leT, n_leF, n_eqT, n_eqF, n_m1T, n_m1F, n_m1F', n_cl, n_add, n_mul, ro_at, ro_ro, up_at, up_up, m_isSlotT, m_isSlotF hb]
    · simp (disch := omega) only [↓grd_u, ↓bnd_e, ↓orf_u, ↓oif_u, ↓cal_u, ↓calX_u, ↓inrO_u, ↓reduceIte, EM, EMg, EMs, z0, oi, n_inbT, n_cntT, n_ltT, n_ltF, n_leT, n_leF, n_eqT, n_eqF, n_m1T, n_m1F, n_m1F', n_cl, n_add, n_mul, ro_at, ro_ro, up_at, up_up, m_isSlotT, m_isSlotF ha]
  · simp (disch := omega) only [↓grd_u, ↓bnd_e, ↓orf_u, ↓oif_u, ↓cal_u, ↓calX_u, ↓inrO_u, ↓reduceIte, EM, EMg, EMs, z0, oi, n_inbT, n_cntT, n_ltT, n_ltF, n_leT, n_leF, n_eqT, n_eqF, n_m1T, n_m1F, n_m1F', n_cl, n_add, n_mul, ro_at, ro_ro, up_at, up_up, m_isSlotF hv]
theorem m_notTwo2 {v a b : Nat} {o : Int32} (hi : IM M S) (hg : GoodS S) (hv : v < 6) (ha : a < 6) (hb : b < 6) (hp : lP (sCur S) a = [] ∨ lP (sCur S) b = []) : f_X12_notTwo (ma n 0) (nI v) (nI a) (nI b) o (E n h A M R) = some (nI 2, E n h A M R) := by
  unfold f_X12_notTwo g_X12_notTwo_39
  simp (disch := omega) only [↓grd_u, ↓bnd_e, ↓orf_u, ↓oif_u, ↓cal_u, ↓calX_u, ↓inrO_u, ↓reduceIte, EM, EMg, EMs, z0, oi, n_inbT, n_cntT, n_ltT, n_ltF, n_leT, n_leF, n_eqT, n_eqF, n_m1T, n_m1F, n_m1F', n_cl, n_add, n_mul, ro_at, ro_ro, up_at, up_up, m_isSlotT]
  by_cases pa : lP (sCur S) a = []
  · simp (disch := omega) only [↓grd_u, ↓bnd_e, ↓orf_u, ↓oif_u, ↓cal_u, ↓calX_u, ↓inrO_u, ↓reduceIte, EM, EMg, EMs, z0, oi, n_inbT, n_cntT, n_ltT, n_ltF, n_leT, n_leF, n_eqT, n_eqF, n_m1T, n_m1F, n_m1F', n_cl, n_add, n_mul, ro_at, ro_ro, up_at, up_up, holdsF hi ha pa]
  · simp (disch := omega) only [↓grd_u, ↓bnd_e, ↓orf_u, ↓oif_u, ↓cal_u, ↓calX_u, ↓inrO_u, ↓reduceIte, EM, EMg, EMs, z0, oi, n_inbT, n_cntT, n_ltT, n_ltF, n_leT, n_leF, n_eqT, n_eqF, n_m1T, n_m1F, n_m1F', n_cl, n_add, n_mul, ro_at, ro_ro, up_at, up_up, holdsT hi hg ha pa, holdsF hi hb (hp.resolve_left pa)]
/-- the first thing that each call does: nothing is thrown yet -/
theorem IM_thrown {v : Int32} (hi : IM M S) : IM (ro M 0 (up (M 0) 0 v)) S := IM_fr hi (Fr_r0 (rows := []) (sc := [0]) _ (by decide)) (by decide) (by decide)
/-- what a failing call leaves -/
theorem m_failed {M1 : Nat → Nat → Int32} {k : Nat} (hi : IM M1 S) : ∃ M', f_X12_fails (ma n 0) (nI k) (E n h A M1 R) = some (nI 0, E n h A M' R) ∧ IM M' S ∧ M' 0 0 = nI k := ⟨_, m_fails, IM_thrown hi, by rw [ro_at, up_at]⟩
/-- what is built is put into a slot -/
theorem m_laid {s : Nat} {p : List Nat} (hi : IM M S) (hg : GoodS S) (hs : s < 6) (hB : Blt M p) (hp : p.length ≤ 28) (ht : M 0 0 = nI 0) : ∃ M1 M', f_X12_remembers (ma n 0) (E n h A M R) = some ((), E n h A M1 R) ∧ f_X12_lays (ma n 0) (nI s) (E n h A M1 R) = some (nI (nLet p), E n h A M' R) ∧ IM M' (remember S (putP (sCur S) s p)) ∧ M' 0 0 = nI 0 := by
  obtain ⟨M1, e1, i1, f1⟩ := m_remembers (n := n) (h := h) (A := A) (R := R) hi
  have hB1 : Blt M1 p := ⟨by rw [f1.2 _ (by decide)]; exact hB.1, fun k hk => by rw [f1.1 _ (by decide) (by decide)]; exact hB.2.1 k hk, hB.2.2⟩
  have hl := m_lays (n := n) (h := h) (A := A) (R := R) (L := sCur S) hs hB1 hp i1.1
  exact ⟨M1, _, e1, hl, IM_set i1, by rw [ro_ne _ _ (by decide), f1.2 _ (by decide)]; exact ht⟩
theorem m_makes {v a b : Int32} {o : Nat} (hi : IM M S) (hg : GoodS S) (ho : o = 4 ∨ o = 5) : ∃ M', f_X12_makes (ma n 0) v a b (nI o) (E n h A M R) = some (nI (aTwo S (slN v) (slN a) (slN b) o).2.1, E n h A M' R) ∧ IM M' (aTwo S (slN v) (slN a) (slN b) o).2.2 ∧ M' 0 0 = nI (aTwo S (slN v) (slN a) (slN b) o).1 := by
  unfold f_X12_makes
  have h0 : IM (ro M 0 (up (M 0) 0 (nI 0))) S := IM_thrown hi
  by_cases hx : (v < nI 0 ∨ nI 5 < v) ∨ (a < nI 0 ∨ nI 5 < a) ∨ (b < nI 0 ∨ nI 5 < b)
  · obtain ⟨M', e, i, t⟩ := m_failed (n := n) (h := h) (A := A) (R := R) (k := 1) h0
    have hz : aTwo S (slN v) (slN a) (slN b) o = (1, 0, S) := by
      unfold aTwo
      rcases hx with hx | hx | hx
      · rw [slN_F hx]
      · rw [slN_F hx]
        cases slN v <;> rfl
      · rw [slN_F hx]
        cases slN v <;> cases slN a <;> rfl
    rw [hz]
    refine ⟨M', ?_, i, t⟩
    simp (disch := omega) only [↓grd_u, ↓bnd_e, ↓orf_u, ↓oif_u, ↓cal_u, ↓calX_u, ↓inrO_u, ↓reduceIte, EM, EMg, EMs, z0, oi, n_inbT, n_cntT, n_ltT, n_ltF, n_leT, n_leF, n_eqT, n_eqF, n_m1T, n_m1F, n_m1F', n_cl, n_add, n_mul, ro_at, ro_ro, up_at, up_up, m_notTwo1 hx]
    simp (disch := omega) only [↓grd_u, ↓bnd_e, ↓orf_u, ↓oif_u, ↓cal_u, ↓calX_u, ↓inrO_u, ↓reduceIte, EM, EMg, EMs, z0, oi, n_inbT, n_cntT, n_ltT, n_ltF, n_leT, n_leF, n_eqT, n_eqF, n_m1T, n_m1F, n_m1F', n_cl, n_add, n_mul, ro_at, ro_ro, up_at, up_up, e]
  · rcases slot_cases v with ⟨v, hv, rfl⟩ | hv
    case inr => exact absurd (Or.inl hv) hx
    rcases slot_cases a with ⟨a, ha, rfl⟩ | ha
    case inr => exact absurd (Or.inr (Or.inl ha)) hx
    rcases slot_cases b with ⟨b, hb, rfl⟩ | hb
    case inr => exact absurd (Or.inr (Or.inr hb)) hx
    rw [slN_T hv, slN_T ha, slN_T hb]
    by_cases hp : lP (sCur S) a = [] ∨ lP (sCur S) b = []
    · obtain ⟨M', e, i, t⟩ := m_failed (n := n) (h := h) (A := A) (R := R) (k := 2) h0
      have hz : aTwo S (some v) (some a) (some b) o = (2, 0, S) := by unfold aTwo; exact if_pos hp
      rw [hz]
      refine ⟨M', ?_, i, t⟩
      simp (disch := omega) only [↓grd_u, ↓bnd_e, ↓orf_u, ↓oif_u, ↓cal_u, ↓calX_u, ↓inrO_u, ↓reduceIte, EM, EMg, EMs, z0, oi, n_inbT, n_cntT, n_ltT, n_ltF, n_leT, n_leF, n_eqT, n_eqF, n_m1T, n_m1F, n_m1F', n_cl, n_add, n_mul, ro_at, ro_ro, up_at, up_up, m_notTwo2 h0 hg hv ha hb hp]
      simp (disch := omega) only [↓grd_u, ↓bnd_e, ↓orf_u, ↓oif_u, ↓cal_u, ↓calX_u, ↓inrO_u, ↓reduceIte, EM, EMg, EMs, z0, oi, n_inbT, n_cntT, n_ltT, n_ltF, n_leT, n_leF, n_eqT, n_eqF, n_m1T, n_m1F, n_m1F', n_cl, n_add, n_mul, ro_at, ro_ro, up_at, up_up, e]
    · have hz : aTwo S (some v) (some a) (some b) o = laid S v (lP (sCur S) a ++ lP (sCur S) b ++ [o]) := by unfold aTwo; exact if_neg hp
      rw [hz]
      have pa : lP (sCur S) a ≠ [] := fun q => hp (Or.inl q)
      have pb : lP (sCur S) b ≠ [] := fun q => hp (Or.inr q)
      have hn := m_notTwo (n := n) (h := h) (A := A) (R := R) (o := o) h0 hg hv ha hb pa pb (by omega)
      have iB : IM (bltM (ro M 0 (up (M 0) 0 (nI 0))) (lP (sCur S) a ++ lP (sCur S) b ++ [o])) S := IM_fr h0 bltM_fr (by decide) (by decide)
      unfold laid
      by_cases ht : 7 < nLet (lP (sCur S) a ++ lP (sCur S) b ++ [o]) ∨ 9 < nSig (lP (sCur S) a ++ lP (sCur S) b ++ [o])
      · rw [if_pos ht] at hn ⊢
        obtain ⟨M', e, i, t⟩ := m_failed (n := n) (h := h) (A := A) (R := R) (k := 3) iB
        refine ⟨M', ?_, i, t⟩
        simp (disch := omega) only [↓grd_u, ↓bnd_e, ↓orf_u, ↓oif_u, ↓cal_u, ↓calX_u, ↓inrO_u, ↓reduceIte, EM, EMg, EMs, z0, oi, n_inbT, n_cntT, n_ltT, n_ltF, n_leT, n_leF, n_eqT, n_eqF, n_m1T, n_m1F, n_m1F', n_cl, n_add, n_mul, ro_at, ro_ro, up_at, up_up, hn]
        simp (disch := omega) only [↓grd_u, ↓bnd_e, ↓orf_u, ↓oif_u, ↓cal_u, ↓calX_u, ↓inrO_u, ↓reduceIte, EM, EMg, EMs, z0, oi, n_inbT, n_cntT, n_ltT, n_ltF, n_leT, n_leF, n_eqT, n_eqF, n_m1T, n_m1F, n_m1F', n_cl, n_add, n_mul, ro_at, ro_ro, up_at, up_up, e]
      · rw [if_neg ht] at hn ⊢
        have wf : WF (lP (sCur S) a ++ lP (sCur S) b ++ [o]) := WF_bin (GoodP_wf (hg.1.1 a ha) pa) (GoodP_wf (hg.1.1 b hb) pb) ho
        have gp : GoodP (lP (sCur S) a ++ lP (sCur S) b ++ [o]) := Or.inr ⟨wf, ht⟩
        have gl := GoodP_len gp
        obtain ⟨M1, M', e1, e2, i, t⟩ := m_laid (n := n) (h := h) (A := A) (R := R) (s := v) iB hg hv (bltM_ok (by omega) (GoodP_small gp)) (by omega) (by rw [bltM_fr.2 _ (by decide), ro_at, up_at])
        refine ⟨M', ?_, i, t⟩
        simp (disch := omega) only [↓grd_u, ↓bnd_e, ↓orf_u, ↓oif_u, ↓cal_u, ↓calX_u, ↓inrO_u, ↓reduceIte, EM, EMg, EMs, z0, oi, n_inbT, n_cntT, n_ltT, n_ltF, n_leT, n_leF, n_eqT, n_eqF, n_m1T, n_m1F, n_m1F', n_cl, n_add, n_mul, ro_at, ro_ro, up_at, up_up, hn]
        simp (disch := omega) only [↓grd_u, ↓bnd_e, ↓orf_u, ↓oif_u, ↓cal_u, ↓calX_u, ↓inrO_u, ↓reduceIte, EM, EMg, EMs, z0, oi, n_inbT, n_cntT, n_ltT, n_ltF, n_leT, n_leF, n_eqT, n_eqF, n_m1T, n_m1F, n_m1F', n_cl, n_add, n_mul, ro_at, ro_ro, up_at, up_up, e1, e2]
end MODELP
