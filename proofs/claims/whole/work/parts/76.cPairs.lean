/-! the class: states told apart by marking pairs -/
theorem pidx {L i j : Nat} (hL : L ≤ 129) (hi : i < L) (hj : j < L) : i * L + j < 16641 := by
  have h1 : (i + 1) * L ≤ L * L := Nat.mul_le_mul_right _ hi
  rw [Nat.add_mul, Nat.one_mul] at h1
  have h2 : L * L ≤ 129 * 129 := Nat.mul_le_mul hL hL
  omega
theorem pinj {L i j i' j' : Nat} (hj : j < L) (hj' : j' < L) (h : i * L + j = i' * L + j') : i = i' ∧ j = j' := by
  have e1 : (i * L + j) / L = i := by
    rw [Nat.mul_comm, Nat.mul_add_div (by omega), Nat.div_eq_of_lt hj, Nat.add_zero]
  have e2 : (i' * L + j') / L = i' := by
    rw [Nat.mul_comm, Nat.mul_add_div (by omega), Nat.div_eq_of_lt hj', Nat.add_zero]
  have e : i = i' := by rw [← e1, h, e2]
  subst e
  exact ⟨rfl, by omega⟩
section GRR
variable {g : Glu}
theorem gR_eqv (g : Glu) : eqv (gR g) := mr_eqv (gS g) (gA g) 200
theorem gR_next (ok : GluOK g) {i j c : Nat} (hi : i < gL g) (hj : j < gL g) (hc : c < 3) (h : gR g i j = true) : gR g (gS g i c) (gS g j c) = true := by
  have st := mc_L (ac := gA g) (gL_pos g) (gS_lt ok) 200 (by have := gL_le ok; omega)
  have := mr_iff (gS_lt ok) st 1 i j hi hj
  unfold gR at h ⊢
  rw [h] at this
  exact (mr_s.mp this).2 c hc
end GRR
def MkC (A : Nat → Nat → Int32) (L : Nat) (mk : Nat → Nat → Bool) : Prop := ∀ i j, i < L → j < L → A 91 (i * L + j) = nI (b2 (mk i j))
def up2 (mk : Nat → Nat → Bool) (i j : Nat) : Nat → Nat → Bool := fun x y => (decide (x = i ∧ y = j)) || ((decide (x = j ∧ y = i)) || mk x y)
def leads (g : Glu) (mk : Nat → Nat → Bool) (i j : Nat) : Prop := ∃ c, c < 3 ∧ mk (gS g i c) (gS g j c) = true
/-- marks: both ways, only where the states are told apart -/
def MkI (g : Glu) (mk : Nat → Nat → Bool) : Prop := (∀ i j, i < gL g → j < gL g → mk i j = mk j i) ∧ (∀ i j, i < gL g → j < gL g → mk i j = true → gR g i j = false)
theorem up2_le {mk : Nat → Nat → Bool} {i j x y : Nat} (h : mk x y = true) : up2 mk i j x y = true := by unfold up2; rw [h, Bool.or_true, Bool.or_true]
theorem up2_I {g : Glu} {mk : Nat → Nat → Bool} {i j : Nat} (ok : GluOK g) (hi : i < gL g) (hj : j < gL g) (h : MkI g mk) (hl : leads g mk i j) : MkI g (up2 mk i j) := by
  have hR : gR g i j = false := by
    cases z : gR g i j with
    | false => rfl
    | true =>
      obtain ⟨c, hc, hm⟩ := hl
      have h1 := gR_next ok hi hj hc z
      rw [h.2 _ _ (gS_lt ok i c hi hc) (gS_lt ok j c hj hc) hm] at h1
      cases h1
  have hR' : gR g j i = false := by
    cases z : gR g j i with
    | false => rfl
    | true =>
      rw [(gR_eqv g).2.1 _ _ z] at hR
      cases hR
  refine ⟨fun x y hx hy => ?_, fun x y hx hy hm => ?_⟩
  · unfold up2
    rw [h.1 x y hx hy]
    have e1 : decide (x = i ∧ y = j) = decide (y = j ∧ x = i) := by rw [decide_eq_decide]; exact And.comm
    have e2 : decide (x = j ∧ y = i) = decide (y = i ∧ x = j) := by rw [decide_eq_decide]; exact And.comm
    rw [e1, e2, ← Bool.or_assoc, ← Bool.or_assoc, Bool.or_comm (decide (y = j ∧ x = i))]
  · unfold up2 at hm
    rw [Bool.or_eq_true, Bool.or_eq_true, decide_eq_true_eq, decide_eq_true_eq] at hm
    rcases hm with ⟨rfl, rfl⟩ | ⟨rfl, rfl⟩ | hm
    · exact hR
    · exact hR'
    · exact h.2 x y hx hy hm
section CPAIRS
variable {n : Nat} {h : mH} {A M : Nat → Nat → Int32} {R : Nat → Nat → Option Nat} {S : St} {c0 : Nat} {g : Glu} {mk : Nat → Nat → Bool}
theorem bAu_90 (hc : bAu c0) : c0 + 14 ≤ 78 := by rcases hc with rfl | rfl <;> omega
theorem AuF_91 {F : Nat → Int32} (hc : bAu c0) (hu : AuF A c0 g) : AuF (ro A 91 F) c0 g := AuF_fr hu (fun r h1 h2 => ro_ne _ _ (by have := bAu_90 hc; omega))
theorem c_isMk {i j : Nat} (ok : GluOK g) (hm : MkC A (gL g) mk) (hi : i < gL g) (hj : j < gL g) : f_X3_isMarked (ca n 90) (nI i) (nI j) (nI (gL g)) (E n h A M R) = some (nI (b2 (mk i j)), E n h A M R) := by
  have hL := gL_le ok
  have hp := pidx hL hi hj
  have e := hm i j hi hj
  unfold f_X3_isMarked g_X3_isMarked_34 g_X3_isMarked_35
  cases z : mk i j with
  | true =>
    rw [z] at e
    have e : A 91 (i * gL g + j) = nI 1 := e
    show _ = some (nI 1, _)
    simp (disch := omega) only [↓grd_u, ↓bnd_e, ↓orf_u, ↓oif_u, ↓cal_u, ↓calX_u, ↓inrO_u, ↓reduceIte, EM, EMg, EMs, z0, oi, n_inbT, n_cntT, n_ltT, n_ltF, n_leT, n_leF, n_eqT, n_eqF, n_m1T, n_m1F, n_m1F', n_cl, n_add, n_mul, ro_at, ro_ro, up_at, up_up, EC, ECg, e, nz1]
  | false =>
    rw [z] at e
    have e : A 91 (i * gL g + j) = nI 0 := e
    show _ = some (nI 0, _)
    simp (disch := omega) only [↓grd_u, ↓bnd_e, ↓orf_u, ↓oif_u, ↓cal_u, ↓calX_u, ↓inrO_u, ↓reduceIte, EM, EMg, EMs, z0, oi, n_inbT, n_cntT, n_ltT, n_ltF, n_leT, n_leF, n_eqT, n_eqF, n_m1T, n_m1F, n_m1F', n_cl, n_add, n_mul, ro_at, ro_ro, up_at, up_up, EC, ECg, e, nz0]
theorem c_mark {q : Nat} (hq : q < 16641) : f_X3_mark (ca n 90) (nI q) (E n h A M R) = some ((), E n h (ro A 91 (up (A 91) q (nI 1))) M R) := by
  unfold f_X3_mark g_X3_mark_18
  simp (disch := omega) only [↓grd_u, ↓bnd_e, ↓orf_u, ↓oif_u, ↓cal_u, ↓calX_u, ↓inrO_u, ↓reduceIte, EM, EMg, EMs, z0, oi, n_inbT, n_cntT, n_ltT, n_ltF, n_leT, n_leF, n_eqT, n_eqF, n_m1T, n_m1F, n_m1F', n_cl, n_add, n_mul, ro_at, ro_ro, up_at, up_up, EC, ECs]
theorem MkC_2 {i j : Nat} (hi : i < gL g) (hj : j < gL g) (hm : MkC A (gL g) mk) : MkC (ro A 91 (up (up (A 91) (i * gL g + j) (nI 1)) (j * gL g + i) (nI 1))) (gL g) (up2 mk i j) := fun x y hx hy => by
  rw [ro_at]
  unfold up2
  by_cases e1 : x * gL g + y = j * gL g + i
  · obtain ⟨rfl, rfl⟩ := pinj hy hi e1
    rw [up_at]
    simp [b2]
  · rw [up_ne _ _ e1]
    by_cases e2 : x * gL g + y = i * gL g + j
    · obtain ⟨rfl, rfl⟩ := pinj hy hj e2
      rw [up_at]
      simp [b2]
    · rw [up_ne _ _ e2, hm x y hx hy]
      have n1 : ¬ (x = i ∧ y = j) := fun z => e2 (by rw [z.1, z.2])
      have n2 : ¬ (x = j ∧ y = i) := fun z => e1 (by rw [z.1, z.2])
      rw [decide_eq_false n1, decide_eq_false n2]
      rfl
theorem c_leads {i j : Nat} (hc : bAu c0) (ok : GluOK g) (hu : AuF A c0 g) (hm : MkC A (gL g) mk) (hi : i < gL g) (hj : j < gL g) : ∃ v, f_X3_leadApart (ca n 90) (ca n c0) (nI i) (nI j) (E n h A M R) = some (nI v, E n h A M R) ∧ ((v = 1 ∧ leads g mk i j) ∨ (v = 0 ∧ ¬ leads g mk i j)) := by
  have e1 := EAu hc
  have key : ∃ r, g_X3_leadApart_3 (ca n 90) (ca n c0) (nI i) (nI j) (nI 0) (E n h A M R) = some r ∧ ∃ v, r = (nI v, E n h A M R) ∧ ((v = 1 ∧ leads g mk i j) ∨ (v = 0 ∧ ¬ leads g mk i j)) := by
    unfold g_X3_leadApart_3
    refine lp_inv0 (f := b_X3_leadApart_3 (ca n 90) (ca n c0) (nI i) (nI j)) (fun c s' => s' = (nI c, E n h A M R) ∧ ∀ d, d < c → mk (gS g i d) (gS g j d) = false) _ 3 (fun c s' hc3 hI => ?_) (L := 100000) (by decide) ⟨rfl, fun j hj => absurd hj (Nat.not_lt_zero _)⟩
    obtain ⟨rfl, hn⟩ := hI
    unfold b_X3_leadApart_3 b0_X3_leadApart_3
    by_cases hc4 : c < 3
    · have s1 := c_step (n := n) (h := h) (A := A) (M := M) (R := R) hc hu ok hi hc4
      have s2 := c_step (n := n) (h := h) (A := A) (M := M) (R := R) hc hu ok hj hc4
      have hz := c_ssize (n := n) (h := h) (M := M) (R := R) hc hu
      have hk := c_isMk (n := n) (h := h) (M := M) (R := R) ok hm (gS_lt ok i c hi hc4) (gS_lt ok j c hj hc4)
      cases z : mk (gS g i c) (gS g j c) with
      | true =>
        rw [z] at hk
        have hk : f_X3_isMarked (ca n 90) (nI (gS g i c)) (nI (gS g j c)) (nI (gL g)) (E n h A M R) = some (nI 1, E n h A M R) := hk
        refine Or.inr ⟨(nI 1, E n h A M R), ?_, 1, rfl, Or.inl ⟨rfl, c, hc4, z⟩⟩
        simp (disch := omega) only [↓grd_u, ↓bnd_e, ↓orf_u, ↓oif_u, ↓cal_u, ↓calX_u, ↓inrO_u, ↓reduceIte, EM, EMg, EMs, z0, oi, n_inbT, n_cntT, n_ltT, n_ltF, n_leT, n_leF, n_eqT, n_eqF, n_m1T, n_m1F, n_m1F', n_cl, n_add, n_mul, ro_at, ro_ro, up_at, up_up, EC, e1, s1, s2, hz, hk]
      | false =>
        rw [z] at hk
        have hk : f_X3_isMarked (ca n 90) (nI (gS g i c)) (nI (gS g j c)) (nI (gL g)) (E n h A M R) = some (nI 0, E n h A M R) := hk
        refine Or.inl ⟨(nI (c + 1), E n h A M R), ?_, hc4, rfl, fun d hd => ?_⟩
        · simp (disch := omega) only [↓grd_u, ↓bnd_e, ↓orf_u, ↓oif_u, ↓cal_u, ↓calX_u, ↓inrO_u, ↓reduceIte, EM, EMg, EMs, z0, oi, n_inbT, n_cntT, n_ltT, n_ltF, n_leT, n_leF, n_eqT, n_eqF, n_m1T, n_m1F, n_m1F', n_cl, n_add, n_mul, ro_at, ro_ro, up_at, up_up, EC, e1, s1, s2, hz, hk]
        · by_cases e : d = c
          · rw [e]; exact z
          · exact hn d (by omega)
    · have hce : c = 3 := by omega
      subst hce
      refine Or.inr ⟨(nI 0, E n h A M R), ?_, 0, rfl, Or.inr ⟨rfl, ?_⟩⟩
      · simp (disch := omega) only [↓grd_u, ↓bnd_e, ↓orf_u, ↓oif_u, ↓cal_u, ↓calX_u, ↓inrO_u, ↓reduceIte, EM, EMg, EMs, z0, oi, n_inbT, n_cntT, n_ltT, n_ltF, n_leT, n_leF, n_eqT, n_eqF, n_m1T, n_m1F, n_m1F', n_cl, n_add, n_mul, ro_at, ro_ro, up_at, up_up]
      · rintro ⟨d, hd, hm⟩
        rw [hn d hd] at hm
        cases hm
  obtain ⟨r, e, v, rfl, hv⟩ := key
  refine ⟨v, ?_, hv⟩
  unfold f_X3_leadApart
  rw [oi.1, e]
/-- one round of marking, so far: pairs (i, j) with j < i that were visited -/
def Rnd (g : Glu) (mk mk' : Nat → Nat → Bool) (ch : Nat) (vis : Nat → Nat → Prop) : Prop := MkI g mk' ∧ ch ≤ 1 ∧ (∀ x y, mk x y = true → mk' x y = true) ∧ (∀ x y, vis x y → leads g mk x y → mk' x y = true) ∧ (ch = 0 → mk' = mk ∧ ∀ x y, vis x y → mk x y = false → ¬ leads g mk x y)
theorem c_mm14 {i ch : Nat} {mk0 : Nat → Nat → Bool} (hc : bAu c0) (ok : GluOK g) (hu : AuF A c0 g) (hm : MkC A (gL g) mk) (hi : i < gL g) (hr : Rnd g mk0 mk ch (fun x y => x < i ∧ y < x)) :
    ∃ A' mk' ch', g_X3_markMore_14 (ca n 90) (ca n c0) (nI (gL g)) (nI ch) (nI i) (nI 0) (E n h A M R) = some (.inl (nI ch', nI (i + 1), E n h A' M R)) ∧ MkC A' (gL g) mk' ∧ Rnd g mk0 mk' ch' (fun x y => x < i + 1 ∧ y < x) ∧ ∀ r, r ≠ 91 → A' r = A r := by
  have hL := gL_le ok
  have key : ∃ r, g_X3_markMore_14 (ca n 90) (ca n c0) (nI (gL g)) (nI ch) (nI i) (nI 0) (E n h A M R) = some r ∧ ∃ A' mk' ch', r = .inl (nI ch', nI (i + 1), E n h A' M R) ∧ MkC A' (gL g) mk' ∧ Rnd g mk0 mk' ch' (fun x y => x < i + 1 ∧ y < x) ∧ ∀ r, r ≠ 91 → A' r = A r := by
    unfold g_X3_markMore_14
    refine lp_inv0 (f := b_X3_markMore_14 (ca n 90) (ca n c0) (nI (gL g)) (nI i)) (fun j s' => ∃ A1 mk1 ch1, s' = (nI ch1, nI j, E n h A1 M R) ∧ MkC A1 (gL g) mk1 ∧ Rnd g mk0 mk1 ch1 (fun x y => (x < i ∧ y < x) ∨ (x = i ∧ y < j)) ∧ ∀ r, r ≠ 91 → A1 r = A r) _ i (fun j s' hj hI => ?_) (L := 100000) (by omega) ⟨A, mk, ch, rfl, hm, ?_, fun _ _ => rfl⟩
    · obtain ⟨A1, mk1, ch1, rfl, hm1, ⟨r1, r2, r3, r4, r5⟩, f1⟩ := hI
      have hu1 : AuF A1 c0 g := AuF_fr hu (fun r h1 h2 => f1 r (by have := bAu_90 hc; omega))
      unfold b_X3_markMore_14 b0_X3_markMore_14 g_X3_markMore_69
      by_cases hj2 : j < i
      · have hjL : j < gL g := by omega
        have hk := c_isMk (n := n) (h := h) (M := M) (R := R) ok hm1 hi hjL
        obtain ⟨v, hl, hv⟩ := c_leads (n := n) (h := h) (M := M) (R := R) hc ok hu1 hm1 hi hjL
        cases z : mk1 i j with
        | true =>
          rw [z] at hk
          have hk : f_X3_isMarked (ca n 90) (nI i) (nI j) (nI (gL g)) (E n h A1 M R) = some (nI 1, E n h A1 M R) := hk
          refine Or.inl ⟨(nI ch1, nI (j + 1), E n h A1 M R), ?_, hj2, A1, mk1, ch1, rfl, hm1, ⟨r1, r2, r3, fun x y hxy hle => ?_, fun h0 => ⟨(r5 h0).1, fun x y hxy hf => ?_⟩⟩, f1⟩
          · simp (disch := omega) only [↓grd_u, ↓bnd_e, ↓orf_u, ↓oif_u, ↓cal_u, ↓calX_u, ↓inrO_u, ↓reduceIte, EM, EMg, EMs, z0, oi, n_inbT, n_cntT, n_ltT, n_ltF, n_leT, n_leF, n_eqT, n_eqF, n_m1T, n_m1F, n_m1F', n_cl, n_add, n_mul, ro_at, ro_ro, up_at, up_up, EC, hk]
          · by_cases e : x = i ∧ y = j
            · rw [e.1, e.2]; exact z
            · exact r4 x y (by omega) hle
          · by_cases e : x = i ∧ y = j
            · rw [e.1, e.2, ← (r5 h0).1, z] at hf
              cases hf
            · exact (r5 h0).2 x y (by omega) hf
        | false =>
          rw [z] at hk
          have hk : f_X3_isMarked (ca n 90) (nI i) (nI j) (nI (gL g)) (E n h A1 M R) = some (nI 0, E n h A1 M R) := hk
          rcases hv with ⟨rfl, hle⟩ | ⟨rfl, hle⟩
          · have p1 := pidx hL hi hjL
            have p2 := pidx hL hjL hi
            have k1 := c_mark (n := n) (h := h) (A := A1) (M := M) (R := R) p1
            have k2 := c_mark (n := n) (h := h) (A := ro A1 91 (up (A1 91) (i * gL g + j) (nI 1))) (M := M) (R := R) p2
            rw [ro_at, ro_ro] at k2
            refine Or.inl ⟨(nI 1, nI (j + 1), E n h (ro A1 91 (up (up (A1 91) (i * gL g + j) (nI 1)) (j * gL g + i) (nI 1))) M R), ?_, hj2, _, up2 mk1 i j, 1, rfl, MkC_2 hi hjL hm1, ⟨up2_I ok hi hjL r1 hle, Nat.le_refl _, fun x y hxy => up2_le (r3 x y hxy), fun x y hxy hle2 => ?_, fun h0 => absurd h0 (by decide)⟩, fun r hr => by rw [ro_ne _ _ hr]; exact f1 r hr⟩
            · simp (disch := omega) only [↓grd_u, ↓bnd_e, ↓orf_u, ↓oif_u, ↓cal_u, ↓calX_u, ↓inrO_u, ↓reduceIte, EM, EMg, EMs, z0, oi, n_inbT, n_cntT, n_ltT, n_ltF, n_leT, n_leF, n_eqT, n_eqF, n_m1T, n_m1F, n_m1F', n_cl, n_add, n_mul, ro_at, ro_ro, up_at, up_up, EC, hk, hl, k1, k2]
            · by_cases e : x = i ∧ y = j
              · rw [e.1, e.2]; unfold up2; simp
              · exact up2_le (r4 x y (by omega) hle2)
          · refine Or.inl ⟨(nI ch1, nI (j + 1), E n h A1 M R), ?_, hj2, A1, mk1, ch1, rfl, hm1, ⟨r1, r2, r3, fun x y hxy hle2 => ?_, fun h0 => ⟨(r5 h0).1, fun x y hxy hf => ?_⟩⟩, f1⟩
            · simp (disch := omega) only [↓grd_u, ↓bnd_e, ↓orf_u, ↓oif_u, ↓cal_u, ↓calX_u, ↓inrO_u, ↓reduceIte, EM, EMg, EMs, z0, oi, n_inbT, n_cntT, n_ltT, n_ltF, n_leT, n_leF, n_eqT, n_eqF, n_m1T, n_m1F, n_m1F', n_cl, n_add, n_mul, ro_at, ro_ro, up_at, up_up, EC, hk, hl]
            · by_cases e : x = i ∧ y = j
              · obtain ⟨c, hc5, hcm⟩ := hle2
                exact absurd ⟨c, hc5, by rw [← e.1, ← e.2]; exact r3 _ _ hcm⟩ hle
              · exact r4 x y (by omega) hle2
            · by_cases e : x = i ∧ y = j
              · rw [e.1, e.2, ← (r5 h0).1]
                exact hle
              · exact (r5 h0).2 x y (by omega) hf
      · have hje : j = i := by omega
        refine Or.inr ⟨.inl (nI ch1, nI (i + 1), E n h A1 M R), ?_, A1, mk1, ch1, rfl, hm1, ⟨r1, r2, r3, fun x y hxy => r4 x y (by omega), fun h0 => ⟨(r5 h0).1, fun x y hxy => (r5 h0).2 x y (by omega)⟩⟩, f1⟩
        rw [hje]
        simp (disch := omega) only [↓grd_u, ↓bnd_e, ↓orf_u, ↓oif_u, ↓cal_u, ↓calX_u, ↓inrO_u, ↓reduceIte, EM, EMg, EMs, z0, oi, n_inbT, n_cntT, n_ltT, n_ltF, n_leT, n_leF, n_eqT, n_eqF, n_m1T, n_m1F, n_m1F', n_cl, n_add, n_mul, ro_at, ro_ro, up_at, up_up]
    · obtain ⟨r1, r2, r3, r4, r5⟩ := hr
      exact ⟨r1, r2, r3, fun x y hxy => r4 x y (by omega), fun h0 => ⟨(r5 h0).1, fun x y hxy => (r5 h0).2 x y (by omega)⟩⟩
  obtain ⟨r, e, A', mk', ch', rfl, q1, q2, q3⟩ := key
  exact ⟨A', mk', ch', e, q1, q2, q3⟩
/-- one round of marking -/
theorem c_markMore {t : Nat} (hc : bAu c0) (ok : GluOK g) (hu : AuF A c0 g) (hm : MkC A (gL g) mk) (hI : MkI g mk) (hcm : ∀ x y, x < gL g → y < gL g → mr (gS g) (gA g) t x y = false → mk x y = true) :
    ∃ A' mk' ch', f_X3_markMore (ca n 90) (ca n c0) (nI (gL g)) (E n h A M R) = some (nI ch', E n h A' M R) ∧ ch' ≤ 1 ∧ MkC A' (gL g) mk' ∧ MkI g mk' ∧ (∀ x y, x < gL g → y < gL g → mr (gS g) (gA g) (t + 1) x y = false → mk' x y = true) ∧ (ch' = 0 → ∀ x y, x < gL g → y < gL g → mk' x y = false → ∀ c, c < 3 → mk' (gS g x c) (gS g y c) = false) ∧ ∀ r, r ≠ 91 → A' r = A r := by
  have hL := gL_le ok
  have key : ∃ r, g_X3_markMore_5 (ca n 90) (ca n c0) (nI (gL g)) (nI 0) (nI 0) (E n h A M R) = some r ∧ ∃ A' mk' ch', r = (nI ch', E n h A' M R) ∧ MkC A' (gL g) mk' ∧ Rnd g mk mk' ch' (fun x y => x < gL g ∧ y < x) ∧ ∀ r, r ≠ 91 → A' r = A r := by
    unfold g_X3_markMore_5
    refine lp_inv0 (f := b_X3_markMore_5 (ca n 90) (ca n c0) (nI (gL g))) (fun i s' => ∃ A1 mk1 ch1, s' = (nI ch1, nI i, E n h A1 M R) ∧ MkC A1 (gL g) mk1 ∧ Rnd g mk mk1 ch1 (fun x y => x < i ∧ y < x) ∧ ∀ r, r ≠ 91 → A1 r = A r) _ (gL g) (fun i s' hi hJ => ?_) (L := 100000) (by omega) ⟨A, mk, 0, rfl, hm, ⟨hI, by decide, fun x y z => z, fun x y hxy => absurd hxy.1 (Nat.not_lt_zero _), fun _ => ⟨rfl, fun x y hxy => absurd hxy.1 (Nat.not_lt_zero _)⟩⟩, fun _ _ => rfl⟩
    obtain ⟨A1, mk1, ch1, rfl, hm1, hr1, f1⟩ := hJ
    have hu1 : AuF A1 c0 g := AuF_fr hu (fun r h1 h2 => f1 r (by have := bAu_90 hc; omega))
    unfold b_X3_markMore_5 b0_X3_markMore_5
    by_cases hi2 : i < gL g
    · obtain ⟨A2, mk2, ch2, e2, hm2, hr2, f2⟩ := c_mm14 (n := n) (h := h) (M := M) (R := R) hc ok hu1 hm1 hi2 hr1
      refine Or.inl ⟨(nI ch2, nI (i + 1), E n h A2 M R), ?_, hi2, A2, mk2, ch2, rfl, hm2, hr2, fun r hr => (f2 r hr).trans (f1 r hr)⟩
      simp (disch := omega) only [↓grd_u, ↓bnd_e, ↓orf_u, ↓oif_u, ↓cal_u, ↓calX_u, ↓inrO_u, ↓reduceIte, EM, EMg, EMs, z0, oi, n_inbT, n_cntT, n_ltT, n_ltF, n_leT, n_leF, n_eqT, n_eqF, n_m1T, n_m1F, n_m1F', n_cl, n_add, n_mul, ro_at, ro_ro, up_at, up_up, e2]
    · have hie : i = gL g := by omega
      have hn : (vp_nar .boolean (nI ch1) = nI ch1) = True := eq_true (n_nar01 hr1.2.1)
      rw [hie] at hr1
      refine Or.inr ⟨(nI ch1, E n h A1 M R), ?_, A1, mk1, ch1, rfl, hm1, hr1, f1⟩
      simp (disch := omega) only [↓grd_u, ↓bnd_e, ↓orf_u, ↓oif_u, ↓cal_u, ↓calX_u, ↓inrO_u, ↓reduceIte, EM, EMg, EMs, z0, oi, n_inbT, n_cntT, n_ltT, n_ltF, n_leT, n_leF, n_eqT, n_eqF, n_m1T, n_m1F, n_m1F', n_cl, n_add, n_mul, ro_at, ro_ro, up_at, up_up, hn]
  obtain ⟨r, e, A', mk', ch', rfl, q1, ⟨r1, r2, r3, r4, r5⟩, q3⟩ := key
  have hrf : ∀ x, x < gL g → ¬ leads g mk x x := fun x hx => by
    rintro ⟨c, hc5, hcm5⟩
    have h1 := hI.2 _ _ (gS_lt ok x c hx hc5) (gS_lt ok x c hx hc5) hcm5
    rw [(gR_eqv g).1] at h1
    cases h1
  have hsy : ∀ x y, x < gL g → y < gL g → leads g mk x y → leads g mk y x := fun x y hx hy => by
    rintro ⟨c, hc5, hcm5⟩
    exact ⟨c, hc5, by rw [hI.1 _ _ (gS_lt ok y c hy hc5) (gS_lt ok x c hx hc5)]; exact hcm5⟩
  have hall : ∀ x y, x < gL g → y < gL g → leads g mk x y → mk' x y = true := fun x y hx hy hle => by
    rcases Nat.lt_trichotomy x y with z | z | z
    · rw [r1.1 x y hx hy]
      exact r4 y x ⟨hy, z⟩ (hsy x y hx hy hle)
    · rw [z] at hle
      exact absurd hle (hrf y hy)
    · exact r4 x y ⟨hx, z⟩ hle
  refine ⟨A', mk', ch', ?_, r2, q1, r1, fun x y hx hy hmr => ?_, fun h0 x y hx hy hf c hc5 => ?_, q3⟩
  · unfold f_X3_markMore
    rw [oi.1, e]
  · by_cases z : mr (gS g) (gA g) t x y = true
    · have : ∃ c, c < 3 ∧ mr (gS g) (gA g) t (gS g x c) (gS g y c) = false := by
        apply Classical.byContradiction
        intro w
        rw [mr_s.mpr ⟨z, fun c hc5 => by
          cases v : mr (gS g) (gA g) t (gS g x c) (gS g y c) with
          | true => rfl
          | false => exact absurd ⟨c, hc5, v⟩ w⟩] at hmr
        cases hmr
      obtain ⟨c, hc5, hcf⟩ := this
      exact hall x y hx hy ⟨c, hc5, hcm _ _ (gS_lt ok x c hx hc5) (gS_lt ok y c hy hc5) hcf⟩
    · have zf : mr (gS g) (gA g) t x y = false := by
        cases v : mr (gS g) (gA g) t x y with
        | false => rfl
        | true => exact absurd v z
      exact r3 x y (hcm x y hx hy zf)
  · obtain ⟨e5, hno⟩ := r5 h0
    rw [e5] at hf hall ⊢
    cases v : mk (gS g x c) (gS g y c) with
    | false => rfl
    | true =>
      have := hall x y hx hy ⟨c, hc5, v⟩
      rw [hf] at this
      cases this
theorem c_apartE {i : Nat} (ok : GluOK g) (hm : MkC A (gL g) mk) (hmk : ∀ x y, x < gL g → y < gL g → mk x y = !gR g x y) (hi : i < gL g) : f_X3_isApartFromEarlier (ca n 90) (nI i) (nI (gL g)) (E n h A M R) = some (nI (b2 (gH g i)), E n h A M R) := by
  have hL := gL_le ok
  have key : ∃ r, g_X3_isApartFromEarlier_2 (ca n 90) (nI i) (nI (gL g)) (nI 0) (E n h A M R) = some r ∧ r = (nI (b2 (gH g i)), E n h A M R) := by
    unfold g_X3_isApartFromEarlier_2
    refine lp_inv0 (f := b_X3_isApartFromEarlier_2 (ca n 90) (nI i) (nI (gL g))) (fun j s' => s' = (nI j, E n h A M R) ∧ ∀ y, y < j → gR g y i = false) _ i (fun j s' hj hI => ?_) (L := 100000) (by omega) ⟨rfl, fun y hy => absurd hy (Nat.not_lt_zero _)⟩
    obtain ⟨rfl, hn⟩ := hI
    unfold b_X3_isApartFromEarlier_2 b0_X3_isApartFromEarlier_2
    by_cases hj2 : j < i
    · have hk := c_isMk (n := n) (h := h) (M := M) (R := R) ok hm hi (show j < gL g by omega)
      rw [hmk i j hi (by omega)] at hk
      cases z : gR g i j with
      | true =>
        rw [z] at hk
        have hk : f_X3_isMarked (ca n 90) (nI i) (nI j) (nI (gL g)) (E n h A M R) = some (nI 0, E n h A M R) := hk
        refine Or.inr ⟨(nI 0, E n h A M R), ?_, ?_⟩
        · simp (disch := omega) only [↓grd_u, ↓bnd_e, ↓orf_u, ↓oif_u, ↓cal_u, ↓calX_u, ↓inrO_u, ↓reduceIte, EM, EMg, EMs, z0, oi, n_inbT, n_cntT, n_ltT, n_ltF, n_leT, n_leF, n_eqT, n_eqF, n_m1T, n_m1F, n_m1F', n_cl, n_add, n_mul, ro_at, ro_ro, up_at, up_up, EC, hk]
        · have : gH g i = false := by
            cases w : gH g i with
            | false => rfl
            | true =>
              have := hd_no.mp w j hj2
              rw [(gR_eqv g).2.1 _ _ z] at this
              cases this
          rw [this]
          rfl
      | false =>
        rw [z] at hk
        have hk : f_X3_isMarked (ca n 90) (nI i) (nI j) (nI (gL g)) (E n h A M R) = some (nI 1, E n h A M R) := hk
        refine Or.inl ⟨(nI (j + 1), E n h A M R), ?_, hj2, rfl, fun y hy => ?_⟩
        · simp (disch := omega) only [↓grd_u, ↓bnd_e, ↓orf_u, ↓oif_u, ↓cal_u, ↓calX_u, ↓inrO_u, ↓reduceIte, EM, EMg, EMs, z0, oi, n_inbT, n_cntT, n_ltT, n_ltF, n_leT, n_leF, n_eqT, n_eqF, n_m1T, n_m1F, n_m1F', n_cl, n_add, n_mul, ro_at, ro_ro, up_at, up_up, EC, hk]
        · by_cases e : y = j
          · rw [e]
            cases w : gR g j i with
            | false => rfl
            | true => rw [(gR_eqv g).2.1 _ _ w] at z; cases z
          · exact hn y (by omega)
    · have hje : j = i := by omega
      subst hje
      refine Or.inr ⟨(nI 1, E n h A M R), ?_, ?_⟩
      · simp (disch := omega) only [↓grd_u, ↓bnd_e, ↓orf_u, ↓oif_u, ↓cal_u, ↓calX_u, ↓inrO_u, ↓reduceIte, EM, EMg, EMs, z0, oi, n_inbT, n_cntT, n_ltT, n_ltF, n_leT, n_leF, n_eqT, n_eqF, n_m1T, n_m1F, n_m1F', n_cl, n_add, n_mul, ro_at, ro_ro, up_at, up_up]
      · have : gH g j = true := hd_no.mpr hn
        rw [this]
        rfl
  obtain ⟨r, e, rfl⟩ := key
  unfold f_X3_isApartFromEarlier
  rw [oi.1, e]
theorem c_told (hc : bAu c0) (ok : GluOK g) (hu : AuF A c0 g) : ∃ A', f_X3_countToldApart (ca n 90) (ca n c0) (E n h A M R) = some (nI (gMc g), E n h A' M R) ∧ ∀ r, r ≠ 91 → A' r = A r := by
  have e1 := EAu hc
  have hL := gL_le ok
  have hz := c_ssize (n := n) (h := h) (M := M) (R := R) hc hu
  -- the last loop
  have h105 : ∀ A1 mk1, MkC A1 (gL g) mk1 → (∀ x y, x < gL g → y < gL g → mk1 x y = !gR g x y) → g_X3_countToldApart_105 (ca n 90) (nI (gL g)) (nI 0) (nI 0) (E n h A1 M R) = some (nI (gMc g), E n h A1 M R) := fun A1 mk1 hm1 hmk1 => by
    unfold g_X3_countToldApart_105
    refine lp_for0 (f := b_X3_countToldApart_105 (ca n 90) (nI (gL g))) (fun k => (nI (cs (gH g) k), nI k, E n h A1 M R)) (gL g) _ (fun k hk => ?_) ?_ (L := 100000) (by omega)
    · have ha := c_apartE (n := n) (h := h) (M := M) (R := R) ok hm1 hmk1 hk
      unfold b_X3_countToldApart_105 b0_X3_countToldApart_105 g_X3_countToldApart_128
      rw [show cs (gH g) (k + 1) = cs (gH g) k + b2 (gH g k) from rfl]
      unfold b2 at ha ⊢
      by_cases q : gH g k = true
      · rw [if_pos q] at ha ⊢
        simp (disch := omega) only [↓grd_u, ↓bnd_e, ↓orf_u, ↓oif_u, ↓cal_u, ↓calX_u, ↓inrO_u, ↓reduceIte, EM, EMg, EMs, z0, oi, n_inbT, n_cntT, n_ltT, n_ltF, n_leT, n_leF, n_eqT, n_eqF, n_m1T, n_m1F, n_m1F', n_cl, n_add, n_mul, ro_at, ro_ro, up_at, up_up, EC, ha]
      · rw [if_neg q] at ha ⊢
        simp (disch := omega) only [↓grd_u, ↓bnd_e, ↓orf_u, ↓oif_u, ↓cal_u, ↓calX_u, ↓inrO_u, ↓reduceIte, EM, EMg, EMs, z0, oi, n_inbT, n_cntT, n_ltT, n_ltF, n_leT, n_leF, n_eqT, n_eqF, n_m1T, n_m1F, n_m1F', n_cl, n_add, n_mul, ro_at, ro_ro, up_at, up_up, EC, ha]
    · unfold b_X3_countToldApart_105 b0_X3_countToldApart_105
      simp (disch := omega) only [↓grd_u, ↓bnd_e, ↓orf_u, ↓oif_u, ↓cal_u, ↓calX_u, ↓inrO_u, ↓reduceIte, EM, EMg, EMs, z0, oi, n_inbT, n_cntT, n_ltT, n_ltF, n_leT, n_leF, n_eqT, n_eqF, n_m1T, n_m1F, n_m1F', n_cl, n_add, n_mul, ro_at, ro_ro, up_at, up_up]
      rfl
  have h74 : ∀ A1, AuF A1 c0 g → MkC A1 (gL g) (fun x y => !(gA g x == gA g y)) → (∀ r, r ≠ 91 → A1 r = A r) → ∃ A', g_X3_countToldApart_74 (ca n 90) (ca n c0) (nI (gL g)) (nI 1) (nI 0) (E n h A1 M R) = some (nI (gMc g), E n h A' M R) ∧ ∀ r, r ≠ 91 → A' r = A r := fun A1 hu1 hm1 f1 => by
    have key : ∃ r, g_X3_countToldApart_74 (ca n 90) (ca n c0) (nI (gL g)) (nI 1) (nI 0) (E n h A1 M R) = some r ∧ ∃ A', r = (nI (gMc g), E n h A' M R) ∧ ∀ r, r ≠ 91 → A' r = A r := by
      unfold g_X3_countToldApart_74
      refine lp_inv0 (f := b_X3_countToldApart_74 (ca n 90) (ca n c0) (nI (gL g))) (fun t s' => ∃ A2 mk2 ch, s' = (nI ch, nI t, E n h A2 M R) ∧ ch ≤ 1 ∧ AuF A2 c0 g ∧ MkC A2 (gL g) mk2 ∧ MkI g mk2 ∧ (∀ x y, x < gL g → y < gL g → mr (gS g) (gA g) t x y = false → mk2 x y = true) ∧ (ch = 0 → ∀ x y, x < gL g → y < gL g → mk2 x y = false → ∀ c, c < 3 → mk2 (gS g x c) (gS g y c) = false) ∧ ∀ r, r ≠ 91 → A2 r = A r) _ 129 (fun t s' ht hI => ?_) (L := 100000) (by decide) ⟨A1, _, 1, rfl, Nat.le_refl _, hu1, hm1, ⟨fun i j _ _ => ?_, fun i j hi hj hmt => ?_⟩, fun x y _ _ hf => ?_, fun h0 => absurd h0 (by decide), f1⟩
      · obtain ⟨A2, mk2, ch, rfl, ch1, hu2, hm2, hI2, hcm2, hcl2, f2⟩ := hI
        unfold b_X3_countToldApart_74 b0_X3_countToldApart_74 g_X3_countToldApart_99
        by_cases hch : ch = 0
        · have hmk : ∀ x y, x < gL g → y < gL g → mk2 x y = !gR g x y := fun x y hx hy => by
            cases v : mk2 x y with
            | true => rw [hI2.2 x y hx hy v]; rfl
            | false =>
              have hall : ∀ k x y, x < gL g → y < gL g → mk2 x y = false → mr (gS g) (gA g) k x y = true := fun k => by
                induction k with
                | zero =>
                  intro x y hx hy hf
                  cases w : mr (gS g) (gA g) 0 x y with
                  | true => rfl
                  | false =>
                    have w2 : mr (gS g) (gA g) t x y = false := by
                      cases u : mr (gS g) (gA g) t x y with
                      | false => rfl
                      | true => rw [mr_le (Nat.zero_le t) u] at w; cases w
                    rw [hcm2 x y hx hy w2] at hf
                    cases hf
                | succ k ih =>
                  intro x y hx hy hf
                  exact mr_s.mpr ⟨ih x y hx hy hf, fun c hc5 => ih _ _ (gS_lt ok x c hx hc5) (gS_lt ok y c hy hc5) (hcl2 hch x y hx hy hf c hc5)⟩
              have := hall 200 x y hx hy v
              rw [show gR g x y = true from this]
              rfl
          have e5 := h105 A2 mk2 hm2 hmk
          refine Or.inr ⟨(nI (gMc g), E n h A2 M R), ?_, A2, rfl, f2⟩
          rw [hch]
          simp (disch := omega) only [↓grd_u, ↓bnd_e, ↓orf_u, ↓oif_u, ↓cal_u, ↓calX_u, ↓inrO_u, ↓reduceIte, EM, EMg, EMs, z0, oi, n_inbT, n_cntT, n_ltT, n_ltF, n_leT, n_leF, n_eqT, n_eqF, n_m1T, n_m1F, n_m1F', n_cl, n_add, n_mul, ro_at, ro_ro, up_at, up_up, e5]
        · have hch' : ch = 1 := by omega
          rw [hch']
          by_cases ht2 : t < 129
          · obtain ⟨A3, mk3, ch3, e3, c3, hm3, hI3, hcm3, hcl3, f3⟩ := c_markMore (n := n) (h := h) (M := M) (R := R) hc ok hu2 hm2 hI2 hcm2
            refine Or.inl ⟨(nI ch3, nI (t + 1), E n h A3 M R), ?_, ht2, A3, mk3, ch3, rfl, c3, AuF_fr hu2 (fun r h1 h2 => f3 r (by have := bAu_90 hc; omega)), hm3, hI3, hcm3, hcl3, fun r hr => (f3 r hr).trans (f2 r hr)⟩
            simp (disch := omega) only [↓grd_u, ↓bnd_e, ↓orf_u, ↓oif_u, ↓cal_u, ↓calX_u, ↓inrO_u, ↓reduceIte, EM, EMg, EMs, z0, oi, n_inbT, n_cntT, n_ltT, n_ltF, n_leT, n_leF, n_eqT, n_eqF, n_m1T, n_m1F, n_m1F', n_cl, n_add, n_mul, ro_at, ro_ro, up_at, up_up, EC, e3]
          · have hte : t = 129 := by omega
            have hmk : ∀ x y, x < gL g → y < gL g → mk2 x y = !gR g x y := fun x y hx hy => by
              have st := mc_L (ac := gA g) (gL_pos g) (gS_lt ok) 129 (by omega)
              have hfin := mr_fin (gL_pos g) (by omega) (gS_lt ok) st x y hx hy
              cases v : mk2 x y with
              | true => rw [hI2.2 x y hx hy v]; rfl
              | false =>
                cases w : gR g x y with
                | true => rfl
                | false =>
                  unfold gR at w
                  rw [← hfin, ← hte] at w
                  rw [hcm2 x y hx hy w] at v
                  cases v
            have e5 := h105 A2 mk2 hm2 hmk
            refine Or.inr ⟨(nI (gMc g), E n h A2 M R), ?_, A2, rfl, f2⟩
            rw [hte]
            simp (disch := omega) only [↓grd_u, ↓bnd_e, ↓orf_u, ↓oif_u, ↓cal_u, ↓calX_u, ↓inrO_u, ↓reduceIte, EM, EMg, EMs, z0, oi, n_inbT, n_cntT, n_ltT, n_ltF, n_leT, n_leF, n_eqT, n_eqF, n_m1T, n_m1F, n_m1F', n_cl, n_add, n_mul, ro_at, ro_ro, up_at, up_up, e5]
      · show (!(gA g i == gA g j)) = (!(gA g j == gA g i))
        cases gA g i <;> cases gA g j <;> rfl
      · dsimp only at hmt
        have h0 : mr (gS g) (gA g) 0 i j = false := by
          show (gA g i == gA g j) = false
          cases v : (gA g i == gA g j) with
          | false => rfl
          | true => rw [v] at hmt; cases hmt
        cases w : gR g i j with
        | false => rfl
        | true =>
          unfold gR at w
          rw [mr_le (Nat.zero_le 200) w] at h0
          cases h0
      · have hf : (gA g x == gA g y) = false := hf
        show (!(gA g x == gA g y)) = true
        rw [hf]
        rfl
    obtain ⟨r, e, A', rfl, q⟩ := key
    exact ⟨A', e, q⟩
  -- the first marks
  have key : ∃ r, g_X3_countToldApart_13 (ca n 90) (ca n c0) (nI (gL g)) (nI 0) (E n h A M R) = some r ∧ ∃ A', r = (nI (gMc g), E n h A' M R) ∧ ∀ r, r ≠ 91 → A' r = A r := by
    unfold g_X3_countToldApart_13
    refine lp_inv0 (f := b_X3_countToldApart_13 (ca n 90) (ca n c0) (nI (gL g))) (fun i s' => ∃ A1, s' = (nI i, E n h A1 M R) ∧ (∀ x y, x < i → y < gL g → A1 91 (x * gL g + y) = nI (b2 (!(gA g x == gA g y)))) ∧ ∀ r, r ≠ 91 → A1 r = A r) _ (gL g) (fun i s' hi hI => ?_) (L := 100000) (by omega) ⟨A, rfl, fun x y hx => absurd hx (Nat.not_lt_zero _), fun _ _ => rfl⟩
    obtain ⟨A1, rfl, hn, f1⟩ := hI
    have hu1 : AuF A1 c0 g := AuF_fr hu (fun r h1 h2 => f1 r (by have := bAu_90 hc; omega))
    unfold b_X3_countToldApart_13 b0_X3_countToldApart_13
    by_cases hi2 : i < gL g
    · have key2 : ∃ r, g_X3_countToldApart_21 (ca n 90) (ca n c0) (nI (gL g)) (nI i) (nI 0) (E n h A1 M R) = some r ∧ ∃ A2, r = .inl (nI (i + 1), E n h A2 M R) ∧ (∀ x y, x < i + 1 → y < gL g → A2 91 (x * gL g + y) = nI (b2 (!(gA g x == gA g y)))) ∧ ∀ r, r ≠ 91 → A2 r = A r := by
        unfold g_X3_countToldApart_21
        refine lp_inv0 (f := b_X3_countToldApart_21 (ca n 90) (ca n c0) (nI (gL g)) (nI i)) (fun j s' => ∃ A2, s' = (nI j, E n h A2 M R) ∧ (∀ x y, (x < i ∧ y < gL g) ∨ (x = i ∧ y < j) → y < gL g → A2 91 (x * gL g + y) = nI (b2 (!(gA g x == gA g y)))) ∧ ∀ r, r ≠ 91 → A2 r = A r) _ (gL g) (fun j s' hj hJ => ?_) (L := 100000) (by omega) ⟨A1, rfl, fun x y hxy hy => hn x y (by omega) hy, f1⟩
        obtain ⟨A2, rfl, hm, f2⟩ := hJ
        have hu2 : AuF A2 c0 g := AuF_fr hu (fun r h1 h2 => f2 r (by have := bAu_90 hc; omega))
        unfold b_X3_countToldApart_21 b0_X3_countToldApart_21 g_X3_countToldApart_56
        by_cases hj2 : j < gL g
        · have p1 := pidx hL hi2 hj2
          have a1 := c_isAcc (n := n) (h := h) (M := M) (R := R) hc hu2 ok hi2
          have a2 := c_isAcc (n := n) (h := h) (M := M) (R := R) hc hu2 ok hj2
          have l1 := b2_le (gA g i)
          have l2 := b2_le (gA g j)
          refine Or.inl ⟨(nI (j + 1), E n h (ro A2 91 (up (A2 91) (i * gL g + j) (nI (b2 (!(gA g i == gA g j)))))) M R), ?_, hj2, _, rfl, fun x y hxy hy => ?_, fun r hr => by rw [ro_ne _ _ hr]; exact f2 r hr⟩
          · by_cases q : gA g i = gA g j
            · have q2 : b2 (!(gA g i == gA g j)) = 0 := by rw [q]; simp [b2]
              rw [q2]
              rw [q] at a1
              simp (disch := omega) only [↓grd_u, ↓bnd_e, ↓orf_u, ↓oif_u, ↓cal_u, ↓calX_u, ↓inrO_u, ↓reduceIte, EM, EMg, EMs, z0, oi, n_inbT, n_cntT, n_ltT, n_ltF, n_leT, n_leF, n_eqT, n_eqF, n_m1T, n_m1F, n_m1F', n_cl, n_add, n_mul, ro_at, ro_ro, up_at, up_up, EC, ECs, e1, a1, a2, nz0]
            · have q2 : b2 (!(gA g i == gA g j)) = 1 := by revert q; cases gA g i <;> cases gA g j <;> simp [b2]
              have qn : b2 (gA g i) ≠ b2 (gA g j) := by revert q; cases gA g i <;> cases gA g j <;> simp [b2]
              rw [q2]
              simp (disch := omega) only [↓grd_u, ↓bnd_e, ↓orf_u, ↓oif_u, ↓cal_u, ↓calX_u, ↓inrO_u, ↓reduceIte, EM, EMg, EMs, z0, oi, n_inbT, n_cntT, n_ltT, n_ltF, n_leT, n_leF, n_eqT, n_eqF, n_m1T, n_m1F, n_m1F', n_cl, n_add, n_mul, ro_at, ro_ro, up_at, up_up, EC, ECs, e1, a1, a2, nz1]
          · rw [ro_at]
            by_cases e : x * gL g + y = i * gL g + j
            · obtain ⟨rfl, rfl⟩ := pinj hy hj2 e
              rw [up_at]
            · rw [up_ne _ _ e]
              refine hm x y ?_ hy
              rcases hxy with z | ⟨z1, z2⟩
              · exact Or.inl z
              · refine Or.inr ⟨z1, ?_⟩
                have : y ≠ j := fun w => e (by rw [z1, w])
                omega
        · have hje : j = gL g := by omega
          refine Or.inr ⟨.inl (nI (i + 1), E n h A2 M R), ?_, A2, rfl, fun x y hx hy => hm x y (by omega) hy, f2⟩
          simp (disch := omega) only [↓grd_u, ↓bnd_e, ↓orf_u, ↓oif_u, ↓cal_u, ↓calX_u, ↓inrO_u, ↓reduceIte, EM, EMg, EMs, z0, oi, n_inbT, n_cntT, n_ltT, n_ltF, n_leT, n_leF, n_eqT, n_eqF, n_m1T, n_m1F, n_m1F', n_cl, n_add, n_mul, ro_at, ro_ro, up_at, up_up]
      obtain ⟨r, e2, A2, rfl, hm, f2⟩ := key2
      refine Or.inl ⟨(nI (i + 1), E n h A2 M R), ?_, hi2, A2, rfl, hm, f2⟩
      simp (disch := omega) only [↓grd_u, ↓bnd_e, ↓orf_u, ↓oif_u, ↓cal_u, ↓calX_u, ↓inrO_u, ↓reduceIte, EM, EMg, EMs, z0, oi, n_inbT, n_cntT, n_ltT, n_ltF, n_leT, n_leF, n_eqT, n_eqF, n_m1T, n_m1F, n_m1F', n_cl, n_add, n_mul, ro_at, ro_ro, up_at, up_up, e2]
    · obtain ⟨A2, e5, f5⟩ := h74 A1 hu1 (fun x y hx hy => hn x y (by omega) hy) f1
      refine Or.inr ⟨(nI (gMc g), E n h A2 M R), ?_, A2, rfl, f5⟩
      simp (disch := omega) only [↓grd_u, ↓bnd_e, ↓orf_u, ↓oif_u, ↓cal_u, ↓calX_u, ↓inrO_u, ↓reduceIte, EM, EMg, EMs, z0, oi, n_inbT, n_cntT, n_ltT, n_ltF, n_leT, n_leF, n_eqT, n_eqF, n_m1T, n_m1F, n_m1F', n_cl, n_add, n_mul, ro_at, ro_ro, up_at, up_up, e5]
  obtain ⟨r, e, A', rfl, q⟩ := key
  refine ⟨A', ?_, q⟩
  unfold f_X3_countToldApart
  simp (disch := omega) only [↓grd_u, ↓bnd_e, ↓orf_u, ↓oif_u, ↓cal_u, ↓calX_u, ↓inrO_u, ↓reduceIte, EM, EMg, EMs, z0, oi, n_inbT, n_cntT, n_ltT, n_ltF, n_leT, n_leF, n_eqT, n_eqF, n_m1T, n_m1F, n_m1F', n_cl, n_add, n_mul, ro_at, ro_ro, up_at, up_up, e1, hz, e]
theorem c_smallestByPairs {v : Int32} (hi : IC n h A R S) (hg : GoodS S) : CA n M (f_X11_smallestCountByPairs (ca n 0) v (E n h A M R)) exN (aCnt S v gMc) := by
  have e1 := EAu bAu_1
  unfold aCnt
  rcases pat_cases S v with ⟨s, hs, rfl, hp, e⟩ | ⟨e, hc⟩
  · rw [e]
    obtain ⟨a, ep, ha⟩ := c_patT (M := M) hi hs hp
    obtain ⟨A1, eb, au, f⟩ := c_bld (A := A) (M := M) (R := R) bAu_1 hg hs hp ha
    obtain ⟨A2, et, f2⟩ := c_told (n := n) (h := h) (M := M) (R := R) bAu_1 (good_glu hg hs hp) au
    refine CA_ok hi (MonoS_rf n h) (fun r hr => (f2 r (by omega)).trans (FrA_44 bAu_1 f r hr)) ?_
    unfold f_X11_smallestCountByPairs
    simp (disch := omega) only [↓grd_u, ↓bnd_e, ↓orf_u, ↓oif_u, ↓cal_u, ↓calX_u, ↓inrO_u, ↓reduceIte, EM, EMg, EMs, z0, oi, n_inbT, n_cntT, n_ltT, n_ltF, n_leT, n_leF, n_eqT, n_eqF, n_m1T, n_m1F, n_m1F', n_cl, n_add, n_mul, ro_at, ro_ro, up_at, up_up, EC, ep, e1, eb, et]
  · rw [e]
    refine CA_no hi (by decide) ?_
    unfold f_X11_smallestCountByPairs
    simp (disch := omega) only [↓grd_u, ↓bnd_e, ↓orf_u, ↓oif_u, ↓cal_u, ↓calX_u, ↓inrO_u, ↓reduceIte, EM, EMg, EMs, z0, oi, n_inbT, n_cntT, n_ltT, n_ltF, n_leT, n_leF, n_eqT, n_eqF, n_m1T, n_m1F, n_m1F', n_cl, n_add, n_mul, ro_at, ro_ro, up_at, up_up, EC, c_patF hi hc]
    rfl
end CPAIRS
