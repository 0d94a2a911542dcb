/-! the class counts words of a length, by states and by listing -/
section CCW
variable {n : Nat} {h : mH} {A M : Nat → Nat → Int32} {R : Nat → Nat → Option Nat} {S : St} {b : Nat} {g : Glu}
theorem cp_C {r q m : Nat} (hr : r < 97) (hq : q < 97) : cp (E n h A M R) (ca n q) (ca n r) 0 0 m = E n h (ro A r (pre m (A q) (A r))) M R := by
  have eF : va_cpy (gi (E n h A M R) (ca n q)) (gi (E n h A M R) (ca n r)) 0 0 m = pre m (A q) (A r) := by
    funext j
    show (if 0 ≤ j ∧ j < 0 + m then gi (E n h A M R) (ca n q) (0 + (j - 0)) else gi (E n h A M R) (ca n r) j) = if j < m then A q j else A r j
    rw [gi_C hq, gi_C hr]
    by_cases e : j < m
    · rw [if_pos (by omega), if_pos e, show 0 + (j - 0) = j by omega]
    · rw [if_neg (by omega), if_neg e]
  have e : va_up (gi (E n h A M R)) (ca n r) (pre m (A q) (A r)) = gi (E n h (ro A r (pre m (A q) (A r))) M R) := by
    funext b j
    rw [upD]
    by_cases h0 : b = ca n r
    · rw [if_pos h0, h0, gi_C hr, ro_at]
    · rw [if_neg h0]
      have h0 : b ≠ n + r := h0
      show (if b < n then gi h b j else if b < n + 97 then A (b - n) j else if b < n + 131 then M (b - n - 97) j else gi h b j) = (if b < n then gi h b j else if b < n + 97 then ro A r (pre m (A q) (A r)) (b - n) j else if b < n + 131 then M (b - n - 97) j else gi h b j)
      by_cases h1 : b < n
      · rw [if_pos h1, if_pos h1]
      · rw [if_neg h1, if_neg h1, ro_ne _ _ (by omega)]
  unfold cp
  rw [eF, e]
  rfl
theorem bAu_w (hb : bAu b) : b + 12 < 97 ∧ KC (b + 12) = 104 ∧ SC (b + 12) = 129 ∧ b + 13 < 97 ∧ KC (b + 13) = 104 ∧ SC (b + 13) = 129 := by
  rcases hb with rfl | rfl <;> exact ⟨by decide, rfl, rfl, by decide, rfl, rfl⟩
def FrW (b : Nat) (A A' : Nat → Nat → Int32) : Prop := ∀ r, r ≠ b + 12 → r ≠ b + 13 → A' r = A r
theorem FrW_tr {A A' A'' : Nat → Nat → Int32} (h : FrW b A A') (h' : FrW b A' A'') : FrW b A A'' := fun r h1 h2 => (h' r h1 h2).trans (h r h1 h2)
theorem AuF_W {A' : Nat → Nat → Int32} (h : AuF A b g) (hf : FrW b A A') : AuF A' b g := AuF_fr h (fun r h1 h2 => hf r (by omega) (by omega))
theorem c_mw27 {k m : Nat} {C W : Nat → Nat} (hb : bAu b) (ok : GluOK g) (hu : AuF A b g) (hC : RwM A (b + 12) C 129) (hW : RwM A (b + 13) W 129) (hk : k < gL g) (hp : pot (gS g) (gA g) m W (gL g) = pot (gS g) (gA g) (m + 1) C k) :
    ∃ A' W', g_X0_moveWays_27 (ca n b) (nI k) (nI 0) (E n h A M R) = some (.inl (nI (k + 1), E n h A' M R)) ∧ RwM A' (b + 13) W' 129 ∧ pot (gS g) (gA g) m W' (gL g) = pot (gS g) (gA g) (m + 1) C (k + 1) ∧ (∀ r, r ≠ b + 13 → A' r = A r) := by
  have e1 := EAu hb
  have e2 := EAug hb
  have e3 := EAus hb
  have hL := gL_le ok
  have key : ∃ r, g_X0_moveWays_27 (ca n b) (nI k) (nI 0) (E n h A M R) = some r ∧ ∃ A' W', r = .inl (nI (k + 1), E n h A' M R) ∧ RwM A' (b + 13) W' 129 ∧ pot (gS g) (gA g) m W' (gL g) = pot (gS g) (gA g) (m + 1) C (k + 1) ∧ (∀ r, r ≠ b + 13 → A' r = A r) := by
    unfold g_X0_moveWays_27
    refine lp_inv0 (f := b_X0_moveWays_27 (ca n b) (nI k)) (fun c s' => ∃ A1 W1, s' = (nI c, E n h A1 M R) ∧ RwM A1 (b + 13) W1 129 ∧ pot (gS g) (gA g) m W1 (gL g) = potP (gS g) (gA g) m C k c ∧ (∀ r, r ≠ b + 13 → A1 r = A r)) _ 3 (fun c s' hc hI => ?_) (L := 100000) (by decide) ⟨A, W, rfl, hW, by rw [hp, potP_0], fun _ _ => rfl⟩
    obtain ⟨A1, W1, rfl, hW1, hp1, f1⟩ := hI
    have hu1 : AuF A1 b g := AuF_fr hu (fun r h1 h2 => f1 r (by omega))
    have hC1 : RwM A1 (b + 12) C 129 := fun k hk => by rw [f1 _ (by omega)]; exact hC k hk
    unfold b_X0_moveWays_27 b0_X0_moveWays_27 g_X0_moveWays_65
    by_cases hc3 : c < 3
    · have ht := c_step (n := n) (h := h) (M := M) (R := R) hb hu1 ok hk hc3
      have tl := gS_lt ok k c hk hc3
      have q1 := hC1 k (by omega)
      have q2 := hW1 (gS g k c) (by omega)
      refine Or.inl ⟨(nI (c + 1), E n h (ro A1 (b + 13) (up (A1 (b + 13)) (gS g k c) (nI (W1 (gS g k c) + C k)))) M R), ?_, hc3, _, up W1 (gS g k c) (W1 (gS g k c) + C k), rfl, fun x hx => ?_, ?_, fun r hr => by rw [ro_ne _ _ hr]; exact f1 r hr⟩
      · simp (disch := omega) only [↓grd_u, ↓bnd_e, ↓orf_u, ↓oif_u, ↓cal_u, ↓calX_u, ↓inrO_u, ↓reduceIte, EM, EMg, EMs, z0, oi, n_inbT, n_cntT, n_ltT, n_ltF, n_leT, n_leF, n_eqT, n_eqF, n_m1T, n_m1F, n_m1F', n_cl, n_add, n_mul, ro_at, ro_ro, up_at, up_up, e1, e2, e3, ht, q1, q2]
      · rw [ro_at]
        by_cases e : x = gS g k c
        · rw [e, up_at, up_at]
        · rw [up_ne _ _ e, up_ne _ _ e]; exact hW1 x hx
      · rw [pot_up tl, hp1, potP_s _ _ _ _ _ hc3]
    · have hce : c = 3 := by omega
      subst hce
      refine Or.inr ⟨.inl (nI (k + 1), E n h A1 M R), ?_, A1, W1, rfl, hW1, by rw [hp1, potP_3], f1⟩
      simp (disch := omega) only [↓grd_u, ↓bnd_e, ↓orf_u, ↓oif_u, ↓cal_u, ↓calX_u, ↓inrO_u, ↓reduceIte, EM, EMg, EMs, z0, oi, n_inbT, n_cntT, n_ltT, n_ltF, n_leT, n_leF, n_eqT, n_eqF, n_m1T, n_m1F, n_m1F', n_cl, n_add, n_mul, ro_at, ro_ro, up_at, up_up]
  obtain ⟨r, e, A', W', rfl, q1, q2, q3⟩ := key
  exact ⟨A', W', e, q1, q2, q3⟩
theorem c_moveWays {m : Nat} {C : Nat → Nat} (hb : bAu b) (ok : GluOK g) (hu : AuF A b g) (hC : RwM A (b + 12) C 129) :
    ∃ A' C', f_X0_moveWays (ca n b) (E n h A M R) = some ((), E n h A' M R) ∧ RwM A' (b + 12) C' 129 ∧ pot (gS g) (gA g) m C' (gL g) = pot (gS g) (gA g) (m + 1) C (gL g) ∧ FrW b A A' := by
  have e1 := EAu hb
  have e2 := EAug hb
  have e3 := EAus hb
  have hL := gL_le ok
  obtain ⟨w1, w2, w3, w4, w5, w6⟩ := bAu_w hb
  have fl := c_fill (n := n) (h := h) (A := A) (M := M) (R := R) (v := nI 0) w4 w5 w6 (by decide)
  obtain ⟨A1, hA1⟩ : ∃ A1, A1 = ro A (b + 13) (pre 129 (fun _ => nI 0) (A (b + 13))) := ⟨_, rfl⟩
  rw [← hA1] at fl
  have f1 : ∀ r, r ≠ b + 13 → A1 r = A r := fun r hr => by rw [hA1, ro_ne _ _ hr]
  have hW1 : RwM A1 (b + 13) (fun _ => 0) 129 := fun k hk => by rw [hA1, ro_at, pre_lt _ _ hk]
  have key : ∃ r, g_X0_moveWays_10 (ca n b) (nI 0) (E n h A1 M R) = some r ∧ ∃ A' C', r = ((), E n h A' M R) ∧ RwM A' (b + 12) C' 129 ∧ pot (gS g) (gA g) m C' (gL g) = pot (gS g) (gA g) (m + 1) C (gL g) ∧ FrW b A A' := by
    unfold g_X0_moveWays_10
    refine lp_inv0 (f := b_X0_moveWays_10 (ca n b)) (fun k s' => ∃ A2 W2, s' = (nI k, E n h A2 M R) ∧ RwM A2 (b + 13) W2 129 ∧ pot (gS g) (gA g) m W2 (gL g) = pot (gS g) (gA g) (m + 1) C k ∧ (∀ r, r ≠ b + 13 → A2 r = A r)) _ (gL g) (fun k s' hk hI => ?_) (L := 100000) (by omega) ⟨A1, fun _ => 0, rfl, hW1, by unfold pot; rw [sm_0 (fun k _ => Nat.zero_mul _)]; rfl, f1⟩
    obtain ⟨A2, W2, rfl, hW2, hp2, f2⟩ := hI
    have hu2 : AuF A2 b g := AuF_fr hu (fun r h1 h2 => f2 r (by omega))
    have hC2 : RwM A2 (b + 12) C 129 := fun k hk => by rw [f2 _ (by omega)]; exact hC k hk
    have e0 := hu2.1
    unfold b_X0_moveWays_10 b0_X0_moveWays_10 g_X0_moveWays_77
    by_cases hk2 : k < gL g
    · obtain ⟨A3, W3, e5, hW3, hp3, f3⟩ := c_mw27 (n := n) (h := h) (M := M) (R := R) hb ok hu2 hC2 hW2 hk2 hp2
      refine Or.inl ⟨(nI (k + 1), E n h A3 M R), ?_, hk2, A3, W3, rfl, hW3, hp3, fun r hr => (f3 r hr).trans (f2 r hr)⟩
      simp (disch := omega) only [↓grd_u, ↓bnd_e, ↓orf_u, ↓oif_u, ↓cal_u, ↓calX_u, ↓inrO_u, ↓reduceIte, EM, EMg, EMs, z0, oi, n_inbT, n_cntT, n_ltT, n_ltF, n_leT, n_leF, n_eqT, n_eqF, n_m1T, n_m1F, n_m1F', n_cl, n_add, n_mul, ro_at, ro_ro, up_at, up_up, e1, e2, e0, e5]
    · have hke : k = gL g := by omega
      have hcp : cp (E n h A2 M R) (ca n (b + 13)) (ca n (b + 12)) 0 0 129 = E n h (ro A2 (b + 12) (pre 129 (A2 (b + 13)) (A2 (b + 12)))) M R := cp_C w1 w4
      refine Or.inr ⟨((), E n h (ro A2 (b + 12) (pre 129 (A2 (b + 13)) (A2 (b + 12)))) M R), ?_, ro A2 (b + 12) (pre 129 (A2 (b + 13)) (A2 (b + 12))), W2, rfl, fun x hx => ?_, by rw [hp2, hke], fun r h1 h2 => by rw [ro_ne _ _ h1]; exact f2 r h2⟩
      · have n3 : ∀ x : Nat, (x ≤ x) = True := fun x => eq_true (Nat.le_refl x)
        simp (disch := omega) only [↓grd_u, ↓bnd_e, ↓orf_u, ↓oif_u, ↓cal_u, ↓calX_u, ↓inrO_u, ↓reduceIte, EM, EMg, EMs, z0, oi, n_inbT, n_cntT, n_ltT, n_ltF, n_leT, n_leF, n_eqT, n_eqF, n_m1T, n_m1F, n_m1F', n_cl, n_add, n_mul, ro_at, ro_ro, up_at, up_up, e1, e2, e0, not_false_eq_true, and_true, true_and, Nat.zero_add, n3, hcp]
      · rw [ro_at, pre_lt _ _ hx]; exact hW2 x hx
  obtain ⟨r, e, A', C', rfl, q1, q2, q3⟩ := key
  refine ⟨A', C', ?_, q1, q2, q3⟩
  unfold f_X0_moveWays
  simp (disch := omega) only [↓grd_u, ↓bnd_e, ↓orf_u, ↓oif_u, ↓cal_u, ↓calX_u, ↓inrO_u, ↓reduceIte, EM, EMg, EMs, z0, oi, n_inbT, n_cntT, n_ltT, n_ltF, n_leT, n_leF, n_eqT, n_eqF, n_m1T, n_m1F, n_m1F', n_cl, n_add, n_mul, ro_at, ro_ro, up_at, up_up, e1, fl, e]
theorem c_countSt {len : Nat} (hb : bAu b) (ok : GluOK g) (hu : AuF A b g) (hl : len < 7) : ∃ A', f_X0_countByStates (ca n b) (nI len) (E n h A M R) = some (nI (gCw g len), E n h A' M R) ∧ FrW b A A' := by
  have e1 := EAu hb
  have e2 := EAug hb
  have e3 := EAus hb
  have hL := gL_le ok
  have hL1 := gL_pos g
  obtain ⟨w1, w2, w3, w4, w5, w6⟩ := bAu_w hb
  have fl := c_fill (n := n) (h := h) (A := A) (M := M) (R := R) (v := nI 0) w1 w2 w3 (by decide)
  obtain ⟨A1, hA1⟩ : ∃ A1, A1 = ro A (b + 12) (up (pre 129 (fun _ => nI 0) (A (b + 12))) 0 (nI 1)) := ⟨_, rfl⟩
  have f1 : FrW b A A1 := fun r h1 h2 => by rw [hA1, ro_ne _ _ h1]
  have hC1 : RwM A1 (b + 12) (fun k => if k = 0 then 1 else 0) 129 := fun k hk => by
    rw [hA1, ro_at]
    show _ = nI (if k = 0 then 1 else 0)
    by_cases e : k = 0
    · rw [e, up_at, if_pos rfl]
    · rw [up_ne _ _ e, if_neg e, pre_lt _ _ hk]
  have p1 : pot (gS g) (gA g) len (fun k => if k = 0 then 1 else 0) (gL g) = gCw g len := by
    unfold pot
    rw [sm_one (t := 0) hL1 (fun k _ hne => by
      show (if k = 0 then 1 else 0) * _ = 0
      rw [if_neg hne, Nat.zero_mul])]
    show (if 0 = 0 then 1 else 0) * _ = _
    rw [if_pos rfl, Nat.one_mul, gCw_S ok]
  have key : ∃ r, g_X0_countByStates_17 (ca n b) (nI len) (nI 0) (E n h A1 M R) = some r ∧ ∃ A', r = (nI (gCw g len), E n h A' M R) ∧ FrW b A A' := by
    unfold g_X0_countByStates_17
    refine lp_inv0 (f := b_X0_countByStates_17 (ca n b) (nI len)) (fun i s' => ∃ A2 C2, s' = (nI i, E n h A2 M R) ∧ RwM A2 (b + 12) C2 129 ∧ pot (gS g) (gA g) (len - i) C2 (gL g) = gCw g len ∧ FrW b A A2) _ len (fun i s' hi hI => ?_) (L := 100000) (by omega) ⟨A1, _, rfl, hC1, p1, f1⟩
    obtain ⟨A2, C2, rfl, hC2, p2, f2⟩ := hI
    have hu2 := AuF_W hu f2
    unfold b_X0_countByStates_17 b0_X0_countByStates_17
    by_cases hi2 : i < len
    · obtain ⟨A3, C3, e5, hC3, p3, f3⟩ := c_moveWays (n := n) (h := h) (M := M) (R := R) (m := len - (i + 1)) hb ok hu2 hC2
      refine Or.inl ⟨(nI (i + 1), E n h A3 M R), ?_, hi2, A3, C3, rfl, hC3, ?_, FrW_tr f2 f3⟩
      · simp (disch := omega) only [↓grd_u, ↓bnd_e, ↓orf_u, ↓oif_u, ↓cal_u, ↓calX_u, ↓inrO_u, ↓reduceIte, EM, EMg, EMs, z0, oi, n_inbT, n_cntT, n_ltT, n_ltF, n_leT, n_leF, n_eqT, n_eqF, n_m1T, n_m1F, n_m1F', n_cl, n_add, n_mul, ro_at, ro_ro, up_at, up_up, e1, e5]
      · rw [p3, show len - (i + 1) + 1 = len - i by omega, p2]
    · have hie : i = len := by omega
      subst hie
      rw [Nat.sub_self] at p2
      have hfin : g_X0_countByStates_36 (ca n b) (nI 0) (nI 0) (E n h A2 M R) = some (nI (gCw g i), E n h A2 M R) := by
        unfold g_X0_countByStates_36
        have e0 := hu2.1
        have hl2 := lp_for0 (f := b_X0_countByStates_36 (ca n b)) (fun q => (nI (pot (gS g) (gA g) 0 C2 q), nI q, E n h A2 M R)) (gL g) (nI (pot (gS g) (gA g) 0 C2 (gL g)), E n h A2 M R) (fun q hq => ?_) ?_ (L := 100000) (by omega)
        · rw [p2] at hl2
          exact hl2
        · have hac := (hu2.2.2 q hq).1
          have ec := hC2 q (by omega)
          unfold b_X0_countByStates_36 b0_X0_countByStates_36 g_X0_countByStates_71
          rw [show pot (gS g) (gA g) 0 C2 (q + 1) = pot (gS g) (gA g) 0 C2 q + C2 q * b2 (gA g q) from rfl]
          unfold b2 at hac ⊢
          by_cases z : gA g q = true
          · rw [if_pos z] at hac ⊢
            simp (disch := omega) only [↓grd_u, ↓bnd_e, ↓orf_u, ↓oif_u, ↓cal_u, ↓calX_u, ↓inrO_u, ↓reduceIte, EM, EMg, EMs, z0, oi, n_inbT, n_cntT, n_ltT, n_ltF, n_leT, n_leF, n_eqT, n_eqF, n_m1T, n_m1F, n_m1F', n_cl, n_add, n_mul, ro_at, ro_ro, up_at, up_up, e1, e2, e0, hac, ec, Nat.mul_one]
          · rw [if_neg z] at hac ⊢
            simp (disch := omega) only [↓grd_u, ↓bnd_e, ↓orf_u, ↓oif_u, ↓cal_u, ↓calX_u, ↓inrO_u, ↓reduceIte, EM, EMg, EMs, z0, oi, n_inbT, n_cntT, n_ltT, n_ltF, n_leT, n_leF, n_eqT, n_eqF, n_m1T, n_m1F, n_m1F', n_cl, n_add, n_mul, ro_at, ro_ro, up_at, up_up, e1, e2, e0, hac, Nat.mul_zero]
        · unfold b_X0_countByStates_36 b0_X0_countByStates_36 g_X0_countByStates_79
          simp (disch := omega) only [↓grd_u, ↓bnd_e, ↓orf_u, ↓oif_u, ↓cal_u, ↓calX_u, ↓inrO_u, ↓reduceIte, EM, EMg, EMs, z0, oi, n_inbT, n_cntT, n_ltT, n_ltF, n_leT, n_leF, n_eqT, n_eqF, n_m1T, n_m1F, n_m1F', n_cl, n_add, n_mul, ro_at, ro_ro, up_at, up_up, e1, e2, e0]
      refine Or.inr ⟨(nI (gCw g i), E n h A2 M R), ?_, A2, rfl, f2⟩
      simp (disch := omega) only [↓grd_u, ↓bnd_e, ↓orf_u, ↓oif_u, ↓cal_u, ↓calX_u, ↓inrO_u, ↓reduceIte, EM, EMg, EMs, z0, oi, n_inbT, n_cntT, n_ltT, n_ltF, n_leT, n_leF, n_eqT, n_eqF, n_m1T, n_m1F, n_m1F', n_cl, n_add, n_mul, ro_at, ro_ro, up_at, up_up, hfin]
  obtain ⟨r, e, A', rfl, q⟩ := key
  refine ⟨A', ?_, q⟩
  have hA1' := hA1.symm
  unfold f_X0_countByStates
  simp (disch := omega) only [↓grd_u, ↓bnd_e, ↓orf_u, ↓oif_u, ↓cal_u, ↓calX_u, ↓inrO_u, ↓reduceIte, EM, EMg, EMs, z0, oi, n_inbT, n_cntT, n_ltT, n_ltF, n_leT, n_leF, n_eqT, n_eqF, n_m1T, n_m1F, n_m1F', n_cl, n_add, n_mul, ro_at, ro_ro, up_at, up_up, e1, e3, fl]
  rw [hA1', e]
theorem c_digits {len m : Nat} (hb : bAu b) (ok : GluOK g) (hu : AuF A b g) (hl : len < 7) (hm : m < 100000) : f_X0_acceptsDigits (ca n b) (nI m) (nI len) (E n h A M R) = some (nI (b2 (adg (gS g) (gA g) len 0 m)), E n h A M R) := by
  have e1 := EAu hb
  have hL := gL_le ok
  have key : ∃ r, g_X0_acceptsDigits_8 (ca n b) (nI len) (nI 0) (nI m) (nI 0) (E n h A M R) = some r ∧ r = (nI (b2 (adg (gS g) (gA g) len 0 m)), E n h A M R) := by
    unfold g_X0_acceptsDigits_8
    refine lp_inv0 (f := b_X0_acceptsDigits_8 (ca n b) (nI len)) (fun i s' => ∃ j q, s' = (nI j, nI q, nI i, E n h A M R) ∧ j < gL g ∧ q < 100000 ∧ adg (gS g) (gA g) (len - i) j q = adg (gS g) (gA g) len 0 m) _ len (fun i s' hi hI => ?_) (L := 100000) (by omega) ⟨0, m, rfl, gL_pos g, hm, rfl⟩
    obtain ⟨j, q, rfl, hj, hq, hI⟩ := hI
    unfold b_X0_acceptsDigits_8 b0_X0_acceptsDigits_8
    by_cases hi2 : i < len
    · have hst := c_step (n := n) (h := h) (A := A) (M := M) (R := R) hb hu ok hj (show q % 3 < 3 by omega)
      refine Or.inl ⟨(nI (gS g j (q % 3)), nI (q / 3), nI (i + 1), E n h A M R), ?_, hi2, gS g j (q % 3), q / 3, rfl, gS_lt ok j (q % 3) hj (by omega), by omega, ?_⟩
      · have hr : nI q - nI (q / 3 * 3) = nI (q % 3) := by rw [n_sub (by omega)]; congr 1; omega
        simp (disch := omega) only [↓grd_u, ↓bnd_e, ↓orf_u, ↓oif_u, ↓cal_u, ↓calX_u, ↓inrO_u, ↓reduceIte, EM, EMg, EMs, z0, oi, n_inbT, n_cntT, n_ltT, n_ltF, n_leT, n_leF, n_eqT, n_eqF, n_m1T, n_m1F, n_m1F', n_cl, n_add, n_mul, ro_at, ro_ro, up_at, up_up, e1, n_div, hr, hst]
      · rw [show len - i = len - (i + 1) + 1 by omega] at hI
        exact hI
    · have hie : i = len := by omega
      subst hie
      have hac := c_isAcc (n := n) (h := h) (A := A) (M := M) (R := R) hb hu ok hj
      rw [Nat.sub_self] at hI
      have hI : gA g j = _ := hI
      rw [hI] at hac
      refine Or.inr ⟨(nI (b2 (adg (gS g) (gA g) i 0 m)), E n h A M R), ?_, rfl⟩
      simp (disch := omega) only [↓grd_u, ↓bnd_e, ↓orf_u, ↓oif_u, ↓cal_u, ↓calX_u, ↓inrO_u, ↓reduceIte, EM, EMg, EMs, z0, oi, n_inbT, n_cntT, n_ltT, n_ltF, n_leT, n_leF, n_eqT, n_eqF, n_m1T, n_m1F, n_m1F', n_cl, n_add, n_mul, ro_at, ro_ro, up_at, up_up, e1, hac, b2n_nar]
  obtain ⟨r, e, rfl⟩ := key
  unfold f_X0_acceptsDigits
  rw [oi.1, e]
theorem c_countLi {len : Nat} (hb : bAu b) (ok : GluOK g) (hu : AuF A b g) (hl : len < 7) : f_X0_countByListing (ca n b) (nI len) (E n h A M R) = some (nI (gCw g len), E n h A M R) := by
  have e1 := EAu hb
  have hp : 3 ^ len ≤ 729 := by
    have := Nat.pow_le_pow_right (n := 3) (by decide) (show len ≤ 6 by omega)
    exact this
  have hpos : 0 < 3 ^ len := Nat.pow_pos (by decide)
  have h30 : g_X0_countByListing_30 (ca n b) (nI len) (nI (3 ^ len)) (nI 0) (nI 0) (E n h A M R) = some (nI (gCw g len), E n h A M R) := by
    unfold g_X0_countByListing_30
    have hl2 := lp_for0 (f := b_X0_countByListing_30 (ca n b) (nI len) (nI (3 ^ len))) (fun q => (nI (sm (fun m => b2 (adg (gS g) (gA g) len 0 m)) q), nI q, E n h A M R)) (3 ^ len) (nI (sm (fun m => b2 (adg (gS g) (gA g) len 0 m)) (3 ^ len)), E n h A M R) (fun q hq => ?_) ?_ (L := 100000) (by omega)
    · rw [adg_cw, gCw_S ok] at hl2
      exact hl2
    · have hd := c_digits (n := n) (h := h) (A := A) (M := M) (R := R) (len := len) (m := q) hb ok hu hl (by omega)
      unfold b_X0_countByListing_30 b0_X0_countByListing_30 g_X0_countByListing_52
      rw [show sm (fun m => b2 (adg (gS g) (gA g) len 0 m)) (q + 1) = sm (fun m => b2 (adg (gS g) (gA g) len 0 m)) q + b2 (adg (gS g) (gA g) len 0 q) from rfl]
      generalize hz : adg (gS g) (gA g) len 0 q = z at hd ⊢
      cases z with
      | true =>
        have hd1 : f_X0_acceptsDigits (ca n b) (nI q) (nI len) (E n h A M R) = some (nI 1, E n h A M R) := hd
        simp (disch := omega) only [↓grd_u, ↓bnd_e, ↓orf_u, ↓oif_u, ↓cal_u, ↓calX_u, ↓inrO_u, ↓reduceIte, EM, EMg, EMs, z0, oi, n_inbT, n_cntT, n_ltT, n_ltF, n_leT, n_leF, n_eqT, n_eqF, n_m1T, n_m1F, n_m1F', n_cl, n_add, n_mul, ro_at, ro_ro, up_at, up_up, e1, hd1]
        rfl
      | false =>
        have hd1 : f_X0_acceptsDigits (ca n b) (nI q) (nI len) (E n h A M R) = some (nI 0, E n h A M R) := hd
        simp (disch := omega) only [↓grd_u, ↓bnd_e, ↓orf_u, ↓oif_u, ↓cal_u, ↓calX_u, ↓inrO_u, ↓reduceIte, EM, EMg, EMs, z0, oi, n_inbT, n_cntT, n_ltT, n_ltF, n_leT, n_leF, n_eqT, n_eqF, n_m1T, n_m1F, n_m1F', n_cl, n_add, n_mul, ro_at, ro_ro, up_at, up_up, e1, hd1]
        rfl
    · unfold b_X0_countByListing_30 b0_X0_countByListing_30
      simp (disch := omega) only [↓grd_u, ↓bnd_e, ↓orf_u, ↓oif_u, ↓cal_u, ↓calX_u, ↓inrO_u, ↓reduceIte, EM, EMg, EMs, z0, oi, n_inbT, n_cntT, n_ltT, n_ltF, n_leT, n_leF, n_eqT, n_eqF, n_m1T, n_m1F, n_m1F', n_cl, n_add, n_mul, ro_at, ro_ro, up_at, up_up]
  unfold f_X0_countByListing g_X0_countByListing_4
  rw [oi.1, oi.2.1]
  refine lp_for0 (f := b_X0_countByListing_4 (ca n b) (nI len)) (fun k => (nI (3 ^ k), nI k, E n h A M R)) len _ (fun k hk => ?_) ?_ (L := 100000) (by omega)
  · unfold b_X0_countByListing_4 b0_X0_countByListing_4
    simp (disch := omega) only [↓grd_u, ↓bnd_e, ↓orf_u, ↓oif_u, ↓cal_u, ↓calX_u, ↓inrO_u, ↓reduceIte, EM, EMg, EMs, z0, oi, n_inbT, n_cntT, n_ltT, n_ltF, n_leT, n_leF, n_eqT, n_eqF, n_m1T, n_m1F, n_m1F', n_cl, n_add, n_mul, ro_at, ro_ro, up_at, up_up]
    rw [Nat.pow_succ]
  · unfold b_X0_countByListing_4 b0_X0_countByListing_4 g_X0_countByListing_25
    simp (disch := omega) only [↓grd_u, ↓bnd_e, ↓orf_u, ↓oif_u, ↓cal_u, ↓calX_u, ↓inrO_u, ↓reduceIte, EM, EMg, EMs, z0, oi, n_inbT, n_cntT, n_ltT, n_ltF, n_leT, n_leF, n_eqT, n_eqF, n_m1T, n_m1F, n_m1F', n_cl, n_add, n_mul, ro_at, ro_ro, up_at, up_up, h30]
theorem FrW_44 {A' : Nat → Nat → Int32} (hb : bAu b) (f : FrW b A A') : ∀ r, r < 44 → A' r = A r := fun r hr => f r (by rcases hb with rfl | rfl <;> omega) (by rcases hb with rfl | rfl <;> omega)
theorem c_chkT {k : Nat} {g : mH} (hk : k < 7) : f_X11_checkCountedLength (nI k) g = some (.inl (), g) := by
  unfold f_X11_checkCountedLength
  simp (disch := omega) only [↓grd_u, ↓bnd_e, ↓orf_u, ↓oif_u, ↓cal_u, ↓calX_u, ↓inrO_u, ↓reduceIte, EM, EMg, EMs, z0, oi, n_inbT, n_cntT, n_ltT, n_ltF, n_leT, n_leF, n_eqT, n_eqF, n_m1T, n_m1F, n_m1F', n_cl, n_add, n_mul, ro_at, ro_ro, up_at, up_up]
theorem c_chkF {v : Int32} {g : mH} (hv : v < nI 0 ∨ nI 6 < v) : f_X11_checkCountedLength v g = some (.inr "java/lang/IllegalArgumentException", g) := by
  unfold f_X11_checkCountedLength g_X11_checkCountedLength_10
  by_cases q : v < nI 0
  · simp (disch := omega) only [↓grd_u, ↓bnd_e, ↓orf_u, ↓oif_u, ↓cal_u, ↓calX_u, ↓inrO_u, ↓reduceIte, EM, EMg, EMs, z0, oi, n_inbT, n_cntT, n_ltT, n_ltF, n_leT, n_leF, n_eqT, n_eqF, n_m1T, n_m1F, n_m1F', n_cl, n_add, n_mul, ro_at, ro_ro, up_at, up_up, q]
  · have q2 := hv.resolve_left q
    have q3 : (v ≤ nI 6) = False := eq_false (Int32.not_le.mpr q2)
    simp (disch := omega) only [↓grd_u, ↓bnd_e, ↓orf_u, ↓oif_u, ↓cal_u, ↓calX_u, ↓inrO_u, ↓reduceIte, EM, EMg, EMs, z0, oi, n_inbT, n_cntT, n_ltT, n_ltF, n_leT, n_leF, n_eqT, n_eqF, n_m1T, n_m1F, n_m1F', n_cl, n_add, n_mul, ro_at, ro_ro, up_at, up_up, q, q3]
theorem c_countWords {v w : Int32} (hi : IC n h A R S) (hg : GoodS S) : CA n M (f_X11_countWords (ca n 0) v w (E n h A M R)) exNA (aCw S v w) := by
  have e1 := EAu bAu_1
  unfold f_X11_countWords aCw
  rcases pat_cases S v with ⟨s, hs, rfl, hp, e⟩ | ⟨e, hc⟩
  · rw [e]
    dsimp only
    obtain ⟨a, ep, ha⟩ := c_patT (M := M) hi hs hp
    rcases ln_cases w with ⟨k, hk, rfl, e2⟩ | ⟨hw, e2⟩
    · rw [e2]
      obtain ⟨A', eb, au, f⟩ := c_bld (A := A) (M := M) (R := R) bAu_1 hg hs hp ha
      obtain ⟨A2, ec, f2⟩ := c_countSt (n := n) (h := h) (M := M) (R := R) bAu_1 (good_glu hg hs hp) au hk
      refine CA_ok hi (MonoS_rf n h) (fun r hr => (FrW_44 bAu_1 f2 r hr).trans (FrA_44 bAu_1 f r hr)) ?_
      simp (disch := omega) only [↓grd_u, ↓bnd_e, ↓orf_u, ↓oif_u, ↓cal_u, ↓calX_u, ↓inrO_u, ↓reduceIte, EM, EMg, EMs, z0, oi, n_inbT, n_cntT, n_ltT, n_ltF, n_leT, n_leF, n_eqT, n_eqF, n_m1T, n_m1F, n_m1F', n_cl, n_add, n_mul, ro_at, ro_ro, up_at, up_up, EC, ep, c_chkT hk, e1, eb, ec]
    · rw [e2]
      refine CA_no hi (by decide) ?_
      simp (disch := omega) only [↓grd_u, ↓bnd_e, ↓orf_u, ↓oif_u, ↓cal_u, ↓calX_u, ↓inrO_u, ↓reduceIte, EM, EMg, EMs, z0, oi, n_inbT, n_cntT, n_ltT, n_ltF, n_leT, n_leF, n_eqT, n_eqF, n_m1T, n_m1F, n_m1F', n_cl, n_add, n_mul, ro_at, ro_ro, up_at, up_up, EC, ep, c_chkF hw]
      rfl
  · rw [e]
    refine CA_no hi (by decide) ?_
    simp (disch := omega) only [↓grd_u, ↓bnd_e, ↓orf_u, ↓oif_u, ↓cal_u, ↓calX_u, ↓inrO_u, ↓reduceIte, EM, EMg, EMs, z0, oi, n_inbT, n_cntT, n_ltT, n_ltF, n_leT, n_leF, n_eqT, n_eqF, n_m1T, n_m1F, n_m1F', n_cl, n_add, n_mul, ro_at, ro_ro, up_at, up_up, EC, c_patF hi hc]
    rfl
theorem c_countWordsL {v w : Int32} (hi : IC n h A R S) (hg : GoodS S) : CA n M (f_X11_countWordsByListing (ca n 0) v w (E n h A M R)) exNA (aCw S v w) := by
  have e1 := EAu bAu_1
  unfold f_X11_countWordsByListing aCw
  rcases pat_cases S v with ⟨s, hs, rfl, hp, e⟩ | ⟨e, hc⟩
  · rw [e]
    dsimp only
    obtain ⟨a, ep, ha⟩ := c_patT (M := M) hi hs hp
    rcases ln_cases w with ⟨k, hk, rfl, e2⟩ | ⟨hw, e2⟩
    · rw [e2]
      obtain ⟨A', eb, au, f⟩ := c_bld (A := A) (M := M) (R := R) bAu_1 hg hs hp ha
      have ec := c_countLi (n := n) (h := h) (M := M) (R := R) bAu_1 (good_glu hg hs hp) au hk
      refine CA_ok hi (MonoS_rf n h) (FrA_44 bAu_1 f) ?_
      simp (disch := omega) only [↓grd_u, ↓bnd_e, ↓orf_u, ↓oif_u, ↓cal_u, ↓calX_u, ↓inrO_u, ↓reduceIte, EM, EMg, EMs, z0, oi, n_inbT, n_cntT, n_ltT, n_ltF, n_leT, n_leF, n_eqT, n_eqF, n_m1T, n_m1F, n_m1F', n_cl, n_add, n_mul, ro_at, ro_ro, up_at, up_up, EC, ep, c_chkT hk, e1, eb, ec]
    · rw [e2]
      refine CA_no hi (by decide) ?_
      simp (disch := omega) only [↓grd_u, ↓bnd_e, ↓orf_u, ↓oif_u, ↓cal_u, ↓calX_u, ↓inrO_u, ↓reduceIte, EM, EMg, EMs, z0, oi, n_inbT, n_cntT, n_ltT, n_ltF, n_leT, n_leF, n_eqT, n_eqF, n_m1T, n_m1F, n_m1F', n_cl, n_add, n_mul, ro_at, ro_ro, up_at, up_up, EC, ep, c_chkF hw]
      rfl
  · rw [e]
    refine CA_no hi (by decide) ?_
    simp (disch := omega) only [↓grd_u, ↓bnd_e, ↓orf_u, ↓oif_u, ↓cal_u, ↓calX_u, ↓inrO_u, ↓reduceIte, EM, EMg, EMs, z0, oi, n_inbT, n_cntT, n_ltT, n_ltF, n_leT, n_leF, n_eqT, n_eqF, n_m1T, n_m1F, n_m1F', n_cl, n_add, n_mul, ro_at, ro_ro, up_at, up_up, EC, c_patF hi hc]
    rfl
end CCW
