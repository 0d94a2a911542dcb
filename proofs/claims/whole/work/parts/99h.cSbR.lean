/-! the class: the line emptied, the line turned round -/
theorem nby : ∀ v, v < 128 → vp_nar .byte (nI v) = nI v := by decide +kernel
section CSBR
variable {n : Nat} {h : mH} {A M : Nat → Nat → Int32} {R : Nat → Nat → Option Nat} {S : St} {y cap : Nat} {l : List Nat}
theorem sb_w {k : Nat} {v : Int32} (s4 : YB n h y cap) : ∃ h2 A2, si (E n h A M R) y k v = E n h2 A2 M R ∧ nx h2 = nx h ∧ YB n h2 y cap ∧ Mono n h h2 ∧ (∀ r, r ≠ 43 → A2 r = A r) ∧ ∀ j, rdY n h2 A2 y j = if j = k then v else rdY n h A y j := by
  rcases s4 with ⟨rfl, rfl⟩ | ⟨p1, p2, p3, p4, p5⟩
  · refine ⟨h, ro A 43 (up (A 43) k v), si_C (by decide), rfl, Or.inl ⟨rfl, rfl⟩, Mono_rf _ _, fun r hr => ro_ne _ _ hr, fun j => ?_⟩
    unfold rdY
    rw [if_pos rfl, if_pos rfl, ro_at]
    rfl
  · refine ⟨si h y k v, A, si_X (by omega), rfl, Or.inr ⟨p1, p2, p3, p4, p5⟩, ⟨Nat.le_refl _, fun a a1 a2 a3 => ⟨rfl, rfl, ?_, rfl⟩⟩, fun _ _ => rfl, fun j => ?_⟩
    · have hne : a ≠ y := fun z => a3 (by rw [z]; exact p3)
      funext j
      show u2 (gi h) y k v a j = gi h a j
      rw [u2_up, vu_ne _ _ hne]
    · have hne : y ≠ ca n 43 := by unfold ca; omega
      unfold rdY
      rw [if_neg hne, if_neg hne]
      show u2 (gi h) y k v y j = _
      rw [u2_up, vu_at]
      rfl
theorem c_sbZero (hs : Sb n h A R l y cap) : ∃ h' A' R' y' cap' ch mh, f_J4_setLength_d00df (ca n 42) (nI 0) (E n h A M R) = some (((), E n h' A' M R'), ch, mh) ∧ Sb n h' A' R' [] y' cap' ∧ FrL n h h' A A' R R' ∧ ch + fcC cap = fcC cap' ∧ mh + fcM cap = fcM cap' := by
  have hcap := YB_cap hs.2.2.2.2.1
  obtain ⟨h1, R1, y1, cap1, ch, mh, e1, q1, f1, m1, c1, c2⟩ := c_ensure (M := M) (m := 0) hs (by omega) (by omega)
  obtain ⟨s0, s1, s2, s3, s4, s5, s6, s7⟩ := q1
  have hcp := YB_cap s4
  have fin : ∀ A1 : Nat → Nat → Int32, A1 42 1 = nI 0 → A1 42 3 = nI 0 → (∀ r, r ≠ 42 → A1 r = A r) → Sb n h1 A1 R1 [] y1 cap1 ∧ FrL n h h1 A A1 R R1 := fun A1 a1 a3 ar => by
    have hrd : ∀ k, rdY n h1 A1 y1 k = rdY n h1 A y1 k := fun k => by
      unfold rdY
      rw [ar 43 (by decide)]
    exact ⟨⟨s0, a1, a3, s3, s4, Nat.zero_le _, fun k hk => absurd hk (Nat.not_lt_zero _), fun k => by rw [hrd]; exact s7 k⟩, f1.1, fun r z1 _ => ar r z1, f1.2.2⟩
  by_cases e0 : l.length = 0
  · rw [e0] at s2
    obtain ⟨g1, g2⟩ := fin (ro A 42 (up (A 42) 3 (nI 0))) (by rw [ro_at, up_ne _ _ (by decide)]; exact s1) (by rw [ro_at, up_at]) (fun r hr => ro_ne _ _ hr)
    refine ⟨h1, _, R1, y1, cap1, ch, mh, ?_, g1, g2, c1, c2⟩
    unfold f_J4_setLength_d00df f_J5_setLength_d00df g_J5_setLength_d00df_76
    simp (disch := omega) only [↓grd_u, ↓bnd_e, ↓orf_u, ↓oif_u, ↓cal_u, ↓calX_u, ↓inrO_u, ↓reduceIte, EM, EMg, EMs, z0, oi, n_inbT, n_cntT, n_ltT, n_ltF, n_leT, n_leF, n_eqT, n_eqF, n_m1T, n_m1F, n_m1F', n_cl, n_add, n_mul, ro_at, ro_ro, up_at, up_up, ↓calC_u, ↓adc_u, EC, ECg, ECs, e1, s2, Nat.zero_add, Nat.add_zero]
  · obtain ⟨g1, g2⟩ := fin (ro A 42 (up (up (A 42) 2 (nI 1)) 3 (nI 0))) (by rw [ro_at, up_ne _ _ (by decide), up_ne _ _ (by decide)]; exact s1) (by rw [ro_at, up_at]) (fun r hr => ro_ne _ _ hr)
    refine ⟨h1, _, R1, y1, cap1, ch, mh, ?_, g1, g2, c1, c2⟩
    unfold f_J4_setLength_d00df f_J5_setLength_d00df g_J5_setLength_d00df_76
    simp (disch := omega) only [↓grd_u, ↓bnd_e, ↓orf_u, ↓oif_u, ↓cal_u, ↓calX_u, ↓inrO_u, ↓reduceIte, EM, EMg, EMs, z0, oi, n_inbT, n_cntT, n_ltT, n_ltF, n_leT, n_leF, n_eqT, n_eqF, n_m1T, n_m1F, n_m1F', n_cl, n_add, n_mul, ro_at, ro_ro, up_at, up_up, ↓calC_u, ↓adc_u, EC, ECg, ECs, e1, s2, Nat.zero_add, Nat.add_zero]
def rvN (l : List Nat) (v j : Nat) : Nat := if v < j ∧ j + 1 + v < l.length then l.getD (l.length - 1 - j) 0 else l.getD j 0
theorem c_rv28 {v0 : Nat} (hs : Sb n h A R l y cap) (h2 : 2 ≤ l.length) (hv : v0 = (l.length - 2) / 2) : ∃ h' A', g_J5_reverse_278bc_28 (ca n 42) y (nI (l.length - 1)) (nI v0) (E n h A M R) = some (some (ca n 42), E n h' A' M R) ∧ Sb n h' A' R l.reverse y cap ∧ FrL n h h' A A' R R := by
  obtain ⟨s0, s1, s2, s3, s4, s5, s6, s7⟩ := hs
  have hcp := YB_cap s4
  have key : ∃ r, g_J5_reverse_278bc_28 (ca n 42) y (nI (l.length - 1)) (nI v0) (E n h A M R) = some r ∧ ∃ h' A', r = (some (ca n 42), E n h' A' M R) ∧ nx h' = nx h ∧ YB n h' y cap ∧ Mono n h h' ∧ (∀ r, r ≠ 43 → A' r = A r) ∧ (∀ j, j < l.length → rdY n h' A' y j = nI (l.getD (l.length - 1 - j) 0)) ∧ ∀ j, ∃ v, v < 128 ∧ rdY n h' A' y j = nI v := by
    unfold g_J5_reverse_278bc_28
    refine lp_inv0 (f := b_J5_reverse_278bc_28 (ca n 42) y (nI (l.length - 1))) (fun k s' => ∃ h1 A1, s' = (if k ≤ v0 then nI (v0 - k) else Int32.ofInt (-1), E n h1 A1 M R) ∧ nx h1 = nx h ∧ YB n h1 y cap ∧ Mono n h h1 ∧ (∀ r, r ≠ 43 → A1 r = A r) ∧ (∀ j, j < l.length → rdY n h1 A1 y j = nI (if v0 + 1 ≤ j + k ∧ j + 1 + v0 < l.length + k then l.getD (l.length - 1 - j) 0 else l.getD j 0)) ∧ ∀ j, ∃ v, v < 128 ∧ rdY n h1 A1 y j = nI v) _ (v0 + 1) (fun k s' hk hI => ?_) (L := 100000) (by omega) ⟨h, A, by rw [if_pos (Nat.zero_le _), Nat.sub_zero], rfl, s4, Mono_rf _ _, fun _ _ => rfl, fun j hj => ?_, s7⟩
    · obtain ⟨h1, A1, rfl, p1, p2, p3, p4, p5, p6⟩ := hI
      obtain ⟨k1, k2⟩ := YB_kd (A := A1) (M := M) (R := R) p2
      unfold b_J5_reverse_278bc_28 b0_J5_reverse_278bc_28 g_J5_reverse_278bc_73
      by_cases hkv : k ≤ v0
      · obtain ⟨v, hve⟩ : ∃ v, v = v0 - k := ⟨_, rfl⟩
        rw [if_pos hkv, ← hve]
        have hvl : v < l.length := by omega
        have hwl : l.length - 1 - v < l.length := by omega
        have r1 : rdY n h1 A1 y v = nI (l.getD v 0) := by
          rw [p5 v hvl, if_neg (by omega)]
        have r2 : rdY n h1 A1 y (l.length - 1 - v) = nI (l.getD (l.length - 1 - v) 0) := by
          rw [p5 _ hwl, if_neg (by omega)]
        obtain ⟨x1, x2, x3⟩ := p6 v
        obtain ⟨z1, z2, z3⟩ := p6 (l.length - 1 - v)
        have b1 : vp_nar .byte (nI (l.getD v 0)) = nI (l.getD v 0) := by rw [← r1, x3]; exact nby x1 x2
        have b2 : vp_nar .byte (nI (l.getD (l.length - 1 - v) 0)) = nI (l.getD (l.length - 1 - v) 0) := by rw [← r2, z3]; exact nby z1 z2
        have gi1 := YB_gi (A := A1) (M := M) (R := R) p2 v
        have gi2 := YB_gi (A := A1) (M := M) (R := R) p2 (l.length - 1 - v)
        rw [r1] at gi1
        rw [r2] at gi2
        obtain ⟨h2, A2, w1, w2, w3, w4, w5, w6⟩ := sb_w (A := A1) (M := M) (R := R) (k := v) (v := nI (l.getD (l.length - 1 - v) 0)) p2
        obtain ⟨k3, k4⟩ := YB_kd (A := A2) (M := M) (R := R) w3
        obtain ⟨h3, A3, t1, t2, t3, t4, t5, t6⟩ := sb_w (A := A2) (M := M) (R := R) (k := l.length - 1 - v) (v := nI (l.getD v 0)) w3
        have enx : (if k + 1 ≤ v0 then nI (v0 - (k + 1)) else Int32.ofInt (-1)) = nI v + Int32.ofInt (-1) := by
          by_cases z : k + 1 ≤ v0
          · rw [if_pos z]
            have := n_dec (v0 - (k + 1))
            rw [show v0 - (k + 1) + 1 = v by omega] at this
            exact this.symm
          · rw [if_neg z, show v = 0 by omega]
            exact sm0.symm
        have hsub : nI (l.length - 1) - nI v = nI (l.length - 1 - v) := n_sub (by omega)
        refine Or.inl ⟨(nI v + Int32.ofInt (-1), E n h3 A3 M R), ?_, by omega, h3, A3, by rw [enx], by rw [t2, w2, p1], t3, Mono_tr p3 (Mono_tr w4 t4), fun r hr => (t5 r hr).trans ((w5 r hr).trans (p4 r hr)), fun j hj => ?_, fun j => ?_⟩
        · simp (disch := omega) only [↓grd_u, ↓bnd_e, ↓orf_u, ↓oif_u, ↓cal_u, ↓calX_u, ↓inrO_u, ↓reduceIte, EM, EMg, EMs, z0, oi, n_inbT, n_cntT, n_ltT, n_ltF, n_leT, n_leF, n_eqT, n_eqF, n_m1T, n_m1F, n_m1F', n_cl, n_add, n_mul, ro_at, ro_ro, up_at, up_up, hsub, k1, k2, gi1, gi2, b1, b2, w1, k3, k4, t1]
        · rw [t6, w6]
          by_cases q1 : j = l.length - 1 - v
          · rw [if_pos q1, if_pos (by omega), show l.length - 1 - j = v by omega]
          · rw [if_neg q1]
            by_cases q2 : j = v
            · rw [if_pos q2, if_pos (by omega), q2]
            · rw [if_neg q2, p5 j hj]
              by_cases q3 : v0 + 1 ≤ j + k ∧ j + 1 + v0 < l.length + k
              · rw [if_pos q3, if_pos (by omega)]
              · rw [if_neg q3, if_neg (by omega)]
        · rw [t6, w6]
          by_cases q1 : j = l.length - 1 - v
          · rw [if_pos q1, ← r1]; exact p6 v
          · rw [if_neg q1]
            by_cases q2 : j = v
            · rw [if_pos q2, ← r2]; exact p6 _
            · rw [if_neg q2]; exact p6 j
      · rw [if_neg hkv]
        refine Or.inr ⟨(some (ca n 42), E n h1 A1 M R), ?_, h1, A1, rfl, p1, p2, p3, p4, fun j hj => ?_, p6⟩
        · simp (disch := omega) only [↓grd_u, ↓bnd_e, ↓orf_u, ↓oif_u, ↓cal_u, ↓calX_u, ↓inrO_u, ↓reduceIte, EM, EMg, EMs, z0, oi, n_inbT, n_cntT, n_ltT, n_ltF, n_leT, n_leF, n_eqT, n_eqF, n_m1T, n_m1F, n_m1F', n_cl, n_add, n_mul, ro_at, ro_ro, up_at, up_up, sng, if_true]
        · rw [p5 j hj, if_pos (by omega)]
    · rw [s6 j hj]
      by_cases q : v0 + 1 ≤ j + 0 ∧ j + 1 + v0 < l.length + 0
      · rw [if_pos q, show l.length - 1 - j = j by omega]
      · rw [if_neg q]
  obtain ⟨r, e, h', A', rfl, p1, p2, p3, p4, p5, p6⟩ := key
  refine ⟨h', A', e, ⟨by rw [p1]; exact s0, by rw [p4 42 (by decide)]; exact s1, by rw [p4 42 (by decide), List.length_reverse]; exact s2, s3, p2, by rw [List.length_reverse]; exact s5, fun k hk => ?_, p6⟩, p3, fun r _ hr => p4 r hr, fun _ _ => rfl⟩
  rw [List.length_reverse] at hk
  rw [p5 k hk, List.getD_eq_getElem?_getD, List.getD_eq_getElem?_getD, List.getElem?_reverse hk]
end CSBR
