/-! the class: a character behind the line -/
theorem calC_u {ρ β : Type} (x : Option ((ρ × mH) × Nat × Nat)) (f : ρ → mH → Nat → Nat → Option β) : calC x f = match x with
  | none => none
  | some o => f o.1.1 o.1.2 o.2.1 o.2.2 := by
  cases x <;> rfl
theorem adc_u {α : Type} (a b : Nat) (x : Option (α × Nat × Nat)) : adc a b x = match x with
  | none => none
  | some o => some (o.1, o.2.1 + a, o.2.2 + b) := by
  cases x <;> rfl
theorem nar_by : ∀ v, v < 128 → vp_nar .byte ((nI v).toInt8.toInt32) = (nI v).toInt8.toInt32 ∧ (nI v).toInt8.toInt32 = nI v := by decide +kernel
section CSBA
variable {n : Nat} {h : mH} {A M : Nat → Nat → Int32} {R : Nat → Nat → Option Nat} {S : St} {y cap : Nat} {l : List Nat}
theorem c_copyOf {m : Nat} (hx : n + 133 ≤ nx h) (hy : YB n h y cap) (hb : ∀ k, ∃ v, v < 128 ∧ rdY n h A y k = nI v) (hm : cap < m) (hm2 : m < 1000) : f_J7_copyOf_9075b y (nI m) (E n h A M R) = some ((some (nx h), E n (celH h 102 m (fun j => if j < cap then rdY n h A y j else nI 0) (fun _ => none)) A M R), 1, m) := by
  obtain ⟨k1, k2⟩ := YB_kd (A := A) (M := M) (R := R) hy
  have hne := YB_ne hx hy
  have hc := YB_cap hy
  have hal : al (E n h A M R) 102 m = E n (celH h 102 m (fun _ => nI 0) (fun _ => none)) A M R := by rw [al_X (by omega), al_cel]
  have k3 : kd (E n (celH h 102 m (fun _ => nI 0) (fun _ => none)) A M R) (nx h) = 102 := by rw [kd_X (by omega), kd_celS]
  have k4 : sz (E n (celH h 102 m (fun _ => nI 0) (fun _ => none)) A M R) (nx h) = m := by rw [sz_X (by omega), sz_celS]
  have kdE : kd (E n (celH h 102 m (fun _ => nI 0) (fun _ => none)) A M R) y = 102 ∧ sz (E n (celH h 102 m (fun _ => nI 0) (fun _ => none)) A M R) y = cap := by
    rcases hy with ⟨rfl, rfl⟩ | ⟨q1, q2, q3, q4, -⟩
    · exact ⟨by rw [kd_C (by decide)]; rfl, by rw [sz_C (by decide)]; rfl⟩
    · exact ⟨by rw [kd_X (by omega), kd_celN hne]; exact q3, by rw [sz_X (by omega), sz_celN hne]; exact q4⟩
  have hgi : ∀ i, gi (E n (celH h 102 m (fun _ => nI 0) (fun _ => none)) A M R) y i = rdY n h A y i := fun i => by rw [gi_Ecel hne]; exact YB_gi hy i
  have hcp := cp_new (A := A) (M := M) (R := R) (m := m) (k := cap) (b := y) (show n + 131 ≤ nx h by omega) hne
  have hF : (fun j => if j < cap then gi (E n h A M R) y j else nI 0) = (fun j => if j < cap then rdY n h A y j else nI 0) := by
    funext j
    rw [YB_gi hy]
  rw [hF] at hcp
  have hfit : ∀ i, fits .byte (.int (gi (E n (celH h 102 m (fun _ => nI 0) (fun _ => none)) A M R) y i)) = true := fun i => by
    rw [hgi]
    obtain ⟨v, v1, v2⟩ := hb i
    rw [v2]
    exact byt v v1
  have e0 : (0 : Int32).toNatClampNeg = 0 := by decide
  have ecl := n_cl (a := cap) (by omega)
  have emn : ∀ (P : Prop) [Decidable P], P = False → (if P then nI m else nI cap) = nI cap := fun P _ hP => by rw [if_neg (by rw [hP]; exact id)]
  unfold f_J7_copyOf_9075b
  simp (disch := omega) only [↓grd_u, ↓bnd_e, ↓orf_u, ↓oif_u, ↓cal_u, ↓calX_u, ↓inrO_u, ↓reduceIte, EM, EMg, EMs, z0, oi, n_inbT, n_cntT, n_ltT, n_ltF, n_leT, n_leF, n_eqT, n_eqF, n_m1T, n_m1F, n_m1F', n_cl, n_add, n_mul, ro_at, ro_ro, up_at, up_up, ↓adc_u, k1, k2, nx_E, n_cl, hal, k3, k4, kdE.1, kdE.2, hfit, Nat.zero_add, implies_true, not_false_eq_true, and_true, true_and]
  rw [if_pos ⟨Nat.le_refl _, by omega⟩, hcp]
  simp only [Nat.zero_add]
theorem gr42 (hr : R 42 0 = some y) : gr (E n h A M R) (ca n 42) 0 = some y := by
  rw [gr_D (by decide) rfl]
  exact hr
theorem c_newCap {m : Nat} (hs : Sb n h A R l y cap) (hm : m = cap + 1) : f_J5_newCapacity_0f7a4 (ca n 42) (nI m) (E n h A M R) = some (nI (2 * cap + 2), E n h A M R) := by
  obtain ⟨s0, s1, s2, s3, s4, s5, s6, s7⟩ := hs
  obtain ⟨k1, k2⟩ := YB_kd (A := A) (M := M) (R := R) s4
  have hc := YB_cap s4
  have r0 := gr42 (n := n) (h := h) (A := A) (M := M) s3
  have e1 : nI m - nI cap = nI 1 := by rw [hm, n_sub (by omega), show cap + 1 - cap = 1 by omega]
  have hnl : f_J8_newLength_cabcc (nI cap) (nI 1) (nI (cap + 2)) (E n h A M R) = some (nI (2 * cap + 2), E n h A M R) := by
    unfold f_J8_newLength_cabcc
    simp (disch := omega) only [↓grd_u, ↓bnd_e, ↓orf_u, ↓oif_u, ↓cal_u, ↓calX_u, ↓inrO_u, ↓reduceIte, EM, EMg, EMs, z0, oi, n_inbT, n_cntT, n_ltT, n_ltF, n_leT, n_leF, n_eqT, n_eqF, n_m1T, n_m1F, n_m1F', n_cl, n_add, n_mul, ro_at, ro_ro, up_at, up_up, show cap + (cap + 2) = 2 * cap + 2 by omega]
  unfold f_J5_newCapacity_0f7a4
  simp (disch := omega) only [↓grd_u, ↓bnd_e, ↓orf_u, ↓oif_u, ↓cal_u, ↓calX_u, ↓inrO_u, ↓reduceIte, EM, EMg, EMs, z0, oi, n_inbT, n_cntT, n_ltT, n_ltF, n_leT, n_leF, n_eqT, n_eqF, n_m1T, n_m1F, n_m1F', n_cl, n_add, n_mul, ro_at, ro_ro, up_at, up_up, EC, ECg, r0, k1, k2, s1, shl0, shr0, e1, hnl]
theorem c_ensure {m : Nat} (hs : Sb n h A R l y cap) (hm : m ≤ cap + 1) (h142 : m ≤ 142) : ∃ h' R' y' cap' ch mh, f_J5_ensureCapacityInternal_d00df (ca n 42) (nI m) (E n h A M R) = some (((), E n h' A M R'), ch, mh) ∧ Sb n h' A R' l y' cap' ∧ FrL n h h' A A R R' ∧ m ≤ cap' ∧ ch + fcC cap = fcC cap' ∧ mh + fcM cap = fcM cap' := by
  obtain ⟨s0, s1, s2, s3, s4, s5, s6, s7⟩ := id hs
  obtain ⟨k1, k2⟩ := YB_kd (A := A) (M := M) (R := R) s4
  have hc := YB_cap s4
  have r0 := gr42 (n := n) (h := h) (A := A) (M := M) s3
  unfold f_J5_ensureCapacityInternal_d00df g_J5_ensureCapacityInternal_d00df_38
  by_cases e : m ≤ cap
  · have hle := sleT m (by omega) cap (by omega) e
    refine ⟨h, R, y, cap, 0, 0, ?_, hs, FrL_rf, e, Nat.zero_add _, Nat.zero_add _⟩
    simp (disch := omega) only [↓grd_u, ↓bnd_e, ↓orf_u, ↓oif_u, ↓cal_u, ↓calX_u, ↓inrO_u, ↓reduceIte, EM, EMg, EMs, z0, oi, n_inbT, n_cntT, n_ltT, n_ltF, n_leT, n_leF, n_eqT, n_eqF, n_m1T, n_m1F, n_m1F', n_cl, n_add, n_mul, ro_at, ro_ro, up_at, up_up, EC, ECg, r0, k1, k2, s1, shr0]
    rw [if_pos hle]
  · have hme : m = cap + 1 := by omega
    have e1 : nI m - nI cap = nI 1 := by rw [hme, n_sub (by omega), show cap + 1 - cap = 1 by omega]
    have hnc := c_newCap (M := M) hs hme
    have hcp := c_copyOf (A := A) (M := M) (R := R) (m := 2 * cap + 2) s0 s4 s7 (by omega) (by omega)
    obtain ⟨h2, hh2⟩ : ∃ h2, h2 = celH h 102 (2 * cap + 2) (fun j => if j < cap then rdY n h A y j else nI 0) (fun _ => none) := ⟨_, rfl⟩
    rw [← hh2] at hcp
    have hsr : sr (E n h2 A M R) (ca n 42) 0 (some (nx h)) = E n h2 A M (ro R 42 (up (R 42) 0 (some (nx h)))) := sr_C (by decide) rfl
    have hnx : nx h2 = nx h + 1 := by rw [hh2]; rfl
    have hrd : ∀ k, rdY n h2 A (nx h) k = if k < cap then rdY n h A y k else nI 0 := fun k => by
      have : rdY n h2 A (nx h) k = gi h2 (nx h) k := by
        unfold rdY
        rw [if_neg (by unfold ca; omega)]
      rw [this, hh2, gi_celS]
    refine ⟨h2, ro R 42 (up (R 42) 0 (some (nx h))), nx h, 2 * cap + 2, 1, 2 * cap + 2, ?_, ⟨by omega, s1, s2, by rw [ro_at, up_at], Or.inr ⟨s0, by omega, by rw [hh2]; exact kd_celS, by rw [hh2]; exact sz_celS, by omega⟩, by omega, fun k hk => by rw [hrd, if_pos (by omega)]; exact s6 k hk, fun k => ?_⟩, ⟨by rw [hh2]; exact MonoS_w (MonoS_cel n), fun _ _ _ => rfl, fun r hr => ro_ne _ _ hr⟩, by omega, ?_, ?_⟩
    · simp (disch := omega) only [↓grd_u, ↓bnd_e, ↓orf_u, ↓oif_u, ↓cal_u, ↓calX_u, ↓inrO_u, ↓reduceIte, EM, EMg, EMs, z0, oi, n_inbT, n_cntT, n_ltT, n_ltF, n_leT, n_leF, n_eqT, n_eqF, n_m1T, n_m1F, n_m1F', n_cl, n_add, n_mul, ro_at, ro_ro, up_at, up_up, ↓calC_u, ↓adc_u, EC, ECg, r0, k1, k2, s1, shr0, shl0, e1, hnc, hcp, hsr, Nat.zero_add]
    · rw [hrd]
      by_cases q : k < cap
      · rw [if_pos q]; exact s7 k
      · rw [if_neg q]; exact ⟨0, by decide, rfl⟩
    · rcases hc with z | z | z | z
      · rw [z]; rfl
      · rw [z]; rfl
      · rw [z]; rfl
      · omega
    · rcases hc with z | z | z | z
      · rw [z]; rfl
      · rw [z]; rfl
      · rw [z]; rfl
      · omega
/-- a character is put behind the line -/
theorem c_sbApp {c : Nat} (hs : Sb n h A R l y cap) (hl : l.length < 142) (hc : c < 128) : ∃ h' A' R' y' cap' ch mh, f_J4_append_cf468 (ca n 42) (nI c) (E n h A M R) = some ((some (ca n 42), E n h' A' M R'), ch, mh) ∧ Sb n h' A' R' (l ++ [c]) y' cap' ∧ FrL n h h' A A' R R' ∧ ch + fcC cap = fcC cap' ∧ mh + fcM cap = fcM cap' := by
  have hlen := hs.2.2.1
  have h5 := hs.2.2.2.2.2.1
  obtain ⟨h1, R1, y1, cap1, ch, mh, e1, q1, f1, m1, c1, c2⟩ := c_ensure (M := M) (m := l.length + 1) hs (by omega) (by omega)
  obtain ⟨s0, s1, s2, s3, s4, s5, s6, s7⟩ := q1
  obtain ⟨k1, k2⟩ := YB_kd (A := A) (M := M) (R := R1) s4
  have hcp := YB_cap s4
  have r0 := gr42 (n := n) (h := h1) (A := A) (M := M) s3
  obtain ⟨n1, n2⟩ := nar_by c hc
  rw [n2] at n1
  obtain ⟨A1, hA1⟩ : ∃ A1, A1 = ro A 42 (up (A 42) 3 (nI (l.length + 1))) := ⟨_, rfl⟩
  have hk1 : kd (E n h1 A1 M R1) y1 = 102 ∧ sz (E n h1 A1 M R1) y1 = cap1 := YB_kd s4
  -- the write itself
  have hw : ∃ h2 A2, si (E n h1 A1 M R1) y1 l.length (nI c) = E n h2 A2 M R1 ∧ nx h2 = nx h1 ∧ YB n h2 y1 cap1 ∧ Mono n h1 h2 ∧ (∀ r, r ≠ 43 → A2 r = A1 r) ∧ ∀ k, rdY n h2 A2 y1 k = if k = l.length then nI c else rdY n h1 A1 y1 k := by
    rcases s4 with ⟨rfl, rfl⟩ | ⟨p1, p2, p3, p4, p5⟩
    · refine ⟨h1, ro A1 43 (up (A1 43) l.length (nI c)), si_C (by decide), rfl, Or.inl ⟨rfl, rfl⟩, Mono_rf _ _, fun r hr => ro_ne _ _ hr, fun k => ?_⟩
      unfold rdY
      rw [if_pos rfl, if_pos rfl, ro_at]
      rfl
    · refine ⟨si h1 y1 l.length (nI c), A1, si_X (by omega), rfl, Or.inr ⟨p1, p2, p3, p4, p5⟩, ⟨Nat.le_refl _, fun a a1 a2 a3 => ⟨rfl, rfl, ?_, rfl⟩⟩, fun _ _ => rfl, fun k => ?_⟩
      · have hne : a ≠ y1 := fun z => a3 (by rw [z]; exact p3)
        funext j
        show u2 (gi h1) y1 l.length (nI c) a j = gi h1 a j
        rw [u2_up, vu_ne _ _ hne]
      · have hne : y1 ≠ ca n 43 := by unfold ca; omega
        unfold rdY
        rw [if_neg hne, if_neg hne]
        show u2 (gi h1) y1 l.length (nI c) y1 k = _
        rw [u2_up, vu_at]
        rfl
  obtain ⟨h2, A2, w1, w2, w3, w4, w5, w6⟩ := hw
  have hrd1 : ∀ k, rdY n h1 A1 y1 k = rdY n h1 A y1 k := fun k => by
    unfold rdY
    rw [hA1, ro_ne _ _ (by decide)]
  refine ⟨h2, A2, R1, y1, cap1, ch, mh, ?_, ⟨by rw [w2]; exact s0, by rw [w5 42 (by decide), hA1, ro_at, up_ne _ _ (by decide)]; exact s1, by rw [w5 42 (by decide), hA1, ro_at, up_at, List.length_append]; rfl, s3, w3, by rw [List.length_append, List.length_singleton]; omega, fun k hk => ?_, fun k => ?_⟩, FrL_tr f1 ⟨w4, fun r z1 z2 => by rw [w5 r z2, hA1, ro_ne _ _ z1], fun _ _ => rfl⟩, c1, c2⟩
  · have eA : ∀ g, f_J1_canEncode_fc78d (nI c) g = some (nI 1, g) := fun g => by
      unfold f_J1_canEncode_fc78d g_J1_canEncode_fc78d_12
      simp (disch := omega) only [↓grd_u, ↓bnd_e, ↓orf_u, ↓oif_u, ↓cal_u, ↓calX_u, ↓inrO_u, ↓reduceIte, EM, EMg, EMs, z0, oi, n_inbT, n_cntT, n_ltT, n_ltF, n_leT, n_leF, n_eqT, n_eqF, n_m1T, n_m1F, n_m1F', n_cl, n_add, n_mul, ro_at, ro_ro, up_at, up_up, nb1]
    have eL : ∀ A', A' 42 1 = nI 0 → f_J5_isLatin1_aae02 (ca n 42) (E n h1 A' M R1) = some (nI 1, E n h1 A' M R1) := fun A' hA => by
      unfold f_J5_isLatin1_aae02 g_J5_isLatin1_aae02_18
      simp (disch := omega) only [↓grd_u, ↓bnd_e, ↓orf_u, ↓oif_u, ↓cal_u, ↓calX_u, ↓inrO_u, ↓reduceIte, EM, EMg, EMs, z0, oi, n_inbT, n_cntT, n_ltT, n_ltF, n_leT, n_leF, n_eqT, n_eqF, n_m1T, n_m1F, n_m1F', n_cl, n_add, n_mul, ro_at, ro_ro, up_at, up_up, EC, ECg, hA, nb1]
    have s2' : A 42 3 = nI l.length := s2
    unfold f_J4_append_cf468 f_J5_append_3fe6f g_J5_append_3fe6f_75
    simp (disch := omega) only [↓grd_u, ↓bnd_e, ↓orf_u, ↓oif_u, ↓cal_u, ↓calX_u, ↓inrO_u, ↓reduceIte, EM, EMg, EMs, z0, oi, n_inbT, n_cntT, n_ltT, n_ltF, n_leT, n_leF, n_eqT, n_eqF, n_m1T, n_m1F, n_m1F', n_cl, n_add, n_mul, ro_at, ro_ro, up_at, up_up, ↓calC_u, ↓adc_u, EC, ECg, ECs, hlen, e1, eL A s1, eA, r0, s2', n2, n1, ← hA1, hk1.1, hk1.2, w1, Nat.zero_add, Nat.add_zero]
  · rw [w6, hrd1]
    rw [List.length_append, List.length_singleton] at hk
    by_cases z : k = l.length
    · rw [if_pos z, z, gD_r (Nat.le_refl _), Nat.sub_self]
      rfl
    · rw [if_neg z, gD_l (by omega)]
      exact s6 k (by omega)
  · rw [w6, hrd1]
    by_cases z : k = l.length
    · rw [if_pos z]; exact ⟨c, hc, rfl⟩
    · rw [if_neg z]; exact s7 k
end CSBA
