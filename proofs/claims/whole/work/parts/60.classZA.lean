/-! the class saves, restores, undoes -/
def exI : Nat → String := fun _ => "java/lang/IllegalStateException"
section CLASSZA
variable {n : Nat} {h : mH} {A M : Nat → Nat → Int32} {R : Nat → Nat → Option Nat} {S : St}
theorem c_save (hi : IC n h A R S) : ∃ A' R', f_X11_save (ca n 0) (E n h A M R) = some (nI (nPat (sCur S)), E n h A' M R') ∧ IC n h A' R' (aSave S) := by
  obtain ⟨a0, a1, ⟨f, a2⟩, a3, a4, a5, a6, a7⟩ := hi
  have e1 := ESh bSh_1
  have e4 := ESh bSh_4
  have hc := c_copyFrom (M := M) bSh_4 bSh_1 (by omega) a1
  have ok := cp_OK bSh_4 bSh_1 (by omega) a1
  have s1 : ShOK n h (ro (cpA A 4 1) 0 (up (cpA A 4 1 0) 14 (nI 1))) (cpR R 4 1) 1 (sCur S) := ShOK_rows ok.2 (ro_ne _ _ (by omega)) rfl rfl
  have s4 : ShOK n h (ro (cpA A 4 1) 0 (up (cpA A 4 1 0) 14 (nI 1))) (cpR R 4 1) 4 (sCur S) := ShOK_rows ok.1 (ro_ne _ _ (by omega)) rfl rfl
  have hA : ∀ r, r ≠ 0 → r ≠ 4 → ro (cpA A 4 1) 0 (up (cpA A 4 1 0) 14 (nI 1)) r = A r := fun r h1 h2 => by rw [ro_ne _ _ h1]; unfold cpA; exact ro_ne _ _ h2
  have h0 : ∀ k, k ≠ 14 → ro (cpA A 4 1) 0 (up (cpA A 4 1 0) 14 (nI 1)) 0 k = A 0 k := fun k hk => by rw [ro_at, up_ne _ _ hk]; unfold cpA; rw [ro_ne _ _ (by decide)]
  have hR : ∀ r, r ≠ 5 → r ≠ 6 → cpR R 4 1 r = R r := fun r h1 h2 => by unfold cpR; rw [ro_ne _ _ (by omega), ro_ne _ _ (by omega)]
  refine ⟨_, _, ?_, a0, s1, ⟨f, Hist_fr a2 (fun r _ _ => hA r (by omega) (by omega)) (fun r _ _ => hR r (by omega) (by omega))⟩, ⟨by rw [ro_at, up_at], s4⟩, ?_, ?_, ?_, ?_⟩
  · have hp := c_patternTotal (M := M) bSh_1 s1
    unfold f_X11_save
    simp (disch := omega) only [↓grd_u, ↓bnd_e, ↓orf_u, ↓oif_u, ↓cal_u, ↓calX_u, ↓inrO_u, ↓reduceIte, EM, EMg, EMs, z0, oi, n_inbT, n_cntT, n_ltT, n_ltF, n_leT, n_leF, n_eqT, n_eqF, n_m1T, n_m1F, n_m1F', n_cl, n_add, n_mul, ro_at, ro_ro, up_at, up_up, EC, ECs, e1, e4, hc, hp]
  · rw [hA 36 (by omega) (by omega), hA 37 (by omega) (by omega)]; exact a4
  · rw [h0 15 (by omega)]; exact a5
  · rw [h0 16 (by omega)]; exact a6
  · exact Line_mono a7 (MonoS_rf n h) (hA 42 (by omega) (by omega)) (hA 43 (by omega) (by omega)) (hR 42 (by omega) (by omega))
theorem c_restore (hi : IC n h A R S) : CA n M (f_X11_restore (ca n 0) (E n h A M R)) exI (aRest S) := by
  have hi0 := hi
  obtain ⟨a0, a1, ⟨f, a2⟩, a3, a4, a5, a6, a7⟩ := hi
  have e1 := ESh bSh_1
  unfold aRest
  cases e : sSaved S with
  | none =>
    rw [e] at a3
    refine ⟨h, A, R, ?_, hi0⟩
    unfold f_X11_restore
    simp (disch := omega) only [↓grd_u, ↓bnd_e, ↓orf_u, ↓oif_u, ↓cal_u, ↓calX_u, ↓inrO_u, ↓reduceIte, EM, EMg, EMs, z0, oi, n_inbT, n_cntT, n_ltT, n_ltF, n_leT, n_leF, n_eqT, n_eqF, n_m1T, n_m1F, n_m1F', n_cl, n_add, n_mul, ro_at, ro_ro, up_at, up_up, EC, ECg, a3]
    rfl
  | some L =>
    rw [e] at a3
    obtain ⟨a3, a3'⟩ := a3
    have hc := c_copyFrom (M := M) bSh_1 bSh_4 (by omega) a3'
    have ok := cp_OK bSh_1 bSh_4 (by omega) a3'
    have hA : ∀ r, r ≠ 1 → cpA A 1 4 r = A r := fun r h2 => by unfold cpA; exact ro_ne _ _ h2
    have hR : ∀ r, r ≠ 2 → r ≠ 3 → cpR R 1 4 r = R r := fun r h1 h2 => by unfold cpR; rw [ro_ne _ _ (by omega), ro_ne _ _ (by omega)]
    have hh : Hist n h (cpA A 1 4) (cpR R 1 4) f (sUndo S) := Hist_fr a2 (fun r _ _ => hA r (by omega)) (fun r _ _ => hR r (by omega) (by omega))
    have hf := c_forget (M := M) hh
    have hB : ∀ r, r ≠ 1 → r ≠ 7 → kpA (cpA A 1 4) f 0 r = A r := fun r h1 h2 => by unfold kpA; rw [ro_ne _ _ h2]; exact hA r h1
    have s1 : ShOK n h (kpA (cpA A 1 4) f 0) (cpR R 1 4) 1 L := ShOK_rows ok.1 (by unfold kpA; exact ro_ne _ _ (by decide)) rfl rfl
    have s4 : ShOK n h (kpA (cpA A 1 4) f 0) (cpR R 1 4) 4 L := ShOK_rows ok.2 (by unfold kpA; exact ro_ne _ _ (by decide)) rfl rfl
    refine ⟨h, _, _, ?_, a0, s1, ⟨f, forget_OK hh⟩, ⟨by rw [hB 0 (by decide) (by decide)]; exact a3, s4⟩, ?_, ?_, ?_, ?_⟩
    · have hp := c_patternTotal (M := M) bSh_1 s1
      unfold f_X11_restore
      simp (disch := omega) only [↓grd_u, ↓bnd_e, ↓orf_u, ↓oif_u, ↓cal_u, ↓calX_u, ↓inrO_u, ↓reduceIte, EM, EMg, EMs, z0, oi, n_inbT, n_cntT, n_ltT, n_ltF, n_leT, n_leF, n_eqT, n_eqF, n_m1T, n_m1F, n_m1F', n_cl, n_add, n_mul, ro_at, ro_ro, up_at, up_up, EC, ECg, a3, e1, hc, hf, hp]
    · rw [hB 36 (by decide) (by decide), hB 37 (by decide) (by decide)]; exact a4
    · rw [hB 0 (by decide) (by decide)]; exact a5
    · rw [hB 0 (by decide) (by decide)]; exact a6
    · exact Line_mono a7 (MonoS_rf n h) (hB 42 (by decide) (by decide)) (hB 43 (by decide) (by decide)) (hR 42 (by decide) (by decide))
theorem c_undo (hi : IC n h A R S) : CA n M (f_X11_undo (ca n 0) (E n h A M R)) exI (aUndo S) := by
  have hi0 := hi
  obtain ⟨a0, a1, ⟨f, a2⟩, a3, a4, a5, a6, a7⟩ := hi
  unfold aUndo
  cases e : sUndo S with
  | nil =>
    rw [e] at a2
    have hz := c_hsize (M := M) a2
    refine ⟨h, A, R, ?_, hi0⟩
    unfold f_X11_undo
    simp (disch := omega) only [↓grd_u, ↓bnd_e, ↓orf_u, ↓oif_u, ↓cal_u, ↓calX_u, ↓inrO_u, ↓reduceIte, EM, EMg, EMs, z0, oi, n_inbT, n_cntT, n_ltT, n_ltF, n_leT, n_leF, n_eqT, n_eqF, n_m1T, n_m1F, n_m1F', n_cl, n_add, n_mul, ro_at, ro_ro, up_at, up_up, EC, hz, List.length_nil]
    rfl
  | cons L u =>
    rw [e] at a2
    have hz := c_hsize (M := M) a2
    obtain ⟨b1, b2⟩ := back_OK a2
    have ht := c_takeLatest (M := M) a2
    obtain ⟨t1, t2⟩ := takePrep_OK b1 b2
    have hz2 := c_hsize (M := M) t1
    have h8 := a2.2.2.2.1
    rw [List.length_cons] at h8
    have kp : Kp A (cpA (kpA A ((f + 8) % 9) u.length) 1 (9 + 3 * ((f + 8) % 9))) R (cpR R 1 (9 + 3 * ((f + 8) % 9))) := by
      unfold cpA cpR kpA
      exact ⟨by rw [ro_ne _ _ (by omega), ro_ne _ _ (by omega)], fun r hr => by rw [ro_ne _ _ (by omega), ro_ne _ _ (by omega)], fun r hr => by rw [ro_ne _ _ (by omega), ro_ne _ _ (by omega)], fun r h1 h2 => ⟨by rw [ro_ne _ _ (by omega), ro_ne _ _ (by omega)], by rw [ro_ne _ _ (by omega), ro_ne _ _ (by omega)]⟩⟩
    refine ⟨h, _, _, ?_, IC_set (f := (f + 8) % 9) hi0 (MonoS_rf n h) kp t2 t1 rfl⟩
    unfold f_X11_undo
    simp (disch := omega) only [↓grd_u, ↓bnd_e, ↓orf_u, ↓oif_u, ↓cal_u, ↓calX_u, ↓inrO_u, ↓reduceIte, EM, EMg, EMs, z0, oi, n_inbT, n_cntT, n_ltT, n_ltF, n_leT, n_leF, n_eqT, n_eqF, n_m1T, n_m1F, n_m1F', n_cl, n_add, n_mul, ro_at, ro_ro, up_at, up_up, EC, hz, List.length_cons, ht, hz2]
end CLASSZA
