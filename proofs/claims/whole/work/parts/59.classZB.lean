/-! the class removes a word; plain reads -/
section CLASSZB
variable {n : Nat} {h : mH} {A M : Nat → Nat → Int32} {R : Nat → Nat → Option Nat} {S : St}
theorem c_ct {v : Int32} (hi : IC n h A R S) (hg : GoodS S) : Out n h A M R S (f_X6_removeSample (ca n 1) v (E n h A M R)) exS (aCutW S v) := by
  have h8 := hg.1.2.1
  unfold aCutW
  by_cases hv : v < nI 0 ∨ nI (lW (sCur S)).length ≤ v
  · rw [ixN_F hv]
    exact Out_no (by decide) (c_cutF bSh_1 hi.2.1 h8 hv) fin_S6
  · have h0 : ¬ v < nI 0 := fun q => hv (Or.inl q)
    have h1 : ¬ nI (lW (sCur S)).length ≤ v := fun q => hv (Or.inr q)
    obtain ⟨i, hj, rfl⟩ := nI_of h0
    rw [n_le (by omega) hj] at h1
    have hi' : i < (lW (sCur S)).length := by omega
    rw [ixN_T hi' (by omega)]
    refine ⟨_, h, _, _, c_cutT bSh_1 hi.2.1 h8 hi', MonoS_rf n h, ?_, fun r h1 h2 => ?_, Or.inr ⟨rfl, rfl, ?_, _, cu_OK hi.2.1 h8 hi', rfl⟩⟩
    · unfold cuA cuR
      exact ⟨ro_ne _ _ (by omega), fun r hr => ro_ne _ _ (by omega), fun r hr => ro_ne _ _ (by omega), fun r h1 h2 => ⟨ro_ne _ _ (by omega), ro_ne _ _ (by omega)⟩⟩
    · unfold cuA cuR
      exact ⟨ro_ne _ _ (by omega), ro_ne _ _ (by omega)⟩
    · show (lW (sCur S)).length - 1 < 1000
      omega
theorem c_removeWord {v : Int32} (hi : IC n h A R S) (hg : GoodS S) : CA n M (f_X11_removeWord (ca n 0) v (E n h A M R)) exS (aCutW S v) := by
  obtain ⟨A1, R1, f, ep, i1, hh, hs⟩ := c_prep (M := M) hi
  refine c_change i1 hh hs (c_ct (v := v) i1 hg) (fun k g r ex ef => ?_)
  unfold f_X11_removeWord
  have e1 := ESh bSh_1
  obtain ⟨k0, g', A', R', ex', -⟩ := c_ct (M := M) (v := v) i1 hg
  rw [ex] at ex'
  cases ex'
  rcases r with ⟨r | r, gr⟩
  · simp (disch := omega) only [↓grd_u, ↓bnd_e, ↓orf_u, ↓oif_u, ↓cal_u, ↓calX_u, ↓inrO_u, ↓reduceIte, EM, EMg, EMs, z0, oi, n_inbT, n_cntT, n_ltT, n_ltF, n_leT, n_leF, n_eqT, n_eqF, n_m1T, n_m1F, n_m1F', n_cl, n_add, n_mul, ro_at, ro_ro, up_at, up_up, EC, e1, ep, ex, ef]
  · simp (disch := omega) only [↓grd_u, ↓bnd_e, ↓orf_u, ↓oif_u, ↓cal_u, ↓calX_u, ↓inrO_u, ↓reduceIte, EM, EMg, EMs, z0, oi, n_inbT, n_cntT, n_ltT, n_ltF, n_leT, n_leF, n_eqT, n_eqF, n_m1T, n_m1F, n_m1F', n_cl, n_add, n_mul, ro_at, ro_ro, up_at, up_up, EC, e1, ep, ex, ef]
theorem c_undoable (hi : IC n h A R S) : f_X11_undoableCount (ca n 0) (E n h A M R) = some (nI (sUndo S).length, E n h A M R) := by
  obtain ⟨f, hf⟩ := hi.2.2.1
  have hz := c_hsize (M := M) hf
  unfold f_X11_undoableCount
  simp (disch := omega) only [↓grd_u, ↓bnd_e, ↓orf_u, ↓oif_u, ↓cal_u, ↓calX_u, ↓inrO_u, ↓reduceIte, EM, EMg, EMs, z0, oi, n_inbT, n_cntT, n_ltT, n_ltF, n_leT, n_leF, n_eqT, n_eqF, n_m1T, n_m1F, n_m1F', n_cl, n_add, n_mul, ro_at, ro_ro, up_at, up_up, EC, hz]
end CLASSZB
