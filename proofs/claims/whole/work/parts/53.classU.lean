/-! the class's history: nine shelves in a ring, the one at f is written before each change -/
def Hist (n : Nat) (h : mH) (A : Nat → Nat → Int32) (R : Nat → Nat → Option Nat) (f : Nat) (u : List Lib) : Prop := f < 9 ∧ A 7 1 = nI f ∧ A 7 2 = nI u.length ∧ u.length ≤ 8 ∧ ∀ i L, u[i]? = some L → ShOK n h A R (9 + 3 * ((f + 8 - i) % 9)) L
theorem Hist_mono {n : Nat} {h h' : mH} {A : Nat → Nat → Int32} {R : Nat → Nat → Option Nat} {f : Nat} {u : List Lib} (hp : Hist n h A R f u) (hm : Mono n h h') : Hist n h' A R f u := ⟨hp.1, hp.2.1, hp.2.2.1, hp.2.2.2.1, fun i L e => ShOK_mono (hp.2.2.2.2 i L e) hm⟩
theorem Hist_fr {n : Nat} {h : mH} {A A' : Nat → Nat → Int32} {R R' : Nat → Nat → Option Nat} {f : Nat} {u : List Lib} (hp : Hist n h A R f u) (h1 : ∀ r, 7 ≤ r → r < 36 → A' r = A r) (h2 : ∀ r, 7 ≤ r → r < 36 → R' r = R r) : Hist n h A' R' f u := ⟨hp.1, by rw [h1 7 (by omega) (by omega)]; exact hp.2.1, by rw [h1 7 (by omega) (by omega)]; exact hp.2.2.1, hp.2.2.2.1, fun i L e => ShOK_rows (hp.2.2.2.2 i L e) (h1 _ (by omega) (by omega)) (h2 _ (by omega) (by omega)) (h2 _ (by omega) (by omega))⟩
theorem bSh_f {f : Nat} (hf : f < 9) : bSh (9 + 3 * f) := by
  unfold bSh
  omega
theorem bSh_1 : bSh 1 := Or.inl rfl
theorem bSh_4 : bSh 4 := Or.inr (Or.inl rfl)
section CLASSU
variable {n : Nat} {h : mH} {A M : Nat → Nat → Int32} {R : Nat → Nat → Option Nat} {f : Nat} {u : List Lib} {L : Lib}
theorem gr_8 (hf : f < 9) : gr (E n h A M R) (ca n 8) f = some (ca n (9 + 3 * f)) := by
  have : f = 0 ∨ f = 1 ∨ f = 2 ∨ f = 3 ∨ f = 4 ∨ f = 5 ∨ f = 6 ∨ f = 7 ∨ f = 8 := by omega
  rcases this with rfl | rfl | rfl | rfl | rfl | rfl | rfl | rfl | rfl <;> exact gr_C (by decide) rfl
theorem c_prepShelf (hf : f < 9) (h1 : A 7 1 = nI f) : f_X1_preparedShelf (ca n 7) (E n h A M R) = some (some (ca n (9 + 3 * f)), E n h A M R) := by
  unfold f_X1_preparedShelf g_X1_preparedShelf_29
  simp (disch := omega) only [↓grd_u, ↓bnd_e, ↓orf_u, ↓oif_u, ↓cal_u, ↓calX_u, ↓inrO_u, ↓reduceIte, EM, EMg, EMs, z0, oi, n_inbT, n_cntT, n_ltT, n_ltF, n_leT, n_leF, n_eqT, n_eqF, n_m1T, n_m1F, n_m1F', n_cl, n_add, n_mul, ro_at, ro_ro, up_at, up_up, EC, ECg, h1, gr_8]
theorem c_prepare (hh : Hist n h A R f u) (hs : ShOK n h A R 1 L) : f_X1_prepare (ca n 7) (ca n 1) (E n h A M R) = some ((), E n h (cpA A (9 + 3 * f) 1) M (cpR R (9 + 3 * f) 1)) := by
  have e1 := ESh (bSh_f hh.1)
  have hc := c_copyFrom (M := M) (bSh_f hh.1) bSh_1 (by omega) hs
  unfold f_X1_prepare g_X1_prepare_14
  simp (disch := omega) only [↓grd_u, ↓bnd_e, ↓orf_u, ↓oif_u, ↓cal_u, ↓calX_u, ↓inrO_u, ↓reduceIte, EM, EMg, EMs, z0, oi, n_inbT, n_cntT, n_ltT, n_ltF, n_leT, n_leF, n_eqT, n_eqF, n_m1T, n_m1F, n_m1F', n_cl, n_add, n_mul, ro_at, ro_ro, up_at, up_up, EC, c_prepShelf hh.1 hh.2.1, e1, hc]
theorem prep_OK (hh : Hist n h A R f u) (hs : ShOK n h A R 1 L) : Hist n h (cpA A (9 + 3 * f) 1) (cpR R (9 + 3 * f) 1) f u ∧ ShOK n h (cpA A (9 + 3 * f) 1) (cpR R (9 + 3 * f) 1) (9 + 3 * f) L ∧ ShOK n h (cpA A (9 + 3 * f) 1) (cpR R (9 + 3 * f) 1) 1 L := by
  obtain ⟨h1, h2, h3, h4, h5⟩ := hh
  have hc := cp_OK (bSh_f h1) bSh_1 (by omega) hs
  refine ⟨⟨h1, ?_, ?_, h4, fun i L' e => ?_⟩, hc.1, hc.2⟩
  · unfold cpA; rw [ro_ne _ _ (by omega)]; exact h2
  · unfold cpA; rw [ro_ne _ _ (by omega)]; exact h3
  · have hi : i < u.length := by
      rcases Nat.lt_or_ge i u.length with q | q
      · exact q
      · rw [List.getElem?_eq_none q] at e; exact absurd e (by simp)
    refine ShOK_rows (h5 i L' e) ?_ ?_ ?_
    · unfold cpA; rw [ro_ne _ _ (by omega)]
    · unfold cpR; rw [ro_ne _ _ (by omega), ro_ne _ _ (by omega)]
    · unfold cpR; rw [ro_ne _ _ (by omega), ro_ne _ _ (by omega)]
/-- the prepared shelf is kept -/
def kpA (A : Nat → Nat → Int32) (f m : Nat) : Nat → Nat → Int32 := ro A 7 (up (up (A 7) 1 (nI f)) 2 (nI m))
theorem c_keep (hh : Hist n h A R f u) : f_X1_keepPrepared (ca n 7) (E n h A M R) = some ((), E n h (kpA A ((f + 1) % 9) (min 8 (u.length + 1))) M R) := by
  obtain ⟨h1, h2, h3, h4, h5⟩ := hh
  unfold f_X1_keepPrepared kpA
  by_cases h8 : u.length = 8
  · simp (disch := omega) only [↓grd_u, ↓bnd_e, ↓orf_u, ↓oif_u, ↓cal_u, ↓calX_u, ↓inrO_u, ↓reduceIte, EM, EMg, EMs, z0, oi, n_inbT, n_cntT, n_ltT, n_ltF, n_leT, n_leF, n_eqT, n_eqF, n_m1T, n_m1F, n_m1F', n_cl, n_add, n_mul, ro_at, ro_ro, up_at, up_up, ro_ne, up_ne, ro_sw, EC, ECg, ECs, h2, h3, h8, n_rem]
    rfl
  · simp (disch := omega) only [↓grd_u, ↓bnd_e, ↓orf_u, ↓oif_u, ↓cal_u, ↓calX_u, ↓inrO_u, ↓reduceIte, EM, EMg, EMs, z0, oi, n_inbT, n_cntT, n_ltT, n_ltF, n_leT, n_leF, n_eqT, n_eqF, n_m1T, n_m1F, n_m1F', n_cl, n_add, n_mul, ro_at, ro_ro, up_at, up_up, ro_ne, up_ne, ro_sw, EC, ECg, ECs, h2, h3, n_rem]
    rw [show min 8 (u.length + 1) = u.length + 1 by omega]
theorem keep_OK (hh : Hist n h A R f u) (hs : ShOK n h A R (9 + 3 * f) L) : Hist n h (kpA A ((f + 1) % 9) (min 8 (u.length + 1))) R ((f + 1) % 9) ((L :: u).take 8) := by
  obtain ⟨h1, h2, h3, h4, h5⟩ := hh
  unfold kpA
  have hl : ((L :: u).take 8).length = min 8 (u.length + 1) := by rw [List.length_take]; rfl
  refine ⟨by omega, ?_, ?_, by omega, fun i L' e => ?_⟩
  · rw [ro_at, up_ne _ _ (by decide), up_at]
  · rw [ro_at, up_at, hl]
  · have hi : i < ((L :: u).take 8).length := by
      rcases Nat.lt_or_ge i ((L :: u).take 8).length with q | q
      · exact q
      · rw [List.getElem?_eq_none q] at e; exact absurd e (by simp)
    rw [List.getElem?_take_of_lt (by omega)] at e
    refine ShOK_rows (A := A) (R := R) ?_ (ro_ne _ _ (by omega)) rfl rfl
    cases i with
    | zero =>
      cases e
      rw [show ((f + 1) % 9 + 8 - 0) % 9 = f by omega]
      exact hs
    | succ i =>
      have := h5 i L' e
      rw [show ((f + 1) % 9 + 8 - (i + 1)) % 9 = (f + 8 - i) % 9 by omega]
      exact this
theorem c_takePrep (hh : Hist n h A R f u) (hs : ShOK n h A R (9 + 3 * f) L) : f_X1_takePrepared (ca n 7) (ca n 1) (E n h A M R) = some ((), E n h (cpA A 1 (9 + 3 * f)) M (cpR R 1 (9 + 3 * f))) := by
  have e1 := ESh bSh_1
  have hc := c_copyFrom (M := M) bSh_1 (bSh_f hh.1) (by omega) hs
  unfold f_X1_takePrepared g_X1_takePrepared_14
  simp (disch := omega) only [↓grd_u, ↓bnd_e, ↓orf_u, ↓oif_u, ↓cal_u, ↓calX_u, ↓inrO_u, ↓reduceIte, EM, EMg, EMs, z0, oi, n_inbT, n_cntT, n_ltT, n_ltF, n_leT, n_leF, n_eqT, n_eqF, n_m1T, n_m1F, n_m1F', n_cl, n_add, n_mul, ro_at, ro_ro, up_at, up_up, EC, c_prepShelf hh.1 hh.2.1, e1, hc]
theorem takePrep_OK (hh : Hist n h A R f u) (hs : ShOK n h A R (9 + 3 * f) L) : Hist n h (cpA A 1 (9 + 3 * f)) (cpR R 1 (9 + 3 * f)) f u ∧ ShOK n h (cpA A 1 (9 + 3 * f)) (cpR R 1 (9 + 3 * f)) 1 L := by
  refine ⟨Hist_fr hh (fun r h1 h2 => ?_) (fun r h1 h2 => ?_), (cp_OK bSh_1 (bSh_f hh.1) (by omega) hs).1⟩
  · unfold cpA; exact ro_ne _ _ (by omega)
  · unfold cpR; rw [ro_ne _ _ (by omega), ro_ne _ _ (by omega)]
theorem back_OK (hh : Hist n h A R f (L :: u)) : Hist n h (kpA A ((f + 8) % 9) u.length) R ((f + 8) % 9) u ∧ ShOK n h (kpA A ((f + 8) % 9) u.length) R (9 + 3 * ((f + 8) % 9)) L := by
  obtain ⟨h1, h2, h3, h4, h5⟩ := hh
  rw [List.length_cons] at h4
  unfold kpA
  refine ⟨⟨by omega, ?_, ?_, by omega, fun i L' e => ?_⟩, ?_⟩
  · rw [ro_at, up_ne _ _ (by decide), up_at]
  · rw [ro_at, up_at]
  · have hi : i < u.length := by
      rcases Nat.lt_or_ge i u.length with q | q
      · exact q
      · rw [List.getElem?_eq_none q] at e; exact absurd e (by simp)
    have := h5 (i + 1) L' e
    rw [show (f + 8 - (i + 1)) % 9 = ((f + 8) % 9 + 8 - i) % 9 by omega] at this
    exact ShOK_rows this (ro_ne _ _ (by omega)) rfl rfl
  · have := h5 0 L rfl
    rw [Nat.sub_zero] at this
    exact ShOK_rows this (ro_ne _ _ (by omega)) rfl rfl
theorem c_takeLatest (hh : Hist n h A R f (L :: u)) : f_X1_takeLatest (ca n 7) (ca n 1) (E n h A M R) = some ((), E n h (cpA (kpA A ((f + 8) % 9) u.length) 1 (9 + 3 * ((f + 8) % 9))) M (cpR R 1 (9 + 3 * ((f + 8) % 9)))) := by
  obtain ⟨b1, b2⟩ := back_OK hh
  have ht := c_takePrep (M := M) b1 b2
  obtain ⟨h1, h2, h3, h4, h5⟩ := hh
  rw [List.length_cons] at h3 h4
  unfold kpA at ht ⊢
  unfold f_X1_takeLatest
  simp (disch := omega) only [↓grd_u, ↓bnd_e, ↓orf_u, ↓oif_u, ↓cal_u, ↓calX_u, ↓inrO_u, ↓reduceIte, EM, EMg, EMs, z0, oi, n_inbT, n_cntT, n_ltT, n_ltF, n_leT, n_leF, n_eqT, n_eqF, n_m1T, n_m1F, n_m1F', n_cl, n_add, n_mul, ro_at, ro_ro, up_at, up_up, ro_ne, up_ne, ro_sw, EC, ECg, ECs, h2, h3, n_rem, n_sub]
  rw [show f + 9 - 1 = f + 8 by omega, show u.length + 1 - 1 = u.length by omega, ht]
theorem c_forget (hh : Hist n h A R f u) : f_X1_forget (ca n 7) (E n h A M R) = some ((), E n h (kpA A f 0) M R) := by
  obtain ⟨h1, h2, h3, h4, h5⟩ := hh
  unfold f_X1_forget kpA
  rw [show up (A 7) 1 (nI f) = A 7 by rw [← h2, up_self]]
  simp (disch := omega) only [↓grd_u, ↓bnd_e, ↓orf_u, ↓oif_u, ↓cal_u, ↓calX_u, ↓inrO_u, ↓reduceIte, EM, EMg, EMs, z0, oi, n_inbT, n_cntT, n_ltT, n_ltF, n_leT, n_leF, n_eqT, n_eqF, n_m1T, n_m1F, n_m1F', n_cl, n_add, n_mul, ro_at, ro_ro, up_at, up_up, EC, ECs]
theorem forget_OK (hh : Hist n h A R f u) : Hist n h (kpA A f 0) R f [] := ⟨hh.1, by unfold kpA; rw [ro_at, up_ne _ _ (by decide), up_at], by unfold kpA; rw [ro_at, up_at]; rfl, by decide, fun i L e => by simp at e⟩
theorem c_hsize (hh : Hist n h A R f u) : f_X1_size (ca n 7) (E n h A M R) = some (nI u.length, E n h A M R) := by
  obtain ⟨h1, h2, h3, h4, h5⟩ := hh
  unfold f_X1_size
  simp (disch := omega) only [↓grd_u, ↓bnd_e, ↓orf_u, ↓oif_u, ↓cal_u, ↓calX_u, ↓inrO_u, ↓reduceIte, EM, EMg, EMs, z0, oi, n_inbT, n_cntT, n_ltT, n_ltF, n_leT, n_leF, n_eqT, n_eqF, n_m1T, n_m1F, n_m1F', n_cl, n_add, n_mul, ro_at, ro_ro, up_at, up_up, EC, ECg, h3]
end CLASSU
