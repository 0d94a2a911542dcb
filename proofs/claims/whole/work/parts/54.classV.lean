/-! the class's sample words -/
section CLASSV
variable {n : Nat} {h : mH} {A M : Nat → Nat → Int32} {R : Nat → Nat → Option Nat} {b a : Nat} {L : Lib} {w : List Nat}
theorem ShOK_w {i : Nat} (hs : ShOK n h A R b L) (hi : i < 8) (hl : i < (lW L).length) : ∃ a, R (b + 2) i = some a ∧ Wrd n h a ((lW L).getD i []) := by
  have := hs.2.2.2 i hi
  rw [List.getElem?_eq_getElem hl] at this
  have e2 : (lW L).getD i [] = (lW L)[i] := by simp [hl]
  cases e : R (b + 2) i with
  | none => rw [e] at this; exact this.elim
  | some a => rw [e] at this; exact ⟨a, rfl, by rw [e2]; exact this⟩
theorem ShOK_nw {i : Nat} (hs : ShOK n h A R b L) (hi : i < 8) (hl : (lW L).length ≤ i) : R (b + 2) i = none := by
  have := hs.2.2.2 i hi
  rw [List.getElem?_eq_none hl] at this
  cases e : R (b + 2) i with
  | none => rfl
  | some a => rw [e] at this; exact this.elim
theorem c_sampleT {i : Nat} (hb : bSh b) (hs : ShOK n h A R b L) (h8 : (lW L).length ≤ 8) (hi : i < (lW L).length) : f_X6_sample (ca n b) (nI i) (E n h A M R) = some (R (b + 2) i, E n h A M R) := by
  have e1 := ESh hb
  have e1g := EShg hb
  have e1r := EShr hb
  have s1 := hs.1
  unfold f_X6_sample g_X6_sample_28
  simp (disch := omega) only [↓grd_u, ↓bnd_e, ↓orf_u, ↓oif_u, ↓cal_u, ↓calX_u, ↓inrO_u, ↓reduceIte, EM, EMg, EMs, z0, oi, n_inbT, n_cntT, n_ltT, n_ltF, n_leT, n_leF, n_eqT, n_eqF, n_m1T, n_m1F, n_m1F', n_cl, n_add, n_mul, ro_at, ro_ro, up_at, up_up, e1, e1g, e1r, s1]
theorem c_sampleF {v : Int32} (hb : bSh b) (hs : ShOK n h A R b L) (h8 : (lW L).length ≤ 8) (hv : v < nI 0 ∨ nI (lW L).length ≤ v) : f_X6_sample (ca n b) v (E n h A M R) = some (none, E n h A M R) := by
  have e1 := ESh hb
  have e1g := EShg hb
  have s1 := hs.1
  unfold f_X6_sample g_X6_sample_18 g_X6_sample_28
  by_cases h0 : v < nI 0
  · simp (disch := omega) only [↓grd_u, ↓bnd_e, ↓orf_u, ↓oif_u, ↓cal_u, ↓calX_u, ↓inrO_u, ↓reduceIte, EM, EMg, EMs, z0, oi, n_inbT, n_cntT, n_ltT, n_ltF, n_leT, n_leF, n_eqT, n_eqF, n_m1T, n_m1F, n_m1F', n_cl, n_add, n_mul, ro_at, ro_ro, up_at, up_up, h0]
  · have h1 : nI (lW L).length ≤ v := hv.resolve_left h0
    obtain ⟨j, hj, rfl⟩ := nI_of h0
    rw [n_le (by omega) hj] at h1
    simp (disch := omega) only [↓grd_u, ↓bnd_e, ↓orf_u, ↓oif_u, ↓cal_u, ↓calX_u, ↓inrO_u, ↓reduceIte, EM, EMg, EMs, z0, oi, n_inbT, n_cntT, n_ltT, n_ltF, n_leT, n_leF, n_eqT, n_eqF, n_m1T, n_m1F, n_m1F', n_cl, n_add, n_mul, ro_at, ro_ro, up_at, up_up, e1, e1g, s1]
def adA (A : Nat → Nat → Int32) (b : Nat) : Nat → Nat → Int32 := ro A b (up (A b) 2 (A b 2 + nI 1))
theorem c_addN {g : mH} : f_X6_addSample (ca n b) none g = some (Int32.ofInt (-4), g) := rfl
theorem c_addT (hb : bSh b) (hs : ShOK n h A R b L) (hw : Wrd n h a w) (h0 : 0 < w.length) (hl : w.length ≤ 8) (h8 : (lW L).length < 8) : f_X6_addSample (ca n b) (some a) (E n h A M R) = some (nI (lW L).length, E n h (adA A b) M (ro R (b + 2) (up (R (b + 2)) (lW L).length (some a)))) := by
  have e1 := ESh hb
  have e1g := EShg hb
  have e1s := EShs hb
  have e1r := EShr hb
  have e1w := EShw hb
  have s1 := hs.1
  have hk1 : ∀ A R, kd (E n h A M R) a = 15 := fun A R => by rw [kd_X (by have := hw.1; omega)]; exact hw.2.2.1
  unfold f_X6_addSample adA
  simp (disch := omega) only [↓grd_u, ↓bnd_e, ↓orf_u, ↓oif_u, ↓cal_u, ↓calX_u, ↓inrO_u, ↓reduceIte, EM, EMg, EMs, z0, oi, n_inbT, n_cntT, n_ltT, n_ltF, n_leT, n_leF, n_eqT, n_eqF, n_m1T, n_m1F, n_m1F', n_cl, n_add, n_mul, ro_at, ro_ro, up_at, up_up, e1, e1g, e1s, e1r, e1w, s1, hk1, c_wsize hw, n_sub]
  rw [show (lW L).length + 1 - 1 = (lW L).length by omega]
theorem c_addE (hw : Wrd n h a w) (h0 : w.length = 0) : f_X6_addSample (ca n b) (some a) (E n h A M R) = some (Int32.ofInt (-4), E n h A M R) := by
  have hk1 : ∀ A R, kd (E n h A M R) a = 15 := fun A R => by rw [kd_X (by have := hw.1; omega)]; exact hw.2.2.1
  unfold f_X6_addSample g_X6_addSample_11
  simp (disch := omega) only [↓grd_u, ↓bnd_e, ↓orf_u, ↓oif_u, ↓cal_u, ↓calX_u, ↓inrO_u, ↓reduceIte, EM, EMg, EMs, z0, oi, n_inbT, n_cntT, n_ltT, n_ltF, n_leT, n_leF, n_eqT, n_eqF, n_m1T, n_m1F, n_m1F', n_cl, n_add, n_mul, ro_at, ro_ro, up_at, up_up, hk1, c_wsize hw]
theorem c_addF (hb : bSh b) (hs : ShOK n h A R b L) (hw : Wrd n h a w) (h0 : 0 < w.length) (hl : w.length ≤ 8) (h8 : (lW L).length = 8) : f_X6_addSample (ca n b) (some a) (E n h A M R) = some (Int32.ofInt (-5), E n h A M R) := by
  have e1 := ESh hb
  have e1g := EShg hb
  have s1 := hs.1
  rw [h8] at s1
  have hk1 : ∀ A R, kd (E n h A M R) a = 15 := fun A R => by rw [kd_X (by have := hw.1; omega)]; exact hw.2.2.1
  unfold f_X6_addSample g_X6_addSample_30
  simp (disch := omega) only [↓grd_u, ↓bnd_e, ↓orf_u, ↓oif_u, ↓cal_u, ↓calX_u, ↓inrO_u, ↓reduceIte, EM, EMg, EMs, z0, oi, n_inbT, n_cntT, n_ltT, n_ltF, n_leT, n_leF, n_eqT, n_eqF, n_m1T, n_m1F, n_m1F', n_cl, n_add, n_mul, ro_at, ro_ro, up_at, up_up, e1, e1g, s1, hk1, c_wsize hw]
theorem ad_OK (hs : ShOK n h A R b L) (hw : Wrd n h a w) (h8 : (lW L).length < 8) : ShOK n h (adA A b) (ro R (b + 2) (up (R (b + 2)) (lW L).length (some a))) b (addW L w) := by
  obtain ⟨s1, s2, s3, s4⟩ := hs
  unfold adA
  refine ⟨?_, ?_, fun q hq => ?_, fun i hi => ?_⟩
  · rw [ro_at, up_at, s1, n_add]
    show _ = nI (lW L ++ [w]).length
    rw [List.length_append]; rfl
  · rw [ro_at, up_ne _ _ (by decide)]; exact s2
  · rw [ro_ne _ _ (by omega)]; exact s3 q hq
  · rw [ro_at]
    show refW n h _ ((lW L ++ [w])[i]?)
    by_cases e : i = (lW L).length
    · rw [e, up_at, List.getElem?_concat_length]; exact hw
    · rw [up_ne _ _ e]
      have := s4 i hi
      rcases Nat.lt_or_ge i (lW L).length with q | q
      · rw [List.getElem?_append_left q]; exact this
      · rw [List.getElem?_eq_none q] at this
        rw [List.getElem?_eq_none (by rw [List.length_append]; simp; omega)]
        exact this
/-- places i.. moved down -/
def dn (F : Nat → Option Nat) (i k : Nat) : Nat → Option Nat := fun j => if i ≤ j ∧ j < i + k then F (j + 1) else F j
theorem dn_0 (F : Nat → Option Nat) (i : Nat) : dn F i 0 = F := by funext j; unfold dn; rw [if_neg (by omega)]
theorem dn_up (F : Nat → Option Nat) (i k : Nat) : up (dn F i k) (i + k) (F (i + k + 1)) = dn F i (k + 1) := by
  funext j
  unfold up dn
  by_cases e : j = i + k
  · rw [if_pos e, if_pos (by omega), e]
  · rw [if_neg e]
    by_cases q : i ≤ j ∧ j < i + k
    · rw [if_pos q, if_pos (by omega)]
    · rw [if_neg q, if_neg (by omega)]
theorem dn_hi (F : Nat → Option Nat) (i k : Nat) : dn F i k (i + k + 1) = F (i + k + 1) := by unfold dn; rw [if_neg (by omega)]
def cuA (A : Nat → Nat → Int32) (b : Nat) : Nat → Nat → Int32 := ro A b (up (A b) 2 (A b 2 - nI 1))
def cuR (R : Nat → Nat → Option Nat) (b i : Nat) : Nat → Nat → Option Nat := ro R (b + 2) (up (dn (R (b + 2)) i (7 - i)) 7 none)
theorem c_cutT {i : Nat} (hb : bSh b) (hs : ShOK n h A R b L) (h8 : (lW L).length ≤ 8) (hi : i < (lW L).length) : f_X6_removeSample (ca n b) (nI i) (E n h A M R) = some (nI ((lW L).length - 1), E n h (cuA A b) M (cuR R b i)) := by
  have e1 := ESh hb
  have e1g := EShg hb
  have e1s := EShs hb
  have e1r := EShr hb
  have e1w := EShw hb
  have s1 := hs.1
  obtain ⟨a, ha, -⟩ := ShOK_w hs (by omega) hi
  have hsa := c_sampleT (M := M) hb hs h8 hi
  rw [ha] at hsa
  unfold f_X6_removeSample g_X6_removeSample_15
  simp (disch := omega) only [↓grd_u, ↓bnd_e, ↓orf_u, ↓oif_u, ↓cal_u, ↓calX_u, ↓inrO_u, ↓reduceIte, EM, EMg, EMs, z0, oi, n_inbT, n_cntT, n_ltT, n_ltF, n_leT, n_leF, n_eqT, n_eqF, n_m1T, n_m1F, n_m1F', n_cl, n_add, n_mul, ro_at, ro_ro, up_at, up_up, e1, hsa]
  have hl := lp_for0 (f := b_X6_removeSample_15 (ca n b)) (fun k => (nI (i + 1 + k), E n h A M (ro R (b + 2) (dn (R (b + 2)) i k)))) (7 - i) (nI ((lW L).length - 1), E n h (cuA A b) M (cuR R b i)) (fun k hk => ?_) ?_ (L := 100000) (by omega)
  · simp only [dn_0, ro_self, Nat.add_zero] at hl
    exact hl
  · have hk15 : ∀ R', (∀ a ∈ R (b + 2) (i + k + 1), kd (E n h A M R') a = 15) = True := fun R' => eq_true (refW_kd (hs.2.2.2 (i + k + 1) (by omega)))
    have hd := dn_hi (R (b + 2)) i k
    have hx : nI (i + 1 + k) = nI (i + k + 1) := by rw [show i + 1 + k = i + k + 1 by omega]
    unfold b_X6_removeSample_15 b0_X6_removeSample_15
    simp (disch := omega) only [↓grd_u, ↓bnd_e, ↓orf_u, ↓oif_u, ↓cal_u, ↓calX_u, ↓inrO_u, ↓reduceIte, EM, EMg, EMs, z0, oi, n_inbT, n_cntT, n_ltT, n_ltF, n_leT, n_leF, n_eqT, n_eqF, n_m1T, n_m1F, n_m1F', n_cl, n_add, n_mul, ro_at, ro_ro, up_at, up_up, e1, e1r, e1w, hx, n_sub]
    simp (disch := omega) only [↓grd_u, ↓bnd_e, ↓orf_u, ↓oif_u, ↓cal_u, ↓calX_u, ↓inrO_u, ↓reduceIte, EM, EMg, EMs, z0, oi, n_inbT, n_cntT, n_ltT, n_ltF, n_leT, n_leF, n_eqT, n_eqF, n_m1T, n_m1F, n_m1F', n_cl, n_add, n_mul, ro_at, ro_ro, up_at, up_up, e1, e1r, e1w, hd, hk15, show i + k + 1 - 1 = i + k by omega, dn_up]
    rw [show i + 1 + (k + 1) = i + k + 1 + 1 by omega]
  · unfold b_X6_removeSample_15 b0_X6_removeSample_15 cuA cuR
    simp (disch := omega) only [↓grd_u, ↓bnd_e, ↓orf_u, ↓oif_u, ↓cal_u, ↓calX_u, ↓inrO_u, ↓reduceIte, EM, EMg, EMs, z0, oi, n_inbT, n_cntT, n_ltT, n_ltF, n_leT, n_leF, n_eqT, n_eqF, n_m1T, n_m1F, n_m1F', n_cl, n_add, n_mul, ro_at, ro_ro, up_at, up_up, e1, e1g, e1s, e1r, e1w, s1, n_sub]
theorem c_cutF {v : Int32} (hb : bSh b) (hs : ShOK n h A R b L) (h8 : (lW L).length ≤ 8) (hv : v < nI 0 ∨ nI (lW L).length ≤ v) : f_X6_removeSample (ca n b) v (E n h A M R) = some (Int32.ofInt (-6), E n h A M R) := by
  have e1 := ESh hb
  have hsa := c_sampleF (M := M) hb hs h8 hv
  unfold f_X6_removeSample
  simp (disch := omega) only [↓grd_u, ↓bnd_e, ↓orf_u, ↓oif_u, ↓cal_u, ↓calX_u, ↓inrO_u, ↓reduceIte, EM, EMg, EMs, z0, oi, n_inbT, n_cntT, n_ltT, n_ltF, n_leT, n_leF, n_eqT, n_eqF, n_m1T, n_m1F, n_m1F', n_cl, n_add, n_mul, ro_at, ro_ro, up_at, up_up, e1, hsa]
theorem cu_OK {i : Nat} (hs : ShOK n h A R b L) (h8 : (lW L).length ≤ 8) (hi : i < (lW L).length) : ShOK n h (cuA A b) (cuR R b i) b (cutW L i) := by
  obtain ⟨s1, s2, s3, s4⟩ := hs
  unfold cuA cuR
  refine ⟨?_, ?_, fun q hq => ?_, fun j hj => ?_⟩
  · rw [ro_at, up_at, s1, n_sub (by omega)]
    show _ = nI ((lW L).eraseIdx i).length
    rw [List.length_eraseIdx, if_pos hi]
  · rw [ro_at, up_ne _ _ (by decide)]; exact s2
  · rw [ro_ne _ _ (by omega)]; exact s3 q hq
  · rw [ro_at]
    show refW n h _ (((lW L).eraseIdx i)[j]?)
    rw [List.getElem?_eraseIdx]
    by_cases e7 : j = 7
    · rw [e7, up_at, if_neg (by omega), List.getElem?_eq_none (by omega)]
      trivial
    · rw [up_ne _ _ e7]
      unfold dn
      by_cases hji : j < i
      · rw [if_pos hji, if_neg (by omega)]; exact s4 j hj
      · rw [if_neg hji, if_pos (by omega)]; exact s4 (j + 1) (by omega)
end CLASSV
