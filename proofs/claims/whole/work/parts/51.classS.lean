/-! patterns and words of the class: cells that are made once and never change -/
def chC (c : Nat) : Nat := [0, 97, 98, 99, 46, 124, 42, 43, 63].getD c 0
def Pat (n : Nat) (h : mH) (a : Nat) (p : List Nat) : Prop := n + 133 ≤ a ∧ a < nx h ∧ kd h a = 9 ∧ ∃ b, gr h a 0 = some b ∧ n + 133 ≤ b ∧ b < nx h ∧ kd h b = 103 ∧ sz h b = p.length ∧ (∀ k, k < p.length → gi h b k = nI (chC (p.getD k 0))) ∧ gi h a 1 = nI (nLet p) ∧ gi h a 2 = nI (nSig p)
def Wrd (n : Nat) (h : mH) (a : Nat) (w : List Nat) : Prop := n + 133 ≤ a ∧ a < nx h ∧ kd h a = 15 ∧ ∃ b, gr h a 0 = some b ∧ n + 133 ≤ b ∧ b < nx h ∧ kd h b = 104 ∧ sz h b = w.length ∧ (∀ k, k < w.length → gi h b k = nI (w.getD k 0))
/-- later heaps: what was there stays, but rows of bytes -/
def Mono (n : Nat) (h h' : mH) : Prop := nx h ≤ nx h' ∧ ∀ a, n + 131 ≤ a → a < nx h → kd h a ≠ 102 → kd h' a = kd h a ∧ sz h' a = sz h a ∧ gi h' a = gi h a ∧ gr h' a = gr h a
theorem Mono_rf (n : Nat) (h : mH) : Mono n h h := ⟨Nat.le_refl _, fun _ _ _ _ => ⟨rfl, rfl, rfl, rfl⟩⟩
theorem Mono_tr {n : Nat} {h h' h'' : mH} (a : Mono n h h') (b : Mono n h' h'') : Mono n h h'' := ⟨Nat.le_trans a.1 b.1, fun x h1 h2 h3 => by
  obtain ⟨e1, e2, e3, e4⟩ := a.2 x h1 h2 h3
  obtain ⟨f1, f2, f3, f4⟩ := b.2 x h1 (Nat.lt_of_lt_of_le h2 a.1) (by rw [e1]; exact h3)
  exact ⟨f1.trans e1, f2.trans e2, f3.trans e3, f4.trans e4⟩⟩
theorem Pat_mono {n : Nat} {h h' : mH} {a : Nat} {p : List Nat} (hp : Pat n h a p) (hm : Mono n h h') : Pat n h' a p := by
  obtain ⟨a1, a2, a3, b, b1, b2, b3, b4, b5, b6, b7, b8⟩ := hp
  obtain ⟨e1, e2, e3, e4⟩ := hm.2 a (by omega) a2 (by rw [a3]; decide)
  obtain ⟨f1, f2, f3, f4⟩ := hm.2 b (by omega) b3 (by rw [b4]; decide)
  exact ⟨a1, Nat.lt_of_lt_of_le a2 hm.1, by rw [e1]; exact a3, b, by rw [e4]; exact b1, b2, Nat.lt_of_lt_of_le b3 hm.1, by rw [f1]; exact b4, by rw [f2]; exact b5, by rw [f3]; exact b6, by rw [e3]; exact b7, by rw [e3]; exact b8⟩
theorem Wrd_mono {n : Nat} {h h' : mH} {a : Nat} {w : List Nat} (hp : Wrd n h a w) (hm : Mono n h h') : Wrd n h' a w := by
  obtain ⟨a1, a2, a3, b, b1, b2, b3, b4, b5, b6⟩ := hp
  obtain ⟨e1, e2, e3, e4⟩ := hm.2 a (by omega) a2 (by rw [a3]; decide)
  obtain ⟨f1, f2, f3, f4⟩ := hm.2 b (by omega) b3 (by rw [b4]; decide)
  exact ⟨a1, Nat.lt_of_lt_of_le a2 hm.1, by rw [e1]; exact a3, b, by rw [e4]; exact b1, b2, Nat.lt_of_lt_of_le b3 hm.1, by rw [f1]; exact b4, by rw [f2]; exact b5, by rw [f3]; exact b6⟩
def refP (n : Nat) (h : mH) (o : Option Nat) (p : List Nat) : Prop := match o with | none => p = [] | some a => p ≠ [] ∧ Pat n h a p
def refW (n : Nat) (h : mH) (o : Option Nat) (w : Option (List Nat)) : Prop := match o, w with | none, none => True | some a, some w => Wrd n h a w | _, _ => False
theorem refP_mono {n : Nat} {h h' : mH} {o : Option Nat} {p : List Nat} (hp : refP n h o p) (hm : Mono n h h') : refP n h' o p := by
  cases o with
  | none => exact hp
  | some a => exact ⟨hp.1, Pat_mono hp.2 hm⟩
theorem refW_mono {n : Nat} {h h' : mH} {o : Option Nat} {w : Option (List Nat)} (hp : refW n h o w) (hm : Mono n h h') : refW n h' o w := by
  cases o with
  | none => cases w with
    | none => trivial
    | some w => exact hp
  | some a => cases w with
    | none => exact hp
    | some w => exact Wrd_mono hp hm
/-- a shelf at base b holds L -/
def ShOK (n : Nat) (h : mH) (A : Nat → Nat → Int32) (R : Nat → Nat → Option Nat) (b : Nat) (L : Lib) : Prop := A b 2 = nI (lW L).length ∧ A b 3 = nI (lD L) ∧ (∀ s, s < 6 → refP n h (R (b + 1) s) (lP L s)) ∧ (∀ i, i < 8 → refW n h (R (b + 2) i) ((lW L)[i]?))
theorem ShOK_mono {n : Nat} {h h' : mH} {A : Nat → Nat → Int32} {R : Nat → Nat → Option Nat} {b : Nat} {L : Lib} (hp : ShOK n h A R b L) (hm : Mono n h h') : ShOK n h' A R b L := ⟨hp.1, hp.2.1, fun s hs => refP_mono (hp.2.2.1 s hs) hm, fun i hi => refW_mono (hp.2.2.2 i hi) hm⟩
theorem ShOK_rows {n : Nat} {h : mH} {A A' : Nat → Nat → Int32} {R R' : Nat → Nat → Option Nat} {b : Nat} {L : Lib} (hp : ShOK n h A R b L) (h1 : A' b = A b) (h2 : R' (b + 1) = R (b + 1)) (h3 : R' (b + 2) = R (b + 2)) : ShOK n h A' R' b L := ⟨by rw [h1]; exact hp.1, by rw [h1]; exact hp.2.1, by rw [h2]; exact hp.2.2.1, by rw [h3]; exact hp.2.2.2⟩
theorem sh_apart {b c : Nat} (hb : bSh b) (hc : bSh c) (hne : b ≠ c) : b + 3 ≤ c ∨ c + 3 ≤ b := by
  unfold bSh at hb hc
  omega
section CLASSS
variable {n : Nat} {h : mH} {A M : Nat → Nat → Int32} {R : Nat → Nat → Option Nat} {b c : Nat} {L : Lib}
theorem refP_kd {o : Option Nat} {p : List Nat} (hp : refP n h o p) : ∀ a ∈ o, kd (E n h A M R) a = 9 := fun a ha => by
  cases ha
  obtain ⟨-, a1, -, a3, -⟩ := hp
  rw [kd_X (by omega)]
  exact a3
theorem refW_kd {o : Option Nat} {w : Option (List Nat)} (hp : refW n h o w) : ∀ a ∈ o, kd (E n h A M R) a = 15 := fun a ha => by
  cases ha
  cases w with
  | none => exact hp.elim
  | some w =>
    obtain ⟨a1, -, a3, -⟩ := hp
    rw [kd_X (by omega)]
    exact a3
/-- a shelf's copy -/
def cpA (A : Nat → Nat → Int32) (b c : Nat) : Nat → Nat → Int32 := ro A b (up (up (A b) 2 (A c 2)) 3 (A c 3))
def cpR (R : Nat → Nat → Option Nat) (b c : Nat) : Nat → Nat → Option Nat := ro (ro R (b + 1) (pre 6 (R (c + 1)) (R (b + 1)))) (b + 2) (pre 8 (R (c + 2)) (R (b + 2)))
theorem c_copyFrom (hb : bSh b) (hc : bSh c) (hne : b ≠ c) (hs : ShOK n h A R c L) : f_X6_copyFrom (ca n b) (ca n c) (E n h A M R) = some ((), E n h (cpA A b c) M (cpR R b c)) := by
  have ap := sh_apart hb hc hne
  have e1 := ESh hb
  have e2 := ESh hc
  have e1g := EShg hb
  have e2g := EShg hc
  have e1s := EShs hb
  have e1r := EShr hb
  have e2r := EShr hc
  have e1w := EShw hb
  obtain ⟨s1, s2, s3, s4⟩ := hs
  unfold f_X6_copyFrom g_X6_copyFrom_2
  rw [oi.1]
  have hl := lp_for0 (f := b_X6_copyFrom_2 (ca n b) (ca n c)) (fun k => (nI k, E n h A M (ro R (b + 1) (pre k (R (c + 1)) (R (b + 1)))))) 6 ((), E n h (cpA A b c) M (cpR R b c)) (fun k hk => ?_) ?_ (L := 100000) (by decide)
  · simp only [pre_0, ro_self] at hl
    exact hl
  · unfold b_X6_copyFrom_2 b0_X6_copyFrom_2
    have hk9 : ∀ R', (∀ a ∈ R (c + 1) k, kd (E n h A M R') a = 9) = True := fun R' => eq_true (refP_kd (s3 k hk))
    simp (disch := omega) only [↓grd_u, ↓bnd_e, ↓orf_u, ↓oif_u, ↓cal_u, ↓calX_u, ↓inrO_u, ↓reduceIte, EM, EMg, EMs, z0, oi, n_inbT, n_cntT, n_ltT, n_ltF, n_leT, n_leF, n_eqT, n_eqF, n_m1T, n_m1F, n_m1F', n_cl, n_add, n_mul, ro_at, ro_ro, up_at, up_up, ro_ne, e1, e2, e1r, e2r, e1w, hk9, up_pre]
  · unfold b_X6_copyFrom_2 b0_X6_copyFrom_2
    simp (disch := omega) only [↓grd_u, ↓bnd_e, ↓orf_u, ↓oif_u, ↓cal_u, ↓calX_u, ↓inrO_u, ↓reduceIte, EM, EMg, EMs, z0, oi, n_inbT, n_cntT, n_ltT, n_ltF, n_leT, n_leF, n_eqT, n_eqF, n_m1T, n_m1F, n_m1F', n_cl, n_add, n_mul, ro_at, ro_ro, up_at, up_up]
    have hl2 := lp_for0 (f := b_X6_copyFrom_28 (ca n b) (ca n c)) (fun k => (nI k, E n h A M (ro (ro R (b + 1) (pre 6 (R (c + 1)) (R (b + 1)))) (b + 2) (pre k (R (c + 2)) (R (b + 2)))))) 8 ((), E n h (cpA A b c) M (cpR R b c)) (fun k hk => ?_) ?_ (L := 100000) (by decide)
    · have e0 : ro (ro R (b + 1) (pre 6 (R (c + 1)) (R (b + 1)))) (b + 2) (R (b + 2)) = ro R (b + 1) (pre 6 (R (c + 1)) (R (b + 1))) := by
        have := ro_self (ro R (b + 1) (pre 6 (R (c + 1)) (R (b + 1)))) (b + 2)
        rw [ro_ne _ _ (by omega : b + 2 ≠ b + 1)] at this
        exact this
      simp only [pre_0, e0] at hl2
      unfold g_X6_copyFrom_28
      rw [hl2]
    · unfold b_X6_copyFrom_28 b0_X6_copyFrom_28
      have hk15 : ∀ R', (∀ a ∈ R (c + 2) k, kd (E n h A M R') a = 15) = True := fun R' => eq_true (refW_kd (s4 k hk))
      simp (disch := omega) only [↓grd_u, ↓bnd_e, ↓orf_u, ↓oif_u, ↓cal_u, ↓calX_u, ↓inrO_u, ↓reduceIte, EM, EMg, EMs, z0, oi, n_inbT, n_cntT, n_ltT, n_ltF, n_leT, n_leF, n_eqT, n_eqF, n_m1T, n_m1F, n_m1F', n_cl, n_add, n_mul, ro_at, ro_ro, up_at, up_up, ro_ne, e1, e2, e1r, e2r, e1w, hk15, up_pre]
    · unfold b_X6_copyFrom_28 b0_X6_copyFrom_28 cpA cpR
      simp (disch := omega) only [↓grd_u, ↓bnd_e, ↓orf_u, ↓oif_u, ↓cal_u, ↓calX_u, ↓inrO_u, ↓reduceIte, EM, EMg, EMs, z0, oi, n_inbT, n_cntT, n_ltT, n_ltF, n_leT, n_leF, n_eqT, n_eqF, n_m1T, n_m1F, n_m1F', n_cl, n_add, n_mul, ro_at, ro_ro, up_at, up_up, ro_ne, e1, e2, e1g, e2g, e1s]
theorem cp_OK (hb : bSh b) (hc : bSh c) (hne : b ≠ c) (hs : ShOK n h A R c L) : ShOK n h (cpA A b c) (cpR R b c) b L ∧ ShOK n h (cpA A b c) (cpR R b c) c L := by
  have ap := sh_apart hb hc hne
  obtain ⟨s1, s2, s3, s4⟩ := hs
  unfold cpA cpR
  refine ⟨⟨?_, ?_, fun s hs => ?_, fun i hi => ?_⟩, ShOK_rows ⟨s1, s2, s3, s4⟩ (ro_ne _ _ (by omega)) ?_ ?_⟩
  · rw [ro_at, up_ne _ _ (by decide), up_at]; exact s1
  · rw [ro_at, up_at]; exact s2
  · rw [ro_ne _ _ (by omega), ro_at, pre_lt _ _ hs]; exact s3 s hs
  · rw [ro_at, pre_lt _ _ hi]; exact s4 i hi
  · rw [ro_ne _ _ (by omega), ro_ne _ _ (by omega)]
  · rw [ro_ne _ _ (by omega), ro_ne _ _ (by omega)]
theorem c_isSlotT {s : Nat} {g : mH} (hs : s < 6) : f_X11_isSlot (nI s) g = some (nI 1, g) := by
  unfold f_X11_isSlot g_X11_isSlot_15
  simp (disch := omega) only [↓grd_u, ↓bnd_e, ↓orf_u, ↓oif_u, ↓cal_u, ↓calX_u, ↓inrO_u, ↓reduceIte, EM, EMg, EMs, z0, oi, n_inbT, n_cntT, n_ltT, n_ltF, n_leT, n_leF, n_eqT, n_eqF, n_m1T, n_m1F, n_m1F', n_cl, n_add, n_mul, ro_at, ro_ro, up_at, up_up, nz1]
theorem c_isSlotF {v : Int32} {g : mH} (hv : v < nI 0 ∨ nI 5 < v) : f_X11_isSlot v g = some (nI 0, g) := by
  unfold f_X11_isSlot g_X11_isSlot_14 g_X11_isSlot_15
  by_cases h0 : v < nI 0
  · simp (disch := omega) only [↓grd_u, ↓bnd_e, ↓orf_u, ↓oif_u, ↓cal_u, ↓calX_u, ↓inrO_u, ↓reduceIte, EM, EMg, EMs, z0, oi, n_inbT, n_cntT, n_ltT, n_ltF, n_leT, n_leF, n_eqT, n_eqF, n_m1T, n_m1F, n_m1F', n_cl, n_add, n_mul, ro_at, ro_ro, up_at, up_up, h0, nz0]
  · have h5 : nI 5 < v := hv.resolve_left h0
    obtain ⟨j, hj, rfl⟩ := nI_of h0
    rw [n_lt (by decide) hj] at h5
    simp (disch := omega) only [↓grd_u, ↓bnd_e, ↓orf_u, ↓oif_u, ↓cal_u, ↓calX_u, ↓inrO_u, ↓reduceIte, EM, EMg, EMs, z0, oi, n_inbT, n_cntT, n_ltT, n_ltF, n_leT, n_leF, n_eqT, n_eqF, n_m1T, n_m1F, n_m1F', n_cl, n_add, n_mul, ro_at, ro_ro, up_at, up_up, nz0]
theorem c_pattern {s : Nat} (hb : bSh b) (hs : s < 6) : f_X6_pattern (ca n b) (nI s) (E n h A M R) = some (R (b + 1) s, E n h A M R) := by
  have e1 := ESh hb
  have e1r := EShr hb
  unfold f_X6_pattern g_X6_pattern_17
  simp (disch := omega) only [↓grd_u, ↓bnd_e, ↓orf_u, ↓oif_u, ↓cal_u, ↓calX_u, ↓inrO_u, ↓reduceIte, EM, EMg, EMs, z0, oi, n_inbT, n_cntT, n_ltT, n_ltF, n_leT, n_leF, n_eqT, n_eqF, n_m1T, n_m1F, n_m1F', n_cl, n_add, n_mul, ro_at, ro_ro, up_at, up_up, c_isSlotT, e1, e1r]
theorem c_patternF {v : Int32} (hv : v < nI 0 ∨ nI 5 < v) : f_X6_pattern (ca n b) v (E n h A M R) = some (none, E n h A M R) := by
  unfold f_X6_pattern g_X6_pattern_17
  simp (disch := omega) only [↓grd_u, ↓bnd_e, ↓orf_u, ↓oif_u, ↓cal_u, ↓calX_u, ↓inrO_u, ↓reduceIte, EM, EMg, EMs, z0, oi, n_inbT, n_cntT, n_ltT, n_ltF, n_leT, n_leF, n_eqT, n_eqF, n_m1T, n_m1F, n_m1F', n_cl, n_add, n_mul, ro_at, ro_ro, up_at, up_up, c_isSlotF hv]
end CLASSS
