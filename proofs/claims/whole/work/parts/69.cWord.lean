/-! the class: characters of the buffer, words made of them, patterns looked up -/
def TX (A : Nat → Nat → Int32) (T : List Nat) : Prop := A 36 2 = nI T.length ∧ T.length ≤ 60 ∧ ∀ k, k < T.length → A 37 k = nI (T.getD k 0) ∧ 32 ≤ T.getD k 0 ∧ T.getD k 0 ≤ 126
theorem nar_b1 (p : Prop) [Decidable p] : (vp_nar .boolean (nI (b1 p)) = nI (b1 p)) = True := eq_true (n_nar01 (by unfold b1; split <;> omega))
theorem wl_getD {T : List Nat} {fr d j : Nat} (hj : j < d) (hl : fr + d ≤ T.length) : (lets ((T.drop fr).take d)).getD j 0 = T.getD (fr + j) 0 - 97 := by
  rw [lets_getD (by rw [List.length_take, List.length_drop]; omega)]
  simp only [List.getD_eq_getElem?_getD]
  rw [List.getElem?_take_of_lt hj, List.getElem?_drop]
theorem wl_len {T : List Nat} {fr d : Nat} (hl : fr + d ≤ T.length) : (lets ((T.drop fr).take d)).length = d := by
  rw [lets_len, List.length_take, List.length_drop]
  omega
section CWORD
variable {n : Nat} {h : mH} {A M : Nat → Nat → Int32} {R : Nat → Nat → Option Nat} {S : St} {T : List Nat}
theorem IC_TX (hi : IC n h A R S) (hg : GoodS S) : TX A (sText S) := by
  obtain ⟨-, -, -, -, ⟨a4, a5⟩, -⟩ := hi
  refine ⟨a4, hg.2.2.2.2.1, fun k hk => ⟨a5 k hk, ?_⟩⟩
  rw [List.getD_eq_getElem?_getD, List.getElem?_eq_getElem hk]
  exact hg.2.2.2.2.2.1 _ (List.getElem_mem hk)
theorem IC_wk {h' : mH} {A' : Nat → Nat → Int32} (hi : IC n h A R S) (hm : MonoS n h h') (hA : ∀ r, r < 44 → A' r = A r) : IC n h' A' R S := by
  obtain ⟨a0, a1, ⟨f, a2⟩, a3, a4, a5, a6, a7⟩ := hi
  refine ⟨NX_mono a0 (MonoS_w hm), ShOK_mono (ShOK_rows a1 (hA 1 (by decide)) rfl rfl) (MonoS_w hm), ⟨f, Hist_mono (Hist_fr a2 (fun r h1 h2 => hA r (by omega)) (fun r _ _ => rfl)) (MonoS_w hm)⟩, ?_, ?_, ?_, ?_, ?_⟩
  · rw [hA 0 (by decide)]
    cases e : sSaved S with
    | none => rw [e] at a3; exact a3
    | some L =>
      rw [e] at a3
      exact ⟨a3.1, ShOK_mono (ShOK_rows a3.2 (hA 4 (by decide)) rfl rfl) (MonoS_w hm)⟩
  · rw [hA 36 (by decide), hA 37 (by decide)]; exact a4
  · rw [hA 0 (by decide)]; exact a5
  · rw [hA 0 (by decide)]; exact a6
  · exact Line_mono a7 hm (hA 42 (by decide)) (hA 43 (by decide)) rfl
theorem c_char {k : Nat} (ht : TX A T) (hk : k < T.length) : f_X9_character (ca n 36) (nI k) (E n h A M R) = some (nI (T.getD k 0), E n h A M R) := by
  obtain ⟨t1, t2, t3⟩ := ht
  obtain ⟨e1, e2, e3⟩ := t3 k hk
  have hn := nar_ch (T.getD k 0) (by omega)
  unfold f_X9_character g_X9_character_28
  simp (disch := omega) only [↓grd_u, ↓bnd_e, ↓orf_u, ↓oif_u, ↓cal_u, ↓calX_u, ↓inrO_u, ↓reduceIte, EM, EMg, EMs, z0, oi, n_inbT, n_cntT, n_ltT, n_ltF, n_leT, n_leF, n_eqT, n_eqF, n_m1T, n_m1F, n_m1F', n_cl, n_add, n_mul, ro_at, ro_ro, up_at, up_up, EC, ECg, t1, e1, hn]
theorem c_charF {k : Nat} (ht : TX A T) (hk : T.length ≤ k) (hk2 : k < 1000) : f_X9_character (ca n 36) (nI k) (E n h A M R) = some (nI 0, E n h A M R) := by
  obtain ⟨t1, t2, t3⟩ := ht
  have hn := nar_ch 0 (by decide)
  unfold f_X9_character g_X9_character_18 g_X9_character_28
  simp (disch := omega) only [↓grd_u, ↓bnd_e, ↓orf_u, ↓oif_u, ↓cal_u, ↓calX_u, ↓inrO_u, ↓reduceIte, EM, EMg, EMs, z0, oi, n_inbT, n_cntT, n_ltT, n_ltF, n_leT, n_leF, n_eqT, n_eqF, n_m1T, n_m1F, n_m1F', n_cl, n_add, n_mul, ro_at, ro_ro, up_at, up_up, EC, ECg, t1, hn]
theorem c_isLT {c : Nat} {g : mH} (h1 : 97 ≤ c) (h2 : c ≤ 99) : f_X11_isLetter (nI c) g = some (nI 1, g) := by
  have : c = 97 ∨ c = 98 ∨ c = 99 := by omega
  rcases this with rfl | rfl | rfl <;> rfl
theorem c_isLX {v : Int32} {g : mH} (hx : v < nI 97 ∨ nI 99 < v) : f_X11_isLetter v g = some (nI 0, g) := by
  unfold f_X11_isLetter g_X11_isLetter_16 g_X11_isLetter_17
  by_cases h1 : v < nI 97
  · simp (disch := omega) only [↓grd_u, ↓bnd_e, ↓orf_u, ↓oif_u, ↓cal_u, ↓calX_u, ↓inrO_u, ↓reduceIte, EM, EMg, EMs, z0, oi, n_inbT, n_cntT, n_ltT, n_ltF, n_leT, n_leF, n_eqT, n_eqF, n_m1T, n_m1F, n_m1F', n_cl, n_add, n_mul, ro_at, ro_ro, up_at, up_up, h1, nz0]
  · have h2 := hx.resolve_left h1
    simp (disch := omega) only [↓grd_u, ↓bnd_e, ↓orf_u, ↓oif_u, ↓cal_u, ↓calX_u, ↓inrO_u, ↓reduceIte, EM, EMg, EMs, z0, oi, n_inbT, n_cntT, n_ltT, n_ltF, n_leT, n_leF, n_eqT, n_eqF, n_m1T, n_m1F, n_m1F', n_cl, n_add, n_mul, ro_at, ro_ro, up_at, up_up, h1, h2, nz0]
theorem c_isLF {c : Nat} {g : mH} (hc : c < 128) (hx : ¬ (97 ≤ c ∧ c ≤ 99)) : f_X11_isLetter (nI c) g = some (nI 0, g) := c_isLX (by rw [n_lt (by omega) (by decide), n_lt (by decide) (by omega)]; omega)
theorem c_size36 (ht : TX A T) : f_X9_size (ca n 36) (E n h A M R) = some (nI T.length, E n h A M R) := by
  have t1 := ht.1
  unfold f_X9_size
  simp (disch := omega) only [↓grd_u, ↓bnd_e, ↓orf_u, ↓oif_u, ↓cal_u, ↓calX_u, ↓inrO_u, ↓reduceIte, EM, EMg, EMs, z0, oi, n_inbT, n_cntT, n_ltT, n_ltF, n_leT, n_leF, n_eqT, n_eqF, n_m1T, n_m1F, n_m1F', n_cl, n_add, n_mul, ro_at, ro_ro, up_at, up_up, EC, ECg, t1]
theorem c_empty36 : f_X9_empty (ca n 36) (E n h A M R) = some ((), E n h (ro A 36 (up (A 36) 2 (nI 0))) M R) := by
  unfold f_X9_empty
  simp (disch := omega) only [↓grd_u, ↓bnd_e, ↓orf_u, ↓oif_u, ↓cal_u, ↓calX_u, ↓inrO_u, ↓reduceIte, EM, EMg, EMs, z0, oi, n_inbT, n_cntT, n_ltT, n_ltF, n_leT, n_leF, n_eqT, n_eqF, n_m1T, n_m1F, n_m1F', n_cl, n_add, n_mul, ro_at, ro_ro, up_at, up_up, EC, ECs]
/-- a word made of a part of the buffer -/
theorem c_wordB {fr d most : Nat} (hn : n + 133 ≤ nx h) (ht : TX A T) (hl : fr + d ≤ T.length) (hm : most ≤ 255) : ∃ o g, f_X9_wordBetween (ca n 36) (nI fr) (nI (fr + d)) (nI most) (E n h A M R) = some (o, E n g A M R) ∧ MonoS n h g ∧ (if okW T fr d = 1 ∧ d ≤ most then ∃ x, o = some x ∧ Wrd n g x (lets ((T.drop fr).take d)) else o = none) := by
  have t2 := ht.2.1
  unfold f_X9_wordBetween g_X9_wordBetween_16
  by_cases hd : d ≤ most
  case neg =>
    refine ⟨none, h, ?_, MonoS_rf n h, by rw [if_neg (show ¬ (okW T fr d = 1 ∧ d ≤ most) from fun q => hd q.2)]⟩
    simp (disch := omega) only [↓grd_u, ↓bnd_e, ↓orf_u, ↓oif_u, ↓cal_u, ↓calX_u, ↓inrO_u, ↓reduceIte, EM, EMg, EMs, z0, oi, n_inbT, n_cntT, n_ltT, n_ltF, n_leT, n_leF, n_eqT, n_eqF, n_m1T, n_m1F, n_m1F', n_cl, n_add, n_mul, ro_at, ro_ro, up_at, up_up, n_sub, Nat.add_sub_cancel_left]
  have hal : al (E n h A M R) 104 d = E n (celH h 104 d (pre 0 (fun j => nI (T.getD (fr + j) 0 - 97)) (fun _ => nI 0)) (fun _ => none)) A M R := by
    rw [al_X (by omega), al_cel, pre_0]
  have key : ∃ r, g_X9_wordBetween_27 (ca n 36) (nI fr) (nI d) (nx h) (nI 0) (E n (celH h 104 d (pre 0 (fun j => nI (T.getD (fr + j) 0 - 97)) (fun _ => nI 0)) (fun _ => none)) A M R) = some r ∧ ∃ o g, r = (o, E n g A M R) ∧ MonoS n h g ∧ (if okW T fr d = 1 ∧ d ≤ most then ∃ x, o = some x ∧ Wrd n g x (lets ((T.drop fr).take d)) else o = none) := by
    unfold g_X9_wordBetween_27
    refine lp_inv0 (f := b_X9_wordBetween_27 (ca n 36) (nI fr) (nI d) (nx h)) (fun k s' => s' = (nI k, E n (celH h 104 d (pre k (fun j => nI (T.getD (fr + j) 0 - 97)) (fun _ => nI 0)) (fun _ => none)) A M R) ∧ ∀ j, j < k → 97 ≤ T.getD (fr + j) 0 ∧ T.getD (fr + j) 0 ≤ 99) _ d (fun k s' hk hI => ?_) (L := 100000) (by omega) ⟨rfl, fun j hj => absurd hj (Nat.not_lt_zero _)⟩
    obtain ⟨rfl, hok⟩ := hI
    unfold b_X9_wordBetween_27 b0_X9_wordBetween_27
    by_cases hk2 : k < d
    · have hc := c_char (n := n) (h := celH h 104 d (pre k (fun j => nI (T.getD (fr + j) 0 - 97)) (fun _ => nI 0)) (fun _ => none)) (M := M) (R := R) ht (show fr + k < T.length by omega)
      obtain ⟨-, q1, q2⟩ := ht.2.2 (fr + k) (by omega)
      by_cases hL : 97 ≤ T.getD (fr + k) 0 ∧ T.getD (fr + k) 0 ≤ 99
      · refine Or.inl ⟨(nI (k + 1), E n (celH h 104 d (pre (k + 1) (fun j => nI (T.getD (fr + j) 0 - 97)) (fun _ => nI 0)) (fun _ => none)) A M R), ?_, hk2, rfl, fun j hj => ?_⟩
        · have hup := up_pre k (fun j => nI (T.getD (fr + j) 0 - 97)) (fun _ => nI 0)
          have hs := n_sub hL.1
          simp (disch := omega) only [↓grd_u, ↓bnd_e, ↓orf_u, ↓oif_u, ↓cal_u, ↓calX_u, ↓inrO_u, ↓reduceIte, EM, EMg, EMs, z0, oi, n_inbT, n_cntT, n_ltT, n_ltF, n_leT, n_leF, n_eqT, n_eqF, n_m1T, n_m1F, n_m1F', n_cl, n_add, n_mul, ro_at, ro_ro, up_at, up_up, EC, hc, c_isLT hL.1 hL.2, hs, kd_X, sz_X, si_X, kd_celS, sz_celS, si_cel, hup]
        · by_cases e : j = k
          · rw [e]; exact hL
          · exact hok j (by omega)
      · refine Or.inr ⟨(none, E n (celH h 104 d (pre k (fun j => nI (T.getD (fr + j) 0 - 97)) (fun _ => nI 0)) (fun _ => none)) A M R), ?_, none, _, rfl, MonoS_cel n, ?_⟩
        · have hlf : ∀ g, f_X11_isLetter (nI (T.getD (fr + k) 0)) g = some (nI 0, g) := fun g => c_isLF (by omega) hL
          simp (disch := omega) only [↓grd_u, ↓bnd_e, ↓orf_u, ↓oif_u, ↓cal_u, ↓calX_u, ↓inrO_u, ↓reduceIte, EM, EMg, EMs, z0, oi, n_inbT, n_cntT, n_ltT, n_ltF, n_leT, n_leF, n_eqT, n_eqF, n_m1T, n_m1F, n_m1F', n_cl, n_add, n_mul, ro_at, ro_ro, up_at, up_up, EC, hc, hlf]
        · rw [if_neg]
          exact fun z => hL (okW_1.mp z.1 k hk2)
    · have hke : k = d := by omega
      subst hke
      obtain ⟨g1, hg1⟩ : ∃ g1, g1 = celH h 104 k (pre k (fun j => nI (T.getD (fr + j) 0 - 97)) (fun _ => nI 0)) (fun _ => none) := ⟨_, rfl⟩
      rw [← hg1]
      have nx1 : nx g1 = nx h + 1 := by rw [hg1]; rfl
      obtain ⟨g2, hg2⟩ : ∃ g2, g2 = celH g1 15 1 (fun _ => nI 0) (up (fun _ => none) 0 (some (nx h))) := ⟨_, rfl⟩
      have hx1 : f_X10_init (nx g1) (nx h) (al (E n g1 A M R) 15 1) = some ((), E n g2 A M R) := by
        unfold f_X10_init
        rw [al_X (by omega), al_cel]
        simp (disch := omega) only [↓grd_u, ↓bnd_e, ↓orf_u, ↓oif_u, ↓cal_u, ↓calX_u, ↓inrO_u, ↓reduceIte, EM, EMg, EMs, z0, oi, n_inbT, n_cntT, n_ltT, n_ltF, n_leT, n_leF, n_eqT, n_eqF, n_m1T, n_m1F, n_m1F', n_cl, n_add, n_mul, ro_at, ro_ro, up_at, up_up, kd_X, sr_X, kd_celS, sr_cel]
        rw [hg2]
      have w1 : okW T fr k = 1 := okW_1.mpr hok
      refine Or.inr ⟨(some (nx g1), E n g2 A M R), ?_, some (nx g1), g2, rfl, ?_, ?_⟩
      · simp (disch := omega) only [↓grd_u, ↓bnd_e, ↓orf_u, ↓oif_u, ↓cal_u, ↓calX_u, ↓inrO_u, ↓reduceIte, EM, EMg, EMs, z0, oi, n_inbT, n_cntT, n_ltT, n_ltF, n_leT, n_leF, n_eqT, n_eqF, n_m1T, n_m1F, n_m1F', n_cl, n_add, n_mul, ro_at, ro_ro, up_at, up_up, nx_E, hx1]
      · have m1 : MonoS n h g1 := by rw [hg1]; exact MonoS_cel n
        have m2 : MonoS n g1 g2 := by rw [hg2]; exact MonoS_cel n
        exact MonoS_tr m1 m2
      · rw [if_pos ⟨w1, hd⟩]
        refine ⟨nx g1, rfl, ?_⟩
        rw [hg2]
        refine ⟨by omega, by rw [nx_cel]; omega, kd_celS, nx h, by rw [gr_celS, up_at], by omega, by rw [nx_cel]; omega, ?_, ?_, fun j hj => ?_⟩
        · rw [kd_celN (by omega), hg1, kd_celS]
        · rw [sz_celN (by omega), hg1, sz_celS, wl_len hl]
        · rw [wl_len hl] at hj
          rw [gi_celN (by omega), hg1, gi_celS, pre_lt _ _ hj, wl_getD hj hl]
  obtain ⟨r, e, o, g, rfl, q1, q2⟩ := key
  refine ⟨o, g, ?_, q1, q2⟩
  simp (disch := omega) only [↓grd_u, ↓bnd_e, ↓orf_u, ↓oif_u, ↓cal_u, ↓calX_u, ↓inrO_u, ↓reduceIte, EM, EMg, EMs, z0, oi, n_inbT, n_cntT, n_ltT, n_ltF, n_leT, n_leF, n_eqT, n_eqF, n_m1T, n_m1F, n_m1F', n_cl, n_add, n_mul, ro_at, ro_ro, up_at, up_up, n_sub, Nat.add_sub_cancel_left, nx_E, hal, e]
/-! patterns and words looked up -/
def exN : Nat → String := fun _ => "java/util/NoSuchElementException"
def exNA : Nat → String := fun e => if e = 1 then "java/util/NoSuchElementException" else "java/lang/IllegalArgumentException"
def exNI : Nat → String := fun e => if e = 1 then "java/util/NoSuchElementException" else "java/lang/IndexOutOfBoundsException"
def exB : Nat → String := fun _ => "java/lang/IndexOutOfBoundsException"
theorem c_patT {s : Nat} (hi : IC n h A R S) (hs : s < 6) (hp : lP (sCur S) s ≠ []) : ∃ a, f_X11_patternIn (ca n 0) (nI s) (E n h A M R) = some (.inl (some a), E n h A M R) ∧ Pat n h a (lP (sCur S) s) := by
  obtain ⟨a, h1, h2⟩ := ShOK_so hi.2.1 hs hp
  have e1 := ESh bSh_1
  have hpt := c_pattern (n := n) (h := h) (A := A) (M := M) (R := R) bSh_1 hs
  rw [h1] at hpt
  refine ⟨a, ?_, h2⟩
  unfold f_X11_patternIn
  simp (disch := omega) only [↓grd_u, ↓bnd_e, ↓orf_u, ↓oif_u, ↓cal_u, ↓calX_u, ↓inrO_u, ↓reduceIte, EM, EMg, EMs, z0, oi, n_inbT, n_cntT, n_ltT, n_ltF, n_leT, n_leF, n_eqT, n_eqF, n_m1T, n_m1F, n_m1F', n_cl, n_add, n_mul, ro_at, ro_ro, up_at, up_up, EC, e1, hpt]
theorem c_patF {v : Int32} (hi : IC n h A R S) (hc : (v < nI 0 ∨ nI 5 < v) ∨ ∃ s, s < 6 ∧ v = nI s ∧ lP (sCur S) s = []) : f_X11_patternIn (ca n 0) v (E n h A M R) = some (.inr "java/util/NoSuchElementException", E n h A M R) := by
  have e1 := ESh bSh_1
  unfold f_X11_patternIn
  rcases hc with hc | ⟨s, hs, rfl, hq⟩
  · have hpt := c_patternF (n := n) (h := h) (A := A) (M := M) (R := R) (b := 1) hc
    simp (disch := omega) only [↓grd_u, ↓bnd_e, ↓orf_u, ↓oif_u, ↓cal_u, ↓calX_u, ↓inrO_u, ↓reduceIte, EM, EMg, EMs, z0, oi, n_inbT, n_cntT, n_ltT, n_ltF, n_leT, n_leF, n_eqT, n_eqF, n_m1T, n_m1F, n_m1F', n_cl, n_add, n_mul, ro_at, ro_ro, up_at, up_up, EC, e1, hpt]
  · have hpt := c_pattern (n := n) (h := h) (A := A) (M := M) (R := R) bSh_1 hs
    rw [ShOK_no hi.2.1 hs hq] at hpt
    simp (disch := omega) only [↓grd_u, ↓bnd_e, ↓orf_u, ↓oif_u, ↓cal_u, ↓calX_u, ↓inrO_u, ↓reduceIte, EM, EMg, EMs, z0, oi, n_inbT, n_cntT, n_ltT, n_ltF, n_leT, n_leF, n_eqT, n_eqF, n_m1T, n_m1F, n_m1F', n_cl, n_add, n_mul, ro_at, ro_ro, up_at, up_up, EC, e1, hpt]
theorem c_sampT {i : Nat} (hi : IC n h A R S) (hg : GoodS S) (hk : i < (lW (sCur S)).length) : ∃ a, f_X11_sampleAt (ca n 0) (nI i) (E n h A M R) = some (.inl (some a), E n h A M R) ∧ Wrd n h a ((lW (sCur S)).getD i []) := by
  have h8 := hg.1.2.1
  obtain ⟨a, h1, h2⟩ := ShOK_w hi.2.1 (by omega) hk
  have e1 := ESh bSh_1
  have hpt := c_sampleT (M := M) bSh_1 hi.2.1 h8 hk
  rw [h1] at hpt
  refine ⟨a, ?_, h2⟩
  unfold f_X11_sampleAt
  simp (disch := omega) only [↓grd_u, ↓bnd_e, ↓orf_u, ↓oif_u, ↓cal_u, ↓calX_u, ↓inrO_u, ↓reduceIte, EM, EMg, EMs, z0, oi, n_inbT, n_cntT, n_ltT, n_ltF, n_leT, n_leF, n_eqT, n_eqF, n_m1T, n_m1F, n_m1F', n_cl, n_add, n_mul, ro_at, ro_ro, up_at, up_up, EC, e1, hpt]
theorem c_sampF {v : Int32} (hi : IC n h A R S) (hg : GoodS S) (hv : v < nI 0 ∨ nI (lW (sCur S)).length ≤ v) : f_X11_sampleAt (ca n 0) v (E n h A M R) = some (.inr "java/lang/IndexOutOfBoundsException", E n h A M R) := by
  have h8 := hg.1.2.1
  have e1 := ESh bSh_1
  have hpt := c_sampleF (M := M) bSh_1 hi.2.1 h8 hv
  unfold f_X11_sampleAt
  simp (disch := omega) only [↓grd_u, ↓bnd_e, ↓orf_u, ↓oif_u, ↓cal_u, ↓calX_u, ↓inrO_u, ↓reduceIte, EM, EMg, EMs, z0, oi, n_inbT, n_cntT, n_ltT, n_ltF, n_leT, n_leF, n_eqT, n_eqF, n_m1T, n_m1F, n_m1F', n_cl, n_add, n_mul, ro_at, ro_ro, up_at, up_up, EC, e1, hpt]
theorem c_matchedW (hi : IC n h A R S) (hg : GoodS S) : ∃ g, MonoS n h g ∧ (if okW (sText S) 0 (sText S).length = 1 ∧ (sText S).length ≤ 12 then ∃ x, f_X11_matchedWord (ca n 0) (E n h A M R) = some (.inl (some x), E n g A M R) ∧ Wrd n g x (lets (sText S)) else f_X11_matchedWord (ca n 0) (E n h A M R) = some (.inr "java/lang/IllegalArgumentException", E n g A M R)) := by
  have ht := IC_TX hi hg
  have hz := c_size36 (n := n) (h := h) (M := M) (R := R) ht
  obtain ⟨o, g, e, m, q⟩ := c_wordB (n := n) (h := h) (M := M) (R := R) (fr := 0) (d := (sText S).length) (most := 12) hi.1.1 ht (by omega) (by decide)
  rw [Nat.zero_add] at e
  refine ⟨g, m, ?_⟩
  unfold f_X11_matchedWord
  rcases okT_dec S with hx | hx
  · rw [if_pos hx] at q ⊢
    obtain ⟨x, rfl, hw⟩ := q
    rw [List.drop_zero, List.take_length] at hw
    refine ⟨x, ?_, hw⟩
    simp (disch := omega) only [↓grd_u, ↓bnd_e, ↓orf_u, ↓oif_u, ↓cal_u, ↓calX_u, ↓inrO_u, ↓reduceIte, EM, EMg, EMs, z0, oi, n_inbT, n_cntT, n_ltT, n_ltF, n_leT, n_leF, n_eqT, n_eqF, n_m1T, n_m1F, n_m1F', n_cl, n_add, n_mul, ro_at, ro_ro, up_at, up_up, EC, hz, e]
  · rw [if_neg hx] at q ⊢
    subst q
    simp (disch := omega) only [↓grd_u, ↓bnd_e, ↓orf_u, ↓oif_u, ↓cal_u, ↓calX_u, ↓inrO_u, ↓reduceIte, EM, EMg, EMs, z0, oi, n_inbT, n_cntT, n_ltT, n_ltF, n_leT, n_leF, n_eqT, n_eqF, n_m1T, n_m1F, n_m1F', n_cl, n_add, n_mul, ro_at, ro_ro, up_at, up_up, EC, hz, e]
end CWORD
