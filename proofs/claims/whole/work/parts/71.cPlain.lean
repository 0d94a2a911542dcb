/-! the class's plain calls -/
def exAS : Nat → String := fun e => if e = 1 then "java/lang/IllegalArgumentException" else "java/lang/IllegalStateException"
section CPLAIN
variable {n : Nat} {h : mH} {A M : Nat → Nat → Int32} {R : Nat → Nat → Option Nat} {S : St}
theorem c_patternCount (hi : IC n h A R S) : f_X11_patternCount (ca n 0) (E n h A M R) = some (nI (nPat (sCur S)), E n h A M R) := by
  have e1 := ESh bSh_1
  have hp := c_patternTotal (M := M) bSh_1 hi.2.1
  unfold f_X11_patternCount
  simp (disch := omega) only [↓grd_u, ↓bnd_e, ↓orf_u, ↓oif_u, ↓cal_u, ↓calX_u, ↓inrO_u, ↓reduceIte, EM, EMg, EMs, z0, oi, n_inbT, n_cntT, n_ltT, n_ltF, n_leT, n_leF, n_eqT, n_eqF, n_m1T, n_m1F, n_m1F', n_cl, n_add, n_mul, ro_at, ro_ro, up_at, up_up, EC, e1, hp]
theorem c_wordCount (hi : IC n h A R S) : f_X11_wordCount (ca n 0) (E n h A M R) = some (nI (lW (sCur S)).length, E n h A M R) := by
  have e1 := ESh bSh_1
  have hp := c_sampTot (M := M) hi
  unfold f_X11_wordCount
  simp (disch := omega) only [↓grd_u, ↓bnd_e, ↓orf_u, ↓oif_u, ↓cal_u, ↓calX_u, ↓inrO_u, ↓reduceIte, EM, EMg, EMs, z0, oi, n_inbT, n_cntT, n_ltT, n_ltF, n_leT, n_leF, n_eqT, n_eqF, n_m1T, n_m1F, n_m1F', n_cl, n_add, n_mul, ro_at, ro_ro, up_at, up_up, EC, e1, hp]
theorem c_definedTotal (hi : IC n h A R S) : f_X11_definedTotal (ca n 0) (E n h A M R) = some (nI (lD (sCur S)), E n h A M R) := by
  have e1 := ESh bSh_1
  have e1g := EShg bSh_1
  have s1 := hi.2.1.2.1
  unfold f_X11_definedTotal f_X6_putTotal
  simp (disch := omega) only [↓grd_u, ↓bnd_e, ↓orf_u, ↓oif_u, ↓cal_u, ↓calX_u, ↓inrO_u, ↓reduceIte, EM, EMg, EMs, z0, oi, n_inbT, n_cntT, n_ltT, n_ltF, n_leT, n_leF, n_eqT, n_eqF, n_m1T, n_m1F, n_m1F', n_cl, n_add, n_mul, ro_at, ro_ro, up_at, up_up, EC, e1, e1g, s1]
theorem c_hasPattern {v : Int32} (hi : IC n h A R S) : CA n M (f_X11_hasPattern (ca n 0) v (E n h A M R)) exB (match slN v with | some s => (0, b1 (lP (sCur S) s ≠ []), S) | none => (1, 0, S)) := by
  have e1 := ESh bSh_1
  unfold f_X11_hasPattern g_X11_hasPattern_33
  rcases slot_cases v with ⟨s, hs, rfl⟩ | hv
  · rw [slN_T hs]
    have hpt := c_pattern (n := n) (h := h) (A := A) (M := M) (R := R) bSh_1 hs
    refine CA_ok hi (MonoS_rf n h) (fun _ _ => rfl) ?_
    by_cases hp : lP (sCur S) s = []
    · rw [ShOK_no hi.2.1 hs hp] at hpt
      unfold b1
      rw [if_neg (fun q => q hp)]
      simp (disch := omega) only [↓grd_u, ↓bnd_e, ↓orf_u, ↓oif_u, ↓cal_u, ↓calX_u, ↓inrO_u, ↓reduceIte, EM, EMg, EMs, z0, oi, n_inbT, n_cntT, n_ltT, n_ltF, n_leT, n_leF, n_eqT, n_eqF, n_m1T, n_m1F, n_m1F', n_cl, n_add, n_mul, ro_at, ro_ro, up_at, up_up, c_isSlotT, EC, e1, hpt, nz0]
    · obtain ⟨a, h1, h2⟩ := ShOK_so hi.2.1 hs hp
      rw [h1] at hpt
      unfold b1
      rw [if_pos hp]
      simp (disch := omega) only [↓grd_u, ↓bnd_e, ↓orf_u, ↓oif_u, ↓cal_u, ↓calX_u, ↓inrO_u, ↓reduceIte, EM, EMg, EMs, z0, oi, n_inbT, n_cntT, n_ltT, n_ltF, n_leT, n_leF, n_eqT, n_eqF, n_m1T, n_m1F, n_m1F', n_cl, n_add, n_mul, ro_at, ro_ro, up_at, up_up, c_isSlotT, EC, e1, hpt, nz1]
  · rw [slN_F hv]
    refine CA_no hi (by decide) ?_
    simp (disch := omega) only [↓grd_u, ↓bnd_e, ↓orf_u, ↓oif_u, ↓cal_u, ↓calX_u, ↓inrO_u, ↓reduceIte, EM, EMg, EMs, z0, oi, n_inbT, n_cntT, n_ltT, n_ltF, n_leT, n_leF, n_eqT, n_eqF, n_m1T, n_m1F, n_m1F', n_cl, n_add, n_mul, ro_at, ro_ro, up_at, up_up, c_isSlotF hv]
    rfl
theorem c_letterCount {v : Int32} (hi : IC n h A R S) : CA n M (f_X11_letterCount (ca n 0) v (E n h A M R)) exN (match patN S v with | some s => (0, nLet (lP (sCur S) s), S) | none => (1, 0, S)) := by
  unfold f_X11_letterCount
  rcases pat_cases S v with ⟨s, hs, rfl, hp, e⟩ | ⟨e, hc⟩
  · rw [e]
    obtain ⟨a, ep, ha⟩ := c_patT (M := M) hi hs hp
    have hk := kd_P ha
    have hl := c_letters (A := A) (M := M) (R := R) ha
    refine CA_ok hi (MonoS_rf n h) (fun _ _ => rfl) ?_
    simp (disch := omega) only [↓grd_u, ↓bnd_e, ↓orf_u, ↓oif_u, ↓cal_u, ↓calX_u, ↓inrO_u, ↓reduceIte, EM, EMg, EMs, z0, oi, n_inbT, n_cntT, n_ltT, n_ltF, n_leT, n_leF, n_eqT, n_eqF, n_m1T, n_m1F, n_m1F', n_cl, n_add, n_mul, ro_at, ro_ro, up_at, up_up, EC, ep, hk, hl]
  · rw [e]
    refine CA_no hi (by decide) ?_
    simp (disch := omega) only [↓grd_u, ↓bnd_e, ↓orf_u, ↓oif_u, ↓cal_u, ↓calX_u, ↓inrO_u, ↓reduceIte, EM, EMg, EMs, z0, oi, n_inbT, n_cntT, n_ltT, n_ltF, n_leT, n_leF, n_eqT, n_eqF, n_m1T, n_m1F, n_m1F', n_cl, n_add, n_mul, ro_at, ro_ro, up_at, up_up, EC, c_patF hi hc]
    rfl
theorem c_wordLength {v : Int32} (hi : IC n h A R S) (hg : GoodS S) : CA n M (f_X11_wordLength (ca n 0) v (E n h A M R)) exB (match ixN v (lW (sCur S)).length with | some i => (0, ((lW (sCur S)).getD i []).length, S) | none => (1, 0, S)) := by
  have h8 := hg.1.2.1
  unfold f_X11_wordLength
  rcases ix_cases v (lW (sCur S)).length (by omega) with ⟨i, hk, rfl⟩ | hv
  · rw [ixN_T hk (by omega)]
    obtain ⟨y, ew, hw⟩ := c_sampT (M := M) hi hg hk
    have hkw := kd_W hw
    have hz := c_wsize (A := A) (M := M) (R := R) hw
    refine CA_ok hi (MonoS_rf n h) (fun _ _ => rfl) ?_
    simp (disch := omega) only [↓grd_u, ↓bnd_e, ↓orf_u, ↓oif_u, ↓cal_u, ↓calX_u, ↓inrO_u, ↓reduceIte, EM, EMg, EMs, z0, oi, n_inbT, n_cntT, n_ltT, n_ltF, n_leT, n_leF, n_eqT, n_eqF, n_m1T, n_m1F, n_m1F', n_cl, n_add, n_mul, ro_at, ro_ro, up_at, up_up, EC, ew, hkw, hz]
  · rw [ixN_F hv]
    refine CA_no hi (by decide) ?_
    simp (disch := omega) only [↓grd_u, ↓bnd_e, ↓orf_u, ↓oif_u, ↓cal_u, ↓calX_u, ↓inrO_u, ↓reduceIte, EM, EMg, EMs, z0, oi, n_inbT, n_cntT, n_ltT, n_ltF, n_leT, n_leF, n_eqT, n_eqF, n_m1T, n_m1F, n_m1F', n_cl, n_add, n_mul, ro_at, ro_ro, up_at, up_up, EC, c_sampF hi hg hv]
    rfl
theorem c_wordLetter {v w : Int32} (hi : IC n h A R S) (hg : GoodS S) : CA n M (f_X11_wordLetter (ca n 0) v w (E n h A M R)) exB (aWLet S v w) := by
  have h8 := hg.1.2.1
  unfold f_X11_wordLetter aWLet g_X11_wordLetter_18
  rcases ix_cases v (lW (sCur S)).length (by omega) with ⟨i, hk, rfl⟩ | hv
  · rw [ixN_T hk (by omega)]
    obtain ⟨y, ew, hw⟩ := c_sampT (M := M) hi hg hk
    have hkw := kd_W hw
    have hz := c_wsize (A := A) (M := M) (R := R) hw
    obtain ⟨w1, w2⟩ := word_good hg hk
    dsimp only
    rcases ix_cases w ((lW (sCur S)).getD i []).length (by omega) with ⟨k, hk2, rfl⟩ | hv
    · rw [ixN_T hk2 (by omega)]
      have hlt := c_wlet (A := A) (M := M) (R := R) hw hk2 (by omega)
      have h3 := w2 k hk2
      have hn := nar_ch (97 + ((lW (sCur S)).getD i []).getD k 0) (by omega)
      have hn2 := nch (97 + ((lW (sCur S)).getD i []).getD k 0) (by omega)
      refine CA_ok hi (MonoS_rf n h) (fun _ _ => rfl) ?_
      simp (disch := omega) only [↓grd_u, ↓bnd_e, ↓orf_u, ↓oif_u, ↓cal_u, ↓calX_u, ↓inrO_u, ↓reduceIte, EM, EMg, EMs, z0, oi, n_inbT, n_cntT, n_ltT, n_ltF, n_leT, n_leF, n_eqT, n_eqF, n_m1T, n_m1F, n_m1F', n_cl, n_add, n_mul, ro_at, ro_ro, up_at, up_up, EC, ew, hkw, hz, hlt, hn2, hn]
    · rw [ixN_F hv]
      refine CA_no hi (by decide) ?_
      by_cases h0 : w < nI 0
      · simp (disch := omega) only [↓grd_u, ↓bnd_e, ↓orf_u, ↓oif_u, ↓cal_u, ↓calX_u, ↓inrO_u, ↓reduceIte, EM, EMg, EMs, z0, oi, n_inbT, n_cntT, n_ltT, n_ltF, n_leT, n_leF, n_eqT, n_eqF, n_m1T, n_m1F, n_m1F', n_cl, n_add, n_mul, ro_at, ro_ro, up_at, up_up, EC, ew, h0]
        rfl
      · have h1 := hv.resolve_left h0
        obtain ⟨j, hj, rfl⟩ := nI_of h0
        rw [n_le (by omega) hj] at h1
        simp (disch := omega) only [↓grd_u, ↓bnd_e, ↓orf_u, ↓oif_u, ↓cal_u, ↓calX_u, ↓inrO_u, ↓reduceIte, EM, EMg, EMs, z0, oi, n_inbT, n_cntT, n_ltT, n_ltF, n_leT, n_leF, n_eqT, n_eqF, n_m1T, n_m1F, n_m1F', n_cl, n_add, n_mul, ro_at, ro_ro, up_at, up_up, EC, ew, hkw, hz]
        rfl
  · rw [ixN_F hv]
    refine CA_no hi (by decide) ?_
    simp (disch := omega) only [↓grd_u, ↓bnd_e, ↓orf_u, ↓oif_u, ↓cal_u, ↓calX_u, ↓inrO_u, ↓reduceIte, EM, EMg, EMs, z0, oi, n_inbT, n_cntT, n_ltT, n_ltF, n_leT, n_leF, n_eqT, n_eqF, n_m1T, n_m1F, n_m1F', n_cl, n_add, n_mul, ro_at, ro_ro, up_at, up_up, EC, c_sampF hi hg hv]
    rfl
theorem oI_neg : (nI 0 ≤ Int32.ofInt (-1)) = False := ng0
theorem c_errorPosition (hi : IC n h A R S) (hg : GoodS S) : CA n M (f_X11_errorPosition (ca n 0) (E n h A M R)) exN (match sErr S with | some e => (0, e, S) | none => (1, 0, S)) := by
  have he := hi.2.2.2.2.2.1
  have hq := hg.2.2.2.2.2.2.1
  unfold f_X11_errorPosition
  cases hs : sErr S with
  | some x =>
    rw [hs] at he hq
    have hx := hq x rfl
    refine CA_ok hi (MonoS_rf n h) (fun _ _ => rfl) ?_
    simp (disch := omega) only [↓grd_u, ↓bnd_e, ↓orf_u, ↓oif_u, ↓cal_u, ↓calX_u, ↓inrO_u, ↓reduceIte, EM, EMg, EMs, z0, oi, n_inbT, n_cntT, n_ltT, n_ltF, n_leT, n_leF, n_eqT, n_eqF, n_m1T, n_m1F, n_m1F', n_cl, n_add, n_mul, ro_at, ro_ro, up_at, up_up, EC, ECg, he, oI]
  | none =>
    rw [hs] at he
    refine CA_no hi (by decide) ?_
    simp (disch := omega) only [↓grd_u, ↓bnd_e, ↓orf_u, ↓oif_u, ↓cal_u, ↓calX_u, ↓inrO_u, ↓reduceIte, EM, EMg, EMs, z0, oi, n_inbT, n_cntT, n_ltT, n_ltF, n_leT, n_leF, n_eqT, n_eqF, n_m1T, n_m1F, n_m1F', n_cl, n_add, n_mul, ro_at, ro_ro, up_at, up_up, EC, ECg, he, oI, ng0]
    rfl
theorem c_failedCommand (hi : IC n h A R S) (hg : GoodS S) : CA n M (f_X11_failedCommand (ca n 0) (E n h A M R)) exN (match sFail S with | some e => (0, e, S) | none => (1, 0, S)) := by
  have he := hi.2.2.2.2.2.2.1
  have hq := hg.2.2.2.2.2.2.2.1
  unfold f_X11_failedCommand
  cases hs : sFail S with
  | some x =>
    rw [hs] at he hq
    have hx := hq x rfl
    refine CA_ok hi (MonoS_rf n h) (fun _ _ => rfl) ?_
    simp (disch := omega) only [↓grd_u, ↓bnd_e, ↓orf_u, ↓oif_u, ↓cal_u, ↓calX_u, ↓inrO_u, ↓reduceIte, EM, EMg, EMs, z0, oi, n_inbT, n_cntT, n_ltT, n_ltF, n_leT, n_leF, n_eqT, n_eqF, n_m1T, n_m1F, n_m1F', n_cl, n_add, n_mul, ro_at, ro_ro, up_at, up_up, EC, ECg, he, oI]
  | none =>
    rw [hs] at he
    refine CA_no hi (by decide) ?_
    simp (disch := omega) only [↓grd_u, ↓bnd_e, ↓orf_u, ↓oif_u, ↓cal_u, ↓calX_u, ↓inrO_u, ↓reduceIte, EM, EMg, EMs, z0, oi, n_inbT, n_cntT, n_ltT, n_ltF, n_leT, n_leF, n_eqT, n_eqF, n_m1T, n_m1F, n_m1F', n_cl, n_add, n_mul, ro_at, ro_ro, up_at, up_up, EC, ECg, he, oI, ng0]
    rfl
/-! the buffer -/
/-- rows of the buffer changed: another text -/
theorem IC_txt {A' : Nat → Nat → Int32} {T : List Nat} (hi : IC n h A R S) (hA : ∀ r, r ≠ 36 → r ≠ 37 → A' r = A r) (ht : A' 36 2 = nI T.length ∧ ∀ k, k < T.length → A' 37 k = nI (T.getD k 0)) : IC n h A' R (setText S T) := by
  obtain ⟨a0, a1, ⟨f, a2⟩, a3, a4, a5, a6, a7⟩ := hi
  refine ⟨a0, ShOK_rows a1 (hA 1 (by decide) (by decide)) rfl rfl, ⟨f, Hist_fr a2 (fun r h1 h2 => hA r (by omega) (by omega)) (fun r _ _ => rfl)⟩, ?_, ht, ?_, ?_, Line_mono a7 (MonoS_rf n h) (hA 42 (by decide) (by decide)) (hA 43 (by decide) (by decide)) rfl⟩
  · show (match sSaved S with | none => A' 0 14 = nI 0 | some L => A' 0 14 = nI 1 ∧ ShOK n h A' R 4 L)
    rw [hA 0 (by decide) (by decide)]
    cases e : sSaved S with
    | none => rw [e] at a3; exact a3
    | some L =>
      rw [e] at a3
      exact ⟨a3.1, ShOK_rows a3.2 (hA 4 (by decide) (by decide)) rfl rfl⟩
  · rw [hA 0 (by decide) (by decide)]; exact a5
  · rw [hA 0 (by decide) (by decide)]; exact a6
theorem IC_txt0 (hi : IC n h A R S) : IC n h (ro A 36 (up (A 36) 2 (nI 0))) R (setText S []) := IC_txt hi (fun r h1 h2 => ro_ne _ _ h1) ⟨by rw [ro_at, up_at]; rfl, fun k hk => absurd hk (Nat.not_lt_zero k)⟩
theorem c_clearBuffer (hi : IC n h A R S) (hg : GoodS S) : ∃ A', f_X11_clearBuffer (ca n 0) (E n h A M R) = some (nI (sText S).length, E n h A' M R) ∧ IC n h A' R (setText S []) := by
  have ht := IC_TX hi hg
  have hz := c_size36 (n := n) (h := h) (M := M) (R := R) ht
  refine ⟨_, ?_, IC_txt0 hi⟩
  unfold f_X11_clearBuffer
  simp (disch := omega) only [↓grd_u, ↓bnd_e, ↓orf_u, ↓oif_u, ↓cal_u, ↓calX_u, ↓inrO_u, ↓reduceIte, EM, EMg, EMs, z0, oi, n_inbT, n_cntT, n_ltT, n_ltF, n_leT, n_leF, n_eqT, n_eqF, n_m1T, n_m1F, n_m1F', n_cl, n_add, n_mul, ro_at, ro_ro, up_at, up_up, EC, hz, c_empty36]
theorem c_append {v : Int32} (hi : IC n h A R S) (hg : GoodS S) : CA n M (f_X11_append (ca n 0) v (E n h A M R)) exAS (aApp S v) := by
  obtain ⟨t1, t2, t3⟩ := IC_TX hi hg
  have h60 := hg.2.2.2.2.1
  unfold f_X11_append g_X11_append_12 aApp
  rcases ch_cases v with ⟨c, h1, h2, rfl, e⟩ | ⟨hv, e⟩
  · rw [e]
    dsimp only
    by_cases h6 : (sText S).length = 60
    · rw [if_pos h6]
      refine CA_no hi (by decide) ?_
      rw [h6] at t1
      unfold f_X9_isFull g_X9_isFull_14
      simp (disch := omega) only [↓grd_u, ↓bnd_e, ↓orf_u, ↓oif_u, ↓cal_u, ↓calX_u, ↓inrO_u, ↓reduceIte, EM, EMg, EMs, z0, oi, n_inbT, n_cntT, n_ltT, n_ltF, n_leT, n_leF, n_eqT, n_eqF, n_m1T, n_m1F, n_m1F', n_cl, n_add, n_mul, ro_at, ro_ro, up_at, up_up, EC, ECg, t1, nz1]
      rfl
    · rw [if_neg h6]
      have hc := nar_ch c (by omega)
      refine ⟨h, ro (ro A 37 (up (A 37) (sText S).length (nI c))) 36 (up (A 36) 2 (nI ((sText S).length + 1))), R, ?_, IC_txt hi (fun r q1 q2 => by rw [ro_ne _ _ q1, ro_ne _ _ q2]) ⟨?_, fun k hk => ?_⟩⟩
      · rw [if_pos rfl]
        unfold f_X9_isFull g_X9_isFull_14 f_X9_add g_X9_add_36 f_X9_size
        simp (disch := omega) only [↓grd_u, ↓bnd_e, ↓orf_u, ↓oif_u, ↓cal_u, ↓calX_u, ↓inrO_u, ↓reduceIte, EM, EMg, EMs, z0, oi, n_inbT, n_cntT, n_ltT, n_ltF, n_leT, n_leF, n_eqT, n_eqF, n_m1T, n_m1F, n_m1F', n_cl, n_add, n_mul, ro_at, ro_ro, up_at, up_up, ro_ne, up_ne, ro_sw, EC, ECg, ECs, t1, nz0, hc]
      · rw [ro_at, up_at, List.length_append]; rfl
      · rw [ro_ne _ _ (by decide), ro_at]
        rw [List.length_append, List.length_singleton] at hk
        by_cases h7 : k = (sText S).length
        · subst h7
          rw [up_at, gD_r (by omega), Nat.sub_self]
          rfl
        · rw [up_ne _ _ h7, gD_l (by omega)]
          exact (t3 k (by omega)).1
  · rw [e]
    refine CA_no hi (by decide) ?_
    by_cases q : v < nI 32
    · simp (disch := omega) only [↓grd_u, ↓bnd_e, ↓orf_u, ↓oif_u, ↓cal_u, ↓calX_u, ↓inrO_u, ↓reduceIte, EM, EMg, EMs, z0, oi, n_inbT, n_cntT, n_ltT, n_ltF, n_leT, n_leF, n_eqT, n_eqF, n_m1T, n_m1F, n_m1F', n_cl, n_add, n_mul, ro_at, ro_ro, up_at, up_up, q]
      rfl
    · have q2 := hv.resolve_left q
      have q3 : (v ≤ nI 126) = False := eq_false (Int32.not_le.mpr q2)
      simp (disch := omega) only [↓grd_u, ↓bnd_e, ↓orf_u, ↓oif_u, ↓cal_u, ↓calX_u, ↓inrO_u, ↓reduceIte, EM, EMg, EMs, z0, oi, n_inbT, n_cntT, n_ltT, n_ltF, n_leT, n_leF, n_eqT, n_eqF, n_m1T, n_m1F, n_m1F', n_cl, n_add, n_mul, ro_at, ro_ro, up_at, up_up, q, q3]
      rfl
theorem fin_S4 (g : mH) : f_X11_finishChange (ca n 0) (Int32.ofInt (-4)) g = some (.inr (exAS 1), g) := by
  unfold f_X11_finishChange
  rw [if_neg (by decide +kernel), if_neg (by decide +kernel), if_pos rfl]
  rfl
theorem fin_S5 (g : mH) : f_X11_finishChange (ca n 0) (Int32.ofInt (-5)) g = some (.inr (exAS 2), g) := by
  unfold f_X11_finishChange
  rw [if_neg (by decide +kernel), if_pos rfl]
  rfl
theorem Kp_add {a : Option Nat} {k : Nat} : Kp A (adA A 1) R (ro R 3 (up (R 3) k a)) := by
  unfold adA
  exact ⟨ro_ne _ _ (by omega), fun r hr => ro_ne _ _ (by omega), fun r hr => ro_ne _ _ (by omega), fun r h1 h2 => ⟨ro_ne _ _ (by omega), ro_ne _ _ (by omega)⟩⟩
/-- a word is added: the buffer's rows may be emptied before as well as after -/
theorem c_addW {o : Option Nat} {g : mH} {T : List Nat} (hi : IC n h A R S) (hg : GoodS S) (m : MonoS n h g) (hq : if okW T 0 T.length = 1 ∧ T.length ≤ 8 then ∃ x, o = some x ∧ Wrd n g x (lets T) else o = none) : Out n h A M R S (f_X6_addSample (ca n 1) o (E n g A M R)) exAS (if okW T 0 T.length = 1 ∧ 1 ≤ T.length ∧ T.length ≤ 8 then (if (lW (sCur S)).length = 8 then (2, 0, S) else (0, (lW (sCur S)).length, remember S (addW (sCur S) (lets T)))) else (1, 0, S)) := by
  have h8 := hg.1.2.1
  have hs : ShOK n g A R 1 (sCur S) := ShOK_mono hi.2.1 (MonoS_w m)
  by_cases hx : okW T 0 T.length = 1 ∧ T.length ≤ 8
  · rw [if_pos hx] at hq
    obtain ⟨x, rfl, hw⟩ := hq
    by_cases h0 : T.length = 0
    · rw [if_neg (by omega)]
      exact ⟨_, g, A, R, c_addE hw (by rw [lets_len]; exact h0), m, Kp_rf A R, fun _ _ _ => ⟨rfl, rfl⟩, Or.inl ⟨Nat.succ_ne_zero 0, fin_S4, rfl, rfl, rfl⟩⟩
    · rw [if_pos ⟨hx.1, by omega, hx.2⟩]
      by_cases hl : (lW (sCur S)).length = 8
      · rw [if_pos hl]
        exact ⟨_, g, A, R, c_addF bSh_1 hs hw (by rw [lets_len]; omega) (by rw [lets_len]; exact hx.2) hl, m, Kp_rf A R, fun _ _ _ => ⟨rfl, rfl⟩, Or.inl ⟨by show 2 ≠ 0; decide, fin_S5, rfl, rfl, rfl⟩⟩
      · rw [if_neg hl]
        refine ⟨_, g, _, _, c_addT bSh_1 hs hw (by rw [lets_len]; omega) (by rw [lets_len]; exact hx.2) (by omega), m, Kp_add, fun r h1 h2 => ⟨by unfold adA; exact ro_ne _ _ (by omega), ro_ne _ _ (by omega)⟩, Or.inr ⟨rfl, rfl, by show (lW (sCur S)).length < 1000; omega, _, ad_OK hs hw (by omega), rfl⟩⟩
  · rw [if_neg hx] at hq
    subst hq
    rw [if_neg (fun z => hx ⟨z.1, z.2.2⟩)]
    exact ⟨_, g, A, R, c_addN, m, Kp_rf A R, fun _ _ _ => ⟨rfl, rfl⟩, Or.inl ⟨Nat.succ_ne_zero 0, fin_S4, rfl, rfl, rfl⟩⟩
theorem c_addWord (hi : IC n h A R S) (hg : GoodS S) : CA n M (f_X11_addWord (ca n 0) (E n h A M R)) exAS (aAddW S) := by
  have e1 := ESh bSh_1
  obtain ⟨A1, R1, f, ep, i1, hh, hs⟩ := c_prep (M := M) hi
  have ht := IC_TX i1 hg
  have hz := c_size36 (n := n) (h := h) (M := M) (R := R1) ht
  obtain ⟨o, g, ew, m, hq⟩ := c_wordB (n := n) (h := h) (M := M) (R := R1) (fr := 0) (d := (sText S).length) (most := 8) i1.1.1 ht (by omega) (by decide)
  rw [Nat.zero_add] at ew
  rw [List.drop_zero, List.take_length] at hq
  -- with the buffer emptied first
  obtain ⟨Ae, hAe⟩ : ∃ Ae, Ae = ro A1 36 (up (A1 36) 2 (nI 0)) := ⟨_, rfl⟩
  have ie : IC n h Ae R1 (setText S []) := by rw [hAe]; exact IC_txt0 i1
  have he : Hist n h Ae R1 f (sUndo (setText S [])) := Hist_fr hh (fun r h1 h2 => by rw [hAe]; exact ro_ne _ _ (by omega)) (fun r _ _ => rfl)
  have hse : ShOK n h Ae R1 (9 + 3 * f) (sCur (setText S [])) := ShOK_rows hs (by rw [hAe]; have := hh.1; exact ro_ne _ _ (by omega)) rfl rfl
  have h8 := hg.1.2.1
  have key : ∃ k A4 R2, f_X6_addSample (ca n 1) o (E n g A1 M R1) = some (k, E n g A4 M R2) ∧ f_X6_addSample (ca n 1) o (E n g Ae M R1) = some (k, E n g (ro A4 36 (up (A4 36) 2 (nI 0))) M R2) := by
    have hsg : ShOK n g A1 R1 1 (sCur S) := ShOK_mono i1.2.1 (MonoS_w m)
    have hsg2 : ShOK n g Ae R1 1 (sCur S) := ShOK_mono ie.2.1 (MonoS_w m)
    by_cases hx : okW (sText S) 0 (sText S).length = 1 ∧ (sText S).length ≤ 8
    · rw [if_pos hx] at hq
      obtain ⟨x, rfl, hw⟩ := hq
      by_cases h0 : (sText S).length = 0
      · exact ⟨_, A1, R1, c_addE hw (by rw [lets_len]; exact h0), by rw [← hAe]; exact c_addE hw (by rw [lets_len]; exact h0)⟩
      · by_cases hl : (lW (sCur S)).length = 8
        · exact ⟨_, A1, R1, c_addF bSh_1 hsg hw (by rw [lets_len]; omega) (by rw [lets_len]; exact hx.2) hl, by rw [← hAe]; exact c_addF bSh_1 hsg2 hw (by rw [lets_len]; omega) (by rw [lets_len]; exact hx.2) hl⟩
        · refine ⟨_, _, _, c_addT bSh_1 hsg hw (by rw [lets_len]; omega) (by rw [lets_len]; exact hx.2) (by omega), ?_⟩
          rw [c_addT bSh_1 hsg2 hw (by rw [lets_len]; omega) (by rw [lets_len]; exact hx.2) (by omega)]
          have e3 : ro (adA A1 1) 36 (up (adA A1 1 36) 2 (nI 0)) = adA Ae 1 := by
            rw [hAe]
            unfold adA
            rw [ro_ne _ _ (by decide : 36 ≠ 1), ro_ne _ _ (by decide : 1 ≠ 36), ro_comm _ _ _ (by decide)]
          rw [e3]
    · rw [if_neg hx] at hq
      subst hq
      exact ⟨_, A1, R1, c_addN, by rw [← hAe]; exact c_addN⟩
  obtain ⟨k, A4, R2, ex1, ex2⟩ := key
  have ho := c_addW (M := M) (T := sText S) ie (GoodS_text hg) m hq
  rw [ex2] at ho
  have hq2 : aAddW S = (if okW (sText S) 0 (sText S).length = 1 ∧ 1 ≤ (sText S).length ∧ (sText S).length ≤ 8 then (if (lW (sCur (setText S []))).length = 8 then (2, 0, setText S []) else (0, (lW (sCur (setText S []))).length, remember (setText S []) (addW (sCur (setText S [])) (lets (sText S))))) else (1, 0, setText S [])) := rfl
  rw [← hq2] at ho
  have hem := c_empty36 (n := n) (h := g) (A := A4) (M := M) (R := R2)
  refine c_change ie he hse ho (fun k' g' r hx hf => ?_)
  have hx' := Option.some.inj hx
  have hk : k' = k := (congrArg Prod.fst hx').symm
  have hgg : g' = E n g (ro A4 36 (up (A4 36) 2 (nI 0))) M R2 := (congrArg Prod.snd hx').symm
  rw [hk, hgg] at hf
  unfold f_X11_addWord
  rcases r with ⟨r | r, gr⟩
  · simp (disch := omega) only [↓grd_u, ↓bnd_e, ↓orf_u, ↓oif_u, ↓cal_u, ↓calX_u, ↓inrO_u, ↓reduceIte, EM, EMg, EMs, z0, oi, n_inbT, n_cntT, n_ltT, n_ltF, n_leT, n_leF, n_eqT, n_eqF, n_m1T, n_m1F, n_m1F', n_cl, n_add, n_mul, ro_at, ro_ro, up_at, up_up, EC, e1, ep, hz, ew, ex1, hem, hf]
  · simp (disch := omega) only [↓grd_u, ↓bnd_e, ↓orf_u, ↓oif_u, ↓cal_u, ↓calX_u, ↓inrO_u, ↓reduceIte, EM, EMg, EMs, z0, oi, n_inbT, n_cntT, n_ltT, n_ltF, n_leT, n_leF, n_eqT, n_eqF, n_m1T, n_m1F, n_m1F', n_cl, n_add, n_mul, ro_at, ro_ro, up_at, up_up, EC, e1, ep, hz, ew, ex1, hem, hf]
/-! the line's characters -/
theorem and255 : ∀ c, c < 128 → (((nI c &&& nI 255).toUInt32 % 65536).toInt32) = nI c := by decide +kernel
theorem shr0 (x : Int32) : x >>> (nI 0 &&& 31) = x := by
  rw [show (nI 0 &&& 31 : Int32) = 0 by decide +kernel, Int32.shiftRight_zero]
/-- where the line's bytes lie -/
theorem line_row {l : List Nat} (hl : LineOK n h A R l) (hs : l.length ≤ 120) : ∃ y s, gr (E n h A M R) (ca n 42) 0 = some y ∧ kd (E n h A M R) y = 102 ∧ sz (E n h A M R) y = s ∧ l.length ≤ s ∧ s < 100000 ∧ ∀ k, k < l.length → gi (E n h A M R) y k = nI (l.getD k 0) := by
  obtain ⟨l1, l2, y, l3, l4, l5, l6⟩ := hl
  have e0 : gr (E n h A M R) (ca n 42) 0 = some y := by rw [gr_D (by decide) rfl]; exact l3
  rcases l4 with ⟨rfl, q⟩ | ⟨q1, q2, q3, q4, q5⟩
  · refine ⟨_, 16, e0, by rw [kd_C (by decide)]; rfl, by rw [sz_C (by decide)]; rfl, q, by decide, fun k hk => ?_⟩
    have := l5 k hk
    unfold rdY at this
    rw [if_pos rfl] at this
    rw [gi_C (by decide)]
    exact this
  · refine ⟨y, sz h y, e0, by rw [kd_X (by omega)]; exact q3, by rw [sz_X (by omega)], q4, by omega, fun k hk => ?_⟩
    have := l5 k hk
    unfold rdY at this
    rw [if_neg (by unfold ca; omega)] at this
    rw [gi_X (by omega)]
    exact this
theorem c_lineChar {v : Int32} (hi : IC n h A R S) (hg : GoodS S) : CA n M (f_X11_lineChar (ca n 0) v (E n h A M R)) exB (aLine S v) := by
  obtain ⟨l1, l2, y, l3, l4, l5, l6⟩ := hi.2.2.2.2.2.2.2
  have h120 := hg.2.2.2.2.2.2.2.2.1
  unfold f_X11_lineChar aLine g_X11_lineChar_15
  rcases ix_cases v (sLine S).length (by omega) with ⟨i, hk, rfl⟩ | hv
  · rw [ixN_T hk (by omega)]
    have hc := line_lt hg i hk
    have hn := nar_ch _ hc
    have ha := and255 _ hc
    have hl := l5 i hk
    refine CA_ok hi (MonoS_rf n h) (fun _ _ => rfl) ?_
    obtain ⟨y', s, r0, r1, r2, r3, r4, r5⟩ := line_row (M := M) hi.2.2.2.2.2.2.2 h120
    have r5' := r5 i hk
    unfold f_J4_length_8abf5 f_J5_length_8abf5 f_J4_charAt_5068e f_J5_charAt_5068e f_J0_checkIndex_df160 f_J3_checkIndex_8e157
    by_cases hsl : s < (sLine S).length
    · omega
    · simp (disch := omega) only [↓grd_u, ↓bnd_e, ↓orf_u, ↓oif_u, ↓cal_u, ↓calX_u, ↓inrO_u, ↓reduceIte, EM, EMg, EMs, z0, oi, n_inbT, n_cntT, n_ltT, n_ltF, n_leT, n_leF, n_eqT, n_eqF, n_m1T, n_m1F, n_m1F', n_cl, n_add, n_mul, ro_at, ro_ro, up_at, up_up, EC, ECg, l1, l2, r0, r1, r2, shr0, r5', ha, hn]
  · rw [ixN_F hv]
    refine CA_no hi (by decide) ?_
    unfold f_J4_length_8abf5 f_J5_length_8abf5
    by_cases h0 : v < nI 0
    · simp (disch := omega) only [↓grd_u, ↓bnd_e, ↓orf_u, ↓oif_u, ↓cal_u, ↓calX_u, ↓inrO_u, ↓reduceIte, EM, EMg, EMs, z0, oi, n_inbT, n_cntT, n_ltT, n_ltF, n_leT, n_leF, n_eqT, n_eqF, n_m1T, n_m1F, n_m1F', n_cl, n_add, n_mul, ro_at, ro_ro, up_at, up_up, EC, h0]
      rfl
    · have h1 := hv.resolve_left h0
      obtain ⟨j, hj, rfl⟩ := nI_of h0
      rw [n_le (by omega) hj] at h1
      simp (disch := omega) only [↓grd_u, ↓bnd_e, ↓orf_u, ↓oif_u, ↓cal_u, ↓calX_u, ↓inrO_u, ↓reduceIte, EM, EMg, EMs, z0, oi, n_inbT, n_cntT, n_ltT, n_ltF, n_leT, n_leF, n_eqT, n_eqF, n_m1T, n_m1F, n_m1F', n_cl, n_add, n_mul, ro_at, ro_ro, up_at, up_up, EC, ECg, l2]
      rfl
end CPLAIN
