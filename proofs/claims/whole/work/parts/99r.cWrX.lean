/-! the class: formatPattern, the call -/
theorem m3_pos : m3 [48] = 1 := rfl
section CWRX
variable {n : Nat} {h : mH} {A M : Nat → Nat → Int32} {R : Nat → Nat → Option Nat} {S : St} {l r : List Nat} {y cap : Nat}
theorem c_write {a : Nat} {p : List Nat} (hp : Pat n h a p) (hw : WF p) (h7 : nLet p ≤ 7) (h22 : p.length ≤ 22) (hs : Sb n h A R l y cap) : ∃ h' A' R' y' cap' ch mh, f_X2_write (ca n 39) a (ca n 42) (E n h A M R) = some (((), E n h' A' M R'), ch, mh) ∧ Sb n h' A' R' (ptx p) y' cap' ∧ FrN n h h' A A' R R' ∧ ch + fcC cap = fcC cap' ∧ mh + fcM cap = fcM cap' := by
  obtain ⟨h1, A1, R1, y1, cap1, ch1, mh1, ez, q1, f1, k1, k2⟩ := c_sbZero (M := M) hs
  obtain ⟨A2, hA2⟩ : ∃ A2, A2 = ro A1 39 (up (A1 39) 2 (nI 0)) := ⟨_, rfl⟩
  have p2 : Pil A2 [] := ⟨by rw [hA2, ro_at, up_at]; rfl, by decide, fun k hk => absurd hk (Nat.not_lt_zero _)⟩
  obtain ⟨A3, e3, g3, f3⟩ := c_pPush (n := n) (h := h1) (A := A2) (M := M) (R := R1) (c := 48) p2 (by decide) (by decide)
  have f23 : ∀ r, r ≠ 39 → r ≠ 40 → A3 r = A1 r := fun r z1 z2 => by rw [f3 r z1 z2, hA2, ro_ne _ _ z1]
  have hp1 : Pat n h1 a p := Pat_mono hp f1.1
  have q3 : Sb n h1 A3 R1 [] y1 cap1 := Sb_39 q1 f23
  obtain ⟨b1, b2, ⟨v, b3⟩, -⟩ := GRun_all hw g0 ⟨by decide, by decide, fun v hv => (nomatch hv), fun _ => (by decide : 0 < 128), fun _ => (by decide : 0 < 128)⟩ (by show 0 + _ ≤ 7; omega) (by show 0 + _ ≤ 7; omega)
  obtain ⟨h4, A4, R4, y4, cap4, ch4, mh4, e4, s4, f4, k3, k4⟩ := c_wr23 (n := n) (M := M) (a := a) (p := p) hw h7 h22 p.length 100000 h1 A3 R1 [48] [] y1 cap1 (Nat.le_refl _) hp1 g3 q3 (fun t ht => by rw [List.mem_singleton.mp ht]; unfold okM; omega) (by rw [List.take_length, b3]; rfl) (by simp) (by omega)
  rw [List.take_length, wr_ptx hw] at s4
  have s4 : Sb n h4 A4 R4 (ptx p).reverse.reverse y4 cap4 := s4
  rw [List.reverse_reverse] at s4
  refine ⟨h4, A4, R4, y4, cap4, ch4 + ch1, mh4 + mh1, ?_, s4, FrN_tr (FrN_L f1) (FrN_tr (FrN_A f23) f4), by omega, by omega⟩
  have kp := hp1.2.2.1
  have hka : ∀ A R, kd (E n h1 A M R) a = 9 := fun A R => by rw [kd_X (by have := hp1.1; omega)]; exact kp
  have esz := c_psize (n := n) (h := h1) (A := A3) (M := M) (R := R1) hp1
  have e4 : g_X2_write_23 (ca n 39) a (ca n 42) (nI p.length - nI 1) (E n h1 A3 M R1) = some (((), E n h4 A4 M R4), ch4, mh4) := e4
  unfold f_X2_write
  simp (disch := omega) only [↓grd_u, ↓bnd_e, ↓orf_u, ↓oif_u, ↓cal_u, ↓calX_u, ↓inrO_u, ↓reduceIte, EM, EMg, EMs, z0, oi, n_inbT, n_cntT, n_ltT, n_ltF, n_leT, n_leF, n_eqT, n_eqF, n_m1T, n_m1F, n_m1F', n_cl, n_add, n_mul, ro_at, ro_ro, up_at, up_up, ↓calC_u, ↓adc_u, EC, ECs, ez, ← hA2, e3, hka, esz, e4]
theorem IC_lineN {h' : mH} {A' : Nat → Nat → Int32} {R' : Nat → Nat → Option Nat} (hi : IC n h A R S) (hf : FrN n h h' A A' R R') (hl : LineOK n h' A' R' l) : IC n h' A' R' (setL S l) := by
  obtain ⟨a0, a1, ⟨f, a2⟩, a3, a4, a5, a6, a7⟩ := hi
  obtain ⟨m, fA, fR⟩ := hf
  have fA : ∀ r, r < 39 → A' r = A r := fun r hr => fA r (by omega) (by omega) (by omega) (by omega)
  refine ⟨NX_mono a0 m, ShOK_mono (ShOK_rows a1 (fA 1 (by decide)) (fR 2 (by decide)) (fR 3 (by decide))) m, ⟨f, Hist_mono (Hist_fr a2 (fun r _ h2 => fA r (by omega)) (fun r _ h2 => fR r (by omega))) m⟩, ?_, ?_, ?_, ?_, hl⟩
  · show (match sSaved S with | none => A' 0 14 = nI 0 | some L => A' 0 14 = nI 1 ∧ ShOK n h' A' R' 4 L)
    rw [fA 0 (by decide)]
    cases e : sSaved S with
    | none => rw [e] at a3; exact a3
    | some L =>
      rw [e] at a3
      exact ⟨a3.1, ShOK_mono (ShOK_rows a3.2 (fA 4 (by decide)) (fR 5 (by decide)) (fR 6 (by decide))) m⟩
  · rw [fA 36 (by decide), fA 37 (by decide)]
    exact a4
  · rw [fA 0 (by decide)]; exact a5
  · rw [fA 0 (by decide)]; exact a6
theorem c_formatPattern {v : Int32} (hi : IC n h A R S) (hg : GoodS S) : CA n M (f_X11_formatPattern (ca n 0) v (E n h A M R)) exN (aFmtP S v) := by
  unfold aFmtP
  rcases pat_cases S v with ⟨s, hs, rfl, hp, e⟩ | ⟨e, hc⟩
  · rw [e]
    dsimp only
    obtain ⟨a, ep, ha⟩ := c_patT (M := M) hi hs hp
    have gp := hg.1.1 s hs
    have h22 := GoodP_len gp
    have h7 : nLet (lP (sCur S) s) ≤ 7 := by
      rcases gp with q | ⟨-, q⟩
      · exact absurd q hp
      · exact Nat.not_lt.mp (fun z => q (Or.inl z))
    obtain ⟨y, cap, hsb⟩ := Line_Sb hi.1.1 hi.2.2.2.2.2.2.2
    obtain ⟨h2, A2, R2, y2, cap2, ch, mh, ew, q2, f2, k1, k2⟩ := c_write (M := M) ha (GoodP_wf gp hp) h7 h22 hsb
    have hfc := fc_le (YB_cap q2.2.2.2.2.1) k1 k2
    have hlen := c_lenL (n := n) (h := h2) (A := A2) (M := M) (R := R2) (l := ptx (lP (sCur S) s)) (hl := q2.2.2.1)
    refine ⟨h2, A2, R2, ?_, ?_⟩
    · rw [if_pos rfl]
      unfold f_X11_formatPattern
      simp (disch := omega) only [↓grd_u, ↓bnd_e, ↓orf_u, ↓oif_u, ↓cal_u, ↓calX_u, ↓inrO_u, ↓reduceIte, EM, EMg, EMs, z0, oi, n_inbT, n_cntT, n_ltT, n_ltF, n_leT, n_leF, n_eqT, n_eqF, n_m1T, n_m1F, n_m1F', n_cl, n_add, n_mul, ro_at, ro_ro, up_at, up_up, ↓calC_u, EC, ep, ew, hlen]
      rw [if_pos hfc]
    · exact IC_lineN hi f2 (Sb_Line q2)
  · rw [e]
    refine CA_no hi (by decide) ?_
    unfold f_X11_formatPattern
    simp (disch := omega) only [↓grd_u, ↓bnd_e, ↓orf_u, ↓oif_u, ↓cal_u, ↓calX_u, ↓inrO_u, ↓reduceIte, EM, EMg, EMs, z0, oi, n_inbT, n_cntT, n_ltT, n_ltF, n_leT, n_leF, n_eqT, n_eqF, n_m1T, n_m1F, n_m1F', n_cl, n_add, n_mul, ro_at, ro_ro, up_at, up_up, EC, c_patF hi hc]
    rfl
end CWRX
