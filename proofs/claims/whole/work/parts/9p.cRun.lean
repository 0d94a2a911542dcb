/-! the class: run -/
def exR : Nat → String := fun e => if e = 1 then "java/lang/IllegalArgumentException" else "java/lang/IllegalStateException"
section CRUN
variable {n : Nat} {h : mH} {A M : Nat → Nat → Int32} {R : Nat → Nat → Option Nat} {S : St} {T : List Nat} {i : Nat}
theorem IC_cfail {e : Nat} (hi : IC n h A R S) : IC n h (ro A 0 (up (A 0) 16 (nI e))) R (setFail S e) := by
  obtain ⟨a0, a1, ⟨f, a2⟩, a3, a4, a5, a6, a7⟩ := hi
  refine ⟨a0, ShOK_rows a1 (ro_ne _ _ (by decide)) rfl rfl, ⟨f, Hist_fr a2 (fun r h1 h2 => ro_ne _ _ (by omega)) (fun r _ _ => rfl)⟩, ?_, ?_, ?_, ?_, ?_⟩
  · show match sSaved S with | none => (ro A 0 (up (A 0) 16 (nI e))) 0 14 = nI 0 | some L => (ro A 0 (up (A 0) 16 (nI e))) 0 14 = nI 1 ∧ ShOK n h (ro A 0 (up (A 0) 16 (nI e))) R 4 L
    rw [ro_at, up_ne _ _ (by decide)]
    cases e : sSaved S with
    | none => rw [e] at a3; exact a3
    | some L =>
      rw [e] at a3
      exact ⟨a3.1, ShOK_rows a3.2 (ro_ne _ _ (by decide)) rfl rfl⟩
  · rw [ro_ne _ _ (by decide), ro_ne _ _ (by decide)]; exact a4
  · rw [ro_at, up_ne _ _ (by decide)]; exact a5
  · rw [ro_at, up_at]; rfl
  · exact Line_mono a7 (MonoS_rf n h) (ro_ne _ _ (by decide)) (ro_ne _ _ (by decide)) rfl
theorem Kp_take {c : Nat} : Kp A (cpA A 1 c) R (cpR R 1 c) := by
  unfold cpA cpR
  exact ⟨ro_ne _ _ (by omega), fun r hr => ro_ne _ _ (by omega), fun r hr => by rw [ro_ne _ _ (by omega), ro_ne _ _ (by omega)], fun r h1 h2 => ⟨ro_ne _ _ (by omega), by rw [ro_ne _ _ (by omega), ro_ne _ _ (by omega)]⟩⟩
theorem c_run (hi : IC n h A R S) (hg : GoodS S) : CA n M (f_X11_run (ca n 0) (E n h A M R)) exR (aRun S) := by
  have e1 := ESh bSh_1
  have ht := IC_TX hi hg
  have t60 := ht.2.1
  obtain ⟨A1, er, a1, f1⟩ := c_readProgram (n := n) (h := h) (M := M) (R := R) ht
  have i1 : IC n h A1 R S := IC_nt hi (MonoS_rf n h) (fun r _ h36 h38 _ _ _ => f1.1 r h36 h38) f1.2
  unfold aRun
  cases hp : (prR (sText S) 11 0).1 with
  | none =>
    rw [hp] at er
    have er : f_X9_readProgram (ca n 36) (E n h A M R) = some (Int32.ofInt (-4), E n h A1 M R) := er
    dsimp only
    have epos := c_pos36 (n := n) (h := h) (M := M) (R := R) a1
    obtain ⟨A2, hA2⟩ : ∃ A2, A2 = ro A1 0 (up (A1 0) 15 (nI (prR (sText S) 11 0).2)) := ⟨_, rfl⟩
    have hem := c_empty36 (n := n) (h := h) (A := A2) (M := M) (R := R)
    refine ⟨h, ro A2 36 (up (A2 36) 2 (nI 0)), R, ?_, ?_⟩
    · rw [if_neg (show ¬ (1 : Nat) = 0 by decide)]
      unfold f_X11_run
      simp (disch := omega) only [↓grd_u, ↓bnd_e, ↓orf_u, ↓oif_u, ↓cal_u, ↓calX_u, ↓inrO_u, ↓reduceIte, EM, EMg, EMs, z0, oi, n_inbT, n_cntT, n_ltT, n_ltF, n_leT, n_leF, n_eqT, n_eqF, n_m1T, n_m1F, n_m1F', n_cl, n_add, n_mul, ro_at, ro_ro, up_at, up_up, EC, ECs, er, epos, ← hA2, hem]
      rfl
    · rw [hA2]
      exact IC_txt0 (IC_cerr i1)
  | some c =>
    obtain ⟨hc1, hc2⟩ := prR_le 11 0 c (Nat.zero_le _) hp
    rw [hp] at er
    have er : f_X9_readProgram (ca n 36) (E n h A M R) = some (nI (1 + c - 1), E n h A1 M R) := er
    rw [show 1 + c - 1 = c by omega] at er
    dsimp only
    obtain ⟨A2, R2, f, ep, i2, hh, hsh, kp⟩ := c_prep2 (M := M) i1
    obtain ⟨A3, hA3⟩ : ∃ A3, A3 = ro A2 36 (up (A2 36) 3 (nI 0)) := ⟨_, rfl⟩
    have f3 : ∀ r, r ≠ 36 → A3 r = A2 r := fun r hr => by rw [hA3, ro_ne _ _ hr]
    have i3 : IC n h A3 R2 S := IC_nt i2 (MonoS_rf n h) (fun r _ h36 _ _ _ _ => f3 r h36) (by rw [hA3, ro_at, up_ne _ _ (by decide)])
    have hf9 := hh.1
    obtain ⟨h4, A4, R4, ch, mh, e4, k1, k2, i4, hh4, hs4, hr⟩ := c_ex9 (n := n) (M := M) (T := sText S) (f9 := f) (cT := c) (u := sUndo S) (L0 := sCur S) (by omega) hh.2.2.2.1 11 0 0 c 100000 S h A3 R2 hp (by omega) (Nat.zero_le _) (by omega) i3 hg rfl (by rw [hA3, ro_at, up_at]) (Hist_fr hh (fun r _ _ => f3 r (by omega)) (fun _ _ _ => rfl)) (ShOK_rows hsh (f3 _ (by omega)) rfl rfl)
    obtain ⟨dn, hdn⟩ : ∃ dn, dn = (doR (sText S) 11 0 S 0).2.1 := ⟨_, rfl⟩
    obtain ⟨Ld, hLd⟩ : ∃ Ld, Ld = (doR (sText S) 11 0 S 0).2.2 := ⟨_, rfl⟩
    rw [← hdn] at e4 hr ⊢
    rw [← hLd] at i4 ⊢
    have ee : f_X11_executeCommands (ca n 0) (nI c) (E n h A2 M R2) = some ((nI dn, E n h4 A4 M R4), ch, mh) := by
      have e4 : g_X11_executeCommands_9 (ca n 0) (nI c) (nI 0) (E n h A3 M R2) = some ((nI dn, E n h4 A4 M R4), ch, mh) := e4
      unfold f_X11_executeCommands f_X9_rewind
      simp (disch := omega) only [↓grd_u, ↓bnd_e, ↓orf_u, ↓oif_u, ↓cal_u, ↓calX_u, ↓inrO_u, ↓reduceIte, EM, EMg, EMs, z0, oi, n_inbT, n_cntT, n_ltT, n_ltF, n_leT, n_leF, n_eqT, n_eqF, n_m1T, n_m1F, n_m1F', n_cl, n_add, n_mul, ro_at, ro_ro, up_at, up_up, EC, ECs, ← hA3, e4]
    have hcost : ch ≤ 20 ∧ mh ≤ 2580 := by omega
    have hem := c_empty36 (n := n) (h := h4) (A := A4) (M := M) (R := R4)
    obtain ⟨A5, hA5⟩ : ∃ A5, A5 = ro A4 36 (up (A4 36) 2 (nI 0)) := ⟨_, rfl⟩
    rw [← hA5] at hem
    have f5 : ∀ r, r ≠ 36 → A5 r = A4 r := fun r hr => by rw [hA5, ro_ne _ _ hr]
    have i5 : IC n h4 A5 R4 (setText (setC S Ld) []) := by rw [hA5]; exact IC_txt0 i4
    have hh5 : Hist n h4 A5 R4 f (sUndo S) := Hist_fr hh4 (fun r _ _ => f5 r (by omega)) (fun _ _ _ => rfl)
    have hs5 : ShOK n h4 A5 R4 (9 + 3 * f) (sCur S) := ShOK_rows hs4 (f5 _ (by omega)) rfl rfl
    have nn := n_negs (a := c) (by omega)
    have n4 := nn.2.2.2.1
    rcases hr with ⟨ok, hd⟩ | ⟨ok, hd⟩
    · rw [if_pos ok, hd]
      rw [hd] at ee
      have hkeep := c_keep (M := M) hh5
      refine ⟨h4, kpA A5 ((f + 1) % 9) (min 8 ((sUndo S).length + 1)), R4, ?_, ?_⟩
      · rw [if_pos rfl]
        unfold f_X11_run
        simp (disch := omega) only [↓grd_u, ↓bnd_e, ↓orf_u, ↓oif_u, ↓cal_u, ↓calX_u, ↓inrO_u, ↓reduceIte, EM, EMg, EMs, z0, oi, n_inbT, n_cntT, n_ltT, n_ltF, n_leT, n_leF, n_eqT, n_eqF, n_m1T, n_m1F, n_m1F', n_cl, n_add, n_mul, ro_at, ro_ro, up_at, up_up, ↓calC_u, EC, er, n4, e1, ep, ee, hcost, hem, hkeep, and_self]
      · exact IC_set (f := (f + 1) % 9) i5 (MonoS_rf n h4) Kp_keep (ShOK_rows i5.2.1 (by unfold kpA; exact ro_ne _ _ (by decide)) rfl rfl) (keep_OK hh5 hs5) rfl
    · rw [if_neg (by rw [ok]; exact Bool.false_ne_true)]
      obtain ⟨A6, hA6⟩ : ∃ A6, A6 = ro A5 0 (up (A5 0) 16 (nI dn)) := ⟨_, rfl⟩
      have f6 : ∀ r, r ≠ 0 → A6 r = A5 r := fun r hr => by rw [hA6, ro_ne _ _ hr]
      have i6 : IC n h4 A6 R4 (setFail (setText (setC S Ld) []) dn) := by rw [hA6]; exact IC_cfail i5
      have hh6 : Hist n h4 A6 R4 f (sUndo S) := Hist_fr hh5 (fun r _ _ => f6 r (by omega)) (fun _ _ _ => rfl)
      have hs6 : ShOK n h4 A6 R4 (9 + 3 * f) (sCur S) := ShOK_rows hs5 (f6 _ (by omega)) rfl rfl
      have htk := c_takePrep (M := M) hh6 hs6
      obtain ⟨q1, q2⟩ := takePrep_OK hh6 hs6
      have hnc : ¬ nI c ≤ nI dn := by
        rw [n_le (by omega) (by omega)]
        omega
      refine ⟨h4, cpA A6 1 (9 + 3 * f), cpR R4 1 (9 + 3 * f), ?_, ?_⟩
      · rw [if_neg (show ¬ (2 : Nat) = 0 by decide)]
        unfold f_X11_run
        simp (disch := omega) only [↓grd_u, ↓bnd_e, ↓orf_u, ↓oif_u, ↓cal_u, ↓calX_u, ↓inrO_u, ↓reduceIte, EM, EMg, EMs, z0, oi, n_inbT, n_cntT, n_ltT, n_ltF, n_leT, n_leF, n_eqT, n_eqF, n_m1T, n_m1F, n_m1F', n_cl, n_add, n_mul, ro_at, ro_ro, up_at, up_up, ↓calC_u, EC, ECs, er, n4, e1, ep, ee, hcost, hem, hnc, ← hA6, htk, and_self]
        rfl
      · exact IC_set (f := f) i6 (MonoS_rf n h4) Kp_take q2 q1 rfl
end CRUN
