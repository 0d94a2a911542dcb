/-! the calls that answer numbers with a point -/
theorem fp_dc : ∀ a, a < 64 → ∀ b, b < 7 → 1 ≤ b → Op.cmpValue (FP.dcmp (FP.ddiv (FP.i2d (nI a)) (FP.i2d (nI b))) (FP.ddiv (FP.i2d (nI a)) (FP.i2d (nI b)))) .l = 0 := by decide +kernel
theorem fp_fn : ∀ a, a < 9 → ∀ b, b < 9 → 1 ≤ b → vd64 (FP.f2d (FP.fdiv (FP.i2f (nI a)) (FP.i2f (nI b)))) := by decide +kernel
theorem fp_fc : ∀ a, a < 9 → ∀ b, b < 9 → 1 ≤ b → Op.cmpValue (FP.dcmp (FP.f2d (FP.fdiv (FP.i2f (nI a)) (FP.i2f (nI b)))) (FP.f2d (FP.fdiv (FP.i2f (nI a)) (FP.i2f (nI b))))) .l = 0 := by decide +kernel
section OPSD
variable {N t : Nat} {h : mH} {A M : Nat → Nat → Int32} {R : Nat → Nat → Option Nat} {S : St} {a1 a2 a3 : Int32}
theorem glueG {ρ β : Type} {S' : St} {wr : ρ → mH → mH} {x : ρ ⊕ String} {eqv : β → mH → Prop} {es : List String} {fx : Option ((ρ ⊕ String) × mH)} {fm : mH → Option (β × mH)} {h' : mH} {A' : Nat → Nat → Int32} {R' : Nat → Nat → Option Nat} (hx : fx = some (x, E N h' A' M R')) (ic : IC N h' A' R' S') (hg : GoodS S')
    (hwr : ∀ r, x = .inl r → ∃ h'', wr r (E N h' A' M R') = E N h'' A' M R' ∧ IC N h'' A' R' S' ∧ ∃ M' b, fm (E N h'' A' M R') = some (b, E N h'' A' M' R') ∧ IM M' S' ∧ M' 0 0 = nI 0 ∧ eqv b (E N h'' A' M' R'))
    (hex : ∀ e, x = .inr e → e ∈ es ∧ ∃ c, 1 ≤ c ∧ c < 10 ∧ cdl es e = nI c ∧ ∀ h A R, ∃ M' b, fm (E N h A M R) = some (b, E N h A M' R) ∧ IM M' S' ∧ M' 0 0 = nI c) : opT N (N + 97) (N + 131) (N + 132) (INV N t) fx wr es fm eqv := by
  subst hx
  have kho : ∀ h'' M'', IC N h'' A' R' S' → hOK N (N + 97) (N + 131) (N + 132) (E N h'' A' M'' R') := fun h'' M'' a => by
    obtain ⟨a0, a1, a2, a3, a4⟩ := a.1
    refine ⟨?_, ?_, ?_, ?_, ?_, ?_⟩
    · exact kd_C (n := N) (h := h'') (A := A') (M := M'') (R := R') (r := 0) (by decide)
    · exact kd_M (n := N) (h := h'') (A := A') (M := M'') (R := R') (r := 0) (by decide)
    · rw [kd_X (Nat.le_refl _)]; exact a1
    · rw [sz_X (Nat.le_refl _), a2]; decide
    · rw [kd_X (by omega)]; exact a3
    · rw [sz_X (by omega), a4]; decide
  refine ⟨_, rfl, kho _ _ ic, fun e k z => ?_, fun v k z => ?_⟩
  · have := congrArg Prod.fst z
    exact (hex e this).1
  · cases x with
    | inl r =>
      obtain ⟨zv, zk⟩ := z
      obtain ⟨h'', e1, ic2, M', b, e2, im, th, hq⟩ := hwr r rfl
      refine ⟨Int32.ofInt 0, b, E N h'' A' M' R', zv, ?_, ?_, kho _ _ ic2, ?_, fun _ => hq, ⟨h'', A', M', R', S', rfl, ic2, im, hg⟩⟩
      · rw [zk, e1]; exact (kho _ _ ic2).2.1
      · rw [zk, e1]; exact e2
      · rw [gi_m0, th]; rfl
    | inr e =>
      obtain ⟨zv, mm, hmm, zk⟩ := z
      obtain ⟨-, c, c1, c2, c3, hm⟩ := hex e rfl
      have ic2 : IC N (sn h' mm) A' R' S' := IC_sn ic hmm
      obtain ⟨M', b, e2, im, th⟩ := hm (sn h' mm) A' R'
      refine ⟨cdl es e, b, E N (sn h' mm) A' M' R', zv, ?_, ?_, kho _ _ ic2, ?_, fun y => ?_, ⟨_, A', M', R', S', rfl, ic2, im, hg⟩⟩
      · rw [zk]; exact (kho _ _ ic2).2.1
      · rw [zk]; exact e2
      · rw [gi_m0, th, c3]
      · exfalso
        rw [c3] at y
        have y : nI c = nI 0 := y
        rw [n_eq (by omega) (by decide)] at y
        omega
theorem lSum_lt (hg : GoodS S) : lSum (sCur S) 6 < 64 := by
  have a := fun s (hs : s < 6) => nLet_lt hg hs
  have a0 := a 0 (by decide)
  have a1 := a 1 (by decide)
  have a2 := a 2 (by decide)
  have a3 := a 3 (by decide)
  have a4 := a 4 (by decide)
  have a5 := a 5 (by decide)
  have z : lSum (sCur S) 0 = 0 := rfl
  rw [lSum_snoc, lSum_snoc, lSum_snoc, lSum_snoc, lSum_snoc, lSum_snoc]
  omega
theorem o_37 (hi : IC N h A R S) (im : IM M S) (hg : GoodS S) : op_37 N (N + 97) (N + 131) (N + 132) (E N h A M R) (INV N t) a1 a2 a3 := by
  unfold op_37
  have h6 := nPat_le (sCur S)
  have hs := lSum_lt hg
  refine glueG (S' := S) (c_meanLetters hi hg) hi hg (fun r hr => ?_) (fun e he => ?_)
  · by_cases e0 : nPat (sCur S) = 0
    · rw [if_pos e0] at hr; cases hr
    · rw [if_neg e0] at hr
      cases hr
      obtain ⟨M', e2, im2, th⟩ := m_meanLetters (n := N) (h := sd h (N + 132) 0 (FP.ddiv (FP.i2d (nI (lSum (sCur S) 6))) (FP.i2d (nI (nPat (sCur S)))))) (A := A) (R := R) im hg
      rw [if_neg e0] at e2 th
      refine ⟨sd h (N + 132) 0 _, rfl, IC_sd hi, M', _, e2, im2, th, ?_⟩
      show Op.cmpValue (FP.dcmp (if N + 132 = N + 132 ∧ 0 = 0 then _ else _) _) .l = 0
      rw [if_pos ⟨rfl, rfl⟩]
      exact fp_dc _ hs _ (by omega) (by omega)
  · by_cases e0 : nPat (sCur S) = 0
    · rw [if_pos e0] at he
      cases he
      refine ⟨by decide, 1, by decide, by decide, by decide, fun h A R => ?_⟩
      obtain ⟨M', e2, im2, th⟩ := m_meanLetters (n := N) (h := h) (A := A) (R := R) im hg
      rw [if_pos e0] at th
      exact ⟨M', _, e2, im2, th⟩
    · rw [if_neg e0] at he; cases he
theorem o_38 (hi : IC N h A R S) (im : IM M S) (hg : GoodS S) : op_38 N (N + 97) (N + 131) (N + 132) (E N h A M R) (INV N t) a1 a2 a3 := by
  unfold op_38
  have h8 := hg.1.2.1
  obtain ⟨A', q, ex, ic, hq⟩ := c_acceptedShare (M := M) (v := a1) hi hg
  have hm := fun h A R => m_acceptedShare (n := N) (h := h) (A := A) (R := R) (v := a1) im hg
  have val : ∀ r, q = .inl r → ∃ s, patN S a1 = some s ∧ (lW (sCur S)).length ≠ 0 ∧ r = FP.fdiv (FP.i2f (nI (acN S (gluOf (lP (sCur S) s)) (lW (sCur S)).length))) (FP.i2f (nI (lW (sCur S)).length)) := fun r hr => by
    rw [hr] at hq
    cases hp : patN S a1 with
    | none => rw [hp] at hq; cases hq
    | some s =>
      rw [hp] at hq
      dsimp only at hq
      by_cases e0 : (lW (sCur S)).length = 0
      · rw [if_pos e0] at hq; cases hq
      · rw [if_neg e0] at hq
        cases hq
        exact ⟨s, rfl, e0, rfl⟩
  have hle : ∀ s, acN S (gluOf (lP (sCur S) s)) (lW (sCur S)).length ≤ (lW (sCur S)).length := fun s => csn_le _ _
  refine ⟨glueG (S' := S) ex ic hg (fun r hr => ?_) (fun e he => ?_), fun r k hr => ?_⟩
  · obtain ⟨s, hs, e0, ev⟩ := val r hr
    obtain ⟨M', b, e2, im2, th⟩ := hm (sd h (N + 132) 0 (FP.f2d r)) A' R
    rw [hs] at th
    dsimp only at th
    rw [if_neg e0] at th
    obtain ⟨th, hb⟩ := th
    have hl := hle s
    refine ⟨sd h (N + 132) 0 (FP.f2d r), rfl, IC_sd ic, M', b, e2, im2, th, ?_, ?_⟩
    · rw [hb]
      exact fp_fn _ (by omega) _ (by omega) (by omega)
    · show Op.cmpValue (FP.dcmp (if N + 132 = N + 132 ∧ 0 = 0 then FP.f2d r else _) (FP.f2d b)) .l = 0
      rw [if_pos ⟨rfl, rfl⟩, hb, ev]
      exact fp_fc _ (by omega) _ (by omega) (by omega)
  · rw [he] at hq
    cases hp : patN S a1 with
    | none =>
      rw [hp] at hq
      have hq : e = exNM 1 := by injection hq
      rw [hq]
      refine ⟨by decide, 1, by decide, by decide, by decide, fun h A R => ?_⟩
      obtain ⟨M', b, e2, im2, th⟩ := hm h A R
      rw [hp] at th
      exact ⟨M', b, e2, im2, th⟩
    | some s =>
      rw [hp] at hq
      dsimp only at hq
      by_cases e0 : (lW (sCur S)).length = 0
      · rw [if_pos e0] at hq
        have hq : e = exNM 2 := by injection hq
        rw [hq]
        refine ⟨by decide, 2, by decide, by decide, by decide, fun h A R => ?_⟩
        obtain ⟨M', b, e2, im2, th⟩ := hm h A R
        rw [hp] at th
        dsimp only at th
        rw [if_pos e0] at th
        exact ⟨M', b, e2, im2, th⟩
      · rw [if_neg e0] at hq; cases hq
  · have hr' : f_X11_acceptedShare (ca N 0) a1 (E N h A M R) = some (.inl r, k) := hr
    rw [ex] at hr'
    have hq2 : q = .inl r := by
      have := Option.some.inj hr'
      exact congrArg Prod.fst this
    obtain ⟨s, hs, e0, ev⟩ := val r hq2
    have hl := hle s
    rw [ev]
    exact fp_fn _ (by omega) _ (by omega) (by omega)
end OPSD
