/-! the class holds the state -/
def rdY (n : Nat) (h : mH) (A : Nat → Nat → Int32) (y k : Nat) : Int32 := if y = ca n 43 then A 43 k else gi h y k
def LineOK (n : Nat) (h : mH) (A : Nat → Nat → Int32) (R : Nat → Nat → Option Nat) (l : List Nat) : Prop := A 42 1 = nI 0 ∧ A 42 3 = nI l.length ∧ ∃ y, R 42 0 = some y ∧ ((y = ca n 43 ∧ l.length ≤ 16) ∨ (n + 133 ≤ y ∧ y < nx h ∧ kd h y = 102 ∧ l.length ≤ sz h y ∧ (sz h y = 34 ∨ sz h y = 70 ∨ sz h y = 142))) ∧ (∀ k, k < l.length → rdY n h A y k = nI (l.getD k 0)) ∧ ∀ k, ∃ v, v < 128 ∧ rdY n h A y k = nI v
/-- where new cells come, and the two rows for the law's answers, which stay -/
def NX (n : Nat) (h : mH) : Prop := n + 133 ≤ nx h ∧ kd h (n + 131) = 105 ∧ sz h (n + 131) = 1 ∧ kd h (n + 132) = 106 ∧ sz h (n + 132) = 1
theorem NX_mono {n : Nat} {h h' : mH} (a : NX n h) (m : Mono n h h') : NX n h' := by
  obtain ⟨a0, a1, a2, a3, a4⟩ := a
  obtain ⟨b1, b2, -, -⟩ := m.2 (n + 131) (by omega) (by omega) (by rw [a1]; decide)
  obtain ⟨c1, c2, -, -⟩ := m.2 (n + 132) (by omega) (by omega) (by rw [a3]; decide)
  exact ⟨Nat.le_trans a0 m.1, by rw [b1]; exact a1, by rw [b2]; exact a2, by rw [c1]; exact a3, by rw [c2]; exact a4⟩
def IC (n : Nat) (h : mH) (A : Nat → Nat → Int32) (R : Nat → Nat → Option Nat) (S : St) : Prop :=
  NX n h ∧ ShOK n h A R 1 (sCur S) ∧ (∃ f, Hist n h A R f (sUndo S)) ∧
  (match sSaved S with | none => A 0 14 = nI 0 | some L => A 0 14 = nI 1 ∧ ShOK n h A R 4 L) ∧
  (A 36 2 = nI (sText S).length ∧ ∀ k, k < (sText S).length → A 37 k = nI ((sText S).getD k 0)) ∧
  A 0 15 = oI (sErr S) ∧ A 0 16 = oI (sFail S) ∧ LineOK n h A R (sLine S)
theorem Line_mono {n : Nat} {h h' : mH} {A A' : Nat → Nat → Int32} {R R' : Nat → Nat → Option Nat} {l : List Nat} (hp : LineOK n h A R l) (hm : MonoS n h h') (h1 : A' 42 = A 42) (h2 : A' 43 = A 43) (h3 : R' 42 = R 42) : LineOK n h' A' R' l := by
  obtain ⟨l1, l2, y, l3, l4, l5, l6⟩ := hp
  have key : ∀ k, rdY n h' A' y k = rdY n h A y k := fun k => by
    unfold rdY
    by_cases e : y = ca n 43
    · rw [if_pos e, if_pos e, h2]
    · rw [if_neg e, if_neg e]
      rcases l4 with q | ⟨q1, q2, q3, q4, q5⟩
      · exact absurd q.1 e
      · rw [(hm.2 y (by omega) q2).2.2.1]
  refine ⟨by rw [h1]; exact l1, by rw [h1]; exact l2, y, by rw [h3]; exact l3, ?_, fun k hk => by rw [key]; exact l5 k hk, fun k => by rw [key]; exact l6 k⟩
  rcases l4 with q | ⟨q1, q2, q3, q4, q5⟩
  · exact Or.inl q
  · obtain ⟨e1, e2, e3, e4⟩ := hm.2 y (by omega) q2
    exact Or.inr ⟨q1, Nat.lt_of_lt_of_le q2 hm.1, by rw [e1]; exact q3, by rw [e2]; exact q4, by rw [e2]; exact q5⟩
/-- rows that a change of the shelf leaves alone -/
def Kp (A A' : Nat → Nat → Int32) (R R' : Nat → Nat → Option Nat) : Prop := A' 0 = A 0 ∧ (∀ r, 36 ≤ r → A' r = A r) ∧ (∀ r, 36 ≤ r → R' r = R r) ∧ (∀ r, 4 ≤ r → r < 7 → A' r = A r ∧ R' r = R r)
theorem IC_set {n : Nat} {h h' : mH} {A A' : Nat → Nat → Int32} {R R' : Nat → Nat → Option Nat} {S S' : St} {f : Nat} (hi : IC n h A R S) (hm : MonoS n h h') (hk : Kp A A' R R') (h1 : ShOK n h' A' R' 1 (sCur S')) (h2 : Hist n h' A' R' f (sUndo S')) (h3 : S'.2.2 = S.2.2) : IC n h' A' R' S' := by
  obtain ⟨a0, a1, a2, a3, a4, a5, a6, a7⟩ := hi
  obtain ⟨k0, k1, k2, k3⟩ := hk
  have e1 : sSaved S' = sSaved S := congrArg (·.1) h3
  have e2 : sText S' = sText S := congrArg (·.2.1) h3
  have e3 : sErr S' = sErr S := congrArg (·.2.2.1) h3
  have e4 : sFail S' = sFail S := congrArg (·.2.2.2.1) h3
  have e5 : sLine S' = sLine S := congrArg (·.2.2.2.2) h3
  refine ⟨NX_mono a0 (MonoS_w hm), h1, ⟨f, h2⟩, ?_, ?_, ?_, ?_, ?_⟩
  · rw [e1, k0]
    cases e : sSaved S with
    | none => rw [e] at a3; exact a3
    | some L =>
      rw [e] at a3
      exact ⟨a3.1, ShOK_mono (ShOK_rows a3.2 (k3 4 (by omega) (by omega)).1 (k3 5 (by omega) (by omega)).2 (k3 6 (by omega) (by omega)).2) (MonoS_w hm)⟩
  · rw [e2, k1 36 (by omega), k1 37 (by omega)]; exact a4
  · rw [e3, k0]; exact a5
  · rw [e4, k0]; exact a6
  · rw [e5]; exact Line_mono a7 hm (k1 42 (by omega)) (k1 43 (by omega)) (k2 42 (by omega))
def CA (n : Nat) (M : Nat → Nat → Int32) (x : Option ((Int32 ⊕ String) × mH)) (ex : Nat → String) (q : Nat × Nat × St) : Prop := ∃ h' A' R', x = some (if q.1 = 0 then .inl (nI q.2.1) else .inr (ex q.1), E n h' A' M R') ∧ IC n h' A' R' q.2.2
theorem okP_good {p : List Nat} (h : GoodP p) : okP p := by
  have hl := GoodP_len h
  rcases h with rfl | ⟨h, -⟩
  · exact ⟨fun k hk => absurd hk (by simp), by simp⟩
  · refine ⟨fun k hk => WF_mem h _ ?_, by omega⟩
    rw [List.getD_eq_getElem?_getD, List.getElem?_eq_getElem hk]
    exact List.getElem_mem hk
/-- the exceptions of changes of slots -/
def exS : Nat → String := fun e => if e = 1 then "java/lang/IndexOutOfBoundsException" else if e = 2 then "java/util/NoSuchElementException" else "java/lang/IllegalStateException"
theorem Kp_prep {A : Nat → Nat → Int32} {R : Nat → Nat → Option Nat} {f : Nat} (hf : f < 9) : Kp A (cpA A (9 + 3 * f) 1) R (cpR R (9 + 3 * f) 1) := by
  unfold cpA cpR
  exact ⟨ro_ne _ _ (by omega), fun r hr => ro_ne _ _ (by omega), fun r hr => by rw [ro_ne _ _ (by omega), ro_ne _ _ (by omega)], fun r h1 h2 => ⟨ro_ne _ _ (by omega), by rw [ro_ne _ _ (by omega), ro_ne _ _ (by omega)]⟩⟩
theorem Kp_tr {A A' A'' : Nat → Nat → Int32} {R R' R'' : Nat → Nat → Option Nat} (a : Kp A A' R R') (b : Kp A' A'' R' R'') : Kp A A'' R R'' := ⟨b.1.trans a.1, fun r h => (b.2.1 r h).trans (a.2.1 r h), fun r h => (b.2.2.1 r h).trans (a.2.2.1 r h), fun r h1 h2 => ⟨(b.2.2.2 r h1 h2).1.trans (a.2.2.2 r h1 h2).1, (b.2.2.2 r h1 h2).2.trans (a.2.2.2 r h1 h2).2⟩⟩
theorem Kp_keep {A : Nat → Nat → Int32} {R : Nat → Nat → Option Nat} {f m : Nat} : Kp A (kpA A f m) R R := by
  unfold kpA
  exact ⟨ro_ne _ _ (by omega), fun r hr => ro_ne _ _ (by omega), fun r hr => rfl, fun r h1 h2 => ⟨ro_ne _ _ (by omega), rfl⟩⟩
theorem Kp_put {A : Nat → Nat → Int32} {R : Nat → Nat → Option Nat} {s : Nat} {o : Option Nat} : Kp A (ptA A 1) R (ptR R 1 s o) := by
  unfold ptA ptR
  exact ⟨ro_ne _ _ (by omega), fun r hr => ro_ne _ _ (by omega), fun r hr => ro_ne _ _ (by omega), fun r h1 h2 => ⟨ro_ne _ _ (by omega), ro_ne _ _ (by omega)⟩⟩
theorem Kp_free {A : Nat → Nat → Int32} {R : Nat → Nat → Option Nat} {s : Nat} {o : Option Nat} : Kp A A R (ptR R 1 s o) := by
  unfold ptR
  exact ⟨rfl, fun r hr => rfl, fun r hr => ro_ne _ _ (by omega), fun r h1 h2 => ⟨rfl, ro_ne _ _ (by omega)⟩⟩
