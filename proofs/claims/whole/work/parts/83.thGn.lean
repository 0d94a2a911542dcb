/-! the automaton of a pattern accepts its words -/
def Frs (a : Nat) (fo ol : Nat → Nat) : Prop := ∀ k, a ≤ k → fo k = 0 ∧ ∀ c, (ol c).testBit k = false
def NodS (p : List Nat) (s : gst) (st : List Lng) : Prop := ∃ v A fo ol b, grun s p = (v :: s.1, fo, ol, b) ∧ lrun st p = A :: st ∧ Cor s.2.2.2 b fo ol v A ∧ (∀ k, k < s.2.2.2 ∨ b ≤ k → fo k = s.2.1 k) ∧ ∀ c k, k < s.2.2.2 ∨ b ≤ k → (ol c).testBit k = (s.2.2.1 c).testBit k
theorem Nod_let {c : Nat} (h1 : 1 ≤ c) (h3 : c ≤ 3) (s : gst) (st : List Lng) (hf : Frs s.2.2.2 s.2.1 s.2.2.1) : NodS [c] s st := by
  obtain ⟨q, fo, ol, pos⟩ := s
  have hf : Frs pos fo ol := hf
  have tb : ∀ k, (2 ^ pos).testBit k = true ↔ k = pos := fun k => by rw [Nat.testBit_two_pow, decide_eq_true_eq]; exact eq_comm
  have up1 : ∀ d k, (up ol (c - 1) (ol (c - 1) ||| 2 ^ pos) d).testBit k = true ↔ (ol d).testBit k = true ∨ (d = c - 1 ∧ k = pos) := fun d k => by
    unfold up
    by_cases e : d = c - 1
    · rw [if_pos e, or_b, tb, e]
      exact ⟨fun z => z.elim Or.inl (fun q => Or.inr ⟨rfl, q⟩), fun z => z.elim Or.inl (fun q => Or.inr q.2)⟩
    · rw [if_neg e]
      exact ⟨Or.inl, fun z => z.elim id (fun q => absurd q.1 e)⟩
  refine ⟨(0, 2 ^ pos, 2 ^ pos), fun w => w = [c - 1], fo, up ol (c - 1) (ol (c - 1) ||| 2 ^ pos), pos + 1, ?_, ?_, ⟨Nat.lt_succ_self _, Nat.zero_le _, fun k z => ?_, fun k z => ?_, fun k j q1 q2 q3 => ?_, fun k q1 q2 => ?_, fun w => ?_, fun k q1 q2 => ?_⟩, fun k _ => rfl, fun d k hk => ?_⟩
  · show gstep (q, fo, ol, pos) c = _
    unfold gstep
    rw [if_pos (by omega)]
  · show lstp st c = _
    unfold lstp
    rw [if_pos (by omega)]
  · have := (tb k).mp z
    exact ⟨by show pos ≤ k; omega, by omega⟩
  · have := (tb k).mp z
    exact ⟨by show pos ≤ k; omega, by omega⟩
  · have q1 : pos ≤ k := q1
    rw [(hf k q1).1, Nat.zero_testBit] at q3
    cases q3
  · have q1 : pos ≤ k := q1
    exact ⟨c - 1, by omega, (up1 _ _).mpr (Or.inr ⟨rfl, by omega⟩)⟩
  · cases w with
    | nil =>
      rw [pl_n]
      exact ⟨fun z => absurd z (by simp), fun z => absurd (show (0 : Nat) = 1 from z) (by decide)⟩
    | cons d w =>
      rw [pl_c]
      constructor
      · intro e
        injection e with e1 e2
        rw [e1, e2]
        exact ⟨pos, (tb _).mpr rfl, (up1 _ _).mpr (Or.inr ⟨rfl, rfl⟩), (pw_n ..).mpr ((tb _).mpr rfl)⟩
      · rintro ⟨j, t1, t2, t3⟩
        have ej := (tb _).mp t1
        rw [ej] at t2 t3
        have ed : d = c - 1 := by
          rcases (up1 _ _).mp t2 with z | z
          · rw [(hf pos (Nat.le_refl _)).2 d] at z; cases z
          · exact z.1
        rw [ed]
        cases w with
        | nil => rfl
        | cons x w =>
          obtain ⟨j, u1, -⟩ := (pw_c ..).mp t3
          rw [(hf pos (Nat.le_refl _)).1, Nat.zero_testBit] at u1
          cases u1
  · have q1 : pos ≤ k := q1
    have e : k = pos := by omega
    rw [e]
    exact ⟨⟨pos, (tb _).mpr rfl, PT_0 rfl⟩, PT_0 ((tb _).mpr rfl)⟩
  · have hk : k < pos ∨ pos + 1 ≤ k := hk
    have := up1 d k
    show _ = (ol d).testBit k
    have hne : k ≠ pos := by omega
    cases z1 : (up ol (c - 1) (ol (c - 1) ||| 2 ^ pos) d).testBit k <;> cases z2 : (ol d).testBit k <;> simp_all
theorem Nod_sig {x : List Nat} {c : Nat} (h1 : 6 ≤ c) (h3 : c ≤ 8) (s : gst) (st : List Lng) (hx : NodS x s st) : NodS (x ++ [c]) s st := by
  obtain ⟨v, A, fo, ol, b, e1, e2, cr, f1, f2⟩ := hx
  refine ⟨(if c = 7 then v.1 else 1, v.2.1, v.2.2), lSig c A, if c = 8 then fo else folw fo v.2.2 v.2.1, ol, b, ?_, ?_, Cor_sig cr h1 h3, fun k hk => ?_, f2⟩
  · rw [grun_snoc, e1]
    unfold gstep
    rw [if_neg (by omega), if_pos h1]
    rfl
  · rw [lrun_app, e2, lrun_1]
    unfold lstp
    rw [if_neg (by omega), if_pos h1]
  · rw [← f1 k hk]
    by_cases e : c = 8
    · rw [if_pos e]
    · rw [if_neg e]
      unfold folw
      rw [if_neg (fun z => by have := cr.2.2.2.1 k z; omega)]
theorem Nod_bin {x y : List Nat} {c : Nat} (hc : c = 4 ∨ c = 5) (s : gst) (st : List Lng) (hx : NodS x s st) (hy : ∀ s st, Frs s.2.2.2 s.2.1 s.2.2.1 → NodS y s st) (hf : Frs s.2.2.2 s.2.1 s.2.2.1) : NodS (x ++ y ++ [c]) s st := by
  obtain ⟨v, A, fo, ol, b, e1, e2, cr, f1, f2⟩ := hx
  have cb := cr.1
  have hf1 : Frs b fo ol := fun k hk => ⟨by rw [f1 k (Or.inr hk)]; exact (hf k (by omega)).1, fun c => by rw [f2 c k (Or.inr hk)]; exact (hf k (by omega)).2 c⟩
  obtain ⟨v', B, fo', ol', d, d1, d2, dr, g1, g2⟩ := hy (v :: s.1, fo, ol, b) (A :: st) hf1
  have db : b < d := dr.1
  have g1 : ∀ k, k < b ∨ d ≤ k → fo' k = fo k := g1
  have g2 : ∀ c k, k < b ∨ d ≤ k → (ol' c).testBit k = (ol c).testBit k := g2
  have dr : Cor b d fo' ol' v' B := dr
  have cr' : Cor s.2.2.2 b fo' ol' v A := Cor_up cr (fun k _ h2 => g1 k (Or.inl h2)) (fun c k _ h2 => g2 c k (Or.inl h2))
  have f3 : ∀ k, k < s.2.2.2 ∨ d ≤ k → fo' k = s.2.1 k := fun k hk => by rw [g1 k (by omega), f1 k (by omega)]
  have f4 : ∀ c k, k < s.2.2.2 ∨ d ≤ k → (ol' c).testBit k = (s.2.2.1 c).testBit k := fun c k hk => by rw [g2 c k (by omega), f2 c k (by omega)]
  have eg : grun s (x ++ y) = (v' :: v :: s.1, fo', ol', d) := by rw [grun_app, e1, d1]
  have el : lrun st (x ++ y) = B :: A :: st := by rw [lrun_app, e2, d2]
  by_cases e : c = 5
  · refine ⟨_, _, fo', ol', d, ?_, ?_, Cor_or cr' dr, f3, f4⟩
    · rw [grun_snoc, eg]
      unfold gstep
      rw [if_neg (by omega), if_neg (by omega)]
      unfold gjoin
      dsimp only
      rw [if_pos e]
    · rw [lrun_app, el, lrun_1]
      unfold lstp lBin
      rw [if_neg (by omega), if_neg (by omega)]
      dsimp only
      rw [if_pos e]
  · refine ⟨_, _, folw fo' v.2.2 v'.2.1, ol', d, ?_, ?_, Cor_cat cr' dr, fun k hk => ?_, f4⟩
    · rw [grun_snoc, eg]
      unfold gstep
      rw [if_neg (by omega), if_neg (by omega)]
      unfold gjoin
      dsimp only
      rw [if_neg e]
    · rw [lrun_app, el, lrun_1]
      unfold lstp lBin
      rw [if_neg (by omega), if_neg (by omega)]
      dsimp only
      rw [if_neg e]
    · rw [← f3 k hk]
      unfold folw
      rw [if_neg (fun z => by have := cr'.2.2.2.1 k z; omega)]
theorem Nod_all {p : List Nat} (hw : WF p) : ∀ (s : gst) (st : List Lng), Frs s.2.2.2 s.2.1 s.2.2.1 → NodS p s st :=
  WF_ind (P := fun p => ∀ (s : gst) (st : List Lng), Frs s.2.2.2 s.2.1 s.2.2.1 → NodS p s st) (fun _ h1 h2 s st hf => Nod_let h1 h2 s st hf) (fun _ _ _ ih h1 h2 s st hf => Nod_sig h1 h2 s st (ih s st hf)) (fun _ _ _ _ ihx _ ihy hb s st hf => Nod_bin hb s st (ihx s st hf) ihy hf) hw
theorem folU_b {fo : Nat → Nat} {q j : Nat} : ∀ m, (folU fo q m).testBit j = true ↔ ∃ k, k < m ∧ q.testBit k = true ∧ (fo k).testBit j = true
  | 0 => ⟨fun h => absurd ((Nat.zero_testBit j).symm.trans h) (by decide), fun ⟨k, h, _⟩ => absurd h (Nat.not_lt_zero _)⟩
  | m + 1 => by
    have ih := folU_b (fo := fo) (q := q) (j := j) m
    unfold folU
    by_cases e : q.testBit m = true
    · rw [if_pos e, or_b, ih]
      constructor
      · rintro (⟨k, h1, h2⟩ | h)
        · exact ⟨k, by omega, h2⟩
        · exact ⟨m, by omega, e, h⟩
      · rintro ⟨k, h1, h2, h3⟩
        by_cases e2 : k = m
        · rw [e2] at h3; exact Or.inr h3
        · exact Or.inl ⟨k, by omega, h2, h3⟩
    · rw [if_neg e, ih]
      constructor
      · rintro ⟨k, h1, h2⟩
        exact ⟨k, by omega, h2⟩
      · rintro ⟨k, h1, h2, h3⟩
        by_cases e2 : k = m
        · rw [e2] at h2; exact absurd h2 e
        · exact ⟨k, by omega, h2, h3⟩
theorem and_b {x y k : Nat} : (x &&& y).testBit k = true ↔ x.testBit k = true ∧ y.testBit k = true := by rw [Nat.testBit_and, Bool.and_eq_true]
theorem ne0_b {x : Nat} : x ≠ 0 ↔ ∃ k, x.testBit k = true := by
  constructor
  · intro h
    exact Nat.exists_testBit_of_ne_zero h
  · rintro ⟨k, hk⟩ e
    rw [e, Nat.zero_testBit] at hk
    cases hk
theorem bit7 {q k : Nat} (hq : q < 128) (h : q.testBit k = true) : k < 7 := Nat.lt_of_not_le (fun z => by
  have := Nat.testBit_lt_two_pow (x := q) (i := k) (Nat.lt_of_lt_of_le hq (Nat.pow_le_pow_right (n := 2) (by decide) z))
  rw [this] at h
  cases h)
abbrev gTr (g : Glu) : Nat × Nat × Nat := (g.1, g.2.1, g.2.2.1)
theorem gab_pw {g : Glu} (ok : GluOK g) : ∀ (w : List Nat) (q : Nat), q < 128 → (gab g (rn (gnext g) q w) = true ↔ ∃ k, q.testBit k = true ∧ pw g.2.2.2.1 g.2.2.2.2 g.2.2.1 k w) := by
  intro w
  induction w with
  | nil =>
    intro q hq
    rw [rn_nil]
    unfold gab
    rw [if_neg (by omega), decide_eq_true_eq, ne0_b]
    constructor
    · rintro ⟨k, hk⟩
      exact ⟨k, (and_b.mp hk).1, (pw_n ..).mpr (and_b.mp hk).2⟩
    · rintro ⟨k, h1, h2⟩
      exact ⟨k, and_b.mpr ⟨h1, (pw_n ..).mp h2⟩⟩
  | cons c w ih =>
    intro q hq
    have e : rn (gnext g) q (c :: w) = rn (gnext g) (gnext g q c) w := rfl
    rw [e, ih _ (gnext_lt ok q c)]
    have eg : gnext g q c = folU g.2.2.2.1 q 7 &&& g.2.2.2.2 c := by unfold gnext; rw [if_neg (by omega)]
    constructor
    · rintro ⟨j, h1, h2⟩
      rw [eg] at h1
      obtain ⟨a1, a2⟩ := and_b.mp h1
      obtain ⟨k, -, b2, b3⟩ := (folU_b 7).mp a1
      exact ⟨k, b2, (pw_c ..).mpr ⟨j, b3, a2, h2⟩⟩
    · rintro ⟨k, h1, h2⟩
      obtain ⟨j, b1, b2, b3⟩ := (pw_c ..).mp h2
      exact ⟨j, by rw [eg]; exact and_b.mpr ⟨(folU_b 7).mpr ⟨k, bit7 hq h1, h1, b1⟩, b2⟩, b3⟩
theorem gab_pl {g : Glu} (ok : GluOK g) (w : List Nat) : gab g (grn g w) = true ↔ pl g.2.2.2.1 g.2.2.2.2 (gTr g) w := by
  unfold grn
  cases w with
  | nil =>
    rw [rn_nil, pl_n]
    unfold gab
    rw [if_pos rfl, decide_eq_true_eq]
  | cons c w =>
    have e : rn (gnext g) 128 (c :: w) = rn (gnext g) (gnext g 128 c) w := rfl
    rw [e, gab_pw ok w _ (gnext_lt ok 128 c), pl_c]
    have eg : gnext g 128 c = g.2.1 &&& g.2.2.2.2 c := by unfold gnext; rw [if_pos rfl]
    rw [eg]
    constructor
    · rintro ⟨j, h1, h2⟩
      obtain ⟨a1, a2⟩ := and_b.mp h1
      exact ⟨j, a1, a2, h2⟩
    · rintro ⟨j, h1, h2, h3⟩
      exact ⟨j, and_b.mpr ⟨h1, h2⟩, h3⟩
/-- the whole pattern -/
theorem glu_lang {p : List Nat} (hw : WF p) (h7 : nLet p ≤ 7) : ∃ A b, lrun [] p = [A] ∧ b ≤ 7 ∧ Cor 0 b (gluOf p).2.2.2.1 (gluOf p).2.2.2.2 (gTr (gluOf p)) A ∧ (∀ k, b ≤ k → (gluOf p).2.2.2.1 k = 0) ∧ (grun g0 p).2.2.2 = b ∧ ∀ w, gab (gluOf p) (grn (gluOf p) w) = true ↔ A w := by
  have ok := glu_ok hw h7
  obtain ⟨v, A, fo, ol, b, e1, e2, cr, f1, f2⟩ := Nod_all hw g0 [] (fun k _ => ⟨rfl, fun c => Nat.zero_testBit _⟩)
  obtain ⟨-, a2, -⟩ := GRun_all hw g0 ⟨by decide, by decide, fun v hv => (nomatch hv), fun _ => (by decide : 0 < 128), fun _ => (by decide : 0 < 128)⟩ (by show 0 + _ ≤ 7; omega) (by show 0 + _ ≤ 7; omega)
  have eg : gluOf p = (v.1, v.2.1, v.2.2, fo, ol) := by unfold gluOf; rw [e1]; rfl
  have cr : Cor 0 b fo ol v A := cr
  have b7 : b ≤ 7 := by
    have := a2.2.1
    rw [e1] at this
    exact this
  refine ⟨A, b, e2, b7, ?_, fun k hk => ?_, by rw [e1], fun w => ?_⟩
  · rw [eg]; exact cr
  · rw [eg]; exact f1 k (Or.inr hk)
  · rw [gab_pl ok, eg]
    exact (cr.2.2.2.2.2.2.1 w).symm
/-- a path of positions is read by a word -/
theorem pth_w {a b : Nat} {fo ol : Nat → Nat} {L : Nat} (hcl : ∀ k j, a ≤ k → k < b → (fo k).testBit j = true → a ≤ j ∧ j < b) (hol : ∀ k, a ≤ k → k < b → ∃ c, c < 3 ∧ (ol c).testBit k = true) : ∀ m k, a ≤ k → k < b → pth fo (fun j => L.testBit j = true) m k → ∃ w, le3 w ∧ w.length = m ∧ pw fo ol L k w := by
  intro m
  induction m with
  | zero => exact fun k h1 h2 h => ⟨[], (fun c hc => absurd hc (by simp)), rfl, (pw_n ..).mpr ((pth_0 ..).mp h)⟩
  | succ m ih =>
    intro k h1 h2 h
    obtain ⟨j, q1, q2⟩ := (pth_s ..).mp h
    obtain ⟨r1, r2⟩ := hcl k j h1 h2 q1
    obtain ⟨c, c1, c2⟩ := hol j r1 r2
    obtain ⟨w, w1, w2, w3⟩ := ih j r1 r2 q2
    refine ⟨c :: w, fun d hd => ?_, by rw [List.length_cons, w2], (pw_c ..).mpr ⟨j, q1, c2, w3⟩⟩
    rcases List.mem_cons.mp hd with e | e
    · rw [e]; exact c1
    · exact w1 d e
/-- every pattern has a word -/
theorem glu_ne {p : List Nat} (hw : WF p) (h7 : nLet p ≤ 7) : ∃ k, ek (gnext (gluOf p)) (gab (gluOf p)) k 128 = true := by
  obtain ⟨A, b, -, -, cr, -, -, hl⟩ := glu_lang hw h7
  obtain ⟨c1, -, c3, -, c5, c6, c7, c8⟩ := cr
  obtain ⟨⟨i, i1, -⟩, -⟩ := c8 0 (Nat.le_refl _) c1
  obtain ⟨r1, r2⟩ := c3 i i1
  obtain ⟨-, m, hm⟩ := c8 i r1 r2
  obtain ⟨w, w1, w2, w3⟩ := pth_w c5 c6 m i r1 r2 hm
  obtain ⟨c, d1, d2⟩ := c6 i r1 r2
  have ha : A (c :: w) := (c7 _).mpr ((pl_c ..).mpr ⟨i, i1, d2, w3⟩)
  refine ⟨(c :: w).length, ek_w.mpr ⟨c :: w, fun d hd => ?_, rfl, (hl _).mpr ha⟩⟩
  rcases List.mem_cons.mp hd with e | e
  · rw [e]; exact d1
  · exact w1 d e
theorem good_ne {S : St} {s : Nat} (hg : GoodS S) (hs : s < 6) (hp : lP (sCur S) s ≠ []) : ∃ k, ek (gnext (gluOf (lP (sCur S) s))) (gab (gluOf (lP (sCur S) s))) k 128 = true := by
  have gp := hg.1.1 s hs
  have h7 : nLet (lP (sCur S) s) ≤ 7 := by
    rcases gp with q | ⟨-, q⟩
    · exact absurd q hp
    · exact Nat.not_lt.mp (fun z => q (Or.inl z))
  exact glu_ne (GoodP_wf gp hp) h7
