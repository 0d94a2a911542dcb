/-! THE CLAIM OUT OF ONE WALK OF THE LAW'S BODY. Your part is whole_start (and what it stands on); all else here is the same for every law, but numbers. -/
def R_law : String := "PatternLibraryLaw"
def lw_P (b : Addr) (xs : List Int32) (args : Array Value) (s : State) : Prop := args = #[.ref b] ∧ s.IntsAt b xs ∧ xs.length ≤ 2048 ∧ (Jvm.Cond.and given_1 narrow_1).before args s = true
/-- what a walk over the start with the record d0 says of its end, said of the start itself -/
theorem lw_closed {s t : State} {o : Outcome} {d0 : Drawn} {L : List Loc} {k n : Nat} (hd0 : s.drawn.sameBut d0 lw_cs) (hv : ∃ v, o = .returned v) (hW : (s.setDrawn d0).WarmedH t.vm) (hs : (s.setDrawn d0).sameButNew ({ t with vm := s.vm } : State) L k n) : State.butDraws s t lw_cs (fun t1 => Framed s o t1 L k n) := by
  have h2 : t.drawn = d0 := congrArg State.drawn hs.1
  refine ⟨⟨hv, hW, State.sameButNew.setDrawn hs s.drawn⟩, ?_, by decide⟩
  rw [h2]
  exact hd0
def lw_Q (_ : Array Value) (s : State) (o : Outcome) (t : State) : Prop := o = .returned (some (.int 1)) ∧ State.butDraws s t lw_cs (fun t1 => Framed s o t1 [] 603072 7190633)
def lw_Z (below : List Frame) (a : Array Value) (s : State) : State → Prop := fun t => ∃ o, t.status = .running ∧ Ended t below o ∧ lw_Q a s o t
/-- what holds at the law's entry: the machine, the code, the tables' words (any of lw_tbl by 'hts w (by decide +kernel)'), the script of L ints xs at the cell b, what the Statement gives of the start (any of its parts by flat_of_before) -/
def lw_At (p : Program) (s : State) (m : MethodId) (meth : Method) (c : Code) (b L : Nat) (xs : Nat → Int32) : Prop :=
  p.tables.exec = Jvm.exec ∧ c.code = code ∧ meth.sig.returnType = ret ∧ c.maxLocals = 9 ∧ s.vm.findClass R_law = some m.cls ∧ (∀ w ∈ lw_tbl, w.before #[Value.ref b] s = true) ∧ va_X b L xs s s.heap ∧ b < s.heap.size ∧ meth.locks = false ∧ (Jvm.Cond.and given_1 narrow_1).before #[Value.ref b] s = true
def eH (N : Nat) : mH := (N, fun _ => 0, fun _ => 0, fun _ _ => 0, fun _ _ => none, fun _ _ => 0, fun _ _ => 0)
/-- what is asked of both classes, as functions over the heap: the two objects can be made, and each call of a script of at most 512 keeps I -/
def FLaw : Prop := ∀ N : Nat, ∃ (h1 h2 : mH) (I : Nat → mH → Prop), f_X11_init N (al (eH N) 16 17) = some ((), h1) ∧ f_X12_init (nx h1) (al h1 17 50) = some ((), h2) ∧
  I 0 (al (al h2 105 1) 106 1) ∧ (∀ t h, I t h → hOK N (nx h1) (nx h2) (nx h2 + 1) h) ∧ (∀ t h, I t h → I (t + 1) h) ∧
  (∀ t h, I t h → t < 512 → ∀ a1 a2 a3, Ops N (nx h1) (nx h2) (nx h2 + 1) h (I (t + 1)) a1 a2 a3)
theorem mRel_e {G : mG} {A : Nat → Prop} {H : Heap} : mRel G (eH H.size) A H := ⟨rfl, [], fun a => by simp [kd, eH], fun k q h => by simp [va_pl] at h, ⟨fun i j p q h => by simp [va_pl] at h, fun k q h => by simp [va_pl] at h⟩⟩
theorem arr_P {args : Array Value} {s : State} {t : FieldType} (ht : va_RA s = va_RA s) (hp : ∀ cA, va_RA s cA t = (s.vm.findClass ("[" ++ t.toString) = some cA)) (hd : ∀ C, t ≠ .object C) (h : (Cond.arrayClass t).before args s = true) : ∃ cA, ArrOfT s cA t ∧ va_RA s cA t := by
  obtain ⟨c, k, comp, h1, h2, h3⟩ := Cond.arrayClass_spec h
  exact ⟨c, fun N z => ⟨(fun k h => by cases h), k, h2, comp, h3⟩, by rw [hp]; exact h1⟩
theorem arr_O {args : Array Value} {s : State} {C : String} (h : (Cond.arrayOver (.object C)).before args s = true) : ∃ cA, ArrOfT s cA (.object C) ∧ va_RA s cA (.object C) := by
  obtain ⟨comp, c, k, h1, -, h3, h4, h5⟩ := Cond.arrayOver_spec h
  exact ⟨c, fun N z => ⟨(fun k h => by cases h), k, h3, comp, h4⟩, k, comp, h3, h4, h1, h5⟩
theorem xt_sel {y y2 : MethodName} {C : String} {s : State} {args : Array Value} (hy : y.cls ≠ "java/lang/invoke/MethodHandle" ∧ y.cls ≠ "java/lang/invoke/VarHandle") (hcc : y2.cls = y.cls) (h2 : (Cond.selects C y2 y2).before args s = true) (hpriv : (Cond.privateMethod y).before args s = true) (hinst : (Cond.instanceMethod y).before args s = true) :
    (Cond.selects C y y).before args s = true := by
  obtain ⟨mk, methM, hnamed, hmethM, -, -⟩ := Cond.instanceMethod_spec hinst
  have hfound : s.methodFound? y.cls y.name y.desc = some mk := State.methodFound?_of_named hnamed hy
  simp only [Cond.before, Cond.holds, Cond.value] at h2 ⊢
  cases hc : s.vm.findClass C with
  | none => simp [hc] at h2
  | some c =>
    cases hf2 : s.methodFound? y2.cls y2.name y2.desc with
    | none => simp [hc, hf2] at h2
    | some r2 =>
      cases hn2 : s.methodNamed? y2 with
      | none => simp [hc, hf2, hn2] at h2
      | some m2 =>
        have e : m2.cls = mk.cls := Option.some.inj ((findClass_of_methodNamed hn2).symm.trans (hcc ▸ findClass_of_methodNamed hnamed))
        have hsel : selectMethod {} s.vm c mk = .method mk := selectMethod_private hmethM (Cond.privateMethod_at hpriv mk methM hnamed hmethM)
        simp only [hc, hf2, hn2] at h2
        simp only [hfound, hnamed, hsel]
        have h3 : (s.vm.classes[m2.cls]?).any (fun x => !x.isInterface) = true := by
          revert h2
          cases selectMethod {} s.vm c r2 <;> simp
        rw [e] at h3
        simpa using h3
theorem lw_of_mq {below : List Frame} {G : mG} {s : State} {b : Nat} {A : Nat → Prop} (hA : ∀ q, A q → s.heap.size ≤ q) {t : State} (h : vx_MQ below (mQc G (fun v _ => v = some (.int 1)) A) (mXc G (fun _ _ => False) A) #[Value.ref b] s 603072 7190633 A t) : lw_Z below #[Value.ref b] s t := by
  obtain ⟨o, h1, h2, h3⟩ := h
  rcases h3 with ⟨⟨⟨v, h', rfl, rfl, -⟩, -⟩, L, ⟨hv, hW, hs⟩, hL⟩ | ⟨q, -, E, ce, L, ⟨⟨h', hx, -⟩, -⟩, -⟩
  · refine ⟨_, h1, h2, rfl, lw_closed (d0 := s.drawn) (Drawn.sameBut.refl s.drawn lw_cs) hv hW ?_⟩
    obtain ⟨a1, a2, a3, a4, a5, a6⟩ := hs
    refine ⟨a1, a2, a3, a4, a5, fun a c hc => ?_⟩
    obtain ⟨c', g1, g2, g3, g4⟩ := a6 a c hc
    refine ⟨c', g1, g2, g3, fun i _ => g4 i (fun hm => ?_)⟩
    have := hA _ (hL _ hm)
    have hlt : a < s.heap.size := (Array.getElem?_eq_some_iff.mp hc).1
    exact Nat.lt_irrefl _ (Nat.lt_of_lt_of_le hlt this)
  · exact hx.elim
theorem cL {a b : Cond} {args : Array Value} {s : State} (h : (Jvm.Cond.and a b).before args s = true) : a.before args s = true := by
  rw [Cond.before_and, Bool.and_eq_true] at h
  exact h.1
theorem cR {a b : Cond} {args : Array Value} {s : State} (h : (Jvm.Cond.and a b).before args s = true) : b.before args s = true := by
  rw [Cond.before_and, Bool.and_eq_true] at h
  exact h.2
section ENV
variable {args : Array Value} {s : State} {A : Nat → Prop}
theorem str_0 (hgv : (Jvm.Cond.and given_1 narrow_1).before args s = true) (hA : ∀ a : Nat, a < s.heap.size → ¬ A a) : ∃ a v : Nat, va_O "java/lang/String" a A s s.heap ∧ va_OF "java/lang/String" "coder" "B" (.int 0) a A s s.heap ∧ va_OF "java/lang/String" "value" "[B" (.ref v) a A s s.heap ∧ va_T .byte v (sLen.getD 0 0) (fun j => .int ((sByt.getD 0 []).getD j 0)) A s s.heap ∧ (Term.string RX9 94).eval args s none [] s = some (.ref a) := by
  have h := vk_Sof (args := args) (s := s) (N := 1) (tm := fun _ => (Term.string RX9 94)) (len := [4]) (byt := [sByt.getD 0 []]) (A := A) (fun i hi => ?_) (fun i hi => (cL (cR (cL (cR (cL (cR (cR (cL (cL (cR (cR hgv)))))))))))) (fun i hi => (cL (cR (cR (cL (cR (cL (cR (cR (cL (cL (cR (cR hgv))))))))))))) (fun i hi => (cR (cR (cR (cL (cR (cL (cR (cR (cL (cL (cR (cR hgv))))))))))))) (fun i hi => ?_) (fun i hi q hq => ?_) (fun i q hi hq hne => absurd (by omega) hne) hA
  · obtain ⟨aK, aV, ⟨h1, -⟩, h2⟩ := h
    obtain ⟨g1, g2, g3, g4⟩ := h1 0 (by decide)
    exact ⟨aK 0, aV 0, g1, g2, g3, g4, h2 0 (by decide)⟩
  · have h0 : i = 0 := by omega
    subst h0
    decide
  · have h0 : i = 0 := by omega
    subst h0
    exact (cL (cL (cR (cR (cL (cR (cR (cL (cL (cR (cR hgv)))))))))))
  · have h0 : i = 0 := by omega
    subst h0
    match q, hq with
    | 0, _ => exact (cL (cR (cL (cR (cR (cL (cR (cR (cL (cL (cR (cR hgv))))))))))))
    | 1, _ => exact (cR (cR (cL (cR (cR (cL (cR (cR (cL (cL (cR (cR hgv))))))))))))
    | 2, _ => exact (cL (cL (cR (cR (cR (cL (cR (cR (cL (cL (cR (cR hgv))))))))))))
    | 3, _ => exact (cR (cL (cR (cR (cR (cL (cR (cR (cL (cL (cR (cR hgv))))))))))))
    | q + 4, hq => exact absurd hq (by show ¬ q + 4 < 4; omega)
theorem str_1 (hgv : (Jvm.Cond.and given_1 narrow_1).before args s = true) (hA : ∀ a : Nat, a < s.heap.size → ¬ A a) : ∃ a v : Nat, va_O "java/lang/String" a A s s.heap ∧ va_OF "java/lang/String" "coder" "B" (.int 0) a A s s.heap ∧ va_OF "java/lang/String" "value" "[B" (.ref v) a A s s.heap ∧ va_T .byte v (sLen.getD 1 0) (fun j => .int ((sByt.getD 1 []).getD j 0)) A s s.heap ∧ (Term.string RX9 96).eval args s none [] s = some (.ref a) := by
  have h := vk_Sof (args := args) (s := s) (N := 1) (tm := fun _ => (Term.string RX9 96)) (len := [3]) (byt := [sByt.getD 1 []]) (A := A) (fun i hi => ?_) (fun i hi => (cL (cR (cR (cR (cR (cL (cR (cR (cL (cL (cR (cR hgv))))))))))))) (fun i hi => (cR (cR (cR (cR (cR (cL (cR (cR (cL (cL (cR (cR hgv))))))))))))) (fun i hi => (cL (cL (cL (cL (cR (cR (cR (cL (cL (cR (cR hgv)))))))))))) (fun i hi => ?_) (fun i hi q hq => ?_) (fun i q hi hq hne => absurd (by omega) hne) hA
  · obtain ⟨aK, aV, ⟨h1, -⟩, h2⟩ := h
    obtain ⟨g1, g2, g3, g4⟩ := h1 0 (by decide)
    exact ⟨aK 0, aV 0, g1, g2, g3, g4, h2 0 (by decide)⟩
  · have h0 : i = 0 := by omega
    subst h0
    decide
  · have h0 : i = 0 := by omega
    subst h0
    exact (cL (cR (cL (cL (cL (cR (cR (cR (cL (cL (cR (cR hgv))))))))))))
  · have h0 : i = 0 := by omega
    subst h0
    match q, hq with
    | 0, _ => exact (cR (cR (cL (cL (cL (cR (cR (cR (cL (cL (cR (cR hgv))))))))))))
    | 1, _ => exact (cL (cR (cL (cL (cR (cR (cR (cL (cL (cR (cR hgv)))))))))))
    | 2, _ => exact (cL (cR (cR (cL (cL (cR (cR (cR (cL (cL (cR (cR hgv))))))))))))
    | q + 3, hq => exact absurd hq (by show ¬ q + 3 < 3; omega)
theorem str_2 (hgv : (Jvm.Cond.and given_1 narrow_1).before args s = true) (hA : ∀ a : Nat, a < s.heap.size → ¬ A a) : ∃ a v : Nat, va_O "java/lang/String" a A s s.heap ∧ va_OF "java/lang/String" "coder" "B" (.int 0) a A s s.heap ∧ va_OF "java/lang/String" "value" "[B" (.ref v) a A s s.heap ∧ va_T .byte v (sLen.getD 2 0) (fun j => .int ((sByt.getD 2 []).getD j 0)) A s s.heap ∧ (Term.string RX9 98).eval args s none [] s = some (.ref a) := by
  have h := vk_Sof (args := args) (s := s) (N := 1) (tm := fun _ => (Term.string RX9 98)) (len := [5]) (byt := [sByt.getD 2 []]) (A := A) (fun i hi => ?_) (fun i hi => (cR (cR (cR (cL (cL (cR (cR (cR (cL (cL (cR (cR hgv))))))))))))) (fun i hi => (cL (cL (cR (cL (cR (cR (cR (cL (cL (cR (cR hgv)))))))))))) (fun i hi => (cL (cR (cL (cR (cL (cR (cR (cR (cL (cL (cR (cR hgv))))))))))))) (fun i hi => ?_) (fun i hi q hq => ?_) (fun i q hi hq hne => absurd (by omega) hne) hA
  · obtain ⟨aK, aV, ⟨h1, -⟩, h2⟩ := h
    obtain ⟨g1, g2, g3, g4⟩ := h1 0 (by decide)
    exact ⟨aK 0, aV 0, g1, g2, g3, g4, h2 0 (by decide)⟩
  · have h0 : i = 0 := by omega
    subst h0
    decide
  · have h0 : i = 0 := by omega
    subst h0
    exact (cR (cR (cL (cR (cL (cR (cR (cR (cL (cL (cR (cR hgv))))))))))))
  · have h0 : i = 0 := by omega
    subst h0
    match q, hq with
    | 0, _ => exact (cL (cR (cR (cL (cR (cR (cR (cL (cL (cR (cR hgv)))))))))))
    | 1, _ => exact (cL (cR (cR (cR (cL (cR (cR (cR (cL (cL (cR (cR hgv))))))))))))
    | 2, _ => exact (cR (cR (cR (cR (cL (cR (cR (cR (cL (cL (cR (cR hgv))))))))))))
    | 3, _ => exact (cL (cL (cL (cR (cR (cR (cR (cL (cL (cR (cR hgv)))))))))))
    | 4, _ => exact (cL (cR (cL (cL (cR (cR (cR (cR (cL (cL (cR (cR hgv))))))))))))
    | q + 5, hq => exact absurd hq (by show ¬ q + 5 < 5; omega)
theorem str_3 (hgv : (Jvm.Cond.and given_1 narrow_1).before args s = true) (hA : ∀ a : Nat, a < s.heap.size → ¬ A a) : ∃ a v : Nat, va_O "java/lang/String" a A s s.heap ∧ va_OF "java/lang/String" "coder" "B" (.int 0) a A s s.heap ∧ va_OF "java/lang/String" "value" "[B" (.ref v) a A s s.heap ∧ va_T .byte v (sLen.getD 3 0) (fun j => .int ((sByt.getD 3 []).getD j 0)) A s s.heap ∧ (Term.string RX9 100).eval args s none [] s = some (.ref a) := by
  have h := vk_Sof (args := args) (s := s) (N := 1) (tm := fun _ => (Term.string RX9 100)) (len := [5]) (byt := [sByt.getD 3 []]) (A := A) (fun i hi => ?_) (fun i hi => (cR (cR (cL (cL (cR (cR (cR (cR (cL (cL (cR (cR hgv))))))))))))) (fun i hi => (cL (cR (cL (cR (cR (cR (cR (cL (cL (cR (cR hgv)))))))))))) (fun i hi => (cL (cR (cR (cL (cR (cR (cR (cR (cL (cL (cR (cR hgv))))))))))))) (fun i hi => ?_) (fun i hi q hq => ?_) (fun i q hi hq hne => absurd (by omega) hne) hA
  · obtain ⟨aK, aV, ⟨h1, -⟩, h2⟩ := h
    obtain ⟨g1, g2, g3, g4⟩ := h1 0 (by decide)
    exact ⟨aK 0, aV 0, g1, g2, g3, g4, h2 0 (by decide)⟩
  · have h0 : i = 0 := by omega
    subst h0
    decide
  · have h0 : i = 0 := by omega
    subst h0
    exact (cR (cR (cR (cL (cR (cR (cR (cR (cL (cL (cR (cR hgv))))))))))))
  · have h0 : i = 0 := by omega
    subst h0
    match q, hq with
    | 0, _ => exact (cL (cL (cR (cR (cR (cR (cR (cL (cL (cR (cR hgv)))))))))))
    | 1, _ => exact (cL (cR (cL (cR (cR (cR (cR (cR (cL (cL (cR (cR hgv))))))))))))
    | 2, _ => exact (cR (cR (cL (cR (cR (cR (cR (cR (cL (cL (cR (cR hgv))))))))))))
    | 3, _ => exact (cL (cL (cR (cR (cR (cR (cR (cR (cL (cL (cR (cR hgv))))))))))))
    | 4, _ => exact (cR (cL (cR (cR (cR (cR (cR (cR (cL (cL (cR (cR hgv))))))))))))
    | q + 5, hq => exact absurd hq (by show ¬ q + 5 < 5; omega)
theorem str_4 (hgv : (Jvm.Cond.and given_1 narrow_1).before args s = true) (hA : ∀ a : Nat, a < s.heap.size → ¬ A a) : ∃ a v : Nat, va_O "java/lang/String" a A s s.heap ∧ va_OF "java/lang/String" "coder" "B" (.int 0) a A s s.heap ∧ va_OF "java/lang/String" "value" "[B" (.ref v) a A s s.heap ∧ va_T .byte v (sLen.getD 4 0) (fun j => .int ((sByt.getD 4 []).getD j 0)) A s s.heap ∧ (Term.string RX9 102).eval args s none [] s = some (.ref a) := by
  have h := vk_Sof (args := args) (s := s) (N := 1) (tm := fun _ => (Term.string RX9 102)) (len := [5]) (byt := [sByt.getD 4 []]) (A := A) (fun i hi => ?_) (fun i hi => (cL (cR (cR (cR (cR (cR (cR (cR (cL (cL (cR (cR hgv))))))))))))) (fun i hi => (cR (cR (cR (cR (cR (cR (cR (cR (cL (cL (cR (cR hgv))))))))))))) (fun i hi => (cL (cL (cL (cL (cL (cL (cL (cR (cL (cR (cR hgv)))))))))))) (fun i hi => ?_) (fun i hi q hq => ?_) (fun i q hi hq hne => absurd (by omega) hne) hA
  · obtain ⟨aK, aV, ⟨h1, -⟩, h2⟩ := h
    obtain ⟨g1, g2, g3, g4⟩ := h1 0 (by decide)
    exact ⟨aK 0, aV 0, g1, g2, g3, g4, h2 0 (by decide)⟩
  · have h0 : i = 0 := by omega
    subst h0
    decide
  · have h0 : i = 0 := by omega
    subst h0
    exact (cL (cR (cL (cL (cL (cL (cL (cL (cR (cL (cR (cR hgv))))))))))))
  · have h0 : i = 0 := by omega
    subst h0
    match q, hq with
    | 0, _ => exact (cR (cR (cL (cL (cL (cL (cL (cL (cR (cL (cR (cR hgv))))))))))))
    | 1, _ => exact (cL (cR (cL (cL (cL (cL (cL (cR (cL (cR (cR hgv)))))))))))
    | 2, _ => exact (cL (cR (cR (cL (cL (cL (cL (cL (cR (cL (cR (cR hgv))))))))))))
    | 3, _ => exact (cR (cR (cR (cL (cL (cL (cL (cL (cR (cL (cR (cR hgv))))))))))))
    | 4, _ => exact (cL (cL (cR (cL (cL (cL (cL (cR (cL (cR (cR hgv)))))))))))
    | q + 5, hq => exact absurd hq (by show ¬ q + 5 < 5; omega)
theorem str_5 (hgv : (Jvm.Cond.and given_1 narrow_1).before args s = true) (hA : ∀ a : Nat, a < s.heap.size → ¬ A a) : ∃ a v : Nat, va_O "java/lang/String" a A s s.heap ∧ va_OF "java/lang/String" "coder" "B" (.int 0) a A s s.heap ∧ va_OF "java/lang/String" "value" "[B" (.ref v) a A s s.heap ∧ va_T .byte v (sLen.getD 5 0) (fun j => .int ((sByt.getD 5 []).getD j 0)) A s s.heap ∧ (Term.string RX9 104).eval args s none [] s = some (.ref a) := by
  have h := vk_Sof (args := args) (s := s) (N := 1) (tm := fun _ => (Term.string RX9 104)) (len := [5]) (byt := [sByt.getD 5 []]) (A := A) (fun i hi => ?_) (fun i hi => (cL (cR (cL (cR (cL (cL (cL (cL (cR (cL (cR (cR hgv))))))))))))) (fun i hi => (cR (cR (cL (cR (cL (cL (cL (cL (cR (cL (cR (cR hgv))))))))))))) (fun i hi => (cL (cR (cR (cL (cL (cL (cL (cR (cL (cR (cR hgv)))))))))))) (fun i hi => ?_) (fun i hi q hq => ?_) (fun i q hi hq hne => absurd (by omega) hne) hA
  · obtain ⟨aK, aV, ⟨h1, -⟩, h2⟩ := h
    obtain ⟨g1, g2, g3, g4⟩ := h1 0 (by decide)
    exact ⟨aK 0, aV 0, g1, g2, g3, g4, h2 0 (by decide)⟩
  · have h0 : i = 0 := by omega
    subst h0
    decide
  · have h0 : i = 0 := by omega
    subst h0
    exact (cL (cR (cR (cR (cL (cL (cL (cL (cR (cL (cR (cR hgv))))))))))))
  · have h0 : i = 0 := by omega
    subst h0
    match q, hq with
    | 0, _ => exact (cR (cR (cR (cR (cL (cL (cL (cL (cR (cL (cR (cR hgv))))))))))))
    | 1, _ => exact (cL (cL (cL (cR (cL (cL (cL (cR (cL (cR (cR hgv)))))))))))
    | 2, _ => exact (cL (cR (cL (cL (cR (cL (cL (cL (cR (cL (cR (cR hgv))))))))))))
    | 3, _ => exact (cR (cR (cL (cL (cR (cL (cL (cL (cR (cL (cR (cR hgv))))))))))))
    | 4, _ => exact (cL (cR (cL (cR (cL (cL (cL (cR (cL (cR (cR hgv)))))))))))
    | q + 5, hq => exact absurd hq (by show ¬ q + 5 < 5; omega)
theorem str_6 (hgv : (Jvm.Cond.and given_1 narrow_1).before args s = true) (hA : ∀ a : Nat, a < s.heap.size → ¬ A a) : ∃ a v : Nat, va_O "java/lang/String" a A s s.heap ∧ va_OF "java/lang/String" "coder" "B" (.int 0) a A s s.heap ∧ va_OF "java/lang/String" "value" "[B" (.ref v) a A s s.heap ∧ va_T .byte v (sLen.getD 6 0) (fun j => .int ((sByt.getD 6 []).getD j 0)) A s s.heap ∧ (Term.string RX9 106).eval args s none [] s = some (.ref a) := by
  have h := vk_Sof (args := args) (s := s) (N := 1) (tm := fun _ => (Term.string RX9 106)) (len := [4]) (byt := [sByt.getD 6 []]) (A := A) (fun i hi => ?_) (fun i hi => (cL (cR (cR (cL (cR (cL (cL (cL (cR (cL (cR (cR hgv))))))))))))) (fun i hi => (cR (cR (cR (cL (cR (cL (cL (cL (cR (cL (cR (cR hgv))))))))))))) (fun i hi => (cL (cL (cR (cR (cL (cL (cL (cR (cL (cR (cR hgv)))))))))))) (fun i hi => ?_) (fun i hi q hq => ?_) (fun i q hi hq hne => absurd (by omega) hne) hA
  · obtain ⟨aK, aV, ⟨h1, -⟩, h2⟩ := h
    obtain ⟨g1, g2, g3, g4⟩ := h1 0 (by decide)
    exact ⟨aK 0, aV 0, g1, g2, g3, g4, h2 0 (by decide)⟩
  · have h0 : i = 0 := by omega
    subst h0
    decide
  · have h0 : i = 0 := by omega
    subst h0
    exact (cL (cR (cL (cR (cR (cL (cL (cL (cR (cL (cR (cR hgv))))))))))))
  · have h0 : i = 0 := by omega
    subst h0
    match q, hq with
    | 0, _ => exact (cR (cR (cL (cR (cR (cL (cL (cL (cR (cL (cR (cR hgv))))))))))))
    | 1, _ => exact (cL (cL (cR (cR (cR (cL (cL (cL (cR (cL (cR (cR hgv))))))))))))
    | 2, _ => exact (cR (cL (cR (cR (cR (cL (cL (cL (cR (cL (cR (cR hgv))))))))))))
    | 3, _ => exact (cL (cR (cR (cR (cR (cL (cL (cL (cR (cL (cR (cR hgv))))))))))))
    | q + 4, hq => exact absurd hq (by show ¬ q + 4 < 4; omega)
theorem str_inj {i j a v v' : Nat} {U : State} {H : Heap} (hi : i < 7) (hj : j < 7) (h1 : va_OF "java/lang/String" "value" "[B" (.ref v) a A U H) (h2 : va_OF "java/lang/String" "value" "[B" (.ref v') a A U H) (t1 : va_T .byte v (sLen.getD i 0) (fun q => .int ((sByt.getD i []).getD q 0)) A U H) (t2 : va_T .byte v' (sLen.getD j 0) (fun q => .int ((sByt.getD j []).getD q 0)) A U H) : i = j := by
  obtain ⟨cf, k, fi, f, cell, a1, a2, a3, a4, a5, -⟩ := h1
  obtain ⟨cf', k', fi', f', cell', b1, b2, b3, b4, b5, -⟩ := h2
  cases a1.symm.trans b1
  cases a3.symm.trans b3
  cases a5.symm.trans b5
  obtain ⟨c, c1, c2, c3, c4, c5, c6, -⟩ := t1
  obtain ⟨c', d1, d2, d3, d4, d5, d6, -⟩ := t2
  cases c1.symm.trans d1
  have hl : Int32.ofNat (sLen.getD i 0) = Int32.ofNat (sLen.getD j 0) := c5.symm.trans d5
  have hb : ∀ q, q < sLen.getD i 0 → q < sLen.getD j 0 → (sByt.getD i []).getD q 0 = (sByt.getD j []).getD q 0 := fun q h1 h2 => by
    have := (c6 q h1).symm.trans (d6 q h2)
    exact Value.int.inj (Option.some.inj this)
  have key : ∀ i, i < 7 → ∀ j, j < 7 → Int32.ofNat (sLen.getD i 0) = Int32.ofNat (sLen.getD j 0) → ((List.range 6).all fun q => !(decide (q < sLen.getD i 0) && decide (q < sLen.getD j 0)) || decide ((sByt.getD i []).getD q 0 = (sByt.getD j []).getD q 0)) = true → i = j := by decide +kernel
  refine key i hi j hj hl (List.all_eq_true.mpr fun q _ => ?_)
  by_cases h1 : q < sLen.getD i 0
  · by_cases h2 : q < sLen.getD j 0
    · rw [decide_eq_true (hb q h1 h2), Bool.or_true]
    · rw [decide_eq_false h2, Bool.and_false]; rfl
  · rw [decide_eq_false h1, Bool.false_and]; rfl
theorem strs (hgv : (Jvm.Cond.and given_1 narrow_1).before args s = true) (hA : ∀ a : Nat, a < s.heap.size → ¬ A a) : ∃ aK aV : Nat → Nat, vk_S 7 sLen sByt aK aV A s s.heap ∧ (∀ (j : Nat) (q : Nat × String), sIx[j]? = some q → (Term.string RX9 q.1).eval args s none [] s = some (.ref (aK j))) := by
  obtain ⟨a0, v0, o0, c0, f0, t0, e0⟩ := str_0 hgv hA
  obtain ⟨a1, v1, o1, c1, f1, t1, e1⟩ := str_1 hgv hA
  obtain ⟨a2, v2, o2, c2, f2, t2, e2⟩ := str_2 hgv hA
  obtain ⟨a3, v3, o3, c3, f3, t3, e3⟩ := str_3 hgv hA
  obtain ⟨a4, v4, o4, c4, f4, t4, e4⟩ := str_4 hgv hA
  obtain ⟨a5, v5, o5, c5, f5, t5, e5⟩ := str_5 hgv hA
  obtain ⟨a6, v6, o6, c6, f6, t6, e6⟩ := str_6 hgv hA
  have hj7 : ∀ j, j < 7 → j = 0 ∨ j = 1 ∨ j = 2 ∨ j = 3 ∨ j = 4 ∨ j = 5 ∨ j = 6 := fun j h => by omega
  obtain ⟨aK, eK⟩ : ∃ f : Nat → Nat, f = fun j => match j with | 0 => a0 | 1 => a1 | 2 => a2 | 3 => a3 | 4 => a4 | 5 => a5 | 6 => a6 | _ => 0 := ⟨_, rfl⟩
  obtain ⟨aV, eV⟩ : ∃ f : Nat → Nat, f = fun j => match j with | 0 => v0 | 1 => v1 | 2 => v2 | 3 => v3 | 4 => v4 | 5 => v5 | 6 => v6 | _ => 0 := ⟨_, rfl⟩
  have hall : ∀ j, j < 7 → va_O "java/lang/String" (aK j) A s s.heap ∧ va_OF "java/lang/String" "coder" "B" (.int 0) (aK j) A s s.heap ∧ va_OF "java/lang/String" "value" "[B" (.ref (aV j)) (aK j) A s s.heap ∧ va_T .byte (aV j) (sLen.getD j 0) (fun q => .int ((sByt.getD j []).getD q 0)) A s s.heap := fun j hj => by
    rw [eK, eV]
    rcases hj7 j hj with rfl | rfl | rfl | rfl | rfl | rfl | rfl
    · exact ⟨o0, c0, f0, t0⟩
    · exact ⟨o1, c1, f1, t1⟩
    · exact ⟨o2, c2, f2, t2⟩
    · exact ⟨o3, c3, f3, t3⟩
    · exact ⟨o4, c4, f4, t4⟩
    · exact ⟨o5, c5, f5, t5⟩
    · exact ⟨o6, c6, f6, t6⟩
  refine ⟨aK, aV, ⟨hall, fun i j hi hj e => ?_⟩, fun j q hq => ?_⟩
  · obtain ⟨-, -, g3, g4⟩ := hall i hi
    obtain ⟨-, -, k3, k4⟩ := hall j hj
    rw [e] at g3
    exact str_inj hi hj g3 k3 g4 k4
  · rw [eK]
    match j, hq with
    | 0, hq => cases hq; exact e0
    | 1, hq => cases hq; exact e1
    | 2, hq => cases hq; exact e2
    | 3, hq => cases hq; exact e3
    | 4, hq => cases hq; exact e4
    | 5, hq => cases hq; exact e5
    | 6, hq => cases hq; exact e6
    | j + 7, hq => simp [sIx] at hq
theorem sr_0 (hgv : (Jvm.Cond.and given_1 narrow_1).before args s = true) (ht : ∀ w ∈ tables_1, w.before args s = true) : ∃ sa, vk_R "PatternLibrary" 109 "no such slot" sa s := by
  obtain ⟨a, c, cA, kA, q1, -⟩ := Cond.exactly_spec (args := args) (first := s) (o := none) (s := s) (idx := []) (t := Term.string "PatternLibrary" 109) (cls := "java/lang/String") (cL (cR (cR (cL (cR (cR (cR (cR (cL (cL (cR hgv)))))))))))
  exact ⟨a, vk_R.of (ht _ (gt4 24 (by decide +kernel))) q1⟩
theorem sr_1 (hgv : (Jvm.Cond.and given_1 narrow_1).before args s = true) (ht : ∀ w ∈ tables_1, w.before args s = true) : ∃ sa, vk_R "PatternLibrary" 127 "the buffer is not a pattern" sa s := by
  obtain ⟨a, c, cA, kA, q1, -⟩ := Cond.exactly_spec (args := args) (first := s) (o := none) (s := s) (idx := []) (t := Term.string "PatternLibrary" 127) (cls := "java/lang/String") (cL (cL (cL (cL (cL (cL (cL (cL (cR (cL (cR hgv)))))))))))
  exact ⟨a, vk_R.of (ht _ (gt4 65 (by decide +kernel))) q1⟩
theorem sr_2 (hgv : (Jvm.Cond.and given_1 narrow_1).before args s = true) (ht : ∀ w ∈ tables_1, w.before args s = true) : ∃ sa, vk_R "PatternLibrary" 407 "the slot is free" sa s := by
  obtain ⟨a, c, cA, kA, q1, -⟩ := Cond.exactly_spec (args := args) (first := s) (o := none) (s := s) (idx := []) (t := Term.string "PatternLibrary" 407) (cls := "java/lang/String") (cL (cL (cR (cL (cR (cL (cL (cL (cR (cL (cR hgv)))))))))))
  exact ⟨a, vk_R.of (ht _ (gt4 172 (by decide +kernel))) q1⟩
theorem sr_3 (hgv : (Jvm.Cond.and given_1 narrow_1).before args s = true) (ht : ∀ w ∈ tables_1, w.before args s = true) : ∃ sa, vk_R "PatternLibrary" 409 "the pattern is too large" sa s := by
  obtain ⟨a, c, cA, kA, q1, -⟩ := Cond.exactly_spec (args := args) (first := s) (o := none) (s := s) (idx := []) (t := Term.string "PatternLibrary" 409) (cls := "java/lang/String") (cL (cR (cL (cL (cL (cL (cR (cL (cL (cR (cL (cR hgv))))))))))))
  exact ⟨a, vk_R.of (ht _ (gt4 188 (by decide +kernel))) q1⟩
theorem sr_4 (hgv : (Jvm.Cond.and given_1 narrow_1).before args s = true) (ht : ∀ w ∈ tables_1, w.before args s = true) : ∃ sa, vk_R "PatternLibrary" 411 "the buffer is not a word of 1 to 8 letters" sa s := by
  obtain ⟨a, c, cA, kA, q1, -⟩ := Cond.exactly_spec (args := args) (first := s) (o := none) (s := s) (idx := []) (t := Term.string "PatternLibrary" 411) (cls := "java/lang/String") (cL (cR (cR (cL (cL (cR (cR (cL (cL (cR (cL (cR hgv))))))))))))
  exact ⟨a, vk_R.of (ht _ (gt4 195 (by decide +kernel))) q1⟩
theorem sr_5 (hgv : (Jvm.Cond.and given_1 narrow_1).before args s = true) (ht : ∀ w ∈ tables_1, w.before args s = true) : ∃ sa, vk_R "PatternLibrary" 413 "there are 8 sample words" sa s := by
  obtain ⟨a, c, cA, kA, q1, -⟩ := Cond.exactly_spec (args := args) (first := s) (o := none) (s := s) (idx := []) (t := Term.string "PatternLibrary" 413) (cls := "java/lang/String") (cL (cL (cL (cL (cR (cL (cR (cL (cR (cL (cR hgv)))))))))))
  exact ⟨a, vk_R.of (ht _ (gt4 196 (by decide +kernel))) q1⟩
theorem sr_6 (hgv : (Jvm.Cond.and given_1 narrow_1).before args s = true) (ht : ∀ w ∈ tables_1, w.before args s = true) : ∃ sa, vk_R "PatternLibrary" 403 "no such sample word" sa s := by
  obtain ⟨a, c, cA, kA, q1, -⟩ := Cond.exactly_spec (args := args) (first := s) (o := none) (s := s) (idx := []) (t := Term.string "PatternLibrary" 403) (cls := "java/lang/String") (cL (cR (cL (cL (cL (cR (cR (cL (cR (cL (cR hgv)))))))))))
  exact ⟨a, vk_R.of (ht _ (gt4 197 (by decide +kernel))) q1⟩
theorem sr_7 (hgv : (Jvm.Cond.and given_1 narrow_1).before args s = true) (ht : ∀ w ∈ tables_1, w.before args s = true) : ∃ sa, vk_R "PatternLibrary" 398 "no such slot, or it is free" sa s := by
  obtain ⟨a, c, cA, kA, q1, -⟩ := Cond.exactly_spec (args := args) (first := s) (o := none) (s := s) (idx := []) (t := Term.string "PatternLibrary" 398) (cls := "java/lang/String") (cL (cR (cL (cL (cL (cR (cR (cR (cL (cR (cL (cR hgv))))))))))))
  exact ⟨a, vk_R.of (ht _ (gt5 71 (by decide +kernel))) q1⟩
theorem sr_8 (hgv : (Jvm.Cond.and given_1 narrow_1).before args s = true) (ht : ∀ w ∈ tables_1, w.before args s = true) : ∃ sa, vk_R "PatternLibrary" 394 "no such letter" sa s := by
  obtain ⟨a, c, cA, kA, q1, -⟩ := Cond.exactly_spec (args := args) (first := s) (o := none) (s := s) (idx := []) (t := Term.string "PatternLibrary" 394) (cls := "java/lang/String") (cL (cR (cL (cR (cL (cL (cL (cL (cR (cR (cL (cR hgv))))))))))))
  exact ⟨a, vk_R.of (ht _ (gt5 94 (by decide +kernel))) q1⟩
theorem sr_9 (hgv : (Jvm.Cond.and given_1 narrow_1).before args s = true) (ht : ∀ w ∈ tables_1, w.before args s = true) : ∃ sa, vk_R "PatternLibrary" 405 "the buffer is not a word of 0 to 12 letters" sa s := by
  obtain ⟨a, c, cA, kA, q1, -⟩ := Cond.exactly_spec (args := args) (first := s) (o := none) (s := s) (idx := []) (t := Term.string "PatternLibrary" 405) (cls := "java/lang/String") (cL (cL (cL (cL (cR (cL (cL (cR (cR (cL (cR hgv)))))))))))
  exact ⟨a, vk_R.of (ht _ (gt5 123 (by decide +kernel))) q1⟩
theorem sr_10 (hgv : (Jvm.Cond.and given_1 narrow_1).before args s = true) (ht : ∀ w ∈ tables_1, w.before args s = true) : ∃ sa, vk_R "PatternLibrary" 396 "the length is out of range" sa s := by
  obtain ⟨a, c, cA, kA, q1, -⟩ := Cond.exactly_spec (args := args) (first := s) (o := none) (s := s) (idx := []) (t := Term.string "PatternLibrary" 396) (cls := "java/lang/String") (cR (cL (cR (cR (cR (cL (cR (cL (cR (cR (cL (cR hgv))))))))))))
  exact ⟨a, vk_R.of (ht _ (gt5 174 (by decide +kernel))) q1⟩
theorem sr_11 (hgv : (Jvm.Cond.and given_1 narrow_1).before args s = true) (ht : ∀ w ∈ tables_1, w.before args s = true) : ∃ sa, vk_R "PatternLibrary" 288 "no such rank" sa s := by
  obtain ⟨a, c, cA, kA, q1, -⟩ := Cond.exactly_spec (args := args) (first := s) (o := none) (s := s) (idx := []) (t := Term.string "PatternLibrary" 288) (cls := "java/lang/String") (cR (cR (cL (cL (cL (cL (cL (cR (cR (cR (cL (cR hgv))))))))))))
  exact ⟨a, vk_R.of (ht _ (gt6 63 (by decide +kernel))) q1⟩
theorem sr_12 (hgv : (Jvm.Cond.and given_1 narrow_1).before args s = true) (ht : ∀ w ∈ tables_1, w.before args s = true) : ∃ sa, vk_R "PatternLibrary" 297 "no such place" sa s := by
  obtain ⟨a, c, cA, kA, q1, -⟩ := Cond.exactly_spec (args := args) (first := s) (o := none) (s := s) (idx := []) (t := Term.string "PatternLibrary" 297) (cls := "java/lang/String") (cL (cL (cR (cR (cL (cL (cR (cR (cR (cL (cR hgv)))))))))))
  exact ⟨a, vk_R.of (ht _ (gt6 79 (by decide +kernel))) q1⟩
theorem sr_13 (hgv : (Jvm.Cond.and given_1 narrow_1).before args s = true) (ht : ∀ w ∈ tables_1, w.before args s = true) : ∃ sa, vk_R "PatternLibrary" 307 "all slots are free" sa s := by
  obtain ⟨a, c, cA, kA, q1, -⟩ := Cond.exactly_spec (args := args) (first := s) (o := none) (s := s) (idx := []) (t := Term.string "PatternLibrary" 307) (cls := "java/lang/String") (cL (cR (cR (cR (cL (cR (cL (cR (cR (cR (cL (cR hgv))))))))))))
  exact ⟨a, vk_R.of (ht _ (gt6 103 (by decide +kernel))) q1⟩
theorem sr_14 (hgv : (Jvm.Cond.and given_1 narrow_1).before args s = true) (ht : ∀ w ∈ tables_1, w.before args s = true) : ∃ sa, vk_R "PatternLibrary" 313 "there are no sample words" sa s := by
  obtain ⟨a, c, cA, kA, q1, -⟩ := Cond.exactly_spec (args := args) (first := s) (o := none) (s := s) (idx := []) (t := Term.string "PatternLibrary" 313) (cls := "java/lang/String") (cL (cR (cL (cR (cL (cL (cR (cR (cR (cR (cL (cR hgv))))))))))))
  exact ⟨a, vk_R.of (ht _ (gt6 116 (by decide +kernel))) q1⟩
theorem sr_15 (hgv : (Jvm.Cond.and given_1 narrow_1).before args s = true) (ht : ∀ w ∈ tables_1, w.before args s = true) : ∃ sa, vk_R "java/lang/StringIndexOutOfBoundsException" 13 "String index out of range: " sa s := by
  obtain ⟨a, c, cA, kA, q1, -⟩ := Cond.exactly_spec (args := args) (first := s) (o := none) (s := s) (idx := []) (t := Term.string "java/lang/StringIndexOutOfBoundsException" 13) (cls := "java/lang/String") (cR (cR (cR (cR (cL (cR (cR (cR (cR (cR (cL (cR hgv))))))))))))
  exact ⟨a, vk_R.of (ht _ (gt6 142 (by decide +kernel))) q1⟩
theorem sr_16 (hgv : (Jvm.Cond.and given_1 narrow_1).before args s = true) (ht : ∀ w ∈ tables_1, w.before args s = true) : ∃ sa, vk_R "java/util/Arrays" 337 " > " sa s := by
  obtain ⟨a, c, cA, kA, q1, -⟩ := Cond.exactly_spec (args := args) (first := s) (o := none) (s := s) (idx := []) (t := Term.string "java/util/Arrays" 337) (cls := "java/lang/String") (cR (cR (cR (cL (cR (cL (cL (cL (cL (cL (cR (cR hgv))))))))))))
  exact ⟨a, vk_R.of (ht _ (gt7 81 (by decide +kernel))) q1⟩
theorem sr_17 (hgv : (Jvm.Cond.and given_1 narrow_1).before args s = true) (ht : ∀ w ∈ tables_1, w.before args s = true) : ∃ sa, vk_R "java/util/Arrays" 48 "fromIndex(" sa s := by
  obtain ⟨a, c, cA, kA, q1, -⟩ := Cond.exactly_spec (args := args) (first := s) (o := none) (s := s) (idx := []) (t := Term.string "java/util/Arrays" 48) (cls := "java/lang/String") (cR (cR (cR (cR (cR (cL (cL (cL (cL (cL (cR (cR hgv))))))))))))
  exact ⟨a, vk_R.of (ht _ (gt7 122 (by decide +kernel))) q1⟩
theorem sr_18 (hgv : (Jvm.Cond.and given_1 narrow_1).before args s = true) (ht : ∀ w ∈ tables_1, w.before args s = true) : ∃ sa, vk_R "java/util/Arrays" 57 ") > toIndex(" sa s := by
  obtain ⟨a, c, cA, kA, q1, -⟩ := Cond.exactly_spec (args := args) (first := s) (o := none) (s := s) (idx := []) (t := Term.string "java/util/Arrays" 57) (cls := "java/lang/String") (cL (cR (cL (cL (cR (cR (cL (cL (cL (cL (cR (cR hgv))))))))))))
  exact ⟨a, vk_R.of (ht _ (gt7 123 (by decide +kernel))) q1⟩
theorem sr_19 (hgv : (Jvm.Cond.and given_1 narrow_1).before args s = true) (ht : ∀ w ∈ tables_1, w.before args s = true) : ∃ sa, vk_R "java/util/Arrays" 59 ")" sa s := by
  obtain ⟨a, c, cA, kA, q1, -⟩ := Cond.exactly_spec (args := args) (first := s) (o := none) (s := s) (idx := []) (t := Term.string "java/util/Arrays" 59) (cls := "java/lang/String") (cL (cR (cR (cL (cL (cL (cR (cL (cL (cL (cR (cR hgv))))))))))))
  exact ⟨a, vk_R.of (ht _ (gt7 124 (by decide +kernel))) q1⟩
theorem sr_20 (hgv : (Jvm.Cond.and given_1 narrow_1).before args s = true) (ht : ∀ w ∈ tables_1, w.before args s = true) : ∃ sa, vk_R "java/lang/ArrayIndexOutOfBoundsException" 13 "Array index out of range: " sa s := by
  obtain ⟨a, c, cA, kA, q1, -⟩ := Cond.exactly_spec (args := args) (first := s) (o := none) (s := s) (idx := []) (t := Term.string "java/lang/ArrayIndexOutOfBoundsException" 13) (cls := "java/lang/String") (cL (cR (cR (cL (cL (cR (cL (cL (cL (cR (cR hgv)))))))))))
  exact ⟨a, vk_R.of (ht _ (gt7 131 (by decide +kernel))) q1⟩
theorem sr_21 (hgv : (Jvm.Cond.and given_1 narrow_1).before args s = true) (ht : ∀ w ∈ tables_1, w.before args s = true) : ∃ sa, vk_R "PatternLibrary" 336 "no such character" sa s := by
  obtain ⟨a, c, cA, kA, q1, -⟩ := Cond.exactly_spec (args := args) (first := s) (o := none) (s := s) (idx := []) (t := Term.string "PatternLibrary" 336) (cls := "java/lang/String") (cR (cR (cL (cL (cR (cR (cR (cL (cL (cL (cR (cR hgv))))))))))))
  exact ⟨a, vk_R.of (ht _ (gt8 0 (by decide +kernel))) q1⟩
theorem sr_22 (hgv : (Jvm.Cond.and given_1 narrow_1).before args s = true) (ht : ∀ w ∈ tables_1, w.before args s = true) : ∃ sa, vk_R "PatternLibrary" 342 "the character is out of range" sa s := by
  obtain ⟨a, c, cA, kA, q1, -⟩ := Cond.exactly_spec (args := args) (first := s) (o := none) (s := s) (idx := []) (t := Term.string "PatternLibrary" 342) (cls := "java/lang/String") (cL (cR (cR (cR (cL (cL (cL (cR (cL (cL (cR (cR hgv))))))))))))
  exact ⟨a, vk_R.of (ht _ (gt8 18 (by decide +kernel))) q1⟩
theorem sr_23 (hgv : (Jvm.Cond.and given_1 narrow_1).before args s = true) (ht : ∀ w ∈ tables_1, w.before args s = true) : ∃ sa, vk_R "PatternLibrary" 349 "the buffer is full" sa s := by
  obtain ⟨a, c, cA, kA, q1, -⟩ := Cond.exactly_spec (args := args) (first := s) (o := none) (s := s) (idx := []) (t := Term.string "PatternLibrary" 349) (cls := "java/lang/String") (cL (cL (cR (cR (cR (cL (cR (cL (cL (cR (cR hgv)))))))))))
  exact ⟨a, vk_R.of (ht _ (gt8 23 (by decide +kernel))) q1⟩
theorem sr_24 (hgv : (Jvm.Cond.and given_1 narrow_1).before args s = true) (ht : ∀ w ∈ tables_1, w.before args s = true) : ∃ sa, vk_R "PatternLibrary$Text" 94 "set " sa s := by
  obtain ⟨a, c, cA, kA, q1, -⟩ := Cond.exactly_spec (args := args) (first := s) (o := none) (s := s) (idx := []) (t := Term.string "PatternLibrary$Text" 94) (cls := "java/lang/String") (cL (cR (cL (cR (cL (cR (cR (cL (cL (cR (cR hgv)))))))))))
  exact ⟨a, vk_R.of (ht _ (gt8 50 (by decide +kernel))) q1⟩
theorem sr_25 (hgv : (Jvm.Cond.and given_1 narrow_1).before args s = true) (ht : ∀ w ∈ tables_1, w.before args s = true) : ∃ sa, vk_R "PatternLibrary$Text" 96 "or " sa s := by
  obtain ⟨a, c, cA, kA, q1, -⟩ := Cond.exactly_spec (args := args) (first := s) (o := none) (s := s) (idx := []) (t := Term.string "PatternLibrary$Text" 96) (cls := "java/lang/String") (cL (cR (cR (cR (cR (cL (cR (cR (cL (cL (cR (cR hgv))))))))))))
  exact ⟨a, vk_R.of (ht _ (gt8 51 (by decide +kernel))) q1⟩
theorem sr_26 (hgv : (Jvm.Cond.and given_1 narrow_1).before args s = true) (ht : ∀ w ∈ tables_1, w.before args s = true) : ∃ sa, vk_R "PatternLibrary$Text" 98 "then " sa s := by
  obtain ⟨a, c, cA, kA, q1, -⟩ := Cond.exactly_spec (args := args) (first := s) (o := none) (s := s) (idx := []) (t := Term.string "PatternLibrary$Text" 98) (cls := "java/lang/String") (cR (cR (cR (cL (cL (cR (cR (cR (cL (cL (cR (cR hgv))))))))))))
  exact ⟨a, vk_R.of (ht _ (gt8 52 (by decide +kernel))) q1⟩
theorem sr_27 (hgv : (Jvm.Cond.and given_1 narrow_1).before args s = true) (ht : ∀ w ∈ tables_1, w.before args s = true) : ∃ sa, vk_R "PatternLibrary$Text" 100 "star " sa s := by
  obtain ⟨a, c, cA, kA, q1, -⟩ := Cond.exactly_spec (args := args) (first := s) (o := none) (s := s) (idx := []) (t := Term.string "PatternLibrary$Text" 100) (cls := "java/lang/String") (cR (cR (cL (cL (cR (cR (cR (cR (cL (cL (cR (cR hgv))))))))))))
  exact ⟨a, vk_R.of (ht _ (gt8 53 (by decide +kernel))) q1⟩
theorem sr_28 (hgv : (Jvm.Cond.and given_1 narrow_1).before args s = true) (ht : ∀ w ∈ tables_1, w.before args s = true) : ∃ sa, vk_R "PatternLibrary$Text" 102 "drop " sa s := by
  obtain ⟨a, c, cA, kA, q1, -⟩ := Cond.exactly_spec (args := args) (first := s) (o := none) (s := s) (idx := []) (t := Term.string "PatternLibrary$Text" 102) (cls := "java/lang/String") (cL (cR (cR (cR (cR (cR (cR (cR (cL (cL (cR (cR hgv))))))))))))
  exact ⟨a, vk_R.of (ht _ (gt8 54 (by decide +kernel))) q1⟩
theorem sr_29 (hgv : (Jvm.Cond.and given_1 narrow_1).before args s = true) (ht : ∀ w ∈ tables_1, w.before args s = true) : ∃ sa, vk_R "PatternLibrary$Text" 104 "word " sa s := by
  obtain ⟨a, c, cA, kA, q1, -⟩ := Cond.exactly_spec (args := args) (first := s) (o := none) (s := s) (idx := []) (t := Term.string "PatternLibrary$Text" 104) (cls := "java/lang/String") (cL (cR (cL (cR (cL (cL (cL (cL (cR (cL (cR (cR hgv))))))))))))
  exact ⟨a, vk_R.of (ht _ (gt8 55 (by decide +kernel))) q1⟩
theorem sr_30 (hgv : (Jvm.Cond.and given_1 narrow_1).before args s = true) (ht : ∀ w ∈ tables_1, w.before args s = true) : ∃ sa, vk_R "PatternLibrary$Text" 106 "cut " sa s := by
  obtain ⟨a, c, cA, kA, q1, -⟩ := Cond.exactly_spec (args := args) (first := s) (o := none) (s := s) (idx := []) (t := Term.string "PatternLibrary$Text" 106) (cls := "java/lang/String") (cL (cR (cR (cL (cR (cL (cL (cL (cR (cL (cR (cR hgv))))))))))))
  exact ⟨a, vk_R.of (ht _ (gt8 56 (by decide +kernel))) q1⟩
theorem sr_31 (hgv : (Jvm.Cond.and given_1 narrow_1).before args s = true) (ht : ∀ w ∈ tables_1, w.before args s = true) : ∃ sa, vk_R "PatternLibrary" 359 "the program is malformed" sa s := by
  obtain ⟨a, c, cA, kA, q1, -⟩ := Cond.exactly_spec (args := args) (first := s) (o := none) (s := s) (idx := []) (t := Term.string "PatternLibrary" 359) (cls := "java/lang/String") (cR (cR (cR (cR (cR (cL (cL (cL (cR (cL (cR (cR hgv))))))))))))
  exact ⟨a, vk_R.of (ht _ (gt8 90 (by decide +kernel))) q1⟩
theorem sr_32 (hgv : (Jvm.Cond.and given_1 narrow_1).before args s = true) (ht : ∀ w ∈ tables_1, w.before args s = true) : ∃ sa, vk_R "PatternLibrary" 367 "a command failed" sa s := by
  obtain ⟨a, c, cA, kA, q1, -⟩ := Cond.exactly_spec (args := args) (first := s) (o := none) (s := s) (idx := []) (t := Term.string "PatternLibrary" 367) (cls := "java/lang/String") (cR (cR (cL (cL (cL (cL (cR (cL (cR (cL (cR (cR hgv))))))))))))
  exact ⟨a, vk_R.of (ht _ (gt8 116 (by decide +kernel))) q1⟩
theorem sr_33 (hgv : (Jvm.Cond.and given_1 narrow_1).before args s = true) (ht : ∀ w ∈ tables_1, w.before args s = true) : ∃ sa, vk_R "PatternLibrary" 372 "nothing was malformed" sa s := by
  obtain ⟨a, c, cA, kA, q1, -⟩ := Cond.exactly_spec (args := args) (first := s) (o := none) (s := s) (idx := []) (t := Term.string "PatternLibrary" 372) (cls := "java/lang/String") (cR (cL (cR (cR (cR (cL (cR (cL (cR (cL (cR (cR hgv))))))))))))
  exact ⟨a, vk_R.of (ht _ (gt8 124 (by decide +kernel))) q1⟩
theorem sr_34 (hgv : (Jvm.Cond.and given_1 narrow_1).before args s = true) (ht : ∀ w ∈ tables_1, w.before args s = true) : ∃ sa, vk_R "PatternLibrary" 374 "no command failed" sa s := by
  obtain ⟨a, c, cA, kA, q1, -⟩ := Cond.exactly_spec (args := args) (first := s) (o := none) (s := s) (idx := []) (t := Term.string "PatternLibrary" 374) (cls := "java/lang/String") (cR (cL (cR (cR (cR (cR (cR (cL (cR (cL (cR (cR hgv))))))))))))
  exact ⟨a, vk_R.of (ht _ (gt8 132 (by decide +kernel))) q1⟩
theorem sr_35 (hgv : (Jvm.Cond.and given_1 narrow_1).before args s = true) (ht : ∀ w ∈ tables_1, w.before args s = true) : ∃ sa, vk_R "PatternLibrary" 377 "no change can be undone" sa s := by
  obtain ⟨a, c, cA, kA, q1, -⟩ := Cond.exactly_spec (args := args) (first := s) (o := none) (s := s) (idx := []) (t := Term.string "PatternLibrary" 377) (cls := "java/lang/String") (cL (cL (cR (cR (cL (cL (cR (cR (cL (cR (cR hgv)))))))))))
  exact ⟨a, vk_R.of (ht _ (gt8 140 (by decide +kernel))) q1⟩
theorem sr_36 (hgv : (Jvm.Cond.and given_1 narrow_1).before args s = true) (ht : ∀ w ∈ tables_1, w.before args s = true) : ∃ sa, vk_R "PatternLibrary" 385 "there is no saved copy" sa s := by
  obtain ⟨a, c, cA, kA, q1, -⟩ := Cond.exactly_spec (args := args) (first := s) (o := none) (s := s) (idx := []) (t := Term.string "PatternLibrary" 385) (cls := "java/lang/String") (cR (cR (cL (cR (cR (cR (cL (cR (cR (cL (cR (cR hgv))))))))))))
  exact ⟨a, vk_R.of (ht _ (gt8 154 (by decide +kernel))) q1⟩
theorem srs (hgv : (Jvm.Cond.and given_1 narrow_1).before args s = true) (ht : ∀ w ∈ tables_1, w.before args s = true) : ∀ q ∈ SRl, ∃ sa, vk_R q.1 q.2.1 q.2.2 sa s := by
  intro q hq
  unfold SRl at hq
  rcases List.mem_cons.mp hq with rfl | hq
  · exact sr_0 hgv ht
  rcases List.mem_cons.mp hq with rfl | hq
  · exact sr_1 hgv ht
  rcases List.mem_cons.mp hq with rfl | hq
  · exact sr_2 hgv ht
  rcases List.mem_cons.mp hq with rfl | hq
  · exact sr_3 hgv ht
  rcases List.mem_cons.mp hq with rfl | hq
  · exact sr_4 hgv ht
  rcases List.mem_cons.mp hq with rfl | hq
  · exact sr_5 hgv ht
  rcases List.mem_cons.mp hq with rfl | hq
  · exact sr_6 hgv ht
  rcases List.mem_cons.mp hq with rfl | hq
  · exact sr_7 hgv ht
  rcases List.mem_cons.mp hq with rfl | hq
  · exact sr_8 hgv ht
  rcases List.mem_cons.mp hq with rfl | hq
  · exact sr_9 hgv ht
  rcases List.mem_cons.mp hq with rfl | hq
  · exact sr_10 hgv ht
  rcases List.mem_cons.mp hq with rfl | hq
  · exact sr_11 hgv ht
  rcases List.mem_cons.mp hq with rfl | hq
  · exact sr_12 hgv ht
  rcases List.mem_cons.mp hq with rfl | hq
  · exact sr_13 hgv ht
  rcases List.mem_cons.mp hq with rfl | hq
  · exact sr_14 hgv ht
  rcases List.mem_cons.mp hq with rfl | hq
  · exact sr_15 hgv ht
  rcases List.mem_cons.mp hq with rfl | hq
  · exact sr_16 hgv ht
  rcases List.mem_cons.mp hq with rfl | hq
  · exact sr_17 hgv ht
  rcases List.mem_cons.mp hq with rfl | hq
  · exact sr_18 hgv ht
  rcases List.mem_cons.mp hq with rfl | hq
  · exact sr_19 hgv ht
  rcases List.mem_cons.mp hq with rfl | hq
  · exact sr_20 hgv ht
  rcases List.mem_cons.mp hq with rfl | hq
  · exact sr_21 hgv ht
  rcases List.mem_cons.mp hq with rfl | hq
  · exact sr_22 hgv ht
  rcases List.mem_cons.mp hq with rfl | hq
  · exact sr_23 hgv ht
  rcases List.mem_cons.mp hq with rfl | hq
  · exact sr_24 hgv ht
  rcases List.mem_cons.mp hq with rfl | hq
  · exact sr_25 hgv ht
  rcases List.mem_cons.mp hq with rfl | hq
  · exact sr_26 hgv ht
  rcases List.mem_cons.mp hq with rfl | hq
  · exact sr_27 hgv ht
  rcases List.mem_cons.mp hq with rfl | hq
  · exact sr_28 hgv ht
  rcases List.mem_cons.mp hq with rfl | hq
  · exact sr_29 hgv ht
  rcases List.mem_cons.mp hq with rfl | hq
  · exact sr_30 hgv ht
  rcases List.mem_cons.mp hq with rfl | hq
  · exact sr_31 hgv ht
  rcases List.mem_cons.mp hq with rfl | hq
  · exact sr_32 hgv ht
  rcases List.mem_cons.mp hq with rfl | hq
  · exact sr_33 hgv ht
  rcases List.mem_cons.mp hq with rfl | hq
  · exact sr_34 hgv ht
  rcases List.mem_cons.mp hq with rfl | hq
  · exact sr_35 hgv ht
  rcases List.mem_cons.mp hq with rfl | hq
  · exact sr_36 hgv ht
  cases hq
theorem ncs (hgv : (Jvm.Cond.and given_1 narrow_1).before args s = true) : ∀ q ∈ NCl, va_Nc q.1 q.2 s := by
  intro q hq
  unfold NCl at hq
  rcases List.mem_cons.mp hq with rfl | hq
  · exact va_Nc.of (args := args) (C := "java/lang/IndexOutOfBoundsException") (T := "java/lang/IllegalArgumentException") (cR (cL (cR (cR (cR (cR (cL (cL (cR (cL (cL (cR hgv))))))))))))
  rcases List.mem_cons.mp hq with rfl | hq
  · exact va_Nc.of (args := args) (C := "java/lang/IndexOutOfBoundsException") (T := "java/lang/IllegalStateException") (cL (cL (cR (cR (cL (cR (cL (cR (cL (cL (cR hgv)))))))))))
  rcases List.mem_cons.mp hq with rfl | hq
  · exact va_Nc.of (args := args) (C := "java/lang/IndexOutOfBoundsException") (T := "java/util/NoSuchElementException") (cR (cR (cL (cL (cR (cR (cR (cL (cR (cL (cL (cR hgv))))))))))))
  rcases List.mem_cons.mp hq with rfl | hq
  · exact va_Nc.of (args := args) (C := "java/lang/IndexOutOfBoundsException") (T := "java/lang/ArithmeticException") (cL (cR (cR (cR (cL (cL (cL (cR (cR (cL (cL (cR hgv))))))))))))
  rcases List.mem_cons.mp hq with rfl | hq
  · exact va_Nc.of (args := args) (C := "java/lang/IllegalArgumentException") (T := "java/lang/IndexOutOfBoundsException") (cR (cR (cL (cL (cL (cR (cL (cL (cR (cL (cL (cR hgv))))))))))))
  rcases List.mem_cons.mp hq with rfl | hq
  · exact va_Nc.of (args := args) (C := "java/lang/IllegalArgumentException") (T := "java/lang/IllegalStateException") (cL (cR (cL (cR (cR (cL (cR (cL (cR (cL (cL (cR hgv))))))))))))
  rcases List.mem_cons.mp hq with rfl | hq
  · exact va_Nc.of (args := args) (C := "java/lang/IllegalArgumentException") (T := "java/util/NoSuchElementException") (cL (cR (cL (cR (cR (cR (cL (cR (cL (cL (cR hgv)))))))))))
  rcases List.mem_cons.mp hq with rfl | hq
  · exact va_Nc.of (args := args) (C := "java/lang/IllegalArgumentException") (T := "java/lang/ArithmeticException") (cR (cR (cR (cR (cL (cL (cL (cR (cR (cL (cL (cR hgv))))))))))))
  rcases List.mem_cons.mp hq with rfl | hq
  · exact va_Nc.of (args := args) (C := "java/lang/IllegalStateException") (T := "java/lang/IndexOutOfBoundsException") (cR (cR (cR (cL (cL (cR (cL (cL (cR (cL (cL (cR hgv))))))))))))
  rcases List.mem_cons.mp hq with rfl | hq
  · exact va_Nc.of (args := args) (C := "java/lang/IllegalStateException") (T := "java/lang/IllegalArgumentException") (cL (cL (cL (cL (cL (cR (cL (cR (cL (cL (cR hgv)))))))))))
  rcases List.mem_cons.mp hq with rfl | hq
  · exact va_Nc.of (args := args) (C := "java/lang/IllegalStateException") (T := "java/util/NoSuchElementException") (cR (cR (cR (cL (cR (cR (cR (cL (cR (cL (cL (cR hgv))))))))))))
  rcases List.mem_cons.mp hq with rfl | hq
  · exact va_Nc.of (args := args) (C := "java/lang/IllegalStateException") (T := "java/lang/ArithmeticException") (cR (cR (cL (cL (cR (cL (cL (cR (cR (cL (cL (cR hgv))))))))))))
  rcases List.mem_cons.mp hq with rfl | hq
  · exact va_Nc.of (args := args) (C := "java/util/NoSuchElementException") (T := "java/lang/IndexOutOfBoundsException") (cL (cR (cR (cL (cL (cR (cL (cL (cR (cL (cL (cR hgv))))))))))))
  rcases List.mem_cons.mp hq with rfl | hq
  · exact va_Nc.of (args := args) (C := "java/util/NoSuchElementException") (T := "java/lang/IllegalArgumentException") (cR (cR (cR (cR (cR (cR (cL (cL (cR (cL (cL (cR hgv))))))))))))
  rcases List.mem_cons.mp hq with rfl | hq
  · exact va_Nc.of (args := args) (C := "java/util/NoSuchElementException") (T := "java/lang/IllegalStateException") (cL (cL (cR (cR (cR (cL (cR (cL (cR (cL (cL (cR hgv))))))))))))
  rcases List.mem_cons.mp hq with rfl | hq
  · exact va_Nc.of (args := args) (C := "java/util/NoSuchElementException") (T := "java/lang/ArithmeticException") (cL (cR (cL (cL (cR (cL (cL (cR (cR (cL (cL (cR hgv))))))))))))
  rcases List.mem_cons.mp hq with rfl | hq
  · exact va_Nc.of (args := args) (C := "java/lang/ArithmeticException") (T := "java/lang/IndexOutOfBoundsException") (cL (cR (cL (cR (cL (cR (cL (cL (cR (cL (cL (cR hgv))))))))))))
  rcases List.mem_cons.mp hq with rfl | hq
  · exact va_Nc.of (args := args) (C := "java/lang/ArithmeticException") (T := "java/lang/IllegalArgumentException") (cR (cR (cL (cL (cL (cL (cR (cL (cR (cL (cL (cR hgv))))))))))))
  rcases List.mem_cons.mp hq with rfl | hq
  · exact va_Nc.of (args := args) (C := "java/lang/ArithmeticException") (T := "java/lang/IllegalStateException") (cL (cR (cR (cR (cR (cL (cR (cL (cR (cL (cL (cR hgv))))))))))))
  rcases List.mem_cons.mp hq with rfl | hq
  · exact va_Nc.of (args := args) (C := "java/lang/ArithmeticException") (T := "java/util/NoSuchElementException") (cL (cR (cL (cR (cR (cR (cR (cL (cR (cL (cL (cR hgv))))))))))))
  cases hq
theorem nws (ht : ∀ w ∈ tables_1, w.before args s = true) : ∀ w ∈ NW, va_Nw w s := by
  intro w hw
  refine va_Nw.of (NW_tab hw) (A := args) ?_
  unfold NW at hw
  rcases List.mem_append.mp hw with hw | hw
  · unfold NW1 at hw
    rcases List.mem_cons.mp hw with rfl | hw
    · exact (ht _ (gt1 47 (by decide +kernel)))
    rcases List.mem_cons.mp hw with rfl | hw
    · exact (ht _ (gt1 76 (by decide +kernel)))
    rcases List.mem_cons.mp hw with rfl | hw
    · exact (ht _ (gt1 89 (by decide +kernel)))
    rcases List.mem_cons.mp hw with rfl | hw
    · exact (ht _ (gt1 119 (by decide +kernel)))
    rcases List.mem_cons.mp hw with rfl | hw
    · exact (ht _ (gt1 171 (by decide +kernel)))
    rcases List.mem_cons.mp hw with rfl | hw
    · exact (ht _ (gt1 200 (by decide +kernel)))
    rcases List.mem_cons.mp hw with rfl | hw
    · exact (ht _ (gt1 205 (by decide +kernel)))
    rcases List.mem_cons.mp hw with rfl | hw
    · exact (ht _ (gt1 236 (by decide +kernel)))
    rcases List.mem_cons.mp hw with rfl | hw
    · exact (ht _ (gt2 21 (by decide +kernel)))
    rcases List.mem_cons.mp hw with rfl | hw
    · exact (ht _ (gt2 43 (by decide +kernel)))
    rcases List.mem_cons.mp hw with rfl | hw
    · exact (ht _ (gt2 141 (by decide +kernel)))
    rcases List.mem_cons.mp hw with rfl | hw
    · exact (ht _ (gt2 167 (by decide +kernel)))
    rcases List.mem_cons.mp hw with rfl | hw
    · exact (ht _ (gt2 174 (by decide +kernel)))
    rcases List.mem_cons.mp hw with rfl | hw
    · exact (ht _ (gt3 86 (by decide +kernel)))
    rcases List.mem_cons.mp hw with rfl | hw
    · exact (ht _ (gt3 92 (by decide +kernel)))
    rcases List.mem_cons.mp hw with rfl | hw
    · exact (ht _ (gt4 47 (by decide +kernel)))
    rcases List.mem_cons.mp hw with rfl | hw
    · exact (ht _ (gt4 48 (by decide +kernel)))
    rcases List.mem_cons.mp hw with rfl | hw
    · exact (ht _ (gt4 95 (by decide +kernel)))
    rcases List.mem_cons.mp hw with rfl | hw
    · exact (ht _ (gt4 126 (by decide +kernel)))
    rcases List.mem_cons.mp hw with rfl | hw
    · exact (ht _ (gt4 135 (by decide +kernel)))
    rcases List.mem_cons.mp hw with rfl | hw
    · exact (ht _ (gt4 136 (by decide +kernel)))
    cases hw
  rcases List.mem_append.mp hw with hw | hw
  · unfold NW2 at hw
    rcases List.mem_cons.mp hw with rfl | hw
    · exact (ht _ (gt3 224 (by decide +kernel)))
    rcases List.mem_cons.mp hw with rfl | hw
    · exact (ht _ (gt4 17 (by decide +kernel)))
    rcases List.mem_cons.mp hw with rfl | hw
    · exact (ht _ (gt4 58 (by decide +kernel)))
    rcases List.mem_cons.mp hw with rfl | hw
    · exact (ht _ (gt4 165 (by decide +kernel)))
    rcases List.mem_cons.mp hw with rfl | hw
    · exact (ht _ (gt4 181 (by decide +kernel)))
    rcases List.mem_cons.mp hw with rfl | hw
    · exact (ht _ (gt6 96 (by decide +kernel)))
    rcases List.mem_cons.mp hw with rfl | hw
    · exact (ht _ (gt6 179 (by decide +kernel)))
    rcases List.mem_cons.mp hw with rfl | hw
    · exact (ht _ (gt11 131 (by decide +kernel)))
    rcases List.mem_cons.mp hw with rfl | hw
    · exact (ht _ (gt11 132 (by decide +kernel)))
    rcases List.mem_cons.mp hw with rfl | hw
    · exact (ht _ (gt11 133 (by decide +kernel)))
    rcases List.mem_cons.mp hw with rfl | hw
    · exact (ht _ (gt11 134 (by decide +kernel)))
    rcases List.mem_cons.mp hw with rfl | hw
    · exact (ht _ (gt11 135 (by decide +kernel)))
    rcases List.mem_cons.mp hw with rfl | hw
    · exact (ht _ (gt11 136 (by decide +kernel)))
    rcases List.mem_cons.mp hw with rfl | hw
    · exact (ht _ (gt11 137 (by decide +kernel)))
    rcases List.mem_cons.mp hw with rfl | hw
    · exact (ht _ (gt11 138 (by decide +kernel)))
    rcases List.mem_cons.mp hw with rfl | hw
    · exact (ht _ (gt11 139 (by decide +kernel)))
    rcases List.mem_cons.mp hw with rfl | hw
    · exact (ht _ (gt11 140 (by decide +kernel)))
    rcases List.mem_cons.mp hw with rfl | hw
    · exact (ht _ (gt11 141 (by decide +kernel)))
    rcases List.mem_cons.mp hw with rfl | hw
    · exact (ht _ (gt11 142 (by decide +kernel)))
    rcases List.mem_cons.mp hw with rfl | hw
    · exact (ht _ (gt11 143 (by decide +kernel)))
    rcases List.mem_cons.mp hw with rfl | hw
    · exact (ht _ (gt11 144 (by decide +kernel)))
    rcases List.mem_cons.mp hw with rfl | hw
    · exact (ht _ (gt11 145 (by decide +kernel)))
    rcases List.mem_cons.mp hw with rfl | hw
    · exact (ht _ (gt11 146 (by decide +kernel)))
    rcases List.mem_cons.mp hw with rfl | hw
    · exact (ht _ (gt11 147 (by decide +kernel)))
    rcases List.mem_cons.mp hw with rfl | hw
    · exact (ht _ (gt11 148 (by decide +kernel)))
    rcases List.mem_cons.mp hw with rfl | hw
    · exact (ht _ (gt11 149 (by decide +kernel)))
    rcases List.mem_cons.mp hw with rfl | hw
    · exact (ht _ (gt11 150 (by decide +kernel)))
    rcases List.mem_cons.mp hw with rfl | hw
    · exact (ht _ (gt11 151 (by decide +kernel)))
    rcases List.mem_cons.mp hw with rfl | hw
    · exact (ht _ (gt11 152 (by decide +kernel)))
    rcases List.mem_cons.mp hw with rfl | hw
    · exact (ht _ (gt11 153 (by decide +kernel)))
    rcases List.mem_cons.mp hw with rfl | hw
    · exact (ht _ (gt11 154 (by decide +kernel)))
    rcases List.mem_cons.mp hw with rfl | hw
    · exact (ht _ (gt11 155 (by decide +kernel)))
    cases hw
  · unfold NW3 at hw
    rcases List.mem_cons.mp hw with rfl | hw
    · exact (ht _ (gt3 225 (by decide +kernel)))
    rcases List.mem_cons.mp hw with rfl | hw
    · exact (ht _ (gt3 226 (by decide +kernel)))
    rcases List.mem_cons.mp hw with rfl | hw
    · exact (ht _ (gt3 227 (by decide +kernel)))
    rcases List.mem_cons.mp hw with rfl | hw
    · exact (ht _ (gt3 228 (by decide +kernel)))
    rcases List.mem_cons.mp hw with rfl | hw
    · exact (ht _ (gt3 229 (by decide +kernel)))
    rcases List.mem_cons.mp hw with rfl | hw
    · exact (ht _ (gt3 230 (by decide +kernel)))
    rcases List.mem_cons.mp hw with rfl | hw
    · exact (ht _ (gt3 231 (by decide +kernel)))
    rcases List.mem_cons.mp hw with rfl | hw
    · exact (ht _ (gt3 232 (by decide +kernel)))
    cases hw
theorem igJ0 : ∀ k, k < 4 → u_lay RJ0 TJ0 k ∈ GT := fun k hk => match k, hk with
  | 0, _ => gt_of (gt4 4 (by decide +kernel)) rfl
  | 1, _ => gt_of (gt4 6 (by decide +kernel)) rfl
  | 2, _ => gt_of (gt7 100 (by decide +kernel)) rfl
  | 3, _ => gt_of (gt7 102 (by decide +kernel)) rfl
  | k + 4, hk => absurd hk (by omega)
theorem iwJ0 : ∀ w ∈ u_ws RJ0 TJ0 4, w ∈ GT := fun w hw => by
  obtain ⟨k, hk, rfl⟩ := List.mem_map.mp hw
  exact igJ0 k (List.mem_range.mp hk)
theorem igJx00060 : ∀ k, k < 6 → u_lay RJx00060 TJx00060 k ∈ GT := fun k hk => match k, hk with
  | 0, _ => gt_of (gt3 211 (by decide +kernel)) rfl
  | 1, _ => gt_of (gt3 213 (by decide +kernel)) rfl
  | 2, _ => gt_of (gt3 215 (by decide +kernel)) rfl
  | 3, _ => gt_of (gt3 217 (by decide +kernel)) rfl
  | 4, _ => gt_of (gt3 219 (by decide +kernel)) rfl
  | 5, _ => gt_of (gt3 221 (by decide +kernel)) rfl
  | k + 6, hk => absurd hk (by omega)
theorem iwJx00060 : ∀ w ∈ u_ws RJx00060 TJx00060 6, w ∈ GT := fun w hw => by
  obtain ⟨k, hk, rfl⟩ := List.mem_map.mp hw
  exact igJx00060 k (List.mem_range.mp hk)
end ENV
theorem gt_all {args : Array Value} {s : State} (hts : ∀ w ∈ lw_tbl, w.before args s = true) : ∀ w ∈ GT, w.before args s = true := by
  have ht : ∀ w ∈ tables_1, w.before args s = true := fun w hw => hts w (List.mem_append_right _ hw)
  intro w hw
  rcases List.mem_append.mp hw with hw | hw
  · have h2 : (Cond.selects RJ4 ⟨"java/lang/AbstractStringBuilder", "isLatin1", "()Z"⟩ ⟨"java/lang/AbstractStringBuilder", "isLatin1", "()Z"⟩).before args s = true := (ht _ (gt6 186 (by decide +kernel)))
    rcases List.mem_cons.mp hw with rfl | hw
    · exact xt_sel (y2 := ⟨"java/lang/AbstractStringBuilder", "isLatin1", "()Z"⟩) ⟨by decide +kernel, by decide +kernel⟩ rfl h2 (ht _ (gt6 155 (by decide +kernel))) (ht _ (gt6 156 (by decide +kernel)))
    rcases List.mem_cons.mp hw with rfl | hw
    · exact xt_sel (y2 := ⟨"java/lang/AbstractStringBuilder", "isLatin1", "()Z"⟩) ⟨by decide +kernel, by decide +kernel⟩ rfl h2 (ht _ (gt6 159 (by decide +kernel))) (ht _ (gt6 160 (by decide +kernel)))
    cases hw
  · exact hts w (List.mem_filter.mp hw).1
theorem start_env {l : Launch} {s : State} {b L : Nat} {xs : Nat → Int32} (hflags : l.flags = flags0) (hts : ∀ w ∈ lw_tbl, w.before #[Value.ref b] s = true) (hgv : (Jvm.Cond.and given_1 narrow_1).before #[Value.ref b] s = true) (hX : va_X b L xs s s.heap) (hbl : b < s.heap.size) : ∃ G : mG, sB G = b ∧ sL G = L ∧ sX G = xs ∧ va_K G.1 vwCl (tyG G.2.1) s ∧ mEnv l G (fun q => s.heap.size ≤ q) s s.heap := by
  have ht : ∀ w ∈ tables_1, w.before #[Value.ref b] s = true := fun w hw => hts w (List.mem_append_right _ hw)
  have hg := gt_all hts
  have hA : ∀ a : Nat, a < s.heap.size → ¬ (fun q : Nat => s.heap.size ≤ q) a := fun a h => Nat.not_le.mpr h
  obtain ⟨c0, i0, hK0⟩ := u_known (C := RJ0) (T := TJ0) (N := 4) (n := 4) hg iwJ0 (hg _ (gt_of (gt4 3 (by decide +kernel)) rfl))
  obtain ⟨c1, i1, hK1⟩ := u_known (C := RJ4) (T := TJ4) (N := 4) (n := 4) hg iwJ4 (hg _ (gt_of (gt1 137 (by decide +kernel)) rfl))
  obtain ⟨c2, i2, hK2⟩ := u_known (C := RJx00060) (T := TJx00060) (N := 6) (n := 6) hg iwJx00060 (hg _ (gt_of (gt3 170 (by decide +kernel)) rfl))
  obtain ⟨c3, i3, hK3⟩ := u_known (C := RJx7c733) (T := TJx7c733) (N := 6) (n := 6) hg iwJx7c733 (hg _ (gt_of (gt6 136 (by decide +kernel)) rfl))
  obtain ⟨c4, i4, hK4⟩ := u_known (C := RX0) (T := TX0) (N := 9) (n := 9) hg iwX0 (hg _ (gt_of (gt1 199 (by decide +kernel)) rfl))
  obtain ⟨c5, i5, hK5⟩ := u_known (C := RX1) (T := TX1) (N := 3) (n := 3) hg iwX1 (hg _ (gt_of (gt1 69 (by decide +kernel)) rfl))
  obtain ⟨c6, i6, hK6⟩ := u_known (C := RX2) (T := TX2) (N := 4) (n := 4) hg iwX2 (hg _ (gt_of (gt1 118 (by decide +kernel)) rfl))
  obtain ⟨c7, i7, hK7⟩ := u_known (C := RX3) (T := TX3) (N := 5) (n := 5) hg iwX3 (hg _ (gt_of (gt2 20 (by decide +kernel)) rfl))
  obtain ⟨c8, i8, hK8⟩ := u_known (C := RX4) (T := TX4) (N := 3) (n := 3) hg iwX4 (hg _ (gt_of (gt4 130 (by decide +kernel)) rfl))
  obtain ⟨c9, i9, hK9⟩ := u_known (C := RX5) (T := TX5) (N := 7) (n := 7) hg iwX5 (hg _ (gt_of (gt1 170 (by decide +kernel)) rfl))
  obtain ⟨c10, i10, hK10⟩ := u_known (C := RX6) (T := TX6) (N := 4) (n := 4) hg iwX6 (hg _ (gt_of (gt1 46 (by decide +kernel)) rfl))
  obtain ⟨c11, i11, hK11⟩ := u_known (C := RX7) (T := TX7) (N := 6) (n := 6) hg iwX7 (hg _ (gt_of (gt1 235 (by decide +kernel)) rfl))
  obtain ⟨c12, i12, hK12⟩ := u_known (C := RX8) (T := TX8) (N := 3) (n := 3) hg iwX8 (hg _ (gt_of (gt2 42 (by decide +kernel)) rfl))
  obtain ⟨c13, i13, hK13⟩ := u_known (C := RX9) (T := TX9) (N := 7) (n := 7) hg iwX9 (hg _ (gt_of (gt1 88 (by decide +kernel)) rfl))
  obtain ⟨c14, i14, hK14⟩ := u_known (C := RX10) (T := TX10) (N := 1) (n := 1) hg iwX10 (hg _ (gt_of (gt5 27 (by decide +kernel)) rfl))
  obtain ⟨c15, i15, hK15⟩ := u_known (C := RX11) (T := TX11) (N := 17) (n := 17) hg iwX11 (hg _ (gt_of (gt1 38 (by decide +kernel)) rfl))
  obtain ⟨c16, i16, hK16⟩ := u_known (C := RX12) (T := TX12) (N := 50) (n := 50) hg iwX12 (hg _ (gt_of (gt8 160 (by decide +kernel)) rfl))
  obtain ⟨k101, hR101, hS101⟩ := arr_P (t := .boolean) rfl (fun _ => rfl) (fun _ h => by cases h) (ht _ (gt1 197 (by decide +kernel)))
  obtain ⟨k102, hR102, hS102⟩ := arr_P (t := .byte) rfl (fun _ => rfl) (fun _ h => by cases h) (ht _ (gt1 168 (by decide +kernel)))
  obtain ⟨k103, hR103, hS103⟩ := arr_P (t := .char) rfl (fun _ => rfl) (fun _ h => by cases h) (ht _ (gt1 115 (by decide +kernel)))
  obtain ⟨k104, hR104, hS104⟩ := arr_P (t := .int) rfl (fun _ => rfl) (fun _ h => by cases h) (ht _ (gt1 116 (by decide +kernel)))
  obtain ⟨k105, hR105, hS105⟩ := arr_P (t := .long) rfl (fun _ => rfl) (fun _ h => by cases h) (ht _ (gt11 115 (by decide +kernel)))
  obtain ⟨k106, hR106, hS106⟩ := arr_P (t := .double) rfl (fun _ => rfl) (fun _ h => by cases h) (ht _ (gt11 116 (by decide +kernel)))
  obtain ⟨k111, hR111, hS111⟩ := arr_O (C := RX4) (ht _ (gt1 52 (by decide +kernel)))
  obtain ⟨k112, hR112, hS112⟩ := arr_O (C := RX6) (ht _ (gt1 75 (by decide +kernel)))
  obtain ⟨k113, hR113, hS113⟩ := arr_O (C := RX10) (ht _ (gt1 54 (by decide +kernel)))
  obtain ⟨aK, aV, hstr, hev⟩ := strs hgv hA
  refine ⟨((fun k => match k with | 0 => c0 | 1 => c1 | 2 => c2 | 3 => c3 | 4 => c4 | 5 => c5 | 6 => c6 | 7 => c7 | 8 => c8 | 9 => c9 | 10 => c10 | 11 => c11 | 12 => c12 | 13 => c13 | 14 => c14 | 15 => c15 | 16 => c16 | _ => c0, fun k => match k with | 0 => i0 | 1 => i1 | 2 => i2 | 3 => i3 | 4 => i4 | 5 => i5 | 6 => i6 | 7 => i7 | 8 => i8 | 9 => i9 | 10 => i10 | 11 => i11 | 12 => i12 | 13 => i13 | 14 => i14 | 15 => i15 | 16 => i16 | _ => i0), (fun k => match k with | 101 => k101 | 102 => k102 | 103 => k103 | 104 => k104 | 105 => k105 | 106 => k106 | 111 => k111 | 112 => k112 | 113 => k113 | _ => k101), aK, aV, b, L, xs), rfl, rfl, rfl, ⟨fun k q hq => ?_, fun k q hq => ?_⟩, ⟨?_, hstr, ?_, ?_, hA b hbl |> id, hX⟩, ?_, nws ht, ?_, ?_, srs hgv ht, ?_, ?_, ?_, ncs hgv⟩
  · match k, hq with
    | 0, hq => cases hq; exact hK0
    | 1, hq => cases hq; exact hK1
    | 2, hq => cases hq; exact hK2
    | 3, hq => cases hq; exact hK3
    | 4, hq => cases hq; exact hK4
    | 5, hq => cases hq; exact hK5
    | 6, hq => cases hq; exact hK6
    | 7, hq => cases hq; exact hK7
    | 8, hq => cases hq; exact hK8
    | 9, hq => cases hq; exact hK9
    | 10, hq => cases hq; exact hK10
    | 11, hq => cases hq; exact hK11
    | 12, hq => cases hq; exact hK12
    | 13, hq => cases hq; exact hK13
    | 14, hq => cases hq; exact hK14
    | 15, hq => cases hq; exact hK15
    | 16, hq => cases hq; exact hK16
    | k + 17, hq => simp [vwCl] at hq
  · match k, hq with
    | 0, hq => cases hq; exact ⟨hR101, hS101⟩
    | 1, hq => cases hq; exact ⟨hR102, hS102⟩
    | 2, hq => cases hq; exact ⟨hR103, hS103⟩
    | 3, hq => cases hq; exact ⟨hR104, hS104⟩
    | 4, hq => cases hq; exact ⟨hR105, hS105⟩
    | 5, hq => cases hq; exact ⟨hR106, hS106⟩
    | 6, hq => cases hq; exact ⟨hR111, hS111⟩
    | 7, hq => cases hq; exact ⟨hR112, hS112⟩
    | 8, hq => cases hq; exact ⟨hR113, hS113⟩
    | k + 9, hq => simp [tyG, tyL] at hq
  · intro j q hq
    refine vk_R.of (A := #[Value.ref b]) ?_ (hev j q hq)
    match j, hq with
    | 0, hq => cases hq; exact (ht _ (gt8 50 (by decide +kernel)))
    | 1, hq => cases hq; exact (ht _ (gt8 51 (by decide +kernel)))
    | 2, hq => cases hq; exact (ht _ (gt8 52 (by decide +kernel)))
    | 3, hq => cases hq; exact (ht _ (gt8 53 (by decide +kernel)))
    | 4, hq => cases hq; exact (ht _ (gt8 54 (by decide +kernel)))
    | 5, hq => cases hq; exact (ht _ (gt8 55 (by decide +kernel)))
    | 6, hq => cases hq; exact (ht _ (gt8 56 (by decide +kernel)))
    | j + 7, hq => simp [sIx] at hq
  · exact va_Zof (ht _ (gt1 146 (by decide +kernel))) (ht _ (gt1 8 (by decide +kernel))) (va_eqi (cR (cR (cL (cL (cL (cL (cL (cL (cL (cL (cL (cR hgv))))))))))))) hA
  · exact va_Zqof (ht _ (gt6 201 (by decide +kernel))) (ht _ (gt1 32 (by decide +kernel))) (cR (cR (cR (cL (cL (cL (cL (cL (cL (cL (cL (cR hgv)))))))))))) hA
  · show (!l.flags.contains noTraceFlag) = false
    rw [hflags]
    decide +kernel
  · exact vx_Zqof (ht _ (gt3 187 (by decide +kernel))) (ht _ (gt1 16 (by decide +kernel))) (cL (cR (cL (cL (cL (cL (cL (cL (cL (cL (cR hgv))))))))))) hA
  · exact vx_Zqof (ht _ (gt3 189 (by decide +kernel))) (ht _ (gt1 16 (by decide +kernel))) (cL (cR (cR (cL (cL (cL (cL (cL (cL (cL (cL (cR hgv)))))))))))) hA
  · exact va_AO.of (ht _ (gt1 52 (by decide +kernel)))
  · exact va_AO.of (ht _ (gt1 75 (by decide +kernel)))
  · exact va_AO.of (ht _ (gt1 54 (by decide +kernel)))
set_option maxRecDepth 100000 in
theorem law_body {l : Launch} {G : mG} {N : Nat} (hL : sL G ≤ 2048) (FL : FLaw) : mW l G m_L_law 12 603072 7190633 0 [some (.ref (sB G)), none, none, none, none, none, none, none, none] [] (eH N) (fun v _ => v = some (.int 1)) (fun _ _ => False) := by
  obtain ⟨h1, h2, I, e1, e2, hi, hok, hup, hops⟩ := FL N
  refine q_room (d' := 12) (mc' := (108 + (1 + (33 + (512 * 21 + 2)))) + 1) (ms' := (55310 + (7125 + (512 * 2586 + 2) + 50)) + 17) (Nat.le_refl _) (by decide) (by decide) ?_
  refine r_new dL_law_0 CL_8 rfl rfl ?_
  refine q_dup dL_law_3 ?_
  refine r_callI0 dL_law_4 KL_170 (c_X11_init e1) (by decide) (Nat.le_of_ble_eq_true rfl) (fun _ _ q => q.elim) ?_
  rintro _ _ ⟨rfl, rfl⟩
  refine q_astore_n dL_law_7 (by decide) ?_
  refine q_room (d' := 12) (mc' := (33 + (512 * 21 + 2)) + 1) (ms' := (7125 + (512 * 2586 + 2)) + 50) (Nat.le_refl _) (by decide) (by decide) ?_
  refine r_new dL_law_8 CL_171 rfl rfl ?_
  refine q_dup dL_law_11 ?_
  refine r_callI0 dL_law_12 KL_173 (c_X12_init e2) (by decide) (Nat.le_of_ble_eq_true rfl) (fun _ _ q => q.elim) ?_
  rintro _ _ ⟨rfl, rfl⟩
  refine q_astore_n dL_law_15 (by decide) ?_
  refine q_iconst dL_law_16 ?_
  refine q_room (d' := 12) (mc' := (512 * 21 + 1) + 1) (ms' := (512 * 2586 + 1) + 1) (Nat.le_refl _) (by decide) (by decide) ?_
  refine r_newarray (n := 1) (t0 := 4) dL_law_17 W_long rfl rfl (by decide) ⟨by decide, by decide +kernel⟩ (by decide) rfl rfl ?_
  refine q_astore_n dL_law_19 (by decide) ?_
  refine q_iconst dL_law_20 ?_
  refine q_room (d' := 12) (mc' := (512 * 21) + 1) (ms' := (512 * 2586) + 1) (Nat.le_refl _) (by decide) (by decide) ?_
  refine r_newarray (n := 1) (t0 := 5) dL_law_21 W_double rfl rfl (by decide) ⟨by decide, by decide +kernel⟩ (by decide) rfl rfl ?_
  refine q_astore dL_law_23 (by decide) ?_
  refine q_iconst dL_law_25 ?_
  refine q_istore dL_law_26 (by decide) ?_
  exact law_loop (x := N) (m := nx h1) (o := nx h2) (od := nx h2 + 1) (I := I) hL hok hup hops 512 0 _ (by omega) (by omega) hi
theorem whole_start (FL : FLaw) {p : Program} {e : Env} {s : State} {m : MethodId} {below : List Frame} {meth : Method} {c : Code} (l : Launch) (hflags : l.flags = flags0) {b L : Nat} {xs : Nat → Int32} (hL : L ≤ 2048) (htab : c.exceptionTable.toList = []) (hname : meth.name = "law") (C0 : lw_At p s m meth c b L xs) : W p l e room_1 s m #[Value.ref b] below meth c s.heap [] 0 0 (lw_Z below #[Value.ref b] s) (entryFrame m ([Value.ref b] : List Value).toArray 9) := by
  obtain ⟨hx, hb, hr, hml, hown, hts, hX, hbl, hlocks, hgv⟩ := C0
  obtain ⟨G, g1, g2, g3, hK, hE⟩ := start_env hflags hts hgv hX hbl
  have hbody := law_body (l := l) (G := G) (N := s.heap.size) (by rw [g2]; exact hL) FL
  rw [lg_entry_eq]
  have hls := mLs_entry (av := [Value.ref b]) (n := 9) (ac_c rfl ac_0) (Nat.le_of_ble_eq_true rfl)
  rw [← g1] at hls ⊢
  have k := hbody p e room_1 s m #[Value.ref (sB G)] below meth c (fun q => s.heap.size ≤ q) s.heap [] 0 0 603072 7190633 _ ⟨hx, hb, hr, hml, hown, by rw [g1]; exact gt_all hts, hlocks, by rw [htab]; rfl, hname, hK, hE, fun _ h => h⟩ ⟨by decide, by decide, by decide, by decide, Nat.le_refl _, Nat.le_refl _⟩ mRel_e va_S.rf hls
  intro T hT X
  obtain ⟨t, a1, b1⟩ := k T hT X
  exact ⟨t, a1, lw_of_mq (fun _ h => h) b1⟩

set_option maxHeartbeats 4000000 in
theorem lw_walk (FL : FLaw) (l : Launch) (hflags : l.flags = flags0) (b : Addr) (xs : List Int32) : MetFree l x (headSpec (Jvm.Cond.code x code maxLocals ret :: tables_1) room_1) (lw_P b xs) (fun _ _ _ _ _ => True) lw_Q := by
  refine MetFree.of_bodyS (code := code) (maxLocals := maxLocals) (ret := ret) (by decide) ?_ ?_
  · intro args s m h hn
    obtain ⟨meth, c, h1, h2, h3, h4, h5, h6, -, -⟩ := Cond.code_spec hn (atoms_spec (ws := Jvm.Cond.code x code maxLocals ret :: tables_1) h _ List.mem_cons_self)
    exact ⟨meth, c, h1, h2, h3, h4, h5, h6⟩
  · intro p e s m args below meth c s₁ B hml0 hP _
    obtain ⟨rfl, hx, hbd, hgv⟩ := hP
    obtain ⟨scr, harrAt, hlist, hof, hsmall⟩ := hx
    obtain ⟨hcb, hkn, -, -⟩ := State.arrayAt?_spec harrAt
    have hown : s.vm.findClass R_law = some m.cls := findClass_of_methodNamed B.named
    have hts0 : ∀ c ∈ (Jvm.Cond.code x code maxLocals ret :: tables_1), c.before #[Value.ref b] s = true := atoms_spec (ws := Jvm.Cond.code x code maxLocals ret :: tables_1) B.pre
    have hts : ∀ w ∈ lw_tbl, w.before #[Value.ref b] s = true := k2_hts_sels lw_privs (fun w hw => hts0 w (List.mem_cons_of_mem _ hw)) lw_privs_ok
    have hml : c.maxLocals = 9 := B.maxLocals_eq (hts0 _ List.mem_cons_self)
    have htab : c.exceptionTable.toList = [] := by
      obtain ⟨meth9, c9, h1, h2, -, -, -, -, h7, -⟩ := Cond.code_spec B.named (hts0 _ List.mem_cons_self)
      cases Option.some.inj (h1.symm.trans B.method)
      cases Option.some.inj (h2.symm.trans (Stand.of_body B).code)
      rw [Array.isEmpty_iff.mp h7]
    have hname : meth.name = "law" := (name_of_methodNamed B.named B.method).1
    have X₀ : Stand p l e room_1 s m #[Value.ref b] below meth c s₁ [] 0 0 := Stand.of_body B
    have hh0 : s₁.heap = s.heap := by rw [B.state]; rfl
    have hsz : scr.slots.size = xs.length := by rw [← Array.length_toList, hlist, List.length_map]
    have hval : ∀ j : Nat, j < xs.length → scr.slots[j]? = some (.int (xs.getD j 0)) := fun j hj => by
      rw [← Array.getElem?_toList, hlist]
      simp [hj]
    have hbl : b < s.heap.size := (Array.getElem?_eq_some_iff.mp hcb).1
    have hX : va_X b xs.length (fun j => xs.getD j 0) s s.heap := ⟨scr, hcb, hof, hkn, hsz, hval⟩
    have K : W p l e room_1 s m #[Value.ref b] below meth c s₁.heap [] 0 0 (lw_Z below #[Value.ref b] s) (entryFrame m ([Value.ref b] : List Value).toArray 9) := by
      rw [hh0]
      exact whole_start FL l hflags hbd htab hname ⟨B.exec, B.bytes, B.returns, hml, hown, hts, hX, hbl, B.notSynchronized, hgv⟩
    obtain ⟨t, a1, o, b1, b2, b3⟩ := K s₁ rfl X₀
    exact ⟨t, o, a1, b1, b2, b3⟩
theorem lw_pre_spec {args : Array Value} {s : State} (h : (Jvm.Cond.and given_1 narrow_1).before args s = true) (hr : rest_1_c.before args s = true) : ∃ (b : Addr) (xs : List Int32), lw_P b xs args s := by
  have hs := flat_of_before _ h
  have hq := flat_of_before _ hr
  have hc : (Cond.count 1).before args s = true := hs _ (by decide +kernel)
  have harr : (Cond.arrayOf (.arg 0) .int).before args s = true := hs _ (by decide +kernel)
  have hle : (Cond.le (.length (.arg 0)) (.int 2048)).before args s = true := hs _ (by decide +kernel)
  have hlen : (Cond.isInt (.length (.arg 0))).before args s = true := hq _ (by decide +kernel)
  have hall : (Cond.all (.arg 0) (.isInt (.elem (.arg 0) (.index 0)))).before args s = true := hq _ (by decide +kernel)
  obtain ⟨b, xs, hb, hx⟩ := State.ints_of_pre rfl harr hlen hall
  have hsm : xs.length < 2 ^ 31 := hx.choose_spec.2.2.2
  have hev : (Term.length (.arg 0)).eval args s none [] s = some (.int xs.length.toInt32) := hx.length_eval hb
  have hv := Cond.le_ints hev (show (Term.int 2048).eval args s none [] s = some (.int 2048) from rfl)
  have hd : xs.length.toInt32 ≤ 2048 := by
    simpa [Cond.before, Cond.holds, hv] using hle
  have hN : xs.length ≤ 2048 := (Int32.ofNat_le_ofNat hsm (by decide)).mp (show Int32.ofNat xs.length ≤ Int32.ofNat 2048 from hd)
  exact ⟨b, xs, Cond.one_arg hc (show args[0]? = some (.ref b) from hb), hx, hN, h⟩
theorem lw_comes (FL : FLaw) (l : Launch) (hflags : l.flags = flags0) : Comes l x (Jvm.Cond.code x code maxLocals ret :: tables_1) room_1 (fun tb e args s => Calls_1 tb e args s ∧ rest_1 tb e args s ∧ Pre_1 tb e args s)
    (fun _ _ args s o t => lw_Q args s o t) := by
  intro p e ha hc hk s m args below hf hfit hheap happ hpre
  obtain ⟨b, xs, hP⟩ := lw_pre_spec hpre.2.2 hpre.2.1
  obtain ⟨k, o, h1, h2, h3, hQ⟩ := lw_walk FL l hflags b xs p e ha hc hk s m args below hf ((Spec.applies_iff_loose hf).mp happ).1 hP trivial
  exact ⟨k, o, h1, h2, h3, hQ⟩
theorem lw_frame {s t : State} {o : Outcome} {args : Array Value} (h : State.butDraws s t lw_cs (fun t1 => Framed s o t1 [] 603072 7190633)) :
    State.butDraws s t [Jvm.Choice.named "NaN.bits"] (fun t1 => Framed s o t1 (fieldLocs frame_1_writes args s ++ arrayLocs frame_1_arrays args s ++ staticLocs frame_1_statics s) 603072 7190633) := h
theorem lw_limb (FL : FLaw) (L : Cond) (hL : ∀ (args : Array Value) (s t : State), L.after args s (.returned (some (.int 1))) t = true) :
    ArmFor flags0 classFile x code maxLocals ret World_1 tables_1 room_1 Calls_1 rest_1 Pre_1
      (fun tb e a s o t => postC L tb e a s o t ∧ State.butDraws s t [Jvm.Choice.named "NaN.bits"] (fun t1 => Framed s o t1 (fieldLocs frame_1_writes a s ++ arrayLocs frame_1_arrays a s ++ staticLocs frame_1_statics s) 603072 7190633)) := by
  intro l hflags _ _ p e ha hc hk s m args below hf hfit hheap happ hpre
  obtain ⟨k, o, h1, h2, h3, rfl, hF⟩ := lw_comes FL l hflags p e ha hc hk s m args below hf hfit hheap happ hpre
  exact ⟨k, _, h1, h2, h3, hL args s _, lw_frame hF⟩
theorem i_vc_of (FL : FLaw) : Claimed_1_1 ∧ Claimed_1_2 := ⟨lw_limb FL limb_1_1 (fun args s t => by simp [limb_1_1, Cond.after, Cond.holds, Cond.value]), lw_limb FL limb_1_2 (fun args s t => Cond.after_iff.mpr (by
  first | (rw [show limb_1_2 = Cond.eq .result (.int 1) from rfl, Cond.eq_ints (x := 1) (y := 1) rfl rfl]; simp; done) | (simp [limb_1_2, Cond.value, Term.eval]; done)))⟩

