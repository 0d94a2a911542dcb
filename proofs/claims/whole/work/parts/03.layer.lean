/-! the tables' words that stay good in every frame; before them two words that follow: a private method is selected on the class below too -/
def XT : List Cond := [Cond.selects RJ4 yJ5_ensureCapacityInternal_d00df yJ5_ensureCapacityInternal_d00df, Cond.selects RJ4 yJ5_newCapacity_0f7a4 yJ5_newCapacity_0f7a4]
def GT : List Cond := XT ++ lw_tbl.filter goodWord
theorem gt_gw {w : Cond} (h : w ∈ GT) : goodWord w = true := (List.mem_append.mp h).elim (fun q => by
  rcases List.mem_cons.mp q with rfl | q
  · rfl
  · rcases List.mem_cons.mp q with rfl | q
    · rfl
    · cases q) (fun q => (List.mem_filter.mp q).2)
theorem gt_of {w : Cond} (h : w ∈ tables_1) (g : goodWord w = true) : w ∈ GT := List.mem_append_right _ (List.mem_filter.mpr ⟨List.mem_append_right _ h, g⟩)
theorem gt1 (i : Nat) {w : Cond} (h : tables_1_1[i]? = some w) : w ∈ tables_1 := List.mem_append_left _ (List.mem_of_getElem? h)
theorem gt2 (i : Nat) {w : Cond} (h : tables_1_2[i]? = some w) : w ∈ tables_1 := List.mem_append_right _ (List.mem_append_left _ (List.mem_of_getElem? h))
theorem gt3 (i : Nat) {w : Cond} (h : tables_1_3[i]? = some w) : w ∈ tables_1 := List.mem_append_right _ (List.mem_append_right _ (List.mem_append_left _ (List.mem_of_getElem? h)))
theorem gt4 (i : Nat) {w : Cond} (h : tables_1_4[i]? = some w) : w ∈ tables_1 := List.mem_append_right _ (List.mem_append_right _ (List.mem_append_right _ (List.mem_append_left _ (List.mem_of_getElem? h))))
theorem gt5 (i : Nat) {w : Cond} (h : tables_1_5[i]? = some w) : w ∈ tables_1 := List.mem_append_right _ (List.mem_append_right _ (List.mem_append_right _ (List.mem_append_right _ (List.mem_append_left _ (List.mem_of_getElem? h)))))
theorem gt6 (i : Nat) {w : Cond} (h : tables_1_6[i]? = some w) : w ∈ tables_1 := List.mem_append_right _ (List.mem_append_right _ (List.mem_append_right _ (List.mem_append_right _ (List.mem_append_right _ (List.mem_append_left _ (List.mem_of_getElem? h))))))
theorem gt7 (i : Nat) {w : Cond} (h : tables_1_7[i]? = some w) : w ∈ tables_1 := List.mem_append_right _ (List.mem_append_right _ (List.mem_append_right _ (List.mem_append_right _ (List.mem_append_right _ (List.mem_append_right _ (List.mem_append_left _ (List.mem_of_getElem? h)))))))
theorem gt8 (i : Nat) {w : Cond} (h : tables_1_8[i]? = some w) : w ∈ tables_1 := List.mem_append_right _ (List.mem_append_right _ (List.mem_append_right _ (List.mem_append_right _ (List.mem_append_right _ (List.mem_append_right _ (List.mem_append_right _ (List.mem_append_left _ (List.mem_of_getElem? h))))))))
theorem gt9 (i : Nat) {w : Cond} (h : tables_1_9[i]? = some w) : w ∈ tables_1 := List.mem_append_right _ (List.mem_append_right _ (List.mem_append_right _ (List.mem_append_right _ (List.mem_append_right _ (List.mem_append_right _ (List.mem_append_right _ (List.mem_append_right _ (List.mem_append_left _ (List.mem_of_getElem? h)))))))))
theorem gt10 (i : Nat) {w : Cond} (h : tables_1_10[i]? = some w) : w ∈ tables_1 := List.mem_append_right _ (List.mem_append_right _ (List.mem_append_right _ (List.mem_append_right _ (List.mem_append_right _ (List.mem_append_right _ (List.mem_append_right _ (List.mem_append_right _ (List.mem_append_right _ (List.mem_append_left _ (List.mem_of_getElem? h))))))))))
theorem gt11 (i : Nat) {w : Cond} (h : tables_1_11[i]? = some w) : w ∈ tables_1 := List.mem_append_right _ (List.mem_append_right _ (List.mem_append_right _ (List.mem_append_right _ (List.mem_append_right _ (List.mem_append_right _ (List.mem_append_right _ (List.mem_append_right _ (List.mem_append_right _ (List.mem_append_right _ (List.mem_of_getElem? h))))))))))
theorem gt_sel {y : MethodName} (i : Nat) {q : MethodName × Nat} (h : lw_privs[i]? = some q) (e : q.1 = y) : Cond.selects y.cls y y ∈ GT := List.mem_append_right _ (List.mem_filter.mpr ⟨List.mem_append_left _ (List.mem_map.mpr ⟨q, List.mem_of_getElem? h, by rw [e]⟩), rfl⟩)
def NW1 : List Cond := [Cond.methodLinkNest "PatternLibrary" 9 ⟨"PatternLibrary$Shelf", "<init>", "()V"⟩ "PatternLibrary", Cond.methodLinkNest "PatternLibrary$History" 24 ⟨"PatternLibrary$Shelf", "<init>", "()V"⟩ "PatternLibrary", Cond.methodLinkNest "PatternLibrary" 28 ⟨"PatternLibrary$Text", "<init>", "()V"⟩ "PatternLibrary", Cond.methodLinkNest "PatternLibrary" 35 ⟨"PatternLibrary$Notation", "<init>", "()V"⟩ "PatternLibrary", Cond.methodLinkNest "PatternLibrary" 49 ⟨"PatternLibrary$Positions", "<init>", "()V"⟩ "PatternLibrary", Cond.methodLinkNest "PatternLibrary" 56 ⟨"PatternLibrary$Automaton", "<init>", "()V"⟩ "PatternLibrary", Cond.methodLinkNest "PatternLibrary$Automaton" 11 ⟨"PatternLibrary$Positions", "<init>", "()V"⟩ "PatternLibrary", Cond.methodLinkNest "PatternLibrary" 66 ⟨"PatternLibrary$Smallest", "<init>", "()V"⟩ "PatternLibrary", Cond.methodLinkNest "PatternLibrary" 76 ⟨"PatternLibrary$Pairs", "<init>", "()V"⟩ "PatternLibrary", Cond.methodLinkNest "PatternLibrary" 83 ⟨"PatternLibrary$Spans", "<init>", "()V"⟩ "PatternLibrary", Cond.methodLinkNest "PatternLibrary$Shelf" 30 ⟨"PatternLibrary", "isSlot", "(I)Z"⟩ "PatternLibrary", Cond.methodLinkNest "PatternLibrary$Positions" 50 ⟨"PatternLibrary", "isLetter", "(C)Z"⟩ "PatternLibrary", Cond.methodLinkNest "PatternLibrary$Positions" 58 ⟨"PatternLibrary", "isSign", "(C)Z"⟩ "PatternLibrary", Cond.methodLinkNest "PatternLibrary$Spans" 35 ⟨"PatternLibrary", "isLetter", "(C)Z"⟩ "PatternLibrary", Cond.methodLinkNest "PatternLibrary$Spans" 43 ⟨"PatternLibrary", "isSign", "(C)Z"⟩ "PatternLibrary", Cond.methodLinkNest "PatternLibrary$Text" 39 ⟨"PatternLibrary", "isLetter", "(C)Z"⟩ "PatternLibrary", Cond.methodLinkNest "PatternLibrary$Text" 115 ⟨"PatternLibrary", "isSign", "(C)Z"⟩ "PatternLibrary", Cond.methodLinkNest "PatternLibrary$Notation" 42 ⟨"PatternLibrary", "isLetter", "(C)Z"⟩ "PatternLibrary", Cond.methodLinkNest "PatternLibrary$Notation" 106 ⟨"PatternLibrary", "isSign", "(C)Z"⟩ "PatternLibrary", Cond.methodLinkNest "PatternLibrary$Pattern" 15 ⟨"PatternLibrary", "isLetter", "(C)Z"⟩ "PatternLibrary", Cond.methodLinkNest "PatternLibrary$Pattern" 19 ⟨"PatternLibrary", "isSign", "(C)Z"⟩ "PatternLibrary"]
def NW2 : List Cond := [Cond.castable "java/lang/ArrayIndexOutOfBoundsException" "java/lang/ArrayIndexOutOfBoundsException", Cond.castable "java/lang/IndexOutOfBoundsException" "java/lang/IndexOutOfBoundsException", Cond.castable "java/lang/IllegalArgumentException" "java/lang/IllegalArgumentException", Cond.castable "java/util/NoSuchElementException" "java/util/NoSuchElementException", Cond.castable "java/lang/IllegalStateException" "java/lang/IllegalStateException", Cond.castable "java/lang/ArithmeticException" "java/lang/ArithmeticException", Cond.castable "[B" "java/lang/Cloneable", Cond.castable "java/lang/ArrayIndexOutOfBoundsException" "java/lang/IndexOutOfBoundsException", Cond.castable "java/lang/StringIndexOutOfBoundsException" "java/lang/IndexOutOfBoundsException", Cond.castable "PatternLibrary" "java/lang/Object", Cond.castable "PatternLibrary$Shelf" "java/lang/Object", Cond.castable "PatternLibrary$History" "java/lang/Object", Cond.castable "PatternLibrary$Text" "java/lang/Object", Cond.castable "PatternLibrary$Notation" "java/lang/Object", Cond.castable "java/lang/StringBuilder" "java/lang/Object", Cond.castable "PatternLibrary$Positions" "java/lang/Object", Cond.castable "PatternLibrary$Automaton" "java/lang/Object", Cond.castable "PatternLibrary$Smallest" "java/lang/Object", Cond.castable "PatternLibrary$Pairs" "java/lang/Object", Cond.castable "PatternLibrary$Spans" "java/lang/Object", Cond.castable "PatternLibraryModel" "java/lang/Object", Cond.castable "java/lang/ArrayIndexOutOfBoundsException" "java/lang/Object", Cond.castable "java/lang/IndexOutOfBoundsException" "java/lang/Object", Cond.castable "java/lang/IllegalArgumentException" "java/lang/Object", Cond.castable "PatternLibrary$Pattern" "java/lang/Object", Cond.castable "java/util/NoSuchElementException" "java/lang/Object", Cond.castable "java/lang/IllegalStateException" "java/lang/Object", Cond.castable "PatternLibrary$Word" "java/lang/Object", Cond.castable "java/lang/ArithmeticException" "java/lang/Object", Cond.castable "java/lang/StringIndexOutOfBoundsException" "java/lang/Object", Cond.castable "java/lang/String" "java/lang/Object", Cond.castable "java/lang/Throwable" "java/lang/Object"]
def NW3 : List Cond := [Cond.declares ⟨"java/lang/IndexOutOfBoundsException", "<init>", "()V"⟩, Cond.declares ⟨"java/lang/IndexOutOfBoundsException", "<init>", "(Ljava/lang/String;)V"⟩, Cond.declares ⟨"java/lang/RuntimeException", "<init>", "()V"⟩, Cond.declares ⟨"java/lang/RuntimeException", "<init>", "(Ljava/lang/String;)V"⟩, Cond.declares ⟨"java/lang/Exception", "<init>", "()V"⟩, Cond.declares ⟨"java/lang/Exception", "<init>", "(Ljava/lang/String;)V"⟩, Cond.declares ⟨"java/lang/Throwable", "<init>", "()V"⟩, Cond.declares ⟨"java/lang/Throwable", "<init>", "(Ljava/lang/String;)V"⟩]
def NW : List Cond := NW1 ++ (NW2 ++ NW3)
def SRl : List (String × Nat × String) := [("PatternLibrary", 109, "no such slot"), ("PatternLibrary", 127, "the buffer is not a pattern"), ("PatternLibrary", 407, "the slot is free"), ("PatternLibrary", 409, "the pattern is too large"), ("PatternLibrary", 411, "the buffer is not a word of 1 to 8 letters"), ("PatternLibrary", 413, "there are 8 sample words"), ("PatternLibrary", 403, "no such sample word"), ("PatternLibrary", 398, "no such slot, or it is free"), ("PatternLibrary", 394, "no such letter"), ("PatternLibrary", 405, "the buffer is not a word of 0 to 12 letters"), ("PatternLibrary", 396, "the length is out of range"), ("PatternLibrary", 288, "no such rank"), ("PatternLibrary", 297, "no such place"), ("PatternLibrary", 307, "all slots are free"), ("PatternLibrary", 313, "there are no sample words"), ("java/lang/StringIndexOutOfBoundsException", 13, "String index out of range: "), ("java/util/Arrays", 337, " > "), ("java/util/Arrays", 48, "fromIndex("), ("java/util/Arrays", 57, ") > toIndex("), ("java/util/Arrays", 59, ")"), ("java/lang/ArrayIndexOutOfBoundsException", 13, "Array index out of range: "), ("PatternLibrary", 336, "no such character"), ("PatternLibrary", 342, "the character is out of range"), ("PatternLibrary", 349, "the buffer is full"), ("PatternLibrary$Text", 94, "set "), ("PatternLibrary$Text", 96, "or "), ("PatternLibrary$Text", 98, "then "), ("PatternLibrary$Text", 100, "star "), ("PatternLibrary$Text", 102, "drop "), ("PatternLibrary$Text", 104, "word "), ("PatternLibrary$Text", 106, "cut "), ("PatternLibrary", 359, "the program is malformed"), ("PatternLibrary", 367, "a command failed"), ("PatternLibrary", 372, "nothing was malformed"), ("PatternLibrary", 374, "no command failed"), ("PatternLibrary", 377, "no change can be undone"), ("PatternLibrary", 385, "there is no saved copy")]
def NCl : List (String × String) := [("java/lang/IndexOutOfBoundsException", "java/lang/IllegalArgumentException"), ("java/lang/IndexOutOfBoundsException", "java/lang/IllegalStateException"), ("java/lang/IndexOutOfBoundsException", "java/util/NoSuchElementException"), ("java/lang/IndexOutOfBoundsException", "java/lang/ArithmeticException"), ("java/lang/IllegalArgumentException", "java/lang/IndexOutOfBoundsException"), ("java/lang/IllegalArgumentException", "java/lang/IllegalStateException"), ("java/lang/IllegalArgumentException", "java/util/NoSuchElementException"), ("java/lang/IllegalArgumentException", "java/lang/ArithmeticException"), ("java/lang/IllegalStateException", "java/lang/IndexOutOfBoundsException"), ("java/lang/IllegalStateException", "java/lang/IllegalArgumentException"), ("java/lang/IllegalStateException", "java/util/NoSuchElementException"), ("java/lang/IllegalStateException", "java/lang/ArithmeticException"), ("java/util/NoSuchElementException", "java/lang/IndexOutOfBoundsException"), ("java/util/NoSuchElementException", "java/lang/IllegalArgumentException"), ("java/util/NoSuchElementException", "java/lang/IllegalStateException"), ("java/util/NoSuchElementException", "java/lang/ArithmeticException"), ("java/lang/ArithmeticException", "java/lang/IndexOutOfBoundsException"), ("java/lang/ArithmeticException", "java/lang/IllegalArgumentException"), ("java/lang/ArithmeticException", "java/lang/IllegalStateException"), ("java/lang/ArithmeticException", "java/util/NoSuchElementException")]
def isNest : Cond → Bool
  | .methodLinkNest .. => true
  | .castable .. => true
  | .declares .. => true
  | _ => false
theorem NW_nest : NW.all isNest = true := by decide +kernel
theorem NW_warm {w : Cond} (h : w ∈ NW) {s U : State} (hW : s.WarmedH U.vm) (hZ : va_Nw w s) : va_Nw w U := by
  have h1 := List.all_eq_true.mp NW_nest w h
  cases w with
  | methodLinkNest => exact va_Nw.warmM hW hZ
  | castable => exact va_Nw.warmC hW hZ
  | declares => exact va_Nw.warmD hW hZ
  | _ => simp [isNest] at h1
theorem NW_same {w : Cond} (h : w ∈ NW) {u U : State} (hv : u.vm = U.vm) (hZ : va_Nw w u) : va_Nw w U := by
  have h1 := List.all_eq_true.mp NW_nest w h
  cases w with
  | methodLinkNest => exact va_Nw.same rfl hv hZ
  | castable => exact va_Nw.same rfl hv hZ
  | declares => exact va_Nw.same rfl hv hZ
  | _ => simp [isNest] at h1

abbrev mG : Type := va_G × (Nat → ClassId) × (Nat → Nat) × (Nat → Nat) × Nat × Nat × (Nat → Int32)
/-! the heap as functions: how many cells the machine has, the kind and the size of each of ours, what they hold -/
abbrev mH : Type := Nat × (Nat → Nat) × (Nat → Nat) × (Nat → Nat → Int32) × (Nat → Nat → Option Nat) × (Nat → Nat → Int64) × (Nat → Nat → UInt64)
def nx (h : mH) : Nat := h.1
def kd (h : mH) : Nat → Nat := h.2.1
def sz (h : mH) : Nat → Nat := h.2.2.1
def gi (h : mH) : Nat → Nat → Int32 := h.2.2.2.1
def gr (h : mH) : Nat → Nat → Option Nat := h.2.2.2.2.1
def gl (h : mH) : Nat → Nat → Int64 := h.2.2.2.2.2.1
def gd (h : mH) : Nat → Nat → UInt64 := h.2.2.2.2.2.2
def u2 {α : Type} (f : Nat → Nat → α) (a k : Nat) (v : α) : Nat → Nat → α := fun b j => if b = a ∧ j = k then v else f b j
def sn (h : mH) (n : Nat) : mH := (n, kd h, sz h, gi h, gr h, gl h, gd h)
def si (h : mH) (a k : Nat) (v : Int32) : mH := (nx h, kd h, sz h, u2 (gi h) a k v, gr h, gl h, gd h)
def sr (h : mH) (a k : Nat) (v : Option Nat) : mH := (nx h, kd h, sz h, gi h, u2 (gr h) a k v, gl h, gd h)
def sl (h : mH) (a k : Nat) (v : Int64) : mH := (nx h, kd h, sz h, gi h, gr h, u2 (gl h) a k v, gd h)
def sd (h : mH) (a k : Nat) (v : UInt64) : mH := (nx h, kd h, sz h, gi h, gr h, gl h, u2 (gd h) a k v)
/-- a new cell at the machine's next address -/
def al (h : mH) (c n : Nat) : mH := (nx h + 1, va_up (kd h) (nx h) c, va_up (sz h) (nx h) n, va_up (gi h) (nx h) (fun _ => 0), va_up (gr h) (nx h) (fun _ => none), va_up (gl h) (nx h) (fun _ => 0), va_up (gd h) (nx h) (fun _ => 0))
/-! what the cells are -/
def isR (d : String) : Bool := decide (d ≠ "I") && (decide (d ≠ "Z") && (decide (d ≠ "B") && decide (d ≠ "C")))
def fv (h : mH) (a : Nat) (T : u_T) (k : Nat) : Value := if isR (T k).2.2.1 = true then va_rf (gr h a k) else .int (gi h a k)
def ob (h : mH) (a : Nat) (q : vw_C) : List Value := (List.range q.2.2).map (fv h a q.2.1)
def arv (c n : Nat) (fi : Nat → Int32) (fr : Nat → Option Nat) (fl : Nat → Int64) (fd : Nat → UInt64) : vp_A := (n, if c < 105 then .inl fi else if c = 105 then .inr (.inl fl) else if c = 106 then .inr (.inr (.inr (.inl fd))) else .inr (.inr (.inr (.inr fr))))
def ent (cA : Nat → ClassId) (h : mH) (a : Nat) : va_E := match vwCl[kd h a - 1]? with
  | some q => .inr (kd h a - 1, ob h a q)
  | none => .inl (cA (kd h a), arv (kd h a) (sz h a) (gi h a) (gr h a) (gl h a) (gd h a))
def tyL : List (Nat × FieldType) := [(101, .boolean), (102, .byte), (103, .char), (104, .int), (105, .long), (106, .double), (111, .object RX4), (112, .object RX6), (113, .object RX10)]
def tyG (cA : Nat → ClassId) : List (ClassId × FieldType) := tyL.map (fun q => (cA q.1, q.2))
theorem ent_ob {cA : Nat → ClassId} {h : mH} {a c : Nat} {q : vw_C} (hk : kd h a = c + 1) (hc : vwCl[c]? = some q) : ent cA h a = .inr (c, ob h a q) := by
  unfold ent
  rw [hk, Nat.add_sub_cancel, hc]
theorem vwCl_none {c : Nat} (h : 100 < c) : vwCl[c - 1]? = none := List.getElem?_eq_none (by have : vwCl.length = 17 := rfl; omega)
theorem ent_ar {cA : Nat → ClassId} {h : mH} {a c : Nat} (hk : kd h a = c) (hc : 100 < c) : ent cA h a = .inl (cA c, arv c (sz h a) (gi h a) (gr h a) (gl h a) (gd h a)) := by
  subst hk
  unfold ent
  rw [vwCl_none hc]
theorem ent_eq {cA : Nat → ClassId} {h h' : mH} {b : Nat} (e0 : kd h' b = kd h b) (e1 : sz h' b = sz h b) (e2 : gi h' b = gi h b) (e3 : gr h' b = gr h b) (e4 : gl h' b = gl h b) (e5 : gd h' b = gd h b) : ent cA h' b = ent cA h b := by
  have e6 : ∀ q, ob h' b q = ob h b q := fun q => by
    unfold ob
    apply List.map_congr_left
    intro k _
    unfold fv
    rw [e2, e3]
  unfold ent
  rw [e0, e1, e2, e3, e4, e5]
  cases vwCl[kd h b - 1]? with
  | none => rfl
  | some q => simp only [e6 q]
theorem u2_row {α : Type} {f : Nat → Nat → α} {a k : Nat} {v : α} {b : Nat} (h : b ≠ a) : u2 f a k v b = f b := by
  funext j
  simp [u2, h]
theorem u2_self {α : Type} {f : Nat → Nat → α} {a k : Nat} {v : α} : u2 f a k v a = va_up (f a) k v := by
  funext j
  simp [u2, va_up]
/-! the heap of the machine holds h -/
def mRel (G : mG) (h : mH) (A : Nat → Prop) (H : Heap) : Prop := H.size = nx h ∧ ∃ L : List Nat, (∀ a, a ∈ L ↔ kd h a ≠ 0) ∧ va_P G.1 vwCl (va_pl L (ent G.2.1 h)) H ∧ va_D A (va_pl L (ent G.2.1 h))
theorem mRel_at {G : mG} {h : mH} {A : Nat → Prop} {H : Heap} (R : mRel G h A H) {a : Nat} (hk : kd h a ≠ 0) : ∃ (L : List Nat) (k : Nat), (∀ b, b ∈ L ↔ kd h b ≠ 0) ∧ va_P G.1 vwCl (va_pl L (ent G.2.1 h)) H ∧ va_D A (va_pl L (ent G.2.1 h)) ∧ (va_pl L (ent G.2.1 h))[k]? = some (a, ent G.2.1 h a) := by
  obtain ⟨-, L, h1, h2, h3⟩ := R
  obtain ⟨k, hk⟩ := va_pl_get (X := []) (f := ent G.2.1 h) ((h1 a).mpr hk)
  exact ⟨L, k, h1, h2, h3, hk⟩
theorem mRel_put {G : mG} {h h' : mH} {A : Nat → Prop} {H1 : Heap} {L : List Nat} {k a : Nat} {e : va_E} (hz : H1.size = nx h') (hL : ∀ b, b ∈ L ↔ kd h b ≠ 0) (hD0 : va_D A (va_pl L (ent G.2.1 h))) (hk : (va_pl L (ent G.2.1 h))[k]? = some (a, ent G.2.1 h a)) (ha : kd h a ≠ 0)
    (hP : va_P G.1 vwCl ((va_pl L (ent G.2.1 h)).set k (a, e)) H1) (hD : va_D A ((va_pl L (ent G.2.1 h)).set k (a, e))) (e1 : ∀ b, kd h' b = kd h b) (e2 : ∀ b, b ≠ a → ent G.2.1 h' b = ent G.2.1 h b) (e3 : ent G.2.1 h' a = e) : mRel G h' A H1 := by
  have hs := va_pl_set (X := []) (e := e) hD0 ((hL a).mpr ha) hk
  have hs : (va_pl L (ent G.2.1 h)).set k (a, e) = va_pl L (va_up (ent G.2.1 h) a e) := hs
  have hf : va_up (ent G.2.1 h) a e = ent G.2.1 h' := by
    funext b
    by_cases hb : b = a
    · subst hb; rw [va_up_self, e3]
    · rw [va_up_ne _ _ hb, e2 b hb]
  rw [hs, hf] at hP hD
  exact ⟨hz, L, fun b => by rw [e1 b]; exact hL b, hP, hD⟩
theorem mRel_push {G : mG} {h h' : mH} {A : Nat → Prop} {H H1 : Heap} {e : va_E} (R : mRel G h A H) (hz : H1.size = nx h + 1) (ho : ∀ q, q < nx h → H1[q]? = H[q]?) (hA : A (nx h)) (he : va_at G.1 vwCl (nx h, e) H1)
    (e0 : nx h' = nx h + 1) (e1 : ∀ b, kd h' b ≠ 0 ↔ (kd h b ≠ 0 ∨ b = nx h)) (e2 : ∀ b, b ≠ nx h → ent G.2.1 h' b = ent G.2.1 h b) (e3 : ent G.2.1 h' (nx h) = e) : mRel G h' A H1 := by
  obtain ⟨z, L, h1, h2, h3⟩ := R
  have hlt : ∀ a ∈ L, a < nx h := fun a ha => by
    obtain ⟨k, hk⟩ := va_pl_get (X := []) (f := ent G.2.1 h) ha
    have := (h2 k _ hk).lt
    rw [z] at this
    exact this
  have hn : nx h ∉ L := fun q => Nat.lt_irrefl _ (hlt _ q)
  have hP : va_P G.1 vwCl (va_pl L (ent G.2.1 h) ++ [(nx h, e)]) H1 := (h2.kept (fun k x hx => ho x.1 (by have := (h2 k x hx).lt; rw [z] at this; exact this))).app (fun k x hx => by
    have hz0 : k < 1 := (List.getElem?_eq_some_iff.mp hx).1
    rw [show k = 0 by omega] at hx
    cases hx
    exact he)
  have hD : va_D A (va_pl L (ent G.2.1 h) ++ [(nx h, e)]) := hD_push h3 h2 z hA
  rw [va_pl_push hn] at hP hD
  have hf : va_up (ent G.2.1 h) (nx h) e = ent G.2.1 h' := by
    funext b
    by_cases hb : b = nx h
    · subst hb; rw [va_up_self, e3]
    · rw [va_up_ne _ _ hb, e2 b hb]
  rw [hf] at hP hD
  refine ⟨by rw [e0]; exact hz, L ++ [nx h], fun b => ?_, hP, hD⟩
  rw [e1 b, List.mem_append, List.mem_singleton, h1 b]
where hD_push {G : mG} {h : mH} {A : Nat → Prop} {H : Heap} {e : va_E} {ws : va_W} (h3 : va_D A ws) (h2 : va_P G.1 vwCl ws H) (z : H.size = nx h) (hA : A (nx h)) : va_D A (ws ++ [(nx h, e)]) := h3.push h2 z.symm hA
/-- nothing of ours has changed; the machine may have made cells -/
theorem mRel_grow {G : mG} {h : mH} {A : Nat → Prop} {H H1 : Heap} (R : mRel G h A H) (hz : nx h ≤ H1.size) (ho : ∀ q, q < nx h → H1[q]? = H[q]?) : mRel G (sn h H1.size) A H1 := by
  obtain ⟨z, L, h1, h2, h3⟩ := R
  exact ⟨rfl, L, h1, h2.kept (fun k x hx => ho x.1 (by have := (h2 k x hx).lt; rw [z] at this; exact this)), h3⟩
theorem mRel_weaken {G : mG} {h : mH} {A B : Nat → Prop} {H : Heap} (R : mRel G h A H) (hAB : ∀ q, A q → B q) : mRel G h B H := by
  obtain ⟨z, L, h1, h2, h3⟩ := R
  exact ⟨z, L, h1, h2, h3.weaken (fun _ q _ hq => hAB q.1 hq)⟩
theorem mRel_A {G : mG} {h : mH} {A : Nat → Prop} {H : Heap} (R : mRel G h A H) {a : Nat} (hk : kd h a ≠ 0) : A a ∧ a < nx h := by
  obtain ⟨L, k, h1, h2, h3, h4⟩ := mRel_at R hk
  have := (h2 k _ h4).lt
  rw [R.1] at this
  exact ⟨h3.2 k _ h4, this⟩
theorem mRel_self {G : mG} {h : mH} {A B : Nat → Prop} {H : Heap} (R : mRel G h A H) (hB : ∀ a, kd h a ≠ 0 → B a) : mRel G h B H := by
  obtain ⟨z, L, h1, h2, h3⟩ := R
  refine ⟨z, L, h1, h2, h3.weaken (fun k q hk _ => ?_)⟩
  simp only [va_pl, List.getElem?_map] at hk
  cases hb : L[k]? with
  | none => rw [hb] at hk; cases hk
  | some b =>
    rw [hb] at hk
    cases hk
    exact hB b ((h1 b).mp (List.mem_of_getElem? hb))
/-- what a call may change: our cells, and those that it makes -/
def mA (h : mH) : Nat → Prop := fun q => kd h q ≠ 0 ∨ nx h ≤ q
/-! the keywords' constants, and what the JDK's own methods read of statics -/
def sLen : List Nat := [4, 3, 5, 5, 5, 5, 4]
def sByt : List (List Int32) := [[115, 101, 116, 32], [111, 114, 32], [116, 104, 101, 110, 32], [115, 116, 97, 114, 32], [100, 114, 111, 112, 32], [119, 111, 114, 100, 32], [99, 117, 116, 32]]
def sIx : List (Nat × String) := [(94, "set "), (96, "or "), (98, "then "), (100, "star "), (102, "drop "), (104, "word "), (106, "cut ")]
def sA (G : mG) (j : Nat) : Nat := G.2.2.1 j
def tA (G : mG) (j : Nat) : Nat := G.2.2.2.1 j
/-- the script's array, which nobody writes: where, how long, its ints -/
def sB (G : mG) : Nat := G.2.2.2.2.1
def sL (G : mG) : Nat := G.2.2.2.2.2.1
def sX (G : mG) : Nat → Int32 := G.2.2.2.2.2.2
def mStr (G : mG) (A : Nat → Prop) (U : State) (H : Heap) : Prop := (∀ (j : Nat) (q : Nat × String), sIx[j]? = some q → vk_R RX9 q.1 q.2 (sA G j) U) ∧ vk_S 7 sLen sByt (sA G) (tA G) A U H ∧ va_Z "java/lang/String" "COMPACT_STRINGS" "Z" (.int 1) A U H ∧ va_Zq "jdk/internal/util/Preconditions" "SIOOBE_FORMATTER" "Ljava/util/function/BiFunction;" A U H ∧ (¬ A (sB G) ∧ va_X (sB G) (sL G) (sX G) U H)
theorem mStr.moved {G : mG} {A : Nat → Prop} {u U : State} {H : Heap} (h : mStr G A u H) (hW : u.WarmedH U.vm) : mStr G A U H := by
  obtain ⟨h1, h2, h3, h4, h5, h6⟩ := h
  exact ⟨fun j q hq => vk_R.warm hW (h1 j q hq), h2.moved hW.alike, h3.moved hW.alike, h4.moved hW.alike, h5, h6.moved hW.alike⟩
theorem mStr.kept {G : mG} {A : Nat → Prop} {U : State} {H H1 : Heap} (h : mStr G A U H) (hq : ∀ a : Nat, a < H.size → ¬ A a → H1[a]? = H[a]?) : mStr G A U H1 := by
  obtain ⟨h1, h2, h3, h4, h5, h6⟩ := h
  exact ⟨h1, h2.kept hq, h3.kept hq, h4.kept hq, h5, h6.kept (hq _ (by obtain ⟨_, e, _⟩ := h6; exact (Array.getElem?_eq_some_iff.mp e).1) h5)⟩
theorem mStr.narrow {G : mG} {A B : Nat → Prop} {U : State} {H : Heap} (h : mStr G A U H) (hAB : ∀ q, B q → A q) : mStr G B U H := by
  obtain ⟨h1, h2, h3, h4, h5, h6⟩ := h
  exact ⟨h1, h2.narrow hAB, h3.narrow hAB, h4.narrow hAB, fun q => h5 (hAB _ q), h6⟩
/-! what else stands, of the launch and the tables -/
def mEnv0 (l : Launch) (A : Nat → Prop) (U : State) (H : Heap) : Prop := l.stackTraces = false ∧ (∀ w ∈ NW, va_Nw w U) ∧ vx_Zq Bundle.tN "UNASSIGNED_STACK" Bundle.steD A U H ∧ vx_Zq Bundle.tN "SUPPRESSED_SENTINEL" Bundle.listD A U H ∧ (∀ q ∈ SRl, ∃ sa, vk_R q.1 q.2.1 q.2.2 sa U) ∧ va_AO RX4 U ∧ va_AO RX6 U ∧ va_AO RX10 U ∧ (∀ q ∈ NCl, va_Nc q.1 q.2 U)
def mEnv (l : Launch) (G : mG) (A : Nat → Prop) (U : State) (H : Heap) : Prop := mStr G A U H ∧ mEnv0 l A U H
theorem mEnv.same {l : Launch} {G : mG} {A : Nat → Prop} {u U : State} {H : Heap} (h : mEnv l G A u H) (hv : u.vm = U.vm) (hW : u.WarmedH U.vm) : mEnv l G A U H := by
  obtain ⟨h0, h1, h2, h3, h4, h5, h6, h7, h8, h10⟩ := h
  exact ⟨h0.moved hW, h1, fun w hw => NW_same hw hv (h2 w hw), h3.moved hW.alike, h4.moved hW.alike, fun q hq => by obtain ⟨sa, h9⟩ := h5 q hq; exact ⟨sa, vk_R.warm hW h9⟩, h6.moved hW.alike, h7.moved hW.alike, h8.moved hW.alike, fun q hq => (h10 q hq).moved hW.alike⟩
theorem mEnv.warm {l : Launch} {G : mG} {A : Nat → Prop} {u U : State} {H : Heap} (h : mEnv l G A u H) (hW : u.WarmedH U.vm) : mEnv l G A U H := by
  obtain ⟨h0, h1, h2, h3, h4, h5, h6, h7, h8, h10⟩ := h
  exact ⟨h0.moved hW, h1, fun w hw => NW_warm hw hW (h2 w hw), h3.moved hW.alike, h4.moved hW.alike, fun q hq => by obtain ⟨sa, h9⟩ := h5 q hq; exact ⟨sa, vk_R.warm hW h9⟩, h6.moved hW.alike, h7.moved hW.alike, h8.moved hW.alike, fun q hq => (h10 q hq).moved hW.alike⟩
theorem mEnv.kept {l : Launch} {G : mG} {A : Nat → Prop} {U : State} {H H1 : Heap} (h : mEnv l G A U H) (hq : ∀ a : Nat, a < H.size → ¬ A a → H1[a]? = H[a]?) : mEnv l G A U H1 := by
  obtain ⟨h0, h1, h2, h3, h4, h5⟩ := h
  exact ⟨h0.kept hq, h1, h2, h3.kept hq, h4.kept hq, h5⟩
theorem mEnv.narrow {l : Launch} {G : mG} {A B : Nat → Prop} {U : State} {H : Heap} (h : mEnv l G A U H) (hAB : ∀ q, B q → A q) : mEnv l G B U H := by
  obtain ⟨h0, h1, h2, h3, h4, h5⟩ := h
  exact ⟨h0.narrow hAB, h1, h2, h3.narrow hAB, h4.narrow hAB, h5⟩
/-! a method: its name, its bytes, how many locals, what it returns, its handlers -/
abbrev mMI : Type := MethodName × ByteArray × Nat × Option FieldType × List (Nat × Nat × Nat × Nat)
/-- what holds all through a frame -/
def mCx (l : Launch) (G : mG) (M : mMI) (p : Program) (s : State) (m : MethodId) (args : Array Value) (meth : Method) (c : Code) (A : Nat → Prop) : Prop :=
  p.tables.exec = Jvm.exec ∧ c.code = M.2.1 ∧ meth.sig.returnType = M.2.2.2.1 ∧ c.maxLocals = M.2.2.1 ∧ s.vm.findClass M.1.cls = some m.cls ∧ (∀ w ∈ GT, w.before args s = true) ∧ meth.locks = false ∧ c.exceptionTable.toList = tableOf M.2.2.2.2 ∧ meth.name = M.1.name ∧ va_K G.1 vwCl (tyG G.2.1) s ∧ mEnv l G A s s.heap ∧ (∀ q, s.heap.size ≤ q → A q)
/-- room: d frames to come, mc cells of ms slots to come -/
def mRoom (R : Room) (d mc ms cells slots mct mst : Nat) : Prop := d + 8 ≤ R.frames ∧ d * 64 + 160 ≤ R.locals ∧ cells + mc ≤ mct ∧ slots + ms ≤ mst ∧ mct ≤ R.cells ∧ mst ≤ R.slots
def mLs (lm : Array Slot) (n : Nat) (ls : List (Option Value)) : Prop := lm.size = n ∧ lv_wf lm ∧ ∀ (i : Nat) (v : Value), ls[i]? = some (some v) → lm[i]? = some (.val v) ∧ v.category = 1
def mQc (G : mG) (Q : Option Value → mH → Prop) (A : Nat → Prop) : Array Value → State → Outcome → State → Prop := fun _ st oc t => (∃ (v : Option Value) (h' : mH), oc = .returned v ∧ Q v h' ∧ mRel G h' A t.heap) ∧ va_F A st t
def mXc (G : mG) (X : String → mH → Prop) (A : Nat → Prop) : String → State → State → Prop := fun E st t => (∃ h' : mH, X E h' ∧ mRel G h' A t.heap) ∧ va_F A st t
/-- THE FRAME of M at pc, with locals, stack and heap: it comes to its end, returning with Q or throwing with X -/
def mW (l : Launch) (G : mG) (M : mMI) (d mc ms pc : Nat) (ls : List (Option Value)) (st : List Value) (h : mH) (Q : Option Value → mH → Prop) (X : String → mH → Prop) : Prop :=
  ∀ (p : Program) (e : Env) (R : Room) (s : State) (m : MethodId) (args : Array Value) (below : List Frame) (meth : Method) (c : Code) (A : Nat → Prop) (H : Heap) (locs : List Loc) (cells slots mct mst : Nat) (lm : Array Slot),
    mCx l G M p s m args meth c A → mRoom R d mc ms cells slots mct mst → mRel G h A H → va_S A s.heap H locs → mLs lm M.2.2.1 ls →
    W p l e R s m args below meth c H locs cells slots (vx_MQ below (mQc G Q A) (mXc G X A) args s mct mst A) (F0 m pc lm st)
def mws (M : mMI) : List Cond := (if M.2.2.2.2 = [] then Cond.code M.1 M.2.1 M.2.2.1 M.2.2.2.1 else Cond.codeWith M.1 M.2.1 M.2.2.1 M.2.2.2.1 M.2.2.2.2) :: GT
def mrm (d mc ms : Nat) : Room := { frames := d + 8, cells := mc, slots := ms, locals := d * 64 + 160 }
/-- what stands at a method's start -/
def mB (l : Launch) (G : mG) (h : mH) (U : State) : Prop := mRel G h (mA h) U.heap ∧ va_K G.1 vwCl (tyG G.2.1) U ∧ mEnv l G (mA h) U U.heap
/-- THE CONTRACT of M: called with av over h it returns with Q or throws with X; mc cells of ms slots at most are made -/
def mMet (l : Launch) (G : mG) (M : mMI) (d mc ms : Nat) (av : List Value) (h : mH) (Q : Option Value → mH → Prop) (X : String → mH → Prop) : Prop :=
  vx_Met l M.1 (mws M) (mrm d mc ms) (va_Pc av (mB l G h)) (mQc G Q (mA h)) (mXc G X (mA h)) mc ms (mA h)

