section CALLS
variable {l : Launch} {G : mG} {M : mMI} {d mc ms pc : Nat} {ls : List (Option Value)} {st : List Value} {h : mH} {Q : Option Value → mH → Prop} {X : String → mH → Prop}
/-! a method's contract out of its frame -/
def mArgs (av : List Value) (n : Nat) : List (Option Value) := av.map some ++ List.replicate (n - av.length) none
theorem lv_args_mem : ∀ (av : List Value), (∀ v ∈ av, v.category = 1) → ∀ (k i : Nat) (v : Value), av[i]? = some v → (k + i, v) ∈ lv_args k av
  | [], _, k, i, v, h => by simp at h
  | u :: av, hc, k, 0, v, h => by
    simp at h
    subst h
    exact List.mem_cons_self
  | u :: av, hc, k, i + 1, v, h => by
    have hu : u.category = 1 := hc u List.mem_cons_self
    have := lv_args_mem av (fun w hw => hc w (List.mem_cons_of_mem _ hw)) (k + 1) i v (by simpa using h)
    rw [show k + (i + 1) = k + 1 + i by omega]
    refine List.mem_cons_of_mem _ ?_
    rw [if_neg (by omega)]
    exact this
theorem lg_sl_len : ∀ (av : List Value), (∀ v ∈ av, v.category = 1) → (lg_sl av).length = av.length
  | [], _ => rfl
  | u :: av, hc => by
    have hu : u.category = 1 := hc u List.mem_cons_self
    have := lg_sl_len av (fun w hw => hc w (List.mem_cons_of_mem _ hw))
    show (lg_sl (u :: av)).length = _
    simp only [lg_sl, List.flatMap_cons, List.length_append, List.length_cons] at this ⊢
    rw [if_neg (by omega), this]
    simp
    omega
theorem mLs_entry {av : List Value} {n : Nat} (hc : ∀ v ∈ av, v.category = 1) (hn : av.length ≤ n) : mLs ((lg_sl av ++ List.replicate (n - (lg_sl av).length) Slot.unset).toArray) n (mArgs av n) := by
  have h0 := lv_entry av (n := n) (by rw [lg_sl_len av hc]; exact hn)
  refine ⟨h0.1, h0.2.1, fun i v hi => ?_⟩
  unfold mArgs at hi
  by_cases hlt : i < av.length
  · rw [List.getElem?_append_left (by simpa using hlt), List.getElem?_map] at hi
    cases ha : av[i]? with
    | none => rw [ha] at hi; cases hi
    | some u =>
      rw [ha] at hi
      cases hi
      have := lv_args_mem av hc 0 i v ha
      rw [Nat.zero_add] at this
      exact ⟨h0.2.2 _ this, hc v (List.mem_of_getElem? ha)⟩
  · rw [List.getElem?_append_right (by simpa using hlt)] at hi
    have := List.mem_of_getElem? hi
    rw [List.mem_replicate] at this
    cases this.2
theorem GT_in {w : Cond} (hw : w ∈ GT) (M : mMI) : w ∈ mws M := List.mem_cons_of_mem _ hw
theorem stackFits : (mrm d mc ms).frames = d + 8 := rfl
theorem mB_blind {av : List Value} : FrameBlind (va_Pc av (mB l G h)) := by
  intro a U g mk q
  obtain ⟨q1, q2, q3, q4⟩ := q
  exact ⟨q1, q2, va_K.moved (u := U) (U := U.calling g mk a) (Vm.Alike.refl U.vm) q3, mEnv.same (u := U) (U := U.calling g mk a) q4 rfl (State.WarmedH.refl U)⟩
theorem mMet_of {av : List Value} (hp : plainName M.1.cls = true) (hh : M.2.2.2.2 = []) (hc : ∀ v ∈ av, v.category = 1) (hn : av.length ≤ M.2.2.1) (body : mW l G M d mc ms 0 (mArgs av M.2.2.1) [] h Q X) : mMet l G M d mc ms av h Q X := by
  refine vx_ofW (cc := M.2.1) (maxL := M.2.2.1) (ret := M.2.2.2.1) (ws' := GT) hp (by unfold mws; rw [if_pos hh]) ?_
  intro p e s m args below meth c s₁ B hml ht hv
  obtain ⟨rfl, hR, hK, hE⟩ := hv
  have hts : ∀ w ∈ mws M, w.before av.toArray s = true := atoms_spec (ws := mws M) B.pre
  rw [lg_entry_eq]
  refine body p e _ s m av.toArray below meth c (mA h) s.heap [] 0 0 mc ms _ ⟨B.exec, B.bytes, B.returns, hml, findClass_of_methodNamed B.named, fun w hw => hts w (GT_in hw M), B.notSynchronized, ?_, (name_of_methodNamed B.named B.method).1, hK, hE, fun q hq => Or.inr (by rw [← hR.1]; exact hq)⟩ ⟨Nat.le_refl _, Nat.le_refl _, by omega, by omega, Nat.le_refl _, Nat.le_refl _⟩ hR va_S.rf (mLs_entry hc hn)
  rw [hh]
  cases hl : c.exceptionTable.toList with
  | nil => rfl
  | cons x l2 => exact (ht x (by rw [hl]; exact List.mem_cons_self)).elim
theorem mMet_ofH {av : List Value} (hp : plainName M.1.cls = true) (hh : M.2.2.2.2 ≠ []) (hc : ∀ v ∈ av, v.category = 1) (hn : av.length ≤ M.2.2.1) (body : mW l G M d mc ms 0 (mArgs av M.2.2.1) [] h Q X) : mMet l G M d mc ms av h Q X := by
  have hws : mws M = Cond.codeWith M.1 M.2.1 M.2.2.1 M.2.2.2.1 M.2.2.2.2 :: GT := by unfold mws; rw [if_neg hh]
  refine vx_ofWH (cc := M.2.1) (maxL := M.2.2.1) (ret := M.2.2.2.1) (ws' := GT) hp hws ?_
  intro p e s m args below meth c s₁ B hml hv
  obtain ⟨rfl, hR, hK, hE⟩ := hv
  have hts : ∀ w ∈ mws M, w.before av.toArray s = true := atoms_spec (ws := mws M) B.pre
  have htab := vx_table (x := M.1) (y := M.1) (bytes := M.2.1) (maxL' := M.2.2.1) (ret' := M.2.2.2.1) (hh := M.2.2.2.2) B (hts _ (by rw [hws]; exact List.mem_cons_self))
  rw [lg_entry_eq]
  exact body p e _ s m av.toArray below meth c (mA h) s.heap [] 0 0 mc ms _ ⟨B.exec, B.bytes, B.returns, hml, findClass_of_methodNamed B.named, fun w hw => hts w (GT_in hw M), B.notSynchronized, htab, (name_of_methodNamed B.named B.method).1, hK, hE, fun q hq => Or.inr (by rw [← hR.1]; exact hq)⟩ ⟨Nat.le_refl _, Nat.le_refl _, by omega, by omega, Nat.le_refl _, Nat.le_refl _⟩ hR va_S.rf (mLs_entry hc hn)
/-- a weaker contract -/
theorem mMet_post {av : List Value} {Q' : Option Value → mH → Prop} {X' : String → mH → Prop} (hQ : ∀ v h', Q' v h' → Q v h') (hX : ∀ E h', X' E h' → X E h') (k : mMet l G M d mc ms av h Q' X') : mMet l G M d mc ms av h Q X := by
  intro p e ha hc hk s m args below hf hfit hheap happ
  obtain ⟨t, o, b0, b1, b2, b3⟩ := k p e ha hc hk s m args below hf hfit hheap happ
  refine ⟨t, o, b0, b1, b2, ?_⟩
  rcases b3 with ⟨⟨⟨v, h', e1, e2, e3⟩, e4⟩, e5⟩ | ⟨q, e1, E, ce, L, ⟨⟨h', e2, e3⟩, e4⟩, e5⟩
  · exact Or.inl ⟨⟨⟨v, h', e1, hQ _ _ e2, e3⟩, e4⟩, e5⟩
  · exact Or.inr ⟨q, e1, E, ce, L, ⟨⟨h', hX _ _ e2, e3⟩, e4⟩, e5⟩
theorem gt_good : GoodIn GT GT := fun w hw => ⟨hw, good_of_word (gt_gw hw)⟩
/-- what a call's start gives the callee -/
theorem mB_of {p : Program} {s : State} {m : MethodId} {args : Array Value} {meth : Method} {c : Code} {A : Nat → Prop} {H : Heap} {locs : List Loc} (Cx : mCx l G M p s m args meth c A) (hR : mRel G h A H) (hS : va_S A s.heap H locs) (U : State) (hU : U.heap = H) (hW : s.WarmedH U.vm) : mB l G h U := by
  have hA : ∀ q, mA h q → A q := fun q hq => by
    rcases hq with hq | hq
    · exact (mRel_A hR hq).1
    · exact Cx.2.2.2.2.2.2.2.2.2.2.2 q (by have := hS.1; rw [hR.1] at this; omega)
  have hE : mEnv l G (mA h) U H := ((Cx.2.2.2.2.2.2.2.2.2.2.1.warm hW).kept hS.2.1).narrow hA
  exact ⟨by rw [hU]; exact mRel_self hR (fun a ha => Or.inl ha), va_K.moved hW.alike Cx.2.2.2.2.2.2.2.2.2.1, by rw [hU]; exact hE⟩
/-- behind a call -/
theorem call_go {p : Program} {e : Env} {R : Room} {s : State} {m : MethodId} {args : Array Value} {below : List Frame} {meth : Method} {c : Code} {A : Nat → Prop} {H : Heap} {locs : List Loc} {cells slots mct mst mc' ms' : Nat} {lm : Array Slot} {a : Array Value} {st0 : List Value} {Q' : Option Value → mH → Prop} {X' : String → mH → Prop}
    (Cx : mCx l G M p s m args meth c A) (hr : mRoom R d (mc' + mc) (ms' + ms) cells slots mct mst) (hR : mRel G h A H) (hS : va_S A s.heap H locs) (hl : mLs lm M.2.2.1 ls)
    (run : vx_Run p l e R s m args below meth c H locs cells slots mc' ms' (F0 m pc lm st0) st (mQc G Q' (mA h) a) (mXc G X' (mA h)) (mA h))
    (kk : ∀ (v : Option Value) (h' : mH), Q' v h' → mW l G M d mc ms (pc + 3) ls (v.toList ++ st) h' Q X)
    (kx : ∀ (E : String) (h' : mH) (ce : Cell) (q : Addr) (H1 : Heap) (locs1 : List Loc), X' E h' → mRel G h' A H1 → va_S A s.heap H1 locs1 → H1[q]? = some ce → ce.vm = .none → s.vm.findClass E = some ce.cls → vx_W p l e R s m args below meth c H1 locs1 (cells + mc') (slots + ms') (vx_MQ below (mQc G Q A) (mXc G X A) args s mct mst A) (F0 m pc lm st) q) :
    W p l e R s m args below meth c H locs cells slots (vx_MQ below (mQc G Q A) (mXc G X A) args s mct mst A) (F0 m pc lm st0) := by
  have hA : ∀ q, mA h q → A q := fun q hq => by
    rcases hq with hq | hq
    · exact (mRel_A hR hq).1
    · exact Cx.2.2.2.2.2.2.2.2.2.2.2 q (by have := hS.1; rw [hR.1] at this; omega)
  obtain ⟨r1, r2, r3, r4, r5, r6⟩ := hr
  intro T hT X0
  rcases run T hT X0 with ⟨v, st₀, t, T', L, h0, X1, hL, e1, e2, ⟨⟨v', h', hv, hq, hR1⟩, hF⟩, go⟩ | ⟨q, st₀, t, T', L, E, ce, h0, X1, hL, e1, e2, ⟨⟨h', hx, hR1⟩, hF⟩, hce, hcv, hcl, go⟩
  · cases hv
    obtain ⟨k1, k2, k3⟩ := vx_keep h0 e1 hS (fun q _ hq => hA q hq) hA hL hF
    obtain ⟨t2, a1, b1⟩ := kk v h' hq p e R s m args below meth c A T'.heap (locs ++ L) (cells + mc') (slots + ms') mct mst lm Cx ⟨r1, r2, by omega, by omega, r5, r6⟩ (mRel_weaken (by rw [e1]; exact hR1) hA) k3 hl T' rfl X1
    exact ⟨t2, go t2 a1, b1⟩
  · obtain ⟨k1, k2, k3⟩ := vx_keep h0 e1 hS (fun q _ hq => hA q hq) hA hL hF
    obtain ⟨t2, a1, b1⟩ := kx E h' ce q T'.heap (locs ++ L) hx (mRel_weaken (by rw [e1]; exact hR1) hA) k3 (by rw [e1]; exact hce) hcv hcl T' rfl X1
    exact ⟨t2, go.trans a1, b1⟩
/-- a throw that no handler takes: it goes on -/
theorem kx_out {p : Program} {e : Env} {R : Room} {s : State} {m : MethodId} {args : Array Value} {below : List Frame} {meth : Method} {c : Code} {A : Nat → Prop} {cells slots mct mst mc' ms' : Nat} {lm : Array Slot} {X' : String → mH → Prop} (hh : M.2.2.2.2 = []) (Cx : mCx l G M p s m args meth c A) (hr : mRoom R d (mc' + mc) (ms' + ms) cells slots mct mst) (hX : ∀ E h', X' E h' → X E h') :
    ∀ (E : String) (h' : mH) (ce : Cell) (q : Addr) (H1 : Heap) (locs1 : List Loc), X' E h' → mRel G h' A H1 → va_S A s.heap H1 locs1 → H1[q]? = some ce → ce.vm = .none → s.vm.findClass E = some ce.cls → vx_W p l e R s m args below meth c H1 locs1 (cells + mc') (slots + ms') (vx_MQ below (mQc G Q A) (mXc G X A) args s mct mst A) (F0 m pc lm st) q := by
  intro E h' ce q H1 locs1 hx hR1 hS1 h1 h2 h3
  obtain ⟨r1, r2, r3, r4, r5, r6⟩ := hr
  refine vx_out (fun x hx => ?_) Cx.2.2.2.2.2.2.1 h1 h2 h3 (fun t ht _ => ⟨⟨h', hX _ _ hx, by rw [ht]; exact hR1⟩, hS1.F ht⟩) hS1.2.2 (by omega) (by omega)
  rw [Cx.2.2.2.2.2.2.2.1, hh] at hx
  cases hx
/-! links: a virtual call, a static one, a constructor's; of the same class or of a nest mate -/
abbrev mCode (M' : mMI) : Cond := Cond.code M'.1 M'.2.1 M'.2.2.1 M'.2.2.2.1
def KB (M' : mMI) (n : Nat) : Prop := M'.2.2.2.2 = [] ∧ mCode M' ∈ GT ∧ Cond.initialized M'.1.cls ∈ GT ∧ M'.1.cls ≠ "java/lang/invoke/MethodHandle" ∧ M'.1.cls ≠ "java/lang/invoke/VarHandle" ∧ (parseMethodDescriptor M'.1.desc).map (fun d => d.parameters.length) = some n ∧ M'.2.2.1 ≤ 40
def KV (own : String) (ix : Nat) (M' : mMI) (n c : Nat) : Prop := KB M' n ∧ Cond.methodLink own ix M'.1 ∈ GT ∧ Cond.instanceMethod M'.1 ∈ GT ∧ Cond.selects M'.1.cls M'.1 M'.1 ∈ GT ∧ ∃ T N, vwCl[c]? = some (M'.1.cls, T, N)
def KS (own : String) (ix : Nat) (M' : mMI) (n : Nat) : Prop := KB M' n ∧ Cond.methodLink own ix M'.1 ∈ GT ∧ Cond.static M'.1 ∈ GT
def KI (own : String) (ix : Nat) (M' : mMI) (n : Nat) : Prop := KB M' n ∧ Cond.methodLink own ix M'.1 ∈ GT ∧ Cond.instanceMethod M'.1 ∈ GT ∧ M'.1.name = "<init>" ∧ M'.2.2.2.1 = none
def KSN (own : String) (ix : Nat) (M' : mMI) (n : Nat) : Prop := KB M' n ∧ (∃ host, Cond.methodLinkNest own ix M'.1 host ∈ NW) ∧ Cond.static M'.1 ∈ GT
def KIN (own : String) (ix : Nat) (M' : mMI) (n : Nat) : Prop := KB M' n ∧ (∃ host, Cond.methodLinkNest own ix M'.1 host ∈ NW) ∧ Cond.instanceMethod M'.1 ∈ GT ∧ M'.1.name = "<init>" ∧ M'.2.2.2.1 = none
theorem mws_nil {M' : mMI} (hh : M'.2.2.2.2 = []) : mws M' = mCode M' :: GT := by unfold mws; rw [if_pos hh]
theorem cb_of {M' : mMI} {n d' mc' ms' : Nat} {R : Room} {s : State} {args : Array Value} {own : String} {ix cells slots mct mst : Nat} (B : KB M' n) (hts : ∀ w ∈ GT, w.before args s = true) (hl : Cond.methodLink own ix M'.1 ∈ GT) (hr : mRoom R d (mc' + mc) (ms' + ms) cells slots mct mst) (hd : d' + 1 ≤ d) : CallB R s args own ix M'.1 M'.2.1 M'.2.2.1 M'.2.2.2.1 (mws M') (mrm d' mc' ms') mc' ms' n := by
  obtain ⟨b0, b1, b2, b3, b4, b5, b6⟩ := B
  obtain ⟨r1, r2, r3, r4, r5, r6⟩ := hr
  refine callB_of n hts (ws' := GT) ?_ (mws_nil b0) rfl rfl (hts _ b2) (hts _ hl) ⟨b3, b4, b5⟩ ⟨by show d' + 8 + 1 ≤ _; omega, by show 8 + (M'.2.2.1 + 11) + (d' * 64 + 160) ≤ _; omega⟩
  rw [mws_nil b0]
  intro w hw
  rcases List.mem_cons.mp hw with rfl | hw
  · exact ⟨b1, good_of_word (gt_gw b1)⟩
  · exact gt_good w hw
theorem cn_of {M' : mMI} {n d' mc' ms' : Nat} {R : Room} {s : State} {args : Array Value} {own host : String} {ix cells slots mct mst : Nat} (B : KB M' n) (hts : ∀ w ∈ GT, w.before args s = true) (hl : va_Nw (.methodLinkNest own ix M'.1 host) s) (hr : mRoom R d (mc' + mc) (ms' + ms) cells slots mct mst) (hd : d' + 1 ≤ d) : va_CN R s args own ix M'.1 host M'.2.1 M'.2.2.1 M'.2.2.2.1 (mws M') (mrm d' mc' ms') mc' ms' n := by
  obtain ⟨b0, b1, b2, b3, b4, b5, b6⟩ := B
  obtain ⟨r1, r2, r3, r4, r5, r6⟩ := hr
  refine va_cnB n hts (ws' := GT) ?_ (mws_nil b0) rfl rfl hl (hts _ b2) ⟨b3, b4, b5⟩ ⟨by show d' + 8 + 1 ≤ _; omega, by show 8 + (M'.2.2.1 + 11) + (d' * 64 + 160) ≤ _; omega⟩
  rw [mws_nil b0]
  intro w hw
  rcases List.mem_cons.mp hw with rfl | hw
  · exact ⟨b1, good_of_word (gt_gw b1)⟩
  · exact gt_good w hw
theorem mrecv {p : Program} {s : State} {m : MethodId} {args : Array Value} {meth : Method} {c0 : Code} {A : Nat → Prop} {H : Heap} {a c : Nat} {C : String} {T : u_T} {N : Nat} (Cx : mCx l G M p s m args meth c0 A) (hR : mRel G h A H) (hkd : kd h a = c + 1) (hc : vwCl[c]? = some (C, T, N)) : ∃ cell : Cell, H[a]? = some cell ∧ cell.vm.isStatics = false ∧ s.vm.findClass C = some cell.cls := by
  obtain ⟨L, k0, hL, hP, hD, hk⟩ := mRel_at hR (a := a) (by omega)
  rw [ent_ob hkd hc] at hk
  exact va_recv Cx.2.2.2.2.2.2.2.2.2.1 hP hc hk
section Rows
variable {M' : mMI} {n d' mc' ms' ix a c : Nat} {As : List Value} {Q' : Option Value → mH → Prop} {X' : String → mH → Prop}
theorem q_callV (hd : decode M.2.1 pc = .ok (.invokevirtual ix, 3)) (F : KV M.1.cls ix M' n c) (K : mMet l G M' d' mc' ms' (.ref a :: As) h Q' X') (hkd : kd h a = c + 1) (hn : As.length = n) (hdd : d' + 1 ≤ d) (hst : (st.map fun v => v.category).sum ≤ 8) (hh : M.2.2.2.2 = []) (hX : ∀ E h', X' E h' → X E h')
    (kk : ∀ (v : Option Value) (h' : mH), Q' v h' → mW l G M d mc ms (pc + 3) ls (v.toList ++ st) h' Q X) : mW l G M d (mc' + mc) (ms' + ms) pc ls (As.reverse ++ .ref a :: st) h Q X := by
  intro p e R s m args below meth c0 A H locs cells slots mct mst lm Cx hr hR hS hl
  obtain ⟨B, w1, w2, w3, T, N, hc⟩ := F
  have hts := Cx.2.2.2.2.2.1
  refine call_go Cx hr hR hS hl (vx_runV (C := M'.1.cls) ⟨Cx.1, Cx.2.1, Cx.2.2.2.1, Cx.2.2.2.2.1, hts⟩ K ⟨cb_of B hts w1 hr hdd, hts _ w2, hts _ w3⟩ ⟨mB_blind, mrecv Cx hR hkd hc, fun U hU hW => ⟨rfl, mB_of Cx hR hS U hU hW⟩⟩ rfl hn hl.1 rfl (lv_room hst) hd ⟨by obtain ⟨r1, r2, r3, r4, r5, r6⟩ := hr; omega, by obtain ⟨r1, r2, r3, r4, r5, r6⟩ := hr; omega⟩) kk (kx_out hh Cx hr hX)
theorem q_callS (hd : decode M.2.1 pc = .ok (.invokestatic ix, 3)) (F : KS M.1.cls ix M' n) (K : mMet l G M' d' mc' ms' As h Q' X') (hn : As.length = n) (hdd : d' + 1 ≤ d) (hst : (st.map fun v => v.category).sum ≤ 8) (hh : M.2.2.2.2 = []) (hX : ∀ E h', X' E h' → X E h')
    (kk : ∀ (v : Option Value) (h' : mH), Q' v h' → mW l G M d mc ms (pc + 3) ls (v.toList ++ st) h' Q X) : mW l G M d (mc' + mc) (ms' + ms) pc ls (As.reverse ++ st) h Q X := by
  intro p e R s m args below meth c0 A H locs cells slots mct mst lm Cx hr hR hS hl
  obtain ⟨B, w1, w2⟩ := F
  have hts := Cx.2.2.2.2.2.1
  refine call_go Cx hr hR hS hl (vx_runS ⟨Cx.1, Cx.2.1, Cx.2.2.2.1, Cx.2.2.2.2.1, hts⟩ K ⟨cb_of B hts w1 hr hdd, hts _ w2⟩ ⟨mB_blind, fun U hU hW => ⟨rfl, mB_of Cx hR hS U hU hW⟩⟩ rfl hn hl.1 rfl (lv_room hst) hd ⟨by obtain ⟨r1, r2, r3, r4, r5, r6⟩ := hr; omega, by obtain ⟨r1, r2, r3, r4, r5, r6⟩ := hr; omega⟩) kk (kx_out hh Cx hr hX)
theorem q_callSN (hd : decode M.2.1 pc = .ok (.invokestatic ix, 3)) (F : KSN M.1.cls ix M' n) (K : mMet l G M' d' mc' ms' As h Q' X') (hn : As.length = n) (hdd : d' + 1 ≤ d) (hst : (st.map fun v => v.category).sum ≤ 8) (hh : M.2.2.2.2 = []) (hX : ∀ E h', X' E h' → X E h')
    (kk : ∀ (v : Option Value) (h' : mH), Q' v h' → mW l G M d mc ms (pc + 3) ls (v.toList ++ st) h' Q X) : mW l G M d (mc' + mc) (ms' + ms) pc ls (As.reverse ++ st) h Q X := by
  intro p e R s m args below meth c0 A H locs cells slots mct mst lm Cx hr hR hS hl
  obtain ⟨B, ⟨host, w1⟩, w2⟩ := F
  have hts := Cx.2.2.2.2.2.1
  have hnw := Cx.2.2.2.2.2.2.2.2.2.2.1.2.2.1 _ w1
  refine call_go Cx hr hR hS hl (vx_runSN ⟨Cx.1, Cx.2.1, Cx.2.2.2.1, Cx.2.2.2.2.1, hts⟩ K ⟨cn_of B hts hnw hr hdd, hts _ w2, trivial⟩ ⟨mB_blind, fun U hU hW => ⟨rfl, mB_of Cx hR hS U hU hW⟩⟩ rfl hn hl.1 rfl (lv_room hst) hd ⟨by obtain ⟨r1, r2, r3, r4, r5, r6⟩ := hr; omega, by obtain ⟨r1, r2, r3, r4, r5, r6⟩ := hr; omega⟩) kk (kx_out hh Cx hr hX)
theorem q_callI (hd : decode M.2.1 pc = .ok (.invokespecial ix, 3)) (F : KI M.1.cls ix M' n) (K : mMet l G M' d' mc' ms' (.ref a :: As) h Q' X') (hn : As.length = n) (hdd : d' + 1 ≤ d) (hst : (st.map fun v => v.category).sum ≤ 8) (hh : M.2.2.2.2 = []) (hX : ∀ E h', X' E h' → X E h')
    (kk : ∀ (v : Option Value) (h' : mH), Q' v h' → mW l G M d mc ms (pc + 3) ls (v.toList ++ st) h' Q X) : mW l G M d (mc' + mc) (ms' + ms) pc ls (As.reverse ++ .ref a :: st) h Q X := by
  intro p e R s m args below meth c0 A H locs cells slots mct mst lm Cx hr hR hS hl
  obtain ⟨B, w1, w2, w3, w4⟩ := F
  have hts := Cx.2.2.2.2.2.1
  have cb := cb_of (R := R) (s := s) (args := args) (mc' := mc') (ms' := ms') B hts w1 hr hdd
  rw [w4] at cb
  refine call_go Cx hr hR hS hl (vx_runI ⟨Cx.1, Cx.2.1, Cx.2.2.2.1, Cx.2.2.2.2.1, hts⟩ K ⟨cb, w3, hts _ w2⟩ ⟨mB_blind, fun U hU hW => ⟨rfl, mB_of Cx hR hS U hU hW⟩⟩ rfl hn hl.1 rfl (lv_room hst) hd ⟨by obtain ⟨r1, r2, r3, r4, r5, r6⟩ := hr; omega, by obtain ⟨r1, r2, r3, r4, r5, r6⟩ := hr; omega⟩) kk (kx_out hh Cx hr hX)
theorem q_callIN (hd : decode M.2.1 pc = .ok (.invokespecial ix, 3)) (F : KIN M.1.cls ix M' n) (K : mMet l G M' d' mc' ms' (.ref a :: As) h Q' X') (hn : As.length = n) (hdd : d' + 1 ≤ d) (hst : (st.map fun v => v.category).sum ≤ 8) (hh : M.2.2.2.2 = []) (hX : ∀ E h', X' E h' → X E h')
    (kk : ∀ (v : Option Value) (h' : mH), Q' v h' → mW l G M d mc ms (pc + 3) ls (v.toList ++ st) h' Q X) : mW l G M d (mc' + mc) (ms' + ms) pc ls (As.reverse ++ .ref a :: st) h Q X := by
  intro p e R s m args below meth c0 A H locs cells slots mct mst lm Cx hr hR hS hl
  obtain ⟨B, ⟨host, w1⟩, w2, w3, w4⟩ := F
  have hts := Cx.2.2.2.2.2.1
  have hnw := Cx.2.2.2.2.2.2.2.2.2.2.1.2.2.1 _ w1
  have cb := cn_of (R := R) (s := s) (args := args) (mc' := mc') (ms' := ms') B hts hnw hr hdd
  rw [w4] at cb
  refine call_go Cx hr hR hS hl (vx_runIN ⟨Cx.1, Cx.2.1, Cx.2.2.2.1, Cx.2.2.2.2.1, hts⟩ K ⟨cb, w3, hts _ w2⟩ ⟨mB_blind, fun U hU hW => ⟨rfl, mB_of Cx hR hS U hU hW⟩⟩ rfl hn hl.1 rfl (lv_room hst) hd ⟨by obtain ⟨r1, r2, r3, r4, r5, r6⟩ := hr; omega, by obtain ⟨r1, r2, r3, r4, r5, r6⟩ := hr; omega⟩) kk (kx_out hh Cx hr hX)
end Rows
end CALLS
