/-! cost kept beside the answer: for methods that make cells in loops, or as many as their data asks -/
def adc {α : Type} (a b : Nat) (x : Option (α × Nat × Nat)) : Option (α × Nat × Nat) := match x with | none => none | some (o, c, m) => some (o, c + a, m + b)
theorem adc_some {α : Type} {a b : Nat} {x : Option (α × Nat × Nat)} {o : α} {c m : Nat} (h : adc a b x = some (o, c, m)) : ∃ c' m', c = c' + a ∧ m = m' + b ∧ x = some (o, c', m') := by
  match x, h with
  | some (o', c', m'), h => cases h; exact ⟨c', m', rfl, rfl, rfl⟩
def calC {ρ β : Type} (x : Option ((ρ × mH) × Nat × Nat)) (f : ρ → mH → Nat → Nat → Option β) : Option β := match x with | none => none | some (o, c, m) => f o.1 o.2 c m
theorem calC_some {ρ β : Type} {x : Option ((ρ × mH) × Nat × Nat)} {f : ρ → mH → Nat → Nat → Option β} {y : β} (h : calC x f = some y) : ∃ r h' c m, x = some ((r, h'), c, m) ∧ f r h' c m = some y := by
  match x, h with
  | some (o, c, m), h => exact ⟨o.1, o.2, c, m, rfl, h⟩
def inrC {σ ρ : Type} (x : Option (ρ × Nat × Nat)) : Option ((σ ⊕ ρ) × Nat × Nat) := match x with | none => none | some (r, c, m) => some (.inr r, c, m)
theorem inrC_some {σ ρ : Type} {x : Option (ρ × Nat × Nat)} {o : σ ⊕ ρ} {c m : Nat} (h : inrC x = some (o, c, m)) : ∃ r, x = some (r, c, m) ∧ o = .inr r := by
  match x, h with
  | some (r, c', m'), h => cases h; exact ⟨r, rfl, rfl⟩
def lpC {σ ρ : Type} (f : σ → Option ((σ ⊕ ρ) × Nat × Nat)) : Nat → σ → Option (ρ × Nat × Nat)
  | 0, _ => none
  | n + 1, s => match f s with
    | none => none
    | some (.inl s', c, m) => adc c m (lpC f n s')
    | some (.inr r, c, m) => some (r, c, m)
def lpKC {σ ρ : Type} (W : σ → Nat → Nat → Prop) (K : ρ → Nat → Nat → Prop) : σ ⊕ ρ → Nat → Nat → Prop
  | .inl s => W s
  | .inr r => K r
theorem lpC_go {σ ρ : Type} (W : σ → Nat → Nat → Prop) (K : ρ → Nat → Nat → Prop) (f : σ → Option ((σ ⊕ ρ) × Nat × Nat)) (hs : ∀ s o c m c2 m2, f s = some (o, c, m) → lpKC W K o c2 m2 → W s (c2 + c) (m2 + m)) :
    ∀ n s r c m c2 m2, lpC f n s = some (r, c, m) → K r c2 m2 → W s (c2 + c) (m2 + m)
  | 0, _, _, _, _, _, _, h, _ => by cases h
  | n + 1, s, r, c, m, c2, m2, h, hk => by
    unfold lpC at h
    cases hf : f s with
    | none => rw [hf] at h; cases h
    | some o =>
      obtain ⟨o, c1, m1⟩ := o
      rw [hf] at h
      cases o with
      | inl s' =>
        obtain ⟨c', m', rfl, rfl, h2⟩ := adc_some (x := lpC f n s') h
        rw [← Nat.add_assoc, ← Nat.add_assoc]
        exact hs s _ c1 m1 _ _ hf (lpC_go W K f hs n s' r c' m' c2 m2 h2 hk)
      | inr r' => cases h; exact hs s _ _ _ _ _ hf hk
def fiS (G : mG) (Q : Option Value → mH → Prop) (o : Nat × mH) : Prop := Q (some (.ref (sA G o.1))) o.2
section FUN4
variable {l : Launch} {G : mG} {M : mMI} {d mc ms pc : Nat} {ls : List (Option Value)} {st : List Value} {h h' : mH} {Q : Option Value → mH → Prop} {X : String → mH → Prop}
/-! statics, String constants -/
theorem q_getZ {ix : Nat} (hd : decode M.2.1 pc = .ok (.getstatic ix, 3)) (hl : Cond.fieldLink M.1.cls ix "java/lang/String" "COMPACT_STRINGS" "Z" ∈ GT) (kk : mW l G M d mc ms (pc + 3) ls (.int 1 :: st) h Q X) : mW l G M d mc ms pc ls st h Q X := by
  intro p e R s m args below meth c A H locs cells slots mct mst lm C hr hR hS hl'
  exact va_gets C.1 C.2.1 C.2.2.2.2.2.2.2.2.2.2.1.1.2.2.1 hS C.2.2.2.2.1 (C.2.2.2.2.2.1 _ hl) (fun x hx => hx) hd (kk p e R s m args below meth c A H locs cells slots mct mst lm C hr hR hS hl')
theorem q_getQ {ix : Nat} (hd : decode M.2.1 pc = .ok (.getstatic ix, 3)) (hl : Cond.fieldLink M.1.cls ix "jdk/internal/util/Preconditions" "SIOOBE_FORMATTER" "Ljava/util/function/BiFunction;" ∈ GT) (kk : ∀ z : Option Nat, mW l G M d mc ms (pc + 3) ls (va_rf z :: st) h Q X) : mW l G M d mc ms pc ls st h Q X := by
  intro p e R s m args below meth c A H locs cells slots mct mst lm C hr hR hS hl'
  rcases C.2.2.2.2.2.2.2.2.2.2.1.1.2.2.2.1 with hz | ⟨t, hz⟩
  · exact va_gets C.1 C.2.1 hz hS C.2.2.2.2.1 (C.2.2.2.2.2.1 _ hl) (fun x hx => hx) hd (kk none p e R s m args below meth c A H locs cells slots mct mst lm C hr hR hS hl')
  · exact va_gets C.1 C.2.1 hz hS C.2.2.2.2.1 (C.2.2.2.2.2.1 _ hl) (fun x hx => hx) hd (kk (some t) p e R s m args below meth c A H locs cells slots mct mst lm C hr hR hS hl')
theorem q_ldcS {ix j : Nat} {tx : String} (hd : decode M.2.1 pc = .ok (.ldc ix, 2)) (hj : sIx[j]? = some (ix, tx)) (hM : M.1.cls = RX9) (kk : mW l G M d mc ms (pc + 2) ls (.ref (sA G j) :: st) h Q X) : mW l G M d mc ms pc ls st h Q X := by
  intro p e R s m args below meth c A H locs cells slots mct mst lm C hr hR hS hl'
  exact va_ldcS C.1 C.2.1 (by rw [← hM]; exact C.2.2.2.2.1) (C.2.2.2.2.2.2.2.2.2.2.1.1.1 j _ hj) hd (kk p e R s m args below meth c A H locs cells slots mct mst lm C hr hR hS hl')
theorem q_strV {ix j : Nat} (hd : decode M.2.1 pc = .ok (.getfield ix, 3)) (hl : Cond.fieldLink M.1.cls ix "java/lang/String" "value" "[B" ∈ GT) (hj : j < 7) (kk : mW l G M d mc ms (pc + 3) ls (.ref (tA G j) :: st) h Q X) : mW l G M d mc ms pc ls (.ref (sA G j) :: st) h Q X := by
  intro p e R s m args below meth c A H locs cells slots mct mst lm C hr hR hS hl'
  exact vk_getf C.1 C.2.1 (C.2.2.2.2.2.2.2.2.2.2.1.1.2.1.1 j hj).2.2.1 hS C.2.2.2.2.1 (C.2.2.2.2.2.1 _ hl) (fun x hx => hx) hd (kk p e R s m args below meth c A H locs cells slots mct mst lm C hr hR hS hl')
theorem q_strC {ix j : Nat} (hd : decode M.2.1 pc = .ok (.getfield ix, 3)) (hl : Cond.fieldLink M.1.cls ix "java/lang/String" "coder" "B" ∈ GT) (hj : j < 7) (kk : mW l G M d mc ms (pc + 3) ls (.int 0 :: st) h Q X) : mW l G M d mc ms pc ls (.ref (sA G j) :: st) h Q X := by
  intro p e R s m args below meth c A H locs cells slots mct mst lm C hr hR hS hl'
  exact vk_getf C.1 C.2.1 (C.2.2.2.2.2.2.2.2.2.2.1.1.2.1.1 j hj).2.1 hS C.2.2.2.2.1 (C.2.2.2.2.2.1 _ hl) (fun x hx => hx) hd (kk p e R s m args below meth c A H locs cells slots mct mst lm C hr hR hS hl')
theorem q_strL {j : Nat} (hd : decode M.2.1 pc = .ok (.arraylength, 1)) (hj : j < 7) (kk : mW l G M d mc ms (pc + 1) ls (.int (Int32.ofNat (sLen.getD j 0)) :: st) h Q X) : mW l G M d mc ms pc ls (.ref (tA G j) :: st) h Q X := by
  intro p e R s m args below meth c A H locs cells slots mct mst lm C hr hR hS hl'
  exact va_tlen C.1 C.2.1 (C.2.2.2.2.2.2.2.2.2.2.1.1.2.1.1 j hj).2.2.2 hS rfl hd (kk p e R s m args below meth c A H locs cells slots mct mst lm C hr hR hS hl')
theorem q_strB {j : Nat} {i : Int32} (hd : decode M.2.1 pc = .ok (.baload, 1)) (hj : j < 7) (g : inb i (sLen.getD j 0)) (kk : mW l G M d mc ms (pc + 1) ls (.int ((sByt.getD j []).getD i.toNatClampNeg 0) :: st) h Q X) : mW l G M d mc ms pc ls (.int i :: .ref (tA G j) :: st) h Q X := by
  intro p e R s m args below meth c A H locs cells slots mct mst lm C hr hR hS hl'
  exact va_tb C.1 C.2.1 (C.2.2.2.2.2.2.2.2.2.2.1.1.2.1.1 j hj).2.2.2 hS (ix_of g).1 rfl hd (kk p e R s m args below meth c A H locs cells slots mct mst lm C hr hR hS hl')
theorem q_i2b {x : Int32} (hd : decode M.2.1 pc = .ok (.i2b, 1)) (kk : mW l G M d mc ms (pc + 1) ls (.int x.toInt8.toInt32 :: st) h Q X) : mW l G M d mc ms pc ls (.int x :: st) h Q X := by
  intro p e R s m args below meth c A H locs cells slots mct mst lm C hr hR hS hl'
  exact lv_i2b C.1 C.2.1 hd rfl (kk p e R s m args below meth c A H locs cells slots mct mst lm C hr hR hS hl')
theorem r_baload {a : Nat} {i : Int32} (hd : decode M.2.1 pc = .ok (.baload, 1)) (hkd : kd h a = 102) (g : inb i (sz h a)) (kk : mW l G M d mc ms (pc + 1) ls (.int (gi h a i.toNatClampNeg) :: st) h Q X) : mW l G M d mc ms pc ls (.int i :: .ref a :: st) h Q X := q_baload hd hkd (ix_of g) kk
theorem r_bastore {a : Nat} {i x : Int32} (hd : decode M.2.1 pc = .ok (.bastore, 1)) (hkd : kd h a = 102) (g : inb i (sz h a)) (hn : vp_nar .byte x = x) (hh : si h a i.toNatClampNeg x = h') (kk : mW l G M d mc ms (pc + 1) ls st h' Q X) : mW l G M d mc ms pc ls (.int x :: .int i :: .ref a :: st) h Q X := by
  subst hh; exact q_bastore hd hkd (ix_of g) (narB hn) kk
/-! calls on a String constant; of a method of the class above, by the receiver or by super -/
section Rows
variable {M' : mMI} {n d' mc' ms' ix a c : Nat} {As : List Value} {Q' : Option Value → mH → Prop} {X' : String → mH → Prop}
theorem q_callVs {j : Nat} (hd : decode M.2.1 pc = .ok (.invokevirtual ix, 3)) (F : KV M.1.cls ix M' n c) (K : mMet l G M' d' mc' ms' (.ref (sA G j) :: As) h Q' X') (hj : j < 7) (hC : M'.1.cls = "java/lang/String") (hn : As.length = n) (hdd : d' + 1 ≤ d) (hst : (st.map fun v => v.category).sum ≤ 8) (hh : M.2.2.2.2 = []) (hX : ∀ E h', X' E h' → X E h')
    (kk : ∀ (v : Option Value) (h' : mH), Q' v h' → mW l G M d mc ms (pc + 3) ls (v.toList ++ st) h' Q X) : mW l G M d (mc' + mc) (ms' + ms) pc ls (As.reverse ++ .ref (sA G j) :: st) h Q X := by
  intro p e R s m args below meth c0 A H locs cells slots mct mst lm Cx hr hR hS hl
  obtain ⟨B, w1, w2, w3, T, N, hc⟩ := F
  have hts := Cx.2.2.2.2.2.1
  have hrecv := vk_recv Cx.2.2.2.2.2.2.2.2.2.2.1.1.2.1 hj hS
  rw [← hC] at hrecv
  refine call_go Cx hr hR hS hl (vx_runV (C := M'.1.cls) ⟨Cx.1, Cx.2.1, Cx.2.2.2.1, Cx.2.2.2.2.1, hts⟩ K ⟨cb_of B hts w1 hr hdd, hts _ w2, hts _ w3⟩ ⟨mB_blind, hrecv, fun U hU hW => ⟨rfl, mB_of Cx hR hS U hU hW⟩⟩ rfl hn hl.1 rfl (lv_room hst) hd ⟨by obtain ⟨r1, r2, r3, r4, r5, r6⟩ := hr; omega, by obtain ⟨r1, r2, r3, r4, r5, r6⟩ := hr; omega⟩) kk (kx_out hh Cx hr hX)
/-- a method of the class above, found by the receiver -/
def KU (own : String) (ix : Nat) (M' : mMI) (n c : Nat) : Prop := KB M' n ∧ Cond.methodLink own ix M'.1 ∈ GT ∧ Cond.sameMethod M'.1.cls M'.1.cls M'.1.name M'.1.desc ∈ GT ∧ Cond.instanceMethod M'.1 ∈ GT ∧ ∃ C T N, vwCl[c]? = some (C, T, N) ∧ Cond.selects C M'.1 M'.1 ∈ GT
theorem ws_of {M' : mMI} {n : Nat} (B : KB M' n) : ∀ w ∈ mws M', w ∈ GT ∧ goodWord w = true := by
  rw [mws_nil B.1]
  intro w hw
  rcases List.mem_cons.mp hw with rfl | hw
  · exact ⟨B.2.1, gt_gw B.2.1⟩
  · exact ⟨hw, gt_gw hw⟩
theorem q_callU (hd : decode M.2.1 pc = .ok (.invokevirtual ix, 3)) (F : KU M.1.cls ix M' n c) (K : mMet l G M' d' mc' ms' (.ref a :: As) h Q' X') (hkd : kd h a = c + 1) (hn : As.length = n) (hdd : d' + 1 ≤ d) (hst : (st.map fun v => v.category).sum ≤ 8) (hh : M.2.2.2.2 = []) (hX : ∀ E h', X' E h' → X E h')
    (kk : ∀ (v : Option Value) (h' : mH), Q' v h' → mW l G M d mc ms (pc + 3) ls (v.toList ++ st) h' Q X) : mW l G M d (mc' + mc) (ms' + ms) pc ls (As.reverse ++ .ref a :: st) h Q X := by
  intro p e R s m args below meth c0 A H locs cells slots mct mst lm Cx hr hR hS hl
  obtain ⟨B, w1, w2, w3, C, T, N, hc, w4⟩ := F
  have hts := Cx.2.2.2.2.2.1
  have hG := ws_of B
  obtain ⟨r1, r2, r3, r4, r5, r6⟩ := id hr
  have cw : va_CU R s args M.1.cls C M'.1.cls ix M'.1 M'.1 M'.2.1 M'.2.2.1 M'.2.2.2.1 (mws M') (mrm d' mc' ms') mc' ms' n := by
    refine va_cwU (Ts := GT) n hts (ws' := GT) (fun w hw => ?_) (mws_nil B.1) rfl rfl rfl ⟨B.2.2.2.1, B.2.2.2.2.1, B.2.2.2.2.2.1⟩ ⟨by show d' + 8 + 1 ≤ _; omega, by have := B.2.2.2.2.2.2; show 8 + (M'.2.2.1 + 11) + (d' * 64 + 160) ≤ _; omega⟩
    unfold va_wsU at hw
    rcases List.mem_append.mp hw with hw | hw
    · rcases List.mem_cons.mp hw with rfl | hw
      · exact ⟨w1, good_of_word (gt_gw w1)⟩
      · rcases List.mem_cons.mp hw with rfl | hw
        · exact ⟨w2, good_of_word (gt_gw w2)⟩
        · rcases List.mem_cons.mp hw with rfl | hw
          · exact ⟨w4, good_of_word (gt_gw w4)⟩
          · rcases List.mem_cons.mp hw with rfl | hw
            · exact ⟨w3, good_of_word (gt_gw w3)⟩
            · rcases List.mem_cons.mp hw with rfl | hw
              · exact ⟨B.2.2.1, good_of_word (gt_gw B.2.2.1)⟩
              · cases hw
    · exact ⟨(hG w hw).1, good_of_word (hG w hw).2⟩
  refine call_go Cx hr hR hS hl (vx_runU (C := C) ⟨Cx.1, Cx.2.1, Cx.2.2.2.1, Cx.2.2.2.2.1, hts⟩ K cw ⟨mB_blind, mrecv Cx hR hkd hc, fun U hU hW => ⟨rfl, mB_of Cx hR hS U hU hW⟩⟩ rfl hn hl.1 rfl (lv_room hst) hd ⟨by omega, by omega⟩) kk (kx_out hh Cx hr hX)
/-- super.m(..) -/
def KSU (own : String) (ix : Nat) (M' : mMI) (n : Nat) : Prop := KB M' n ∧ Cond.methodLink own ix M'.1 ∈ GT ∧ Cond.sameMethod M'.1.cls M'.1.cls M'.1.name M'.1.desc ∈ GT ∧ Cond.superclass own M'.1.cls ∈ GT ∧ Cond.instanceMethod M'.1 ∈ GT ∧ M'.1.name ≠ "<init>"
theorem q_callSU {T : u_T} {N : Nat} {C : String} (hd : decode M.2.1 pc = .ok (.invokespecial ix, 3)) (F : KSU M.1.cls ix M' n) (K : mMet l G M' d' mc' ms' (.ref a :: As) h Q' X') (hkd : kd h a = c + 1) (hc : vwCl[c]? = some (C, T, N)) (hn : As.length = n) (hdd : d' + 1 ≤ d) (hst : (st.map fun v => v.category).sum ≤ 8) (hh : M.2.2.2.2 = []) (hX : ∀ E h', X' E h' → X E h')
    (kk : ∀ (v : Option Value) (h' : mH), Q' v h' → mW l G M d mc ms (pc + 3) ls (v.toList ++ st) h' Q X) : mW l G M d (mc' + mc) (ms' + ms) pc ls (As.reverse ++ .ref a :: st) h Q X := by
  intro p e R s m args below meth c0 A H locs cells slots mct mst lm Cx hr hR hS hl
  obtain ⟨B, w1, w2, w4, w3, hno⟩ := F
  have hts := Cx.2.2.2.2.2.1
  have hG := ws_of B
  obtain ⟨r1, r2, r3, r4, r5, r6⟩ := id hr
  have cw : va_CS R s args M.1.cls ix M'.1 M'.2.1 M'.2.2.1 M'.2.2.2.1 (mws M') (mrm d' mc' ms') mc' ms' n := by
    refine va_cwSU (Ts := GT) n hts (ws' := GT) (fun w hw => ?_) (mws_nil B.1) rfl rfl ⟨hno, B.2.2.2.2.2.1⟩ ⟨by show d' + 8 + 1 ≤ _; omega, by have := B.2.2.2.2.2.2; show 8 + (M'.2.2.1 + 11) + (d' * 64 + 160) ≤ _; omega⟩
    unfold va_wsSU at hw
    rcases List.mem_append.mp hw with hw | hw
    · rcases List.mem_cons.mp hw with rfl | hw
      · exact ⟨w1, good_of_word (gt_gw w1)⟩
      · rcases List.mem_cons.mp hw with rfl | hw
        · exact ⟨w2, good_of_word (gt_gw w2)⟩
        · rcases List.mem_cons.mp hw with rfl | hw
          · exact ⟨w4, good_of_word (gt_gw w4)⟩
          · rcases List.mem_cons.mp hw with rfl | hw
            · exact ⟨w3, good_of_word (gt_gw w3)⟩
            · rcases List.mem_cons.mp hw with rfl | hw
              · exact ⟨B.2.2.1, good_of_word (gt_gw B.2.2.1)⟩
              · cases hw
    · exact ⟨(hG w hw).1, good_of_word (hG w hw).2⟩
  have hat : ClassAt s C (G.1.1 c) := (Cx.2.2.2.2.2.2.2.2.2.1.1 c _ hc).2
  refine call_go Cx hr hR hS hl (vx_runSU (C := C) hat ⟨Cx.1, Cx.2.1, Cx.2.2.2.1, Cx.2.2.2.2.1, hts⟩ K cw ⟨mB_blind, mrecv Cx hR hkd hc, fun U hU hW => ⟨rfl, mB_of Cx hR hS U hU hW⟩⟩ rfl hn hl.1 rfl (lv_room hst) hd ⟨by omega, by omega⟩) kk (kx_out hh Cx hr hX)
end Rows
/-! System.arraycopy of ints, chars, bytes -/
def cp (h : mH) (b a sp dp n : Nat) : mH := (nx h, kd h, sz h, va_up (gi h) a (va_cpy (gi h b) (gi h a) sp dp n), gr h, gl h, gd h)
def ACl (own : String) (ix : Nat) : Prop := Cond.methodLink own ix arraycopyName ∈ GT ∧ Cond.native arraycopyName ∈ GT ∧ Cond.static arraycopyName ∈ GT ∧ Cond.initialized "java/lang/System" ∈ GT
theorem q_copy {a b ix c t0 : Nat} {t : FieldType} {sp dp n : Int32} (hd : decode M.2.1 pc = .ok (.invokestatic ix, 3)) (F : ACl M.1.cls ix) (ht : tyL[t0]? = some (c, t)) (hc : c < 105 ∧ 100 < c) (hp : refKind t = false) (hb : kd h b = c) (ha : kd h a = c) (h1 : ¬ sp < 0 ∧ ¬ dp < 0 ∧ ¬ n < 0 ∧ sp.toNatClampNeg + n.toNatClampNeg ≤ sz h b ∧ dp.toNatClampNeg + n.toNatClampNeg ≤ sz h a)
    (hf : ∀ i, i < n.toNatClampNeg → fits t (.int (gi h b (sp.toNatClampNeg + i))) = true) (hh : cp h b a sp.toNatClampNeg dp.toNatClampNeg n.toNatClampNeg = h') (hst : (st.map fun v => v.category).sum ≤ 8) (kk : mW l G M d mc ms (pc + 3) ls st h' Q X) : mW l G M d mc ms pc ls (.int n :: .int dp :: .ref a :: .int sp :: .ref b :: st) h Q X := by
  intro p e R s m args below meth c0 A H locs cells slots mct mst lm Cx hr hR hS hl
  subst hh
  obtain ⟨w1, w2, w3, w4⟩ := F
  obtain ⟨z1, z2, z3, z4, z5⟩ := h1
  obtain ⟨r1, r2, r3, r4, r5, r6⟩ := id hr
  have hts := Cx.2.2.2.2.2.1
  have hK := Cx.2.2.2.2.2.2.2.2.2.1
  obtain ⟨L, k0, hL, hP, hD, hka⟩ := mRel_at hR (a := a) (by omega)
  obtain ⟨k1, hkb⟩ := va_pl_get (X := []) (f := ent G.2.1 h) ((hL b).mpr (by omega))
  have hkb : (va_pl L (ent G.2.1 h))[k1]? = some (b, ent G.2.1 h b) := hkb
  have e1 : ∀ (h : mH) (a : Nat), arv c (sz h a) (gi h a) (gr h a) (gl h a) (gd h a) = (sz h a, .inl (gi h a)) := fun h a => by
    unfold arv
    rw [if_pos hc.1]
  have hka' := hka
  rw [ent_ar ha hc.2, e1] at hka'
  rw [ent_ar hb hc.2, e1] at hkb
  have nn : ∀ z : Int32, ¬ z < 0 → z.toInt = (z.toNatClampNeg : Int) := by
    intro z hz
    have hz0 : (0 : Int) ≤ z.toInt := by
      have := Int32.not_lt.mp hz
      simpa using Int32.le_iff_toInt_le.mp this
    show z.toInt = ((z.toInt.toNat : Nat) : Int)
    omega
  intro T hT Y
  have hc0 : H[b]? = some (vp_cell (G.2.1 c) (sz h b, .inl (gi h b))) := hP k1 _ hkb
  have hc1 : H[a]? = some (vp_cell (G.2.1 c) (sz h a, .inl (gi h a))) := hP k0 _ hka'
  obtain ⟨-, y0, hy0, cm0, hyy0⟩ := (hK.2 t0 _ (ty_at t0 ht)).1 (sz h b) (fun j => .int (gi h b j))
  obtain ⟨-, y1, hy1, cm1, hyy1⟩ := (hK.2 t0 _ (ty_at t0 ht)).1 (sz h a) (fun j => .int (gi h a j))
  obtain ⟨vm', Y', step⟩ := Y.arraycopy Cx.1 Cx.2.2.2.2.1 (hts _ w1) (hts _ w2) (hts _ w3) (hts _ w4) (src := b) (dst := a) (cs := vp_cell (G.2.1 c) (sz h b, .inl (gi h b))) (cd := vp_cell (G.2.1 c) (sz h a, .inl (gi h a))) (srcPos := sp) (destPos := dp) (n := n) (by rw [hT]; exact hc0) (by rw [hT]; exact hc1)
    (fun _ h => by cases h) (fun _ h => by cases h) (fun h => by cases h) (fun h => by cases h) hy0 hy1 hyy0 hyy1 (by simp [hp]) z1 z2 z3
    (by rw [nn sp z1, nn n z3]; show ¬ _ > ((arrV (G.2.1 c) (sz h b) (fun j => .int (gi h b j))).slots.size : Int); rw [arrV_size]; omega)
    (by rw [nn dp z2, nn n z3]; show ¬ _ > ((arrV (G.2.1 c) (sz h a) (fun j => .int (gi h a j))).slots.size : Int); rw [arrV_size]; omega)
    (fun vm₁ _ i hi => by
      have e : (vp_cell (G.2.1 c) (sz h b, .inl (gi h b))).slots.getD (sp.toNatClampNeg + i) .null = .int (gi h b (sp.toNatClampNeg + i)) := by
        show (arrV (G.2.1 c) (sz h b) (fun j => .int (gi h b j))).slots.getD _ _ = _
        rw [Array.getD_eq_getD_getElem?, arrV_read _ _ (by omega)]
        rfl
      rw [e]
      exact ⟨hf i hi, trivial⟩)
    (g := F0 m pc lm (.int n :: .int dp :: .ref a :: .int sp :: .ref b :: st)) rfl (by rw [Cx.2.2.2.1]; exact hl.1) (rest := st) rfl (by rw [Cx.2.1]; exact hd) (by omega) (by
      have : nativeFrameWords "java/lang/System" "arraycopy" 5 = 7 := by decide
      show 2 * 0 + _ + _ ≤ _
      rw [this]
      omega)
  have e2 : copied (vp_cell (G.2.1 c) (sz h b, .inl (gi h b))) (vp_cell (G.2.1 c) (sz h a, .inl (gi h a))) sp dp n = vp_cell (G.2.1 c) (sz h a, .inl (va_cpy (gi h b) (gi h a) sp.toNatClampNeg dp.toNatClampNeg n.toNatClampNeg)) := va_copied (fun z => .int z) (G.2.1 c) (G.2.1 c) (gi h b) (gi h a) z4
  rw [e2] at Y' step
  have hlt : a < H.size := (Array.getElem?_eq_some_iff.mp hc1).1
  have hheap : ((T.setVm vm').setCell a (vp_cell (G.2.1 c) (sz h a, .inl (va_cpy (gi h b) (gi h a) sp.toNatClampNeg dp.toNatClampNeg n.toNatClampNeg)))).heap = H.setIfInBounds a (vp_cell (G.2.1 c) (sz h a, .inl (va_cpy (gi h b) (gi h a) sp.toNatClampNeg dp.toNatClampNeg n.toNatClampNeg))) := by rw [← hT]; rfl
  have oq : ∀ q : Nat, q ≠ a → (H.setIfInBounds a (vp_cell (G.2.1 c) (sz h a, .inl (va_cpy (gi h b) (gi h a) sp.toNatClampNeg dp.toNatClampNeg n.toNatClampNeg))))[q]? = H[q]? := fun q hq => by simp [Array.getElem?_setIfInBounds, Ne.symm hq]
  have hz : (H.setIfInBounds a (vp_cell (G.2.1 c) (sz h a, .inl (va_cpy (gi h b) (gi h a) sp.toNatClampNeg dp.toNatClampNeg n.toNatClampNeg)))).size = H.size := by simp
  have hself : (H.setIfInBounds a (vp_cell (G.2.1 c) (sz h a, .inl (va_cpy (gi h b) (gi h a) sp.toNatClampNeg dp.toNatClampNeg n.toNatClampNeg))))[a]? = some (vp_cell (G.2.1 c) (sz h a, .inl (va_cpy (gi h b) (gi h a) sp.toNatClampNeg dp.toNatClampNeg n.toNatClampNeg))) := by simp [Array.getElem?_setIfInBounds, hlt]
  have hent : ent G.2.1 (cp h b a sp.toNatClampNeg dp.toNatClampNeg n.toNatClampNeg) a = .inl (G.2.1 c, sz h a, .inl (va_cpy (gi h b) (gi h a) sp.toNatClampNeg dp.toNatClampNeg n.toNatClampNeg)) := by
    rw [ent_ar (h := cp h b a sp.toNatClampNeg dp.toNatClampNeg n.toNatClampNeg) ha hc.2, e1]
    show Sum.inl (G.2.1 c, sz h a, Sum.inl (va_up (gi h) a (va_cpy (gi h b) (gi h a) sp.toNatClampNeg dp.toNatClampNeg n.toNatClampNeg) a)) = _
    rw [va_up_self]
  have hR1 := mRel_put (h' := cp h b a sp.toNatClampNeg dp.toNatClampNeg n.toNatClampNeg) (by rw [hz]; exact hR.1) hL hD hka (by omega) (hP.set hD hka (show va_at G.1 vwCl (a, .inl (G.2.1 c, sz h a, .inl (va_cpy (gi h b) (gi h a) sp.toNatClampNeg dp.toNatClampNeg n.toNatClampNeg))) _ from hself) oq) (hD.set hka) (fun _ => rfl) (fun q hq => ent_eq rfl rfl (va_up_ne _ _ hq) rfl rfl rfl) hent
  obtain ⟨t, a1, b1⟩ := kk p e R s m args below meth c0 A _ _ cells slots mct mst lm Cx hr hR1 ⟨by rw [hz]; exact hS.1, fun q g1 g2 => by
      rw [oq q (fun e => g2 (by rw [e]; exact hD.2 k0 _ hka))]
      exact hS.2.1 q g1 g2, fun q hq => by
      rcases List.mem_append.mp hq with h | h
      · exact hS.2.2 q h
      · obtain ⟨z, -, hz⟩ := List.mem_map.mp h
        rw [← hz]
        exact hD.2 k0 _ hka⟩ hl _ hheap Y'
  exact ⟨t, step t a1, b1⟩
end FUN4
