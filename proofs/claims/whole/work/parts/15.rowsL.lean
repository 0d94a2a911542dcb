section LAWROWS
variable {l : Launch} {G : mG} {M : mMI} {d mc ms pc : Nat} {ls : List (Option Value)} {st : List Value} {h : mH} {Q : Option Value → mH → Prop} {X : String → mH → Prop}
/-! the script: its length, its ints -/
theorem q_slen (hd : decode M.2.1 pc = .ok (.arraylength, 1)) (kk : mW l G M d mc ms (pc + 1) ls (.int (nI (sL G)) :: st) h Q X) : mW l G M d mc ms pc ls (.ref (sB G) :: st) h Q X := by
  intro p e R s m args below meth c A H locs cells slots mct mst lm C hr hR hS hl
  obtain ⟨-, -, -, -, g5, g6⟩ := C.2.2.2.2.2.2.2.2.2.2.1.1
  have hbl : sB G < s.heap.size := by obtain ⟨_, e, _⟩ := g6; exact (Array.getElem?_eq_some_iff.mp e).1
  exact va_slen C.1 C.2.1 g6 hbl g5 hS hd (kk p e R s m args below meth c A H locs cells slots mct mst lm C hr hR hS hl)
theorem q_sld {i : Int32} (hd : decode M.2.1 pc = .ok (.iaload, 1)) (g : inb i (sL G)) (kk : mW l G M d mc ms (pc + 1) ls (.int (sX G i.toNatClampNeg) :: st) h Q X) : mW l G M d mc ms pc ls (.int i :: .ref (sB G) :: st) h Q X := by
  intro p e R s m args below meth c A H locs cells slots mct mst lm C hr hR hS hl
  obtain ⟨-, -, -, -, g5, g6⟩ := C.2.2.2.2.2.2.2.2.2.2.1.1
  have hbl : sB G < s.heap.size := by obtain ⟨_, e, _⟩ := g6; exact (Array.getElem?_eq_some_iff.mp e).1
  exact va_sld C.1 C.2.1 g6 hbl g5 hS (ix_of g).1 hd (kk p e R s m args below meth c A H locs cells slots mct mst lm C hr hR hS hl)
/-! a static method that has handlers -/
abbrev mCodeH (M' : mMI) : Cond := Cond.codeWith M'.1 M'.2.1 M'.2.2.1 M'.2.2.2.1 M'.2.2.2.2
def KSX (own : String) (ix : Nat) (M' : mMI) (n : Nat) : Prop := M'.2.2.2.2 ≠ [] ∧ mCodeH M' ∈ GT ∧ Cond.initialized M'.1.cls ∈ GT ∧ M'.1.cls ≠ "java/lang/invoke/MethodHandle" ∧ M'.1.cls ≠ "java/lang/invoke/VarHandle" ∧ (parseMethodDescriptor M'.1.desc).map (fun d => d.parameters.length) = some n ∧ M'.2.2.1 ≤ 40 ∧ Cond.methodLink own ix M'.1 ∈ GT ∧ Cond.static M'.1 ∈ GT
theorem q_callSX {M' : mMI} {n d' mc' ms' ix : Nat} {As : List Value} {Q' : Option Value → mH → Prop} {X' : String → mH → Prop} (hd : decode M.2.1 pc = .ok (.invokestatic ix, 3)) (F : KSX M.1.cls ix M' n) (K : mMet l G M' d' mc' ms' As h Q' X') (hn : As.length = n) (hdd : d' + 1 ≤ d) (hst : (st.map fun v => v.category).sum ≤ 8) (hh : M.2.2.2.2 = []) (hX : ∀ E h', X' E h' → X E h')
    (kk : ∀ (v : Option Value) (h' : mH), Q' v h' → mW l G M d mc ms (pc + 3) ls (v.toList ++ st) h' Q X) : mW l G M d (mc' + mc) (ms' + ms) pc ls (As.reverse ++ st) h Q X := by
  intro p e R s m args below meth c0 A H locs cells slots mct mst lm Cx hr hR hS hl
  obtain ⟨b0, b1, b2, b3, b4, b5, b6, w1, w2⟩ := F
  have hts := Cx.2.2.2.2.2.1
  have hws : mws M' = mCodeH M' :: GT := by unfold mws; rw [if_neg b0]
  refine call_go Cx hr hR hS hl (vx_runSX (hh := M'.2.2.2.2) ⟨Cx.1, Cx.2.1, Cx.2.2.2.1, Cx.2.2.2.2.1, hts⟩ K (vx_cwSW (Ts := GT) (bytes := M'.2.1) (maxL := M'.2.2.1) (ret := M'.2.2.2.1) n hts ?_ hws rfl rfl ⟨b3, b4, b5⟩ ?_) ⟨mB_blind, fun U hU hW => ⟨rfl, mB_of Cx hR hS U hU hW⟩⟩ rfl hn hl.1 rfl (lv_room hst) hd ⟨by obtain ⟨r1, r2, r3, r4, r5, r6⟩ := hr; omega, by obtain ⟨r1, r2, r3, r4, r5, r6⟩ := hr; omega⟩) kk (kx_out hh Cx hr hX)
  · rw [hws]
    intro w hw
    unfold va_wsS at hw
    rcases List.mem_append.mp hw with hw | hw
    · have hg : w ∈ GT := by
        rcases List.mem_cons.mp hw with rfl | hw
        · exact w1
        · rcases List.mem_cons.mp hw with rfl | hw
          · exact w2
          · rcases List.mem_cons.mp hw with rfl | hw
            · exact b2
            · cases hw
      exact gt_good w hg
    · rcases List.mem_cons.mp hw with rfl | hw
      · exact gt_good _ b1
      · exact gt_good w hw
  · obtain ⟨r1, r2, r3, r4, r5, r6⟩ := hr
    exact ⟨by show d' + 8 + 1 ≤ _; omega, by show 8 + (M'.2.2.1 + 11) + (d' * 64 + 160) ≤ _; omega⟩
end LAWROWS
