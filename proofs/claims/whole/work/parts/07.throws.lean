section THROWS
variable {l : Launch} {G : mG} {M : mMI} {d mc ms pc : Nat} {ls : List (Option Value)} {st : List Value} {h : mH} {Q : Option Value → mH → Prop} {X : String → mH → Prop}
/-- the words of 'throw new cls(text)' -/
def TW (own cls : String) (names : List String) (ik ic : Nat) : Prop := Bundle.fit cls = true ∧ (∀ n ∈ names, Bundle.fit n = true) ∧ Cond.classLink own ik cls ∈ GT ∧ Cond.initialized cls ∈ GT ∧ (∀ w ∈ vx_atS own ic cls names, w ∈ GT ∨ w ∈ NW) ∧ names.length ≤ 3
theorem NW_tab {w : Cond} (h : w ∈ NW) : w.onTables = true := by
  have h1 := List.all_eq_true.mp NW_nest w h
  cases w <;> simp [isNest] at h1 <;> rfl
theorem q_throwS {cls text : String} {names : List String} {ik is ic : Nat} (T : TW M.1.cls cls names ik ic) (hs : (M.1.cls, is, text) ∈ SRl)
    (d0 : decode M.2.1 pc = .ok (.new ik, 3)) (d3 : decode M.2.1 (pc + 3) = .ok (.dup, 1)) (d4 : decode M.2.1 (pc + 4) = .ok (.ldc is, 2)) (d6 : decode M.2.1 (pc + 6) = .ok (.invokespecial ic, 3)) (d9 : decode M.2.1 (pc + 9) = .ok (.athrow, 1))
    (hh : M.2.2.2.2 = []) (hst : (st.map fun v => v.category).sum ≤ 8) (hX : ∀ n, nx h ≤ n → X cls (sn h n)) : mW l G M d (mc + 1) (ms + 6) pc ls st h Q X := by
  intro p e R s m args below meth c0 A H locs cells slots mct mst lm Cx hr hR hS hl
  obtain ⟨t1, t2, t3, t4, t5, t6⟩ := T
  obtain ⟨r1, r2, r3, r4, r5, r6⟩ := hr
  have hts := Cx.2.2.2.2.2.1
  obtain ⟨-, e1, e2, e3, e4, e5, -⟩ := Cx.2.2.2.2.2.2.2.2.2.2.1
  obtain ⟨sa, hsa⟩ := e5 _ hs
  have hat : ∀ w ∈ vx_atS M.1.cls ic cls names, w.before args s = true := fun w hw => by
    rcases t5 w hw with g | g
    · exact hts w g
    · exact va_Nw.use (NW_tab g) (e2 w g)
  refine vx_throwS Cx.1 Cx.2.1 e1 Cx.2.2.2.2.1 t1 t2 (hts _ t3) (hts _ t4) hsa hat (fun w hw => ?_) e3 e4 hS (by rw [Cx.2.2.2.1]; exact hl.1) d0 d3 d4 d6 d9 (fun x hx => by rw [Cx.2.2.2.2.2.2.2.1, hh] at hx; cases hx) (by omega) (by omega) (by omega) (by omega) Cx.2.2.2.2.2.2.1 (fun t ht h1 h2 => ?_) hS.2.2 (by omega) (by omega)
  · rcases List.mem_cons.mp hw with rfl | hw
    · exact rfl
    · rcases List.mem_cons.mp hw with rfl | hw
      · exact rfl
      · unfold vx_ot
        rcases t5 w hw with g | g
        · rw [gt_gw g, Bool.or_true]
        · rw [NW_tab g, Bool.true_or]
  · rw [hR.1] at h1 h2
    exact ⟨⟨sn h t.heap.size, hX _ h1, mRel_grow hR h1 h2⟩, ⟨by have := hS.1; rw [hR.1] at this; omega, fun q hq hA => by rw [h2 q (by have := hS.1; rw [hR.1] at this; omega)]; exact hS.2.1 q hq hA⟩⟩
theorem q_throwSW {cls text : String} {names : List String} {ik is ic : Nat} (T : TW M.1.cls cls names ik ic) (hs : (M.1.cls, is, text) ∈ SRl)
    (d0 : decode M.2.1 pc = .ok (.new ik, 3)) (d3 : decode M.2.1 (pc + 3) = .ok (.dup, 1)) (d4 : decode M.2.1 (pc + 4) = .ok (.ldc_w is, 3)) (d7 : decode M.2.1 (pc + 7) = .ok (.invokespecial ic, 3)) (d10 : decode M.2.1 (pc + 10) = .ok (.athrow, 1))
    (hh : M.2.2.2.2 = []) (hst : (st.map fun v => v.category).sum ≤ 8) (hX : ∀ n, nx h ≤ n → X cls (sn h n)) : mW l G M d (mc + 1) (ms + 6) pc ls st h Q X := by
  intro p e R s m args below meth c0 A H locs cells slots mct mst lm Cx hr hR hS hl
  obtain ⟨t1, t2, t3, t4, t5, t6⟩ := T
  obtain ⟨r1, r2, r3, r4, r5, r6⟩ := hr
  have hts := Cx.2.2.2.2.2.1
  obtain ⟨-, e1, e2, e3, e4, e5, -⟩ := Cx.2.2.2.2.2.2.2.2.2.2.1
  obtain ⟨sa, hsa⟩ := e5 _ hs
  have hat : ∀ w ∈ vx_atS M.1.cls ic cls names, w.before args s = true := fun w hw => by
    rcases t5 w hw with g | g
    · exact hts w g
    · exact va_Nw.use (NW_tab g) (e2 w g)
  refine vx_throwSW Cx.1 Cx.2.1 e1 Cx.2.2.2.2.1 t1 t2 (hts _ t3) (hts _ t4) hsa hat (fun w hw => ?_) e3 e4 hS (by rw [Cx.2.2.2.1]; exact hl.1) d0 d3 d4 d7 d10 (fun x hx => by rw [Cx.2.2.2.2.2.2.2.1, hh] at hx; cases hx) (by omega) (by omega) (by omega) (by omega) Cx.2.2.2.2.2.2.1 (fun t ht h1 h2 => ?_) hS.2.2 (by omega) (by omega)
  · rcases List.mem_cons.mp hw with rfl | hw
    · exact rfl
    · rcases List.mem_cons.mp hw with rfl | hw
      · exact rfl
      · unfold vx_ot
        rcases t5 w hw with g | g
        · rw [gt_gw g, Bool.or_true]
        · rw [NW_tab g, Bool.true_or]
  · rw [hR.1] at h1 h2
    exact ⟨⟨sn h t.heap.size, hX _ h1, mRel_grow hR h1 h2⟩, ⟨by have := hS.1; rw [hR.1] at this; omega, fun q hq hA => by rw [h2 q (by have := hS.1; rw [hR.1] at this; omega)]; exact hS.2.1 q hq hA⟩⟩
/-- E thrown at pc is taken by the handler at hp -/
def HC (M : mMI) (pc : Nat) (E : String) (hp : Nat) : Prop := ∃ (pre : List ExceptionTableEntry) (x : ExceptionTableEntry) (suf : List ExceptionTableEntry), tableOf M.2.2.2.2 = pre ++ x :: suf ∧ x.handlerPc = hp ∧ covers x pc = true ∧ x.catchType ≠ 0 ∧ Cond.classLink M.1.cls x.catchType E ∈ GT ∧ Cond.castable E E ∈ NW ∧ ∀ z ∈ pre, covers z pc = false ∨ (z.catchType ≠ 0 ∧ ∃ nm, Cond.classLink M.1.cls z.catchType nm ∈ GT ∧ (E, nm) ∈ NCl)
theorem q_callVH {M' : mMI} {n d' mc' ms' ix a c : Nat} {As : List Value} {Q' : Option Value → mH → Prop} {X' : String → mH → Prop} (hd : decode M.2.1 pc = .ok (.invokevirtual ix, 3)) (F : KV M.1.cls ix M' n c) (K : mMet l G M' d' mc' ms' (.ref a :: As) h Q' X') (hkd : kd h a = c + 1) (hn : As.length = n) (hdd : d' + 1 ≤ d) (hst : (st.map fun v => v.category).sum ≤ 8)
    (kx : ∀ E h', X' E h' → ∃ hp, HC M pc E hp ∧ ∀ q, mW l G M d mc ms hp ls [.ref q] h' Q X)
    (kk : ∀ (v : Option Value) (h' : mH), Q' v h' → mW l G M d mc ms (pc + 3) ls (v.toList ++ st) h' Q X) : mW l G M d (mc' + mc) (ms' + ms) pc ls (As.reverse ++ .ref a :: st) h Q X := by
  intro p e R s m args below meth c0 A H locs cells slots mct mst lm Cx hr hR hS hl
  obtain ⟨B, w1, w2, w3, T, N, hc⟩ := F
  have hts := Cx.2.2.2.2.2.1
  refine call_go Cx hr hR hS hl (vx_runV (C := M'.1.cls) ⟨Cx.1, Cx.2.1, Cx.2.2.2.1, Cx.2.2.2.2.1, hts⟩ K ⟨cb_of B hts w1 hr hdd, hts _ w2, hts _ w3⟩ ⟨mB_blind, mrecv Cx hR hkd hc, fun U hU hW => ⟨rfl, mB_of Cx hR hS U hU hW⟩⟩ rfl hn hl.1 rfl (lv_room hst) hd ⟨by obtain ⟨r1, r2, r3, r4, r5, r6⟩ := hr; omega, by obtain ⟨r1, r2, r3, r4, r5, r6⟩ := hr; omega⟩) kk ?_
  intro E h' ce q H1 locs1 hx hR1 hS1 h1 h2 h3
  obtain ⟨r1, r2, r3, r4, r5, r6⟩ := hr
  obtain ⟨hp, ⟨pre, x, suf, g1, g2, g3, g4, g5, g6, g7⟩, kq⟩ := kx E h' hx
  obtain ⟨-, e1, e2, e3, e4, e5, e6, e7, e8, e9⟩ := Cx.2.2.2.2.2.2.2.2.2.2.1
  refine vx_catch (own := M.1.cls) (name := E) Cx.2.2.2.2.1 pre x suf (by rw [Cx.2.2.2.2.2.2.2.1]; exact g1) (fun z hz => ?_) g3 g4 (hts _ g5) (va_Nw.use (NW_tab g6) (e2 _ g6)) h1 h2 h3 ?_
  · rcases g7 z hz with g | ⟨g, nm, g8, g9⟩
    · exact Or.inl g
    · exact Or.inr ⟨g, nm, hts _ g8, e9 _ g9⟩
  · rw [g2]
    exact kq q p e R s m args below meth c0 A H1 locs1 _ _ mct mst lm Cx ⟨r1, r2, by omega, by omega, r5, r6⟩ hR1 hS1 hl
end THROWS
