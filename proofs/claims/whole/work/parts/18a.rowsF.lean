section FLOATS
variable {l : Launch} {G : mG} {M : mMI} {d mc ms pc : Nat} {ls : List (Option Value)} {P : Array Slot → Prop} {st : List Value} {h : mH} {Q : Option Value → mH → Prop} {X : String → mH → Prop}
theorem q_fload {i : Nat} {x : UInt32} (hd : decode M.2.1 pc = .ok (.fload i, 2)) (hi : ls[i]? = some (some (.float x))) (kk : mW l G M d mc ms (pc + 2) ls (.float x :: st) h Q X) : mW l G M d mc ms pc ls (st) h Q X := by
  intro p e R s m args below meth c A H locs cells slots mct mst lm C hr hR hS hl
  exact lv_fload C.1 C.2.1 hd (hl.2.2 _ _ hi).1 (kk p e R s m args below meth c A H locs cells slots mct mst lm C hr hR hS hl)
theorem q_fstore {i : Nat} {x : UInt32} (hd : decode M.2.1 pc = .ok (.fstore i, 2)) (hi : i < M.2.2.1) (kk : mW l G M d mc ms (pc + 2) (ls.set i (some (.float x))) st h Q X) : mW l G M d mc ms pc ls (.float x :: st) h Q X := by
  intro p e R s m args below meth c A H locs cells slots mct mst lm C hr hR hS hl
  exact lv_fstore C.1 C.2.1 hd (mLs_has hl) hi rfl (fun lm' h' => kk p e R s m args below meth c A H locs cells slots mct mst lm' C hr hR hS (mLs_set hl rfl h'))
/-- as mW, but the locals are said by P -/
def mWp (l : Launch) (G : mG) (M : mMI) (d mc ms pc : Nat) (P : Array Slot → Prop) (st : List Value) (h : mH) (Q : Option Value → mH → Prop) (X : String → mH → Prop) : Prop :=
  ∀ (p : Program) (e : Env) (R : Room) (s : State) (m : MethodId) (args : Array Value) (below : List Frame) (meth : Method) (c : Code) (A : Nat → Prop) (H : Heap) (locs : List Loc) (cells slots mct mst : Nat) (lm : Array Slot),
    mCx l G M p s m args meth c A → mRoom R d mc ms cells slots mct mst → mRel G h A H → va_S A s.heap H locs → P lm →
    W p l e R s m args below meth c H locs cells slots (vx_MQ below (mQc G Q A) (mXc G X A) args s mct mst A) (F0 m pc lm st)
/-- the known locals, and a double at i -/
def pD (n i : Nat) (x : UInt64) (ls : List (Option Value)) (lm : Array Slot) : Prop := mLs lm n ls ∧ lm[i]? = some (.val (.double x))
theorem q_dstoreP {i : Nat} {x : UInt64} (hd : decode M.2.1 pc = .ok (.dstore i, 2)) (hi : i + 1 < M.2.2.1) (hls : ∀ j v, ls[j]? = some (some v) → j < i) (kk : mWp l G M d mc ms (pc + 2) (pD M.2.2.1 i x ls) st h Q X) : mW l G M d mc ms pc ls (.double x :: st) h Q X := by
  intro p e R s m args below meth c A H locs cells slots mct mst lm C hr hR hS hl
  refine lv_dstore C.1 C.2.1 hd (mLs_has hl) hi rfl (fun lm' h' => kk p e R s m args below meth c A H locs cells slots mct mst lm' C hr hR hS ⟨⟨h'.1, h'.2.1, fun j v hj => ?_⟩, h'.2.2 _ List.mem_cons_self⟩)
  have h1 := mAs_mem ls 0 j v hj
  rw [Nat.zero_add] at h1
  have hc := (hl.2.2 j v hj).2
  have hlt := hls j v hj
  refine ⟨h'.2.2 (j, v) (List.mem_cons_of_mem _ (List.mem_filter.mpr ⟨h1, ?_⟩)), hc⟩
  have e1 : (j == i) = false := by simp; omega
  have e2 : (j == i + 1) = false := by simp; omega
  have e3 : (v.category == 2) = false := by rw [hc]; rfl
  simp [e1, e2, e3]
theorem p_end (hw : ∀ lm, P lm → mLs lm M.2.2.1 ls) (kk : mW l G M d mc ms pc ls st h Q X) : mWp l G M d mc ms pc P st h Q X := by
  intro p e R s m args below meth c A H locs cells slots mct mst lm C hr hR hS hl
  exact kk p e R s m args below meth c A H locs cells slots mct mst lm C hr hR hS (hw lm hl)
theorem p_room {d' mc' ms' : Nat} (h1 : d' ≤ d) (h2 : mc' ≤ mc) (h3 : ms' ≤ ms) (kk : mWp l G M d' mc' ms' pc P st h Q X) : mWp l G M d mc ms pc P st h Q X := by
  intro p e R s m args below meth c A H locs cells slots mct mst lm C hr hR hS hl
  obtain ⟨a1, a2, a3, a4, a5, a6⟩ := hr
  exact kk p e R s m args below meth c A H locs cells slots mct mst lm C ⟨by omega, by omega, by omega, by omega, a5, a6⟩ hR hS hl
theorem p_aload_n {k : Fin 4} {x : Nat} (hd : decode M.2.1 pc = .ok (.aload_n k, 1)) (hi : ∀ lm, P lm → lm[(k : Nat)]? = some (.val (.ref x))) (kk : mWp l G M d mc ms (pc + 1) P (.ref x :: st) h Q X) : mWp l G M d mc ms pc P (st) h Q X := by
  intro p e R s m args below meth c A H locs cells slots mct mst lm C hr hR hS hl
  exact lv_aload_n C.1 C.2.1 hd rfl (hi lm hl) (kk p e R s m args below meth c A H locs cells slots mct mst lm C hr hR hS hl)
theorem p_aload {i : Nat} {x : Nat} (hd : decode M.2.1 pc = .ok (.aload i, 2)) (hi : ∀ lm, P lm → lm[i]? = some (.val (.ref x))) (kk : mWp l G M d mc ms (pc + 2) P (.ref x :: st) h Q X) : mWp l G M d mc ms pc P (st) h Q X := by
  intro p e R s m args below meth c A H locs cells slots mct mst lm C hr hR hS hl
  exact lv_aload C.1 C.2.1 hd (hi lm hl) (kk p e R s m args below meth c A H locs cells slots mct mst lm C hr hR hS hl)
theorem p_iload {i : Nat} {x : Int32} (hd : decode M.2.1 pc = .ok (.iload i, 2)) (hi : ∀ lm, P lm → lm[i]? = some (.val (.int x))) (kk : mWp l G M d mc ms (pc + 2) P (.int x :: st) h Q X) : mWp l G M d mc ms pc P (st) h Q X := by
  intro p e R s m args below meth c A H locs cells slots mct mst lm C hr hR hS hl
  exact lv_iload C.1 C.2.1 hd (hi lm hl) (kk p e R s m args below meth c A H locs cells slots mct mst lm C hr hR hS hl)
theorem p_dload {i : Nat} {x : UInt64} (hd : decode M.2.1 pc = .ok (.dload i, 2)) (hi : ∀ lm, P lm → lm[i]? = some (.val (.double x))) (kk : mWp l G M d mc ms (pc + 2) P (.double x :: st) h Q X) : mWp l G M d mc ms pc P (st) h Q X := by
  intro p e R s m args below meth c A H locs cells slots mct mst lm C hr hR hS hl
  exact lv_dload C.1 C.2.1 hd (hi lm hl) (kk p e R s m args below meth c A H locs cells slots mct mst lm C hr hR hS hl)
theorem p_iconst {n : Int} (hd : decode M.2.1 pc = .ok (.iconst n, 1)) (kk : mWp l G M d mc ms (pc + 1) P (.int (Int32.ofInt n) :: st) h Q X) : mWp l G M d mc ms pc P (st) h Q X := by
  intro p e R s m args below meth c A H locs cells slots mct mst lm C hr hR hS hl
  exact lv_iconst C.1 C.2.1 hd rfl (kk p e R s m args below meth c A H locs cells slots mct mst lm C hr hR hS hl)
theorem p_icmp_eq {x y : Int32} {off : Int} {tgt : Nat} (hd : decode M.2.1 pc = .ok (.if_icmp .eq off, 3)) (ht : (pc : Int) + off = (tgt : Int)) (kt : x = y → mWp l G M d mc ms tgt P st h Q X) (kf : ¬ x = y → mWp l G M d mc ms (pc + 3) P st h Q X) : mWp l G M d mc ms pc P (.int y :: .int x :: st) h Q X := by
  intro p e R s m args below meth c A H locs cells slots mct mst lm C hr hR hS hl
  exact lv_icmp_eq C.1 C.2.1 hd ht (fun z => kt z p e R s m args below meth c A H locs cells slots mct mst lm C hr hR hS hl) (fun z => kf z p e R s m args below meth c A H locs cells slots mct mst lm C hr hR hS hl)
theorem p_if_ne {x : Int32} {off : Int} {tgt : Nat} (hd : decode M.2.1 pc = .ok (.ifCond .ne off, 3)) (ht : (pc : Int) + off = (tgt : Int)) (kt : x ≠ 0 → mWp l G M d mc ms tgt P st h Q X) (kf : x = 0 → mWp l G M d mc ms (pc + 3) P st h Q X) : mWp l G M d mc ms pc P (.int x :: st) h Q X := by
  intro p e R s m args below meth c A H locs cells slots mct mst lm C hr hR hS hl
  exact lv_if_ne C.1 C.2.1 hd ht (fun z => kt z p e R s m args below meth c A H locs cells slots mct mst lm C hr hR hS hl) (fun z => kf z p e R s m args below meth c A H locs cells slots mct mst lm C hr hR hS hl)
theorem p_if_eq {x : Int32} {off : Int} {tgt : Nat} (hd : decode M.2.1 pc = .ok (.ifCond .eq off, 3)) (ht : (pc : Int) + off = (tgt : Int)) (kt : x = 0 → mWp l G M d mc ms tgt P st h Q X) (kf : ¬ x = 0 → mWp l G M d mc ms (pc + 3) P st h Q X) : mWp l G M d mc ms pc P (.int x :: st) h Q X := by
  intro p e R s m args below meth c A H locs cells slots mct mst lm C hr hR hS hl
  exact lv_if_eq C.1 C.2.1 hd ht (fun z => kt z p e R s m args below meth c A H locs cells slots mct mst lm C hr hR hS hl) (fun z => kf z p e R s m args below meth c A H locs cells slots mct mst lm C hr hR hS hl)
theorem p_dcmp {x y : UInt64} {op : CmpOp} (hd : decode M.2.1 pc = .ok (.dcmp op, 1)) (kk : mWp l G M d mc ms (pc + 1) P (.int (Op.cmpValue (FP.dcmp x y) op) :: st) h Q X) : mWp l G M d mc ms pc P (.double y :: .double x :: st) h Q X := by
  intro p e R s m args below meth c A H locs cells slots mct mst lm C hr hR hS hl
  exact lv_dcmp C.1 C.2.1 hd (kk p e R s m args below meth c A H locs cells slots mct mst lm C hr hR hS hl)
theorem p_goto {off : Int} {tgt : Nat} (hd : decode M.2.1 pc = .ok (.goto off, 3)) (ht : (pc : Int) + off = (tgt : Int)) (kk : mWp l G M d mc ms tgt P (st) h Q X) : mWp l G M d mc ms pc P (st) h Q X := by
  intro p e R s m args below meth c A H locs cells slots mct mst lm C hr hR hS hl
  exact lv_goto C.1 C.2.1 hd ht (kk p e R s m args below meth c A H locs cells slots mct mst lm C hr hR hS hl)
theorem p_daload {a j : Nat} {i : Int32} (hd : decode M.2.1 pc = .ok (.daload, 1)) (hkd : kd h a = 106) (hx : Ix i j (sz h a)) (kk : mWp l G M d mc ms (pc + 1) P (.double (gd h a j) :: st) h Q X) : mWp l G M d mc ms pc P (.int i :: .ref a :: st) h Q X := by
  intro p e R s m args below meth c0 A H locs cells slots mct mst lm Cx hr hR hS hl
  obtain ⟨L, k0, hL, hP, hD, hk⟩ := mRel_at hR (a := a) (by omega)
  rw [ent_ar hkd (by omega)] at hk
  have kk' := kk p e R s m args below meth c0 A H locs cells slots mct mst lm Cx hr hR hS hl
  rw [← hx.2] at kk'
  exact va_dald Cx.1 Cx.2.1 Cx.2.2.2.2.2.2.2.2.2.1 hP k0 5 hk (ty_at 5 rfl) hx.1 hd kk'
theorem callp_go {p : Program} {e : Env} {R : Room} {s : State} {m : MethodId} {args : Array Value} {below : List Frame} {meth : Method} {c : Code} {A : Nat → Prop} {H : Heap} {locs : List Loc} {cells slots mct mst mc' ms' : Nat} {lm : Array Slot} {a : Array Value} {st0 : List Value} {Q' : Option Value → mH → Prop} {X' : String → mH → Prop}
    (Cx : mCx l G M p s m args meth c A) (hr : mRoom R d (mc' + mc) (ms' + ms) cells slots mct mst) (hR : mRel G h A H) (hS : va_S A s.heap H locs) (hl : P lm)
    (run : vx_Run p l e R s m args below meth c H locs cells slots mc' ms' (F0 m pc lm st0) st (mQc G Q' (mA h) a) (mXc G X' (mA h)) (mA h))
    (kk : ∀ (v : Option Value) (h' : mH), Q' v h' → mWp l G M d mc ms (pc + 3) P (v.toList ++ st) h' Q X)
    (kx : ∀ (E : String) (h' : mH) (ce : Cell) (q : Addr) (H1 : Heap) (locs1 : List Loc), X' E h' → mRel G h' A H1 → va_S A s.heap H1 locs1 → H1[q]? = some ce → ce.vm = .none → s.vm.findClass E = some ce.cls → vx_W p l e R s m args below meth c H1 locs1 (cells + mc') (slots + ms') (vx_MQ below (mQc G Q A) (mXc G X A) args s mct mst A) (F0 m pc lm st) q) :
    W p l e R s m args below meth c H locs cells slots (vx_MQ below (mQc G Q A) (mXc G X A) args s mct mst A) (F0 m pc lm st0) := by
  have hA : ∀ q, mA h q → A q := fun q hq => by
    rcases hq with hq | hq
    · exact (mRel_A hR hq).1
    · exact Cx.2.2.2.2.2.2.2.2.2.2.2 q (by have := hS.1; rw [hR.1] at this; omega)
  obtain ⟨r1, r2, r3, r4, r5, r6⟩ := hr
  intro T hT X0
  rcases run T hT X0 with ⟨v, st₀, t, T', L, h0, X1, hL, e1, e2, ⟨⟨v', h', hv, hq, hR1⟩, hF⟩, go⟩ | ⟨q, st₀, t, T', L, E, ce, h0, X1, hL, e1, e2, ⟨⟨h', hx, hR1⟩, hF⟩, hce, hcv, hcl, go⟩
  · cases hv
    obtain ⟨k1, k2, k3⟩ := vx_keep h0 e1 hS (fun q _ hq => hA q hq) hA hL hF
    obtain ⟨t2, a1, b1⟩ := kk v h' hq p e R s m args below meth c A T'.heap (locs ++ L) (cells + mc') (slots + ms') mct mst lm Cx ⟨r1, r2, by omega, by omega, r5, r6⟩ (mRel_weaken (by rw [e1]; exact hR1) hA) k3 hl T' rfl X1
    exact ⟨t2, go t2 a1, b1⟩
  · obtain ⟨k1, k2, k3⟩ := vx_keep h0 e1 hS (fun q _ hq => hA q hq) hA hL hF
    obtain ⟨t2, a1, b1⟩ := kx E h' ce q T'.heap (locs ++ L) hx (mRel_weaken (by rw [e1]; exact hR1) hA) k3 (by rw [e1]; exact hce) hcv hcl T' rfl X1
    exact ⟨t2, go.trans a1, b1⟩
theorem p_callV {M' : mMI} {n d' mc' ms' ix a c : Nat} {As : List Value} {Q' : Option Value → mH → Prop} {X' : String → mH → Prop} (hz : ∀ lm, P lm → lm.size = M.2.2.1) (hd : decode M.2.1 pc = .ok (.invokevirtual ix, 3)) (F : KV M.1.cls ix M' n c) (K : mMet l G M' d' mc' ms' (.ref a :: As) h Q' X') (hkd : kd h a = c + 1) (hn : As.length = n) (hdd : d' + 1 ≤ d) (hst : (st.map fun v => v.category).sum ≤ 8) (hh : M.2.2.2.2 = []) (hX : ∀ E h', X' E h' → X E h')
    (kk : ∀ (v : Option Value) (h' : mH), Q' v h' → mWp l G M d mc ms (pc + 3) P (v.toList ++ st) h' Q X) : mWp l G M d (mc' + mc) (ms' + ms) pc P (As.reverse ++ .ref a :: st) h Q X := by
  intro p e R s m args below meth c0 A H locs cells slots mct mst lm Cx hr hR hS hl
  obtain ⟨B, w1, w2, w3, T, N, hc⟩ := F
  have hts := Cx.2.2.2.2.2.1
  refine callp_go Cx hr hR hS hl (vx_runV (C := M'.1.cls) ⟨Cx.1, Cx.2.1, Cx.2.2.2.1, Cx.2.2.2.2.1, hts⟩ K ⟨cb_of B hts w1 hr hdd, hts _ w2, hts _ w3⟩ ⟨mB_blind, mrecv Cx hR hkd hc, fun U hU hW => ⟨rfl, mB_of Cx hR hS U hU hW⟩⟩ rfl hn (hz lm hl) rfl (lv_room hst) hd ⟨by obtain ⟨r1, r2, r3, r4, r5, r6⟩ := hr; omega, by obtain ⟨r1, r2, r3, r4, r5, r6⟩ := hr; omega⟩) kk (kx_out hh Cx hr hX)
theorem pD_at {n i j : Nat} {x : UInt64} {v : Value} (hj : ls[j]? = some (some v)) : ∀ lm, pD n i x ls lm → lm[j]? = some (.val v) := fun _ h => (h.1.2.2 _ _ hj).1
theorem pD_d {n i : Nat} {x : UInt64} : ∀ lm, pD n i x ls lm → lm[i]? = some (.val (.double x)) := fun _ h => h.2
theorem pD_z {n i : Nat} {x : UInt64} : ∀ lm, pD n i x ls lm → lm.size = n := fun _ h => h.1.1
theorem pD_l {n i : Nat} {x : UInt64} : ∀ lm, pD n i x ls lm → mLs lm n ls := fun _ h => h.1
end FLOATS
