section HEAP
variable {l : Launch} {G : mG} {M : mMI} {d mc ms pc : Nat} {ls : List (Option Value)} {st : List Value} {h : mH} {Q : Option Value → mH → Prop} {X : String → mH → Prop}
def isRt : FieldType → Bool
  | .object _ => true
  | .array _ => true
  | _ => false
/-- a field as an instruction of the class 'own' names it: class number, slot, type, final or not -/
def FL (own : String) (ix c k : Nat) (ty : FieldType) (f : Bool) : Prop := ∃ (C : String) (T : u_T) (N : Nat) (ty0 : Nat → FieldType), vwCl[c]? = some (C, T, N) ∧ (∀ w ∈ u_ws C T N, w ∈ GT) ∧ k < N ∧ Cond.fieldLink own ix (T k).1 (T k).2.1 (T k).2.2.1 ∈ GT ∧ (f = false ∨ (T k).1 = C) ∧ (T k).2.2.2 = f ∧ ty0 k = ty ∧ (∀ j, j < N → parseFieldDescriptor (T j).2.2.1 = some (ty0 j)) ∧ (∀ a, a < N → ∀ b, b < N → a ≠ b → (T a).2.1 ≠ (T b).2.1) ∧ isR (T k).2.2.1 = isRt ty
theorem ob_get {a c k N : Nat} {C : String} {T : u_T} (hk : k < N) : (ob h a (C, T, N))[k]? = some (fv h a T k) := by
  simp [ob, hk]
theorem q_getI {a ix c k : Nat} {ty : FieldType} {f : Bool} (hd : decode M.2.1 pc = .ok (.getfield ix, 3)) (F : FL M.1.cls ix c k ty f) (hkd : kd h a = c + 1) (hty : isRt ty = false) (kk : mW l G M d mc ms (pc + 3) ls (.int (gi h a k) :: st) h Q X) : mW l G M d mc ms pc ls (.ref a :: st) h Q X := by
  intro p e R s m args below meth c0 A H locs cells slots mct mst lm Cx hr hR hS hl
  obtain ⟨C, T, N, ty0, hc, hin, hkN, hlk, hC, hf, hty0, htys, hnm, hisR⟩ := F
  obtain ⟨L, k0, h1, hP, hD, hk⟩ := mRel_at hR (a := a) (by omega)
  rw [ent_ob hkd hc] at hk
  refine va_get Cx.1 Cx.2.1 Cx.2.2.2.2.2.1 hin Cx.2.2.2.2.1 Cx.2.2.2.2.2.2.2.2.2.1 hP k0 hk hc k hkN (Cx.2.2.2.2.2.1 _ hlk) (fun x hx => hx) (ob_get (c := c) hkN) hd ?_
  have e1 : fv h a T k = .int (gi h a k) := if_neg (by rw [hisR, hty]; decide)
  rw [e1]
  exact kk p e R s m args below meth c0 A H locs cells slots mct mst lm Cx hr hR hS hl
theorem q_getR {a ix c k : Nat} {ty : FieldType} {f : Bool} {v : Option Nat} (hd : decode M.2.1 pc = .ok (.getfield ix, 3)) (F : FL M.1.cls ix c k ty f) (hkd : kd h a = c + 1) (hv : gr h a k = v) (hty : isRt ty = true) (kk : mW l G M d mc ms (pc + 3) ls (va_rf v :: st) h Q X) : mW l G M d mc ms pc ls (.ref a :: st) h Q X := by
  intro p e R s m args below meth c0 A H locs cells slots mct mst lm Cx hr hR hS hl
  obtain ⟨C, T, N, ty0, hc, hin, hkN, hlk, hC, hf, hty0, htys, hnm, hisR⟩ := F
  obtain ⟨L, k0, h1, hP, hD, hk⟩ := mRel_at hR (a := a) (by omega)
  rw [ent_ob hkd hc] at hk
  refine va_get Cx.1 Cx.2.1 Cx.2.2.2.2.2.1 hin Cx.2.2.2.2.1 Cx.2.2.2.2.2.2.2.2.2.1 hP k0 hk hc k hkN (Cx.2.2.2.2.2.1 _ hlk) (fun x hx => hx) (ob_get (c := c) hkN) hd ?_
  have e1 : fv h a T k = va_rf v := by
    rw [← hv]
    exact if_pos (by rw [hisR, hty])
  rw [e1]
  exact kk p e R s m args below meth c0 A H locs cells slots mct mst lm Cx hr hR hS hl
theorem ent_si {cA : Nat → ClassId} {a b k : Nat} {v : Int32} (hb : b ≠ a) : ent cA (si h a k v) b = ent cA h b := ent_eq rfl rfl (u2_row hb) rfl rfl rfl
theorem ent_sr {cA : Nat → ClassId} {a b k : Nat} {v : Option Nat} (hb : b ≠ a) : ent cA (sr h a k v) b = ent cA h b := ent_eq rfl rfl rfl (u2_row hb) rfl rfl
theorem ent_sl {cA : Nat → ClassId} {a b k : Nat} {v : Int64} (hb : b ≠ a) : ent cA (sl h a k v) b = ent cA h b := ent_eq rfl rfl rfl rfl (u2_row hb) rfl
theorem ent_sd {cA : Nat → ClassId} {a b k : Nat} {v : UInt64} (hb : b ≠ a) : ent cA (sd h a k v) b = ent cA h b := ent_eq rfl rfl rfl rfl rfl (u2_row hb)
theorem ob_si {a k N : Nat} {C : String} {T : u_T} {v : Int32} (hk : k < N) (hr : isR (T k).2.2.1 = false) : ob (si h a k v) a (C, T, N) = (ob h a (C, T, N)).set k (.int v) := by
  apply List.ext_getElem?
  intro j
  by_cases hj : j = k
  · subst hj
    rw [List.getElem?_set_self (by simp [ob, hk]), ob_get (c := 0) hk]
    have e : fv (si h a j v) a T j = .int (gi (si h a j v) a j) := if_neg (by rw [hr]; decide)
    rw [e]
    simp [si, gi, u2]
  · rw [List.getElem?_set_ne (fun q => hj q.symm)]
    by_cases hjn : j < N
    · rw [ob_get (c := 0) hjn, ob_get (c := 0) hjn]
      simp [fv, si, gi, gr, u2, hj]
    · simp [ob, hjn]
theorem ob_sr {a k N : Nat} {C : String} {T : u_T} {v : Option Nat} (hk : k < N) (hr : isR (T k).2.2.1 = true) : ob (sr h a k v) a (C, T, N) = (ob h a (C, T, N)).set k (va_rf v) := by
  apply List.ext_getElem?
  intro j
  by_cases hj : j = k
  · subst hj
    rw [List.getElem?_set_self (by simp [ob, hk]), ob_get (c := 0) hk]
    have e : fv (sr h a j v) a T j = va_rf (gr (sr h a j v) a j) := if_pos hr
    rw [e]
    simp [sr, gr, u2]
  · rw [List.getElem?_set_ne (fun q => hj q.symm)]
    by_cases hjn : j < N
    · rw [ob_get (c := 0) hjn, ob_get (c := 0) hjn]
      simp [fv, sr, gi, gr, u2, hj]
    · simp [ob, hjn]
/-- a field written, final ones in their constructor: the row under both -/
theorem put_any {a ix c k : Nat} {ty : FieldType} {f : Bool} {v : Value} {h' : mH} (hd : decode M.2.1 pc = .ok (.putfield ix, 3)) (F : FL M.1.cls ix c k ty f) (hkd : kd h a = c + 1) (hf : f = false ∨ (M.1.name = "<init>" ∧ ∀ C T N, vwCl[c]? = some (C, T, N) → C = M.1.cls)) (hn : narrow ty v = v) (hft : fits ty v = true)
    (z0 : nx h' = nx h) (z1 : ∀ b, kd h' b = kd h b) (z2 : ∀ (cA : Nat → ClassId) (b : Nat), b ≠ a → ent cA h' b = ent cA h b) (z3 : ∀ (C : String) (T : u_T) (N : Nat), k < N → isR (T k).2.2.1 = isRt ty → ob h' a (C, T, N) = (ob h a (C, T, N)).set k v)
    (kk : mW l G M d mc ms (pc + 3) ls st h' Q X) : mW l G M d mc ms pc ls (v :: .ref a :: st) h Q X := by
  intro p e R s m args below meth c0 A H locs cells slots mct mst lm Cx hr hR hS hl
  obtain ⟨C, T, N, ty0, hc, hin, hkN, hlk, hC, hff, hty0, htys, hnm, hisR⟩ := F
  obtain ⟨L, k0, hL, hP, hD, hk⟩ := mRel_at hR (a := a) (by omega)
  have hk' := hk
  rw [ent_ob hkd hc] at hk'
  obtain ⟨hx, hb, -, -, hown, hts, -, -, hname, hK, -⟩ := id Cx
  have hap := va_apart (own := M.1.cls) hts hin ty0 htys hnm hK hc
  obtain ⟨r, g1, cell, q1, q2, q3, q4⟩ := hP k0 _ hk'
  have hr0 : r = (C, T, N) := Option.some.inj (g1.symm.trans hc)
  subst hr0
  obtain ⟨hSl, hfc, kC, hkC, hkind⟩ := hK.1 c _ hc
  obtain ⟨cf, kf, fi, fd, hi, hsl⟩ := hSl k hkN
  have hlay := hts _ (hin _ (u_in_lay hkN))
  have hlays := u_lays hts hin hkN
  have hst := (u_facts hfc hkC hlays hi).1
  have hparse : parseFieldDescriptor (T k).2.2.1 = some ty := by rw [htys k hkN, hty0]
  have hi2 : s.fieldFound? (T k).1 (T k).2.1 (T k).2.2.1 = some (cf, kf, fi, fd) := hi
  have fin : ∀ (H1 : Heap), H1[a]? = some (cell.setSlot fd.slot v) → H1.size = H.size → (∀ q, q ≠ a → H1[q]? = H[q]?) → W p l e R s m args below meth c0 H1 (locs ++ [⟨a, fd.slot⟩]) cells slots (vx_MQ below (mQc G Q A) (mXc G X A) args s mct mst A) (F0 m (pc + 3) lm st) := by
    intro H1 e1 e2 e3
    rw [hsl] at e1
    have hat : va_at G.1 vwCl (a, .inr (c, (ob h a (C, T, N)).set k v)) H1 := ⟨_, hc, t_OB.to (V := updV (vp_V (ob h a (C, T, N))) k v) ⟨_, e1, q2, q3, t_set q4 hap hkN v⟩ (fun j _ => vp_updV_set (by simp [ob, hkN]) v j)⟩
    refine kk p e R s m args below meth c0 A H1 _ cells slots mct mst lm Cx hr (mRel_put (by rw [e2, z0]; exact hR.1) hL hD hk (by omega) (hP.set hD hk hat e3) (hD.set hk) z1 (z2 G.2.1) ?_) (hS.put e2 e3 (hD.2 k0 _ hk)) hl
    rw [ent_ob (by rw [z1]; exact hkd) hc, z3 C T N hkN hisR]
  rcases hf with hf | ⟨hf, hcls⟩
  · have hfin : (T k).2.2.2 = false := by rw [hff]; exact hf
    unfold u_lay at hlay
    rw [if_neg (by rw [hfin]; decide)] at hlay
    have h6 := u_store hfc hkC hkind hlay hi hparse hn hft
    exact W.putK hx hb (f := fd) ⟨hown, hts _ hlk, ⟨_, _, _, hi2⟩, hst⟩ (by rw [q2]; exact h6) q1 q3 (by rw [hsl]; exact k2_hasslot (q4 k hkN)) rfl rfl hd fin
  · have hCM := hcls C T N hc
    have h6 := u_fits hfc hkC hkind hlays hi hparse hn hft
    by_cases hfin : (T k).2.2.2 = true
    · unfold u_lay at hlay
      rw [if_pos hfin] at hlay
      have hcf : m.cls = cf := by
        obtain ⟨_, _, c', _, _, _, -, -, hf', -, -, -, hown2, -⟩ := Cond.laysFinal_spec hlay
        have e1 : c' = cf := by have := hi.symm.trans hf'; simp at this; exact this.1.symm
        have hC2 : (T k).1 = C := hC.resolve_left (fun q => by rw [← hff, hfin] at q; cases q)
        rw [hC2, hCM] at hown2
        rw [← e1]; exact Option.some.inj (hown.symm.trans hown2)
      exact W.putFinK hx hb hown (hts _ hlk) hi2 hst hcf (by rw [hname]; exact hf) (by rw [q2]; exact h6) q1 q3 (by rw [hsl]; exact k2_hasslot (q4 k hkN)) rfl rfl hd fin
    · unfold u_lay at hlay
      rw [if_neg hfin] at hlay
      have h7 := u_store hfc hkC hkind hlay hi hparse hn hft
      exact W.putK hx hb (f := fd) ⟨hown, hts _ hlk, ⟨_, _, _, hi2⟩, hst⟩ (by rw [q2]; exact h7) q1 q3 (by rw [hsl]; exact k2_hasslot (q4 k hkN)) rfl rfl hd fin
theorem q_putI {a ix c k : Nat} {ty : FieldType} {f : Bool} {v : Int32} (hd : decode M.2.1 pc = .ok (.putfield ix, 3)) (F : FL M.1.cls ix c k ty f) (hkd : kd h a = c + 1) (hf : f = false ∨ (M.1.name = "<init>" ∧ ∀ C T N, vwCl[c]? = some (C, T, N) → C = M.1.cls)) (hn : narrow ty (.int v) = .int v) (hft : fits ty (.int v) = true)
    (hty : isRt ty = false) (kk : mW l G M d mc ms (pc + 3) ls st (si h a k v) Q X) : mW l G M d mc ms pc ls (.int v :: .ref a :: st) h Q X :=
  put_any (h' := si h a k v) hd F hkd hf hn hft rfl (fun _ => rfl) (fun _ _ hb => ent_si hb) (fun _ _ _ hk hr => ob_si hk (by rw [hr, hty])) kk
theorem q_putR {a ix c k : Nat} {ty : FieldType} {f : Bool} {v : Option Nat} (hd : decode M.2.1 pc = .ok (.putfield ix, 3)) (F : FL M.1.cls ix c k ty f) (hkd : kd h a = c + 1) (hf : f = false ∨ (M.1.name = "<init>" ∧ ∀ C T N, vwCl[c]? = some (C, T, N) → C = M.1.cls)) (hn : narrow ty (va_rf v) = va_rf v) (hft : fits ty (va_rf v) = true)
    (hty : isRt ty = true) (kk : mW l G M d mc ms (pc + 3) ls st (sr h a k v) Q X) : mW l G M d mc ms pc ls (va_rf v :: .ref a :: st) h Q X :=
  put_any (h' := sr h a k v) hd F hkd hf hn hft rfl (fun _ => rfl) (fun _ _ hb => ent_sr hb) (fun _ _ _ hk hr => ob_sr hk (by rw [hr, hty])) kk
/-! arrays -/
def Ix (i : Int32) (j n : Nat) : Prop := vp_in i n ∧ i.toNatClampNeg = j
theorem Ix.lt {i : Int32} {j n : Nat} (x : Ix i j n) : j < n := by rw [← x.2]; exact Nat.not_le.mp fun q => x.1 (Or.inr q)
theorem Ix_nI {j n : Nat} (hj : j < n) (hn : n < 2 ^ 31) : Ix (nI j) j n := ⟨vp_in_nI hj hn, nI_clamp (by omega)⟩
theorem ty_at {cA : Nat → ClassId} (i : Nat) {c : Nat} {t : FieldType} (hi : tyL[i]? = some (c, t)) : (tyG cA)[i]? = some (cA c, t) := by
  simp [tyG, hi]
theorem q_ald {a i0 j : Nat} {i : Int32} (c t0 : Nat) {t : FieldType} (op : Instr) (hd : decode M.2.1 pc = .ok (op, 1)) (ht : tyL[t0]? = some (c, t)) (hop : (c = 101 ∧ t = .boolean ∧ op = .baload) ∨ (c = 102 ∧ t = .byte ∧ op = .baload) ∨ (c = 103 ∧ t = .char ∧ op = .caload) ∨ (c = 104 ∧ t = .int ∧ op = .iaload)) (hkd : kd h a = c) (hx : Ix i j (sz h a))
    (kk : mW l G M d mc ms (pc + 1) ls (.int (gi h a j) :: st) h Q X) : mW l G M d mc ms pc ls (.int i :: .ref a :: st) h Q X := by
  intro p e R s m args below meth c0 A H locs cells slots mct mst lm Cx hr hR hS hl
  obtain ⟨L, k0, hL, hP, hD, hk⟩ := mRel_at hR (a := a) (by omega)
  rw [ent_ar hkd (by omega)] at hk
  have hK := Cx.2.2.2.2.2.2.2.2.2.1
  have kk' := kk p e R s m args below meth c0 A H locs cells slots mct mst lm Cx hr hR hS hl
  rw [← hx.2] at kk'
  rcases hop with ⟨rfl, rfl, rfl⟩ | ⟨rfl, rfl, rfl⟩ | ⟨rfl, rfl, rfl⟩ | ⟨rfl, rfl, rfl⟩
  · exact va_zald Cx.1 Cx.2.1 hK hP k0 t0 hk (ty_at t0 ht) hx.1 hd kk'
  · exact va_bald Cx.1 Cx.2.1 hK hP k0 t0 hk (ty_at t0 ht) hx.1 hd kk'
  · exact va_cald Cx.1 Cx.2.1 hK hP k0 t0 hk (ty_at t0 ht) hx.1 hd kk'
  · exact va_iald Cx.1 Cx.2.1 hK hP k0 t0 hk (ty_at t0 ht) hx.1 hd kk'
theorem q_iaload {a j : Nat} {i : Int32} (hd : decode M.2.1 pc = .ok (.iaload, 1)) (hkd : kd h a = 104) (hx : Ix i j (sz h a)) (kk : mW l G M d mc ms (pc + 1) ls (.int (gi h a j) :: st) h Q X) : mW l G M d mc ms pc ls (.int i :: .ref a :: st) h Q X :=
  q_ald (i0 := 0) 104 3 _ hd rfl (Or.inr (Or.inr (Or.inr ⟨rfl, rfl, rfl⟩))) hkd hx kk
theorem q_caload {a j : Nat} {i : Int32} (hd : decode M.2.1 pc = .ok (.caload, 1)) (hkd : kd h a = 103) (hx : Ix i j (sz h a)) (kk : mW l G M d mc ms (pc + 1) ls (.int (gi h a j) :: st) h Q X) : mW l G M d mc ms pc ls (.int i :: .ref a :: st) h Q X :=
  q_ald (i0 := 0) 103 2 _ hd rfl (Or.inr (Or.inr (Or.inl ⟨rfl, rfl, rfl⟩))) hkd hx kk
theorem q_zaload {a j : Nat} {i : Int32} (hd : decode M.2.1 pc = .ok (.baload, 1)) (hkd : kd h a = 101) (hx : Ix i j (sz h a)) (kk : mW l G M d mc ms (pc + 1) ls (.int (gi h a j) :: st) h Q X) : mW l G M d mc ms pc ls (.int i :: .ref a :: st) h Q X :=
  q_ald (i0 := 0) 101 0 _ hd rfl (Or.inl ⟨rfl, rfl, rfl⟩) hkd hx kk
theorem q_baload {a j : Nat} {i : Int32} (hd : decode M.2.1 pc = .ok (.baload, 1)) (hkd : kd h a = 102) (hx : Ix i j (sz h a)) (kk : mW l G M d mc ms (pc + 1) ls (.int (gi h a j) :: st) h Q X) : mW l G M d mc ms pc ls (.int i :: .ref a :: st) h Q X :=
  q_ald (i0 := 0) 102 1 _ hd rfl (Or.inr (Or.inl ⟨rfl, rfl, rfl⟩)) hkd hx kk
theorem q_laload {a j : Nat} {i : Int32} (hd : decode M.2.1 pc = .ok (.laload, 1)) (hkd : kd h a = 105) (hx : Ix i j (sz h a)) (kk : mW l G M d mc ms (pc + 1) ls (.long (gl h a j) :: st) h Q X) : mW l G M d mc ms pc ls (.int i :: .ref a :: st) h Q X := by
  intro p e R s m args below meth c0 A H locs cells slots mct mst lm Cx hr hR hS hl
  obtain ⟨L, k0, hL, hP, hD, hk⟩ := mRel_at hR (a := a) (by omega)
  rw [ent_ar hkd (by omega)] at hk
  have kk' := kk p e R s m args below meth c0 A H locs cells slots mct mst lm Cx hr hR hS hl
  rw [← hx.2] at kk'
  exact va_lald Cx.1 Cx.2.1 Cx.2.2.2.2.2.2.2.2.2.1 hP k0 4 hk (ty_at 4 rfl) hx.1 hd kk'
theorem q_daload {a j : Nat} {i : Int32} (hd : decode M.2.1 pc = .ok (.daload, 1)) (hkd : kd h a = 106) (hx : Ix i j (sz h a)) (kk : mW l G M d mc ms (pc + 1) ls (.double (gd h a j) :: st) h Q X) : mW l G M d mc ms pc ls (.int i :: .ref a :: st) h Q X := by
  intro p e R s m args below meth c0 A H locs cells slots mct mst lm Cx hr hR hS hl
  obtain ⟨L, k0, hL, hP, hD, hk⟩ := mRel_at hR (a := a) (by omega)
  rw [ent_ar hkd (by omega)] at hk
  have kk' := kk p e R s m args below meth c0 A H locs cells slots mct mst lm Cx hr hR hS hl
  rw [← hx.2] at kk'
  exact va_dald Cx.1 Cx.2.1 Cx.2.2.2.2.2.2.2.2.2.1 hP k0 5 hk (ty_at 5 rfl) hx.1 hd kk'
theorem q_aaload {a j c t0 : Nat} {i : Int32} {C : String} {v : Option Nat} (hd : decode M.2.1 pc = .ok (.aaload, 1)) (hkd : kd h a = c) (ht : tyL[t0]? = some (c, .object C)) (hc : 106 < c) (hx : Ix i j (sz h a)) (hv : gr h a j = v) (kk : mW l G M d mc ms (pc + 1) ls (va_rf v :: st) h Q X) : mW l G M d mc ms pc ls (.int i :: .ref a :: st) h Q X := by
  intro p e R s m args below meth c0 A H locs cells slots mct mst lm Cx hr hR hS hl
  obtain ⟨L, k0, hL, hP, hD, hk⟩ := mRel_at hR (a := a) (by omega)
  rw [ent_ar hkd (by omega)] at hk
  have e1 : arv c (sz h a) (gi h a) (gr h a) (gl h a) (gd h a) = (sz h a, .inr (.inr (.inr (.inr (gr h a))))) := by
    unfold arv
    rw [if_neg (by omega), if_neg (by omega), if_neg (by omega)]
  rw [e1] at hk
  have kk' := kk p e R s m args below meth c0 A H locs cells slots mct mst lm Cx hr hR hS hl
  rw [← hv, ← hx.2] at kk'
  exact va_aldq Cx.1 Cx.2.1 Cx.2.2.2.2.2.2.2.2.2.1 hP k0 t0 hk (ty_at t0 ht) hx.1 hd kk'
theorem q_alen {a c t0 : Nat} {t : FieldType} {v : Int32} (hd : decode M.2.1 pc = .ok (.arraylength, 1)) (hkd : kd h a = c) (hc : 100 < c) (ht : tyL[t0]? = some (c, t)) (hv : nI (sz h a) = v) (kk : mW l G M d mc ms (pc + 1) ls (.int v :: st) h Q X) : mW l G M d mc ms pc ls (.ref a :: st) h Q X := by
  intro p e R s m args below meth c0 A H locs cells slots mct mst lm Cx hr hR hS hl
  obtain ⟨L, k0, hL, hP, hD, hk⟩ := mRel_at hR (a := a) (by omega)
  rw [ent_ar hkd hc] at hk
  exact va_alen Cx.1 Cx.2.1 Cx.2.2.2.2.2.2.2.2.2.1 hP k0 t0 hk (ty_at t0 ht) hv hd (kk p e R s m args below meth c0 A H locs cells slots mct mst lm Cx hr hR hS hl)
/-- a place of an array written: what is left to show -/
theorem ast_fin {a c j : Nat} {h' : mH} {p : Program} {e : Env} {R : Room} {s : State} {m : MethodId} {args : Array Value} {below : List Frame} {meth : Method} {c0 : Code} {A : Nat → Prop} {H : Heap} {locs : List Loc} {cells slots mct mst : Nat} {lm : Array Slot} {L : List Nat} {k0 : Nat} {cell : Cell}
    (Cx : mCx l G M p s m args meth c0 A) (hr : mRoom R d mc ms cells slots mct mst) (hR : mRel G h A H) (hS : va_S A s.heap H locs) (hl : mLs lm M.2.2.1 ls) (hkd : kd h a = c) (hc : 100 < c) (hL : ∀ b, b ∈ L ↔ kd h b ≠ 0) (hP : va_P G.1 vwCl (va_pl L (ent G.2.1 h)) H) (hD : va_D A (va_pl L (ent G.2.1 h))) (hk : (va_pl L (ent G.2.1 h))[k0]? = some (a, ent G.2.1 h a))
    (z0 : nx h' = nx h) (z1 : ∀ b, kd h' b = kd h b) (z2 : ∀ b, b ≠ a → ent G.2.1 h' b = ent G.2.1 h b) (z3 : cell = vp_cell (G.2.1 c) (arv c (sz h' a) (gi h' a) (gr h' a) (gl h' a) (gd h' a)))
    (kk : mW l G M d mc ms (pc + 1) ls st h' Q X) : ∀ H1 : Heap, H1[a]? = some cell → H1.size = H.size → (∀ q, q ≠ a → H1[q]? = H[q]?) → W p l e R s m args below meth c0 H1 (locs ++ [⟨a, j⟩]) cells slots (vx_MQ below (mQc G Q A) (mXc G X A) args s mct mst A) (F0 m (pc + 1) lm st) := by
  intro H1 e1 e2 e3
  have hat : va_at G.1 vwCl (a, .inl (G.2.1 c, arv c (sz h' a) (gi h' a) (gr h' a) (gl h' a) (gd h' a))) H1 := by
    show H1[a]? = some _
    rw [e1, z3]
  exact kk p e R s m args below meth c0 A H1 _ cells slots mct mst lm Cx hr (mRel_put (by rw [e2, z0]; exact hR.1) hL hD hk (by omega) (hP.set hD hk hat e3) (hD.set hk) z1 z2 (ent_ar (by rw [z1]; exact hkd) hc)) (hS.put e2 e3 (hD.2 k0 _ hk)) hl
theorem st_i {cA : ClassId} {n j : Nat} {f : Nat → Int32} {x : Int32} : (vp_cell cA (n, .inl f)).setSlot j (.int x) = vp_cell cA (n, .inl (va_up f j x)) := by
  rw [vp_cell_i, vp_cell_i, arrV_store]
  congr 1
  funext q
  by_cases hq : q = j
  · subst hq; simp [updV, va_up]
  · simp [updV, va_up, hq]
theorem st_l {cA : ClassId} {n j : Nat} {f : Nat → Int64} {x : Int64} : (vp_cell cA (n, .inr (.inl f))).setSlot j (.long x) = vp_cell cA (n, .inr (.inl (va_up f j x))) := by
  rw [vp_cell_l, vp_cell_l, arrV_store]
  congr 1
  funext q
  by_cases hq : q = j
  · subst hq; simp [updV, va_up]
  · simp [updV, va_up, hq]
theorem st_d {cA : ClassId} {n j : Nat} {f : Nat → UInt64} {x : UInt64} : (vp_cell cA (n, .inr (.inr (.inr (.inl f))))).setSlot j (.double x) = vp_cell cA (n, .inr (.inr (.inr (.inl (va_up f j x))))) := by
  rw [vp_cell_d, vp_cell_d, arrV_store]
  congr 1
  funext q
  by_cases hq : q = j
  · subst hq; simp [updV, va_up]
  · simp [updV, va_up, hq]
theorem st_q {cA : ClassId} {n j : Nat} {f : Nat → Option Nat} {x : Option Nat} : (vp_cell cA (n, .inr (.inr (.inr (.inr f))))).setSlot j (va_rf x) = vp_cell cA (n, .inr (.inr (.inr (.inr (va_up f j x))))) := by
  rw [vp_cell_q, vp_cell_q, arrV_store]
  congr 1
  funext q
  by_cases hq : q = j
  · subst hq; simp [updV, va_up]
  · simp [updV, va_up, hq]
theorem q_ast {a j : Nat} {i x : Int32} (c t0 : Nat) {t : FieldType} (op : Instr) (hd : decode M.2.1 pc = .ok (op, 1)) (ht : tyL[t0]? = some (c, t)) (hop : (c = 101 ∧ t = .boolean ∧ op = .bastore) ∨ (c = 102 ∧ t = .byte ∧ op = .bastore) ∨ (c = 103 ∧ t = .char ∧ op = .castore) ∨ (c = 104 ∧ t = .int ∧ op = .iastore)) (hkd : kd h a = c) (hx : Ix i j (sz h a)) (hn : narrow t (.int x) = .int x)
    (kk : mW l G M d mc ms (pc + 1) ls st (si h a j x) Q X) : mW l G M d mc ms pc ls (.int x :: .int i :: .ref a :: st) h Q X := by
  intro p e R s m args below meth c0 A H locs cells slots mct mst lm Cx hr hR hS hl
  obtain ⟨L, k0, hL, hP, hD, hk⟩ := mRel_at hR (a := a) (by omega)
  have hk' := hk
  rw [ent_ar hkd (by omega)] at hk'
  have hK := Cx.2.2.2.2.2.2.2.2.2.1
  have hat := hP k0 _ hk'
  have hlt : c < 105 := by omega
  have e1 : ∀ (h : mH), arv c (sz h a) (gi h a) (gr h a) (gl h a) (gd h a) = (sz h a, .inl (gi h a)) := fun h => by
    unfold arv
    rw [if_pos hlt]
  have hcell : H[a]? = some (vp_cell (G.2.1 c) (sz h a, .inl (gi h a))) := by rw [← e1 h]; exact hat
  have hsz : (vp_cell (G.2.1 c) (sz h a, .inl (gi h a))).slots.size = sz h a := by rw [vp_cell_i, arrV_size]
  have hin : ¬ (i < 0 ∨ (vp_cell (G.2.1 c) (sz h a, .inl (gi h a))).slots.size ≤ i.toNatClampNeg) := by rw [hsz]; exact hx.1
  have harr : s.isArrayOf (vp_cell (G.2.1 c) (sz h a, .inl (gi h a))) t := (hK.2 t0 _ (ty_at t0 ht)).1 (sz h a) (fun j => .int (gi h a j))
  have fin := ast_fin (j := i.toNatClampNeg) (e := e) (below := below) (h' := si h a j x) Cx hr hR hS hl hkd (by omega) hL hP hD hk rfl (fun _ => rfl) (fun b hb => ent_si hb) (cell := (vp_cell (G.2.1 c) (sz h a, .inl (gi h a))).setSlot i.toNatClampNeg (.int x)) (by
    rw [e1 (si h a j x), st_i, hx.2]
    show vp_cell (G.2.1 c) (sz h a, .inl (va_up (gi h a) j x)) = vp_cell (G.2.1 c) (sz h a, .inl (u2 (gi h) a j x a))
    rw [u2_self]) kk
  rcases hop with ⟨rfl, rfl, rfl⟩ | ⟨rfl, rfl, rfl⟩ | ⟨rfl, rfl, rfl⟩ | ⟨rfl, rfl, rfl⟩
  · exact W.zast Cx.1 Cx.2.1 hcell harr (fun q => by cases q) hin rfl rfl hd (fun H1 g1 g2 g3 => fin H1 (by rw [g1, hn]) g2 g3)
  · exact W.bast Cx.1 Cx.2.1 hcell harr (fun q => by cases q) hin rfl rfl hd (fun H1 g1 g2 g3 => fin H1 (by rw [g1, hn]) g2 g3)
  · exact W.cast Cx.1 Cx.2.1 hcell harr (fun q => by cases q) hin rfl rfl hd (fun H1 g1 g2 g3 => fin H1 (by rw [g1, hn]) g2 g3)
  · exact W.iast Cx.1 Cx.2.1 hcell harr (fun q => by cases q) hin rfl rfl hd fin
theorem q_iastore {a j : Nat} {i x : Int32} (hd : decode M.2.1 pc = .ok (.iastore, 1)) (hkd : kd h a = 104) (hx : Ix i j (sz h a)) (kk : mW l G M d mc ms (pc + 1) ls st (si h a j x) Q X) : mW l G M d mc ms pc ls (.int x :: .int i :: .ref a :: st) h Q X :=
  q_ast 104 3 _ hd rfl (Or.inr (Or.inr (Or.inr ⟨rfl, rfl, rfl⟩))) hkd hx rfl kk
theorem q_castore {a j : Nat} {i x : Int32} (hd : decode M.2.1 pc = .ok (.castore, 1)) (hkd : kd h a = 103) (hx : Ix i j (sz h a)) (hn : narrow .char (.int x) = .int x) (kk : mW l G M d mc ms (pc + 1) ls st (si h a j x) Q X) : mW l G M d mc ms pc ls (.int x :: .int i :: .ref a :: st) h Q X :=
  q_ast 103 2 _ hd rfl (Or.inr (Or.inr (Or.inl ⟨rfl, rfl, rfl⟩))) hkd hx hn kk
theorem q_zastore {a j : Nat} {i x : Int32} (hd : decode M.2.1 pc = .ok (.bastore, 1)) (hkd : kd h a = 101) (hx : Ix i j (sz h a)) (hn : narrow .boolean (.int x) = .int x) (kk : mW l G M d mc ms (pc + 1) ls st (si h a j x) Q X) : mW l G M d mc ms pc ls (.int x :: .int i :: .ref a :: st) h Q X :=
  q_ast 101 0 _ hd rfl (Or.inl ⟨rfl, rfl, rfl⟩) hkd hx hn kk
theorem q_bastore {a j : Nat} {i x : Int32} (hd : decode M.2.1 pc = .ok (.bastore, 1)) (hkd : kd h a = 102) (hx : Ix i j (sz h a)) (hn : narrow .byte (.int x) = .int x) (kk : mW l G M d mc ms (pc + 1) ls st (si h a j x) Q X) : mW l G M d mc ms pc ls (.int x :: .int i :: .ref a :: st) h Q X :=
  q_ast 102 1 _ hd rfl (Or.inr (Or.inl ⟨rfl, rfl, rfl⟩)) hkd hx hn kk
theorem q_lastore {a j : Nat} {i : Int32} {x : Int64} (hd : decode M.2.1 pc = .ok (.lastore, 1)) (hkd : kd h a = 105) (hx : Ix i j (sz h a)) (kk : mW l G M d mc ms (pc + 1) ls st (sl h a j x) Q X) : mW l G M d mc ms pc ls (.long x :: .int i :: .ref a :: st) h Q X := by
  intro p e R s m args below meth c0 A H locs cells slots mct mst lm Cx hr hR hS hl
  obtain ⟨L, k0, hL, hP, hD, hk⟩ := mRel_at hR (a := a) (by omega)
  have hk' := hk
  rw [ent_ar hkd (by omega)] at hk'
  have hK := Cx.2.2.2.2.2.2.2.2.2.1
  have hcell : H[a]? = some (vp_cell (G.2.1 105) (sz h a, .inr (.inl (gl h a)))) := hP k0 _ hk'
  have hin : ¬ (i < 0 ∨ (vp_cell (G.2.1 105) (sz h a, .inr (.inl (gl h a)))).slots.size ≤ i.toNatClampNeg) := by rw [vp_cell_l, arrV_size]; exact hx.1
  have harr : s.isArrayOf (vp_cell (G.2.1 105) (sz h a, .inr (.inl (gl h a)))) .long := (hK.2 4 _ (ty_at 4 rfl)).1 (sz h a) (fun j => .long (gl h a j))
  have fin := ast_fin (j := i.toNatClampNeg) (e := e) (below := below) (h' := sl h a j x) Cx hr hR hS hl hkd (by omega) hL hP hD hk rfl (fun _ => rfl) (fun b hb => ent_sl hb) (cell := (vp_cell (G.2.1 105) (sz h a, .inr (.inl (gl h a)))).setSlot i.toNatClampNeg (.long x)) (by
    rw [st_l, hx.2]
    show vp_cell (G.2.1 105) (sz h a, .inr (.inl (va_up (gl h a) j x))) = vp_cell (G.2.1 105) (sz h a, .inr (.inl (u2 (gl h) a j x a)))
    rw [u2_self]) kk
  exact W.last Cx.1 Cx.2.1 hcell harr (fun q => by cases q) hin rfl rfl hd fin
theorem q_dastore {a j : Nat} {i : Int32} {x : UInt64} (hd : decode M.2.1 pc = .ok (.dastore, 1)) (hkd : kd h a = 106) (hx : Ix i j (sz h a)) (kk : mW l G M d mc ms (pc + 1) ls st (sd h a j x) Q X) : mW l G M d mc ms pc ls (.double x :: .int i :: .ref a :: st) h Q X := by
  intro p e R s m args below meth c0 A H locs cells slots mct mst lm Cx hr hR hS hl
  obtain ⟨L, k0, hL, hP, hD, hk⟩ := mRel_at hR (a := a) (by omega)
  have hk' := hk
  rw [ent_ar hkd (by omega)] at hk'
  have hK := Cx.2.2.2.2.2.2.2.2.2.1
  have hcell : H[a]? = some (vp_cell (G.2.1 106) (sz h a, .inr (.inr (.inr (.inl (gd h a)))))) := hP k0 _ hk'
  have hin : ¬ (i < 0 ∨ (vp_cell (G.2.1 106) (sz h a, .inr (.inr (.inr (.inl (gd h a)))))).slots.size ≤ i.toNatClampNeg) := by rw [vp_cell_d, arrV_size]; exact hx.1
  have harr : s.isArrayOf (vp_cell (G.2.1 106) (sz h a, .inr (.inr (.inr (.inl (gd h a)))))) .double := (hK.2 5 _ (ty_at 5 rfl)).1 (sz h a) (fun j => .double (gd h a j))
  have fin := ast_fin (j := i.toNatClampNeg) (e := e) (below := below) (h' := sd h a j x) Cx hr hR hS hl hkd (by omega) hL hP hD hk rfl (fun _ => rfl) (fun b hb => ent_sd hb) (cell := (vp_cell (G.2.1 106) (sz h a, .inr (.inr (.inr (.inl (gd h a)))))).setSlot i.toNatClampNeg (.double x)) (by
    rw [st_d, hx.2]
    show vp_cell (G.2.1 106) (sz h a, .inr (.inr (.inr (.inl (va_up (gd h a) j x))))) = vp_cell (G.2.1 106) (sz h a, .inr (.inr (.inr (.inl (u2 (gd h) a j x a)))))
    rw [u2_self]) kk
  exact W.dast Cx.1 Cx.2.1 hcell harr (fun q => by cases q) hin rfl rfl hd fin
theorem q_aastore {a j c t0 ci b : Nat} {i : Int32} {r : vw_C} (hd : decode M.2.1 pc = .ok (.aastore, 1)) (hkd : kd h a = c) (ht : tyL[t0]? = some (c, .object r.1)) (hc : 106 < c) (hx : Ix i j (sz h a)) (hb : kd h b = ci + 1) (hci : vwCl[ci]? = some r) (kk : mW l G M d mc ms (pc + 1) ls st (sr h a j (some b)) Q X) : mW l G M d mc ms pc ls (.ref b :: .int i :: .ref a :: st) h Q X := by
  intro p e R s m args below meth c0 A H locs cells slots mct mst lm Cx hr hR hS hl
  obtain ⟨L, k0, hL, hP, hD, hk⟩ := mRel_at hR (a := a) (by omega)
  obtain ⟨k1, hk1⟩ := va_pl_get (X := []) (f := ent G.2.1 h) ((hL b).mpr (by omega))
  have hk1 : (va_pl L (ent G.2.1 h))[k1]? = some (b, ent G.2.1 h b) := hk1
  rw [ent_ob hb hci] at hk1
  have hk' := hk
  rw [ent_ar hkd (by omega)] at hk'
  have e1 : ∀ (h : mH), arv c (sz h a) (gi h a) (gr h a) (gl h a) (gd h a) = (sz h a, .inr (.inr (.inr (.inr (gr h a))))) := fun h => by
    unfold arv
    rw [if_neg (by omega), if_neg (by omega), if_neg (by omega)]
  rw [e1] at hk'
  have hK := Cx.2.2.2.2.2.2.2.2.2.1
  have hlt : i.toNatClampNeg < sz h a := Nat.not_le.mp fun q => hx.1 (Or.inr q)
  have h0 : ¬ i < 0 := fun q => hx.1 (Or.inl q)
  obtain ⟨r', hr', cellV, g1, g2, g3, -⟩ := hP k1 _ hk1
  have hcls := (hK.1 ci r hci).2
  obtain ⟨kA, comp, y1, y2, y3, -⟩ := (hK.2 t0 _ (ty_at t0 ht)).2
  have hcomp : comp = G.1.1 ci := Option.some.inj (y3.symm.trans hcls.1)
  subst hcomp
  obtain ⟨kC, hkC, -⟩ := hcls.2
  have hcell : H[a]? = some (vp_cell (G.2.1 c) (sz h a, .inr (.inr (.inr (.inr (gr h a)))))) := hP k0 _ hk'
  have fin := ast_fin (j := i.toNatClampNeg) (e := e) (below := below) (h' := sr h a j (some b)) Cx hr hR hS hl hkd (by omega) hL hP hD hk rfl (fun _ => rfl) (fun b hb => ent_sr hb) (cell := (vp_cell (G.2.1 c) (sz h a, .inr (.inr (.inr (.inr (gr h a)))))).setSlot i.toNatClampNeg (va_rf (some b))) (by
    rw [e1 (sr h a j (some b)), st_q, hx.2]
    show vp_cell (G.2.1 c) (sz h a, .inr (.inr (.inr (.inr (va_up (gr h a) j (some b)))))) = vp_cell (G.2.1 c) (sz h a, .inr (.inr (.inr (.inr (u2 (gr h) a j (some b) a)))))
    rw [u2_self]) kk
  exact W.aast Cx.1 Cx.2.1 hcell (fun q h => by cases h) (fun h => by cases h) y1 y2 rfl hkC ⟨h0, by rw [vp_cell_q, arrV_size]; exact hlt⟩ g1 (fun q h => by rw [g3] at h; cases h) (by rw [g2]; exact hkC) (by rw [g2]; exact va_assign hcls) rfl rfl hd fin
theorem q_aastoreN {a j c t0 : Nat} {i : Int32} {C : String} (hd : decode M.2.1 pc = .ok (.aastore, 1)) (hkd : kd h a = c) (ht : tyL[t0]? = some (c, .object C)) (hc : 106 < c) (hx : Ix i j (sz h a)) (kk : mW l G M d mc ms (pc + 1) ls st (sr h a j none) Q X) : mW l G M d mc ms pc ls (.null :: .int i :: .ref a :: st) h Q X := by
  intro p e R s m args below meth c0 A H locs cells slots mct mst lm Cx hr hR hS hl
  obtain ⟨L, k0, hL, hP, hD, hk⟩ := mRel_at hR (a := a) (by omega)
  have hk' := hk
  rw [ent_ar hkd (by omega)] at hk'
  have e1 : ∀ (h : mH), arv c (sz h a) (gi h a) (gr h a) (gl h a) (gd h a) = (sz h a, .inr (.inr (.inr (.inr (gr h a))))) := fun h => by
    unfold arv
    rw [if_neg (by omega), if_neg (by omega), if_neg (by omega)]
  rw [e1] at hk'
  have hK := Cx.2.2.2.2.2.2.2.2.2.1
  have hcell : H[a]? = some (vp_cell (G.2.1 c) (sz h a, .inr (.inr (.inr (.inr (gr h a)))))) := hP k0 _ hk'
  have fin := ast_fin (j := i.toNatClampNeg) (e := e) (below := below) (h' := sr h a j none) Cx hr hR hS hl hkd (by omega) hL hP hD hk rfl (fun _ => rfl) (fun b hb => ent_sr hb) (cell := (vp_cell (G.2.1 c) (sz h a, .inr (.inr (.inr (.inr (gr h a)))))).setSlot i.toNatClampNeg (va_rf none)) (by
    rw [e1 (sr h a j none), st_q, hx.2]
    show vp_cell (G.2.1 c) (sz h a, .inr (.inr (.inr (.inr (va_up (gr h a) j none))))) = vp_cell (G.2.1 c) (sz h a, .inr (.inr (.inr (.inr (u2 (gr h) a j none a)))))
    rw [u2_self]) kk
  exact va_WaastN (C := C) Cx.1 Cx.2.1 hcell ((hK.2 t0 _ (ty_at t0 ht)).1 (sz h a) (fun j => va_rf (gr h a j))) (fun h => by cases h) (by rw [vp_cell_q, arrV_size]; exact hx.1) rfl rfl hd fin
/-! making -/
theorem al_ent {cA : Nat → ClassId} {c n b : Nat} (hb : b ≠ nx h) : ent cA (al h c n) b = ent cA h b := ent_eq (va_up_ne _ _ hb) (va_up_ne _ _ hb) (va_up_ne _ _ hb) (va_up_ne _ _ hb) (va_up_ne _ _ hb) (va_up_ne _ _ hb)
theorem al_kd {c n b : Nat} (hc : c ≠ 0) : kd (al h c n) b ≠ 0 ↔ (kd h b ≠ 0 ∨ b = nx h) := by
  show va_up (kd h) (nx h) c b ≠ 0 ↔ _
  by_cases hb : b = nx h
  · subst hb; rw [va_up_self]; simp [hc]
  · rw [va_up_ne _ _ hb]; simp [hb]
def dfl : FieldType → Value := defaultValue
theorem q_newarray {c t0 n : Nat} {t : FieldType} {at' : ArrayType} {i : Int32} (hd : decode M.2.1 pc = .ok (.newarray at', 2)) (ha : Cond.arrayClass t ∈ GT) (hty : newarray.typeOf at' = t) (ht : tyL[t0]? = some (c, t)) (hcc : 100 < c ∧ c ≤ 106) (hi : i = nI n) (hn : n ≤ 65536)
    (kk : mW l G M d mc ms (pc + 2) ls (.ref (nx h) :: st) (al h c n) Q X) : mW l G M d (mc + 1) (ms + n) pc ls (.int i :: st) h Q X := by
  intro p e R s m args below meth c0 A H locs cells slots mct mst lm Cx hr hR hS hl
  subst hi
  obtain ⟨r1, r2, r3, r4, r5, r6⟩ := hr
  have hK := Cx.2.2.2.2.2.2.2.2.2.1
  have hAA := Cx.2.2.2.2.2.2.2.2.2.2.2
  have hnm : s.vm.findClass ("[" ++ t.toString) = some (G.2.1 c) := by
    have := (hK.2 t0 _ (ty_at t0 ht)).2
    cases t <;> first | exact this | (cases at' <;> simp [newarray.typeOf] at hty)
  refine va_newaK (N := n) Cx.1 Cx.2.1 (by rw [hty]; exact Cx.2.2.2.2.2.1 _ ha) rfl hd rfl (nI_pos (by omega)) (nI_clamp (by omega)) (by cases at' <;> simp [newarray.typeOf, componentBytes] <;> omega) (by omega) (by omega) hR.1 ?_
  intro H1 cA e1 z1 o1 hAr hNm
  rw [hty] at e1 hNm
  have hcA : cA = G.2.1 c := Option.some.inj (hNm.symm.trans hnm)
  subst hcA
  have hce : ent G.2.1 (al h c n) (nx h) = .inl (G.2.1 c, arv c n (fun _ => 0) (fun _ => none) (fun _ => 0) (fun _ => 0)) := by
    rw [ent_ar (cA := G.2.1) (h := al h c n) (a := nx h) (c := c) (va_up_self (kd h) (nx h) c) hcc.1]
    simp [al, sz, gi, gr, gl, gd, va_up]
  have hat : va_at G.1 vwCl (nx h, .inl (G.2.1 c, arv c n (fun _ => 0) (fun _ => none) (fun _ => 0) (fun _ => 0))) H1 := by
    show H1[nx h]? = some (vp_cell (G.2.1 c) (arv c n (fun _ => 0) (fun _ => none) (fun _ => 0) (fun _ => 0)))
    rw [e1]
    have hc6 : tyL[t0]? = some (c, t) := ht
    rcases (show t0 = 0 ∨ t0 = 1 ∨ t0 = 2 ∨ t0 = 3 ∨ t0 = 4 ∨ t0 = 5 ∨ t0 = 6 ∨ t0 = 7 ∨ t0 = 8 ∨ 9 ≤ t0 by omega) with rfl | rfl | rfl | rfl | rfl | rfl | rfl | rfl | rfl | h9
    · cases hc6; rfl
    · cases hc6; rfl
    · cases hc6; rfl
    · cases hc6; rfl
    · cases hc6; rfl
    · cases hc6; rfl
    · cases hc6; omega
    · cases hc6; omega
    · cases hc6; omega
    · rw [List.getElem?_eq_none (show tyL.length ≤ t0 from h9)] at hc6; cases hc6
  have hle : s.heap.size ≤ nx h := by rw [← hR.1]; exact hS.1
  exact kk p e R s m args below meth c0 A H1 _ (cells + 1) (slots + n) mct mst lm Cx ⟨r1, r2, by omega, by omega, r5, r6⟩ (mRel_push hR z1 o1 (hAA _ hle) hat rfl (fun b => al_kd (by omega)) (fun b hb => al_ent hb) hce)
    ⟨by rw [z1]; omega, fun x h1 h2 => (o1 x (Nat.lt_of_lt_of_le h1 hle)).trans (hS.2.1 x h1 h2), hS.2.2⟩ hl
theorem q_anewarray {c t0 n ix : Nat} {C : String} {i : Int32} (hd : decode M.2.1 pc = .ok (.anewarray ix, 3)) (hcl : Cond.classLink M.1.cls ix C ∈ GT) (ht : tyL[t0]? = some (c, .object C)) (hC : C = RX4 ∨ C = RX6 ∨ C = RX10) (hcc : 106 < c) (hi : i = nI n) (hn : n ≤ 65536)
    (kk : mW l G M d mc ms (pc + 3) ls (.ref (nx h) :: st) (al h c n) Q X) : mW l G M d (mc + 1) (ms + n) pc ls (.int i :: st) h Q X := by
  intro p e R s m args below meth c0 A H locs cells slots mct mst lm Cx hr hR hS hl
  subst hi
  obtain ⟨r1, r2, r3, r4, r5, r6⟩ := hr
  have hK := Cx.2.2.2.2.2.2.2.2.2.1
  obtain ⟨-, -, -, -, -, -, o1, o2, o3, -⟩ := Cx.2.2.2.2.2.2.2.2.2.2.1
  have hAA := Cx.2.2.2.2.2.2.2.2.2.2.2
  have hover : va_AO C s := by rcases hC with rfl | rfl | rfl <;> assumption
  have hc := hK.2 t0 _ (ty_at t0 ht)
  refine W.anew (n := nI n) Cx.1 Cx.2.1 Cx.2.2.2.2.1 (Cx.2.2.2.2.2.1 _ hcl) (va_AO.use hover) rfl hd rfl (nI_pos (by omega)) (by rw [nI_clamp (by omega)]; omega) (by omega) (by rw [nI_clamp (by omega)]; omega) fun cA kA comp f1 f2 f3 f4 => ?_
  rw [nI_clamp (show n < 2 ^ 31 by omega)]
  obtain ⟨kA', comp', g1, g2, g3, g4⟩ := hc.2
  have hcA : cA = G.2.1 c := by
    have : some cA = some (G.2.1 c) := by first | exact f4.symm.trans g4 | exact f1.symm.trans g4
    exact Option.some.inj this
  subst hcA
  generalize hH1 : H.push ({ cls := G.2.1 c, slots := Array.replicate n .null, vm := .none } : Cell) = H1
  have z1 : H1.size = nx h + 1 := by rw [← hH1, Array.size_push, hR.1]
  have e1 : H1[nx h]? = some (arrV (G.2.1 c) n (fun _ => .null)) := by rw [← hH1, ← hR.1, Array.getElem?_push_size, ← arrV_new]
  have o1 : ∀ q : Nat, q < nx h → H1[q]? = H[q]? := fun q hq => by rw [← hH1, Array.getElem?_push, if_neg (by rw [hR.1]; omega)]
  rw [hR.1]
  have hce : ent G.2.1 (al h c n) (nx h) = .inl (G.2.1 c, arv c n (fun _ => 0) (fun _ => none) (fun _ => 0) (fun _ => 0)) := by
    rw [ent_ar (cA := G.2.1) (h := al h c n) (a := nx h) (c := c) (va_up_self (kd h) (nx h) c) (by omega)]
    simp [al, sz, gi, gr, gl, gd, va_up]
  have hat : va_at G.1 vwCl (nx h, .inl (G.2.1 c, arv c n (fun _ => 0) (fun _ => none) (fun _ => 0) (fun _ => 0))) H1 := by
    show H1[nx h]? = some (vp_cell (G.2.1 c) (arv c n (fun _ => 0) (fun _ => none) (fun _ => 0) (fun _ => 0)))
    rw [e1]
    unfold arv
    rw [if_neg (by omega), if_neg (by omega), if_neg (by omega), vp_cell_q]
    rfl
  have hle : s.heap.size ≤ nx h := by rw [← hR.1]; exact hS.1
  exact kk p e R s m args below meth c0 A H1 _ (cells + 1) (slots + n) mct mst lm Cx ⟨r1, r2, by omega, by omega, r5, r6⟩ (mRel_push hR z1 o1 (hAA _ hle) hat rfl (fun b => al_kd (by omega)) (fun b hb => al_ent hb) hce)
    ⟨by rw [z1]; omega, fun x h1 h2 => (o1 x (Nat.lt_of_lt_of_le h1 hle)).trans (hS.2.1 x h1 h2), hS.2.2⟩ hl
/-- a class whose objects are made: its number, how many fields, its words -/
def CL (own : String) (ix c N : Nat) : Prop := ∃ (C : String) (T : u_T) (ty0 : Nat → FieldType), vwCl[c]? = some (C, T, N) ∧ (∀ w ∈ u_ws C T N, w ∈ GT) ∧ (∀ j, j < N → parseFieldDescriptor (T j).2.2.1 = some (ty0 j)) ∧ (∀ j, j < N → defaultValue (ty0 j) = if isR (T j).2.2.1 = true then .null else .int 0) ∧ Cond.classLink own ix C ∈ GT ∧ Cond.instantiable C N ∈ GT ∧ Cond.initialized C ∈ GT
theorem q_new {ix c N : Nat} (hd : decode M.2.1 pc = .ok (.new ix, 3)) (F : CL M.1.cls ix c N) (kk : mW l G M d mc ms (pc + 3) ls (.ref (nx h) :: st) (al h (c + 1) N) Q X) : mW l G M d (mc + 1) (ms + N) pc ls st h Q X := by
  intro p e R s m args below meth c0 A H locs cells slots mct mst lm Cx hr hR hS hl
  obtain ⟨r1, r2, r3, r4, r5, r6⟩ := hr
  obtain ⟨C, T, ty0, hc, hin, htys, hdf, w1, w2, w3⟩ := F
  have hts := Cx.2.2.2.2.2.1
  have hK := Cx.2.2.2.2.2.2.2.2.2.1
  have hAA := Cx.2.2.2.2.2.2.2.2.2.2.2
  have hKn := hK.1 c _ hc
  refine W.newcK Cx.1 Cx.2.1 Cx.2.2.2.2.1 (hts _ w1) (hts _ w2) (hts _ w3) rfl hd (by omega) (by omega) hKn.2.1 hR.1 fun H1 kC hkC e1 z1 o1 => ?_
  have hce : ent G.2.1 (al h (c + 1) N) (nx h) = .inr (c, ob (al h (c + 1) N) (nx h) (C, T, N)) := ent_ob (va_up_self _ _ _) hc
  have hat : va_at G.1 vwCl (nx h, .inr (c, ob (al h (c + 1) N) (nx h) (C, T, N))) H1 := ⟨_, hc, (u_born ty0 hts hin hKn hkC e1 htys).to (fun j hj => by
    rw [hdf j hj]
    simp only [vp_V, List.getD]
    rw [ob_get (c := 0) hj]
    show _ = fv (al h (c + 1) N) (nx h) T j
    unfold fv
    simp [al, gi, gr, va_up, va_rf])⟩
  have hle : s.heap.size ≤ nx h := by rw [← hR.1]; exact hS.1
  exact kk p e R s m args below meth c0 A H1 _ (cells + 1) (slots + N) mct mst lm Cx ⟨r1, r2, by omega, by omega, r5, r6⟩ (mRel_push hR z1 o1 (hAA _ hle) hat rfl (fun b => al_kd (by omega)) (fun b hb => al_ent hb) hce)
    ⟨by rw [z1]; omega, fun x h1 h2 => (o1 x (Nat.lt_of_lt_of_le h1 hle)).trans (hS.2.1 x h1 h2), hS.2.2⟩ hl
theorem q_objInit {a ix : Nat} (hd : decode M.2.1 pc = .ok (.invokespecial ix, 3)) (w1 : Cond.methodLink M.1.cls ix Lib.objectInit ∈ GT) (w2 : Cond.instanceMethod Lib.objectInit ∈ GT) (w3 : Cond.code Lib.objectInit ⟨#[0xb1]⟩ 1 none ∈ GT) (hst : (st.map fun v => v.category).sum ≤ 8) (kk : mW l G M d mc ms (pc + 3) ls st h Q X) : mW l G M d mc ms pc ls (.ref a :: st) h Q X := by
  intro p e R s m args below meth c0 A H locs cells slots mct mst lm Cx hr hR hS hl
  obtain ⟨r1, r2, r3, r4, r5, r6⟩ := id hr
  have hts := Cx.2.2.2.2.2.1
  have hroom := lv_room (m := m) (pc := pc) (ls := lm) (rest := .ref a :: st) hst
  exact W.objInit Cx.1 Cx.2.1 Cx.2.2.2.2.1 (hts _ w1) (hts _ w2) (hts _ w3) rfl (by rw [Cx.2.2.2.1]; exact hl.1) rfl hd (by omega) (by omega) (kk p e R s m args below meth c0 A H locs cells slots mct mst lm Cx hr hR hS hl)
/-! ends -/
theorem q_end {st0 : List Value} {v : Option Value} (hq : Q v h) (hw : ∀ (p : Program) (e : Env) (R : Room) (s : State) (m : MethodId) (args : Array Value) (below : List Frame) (meth : Method) (c : Code) (H : Heap) (locs : List Loc) (cells slots : Nat) (lm : Array Slot) (Qc : Array Value → State → Outcome → State → Prop) (free : Addr → Prop),
      p.tables.exec = Jvm.exec → c.code = M.2.1 → meth.sig.returnType = M.2.2.2.1 → meth.locks = false → (∀ t : State, t.heap = H → s.WarmedH t.vm → Qc args s (.returned v) t) → (∀ q ∈ locs, free q.base) → W p l e R s m args below meth c H locs cells slots (MQ below Qc args s cells slots free) (F0 m pc lm st0)) : mW l G M d mc ms pc ls st0 h Q X := by
  intro p e R s m args below meth c0 A H locs cells slots mct mst lm Cx hr hR hS hl
  obtain ⟨r1, r2, r3, r4, r5, r6⟩ := hr
  refine vx_ret ?_
  refine W.widen (k := mct) (n := mst) (by omega) (by omega) ?_
  exact hw p e R s m args below meth c0 H locs mct mst lm (mQc G Q A) A Cx.1 Cx.2.1 Cx.2.2.1 Cx.2.2.2.2.2.2.1 (fun t ht _ => ⟨⟨v, h, rfl, hq, by rw [ht]; exact hR⟩, hS.F ht⟩) hS.2.2
theorem q_ireturn {x : Int32} (hd : decode M.2.1 pc = .ok (.ireturn, 1)) (hret : M.2.2.2.1 = some .int) (hq : Q (some (.int x)) h) : mW l G M d mc ms pc ls [.int x] h Q X :=
  q_end hq (fun _ _ _ _ _ _ _ _ _ _ _ _ _ _ _ _ a1 a2 a3 a4 a5 a6 => W.iret a1 a2 (by rw [a3, hret]) a5 a6 hd a4)
theorem q_zreturn {x : Int32} {t : FieldType} (hd : decode M.2.1 pc = .ok (.ireturn, 1)) (hret : M.2.2.2.1 = some t) (hn : narrow t (.int x) = .int x) (hq : Q (some (.int x)) h) : mW l G M d mc ms pc ls [.int x] h Q X :=
  q_end hq (fun _ _ _ _ _ _ _ _ _ _ _ _ _ _ _ _ a1 a2 a3 a4 a5 a6 => W.zret a1 a2 (by rw [a3, hret]) hn a5 a6 hd a4)
theorem q_return (hd : decode M.2.1 pc = .ok (.return_, 1)) (hret : M.2.2.2.1 = none) (hq : Q none h) : mW l G M d mc ms pc ls [] h Q X :=
  q_end hq (fun _ _ _ _ _ _ _ _ _ _ _ _ _ _ _ _ a1 a2 a3 a4 a5 a6 => W.vret a1 a2 (by rw [a3, hret]) a5 a6 hd a4)
theorem q_areturn {v : Option Nat} {t : FieldType} (hd : decode M.2.1 pc = .ok (.areturn, 1)) (hret : M.2.2.2.1 = some t) (ht : (∃ n, t = .object n) ∨ ∃ u, t = .array u) (hq : Q (some (va_rf v)) h) : mW l G M d mc ms pc ls [va_rf v] h Q X :=
  q_end hq (fun _ _ _ _ _ _ _ _ _ _ _ _ _ _ _ _ a1 a2 a3 a4 a5 a6 => W.aret a1 a2 (by rw [a3, hret]) ht (by cases v; exact Or.inl rfl; exact Or.inr ⟨_, rfl⟩) a5 a6 hd a4)
theorem q_dreturn {x : UInt64} (hd : decode M.2.1 pc = .ok (.dreturn, 1)) (hret : M.2.2.2.1 = some .double) (hq : Q (some (.double x)) h) : mW l G M d mc ms pc ls [.double x] h Q X :=
  q_end hq (fun _ _ _ _ _ _ _ _ _ _ _ _ _ _ _ _ a1 a2 a3 a4 a5 a6 => W.dret a1 a2 (by rw [a3, hret]) a5 a6 hd a4)
theorem q_freturn {x : UInt32} (hd : decode M.2.1 pc = .ok (.freturn, 1)) (hret : M.2.2.2.1 = some .float) (hq : Q (some (.float x)) h) : mW l G M d mc ms pc ls [.float x] h Q X :=
  q_end hq (fun _ _ _ _ _ _ _ _ _ _ _ _ _ _ _ _ a1 a2 a3 a4 a5 a6 => W.fret a1 a2 (by rw [a3, hret]) a5 a6 hd a4)
end HEAP
