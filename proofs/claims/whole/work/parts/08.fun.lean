/-! partial functions over the heap: what a method does, as a function; and how its pieces are read off 'some' -/
def grd {α : Type} (p : Prop) [Decidable p] (x : Option α) : Option α := if p then x else none
def bnd {α β : Type} (a : α) (f : α → Option β) : Option β := f a
def orf {α β : Type} (o : Option α) (f : α → Option β) : Option β := match o with | none => none | some a => f a
def oif {α β : Type} (o : Option α) (x : Option β) (f : α → Option β) : Option β := match o with | none => x | some a => f a
def cal {ρ β : Type} (x : Option (ρ × mH)) (f : ρ → mH → Option β) : Option β := match x with | none => none | some o => f o.1 o.2
def calX {ρ β : Type} (x : Option ((ρ ⊕ String) × mH)) (f : ρ → mH → Option β) (g : String → mH → Option β) : Option β := match x with | none => none | some (.inl r, h) => f r h | some (.inr e, h) => g e h
def lp {σ ρ : Type} (f : σ → Option (σ ⊕ ρ)) : Nat → σ → Option ρ
  | 0, _ => none
  | n + 1, s => match f s with
    | none => none
    | some (.inl s') => lp f n s'
    | some (.inr r) => some r
theorem grd_some {α : Type} {p : Prop} [Decidable p] {x : Option α} {y : α} (h : grd p x = some y) : p ∧ x = some y := by
  unfold grd at h
  by_cases hp : p
  · rw [if_pos hp] at h; exact ⟨hp, h⟩
  · rw [if_neg hp] at h; cases h
theorem bnd_x {α β : Type} {a : α} {f : α → Option β} {y : β} (h : bnd a f = some y) : ∃ x, a = x ∧ f x = some y := ⟨a, rfl, h⟩
theorem orf_some {α β : Type} {o : Option α} {f : α → Option β} {y : β} (h : orf o f = some y) : ∃ a, o = some a ∧ f a = some y := by
  cases o with
  | none => cases h
  | some a => exact ⟨a, rfl, h⟩
theorem oif_some {α β : Type} {o : Option α} {x : Option β} {f : α → Option β} {y : β} (h : oif o x f = some y) : (o = none ∧ x = some y) ∨ ∃ a, o = some a ∧ f a = some y := by
  cases o with
  | none => exact Or.inl ⟨rfl, h⟩
  | some a => exact Or.inr ⟨a, rfl, h⟩
theorem cal_some {ρ β : Type} {x : Option (ρ × mH)} {f : ρ → mH → Option β} {y : β} (h : cal x f = some y) : ∃ r h', x = some (r, h') ∧ f r h' = some y := by
  cases x with
  | none => cases h
  | some o => exact ⟨o.1, o.2, rfl, h⟩
theorem calX_some {ρ β : Type} {x : Option ((ρ ⊕ String) × mH)} {f : ρ → mH → Option β} {g : String → mH → Option β} {y : β} (h : calX x f g = some y) : (∃ r h', x = some (.inl r, h') ∧ f r h' = some y) ∨ ∃ e h', x = some (.inr e, h') ∧ g e h' = some y := by
  match x, h with
  | some (.inl r, h'), h => exact Or.inl ⟨r, h', rfl, h⟩
  | some (.inr e, h'), h => exact Or.inr ⟨e, h', rfl, h⟩
theorem ite_t {α : Type} {p : Prop} [Decidable p] {x y : Option α} {z : α} (h : (if p then x else y) = some z) (hp : p) : x = some z := by rw [if_pos hp] at h; exact h
theorem ite_f {α : Type} {p : Prop} [Decidable p] {x y : Option α} {z : α} (h : (if p then x else y) = some z) (hp : ¬ p) : y = some z := by rw [if_neg hp] at h; exact h
def lpK {σ ρ : Type} (W : σ → Prop) (K : ρ → Prop) : σ ⊕ ρ → Prop
  | .inl s => W s
  | .inr r => K r
theorem lp_go {σ ρ : Type} (W : σ → Prop) (K : ρ → Prop) (f : σ → Option (σ ⊕ ρ)) (hs : ∀ s o, f s = some o → lpK W K o → W s) : ∀ n s r, lp f n s = some r → K r → W s
  | 0, _, _, h, _ => by cases h
  | n + 1, s, r, h, hk => by
    unfold lp at h
    cases hf : f s with
    | none => rw [hf] at h; cases h
    | some o =>
      rw [hf] at h
      cases o with
      | inl s' => exact hs s _ hf (lp_go W K f hs n s' r h hk)
      | inr r' => cases h; exact hs s _ hf hk
def inrO {σ ρ : Type} (x : Option ρ) : Option (σ ⊕ ρ) := match x with | none => none | some r => some (.inr r)
theorem inrO_some {σ ρ : Type} {x : Option ρ} {o : σ ⊕ ρ} (h : inrO x = some o) : ∃ r, x = some r ∧ o = .inr r := by
  cases x with
  | none => cases h
  | some r => cases h; exact ⟨r, rfl, rfl⟩
theorem r_cat (o : Option Nat) : (va_rf o).category = 1 := by cases o <;> rfl
theorem ac_0 : ∀ v ∈ ([] : List Value), v.category = 1 := fun _ h => nomatch h
theorem ac_c {u : Value} {av : List Value} (h : u.category = 1) (t : ∀ v ∈ av, v.category = 1) : ∀ v ∈ u :: av, v.category = 1 := fun v hv => (List.mem_cons.mp hv).elim (fun e => by rw [e]; exact h) (t v)
/-- how a method ends: by its answer, or by a throw (behind which the machine may have made cells) -/
def fiI (Q : Option Value → mH → Prop) (o : Int32 × mH) : Prop := Q (some (.int o.1)) o.2
def fiV (Q : Option Value → mH → Prop) (o : Unit × mH) : Prop := Q none o.2
def fiR (Q : Option Value → mH → Prop) (o : Option Nat × mH) : Prop := Q (some (va_rf o.1)) o.2
def fiD (Q : Option Value → mH → Prop) (o : UInt64 × mH) : Prop := Q (some (.double o.1)) o.2
def fiF (Q : Option Value → mH → Prop) (o : UInt32 × mH) : Prop := Q (some (.float o.1)) o.2
def fxT (X : String → mH → Prop) (e : String) (h : mH) : Prop := ∀ n, nx h ≤ n → X e (sn h n)
def fiIX (Q : Option Value → mH → Prop) (X : String → mH → Prop) (o : (Int32 ⊕ String) × mH) : Prop := match o.1 with | .inl r => Q (some (.int r)) o.2 | .inr e => fxT X e o.2
def fiRX (Q : Option Value → mH → Prop) (X : String → mH → Prop) (o : (Option Nat ⊕ String) × mH) : Prop := match o.1 with | .inl r => Q (some (va_rf r)) o.2 | .inr e => fxT X e o.2
def fiVX (Q : Option Value → mH → Prop) (X : String → mH → Prop) (o : (Unit ⊕ String) × mH) : Prop := match o.1 with | .inl _ => Q none o.2 | .inr e => fxT X e o.2
def fiDX (Q : Option Value → mH → Prop) (X : String → mH → Prop) (o : (UInt64 ⊕ String) × mH) : Prop := match o.1 with | .inl r => Q (some (.double r)) o.2 | .inr e => fxT X e o.2
def fiFX (Q : Option Value → mH → Prop) (X : String → mH → Prop) (o : (UInt32 ⊕ String) × mH) : Prop := match o.1 with | .inl r => Q (some (.float r)) o.2 | .inr e => fxT X e o.2
/-- fewer known locals, place by place -/
def lsub : List (Option Value) → List (Option Value) → Prop
  | [], _ => True
  | none :: l, [] => lsub l []
  | none :: l, _ :: l' => lsub l l'
  | some v :: l, o :: l' => o = some v ∧ lsub l l'
  | some _ :: _, [] => False
theorem ls_0 {l' : List (Option Value)} : lsub [] l' := trivial
theorem ls_n {l l' : List (Option Value)} {o : Option Value} (h : lsub l l') : lsub (none :: l) (o :: l') := h
theorem ls_s {l l' : List (Option Value)} {v : Value} (h : lsub l l') : lsub (some v :: l) (some v :: l') := ⟨rfl, h⟩
theorem lsub_get : ∀ (l l' : List (Option Value)), lsub l l' → ∀ (i : Nat) (v : Value), l[i]? = some (some v) → l'[i]? = some (some v)
  | [], _, _, i, v, h => by simp at h
  | none :: l, [], hs, 0, v, h => by simp at h
  | none :: l, [], hs, i + 1, v, h => by
    have := lsub_get l [] hs i v (by simpa using h)
    simp at this
  | none :: l, o :: l', hs, 0, v, h => by simp at h
  | none :: l, o :: l', hs, i + 1, v, h => by
    have := lsub_get l l' hs i v (by simpa using h)
    simpa using this
  | some u :: l, o :: l', hs, 0, v, h => by
    simp at h
    subst h
    simp [hs.1]
  | some u :: l, o :: l', hs, i + 1, v, h => by
    have := lsub_get l l' hs.2 i v (by simpa using h)
    simpa using this
  | some u :: l, [], hs, i, v, h => hs.elim
section FUN
variable {l : Launch} {G : mG} {M : mMI} {d mc ms pc : Nat} {ls : List (Option Value)} {st : List Value} {h h' : mH} {Q : Option Value → mH → Prop} {X : String → mH → Prop}
theorem r_fewer (ls' : List (Option Value)) (hw : lsub ls' ls) (kk : mW l G M d mc ms pc ls' st h Q X) : mW l G M d mc ms pc ls st h Q X := q_fewer (lsub_get ls' ls hw) kk
abbrev inb (i : Int32) (n : Nat) : Prop := ¬ i < 0 ∧ i.toNatClampNeg < n
theorem ix_of {i : Int32} {n : Nat} (g : inb i n) : Ix i i.toNatClampNeg n := ⟨fun q => q.elim g.1 (fun q => Nat.not_le.mpr g.2 q), rfl⟩
theorem nar_of {t : FieldType} {x : Int32} (ht : t = .boolean ∨ t = .byte ∨ t = .char ∨ t = .short ∨ t = .int) (g : vp_nar t x = x) : narrow t (.int x) = .int x := by
  rcases ht with rfl | rfl | rfl | rfl | rfl
  · exact congrArg Value.int g
  · exact congrArg Value.int g
  · exact congrArg Value.int g
  · exact congrArg Value.int g
  · rfl
theorem narZ {x : Int32} (g : vp_nar .boolean x = x) : narrow .boolean (.int x) = .int x := nar_of (Or.inl rfl) g
theorem narC {x : Int32} (g : vp_nar .char x = x) : narrow .char (.int x) = .int x := nar_of (Or.inr (Or.inr (Or.inl rfl))) g
theorem narB {x : Int32} (g : vp_nar .byte x = x) : narrow .byte (.int x) = .int x := nar_of (Or.inr (Or.inl rfl)) g
/-- a count of cells that may be made: small, and not below 0 -/
abbrev cnt (i : Int32) (n : Nat) : Prop := ¬ i < 0 ∧ i.toNatClampNeg ≤ n
theorem cnt_nI {i : Int32} {n : Nat} (g : cnt i n) : i = nI i.toNatClampNeg := by
  obtain ⟨j, hj, rfl⟩ := nI_of g.1
  rw [nI_clamp hj]
theorem r_getI {a ix c k : Nat} {ty : FieldType} {f : Bool} (hd : decode M.2.1 pc = .ok (.getfield ix, 3)) (F : FL M.1.cls ix c k ty f) (hkd : kd h a = c + 1) (kk : mW l G M d mc ms (pc + 3) ls (.int (gi h a k) :: st) h Q X) (hty : isRt ty = false := by rfl) : mW l G M d mc ms pc ls (.ref a :: st) h Q X := q_getI hd F hkd hty kk
theorem r_getR {a b ix c k : Nat} {ty : FieldType} {f : Bool} (hd : decode M.2.1 pc = .ok (.getfield ix, 3)) (F : FL M.1.cls ix c k ty f) (hkd : kd h a = c + 1) (hv : gr h a k = some b) (kk : mW l G M d mc ms (pc + 3) ls (.ref b :: st) h Q X) (hty : isRt ty = true := by rfl) : mW l G M d mc ms pc ls (.ref a :: st) h Q X := q_getR hd F hkd hv hty kk
theorem r_putI {a ix c k : Nat} {ty : FieldType} {f : Bool} {v : Int32} (hd : decode M.2.1 pc = .ok (.putfield ix, 3)) (F : FL M.1.cls ix c k ty f) (hkd : kd h a = c + 1) (hn : narrow ty (.int v) = .int v) (hft : fits ty (.int v) = true) (hh : si h a k v = h')
    (kk : mW l G M d mc ms (pc + 3) ls st h' Q X) (hf : f = false ∨ (M.1.name = "<init>" ∧ ∀ C T N, vwCl[c]? = some (C, T, N) → C = M.1.cls) := by exact Or.inl rfl) (hty : isRt ty = false := by rfl) : mW l G M d mc ms pc ls (.int v :: .ref a :: st) h Q X := by
  subst hh
  exact q_putI hd F hkd hf hn hft hty kk
theorem r_putR {a b ix c k : Nat} {ty : FieldType} {f : Bool} (hd : decode M.2.1 pc = .ok (.putfield ix, 3)) (F : FL M.1.cls ix c k ty f) (hkd : kd h a = c + 1) (hh : sr h a k (some b) = h')
    (kk : mW l G M d mc ms (pc + 3) ls st h' Q X) (hf : f = false ∨ (M.1.name = "<init>" ∧ ∀ C T N, vwCl[c]? = some (C, T, N) → C = M.1.cls)) (hn : narrow ty (va_rf (some b)) = va_rf (some b) := by rfl) (hft : fits ty (va_rf (some b)) = true := by rfl) (hty : isRt ty = true := by rfl) : mW l G M d mc ms pc ls (.ref b :: .ref a :: st) h Q X := by
  subst hh
  exact q_putR (v := some b) hd F hkd hf hn hft hty kk
theorem r_iaload {a : Nat} {i : Int32} (hd : decode M.2.1 pc = .ok (.iaload, 1)) (hkd : kd h a = 104) (g : inb i (sz h a)) (kk : mW l G M d mc ms (pc + 1) ls (.int (gi h a i.toNatClampNeg) :: st) h Q X) : mW l G M d mc ms pc ls (.int i :: .ref a :: st) h Q X := q_iaload hd hkd (ix_of g) kk
theorem r_caload {a : Nat} {i : Int32} (hd : decode M.2.1 pc = .ok (.caload, 1)) (hkd : kd h a = 103) (g : inb i (sz h a)) (kk : mW l G M d mc ms (pc + 1) ls (.int (gi h a i.toNatClampNeg) :: st) h Q X) : mW l G M d mc ms pc ls (.int i :: .ref a :: st) h Q X := q_caload hd hkd (ix_of g) kk
theorem r_zaload {a : Nat} {i : Int32} (hd : decode M.2.1 pc = .ok (.baload, 1)) (hkd : kd h a = 101) (g : inb i (sz h a)) (kk : mW l G M d mc ms (pc + 1) ls (.int (gi h a i.toNatClampNeg) :: st) h Q X) : mW l G M d mc ms pc ls (.int i :: .ref a :: st) h Q X := q_zaload hd hkd (ix_of g) kk
theorem r_aaload {a c t0 : Nat} {i : Int32} {C : String} {v : Option Nat} (hd : decode M.2.1 pc = .ok (.aaload, 1)) (t0' : tyL[t0]? = some (c, .object C)) (hkd : kd h a = c) (g : inb i (sz h a)) (hv : gr h a i.toNatClampNeg = v) (kk : mW l G M d mc ms (pc + 1) ls (va_rf v :: st) h Q X) (hc : 106 < c := by decide) : mW l G M d mc ms pc ls (.int i :: .ref a :: st) h Q X := q_aaload hd hkd t0' hc (ix_of g) hv kk
theorem r_iastore {a : Nat} {i x : Int32} (hd : decode M.2.1 pc = .ok (.iastore, 1)) (hkd : kd h a = 104) (g : inb i (sz h a)) (hh : si h a i.toNatClampNeg x = h') (kk : mW l G M d mc ms (pc + 1) ls st h' Q X) : mW l G M d mc ms pc ls (.int x :: .int i :: .ref a :: st) h Q X := by
  subst hh; exact q_iastore hd hkd (ix_of g) kk
theorem r_castore {a : Nat} {i x : Int32} (hd : decode M.2.1 pc = .ok (.castore, 1)) (hkd : kd h a = 103) (g : inb i (sz h a)) (hn : vp_nar .char x = x) (hh : si h a i.toNatClampNeg x = h') (kk : mW l G M d mc ms (pc + 1) ls st h' Q X) : mW l G M d mc ms pc ls (.int x :: .int i :: .ref a :: st) h Q X := by
  subst hh; exact q_castore hd hkd (ix_of g) (narC hn) kk
theorem r_zastore {a : Nat} {i x : Int32} (hd : decode M.2.1 pc = .ok (.bastore, 1)) (hkd : kd h a = 101) (g : inb i (sz h a)) (hn : vp_nar .boolean x = x) (hh : si h a i.toNatClampNeg x = h') (kk : mW l G M d mc ms (pc + 1) ls st h' Q X) : mW l G M d mc ms pc ls (.int x :: .int i :: .ref a :: st) h Q X := by
  subst hh; exact q_zastore hd hkd (ix_of g) (narZ hn) kk
theorem r_aastore {a b c t0 ci : Nat} {i : Int32} {r : vw_C} (hd : decode M.2.1 pc = .ok (.aastore, 1)) (ht : tyL[t0]? = some (c, .object r.1)) (hci : vwCl[ci]? = some r) (hkd : kd h a = c) (hb : kd h b = ci + 1) (g : inb i (sz h a)) (hh : sr h a i.toNatClampNeg (some b) = h') (kk : mW l G M d mc ms (pc + 1) ls st h' Q X) (hc : 106 < c := by decide) : mW l G M d mc ms pc ls (.ref b :: .int i :: .ref a :: st) h Q X := by
  subst hh; exact q_aastore hd hkd ht hc (ix_of g) hb hci kk
theorem r_aastoreN {a c t0 : Nat} {i : Int32} {C : String} (hd : decode M.2.1 pc = .ok (.aastore, 1)) (ht : tyL[t0]? = some (c, .object C)) (hkd : kd h a = c) (g : inb i (sz h a)) (hh : sr h a i.toNatClampNeg none = h') (kk : mW l G M d mc ms (pc + 1) ls st h' Q X) (hc : 106 < c := by decide) : mW l G M d mc ms pc ls (.null :: .int i :: .ref a :: st) h Q X := by
  subst hh; exact q_aastoreN hd hkd ht hc (ix_of g) kk
theorem r_alen {a c t0 : Nat} {t : FieldType} (hd : decode M.2.1 pc = .ok (.arraylength, 1)) (ht : tyL[t0]? = some (c, t)) (hkd : kd h a = c) (kk : mW l G M d mc ms (pc + 1) ls (.int (nI (sz h a)) :: st) h Q X) (hc : 100 < c := by decide) : mW l G M d mc ms pc ls (.ref a :: st) h Q X := q_alen hd hkd hc ht rfl kk
theorem r_istore {i : Nat} {x x' : Int32} {ls' : List (Option Value)} (hd : decode M.2.1 pc = .ok (.istore i, 2)) (hi : i < M.2.2.1) (hx : x = x') (hls : ls.set i (some (.int x')) = ls') (kk : mW l G M d mc ms (pc + 2) ls' st h Q X) : mW l G M d mc ms pc ls (.int x :: st) h Q X := by
  subst hx; subst hls; exact q_istore hd hi kk
theorem r_istore_n {k : Fin 4} {x x' : Int32} {ls' : List (Option Value)} (hd : decode M.2.1 pc = .ok (.istore_n k, 1)) (hi : (k : Nat) < M.2.2.1) (hx : x = x') (hls : ls.set k (some (.int x')) = ls') (kk : mW l G M d mc ms (pc + 1) ls' st h Q X) : mW l G M d mc ms pc ls (.int x :: st) h Q X := by
  subst hx; subst hls; exact q_istore_n hd hi kk
theorem r_astore {i : Nat} {x : Nat} {ls' : List (Option Value)} (hd : decode M.2.1 pc = .ok (.astore i, 2)) (hi : i < M.2.2.1) (hls : ls.set i (some (.ref x)) = ls') (kk : mW l G M d mc ms (pc + 2) ls' st h Q X) : mW l G M d mc ms pc ls (.ref x :: st) h Q X := by
  subst hls; exact q_astore hd hi kk
theorem r_astore_n {k : Fin 4} {x : Nat} {ls' : List (Option Value)} (hd : decode M.2.1 pc = .ok (.astore_n k, 1)) (hi : (k : Nat) < M.2.2.1) (hls : ls.set k (some (.ref x)) = ls') (kk : mW l G M d mc ms (pc + 1) ls' st h Q X) : mW l G M d mc ms pc ls (.ref x :: st) h Q X := by
  subst hls; exact q_astore_n hd hi kk
theorem r_astoreN {i : Nat} {ls' : List (Option Value)} (hd : decode M.2.1 pc = .ok (.astore i, 2)) (hi : i < M.2.2.1) (hls : ls.set i (some .null) = ls') (kk : mW l G M d mc ms (pc + 2) ls' st h Q X) : mW l G M d mc ms pc ls (.null :: st) h Q X := by
  subst hls; exact q_astoreN hd hi kk
theorem r_astore_nN {k : Fin 4} {ls' : List (Option Value)} (hd : decode M.2.1 pc = .ok (.astore_n k, 1)) (hi : (k : Nat) < M.2.2.1) (hls : ls.set k (some .null) = ls') (kk : mW l G M d mc ms (pc + 1) ls' st h Q X) : mW l G M d mc ms pc ls (.null :: st) h Q X := by
  subst hls; exact q_astore_nN hd hi kk
theorem r_astoreO {i : Nat} {o : Option Nat} {ls' : List (Option Value)} (hd : decode M.2.1 pc = .ok (.astore i, 2)) (hi : i < M.2.2.1) (hls : ls.set i (some (va_rf o)) = ls') (kk : mW l G M d mc ms (pc + 2) ls' st h Q X) : mW l G M d mc ms pc ls (va_rf o :: st) h Q X := by
  subst hls; cases o with
  | none => exact q_astoreN hd hi kk
  | some a => exact q_astore hd hi kk
theorem r_astore_nO {k : Fin 4} {o : Option Nat} {ls' : List (Option Value)} (hd : decode M.2.1 pc = .ok (.astore_n k, 1)) (hi : (k : Nat) < M.2.2.1) (hls : ls.set k (some (va_rf o)) = ls') (kk : mW l G M d mc ms (pc + 1) ls' st h Q X) : mW l G M d mc ms pc ls (va_rf o :: st) h Q X := by
  subst hls; cases o with
  | none => exact q_astore_nN hd hi kk
  | some a => exact q_astore_n hd hi kk
theorem r_aloadO {i : Nat} {o : Option Nat} (hd : decode M.2.1 pc = .ok (.aload i, 2)) (hi : ls[i]? = some (some (va_rf o))) (kk : mW l G M d mc ms (pc + 2) ls (va_rf o :: st) h Q X) : mW l G M d mc ms pc ls st h Q X := by
  cases o with
  | none => exact q_aloadN hd hi kk
  | some a => exact q_aload hd hi kk
theorem r_aload_nO {k : Fin 4} {o : Option Nat} (hd : decode M.2.1 pc = .ok (.aload_n k, 1)) (hi : ls[(k : Nat)]? = some (some (va_rf o))) (kk : mW l G M d mc ms (pc + 1) ls (va_rf o :: st) h Q X) : mW l G M d mc ms pc ls st h Q X := by
  cases o with
  | none => exact q_aload_nN hd hi kk
  | some a => exact q_aload_n hd hi kk
theorem r_iinc {i : Nat} {n : Int} {x v : Int32} {ls' : List (Option Value)} (hd : decode M.2.1 pc = .ok (.iinc i n, 3)) (hi : ls[i]? = some (some (.int x))) (hv : x + Int32.ofInt n = v) (hm : i < M.2.2.1) (hls : ls.set i (some (.int v)) = ls') (kk : mW l G M d mc ms (pc + 3) ls' st h Q X) : mW l G M d mc ms pc ls st h Q X := by
  subst hls; exact q_iinc hd hi hv hm kk
theorem r_aastoreO {a c t0 ci : Nat} {o : Option Nat} {i : Int32} {r : vw_C} (hd : decode M.2.1 pc = .ok (.aastore, 1)) (ht : tyL[t0]? = some (c, .object r.1)) (hci : vwCl[ci]? = some r) (hkd : kd h a = c) (hb : ∀ b ∈ o, kd h b = ci + 1) (g : inb i (sz h a)) (hh : sr h a i.toNatClampNeg o = h') (kk : mW l G M d mc ms (pc + 1) ls st h' Q X) (hc : 106 < c := by decide) : mW l G M d mc ms pc ls (va_rf o :: .int i :: .ref a :: st) h Q X := by
  subst hh
  cases o with
  | none => exact q_aastoreN hd hkd ht hc (ix_of g) kk
  | some b => exact q_aastore hd hkd ht hc (ix_of g) (hb b rfl) hci kk
theorem inl_inj {ρ : Type} {r r' : ρ} {h k : mH} (q : ((.inl r : ρ ⊕ String), h) = (.inl r', k)) : r = r' ∧ h = k := by
  cases q
  exact ⟨rfl, rfl⟩
theorem r_lookupV {dflt : Int} {ps : Array (Int × Int)} {len : Nat} {x : Int32} {off : Int} {tgt : Nat} (v : Int32) (hd : decode M.2.1 pc = .ok (.lookupswitch dflt ps, len)) (hx : x = v) (hp : (ps.toList.zip (ps.toList.drop 1)).all (fun (a, next) => a.1 < next.1) = true) (ho : Op.lookupswitch.offset ps.toList dflt v.toInt = off) (ht : (pc : Int) + off = (tgt : Int)) (kk : mW l G M d mc ms tgt ls st h Q X) : mW l G M d mc ms pc ls (.int x :: st) h Q X := by
  subst hx
  intro p e R s m args below meth c A H locs cells slots mct mst lm C hr hR hS hl
  exact lv_lookup C.1 C.2.1 hd hp ho ht (kk p e R s m args below meth c A H locs cells slots mct mst lm C hr hR hS hl)
/-- a switch over known numbers -/
theorem r_tableIn {dflt lo hi : Int} {offs : Array Int} {len : Nat} {x : Int32} {off : Int} {tgt : Nat} (v : Int32) (hd : decode M.2.1 pc = .ok (.tableswitch dflt lo hi offs, len)) (hx : x = v) (h1 : ¬ v.toInt < lo) (h2 : ¬ hi < v.toInt) (ho : offs[(v.toInt - lo).toNat]? = some off) (ht : (pc : Int) + off = (tgt : Int)) (kk : mW l G M d mc ms tgt ls st h Q X) : mW l G M d mc ms pc ls (.int x :: st) h Q X := by
  subst hx
  intro p e R s m args below meth c A H locs cells slots mct mst lm C hr hR hS hl
  exact lv_tableIn C.1 C.2.1 hd h1 h2 ho ht (kk p e R s m args below meth c A H locs cells slots mct mst lm C hr hR hS hl)
theorem r_tableOut {dflt lo hi : Int} {offs : Array Int} {len : Nat} {x : Int32} {tgt : Nat} (hd : decode M.2.1 pc = .ok (.tableswitch dflt lo hi offs, len)) (h1 : x.toInt < lo ∨ hi < x.toInt) (ht : (pc : Int) + dflt = (tgt : Int)) (kk : mW l G M d mc ms tgt ls st h Q X) : mW l G M d mc ms pc ls (.int x :: st) h Q X := by
  intro p e R s m args below meth c A H locs cells slots mct mst lm C hr hR hS hl
  exact lv_tableOut C.1 C.2.1 hd h1 ht (kk p e R s m args below meth c A H locs cells slots mct mst lm C hr hR hS hl)
theorem r_lookup {dflt : Int} {ps : Array (Int × Int)} {len : Nat} {x : Int32} {off : Int} {tgt : Nat} (hd : decode M.2.1 pc = .ok (.lookupswitch dflt ps, len)) (hp : (ps.toList.zip (ps.toList.drop 1)).all (fun (a, next) => a.1 < next.1) = true) (ho : Op.lookupswitch.offset ps.toList dflt x.toInt = off) (ht : (pc : Int) + off = (tgt : Int)) (kk : mW l G M d mc ms tgt ls st h Q X) : mW l G M d mc ms pc ls (.int x :: st) h Q X := by
  intro p e R s m args below meth c A H locs cells slots mct mst lm C hr hR hS hl
  exact lv_lookup C.1 C.2.1 hd hp ho ht (kk p e R s m args below meth c A H locs cells slots mct mst lm C hr hR hS hl)
/-- the top of the stack, by its name -/
theorem r_top {x x' : Int32} (hx : x = x') (kk : mW l G M d mc ms pc ls (.int x' :: st) h Q X) : mW l G M d mc ms pc ls (.int x :: st) h Q X := by
  subst hx; exact kk
theorem r_newarray {c t0 n : Nat} {t : FieldType} {at' : ArrayType} {i : Int32} {q : Nat} (hd : decode M.2.1 pc = .ok (.newarray at', 2)) (ha : Cond.arrayClass t ∈ GT) (hty : newarray.typeOf at' = t) (ht : tyL[t0]? = some (c, t)) (hcc : 100 < c ∧ c ≤ 106) (g : cnt i n) (hn : n ≤ 65536) (hq : nx h = q) (hh : al h c i.toNatClampNeg = h')
    (kk : mW l G M d mc ms (pc + 2) ls (.ref q :: st) h' Q X) : mW l G M d (mc + 1) (ms + n) pc ls (.int i :: st) h Q X := by
  subst hh; subst hq
  have g2 := g.2
  exact q_room (Nat.le_refl _) (Nat.le_refl _) (Nat.add_le_add_left g2 _) (q_newarray (n := i.toNatClampNeg) hd ha hty ht hcc (cnt_nI g) (Nat.le_trans g2 hn) kk)
theorem r_anewarray {c t0 n ix : Nat} {C : String} {i : Int32} {q : Nat} (hd : decode M.2.1 pc = .ok (.anewarray ix, 3)) (hcl : Cond.classLink M.1.cls ix C ∈ GT) (ht : tyL[t0]? = some (c, .object C)) (hC : C = RX4 ∨ C = RX6 ∨ C = RX10) (hcc : 106 < c) (g : cnt i n) (hn : n ≤ 65536) (hq : nx h = q) (hh : al h c i.toNatClampNeg = h')
    (kk : mW l G M d mc ms (pc + 3) ls (.ref q :: st) h' Q X) : mW l G M d (mc + 1) (ms + n) pc ls (.int i :: st) h Q X := by
  subst hh; subst hq
  have g2 := g.2
  exact q_room (Nat.le_refl _) (Nat.le_refl _) (Nat.add_le_add_left g2 _) (q_anewarray (n := i.toNatClampNeg) hd hcl ht hC hcc (cnt_nI g) (Nat.le_trans g2 hn) kk)
theorem r_new {ix c N q : Nat} (hd : decode M.2.1 pc = .ok (.new ix, 3)) (F : CL M.1.cls ix c N) (hq : nx h = q) (hh : al h (c + 1) N = h') (kk : mW l G M d mc ms (pc + 3) ls (.ref q :: st) h' Q X) : mW l G M d (mc + 1) (ms + N) pc ls st h Q X := by
  subst hh; subst hq; exact q_new hd F kk
section ARITY
variable {M' : mMI} {d' mc' ms' ix a c : Nat} {Q' : Option Value → mH → Prop} {X' : String → mH → Prop}
theorem r_callV0 (hd : decode M.2.1 pc = .ok (.invokevirtual ix, 3)) (F : KV M.1.cls ix M' 0 c) (K : mMet l G M' d' mc' ms' [.ref a] h Q' X') (hkd : kd h a = c + 1) (hdd : d' + 1 ≤ d) (hst : (st.map fun v => v.category).sum ≤ 8) (hX : ∀ E h', X' E h' → X E h')
    (kk : ∀ (v : Option Value) (h' : mH), Q' v h' → mW l G M d mc ms (pc + 3) ls (v.toList ++ st) h' Q X) (hh : M.2.2.2.2 = [] := by rfl) : mW l G M d (mc' + mc) (ms' + ms) pc ls (.ref a :: st) h Q X := q_callV (As := []) hd F K hkd rfl hdd hst hh hX kk
theorem r_callV1 {u : Value} (hd : decode M.2.1 pc = .ok (.invokevirtual ix, 3)) (F : KV M.1.cls ix M' 1 c) (K : mMet l G M' d' mc' ms' [.ref a, u] h Q' X') (hkd : kd h a = c + 1) (hdd : d' + 1 ≤ d) (hst : (st.map fun v => v.category).sum ≤ 8) (hX : ∀ E h', X' E h' → X E h')
    (kk : ∀ (v : Option Value) (h' : mH), Q' v h' → mW l G M d mc ms (pc + 3) ls (v.toList ++ st) h' Q X) (hh : M.2.2.2.2 = [] := by rfl) : mW l G M d (mc' + mc) (ms' + ms) pc ls (u :: .ref a :: st) h Q X := q_callV (As := [u]) hd F K hkd rfl hdd hst hh hX kk
theorem r_callV2 {u v : Value} (hd : decode M.2.1 pc = .ok (.invokevirtual ix, 3)) (F : KV M.1.cls ix M' 2 c) (K : mMet l G M' d' mc' ms' [.ref a, u, v] h Q' X') (hkd : kd h a = c + 1) (hdd : d' + 1 ≤ d) (hst : (st.map fun v => v.category).sum ≤ 8) (hX : ∀ E h', X' E h' → X E h')
    (kk : ∀ (v : Option Value) (h' : mH), Q' v h' → mW l G M d mc ms (pc + 3) ls (v.toList ++ st) h' Q X) (hh : M.2.2.2.2 = [] := by rfl) : mW l G M d (mc' + mc) (ms' + ms) pc ls (v :: u :: .ref a :: st) h Q X := q_callV (As := [u, v]) hd F K hkd rfl hdd hst hh hX kk
theorem r_callV3 {u v w : Value} (hd : decode M.2.1 pc = .ok (.invokevirtual ix, 3)) (F : KV M.1.cls ix M' 3 c) (K : mMet l G M' d' mc' ms' [.ref a, u, v, w] h Q' X') (hkd : kd h a = c + 1) (hdd : d' + 1 ≤ d) (hst : (st.map fun v => v.category).sum ≤ 8) (hX : ∀ E h', X' E h' → X E h')
    (kk : ∀ (v : Option Value) (h' : mH), Q' v h' → mW l G M d mc ms (pc + 3) ls (v.toList ++ st) h' Q X) (hh : M.2.2.2.2 = [] := by rfl) : mW l G M d (mc' + mc) (ms' + ms) pc ls (w :: v :: u :: .ref a :: st) h Q X := q_callV (As := [u, v, w]) hd F K hkd rfl hdd hst hh hX kk
theorem r_callV4 {u v w x : Value} (hd : decode M.2.1 pc = .ok (.invokevirtual ix, 3)) (F : KV M.1.cls ix M' 4 c) (K : mMet l G M' d' mc' ms' [.ref a, u, v, w, x] h Q' X') (hkd : kd h a = c + 1) (hdd : d' + 1 ≤ d) (hst : (st.map fun v => v.category).sum ≤ 8) (hX : ∀ E h', X' E h' → X E h')
    (kk : ∀ (v : Option Value) (h' : mH), Q' v h' → mW l G M d mc ms (pc + 3) ls (v.toList ++ st) h' Q X) (hh : M.2.2.2.2 = [] := by rfl) : mW l G M d (mc' + mc) (ms' + ms) pc ls (x :: w :: v :: u :: .ref a :: st) h Q X := q_callV (As := [u, v, w, x]) hd F K hkd rfl hdd hst hh hX kk
theorem r_callV5 {u v w x y : Value} (hd : decode M.2.1 pc = .ok (.invokevirtual ix, 3)) (F : KV M.1.cls ix M' 5 c) (K : mMet l G M' d' mc' ms' [.ref a, u, v, w, x, y] h Q' X') (hkd : kd h a = c + 1) (hdd : d' + 1 ≤ d) (hst : (st.map fun v => v.category).sum ≤ 8) (hX : ∀ E h', X' E h' → X E h')
    (kk : ∀ (v : Option Value) (h' : mH), Q' v h' → mW l G M d mc ms (pc + 3) ls (v.toList ++ st) h' Q X) (hh : M.2.2.2.2 = [] := by rfl) : mW l G M d (mc' + mc) (ms' + ms) pc ls (y :: x :: w :: v :: u :: .ref a :: st) h Q X := q_callV (As := [u, v, w, x, y]) hd F K hkd rfl hdd hst hh hX kk
theorem r_callV6 {u v w x y z : Value} (hd : decode M.2.1 pc = .ok (.invokevirtual ix, 3)) (F : KV M.1.cls ix M' 6 c) (K : mMet l G M' d' mc' ms' [.ref a, u, v, w, x, y, z] h Q' X') (hkd : kd h a = c + 1) (hdd : d' + 1 ≤ d) (hst : (st.map fun v => v.category).sum ≤ 8) (hX : ∀ E h', X' E h' → X E h')
    (kk : ∀ (v : Option Value) (h' : mH), Q' v h' → mW l G M d mc ms (pc + 3) ls (v.toList ++ st) h' Q X) (hh : M.2.2.2.2 = [] := by rfl) : mW l G M d (mc' + mc) (ms' + ms) pc ls (z :: y :: x :: w :: v :: u :: .ref a :: st) h Q X := q_callV (As := [u, v, w, x, y, z]) hd F K hkd rfl hdd hst hh hX kk
theorem r_callS0 (hd : decode M.2.1 pc = .ok (.invokestatic ix, 3)) (F : KS M.1.cls ix M' 0) (K : mMet l G M' d' mc' ms' [] h Q' X') (hdd : d' + 1 ≤ d) (hst : (st.map fun v => v.category).sum ≤ 8) (hX : ∀ E h', X' E h' → X E h')
    (kk : ∀ (v : Option Value) (h' : mH), Q' v h' → mW l G M d mc ms (pc + 3) ls (v.toList ++ st) h' Q X) (hh : M.2.2.2.2 = [] := by rfl) : mW l G M d (mc' + mc) (ms' + ms) pc ls (st) h Q X := q_callS (As := []) hd F K rfl hdd hst hh hX kk
theorem r_callS1 {u : Value} (hd : decode M.2.1 pc = .ok (.invokestatic ix, 3)) (F : KS M.1.cls ix M' 1) (K : mMet l G M' d' mc' ms' [u] h Q' X') (hdd : d' + 1 ≤ d) (hst : (st.map fun v => v.category).sum ≤ 8) (hX : ∀ E h', X' E h' → X E h')
    (kk : ∀ (v : Option Value) (h' : mH), Q' v h' → mW l G M d mc ms (pc + 3) ls (v.toList ++ st) h' Q X) (hh : M.2.2.2.2 = [] := by rfl) : mW l G M d (mc' + mc) (ms' + ms) pc ls (u :: st) h Q X := q_callS (As := [u]) hd F K rfl hdd hst hh hX kk
theorem r_callS2 {u v : Value} (hd : decode M.2.1 pc = .ok (.invokestatic ix, 3)) (F : KS M.1.cls ix M' 2) (K : mMet l G M' d' mc' ms' [u, v] h Q' X') (hdd : d' + 1 ≤ d) (hst : (st.map fun v => v.category).sum ≤ 8) (hX : ∀ E h', X' E h' → X E h')
    (kk : ∀ (v : Option Value) (h' : mH), Q' v h' → mW l G M d mc ms (pc + 3) ls (v.toList ++ st) h' Q X) (hh : M.2.2.2.2 = [] := by rfl) : mW l G M d (mc' + mc) (ms' + ms) pc ls (v :: u :: st) h Q X := q_callS (As := [u, v]) hd F K rfl hdd hst hh hX kk
theorem r_callS3 {u v w : Value} (hd : decode M.2.1 pc = .ok (.invokestatic ix, 3)) (F : KS M.1.cls ix M' 3) (K : mMet l G M' d' mc' ms' [u, v, w] h Q' X') (hdd : d' + 1 ≤ d) (hst : (st.map fun v => v.category).sum ≤ 8) (hX : ∀ E h', X' E h' → X E h')
    (kk : ∀ (v : Option Value) (h' : mH), Q' v h' → mW l G M d mc ms (pc + 3) ls (v.toList ++ st) h' Q X) (hh : M.2.2.2.2 = [] := by rfl) : mW l G M d (mc' + mc) (ms' + ms) pc ls (w :: v :: u :: st) h Q X := q_callS (As := [u, v, w]) hd F K rfl hdd hst hh hX kk
theorem r_callS4 {u v w x : Value} (hd : decode M.2.1 pc = .ok (.invokestatic ix, 3)) (F : KS M.1.cls ix M' 4) (K : mMet l G M' d' mc' ms' [u, v, w, x] h Q' X') (hdd : d' + 1 ≤ d) (hst : (st.map fun v => v.category).sum ≤ 8) (hX : ∀ E h', X' E h' → X E h')
    (kk : ∀ (v : Option Value) (h' : mH), Q' v h' → mW l G M d mc ms (pc + 3) ls (v.toList ++ st) h' Q X) (hh : M.2.2.2.2 = [] := by rfl) : mW l G M d (mc' + mc) (ms' + ms) pc ls (x :: w :: v :: u :: st) h Q X := q_callS (As := [u, v, w, x]) hd F K rfl hdd hst hh hX kk
theorem r_callS5 {u v w x y : Value} (hd : decode M.2.1 pc = .ok (.invokestatic ix, 3)) (F : KS M.1.cls ix M' 5) (K : mMet l G M' d' mc' ms' [u, v, w, x, y] h Q' X') (hdd : d' + 1 ≤ d) (hst : (st.map fun v => v.category).sum ≤ 8) (hX : ∀ E h', X' E h' → X E h')
    (kk : ∀ (v : Option Value) (h' : mH), Q' v h' → mW l G M d mc ms (pc + 3) ls (v.toList ++ st) h' Q X) (hh : M.2.2.2.2 = [] := by rfl) : mW l G M d (mc' + mc) (ms' + ms) pc ls (y :: x :: w :: v :: u :: st) h Q X := q_callS (As := [u, v, w, x, y]) hd F K rfl hdd hst hh hX kk
theorem r_callS6 {u v w x y z : Value} (hd : decode M.2.1 pc = .ok (.invokestatic ix, 3)) (F : KS M.1.cls ix M' 6) (K : mMet l G M' d' mc' ms' [u, v, w, x, y, z] h Q' X') (hdd : d' + 1 ≤ d) (hst : (st.map fun v => v.category).sum ≤ 8) (hX : ∀ E h', X' E h' → X E h')
    (kk : ∀ (v : Option Value) (h' : mH), Q' v h' → mW l G M d mc ms (pc + 3) ls (v.toList ++ st) h' Q X) (hh : M.2.2.2.2 = [] := by rfl) : mW l G M d (mc' + mc) (ms' + ms) pc ls (z :: y :: x :: w :: v :: u :: st) h Q X := q_callS (As := [u, v, w, x, y, z]) hd F K rfl hdd hst hh hX kk
theorem r_callSN0 (hd : decode M.2.1 pc = .ok (.invokestatic ix, 3)) (F : KSN M.1.cls ix M' 0) (K : mMet l G M' d' mc' ms' [] h Q' X') (hdd : d' + 1 ≤ d) (hst : (st.map fun v => v.category).sum ≤ 8) (hX : ∀ E h', X' E h' → X E h')
    (kk : ∀ (v : Option Value) (h' : mH), Q' v h' → mW l G M d mc ms (pc + 3) ls (v.toList ++ st) h' Q X) (hh : M.2.2.2.2 = [] := by rfl) : mW l G M d (mc' + mc) (ms' + ms) pc ls (st) h Q X := q_callSN (As := []) hd F K rfl hdd hst hh hX kk
theorem r_callSN1 {u : Value} (hd : decode M.2.1 pc = .ok (.invokestatic ix, 3)) (F : KSN M.1.cls ix M' 1) (K : mMet l G M' d' mc' ms' [u] h Q' X') (hdd : d' + 1 ≤ d) (hst : (st.map fun v => v.category).sum ≤ 8) (hX : ∀ E h', X' E h' → X E h')
    (kk : ∀ (v : Option Value) (h' : mH), Q' v h' → mW l G M d mc ms (pc + 3) ls (v.toList ++ st) h' Q X) (hh : M.2.2.2.2 = [] := by rfl) : mW l G M d (mc' + mc) (ms' + ms) pc ls (u :: st) h Q X := q_callSN (As := [u]) hd F K rfl hdd hst hh hX kk
theorem r_callSN2 {u v : Value} (hd : decode M.2.1 pc = .ok (.invokestatic ix, 3)) (F : KSN M.1.cls ix M' 2) (K : mMet l G M' d' mc' ms' [u, v] h Q' X') (hdd : d' + 1 ≤ d) (hst : (st.map fun v => v.category).sum ≤ 8) (hX : ∀ E h', X' E h' → X E h')
    (kk : ∀ (v : Option Value) (h' : mH), Q' v h' → mW l G M d mc ms (pc + 3) ls (v.toList ++ st) h' Q X) (hh : M.2.2.2.2 = [] := by rfl) : mW l G M d (mc' + mc) (ms' + ms) pc ls (v :: u :: st) h Q X := q_callSN (As := [u, v]) hd F K rfl hdd hst hh hX kk
theorem r_callSN3 {u v w : Value} (hd : decode M.2.1 pc = .ok (.invokestatic ix, 3)) (F : KSN M.1.cls ix M' 3) (K : mMet l G M' d' mc' ms' [u, v, w] h Q' X') (hdd : d' + 1 ≤ d) (hst : (st.map fun v => v.category).sum ≤ 8) (hX : ∀ E h', X' E h' → X E h')
    (kk : ∀ (v : Option Value) (h' : mH), Q' v h' → mW l G M d mc ms (pc + 3) ls (v.toList ++ st) h' Q X) (hh : M.2.2.2.2 = [] := by rfl) : mW l G M d (mc' + mc) (ms' + ms) pc ls (w :: v :: u :: st) h Q X := q_callSN (As := [u, v, w]) hd F K rfl hdd hst hh hX kk
theorem r_callSN4 {u v w x : Value} (hd : decode M.2.1 pc = .ok (.invokestatic ix, 3)) (F : KSN M.1.cls ix M' 4) (K : mMet l G M' d' mc' ms' [u, v, w, x] h Q' X') (hdd : d' + 1 ≤ d) (hst : (st.map fun v => v.category).sum ≤ 8) (hX : ∀ E h', X' E h' → X E h')
    (kk : ∀ (v : Option Value) (h' : mH), Q' v h' → mW l G M d mc ms (pc + 3) ls (v.toList ++ st) h' Q X) (hh : M.2.2.2.2 = [] := by rfl) : mW l G M d (mc' + mc) (ms' + ms) pc ls (x :: w :: v :: u :: st) h Q X := q_callSN (As := [u, v, w, x]) hd F K rfl hdd hst hh hX kk
theorem r_callSN5 {u v w x y : Value} (hd : decode M.2.1 pc = .ok (.invokestatic ix, 3)) (F : KSN M.1.cls ix M' 5) (K : mMet l G M' d' mc' ms' [u, v, w, x, y] h Q' X') (hdd : d' + 1 ≤ d) (hst : (st.map fun v => v.category).sum ≤ 8) (hX : ∀ E h', X' E h' → X E h')
    (kk : ∀ (v : Option Value) (h' : mH), Q' v h' → mW l G M d mc ms (pc + 3) ls (v.toList ++ st) h' Q X) (hh : M.2.2.2.2 = [] := by rfl) : mW l G M d (mc' + mc) (ms' + ms) pc ls (y :: x :: w :: v :: u :: st) h Q X := q_callSN (As := [u, v, w, x, y]) hd F K rfl hdd hst hh hX kk
theorem r_callSN6 {u v w x y z : Value} (hd : decode M.2.1 pc = .ok (.invokestatic ix, 3)) (F : KSN M.1.cls ix M' 6) (K : mMet l G M' d' mc' ms' [u, v, w, x, y, z] h Q' X') (hdd : d' + 1 ≤ d) (hst : (st.map fun v => v.category).sum ≤ 8) (hX : ∀ E h', X' E h' → X E h')
    (kk : ∀ (v : Option Value) (h' : mH), Q' v h' → mW l G M d mc ms (pc + 3) ls (v.toList ++ st) h' Q X) (hh : M.2.2.2.2 = [] := by rfl) : mW l G M d (mc' + mc) (ms' + ms) pc ls (z :: y :: x :: w :: v :: u :: st) h Q X := q_callSN (As := [u, v, w, x, y, z]) hd F K rfl hdd hst hh hX kk
theorem r_callI0 (hd : decode M.2.1 pc = .ok (.invokespecial ix, 3)) (F : KI M.1.cls ix M' 0) (K : mMet l G M' d' mc' ms' [.ref a] h Q' X') (hdd : d' + 1 ≤ d) (hst : (st.map fun v => v.category).sum ≤ 8) (hX : ∀ E h', X' E h' → X E h')
    (kk : ∀ (v : Option Value) (h' : mH), Q' v h' → mW l G M d mc ms (pc + 3) ls (v.toList ++ st) h' Q X) (hh : M.2.2.2.2 = [] := by rfl) : mW l G M d (mc' + mc) (ms' + ms) pc ls (.ref a :: st) h Q X := q_callI (As := []) hd F K rfl hdd hst hh hX kk
theorem r_callI1 {u : Value} (hd : decode M.2.1 pc = .ok (.invokespecial ix, 3)) (F : KI M.1.cls ix M' 1) (K : mMet l G M' d' mc' ms' [.ref a, u] h Q' X') (hdd : d' + 1 ≤ d) (hst : (st.map fun v => v.category).sum ≤ 8) (hX : ∀ E h', X' E h' → X E h')
    (kk : ∀ (v : Option Value) (h' : mH), Q' v h' → mW l G M d mc ms (pc + 3) ls (v.toList ++ st) h' Q X) (hh : M.2.2.2.2 = [] := by rfl) : mW l G M d (mc' + mc) (ms' + ms) pc ls (u :: .ref a :: st) h Q X := q_callI (As := [u]) hd F K rfl hdd hst hh hX kk
theorem r_callI2 {u v : Value} (hd : decode M.2.1 pc = .ok (.invokespecial ix, 3)) (F : KI M.1.cls ix M' 2) (K : mMet l G M' d' mc' ms' [.ref a, u, v] h Q' X') (hdd : d' + 1 ≤ d) (hst : (st.map fun v => v.category).sum ≤ 8) (hX : ∀ E h', X' E h' → X E h')
    (kk : ∀ (v : Option Value) (h' : mH), Q' v h' → mW l G M d mc ms (pc + 3) ls (v.toList ++ st) h' Q X) (hh : M.2.2.2.2 = [] := by rfl) : mW l G M d (mc' + mc) (ms' + ms) pc ls (v :: u :: .ref a :: st) h Q X := q_callI (As := [u, v]) hd F K rfl hdd hst hh hX kk
theorem r_callI3 {u v w : Value} (hd : decode M.2.1 pc = .ok (.invokespecial ix, 3)) (F : KI M.1.cls ix M' 3) (K : mMet l G M' d' mc' ms' [.ref a, u, v, w] h Q' X') (hdd : d' + 1 ≤ d) (hst : (st.map fun v => v.category).sum ≤ 8) (hX : ∀ E h', X' E h' → X E h')
    (kk : ∀ (v : Option Value) (h' : mH), Q' v h' → mW l G M d mc ms (pc + 3) ls (v.toList ++ st) h' Q X) (hh : M.2.2.2.2 = [] := by rfl) : mW l G M d (mc' + mc) (ms' + ms) pc ls (w :: v :: u :: .ref a :: st) h Q X := q_callI (As := [u, v, w]) hd F K rfl hdd hst hh hX kk
theorem r_callI4 {u v w x : Value} (hd : decode M.2.1 pc = .ok (.invokespecial ix, 3)) (F : KI M.1.cls ix M' 4) (K : mMet l G M' d' mc' ms' [.ref a, u, v, w, x] h Q' X') (hdd : d' + 1 ≤ d) (hst : (st.map fun v => v.category).sum ≤ 8) (hX : ∀ E h', X' E h' → X E h')
    (kk : ∀ (v : Option Value) (h' : mH), Q' v h' → mW l G M d mc ms (pc + 3) ls (v.toList ++ st) h' Q X) (hh : M.2.2.2.2 = [] := by rfl) : mW l G M d (mc' + mc) (ms' + ms) pc ls (x :: w :: v :: u :: .ref a :: st) h Q X := q_callI (As := [u, v, w, x]) hd F K rfl hdd hst hh hX kk
theorem r_callI5 {u v w x y : Value} (hd : decode M.2.1 pc = .ok (.invokespecial ix, 3)) (F : KI M.1.cls ix M' 5) (K : mMet l G M' d' mc' ms' [.ref a, u, v, w, x, y] h Q' X') (hdd : d' + 1 ≤ d) (hst : (st.map fun v => v.category).sum ≤ 8) (hX : ∀ E h', X' E h' → X E h')
    (kk : ∀ (v : Option Value) (h' : mH), Q' v h' → mW l G M d mc ms (pc + 3) ls (v.toList ++ st) h' Q X) (hh : M.2.2.2.2 = [] := by rfl) : mW l G M d (mc' + mc) (ms' + ms) pc ls (y :: x :: w :: v :: u :: .ref a :: st) h Q X := q_callI (As := [u, v, w, x, y]) hd F K rfl hdd hst hh hX kk
theorem r_callI6 {u v w x y z : Value} (hd : decode M.2.1 pc = .ok (.invokespecial ix, 3)) (F : KI M.1.cls ix M' 6) (K : mMet l G M' d' mc' ms' [.ref a, u, v, w, x, y, z] h Q' X') (hdd : d' + 1 ≤ d) (hst : (st.map fun v => v.category).sum ≤ 8) (hX : ∀ E h', X' E h' → X E h')
    (kk : ∀ (v : Option Value) (h' : mH), Q' v h' → mW l G M d mc ms (pc + 3) ls (v.toList ++ st) h' Q X) (hh : M.2.2.2.2 = [] := by rfl) : mW l G M d (mc' + mc) (ms' + ms) pc ls (z :: y :: x :: w :: v :: u :: .ref a :: st) h Q X := q_callI (As := [u, v, w, x, y, z]) hd F K rfl hdd hst hh hX kk
theorem r_callIN0 (hd : decode M.2.1 pc = .ok (.invokespecial ix, 3)) (F : KIN M.1.cls ix M' 0) (K : mMet l G M' d' mc' ms' [.ref a] h Q' X') (hdd : d' + 1 ≤ d) (hst : (st.map fun v => v.category).sum ≤ 8) (hX : ∀ E h', X' E h' → X E h')
    (kk : ∀ (v : Option Value) (h' : mH), Q' v h' → mW l G M d mc ms (pc + 3) ls (v.toList ++ st) h' Q X) (hh : M.2.2.2.2 = [] := by rfl) : mW l G M d (mc' + mc) (ms' + ms) pc ls (.ref a :: st) h Q X := q_callIN (As := []) hd F K rfl hdd hst hh hX kk
theorem r_callIN1 {u : Value} (hd : decode M.2.1 pc = .ok (.invokespecial ix, 3)) (F : KIN M.1.cls ix M' 1) (K : mMet l G M' d' mc' ms' [.ref a, u] h Q' X') (hdd : d' + 1 ≤ d) (hst : (st.map fun v => v.category).sum ≤ 8) (hX : ∀ E h', X' E h' → X E h')
    (kk : ∀ (v : Option Value) (h' : mH), Q' v h' → mW l G M d mc ms (pc + 3) ls (v.toList ++ st) h' Q X) (hh : M.2.2.2.2 = [] := by rfl) : mW l G M d (mc' + mc) (ms' + ms) pc ls (u :: .ref a :: st) h Q X := q_callIN (As := [u]) hd F K rfl hdd hst hh hX kk
theorem r_callIN2 {u v : Value} (hd : decode M.2.1 pc = .ok (.invokespecial ix, 3)) (F : KIN M.1.cls ix M' 2) (K : mMet l G M' d' mc' ms' [.ref a, u, v] h Q' X') (hdd : d' + 1 ≤ d) (hst : (st.map fun v => v.category).sum ≤ 8) (hX : ∀ E h', X' E h' → X E h')
    (kk : ∀ (v : Option Value) (h' : mH), Q' v h' → mW l G M d mc ms (pc + 3) ls (v.toList ++ st) h' Q X) (hh : M.2.2.2.2 = [] := by rfl) : mW l G M d (mc' + mc) (ms' + ms) pc ls (v :: u :: .ref a :: st) h Q X := q_callIN (As := [u, v]) hd F K rfl hdd hst hh hX kk
theorem r_callIN3 {u v w : Value} (hd : decode M.2.1 pc = .ok (.invokespecial ix, 3)) (F : KIN M.1.cls ix M' 3) (K : mMet l G M' d' mc' ms' [.ref a, u, v, w] h Q' X') (hdd : d' + 1 ≤ d) (hst : (st.map fun v => v.category).sum ≤ 8) (hX : ∀ E h', X' E h' → X E h')
    (kk : ∀ (v : Option Value) (h' : mH), Q' v h' → mW l G M d mc ms (pc + 3) ls (v.toList ++ st) h' Q X) (hh : M.2.2.2.2 = [] := by rfl) : mW l G M d (mc' + mc) (ms' + ms) pc ls (w :: v :: u :: .ref a :: st) h Q X := q_callIN (As := [u, v, w]) hd F K rfl hdd hst hh hX kk
theorem r_callIN4 {u v w x : Value} (hd : decode M.2.1 pc = .ok (.invokespecial ix, 3)) (F : KIN M.1.cls ix M' 4) (K : mMet l G M' d' mc' ms' [.ref a, u, v, w, x] h Q' X') (hdd : d' + 1 ≤ d) (hst : (st.map fun v => v.category).sum ≤ 8) (hX : ∀ E h', X' E h' → X E h')
    (kk : ∀ (v : Option Value) (h' : mH), Q' v h' → mW l G M d mc ms (pc + 3) ls (v.toList ++ st) h' Q X) (hh : M.2.2.2.2 = [] := by rfl) : mW l G M d (mc' + mc) (ms' + ms) pc ls (x :: w :: v :: u :: .ref a :: st) h Q X := q_callIN (As := [u, v, w, x]) hd F K rfl hdd hst hh hX kk
theorem r_callIN5 {u v w x y : Value} (hd : decode M.2.1 pc = .ok (.invokespecial ix, 3)) (F : KIN M.1.cls ix M' 5) (K : mMet l G M' d' mc' ms' [.ref a, u, v, w, x, y] h Q' X') (hdd : d' + 1 ≤ d) (hst : (st.map fun v => v.category).sum ≤ 8) (hX : ∀ E h', X' E h' → X E h')
    (kk : ∀ (v : Option Value) (h' : mH), Q' v h' → mW l G M d mc ms (pc + 3) ls (v.toList ++ st) h' Q X) (hh : M.2.2.2.2 = [] := by rfl) : mW l G M d (mc' + mc) (ms' + ms) pc ls (y :: x :: w :: v :: u :: .ref a :: st) h Q X := q_callIN (As := [u, v, w, x, y]) hd F K rfl hdd hst hh hX kk
theorem r_callIN6 {u v w x y z : Value} (hd : decode M.2.1 pc = .ok (.invokespecial ix, 3)) (F : KIN M.1.cls ix M' 6) (K : mMet l G M' d' mc' ms' [.ref a, u, v, w, x, y, z] h Q' X') (hdd : d' + 1 ≤ d) (hst : (st.map fun v => v.category).sum ≤ 8) (hX : ∀ E h', X' E h' → X E h')
    (kk : ∀ (v : Option Value) (h' : mH), Q' v h' → mW l G M d mc ms (pc + 3) ls (v.toList ++ st) h' Q X) (hh : M.2.2.2.2 = [] := by rfl) : mW l G M d (mc' + mc) (ms' + ms) pc ls (z :: y :: x :: w :: v :: u :: .ref a :: st) h Q X := q_callIN (As := [u, v, w, x, y, z]) hd F K rfl hdd hst hh hX kk
end ARITY
end FUN
theorem gt_selN {y : MethodName} (i n : Nat) (h : lw_privs[i]? = some (y, n)) : Cond.selects y.cls y y ∈ GT := gt_sel i h rfl
