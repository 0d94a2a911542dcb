/-! well-formed patterns: letters, a sign behind its part, a joint or bar behind its two parts -/
def WF (p : List Nat) : Prop := ∀ P : List Nat → Prop, (∀ c, 1 ≤ c → c ≤ 3 → P [c]) → (∀ x s, P x → 6 ≤ s → s ≤ 8 → P (x ++ [s])) → (∀ x y b, P x → P y → (b = 4 ∨ b = 5) → P (x ++ y ++ [b])) → P p
theorem WF_let {c : Nat} (h1 : 1 ≤ c) (h2 : c ≤ 3) : WF [c] := fun _ a _ _ => a c h1 h2
theorem WF_sign {x : List Nat} {s : Nat} (hx : WF x) (h1 : 6 ≤ s) (h2 : s ≤ 8) : WF (x ++ [s]) := fun P a b c => b x s (hx P a b c) h1 h2
theorem WF_bin {x y : List Nat} {o : Nat} (hx : WF x) (hy : WF y) (h : o = 4 ∨ o = 5) : WF (x ++ y ++ [o]) := fun P a b c => c x y o (hx P a b c) (hy P a b c) h
theorem WF_ind {P : List Nat → Prop} (hl : ∀ c, 1 ≤ c → c ≤ 3 → P [c]) (hs : ∀ x s, WF x → P x → 6 ≤ s → s ≤ 8 → P (x ++ [s])) (hb : ∀ x y b, WF x → P x → WF y → P y → (b = 4 ∨ b = 5) → P (x ++ y ++ [b])) {p : List Nat} (h : WF p) : P p :=
  (h (fun q => WF q ∧ P q) (fun c a b => ⟨WF_let a b, hl c a b⟩) (fun x s ih a b => ⟨WF_sign ih.1 a b, hs x s ih.1 ih.2 a b⟩) (fun x y b ih ih2 a => ⟨WF_bin ih.1 ih2.1 a, hb x y b ih.1 ih.2 ih2.1 ih2.2 a⟩)).2
theorem nLet_app (l l' : List Nat) : nLet (l ++ l') = nLet l + nLet l' := by unfold nLet; rw [List.filter_append, List.length_append]
theorem nSig_app (l l' : List Nat) : nSig (l ++ l') = nSig l + nSig l' := by unfold nSig; rw [List.filter_append, List.length_append]
theorem nLet_one (c : Nat) : nLet [c] = if c < 4 then 1 else 0 := by
  have := nLet_snoc [] c
  rw [List.nil_append] at this
  rw [this]
  exact Nat.zero_add _
theorem nSig_one (c : Nat) : nSig [c] = if 6 ≤ c then 1 else 0 := by
  have := nSig_snoc [] c
  rw [List.nil_append] at this
  rw [this]
  exact Nat.zero_add _
theorem WF_count {p : List Nat} (h : WF p) : p.length + 1 = 2 * nLet p + nSig p := by
  refine WF_ind (P := fun p => p.length + 1 = 2 * nLet p + nSig p) (fun c h1 h2 => ?_) (fun x s _ ih h1 h2 => ?_) (fun x y b _ ih _ ih2 h1 => ?_) h
  · rw [nLet_one, nSig_one, if_pos (by omega), if_neg (by omega)]; rfl
  · rw [nLet_app, nSig_app, nLet_one, nSig_one, if_neg (by omega), if_pos (by omega), List.length_append]; simp only [List.length_singleton]; omega
  · rw [nLet_app, nSig_app, nLet_one, nSig_one, if_neg (by omega), if_neg (by omega), nLet_app, nSig_app, List.length_append, List.length_append]; simp only [List.length_singleton]; omega
theorem WF_ne {p : List Nat} (h : WF p) : p ≠ [] := WF_ind (P := fun p => p ≠ []) (fun c _ _ => by simp) (fun x s _ _ _ _ => by simp) (fun x y b _ _ _ _ _ => by simp) h
theorem WF_mem {p : List Nat} (h : WF p) : ∀ c ∈ p, 1 ≤ c ∧ c < 9 := by
  refine WF_ind (P := fun p => ∀ c ∈ p, 1 ≤ c ∧ c < 9) (fun c h1 h2 => ?_) (fun x s _ ih h1 h2 => ?_) (fun x y b _ ih _ ih2 h1 => ?_) h
  · intro d hd; rw [List.mem_singleton] at hd; omega
  · intro d hd; rcases List.mem_append.mp hd with hd | hd
    · exact ih d hd
    · rw [List.mem_singleton] at hd; omega
  · intro d hd; rcases List.mem_append.mp hd with hd | hd
    · rcases List.mem_append.mp hd with hd | hd
      · exact ih d hd
      · exact ih2 d hd
    · rw [List.mem_singleton] at hd; omega
theorem small_of {p : List Nat} (h : ∀ c ∈ p, c < 9) : small p := fun k hk => by
  rw [List.getD_eq_getElem?_getD, List.getElem?_eq_getElem hk]
  exact h _ (List.getElem_mem hk)
theorem small_mem {p : List Nat} (h : small p) : ∀ c ∈ p, c < 9 := fun c hc => by
  obtain ⟨k, hk, rfl⟩ := List.getElem_of_mem hc
  have := h k hk
  rwa [List.getD_eq_getElem?_getD, List.getElem?_eq_getElem hk] at this
def GoodP (p : List Nat) : Prop := p = [] ∨ (WF p ∧ ¬ tooBig p)
theorem GoodP_len {p : List Nat} (h : GoodP p) : p.length ≤ 22 := by
  rcases h with rfl | ⟨h, ht⟩
  · decide
  · have := WF_count h
    have h1 : ¬ 7 < nLet p := fun q => ht (Or.inl q)
    have h2 : ¬ 9 < nSig p := fun q => ht (Or.inr q)
    omega
theorem GoodP_small {p : List Nat} (h : GoodP p) : small p := by
  rcases h with rfl | ⟨h, -⟩
  · intro k hk; exact absurd hk (Nat.not_lt_zero k)
  · exact small_of fun c hc => (WF_mem h c hc).2
theorem GoodP_wf {p : List Nat} (h : GoodP p) (hn : p ≠ []) : WF p := h.elim (fun q => absurd q hn) (fun q => q.1)
def GoodL (L : Lib) : Prop := (∀ s, s < 6 → GoodP (lP L s)) ∧ (lW L).length ≤ 8 ∧ (∀ w ∈ lW L, 1 ≤ w.length ∧ w.length ≤ 8 ∧ ∀ x ∈ w, x < 3)
theorem GoodL_put {L : Lib} {s : Nat} {p : List Nat} (h : GoodL L) (hp : GoodP p) : GoodL (putP L s p) := ⟨fun q hq => by
  show GoodP (up (lP L) s p q)
  by_cases e : q = s
  · subst e; rw [up_at]; exact hp
  · rw [up_ne _ _ e]; exact h.1 q hq, h.2.1, h.2.2⟩
theorem GoodL_free {L : Lib} {s : Nat} (h : GoodL L) : GoodL (freeP L s) := ⟨fun q hq => by
  show GoodP (up (lP L) s [] q)
  by_cases e : q = s
  · subst e; rw [up_at]; exact Or.inl rfl
  · rw [up_ne _ _ e]; exact h.1 q hq, h.2.1, h.2.2⟩
/-! the whole state: now, what can be undone (the latest first), the saved copy, the buffer, the two stored places, the line -/
abbrev St : Type := Lib × List Lib × Option Lib × List Nat × Option Nat × Option Nat × List Nat
def sCur (S : St) : Lib := S.1
def sUndo (S : St) : List Lib := S.2.1
def sSaved (S : St) : Option Lib := S.2.2.1
def sText (S : St) : List Nat := S.2.2.2.1
def sErr (S : St) : Option Nat := S.2.2.2.2.1
def sFail (S : St) : Option Nat := S.2.2.2.2.2.1
def sLine (S : St) : List Nat := S.2.2.2.2.2.2
def dL : Lib := (fun _ => [], [], 0)
def GoodS (S : St) : Prop := GoodL (sCur S) ∧ (∀ L ∈ sUndo S, GoodL L) ∧ (sUndo S).length ≤ 8 ∧ (∀ L ∈ sSaved S, GoodL L) ∧ (sText S).length ≤ 60 ∧ (∀ c ∈ sText S, 32 ≤ c ∧ c ≤ 126) ∧ (∀ e ∈ sErr S, e ≤ 60) ∧ (∀ e ∈ sFail S, e ≤ 60) ∧ (sLine S).length ≤ 120 ∧ (∀ c ∈ sLine S, 32 ≤ c ∧ c ≤ 126)
def remember (S : St) (L : Lib) : St := (L, (sCur S :: sUndo S).take 8, sSaved S, sText S, sErr S, sFail S, sLine S)
/-- frames: rows and scalars that may change -/
def Fr (rows sc : List Nat) (M M' : Nat → Nat → Int32) : Prop := (∀ r, r ≠ 0 → r ∉ rows → M' r = M r) ∧ ∀ k, k ∉ sc → M' 0 k = M 0 k
theorem Fr_rf (rows sc : List Nat) (M : Nat → Nat → Int32) : Fr rows sc M M := ⟨fun _ _ _ => rfl, fun _ _ => rfl⟩
theorem Fr_tr {rows sc : List Nat} {M M' M'' : Nat → Nat → Int32} (h : Fr rows sc M M') (h' : Fr rows sc M' M'') : Fr rows sc M M'' := ⟨fun r h0 hr => (h'.1 r h0 hr).trans (h.1 r h0 hr), fun k hk => (h'.2 k hk).trans (h.2 k hk)⟩
theorem Fr_wk {rows sc rows' sc' : List Nat} {M M' : Nat → Nat → Int32} (h : Fr rows sc M M') (h1 : ∀ r ∈ rows, r ∈ rows') (h2 : ∀ r ∈ sc, r ∈ sc') : Fr rows' sc' M M' := ⟨fun r h0 hr => h.1 r h0 (fun q => hr (h1 r q)), fun k hk => h.2 k (fun q => hk (h2 k q))⟩
theorem Fr_ro {rows sc : List Nat} {M : Nat → Nat → Int32} {r : Nat} (F : Nat → Int32) (h0 : r ≠ 0) (h : r ∈ rows) : Fr rows sc M (ro M r F) := ⟨fun q _ hq => ro_ne _ _ (fun e => hq (e ▸ h)), fun k _ => by rw [ro_ne _ _ (fun e => h0 e.symm)]⟩
theorem Fr_r0 {rows sc : List Nat} {M : Nat → Nat → Int32} {k : Nat} (v : Int32) (h : k ∈ sc) : Fr rows sc M (ro M 0 (up (M 0) k v)) := ⟨fun q h0 _ => ro_ne _ _ h0, fun q hq => by
  rw [ro_at]
  exact up_ne _ _ (fun e => hq (by rw [e]; exact h))⟩
/-! the reference's ring of states -/
def Ring (M : Nat → Nat → Int32) (u : List Lib) : Prop := ∃ f, f < 8 ∧ M 0 6 = nI f ∧ M 0 5 = nI u.length ∧ u.length ≤ 8 ∧ ∀ i, i < u.length → ∀ j, j < 248 → M 2 (248 * ((f + (u.length - 1 - i)) % 8) + j) = enc (u.getD i dL) j
theorem Ring_fr {M M' : Nat → Nat → Int32} {u : List Lib} {rows sc : List Nat} (h : Ring M u) (hf : Fr rows sc M M') (h2 : 2 ∉ rows) (h5 : 5 ∉ sc) (h6 : 6 ∉ sc) : Ring M' u := by
  obtain ⟨f, a1, a2, a3, a4, a5⟩ := h
  exact ⟨f, a1, by rw [hf.2 _ h6]; exact a2, by rw [hf.2 _ h5]; exact a3, a4, fun i hi j hj => by rw [hf.1 _ (by decide) h2]; exact a5 i hi j hj⟩
def blk (f : Nat → Int32) (b k : Nat) (g : Nat → Int32) : Nat → Int32 := fun j => if b ≤ j ∧ j < b + k then g (j - b) else f j
theorem blk_0 (f : Nat → Int32) (b : Nat) (g : Nat → Int32) : blk f b 0 g = f := by funext j; unfold blk; rw [if_neg (by omega)]
theorem blk_up (f : Nat → Int32) (b k : Nat) (g : Nat → Int32) : up (blk f b k g) (b + k) (g k) = blk f b (k + 1) g := by
  funext j
  unfold up blk
  by_cases h : j = b + k
  · subst h; rw [if_pos rfl, if_pos (by omega), Nat.add_sub_cancel_left]
  · rw [if_neg h]
    by_cases h2 : b ≤ j ∧ j < b + k
    · rw [if_pos h2, if_pos (by omega)]
    · rw [if_neg h2, if_neg (by omega)]
section KEEPS
variable {n : Nat} {h : mH} {A M : Nat → Nat → Int32} {R : Nat → Nat → Option Nat}
theorem m_keeps47 {b : Nat} (hb : b < 8) : g_X12_keeps_47 (ma n 0) (nI b) (nI 0) (E n h A M R) = some ((), E n h A (ro (ro M 2 (blk (M 2) (248 * b) 248 (M 4))) 0 (up (M 0) 5 (M 0 5 + nI 1))) R) := by
  unfold g_X12_keeps_47
  have h0 := lp_for0 (f := b_X12_keeps_47 (ma n 0) (nI b)) (fun k => (nI k, E n h A (ro M 2 (blk (M 2) (248 * b) k (M 4))) R)) 248 ((), E n h A (ro (ro M 2 (blk (M 2) (248 * b) 248 (M 4))) 0 (up (M 0) 5 (M 0 5 + nI 1))) R) (fun k hk => ?_) ?_ (L := 100000) (by decide)
  · simp only [blk_0, ro_self] at h0
    exact h0
  · unfold b_X12_keeps_47 b0_X12_keeps_47
    simp (disch := omega) only [↓grd_u, ↓bnd_e, ↓orf_u, ↓oif_u, ↓cal_u, ↓calX_u, ↓inrO_u, ↓reduceIte, EM, EMg, EMs, z0, oi, n_inbT, n_cntT, n_ltT, n_ltF, n_leT, n_leF, n_eqT, n_eqF, n_m1T, n_m1F, n_m1F', n_cl, n_add, n_mul, ro_at, ro_ro, up_at, up_up, ro_ne, up_ne, ro_sw, blk_up]
  · unfold b_X12_keeps_47 b0_X12_keeps_47
    simp (disch := omega) only [↓grd_u, ↓bnd_e, ↓orf_u, ↓oif_u, ↓cal_u, ↓calX_u, ↓inrO_u, ↓reduceIte, EM, EMg, EMs, z0, oi, n_inbT, n_cntT, n_ltT, n_ltF, n_leT, n_leF, n_eqT, n_eqF, n_m1T, n_m1F, n_m1F', n_cl, n_add, n_mul, ro_at, ro_ro, up_at, up_up, ro_ne, up_ne, ro_sw]
theorem m_keeps {u : List Lib} {L0 : Lib} (hu : Ring M u) (hb : ∀ j, j < 248 → M 4 j = enc L0 j) : ∃ M', f_X12_keeps (ma n 0) (E n h A M R) = some ((), E n h A M' R) ∧ Ring M' ((L0 :: u).take 8) ∧ Fr [2] [5, 6] M M' := by
  obtain ⟨f, hf, h1, h2, h3, h4⟩ := hu
  unfold f_X12_keeps g_X12_keeps_32
  by_cases h8 : u.length = 8
  · simp (disch := omega) only [↓grd_u, ↓bnd_e, ↓orf_u, ↓oif_u, ↓cal_u, ↓calX_u, ↓inrO_u, ↓reduceIte, EM, EMg, EMs, z0, oi, n_inbT, n_cntT, n_ltT, n_ltF, n_leT, n_leF, n_eqT, n_eqF, n_m1T, n_m1F, n_m1F', n_cl, n_add, n_mul, ro_at, ro_ro, up_at, up_up, ro_ne, up_ne, ro_sw, up_sw, h1, h2, h8, n_rem, n_sub]
    rw [m_keeps47 (by omega)]
    simp (disch := omega) only [↓grd_u, ↓bnd_e, ↓orf_u, ↓oif_u, ↓cal_u, ↓calX_u, ↓inrO_u, ↓reduceIte, EM, EMg, EMs, z0, oi, n_inbT, n_cntT, n_ltT, n_ltF, n_leT, n_leF, n_eqT, n_eqF, n_m1T, n_m1F, n_m1F', n_cl, n_add, n_mul, ro_at, ro_ro, up_at, up_up, ro_ne, up_ne, ro_sw, up_sw]
    refine ⟨_, rfl, ⟨(f + 1) % 8, by omega, by simp (disch := omega) only [↓grd_u, ↓bnd_e, ↓orf_u, ↓oif_u, ↓cal_u, ↓calX_u, ↓inrO_u, ↓reduceIte, EM, EMg, EMs, z0, oi, n_inbT, n_cntT, n_ltT, n_ltF, n_leT, n_leF, n_eqT, n_eqF, n_m1T, n_m1F, n_m1F', n_cl, n_add, n_mul, ro_at, ro_ro, up_at, up_up, ro_ne, up_ne, ro_sw], ?_, ?_, ?_⟩, ?_⟩
    · simp (disch := omega) only [↓grd_u, ↓bnd_e, ↓orf_u, ↓oif_u, ↓cal_u, ↓calX_u, ↓inrO_u, ↓reduceIte, EM, EMg, EMs, z0, oi, n_inbT, n_cntT, n_ltT, n_ltF, n_leT, n_leF, n_eqT, n_eqF, n_m1T, n_m1F, n_m1F', n_cl, n_add, n_mul, ro_at, ro_ro, up_at, up_up, ro_ne, up_ne, ro_sw]
      simp [h8]
    · simp; omega
    · have hl : ((L0 :: u).take 8).length = 8 := by simp [h8]
      intro i hi j hj
      rw [hl] at hi ⊢
      simp (disch := omega) only [↓grd_u, ↓bnd_e, ↓orf_u, ↓oif_u, ↓cal_u, ↓calX_u, ↓inrO_u, ↓reduceIte, EM, EMg, EMs, z0, oi, n_inbT, n_cntT, n_ltT, n_ltF, n_leT, n_leF, n_eqT, n_eqF, n_m1T, n_m1F, n_m1F', n_cl, n_add, n_mul, ro_at, ro_ro, up_at, up_up, ro_ne, up_ne, ro_sw]
      unfold blk
      by_cases hi0 : i = 0
      · subst hi0
        rw [if_pos (by omega), show 248 * (((f + 1) % 8 + (8 - 1 - 0)) % 8) + j - 248 * (((f + 1) % 8 + (8 - 1)) % 8) = j by omega, hb j hj]
        rfl
      · rw [if_neg (by omega)]
        have e := h4 (i - 1) (by omega) j hj
        rw [h8, show (f + (8 - 1 - (i - 1))) % 8 = ((f + 1) % 8 + (8 - 1 - i)) % 8 by omega] at e
        rw [e]
        obtain ⟨i', rfl⟩ : ∃ i', i = i' + 1 := ⟨i - 1, by omega⟩
        simp only [List.getD_eq_getElem?_getD, List.getElem?_take]
        rw [if_pos (by omega)]
        rfl
    · exact ⟨fun r hr hr2 => by
        have : r ≠ 2 := fun e => hr2 (by rw [e]; simp)
        simp only [ro_ne _ _ hr, ro_ne _ _ this], fun k hk => by
        have e5 : k ≠ 5 := fun e => hk (by rw [e]; simp)
        have e6 : k ≠ 6 := fun e => hk (by rw [e]; simp)
        simp only [ro_at, up_ne _ _ e5, up_ne _ _ e6]⟩
  · simp (disch := omega) only [↓grd_u, ↓bnd_e, ↓orf_u, ↓oif_u, ↓cal_u, ↓calX_u, ↓inrO_u, ↓reduceIte, EM, EMg, EMs, z0, oi, n_inbT, n_cntT, n_ltT, n_ltF, n_leT, n_leF, n_eqT, n_eqF, n_m1T, n_m1F, n_m1F', n_cl, n_add, n_mul, ro_at, ro_ro, up_at, up_up, ro_ne, up_ne, ro_sw, up_sw, h1, h2, n_rem, n_sub]
    rw [m_keeps47 (by omega)]
    simp (disch := omega) only [↓grd_u, ↓bnd_e, ↓orf_u, ↓oif_u, ↓cal_u, ↓calX_u, ↓inrO_u, ↓reduceIte, EM, EMg, EMs, z0, oi, n_inbT, n_cntT, n_ltT, n_ltF, n_leT, n_leF, n_eqT, n_eqF, n_m1T, n_m1F, n_m1F', n_cl, n_add, n_mul, ro_at, ro_ro, up_at, up_up, ro_ne, up_ne, ro_sw, up_sw, h2]
    have ht : (L0 :: u).take 8 = L0 :: u := List.take_of_length_le (by simp; omega)
    rw [ht]
    refine ⟨_, rfl, ⟨f, hf, by simp (disch := omega) only [↓grd_u, ↓bnd_e, ↓orf_u, ↓oif_u, ↓cal_u, ↓calX_u, ↓inrO_u, ↓reduceIte, EM, EMg, EMs, z0, oi, n_inbT, n_cntT, n_ltT, n_ltF, n_leT, n_leF, n_eqT, n_eqF, n_m1T, n_m1F, n_m1F', n_cl, n_add, n_mul, ro_at, ro_ro, up_at, up_up, ro_ne, up_ne, ro_sw, h1], ?_, ?_, ?_⟩, ?_⟩
    · simp (disch := omega) only [↓grd_u, ↓bnd_e, ↓orf_u, ↓oif_u, ↓cal_u, ↓calX_u, ↓inrO_u, ↓reduceIte, EM, EMg, EMs, z0, oi, n_inbT, n_cntT, n_ltT, n_ltF, n_leT, n_leF, n_eqT, n_eqF, n_m1T, n_m1F, n_m1F', n_cl, n_add, n_mul, ro_at, ro_ro, up_at, up_up, ro_ne, up_ne, ro_sw, List.length_cons]
    · simp; omega
    · intro i hi j hj
      simp only [List.length_cons] at hi ⊢
      simp (disch := omega) only [↓grd_u, ↓bnd_e, ↓orf_u, ↓oif_u, ↓cal_u, ↓calX_u, ↓inrO_u, ↓reduceIte, EM, EMg, EMs, z0, oi, n_inbT, n_cntT, n_ltT, n_ltF, n_leT, n_leF, n_eqT, n_eqF, n_m1T, n_m1F, n_m1F', n_cl, n_add, n_mul, ro_at, ro_ro, up_at, up_up, ro_ne, up_ne, ro_sw]
      unfold blk
      by_cases hi0 : i = 0
      · subst hi0
        rw [if_pos (by omega), show 248 * ((f + (u.length + 1 - 1 - 0)) % 8) + j - 248 * ((f + u.length) % 8) = j by omega, hb j hj]
        rfl
      · rw [if_neg (by omega)]
        have e := h4 (i - 1) (by omega) j hj
        rw [show (f + (u.length - 1 - (i - 1))) % 8 = (f + (u.length + 1 - 1 - i)) % 8 by omega] at e
        rw [e]
        obtain ⟨i', rfl⟩ : ∃ i', i = i' + 1 := ⟨i - 1, by omega⟩
        rfl
    · exact ⟨fun r hr hr2 => by
        have : r ≠ 2 := fun e => hr2 (by rw [e]; simp)
        simp only [ro_ne _ _ hr, ro_ne _ _ this], fun k hk => by
        have e5 : k ≠ 5 := fun e => hk (by rw [e]; simp)
        simp only [ro_at, up_ne _ _ e5]⟩
end KEEPS
