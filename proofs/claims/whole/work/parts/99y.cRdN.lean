/-! the class: the codes of what was read -/
def wch (t : Nat) : Nat := if t = 9 then 40 else chC t
def Cod (A : Nat → Nat → Int32) (o : List Nat) : Prop := A 39 3 = nI o.length ∧ o.length ≤ 120 ∧ ∀ k, k < o.length → A 41 k = nI (chC (o.getD k 0))
def FrK (A A' : Nat → Nat → Int32) : Prop := ∀ r, r ≠ 39 → r ≠ 40 → r ≠ 41 → A' r = A r
section CRDN
variable {n : Nat} {h : mH} {A M : Nat → Nat → Int32} {R : Nat → Nat → Option Nat} {S : St} {T o w : List Nat} {g : mH}
theorem FrK_tr {A' A'' : Nat → Nat → Int32} (a : FrK A A') (b : FrK A' A'') : FrK A A'' := fun r h1 h2 h3 => (b r h1 h2 h3).trans (a r h1 h2 h3)
theorem FrK_rf : FrK A A := fun _ _ _ _ => rfl
theorem Cod_e {A' : Nat → Nat → Int32} (c : Cod A o) (h1 : A' 39 3 = A 39 3) (h2 : A' 41 = A 41) : Cod A' o := ⟨by rw [h1]; exact c.1, c.2.1, fun k hk => by rw [h2]; exact c.2.2 k hk⟩
theorem Pil_e {A' : Nat → Nat → Int32} {p : List Nat} (c : Pil A p) (h1 : A' 39 2 = A 39 2) (h2 : A' 40 = A 40) : Pil A' p := ⟨by rw [h1]; exact c.1, c.2.1, fun k hk => by rw [h2]; exact c.2.2 k hk⟩
theorem c_push2 {c : Nat} {p : List Nat} (hp : Pil A p) (hc : c < 128) (hl : p.length < 100) : ∃ A', f_X2_push (ca n 39) (nI c) (E n h A M R) = some ((), E n h A' M R) ∧ Pil A' (c :: p) ∧ FrK A A' ∧ A' 39 3 = A 39 3 ∧ A' 41 = A 41 := by
  obtain ⟨p1, p2, p3⟩ := id hp
  have hn := nar_ch c hc
  refine ⟨ro (ro A 40 (up (A 40) p.length (nI c))) 39 (up (A 39) 2 (nI (p.length + 1))), ?_, ⟨by rw [ro_at, up_at]; rfl, by show p.length + 1 ≤ 100; omega, fun k hk => ?_⟩, fun r h1 h2 h3 => by rw [ro_ne _ _ h1, ro_ne _ _ h2], by rw [ro_at, up_ne _ _ (by decide)], by rw [ro_ne _ _ (by decide), ro_ne _ _ (by decide)]⟩
  · unfold f_X2_push g_X2_push_39
    simp (disch := omega) only [↓grd_u, ↓bnd_e, ↓orf_u, ↓oif_u, ↓cal_u, ↓calX_u, ↓inrO_u, ↓reduceIte, EM, EMg, EMs, z0, oi, n_inbT, n_cntT, n_ltT, n_ltF, n_leT, n_leF, n_eqT, n_eqF, n_m1T, n_m1F, n_m1F', n_cl, n_add, n_mul, ro_at, ro_ro, up_at, up_up, ro_ne, up_ne, ro_sw, EC, ECg, ECs, p1, hn]
  · have e : (c :: p).length = p.length + 1 := rfl
    rw [e] at hk ⊢
    rw [ro_ne _ _ (by decide), ro_at]
    cases k with
    | zero =>
      rw [show p.length + 1 - 1 - 0 = p.length by omega, up_at]
      exact ⟨rfl, hc⟩
    | succ k =>
      rw [show p.length + 1 - 1 - (k + 1) = p.length - 1 - k by omega, up_ne _ _ (by omega)]
      exact p3 k (by omega)
theorem c_pop2 {c : Nat} {p : List Nat} (hp : Pil A (c :: p)) : ∃ A', f_X2_pop (ca n 39) (E n h A M R) = some (nI c, E n h A' M R) ∧ Pil A' p ∧ FrK A A' ∧ A' 39 3 = A 39 3 ∧ A' 41 = A 41 := by
  have ht := c_pTop (n := n) (h := h) (M := M) (R := R) hp
  obtain ⟨p1, p2, p3⟩ := hp
  have e : (c :: p).length = p.length + 1 := rfl
  rw [e] at p1 p2 p3
  have hc : c < 128 := (p3 0 (Nat.succ_pos _)).2
  have hn := nar_ch c hc
  refine ⟨ro A 39 (up (A 39) 2 (nI p.length)), ?_, ⟨by rw [ro_at, up_at], by omega, fun k hk => ?_⟩, fun r h1 _ _ => ro_ne _ _ h1, by rw [ro_at, up_ne _ _ (by decide)], ro_ne _ _ (by decide)⟩
  · unfold f_X2_pop
    simp (disch := omega) only [↓grd_u, ↓bnd_e, ↓orf_u, ↓oif_u, ↓cal_u, ↓calX_u, ↓inrO_u, ↓reduceIte, EM, EMg, EMs, z0, oi, n_inbT, n_cntT, n_ltT, n_ltF, n_leT, n_leF, n_eqT, n_eqF, n_m1T, n_m1F, n_m1F', n_cl, n_add, n_mul, ro_at, ro_ro, up_at, up_up, EC, ECg, ECs, ht, p1, n_sub, Nat.add_sub_cancel, hn]
  · rw [ro_ne _ _ (by decide)]
    have := p3 (k + 1) (by omega)
    rw [show p.length + 1 - 1 - (k + 1) = p.length - 1 - k by omega] at this
    exact this
theorem c_emit {c : Nat} (hc : Cod A o) (hl : o.length < 120) : ∃ A', f_X2_emit (ca n 39) (nI (chC c)) (E n h A M R) = some ((), E n h A' M R) ∧ Cod A' (o ++ [c]) ∧ FrK A A' ∧ A' 39 2 = A 39 2 ∧ A' 40 = A 40 := by
  obtain ⟨c1, c2, c3⟩ := hc
  refine ⟨ro (ro A 41 (up (A 41) o.length (nI (chC c)))) 39 (up (A 39) 3 (nI (o.length + 1))), ?_, ⟨by rw [ro_at, up_at, List.length_append]; rfl, by rw [List.length_append, List.length_singleton]; omega, fun k hk => ?_⟩, fun r h1 h2 h3 => by rw [ro_ne _ _ h1, ro_ne _ _ h3], by rw [ro_at, up_ne _ _ (by decide)], by rw [ro_ne _ _ (by decide), ro_ne _ _ (by decide)]⟩
  · unfold f_X2_emit g_X2_emit_39
    simp (disch := omega) only [↓grd_u, ↓bnd_e, ↓orf_u, ↓oif_u, ↓cal_u, ↓calX_u, ↓inrO_u, ↓reduceIte, EM, EMg, EMs, z0, oi, n_inbT, n_cntT, n_ltT, n_ltF, n_leT, n_leF, n_eqT, n_eqF, n_m1T, n_m1F, n_m1F', n_cl, n_add, n_mul, ro_at, ro_ro, up_at, up_up, ro_ne, up_ne, ro_sw, EC, ECg, ECs, c1, narQ]
  · rw [List.length_append, List.length_singleton] at hk
    rw [ro_ne _ _ (by decide), ro_at]
    by_cases q : k = o.length
    · rw [q, up_at, gD_r (Nat.le_refl _), Nat.sub_self]
      rfl
    · rw [up_ne _ _ q, gD_l (by omega)]
      exact c3 k (by omega)
def lv (t : Nat) : Nat := if t = 4 then 2 else if t = 5 then 1 else 0
theorem c_level {t : Nat} (ht : t = 4 ∨ t = 5 ∨ t = 9) : f_X2_level (nI (wch t)) g = some (nI (lv t), g) := by
  rcases ht with rfl | rfl | rfl <;> rfl
theorem wch_lt {t : Nat} (ht : t = 4 ∨ t = 5 ∨ t = 9) : wch t < 128 := by
  rcases ht with rfl | rfl | rfl <;> decide
/-- what reading holds in the notation's rows -/
def NSt (A : Nat → Nat → Int32) (o w : List Nat) : Prop := Cod A o ∧ Pil A (w.map wch)
theorem c_fl5 {e : Nat} (he : e = 4 ∨ e = 5) : ∀ (w o : List Nat) (A : Nat → Nat → Int32) (L : Nat), NSt A o w → (∀ t ∈ w, t = 4 ∨ t = 5 ∨ t = 9) → o.length + w.length ≤ 120 → w.length < L →
    ∃ A', lp (b_X2_flush_5 (ca n 39) (nI (lv e))) L (nI w.length, E n h A M R) = some ((), E n h A' M R) ∧ NSt A' (brg e o w).1 (brg e o w).2 ∧ FrK A A' := by
  intro w
  induction w with
  | nil =>
    intro o A L hs hw hl hL
    obtain ⟨L, rfl⟩ : ∃ L', L = L' + 1 := ⟨L - 1, by omega⟩
    refine ⟨A, ?_, hs, FrK_rf⟩
    unfold lp b_X2_flush_5 b0_X2_flush_5 g_X2_flush_34
    simp (disch := omega) only [↓grd_u, ↓bnd_e, ↓orf_u, ↓oif_u, ↓cal_u, ↓calX_u, ↓inrO_u, ↓reduceIte, EM, EMg, EMs, z0, oi, n_inbT, n_cntT, n_ltT, n_ltF, n_leT, n_leF, n_eqT, n_eqF, n_m1T, n_m1F, n_m1F', n_cl, n_add, n_mul, ro_at, ro_ro, up_at, up_up, List.length_nil]
  | cons t w ih =>
    intro o A L hs hw hl hL
    obtain ⟨L, rfl⟩ : ∃ L', L = L' + 1 := ⟨L - 1, by omega⟩
    rw [List.length_cons] at hl hL
    have ht := hw t List.mem_cons_self
    have e1 := c_pTop (n := n) (h := h) (M := M) (R := R) hs.2
    have e2 := c_level (g := E n h A M R) ht
    by_cases q : t = 4 ∨ (t = 5 ∧ e = 5)
    · have eb : brg e o (t :: w) = brg e (o ++ [t]) w := if_pos q
      obtain ⟨A1, e3, g1, f1, v1, v2⟩ := c_pop2 (n := n) (h := h) (M := M) (R := R) hs.2
      have ew : wch t = chC t := if_neg (by omega)
      obtain ⟨A2, e4, g2, f2, v3, v4⟩ := c_emit (n := n) (h := h) (M := M) (R := R) (c := t) (Cod_e hs.1 v1 v2) (by omega)
      obtain ⟨A', e5, g3, f3⟩ := ih (o ++ [t]) A2 L ⟨g2, Pil_e g1 v3 v4⟩ (fun u hu => hw u (List.mem_cons_of_mem _ hu)) (by rw [List.length_append, List.length_singleton]; omega) (by omega)
      refine ⟨A', ?_, by rw [eb]; exact g3, FrK_tr f1 (FrK_tr f2 f3)⟩
      rw [lp_nx (s' := (nI w.length, E n h A2 M R)), e5]
      rw [ew] at e1 e2 e3
      have hnd := n_dec w.length
      unfold b_X2_flush_5 b0_X2_flush_5
      rw [List.length_cons]
      rcases q with rfl | ⟨rfl, rfl⟩
      · have hlv : lv 4 = 2 := rfl
        have hle : lv e ≤ 2 := by unfold lv; split <;> (try split) <;> omega
        rw [hlv] at e2
        simp (disch := omega) only [↓grd_u, ↓bnd_e, ↓orf_u, ↓oif_u, ↓cal_u, ↓calX_u, ↓inrO_u, ↓reduceIte, EM, EMg, EMs, z0, oi, n_inbT, n_cntT, n_ltT, n_ltF, n_leT, n_leF, n_eqT, n_eqF, n_m1T, n_m1F, n_m1F', n_cl, n_add, n_mul, ro_at, ro_ro, up_at, up_up, EC, e1, e2, e3, e4, hnd]
      · have hlv : lv 5 = 1 := rfl
        rw [hlv] at e2 ⊢
        simp (disch := omega) only [↓grd_u, ↓bnd_e, ↓orf_u, ↓oif_u, ↓cal_u, ↓calX_u, ↓inrO_u, ↓reduceIte, EM, EMg, EMs, z0, oi, n_inbT, n_cntT, n_ltT, n_ltF, n_leT, n_leF, n_eqT, n_eqF, n_m1T, n_m1F, n_m1F', n_cl, n_add, n_mul, ro_at, ro_ro, up_at, up_up, EC, e1, e2, e3, e4, hnd]
    · have eb : brg e o (t :: w) = (o, t :: w) := if_neg q
      refine ⟨A, ?_, by rw [eb]; exact hs, FrK_rf⟩
      rw [lp_en (r := ((), E n h A M R))]
      have hlt : lv t < lv e := by
        unfold lv
        rcases he with rfl | rfl
        · rw [if_neg (by omega), if_pos rfl]
          split <;> omega
        · rw [if_neg (by omega), if_neg (by omega), if_neg (by omega), if_pos rfl]
          omega
      have hle : lv e ≤ 2 := by unfold lv; split <;> (try split) <;> omega
      unfold b_X2_flush_5 b0_X2_flush_5 g_X2_flush_34
      rw [List.length_cons]
      simp (disch := omega) only [↓grd_u, ↓bnd_e, ↓orf_u, ↓oif_u, ↓cal_u, ↓calX_u, ↓inrO_u, ↓reduceIte, EM, EMg, EMs, z0, oi, n_inbT, n_cntT, n_ltT, n_ltF, n_leT, n_leF, n_eqT, n_eqF, n_m1T, n_m1F, n_m1F', n_cl, n_add, n_mul, ro_at, ro_ro, up_at, up_up, EC, e1, e2]
theorem c_flush {e : Nat} (he : e = 4 ∨ e = 5) (hs : NSt A o w) (hw : ∀ t ∈ w, t = 4 ∨ t = 5 ∨ t = 9) (hl : o.length + w.length ≤ 120) : ∃ A', f_X2_flush (ca n 39) (nI (lv e)) (E n h A M R) = some ((), E n h A' M R) ∧ NSt A' (brg e o w).1 (brg e o w).2 ∧ FrK A A' := by
  obtain ⟨A', e1, g1, f1⟩ := c_fl5 (n := n) (h := h) (M := M) (R := R) he w o A 100000 hs hw hl (by omega)
  refine ⟨A', ?_, g1, f1⟩
  have p1 := hs.2.1
  rw [List.length_map] at p1
  have e1 : g_X2_flush_5 (ca n 39) (nI (lv e)) (nI w.length) (E n h A M R) = some ((), E n h A' M R) := e1
  unfold f_X2_flush
  simp (disch := omega) only [↓grd_u, ↓bnd_e, ↓orf_u, ↓oif_u, ↓cal_u, ↓calX_u, ↓inrO_u, ↓reduceIte, EM, EMg, EMs, z0, oi, n_inbT, n_cntT, n_ltT, n_ltF, n_leT, n_leF, n_eqT, n_eqF, n_m1T, n_m1F, n_m1F', n_cl, n_add, n_mul, ro_at, ro_ro, up_at, up_up, EC, ECg, p1, e1]
/-- an operator in its turn: the level, the pile down to it, then the operator on top -/
theorem c_takeOp {e : Nat} (he : e = 4 ∨ e = 5) (hs : NSt A o w) (hw : ∀ t ∈ w, t = 4 ∨ t = 5 ∨ t = 9) (hl : o.length + w.length ≤ 120) (h99 : (brg e o w).2.length < 100) : ∃ A1 A2, f_X2_level (nI (chC e)) (E n h A M R) = some (nI (lv e), E n h A M R) ∧ f_X2_flush (ca n 39) (nI (lv e)) (E n h A M R) = some ((), E n h A1 M R) ∧ f_X2_push (ca n 39) (nI (chC e)) (E n h A1 M R) = some ((), E n h A2 M R) ∧ NSt A2 (brg e o w).1 (e :: (brg e o w).2) ∧ FrK A A2 := by
  have ew : wch e = chC e := if_neg (by omega)
  have e0 := c_level (g := E n h A M R) (t := e) (by omega)
  rw [ew] at e0
  obtain ⟨A1, e1, g1, f1⟩ := c_flush (n := n) (h := h) (M := M) (R := R) he hs hw hl
  obtain ⟨A2, e2, g2, f2, v1, v2⟩ := c_push2 (n := n) (h := h) (M := M) (R := R) (c := chC e) g1.2 (by rcases he with rfl | rfl <;> decide) (by rw [List.length_map]; exact h99)
  exact ⟨A1, A2, e0, e1, e2, ⟨Cod_e g1.1 v1 v2, by rw [List.map_cons, ew]; exact g2⟩, FrK_tr f1 f2⟩
/-- one character that could follow -/
theorem c_takeCh {s s' : rst} {c n0 : Nat} (hc : c < 128) (hs : NSt A s.1 s.2.1) (hw : ∀ t ∈ s.2.1, t = 4 ∨ t = 5 ∨ t = 9) (hI : RIn s) (hP : PB n0 s) (hn : n0 < 60) (hr : rd0 s c = some s') : ∃ A', f_X2_takeCharacter (ca n 39) (nI c) (E n h A M R) = some ((), E n h A' M R) ∧ NSt A' s'.1 s'.2.1 ∧ FrK A A' := by
  have e1 := fun g => c_isLb (g := g) hc
  have e2 := fun g => c_isSg (g := g) hc
  have p1 := hP.1
  have p2 := hP.2
  unfold f_X2_takeCharacter g_X2_takeCharacter_14 g_X2_takeCharacter_80
  unfold b1 at e1 e2
  unfold rd0 at hr
  by_cases q1 : 97 ≤ c ∧ c ≤ 99
  · rw [if_pos q1] at e1 hr
    by_cases k0 : s.2.2 = 0
    · rw [if_pos k0] at hr
      have hr := Option.some.inj hr
      have ec : chC (c - 96) = c := by
        have : c = 97 ∨ c = 98 ∨ c = 99 := by omega
        rcases this with rfl | rfl | rfl <;> rfl
      obtain ⟨A', e3, g1, f1, v1, v2⟩ := c_emit (n := n) (h := h) (M := M) (R := R) (c := c - 96) hs.1 (by omega)
      rw [ec] at e3
      refine ⟨A', ?_, by rw [← hr]; exact ⟨g1, Pil_e hs.2 v1 v2⟩, f1⟩
      simp (disch := omega) only [↓grd_u, ↓bnd_e, ↓orf_u, ↓oif_u, ↓cal_u, ↓calX_u, ↓inrO_u, ↓reduceIte, EM, EMg, EMs, z0, oi, n_inbT, n_cntT, n_ltT, n_ltF, n_leT, n_leF, n_eqT, n_eqF, n_m1T, n_m1F, n_m1F', n_cl, n_add, n_mul, ro_at, ro_ro, up_at, up_up, EC, e1, e3]
    · rw [if_neg k0] at hr
      cases hr
  rw [if_neg q1] at e1 hr
  by_cases q2 : c = 40
  · rw [if_pos q2] at hr
    by_cases k0 : s.2.2 = 0
    · rw [if_pos k0] at hr
      have hr := Option.some.inj hr
      obtain ⟨A', e3, g1, f1, v1, v2⟩ := c_push2 (n := n) (h := h) (M := M) (R := R) (c := 40) hs.2 (by decide) (by rw [List.length_map]; omega)
      have hsg : ¬ 0 < sgo c := by rw [q2]; decide
      rw [if_neg hsg] at e2
      refine ⟨A', ?_, by rw [← hr]; exact ⟨Cod_e hs.1 v1 v2, g1⟩, f1⟩
      rw [q2] at e1 e2 ⊢
      simp (disch := omega) only [↓grd_u, ↓bnd_e, ↓orf_u, ↓oif_u, ↓cal_u, ↓calX_u, ↓inrO_u, ↓reduceIte, EM, EMg, EMs, z0, oi, n_inbT, n_cntT, n_ltT, n_ltF, n_leT, n_leF, n_eqT, n_eqF, n_m1T, n_m1F, n_m1F', n_cl, n_add, n_mul, ro_at, ro_ro, up_at, up_up, EC, e1, e2, e3]
    · rw [if_neg k0] at hr
      cases hr
  rw [if_neg q2] at hr
  by_cases q3 : 0 < sgo c
  · rw [if_pos q3] at hr e2
    by_cases k1 : s.2.2 = 1
    · rw [if_pos k1] at hr
      have hr := Option.some.inj hr
      have ec : chC (sgo c) = c := by
        have := (sgo_n q3).1
        rcases this with rfl | rfl | rfl <;> rfl
      unfold kk at p1
      rw [k1, if_neg (by decide)] at p1
      obtain ⟨A', e3, g1, f1, v1, v2⟩ := c_emit (n := n) (h := h) (M := M) (R := R) (c := sgo c) hs.1 (by omega)
      rw [ec] at e3
      refine ⟨A', ?_, by rw [← hr]; exact ⟨g1, Pil_e hs.2 v1 v2⟩, f1⟩
      simp (disch := omega) only [↓grd_u, ↓bnd_e, ↓orf_u, ↓oif_u, ↓cal_u, ↓calX_u, ↓inrO_u, ↓reduceIte, EM, EMg, EMs, z0, oi, n_inbT, n_cntT, n_ltT, n_ltF, n_leT, n_leF, n_eqT, n_eqF, n_m1T, n_m1F, n_m1F', n_cl, n_add, n_mul, ro_at, ro_ro, up_at, up_up, EC, e1, e2, e3]
    · rw [if_neg k1] at hr
      cases hr
  rw [if_neg q3] at hr e2
  by_cases q4 : c = 124
  · rw [if_pos q4] at hr
    by_cases k0 : s.2.2 = 0
    · rw [if_pos k0] at hr
      cases hr
    · rw [if_neg k0] at hr
      have hr := Option.some.inj hr
      obtain ⟨⟨vs, hv⟩, -⟩ := hI
      unfold kk at hv p1
      rw [if_neg k0] at hv p1
      obtain ⟨-, -, b3, b4, -⟩ := brg_RJ (e := 5) s.2.1 vs s.1 hv
      obtain ⟨A1, A', e5, e3, e4, g1, f1⟩ := c_takeOp (n := n) (h := h) (M := M) (R := R) (e := 5) (Or.inr rfl) hs hw (by omega) (by omega)
      have e5 : f_X2_level (nI 124) (E n h A M R) = some (nI 1, E n h A M R) := e5
      have e3 : f_X2_flush (ca n 39) (nI 1) (E n h A M R) = some ((), E n h A1 M R) := e3
      have e4 : f_X2_push (ca n 39) (nI 124) (E n h A1 M R) = some ((), E n h A' M R) := e4
      refine ⟨A', ?_, by rw [← hr]; exact g1, f1⟩
      rw [q4] at e1 e2 ⊢
      simp (disch := omega) only [↓grd_u, ↓bnd_e, ↓orf_u, ↓oif_u, ↓cal_u, ↓calX_u, ↓inrO_u, ↓reduceIte, EM, EMg, EMs, z0, oi, n_inbT, n_cntT, n_ltT, n_ltF, n_leT, n_leF, n_eqT, n_eqF, n_m1T, n_m1F, n_m1F', n_cl, n_add, n_mul, ro_at, ro_ro, up_at, up_up, EC, e1, e2, e5, e3, e4]
  rw [if_neg q4] at hr
  by_cases q5 : c = 41
  · rw [if_pos q5] at hr
    by_cases k0 : s.2.2 = 0 ∨ opn s.2.1 = 0
    · rw [if_pos k0] at hr
      cases hr
    · rw [if_neg k0] at hr
      have hr := Option.some.inj hr
      obtain ⟨⟨vs, hv⟩, -⟩ := hI
      unfold kk at hv p1
      rw [if_neg (by omega)] at hv p1
      obtain ⟨-, b2, b3, b4, b5⟩ := brg_RJ (e := 5) s.2.1 vs s.1 hv
      obtain ⟨r, er⟩ : ∃ r, (brg 5 s.1 s.2.1).2 = 9 :: r := by
        rcases b5 rfl with z | z
        · rw [z] at b2
          have : 0 = opn s.2.1 := b2
          omega
        · exact z
      obtain ⟨A1, e3, g1, f1⟩ := c_flush (n := n) (h := h) (M := M) (R := R) (e := 5) (Or.inr rfl) hs hw (by omega)
      rw [er] at g1 hr
      obtain ⟨A2, e4, g2, f2, v1, v2⟩ := c_pop2 (n := n) (h := h) (M := M) (R := R) g1.2
      have e5 := c_level (g := E n h A M R) (t := 5) (by omega)
      have e5 : f_X2_level (nI 124) (E n h A M R) = some (nI 1, E n h A M R) := e5
      have e3 : f_X2_flush (ca n 39) (nI 1) (E n h A M R) = some ((), E n h A1 M R) := e3
      refine ⟨A2, ?_, by rw [← hr]; exact ⟨Cod_e g1.1 v1 v2, g2⟩, FrK_tr f1 f2⟩
      rw [q5] at e1 e2 ⊢
      simp (disch := omega) only [↓grd_u, ↓bnd_e, ↓orf_u, ↓oif_u, ↓cal_u, ↓calX_u, ↓inrO_u, ↓reduceIte, EM, EMg, EMs, z0, oi, n_inbT, n_cntT, n_ltT, n_ltF, n_leT, n_leF, n_eqT, n_eqF, n_m1T, n_m1F, n_m1F', n_cl, n_add, n_mul, ro_at, ro_ro, up_at, up_up, EC, e1, e2, e5, e3, e4]
  · rw [if_neg q5] at hr
    cases hr
end CRDN
