/-! the class: formatPattern -/
def m3 : List Nat → Nat
  | [] => 0
  | t :: r => if t = 48 ∨ t = 49 ∨ t = 50 then m3 r + 1 else m3 r
def okM (t : Nat) : Prop := t = 40 ∨ t = 124 ∨ t = 48 ∨ t = 49 ∨ t = 50
theorem flS_ok : ∀ (p out : List Nat), (∀ t ∈ p, okM t) → m3 (flS p out).1 = m3 p ∧ (∀ t ∈ (flS p out).1, okM t) ∧ (flS p out).1.length + (flS p out).2.length = p.length + out.length ∧ (1 ≤ m3 p → ∃ m r, (flS p out).1 = m :: r ∧ mk3 m)
  | [], out, _ => ⟨rfl, fun t ht => absurd ht (by show ¬ t ∈ []; simp), rfl, fun h => absurd h (by show ¬ 1 ≤ 0; decide)⟩
  | t :: p, out, h => by
    have ht := h t List.mem_cons_self
    have hr := fun x hx => h x (List.mem_cons_of_mem t hx)
    unfold okM at ht
    unfold flS
    by_cases q : t = 40 ∨ t = 124
    · rw [if_pos q]
      obtain ⟨a, b, c, d⟩ := flS_ok p (out ++ [t]) hr
      have e : m3 (t :: p) = m3 p := by
        show (if t = 48 ∨ t = 49 ∨ t = 50 then m3 p + 1 else m3 p) = _
        rw [if_neg (by omega)]
      rw [e]
      refine ⟨a, b, ?_, d⟩
      rw [c, List.length_append, List.length_singleton, List.length_cons]
      omega
    · rw [if_neg q]
      exact ⟨rfl, h, rfl, fun _ => ⟨t, p, rfl, by unfold mk3; omega⟩⟩
/-- how a code changes the number of marks -/
theorem wpt_ok {c m : Nat} {r out : List Nat} (h1 : 1 ≤ c) (h2 : c < 9) (hr : ∀ t ∈ r, okM t) : (m3 (wpt c m r out).1 = if c < 4 then m3 r else if 6 ≤ c then m3 r + 1 else m3 r + 2) ∧ (∀ t ∈ (wpt c m r out).1, okM t) ∧ (wpt c m r out).1.length + (wpt c m r out).2.length ≤ r.length + out.length + 5 := by
  rw [wpt_w38]
  have hb : ∀ r', (r' = if (m = 50 ∧ 4 ≤ c) ∨ (m = 49 ∧ c = 5) then 40 :: r else r) → m3 r' = m3 r ∧ (∀ t ∈ r', okM t) := fun r' e => by
    by_cases q : (m = 50 ∧ 4 ≤ c) ∨ (m = 49 ∧ c = 5)
    · rw [if_pos q] at e
      rw [e]
      refine ⟨rfl, fun t ht => ?_⟩
      rcases List.mem_cons.mp ht with rfl | ht
      · exact Or.inl rfl
      · exact hr t ht
    · rw [if_neg q] at e
      rw [e]
      exact ⟨rfl, hr⟩
  have hl : ∀ r' out', (r' = if (m = 50 ∧ 4 ≤ c) ∨ (m = 49 ∧ c = 5) then 40 :: r else r) → (out' = if (m = 50 ∧ 4 ≤ c) ∨ (m = 49 ∧ c = 5) then out ++ [41] else out) → r'.length + out'.length ≤ r.length + out.length + 2 := fun r' out' e e' => by
    by_cases q : (m = 50 ∧ 4 ≤ c) ∨ (m = 49 ∧ c = 5)
    · rw [if_pos q] at e e'
      rw [e, e', List.length_cons, List.length_append, List.length_singleton]
      omega
    · rw [if_neg q] at e e'
      rw [e, e']
      omega
  obtain ⟨r', er⟩ : ∃ r', r' = if (m = 50 ∧ 4 ≤ c) ∨ (m = 49 ∧ c = 5) then 40 :: r else r := ⟨_, rfl⟩
  obtain ⟨out', eo⟩ : ∃ out', out' = if (m = 50 ∧ 4 ≤ c) ∨ (m = 49 ∧ c = 5) then out ++ [41] else out := ⟨_, rfl⟩
  have hb := hb r' er
  have hl := hl r' out' er eo
  rw [← er, ← eo]
  unfold w38
  have cons : ∀ t (l : List Nat), okM t → (∀ x ∈ l, okM x) → ∀ x ∈ t :: l, okM x := fun t l a b x hx => by
    rcases List.mem_cons.mp hx with rfl | hx
    · exact a
    · exact b x hx
  by_cases c5 : c = 5
  · rw [if_pos c5, if_neg (by omega), if_neg (by omega)]
    refine ⟨by show m3 r' + 1 + 1 = _; rw [hb.1], cons _ _ (by unfold okM; omega) (cons _ _ (by unfold okM; omega) (cons _ _ (by unfold okM; omega) hb.2)), ?_⟩
    show r'.length + 1 + 1 + 1 + out'.length ≤ _
    omega
  · rw [if_neg c5]
    by_cases c4 : c = 4
    · rw [if_pos c4, if_neg (by omega), if_neg (by omega)]
      refine ⟨by show m3 r' + 1 + 1 = _; rw [hb.1], cons _ _ (by unfold okM; omega) (cons _ _ (by unfold okM; omega) hb.2), ?_⟩
      show r'.length + 1 + 1 + out'.length ≤ _
      omega
    · rw [if_neg c4]
      dsimp only
      rw [List.length_append, List.length_singleton]
      by_cases c6 : 6 ≤ c
      · rw [if_pos c6, if_neg (by omega), if_pos c6]
        refine ⟨by show m3 r' + 1 = _; rw [hb.1], cons _ _ (by unfold okM; omega) hb.2, ?_⟩
        rw [List.length_cons]
        omega
      · rw [if_neg c6, if_pos (by omega)]
        exact ⟨hb.1, hb.2, by omega⟩
section CWRV
variable {n : Nat} {h : mH} {A M : Nat → Nat → Int32} {R : Nat → Nat → Option Nat} {S : St} {l r : List Nat} {y cap : Nat}
theorem n_dec0 (k : Nat) : nI k + Int32.ofInt (-1) = nI k - nI 1 := by
  rw [Int32.sub_eq_add_neg]
  rfl
theorem FrN_pat {h' : mH} {A' : Nat → Nat → Int32} {R' : Nat → Nat → Option Nat} {a : Nat} {p : List Nat} (f : FrN n h h' A A' R R') (hp : Pat n h a p) : Pat n h' a p := Pat_mono hp f.1
/-- the codes from the last to the first -/
theorem c_wr23 {a : Nat} {p : List Nat} (hw : WF p) (h7 : nLet p ≤ 7) (h22 : p.length ≤ 22) : ∀ (k L : Nat) (h : mH) (A : Nat → Nat → Int32) (R : Nat → Nat → Option Nat) (q l : List Nat) (y cap : Nat), k ≤ p.length → Pat n h a p → Pil A q → Sb n h A R l y cap → (∀ t ∈ q, okM t) → m3 q = (grun g0 (p.take k)).1.length → q.length + l.length + 4 * k ≤ 1 + 4 * p.length → k < L →
    ∃ h' A' R' y' cap' ch mh, lpC (b_X2_write_23 (ca n 39) a (ca n 42)) L (nI k - nI 1, E n h A M R) = some (((), E n h' A' M R'), ch, mh) ∧ Sb n h' A' R' (flS ((p.take k).reverse.foldl wst (q, l)).1 ((p.take k).reverse.foldl wst (q, l)).2).2.reverse y' cap' ∧ FrN n h h' A A' R R' ∧ ch + fcC cap = fcC cap' ∧ mh + fcM cap = fcM cap' := by
  intro k
  induction k with
  | zero =>
    intro L h A R q l y cap hk hp hq hs hok hm hlen hL
    obtain ⟨L, rfl⟩ : ∃ L', L = L' + 1 := ⟨L - 1, by omega⟩
    obtain ⟨h1, A1, R1, y1, cap1, ch1, mh1, e1, g1, s1, f1, k1, k2⟩ := c_writeSigns (n := n) (M := M) hq hs (by omega)
    obtain ⟨h2, A2, e2, s2, f2⟩ := c_sbRev (n := n) (M := M) s1
    refine ⟨h2, A2, R1, y1, cap1, ch1, mh1, lpC_en ?_, s2, FrN_tr f1 (FrN_L f2), k1, k2⟩
    unfold b_X2_write_23 b0_X2_write_23
    rw [show nI 0 - nI 1 = Int32.ofInt (-1) from rfl]
    have hneg : (Int32.ofInt (-1) < nI 0) = True := eq_true (by decide +kernel)
    simp (disch := omega) only [↓grd_u, ↓bnd_e, ↓orf_u, ↓oif_u, ↓cal_u, ↓calX_u, ↓inrO_u, ↓reduceIte, EM, EMg, EMs, z0, oi, n_inbT, n_cntT, n_ltT, n_ltF, n_leT, n_leF, n_eqT, n_eqF, n_m1T, n_m1F, n_m1F', n_cl, n_add, n_mul, ro_at, ro_ro, up_at, up_up, ↓calC_u, ↓adc_u, EC, hneg, e1, e2, Nat.zero_add]
  | succ k ih =>
    intro L h A R q l y cap hk hp hq hs hok hm hlen hL
    obtain ⟨L, rfl⟩ : ∃ L', L = L' + 1 := ⟨L - 1, by omega⟩
    obtain ⟨h1, A1, R1, y1, cap1, ch1, mh1, e1, g1, s1, f1, k1, k2⟩ := c_writeSigns (n := n) (M := M) hq hs (by omega)
    obtain ⟨b1, b2, -, -⟩ := GRun_all hw g0 ⟨by decide, by decide, fun v hv => (nomatch hv), fun _ => (by decide : 0 < 128), fun _ => (by decide : 0 < 128)⟩ (by show 0 + _ ≤ 7; omega) (by show 0 + _ ≤ 7; omega)
    obtain ⟨b3, b4⟩ := b1 k (by omega)
    obtain ⟨o1, o2⟩ := WF_mem hw (p.getD k 0) (by
      rw [List.getD_eq_getElem?_getD, List.getElem?_eq_getElem (by omega)]
      exact List.getElem_mem _)
    have hstep : grun g0 (p.take (k + 1)) = gstep (grun g0 (p.take k)) (p.getD k 0) := by
      rw [take_s (by omega)]
      unfold grun
      rw [List.foldl_append]
      rfl
    have hgl : (grun g0 (p.take k)).1.length = (frun [] (p.take k)).length := frun_len _ rfl
    have hgs : (gstep (grun g0 (p.take k)) (p.getD k 0)).1.length = (fstep (frun [] (p.take k)) (p.getD k 0)).length := fstep_len hgl
    rw [hstep, hgs] at hm
    unfold GPre at b4
    rw [hgl] at b4
    have hfs : (fstep (frun [] (p.take k)) (p.getD k 0)).length = if p.getD k 0 < 4 then (frun [] (p.take k)).length + 1 else if 6 ≤ p.getD k 0 then (frun [] (p.take k)).length else (frun [] (p.take k)).length - 1 := by
      unfold fstep
      by_cases q4 : p.getD k 0 < 4
      · rw [if_pos q4, if_pos q4]; rfl
      · rw [if_neg q4] at b4
        rw [if_neg q4, if_neg q4]
        by_cases q6 : 6 ≤ p.getD k 0
        · rw [if_pos q6] at b4
          rw [if_pos q6, if_pos q6]
          match hst : frun [] (p.take k), b4.2 with
          | x :: r, _ => rfl
        · rw [if_neg q6] at b4
          rw [if_neg q6, if_neg q6]
          match hst : frun [] (p.take k), b4 with
          | x :: x' :: r, _ =>
            dsimp only
            split <;> rfl
    obtain ⟨c1, c2, c3, c4⟩ := flS_ok q l hok
    have h3 : 1 ≤ m3 q := by
      rw [hm, hfs]
      by_cases q4 : p.getD k 0 < 4
      · rw [if_pos q4]; omega
      · rw [if_neg q4] at b4 ⊢
        by_cases q6 : 6 ≤ p.getD k 0
        · rw [if_pos q6] at b4 ⊢; omega
        · rw [if_neg q6] at b4 ⊢; omega
    obtain ⟨m, r, em, hm3⟩ := c4 h3
    rw [em] at g1 c1 c2 c3
    have hr := fun t ht => c2 t (List.mem_cons_of_mem m ht)
    have c1 : m3 r + 1 = m3 q := by
      rw [← c1]
      show _ = if m = 48 ∨ m = 49 ∨ m = 50 then m3 r + 1 else m3 r
      have hm3' : m = 48 ∨ m = 49 ∨ m = 50 := hm3
      rw [if_pos hm3']
    rw [List.length_cons] at c3
    obtain ⟨A2, e2, g2, f2⟩ := c_pPop (n := n) (h := h1) (M := M) (R := R1) g1
    obtain ⟨h3, A3, R3, y3, cap3, ch3, mh3, e3, g3, s3, f3, k3, k4⟩ := c_writePart (n := n) (M := M) (c := p.getD k 0) (m := m) o1 o2 hm3 g2 (Sb_39 s1 (fun r z _ => f2 r z)) (by omega) (by omega)
    obtain ⟨d1, d2, d3⟩ := wpt_ok (m := m) (r := r) (out := (flS q l).2) o1 o2 hr
    have p1 := FrN_pat f1 hp
    have p3 := FrN_pat f3 p1
    obtain ⟨h4, A4, R4, y4, cap4, ch4, mh4, e4, s4, f4, k5, k6⟩ := ih L h3 A3 R3 _ _ y3 cap3 (by omega) p3 g3 s3 d2 (by
      rw [d1, hgl]
      rw [hm, hfs] at c1
      by_cases q4 : p.getD k 0 < 4
      · rw [if_pos q4] at c1 ⊢; omega
      · rw [if_neg q4] at b4 c1 ⊢
        by_cases q6 : 6 ≤ p.getD k 0
        · rw [if_pos q6] at b4 c1 ⊢; omega
        · rw [if_neg q6] at b4 c1 ⊢; omega) (by omega) (by omega)
    have ew : (p.take (k + 1)).reverse.foldl wst (q, l) = (p.take k).reverse.foldl wst (wpt (p.getD k 0) m r (flS q l).2) := by
      rw [take_s (by omega), List.reverse_append]
      show (p.take k).reverse.foldl wst (wst (q, l) (p.getD k 0)) = _
      unfold wst
      dsimp only
      rw [show flS q l = (m :: r, (flS q l).2) from Prod.ext em rfl]
    refine ⟨h4, A4, R4, y4, cap4, ch4 + (ch3 + ch1), mh4 + (mh3 + mh1), ?_, by rw [ew]; exact s4, FrN_tr f1 (FrN_tr (FrN_A (fun r z _ => f2 r z)) (FrN_tr f3 f4)), by omega, by omega⟩
    rw [lpC_nx (s' := (nI k - nI 1, E n h3 A3 M R3)) (c := ch3 + ch1) (m := mh3 + mh1), e4]
    · rfl
    · have kp := p1.2.2.1
      have hka : ∀ A R, kd (E n h1 A M R) a = 9 := fun A R => by rw [kd_X (by have := p1.1; omega)]; exact kp
      have ec := c_code (n := n) (h := h1) (A := A1) (M := M) (R := R1) p1 (k := k) (by omega) (by omega)
      have hnd := n_dec0 k
      unfold b_X2_write_23 b0_X2_write_23
      simp (disch := omega) only [↓grd_u, ↓bnd_e, ↓orf_u, ↓oif_u, ↓cal_u, ↓calX_u, ↓inrO_u, ↓reduceIte, EM, EMg, EMs, z0, oi, n_inbT, n_cntT, n_ltT, n_ltF, n_leT, n_leF, n_eqT, n_eqF, n_m1T, n_m1F, n_m1F', n_cl, n_add, n_mul, ro_at, ro_ro, up_at, up_up, ↓calC_u, ↓adc_u, EC, n_sub, Nat.add_sub_cancel, e1, hka, ec, e2, e3, hnd, Nat.zero_add]
end CWRV
