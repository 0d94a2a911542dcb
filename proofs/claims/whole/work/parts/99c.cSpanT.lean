/-! the class: spans, signs; matchesBySpans -/
section CSPANT
variable {n : Nat} {h : mH} {A M : Nat → Nat → Int32} {R : Nat → Nat → Option Nat} {S : St} {a : Nat} {w : List Nat} {B : Lng}
theorem c_sSign {q c : Nat} {f : Nat → Nat} (hs : SpH A w (q + 1)) (hq : q < 7) (h12 : w.length ≤ 12) (hc : 6 ≤ c ∧ c ≤ 8) (hB : Row B w f) (hf : ∀ i, i ≤ w.length → A 95 (13 * q + i) = nI (f i)) :
    ∃ A', f_X8_sign (ca n 94) (nI (chC c)) (E n h A M R) = some ((), E n h A' M R) ∧ SpH A' w (q + 1) ∧ A' 95 = tb (rowF (lSig c B) w) (A 95) q 0 (w.length + 1) ∧ ∀ r, r ≠ 94 → r ≠ 95 → A' r = A r := by
  obtain ⟨s1, s2⟩ := hs
  obtain ⟨g, hg⟩ : ∃ g : Nat → Nat, g = rowF (lSig c B) w := ⟨_, rfl⟩
  have hl : g_X8_sign_28 (ca n 94) (nI (chC c)) (nI q) (nI w.length) (E n h A M R) = some ((), E n h (ro A 95 (tb g (A 95) q 0 (w.length + 1))) M R) := by
    unfold g_X8_sign_28
    have hh := lp_for0 (f := b_X8_sign_28 (ca n 94) (nI (chC c)) (nI q)) (fun k => (if k ≤ w.length then nI (w.length - k) else Int32.ofInt (-1), E n h (ro A 95 (tb g (A 95) q (w.length + 1 - k) (w.length + 1))) M R)) (w.length + 1) ((), E n h (ro A 95 (tb g (A 95) q 0 (w.length + 1))) M R) (fun k hk => ?_) ?_ (L := 100000) (by omega)
    · simp only [Nat.sub_zero, tb_0, ro_self] at hh
      rw [if_pos (Nat.zero_le _)] at hh
      exact hh
    · obtain ⟨i, hi⟩ : ∃ i, i = w.length - k := ⟨_, rfl⟩
      have e1 : w.length + 1 - k = i + 1 := by omega
      have e2 : w.length + 1 - (k + 1) = i := by omega
      have hiL : i ≤ w.length := by omega
      have enx : (if k + 1 ≤ w.length then nI (w.length - (k + 1)) else Int32.ofInt (-1)) = nI i + Int32.ofInt (-1) := by
        by_cases z : k + 1 ≤ w.length
        · rw [if_pos z]
          have := n_dec (w.length - (k + 1))
          rw [show w.length - (k + 1) + 1 = i by omega] at this
          exact this.symm
        · rw [if_neg z, show i = 0 by omega]
          exact sm0.symm
      rw [if_pos (show k ≤ w.length by omega), enx, ← hi, e1, e2]
      have r2 : (ro A 95 (tb g (A 95) q (i + 1) (w.length + 1))) 94 2 = nI w.length := by rw [ro_ne _ _ (by decide)]; exact s2
      have r1 : (tb g (A 95) q (i + 1) (w.length + 1)) (13 * q + i) = nI (f i) := by
        unfold tb
        rw [if_neg (by omega)]
        exact hf i hiL
      have f2 := (hB i hiL).1
      have hup := tb_dn (f := g) (F := A 95) (q := q) (k := i) (N := w.length + 1) (by omega)
      have hsh := n_shl1 i (by omega)
      have hcl := sclr i (by omega)
      rw [hsh] at hcl
      unfold b_X8_sign_28 b0_X8_sign_28 g_X8_sign_74 g_X8_sign_93
      have hcc : c = 6 ∨ c = 7 ∨ c = 8 := by omega
      by_cases e8 : c = 8
      · rw [e8] at hg ⊢
        have hgi : f i ||| 2 ^ i = g i := by rw [hg]; exact sig_8 hB h12 hiL
        have e63 : chC 8 = 63 := rfl
        rw [e63]
        simp (disch := omega) only [↓grd_u, ↓bnd_e, ↓orf_u, ↓oif_u, ↓cal_u, ↓calX_u, ↓inrO_u, ↓reduceIte, EM, EMg, EMs, z0, oi, n_inbT, n_cntT, n_ltT, n_ltF, n_leT, n_leF, n_eqT, n_eqF, n_m1T, n_m1F, n_m1F', n_cl, n_add, n_mul, ro_at, ro_ro, up_at, up_up, EC, ECg, ECs, Nat.mul_comm q 13, r1, hsh, n_or, hgi, hup]
      · obtain ⟨cur, hcur⟩ : ∃ cur : Nat → Nat, cur = fun j => if i < j then g j else f j := ⟨_, rfl⟩
        have hcv : ∀ j, j ≤ w.length → (ro A 95 (tb g (A 95) q (i + 1) (w.length + 1))) 95 (13 * q + j) = nI (cur j) := fun j hj => by
          rw [ro_at, hcur]
          unfold tb
          by_cases z : i < j
          · rw [if_pos (by omega), show 13 * q + j - 13 * q = j by omega]
            dsimp only
            rw [if_pos z]
          · rw [if_neg (by omega)]
            dsimp only
            rw [if_neg z]
            exact hf j hj
        have hX : f i &&& (4294967295 ^^^ 2 ^ i) < 8192 := Nat.lt_of_le_of_lt Nat.and_le_left f2
        have hen := c_ends (n := n) (h := h) (A := ro A 95 (tb g (A 95) q (i + 1) (w.length + 1))) (M := M) (R := R) r2 h12 hq hX hcv
        have hcg : ∀ k, i < k → k ≤ w.length → cur k = g k := fun k hk _ => by
          rw [hcur]
          dsimp only
          rw [if_pos hk]
        rcases hcc with rfl | rfl | z
        · have hgi : f i ||| efN cur (f i &&& (4294967295 ^^^ 2 ^ i)) (w.length + 1) ||| 2 ^ i = g i := by rw [hg] at hcg ⊢; exact sig_6 hB h12 hiL hcg
          have e42 : chC 6 = 42 := rfl
          rw [e42]
          simp (disch := omega) only [↓grd_u, ↓bnd_e, ↓orf_u, ↓oif_u, ↓cal_u, ↓calX_u, ↓inrO_u, ↓reduceIte, EM, EMg, EMs, z0, oi, n_inbT, n_cntT, n_ltT, n_ltF, n_leT, n_leF, n_eqT, n_eqF, n_m1T, n_m1F, n_m1F', n_cl, n_add, n_mul, ro_at, ro_ro, up_at, up_up, EC, ECg, ECs, Nat.mul_comm q 13, r1, hsh, hcl, n_and, hen, n_or, hgi, hup]
        · have hgi : f i ||| efN cur (f i &&& (4294967295 ^^^ 2 ^ i)) (w.length + 1) = g i := by rw [hg] at hcg ⊢; exact sig_7 hB h12 hiL hcg
          have e43 : chC 7 = 43 := rfl
          rw [e43]
          simp (disch := omega) only [↓grd_u, ↓bnd_e, ↓orf_u, ↓oif_u, ↓cal_u, ↓calX_u, ↓inrO_u, ↓reduceIte, EM, EMg, EMs, z0, oi, n_inbT, n_cntT, n_ltT, n_ltF, n_leT, n_leF, n_eqT, n_eqF, n_m1T, n_m1F, n_m1F', n_cl, n_add, n_mul, ro_at, ro_ro, up_at, up_up, EC, ECg, ECs, Nat.mul_comm q 13, r1, hsh, hcl, n_and, hen, n_or, hgi, hup]
        · exact absurd z e8
    · rw [if_neg (by omega), Nat.sub_self]
      unfold b_X8_sign_28 b0_X8_sign_28
      simp (disch := omega) only [↓grd_u, ↓bnd_e, ↓orf_u, ↓oif_u, ↓cal_u, ↓calX_u, ↓inrO_u, ↓reduceIte, EM, EMg, EMs, z0, oi, n_inbT, n_cntT, n_ltT, n_ltF, n_leT, n_leF, n_eqT, n_eqF, n_m1T, n_m1F, n_m1F', n_cl, n_add, n_mul, ro_at, ro_ro, up_at, up_up, sng, if_true]
  refine ⟨ro A 95 (tb g (A 95) q 0 (w.length + 1)), ?_, ⟨by rw [ro_ne _ _ (by decide)]; exact s1, by rw [ro_ne _ _ (by decide)]; exact s2⟩, by rw [ro_at, hg], fun r _ h2 => ro_ne _ _ h2⟩
  unfold f_X8_sign
  simp (disch := omega) only [↓grd_u, ↓bnd_e, ↓orf_u, ↓oif_u, ↓cal_u, ↓calX_u, ↓inrO_u, ↓reduceIte, EM, EMg, EMs, z0, oi, n_inbT, n_cntT, n_ltT, n_ltF, n_leT, n_leF, n_eqT, n_eqF, n_m1T, n_m1F, n_m1F', n_cl, n_add, n_mul, ro_at, ro_ro, up_at, up_up, EC, ECg, s1, s2, n_sub, Nat.add_sub_cancel, hl]
def SpR (A : Nat → Nat → Int32) (w : List Nat) (st : List Lng) : Prop := match st with
  | [] => True
  | B :: r => (∃ f, Row B w f ∧ ∀ i, i ≤ w.length → A 95 (13 * r.length + i) = nI (f i)) ∧ SpR A w r
theorem SpR_c {r : List Lng} : SpR A w (B :: r) ↔ (∃ f, Row B w f ∧ ∀ i, i ≤ w.length → A 95 (13 * r.length + i) = nI (f i)) ∧ SpR A w r := by
  constructor
  · intro h; unfold SpR at h; exact h
  · intro h; unfold SpR; exact h
theorem SpR_fr {A' : Nat → Nat → Int32} (h12 : w.length ≤ 12) : ∀ {st : List Lng}, SpR A w st → (∀ j, j < 13 * st.length → A' 95 j = A 95 j) → SpR A' w st
  | [], _, _ => by unfold SpR; trivial
  | B :: r, h, hf => by
    obtain ⟨⟨f, f1, f2⟩, h2⟩ := SpR_c.mp h
    have e : (B :: r).length = r.length + 1 := rfl
    rw [e] at hf
    exact SpR_c.mpr ⟨⟨f, f1, fun i hi => by rw [hf _ (by omega)]; exact f2 i hi⟩, SpR_fr h12 h2 (fun j hj => hf j (by omega))⟩
theorem SpR_tb {A' : Nat → Nat → Int32} {C : Lng} {r : List Lng} {f : Nat → Nat} (h12 : w.length ≤ 12) (hr : SpR A w r) (hf : Row C w f) (e : A' 95 = tb f (A 95) r.length 0 (w.length + 1)) : SpR A' w (C :: r) := by
  refine SpR_c.mpr ⟨⟨f, hf, fun i hi => ?_⟩, SpR_fr h12 hr (fun j hj => ?_)⟩
  · rw [e]
    unfold tb
    rw [if_pos (by omega), show 13 * r.length + i - 13 * r.length = i by omega]
  · rw [e]
    unfold tb
    rw [if_neg (by omega)]
theorem lstp_len {s : gst} {st : List Lng} {c : Nat} (h : s.1.length = st.length) : (gstep s c).1.length = (lstp st c).length := by
  obtain ⟨q, fo, ol, pos⟩ := s
  have h : q.length = st.length := h
  unfold gstep lstp
  by_cases h4 : c < 4
  · rw [if_pos h4, if_pos h4]
    show q.length + 1 = st.length + 1
    omega
  · rw [if_neg h4, if_neg h4]
    by_cases h6 : 6 ≤ c
    · rw [if_pos h6, if_pos h6]
      unfold gsign
      cases q with
      | nil => cases st with
        | nil => rfl
        | cons x r => simp at h
      | cons v q => cases st with
        | nil => simp at h
        | cons x r => simpa using h
    · rw [if_neg h6, if_neg h6]
      unfold gjoin
      match q, st, h with
      | [], [], _ => rfl
      | [v], [x], _ => rfl
      | v :: w :: q, y :: x :: r, h =>
        have h : q.length + 2 = r.length + 2 := h
        dsimp only
        split <;> (show q.length + 1 = r.length + 1; omega)
theorem lrun_len (p : List Nat) : ∀ {s : gst} {st : List Lng}, s.1.length = st.length → (grun s p).1.length = (lrun st p).length := by
  induction p with
  | nil => exact fun h => h
  | cons c p ih => exact fun h => ih (lstp_len h)
theorem lrun_s {p : List Nat} {k : Nat} (hk : k < p.length) : lrun [] (p.take (k + 1)) = lstp (lrun [] (p.take k)) (p.getD k 0) := by
  rw [take_s hk, lrun_app, lrun_1]
theorem c_spanAcc {x : Nat} {p : List Nat} (hp : Pat n h a p) (wf : WF p) (h7 : nLet p ≤ 7) (hl : p.length ≤ 28) (hw : Wrd n h x w) (h12 : w.length ≤ 12) (h3 : le3 w) : ∃ A', f_X8_accept (ca n 94) a (some x) (E n h A M R) = some (nI (b2 (gab (gluOf p) (grn (gluOf p) w))), E n h A' M R) ∧ ∀ r, r ≠ 94 → r ≠ 95 → A' r = A r := by
  obtain ⟨a1, a2, ⟨v, a3⟩, a4⟩ := GRun_all wf g0 g0_ok (by show 0 + _ ≤ 7; omega) (by show 0 + _ ≤ 7; omega)
  have hka : ∀ A, kd (E n h A M R) a = 9 := fun A => by rw [kd_X (by have := hp.1; omega)]; exact hp.2.2.1
  have hkx : ∀ A, kd (E n h A M R) x = 15 := fun A => by rw [kd_X (by have := hw.1; omega)]; exact hw.2.2.1
  have hcs := WF_mem wf
  have hcd : ∀ k, k < p.length → 1 ≤ p.getD k 0 ∧ p.getD k 0 < 9 := fun k hk => by
    rw [List.getD_eq_getElem?_getD, List.getElem?_eq_getElem hk]
    exact hcs _ (List.getElem_mem hk)
  have hlen := fun k => lrun_len (p.take k) (s := g0) (st := []) rfl
  obtain ⟨B0, b, eB, -, -, -, -, hlang⟩ := glu_lang wf h7
  obtain ⟨A1, hA1⟩ : ∃ A1, A1 = ro A 94 (up (up (A 94) 1 (nI 0)) 2 (nI w.length)) := ⟨_, rfl⟩
  have g1 : SpH A1 w 0 := ⟨by rw [hA1, ro_at, up_ne _ _ (by decide), up_at], by rw [hA1, ro_at, up_at]⟩
  have f1 : ∀ r, r ≠ 94 → r ≠ 95 → A1 r = A r := fun r q1 _ => by rw [hA1, ro_ne _ _ q1]
  have key : ∃ r, g_X8_accept_30 (ca n 94) a x (nI 0) (E n h A1 M R) = some r ∧ ∃ A', r = (nI (b2 (gab (gluOf p) (grn (gluOf p) w))), E n h A' M R) ∧ ∀ r, r ≠ 94 → r ≠ 95 → A' r = A r := by
    unfold g_X8_accept_30
    refine lp_inv0 (f := b_X8_accept_30 (ca n 94) a x) (fun k s' => ∃ A2, s' = (nI k, E n h A2 M R) ∧ SpH A2 w (lrun [] (p.take k)).length ∧ SpR A2 w (lrun [] (p.take k)) ∧ ∀ r, r ≠ 94 → r ≠ 95 → A2 r = A r) _ p.length (fun k s' hk hI => ?_) (L := 100000) (by omega) ⟨A1, rfl, g1, by unfold SpR; trivial, f1⟩
    obtain ⟨A2, rfl, gh, gc, fr⟩ := hI
    have hz := c_psize (n := n) (h := h) (A := A2) (M := M) (R := R) hp
    unfold b_X8_accept_30 b0_X8_accept_30 g_X8_accept_89 g_X8_accept_116
    by_cases hk2 : k < p.length
    · obtain ⟨hi, hpre⟩ := a1 k hk2
      obtain ⟨o1, o2⟩ := hcd k hk2
      have hc := c_code (n := n) (h := h) (A := A2) (M := M) (R := R) hp hk2 (by omega)
      have hs := lrun_s hk2
      have hL7 := hi.1
      rw [hlen k] at hL7
      have hLL := hlen k
      obtain ⟨c, hce⟩ : ∃ c, c = p.getD k 0 := ⟨_, rfl⟩
      rw [← hce] at hc hs hpre o1 o2
      rw [hs]
      obtain ⟨st, hst⟩ : ∃ st, st = lrun [] (p.take k) := ⟨_, rfl⟩
      rw [← hst] at gh gc hL7 hLL ⊢
      unfold GPre at hpre
      by_cases q1 : c < 4
      · rw [if_pos q1] at hpre
        obtain ⟨A3, e4, g3, g4, g5⟩ := c_sAdd (M := M) (R := R) gh (by have := hpre.2.1; omega) hw h12 h3 (show c - 1 < 3 by omega)
        have es : lstp st c = (fun u => u = [c - 1]) :: st := by unfold lstp; rw [if_pos q1]
        refine Or.inl ⟨(nI (k + 1), E n h A3 M R), ?_, hk2, A3, rfl, by rw [es]; exact g3, by rw [es]; exact SpR_tb h12 gc (lfn_R h12) g4, fun r z1 z2 => (g5 r z1 z2).trans (fr r z1 z2)⟩
        simp (disch := omega) only [↓grd_u, ↓bnd_e, ↓orf_u, ↓oif_u, ↓cal_u, ↓calX_u, ↓inrO_u, ↓reduceIte, EM, EMg, EMs, z0, oi, n_inbT, n_cntT, n_ltT, n_ltF, n_leT, n_leF, n_eqT, n_eqF, n_m1T, n_m1F, n_m1F', n_cl, n_add, n_mul, ro_at, ro_ro, up_at, up_up, EC, hka, hkx, hz, hc, c_let o1 o2, b1, q1, chC_sub, e4]
      · rw [if_neg q1] at hpre
        by_cases q2 : 6 ≤ c
        · rw [if_pos q2] at hpre
          match st, gh, gc, hL7, hLL, hpre with
          | [], _, _, _, hLL, hpre => rw [hLL] at hpre; simp at hpre
          | B :: r, gh, gc, hL7, hLL, _ =>
            obtain ⟨⟨f, r1, r2⟩, r3⟩ := SpR_c.mp gc
            have hL7 : r.length + 1 ≤ 7 := hL7
            obtain ⟨A3, e4, g3, g4, g5⟩ := c_sSign (n := n) (h := h) (M := M) (R := R) (q := r.length) gh (by omega) h12 ⟨q2, by omega⟩ r1 r2
            have es : lstp (B :: r) c = lSig c B :: r := by unfold lstp; rw [if_neg q1, if_pos q2]
            refine Or.inl ⟨(nI (k + 1), E n h A3 M R), ?_, hk2, A3, rfl, by rw [es]; exact g3, by rw [es]; exact SpR_tb h12 r3 (rowF_R h12) g4, fun r z1 z2 => (g5 r z1 z2).trans (fr r z1 z2)⟩
            simp (disch := omega) only [↓grd_u, ↓bnd_e, ↓orf_u, ↓oif_u, ↓cal_u, ↓calX_u, ↓inrO_u, ↓reduceIte, EM, EMg, EMs, z0, oi, n_inbT, n_cntT, n_ltT, n_ltF, n_leT, n_leF, n_eqT, n_eqF, n_m1T, n_m1F, n_m1F', n_cl, n_add, n_mul, ro_at, ro_ro, up_at, up_up, EC, hka, hkx, hz, hc, c_let o1 o2, c_sig o1 o2, b1, q1, q2, e4]
        · rw [if_neg q2] at hpre
          match st, gh, gc, hL7, hLL, hpre with
          | [], _, _, _, hLL, hpre => rw [hLL] at hpre; simp at hpre
          | [B], _, _, _, hLL, hpre => rw [hLL] at hpre; simp at hpre
          | B :: C :: r, gh, gc, hL7, hLL, _ =>
            obtain ⟨⟨f, r1, r2⟩, r3⟩ := SpR_c.mp gc
            obtain ⟨⟨f', r1', r2'⟩, r3'⟩ := SpR_c.mp r3
            have hL7 : r.length + 2 ≤ 7 := hL7
            have hcc : c = 4 ∨ c = 5 := by omega
            obtain ⟨A3, e4, g3, g4, g5⟩ := c_sJoin (n := n) (h := h) (M := M) (R := R) (q := r.length) (f := f') (f' := f) gh (by omega) h12 hcc (fun i hi => ⟨r2' i hi, (r1' i hi).1⟩) r2
            have es : lstp (B :: C :: r) c = lBin c C B :: r := by unfold lstp; rw [if_neg q1, if_neg q2]
            have hrow : Row (lBin c C B) w (fun i => if c = 5 then f' i ||| f i else efN f (f' i) (w.length + 1)) := by
              unfold lBin
              by_cases z : c = 5
              · simp only [if_pos z]
                exact Row_or r1' r1
              · simp only [if_neg z]
                exact Row_cat r1' r1
            refine Or.inl ⟨(nI (k + 1), E n h A3 M R), ?_, hk2, A3, rfl, by rw [es]; exact g3, by rw [es]; exact SpR_tb h12 r3' hrow g4, fun r z1 z2 => (g5 r z1 z2).trans (fr r z1 z2)⟩
            simp (disch := omega) only [↓grd_u, ↓bnd_e, ↓orf_u, ↓oif_u, ↓cal_u, ↓calX_u, ↓inrO_u, ↓reduceIte, EM, EMg, EMs, z0, oi, n_inbT, n_cntT, n_ltT, n_ltF, n_leT, n_leF, n_eqT, n_eqF, n_m1T, n_m1F, n_m1F', n_cl, n_add, n_mul, ro_at, ro_ro, up_at, up_up, EC, hka, hkx, hz, hc, c_let o1 o2, c_sig o1 o2, b1, q1, q2, e4]
    · have hke : k = p.length := by omega
      rw [hke, List.take_length, eB] at gc
      obtain ⟨⟨f, r1, r2⟩, -⟩ := SpR_c.mp gc
      have r20 : A2 95 0 = nI (f 0) := r2 0 (Nat.zero_le _)
      obtain ⟨f8, fb⟩ := r1 0 (Nat.zero_le _)
      have hbit := fb w.length
      have hsw : sub w 0 w.length = w := by
        unfold sub
        rw [List.take_length]
        rfl
      rw [hsw] at hbit
      have hs := sb0 (s := f 0) (k := w.length) (by omega) (by omega)
      have h2 := gh.2
      refine Or.inr ⟨(nI (b2 (gab (gluOf p) (grn (gluOf p) w))), E n h A2 M R), ?_, A2, rfl, fr⟩
      by_cases z : gab (gluOf p) (grn (gluOf p) w) = true
      · have ht : ((nI (f 0) >>> (nI w.length &&& 31)) &&& nI 1 = nI 0) = False := eq_false (fun y => hs.mp y (hbit.mpr ⟨Nat.zero_le _, Nat.le_refl _, (hlang w).mp z⟩))
        rw [b2_t z]
        simp (disch := omega) only [↓grd_u, ↓bnd_e, ↓orf_u, ↓oif_u, ↓cal_u, ↓calX_u, ↓inrO_u, ↓reduceIte, EM, EMg, EMs, z0, oi, n_inbT, n_cntT, n_ltT, n_ltF, n_leT, n_leF, n_eqT, n_eqF, n_m1T, n_m1F, n_m1F', n_cl, n_add, n_mul, ro_at, ro_ro, up_at, up_up, EC, ECg, hka, hz, r20, h2, ht, nb1]
      · have ht : ((nI (f 0) >>> (nI w.length &&& 31)) &&& nI 1 = nI 0) = True := eq_true (hs.mpr (fun y => z ((hlang w).mpr (hbit.mp y).2.2)))
        rw [b2_f z]
        simp (disch := omega) only [↓grd_u, ↓bnd_e, ↓orf_u, ↓oif_u, ↓cal_u, ↓calX_u, ↓inrO_u, ↓reduceIte, EM, EMg, EMs, z0, oi, n_inbT, n_cntT, n_ltT, n_ltF, n_leT, n_leF, n_eqT, n_eqF, n_m1T, n_m1F, n_m1F', n_cl, n_add, n_mul, ro_at, ro_ro, up_at, up_up, EC, ECg, hka, hz, r20, h2, ht, nb0]
  obtain ⟨r, e, A', rfl, f⟩ := key
  refine ⟨A', ?_, f⟩
  have hzw := fun A => c_wsize (n := n) (h := h) (A := A) (M := M) (R := R) hw
  unfold f_X8_accept
  simp (disch := omega) only [↓grd_u, ↓bnd_e, ↓orf_u, ↓oif_u, ↓cal_u, ↓calX_u, ↓inrO_u, ↓reduceIte, EM, EMg, EMs, z0, oi, n_inbT, n_cntT, n_ltT, n_ltF, n_leT, n_leF, n_eqT, n_eqF, n_m1T, n_m1F, n_m1F', n_cl, n_add, n_mul, ro_at, ro_ro, up_at, up_up, EC, ECg, ECs, hkx, hzw]
  rw [← hA1]
  exact e
theorem c_matchesBySpans {v : Int32} (hi : IC n h A R S) (hg : GoodS S) : CA n M (f_X11_matchesBySpans (ca n 0) v (E n h A M R)) exNA (aMat S v) := by
  unfold aMat
  rcases pat_cases S v with ⟨s, hs, rfl, hp, e⟩ | ⟨e, hc⟩
  · rw [e]
    dsimp only
    obtain ⟨a, ep, ha⟩ := c_patT (M := M) hi hs hp
    obtain ⟨g, m, hq⟩ := c_matchedW (M := M) hi hg
    obtain ⟨w1, w2, w3⟩ := good_wf hg hs hp
    unfold f_X11_matchesBySpans
    rcases okT_dec S with hx | hx
    · rw [if_pos hx] at hq ⊢
      obtain ⟨x, ew, hw⟩ := hq
      obtain ⟨A', eb, f⟩ := c_spanAcc (n := n) (h := g) (A := A) (M := M) (R := R) (Pat_mono ha (MonoS_w m)) w1 w2 (by omega) hw (by rw [lets_len]; have := hx.2; omega) (lets_le3 hx.1)
      refine CA_ok hi m (fun r hr => f r (by omega) (by omega)) ?_
      simp (disch := omega) only [↓grd_u, ↓bnd_e, ↓orf_u, ↓oif_u, ↓cal_u, ↓calX_u, ↓inrO_u, ↓reduceIte, EM, EMg, EMs, z0, oi, n_inbT, n_cntT, n_ltT, n_ltF, n_leT, n_leF, n_eqT, n_eqF, n_m1T, n_m1F, n_m1F', n_cl, n_add, n_mul, ro_at, ro_ro, up_at, up_up, EC, ep, ew, eb, b2n_nar]
    · rw [if_neg hx] at hq ⊢
      refine ⟨g, A, R, ?_, IC_wk hi m (fun _ _ => rfl)⟩
      simp (disch := omega) only [↓grd_u, ↓bnd_e, ↓orf_u, ↓oif_u, ↓cal_u, ↓calX_u, ↓inrO_u, ↓reduceIte, EM, EMg, EMs, z0, oi, n_inbT, n_cntT, n_ltT, n_ltF, n_leT, n_leF, n_eqT, n_eqF, n_m1T, n_m1F, n_m1F', n_cl, n_add, n_mul, ro_at, ro_ro, up_at, up_up, EC, ep, hq]
      rfl
  · rw [e]
    refine CA_no hi (by decide) ?_
    unfold f_X11_matchesBySpans
    simp (disch := omega) only [↓grd_u, ↓bnd_e, ↓orf_u, ↓oif_u, ↓cal_u, ↓calX_u, ↓inrO_u, ↓reduceIte, EM, EMg, EMs, z0, oi, n_inbT, n_cntT, n_ltT, n_ltF, n_leT, n_leF, n_eqT, n_eqF, n_m1T, n_m1F, n_m1F', n_cl, n_add, n_mul, ro_at, ro_ro, up_at, up_up, EC, c_patF hi hc]
    rfl
end CSPANT
