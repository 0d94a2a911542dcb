/-! the class: spans, the steps -/
noncomputable def mkB (P : Nat → Prop) : Nat → Nat
  | 0 => 0
  | k + 1 => @ite Nat (P k) (Classical.propDecidable _) (mkB P k ||| 2 ^ k) (mkB P k)
theorem mkB_b {P : Nat → Prop} {j : Nat} : ∀ k, (mkB P k).testBit j = true ↔ j < k ∧ P j
  | 0 => ⟨fun h => absurd ((Nat.zero_testBit j).symm.trans h) (by decide), fun ⟨h, _⟩ => absurd h (Nat.not_lt_zero _)⟩
  | k + 1 => by
    have ih := mkB_b (P := P) (j := j) k
    unfold mkB
    by_cases e : P k
    · rw [if_pos e, or_b, ih, Nat.testBit_two_pow, decide_eq_true_eq]
      constructor
      · rintro (⟨h1, h2⟩ | h)
        · exact ⟨by omega, h2⟩
        · rw [← h]; exact ⟨by omega, e⟩
      · rintro ⟨h1, h2⟩
        by_cases z : j = k
        · exact Or.inr z.symm
        · exact Or.inl ⟨by omega, h2⟩
    · rw [if_neg e, ih]
      constructor
      · rintro ⟨h1, h2⟩
        exact ⟨by omega, h2⟩
      · rintro ⟨h1, h2⟩
        by_cases z : j = k
        · rw [z] at h2; exact absurd h2 e
        · exact ⟨by omega, h2⟩
theorem mkB_lt {P : Nat → Prop} : ∀ k, k ≤ 13 → mkB P k < 8192
  | 0, _ => Nat.zero_lt_succ _
  | k + 1, hk => by
    have ih := mkB_lt (P := P) k (by omega)
    unfold mkB
    split
    · exact Nat.or_lt_two_pow (n := 13) ih (Nat.pow_lt_pow_right (by decide) (by omega))
    · exact ih
noncomputable def rowF (B : Lng) (w : List Nat) (i : Nat) : Nat := mkB (fun j => i ≤ j ∧ j ≤ w.length ∧ B (sub w i j)) 13
theorem rowF_R {B : Lng} {w : List Nat} (hw : w.length ≤ 12) : Row B w (rowF B w) := fun i hi => ⟨mkB_lt 13 (Nat.le_refl _), fun j => by
  unfold rowF
  rw [mkB_b]
  exact ⟨fun z => z.2, fun z => ⟨by omega, z⟩⟩⟩
theorem Row_u {B : Lng} {w : List Nat} {f f' : Nat → Nat} (h : Row B w f) (h' : Row B w f') {i : Nat} (hi : i ≤ w.length) : f i = f' i := by
  refine Nat.eq_of_testBit_eq (fun j => ?_)
  have h1 := ((h i hi).2 j).trans ((h' i hi).2 j).symm
  cases z : (f i).testBit j <;> cases z' : (f' i).testBit j <;> simp_all
/-- the rows of the table -/
def tb (f : Nat → Nat) (F : Nat → Int32) (q lo hi : Nat) : Nat → Int32 := fun j => if 13 * q + lo ≤ j ∧ j < 13 * q + hi then nI (f (j - 13 * q)) else F j
theorem tb_up {f : Nat → Nat} {F : Nat → Int32} {q k : Nat} : up (tb f F q 0 k) (13 * q + k) (nI (f k)) = tb f F q 0 (k + 1) := by
  funext j
  unfold tb
  by_cases e : j = 13 * q + k
  · rw [e, up_at, if_pos (by omega), show 13 * q + k - 13 * q = k by omega]
  · rw [up_ne _ _ e]
    by_cases e2 : 13 * q + 0 ≤ j ∧ j < 13 * q + k
    · rw [if_pos e2, if_pos (by omega)]
    · rw [if_neg e2, if_neg (by omega)]
theorem tb_dn {f : Nat → Nat} {F : Nat → Int32} {q k N : Nat} (hk : k < N) : up (tb f F q (k + 1) N) (13 * q + k) (nI (f k)) = tb f F q k N := by
  funext j
  unfold tb
  by_cases e : j = 13 * q + k
  · rw [e, up_at, if_pos (by omega), show 13 * q + k - 13 * q = k by omega]
  · rw [up_ne _ _ e]
    by_cases e2 : 13 * q + (k + 1) ≤ j ∧ j < 13 * q + N
    · rw [if_pos e2, if_pos (by omega)]
    · rw [if_neg e2, if_neg (by omega)]
theorem tb_0 (f : Nat → Nat) (F : Nat → Int32) (q k : Nat) : tb f F q k k = F := by
  funext j
  unfold tb
  rw [if_neg (by omega)]
section CSPAN
variable {n : Nat} {h : mH} {A M : Nat → Nat → Int32} {R : Nat → Nat → Option Nat} {S : St} {a : Nat} {w : List Nat}
/-- the table stands; q rows -/
def SpH (A : Nat → Nat → Int32) (w : List Nat) (q : Nat) : Prop := A 94 1 = nI q ∧ A 94 2 = nI w.length
theorem wlet_end (hw : Wrd n h a w) (hl : w.length ≤ 255) : f_X10_letter a (nI w.length) (E n h A M R) = some (Int32.ofInt (-1), E n h A M R) := by
  obtain ⟨p1, p2, p3, b, q1, q2, q3, q4, q5, q6⟩ := hw
  have k1 := kd_X (n := n) (h := h) (A := A) (M := M) (R := R) (a := a) (by omega)
  have k2 := kd_X (n := n) (h := h) (A := A) (M := M) (R := R) (a := b) (by omega)
  have k3 := sz_X (n := n) (h := h) (A := A) (M := M) (R := R) (a := b) (by omega)
  have k4 := gr_X (n := n) (h := h) (A := A) (M := M) (R := R) (a := a) (k := 0) (by omega)
  rw [p3] at k1
  rw [q4] at k2
  rw [q5] at k3
  rw [q1] at k4
  unfold f_X10_letter g_X10_letter_13 g_X10_letter_23
  simp (disch := omega) only [↓grd_u, ↓bnd_e, ↓orf_u, ↓oif_u, ↓cal_u, ↓calX_u, ↓inrO_u, ↓reduceIte, EM, EMg, EMs, z0, oi, n_inbT, n_cntT, n_ltT, n_ltF, n_leT, n_leF, n_eqT, n_eqF, n_m1T, n_m1F, n_m1F', n_cl, n_add, n_mul, ro_at, ro_ro, up_at, up_up, k1, k2, k3, k4]
def lfn (w : List Nat) (c i : Nat) : Nat := if i < w.length ∧ w.getD i 0 = c then 2 ^ (i + 1) else 0
theorem lfn_R {c : Nat} (h12 : w.length ≤ 12) : Row (fun u => u = [c]) w (lfn w c) := fun i hi => by
  unfold lfn
  constructor
  · split
    · exact Nat.pow_lt_pow_right (a := 2) (n := 13) (by decide) (by omega)
    · exact Nat.zero_lt_succ _
  · intro j
    have hsub : sub w i j = [c] ∧ i ≤ j ∧ j ≤ w.length ↔ i < w.length ∧ w.getD i 0 = c ∧ j = i + 1 := by
      constructor
      · rintro ⟨h1, h2, h3⟩
        have hl := sub_len (w := w) (i := i) h3
        rw [h1] at hl
        have hl : 1 = j - i := hl
        have hij : j = i + 1 := by omega
        refine ⟨by omega, ?_, hij⟩
        have h4 : (sub w i j)[0]? = some c := by rw [h1]; rfl
        unfold sub at h4
        rw [List.getElem?_drop, List.getElem?_take, if_pos (by omega)] at h4
        rw [List.getD_eq_getElem?_getD, show i = i + 0 from rfl, h4]
        rfl
      · rintro ⟨h1, h2, rfl⟩
        refine ⟨?_, by omega, by omega⟩
        unfold sub
        rw [take_s h1, List.drop_append_of_le_length (by rw [List.length_take]; omega), List.drop_eq_nil_of_le (by rw [List.length_take]; omega), h2]
        rfl
    split
    · rename_i hc
      rw [Nat.testBit_two_pow, decide_eq_true_eq]
      constructor
      · intro e
        obtain ⟨q1, q2, q3⟩ := hsub.mpr ⟨hc.1, hc.2, e.symm⟩
        exact ⟨q2, q3, q1⟩
      · rintro ⟨q1, q2, q3⟩
        exact (hsub.mp ⟨q3, q1, q2⟩).2.2.symm
    · rename_i hc
      rw [Nat.zero_testBit]
      constructor
      · intro z; cases z
      · rintro ⟨q1, q2, q3⟩
        obtain ⟨r1, r2, -⟩ := hsub.mp ⟨q3, q1, q2⟩
        exact absurd ⟨r1, r2⟩ hc
theorem c_sAdd {q c : Nat} (hs : SpH A w q) (hq : q < 7) (hw : Wrd n h a w) (h12 : w.length ≤ 12) (h3 : le3 w) (hc : c < 3) : ∃ A', f_X8_addLetter (ca n 94) (nI c) a (E n h A M R) = some ((), E n h A' M R) ∧ SpH A' w (q + 1) ∧ A' 95 = tb (lfn w c) (A 95) q 0 (w.length + 1) ∧ ∀ r, r ≠ 94 → r ≠ 95 → A' r = A r := by
  obtain ⟨s1, s2⟩ := hs
  have hka : ∀ A, kd (E n h A M R) a = 15 := fun A => by rw [kd_X (by have := hw.1; omega)]; exact hw.2.2.1
  obtain ⟨A1, hA1⟩ : ∃ A1, A1 = ro A 95 (tb (lfn w c) (A 95) q 0 (w.length + 1)) := ⟨_, rfl⟩
  have hl : g_X8_addLetter_19 (ca n 94) (nI c) a (nI 0) (E n h A M R) = some ((), E n h (ro A1 94 (up (A 94) 1 (nI (q + 1)))) M R) := by
    unfold g_X8_addLetter_19
    have hh := lp_for0 (f := b_X8_addLetter_19 (ca n 94) (nI c) a) (fun k => (nI k, E n h (ro A 95 (tb (lfn w c) (A 95) q 0 k)) M R)) (w.length + 1) ((), E n h (ro A1 94 (up (A 94) 1 (nI (q + 1)))) M R) (fun k hk => ?_) ?_ (L := 100000) (by omega)
    · simp only [tb_0, ro_self] at hh
      exact hh
    · have e4 : (ro A 95 (tb (lfn w c) (A 95) q 0 k)) 94 = A 94 := ro_ne _ _ (by decide)
      have hup := tb_up (f := lfn w c) (F := A 95) (q := q) (k := k)
      have hka := hka (ro A 95 (tb (lfn w c) (A 95) q 0 k))
      unfold b_X8_addLetter_19 b0_X8_addLetter_19 g_X8_addLetter_64
      by_cases ek : k < w.length
      · have ew := c_wlet (n := n) (h := h) (A := ro A 95 (tb (lfn w c) (A 95) q 0 k)) (M := M) (R := R) hw ek (by omega)
        have h3k : w.getD k 0 < 3 := by
          rw [List.getD_eq_getElem?_getD, List.getElem?_eq_getElem ek]
          exact h3 _ (List.getElem_mem ek)
        by_cases ec : w.getD k 0 = c
        · have hf : lfn w c k = 2 ^ (k + 1) := by unfold lfn; rw [if_pos ⟨ek, ec⟩]
          have hsh := n_shl1 (k + 1) (by omega)
          rw [hf] at hup
          simp (disch := omega) only [↓grd_u, ↓bnd_e, ↓orf_u, ↓oif_u, ↓cal_u, ↓calX_u, ↓inrO_u, ↓reduceIte, EM, EMg, EMs, z0, oi, n_inbT, n_cntT, n_ltT, n_ltF, n_leT, n_leF, n_eqT, n_eqF, n_m1T, n_m1F, n_m1F', n_cl, n_add, n_mul, ro_at, ro_ro, up_at, up_up, EC, ECg, ECs, ro_ne, s1, s2, hka, ew, hsh, Nat.mul_comm q 13, hup]
        · have hf : lfn w c k = 0 := by unfold lfn; rw [if_neg (fun z => ec z.2)]
          rw [hf] at hup
          simp (disch := omega) only [↓grd_u, ↓bnd_e, ↓orf_u, ↓oif_u, ↓cal_u, ↓calX_u, ↓inrO_u, ↓reduceIte, EM, EMg, EMs, z0, oi, n_inbT, n_cntT, n_ltT, n_ltF, n_leT, n_leF, n_eqT, n_eqF, n_m1T, n_m1F, n_m1F', n_cl, n_add, n_mul, ro_at, ro_ro, up_at, up_up, EC, ECg, ECs, ro_ne, s1, s2, hka, ew, Nat.mul_comm q 13, hup]
      · have eke : k = w.length := by omega
        have ew := wlet_end (n := n) (h := h) (A := ro A 95 (tb (lfn w c) (A 95) q 0 k)) (M := M) (R := R) hw (by omega)
        have hf : lfn w c k = 0 := by unfold lfn; rw [if_neg (fun z => ek z.1)]
        rw [hf] at hup
        rw [eke] at hup ew hka ⊢
        simp (disch := omega) only [↓grd_u, ↓bnd_e, ↓orf_u, ↓oif_u, ↓cal_u, ↓calX_u, ↓inrO_u, ↓reduceIte, EM, EMg, EMs, z0, oi, n_inbT, n_cntT, n_ltT, n_ltF, n_leT, n_leF, n_eqT, n_eqF, n_m1T, n_m1F, n_m1F', n_cl, n_add, n_mul, ro_at, ro_ro, up_at, up_up, EC, ECg, ECs, ro_ne, s1, s2, hka, ew, Nat.mul_comm q 13, hup]
    · unfold b_X8_addLetter_19 b0_X8_addLetter_19 g_X8_addLetter_71
      rw [← hA1]
      have s1' : A1 94 1 = nI q := by rw [hA1, ro_ne _ _ (by decide)]; exact s1
      have s2' : A1 94 2 = nI w.length := by rw [hA1, ro_ne _ _ (by decide)]; exact s2
      have e0 : A1 94 = A 94 := by rw [hA1, ro_ne _ _ (by decide)]
      simp (disch := omega) only [↓grd_u, ↓bnd_e, ↓orf_u, ↓oif_u, ↓cal_u, ↓calX_u, ↓inrO_u, ↓reduceIte, EM, EMg, EMs, z0, oi, n_inbT, n_cntT, n_ltT, n_ltF, n_leT, n_leF, n_eqT, n_eqF, n_m1T, n_m1F, n_m1F', n_cl, n_add, n_mul, ro_at, ro_ro, up_at, up_up, EC, ECg, ECs, s1', s2', e0]
  refine ⟨ro A1 94 (up (A 94) 1 (nI (q + 1))), ?_, ⟨by rw [ro_at, up_at], by rw [ro_at, up_ne _ _ (by decide)]; exact s2⟩, by rw [ro_ne _ _ (by decide), hA1, ro_at], fun r h1 h2 => by rw [ro_ne _ _ h1, hA1, ro_ne _ _ h2]⟩
  unfold f_X8_addLetter
  simp (disch := omega) only [↓grd_u, ↓bnd_e, ↓orf_u, ↓oif_u, ↓cal_u, ↓calX_u, ↓inrO_u, ↓reduceIte, EM, EMg, EMs, z0, oi, n_inbT, n_cntT, n_ltT, n_ltF, n_leT, n_leF, n_eqT, n_eqF, n_m1T, n_m1F, n_m1F', n_cl, n_add, n_mul, ro_at, ro_ro, up_at, up_up, EC, ECg, s1, hl]
end CSPAN
