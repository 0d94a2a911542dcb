/-! the reference: a pattern as text -/
def LnI (M : Nat → Nat → Int32) (l : List Nat) : Prop := M 0 44 = nI l.length ∧ ∀ k, k < l.length → M 30 k = nI (l.getD k 0)
def Ch7 (l : List Nat) : Prop := ∀ x ∈ l, x < 128
theorem Ch7_g {l : List Nat} (h : Ch7 l) {k : Nat} (hk : k < l.length) : l.getD k 0 < 128 := by
  rw [List.getD_eq_getElem?_getD, List.getElem?_eq_getElem hk]
  exact h _ (List.getElem_mem hk)
theorem Ch7_app {l l' : List Nat} (h : Ch7 l) (h' : Ch7 l') : Ch7 (l ++ l') := fun x hx => by
  rcases List.mem_append.mp hx with z | z
  · exact h x z
  · exact h' x z
theorem Ch7_c {c : Nat} {l : List Nat} (hc : c < 128) (h : Ch7 l) : Ch7 (c :: l) := fun x hx => by
  rcases List.mem_cons.mp hx with z | z
  · rw [z]; exact hc
  · exact h x z
theorem Ch7_l {l l' : List Nat} (h : Ch7 (l ++ l')) : Ch7 l := fun x hx => h x (List.mem_append_left _ hx)
theorem Ch7_r {l l' : List Nat} (h : Ch7 (l ++ l')) : Ch7 l' := fun x hx => h x (List.mem_append_right _ hx)
theorem Ch7_n : Ch7 [] := fun x hx => absurd hx (by simp)
theorem Ch7_w {l : List Nat} (h : Ch7 l) : Ch7 (wrp l) := Ch7_c (by decide) (Ch7_app h (Ch7_c (by decide) Ch7_n))
def FB (M : Nat → Nat → Int32) (st : fst1) : Prop := match st with
  | [] => True
  | x :: r => M 31 r.length = nI (flt r).length ∧ M 32 r.length = nI x.2 ∧ x.2 ≤ 3 ∧ FB M r
theorem FB_c {M : Nat → Nat → Int32} {x : List Nat × Nat} {r : fst1} : FB M (x :: r) ↔ M 31 r.length = nI (flt r).length ∧ M 32 r.length = nI x.2 ∧ x.2 ≤ 3 ∧ FB M r := by
  constructor
  · intro h; unfold FB at h; exact h
  · intro h; unfold FB; exact h
theorem FB_fr {M M' : Nat → Nat → Int32} : ∀ {st : fst1}, FB M st → (∀ k, k < st.length → M' 31 k = M 31 k ∧ M' 32 k = M 32 k) → FB M' st
  | [], _, _ => by unfold FB; trivial
  | x :: r, h, hf => by
    obtain ⟨h1, h2, h3, h4⟩ := FB_c.mp h
    obtain ⟨f1, f2⟩ := hf r.length (Nat.lt_succ_self _)
    exact FB_c.mpr ⟨by rw [f1]; exact h1, by rw [f2]; exact h2, h3, FB_fr h4 (fun k hk => hf k (Nat.lt_succ_of_lt hk))⟩
section MFMTP
variable {n : Nat} {h : mH} {A M : Nat → Nat → Int32} {R : Nat → Nat → Option Nat} {S : St} {g : Glu}
def shf (F : Nat → Int32) (len k : Nat) : Nat → Int32 := fun j => if len - k < j ∧ j ≤ len then F (j - 1) else F j
theorem m_insP {pos c : Nat} {l : List Nat} (hl : LnI M l) (hp : pos ≤ l.length) (h1 : l.length < 120) (hc : c < 128) (hch : Ch7 l) :
    ∃ M', f_X12_inserts (ma n 0) (nI pos) (nI c) (E n h A M R) = some ((), E n h A M' R) ∧ LnI M' (l.take pos ++ c :: l.drop pos) ∧ Fr [30] [44] M M' := by
  obtain ⟨l1, l2⟩ := hl
  have n1 := nar_ch c hc
  have n2 := nch c hc
  obtain ⟨len, hlen⟩ : ∃ len, len = l.length := ⟨_, rfl⟩
  rw [← hlen] at l1 l2 hp h1
  have hread : ∀ k, k ≤ len - pos → ∀ j, j ≤ len - k → shf (M 30) len k j = M 30 j := fun k hk j hj => by
    unfold shf
    rw [if_neg (by omega)]
  obtain ⟨M1, hM1⟩ : ∃ M1, M1 = ro M 30 (shf (M 30) len (len - pos)) := ⟨_, rfl⟩
  obtain ⟨M2, hM2⟩ : ∃ M2, M2 = ro (ro M1 30 (up (M1 30) pos (nI c))) 0 (up (M 0) 44 (nI (len + 1))) := ⟨_, rfl⟩
  have hM20 : M2 0 = up (M 0) 44 (nI (len + 1)) := by rw [hM2, ro_at]
  have hM2l : M2 30 = up (shf (M 30) len (len - pos)) pos (nI c) := by rw [hM2, ro_ne _ _ (by decide), ro_at, hM1, ro_at]
  have hloop : g_X12_inserts_5 (ma n 0) (nI pos) (nI c) (nI len) (E n h A M R) = some ((), E n h A M2 R) := by
    unfold g_X12_inserts_5
    have hh := lp_for0 (f := b_X12_inserts_5 (ma n 0) (nI pos) (nI c)) (fun k => (nI (len - k), E n h A (ro M 30 (shf (M 30) len k)) R)) (len - pos) ((), E n h A M2 R) (fun k hk => ?_) ?_ (L := 100000) (by omega)
    · have e0 : shf (M 30) len 0 = M 30 := by
        funext j
        unfold shf
        rw [if_neg (by omega)]
      simp only [e0, ro_self, Nat.sub_zero] at hh
      exact hh
    · have hv : shf (M 30) len k (len - k - 1) = nI (l.getD (len - k - 1) 0) := by rw [hread k (by omega) _ (by omega)]; exact l2 _ (by omega)
      have hn := nar_ch _ (Ch7_g hch (show len - k - 1 < l.length by omega))
      have hup : up (shf (M 30) len k) (len - k) (nI (l.getD (len - k - 1) 0)) = shf (M 30) len (k + 1) := by
        funext j
        by_cases e : j = len - k
        · rw [e, up_at, ← l2 _ (by omega)]
          unfold shf
          rw [if_pos (by omega)]
        · rw [up_ne _ _ e]
          unfold shf
          by_cases e2 : len - k < j ∧ j ≤ len
          · rw [if_pos e2, if_pos (by omega)]
          · rw [if_neg e2, if_neg (by omega)]
      have hd : nI (len - k) + Int32.ofInt (-1) = nI (len - (k + 1)) := by
        have := n_dec (len - (k + 1))
        rw [show len - (k + 1) + 1 = len - k by omega] at this
        exact this
      unfold b_X12_inserts_5 b0_X12_inserts_5
      simp (disch := omega) only [↓grd_u, ↓bnd_e, ↓orf_u, ↓oif_u, ↓cal_u, ↓calX_u, ↓inrO_u, ↓reduceIte, EM, EMg, EMs, z0, oi, n_inbT, n_cntT, n_ltT, n_ltF, n_leT, n_leF, n_eqT, n_eqF, n_m1T, n_m1F, n_m1F', n_cl, n_add, n_mul, ro_at, ro_ro, up_at, up_up, ro_ne, up_ne, ro_sw, n_sub, hv, hn, hup, hd]
    · unfold b_X12_inserts_5 b0_X12_inserts_5
      rw [show len - (len - pos) = pos by omega, ← hM1]
      have l1' : M1 0 44 = nI len := by rw [hM1, ro_ne _ _ (by decide)]; exact l1
      have e0 : M1 0 = M 0 := by rw [hM1, ro_ne _ _ (by decide)]
      simp (disch := omega) only [↓grd_u, ↓bnd_e, ↓orf_u, ↓oif_u, ↓cal_u, ↓calX_u, ↓inrO_u, ↓reduceIte, EM, EMg, EMs, z0, oi, n_inbT, n_cntT, n_ltT, n_ltF, n_leT, n_leF, n_eqT, n_eqF, n_m1T, n_m1F, n_m1F', n_cl, n_add, n_mul, ro_at, ro_ro, up_at, up_up, ro_ne, up_ne, ro_sw, n1, n2, l1']
      rw [hM2, e0]
  refine ⟨M2, ?_, ⟨?_, fun k hk => ?_⟩, fun r h0 hr => ?_, fun k hk => ?_⟩
  · unfold f_X12_inserts
    simp (disch := omega) only [↓grd_u, ↓bnd_e, ↓orf_u, ↓oif_u, ↓cal_u, ↓calX_u, ↓inrO_u, ↓reduceIte, EM, EMg, EMs, z0, oi, n_inbT, n_cntT, n_ltT, n_ltF, n_leT, n_leF, n_eqT, n_eqF, n_m1T, n_m1F, n_m1F', n_cl, n_add, n_mul, ro_at, ro_ro, up_at, up_up, l1, hloop]
  · rw [hM20, up_at, List.length_append, List.length_cons, List.length_take, List.length_drop]
    congr 1
    omega
  · rw [List.length_append, List.length_cons, List.length_take, List.length_drop] at hk
    have ht : (l.take pos).length = pos := by rw [List.length_take]; omega
    rw [hM2l]
    by_cases e1 : k < pos
    · rw [up_ne _ _ (by omega), gD_l (by omega)]
      unfold shf
      rw [if_neg (by omega), l2 k (by omega), List.getD_eq_getElem?_getD, List.getD_eq_getElem?_getD, List.getElem?_take, if_pos e1]
    · rw [gD_r (by omega), ht]
      by_cases e2 : k = pos
      · rw [e2, up_at, Nat.sub_self]
        rfl
      · rw [up_ne _ _ e2]
        unfold shf
        rw [if_pos (by omega), l2 (k - 1) (by omega)]
        have : k - pos = (k - 1 - pos) + 1 := by omega
        rw [this]
        show _ = nI ((l.drop pos).getD (k - 1 - pos) 0)
        rw [List.getD_eq_getElem?_getD, List.getD_eq_getElem?_getD, List.getElem?_drop, show pos + (k - 1 - pos) = k - 1 by omega]
  · rw [hM2, ro_ne _ _ h0, ro_ne _ _ (fun e => hr (by rw [e]; exact List.mem_cons_self)), hM1, ro_ne _ _ (fun e => hr (by rw [e]; exact List.mem_cons_self))]
  · rw [hM20, up_ne _ _ (fun e => hk (by rw [e]; exact List.mem_cons_self))]
theorem m_enc {a b c : List Nat} (hl : LnI M (a ++ b ++ c)) (h1 : (a ++ b ++ c).length + 2 ≤ 120) (hch : Ch7 (a ++ b ++ c)) :
    ∃ M', f_X12_encloses (ma n 0) (nI a.length) (nI (a ++ b).length) (E n h A M R) = some ((), E n h A M' R) ∧ LnI M' (a ++ wrp b ++ c) ∧ Fr [30] [44] M M' := by
  obtain ⟨M1, e1, q1, f1⟩ := m_insP (n := n) (h := h) (A := A) (R := R) (pos := (a ++ b).length) (c := 41) hl (by rw [List.length_append (as := a ++ b)]; omega) (by omega) (by decide) hch
  rw [List.take_left', List.drop_left'] at q1
  · have ea : (a ++ b) ++ 41 :: c = a ++ (b ++ 41 :: c) := List.append_assoc _ _ _
    rw [ea] at q1
    have hc2 : Ch7 (a ++ (b ++ 41 :: c)) := by
      rw [← ea]
      exact Ch7_app (Ch7_l hch) (Ch7_c (by decide) (Ch7_r hch))
    have hlen : (a ++ (b ++ 41 :: c)).length = (a ++ b ++ c).length + 1 := by simp only [List.length_append, List.length_cons]; omega
    obtain ⟨M2, e2, q2, f2⟩ := m_insP (n := n) (h := h) (A := A) (R := R) (pos := a.length) (c := 40) q1 (by rw [List.length_append]; omega) (by omega) (by decide) hc2
    rw [List.take_left', List.drop_left'] at q2
    · refine ⟨M2, ?_, ?_, Fr_tr f1 f2⟩
      · unfold f_X12_encloses
        simp (disch := omega) only [↓grd_u, ↓bnd_e, ↓orf_u, ↓oif_u, ↓cal_u, ↓calX_u, ↓inrO_u, ↓reduceIte, EM, EMg, EMs, z0, oi, n_inbT, n_cntT, n_ltT, n_ltF, n_leT, n_leF, n_eqT, n_eqF, n_m1T, n_m1F, n_m1F', n_cl, n_add, n_mul, ro_at, ro_ro, up_at, up_up, e1, e2]
      · have : a ++ wrp b ++ c = a ++ 40 :: (b ++ 41 :: c) := by
          unfold wrp
          simp
        rw [this]
        exact q2
    · rfl
    · rfl
  · rfl
  · rfl
end MFMTP
