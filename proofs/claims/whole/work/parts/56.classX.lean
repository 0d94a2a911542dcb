/-! the class joins and stars patterns -/
theorem chC_hi {c : Nat} (h : ¬ c < 9) : chC c = 0 := by
  unfold chC
  rw [List.getD_eq_getElem?_getD, List.getElem?_eq_none (by simp; omega)]
  rfl
theorem fitsC (c : Nat) : fits .char (.int (nI (chC c))) = true := by
  by_cases h : c < 9
  · have : c = 0 ∨ c = 1 ∨ c = 2 ∨ c = 3 ∨ c = 4 ∨ c = 5 ∨ c = 6 ∨ c = 7 ∨ c = 8 := by omega
    rcases this with rfl | rfl | rfl | rfl | rfl | rfl | rfl | rfl | rfl <;> rfl
  · rw [chC_hi h]
    rfl
theorem narQ (c : Nat) : (vp_nar .char (nI (chC c)) = nI (chC c)) = True := by
  by_cases h : c < 9
  · have : c = 0 ∨ c = 1 ∨ c = 2 ∨ c = 3 ∨ c = 4 ∨ c = 5 ∨ c = 6 ∨ c = 7 ∨ c = 8 := by omega
    rcases this with rfl | rfl | rfl | rfl | rfl | rfl | rfl | rfl | rfl <;> exact eq_true (by decide +kernel)
  · rw [chC_hi h]
    exact eq_true (by decide +kernel)
theorem okP_bin {p q : List Nat} {o : Nat} (hp : okP p) (hq : okP q) (ho : 1 ≤ o ∧ o < 9) (hl : p.length + q.length + 1 ≤ 255) : okP (p ++ q ++ [o]) := by
  refine ⟨fun k hk => ?_, by simp; omega⟩
  have hm : (p ++ q ++ [o]).getD k 0 ∈ p ++ q ++ [o] := by
    rw [List.getD_eq_getElem?_getD, List.getElem?_eq_getElem hk]
    exact List.getElem_mem hk
  have mem : ∀ (p : List Nat), okP p → ∀ c ∈ p, 1 ≤ c ∧ c < 9 := fun p hp c hc => by
    obtain ⟨i, hi, e⟩ := List.getElem_of_mem hc
    have := hp.1 i hi
    rw [List.getD_eq_getElem?_getD, List.getElem?_eq_getElem hi] at this
    rw [← e]
    exact this
  rcases List.mem_append.mp hm with h1 | h1
  · rcases List.mem_append.mp h1 with h2 | h2
    · exact mem p hp _ h2
    · exact mem q hq _ h2
  · rw [List.mem_singleton.mp h1]
    exact ho
section CLASSX
variable {n : Nat} {h : mH} {A M : Nat → Nat → Int32} {R : Nat → Nat → Option Nat} {a b : Nat} {p q : List Nat} {o : Nat}
theorem c_joined (hn : n + 133 ≤ nx h) (hp : Pat n h a p) (hq : Pat n h b q) (op : okP p) (oq : okP q) (ho : 1 ≤ o ∧ o < 9) (hl : p.length + q.length + 1 ≤ 255) : ∃ x g, f_X4_joined a b (nI (chC o)) (E n h A M R) = some (some x, E n g A M R) ∧ MonoS n h g ∧ Pat n g x (p ++ q ++ [o]) := by
  obtain ⟨a1, a2, a3, c, c1, c2, c3, c4, c5, c6, c7, c8⟩ := hp
  obtain ⟨b1, b2, b3, d, d1, d2, d3, d4, d5, d6, d7, d8⟩ := hq
  have cc : ∀ k, k < (p ++ q ++ [o]).length → up (va_cpy (gi h d) (va_cpy (gi h c) (fun _ => nI 0) 0 0 p.length) 0 p.length q.length) (p.length + q.length) (nI (chC o)) k = nI (chC ((p ++ q ++ [o]).getD k 0)) := fun k hk => by
    have hk' : k < p.length + q.length + 1 := by simp at hk; omega
    by_cases e1 : k = p.length + q.length
    · rw [e1, up_at]
      congr 2
      rw [List.getD_eq_getElem?_getD, List.getElem?_append_right (by simp)]
      simp
    · rw [up_ne _ _ e1]
      show (if p.length ≤ k ∧ k < p.length + q.length then gi h d (0 + (k - p.length)) else if 0 ≤ k ∧ k < 0 + p.length then gi h c (0 + (k - 0)) else nI 0) = _
      by_cases e2 : k < p.length
      · rw [if_neg (by omega), if_pos (by omega), show 0 + (k - 0) = k by omega, c6 k e2]
        congr 2
        rw [List.getD_eq_getElem?_getD, List.getD_eq_getElem?_getD, List.append_assoc, List.getElem?_append_left e2]
      · rw [if_pos (by omega), Nat.zero_add, d6 (k - p.length) (by omega)]
        congr 2
        rw [List.getD_eq_getElem?_getD, List.getD_eq_getElem?_getD, List.getElem?_append_left (by simp; omega), List.getElem?_append_right (by omega)]
  obtain ⟨g, e, m, pp⟩ := c_newPat (n := n) (A := A) (M := M) (R := R) (g := celH h 103 (p.length + q.length + 1) (up (va_cpy (gi h d) (va_cpy (gi h c) (fun _ => nI 0) 0 0 p.length) 0 p.length q.length) (p.length + q.length) (nI (chC o))) (fun _ => none)) (y := nx h) (p := p ++ q ++ [o]) (okP_bin op oq ho hl) (by rw [nx_cel]; omega) hn (by rw [nx_cel]; omega) kd_celS (by rw [sz_celS]; simp [Nat.add_assoc]) (by rw [gi_celS]; exact cc)
  refine ⟨_, g, ?_, MonoS_tr (MonoS_cel n) m, pp⟩
  have f1 : (∀ i, i < p.length → fits .char (.int (gi h c i)) = true) = True := eq_true fun i hi => by rw [c6 i hi]; exact fitsC _
  have f2 : (∀ i, i < q.length → fits .char (.int (gi h d i)) = true) = True := eq_true fun i hi => by rw [d6 i hi]; exact fitsC _
  have n1 : (p.length ≤ p.length + q.length + 1) = True := eq_true (by omega)
  have n2 : (p.length + q.length ≤ p.length + q.length + 1) = True := eq_true (by omega)
  have n3 : ∀ x : Nat, (x ≤ x) = True := fun x => eq_true (Nat.le_refl x)
  have ha : ∀ F G m, al (E n (celH h 103 m F G) A M R) 9 3 = E n (al (celH h 103 m F G) 9 3) A M R := fun F G m => al_X (by rw [nx_cel]; omega)
  unfold f_X4_joined
  simp (disch := omega) only [↓grd_u, ↓bnd_e, ↓orf_u, ↓oif_u, ↓cal_u, ↓calX_u, ↓inrO_u, ↓reduceIte, EM, EMg, EMs, z0, oi, n_inbT, n_cntT, n_ltT, n_ltF, n_leT, n_leF, n_eqT, n_eqF, n_m1T, n_m1F, n_m1F', n_cl, n_add, n_mul, ro_at, ro_ro, up_at, up_up, kd_X, sz_X, gr_X, gi_X, al_X, cp_X, si_X, nx_E, a3, b3, c1, c4, c5, d1, d4, d5, al_cel h 103, kd_celS, kd_celN, sz_celS, sz_celN, gr_celN, gi_celN, cp_cel, si_cel, not_false_eq_true, and_true, true_and, Nat.zero_add, f1, f2, n1, n2, n3, narQ, ha, e]
theorem c_starred (hn : n + 133 ≤ nx h) (hp : Pat n h a p) (op : okP p) (hl : p.length + 1 ≤ 255) : ∃ x g, f_X4_starred a (E n h A M R) = some (some x, E n g A M R) ∧ MonoS n h g ∧ Pat n g x (p ++ [6]) := by
  obtain ⟨a1, a2, a3, c, c1, c2, c3, c4, c5, c6, c7, c8⟩ := hp
  have cc : ∀ k, k < (p ++ [6]).length → up (va_cpy (gi h c) (fun _ => nI 0) 0 0 p.length) p.length (nI 42) k = nI (chC ((p ++ [6]).getD k 0)) := fun k hk => by
    have hk' : k < p.length + 1 := by simpa using hk
    by_cases e1 : k = p.length
    · rw [e1, up_at]
      rw [List.getD_eq_getElem?_getD, List.getElem?_append_right (by simp)]
      simp [chC]
    · rw [up_ne _ _ e1]
      show (if 0 ≤ k ∧ k < 0 + p.length then gi h c (0 + (k - 0)) else nI 0) = _
      rw [if_pos (by omega), show 0 + (k - 0) = k by omega, c6 k (by omega)]
      congr 2
      rw [List.getD_eq_getElem?_getD, List.getD_eq_getElem?_getD, List.getElem?_append_left (by omega)]
  have ok : okP (p ++ [6]) := by
    have := okP_bin (q := []) (o := 6) op ⟨fun k hk => absurd hk (by simp), by simp⟩ ⟨by decide, by decide⟩ (by simpa using hl)
    simpa using this
  obtain ⟨g, e, m, pp⟩ := c_newPat (n := n) (A := A) (M := M) (R := R) (g := celH h 103 (p.length + 1) (up (va_cpy (gi h c) (fun _ => nI 0) 0 0 p.length) p.length (nI 42)) (fun _ => none)) (y := nx h) (p := p ++ [6]) ok (by rw [nx_cel]; omega) hn (by rw [nx_cel]; omega) kd_celS (by rw [sz_celS]; simp) (by rw [gi_celS]; exact cc)
  refine ⟨_, g, ?_, MonoS_tr (MonoS_cel n) m, pp⟩
  have f1 : (∀ i, i < p.length → fits .char (.int (gi h c i)) = true) = True := eq_true fun i hi => by rw [c6 i hi]; exact fitsC _
  have n1 : (p.length ≤ p.length + 1) = True := eq_true (by omega)
  have n3 : ∀ x : Nat, (x ≤ x) = True := fun x => eq_true (Nat.le_refl x)
  have ha : ∀ F G m, al (E n (celH h 103 m F G) A M R) 9 3 = E n (al (celH h 103 m F G) 9 3) A M R := fun F G m => al_X (by rw [nx_cel]; omega)
  unfold f_X4_starred
  simp (disch := omega) only [↓grd_u, ↓bnd_e, ↓orf_u, ↓oif_u, ↓cal_u, ↓calX_u, ↓inrO_u, ↓reduceIte, EM, EMg, EMs, z0, oi, n_inbT, n_cntT, n_ltT, n_ltF, n_leT, n_leF, n_eqT, n_eqF, n_m1T, n_m1F, n_m1F', n_cl, n_add, n_mul, ro_at, ro_ro, up_at, up_up, kd_X, sz_X, gr_X, gi_X, al_X, cp_X, si_X, nx_E, a3, c1, c4, c5, al_cel h 103, kd_celS, kd_celN, sz_celS, sz_celN, gr_celN, gi_celN, cp_cel, si_cel, not_false_eq_true, and_true, true_and, Nat.zero_add, f1, n1, n3, ha, e]
end CLASSX
