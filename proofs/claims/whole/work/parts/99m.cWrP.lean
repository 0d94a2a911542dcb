/-! the class: the pile of characters of the notation -/
section CWRP
variable {n : Nat} {h : mH} {A M : Nat → Nat → Int32} {R : Nat → Nat → Option Nat} {S : St} {l : List Nat}
/-- the pile, its top first -/
def Pil (A : Nat → Nat → Int32) (p : List Nat) : Prop := A 39 2 = nI p.length ∧ p.length ≤ 100 ∧ ∀ k, k < p.length → A 40 (p.length - 1 - k) = nI (p.getD k 0) ∧ p.getD k 0 < 128
theorem c_pTop {c : Nat} {p : List Nat} (hp : Pil A (c :: p)) : f_X2_top (ca n 39) (E n h A M R) = some (nI c, E n h A M R) := by
  obtain ⟨p1, p2, p3⟩ := hp
  obtain ⟨q1, q2⟩ := p3 0 (Nat.succ_pos _)
  have e : (c :: p).length = p.length + 1 := rfl
  have e0 : (c :: p).getD 0 0 = c := rfl
  rw [e] at p1 p2 q1
  rw [e0] at q1 q2
  rw [show p.length + 1 - 1 - 0 = p.length by omega] at q1
  have hn := nar_ch c q2
  unfold f_X2_top g_X2_top_34
  simp (disch := omega) only [↓grd_u, ↓bnd_e, ↓orf_u, ↓oif_u, ↓cal_u, ↓calX_u, ↓inrO_u, ↓reduceIte, EM, EMg, EMs, z0, oi, n_inbT, n_cntT, n_ltT, n_ltF, n_leT, n_leF, n_eqT, n_eqF, n_m1T, n_m1F, n_m1F', n_cl, n_add, n_mul, ro_at, ro_ro, up_at, up_up, EC, ECg, p1, n_sub, Nat.add_sub_cancel, q1, hn]
theorem c_pPush {c : Nat} {p : List Nat} (hp : Pil A p) (hc : c < 128) (hl : p.length < 100) : ∃ A', f_X2_push (ca n 39) (nI c) (E n h A M R) = some ((), E n h A' M R) ∧ Pil A' (c :: p) ∧ ∀ r, r ≠ 39 → r ≠ 40 → A' r = A r := by
  obtain ⟨p1, p2, p3⟩ := hp
  have hn := nar_ch c hc
  refine ⟨ro (ro A 40 (up (A 40) p.length (nI c))) 39 (up (A 39) 2 (nI (p.length + 1))), ?_, ⟨by rw [ro_at, up_at]; rfl, by show p.length + 1 ≤ 100; omega, fun k hk => ?_⟩, fun r h1 h2 => by rw [ro_ne _ _ h1, ro_ne _ _ h2]⟩
  · unfold f_X2_push g_X2_push_39
    simp (disch := omega) only [↓grd_u, ↓bnd_e, ↓orf_u, ↓oif_u, ↓cal_u, ↓calX_u, ↓inrO_u, ↓reduceIte, EM, EMg, EMs, z0, oi, n_inbT, n_cntT, n_ltT, n_ltF, n_leT, n_leF, n_eqT, n_eqF, n_m1T, n_m1F, n_m1F', n_cl, n_add, n_mul, ro_at, ro_ro, up_at, up_up, ro_ne, up_ne, ro_sw, EC, ECg, ECs, p1, hn]
  · have e : (c :: p).length = p.length + 1 := rfl
    rw [e] at hk ⊢
    rw [ro_ne _ _ (by decide), ro_at]
    cases k with
    | zero =>
      rw [show p.length + 1 - 1 - 0 = p.length by omega, up_at]
      exact ⟨rfl, hc⟩
    | succ k =>
      rw [show p.length + 1 - 1 - (k + 1) = p.length - 1 - k by omega, up_ne _ _ (by omega)]
      exact p3 k (by omega)
theorem c_pPop {c : Nat} {p : List Nat} (hp : Pil A (c :: p)) : ∃ A', f_X2_pop (ca n 39) (E n h A M R) = some (nI c, E n h A' M R) ∧ Pil A' p ∧ ∀ r, r ≠ 39 → A' r = A r := by
  have ht := c_pTop (n := n) (h := h) (M := M) (R := R) hp
  obtain ⟨p1, p2, p3⟩ := hp
  have e : (c :: p).length = p.length + 1 := rfl
  rw [e] at p1 p2 p3
  have hc : c < 128 := (p3 0 (Nat.succ_pos _)).2
  have hn := nar_ch c hc
  refine ⟨ro A 39 (up (A 39) 2 (nI p.length)), ?_, ⟨by rw [ro_at, up_at], by omega, fun k hk => ?_⟩, fun r h1 => ro_ne _ _ h1⟩
  · unfold f_X2_pop
    simp (disch := omega) only [↓grd_u, ↓bnd_e, ↓orf_u, ↓oif_u, ↓cal_u, ↓calX_u, ↓inrO_u, ↓reduceIte, EM, EMg, EMs, z0, oi, n_inbT, n_cntT, n_ltT, n_ltF, n_leT, n_leF, n_eqT, n_eqF, n_m1T, n_m1F, n_m1F', n_cl, n_add, n_mul, ro_at, ro_ro, up_at, up_up, EC, ECg, ECs, ht, p1, n_sub, Nat.add_sub_cancel, hn]
  · rw [ro_ne _ _ (by decide)]
    have := p3 (k + 1) (by omega)
    rw [show p.length + 1 - 1 - (k + 1) = p.length - 1 - k by omega] at this
    exact this
end CWRP
