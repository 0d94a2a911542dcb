/-! new cells of the class: patterns -/
/-- later heaps: all that was there stays -/
def MonoS (n : Nat) (h h' : mH) : Prop := nx h ≤ nx h' ∧ ∀ a, n + 131 ≤ a → a < nx h → kd h' a = kd h a ∧ sz h' a = sz h a ∧ gi h' a = gi h a ∧ gr h' a = gr h a
theorem MonoS_w {n : Nat} {h h' : mH} (m : MonoS n h h') : Mono n h h' := ⟨m.1, fun a h1 h2 _ => m.2 a h1 h2⟩
theorem MonoS_rf (n : Nat) (h : mH) : MonoS n h h := ⟨Nat.le_refl _, fun _ _ _ => ⟨rfl, rfl, rfl, rfl⟩⟩
theorem MonoS_tr {n : Nat} {h h' h'' : mH} (a : MonoS n h h') (b : MonoS n h' h'') : MonoS n h h'' := ⟨Nat.le_trans a.1 b.1, fun x h1 h2 => by
  obtain ⟨e1, e2, e3, e4⟩ := a.2 x h1 h2
  obtain ⟨f1, f2, f3, f4⟩ := b.2 x h1 (Nat.lt_of_lt_of_le h2 a.1)
  exact ⟨f1.trans e1, f2.trans e2, f3.trans e3, f4.trans e4⟩⟩
def celH (h : mH) (c m : Nat) (F : Nat → Int32) (G : Nat → Option Nat) : mH := (nx h + 1, va_up (kd h) (nx h) c, va_up (sz h) (nx h) m, va_up (gi h) (nx h) F, va_up (gr h) (nx h) G, va_up (gl h) (nx h) (fun _ => 0), va_up (gd h) (nx h) (fun _ => 0))
theorem al_cel (h : mH) (c m : Nat) : al h c m = celH h c m (fun _ => nI 0) (fun _ => none) := rfl
theorem nx_cel (h : mH) (c m : Nat) (F : Nat → Int32) (G : Nat → Option Nat) : nx (celH h c m F G) = nx h + 1 := rfl
theorem vu_at {α : Type} (f : Nat → α) (x : Nat) (c : α) : va_up f x c x = c := by rw [upD, if_pos rfl]
theorem vu_ne {α : Type} (f : Nat → α) {x y : Nat} (c : α) (h : y ≠ x) : va_up f x c y = f y := by rw [upD, if_neg h]
theorem vu_vu {α : Type} (f : Nat → α) (x : Nat) (c d : α) : va_up (va_up f x c) x d = va_up f x d := by
  funext y
  rw [upD, upD, upD]
  split <;> rfl
section CEL
variable {h : mH} {c m a : Nat} {F : Nat → Int32} {G : Nat → Option Nat}
theorem kd_celS : kd (celH h c m F G) (nx h) = c := vu_at _ _ _
theorem sz_celS : sz (celH h c m F G) (nx h) = m := vu_at _ _ _
theorem gi_celS : gi (celH h c m F G) (nx h) = F := vu_at _ _ _
theorem gr_celS : gr (celH h c m F G) (nx h) = G := vu_at _ _ _
theorem kd_celN (e : a ≠ nx h) : kd (celH h c m F G) a = kd h a := vu_ne _ _ e
theorem sz_celN (e : a ≠ nx h) : sz (celH h c m F G) a = sz h a := vu_ne _ _ e
theorem gi_celN (e : a ≠ nx h) : gi (celH h c m F G) a = gi h a := vu_ne _ _ e
theorem gr_celN (e : a ≠ nx h) : gr (celH h c m F G) a = gr h a := vu_ne _ _ e
theorem u2_up {α : Type} (f : Nat → Nat → α) (a : Nat) (k : Nat) (v : α) : u2 f a k v = va_up f a (up (f a) k v) := by
  funext x j
  show (if x = a ∧ j = k then v else f x j) = (va_up f a (up (f a) k v)) x j
  rw [upD]
  by_cases e : x = a
  · subst e
    rw [if_pos rfl]
    by_cases q : j = k
    · subst q; rw [if_pos ⟨rfl, rfl⟩, up_at]
    · rw [if_neg (fun w => q w.2), up_ne _ _ q]
  · rw [if_neg e, if_neg (fun w => e w.1)]
theorem si_cel (k : Nat) (v : Int32) : si (celH h c m F G) (nx h) k v = celH h c m (up F k v) G := by
  unfold si
  rw [u2_up, show gi (celH h c m F G) (nx h) = F from gi_celS]
  show (_, _, _, va_up (va_up (gi h) (nx h) F) (nx h) (up F k v), _, _, _) = _
  rw [vu_vu]
  rfl
theorem sr_cel (k : Nat) (o : Option Nat) : sr (celH h c m F G) (nx h) k o = celH h c m F (up G k o) := by
  unfold sr
  rw [u2_up, show gr (celH h c m F G) (nx h) = G from gr_celS]
  show (_, _, _, _, va_up (va_up (gr h) (nx h) G) (nx h) (up G k o), _, _) = _
  rw [vu_vu]
  rfl
theorem cp_cel {b sp dp n : Nat} (e : b ≠ nx h) : cp (celH h c m F G) b (nx h) sp dp n = celH h c m (va_cpy (gi h b) F sp dp n) G := by
  unfold cp
  rw [gi_celS, gi_celN e]
  show (_, _, _, va_up (va_up (gi h) (nx h) F) (nx h) _, _, _, _) = _
  rw [vu_vu]
  rfl
theorem MonoS_cel (n : Nat) : MonoS n h (celH h c m F G) := ⟨by rw [nx_cel]; omega, fun a h1 h2 => ⟨kd_celN (by omega), sz_celN (by omega), gi_celN (by omega), gr_celN (by omega)⟩⟩
end CEL
section CLASSW
variable {n : Nat} {h : mH} {A M : Nat → Nat → Int32} {R : Nat → Nat → Option Nat}
theorem cp_X {a b sp dp k : Nat} (ha : n + 131 ≤ a) (hb : n + 131 ≤ b) : cp (E n h A M R) b a sp dp k = E n (cp h b a sp dp k) A M R := by
  unfold cp
  have e1 : gi (E n h A M R) b = gi h b := by funext j; exact gi_X hb
  have e2 : gi (E n h A M R) a = gi h a := by funext j; exact gi_X ha
  rw [e1, e2]
  have e : va_up (gi (E n h A M R)) a (va_cpy (gi h b) (gi h a) sp dp k) = gi (E n (nx h, kd h, sz h, va_up (gi h) a (va_cpy (gi h b) (gi h a) sp dp k), gr h, gl h, gd h) A M R) := by
    funext x j
    rw [upD]
    by_cases q : x = a
    · subst q
      rw [if_pos rfl, gi_X ha]
      show _ = va_up (gi h) x _ x j
      rw [vu_at]
    · rw [if_neg q]
      show (if x < n then gi h x j else if x < n + 97 then A (x - n) j else if x < n + 131 then M (x - n - 97) j else gi h x j) = (if x < n then va_up (gi h) a _ x j else if x < n + 97 then A (x - n) j else if x < n + 131 then M (x - n - 97) j else va_up (gi h) a _ x j)
      rw [vu_ne _ _ q]
  show (nx h, kd (E n h A M R), sz (E n h A M R), va_up (gi (E n h A M R)) a (va_cpy (gi h b) (gi h a) sp dp k), gr (E n h A M R), gl h, gd h) = _
  rw [e]
  rfl
theorem c_let {c : Nat} {g : mH} (h1 : 1 ≤ c) (h9 : c < 9) : f_X11_isLetter (nI (chC c)) g = some (nI (b1 (c < 4)), g) := by
  have : c = 1 ∨ c = 2 ∨ c = 3 ∨ c = 4 ∨ c = 5 ∨ c = 6 ∨ c = 7 ∨ c = 8 := by omega
  rcases this with rfl | rfl | rfl | rfl | rfl | rfl | rfl | rfl <;> rfl
theorem c_sig {c : Nat} {g : mH} (h1 : 1 ≤ c) (h9 : c < 9) : f_X11_isSign (nI (chC c)) g = some (nI (b1 (6 ≤ c)), g) := by
  have : c = 1 ∨ c = 2 ∨ c = 3 ∨ c = 4 ∨ c = 5 ∨ c = 6 ∨ c = 7 ∨ c = 8 := by omega
  rcases this with rfl | rfl | rfl | rfl | rfl | rfl | rfl | rfl <;> rfl
def okP (p : List Nat) : Prop := (∀ k, k < p.length → 1 ≤ p.getD k 0 ∧ p.getD k 0 < 9) ∧ p.length ≤ 255
theorem c_initP {g : mH} {x y : Nat} {p : List Nat} (ok : okP p) (hx : n + 131 ≤ x) (hy : n + 131 ≤ y) (k1 : kd g x = 9) (k2 : kd g y = 103) (s2 : sz g y = p.length) (cc : ∀ k, k < p.length → gi g y k = nI (chC (p.getD k 0))) : f_X4_init x y (E n g A M R) = some ((), E n (si (si (sr g x 0 (some y)) x 1 (nI (nLet p))) x 2 (nI (nSig p))) A M R) := by
  have r1 : ∀ a, kd (sr g x 0 (some y)) a = kd g a := fun _ => rfl
  have r2 : ∀ a, sz (sr g x 0 (some y)) a = sz g a := fun _ => rfl
  have r3 : ∀ a k, gi (sr g x 0 (some y)) a k = gi g a k := fun _ _ => rfl
  have r4 : ∀ (g : mH) k v a, kd (si g x k v) a = kd g a := fun _ _ _ _ => rfl
  have hl := ok.2
  unfold f_X4_init g_X4_init_24
  simp (disch := omega) only [↓grd_u, ↓bnd_e, ↓orf_u, ↓oif_u, ↓cal_u, ↓calX_u, ↓inrO_u, ↓reduceIte, EM, EMg, EMs, z0, oi, n_inbT, n_cntT, n_ltT, n_ltF, n_leT, n_leF, n_eqT, n_eqF, n_m1T, n_m1F, n_m1F', n_cl, n_add, n_mul, ro_at, ro_ro, up_at, up_up, kd_X, sz_X, sr_X, k1, k2, s2, r1, r2]
  have hl := lp_for0 (f := b_X4_init_24 x y (nI p.length)) (fun k => (nI (nLet (p.take k)), nI (nSig (p.take k)), nI k, E n (sr g x 0 (some y)) A M R)) p.length ((), E n (si (si (sr g x 0 (some y)) x 1 (nI (nLet p))) x 2 (nI (nSig p))) A M R) (fun k hk => ?_) ?_ (L := 100000) (by omega)
  · exact hl
  · obtain ⟨o1, o2⟩ := ok.1 k hk
    have ck := cc k hk
    unfold b_X4_init_24 b0_X4_init_24 g_X4_init_52 g_X4_init_68
    rw [take_snoc hk, nLet_snoc, nSig_snoc]
    by_cases q1 : p.getD k 0 < 4
    · simp (disch := omega) only [↓grd_u, ↓bnd_e, ↓orf_u, ↓oif_u, ↓cal_u, ↓calX_u, ↓inrO_u, ↓reduceIte, EM, EMg, EMs, z0, oi, n_inbT, n_cntT, n_ltT, n_ltF, n_leT, n_leF, n_eqT, n_eqF, n_m1T, n_m1F, n_m1F', n_cl, n_add, n_mul, ro_at, ro_ro, up_at, up_up, kd_X, sz_X, gi_X, k2, s2, r1, r2, r3, ck, c_let o1 o2, c_sig o1 o2, b1, q1, show ¬ (6 ≤ p.getD k 0) by omega]
    · by_cases q2 : 6 ≤ p.getD k 0
      · simp (disch := omega) only [↓grd_u, ↓bnd_e, ↓orf_u, ↓oif_u, ↓cal_u, ↓calX_u, ↓inrO_u, ↓reduceIte, EM, EMg, EMs, z0, oi, n_inbT, n_cntT, n_ltT, n_ltF, n_leT, n_leF, n_eqT, n_eqF, n_m1T, n_m1F, n_m1F', n_cl, n_add, n_mul, ro_at, ro_ro, up_at, up_up, kd_X, sz_X, gi_X, k2, s2, r1, r2, r3, ck, c_let o1 o2, c_sig o1 o2, b1, q1, q2]
      · simp (disch := omega) only [↓grd_u, ↓bnd_e, ↓orf_u, ↓oif_u, ↓cal_u, ↓calX_u, ↓inrO_u, ↓reduceIte, EM, EMg, EMs, z0, oi, n_inbT, n_cntT, n_ltT, n_ltF, n_leT, n_leF, n_eqT, n_eqF, n_m1T, n_m1F, n_m1F', n_cl, n_add, n_mul, ro_at, ro_ro, up_at, up_up, kd_X, sz_X, gi_X, k2, s2, r1, r2, r3, ck, c_let o1 o2, c_sig o1 o2, b1, q1, q2]
  · unfold b_X4_init_24 b0_X4_init_24
    rw [List.take_length]
    simp (disch := omega) only [↓grd_u, ↓bnd_e, ↓orf_u, ↓oif_u, ↓cal_u, ↓calX_u, ↓inrO_u, ↓reduceIte, EM, EMg, EMs, z0, oi, n_inbT, n_cntT, n_ltT, n_ltF, n_leT, n_leF, n_eqT, n_eqF, n_m1T, n_m1F, n_m1F', n_cl, n_add, n_mul, ro_at, ro_ro, up_at, up_up, kd_X, si_X, k1, r1, r4]
theorem c_newPat {g : mH} {y : Nat} {p : List Nat} (ok : okP p) (hx : n + 133 ≤ nx g) (hy : n + 133 ≤ y) (hyx : y < nx g) (k2 : kd g y = 103) (s2 : sz g y = p.length) (cc : ∀ k, k < p.length → gi g y k = nI (chC (p.getD k 0))) : ∃ g', f_X4_init (nx g) y (E n (al g 9 3) A M R) = some ((), E n g' A M R) ∧ MonoS n g g' ∧ Pat n g' (nx g) p := by
  refine ⟨_, c_initP ok (by omega) (by omega) ?_ ?_ ?_ ?_, ?_, ?_⟩
  · rw [al_cel, kd_celS]
  · rw [al_cel, kd_celN (by omega)]; exact k2
  · rw [al_cel, sz_celN (by omega)]; exact s2
  · rw [al_cel, gi_celN (by omega)]; exact cc
  · rw [al_cel, sr_cel, si_cel, si_cel]; exact MonoS_cel n
  · rw [al_cel, sr_cel, si_cel, si_cel]
    refine ⟨by omega, by rw [nx_cel]; omega, kd_celS, y, by rw [gr_celS, up_at], hy, by rw [nx_cel]; omega, by rw [kd_celN (by omega)]; exact k2, by rw [sz_celN (by omega)]; exact s2, by rw [gi_celN (by omega)]; exact cc, ?_, ?_⟩
    · rw [gi_celS, up_ne _ _ (by decide), up_at]
    · rw [gi_celS, up_at]
end CLASSW
