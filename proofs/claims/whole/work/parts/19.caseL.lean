/-! what is asked of a call on both sides; 'x' the class's object, 'm' the reference's, 'o' and 'od' the rows for the answers -/
def hOK (x m o od : Nat) (h : mH) : Prop := kd h x = 16 ∧ kd h m = 17 ∧ kd h o = 105 ∧ 0 < sz h o ∧ kd h od = 106 ∧ 0 < sz h od
def opT {ρ β : Type} (x m o od : Nat) (I' : mH → Prop) (fx : Option ((ρ ⊕ String) × mH)) (wr : ρ → mH → mH) (es : List String) (fm : mH → Option (β × mH)) (eqv : β → mH → Prop) : Prop :=
  ∃ r, fx = some r ∧ hOK x m o od r.2 ∧ (∀ e k, r = (.inr e, k) → e ∈ es) ∧ ∀ v k, hQ r wr es v k → ∃ kk b k2, v = some (.int kk) ∧ kd k m = 17 ∧ fm k = some (b, k2) ∧ hOK x m o od k2 ∧ gi k2 m 0 = kk ∧ (kk = 0 → eqv b k2) ∧ I' k2
def opN (x m o od : Nat) (I' : mH → Prop) (fx : Option (Int32 × mH)) (fm : mH → Option (Int32 × mH)) : Prop := ∃ b k k2, fx = some (b, k) ∧ kd k m = 17 ∧ fm k = some (b, k2) ∧ hOK x m o od k2 ∧ I' k2
theorem thrown_ok {m : Nat} {h : mH} (hk : kd h m = 17) : f_X12_thrown m h = some (gi h m 0, h) := by
  unfold f_X12_thrown grd
  rw [if_pos hk]
abbrev chr (a : Int32) : Int32 := (a.toUInt32 % 65536).toInt32
section LCALLS
variable {l : Launch} {G : mG} {M : mMI} {d mc ms pc : Nat} {ls : List (Option Value)} {st : List Value} {h : mH} {Q : Option Value → mH → Prop} {X : String → mH → Prop} {M' : mMI} {d' mc' ms' ix : Nat} {Q' : Option Value → mH → Prop}
theorem r_callSX0 {a b : Nat} (hd : decode M.2.1 pc = .ok (.invokestatic ix, 3)) (F : KSX M.1.cls ix M' 2) (K : mMet l G M' d' mc' ms' [.ref a, .ref b] h Q' (fun _ _ => False)) (hdd : d' + 1 ≤ d) (hst : (st.map fun v => v.category).sum ≤ 8) (hh : M.2.2.2.2 = [])
    (kk : ∀ (v : Option Value) (h' : mH), Q' v h' → mW l G M d mc ms (pc + 3) ls (v.toList ++ st) h' Q X) : mW l G M d (mc' + mc) (ms' + ms) pc ls (.ref b :: .ref a :: st) h Q X := q_callSX (As := [.ref a, .ref b]) hd F K rfl hdd hst hh (fun _ _ q => q.elim) kk
theorem r_callSX1 {a b : Nat} {u0 : Value} (hd : decode M.2.1 pc = .ok (.invokestatic ix, 3)) (F : KSX M.1.cls ix M' 3) (K : mMet l G M' d' mc' ms' [.ref a, u0, .ref b] h Q' (fun _ _ => False)) (hdd : d' + 1 ≤ d) (hst : (st.map fun v => v.category).sum ≤ 8) (hh : M.2.2.2.2 = [])
    (kk : ∀ (v : Option Value) (h' : mH), Q' v h' → mW l G M d mc ms (pc + 3) ls (v.toList ++ st) h' Q X) : mW l G M d (mc' + mc) (ms' + ms) pc ls (.ref b :: u0 :: .ref a :: st) h Q X := q_callSX (As := [.ref a, u0, .ref b]) hd F K rfl hdd hst hh (fun _ _ q => q.elim) kk
theorem r_callSX2 {a b : Nat} {u0 u1 : Value} (hd : decode M.2.1 pc = .ok (.invokestatic ix, 3)) (F : KSX M.1.cls ix M' 4) (K : mMet l G M' d' mc' ms' [.ref a, u0, u1, .ref b] h Q' (fun _ _ => False)) (hdd : d' + 1 ≤ d) (hst : (st.map fun v => v.category).sum ≤ 8) (hh : M.2.2.2.2 = [])
    (kk : ∀ (v : Option Value) (h' : mH), Q' v h' → mW l G M d mc ms (pc + 3) ls (v.toList ++ st) h' Q X) : mW l G M d (mc' + mc) (ms' + ms) pc ls (.ref b :: u1 :: u0 :: .ref a :: st) h Q X := q_callSX (As := [.ref a, u0, u1, .ref b]) hd F K rfl hdd hst hh (fun _ _ q => q.elim) kk
theorem r_callSX3 {a b : Nat} {u0 u1 u2 : Value} (hd : decode M.2.1 pc = .ok (.invokestatic ix, 3)) (F : KSX M.1.cls ix M' 5) (K : mMet l G M' d' mc' ms' [.ref a, u0, u1, u2, .ref b] h Q' (fun _ _ => False)) (hdd : d' + 1 ≤ d) (hst : (st.map fun v => v.category).sum ≤ 8) (hh : M.2.2.2.2 = [])
    (kk : ∀ (v : Option Value) (h' : mH), Q' v h' → mW l G M d mc ms (pc + 3) ls (v.toList ++ st) h' Q X) : mW l G M d (mc' + mc) (ms' + ms) pc ls (.ref b :: u2 :: u1 :: u0 :: .ref a :: st) h Q X := q_callSX (As := [.ref a, u0, u1, u2, .ref b]) hd F K rfl hdd hst hh (fun _ _ q => q.elim) kk
end LCALLS
set_option maxRecDepth 100000 in
theorem k_0 {l : Launch} {G : mG} {Q : Option Value → mH → Prop} {X : String → mH → Prop} {x m o od mc ms : Nat} {i : Int32} {h : mH} {I' : mH → Prop} {a1 a2 a3 : Int32} (g1 : inb (i + Int32.ofInt 1) (sL G)) (g2 : inb (i + Int32.ofInt 2) (sL G)) (g3 : inb (i + Int32.ofInt 3) (sL G)) (ha1 : sX G (i + Int32.ofInt 1).toNatClampNeg = a1) (ha2 : sX G (i + Int32.ofInt 2).toNatClampNeg = a2) (ha3 : sX G (i + Int32.ofInt 3).toNatClampNeg = a3) (hk : kd h x = 16)
    (hop : opT x m o od I' (f_X11_define x a1 h) (fun r k => sl k o 0 r.toInt64) [xI, xA, xS] (fun k => f_X12_define m a1 k) (fun b k => gl k o 0 = Int32.toInt64 b))
    (kk : ∀ h', hOK x m o od h' → I' h' → mW l G m_L_law 12 mc ms 3215 [some (.ref (sB G)), some (.ref x), some (.ref m), some (.ref o), some (.ref od), some (.int i), none, none, none] [] h' Q X) : mW l G m_L_law 12 (mc + 21) (ms + 2586) 272 [some (.ref (sB G)), some (.ref x), some (.ref m), some (.ref o), some (.ref od), some (.int i), none, none, none] [] h Q X := by
  subst ha1; subst ha2; subst ha3
  refine q_aload_n dL_law_272 rfl ?_
  refine q_aload_n dL_law_273 rfl ?_
  refine q_iload dL_law_274 rfl ?_
  refine q_iconst dL_law_276 ?_
  refine q_iadd dL_law_277 ?_
  refine q_sld dL_law_278 g1 ?_
  refine q_aload_n dL_law_279 rfl ?_
  obtain ⟨r, hE, hr, hx, hop⟩ := hop
  refine q_room (d' := 12) (mc' := 3 + mc) (ms' := 264 + ms) (Nat.le_refl _) (by omega) (by omega) ?_
  refine r_callSX1 dL_law_280 KX_174 (c_L_define hE hk (fun _ _ q => by subst q; exact ⟨hr.2.2.1, hr.2.2.2.1⟩) hx) (by decide) (Nat.le_of_ble_eq_true rfl) rfl ?_
  intro v9 k9 hq
  obtain ⟨kk9, b, k2, rfl, hm, hfm, hok, hth, heq, hI⟩ := hop _ _ hq
  refine q_istore dL_law_283 (by decide) ?_
  refine q_aload_n dL_law_285 rfl ?_
  refine q_aload_n dL_law_286 rfl ?_
  refine q_iload dL_law_287 rfl ?_
  refine q_iconst dL_law_289 ?_
  refine q_iadd dL_law_290 ?_
  refine q_sld dL_law_291 g1 ?_
  refine q_room (d' := 12) (mc' := 0 + mc) (ms' := 0 + ms) (Nat.le_refl _) (by omega) (by omega) ?_
  refine r_callV1 (mc := mc) (ms := ms) (mc' := 0) (ms' := 0) dL_law_292 KL_179 (c_X12_define hfm) hm (by decide) (Nat.le_of_ble_eq_true rfl) (fun _ _ q => q.elim) ?_
  rintro _ _ ⟨rfl, rfl⟩
  refine q_istore dL_law_295 (by decide) ?_
  refine q_aload_n dL_law_297 rfl ?_
  refine q_room (d' := 12) (mc' := 0 + mc) (ms' := 0 + ms) (Nat.le_refl _) (by omega) (by omega) ?_
  refine r_callV0 (mc := mc) (ms := ms) (mc' := 0) (ms' := 0) dL_law_298 KL_180 (c_X12_thrown (thrown_ok hok.2.1)) hok.2.1 (by decide) (Nat.le_of_ble_eq_true rfl) (fun _ _ q => q.elim) ?_
  rintro _ _ ⟨rfl, rfl⟩
  refine q_iload dL_law_301 rfl ?_
  refine q_icmp_eq (tgt := 308) dL_law_303 (by decide) (fun z => ?_) (fun z => absurd hth z)
  refine q_iload dL_law_308 rfl ?_
  have kE : mW l G m_L_law 12 mc ms 3215 [some (.ref (sB G)), some (.ref x), some (.ref m), some (.ref o), some (.ref od), some (.int i), some (.int kk9), some (.int b), none] [] k2 Q X := r_fewer [some (.ref (sB G)), some (.ref x), some (.ref m), some (.ref o), some (.ref od), some (.int i), none, none, none] (ls_s (ls_s (ls_s (ls_s (ls_s (ls_s (ls_n (ls_n (ls_n ls_0))))))))) (kk _ hok hI)
  have kL : mW l G m_L_law 12 mc ms 325 [some (.ref (sB G)), some (.ref x), some (.ref m), some (.ref o), some (.ref od), some (.int i), some (.int kk9), some (.int b), none] [] k2 Q X := q_goto (tgt := 3215) dL_law_325 (by decide) kE
  refine q_if_ne (tgt := 325) dL_law_310 (by decide) (fun z => kL) (fun z2 => ?_)
  have h0 := heq z2
  dsimp only at h0
  refine q_aload_n dL_law_313 rfl ?_
  refine q_iconst dL_law_314 ?_
  refine q_laload dL_law_315 hok.2.2.1 (ix0 hok.2.2.2.1) ?_
  refine q_iload dL_law_316 rfl ?_
  refine q_i2l dL_law_318 ?_
  refine q_lcmp dL_law_319 ?_
  refine q_if_eq (tgt := 325) dL_law_320 (by decide) (fun _ => kL) (fun z3 => absurd ((lg_cmp_eq _ _).mpr h0) z3)
set_option maxRecDepth 100000 in
theorem k_1 {l : Launch} {G : mG} {Q : Option Value → mH → Prop} {X : String → mH → Prop} {x m o od mc ms : Nat} {i : Int32} {h : mH} {I' : mH → Prop} {a1 a2 a3 : Int32} (g1 : inb (i + Int32.ofInt 1) (sL G)) (g2 : inb (i + Int32.ofInt 2) (sL G)) (g3 : inb (i + Int32.ofInt 3) (sL G)) (ha1 : sX G (i + Int32.ofInt 1).toNatClampNeg = a1) (ha2 : sX G (i + Int32.ofInt 2).toNatClampNeg = a2) (ha3 : sX G (i + Int32.ofInt 3).toNatClampNeg = a3) (hk : kd h x = 16)
    (hop : opT x m o od I' (f_X11_unite x a1 a2 a3 h) (fun r k => sl k o 0 r.toInt64) [xI, xN, xS] (fun k => f_X12_unite m a1 a2 a3 k) (fun b k => gl k o 0 = Int32.toInt64 b))
    (kk : ∀ h', hOK x m o od h' → I' h' → mW l G m_L_law 12 mc ms 3215 [some (.ref (sB G)), some (.ref x), some (.ref m), some (.ref o), some (.ref od), some (.int i), none, none, none] [] h' Q X) : mW l G m_L_law 12 (mc + 21) (ms + 2586) 328 [some (.ref (sB G)), some (.ref x), some (.ref m), some (.ref o), some (.ref od), some (.int i), none, none, none] [] h Q X := by
  subst ha1; subst ha2; subst ha3
  refine q_aload_n dL_law_328 rfl ?_
  refine q_aload_n dL_law_329 rfl ?_
  refine q_iload dL_law_330 rfl ?_
  refine q_iconst dL_law_332 ?_
  refine q_iadd dL_law_333 ?_
  refine q_sld dL_law_334 g1 ?_
  refine q_aload_n dL_law_335 rfl ?_
  refine q_iload dL_law_336 rfl ?_
  refine q_iconst dL_law_338 ?_
  refine q_iadd dL_law_339 ?_
  refine q_sld dL_law_340 g2 ?_
  refine q_aload_n dL_law_341 rfl ?_
  refine q_iload dL_law_342 rfl ?_
  refine q_iconst dL_law_344 ?_
  refine q_iadd dL_law_345 ?_
  refine q_sld dL_law_346 g3 ?_
  refine q_aload_n dL_law_347 rfl ?_
  obtain ⟨r, hE, hr, hx, hop⟩ := hop
  refine q_room (d' := 12) (mc' := 3 + mc) (ms' := 264 + ms) (Nat.le_refl _) (by omega) (by omega) ?_
  refine r_callSX3 dL_law_348 KX_183 (c_L_unite hE hk (fun _ _ q => by subst q; exact ⟨hr.2.2.1, hr.2.2.2.1⟩) hx) (by decide) (Nat.le_of_ble_eq_true rfl) rfl ?_
  intro v9 k9 hq
  obtain ⟨kk9, b, k2, rfl, hm, hfm, hok, hth, heq, hI⟩ := hop _ _ hq
  refine q_istore dL_law_351 (by decide) ?_
  refine q_aload_n dL_law_353 rfl ?_
  refine q_aload_n dL_law_354 rfl ?_
  refine q_iload dL_law_355 rfl ?_
  refine q_iconst dL_law_357 ?_
  refine q_iadd dL_law_358 ?_
  refine q_sld dL_law_359 g1 ?_
  refine q_aload_n dL_law_360 rfl ?_
  refine q_iload dL_law_361 rfl ?_
  refine q_iconst dL_law_363 ?_
  refine q_iadd dL_law_364 ?_
  refine q_sld dL_law_365 g2 ?_
  refine q_aload_n dL_law_366 rfl ?_
  refine q_iload dL_law_367 rfl ?_
  refine q_iconst dL_law_369 ?_
  refine q_iadd dL_law_370 ?_
  refine q_sld dL_law_371 g3 ?_
  refine q_room (d' := 12) (mc' := 0 + mc) (ms' := 0 + ms) (Nat.le_refl _) (by omega) (by omega) ?_
  refine r_callV3 (mc := mc) (ms := ms) (mc' := 0) (ms' := 0) dL_law_372 KL_186 (c_X12_unite hfm) hm (by decide) (Nat.le_of_ble_eq_true rfl) (fun _ _ q => q.elim) ?_
  rintro _ _ ⟨rfl, rfl⟩
  refine q_istore dL_law_375 (by decide) ?_
  refine q_aload_n dL_law_377 rfl ?_
  refine q_room (d' := 12) (mc' := 0 + mc) (ms' := 0 + ms) (Nat.le_refl _) (by omega) (by omega) ?_
  refine r_callV0 (mc := mc) (ms := ms) (mc' := 0) (ms' := 0) dL_law_378 KL_180 (c_X12_thrown (thrown_ok hok.2.1)) hok.2.1 (by decide) (Nat.le_of_ble_eq_true rfl) (fun _ _ q => q.elim) ?_
  rintro _ _ ⟨rfl, rfl⟩
  refine q_iload dL_law_381 rfl ?_
  refine q_icmp_eq (tgt := 388) dL_law_383 (by decide) (fun z => ?_) (fun z => absurd hth z)
  refine q_iload dL_law_388 rfl ?_
  have kE : mW l G m_L_law 12 mc ms 3215 [some (.ref (sB G)), some (.ref x), some (.ref m), some (.ref o), some (.ref od), some (.int i), some (.int kk9), some (.int b), none] [] k2 Q X := r_fewer [some (.ref (sB G)), some (.ref x), some (.ref m), some (.ref o), some (.ref od), some (.int i), none, none, none] (ls_s (ls_s (ls_s (ls_s (ls_s (ls_s (ls_n (ls_n (ls_n ls_0))))))))) (kk _ hok hI)
  have kL : mW l G m_L_law 12 mc ms 405 [some (.ref (sB G)), some (.ref x), some (.ref m), some (.ref o), some (.ref od), some (.int i), some (.int kk9), some (.int b), none] [] k2 Q X := q_goto (tgt := 3215) dL_law_405 (by decide) kE
  refine q_if_ne (tgt := 405) dL_law_390 (by decide) (fun z => kL) (fun z2 => ?_)
  have h0 := heq z2
  dsimp only at h0
  refine q_aload_n dL_law_393 rfl ?_
  refine q_iconst dL_law_394 ?_
  refine q_laload dL_law_395 hok.2.2.1 (ix0 hok.2.2.2.1) ?_
  refine q_iload dL_law_396 rfl ?_
  refine q_i2l dL_law_398 ?_
  refine q_lcmp dL_law_399 ?_
  refine q_if_eq (tgt := 405) dL_law_400 (by decide) (fun _ => kL) (fun z3 => absurd ((lg_cmp_eq _ _).mpr h0) z3)
set_option maxRecDepth 100000 in
theorem k_2 {l : Launch} {G : mG} {Q : Option Value → mH → Prop} {X : String → mH → Prop} {x m o od mc ms : Nat} {i : Int32} {h : mH} {I' : mH → Prop} {a1 a2 a3 : Int32} (g1 : inb (i + Int32.ofInt 1) (sL G)) (g2 : inb (i + Int32.ofInt 2) (sL G)) (g3 : inb (i + Int32.ofInt 3) (sL G)) (ha1 : sX G (i + Int32.ofInt 1).toNatClampNeg = a1) (ha2 : sX G (i + Int32.ofInt 2).toNatClampNeg = a2) (ha3 : sX G (i + Int32.ofInt 3).toNatClampNeg = a3) (hk : kd h x = 16)
    (hop : opT x m o od I' (f_X11_concatenate x a1 a2 a3 h) (fun r k => sl k o 0 r.toInt64) [xI, xN, xS] (fun k => f_X12_concatenate m a1 a2 a3 k) (fun b k => gl k o 0 = Int32.toInt64 b))
    (kk : ∀ h', hOK x m o od h' → I' h' → mW l G m_L_law 12 mc ms 3215 [some (.ref (sB G)), some (.ref x), some (.ref m), some (.ref o), some (.ref od), some (.int i), none, none, none] [] h' Q X) : mW l G m_L_law 12 (mc + 21) (ms + 2586) 408 [some (.ref (sB G)), some (.ref x), some (.ref m), some (.ref o), some (.ref od), some (.int i), none, none, none] [] h Q X := by
  subst ha1; subst ha2; subst ha3
  refine q_aload_n dL_law_408 rfl ?_
  refine q_aload_n dL_law_409 rfl ?_
  refine q_iload dL_law_410 rfl ?_
  refine q_iconst dL_law_412 ?_
  refine q_iadd dL_law_413 ?_
  refine q_sld dL_law_414 g1 ?_
  refine q_aload_n dL_law_415 rfl ?_
  refine q_iload dL_law_416 rfl ?_
  refine q_iconst dL_law_418 ?_
  refine q_iadd dL_law_419 ?_
  refine q_sld dL_law_420 g2 ?_
  refine q_aload_n dL_law_421 rfl ?_
  refine q_iload dL_law_422 rfl ?_
  refine q_iconst dL_law_424 ?_
  refine q_iadd dL_law_425 ?_
  refine q_sld dL_law_426 g3 ?_
  refine q_aload_n dL_law_427 rfl ?_
  obtain ⟨r, hE, hr, hx, hop⟩ := hop
  refine q_room (d' := 12) (mc' := 3 + mc) (ms' := 264 + ms) (Nat.le_refl _) (by omega) (by omega) ?_
  refine r_callSX3 dL_law_428 KX_187 (c_L_concatenate hE hk (fun _ _ q => by subst q; exact ⟨hr.2.2.1, hr.2.2.2.1⟩) hx) (by decide) (Nat.le_of_ble_eq_true rfl) rfl ?_
  intro v9 k9 hq
  obtain ⟨kk9, b, k2, rfl, hm, hfm, hok, hth, heq, hI⟩ := hop _ _ hq
  refine q_istore dL_law_431 (by decide) ?_
  refine q_aload_n dL_law_433 rfl ?_
  refine q_aload_n dL_law_434 rfl ?_
  refine q_iload dL_law_435 rfl ?_
  refine q_iconst dL_law_437 ?_
  refine q_iadd dL_law_438 ?_
  refine q_sld dL_law_439 g1 ?_
  refine q_aload_n dL_law_440 rfl ?_
  refine q_iload dL_law_441 rfl ?_
  refine q_iconst dL_law_443 ?_
  refine q_iadd dL_law_444 ?_
  refine q_sld dL_law_445 g2 ?_
  refine q_aload_n dL_law_446 rfl ?_
  refine q_iload dL_law_447 rfl ?_
  refine q_iconst dL_law_449 ?_
  refine q_iadd dL_law_450 ?_
  refine q_sld dL_law_451 g3 ?_
  refine q_room (d' := 12) (mc' := 0 + mc) (ms' := 0 + ms) (Nat.le_refl _) (by omega) (by omega) ?_
  refine r_callV3 (mc := mc) (ms := ms) (mc' := 0) (ms' := 0) dL_law_452 KL_189 (c_X12_concatenate hfm) hm (by decide) (Nat.le_of_ble_eq_true rfl) (fun _ _ q => q.elim) ?_
  rintro _ _ ⟨rfl, rfl⟩
  refine q_istore dL_law_455 (by decide) ?_
  refine q_aload_n dL_law_457 rfl ?_
  refine q_room (d' := 12) (mc' := 0 + mc) (ms' := 0 + ms) (Nat.le_refl _) (by omega) (by omega) ?_
  refine r_callV0 (mc := mc) (ms := ms) (mc' := 0) (ms' := 0) dL_law_458 KL_180 (c_X12_thrown (thrown_ok hok.2.1)) hok.2.1 (by decide) (Nat.le_of_ble_eq_true rfl) (fun _ _ q => q.elim) ?_
  rintro _ _ ⟨rfl, rfl⟩
  refine q_iload dL_law_461 rfl ?_
  refine q_icmp_eq (tgt := 468) dL_law_463 (by decide) (fun z => ?_) (fun z => absurd hth z)
  refine q_iload dL_law_468 rfl ?_
  have kE : mW l G m_L_law 12 mc ms 3215 [some (.ref (sB G)), some (.ref x), some (.ref m), some (.ref o), some (.ref od), some (.int i), some (.int kk9), some (.int b), none] [] k2 Q X := r_fewer [some (.ref (sB G)), some (.ref x), some (.ref m), some (.ref o), some (.ref od), some (.int i), none, none, none] (ls_s (ls_s (ls_s (ls_s (ls_s (ls_s (ls_n (ls_n (ls_n ls_0))))))))) (kk _ hok hI)
  have kL : mW l G m_L_law 12 mc ms 485 [some (.ref (sB G)), some (.ref x), some (.ref m), some (.ref o), some (.ref od), some (.int i), some (.int kk9), some (.int b), none] [] k2 Q X := q_goto (tgt := 3215) dL_law_485 (by decide) kE
  refine q_if_ne (tgt := 485) dL_law_470 (by decide) (fun z => kL) (fun z2 => ?_)
  have h0 := heq z2
  dsimp only at h0
  refine q_aload_n dL_law_473 rfl ?_
  refine q_iconst dL_law_474 ?_
  refine q_laload dL_law_475 hok.2.2.1 (ix0 hok.2.2.2.1) ?_
  refine q_iload dL_law_476 rfl ?_
  refine q_i2l dL_law_478 ?_
  refine q_lcmp dL_law_479 ?_
  refine q_if_eq (tgt := 485) dL_law_480 (by decide) (fun _ => kL) (fun z3 => absurd ((lg_cmp_eq _ _).mpr h0) z3)
set_option maxRecDepth 100000 in
theorem k_3 {l : Launch} {G : mG} {Q : Option Value → mH → Prop} {X : String → mH → Prop} {x m o od mc ms : Nat} {i : Int32} {h : mH} {I' : mH → Prop} {a1 a2 a3 : Int32} (g1 : inb (i + Int32.ofInt 1) (sL G)) (g2 : inb (i + Int32.ofInt 2) (sL G)) (g3 : inb (i + Int32.ofInt 3) (sL G)) (ha1 : sX G (i + Int32.ofInt 1).toNatClampNeg = a1) (ha2 : sX G (i + Int32.ofInt 2).toNatClampNeg = a2) (ha3 : sX G (i + Int32.ofInt 3).toNatClampNeg = a3) (hk : kd h x = 16)
    (hop : opT x m o od I' (f_X11_repeat x a1 a2 h) (fun r k => sl k o 0 r.toInt64) [xI, xN, xS] (fun k => f_X12_repeat m a1 a2 k) (fun b k => gl k o 0 = Int32.toInt64 b))
    (kk : ∀ h', hOK x m o od h' → I' h' → mW l G m_L_law 12 mc ms 3215 [some (.ref (sB G)), some (.ref x), some (.ref m), some (.ref o), some (.ref od), some (.int i), none, none, none] [] h' Q X) : mW l G m_L_law 12 (mc + 21) (ms + 2586) 488 [some (.ref (sB G)), some (.ref x), some (.ref m), some (.ref o), some (.ref od), some (.int i), none, none, none] [] h Q X := by
  subst ha1; subst ha2; subst ha3
  refine q_aload_n dL_law_488 rfl ?_
  refine q_aload_n dL_law_489 rfl ?_
  refine q_iload dL_law_490 rfl ?_
  refine q_iconst dL_law_492 ?_
  refine q_iadd dL_law_493 ?_
  refine q_sld dL_law_494 g1 ?_
  refine q_aload_n dL_law_495 rfl ?_
  refine q_iload dL_law_496 rfl ?_
  refine q_iconst dL_law_498 ?_
  refine q_iadd dL_law_499 ?_
  refine q_sld dL_law_500 g2 ?_
  refine q_aload_n dL_law_501 rfl ?_
  obtain ⟨r, hE, hr, hx, hop⟩ := hop
  refine q_room (d' := 12) (mc' := 3 + mc) (ms' := 264 + ms) (Nat.le_refl _) (by omega) (by omega) ?_
  refine r_callSX2 dL_law_502 KX_190 (c_L_repeat hE hk (fun _ _ q => by subst q; exact ⟨hr.2.2.1, hr.2.2.2.1⟩) hx) (by decide) (Nat.le_of_ble_eq_true rfl) rfl ?_
  intro v9 k9 hq
  obtain ⟨kk9, b, k2, rfl, hm, hfm, hok, hth, heq, hI⟩ := hop _ _ hq
  refine q_istore dL_law_505 (by decide) ?_
  refine q_aload_n dL_law_507 rfl ?_
  refine q_aload_n dL_law_508 rfl ?_
  refine q_iload dL_law_509 rfl ?_
  refine q_iconst dL_law_511 ?_
  refine q_iadd dL_law_512 ?_
  refine q_sld dL_law_513 g1 ?_
  refine q_aload_n dL_law_514 rfl ?_
  refine q_iload dL_law_515 rfl ?_
  refine q_iconst dL_law_517 ?_
  refine q_iadd dL_law_518 ?_
  refine q_sld dL_law_519 g2 ?_
  refine q_room (d' := 12) (mc' := 0 + mc) (ms' := 0 + ms) (Nat.le_refl _) (by omega) (by omega) ?_
  refine r_callV2 (mc := mc) (ms := ms) (mc' := 0) (ms' := 0) dL_law_520 KL_193 (c_X12_repeat hfm) hm (by decide) (Nat.le_of_ble_eq_true rfl) (fun _ _ q => q.elim) ?_
  rintro _ _ ⟨rfl, rfl⟩
  refine q_istore dL_law_523 (by decide) ?_
  refine q_aload_n dL_law_525 rfl ?_
  refine q_room (d' := 12) (mc' := 0 + mc) (ms' := 0 + ms) (Nat.le_refl _) (by omega) (by omega) ?_
  refine r_callV0 (mc := mc) (ms := ms) (mc' := 0) (ms' := 0) dL_law_526 KL_180 (c_X12_thrown (thrown_ok hok.2.1)) hok.2.1 (by decide) (Nat.le_of_ble_eq_true rfl) (fun _ _ q => q.elim) ?_
  rintro _ _ ⟨rfl, rfl⟩
  refine q_iload dL_law_529 rfl ?_
  refine q_icmp_eq (tgt := 536) dL_law_531 (by decide) (fun z => ?_) (fun z => absurd hth z)
  refine q_iload dL_law_536 rfl ?_
  have kE : mW l G m_L_law 12 mc ms 3215 [some (.ref (sB G)), some (.ref x), some (.ref m), some (.ref o), some (.ref od), some (.int i), some (.int kk9), some (.int b), none] [] k2 Q X := r_fewer [some (.ref (sB G)), some (.ref x), some (.ref m), some (.ref o), some (.ref od), some (.int i), none, none, none] (ls_s (ls_s (ls_s (ls_s (ls_s (ls_s (ls_n (ls_n (ls_n ls_0))))))))) (kk _ hok hI)
  have kL : mW l G m_L_law 12 mc ms 553 [some (.ref (sB G)), some (.ref x), some (.ref m), some (.ref o), some (.ref od), some (.int i), some (.int kk9), some (.int b), none] [] k2 Q X := q_goto (tgt := 3215) dL_law_553 (by decide) kE
  refine q_if_ne (tgt := 553) dL_law_538 (by decide) (fun z => kL) (fun z2 => ?_)
  have h0 := heq z2
  dsimp only at h0
  refine q_aload_n dL_law_541 rfl ?_
  refine q_iconst dL_law_542 ?_
  refine q_laload dL_law_543 hok.2.2.1 (ix0 hok.2.2.2.1) ?_
  refine q_iload dL_law_544 rfl ?_
  refine q_i2l dL_law_546 ?_
  refine q_lcmp dL_law_547 ?_
  refine q_if_eq (tgt := 553) dL_law_548 (by decide) (fun _ => kL) (fun z3 => absurd ((lg_cmp_eq _ _).mpr h0) z3)
set_option maxRecDepth 100000 in
theorem k_4 {l : Launch} {G : mG} {Q : Option Value → mH → Prop} {X : String → mH → Prop} {x m o od mc ms : Nat} {i : Int32} {h : mH} {I' : mH → Prop} {a1 a2 a3 : Int32} (g1 : inb (i + Int32.ofInt 1) (sL G)) (g2 : inb (i + Int32.ofInt 2) (sL G)) (g3 : inb (i + Int32.ofInt 3) (sL G)) (ha1 : sX G (i + Int32.ofInt 1).toNatClampNeg = a1) (ha2 : sX G (i + Int32.ofInt 2).toNatClampNeg = a2) (ha3 : sX G (i + Int32.ofInt 3).toNatClampNeg = a3) (hk : kd h x = 16)
    (hop : opT x m o od I' (f_X11_remove x a1 h) (fun r k => sl k o 0 r.toInt64) [xI, xN] (fun k => f_X12_remove m a1 k) (fun b k => gl k o 0 = Int32.toInt64 b))
    (kk : ∀ h', hOK x m o od h' → I' h' → mW l G m_L_law 12 mc ms 3215 [some (.ref (sB G)), some (.ref x), some (.ref m), some (.ref o), some (.ref od), some (.int i), none, none, none] [] h' Q X) : mW l G m_L_law 12 (mc + 21) (ms + 2586) 556 [some (.ref (sB G)), some (.ref x), some (.ref m), some (.ref o), some (.ref od), some (.int i), none, none, none] [] h Q X := by
  subst ha1; subst ha2; subst ha3
  refine q_aload_n dL_law_556 rfl ?_
  refine q_aload_n dL_law_557 rfl ?_
  refine q_iload dL_law_558 rfl ?_
  refine q_iconst dL_law_560 ?_
  refine q_iadd dL_law_561 ?_
  refine q_sld dL_law_562 g1 ?_
  refine q_aload_n dL_law_563 rfl ?_
  obtain ⟨r, hE, hr, hx, hop⟩ := hop
  refine q_room (d' := 12) (mc' := 1 + mc) (ms' := 6 + ms) (Nat.le_refl _) (by omega) (by omega) ?_
  refine r_callSX1 dL_law_564 KX_194 (c_L_remove hE hk (fun _ _ q => by subst q; exact ⟨hr.2.2.1, hr.2.2.2.1⟩) hx) (by decide) (Nat.le_of_ble_eq_true rfl) rfl ?_
  intro v9 k9 hq
  obtain ⟨kk9, b, k2, rfl, hm, hfm, hok, hth, heq, hI⟩ := hop _ _ hq
  refine q_istore dL_law_567 (by decide) ?_
  refine q_aload_n dL_law_569 rfl ?_
  refine q_aload_n dL_law_570 rfl ?_
  refine q_iload dL_law_571 rfl ?_
  refine q_iconst dL_law_573 ?_
  refine q_iadd dL_law_574 ?_
  refine q_sld dL_law_575 g1 ?_
  refine q_room (d' := 12) (mc' := 0 + mc) (ms' := 0 + ms) (Nat.le_refl _) (by omega) (by omega) ?_
  refine r_callV1 (mc := mc) (ms := ms) (mc' := 0) (ms' := 0) dL_law_576 KL_196 (c_X12_remove hfm) hm (by decide) (Nat.le_of_ble_eq_true rfl) (fun _ _ q => q.elim) ?_
  rintro _ _ ⟨rfl, rfl⟩
  refine q_istore dL_law_579 (by decide) ?_
  refine q_aload_n dL_law_581 rfl ?_
  refine q_room (d' := 12) (mc' := 0 + mc) (ms' := 0 + ms) (Nat.le_refl _) (by omega) (by omega) ?_
  refine r_callV0 (mc := mc) (ms := ms) (mc' := 0) (ms' := 0) dL_law_582 KL_180 (c_X12_thrown (thrown_ok hok.2.1)) hok.2.1 (by decide) (Nat.le_of_ble_eq_true rfl) (fun _ _ q => q.elim) ?_
  rintro _ _ ⟨rfl, rfl⟩
  refine q_iload dL_law_585 rfl ?_
  refine q_icmp_eq (tgt := 592) dL_law_587 (by decide) (fun z => ?_) (fun z => absurd hth z)
  refine q_iload dL_law_592 rfl ?_
  have kE : mW l G m_L_law 12 mc ms 3215 [some (.ref (sB G)), some (.ref x), some (.ref m), some (.ref o), some (.ref od), some (.int i), some (.int kk9), some (.int b), none] [] k2 Q X := r_fewer [some (.ref (sB G)), some (.ref x), some (.ref m), some (.ref o), some (.ref od), some (.int i), none, none, none] (ls_s (ls_s (ls_s (ls_s (ls_s (ls_s (ls_n (ls_n (ls_n ls_0))))))))) (kk _ hok hI)
  have kL : mW l G m_L_law 12 mc ms 609 [some (.ref (sB G)), some (.ref x), some (.ref m), some (.ref o), some (.ref od), some (.int i), some (.int kk9), some (.int b), none] [] k2 Q X := q_goto (tgt := 3215) dL_law_609 (by decide) kE
  refine q_if_ne (tgt := 609) dL_law_594 (by decide) (fun z => kL) (fun z2 => ?_)
  have h0 := heq z2
  dsimp only at h0
  refine q_aload_n dL_law_597 rfl ?_
  refine q_iconst dL_law_598 ?_
  refine q_laload dL_law_599 hok.2.2.1 (ix0 hok.2.2.2.1) ?_
  refine q_iload dL_law_600 rfl ?_
  refine q_i2l dL_law_602 ?_
  refine q_lcmp dL_law_603 ?_
  refine q_if_eq (tgt := 609) dL_law_604 (by decide) (fun _ => kL) (fun z3 => absurd ((lg_cmp_eq _ _).mpr h0) z3)
set_option maxRecDepth 100000 in
theorem k_5 {l : Launch} {G : mG} {Q : Option Value → mH → Prop} {X : String → mH → Prop} {x m o od mc ms : Nat} {i : Int32} {h : mH} {I' : mH → Prop} {a1 a2 a3 : Int32} (g1 : inb (i + Int32.ofInt 1) (sL G)) (g2 : inb (i + Int32.ofInt 2) (sL G)) (g3 : inb (i + Int32.ofInt 3) (sL G)) (ha1 : sX G (i + Int32.ofInt 1).toNatClampNeg = a1) (ha2 : sX G (i + Int32.ofInt 2).toNatClampNeg = a2) (ha3 : sX G (i + Int32.ofInt 3).toNatClampNeg = a3) (hk : kd h x = 16)
    (hop : opT x m o od I' (f_X11_addWord x h) (fun r k => sl k o 0 r.toInt64) [xA, xS] (fun k => f_X12_addWord m k) (fun b k => gl k o 0 = Int32.toInt64 b))
    (kk : ∀ h', hOK x m o od h' → I' h' → mW l G m_L_law 12 mc ms 3215 [some (.ref (sB G)), some (.ref x), some (.ref m), some (.ref o), some (.ref od), some (.int i), none, none, none] [] h' Q X) : mW l G m_L_law 12 (mc + 21) (ms + 2586) 612 [some (.ref (sB G)), some (.ref x), some (.ref m), some (.ref o), some (.ref od), some (.int i), none, none, none] [] h Q X := by
  subst ha1; subst ha2; subst ha3
  refine q_aload_n dL_law_612 rfl ?_
  refine q_aload_n dL_law_613 rfl ?_
  obtain ⟨r, hE, hr, hx, hop⟩ := hop
  refine q_room (d' := 12) (mc' := 3 + mc) (ms' := 262 + ms) (Nat.le_refl _) (by omega) (by omega) ?_
  refine r_callSX0 dL_law_614 KX_197 (c_L_addWord hE hk (fun _ _ q => by subst q; exact ⟨hr.2.2.1, hr.2.2.2.1⟩) hx) (by decide) (Nat.le_of_ble_eq_true rfl) rfl ?_
  intro v9 k9 hq
  obtain ⟨kk9, b, k2, rfl, hm, hfm, hok, hth, heq, hI⟩ := hop _ _ hq
  refine q_istore dL_law_617 (by decide) ?_
  refine q_aload_n dL_law_619 rfl ?_
  refine q_room (d' := 12) (mc' := 0 + mc) (ms' := 0 + ms) (Nat.le_refl _) (by omega) (by omega) ?_
  refine r_callV0 (mc := mc) (ms := ms) (mc' := 0) (ms' := 0) dL_law_620 KL_200 (c_X12_addWord hfm) hm (by decide) (Nat.le_of_ble_eq_true rfl) (fun _ _ q => q.elim) ?_
  rintro _ _ ⟨rfl, rfl⟩
  refine q_istore dL_law_623 (by decide) ?_
  refine q_aload_n dL_law_625 rfl ?_
  refine q_room (d' := 12) (mc' := 0 + mc) (ms' := 0 + ms) (Nat.le_refl _) (by omega) (by omega) ?_
  refine r_callV0 (mc := mc) (ms := ms) (mc' := 0) (ms' := 0) dL_law_626 KL_180 (c_X12_thrown (thrown_ok hok.2.1)) hok.2.1 (by decide) (Nat.le_of_ble_eq_true rfl) (fun _ _ q => q.elim) ?_
  rintro _ _ ⟨rfl, rfl⟩
  refine q_iload dL_law_629 rfl ?_
  refine q_icmp_eq (tgt := 636) dL_law_631 (by decide) (fun z => ?_) (fun z => absurd hth z)
  refine q_iload dL_law_636 rfl ?_
  have kE : mW l G m_L_law 12 mc ms 3215 [some (.ref (sB G)), some (.ref x), some (.ref m), some (.ref o), some (.ref od), some (.int i), some (.int kk9), some (.int b), none] [] k2 Q X := r_fewer [some (.ref (sB G)), some (.ref x), some (.ref m), some (.ref o), some (.ref od), some (.int i), none, none, none] (ls_s (ls_s (ls_s (ls_s (ls_s (ls_s (ls_n (ls_n (ls_n ls_0))))))))) (kk _ hok hI)
  have kL : mW l G m_L_law 12 mc ms 653 [some (.ref (sB G)), some (.ref x), some (.ref m), some (.ref o), some (.ref od), some (.int i), some (.int kk9), some (.int b), none] [] k2 Q X := q_goto (tgt := 3215) dL_law_653 (by decide) kE
  refine q_if_ne (tgt := 653) dL_law_638 (by decide) (fun z => kL) (fun z2 => ?_)
  have h0 := heq z2
  dsimp only at h0
  refine q_aload_n dL_law_641 rfl ?_
  refine q_iconst dL_law_642 ?_
  refine q_laload dL_law_643 hok.2.2.1 (ix0 hok.2.2.2.1) ?_
  refine q_iload dL_law_644 rfl ?_
  refine q_i2l dL_law_646 ?_
  refine q_lcmp dL_law_647 ?_
  refine q_if_eq (tgt := 653) dL_law_648 (by decide) (fun _ => kL) (fun z3 => absurd ((lg_cmp_eq _ _).mpr h0) z3)
set_option maxRecDepth 100000 in
theorem k_6 {l : Launch} {G : mG} {Q : Option Value → mH → Prop} {X : String → mH → Prop} {x m o od mc ms : Nat} {i : Int32} {h : mH} {I' : mH → Prop} {a1 a2 a3 : Int32} (g1 : inb (i + Int32.ofInt 1) (sL G)) (g2 : inb (i + Int32.ofInt 2) (sL G)) (g3 : inb (i + Int32.ofInt 3) (sL G)) (ha1 : sX G (i + Int32.ofInt 1).toNatClampNeg = a1) (ha2 : sX G (i + Int32.ofInt 2).toNatClampNeg = a2) (ha3 : sX G (i + Int32.ofInt 3).toNatClampNeg = a3) (hk : kd h x = 16)
    (hop : opT x m o od I' (f_X11_removeWord x a1 h) (fun r k => sl k o 0 r.toInt64) [xI] (fun k => f_X12_removeWord m a1 k) (fun b k => gl k o 0 = Int32.toInt64 b))
    (kk : ∀ h', hOK x m o od h' → I' h' → mW l G m_L_law 12 mc ms 3215 [some (.ref (sB G)), some (.ref x), some (.ref m), some (.ref o), some (.ref od), some (.int i), none, none, none] [] h' Q X) : mW l G m_L_law 12 (mc + 21) (ms + 2586) 656 [some (.ref (sB G)), some (.ref x), some (.ref m), some (.ref o), some (.ref od), some (.int i), none, none, none] [] h Q X := by
  subst ha1; subst ha2; subst ha3
  refine q_aload_n dL_law_656 rfl ?_
  refine q_aload_n dL_law_657 rfl ?_
  refine q_iload dL_law_658 rfl ?_
  refine q_iconst dL_law_660 ?_
  refine q_iadd dL_law_661 ?_
  refine q_sld dL_law_662 g1 ?_
  refine q_aload_n dL_law_663 rfl ?_
  obtain ⟨r, hE, hr, hx, hop⟩ := hop
  refine q_room (d' := 12) (mc' := 1 + mc) (ms' := 6 + ms) (Nat.le_refl _) (by omega) (by omega) ?_
  refine r_callSX1 dL_law_664 KX_201 (c_L_removeWord hE hk (fun _ _ q => by subst q; exact ⟨hr.2.2.1, hr.2.2.2.1⟩) hx) (by decide) (Nat.le_of_ble_eq_true rfl) rfl ?_
  intro v9 k9 hq
  obtain ⟨kk9, b, k2, rfl, hm, hfm, hok, hth, heq, hI⟩ := hop _ _ hq
  refine q_istore dL_law_667 (by decide) ?_
  refine q_aload_n dL_law_669 rfl ?_
  refine q_aload_n dL_law_670 rfl ?_
  refine q_iload dL_law_671 rfl ?_
  refine q_iconst dL_law_673 ?_
  refine q_iadd dL_law_674 ?_
  refine q_sld dL_law_675 g1 ?_
  refine q_room (d' := 12) (mc' := 0 + mc) (ms' := 0 + ms) (Nat.le_refl _) (by omega) (by omega) ?_
  refine r_callV1 (mc := mc) (ms := ms) (mc' := 0) (ms' := 0) dL_law_676 KL_203 (c_X12_removeWord hfm) hm (by decide) (Nat.le_of_ble_eq_true rfl) (fun _ _ q => q.elim) ?_
  rintro _ _ ⟨rfl, rfl⟩
  refine q_istore dL_law_679 (by decide) ?_
  refine q_aload_n dL_law_681 rfl ?_
  refine q_room (d' := 12) (mc' := 0 + mc) (ms' := 0 + ms) (Nat.le_refl _) (by omega) (by omega) ?_
  refine r_callV0 (mc := mc) (ms := ms) (mc' := 0) (ms' := 0) dL_law_682 KL_180 (c_X12_thrown (thrown_ok hok.2.1)) hok.2.1 (by decide) (Nat.le_of_ble_eq_true rfl) (fun _ _ q => q.elim) ?_
  rintro _ _ ⟨rfl, rfl⟩
  refine q_iload dL_law_685 rfl ?_
  refine q_icmp_eq (tgt := 692) dL_law_687 (by decide) (fun z => ?_) (fun z => absurd hth z)
  refine q_iload dL_law_692 rfl ?_
  have kE : mW l G m_L_law 12 mc ms 3215 [some (.ref (sB G)), some (.ref x), some (.ref m), some (.ref o), some (.ref od), some (.int i), some (.int kk9), some (.int b), none] [] k2 Q X := r_fewer [some (.ref (sB G)), some (.ref x), some (.ref m), some (.ref o), some (.ref od), some (.int i), none, none, none] (ls_s (ls_s (ls_s (ls_s (ls_s (ls_s (ls_n (ls_n (ls_n ls_0))))))))) (kk _ hok hI)
  have kL : mW l G m_L_law 12 mc ms 709 [some (.ref (sB G)), some (.ref x), some (.ref m), some (.ref o), some (.ref od), some (.int i), some (.int kk9), some (.int b), none] [] k2 Q X := q_goto (tgt := 3215) dL_law_709 (by decide) kE
  refine q_if_ne (tgt := 709) dL_law_694 (by decide) (fun z => kL) (fun z2 => ?_)
  have h0 := heq z2
  dsimp only at h0
  refine q_aload_n dL_law_697 rfl ?_
  refine q_iconst dL_law_698 ?_
  refine q_laload dL_law_699 hok.2.2.1 (ix0 hok.2.2.2.1) ?_
  refine q_iload dL_law_700 rfl ?_
  refine q_i2l dL_law_702 ?_
  refine q_lcmp dL_law_703 ?_
  refine q_if_eq (tgt := 709) dL_law_704 (by decide) (fun _ => kL) (fun z3 => absurd ((lg_cmp_eq _ _).mpr h0) z3)
set_option maxRecDepth 100000 in
theorem k_7 {l : Launch} {G : mG} {Q : Option Value → mH → Prop} {X : String → mH → Prop} {x m o od mc ms : Nat} {i : Int32} {h : mH} {I' : mH → Prop} {a1 a2 a3 : Int32} (g1 : inb (i + Int32.ofInt 1) (sL G)) (g2 : inb (i + Int32.ofInt 2) (sL G)) (g3 : inb (i + Int32.ofInt 3) (sL G)) (ha1 : sX G (i + Int32.ofInt 1).toNatClampNeg = a1) (ha2 : sX G (i + Int32.ofInt 2).toNatClampNeg = a2) (ha3 : sX G (i + Int32.ofInt 3).toNatClampNeg = a3) (hk : kd h x = 16)
    (hop : opN x m o od I' (f_X11_patternCount x h) (fun k => f_X12_patternCount m k))
    (kk : ∀ h', hOK x m o od h' → I' h' → mW l G m_L_law 12 mc ms 3215 [some (.ref (sB G)), some (.ref x), some (.ref m), some (.ref o), some (.ref od), some (.int i), none, none, none] [] h' Q X) : mW l G m_L_law 12 (mc + 21) (ms + 2586) 712 [some (.ref (sB G)), some (.ref x), some (.ref m), some (.ref o), some (.ref od), some (.int i), none, none, none] [] h Q X := by
  subst ha1; subst ha2; subst ha3
  refine q_aload_n dL_law_712 rfl ?_
  obtain ⟨b, k1, k2, hE, hm, hfm, hok, hI⟩ := hop
  refine q_room (d' := 12) (mc' := 0 + mc) (ms' := 0 + ms) (Nat.le_refl _) (by omega) (by omega) ?_
  refine r_callV0 dL_law_713 KL_204 (c_X11_patternCount hE) hk (by decide) (Nat.le_of_ble_eq_true rfl) (fun _ _ q => q.elim) ?_
  rintro _ _ ⟨rfl, rfl⟩
  refine q_aload_n dL_law_716 rfl ?_
  refine q_room (d' := 12) (mc' := 0 + mc) (ms' := 0 + ms) (Nat.le_refl _) (by omega) (by omega) ?_
  refine r_callV0 (mc := mc) (ms := ms) (mc' := 0) (ms' := 0) dL_law_717 KL_207 (c_X12_patternCount hfm) hm (by decide) (Nat.le_of_ble_eq_true rfl) (fun _ _ q => q.elim) ?_
  rintro _ _ ⟨rfl, rfl⟩
  refine q_icmp_eq (tgt := 3215) dL_law_720 (by decide) (fun z => ?_) (fun z => absurd rfl z)
  exact kk _ hok hI
set_option maxRecDepth 100000 in
theorem k_8 {l : Launch} {G : mG} {Q : Option Value → mH → Prop} {X : String → mH → Prop} {x m o od mc ms : Nat} {i : Int32} {h : mH} {I' : mH → Prop} {a1 a2 a3 : Int32} (g1 : inb (i + Int32.ofInt 1) (sL G)) (g2 : inb (i + Int32.ofInt 2) (sL G)) (g3 : inb (i + Int32.ofInt 3) (sL G)) (ha1 : sX G (i + Int32.ofInt 1).toNatClampNeg = a1) (ha2 : sX G (i + Int32.ofInt 2).toNatClampNeg = a2) (ha3 : sX G (i + Int32.ofInt 3).toNatClampNeg = a3) (hk : kd h x = 16)
    (hop : opT x m o od I' (f_X11_hasPattern x a1 h) (fun r k => sl k o 0 (if r = 0 then Int64.ofNat 0 else Int64.ofNat 1)) [xI] (fun k => f_X12_hasPattern m a1 k) (fun b k => gl k o 0 = if b = 0 then Int64.ofNat 0 else Int64.ofNat 1))
    (kk : ∀ h', hOK x m o od h' → I' h' → mW l G m_L_law 12 mc ms 3215 [some (.ref (sB G)), some (.ref x), some (.ref m), some (.ref o), some (.ref od), some (.int i), none, none, none] [] h' Q X) : mW l G m_L_law 12 (mc + 21) (ms + 2586) 725 [some (.ref (sB G)), some (.ref x), some (.ref m), some (.ref o), some (.ref od), some (.int i), none, none, none] [] h Q X := by
  subst ha1; subst ha2; subst ha3
  refine q_aload_n dL_law_725 rfl ?_
  refine q_aload_n dL_law_726 rfl ?_
  refine q_iload dL_law_727 rfl ?_
  refine q_iconst dL_law_729 ?_
  refine q_iadd dL_law_730 ?_
  refine q_sld dL_law_731 g1 ?_
  refine q_aload_n dL_law_732 rfl ?_
  obtain ⟨r, hE, hr, hx, hop⟩ := hop
  refine q_room (d' := 12) (mc' := 1 + mc) (ms' := 6 + ms) (Nat.le_refl _) (by omega) (by omega) ?_
  refine r_callSX1 dL_law_733 KX_208 (c_L_hasPattern hE hk (fun _ _ q => by subst q; exact ⟨hr.2.2.1, hr.2.2.2.1⟩) hx) (by decide) (Nat.le_of_ble_eq_true rfl) rfl ?_
  intro v9 k9 hq
  obtain ⟨kk9, b, k2, rfl, hm, hfm, hok, hth, heq, hI⟩ := hop _ _ hq
  refine q_istore dL_law_736 (by decide) ?_
  refine q_aload_n dL_law_738 rfl ?_
  refine q_aload_n dL_law_739 rfl ?_
  refine q_iload dL_law_740 rfl ?_
  refine q_iconst dL_law_742 ?_
  refine q_iadd dL_law_743 ?_
  refine q_sld dL_law_744 g1 ?_
  refine q_room (d' := 12) (mc' := 0 + mc) (ms' := 0 + ms) (Nat.le_refl _) (by omega) (by omega) ?_
  refine r_callV1 (mc := mc) (ms := ms) (mc' := 0) (ms' := 0) dL_law_745 KL_210 (c_X12_hasPattern hfm) hm (by decide) (Nat.le_of_ble_eq_true rfl) (fun _ _ q => q.elim) ?_
  rintro _ _ ⟨rfl, rfl⟩
  refine q_istore dL_law_748 (by decide) ?_
  refine q_aload_n dL_law_750 rfl ?_
  refine q_room (d' := 12) (mc' := 0 + mc) (ms' := 0 + ms) (Nat.le_refl _) (by omega) (by omega) ?_
  refine r_callV0 (mc := mc) (ms := ms) (mc' := 0) (ms' := 0) dL_law_751 KL_180 (c_X12_thrown (thrown_ok hok.2.1)) hok.2.1 (by decide) (Nat.le_of_ble_eq_true rfl) (fun _ _ q => q.elim) ?_
  rintro _ _ ⟨rfl, rfl⟩
  refine q_iload dL_law_754 rfl ?_
  refine q_icmp_eq (tgt := 761) dL_law_756 (by decide) (fun z => ?_) (fun z => absurd hth z)
  refine q_iload dL_law_761 rfl ?_
  have kE : mW l G m_L_law 12 mc ms 3215 [some (.ref (sB G)), some (.ref x), some (.ref m), some (.ref o), some (.ref od), some (.int i), some (.int kk9), some (.int b), none] [] k2 Q X := r_fewer [some (.ref (sB G)), some (.ref x), some (.ref m), some (.ref o), some (.ref od), some (.int i), none, none, none] (ls_s (ls_s (ls_s (ls_s (ls_s (ls_s (ls_n (ls_n (ls_n ls_0))))))))) (kk _ hok hI)
  have kL : mW l G m_L_law 12 mc ms 785 [some (.ref (sB G)), some (.ref x), some (.ref m), some (.ref o), some (.ref od), some (.int i), some (.int kk9), some (.int b), none] [] k2 Q X := q_goto (tgt := 3215) dL_law_785 (by decide) kE
  refine q_if_ne (tgt := 785) dL_law_763 (by decide) (fun z => kL) (fun z2 => ?_)
  have h0 := heq z2
  dsimp only at h0
  refine q_aload_n dL_law_766 rfl ?_
  refine q_iconst dL_law_767 ?_
  refine q_laload dL_law_768 hok.2.2.1 (ix0 hok.2.2.2.1) ?_
  refine q_iload dL_law_769 rfl ?_
  refine q_if_eq (tgt := 778) dL_law_771 (by decide) (fun z4 => ?_) (fun z4 => ?_)
  · rw [if_pos z4] at h0
    refine q_lconst dL_law_778 ?_
    refine q_lcmp dL_law_779 ?_
    refine q_if_eq (tgt := 785) dL_law_780 (by decide) (fun _ => kL) (fun z3 => absurd ((lg_cmp_eq _ _).mpr h0) z3)
  · rw [if_neg z4] at h0
    refine q_lconst dL_law_774 ?_
    refine q_goto (tgt := 779) dL_law_775 (by decide) ?_
    refine q_lcmp dL_law_779 ?_
    refine q_if_eq (tgt := 785) dL_law_780 (by decide) (fun _ => kL) (fun z3 => absurd ((lg_cmp_eq _ _).mpr h0) z3)
set_option maxRecDepth 100000 in
theorem k_9 {l : Launch} {G : mG} {Q : Option Value → mH → Prop} {X : String → mH → Prop} {x m o od mc ms : Nat} {i : Int32} {h : mH} {I' : mH → Prop} {a1 a2 a3 : Int32} (g1 : inb (i + Int32.ofInt 1) (sL G)) (g2 : inb (i + Int32.ofInt 2) (sL G)) (g3 : inb (i + Int32.ofInt 3) (sL G)) (ha1 : sX G (i + Int32.ofInt 1).toNatClampNeg = a1) (ha2 : sX G (i + Int32.ofInt 2).toNatClampNeg = a2) (ha3 : sX G (i + Int32.ofInt 3).toNatClampNeg = a3) (hk : kd h x = 16)
    (hop : opT x m o od I' (f_X11_letterCount x a1 h) (fun r k => sl k o 0 r.toInt64) [xN] (fun k => f_X12_letterCount m a1 k) (fun b k => gl k o 0 = Int32.toInt64 b))
    (kk : ∀ h', hOK x m o od h' → I' h' → mW l G m_L_law 12 mc ms 3215 [some (.ref (sB G)), some (.ref x), some (.ref m), some (.ref o), some (.ref od), some (.int i), none, none, none] [] h' Q X) : mW l G m_L_law 12 (mc + 21) (ms + 2586) 788 [some (.ref (sB G)), some (.ref x), some (.ref m), some (.ref o), some (.ref od), some (.int i), none, none, none] [] h Q X := by
  subst ha1; subst ha2; subst ha3
  refine q_aload_n dL_law_788 rfl ?_
  refine q_aload_n dL_law_789 rfl ?_
  refine q_iload dL_law_790 rfl ?_
  refine q_iconst dL_law_792 ?_
  refine q_iadd dL_law_793 ?_
  refine q_sld dL_law_794 g1 ?_
  refine q_aload_n dL_law_795 rfl ?_
  obtain ⟨r, hE, hr, hx, hop⟩ := hop
  refine q_room (d' := 12) (mc' := 1 + mc) (ms' := 6 + ms) (Nat.le_refl _) (by omega) (by omega) ?_
  refine r_callSX1 dL_law_796 KX_211 (c_L_letterCount hE hk (fun _ _ q => by subst q; exact ⟨hr.2.2.1, hr.2.2.2.1⟩) hx) (by decide) (Nat.le_of_ble_eq_true rfl) rfl ?_
  intro v9 k9 hq
  obtain ⟨kk9, b, k2, rfl, hm, hfm, hok, hth, heq, hI⟩ := hop _ _ hq
  refine q_istore dL_law_799 (by decide) ?_
  refine q_aload_n dL_law_801 rfl ?_
  refine q_aload_n dL_law_802 rfl ?_
  refine q_iload dL_law_803 rfl ?_
  refine q_iconst dL_law_805 ?_
  refine q_iadd dL_law_806 ?_
  refine q_sld dL_law_807 g1 ?_
  refine q_room (d' := 12) (mc' := 0 + mc) (ms' := 0 + ms) (Nat.le_refl _) (by omega) (by omega) ?_
  refine r_callV1 (mc := mc) (ms := ms) (mc' := 0) (ms' := 0) dL_law_808 KL_213 (c_X12_letterCount hfm) hm (by decide) (Nat.le_of_ble_eq_true rfl) (fun _ _ q => q.elim) ?_
  rintro _ _ ⟨rfl, rfl⟩
  refine q_istore dL_law_811 (by decide) ?_
  refine q_aload_n dL_law_813 rfl ?_
  refine q_room (d' := 12) (mc' := 0 + mc) (ms' := 0 + ms) (Nat.le_refl _) (by omega) (by omega) ?_
  refine r_callV0 (mc := mc) (ms := ms) (mc' := 0) (ms' := 0) dL_law_814 KL_180 (c_X12_thrown (thrown_ok hok.2.1)) hok.2.1 (by decide) (Nat.le_of_ble_eq_true rfl) (fun _ _ q => q.elim) ?_
  rintro _ _ ⟨rfl, rfl⟩
  refine q_iload dL_law_817 rfl ?_
  refine q_icmp_eq (tgt := 824) dL_law_819 (by decide) (fun z => ?_) (fun z => absurd hth z)
  refine q_iload dL_law_824 rfl ?_
  have kE : mW l G m_L_law 12 mc ms 3215 [some (.ref (sB G)), some (.ref x), some (.ref m), some (.ref o), some (.ref od), some (.int i), some (.int kk9), some (.int b), none] [] k2 Q X := r_fewer [some (.ref (sB G)), some (.ref x), some (.ref m), some (.ref o), some (.ref od), some (.int i), none, none, none] (ls_s (ls_s (ls_s (ls_s (ls_s (ls_s (ls_n (ls_n (ls_n ls_0))))))))) (kk _ hok hI)
  have kL : mW l G m_L_law 12 mc ms 841 [some (.ref (sB G)), some (.ref x), some (.ref m), some (.ref o), some (.ref od), some (.int i), some (.int kk9), some (.int b), none] [] k2 Q X := q_goto (tgt := 3215) dL_law_841 (by decide) kE
  refine q_if_ne (tgt := 841) dL_law_826 (by decide) (fun z => kL) (fun z2 => ?_)
  have h0 := heq z2
  dsimp only at h0
  refine q_aload_n dL_law_829 rfl ?_
  refine q_iconst dL_law_830 ?_
  refine q_laload dL_law_831 hok.2.2.1 (ix0 hok.2.2.2.1) ?_
  refine q_iload dL_law_832 rfl ?_
  refine q_i2l dL_law_834 ?_
  refine q_lcmp dL_law_835 ?_
  refine q_if_eq (tgt := 841) dL_law_836 (by decide) (fun _ => kL) (fun z3 => absurd ((lg_cmp_eq _ _).mpr h0) z3)
set_option maxRecDepth 100000 in
theorem k_10 {l : Launch} {G : mG} {Q : Option Value → mH → Prop} {X : String → mH → Prop} {x m o od mc ms : Nat} {i : Int32} {h : mH} {I' : mH → Prop} {a1 a2 a3 : Int32} (g1 : inb (i + Int32.ofInt 1) (sL G)) (g2 : inb (i + Int32.ofInt 2) (sL G)) (g3 : inb (i + Int32.ofInt 3) (sL G)) (ha1 : sX G (i + Int32.ofInt 1).toNatClampNeg = a1) (ha2 : sX G (i + Int32.ofInt 2).toNatClampNeg = a2) (ha3 : sX G (i + Int32.ofInt 3).toNatClampNeg = a3) (hk : kd h x = 16)
    (hop : opT x m o od I' (f_X11_acceptsEmpty x a1 h) (fun r k => sl k o 0 (if r = 0 then Int64.ofNat 0 else Int64.ofNat 1)) [xN] (fun k => f_X12_acceptsEmpty m a1 k) (fun b k => gl k o 0 = if b = 0 then Int64.ofNat 0 else Int64.ofNat 1))
    (kk : ∀ h', hOK x m o od h' → I' h' → mW l G m_L_law 12 mc ms 3215 [some (.ref (sB G)), some (.ref x), some (.ref m), some (.ref o), some (.ref od), some (.int i), none, none, none] [] h' Q X) : mW l G m_L_law 12 (mc + 21) (ms + 2586) 844 [some (.ref (sB G)), some (.ref x), some (.ref m), some (.ref o), some (.ref od), some (.int i), none, none, none] [] h Q X := by
  subst ha1; subst ha2; subst ha3
  refine q_aload_n dL_law_844 rfl ?_
  refine q_aload_n dL_law_845 rfl ?_
  refine q_iload dL_law_846 rfl ?_
  refine q_iconst dL_law_848 ?_
  refine q_iadd dL_law_849 ?_
  refine q_sld dL_law_850 g1 ?_
  refine q_aload_n dL_law_851 rfl ?_
  obtain ⟨r, hE, hr, hx, hop⟩ := hop
  refine q_room (d' := 12) (mc' := 1 + mc) (ms' := 6 + ms) (Nat.le_refl _) (by omega) (by omega) ?_
  refine r_callSX1 dL_law_852 KX_214 (c_L_acceptsEmpty hE hk (fun _ _ q => by subst q; exact ⟨hr.2.2.1, hr.2.2.2.1⟩) hx) (by decide) (Nat.le_of_ble_eq_true rfl) rfl ?_
  intro v9 k9 hq
  obtain ⟨kk9, b, k2, rfl, hm, hfm, hok, hth, heq, hI⟩ := hop _ _ hq
  refine q_istore dL_law_855 (by decide) ?_
  refine q_aload_n dL_law_857 rfl ?_
  refine q_aload_n dL_law_858 rfl ?_
  refine q_iload dL_law_859 rfl ?_
  refine q_iconst dL_law_861 ?_
  refine q_iadd dL_law_862 ?_
  refine q_sld dL_law_863 g1 ?_
  refine q_room (d' := 12) (mc' := 0 + mc) (ms' := 0 + ms) (Nat.le_refl _) (by omega) (by omega) ?_
  refine r_callV1 (mc := mc) (ms := ms) (mc' := 0) (ms' := 0) dL_law_864 KL_216 (c_X12_acceptsEmpty hfm) hm (by decide) (Nat.le_of_ble_eq_true rfl) (fun _ _ q => q.elim) ?_
  rintro _ _ ⟨rfl, rfl⟩
  refine q_istore dL_law_867 (by decide) ?_
  refine q_aload_n dL_law_869 rfl ?_
  refine q_room (d' := 12) (mc' := 0 + mc) (ms' := 0 + ms) (Nat.le_refl _) (by omega) (by omega) ?_
  refine r_callV0 (mc := mc) (ms := ms) (mc' := 0) (ms' := 0) dL_law_870 KL_180 (c_X12_thrown (thrown_ok hok.2.1)) hok.2.1 (by decide) (Nat.le_of_ble_eq_true rfl) (fun _ _ q => q.elim) ?_
  rintro _ _ ⟨rfl, rfl⟩
  refine q_iload dL_law_873 rfl ?_
  refine q_icmp_eq (tgt := 880) dL_law_875 (by decide) (fun z => ?_) (fun z => absurd hth z)
  refine q_iload dL_law_880 rfl ?_
  have kE : mW l G m_L_law 12 mc ms 3215 [some (.ref (sB G)), some (.ref x), some (.ref m), some (.ref o), some (.ref od), some (.int i), some (.int kk9), some (.int b), none] [] k2 Q X := r_fewer [some (.ref (sB G)), some (.ref x), some (.ref m), some (.ref o), some (.ref od), some (.int i), none, none, none] (ls_s (ls_s (ls_s (ls_s (ls_s (ls_s (ls_n (ls_n (ls_n ls_0))))))))) (kk _ hok hI)
  have kL : mW l G m_L_law 12 mc ms 904 [some (.ref (sB G)), some (.ref x), some (.ref m), some (.ref o), some (.ref od), some (.int i), some (.int kk9), some (.int b), none] [] k2 Q X := q_goto (tgt := 3215) dL_law_904 (by decide) kE
  refine q_if_ne (tgt := 904) dL_law_882 (by decide) (fun z => kL) (fun z2 => ?_)
  have h0 := heq z2
  dsimp only at h0
  refine q_aload_n dL_law_885 rfl ?_
  refine q_iconst dL_law_886 ?_
  refine q_laload dL_law_887 hok.2.2.1 (ix0 hok.2.2.2.1) ?_
  refine q_iload dL_law_888 rfl ?_
  refine q_if_eq (tgt := 897) dL_law_890 (by decide) (fun z4 => ?_) (fun z4 => ?_)
  · rw [if_pos z4] at h0
    refine q_lconst dL_law_897 ?_
    refine q_lcmp dL_law_898 ?_
    refine q_if_eq (tgt := 904) dL_law_899 (by decide) (fun _ => kL) (fun z3 => absurd ((lg_cmp_eq _ _).mpr h0) z3)
  · rw [if_neg z4] at h0
    refine q_lconst dL_law_893 ?_
    refine q_goto (tgt := 898) dL_law_894 (by decide) ?_
    refine q_lcmp dL_law_898 ?_
    refine q_if_eq (tgt := 904) dL_law_899 (by decide) (fun _ => kL) (fun z3 => absurd ((lg_cmp_eq _ _).mpr h0) z3)
set_option maxRecDepth 100000 in
theorem k_11 {l : Launch} {G : mG} {Q : Option Value → mH → Prop} {X : String → mH → Prop} {x m o od mc ms : Nat} {i : Int32} {h : mH} {I' : mH → Prop} {a1 a2 a3 : Int32} (g1 : inb (i + Int32.ofInt 1) (sL G)) (g2 : inb (i + Int32.ofInt 2) (sL G)) (g3 : inb (i + Int32.ofInt 3) (sL G)) (ha1 : sX G (i + Int32.ofInt 1).toNatClampNeg = a1) (ha2 : sX G (i + Int32.ofInt 2).toNatClampNeg = a2) (ha3 : sX G (i + Int32.ofInt 3).toNatClampNeg = a3) (hk : kd h x = 16)
    (hop : opT x m o od I' (f_X11_canBegin x a1 (chr a2) h) (fun r k => sl k o 0 (if r = 0 then Int64.ofNat 0 else Int64.ofNat 1)) [xN, xA] (fun k => f_X12_canBegin m a1 (chr a2) k) (fun b k => gl k o 0 = if b = 0 then Int64.ofNat 0 else Int64.ofNat 1))
    (kk : ∀ h', hOK x m o od h' → I' h' → mW l G m_L_law 12 mc ms 3215 [some (.ref (sB G)), some (.ref x), some (.ref m), some (.ref o), some (.ref od), some (.int i), none, none, none] [] h' Q X) : mW l G m_L_law 12 (mc + 21) (ms + 2586) 907 [some (.ref (sB G)), some (.ref x), some (.ref m), some (.ref o), some (.ref od), some (.int i), none, none, none] [] h Q X := by
  subst ha1; subst ha2; subst ha3
  refine q_aload_n dL_law_907 rfl ?_
  refine q_aload_n dL_law_908 rfl ?_
  refine q_iload dL_law_909 rfl ?_
  refine q_iconst dL_law_911 ?_
  refine q_iadd dL_law_912 ?_
  refine q_sld dL_law_913 g1 ?_
  refine q_aload_n dL_law_914 rfl ?_
  refine q_iload dL_law_915 rfl ?_
  refine q_iconst dL_law_917 ?_
  refine q_iadd dL_law_918 ?_
  refine q_sld dL_law_919 g2 ?_
  refine q_i2c dL_law_920 ?_
  refine q_aload_n dL_law_921 rfl ?_
  obtain ⟨r, hE, hr, hx, hop⟩ := hop
  refine q_room (d' := 12) (mc' := 2 + mc) (ms' := 12 + ms) (Nat.le_refl _) (by omega) (by omega) ?_
  refine r_callSX2 dL_law_922 KX_217 (c_L_canBegin hE hk (fun _ _ q => by subst q; exact ⟨hr.2.2.1, hr.2.2.2.1⟩) hx) (by decide) (Nat.le_of_ble_eq_true rfl) rfl ?_
  intro v9 k9 hq
  obtain ⟨kk9, b, k2, rfl, hm, hfm, hok, hth, heq, hI⟩ := hop _ _ hq
  refine q_istore dL_law_925 (by decide) ?_
  refine q_aload_n dL_law_927 rfl ?_
  refine q_aload_n dL_law_928 rfl ?_
  refine q_iload dL_law_929 rfl ?_
  refine q_iconst dL_law_931 ?_
  refine q_iadd dL_law_932 ?_
  refine q_sld dL_law_933 g1 ?_
  refine q_aload_n dL_law_934 rfl ?_
  refine q_iload dL_law_935 rfl ?_
  refine q_iconst dL_law_937 ?_
  refine q_iadd dL_law_938 ?_
  refine q_sld dL_law_939 g2 ?_
  refine q_i2c dL_law_940 ?_
  refine q_room (d' := 12) (mc' := 0 + mc) (ms' := 0 + ms) (Nat.le_refl _) (by omega) (by omega) ?_
  refine r_callV2 (mc := mc) (ms := ms) (mc' := 0) (ms' := 0) dL_law_941 KL_220 (c_X12_canBegin hfm) hm (by decide) (Nat.le_of_ble_eq_true rfl) (fun _ _ q => q.elim) ?_
  rintro _ _ ⟨rfl, rfl⟩
  refine q_istore dL_law_944 (by decide) ?_
  refine q_aload_n dL_law_946 rfl ?_
  refine q_room (d' := 12) (mc' := 0 + mc) (ms' := 0 + ms) (Nat.le_refl _) (by omega) (by omega) ?_
  refine r_callV0 (mc := mc) (ms := ms) (mc' := 0) (ms' := 0) dL_law_947 KL_180 (c_X12_thrown (thrown_ok hok.2.1)) hok.2.1 (by decide) (Nat.le_of_ble_eq_true rfl) (fun _ _ q => q.elim) ?_
  rintro _ _ ⟨rfl, rfl⟩
  refine q_iload dL_law_950 rfl ?_
  refine q_icmp_eq (tgt := 957) dL_law_952 (by decide) (fun z => ?_) (fun z => absurd hth z)
  refine q_iload dL_law_957 rfl ?_
  have kE : mW l G m_L_law 12 mc ms 3215 [some (.ref (sB G)), some (.ref x), some (.ref m), some (.ref o), some (.ref od), some (.int i), some (.int kk9), some (.int b), none] [] k2 Q X := r_fewer [some (.ref (sB G)), some (.ref x), some (.ref m), some (.ref o), some (.ref od), some (.int i), none, none, none] (ls_s (ls_s (ls_s (ls_s (ls_s (ls_s (ls_n (ls_n (ls_n ls_0))))))))) (kk _ hok hI)
  have kL : mW l G m_L_law 12 mc ms 981 [some (.ref (sB G)), some (.ref x), some (.ref m), some (.ref o), some (.ref od), some (.int i), some (.int kk9), some (.int b), none] [] k2 Q X := q_goto (tgt := 3215) dL_law_981 (by decide) kE
  refine q_if_ne (tgt := 981) dL_law_959 (by decide) (fun z => kL) (fun z2 => ?_)
  have h0 := heq z2
  dsimp only at h0
  refine q_aload_n dL_law_962 rfl ?_
  refine q_iconst dL_law_963 ?_
  refine q_laload dL_law_964 hok.2.2.1 (ix0 hok.2.2.2.1) ?_
  refine q_iload dL_law_965 rfl ?_
  refine q_if_eq (tgt := 974) dL_law_967 (by decide) (fun z4 => ?_) (fun z4 => ?_)
  · rw [if_pos z4] at h0
    refine q_lconst dL_law_974 ?_
    refine q_lcmp dL_law_975 ?_
    refine q_if_eq (tgt := 981) dL_law_976 (by decide) (fun _ => kL) (fun z3 => absurd ((lg_cmp_eq _ _).mpr h0) z3)
  · rw [if_neg z4] at h0
    refine q_lconst dL_law_970 ?_
    refine q_goto (tgt := 975) dL_law_971 (by decide) ?_
    refine q_lcmp dL_law_975 ?_
    refine q_if_eq (tgt := 981) dL_law_976 (by decide) (fun _ => kL) (fun z3 => absurd ((lg_cmp_eq _ _).mpr h0) z3)
set_option maxRecDepth 100000 in
theorem k_12 {l : Launch} {G : mG} {Q : Option Value → mH → Prop} {X : String → mH → Prop} {x m o od mc ms : Nat} {i : Int32} {h : mH} {I' : mH → Prop} {a1 a2 a3 : Int32} (g1 : inb (i + Int32.ofInt 1) (sL G)) (g2 : inb (i + Int32.ofInt 2) (sL G)) (g3 : inb (i + Int32.ofInt 3) (sL G)) (ha1 : sX G (i + Int32.ofInt 1).toNatClampNeg = a1) (ha2 : sX G (i + Int32.ofInt 2).toNatClampNeg = a2) (ha3 : sX G (i + Int32.ofInt 3).toNatClampNeg = a3) (hk : kd h x = 16)
    (hop : opT x m o od I' (f_X11_canEnd x a1 (chr a2) h) (fun r k => sl k o 0 (if r = 0 then Int64.ofNat 0 else Int64.ofNat 1)) [xN, xA] (fun k => f_X12_canEnd m a1 (chr a2) k) (fun b k => gl k o 0 = if b = 0 then Int64.ofNat 0 else Int64.ofNat 1))
    (kk : ∀ h', hOK x m o od h' → I' h' → mW l G m_L_law 12 mc ms 3215 [some (.ref (sB G)), some (.ref x), some (.ref m), some (.ref o), some (.ref od), some (.int i), none, none, none] [] h' Q X) : mW l G m_L_law 12 (mc + 21) (ms + 2586) 984 [some (.ref (sB G)), some (.ref x), some (.ref m), some (.ref o), some (.ref od), some (.int i), none, none, none] [] h Q X := by
  subst ha1; subst ha2; subst ha3
  refine q_aload_n dL_law_984 rfl ?_
  refine q_aload_n dL_law_985 rfl ?_
  refine q_iload dL_law_986 rfl ?_
  refine q_iconst dL_law_988 ?_
  refine q_iadd dL_law_989 ?_
  refine q_sld dL_law_990 g1 ?_
  refine q_aload_n dL_law_991 rfl ?_
  refine q_iload dL_law_992 rfl ?_
  refine q_iconst dL_law_994 ?_
  refine q_iadd dL_law_995 ?_
  refine q_sld dL_law_996 g2 ?_
  refine q_i2c dL_law_997 ?_
  refine q_aload_n dL_law_998 rfl ?_
  obtain ⟨r, hE, hr, hx, hop⟩ := hop
  refine q_room (d' := 12) (mc' := 2 + mc) (ms' := 12 + ms) (Nat.le_refl _) (by omega) (by omega) ?_
  refine r_callSX2 dL_law_999 KX_221 (c_L_canEnd hE hk (fun _ _ q => by subst q; exact ⟨hr.2.2.1, hr.2.2.2.1⟩) hx) (by decide) (Nat.le_of_ble_eq_true rfl) rfl ?_
  intro v9 k9 hq
  obtain ⟨kk9, b, k2, rfl, hm, hfm, hok, hth, heq, hI⟩ := hop _ _ hq
  refine q_istore dL_law_1002 (by decide) ?_
  refine q_aload_n dL_law_1004 rfl ?_
  refine q_aload_n dL_law_1005 rfl ?_
  refine q_iload dL_law_1006 rfl ?_
  refine q_iconst dL_law_1008 ?_
  refine q_iadd dL_law_1009 ?_
  refine q_sld dL_law_1010 g1 ?_
  refine q_aload_n dL_law_1011 rfl ?_
  refine q_iload dL_law_1012 rfl ?_
  refine q_iconst dL_law_1014 ?_
  refine q_iadd dL_law_1015 ?_
  refine q_sld dL_law_1016 g2 ?_
  refine q_i2c dL_law_1017 ?_
  refine q_room (d' := 12) (mc' := 0 + mc) (ms' := 0 + ms) (Nat.le_refl _) (by omega) (by omega) ?_
  refine r_callV2 (mc := mc) (ms := ms) (mc' := 0) (ms' := 0) dL_law_1018 KL_223 (c_X12_canEnd hfm) hm (by decide) (Nat.le_of_ble_eq_true rfl) (fun _ _ q => q.elim) ?_
  rintro _ _ ⟨rfl, rfl⟩
  refine q_istore dL_law_1021 (by decide) ?_
  refine q_aload_n dL_law_1023 rfl ?_
  refine q_room (d' := 12) (mc' := 0 + mc) (ms' := 0 + ms) (Nat.le_refl _) (by omega) (by omega) ?_
  refine r_callV0 (mc := mc) (ms := ms) (mc' := 0) (ms' := 0) dL_law_1024 KL_180 (c_X12_thrown (thrown_ok hok.2.1)) hok.2.1 (by decide) (Nat.le_of_ble_eq_true rfl) (fun _ _ q => q.elim) ?_
  rintro _ _ ⟨rfl, rfl⟩
  refine q_iload dL_law_1027 rfl ?_
  refine q_icmp_eq (tgt := 1034) dL_law_1029 (by decide) (fun z => ?_) (fun z => absurd hth z)
  refine q_iload dL_law_1034 rfl ?_
  have kE : mW l G m_L_law 12 mc ms 3215 [some (.ref (sB G)), some (.ref x), some (.ref m), some (.ref o), some (.ref od), some (.int i), some (.int kk9), some (.int b), none] [] k2 Q X := r_fewer [some (.ref (sB G)), some (.ref x), some (.ref m), some (.ref o), some (.ref od), some (.int i), none, none, none] (ls_s (ls_s (ls_s (ls_s (ls_s (ls_s (ls_n (ls_n (ls_n ls_0))))))))) (kk _ hok hI)
  have kL : mW l G m_L_law 12 mc ms 1058 [some (.ref (sB G)), some (.ref x), some (.ref m), some (.ref o), some (.ref od), some (.int i), some (.int kk9), some (.int b), none] [] k2 Q X := q_goto (tgt := 3215) dL_law_1058 (by decide) kE
  refine q_if_ne (tgt := 1058) dL_law_1036 (by decide) (fun z => kL) (fun z2 => ?_)
  have h0 := heq z2
  dsimp only at h0
  refine q_aload_n dL_law_1039 rfl ?_
  refine q_iconst dL_law_1040 ?_
  refine q_laload dL_law_1041 hok.2.2.1 (ix0 hok.2.2.2.1) ?_
  refine q_iload dL_law_1042 rfl ?_
  refine q_if_eq (tgt := 1051) dL_law_1044 (by decide) (fun z4 => ?_) (fun z4 => ?_)
  · rw [if_pos z4] at h0
    refine q_lconst dL_law_1051 ?_
    refine q_lcmp dL_law_1052 ?_
    refine q_if_eq (tgt := 1058) dL_law_1053 (by decide) (fun _ => kL) (fun z3 => absurd ((lg_cmp_eq _ _).mpr h0) z3)
  · rw [if_neg z4] at h0
    refine q_lconst dL_law_1047 ?_
    refine q_goto (tgt := 1052) dL_law_1048 (by decide) ?_
    refine q_lcmp dL_law_1052 ?_
    refine q_if_eq (tgt := 1058) dL_law_1053 (by decide) (fun _ => kL) (fun z3 => absurd ((lg_cmp_eq _ _).mpr h0) z3)
set_option maxRecDepth 100000 in
theorem k_13 {l : Launch} {G : mG} {Q : Option Value → mH → Prop} {X : String → mH → Prop} {x m o od mc ms : Nat} {i : Int32} {h : mH} {I' : mH → Prop} {a1 a2 a3 : Int32} (g1 : inb (i + Int32.ofInt 1) (sL G)) (g2 : inb (i + Int32.ofInt 2) (sL G)) (g3 : inb (i + Int32.ofInt 3) (sL G)) (ha1 : sX G (i + Int32.ofInt 1).toNatClampNeg = a1) (ha2 : sX G (i + Int32.ofInt 2).toNatClampNeg = a2) (ha3 : sX G (i + Int32.ofInt 3).toNatClampNeg = a3) (hk : kd h x = 16)
    (hop : opT x m o od I' (f_X11_canBeAdjacent x a1 (chr a2) (chr a3) h) (fun r k => sl k o 0 (if r = 0 then Int64.ofNat 0 else Int64.ofNat 1)) [xN, xA] (fun k => f_X12_canBeAdjacent m a1 (chr a2) (chr a3) k) (fun b k => gl k o 0 = if b = 0 then Int64.ofNat 0 else Int64.ofNat 1))
    (kk : ∀ h', hOK x m o od h' → I' h' → mW l G m_L_law 12 mc ms 3215 [some (.ref (sB G)), some (.ref x), some (.ref m), some (.ref o), some (.ref od), some (.int i), none, none, none] [] h' Q X) : mW l G m_L_law 12 (mc + 21) (ms + 2586) 1061 [some (.ref (sB G)), some (.ref x), some (.ref m), some (.ref o), some (.ref od), some (.int i), none, none, none] [] h Q X := by
  subst ha1; subst ha2; subst ha3
  refine q_aload_n dL_law_1061 rfl ?_
  refine q_aload_n dL_law_1062 rfl ?_
  refine q_iload dL_law_1063 rfl ?_
  refine q_iconst dL_law_1065 ?_
  refine q_iadd dL_law_1066 ?_
  refine q_sld dL_law_1067 g1 ?_
  refine q_aload_n dL_law_1068 rfl ?_
  refine q_iload dL_law_1069 rfl ?_
  refine q_iconst dL_law_1071 ?_
  refine q_iadd dL_law_1072 ?_
  refine q_sld dL_law_1073 g2 ?_
  refine q_i2c dL_law_1074 ?_
  refine q_aload_n dL_law_1075 rfl ?_
  refine q_iload dL_law_1076 rfl ?_
  refine q_iconst dL_law_1078 ?_
  refine q_iadd dL_law_1079 ?_
  refine q_sld dL_law_1080 g3 ?_
  refine q_i2c dL_law_1081 ?_
  refine q_aload_n dL_law_1082 rfl ?_
  obtain ⟨r, hE, hr, hx, hop⟩ := hop
  refine q_room (d' := 12) (mc' := 3 + mc) (ms' := 18 + ms) (Nat.le_refl _) (by omega) (by omega) ?_
  refine r_callSX3 dL_law_1083 KX_224 (c_L_canBeAdjacent hE hk (fun _ _ q => by subst q; exact ⟨hr.2.2.1, hr.2.2.2.1⟩) hx) (by decide) (Nat.le_of_ble_eq_true rfl) rfl ?_
  intro v9 k9 hq
  obtain ⟨kk9, b, k2, rfl, hm, hfm, hok, hth, heq, hI⟩ := hop _ _ hq
  refine q_istore dL_law_1086 (by decide) ?_
  refine q_aload_n dL_law_1088 rfl ?_
  refine q_aload_n dL_law_1089 rfl ?_
  refine q_iload dL_law_1090 rfl ?_
  refine q_iconst dL_law_1092 ?_
  refine q_iadd dL_law_1093 ?_
  refine q_sld dL_law_1094 g1 ?_
  refine q_aload_n dL_law_1095 rfl ?_
  refine q_iload dL_law_1096 rfl ?_
  refine q_iconst dL_law_1098 ?_
  refine q_iadd dL_law_1099 ?_
  refine q_sld dL_law_1100 g2 ?_
  refine q_i2c dL_law_1101 ?_
  refine q_aload_n dL_law_1102 rfl ?_
  refine q_iload dL_law_1103 rfl ?_
  refine q_iconst dL_law_1105 ?_
  refine q_iadd dL_law_1106 ?_
  refine q_sld dL_law_1107 g3 ?_
  refine q_i2c dL_law_1108 ?_
  refine q_room (d' := 12) (mc' := 0 + mc) (ms' := 0 + ms) (Nat.le_refl _) (by omega) (by omega) ?_
  refine r_callV3 (mc := mc) (ms := ms) (mc' := 0) (ms' := 0) dL_law_1109 KL_227 (c_X12_canBeAdjacent hfm) hm (by decide) (Nat.le_of_ble_eq_true rfl) (fun _ _ q => q.elim) ?_
  rintro _ _ ⟨rfl, rfl⟩
  refine q_istore dL_law_1112 (by decide) ?_
  refine q_aload_n dL_law_1114 rfl ?_
  refine q_room (d' := 12) (mc' := 0 + mc) (ms' := 0 + ms) (Nat.le_refl _) (by omega) (by omega) ?_
  refine r_callV0 (mc := mc) (ms := ms) (mc' := 0) (ms' := 0) dL_law_1115 KL_180 (c_X12_thrown (thrown_ok hok.2.1)) hok.2.1 (by decide) (Nat.le_of_ble_eq_true rfl) (fun _ _ q => q.elim) ?_
  rintro _ _ ⟨rfl, rfl⟩
  refine q_iload dL_law_1118 rfl ?_
  refine q_icmp_eq (tgt := 1125) dL_law_1120 (by decide) (fun z => ?_) (fun z => absurd hth z)
  refine q_iload dL_law_1125 rfl ?_
  have kE : mW l G m_L_law 12 mc ms 3215 [some (.ref (sB G)), some (.ref x), some (.ref m), some (.ref o), some (.ref od), some (.int i), some (.int kk9), some (.int b), none] [] k2 Q X := r_fewer [some (.ref (sB G)), some (.ref x), some (.ref m), some (.ref o), some (.ref od), some (.int i), none, none, none] (ls_s (ls_s (ls_s (ls_s (ls_s (ls_s (ls_n (ls_n (ls_n ls_0))))))))) (kk _ hok hI)
  have kL : mW l G m_L_law 12 mc ms 1149 [some (.ref (sB G)), some (.ref x), some (.ref m), some (.ref o), some (.ref od), some (.int i), some (.int kk9), some (.int b), none] [] k2 Q X := q_goto (tgt := 3215) dL_law_1149 (by decide) kE
  refine q_if_ne (tgt := 1149) dL_law_1127 (by decide) (fun z => kL) (fun z2 => ?_)
  have h0 := heq z2
  dsimp only at h0
  refine q_aload_n dL_law_1130 rfl ?_
  refine q_iconst dL_law_1131 ?_
  refine q_laload dL_law_1132 hok.2.2.1 (ix0 hok.2.2.2.1) ?_
  refine q_iload dL_law_1133 rfl ?_
  refine q_if_eq (tgt := 1142) dL_law_1135 (by decide) (fun z4 => ?_) (fun z4 => ?_)
  · rw [if_pos z4] at h0
    refine q_lconst dL_law_1142 ?_
    refine q_lcmp dL_law_1143 ?_
    refine q_if_eq (tgt := 1149) dL_law_1144 (by decide) (fun _ => kL) (fun z3 => absurd ((lg_cmp_eq _ _).mpr h0) z3)
  · rw [if_neg z4] at h0
    refine q_lconst dL_law_1138 ?_
    refine q_goto (tgt := 1143) dL_law_1139 (by decide) ?_
    refine q_lcmp dL_law_1143 ?_
    refine q_if_eq (tgt := 1149) dL_law_1144 (by decide) (fun _ => kL) (fun z3 => absurd ((lg_cmp_eq _ _).mpr h0) z3)
set_option maxRecDepth 100000 in
theorem k_14 {l : Launch} {G : mG} {Q : Option Value → mH → Prop} {X : String → mH → Prop} {x m o od mc ms : Nat} {i : Int32} {h : mH} {I' : mH → Prop} {a1 a2 a3 : Int32} (g1 : inb (i + Int32.ofInt 1) (sL G)) (g2 : inb (i + Int32.ofInt 2) (sL G)) (g3 : inb (i + Int32.ofInt 3) (sL G)) (ha1 : sX G (i + Int32.ofInt 1).toNatClampNeg = a1) (ha2 : sX G (i + Int32.ofInt 2).toNatClampNeg = a2) (ha3 : sX G (i + Int32.ofInt 3).toNatClampNeg = a3) (hk : kd h x = 16)
    (hop : opT x m o od I' (f_X11_matches x a1 h) (fun r k => sl k o 0 (if r = 0 then Int64.ofNat 0 else Int64.ofNat 1)) [xN, xA] (fun k => f_X12_matches m a1 k) (fun b k => gl k o 0 = if b = 0 then Int64.ofNat 0 else Int64.ofNat 1))
    (kk : ∀ h', hOK x m o od h' → I' h' → mW l G m_L_law 12 mc ms 3215 [some (.ref (sB G)), some (.ref x), some (.ref m), some (.ref o), some (.ref od), some (.int i), none, none, none] [] h' Q X) : mW l G m_L_law 12 (mc + 21) (ms + 2586) 1152 [some (.ref (sB G)), some (.ref x), some (.ref m), some (.ref o), some (.ref od), some (.int i), none, none, none] [] h Q X := by
  subst ha1; subst ha2; subst ha3
  refine q_aload_n dL_law_1152 rfl ?_
  refine q_aload_n dL_law_1153 rfl ?_
  refine q_iload dL_law_1154 rfl ?_
  refine q_iconst dL_law_1156 ?_
  refine q_iadd dL_law_1157 ?_
  refine q_sld dL_law_1158 g1 ?_
  refine q_aload_n dL_law_1159 rfl ?_
  obtain ⟨r, hE, hr, hx, hop⟩ := hop
  refine q_room (d' := 12) (mc' := 4 + mc) (ms' := 268 + ms) (Nat.le_refl _) (by omega) (by omega) ?_
  refine r_callSX1 dL_law_1160 KX_228 (c_L_matches hE hk (fun _ _ q => by subst q; exact ⟨hr.2.2.1, hr.2.2.2.1⟩) hx) (by decide) (Nat.le_of_ble_eq_true rfl) rfl ?_
  intro v9 k9 hq
  obtain ⟨kk9, b, k2, rfl, hm, hfm, hok, hth, heq, hI⟩ := hop _ _ hq
  refine q_istore dL_law_1163 (by decide) ?_
  refine q_aload_n dL_law_1165 rfl ?_
  refine q_aload_n dL_law_1166 rfl ?_
  refine q_iload dL_law_1167 rfl ?_
  refine q_iconst dL_law_1169 ?_
  refine q_iadd dL_law_1170 ?_
  refine q_sld dL_law_1171 g1 ?_
  refine q_room (d' := 12) (mc' := 0 + mc) (ms' := 0 + ms) (Nat.le_refl _) (by omega) (by omega) ?_
  refine r_callV1 (mc := mc) (ms := ms) (mc' := 0) (ms' := 0) dL_law_1172 KL_230 (c_X12_matches hfm) hm (by decide) (Nat.le_of_ble_eq_true rfl) (fun _ _ q => q.elim) ?_
  rintro _ _ ⟨rfl, rfl⟩
  refine q_istore dL_law_1175 (by decide) ?_
  refine q_aload_n dL_law_1177 rfl ?_
  refine q_room (d' := 12) (mc' := 0 + mc) (ms' := 0 + ms) (Nat.le_refl _) (by omega) (by omega) ?_
  refine r_callV0 (mc := mc) (ms := ms) (mc' := 0) (ms' := 0) dL_law_1178 KL_180 (c_X12_thrown (thrown_ok hok.2.1)) hok.2.1 (by decide) (Nat.le_of_ble_eq_true rfl) (fun _ _ q => q.elim) ?_
  rintro _ _ ⟨rfl, rfl⟩
  refine q_iload dL_law_1181 rfl ?_
  refine q_icmp_eq (tgt := 1188) dL_law_1183 (by decide) (fun z => ?_) (fun z => absurd hth z)
  refine q_iload dL_law_1188 rfl ?_
  have kE : mW l G m_L_law 12 mc ms 3215 [some (.ref (sB G)), some (.ref x), some (.ref m), some (.ref o), some (.ref od), some (.int i), some (.int kk9), some (.int b), none] [] k2 Q X := r_fewer [some (.ref (sB G)), some (.ref x), some (.ref m), some (.ref o), some (.ref od), some (.int i), none, none, none] (ls_s (ls_s (ls_s (ls_s (ls_s (ls_s (ls_n (ls_n (ls_n ls_0))))))))) (kk _ hok hI)
  have kL : mW l G m_L_law 12 mc ms 1212 [some (.ref (sB G)), some (.ref x), some (.ref m), some (.ref o), some (.ref od), some (.int i), some (.int kk9), some (.int b), none] [] k2 Q X := q_goto (tgt := 3215) dL_law_1212 (by decide) kE
  refine q_if_ne (tgt := 1212) dL_law_1190 (by decide) (fun z => kL) (fun z2 => ?_)
  have h0 := heq z2
  dsimp only at h0
  refine q_aload_n dL_law_1193 rfl ?_
  refine q_iconst dL_law_1194 ?_
  refine q_laload dL_law_1195 hok.2.2.1 (ix0 hok.2.2.2.1) ?_
  refine q_iload dL_law_1196 rfl ?_
  refine q_if_eq (tgt := 1205) dL_law_1198 (by decide) (fun z4 => ?_) (fun z4 => ?_)
  · rw [if_pos z4] at h0
    refine q_lconst dL_law_1205 ?_
    refine q_lcmp dL_law_1206 ?_
    refine q_if_eq (tgt := 1212) dL_law_1207 (by decide) (fun _ => kL) (fun z3 => absurd ((lg_cmp_eq _ _).mpr h0) z3)
  · rw [if_neg z4] at h0
    refine q_lconst dL_law_1201 ?_
    refine q_goto (tgt := 1206) dL_law_1202 (by decide) ?_
    refine q_lcmp dL_law_1206 ?_
    refine q_if_eq (tgt := 1212) dL_law_1207 (by decide) (fun _ => kL) (fun z3 => absurd ((lg_cmp_eq _ _).mpr h0) z3)
set_option maxRecDepth 100000 in
theorem k_15 {l : Launch} {G : mG} {Q : Option Value → mH → Prop} {X : String → mH → Prop} {x m o od mc ms : Nat} {i : Int32} {h : mH} {I' : mH → Prop} {a1 a2 a3 : Int32} (g1 : inb (i + Int32.ofInt 1) (sL G)) (g2 : inb (i + Int32.ofInt 2) (sL G)) (g3 : inb (i + Int32.ofInt 3) (sL G)) (ha1 : sX G (i + Int32.ofInt 1).toNatClampNeg = a1) (ha2 : sX G (i + Int32.ofInt 2).toNatClampNeg = a2) (ha3 : sX G (i + Int32.ofInt 3).toNatClampNeg = a3) (hk : kd h x = 16)
    (hop : opT x m o od I' (f_X11_matchesBySpans x a1 h) (fun r k => sl k o 0 (if r = 0 then Int64.ofNat 0 else Int64.ofNat 1)) [xN, xA] (fun k => f_X12_matchesBySpans m a1 k) (fun b k => gl k o 0 = if b = 0 then Int64.ofNat 0 else Int64.ofNat 1))
    (kk : ∀ h', hOK x m o od h' → I' h' → mW l G m_L_law 12 mc ms 3215 [some (.ref (sB G)), some (.ref x), some (.ref m), some (.ref o), some (.ref od), some (.int i), none, none, none] [] h' Q X) : mW l G m_L_law 12 (mc + 21) (ms + 2586) 1215 [some (.ref (sB G)), some (.ref x), some (.ref m), some (.ref o), some (.ref od), some (.int i), none, none, none] [] h Q X := by
  subst ha1; subst ha2; subst ha3
  refine q_aload_n dL_law_1215 rfl ?_
  refine q_aload_n dL_law_1216 rfl ?_
  refine q_iload dL_law_1217 rfl ?_
  refine q_iconst dL_law_1219 ?_
  refine q_iadd dL_law_1220 ?_
  refine q_sld dL_law_1221 g1 ?_
  refine q_aload_n dL_law_1222 rfl ?_
  obtain ⟨r, hE, hr, hx, hop⟩ := hop
  refine q_room (d' := 12) (mc' := 4 + mc) (ms' := 268 + ms) (Nat.le_refl _) (by omega) (by omega) ?_
  refine r_callSX1 dL_law_1223 KX_231 (c_L_matchesBySpans hE hk (fun _ _ q => by subst q; exact ⟨hr.2.2.1, hr.2.2.2.1⟩) hx) (by decide) (Nat.le_of_ble_eq_true rfl) rfl ?_
  intro v9 k9 hq
  obtain ⟨kk9, b, k2, rfl, hm, hfm, hok, hth, heq, hI⟩ := hop _ _ hq
  refine q_istore dL_law_1226 (by decide) ?_
  refine q_aload_n dL_law_1228 rfl ?_
  refine q_aload_n dL_law_1229 rfl ?_
  refine q_iload dL_law_1230 rfl ?_
  refine q_iconst dL_law_1232 ?_
  refine q_iadd dL_law_1233 ?_
  refine q_sld dL_law_1234 g1 ?_
  refine q_room (d' := 12) (mc' := 0 + mc) (ms' := 0 + ms) (Nat.le_refl _) (by omega) (by omega) ?_
  refine r_callV1 (mc := mc) (ms := ms) (mc' := 0) (ms' := 0) dL_law_1235 KL_233 (c_X12_matchesBySpans hfm) hm (by decide) (Nat.le_of_ble_eq_true rfl) (fun _ _ q => q.elim) ?_
  rintro _ _ ⟨rfl, rfl⟩
  refine q_istore dL_law_1238 (by decide) ?_
  refine q_aload_n dL_law_1240 rfl ?_
  refine q_room (d' := 12) (mc' := 0 + mc) (ms' := 0 + ms) (Nat.le_refl _) (by omega) (by omega) ?_
  refine r_callV0 (mc := mc) (ms := ms) (mc' := 0) (ms' := 0) dL_law_1241 KL_180 (c_X12_thrown (thrown_ok hok.2.1)) hok.2.1 (by decide) (Nat.le_of_ble_eq_true rfl) (fun _ _ q => q.elim) ?_
  rintro _ _ ⟨rfl, rfl⟩
  refine q_iload dL_law_1244 rfl ?_
  refine q_icmp_eq (tgt := 1251) dL_law_1246 (by decide) (fun z => ?_) (fun z => absurd hth z)
  refine q_iload dL_law_1251 rfl ?_
  have kE : mW l G m_L_law 12 mc ms 3215 [some (.ref (sB G)), some (.ref x), some (.ref m), some (.ref o), some (.ref od), some (.int i), some (.int kk9), some (.int b), none] [] k2 Q X := r_fewer [some (.ref (sB G)), some (.ref x), some (.ref m), some (.ref o), some (.ref od), some (.int i), none, none, none] (ls_s (ls_s (ls_s (ls_s (ls_s (ls_s (ls_n (ls_n (ls_n ls_0))))))))) (kk _ hok hI)
  have kL : mW l G m_L_law 12 mc ms 1275 [some (.ref (sB G)), some (.ref x), some (.ref m), some (.ref o), some (.ref od), some (.int i), some (.int kk9), some (.int b), none] [] k2 Q X := q_goto (tgt := 3215) dL_law_1275 (by decide) kE
  refine q_if_ne (tgt := 1275) dL_law_1253 (by decide) (fun z => kL) (fun z2 => ?_)
  have h0 := heq z2
  dsimp only at h0
  refine q_aload_n dL_law_1256 rfl ?_
  refine q_iconst dL_law_1257 ?_
  refine q_laload dL_law_1258 hok.2.2.1 (ix0 hok.2.2.2.1) ?_
  refine q_iload dL_law_1259 rfl ?_
  refine q_if_eq (tgt := 1268) dL_law_1261 (by decide) (fun z4 => ?_) (fun z4 => ?_)
  · rw [if_pos z4] at h0
    refine q_lconst dL_law_1268 ?_
    refine q_lcmp dL_law_1269 ?_
    refine q_if_eq (tgt := 1275) dL_law_1270 (by decide) (fun _ => kL) (fun z3 => absurd ((lg_cmp_eq _ _).mpr h0) z3)
  · rw [if_neg z4] at h0
    refine q_lconst dL_law_1264 ?_
    refine q_goto (tgt := 1269) dL_law_1265 (by decide) ?_
    refine q_lcmp dL_law_1269 ?_
    refine q_if_eq (tgt := 1275) dL_law_1270 (by decide) (fun _ => kL) (fun z3 => absurd ((lg_cmp_eq _ _).mpr h0) z3)
set_option maxRecDepth 100000 in
theorem k_16 {l : Launch} {G : mG} {Q : Option Value → mH → Prop} {X : String → mH → Prop} {x m o od mc ms : Nat} {i : Int32} {h : mH} {I' : mH → Prop} {a1 a2 a3 : Int32} (g1 : inb (i + Int32.ofInt 1) (sL G)) (g2 : inb (i + Int32.ofInt 2) (sL G)) (g3 : inb (i + Int32.ofInt 3) (sL G)) (ha1 : sX G (i + Int32.ofInt 1).toNatClampNeg = a1) (ha2 : sX G (i + Int32.ofInt 2).toNatClampNeg = a2) (ha3 : sX G (i + Int32.ofInt 3).toNatClampNeg = a3) (hk : kd h x = 16)
    (hop : opT x m o od I' (f_X11_longestPrefix x a1 h) (fun r k => sl k o 0 r.toInt64) [xN, xA] (fun k => f_X12_longestPrefix m a1 k) (fun b k => gl k o 0 = Int32.toInt64 b))
    (kk : ∀ h', hOK x m o od h' → I' h' → mW l G m_L_law 12 mc ms 3215 [some (.ref (sB G)), some (.ref x), some (.ref m), some (.ref o), some (.ref od), some (.int i), none, none, none] [] h' Q X) : mW l G m_L_law 12 (mc + 21) (ms + 2586) 1278 [some (.ref (sB G)), some (.ref x), some (.ref m), some (.ref o), some (.ref od), some (.int i), none, none, none] [] h Q X := by
  subst ha1; subst ha2; subst ha3
  refine q_aload_n dL_law_1278 rfl ?_
  refine q_aload_n dL_law_1279 rfl ?_
  refine q_iload dL_law_1280 rfl ?_
  refine q_iconst dL_law_1282 ?_
  refine q_iadd dL_law_1283 ?_
  refine q_sld dL_law_1284 g1 ?_
  refine q_aload_n dL_law_1285 rfl ?_
  obtain ⟨r, hE, hr, hx, hop⟩ := hop
  refine q_room (d' := 12) (mc' := 4 + mc) (ms' := 268 + ms) (Nat.le_refl _) (by omega) (by omega) ?_
  refine r_callSX1 dL_law_1286 KX_234 (c_L_longestPrefix hE hk (fun _ _ q => by subst q; exact ⟨hr.2.2.1, hr.2.2.2.1⟩) hx) (by decide) (Nat.le_of_ble_eq_true rfl) rfl ?_
  intro v9 k9 hq
  obtain ⟨kk9, b, k2, rfl, hm, hfm, hok, hth, heq, hI⟩ := hop _ _ hq
  refine q_istore dL_law_1289 (by decide) ?_
  refine q_aload_n dL_law_1291 rfl ?_
  refine q_aload_n dL_law_1292 rfl ?_
  refine q_iload dL_law_1293 rfl ?_
  refine q_iconst dL_law_1295 ?_
  refine q_iadd dL_law_1296 ?_
  refine q_sld dL_law_1297 g1 ?_
  refine q_room (d' := 12) (mc' := 0 + mc) (ms' := 0 + ms) (Nat.le_refl _) (by omega) (by omega) ?_
  refine r_callV1 (mc := mc) (ms := ms) (mc' := 0) (ms' := 0) dL_law_1298 KL_236 (c_X12_longestPrefix hfm) hm (by decide) (Nat.le_of_ble_eq_true rfl) (fun _ _ q => q.elim) ?_
  rintro _ _ ⟨rfl, rfl⟩
  refine q_istore dL_law_1301 (by decide) ?_
  refine q_aload_n dL_law_1303 rfl ?_
  refine q_room (d' := 12) (mc' := 0 + mc) (ms' := 0 + ms) (Nat.le_refl _) (by omega) (by omega) ?_
  refine r_callV0 (mc := mc) (ms := ms) (mc' := 0) (ms' := 0) dL_law_1304 KL_180 (c_X12_thrown (thrown_ok hok.2.1)) hok.2.1 (by decide) (Nat.le_of_ble_eq_true rfl) (fun _ _ q => q.elim) ?_
  rintro _ _ ⟨rfl, rfl⟩
  refine q_iload dL_law_1307 rfl ?_
  refine q_icmp_eq (tgt := 1314) dL_law_1309 (by decide) (fun z => ?_) (fun z => absurd hth z)
  refine q_iload dL_law_1314 rfl ?_
  have kE : mW l G m_L_law 12 mc ms 3215 [some (.ref (sB G)), some (.ref x), some (.ref m), some (.ref o), some (.ref od), some (.int i), some (.int kk9), some (.int b), none] [] k2 Q X := r_fewer [some (.ref (sB G)), some (.ref x), some (.ref m), some (.ref o), some (.ref od), some (.int i), none, none, none] (ls_s (ls_s (ls_s (ls_s (ls_s (ls_s (ls_n (ls_n (ls_n ls_0))))))))) (kk _ hok hI)
  have kL : mW l G m_L_law 12 mc ms 1331 [some (.ref (sB G)), some (.ref x), some (.ref m), some (.ref o), some (.ref od), some (.int i), some (.int kk9), some (.int b), none] [] k2 Q X := q_goto (tgt := 3215) dL_law_1331 (by decide) kE
  refine q_if_ne (tgt := 1331) dL_law_1316 (by decide) (fun z => kL) (fun z2 => ?_)
  have h0 := heq z2
  dsimp only at h0
  refine q_aload_n dL_law_1319 rfl ?_
  refine q_iconst dL_law_1320 ?_
  refine q_laload dL_law_1321 hok.2.2.1 (ix0 hok.2.2.2.1) ?_
  refine q_iload dL_law_1322 rfl ?_
  refine q_i2l dL_law_1324 ?_
  refine q_lcmp dL_law_1325 ?_
  refine q_if_eq (tgt := 1331) dL_law_1326 (by decide) (fun _ => kL) (fun z3 => absurd ((lg_cmp_eq _ _).mpr h0) z3)
set_option maxRecDepth 100000 in
theorem k_17 {l : Launch} {G : mG} {Q : Option Value → mH → Prop} {X : String → mH → Prop} {x m o od mc ms : Nat} {i : Int32} {h : mH} {I' : mH → Prop} {a1 a2 a3 : Int32} (g1 : inb (i + Int32.ofInt 1) (sL G)) (g2 : inb (i + Int32.ofInt 2) (sL G)) (g3 : inb (i + Int32.ofInt 3) (sL G)) (ha1 : sX G (i + Int32.ofInt 1).toNatClampNeg = a1) (ha2 : sX G (i + Int32.ofInt 2).toNatClampNeg = a2) (ha3 : sX G (i + Int32.ofInt 3).toNatClampNeg = a3) (hk : kd h x = 16)
    (hop : opT x m o od I' (f_X11_acceptsWord x a1 a2 h) (fun r k => sl k o 0 (if r = 0 then Int64.ofNat 0 else Int64.ofNat 1)) [xN, xI] (fun k => f_X12_acceptsWord m a1 a2 k) (fun b k => gl k o 0 = if b = 0 then Int64.ofNat 0 else Int64.ofNat 1))
    (kk : ∀ h', hOK x m o od h' → I' h' → mW l G m_L_law 12 mc ms 3215 [some (.ref (sB G)), some (.ref x), some (.ref m), some (.ref o), some (.ref od), some (.int i), none, none, none] [] h' Q X) : mW l G m_L_law 12 (mc + 21) (ms + 2586) 1334 [some (.ref (sB G)), some (.ref x), some (.ref m), some (.ref o), some (.ref od), some (.int i), none, none, none] [] h Q X := by
  subst ha1; subst ha2; subst ha3
  refine q_aload_n dL_law_1334 rfl ?_
  refine q_aload_n dL_law_1335 rfl ?_
  refine q_iload dL_law_1336 rfl ?_
  refine q_iconst dL_law_1338 ?_
  refine q_iadd dL_law_1339 ?_
  refine q_sld dL_law_1340 g1 ?_
  refine q_aload_n dL_law_1341 rfl ?_
  refine q_iload dL_law_1342 rfl ?_
  refine q_iconst dL_law_1344 ?_
  refine q_iadd dL_law_1345 ?_
  refine q_sld dL_law_1346 g2 ?_
  refine q_aload_n dL_law_1347 rfl ?_
  obtain ⟨r, hE, hr, hx, hop⟩ := hop
  refine q_room (d' := 12) (mc' := 2 + mc) (ms' := 12 + ms) (Nat.le_refl _) (by omega) (by omega) ?_
  refine r_callSX2 dL_law_1348 KX_237 (c_L_acceptsWord hE hk (fun _ _ q => by subst q; exact ⟨hr.2.2.1, hr.2.2.2.1⟩) hx) (by decide) (Nat.le_of_ble_eq_true rfl) rfl ?_
  intro v9 k9 hq
  obtain ⟨kk9, b, k2, rfl, hm, hfm, hok, hth, heq, hI⟩ := hop _ _ hq
  refine q_istore dL_law_1351 (by decide) ?_
  refine q_aload_n dL_law_1353 rfl ?_
  refine q_aload_n dL_law_1354 rfl ?_
  refine q_iload dL_law_1355 rfl ?_
  refine q_iconst dL_law_1357 ?_
  refine q_iadd dL_law_1358 ?_
  refine q_sld dL_law_1359 g1 ?_
  refine q_aload_n dL_law_1360 rfl ?_
  refine q_iload dL_law_1361 rfl ?_
  refine q_iconst dL_law_1363 ?_
  refine q_iadd dL_law_1364 ?_
  refine q_sld dL_law_1365 g2 ?_
  refine q_room (d' := 12) (mc' := 0 + mc) (ms' := 0 + ms) (Nat.le_refl _) (by omega) (by omega) ?_
  refine r_callV2 (mc := mc) (ms := ms) (mc' := 0) (ms' := 0) dL_law_1366 KL_239 (c_X12_acceptsWord hfm) hm (by decide) (Nat.le_of_ble_eq_true rfl) (fun _ _ q => q.elim) ?_
  rintro _ _ ⟨rfl, rfl⟩
  refine q_istore dL_law_1369 (by decide) ?_
  refine q_aload_n dL_law_1371 rfl ?_
  refine q_room (d' := 12) (mc' := 0 + mc) (ms' := 0 + ms) (Nat.le_refl _) (by omega) (by omega) ?_
  refine r_callV0 (mc := mc) (ms := ms) (mc' := 0) (ms' := 0) dL_law_1372 KL_180 (c_X12_thrown (thrown_ok hok.2.1)) hok.2.1 (by decide) (Nat.le_of_ble_eq_true rfl) (fun _ _ q => q.elim) ?_
  rintro _ _ ⟨rfl, rfl⟩
  refine q_iload dL_law_1375 rfl ?_
  refine q_icmp_eq (tgt := 1382) dL_law_1377 (by decide) (fun z => ?_) (fun z => absurd hth z)
  refine q_iload dL_law_1382 rfl ?_
  have kE : mW l G m_L_law 12 mc ms 3215 [some (.ref (sB G)), some (.ref x), some (.ref m), some (.ref o), some (.ref od), some (.int i), some (.int kk9), some (.int b), none] [] k2 Q X := r_fewer [some (.ref (sB G)), some (.ref x), some (.ref m), some (.ref o), some (.ref od), some (.int i), none, none, none] (ls_s (ls_s (ls_s (ls_s (ls_s (ls_s (ls_n (ls_n (ls_n ls_0))))))))) (kk _ hok hI)
  have kL : mW l G m_L_law 12 mc ms 1406 [some (.ref (sB G)), some (.ref x), some (.ref m), some (.ref o), some (.ref od), some (.int i), some (.int kk9), some (.int b), none] [] k2 Q X := q_goto (tgt := 3215) dL_law_1406 (by decide) kE
  refine q_if_ne (tgt := 1406) dL_law_1384 (by decide) (fun z => kL) (fun z2 => ?_)
  have h0 := heq z2
  dsimp only at h0
  refine q_aload_n dL_law_1387 rfl ?_
  refine q_iconst dL_law_1388 ?_
  refine q_laload dL_law_1389 hok.2.2.1 (ix0 hok.2.2.2.1) ?_
  refine q_iload dL_law_1390 rfl ?_
  refine q_if_eq (tgt := 1399) dL_law_1392 (by decide) (fun z4 => ?_) (fun z4 => ?_)
  · rw [if_pos z4] at h0
    refine q_lconst dL_law_1399 ?_
    refine q_lcmp dL_law_1400 ?_
    refine q_if_eq (tgt := 1406) dL_law_1401 (by decide) (fun _ => kL) (fun z3 => absurd ((lg_cmp_eq _ _).mpr h0) z3)
  · rw [if_neg z4] at h0
    refine q_lconst dL_law_1395 ?_
    refine q_goto (tgt := 1400) dL_law_1396 (by decide) ?_
    refine q_lcmp dL_law_1400 ?_
    refine q_if_eq (tgt := 1406) dL_law_1401 (by decide) (fun _ => kL) (fun z3 => absurd ((lg_cmp_eq _ _).mpr h0) z3)
set_option maxRecDepth 100000 in
theorem k_18 {l : Launch} {G : mG} {Q : Option Value → mH → Prop} {X : String → mH → Prop} {x m o od mc ms : Nat} {i : Int32} {h : mH} {I' : mH → Prop} {a1 a2 a3 : Int32} (g1 : inb (i + Int32.ofInt 1) (sL G)) (g2 : inb (i + Int32.ofInt 2) (sL G)) (g3 : inb (i + Int32.ofInt 3) (sL G)) (ha1 : sX G (i + Int32.ofInt 1).toNatClampNeg = a1) (ha2 : sX G (i + Int32.ofInt 2).toNatClampNeg = a2) (ha3 : sX G (i + Int32.ofInt 3).toNatClampNeg = a3) (hk : kd h x = 16)
    (hop : opT x m o od I' (f_X11_acceptedWords x a1 h) (fun r k => sl k o 0 r.toInt64) [xN] (fun k => f_X12_acceptedWords m a1 k) (fun b k => gl k o 0 = Int32.toInt64 b))
    (kk : ∀ h', hOK x m o od h' → I' h' → mW l G m_L_law 12 mc ms 3215 [some (.ref (sB G)), some (.ref x), some (.ref m), some (.ref o), some (.ref od), some (.int i), none, none, none] [] h' Q X) : mW l G m_L_law 12 (mc + 21) (ms + 2586) 1409 [some (.ref (sB G)), some (.ref x), some (.ref m), some (.ref o), some (.ref od), some (.int i), none, none, none] [] h Q X := by
  subst ha1; subst ha2; subst ha3
  refine q_aload_n dL_law_1409 rfl ?_
  refine q_aload_n dL_law_1410 rfl ?_
  refine q_iload dL_law_1411 rfl ?_
  refine q_iconst dL_law_1413 ?_
  refine q_iadd dL_law_1414 ?_
  refine q_sld dL_law_1415 g1 ?_
  refine q_aload_n dL_law_1416 rfl ?_
  obtain ⟨r, hE, hr, hx, hop⟩ := hop
  refine q_room (d' := 12) (mc' := 1 + mc) (ms' := 6 + ms) (Nat.le_refl _) (by omega) (by omega) ?_
  refine r_callSX1 dL_law_1417 KX_240 (c_L_acceptedWords hE hk (fun _ _ q => by subst q; exact ⟨hr.2.2.1, hr.2.2.2.1⟩) hx) (by decide) (Nat.le_of_ble_eq_true rfl) rfl ?_
  intro v9 k9 hq
  obtain ⟨kk9, b, k2, rfl, hm, hfm, hok, hth, heq, hI⟩ := hop _ _ hq
  refine q_istore dL_law_1420 (by decide) ?_
  refine q_aload_n dL_law_1422 rfl ?_
  refine q_aload_n dL_law_1423 rfl ?_
  refine q_iload dL_law_1424 rfl ?_
  refine q_iconst dL_law_1426 ?_
  refine q_iadd dL_law_1427 ?_
  refine q_sld dL_law_1428 g1 ?_
  refine q_room (d' := 12) (mc' := 0 + mc) (ms' := 0 + ms) (Nat.le_refl _) (by omega) (by omega) ?_
  refine r_callV1 (mc := mc) (ms := ms) (mc' := 0) (ms' := 0) dL_law_1429 KL_242 (c_X12_acceptedWords hfm) hm (by decide) (Nat.le_of_ble_eq_true rfl) (fun _ _ q => q.elim) ?_
  rintro _ _ ⟨rfl, rfl⟩
  refine q_istore dL_law_1432 (by decide) ?_
  refine q_aload_n dL_law_1434 rfl ?_
  refine q_room (d' := 12) (mc' := 0 + mc) (ms' := 0 + ms) (Nat.le_refl _) (by omega) (by omega) ?_
  refine r_callV0 (mc := mc) (ms := ms) (mc' := 0) (ms' := 0) dL_law_1435 KL_180 (c_X12_thrown (thrown_ok hok.2.1)) hok.2.1 (by decide) (Nat.le_of_ble_eq_true rfl) (fun _ _ q => q.elim) ?_
  rintro _ _ ⟨rfl, rfl⟩
  refine q_iload dL_law_1438 rfl ?_
  refine q_icmp_eq (tgt := 1445) dL_law_1440 (by decide) (fun z => ?_) (fun z => absurd hth z)
  refine q_iload dL_law_1445 rfl ?_
  have kE : mW l G m_L_law 12 mc ms 3215 [some (.ref (sB G)), some (.ref x), some (.ref m), some (.ref o), some (.ref od), some (.int i), some (.int kk9), some (.int b), none] [] k2 Q X := r_fewer [some (.ref (sB G)), some (.ref x), some (.ref m), some (.ref o), some (.ref od), some (.int i), none, none, none] (ls_s (ls_s (ls_s (ls_s (ls_s (ls_s (ls_n (ls_n (ls_n ls_0))))))))) (kk _ hok hI)
  have kL : mW l G m_L_law 12 mc ms 1462 [some (.ref (sB G)), some (.ref x), some (.ref m), some (.ref o), some (.ref od), some (.int i), some (.int kk9), some (.int b), none] [] k2 Q X := q_goto (tgt := 3215) dL_law_1462 (by decide) kE
  refine q_if_ne (tgt := 1462) dL_law_1447 (by decide) (fun z => kL) (fun z2 => ?_)
  have h0 := heq z2
  dsimp only at h0
  refine q_aload_n dL_law_1450 rfl ?_
  refine q_iconst dL_law_1451 ?_
  refine q_laload dL_law_1452 hok.2.2.1 (ix0 hok.2.2.2.1) ?_
  refine q_iload dL_law_1453 rfl ?_
  refine q_i2l dL_law_1455 ?_
  refine q_lcmp dL_law_1456 ?_
  refine q_if_eq (tgt := 1462) dL_law_1457 (by decide) (fun _ => kL) (fun z3 => absurd ((lg_cmp_eq _ _).mpr h0) z3)
set_option maxRecDepth 100000 in
theorem k_19 {l : Launch} {G : mG} {Q : Option Value → mH → Prop} {X : String → mH → Prop} {x m o od mc ms : Nat} {i : Int32} {h : mH} {I' : mH → Prop} {a1 a2 a3 : Int32} (g1 : inb (i + Int32.ofInt 1) (sL G)) (g2 : inb (i + Int32.ofInt 2) (sL G)) (g3 : inb (i + Int32.ofInt 3) (sL G)) (ha1 : sX G (i + Int32.ofInt 1).toNatClampNeg = a1) (ha2 : sX G (i + Int32.ofInt 2).toNatClampNeg = a2) (ha3 : sX G (i + Int32.ofInt 3).toNatClampNeg = a3) (hk : kd h x = 16)
    (hop : opT x m o od I' (f_X11_countWords x a1 a2 h) (fun r k => sl k o 0 r.toInt64) [xN, xA] (fun k => f_X12_countWords m a1 a2 k) (fun b k => gl k o 0 = Int32.toInt64 b))
    (kk : ∀ h', hOK x m o od h' → I' h' → mW l G m_L_law 12 mc ms 3215 [some (.ref (sB G)), some (.ref x), some (.ref m), some (.ref o), some (.ref od), some (.int i), none, none, none] [] h' Q X) : mW l G m_L_law 12 (mc + 21) (ms + 2586) 1465 [some (.ref (sB G)), some (.ref x), some (.ref m), some (.ref o), some (.ref od), some (.int i), none, none, none] [] h Q X := by
  subst ha1; subst ha2; subst ha3
  refine q_aload_n dL_law_1465 rfl ?_
  refine q_aload_n dL_law_1466 rfl ?_
  refine q_iload dL_law_1467 rfl ?_
  refine q_iconst dL_law_1469 ?_
  refine q_iadd dL_law_1470 ?_
  refine q_sld dL_law_1471 g1 ?_
  refine q_aload_n dL_law_1472 rfl ?_
  refine q_iload dL_law_1473 rfl ?_
  refine q_iconst dL_law_1475 ?_
  refine q_iadd dL_law_1476 ?_
  refine q_sld dL_law_1477 g2 ?_
  refine q_aload_n dL_law_1478 rfl ?_
  obtain ⟨r, hE, hr, hx, hop⟩ := hop
  refine q_room (d' := 12) (mc' := 2 + mc) (ms' := 12 + ms) (Nat.le_refl _) (by omega) (by omega) ?_
  refine r_callSX2 dL_law_1479 KX_243 (c_L_countWords hE hk (fun _ _ q => by subst q; exact ⟨hr.2.2.1, hr.2.2.2.1⟩) hx) (by decide) (Nat.le_of_ble_eq_true rfl) rfl ?_
  intro v9 k9 hq
  obtain ⟨kk9, b, k2, rfl, hm, hfm, hok, hth, heq, hI⟩ := hop _ _ hq
  refine q_istore dL_law_1482 (by decide) ?_
  refine q_aload_n dL_law_1484 rfl ?_
  refine q_aload_n dL_law_1485 rfl ?_
  refine q_iload dL_law_1486 rfl ?_
  refine q_iconst dL_law_1488 ?_
  refine q_iadd dL_law_1489 ?_
  refine q_sld dL_law_1490 g1 ?_
  refine q_aload_n dL_law_1491 rfl ?_
  refine q_iload dL_law_1492 rfl ?_
  refine q_iconst dL_law_1494 ?_
  refine q_iadd dL_law_1495 ?_
  refine q_sld dL_law_1496 g2 ?_
  refine q_room (d' := 12) (mc' := 0 + mc) (ms' := 0 + ms) (Nat.le_refl _) (by omega) (by omega) ?_
  refine r_callV2 (mc := mc) (ms := ms) (mc' := 0) (ms' := 0) dL_law_1497 KL_245 (c_X12_countWords hfm) hm (by decide) (Nat.le_of_ble_eq_true rfl) (fun _ _ q => q.elim) ?_
  rintro _ _ ⟨rfl, rfl⟩
  refine q_istore dL_law_1500 (by decide) ?_
  refine q_aload_n dL_law_1502 rfl ?_
  refine q_room (d' := 12) (mc' := 0 + mc) (ms' := 0 + ms) (Nat.le_refl _) (by omega) (by omega) ?_
  refine r_callV0 (mc := mc) (ms := ms) (mc' := 0) (ms' := 0) dL_law_1503 KL_180 (c_X12_thrown (thrown_ok hok.2.1)) hok.2.1 (by decide) (Nat.le_of_ble_eq_true rfl) (fun _ _ q => q.elim) ?_
  rintro _ _ ⟨rfl, rfl⟩
  refine q_iload dL_law_1506 rfl ?_
  refine q_icmp_eq (tgt := 1513) dL_law_1508 (by decide) (fun z => ?_) (fun z => absurd hth z)
  refine q_iload dL_law_1513 rfl ?_
  have kE : mW l G m_L_law 12 mc ms 3215 [some (.ref (sB G)), some (.ref x), some (.ref m), some (.ref o), some (.ref od), some (.int i), some (.int kk9), some (.int b), none] [] k2 Q X := r_fewer [some (.ref (sB G)), some (.ref x), some (.ref m), some (.ref o), some (.ref od), some (.int i), none, none, none] (ls_s (ls_s (ls_s (ls_s (ls_s (ls_s (ls_n (ls_n (ls_n ls_0))))))))) (kk _ hok hI)
  have kL : mW l G m_L_law 12 mc ms 1530 [some (.ref (sB G)), some (.ref x), some (.ref m), some (.ref o), some (.ref od), some (.int i), some (.int kk9), some (.int b), none] [] k2 Q X := q_goto (tgt := 3215) dL_law_1530 (by decide) kE
  refine q_if_ne (tgt := 1530) dL_law_1515 (by decide) (fun z => kL) (fun z2 => ?_)
  have h0 := heq z2
  dsimp only at h0
  refine q_aload_n dL_law_1518 rfl ?_
  refine q_iconst dL_law_1519 ?_
  refine q_laload dL_law_1520 hok.2.2.1 (ix0 hok.2.2.2.1) ?_
  refine q_iload dL_law_1521 rfl ?_
  refine q_i2l dL_law_1523 ?_
  refine q_lcmp dL_law_1524 ?_
  refine q_if_eq (tgt := 1530) dL_law_1525 (by decide) (fun _ => kL) (fun z3 => absurd ((lg_cmp_eq _ _).mpr h0) z3)
set_option maxRecDepth 100000 in
theorem k_20 {l : Launch} {G : mG} {Q : Option Value → mH → Prop} {X : String → mH → Prop} {x m o od mc ms : Nat} {i : Int32} {h : mH} {I' : mH → Prop} {a1 a2 a3 : Int32} (g1 : inb (i + Int32.ofInt 1) (sL G)) (g2 : inb (i + Int32.ofInt 2) (sL G)) (g3 : inb (i + Int32.ofInt 3) (sL G)) (ha1 : sX G (i + Int32.ofInt 1).toNatClampNeg = a1) (ha2 : sX G (i + Int32.ofInt 2).toNatClampNeg = a2) (ha3 : sX G (i + Int32.ofInt 3).toNatClampNeg = a3) (hk : kd h x = 16)
    (hop : opT x m o od I' (f_X11_countWordsByListing x a1 a2 h) (fun r k => sl k o 0 r.toInt64) [xN, xA] (fun k => f_X12_countWordsByListing m a1 a2 k) (fun b k => gl k o 0 = Int32.toInt64 b))
    (kk : ∀ h', hOK x m o od h' → I' h' → mW l G m_L_law 12 mc ms 3215 [some (.ref (sB G)), some (.ref x), some (.ref m), some (.ref o), some (.ref od), some (.int i), none, none, none] [] h' Q X) : mW l G m_L_law 12 (mc + 21) (ms + 2586) 1533 [some (.ref (sB G)), some (.ref x), some (.ref m), some (.ref o), some (.ref od), some (.int i), none, none, none] [] h Q X := by
  subst ha1; subst ha2; subst ha3
  refine q_aload_n dL_law_1533 rfl ?_
  refine q_aload_n dL_law_1534 rfl ?_
  refine q_iload dL_law_1535 rfl ?_
  refine q_iconst dL_law_1537 ?_
  refine q_iadd dL_law_1538 ?_
  refine q_sld dL_law_1539 g1 ?_
  refine q_aload_n dL_law_1540 rfl ?_
  refine q_iload dL_law_1541 rfl ?_
  refine q_iconst dL_law_1543 ?_
  refine q_iadd dL_law_1544 ?_
  refine q_sld dL_law_1545 g2 ?_
  refine q_aload_n dL_law_1546 rfl ?_
  obtain ⟨r, hE, hr, hx, hop⟩ := hop
  refine q_room (d' := 12) (mc' := 2 + mc) (ms' := 12 + ms) (Nat.le_refl _) (by omega) (by omega) ?_
  refine r_callSX2 dL_law_1547 KX_246 (c_L_countWordsByListing hE hk (fun _ _ q => by subst q; exact ⟨hr.2.2.1, hr.2.2.2.1⟩) hx) (by decide) (Nat.le_of_ble_eq_true rfl) rfl ?_
  intro v9 k9 hq
  obtain ⟨kk9, b, k2, rfl, hm, hfm, hok, hth, heq, hI⟩ := hop _ _ hq
  refine q_istore dL_law_1550 (by decide) ?_
  refine q_aload_n dL_law_1552 rfl ?_
  refine q_aload_n dL_law_1553 rfl ?_
  refine q_iload dL_law_1554 rfl ?_
  refine q_iconst dL_law_1556 ?_
  refine q_iadd dL_law_1557 ?_
  refine q_sld dL_law_1558 g1 ?_
  refine q_aload_n dL_law_1559 rfl ?_
  refine q_iload dL_law_1560 rfl ?_
  refine q_iconst dL_law_1562 ?_
  refine q_iadd dL_law_1563 ?_
  refine q_sld dL_law_1564 g2 ?_
  refine q_room (d' := 12) (mc' := 0 + mc) (ms' := 0 + ms) (Nat.le_refl _) (by omega) (by omega) ?_
  refine r_callV2 (mc := mc) (ms := ms) (mc' := 0) (ms' := 0) dL_law_1565 KL_248 (c_X12_countWordsByListing hfm) hm (by decide) (Nat.le_of_ble_eq_true rfl) (fun _ _ q => q.elim) ?_
  rintro _ _ ⟨rfl, rfl⟩
  refine q_istore dL_law_1568 (by decide) ?_
  refine q_aload_n dL_law_1570 rfl ?_
  refine q_room (d' := 12) (mc' := 0 + mc) (ms' := 0 + ms) (Nat.le_refl _) (by omega) (by omega) ?_
  refine r_callV0 (mc := mc) (ms := ms) (mc' := 0) (ms' := 0) dL_law_1571 KL_180 (c_X12_thrown (thrown_ok hok.2.1)) hok.2.1 (by decide) (Nat.le_of_ble_eq_true rfl) (fun _ _ q => q.elim) ?_
  rintro _ _ ⟨rfl, rfl⟩
  refine q_iload dL_law_1574 rfl ?_
  refine q_icmp_eq (tgt := 1581) dL_law_1576 (by decide) (fun z => ?_) (fun z => absurd hth z)
  refine q_iload dL_law_1581 rfl ?_
  have kE : mW l G m_L_law 12 mc ms 3215 [some (.ref (sB G)), some (.ref x), some (.ref m), some (.ref o), some (.ref od), some (.int i), some (.int kk9), some (.int b), none] [] k2 Q X := r_fewer [some (.ref (sB G)), some (.ref x), some (.ref m), some (.ref o), some (.ref od), some (.int i), none, none, none] (ls_s (ls_s (ls_s (ls_s (ls_s (ls_s (ls_n (ls_n (ls_n ls_0))))))))) (kk _ hok hI)
  have kL : mW l G m_L_law 12 mc ms 1598 [some (.ref (sB G)), some (.ref x), some (.ref m), some (.ref o), some (.ref od), some (.int i), some (.int kk9), some (.int b), none] [] k2 Q X := q_goto (tgt := 3215) dL_law_1598 (by decide) kE
  refine q_if_ne (tgt := 1598) dL_law_1583 (by decide) (fun z => kL) (fun z2 => ?_)
  have h0 := heq z2
  dsimp only at h0
  refine q_aload_n dL_law_1586 rfl ?_
  refine q_iconst dL_law_1587 ?_
  refine q_laload dL_law_1588 hok.2.2.1 (ix0 hok.2.2.2.1) ?_
  refine q_iload dL_law_1589 rfl ?_
  refine q_i2l dL_law_1591 ?_
  refine q_lcmp dL_law_1592 ?_
  refine q_if_eq (tgt := 1598) dL_law_1593 (by decide) (fun _ => kL) (fun z3 => absurd ((lg_cmp_eq _ _).mpr h0) z3)
set_option maxRecDepth 100000 in
theorem k_21 {l : Launch} {G : mG} {Q : Option Value → mH → Prop} {X : String → mH → Prop} {x m o od mc ms : Nat} {i : Int32} {h : mH} {I' : mH → Prop} {a1 a2 a3 : Int32} (g1 : inb (i + Int32.ofInt 1) (sL G)) (g2 : inb (i + Int32.ofInt 2) (sL G)) (g3 : inb (i + Int32.ofInt 3) (sL G)) (ha1 : sX G (i + Int32.ofInt 1).toNatClampNeg = a1) (ha2 : sX G (i + Int32.ofInt 2).toNatClampNeg = a2) (ha3 : sX G (i + Int32.ofInt 3).toNatClampNeg = a3) (hk : kd h x = 16)
    (hop : opT x m o od I' (f_X11_shortestLength x a1 h) (fun r k => sl k o 0 r.toInt64) [xN] (fun k => f_X12_shortestLength m a1 k) (fun b k => gl k o 0 = Int32.toInt64 b))
    (kk : ∀ h', hOK x m o od h' → I' h' → mW l G m_L_law 12 mc ms 3215 [some (.ref (sB G)), some (.ref x), some (.ref m), some (.ref o), some (.ref od), some (.int i), none, none, none] [] h' Q X) : mW l G m_L_law 12 (mc + 21) (ms + 2586) 1601 [some (.ref (sB G)), some (.ref x), some (.ref m), some (.ref o), some (.ref od), some (.int i), none, none, none] [] h Q X := by
  subst ha1; subst ha2; subst ha3
  refine q_aload_n dL_law_1601 rfl ?_
  refine q_aload_n dL_law_1602 rfl ?_
  refine q_iload dL_law_1603 rfl ?_
  refine q_iconst dL_law_1605 ?_
  refine q_iadd dL_law_1606 ?_
  refine q_sld dL_law_1607 g1 ?_
  refine q_aload_n dL_law_1608 rfl ?_
  obtain ⟨r, hE, hr, hx, hop⟩ := hop
  refine q_room (d' := 12) (mc' := 1 + mc) (ms' := 6 + ms) (Nat.le_refl _) (by omega) (by omega) ?_
  refine r_callSX1 dL_law_1609 KX_249 (c_L_shortestLength hE hk (fun _ _ q => by subst q; exact ⟨hr.2.2.1, hr.2.2.2.1⟩) hx) (by decide) (Nat.le_of_ble_eq_true rfl) rfl ?_
  intro v9 k9 hq
  obtain ⟨kk9, b, k2, rfl, hm, hfm, hok, hth, heq, hI⟩ := hop _ _ hq
  refine q_istore dL_law_1612 (by decide) ?_
  refine q_aload_n dL_law_1614 rfl ?_
  refine q_aload_n dL_law_1615 rfl ?_
  refine q_iload dL_law_1616 rfl ?_
  refine q_iconst dL_law_1618 ?_
  refine q_iadd dL_law_1619 ?_
  refine q_sld dL_law_1620 g1 ?_
  refine q_room (d' := 12) (mc' := 0 + mc) (ms' := 0 + ms) (Nat.le_refl _) (by omega) (by omega) ?_
  refine r_callV1 (mc := mc) (ms := ms) (mc' := 0) (ms' := 0) dL_law_1621 KL_251 (c_X12_shortestLength hfm) hm (by decide) (Nat.le_of_ble_eq_true rfl) (fun _ _ q => q.elim) ?_
  rintro _ _ ⟨rfl, rfl⟩
  refine q_istore dL_law_1624 (by decide) ?_
  refine q_aload_n dL_law_1626 rfl ?_
  refine q_room (d' := 12) (mc' := 0 + mc) (ms' := 0 + ms) (Nat.le_refl _) (by omega) (by omega) ?_
  refine r_callV0 (mc := mc) (ms := ms) (mc' := 0) (ms' := 0) dL_law_1627 KL_180 (c_X12_thrown (thrown_ok hok.2.1)) hok.2.1 (by decide) (Nat.le_of_ble_eq_true rfl) (fun _ _ q => q.elim) ?_
  rintro _ _ ⟨rfl, rfl⟩
  refine q_iload dL_law_1630 rfl ?_
  refine q_icmp_eq (tgt := 1637) dL_law_1632 (by decide) (fun z => ?_) (fun z => absurd hth z)
  refine q_iload dL_law_1637 rfl ?_
  have kE : mW l G m_L_law 12 mc ms 3215 [some (.ref (sB G)), some (.ref x), some (.ref m), some (.ref o), some (.ref od), some (.int i), some (.int kk9), some (.int b), none] [] k2 Q X := r_fewer [some (.ref (sB G)), some (.ref x), some (.ref m), some (.ref o), some (.ref od), some (.int i), none, none, none] (ls_s (ls_s (ls_s (ls_s (ls_s (ls_s (ls_n (ls_n (ls_n ls_0))))))))) (kk _ hok hI)
  have kL : mW l G m_L_law 12 mc ms 1654 [some (.ref (sB G)), some (.ref x), some (.ref m), some (.ref o), some (.ref od), some (.int i), some (.int kk9), some (.int b), none] [] k2 Q X := q_goto (tgt := 3215) dL_law_1654 (by decide) kE
  refine q_if_ne (tgt := 1654) dL_law_1639 (by decide) (fun z => kL) (fun z2 => ?_)
  have h0 := heq z2
  dsimp only at h0
  refine q_aload_n dL_law_1642 rfl ?_
  refine q_iconst dL_law_1643 ?_
  refine q_laload dL_law_1644 hok.2.2.1 (ix0 hok.2.2.2.1) ?_
  refine q_iload dL_law_1645 rfl ?_
  refine q_i2l dL_law_1647 ?_
  refine q_lcmp dL_law_1648 ?_
  refine q_if_eq (tgt := 1654) dL_law_1649 (by decide) (fun _ => kL) (fun z3 => absurd ((lg_cmp_eq _ _).mpr h0) z3)
set_option maxRecDepth 100000 in
theorem k_22 {l : Launch} {G : mG} {Q : Option Value → mH → Prop} {X : String → mH → Prop} {x m o od mc ms : Nat} {i : Int32} {h : mH} {I' : mH → Prop} {a1 a2 a3 : Int32} (g1 : inb (i + Int32.ofInt 1) (sL G)) (g2 : inb (i + Int32.ofInt 2) (sL G)) (g3 : inb (i + Int32.ofInt 3) (sL G)) (ha1 : sX G (i + Int32.ofInt 1).toNatClampNeg = a1) (ha2 : sX G (i + Int32.ofInt 2).toNatClampNeg = a2) (ha3 : sX G (i + Int32.ofInt 3).toNatClampNeg = a3) (hk : kd h x = 16)
    (hop : opT x m o od I' (f_X11_stateCount x a1 h) (fun r k => sl k o 0 r.toInt64) [xN] (fun k => f_X12_stateCount m a1 k) (fun b k => gl k o 0 = Int32.toInt64 b))
    (kk : ∀ h', hOK x m o od h' → I' h' → mW l G m_L_law 12 mc ms 3215 [some (.ref (sB G)), some (.ref x), some (.ref m), some (.ref o), some (.ref od), some (.int i), none, none, none] [] h' Q X) : mW l G m_L_law 12 (mc + 21) (ms + 2586) 1657 [some (.ref (sB G)), some (.ref x), some (.ref m), some (.ref o), some (.ref od), some (.int i), none, none, none] [] h Q X := by
  subst ha1; subst ha2; subst ha3
  refine q_aload_n dL_law_1657 rfl ?_
  refine q_aload_n dL_law_1658 rfl ?_
  refine q_iload dL_law_1659 rfl ?_
  refine q_iconst dL_law_1661 ?_
  refine q_iadd dL_law_1662 ?_
  refine q_sld dL_law_1663 g1 ?_
  refine q_aload_n dL_law_1664 rfl ?_
  obtain ⟨r, hE, hr, hx, hop⟩ := hop
  refine q_room (d' := 12) (mc' := 1 + mc) (ms' := 6 + ms) (Nat.le_refl _) (by omega) (by omega) ?_
  refine r_callSX1 dL_law_1665 KX_252 (c_L_stateCount hE hk (fun _ _ q => by subst q; exact ⟨hr.2.2.1, hr.2.2.2.1⟩) hx) (by decide) (Nat.le_of_ble_eq_true rfl) rfl ?_
  intro v9 k9 hq
  obtain ⟨kk9, b, k2, rfl, hm, hfm, hok, hth, heq, hI⟩ := hop _ _ hq
  refine q_istore dL_law_1668 (by decide) ?_
  refine q_aload_n dL_law_1670 rfl ?_
  refine q_aload_n dL_law_1671 rfl ?_
  refine q_iload dL_law_1672 rfl ?_
  refine q_iconst dL_law_1674 ?_
  refine q_iadd dL_law_1675 ?_
  refine q_sld dL_law_1676 g1 ?_
  refine q_room (d' := 12) (mc' := 0 + mc) (ms' := 0 + ms) (Nat.le_refl _) (by omega) (by omega) ?_
  refine r_callV1 (mc := mc) (ms := ms) (mc' := 0) (ms' := 0) dL_law_1677 KL_254 (c_X12_stateCount hfm) hm (by decide) (Nat.le_of_ble_eq_true rfl) (fun _ _ q => q.elim) ?_
  rintro _ _ ⟨rfl, rfl⟩
  refine q_istore dL_law_1680 (by decide) ?_
  refine q_aload_n dL_law_1682 rfl ?_
  refine q_room (d' := 12) (mc' := 0 + mc) (ms' := 0 + ms) (Nat.le_refl _) (by omega) (by omega) ?_
  refine r_callV0 (mc := mc) (ms := ms) (mc' := 0) (ms' := 0) dL_law_1683 KL_180 (c_X12_thrown (thrown_ok hok.2.1)) hok.2.1 (by decide) (Nat.le_of_ble_eq_true rfl) (fun _ _ q => q.elim) ?_
  rintro _ _ ⟨rfl, rfl⟩
  refine q_iload dL_law_1686 rfl ?_
  refine q_icmp_eq (tgt := 1693) dL_law_1688 (by decide) (fun z => ?_) (fun z => absurd hth z)
  refine q_iload dL_law_1693 rfl ?_
  have kE : mW l G m_L_law 12 mc ms 3215 [some (.ref (sB G)), some (.ref x), some (.ref m), some (.ref o), some (.ref od), some (.int i), some (.int kk9), some (.int b), none] [] k2 Q X := r_fewer [some (.ref (sB G)), some (.ref x), some (.ref m), some (.ref o), some (.ref od), some (.int i), none, none, none] (ls_s (ls_s (ls_s (ls_s (ls_s (ls_s (ls_n (ls_n (ls_n ls_0))))))))) (kk _ hok hI)
  have kL : mW l G m_L_law 12 mc ms 1710 [some (.ref (sB G)), some (.ref x), some (.ref m), some (.ref o), some (.ref od), some (.int i), some (.int kk9), some (.int b), none] [] k2 Q X := q_goto (tgt := 3215) dL_law_1710 (by decide) kE
  refine q_if_ne (tgt := 1710) dL_law_1695 (by decide) (fun z => kL) (fun z2 => ?_)
  have h0 := heq z2
  dsimp only at h0
  refine q_aload_n dL_law_1698 rfl ?_
  refine q_iconst dL_law_1699 ?_
  refine q_laload dL_law_1700 hok.2.2.1 (ix0 hok.2.2.2.1) ?_
  refine q_iload dL_law_1701 rfl ?_
  refine q_i2l dL_law_1703 ?_
  refine q_lcmp dL_law_1704 ?_
  refine q_if_eq (tgt := 1710) dL_law_1705 (by decide) (fun _ => kL) (fun z3 => absurd ((lg_cmp_eq _ _).mpr h0) z3)
set_option maxRecDepth 100000 in
theorem k_23 {l : Launch} {G : mG} {Q : Option Value → mH → Prop} {X : String → mH → Prop} {x m o od mc ms : Nat} {i : Int32} {h : mH} {I' : mH → Prop} {a1 a2 a3 : Int32} (g1 : inb (i + Int32.ofInt 1) (sL G)) (g2 : inb (i + Int32.ofInt 2) (sL G)) (g3 : inb (i + Int32.ofInt 3) (sL G)) (ha1 : sX G (i + Int32.ofInt 1).toNatClampNeg = a1) (ha2 : sX G (i + Int32.ofInt 2).toNatClampNeg = a2) (ha3 : sX G (i + Int32.ofInt 3).toNatClampNeg = a3) (hk : kd h x = 16)
    (hop : opT x m o od I' (f_X11_acceptingCount x a1 h) (fun r k => sl k o 0 r.toInt64) [xN] (fun k => f_X12_acceptingCount m a1 k) (fun b k => gl k o 0 = Int32.toInt64 b))
    (kk : ∀ h', hOK x m o od h' → I' h' → mW l G m_L_law 12 mc ms 3215 [some (.ref (sB G)), some (.ref x), some (.ref m), some (.ref o), some (.ref od), some (.int i), none, none, none] [] h' Q X) : mW l G m_L_law 12 (mc + 21) (ms + 2586) 1713 [some (.ref (sB G)), some (.ref x), some (.ref m), some (.ref o), some (.ref od), some (.int i), none, none, none] [] h Q X := by
  subst ha1; subst ha2; subst ha3
  refine q_aload_n dL_law_1713 rfl ?_
  refine q_aload_n dL_law_1714 rfl ?_
  refine q_iload dL_law_1715 rfl ?_
  refine q_iconst dL_law_1717 ?_
  refine q_iadd dL_law_1718 ?_
  refine q_sld dL_law_1719 g1 ?_
  refine q_aload_n dL_law_1720 rfl ?_
  obtain ⟨r, hE, hr, hx, hop⟩ := hop
  refine q_room (d' := 12) (mc' := 1 + mc) (ms' := 6 + ms) (Nat.le_refl _) (by omega) (by omega) ?_
  refine r_callSX1 dL_law_1721 KX_255 (c_L_acceptingCount hE hk (fun _ _ q => by subst q; exact ⟨hr.2.2.1, hr.2.2.2.1⟩) hx) (by decide) (Nat.le_of_ble_eq_true rfl) rfl ?_
  intro v9 k9 hq
  obtain ⟨kk9, b, k2, rfl, hm, hfm, hok, hth, heq, hI⟩ := hop _ _ hq
  refine q_istore dL_law_1724 (by decide) ?_
  refine q_aload_n dL_law_1726 rfl ?_
  refine q_aload_n dL_law_1727 rfl ?_
  refine q_iload dL_law_1728 rfl ?_
  refine q_iconst dL_law_1730 ?_
  refine q_iadd dL_law_1731 ?_
  refine q_sld dL_law_1732 g1 ?_
  refine q_room (d' := 12) (mc' := 0 + mc) (ms' := 0 + ms) (Nat.le_refl _) (by omega) (by omega) ?_
  refine r_callV1 (mc := mc) (ms := ms) (mc' := 0) (ms' := 0) dL_law_1733 KL_257 (c_X12_acceptingCount hfm) hm (by decide) (Nat.le_of_ble_eq_true rfl) (fun _ _ q => q.elim) ?_
  rintro _ _ ⟨rfl, rfl⟩
  refine q_istore dL_law_1736 (by decide) ?_
  refine q_aload_n dL_law_1738 rfl ?_
  refine q_room (d' := 12) (mc' := 0 + mc) (ms' := 0 + ms) (Nat.le_refl _) (by omega) (by omega) ?_
  refine r_callV0 (mc := mc) (ms := ms) (mc' := 0) (ms' := 0) dL_law_1739 KL_180 (c_X12_thrown (thrown_ok hok.2.1)) hok.2.1 (by decide) (Nat.le_of_ble_eq_true rfl) (fun _ _ q => q.elim) ?_
  rintro _ _ ⟨rfl, rfl⟩
  refine q_iload dL_law_1742 rfl ?_
  refine q_icmp_eq (tgt := 1749) dL_law_1744 (by decide) (fun z => ?_) (fun z => absurd hth z)
  refine q_iload dL_law_1749 rfl ?_
  have kE : mW l G m_L_law 12 mc ms 3215 [some (.ref (sB G)), some (.ref x), some (.ref m), some (.ref o), some (.ref od), some (.int i), some (.int kk9), some (.int b), none] [] k2 Q X := r_fewer [some (.ref (sB G)), some (.ref x), some (.ref m), some (.ref o), some (.ref od), some (.int i), none, none, none] (ls_s (ls_s (ls_s (ls_s (ls_s (ls_s (ls_n (ls_n (ls_n ls_0))))))))) (kk _ hok hI)
  have kL : mW l G m_L_law 12 mc ms 1766 [some (.ref (sB G)), some (.ref x), some (.ref m), some (.ref o), some (.ref od), some (.int i), some (.int kk9), some (.int b), none] [] k2 Q X := q_goto (tgt := 3215) dL_law_1766 (by decide) kE
  refine q_if_ne (tgt := 1766) dL_law_1751 (by decide) (fun z => kL) (fun z2 => ?_)
  have h0 := heq z2
  dsimp only at h0
  refine q_aload_n dL_law_1754 rfl ?_
  refine q_iconst dL_law_1755 ?_
  refine q_laload dL_law_1756 hok.2.2.1 (ix0 hok.2.2.2.1) ?_
  refine q_iload dL_law_1757 rfl ?_
  refine q_i2l dL_law_1759 ?_
  refine q_lcmp dL_law_1760 ?_
  refine q_if_eq (tgt := 1766) dL_law_1761 (by decide) (fun _ => kL) (fun z3 => absurd ((lg_cmp_eq _ _).mpr h0) z3)
set_option maxRecDepth 100000 in
theorem k_24 {l : Launch} {G : mG} {Q : Option Value → mH → Prop} {X : String → mH → Prop} {x m o od mc ms : Nat} {i : Int32} {h : mH} {I' : mH → Prop} {a1 a2 a3 : Int32} (g1 : inb (i + Int32.ofInt 1) (sL G)) (g2 : inb (i + Int32.ofInt 2) (sL G)) (g3 : inb (i + Int32.ofInt 3) (sL G)) (ha1 : sX G (i + Int32.ofInt 1).toNatClampNeg = a1) (ha2 : sX G (i + Int32.ofInt 2).toNatClampNeg = a2) (ha3 : sX G (i + Int32.ofInt 3).toNatClampNeg = a3) (hk : kd h x = 16)
    (hop : opT x m o od I' (f_X11_smallestCount x a1 h) (fun r k => sl k o 0 r.toInt64) [xN] (fun k => f_X12_smallestCount m a1 k) (fun b k => gl k o 0 = Int32.toInt64 b))
    (kk : ∀ h', hOK x m o od h' → I' h' → mW l G m_L_law 12 mc ms 3215 [some (.ref (sB G)), some (.ref x), some (.ref m), some (.ref o), some (.ref od), some (.int i), none, none, none] [] h' Q X) : mW l G m_L_law 12 (mc + 21) (ms + 2586) 1769 [some (.ref (sB G)), some (.ref x), some (.ref m), some (.ref o), some (.ref od), some (.int i), none, none, none] [] h Q X := by
  subst ha1; subst ha2; subst ha3
  refine q_aload_n dL_law_1769 rfl ?_
  refine q_aload_n dL_law_1770 rfl ?_
  refine q_iload dL_law_1771 rfl ?_
  refine q_iconst dL_law_1773 ?_
  refine q_iadd dL_law_1774 ?_
  refine q_sld dL_law_1775 g1 ?_
  refine q_aload_n dL_law_1776 rfl ?_
  obtain ⟨r, hE, hr, hx, hop⟩ := hop
  refine q_room (d' := 12) (mc' := 1 + mc) (ms' := 6 + ms) (Nat.le_refl _) (by omega) (by omega) ?_
  refine r_callSX1 dL_law_1777 KX_258 (c_L_smallestCount hE hk (fun _ _ q => by subst q; exact ⟨hr.2.2.1, hr.2.2.2.1⟩) hx) (by decide) (Nat.le_of_ble_eq_true rfl) rfl ?_
  intro v9 k9 hq
  obtain ⟨kk9, b, k2, rfl, hm, hfm, hok, hth, heq, hI⟩ := hop _ _ hq
  refine q_istore dL_law_1780 (by decide) ?_
  refine q_aload_n dL_law_1782 rfl ?_
  refine q_aload_n dL_law_1783 rfl ?_
  refine q_iload dL_law_1784 rfl ?_
  refine q_iconst dL_law_1786 ?_
  refine q_iadd dL_law_1787 ?_
  refine q_sld dL_law_1788 g1 ?_
  refine q_room (d' := 12) (mc' := 0 + mc) (ms' := 0 + ms) (Nat.le_refl _) (by omega) (by omega) ?_
  refine r_callV1 (mc := mc) (ms := ms) (mc' := 0) (ms' := 0) dL_law_1789 KL_260 (c_X12_smallestCount hfm) hm (by decide) (Nat.le_of_ble_eq_true rfl) (fun _ _ q => q.elim) ?_
  rintro _ _ ⟨rfl, rfl⟩
  refine q_istore dL_law_1792 (by decide) ?_
  refine q_aload_n dL_law_1794 rfl ?_
  refine q_room (d' := 12) (mc' := 0 + mc) (ms' := 0 + ms) (Nat.le_refl _) (by omega) (by omega) ?_
  refine r_callV0 (mc := mc) (ms := ms) (mc' := 0) (ms' := 0) dL_law_1795 KL_180 (c_X12_thrown (thrown_ok hok.2.1)) hok.2.1 (by decide) (Nat.le_of_ble_eq_true rfl) (fun _ _ q => q.elim) ?_
  rintro _ _ ⟨rfl, rfl⟩
  refine q_iload dL_law_1798 rfl ?_
  refine q_icmp_eq (tgt := 1805) dL_law_1800 (by decide) (fun z => ?_) (fun z => absurd hth z)
  refine q_iload dL_law_1805 rfl ?_
  have kE : mW l G m_L_law 12 mc ms 3215 [some (.ref (sB G)), some (.ref x), some (.ref m), some (.ref o), some (.ref od), some (.int i), some (.int kk9), some (.int b), none] [] k2 Q X := r_fewer [some (.ref (sB G)), some (.ref x), some (.ref m), some (.ref o), some (.ref od), some (.int i), none, none, none] (ls_s (ls_s (ls_s (ls_s (ls_s (ls_s (ls_n (ls_n (ls_n ls_0))))))))) (kk _ hok hI)
  have kL : mW l G m_L_law 12 mc ms 1822 [some (.ref (sB G)), some (.ref x), some (.ref m), some (.ref o), some (.ref od), some (.int i), some (.int kk9), some (.int b), none] [] k2 Q X := q_goto (tgt := 3215) dL_law_1822 (by decide) kE
  refine q_if_ne (tgt := 1822) dL_law_1807 (by decide) (fun z => kL) (fun z2 => ?_)
  have h0 := heq z2
  dsimp only at h0
  refine q_aload_n dL_law_1810 rfl ?_
  refine q_iconst dL_law_1811 ?_
  refine q_laload dL_law_1812 hok.2.2.1 (ix0 hok.2.2.2.1) ?_
  refine q_iload dL_law_1813 rfl ?_
  refine q_i2l dL_law_1815 ?_
  refine q_lcmp dL_law_1816 ?_
  refine q_if_eq (tgt := 1822) dL_law_1817 (by decide) (fun _ => kL) (fun z3 => absurd ((lg_cmp_eq _ _).mpr h0) z3)
set_option maxRecDepth 100000 in
theorem k_25 {l : Launch} {G : mG} {Q : Option Value → mH → Prop} {X : String → mH → Prop} {x m o od mc ms : Nat} {i : Int32} {h : mH} {I' : mH → Prop} {a1 a2 a3 : Int32} (g1 : inb (i + Int32.ofInt 1) (sL G)) (g2 : inb (i + Int32.ofInt 2) (sL G)) (g3 : inb (i + Int32.ofInt 3) (sL G)) (ha1 : sX G (i + Int32.ofInt 1).toNatClampNeg = a1) (ha2 : sX G (i + Int32.ofInt 2).toNatClampNeg = a2) (ha3 : sX G (i + Int32.ofInt 3).toNatClampNeg = a3) (hk : kd h x = 16)
    (hop : opT x m o od I' (f_X11_smallestCountByPairs x a1 h) (fun r k => sl k o 0 r.toInt64) [xN] (fun k => f_X12_smallestCountByPairs m a1 k) (fun b k => gl k o 0 = Int32.toInt64 b))
    (kk : ∀ h', hOK x m o od h' → I' h' → mW l G m_L_law 12 mc ms 3215 [some (.ref (sB G)), some (.ref x), some (.ref m), some (.ref o), some (.ref od), some (.int i), none, none, none] [] h' Q X) : mW l G m_L_law 12 (mc + 21) (ms + 2586) 1825 [some (.ref (sB G)), some (.ref x), some (.ref m), some (.ref o), some (.ref od), some (.int i), none, none, none] [] h Q X := by
  subst ha1; subst ha2; subst ha3
  refine q_aload_n dL_law_1825 rfl ?_
  refine q_aload_n dL_law_1826 rfl ?_
  refine q_iload dL_law_1827 rfl ?_
  refine q_iconst dL_law_1829 ?_
  refine q_iadd dL_law_1830 ?_
  refine q_sld dL_law_1831 g1 ?_
  refine q_aload_n dL_law_1832 rfl ?_
  obtain ⟨r, hE, hr, hx, hop⟩ := hop
  refine q_room (d' := 12) (mc' := 1 + mc) (ms' := 6 + ms) (Nat.le_refl _) (by omega) (by omega) ?_
  refine r_callSX1 dL_law_1833 KX_261 (c_L_smallestCountByPairs hE hk (fun _ _ q => by subst q; exact ⟨hr.2.2.1, hr.2.2.2.1⟩) hx) (by decide) (Nat.le_of_ble_eq_true rfl) rfl ?_
  intro v9 k9 hq
  obtain ⟨kk9, b, k2, rfl, hm, hfm, hok, hth, heq, hI⟩ := hop _ _ hq
  refine q_istore dL_law_1836 (by decide) ?_
  refine q_aload_n dL_law_1838 rfl ?_
  refine q_aload_n dL_law_1839 rfl ?_
  refine q_iload dL_law_1840 rfl ?_
  refine q_iconst dL_law_1842 ?_
  refine q_iadd dL_law_1843 ?_
  refine q_sld dL_law_1844 g1 ?_
  refine q_room (d' := 12) (mc' := 0 + mc) (ms' := 0 + ms) (Nat.le_refl _) (by omega) (by omega) ?_
  refine r_callV1 (mc := mc) (ms := ms) (mc' := 0) (ms' := 0) dL_law_1845 KL_263 (c_X12_smallestCountByPairs hfm) hm (by decide) (Nat.le_of_ble_eq_true rfl) (fun _ _ q => q.elim) ?_
  rintro _ _ ⟨rfl, rfl⟩
  refine q_istore dL_law_1848 (by decide) ?_
  refine q_aload_n dL_law_1850 rfl ?_
  refine q_room (d' := 12) (mc' := 0 + mc) (ms' := 0 + ms) (Nat.le_refl _) (by omega) (by omega) ?_
  refine r_callV0 (mc := mc) (ms := ms) (mc' := 0) (ms' := 0) dL_law_1851 KL_180 (c_X12_thrown (thrown_ok hok.2.1)) hok.2.1 (by decide) (Nat.le_of_ble_eq_true rfl) (fun _ _ q => q.elim) ?_
  rintro _ _ ⟨rfl, rfl⟩
  refine q_iload dL_law_1854 rfl ?_
  refine q_icmp_eq (tgt := 1861) dL_law_1856 (by decide) (fun z => ?_) (fun z => absurd hth z)
  refine q_iload dL_law_1861 rfl ?_
  have kE : mW l G m_L_law 12 mc ms 3215 [some (.ref (sB G)), some (.ref x), some (.ref m), some (.ref o), some (.ref od), some (.int i), some (.int kk9), some (.int b), none] [] k2 Q X := r_fewer [some (.ref (sB G)), some (.ref x), some (.ref m), some (.ref o), some (.ref od), some (.int i), none, none, none] (ls_s (ls_s (ls_s (ls_s (ls_s (ls_s (ls_n (ls_n (ls_n ls_0))))))))) (kk _ hok hI)
  have kL : mW l G m_L_law 12 mc ms 1878 [some (.ref (sB G)), some (.ref x), some (.ref m), some (.ref o), some (.ref od), some (.int i), some (.int kk9), some (.int b), none] [] k2 Q X := q_goto (tgt := 3215) dL_law_1878 (by decide) kE
  refine q_if_ne (tgt := 1878) dL_law_1863 (by decide) (fun z => kL) (fun z2 => ?_)
  have h0 := heq z2
  dsimp only at h0
  refine q_aload_n dL_law_1866 rfl ?_
  refine q_iconst dL_law_1867 ?_
  refine q_laload dL_law_1868 hok.2.2.1 (ix0 hok.2.2.2.1) ?_
  refine q_iload dL_law_1869 rfl ?_
  refine q_i2l dL_law_1871 ?_
  refine q_lcmp dL_law_1872 ?_
  refine q_if_eq (tgt := 1878) dL_law_1873 (by decide) (fun _ => kL) (fun z3 => absurd ((lg_cmp_eq _ _).mpr h0) z3)
set_option maxRecDepth 100000 in
theorem k_26 {l : Launch} {G : mG} {Q : Option Value → mH → Prop} {X : String → mH → Prop} {x m o od mc ms : Nat} {i : Int32} {h : mH} {I' : mH → Prop} {a1 a2 a3 : Int32} (g1 : inb (i + Int32.ofInt 1) (sL G)) (g2 : inb (i + Int32.ofInt 2) (sL G)) (g3 : inb (i + Int32.ofInt 3) (sL G)) (ha1 : sX G (i + Int32.ofInt 1).toNatClampNeg = a1) (ha2 : sX G (i + Int32.ofInt 2).toNatClampNeg = a2) (ha3 : sX G (i + Int32.ofInt 3).toNatClampNeg = a3) (hk : kd h x = 16)
    (hop : opT x m o od I' (f_X11_isFinite x a1 h) (fun r k => sl k o 0 (if r = 0 then Int64.ofNat 0 else Int64.ofNat 1)) [xN] (fun k => f_X12_isFinite m a1 k) (fun b k => gl k o 0 = if b = 0 then Int64.ofNat 0 else Int64.ofNat 1))
    (kk : ∀ h', hOK x m o od h' → I' h' → mW l G m_L_law 12 mc ms 3215 [some (.ref (sB G)), some (.ref x), some (.ref m), some (.ref o), some (.ref od), some (.int i), none, none, none] [] h' Q X) : mW l G m_L_law 12 (mc + 21) (ms + 2586) 1881 [some (.ref (sB G)), some (.ref x), some (.ref m), some (.ref o), some (.ref od), some (.int i), none, none, none] [] h Q X := by
  subst ha1; subst ha2; subst ha3
  refine q_aload_n dL_law_1881 rfl ?_
  refine q_aload_n dL_law_1882 rfl ?_
  refine q_iload dL_law_1883 rfl ?_
  refine q_iconst dL_law_1885 ?_
  refine q_iadd dL_law_1886 ?_
  refine q_sld dL_law_1887 g1 ?_
  refine q_aload_n dL_law_1888 rfl ?_
  obtain ⟨r, hE, hr, hx, hop⟩ := hop
  refine q_room (d' := 12) (mc' := 1 + mc) (ms' := 6 + ms) (Nat.le_refl _) (by omega) (by omega) ?_
  refine r_callSX1 dL_law_1889 KX_264 (c_L_isFinite hE hk (fun _ _ q => by subst q; exact ⟨hr.2.2.1, hr.2.2.2.1⟩) hx) (by decide) (Nat.le_of_ble_eq_true rfl) rfl ?_
  intro v9 k9 hq
  obtain ⟨kk9, b, k2, rfl, hm, hfm, hok, hth, heq, hI⟩ := hop _ _ hq
  refine q_istore dL_law_1892 (by decide) ?_
  refine q_aload_n dL_law_1894 rfl ?_
  refine q_aload_n dL_law_1895 rfl ?_
  refine q_iload dL_law_1896 rfl ?_
  refine q_iconst dL_law_1898 ?_
  refine q_iadd dL_law_1899 ?_
  refine q_sld dL_law_1900 g1 ?_
  refine q_room (d' := 12) (mc' := 0 + mc) (ms' := 0 + ms) (Nat.le_refl _) (by omega) (by omega) ?_
  refine r_callV1 (mc := mc) (ms := ms) (mc' := 0) (ms' := 0) dL_law_1901 KL_266 (c_X12_isFinite hfm) hm (by decide) (Nat.le_of_ble_eq_true rfl) (fun _ _ q => q.elim) ?_
  rintro _ _ ⟨rfl, rfl⟩
  refine q_istore dL_law_1904 (by decide) ?_
  refine q_aload_n dL_law_1906 rfl ?_
  refine q_room (d' := 12) (mc' := 0 + mc) (ms' := 0 + ms) (Nat.le_refl _) (by omega) (by omega) ?_
  refine r_callV0 (mc := mc) (ms := ms) (mc' := 0) (ms' := 0) dL_law_1907 KL_180 (c_X12_thrown (thrown_ok hok.2.1)) hok.2.1 (by decide) (Nat.le_of_ble_eq_true rfl) (fun _ _ q => q.elim) ?_
  rintro _ _ ⟨rfl, rfl⟩
  refine q_iload dL_law_1910 rfl ?_
  refine q_icmp_eq (tgt := 1917) dL_law_1912 (by decide) (fun z => ?_) (fun z => absurd hth z)
  refine q_iload dL_law_1917 rfl ?_
  have kE : mW l G m_L_law 12 mc ms 3215 [some (.ref (sB G)), some (.ref x), some (.ref m), some (.ref o), some (.ref od), some (.int i), some (.int kk9), some (.int b), none] [] k2 Q X := r_fewer [some (.ref (sB G)), some (.ref x), some (.ref m), some (.ref o), some (.ref od), some (.int i), none, none, none] (ls_s (ls_s (ls_s (ls_s (ls_s (ls_s (ls_n (ls_n (ls_n ls_0))))))))) (kk _ hok hI)
  have kL : mW l G m_L_law 12 mc ms 1941 [some (.ref (sB G)), some (.ref x), some (.ref m), some (.ref o), some (.ref od), some (.int i), some (.int kk9), some (.int b), none] [] k2 Q X := q_goto (tgt := 3215) dL_law_1941 (by decide) kE
  refine q_if_ne (tgt := 1941) dL_law_1919 (by decide) (fun z => kL) (fun z2 => ?_)
  have h0 := heq z2
  dsimp only at h0
  refine q_aload_n dL_law_1922 rfl ?_
  refine q_iconst dL_law_1923 ?_
  refine q_laload dL_law_1924 hok.2.2.1 (ix0 hok.2.2.2.1) ?_
  refine q_iload dL_law_1925 rfl ?_
  refine q_if_eq (tgt := 1934) dL_law_1927 (by decide) (fun z4 => ?_) (fun z4 => ?_)
  · rw [if_pos z4] at h0
    refine q_lconst dL_law_1934 ?_
    refine q_lcmp dL_law_1935 ?_
    refine q_if_eq (tgt := 1941) dL_law_1936 (by decide) (fun _ => kL) (fun z3 => absurd ((lg_cmp_eq _ _).mpr h0) z3)
  · rw [if_neg z4] at h0
    refine q_lconst dL_law_1930 ?_
    refine q_goto (tgt := 1935) dL_law_1931 (by decide) ?_
    refine q_lcmp dL_law_1935 ?_
    refine q_if_eq (tgt := 1941) dL_law_1936 (by decide) (fun _ => kL) (fun z3 => absurd ((lg_cmp_eq _ _).mpr h0) z3)
set_option maxRecDepth 100000 in
theorem k_27 {l : Launch} {G : mG} {Q : Option Value → mH → Prop} {X : String → mH → Prop} {x m o od mc ms : Nat} {i : Int32} {h : mH} {I' : mH → Prop} {a1 a2 a3 : Int32} (g1 : inb (i + Int32.ofInt 1) (sL G)) (g2 : inb (i + Int32.ofInt 2) (sL G)) (g3 : inb (i + Int32.ofInt 3) (sL G)) (ha1 : sX G (i + Int32.ofInt 1).toNatClampNeg = a1) (ha2 : sX G (i + Int32.ofInt 2).toNatClampNeg = a2) (ha3 : sX G (i + Int32.ofInt 3).toNatClampNeg = a3) (hk : kd h x = 16)
    (hop : opT x m o od I' (f_X11_isUniversal x a1 h) (fun r k => sl k o 0 (if r = 0 then Int64.ofNat 0 else Int64.ofNat 1)) [xN] (fun k => f_X12_isUniversal m a1 k) (fun b k => gl k o 0 = if b = 0 then Int64.ofNat 0 else Int64.ofNat 1))
    (kk : ∀ h', hOK x m o od h' → I' h' → mW l G m_L_law 12 mc ms 3215 [some (.ref (sB G)), some (.ref x), some (.ref m), some (.ref o), some (.ref od), some (.int i), none, none, none] [] h' Q X) : mW l G m_L_law 12 (mc + 21) (ms + 2586) 1944 [some (.ref (sB G)), some (.ref x), some (.ref m), some (.ref o), some (.ref od), some (.int i), none, none, none] [] h Q X := by
  subst ha1; subst ha2; subst ha3
  refine q_aload_n dL_law_1944 rfl ?_
  refine q_aload_n dL_law_1945 rfl ?_
  refine q_iload dL_law_1946 rfl ?_
  refine q_iconst dL_law_1948 ?_
  refine q_iadd dL_law_1949 ?_
  refine q_sld dL_law_1950 g1 ?_
  refine q_aload_n dL_law_1951 rfl ?_
  obtain ⟨r, hE, hr, hx, hop⟩ := hop
  refine q_room (d' := 12) (mc' := 1 + mc) (ms' := 6 + ms) (Nat.le_refl _) (by omega) (by omega) ?_
  refine r_callSX1 dL_law_1952 KX_267 (c_L_isUniversal hE hk (fun _ _ q => by subst q; exact ⟨hr.2.2.1, hr.2.2.2.1⟩) hx) (by decide) (Nat.le_of_ble_eq_true rfl) rfl ?_
  intro v9 k9 hq
  obtain ⟨kk9, b, k2, rfl, hm, hfm, hok, hth, heq, hI⟩ := hop _ _ hq
  refine q_istore dL_law_1955 (by decide) ?_
  refine q_aload_n dL_law_1957 rfl ?_
  refine q_aload_n dL_law_1958 rfl ?_
  refine q_iload dL_law_1959 rfl ?_
  refine q_iconst dL_law_1961 ?_
  refine q_iadd dL_law_1962 ?_
  refine q_sld dL_law_1963 g1 ?_
  refine q_room (d' := 12) (mc' := 0 + mc) (ms' := 0 + ms) (Nat.le_refl _) (by omega) (by omega) ?_
  refine r_callV1 (mc := mc) (ms := ms) (mc' := 0) (ms' := 0) dL_law_1964 KL_269 (c_X12_isUniversal hfm) hm (by decide) (Nat.le_of_ble_eq_true rfl) (fun _ _ q => q.elim) ?_
  rintro _ _ ⟨rfl, rfl⟩
  refine q_istore dL_law_1967 (by decide) ?_
  refine q_aload_n dL_law_1969 rfl ?_
  refine q_room (d' := 12) (mc' := 0 + mc) (ms' := 0 + ms) (Nat.le_refl _) (by omega) (by omega) ?_
  refine r_callV0 (mc := mc) (ms := ms) (mc' := 0) (ms' := 0) dL_law_1970 KL_180 (c_X12_thrown (thrown_ok hok.2.1)) hok.2.1 (by decide) (Nat.le_of_ble_eq_true rfl) (fun _ _ q => q.elim) ?_
  rintro _ _ ⟨rfl, rfl⟩
  refine q_iload dL_law_1973 rfl ?_
  refine q_icmp_eq (tgt := 1980) dL_law_1975 (by decide) (fun z => ?_) (fun z => absurd hth z)
  refine q_iload dL_law_1980 rfl ?_
  have kE : mW l G m_L_law 12 mc ms 3215 [some (.ref (sB G)), some (.ref x), some (.ref m), some (.ref o), some (.ref od), some (.int i), some (.int kk9), some (.int b), none] [] k2 Q X := r_fewer [some (.ref (sB G)), some (.ref x), some (.ref m), some (.ref o), some (.ref od), some (.int i), none, none, none] (ls_s (ls_s (ls_s (ls_s (ls_s (ls_s (ls_n (ls_n (ls_n ls_0))))))))) (kk _ hok hI)
  have kL : mW l G m_L_law 12 mc ms 2004 [some (.ref (sB G)), some (.ref x), some (.ref m), some (.ref o), some (.ref od), some (.int i), some (.int kk9), some (.int b), none] [] k2 Q X := q_goto (tgt := 3215) dL_law_2004 (by decide) kE
  refine q_if_ne (tgt := 2004) dL_law_1982 (by decide) (fun z => kL) (fun z2 => ?_)
  have h0 := heq z2
  dsimp only at h0
  refine q_aload_n dL_law_1985 rfl ?_
  refine q_iconst dL_law_1986 ?_
  refine q_laload dL_law_1987 hok.2.2.1 (ix0 hok.2.2.2.1) ?_
  refine q_iload dL_law_1988 rfl ?_
  refine q_if_eq (tgt := 1997) dL_law_1990 (by decide) (fun z4 => ?_) (fun z4 => ?_)
  · rw [if_pos z4] at h0
    refine q_lconst dL_law_1997 ?_
    refine q_lcmp dL_law_1998 ?_
    refine q_if_eq (tgt := 2004) dL_law_1999 (by decide) (fun _ => kL) (fun z3 => absurd ((lg_cmp_eq _ _).mpr h0) z3)
  · rw [if_neg z4] at h0
    refine q_lconst dL_law_1993 ?_
    refine q_goto (tgt := 1998) dL_law_1994 (by decide) ?_
    refine q_lcmp dL_law_1998 ?_
    refine q_if_eq (tgt := 2004) dL_law_1999 (by decide) (fun _ => kL) (fun z3 => absurd ((lg_cmp_eq _ _).mpr h0) z3)
set_option maxRecDepth 100000 in
theorem k_28 {l : Launch} {G : mG} {Q : Option Value → mH → Prop} {X : String → mH → Prop} {x m o od mc ms : Nat} {i : Int32} {h : mH} {I' : mH → Prop} {a1 a2 a3 : Int32} (g1 : inb (i + Int32.ofInt 1) (sL G)) (g2 : inb (i + Int32.ofInt 2) (sL G)) (g3 : inb (i + Int32.ofInt 3) (sL G)) (ha1 : sX G (i + Int32.ofInt 1).toNatClampNeg = a1) (ha2 : sX G (i + Int32.ofInt 2).toNatClampNeg = a2) (ha3 : sX G (i + Int32.ofInt 3).toNatClampNeg = a3) (hk : kd h x = 16)
    (hop : opT x m o od I' (f_X11_areEquivalent x a1 a2 h) (fun r k => sl k o 0 (if r = 0 then Int64.ofNat 0 else Int64.ofNat 1)) [xN] (fun k => f_X12_areEquivalent m a1 a2 k) (fun b k => gl k o 0 = if b = 0 then Int64.ofNat 0 else Int64.ofNat 1))
    (kk : ∀ h', hOK x m o od h' → I' h' → mW l G m_L_law 12 mc ms 3215 [some (.ref (sB G)), some (.ref x), some (.ref m), some (.ref o), some (.ref od), some (.int i), none, none, none] [] h' Q X) : mW l G m_L_law 12 (mc + 21) (ms + 2586) 2007 [some (.ref (sB G)), some (.ref x), some (.ref m), some (.ref o), some (.ref od), some (.int i), none, none, none] [] h Q X := by
  subst ha1; subst ha2; subst ha3
  refine q_aload_n dL_law_2007 rfl ?_
  refine q_aload_n dL_law_2008 rfl ?_
  refine q_iload dL_law_2009 rfl ?_
  refine q_iconst dL_law_2011 ?_
  refine q_iadd dL_law_2012 ?_
  refine q_sld dL_law_2013 g1 ?_
  refine q_aload_n dL_law_2014 rfl ?_
  refine q_iload dL_law_2015 rfl ?_
  refine q_iconst dL_law_2017 ?_
  refine q_iadd dL_law_2018 ?_
  refine q_sld dL_law_2019 g2 ?_
  refine q_aload_n dL_law_2020 rfl ?_
  obtain ⟨r, hE, hr, hx, hop⟩ := hop
  refine q_room (d' := 12) (mc' := 2 + mc) (ms' := 12 + ms) (Nat.le_refl _) (by omega) (by omega) ?_
  refine r_callSX2 dL_law_2021 KX_270 (c_L_areEquivalent hE hk (fun _ _ q => by subst q; exact ⟨hr.2.2.1, hr.2.2.2.1⟩) hx) (by decide) (Nat.le_of_ble_eq_true rfl) rfl ?_
  intro v9 k9 hq
  obtain ⟨kk9, b, k2, rfl, hm, hfm, hok, hth, heq, hI⟩ := hop _ _ hq
  refine q_istore dL_law_2024 (by decide) ?_
  refine q_aload_n dL_law_2026 rfl ?_
  refine q_aload_n dL_law_2027 rfl ?_
  refine q_iload dL_law_2028 rfl ?_
  refine q_iconst dL_law_2030 ?_
  refine q_iadd dL_law_2031 ?_
  refine q_sld dL_law_2032 g1 ?_
  refine q_aload_n dL_law_2033 rfl ?_
  refine q_iload dL_law_2034 rfl ?_
  refine q_iconst dL_law_2036 ?_
  refine q_iadd dL_law_2037 ?_
  refine q_sld dL_law_2038 g2 ?_
  refine q_room (d' := 12) (mc' := 0 + mc) (ms' := 0 + ms) (Nat.le_refl _) (by omega) (by omega) ?_
  refine r_callV2 (mc := mc) (ms := ms) (mc' := 0) (ms' := 0) dL_law_2039 KL_272 (c_X12_areEquivalent hfm) hm (by decide) (Nat.le_of_ble_eq_true rfl) (fun _ _ q => q.elim) ?_
  rintro _ _ ⟨rfl, rfl⟩
  refine q_istore dL_law_2042 (by decide) ?_
  refine q_aload_n dL_law_2044 rfl ?_
  refine q_room (d' := 12) (mc' := 0 + mc) (ms' := 0 + ms) (Nat.le_refl _) (by omega) (by omega) ?_
  refine r_callV0 (mc := mc) (ms := ms) (mc' := 0) (ms' := 0) dL_law_2045 KL_180 (c_X12_thrown (thrown_ok hok.2.1)) hok.2.1 (by decide) (Nat.le_of_ble_eq_true rfl) (fun _ _ q => q.elim) ?_
  rintro _ _ ⟨rfl, rfl⟩
  refine q_iload dL_law_2048 rfl ?_
  refine q_icmp_eq (tgt := 2055) dL_law_2050 (by decide) (fun z => ?_) (fun z => absurd hth z)
  refine q_iload dL_law_2055 rfl ?_
  have kE : mW l G m_L_law 12 mc ms 3215 [some (.ref (sB G)), some (.ref x), some (.ref m), some (.ref o), some (.ref od), some (.int i), some (.int kk9), some (.int b), none] [] k2 Q X := r_fewer [some (.ref (sB G)), some (.ref x), some (.ref m), some (.ref o), some (.ref od), some (.int i), none, none, none] (ls_s (ls_s (ls_s (ls_s (ls_s (ls_s (ls_n (ls_n (ls_n ls_0))))))))) (kk _ hok hI)
  have kL : mW l G m_L_law 12 mc ms 2079 [some (.ref (sB G)), some (.ref x), some (.ref m), some (.ref o), some (.ref od), some (.int i), some (.int kk9), some (.int b), none] [] k2 Q X := q_goto (tgt := 3215) dL_law_2079 (by decide) kE
  refine q_if_ne (tgt := 2079) dL_law_2057 (by decide) (fun z => kL) (fun z2 => ?_)
  have h0 := heq z2
  dsimp only at h0
  refine q_aload_n dL_law_2060 rfl ?_
  refine q_iconst dL_law_2061 ?_
  refine q_laload dL_law_2062 hok.2.2.1 (ix0 hok.2.2.2.1) ?_
  refine q_iload dL_law_2063 rfl ?_
  refine q_if_eq (tgt := 2072) dL_law_2065 (by decide) (fun z4 => ?_) (fun z4 => ?_)
  · rw [if_pos z4] at h0
    refine q_lconst dL_law_2072 ?_
    refine q_lcmp dL_law_2073 ?_
    refine q_if_eq (tgt := 2079) dL_law_2074 (by decide) (fun _ => kL) (fun z3 => absurd ((lg_cmp_eq _ _).mpr h0) z3)
  · rw [if_neg z4] at h0
    refine q_lconst dL_law_2068 ?_
    refine q_goto (tgt := 2073) dL_law_2069 (by decide) ?_
    refine q_lcmp dL_law_2073 ?_
    refine q_if_eq (tgt := 2079) dL_law_2074 (by decide) (fun _ => kL) (fun z3 => absurd ((lg_cmp_eq _ _).mpr h0) z3)
set_option maxRecDepth 100000 in
theorem k_29 {l : Launch} {G : mG} {Q : Option Value → mH → Prop} {X : String → mH → Prop} {x m o od mc ms : Nat} {i : Int32} {h : mH} {I' : mH → Prop} {a1 a2 a3 : Int32} (g1 : inb (i + Int32.ofInt 1) (sL G)) (g2 : inb (i + Int32.ofInt 2) (sL G)) (g3 : inb (i + Int32.ofInt 3) (sL G)) (ha1 : sX G (i + Int32.ofInt 1).toNatClampNeg = a1) (ha2 : sX G (i + Int32.ofInt 2).toNatClampNeg = a2) (ha3 : sX G (i + Int32.ofInt 3).toNatClampNeg = a3) (hk : kd h x = 16)
    (hop : opT x m o od I' (f_X11_areEquivalentBySmallest x a1 a2 h) (fun r k => sl k o 0 (if r = 0 then Int64.ofNat 0 else Int64.ofNat 1)) [xN] (fun k => f_X12_areEquivalentBySmallest m a1 a2 k) (fun b k => gl k o 0 = if b = 0 then Int64.ofNat 0 else Int64.ofNat 1))
    (kk : ∀ h', hOK x m o od h' → I' h' → mW l G m_L_law 12 mc ms 3215 [some (.ref (sB G)), some (.ref x), some (.ref m), some (.ref o), some (.ref od), some (.int i), none, none, none] [] h' Q X) : mW l G m_L_law 12 (mc + 21) (ms + 2586) 2082 [some (.ref (sB G)), some (.ref x), some (.ref m), some (.ref o), some (.ref od), some (.int i), none, none, none] [] h Q X := by
  subst ha1; subst ha2; subst ha3
  refine q_aload_n dL_law_2082 rfl ?_
  refine q_aload_n dL_law_2083 rfl ?_
  refine q_iload dL_law_2084 rfl ?_
  refine q_iconst dL_law_2086 ?_
  refine q_iadd dL_law_2087 ?_
  refine q_sld dL_law_2088 g1 ?_
  refine q_aload_n dL_law_2089 rfl ?_
  refine q_iload dL_law_2090 rfl ?_
  refine q_iconst dL_law_2092 ?_
  refine q_iadd dL_law_2093 ?_
  refine q_sld dL_law_2094 g2 ?_
  refine q_aload_n dL_law_2095 rfl ?_
  obtain ⟨r, hE, hr, hx, hop⟩ := hop
  refine q_room (d' := 12) (mc' := 2 + mc) (ms' := 12 + ms) (Nat.le_refl _) (by omega) (by omega) ?_
  refine r_callSX2 dL_law_2096 KX_273 (c_L_areEquivalentBySmallest hE hk (fun _ _ q => by subst q; exact ⟨hr.2.2.1, hr.2.2.2.1⟩) hx) (by decide) (Nat.le_of_ble_eq_true rfl) rfl ?_
  intro v9 k9 hq
  obtain ⟨kk9, b, k2, rfl, hm, hfm, hok, hth, heq, hI⟩ := hop _ _ hq
  refine q_istore dL_law_2099 (by decide) ?_
  refine q_aload_n dL_law_2101 rfl ?_
  refine q_aload_n dL_law_2102 rfl ?_
  refine q_iload dL_law_2103 rfl ?_
  refine q_iconst dL_law_2105 ?_
  refine q_iadd dL_law_2106 ?_
  refine q_sld dL_law_2107 g1 ?_
  refine q_aload_n dL_law_2108 rfl ?_
  refine q_iload dL_law_2109 rfl ?_
  refine q_iconst dL_law_2111 ?_
  refine q_iadd dL_law_2112 ?_
  refine q_sld dL_law_2113 g2 ?_
  refine q_room (d' := 12) (mc' := 0 + mc) (ms' := 0 + ms) (Nat.le_refl _) (by omega) (by omega) ?_
  refine r_callV2 (mc := mc) (ms := ms) (mc' := 0) (ms' := 0) dL_law_2114 KL_275 (c_X12_areEquivalentBySmallest hfm) hm (by decide) (Nat.le_of_ble_eq_true rfl) (fun _ _ q => q.elim) ?_
  rintro _ _ ⟨rfl, rfl⟩
  refine q_istore dL_law_2117 (by decide) ?_
  refine q_aload_n dL_law_2119 rfl ?_
  refine q_room (d' := 12) (mc' := 0 + mc) (ms' := 0 + ms) (Nat.le_refl _) (by omega) (by omega) ?_
  refine r_callV0 (mc := mc) (ms := ms) (mc' := 0) (ms' := 0) dL_law_2120 KL_180 (c_X12_thrown (thrown_ok hok.2.1)) hok.2.1 (by decide) (Nat.le_of_ble_eq_true rfl) (fun _ _ q => q.elim) ?_
  rintro _ _ ⟨rfl, rfl⟩
  refine q_iload dL_law_2123 rfl ?_
  refine q_icmp_eq (tgt := 2130) dL_law_2125 (by decide) (fun z => ?_) (fun z => absurd hth z)
  refine q_iload dL_law_2130 rfl ?_
  have kE : mW l G m_L_law 12 mc ms 3215 [some (.ref (sB G)), some (.ref x), some (.ref m), some (.ref o), some (.ref od), some (.int i), some (.int kk9), some (.int b), none] [] k2 Q X := r_fewer [some (.ref (sB G)), some (.ref x), some (.ref m), some (.ref o), some (.ref od), some (.int i), none, none, none] (ls_s (ls_s (ls_s (ls_s (ls_s (ls_s (ls_n (ls_n (ls_n ls_0))))))))) (kk _ hok hI)
  have kL : mW l G m_L_law 12 mc ms 2154 [some (.ref (sB G)), some (.ref x), some (.ref m), some (.ref o), some (.ref od), some (.int i), some (.int kk9), some (.int b), none] [] k2 Q X := q_goto (tgt := 3215) dL_law_2154 (by decide) kE
  refine q_if_ne (tgt := 2154) dL_law_2132 (by decide) (fun z => kL) (fun z2 => ?_)
  have h0 := heq z2
  dsimp only at h0
  refine q_aload_n dL_law_2135 rfl ?_
  refine q_iconst dL_law_2136 ?_
  refine q_laload dL_law_2137 hok.2.2.1 (ix0 hok.2.2.2.1) ?_
  refine q_iload dL_law_2138 rfl ?_
  refine q_if_eq (tgt := 2147) dL_law_2140 (by decide) (fun z4 => ?_) (fun z4 => ?_)
  · rw [if_pos z4] at h0
    refine q_lconst dL_law_2147 ?_
    refine q_lcmp dL_law_2148 ?_
    refine q_if_eq (tgt := 2154) dL_law_2149 (by decide) (fun _ => kL) (fun z3 => absurd ((lg_cmp_eq _ _).mpr h0) z3)
  · rw [if_neg z4] at h0
    refine q_lconst dL_law_2143 ?_
    refine q_goto (tgt := 2148) dL_law_2144 (by decide) ?_
    refine q_lcmp dL_law_2148 ?_
    refine q_if_eq (tgt := 2154) dL_law_2149 (by decide) (fun _ => kL) (fun z3 => absurd ((lg_cmp_eq _ _).mpr h0) z3)
set_option maxRecDepth 100000 in
theorem k_30 {l : Launch} {G : mG} {Q : Option Value → mH → Prop} {X : String → mH → Prop} {x m o od mc ms : Nat} {i : Int32} {h : mH} {I' : mH → Prop} {a1 a2 a3 : Int32} (g1 : inb (i + Int32.ofInt 1) (sL G)) (g2 : inb (i + Int32.ofInt 2) (sL G)) (g3 : inb (i + Int32.ofInt 3) (sL G)) (ha1 : sX G (i + Int32.ofInt 1).toNatClampNeg = a1) (ha2 : sX G (i + Int32.ofInt 2).toNatClampNeg = a2) (ha3 : sX G (i + Int32.ofInt 3).toNatClampNeg = a3) (hk : kd h x = 16)
    (hop : opT x m o od I' (f_X11_isIncluded x a1 a2 h) (fun r k => sl k o 0 (if r = 0 then Int64.ofNat 0 else Int64.ofNat 1)) [xN] (fun k => f_X12_isIncluded m a1 a2 k) (fun b k => gl k o 0 = if b = 0 then Int64.ofNat 0 else Int64.ofNat 1))
    (kk : ∀ h', hOK x m o od h' → I' h' → mW l G m_L_law 12 mc ms 3215 [some (.ref (sB G)), some (.ref x), some (.ref m), some (.ref o), some (.ref od), some (.int i), none, none, none] [] h' Q X) : mW l G m_L_law 12 (mc + 21) (ms + 2586) 2157 [some (.ref (sB G)), some (.ref x), some (.ref m), some (.ref o), some (.ref od), some (.int i), none, none, none] [] h Q X := by
  subst ha1; subst ha2; subst ha3
  refine q_aload_n dL_law_2157 rfl ?_
  refine q_aload_n dL_law_2158 rfl ?_
  refine q_iload dL_law_2159 rfl ?_
  refine q_iconst dL_law_2161 ?_
  refine q_iadd dL_law_2162 ?_
  refine q_sld dL_law_2163 g1 ?_
  refine q_aload_n dL_law_2164 rfl ?_
  refine q_iload dL_law_2165 rfl ?_
  refine q_iconst dL_law_2167 ?_
  refine q_iadd dL_law_2168 ?_
  refine q_sld dL_law_2169 g2 ?_
  refine q_aload_n dL_law_2170 rfl ?_
  obtain ⟨r, hE, hr, hx, hop⟩ := hop
  refine q_room (d' := 12) (mc' := 2 + mc) (ms' := 12 + ms) (Nat.le_refl _) (by omega) (by omega) ?_
  refine r_callSX2 dL_law_2171 KX_276 (c_L_isIncluded hE hk (fun _ _ q => by subst q; exact ⟨hr.2.2.1, hr.2.2.2.1⟩) hx) (by decide) (Nat.le_of_ble_eq_true rfl) rfl ?_
  intro v9 k9 hq
  obtain ⟨kk9, b, k2, rfl, hm, hfm, hok, hth, heq, hI⟩ := hop _ _ hq
  refine q_istore dL_law_2174 (by decide) ?_
  refine q_aload_n dL_law_2176 rfl ?_
  refine q_aload_n dL_law_2177 rfl ?_
  refine q_iload dL_law_2178 rfl ?_
  refine q_iconst dL_law_2180 ?_
  refine q_iadd dL_law_2181 ?_
  refine q_sld dL_law_2182 g1 ?_
  refine q_aload_n dL_law_2183 rfl ?_
  refine q_iload dL_law_2184 rfl ?_
  refine q_iconst dL_law_2186 ?_
  refine q_iadd dL_law_2187 ?_
  refine q_sld dL_law_2188 g2 ?_
  refine q_room (d' := 12) (mc' := 0 + mc) (ms' := 0 + ms) (Nat.le_refl _) (by omega) (by omega) ?_
  refine r_callV2 (mc := mc) (ms := ms) (mc' := 0) (ms' := 0) dL_law_2189 KL_278 (c_X12_isIncluded hfm) hm (by decide) (Nat.le_of_ble_eq_true rfl) (fun _ _ q => q.elim) ?_
  rintro _ _ ⟨rfl, rfl⟩
  refine q_istore dL_law_2192 (by decide) ?_
  refine q_aload_n dL_law_2194 rfl ?_
  refine q_room (d' := 12) (mc' := 0 + mc) (ms' := 0 + ms) (Nat.le_refl _) (by omega) (by omega) ?_
  refine r_callV0 (mc := mc) (ms := ms) (mc' := 0) (ms' := 0) dL_law_2195 KL_180 (c_X12_thrown (thrown_ok hok.2.1)) hok.2.1 (by decide) (Nat.le_of_ble_eq_true rfl) (fun _ _ q => q.elim) ?_
  rintro _ _ ⟨rfl, rfl⟩
  refine q_iload dL_law_2198 rfl ?_
  refine q_icmp_eq (tgt := 2205) dL_law_2200 (by decide) (fun z => ?_) (fun z => absurd hth z)
  refine q_iload dL_law_2205 rfl ?_
  have kE : mW l G m_L_law 12 mc ms 3215 [some (.ref (sB G)), some (.ref x), some (.ref m), some (.ref o), some (.ref od), some (.int i), some (.int kk9), some (.int b), none] [] k2 Q X := r_fewer [some (.ref (sB G)), some (.ref x), some (.ref m), some (.ref o), some (.ref od), some (.int i), none, none, none] (ls_s (ls_s (ls_s (ls_s (ls_s (ls_s (ls_n (ls_n (ls_n ls_0))))))))) (kk _ hok hI)
  have kL : mW l G m_L_law 12 mc ms 2229 [some (.ref (sB G)), some (.ref x), some (.ref m), some (.ref o), some (.ref od), some (.int i), some (.int kk9), some (.int b), none] [] k2 Q X := q_goto (tgt := 3215) dL_law_2229 (by decide) kE
  refine q_if_ne (tgt := 2229) dL_law_2207 (by decide) (fun z => kL) (fun z2 => ?_)
  have h0 := heq z2
  dsimp only at h0
  refine q_aload_n dL_law_2210 rfl ?_
  refine q_iconst dL_law_2211 ?_
  refine q_laload dL_law_2212 hok.2.2.1 (ix0 hok.2.2.2.1) ?_
  refine q_iload dL_law_2213 rfl ?_
  refine q_if_eq (tgt := 2222) dL_law_2215 (by decide) (fun z4 => ?_) (fun z4 => ?_)
  · rw [if_pos z4] at h0
    refine q_lconst dL_law_2222 ?_
    refine q_lcmp dL_law_2223 ?_
    refine q_if_eq (tgt := 2229) dL_law_2224 (by decide) (fun _ => kL) (fun z3 => absurd ((lg_cmp_eq _ _).mpr h0) z3)
  · rw [if_neg z4] at h0
    refine q_lconst dL_law_2218 ?_
    refine q_goto (tgt := 2223) dL_law_2219 (by decide) ?_
    refine q_lcmp dL_law_2223 ?_
    refine q_if_eq (tgt := 2229) dL_law_2224 (by decide) (fun _ => kL) (fun z3 => absurd ((lg_cmp_eq _ _).mpr h0) z3)
set_option maxRecDepth 100000 in
theorem k_31 {l : Launch} {G : mG} {Q : Option Value → mH → Prop} {X : String → mH → Prop} {x m o od mc ms : Nat} {i : Int32} {h : mH} {I' : mH → Prop} {a1 a2 a3 : Int32} (g1 : inb (i + Int32.ofInt 1) (sL G)) (g2 : inb (i + Int32.ofInt 2) (sL G)) (g3 : inb (i + Int32.ofInt 3) (sL G)) (ha1 : sX G (i + Int32.ofInt 1).toNatClampNeg = a1) (ha2 : sX G (i + Int32.ofInt 2).toNatClampNeg = a2) (ha3 : sX G (i + Int32.ofInt 3).toNatClampNeg = a3) (hk : kd h x = 16)
    (hop : opT x m o od I' (f_X11_differenceLength x a1 a2 h) (fun r k => sl k o 0 r.toInt64) [xN] (fun k => f_X12_differenceLength m a1 a2 k) (fun b k => gl k o 0 = Int32.toInt64 b))
    (kk : ∀ h', hOK x m o od h' → I' h' → mW l G m_L_law 12 mc ms 3215 [some (.ref (sB G)), some (.ref x), some (.ref m), some (.ref o), some (.ref od), some (.int i), none, none, none] [] h' Q X) : mW l G m_L_law 12 (mc + 21) (ms + 2586) 2232 [some (.ref (sB G)), some (.ref x), some (.ref m), some (.ref o), some (.ref od), some (.int i), none, none, none] [] h Q X := by
  subst ha1; subst ha2; subst ha3
  refine q_aload_n dL_law_2232 rfl ?_
  refine q_aload_n dL_law_2233 rfl ?_
  refine q_iload dL_law_2234 rfl ?_
  refine q_iconst dL_law_2236 ?_
  refine q_iadd dL_law_2237 ?_
  refine q_sld dL_law_2238 g1 ?_
  refine q_aload_n dL_law_2239 rfl ?_
  refine q_iload dL_law_2240 rfl ?_
  refine q_iconst dL_law_2242 ?_
  refine q_iadd dL_law_2243 ?_
  refine q_sld dL_law_2244 g2 ?_
  refine q_aload_n dL_law_2245 rfl ?_
  obtain ⟨r, hE, hr, hx, hop⟩ := hop
  refine q_room (d' := 12) (mc' := 2 + mc) (ms' := 12 + ms) (Nat.le_refl _) (by omega) (by omega) ?_
  refine r_callSX2 dL_law_2246 KX_279 (c_L_differenceLength hE hk (fun _ _ q => by subst q; exact ⟨hr.2.2.1, hr.2.2.2.1⟩) hx) (by decide) (Nat.le_of_ble_eq_true rfl) rfl ?_
  intro v9 k9 hq
  obtain ⟨kk9, b, k2, rfl, hm, hfm, hok, hth, heq, hI⟩ := hop _ _ hq
  refine q_istore dL_law_2249 (by decide) ?_
  refine q_aload_n dL_law_2251 rfl ?_
  refine q_aload_n dL_law_2252 rfl ?_
  refine q_iload dL_law_2253 rfl ?_
  refine q_iconst dL_law_2255 ?_
  refine q_iadd dL_law_2256 ?_
  refine q_sld dL_law_2257 g1 ?_
  refine q_aload_n dL_law_2258 rfl ?_
  refine q_iload dL_law_2259 rfl ?_
  refine q_iconst dL_law_2261 ?_
  refine q_iadd dL_law_2262 ?_
  refine q_sld dL_law_2263 g2 ?_
  refine q_room (d' := 12) (mc' := 0 + mc) (ms' := 0 + ms) (Nat.le_refl _) (by omega) (by omega) ?_
  refine r_callV2 (mc := mc) (ms := ms) (mc' := 0) (ms' := 0) dL_law_2264 KL_281 (c_X12_differenceLength hfm) hm (by decide) (Nat.le_of_ble_eq_true rfl) (fun _ _ q => q.elim) ?_
  rintro _ _ ⟨rfl, rfl⟩
  refine q_istore dL_law_2267 (by decide) ?_
  refine q_aload_n dL_law_2269 rfl ?_
  refine q_room (d' := 12) (mc' := 0 + mc) (ms' := 0 + ms) (Nat.le_refl _) (by omega) (by omega) ?_
  refine r_callV0 (mc := mc) (ms := ms) (mc' := 0) (ms' := 0) dL_law_2270 KL_180 (c_X12_thrown (thrown_ok hok.2.1)) hok.2.1 (by decide) (Nat.le_of_ble_eq_true rfl) (fun _ _ q => q.elim) ?_
  rintro _ _ ⟨rfl, rfl⟩
  refine q_iload dL_law_2273 rfl ?_
  refine q_icmp_eq (tgt := 2280) dL_law_2275 (by decide) (fun z => ?_) (fun z => absurd hth z)
  refine q_iload dL_law_2280 rfl ?_
  have kE : mW l G m_L_law 12 mc ms 3215 [some (.ref (sB G)), some (.ref x), some (.ref m), some (.ref o), some (.ref od), some (.int i), some (.int kk9), some (.int b), none] [] k2 Q X := r_fewer [some (.ref (sB G)), some (.ref x), some (.ref m), some (.ref o), some (.ref od), some (.int i), none, none, none] (ls_s (ls_s (ls_s (ls_s (ls_s (ls_s (ls_n (ls_n (ls_n ls_0))))))))) (kk _ hok hI)
  have kL : mW l G m_L_law 12 mc ms 2297 [some (.ref (sB G)), some (.ref x), some (.ref m), some (.ref o), some (.ref od), some (.int i), some (.int kk9), some (.int b), none] [] k2 Q X := q_goto (tgt := 3215) dL_law_2297 (by decide) kE
  refine q_if_ne (tgt := 2297) dL_law_2282 (by decide) (fun z => kL) (fun z2 => ?_)
  have h0 := heq z2
  dsimp only at h0
  refine q_aload_n dL_law_2285 rfl ?_
  refine q_iconst dL_law_2286 ?_
  refine q_laload dL_law_2287 hok.2.2.1 (ix0 hok.2.2.2.1) ?_
  refine q_iload dL_law_2288 rfl ?_
  refine q_i2l dL_law_2290 ?_
  refine q_lcmp dL_law_2291 ?_
  refine q_if_eq (tgt := 2297) dL_law_2292 (by decide) (fun _ => kL) (fun z3 => absurd ((lg_cmp_eq _ _).mpr h0) z3)
set_option maxRecDepth 100000 in
theorem k_32 {l : Launch} {G : mG} {Q : Option Value → mH → Prop} {X : String → mH → Prop} {x m o od mc ms : Nat} {i : Int32} {h : mH} {I' : mH → Prop} {a1 a2 a3 : Int32} (g1 : inb (i + Int32.ofInt 1) (sL G)) (g2 : inb (i + Int32.ofInt 2) (sL G)) (g3 : inb (i + Int32.ofInt 3) (sL G)) (ha1 : sX G (i + Int32.ofInt 1).toNatClampNeg = a1) (ha2 : sX G (i + Int32.ofInt 2).toNatClampNeg = a2) (ha3 : sX G (i + Int32.ofInt 3).toNatClampNeg = a3) (hk : kd h x = 16)
    (hop : opT x m o od I' (f_X11_slotByStates x a1 h) (fun r k => sl k o 0 r.toInt64) [xN] (fun k => f_X12_slotByStates m a1 k) (fun b k => gl k o 0 = Int32.toInt64 b))
    (kk : ∀ h', hOK x m o od h' → I' h' → mW l G m_L_law 12 mc ms 3215 [some (.ref (sB G)), some (.ref x), some (.ref m), some (.ref o), some (.ref od), some (.int i), none, none, none] [] h' Q X) : mW l G m_L_law 12 (mc + 21) (ms + 2586) 2300 [some (.ref (sB G)), some (.ref x), some (.ref m), some (.ref o), some (.ref od), some (.int i), none, none, none] [] h Q X := by
  subst ha1; subst ha2; subst ha3
  refine q_aload_n dL_law_2300 rfl ?_
  refine q_aload_n dL_law_2301 rfl ?_
  refine q_iload dL_law_2302 rfl ?_
  refine q_iconst dL_law_2304 ?_
  refine q_iadd dL_law_2305 ?_
  refine q_sld dL_law_2306 g1 ?_
  refine q_aload_n dL_law_2307 rfl ?_
  obtain ⟨r, hE, hr, hx, hop⟩ := hop
  refine q_room (d' := 12) (mc' := 1 + mc) (ms' := 6 + ms) (Nat.le_refl _) (by omega) (by omega) ?_
  refine r_callSX1 dL_law_2308 KX_282 (c_L_slotByStates hE hk (fun _ _ q => by subst q; exact ⟨hr.2.2.1, hr.2.2.2.1⟩) hx) (by decide) (Nat.le_of_ble_eq_true rfl) rfl ?_
  intro v9 k9 hq
  obtain ⟨kk9, b, k2, rfl, hm, hfm, hok, hth, heq, hI⟩ := hop _ _ hq
  refine q_istore dL_law_2311 (by decide) ?_
  refine q_aload_n dL_law_2313 rfl ?_
  refine q_aload_n dL_law_2314 rfl ?_
  refine q_iload dL_law_2315 rfl ?_
  refine q_iconst dL_law_2317 ?_
  refine q_iadd dL_law_2318 ?_
  refine q_sld dL_law_2319 g1 ?_
  refine q_room (d' := 12) (mc' := 0 + mc) (ms' := 0 + ms) (Nat.le_refl _) (by omega) (by omega) ?_
  refine r_callV1 (mc := mc) (ms := ms) (mc' := 0) (ms' := 0) dL_law_2320 KL_284 (c_X12_slotByStates hfm) hm (by decide) (Nat.le_of_ble_eq_true rfl) (fun _ _ q => q.elim) ?_
  rintro _ _ ⟨rfl, rfl⟩
  refine q_istore dL_law_2323 (by decide) ?_
  refine q_aload_n dL_law_2325 rfl ?_
  refine q_room (d' := 12) (mc' := 0 + mc) (ms' := 0 + ms) (Nat.le_refl _) (by omega) (by omega) ?_
  refine r_callV0 (mc := mc) (ms := ms) (mc' := 0) (ms' := 0) dL_law_2326 KL_180 (c_X12_thrown (thrown_ok hok.2.1)) hok.2.1 (by decide) (Nat.le_of_ble_eq_true rfl) (fun _ _ q => q.elim) ?_
  rintro _ _ ⟨rfl, rfl⟩
  refine q_iload dL_law_2329 rfl ?_
  refine q_icmp_eq (tgt := 2336) dL_law_2331 (by decide) (fun z => ?_) (fun z => absurd hth z)
  refine q_iload dL_law_2336 rfl ?_
  have kE : mW l G m_L_law 12 mc ms 3215 [some (.ref (sB G)), some (.ref x), some (.ref m), some (.ref o), some (.ref od), some (.int i), some (.int kk9), some (.int b), none] [] k2 Q X := r_fewer [some (.ref (sB G)), some (.ref x), some (.ref m), some (.ref o), some (.ref od), some (.int i), none, none, none] (ls_s (ls_s (ls_s (ls_s (ls_s (ls_s (ls_n (ls_n (ls_n ls_0))))))))) (kk _ hok hI)
  have kL : mW l G m_L_law 12 mc ms 2353 [some (.ref (sB G)), some (.ref x), some (.ref m), some (.ref o), some (.ref od), some (.int i), some (.int kk9), some (.int b), none] [] k2 Q X := q_goto (tgt := 3215) dL_law_2353 (by decide) kE
  refine q_if_ne (tgt := 2353) dL_law_2338 (by decide) (fun z => kL) (fun z2 => ?_)
  have h0 := heq z2
  dsimp only at h0
  refine q_aload_n dL_law_2341 rfl ?_
  refine q_iconst dL_law_2342 ?_
  refine q_laload dL_law_2343 hok.2.2.1 (ix0 hok.2.2.2.1) ?_
  refine q_iload dL_law_2344 rfl ?_
  refine q_i2l dL_law_2346 ?_
  refine q_lcmp dL_law_2347 ?_
  refine q_if_eq (tgt := 2353) dL_law_2348 (by decide) (fun _ => kL) (fun z3 => absurd ((lg_cmp_eq _ _).mpr h0) z3)
set_option maxRecDepth 100000 in
theorem k_33 {l : Launch} {G : mG} {Q : Option Value → mH → Prop} {X : String → mH → Prop} {x m o od mc ms : Nat} {i : Int32} {h : mH} {I' : mH → Prop} {a1 a2 a3 : Int32} (g1 : inb (i + Int32.ofInt 1) (sL G)) (g2 : inb (i + Int32.ofInt 2) (sL G)) (g3 : inb (i + Int32.ofInt 3) (sL G)) (ha1 : sX G (i + Int32.ofInt 1).toNatClampNeg = a1) (ha2 : sX G (i + Int32.ofInt 2).toNatClampNeg = a2) (ha3 : sX G (i + Int32.ofInt 3).toNatClampNeg = a3) (hk : kd h x = 16)
    (hop : opN x m o od I' (f_X11_wordCount x h) (fun k => f_X12_wordCount m k))
    (kk : ∀ h', hOK x m o od h' → I' h' → mW l G m_L_law 12 mc ms 3215 [some (.ref (sB G)), some (.ref x), some (.ref m), some (.ref o), some (.ref od), some (.int i), none, none, none] [] h' Q X) : mW l G m_L_law 12 (mc + 21) (ms + 2586) 2356 [some (.ref (sB G)), some (.ref x), some (.ref m), some (.ref o), some (.ref od), some (.int i), none, none, none] [] h Q X := by
  subst ha1; subst ha2; subst ha3
  refine q_aload_n dL_law_2356 rfl ?_
  obtain ⟨b, k1, k2, hE, hm, hfm, hok, hI⟩ := hop
  refine q_room (d' := 12) (mc' := 0 + mc) (ms' := 0 + ms) (Nat.le_refl _) (by omega) (by omega) ?_
  refine r_callV0 dL_law_2357 KL_285 (c_X11_wordCount hE) hk (by decide) (Nat.le_of_ble_eq_true rfl) (fun _ _ q => q.elim) ?_
  rintro _ _ ⟨rfl, rfl⟩
  refine q_aload_n dL_law_2360 rfl ?_
  refine q_room (d' := 12) (mc' := 0 + mc) (ms' := 0 + ms) (Nat.le_refl _) (by omega) (by omega) ?_
  refine r_callV0 (mc := mc) (ms := ms) (mc' := 0) (ms' := 0) dL_law_2361 KL_288 (c_X12_wordCount hfm) hm (by decide) (Nat.le_of_ble_eq_true rfl) (fun _ _ q => q.elim) ?_
  rintro _ _ ⟨rfl, rfl⟩
  refine q_icmp_eq (tgt := 3215) dL_law_2364 (by decide) (fun z => ?_) (fun z => absurd rfl z)
  exact kk _ hok hI
set_option maxRecDepth 100000 in
theorem k_34 {l : Launch} {G : mG} {Q : Option Value → mH → Prop} {X : String → mH → Prop} {x m o od mc ms : Nat} {i : Int32} {h : mH} {I' : mH → Prop} {a1 a2 a3 : Int32} (g1 : inb (i + Int32.ofInt 1) (sL G)) (g2 : inb (i + Int32.ofInt 2) (sL G)) (g3 : inb (i + Int32.ofInt 3) (sL G)) (ha1 : sX G (i + Int32.ofInt 1).toNatClampNeg = a1) (ha2 : sX G (i + Int32.ofInt 2).toNatClampNeg = a2) (ha3 : sX G (i + Int32.ofInt 3).toNatClampNeg = a3) (hk : kd h x = 16)
    (hop : opT x m o od I' (f_X11_wordLength x a1 h) (fun r k => sl k o 0 r.toInt64) [xI] (fun k => f_X12_wordLength m a1 k) (fun b k => gl k o 0 = Int32.toInt64 b))
    (kk : ∀ h', hOK x m o od h' → I' h' → mW l G m_L_law 12 mc ms 3215 [some (.ref (sB G)), some (.ref x), some (.ref m), some (.ref o), some (.ref od), some (.int i), none, none, none] [] h' Q X) : mW l G m_L_law 12 (mc + 21) (ms + 2586) 2369 [some (.ref (sB G)), some (.ref x), some (.ref m), some (.ref o), some (.ref od), some (.int i), none, none, none] [] h Q X := by
  subst ha1; subst ha2; subst ha3
  refine q_aload_n dL_law_2369 rfl ?_
  refine q_aload_n dL_law_2370 rfl ?_
  refine q_iload dL_law_2371 rfl ?_
  refine q_iconst dL_law_2373 ?_
  refine q_iadd dL_law_2374 ?_
  refine q_sld dL_law_2375 g1 ?_
  refine q_aload_n dL_law_2376 rfl ?_
  obtain ⟨r, hE, hr, hx, hop⟩ := hop
  refine q_room (d' := 12) (mc' := 1 + mc) (ms' := 6 + ms) (Nat.le_refl _) (by omega) (by omega) ?_
  refine r_callSX1 dL_law_2377 KX_289 (c_L_wordLength hE hk (fun _ _ q => by subst q; exact ⟨hr.2.2.1, hr.2.2.2.1⟩) hx) (by decide) (Nat.le_of_ble_eq_true rfl) rfl ?_
  intro v9 k9 hq
  obtain ⟨kk9, b, k2, rfl, hm, hfm, hok, hth, heq, hI⟩ := hop _ _ hq
  refine q_istore dL_law_2380 (by decide) ?_
  refine q_aload_n dL_law_2382 rfl ?_
  refine q_aload_n dL_law_2383 rfl ?_
  refine q_iload dL_law_2384 rfl ?_
  refine q_iconst dL_law_2386 ?_
  refine q_iadd dL_law_2387 ?_
  refine q_sld dL_law_2388 g1 ?_
  refine q_room (d' := 12) (mc' := 0 + mc) (ms' := 0 + ms) (Nat.le_refl _) (by omega) (by omega) ?_
  refine r_callV1 (mc := mc) (ms := ms) (mc' := 0) (ms' := 0) dL_law_2389 KL_291 (c_X12_wordLength hfm) hm (by decide) (Nat.le_of_ble_eq_true rfl) (fun _ _ q => q.elim) ?_
  rintro _ _ ⟨rfl, rfl⟩
  refine q_istore dL_law_2392 (by decide) ?_
  refine q_aload_n dL_law_2394 rfl ?_
  refine q_room (d' := 12) (mc' := 0 + mc) (ms' := 0 + ms) (Nat.le_refl _) (by omega) (by omega) ?_
  refine r_callV0 (mc := mc) (ms := ms) (mc' := 0) (ms' := 0) dL_law_2395 KL_180 (c_X12_thrown (thrown_ok hok.2.1)) hok.2.1 (by decide) (Nat.le_of_ble_eq_true rfl) (fun _ _ q => q.elim) ?_
  rintro _ _ ⟨rfl, rfl⟩
  refine q_iload dL_law_2398 rfl ?_
  refine q_icmp_eq (tgt := 2405) dL_law_2400 (by decide) (fun z => ?_) (fun z => absurd hth z)
  refine q_iload dL_law_2405 rfl ?_
  have kE : mW l G m_L_law 12 mc ms 3215 [some (.ref (sB G)), some (.ref x), some (.ref m), some (.ref o), some (.ref od), some (.int i), some (.int kk9), some (.int b), none] [] k2 Q X := r_fewer [some (.ref (sB G)), some (.ref x), some (.ref m), some (.ref o), some (.ref od), some (.int i), none, none, none] (ls_s (ls_s (ls_s (ls_s (ls_s (ls_s (ls_n (ls_n (ls_n ls_0))))))))) (kk _ hok hI)
  have kL : mW l G m_L_law 12 mc ms 2422 [some (.ref (sB G)), some (.ref x), some (.ref m), some (.ref o), some (.ref od), some (.int i), some (.int kk9), some (.int b), none] [] k2 Q X := q_goto (tgt := 3215) dL_law_2422 (by decide) kE
  refine q_if_ne (tgt := 2422) dL_law_2407 (by decide) (fun z => kL) (fun z2 => ?_)
  have h0 := heq z2
  dsimp only at h0
  refine q_aload_n dL_law_2410 rfl ?_
  refine q_iconst dL_law_2411 ?_
  refine q_laload dL_law_2412 hok.2.2.1 (ix0 hok.2.2.2.1) ?_
  refine q_iload dL_law_2413 rfl ?_
  refine q_i2l dL_law_2415 ?_
  refine q_lcmp dL_law_2416 ?_
  refine q_if_eq (tgt := 2422) dL_law_2417 (by decide) (fun _ => kL) (fun z3 => absurd ((lg_cmp_eq _ _).mpr h0) z3)
set_option maxRecDepth 100000 in
theorem k_35 {l : Launch} {G : mG} {Q : Option Value → mH → Prop} {X : String → mH → Prop} {x m o od mc ms : Nat} {i : Int32} {h : mH} {I' : mH → Prop} {a1 a2 a3 : Int32} (g1 : inb (i + Int32.ofInt 1) (sL G)) (g2 : inb (i + Int32.ofInt 2) (sL G)) (g3 : inb (i + Int32.ofInt 3) (sL G)) (ha1 : sX G (i + Int32.ofInt 1).toNatClampNeg = a1) (ha2 : sX G (i + Int32.ofInt 2).toNatClampNeg = a2) (ha3 : sX G (i + Int32.ofInt 3).toNatClampNeg = a3) (hk : kd h x = 16)
    (hop : opT x m o od I' (f_X11_wordLetter x a1 a2 h) (fun r k => sl k o 0 r.toInt64) [xI] (fun k => f_X12_wordLetter m a1 a2 k) (fun b k => gl k o 0 = Int32.toInt64 b))
    (kk : ∀ h', hOK x m o od h' → I' h' → mW l G m_L_law 12 mc ms 3215 [some (.ref (sB G)), some (.ref x), some (.ref m), some (.ref o), some (.ref od), some (.int i), none, none, none] [] h' Q X) : mW l G m_L_law 12 (mc + 21) (ms + 2586) 2425 [some (.ref (sB G)), some (.ref x), some (.ref m), some (.ref o), some (.ref od), some (.int i), none, none, none] [] h Q X := by
  subst ha1; subst ha2; subst ha3
  refine q_aload_n dL_law_2425 rfl ?_
  refine q_aload_n dL_law_2426 rfl ?_
  refine q_iload dL_law_2427 rfl ?_
  refine q_iconst dL_law_2429 ?_
  refine q_iadd dL_law_2430 ?_
  refine q_sld dL_law_2431 g1 ?_
  refine q_aload_n dL_law_2432 rfl ?_
  refine q_iload dL_law_2433 rfl ?_
  refine q_iconst dL_law_2435 ?_
  refine q_iadd dL_law_2436 ?_
  refine q_sld dL_law_2437 g2 ?_
  refine q_aload_n dL_law_2438 rfl ?_
  obtain ⟨r, hE, hr, hx, hop⟩ := hop
  refine q_room (d' := 12) (mc' := 2 + mc) (ms' := 12 + ms) (Nat.le_refl _) (by omega) (by omega) ?_
  refine r_callSX2 dL_law_2439 KX_292 (c_L_wordLetter hE hk (fun _ _ q => by subst q; exact ⟨hr.2.2.1, hr.2.2.2.1⟩) hx) (by decide) (Nat.le_of_ble_eq_true rfl) rfl ?_
  intro v9 k9 hq
  obtain ⟨kk9, b, k2, rfl, hm, hfm, hok, hth, heq, hI⟩ := hop _ _ hq
  refine q_istore dL_law_2442 (by decide) ?_
  refine q_aload_n dL_law_2444 rfl ?_
  refine q_aload_n dL_law_2445 rfl ?_
  refine q_iload dL_law_2446 rfl ?_
  refine q_iconst dL_law_2448 ?_
  refine q_iadd dL_law_2449 ?_
  refine q_sld dL_law_2450 g1 ?_
  refine q_aload_n dL_law_2451 rfl ?_
  refine q_iload dL_law_2452 rfl ?_
  refine q_iconst dL_law_2454 ?_
  refine q_iadd dL_law_2455 ?_
  refine q_sld dL_law_2456 g2 ?_
  refine q_room (d' := 12) (mc' := 0 + mc) (ms' := 0 + ms) (Nat.le_refl _) (by omega) (by omega) ?_
  refine r_callV2 (mc := mc) (ms := ms) (mc' := 0) (ms' := 0) dL_law_2457 KL_294 (c_X12_wordLetter hfm) hm (by decide) (Nat.le_of_ble_eq_true rfl) (fun _ _ q => q.elim) ?_
  rintro _ _ ⟨rfl, rfl⟩
  refine q_istore dL_law_2460 (by decide) ?_
  refine q_aload_n dL_law_2462 rfl ?_
  refine q_room (d' := 12) (mc' := 0 + mc) (ms' := 0 + ms) (Nat.le_refl _) (by omega) (by omega) ?_
  refine r_callV0 (mc := mc) (ms := ms) (mc' := 0) (ms' := 0) dL_law_2463 KL_180 (c_X12_thrown (thrown_ok hok.2.1)) hok.2.1 (by decide) (Nat.le_of_ble_eq_true rfl) (fun _ _ q => q.elim) ?_
  rintro _ _ ⟨rfl, rfl⟩
  refine q_iload dL_law_2466 rfl ?_
  refine q_icmp_eq (tgt := 2473) dL_law_2468 (by decide) (fun z => ?_) (fun z => absurd hth z)
  refine q_iload dL_law_2473 rfl ?_
  have kE : mW l G m_L_law 12 mc ms 3215 [some (.ref (sB G)), some (.ref x), some (.ref m), some (.ref o), some (.ref od), some (.int i), some (.int kk9), some (.int b), none] [] k2 Q X := r_fewer [some (.ref (sB G)), some (.ref x), some (.ref m), some (.ref o), some (.ref od), some (.int i), none, none, none] (ls_s (ls_s (ls_s (ls_s (ls_s (ls_s (ls_n (ls_n (ls_n ls_0))))))))) (kk _ hok hI)
  have kL : mW l G m_L_law 12 mc ms 2490 [some (.ref (sB G)), some (.ref x), some (.ref m), some (.ref o), some (.ref od), some (.int i), some (.int kk9), some (.int b), none] [] k2 Q X := q_goto (tgt := 3215) dL_law_2490 (by decide) kE
  refine q_if_ne (tgt := 2490) dL_law_2475 (by decide) (fun z => kL) (fun z2 => ?_)
  have h0 := heq z2
  dsimp only at h0
  refine q_aload_n dL_law_2478 rfl ?_
  refine q_iconst dL_law_2479 ?_
  refine q_laload dL_law_2480 hok.2.2.1 (ix0 hok.2.2.2.1) ?_
  refine q_iload dL_law_2481 rfl ?_
  refine q_i2l dL_law_2483 ?_
  refine q_lcmp dL_law_2484 ?_
  refine q_if_eq (tgt := 2490) dL_law_2485 (by decide) (fun _ => kL) (fun z3 => absurd ((lg_cmp_eq _ _).mpr h0) z3)
set_option maxRecDepth 100000 in
theorem k_36 {l : Launch} {G : mG} {Q : Option Value → mH → Prop} {X : String → mH → Prop} {x m o od mc ms : Nat} {i : Int32} {h : mH} {I' : mH → Prop} {a1 a2 a3 : Int32} (g1 : inb (i + Int32.ofInt 1) (sL G)) (g2 : inb (i + Int32.ofInt 2) (sL G)) (g3 : inb (i + Int32.ofInt 3) (sL G)) (ha1 : sX G (i + Int32.ofInt 1).toNatClampNeg = a1) (ha2 : sX G (i + Int32.ofInt 2).toNatClampNeg = a2) (ha3 : sX G (i + Int32.ofInt 3).toNatClampNeg = a3) (hk : kd h x = 16)
    (hop : opN x m o od I' (f_X11_definedTotal x h) (fun k => f_X12_definedTotal m k))
    (kk : ∀ h', hOK x m o od h' → I' h' → mW l G m_L_law 12 mc ms 3215 [some (.ref (sB G)), some (.ref x), some (.ref m), some (.ref o), some (.ref od), some (.int i), none, none, none] [] h' Q X) : mW l G m_L_law 12 (mc + 21) (ms + 2586) 2493 [some (.ref (sB G)), some (.ref x), some (.ref m), some (.ref o), some (.ref od), some (.int i), none, none, none] [] h Q X := by
  subst ha1; subst ha2; subst ha3
  refine q_aload_n dL_law_2493 rfl ?_
  obtain ⟨b, k1, k2, hE, hm, hfm, hok, hI⟩ := hop
  refine q_room (d' := 12) (mc' := 0 + mc) (ms' := 0 + ms) (Nat.le_refl _) (by omega) (by omega) ?_
  refine r_callV0 dL_law_2494 KL_295 (c_X11_definedTotal hE) hk (by decide) (Nat.le_of_ble_eq_true rfl) (fun _ _ q => q.elim) ?_
  rintro _ _ ⟨rfl, rfl⟩
  refine q_aload_n dL_law_2497 rfl ?_
  refine q_room (d' := 12) (mc' := 0 + mc) (ms' := 0 + ms) (Nat.le_refl _) (by omega) (by omega) ?_
  refine r_callV0 (mc := mc) (ms := ms) (mc' := 0) (ms' := 0) dL_law_2498 KL_298 (c_X12_definedTotal hfm) hm (by decide) (Nat.le_of_ble_eq_true rfl) (fun _ _ q => q.elim) ?_
  rintro _ _ ⟨rfl, rfl⟩
  refine q_icmp_eq (tgt := 3215) dL_law_2501 (by decide) (fun z => ?_) (fun z => absurd rfl z)
  exact kk _ hok hI
set_option maxRecDepth 100000 in
theorem k_37 {l : Launch} {G : mG} {Q : Option Value → mH → Prop} {X : String → mH → Prop} {x m o od mc ms : Nat} {i : Int32} {h : mH} {I' : mH → Prop} {a1 a2 a3 : Int32} (g1 : inb (i + Int32.ofInt 1) (sL G)) (g2 : inb (i + Int32.ofInt 2) (sL G)) (g3 : inb (i + Int32.ofInt 3) (sL G)) (ha1 : sX G (i + Int32.ofInt 1).toNatClampNeg = a1) (ha2 : sX G (i + Int32.ofInt 2).toNatClampNeg = a2) (ha3 : sX G (i + Int32.ofInt 3).toNatClampNeg = a3) (hk : kd h x = 16)
    (hop : opT x m o od I' (f_X11_meanLetters x h) (fun r k => sd k od 0 r) [xM] (fun k => f_X12_meanLetters m k) (fun b k => Op.cmpValue (FP.dcmp (gd k od 0) b) .l = 0))
    (kk : ∀ h', hOK x m o od h' → I' h' → mW l G m_L_law 12 mc ms 3215 [some (.ref (sB G)), some (.ref x), some (.ref m), some (.ref o), some (.ref od), some (.int i), none, none, none] [] h' Q X) : mW l G m_L_law 12 (mc + 21) (ms + 2586) 2506 [some (.ref (sB G)), some (.ref x), some (.ref m), some (.ref o), some (.ref od), some (.int i), none, none, none] [] h Q X := by
  subst ha1; subst ha2; subst ha3
  refine q_aload_n dL_law_2506 rfl ?_
  refine q_aload dL_law_2507 rfl ?_
  obtain ⟨r, hE, hr, hx, hop⟩ := hop
  refine q_room (d' := 12) (mc' := 1 + mc) (ms' := 6 + ms) (Nat.le_refl _) (by omega) (by omega) ?_
  refine r_callSX0 dL_law_2509 KX_299 (c_L_meanLetters hE hk (fun _ _ q => by subst q; exact ⟨hr.2.2.2.2.1, hr.2.2.2.2.2⟩) hx) (by decide) (Nat.le_of_ble_eq_true rfl) rfl ?_
  intro v9 k9 hq
  obtain ⟨kk9, b, k2, rfl, hm, hfm, hok, hth, heq, hI⟩ := hop _ _ hq
  refine q_istore dL_law_2512 (by decide) ?_
  refine q_aload_n dL_law_2514 rfl ?_
  refine q_room (d' := 12) (mc' := 0 + mc) (ms' := 0 + ms) (Nat.le_refl _) (by omega) (by omega) ?_
  refine r_callV0 (mc := mc) (ms := ms) (mc' := 0) (ms' := 0) dL_law_2515 KL_302 (c_X12_meanLetters hfm) hm (by decide) (Nat.le_of_ble_eq_true rfl) (fun _ _ q => q.elim) ?_
  rintro _ _ ⟨rfl, rfl⟩
  show mW l G m_L_law 12 mc ms 2518 [some (.ref (sB G)), some (.ref x), some (.ref m), some (.ref o), some (.ref od), some (.int i), some (.int kk9), none, none] [.double b] k2 Q X
  refine q_dstoreP dL_law_2518 (by decide) (fun j v hj => ?_) ?_
  · match j, hj with
    | 0, _ => omega
    | 1, _ => omega
    | 2, _ => omega
    | 3, _ => omega
    | 4, _ => omega
    | 5, _ => omega
    | 6, _ => omega
    | 7, hj => cases hj
    | 8, hj => cases hj
    | j + 9, hj => simp at hj
  refine p_aload_n dL_law_2520 (pD_at rfl) ?_
  refine p_room (d' := 12) (mc' := 0 + mc) (ms' := 0 + ms) (Nat.le_refl _) (by omega) (by omega) ?_
  refine p_callV (As := []) (mc := mc) (ms := ms) (mc' := 0) (ms' := 0) pD_z dL_law_2521 KL_180 (c_X12_thrown (thrown_ok hok.2.1)) hok.2.1 rfl (by decide) (Nat.le_of_ble_eq_true rfl) rfl (fun _ _ q => q.elim) ?_
  rintro _ _ ⟨rfl, rfl⟩
  refine p_iload dL_law_2524 (pD_at rfl) ?_
  refine p_icmp_eq (tgt := 2531) dL_law_2526 (by decide) (fun z => ?_) (fun z => absurd hth z)
  refine p_iload dL_law_2531 (pD_at rfl) ?_
  have kE : mW l G m_L_law 12 mc ms 3215 [some (.ref (sB G)), some (.ref x), some (.ref m), some (.ref o), some (.ref od), some (.int i), some (.int kk9), none, none] [] k2 Q X := r_fewer [some (.ref (sB G)), some (.ref x), some (.ref m), some (.ref o), some (.ref od), some (.int i), none, none, none] (ls_s (ls_s (ls_s (ls_s (ls_s (ls_s (ls_n (ls_n (ls_n ls_0))))))))) (kk _ hok hI)
  have kL := p_end (pD_l (n := m_L_law.2.2.1) (i := 7) (x := b)) (q_goto (pc := 2568) (tgt := 3215) dL_law_2568 (by decide) kE)
  refine p_if_ne (tgt := 2568) dL_law_2533 (by decide) (fun z => kL) (fun z2 => ?_)
  have h0 := heq z2
  refine p_aload dL_law_2536 (pD_at rfl) ?_
  refine p_iconst dL_law_2538 ?_
  refine p_daload dL_law_2539 hok.2.2.2.2.1 (ix0 hok.2.2.2.2.2) ?_
  refine p_dload dL_law_2540 pD_d ?_
  refine p_dcmp dL_law_2542 ?_
  refine p_if_eq (tgt := 2568) dL_law_2543 (by decide) (fun _ => kL) (fun z3 => absurd h0 z3)
set_option maxRecDepth 100000 in
theorem k_38 {l : Launch} {G : mG} {Q : Option Value → mH → Prop} {X : String → mH → Prop} {x m o od mc ms : Nat} {i : Int32} {h : mH} {I' : mH → Prop} {a1 a2 a3 : Int32} (g1 : inb (i + Int32.ofInt 1) (sL G)) (g2 : inb (i + Int32.ofInt 2) (sL G)) (g3 : inb (i + Int32.ofInt 3) (sL G)) (ha1 : sX G (i + Int32.ofInt 1).toNatClampNeg = a1) (ha2 : sX G (i + Int32.ofInt 2).toNatClampNeg = a2) (ha3 : sX G (i + Int32.ofInt 3).toNatClampNeg = a3) (hk : kd h x = 16)
    (hop : (opT x m o od I' (f_X11_acceptedShare x a1 h) (fun r k => sd k od 0 (FP.f2d r)) [xN, xM] (fun k => f_X12_acceptedShare m a1 k) (fun b k => vf_n64 (FP.f2d b) ∧ Op.cmpValue (FP.dcmp (gd k od 0) (FP.f2d b)) .l = 0)) ∧ (∀ r k, f_X11_acceptedShare x a1 h = some (.inl r, k) → vf_n64 (FP.f2d r)))
    (kk : ∀ h', hOK x m o od h' → I' h' → mW l G m_L_law 12 mc ms 3215 [some (.ref (sB G)), some (.ref x), some (.ref m), some (.ref o), some (.ref od), some (.int i), none, none, none] [] h' Q X) : mW l G m_L_law 12 (mc + 21) (ms + 2586) 2571 [some (.ref (sB G)), some (.ref x), some (.ref m), some (.ref o), some (.ref od), some (.int i), none, none, none] [] h Q X := by
  subst ha1; subst ha2; subst ha3
  obtain ⟨hop, hn⟩ := hop
  refine q_aload_n dL_law_2571 rfl ?_
  refine q_aload_n dL_law_2572 rfl ?_
  refine q_iload dL_law_2573 rfl ?_
  refine q_iconst dL_law_2575 ?_
  refine q_iadd dL_law_2576 ?_
  refine q_sld dL_law_2577 g1 ?_
  refine q_aload dL_law_2578 rfl ?_
  obtain ⟨r, hE, hr, hx, hop⟩ := hop
  refine q_room (d' := 12) (mc' := 2 + mc) (ms' := 12 + ms) (Nat.le_refl _) (by omega) (by omega) ?_
  refine r_callSX1 dL_law_2580 KX_303 (c_L_acceptedShare hE hk (fun _ _ q => by subst q; exact ⟨hr.2.2.2.2.1, hr.2.2.2.2.2⟩) hx (fun r0 k0 q => hn r0 k0 (q ▸ hE))) (by decide) (Nat.le_of_ble_eq_true rfl) rfl ?_
  intro v9 k9 hq
  obtain ⟨kk9, b, k2, rfl, hm, hfm, hok, hth, heq, hI⟩ := hop _ _ hq
  refine q_istore dL_law_2583 (by decide) ?_
  refine q_aload_n dL_law_2585 rfl ?_
  refine q_aload_n dL_law_2586 rfl ?_
  refine q_iload dL_law_2587 rfl ?_
  refine q_iconst dL_law_2589 ?_
  refine q_iadd dL_law_2590 ?_
  refine q_sld dL_law_2591 g1 ?_
  refine q_room (d' := 12) (mc' := 0 + mc) (ms' := 0 + ms) (Nat.le_refl _) (by omega) (by omega) ?_
  refine r_callV1 (mc := mc) (ms := ms) (mc' := 0) (ms' := 0) dL_law_2592 KL_306 (c_X12_acceptedShare hfm) hm (by decide) (Nat.le_of_ble_eq_true rfl) (fun _ _ q => q.elim) ?_
  rintro _ _ ⟨rfl, rfl⟩
  refine q_fstore dL_law_2595 (by decide) ?_
  refine q_aload_n dL_law_2597 rfl ?_
  refine q_room (d' := 12) (mc' := 0 + mc) (ms' := 0 + ms) (Nat.le_refl _) (by omega) (by omega) ?_
  refine r_callV0 (mc := mc) (ms := ms) (mc' := 0) (ms' := 0) dL_law_2598 KL_180 (c_X12_thrown (thrown_ok hok.2.1)) hok.2.1 (by decide) (Nat.le_of_ble_eq_true rfl) (fun _ _ q => q.elim) ?_
  rintro _ _ ⟨rfl, rfl⟩
  refine q_iload dL_law_2601 rfl ?_
  refine q_icmp_eq (tgt := 2608) dL_law_2603 (by decide) (fun z => ?_) (fun z => absurd hth z)
  refine q_iload dL_law_2608 rfl ?_
  have kE : mW l G m_L_law 12 mc ms 3215 [some (.ref (sB G)), some (.ref x), some (.ref m), some (.ref o), some (.ref od), some (.int i), some (.int kk9), some (.float b), none] [] k2 Q X := r_fewer [some (.ref (sB G)), some (.ref x), some (.ref m), some (.ref o), some (.ref od), some (.int i), none, none, none] (ls_s (ls_s (ls_s (ls_s (ls_s (ls_s (ls_n (ls_n (ls_n ls_0))))))))) (kk _ hok hI)
  have kL : mW l G m_L_law 12 mc ms 2646 [some (.ref (sB G)), some (.ref x), some (.ref m), some (.ref o), some (.ref od), some (.int i), some (.int kk9), some (.float b), none] [] k2 Q X := q_goto (tgt := 3215) dL_law_2646 (by decide) kE
  refine q_if_ne (tgt := 2646) dL_law_2610 (by decide) (fun z => kL) (fun z2 => ?_)
  obtain ⟨h0, h1⟩ := heq z2
  refine q_aload dL_law_2613 rfl ?_
  refine q_iconst dL_law_2615 ?_
  refine q_daload dL_law_2616 hok.2.2.2.2.1 (ix0 hok.2.2.2.2.2) ?_
  refine q_fload dL_law_2617 rfl ?_
  refine q_f2d h0 dL_law_2619 ?_
  refine q_dcmp dL_law_2620 ?_
  refine q_if_eq (tgt := 2646) dL_law_2621 (by decide) (fun _ => kL) (fun z3 => absurd h1 z3)
set_option maxRecDepth 100000 in
theorem k_39 {l : Launch} {G : mG} {Q : Option Value → mH → Prop} {X : String → mH → Prop} {x m o od mc ms : Nat} {i : Int32} {h : mH} {I' : mH → Prop} {a1 a2 a3 : Int32} (g1 : inb (i + Int32.ofInt 1) (sL G)) (g2 : inb (i + Int32.ofInt 2) (sL G)) (g3 : inb (i + Int32.ofInt 3) (sL G)) (ha1 : sX G (i + Int32.ofInt 1).toNatClampNeg = a1) (ha2 : sX G (i + Int32.ofInt 2).toNatClampNeg = a2) (ha3 : sX G (i + Int32.ofInt 3).toNatClampNeg = a3) (hk : kd h x = 16)
    (hop : opN x m o od I' (f_X11_isConsistent x h) (fun k => f_X12_isConsistent m k))
    (kk : ∀ h', hOK x m o od h' → I' h' → mW l G m_L_law 12 mc ms 3215 [some (.ref (sB G)), some (.ref x), some (.ref m), some (.ref o), some (.ref od), some (.int i), none, none, none] [] h' Q X) : mW l G m_L_law 12 (mc + 21) (ms + 2586) 2649 [some (.ref (sB G)), some (.ref x), some (.ref m), some (.ref o), some (.ref od), some (.int i), none, none, none] [] h Q X := by
  subst ha1; subst ha2; subst ha3
  refine q_aload_n dL_law_2649 rfl ?_
  obtain ⟨b, k1, k2, hE, hm, hfm, hok, hI⟩ := hop
  refine q_room (d' := 12) (mc' := 0 + mc) (ms' := 0 + ms) (Nat.le_refl _) (by omega) (by omega) ?_
  refine r_callV0 dL_law_2650 KL_307 (c_X11_isConsistent hE) hk (by decide) (Nat.le_of_ble_eq_true rfl) (fun _ _ q => q.elim) ?_
  rintro _ _ ⟨rfl, rfl⟩
  refine q_aload_n dL_law_2653 rfl ?_
  refine q_room (d' := 12) (mc' := 0 + mc) (ms' := 0 + ms) (Nat.le_refl _) (by omega) (by omega) ?_
  refine r_callV0 (mc := mc) (ms := ms) (mc' := 0) (ms' := 0) dL_law_2654 KL_311 (c_X12_isConsistent hfm) hm (by decide) (Nat.le_of_ble_eq_true rfl) (fun _ _ q => q.elim) ?_
  rintro _ _ ⟨rfl, rfl⟩
  refine q_icmp_eq (tgt := 3215) dL_law_2657 (by decide) (fun z => ?_) (fun z => absurd rfl z)
  exact kk _ hok hI
set_option maxRecDepth 100000 in
theorem k_40 {l : Launch} {G : mG} {Q : Option Value → mH → Prop} {X : String → mH → Prop} {x m o od mc ms : Nat} {i : Int32} {h : mH} {I' : mH → Prop} {a1 a2 a3 : Int32} (g1 : inb (i + Int32.ofInt 1) (sL G)) (g2 : inb (i + Int32.ofInt 2) (sL G)) (g3 : inb (i + Int32.ofInt 3) (sL G)) (ha1 : sX G (i + Int32.ofInt 1).toNatClampNeg = a1) (ha2 : sX G (i + Int32.ofInt 2).toNatClampNeg = a2) (ha3 : sX G (i + Int32.ofInt 3).toNatClampNeg = a3) (hk : kd h x = 16)
    (hop : opT x m o od I' (f_X11_formatPattern x a1 h) (fun r k => sl k o 0 r.toInt64) [xN] (fun k => f_X12_formatPattern m a1 k) (fun b k => gl k o 0 = Int32.toInt64 b))
    (kk : ∀ h', hOK x m o od h' → I' h' → mW l G m_L_law 12 mc ms 3215 [some (.ref (sB G)), some (.ref x), some (.ref m), some (.ref o), some (.ref od), some (.int i), none, none, none] [] h' Q X) : mW l G m_L_law 12 (mc + 21) (ms + 2586) 2662 [some (.ref (sB G)), some (.ref x), some (.ref m), some (.ref o), some (.ref od), some (.int i), none, none, none] [] h Q X := by
  subst ha1; subst ha2; subst ha3
  refine q_aload_n dL_law_2662 rfl ?_
  refine q_aload_n dL_law_2663 rfl ?_
  refine q_iload dL_law_2664 rfl ?_
  refine q_iconst dL_law_2666 ?_
  refine q_iadd dL_law_2667 ?_
  refine q_sld dL_law_2668 g1 ?_
  refine q_aload_n dL_law_2669 rfl ?_
  obtain ⟨r, hE, hr, hx, hop⟩ := hop
  refine q_room (d' := 12) (mc' := 4 + mc) (ms' := 252 + ms) (Nat.le_refl _) (by omega) (by omega) ?_
  refine r_callSX1 dL_law_2670 KX_312 (c_L_formatPattern hE hk (fun _ _ q => by subst q; exact ⟨hr.2.2.1, hr.2.2.2.1⟩) hx) (by decide) (Nat.le_of_ble_eq_true rfl) rfl ?_
  intro v9 k9 hq
  obtain ⟨kk9, b, k2, rfl, hm, hfm, hok, hth, heq, hI⟩ := hop _ _ hq
  refine q_istore dL_law_2673 (by decide) ?_
  refine q_aload_n dL_law_2675 rfl ?_
  refine q_aload_n dL_law_2676 rfl ?_
  refine q_iload dL_law_2677 rfl ?_
  refine q_iconst dL_law_2679 ?_
  refine q_iadd dL_law_2680 ?_
  refine q_sld dL_law_2681 g1 ?_
  refine q_room (d' := 12) (mc' := 0 + mc) (ms' := 0 + ms) (Nat.le_refl _) (by omega) (by omega) ?_
  refine r_callV1 (mc := mc) (ms := ms) (mc' := 0) (ms' := 0) dL_law_2682 KL_314 (c_X12_formatPattern hfm) hm (by decide) (Nat.le_of_ble_eq_true rfl) (fun _ _ q => q.elim) ?_
  rintro _ _ ⟨rfl, rfl⟩
  refine q_istore dL_law_2685 (by decide) ?_
  refine q_aload_n dL_law_2687 rfl ?_
  refine q_room (d' := 12) (mc' := 0 + mc) (ms' := 0 + ms) (Nat.le_refl _) (by omega) (by omega) ?_
  refine r_callV0 (mc := mc) (ms := ms) (mc' := 0) (ms' := 0) dL_law_2688 KL_180 (c_X12_thrown (thrown_ok hok.2.1)) hok.2.1 (by decide) (Nat.le_of_ble_eq_true rfl) (fun _ _ q => q.elim) ?_
  rintro _ _ ⟨rfl, rfl⟩
  refine q_iload dL_law_2691 rfl ?_
  refine q_icmp_eq (tgt := 2698) dL_law_2693 (by decide) (fun z => ?_) (fun z => absurd hth z)
  refine q_iload dL_law_2698 rfl ?_
  have kE : mW l G m_L_law 12 mc ms 3215 [some (.ref (sB G)), some (.ref x), some (.ref m), some (.ref o), some (.ref od), some (.int i), some (.int kk9), some (.int b), none] [] k2 Q X := r_fewer [some (.ref (sB G)), some (.ref x), some (.ref m), some (.ref o), some (.ref od), some (.int i), none, none, none] (ls_s (ls_s (ls_s (ls_s (ls_s (ls_s (ls_n (ls_n (ls_n ls_0))))))))) (kk _ hok hI)
  have kL : mW l G m_L_law 12 mc ms 2715 [some (.ref (sB G)), some (.ref x), some (.ref m), some (.ref o), some (.ref od), some (.int i), some (.int kk9), some (.int b), none] [] k2 Q X := q_goto (tgt := 3215) dL_law_2715 (by decide) kE
  refine q_if_ne (tgt := 2715) dL_law_2700 (by decide) (fun z => kL) (fun z2 => ?_)
  have h0 := heq z2
  dsimp only at h0
  refine q_aload_n dL_law_2703 rfl ?_
  refine q_iconst dL_law_2704 ?_
  refine q_laload dL_law_2705 hok.2.2.1 (ix0 hok.2.2.2.1) ?_
  refine q_iload dL_law_2706 rfl ?_
  refine q_i2l dL_law_2708 ?_
  refine q_lcmp dL_law_2709 ?_
  refine q_if_eq (tgt := 2715) dL_law_2710 (by decide) (fun _ => kL) (fun z3 => absurd ((lg_cmp_eq _ _).mpr h0) z3)
set_option maxRecDepth 100000 in
theorem k_41 {l : Launch} {G : mG} {Q : Option Value → mH → Prop} {X : String → mH → Prop} {x m o od mc ms : Nat} {i : Int32} {h : mH} {I' : mH → Prop} {a1 a2 a3 : Int32} (g1 : inb (i + Int32.ofInt 1) (sL G)) (g2 : inb (i + Int32.ofInt 2) (sL G)) (g3 : inb (i + Int32.ofInt 3) (sL G)) (ha1 : sX G (i + Int32.ofInt 1).toNatClampNeg = a1) (ha2 : sX G (i + Int32.ofInt 2).toNatClampNeg = a2) (ha3 : sX G (i + Int32.ofInt 3).toNatClampNeg = a3) (hk : kd h x = 16)
    (hop : opT x m o od I' (f_X11_formatShortest x a1 h) (fun r k => sl k o 0 r.toInt64) [xN] (fun k => f_X12_formatShortest m a1 k) (fun b k => gl k o 0 = Int32.toInt64 b))
    (kk : ∀ h', hOK x m o od h' → I' h' → mW l G m_L_law 12 mc ms 3215 [some (.ref (sB G)), some (.ref x), some (.ref m), some (.ref o), some (.ref od), some (.int i), none, none, none] [] h' Q X) : mW l G m_L_law 12 (mc + 21) (ms + 2586) 2718 [some (.ref (sB G)), some (.ref x), some (.ref m), some (.ref o), some (.ref od), some (.int i), none, none, none] [] h Q X := by
  subst ha1; subst ha2; subst ha3
  refine q_aload_n dL_law_2718 rfl ?_
  refine q_aload_n dL_law_2719 rfl ?_
  refine q_iload dL_law_2720 rfl ?_
  refine q_iconst dL_law_2722 ?_
  refine q_iadd dL_law_2723 ?_
  refine q_sld dL_law_2724 g1 ?_
  refine q_aload_n dL_law_2725 rfl ?_
  obtain ⟨r, hE, hr, hx, hop⟩ := hop
  refine q_room (d' := 12) (mc' := 4 + mc) (ms' := 252 + ms) (Nat.le_refl _) (by omega) (by omega) ?_
  refine r_callSX1 dL_law_2726 KX_315 (c_L_formatShortest hE hk (fun _ _ q => by subst q; exact ⟨hr.2.2.1, hr.2.2.2.1⟩) hx) (by decide) (Nat.le_of_ble_eq_true rfl) rfl ?_
  intro v9 k9 hq
  obtain ⟨kk9, b, k2, rfl, hm, hfm, hok, hth, heq, hI⟩ := hop _ _ hq
  refine q_istore dL_law_2729 (by decide) ?_
  refine q_aload_n dL_law_2731 rfl ?_
  refine q_aload_n dL_law_2732 rfl ?_
  refine q_iload dL_law_2733 rfl ?_
  refine q_iconst dL_law_2735 ?_
  refine q_iadd dL_law_2736 ?_
  refine q_sld dL_law_2737 g1 ?_
  refine q_room (d' := 12) (mc' := 0 + mc) (ms' := 0 + ms) (Nat.le_refl _) (by omega) (by omega) ?_
  refine r_callV1 (mc := mc) (ms := ms) (mc' := 0) (ms' := 0) dL_law_2738 KL_317 (c_X12_formatShortest hfm) hm (by decide) (Nat.le_of_ble_eq_true rfl) (fun _ _ q => q.elim) ?_
  rintro _ _ ⟨rfl, rfl⟩
  refine q_istore dL_law_2741 (by decide) ?_
  refine q_aload_n dL_law_2743 rfl ?_
  refine q_room (d' := 12) (mc' := 0 + mc) (ms' := 0 + ms) (Nat.le_refl _) (by omega) (by omega) ?_
  refine r_callV0 (mc := mc) (ms := ms) (mc' := 0) (ms' := 0) dL_law_2744 KL_180 (c_X12_thrown (thrown_ok hok.2.1)) hok.2.1 (by decide) (Nat.le_of_ble_eq_true rfl) (fun _ _ q => q.elim) ?_
  rintro _ _ ⟨rfl, rfl⟩
  refine q_iload dL_law_2747 rfl ?_
  refine q_icmp_eq (tgt := 2754) dL_law_2749 (by decide) (fun z => ?_) (fun z => absurd hth z)
  refine q_iload dL_law_2754 rfl ?_
  have kE : mW l G m_L_law 12 mc ms 3215 [some (.ref (sB G)), some (.ref x), some (.ref m), some (.ref o), some (.ref od), some (.int i), some (.int kk9), some (.int b), none] [] k2 Q X := r_fewer [some (.ref (sB G)), some (.ref x), some (.ref m), some (.ref o), some (.ref od), some (.int i), none, none, none] (ls_s (ls_s (ls_s (ls_s (ls_s (ls_s (ls_n (ls_n (ls_n ls_0))))))))) (kk _ hok hI)
  have kL : mW l G m_L_law 12 mc ms 2771 [some (.ref (sB G)), some (.ref x), some (.ref m), some (.ref o), some (.ref od), some (.int i), some (.int kk9), some (.int b), none] [] k2 Q X := q_goto (tgt := 3215) dL_law_2771 (by decide) kE
  refine q_if_ne (tgt := 2771) dL_law_2756 (by decide) (fun z => kL) (fun z2 => ?_)
  have h0 := heq z2
  dsimp only at h0
  refine q_aload_n dL_law_2759 rfl ?_
  refine q_iconst dL_law_2760 ?_
  refine q_laload dL_law_2761 hok.2.2.1 (ix0 hok.2.2.2.1) ?_
  refine q_iload dL_law_2762 rfl ?_
  refine q_i2l dL_law_2764 ?_
  refine q_lcmp dL_law_2765 ?_
  refine q_if_eq (tgt := 2771) dL_law_2766 (by decide) (fun _ => kL) (fun z3 => absurd ((lg_cmp_eq _ _).mpr h0) z3)
set_option maxRecDepth 100000 in
theorem k_42 {l : Launch} {G : mG} {Q : Option Value → mH → Prop} {X : String → mH → Prop} {x m o od mc ms : Nat} {i : Int32} {h : mH} {I' : mH → Prop} {a1 a2 a3 : Int32} (g1 : inb (i + Int32.ofInt 1) (sL G)) (g2 : inb (i + Int32.ofInt 2) (sL G)) (g3 : inb (i + Int32.ofInt 3) (sL G)) (ha1 : sX G (i + Int32.ofInt 1).toNatClampNeg = a1) (ha2 : sX G (i + Int32.ofInt 2).toNatClampNeg = a2) (ha3 : sX G (i + Int32.ofInt 3).toNatClampNeg = a3) (hk : kd h x = 16)
    (hop : opT x m o od I' (f_X11_formatDifference x a1 a2 h) (fun r k => sl k o 0 r.toInt64) [xN] (fun k => f_X12_formatDifference m a1 a2 k) (fun b k => gl k o 0 = Int32.toInt64 b))
    (kk : ∀ h', hOK x m o od h' → I' h' → mW l G m_L_law 12 mc ms 3215 [some (.ref (sB G)), some (.ref x), some (.ref m), some (.ref o), some (.ref od), some (.int i), none, none, none] [] h' Q X) : mW l G m_L_law 12 (mc + 21) (ms + 2586) 2774 [some (.ref (sB G)), some (.ref x), some (.ref m), some (.ref o), some (.ref od), some (.int i), none, none, none] [] h Q X := by
  subst ha1; subst ha2; subst ha3
  refine q_aload_n dL_law_2774 rfl ?_
  refine q_aload_n dL_law_2775 rfl ?_
  refine q_iload dL_law_2776 rfl ?_
  refine q_iconst dL_law_2778 ?_
  refine q_iadd dL_law_2779 ?_
  refine q_sld dL_law_2780 g1 ?_
  refine q_aload_n dL_law_2781 rfl ?_
  refine q_iload dL_law_2782 rfl ?_
  refine q_iconst dL_law_2784 ?_
  refine q_iadd dL_law_2785 ?_
  refine q_sld dL_law_2786 g2 ?_
  refine q_aload_n dL_law_2787 rfl ?_
  obtain ⟨r, hE, hr, hx, hop⟩ := hop
  refine q_room (d' := 12) (mc' := 5 + mc) (ms' := 258 + ms) (Nat.le_refl _) (by omega) (by omega) ?_
  refine r_callSX2 dL_law_2788 KX_318 (c_L_formatDifference hE hk (fun _ _ q => by subst q; exact ⟨hr.2.2.1, hr.2.2.2.1⟩) hx) (by decide) (Nat.le_of_ble_eq_true rfl) rfl ?_
  intro v9 k9 hq
  obtain ⟨kk9, b, k2, rfl, hm, hfm, hok, hth, heq, hI⟩ := hop _ _ hq
  refine q_istore dL_law_2791 (by decide) ?_
  refine q_aload_n dL_law_2793 rfl ?_
  refine q_aload_n dL_law_2794 rfl ?_
  refine q_iload dL_law_2795 rfl ?_
  refine q_iconst dL_law_2797 ?_
  refine q_iadd dL_law_2798 ?_
  refine q_sld dL_law_2799 g1 ?_
  refine q_aload_n dL_law_2800 rfl ?_
  refine q_iload dL_law_2801 rfl ?_
  refine q_iconst dL_law_2803 ?_
  refine q_iadd dL_law_2804 ?_
  refine q_sld dL_law_2805 g2 ?_
  refine q_room (d' := 12) (mc' := 0 + mc) (ms' := 0 + ms) (Nat.le_refl _) (by omega) (by omega) ?_
  refine r_callV2 (mc := mc) (ms := ms) (mc' := 0) (ms' := 0) dL_law_2806 KL_320 (c_X12_formatDifference hfm) hm (by decide) (Nat.le_of_ble_eq_true rfl) (fun _ _ q => q.elim) ?_
  rintro _ _ ⟨rfl, rfl⟩
  refine q_istore dL_law_2809 (by decide) ?_
  refine q_aload_n dL_law_2811 rfl ?_
  refine q_room (d' := 12) (mc' := 0 + mc) (ms' := 0 + ms) (Nat.le_refl _) (by omega) (by omega) ?_
  refine r_callV0 (mc := mc) (ms := ms) (mc' := 0) (ms' := 0) dL_law_2812 KL_180 (c_X12_thrown (thrown_ok hok.2.1)) hok.2.1 (by decide) (Nat.le_of_ble_eq_true rfl) (fun _ _ q => q.elim) ?_
  rintro _ _ ⟨rfl, rfl⟩
  refine q_iload dL_law_2815 rfl ?_
  refine q_icmp_eq (tgt := 2822) dL_law_2817 (by decide) (fun z => ?_) (fun z => absurd hth z)
  refine q_iload dL_law_2822 rfl ?_
  have kE : mW l G m_L_law 12 mc ms 3215 [some (.ref (sB G)), some (.ref x), some (.ref m), some (.ref o), some (.ref od), some (.int i), some (.int kk9), some (.int b), none] [] k2 Q X := r_fewer [some (.ref (sB G)), some (.ref x), some (.ref m), some (.ref o), some (.ref od), some (.int i), none, none, none] (ls_s (ls_s (ls_s (ls_s (ls_s (ls_s (ls_n (ls_n (ls_n ls_0))))))))) (kk _ hok hI)
  have kL : mW l G m_L_law 12 mc ms 2839 [some (.ref (sB G)), some (.ref x), some (.ref m), some (.ref o), some (.ref od), some (.int i), some (.int kk9), some (.int b), none] [] k2 Q X := q_goto (tgt := 3215) dL_law_2839 (by decide) kE
  refine q_if_ne (tgt := 2839) dL_law_2824 (by decide) (fun z => kL) (fun z2 => ?_)
  have h0 := heq z2
  dsimp only at h0
  refine q_aload_n dL_law_2827 rfl ?_
  refine q_iconst dL_law_2828 ?_
  refine q_laload dL_law_2829 hok.2.2.1 (ix0 hok.2.2.2.1) ?_
  refine q_iload dL_law_2830 rfl ?_
  refine q_i2l dL_law_2832 ?_
  refine q_lcmp dL_law_2833 ?_
  refine q_if_eq (tgt := 2839) dL_law_2834 (by decide) (fun _ => kL) (fun z3 => absurd ((lg_cmp_eq _ _).mpr h0) z3)
set_option maxRecDepth 100000 in
theorem k_43 {l : Launch} {G : mG} {Q : Option Value → mH → Prop} {X : String → mH → Prop} {x m o od mc ms : Nat} {i : Int32} {h : mH} {I' : mH → Prop} {a1 a2 a3 : Int32} (g1 : inb (i + Int32.ofInt 1) (sL G)) (g2 : inb (i + Int32.ofInt 2) (sL G)) (g3 : inb (i + Int32.ofInt 3) (sL G)) (ha1 : sX G (i + Int32.ofInt 1).toNatClampNeg = a1) (ha2 : sX G (i + Int32.ofInt 2).toNatClampNeg = a2) (ha3 : sX G (i + Int32.ofInt 3).toNatClampNeg = a3) (hk : kd h x = 16)
    (hop : opT x m o od I' (f_X11_lineChar x a1 h) (fun r k => sl k o 0 r.toInt64) [xI] (fun k => f_X12_lineChar m a1 k) (fun b k => gl k o 0 = Int32.toInt64 b))
    (kk : ∀ h', hOK x m o od h' → I' h' → mW l G m_L_law 12 mc ms 3215 [some (.ref (sB G)), some (.ref x), some (.ref m), some (.ref o), some (.ref od), some (.int i), none, none, none] [] h' Q X) : mW l G m_L_law 12 (mc + 21) (ms + 2586) 2842 [some (.ref (sB G)), some (.ref x), some (.ref m), some (.ref o), some (.ref od), some (.int i), none, none, none] [] h Q X := by
  subst ha1; subst ha2; subst ha3
  refine q_aload_n dL_law_2842 rfl ?_
  refine q_aload_n dL_law_2843 rfl ?_
  refine q_iload dL_law_2844 rfl ?_
  refine q_iconst dL_law_2846 ?_
  refine q_iadd dL_law_2847 ?_
  refine q_sld dL_law_2848 g1 ?_
  refine q_aload_n dL_law_2849 rfl ?_
  obtain ⟨r, hE, hr, hx, hop⟩ := hop
  refine q_room (d' := 12) (mc' := 1 + mc) (ms' := 6 + ms) (Nat.le_refl _) (by omega) (by omega) ?_
  refine r_callSX1 dL_law_2850 KX_321 (c_L_lineChar hE hk (fun _ _ q => by subst q; exact ⟨hr.2.2.1, hr.2.2.2.1⟩) hx) (by decide) (Nat.le_of_ble_eq_true rfl) rfl ?_
  intro v9 k9 hq
  obtain ⟨kk9, b, k2, rfl, hm, hfm, hok, hth, heq, hI⟩ := hop _ _ hq
  refine q_istore dL_law_2853 (by decide) ?_
  refine q_aload_n dL_law_2855 rfl ?_
  refine q_aload_n dL_law_2856 rfl ?_
  refine q_iload dL_law_2857 rfl ?_
  refine q_iconst dL_law_2859 ?_
  refine q_iadd dL_law_2860 ?_
  refine q_sld dL_law_2861 g1 ?_
  refine q_room (d' := 12) (mc' := 0 + mc) (ms' := 0 + ms) (Nat.le_refl _) (by omega) (by omega) ?_
  refine r_callV1 (mc := mc) (ms := ms) (mc' := 0) (ms' := 0) dL_law_2862 KL_323 (c_X12_lineChar hfm) hm (by decide) (Nat.le_of_ble_eq_true rfl) (fun _ _ q => q.elim) ?_
  rintro _ _ ⟨rfl, rfl⟩
  refine q_istore dL_law_2865 (by decide) ?_
  refine q_aload_n dL_law_2867 rfl ?_
  refine q_room (d' := 12) (mc' := 0 + mc) (ms' := 0 + ms) (Nat.le_refl _) (by omega) (by omega) ?_
  refine r_callV0 (mc := mc) (ms := ms) (mc' := 0) (ms' := 0) dL_law_2868 KL_180 (c_X12_thrown (thrown_ok hok.2.1)) hok.2.1 (by decide) (Nat.le_of_ble_eq_true rfl) (fun _ _ q => q.elim) ?_
  rintro _ _ ⟨rfl, rfl⟩
  refine q_iload dL_law_2871 rfl ?_
  refine q_icmp_eq (tgt := 2878) dL_law_2873 (by decide) (fun z => ?_) (fun z => absurd hth z)
  refine q_iload dL_law_2878 rfl ?_
  have kE : mW l G m_L_law 12 mc ms 3215 [some (.ref (sB G)), some (.ref x), some (.ref m), some (.ref o), some (.ref od), some (.int i), some (.int kk9), some (.int b), none] [] k2 Q X := r_fewer [some (.ref (sB G)), some (.ref x), some (.ref m), some (.ref o), some (.ref od), some (.int i), none, none, none] (ls_s (ls_s (ls_s (ls_s (ls_s (ls_s (ls_n (ls_n (ls_n ls_0))))))))) (kk _ hok hI)
  have kL : mW l G m_L_law 12 mc ms 2895 [some (.ref (sB G)), some (.ref x), some (.ref m), some (.ref o), some (.ref od), some (.int i), some (.int kk9), some (.int b), none] [] k2 Q X := q_goto (tgt := 3215) dL_law_2895 (by decide) kE
  refine q_if_ne (tgt := 2895) dL_law_2880 (by decide) (fun z => kL) (fun z2 => ?_)
  have h0 := heq z2
  dsimp only at h0
  refine q_aload_n dL_law_2883 rfl ?_
  refine q_iconst dL_law_2884 ?_
  refine q_laload dL_law_2885 hok.2.2.1 (ix0 hok.2.2.2.1) ?_
  refine q_iload dL_law_2886 rfl ?_
  refine q_i2l dL_law_2888 ?_
  refine q_lcmp dL_law_2889 ?_
  refine q_if_eq (tgt := 2895) dL_law_2890 (by decide) (fun _ => kL) (fun z3 => absurd ((lg_cmp_eq _ _).mpr h0) z3)
set_option maxRecDepth 100000 in
theorem k_44 {l : Launch} {G : mG} {Q : Option Value → mH → Prop} {X : String → mH → Prop} {x m o od mc ms : Nat} {i : Int32} {h : mH} {I' : mH → Prop} {a1 a2 a3 : Int32} (g1 : inb (i + Int32.ofInt 1) (sL G)) (g2 : inb (i + Int32.ofInt 2) (sL G)) (g3 : inb (i + Int32.ofInt 3) (sL G)) (ha1 : sX G (i + Int32.ofInt 1).toNatClampNeg = a1) (ha2 : sX G (i + Int32.ofInt 2).toNatClampNeg = a2) (ha3 : sX G (i + Int32.ofInt 3).toNatClampNeg = a3) (hk : kd h x = 16)
    (hop : opT x m o od I' (f_X11_append x (chr a1) h) (fun r k => sl k o 0 r.toInt64) [xA, xS] (fun k => f_X12_append m (chr a1) k) (fun b k => gl k o 0 = Int32.toInt64 b))
    (kk : ∀ h', hOK x m o od h' → I' h' → mW l G m_L_law 12 mc ms 3215 [some (.ref (sB G)), some (.ref x), some (.ref m), some (.ref o), some (.ref od), some (.int i), none, none, none] [] h' Q X) : mW l G m_L_law 12 (mc + 21) (ms + 2586) 2898 [some (.ref (sB G)), some (.ref x), some (.ref m), some (.ref o), some (.ref od), some (.int i), none, none, none] [] h Q X := by
  subst ha1; subst ha2; subst ha3
  refine q_aload_n dL_law_2898 rfl ?_
  refine q_aload_n dL_law_2899 rfl ?_
  refine q_iload dL_law_2900 rfl ?_
  refine q_iconst dL_law_2902 ?_
  refine q_iadd dL_law_2903 ?_
  refine q_sld dL_law_2904 g1 ?_
  refine q_i2c dL_law_2905 ?_
  refine q_aload_n dL_law_2906 rfl ?_
  obtain ⟨r, hE, hr, hx, hop⟩ := hop
  refine q_room (d' := 12) (mc' := 1 + mc) (ms' := 6 + ms) (Nat.le_refl _) (by omega) (by omega) ?_
  refine r_callSX1 dL_law_2907 KX_324 (c_L_append hE hk (fun _ _ q => by subst q; exact ⟨hr.2.2.1, hr.2.2.2.1⟩) hx) (by decide) (Nat.le_of_ble_eq_true rfl) rfl ?_
  intro v9 k9 hq
  obtain ⟨kk9, b, k2, rfl, hm, hfm, hok, hth, heq, hI⟩ := hop _ _ hq
  refine q_istore dL_law_2910 (by decide) ?_
  refine q_aload_n dL_law_2912 rfl ?_
  refine q_aload_n dL_law_2913 rfl ?_
  refine q_iload dL_law_2914 rfl ?_
  refine q_iconst dL_law_2916 ?_
  refine q_iadd dL_law_2917 ?_
  refine q_sld dL_law_2918 g1 ?_
  refine q_i2c dL_law_2919 ?_
  refine q_room (d' := 12) (mc' := 0 + mc) (ms' := 0 + ms) (Nat.le_refl _) (by omega) (by omega) ?_
  refine r_callV1 (mc := mc) (ms := ms) (mc' := 0) (ms' := 0) dL_law_2920 KL_327 (c_X12_append hfm) hm (by decide) (Nat.le_of_ble_eq_true rfl) (fun _ _ q => q.elim) ?_
  rintro _ _ ⟨rfl, rfl⟩
  refine q_istore dL_law_2923 (by decide) ?_
  refine q_aload_n dL_law_2925 rfl ?_
  refine q_room (d' := 12) (mc' := 0 + mc) (ms' := 0 + ms) (Nat.le_refl _) (by omega) (by omega) ?_
  refine r_callV0 (mc := mc) (ms := ms) (mc' := 0) (ms' := 0) dL_law_2926 KL_180 (c_X12_thrown (thrown_ok hok.2.1)) hok.2.1 (by decide) (Nat.le_of_ble_eq_true rfl) (fun _ _ q => q.elim) ?_
  rintro _ _ ⟨rfl, rfl⟩
  refine q_iload dL_law_2929 rfl ?_
  refine q_icmp_eq (tgt := 2936) dL_law_2931 (by decide) (fun z => ?_) (fun z => absurd hth z)
  refine q_iload dL_law_2936 rfl ?_
  have kE : mW l G m_L_law 12 mc ms 3215 [some (.ref (sB G)), some (.ref x), some (.ref m), some (.ref o), some (.ref od), some (.int i), some (.int kk9), some (.int b), none] [] k2 Q X := r_fewer [some (.ref (sB G)), some (.ref x), some (.ref m), some (.ref o), some (.ref od), some (.int i), none, none, none] (ls_s (ls_s (ls_s (ls_s (ls_s (ls_s (ls_n (ls_n (ls_n ls_0))))))))) (kk _ hok hI)
  have kL : mW l G m_L_law 12 mc ms 2953 [some (.ref (sB G)), some (.ref x), some (.ref m), some (.ref o), some (.ref od), some (.int i), some (.int kk9), some (.int b), none] [] k2 Q X := q_goto (tgt := 3215) dL_law_2953 (by decide) kE
  refine q_if_ne (tgt := 2953) dL_law_2938 (by decide) (fun z => kL) (fun z2 => ?_)
  have h0 := heq z2
  dsimp only at h0
  refine q_aload_n dL_law_2941 rfl ?_
  refine q_iconst dL_law_2942 ?_
  refine q_laload dL_law_2943 hok.2.2.1 (ix0 hok.2.2.2.1) ?_
  refine q_iload dL_law_2944 rfl ?_
  refine q_i2l dL_law_2946 ?_
  refine q_lcmp dL_law_2947 ?_
  refine q_if_eq (tgt := 2953) dL_law_2948 (by decide) (fun _ => kL) (fun z3 => absurd ((lg_cmp_eq _ _).mpr h0) z3)
set_option maxRecDepth 100000 in
theorem k_45 {l : Launch} {G : mG} {Q : Option Value → mH → Prop} {X : String → mH → Prop} {x m o od mc ms : Nat} {i : Int32} {h : mH} {I' : mH → Prop} {a1 a2 a3 : Int32} (g1 : inb (i + Int32.ofInt 1) (sL G)) (g2 : inb (i + Int32.ofInt 2) (sL G)) (g3 : inb (i + Int32.ofInt 3) (sL G)) (ha1 : sX G (i + Int32.ofInt 1).toNatClampNeg = a1) (ha2 : sX G (i + Int32.ofInt 2).toNatClampNeg = a2) (ha3 : sX G (i + Int32.ofInt 3).toNatClampNeg = a3) (hk : kd h x = 16)
    (hop : opN x m o od I' (f_X11_clearBuffer x h) (fun k => f_X12_clearBuffer m k))
    (kk : ∀ h', hOK x m o od h' → I' h' → mW l G m_L_law 12 mc ms 3215 [some (.ref (sB G)), some (.ref x), some (.ref m), some (.ref o), some (.ref od), some (.int i), none, none, none] [] h' Q X) : mW l G m_L_law 12 (mc + 21) (ms + 2586) 2956 [some (.ref (sB G)), some (.ref x), some (.ref m), some (.ref o), some (.ref od), some (.int i), none, none, none] [] h Q X := by
  subst ha1; subst ha2; subst ha3
  refine q_aload_n dL_law_2956 rfl ?_
  obtain ⟨b, k1, k2, hE, hm, hfm, hok, hI⟩ := hop
  refine q_room (d' := 12) (mc' := 0 + mc) (ms' := 0 + ms) (Nat.le_refl _) (by omega) (by omega) ?_
  refine r_callV0 dL_law_2957 KL_328 (c_X11_clearBuffer hE) hk (by decide) (Nat.le_of_ble_eq_true rfl) (fun _ _ q => q.elim) ?_
  rintro _ _ ⟨rfl, rfl⟩
  refine q_aload_n dL_law_2960 rfl ?_
  refine q_room (d' := 12) (mc' := 0 + mc) (ms' := 0 + ms) (Nat.le_refl _) (by omega) (by omega) ?_
  refine r_callV0 (mc := mc) (ms := ms) (mc' := 0) (ms' := 0) dL_law_2961 KL_331 (c_X12_clearBuffer hfm) hm (by decide) (Nat.le_of_ble_eq_true rfl) (fun _ _ q => q.elim) ?_
  rintro _ _ ⟨rfl, rfl⟩
  refine q_icmp_eq (tgt := 3215) dL_law_2964 (by decide) (fun z => ?_) (fun z => absurd rfl z)
  exact kk _ hok hI
set_option maxRecDepth 100000 in
theorem k_46 {l : Launch} {G : mG} {Q : Option Value → mH → Prop} {X : String → mH → Prop} {x m o od mc ms : Nat} {i : Int32} {h : mH} {I' : mH → Prop} {a1 a2 a3 : Int32} (g1 : inb (i + Int32.ofInt 1) (sL G)) (g2 : inb (i + Int32.ofInt 2) (sL G)) (g3 : inb (i + Int32.ofInt 3) (sL G)) (ha1 : sX G (i + Int32.ofInt 1).toNatClampNeg = a1) (ha2 : sX G (i + Int32.ofInt 2).toNatClampNeg = a2) (ha3 : sX G (i + Int32.ofInt 3).toNatClampNeg = a3) (hk : kd h x = 16)
    (hop : opT x m o od I' (f_X11_run x h) (fun r k => sl k o 0 r.toInt64) [xA, xS] (fun k => f_X12_run m k) (fun b k => gl k o 0 = Int32.toInt64 b))
    (kk : ∀ h', hOK x m o od h' → I' h' → mW l G m_L_law 12 mc ms 3215 [some (.ref (sB G)), some (.ref x), some (.ref m), some (.ref o), some (.ref od), some (.int i), none, none, none] [] h' Q X) : mW l G m_L_law 12 (mc + 21) (ms + 2586) 2969 [some (.ref (sB G)), some (.ref x), some (.ref m), some (.ref o), some (.ref od), some (.int i), none, none, none] [] h Q X := by
  subst ha1; subst ha2; subst ha3
  refine q_aload_n dL_law_2969 rfl ?_
  refine q_aload_n dL_law_2970 rfl ?_
  obtain ⟨r, hE, hr, hx, hop⟩ := hop
  refine q_room (d' := 12) (mc' := 21 + mc) (ms' := 2586 + ms) (Nat.le_refl _) (by omega) (by omega) ?_
  refine r_callSX0 dL_law_2971 KX_332 (c_L_run hE hk (fun _ _ q => by subst q; exact ⟨hr.2.2.1, hr.2.2.2.1⟩) hx) (by decide) (Nat.le_of_ble_eq_true rfl) rfl ?_
  intro v9 k9 hq
  obtain ⟨kk9, b, k2, rfl, hm, hfm, hok, hth, heq, hI⟩ := hop _ _ hq
  refine q_istore dL_law_2974 (by decide) ?_
  refine q_aload_n dL_law_2976 rfl ?_
  refine q_room (d' := 12) (mc' := 0 + mc) (ms' := 0 + ms) (Nat.le_refl _) (by omega) (by omega) ?_
  refine r_callV0 (mc := mc) (ms := ms) (mc' := 0) (ms' := 0) dL_law_2977 KL_334 (c_X12_run hfm) hm (by decide) (Nat.le_of_ble_eq_true rfl) (fun _ _ q => q.elim) ?_
  rintro _ _ ⟨rfl, rfl⟩
  refine q_istore dL_law_2980 (by decide) ?_
  refine q_aload_n dL_law_2982 rfl ?_
  refine q_room (d' := 12) (mc' := 0 + mc) (ms' := 0 + ms) (Nat.le_refl _) (by omega) (by omega) ?_
  refine r_callV0 (mc := mc) (ms := ms) (mc' := 0) (ms' := 0) dL_law_2983 KL_180 (c_X12_thrown (thrown_ok hok.2.1)) hok.2.1 (by decide) (Nat.le_of_ble_eq_true rfl) (fun _ _ q => q.elim) ?_
  rintro _ _ ⟨rfl, rfl⟩
  refine q_iload dL_law_2986 rfl ?_
  refine q_icmp_eq (tgt := 2993) dL_law_2988 (by decide) (fun z => ?_) (fun z => absurd hth z)
  refine q_iload dL_law_2993 rfl ?_
  have kE : mW l G m_L_law 12 mc ms 3215 [some (.ref (sB G)), some (.ref x), some (.ref m), some (.ref o), some (.ref od), some (.int i), some (.int kk9), some (.int b), none] [] k2 Q X := r_fewer [some (.ref (sB G)), some (.ref x), some (.ref m), some (.ref o), some (.ref od), some (.int i), none, none, none] (ls_s (ls_s (ls_s (ls_s (ls_s (ls_s (ls_n (ls_n (ls_n ls_0))))))))) (kk _ hok hI)
  have kL : mW l G m_L_law 12 mc ms 3010 [some (.ref (sB G)), some (.ref x), some (.ref m), some (.ref o), some (.ref od), some (.int i), some (.int kk9), some (.int b), none] [] k2 Q X := q_goto (tgt := 3215) dL_law_3010 (by decide) kE
  refine q_if_ne (tgt := 3010) dL_law_2995 (by decide) (fun z => kL) (fun z2 => ?_)
  have h0 := heq z2
  dsimp only at h0
  refine q_aload_n dL_law_2998 rfl ?_
  refine q_iconst dL_law_2999 ?_
  refine q_laload dL_law_3000 hok.2.2.1 (ix0 hok.2.2.2.1) ?_
  refine q_iload dL_law_3001 rfl ?_
  refine q_i2l dL_law_3003 ?_
  refine q_lcmp dL_law_3004 ?_
  refine q_if_eq (tgt := 3010) dL_law_3005 (by decide) (fun _ => kL) (fun z3 => absurd ((lg_cmp_eq _ _).mpr h0) z3)
set_option maxRecDepth 100000 in
theorem k_47 {l : Launch} {G : mG} {Q : Option Value → mH → Prop} {X : String → mH → Prop} {x m o od mc ms : Nat} {i : Int32} {h : mH} {I' : mH → Prop} {a1 a2 a3 : Int32} (g1 : inb (i + Int32.ofInt 1) (sL G)) (g2 : inb (i + Int32.ofInt 2) (sL G)) (g3 : inb (i + Int32.ofInt 3) (sL G)) (ha1 : sX G (i + Int32.ofInt 1).toNatClampNeg = a1) (ha2 : sX G (i + Int32.ofInt 2).toNatClampNeg = a2) (ha3 : sX G (i + Int32.ofInt 3).toNatClampNeg = a3) (hk : kd h x = 16)
    (hop : opT x m o od I' (f_X11_errorPosition x h) (fun r k => sl k o 0 r.toInt64) [xN] (fun k => f_X12_errorPosition m k) (fun b k => gl k o 0 = Int32.toInt64 b))
    (kk : ∀ h', hOK x m o od h' → I' h' → mW l G m_L_law 12 mc ms 3215 [some (.ref (sB G)), some (.ref x), some (.ref m), some (.ref o), some (.ref od), some (.int i), none, none, none] [] h' Q X) : mW l G m_L_law 12 (mc + 21) (ms + 2586) 3013 [some (.ref (sB G)), some (.ref x), some (.ref m), some (.ref o), some (.ref od), some (.int i), none, none, none] [] h Q X := by
  subst ha1; subst ha2; subst ha3
  refine q_aload_n dL_law_3013 rfl ?_
  refine q_aload_n dL_law_3014 rfl ?_
  obtain ⟨r, hE, hr, hx, hop⟩ := hop
  refine q_room (d' := 12) (mc' := 1 + mc) (ms' := 6 + ms) (Nat.le_refl _) (by omega) (by omega) ?_
  refine r_callSX0 dL_law_3015 KX_335 (c_L_errorPosition hE hk (fun _ _ q => by subst q; exact ⟨hr.2.2.1, hr.2.2.2.1⟩) hx) (by decide) (Nat.le_of_ble_eq_true rfl) rfl ?_
  intro v9 k9 hq
  obtain ⟨kk9, b, k2, rfl, hm, hfm, hok, hth, heq, hI⟩ := hop _ _ hq
  refine q_istore dL_law_3018 (by decide) ?_
  refine q_aload_n dL_law_3020 rfl ?_
  refine q_room (d' := 12) (mc' := 0 + mc) (ms' := 0 + ms) (Nat.le_refl _) (by omega) (by omega) ?_
  refine r_callV0 (mc := mc) (ms := ms) (mc' := 0) (ms' := 0) dL_law_3021 KL_337 (c_X12_errorPosition hfm) hm (by decide) (Nat.le_of_ble_eq_true rfl) (fun _ _ q => q.elim) ?_
  rintro _ _ ⟨rfl, rfl⟩
  refine q_istore dL_law_3024 (by decide) ?_
  refine q_aload_n dL_law_3026 rfl ?_
  refine q_room (d' := 12) (mc' := 0 + mc) (ms' := 0 + ms) (Nat.le_refl _) (by omega) (by omega) ?_
  refine r_callV0 (mc := mc) (ms := ms) (mc' := 0) (ms' := 0) dL_law_3027 KL_180 (c_X12_thrown (thrown_ok hok.2.1)) hok.2.1 (by decide) (Nat.le_of_ble_eq_true rfl) (fun _ _ q => q.elim) ?_
  rintro _ _ ⟨rfl, rfl⟩
  refine q_iload dL_law_3030 rfl ?_
  refine q_icmp_eq (tgt := 3037) dL_law_3032 (by decide) (fun z => ?_) (fun z => absurd hth z)
  refine q_iload dL_law_3037 rfl ?_
  have kE : mW l G m_L_law 12 mc ms 3215 [some (.ref (sB G)), some (.ref x), some (.ref m), some (.ref o), some (.ref od), some (.int i), some (.int kk9), some (.int b), none] [] k2 Q X := r_fewer [some (.ref (sB G)), some (.ref x), some (.ref m), some (.ref o), some (.ref od), some (.int i), none, none, none] (ls_s (ls_s (ls_s (ls_s (ls_s (ls_s (ls_n (ls_n (ls_n ls_0))))))))) (kk _ hok hI)
  have kL : mW l G m_L_law 12 mc ms 3054 [some (.ref (sB G)), some (.ref x), some (.ref m), some (.ref o), some (.ref od), some (.int i), some (.int kk9), some (.int b), none] [] k2 Q X := q_goto (tgt := 3215) dL_law_3054 (by decide) kE
  refine q_if_ne (tgt := 3054) dL_law_3039 (by decide) (fun z => kL) (fun z2 => ?_)
  have h0 := heq z2
  dsimp only at h0
  refine q_aload_n dL_law_3042 rfl ?_
  refine q_iconst dL_law_3043 ?_
  refine q_laload dL_law_3044 hok.2.2.1 (ix0 hok.2.2.2.1) ?_
  refine q_iload dL_law_3045 rfl ?_
  refine q_i2l dL_law_3047 ?_
  refine q_lcmp dL_law_3048 ?_
  refine q_if_eq (tgt := 3054) dL_law_3049 (by decide) (fun _ => kL) (fun z3 => absurd ((lg_cmp_eq _ _).mpr h0) z3)
set_option maxRecDepth 100000 in
theorem k_48 {l : Launch} {G : mG} {Q : Option Value → mH → Prop} {X : String → mH → Prop} {x m o od mc ms : Nat} {i : Int32} {h : mH} {I' : mH → Prop} {a1 a2 a3 : Int32} (g1 : inb (i + Int32.ofInt 1) (sL G)) (g2 : inb (i + Int32.ofInt 2) (sL G)) (g3 : inb (i + Int32.ofInt 3) (sL G)) (ha1 : sX G (i + Int32.ofInt 1).toNatClampNeg = a1) (ha2 : sX G (i + Int32.ofInt 2).toNatClampNeg = a2) (ha3 : sX G (i + Int32.ofInt 3).toNatClampNeg = a3) (hk : kd h x = 16)
    (hop : opT x m o od I' (f_X11_failedCommand x h) (fun r k => sl k o 0 r.toInt64) [xN] (fun k => f_X12_failedCommand m k) (fun b k => gl k o 0 = Int32.toInt64 b))
    (kk : ∀ h', hOK x m o od h' → I' h' → mW l G m_L_law 12 mc ms 3215 [some (.ref (sB G)), some (.ref x), some (.ref m), some (.ref o), some (.ref od), some (.int i), none, none, none] [] h' Q X) : mW l G m_L_law 12 (mc + 21) (ms + 2586) 3057 [some (.ref (sB G)), some (.ref x), some (.ref m), some (.ref o), some (.ref od), some (.int i), none, none, none] [] h Q X := by
  subst ha1; subst ha2; subst ha3
  refine q_aload_n dL_law_3057 rfl ?_
  refine q_aload_n dL_law_3058 rfl ?_
  obtain ⟨r, hE, hr, hx, hop⟩ := hop
  refine q_room (d' := 12) (mc' := 1 + mc) (ms' := 6 + ms) (Nat.le_refl _) (by omega) (by omega) ?_
  refine r_callSX0 dL_law_3059 KX_338 (c_L_failedCommand hE hk (fun _ _ q => by subst q; exact ⟨hr.2.2.1, hr.2.2.2.1⟩) hx) (by decide) (Nat.le_of_ble_eq_true rfl) rfl ?_
  intro v9 k9 hq
  obtain ⟨kk9, b, k2, rfl, hm, hfm, hok, hth, heq, hI⟩ := hop _ _ hq
  refine q_istore dL_law_3062 (by decide) ?_
  refine q_aload_n dL_law_3064 rfl ?_
  refine q_room (d' := 12) (mc' := 0 + mc) (ms' := 0 + ms) (Nat.le_refl _) (by omega) (by omega) ?_
  refine r_callV0 (mc := mc) (ms := ms) (mc' := 0) (ms' := 0) dL_law_3065 KL_340 (c_X12_failedCommand hfm) hm (by decide) (Nat.le_of_ble_eq_true rfl) (fun _ _ q => q.elim) ?_
  rintro _ _ ⟨rfl, rfl⟩
  refine q_istore dL_law_3068 (by decide) ?_
  refine q_aload_n dL_law_3070 rfl ?_
  refine q_room (d' := 12) (mc' := 0 + mc) (ms' := 0 + ms) (Nat.le_refl _) (by omega) (by omega) ?_
  refine r_callV0 (mc := mc) (ms := ms) (mc' := 0) (ms' := 0) dL_law_3071 KL_180 (c_X12_thrown (thrown_ok hok.2.1)) hok.2.1 (by decide) (Nat.le_of_ble_eq_true rfl) (fun _ _ q => q.elim) ?_
  rintro _ _ ⟨rfl, rfl⟩
  refine q_iload dL_law_3074 rfl ?_
  refine q_icmp_eq (tgt := 3081) dL_law_3076 (by decide) (fun z => ?_) (fun z => absurd hth z)
  refine q_iload dL_law_3081 rfl ?_
  have kE : mW l G m_L_law 12 mc ms 3215 [some (.ref (sB G)), some (.ref x), some (.ref m), some (.ref o), some (.ref od), some (.int i), some (.int kk9), some (.int b), none] [] k2 Q X := r_fewer [some (.ref (sB G)), some (.ref x), some (.ref m), some (.ref o), some (.ref od), some (.int i), none, none, none] (ls_s (ls_s (ls_s (ls_s (ls_s (ls_s (ls_n (ls_n (ls_n ls_0))))))))) (kk _ hok hI)
  have kL : mW l G m_L_law 12 mc ms 3098 [some (.ref (sB G)), some (.ref x), some (.ref m), some (.ref o), some (.ref od), some (.int i), some (.int kk9), some (.int b), none] [] k2 Q X := q_goto (tgt := 3215) dL_law_3098 (by decide) kE
  refine q_if_ne (tgt := 3098) dL_law_3083 (by decide) (fun z => kL) (fun z2 => ?_)
  have h0 := heq z2
  dsimp only at h0
  refine q_aload_n dL_law_3086 rfl ?_
  refine q_iconst dL_law_3087 ?_
  refine q_laload dL_law_3088 hok.2.2.1 (ix0 hok.2.2.2.1) ?_
  refine q_iload dL_law_3089 rfl ?_
  refine q_i2l dL_law_3091 ?_
  refine q_lcmp dL_law_3092 ?_
  refine q_if_eq (tgt := 3098) dL_law_3093 (by decide) (fun _ => kL) (fun z3 => absurd ((lg_cmp_eq _ _).mpr h0) z3)
set_option maxRecDepth 100000 in
theorem k_49 {l : Launch} {G : mG} {Q : Option Value → mH → Prop} {X : String → mH → Prop} {x m o od mc ms : Nat} {i : Int32} {h : mH} {I' : mH → Prop} {a1 a2 a3 : Int32} (g1 : inb (i + Int32.ofInt 1) (sL G)) (g2 : inb (i + Int32.ofInt 2) (sL G)) (g3 : inb (i + Int32.ofInt 3) (sL G)) (ha1 : sX G (i + Int32.ofInt 1).toNatClampNeg = a1) (ha2 : sX G (i + Int32.ofInt 2).toNatClampNeg = a2) (ha3 : sX G (i + Int32.ofInt 3).toNatClampNeg = a3) (hk : kd h x = 16)
    (hop : opN x m o od I' (f_X11_undoableCount x h) (fun k => f_X12_undoableCount m k))
    (kk : ∀ h', hOK x m o od h' → I' h' → mW l G m_L_law 12 mc ms 3215 [some (.ref (sB G)), some (.ref x), some (.ref m), some (.ref o), some (.ref od), some (.int i), none, none, none] [] h' Q X) : mW l G m_L_law 12 (mc + 21) (ms + 2586) 3101 [some (.ref (sB G)), some (.ref x), some (.ref m), some (.ref o), some (.ref od), some (.int i), none, none, none] [] h Q X := by
  subst ha1; subst ha2; subst ha3
  refine q_aload_n dL_law_3101 rfl ?_
  obtain ⟨b, k1, k2, hE, hm, hfm, hok, hI⟩ := hop
  refine q_room (d' := 12) (mc' := 0 + mc) (ms' := 0 + ms) (Nat.le_refl _) (by omega) (by omega) ?_
  refine r_callV0 dL_law_3102 KL_341 (c_X11_undoableCount hE) hk (by decide) (Nat.le_of_ble_eq_true rfl) (fun _ _ q => q.elim) ?_
  rintro _ _ ⟨rfl, rfl⟩
  refine q_aload_n dL_law_3105 rfl ?_
  refine q_room (d' := 12) (mc' := 0 + mc) (ms' := 0 + ms) (Nat.le_refl _) (by omega) (by omega) ?_
  refine r_callV0 (mc := mc) (ms := ms) (mc' := 0) (ms' := 0) dL_law_3106 KL_344 (c_X12_undoableCount hfm) hm (by decide) (Nat.le_of_ble_eq_true rfl) (fun _ _ q => q.elim) ?_
  rintro _ _ ⟨rfl, rfl⟩
  refine q_icmp_eq (tgt := 3215) dL_law_3109 (by decide) (fun z => ?_) (fun z => absurd rfl z)
  exact kk _ hok hI
set_option maxRecDepth 100000 in
theorem k_50 {l : Launch} {G : mG} {Q : Option Value → mH → Prop} {X : String → mH → Prop} {x m o od mc ms : Nat} {i : Int32} {h : mH} {I' : mH → Prop} {a1 a2 a3 : Int32} (g1 : inb (i + Int32.ofInt 1) (sL G)) (g2 : inb (i + Int32.ofInt 2) (sL G)) (g3 : inb (i + Int32.ofInt 3) (sL G)) (ha1 : sX G (i + Int32.ofInt 1).toNatClampNeg = a1) (ha2 : sX G (i + Int32.ofInt 2).toNatClampNeg = a2) (ha3 : sX G (i + Int32.ofInt 3).toNatClampNeg = a3) (hk : kd h x = 16)
    (hop : opT x m o od I' (f_X11_undo x h) (fun r k => sl k o 0 r.toInt64) [xS] (fun k => f_X12_undo m k) (fun b k => gl k o 0 = Int32.toInt64 b))
    (kk : ∀ h', hOK x m o od h' → I' h' → mW l G m_L_law 12 mc ms 3215 [some (.ref (sB G)), some (.ref x), some (.ref m), some (.ref o), some (.ref od), some (.int i), none, none, none] [] h' Q X) : mW l G m_L_law 12 (mc + 21) (ms + 2586) 3114 [some (.ref (sB G)), some (.ref x), some (.ref m), some (.ref o), some (.ref od), some (.int i), none, none, none] [] h Q X := by
  subst ha1; subst ha2; subst ha3
  refine q_aload_n dL_law_3114 rfl ?_
  refine q_aload_n dL_law_3115 rfl ?_
  obtain ⟨r, hE, hr, hx, hop⟩ := hop
  refine q_room (d' := 12) (mc' := 1 + mc) (ms' := 6 + ms) (Nat.le_refl _) (by omega) (by omega) ?_
  refine r_callSX0 dL_law_3116 KX_345 (c_L_undo hE hk (fun _ _ q => by subst q; exact ⟨hr.2.2.1, hr.2.2.2.1⟩) hx) (by decide) (Nat.le_of_ble_eq_true rfl) rfl ?_
  intro v9 k9 hq
  obtain ⟨kk9, b, k2, rfl, hm, hfm, hok, hth, heq, hI⟩ := hop _ _ hq
  refine q_istore dL_law_3119 (by decide) ?_
  refine q_aload_n dL_law_3121 rfl ?_
  refine q_room (d' := 12) (mc' := 0 + mc) (ms' := 0 + ms) (Nat.le_refl _) (by omega) (by omega) ?_
  refine r_callV0 (mc := mc) (ms := ms) (mc' := 0) (ms' := 0) dL_law_3122 KL_347 (c_X12_undo hfm) hm (by decide) (Nat.le_of_ble_eq_true rfl) (fun _ _ q => q.elim) ?_
  rintro _ _ ⟨rfl, rfl⟩
  refine q_istore dL_law_3125 (by decide) ?_
  refine q_aload_n dL_law_3127 rfl ?_
  refine q_room (d' := 12) (mc' := 0 + mc) (ms' := 0 + ms) (Nat.le_refl _) (by omega) (by omega) ?_
  refine r_callV0 (mc := mc) (ms := ms) (mc' := 0) (ms' := 0) dL_law_3128 KL_180 (c_X12_thrown (thrown_ok hok.2.1)) hok.2.1 (by decide) (Nat.le_of_ble_eq_true rfl) (fun _ _ q => q.elim) ?_
  rintro _ _ ⟨rfl, rfl⟩
  refine q_iload dL_law_3131 rfl ?_
  refine q_icmp_eq (tgt := 3138) dL_law_3133 (by decide) (fun z => ?_) (fun z => absurd hth z)
  refine q_iload dL_law_3138 rfl ?_
  have kE : mW l G m_L_law 12 mc ms 3215 [some (.ref (sB G)), some (.ref x), some (.ref m), some (.ref o), some (.ref od), some (.int i), some (.int kk9), some (.int b), none] [] k2 Q X := r_fewer [some (.ref (sB G)), some (.ref x), some (.ref m), some (.ref o), some (.ref od), some (.int i), none, none, none] (ls_s (ls_s (ls_s (ls_s (ls_s (ls_s (ls_n (ls_n (ls_n ls_0))))))))) (kk _ hok hI)
  have kL : mW l G m_L_law 12 mc ms 3155 [some (.ref (sB G)), some (.ref x), some (.ref m), some (.ref o), some (.ref od), some (.int i), some (.int kk9), some (.int b), none] [] k2 Q X := q_goto (tgt := 3215) dL_law_3155 (by decide) kE
  refine q_if_ne (tgt := 3155) dL_law_3140 (by decide) (fun z => kL) (fun z2 => ?_)
  have h0 := heq z2
  dsimp only at h0
  refine q_aload_n dL_law_3143 rfl ?_
  refine q_iconst dL_law_3144 ?_
  refine q_laload dL_law_3145 hok.2.2.1 (ix0 hok.2.2.2.1) ?_
  refine q_iload dL_law_3146 rfl ?_
  refine q_i2l dL_law_3148 ?_
  refine q_lcmp dL_law_3149 ?_
  refine q_if_eq (tgt := 3155) dL_law_3150 (by decide) (fun _ => kL) (fun z3 => absurd ((lg_cmp_eq _ _).mpr h0) z3)
set_option maxRecDepth 100000 in
theorem k_51 {l : Launch} {G : mG} {Q : Option Value → mH → Prop} {X : String → mH → Prop} {x m o od mc ms : Nat} {i : Int32} {h : mH} {I' : mH → Prop} {a1 a2 a3 : Int32} (g1 : inb (i + Int32.ofInt 1) (sL G)) (g2 : inb (i + Int32.ofInt 2) (sL G)) (g3 : inb (i + Int32.ofInt 3) (sL G)) (ha1 : sX G (i + Int32.ofInt 1).toNatClampNeg = a1) (ha2 : sX G (i + Int32.ofInt 2).toNatClampNeg = a2) (ha3 : sX G (i + Int32.ofInt 3).toNatClampNeg = a3) (hk : kd h x = 16)
    (hop : opN x m o od I' (f_X11_save x h) (fun k => f_X12_save m k))
    (kk : ∀ h', hOK x m o od h' → I' h' → mW l G m_L_law 12 mc ms 3215 [some (.ref (sB G)), some (.ref x), some (.ref m), some (.ref o), some (.ref od), some (.int i), none, none, none] [] h' Q X) : mW l G m_L_law 12 (mc + 21) (ms + 2586) 3158 [some (.ref (sB G)), some (.ref x), some (.ref m), some (.ref o), some (.ref od), some (.int i), none, none, none] [] h Q X := by
  subst ha1; subst ha2; subst ha3
  refine q_aload_n dL_law_3158 rfl ?_
  obtain ⟨b, k1, k2, hE, hm, hfm, hok, hI⟩ := hop
  refine q_room (d' := 12) (mc' := 0 + mc) (ms' := 0 + ms) (Nat.le_refl _) (by omega) (by omega) ?_
  refine r_callV0 dL_law_3159 KL_348 (c_X11_save hE) hk (by decide) (Nat.le_of_ble_eq_true rfl) (fun _ _ q => q.elim) ?_
  rintro _ _ ⟨rfl, rfl⟩
  refine q_aload_n dL_law_3162 rfl ?_
  refine q_room (d' := 12) (mc' := 0 + mc) (ms' := 0 + ms) (Nat.le_refl _) (by omega) (by omega) ?_
  refine r_callV0 (mc := mc) (ms := ms) (mc' := 0) (ms' := 0) dL_law_3163 KL_351 (c_X12_save hfm) hm (by decide) (Nat.le_of_ble_eq_true rfl) (fun _ _ q => q.elim) ?_
  rintro _ _ ⟨rfl, rfl⟩
  refine q_icmp_eq (tgt := 3215) dL_law_3166 (by decide) (fun z => ?_) (fun z => absurd rfl z)
  exact kk _ hok hI
set_option maxRecDepth 100000 in
theorem k_52 {l : Launch} {G : mG} {Q : Option Value → mH → Prop} {X : String → mH → Prop} {x m o od mc ms : Nat} {i : Int32} {h : mH} {I' : mH → Prop} {a1 a2 a3 : Int32} (g1 : inb (i + Int32.ofInt 1) (sL G)) (g2 : inb (i + Int32.ofInt 2) (sL G)) (g3 : inb (i + Int32.ofInt 3) (sL G)) (ha1 : sX G (i + Int32.ofInt 1).toNatClampNeg = a1) (ha2 : sX G (i + Int32.ofInt 2).toNatClampNeg = a2) (ha3 : sX G (i + Int32.ofInt 3).toNatClampNeg = a3) (hk : kd h x = 16)
    (hop : opT x m o od I' (f_X11_restore x h) (fun r k => sl k o 0 r.toInt64) [xS] (fun k => f_X12_restore m k) (fun b k => gl k o 0 = Int32.toInt64 b))
    (kk : ∀ h', hOK x m o od h' → I' h' → mW l G m_L_law 12 mc ms 3215 [some (.ref (sB G)), some (.ref x), some (.ref m), some (.ref o), some (.ref od), some (.int i), none, none, none] [] h' Q X) : mW l G m_L_law 12 (mc + 21) (ms + 2586) 3171 [some (.ref (sB G)), some (.ref x), some (.ref m), some (.ref o), some (.ref od), some (.int i), none, none, none] [] h Q X := by
  subst ha1; subst ha2; subst ha3
  refine q_aload_n dL_law_3171 rfl ?_
  refine q_aload_n dL_law_3172 rfl ?_
  obtain ⟨r, hE, hr, hx, hop⟩ := hop
  refine q_room (d' := 12) (mc' := 1 + mc) (ms' := 6 + ms) (Nat.le_refl _) (by omega) (by omega) ?_
  refine r_callSX0 dL_law_3173 KX_352 (c_L_restore hE hk (fun _ _ q => by subst q; exact ⟨hr.2.2.1, hr.2.2.2.1⟩) hx) (by decide) (Nat.le_of_ble_eq_true rfl) rfl ?_
  intro v9 k9 hq
  obtain ⟨kk9, b, k2, rfl, hm, hfm, hok, hth, heq, hI⟩ := hop _ _ hq
  refine q_istore dL_law_3176 (by decide) ?_
  refine q_aload_n dL_law_3178 rfl ?_
  refine q_room (d' := 12) (mc' := 0 + mc) (ms' := 0 + ms) (Nat.le_refl _) (by omega) (by omega) ?_
  refine r_callV0 (mc := mc) (ms := ms) (mc' := 0) (ms' := 0) dL_law_3179 KL_354 (c_X12_restore hfm) hm (by decide) (Nat.le_of_ble_eq_true rfl) (fun _ _ q => q.elim) ?_
  rintro _ _ ⟨rfl, rfl⟩
  refine q_istore dL_law_3182 (by decide) ?_
  refine q_aload_n dL_law_3184 rfl ?_
  refine q_room (d' := 12) (mc' := 0 + mc) (ms' := 0 + ms) (Nat.le_refl _) (by omega) (by omega) ?_
  refine r_callV0 (mc := mc) (ms := ms) (mc' := 0) (ms' := 0) dL_law_3185 KL_180 (c_X12_thrown (thrown_ok hok.2.1)) hok.2.1 (by decide) (Nat.le_of_ble_eq_true rfl) (fun _ _ q => q.elim) ?_
  rintro _ _ ⟨rfl, rfl⟩
  refine q_iload dL_law_3188 rfl ?_
  refine q_icmp_eq (tgt := 3195) dL_law_3190 (by decide) (fun z => ?_) (fun z => absurd hth z)
  refine q_iload dL_law_3195 rfl ?_
  have kE : mW l G m_L_law 12 mc ms 3215 [some (.ref (sB G)), some (.ref x), some (.ref m), some (.ref o), some (.ref od), some (.int i), some (.int kk9), some (.int b), none] [] k2 Q X := r_fewer [some (.ref (sB G)), some (.ref x), some (.ref m), some (.ref o), some (.ref od), some (.int i), none, none, none] (ls_s (ls_s (ls_s (ls_s (ls_s (ls_s (ls_n (ls_n (ls_n ls_0))))))))) (kk _ hok hI)
  have kL : mW l G m_L_law 12 mc ms 3212 [some (.ref (sB G)), some (.ref x), some (.ref m), some (.ref o), some (.ref od), some (.int i), some (.int kk9), some (.int b), none] [] k2 Q X := q_goto (tgt := 3215) dL_law_3212 (by decide) kE
  refine q_if_ne (tgt := 3212) dL_law_3197 (by decide) (fun z => kL) (fun z2 => ?_)
  have h0 := heq z2
  dsimp only at h0
  refine q_aload_n dL_law_3200 rfl ?_
  refine q_iconst dL_law_3201 ?_
  refine q_laload dL_law_3202 hok.2.2.1 (ix0 hok.2.2.2.1) ?_
  refine q_iload dL_law_3203 rfl ?_
  refine q_i2l dL_law_3205 ?_
  refine q_lcmp dL_law_3206 ?_
  refine q_if_eq (tgt := 3212) dL_law_3207 (by decide) (fun _ => kL) (fun z3 => absurd ((lg_cmp_eq _ _).mpr h0) z3)
