set_option maxRecDepth 100000 in
set_option maxHeartbeats 4000000 in
theorem s_X9_readWholePattern_27 {l : Launch} {G : mG} {Q : Option Value → mH → Prop} {X : String → mH → Prop} (s0 : Int32) (h : mH) {o : Int32 × mH} (E : g_X9_readWholePattern_27 s0 h = some o) (hK : (fiI Q) o) : mW l G m_X9_readWholePattern 4 0 0 27 [none] [.int s0] h Q X := by
  unfold g_X9_readWholePattern_27 at E
  replace E := grd_some E
  obtain ⟨g1, E⟩ := E
  cases E
  exact q_zreturn dX9_readWholePattern_27 rfl (narZ g1) hK
set_option maxRecDepth 100000 in
set_option maxHeartbeats 4000000 in
theorem s_X9_readWholePattern_26 {l : Launch} {G : mG} {Q : Option Value → mH → Prop} {X : String → mH → Prop} (h : mH) {o : Int32 × mH} (E : g_X9_readWholePattern_26  h = some o) (hK : (fiI Q) o) : mW l G m_X9_readWholePattern 4 0 0 26 [none] [] h Q X := by
  unfold g_X9_readWholePattern_26 at E
  refine q_iconst dX9_readWholePattern_26 ?_
  exact r_fewer [none] (ls_n ls_0) (s_X9_readWholePattern_27 (Int32.ofInt 0) h E hK)
set_option maxRecDepth 100000 in
set_option maxHeartbeats 4000000 in
theorem s_X9_readWholePattern_0 {l : Launch} {G : mG} {Q : Option Value → mH → Prop} {X : String → mH → Prop} (p0 : Nat) (h : mH) {o : Int32 × mH} (E : f_X9_readWholePattern p0 h = some o) (hK : (fiI Q) o) : mW l G m_X9_readWholePattern 4 0 0 0 [some (.ref p0)] [] h Q X := by
  unfold f_X9_readWholePattern at E
  refine q_aload_n dX9_readWholePattern_0 rfl ?_
  replace E := grd_some E
  obtain ⟨g3, E⟩ := E
  replace E := cal_some E
  obtain ⟨_, h1, hc, E⟩ := E
  refine r_callV0 (mc := 0) (ms := 0) dX9_readWholePattern_1 KX9_48 (c_X9_rewind hc) g3 (by decide) (Nat.le_of_ble_eq_true rfl) (fun _ _ q => q.elim) ?_
  rintro _ _ ⟨rfl, rfl⟩
  clear hc
  refine q_aload_n dX9_readWholePattern_4 rfl ?_
  replace E := grd_some E
  obtain ⟨g6, E⟩ := E
  replace E := cal_some E
  obtain ⟨x5, h4, hc, E⟩ := E
  refine r_callV0 (mc := 0) (ms := 0) dX9_readWholePattern_5 KX9_51 (c_X9_readPattern hc) g6 (by decide) (Nat.le_of_ble_eq_true rfl) (fun _ _ q => q.elim) ?_
  rintro _ _ ⟨rfl, rfl⟩
  clear hc
  refine q_if_eq (tgt := 26) dX9_readWholePattern_8 (by decide) (fun z7 => ?_) (fun z7 => ?_)
  · replace E := ite_t E z7
    exact r_fewer [none] (ls_n ls_0) (s_X9_readWholePattern_26 h4 E hK)
  · replace E := ite_f E z7
    refine q_aload_n dX9_readWholePattern_11 rfl ?_
    replace E := grd_some E
    obtain ⟨g8, E⟩ := E
    refine r_getI dX9_readWholePattern_12 FX9_23 g8 ?_
    refine q_aload_n dX9_readWholePattern_15 rfl ?_
    refine r_getI dX9_readWholePattern_16 FX9_19 g8 ?_
    refine q_icmp_ne (tgt := 26) dX9_readWholePattern_19 (by decide) (fun z9 => ?_) (fun z9 => ?_)
    · replace E := ite_f E z9
      exact r_fewer [none] (ls_n ls_0) (s_X9_readWholePattern_26 h4 E hK)
    · replace E := ite_t E z9
      refine q_iconst dX9_readWholePattern_22 ?_
      refine q_goto (tgt := 27) dX9_readWholePattern_23 (by decide) ?_
      exact r_fewer [none] (ls_n ls_0) (s_X9_readWholePattern_27 (Int32.ofInt 1) h4 E hK)
theorem c_X9_readWholePattern {l : Launch} {G : mG} {p0 : Nat} {h h' : mH} {r : Int32} (E : f_X9_readWholePattern p0 h = some (r, h')) : mMet l G m_X9_readWholePattern 4 0 0 [.ref p0] h (fun v k => v = some (.int r) ∧ h' = k) (fun _ _ => False) :=
  mMet_of (by decide +kernel) rfl (ac_c rfl ac_0) (Nat.le_of_ble_eq_true rfl) (s_X9_readWholePattern_0 p0 h E (And.intro rfl rfl))
set_option maxRecDepth 100000 in
set_option maxHeartbeats 4000000 in
theorem s_X9_spelling_0 {l : Launch} {G : mG} {Q : Option Value → mH → Prop} {X : String → mH → Prop} (v0 : Int32) (h : mH) {o : Nat × mH} (E : f_X9_spelling v0 h = some o) (hK : (fiS G Q) o) : mW l G m_X9_spelling 0 0 0 0 [some (.int v0)] [] h Q X := by
  unfold f_X9_spelling at E
  refine q_iload_n dX9_spelling_0 rfl ?_
  by_cases z1 : v0 = (Int32.ofInt 0)
  · replace E := ite_t E z1
    refine r_tableIn (tgt := 40) (Int32.ofInt 0) dX9_spelling_1 z1 (by decide) (by decide) (by rfl) (by decide) ?_
    refine q_ldcS (j := 0) dX9_spelling_40 rfl rfl ?_
    cases E
    exact q_areturn (v := some (sA G 0)) dX9_spelling_42 rfl (Or.inl ⟨_, rfl⟩) hK
  replace E := ite_f E z1
  by_cases z2 : v0 = (Int32.ofInt 1)
  · replace E := ite_t E z2
    refine r_tableIn (tgt := 43) (Int32.ofInt 1) dX9_spelling_1 z2 (by decide) (by decide) (by rfl) (by decide) ?_
    refine q_ldcS (j := 1) dX9_spelling_43 rfl rfl ?_
    cases E
    exact q_areturn (v := some (sA G 1)) dX9_spelling_45 rfl (Or.inl ⟨_, rfl⟩) hK
  replace E := ite_f E z2
  by_cases z3 : v0 = (Int32.ofInt 2)
  · replace E := ite_t E z3
    refine r_tableIn (tgt := 46) (Int32.ofInt 2) dX9_spelling_1 z3 (by decide) (by decide) (by rfl) (by decide) ?_
    refine q_ldcS (j := 2) dX9_spelling_46 rfl rfl ?_
    cases E
    exact q_areturn (v := some (sA G 2)) dX9_spelling_48 rfl (Or.inl ⟨_, rfl⟩) hK
  replace E := ite_f E z3
  by_cases z4 : v0 = (Int32.ofInt 3)
  · replace E := ite_t E z4
    refine r_tableIn (tgt := 49) (Int32.ofInt 3) dX9_spelling_1 z4 (by decide) (by decide) (by rfl) (by decide) ?_
    refine q_ldcS (j := 3) dX9_spelling_49 rfl rfl ?_
    cases E
    exact q_areturn (v := some (sA G 3)) dX9_spelling_51 rfl (Or.inl ⟨_, rfl⟩) hK
  replace E := ite_f E z4
  by_cases z5 : v0 = (Int32.ofInt 4)
  · replace E := ite_t E z5
    refine r_tableIn (tgt := 52) (Int32.ofInt 4) dX9_spelling_1 z5 (by decide) (by decide) (by rfl) (by decide) ?_
    refine q_ldcS (j := 4) dX9_spelling_52 rfl rfl ?_
    cases E
    exact q_areturn (v := some (sA G 4)) dX9_spelling_54 rfl (Or.inl ⟨_, rfl⟩) hK
  replace E := ite_f E z5
  by_cases z6 : v0 = (Int32.ofInt 5)
  · replace E := ite_t E z6
    refine r_tableIn (tgt := 55) (Int32.ofInt 5) dX9_spelling_1 z6 (by decide) (by decide) (by rfl) (by decide) ?_
    refine q_ldcS (j := 5) dX9_spelling_55 rfl rfl ?_
    cases E
    exact q_areturn (v := some (sA G 5)) dX9_spelling_57 rfl (Or.inl ⟨_, rfl⟩) hK
  replace E := ite_f E z6
  have nz1 : ¬ (v0).toInt = 0 := lv_neT z1 (by decide)
  have nz2 : ¬ (v0).toInt = 1 := lv_neT z2 (by decide)
  have nz3 : ¬ (v0).toInt = 2 := lv_neT z3 (by decide)
  have nz4 : ¬ (v0).toInt = 3 := lv_neT z4 (by decide)
  have nz5 : ¬ (v0).toInt = 4 := lv_neT z5 (by decide)
  have nz6 : ¬ (v0).toInt = 5 := lv_neT z6 (by decide)
  refine r_tableOut (tgt := 58) dX9_spelling_1 (by omega) (by decide) ?_
  refine q_ldcS (j := 6) dX9_spelling_58 rfl rfl ?_
  cases E
  exact q_areturn (v := some (sA G 6)) dX9_spelling_60 rfl (Or.inl ⟨_, rfl⟩) hK
theorem c_X9_spelling {l : Launch} {G : mG} {v0 : Int32} {h h' : mH} {r : Nat} (E : f_X9_spelling v0 h = some (r, h')) : mMet l G m_X9_spelling 0 0 0 [.int v0] h (fun v k => v = some (.ref (sA G r)) ∧ h' = k) (fun _ _ => False) :=
  mMet_of (by decide +kernel) rfl (ac_c rfl ac_0) (Nat.le_of_ble_eq_true rfl) (s_X9_spelling_0 v0 h E (And.intro rfl rfl))
set_option maxRecDepth 100000 in
set_option maxHeartbeats 4000000 in
theorem s_X9_sharedLength_34 {l : Launch} {G : mG} {Q : Option Value → mH → Prop} {X : String → mH → Prop} (v2 : Int32) (h : mH) {o : Int32 × mH} (E : g_X9_sharedLength_34 v2 h = some o) (hK : (fiI Q) o) : mW l G m_X9_sharedLength 4 0 0 34 [none, none, some (.int v2)] [] h Q X := by
  unfold g_X9_sharedLength_34 at E
  refine q_iload_n dX9_sharedLength_34 rfl ?_
  cases E
  exact q_ireturn dX9_sharedLength_35 rfl hK
set_option maxRecDepth 100000 in
set_option maxHeartbeats 4000000 in
theorem sb_X9_sharedLength_2 {l : Launch} {G : mG} {Q : Option Value → mH → Prop} {X : String → mH → Prop} (p0 : Nat) (j1 : Nat) (v2 : Int32) (h : mH) {o : ((Int32 × mH) ⊕ (Int32 × mH))} (E : b0_X9_sharedLength_2 p0 j1 v2 h = some o) (hK : (lpK (w_X9_sharedLength_2 l G Q X p0 j1) (fiI Q)) o) : mW l G m_X9_sharedLength 4 0 0 2 [some (.ref p0), some (.ref (sA G j1)), some (.int v2)] [] h Q X := by
  unfold b0_X9_sharedLength_2 at E
  refine q_iload_n dX9_sharedLength_2 rfl ?_
  refine q_aload_n dX9_sharedLength_3 rfl ?_
  replace E := grd_some E
  obtain ⟨g3, E⟩ := E
  replace E := cal_some E
  obtain ⟨x2, h1, hc, E⟩ := E
  refine r_callVs0 (mc := 0) (ms := 0) dX9_sharedLength_4 KX9_80 (c_J0_length_8abf5 hc) g3 (by decide) (Nat.le_of_ble_eq_true rfl) (fun _ _ q => q.elim) ?_
  rintro _ _ ⟨rfl, rfl⟩
  clear hc
  refine q_icmp_ge (tgt := 34) dX9_sharedLength_7 (by decide) (fun z4 => ?_) (fun z4 => ?_)
  · replace E := ite_t E z4
    obtain ⟨o0, E0, rfl⟩ := inrO_some E
    exact r_fewer [none, none, some (.int v2)] (ls_n (ls_n (ls_s ls_0))) (s_X9_sharedLength_34 v2 h1 E0 hK)
  · replace E := ite_f E z4
    refine q_aload_n dX9_sharedLength_10 rfl ?_
    refine q_aload_n dX9_sharedLength_11 rfl ?_
    replace E := grd_some E
    obtain ⟨g5, E⟩ := E
    refine r_getI dX9_sharedLength_12 FX9_23 g5 ?_
    refine q_iload_n dX9_sharedLength_15 rfl ?_
    refine q_iadd dX9_sharedLength_16 ?_
    replace E := cal_some E
    obtain ⟨x7, h6, hc, E⟩ := E
    refine r_callV1 (mc := 0) (ms := 0) dX9_sharedLength_17 KX9_35 (c_X9_character hc) g5 (by decide) (Nat.le_of_ble_eq_true rfl) (fun _ _ q => q.elim) ?_
    rintro _ _ ⟨rfl, rfl⟩
    clear hc
    refine q_aload_n dX9_sharedLength_20 rfl ?_
    refine q_iload_n dX9_sharedLength_21 rfl ?_
    replace E := cal_some E
    obtain ⟨x9, h8, hc, E⟩ := E
    refine r_callVs1 (mc := 0) (ms := 0) dX9_sharedLength_22 KX9_91 (c_J0_charAt_5068e hc) g3 (by decide) (Nat.le_of_ble_eq_true rfl) (fun _ _ q => q.elim) ?_
    rintro _ _ ⟨rfl, rfl⟩
    clear hc
    refine q_icmp_ne (tgt := 34) dX9_sharedLength_25 (by decide) (fun z10 => ?_) (fun z10 => ?_)
    · replace E := ite_f E z10
      obtain ⟨o0, E0, rfl⟩ := inrO_some E
      exact r_fewer [none, none, some (.int v2)] (ls_n (ls_n (ls_s ls_0))) (s_X9_sharedLength_34 v2 h8 E0 hK)
    · replace E := ite_t E z10
      replace E := bnd_x E
      obtain ⟨x11, ex11, E⟩ := E
      refine r_iinc (v := x11) dX9_sharedLength_28 rfl ex11 (by decide) (ls' := [some (.ref p0), some (.ref (sA G j1)), some (.int x11)]) rfl ?_
      refine q_goto (tgt := 2) dX9_sharedLength_31 (by decide) ?_
      cases E
      exact r_fewer [some (.ref p0), some (.ref (sA G j1)), some (.int x11)] (ls_s (ls_s (ls_s ls_0))) hK
theorem s_X9_sharedLength_2 {l : Launch} {G : mG} {Q : Option Value → mH → Prop} {X : String → mH → Prop} (p0 : Nat) (j1 : Nat) (v2 : Int32) (h : mH) {o : Int32 × mH} (E : g_X9_sharedLength_2 p0 j1 v2 h = some o) (hK : (fiI Q) o) : mW l G m_X9_sharedLength 4 0 0 2 [some (.ref p0), some (.ref (sA G j1)), some (.int v2)] [] h Q X :=
  (lp_go (w_X9_sharedLength_2 l G Q X p0 j1) (fiI Q) (b_X9_sharedLength_2 p0 j1) (fun s o E hK => sb_X9_sharedLength_2 p0 j1 s.1 (s.2) E hK) _ _ _ E hK : w_X9_sharedLength_2 l G Q X p0 j1 (v2, h))
set_option maxRecDepth 100000 in
set_option maxHeartbeats 4000000 in
theorem s_X9_sharedLength_0 {l : Launch} {G : mG} {Q : Option Value → mH → Prop} {X : String → mH → Prop} (p0 : Nat) (j1 : Nat) (h : mH) {o : Int32 × mH} (E : f_X9_sharedLength p0 j1 h = some o) (hK : (fiI Q) o) : mW l G m_X9_sharedLength 4 0 0 0 [some (.ref p0), some (.ref (sA G j1)), none] [] h Q X := by
  unfold f_X9_sharedLength at E
  refine q_iconst dX9_sharedLength_0 ?_
  refine r_istore_n dX9_sharedLength_1 (by decide) rfl (ls' := [some (.ref p0), some (.ref (sA G j1)), some (.int (Int32.ofInt 0))]) rfl ?_
  exact r_fewer [some (.ref p0), some (.ref (sA G j1)), some (.int (Int32.ofInt 0))] (ls_s (ls_s (ls_s ls_0))) (s_X9_sharedLength_2 p0 j1 (Int32.ofInt 0) h E hK)
theorem c_X9_sharedLength {l : Launch} {G : mG} {p0 : Nat} {j1 : Nat} {h h' : mH} {r : Int32} (E : f_X9_sharedLength p0 j1 h = some (r, h')) : mMet l G m_X9_sharedLength 4 0 0 [.ref p0, .ref (sA G j1)] h (fun v k => v = some (.int r) ∧ h' = k) (fun _ _ => False) :=
  mMet_of (by decide +kernel) rfl (ac_c rfl (ac_c rfl ac_0)) (Nat.le_of_ble_eq_true rfl) (s_X9_sharedLength_0 p0 j1 h E (And.intro rfl rfl))
set_option maxRecDepth 100000 in
set_option maxHeartbeats 4000000 in
theorem sb_X9_readKeyword_4 {l : Launch} {G : mG} {Q : Option Value → mH → Prop} {X : String → mH → Prop} (p0 : Nat) (v1 : Int32) (v2 : Int32) (h : mH) {o : ((Int32 × Int32 × mH) ⊕ (Int32 × mH))} (E : b0_X9_readKeyword_4 p0 v1 v2 h = some o) (hK : (lpK (w_X9_readKeyword_4 l G Q X p0) (fiI Q)) o) : mW l G m_X9_readKeyword 5 0 0 4 [some (.ref p0), some (.int v1), some (.int v2), none, none] [] h Q X := by
  unfold b0_X9_readKeyword_4 at E
  refine q_iload_n dX9_readKeyword_4 rfl ?_
  refine q_bipush (v := (Int32.ofInt 7)) dX9_readKeyword_5 (by decide) ?_
  refine q_icmp_ge (tgt := 57) dX9_readKeyword_7 (by decide) (fun z1 => ?_) (fun z1 => ?_)
  · replace E := ite_t E z1
    refine q_aload_n dX9_readKeyword_57 rfl ?_
    refine q_dup dX9_readKeyword_58 ?_
    replace E := grd_some E
    obtain ⟨g2, E⟩ := E
    refine r_getI dX9_readKeyword_59 FX9_23 g2 ?_
    refine q_iload_n dX9_readKeyword_62 rfl ?_
    refine q_iadd dX9_readKeyword_63 ?_
    replace E := bnd_x E
    obtain ⟨h3, eh3, E⟩ := E
    refine r_putI (hh := eh3) dX9_readKeyword_64 FX9_23 g2 rfl rfl ?_
    refine q_iconst dX9_readKeyword_67 ?_
    cases E
    exact q_ireturn dX9_readKeyword_68 rfl hK
  · replace E := ite_f E z1
    refine q_iload_n dX9_readKeyword_10 rfl ?_
    replace E := cal_some E
    obtain ⟨y5, h4, hc, E⟩ := E
    refine r_callS1 (mc := 0) (ms := 0) dX9_readKeyword_11 KX9_72 (c_X9_spelling hc) (by decide) (Nat.le_of_ble_eq_true rfl) (fun _ _ q => q.elim) ?_
    rintro _ _ ⟨rfl, rfl⟩
    clear hc
    refine r_astore_n dX9_readKeyword_14 (by decide) (ls' := [some (.ref p0), some (.int v1), some (.int v2), some (.ref (sA G y5)), none]) rfl ?_
    refine q_aload_n dX9_readKeyword_15 rfl ?_
    refine q_aload_n dX9_readKeyword_16 rfl ?_
    replace E := grd_some E
    obtain ⟨g8, E⟩ := E
    replace E := cal_some E
    obtain ⟨x7, h6, hc, E⟩ := E
    refine r_callV1 (mc := 0) (ms := 0) dX9_readKeyword_17 KX9_76 (c_X9_sharedLength hc) g8 (by decide) (Nat.le_of_ble_eq_true rfl) (fun _ _ q => q.elim) ?_
    rintro _ _ ⟨rfl, rfl⟩
    clear hc
    refine r_istore dX9_readKeyword_20 (by decide) rfl (ls' := [some (.ref p0), some (.int v1), some (.int v2), some (.ref (sA G y5)), some (.int x7)]) rfl ?_
    refine q_iload dX9_readKeyword_22 rfl ?_
    refine q_aload_n dX9_readKeyword_24 rfl ?_
    replace E := grd_some E
    obtain ⟨g11, E⟩ := E
    replace E := cal_some E
    obtain ⟨x10, h9, hc, E⟩ := E
    refine r_callVs0 (mc := 0) (ms := 0) dX9_readKeyword_25 KX9_80 (c_J0_length_8abf5 hc) g11 (by decide) (Nat.le_of_ble_eq_true rfl) (fun _ _ q => q.elim) ?_
    rintro _ _ ⟨rfl, rfl⟩
    clear hc
    refine q_icmp_ne (tgt := 44) dX9_readKeyword_28 (by decide) (fun z12 => ?_) (fun z12 => ?_)
    · replace E := ite_f E z12
      refine q_iload_n dX9_readKeyword_44 rfl ?_
      refine q_iload dX9_readKeyword_45 rfl ?_
      refine q_mmax dX9_readKeyword_47 XX9_85 (Nat.le_of_ble_eq_true rfl) ?_
      replace E := bnd_x E
      obtain ⟨x13, ex13, E⟩ := E
      refine r_istore_n dX9_readKeyword_50 (by decide) ex13 (ls' := [some (.ref p0), some (.int x13), some (.int v2), some (.ref (sA G y5)), some (.int x7)]) rfl ?_
      replace E := bnd_x E
      obtain ⟨x14, ex14, E⟩ := E
      refine r_iinc (v := x14) dX9_readKeyword_51 rfl ex14 (by decide) (ls' := [some (.ref p0), some (.int x13), some (.int x14), some (.ref (sA G y5)), some (.int x7)]) rfl ?_
      refine q_goto (tgt := 4) dX9_readKeyword_54 (by decide) ?_
      cases E
      exact r_fewer [some (.ref p0), some (.int x13), some (.int x14), none, none] (ls_s (ls_s (ls_s (ls_n (ls_n ls_0))))) hK
    · replace E := ite_t E z12
      refine q_aload_n dX9_readKeyword_31 rfl ?_
      refine q_dup dX9_readKeyword_32 ?_
      replace E := grd_some E
      obtain ⟨g15, E⟩ := E
      refine r_getI dX9_readKeyword_33 FX9_23 g15 ?_
      refine q_iload dX9_readKeyword_36 rfl ?_
      refine q_iadd dX9_readKeyword_38 ?_
      replace E := bnd_x E
      obtain ⟨h16, eh16, E⟩ := E
      refine r_putI (hh := eh16) dX9_readKeyword_39 FX9_23 g15 rfl rfl ?_
      refine q_iload_n dX9_readKeyword_42 rfl ?_
      cases E
      exact q_ireturn dX9_readKeyword_43 rfl hK
theorem s_X9_readKeyword_4 {l : Launch} {G : mG} {Q : Option Value → mH → Prop} {X : String → mH → Prop} (p0 : Nat) (v1 : Int32) (v2 : Int32) (h : mH) {o : Int32 × mH} (E : g_X9_readKeyword_4 p0 v1 v2 h = some o) (hK : (fiI Q) o) : mW l G m_X9_readKeyword 5 0 0 4 [some (.ref p0), some (.int v1), some (.int v2), none, none] [] h Q X :=
  (lp_go (w_X9_readKeyword_4 l G Q X p0) (fiI Q) (b_X9_readKeyword_4 p0) (fun s o E hK => sb_X9_readKeyword_4 p0 s.1 s.2.1 (s.2.2) E hK) _ _ _ E hK : w_X9_readKeyword_4 l G Q X p0 (v1, v2, h))
set_option maxRecDepth 100000 in
set_option maxHeartbeats 4000000 in
theorem s_X9_readKeyword_0 {l : Launch} {G : mG} {Q : Option Value → mH → Prop} {X : String → mH → Prop} (p0 : Nat) (h : mH) {o : Int32 × mH} (E : f_X9_readKeyword p0 h = some o) (hK : (fiI Q) o) : mW l G m_X9_readKeyword 5 0 0 0 [some (.ref p0), none, none, none, none] [] h Q X := by
  unfold f_X9_readKeyword at E
  refine q_iconst dX9_readKeyword_0 ?_
  refine r_istore_n dX9_readKeyword_1 (by decide) rfl (ls' := [some (.ref p0), some (.int (Int32.ofInt 0)), none, none, none]) rfl ?_
  refine q_iconst dX9_readKeyword_2 ?_
  refine r_istore_n dX9_readKeyword_3 (by decide) rfl (ls' := [some (.ref p0), some (.int (Int32.ofInt 0)), some (.int (Int32.ofInt 0)), none, none]) rfl ?_
  exact r_fewer [some (.ref p0), some (.int (Int32.ofInt 0)), some (.int (Int32.ofInt 0)), none, none] (ls_s (ls_s (ls_s (ls_n (ls_n ls_0))))) (s_X9_readKeyword_4 p0 (Int32.ofInt 0) (Int32.ofInt 0) h E hK)
theorem c_X9_readKeyword {l : Launch} {G : mG} {p0 : Nat} {h h' : mH} {r : Int32} (E : f_X9_readKeyword p0 h = some (r, h')) : mMet l G m_X9_readKeyword 5 0 0 [.ref p0] h (fun v k => v = some (.int r) ∧ h' = k) (fun _ _ => False) :=
  mMet_of (by decide +kernel) rfl (ac_c rfl ac_0) (Nat.le_of_ble_eq_true rfl) (s_X9_readKeyword_0 p0 h E (And.intro rfl rfl))
set_option maxRecDepth 100000 in
set_option maxHeartbeats 4000000 in
theorem s_X9_readDigit_34 {l : Launch} {G : mG} {Q : Option Value → mH → Prop} {X : String → mH → Prop} (h : mH) {o : Int32 × mH} (E : g_X9_readDigit_34  h = some o) (hK : (fiI Q) o) : mW l G m_X9_readDigit 1 0 0 34 [none, none, none] [] h Q X := by
  unfold g_X9_readDigit_34 at E
  refine q_iconst dX9_readDigit_34 ?_
  cases E
  exact q_zreturn dX9_readDigit_35 rfl (by decide) hK
set_option maxRecDepth 100000 in
set_option maxHeartbeats 4000000 in
theorem s_X9_readDigit_0 {l : Launch} {G : mG} {Q : Option Value → mH → Prop} {X : String → mH → Prop} (p0 : Nat) (v1 : Int32) (h : mH) {o : Int32 × mH} (E : f_X9_readDigit p0 v1 h = some o) (hK : (fiI Q) o) : mW l G m_X9_readDigit 1 0 0 0 [some (.ref p0), some (.int v1), none] [] h Q X := by
  unfold f_X9_readDigit at E
  refine q_aload_n dX9_readDigit_0 rfl ?_
  refine q_aload_n dX9_readDigit_1 rfl ?_
  replace E := grd_some E
  obtain ⟨g1, E⟩ := E
  refine r_getI dX9_readDigit_2 FX9_23 g1 ?_
  replace E := cal_some E
  obtain ⟨x3, h2, hc, E⟩ := E
  refine r_callV1 (mc := 0) (ms := 0) dX9_readDigit_5 KX9_35 (c_X9_character hc) g1 (by decide) (Nat.le_of_ble_eq_true rfl) (fun _ _ q => q.elim) ?_
  rintro _ _ ⟨rfl, rfl⟩
  clear hc
  refine r_istore_n dX9_readDigit_8 (by decide) rfl (ls' := [some (.ref p0), some (.int v1), some (.int x3)]) rfl ?_
  refine q_iload_n dX9_readDigit_9 rfl ?_
  refine q_bipush (v := (Int32.ofInt 48)) dX9_readDigit_10 (by decide) ?_
  refine q_icmp_lt (tgt := 34) dX9_readDigit_12 (by decide) (fun z4 => ?_) (fun z4 => ?_)
  · replace E := ite_t E z4
    exact r_fewer [none, none, none] (ls_n (ls_n (ls_n ls_0))) (s_X9_readDigit_34 h2 E hK)
  · replace E := ite_f E z4
    refine q_iload_n dX9_readDigit_15 rfl ?_
    refine q_bipush (v := (Int32.ofInt 57)) dX9_readDigit_16 (by decide) ?_
    refine q_icmp_gt (tgt := 34) dX9_readDigit_18 (by decide) (fun z5 => ?_) (fun z5 => ?_)
    · replace E := ite_t E z5
      exact r_fewer [none, none, none] (ls_n (ls_n (ls_n ls_0))) (s_X9_readDigit_34 h2 E hK)
    · replace E := ite_f E z5
      refine q_iload_n dX9_readDigit_21 rfl ?_
      refine q_if_lt (tgt := 34) dX9_readDigit_22 (by decide) (fun z6 => ?_) (fun z6 => ?_)
      · replace E := ite_t E z6
        exact r_fewer [none, none, none] (ls_n (ls_n (ls_n ls_0))) (s_X9_readDigit_34 h2 E hK)
      · replace E := ite_f E z6
        refine q_iload_n dX9_readDigit_25 rfl ?_
        refine q_aload_n dX9_readDigit_26 rfl ?_
        replace E := grd_some E
        obtain ⟨g7, E⟩ := E
        replace E := orf_some E
        obtain ⟨a8, ea8, E⟩ := E
        refine r_getR dX9_readDigit_27 FX9_15 g7 ea8 ?_
        replace E := grd_some E
        obtain ⟨g9, E⟩ := E
        refine r_alen (t0 := 3) dX9_readDigit_30 rfl g9 ?_
        refine q_icmp_lt (tgt := 36) dX9_readDigit_31 (by decide) (fun z10 => ?_) (fun z10 => ?_)
        · replace E := ite_t E z10
          refine q_aload_n dX9_readDigit_36 rfl ?_
          refine r_getR dX9_readDigit_37 FX9_15 g7 ea8 ?_
          refine q_iload_n dX9_readDigit_40 rfl ?_
          refine q_iload_n dX9_readDigit_41 rfl ?_
          refine q_bipush (v := (Int32.ofInt 48)) dX9_readDigit_42 (by decide) ?_
          refine q_isub dX9_readDigit_44 ?_
          replace E := grd_some E
          obtain ⟨g13, E⟩ := E
          replace E := bnd_x E
          obtain ⟨h12, eh12, E⟩ := E
          refine r_iastore (hh := eh12) dX9_readDigit_45 g9 g13 ?_
          refine q_aload_n dX9_readDigit_46 rfl ?_
          refine q_dup dX9_readDigit_47 ?_
          replace E := grd_some E
          obtain ⟨g14, E⟩ := E
          refine r_getI dX9_readDigit_48 FX9_23 g14 ?_
          refine q_iconst dX9_readDigit_51 ?_
          refine q_iadd dX9_readDigit_52 ?_
          replace E := bnd_x E
          obtain ⟨h15, eh15, E⟩ := E
          refine r_putI (hh := eh15) dX9_readDigit_53 FX9_23 g14 rfl rfl ?_
          refine q_iconst dX9_readDigit_56 ?_
          cases E
          exact q_zreturn dX9_readDigit_57 rfl (by decide) hK
        · replace E := ite_f E z10
          exact r_fewer [none, none, none] (ls_n (ls_n (ls_n ls_0))) (s_X9_readDigit_34 h2 E hK)
theorem c_X9_readDigit {l : Launch} {G : mG} {p0 : Nat} {v1 : Int32} {h h' : mH} {r : Int32} (E : f_X9_readDigit p0 v1 h = some (r, h')) : mMet l G m_X9_readDigit 1 0 0 [.ref p0, .int v1] h (fun v k => v = some (.int r) ∧ h' = k) (fun _ _ => False) :=
  mMet_of (by decide +kernel) rfl (ac_c rfl (ac_c rfl ac_0)) (Nat.le_of_ble_eq_true rfl) (s_X9_readDigit_0 p0 v1 h E (And.intro rfl rfl))
set_option maxRecDepth 100000 in
set_option maxHeartbeats 4000000 in
theorem s_X9_readSign_0 {l : Launch} {G : mG} {Q : Option Value → mH → Prop} {X : String → mH → Prop} (p0 : Nat) (v1 : Int32) (h : mH) {o : Int32 × mH} (E : f_X9_readSign p0 v1 h = some o) (hK : (fiI Q) o) : mW l G m_X9_readSign 1 0 0 0 [some (.ref p0), some (.int v1)] [] h Q X := by
  unfold f_X9_readSign at E
  refine q_aload_n dX9_readSign_0 rfl ?_
  refine q_aload_n dX9_readSign_1 rfl ?_
  replace E := grd_some E
  obtain ⟨g1, E⟩ := E
  refine r_getI dX9_readSign_2 FX9_23 g1 ?_
  replace E := cal_some E
  obtain ⟨x3, h2, hc, E⟩ := E
  refine r_callV1 (mc := 0) (ms := 0) dX9_readSign_5 KX9_35 (c_X9_character hc) g1 (by decide) (Nat.le_of_ble_eq_true rfl) (fun _ _ q => q.elim) ?_
  rintro _ _ ⟨rfl, rfl⟩
  clear hc
  refine q_iload_n dX9_readSign_8 rfl ?_
  refine q_icmp_eq (tgt := 14) dX9_readSign_9 (by decide) (fun z4 => ?_) (fun z4 => ?_)
  · replace E := ite_t E z4
    refine q_aload_n dX9_readSign_14 rfl ?_
    refine q_dup dX9_readSign_15 ?_
    replace E := grd_some E
    obtain ⟨g5, E⟩ := E
    refine r_getI dX9_readSign_16 FX9_23 g5 ?_
    refine q_iconst dX9_readSign_19 ?_
    refine q_iadd dX9_readSign_20 ?_
    replace E := bnd_x E
    obtain ⟨h6, eh6, E⟩ := E
    refine r_putI (hh := eh6) dX9_readSign_21 FX9_23 g5 rfl rfl ?_
    refine q_iconst dX9_readSign_24 ?_
    cases E
    exact q_zreturn dX9_readSign_25 rfl (by decide) hK
  · replace E := ite_f E z4
    refine q_iconst dX9_readSign_12 ?_
    cases E
    exact q_zreturn dX9_readSign_13 rfl (by decide) hK
theorem c_X9_readSign {l : Launch} {G : mG} {p0 : Nat} {v1 : Int32} {h h' : mH} {r : Int32} (E : f_X9_readSign p0 v1 h = some (r, h')) : mMet l G m_X9_readSign 1 0 0 [.ref p0, .int v1] h (fun v k => v = some (.int r) ∧ h' = k) (fun _ _ => False) :=
  mMet_of (by decide +kernel) rfl (ac_c rfl (ac_c rfl ac_0)) (Nat.le_of_ble_eq_true rfl) (s_X9_readSign_0 p0 v1 h E (And.intro rfl rfl))
set_option maxRecDepth 100000 in
set_option maxHeartbeats 4000000 in
theorem s_X9_readLetters_70 {l : Launch} {G : mG} {Q : Option Value → mH → Prop} {X : String → mH → Prop} (s0 : Int32) (h : mH) {o : Int32 × mH} (E : g_X9_readLetters_70 s0 h = some o) (hK : (fiI Q) o) : mW l G m_X9_readLetters 1 0 0 70 [none] [.int s0] h Q X := by
  unfold g_X9_readLetters_70 at E
  replace E := grd_some E
  obtain ⟨g1, E⟩ := E
  cases E
  exact q_zreturn dX9_readLetters_70 rfl (narZ g1) hK
set_option maxRecDepth 100000 in
set_option maxHeartbeats 4000000 in
theorem s_X9_readLetters_46 {l : Launch} {G : mG} {Q : Option Value → mH → Prop} {X : String → mH → Prop} (p0 : Nat) (h : mH) {o : Int32 × mH} (E : g_X9_readLetters_46 p0 h = some o) (hK : (fiI Q) o) : mW l G m_X9_readLetters 1 0 0 46 [some (.ref p0)] [] h Q X := by
  unfold g_X9_readLetters_46 at E
  refine q_aload_n dX9_readLetters_46 rfl ?_
  refine q_aload_n dX9_readLetters_47 rfl ?_
  replace E := grd_some E
  obtain ⟨g1, E⟩ := E
  refine r_getI dX9_readLetters_48 FX9_23 g1 ?_
  replace E := bnd_x E
  obtain ⟨h2, eh2, E⟩ := E
  refine r_putI (hh := eh2) dX9_readLetters_51 FX9_32 g1 rfl rfl ?_
  refine q_aload_n dX9_readLetters_54 rfl ?_
  replace E := grd_some E
  obtain ⟨g3, E⟩ := E
  refine r_getI dX9_readLetters_55 FX9_32 g3 ?_
  refine q_aload_n dX9_readLetters_58 rfl ?_
  refine r_getI dX9_readLetters_59 FX9_29 g3 ?_
  refine q_icmp_le (tgt := 69) dX9_readLetters_62 (by decide) (fun z4 => ?_) (fun z4 => ?_)
  · replace E := ite_t E z4
    refine q_iconst dX9_readLetters_69 ?_
    exact r_fewer [none] (ls_n ls_0) (s_X9_readLetters_70 (Int32.ofInt 0) h2 E hK)
  · replace E := ite_f E z4
    refine q_iconst dX9_readLetters_65 ?_
    refine q_goto (tgt := 70) dX9_readLetters_66 (by decide) ?_
    exact r_fewer [none] (ls_n ls_0) (s_X9_readLetters_70 (Int32.ofInt 1) h2 E hK)
set_option maxRecDepth 100000 in
set_option maxHeartbeats 4000000 in
theorem sb_X9_readLetters_8 {l : Launch} {G : mG} {Q : Option Value → mH → Prop} {X : String → mH → Prop} (p0 : Nat) (h : mH) {o : ((mH) ⊕ (Int32 × mH))} (E : b0_X9_readLetters_8 p0 h = some o) (hK : (lpK (w_X9_readLetters_8 l G Q X p0) (fiI Q)) o) : mW l G m_X9_readLetters 1 0 0 8 [some (.ref p0)] [] h Q X := by
  unfold b0_X9_readLetters_8 at E
  refine q_aload_n dX9_readLetters_8 rfl ?_
  replace E := grd_some E
  obtain ⟨g1, E⟩ := E
  refine r_getI dX9_readLetters_9 FX9_23 g1 ?_
  refine q_aload_n dX9_readLetters_12 rfl ?_
  refine r_getI dX9_readLetters_13 FX9_19 g1 ?_
  refine q_icmp_ge (tgt := 46) dX9_readLetters_16 (by decide) (fun z2 => ?_) (fun z2 => ?_)
  · replace E := ite_t E z2
    obtain ⟨o0, E0, rfl⟩ := inrO_some E
    exact r_fewer [some (.ref p0)] (ls_s ls_0) (s_X9_readLetters_46 p0 h E0 hK)
  · replace E := ite_f E z2
    refine q_aload_n dX9_readLetters_19 rfl ?_
    refine q_aload_n dX9_readLetters_20 rfl ?_
    refine r_getI dX9_readLetters_21 FX9_23 g1 ?_
    replace E := cal_some E
    obtain ⟨x4, h3, hc, E⟩ := E
    refine r_callV1 (mc := 0) (ms := 0) dX9_readLetters_24 KX9_35 (c_X9_character hc) g1 (by decide) (Nat.le_of_ble_eq_true rfl) (fun _ _ q => q.elim) ?_
    rintro _ _ ⟨rfl, rfl⟩
    clear hc
    replace E := cal_some E
    obtain ⟨x6, h5, hc, E⟩ := E
    refine r_callSN1 (mc := 0) (ms := 0) dX9_readLetters_27 KX9_39 (c_X11_isLetter hc) (by decide) (Nat.le_of_ble_eq_true rfl) (fun _ _ q => q.elim) ?_
    rintro _ _ ⟨rfl, rfl⟩
    clear hc
    refine q_if_eq (tgt := 46) dX9_readLetters_30 (by decide) (fun z7 => ?_) (fun z7 => ?_)
    · replace E := ite_t E z7
      obtain ⟨o0, E0, rfl⟩ := inrO_some E
      exact r_fewer [some (.ref p0)] (ls_s ls_0) (s_X9_readLetters_46 p0 h5 E0 hK)
    · replace E := ite_f E z7
      refine q_aload_n dX9_readLetters_33 rfl ?_
      refine q_dup dX9_readLetters_34 ?_
      replace E := grd_some E
      obtain ⟨g8, E⟩ := E
      refine r_getI dX9_readLetters_35 FX9_23 g8 ?_
      refine q_iconst dX9_readLetters_38 ?_
      refine q_iadd dX9_readLetters_39 ?_
      replace E := bnd_x E
      obtain ⟨h9, eh9, E⟩ := E
      refine r_putI (hh := eh9) dX9_readLetters_40 FX9_23 g8 rfl rfl ?_
      refine q_goto (tgt := 8) dX9_readLetters_43 (by decide) ?_
      cases E
      exact r_fewer [some (.ref p0)] (ls_s ls_0) hK
theorem s_X9_readLetters_8 {l : Launch} {G : mG} {Q : Option Value → mH → Prop} {X : String → mH → Prop} (p0 : Nat) (h : mH) {o : Int32 × mH} (E : g_X9_readLetters_8 p0 h = some o) (hK : (fiI Q) o) : mW l G m_X9_readLetters 1 0 0 8 [some (.ref p0)] [] h Q X :=
  (lp_go (w_X9_readLetters_8 l G Q X p0) (fiI Q) (b_X9_readLetters_8 p0) (fun s o E hK => sb_X9_readLetters_8 p0 (s) E hK) _ _ _ E hK : w_X9_readLetters_8 l G Q X p0 (h))
set_option maxRecDepth 100000 in
set_option maxHeartbeats 4000000 in
theorem s_X9_readLetters_0 {l : Launch} {G : mG} {Q : Option Value → mH → Prop} {X : String → mH → Prop} (p0 : Nat) (h : mH) {o : Int32 × mH} (E : f_X9_readLetters p0 h = some o) (hK : (fiI Q) o) : mW l G m_X9_readLetters 1 0 0 0 [some (.ref p0)] [] h Q X := by
  unfold f_X9_readLetters at E
  refine q_aload_n dX9_readLetters_0 rfl ?_
  refine q_aload_n dX9_readLetters_1 rfl ?_
  replace E := grd_some E
  obtain ⟨g1, E⟩ := E
  refine r_getI dX9_readLetters_2 FX9_23 g1 ?_
  replace E := bnd_x E
  obtain ⟨h2, eh2, E⟩ := E
  refine r_putI (hh := eh2) dX9_readLetters_5 FX9_29 g1 rfl rfl ?_
  exact r_fewer [some (.ref p0)] (ls_s ls_0) (s_X9_readLetters_8 p0 h2 E hK)
theorem c_X9_readLetters {l : Launch} {G : mG} {p0 : Nat} {h h' : mH} {r : Int32} (E : f_X9_readLetters p0 h = some (r, h')) : mMet l G m_X9_readLetters 1 0 0 [.ref p0] h (fun v k => v = some (.int r) ∧ h' = k) (fun _ _ => False) :=
  mMet_of (by decide +kernel) rfl (ac_c rfl ac_0) (Nat.le_of_ble_eq_true rfl) (s_X9_readLetters_0 p0 h E (And.intro rfl rfl))
set_option maxRecDepth 100000 in
set_option maxHeartbeats 4000000 in
theorem s_X9_readCommand_85 {l : Launch} {G : mG} {Q : Option Value → mH → Prop} {X : String → mH → Prop} (s0 : Int32) (h : mH) {o : Int32 × mH} (E : g_X9_readCommand_85 s0 h = some o) (hK : (fiI Q) o) : mW l G m_X9_readCommand 6 0 0 85 [none] [.int s0] h Q X := by
  unfold g_X9_readCommand_85 at E
  replace E := grd_some E
  obtain ⟨g1, E⟩ := E
  cases E
  exact q_zreturn dX9_readCommand_85 rfl (narZ g1) hK
set_option maxRecDepth 100000 in
set_option maxHeartbeats 4000000 in
theorem s_X9_readCommand_84 {l : Launch} {G : mG} {Q : Option Value → mH → Prop} {X : String → mH → Prop} (h : mH) {o : Int32 × mH} (E : g_X9_readCommand_84  h = some o) (hK : (fiI Q) o) : mW l G m_X9_readCommand 6 0 0 84 [none] [] h Q X := by
  unfold g_X9_readCommand_84 at E
  refine q_iconst dX9_readCommand_84 ?_
  exact r_fewer [none] (ls_n ls_0) (s_X9_readCommand_85 (Int32.ofInt 0) h E hK)
set_option maxRecDepth 100000 in
set_option maxHeartbeats 4000000 in
theorem s_X9_readCommand_133 {l : Launch} {G : mG} {Q : Option Value → mH → Prop} {X : String → mH → Prop} (s0 : Int32) (h : mH) {o : Int32 × mH} (E : g_X9_readCommand_133 s0 h = some o) (hK : (fiI Q) o) : mW l G m_X9_readCommand 6 0 0 133 [none] [.int s0] h Q X := by
  unfold g_X9_readCommand_133 at E
  replace E := grd_some E
  obtain ⟨g1, E⟩ := E
  cases E
  exact q_zreturn dX9_readCommand_133 rfl (narZ g1) hK
set_option maxRecDepth 100000 in
set_option maxHeartbeats 4000000 in
theorem s_X9_readCommand_132 {l : Launch} {G : mG} {Q : Option Value → mH → Prop} {X : String → mH → Prop} (h : mH) {o : Int32 × mH} (E : g_X9_readCommand_132  h = some o) (hK : (fiI Q) o) : mW l G m_X9_readCommand 6 0 0 132 [none] [] h Q X := by
  unfold g_X9_readCommand_132 at E
  refine q_iconst dX9_readCommand_132 ?_
  exact r_fewer [none] (ls_n ls_0) (s_X9_readCommand_133 (Int32.ofInt 0) h E hK)
set_option maxRecDepth 100000 in
set_option maxHeartbeats 4000000 in
theorem s_X9_readCommand_86 {l : Launch} {G : mG} {Q : Option Value → mH → Prop} {X : String → mH → Prop} (p0 : Nat) (h : mH) {o : Int32 × mH} (E : g_X9_readCommand_86 p0 h = some o) (hK : (fiI Q) o) : mW l G m_X9_readCommand 6 0 0 86 [some (.ref p0)] [] h Q X := by
  unfold g_X9_readCommand_86 at E
  refine q_aload_n dX9_readCommand_86 rfl ?_
  refine q_iconst dX9_readCommand_87 ?_
  replace E := grd_some E
  obtain ⟨g3, E⟩ := E
  replace E := cal_some E
  obtain ⟨x2, h1, hc, E⟩ := E
  refine r_callV1 (mc := 0) (ms := 0) dX9_readCommand_88 KX9_65 (c_X9_readDigit hc) g3 (by decide) (Nat.le_of_ble_eq_true rfl) (fun _ _ q => q.elim) ?_
  rintro _ _ ⟨rfl, rfl⟩
  clear hc
  refine q_if_eq (tgt := 132) dX9_readCommand_91 (by decide) (fun z4 => ?_) (fun z4 => ?_)
  · replace E := ite_t E z4
    exact r_fewer [none] (ls_n ls_0) (s_X9_readCommand_132 h1 E hK)
  · replace E := ite_f E z4
    refine q_aload_n dX9_readCommand_94 rfl ?_
    refine q_bipush (v := (Int32.ofInt 61)) dX9_readCommand_95 (by decide) ?_
    replace E := grd_some E
    obtain ⟨g7, E⟩ := E
    replace E := cal_some E
    obtain ⟨x6, h5, hc, E⟩ := E
    refine r_callV1 (mc := 0) (ms := 0) dX9_readCommand_97 KX9_58 (c_X9_readSign hc) g7 (by decide) (Nat.le_of_ble_eq_true rfl) (fun _ _ q => q.elim) ?_
    rintro _ _ ⟨rfl, rfl⟩
    clear hc
    refine q_if_eq (tgt := 132) dX9_readCommand_100 (by decide) (fun z8 => ?_) (fun z8 => ?_)
    · replace E := ite_t E z8
      exact r_fewer [none] (ls_n ls_0) (s_X9_readCommand_132 h5 E hK)
    · replace E := ite_f E z8
      refine q_aload_n dX9_readCommand_103 rfl ?_
      refine q_iconst dX9_readCommand_104 ?_
      replace E := grd_some E
      obtain ⟨g11, E⟩ := E
      replace E := cal_some E
      obtain ⟨x10, h9, hc, E⟩ := E
      refine r_callV1 (mc := 0) (ms := 0) dX9_readCommand_105 KX9_65 (c_X9_readDigit hc) g11 (by decide) (Nat.le_of_ble_eq_true rfl) (fun _ _ q => q.elim) ?_
      rintro _ _ ⟨rfl, rfl⟩
      clear hc
      refine q_if_eq (tgt := 132) dX9_readCommand_108 (by decide) (fun z12 => ?_) (fun z12 => ?_)
      · replace E := ite_t E z12
        exact r_fewer [none] (ls_n ls_0) (s_X9_readCommand_132 h9 E hK)
      · replace E := ite_f E z12
        refine q_aload_n dX9_readCommand_111 rfl ?_
        refine q_bipush (v := (Int32.ofInt 44)) dX9_readCommand_112 (by decide) ?_
        replace E := grd_some E
        obtain ⟨g15, E⟩ := E
        replace E := cal_some E
        obtain ⟨x14, h13, hc, E⟩ := E
        refine r_callV1 (mc := 0) (ms := 0) dX9_readCommand_114 KX9_58 (c_X9_readSign hc) g15 (by decide) (Nat.le_of_ble_eq_true rfl) (fun _ _ q => q.elim) ?_
        rintro _ _ ⟨rfl, rfl⟩
        clear hc
        refine q_if_eq (tgt := 132) dX9_readCommand_117 (by decide) (fun z16 => ?_) (fun z16 => ?_)
        · replace E := ite_t E z16
          exact r_fewer [none] (ls_n ls_0) (s_X9_readCommand_132 h13 E hK)
        · replace E := ite_f E z16
          refine q_aload_n dX9_readCommand_120 rfl ?_
          refine q_iconst dX9_readCommand_121 ?_
          replace E := grd_some E
          obtain ⟨g19, E⟩ := E
          replace E := cal_some E
          obtain ⟨x18, h17, hc, E⟩ := E
          refine r_callV1 (mc := 0) (ms := 0) dX9_readCommand_122 KX9_65 (c_X9_readDigit hc) g19 (by decide) (Nat.le_of_ble_eq_true rfl) (fun _ _ q => q.elim) ?_
          rintro _ _ ⟨rfl, rfl⟩
          clear hc
          refine q_if_eq (tgt := 132) dX9_readCommand_125 (by decide) (fun z20 => ?_) (fun z20 => ?_)
          · replace E := ite_t E z20
            exact r_fewer [none] (ls_n ls_0) (s_X9_readCommand_132 h17 E hK)
          · replace E := ite_f E z20
            refine q_iconst dX9_readCommand_128 ?_
            refine q_goto (tgt := 133) dX9_readCommand_129 (by decide) ?_
            exact r_fewer [none] (ls_n ls_0) (s_X9_readCommand_133 (Int32.ofInt 1) h17 E hK)
set_option maxRecDepth 100000 in
set_option maxHeartbeats 4000000 in
theorem s_X9_readCommand_164 {l : Launch} {G : mG} {Q : Option Value → mH → Prop} {X : String → mH → Prop} (s0 : Int32) (h : mH) {o : Int32 × mH} (E : g_X9_readCommand_164 s0 h = some o) (hK : (fiI Q) o) : mW l G m_X9_readCommand 6 0 0 164 [none] [.int s0] h Q X := by
  unfold g_X9_readCommand_164 at E
  replace E := grd_some E
  obtain ⟨g1, E⟩ := E
  cases E
  exact q_zreturn dX9_readCommand_164 rfl (narZ g1) hK
set_option maxRecDepth 100000 in
set_option maxHeartbeats 4000000 in
theorem s_X9_readCommand_163 {l : Launch} {G : mG} {Q : Option Value → mH → Prop} {X : String → mH → Prop} (h : mH) {o : Int32 × mH} (E : g_X9_readCommand_163  h = some o) (hK : (fiI Q) o) : mW l G m_X9_readCommand 6 0 0 163 [none] [] h Q X := by
  unfold g_X9_readCommand_163 at E
  refine q_iconst dX9_readCommand_163 ?_
  exact r_fewer [none] (ls_n ls_0) (s_X9_readCommand_164 (Int32.ofInt 0) h E hK)
set_option maxRecDepth 100000 in
set_option maxHeartbeats 4000000 in
theorem s_X9_readCommand_170 {l : Launch} {G : mG} {Q : Option Value → mH → Prop} {X : String → mH → Prop} (p0 : Nat) (h : mH) {o : Int32 × mH} (E : g_X9_readCommand_170 p0 h = some o) (hK : (fiI Q) o) : mW l G m_X9_readCommand 6 0 0 170 [some (.ref p0)] [] h Q X := by
  unfold g_X9_readCommand_170 at E
  refine q_aload_n dX9_readCommand_170 rfl ?_
  refine q_iconst dX9_readCommand_171 ?_
  replace E := grd_some E
  obtain ⟨g3, E⟩ := E
  replace E := cal_some E
  obtain ⟨x2, h1, hc, E⟩ := E
  refine r_callV1 (mc := 0) (ms := 0) dX9_readCommand_172 KX9_65 (c_X9_readDigit hc) g3 (by decide) (Nat.le_of_ble_eq_true rfl) (fun _ _ q => q.elim) ?_
  rintro _ _ ⟨rfl, rfl⟩
  clear hc
  replace E := grd_some E
  obtain ⟨g4, E⟩ := E
  cases E
  exact q_zreturn dX9_readCommand_175 rfl (narZ g4) hK
set_option maxRecDepth 100000 in
set_option maxHeartbeats 4000000 in
theorem s_X9_readCommand_0 {l : Launch} {G : mG} {Q : Option Value → mH → Prop} {X : String → mH → Prop} (p0 : Nat) (h : mH) {o : Int32 × mH} (E : f_X9_readCommand p0 h = some o) (hK : (fiI Q) o) : mW l G m_X9_readCommand 6 0 0 0 [some (.ref p0)] [] h Q X := by
  unfold f_X9_readCommand at E
  refine q_aload_n dX9_readCommand_0 rfl ?_
  refine q_aload_n dX9_readCommand_1 rfl ?_
  replace E := grd_some E
  obtain ⟨g3, E⟩ := E
  replace E := cal_some E
  obtain ⟨x2, h1, hc, E⟩ := E
  refine r_callV0 (mc := 0) (ms := 0) dX9_readCommand_2 KX9_61 (c_X9_readKeyword hc) g3 (by decide) (Nat.le_of_ble_eq_true rfl) (fun _ _ q => q.elim) ?_
  rintro _ _ ⟨rfl, rfl⟩
  clear hc
  replace E := grd_some E
  obtain ⟨g4, E⟩ := E
  replace E := bnd_x E
  obtain ⟨h5, eh5, E⟩ := E
  refine r_putI (hh := eh5) dX9_readCommand_5 FX9_26 g4 rfl rfl ?_
  refine q_aload_n dX9_readCommand_8 rfl ?_
  replace E := grd_some E
  obtain ⟨g6, E⟩ := E
  refine r_getI dX9_readCommand_9 FX9_26 g6 ?_
  by_cases z32 : (gi h5 p0 4) = (Int32.ofInt 0)
  · replace E := ite_t E z32
    refine r_tableIn (tgt := 56) (Int32.ofInt 0) dX9_readCommand_12 z32 (by decide) (by decide) (by rfl) (by decide) ?_
    refine q_aload_n dX9_readCommand_56 rfl ?_
    refine q_iconst dX9_readCommand_57 ?_
    replace E := cal_some E
    obtain ⟨x8, h7, hc, E⟩ := E
    refine r_callV1 (mc := 0) (ms := 0) dX9_readCommand_58 KX9_65 (c_X9_readDigit hc) g6 (by decide) (Nat.le_of_ble_eq_true rfl) (fun _ _ q => q.elim) ?_
    rintro _ _ ⟨rfl, rfl⟩
    clear hc
    refine q_if_eq (tgt := 84) dX9_readCommand_61 (by decide) (fun z9 => ?_) (fun z9 => ?_)
    · replace E := ite_t E z9
      exact r_fewer [none] (ls_n ls_0) (s_X9_readCommand_84 h7 E hK)
    · replace E := ite_f E z9
      refine q_aload_n dX9_readCommand_64 rfl ?_
      refine q_bipush (v := (Int32.ofInt 61)) dX9_readCommand_65 (by decide) ?_
      replace E := grd_some E
      obtain ⟨g12, E⟩ := E
      replace E := cal_some E
      obtain ⟨x11, h10, hc, E⟩ := E
      refine r_callV1 (mc := 0) (ms := 0) dX9_readCommand_67 KX9_58 (c_X9_readSign hc) g12 (by decide) (Nat.le_of_ble_eq_true rfl) (fun _ _ q => q.elim) ?_
      rintro _ _ ⟨rfl, rfl⟩
      clear hc
      refine q_if_eq (tgt := 84) dX9_readCommand_70 (by decide) (fun z13 => ?_) (fun z13 => ?_)
      · replace E := ite_t E z13
        exact r_fewer [none] (ls_n ls_0) (s_X9_readCommand_84 h10 E hK)
      · replace E := ite_f E z13
        refine q_aload_n dX9_readCommand_73 rfl ?_
        replace E := grd_some E
        obtain ⟨g16, E⟩ := E
        replace E := cal_some E
        obtain ⟨x15, h14, hc, E⟩ := E
        refine r_callV0 (mc := 0) (ms := 0) dX9_readCommand_74 KX9_51 (c_X9_readPattern hc) g16 (by decide) (Nat.le_of_ble_eq_true rfl) (fun _ _ q => q.elim) ?_
        rintro _ _ ⟨rfl, rfl⟩
        clear hc
        refine q_if_eq (tgt := 84) dX9_readCommand_77 (by decide) (fun z17 => ?_) (fun z17 => ?_)
        · replace E := ite_t E z17
          exact r_fewer [none] (ls_n ls_0) (s_X9_readCommand_84 h14 E hK)
        · replace E := ite_f E z17
          refine q_iconst dX9_readCommand_80 ?_
          refine q_goto (tgt := 85) dX9_readCommand_81 (by decide) ?_
          exact r_fewer [none] (ls_n ls_0) (s_X9_readCommand_85 (Int32.ofInt 1) h14 E hK)
  replace E := ite_f E z32
  by_cases z33 : (gi h5 p0 4) = (Int32.ofInt 1)
  · replace E := ite_t E z33
    refine r_tableIn (tgt := 86) (Int32.ofInt 1) dX9_readCommand_12 z33 (by decide) (by decide) (by rfl) (by decide) ?_
    exact r_fewer [some (.ref p0)] (ls_s ls_0) (s_X9_readCommand_86 p0 h5 E hK)
  replace E := ite_f E z33
  by_cases z34 : (gi h5 p0 4) = (Int32.ofInt 2)
  · replace E := ite_t E z34
    refine r_tableIn (tgt := 86) (Int32.ofInt 2) dX9_readCommand_12 z34 (by decide) (by decide) (by rfl) (by decide) ?_
    exact r_fewer [some (.ref p0)] (ls_s ls_0) (s_X9_readCommand_86 p0 h5 E hK)
  replace E := ite_f E z34
  by_cases z35 : (gi h5 p0 4) = (Int32.ofInt 3)
  · replace E := ite_t E z35
    refine r_tableIn (tgt := 134) (Int32.ofInt 3) dX9_readCommand_12 z35 (by decide) (by decide) (by rfl) (by decide) ?_
    refine q_aload_n dX9_readCommand_134 rfl ?_
    refine q_iconst dX9_readCommand_135 ?_
    replace E := cal_some E
    obtain ⟨x19, h18, hc, E⟩ := E
    refine r_callV1 (mc := 0) (ms := 0) dX9_readCommand_136 KX9_65 (c_X9_readDigit hc) g6 (by decide) (Nat.le_of_ble_eq_true rfl) (fun _ _ q => q.elim) ?_
    rintro _ _ ⟨rfl, rfl⟩
    clear hc
    refine q_if_eq (tgt := 163) dX9_readCommand_139 (by decide) (fun z20 => ?_) (fun z20 => ?_)
    · replace E := ite_t E z20
      exact r_fewer [none] (ls_n ls_0) (s_X9_readCommand_163 h18 E hK)
    · replace E := ite_f E z20
      refine q_aload_n dX9_readCommand_142 rfl ?_
      refine q_bipush (v := (Int32.ofInt 61)) dX9_readCommand_143 (by decide) ?_
      replace E := grd_some E
      obtain ⟨g23, E⟩ := E
      replace E := cal_some E
      obtain ⟨x22, h21, hc, E⟩ := E
      refine r_callV1 (mc := 0) (ms := 0) dX9_readCommand_145 KX9_58 (c_X9_readSign hc) g23 (by decide) (Nat.le_of_ble_eq_true rfl) (fun _ _ q => q.elim) ?_
      rintro _ _ ⟨rfl, rfl⟩
      clear hc
      refine q_if_eq (tgt := 163) dX9_readCommand_148 (by decide) (fun z24 => ?_) (fun z24 => ?_)
      · replace E := ite_t E z24
        exact r_fewer [none] (ls_n ls_0) (s_X9_readCommand_163 h21 E hK)
      · replace E := ite_f E z24
        refine q_aload_n dX9_readCommand_151 rfl ?_
        refine q_iconst dX9_readCommand_152 ?_
        replace E := grd_some E
        obtain ⟨g27, E⟩ := E
        replace E := cal_some E
        obtain ⟨x26, h25, hc, E⟩ := E
        refine r_callV1 (mc := 0) (ms := 0) dX9_readCommand_153 KX9_65 (c_X9_readDigit hc) g27 (by decide) (Nat.le_of_ble_eq_true rfl) (fun _ _ q => q.elim) ?_
        rintro _ _ ⟨rfl, rfl⟩
        clear hc
        refine q_if_eq (tgt := 163) dX9_readCommand_156 (by decide) (fun z28 => ?_) (fun z28 => ?_)
        · replace E := ite_t E z28
          exact r_fewer [none] (ls_n ls_0) (s_X9_readCommand_163 h25 E hK)
        · replace E := ite_f E z28
          refine q_iconst dX9_readCommand_159 ?_
          refine q_goto (tgt := 164) dX9_readCommand_160 (by decide) ?_
          exact r_fewer [none] (ls_n ls_0) (s_X9_readCommand_164 (Int32.ofInt 1) h25 E hK)
  replace E := ite_f E z35
  by_cases z36 : (gi h5 p0 4) = (Int32.ofInt 4)
  · replace E := ite_t E z36
    refine r_tableIn (tgt := 170) (Int32.ofInt 4) dX9_readCommand_12 z36 (by decide) (by decide) (by rfl) (by decide) ?_
    exact r_fewer [some (.ref p0)] (ls_s ls_0) (s_X9_readCommand_170 p0 h5 E hK)
  replace E := ite_f E z36
  by_cases z37 : (gi h5 p0 4) = (Int32.ofInt 5)
  · replace E := ite_t E z37
    refine r_tableIn (tgt := 165) (Int32.ofInt 5) dX9_readCommand_12 z37 (by decide) (by decide) (by rfl) (by decide) ?_
    refine q_aload_n dX9_readCommand_165 rfl ?_
    replace E := cal_some E
    obtain ⟨x30, h29, hc, E⟩ := E
    refine r_callV0 (mc := 0) (ms := 0) dX9_readCommand_166 KX9_69 (c_X9_readLetters hc) g6 (by decide) (Nat.le_of_ble_eq_true rfl) (fun _ _ q => q.elim) ?_
    rintro _ _ ⟨rfl, rfl⟩
    clear hc
    replace E := grd_some E
    obtain ⟨g31, E⟩ := E
    cases E
    exact q_zreturn dX9_readCommand_169 rfl (narZ g31) hK
  replace E := ite_f E z37
  by_cases z38 : (gi h5 p0 4) = (Int32.ofInt 6)
  · replace E := ite_t E z38
    refine r_tableIn (tgt := 170) (Int32.ofInt 6) dX9_readCommand_12 z38 (by decide) (by decide) (by rfl) (by decide) ?_
    exact r_fewer [some (.ref p0)] (ls_s ls_0) (s_X9_readCommand_170 p0 h5 E hK)
  replace E := ite_f E z38
  have nz32 : ¬ ((gi h5 p0 4)).toInt = 0 := lv_neT z32 (by decide)
  have nz33 : ¬ ((gi h5 p0 4)).toInt = 1 := lv_neT z33 (by decide)
  have nz34 : ¬ ((gi h5 p0 4)).toInt = 2 := lv_neT z34 (by decide)
  have nz35 : ¬ ((gi h5 p0 4)).toInt = 3 := lv_neT z35 (by decide)
  have nz36 : ¬ ((gi h5 p0 4)).toInt = 4 := lv_neT z36 (by decide)
  have nz37 : ¬ ((gi h5 p0 4)).toInt = 5 := lv_neT z37 (by decide)
  have nz38 : ¬ ((gi h5 p0 4)).toInt = 6 := lv_neT z38 (by decide)
  refine r_tableOut (tgt := 176) dX9_readCommand_12 (by omega) (by decide) ?_
  refine q_iconst dX9_readCommand_176 ?_
  cases E
  exact q_zreturn dX9_readCommand_177 rfl (by decide) hK
theorem c_X9_readCommand {l : Launch} {G : mG} {p0 : Nat} {h h' : mH} {r : Int32} (E : f_X9_readCommand p0 h = some (r, h')) : mMet l G m_X9_readCommand 6 0 0 [.ref p0] h (fun v k => v = some (.int r) ∧ h' = k) (fun _ _ => False) :=
  mMet_of (by decide +kernel) rfl (ac_c rfl ac_0) (Nat.le_of_ble_eq_true rfl) (s_X9_readCommand_0 p0 h E (And.intro rfl rfl))
set_option maxRecDepth 100000 in
set_option maxHeartbeats 4000000 in
theorem sb_X9_readProgram_6 {l : Launch} {G : mG} {Q : Option Value → mH → Prop} {X : String → mH → Prop} (p0 : Nat) (v1 : Int32) (h : mH) {o : ((Int32 × mH) ⊕ (Int32 × mH))} (E : b0_X9_readProgram_6 p0 v1 h = some o) (hK : (lpK (w_X9_readProgram_6 l G Q X p0) (fiI Q)) o) : mW l G m_X9_readProgram 7 0 0 6 [some (.ref p0), some (.int v1)] [] h Q X := by
  unfold b0_X9_readProgram_6 at E
  refine q_iload_n dX9_readProgram_6 rfl ?_
  refine q_bipush (v := (Int32.ofInt 60)) dX9_readProgram_7 (by decide) ?_
  refine q_icmp_gt (tgt := 53) dX9_readProgram_9 (by decide) (fun z1 => ?_) (fun z1 => ?_)
  · replace E := ite_t E z1
    refine q_bipush (v := (Int32.ofInt (-4))) dX9_readProgram_53 (by decide) ?_
    cases E
    exact q_ireturn dX9_readProgram_55 rfl hK
  · replace E := ite_f E z1
    refine q_aload_n dX9_readProgram_12 rfl ?_
    replace E := grd_some E
    obtain ⟨g4, E⟩ := E
    replace E := cal_some E
    obtain ⟨x3, h2, hc, E⟩ := E
    refine r_callV0 (mc := 0) (ms := 0) dX9_readProgram_13 KX9_55 (c_X9_readCommand hc) g4 (by decide) (Nat.le_of_ble_eq_true rfl) (fun _ _ q => q.elim) ?_
    rintro _ _ ⟨rfl, rfl⟩
    clear hc
    refine q_if_ne (tgt := 22) dX9_readProgram_16 (by decide) (fun z5 => ?_) (fun z5 => ?_)
    · replace E := ite_f E z5
      refine q_aload_n dX9_readProgram_22 rfl ?_
      replace E := grd_some E
      obtain ⟨g6, E⟩ := E
      refine r_getI dX9_readProgram_23 FX9_23 g6 ?_
      refine q_aload_n dX9_readProgram_26 rfl ?_
      refine r_getI dX9_readProgram_27 FX9_19 g6 ?_
      refine q_icmp_ne (tgt := 35) dX9_readProgram_30 (by decide) (fun z7 => ?_) (fun z7 => ?_)
      · replace E := ite_f E z7
        refine q_aload_n dX9_readProgram_35 rfl ?_
        refine q_bipush (v := (Int32.ofInt 59)) dX9_readProgram_36 (by decide) ?_
        replace E := cal_some E
        obtain ⟨x9, h8, hc, E⟩ := E
        refine r_callV1 (mc := 0) (ms := 0) dX9_readProgram_38 KX9_58 (c_X9_readSign hc) g6 (by decide) (Nat.le_of_ble_eq_true rfl) (fun _ _ q => q.elim) ?_
        rintro _ _ ⟨rfl, rfl⟩
        clear hc
        refine q_if_ne (tgt := 47) dX9_readProgram_41 (by decide) (fun z10 => ?_) (fun z10 => ?_)
        · replace E := ite_f E z10
          replace E := bnd_x E
          obtain ⟨x11, ex11, E⟩ := E
          refine r_iinc (v := x11) dX9_readProgram_47 rfl ex11 (by decide) (ls' := [some (.ref p0), some (.int x11)]) rfl ?_
          refine q_goto (tgt := 6) dX9_readProgram_50 (by decide) ?_
          cases E
          exact r_fewer [some (.ref p0), some (.int x11)] (ls_s (ls_s ls_0)) hK
        · replace E := ite_t E z10
          refine q_bipush (v := (Int32.ofInt (-4))) dX9_readProgram_44 (by decide) ?_
          cases E
          exact q_ireturn dX9_readProgram_46 rfl hK
      · replace E := ite_t E z7
        refine q_iload_n dX9_readProgram_33 rfl ?_
        cases E
        exact q_ireturn dX9_readProgram_34 rfl hK
    · replace E := ite_t E z5
      refine q_bipush (v := (Int32.ofInt (-4))) dX9_readProgram_19 (by decide) ?_
      cases E
      exact q_ireturn dX9_readProgram_21 rfl hK
theorem s_X9_readProgram_6 {l : Launch} {G : mG} {Q : Option Value → mH → Prop} {X : String → mH → Prop} (p0 : Nat) (v1 : Int32) (h : mH) {o : Int32 × mH} (E : g_X9_readProgram_6 p0 v1 h = some o) (hK : (fiI Q) o) : mW l G m_X9_readProgram 7 0 0 6 [some (.ref p0), some (.int v1)] [] h Q X :=
  (lp_go (w_X9_readProgram_6 l G Q X p0) (fiI Q) (b_X9_readProgram_6 p0) (fun s o E hK => sb_X9_readProgram_6 p0 s.1 (s.2) E hK) _ _ _ E hK : w_X9_readProgram_6 l G Q X p0 (v1, h))
set_option maxRecDepth 100000 in
set_option maxHeartbeats 4000000 in
theorem s_X9_readProgram_0 {l : Launch} {G : mG} {Q : Option Value → mH → Prop} {X : String → mH → Prop} (p0 : Nat) (h : mH) {o : Int32 × mH} (E : f_X9_readProgram p0 h = some o) (hK : (fiI Q) o) : mW l G m_X9_readProgram 7 0 0 0 [some (.ref p0), none] [] h Q X := by
  unfold f_X9_readProgram at E
  refine q_aload_n dX9_readProgram_0 rfl ?_
  replace E := grd_some E
  obtain ⟨g3, E⟩ := E
  replace E := cal_some E
  obtain ⟨_, h1, hc, E⟩ := E
  refine r_callV0 (mc := 0) (ms := 0) dX9_readProgram_1 KX9_48 (c_X9_rewind hc) g3 (by decide) (Nat.le_of_ble_eq_true rfl) (fun _ _ q => q.elim) ?_
  rintro _ _ ⟨rfl, rfl⟩
  clear hc
  refine q_iconst dX9_readProgram_4 ?_
  refine r_istore_n dX9_readProgram_5 (by decide) rfl (ls' := [some (.ref p0), some (.int (Int32.ofInt 1))]) rfl ?_
  exact r_fewer [some (.ref p0), some (.int (Int32.ofInt 1))] (ls_s (ls_s ls_0)) (s_X9_readProgram_6 p0 (Int32.ofInt 1) h1 E hK)
theorem c_X9_readProgram {l : Launch} {G : mG} {p0 : Nat} {h h' : mH} {r : Int32} (E : f_X9_readProgram p0 h = some (r, h')) : mMet l G m_X9_readProgram 7 0 0 [.ref p0] h (fun v k => v = some (.int r) ∧ h' = k) (fun _ _ => False) :=
  mMet_of (by decide +kernel) rfl (ac_c rfl ac_0) (Nat.le_of_ble_eq_true rfl) (s_X9_readProgram_0 p0 h E (And.intro rfl rfl))
set_option maxRecDepth 100000 in
set_option maxHeartbeats 4000000 in
theorem s_X11_init_0 {l : Launch} {G : mG} {Q : Option Value → mH → Prop} {X : String → mH → Prop} (p0 : Nat) (h : mH) {o : Unit × mH} (E : f_X11_init p0 h = some o) (hK : (fiV Q) o) : mW l G m_X11_init 2 108 55310 0 [some (.ref p0)] [] h Q X := by
  unfold f_X11_init at E
  refine q_aload_n dX11_init_0 rfl ?_
  refine q_objInit dX11_init_1 OX11_1 objW1 objW2 (Nat.le_of_ble_eq_true rfl) ?_
  refine q_aload_n dX11_init_4 rfl ?_
  replace E := bnd_x E
  obtain ⟨a1, ea1, E⟩ := E
  replace E := bnd_x E
  obtain ⟨h2, eh2, E⟩ := E
  refine r_new (hq := ea1) (hh := eh2) dX11_init_5 CX11_7 ?_
  refine q_dup dX11_init_8 ?_
  replace E := cal_some E
  obtain ⟨_, h3, hc, E⟩ := E
  refine r_callIN0 (mc := 105) (ms := 55292) dX11_init_9 KX11_9 (c_X6_init hc) (by decide) (Nat.le_of_ble_eq_true rfl) (fun _ _ q => q.elim) ?_
  rintro _ _ ⟨rfl, rfl⟩
  clear hc
  replace E := grd_some E
  obtain ⟨g5, E⟩ := E
  replace E := bnd_x E
  obtain ⟨h6, eh6, E⟩ := E
  refine r_putR (hh := eh6) dX11_init_12 FX11_10 g5 (hf := Or.inr ⟨rfl, fun _ _ _ q => (Prod.mk.inj (Option.some.inj q)).1.symm⟩) ?_
  refine q_aload_n dX11_init_15 rfl ?_
  replace E := bnd_x E
  obtain ⟨a7, ea7, E⟩ := E
  replace E := bnd_x E
  obtain ⟨h8, eh8, E⟩ := E
  refine r_new (hq := ea7) (hh := eh8) dX11_init_16 CX11_7 ?_
  refine q_dup dX11_init_19 ?_
  replace E := cal_some E
  obtain ⟨_, h9, hc, E⟩ := E
  refine r_callIN0 (mc := 102) (ms := 55274) dX11_init_20 KX11_9 (c_X6_init hc) (by decide) (Nat.le_of_ble_eq_true rfl) (fun _ _ q => q.elim) ?_
  rintro _ _ ⟨rfl, rfl⟩
  clear hc
  replace E := grd_some E
  obtain ⟨g11, E⟩ := E
  replace E := bnd_x E
  obtain ⟨h12, eh12, E⟩ := E
  refine r_putR (hh := eh12) dX11_init_23 FX11_16 g11 (hf := Or.inr ⟨rfl, fun _ _ _ q => (Prod.mk.inj (Option.some.inj q)).1.symm⟩) ?_
  refine q_aload_n dX11_init_26 rfl ?_
  replace E := bnd_x E
  obtain ⟨a13, ea13, E⟩ := E
  replace E := bnd_x E
  obtain ⟨h14, eh14, E⟩ := E
  refine r_new (hq := ea13) (hh := eh14) dX11_init_27 CX11_19 ?_
  refine q_dup dX11_init_30 ?_
  replace E := calC_some E
  obtain ⟨_, h15, ch15, mh15, hc, E⟩ := E
  replace E := grd_some E
  obtain ⟨gb, E⟩ := E
  refine r_callI0 (mc := 61) (ms := 54871) dX11_init_31 KX11_21 (c_X1_init hc gb.1 gb.2) (by decide) (Nat.le_of_ble_eq_true rfl) (fun _ _ q => q.elim) ?_
  rintro _ _ ⟨rfl, rfl⟩
  clear hc
  replace E := grd_some E
  obtain ⟨g17, E⟩ := E
  replace E := bnd_x E
  obtain ⟨h18, eh18, E⟩ := E
  refine r_putR (hh := eh18) dX11_init_34 FX11_22 g17 (hf := Or.inr ⟨rfl, fun _ _ _ q => (Prod.mk.inj (Option.some.inj q)).1.symm⟩) ?_
  refine q_aload_n dX11_init_37 rfl ?_
  replace E := bnd_x E
  obtain ⟨a19, ea19, E⟩ := E
  replace E := bnd_x E
  obtain ⟨h20, eh20, E⟩ := E
  refine r_new (hq := ea19) (hh := eh20) dX11_init_38 CX11_26 ?_
  refine q_dup dX11_init_41 ?_
  replace E := cal_some E
  obtain ⟨_, h21, hc, E⟩ := E
  refine r_callIN0 (mc := 58) (ms := 54801) dX11_init_42 KX11_28 (c_X9_init hc) (by decide) (Nat.le_of_ble_eq_true rfl) (fun _ _ q => q.elim) ?_
  rintro _ _ ⟨rfl, rfl⟩
  clear hc
  replace E := grd_some E
  obtain ⟨g23, E⟩ := E
  replace E := bnd_x E
  obtain ⟨h24, eh24, E⟩ := E
  refine r_putR (hh := eh24) dX11_init_45 FX11_29 g23 (hf := Or.inr ⟨rfl, fun _ _ _ q => (Prod.mk.inj (Option.some.inj q)).1.symm⟩) ?_
  refine q_aload_n dX11_init_48 rfl ?_
  replace E := bnd_x E
  obtain ⟨a25, ea25, E⟩ := E
  replace E := bnd_x E
  obtain ⟨h26, eh26, E⟩ := E
  refine r_new (hq := ea25) (hh := eh26) dX11_init_49 CX11_33 ?_
  refine q_dup dX11_init_52 ?_
  replace E := cal_some E
  obtain ⟨_, h27, hc, E⟩ := E
  refine r_callIN0 (mc := 55) (ms := 54557) dX11_init_53 KX11_35 (c_X2_init hc) (by decide) (Nat.le_of_ble_eq_true rfl) (fun _ _ q => q.elim) ?_
  rintro _ _ ⟨rfl, rfl⟩
  clear hc
  replace E := grd_some E
  obtain ⟨g29, E⟩ := E
  replace E := bnd_x E
  obtain ⟨h30, eh30, E⟩ := E
  refine r_putR (hh := eh30) dX11_init_56 FX11_36 g29 (hf := Or.inr ⟨rfl, fun _ _ _ q => (Prod.mk.inj (Option.some.inj q)).1.symm⟩) ?_
  refine q_aload_n dX11_init_59 rfl ?_
  replace E := bnd_x E
  obtain ⟨a31, ea31, E⟩ := E
  replace E := bnd_x E
  obtain ⟨h32, eh32, E⟩ := E
  refine r_new (hq := ea31) (hh := eh32) dX11_init_60 CX11_40 ?_
  refine q_dup dX11_init_63 ?_
  replace E := cal_some E
  obtain ⟨_, h33, hc, E⟩ := E
  refine r_callI0 (mc := 53) (ms := 54298) dX11_init_64 KX11_42 (c_J4_init_da8c8 hc) (by decide) (Nat.le_of_ble_eq_true rfl) (fun _ _ q => q.elim) ?_
  rintro _ _ ⟨rfl, rfl⟩
  clear hc
  replace E := grd_some E
  obtain ⟨g35, E⟩ := E
  replace E := bnd_x E
  obtain ⟨h36, eh36, E⟩ := E
  refine r_putR (hh := eh36) dX11_init_67 FX11_43 g35 (hf := Or.inr ⟨rfl, fun _ _ _ q => (Prod.mk.inj (Option.some.inj q)).1.symm⟩) ?_
  refine q_aload_n dX11_init_70 rfl ?_
  replace E := bnd_x E
  obtain ⟨a37, ea37, E⟩ := E
  replace E := bnd_x E
  obtain ⟨h38, eh38, E⟩ := E
  refine r_new (hq := ea37) (hh := eh38) dX11_init_71 CX11_47 ?_
  refine q_dup dX11_init_74 ?_
  replace E := cal_some E
  obtain ⟨_, h39, hc, E⟩ := E
  refine r_callIN0 (mc := 47) (ms := 54260) dX11_init_75 KX11_49 (c_X5_init hc) (by decide) (Nat.le_of_ble_eq_true rfl) (fun _ _ q => q.elim) ?_
  rintro _ _ ⟨rfl, rfl⟩
  clear hc
  replace E := grd_some E
  obtain ⟨g41, E⟩ := E
  replace E := bnd_x E
  obtain ⟨h42, eh42, E⟩ := E
  refine r_putR (hh := eh42) dX11_init_78 FX11_50 g41 (hf := Or.inr ⟨rfl, fun _ _ _ q => (Prod.mk.inj (Option.some.inj q)).1.symm⟩) ?_
  refine q_aload_n dX11_init_81 rfl ?_
  replace E := bnd_x E
  obtain ⟨a43, ea43, E⟩ := E
  replace E := bnd_x E
  obtain ⟨h44, eh44, E⟩ := E
  refine r_new (hq := ea43) (hh := eh44) dX11_init_82 CX11_54 ?_
  refine q_dup dX11_init_85 ?_
  replace E := cal_some E
  obtain ⟨_, h45, hc, E⟩ := E
  refine r_callIN0 (mc := 33) (ms := 53053) dX11_init_86 KX11_56 (c_X0_init hc) (by decide) (Nat.le_of_ble_eq_true rfl) (fun _ _ q => q.elim) ?_
  rintro _ _ ⟨rfl, rfl⟩
  clear hc
  replace E := grd_some E
  obtain ⟨g47, E⟩ := E
  replace E := bnd_x E
  obtain ⟨h48, eh48, E⟩ := E
  refine r_putR (hh := eh48) dX11_init_89 FX11_57 g47 (hf := Or.inr ⟨rfl, fun _ _ _ q => (Prod.mk.inj (Option.some.inj q)).1.symm⟩) ?_
  refine q_aload_n dX11_init_92 rfl ?_
  replace E := bnd_x E
  obtain ⟨a49, ea49, E⟩ := E
  replace E := bnd_x E
  obtain ⟨h50, eh50, E⟩ := E
  refine r_new (hq := ea49) (hh := eh50) dX11_init_93 CX11_54 ?_
  refine q_dup dX11_init_96 ?_
  replace E := cal_some E
  obtain ⟨_, h51, hc, E⟩ := E
  refine r_callIN0 (mc := 19) (ms := 51846) dX11_init_97 KX11_56 (c_X0_init hc) (by decide) (Nat.le_of_ble_eq_true rfl) (fun _ _ q => q.elim) ?_
  rintro _ _ ⟨rfl, rfl⟩
  clear hc
  replace E := grd_some E
  obtain ⟨g53, E⟩ := E
  replace E := bnd_x E
  obtain ⟨h54, eh54, E⟩ := E
  refine r_putR (hh := eh54) dX11_init_100 FX11_61 g53 (hf := Or.inr ⟨rfl, fun _ _ _ q => (Prod.mk.inj (Option.some.inj q)).1.symm⟩) ?_
  refine q_aload_n dX11_init_103 rfl ?_
  replace E := bnd_x E
  obtain ⟨a55, ea55, E⟩ := E
  replace E := bnd_x E
  obtain ⟨h56, eh56, E⟩ := E
  refine r_new (hq := ea55) (hh := eh56) dX11_init_104 CX11_64 ?_
  refine q_dup dX11_init_107 ?_
  replace E := cal_some E
  obtain ⟨_, h57, hc, E⟩ := E
  refine r_callIN0 (mc := 13) (ms := 50937) dX11_init_108 KX11_66 (c_X7_init hc) (by decide) (Nat.le_of_ble_eq_true rfl) (fun _ _ q => q.elim) ?_
  rintro _ _ ⟨rfl, rfl⟩
  clear hc
  replace E := grd_some E
  obtain ⟨g59, E⟩ := E
  replace E := bnd_x E
  obtain ⟨h60, eh60, E⟩ := E
  refine r_putR (hh := eh60) dX11_init_111 FX11_67 g59 (hf := Or.inr ⟨rfl, fun _ _ _ q => (Prod.mk.inj (Option.some.inj q)).1.symm⟩) ?_
  refine q_aload_n dX11_init_114 rfl ?_
  replace E := bnd_x E
  obtain ⟨a61, ea61, E⟩ := E
  replace E := bnd_x E
  obtain ⟨h62, eh62, E⟩ := E
  refine r_new (hq := ea61) (hh := eh62) dX11_init_115 CX11_64 ?_
  refine q_dup dX11_init_118 ?_
  replace E := cal_some E
  obtain ⟨_, h63, hc, E⟩ := E
  refine r_callIN0 (mc := 7) (ms := 50028) dX11_init_119 KX11_66 (c_X7_init hc) (by decide) (Nat.le_of_ble_eq_true rfl) (fun _ _ q => q.elim) ?_
  rintro _ _ ⟨rfl, rfl⟩
  clear hc
  replace E := grd_some E
  obtain ⟨g65, E⟩ := E
  replace E := bnd_x E
  obtain ⟨h66, eh66, E⟩ := E
  refine r_putR (hh := eh66) dX11_init_122 FX11_71 g65 (hf := Or.inr ⟨rfl, fun _ _ _ q => (Prod.mk.inj (Option.some.inj q)).1.symm⟩) ?_
  refine q_aload_n dX11_init_125 rfl ?_
  replace E := bnd_x E
  obtain ⟨a67, ea67, E⟩ := E
  replace E := bnd_x E
  obtain ⟨h68, eh68, E⟩ := E
  refine r_new (hq := ea67) (hh := eh68) dX11_init_126 CX11_74 ?_
  refine q_dup dX11_init_129 ?_
  replace E := cal_some E
  obtain ⟨_, h69, hc, E⟩ := E
  refine r_callIN0 (mc := 3) (ms := 100) dX11_init_130 KX11_76 (c_X3_init hc) (by decide) (Nat.le_of_ble_eq_true rfl) (fun _ _ q => q.elim) ?_
  rintro _ _ ⟨rfl, rfl⟩
  clear hc
  replace E := grd_some E
  obtain ⟨g71, E⟩ := E
  replace E := bnd_x E
  obtain ⟨h72, eh72, E⟩ := E
  refine r_putR (hh := eh72) dX11_init_133 FX11_77 g71 (hf := Or.inr ⟨rfl, fun _ _ _ q => (Prod.mk.inj (Option.some.inj q)).1.symm⟩) ?_
  refine q_aload_n dX11_init_136 rfl ?_
  replace E := bnd_x E
  obtain ⟨a73, ea73, E⟩ := E
  replace E := bnd_x E
  obtain ⟨h74, eh74, E⟩ := E
  refine r_new (hq := ea73) (hh := eh74) dX11_init_137 CX11_81 ?_
  refine q_dup dX11_init_140 ?_
  replace E := cal_some E
  obtain ⟨_, h75, hc, E⟩ := E
  refine r_callIN0 (mc := 1) (ms := 6) dX11_init_141 KX11_83 (c_X8_init hc) (by decide) (Nat.le_of_ble_eq_true rfl) (fun _ _ q => q.elim) ?_
  rintro _ _ ⟨rfl, rfl⟩
  clear hc
  replace E := grd_some E
  obtain ⟨g77, E⟩ := E
  replace E := bnd_x E
  obtain ⟨h78, eh78, E⟩ := E
  refine r_putR (hh := eh78) dX11_init_144 FX11_84 g77 (hf := Or.inr ⟨rfl, fun _ _ _ q => (Prod.mk.inj (Option.some.inj q)).1.symm⟩) ?_
  refine q_aload_n dX11_init_147 rfl ?_
  refine q_bipush (v := (Int32.ofInt 6)) dX11_init_148 (by decide) ?_
  replace E := grd_some E
  obtain ⟨g79, E⟩ := E
  replace E := bnd_x E
  obtain ⟨a80, ea80, E⟩ := E
  replace E := bnd_x E
  obtain ⟨h81, eh81, E⟩ := E
  refine r_newarray (n := 6) (t0 := 3) (hq := ea80) (hh := eh81) dX11_init_150 W_int rfl rfl (by decide) g79 (by decide) ?_
  replace E := grd_some E
  obtain ⟨g82, E⟩ := E
  replace E := bnd_x E
  obtain ⟨h83, eh83, E⟩ := E
  refine r_putR (hh := eh83) dX11_init_152 FX11_88 g82 (hf := Or.inr ⟨rfl, fun _ _ _ q => (Prod.mk.inj (Option.some.inj q)).1.symm⟩) ?_
  refine q_aload_n dX11_init_155 rfl ?_
  refine q_iconst dX11_init_156 ?_
  replace E := grd_some E
  obtain ⟨g84, E⟩ := E
  replace E := bnd_x E
  obtain ⟨h85, eh85, E⟩ := E
  refine r_putI (hh := eh85) dX11_init_157 FX11_92 g84 (by decide) (by decide) ?_
  refine q_aload_n dX11_init_160 rfl ?_
  refine q_iconst dX11_init_161 ?_
  replace E := grd_some E
  obtain ⟨g86, E⟩ := E
  replace E := bnd_x E
  obtain ⟨h87, eh87, E⟩ := E
  refine r_putI (hh := eh87) dX11_init_162 FX11_96 g86 rfl rfl ?_
  refine q_aload_n dX11_init_165 rfl ?_
  refine q_iconst dX11_init_166 ?_
  replace E := grd_some E
  obtain ⟨g88, E⟩ := E
  replace E := bnd_x E
  obtain ⟨h89, eh89, E⟩ := E
  refine r_putI (hh := eh89) dX11_init_167 FX11_100 g88 rfl rfl ?_
  cases E
  exact q_return dX11_init_170 rfl hK
theorem c_X11_init {l : Launch} {G : mG} {p0 : Nat} {h h' : mH} {r : Unit} (E : f_X11_init p0 h = some (r, h')) : mMet l G m_X11_init 2 108 55310 [.ref p0] h (fun v k => v = none ∧ h' = k) (fun _ _ => False) :=
  mMet_of (by decide +kernel) rfl (ac_c rfl ac_0) (Nat.le_of_ble_eq_true rfl) (s_X11_init_0 p0 h E (And.intro rfl rfl))
set_option maxRecDepth 100000 in
set_option maxHeartbeats 4000000 in
theorem s_X11_finishChange_0 {l : Launch} {G : mG} {Q : Option Value → mH → Prop} {X : String → mH → Prop} (p0 : Nat) (v1 : Int32) (h : mH) {o : (Int32 ⊕ String) × mH} (E : f_X11_finishChange p0 v1 h = some o) (hK : (fiIX Q X) o) : mW l G m_X11_finishChange 1 1 6 0 [some (.ref p0), some (.int v1)] [] h Q X := by
  unfold f_X11_finishChange at E
  refine q_iload_n dX11_finishChange_0 rfl ?_
  by_cases z6 : v1 = (Int32.ofInt (-6))
  · replace E := ite_t E z6
    refine r_tableIn (tgt := 94) (Int32.ofInt (-6)) dX11_finishChange_1 z6 (by decide) (by decide) (by rfl) (by decide) ?_
    cases E
    exact q_throwSW (mc := 0) (ms := 0) TX11_107_111 SX11_403 dX11_finishChange_94 dX11_finishChange_97 dX11_finishChange_98 dX11_finishChange_101 dX11_finishChange_104 rfl (Nat.le_of_ble_eq_true rfl) hK
  replace E := ite_f E z6
  by_cases z7 : v1 = (Int32.ofInt (-5))
  · replace E := ite_t E z7
    refine r_tableIn (tgt := 83) (Int32.ofInt (-5)) dX11_finishChange_1 z7 (by decide) (by decide) (by rfl) (by decide) ?_
    cases E
    exact q_throwSW (mc := 0) (ms := 0) TX11_347_351 SX11_413 dX11_finishChange_83 dX11_finishChange_86 dX11_finishChange_87 dX11_finishChange_90 dX11_finishChange_93 rfl (Nat.le_of_ble_eq_true rfl) hK
  replace E := ite_f E z7
  by_cases z8 : v1 = (Int32.ofInt (-4))
  · replace E := ite_t E z8
    refine r_tableIn (tgt := 72) (Int32.ofInt (-4)) dX11_finishChange_1 z8 (by decide) (by decide) (by rfl) (by decide) ?_
    cases E
    exact q_throwSW (mc := 0) (ms := 0) TX11_125_129 SX11_411 dX11_finishChange_72 dX11_finishChange_75 dX11_finishChange_76 dX11_finishChange_79 dX11_finishChange_82 rfl (Nat.le_of_ble_eq_true rfl) hK
  replace E := ite_f E z8
  by_cases z9 : v1 = (Int32.ofInt (-3))
  · replace E := ite_t E z9
    refine r_tableIn (tgt := 61) (Int32.ofInt (-3)) dX11_finishChange_1 z9 (by decide) (by decide) (by rfl) (by decide) ?_
    cases E
    exact q_throwSW (mc := 0) (ms := 0) TX11_347_351 SX11_409 dX11_finishChange_61 dX11_finishChange_64 dX11_finishChange_65 dX11_finishChange_68 dX11_finishChange_71 rfl (Nat.le_of_ble_eq_true rfl) hK
  replace E := ite_f E z9
  by_cases z10 : v1 = (Int32.ofInt (-2))
  · replace E := ite_t E z10
    refine r_tableIn (tgt := 50) (Int32.ofInt (-2)) dX11_finishChange_1 z10 (by decide) (by decide) (by rfl) (by decide) ?_
    cases E
    exact q_throwNS (mc := 0) (ms := 0) TX11_286_290 SX11_407 dX11_finishChange_50 dX11_finishChange_53 dX11_finishChange_54 dX11_finishChange_57 dX11_finishChange_60 rfl (Nat.le_of_ble_eq_true rfl) hK
  replace E := ite_f E z10
  by_cases z11 : v1 = (Int32.ofInt (-1))
  · replace E := ite_t E z11
    refine r_tableIn (tgt := 40) (Int32.ofInt (-1)) dX11_finishChange_1 z11 (by decide) (by decide) (by rfl) (by decide) ?_
    cases E
    exact q_throwS (mc := 0) (ms := 0) TX11_107_111 SX11_109 dX11_finishChange_40 dX11_finishChange_43 dX11_finishChange_44 dX11_finishChange_46 dX11_finishChange_49 rfl (Nat.le_of_ble_eq_true rfl) hK
  replace E := ite_f E z11
  have nz6 : ¬ (v1).toInt = -6 := lv_neT z6 (by decide)
  have nz7 : ¬ (v1).toInt = -5 := lv_neT z7 (by decide)
  have nz8 : ¬ (v1).toInt = -4 := lv_neT z8 (by decide)
  have nz9 : ¬ (v1).toInt = -3 := lv_neT z9 (by decide)
  have nz10 : ¬ (v1).toInt = -2 := lv_neT z10 (by decide)
  have nz11 : ¬ (v1).toInt = -1 := lv_neT z11 (by decide)
  refine r_tableOut (tgt := 105) dX11_finishChange_1 (by omega) (by decide) ?_
  refine q_aload_n dX11_finishChange_105 rfl ?_
  replace E := grd_some E
  obtain ⟨g1, E⟩ := E
  replace E := orf_some E
  obtain ⟨a2, ea2, E⟩ := E
  refine r_getR dX11_finishChange_106 FX11_22 g1 ea2 ?_
  replace E := grd_some E
  obtain ⟨g5, E⟩ := E
  refine q_room (d' := 1) (mc' := 0) (ms' := 0) (Nat.le_refl _) (Nat.le_of_ble_eq_true rfl) (Nat.le_of_ble_eq_true rfl) ?_
  replace E := cal_some E
  obtain ⟨_, h3, hc, E⟩ := E
  refine r_callV0 (mc := 0) (ms := 0) dX11_finishChange_109 KX11_369 (c_X1_keepPrepared hc) g5 (by decide) (Nat.le_of_ble_eq_true rfl) (fun _ _ q => q.elim) ?_
  rintro _ _ ⟨rfl, rfl⟩
  clear hc
  refine q_iload_n dX11_finishChange_112 rfl ?_
  cases E
  exact q_ireturn dX11_finishChange_113 rfl hK
theorem c_X11_finishChange {l : Launch} {G : mG} {p0 : Nat} {v1 : Int32} {h : mH} {o : (Int32 ⊕ String) × mH} (E : f_X11_finishChange p0 v1 h = some o) : mMet l G m_X11_finishChange 1 1 6 [.ref p0, .int v1] h (fun v k => ∃ r, o = (.inl r, k) ∧ v = some (.int r)) (fun e k => ∃ k0, o = (.inr e, k0) ∧ ∃ n, nx k0 ≤ n ∧ k = sn k0 n) := by
  refine mMet_of (by decide +kernel) rfl (ac_c rfl (ac_c rfl ac_0)) (Nat.le_of_ble_eq_true rfl) (s_X11_finishChange_0 p0 v1 h E ?_)
  obtain ⟨r | e, k⟩ := o
  · exact ⟨r, rfl, rfl⟩
  · exact fun n hn => ⟨k, rfl, n, hn, rfl⟩
set_option maxRecDepth 100000 in
set_option maxHeartbeats 4000000 in
theorem s_X11_define_0 {l : Launch} {G : mG} {Q : Option Value → mH → Prop} {X : String → mH → Prop} (p0 : Nat) (v1 : Int32) (h : mH) {o : (Int32 ⊕ String) × mH} (E : f_X11_define p0 v1 h = some o) (hK : (fiIX Q X) o) : mW l G m_X11_define 5 3 264 0 [some (.ref p0), some (.int v1), none] [] h Q X := by
  unfold f_X11_define at E
  refine q_iload_n dX11_define_0 rfl ?_
  replace E := cal_some E
  obtain ⟨x2, h1, hc, E⟩ := E
  refine r_callS1 (mc := 3) (ms := 264) dX11_define_1 KX11_103 (c_X11_isSlot hc) (by decide) (Nat.le_of_ble_eq_true rfl) (fun _ _ q => q.elim) ?_
  rintro _ _ ⟨rfl, rfl⟩
  clear hc
  refine q_if_ne (tgt := 17) dX11_define_4 (by decide) (fun z3 => ?_) (fun z3 => ?_)
  · replace E := ite_f E z3
    refine q_aload_n dX11_define_17 rfl ?_
    replace E := grd_some E
    obtain ⟨g4, E⟩ := E
    replace E := orf_some E
    obtain ⟨a5, ea5, E⟩ := E
    refine r_getR dX11_define_18 FX11_29 g4 ea5 ?_
    replace E := grd_some E
    obtain ⟨g8, E⟩ := E
    replace E := cal_some E
    obtain ⟨x7, h6, hc, E⟩ := E
    refine r_callV0 (mc := 3) (ms := 264) dX11_define_21 KX11_114 (c_X9_readWholePattern hc) g8 (by decide) (Nat.le_of_ble_eq_true rfl) (fun _ _ q => q.elim) ?_
    rintro _ _ ⟨rfl, rfl⟩
    clear hc
    refine q_if_ne (tgt := 55) dX11_define_24 (by decide) (fun z9 => ?_) (fun z9 => ?_)
    · replace E := ite_f E z9
      refine q_aload_n dX11_define_55 rfl ?_
      replace E := grd_some E
      obtain ⟨g10, E⟩ := E
      replace E := orf_some E
      obtain ⟨a11, ea11, E⟩ := E
      refine r_getR dX11_define_56 FX11_22 g10 ea11 ?_
      refine q_aload_n dX11_define_59 rfl ?_
      replace E := orf_some E
      obtain ⟨a12, ea12, E⟩ := E
      refine r_getR dX11_define_60 FX11_10 g10 ea12 ?_
      replace E := grd_some E
      obtain ⟨g15, E⟩ := E
      replace E := cal_some E
      obtain ⟨_, h13, hc, E⟩ := E
      refine r_callV1 (mc := 3) (ms := 264) dX11_define_63 KX11_130 (c_X1_prepare hc) g15 (by decide) (Nat.le_of_ble_eq_true rfl) (fun _ _ q => q.elim) ?_
      rintro _ _ ⟨rfl, rfl⟩
      clear hc
      refine q_aload_n dX11_define_66 rfl ?_
      replace E := grd_some E
      obtain ⟨g16, E⟩ := E
      replace E := orf_some E
      obtain ⟨a17, ea17, E⟩ := E
      refine r_getR dX11_define_67 FX11_10 g16 ea17 ?_
      refine q_iload_n dX11_define_70 rfl ?_
      refine q_aload_n dX11_define_71 rfl ?_
      replace E := orf_some E
      obtain ⟨a18, ea18, E⟩ := E
      refine r_getR dX11_define_72 FX11_36 g16 ea18 ?_
      refine q_aload_n dX11_define_75 rfl ?_
      replace E := orf_some E
      obtain ⟨a19, ea19, E⟩ := E
      refine r_getR dX11_define_76 FX11_29 g16 ea19 ?_
      replace E := grd_some E
      obtain ⟨g22, E⟩ := E
      replace E := cal_some E
      obtain ⟨o21, h20, hc, E⟩ := E
      refine r_callV1 (mc := 1) (ms := 6) dX11_define_79 KX11_134 (c_X2_read hc) g22 (by decide) (Nat.le_of_ble_eq_true rfl) (fun _ _ q => q.elim) ?_
      rintro _ _ ⟨rfl, rfl⟩
      clear hc
      replace E := orf_some E
      obtain ⟨a23, rfl, E⟩ := E
      replace E := grd_some E
      obtain ⟨g26, E⟩ := E
      replace E := cal_some E
      obtain ⟨x25, h24, hc, E⟩ := E
      refine r_callV2 (mc := 1) (ms := 6) dX11_define_82 KX11_138 (c_X6_put hc) g26 (by decide) (Nat.le_of_ble_eq_true rfl) (fun _ _ q => q.elim) ?_
      rintro _ _ ⟨rfl, rfl⟩
      clear hc
      refine r_istore_n dX11_define_85 (by decide) rfl (ls' := [some (.ref p0), some (.int v1), some (.int x25)]) rfl ?_
      refine q_aload_n dX11_define_86 rfl ?_
      replace E := grd_some E
      obtain ⟨g27, E⟩ := E
      replace E := orf_some E
      obtain ⟨a28, ea28, E⟩ := E
      refine r_getR dX11_define_87 FX11_29 g27 ea28 ?_
      replace E := grd_some E
      obtain ⟨g31, E⟩ := E
      replace E := cal_some E
      obtain ⟨_, h29, hc, E⟩ := E
      refine r_callV0 (mc := 1) (ms := 6) dX11_define_90 KX11_122 (c_X9_empty hc) g31 (by decide) (Nat.le_of_ble_eq_true rfl) (fun _ _ q => q.elim) ?_
      rintro _ _ ⟨rfl, rfl⟩
      clear hc
      refine q_aload_n dX11_define_93 rfl ?_
      refine q_iload_n dX11_define_94 rfl ?_
      replace E := grd_some E
      obtain ⟨g34, E⟩ := E
      replace E := calX_some E
      rcases E with ⟨x33, h32, hc, E⟩ | ⟨e, h32, hc, E⟩
      · refine r_callV1 (mc := 0) (ms := 0) dX11_define_95 KX11_142 (c_X11_finishChange hc) g34 (by decide) (Nat.le_of_ble_eq_true rfl) (fun _ _ ⟨_, q, _⟩ => by cases q) ?_
        rintro _ _ ⟨_, q, rfl⟩
        obtain ⟨e9, f9⟩ := inl_inj q; subst e9; subst f9
        clear hc q
        cases E
        exact q_ireturn dX11_define_98 rfl hK
      · cases E
        refine r_callV1 (mc := 0) (ms := 0) dX11_define_95 KX11_142 (c_X11_finishChange hc) g34 (by decide) (Nat.le_of_ble_eq_true rfl) (fun _ _ ⟨_, q, n, hn, hk⟩ => by cases q; subst hk; exact hK n hn) ?_
        rintro _ _ ⟨_, q, _⟩
        cases q
    · replace E := ite_t E z9
      refine q_aload_n dX11_define_27 rfl ?_
      refine q_aload_n dX11_define_28 rfl ?_
      replace E := grd_some E
      obtain ⟨g35, E⟩ := E
      replace E := orf_some E
      obtain ⟨a36, ea36, E⟩ := E
      refine r_getR dX11_define_29 FX11_29 g35 ea36 ?_
      replace E := grd_some E
      obtain ⟨g39, E⟩ := E
      refine q_room (d' := 5) (mc' := 1) (ms' := 6) (Nat.le_refl _) (Nat.le_of_ble_eq_true rfl) (Nat.le_of_ble_eq_true rfl) ?_
      replace E := cal_some E
      obtain ⟨x38, h37, hc, E⟩ := E
      refine r_callV0 (mc := 1) (ms := 6) dX11_define_32 KX11_118 (c_X9_position hc) g39 (by decide) (Nat.le_of_ble_eq_true rfl) (fun _ _ q => q.elim) ?_
      rintro _ _ ⟨rfl, rfl⟩
      clear hc
      replace E := grd_some E
      obtain ⟨g40, E⟩ := E
      replace E := bnd_x E
      obtain ⟨h41, eh41, E⟩ := E
      refine r_putI (hh := eh41) dX11_define_35 FX11_96 g40 rfl rfl ?_
      refine q_aload_n dX11_define_38 rfl ?_
      replace E := grd_some E
      obtain ⟨g42, E⟩ := E
      replace E := orf_some E
      obtain ⟨a43, ea43, E⟩ := E
      refine r_getR dX11_define_39 FX11_29 g42 ea43 ?_
      replace E := grd_some E
      obtain ⟨g46, E⟩ := E
      replace E := cal_some E
      obtain ⟨_, h44, hc, E⟩ := E
      refine r_callV0 (mc := 1) (ms := 6) dX11_define_42 KX11_122 (c_X9_empty hc) g46 (by decide) (Nat.le_of_ble_eq_true rfl) (fun _ _ q => q.elim) ?_
      rintro _ _ ⟨rfl, rfl⟩
      clear hc
      cases E
      exact q_throwS (mc := 0) (ms := 0) TX11_125_129 SX11_127 dX11_define_45 dX11_define_48 dX11_define_49 dX11_define_51 dX11_define_54 rfl (Nat.le_of_ble_eq_true rfl) hK
  · replace E := ite_t E z3
    refine q_room (d' := 5) (mc' := 1) (ms' := 6) (Nat.le_refl _) (Nat.le_of_ble_eq_true rfl) (Nat.le_of_ble_eq_true rfl) ?_
    cases E
    exact q_throwS (mc := 0) (ms := 0) TX11_107_111 SX11_109 dX11_define_7 dX11_define_10 dX11_define_11 dX11_define_13 dX11_define_16 rfl (Nat.le_of_ble_eq_true rfl) hK
theorem c_X11_define {l : Launch} {G : mG} {p0 : Nat} {v1 : Int32} {h : mH} {o : (Int32 ⊕ String) × mH} (E : f_X11_define p0 v1 h = some o) : mMet l G m_X11_define 5 3 264 [.ref p0, .int v1] h (fun v k => ∃ r, o = (.inl r, k) ∧ v = some (.int r)) (fun e k => ∃ k0, o = (.inr e, k0) ∧ ∃ n, nx k0 ≤ n ∧ k = sn k0 n) := by
  refine mMet_of (by decide +kernel) rfl (ac_c rfl (ac_c rfl ac_0)) (Nat.le_of_ble_eq_true rfl) (s_X11_define_0 p0 v1 h E ?_)
  obtain ⟨r | e, k⟩ := o
  · exact ⟨r, rfl, rfl⟩
  · exact fun n hn => ⟨k, rfl, n, hn, rfl⟩
set_option maxRecDepth 100000 in
set_option maxHeartbeats 4000000 in
theorem s_X11_unite_0 {l : Launch} {G : mG} {Q : Option Value → mH → Prop} {X : String → mH → Prop} (p0 : Nat) (v1 : Int32) (v2 : Int32) (v3 : Int32) (h : mH) {o : (Int32 ⊕ String) × mH} (E : f_X11_unite p0 v1 v2 v3 h = some o) (hK : (fiIX Q X) o) : mW l G m_X11_unite 4 3 264 0 [some (.ref p0), some (.int v1), some (.int v2), some (.int v3)] [] h Q X := by
  unfold f_X11_unite at E
  refine q_aload_n dX11_unite_0 rfl ?_
  replace E := grd_some E
  obtain ⟨g1, E⟩ := E
  replace E := orf_some E
  obtain ⟨a2, ea2, E⟩ := E
  refine r_getR dX11_unite_1 FX11_22 g1 ea2 ?_
  refine q_aload_n dX11_unite_4 rfl ?_
  replace E := orf_some E
  obtain ⟨a3, ea3, E⟩ := E
  refine r_getR dX11_unite_5 FX11_10 g1 ea3 ?_
  replace E := grd_some E
  obtain ⟨g6, E⟩ := E
  replace E := cal_some E
  obtain ⟨_, h4, hc, E⟩ := E
  refine r_callV1 (mc := 3) (ms := 264) dX11_unite_8 KX11_130 (c_X1_prepare hc) g6 (by decide) (Nat.le_of_ble_eq_true rfl) (fun _ _ q => q.elim) ?_
  rintro _ _ ⟨rfl, rfl⟩
  clear hc
  refine q_aload_n dX11_unite_11 rfl ?_
  refine q_aload_n dX11_unite_12 rfl ?_
  replace E := grd_some E
  obtain ⟨g7, E⟩ := E
  replace E := orf_some E
  obtain ⟨a8, ea8, E⟩ := E
  refine r_getR dX11_unite_13 FX11_10 g7 ea8 ?_
  refine q_iload_n dX11_unite_16 rfl ?_
  refine q_iload_n dX11_unite_17 rfl ?_
  refine q_iload_n dX11_unite_18 rfl ?_
  refine q_bipush (v := (Int32.ofInt 124)) dX11_unite_19 (by decide) ?_
  replace E := grd_some E
  obtain ⟨g11, E⟩ := E
  replace E := cal_some E
  obtain ⟨x10, h9, hc, E⟩ := E
  refine r_callV4 (mc := 1) (ms := 6) dX11_unite_21 KX11_146 (c_X6_putJoined hc) g11 (by decide) (Nat.le_of_ble_eq_true rfl) (fun _ _ q => q.elim) ?_
  rintro _ _ ⟨rfl, rfl⟩
  clear hc
  replace E := grd_some E
  obtain ⟨g14, E⟩ := E
  replace E := calX_some E
  rcases E with ⟨x13, h12, hc, E⟩ | ⟨e, h12, hc, E⟩
  · refine r_callV1 (mc := 0) (ms := 0) dX11_unite_24 KX11_142 (c_X11_finishChange hc) g14 (by decide) (Nat.le_of_ble_eq_true rfl) (fun _ _ ⟨_, q, _⟩ => by cases q) ?_
    rintro _ _ ⟨_, q, rfl⟩
    obtain ⟨e9, f9⟩ := inl_inj q; subst e9; subst f9
    clear hc q
    cases E
    exact q_ireturn dX11_unite_27 rfl hK
  · cases E
    refine r_callV1 (mc := 0) (ms := 0) dX11_unite_24 KX11_142 (c_X11_finishChange hc) g14 (by decide) (Nat.le_of_ble_eq_true rfl) (fun _ _ ⟨_, q, n, hn, hk⟩ => by cases q; subst hk; exact hK n hn) ?_
    rintro _ _ ⟨_, q, _⟩
    cases q
theorem c_X11_unite {l : Launch} {G : mG} {p0 : Nat} {v1 : Int32} {v2 : Int32} {v3 : Int32} {h : mH} {o : (Int32 ⊕ String) × mH} (E : f_X11_unite p0 v1 v2 v3 h = some o) : mMet l G m_X11_unite 4 3 264 [.ref p0, .int v1, .int v2, .int v3] h (fun v k => ∃ r, o = (.inl r, k) ∧ v = some (.int r)) (fun e k => ∃ k0, o = (.inr e, k0) ∧ ∃ n, nx k0 ≤ n ∧ k = sn k0 n) := by
  refine mMet_of (by decide +kernel) rfl (ac_c rfl (ac_c rfl (ac_c rfl (ac_c rfl ac_0)))) (Nat.le_of_ble_eq_true rfl) (s_X11_unite_0 p0 v1 v2 v3 h E ?_)
  obtain ⟨r | e, k⟩ := o
  · exact ⟨r, rfl, rfl⟩
  · exact fun n hn => ⟨k, rfl, n, hn, rfl⟩
set_option maxRecDepth 100000 in
set_option maxHeartbeats 4000000 in
theorem s_X11_concatenate_0 {l : Launch} {G : mG} {Q : Option Value → mH → Prop} {X : String → mH → Prop} (p0 : Nat) (v1 : Int32) (v2 : Int32) (v3 : Int32) (h : mH) {o : (Int32 ⊕ String) × mH} (E : f_X11_concatenate p0 v1 v2 v3 h = some o) (hK : (fiIX Q X) o) : mW l G m_X11_concatenate 4 3 264 0 [some (.ref p0), some (.int v1), some (.int v2), some (.int v3)] [] h Q X := by
  unfold f_X11_concatenate at E
  refine q_aload_n dX11_concatenate_0 rfl ?_
  replace E := grd_some E
  obtain ⟨g1, E⟩ := E
  replace E := orf_some E
  obtain ⟨a2, ea2, E⟩ := E
  refine r_getR dX11_concatenate_1 FX11_22 g1 ea2 ?_
  refine q_aload_n dX11_concatenate_4 rfl ?_
  replace E := orf_some E
  obtain ⟨a3, ea3, E⟩ := E
  refine r_getR dX11_concatenate_5 FX11_10 g1 ea3 ?_
  replace E := grd_some E
  obtain ⟨g6, E⟩ := E
  replace E := cal_some E
  obtain ⟨_, h4, hc, E⟩ := E
  refine r_callV1 (mc := 3) (ms := 264) dX11_concatenate_8 KX11_130 (c_X1_prepare hc) g6 (by decide) (Nat.le_of_ble_eq_true rfl) (fun _ _ q => q.elim) ?_
  rintro _ _ ⟨rfl, rfl⟩
  clear hc
  refine q_aload_n dX11_concatenate_11 rfl ?_
  refine q_aload_n dX11_concatenate_12 rfl ?_
  replace E := grd_some E
  obtain ⟨g7, E⟩ := E
  replace E := orf_some E
  obtain ⟨a8, ea8, E⟩ := E
  refine r_getR dX11_concatenate_13 FX11_10 g7 ea8 ?_
  refine q_iload_n dX11_concatenate_16 rfl ?_
  refine q_iload_n dX11_concatenate_17 rfl ?_
  refine q_iload_n dX11_concatenate_18 rfl ?_
  refine q_bipush (v := (Int32.ofInt 46)) dX11_concatenate_19 (by decide) ?_
  replace E := grd_some E
  obtain ⟨g11, E⟩ := E
  replace E := cal_some E
  obtain ⟨x10, h9, hc, E⟩ := E
  refine r_callV4 (mc := 1) (ms := 6) dX11_concatenate_21 KX11_146 (c_X6_putJoined hc) g11 (by decide) (Nat.le_of_ble_eq_true rfl) (fun _ _ q => q.elim) ?_
  rintro _ _ ⟨rfl, rfl⟩
  clear hc
  replace E := grd_some E
  obtain ⟨g14, E⟩ := E
  replace E := calX_some E
  rcases E with ⟨x13, h12, hc, E⟩ | ⟨e, h12, hc, E⟩
  · refine r_callV1 (mc := 0) (ms := 0) dX11_concatenate_24 KX11_142 (c_X11_finishChange hc) g14 (by decide) (Nat.le_of_ble_eq_true rfl) (fun _ _ ⟨_, q, _⟩ => by cases q) ?_
    rintro _ _ ⟨_, q, rfl⟩
    obtain ⟨e9, f9⟩ := inl_inj q; subst e9; subst f9
    clear hc q
    cases E
    exact q_ireturn dX11_concatenate_27 rfl hK
  · cases E
    refine r_callV1 (mc := 0) (ms := 0) dX11_concatenate_24 KX11_142 (c_X11_finishChange hc) g14 (by decide) (Nat.le_of_ble_eq_true rfl) (fun _ _ ⟨_, q, n, hn, hk⟩ => by cases q; subst hk; exact hK n hn) ?_
    rintro _ _ ⟨_, q, _⟩
    cases q
theorem c_X11_concatenate {l : Launch} {G : mG} {p0 : Nat} {v1 : Int32} {v2 : Int32} {v3 : Int32} {h : mH} {o : (Int32 ⊕ String) × mH} (E : f_X11_concatenate p0 v1 v2 v3 h = some o) : mMet l G m_X11_concatenate 4 3 264 [.ref p0, .int v1, .int v2, .int v3] h (fun v k => ∃ r, o = (.inl r, k) ∧ v = some (.int r)) (fun e k => ∃ k0, o = (.inr e, k0) ∧ ∃ n, nx k0 ≤ n ∧ k = sn k0 n) := by
  refine mMet_of (by decide +kernel) rfl (ac_c rfl (ac_c rfl (ac_c rfl (ac_c rfl ac_0)))) (Nat.le_of_ble_eq_true rfl) (s_X11_concatenate_0 p0 v1 v2 v3 h E ?_)
  obtain ⟨r | e, k⟩ := o
  · exact ⟨r, rfl, rfl⟩
  · exact fun n hn => ⟨k, rfl, n, hn, rfl⟩
set_option maxRecDepth 100000 in
set_option maxHeartbeats 4000000 in
theorem s_X11_repeat_0 {l : Launch} {G : mG} {Q : Option Value → mH → Prop} {X : String → mH → Prop} (p0 : Nat) (v1 : Int32) (v2 : Int32) (h : mH) {o : (Int32 ⊕ String) × mH} (E : f_X11_repeat p0 v1 v2 h = some o) (hK : (fiIX Q X) o) : mW l G m_X11_repeat 4 3 264 0 [some (.ref p0), some (.int v1), some (.int v2)] [] h Q X := by
  unfold f_X11_repeat at E
  refine q_aload_n dX11_repeat_0 rfl ?_
  replace E := grd_some E
  obtain ⟨g1, E⟩ := E
  replace E := orf_some E
  obtain ⟨a2, ea2, E⟩ := E
  refine r_getR dX11_repeat_1 FX11_22 g1 ea2 ?_
  refine q_aload_n dX11_repeat_4 rfl ?_
  replace E := orf_some E
  obtain ⟨a3, ea3, E⟩ := E
  refine r_getR dX11_repeat_5 FX11_10 g1 ea3 ?_
  replace E := grd_some E
  obtain ⟨g6, E⟩ := E
  replace E := cal_some E
  obtain ⟨_, h4, hc, E⟩ := E
  refine r_callV1 (mc := 3) (ms := 264) dX11_repeat_8 KX11_130 (c_X1_prepare hc) g6 (by decide) (Nat.le_of_ble_eq_true rfl) (fun _ _ q => q.elim) ?_
  rintro _ _ ⟨rfl, rfl⟩
  clear hc
  refine q_aload_n dX11_repeat_11 rfl ?_
  refine q_aload_n dX11_repeat_12 rfl ?_
  replace E := grd_some E
  obtain ⟨g7, E⟩ := E
  replace E := orf_some E
  obtain ⟨a8, ea8, E⟩ := E
  refine r_getR dX11_repeat_13 FX11_10 g7 ea8 ?_
  refine q_iload_n dX11_repeat_16 rfl ?_
  refine q_iload_n dX11_repeat_17 rfl ?_
  replace E := grd_some E
  obtain ⟨g11, E⟩ := E
  replace E := cal_some E
  obtain ⟨x10, h9, hc, E⟩ := E
  refine r_callV2 (mc := 1) (ms := 6) dX11_repeat_18 KX11_150 (c_X6_putStarred hc) g11 (by decide) (Nat.le_of_ble_eq_true rfl) (fun _ _ q => q.elim) ?_
  rintro _ _ ⟨rfl, rfl⟩
  clear hc
  replace E := grd_some E
  obtain ⟨g14, E⟩ := E
  replace E := calX_some E
  rcases E with ⟨x13, h12, hc, E⟩ | ⟨e, h12, hc, E⟩
  · refine r_callV1 (mc := 0) (ms := 0) dX11_repeat_21 KX11_142 (c_X11_finishChange hc) g14 (by decide) (Nat.le_of_ble_eq_true rfl) (fun _ _ ⟨_, q, _⟩ => by cases q) ?_
    rintro _ _ ⟨_, q, rfl⟩
    obtain ⟨e9, f9⟩ := inl_inj q; subst e9; subst f9
    clear hc q
    cases E
    exact q_ireturn dX11_repeat_24 rfl hK
  · cases E
    refine r_callV1 (mc := 0) (ms := 0) dX11_repeat_21 KX11_142 (c_X11_finishChange hc) g14 (by decide) (Nat.le_of_ble_eq_true rfl) (fun _ _ ⟨_, q, n, hn, hk⟩ => by cases q; subst hk; exact hK n hn) ?_
    rintro _ _ ⟨_, q, _⟩
    cases q
theorem c_X11_repeat {l : Launch} {G : mG} {p0 : Nat} {v1 : Int32} {v2 : Int32} {h : mH} {o : (Int32 ⊕ String) × mH} (E : f_X11_repeat p0 v1 v2 h = some o) : mMet l G m_X11_repeat 4 3 264 [.ref p0, .int v1, .int v2] h (fun v k => ∃ r, o = (.inl r, k) ∧ v = some (.int r)) (fun e k => ∃ k0, o = (.inr e, k0) ∧ ∃ n, nx k0 ≤ n ∧ k = sn k0 n) := by
  refine mMet_of (by decide +kernel) rfl (ac_c rfl (ac_c rfl (ac_c rfl ac_0))) (Nat.le_of_ble_eq_true rfl) (s_X11_repeat_0 p0 v1 v2 h E ?_)
  obtain ⟨r | e, k⟩ := o
  · exact ⟨r, rfl, rfl⟩
  · exact fun n hn => ⟨k, rfl, n, hn, rfl⟩
