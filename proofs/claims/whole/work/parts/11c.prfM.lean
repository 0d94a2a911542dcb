set_option maxRecDepth 100000 in
set_option maxHeartbeats 4000000 in
theorem s_X12_unite_0 {l : Launch} {G : mG} {Q : Option Value → mH → Prop} {X : String → mH → Prop} (p0 : Nat) (v1 : Int32) (v2 : Int32) (v3 : Int32) (h : mH) {o : Int32 × mH} (E : f_X12_unite p0 v1 v2 v3 h = some o) (hK : (fiI Q) o) : mW l G m_X12_unite 5 0 0 0 [some (.ref p0), some (.int v1), some (.int v2), some (.int v3)] [] h Q X := by
  unfold f_X12_unite at E
  refine q_aload_n dX12_unite_0 rfl ?_
  refine q_iload_n dX12_unite_1 rfl ?_
  refine q_iload_n dX12_unite_2 rfl ?_
  refine q_iload_n dX12_unite_3 rfl ?_
  refine q_iconst dX12_unite_4 ?_
  replace E := grd_some E
  obtain ⟨g3, E⟩ := E
  replace E := cal_some E
  obtain ⟨x2, h1, hc, E⟩ := E
  refine r_callV4 (mc := 0) (ms := 0) dX12_unite_5 KX12_221 (c_X12_makes hc) g3 (by decide) (Nat.le_of_ble_eq_true rfl) (fun _ _ q => q.elim) ?_
  rintro _ _ ⟨rfl, rfl⟩
  clear hc
  cases E
  exact q_ireturn dX12_unite_8 rfl hK
theorem c_X12_unite {l : Launch} {G : mG} {p0 : Nat} {v1 : Int32} {v2 : Int32} {v3 : Int32} {h h' : mH} {r : Int32} (E : f_X12_unite p0 v1 v2 v3 h = some (r, h')) : mMet l G m_X12_unite 5 0 0 [.ref p0, .int v1, .int v2, .int v3] h (fun v k => v = some (.int r) ∧ h' = k) (fun _ _ => False) :=
  mMet_of (by decide +kernel) rfl (ac_c rfl (ac_c rfl (ac_c rfl (ac_c rfl ac_0)))) (Nat.le_of_ble_eq_true rfl) (s_X12_unite_0 p0 v1 v2 v3 h E (And.intro rfl rfl))
set_option maxRecDepth 100000 in
set_option maxHeartbeats 4000000 in
theorem s_X12_concatenate_0 {l : Launch} {G : mG} {Q : Option Value → mH → Prop} {X : String → mH → Prop} (p0 : Nat) (v1 : Int32) (v2 : Int32) (v3 : Int32) (h : mH) {o : Int32 × mH} (E : f_X12_concatenate p0 v1 v2 v3 h = some o) (hK : (fiI Q) o) : mW l G m_X12_concatenate 5 0 0 0 [some (.ref p0), some (.int v1), some (.int v2), some (.int v3)] [] h Q X := by
  unfold f_X12_concatenate at E
  refine q_aload_n dX12_concatenate_0 rfl ?_
  refine q_iload_n dX12_concatenate_1 rfl ?_
  refine q_iload_n dX12_concatenate_2 rfl ?_
  refine q_iload_n dX12_concatenate_3 rfl ?_
  refine q_iconst dX12_concatenate_4 ?_
  replace E := grd_some E
  obtain ⟨g3, E⟩ := E
  replace E := cal_some E
  obtain ⟨x2, h1, hc, E⟩ := E
  refine r_callV4 (mc := 0) (ms := 0) dX12_concatenate_5 KX12_221 (c_X12_makes hc) g3 (by decide) (Nat.le_of_ble_eq_true rfl) (fun _ _ q => q.elim) ?_
  rintro _ _ ⟨rfl, rfl⟩
  clear hc
  cases E
  exact q_ireturn dX12_concatenate_8 rfl hK
theorem c_X12_concatenate {l : Launch} {G : mG} {p0 : Nat} {v1 : Int32} {v2 : Int32} {v3 : Int32} {h h' : mH} {r : Int32} (E : f_X12_concatenate p0 v1 v2 v3 h = some (r, h')) : mMet l G m_X12_concatenate 5 0 0 [.ref p0, .int v1, .int v2, .int v3] h (fun v k => v = some (.int r) ∧ h' = k) (fun _ _ => False) :=
  mMet_of (by decide +kernel) rfl (ac_c rfl (ac_c rfl (ac_c rfl (ac_c rfl ac_0)))) (Nat.le_of_ble_eq_true rfl) (s_X12_concatenate_0 p0 v1 v2 v3 h E (And.intro rfl rfl))
set_option maxRecDepth 100000 in
set_option maxHeartbeats 4000000 in
theorem s_X12_notRepeat_14 {l : Launch} {G : mG} {Q : Option Value → mH → Prop} {X : String → mH → Prop} (h : mH) {o : Int32 × mH} (E : g_X12_notRepeat_14  h = some o) (hK : (fiI Q) o) : mW l G m_X12_notRepeat 3 0 0 14 [none, none, none] [] h Q X := by
  unfold g_X12_notRepeat_14 at E
  refine q_iconst dX12_notRepeat_14 ?_
  cases E
  exact q_ireturn dX12_notRepeat_15 rfl hK
set_option maxRecDepth 100000 in
set_option maxHeartbeats 4000000 in
theorem s_X12_notRepeat_54 {l : Launch} {G : mG} {Q : Option Value → mH → Prop} {X : String → mH → Prop} (s0 : Int32) (h : mH) {o : Int32 × mH} (E : g_X12_notRepeat_54 s0 h = some o) (hK : (fiI Q) o) : mW l G m_X12_notRepeat 3 0 0 54 [none, none, none] [.int s0] h Q X := by
  unfold g_X12_notRepeat_54 at E
  cases E
  exact q_ireturn dX12_notRepeat_54 rfl hK
set_option maxRecDepth 100000 in
set_option maxHeartbeats 4000000 in
theorem s_X12_notRepeat_0 {l : Launch} {G : mG} {Q : Option Value → mH → Prop} {X : String → mH → Prop} (p0 : Nat) (v1 : Int32) (v2 : Int32) (h : mH) {o : Int32 × mH} (E : f_X12_notRepeat p0 v1 v2 h = some o) (hK : (fiI Q) o) : mW l G m_X12_notRepeat 3 0 0 0 [some (.ref p0), some (.int v1), some (.int v2)] [] h Q X := by
  unfold f_X12_notRepeat at E
  refine q_iload_n dX12_notRepeat_0 rfl ?_
  replace E := cal_some E
  obtain ⟨x2, h1, hc, E⟩ := E
  refine r_callS1 (mc := 0) (ms := 0) dX12_notRepeat_1 KX12_136 (c_X12_isSlot hc) (by decide) (Nat.le_of_ble_eq_true rfl) (fun _ _ q => q.elim) ?_
  rintro _ _ ⟨rfl, rfl⟩
  clear hc
  refine q_if_eq (tgt := 14) dX12_notRepeat_4 (by decide) (fun z3 => ?_) (fun z3 => ?_)
  · replace E := ite_t E z3
    exact r_fewer [none, none, none] (ls_n (ls_n (ls_n ls_0))) (s_X12_notRepeat_14 h1 E hK)
  · replace E := ite_f E z3
    refine q_iload_n dX12_notRepeat_7 rfl ?_
    replace E := cal_some E
    obtain ⟨x5, h4, hc, E⟩ := E
    refine r_callS1 (mc := 0) (ms := 0) dX12_notRepeat_8 KX12_136 (c_X12_isSlot hc) (by decide) (Nat.le_of_ble_eq_true rfl) (fun _ _ q => q.elim) ?_
    rintro _ _ ⟨rfl, rfl⟩
    clear hc
    refine q_if_ne (tgt := 16) dX12_notRepeat_11 (by decide) (fun z6 => ?_) (fun z6 => ?_)
    · replace E := ite_f E z6
      refine q_aload_n dX12_notRepeat_16 rfl ?_
      refine q_iload_n dX12_notRepeat_17 rfl ?_
      replace E := grd_some E
      obtain ⟨g9, E⟩ := E
      replace E := cal_some E
      obtain ⟨x8, h7, hc, E⟩ := E
      refine r_callV1 (mc := 0) (ms := 0) dX12_notRepeat_18 KX12_211 (c_X12_holds hc) g9 (by decide) (Nat.le_of_ble_eq_true rfl) (fun _ _ q => q.elim) ?_
      rintro _ _ ⟨rfl, rfl⟩
      clear hc
      refine q_if_ne (tgt := 26) dX12_notRepeat_21 (by decide) (fun z10 => ?_) (fun z10 => ?_)
      · replace E := ite_f E z10
        refine q_aload_n dX12_notRepeat_26 rfl ?_
        refine q_iconst dX12_notRepeat_27 ?_
        replace E := grd_some E
        obtain ⟨g11, E⟩ := E
        replace E := bnd_x E
        obtain ⟨h12, eh12, E⟩ := E
        refine r_putI (hh := eh12) dX12_notRepeat_28 FX12_144 g11 rfl rfl ?_
        refine q_aload_n dX12_notRepeat_31 rfl ?_
        refine q_iload_n dX12_notRepeat_32 rfl ?_
        replace E := grd_some E
        obtain ⟨g15, E⟩ := E
        replace E := cal_some E
        obtain ⟨_, h13, hc, E⟩ := E
        refine r_callV1 (mc := 0) (ms := 0) dX12_notRepeat_33 KX12_214 (c_X12_copiesSlot hc) g15 (by decide) (Nat.le_of_ble_eq_true rfl) (fun _ _ q => q.elim) ?_
        rintro _ _ ⟨rfl, rfl⟩
        clear hc
        refine q_aload_n dX12_notRepeat_36 rfl ?_
        refine q_bipush (v := (Int32.ofInt 6)) dX12_notRepeat_37 (by decide) ?_
        replace E := grd_some E
        obtain ⟨g18, E⟩ := E
        replace E := cal_some E
        obtain ⟨_, h16, hc, E⟩ := E
        refine r_callV1 (mc := 0) (ms := 0) dX12_notRepeat_39 KX12_151 (c_X12_adds hc) g18 (by decide) (Nat.le_of_ble_eq_true rfl) (fun _ _ q => q.elim) ?_
        rintro _ _ ⟨rfl, rfl⟩
        clear hc
        refine q_aload_n dX12_notRepeat_42 rfl ?_
        replace E := grd_some E
        obtain ⟨g21, E⟩ := E
        replace E := cal_some E
        obtain ⟨x20, h19, hc, E⟩ := E
        refine r_callV0 (mc := 0) (ms := 0) dX12_notRepeat_43 KX12_202 (c_X12_isTooLarge hc) g21 (by decide) (Nat.le_of_ble_eq_true rfl) (fun _ _ q => q.elim) ?_
        rintro _ _ ⟨rfl, rfl⟩
        clear hc
        refine q_if_eq (tgt := 53) dX12_notRepeat_46 (by decide) (fun z22 => ?_) (fun z22 => ?_)
        · replace E := ite_t E z22
          refine q_iconst dX12_notRepeat_53 ?_
          exact r_fewer [none, none, none] (ls_n (ls_n (ls_n ls_0))) (s_X12_notRepeat_54 (Int32.ofInt 0) h19 E hK)
        · replace E := ite_f E z22
          refine q_iconst dX12_notRepeat_49 ?_
          refine q_goto (tgt := 54) dX12_notRepeat_50 (by decide) ?_
          exact r_fewer [none, none, none] (ls_n (ls_n (ls_n ls_0))) (s_X12_notRepeat_54 (Int32.ofInt 3) h19 E hK)
      · replace E := ite_t E z10
        refine q_iconst dX12_notRepeat_24 ?_
        cases E
        exact q_ireturn dX12_notRepeat_25 rfl hK
    · replace E := ite_t E z6
      exact r_fewer [none, none, none] (ls_n (ls_n (ls_n ls_0))) (s_X12_notRepeat_14 h4 E hK)
theorem c_X12_notRepeat {l : Launch} {G : mG} {p0 : Nat} {v1 : Int32} {v2 : Int32} {h h' : mH} {r : Int32} (E : f_X12_notRepeat p0 v1 v2 h = some (r, h')) : mMet l G m_X12_notRepeat 3 0 0 [.ref p0, .int v1, .int v2] h (fun v k => v = some (.int r) ∧ h' = k) (fun _ _ => False) :=
  mMet_of (by decide +kernel) rfl (ac_c rfl (ac_c rfl (ac_c rfl ac_0))) (Nat.le_of_ble_eq_true rfl) (s_X12_notRepeat_0 p0 v1 v2 h E (And.intro rfl rfl))
set_option maxRecDepth 100000 in
set_option maxHeartbeats 4000000 in
theorem s_X12_repeat_0 {l : Launch} {G : mG} {Q : Option Value → mH → Prop} {X : String → mH → Prop} (p0 : Nat) (v1 : Int32) (v2 : Int32) (h : mH) {o : Int32 × mH} (E : f_X12_repeat p0 v1 v2 h = some o) (hK : (fiI Q) o) : mW l G m_X12_repeat 4 0 0 0 [some (.ref p0), some (.int v1), some (.int v2), none] [] h Q X := by
  unfold f_X12_repeat at E
  refine q_aload_n dX12_repeat_0 rfl ?_
  refine q_iconst dX12_repeat_1 ?_
  replace E := grd_some E
  obtain ⟨g1, E⟩ := E
  replace E := bnd_x E
  obtain ⟨h2, eh2, E⟩ := E
  refine r_putI (hh := eh2) dX12_repeat_2 FX12_117 g1 rfl rfl ?_
  refine q_aload_n dX12_repeat_5 rfl ?_
  refine q_iload_n dX12_repeat_6 rfl ?_
  refine q_iload_n dX12_repeat_7 rfl ?_
  replace E := grd_some E
  obtain ⟨g5, E⟩ := E
  replace E := cal_some E
  obtain ⟨x4, h3, hc, E⟩ := E
  refine r_callV2 (mc := 0) (ms := 0) dX12_repeat_8 KX12_224 (c_X12_notRepeat hc) g5 (by decide) (Nat.le_of_ble_eq_true rfl) (fun _ _ q => q.elim) ?_
  rintro _ _ ⟨rfl, rfl⟩
  clear hc
  refine r_istore_n dX12_repeat_11 (by decide) rfl (ls' := [some (.ref p0), some (.int v1), some (.int v2), some (.int x4)]) rfl ?_
  refine q_iload_n dX12_repeat_12 rfl ?_
  refine q_if_eq (tgt := 22) dX12_repeat_13 (by decide) (fun z6 => ?_) (fun z6 => ?_)
  · replace E := ite_t E z6
    refine q_aload_n dX12_repeat_22 rfl ?_
    replace E := grd_some E
    obtain ⟨g9, E⟩ := E
    replace E := cal_some E
    obtain ⟨_, h7, hc, E⟩ := E
    refine r_callV0 (mc := 0) (ms := 0) dX12_repeat_23 KX12_205 (c_X12_remembers hc) g9 (by decide) (Nat.le_of_ble_eq_true rfl) (fun _ _ q => q.elim) ?_
    rintro _ _ ⟨rfl, rfl⟩
    clear hc
    refine q_aload_n dX12_repeat_26 rfl ?_
    refine q_iload_n dX12_repeat_27 rfl ?_
    replace E := grd_some E
    obtain ⟨g12, E⟩ := E
    replace E := cal_some E
    obtain ⟨x11, h10, hc, E⟩ := E
    refine r_callV1 (mc := 0) (ms := 0) dX12_repeat_28 KX12_208 (c_X12_lays hc) g12 (by decide) (Nat.le_of_ble_eq_true rfl) (fun _ _ q => q.elim) ?_
    rintro _ _ ⟨rfl, rfl⟩
    clear hc
    cases E
    exact q_ireturn dX12_repeat_31 rfl hK
  · replace E := ite_f E z6
    refine q_aload_n dX12_repeat_16 rfl ?_
    refine q_iload_n dX12_repeat_17 rfl ?_
    replace E := grd_some E
    obtain ⟨g15, E⟩ := E
    replace E := cal_some E
    obtain ⟨x14, h13, hc, E⟩ := E
    refine r_callV1 (mc := 0) (ms := 0) dX12_repeat_18 KX12_196 (c_X12_fails hc) g15 (by decide) (Nat.le_of_ble_eq_true rfl) (fun _ _ q => q.elim) ?_
    rintro _ _ ⟨rfl, rfl⟩
    clear hc
    cases E
    exact q_ireturn dX12_repeat_21 rfl hK
theorem c_X12_repeat {l : Launch} {G : mG} {p0 : Nat} {v1 : Int32} {v2 : Int32} {h h' : mH} {r : Int32} (E : f_X12_repeat p0 v1 v2 h = some (r, h')) : mMet l G m_X12_repeat 4 0 0 [.ref p0, .int v1, .int v2] h (fun v k => v = some (.int r) ∧ h' = k) (fun _ _ => False) :=
  mMet_of (by decide +kernel) rfl (ac_c rfl (ac_c rfl (ac_c rfl ac_0))) (Nat.le_of_ble_eq_true rfl) (s_X12_repeat_0 p0 v1 v2 h E (And.intro rfl rfl))
set_option maxRecDepth 100000 in
set_option maxHeartbeats 4000000 in
theorem s_X12_patterns_24 {l : Launch} {G : mG} {Q : Option Value → mH → Prop} {X : String → mH → Prop} (p0 : Nat) (v2 : Int32) (s0 : Int32) (s1 : Int32) (h : mH) {o : ((Int32 × Int32 × mH) ⊕ (Int32 × mH))} (E : g_X12_patterns_24 p0 v2 s0 s1 h = some o) (hK : (lpK (w_X12_patterns_4 l G Q X p0) (fiI Q)) o) : mW l G m_X12_patterns 1 0 0 24 [some (.ref p0), none, some (.int v2)] [.int s0, .int s1] h Q X := by
  unfold g_X12_patterns_24 at E
  refine q_iadd dX12_patterns_24 ?_
  replace E := bnd_x E
  obtain ⟨x1, ex1, E⟩ := E
  refine r_istore_n dX12_patterns_25 (by decide) ex1 (ls' := [some (.ref p0), some (.int x1), some (.int v2)]) rfl ?_
  replace E := bnd_x E
  obtain ⟨x2, ex2, E⟩ := E
  refine r_iinc (v := x2) dX12_patterns_26 rfl ex2 (by decide) (ls' := [some (.ref p0), some (.int x1), some (.int x2)]) rfl ?_
  refine q_goto (tgt := 4) dX12_patterns_29 (by decide) ?_
  cases E
  exact r_fewer [some (.ref p0), some (.int x1), some (.int x2)] (ls_s (ls_s (ls_s ls_0))) hK
set_option maxRecDepth 100000 in
set_option maxHeartbeats 4000000 in
theorem sb_X12_patterns_4 {l : Launch} {G : mG} {Q : Option Value → mH → Prop} {X : String → mH → Prop} (p0 : Nat) (v1 : Int32) (v2 : Int32) (h : mH) {o : ((Int32 × Int32 × mH) ⊕ (Int32 × mH))} (E : b0_X12_patterns_4 p0 v1 v2 h = some o) (hK : (lpK (w_X12_patterns_4 l G Q X p0) (fiI Q)) o) : mW l G m_X12_patterns 1 0 0 4 [some (.ref p0), some (.int v1), some (.int v2)] [] h Q X := by
  unfold b0_X12_patterns_4 at E
  refine q_iload_n dX12_patterns_4 rfl ?_
  refine q_bipush (v := (Int32.ofInt 6)) dX12_patterns_5 (by decide) ?_
  refine q_icmp_ge (tgt := 32) dX12_patterns_7 (by decide) (fun z1 => ?_) (fun z1 => ?_)
  · replace E := ite_t E z1
    refine q_iload_n dX12_patterns_32 rfl ?_
    cases E
    exact q_ireturn dX12_patterns_33 rfl hK
  · replace E := ite_f E z1
    refine q_iload_n dX12_patterns_10 rfl ?_
    refine q_aload_n dX12_patterns_11 rfl ?_
    refine q_iload_n dX12_patterns_12 rfl ?_
    replace E := grd_some E
    obtain ⟨g4, E⟩ := E
    replace E := cal_some E
    obtain ⟨x3, h2, hc, E⟩ := E
    refine r_callV1 (mc := 0) (ms := 0) dX12_patterns_13 KX12_140 (c_X12_length hc) g4 (by decide) (Nat.le_of_ble_eq_true rfl) (fun _ _ q => q.elim) ?_
    rintro _ _ ⟨rfl, rfl⟩
    clear hc
    refine q_if_le (tgt := 23) dX12_patterns_16 (by decide) (fun z5 => ?_) (fun z5 => ?_)
    · replace E := ite_t E z5
      refine q_iconst dX12_patterns_23 ?_
      exact r_fewer [some (.ref p0), none, some (.int v2)] (ls_s (ls_n (ls_s ls_0))) (s_X12_patterns_24 p0 v2 (Int32.ofInt 0) v1 h2 E hK)
    · replace E := ite_f E z5
      refine q_iconst dX12_patterns_19 ?_
      refine q_goto (tgt := 24) dX12_patterns_20 (by decide) ?_
      exact r_fewer [some (.ref p0), none, some (.int v2)] (ls_s (ls_n (ls_s ls_0))) (s_X12_patterns_24 p0 v2 (Int32.ofInt 1) v1 h2 E hK)
theorem s_X12_patterns_4 {l : Launch} {G : mG} {Q : Option Value → mH → Prop} {X : String → mH → Prop} (p0 : Nat) (v1 : Int32) (v2 : Int32) (h : mH) {o : Int32 × mH} (E : g_X12_patterns_4 p0 v1 v2 h = some o) (hK : (fiI Q) o) : mW l G m_X12_patterns 1 0 0 4 [some (.ref p0), some (.int v1), some (.int v2)] [] h Q X :=
  (lp_go (w_X12_patterns_4 l G Q X p0) (fiI Q) (b_X12_patterns_4 p0) (fun s o E hK => sb_X12_patterns_4 p0 s.1 s.2.1 (s.2.2) E hK) _ _ _ E hK : w_X12_patterns_4 l G Q X p0 (v1, v2, h))
set_option maxRecDepth 100000 in
set_option maxHeartbeats 4000000 in
theorem s_X12_patterns_0 {l : Launch} {G : mG} {Q : Option Value → mH → Prop} {X : String → mH → Prop} (p0 : Nat) (h : mH) {o : Int32 × mH} (E : f_X12_patterns p0 h = some o) (hK : (fiI Q) o) : mW l G m_X12_patterns 1 0 0 0 [some (.ref p0), none, none] [] h Q X := by
  unfold f_X12_patterns at E
  refine q_iconst dX12_patterns_0 ?_
  refine r_istore_n dX12_patterns_1 (by decide) rfl (ls' := [some (.ref p0), some (.int (Int32.ofInt 0)), none]) rfl ?_
  refine q_iconst dX12_patterns_2 ?_
  refine r_istore_n dX12_patterns_3 (by decide) rfl (ls' := [some (.ref p0), some (.int (Int32.ofInt 0)), some (.int (Int32.ofInt 0))]) rfl ?_
  exact r_fewer [some (.ref p0), some (.int (Int32.ofInt 0)), some (.int (Int32.ofInt 0))] (ls_s (ls_s (ls_s ls_0))) (s_X12_patterns_4 p0 (Int32.ofInt 0) (Int32.ofInt 0) h E hK)
theorem c_X12_patterns {l : Launch} {G : mG} {p0 : Nat} {h h' : mH} {r : Int32} (E : f_X12_patterns p0 h = some (r, h')) : mMet l G m_X12_patterns 1 0 0 [.ref p0] h (fun v k => v = some (.int r) ∧ h' = k) (fun _ _ => False) :=
  mMet_of (by decide +kernel) rfl (ac_c rfl ac_0) (Nat.le_of_ble_eq_true rfl) (s_X12_patterns_0 p0 h E (And.intro rfl rfl))
set_option maxRecDepth 100000 in
set_option maxHeartbeats 4000000 in
theorem s_X12_notRemove_22 {l : Launch} {G : mG} {Q : Option Value → mH → Prop} {X : String → mH → Prop} (s0 : Int32) (h : mH) {o : Int32 × mH} (E : g_X12_notRemove_22 s0 h = some o) (hK : (fiI Q) o) : mW l G m_X12_notRemove 3 0 0 22 [none, none] [.int s0] h Q X := by
  unfold g_X12_notRemove_22 at E
  cases E
  exact q_ireturn dX12_notRemove_22 rfl hK
set_option maxRecDepth 100000 in
set_option maxHeartbeats 4000000 in
theorem s_X12_notRemove_0 {l : Launch} {G : mG} {Q : Option Value → mH → Prop} {X : String → mH → Prop} (p0 : Nat) (v1 : Int32) (h : mH) {o : Int32 × mH} (E : f_X12_notRemove p0 v1 h = some o) (hK : (fiI Q) o) : mW l G m_X12_notRemove 3 0 0 0 [some (.ref p0), some (.int v1)] [] h Q X := by
  unfold f_X12_notRemove at E
  refine q_iload_n dX12_notRemove_0 rfl ?_
  replace E := cal_some E
  obtain ⟨x2, h1, hc, E⟩ := E
  refine r_callS1 (mc := 0) (ms := 0) dX12_notRemove_1 KX12_136 (c_X12_isSlot hc) (by decide) (Nat.le_of_ble_eq_true rfl) (fun _ _ q => q.elim) ?_
  rintro _ _ ⟨rfl, rfl⟩
  clear hc
  refine q_if_ne (tgt := 9) dX12_notRemove_4 (by decide) (fun z3 => ?_) (fun z3 => ?_)
  · replace E := ite_f E z3
    refine q_aload_n dX12_notRemove_9 rfl ?_
    refine q_iload_n dX12_notRemove_10 rfl ?_
    replace E := grd_some E
    obtain ⟨g6, E⟩ := E
    replace E := cal_some E
    obtain ⟨x5, h4, hc, E⟩ := E
    refine r_callV1 (mc := 0) (ms := 0) dX12_notRemove_11 KX12_211 (c_X12_holds hc) g6 (by decide) (Nat.le_of_ble_eq_true rfl) (fun _ _ q => q.elim) ?_
    rintro _ _ ⟨rfl, rfl⟩
    clear hc
    refine q_if_eq (tgt := 21) dX12_notRemove_14 (by decide) (fun z7 => ?_) (fun z7 => ?_)
    · replace E := ite_t E z7
      refine q_iconst dX12_notRemove_21 ?_
      exact r_fewer [none, none] (ls_n (ls_n ls_0)) (s_X12_notRemove_22 (Int32.ofInt 2) h4 E hK)
    · replace E := ite_f E z7
      refine q_iconst dX12_notRemove_17 ?_
      refine q_goto (tgt := 22) dX12_notRemove_18 (by decide) ?_
      exact r_fewer [none, none] (ls_n (ls_n ls_0)) (s_X12_notRemove_22 (Int32.ofInt 0) h4 E hK)
  · replace E := ite_t E z3
    refine q_iconst dX12_notRemove_7 ?_
    cases E
    exact q_ireturn dX12_notRemove_8 rfl hK
theorem c_X12_notRemove {l : Launch} {G : mG} {p0 : Nat} {v1 : Int32} {h h' : mH} {r : Int32} (E : f_X12_notRemove p0 v1 h = some (r, h')) : mMet l G m_X12_notRemove 3 0 0 [.ref p0, .int v1] h (fun v k => v = some (.int r) ∧ h' = k) (fun _ _ => False) :=
  mMet_of (by decide +kernel) rfl (ac_c rfl (ac_c rfl ac_0)) (Nat.le_of_ble_eq_true rfl) (s_X12_notRemove_0 p0 v1 h E (And.intro rfl rfl))
set_option maxRecDepth 100000 in
set_option maxHeartbeats 4000000 in
theorem sb_X12_removes_2 {l : Launch} {G : mG} {Q : Option Value → mH → Prop} {X : String → mH → Prop} (p0 : Nat) (v1 : Int32) (v2 : Int32) (h : mH) {o : ((Int32 × mH) ⊕ (Int32 × mH))} (E : b0_X12_removes_2 p0 v1 v2 h = some o) (hK : (lpK (w_X12_removes_2 l G Q X p0 v1) (fiI Q)) o) : mW l G m_X12_removes 2 0 0 2 [some (.ref p0), some (.int v1), some (.int v2)] [] h Q X := by
  unfold b0_X12_removes_2 at E
  refine q_iload_n dX12_removes_2 rfl ?_
  refine q_bipush (v := (Int32.ofInt 29)) dX12_removes_3 (by decide) ?_
  refine q_icmp_ge (tgt := 28) dX12_removes_5 (by decide) (fun z1 => ?_) (fun z1 => ?_)
  · replace E := ite_t E z1
    refine q_aload_n dX12_removes_28 rfl ?_
    replace E := grd_some E
    obtain ⟨g4, E⟩ := E
    replace E := cal_some E
    obtain ⟨x3, h2, hc, E⟩ := E
    refine r_callV0 (mc := 0) (ms := 0) dX12_removes_29 KX12_227 (c_X12_patterns hc) g4 (by decide) (Nat.le_of_ble_eq_true rfl) (fun _ _ q => q.elim) ?_
    rintro _ _ ⟨rfl, rfl⟩
    clear hc
    cases E
    exact q_ireturn dX12_removes_32 rfl hK
  · replace E := ite_f E z1
    refine q_aload_n dX12_removes_8 rfl ?_
    replace E := grd_some E
    obtain ⟨g5, E⟩ := E
    replace E := orf_some E
    obtain ⟨a6, ea6, E⟩ := E
    refine r_getR dX12_removes_9 FX12_7 g5 ea6 ?_
    refine q_iconst dX12_removes_12 ?_
    refine q_bipush (v := (Int32.ofInt 29)) dX12_removes_13 (by decide) ?_
    refine q_iload_n dX12_removes_15 rfl ?_
    refine q_imul dX12_removes_16 ?_
    refine q_iadd dX12_removes_17 ?_
    refine q_iload_n dX12_removes_18 rfl ?_
    refine q_iadd dX12_removes_19 ?_
    refine q_iconst dX12_removes_20 ?_
    replace E := grd_some E
    obtain ⟨g8, E⟩ := E
    replace E := grd_some E
    obtain ⟨g9, E⟩ := E
    replace E := bnd_x E
    obtain ⟨h7, eh7, E⟩ := E
    refine r_iastore (hh := eh7) dX12_removes_21 g8 g9 ?_
    replace E := bnd_x E
    obtain ⟨x10, ex10, E⟩ := E
    refine r_iinc (v := x10) dX12_removes_22 rfl ex10 (by decide) (ls' := [some (.ref p0), some (.int v1), some (.int x10)]) rfl ?_
    refine q_goto (tgt := 2) dX12_removes_25 (by decide) ?_
    cases E
    exact r_fewer [some (.ref p0), some (.int v1), some (.int x10)] (ls_s (ls_s (ls_s ls_0))) hK
theorem s_X12_removes_2 {l : Launch} {G : mG} {Q : Option Value → mH → Prop} {X : String → mH → Prop} (p0 : Nat) (v1 : Int32) (v2 : Int32) (h : mH) {o : Int32 × mH} (E : g_X12_removes_2 p0 v1 v2 h = some o) (hK : (fiI Q) o) : mW l G m_X12_removes 2 0 0 2 [some (.ref p0), some (.int v1), some (.int v2)] [] h Q X :=
  (lp_go (w_X12_removes_2 l G Q X p0 v1) (fiI Q) (b_X12_removes_2 p0 v1) (fun s o E hK => sb_X12_removes_2 p0 v1 s.1 (s.2) E hK) _ _ _ E hK : w_X12_removes_2 l G Q X p0 v1 (v2, h))
set_option maxRecDepth 100000 in
set_option maxHeartbeats 4000000 in
theorem s_X12_removes_0 {l : Launch} {G : mG} {Q : Option Value → mH → Prop} {X : String → mH → Prop} (p0 : Nat) (v1 : Int32) (h : mH) {o : Int32 × mH} (E : f_X12_removes p0 v1 h = some o) (hK : (fiI Q) o) : mW l G m_X12_removes 2 0 0 0 [some (.ref p0), some (.int v1), none] [] h Q X := by
  unfold f_X12_removes at E
  refine q_iconst dX12_removes_0 ?_
  refine r_istore_n dX12_removes_1 (by decide) rfl (ls' := [some (.ref p0), some (.int v1), some (.int (Int32.ofInt 0))]) rfl ?_
  exact r_fewer [some (.ref p0), some (.int v1), some (.int (Int32.ofInt 0))] (ls_s (ls_s (ls_s ls_0))) (s_X12_removes_2 p0 v1 (Int32.ofInt 0) h E hK)
theorem c_X12_removes {l : Launch} {G : mG} {p0 : Nat} {v1 : Int32} {h h' : mH} {r : Int32} (E : f_X12_removes p0 v1 h = some (r, h')) : mMet l G m_X12_removes 2 0 0 [.ref p0, .int v1] h (fun v k => v = some (.int r) ∧ h' = k) (fun _ _ => False) :=
  mMet_of (by decide +kernel) rfl (ac_c rfl (ac_c rfl ac_0)) (Nat.le_of_ble_eq_true rfl) (s_X12_removes_0 p0 v1 h E (And.intro rfl rfl))
set_option maxRecDepth 100000 in
set_option maxHeartbeats 4000000 in
theorem s_X12_remove_0 {l : Launch} {G : mG} {Q : Option Value → mH → Prop} {X : String → mH → Prop} (p0 : Nat) (v1 : Int32) (h : mH) {o : Int32 × mH} (E : f_X12_remove p0 v1 h = some o) (hK : (fiI Q) o) : mW l G m_X12_remove 4 0 0 0 [some (.ref p0), some (.int v1), none] [] h Q X := by
  unfold f_X12_remove at E
  refine q_aload_n dX12_remove_0 rfl ?_
  refine q_iconst dX12_remove_1 ?_
  replace E := grd_some E
  obtain ⟨g1, E⟩ := E
  replace E := bnd_x E
  obtain ⟨h2, eh2, E⟩ := E
  refine r_putI (hh := eh2) dX12_remove_2 FX12_117 g1 rfl rfl ?_
  refine q_aload_n dX12_remove_5 rfl ?_
  refine q_iload_n dX12_remove_6 rfl ?_
  replace E := grd_some E
  obtain ⟨g5, E⟩ := E
  replace E := cal_some E
  obtain ⟨x4, h3, hc, E⟩ := E
  refine r_callV1 (mc := 0) (ms := 0) dX12_remove_7 KX12_230 (c_X12_notRemove hc) g5 (by decide) (Nat.le_of_ble_eq_true rfl) (fun _ _ q => q.elim) ?_
  rintro _ _ ⟨rfl, rfl⟩
  clear hc
  refine r_istore_n dX12_remove_10 (by decide) rfl (ls' := [some (.ref p0), some (.int v1), some (.int x4)]) rfl ?_
  refine q_iload_n dX12_remove_11 rfl ?_
  refine q_if_eq (tgt := 21) dX12_remove_12 (by decide) (fun z6 => ?_) (fun z6 => ?_)
  · replace E := ite_t E z6
    refine q_aload_n dX12_remove_21 rfl ?_
    replace E := grd_some E
    obtain ⟨g9, E⟩ := E
    replace E := cal_some E
    obtain ⟨_, h7, hc, E⟩ := E
    refine r_callV0 (mc := 0) (ms := 0) dX12_remove_22 KX12_205 (c_X12_remembers hc) g9 (by decide) (Nat.le_of_ble_eq_true rfl) (fun _ _ q => q.elim) ?_
    rintro _ _ ⟨rfl, rfl⟩
    clear hc
    refine q_aload_n dX12_remove_25 rfl ?_
    refine q_iload_n dX12_remove_26 rfl ?_
    replace E := grd_some E
    obtain ⟨g12, E⟩ := E
    replace E := cal_some E
    obtain ⟨x11, h10, hc, E⟩ := E
    refine r_callV1 (mc := 0) (ms := 0) dX12_remove_27 KX12_233 (c_X12_removes hc) g12 (by decide) (Nat.le_of_ble_eq_true rfl) (fun _ _ q => q.elim) ?_
    rintro _ _ ⟨rfl, rfl⟩
    clear hc
    cases E
    exact q_ireturn dX12_remove_30 rfl hK
  · replace E := ite_f E z6
    refine q_aload_n dX12_remove_15 rfl ?_
    refine q_iload_n dX12_remove_16 rfl ?_
    replace E := grd_some E
    obtain ⟨g15, E⟩ := E
    replace E := cal_some E
    obtain ⟨x14, h13, hc, E⟩ := E
    refine r_callV1 (mc := 0) (ms := 0) dX12_remove_17 KX12_196 (c_X12_fails hc) g15 (by decide) (Nat.le_of_ble_eq_true rfl) (fun _ _ q => q.elim) ?_
    rintro _ _ ⟨rfl, rfl⟩
    clear hc
    cases E
    exact q_ireturn dX12_remove_20 rfl hK
theorem c_X12_remove {l : Launch} {G : mG} {p0 : Nat} {v1 : Int32} {h h' : mH} {r : Int32} (E : f_X12_remove p0 v1 h = some (r, h')) : mMet l G m_X12_remove 4 0 0 [.ref p0, .int v1] h (fun v k => v = some (.int r) ∧ h' = k) (fun _ _ => False) :=
  mMet_of (by decide +kernel) rfl (ac_c rfl (ac_c rfl ac_0)) (Nat.le_of_ble_eq_true rfl) (s_X12_remove_0 p0 v1 h E (And.intro rfl rfl))
set_option maxRecDepth 100000 in
set_option maxHeartbeats 4000000 in
theorem sb_X12_takesWord_12 {l : Launch} {G : mG} {Q : Option Value → mH → Prop} {X : String → mH → Prop} (p0 : Nat) (v1 : Int32) (v2 : Int32) (v3 : Int32) (v4 : Int32) (h : mH) {o : ((Int32 × Int32 × mH) ⊕ (Int32 × mH))} (E : b0_X12_takesWord_12 p0 v1 v2 v3 v4 h = some o) (hK : (lpK (w_X12_takesWord_12 l G Q X p0 v1 v2) (fiI Q)) o) : mW l G m_X12_takesWord 1 0 0 12 [some (.ref p0), some (.int v1), some (.int v2), some (.int v3), some (.int v4)] [] h Q X := by
  unfold b0_X12_takesWord_12 at E
  refine q_iload dX12_takesWord_12 rfl ?_
  refine q_iload_n dX12_takesWord_14 rfl ?_
  refine q_icmp_ge (tgt := 60) dX12_takesWord_15 (by decide) (fun z1 => ?_) (fun z1 => ?_)
  · replace E := ite_t E z1
    refine q_iload_n dX12_takesWord_60 rfl ?_
    replace E := grd_some E
    obtain ⟨g2, E⟩ := E
    cases E
    exact q_zreturn dX12_takesWord_61 rfl (narZ g2) hK
  · replace E := ite_f E z1
    refine q_aload_n dX12_takesWord_18 rfl ?_
    replace E := grd_some E
    obtain ⟨g3, E⟩ := E
    replace E := orf_some E
    obtain ⟨a4, ea4, E⟩ := E
    refine r_getR dX12_takesWord_19 FX12_39 g3 ea4 ?_
    refine q_iload dX12_takesWord_22 rfl ?_
    refine q_iload_n dX12_takesWord_24 rfl ?_
    refine q_isub dX12_takesWord_25 ?_
    refine q_aload_n dX12_takesWord_26 rfl ?_
    replace E := orf_some E
    obtain ⟨a5, ea5, E⟩ := E
    refine r_getR dX12_takesWord_27 FX12_25 g3 ea5 ?_
    refine q_iload dX12_takesWord_30 rfl ?_
    replace E := grd_some E
    obtain ⟨g6, E⟩ := E
    replace E := grd_some E
    obtain ⟨g7, E⟩ := E
    refine r_caload dX12_takesWord_32 g6 g7 ?_
    refine q_bipush (v := (Int32.ofInt 97)) dX12_takesWord_33 (by decide) ?_
    refine q_isub dX12_takesWord_35 ?_
    replace E := grd_some E
    obtain ⟨g9, E⟩ := E
    replace E := grd_some E
    obtain ⟨g10, E⟩ := E
    replace E := bnd_x E
    obtain ⟨h8, eh8, E⟩ := E
    refine r_iastore (hh := eh8) dX12_takesWord_36 g9 g10 ?_
    refine q_iload_n dX12_takesWord_37 rfl ?_
    refine q_aload_n dX12_takesWord_38 rfl ?_
    replace E := grd_some E
    obtain ⟨g11, E⟩ := E
    replace E := orf_some E
    obtain ⟨a12, ea12, E⟩ := E
    refine r_getR dX12_takesWord_39 FX12_25 g11 ea12 ?_
    refine q_iload dX12_takesWord_42 rfl ?_
    replace E := grd_some E
    obtain ⟨g13, E⟩ := E
    replace E := grd_some E
    obtain ⟨g14, E⟩ := E
    refine r_caload dX12_takesWord_44 g13 g14 ?_
    refine q_bipush (v := (Int32.ofInt 97)) dX12_takesWord_45 (by decide) ?_
    refine q_bipush (v := (Int32.ofInt 99)) dX12_takesWord_47 (by decide) ?_
    replace E := cal_some E
    obtain ⟨x16, h15, hc, E⟩ := E
    refine r_callS3 (mc := 0) (ms := 0) dX12_takesWord_49 KX12_132 (c_X12_isBetween hc) (by decide) (Nat.le_of_ble_eq_true rfl) (fun _ _ q => q.elim) ?_
    rintro _ _ ⟨rfl, rfl⟩
    clear hc
    refine q_iand dX12_takesWord_52 ?_
    replace E := bnd_x E
    obtain ⟨x17, ex17, E⟩ := E
    refine r_istore_n dX12_takesWord_53 (by decide) ex17 (ls' := [some (.ref p0), some (.int v1), some (.int v2), some (.int x17), some (.int v4)]) rfl ?_
    replace E := bnd_x E
    obtain ⟨x18, ex18, E⟩ := E
    refine r_iinc (v := x18) dX12_takesWord_54 rfl ex18 (by decide) (ls' := [some (.ref p0), some (.int v1), some (.int v2), some (.int x17), some (.int x18)]) rfl ?_
    refine q_goto (tgt := 12) dX12_takesWord_57 (by decide) ?_
    cases E
    exact r_fewer [some (.ref p0), some (.int v1), some (.int v2), some (.int x17), some (.int x18)] (ls_s (ls_s (ls_s (ls_s (ls_s ls_0))))) hK
theorem s_X12_takesWord_12 {l : Launch} {G : mG} {Q : Option Value → mH → Prop} {X : String → mH → Prop} (p0 : Nat) (v1 : Int32) (v2 : Int32) (v3 : Int32) (v4 : Int32) (h : mH) {o : Int32 × mH} (E : g_X12_takesWord_12 p0 v1 v2 v3 v4 h = some o) (hK : (fiI Q) o) : mW l G m_X12_takesWord 1 0 0 12 [some (.ref p0), some (.int v1), some (.int v2), some (.int v3), some (.int v4)] [] h Q X :=
  (lp_go (w_X12_takesWord_12 l G Q X p0 v1 v2) (fiI Q) (b_X12_takesWord_12 p0 v1 v2) (fun s o E hK => sb_X12_takesWord_12 p0 v1 v2 s.1 s.2.1 (s.2.2) E hK) _ _ _ E hK : w_X12_takesWord_12 l G Q X p0 v1 v2 (v3, v4, h))
set_option maxRecDepth 100000 in
set_option maxHeartbeats 4000000 in
theorem s_X12_takesWord_0 {l : Launch} {G : mG} {Q : Option Value → mH → Prop} {X : String → mH → Prop} (p0 : Nat) (v1 : Int32) (v2 : Int32) (h : mH) {o : Int32 × mH} (E : f_X12_takesWord p0 v1 v2 h = some o) (hK : (fiI Q) o) : mW l G m_X12_takesWord 1 0 0 0 [some (.ref p0), some (.int v1), some (.int v2), none, none] [] h Q X := by
  unfold f_X12_takesWord at E
  refine q_aload_n dX12_takesWord_0 rfl ?_
  refine q_iload_n dX12_takesWord_1 rfl ?_
  refine q_iload_n dX12_takesWord_2 rfl ?_
  refine q_isub dX12_takesWord_3 ?_
  replace E := grd_some E
  obtain ⟨g1, E⟩ := E
  replace E := bnd_x E
  obtain ⟨h2, eh2, E⟩ := E
  refine r_putI (hh := eh2) dX12_takesWord_4 FX12_236 g1 rfl rfl ?_
  refine q_iconst dX12_takesWord_7 ?_
  refine r_istore_n dX12_takesWord_8 (by decide) rfl (ls' := [some (.ref p0), some (.int v1), some (.int v2), some (.int (Int32.ofInt 1)), none]) rfl ?_
  refine q_iload_n dX12_takesWord_9 rfl ?_
  refine r_istore dX12_takesWord_10 (by decide) rfl (ls' := [some (.ref p0), some (.int v1), some (.int v2), some (.int (Int32.ofInt 1)), some (.int v1)]) rfl ?_
  exact r_fewer [some (.ref p0), some (.int v1), some (.int v2), some (.int (Int32.ofInt 1)), some (.int v1)] (ls_s (ls_s (ls_s (ls_s (ls_s ls_0))))) (s_X12_takesWord_12 p0 v1 v2 (Int32.ofInt 1) v1 h2 E hK)
theorem c_X12_takesWord {l : Launch} {G : mG} {p0 : Nat} {v1 : Int32} {v2 : Int32} {h h' : mH} {r : Int32} (E : f_X12_takesWord p0 v1 v2 h = some (r, h')) : mMet l G m_X12_takesWord 1 0 0 [.ref p0, .int v1, .int v2] h (fun v k => v = some (.int r) ∧ h' = k) (fun _ _ => False) :=
  mMet_of (by decide +kernel) rfl (ac_c rfl (ac_c rfl (ac_c rfl ac_0))) (Nat.le_of_ble_eq_true rfl) (s_X12_takesWord_0 p0 v1 v2 h E (And.intro rfl rfl))
set_option maxRecDepth 100000 in
set_option maxHeartbeats 4000000 in
theorem s_X12_notWord_17 {l : Launch} {G : mG} {Q : Option Value → mH → Prop} {X : String → mH → Prop} (h : mH) {o : Int32 × mH} (E : g_X12_notWord_17  h = some o) (hK : (fiI Q) o) : mW l G m_X12_notWord 1 0 0 17 [none, none] [] h Q X := by
  unfold g_X12_notWord_17 at E
  refine q_iconst dX12_notWord_17 ?_
  cases E
  exact q_ireturn dX12_notWord_18 rfl hK
set_option maxRecDepth 100000 in
set_option maxHeartbeats 4000000 in
theorem s_X12_notWord_35 {l : Launch} {G : mG} {Q : Option Value → mH → Prop} {X : String → mH → Prop} (s0 : Int32) (h : mH) {o : Int32 × mH} (E : g_X12_notWord_35 s0 h = some o) (hK : (fiI Q) o) : mW l G m_X12_notWord 1 0 0 35 [none, none] [.int s0] h Q X := by
  unfold g_X12_notWord_35 at E
  cases E
  exact q_ireturn dX12_notWord_35 rfl hK
set_option maxRecDepth 100000 in
set_option maxHeartbeats 4000000 in
theorem s_X12_notWord_0 {l : Launch} {G : mG} {Q : Option Value → mH → Prop} {X : String → mH → Prop} (p0 : Nat) (v1 : Int32) (h : mH) {o : Int32 × mH} (E : f_X12_notWord p0 v1 h = some o) (hK : (fiI Q) o) : mW l G m_X12_notWord 1 0 0 0 [some (.ref p0), some (.int v1)] [] h Q X := by
  unfold f_X12_notWord at E
  refine q_iload_n dX12_notWord_0 rfl ?_
  refine q_if_eq (tgt := 17) dX12_notWord_1 (by decide) (fun z1 => ?_) (fun z1 => ?_)
  · replace E := ite_t E z1
    exact r_fewer [none, none] (ls_n (ls_n ls_0)) (s_X12_notWord_17 h E hK)
  · replace E := ite_f E z1
    refine q_aload_n dX12_notWord_4 rfl ?_
    replace E := grd_some E
    obtain ⟨g2, E⟩ := E
    refine r_getI dX12_notWord_5 FX12_236 g2 ?_
    refine q_iconst dX12_notWord_8 ?_
    refine q_bipush (v := (Int32.ofInt 8)) dX12_notWord_9 (by decide) ?_
    replace E := cal_some E
    obtain ⟨x4, h3, hc, E⟩ := E
    refine r_callS3 (mc := 0) (ms := 0) dX12_notWord_11 KX12_132 (c_X12_isBetween hc) (by decide) (Nat.le_of_ble_eq_true rfl) (fun _ _ q => q.elim) ?_
    rintro _ _ ⟨rfl, rfl⟩
    clear hc
    refine q_if_ne (tgt := 19) dX12_notWord_14 (by decide) (fun z5 => ?_) (fun z5 => ?_)
    · replace E := ite_f E z5
      refine q_aload_n dX12_notWord_19 rfl ?_
      replace E := grd_some E
      obtain ⟨g6, E⟩ := E
      replace E := orf_some E
      obtain ⟨a7, ea7, E⟩ := E
      refine r_getR dX12_notWord_20 FX12_7 g6 ea7 ?_
      refine q_iconst dX12_notWord_23 ?_
      replace E := grd_some E
      obtain ⟨g8, E⟩ := E
      replace E := grd_some E
      obtain ⟨g9, E⟩ := E
      refine r_iaload dX12_notWord_24 g8 g9 ?_
      refine q_bipush (v := (Int32.ofInt 8)) dX12_notWord_25 (by decide) ?_
      refine q_icmp_ne (tgt := 34) dX12_notWord_27 (by decide) (fun z10 => ?_) (fun z10 => ?_)
      · replace E := ite_f E z10
        refine q_iconst dX12_notWord_34 ?_
        exact r_fewer [none, none] (ls_n (ls_n ls_0)) (s_X12_notWord_35 (Int32.ofInt 0) h3 E hK)
      · replace E := ite_t E z10
        refine q_iconst dX12_notWord_30 ?_
        refine q_goto (tgt := 35) dX12_notWord_31 (by decide) ?_
        exact r_fewer [none, none] (ls_n (ls_n ls_0)) (s_X12_notWord_35 (Int32.ofInt 2) h3 E hK)
    · replace E := ite_t E z5
      exact r_fewer [none, none] (ls_n (ls_n ls_0)) (s_X12_notWord_17 h3 E hK)
theorem c_X12_notWord {l : Launch} {G : mG} {p0 : Nat} {v1 : Int32} {h h' : mH} {r : Int32} (E : f_X12_notWord p0 v1 h = some (r, h')) : mMet l G m_X12_notWord 1 0 0 [.ref p0, .int v1] h (fun v k => v = some (.int r) ∧ h' = k) (fun _ _ => False) :=
  mMet_of (by decide +kernel) rfl (ac_c rfl (ac_c rfl ac_0)) (Nat.le_of_ble_eq_true rfl) (s_X12_notWord_0 p0 v1 h E (And.intro rfl rfl))
set_option maxRecDepth 100000 in
set_option maxHeartbeats 4000000 in
theorem s_X12_addsWord_59 {l : Launch} {G : mG} {Q : Option Value → mH → Prop} {X : String → mH → Prop} (p0 : Nat) (v1 : Int32) (v2 : Int32) (s0 : Int32) (s1 : Int32) (sp2 : Nat) (h : mH) {o : ((Int32 × mH) ⊕ (Int32 × mH))} (E : g_X12_addsWord_59 p0 v1 v2 s0 s1 sp2 h = some o) (hK : (lpK (w_X12_addsWord_26 l G Q X p0 v1) (fiI Q)) o) : mW l G m_X12_addsWord 0 0 0 59 [some (.ref p0), some (.int v1), some (.int v2)] [.int s0, .int s1, .ref sp2] h Q X := by
  unfold g_X12_addsWord_59 at E
  replace E := grd_some E
  obtain ⟨g2, E⟩ := E
  replace E := grd_some E
  obtain ⟨g3, E⟩ := E
  replace E := bnd_x E
  obtain ⟨h1, eh1, E⟩ := E
  refine r_iastore (hh := eh1) dX12_addsWord_59 g2 g3 ?_
  replace E := bnd_x E
  obtain ⟨x4, ex4, E⟩ := E
  refine r_iinc (v := x4) dX12_addsWord_60 rfl ex4 (by decide) (ls' := [some (.ref p0), some (.int v1), some (.int x4)]) rfl ?_
  refine q_goto (tgt := 26) dX12_addsWord_63 (by decide) ?_
  cases E
  exact r_fewer [some (.ref p0), some (.int v1), some (.int x4)] (ls_s (ls_s (ls_s ls_0))) hK
set_option maxRecDepth 100000 in
set_option maxHeartbeats 4000000 in
theorem sb_X12_addsWord_26 {l : Launch} {G : mG} {Q : Option Value → mH → Prop} {X : String → mH → Prop} (p0 : Nat) (v1 : Int32) (v2 : Int32) (h : mH) {o : ((Int32 × mH) ⊕ (Int32 × mH))} (E : b0_X12_addsWord_26 p0 v1 v2 h = some o) (hK : (lpK (w_X12_addsWord_26 l G Q X p0 v1) (fiI Q)) o) : mW l G m_X12_addsWord 0 0 0 26 [some (.ref p0), some (.int v1), some (.int v2)] [] h Q X := by
  unfold b0_X12_addsWord_26 at E
  refine q_iload_n dX12_addsWord_26 rfl ?_
  refine q_bipush (v := (Int32.ofInt 8)) dX12_addsWord_27 (by decide) ?_
  refine q_icmp_ge (tgt := 66) dX12_addsWord_29 (by decide) (fun z1 => ?_) (fun z1 => ?_)
  · replace E := ite_t E z1
    refine q_aload_n dX12_addsWord_66 rfl ?_
    replace E := grd_some E
    obtain ⟨g2, E⟩ := E
    replace E := orf_some E
    obtain ⟨a3, ea3, E⟩ := E
    refine r_getR dX12_addsWord_67 FX12_7 g2 ea3 ?_
    refine q_iconst dX12_addsWord_70 ?_
    refine q_dup2 dX12_addsWord_71 ?_
    replace E := grd_some E
    obtain ⟨g4, E⟩ := E
    replace E := grd_some E
    obtain ⟨g5, E⟩ := E
    refine r_iaload dX12_addsWord_72 g4 g5 ?_
    refine q_iconst dX12_addsWord_73 ?_
    refine q_iadd dX12_addsWord_74 ?_
    replace E := bnd_x E
    obtain ⟨h6, eh6, E⟩ := E
    refine r_iastore (hh := eh6) dX12_addsWord_75 g4 g5 ?_
    refine q_aload_n dX12_addsWord_76 rfl ?_
    replace E := grd_some E
    obtain ⟨g7, E⟩ := E
    replace E := orf_some E
    obtain ⟨a8, ea8, E⟩ := E
    refine r_getR dX12_addsWord_77 FX12_7 g7 ea8 ?_
    refine q_iconst dX12_addsWord_80 ?_
    replace E := grd_some E
    obtain ⟨g9, E⟩ := E
    replace E := grd_some E
    obtain ⟨g10, E⟩ := E
    refine r_iaload dX12_addsWord_81 g9 g10 ?_
    refine q_iconst dX12_addsWord_82 ?_
    refine q_isub dX12_addsWord_83 ?_
    cases E
    exact q_ireturn dX12_addsWord_84 rfl hK
  · replace E := ite_f E z1
    refine q_aload_n dX12_addsWord_32 rfl ?_
    replace E := grd_some E
    obtain ⟨g11, E⟩ := E
    replace E := orf_some E
    obtain ⟨a12, ea12, E⟩ := E
    refine r_getR dX12_addsWord_33 FX12_7 g11 ea12 ?_
    refine q_iload_n dX12_addsWord_36 rfl ?_
    refine q_iconst dX12_addsWord_37 ?_
    refine q_iadd dX12_addsWord_38 ?_
    refine q_iload_n dX12_addsWord_39 rfl ?_
    refine q_iadd dX12_addsWord_40 ?_
    refine q_iload_n dX12_addsWord_41 rfl ?_
    refine q_aload_n dX12_addsWord_42 rfl ?_
    refine r_getI dX12_addsWord_43 FX12_236 g11 ?_
    refine q_icmp_ge (tgt := 58) dX12_addsWord_46 (by decide) (fun z13 => ?_) (fun z13 => ?_)
    · replace E := ite_t E z13
      refine q_iconst dX12_addsWord_58 ?_
      exact r_fewer [some (.ref p0), some (.int v1), some (.int v2)] (ls_s (ls_s (ls_s ls_0))) (s_X12_addsWord_59 p0 v1 v2 (Int32.ofInt 0) ((v1 + (Int32.ofInt 1)) + v2) a12 h E hK)
    · replace E := ite_f E z13
      refine q_aload_n dX12_addsWord_49 rfl ?_
      replace E := orf_some E
      obtain ⟨a14, ea14, E⟩ := E
      refine r_getR dX12_addsWord_50 FX12_39 g11 ea14 ?_
      refine q_iload_n dX12_addsWord_53 rfl ?_
      replace E := grd_some E
      obtain ⟨g15, E⟩ := E
      replace E := grd_some E
      obtain ⟨g16, E⟩ := E
      refine r_iaload dX12_addsWord_54 g15 g16 ?_
      refine q_goto (tgt := 59) dX12_addsWord_55 (by decide) ?_
      exact r_fewer [some (.ref p0), some (.int v1), some (.int v2)] (ls_s (ls_s (ls_s ls_0))) (s_X12_addsWord_59 p0 v1 v2 (gi h a14 v2.toNatClampNeg) ((v1 + (Int32.ofInt 1)) + v2) a12 h E hK)
theorem s_X12_addsWord_26 {l : Launch} {G : mG} {Q : Option Value → mH → Prop} {X : String → mH → Prop} (p0 : Nat) (v1 : Int32) (v2 : Int32) (h : mH) {o : Int32 × mH} (E : g_X12_addsWord_26 p0 v1 v2 h = some o) (hK : (fiI Q) o) : mW l G m_X12_addsWord 0 0 0 26 [some (.ref p0), some (.int v1), some (.int v2)] [] h Q X :=
  (lp_go (w_X12_addsWord_26 l G Q X p0 v1) (fiI Q) (b_X12_addsWord_26 p0 v1) (fun s o E hK => sb_X12_addsWord_26 p0 v1 s.1 (s.2) E hK) _ _ _ E hK : w_X12_addsWord_26 l G Q X p0 v1 (v2, h))
set_option maxRecDepth 100000 in
set_option maxHeartbeats 4000000 in
theorem s_X12_addsWord_0 {l : Launch} {G : mG} {Q : Option Value → mH → Prop} {X : String → mH → Prop} (p0 : Nat) (h : mH) {o : Int32 × mH} (E : f_X12_addsWord p0 h = some o) (hK : (fiI Q) o) : mW l G m_X12_addsWord 0 0 0 0 [some (.ref p0), none, none] [] h Q X := by
  unfold f_X12_addsWord at E
  refine q_sipush (v := (Int32.ofInt 176)) dX12_addsWord_0 (by decide) ?_
  refine q_bipush (v := (Int32.ofInt 9)) dX12_addsWord_3 (by decide) ?_
  refine q_aload_n dX12_addsWord_5 rfl ?_
  replace E := grd_some E
  obtain ⟨g1, E⟩ := E
  replace E := orf_some E
  obtain ⟨a2, ea2, E⟩ := E
  refine r_getR dX12_addsWord_6 FX12_7 g1 ea2 ?_
  refine q_iconst dX12_addsWord_9 ?_
  replace E := grd_some E
  obtain ⟨g3, E⟩ := E
  replace E := grd_some E
  obtain ⟨g4, E⟩ := E
  refine r_iaload dX12_addsWord_10 g3 g4 ?_
  refine q_imul dX12_addsWord_11 ?_
  refine q_iadd dX12_addsWord_12 ?_
  replace E := bnd_x E
  obtain ⟨x5, ex5, E⟩ := E
  refine r_istore_n dX12_addsWord_13 (by decide) ex5 (ls' := [some (.ref p0), some (.int x5), none]) rfl ?_
  refine q_aload_n dX12_addsWord_14 rfl ?_
  refine r_getR dX12_addsWord_15 FX12_7 g1 ea2 ?_
  refine q_iload_n dX12_addsWord_18 rfl ?_
  refine q_aload_n dX12_addsWord_19 rfl ?_
  refine r_getI dX12_addsWord_20 FX12_236 g1 ?_
  replace E := grd_some E
  obtain ⟨g8, E⟩ := E
  replace E := bnd_x E
  obtain ⟨h7, eh7, E⟩ := E
  refine r_iastore (hh := eh7) dX12_addsWord_23 g3 g8 ?_
  refine q_iconst dX12_addsWord_24 ?_
  refine r_istore_n dX12_addsWord_25 (by decide) rfl (ls' := [some (.ref p0), some (.int x5), some (.int (Int32.ofInt 0))]) rfl ?_
  exact r_fewer [some (.ref p0), some (.int x5), some (.int (Int32.ofInt 0))] (ls_s (ls_s (ls_s ls_0))) (s_X12_addsWord_26 p0 x5 (Int32.ofInt 0) h7 E hK)
theorem c_X12_addsWord {l : Launch} {G : mG} {p0 : Nat} {h h' : mH} {r : Int32} (E : f_X12_addsWord p0 h = some (r, h')) : mMet l G m_X12_addsWord 0 0 0 [.ref p0] h (fun v k => v = some (.int r) ∧ h' = k) (fun _ _ => False) :=
  mMet_of (by decide +kernel) rfl (ac_c rfl ac_0) (Nat.le_of_ble_eq_true rfl) (s_X12_addsWord_0 p0 h E (And.intro rfl rfl))
set_option maxRecDepth 100000 in
set_option maxHeartbeats 4000000 in
theorem s_X12_addWord_0 {l : Launch} {G : mG} {Q : Option Value → mH → Prop} {X : String → mH → Prop} (p0 : Nat) (h : mH) {o : Int32 × mH} (E : f_X12_addWord p0 h = some o) (hK : (fiI Q) o) : mW l G m_X12_addWord 2 0 0 0 [some (.ref p0), none] [] h Q X := by
  unfold f_X12_addWord at E
  refine q_aload_n dX12_addWord_0 rfl ?_
  refine q_iconst dX12_addWord_1 ?_
  replace E := grd_some E
  obtain ⟨g1, E⟩ := E
  replace E := bnd_x E
  obtain ⟨h2, eh2, E⟩ := E
  refine r_putI (hh := eh2) dX12_addWord_2 FX12_117 g1 rfl rfl ?_
  refine q_aload_n dX12_addWord_5 rfl ?_
  refine q_aload_n dX12_addWord_6 rfl ?_
  refine q_iconst dX12_addWord_7 ?_
  refine q_aload_n dX12_addWord_8 rfl ?_
  replace E := grd_some E
  obtain ⟨g3, E⟩ := E
  refine r_getI dX12_addWord_9 FX12_165 g3 ?_
  replace E := cal_some E
  obtain ⟨x5, h4, hc, E⟩ := E
  refine r_callV2 (mc := 0) (ms := 0) dX12_addWord_12 KX12_239 (c_X12_takesWord hc) g3 (by decide) (Nat.le_of_ble_eq_true rfl) (fun _ _ q => q.elim) ?_
  rintro _ _ ⟨rfl, rfl⟩
  clear hc
  replace E := grd_some E
  obtain ⟨g8, E⟩ := E
  replace E := cal_some E
  obtain ⟨x7, h6, hc, E⟩ := E
  refine r_callV1 (mc := 0) (ms := 0) dX12_addWord_15 KX12_243 (c_X12_notWord hc) g8 (by decide) (Nat.le_of_ble_eq_true rfl) (fun _ _ q => q.elim) ?_
  rintro _ _ ⟨rfl, rfl⟩
  clear hc
  refine r_istore_n dX12_addWord_18 (by decide) rfl (ls' := [some (.ref p0), some (.int x7)]) rfl ?_
  refine q_aload_n dX12_addWord_19 rfl ?_
  refine q_iconst dX12_addWord_20 ?_
  replace E := grd_some E
  obtain ⟨g9, E⟩ := E
  replace E := bnd_x E
  obtain ⟨h10, eh10, E⟩ := E
  refine r_putI (hh := eh10) dX12_addWord_21 FX12_165 g9 rfl rfl ?_
  refine q_iload_n dX12_addWord_24 rfl ?_
  refine q_if_eq (tgt := 34) dX12_addWord_25 (by decide) (fun z11 => ?_) (fun z11 => ?_)
  · replace E := ite_t E z11
    refine q_aload_n dX12_addWord_34 rfl ?_
    replace E := grd_some E
    obtain ⟨g14, E⟩ := E
    replace E := cal_some E
    obtain ⟨_, h12, hc, E⟩ := E
    refine r_callV0 (mc := 0) (ms := 0) dX12_addWord_35 KX12_205 (c_X12_remembers hc) g14 (by decide) (Nat.le_of_ble_eq_true rfl) (fun _ _ q => q.elim) ?_
    rintro _ _ ⟨rfl, rfl⟩
    clear hc
    refine q_aload_n dX12_addWord_38 rfl ?_
    replace E := grd_some E
    obtain ⟨g17, E⟩ := E
    replace E := cal_some E
    obtain ⟨x16, h15, hc, E⟩ := E
    refine r_callV0 (mc := 0) (ms := 0) dX12_addWord_39 KX12_247 (c_X12_addsWord hc) g17 (by decide) (Nat.le_of_ble_eq_true rfl) (fun _ _ q => q.elim) ?_
    rintro _ _ ⟨rfl, rfl⟩
    clear hc
    cases E
    exact q_ireturn dX12_addWord_42 rfl hK
  · replace E := ite_f E z11
    refine q_aload_n dX12_addWord_28 rfl ?_
    refine q_iload_n dX12_addWord_29 rfl ?_
    replace E := grd_some E
    obtain ⟨g20, E⟩ := E
    replace E := cal_some E
    obtain ⟨x19, h18, hc, E⟩ := E
    refine r_callV1 (mc := 0) (ms := 0) dX12_addWord_30 KX12_196 (c_X12_fails hc) g20 (by decide) (Nat.le_of_ble_eq_true rfl) (fun _ _ q => q.elim) ?_
    rintro _ _ ⟨rfl, rfl⟩
    clear hc
    cases E
    exact q_ireturn dX12_addWord_33 rfl hK
theorem c_X12_addWord {l : Launch} {G : mG} {p0 : Nat} {h h' : mH} {r : Int32} (E : f_X12_addWord p0 h = some (r, h')) : mMet l G m_X12_addWord 2 0 0 [.ref p0] h (fun v k => v = some (.int r) ∧ h' = k) (fun _ _ => False) :=
  mMet_of (by decide +kernel) rfl (ac_c rfl ac_0) (Nat.le_of_ble_eq_true rfl) (s_X12_addWord_0 p0 h E (And.intro rfl rfl))
set_option maxRecDepth 100000 in
set_option maxHeartbeats 4000000 in
theorem s_X12_isWord_0 {l : Launch} {G : mG} {Q : Option Value → mH → Prop} {X : String → mH → Prop} (p0 : Nat) (v1 : Int32) (h : mH) {o : Int32 × mH} (E : f_X12_isWord p0 v1 h = some o) (hK : (fiI Q) o) : mW l G m_X12_isWord 1 0 0 0 [some (.ref p0), some (.int v1)] [] h Q X := by
  unfold f_X12_isWord at E
  refine q_iload_n dX12_isWord_0 rfl ?_
  refine q_iconst dX12_isWord_1 ?_
  refine q_aload_n dX12_isWord_2 rfl ?_
  replace E := grd_some E
  obtain ⟨g1, E⟩ := E
  replace E := orf_some E
  obtain ⟨a2, ea2, E⟩ := E
  refine r_getR dX12_isWord_3 FX12_7 g1 ea2 ?_
  refine q_iconst dX12_isWord_6 ?_
  replace E := grd_some E
  obtain ⟨g3, E⟩ := E
  replace E := grd_some E
  obtain ⟨g4, E⟩ := E
  refine r_iaload dX12_isWord_7 g3 g4 ?_
  refine q_iconst dX12_isWord_8 ?_
  refine q_isub dX12_isWord_9 ?_
  replace E := cal_some E
  obtain ⟨x6, h5, hc, E⟩ := E
  refine r_callS3 (mc := 0) (ms := 0) dX12_isWord_10 KX12_132 (c_X12_isBetween hc) (by decide) (Nat.le_of_ble_eq_true rfl) (fun _ _ q => q.elim) ?_
  rintro _ _ ⟨rfl, rfl⟩
  clear hc
  replace E := grd_some E
  obtain ⟨g7, E⟩ := E
  cases E
  exact q_zreturn dX12_isWord_13 rfl (narZ g7) hK
theorem c_X12_isWord {l : Launch} {G : mG} {p0 : Nat} {v1 : Int32} {h h' : mH} {r : Int32} (E : f_X12_isWord p0 v1 h = some (r, h')) : mMet l G m_X12_isWord 1 0 0 [.ref p0, .int v1] h (fun v k => v = some (.int r) ∧ h' = k) (fun _ _ => False) :=
  mMet_of (by decide +kernel) rfl (ac_c rfl (ac_c rfl ac_0)) (Nat.le_of_ble_eq_true rfl) (s_X12_isWord_0 p0 v1 h E (And.intro rfl rfl))
set_option maxRecDepth 100000 in
set_option maxHeartbeats 4000000 in
theorem sb_X12_cuts_61 {l : Launch} {G : mG} {Q : Option Value → mH → Prop} {X : String → mH → Prop} (p0 : Nat) (v2 : Int32) (v3 : Int32) (h : mH) {o : ((Int32 × mH) ⊕ (Int32 × mH))} (E : b0_X12_cuts_61 p0 v2 v3 h = some o) (hK : (lpK (w_X12_cuts_61 l G Q X p0 v2) (fiI Q)) o) : mW l G m_X12_cuts 0 0 0 61 [some (.ref p0), none, some (.int v2), some (.int v3)] [] h Q X := by
  unfold b0_X12_cuts_61 at E
  refine q_iload_n dX12_cuts_61 rfl ?_
  refine q_bipush (v := (Int32.ofInt 9)) dX12_cuts_62 (by decide) ?_
  refine q_icmp_ge (tgt := 82) dX12_cuts_64 (by decide) (fun z1 => ?_) (fun z1 => ?_)
  · replace E := ite_t E z1
    refine q_aload_n dX12_cuts_82 rfl ?_
    replace E := grd_some E
    obtain ⟨g2, E⟩ := E
    replace E := orf_some E
    obtain ⟨a3, ea3, E⟩ := E
    refine r_getR dX12_cuts_83 FX12_7 g2 ea3 ?_
    refine q_iconst dX12_cuts_86 ?_
    replace E := grd_some E
    obtain ⟨g4, E⟩ := E
    replace E := grd_some E
    obtain ⟨g5, E⟩ := E
    refine r_iaload dX12_cuts_87 g4 g5 ?_
    cases E
    exact q_ireturn dX12_cuts_88 rfl hK
  · replace E := ite_f E z1
    refine q_aload_n dX12_cuts_67 rfl ?_
    replace E := grd_some E
    obtain ⟨g6, E⟩ := E
    replace E := orf_some E
    obtain ⟨a7, ea7, E⟩ := E
    refine r_getR dX12_cuts_68 FX12_7 g6 ea7 ?_
    refine q_iload_n dX12_cuts_71 rfl ?_
    refine q_iload_n dX12_cuts_72 rfl ?_
    refine q_iadd dX12_cuts_73 ?_
    refine q_iconst dX12_cuts_74 ?_
    replace E := grd_some E
    obtain ⟨g9, E⟩ := E
    replace E := grd_some E
    obtain ⟨g10, E⟩ := E
    replace E := bnd_x E
    obtain ⟨h8, eh8, E⟩ := E
    refine r_iastore (hh := eh8) dX12_cuts_75 g9 g10 ?_
    replace E := bnd_x E
    obtain ⟨x11, ex11, E⟩ := E
    refine r_iinc (v := x11) dX12_cuts_76 rfl ex11 (by decide) (ls' := [some (.ref p0), none, some (.int v2), some (.int x11)]) rfl ?_
    refine q_goto (tgt := 61) dX12_cuts_79 (by decide) ?_
    cases E
    exact r_fewer [some (.ref p0), none, some (.int v2), some (.int x11)] (ls_s (ls_n (ls_s (ls_s ls_0)))) hK
theorem s_X12_cuts_61 {l : Launch} {G : mG} {Q : Option Value → mH → Prop} {X : String → mH → Prop} (p0 : Nat) (v2 : Int32) (v3 : Int32) (h : mH) {o : Int32 × mH} (E : g_X12_cuts_61 p0 v2 v3 h = some o) (hK : (fiI Q) o) : mW l G m_X12_cuts 0 0 0 61 [some (.ref p0), none, some (.int v2), some (.int v3)] [] h Q X :=
  (lp_go (w_X12_cuts_61 l G Q X p0 v2) (fiI Q) (b_X12_cuts_61 p0 v2) (fun s o E hK => sb_X12_cuts_61 p0 v2 s.1 (s.2) E hK) _ _ _ E hK : w_X12_cuts_61 l G Q X p0 v2 (v3, h))
set_option maxRecDepth 100000 in
set_option maxHeartbeats 4000000 in
theorem sb_X12_cuts_33 {l : Launch} {G : mG} {Q : Option Value → mH → Prop} {X : String → mH → Prop} (p0 : Nat) (v2 : Int32) (v3 : Int32) (h : mH) {o : ((Int32 × mH) ⊕ (Int32 × mH))} (E : b0_X12_cuts_33 p0 v2 v3 h = some o) (hK : (lpK (w_X12_cuts_33 l G Q X p0 v2) (fiI Q)) o) : mW l G m_X12_cuts 0 0 0 33 [some (.ref p0), none, some (.int v2), some (.int v3)] [] h Q X := by
  unfold b0_X12_cuts_33 at E
  refine q_iload_n dX12_cuts_33 rfl ?_
  refine q_iload_n dX12_cuts_34 rfl ?_
  refine q_icmp_ge (tgt := 59) dX12_cuts_35 (by decide) (fun z1 => ?_) (fun z1 => ?_)
  · replace E := ite_t E z1
    refine q_iconst dX12_cuts_59 ?_
    refine r_istore_n dX12_cuts_60 (by decide) rfl (ls' := [some (.ref p0), none, some (.int v2), some (.int (Int32.ofInt 0))]) rfl ?_
    obtain ⟨o0, E0, rfl⟩ := inrO_some E
    exact r_fewer [some (.ref p0), none, some (.int v2), some (.int (Int32.ofInt 0))] (ls_s (ls_n (ls_s (ls_s ls_0)))) (s_X12_cuts_61 p0 v2 (Int32.ofInt 0) h E0 hK)
  · replace E := ite_f E z1
    refine q_aload_n dX12_cuts_38 rfl ?_
    replace E := grd_some E
    obtain ⟨g2, E⟩ := E
    replace E := orf_some E
    obtain ⟨a3, ea3, E⟩ := E
    refine r_getR dX12_cuts_39 FX12_7 g2 ea3 ?_
    refine q_iload_n dX12_cuts_42 rfl ?_
    refine q_aload_n dX12_cuts_43 rfl ?_
    refine r_getR dX12_cuts_44 FX12_7 g2 ea3 ?_
    refine q_iload_n dX12_cuts_47 rfl ?_
    refine q_bipush (v := (Int32.ofInt 9)) dX12_cuts_48 (by decide) ?_
    refine q_iadd dX12_cuts_50 ?_
    replace E := grd_some E
    obtain ⟨g5, E⟩ := E
    replace E := grd_some E
    obtain ⟨g6, E⟩ := E
    refine r_iaload dX12_cuts_51 g5 g6 ?_
    replace E := grd_some E
    obtain ⟨g8, E⟩ := E
    replace E := bnd_x E
    obtain ⟨h7, eh7, E⟩ := E
    refine r_iastore (hh := eh7) dX12_cuts_52 g5 g8 ?_
    replace E := bnd_x E
    obtain ⟨x9, ex9, E⟩ := E
    refine r_iinc (v := x9) dX12_cuts_53 rfl ex9 (by decide) (ls' := [some (.ref p0), none, some (.int v2), some (.int x9)]) rfl ?_
    refine q_goto (tgt := 33) dX12_cuts_56 (by decide) ?_
    cases E
    exact r_fewer [some (.ref p0), none, some (.int v2), some (.int x9)] (ls_s (ls_n (ls_s (ls_s ls_0)))) hK
theorem s_X12_cuts_33 {l : Launch} {G : mG} {Q : Option Value → mH → Prop} {X : String → mH → Prop} (p0 : Nat) (v2 : Int32) (v3 : Int32) (h : mH) {o : Int32 × mH} (E : g_X12_cuts_33 p0 v2 v3 h = some o) (hK : (fiI Q) o) : mW l G m_X12_cuts 0 0 0 33 [some (.ref p0), none, some (.int v2), some (.int v3)] [] h Q X :=
  (lp_go (w_X12_cuts_33 l G Q X p0 v2) (fiI Q) (b_X12_cuts_33 p0 v2) (fun s o E hK => sb_X12_cuts_33 p0 v2 s.1 (s.2) E hK) _ _ _ E hK : w_X12_cuts_33 l G Q X p0 v2 (v3, h))
set_option maxRecDepth 100000 in
set_option maxHeartbeats 4000000 in
theorem s_X12_cuts_0 {l : Launch} {G : mG} {Q : Option Value → mH → Prop} {X : String → mH → Prop} (p0 : Nat) (v1 : Int32) (h : mH) {o : Int32 × mH} (E : f_X12_cuts p0 v1 h = some o) (hK : (fiI Q) o) : mW l G m_X12_cuts 0 0 0 0 [some (.ref p0), some (.int v1), none, none] [] h Q X := by
  unfold f_X12_cuts at E
  refine q_aload_n dX12_cuts_0 rfl ?_
  replace E := grd_some E
  obtain ⟨g1, E⟩ := E
  replace E := orf_some E
  obtain ⟨a2, ea2, E⟩ := E
  refine r_getR dX12_cuts_1 FX12_7 g1 ea2 ?_
  refine q_iconst dX12_cuts_4 ?_
  refine q_dup2 dX12_cuts_5 ?_
  replace E := grd_some E
  obtain ⟨g3, E⟩ := E
  replace E := grd_some E
  obtain ⟨g4, E⟩ := E
  refine r_iaload dX12_cuts_6 g3 g4 ?_
  refine q_iconst dX12_cuts_7 ?_
  refine q_isub dX12_cuts_8 ?_
  replace E := bnd_x E
  obtain ⟨h5, eh5, E⟩ := E
  refine r_iastore (hh := eh5) dX12_cuts_9 g3 g4 ?_
  refine q_sipush (v := (Int32.ofInt 176)) dX12_cuts_10 (by decide) ?_
  refine q_bipush (v := (Int32.ofInt 9)) dX12_cuts_13 (by decide) ?_
  refine q_aload_n dX12_cuts_15 rfl ?_
  replace E := grd_some E
  obtain ⟨g6, E⟩ := E
  replace E := orf_some E
  obtain ⟨a7, ea7, E⟩ := E
  refine r_getR dX12_cuts_16 FX12_7 g6 ea7 ?_
  refine q_iconst dX12_cuts_19 ?_
  replace E := grd_some E
  obtain ⟨g8, E⟩ := E
  replace E := grd_some E
  obtain ⟨g9, E⟩ := E
  refine r_iaload dX12_cuts_20 g8 g9 ?_
  refine q_imul dX12_cuts_21 ?_
  refine q_iadd dX12_cuts_22 ?_
  replace E := bnd_x E
  obtain ⟨x10, ex10, E⟩ := E
  refine r_istore_n dX12_cuts_23 (by decide) ex10 (ls' := [some (.ref p0), some (.int v1), some (.int x10), none]) rfl ?_
  refine q_sipush (v := (Int32.ofInt 176)) dX12_cuts_24 (by decide) ?_
  refine q_bipush (v := (Int32.ofInt 9)) dX12_cuts_27 (by decide) ?_
  refine q_iload_n dX12_cuts_29 rfl ?_
  refine q_imul dX12_cuts_30 ?_
  refine q_iadd dX12_cuts_31 ?_
  replace E := bnd_x E
  obtain ⟨x11, ex11, E⟩ := E
  refine r_istore_n dX12_cuts_32 (by decide) ex11 (ls' := [some (.ref p0), some (.int v1), some (.int x10), some (.int x11)]) rfl ?_
  exact r_fewer [some (.ref p0), none, some (.int x10), some (.int x11)] (ls_s (ls_n (ls_s (ls_s ls_0)))) (s_X12_cuts_33 p0 x10 x11 h5 E hK)
theorem c_X12_cuts {l : Launch} {G : mG} {p0 : Nat} {v1 : Int32} {h h' : mH} {r : Int32} (E : f_X12_cuts p0 v1 h = some (r, h')) : mMet l G m_X12_cuts 0 0 0 [.ref p0, .int v1] h (fun v k => v = some (.int r) ∧ h' = k) (fun _ _ => False) :=
  mMet_of (by decide +kernel) rfl (ac_c rfl (ac_c rfl ac_0)) (Nat.le_of_ble_eq_true rfl) (s_X12_cuts_0 p0 v1 h E (And.intro rfl rfl))
set_option maxRecDepth 100000 in
set_option maxHeartbeats 4000000 in
theorem s_X12_removeWord_0 {l : Launch} {G : mG} {Q : Option Value → mH → Prop} {X : String → mH → Prop} (p0 : Nat) (v1 : Int32) (h : mH) {o : Int32 × mH} (E : f_X12_removeWord p0 v1 h = some o) (hK : (fiI Q) o) : mW l G m_X12_removeWord 2 0 0 0 [some (.ref p0), some (.int v1)] [] h Q X := by
  unfold f_X12_removeWord at E
  refine q_aload_n dX12_removeWord_0 rfl ?_
  refine q_iconst dX12_removeWord_1 ?_
  replace E := grd_some E
  obtain ⟨g1, E⟩ := E
  replace E := bnd_x E
  obtain ⟨h2, eh2, E⟩ := E
  refine r_putI (hh := eh2) dX12_removeWord_2 FX12_117 g1 rfl rfl ?_
  refine q_aload_n dX12_removeWord_5 rfl ?_
  refine q_iload_n dX12_removeWord_6 rfl ?_
  replace E := grd_some E
  obtain ⟨g5, E⟩ := E
  replace E := cal_some E
  obtain ⟨x4, h3, hc, E⟩ := E
  refine r_callV1 (mc := 0) (ms := 0) dX12_removeWord_7 KX12_250 (c_X12_isWord hc) g5 (by decide) (Nat.le_of_ble_eq_true rfl) (fun _ _ q => q.elim) ?_
  rintro _ _ ⟨rfl, rfl⟩
  clear hc
  refine q_if_ne (tgt := 19) dX12_removeWord_10 (by decide) (fun z6 => ?_) (fun z6 => ?_)
  · replace E := ite_f E z6
    refine q_aload_n dX12_removeWord_19 rfl ?_
    replace E := grd_some E
    obtain ⟨g9, E⟩ := E
    replace E := cal_some E
    obtain ⟨_, h7, hc, E⟩ := E
    refine r_callV0 (mc := 0) (ms := 0) dX12_removeWord_20 KX12_205 (c_X12_remembers hc) g9 (by decide) (Nat.le_of_ble_eq_true rfl) (fun _ _ q => q.elim) ?_
    rintro _ _ ⟨rfl, rfl⟩
    clear hc
    refine q_aload_n dX12_removeWord_23 rfl ?_
    refine q_iload_n dX12_removeWord_24 rfl ?_
    replace E := grd_some E
    obtain ⟨g12, E⟩ := E
    replace E := cal_some E
    obtain ⟨x11, h10, hc, E⟩ := E
    refine r_callV1 (mc := 0) (ms := 0) dX12_removeWord_25 KX12_253 (c_X12_cuts hc) g12 (by decide) (Nat.le_of_ble_eq_true rfl) (fun _ _ q => q.elim) ?_
    rintro _ _ ⟨rfl, rfl⟩
    clear hc
    cases E
    exact q_ireturn dX12_removeWord_28 rfl hK
  · replace E := ite_t E z6
    refine q_aload_n dX12_removeWord_13 rfl ?_
    refine q_iconst dX12_removeWord_14 ?_
    replace E := grd_some E
    obtain ⟨g15, E⟩ := E
    replace E := cal_some E
    obtain ⟨x14, h13, hc, E⟩ := E
    refine r_callV1 (mc := 0) (ms := 0) dX12_removeWord_15 KX12_196 (c_X12_fails hc) g15 (by decide) (Nat.le_of_ble_eq_true rfl) (fun _ _ q => q.elim) ?_
    rintro _ _ ⟨rfl, rfl⟩
    clear hc
    cases E
    exact q_ireturn dX12_removeWord_18 rfl hK
theorem c_X12_removeWord {l : Launch} {G : mG} {p0 : Nat} {v1 : Int32} {h h' : mH} {r : Int32} (E : f_X12_removeWord p0 v1 h = some (r, h')) : mMet l G m_X12_removeWord 2 0 0 [.ref p0, .int v1] h (fun v k => v = some (.int r) ∧ h' = k) (fun _ _ => False) :=
  mMet_of (by decide +kernel) rfl (ac_c rfl (ac_c rfl ac_0)) (Nat.le_of_ble_eq_true rfl) (s_X12_removeWord_0 p0 v1 h E (And.intro rfl rfl))
set_option maxRecDepth 100000 in
set_option maxHeartbeats 4000000 in
theorem s_X12_pileLetter_0 {l : Launch} {G : mG} {Q : Option Value → mH → Prop} {X : String → mH → Prop} (p0 : Nat) (v1 : Int32) (v2 : Int32) (v3 : Int32) (h : mH) {o : Unit × mH} (E : f_X12_pileLetter p0 v1 v2 v3 h = some o) (hK : (fiV Q) o) : mW l G m_X12_pileLetter 0 0 0 0 [some (.ref p0), some (.int v1), some (.int v2), some (.int v3)] [] h Q X := by
  unfold f_X12_pileLetter at E
  refine q_aload_n dX12_pileLetter_0 rfl ?_
  replace E := grd_some E
  obtain ⟨g1, E⟩ := E
  replace E := orf_some E
  obtain ⟨a2, ea2, E⟩ := E
  refine r_getR dX12_pileLetter_1 FX12_48 g1 ea2 ?_
  refine q_iconst dX12_pileLetter_4 ?_
  refine q_iload_n dX12_pileLetter_5 rfl ?_
  refine q_imul dX12_pileLetter_6 ?_
  refine q_iload_n dX12_pileLetter_7 rfl ?_
  refine q_iadd dX12_pileLetter_8 ?_
  refine q_aload_n dX12_pileLetter_9 rfl ?_
  refine r_getR dX12_pileLetter_10 FX12_48 g1 ea2 ?_
  refine q_iconst dX12_pileLetter_13 ?_
  refine q_iload_n dX12_pileLetter_14 rfl ?_
  refine q_imul dX12_pileLetter_15 ?_
  refine q_iload_n dX12_pileLetter_16 rfl ?_
  refine q_iadd dX12_pileLetter_17 ?_
  replace E := grd_some E
  obtain ⟨g4, E⟩ := E
  replace E := grd_some E
  obtain ⟨g5, E⟩ := E
  refine r_iaload dX12_pileLetter_18 g4 g5 ?_
  refine q_iconst dX12_pileLetter_19 ?_
  refine q_iload_n dX12_pileLetter_20 rfl ?_
  refine q_ishl dX12_pileLetter_21 ?_
  refine q_ior dX12_pileLetter_22 ?_
  replace E := bnd_x E
  obtain ⟨h6, eh6, E⟩ := E
  refine r_iastore (hh := eh6) dX12_pileLetter_23 g4 g5 ?_
  refine q_aload_n dX12_pileLetter_24 rfl ?_
  replace E := grd_some E
  obtain ⟨g7, E⟩ := E
  replace E := orf_some E
  obtain ⟨a8, ea8, E⟩ := E
  refine r_getR dX12_pileLetter_25 FX12_60 g7 ea8 ?_
  refine q_aload_n dX12_pileLetter_28 rfl ?_
  refine r_getI dX12_pileLetter_29 FX12_256 g7 ?_
  refine q_iconst dX12_pileLetter_32 ?_
  replace E := grd_some E
  obtain ⟨g10, E⟩ := E
  replace E := grd_some E
  obtain ⟨g11, E⟩ := E
  replace E := bnd_x E
  obtain ⟨h9, eh9, E⟩ := E
  refine r_iastore (hh := eh9) dX12_pileLetter_33 g10 g11 ?_
  refine q_aload_n dX12_pileLetter_34 rfl ?_
  replace E := grd_some E
  obtain ⟨g12, E⟩ := E
  replace E := orf_some E
  obtain ⟨a13, ea13, E⟩ := E
  refine r_getR dX12_pileLetter_35 FX12_63 g12 ea13 ?_
  refine q_aload_n dX12_pileLetter_38 rfl ?_
  refine r_getI dX12_pileLetter_39 FX12_256 g12 ?_
  refine q_iconst dX12_pileLetter_42 ?_
  refine q_iload_n dX12_pileLetter_43 rfl ?_
  refine q_ishl dX12_pileLetter_44 ?_
  replace E := grd_some E
  obtain ⟨g15, E⟩ := E
  replace E := grd_some E
  obtain ⟨g16, E⟩ := E
  replace E := bnd_x E
  obtain ⟨h14, eh14, E⟩ := E
  refine r_iastore (hh := eh14) dX12_pileLetter_45 g15 g16 ?_
  refine q_aload_n dX12_pileLetter_46 rfl ?_
  replace E := grd_some E
  obtain ⟨g17, E⟩ := E
  replace E := orf_some E
  obtain ⟨a18, ea18, E⟩ := E
  refine r_getR dX12_pileLetter_47 FX12_66 g17 ea18 ?_
  refine q_aload_n dX12_pileLetter_50 rfl ?_
  refine r_getI dX12_pileLetter_51 FX12_256 g17 ?_
  refine q_iconst dX12_pileLetter_54 ?_
  refine q_iload_n dX12_pileLetter_55 rfl ?_
  refine q_ishl dX12_pileLetter_56 ?_
  replace E := grd_some E
  obtain ⟨g20, E⟩ := E
  replace E := grd_some E
  obtain ⟨g21, E⟩ := E
  replace E := bnd_x E
  obtain ⟨h19, eh19, E⟩ := E
  refine r_iastore (hh := eh19) dX12_pileLetter_57 g20 g21 ?_
  refine q_aload_n dX12_pileLetter_58 rfl ?_
  refine q_dup dX12_pileLetter_59 ?_
  replace E := grd_some E
  obtain ⟨g22, E⟩ := E
  refine r_getI dX12_pileLetter_60 FX12_256 g22 ?_
  refine q_iconst dX12_pileLetter_63 ?_
  refine q_iadd dX12_pileLetter_64 ?_
  replace E := bnd_x E
  obtain ⟨h23, eh23, E⟩ := E
  refine r_putI (hh := eh23) dX12_pileLetter_65 FX12_256 g22 rfl rfl ?_
  cases E
  exact q_return dX12_pileLetter_68 rfl hK
theorem c_X12_pileLetter {l : Launch} {G : mG} {p0 : Nat} {v1 : Int32} {v2 : Int32} {v3 : Int32} {h h' : mH} {r : Unit} (E : f_X12_pileLetter p0 v1 v2 v3 h = some (r, h')) : mMet l G m_X12_pileLetter 0 0 0 [.ref p0, .int v1, .int v2, .int v3] h (fun v k => v = none ∧ h' = k) (fun _ _ => False) :=
  mMet_of (by decide +kernel) rfl (ac_c rfl (ac_c rfl (ac_c rfl (ac_c rfl ac_0)))) (Nat.le_of_ble_eq_true rfl) (s_X12_pileLetter_0 p0 v1 v2 v3 h E (And.intro rfl rfl))
set_option maxRecDepth 100000 in
set_option maxHeartbeats 4000000 in
theorem s_X12_followed_46 {l : Launch} {G : mG} {Q : Option Value → mH → Prop} {X : String → mH → Prop} (p0 : Nat) (v1 : Int32) (v2 : Int32) (v3 : Int32) (v4 : Int32) (h : mH) {o : ((Int32 × mH) ⊕ (Unit × mH))} (E : g_X12_followed_46 p0 v1 v2 v3 v4 h = some o) (hK : (lpK (w_X12_followed_3 l G Q X p0 v1 v2 v3) (fiV Q)) o) : mW l G m_X12_followed 0 0 0 46 [some (.ref p0), some (.int v1), some (.int v2), some (.int v3), some (.int v4)] [] h Q X := by
  unfold g_X12_followed_46 at E
  replace E := bnd_x E
  obtain ⟨x1, ex1, E⟩ := E
  refine r_iinc (v := x1) dX12_followed_46 rfl ex1 (by decide) (ls' := [some (.ref p0), some (.int v1), some (.int v2), some (.int v3), some (.int x1)]) rfl ?_
  refine q_goto (tgt := 3) dX12_followed_49 (by decide) ?_
  cases E
  exact r_fewer [some (.ref p0), some (.int v1), some (.int v2), some (.int v3), some (.int x1)] (ls_s (ls_s (ls_s (ls_s (ls_s ls_0))))) hK
set_option maxRecDepth 100000 in
set_option maxHeartbeats 4000000 in
theorem sb_X12_followed_3 {l : Launch} {G : mG} {Q : Option Value → mH → Prop} {X : String → mH → Prop} (p0 : Nat) (v1 : Int32) (v2 : Int32) (v3 : Int32) (v4 : Int32) (h : mH) {o : ((Int32 × mH) ⊕ (Unit × mH))} (E : b0_X12_followed_3 p0 v1 v2 v3 v4 h = some o) (hK : (lpK (w_X12_followed_3 l G Q X p0 v1 v2 v3) (fiV Q)) o) : mW l G m_X12_followed 0 0 0 3 [some (.ref p0), some (.int v1), some (.int v2), some (.int v3), some (.int v4)] [] h Q X := by
  unfold b0_X12_followed_3 at E
  refine q_iload dX12_followed_3 rfl ?_
  refine q_bipush (v := (Int32.ofInt 7)) dX12_followed_5 (by decide) ?_
  refine q_icmp_ge (tgt := 52) dX12_followed_7 (by decide) (fun z1 => ?_) (fun z1 => ?_)
  · replace E := ite_t E z1
    cases E
    exact q_return dX12_followed_52 rfl hK
  · replace E := ite_f E z1
    refine q_iload_n dX12_followed_10 rfl ?_
    refine q_iload dX12_followed_11 rfl ?_
    refine q_ishr dX12_followed_13 ?_
    refine q_iconst dX12_followed_14 ?_
    refine q_iand dX12_followed_15 ?_
    refine q_iconst dX12_followed_16 ?_
    refine q_icmp_ne (tgt := 46) dX12_followed_17 (by decide) (fun z2 => ?_) (fun z2 => ?_)
    · replace E := ite_f E z2
      exact r_fewer [some (.ref p0), some (.int v1), some (.int v2), some (.int v3), some (.int v4)] (ls_s (ls_s (ls_s (ls_s (ls_s ls_0))))) (s_X12_followed_46 p0 v1 v2 v3 v4 h E hK)
    · replace E := ite_t E z2
      refine q_aload_n dX12_followed_20 rfl ?_
      replace E := grd_some E
      obtain ⟨g3, E⟩ := E
      replace E := orf_some E
      obtain ⟨a4, ea4, E⟩ := E
      refine r_getR dX12_followed_21 FX12_45 g3 ea4 ?_
      refine q_bipush (v := (Int32.ofInt 7)) dX12_followed_24 (by decide) ?_
      refine q_iload_n dX12_followed_26 rfl ?_
      refine q_imul dX12_followed_27 ?_
      refine q_iload dX12_followed_28 rfl ?_
      refine q_iadd dX12_followed_30 ?_
      refine q_aload_n dX12_followed_31 rfl ?_
      refine r_getR dX12_followed_32 FX12_45 g3 ea4 ?_
      refine q_bipush (v := (Int32.ofInt 7)) dX12_followed_35 (by decide) ?_
      refine q_iload_n dX12_followed_37 rfl ?_
      refine q_imul dX12_followed_38 ?_
      refine q_iload dX12_followed_39 rfl ?_
      refine q_iadd dX12_followed_41 ?_
      replace E := grd_some E
      obtain ⟨g6, E⟩ := E
      replace E := grd_some E
      obtain ⟨g7, E⟩ := E
      refine r_iaload dX12_followed_42 g6 g7 ?_
      refine q_iload_n dX12_followed_43 rfl ?_
      refine q_ior dX12_followed_44 ?_
      replace E := bnd_x E
      obtain ⟨h8, eh8, E⟩ := E
      refine r_iastore (hh := eh8) dX12_followed_45 g6 g7 ?_
      exact r_fewer [some (.ref p0), some (.int v1), some (.int v2), some (.int v3), some (.int v4)] (ls_s (ls_s (ls_s (ls_s (ls_s ls_0))))) (s_X12_followed_46 p0 v1 v2 v3 v4 h8 E hK)
theorem s_X12_followed_3 {l : Launch} {G : mG} {Q : Option Value → mH → Prop} {X : String → mH → Prop} (p0 : Nat) (v1 : Int32) (v2 : Int32) (v3 : Int32) (v4 : Int32) (h : mH) {o : Unit × mH} (E : g_X12_followed_3 p0 v1 v2 v3 v4 h = some o) (hK : (fiV Q) o) : mW l G m_X12_followed 0 0 0 3 [some (.ref p0), some (.int v1), some (.int v2), some (.int v3), some (.int v4)] [] h Q X :=
  (lp_go (w_X12_followed_3 l G Q X p0 v1 v2 v3) (fiV Q) (b_X12_followed_3 p0 v1 v2 v3) (fun s o E hK => sb_X12_followed_3 p0 v1 v2 v3 s.1 (s.2) E hK) _ _ _ E hK : w_X12_followed_3 l G Q X p0 v1 v2 v3 (v4, h))
set_option maxRecDepth 100000 in
set_option maxHeartbeats 4000000 in
theorem s_X12_followed_0 {l : Launch} {G : mG} {Q : Option Value → mH → Prop} {X : String → mH → Prop} (p0 : Nat) (v1 : Int32) (v2 : Int32) (v3 : Int32) (h : mH) {o : Unit × mH} (E : f_X12_followed p0 v1 v2 v3 h = some o) (hK : (fiV Q) o) : mW l G m_X12_followed 0 0 0 0 [some (.ref p0), some (.int v1), some (.int v2), some (.int v3), none] [] h Q X := by
  unfold f_X12_followed at E
  refine q_iconst dX12_followed_0 ?_
  refine r_istore dX12_followed_1 (by decide) rfl (ls' := [some (.ref p0), some (.int v1), some (.int v2), some (.int v3), some (.int (Int32.ofInt 0))]) rfl ?_
  exact r_fewer [some (.ref p0), some (.int v1), some (.int v2), some (.int v3), some (.int (Int32.ofInt 0))] (ls_s (ls_s (ls_s (ls_s (ls_s ls_0))))) (s_X12_followed_3 p0 v1 v2 v3 (Int32.ofInt 0) h E hK)
theorem c_X12_followed {l : Launch} {G : mG} {p0 : Nat} {v1 : Int32} {v2 : Int32} {v3 : Int32} {h h' : mH} {r : Unit} (E : f_X12_followed p0 v1 v2 v3 h = some (r, h')) : mMet l G m_X12_followed 0 0 0 [.ref p0, .int v1, .int v2, .int v3] h (fun v k => v = none ∧ h' = k) (fun _ _ => False) :=
  mMet_of (by decide +kernel) rfl (ac_c rfl (ac_c rfl (ac_c rfl (ac_c rfl ac_0)))) (Nat.le_of_ble_eq_true rfl) (s_X12_followed_0 p0 v1 v2 v3 h E (And.intro rfl rfl))
