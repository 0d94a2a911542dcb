set_option maxRecDepth 100000 in
set_option maxHeartbeats 4000000 in
theorem s_X12_lineChar_0 {l : Launch} {G : mG} {Q : Option Value → mH → Prop} {X : String → mH → Prop} (p0 : Nat) (v1 : Int32) (h : mH) {o : Int32 × mH} (E : f_X12_lineChar p0 v1 h = some o) (hK : (fiI Q) o) : mW l G m_X12_lineChar 1 0 0 0 [some (.ref p0), some (.int v1)] [] h Q X := by
  unfold f_X12_lineChar at E
  refine q_aload_n dX12_lineChar_0 rfl ?_
  refine q_iconst dX12_lineChar_1 ?_
  replace E := grd_some E
  obtain ⟨g1, E⟩ := E
  replace E := bnd_x E
  obtain ⟨h2, eh2, E⟩ := E
  refine r_putI (hh := eh2) dX12_lineChar_2 FX12_117 g1 rfl rfl ?_
  refine q_iload_n dX12_lineChar_5 rfl ?_
  refine q_iconst dX12_lineChar_6 ?_
  refine q_aload_n dX12_lineChar_7 rfl ?_
  replace E := grd_some E
  obtain ⟨g3, E⟩ := E
  refine r_getI dX12_lineChar_8 FX12_364 g3 ?_
  refine q_iconst dX12_lineChar_11 ?_
  refine q_isub dX12_lineChar_12 ?_
  replace E := cal_some E
  obtain ⟨x5, h4, hc, E⟩ := E
  refine r_callS3 (mc := 0) (ms := 0) dX12_lineChar_13 KX12_132 (c_X12_isBetween hc) (by decide) (Nat.le_of_ble_eq_true rfl) (fun _ _ q => q.elim) ?_
  rintro _ _ ⟨rfl, rfl⟩
  clear hc
  refine q_if_eq (tgt := 26) dX12_lineChar_16 (by decide) (fun z6 => ?_) (fun z6 => ?_)
  · replace E := ite_t E z6
    refine q_aload_n dX12_lineChar_26 rfl ?_
    refine q_iconst dX12_lineChar_27 ?_
    replace E := grd_some E
    obtain ⟨g9, E⟩ := E
    replace E := cal_some E
    obtain ⟨x8, h7, hc, E⟩ := E
    refine r_callV1 (mc := 0) (ms := 0) dX12_lineChar_28 KX12_196 (c_X12_fails hc) g9 (by decide) (Nat.le_of_ble_eq_true rfl) (fun _ _ q => q.elim) ?_
    rintro _ _ ⟨rfl, rfl⟩
    clear hc
    refine q_i2c dX12_lineChar_31 ?_
    replace E := grd_some E
    obtain ⟨g10, E⟩ := E
    cases E
    exact q_zreturn dX12_lineChar_32 rfl (narC g10) hK
  · replace E := ite_f E z6
    refine q_aload_n dX12_lineChar_19 rfl ?_
    replace E := grd_some E
    obtain ⟨g11, E⟩ := E
    replace E := orf_some E
    obtain ⟨a12, ea12, E⟩ := E
    refine r_getR dX12_lineChar_20 FX12_105 g11 ea12 ?_
    refine q_iload_n dX12_lineChar_23 rfl ?_
    replace E := grd_some E
    obtain ⟨g13, E⟩ := E
    replace E := grd_some E
    obtain ⟨g14, E⟩ := E
    refine r_caload dX12_lineChar_24 g13 g14 ?_
    replace E := grd_some E
    obtain ⟨g15, E⟩ := E
    cases E
    exact q_zreturn dX12_lineChar_25 rfl (narC g15) hK
theorem c_X12_lineChar {l : Launch} {G : mG} {p0 : Nat} {v1 : Int32} {h h' : mH} {r : Int32} (E : f_X12_lineChar p0 v1 h = some (r, h')) : mMet l G m_X12_lineChar 1 0 0 [.ref p0, .int v1] h (fun v k => v = some (.int r) ∧ h' = k) (fun _ _ => False) :=
  mMet_of (by decide +kernel) rfl (ac_c rfl (ac_c rfl ac_0)) (Nat.le_of_ble_eq_true rfl) (s_X12_lineChar_0 p0 v1 h E (And.intro rfl rfl))
set_option maxRecDepth 100000 in
set_option maxHeartbeats 4000000 in
theorem s_X12_append_0 {l : Launch} {G : mG} {Q : Option Value → mH → Prop} {X : String → mH → Prop} (p0 : Nat) (v1 : Int32) (h : mH) {o : Int32 × mH} (E : f_X12_append p0 v1 h = some o) (hK : (fiI Q) o) : mW l G m_X12_append 1 0 0 0 [some (.ref p0), some (.int v1)] [] h Q X := by
  unfold f_X12_append at E
  refine q_aload_n dX12_append_0 rfl ?_
  refine q_iconst dX12_append_1 ?_
  replace E := grd_some E
  obtain ⟨g1, E⟩ := E
  replace E := bnd_x E
  obtain ⟨h2, eh2, E⟩ := E
  refine r_putI (hh := eh2) dX12_append_2 FX12_117 g1 rfl rfl ?_
  refine q_iload_n dX12_append_5 rfl ?_
  refine q_bipush (v := (Int32.ofInt 32)) dX12_append_6 (by decide) ?_
  refine q_bipush (v := (Int32.ofInt 126)) dX12_append_8 (by decide) ?_
  replace E := cal_some E
  obtain ⟨x4, h3, hc, E⟩ := E
  refine r_callS3 (mc := 0) (ms := 0) dX12_append_10 KX12_132 (c_X12_isBetween hc) (by decide) (Nat.le_of_ble_eq_true rfl) (fun _ _ q => q.elim) ?_
  rintro _ _ ⟨rfl, rfl⟩
  clear hc
  refine q_if_ne (tgt := 22) dX12_append_13 (by decide) (fun z5 => ?_) (fun z5 => ?_)
  · replace E := ite_f E z5
    refine q_aload_n dX12_append_22 rfl ?_
    replace E := grd_some E
    obtain ⟨g6, E⟩ := E
    refine r_getI dX12_append_23 FX12_165 g6 ?_
    refine q_bipush (v := (Int32.ofInt 60)) dX12_append_26 (by decide) ?_
    refine q_icmp_ne (tgt := 37) dX12_append_28 (by decide) (fun z7 => ?_) (fun z7 => ?_)
    · replace E := ite_f E z7
      refine q_aload_n dX12_append_37 rfl ?_
      replace E := orf_some E
      obtain ⟨a8, ea8, E⟩ := E
      refine r_getR dX12_append_38 FX12_25 g6 ea8 ?_
      refine q_aload_n dX12_append_41 rfl ?_
      refine r_getI dX12_append_42 FX12_165 g6 ?_
      refine q_iload_n dX12_append_45 rfl ?_
      replace E := grd_some E
      obtain ⟨g10, E⟩ := E
      replace E := grd_some E
      obtain ⟨g11, E⟩ := E
      replace E := grd_some E
      obtain ⟨g12, E⟩ := E
      replace E := bnd_x E
      obtain ⟨h9, eh9, E⟩ := E
      refine r_castore (hh := eh9) dX12_append_46 g10 g11 g12 ?_
      refine q_aload_n dX12_append_47 rfl ?_
      refine q_dup dX12_append_48 ?_
      replace E := grd_some E
      obtain ⟨g13, E⟩ := E
      refine r_getI dX12_append_49 FX12_165 g13 ?_
      refine q_iconst dX12_append_52 ?_
      refine q_iadd dX12_append_53 ?_
      replace E := bnd_x E
      obtain ⟨h14, eh14, E⟩ := E
      refine r_putI (hh := eh14) dX12_append_54 FX12_165 g13 rfl rfl ?_
      refine q_aload_n dX12_append_57 rfl ?_
      replace E := grd_some E
      obtain ⟨g15, E⟩ := E
      refine r_getI dX12_append_58 FX12_165 g15 ?_
      cases E
      exact q_ireturn dX12_append_61 rfl hK
    · replace E := ite_t E z7
      refine q_aload_n dX12_append_31 rfl ?_
      refine q_iconst dX12_append_32 ?_
      replace E := cal_some E
      obtain ⟨x17, h16, hc, E⟩ := E
      refine r_callV1 (mc := 0) (ms := 0) dX12_append_33 KX12_196 (c_X12_fails hc) g6 (by decide) (Nat.le_of_ble_eq_true rfl) (fun _ _ q => q.elim) ?_
      rintro _ _ ⟨rfl, rfl⟩
      clear hc
      cases E
      exact q_ireturn dX12_append_36 rfl hK
  · replace E := ite_t E z5
    refine q_aload_n dX12_append_16 rfl ?_
    refine q_iconst dX12_append_17 ?_
    replace E := grd_some E
    obtain ⟨g20, E⟩ := E
    replace E := cal_some E
    obtain ⟨x19, h18, hc, E⟩ := E
    refine r_callV1 (mc := 0) (ms := 0) dX12_append_18 KX12_196 (c_X12_fails hc) g20 (by decide) (Nat.le_of_ble_eq_true rfl) (fun _ _ q => q.elim) ?_
    rintro _ _ ⟨rfl, rfl⟩
    clear hc
    cases E
    exact q_ireturn dX12_append_21 rfl hK
theorem c_X12_append {l : Launch} {G : mG} {p0 : Nat} {v1 : Int32} {h h' : mH} {r : Int32} (E : f_X12_append p0 v1 h = some (r, h')) : mMet l G m_X12_append 1 0 0 [.ref p0, .int v1] h (fun v k => v = some (.int r) ∧ h' = k) (fun _ _ => False) :=
  mMet_of (by decide +kernel) rfl (ac_c rfl (ac_c rfl ac_0)) (Nat.le_of_ble_eq_true rfl) (s_X12_append_0 p0 v1 h E (And.intro rfl rfl))
set_option maxRecDepth 100000 in
set_option maxHeartbeats 4000000 in
theorem s_X12_clearBuffer_0 {l : Launch} {G : mG} {Q : Option Value → mH → Prop} {X : String → mH → Prop} (p0 : Nat) (h : mH) {o : Int32 × mH} (E : f_X12_clearBuffer p0 h = some o) (hK : (fiI Q) o) : mW l G m_X12_clearBuffer 0 0 0 0 [some (.ref p0), none] [] h Q X := by
  unfold f_X12_clearBuffer at E
  refine q_aload_n dX12_clearBuffer_0 rfl ?_
  refine q_iconst dX12_clearBuffer_1 ?_
  replace E := grd_some E
  obtain ⟨g1, E⟩ := E
  replace E := bnd_x E
  obtain ⟨h2, eh2, E⟩ := E
  refine r_putI (hh := eh2) dX12_clearBuffer_2 FX12_117 g1 rfl rfl ?_
  refine q_aload_n dX12_clearBuffer_5 rfl ?_
  replace E := grd_some E
  obtain ⟨g3, E⟩ := E
  refine r_getI dX12_clearBuffer_6 FX12_165 g3 ?_
  replace E := bnd_x E
  obtain ⟨x4, ex4, E⟩ := E
  refine r_istore_n dX12_clearBuffer_9 (by decide) ex4 (ls' := [some (.ref p0), some (.int x4)]) rfl ?_
  refine q_aload_n dX12_clearBuffer_10 rfl ?_
  refine q_iconst dX12_clearBuffer_11 ?_
  replace E := bnd_x E
  obtain ⟨h5, eh5, E⟩ := E
  refine r_putI (hh := eh5) dX12_clearBuffer_12 FX12_165 g3 rfl rfl ?_
  refine q_iload_n dX12_clearBuffer_15 rfl ?_
  cases E
  exact q_ireturn dX12_clearBuffer_16 rfl hK
theorem c_X12_clearBuffer {l : Launch} {G : mG} {p0 : Nat} {h h' : mH} {r : Int32} (E : f_X12_clearBuffer p0 h = some (r, h')) : mMet l G m_X12_clearBuffer 0 0 0 [.ref p0] h (fun v k => v = some (.int r) ∧ h' = k) (fun _ _ => False) :=
  mMet_of (by decide +kernel) rfl (ac_c rfl ac_0) (Nat.le_of_ble_eq_true rfl) (s_X12_clearBuffer_0 p0 h E (And.intro rfl rfl))
set_option maxRecDepth 100000 in
set_option maxHeartbeats 4000000 in
theorem s_X12_readsDigit_0 {l : Launch} {G : mG} {Q : Option Value → mH → Prop} {X : String → mH → Prop} (p0 : Nat) (v1 : Int32) (h : mH) {o : Int32 × mH} (E : f_X12_readsDigit p0 v1 h = some o) (hK : (fiI Q) o) : mW l G m_X12_readsDigit 1 0 0 0 [some (.ref p0), some (.int v1)] [] h Q X := by
  unfold f_X12_readsDigit at E
  refine q_aload_n dX12_readsDigit_0 rfl ?_
  replace E := grd_some E
  obtain ⟨g3, E⟩ := E
  replace E := cal_some E
  obtain ⟨x2, h1, hc, E⟩ := E
  refine r_callV0 (mc := 0) (ms := 0) dX12_readsDigit_1 KX12_168 (c_X12_nextChar hc) g3 (by decide) (Nat.le_of_ble_eq_true rfl) (fun _ _ q => q.elim) ?_
  rintro _ _ ⟨rfl, rfl⟩
  clear hc
  refine q_bipush (v := (Int32.ofInt 48)) dX12_readsDigit_4 (by decide) ?_
  refine q_bipush (v := (Int32.ofInt 57)) dX12_readsDigit_6 (by decide) ?_
  replace E := cal_some E
  obtain ⟨x5, h4, hc, E⟩ := E
  refine r_callS3 (mc := 0) (ms := 0) dX12_readsDigit_8 KX12_132 (c_X12_isBetween hc) (by decide) (Nat.le_of_ble_eq_true rfl) (fun _ _ q => q.elim) ?_
  rintro _ _ ⟨rfl, rfl⟩
  clear hc
  refine q_if_ne (tgt := 16) dX12_readsDigit_11 (by decide) (fun z6 => ?_) (fun z6 => ?_)
  · replace E := ite_f E z6
    refine q_aload_n dX12_readsDigit_16 rfl ?_
    replace E := grd_some E
    obtain ⟨g7, E⟩ := E
    replace E := orf_some E
    obtain ⟨a8, ea8, E⟩ := E
    refine r_getR dX12_readsDigit_17 FX12_114 g7 ea8 ?_
    refine q_iload_n dX12_readsDigit_20 rfl ?_
    refine q_aload_n dX12_readsDigit_21 rfl ?_
    replace E := cal_some E
    obtain ⟨x10, h9, hc, E⟩ := E
    refine r_callV0 (mc := 0) (ms := 0) dX12_readsDigit_22 KX12_168 (c_X12_nextChar hc) g7 (by decide) (Nat.le_of_ble_eq_true rfl) (fun _ _ q => q.elim) ?_
    rintro _ _ ⟨rfl, rfl⟩
    clear hc
    refine q_bipush (v := (Int32.ofInt 48)) dX12_readsDigit_25 (by decide) ?_
    refine q_isub dX12_readsDigit_27 ?_
    replace E := grd_some E
    obtain ⟨g12, E⟩ := E
    replace E := grd_some E
    obtain ⟨g13, E⟩ := E
    replace E := bnd_x E
    obtain ⟨h11, eh11, E⟩ := E
    refine r_iastore (hh := eh11) dX12_readsDigit_28 g12 g13 ?_
    refine q_aload_n dX12_readsDigit_29 rfl ?_
    refine q_dup dX12_readsDigit_30 ?_
    replace E := grd_some E
    obtain ⟨g14, E⟩ := E
    refine r_getI dX12_readsDigit_31 FX12_162 g14 ?_
    refine q_iconst dX12_readsDigit_34 ?_
    refine q_iadd dX12_readsDigit_35 ?_
    replace E := bnd_x E
    obtain ⟨h15, eh15, E⟩ := E
    refine r_putI (hh := eh15) dX12_readsDigit_36 FX12_162 g14 rfl rfl ?_
    refine q_iconst dX12_readsDigit_39 ?_
    cases E
    exact q_zreturn dX12_readsDigit_40 rfl (by decide) hK
  · replace E := ite_t E z6
    refine q_iconst dX12_readsDigit_14 ?_
    cases E
    exact q_zreturn dX12_readsDigit_15 rfl (by decide) hK
theorem c_X12_readsDigit {l : Launch} {G : mG} {p0 : Nat} {v1 : Int32} {h h' : mH} {r : Int32} (E : f_X12_readsDigit p0 v1 h = some (r, h')) : mMet l G m_X12_readsDigit 1 0 0 [.ref p0, .int v1] h (fun v k => v = some (.int r) ∧ h' = k) (fun _ _ => False) :=
  mMet_of (by decide +kernel) rfl (ac_c rfl (ac_c rfl ac_0)) (Nat.le_of_ble_eq_true rfl) (s_X12_readsDigit_0 p0 v1 h E (And.intro rfl rfl))
set_option maxRecDepth 100000 in
set_option maxHeartbeats 4000000 in
theorem s_X12_readsThree_56 {l : Launch} {G : mG} {Q : Option Value → mH → Prop} {X : String → mH → Prop} (s0 : Int32) (h : mH) {o : Int32 × mH} (E : g_X12_readsThree_56 s0 h = some o) (hK : (fiI Q) o) : mW l G m_X12_readsThree 2 0 0 56 [none] [.int s0] h Q X := by
  unfold g_X12_readsThree_56 at E
  replace E := grd_some E
  obtain ⟨g1, E⟩ := E
  cases E
  exact q_zreturn dX12_readsThree_56 rfl (narZ g1) hK
set_option maxRecDepth 100000 in
set_option maxHeartbeats 4000000 in
theorem s_X12_readsThree_55 {l : Launch} {G : mG} {Q : Option Value → mH → Prop} {X : String → mH → Prop} (h : mH) {o : Int32 × mH} (E : g_X12_readsThree_55  h = some o) (hK : (fiI Q) o) : mW l G m_X12_readsThree 2 0 0 55 [none] [] h Q X := by
  unfold g_X12_readsThree_55 at E
  refine q_iconst dX12_readsThree_55 ?_
  exact r_fewer [none] (ls_n ls_0) (s_X12_readsThree_56 (Int32.ofInt 0) h E hK)
set_option maxRecDepth 100000 in
set_option maxHeartbeats 4000000 in
theorem s_X12_readsThree_0 {l : Launch} {G : mG} {Q : Option Value → mH → Prop} {X : String → mH → Prop} (p0 : Nat) (h : mH) {o : Int32 × mH} (E : f_X12_readsThree p0 h = some o) (hK : (fiI Q) o) : mW l G m_X12_readsThree 2 0 0 0 [some (.ref p0)] [] h Q X := by
  unfold f_X12_readsThree at E
  refine q_aload_n dX12_readsThree_0 rfl ?_
  refine q_bipush (v := (Int32.ofInt 32)) dX12_readsThree_1 (by decide) ?_
  replace E := grd_some E
  obtain ⟨g3, E⟩ := E
  replace E := cal_some E
  obtain ⟨x2, h1, hc, E⟩ := E
  refine r_callV1 (mc := 0) (ms := 0) dX12_readsThree_3 KX12_183 (c_X12_reads hc) g3 (by decide) (Nat.le_of_ble_eq_true rfl) (fun _ _ q => q.elim) ?_
  rintro _ _ ⟨rfl, rfl⟩
  clear hc
  refine q_if_eq (tgt := 55) dX12_readsThree_6 (by decide) (fun z4 => ?_) (fun z4 => ?_)
  · replace E := ite_t E z4
    exact r_fewer [none] (ls_n ls_0) (s_X12_readsThree_55 h1 E hK)
  · replace E := ite_f E z4
    refine q_aload_n dX12_readsThree_9 rfl ?_
    refine q_iconst dX12_readsThree_10 ?_
    replace E := grd_some E
    obtain ⟨g7, E⟩ := E
    replace E := cal_some E
    obtain ⟨x6, h5, hc, E⟩ := E
    refine r_callV1 (mc := 0) (ms := 0) dX12_readsThree_11 KX12_379 (c_X12_readsDigit hc) g7 (by decide) (Nat.le_of_ble_eq_true rfl) (fun _ _ q => q.elim) ?_
    rintro _ _ ⟨rfl, rfl⟩
    clear hc
    refine q_if_eq (tgt := 55) dX12_readsThree_14 (by decide) (fun z8 => ?_) (fun z8 => ?_)
    · replace E := ite_t E z8
      exact r_fewer [none] (ls_n ls_0) (s_X12_readsThree_55 h5 E hK)
    · replace E := ite_f E z8
      refine q_aload_n dX12_readsThree_17 rfl ?_
      refine q_bipush (v := (Int32.ofInt 61)) dX12_readsThree_18 (by decide) ?_
      replace E := grd_some E
      obtain ⟨g11, E⟩ := E
      replace E := cal_some E
      obtain ⟨x10, h9, hc, E⟩ := E
      refine r_callV1 (mc := 0) (ms := 0) dX12_readsThree_20 KX12_183 (c_X12_reads hc) g11 (by decide) (Nat.le_of_ble_eq_true rfl) (fun _ _ q => q.elim) ?_
      rintro _ _ ⟨rfl, rfl⟩
      clear hc
      refine q_if_eq (tgt := 55) dX12_readsThree_23 (by decide) (fun z12 => ?_) (fun z12 => ?_)
      · replace E := ite_t E z12
        exact r_fewer [none] (ls_n ls_0) (s_X12_readsThree_55 h9 E hK)
      · replace E := ite_f E z12
        refine q_aload_n dX12_readsThree_26 rfl ?_
        refine q_iconst dX12_readsThree_27 ?_
        replace E := grd_some E
        obtain ⟨g15, E⟩ := E
        replace E := cal_some E
        obtain ⟨x14, h13, hc, E⟩ := E
        refine r_callV1 (mc := 0) (ms := 0) dX12_readsThree_28 KX12_379 (c_X12_readsDigit hc) g15 (by decide) (Nat.le_of_ble_eq_true rfl) (fun _ _ q => q.elim) ?_
        rintro _ _ ⟨rfl, rfl⟩
        clear hc
        refine q_if_eq (tgt := 55) dX12_readsThree_31 (by decide) (fun z16 => ?_) (fun z16 => ?_)
        · replace E := ite_t E z16
          exact r_fewer [none] (ls_n ls_0) (s_X12_readsThree_55 h13 E hK)
        · replace E := ite_f E z16
          refine q_aload_n dX12_readsThree_34 rfl ?_
          refine q_bipush (v := (Int32.ofInt 44)) dX12_readsThree_35 (by decide) ?_
          replace E := grd_some E
          obtain ⟨g19, E⟩ := E
          replace E := cal_some E
          obtain ⟨x18, h17, hc, E⟩ := E
          refine r_callV1 (mc := 0) (ms := 0) dX12_readsThree_37 KX12_183 (c_X12_reads hc) g19 (by decide) (Nat.le_of_ble_eq_true rfl) (fun _ _ q => q.elim) ?_
          rintro _ _ ⟨rfl, rfl⟩
          clear hc
          refine q_if_eq (tgt := 55) dX12_readsThree_40 (by decide) (fun z20 => ?_) (fun z20 => ?_)
          · replace E := ite_t E z20
            exact r_fewer [none] (ls_n ls_0) (s_X12_readsThree_55 h17 E hK)
          · replace E := ite_f E z20
            refine q_aload_n dX12_readsThree_43 rfl ?_
            refine q_iconst dX12_readsThree_44 ?_
            replace E := grd_some E
            obtain ⟨g23, E⟩ := E
            replace E := cal_some E
            obtain ⟨x22, h21, hc, E⟩ := E
            refine r_callV1 (mc := 0) (ms := 0) dX12_readsThree_45 KX12_379 (c_X12_readsDigit hc) g23 (by decide) (Nat.le_of_ble_eq_true rfl) (fun _ _ q => q.elim) ?_
            rintro _ _ ⟨rfl, rfl⟩
            clear hc
            refine q_if_eq (tgt := 55) dX12_readsThree_48 (by decide) (fun z24 => ?_) (fun z24 => ?_)
            · replace E := ite_t E z24
              exact r_fewer [none] (ls_n ls_0) (s_X12_readsThree_55 h21 E hK)
            · replace E := ite_f E z24
              refine q_iconst dX12_readsThree_51 ?_
              refine q_goto (tgt := 56) dX12_readsThree_52 (by decide) ?_
              exact r_fewer [none] (ls_n ls_0) (s_X12_readsThree_56 (Int32.ofInt 1) h21 E hK)
theorem c_X12_readsThree {l : Launch} {G : mG} {p0 : Nat} {h h' : mH} {r : Int32} (E : f_X12_readsThree p0 h = some (r, h')) : mMet l G m_X12_readsThree 2 0 0 [.ref p0] h (fun v k => v = some (.int r) ∧ h' = k) (fun _ _ => False) :=
  mMet_of (by decide +kernel) rfl (ac_c rfl ac_0) (Nat.le_of_ble_eq_true rfl) (s_X12_readsThree_0 p0 h E (And.intro rfl rfl))
set_option maxRecDepth 100000 in
set_option maxHeartbeats 4000000 in
theorem s_X12_readsS_56 {l : Launch} {G : mG} {Q : Option Value → mH → Prop} {X : String → mH → Prop} (s0 : Int32) (h : mH) {o : Int32 × mH} (E : g_X12_readsS_56 s0 h = some o) (hK : (fiI Q) o) : mW l G m_X12_readsS 4 0 0 56 [none] [.int s0] h Q X := by
  unfold g_X12_readsS_56 at E
  replace E := grd_some E
  obtain ⟨g1, E⟩ := E
  cases E
  exact q_zreturn dX12_readsS_56 rfl (narZ g1) hK
set_option maxRecDepth 100000 in
set_option maxHeartbeats 4000000 in
theorem s_X12_readsS_55 {l : Launch} {G : mG} {Q : Option Value → mH → Prop} {X : String → mH → Prop} (h : mH) {o : Int32 × mH} (E : g_X12_readsS_55  h = some o) (hK : (fiI Q) o) : mW l G m_X12_readsS 4 0 0 55 [none] [] h Q X := by
  unfold g_X12_readsS_55 at E
  refine q_iconst dX12_readsS_55 ?_
  exact r_fewer [none] (ls_n ls_0) (s_X12_readsS_56 (Int32.ofInt 0) h E hK)
set_option maxRecDepth 100000 in
set_option maxHeartbeats 4000000 in
theorem s_X12_readsS_129 {l : Launch} {G : mG} {Q : Option Value → mH → Prop} {X : String → mH → Prop} (s0 : Int32) (h : mH) {o : Int32 × mH} (E : g_X12_readsS_129 s0 h = some o) (hK : (fiI Q) o) : mW l G m_X12_readsS 4 0 0 129 [none] [.int s0] h Q X := by
  unfold g_X12_readsS_129 at E
  replace E := grd_some E
  obtain ⟨g1, E⟩ := E
  cases E
  exact q_zreturn dX12_readsS_129 rfl (narZ g1) hK
set_option maxRecDepth 100000 in
set_option maxHeartbeats 4000000 in
theorem s_X12_readsS_128 {l : Launch} {G : mG} {Q : Option Value → mH → Prop} {X : String → mH → Prop} (h : mH) {o : Int32 × mH} (E : g_X12_readsS_128  h = some o) (hK : (fiI Q) o) : mW l G m_X12_readsS 4 0 0 128 [none] [] h Q X := by
  unfold g_X12_readsS_128 at E
  refine q_iconst dX12_readsS_128 ?_
  exact r_fewer [none] (ls_n ls_0) (s_X12_readsS_129 (Int32.ofInt 0) h E hK)
set_option maxRecDepth 100000 in
set_option maxHeartbeats 4000000 in
theorem s_X12_readsS_0 {l : Launch} {G : mG} {Q : Option Value → mH → Prop} {X : String → mH → Prop} (p0 : Nat) (h : mH) {o : Int32 × mH} (E : f_X12_readsS p0 h = some o) (hK : (fiI Q) o) : mW l G m_X12_readsS 4 0 0 0 [some (.ref p0)] [] h Q X := by
  unfold f_X12_readsS at E
  refine q_aload_n dX12_readsS_0 rfl ?_
  refine q_bipush (v := (Int32.ofInt 101)) dX12_readsS_1 (by decide) ?_
  replace E := grd_some E
  obtain ⟨g3, E⟩ := E
  replace E := cal_some E
  obtain ⟨x2, h1, hc, E⟩ := E
  refine r_callV1 (mc := 0) (ms := 0) dX12_readsS_3 KX12_183 (c_X12_reads hc) g3 (by decide) (Nat.le_of_ble_eq_true rfl) (fun _ _ q => q.elim) ?_
  rintro _ _ ⟨rfl, rfl⟩
  clear hc
  refine q_if_eq (tgt := 57) dX12_readsS_6 (by decide) (fun z4 => ?_) (fun z4 => ?_)
  · replace E := ite_t E z4
    refine q_aload_n dX12_readsS_57 rfl ?_
    refine q_bipush (v := (Int32.ofInt 114)) dX12_readsS_58 (by decide) ?_
    replace E := grd_some E
    obtain ⟨g5, E⟩ := E
    replace E := bnd_x E
    obtain ⟨h6, eh6, E⟩ := E
    refine r_putI (hh := eh6) dX12_readsS_60 FX12_382 g5 rfl rfl ?_
    refine q_aload_n dX12_readsS_63 rfl ?_
    refine q_bipush (v := (Int32.ofInt 116)) dX12_readsS_64 (by decide) ?_
    replace E := grd_some E
    obtain ⟨g9, E⟩ := E
    replace E := cal_some E
    obtain ⟨x8, h7, hc, E⟩ := E
    refine r_callV1 (mc := 0) (ms := 0) dX12_readsS_66 KX12_183 (c_X12_reads hc) g9 (by decide) (Nat.le_of_ble_eq_true rfl) (fun _ _ q => q.elim) ?_
    rintro _ _ ⟨rfl, rfl⟩
    clear hc
    refine q_if_eq (tgt := 128) dX12_readsS_69 (by decide) (fun z10 => ?_) (fun z10 => ?_)
    · replace E := ite_t E z10
      exact r_fewer [none] (ls_n ls_0) (s_X12_readsS_128 h7 E hK)
    · replace E := ite_f E z10
      refine q_aload_n dX12_readsS_72 rfl ?_
      refine q_bipush (v := (Int32.ofInt 97)) dX12_readsS_73 (by decide) ?_
      replace E := grd_some E
      obtain ⟨g13, E⟩ := E
      replace E := cal_some E
      obtain ⟨x12, h11, hc, E⟩ := E
      refine r_callV1 (mc := 0) (ms := 0) dX12_readsS_75 KX12_183 (c_X12_reads hc) g13 (by decide) (Nat.le_of_ble_eq_true rfl) (fun _ _ q => q.elim) ?_
      rintro _ _ ⟨rfl, rfl⟩
      clear hc
      refine q_if_eq (tgt := 128) dX12_readsS_78 (by decide) (fun z14 => ?_) (fun z14 => ?_)
      · replace E := ite_t E z14
        exact r_fewer [none] (ls_n ls_0) (s_X12_readsS_128 h11 E hK)
      · replace E := ite_f E z14
        refine q_aload_n dX12_readsS_81 rfl ?_
        refine q_bipush (v := (Int32.ofInt 114)) dX12_readsS_82 (by decide) ?_
        replace E := grd_some E
        obtain ⟨g17, E⟩ := E
        replace E := cal_some E
        obtain ⟨x16, h15, hc, E⟩ := E
        refine r_callV1 (mc := 0) (ms := 0) dX12_readsS_84 KX12_183 (c_X12_reads hc) g17 (by decide) (Nat.le_of_ble_eq_true rfl) (fun _ _ q => q.elim) ?_
        rintro _ _ ⟨rfl, rfl⟩
        clear hc
        refine q_if_eq (tgt := 128) dX12_readsS_87 (by decide) (fun z18 => ?_) (fun z18 => ?_)
        · replace E := ite_t E z18
          exact r_fewer [none] (ls_n ls_0) (s_X12_readsS_128 h15 E hK)
        · replace E := ite_f E z18
          refine q_aload_n dX12_readsS_90 rfl ?_
          refine q_bipush (v := (Int32.ofInt 32)) dX12_readsS_91 (by decide) ?_
          replace E := grd_some E
          obtain ⟨g21, E⟩ := E
          replace E := cal_some E
          obtain ⟨x20, h19, hc, E⟩ := E
          refine r_callV1 (mc := 0) (ms := 0) dX12_readsS_93 KX12_183 (c_X12_reads hc) g21 (by decide) (Nat.le_of_ble_eq_true rfl) (fun _ _ q => q.elim) ?_
          rintro _ _ ⟨rfl, rfl⟩
          clear hc
          refine q_if_eq (tgt := 128) dX12_readsS_96 (by decide) (fun z22 => ?_) (fun z22 => ?_)
          · replace E := ite_t E z22
            exact r_fewer [none] (ls_n ls_0) (s_X12_readsS_128 h19 E hK)
          · replace E := ite_f E z22
            refine q_aload_n dX12_readsS_99 rfl ?_
            refine q_iconst dX12_readsS_100 ?_
            replace E := grd_some E
            obtain ⟨g25, E⟩ := E
            replace E := cal_some E
            obtain ⟨x24, h23, hc, E⟩ := E
            refine r_callV1 (mc := 0) (ms := 0) dX12_readsS_101 KX12_379 (c_X12_readsDigit hc) g25 (by decide) (Nat.le_of_ble_eq_true rfl) (fun _ _ q => q.elim) ?_
            rintro _ _ ⟨rfl, rfl⟩
            clear hc
            refine q_if_eq (tgt := 128) dX12_readsS_104 (by decide) (fun z26 => ?_) (fun z26 => ?_)
            · replace E := ite_t E z26
              exact r_fewer [none] (ls_n ls_0) (s_X12_readsS_128 h23 E hK)
            · replace E := ite_f E z26
              refine q_aload_n dX12_readsS_107 rfl ?_
              refine q_bipush (v := (Int32.ofInt 61)) dX12_readsS_108 (by decide) ?_
              replace E := grd_some E
              obtain ⟨g29, E⟩ := E
              replace E := cal_some E
              obtain ⟨x28, h27, hc, E⟩ := E
              refine r_callV1 (mc := 0) (ms := 0) dX12_readsS_110 KX12_183 (c_X12_reads hc) g29 (by decide) (Nat.le_of_ble_eq_true rfl) (fun _ _ q => q.elim) ?_
              rintro _ _ ⟨rfl, rfl⟩
              clear hc
              refine q_if_eq (tgt := 128) dX12_readsS_113 (by decide) (fun z30 => ?_) (fun z30 => ?_)
              · replace E := ite_t E z30
                exact r_fewer [none] (ls_n ls_0) (s_X12_readsS_128 h27 E hK)
              · replace E := ite_f E z30
                refine q_aload_n dX12_readsS_116 rfl ?_
                refine q_iconst dX12_readsS_117 ?_
                replace E := grd_some E
                obtain ⟨g33, E⟩ := E
                replace E := cal_some E
                obtain ⟨x32, h31, hc, E⟩ := E
                refine r_callV1 (mc := 0) (ms := 0) dX12_readsS_118 KX12_379 (c_X12_readsDigit hc) g33 (by decide) (Nat.le_of_ble_eq_true rfl) (fun _ _ q => q.elim) ?_
                rintro _ _ ⟨rfl, rfl⟩
                clear hc
                refine q_if_eq (tgt := 128) dX12_readsS_121 (by decide) (fun z34 => ?_) (fun z34 => ?_)
                · replace E := ite_t E z34
                  exact r_fewer [none] (ls_n ls_0) (s_X12_readsS_128 h31 E hK)
                · replace E := ite_f E z34
                  refine q_iconst dX12_readsS_124 ?_
                  refine q_goto (tgt := 129) dX12_readsS_125 (by decide) ?_
                  exact r_fewer [none] (ls_n ls_0) (s_X12_readsS_129 (Int32.ofInt 1) h31 E hK)
  · replace E := ite_f E z4
    refine q_aload_n dX12_readsS_9 rfl ?_
    refine q_bipush (v := (Int32.ofInt 116)) dX12_readsS_10 (by decide) ?_
    replace E := grd_some E
    obtain ⟨g37, E⟩ := E
    replace E := cal_some E
    obtain ⟨x36, h35, hc, E⟩ := E
    refine r_callV1 (mc := 0) (ms := 0) dX12_readsS_12 KX12_183 (c_X12_reads hc) g37 (by decide) (Nat.le_of_ble_eq_true rfl) (fun _ _ q => q.elim) ?_
    rintro _ _ ⟨rfl, rfl⟩
    clear hc
    refine q_if_eq (tgt := 55) dX12_readsS_15 (by decide) (fun z38 => ?_) (fun z38 => ?_)
    · replace E := ite_t E z38
      exact r_fewer [none] (ls_n ls_0) (s_X12_readsS_55 h35 E hK)
    · replace E := ite_f E z38
      refine q_aload_n dX12_readsS_18 rfl ?_
      refine q_bipush (v := (Int32.ofInt 32)) dX12_readsS_19 (by decide) ?_
      replace E := grd_some E
      obtain ⟨g41, E⟩ := E
      replace E := cal_some E
      obtain ⟨x40, h39, hc, E⟩ := E
      refine r_callV1 (mc := 0) (ms := 0) dX12_readsS_21 KX12_183 (c_X12_reads hc) g41 (by decide) (Nat.le_of_ble_eq_true rfl) (fun _ _ q => q.elim) ?_
      rintro _ _ ⟨rfl, rfl⟩
      clear hc
      refine q_if_eq (tgt := 55) dX12_readsS_24 (by decide) (fun z42 => ?_) (fun z42 => ?_)
      · replace E := ite_t E z42
        exact r_fewer [none] (ls_n ls_0) (s_X12_readsS_55 h39 E hK)
      · replace E := ite_f E z42
        refine q_aload_n dX12_readsS_27 rfl ?_
        refine q_iconst dX12_readsS_28 ?_
        replace E := grd_some E
        obtain ⟨g45, E⟩ := E
        replace E := cal_some E
        obtain ⟨x44, h43, hc, E⟩ := E
        refine r_callV1 (mc := 0) (ms := 0) dX12_readsS_29 KX12_379 (c_X12_readsDigit hc) g45 (by decide) (Nat.le_of_ble_eq_true rfl) (fun _ _ q => q.elim) ?_
        rintro _ _ ⟨rfl, rfl⟩
        clear hc
        refine q_if_eq (tgt := 55) dX12_readsS_32 (by decide) (fun z46 => ?_) (fun z46 => ?_)
        · replace E := ite_t E z46
          exact r_fewer [none] (ls_n ls_0) (s_X12_readsS_55 h43 E hK)
        · replace E := ite_f E z46
          refine q_aload_n dX12_readsS_35 rfl ?_
          refine q_bipush (v := (Int32.ofInt 61)) dX12_readsS_36 (by decide) ?_
          replace E := grd_some E
          obtain ⟨g49, E⟩ := E
          replace E := cal_some E
          obtain ⟨x48, h47, hc, E⟩ := E
          refine r_callV1 (mc := 0) (ms := 0) dX12_readsS_38 KX12_183 (c_X12_reads hc) g49 (by decide) (Nat.le_of_ble_eq_true rfl) (fun _ _ q => q.elim) ?_
          rintro _ _ ⟨rfl, rfl⟩
          clear hc
          refine q_if_eq (tgt := 55) dX12_readsS_41 (by decide) (fun z50 => ?_) (fun z50 => ?_)
          · replace E := ite_t E z50
            exact r_fewer [none] (ls_n ls_0) (s_X12_readsS_55 h47 E hK)
          · replace E := ite_f E z50
            refine q_aload_n dX12_readsS_44 rfl ?_
            replace E := grd_some E
            obtain ⟨g53, E⟩ := E
            replace E := cal_some E
            obtain ⟨x52, h51, hc, E⟩ := E
            refine r_callV0 (mc := 0) (ms := 0) dX12_readsS_45 KX12_199 (c_X12_readsPattern hc) g53 (by decide) (Nat.le_of_ble_eq_true rfl) (fun _ _ q => q.elim) ?_
            rintro _ _ ⟨rfl, rfl⟩
            clear hc
            refine q_if_eq (tgt := 55) dX12_readsS_48 (by decide) (fun z54 => ?_) (fun z54 => ?_)
            · replace E := ite_t E z54
              exact r_fewer [none] (ls_n ls_0) (s_X12_readsS_55 h51 E hK)
            · replace E := ite_f E z54
              refine q_iconst dX12_readsS_51 ?_
              refine q_goto (tgt := 56) dX12_readsS_52 (by decide) ?_
              exact r_fewer [none] (ls_n ls_0) (s_X12_readsS_56 (Int32.ofInt 1) h51 E hK)
theorem c_X12_readsS {l : Launch} {G : mG} {p0 : Nat} {h h' : mH} {r : Int32} (E : f_X12_readsS p0 h = some (r, h')) : mMet l G m_X12_readsS 4 0 0 [.ref p0] h (fun v k => v = some (.int r) ∧ h' = k) (fun _ _ => False) :=
  mMet_of (by decide +kernel) rfl (ac_c rfl ac_0) (Nat.le_of_ble_eq_true rfl) (s_X12_readsS_0 p0 h E (And.intro rfl rfl))
set_option maxRecDepth 100000 in
set_option maxHeartbeats 4000000 in
theorem s_X12_readsWord_36 {l : Launch} {G : mG} {Q : Option Value → mH → Prop} {X : String → mH → Prop} (h : mH) {o : Int32 × mH} (E : g_X12_readsWord_36  h = some o) (hK : (fiI Q) o) : mW l G m_X12_readsWord 2 0 0 36 [none, none] [] h Q X := by
  unfold g_X12_readsWord_36 at E
  refine q_iconst dX12_readsWord_36 ?_
  cases E
  exact q_zreturn dX12_readsWord_37 rfl (by decide) hK
set_option maxRecDepth 100000 in
set_option maxHeartbeats 4000000 in
theorem s_X12_readsWord_95 {l : Launch} {G : mG} {Q : Option Value → mH → Prop} {X : String → mH → Prop} (s0 : Int32) (h : mH) {o : Int32 × mH} (E : g_X12_readsWord_95 s0 h = some o) (hK : (fiI Q) o) : mW l G m_X12_readsWord 2 0 0 95 [none, none] [.int s0] h Q X := by
  unfold g_X12_readsWord_95 at E
  replace E := grd_some E
  obtain ⟨g1, E⟩ := E
  cases E
  exact q_zreturn dX12_readsWord_95 rfl (narZ g1) hK
set_option maxRecDepth 100000 in
set_option maxHeartbeats 4000000 in
theorem s_X12_readsWord_94 {l : Launch} {G : mG} {Q : Option Value → mH → Prop} {X : String → mH → Prop} (h : mH) {o : Int32 × mH} (E : g_X12_readsWord_94  h = some o) (hK : (fiI Q) o) : mW l G m_X12_readsWord 2 0 0 94 [none, none] [] h Q X := by
  unfold g_X12_readsWord_94 at E
  refine q_iconst dX12_readsWord_94 ?_
  exact r_fewer [none, none] (ls_n (ls_n ls_0)) (s_X12_readsWord_95 (Int32.ofInt 0) h E hK)
set_option maxRecDepth 100000 in
set_option maxHeartbeats 4000000 in
theorem sb_X12_readsWord_43 {l : Launch} {G : mG} {Q : Option Value → mH → Prop} {X : String → mH → Prop} (p0 : Nat) (v1 : Int32) (h : mH) {o : ((mH) ⊕ (Int32 × mH))} (E : b0_X12_readsWord_43 p0 v1 h = some o) (hK : (lpK (w_X12_readsWord_43 l G Q X p0 v1) (fiI Q)) o) : mW l G m_X12_readsWord 2 0 0 43 [some (.ref p0), some (.int v1)] [] h Q X := by
  unfold b0_X12_readsWord_43 at E
  refine q_aload_n dX12_readsWord_43 rfl ?_
  replace E := grd_some E
  obtain ⟨g3, E⟩ := E
  replace E := cal_some E
  obtain ⟨x2, h1, hc, E⟩ := E
  refine r_callV0 (mc := 0) (ms := 0) dX12_readsWord_44 KX12_168 (c_X12_nextChar hc) g3 (by decide) (Nat.le_of_ble_eq_true rfl) (fun _ _ q => q.elim) ?_
  rintro _ _ ⟨rfl, rfl⟩
  clear hc
  refine q_bipush (v := (Int32.ofInt 97)) dX12_readsWord_47 (by decide) ?_
  refine q_bipush (v := (Int32.ofInt 99)) dX12_readsWord_49 (by decide) ?_
  replace E := cal_some E
  obtain ⟨x5, h4, hc, E⟩ := E
  refine r_callS3 (mc := 0) (ms := 0) dX12_readsWord_51 KX12_132 (c_X12_isBetween hc) (by decide) (Nat.le_of_ble_eq_true rfl) (fun _ _ q => q.elim) ?_
  rintro _ _ ⟨rfl, rfl⟩
  clear hc
  refine q_if_eq (tgt := 70) dX12_readsWord_54 (by decide) (fun z6 => ?_) (fun z6 => ?_)
  · replace E := ite_t E z6
    refine q_aload_n dX12_readsWord_70 rfl ?_
    refine q_iload_n dX12_readsWord_71 rfl ?_
    refine q_aload_n dX12_readsWord_72 rfl ?_
    replace E := grd_some E
    obtain ⟨g7, E⟩ := E
    refine r_getI dX12_readsWord_73 FX12_162 g7 ?_
    replace E := cal_some E
    obtain ⟨x9, h8, hc, E⟩ := E
    refine r_callV2 (mc := 0) (ms := 0) dX12_readsWord_76 KX12_239 (c_X12_takesWord hc) g7 (by decide) (Nat.le_of_ble_eq_true rfl) (fun _ _ q => q.elim) ?_
    rintro _ _ ⟨rfl, rfl⟩
    clear hc
    refine q_if_eq (tgt := 94) dX12_readsWord_79 (by decide) (fun z10 => ?_) (fun z10 => ?_)
    · replace E := ite_t E z10
      obtain ⟨o0, E0, rfl⟩ := inrO_some E
      exact r_fewer [none, none] (ls_n (ls_n ls_0)) (s_X12_readsWord_94 h8 E0 hK)
    · replace E := ite_f E z10
      refine q_aload_n dX12_readsWord_82 rfl ?_
      replace E := grd_some E
      obtain ⟨g11, E⟩ := E
      refine r_getI dX12_readsWord_83 FX12_162 g11 ?_
      refine q_iload_n dX12_readsWord_86 rfl ?_
      refine q_icmp_le (tgt := 94) dX12_readsWord_87 (by decide) (fun z12 => ?_) (fun z12 => ?_)
      · replace E := ite_t E z12
        obtain ⟨o0, E0, rfl⟩ := inrO_some E
        exact r_fewer [none, none] (ls_n (ls_n ls_0)) (s_X12_readsWord_94 h8 E0 hK)
      · replace E := ite_f E z12
        refine q_iconst dX12_readsWord_90 ?_
        refine q_goto (tgt := 95) dX12_readsWord_91 (by decide) ?_
        obtain ⟨o0, E0, rfl⟩ := inrO_some E
        exact r_fewer [none, none] (ls_n (ls_n ls_0)) (s_X12_readsWord_95 (Int32.ofInt 1) h8 E0 hK)
  · replace E := ite_f E z6
    refine q_aload_n dX12_readsWord_57 rfl ?_
    refine q_dup dX12_readsWord_58 ?_
    replace E := grd_some E
    obtain ⟨g13, E⟩ := E
    refine r_getI dX12_readsWord_59 FX12_162 g13 ?_
    refine q_iconst dX12_readsWord_62 ?_
    refine q_iadd dX12_readsWord_63 ?_
    replace E := bnd_x E
    obtain ⟨h14, eh14, E⟩ := E
    refine r_putI (hh := eh14) dX12_readsWord_64 FX12_162 g13 rfl rfl ?_
    refine q_goto (tgt := 43) dX12_readsWord_67 (by decide) ?_
    cases E
    exact r_fewer [some (.ref p0), some (.int v1)] (ls_s (ls_s ls_0)) hK
theorem s_X12_readsWord_43 {l : Launch} {G : mG} {Q : Option Value → mH → Prop} {X : String → mH → Prop} (p0 : Nat) (v1 : Int32) (h : mH) {o : Int32 × mH} (E : g_X12_readsWord_43 p0 v1 h = some o) (hK : (fiI Q) o) : mW l G m_X12_readsWord 2 0 0 43 [some (.ref p0), some (.int v1)] [] h Q X :=
  (lp_go (w_X12_readsWord_43 l G Q X p0 v1) (fiI Q) (b_X12_readsWord_43 p0 v1) (fun s o E hK => sb_X12_readsWord_43 p0 v1 (s) E hK) _ _ _ E hK : w_X12_readsWord_43 l G Q X p0 v1 (h))
set_option maxRecDepth 100000 in
set_option maxHeartbeats 4000000 in
theorem s_X12_readsWord_0 {l : Launch} {G : mG} {Q : Option Value → mH → Prop} {X : String → mH → Prop} (p0 : Nat) (h : mH) {o : Int32 × mH} (E : f_X12_readsWord p0 h = some o) (hK : (fiI Q) o) : mW l G m_X12_readsWord 2 0 0 0 [some (.ref p0), none] [] h Q X := by
  unfold f_X12_readsWord at E
  refine q_aload_n dX12_readsWord_0 rfl ?_
  refine q_bipush (v := (Int32.ofInt 111)) dX12_readsWord_1 (by decide) ?_
  replace E := grd_some E
  obtain ⟨g3, E⟩ := E
  replace E := cal_some E
  obtain ⟨x2, h1, hc, E⟩ := E
  refine r_callV1 (mc := 0) (ms := 0) dX12_readsWord_3 KX12_183 (c_X12_reads hc) g3 (by decide) (Nat.le_of_ble_eq_true rfl) (fun _ _ q => q.elim) ?_
  rintro _ _ ⟨rfl, rfl⟩
  clear hc
  refine q_if_eq (tgt := 36) dX12_readsWord_6 (by decide) (fun z4 => ?_) (fun z4 => ?_)
  · replace E := ite_t E z4
    exact r_fewer [none, none] (ls_n (ls_n ls_0)) (s_X12_readsWord_36 h1 E hK)
  · replace E := ite_f E z4
    refine q_aload_n dX12_readsWord_9 rfl ?_
    refine q_bipush (v := (Int32.ofInt 114)) dX12_readsWord_10 (by decide) ?_
    replace E := grd_some E
    obtain ⟨g7, E⟩ := E
    replace E := cal_some E
    obtain ⟨x6, h5, hc, E⟩ := E
    refine r_callV1 (mc := 0) (ms := 0) dX12_readsWord_12 KX12_183 (c_X12_reads hc) g7 (by decide) (Nat.le_of_ble_eq_true rfl) (fun _ _ q => q.elim) ?_
    rintro _ _ ⟨rfl, rfl⟩
    clear hc
    refine q_if_eq (tgt := 36) dX12_readsWord_15 (by decide) (fun z8 => ?_) (fun z8 => ?_)
    · replace E := ite_t E z8
      exact r_fewer [none, none] (ls_n (ls_n ls_0)) (s_X12_readsWord_36 h5 E hK)
    · replace E := ite_f E z8
      refine q_aload_n dX12_readsWord_18 rfl ?_
      refine q_bipush (v := (Int32.ofInt 100)) dX12_readsWord_19 (by decide) ?_
      replace E := grd_some E
      obtain ⟨g11, E⟩ := E
      replace E := cal_some E
      obtain ⟨x10, h9, hc, E⟩ := E
      refine r_callV1 (mc := 0) (ms := 0) dX12_readsWord_21 KX12_183 (c_X12_reads hc) g11 (by decide) (Nat.le_of_ble_eq_true rfl) (fun _ _ q => q.elim) ?_
      rintro _ _ ⟨rfl, rfl⟩
      clear hc
      refine q_if_eq (tgt := 36) dX12_readsWord_24 (by decide) (fun z12 => ?_) (fun z12 => ?_)
      · replace E := ite_t E z12
        exact r_fewer [none, none] (ls_n (ls_n ls_0)) (s_X12_readsWord_36 h9 E hK)
      · replace E := ite_f E z12
        refine q_aload_n dX12_readsWord_27 rfl ?_
        refine q_bipush (v := (Int32.ofInt 32)) dX12_readsWord_28 (by decide) ?_
        replace E := grd_some E
        obtain ⟨g15, E⟩ := E
        replace E := cal_some E
        obtain ⟨x14, h13, hc, E⟩ := E
        refine r_callV1 (mc := 0) (ms := 0) dX12_readsWord_30 KX12_183 (c_X12_reads hc) g15 (by decide) (Nat.le_of_ble_eq_true rfl) (fun _ _ q => q.elim) ?_
        rintro _ _ ⟨rfl, rfl⟩
        clear hc
        refine q_if_ne (tgt := 38) dX12_readsWord_33 (by decide) (fun z16 => ?_) (fun z16 => ?_)
        · replace E := ite_f E z16
          refine q_aload_n dX12_readsWord_38 rfl ?_
          replace E := grd_some E
          obtain ⟨g17, E⟩ := E
          refine r_getI dX12_readsWord_39 FX12_162 g17 ?_
          replace E := bnd_x E
          obtain ⟨x18, ex18, E⟩ := E
          refine r_istore_n dX12_readsWord_42 (by decide) ex18 (ls' := [some (.ref p0), some (.int x18)]) rfl ?_
          exact r_fewer [some (.ref p0), some (.int x18)] (ls_s (ls_s ls_0)) (s_X12_readsWord_43 p0 x18 h13 E hK)
        · replace E := ite_t E z16
          exact r_fewer [none, none] (ls_n (ls_n ls_0)) (s_X12_readsWord_36 h13 E hK)
theorem c_X12_readsWord {l : Launch} {G : mG} {p0 : Nat} {h h' : mH} {r : Int32} (E : f_X12_readsWord p0 h = some (r, h')) : mMet l G m_X12_readsWord 2 0 0 [.ref p0] h (fun v k => v = some (.int r) ∧ h' = k) (fun _ _ => False) :=
  mMet_of (by decide +kernel) rfl (ac_c rfl ac_0) (Nat.le_of_ble_eq_true rfl) (s_X12_readsWord_0 p0 h E (And.intro rfl rfl))
set_option maxRecDepth 100000 in
set_option maxHeartbeats 4000000 in
theorem s_X12_readsCommand_52 {l : Launch} {G : mG} {Q : Option Value → mH → Prop} {X : String → mH → Prop} (s0 : Int32) (h : mH) {o : Int32 × mH} (E : g_X12_readsCommand_52 s0 h = some o) (hK : (fiI Q) o) : mW l G m_X12_readsCommand 5 0 0 52 [none] [.int s0] h Q X := by
  unfold g_X12_readsCommand_52 at E
  replace E := grd_some E
  obtain ⟨g1, E⟩ := E
  cases E
  exact q_zreturn dX12_readsCommand_52 rfl (narZ g1) hK
set_option maxRecDepth 100000 in
set_option maxHeartbeats 4000000 in
theorem s_X12_readsCommand_51 {l : Launch} {G : mG} {Q : Option Value → mH → Prop} {X : String → mH → Prop} (h : mH) {o : Int32 × mH} (E : g_X12_readsCommand_51  h = some o) (hK : (fiI Q) o) : mW l G m_X12_readsCommand 5 0 0 51 [none] [] h Q X := by
  unfold g_X12_readsCommand_51 at E
  refine q_iconst dX12_readsCommand_51 ?_
  exact r_fewer [none] (ls_n ls_0) (s_X12_readsCommand_52 (Int32.ofInt 0) h E hK)
set_option maxRecDepth 100000 in
set_option maxHeartbeats 4000000 in
theorem s_X12_readsCommand_101 {l : Launch} {G : mG} {Q : Option Value → mH → Prop} {X : String → mH → Prop} (s0 : Int32) (h : mH) {o : Int32 × mH} (E : g_X12_readsCommand_101 s0 h = some o) (hK : (fiI Q) o) : mW l G m_X12_readsCommand 5 0 0 101 [none] [.int s0] h Q X := by
  unfold g_X12_readsCommand_101 at E
  replace E := grd_some E
  obtain ⟨g1, E⟩ := E
  cases E
  exact q_zreturn dX12_readsCommand_101 rfl (narZ g1) hK
set_option maxRecDepth 100000 in
set_option maxHeartbeats 4000000 in
theorem s_X12_readsCommand_100 {l : Launch} {G : mG} {Q : Option Value → mH → Prop} {X : String → mH → Prop} (h : mH) {o : Int32 × mH} (E : g_X12_readsCommand_100  h = some o) (hK : (fiI Q) o) : mW l G m_X12_readsCommand 5 0 0 100 [none] [] h Q X := by
  unfold g_X12_readsCommand_100 at E
  refine q_iconst dX12_readsCommand_100 ?_
  exact r_fewer [none] (ls_n ls_0) (s_X12_readsCommand_101 (Int32.ofInt 0) h E hK)
set_option maxRecDepth 100000 in
set_option maxHeartbeats 4000000 in
theorem s_X12_readsCommand_160 {l : Launch} {G : mG} {Q : Option Value → mH → Prop} {X : String → mH → Prop} (s0 : Int32) (h : mH) {o : Int32 × mH} (E : g_X12_readsCommand_160 s0 h = some o) (hK : (fiI Q) o) : mW l G m_X12_readsCommand 5 0 0 160 [none] [.int s0] h Q X := by
  unfold g_X12_readsCommand_160 at E
  replace E := grd_some E
  obtain ⟨g1, E⟩ := E
  cases E
  exact q_zreturn dX12_readsCommand_160 rfl (narZ g1) hK
set_option maxRecDepth 100000 in
set_option maxHeartbeats 4000000 in
theorem s_X12_readsCommand_159 {l : Launch} {G : mG} {Q : Option Value → mH → Prop} {X : String → mH → Prop} (h : mH) {o : Int32 × mH} (E : g_X12_readsCommand_159  h = some o) (hK : (fiI Q) o) : mW l G m_X12_readsCommand 5 0 0 159 [none] [] h Q X := by
  unfold g_X12_readsCommand_159 at E
  refine q_iconst dX12_readsCommand_159 ?_
  exact r_fewer [none] (ls_n ls_0) (s_X12_readsCommand_160 (Int32.ofInt 0) h E hK)
set_option maxRecDepth 100000 in
set_option maxHeartbeats 4000000 in
theorem s_X12_readsCommand_224 {l : Launch} {G : mG} {Q : Option Value → mH → Prop} {X : String → mH → Prop} (s0 : Int32) (h : mH) {o : Int32 × mH} (E : g_X12_readsCommand_224 s0 h = some o) (hK : (fiI Q) o) : mW l G m_X12_readsCommand 5 0 0 224 [none] [.int s0] h Q X := by
  unfold g_X12_readsCommand_224 at E
  replace E := grd_some E
  obtain ⟨g1, E⟩ := E
  cases E
  exact q_zreturn dX12_readsCommand_224 rfl (narZ g1) hK
set_option maxRecDepth 100000 in
set_option maxHeartbeats 4000000 in
theorem s_X12_readsCommand_223 {l : Launch} {G : mG} {Q : Option Value → mH → Prop} {X : String → mH → Prop} (h : mH) {o : Int32 × mH} (E : g_X12_readsCommand_223  h = some o) (hK : (fiI Q) o) : mW l G m_X12_readsCommand 5 0 0 223 [none] [] h Q X := by
  unfold g_X12_readsCommand_223 at E
  refine q_iconst dX12_readsCommand_223 ?_
  exact r_fewer [none] (ls_n ls_0) (s_X12_readsCommand_224 (Int32.ofInt 0) h E hK)
set_option maxRecDepth 100000 in
set_option maxHeartbeats 4000000 in
theorem s_X12_readsCommand_0 {l : Launch} {G : mG} {Q : Option Value → mH → Prop} {X : String → mH → Prop} (p0 : Nat) (h : mH) {o : Int32 × mH} (E : f_X12_readsCommand p0 h = some o) (hK : (fiI Q) o) : mW l G m_X12_readsCommand 5 0 0 0 [some (.ref p0)] [] h Q X := by
  unfold f_X12_readsCommand at E
  refine q_aload_n dX12_readsCommand_0 rfl ?_
  refine q_aload_n dX12_readsCommand_1 rfl ?_
  replace E := grd_some E
  obtain ⟨g3, E⟩ := E
  replace E := cal_some E
  obtain ⟨x2, h1, hc, E⟩ := E
  refine r_callV0 (mc := 0) (ms := 0) dX12_readsCommand_2 KX12_168 (c_X12_nextChar hc) g3 (by decide) (Nat.le_of_ble_eq_true rfl) (fun _ _ q => q.elim) ?_
  rintro _ _ ⟨rfl, rfl⟩
  clear hc
  replace E := grd_some E
  obtain ⟨g4, E⟩ := E
  replace E := bnd_x E
  obtain ⟨h5, eh5, E⟩ := E
  refine r_putI (hh := eh5) dX12_readsCommand_5 FX12_382 g4 rfl rfl ?_
  refine q_aload_n dX12_readsCommand_8 rfl ?_
  refine q_bipush (v := (Int32.ofInt 115)) dX12_readsCommand_9 (by decide) ?_
  replace E := grd_some E
  obtain ⟨g8, E⟩ := E
  replace E := cal_some E
  obtain ⟨x7, h6, hc, E⟩ := E
  refine r_callV1 (mc := 0) (ms := 0) dX12_readsCommand_11 KX12_183 (c_X12_reads hc) g8 (by decide) (Nat.le_of_ble_eq_true rfl) (fun _ _ q => q.elim) ?_
  rintro _ _ ⟨rfl, rfl⟩
  clear hc
  refine q_if_eq (tgt := 22) dX12_readsCommand_14 (by decide) (fun z9 => ?_) (fun z9 => ?_)
  · replace E := ite_t E z9
    refine q_aload_n dX12_readsCommand_22 rfl ?_
    refine q_bipush (v := (Int32.ofInt 111)) dX12_readsCommand_23 (by decide) ?_
    replace E := grd_some E
    obtain ⟨g12, E⟩ := E
    replace E := cal_some E
    obtain ⟨x11, h10, hc, E⟩ := E
    refine r_callV1 (mc := 0) (ms := 0) dX12_readsCommand_25 KX12_183 (c_X12_reads hc) g12 (by decide) (Nat.le_of_ble_eq_true rfl) (fun _ _ q => q.elim) ?_
    rintro _ _ ⟨rfl, rfl⟩
    clear hc
    refine q_if_eq (tgt := 53) dX12_readsCommand_28 (by decide) (fun z13 => ?_) (fun z13 => ?_)
    · replace E := ite_t E z13
      refine q_aload_n dX12_readsCommand_53 rfl ?_
      refine q_bipush (v := (Int32.ofInt 116)) dX12_readsCommand_54 (by decide) ?_
      replace E := grd_some E
      obtain ⟨g16, E⟩ := E
      replace E := cal_some E
      obtain ⟨x15, h14, hc, E⟩ := E
      refine r_callV1 (mc := 0) (ms := 0) dX12_readsCommand_56 KX12_183 (c_X12_reads hc) g16 (by decide) (Nat.le_of_ble_eq_true rfl) (fun _ _ q => q.elim) ?_
      rintro _ _ ⟨rfl, rfl⟩
      clear hc
      refine q_if_eq (tgt := 102) dX12_readsCommand_59 (by decide) (fun z17 => ?_) (fun z17 => ?_)
      · replace E := ite_t E z17
        refine q_aload_n dX12_readsCommand_102 rfl ?_
        refine q_bipush (v := (Int32.ofInt 100)) dX12_readsCommand_103 (by decide) ?_
        replace E := grd_some E
        obtain ⟨g20, E⟩ := E
        replace E := cal_some E
        obtain ⟨x19, h18, hc, E⟩ := E
        refine r_callV1 (mc := 0) (ms := 0) dX12_readsCommand_105 KX12_183 (c_X12_reads hc) g20 (by decide) (Nat.le_of_ble_eq_true rfl) (fun _ _ q => q.elim) ?_
        rintro _ _ ⟨rfl, rfl⟩
        clear hc
        refine q_if_eq (tgt := 161) dX12_readsCommand_108 (by decide) (fun z21 => ?_) (fun z21 => ?_)
        · replace E := ite_t E z21
          refine q_aload_n dX12_readsCommand_161 rfl ?_
          refine q_bipush (v := (Int32.ofInt 119)) dX12_readsCommand_162 (by decide) ?_
          replace E := grd_some E
          obtain ⟨g24, E⟩ := E
          replace E := cal_some E
          obtain ⟨x23, h22, hc, E⟩ := E
          refine r_callV1 (mc := 0) (ms := 0) dX12_readsCommand_164 KX12_183 (c_X12_reads hc) g24 (by decide) (Nat.le_of_ble_eq_true rfl) (fun _ _ q => q.elim) ?_
          rintro _ _ ⟨rfl, rfl⟩
          clear hc
          refine q_if_eq (tgt := 175) dX12_readsCommand_167 (by decide) (fun z25 => ?_) (fun z25 => ?_)
          · replace E := ite_t E z25
            refine q_aload_n dX12_readsCommand_175 rfl ?_
            refine q_bipush (v := (Int32.ofInt 99)) dX12_readsCommand_176 (by decide) ?_
            replace E := grd_some E
            obtain ⟨g28, E⟩ := E
            replace E := cal_some E
            obtain ⟨x27, h26, hc, E⟩ := E
            refine r_callV1 (mc := 0) (ms := 0) dX12_readsCommand_178 KX12_183 (c_X12_reads hc) g28 (by decide) (Nat.le_of_ble_eq_true rfl) (fun _ _ q => q.elim) ?_
            rintro _ _ ⟨rfl, rfl⟩
            clear hc
            refine q_if_eq (tgt := 223) dX12_readsCommand_181 (by decide) (fun z29 => ?_) (fun z29 => ?_)
            · replace E := ite_t E z29
              exact r_fewer [none] (ls_n ls_0) (s_X12_readsCommand_223 h26 E hK)
            · replace E := ite_f E z29
              refine q_aload_n dX12_readsCommand_184 rfl ?_
              refine q_bipush (v := (Int32.ofInt 117)) dX12_readsCommand_185 (by decide) ?_
              replace E := grd_some E
              obtain ⟨g32, E⟩ := E
              replace E := cal_some E
              obtain ⟨x31, h30, hc, E⟩ := E
              refine r_callV1 (mc := 0) (ms := 0) dX12_readsCommand_187 KX12_183 (c_X12_reads hc) g32 (by decide) (Nat.le_of_ble_eq_true rfl) (fun _ _ q => q.elim) ?_
              rintro _ _ ⟨rfl, rfl⟩
              clear hc
              refine q_if_eq (tgt := 223) dX12_readsCommand_190 (by decide) (fun z33 => ?_) (fun z33 => ?_)
              · replace E := ite_t E z33
                exact r_fewer [none] (ls_n ls_0) (s_X12_readsCommand_223 h30 E hK)
              · replace E := ite_f E z33
                refine q_aload_n dX12_readsCommand_193 rfl ?_
                refine q_bipush (v := (Int32.ofInt 116)) dX12_readsCommand_194 (by decide) ?_
                replace E := grd_some E
                obtain ⟨g36, E⟩ := E
                replace E := cal_some E
                obtain ⟨x35, h34, hc, E⟩ := E
                refine r_callV1 (mc := 0) (ms := 0) dX12_readsCommand_196 KX12_183 (c_X12_reads hc) g36 (by decide) (Nat.le_of_ble_eq_true rfl) (fun _ _ q => q.elim) ?_
                rintro _ _ ⟨rfl, rfl⟩
                clear hc
                refine q_if_eq (tgt := 223) dX12_readsCommand_199 (by decide) (fun z37 => ?_) (fun z37 => ?_)
                · replace E := ite_t E z37
                  exact r_fewer [none] (ls_n ls_0) (s_X12_readsCommand_223 h34 E hK)
                · replace E := ite_f E z37
                  refine q_aload_n dX12_readsCommand_202 rfl ?_
                  refine q_bipush (v := (Int32.ofInt 32)) dX12_readsCommand_203 (by decide) ?_
                  replace E := grd_some E
                  obtain ⟨g40, E⟩ := E
                  replace E := cal_some E
                  obtain ⟨x39, h38, hc, E⟩ := E
                  refine r_callV1 (mc := 0) (ms := 0) dX12_readsCommand_205 KX12_183 (c_X12_reads hc) g40 (by decide) (Nat.le_of_ble_eq_true rfl) (fun _ _ q => q.elim) ?_
                  rintro _ _ ⟨rfl, rfl⟩
                  clear hc
                  refine q_if_eq (tgt := 223) dX12_readsCommand_208 (by decide) (fun z41 => ?_) (fun z41 => ?_)
                  · replace E := ite_t E z41
                    exact r_fewer [none] (ls_n ls_0) (s_X12_readsCommand_223 h38 E hK)
                  · replace E := ite_f E z41
                    refine q_aload_n dX12_readsCommand_211 rfl ?_
                    refine q_iconst dX12_readsCommand_212 ?_
                    replace E := grd_some E
                    obtain ⟨g44, E⟩ := E
                    replace E := cal_some E
                    obtain ⟨x43, h42, hc, E⟩ := E
                    refine r_callV1 (mc := 0) (ms := 0) dX12_readsCommand_213 KX12_379 (c_X12_readsDigit hc) g44 (by decide) (Nat.le_of_ble_eq_true rfl) (fun _ _ q => q.elim) ?_
                    rintro _ _ ⟨rfl, rfl⟩
                    clear hc
                    refine q_if_eq (tgt := 223) dX12_readsCommand_216 (by decide) (fun z45 => ?_) (fun z45 => ?_)
                    · replace E := ite_t E z45
                      exact r_fewer [none] (ls_n ls_0) (s_X12_readsCommand_223 h42 E hK)
                    · replace E := ite_f E z45
                      refine q_iconst dX12_readsCommand_219 ?_
                      refine q_goto (tgt := 224) dX12_readsCommand_220 (by decide) ?_
                      exact r_fewer [none] (ls_n ls_0) (s_X12_readsCommand_224 (Int32.ofInt 1) h42 E hK)
          · replace E := ite_f E z25
            refine q_aload_n dX12_readsCommand_170 rfl ?_
            replace E := grd_some E
            obtain ⟨g48, E⟩ := E
            replace E := cal_some E
            obtain ⟨x47, h46, hc, E⟩ := E
            refine r_callV0 (mc := 0) (ms := 0) dX12_readsCommand_171 KX12_391 (c_X12_readsWord hc) g48 (by decide) (Nat.le_of_ble_eq_true rfl) (fun _ _ q => q.elim) ?_
            rintro _ _ ⟨rfl, rfl⟩
            clear hc
            replace E := grd_some E
            obtain ⟨g49, E⟩ := E
            cases E
            exact q_zreturn dX12_readsCommand_174 rfl (narZ g49) hK
        · replace E := ite_f E z21
          refine q_aload_n dX12_readsCommand_111 rfl ?_
          refine q_bipush (v := (Int32.ofInt 114)) dX12_readsCommand_112 (by decide) ?_
          replace E := grd_some E
          obtain ⟨g52, E⟩ := E
          replace E := cal_some E
          obtain ⟨x51, h50, hc, E⟩ := E
          refine r_callV1 (mc := 0) (ms := 0) dX12_readsCommand_114 KX12_183 (c_X12_reads hc) g52 (by decide) (Nat.le_of_ble_eq_true rfl) (fun _ _ q => q.elim) ?_
          rintro _ _ ⟨rfl, rfl⟩
          clear hc
          refine q_if_eq (tgt := 159) dX12_readsCommand_117 (by decide) (fun z53 => ?_) (fun z53 => ?_)
          · replace E := ite_t E z53
            exact r_fewer [none] (ls_n ls_0) (s_X12_readsCommand_159 h50 E hK)
          · replace E := ite_f E z53
            refine q_aload_n dX12_readsCommand_120 rfl ?_
            refine q_bipush (v := (Int32.ofInt 111)) dX12_readsCommand_121 (by decide) ?_
            replace E := grd_some E
            obtain ⟨g56, E⟩ := E
            replace E := cal_some E
            obtain ⟨x55, h54, hc, E⟩ := E
            refine r_callV1 (mc := 0) (ms := 0) dX12_readsCommand_123 KX12_183 (c_X12_reads hc) g56 (by decide) (Nat.le_of_ble_eq_true rfl) (fun _ _ q => q.elim) ?_
            rintro _ _ ⟨rfl, rfl⟩
            clear hc
            refine q_if_eq (tgt := 159) dX12_readsCommand_126 (by decide) (fun z57 => ?_) (fun z57 => ?_)
            · replace E := ite_t E z57
              exact r_fewer [none] (ls_n ls_0) (s_X12_readsCommand_159 h54 E hK)
            · replace E := ite_f E z57
              refine q_aload_n dX12_readsCommand_129 rfl ?_
              refine q_bipush (v := (Int32.ofInt 112)) dX12_readsCommand_130 (by decide) ?_
              replace E := grd_some E
              obtain ⟨g60, E⟩ := E
              replace E := cal_some E
              obtain ⟨x59, h58, hc, E⟩ := E
              refine r_callV1 (mc := 0) (ms := 0) dX12_readsCommand_132 KX12_183 (c_X12_reads hc) g60 (by decide) (Nat.le_of_ble_eq_true rfl) (fun _ _ q => q.elim) ?_
              rintro _ _ ⟨rfl, rfl⟩
              clear hc
              refine q_if_eq (tgt := 159) dX12_readsCommand_135 (by decide) (fun z61 => ?_) (fun z61 => ?_)
              · replace E := ite_t E z61
                exact r_fewer [none] (ls_n ls_0) (s_X12_readsCommand_159 h58 E hK)
              · replace E := ite_f E z61
                refine q_aload_n dX12_readsCommand_138 rfl ?_
                refine q_bipush (v := (Int32.ofInt 32)) dX12_readsCommand_139 (by decide) ?_
                replace E := grd_some E
                obtain ⟨g64, E⟩ := E
                replace E := cal_some E
                obtain ⟨x63, h62, hc, E⟩ := E
                refine r_callV1 (mc := 0) (ms := 0) dX12_readsCommand_141 KX12_183 (c_X12_reads hc) g64 (by decide) (Nat.le_of_ble_eq_true rfl) (fun _ _ q => q.elim) ?_
                rintro _ _ ⟨rfl, rfl⟩
                clear hc
                refine q_if_eq (tgt := 159) dX12_readsCommand_144 (by decide) (fun z65 => ?_) (fun z65 => ?_)
                · replace E := ite_t E z65
                  exact r_fewer [none] (ls_n ls_0) (s_X12_readsCommand_159 h62 E hK)
                · replace E := ite_f E z65
                  refine q_aload_n dX12_readsCommand_147 rfl ?_
                  refine q_iconst dX12_readsCommand_148 ?_
                  replace E := grd_some E
                  obtain ⟨g68, E⟩ := E
                  replace E := cal_some E
                  obtain ⟨x67, h66, hc, E⟩ := E
                  refine r_callV1 (mc := 0) (ms := 0) dX12_readsCommand_149 KX12_379 (c_X12_readsDigit hc) g68 (by decide) (Nat.le_of_ble_eq_true rfl) (fun _ _ q => q.elim) ?_
                  rintro _ _ ⟨rfl, rfl⟩
                  clear hc
                  refine q_if_eq (tgt := 159) dX12_readsCommand_152 (by decide) (fun z69 => ?_) (fun z69 => ?_)
                  · replace E := ite_t E z69
                    exact r_fewer [none] (ls_n ls_0) (s_X12_readsCommand_159 h66 E hK)
                  · replace E := ite_f E z69
                    refine q_iconst dX12_readsCommand_155 ?_
                    refine q_goto (tgt := 160) dX12_readsCommand_156 (by decide) ?_
                    exact r_fewer [none] (ls_n ls_0) (s_X12_readsCommand_160 (Int32.ofInt 1) h66 E hK)
      · replace E := ite_f E z17
        refine q_aload_n dX12_readsCommand_62 rfl ?_
        refine q_bipush (v := (Int32.ofInt 104)) dX12_readsCommand_63 (by decide) ?_
        replace E := grd_some E
        obtain ⟨g72, E⟩ := E
        replace E := cal_some E
        obtain ⟨x71, h70, hc, E⟩ := E
        refine r_callV1 (mc := 0) (ms := 0) dX12_readsCommand_65 KX12_183 (c_X12_reads hc) g72 (by decide) (Nat.le_of_ble_eq_true rfl) (fun _ _ q => q.elim) ?_
        rintro _ _ ⟨rfl, rfl⟩
        clear hc
        refine q_if_eq (tgt := 100) dX12_readsCommand_68 (by decide) (fun z73 => ?_) (fun z73 => ?_)
        · replace E := ite_t E z73
          exact r_fewer [none] (ls_n ls_0) (s_X12_readsCommand_100 h70 E hK)
        · replace E := ite_f E z73
          refine q_aload_n dX12_readsCommand_71 rfl ?_
          refine q_bipush (v := (Int32.ofInt 101)) dX12_readsCommand_72 (by decide) ?_
          replace E := grd_some E
          obtain ⟨g76, E⟩ := E
          replace E := cal_some E
          obtain ⟨x75, h74, hc, E⟩ := E
          refine r_callV1 (mc := 0) (ms := 0) dX12_readsCommand_74 KX12_183 (c_X12_reads hc) g76 (by decide) (Nat.le_of_ble_eq_true rfl) (fun _ _ q => q.elim) ?_
          rintro _ _ ⟨rfl, rfl⟩
          clear hc
          refine q_if_eq (tgt := 100) dX12_readsCommand_77 (by decide) (fun z77 => ?_) (fun z77 => ?_)
          · replace E := ite_t E z77
            exact r_fewer [none] (ls_n ls_0) (s_X12_readsCommand_100 h74 E hK)
          · replace E := ite_f E z77
            refine q_aload_n dX12_readsCommand_80 rfl ?_
            refine q_bipush (v := (Int32.ofInt 110)) dX12_readsCommand_81 (by decide) ?_
            replace E := grd_some E
            obtain ⟨g80, E⟩ := E
            replace E := cal_some E
            obtain ⟨x79, h78, hc, E⟩ := E
            refine r_callV1 (mc := 0) (ms := 0) dX12_readsCommand_83 KX12_183 (c_X12_reads hc) g80 (by decide) (Nat.le_of_ble_eq_true rfl) (fun _ _ q => q.elim) ?_
            rintro _ _ ⟨rfl, rfl⟩
            clear hc
            refine q_if_eq (tgt := 100) dX12_readsCommand_86 (by decide) (fun z81 => ?_) (fun z81 => ?_)
            · replace E := ite_t E z81
              exact r_fewer [none] (ls_n ls_0) (s_X12_readsCommand_100 h78 E hK)
            · replace E := ite_f E z81
              refine q_aload_n dX12_readsCommand_89 rfl ?_
              replace E := grd_some E
              obtain ⟨g84, E⟩ := E
              replace E := cal_some E
              obtain ⟨x83, h82, hc, E⟩ := E
              refine r_callV0 (mc := 0) (ms := 0) dX12_readsCommand_90 KX12_388 (c_X12_readsThree hc) g84 (by decide) (Nat.le_of_ble_eq_true rfl) (fun _ _ q => q.elim) ?_
              rintro _ _ ⟨rfl, rfl⟩
              clear hc
              refine q_if_eq (tgt := 100) dX12_readsCommand_93 (by decide) (fun z85 => ?_) (fun z85 => ?_)
              · replace E := ite_t E z85
                exact r_fewer [none] (ls_n ls_0) (s_X12_readsCommand_100 h82 E hK)
              · replace E := ite_f E z85
                refine q_iconst dX12_readsCommand_96 ?_
                refine q_goto (tgt := 101) dX12_readsCommand_97 (by decide) ?_
                exact r_fewer [none] (ls_n ls_0) (s_X12_readsCommand_101 (Int32.ofInt 1) h82 E hK)
    · replace E := ite_f E z13
      refine q_aload_n dX12_readsCommand_31 rfl ?_
      refine q_bipush (v := (Int32.ofInt 114)) dX12_readsCommand_32 (by decide) ?_
      replace E := grd_some E
      obtain ⟨g88, E⟩ := E
      replace E := cal_some E
      obtain ⟨x87, h86, hc, E⟩ := E
      refine r_callV1 (mc := 0) (ms := 0) dX12_readsCommand_34 KX12_183 (c_X12_reads hc) g88 (by decide) (Nat.le_of_ble_eq_true rfl) (fun _ _ q => q.elim) ?_
      rintro _ _ ⟨rfl, rfl⟩
      clear hc
      refine q_if_eq (tgt := 51) dX12_readsCommand_37 (by decide) (fun z89 => ?_) (fun z89 => ?_)
      · replace E := ite_t E z89
        exact r_fewer [none] (ls_n ls_0) (s_X12_readsCommand_51 h86 E hK)
      · replace E := ite_f E z89
        refine q_aload_n dX12_readsCommand_40 rfl ?_
        replace E := grd_some E
        obtain ⟨g92, E⟩ := E
        replace E := cal_some E
        obtain ⟨x91, h90, hc, E⟩ := E
        refine r_callV0 (mc := 0) (ms := 0) dX12_readsCommand_41 KX12_388 (c_X12_readsThree hc) g92 (by decide) (Nat.le_of_ble_eq_true rfl) (fun _ _ q => q.elim) ?_
        rintro _ _ ⟨rfl, rfl⟩
        clear hc
        refine q_if_eq (tgt := 51) dX12_readsCommand_44 (by decide) (fun z93 => ?_) (fun z93 => ?_)
        · replace E := ite_t E z93
          exact r_fewer [none] (ls_n ls_0) (s_X12_readsCommand_51 h90 E hK)
        · replace E := ite_f E z93
          refine q_iconst dX12_readsCommand_47 ?_
          refine q_goto (tgt := 52) dX12_readsCommand_48 (by decide) ?_
          exact r_fewer [none] (ls_n ls_0) (s_X12_readsCommand_52 (Int32.ofInt 1) h90 E hK)
  · replace E := ite_f E z9
    refine q_aload_n dX12_readsCommand_17 rfl ?_
    replace E := grd_some E
    obtain ⟨g96, E⟩ := E
    replace E := cal_some E
    obtain ⟨x95, h94, hc, E⟩ := E
    refine r_callV0 (mc := 0) (ms := 0) dX12_readsCommand_18 KX12_385 (c_X12_readsS hc) g96 (by decide) (Nat.le_of_ble_eq_true rfl) (fun _ _ q => q.elim) ?_
    rintro _ _ ⟨rfl, rfl⟩
    clear hc
    replace E := grd_some E
    obtain ⟨g97, E⟩ := E
    cases E
    exact q_zreturn dX12_readsCommand_21 rfl (narZ g97) hK
theorem c_X12_readsCommand {l : Launch} {G : mG} {p0 : Nat} {h h' : mH} {r : Int32} (E : f_X12_readsCommand p0 h = some (r, h')) : mMet l G m_X12_readsCommand 5 0 0 [.ref p0] h (fun v k => v = some (.int r) ∧ h' = k) (fun _ _ => False) :=
  mMet_of (by decide +kernel) rfl (ac_c rfl ac_0) (Nat.le_of_ble_eq_true rfl) (s_X12_readsCommand_0 p0 h E (And.intro rfl rfl))
set_option maxRecDepth 100000 in
set_option maxHeartbeats 4000000 in
theorem s_X12_readsAll_46 {l : Launch} {G : mG} {Q : Option Value → mH → Prop} {X : String → mH → Prop} (s0 : Int32) (h : mH) {o : Int32 × mH} (E : g_X12_readsAll_46 s0 h = some o) (hK : (fiI Q) o) : mW l G m_X12_readsAll 6 0 0 46 [none, none] [.int s0] h Q X := by
  unfold g_X12_readsAll_46 at E
  replace E := grd_some E
  obtain ⟨g1, E⟩ := E
  cases E
  exact q_zreturn dX12_readsAll_46 rfl (narZ g1) hK
set_option maxRecDepth 100000 in
set_option maxHeartbeats 4000000 in
theorem sb_X12_readsAll_7 {l : Launch} {G : mG} {Q : Option Value → mH → Prop} {X : String → mH → Prop} (p0 : Nat) (v1 : Int32) (h : mH) {o : ((Int32 × mH) ⊕ (Int32 × mH))} (E : b0_X12_readsAll_7 p0 v1 h = some o) (hK : (lpK (w_X12_readsAll_7 l G Q X p0) (fiI Q)) o) : mW l G m_X12_readsAll 6 0 0 7 [some (.ref p0), some (.int v1)] [] h Q X := by
  unfold b0_X12_readsAll_7 at E
  refine q_iload_n dX12_readsAll_7 rfl ?_
  refine q_if_eq (tgt := 30) dX12_readsAll_8 (by decide) (fun z1 => ?_) (fun z1 => ?_)
  · replace E := ite_t E z1
    refine q_aload_n dX12_readsAll_30 rfl ?_
    replace E := grd_some E
    obtain ⟨g2, E⟩ := E
    refine r_getI dX12_readsAll_31 FX12_162 g2 ?_
    refine q_aload_n dX12_readsAll_34 rfl ?_
    refine r_getI dX12_readsAll_35 FX12_165 g2 ?_
    refine q_icmp_ne (tgt := 45) dX12_readsAll_38 (by decide) (fun z3 => ?_) (fun z3 => ?_)
    · replace E := ite_f E z3
      refine q_iconst dX12_readsAll_45 ?_
      obtain ⟨o0, E0, rfl⟩ := inrO_some E
      exact r_fewer [none, none] (ls_n (ls_n ls_0)) (s_X12_readsAll_46 (Int32.ofInt 0) h E0 hK)
    · replace E := ite_t E z3
      refine q_iconst dX12_readsAll_41 ?_
      refine q_goto (tgt := 46) dX12_readsAll_42 (by decide) ?_
      obtain ⟨o0, E0, rfl⟩ := inrO_some E
      exact r_fewer [none, none] (ls_n (ls_n ls_0)) (s_X12_readsAll_46 (Int32.ofInt 1) h E0 hK)
  · replace E := ite_f E z1
    refine q_aload_n dX12_readsAll_11 rfl ?_
    replace E := grd_some E
    obtain ⟨g6, E⟩ := E
    replace E := cal_some E
    obtain ⟨x5, h4, hc, E⟩ := E
    refine r_callV0 (mc := 0) (ms := 0) dX12_readsAll_12 KX12_394 (c_X12_readsCommand hc) g6 (by decide) (Nat.le_of_ble_eq_true rfl) (fun _ _ q => q.elim) ?_
    rintro _ _ ⟨rfl, rfl⟩
    clear hc
    refine q_if_ne (tgt := 20) dX12_readsAll_15 (by decide) (fun z7 => ?_) (fun z7 => ?_)
    · replace E := ite_f E z7
      refine q_aload_n dX12_readsAll_20 rfl ?_
      refine q_bipush (v := (Int32.ofInt 59)) dX12_readsAll_21 (by decide) ?_
      replace E := grd_some E
      obtain ⟨g10, E⟩ := E
      replace E := cal_some E
      obtain ⟨x9, h8, hc, E⟩ := E
      refine r_callV1 (mc := 0) (ms := 0) dX12_readsAll_23 KX12_183 (c_X12_reads hc) g10 (by decide) (Nat.le_of_ble_eq_true rfl) (fun _ _ q => q.elim) ?_
      rintro _ _ ⟨rfl, rfl⟩
      clear hc
      refine r_istore_n dX12_readsAll_26 (by decide) rfl (ls' := [some (.ref p0), some (.int x9)]) rfl ?_
      refine q_goto (tgt := 7) dX12_readsAll_27 (by decide) ?_
      cases E
      exact r_fewer [some (.ref p0), some (.int x9)] (ls_s (ls_s ls_0)) hK
    · replace E := ite_t E z7
      refine q_iconst dX12_readsAll_18 ?_
      cases E
      exact q_zreturn dX12_readsAll_19 rfl (by decide) hK
theorem s_X12_readsAll_7 {l : Launch} {G : mG} {Q : Option Value → mH → Prop} {X : String → mH → Prop} (p0 : Nat) (v1 : Int32) (h : mH) {o : Int32 × mH} (E : g_X12_readsAll_7 p0 v1 h = some o) (hK : (fiI Q) o) : mW l G m_X12_readsAll 6 0 0 7 [some (.ref p0), some (.int v1)] [] h Q X :=
  (lp_go (w_X12_readsAll_7 l G Q X p0) (fiI Q) (b_X12_readsAll_7 p0) (fun s o E hK => sb_X12_readsAll_7 p0 s.1 (s.2) E hK) _ _ _ E hK : w_X12_readsAll_7 l G Q X p0 (v1, h))
set_option maxRecDepth 100000 in
set_option maxHeartbeats 4000000 in
theorem s_X12_readsAll_0 {l : Launch} {G : mG} {Q : Option Value → mH → Prop} {X : String → mH → Prop} (p0 : Nat) (h : mH) {o : Int32 × mH} (E : f_X12_readsAll p0 h = some o) (hK : (fiI Q) o) : mW l G m_X12_readsAll 6 0 0 0 [some (.ref p0), none] [] h Q X := by
  unfold f_X12_readsAll at E
  refine q_aload_n dX12_readsAll_0 rfl ?_
  refine q_iconst dX12_readsAll_1 ?_
  replace E := grd_some E
  obtain ⟨g1, E⟩ := E
  replace E := bnd_x E
  obtain ⟨h2, eh2, E⟩ := E
  refine r_putI (hh := eh2) dX12_readsAll_2 FX12_162 g1 rfl rfl ?_
  refine q_iconst dX12_readsAll_5 ?_
  refine r_istore_n dX12_readsAll_6 (by decide) rfl (ls' := [some (.ref p0), some (.int (Int32.ofInt 1))]) rfl ?_
  exact r_fewer [some (.ref p0), some (.int (Int32.ofInt 1))] (ls_s (ls_s ls_0)) (s_X12_readsAll_7 p0 (Int32.ofInt 1) h2 E hK)
theorem c_X12_readsAll {l : Launch} {G : mG} {p0 : Nat} {h h' : mH} {r : Int32} (E : f_X12_readsAll p0 h = some (r, h')) : mMet l G m_X12_readsAll 6 0 0 [.ref p0] h (fun v k => v = some (.int r) ∧ h' = k) (fun _ _ => False) :=
  mMet_of (by decide +kernel) rfl (ac_c rfl ac_0) (Nat.le_of_ble_eq_true rfl) (s_X12_readsAll_0 p0 h E (And.intro rfl rfl))
