set_option maxRecDepth 100000 in
set_option maxHeartbeats 4000000 in
theorem s_X12_writesSign_63 {l : Launch} {G : va_G × (Nat → ClassId)} {Q : Option Value → mH → Prop} {X : String → mH → Prop} (p0 : Nat) (s0 : Int32) (s1 : Int32) (sp2 : Nat) (h : mH) {o : Unit × mH} (E : g_X12_writesSign_63 p0 s0 s1 sp2 h = some o) (hK : (fiV Q) o) : mW l G m_X12_writesSign 2 0 0 63 [some (.ref p0), none] [.int s0, .int s1, .ref sp2] h Q X := by
  unfold g_X12_writesSign_63 at E
  obtain ⟨g3, E⟩ := grd_some E
  obtain ⟨_, h1, hc, E⟩ := cal_some E
  refine r_callV2 (mc := 0) (ms := 0) dX12_writesSign_63 KX12_367 (c_X12_inserts hc) g3 (by decide) (Nat.le_of_ble_eq_true rfl) (fun _ _ q => q.elim) ?_
  rintro _ _ ⟨rfl, rfl⟩
  clear hc
  refine q_aload_n dX12_writesSign_66 rfl ?_
  obtain ⟨g4, E⟩ := grd_some E
  obtain ⟨a5, ea5, E⟩ := orf_some E
  refine r_getR dX12_writesSign_67 FX12_111 g4 ea5 ?_
  refine q_aload_n dX12_writesSign_70 rfl ?_
  refine r_getI dX12_writesSign_71 FX12_256 g4 ?_
  refine q_iconst dX12_writesSign_74 ?_
  refine q_isub dX12_writesSign_75 ?_
  refine q_iconst dX12_writesSign_76 ?_
  obtain ⟨g7, E⟩ := grd_some E
  obtain ⟨g8, E⟩ := grd_some E
  obtain ⟨h6, eh6, E⟩ := bnd_x E
  refine r_iastore (hh := eh6) dX12_writesSign_77 g7 g8 ?_
  cases E
  exact q_return dX12_writesSign_78 rfl hK
set_option maxRecDepth 100000 in
set_option maxHeartbeats 4000000 in
theorem s_X12_writesSign_34 {l : Launch} {G : va_G × (Nat → ClassId)} {Q : Option Value → mH → Prop} {X : String → mH → Prop} (p0 : Nat) (v1 : Int32) (h : mH) {o : Unit × mH} (E : g_X12_writesSign_34 p0 v1 h = some o) (hK : (fiV Q) o) : mW l G m_X12_writesSign 2 0 0 34 [some (.ref p0), some (.int v1)] [] h Q X := by
  unfold g_X12_writesSign_34 at E
  refine q_aload_n dX12_writesSign_34 rfl ?_
  refine q_aload_n dX12_writesSign_35 rfl ?_
  obtain ⟨g1, E⟩ := grd_some E
  refine r_getI dX12_writesSign_36 FX12_364 g1 ?_
  refine q_iload_n dX12_writesSign_39 rfl ?_
  refine q_bipush (v := (Int32.ofInt 6)) dX12_writesSign_40 (by decide) ?_
  refine q_icmp_ne (tgt := 50) dX12_writesSign_42 (by decide) (fun z2 => ?_) (fun z2 => ?_)
  · replace E := ite_f E z2
    refine q_iload_n dX12_writesSign_50 rfl ?_
    refine q_bipush (v := (Int32.ofInt 7)) dX12_writesSign_51 (by decide) ?_
    refine q_icmp_ne (tgt := 61) dX12_writesSign_53 (by decide) (fun z3 => ?_) (fun z3 => ?_)
    · replace E := ite_f E z3
      refine q_bipush (v := (Int32.ofInt 63)) dX12_writesSign_61 (by decide) ?_
      exact r_fewer [some (.ref p0), none] (ls_s (ls_n ls_0)) (s_X12_writesSign_63 p0 (Int32.ofInt 63) (gi h p0 44) p0 h E hK)
    · replace E := ite_t E z3
      refine q_bipush (v := (Int32.ofInt 43)) dX12_writesSign_56 (by decide) ?_
      refine q_goto (tgt := 63) dX12_writesSign_58 (by decide) ?_
      exact r_fewer [some (.ref p0), none] (ls_s (ls_n ls_0)) (s_X12_writesSign_63 p0 (Int32.ofInt 43) (gi h p0 44) p0 h E hK)
  · replace E := ite_t E z2
    refine q_bipush (v := (Int32.ofInt 42)) dX12_writesSign_45 (by decide) ?_
    refine q_goto (tgt := 63) dX12_writesSign_47 (by decide) ?_
    exact r_fewer [some (.ref p0), none] (ls_s (ls_n ls_0)) (s_X12_writesSign_63 p0 (Int32.ofInt 42) (gi h p0 44) p0 h E hK)
set_option maxRecDepth 100000 in
set_option maxHeartbeats 4000000 in
theorem s_X12_writesSign_0 {l : Launch} {G : va_G × (Nat → ClassId)} {Q : Option Value → mH → Prop} {X : String → mH → Prop} (p0 : Nat) (v1 : Int32) (h : mH) {o : Unit × mH} (E : f_X12_writesSign p0 v1 h = some o) (hK : (fiV Q) o) : mW l G m_X12_writesSign 2 0 0 0 [some (.ref p0), some (.int v1)] [] h Q X := by
  unfold f_X12_writesSign at E
  refine q_aload_n dX12_writesSign_0 rfl ?_
  obtain ⟨g1, E⟩ := grd_some E
  obtain ⟨a2, ea2, E⟩ := orf_some E
  refine r_getR dX12_writesSign_1 FX12_111 g1 ea2 ?_
  refine q_aload_n dX12_writesSign_4 rfl ?_
  refine r_getI dX12_writesSign_5 FX12_256 g1 ?_
  refine q_iconst dX12_writesSign_8 ?_
  refine q_isub dX12_writesSign_9 ?_
  obtain ⟨g3, E⟩ := grd_some E
  obtain ⟨g4, E⟩ := grd_some E
  refine r_iaload dX12_writesSign_10 g3 g4 ?_
  refine q_iconst dX12_writesSign_11 ?_
  refine q_icmp_ge (tgt := 34) dX12_writesSign_12 (by decide) (fun z5 => ?_) (fun z5 => ?_)
  · replace E := ite_t E z5
    exact r_fewer [some (.ref p0), some (.int v1)] (ls_s (ls_s ls_0)) (s_X12_writesSign_34 p0 v1 h E hK)
  · replace E := ite_f E z5
    refine q_aload_n dX12_writesSign_15 rfl ?_
    refine q_aload_n dX12_writesSign_16 rfl ?_
    obtain ⟨a6, ea6, E⟩ := orf_some E
    refine r_getR dX12_writesSign_17 FX12_108 g1 ea6 ?_
    refine q_aload_n dX12_writesSign_20 rfl ?_
    refine r_getI dX12_writesSign_21 FX12_256 g1 ?_
    refine q_iconst dX12_writesSign_24 ?_
    refine q_isub dX12_writesSign_25 ?_
    obtain ⟨g7, E⟩ := grd_some E
    obtain ⟨g8, E⟩ := grd_some E
    refine r_iaload dX12_writesSign_26 g7 g8 ?_
    refine q_aload_n dX12_writesSign_27 rfl ?_
    refine r_getI dX12_writesSign_28 FX12_364 g1 ?_
    obtain ⟨_, h9, hc, E⟩ := cal_some E
    refine r_callV2 (mc := 0) (ms := 0) dX12_writesSign_31 KX12_370 (c_X12_encloses hc) g1 (by decide) (Nat.le_of_ble_eq_true rfl) (fun _ _ q => q.elim) ?_
    rintro _ _ ⟨rfl, rfl⟩
    clear hc
    exact r_fewer [some (.ref p0), some (.int v1)] (ls_s (ls_s ls_0)) (s_X12_writesSign_34 p0 v1 h9 E hK)
theorem c_X12_writesSign {l : Launch} {G : va_G × (Nat → ClassId)} {p0 : Nat} {v1 : Int32} {h h' : mH} {r : Unit} (E : f_X12_writesSign p0 v1 h = some (r, h')) : mMet l G m_X12_writesSign 2 0 0 [.ref p0, .int v1] h (fun v k => v = none ∧ h' = k) (fun _ _ => False) :=
  mMet_of (by decide +kernel) rfl (ac_c rfl (ac_c rfl ac_0)) (Nat.le_of_ble_eq_true rfl) (s_X12_writesSign_0 p0 v1 h E (And.intro rfl rfl))
set_option maxRecDepth 100000 in
set_option maxHeartbeats 4000000 in
theorem s_X12_formatPattern_120 {l : Launch} {G : va_G × (Nat → ClassId)} {Q : Option Value → mH → Prop} {X : String → mH → Prop} (p0 : Nat) (v1 : Int32) (v2 : Int32) (h : mH) {o : ((Int32 × mH) ⊕ (Int32 × mH))} (E : g_X12_formatPattern_120 p0 v1 v2 h = some o) (hK : (lpK (w_X12_formatPattern_31 l G Q X p0 v1) (fiI Q)) o) : mW l G m_X12_formatPattern 3 0 0 120 [some (.ref p0), some (.int v1), some (.int v2), none] [] h Q X := by
  unfold g_X12_formatPattern_120 at E
  obtain ⟨x1, ex1, E⟩ := bnd_x E
  refine r_iinc (v := x1) dX12_formatPattern_120 rfl ex1 (by decide) (ls' := [some (.ref p0), some (.int v1), some (.int x1), none]) rfl ?_
  refine q_goto (tgt := 31) dX12_formatPattern_123 (by decide) ?_
  cases E
  exact r_fewer [some (.ref p0), some (.int v1), some (.int x1), none] (ls_s (ls_s (ls_s (ls_n ls_0)))) hK
set_option maxRecDepth 100000 in
set_option maxHeartbeats 4000000 in
theorem sb_X12_formatPattern_31 {l : Launch} {G : va_G × (Nat → ClassId)} {Q : Option Value → mH → Prop} {X : String → mH → Prop} (p0 : Nat) (v1 : Int32) (v2 : Int32) (h : mH) {o : ((Int32 × mH) ⊕ (Int32 × mH))} (E : b0_X12_formatPattern_31 p0 v1 v2 h = some o) (hK : (lpK (w_X12_formatPattern_31 l G Q X p0 v1) (fiI Q)) o) : mW l G m_X12_formatPattern 3 0 0 31 [some (.ref p0), some (.int v1), some (.int v2), none] [] h Q X := by
  unfold b0_X12_formatPattern_31 at E
  refine q_iload_n dX12_formatPattern_31 rfl ?_
  refine q_aload_n dX12_formatPattern_32 rfl ?_
  refine q_iload_n dX12_formatPattern_33 rfl ?_
  obtain ⟨g3, E⟩ := grd_some E
  obtain ⟨x2, h1, hc, E⟩ := cal_some E
  refine r_callV1 (mc := 0) (ms := 0) dX12_formatPattern_34 KX12_140 (c_X12_length hc) g3 (by decide) (Nat.le_of_ble_eq_true rfl) (fun _ _ q => q.elim) ?_
  rintro _ _ ⟨rfl, rfl⟩
  clear hc
  refine q_icmp_ge (tgt := 126) dX12_formatPattern_37 (by decide) (fun z4 => ?_) (fun z4 => ?_)
  · replace E := ite_t E z4
    refine q_aload_n dX12_formatPattern_126 rfl ?_
    obtain ⟨g5, E⟩ := grd_some E
    refine r_getI dX12_formatPattern_127 FX12_364 g5 ?_
    cases E
    exact q_ireturn dX12_formatPattern_130 rfl hK
  · replace E := ite_f E z4
    refine q_aload_n dX12_formatPattern_40 rfl ?_
    refine q_iload_n dX12_formatPattern_41 rfl ?_
    refine q_iload_n dX12_formatPattern_42 rfl ?_
    obtain ⟨g8, E⟩ := grd_some E
    obtain ⟨x7, h6, hc, E⟩ := cal_some E
    refine r_callV2 (mc := 0) (ms := 0) dX12_formatPattern_43 KX12_147 (c_X12_code hc) g8 (by decide) (Nat.le_of_ble_eq_true rfl) (fun _ _ q => q.elim) ?_
    rintro _ _ ⟨rfl, rfl⟩
    clear hc
    refine r_istore_n dX12_formatPattern_46 (by decide) rfl (ls' := [some (.ref p0), some (.int v1), some (.int v2), some (.int x7)]) rfl ?_
    refine q_iload_n dX12_formatPattern_47 rfl ?_
    refine q_iconst dX12_formatPattern_48 ?_
    refine q_icmp_ge (tgt := 102) dX12_formatPattern_49 (by decide) (fun z9 => ?_) (fun z9 => ?_)
    · replace E := ite_t E z9
      refine q_iload_n dX12_formatPattern_102 rfl ?_
      refine q_iconst dX12_formatPattern_103 ?_
      refine q_icmp_gt (tgt := 115) dX12_formatPattern_104 (by decide) (fun z10 => ?_) (fun z10 => ?_)
      · replace E := ite_t E z10
        refine q_aload_n dX12_formatPattern_115 rfl ?_
        refine q_iload_n dX12_formatPattern_116 rfl ?_
        obtain ⟨g13, E⟩ := grd_some E
        obtain ⟨_, h11, hc, E⟩ := cal_some E
        refine r_callV1 (mc := 0) (ms := 0) dX12_formatPattern_117 KX12_376 (c_X12_writesSign hc) g13 (by decide) (Nat.le_of_ble_eq_true rfl) (fun _ _ q => q.elim) ?_
        rintro _ _ ⟨rfl, rfl⟩
        clear hc
        exact r_fewer [some (.ref p0), some (.int v1), some (.int v2), none] (ls_s (ls_s (ls_s (ls_n ls_0)))) (s_X12_formatPattern_120 p0 v1 v2 h11 E hK)
      · replace E := ite_f E z10
        refine q_aload_n dX12_formatPattern_107 rfl ?_
        refine q_iload_n dX12_formatPattern_108 rfl ?_
        obtain ⟨g16, E⟩ := grd_some E
        obtain ⟨_, h14, hc, E⟩ := cal_some E
        refine r_callV1 (mc := 0) (ms := 0) dX12_formatPattern_109 KX12_373 (c_X12_writesTwo hc) g16 (by decide) (Nat.le_of_ble_eq_true rfl) (fun _ _ q => q.elim) ?_
        rintro _ _ ⟨rfl, rfl⟩
        clear hc
        refine q_goto (tgt := 120) dX12_formatPattern_112 (by decide) ?_
        exact r_fewer [some (.ref p0), some (.int v1), some (.int v2), none] (ls_s (ls_s (ls_s (ls_n ls_0)))) (s_X12_formatPattern_120 p0 v1 v2 h14 E hK)
    · replace E := ite_f E z9
      refine q_aload_n dX12_formatPattern_52 rfl ?_
      obtain ⟨g17, E⟩ := grd_some E
      obtain ⟨a18, ea18, E⟩ := orf_some E
      refine r_getR dX12_formatPattern_53 FX12_108 g17 ea18 ?_
      refine q_aload_n dX12_formatPattern_56 rfl ?_
      refine r_getI dX12_formatPattern_57 FX12_256 g17 ?_
      refine q_aload_n dX12_formatPattern_60 rfl ?_
      refine r_getI dX12_formatPattern_61 FX12_364 g17 ?_
      obtain ⟨g20, E⟩ := grd_some E
      obtain ⟨g21, E⟩ := grd_some E
      obtain ⟨h19, eh19, E⟩ := bnd_x E
      refine r_iastore (hh := eh19) dX12_formatPattern_64 g20 g21 ?_
      refine q_aload_n dX12_formatPattern_65 rfl ?_
      obtain ⟨g22, E⟩ := grd_some E
      obtain ⟨a23, ea23, E⟩ := orf_some E
      refine r_getR dX12_formatPattern_66 FX12_111 g22 ea23 ?_
      refine q_aload_n dX12_formatPattern_69 rfl ?_
      refine r_getI dX12_formatPattern_70 FX12_256 g22 ?_
      refine q_iconst dX12_formatPattern_73 ?_
      obtain ⟨g25, E⟩ := grd_some E
      obtain ⟨g26, E⟩ := grd_some E
      obtain ⟨h24, eh24, E⟩ := bnd_x E
      refine r_iastore (hh := eh24) dX12_formatPattern_74 g25 g26 ?_
      refine q_aload_n dX12_formatPattern_75 rfl ?_
      refine q_dup dX12_formatPattern_76 ?_
      obtain ⟨g27, E⟩ := grd_some E
      refine r_getI dX12_formatPattern_77 FX12_256 g27 ?_
      refine q_iconst dX12_formatPattern_80 ?_
      refine q_iadd dX12_formatPattern_81 ?_
      obtain ⟨h28, eh28, E⟩ := bnd_x E
      refine r_putI (hh := eh28) dX12_formatPattern_82 FX12_256 g27 rfl rfl ?_
      refine q_aload_n dX12_formatPattern_85 rfl ?_
      refine q_aload_n dX12_formatPattern_86 rfl ?_
      obtain ⟨g29, E⟩ := grd_some E
      refine r_getI dX12_formatPattern_87 FX12_364 g29 ?_
      refine q_bipush (v := (Int32.ofInt 97)) dX12_formatPattern_90 (by decide) ?_
      refine q_iload_n dX12_formatPattern_92 rfl ?_
      refine q_iadd dX12_formatPattern_93 ?_
      refine q_iconst dX12_formatPattern_94 ?_
      refine q_isub dX12_formatPattern_95 ?_
      obtain ⟨_, h30, hc, E⟩ := cal_some E
      refine r_callV2 (mc := 0) (ms := 0) dX12_formatPattern_96 KX12_367 (c_X12_inserts hc) g29 (by decide) (Nat.le_of_ble_eq_true rfl) (fun _ _ q => q.elim) ?_
      rintro _ _ ⟨rfl, rfl⟩
      clear hc
      refine q_goto (tgt := 120) dX12_formatPattern_99 (by decide) ?_
      exact r_fewer [some (.ref p0), some (.int v1), some (.int v2), none] (ls_s (ls_s (ls_s (ls_n ls_0)))) (s_X12_formatPattern_120 p0 v1 v2 h30 E hK)
theorem s_X12_formatPattern_31 {l : Launch} {G : va_G × (Nat → ClassId)} {Q : Option Value → mH → Prop} {X : String → mH → Prop} (p0 : Nat) (v1 : Int32) (v2 : Int32) (h : mH) {o : Int32 × mH} (E : g_X12_formatPattern_31 p0 v1 v2 h = some o) (hK : (fiI Q) o) : mW l G m_X12_formatPattern 3 0 0 31 [some (.ref p0), some (.int v1), some (.int v2), none] [] h Q X :=
  (lp_go (w_X12_formatPattern_31 l G Q X p0 v1) (fiI Q) (b_X12_formatPattern_31 p0 v1) (fun s o E hK => sb_X12_formatPattern_31 p0 v1 s.1 (s.2) E hK) _ _ _ E hK : w_X12_formatPattern_31 l G Q X p0 v1 (v2, h))
set_option maxRecDepth 100000 in
set_option maxHeartbeats 4000000 in
theorem s_X12_formatPattern_0 {l : Launch} {G : va_G × (Nat → ClassId)} {Q : Option Value → mH → Prop} {X : String → mH → Prop} (p0 : Nat) (v1 : Int32) (h : mH) {o : Int32 × mH} (E : f_X12_formatPattern p0 v1 h = some o) (hK : (fiI Q) o) : mW l G m_X12_formatPattern 3 0 0 0 [some (.ref p0), some (.int v1), none, none] [] h Q X := by
  unfold f_X12_formatPattern at E
  refine q_aload_n dX12_formatPattern_0 rfl ?_
  refine q_iconst dX12_formatPattern_1 ?_
  obtain ⟨g1, E⟩ := grd_some E
  obtain ⟨h2, eh2, E⟩ := bnd_x E
  refine r_putI (hh := eh2) dX12_formatPattern_2 FX12_117 g1 rfl rfl ?_
  refine q_aload_n dX12_formatPattern_5 rfl ?_
  refine q_iload_n dX12_formatPattern_6 rfl ?_
  obtain ⟨g5, E⟩ := grd_some E
  obtain ⟨x4, h3, hc, E⟩ := cal_some E
  refine r_callV1 (mc := 0) (ms := 0) dX12_formatPattern_7 KX12_211 (c_X12_holds hc) g5 (by decide) (Nat.le_of_ble_eq_true rfl) (fun _ _ q => q.elim) ?_
  rintro _ _ ⟨rfl, rfl⟩
  clear hc
  refine q_if_ne (tgt := 19) dX12_formatPattern_10 (by decide) (fun z6 => ?_) (fun z6 => ?_)
  · replace E := ite_f E z6
    refine q_aload_n dX12_formatPattern_19 rfl ?_
    refine q_iconst dX12_formatPattern_20 ?_
    obtain ⟨g7, E⟩ := grd_some E
    obtain ⟨h8, eh8, E⟩ := bnd_x E
    refine r_putI (hh := eh8) dX12_formatPattern_21 FX12_364 g7 rfl rfl ?_
    refine q_aload_n dX12_formatPattern_24 rfl ?_
    refine q_iconst dX12_formatPattern_25 ?_
    obtain ⟨g9, E⟩ := grd_some E
    obtain ⟨h10, eh10, E⟩ := bnd_x E
    refine r_putI (hh := eh10) dX12_formatPattern_26 FX12_256 g9 rfl rfl ?_
    refine q_iconst dX12_formatPattern_29 ?_
    refine r_istore_n dX12_formatPattern_30 (by decide) rfl (ls' := [some (.ref p0), some (.int v1), some (.int (Int32.ofInt 0)), none]) rfl ?_
    exact r_fewer [some (.ref p0), some (.int v1), some (.int (Int32.ofInt 0)), none] (ls_s (ls_s (ls_s (ls_n ls_0)))) (s_X12_formatPattern_31 p0 v1 (Int32.ofInt 0) h10 E hK)
  · replace E := ite_t E z6
    refine q_aload_n dX12_formatPattern_13 rfl ?_
    refine q_iconst dX12_formatPattern_14 ?_
    obtain ⟨g13, E⟩ := grd_some E
    obtain ⟨x12, h11, hc, E⟩ := cal_some E
    refine r_callV1 (mc := 0) (ms := 0) dX12_formatPattern_15 KX12_196 (c_X12_fails hc) g13 (by decide) (Nat.le_of_ble_eq_true rfl) (fun _ _ q => q.elim) ?_
    rintro _ _ ⟨rfl, rfl⟩
    clear hc
    cases E
    exact q_ireturn dX12_formatPattern_18 rfl hK
theorem c_X12_formatPattern {l : Launch} {G : va_G × (Nat → ClassId)} {p0 : Nat} {v1 : Int32} {h h' : mH} {r : Int32} (E : f_X12_formatPattern p0 v1 h = some (r, h')) : mMet l G m_X12_formatPattern 3 0 0 [.ref p0, .int v1] h (fun v k => v = some (.int r) ∧ h' = k) (fun _ _ => False) :=
  mMet_of (by decide +kernel) rfl (ac_c rfl (ac_c rfl ac_0)) (Nat.le_of_ble_eq_true rfl) (s_X12_formatPattern_0 p0 v1 h E (And.intro rfl rfl))
set_option maxRecDepth 100000 in
set_option maxHeartbeats 4000000 in
theorem sb_X12_formatShortest_48 {l : Launch} {G : va_G × (Nat → ClassId)} {Q : Option Value → mH → Prop} {X : String → mH → Prop} (p0 : Nat) (v2 : Int32) (v3 : Int32) (h : mH) {o : ((Int32 × mH) ⊕ ((Int32 × mH) ⊕ (Int32 × mH)))} (E : b0_X12_formatShortest_48 p0 v2 v3 h = some o) (hK : (lpK (w_X12_formatShortest_48 l G Q X p0 v2) (lpK (w_X12_formatShortest_37 l G Q X p0) (fiI Q))) o) : mW l G m_X12_formatShortest 4 0 0 48 [some (.ref p0), none, some (.int v2), some (.int v3)] [] h Q X := by
  unfold b0_X12_formatShortest_48 at E
  refine q_aload_n dX12_formatShortest_48 rfl ?_
  obtain ⟨g1, E⟩ := grd_some E
  obtain ⟨a2, ea2, E⟩ := orf_some E
  refine r_getR dX12_formatShortest_49 FX12_84 g1 ea2 ?_
  refine q_aload_n dX12_formatShortest_52 rfl ?_
  refine q_iconst dX12_formatShortest_53 ?_
  refine q_iload_n dX12_formatShortest_54 rfl ?_
  refine q_iload_n dX12_formatShortest_55 rfl ?_
  obtain ⟨x4, h3, hc, E⟩ := cal_some E
  refine r_callV3 (mc := 0) (ms := 0) dX12_formatShortest_56 KX12_277 (c_X12_to hc) g1 (by decide) (Nat.le_of_ble_eq_true rfl) (fun _ _ q => q.elim) ?_
  rintro _ _ ⟨rfl, rfl⟩
  clear hc
  obtain ⟨g5, E⟩ := grd_some E
  obtain ⟨g6, E⟩ := grd_some E
  refine r_iaload dX12_formatShortest_59 g5 g6 ?_
  refine q_aload_n dX12_formatShortest_60 rfl ?_
  obtain ⟨g7, E⟩ := grd_some E
  obtain ⟨a8, ea8, E⟩ := orf_some E
  refine r_getR dX12_formatShortest_61 FX12_84 g7 ea8 ?_
  refine q_iload_n dX12_formatShortest_64 rfl ?_
  obtain ⟨g9, E⟩ := grd_some E
  obtain ⟨g10, E⟩ := grd_some E
  refine r_iaload dX12_formatShortest_65 g9 g10 ?_
  refine q_iconst dX12_formatShortest_66 ?_
  refine q_isub dX12_formatShortest_67 ?_
  refine q_icmp_eq (tgt := 77) dX12_formatShortest_68 (by decide) (fun z11 => ?_) (fun z11 => ?_)
  · replace E := ite_t E z11
    refine q_aload_n dX12_formatShortest_77 rfl ?_
    refine q_aload_n dX12_formatShortest_78 rfl ?_
    refine r_getI dX12_formatShortest_79 FX12_364 g7 ?_
    refine q_bipush (v := (Int32.ofInt 97)) dX12_formatShortest_82 (by decide) ?_
    refine q_iload_n dX12_formatShortest_84 rfl ?_
    refine q_iadd dX12_formatShortest_85 ?_
    obtain ⟨_, h12, hc, E⟩ := cal_some E
    refine r_callV2 (mc := 0) (ms := 0) dX12_formatShortest_86 KX12_367 (c_X12_inserts hc) g7 (by decide) (Nat.le_of_ble_eq_true rfl) (fun _ _ q => q.elim) ?_
    rintro _ _ ⟨rfl, rfl⟩
    clear hc
    refine q_aload_n dX12_formatShortest_89 rfl ?_
    refine q_iconst dX12_formatShortest_90 ?_
    refine q_iload_n dX12_formatShortest_91 rfl ?_
    refine q_iload_n dX12_formatShortest_92 rfl ?_
    obtain ⟨g16, E⟩ := grd_some E
    obtain ⟨x15, h14, hc, E⟩ := cal_some E
    refine r_callV3 (mc := 0) (ms := 0) dX12_formatShortest_93 KX12_277 (c_X12_to hc) g16 (by decide) (Nat.le_of_ble_eq_true rfl) (fun _ _ q => q.elim) ?_
    rintro _ _ ⟨rfl, rfl⟩
    clear hc
    refine r_istore_n dX12_formatShortest_96 (by decide) rfl (ls' := [some (.ref p0), none, some (.int x15), some (.int v3)]) rfl ?_
    refine q_goto (tgt := 37) dX12_formatShortest_97 (by decide) ?_
    cases E
    exact r_fewer [some (.ref p0), none, some (.int x15), none] (ls_s (ls_n (ls_s (ls_n ls_0)))) hK
  · replace E := ite_f E z11
    obtain ⟨x17, ex17, E⟩ := bnd_x E
    refine r_iinc (v := x17) dX12_formatShortest_71 rfl ex17 (by decide) (ls' := [some (.ref p0), none, some (.int v2), some (.int x17)]) rfl ?_
    refine q_goto (tgt := 48) dX12_formatShortest_74 (by decide) ?_
    cases E
    exact r_fewer [some (.ref p0), none, some (.int v2), some (.int x17)] (ls_s (ls_n (ls_s (ls_s ls_0)))) hK
theorem s_X12_formatShortest_48 {l : Launch} {G : va_G × (Nat → ClassId)} {Q : Option Value → mH → Prop} {X : String → mH → Prop} (p0 : Nat) (v2 : Int32) (v3 : Int32) (h : mH) {o : ((Int32 × mH) ⊕ (Int32 × mH))} (E : g_X12_formatShortest_48 p0 v2 v3 h = some o) (hK : (lpK (w_X12_formatShortest_37 l G Q X p0) (fiI Q)) o) : mW l G m_X12_formatShortest 4 0 0 48 [some (.ref p0), none, some (.int v2), some (.int v3)] [] h Q X :=
  (lp_go (w_X12_formatShortest_48 l G Q X p0 v2) (lpK (w_X12_formatShortest_37 l G Q X p0) (fiI Q)) (b_X12_formatShortest_48 p0 v2) (fun s o E hK => sb_X12_formatShortest_48 p0 v2 s.1 (s.2) E hK) _ _ _ E hK : w_X12_formatShortest_48 l G Q X p0 v2 (v3, h))
set_option maxRecDepth 100000 in
set_option maxHeartbeats 4000000 in
theorem sb_X12_formatShortest_37 {l : Launch} {G : va_G × (Nat → ClassId)} {Q : Option Value → mH → Prop} {X : String → mH → Prop} (p0 : Nat) (v2 : Int32) (h : mH) {o : ((Int32 × mH) ⊕ (Int32 × mH))} (E : b0_X12_formatShortest_37 p0 v2 h = some o) (hK : (lpK (w_X12_formatShortest_37 l G Q X p0) (fiI Q)) o) : mW l G m_X12_formatShortest 4 0 0 37 [some (.ref p0), none, some (.int v2), none] [] h Q X := by
  unfold b0_X12_formatShortest_37 at E
  refine q_aload_n dX12_formatShortest_37 rfl ?_
  obtain ⟨g1, E⟩ := grd_some E
  obtain ⟨a2, ea2, E⟩ := orf_some E
  refine r_getR dX12_formatShortest_38 FX12_84 g1 ea2 ?_
  refine q_iload_n dX12_formatShortest_41 rfl ?_
  obtain ⟨g3, E⟩ := grd_some E
  obtain ⟨g4, E⟩ := grd_some E
  refine r_iaload dX12_formatShortest_42 g3 g4 ?_
  refine q_if_le (tgt := 100) dX12_formatShortest_43 (by decide) (fun z5 => ?_) (fun z5 => ?_)
  · replace E := ite_t E z5
    refine q_aload_n dX12_formatShortest_100 rfl ?_
    refine r_getI dX12_formatShortest_101 FX12_364 g1 ?_
    cases E
    exact q_ireturn dX12_formatShortest_104 rfl hK
  · replace E := ite_f E z5
    refine q_iconst dX12_formatShortest_46 ?_
    refine r_istore_n dX12_formatShortest_47 (by decide) rfl (ls' := [some (.ref p0), none, some (.int v2), some (.int (Int32.ofInt 0))]) rfl ?_
    exact r_fewer [some (.ref p0), none, some (.int v2), some (.int (Int32.ofInt 0))] (ls_s (ls_n (ls_s (ls_s ls_0)))) (s_X12_formatShortest_48 p0 v2 (Int32.ofInt 0) h E hK)
theorem s_X12_formatShortest_37 {l : Launch} {G : va_G × (Nat → ClassId)} {Q : Option Value → mH → Prop} {X : String → mH → Prop} (p0 : Nat) (v2 : Int32) (h : mH) {o : Int32 × mH} (E : g_X12_formatShortest_37 p0 v2 h = some o) (hK : (fiI Q) o) : mW l G m_X12_formatShortest 4 0 0 37 [some (.ref p0), none, some (.int v2), none] [] h Q X :=
  (lp_go (w_X12_formatShortest_37 l G Q X p0) (fiI Q) (b_X12_formatShortest_37 p0) (fun s o E hK => sb_X12_formatShortest_37 p0 s.1 (s.2) E hK) _ _ _ E hK : w_X12_formatShortest_37 l G Q X p0 (v2, h))
set_option maxRecDepth 100000 in
set_option maxHeartbeats 4000000 in
theorem s_X12_formatShortest_0 {l : Launch} {G : va_G × (Nat → ClassId)} {Q : Option Value → mH → Prop} {X : String → mH → Prop} (p0 : Nat) (v1 : Int32) (h : mH) {o : Int32 × mH} (E : f_X12_formatShortest p0 v1 h = some o) (hK : (fiI Q) o) : mW l G m_X12_formatShortest 4 0 0 0 [some (.ref p0), some (.int v1), none, none] [] h Q X := by
  unfold f_X12_formatShortest at E
  refine q_aload_n dX12_formatShortest_0 rfl ?_
  refine q_iconst dX12_formatShortest_1 ?_
  obtain ⟨g1, E⟩ := grd_some E
  obtain ⟨h2, eh2, E⟩ := bnd_x E
  refine r_putI (hh := eh2) dX12_formatShortest_2 FX12_117 g1 rfl rfl ?_
  refine q_aload_n dX12_formatShortest_5 rfl ?_
  refine q_iload_n dX12_formatShortest_6 rfl ?_
  obtain ⟨g5, E⟩ := grd_some E
  obtain ⟨x4, h3, hc, E⟩ := cal_some E
  refine r_callV1 (mc := 0) (ms := 0) dX12_formatShortest_7 KX12_211 (c_X12_holds hc) g5 (by decide) (Nat.le_of_ble_eq_true rfl) (fun _ _ q => q.elim) ?_
  rintro _ _ ⟨rfl, rfl⟩
  clear hc
  refine q_if_ne (tgt := 19) dX12_formatShortest_10 (by decide) (fun z6 => ?_) (fun z6 => ?_)
  · replace E := ite_f E z6
    refine q_aload_n dX12_formatShortest_19 rfl ?_
    refine q_iload_n dX12_formatShortest_20 rfl ?_
    obtain ⟨g9, E⟩ := grd_some E
    obtain ⟨_, h7, hc, E⟩ := cal_some E
    refine r_callV1 (mc := 0) (ms := 0) dX12_formatShortest_21 KX12_292 (c_X12_opens hc) g9 (by decide) (Nat.le_of_ble_eq_true rfl) (fun _ _ q => q.elim) ?_
    rintro _ _ ⟨rfl, rfl⟩
    clear hc
    refine q_aload_n dX12_formatShortest_24 rfl ?_
    obtain ⟨g12, E⟩ := grd_some E
    obtain ⟨_, h10, hc, E⟩ := cal_some E
    refine r_callV0 (mc := 0) (ms := 0) dX12_formatShortest_25 KX12_343 (c_X12_findsFar hc) g12 (by decide) (Nat.le_of_ble_eq_true rfl) (fun _ _ q => q.elim) ?_
    rintro _ _ ⟨rfl, rfl⟩
    clear hc
    refine q_aload_n dX12_formatShortest_28 rfl ?_
    refine q_iconst dX12_formatShortest_29 ?_
    obtain ⟨g13, E⟩ := grd_some E
    obtain ⟨h14, eh14, E⟩ := bnd_x E
    refine r_putI (hh := eh14) dX12_formatShortest_30 FX12_364 g13 rfl rfl ?_
    refine q_sipush (v := (Int32.ofInt 128)) dX12_formatShortest_33 (by decide) ?_
    refine r_istore_n dX12_formatShortest_36 (by decide) rfl (ls' := [some (.ref p0), some (.int v1), some (.int (Int32.ofInt 128)), none]) rfl ?_
    exact r_fewer [some (.ref p0), none, some (.int (Int32.ofInt 128)), none] (ls_s (ls_n (ls_s (ls_n ls_0)))) (s_X12_formatShortest_37 p0 (Int32.ofInt 128) h14 E hK)
  · replace E := ite_t E z6
    refine q_aload_n dX12_formatShortest_13 rfl ?_
    refine q_iconst dX12_formatShortest_14 ?_
    obtain ⟨g17, E⟩ := grd_some E
    obtain ⟨x16, h15, hc, E⟩ := cal_some E
    refine r_callV1 (mc := 0) (ms := 0) dX12_formatShortest_15 KX12_196 (c_X12_fails hc) g17 (by decide) (Nat.le_of_ble_eq_true rfl) (fun _ _ q => q.elim) ?_
    rintro _ _ ⟨rfl, rfl⟩
    clear hc
    cases E
    exact q_ireturn dX12_formatShortest_18 rfl hK
theorem c_X12_formatShortest {l : Launch} {G : va_G × (Nat → ClassId)} {p0 : Nat} {v1 : Int32} {h h' : mH} {r : Int32} (E : f_X12_formatShortest p0 v1 h = some (r, h')) : mMet l G m_X12_formatShortest 4 0 0 [.ref p0, .int v1] h (fun v k => v = some (.int r) ∧ h' = k) (fun _ _ => False) :=
  mMet_of (by decide +kernel) rfl (ac_c rfl (ac_c rfl ac_0)) (Nat.le_of_ble_eq_true rfl) (s_X12_formatShortest_0 p0 v1 h E (And.intro rfl rfl))
set_option maxRecDepth 100000 in
set_option maxHeartbeats 4000000 in
theorem sb_X12_formatDifference_41 {l : Launch} {G : va_G × (Nat → ClassId)} {Q : Option Value → mH → Prop} {X : String → mH → Prop} (p0 : Nat) (v3 : Int32) (v4 : Int32) (v5 : Int32) (v6 : Int32) (h : mH) {o : ((Int32 × mH) ⊕ ((Int32 × Int32 × Int32 × mH) ⊕ (Int32 × mH)))} (E : b0_X12_formatDifference_41 p0 v3 v4 v5 v6 h = some o) (hK : (lpK (w_X12_formatDifference_41 l G Q X p0 v3 v4 v5) (lpK (w_X12_formatDifference_34 l G Q X p0) (fiI Q))) o) : mW l G m_X12_formatDifference 5 0 0 41 [some (.ref p0), none, none, some (.int v3), some (.int v4), some (.int v5), some (.int v6)] [] h Q X := by
  unfold b0_X12_formatDifference_41 at E
  refine q_aload_n dX12_formatDifference_41 rfl ?_
  refine q_aload_n dX12_formatDifference_42 rfl ?_
  refine q_iconst dX12_formatDifference_43 ?_
  refine q_iload dX12_formatDifference_44 rfl ?_
  refine q_iload dX12_formatDifference_46 rfl ?_
  obtain ⟨g3, E⟩ := grd_some E
  obtain ⟨x2, h1, hc, E⟩ := cal_some E
  refine r_callV3 (mc := 0) (ms := 0) dX12_formatDifference_48 KX12_277 (c_X12_to hc) g3 (by decide) (Nat.le_of_ble_eq_true rfl) (fun _ _ q => q.elim) ?_
  rintro _ _ ⟨rfl, rfl⟩
  clear hc
  refine q_aload_n dX12_formatDifference_51 rfl ?_
  refine q_iconst dX12_formatDifference_52 ?_
  refine q_iload dX12_formatDifference_53 rfl ?_
  refine q_iload dX12_formatDifference_55 rfl ?_
  obtain ⟨g6, E⟩ := grd_some E
  obtain ⟨x5, h4, hc, E⟩ := cal_some E
  refine r_callV3 (mc := 0) (ms := 0) dX12_formatDifference_57 KX12_277 (c_X12_to hc) g6 (by decide) (Nat.le_of_ble_eq_true rfl) (fun _ _ q => q.elim) ?_
  rintro _ _ ⟨rfl, rfl⟩
  clear hc
  refine q_iconst dX12_formatDifference_60 ?_
  obtain ⟨g9, E⟩ := grd_some E
  obtain ⟨x8, h7, hc, E⟩ := cal_some E
  refine r_callV3 (mc := 0) (ms := 0) dX12_formatDifference_61 KX12_315 (c_X12_apart hc) g9 (by decide) (Nat.le_of_ble_eq_true rfl) (fun _ _ q => q.elim) ?_
  rintro _ _ ⟨rfl, rfl⟩
  clear hc
  refine q_iload_n dX12_formatDifference_64 rfl ?_
  refine q_iconst dX12_formatDifference_65 ?_
  refine q_isub dX12_formatDifference_66 ?_
  refine q_icmp_eq (tgt := 76) dX12_formatDifference_67 (by decide) (fun z10 => ?_) (fun z10 => ?_)
  · replace E := ite_t E z10
    refine q_aload_n dX12_formatDifference_76 rfl ?_
    refine q_aload_n dX12_formatDifference_77 rfl ?_
    obtain ⟨g11, E⟩ := grd_some E
    refine r_getI dX12_formatDifference_78 FX12_364 g11 ?_
    refine q_bipush (v := (Int32.ofInt 97)) dX12_formatDifference_81 (by decide) ?_
    refine q_iload dX12_formatDifference_83 rfl ?_
    refine q_iadd dX12_formatDifference_85 ?_
    obtain ⟨_, h12, hc, E⟩ := cal_some E
    refine r_callV2 (mc := 0) (ms := 0) dX12_formatDifference_86 KX12_367 (c_X12_inserts hc) g11 (by decide) (Nat.le_of_ble_eq_true rfl) (fun _ _ q => q.elim) ?_
    rintro _ _ ⟨rfl, rfl⟩
    clear hc
    refine q_aload_n dX12_formatDifference_89 rfl ?_
    refine q_iconst dX12_formatDifference_90 ?_
    refine q_iload dX12_formatDifference_91 rfl ?_
    refine q_iload dX12_formatDifference_93 rfl ?_
    obtain ⟨g16, E⟩ := grd_some E
    obtain ⟨x15, h14, hc, E⟩ := cal_some E
    refine r_callV3 (mc := 0) (ms := 0) dX12_formatDifference_95 KX12_277 (c_X12_to hc) g16 (by decide) (Nat.le_of_ble_eq_true rfl) (fun _ _ q => q.elim) ?_
    rintro _ _ ⟨rfl, rfl⟩
    clear hc
    refine r_istore dX12_formatDifference_98 (by decide) rfl (ls' := [some (.ref p0), none, none, some (.int v3), some (.int x15), some (.int v5), some (.int v6)]) rfl ?_
    refine q_aload_n dX12_formatDifference_100 rfl ?_
    refine q_iconst dX12_formatDifference_101 ?_
    refine q_iload dX12_formatDifference_102 rfl ?_
    refine q_iload dX12_formatDifference_104 rfl ?_
    obtain ⟨g19, E⟩ := grd_some E
    obtain ⟨x18, h17, hc, E⟩ := cal_some E
    refine r_callV3 (mc := 0) (ms := 0) dX12_formatDifference_106 KX12_277 (c_X12_to hc) g19 (by decide) (Nat.le_of_ble_eq_true rfl) (fun _ _ q => q.elim) ?_
    rintro _ _ ⟨rfl, rfl⟩
    clear hc
    refine r_istore dX12_formatDifference_109 (by decide) rfl (ls' := [some (.ref p0), none, none, some (.int v3), some (.int x15), some (.int x18), some (.int v6)]) rfl ?_
    obtain ⟨x20, ex20, E⟩ := bnd_x E
    refine r_iinc (v := x20) dX12_formatDifference_111 rfl ex20 (by decide) (ls' := [some (.ref p0), none, none, some (.int x20), some (.int x15), some (.int x18), some (.int v6)]) rfl ?_
    refine q_goto (tgt := 34) dX12_formatDifference_114 (by decide) ?_
    cases E
    exact r_fewer [some (.ref p0), none, none, some (.int x20), some (.int x15), some (.int x18), none] (ls_s (ls_n (ls_n (ls_s (ls_s (ls_s (ls_n ls_0))))))) hK
  · replace E := ite_f E z10
    obtain ⟨x21, ex21, E⟩ := bnd_x E
    refine r_iinc (v := x21) dX12_formatDifference_70 rfl ex21 (by decide) (ls' := [some (.ref p0), none, none, some (.int v3), some (.int v4), some (.int v5), some (.int x21)]) rfl ?_
    refine q_goto (tgt := 41) dX12_formatDifference_73 (by decide) ?_
    cases E
    exact r_fewer [some (.ref p0), none, none, some (.int v3), some (.int v4), some (.int v5), some (.int x21)] (ls_s (ls_n (ls_n (ls_s (ls_s (ls_s (ls_s ls_0))))))) hK
theorem s_X12_formatDifference_41 {l : Launch} {G : va_G × (Nat → ClassId)} {Q : Option Value → mH → Prop} {X : String → mH → Prop} (p0 : Nat) (v3 : Int32) (v4 : Int32) (v5 : Int32) (v6 : Int32) (h : mH) {o : ((Int32 × Int32 × Int32 × mH) ⊕ (Int32 × mH))} (E : g_X12_formatDifference_41 p0 v3 v4 v5 v6 h = some o) (hK : (lpK (w_X12_formatDifference_34 l G Q X p0) (fiI Q)) o) : mW l G m_X12_formatDifference 5 0 0 41 [some (.ref p0), none, none, some (.int v3), some (.int v4), some (.int v5), some (.int v6)] [] h Q X :=
  (lp_go (w_X12_formatDifference_41 l G Q X p0 v3 v4 v5) (lpK (w_X12_formatDifference_34 l G Q X p0) (fiI Q)) (b_X12_formatDifference_41 p0 v3 v4 v5) (fun s o E hK => sb_X12_formatDifference_41 p0 v3 v4 v5 s.1 (s.2) E hK) _ _ _ E hK : w_X12_formatDifference_41 l G Q X p0 v3 v4 v5 (v6, h))
set_option maxRecDepth 100000 in
set_option maxHeartbeats 4000000 in
theorem sb_X12_formatDifference_34 {l : Launch} {G : va_G × (Nat → ClassId)} {Q : Option Value → mH → Prop} {X : String → mH → Prop} (p0 : Nat) (v3 : Int32) (v4 : Int32) (v5 : Int32) (h : mH) {o : ((Int32 × Int32 × Int32 × mH) ⊕ (Int32 × mH))} (E : b0_X12_formatDifference_34 p0 v3 v4 v5 h = some o) (hK : (lpK (w_X12_formatDifference_34 l G Q X p0) (fiI Q)) o) : mW l G m_X12_formatDifference 5 0 0 34 [some (.ref p0), none, none, some (.int v3), some (.int v4), some (.int v5), none] [] h Q X := by
  unfold b0_X12_formatDifference_34 at E
  refine q_iload_n dX12_formatDifference_34 rfl ?_
  refine q_if_le (tgt := 117) dX12_formatDifference_35 (by decide) (fun z1 => ?_) (fun z1 => ?_)
  · replace E := ite_t E z1
    refine q_aload_n dX12_formatDifference_117 rfl ?_
    obtain ⟨g2, E⟩ := grd_some E
    refine r_getI dX12_formatDifference_118 FX12_364 g2 ?_
    cases E
    exact q_ireturn dX12_formatDifference_121 rfl hK
  · replace E := ite_f E z1
    refine q_iconst dX12_formatDifference_38 ?_
    refine r_istore dX12_formatDifference_39 (by decide) rfl (ls' := [some (.ref p0), none, none, some (.int v3), some (.int v4), some (.int v5), some (.int (Int32.ofInt 0))]) rfl ?_
    exact r_fewer [some (.ref p0), none, none, some (.int v3), some (.int v4), some (.int v5), some (.int (Int32.ofInt 0))] (ls_s (ls_n (ls_n (ls_s (ls_s (ls_s (ls_s ls_0))))))) (s_X12_formatDifference_41 p0 v3 v4 v5 (Int32.ofInt 0) h E hK)
theorem s_X12_formatDifference_34 {l : Launch} {G : va_G × (Nat → ClassId)} {Q : Option Value → mH → Prop} {X : String → mH → Prop} (p0 : Nat) (v3 : Int32) (v4 : Int32) (v5 : Int32) (h : mH) {o : Int32 × mH} (E : g_X12_formatDifference_34 p0 v3 v4 v5 h = some o) (hK : (fiI Q) o) : mW l G m_X12_formatDifference 5 0 0 34 [some (.ref p0), none, none, some (.int v3), some (.int v4), some (.int v5), none] [] h Q X :=
  (lp_go (w_X12_formatDifference_34 l G Q X p0) (fiI Q) (b_X12_formatDifference_34 p0) (fun s o E hK => sb_X12_formatDifference_34 p0 s.1 s.2.1 s.2.2.1 (s.2.2.2) E hK) _ _ _ E hK : w_X12_formatDifference_34 l G Q X p0 (v3, v4, v5, h))
set_option maxRecDepth 100000 in
set_option maxHeartbeats 4000000 in
theorem s_X12_formatDifference_0 {l : Launch} {G : va_G × (Nat → ClassId)} {Q : Option Value → mH → Prop} {X : String → mH → Prop} (p0 : Nat) (v1 : Int32) (v2 : Int32) (h : mH) {o : Int32 × mH} (E : f_X12_formatDifference p0 v1 v2 h = some o) (hK : (fiI Q) o) : mW l G m_X12_formatDifference 5 0 0 0 [some (.ref p0), some (.int v1), some (.int v2), none, none, none, none] [] h Q X := by
  unfold f_X12_formatDifference at E
  refine q_aload_n dX12_formatDifference_0 rfl ?_
  refine q_iload_n dX12_formatDifference_1 rfl ?_
  refine q_iload_n dX12_formatDifference_2 rfl ?_
  obtain ⟨g3, E⟩ := grd_some E
  obtain ⟨x2, h1, hc, E⟩ := cal_some E
  refine r_callV2 (mc := 0) (ms := 0) dX12_formatDifference_3 KX12_352 (c_X12_areNot hc) g3 (by decide) (Nat.le_of_ble_eq_true rfl) (fun _ _ q => q.elim) ?_
  rintro _ _ ⟨rfl, rfl⟩
  clear hc
  refine q_if_eq (tgt := 11) dX12_formatDifference_6 (by decide) (fun z4 => ?_) (fun z4 => ?_)
  · replace E := ite_t E z4
    refine q_aload_n dX12_formatDifference_11 rfl ?_
    refine q_iload_n dX12_formatDifference_12 rfl ?_
    refine q_iload_n dX12_formatDifference_13 rfl ?_
    refine q_iconst dX12_formatDifference_14 ?_
    obtain ⟨g7, E⟩ := grd_some E
    obtain ⟨x6, h5, hc, E⟩ := cal_some E
    refine r_callV3 (mc := 0) (ms := 0) dX12_formatDifference_15 KX12_355 (c_X12_apartSlots hc) g7 (by decide) (Nat.le_of_ble_eq_true rfl) (fun _ _ q => q.elim) ?_
    rintro _ _ ⟨rfl, rfl⟩
    clear hc
    refine r_istore_n dX12_formatDifference_18 (by decide) rfl (ls' := [some (.ref p0), some (.int v1), some (.int v2), some (.int x6), none, none, none]) rfl ?_
    refine q_aload_n dX12_formatDifference_19 rfl ?_
    refine q_iconst dX12_formatDifference_20 ?_
    obtain ⟨g8, E⟩ := grd_some E
    obtain ⟨h9, eh9, E⟩ := bnd_x E
    refine r_putI (hh := eh9) dX12_formatDifference_21 FX12_364 g8 rfl rfl ?_
    refine q_sipush (v := (Int32.ofInt 128)) dX12_formatDifference_24 (by decide) ?_
    refine r_istore dX12_formatDifference_27 (by decide) rfl (ls' := [some (.ref p0), some (.int v1), some (.int v2), some (.int x6), some (.int (Int32.ofInt 128)), none, none]) rfl ?_
    refine q_sipush (v := (Int32.ofInt 128)) dX12_formatDifference_29 (by decide) ?_
    refine r_istore dX12_formatDifference_32 (by decide) rfl (ls' := [some (.ref p0), some (.int v1), some (.int v2), some (.int x6), some (.int (Int32.ofInt 128)), some (.int (Int32.ofInt 128)), none]) rfl ?_
    exact r_fewer [some (.ref p0), none, none, some (.int x6), some (.int (Int32.ofInt 128)), some (.int (Int32.ofInt 128)), none] (ls_s (ls_n (ls_n (ls_s (ls_s (ls_s (ls_n ls_0))))))) (s_X12_formatDifference_34 p0 x6 (Int32.ofInt 128) (Int32.ofInt 128) h9 E hK)
  · replace E := ite_f E z4
    refine q_iconst dX12_formatDifference_9 ?_
    cases E
    exact q_ireturn dX12_formatDifference_10 rfl hK
theorem c_X12_formatDifference {l : Launch} {G : va_G × (Nat → ClassId)} {p0 : Nat} {v1 : Int32} {v2 : Int32} {h h' : mH} {r : Int32} (E : f_X12_formatDifference p0 v1 v2 h = some (r, h')) : mMet l G m_X12_formatDifference 5 0 0 [.ref p0, .int v1, .int v2] h (fun v k => v = some (.int r) ∧ h' = k) (fun _ _ => False) :=
  mMet_of (by decide +kernel) rfl (ac_c rfl (ac_c rfl (ac_c rfl ac_0))) (Nat.le_of_ble_eq_true rfl) (s_X12_formatDifference_0 p0 v1 v2 h E (And.intro rfl rfl))
set_option maxRecDepth 100000 in
set_option maxHeartbeats 4000000 in
theorem s_X12_lineChar_0 {l : Launch} {G : va_G × (Nat → ClassId)} {Q : Option Value → mH → Prop} {X : String → mH → Prop} (p0 : Nat) (v1 : Int32) (h : mH) {o : Int32 × mH} (E : f_X12_lineChar p0 v1 h = some o) (hK : (fiI Q) o) : mW l G m_X12_lineChar 1 0 0 0 [some (.ref p0), some (.int v1)] [] h Q X := by
  unfold f_X12_lineChar at E
  refine q_aload_n dX12_lineChar_0 rfl ?_
  refine q_iconst dX12_lineChar_1 ?_
  obtain ⟨g1, E⟩ := grd_some E
  obtain ⟨h2, eh2, E⟩ := bnd_x E
  refine r_putI (hh := eh2) dX12_lineChar_2 FX12_117 g1 rfl rfl ?_
  refine q_iload_n dX12_lineChar_5 rfl ?_
  refine q_iconst dX12_lineChar_6 ?_
  refine q_aload_n dX12_lineChar_7 rfl ?_
  obtain ⟨g3, E⟩ := grd_some E
  refine r_getI dX12_lineChar_8 FX12_364 g3 ?_
  refine q_iconst dX12_lineChar_11 ?_
  refine q_isub dX12_lineChar_12 ?_
  obtain ⟨x5, h4, hc, E⟩ := cal_some E
  refine r_callS3 (mc := 0) (ms := 0) dX12_lineChar_13 KX12_132 (c_X12_isBetween hc) (by decide) (Nat.le_of_ble_eq_true rfl) (fun _ _ q => q.elim) ?_
  rintro _ _ ⟨rfl, rfl⟩
  clear hc
  refine q_if_eq (tgt := 26) dX12_lineChar_16 (by decide) (fun z6 => ?_) (fun z6 => ?_)
  · replace E := ite_t E z6
    refine q_aload_n dX12_lineChar_26 rfl ?_
    refine q_iconst dX12_lineChar_27 ?_
    obtain ⟨g9, E⟩ := grd_some E
    obtain ⟨x8, h7, hc, E⟩ := cal_some E
    refine r_callV1 (mc := 0) (ms := 0) dX12_lineChar_28 KX12_196 (c_X12_fails hc) g9 (by decide) (Nat.le_of_ble_eq_true rfl) (fun _ _ q => q.elim) ?_
    rintro _ _ ⟨rfl, rfl⟩
    clear hc
    refine q_i2c dX12_lineChar_31 ?_
    obtain ⟨g10, E⟩ := grd_some E
    cases E
    exact q_zreturn dX12_lineChar_32 rfl (narC g10) hK
  · replace E := ite_f E z6
    refine q_aload_n dX12_lineChar_19 rfl ?_
    obtain ⟨g11, E⟩ := grd_some E
    obtain ⟨a12, ea12, E⟩ := orf_some E
    refine r_getR dX12_lineChar_20 FX12_105 g11 ea12 ?_
    refine q_iload_n dX12_lineChar_23 rfl ?_
    obtain ⟨g13, E⟩ := grd_some E
    obtain ⟨g14, E⟩ := grd_some E
    refine r_caload dX12_lineChar_24 g13 g14 ?_
    obtain ⟨g15, E⟩ := grd_some E
    cases E
    exact q_zreturn dX12_lineChar_25 rfl (narC g15) hK
theorem c_X12_lineChar {l : Launch} {G : va_G × (Nat → ClassId)} {p0 : Nat} {v1 : Int32} {h h' : mH} {r : Int32} (E : f_X12_lineChar p0 v1 h = some (r, h')) : mMet l G m_X12_lineChar 1 0 0 [.ref p0, .int v1] h (fun v k => v = some (.int r) ∧ h' = k) (fun _ _ => False) :=
  mMet_of (by decide +kernel) rfl (ac_c rfl (ac_c rfl ac_0)) (Nat.le_of_ble_eq_true rfl) (s_X12_lineChar_0 p0 v1 h E (And.intro rfl rfl))
set_option maxRecDepth 100000 in
set_option maxHeartbeats 4000000 in
theorem s_X12_append_0 {l : Launch} {G : va_G × (Nat → ClassId)} {Q : Option Value → mH → Prop} {X : String → mH → Prop} (p0 : Nat) (v1 : Int32) (h : mH) {o : Int32 × mH} (E : f_X12_append p0 v1 h = some o) (hK : (fiI Q) o) : mW l G m_X12_append 1 0 0 0 [some (.ref p0), some (.int v1)] [] h Q X := by
  unfold f_X12_append at E
  refine q_aload_n dX12_append_0 rfl ?_
  refine q_iconst dX12_append_1 ?_
  obtain ⟨g1, E⟩ := grd_some E
  obtain ⟨h2, eh2, E⟩ := bnd_x E
  refine r_putI (hh := eh2) dX12_append_2 FX12_117 g1 rfl rfl ?_
  refine q_iload_n dX12_append_5 rfl ?_
  refine q_bipush (v := (Int32.ofInt 32)) dX12_append_6 (by decide) ?_
  refine q_bipush (v := (Int32.ofInt 126)) dX12_append_8 (by decide) ?_
  obtain ⟨x4, h3, hc, E⟩ := cal_some E
  refine r_callS3 (mc := 0) (ms := 0) dX12_append_10 KX12_132 (c_X12_isBetween hc) (by decide) (Nat.le_of_ble_eq_true rfl) (fun _ _ q => q.elim) ?_
  rintro _ _ ⟨rfl, rfl⟩
  clear hc
  refine q_if_ne (tgt := 22) dX12_append_13 (by decide) (fun z5 => ?_) (fun z5 => ?_)
  · replace E := ite_f E z5
    refine q_aload_n dX12_append_22 rfl ?_
    obtain ⟨g6, E⟩ := grd_some E
    refine r_getI dX12_append_23 FX12_165 g6 ?_
    refine q_bipush (v := (Int32.ofInt 60)) dX12_append_26 (by decide) ?_
    refine q_icmp_ne (tgt := 37) dX12_append_28 (by decide) (fun z7 => ?_) (fun z7 => ?_)
    · replace E := ite_f E z7
      refine q_aload_n dX12_append_37 rfl ?_
      obtain ⟨a8, ea8, E⟩ := orf_some E
      refine r_getR dX12_append_38 FX12_25 g6 ea8 ?_
      refine q_aload_n dX12_append_41 rfl ?_
      refine r_getI dX12_append_42 FX12_165 g6 ?_
      refine q_iload_n dX12_append_45 rfl ?_
      obtain ⟨g10, E⟩ := grd_some E
      obtain ⟨g11, E⟩ := grd_some E
      obtain ⟨g12, E⟩ := grd_some E
      obtain ⟨h9, eh9, E⟩ := bnd_x E
      refine r_castore (hh := eh9) dX12_append_46 g10 g11 g12 ?_
      refine q_aload_n dX12_append_47 rfl ?_
      refine q_dup dX12_append_48 ?_
      obtain ⟨g13, E⟩ := grd_some E
      refine r_getI dX12_append_49 FX12_165 g13 ?_
      refine q_iconst dX12_append_52 ?_
      refine q_iadd dX12_append_53 ?_
      obtain ⟨h14, eh14, E⟩ := bnd_x E
      refine r_putI (hh := eh14) dX12_append_54 FX12_165 g13 rfl rfl ?_
      refine q_aload_n dX12_append_57 rfl ?_
      obtain ⟨g15, E⟩ := grd_some E
      refine r_getI dX12_append_58 FX12_165 g15 ?_
      cases E
      exact q_ireturn dX12_append_61 rfl hK
    · replace E := ite_t E z7
      refine q_aload_n dX12_append_31 rfl ?_
      refine q_iconst dX12_append_32 ?_
      obtain ⟨x17, h16, hc, E⟩ := cal_some E
      refine r_callV1 (mc := 0) (ms := 0) dX12_append_33 KX12_196 (c_X12_fails hc) g6 (by decide) (Nat.le_of_ble_eq_true rfl) (fun _ _ q => q.elim) ?_
      rintro _ _ ⟨rfl, rfl⟩
      clear hc
      cases E
      exact q_ireturn dX12_append_36 rfl hK
  · replace E := ite_t E z5
    refine q_aload_n dX12_append_16 rfl ?_
    refine q_iconst dX12_append_17 ?_
    obtain ⟨g20, E⟩ := grd_some E
    obtain ⟨x19, h18, hc, E⟩ := cal_some E
    refine r_callV1 (mc := 0) (ms := 0) dX12_append_18 KX12_196 (c_X12_fails hc) g20 (by decide) (Nat.le_of_ble_eq_true rfl) (fun _ _ q => q.elim) ?_
    rintro _ _ ⟨rfl, rfl⟩
    clear hc
    cases E
    exact q_ireturn dX12_append_21 rfl hK
theorem c_X12_append {l : Launch} {G : va_G × (Nat → ClassId)} {p0 : Nat} {v1 : Int32} {h h' : mH} {r : Int32} (E : f_X12_append p0 v1 h = some (r, h')) : mMet l G m_X12_append 1 0 0 [.ref p0, .int v1] h (fun v k => v = some (.int r) ∧ h' = k) (fun _ _ => False) :=
  mMet_of (by decide +kernel) rfl (ac_c rfl (ac_c rfl ac_0)) (Nat.le_of_ble_eq_true rfl) (s_X12_append_0 p0 v1 h E (And.intro rfl rfl))
set_option maxRecDepth 100000 in
set_option maxHeartbeats 4000000 in
theorem s_X12_clearBuffer_0 {l : Launch} {G : va_G × (Nat → ClassId)} {Q : Option Value → mH → Prop} {X : String → mH → Prop} (p0 : Nat) (h : mH) {o : Int32 × mH} (E : f_X12_clearBuffer p0 h = some o) (hK : (fiI Q) o) : mW l G m_X12_clearBuffer 0 0 0 0 [some (.ref p0), none] [] h Q X := by
  unfold f_X12_clearBuffer at E
  refine q_aload_n dX12_clearBuffer_0 rfl ?_
  refine q_iconst dX12_clearBuffer_1 ?_
  obtain ⟨g1, E⟩ := grd_some E
  obtain ⟨h2, eh2, E⟩ := bnd_x E
  refine r_putI (hh := eh2) dX12_clearBuffer_2 FX12_117 g1 rfl rfl ?_
  refine q_aload_n dX12_clearBuffer_5 rfl ?_
  obtain ⟨g3, E⟩ := grd_some E
  refine r_getI dX12_clearBuffer_6 FX12_165 g3 ?_
  obtain ⟨x4, ex4, E⟩ := bnd_x E
  refine r_istore_n dX12_clearBuffer_9 (by decide) ex4 (ls' := [some (.ref p0), some (.int x4)]) rfl ?_
  refine q_aload_n dX12_clearBuffer_10 rfl ?_
  refine q_iconst dX12_clearBuffer_11 ?_
  obtain ⟨h5, eh5, E⟩ := bnd_x E
  refine r_putI (hh := eh5) dX12_clearBuffer_12 FX12_165 g3 rfl rfl ?_
  refine q_iload_n dX12_clearBuffer_15 rfl ?_
  cases E
  exact q_ireturn dX12_clearBuffer_16 rfl hK
theorem c_X12_clearBuffer {l : Launch} {G : va_G × (Nat → ClassId)} {p0 : Nat} {h h' : mH} {r : Int32} (E : f_X12_clearBuffer p0 h = some (r, h')) : mMet l G m_X12_clearBuffer 0 0 0 [.ref p0] h (fun v k => v = some (.int r) ∧ h' = k) (fun _ _ => False) :=
  mMet_of (by decide +kernel) rfl (ac_c rfl ac_0) (Nat.le_of_ble_eq_true rfl) (s_X12_clearBuffer_0 p0 h E (And.intro rfl rfl))
set_option maxRecDepth 100000 in
set_option maxHeartbeats 4000000 in
theorem s_X12_readsDigit_0 {l : Launch} {G : va_G × (Nat → ClassId)} {Q : Option Value → mH → Prop} {X : String → mH → Prop} (p0 : Nat) (v1 : Int32) (h : mH) {o : Int32 × mH} (E : f_X12_readsDigit p0 v1 h = some o) (hK : (fiI Q) o) : mW l G m_X12_readsDigit 1 0 0 0 [some (.ref p0), some (.int v1)] [] h Q X := by
  unfold f_X12_readsDigit at E
  refine q_aload_n dX12_readsDigit_0 rfl ?_
  obtain ⟨g3, E⟩ := grd_some E
  obtain ⟨x2, h1, hc, E⟩ := cal_some E
  refine r_callV0 (mc := 0) (ms := 0) dX12_readsDigit_1 KX12_168 (c_X12_nextChar hc) g3 (by decide) (Nat.le_of_ble_eq_true rfl) (fun _ _ q => q.elim) ?_
  rintro _ _ ⟨rfl, rfl⟩
  clear hc
  refine q_bipush (v := (Int32.ofInt 48)) dX12_readsDigit_4 (by decide) ?_
  refine q_bipush (v := (Int32.ofInt 57)) dX12_readsDigit_6 (by decide) ?_
  obtain ⟨x5, h4, hc, E⟩ := cal_some E
  refine r_callS3 (mc := 0) (ms := 0) dX12_readsDigit_8 KX12_132 (c_X12_isBetween hc) (by decide) (Nat.le_of_ble_eq_true rfl) (fun _ _ q => q.elim) ?_
  rintro _ _ ⟨rfl, rfl⟩
  clear hc
  refine q_if_ne (tgt := 16) dX12_readsDigit_11 (by decide) (fun z6 => ?_) (fun z6 => ?_)
  · replace E := ite_f E z6
    refine q_aload_n dX12_readsDigit_16 rfl ?_
    obtain ⟨g7, E⟩ := grd_some E
    obtain ⟨a8, ea8, E⟩ := orf_some E
    refine r_getR dX12_readsDigit_17 FX12_114 g7 ea8 ?_
    refine q_iload_n dX12_readsDigit_20 rfl ?_
    refine q_aload_n dX12_readsDigit_21 rfl ?_
    obtain ⟨x10, h9, hc, E⟩ := cal_some E
    refine r_callV0 (mc := 0) (ms := 0) dX12_readsDigit_22 KX12_168 (c_X12_nextChar hc) g7 (by decide) (Nat.le_of_ble_eq_true rfl) (fun _ _ q => q.elim) ?_
    rintro _ _ ⟨rfl, rfl⟩
    clear hc
    refine q_bipush (v := (Int32.ofInt 48)) dX12_readsDigit_25 (by decide) ?_
    refine q_isub dX12_readsDigit_27 ?_
    obtain ⟨g12, E⟩ := grd_some E
    obtain ⟨g13, E⟩ := grd_some E
    obtain ⟨h11, eh11, E⟩ := bnd_x E
    refine r_iastore (hh := eh11) dX12_readsDigit_28 g12 g13 ?_
    refine q_aload_n dX12_readsDigit_29 rfl ?_
    refine q_dup dX12_readsDigit_30 ?_
    obtain ⟨g14, E⟩ := grd_some E
    refine r_getI dX12_readsDigit_31 FX12_162 g14 ?_
    refine q_iconst dX12_readsDigit_34 ?_
    refine q_iadd dX12_readsDigit_35 ?_
    obtain ⟨h15, eh15, E⟩ := bnd_x E
    refine r_putI (hh := eh15) dX12_readsDigit_36 FX12_162 g14 rfl rfl ?_
    refine q_iconst dX12_readsDigit_39 ?_
    cases E
    exact q_zreturn dX12_readsDigit_40 rfl (by decide) hK
  · replace E := ite_t E z6
    refine q_iconst dX12_readsDigit_14 ?_
    cases E
    exact q_zreturn dX12_readsDigit_15 rfl (by decide) hK
theorem c_X12_readsDigit {l : Launch} {G : va_G × (Nat → ClassId)} {p0 : Nat} {v1 : Int32} {h h' : mH} {r : Int32} (E : f_X12_readsDigit p0 v1 h = some (r, h')) : mMet l G m_X12_readsDigit 1 0 0 [.ref p0, .int v1] h (fun v k => v = some (.int r) ∧ h' = k) (fun _ _ => False) :=
  mMet_of (by decide +kernel) rfl (ac_c rfl (ac_c rfl ac_0)) (Nat.le_of_ble_eq_true rfl) (s_X12_readsDigit_0 p0 v1 h E (And.intro rfl rfl))
set_option maxRecDepth 100000 in
set_option maxHeartbeats 4000000 in
theorem s_X12_readsThree_56 {l : Launch} {G : va_G × (Nat → ClassId)} {Q : Option Value → mH → Prop} {X : String → mH → Prop} (s0 : Int32) (h : mH) {o : Int32 × mH} (E : g_X12_readsThree_56 s0 h = some o) (hK : (fiI Q) o) : mW l G m_X12_readsThree 2 0 0 56 [none] [.int s0] h Q X := by
  unfold g_X12_readsThree_56 at E
  obtain ⟨g1, E⟩ := grd_some E
  cases E
  exact q_zreturn dX12_readsThree_56 rfl (narZ g1) hK
set_option maxRecDepth 100000 in
set_option maxHeartbeats 4000000 in
theorem s_X12_readsThree_55 {l : Launch} {G : va_G × (Nat → ClassId)} {Q : Option Value → mH → Prop} {X : String → mH → Prop} (h : mH) {o : Int32 × mH} (E : g_X12_readsThree_55  h = some o) (hK : (fiI Q) o) : mW l G m_X12_readsThree 2 0 0 55 [none] [] h Q X := by
  unfold g_X12_readsThree_55 at E
  refine q_iconst dX12_readsThree_55 ?_
  exact r_fewer [none] (ls_n ls_0) (s_X12_readsThree_56 (Int32.ofInt 0) h E hK)
set_option maxRecDepth 100000 in
set_option maxHeartbeats 4000000 in
theorem s_X12_readsThree_0 {l : Launch} {G : va_G × (Nat → ClassId)} {Q : Option Value → mH → Prop} {X : String → mH → Prop} (p0 : Nat) (h : mH) {o : Int32 × mH} (E : f_X12_readsThree p0 h = some o) (hK : (fiI Q) o) : mW l G m_X12_readsThree 2 0 0 0 [some (.ref p0)] [] h Q X := by
  unfold f_X12_readsThree at E
  refine q_aload_n dX12_readsThree_0 rfl ?_
  refine q_bipush (v := (Int32.ofInt 32)) dX12_readsThree_1 (by decide) ?_
  obtain ⟨g3, E⟩ := grd_some E
  obtain ⟨x2, h1, hc, E⟩ := cal_some E
  refine r_callV1 (mc := 0) (ms := 0) dX12_readsThree_3 KX12_183 (c_X12_reads hc) g3 (by decide) (Nat.le_of_ble_eq_true rfl) (fun _ _ q => q.elim) ?_
  rintro _ _ ⟨rfl, rfl⟩
  clear hc
  refine q_if_eq (tgt := 55) dX12_readsThree_6 (by decide) (fun z4 => ?_) (fun z4 => ?_)
  · replace E := ite_t E z4
    exact r_fewer [none] (ls_n ls_0) (s_X12_readsThree_55 h1 E hK)
  · replace E := ite_f E z4
    refine q_aload_n dX12_readsThree_9 rfl ?_
    refine q_iconst dX12_readsThree_10 ?_
    obtain ⟨g7, E⟩ := grd_some E
    obtain ⟨x6, h5, hc, E⟩ := cal_some E
    refine r_callV1 (mc := 0) (ms := 0) dX12_readsThree_11 KX12_379 (c_X12_readsDigit hc) g7 (by decide) (Nat.le_of_ble_eq_true rfl) (fun _ _ q => q.elim) ?_
    rintro _ _ ⟨rfl, rfl⟩
    clear hc
    refine q_if_eq (tgt := 55) dX12_readsThree_14 (by decide) (fun z8 => ?_) (fun z8 => ?_)
    · replace E := ite_t E z8
      exact r_fewer [none] (ls_n ls_0) (s_X12_readsThree_55 h5 E hK)
    · replace E := ite_f E z8
      refine q_aload_n dX12_readsThree_17 rfl ?_
      refine q_bipush (v := (Int32.ofInt 61)) dX12_readsThree_18 (by decide) ?_
      obtain ⟨g11, E⟩ := grd_some E
      obtain ⟨x10, h9, hc, E⟩ := cal_some E
      refine r_callV1 (mc := 0) (ms := 0) dX12_readsThree_20 KX12_183 (c_X12_reads hc) g11 (by decide) (Nat.le_of_ble_eq_true rfl) (fun _ _ q => q.elim) ?_
      rintro _ _ ⟨rfl, rfl⟩
      clear hc
      refine q_if_eq (tgt := 55) dX12_readsThree_23 (by decide) (fun z12 => ?_) (fun z12 => ?_)
      · replace E := ite_t E z12
        exact r_fewer [none] (ls_n ls_0) (s_X12_readsThree_55 h9 E hK)
      · replace E := ite_f E z12
        refine q_aload_n dX12_readsThree_26 rfl ?_
        refine q_iconst dX12_readsThree_27 ?_
        obtain ⟨g15, E⟩ := grd_some E
        obtain ⟨x14, h13, hc, E⟩ := cal_some E
        refine r_callV1 (mc := 0) (ms := 0) dX12_readsThree_28 KX12_379 (c_X12_readsDigit hc) g15 (by decide) (Nat.le_of_ble_eq_true rfl) (fun _ _ q => q.elim) ?_
        rintro _ _ ⟨rfl, rfl⟩
        clear hc
        refine q_if_eq (tgt := 55) dX12_readsThree_31 (by decide) (fun z16 => ?_) (fun z16 => ?_)
        · replace E := ite_t E z16
          exact r_fewer [none] (ls_n ls_0) (s_X12_readsThree_55 h13 E hK)
        · replace E := ite_f E z16
          refine q_aload_n dX12_readsThree_34 rfl ?_
          refine q_bipush (v := (Int32.ofInt 44)) dX12_readsThree_35 (by decide) ?_
          obtain ⟨g19, E⟩ := grd_some E
          obtain ⟨x18, h17, hc, E⟩ := cal_some E
          refine r_callV1 (mc := 0) (ms := 0) dX12_readsThree_37 KX12_183 (c_X12_reads hc) g19 (by decide) (Nat.le_of_ble_eq_true rfl) (fun _ _ q => q.elim) ?_
          rintro _ _ ⟨rfl, rfl⟩
          clear hc
          refine q_if_eq (tgt := 55) dX12_readsThree_40 (by decide) (fun z20 => ?_) (fun z20 => ?_)
          · replace E := ite_t E z20
            exact r_fewer [none] (ls_n ls_0) (s_X12_readsThree_55 h17 E hK)
          · replace E := ite_f E z20
            refine q_aload_n dX12_readsThree_43 rfl ?_
            refine q_iconst dX12_readsThree_44 ?_
            obtain ⟨g23, E⟩ := grd_some E
            obtain ⟨x22, h21, hc, E⟩ := cal_some E
            refine r_callV1 (mc := 0) (ms := 0) dX12_readsThree_45 KX12_379 (c_X12_readsDigit hc) g23 (by decide) (Nat.le_of_ble_eq_true rfl) (fun _ _ q => q.elim) ?_
            rintro _ _ ⟨rfl, rfl⟩
            clear hc
            refine q_if_eq (tgt := 55) dX12_readsThree_48 (by decide) (fun z24 => ?_) (fun z24 => ?_)
            · replace E := ite_t E z24
              exact r_fewer [none] (ls_n ls_0) (s_X12_readsThree_55 h21 E hK)
            · replace E := ite_f E z24
              refine q_iconst dX12_readsThree_51 ?_
              refine q_goto (tgt := 56) dX12_readsThree_52 (by decide) ?_
              exact r_fewer [none] (ls_n ls_0) (s_X12_readsThree_56 (Int32.ofInt 1) h21 E hK)
theorem c_X12_readsThree {l : Launch} {G : va_G × (Nat → ClassId)} {p0 : Nat} {h h' : mH} {r : Int32} (E : f_X12_readsThree p0 h = some (r, h')) : mMet l G m_X12_readsThree 2 0 0 [.ref p0] h (fun v k => v = some (.int r) ∧ h' = k) (fun _ _ => False) :=
  mMet_of (by decide +kernel) rfl (ac_c rfl ac_0) (Nat.le_of_ble_eq_true rfl) (s_X12_readsThree_0 p0 h E (And.intro rfl rfl))
set_option maxRecDepth 100000 in
set_option maxHeartbeats 4000000 in
theorem s_X12_readsS_56 {l : Launch} {G : va_G × (Nat → ClassId)} {Q : Option Value → mH → Prop} {X : String → mH → Prop} (s0 : Int32) (h : mH) {o : Int32 × mH} (E : g_X12_readsS_56 s0 h = some o) (hK : (fiI Q) o) : mW l G m_X12_readsS 4 0 0 56 [none] [.int s0] h Q X := by
  unfold g_X12_readsS_56 at E
  obtain ⟨g1, E⟩ := grd_some E
  cases E
  exact q_zreturn dX12_readsS_56 rfl (narZ g1) hK
set_option maxRecDepth 100000 in
set_option maxHeartbeats 4000000 in
theorem s_X12_readsS_55 {l : Launch} {G : va_G × (Nat → ClassId)} {Q : Option Value → mH → Prop} {X : String → mH → Prop} (h : mH) {o : Int32 × mH} (E : g_X12_readsS_55  h = some o) (hK : (fiI Q) o) : mW l G m_X12_readsS 4 0 0 55 [none] [] h Q X := by
  unfold g_X12_readsS_55 at E
  refine q_iconst dX12_readsS_55 ?_
  exact r_fewer [none] (ls_n ls_0) (s_X12_readsS_56 (Int32.ofInt 0) h E hK)
set_option maxRecDepth 100000 in
set_option maxHeartbeats 4000000 in
theorem s_X12_readsS_129 {l : Launch} {G : va_G × (Nat → ClassId)} {Q : Option Value → mH → Prop} {X : String → mH → Prop} (s0 : Int32) (h : mH) {o : Int32 × mH} (E : g_X12_readsS_129 s0 h = some o) (hK : (fiI Q) o) : mW l G m_X12_readsS 4 0 0 129 [none] [.int s0] h Q X := by
  unfold g_X12_readsS_129 at E
  obtain ⟨g1, E⟩ := grd_some E
  cases E
  exact q_zreturn dX12_readsS_129 rfl (narZ g1) hK
set_option maxRecDepth 100000 in
set_option maxHeartbeats 4000000 in
theorem s_X12_readsS_128 {l : Launch} {G : va_G × (Nat → ClassId)} {Q : Option Value → mH → Prop} {X : String → mH → Prop} (h : mH) {o : Int32 × mH} (E : g_X12_readsS_128  h = some o) (hK : (fiI Q) o) : mW l G m_X12_readsS 4 0 0 128 [none] [] h Q X := by
  unfold g_X12_readsS_128 at E
  refine q_iconst dX12_readsS_128 ?_
  exact r_fewer [none] (ls_n ls_0) (s_X12_readsS_129 (Int32.ofInt 0) h E hK)
set_option maxRecDepth 100000 in
set_option maxHeartbeats 4000000 in
theorem s_X12_readsS_0 {l : Launch} {G : va_G × (Nat → ClassId)} {Q : Option Value → mH → Prop} {X : String → mH → Prop} (p0 : Nat) (h : mH) {o : Int32 × mH} (E : f_X12_readsS p0 h = some o) (hK : (fiI Q) o) : mW l G m_X12_readsS 4 0 0 0 [some (.ref p0)] [] h Q X := by
  unfold f_X12_readsS at E
  refine q_aload_n dX12_readsS_0 rfl ?_
  refine q_bipush (v := (Int32.ofInt 101)) dX12_readsS_1 (by decide) ?_
  obtain ⟨g3, E⟩ := grd_some E
  obtain ⟨x2, h1, hc, E⟩ := cal_some E
  refine r_callV1 (mc := 0) (ms := 0) dX12_readsS_3 KX12_183 (c_X12_reads hc) g3 (by decide) (Nat.le_of_ble_eq_true rfl) (fun _ _ q => q.elim) ?_
  rintro _ _ ⟨rfl, rfl⟩
  clear hc
  refine q_if_eq (tgt := 57) dX12_readsS_6 (by decide) (fun z4 => ?_) (fun z4 => ?_)
  · replace E := ite_t E z4
    refine q_aload_n dX12_readsS_57 rfl ?_
    refine q_bipush (v := (Int32.ofInt 114)) dX12_readsS_58 (by decide) ?_
    obtain ⟨g5, E⟩ := grd_some E
    obtain ⟨h6, eh6, E⟩ := bnd_x E
    refine r_putI (hh := eh6) dX12_readsS_60 FX12_382 g5 rfl rfl ?_
    refine q_aload_n dX12_readsS_63 rfl ?_
    refine q_bipush (v := (Int32.ofInt 116)) dX12_readsS_64 (by decide) ?_
    obtain ⟨g9, E⟩ := grd_some E
    obtain ⟨x8, h7, hc, E⟩ := cal_some E
    refine r_callV1 (mc := 0) (ms := 0) dX12_readsS_66 KX12_183 (c_X12_reads hc) g9 (by decide) (Nat.le_of_ble_eq_true rfl) (fun _ _ q => q.elim) ?_
    rintro _ _ ⟨rfl, rfl⟩
    clear hc
    refine q_if_eq (tgt := 128) dX12_readsS_69 (by decide) (fun z10 => ?_) (fun z10 => ?_)
    · replace E := ite_t E z10
      exact r_fewer [none] (ls_n ls_0) (s_X12_readsS_128 h7 E hK)
    · replace E := ite_f E z10
      refine q_aload_n dX12_readsS_72 rfl ?_
      refine q_bipush (v := (Int32.ofInt 97)) dX12_readsS_73 (by decide) ?_
      obtain ⟨g13, E⟩ := grd_some E
      obtain ⟨x12, h11, hc, E⟩ := cal_some E
      refine r_callV1 (mc := 0) (ms := 0) dX12_readsS_75 KX12_183 (c_X12_reads hc) g13 (by decide) (Nat.le_of_ble_eq_true rfl) (fun _ _ q => q.elim) ?_
      rintro _ _ ⟨rfl, rfl⟩
      clear hc
      refine q_if_eq (tgt := 128) dX12_readsS_78 (by decide) (fun z14 => ?_) (fun z14 => ?_)
      · replace E := ite_t E z14
        exact r_fewer [none] (ls_n ls_0) (s_X12_readsS_128 h11 E hK)
      · replace E := ite_f E z14
        refine q_aload_n dX12_readsS_81 rfl ?_
        refine q_bipush (v := (Int32.ofInt 114)) dX12_readsS_82 (by decide) ?_
        obtain ⟨g17, E⟩ := grd_some E
        obtain ⟨x16, h15, hc, E⟩ := cal_some E
        refine r_callV1 (mc := 0) (ms := 0) dX12_readsS_84 KX12_183 (c_X12_reads hc) g17 (by decide) (Nat.le_of_ble_eq_true rfl) (fun _ _ q => q.elim) ?_
        rintro _ _ ⟨rfl, rfl⟩
        clear hc
        refine q_if_eq (tgt := 128) dX12_readsS_87 (by decide) (fun z18 => ?_) (fun z18 => ?_)
        · replace E := ite_t E z18
          exact r_fewer [none] (ls_n ls_0) (s_X12_readsS_128 h15 E hK)
        · replace E := ite_f E z18
          refine q_aload_n dX12_readsS_90 rfl ?_
          refine q_bipush (v := (Int32.ofInt 32)) dX12_readsS_91 (by decide) ?_
          obtain ⟨g21, E⟩ := grd_some E
          obtain ⟨x20, h19, hc, E⟩ := cal_some E
          refine r_callV1 (mc := 0) (ms := 0) dX12_readsS_93 KX12_183 (c_X12_reads hc) g21 (by decide) (Nat.le_of_ble_eq_true rfl) (fun _ _ q => q.elim) ?_
          rintro _ _ ⟨rfl, rfl⟩
          clear hc
          refine q_if_eq (tgt := 128) dX12_readsS_96 (by decide) (fun z22 => ?_) (fun z22 => ?_)
          · replace E := ite_t E z22
            exact r_fewer [none] (ls_n ls_0) (s_X12_readsS_128 h19 E hK)
          · replace E := ite_f E z22
            refine q_aload_n dX12_readsS_99 rfl ?_
            refine q_iconst dX12_readsS_100 ?_
            obtain ⟨g25, E⟩ := grd_some E
            obtain ⟨x24, h23, hc, E⟩ := cal_some E
            refine r_callV1 (mc := 0) (ms := 0) dX12_readsS_101 KX12_379 (c_X12_readsDigit hc) g25 (by decide) (Nat.le_of_ble_eq_true rfl) (fun _ _ q => q.elim) ?_
            rintro _ _ ⟨rfl, rfl⟩
            clear hc
            refine q_if_eq (tgt := 128) dX12_readsS_104 (by decide) (fun z26 => ?_) (fun z26 => ?_)
            · replace E := ite_t E z26
              exact r_fewer [none] (ls_n ls_0) (s_X12_readsS_128 h23 E hK)
            · replace E := ite_f E z26
              refine q_aload_n dX12_readsS_107 rfl ?_
              refine q_bipush (v := (Int32.ofInt 61)) dX12_readsS_108 (by decide) ?_
              obtain ⟨g29, E⟩ := grd_some E
              obtain ⟨x28, h27, hc, E⟩ := cal_some E
              refine r_callV1 (mc := 0) (ms := 0) dX12_readsS_110 KX12_183 (c_X12_reads hc) g29 (by decide) (Nat.le_of_ble_eq_true rfl) (fun _ _ q => q.elim) ?_
              rintro _ _ ⟨rfl, rfl⟩
              clear hc
              refine q_if_eq (tgt := 128) dX12_readsS_113 (by decide) (fun z30 => ?_) (fun z30 => ?_)
              · replace E := ite_t E z30
                exact r_fewer [none] (ls_n ls_0) (s_X12_readsS_128 h27 E hK)
              · replace E := ite_f E z30
                refine q_aload_n dX12_readsS_116 rfl ?_
                refine q_iconst dX12_readsS_117 ?_
                obtain ⟨g33, E⟩ := grd_some E
                obtain ⟨x32, h31, hc, E⟩ := cal_some E
                refine r_callV1 (mc := 0) (ms := 0) dX12_readsS_118 KX12_379 (c_X12_readsDigit hc) g33 (by decide) (Nat.le_of_ble_eq_true rfl) (fun _ _ q => q.elim) ?_
                rintro _ _ ⟨rfl, rfl⟩
                clear hc
                refine q_if_eq (tgt := 128) dX12_readsS_121 (by decide) (fun z34 => ?_) (fun z34 => ?_)
                · replace E := ite_t E z34
                  exact r_fewer [none] (ls_n ls_0) (s_X12_readsS_128 h31 E hK)
                · replace E := ite_f E z34
                  refine q_iconst dX12_readsS_124 ?_
                  refine q_goto (tgt := 129) dX12_readsS_125 (by decide) ?_
                  exact r_fewer [none] (ls_n ls_0) (s_X12_readsS_129 (Int32.ofInt 1) h31 E hK)
  · replace E := ite_f E z4
    refine q_aload_n dX12_readsS_9 rfl ?_
    refine q_bipush (v := (Int32.ofInt 116)) dX12_readsS_10 (by decide) ?_
    obtain ⟨g37, E⟩ := grd_some E
    obtain ⟨x36, h35, hc, E⟩ := cal_some E
    refine r_callV1 (mc := 0) (ms := 0) dX12_readsS_12 KX12_183 (c_X12_reads hc) g37 (by decide) (Nat.le_of_ble_eq_true rfl) (fun _ _ q => q.elim) ?_
    rintro _ _ ⟨rfl, rfl⟩
    clear hc
    refine q_if_eq (tgt := 55) dX12_readsS_15 (by decide) (fun z38 => ?_) (fun z38 => ?_)
    · replace E := ite_t E z38
      exact r_fewer [none] (ls_n ls_0) (s_X12_readsS_55 h35 E hK)
    · replace E := ite_f E z38
      refine q_aload_n dX12_readsS_18 rfl ?_
      refine q_bipush (v := (Int32.ofInt 32)) dX12_readsS_19 (by decide) ?_
      obtain ⟨g41, E⟩ := grd_some E
      obtain ⟨x40, h39, hc, E⟩ := cal_some E
      refine r_callV1 (mc := 0) (ms := 0) dX12_readsS_21 KX12_183 (c_X12_reads hc) g41 (by decide) (Nat.le_of_ble_eq_true rfl) (fun _ _ q => q.elim) ?_
      rintro _ _ ⟨rfl, rfl⟩
      clear hc
      refine q_if_eq (tgt := 55) dX12_readsS_24 (by decide) (fun z42 => ?_) (fun z42 => ?_)
      · replace E := ite_t E z42
        exact r_fewer [none] (ls_n ls_0) (s_X12_readsS_55 h39 E hK)
      · replace E := ite_f E z42
        refine q_aload_n dX12_readsS_27 rfl ?_
        refine q_iconst dX12_readsS_28 ?_
        obtain ⟨g45, E⟩ := grd_some E
        obtain ⟨x44, h43, hc, E⟩ := cal_some E
        refine r_callV1 (mc := 0) (ms := 0) dX12_readsS_29 KX12_379 (c_X12_readsDigit hc) g45 (by decide) (Nat.le_of_ble_eq_true rfl) (fun _ _ q => q.elim) ?_
        rintro _ _ ⟨rfl, rfl⟩
        clear hc
        refine q_if_eq (tgt := 55) dX12_readsS_32 (by decide) (fun z46 => ?_) (fun z46 => ?_)
        · replace E := ite_t E z46
          exact r_fewer [none] (ls_n ls_0) (s_X12_readsS_55 h43 E hK)
        · replace E := ite_f E z46
          refine q_aload_n dX12_readsS_35 rfl ?_
          refine q_bipush (v := (Int32.ofInt 61)) dX12_readsS_36 (by decide) ?_
          obtain ⟨g49, E⟩ := grd_some E
          obtain ⟨x48, h47, hc, E⟩ := cal_some E
          refine r_callV1 (mc := 0) (ms := 0) dX12_readsS_38 KX12_183 (c_X12_reads hc) g49 (by decide) (Nat.le_of_ble_eq_true rfl) (fun _ _ q => q.elim) ?_
          rintro _ _ ⟨rfl, rfl⟩
          clear hc
          refine q_if_eq (tgt := 55) dX12_readsS_41 (by decide) (fun z50 => ?_) (fun z50 => ?_)
          · replace E := ite_t E z50
            exact r_fewer [none] (ls_n ls_0) (s_X12_readsS_55 h47 E hK)
          · replace E := ite_f E z50
            refine q_aload_n dX12_readsS_44 rfl ?_
            obtain ⟨g53, E⟩ := grd_some E
            obtain ⟨x52, h51, hc, E⟩ := cal_some E
            refine r_callV0 (mc := 0) (ms := 0) dX12_readsS_45 KX12_199 (c_X12_readsPattern hc) g53 (by decide) (Nat.le_of_ble_eq_true rfl) (fun _ _ q => q.elim) ?_
            rintro _ _ ⟨rfl, rfl⟩
            clear hc
            refine q_if_eq (tgt := 55) dX12_readsS_48 (by decide) (fun z54 => ?_) (fun z54 => ?_)
            · replace E := ite_t E z54
              exact r_fewer [none] (ls_n ls_0) (s_X12_readsS_55 h51 E hK)
            · replace E := ite_f E z54
              refine q_iconst dX12_readsS_51 ?_
              refine q_goto (tgt := 56) dX12_readsS_52 (by decide) ?_
              exact r_fewer [none] (ls_n ls_0) (s_X12_readsS_56 (Int32.ofInt 1) h51 E hK)
theorem c_X12_readsS {l : Launch} {G : va_G × (Nat → ClassId)} {p0 : Nat} {h h' : mH} {r : Int32} (E : f_X12_readsS p0 h = some (r, h')) : mMet l G m_X12_readsS 4 0 0 [.ref p0] h (fun v k => v = some (.int r) ∧ h' = k) (fun _ _ => False) :=
  mMet_of (by decide +kernel) rfl (ac_c rfl ac_0) (Nat.le_of_ble_eq_true rfl) (s_X12_readsS_0 p0 h E (And.intro rfl rfl))
set_option maxRecDepth 100000 in
set_option maxHeartbeats 4000000 in
theorem s_X12_readsWord_36 {l : Launch} {G : va_G × (Nat → ClassId)} {Q : Option Value → mH → Prop} {X : String → mH → Prop} (h : mH) {o : Int32 × mH} (E : g_X12_readsWord_36  h = some o) (hK : (fiI Q) o) : mW l G m_X12_readsWord 2 0 0 36 [none, none] [] h Q X := by
  unfold g_X12_readsWord_36 at E
  refine q_iconst dX12_readsWord_36 ?_
  cases E
  exact q_zreturn dX12_readsWord_37 rfl (by decide) hK
set_option maxRecDepth 100000 in
set_option maxHeartbeats 4000000 in
theorem s_X12_readsWord_95 {l : Launch} {G : va_G × (Nat → ClassId)} {Q : Option Value → mH → Prop} {X : String → mH → Prop} (s0 : Int32) (h : mH) {o : Int32 × mH} (E : g_X12_readsWord_95 s0 h = some o) (hK : (fiI Q) o) : mW l G m_X12_readsWord 2 0 0 95 [none, none] [.int s0] h Q X := by
  unfold g_X12_readsWord_95 at E
  obtain ⟨g1, E⟩ := grd_some E
  cases E
  exact q_zreturn dX12_readsWord_95 rfl (narZ g1) hK
set_option maxRecDepth 100000 in
set_option maxHeartbeats 4000000 in
theorem s_X12_readsWord_94 {l : Launch} {G : va_G × (Nat → ClassId)} {Q : Option Value → mH → Prop} {X : String → mH → Prop} (h : mH) {o : Int32 × mH} (E : g_X12_readsWord_94  h = some o) (hK : (fiI Q) o) : mW l G m_X12_readsWord 2 0 0 94 [none, none] [] h Q X := by
  unfold g_X12_readsWord_94 at E
  refine q_iconst dX12_readsWord_94 ?_
  exact r_fewer [none, none] (ls_n (ls_n ls_0)) (s_X12_readsWord_95 (Int32.ofInt 0) h E hK)
set_option maxRecDepth 100000 in
set_option maxHeartbeats 4000000 in
theorem sb_X12_readsWord_43 {l : Launch} {G : va_G × (Nat → ClassId)} {Q : Option Value → mH → Prop} {X : String → mH → Prop} (p0 : Nat) (v1 : Int32) (h : mH) {o : ((mH) ⊕ (Int32 × mH))} (E : b0_X12_readsWord_43 p0 v1 h = some o) (hK : (lpK (w_X12_readsWord_43 l G Q X p0 v1) (fiI Q)) o) : mW l G m_X12_readsWord 2 0 0 43 [some (.ref p0), some (.int v1)] [] h Q X := by
  unfold b0_X12_readsWord_43 at E
  refine q_aload_n dX12_readsWord_43 rfl ?_
  obtain ⟨g3, E⟩ := grd_some E
  obtain ⟨x2, h1, hc, E⟩ := cal_some E
  refine r_callV0 (mc := 0) (ms := 0) dX12_readsWord_44 KX12_168 (c_X12_nextChar hc) g3 (by decide) (Nat.le_of_ble_eq_true rfl) (fun _ _ q => q.elim) ?_
  rintro _ _ ⟨rfl, rfl⟩
  clear hc
  refine q_bipush (v := (Int32.ofInt 97)) dX12_readsWord_47 (by decide) ?_
  refine q_bipush (v := (Int32.ofInt 99)) dX12_readsWord_49 (by decide) ?_
  obtain ⟨x5, h4, hc, E⟩ := cal_some E
  refine r_callS3 (mc := 0) (ms := 0) dX12_readsWord_51 KX12_132 (c_X12_isBetween hc) (by decide) (Nat.le_of_ble_eq_true rfl) (fun _ _ q => q.elim) ?_
  rintro _ _ ⟨rfl, rfl⟩
  clear hc
  refine q_if_eq (tgt := 70) dX12_readsWord_54 (by decide) (fun z6 => ?_) (fun z6 => ?_)
  · replace E := ite_t E z6
    refine q_aload_n dX12_readsWord_70 rfl ?_
    refine q_iload_n dX12_readsWord_71 rfl ?_
    refine q_aload_n dX12_readsWord_72 rfl ?_
    obtain ⟨g7, E⟩ := grd_some E
    refine r_getI dX12_readsWord_73 FX12_162 g7 ?_
    obtain ⟨x9, h8, hc, E⟩ := cal_some E
    refine r_callV2 (mc := 0) (ms := 0) dX12_readsWord_76 KX12_239 (c_X12_takesWord hc) g7 (by decide) (Nat.le_of_ble_eq_true rfl) (fun _ _ q => q.elim) ?_
    rintro _ _ ⟨rfl, rfl⟩
    clear hc
    refine q_if_eq (tgt := 94) dX12_readsWord_79 (by decide) (fun z10 => ?_) (fun z10 => ?_)
    · replace E := ite_t E z10
      obtain ⟨o0, E0, rfl⟩ := inrO_some E
      exact r_fewer [none, none] (ls_n (ls_n ls_0)) (s_X12_readsWord_94 h8 E0 hK)
    · replace E := ite_f E z10
      refine q_aload_n dX12_readsWord_82 rfl ?_
      obtain ⟨g11, E⟩ := grd_some E
      refine r_getI dX12_readsWord_83 FX12_162 g11 ?_
      refine q_iload_n dX12_readsWord_86 rfl ?_
      refine q_icmp_le (tgt := 94) dX12_readsWord_87 (by decide) (fun z12 => ?_) (fun z12 => ?_)
      · replace E := ite_t E z12
        obtain ⟨o0, E0, rfl⟩ := inrO_some E
        exact r_fewer [none, none] (ls_n (ls_n ls_0)) (s_X12_readsWord_94 h8 E0 hK)
      · replace E := ite_f E z12
        refine q_iconst dX12_readsWord_90 ?_
        refine q_goto (tgt := 95) dX12_readsWord_91 (by decide) ?_
        obtain ⟨o0, E0, rfl⟩ := inrO_some E
        exact r_fewer [none, none] (ls_n (ls_n ls_0)) (s_X12_readsWord_95 (Int32.ofInt 1) h8 E0 hK)
  · replace E := ite_f E z6
    refine q_aload_n dX12_readsWord_57 rfl ?_
    refine q_dup dX12_readsWord_58 ?_
    obtain ⟨g13, E⟩ := grd_some E
    refine r_getI dX12_readsWord_59 FX12_162 g13 ?_
    refine q_iconst dX12_readsWord_62 ?_
    refine q_iadd dX12_readsWord_63 ?_
    obtain ⟨h14, eh14, E⟩ := bnd_x E
    refine r_putI (hh := eh14) dX12_readsWord_64 FX12_162 g13 rfl rfl ?_
    refine q_goto (tgt := 43) dX12_readsWord_67 (by decide) ?_
    cases E
    exact r_fewer [some (.ref p0), some (.int v1)] (ls_s (ls_s ls_0)) hK
theorem s_X12_readsWord_43 {l : Launch} {G : va_G × (Nat → ClassId)} {Q : Option Value → mH → Prop} {X : String → mH → Prop} (p0 : Nat) (v1 : Int32) (h : mH) {o : Int32 × mH} (E : g_X12_readsWord_43 p0 v1 h = some o) (hK : (fiI Q) o) : mW l G m_X12_readsWord 2 0 0 43 [some (.ref p0), some (.int v1)] [] h Q X :=
  (lp_go (w_X12_readsWord_43 l G Q X p0 v1) (fiI Q) (b_X12_readsWord_43 p0 v1) (fun s o E hK => sb_X12_readsWord_43 p0 v1 (s) E hK) _ _ _ E hK : w_X12_readsWord_43 l G Q X p0 v1 (h))
set_option maxRecDepth 100000 in
set_option maxHeartbeats 4000000 in
theorem s_X12_readsWord_0 {l : Launch} {G : va_G × (Nat → ClassId)} {Q : Option Value → mH → Prop} {X : String → mH → Prop} (p0 : Nat) (h : mH) {o : Int32 × mH} (E : f_X12_readsWord p0 h = some o) (hK : (fiI Q) o) : mW l G m_X12_readsWord 2 0 0 0 [some (.ref p0), none] [] h Q X := by
  unfold f_X12_readsWord at E
  refine q_aload_n dX12_readsWord_0 rfl ?_
  refine q_bipush (v := (Int32.ofInt 111)) dX12_readsWord_1 (by decide) ?_
  obtain ⟨g3, E⟩ := grd_some E
  obtain ⟨x2, h1, hc, E⟩ := cal_some E
  refine r_callV1 (mc := 0) (ms := 0) dX12_readsWord_3 KX12_183 (c_X12_reads hc) g3 (by decide) (Nat.le_of_ble_eq_true rfl) (fun _ _ q => q.elim) ?_
  rintro _ _ ⟨rfl, rfl⟩
  clear hc
  refine q_if_eq (tgt := 36) dX12_readsWord_6 (by decide) (fun z4 => ?_) (fun z4 => ?_)
  · replace E := ite_t E z4
    exact r_fewer [none, none] (ls_n (ls_n ls_0)) (s_X12_readsWord_36 h1 E hK)
  · replace E := ite_f E z4
    refine q_aload_n dX12_readsWord_9 rfl ?_
    refine q_bipush (v := (Int32.ofInt 114)) dX12_readsWord_10 (by decide) ?_
    obtain ⟨g7, E⟩ := grd_some E
    obtain ⟨x6, h5, hc, E⟩ := cal_some E
    refine r_callV1 (mc := 0) (ms := 0) dX12_readsWord_12 KX12_183 (c_X12_reads hc) g7 (by decide) (Nat.le_of_ble_eq_true rfl) (fun _ _ q => q.elim) ?_
    rintro _ _ ⟨rfl, rfl⟩
    clear hc
    refine q_if_eq (tgt := 36) dX12_readsWord_15 (by decide) (fun z8 => ?_) (fun z8 => ?_)
    · replace E := ite_t E z8
      exact r_fewer [none, none] (ls_n (ls_n ls_0)) (s_X12_readsWord_36 h5 E hK)
    · replace E := ite_f E z8
      refine q_aload_n dX12_readsWord_18 rfl ?_
      refine q_bipush (v := (Int32.ofInt 100)) dX12_readsWord_19 (by decide) ?_
      obtain ⟨g11, E⟩ := grd_some E
      obtain ⟨x10, h9, hc, E⟩ := cal_some E
      refine r_callV1 (mc := 0) (ms := 0) dX12_readsWord_21 KX12_183 (c_X12_reads hc) g11 (by decide) (Nat.le_of_ble_eq_true rfl) (fun _ _ q => q.elim) ?_
      rintro _ _ ⟨rfl, rfl⟩
      clear hc
      refine q_if_eq (tgt := 36) dX12_readsWord_24 (by decide) (fun z12 => ?_) (fun z12 => ?_)
      · replace E := ite_t E z12
        exact r_fewer [none, none] (ls_n (ls_n ls_0)) (s_X12_readsWord_36 h9 E hK)
      · replace E := ite_f E z12
        refine q_aload_n dX12_readsWord_27 rfl ?_
        refine q_bipush (v := (Int32.ofInt 32)) dX12_readsWord_28 (by decide) ?_
        obtain ⟨g15, E⟩ := grd_some E
        obtain ⟨x14, h13, hc, E⟩ := cal_some E
        refine r_callV1 (mc := 0) (ms := 0) dX12_readsWord_30 KX12_183 (c_X12_reads hc) g15 (by decide) (Nat.le_of_ble_eq_true rfl) (fun _ _ q => q.elim) ?_
        rintro _ _ ⟨rfl, rfl⟩
        clear hc
        refine q_if_ne (tgt := 38) dX12_readsWord_33 (by decide) (fun z16 => ?_) (fun z16 => ?_)
        · replace E := ite_f E z16
          refine q_aload_n dX12_readsWord_38 rfl ?_
          obtain ⟨g17, E⟩ := grd_some E
          refine r_getI dX12_readsWord_39 FX12_162 g17 ?_
          obtain ⟨x18, ex18, E⟩ := bnd_x E
          refine r_istore_n dX12_readsWord_42 (by decide) ex18 (ls' := [some (.ref p0), some (.int x18)]) rfl ?_
          exact r_fewer [some (.ref p0), some (.int x18)] (ls_s (ls_s ls_0)) (s_X12_readsWord_43 p0 x18 h13 E hK)
        · replace E := ite_t E z16
          exact r_fewer [none, none] (ls_n (ls_n ls_0)) (s_X12_readsWord_36 h13 E hK)
theorem c_X12_readsWord {l : Launch} {G : va_G × (Nat → ClassId)} {p0 : Nat} {h h' : mH} {r : Int32} (E : f_X12_readsWord p0 h = some (r, h')) : mMet l G m_X12_readsWord 2 0 0 [.ref p0] h (fun v k => v = some (.int r) ∧ h' = k) (fun _ _ => False) :=
  mMet_of (by decide +kernel) rfl (ac_c rfl ac_0) (Nat.le_of_ble_eq_true rfl) (s_X12_readsWord_0 p0 h E (And.intro rfl rfl))
