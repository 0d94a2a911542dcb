set_option maxRecDepth 100000 in
set_option maxHeartbeats 4000000 in
theorem s_X12_readsLetter_0 {l : Launch} {G : va_G × (Nat → ClassId)} {Q : Option Value → mH → Prop} {X : String → mH → Prop} (p0 : Nat) (h : mH) {o : Int32 × mH} (E : f_X12_readsLetter p0 h = some o) (hK : (fiI Q) o) : mW l G m_X12_readsLetter 1 0 0 0 [some (.ref p0), none] [] h Q X := by
  unfold f_X12_readsLetter at E
  refine q_aload_n dX12_readsLetter_0 rfl ?_
  obtain ⟨g3, E⟩ := grd_some E
  obtain ⟨x2, h1, hc, E⟩ := cal_some E
  refine r_callV0 (mc := 0) (ms := 0) dX12_readsLetter_1 KX12_168 (c_X12_nextChar hc) g3 (by decide) (Nat.le_of_ble_eq_true rfl) (fun _ _ q => q.elim) ?_
  rintro _ _ ⟨rfl, rfl⟩
  clear hc
  refine r_istore_n dX12_readsLetter_4 (by decide) rfl (ls' := [some (.ref p0), some (.int x2)]) rfl ?_
  refine q_iload_n dX12_readsLetter_5 rfl ?_
  refine q_bipush (v := (Int32.ofInt 97)) dX12_readsLetter_6 (by decide) ?_
  refine q_bipush (v := (Int32.ofInt 99)) dX12_readsLetter_8 (by decide) ?_
  obtain ⟨x5, h4, hc, E⟩ := cal_some E
  refine r_callS3 (mc := 0) (ms := 0) dX12_readsLetter_10 KX12_132 (c_X12_isBetween hc) (by decide) (Nat.le_of_ble_eq_true rfl) (fun _ _ q => q.elim) ?_
  rintro _ _ ⟨rfl, rfl⟩
  clear hc
  refine q_if_ne (tgt := 18) dX12_readsLetter_13 (by decide) (fun z6 => ?_) (fun z6 => ?_)
  · replace E := ite_f E z6
    refine q_aload_n dX12_readsLetter_18 rfl ?_
    refine q_dup dX12_readsLetter_19 ?_
    obtain ⟨g7, E⟩ := grd_some E
    refine r_getI dX12_readsLetter_20 FX12_162 g7 ?_
    refine q_iconst dX12_readsLetter_23 ?_
    refine q_iadd dX12_readsLetter_24 ?_
    obtain ⟨h8, eh8, E⟩ := bnd_x E
    refine r_putI (hh := eh8) dX12_readsLetter_25 FX12_162 g7 rfl rfl ?_
    refine q_aload_n dX12_readsLetter_28 rfl ?_
    refine q_iload_n dX12_readsLetter_29 rfl ?_
    refine q_bipush (v := (Int32.ofInt 97)) dX12_readsLetter_30 (by decide) ?_
    refine q_isub dX12_readsLetter_32 ?_
    refine q_iconst dX12_readsLetter_33 ?_
    refine q_iadd dX12_readsLetter_34 ?_
    obtain ⟨g11, E⟩ := grd_some E
    obtain ⟨_, h9, hc, E⟩ := cal_some E
    refine r_callV1 (mc := 0) (ms := 0) dX12_readsLetter_35 KX12_151 (c_X12_adds hc) g11 (by decide) (Nat.le_of_ble_eq_true rfl) (fun _ _ q => q.elim) ?_
    rintro _ _ ⟨rfl, rfl⟩
    clear hc
    refine q_iconst dX12_readsLetter_38 ?_
    cases E
    exact q_zreturn dX12_readsLetter_39 rfl (by decide) hK
  · replace E := ite_t E z6
    refine q_iconst dX12_readsLetter_16 ?_
    cases E
    exact q_zreturn dX12_readsLetter_17 rfl (by decide) hK
theorem c_X12_readsLetter {l : Launch} {G : va_G × (Nat → ClassId)} {p0 : Nat} {h h' : mH} {r : Int32} (E : f_X12_readsLetter p0 h = some (r, h')) : mMet l G m_X12_readsLetter 1 0 0 [.ref p0] h (fun v k => v = some (.int r) ∧ h' = k) (fun _ _ => False) :=
  mMet_of (by decide +kernel) rfl (ac_c rfl ac_0) (Nat.le_of_ble_eq_true rfl) (s_X12_readsLetter_0 p0 h E (And.intro rfl rfl))
set_option maxRecDepth 100000 in
set_option maxHeartbeats 4000000 in
theorem s_X12_signOf_0 {l : Launch} {G : va_G × (Nat → ClassId)} {Q : Option Value → mH → Prop} {X : String → mH → Prop} (v0 : Int32) (h : mH) {o : Int32 × mH} (E : f_X12_signOf v0 h = some o) (hK : (fiI Q) o) : mW l G m_X12_signOf 0 0 0 0 [some (.int v0)] [] h Q X := by
  unfold f_X12_signOf at E
  refine q_iload_n dX12_signOf_0 rfl ?_
  by_cases z1 : v0 = (Int32.ofInt 42)
  · replace E := ite_t E z1
    refine r_lookupV (off := 35) (tgt := 36) (Int32.ofInt 42) dX12_signOf_1 z1 (by decide) (by decide) (by decide) ?_
    refine q_bipush (v := (Int32.ofInt 6)) dX12_signOf_36 (by decide) ?_
    cases E
    exact q_ireturn dX12_signOf_38 rfl hK
  replace E := ite_f E z1
  by_cases z2 : v0 = (Int32.ofInt 43)
  · replace E := ite_t E z2
    refine r_lookupV (off := 38) (tgt := 39) (Int32.ofInt 43) dX12_signOf_1 z2 (by decide) (by decide) (by decide) ?_
    refine q_bipush (v := (Int32.ofInt 7)) dX12_signOf_39 (by decide) ?_
    cases E
    exact q_ireturn dX12_signOf_41 rfl hK
  replace E := ite_f E z2
  by_cases z3 : v0 = (Int32.ofInt 63)
  · replace E := ite_t E z3
    refine r_lookupV (off := 41) (tgt := 42) (Int32.ofInt 63) dX12_signOf_1 z3 (by decide) (by decide) (by decide) ?_
    refine q_bipush (v := (Int32.ofInt 8)) dX12_signOf_42 (by decide) ?_
    cases E
    exact q_ireturn dX12_signOf_44 rfl hK
  replace E := ite_f E z3
  refine r_lookup (off := 44) (tgt := 45) dX12_signOf_1 (by decide) (Eq.trans (lv_osw z1 rfl) (Eq.trans (lv_osw z2 rfl) (Eq.trans (lv_osw z3 rfl) rfl))) (by decide) ?_
  refine q_iconst dX12_signOf_45 ?_
  cases E
  exact q_ireturn dX12_signOf_46 rfl hK
theorem c_X12_signOf {l : Launch} {G : va_G × (Nat → ClassId)} {v0 : Int32} {h h' : mH} {r : Int32} (E : f_X12_signOf v0 h = some (r, h')) : mMet l G m_X12_signOf 0 0 0 [.int v0] h (fun v k => v = some (.int r) ∧ h' = k) (fun _ _ => False) :=
  mMet_of (by decide +kernel) rfl (ac_c rfl ac_0) (Nat.le_of_ble_eq_true rfl) (s_X12_signOf_0 v0 h E (And.intro rfl rfl))
set_option maxRecDepth 100000 in
set_option maxHeartbeats 4000000 in
theorem s_X12_readsBehind_50 {l : Launch} {G : va_G × (Nat → ClassId)} {Q : Option Value → mH → Prop} {X : String → mH → Prop} (p0 : Nat) (h : mH) {o : Int32 × mH} (E : g_X12_readsBehind_50 p0 h = some o) (hK : (fiI Q) o) : mW l G m_X12_readsBehind 2 0 0 50 [some (.ref p0), none] [] h Q X := by
  unfold g_X12_readsBehind_50 at E
  refine q_aload_n dX12_readsBehind_50 rfl ?_
  refine q_iconst dX12_readsBehind_51 ?_
  obtain ⟨g3, E⟩ := grd_some E
  obtain ⟨_, h1, hc, E⟩ := cal_some E
  refine r_callV1 (mc := 0) (ms := 0) dX12_readsBehind_52 KX12_177 (c_X12_brings hc) g3 (by decide) (Nat.le_of_ble_eq_true rfl) (fun _ _ q => q.elim) ?_
  rintro _ _ ⟨rfl, rfl⟩
  clear hc
  refine q_aload_n dX12_readsBehind_55 rfl ?_
  refine q_iconst dX12_readsBehind_56 ?_
  obtain ⟨g6, E⟩ := grd_some E
  obtain ⟨_, h4, hc, E⟩ := cal_some E
  refine r_callV1 (mc := 0) (ms := 0) dX12_readsBehind_57 KX12_180 (c_X12_waitsFor hc) g6 (by decide) (Nat.le_of_ble_eq_true rfl) (fun _ _ q => q.elim) ?_
  rintro _ _ ⟨rfl, rfl⟩
  clear hc
  refine q_iconst dX12_readsBehind_60 ?_
  cases E
  exact q_ireturn dX12_readsBehind_61 rfl hK
set_option maxRecDepth 100000 in
set_option maxHeartbeats 4000000 in
theorem s_X12_readsBehind_126 {l : Launch} {G : va_G × (Nat → ClassId)} {Q : Option Value → mH → Prop} {X : String → mH → Prop} (h : mH) {o : Int32 × mH} (E : g_X12_readsBehind_126  h = some o) (hK : (fiI Q) o) : mW l G m_X12_readsBehind 2 0 0 126 [none, none] [] h Q X := by
  unfold g_X12_readsBehind_126 at E
  refine q_iconst dX12_readsBehind_126 ?_
  cases E
  exact q_ireturn dX12_readsBehind_127 rfl hK
set_option maxRecDepth 100000 in
set_option maxHeartbeats 4000000 in
theorem s_X12_readsBehind_27 {l : Launch} {G : va_G × (Nat → ClassId)} {Q : Option Value → mH → Prop} {X : String → mH → Prop} (p0 : Nat) (h : mH) {o : Int32 × mH} (E : g_X12_readsBehind_27 p0 h = some o) (hK : (fiI Q) o) : mW l G m_X12_readsBehind 2 0 0 27 [some (.ref p0), none] [] h Q X := by
  unfold g_X12_readsBehind_27 at E
  refine q_aload_n dX12_readsBehind_27 rfl ?_
  obtain ⟨g3, E⟩ := grd_some E
  obtain ⟨x2, h1, hc, E⟩ := cal_some E
  refine r_callV0 (mc := 0) (ms := 0) dX12_readsBehind_28 KX12_168 (c_X12_nextChar hc) g3 (by decide) (Nat.le_of_ble_eq_true rfl) (fun _ _ q => q.elim) ?_
  rintro _ _ ⟨rfl, rfl⟩
  clear hc
  refine q_bipush (v := (Int32.ofInt 97)) dX12_readsBehind_31 (by decide) ?_
  refine q_bipush (v := (Int32.ofInt 99)) dX12_readsBehind_33 (by decide) ?_
  obtain ⟨x5, h4, hc, E⟩ := cal_some E
  refine r_callS3 (mc := 0) (ms := 0) dX12_readsBehind_35 KX12_132 (c_X12_isBetween hc) (by decide) (Nat.le_of_ble_eq_true rfl) (fun _ _ q => q.elim) ?_
  rintro _ _ ⟨rfl, rfl⟩
  clear hc
  refine q_if_ne (tgt := 50) dX12_readsBehind_38 (by decide) (fun z6 => ?_) (fun z6 => ?_)
  · replace E := ite_f E z6
    exact r_fewer [some (.ref p0), none] (ls_s (ls_n ls_0)) (s_X12_readsBehind_50 p0 h4 E hK)
  · replace E := ite_t E z6
    refine q_aload_n dX12_readsBehind_41 rfl ?_
    obtain ⟨g9, E⟩ := grd_some E
    obtain ⟨x8, h7, hc, E⟩ := cal_some E
    refine r_callV0 (mc := 0) (ms := 0) dX12_readsBehind_42 KX12_168 (c_X12_nextChar hc) g9 (by decide) (Nat.le_of_ble_eq_true rfl) (fun _ _ q => q.elim) ?_
    rintro _ _ ⟨rfl, rfl⟩
    clear hc
    refine q_bipush (v := (Int32.ofInt 40)) dX12_readsBehind_45 (by decide) ?_
    refine q_icmp_ne (tgt := 62) dX12_readsBehind_47 (by decide) (fun z10 => ?_) (fun z10 => ?_)
    · replace E := ite_f E z10
      refine q_aload_n dX12_readsBehind_62 rfl ?_
      refine q_bipush (v := (Int32.ofInt 124)) dX12_readsBehind_63 (by decide) ?_
      obtain ⟨g13, E⟩ := grd_some E
      obtain ⟨x12, h11, hc, E⟩ := cal_some E
      refine r_callV1 (mc := 0) (ms := 0) dX12_readsBehind_65 KX12_183 (c_X12_reads hc) g13 (by decide) (Nat.le_of_ble_eq_true rfl) (fun _ _ q => q.elim) ?_
      rintro _ _ ⟨rfl, rfl⟩
      clear hc
      refine q_if_eq (tgt := 83) dX12_readsBehind_68 (by decide) (fun z14 => ?_) (fun z14 => ?_)
      · replace E := ite_t E z14
        refine q_aload_n dX12_readsBehind_83 rfl ?_
        obtain ⟨g15, E⟩ := grd_some E
        refine r_getI dX12_readsBehind_84 FX12_186 g15 ?_
        refine q_if_le (tgt := 126) dX12_readsBehind_87 (by decide) (fun z16 => ?_) (fun z16 => ?_)
        · replace E := ite_t E z16
          exact r_fewer [none, none] (ls_n (ls_n ls_0)) (s_X12_readsBehind_126 h11 E hK)
        · replace E := ite_f E z16
          refine q_aload_n dX12_readsBehind_90 rfl ?_
          refine q_bipush (v := (Int32.ofInt 41)) dX12_readsBehind_91 (by decide) ?_
          obtain ⟨x18, h17, hc, E⟩ := cal_some E
          refine r_callV1 (mc := 0) (ms := 0) dX12_readsBehind_93 KX12_183 (c_X12_reads hc) g15 (by decide) (Nat.le_of_ble_eq_true rfl) (fun _ _ q => q.elim) ?_
          rintro _ _ ⟨rfl, rfl⟩
          clear hc
          refine q_if_eq (tgt := 126) dX12_readsBehind_96 (by decide) (fun z19 => ?_) (fun z19 => ?_)
          · replace E := ite_t E z19
            exact r_fewer [none, none] (ls_n (ls_n ls_0)) (s_X12_readsBehind_126 h17 E hK)
          · replace E := ite_f E z19
            refine q_aload_n dX12_readsBehind_99 rfl ?_
            refine q_iconst dX12_readsBehind_100 ?_
            obtain ⟨g22, E⟩ := grd_some E
            obtain ⟨_, h20, hc, E⟩ := cal_some E
            refine r_callV1 (mc := 0) (ms := 0) dX12_readsBehind_101 KX12_177 (c_X12_brings hc) g22 (by decide) (Nat.le_of_ble_eq_true rfl) (fun _ _ q => q.elim) ?_
            rintro _ _ ⟨rfl, rfl⟩
            clear hc
            refine q_aload_n dX12_readsBehind_104 rfl ?_
            refine q_dup dX12_readsBehind_105 ?_
            obtain ⟨g23, E⟩ := grd_some E
            refine r_getI dX12_readsBehind_106 FX12_171 g23 ?_
            refine q_iconst dX12_readsBehind_109 ?_
            refine q_isub dX12_readsBehind_110 ?_
            obtain ⟨h24, eh24, E⟩ := bnd_x E
            refine r_putI (hh := eh24) dX12_readsBehind_111 FX12_171 g23 rfl rfl ?_
            refine q_aload_n dX12_readsBehind_114 rfl ?_
            refine q_dup dX12_readsBehind_115 ?_
            obtain ⟨g25, E⟩ := grd_some E
            refine r_getI dX12_readsBehind_116 FX12_186 g25 ?_
            refine q_iconst dX12_readsBehind_119 ?_
            refine q_isub dX12_readsBehind_120 ?_
            obtain ⟨h26, eh26, E⟩ := bnd_x E
            refine r_putI (hh := eh26) dX12_readsBehind_121 FX12_186 g25 rfl rfl ?_
            refine q_iconst dX12_readsBehind_124 ?_
            cases E
            exact q_ireturn dX12_readsBehind_125 rfl hK
      · replace E := ite_f E z14
        refine q_aload_n dX12_readsBehind_71 rfl ?_
        refine q_iconst dX12_readsBehind_72 ?_
        obtain ⟨g29, E⟩ := grd_some E
        obtain ⟨_, h27, hc, E⟩ := cal_some E
        refine r_callV1 (mc := 0) (ms := 0) dX12_readsBehind_73 KX12_177 (c_X12_brings hc) g29 (by decide) (Nat.le_of_ble_eq_true rfl) (fun _ _ q => q.elim) ?_
        rintro _ _ ⟨rfl, rfl⟩
        clear hc
        refine q_aload_n dX12_readsBehind_76 rfl ?_
        refine q_iconst dX12_readsBehind_77 ?_
        obtain ⟨g32, E⟩ := grd_some E
        obtain ⟨_, h30, hc, E⟩ := cal_some E
        refine r_callV1 (mc := 0) (ms := 0) dX12_readsBehind_78 KX12_180 (c_X12_waitsFor hc) g32 (by decide) (Nat.le_of_ble_eq_true rfl) (fun _ _ q => q.elim) ?_
        rintro _ _ ⟨rfl, rfl⟩
        clear hc
        refine q_iconst dX12_readsBehind_81 ?_
        cases E
        exact q_ireturn dX12_readsBehind_82 rfl hK
    · replace E := ite_t E z10
      exact r_fewer [some (.ref p0), none] (ls_s (ls_n ls_0)) (s_X12_readsBehind_50 p0 h7 E hK)
set_option maxRecDepth 100000 in
set_option maxHeartbeats 4000000 in
theorem s_X12_readsBehind_0 {l : Launch} {G : va_G × (Nat → ClassId)} {Q : Option Value → mH → Prop} {X : String → mH → Prop} (p0 : Nat) (h : mH) {o : Int32 × mH} (E : f_X12_readsBehind p0 h = some o) (hK : (fiI Q) o) : mW l G m_X12_readsBehind 2 0 0 0 [some (.ref p0), none] [] h Q X := by
  unfold f_X12_readsBehind at E
  refine q_aload_n dX12_readsBehind_0 rfl ?_
  obtain ⟨g3, E⟩ := grd_some E
  obtain ⟨x2, h1, hc, E⟩ := cal_some E
  refine r_callV0 (mc := 0) (ms := 0) dX12_readsBehind_1 KX12_168 (c_X12_nextChar hc) g3 (by decide) (Nat.le_of_ble_eq_true rfl) (fun _ _ q => q.elim) ?_
  rintro _ _ ⟨rfl, rfl⟩
  clear hc
  obtain ⟨x5, h4, hc, E⟩ := cal_some E
  refine r_callS1 (mc := 0) (ms := 0) dX12_readsBehind_4 KX12_174 (c_X12_signOf hc) (by decide) (Nat.le_of_ble_eq_true rfl) (fun _ _ q => q.elim) ?_
  rintro _ _ ⟨rfl, rfl⟩
  clear hc
  refine r_istore_n dX12_readsBehind_7 (by decide) rfl (ls' := [some (.ref p0), some (.int x5)]) rfl ?_
  refine q_iload_n dX12_readsBehind_8 rfl ?_
  refine q_if_le (tgt := 27) dX12_readsBehind_9 (by decide) (fun z6 => ?_) (fun z6 => ?_)
  · replace E := ite_t E z6
    exact r_fewer [some (.ref p0), none] (ls_s (ls_n ls_0)) (s_X12_readsBehind_27 p0 h4 E hK)
  · replace E := ite_f E z6
    refine q_aload_n dX12_readsBehind_12 rfl ?_
    refine q_dup dX12_readsBehind_13 ?_
    obtain ⟨g7, E⟩ := grd_some E
    refine r_getI dX12_readsBehind_14 FX12_162 g7 ?_
    refine q_iconst dX12_readsBehind_17 ?_
    refine q_iadd dX12_readsBehind_18 ?_
    obtain ⟨h8, eh8, E⟩ := bnd_x E
    refine r_putI (hh := eh8) dX12_readsBehind_19 FX12_162 g7 rfl rfl ?_
    refine q_aload_n dX12_readsBehind_22 rfl ?_
    refine q_iload_n dX12_readsBehind_23 rfl ?_
    obtain ⟨g11, E⟩ := grd_some E
    obtain ⟨_, h9, hc, E⟩ := cal_some E
    refine r_callV1 (mc := 0) (ms := 0) dX12_readsBehind_24 KX12_151 (c_X12_adds hc) g11 (by decide) (Nat.le_of_ble_eq_true rfl) (fun _ _ q => q.elim) ?_
    rintro _ _ ⟨rfl, rfl⟩
    clear hc
    exact r_fewer [some (.ref p0), none] (ls_s (ls_n ls_0)) (s_X12_readsBehind_27 p0 h9 E hK)
theorem c_X12_readsBehind {l : Launch} {G : va_G × (Nat → ClassId)} {p0 : Nat} {h h' : mH} {r : Int32} (E : f_X12_readsBehind p0 h = some (r, h')) : mMet l G m_X12_readsBehind 2 0 0 [.ref p0] h (fun v k => v = some (.int r) ∧ h' = k) (fun _ _ => False) :=
  mMet_of (by decide +kernel) rfl (ac_c rfl ac_0) (Nat.le_of_ble_eq_true rfl) (s_X12_readsBehind_0 p0 h E (And.intro rfl rfl))
set_option maxRecDepth 100000 in
set_option maxHeartbeats 4000000 in
theorem s_X12_readsPattern_54 {l : Launch} {G : va_G × (Nat → ClassId)} {Q : Option Value → mH → Prop} {X : String → mH → Prop} (p0 : Nat) (v1 : Int32) (h : mH) {o : ((Int32 × mH) ⊕ (Int32 × mH))} (E : g_X12_readsPattern_54 p0 v1 h = some o) (hK : (lpK (w_X12_readsPattern_17 l G Q X p0) (fiI Q)) o) : mW l G m_X12_readsPattern 3 0 0 54 [some (.ref p0), some (.int v1)] [] h Q X := by
  unfold g_X12_readsPattern_54 at E
  refine q_iload_n dX12_readsPattern_54 rfl ?_
  refine q_iconst dX12_readsPattern_55 ?_
  refine q_icmp_ne (tgt := 76) dX12_readsPattern_56 (by decide) (fun z1 => ?_) (fun z1 => ?_)
  · replace E := ite_f E z1
    refine q_aload_n dX12_readsPattern_76 rfl ?_
    obtain ⟨g4, E⟩ := grd_some E
    obtain ⟨x3, h2, hc, E⟩ := cal_some E
    refine r_callV0 (mc := 0) (ms := 0) dX12_readsPattern_77 KX12_193 (c_X12_readsBehind hc) g4 (by decide) (Nat.le_of_ble_eq_true rfl) (fun _ _ q => q.elim) ?_
    rintro _ _ ⟨rfl, rfl⟩
    clear hc
    refine r_istore_n dX12_readsPattern_80 (by decide) rfl (ls' := [some (.ref p0), some (.int x3)]) rfl ?_
    refine q_goto (tgt := 17) dX12_readsPattern_81 (by decide) ?_
    cases E
    exact r_fewer [some (.ref p0), some (.int x3)] (ls_s (ls_s ls_0)) hK
  · replace E := ite_t E z1
    refine q_aload_n dX12_readsPattern_59 rfl ?_
    obtain ⟨g7, E⟩ := grd_some E
    obtain ⟨x6, h5, hc, E⟩ := cal_some E
    refine r_callV0 (mc := 0) (ms := 0) dX12_readsPattern_60 KX12_189 (c_X12_readsLetter hc) g7 (by decide) (Nat.le_of_ble_eq_true rfl) (fun _ _ q => q.elim) ?_
    rintro _ _ ⟨rfl, rfl⟩
    clear hc
    refine q_if_ne (tgt := 68) dX12_readsPattern_63 (by decide) (fun z8 => ?_) (fun z8 => ?_)
    · replace E := ite_f E z8
      refine q_aload_n dX12_readsPattern_68 rfl ?_
      obtain ⟨g11, E⟩ := grd_some E
      obtain ⟨x10, h9, hc, E⟩ := cal_some E
      refine r_callV0 (mc := 0) (ms := 0) dX12_readsPattern_69 KX12_193 (c_X12_readsBehind hc) g11 (by decide) (Nat.le_of_ble_eq_true rfl) (fun _ _ q => q.elim) ?_
      rintro _ _ ⟨rfl, rfl⟩
      clear hc
      refine r_istore_n dX12_readsPattern_72 (by decide) rfl (ls' := [some (.ref p0), some (.int x10)]) rfl ?_
      refine q_goto (tgt := 17) dX12_readsPattern_73 (by decide) ?_
      cases E
      exact r_fewer [some (.ref p0), some (.int x10)] (ls_s (ls_s ls_0)) hK
    · replace E := ite_t E z8
      refine q_iconst dX12_readsPattern_66 ?_
      cases E
      exact q_zreturn dX12_readsPattern_67 rfl (by decide) hK
set_option maxRecDepth 100000 in
set_option maxHeartbeats 4000000 in
theorem sb_X12_readsPattern_17 {l : Launch} {G : va_G × (Nat → ClassId)} {Q : Option Value → mH → Prop} {X : String → mH → Prop} (p0 : Nat) (v1 : Int32) (h : mH) {o : ((Int32 × mH) ⊕ (Int32 × mH))} (E : b0_X12_readsPattern_17 p0 v1 h = some o) (hK : (lpK (w_X12_readsPattern_17 l G Q X p0) (fiI Q)) o) : mW l G m_X12_readsPattern 3 0 0 17 [some (.ref p0), some (.int v1)] [] h Q X := by
  unfold b0_X12_readsPattern_17 at E
  refine q_iload_n dX12_readsPattern_17 rfl ?_
  refine q_if_le (tgt := 84) dX12_readsPattern_18 (by decide) (fun z1 => ?_) (fun z1 => ?_)
  · replace E := ite_t E z1
    refine q_aload_n dX12_readsPattern_84 rfl ?_
    obtain ⟨g2, E⟩ := grd_some E
    refine r_getI dX12_readsPattern_85 FX12_186 g2 ?_
    refine q_if_le (tgt := 93) dX12_readsPattern_88 (by decide) (fun z3 => ?_) (fun z3 => ?_)
    · replace E := ite_t E z3
      refine q_aload_n dX12_readsPattern_93 rfl ?_
      refine q_iconst dX12_readsPattern_94 ?_
      obtain ⟨_, h4, hc, E⟩ := cal_some E
      refine r_callV1 (mc := 0) (ms := 0) dX12_readsPattern_95 KX12_177 (c_X12_brings hc) g2 (by decide) (Nat.le_of_ble_eq_true rfl) (fun _ _ q => q.elim) ?_
      rintro _ _ ⟨rfl, rfl⟩
      clear hc
      refine q_iconst dX12_readsPattern_98 ?_
      cases E
      exact q_zreturn dX12_readsPattern_99 rfl (by decide) hK
    · replace E := ite_f E z3
      refine q_iconst dX12_readsPattern_91 ?_
      cases E
      exact q_zreturn dX12_readsPattern_92 rfl (by decide) hK
  · replace E := ite_f E z1
    refine q_iload_n dX12_readsPattern_21 rfl ?_
    refine q_iconst dX12_readsPattern_22 ?_
    refine q_icmp_ne (tgt := 54) dX12_readsPattern_23 (by decide) (fun z6 => ?_) (fun z6 => ?_)
    · replace E := ite_f E z6
      exact r_fewer [some (.ref p0), some (.int v1)] (ls_s (ls_s ls_0)) (s_X12_readsPattern_54 p0 v1 h E hK)
    · replace E := ite_t E z6
      refine q_aload_n dX12_readsPattern_26 rfl ?_
      refine q_bipush (v := (Int32.ofInt 40)) dX12_readsPattern_27 (by decide) ?_
      obtain ⟨g9, E⟩ := grd_some E
      obtain ⟨x8, h7, hc, E⟩ := cal_some E
      refine r_callV1 (mc := 0) (ms := 0) dX12_readsPattern_29 KX12_183 (c_X12_reads hc) g9 (by decide) (Nat.le_of_ble_eq_true rfl) (fun _ _ q => q.elim) ?_
      rintro _ _ ⟨rfl, rfl⟩
      clear hc
      refine q_if_eq (tgt := 54) dX12_readsPattern_32 (by decide) (fun z10 => ?_) (fun z10 => ?_)
      · replace E := ite_t E z10
        exact r_fewer [some (.ref p0), some (.int v1)] (ls_s (ls_s ls_0)) (s_X12_readsPattern_54 p0 v1 h7 E hK)
      · replace E := ite_f E z10
        refine q_aload_n dX12_readsPattern_35 rfl ?_
        refine q_bipush (v := (Int32.ofInt 9)) dX12_readsPattern_36 (by decide) ?_
        obtain ⟨g13, E⟩ := grd_some E
        obtain ⟨_, h11, hc, E⟩ := cal_some E
        refine r_callV1 (mc := 0) (ms := 0) dX12_readsPattern_38 KX12_180 (c_X12_waitsFor hc) g13 (by decide) (Nat.le_of_ble_eq_true rfl) (fun _ _ q => q.elim) ?_
        rintro _ _ ⟨rfl, rfl⟩
        clear hc
        refine q_aload_n dX12_readsPattern_41 rfl ?_
        refine q_dup dX12_readsPattern_42 ?_
        obtain ⟨g14, E⟩ := grd_some E
        refine r_getI dX12_readsPattern_43 FX12_186 g14 ?_
        refine q_iconst dX12_readsPattern_46 ?_
        refine q_iadd dX12_readsPattern_47 ?_
        obtain ⟨h15, eh15, E⟩ := bnd_x E
        refine r_putI (hh := eh15) dX12_readsPattern_48 FX12_186 g14 rfl rfl ?_
        refine q_goto (tgt := 17) dX12_readsPattern_51 (by decide) ?_
        cases E
        exact r_fewer [some (.ref p0), some (.int v1)] (ls_s (ls_s ls_0)) hK
theorem s_X12_readsPattern_17 {l : Launch} {G : va_G × (Nat → ClassId)} {Q : Option Value → mH → Prop} {X : String → mH → Prop} (p0 : Nat) (v1 : Int32) (h : mH) {o : Int32 × mH} (E : g_X12_readsPattern_17 p0 v1 h = some o) (hK : (fiI Q) o) : mW l G m_X12_readsPattern 3 0 0 17 [some (.ref p0), some (.int v1)] [] h Q X :=
  (lp_go (w_X12_readsPattern_17 l G Q X p0) (fiI Q) (b_X12_readsPattern_17 p0) (fun s o E hK => sb_X12_readsPattern_17 p0 s.1 (s.2) E hK) _ _ _ E hK : w_X12_readsPattern_17 l G Q X p0 (v1, h))
set_option maxRecDepth 100000 in
set_option maxHeartbeats 4000000 in
theorem s_X12_readsPattern_0 {l : Launch} {G : va_G × (Nat → ClassId)} {Q : Option Value → mH → Prop} {X : String → mH → Prop} (p0 : Nat) (h : mH) {o : Int32 × mH} (E : f_X12_readsPattern p0 h = some o) (hK : (fiI Q) o) : mW l G m_X12_readsPattern 3 0 0 0 [some (.ref p0), none] [] h Q X := by
  unfold f_X12_readsPattern at E
  refine q_aload_n dX12_readsPattern_0 rfl ?_
  refine q_iconst dX12_readsPattern_1 ?_
  obtain ⟨g1, E⟩ := grd_some E
  obtain ⟨h2, eh2, E⟩ := bnd_x E
  refine r_putI (hh := eh2) dX12_readsPattern_2 FX12_144 g1 rfl rfl ?_
  refine q_aload_n dX12_readsPattern_5 rfl ?_
  refine q_iconst dX12_readsPattern_6 ?_
  obtain ⟨g3, E⟩ := grd_some E
  obtain ⟨h4, eh4, E⟩ := bnd_x E
  refine r_putI (hh := eh4) dX12_readsPattern_7 FX12_171 g3 rfl rfl ?_
  refine q_aload_n dX12_readsPattern_10 rfl ?_
  refine q_iconst dX12_readsPattern_11 ?_
  obtain ⟨g5, E⟩ := grd_some E
  obtain ⟨h6, eh6, E⟩ := bnd_x E
  refine r_putI (hh := eh6) dX12_readsPattern_12 FX12_186 g5 rfl rfl ?_
  refine q_iconst dX12_readsPattern_15 ?_
  refine r_istore_n dX12_readsPattern_16 (by decide) rfl (ls' := [some (.ref p0), some (.int (Int32.ofInt 1))]) rfl ?_
  exact r_fewer [some (.ref p0), some (.int (Int32.ofInt 1))] (ls_s (ls_s ls_0)) (s_X12_readsPattern_17 p0 (Int32.ofInt 1) h6 E hK)
theorem c_X12_readsPattern {l : Launch} {G : va_G × (Nat → ClassId)} {p0 : Nat} {h h' : mH} {r : Int32} (E : f_X12_readsPattern p0 h = some (r, h')) : mMet l G m_X12_readsPattern 3 0 0 [.ref p0] h (fun v k => v = some (.int r) ∧ h' = k) (fun _ _ => False) :=
  mMet_of (by decide +kernel) rfl (ac_c rfl ac_0) (Nat.le_of_ble_eq_true rfl) (s_X12_readsPattern_0 p0 h E (And.intro rfl rfl))
set_option maxRecDepth 100000 in
set_option maxHeartbeats 4000000 in
theorem s_X12_define_46 {l : Launch} {G : va_G × (Nat → ClassId)} {Q : Option Value → mH → Prop} {X : String → mH → Prop} (p0 : Nat) (v1 : Int32) (s0 : Int32) (h : mH) {o : Int32 × mH} (E : g_X12_define_46 p0 v1 s0 h = some o) (hK : (fiI Q) o) : mW l G m_X12_define 4 0 0 46 [some (.ref p0), some (.int v1), none] [.int s0] h Q X := by
  unfold g_X12_define_46 at E
  refine r_istore_n dX12_define_46 (by decide) rfl (ls' := [some (.ref p0), some (.int v1), some (.int s0)]) rfl ?_
  refine q_aload_n dX12_define_47 rfl ?_
  refine q_iconst dX12_define_48 ?_
  obtain ⟨g1, E⟩ := grd_some E
  obtain ⟨h2, eh2, E⟩ := bnd_x E
  refine r_putI (hh := eh2) dX12_define_49 FX12_165 g1 rfl rfl ?_
  refine q_iload_n dX12_define_52 rfl ?_
  refine q_if_ne (tgt := 70) dX12_define_53 (by decide) (fun z3 => ?_) (fun z3 => ?_)
  · replace E := ite_f E z3
    refine q_aload_n dX12_define_70 rfl ?_
    obtain ⟨g6, E⟩ := grd_some E
    obtain ⟨x5, h4, hc, E⟩ := cal_some E
    refine r_callV0 (mc := 0) (ms := 0) dX12_define_71 KX12_202 (c_X12_isTooLarge hc) g6 (by decide) (Nat.le_of_ble_eq_true rfl) (fun _ _ q => q.elim) ?_
    rintro _ _ ⟨rfl, rfl⟩
    clear hc
    refine q_if_eq (tgt := 83) dX12_define_74 (by decide) (fun z7 => ?_) (fun z7 => ?_)
    · replace E := ite_t E z7
      refine q_aload_n dX12_define_83 rfl ?_
      obtain ⟨g10, E⟩ := grd_some E
      obtain ⟨_, h8, hc, E⟩ := cal_some E
      refine r_callV0 (mc := 0) (ms := 0) dX12_define_84 KX12_205 (c_X12_remembers hc) g10 (by decide) (Nat.le_of_ble_eq_true rfl) (fun _ _ q => q.elim) ?_
      rintro _ _ ⟨rfl, rfl⟩
      clear hc
      refine q_aload_n dX12_define_87 rfl ?_
      refine q_iload_n dX12_define_88 rfl ?_
      obtain ⟨g13, E⟩ := grd_some E
      obtain ⟨x12, h11, hc, E⟩ := cal_some E
      refine r_callV1 (mc := 0) (ms := 0) dX12_define_89 KX12_208 (c_X12_lays hc) g13 (by decide) (Nat.le_of_ble_eq_true rfl) (fun _ _ q => q.elim) ?_
      rintro _ _ ⟨rfl, rfl⟩
      clear hc
      cases E
      exact q_ireturn dX12_define_92 rfl hK
    · replace E := ite_f E z7
      refine q_aload_n dX12_define_77 rfl ?_
      refine q_iconst dX12_define_78 ?_
      obtain ⟨g16, E⟩ := grd_some E
      obtain ⟨x15, h14, hc, E⟩ := cal_some E
      refine r_callV1 (mc := 0) (ms := 0) dX12_define_79 KX12_196 (c_X12_fails hc) g16 (by decide) (Nat.le_of_ble_eq_true rfl) (fun _ _ q => q.elim) ?_
      rintro _ _ ⟨rfl, rfl⟩
      clear hc
      cases E
      exact q_ireturn dX12_define_82 rfl hK
  · replace E := ite_t E z3
    refine q_aload_n dX12_define_56 rfl ?_
    refine q_aload_n dX12_define_57 rfl ?_
    obtain ⟨g17, E⟩ := grd_some E
    refine r_getI dX12_define_58 FX12_162 g17 ?_
    obtain ⟨h18, eh18, E⟩ := bnd_x E
    refine r_putI (hh := eh18) dX12_define_61 FX12_29 g17 rfl rfl ?_
    refine q_aload_n dX12_define_64 rfl ?_
    refine q_iconst dX12_define_65 ?_
    obtain ⟨g21, E⟩ := grd_some E
    obtain ⟨x20, h19, hc, E⟩ := cal_some E
    refine r_callV1 (mc := 0) (ms := 0) dX12_define_66 KX12_196 (c_X12_fails hc) g21 (by decide) (Nat.le_of_ble_eq_true rfl) (fun _ _ q => q.elim) ?_
    rintro _ _ ⟨rfl, rfl⟩
    clear hc
    cases E
    exact q_ireturn dX12_define_69 rfl hK
set_option maxRecDepth 100000 in
set_option maxHeartbeats 4000000 in
theorem s_X12_define_45 {l : Launch} {G : va_G × (Nat → ClassId)} {Q : Option Value → mH → Prop} {X : String → mH → Prop} (p0 : Nat) (v1 : Int32) (h : mH) {o : Int32 × mH} (E : g_X12_define_45 p0 v1 h = some o) (hK : (fiI Q) o) : mW l G m_X12_define 4 0 0 45 [some (.ref p0), some (.int v1), none] [] h Q X := by
  unfold g_X12_define_45 at E
  refine q_iconst dX12_define_45 ?_
  exact r_fewer [some (.ref p0), some (.int v1), none] (ls_s (ls_s (ls_n ls_0))) (s_X12_define_46 p0 v1 (Int32.ofInt 0) h E hK)
set_option maxRecDepth 100000 in
set_option maxHeartbeats 4000000 in
theorem s_X12_define_0 {l : Launch} {G : va_G × (Nat → ClassId)} {Q : Option Value → mH → Prop} {X : String → mH → Prop} (p0 : Nat) (v1 : Int32) (h : mH) {o : Int32 × mH} (E : f_X12_define p0 v1 h = some o) (hK : (fiI Q) o) : mW l G m_X12_define 4 0 0 0 [some (.ref p0), some (.int v1), none] [] h Q X := by
  unfold f_X12_define at E
  refine q_aload_n dX12_define_0 rfl ?_
  refine q_iconst dX12_define_1 ?_
  obtain ⟨g1, E⟩ := grd_some E
  obtain ⟨h2, eh2, E⟩ := bnd_x E
  refine r_putI (hh := eh2) dX12_define_2 FX12_117 g1 rfl rfl ?_
  refine q_iload_n dX12_define_5 rfl ?_
  obtain ⟨x4, h3, hc, E⟩ := cal_some E
  refine r_callS1 (mc := 0) (ms := 0) dX12_define_6 KX12_136 (c_X12_isSlot hc) (by decide) (Nat.le_of_ble_eq_true rfl) (fun _ _ q => q.elim) ?_
  rintro _ _ ⟨rfl, rfl⟩
  clear hc
  refine q_if_ne (tgt := 18) dX12_define_9 (by decide) (fun z5 => ?_) (fun z5 => ?_)
  · replace E := ite_f E z5
    refine q_aload_n dX12_define_18 rfl ?_
    refine q_iconst dX12_define_19 ?_
    obtain ⟨g6, E⟩ := grd_some E
    obtain ⟨h7, eh7, E⟩ := bnd_x E
    refine r_putI (hh := eh7) dX12_define_20 FX12_162 g6 rfl rfl ?_
    refine q_aload_n dX12_define_23 rfl ?_
    obtain ⟨g10, E⟩ := grd_some E
    obtain ⟨x9, h8, hc, E⟩ := cal_some E
    refine r_callV0 (mc := 0) (ms := 0) dX12_define_24 KX12_199 (c_X12_readsPattern hc) g10 (by decide) (Nat.le_of_ble_eq_true rfl) (fun _ _ q => q.elim) ?_
    rintro _ _ ⟨rfl, rfl⟩
    clear hc
    refine q_if_eq (tgt := 45) dX12_define_27 (by decide) (fun z11 => ?_) (fun z11 => ?_)
    · replace E := ite_t E z11
      exact r_fewer [some (.ref p0), some (.int v1), none] (ls_s (ls_s (ls_n ls_0))) (s_X12_define_45 p0 v1 h8 E hK)
    · replace E := ite_f E z11
      refine q_aload_n dX12_define_30 rfl ?_
      obtain ⟨g12, E⟩ := grd_some E
      refine r_getI dX12_define_31 FX12_162 g12 ?_
      refine q_aload_n dX12_define_34 rfl ?_
      refine r_getI dX12_define_35 FX12_165 g12 ?_
      refine q_icmp_ne (tgt := 45) dX12_define_38 (by decide) (fun z13 => ?_) (fun z13 => ?_)
      · replace E := ite_f E z13
        exact r_fewer [some (.ref p0), some (.int v1), none] (ls_s (ls_s (ls_n ls_0))) (s_X12_define_45 p0 v1 h8 E hK)
      · replace E := ite_t E z13
        refine q_iconst dX12_define_41 ?_
        refine q_goto (tgt := 46) dX12_define_42 (by decide) ?_
        exact r_fewer [some (.ref p0), some (.int v1), none] (ls_s (ls_s (ls_n ls_0))) (s_X12_define_46 p0 v1 (Int32.ofInt 1) h8 E hK)
  · replace E := ite_t E z5
    refine q_aload_n dX12_define_12 rfl ?_
    refine q_iconst dX12_define_13 ?_
    obtain ⟨g16, E⟩ := grd_some E
    obtain ⟨x15, h14, hc, E⟩ := cal_some E
    refine r_callV1 (mc := 0) (ms := 0) dX12_define_14 KX12_196 (c_X12_fails hc) g16 (by decide) (Nat.le_of_ble_eq_true rfl) (fun _ _ q => q.elim) ?_
    rintro _ _ ⟨rfl, rfl⟩
    clear hc
    cases E
    exact q_ireturn dX12_define_17 rfl hK
theorem c_X12_define {l : Launch} {G : va_G × (Nat → ClassId)} {p0 : Nat} {v1 : Int32} {h h' : mH} {r : Int32} (E : f_X12_define p0 v1 h = some (r, h')) : mMet l G m_X12_define 4 0 0 [.ref p0, .int v1] h (fun v k => v = some (.int r) ∧ h' = k) (fun _ _ => False) :=
  mMet_of (by decide +kernel) rfl (ac_c rfl (ac_c rfl ac_0)) (Nat.le_of_ble_eq_true rfl) (s_X12_define_0 p0 v1 h E (And.intro rfl rfl))
set_option maxRecDepth 100000 in
set_option maxHeartbeats 4000000 in
theorem s_X12_notTwo_21 {l : Launch} {G : va_G × (Nat → ClassId)} {Q : Option Value → mH → Prop} {X : String → mH → Prop} (h : mH) {o : Int32 × mH} (E : g_X12_notTwo_21  h = some o) (hK : (fiI Q) o) : mW l G m_X12_notTwo 3 0 0 21 [none, none, none, none, none] [] h Q X := by
  unfold g_X12_notTwo_21 at E
  refine q_iconst dX12_notTwo_21 ?_
  cases E
  exact q_ireturn dX12_notTwo_22 rfl hK
set_option maxRecDepth 100000 in
set_option maxHeartbeats 4000000 in
theorem s_X12_notTwo_39 {l : Launch} {G : va_G × (Nat → ClassId)} {Q : Option Value → mH → Prop} {X : String → mH → Prop} (h : mH) {o : Int32 × mH} (E : g_X12_notTwo_39  h = some o) (hK : (fiI Q) o) : mW l G m_X12_notTwo 3 0 0 39 [none, none, none, none, none] [] h Q X := by
  unfold g_X12_notTwo_39 at E
  refine q_iconst dX12_notTwo_39 ?_
  cases E
  exact q_ireturn dX12_notTwo_40 rfl hK
set_option maxRecDepth 100000 in
set_option maxHeartbeats 4000000 in
theorem s_X12_notTwo_74 {l : Launch} {G : va_G × (Nat → ClassId)} {Q : Option Value → mH → Prop} {X : String → mH → Prop} (s0 : Int32) (h : mH) {o : Int32 × mH} (E : g_X12_notTwo_74 s0 h = some o) (hK : (fiI Q) o) : mW l G m_X12_notTwo 3 0 0 74 [none, none, none, none, none] [.int s0] h Q X := by
  unfold g_X12_notTwo_74 at E
  cases E
  exact q_ireturn dX12_notTwo_74 rfl hK
set_option maxRecDepth 100000 in
set_option maxHeartbeats 4000000 in
theorem s_X12_notTwo_0 {l : Launch} {G : va_G × (Nat → ClassId)} {Q : Option Value → mH → Prop} {X : String → mH → Prop} (p0 : Nat) (v1 : Int32) (v2 : Int32) (v3 : Int32) (v4 : Int32) (h : mH) {o : Int32 × mH} (E : f_X12_notTwo p0 v1 v2 v3 v4 h = some o) (hK : (fiI Q) o) : mW l G m_X12_notTwo 3 0 0 0 [some (.ref p0), some (.int v1), some (.int v2), some (.int v3), some (.int v4)] [] h Q X := by
  unfold f_X12_notTwo at E
  refine q_iload_n dX12_notTwo_0 rfl ?_
  obtain ⟨x2, h1, hc, E⟩ := cal_some E
  refine r_callS1 (mc := 0) (ms := 0) dX12_notTwo_1 KX12_136 (c_X12_isSlot hc) (by decide) (Nat.le_of_ble_eq_true rfl) (fun _ _ q => q.elim) ?_
  rintro _ _ ⟨rfl, rfl⟩
  clear hc
  refine q_if_eq (tgt := 21) dX12_notTwo_4 (by decide) (fun z3 => ?_) (fun z3 => ?_)
  · replace E := ite_t E z3
    exact r_fewer [none, none, none, none, none] (ls_n (ls_n (ls_n (ls_n (ls_n ls_0))))) (s_X12_notTwo_21 h1 E hK)
  · replace E := ite_f E z3
    refine q_iload_n dX12_notTwo_7 rfl ?_
    obtain ⟨x5, h4, hc, E⟩ := cal_some E
    refine r_callS1 (mc := 0) (ms := 0) dX12_notTwo_8 KX12_136 (c_X12_isSlot hc) (by decide) (Nat.le_of_ble_eq_true rfl) (fun _ _ q => q.elim) ?_
    rintro _ _ ⟨rfl, rfl⟩
    clear hc
    refine q_if_eq (tgt := 21) dX12_notTwo_11 (by decide) (fun z6 => ?_) (fun z6 => ?_)
    · replace E := ite_t E z6
      exact r_fewer [none, none, none, none, none] (ls_n (ls_n (ls_n (ls_n (ls_n ls_0))))) (s_X12_notTwo_21 h4 E hK)
    · replace E := ite_f E z6
      refine q_iload_n dX12_notTwo_14 rfl ?_
      obtain ⟨x8, h7, hc, E⟩ := cal_some E
      refine r_callS1 (mc := 0) (ms := 0) dX12_notTwo_15 KX12_136 (c_X12_isSlot hc) (by decide) (Nat.le_of_ble_eq_true rfl) (fun _ _ q => q.elim) ?_
      rintro _ _ ⟨rfl, rfl⟩
      clear hc
      refine q_if_ne (tgt := 23) dX12_notTwo_18 (by decide) (fun z9 => ?_) (fun z9 => ?_)
      · replace E := ite_f E z9
        refine q_aload_n dX12_notTwo_23 rfl ?_
        refine q_iload_n dX12_notTwo_24 rfl ?_
        obtain ⟨g12, E⟩ := grd_some E
        obtain ⟨x11, h10, hc, E⟩ := cal_some E
        refine r_callV1 (mc := 0) (ms := 0) dX12_notTwo_25 KX12_211 (c_X12_holds hc) g12 (by decide) (Nat.le_of_ble_eq_true rfl) (fun _ _ q => q.elim) ?_
        rintro _ _ ⟨rfl, rfl⟩
        clear hc
        refine q_if_eq (tgt := 39) dX12_notTwo_28 (by decide) (fun z13 => ?_) (fun z13 => ?_)
        · replace E := ite_t E z13
          exact r_fewer [none, none, none, none, none] (ls_n (ls_n (ls_n (ls_n (ls_n ls_0))))) (s_X12_notTwo_39 h10 E hK)
        · replace E := ite_f E z13
          refine q_aload_n dX12_notTwo_31 rfl ?_
          refine q_iload_n dX12_notTwo_32 rfl ?_
          obtain ⟨g16, E⟩ := grd_some E
          obtain ⟨x15, h14, hc, E⟩ := cal_some E
          refine r_callV1 (mc := 0) (ms := 0) dX12_notTwo_33 KX12_211 (c_X12_holds hc) g16 (by decide) (Nat.le_of_ble_eq_true rfl) (fun _ _ q => q.elim) ?_
          rintro _ _ ⟨rfl, rfl⟩
          clear hc
          refine q_if_ne (tgt := 41) dX12_notTwo_36 (by decide) (fun z17 => ?_) (fun z17 => ?_)
          · replace E := ite_f E z17
            refine q_aload_n dX12_notTwo_41 rfl ?_
            refine q_iconst dX12_notTwo_42 ?_
            obtain ⟨g18, E⟩ := grd_some E
            obtain ⟨h19, eh19, E⟩ := bnd_x E
            refine r_putI (hh := eh19) dX12_notTwo_43 FX12_144 g18 rfl rfl ?_
            refine q_aload_n dX12_notTwo_46 rfl ?_
            refine q_iload_n dX12_notTwo_47 rfl ?_
            obtain ⟨g22, E⟩ := grd_some E
            obtain ⟨_, h20, hc, E⟩ := cal_some E
            refine r_callV1 (mc := 0) (ms := 0) dX12_notTwo_48 KX12_214 (c_X12_copiesSlot hc) g22 (by decide) (Nat.le_of_ble_eq_true rfl) (fun _ _ q => q.elim) ?_
            rintro _ _ ⟨rfl, rfl⟩
            clear hc
            refine q_aload_n dX12_notTwo_51 rfl ?_
            refine q_iload_n dX12_notTwo_52 rfl ?_
            obtain ⟨g25, E⟩ := grd_some E
            obtain ⟨_, h23, hc, E⟩ := cal_some E
            refine r_callV1 (mc := 0) (ms := 0) dX12_notTwo_53 KX12_214 (c_X12_copiesSlot hc) g25 (by decide) (Nat.le_of_ble_eq_true rfl) (fun _ _ q => q.elim) ?_
            rintro _ _ ⟨rfl, rfl⟩
            clear hc
            refine q_aload_n dX12_notTwo_56 rfl ?_
            refine q_iload dX12_notTwo_57 rfl ?_
            obtain ⟨g28, E⟩ := grd_some E
            obtain ⟨_, h26, hc, E⟩ := cal_some E
            refine r_callV1 (mc := 0) (ms := 0) dX12_notTwo_59 KX12_151 (c_X12_adds hc) g28 (by decide) (Nat.le_of_ble_eq_true rfl) (fun _ _ q => q.elim) ?_
            rintro _ _ ⟨rfl, rfl⟩
            clear hc
            refine q_aload_n dX12_notTwo_62 rfl ?_
            obtain ⟨g31, E⟩ := grd_some E
            obtain ⟨x30, h29, hc, E⟩ := cal_some E
            refine r_callV0 (mc := 0) (ms := 0) dX12_notTwo_63 KX12_202 (c_X12_isTooLarge hc) g31 (by decide) (Nat.le_of_ble_eq_true rfl) (fun _ _ q => q.elim) ?_
            rintro _ _ ⟨rfl, rfl⟩
            clear hc
            refine q_if_eq (tgt := 73) dX12_notTwo_66 (by decide) (fun z32 => ?_) (fun z32 => ?_)
            · replace E := ite_t E z32
              refine q_iconst dX12_notTwo_73 ?_
              exact r_fewer [none, none, none, none, none] (ls_n (ls_n (ls_n (ls_n (ls_n ls_0))))) (s_X12_notTwo_74 (Int32.ofInt 0) h29 E hK)
            · replace E := ite_f E z32
              refine q_iconst dX12_notTwo_69 ?_
              refine q_goto (tgt := 74) dX12_notTwo_70 (by decide) ?_
              exact r_fewer [none, none, none, none, none] (ls_n (ls_n (ls_n (ls_n (ls_n ls_0))))) (s_X12_notTwo_74 (Int32.ofInt 3) h29 E hK)
          · replace E := ite_t E z17
            exact r_fewer [none, none, none, none, none] (ls_n (ls_n (ls_n (ls_n (ls_n ls_0))))) (s_X12_notTwo_39 h14 E hK)
      · replace E := ite_t E z9
        exact r_fewer [none, none, none, none, none] (ls_n (ls_n (ls_n (ls_n (ls_n ls_0))))) (s_X12_notTwo_21 h7 E hK)
theorem c_X12_notTwo {l : Launch} {G : va_G × (Nat → ClassId)} {p0 : Nat} {v1 : Int32} {v2 : Int32} {v3 : Int32} {v4 : Int32} {h h' : mH} {r : Int32} (E : f_X12_notTwo p0 v1 v2 v3 v4 h = some (r, h')) : mMet l G m_X12_notTwo 3 0 0 [.ref p0, .int v1, .int v2, .int v3, .int v4] h (fun v k => v = some (.int r) ∧ h' = k) (fun _ _ => False) :=
  mMet_of (by decide +kernel) rfl (ac_c rfl (ac_c rfl (ac_c rfl (ac_c rfl (ac_c rfl ac_0))))) (Nat.le_of_ble_eq_true rfl) (s_X12_notTwo_0 p0 v1 v2 v3 v4 h E (And.intro rfl rfl))
set_option maxRecDepth 100000 in
set_option maxHeartbeats 4000000 in
theorem s_X12_makes_0 {l : Launch} {G : va_G × (Nat → ClassId)} {Q : Option Value → mH → Prop} {X : String → mH → Prop} (p0 : Nat) (v1 : Int32) (v2 : Int32) (v3 : Int32) (v4 : Int32) (h : mH) {o : Int32 × mH} (E : f_X12_makes p0 v1 v2 v3 v4 h = some o) (hK : (fiI Q) o) : mW l G m_X12_makes 4 0 0 0 [some (.ref p0), some (.int v1), some (.int v2), some (.int v3), some (.int v4), none] [] h Q X := by
  unfold f_X12_makes at E
  refine q_aload_n dX12_makes_0 rfl ?_
  refine q_iconst dX12_makes_1 ?_
  obtain ⟨g1, E⟩ := grd_some E
  obtain ⟨h2, eh2, E⟩ := bnd_x E
  refine r_putI (hh := eh2) dX12_makes_2 FX12_117 g1 rfl rfl ?_
  refine q_aload_n dX12_makes_5 rfl ?_
  refine q_iload_n dX12_makes_6 rfl ?_
  refine q_iload_n dX12_makes_7 rfl ?_
  refine q_iload_n dX12_makes_8 rfl ?_
  refine q_iload dX12_makes_9 rfl ?_
  obtain ⟨g5, E⟩ := grd_some E
  obtain ⟨x4, h3, hc, E⟩ := cal_some E
  refine r_callV4 (mc := 0) (ms := 0) dX12_makes_11 KX12_217 (c_X12_notTwo hc) g5 (by decide) (Nat.le_of_ble_eq_true rfl) (fun _ _ q => q.elim) ?_
  rintro _ _ ⟨rfl, rfl⟩
  clear hc
  refine r_istore dX12_makes_14 (by decide) rfl (ls' := [some (.ref p0), some (.int v1), some (.int v2), some (.int v3), some (.int v4), some (.int x4)]) rfl ?_
  refine q_iload dX12_makes_16 rfl ?_
  refine q_if_eq (tgt := 28) dX12_makes_18 (by decide) (fun z6 => ?_) (fun z6 => ?_)
  · replace E := ite_t E z6
    refine q_aload_n dX12_makes_28 rfl ?_
    obtain ⟨g9, E⟩ := grd_some E
    obtain ⟨_, h7, hc, E⟩ := cal_some E
    refine r_callV0 (mc := 0) (ms := 0) dX12_makes_29 KX12_205 (c_X12_remembers hc) g9 (by decide) (Nat.le_of_ble_eq_true rfl) (fun _ _ q => q.elim) ?_
    rintro _ _ ⟨rfl, rfl⟩
    clear hc
    refine q_aload_n dX12_makes_32 rfl ?_
    refine q_iload_n dX12_makes_33 rfl ?_
    obtain ⟨g12, E⟩ := grd_some E
    obtain ⟨x11, h10, hc, E⟩ := cal_some E
    refine r_callV1 (mc := 0) (ms := 0) dX12_makes_34 KX12_208 (c_X12_lays hc) g12 (by decide) (Nat.le_of_ble_eq_true rfl) (fun _ _ q => q.elim) ?_
    rintro _ _ ⟨rfl, rfl⟩
    clear hc
    cases E
    exact q_ireturn dX12_makes_37 rfl hK
  · replace E := ite_f E z6
    refine q_aload_n dX12_makes_21 rfl ?_
    refine q_iload dX12_makes_22 rfl ?_
    obtain ⟨g15, E⟩ := grd_some E
    obtain ⟨x14, h13, hc, E⟩ := cal_some E
    refine r_callV1 (mc := 0) (ms := 0) dX12_makes_24 KX12_196 (c_X12_fails hc) g15 (by decide) (Nat.le_of_ble_eq_true rfl) (fun _ _ q => q.elim) ?_
    rintro _ _ ⟨rfl, rfl⟩
    clear hc
    cases E
    exact q_ireturn dX12_makes_27 rfl hK
theorem c_X12_makes {l : Launch} {G : va_G × (Nat → ClassId)} {p0 : Nat} {v1 : Int32} {v2 : Int32} {v3 : Int32} {v4 : Int32} {h h' : mH} {r : Int32} (E : f_X12_makes p0 v1 v2 v3 v4 h = some (r, h')) : mMet l G m_X12_makes 4 0 0 [.ref p0, .int v1, .int v2, .int v3, .int v4] h (fun v k => v = some (.int r) ∧ h' = k) (fun _ _ => False) :=
  mMet_of (by decide +kernel) rfl (ac_c rfl (ac_c rfl (ac_c rfl (ac_c rfl (ac_c rfl ac_0))))) (Nat.le_of_ble_eq_true rfl) (s_X12_makes_0 p0 v1 v2 v3 v4 h E (And.intro rfl rfl))
set_option maxRecDepth 100000 in
set_option maxHeartbeats 4000000 in
theorem s_X12_unite_0 {l : Launch} {G : va_G × (Nat → ClassId)} {Q : Option Value → mH → Prop} {X : String → mH → Prop} (p0 : Nat) (v1 : Int32) (v2 : Int32) (v3 : Int32) (h : mH) {o : Int32 × mH} (E : f_X12_unite p0 v1 v2 v3 h = some o) (hK : (fiI Q) o) : mW l G m_X12_unite 5 0 0 0 [some (.ref p0), some (.int v1), some (.int v2), some (.int v3)] [] h Q X := by
  unfold f_X12_unite at E
  refine q_aload_n dX12_unite_0 rfl ?_
  refine q_iload_n dX12_unite_1 rfl ?_
  refine q_iload_n dX12_unite_2 rfl ?_
  refine q_iload_n dX12_unite_3 rfl ?_
  refine q_iconst dX12_unite_4 ?_
  obtain ⟨g3, E⟩ := grd_some E
  obtain ⟨x2, h1, hc, E⟩ := cal_some E
  refine r_callV4 (mc := 0) (ms := 0) dX12_unite_5 KX12_221 (c_X12_makes hc) g3 (by decide) (Nat.le_of_ble_eq_true rfl) (fun _ _ q => q.elim) ?_
  rintro _ _ ⟨rfl, rfl⟩
  clear hc
  cases E
  exact q_ireturn dX12_unite_8 rfl hK
theorem c_X12_unite {l : Launch} {G : va_G × (Nat → ClassId)} {p0 : Nat} {v1 : Int32} {v2 : Int32} {v3 : Int32} {h h' : mH} {r : Int32} (E : f_X12_unite p0 v1 v2 v3 h = some (r, h')) : mMet l G m_X12_unite 5 0 0 [.ref p0, .int v1, .int v2, .int v3] h (fun v k => v = some (.int r) ∧ h' = k) (fun _ _ => False) :=
  mMet_of (by decide +kernel) rfl (ac_c rfl (ac_c rfl (ac_c rfl (ac_c rfl ac_0)))) (Nat.le_of_ble_eq_true rfl) (s_X12_unite_0 p0 v1 v2 v3 h E (And.intro rfl rfl))
set_option maxRecDepth 100000 in
set_option maxHeartbeats 4000000 in
theorem s_X12_concatenate_0 {l : Launch} {G : va_G × (Nat → ClassId)} {Q : Option Value → mH → Prop} {X : String → mH → Prop} (p0 : Nat) (v1 : Int32) (v2 : Int32) (v3 : Int32) (h : mH) {o : Int32 × mH} (E : f_X12_concatenate p0 v1 v2 v3 h = some o) (hK : (fiI Q) o) : mW l G m_X12_concatenate 5 0 0 0 [some (.ref p0), some (.int v1), some (.int v2), some (.int v3)] [] h Q X := by
  unfold f_X12_concatenate at E
  refine q_aload_n dX12_concatenate_0 rfl ?_
  refine q_iload_n dX12_concatenate_1 rfl ?_
  refine q_iload_n dX12_concatenate_2 rfl ?_
  refine q_iload_n dX12_concatenate_3 rfl ?_
  refine q_iconst dX12_concatenate_4 ?_
  obtain ⟨g3, E⟩ := grd_some E
  obtain ⟨x2, h1, hc, E⟩ := cal_some E
  refine r_callV4 (mc := 0) (ms := 0) dX12_concatenate_5 KX12_221 (c_X12_makes hc) g3 (by decide) (Nat.le_of_ble_eq_true rfl) (fun _ _ q => q.elim) ?_
  rintro _ _ ⟨rfl, rfl⟩
  clear hc
  cases E
  exact q_ireturn dX12_concatenate_8 rfl hK
theorem c_X12_concatenate {l : Launch} {G : va_G × (Nat → ClassId)} {p0 : Nat} {v1 : Int32} {v2 : Int32} {v3 : Int32} {h h' : mH} {r : Int32} (E : f_X12_concatenate p0 v1 v2 v3 h = some (r, h')) : mMet l G m_X12_concatenate 5 0 0 [.ref p0, .int v1, .int v2, .int v3] h (fun v k => v = some (.int r) ∧ h' = k) (fun _ _ => False) :=
  mMet_of (by decide +kernel) rfl (ac_c rfl (ac_c rfl (ac_c rfl (ac_c rfl ac_0)))) (Nat.le_of_ble_eq_true rfl) (s_X12_concatenate_0 p0 v1 v2 v3 h E (And.intro rfl rfl))
set_option maxRecDepth 100000 in
set_option maxHeartbeats 4000000 in
theorem s_X12_notRepeat_14 {l : Launch} {G : va_G × (Nat → ClassId)} {Q : Option Value → mH → Prop} {X : String → mH → Prop} (h : mH) {o : Int32 × mH} (E : g_X12_notRepeat_14  h = some o) (hK : (fiI Q) o) : mW l G m_X12_notRepeat 3 0 0 14 [none, none, none] [] h Q X := by
  unfold g_X12_notRepeat_14 at E
  refine q_iconst dX12_notRepeat_14 ?_
  cases E
  exact q_ireturn dX12_notRepeat_15 rfl hK
set_option maxRecDepth 100000 in
set_option maxHeartbeats 4000000 in
theorem s_X12_notRepeat_54 {l : Launch} {G : va_G × (Nat → ClassId)} {Q : Option Value → mH → Prop} {X : String → mH → Prop} (s0 : Int32) (h : mH) {o : Int32 × mH} (E : g_X12_notRepeat_54 s0 h = some o) (hK : (fiI Q) o) : mW l G m_X12_notRepeat 3 0 0 54 [none, none, none] [.int s0] h Q X := by
  unfold g_X12_notRepeat_54 at E
  cases E
  exact q_ireturn dX12_notRepeat_54 rfl hK
set_option maxRecDepth 100000 in
set_option maxHeartbeats 4000000 in
theorem s_X12_notRepeat_0 {l : Launch} {G : va_G × (Nat → ClassId)} {Q : Option Value → mH → Prop} {X : String → mH → Prop} (p0 : Nat) (v1 : Int32) (v2 : Int32) (h : mH) {o : Int32 × mH} (E : f_X12_notRepeat p0 v1 v2 h = some o) (hK : (fiI Q) o) : mW l G m_X12_notRepeat 3 0 0 0 [some (.ref p0), some (.int v1), some (.int v2)] [] h Q X := by
  unfold f_X12_notRepeat at E
  refine q_iload_n dX12_notRepeat_0 rfl ?_
  obtain ⟨x2, h1, hc, E⟩ := cal_some E
  refine r_callS1 (mc := 0) (ms := 0) dX12_notRepeat_1 KX12_136 (c_X12_isSlot hc) (by decide) (Nat.le_of_ble_eq_true rfl) (fun _ _ q => q.elim) ?_
  rintro _ _ ⟨rfl, rfl⟩
  clear hc
  refine q_if_eq (tgt := 14) dX12_notRepeat_4 (by decide) (fun z3 => ?_) (fun z3 => ?_)
  · replace E := ite_t E z3
    exact r_fewer [none, none, none] (ls_n (ls_n (ls_n ls_0))) (s_X12_notRepeat_14 h1 E hK)
  · replace E := ite_f E z3
    refine q_iload_n dX12_notRepeat_7 rfl ?_
    obtain ⟨x5, h4, hc, E⟩ := cal_some E
    refine r_callS1 (mc := 0) (ms := 0) dX12_notRepeat_8 KX12_136 (c_X12_isSlot hc) (by decide) (Nat.le_of_ble_eq_true rfl) (fun _ _ q => q.elim) ?_
    rintro _ _ ⟨rfl, rfl⟩
    clear hc
    refine q_if_ne (tgt := 16) dX12_notRepeat_11 (by decide) (fun z6 => ?_) (fun z6 => ?_)
    · replace E := ite_f E z6
      refine q_aload_n dX12_notRepeat_16 rfl ?_
      refine q_iload_n dX12_notRepeat_17 rfl ?_
      obtain ⟨g9, E⟩ := grd_some E
      obtain ⟨x8, h7, hc, E⟩ := cal_some E
      refine r_callV1 (mc := 0) (ms := 0) dX12_notRepeat_18 KX12_211 (c_X12_holds hc) g9 (by decide) (Nat.le_of_ble_eq_true rfl) (fun _ _ q => q.elim) ?_
      rintro _ _ ⟨rfl, rfl⟩
      clear hc
      refine q_if_ne (tgt := 26) dX12_notRepeat_21 (by decide) (fun z10 => ?_) (fun z10 => ?_)
      · replace E := ite_f E z10
        refine q_aload_n dX12_notRepeat_26 rfl ?_
        refine q_iconst dX12_notRepeat_27 ?_
        obtain ⟨g11, E⟩ := grd_some E
        obtain ⟨h12, eh12, E⟩ := bnd_x E
        refine r_putI (hh := eh12) dX12_notRepeat_28 FX12_144 g11 rfl rfl ?_
        refine q_aload_n dX12_notRepeat_31 rfl ?_
        refine q_iload_n dX12_notRepeat_32 rfl ?_
        obtain ⟨g15, E⟩ := grd_some E
        obtain ⟨_, h13, hc, E⟩ := cal_some E
        refine r_callV1 (mc := 0) (ms := 0) dX12_notRepeat_33 KX12_214 (c_X12_copiesSlot hc) g15 (by decide) (Nat.le_of_ble_eq_true rfl) (fun _ _ q => q.elim) ?_
        rintro _ _ ⟨rfl, rfl⟩
        clear hc
        refine q_aload_n dX12_notRepeat_36 rfl ?_
        refine q_bipush (v := (Int32.ofInt 6)) dX12_notRepeat_37 (by decide) ?_
        obtain ⟨g18, E⟩ := grd_some E
        obtain ⟨_, h16, hc, E⟩ := cal_some E
        refine r_callV1 (mc := 0) (ms := 0) dX12_notRepeat_39 KX12_151 (c_X12_adds hc) g18 (by decide) (Nat.le_of_ble_eq_true rfl) (fun _ _ q => q.elim) ?_
        rintro _ _ ⟨rfl, rfl⟩
        clear hc
        refine q_aload_n dX12_notRepeat_42 rfl ?_
        obtain ⟨g21, E⟩ := grd_some E
        obtain ⟨x20, h19, hc, E⟩ := cal_some E
        refine r_callV0 (mc := 0) (ms := 0) dX12_notRepeat_43 KX12_202 (c_X12_isTooLarge hc) g21 (by decide) (Nat.le_of_ble_eq_true rfl) (fun _ _ q => q.elim) ?_
        rintro _ _ ⟨rfl, rfl⟩
        clear hc
        refine q_if_eq (tgt := 53) dX12_notRepeat_46 (by decide) (fun z22 => ?_) (fun z22 => ?_)
        · replace E := ite_t E z22
          refine q_iconst dX12_notRepeat_53 ?_
          exact r_fewer [none, none, none] (ls_n (ls_n (ls_n ls_0))) (s_X12_notRepeat_54 (Int32.ofInt 0) h19 E hK)
        · replace E := ite_f E z22
          refine q_iconst dX12_notRepeat_49 ?_
          refine q_goto (tgt := 54) dX12_notRepeat_50 (by decide) ?_
          exact r_fewer [none, none, none] (ls_n (ls_n (ls_n ls_0))) (s_X12_notRepeat_54 (Int32.ofInt 3) h19 E hK)
      · replace E := ite_t E z10
        refine q_iconst dX12_notRepeat_24 ?_
        cases E
        exact q_ireturn dX12_notRepeat_25 rfl hK
    · replace E := ite_t E z6
      exact r_fewer [none, none, none] (ls_n (ls_n (ls_n ls_0))) (s_X12_notRepeat_14 h4 E hK)
theorem c_X12_notRepeat {l : Launch} {G : va_G × (Nat → ClassId)} {p0 : Nat} {v1 : Int32} {v2 : Int32} {h h' : mH} {r : Int32} (E : f_X12_notRepeat p0 v1 v2 h = some (r, h')) : mMet l G m_X12_notRepeat 3 0 0 [.ref p0, .int v1, .int v2] h (fun v k => v = some (.int r) ∧ h' = k) (fun _ _ => False) :=
  mMet_of (by decide +kernel) rfl (ac_c rfl (ac_c rfl (ac_c rfl ac_0))) (Nat.le_of_ble_eq_true rfl) (s_X12_notRepeat_0 p0 v1 v2 h E (And.intro rfl rfl))
set_option maxRecDepth 100000 in
set_option maxHeartbeats 4000000 in
theorem s_X12_repeat_0 {l : Launch} {G : va_G × (Nat → ClassId)} {Q : Option Value → mH → Prop} {X : String → mH → Prop} (p0 : Nat) (v1 : Int32) (v2 : Int32) (h : mH) {o : Int32 × mH} (E : f_X12_repeat p0 v1 v2 h = some o) (hK : (fiI Q) o) : mW l G m_X12_repeat 4 0 0 0 [some (.ref p0), some (.int v1), some (.int v2), none] [] h Q X := by
  unfold f_X12_repeat at E
  refine q_aload_n dX12_repeat_0 rfl ?_
  refine q_iconst dX12_repeat_1 ?_
  obtain ⟨g1, E⟩ := grd_some E
  obtain ⟨h2, eh2, E⟩ := bnd_x E
  refine r_putI (hh := eh2) dX12_repeat_2 FX12_117 g1 rfl rfl ?_
  refine q_aload_n dX12_repeat_5 rfl ?_
  refine q_iload_n dX12_repeat_6 rfl ?_
  refine q_iload_n dX12_repeat_7 rfl ?_
  obtain ⟨g5, E⟩ := grd_some E
  obtain ⟨x4, h3, hc, E⟩ := cal_some E
  refine r_callV2 (mc := 0) (ms := 0) dX12_repeat_8 KX12_224 (c_X12_notRepeat hc) g5 (by decide) (Nat.le_of_ble_eq_true rfl) (fun _ _ q => q.elim) ?_
  rintro _ _ ⟨rfl, rfl⟩
  clear hc
  refine r_istore_n dX12_repeat_11 (by decide) rfl (ls' := [some (.ref p0), some (.int v1), some (.int v2), some (.int x4)]) rfl ?_
  refine q_iload_n dX12_repeat_12 rfl ?_
  refine q_if_eq (tgt := 22) dX12_repeat_13 (by decide) (fun z6 => ?_) (fun z6 => ?_)
  · replace E := ite_t E z6
    refine q_aload_n dX12_repeat_22 rfl ?_
    obtain ⟨g9, E⟩ := grd_some E
    obtain ⟨_, h7, hc, E⟩ := cal_some E
    refine r_callV0 (mc := 0) (ms := 0) dX12_repeat_23 KX12_205 (c_X12_remembers hc) g9 (by decide) (Nat.le_of_ble_eq_true rfl) (fun _ _ q => q.elim) ?_
    rintro _ _ ⟨rfl, rfl⟩
    clear hc
    refine q_aload_n dX12_repeat_26 rfl ?_
    refine q_iload_n dX12_repeat_27 rfl ?_
    obtain ⟨g12, E⟩ := grd_some E
    obtain ⟨x11, h10, hc, E⟩ := cal_some E
    refine r_callV1 (mc := 0) (ms := 0) dX12_repeat_28 KX12_208 (c_X12_lays hc) g12 (by decide) (Nat.le_of_ble_eq_true rfl) (fun _ _ q => q.elim) ?_
    rintro _ _ ⟨rfl, rfl⟩
    clear hc
    cases E
    exact q_ireturn dX12_repeat_31 rfl hK
  · replace E := ite_f E z6
    refine q_aload_n dX12_repeat_16 rfl ?_
    refine q_iload_n dX12_repeat_17 rfl ?_
    obtain ⟨g15, E⟩ := grd_some E
    obtain ⟨x14, h13, hc, E⟩ := cal_some E
    refine r_callV1 (mc := 0) (ms := 0) dX12_repeat_18 KX12_196 (c_X12_fails hc) g15 (by decide) (Nat.le_of_ble_eq_true rfl) (fun _ _ q => q.elim) ?_
    rintro _ _ ⟨rfl, rfl⟩
    clear hc
    cases E
    exact q_ireturn dX12_repeat_21 rfl hK
theorem c_X12_repeat {l : Launch} {G : va_G × (Nat → ClassId)} {p0 : Nat} {v1 : Int32} {v2 : Int32} {h h' : mH} {r : Int32} (E : f_X12_repeat p0 v1 v2 h = some (r, h')) : mMet l G m_X12_repeat 4 0 0 [.ref p0, .int v1, .int v2] h (fun v k => v = some (.int r) ∧ h' = k) (fun _ _ => False) :=
  mMet_of (by decide +kernel) rfl (ac_c rfl (ac_c rfl (ac_c rfl ac_0))) (Nat.le_of_ble_eq_true rfl) (s_X12_repeat_0 p0 v1 v2 h E (And.intro rfl rfl))
set_option maxRecDepth 100000 in
set_option maxHeartbeats 4000000 in
theorem s_X12_patterns_24 {l : Launch} {G : va_G × (Nat → ClassId)} {Q : Option Value → mH → Prop} {X : String → mH → Prop} (p0 : Nat) (v2 : Int32) (s0 : Int32) (s1 : Int32) (h : mH) {o : ((Int32 × Int32 × mH) ⊕ (Int32 × mH))} (E : g_X12_patterns_24 p0 v2 s0 s1 h = some o) (hK : (lpK (w_X12_patterns_4 l G Q X p0) (fiI Q)) o) : mW l G m_X12_patterns 1 0 0 24 [some (.ref p0), none, some (.int v2)] [.int s0, .int s1] h Q X := by
  unfold g_X12_patterns_24 at E
  refine q_iadd dX12_patterns_24 ?_
  obtain ⟨x1, ex1, E⟩ := bnd_x E
  refine r_istore_n dX12_patterns_25 (by decide) ex1 (ls' := [some (.ref p0), some (.int x1), some (.int v2)]) rfl ?_
  obtain ⟨x2, ex2, E⟩ := bnd_x E
  refine r_iinc (v := x2) dX12_patterns_26 rfl ex2 (by decide) (ls' := [some (.ref p0), some (.int x1), some (.int x2)]) rfl ?_
  refine q_goto (tgt := 4) dX12_patterns_29 (by decide) ?_
  cases E
  exact r_fewer [some (.ref p0), some (.int x1), some (.int x2)] (ls_s (ls_s (ls_s ls_0))) hK
set_option maxRecDepth 100000 in
set_option maxHeartbeats 4000000 in
theorem sb_X12_patterns_4 {l : Launch} {G : va_G × (Nat → ClassId)} {Q : Option Value → mH → Prop} {X : String → mH → Prop} (p0 : Nat) (v1 : Int32) (v2 : Int32) (h : mH) {o : ((Int32 × Int32 × mH) ⊕ (Int32 × mH))} (E : b0_X12_patterns_4 p0 v1 v2 h = some o) (hK : (lpK (w_X12_patterns_4 l G Q X p0) (fiI Q)) o) : mW l G m_X12_patterns 1 0 0 4 [some (.ref p0), some (.int v1), some (.int v2)] [] h Q X := by
  unfold b0_X12_patterns_4 at E
  refine q_iload_n dX12_patterns_4 rfl ?_
  refine q_bipush (v := (Int32.ofInt 6)) dX12_patterns_5 (by decide) ?_
  refine q_icmp_ge (tgt := 32) dX12_patterns_7 (by decide) (fun z1 => ?_) (fun z1 => ?_)
  · replace E := ite_t E z1
    refine q_iload_n dX12_patterns_32 rfl ?_
    cases E
    exact q_ireturn dX12_patterns_33 rfl hK
  · replace E := ite_f E z1
    refine q_iload_n dX12_patterns_10 rfl ?_
    refine q_aload_n dX12_patterns_11 rfl ?_
    refine q_iload_n dX12_patterns_12 rfl ?_
    obtain ⟨g4, E⟩ := grd_some E
    obtain ⟨x3, h2, hc, E⟩ := cal_some E
    refine r_callV1 (mc := 0) (ms := 0) dX12_patterns_13 KX12_140 (c_X12_length hc) g4 (by decide) (Nat.le_of_ble_eq_true rfl) (fun _ _ q => q.elim) ?_
    rintro _ _ ⟨rfl, rfl⟩
    clear hc
    refine q_if_le (tgt := 23) dX12_patterns_16 (by decide) (fun z5 => ?_) (fun z5 => ?_)
    · replace E := ite_t E z5
      refine q_iconst dX12_patterns_23 ?_
      exact r_fewer [some (.ref p0), none, some (.int v2)] (ls_s (ls_n (ls_s ls_0))) (s_X12_patterns_24 p0 v2 (Int32.ofInt 0) v1 h2 E hK)
    · replace E := ite_f E z5
      refine q_iconst dX12_patterns_19 ?_
      refine q_goto (tgt := 24) dX12_patterns_20 (by decide) ?_
      exact r_fewer [some (.ref p0), none, some (.int v2)] (ls_s (ls_n (ls_s ls_0))) (s_X12_patterns_24 p0 v2 (Int32.ofInt 1) v1 h2 E hK)
theorem s_X12_patterns_4 {l : Launch} {G : va_G × (Nat → ClassId)} {Q : Option Value → mH → Prop} {X : String → mH → Prop} (p0 : Nat) (v1 : Int32) (v2 : Int32) (h : mH) {o : Int32 × mH} (E : g_X12_patterns_4 p0 v1 v2 h = some o) (hK : (fiI Q) o) : mW l G m_X12_patterns 1 0 0 4 [some (.ref p0), some (.int v1), some (.int v2)] [] h Q X :=
  (lp_go (w_X12_patterns_4 l G Q X p0) (fiI Q) (b_X12_patterns_4 p0) (fun s o E hK => sb_X12_patterns_4 p0 s.1 s.2.1 (s.2.2) E hK) _ _ _ E hK : w_X12_patterns_4 l G Q X p0 (v1, v2, h))
set_option maxRecDepth 100000 in
set_option maxHeartbeats 4000000 in
theorem s_X12_patterns_0 {l : Launch} {G : va_G × (Nat → ClassId)} {Q : Option Value → mH → Prop} {X : String → mH → Prop} (p0 : Nat) (h : mH) {o : Int32 × mH} (E : f_X12_patterns p0 h = some o) (hK : (fiI Q) o) : mW l G m_X12_patterns 1 0 0 0 [some (.ref p0), none, none] [] h Q X := by
  unfold f_X12_patterns at E
  refine q_iconst dX12_patterns_0 ?_
  refine r_istore_n dX12_patterns_1 (by decide) rfl (ls' := [some (.ref p0), some (.int (Int32.ofInt 0)), none]) rfl ?_
  refine q_iconst dX12_patterns_2 ?_
  refine r_istore_n dX12_patterns_3 (by decide) rfl (ls' := [some (.ref p0), some (.int (Int32.ofInt 0)), some (.int (Int32.ofInt 0))]) rfl ?_
  exact r_fewer [some (.ref p0), some (.int (Int32.ofInt 0)), some (.int (Int32.ofInt 0))] (ls_s (ls_s (ls_s ls_0))) (s_X12_patterns_4 p0 (Int32.ofInt 0) (Int32.ofInt 0) h E hK)
theorem c_X12_patterns {l : Launch} {G : va_G × (Nat → ClassId)} {p0 : Nat} {h h' : mH} {r : Int32} (E : f_X12_patterns p0 h = some (r, h')) : mMet l G m_X12_patterns 1 0 0 [.ref p0] h (fun v k => v = some (.int r) ∧ h' = k) (fun _ _ => False) :=
  mMet_of (by decide +kernel) rfl (ac_c rfl ac_0) (Nat.le_of_ble_eq_true rfl) (s_X12_patterns_0 p0 h E (And.intro rfl rfl))
set_option maxRecDepth 100000 in
set_option maxHeartbeats 4000000 in
theorem s_X12_notRemove_22 {l : Launch} {G : va_G × (Nat → ClassId)} {Q : Option Value → mH → Prop} {X : String → mH → Prop} (s0 : Int32) (h : mH) {o : Int32 × mH} (E : g_X12_notRemove_22 s0 h = some o) (hK : (fiI Q) o) : mW l G m_X12_notRemove 3 0 0 22 [none, none] [.int s0] h Q X := by
  unfold g_X12_notRemove_22 at E
  cases E
  exact q_ireturn dX12_notRemove_22 rfl hK
set_option maxRecDepth 100000 in
set_option maxHeartbeats 4000000 in
theorem s_X12_notRemove_0 {l : Launch} {G : va_G × (Nat → ClassId)} {Q : Option Value → mH → Prop} {X : String → mH → Prop} (p0 : Nat) (v1 : Int32) (h : mH) {o : Int32 × mH} (E : f_X12_notRemove p0 v1 h = some o) (hK : (fiI Q) o) : mW l G m_X12_notRemove 3 0 0 0 [some (.ref p0), some (.int v1)] [] h Q X := by
  unfold f_X12_notRemove at E
  refine q_iload_n dX12_notRemove_0 rfl ?_
  obtain ⟨x2, h1, hc, E⟩ := cal_some E
  refine r_callS1 (mc := 0) (ms := 0) dX12_notRemove_1 KX12_136 (c_X12_isSlot hc) (by decide) (Nat.le_of_ble_eq_true rfl) (fun _ _ q => q.elim) ?_
  rintro _ _ ⟨rfl, rfl⟩
  clear hc
  refine q_if_ne (tgt := 9) dX12_notRemove_4 (by decide) (fun z3 => ?_) (fun z3 => ?_)
  · replace E := ite_f E z3
    refine q_aload_n dX12_notRemove_9 rfl ?_
    refine q_iload_n dX12_notRemove_10 rfl ?_
    obtain ⟨g6, E⟩ := grd_some E
    obtain ⟨x5, h4, hc, E⟩ := cal_some E
    refine r_callV1 (mc := 0) (ms := 0) dX12_notRemove_11 KX12_211 (c_X12_holds hc) g6 (by decide) (Nat.le_of_ble_eq_true rfl) (fun _ _ q => q.elim) ?_
    rintro _ _ ⟨rfl, rfl⟩
    clear hc
    refine q_if_eq (tgt := 21) dX12_notRemove_14 (by decide) (fun z7 => ?_) (fun z7 => ?_)
    · replace E := ite_t E z7
      refine q_iconst dX12_notRemove_21 ?_
      exact r_fewer [none, none] (ls_n (ls_n ls_0)) (s_X12_notRemove_22 (Int32.ofInt 2) h4 E hK)
    · replace E := ite_f E z7
      refine q_iconst dX12_notRemove_17 ?_
      refine q_goto (tgt := 22) dX12_notRemove_18 (by decide) ?_
      exact r_fewer [none, none] (ls_n (ls_n ls_0)) (s_X12_notRemove_22 (Int32.ofInt 0) h4 E hK)
  · replace E := ite_t E z3
    refine q_iconst dX12_notRemove_7 ?_
    cases E
    exact q_ireturn dX12_notRemove_8 rfl hK
theorem c_X12_notRemove {l : Launch} {G : va_G × (Nat → ClassId)} {p0 : Nat} {v1 : Int32} {h h' : mH} {r : Int32} (E : f_X12_notRemove p0 v1 h = some (r, h')) : mMet l G m_X12_notRemove 3 0 0 [.ref p0, .int v1] h (fun v k => v = some (.int r) ∧ h' = k) (fun _ _ => False) :=
  mMet_of (by decide +kernel) rfl (ac_c rfl (ac_c rfl ac_0)) (Nat.le_of_ble_eq_true rfl) (s_X12_notRemove_0 p0 v1 h E (And.intro rfl rfl))
set_option maxRecDepth 100000 in
set_option maxHeartbeats 4000000 in
theorem sb_X12_removes_2 {l : Launch} {G : va_G × (Nat → ClassId)} {Q : Option Value → mH → Prop} {X : String → mH → Prop} (p0 : Nat) (v1 : Int32) (v2 : Int32) (h : mH) {o : ((Int32 × mH) ⊕ (Int32 × mH))} (E : b0_X12_removes_2 p0 v1 v2 h = some o) (hK : (lpK (w_X12_removes_2 l G Q X p0 v1) (fiI Q)) o) : mW l G m_X12_removes 2 0 0 2 [some (.ref p0), some (.int v1), some (.int v2)] [] h Q X := by
  unfold b0_X12_removes_2 at E
  refine q_iload_n dX12_removes_2 rfl ?_
  refine q_bipush (v := (Int32.ofInt 29)) dX12_removes_3 (by decide) ?_
  refine q_icmp_ge (tgt := 28) dX12_removes_5 (by decide) (fun z1 => ?_) (fun z1 => ?_)
  · replace E := ite_t E z1
    refine q_aload_n dX12_removes_28 rfl ?_
    obtain ⟨g4, E⟩ := grd_some E
    obtain ⟨x3, h2, hc, E⟩ := cal_some E
    refine r_callV0 (mc := 0) (ms := 0) dX12_removes_29 KX12_227 (c_X12_patterns hc) g4 (by decide) (Nat.le_of_ble_eq_true rfl) (fun _ _ q => q.elim) ?_
    rintro _ _ ⟨rfl, rfl⟩
    clear hc
    cases E
    exact q_ireturn dX12_removes_32 rfl hK
  · replace E := ite_f E z1
    refine q_aload_n dX12_removes_8 rfl ?_
    obtain ⟨g5, E⟩ := grd_some E
    obtain ⟨a6, ea6, E⟩ := orf_some E
    refine r_getR dX12_removes_9 FX12_7 g5 ea6 ?_
    refine q_iconst dX12_removes_12 ?_
    refine q_bipush (v := (Int32.ofInt 29)) dX12_removes_13 (by decide) ?_
    refine q_iload_n dX12_removes_15 rfl ?_
    refine q_imul dX12_removes_16 ?_
    refine q_iadd dX12_removes_17 ?_
    refine q_iload_n dX12_removes_18 rfl ?_
    refine q_iadd dX12_removes_19 ?_
    refine q_iconst dX12_removes_20 ?_
    obtain ⟨g8, E⟩ := grd_some E
    obtain ⟨g9, E⟩ := grd_some E
    obtain ⟨h7, eh7, E⟩ := bnd_x E
    refine r_iastore (hh := eh7) dX12_removes_21 g8 g9 ?_
    obtain ⟨x10, ex10, E⟩ := bnd_x E
    refine r_iinc (v := x10) dX12_removes_22 rfl ex10 (by decide) (ls' := [some (.ref p0), some (.int v1), some (.int x10)]) rfl ?_
    refine q_goto (tgt := 2) dX12_removes_25 (by decide) ?_
    cases E
    exact r_fewer [some (.ref p0), some (.int v1), some (.int x10)] (ls_s (ls_s (ls_s ls_0))) hK
theorem s_X12_removes_2 {l : Launch} {G : va_G × (Nat → ClassId)} {Q : Option Value → mH → Prop} {X : String → mH → Prop} (p0 : Nat) (v1 : Int32) (v2 : Int32) (h : mH) {o : Int32 × mH} (E : g_X12_removes_2 p0 v1 v2 h = some o) (hK : (fiI Q) o) : mW l G m_X12_removes 2 0 0 2 [some (.ref p0), some (.int v1), some (.int v2)] [] h Q X :=
  (lp_go (w_X12_removes_2 l G Q X p0 v1) (fiI Q) (b_X12_removes_2 p0 v1) (fun s o E hK => sb_X12_removes_2 p0 v1 s.1 (s.2) E hK) _ _ _ E hK : w_X12_removes_2 l G Q X p0 v1 (v2, h))
set_option maxRecDepth 100000 in
set_option maxHeartbeats 4000000 in
theorem s_X12_removes_0 {l : Launch} {G : va_G × (Nat → ClassId)} {Q : Option Value → mH → Prop} {X : String → mH → Prop} (p0 : Nat) (v1 : Int32) (h : mH) {o : Int32 × mH} (E : f_X12_removes p0 v1 h = some o) (hK : (fiI Q) o) : mW l G m_X12_removes 2 0 0 0 [some (.ref p0), some (.int v1), none] [] h Q X := by
  unfold f_X12_removes at E
  refine q_iconst dX12_removes_0 ?_
  refine r_istore_n dX12_removes_1 (by decide) rfl (ls' := [some (.ref p0), some (.int v1), some (.int (Int32.ofInt 0))]) rfl ?_
  exact r_fewer [some (.ref p0), some (.int v1), some (.int (Int32.ofInt 0))] (ls_s (ls_s (ls_s ls_0))) (s_X12_removes_2 p0 v1 (Int32.ofInt 0) h E hK)
theorem c_X12_removes {l : Launch} {G : va_G × (Nat → ClassId)} {p0 : Nat} {v1 : Int32} {h h' : mH} {r : Int32} (E : f_X12_removes p0 v1 h = some (r, h')) : mMet l G m_X12_removes 2 0 0 [.ref p0, .int v1] h (fun v k => v = some (.int r) ∧ h' = k) (fun _ _ => False) :=
  mMet_of (by decide +kernel) rfl (ac_c rfl (ac_c rfl ac_0)) (Nat.le_of_ble_eq_true rfl) (s_X12_removes_0 p0 v1 h E (And.intro rfl rfl))
set_option maxRecDepth 100000 in
set_option maxHeartbeats 4000000 in
theorem s_X12_remove_0 {l : Launch} {G : va_G × (Nat → ClassId)} {Q : Option Value → mH → Prop} {X : String → mH → Prop} (p0 : Nat) (v1 : Int32) (h : mH) {o : Int32 × mH} (E : f_X12_remove p0 v1 h = some o) (hK : (fiI Q) o) : mW l G m_X12_remove 4 0 0 0 [some (.ref p0), some (.int v1), none] [] h Q X := by
  unfold f_X12_remove at E
  refine q_aload_n dX12_remove_0 rfl ?_
  refine q_iconst dX12_remove_1 ?_
  obtain ⟨g1, E⟩ := grd_some E
  obtain ⟨h2, eh2, E⟩ := bnd_x E
  refine r_putI (hh := eh2) dX12_remove_2 FX12_117 g1 rfl rfl ?_
  refine q_aload_n dX12_remove_5 rfl ?_
  refine q_iload_n dX12_remove_6 rfl ?_
  obtain ⟨g5, E⟩ := grd_some E
  obtain ⟨x4, h3, hc, E⟩ := cal_some E
  refine r_callV1 (mc := 0) (ms := 0) dX12_remove_7 KX12_230 (c_X12_notRemove hc) g5 (by decide) (Nat.le_of_ble_eq_true rfl) (fun _ _ q => q.elim) ?_
  rintro _ _ ⟨rfl, rfl⟩
  clear hc
  refine r_istore_n dX12_remove_10 (by decide) rfl (ls' := [some (.ref p0), some (.int v1), some (.int x4)]) rfl ?_
  refine q_iload_n dX12_remove_11 rfl ?_
  refine q_if_eq (tgt := 21) dX12_remove_12 (by decide) (fun z6 => ?_) (fun z6 => ?_)
  · replace E := ite_t E z6
    refine q_aload_n dX12_remove_21 rfl ?_
    obtain ⟨g9, E⟩ := grd_some E
    obtain ⟨_, h7, hc, E⟩ := cal_some E
    refine r_callV0 (mc := 0) (ms := 0) dX12_remove_22 KX12_205 (c_X12_remembers hc) g9 (by decide) (Nat.le_of_ble_eq_true rfl) (fun _ _ q => q.elim) ?_
    rintro _ _ ⟨rfl, rfl⟩
    clear hc
    refine q_aload_n dX12_remove_25 rfl ?_
    refine q_iload_n dX12_remove_26 rfl ?_
    obtain ⟨g12, E⟩ := grd_some E
    obtain ⟨x11, h10, hc, E⟩ := cal_some E
    refine r_callV1 (mc := 0) (ms := 0) dX12_remove_27 KX12_233 (c_X12_removes hc) g12 (by decide) (Nat.le_of_ble_eq_true rfl) (fun _ _ q => q.elim) ?_
    rintro _ _ ⟨rfl, rfl⟩
    clear hc
    cases E
    exact q_ireturn dX12_remove_30 rfl hK
  · replace E := ite_f E z6
    refine q_aload_n dX12_remove_15 rfl ?_
    refine q_iload_n dX12_remove_16 rfl ?_
    obtain ⟨g15, E⟩ := grd_some E
    obtain ⟨x14, h13, hc, E⟩ := cal_some E
    refine r_callV1 (mc := 0) (ms := 0) dX12_remove_17 KX12_196 (c_X12_fails hc) g15 (by decide) (Nat.le_of_ble_eq_true rfl) (fun _ _ q => q.elim) ?_
    rintro _ _ ⟨rfl, rfl⟩
    clear hc
    cases E
    exact q_ireturn dX12_remove_20 rfl hK
theorem c_X12_remove {l : Launch} {G : va_G × (Nat → ClassId)} {p0 : Nat} {v1 : Int32} {h h' : mH} {r : Int32} (E : f_X12_remove p0 v1 h = some (r, h')) : mMet l G m_X12_remove 4 0 0 [.ref p0, .int v1] h (fun v k => v = some (.int r) ∧ h' = k) (fun _ _ => False) :=
  mMet_of (by decide +kernel) rfl (ac_c rfl (ac_c rfl ac_0)) (Nat.le_of_ble_eq_true rfl) (s_X12_remove_0 p0 v1 h E (And.intro rfl rfl))
set_option maxRecDepth 100000 in
set_option maxHeartbeats 4000000 in
theorem sb_X12_takesWord_12 {l : Launch} {G : va_G × (Nat → ClassId)} {Q : Option Value → mH → Prop} {X : String → mH → Prop} (p0 : Nat) (v1 : Int32) (v2 : Int32) (v3 : Int32) (v4 : Int32) (h : mH) {o : ((Int32 × Int32 × mH) ⊕ (Int32 × mH))} (E : b0_X12_takesWord_12 p0 v1 v2 v3 v4 h = some o) (hK : (lpK (w_X12_takesWord_12 l G Q X p0 v1 v2) (fiI Q)) o) : mW l G m_X12_takesWord 1 0 0 12 [some (.ref p0), some (.int v1), some (.int v2), some (.int v3), some (.int v4)] [] h Q X := by
  unfold b0_X12_takesWord_12 at E
  refine q_iload dX12_takesWord_12 rfl ?_
  refine q_iload_n dX12_takesWord_14 rfl ?_
  refine q_icmp_ge (tgt := 60) dX12_takesWord_15 (by decide) (fun z1 => ?_) (fun z1 => ?_)
  · replace E := ite_t E z1
    refine q_iload_n dX12_takesWord_60 rfl ?_
    obtain ⟨g2, E⟩ := grd_some E
    cases E
    exact q_zreturn dX12_takesWord_61 rfl (narZ g2) hK
  · replace E := ite_f E z1
    refine q_aload_n dX12_takesWord_18 rfl ?_
    obtain ⟨g3, E⟩ := grd_some E
    obtain ⟨a4, ea4, E⟩ := orf_some E
    refine r_getR dX12_takesWord_19 FX12_39 g3 ea4 ?_
    refine q_iload dX12_takesWord_22 rfl ?_
    refine q_iload_n dX12_takesWord_24 rfl ?_
    refine q_isub dX12_takesWord_25 ?_
    refine q_aload_n dX12_takesWord_26 rfl ?_
    obtain ⟨a5, ea5, E⟩ := orf_some E
    refine r_getR dX12_takesWord_27 FX12_25 g3 ea5 ?_
    refine q_iload dX12_takesWord_30 rfl ?_
    obtain ⟨g6, E⟩ := grd_some E
    obtain ⟨g7, E⟩ := grd_some E
    refine r_caload dX12_takesWord_32 g6 g7 ?_
    refine q_bipush (v := (Int32.ofInt 97)) dX12_takesWord_33 (by decide) ?_
    refine q_isub dX12_takesWord_35 ?_
    obtain ⟨g9, E⟩ := grd_some E
    obtain ⟨g10, E⟩ := grd_some E
    obtain ⟨h8, eh8, E⟩ := bnd_x E
    refine r_iastore (hh := eh8) dX12_takesWord_36 g9 g10 ?_
    refine q_iload_n dX12_takesWord_37 rfl ?_
    refine q_aload_n dX12_takesWord_38 rfl ?_
    obtain ⟨g11, E⟩ := grd_some E
    obtain ⟨a12, ea12, E⟩ := orf_some E
    refine r_getR dX12_takesWord_39 FX12_25 g11 ea12 ?_
    refine q_iload dX12_takesWord_42 rfl ?_
    obtain ⟨g13, E⟩ := grd_some E
    obtain ⟨g14, E⟩ := grd_some E
    refine r_caload dX12_takesWord_44 g13 g14 ?_
    refine q_bipush (v := (Int32.ofInt 97)) dX12_takesWord_45 (by decide) ?_
    refine q_bipush (v := (Int32.ofInt 99)) dX12_takesWord_47 (by decide) ?_
    obtain ⟨x16, h15, hc, E⟩ := cal_some E
    refine r_callS3 (mc := 0) (ms := 0) dX12_takesWord_49 KX12_132 (c_X12_isBetween hc) (by decide) (Nat.le_of_ble_eq_true rfl) (fun _ _ q => q.elim) ?_
    rintro _ _ ⟨rfl, rfl⟩
    clear hc
    refine q_iand dX12_takesWord_52 ?_
    obtain ⟨x17, ex17, E⟩ := bnd_x E
    refine r_istore_n dX12_takesWord_53 (by decide) ex17 (ls' := [some (.ref p0), some (.int v1), some (.int v2), some (.int x17), some (.int v4)]) rfl ?_
    obtain ⟨x18, ex18, E⟩ := bnd_x E
    refine r_iinc (v := x18) dX12_takesWord_54 rfl ex18 (by decide) (ls' := [some (.ref p0), some (.int v1), some (.int v2), some (.int x17), some (.int x18)]) rfl ?_
    refine q_goto (tgt := 12) dX12_takesWord_57 (by decide) ?_
    cases E
    exact r_fewer [some (.ref p0), some (.int v1), some (.int v2), some (.int x17), some (.int x18)] (ls_s (ls_s (ls_s (ls_s (ls_s ls_0))))) hK
theorem s_X12_takesWord_12 {l : Launch} {G : va_G × (Nat → ClassId)} {Q : Option Value → mH → Prop} {X : String → mH → Prop} (p0 : Nat) (v1 : Int32) (v2 : Int32) (v3 : Int32) (v4 : Int32) (h : mH) {o : Int32 × mH} (E : g_X12_takesWord_12 p0 v1 v2 v3 v4 h = some o) (hK : (fiI Q) o) : mW l G m_X12_takesWord 1 0 0 12 [some (.ref p0), some (.int v1), some (.int v2), some (.int v3), some (.int v4)] [] h Q X :=
  (lp_go (w_X12_takesWord_12 l G Q X p0 v1 v2) (fiI Q) (b_X12_takesWord_12 p0 v1 v2) (fun s o E hK => sb_X12_takesWord_12 p0 v1 v2 s.1 s.2.1 (s.2.2) E hK) _ _ _ E hK : w_X12_takesWord_12 l G Q X p0 v1 v2 (v3, v4, h))
set_option maxRecDepth 100000 in
set_option maxHeartbeats 4000000 in
theorem s_X12_takesWord_0 {l : Launch} {G : va_G × (Nat → ClassId)} {Q : Option Value → mH → Prop} {X : String → mH → Prop} (p0 : Nat) (v1 : Int32) (v2 : Int32) (h : mH) {o : Int32 × mH} (E : f_X12_takesWord p0 v1 v2 h = some o) (hK : (fiI Q) o) : mW l G m_X12_takesWord 1 0 0 0 [some (.ref p0), some (.int v1), some (.int v2), none, none] [] h Q X := by
  unfold f_X12_takesWord at E
  refine q_aload_n dX12_takesWord_0 rfl ?_
  refine q_iload_n dX12_takesWord_1 rfl ?_
  refine q_iload_n dX12_takesWord_2 rfl ?_
  refine q_isub dX12_takesWord_3 ?_
  obtain ⟨g1, E⟩ := grd_some E
  obtain ⟨h2, eh2, E⟩ := bnd_x E
  refine r_putI (hh := eh2) dX12_takesWord_4 FX12_236 g1 rfl rfl ?_
  refine q_iconst dX12_takesWord_7 ?_
  refine r_istore_n dX12_takesWord_8 (by decide) rfl (ls' := [some (.ref p0), some (.int v1), some (.int v2), some (.int (Int32.ofInt 1)), none]) rfl ?_
  refine q_iload_n dX12_takesWord_9 rfl ?_
  refine r_istore dX12_takesWord_10 (by decide) rfl (ls' := [some (.ref p0), some (.int v1), some (.int v2), some (.int (Int32.ofInt 1)), some (.int v1)]) rfl ?_
  exact r_fewer [some (.ref p0), some (.int v1), some (.int v2), some (.int (Int32.ofInt 1)), some (.int v1)] (ls_s (ls_s (ls_s (ls_s (ls_s ls_0))))) (s_X12_takesWord_12 p0 v1 v2 (Int32.ofInt 1) v1 h2 E hK)
theorem c_X12_takesWord {l : Launch} {G : va_G × (Nat → ClassId)} {p0 : Nat} {v1 : Int32} {v2 : Int32} {h h' : mH} {r : Int32} (E : f_X12_takesWord p0 v1 v2 h = some (r, h')) : mMet l G m_X12_takesWord 1 0 0 [.ref p0, .int v1, .int v2] h (fun v k => v = some (.int r) ∧ h' = k) (fun _ _ => False) :=
  mMet_of (by decide +kernel) rfl (ac_c rfl (ac_c rfl (ac_c rfl ac_0))) (Nat.le_of_ble_eq_true rfl) (s_X12_takesWord_0 p0 v1 v2 h E (And.intro rfl rfl))
set_option maxRecDepth 100000 in
set_option maxHeartbeats 4000000 in
theorem s_X12_notWord_17 {l : Launch} {G : va_G × (Nat → ClassId)} {Q : Option Value → mH → Prop} {X : String → mH → Prop} (h : mH) {o : Int32 × mH} (E : g_X12_notWord_17  h = some o) (hK : (fiI Q) o) : mW l G m_X12_notWord 1 0 0 17 [none, none] [] h Q X := by
  unfold g_X12_notWord_17 at E
  refine q_iconst dX12_notWord_17 ?_
  cases E
  exact q_ireturn dX12_notWord_18 rfl hK
set_option maxRecDepth 100000 in
set_option maxHeartbeats 4000000 in
theorem s_X12_notWord_35 {l : Launch} {G : va_G × (Nat → ClassId)} {Q : Option Value → mH → Prop} {X : String → mH → Prop} (s0 : Int32) (h : mH) {o : Int32 × mH} (E : g_X12_notWord_35 s0 h = some o) (hK : (fiI Q) o) : mW l G m_X12_notWord 1 0 0 35 [none, none] [.int s0] h Q X := by
  unfold g_X12_notWord_35 at E
  cases E
  exact q_ireturn dX12_notWord_35 rfl hK
set_option maxRecDepth 100000 in
set_option maxHeartbeats 4000000 in
theorem s_X12_notWord_0 {l : Launch} {G : va_G × (Nat → ClassId)} {Q : Option Value → mH → Prop} {X : String → mH → Prop} (p0 : Nat) (v1 : Int32) (h : mH) {o : Int32 × mH} (E : f_X12_notWord p0 v1 h = some o) (hK : (fiI Q) o) : mW l G m_X12_notWord 1 0 0 0 [some (.ref p0), some (.int v1)] [] h Q X := by
  unfold f_X12_notWord at E
  refine q_iload_n dX12_notWord_0 rfl ?_
  refine q_if_eq (tgt := 17) dX12_notWord_1 (by decide) (fun z1 => ?_) (fun z1 => ?_)
  · replace E := ite_t E z1
    exact r_fewer [none, none] (ls_n (ls_n ls_0)) (s_X12_notWord_17 h E hK)
  · replace E := ite_f E z1
    refine q_aload_n dX12_notWord_4 rfl ?_
    obtain ⟨g2, E⟩ := grd_some E
    refine r_getI dX12_notWord_5 FX12_236 g2 ?_
    refine q_iconst dX12_notWord_8 ?_
    refine q_bipush (v := (Int32.ofInt 8)) dX12_notWord_9 (by decide) ?_
    obtain ⟨x4, h3, hc, E⟩ := cal_some E
    refine r_callS3 (mc := 0) (ms := 0) dX12_notWord_11 KX12_132 (c_X12_isBetween hc) (by decide) (Nat.le_of_ble_eq_true rfl) (fun _ _ q => q.elim) ?_
    rintro _ _ ⟨rfl, rfl⟩
    clear hc
    refine q_if_ne (tgt := 19) dX12_notWord_14 (by decide) (fun z5 => ?_) (fun z5 => ?_)
    · replace E := ite_f E z5
      refine q_aload_n dX12_notWord_19 rfl ?_
      obtain ⟨g6, E⟩ := grd_some E
      obtain ⟨a7, ea7, E⟩ := orf_some E
      refine r_getR dX12_notWord_20 FX12_7 g6 ea7 ?_
      refine q_iconst dX12_notWord_23 ?_
      obtain ⟨g8, E⟩ := grd_some E
      obtain ⟨g9, E⟩ := grd_some E
      refine r_iaload dX12_notWord_24 g8 g9 ?_
      refine q_bipush (v := (Int32.ofInt 8)) dX12_notWord_25 (by decide) ?_
      refine q_icmp_ne (tgt := 34) dX12_notWord_27 (by decide) (fun z10 => ?_) (fun z10 => ?_)
      · replace E := ite_f E z10
        refine q_iconst dX12_notWord_34 ?_
        exact r_fewer [none, none] (ls_n (ls_n ls_0)) (s_X12_notWord_35 (Int32.ofInt 0) h3 E hK)
      · replace E := ite_t E z10
        refine q_iconst dX12_notWord_30 ?_
        refine q_goto (tgt := 35) dX12_notWord_31 (by decide) ?_
        exact r_fewer [none, none] (ls_n (ls_n ls_0)) (s_X12_notWord_35 (Int32.ofInt 2) h3 E hK)
    · replace E := ite_t E z5
      exact r_fewer [none, none] (ls_n (ls_n ls_0)) (s_X12_notWord_17 h3 E hK)
theorem c_X12_notWord {l : Launch} {G : va_G × (Nat → ClassId)} {p0 : Nat} {v1 : Int32} {h h' : mH} {r : Int32} (E : f_X12_notWord p0 v1 h = some (r, h')) : mMet l G m_X12_notWord 1 0 0 [.ref p0, .int v1] h (fun v k => v = some (.int r) ∧ h' = k) (fun _ _ => False) :=
  mMet_of (by decide +kernel) rfl (ac_c rfl (ac_c rfl ac_0)) (Nat.le_of_ble_eq_true rfl) (s_X12_notWord_0 p0 v1 h E (And.intro rfl rfl))
