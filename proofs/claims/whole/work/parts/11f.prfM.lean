set_option maxRecDepth 100000 in
set_option maxHeartbeats 4000000 in
theorem s_X12_tellsLevel_79 {l : Launch} {G : mG} {Q : Option Value → mH → Prop} {X : String → mH → Prop} (p0 : Nat) (v1 : Int32) (v2 : Int32) (v3 : Int32) (h : mH) {o : ((Int32 × mH) ⊕ ((Int32 × mH) ⊕ (Int32 × mH)))} (E : g_X12_tellsLevel_79 p0 v1 v2 v3 h = some o) (hK : (lpK (w_X12_tellsLevel_14 l G Q X p0 v1 v2) (lpK (w_X12_tellsLevel_2 l G Q X p0 v1) (fiI Q))) o) : mW l G m_X12_tellsLevel 2 0 0 79 [some (.ref p0), some (.int v1), some (.int v2), some (.int v3), none] [] h Q X := by
  unfold g_X12_tellsLevel_79 at E
  replace E := bnd_x E
  obtain ⟨x1, ex1, E⟩ := E
  refine r_iinc (v := x1) dX12_tellsLevel_79 rfl ex1 (by decide) (ls' := [some (.ref p0), some (.int v1), some (.int v2), some (.int x1), none]) rfl ?_
  refine q_goto (tgt := 14) dX12_tellsLevel_82 (by decide) ?_
  cases E
  exact r_fewer [some (.ref p0), some (.int v1), some (.int v2), some (.int x1), none] (ls_s (ls_s (ls_s (ls_s (ls_n ls_0))))) hK
set_option maxRecDepth 100000 in
set_option maxHeartbeats 4000000 in
theorem sb_X12_tellsLevel_14 {l : Launch} {G : mG} {Q : Option Value → mH → Prop} {X : String → mH → Prop} (p0 : Nat) (v1 : Int32) (v2 : Int32) (v3 : Int32) (h : mH) {o : ((Int32 × mH) ⊕ ((Int32 × mH) ⊕ (Int32 × mH)))} (E : b0_X12_tellsLevel_14 p0 v1 v2 v3 h = some o) (hK : (lpK (w_X12_tellsLevel_14 l G Q X p0 v1 v2) (lpK (w_X12_tellsLevel_2 l G Q X p0 v1) (fiI Q))) o) : mW l G m_X12_tellsLevel 2 0 0 14 [some (.ref p0), some (.int v1), some (.int v2), some (.int v3), none] [] h Q X := by
  unfold b0_X12_tellsLevel_14 at E
  refine q_iload_n dX12_tellsLevel_14 rfl ?_
  refine q_aload_n dX12_tellsLevel_15 rfl ?_
  replace E := grd_some E
  obtain ⟨g1, E⟩ := E
  replace E := orf_some E
  obtain ⟨a2, ea2, E⟩ := E
  refine r_getR dX12_tellsLevel_16 FX12_75 g1 ea2 ?_
  refine q_iconst dX12_tellsLevel_19 ?_
  replace E := grd_some E
  obtain ⟨g3, E⟩ := E
  replace E := grd_some E
  obtain ⟨g4, E⟩ := E
  refine r_iaload dX12_tellsLevel_20 g3 g4 ?_
  refine q_icmp_ge (tgt := 85) dX12_tellsLevel_21 (by decide) (fun z5 => ?_) (fun z5 => ?_)
  · replace E := ite_t E z5
    replace E := bnd_x E
    obtain ⟨x6, ex6, E⟩ := E
    refine r_iinc (v := x6) dX12_tellsLevel_85 rfl ex6 (by decide) (ls' := [some (.ref p0), some (.int v1), some (.int x6), some (.int v3), none]) rfl ?_
    refine q_goto (tgt := 2) dX12_tellsLevel_88 (by decide) ?_
    cases E
    exact r_fewer [some (.ref p0), some (.int v1), some (.int x6), none, none] (ls_s (ls_s (ls_s (ls_n (ls_n ls_0))))) hK
  · replace E := ite_f E z5
    refine q_aload_n dX12_tellsLevel_24 rfl ?_
    replace E := orf_some E
    obtain ⟨a7, ea7, E⟩ := E
    refine r_getR dX12_tellsLevel_25 FX12_69 g1 ea7 ?_
    refine q_sipush (v := (Int32.ofInt 129)) dX12_tellsLevel_28 (by decide) ?_
    refine q_iload_n dX12_tellsLevel_31 rfl ?_
    refine q_iadd dX12_tellsLevel_32 ?_
    replace E := grd_some E
    obtain ⟨g8, E⟩ := E
    replace E := grd_some E
    obtain ⟨g9, E⟩ := E
    refine r_iaload dX12_tellsLevel_33 g8 g9 ?_
    replace E := bnd_x E
    obtain ⟨x10, ex10, E⟩ := E
    refine r_istore dX12_tellsLevel_34 (by decide) ex10 (ls' := [some (.ref p0), some (.int v1), some (.int v2), some (.int v3), some (.int x10)]) rfl ?_
    refine q_aload_n dX12_tellsLevel_36 rfl ?_
    replace E := orf_some E
    obtain ⟨a11, ea11, E⟩ := E
    refine r_getR dX12_tellsLevel_37 FX12_90 g1 ea11 ?_
    refine q_aload_n dX12_tellsLevel_40 rfl ?_
    refine r_getR dX12_tellsLevel_41 FX12_69 g1 ea7 ?_
    refine q_iload_n dX12_tellsLevel_44 rfl ?_
    replace E := grd_some E
    obtain ⟨g13, E⟩ := E
    refine r_iaload dX12_tellsLevel_45 g8 g13 ?_
    refine q_iload dX12_tellsLevel_46 rfl ?_
    replace E := cal_some E
    obtain ⟨x15, h14, hc, E⟩ := E
    refine r_callS2 (mc := 0) (ms := 0) dX12_tellsLevel_48 KX12_298 (c_X12_row hc) (by decide) (Nat.le_of_ble_eq_true rfl) (fun _ _ q => q.elim) ?_
    rintro _ _ ⟨rfl, rfl⟩
    clear hc
    replace E := grd_some E
    obtain ⟨g16, E⟩ := E
    replace E := grd_some E
    obtain ⟨g17, E⟩ := E
    refine r_iaload dX12_tellsLevel_51 g16 g17 ?_
    refine q_iload dX12_tellsLevel_52 rfl ?_
    replace E := cal_some E
    obtain ⟨x19, h18, hc, E⟩ := E
    refine r_callS1 (mc := 0) (ms := 0) dX12_tellsLevel_54 KX12_301 (c_X12_bit hc) (by decide) (Nat.le_of_ble_eq_true rfl) (fun _ _ q => q.elim) ?_
    rintro _ _ ⟨rfl, rfl⟩
    clear hc
    refine q_iand dX12_tellsLevel_57 ?_
    refine q_if_eq (tgt := 79) dX12_tellsLevel_58 (by decide) (fun z20 => ?_) (fun z20 => ?_)
    · replace E := ite_t E z20
      exact r_fewer [some (.ref p0), some (.int v1), some (.int v2), some (.int v3), none] (ls_s (ls_s (ls_s (ls_s (ls_n ls_0))))) (s_X12_tellsLevel_79 p0 v1 v2 v3 h18 E hK)
    · replace E := ite_f E z20
      refine q_aload_n dX12_tellsLevel_61 rfl ?_
      refine q_aload_n dX12_tellsLevel_62 rfl ?_
      replace E := grd_some E
      obtain ⟨g21, E⟩ := E
      replace E := orf_some E
      obtain ⟨a22, ea22, E⟩ := E
      refine r_getR dX12_tellsLevel_63 FX12_69 g21 ea22 ?_
      refine q_iload_n dX12_tellsLevel_66 rfl ?_
      replace E := grd_some E
      obtain ⟨g23, E⟩ := E
      replace E := grd_some E
      obtain ⟨g24, E⟩ := E
      refine r_iaload dX12_tellsLevel_67 g23 g24 ?_
      refine q_iload dX12_tellsLevel_68 rfl ?_
      refine q_iload_n dX12_tellsLevel_70 rfl ?_
      replace E := cal_some E
      obtain ⟨x26, h25, hc, E⟩ := E
      refine r_callV3 (mc := 0) (ms := 0) dX12_tellsLevel_71 KX12_304 (c_X12_tells hc) g21 (by decide) (Nat.le_of_ble_eq_true rfl) (fun _ _ q => q.elim) ?_
      rintro _ _ ⟨rfl, rfl⟩
      clear hc
      refine q_if_eq (tgt := 79) dX12_tellsLevel_74 (by decide) (fun z27 => ?_) (fun z27 => ?_)
      · replace E := ite_t E z27
        exact r_fewer [some (.ref p0), some (.int v1), some (.int v2), some (.int v3), none] (ls_s (ls_s (ls_s (ls_s (ls_n ls_0))))) (s_X12_tellsLevel_79 p0 v1 v2 v3 h25 E hK)
      · replace E := ite_f E z27
        refine q_iconst dX12_tellsLevel_77 ?_
        cases E
        exact q_zreturn dX12_tellsLevel_78 rfl (by decide) hK
theorem s_X12_tellsLevel_14 {l : Launch} {G : mG} {Q : Option Value → mH → Prop} {X : String → mH → Prop} (p0 : Nat) (v1 : Int32) (v2 : Int32) (v3 : Int32) (h : mH) {o : ((Int32 × mH) ⊕ (Int32 × mH))} (E : g_X12_tellsLevel_14 p0 v1 v2 v3 h = some o) (hK : (lpK (w_X12_tellsLevel_2 l G Q X p0 v1) (fiI Q)) o) : mW l G m_X12_tellsLevel 2 0 0 14 [some (.ref p0), some (.int v1), some (.int v2), some (.int v3), none] [] h Q X :=
  (lp_go (w_X12_tellsLevel_14 l G Q X p0 v1 v2) (lpK (w_X12_tellsLevel_2 l G Q X p0 v1) (fiI Q)) (b_X12_tellsLevel_14 p0 v1 v2) (fun s o E hK => sb_X12_tellsLevel_14 p0 v1 v2 s.1 (s.2) E hK) _ _ _ E hK : w_X12_tellsLevel_14 l G Q X p0 v1 v2 (v3, h))
set_option maxRecDepth 100000 in
set_option maxHeartbeats 4000000 in
theorem sb_X12_tellsLevel_2 {l : Launch} {G : mG} {Q : Option Value → mH → Prop} {X : String → mH → Prop} (p0 : Nat) (v1 : Int32) (v2 : Int32) (h : mH) {o : ((Int32 × mH) ⊕ (Int32 × mH))} (E : b0_X12_tellsLevel_2 p0 v1 v2 h = some o) (hK : (lpK (w_X12_tellsLevel_2 l G Q X p0 v1) (fiI Q)) o) : mW l G m_X12_tellsLevel 2 0 0 2 [some (.ref p0), some (.int v1), some (.int v2), none, none] [] h Q X := by
  unfold b0_X12_tellsLevel_2 at E
  refine q_iload_n dX12_tellsLevel_2 rfl ?_
  refine q_aload_n dX12_tellsLevel_3 rfl ?_
  replace E := grd_some E
  obtain ⟨g1, E⟩ := E
  replace E := orf_some E
  obtain ⟨a2, ea2, E⟩ := E
  refine r_getR dX12_tellsLevel_4 FX12_75 g1 ea2 ?_
  refine q_iconst dX12_tellsLevel_7 ?_
  replace E := grd_some E
  obtain ⟨g3, E⟩ := E
  replace E := grd_some E
  obtain ⟨g4, E⟩ := E
  refine r_iaload dX12_tellsLevel_8 g3 g4 ?_
  refine q_icmp_ge (tgt := 91) dX12_tellsLevel_9 (by decide) (fun z5 => ?_) (fun z5 => ?_)
  · replace E := ite_t E z5
    refine q_iconst dX12_tellsLevel_91 ?_
    cases E
    exact q_zreturn dX12_tellsLevel_92 rfl (by decide) hK
  · replace E := ite_f E z5
    refine q_iconst dX12_tellsLevel_12 ?_
    refine r_istore_n dX12_tellsLevel_13 (by decide) rfl (ls' := [some (.ref p0), some (.int v1), some (.int v2), some (.int (Int32.ofInt 0)), none]) rfl ?_
    exact r_fewer [some (.ref p0), some (.int v1), some (.int v2), some (.int (Int32.ofInt 0)), none] (ls_s (ls_s (ls_s (ls_s (ls_n ls_0))))) (s_X12_tellsLevel_14 p0 v1 v2 (Int32.ofInt 0) h E hK)
theorem s_X12_tellsLevel_2 {l : Launch} {G : mG} {Q : Option Value → mH → Prop} {X : String → mH → Prop} (p0 : Nat) (v1 : Int32) (v2 : Int32) (h : mH) {o : Int32 × mH} (E : g_X12_tellsLevel_2 p0 v1 v2 h = some o) (hK : (fiI Q) o) : mW l G m_X12_tellsLevel 2 0 0 2 [some (.ref p0), some (.int v1), some (.int v2), none, none] [] h Q X :=
  (lp_go (w_X12_tellsLevel_2 l G Q X p0 v1) (fiI Q) (b_X12_tellsLevel_2 p0 v1) (fun s o E hK => sb_X12_tellsLevel_2 p0 v1 s.1 (s.2) E hK) _ _ _ E hK : w_X12_tellsLevel_2 l G Q X p0 v1 (v2, h))
set_option maxRecDepth 100000 in
set_option maxHeartbeats 4000000 in
theorem s_X12_tellsLevel_0 {l : Launch} {G : mG} {Q : Option Value → mH → Prop} {X : String → mH → Prop} (p0 : Nat) (v1 : Int32) (h : mH) {o : Int32 × mH} (E : f_X12_tellsLevel p0 v1 h = some o) (hK : (fiI Q) o) : mW l G m_X12_tellsLevel 2 0 0 0 [some (.ref p0), some (.int v1), none, none, none] [] h Q X := by
  unfold f_X12_tellsLevel at E
  refine q_iconst dX12_tellsLevel_0 ?_
  refine r_istore_n dX12_tellsLevel_1 (by decide) rfl (ls' := [some (.ref p0), some (.int v1), some (.int (Int32.ofInt 0)), none, none]) rfl ?_
  exact r_fewer [some (.ref p0), some (.int v1), some (.int (Int32.ofInt 0)), none, none] (ls_s (ls_s (ls_s (ls_n (ls_n ls_0))))) (s_X12_tellsLevel_2 p0 v1 (Int32.ofInt 0) h E hK)
theorem c_X12_tellsLevel {l : Launch} {G : mG} {p0 : Nat} {v1 : Int32} {h h' : mH} {r : Int32} (E : f_X12_tellsLevel p0 v1 h = some (r, h')) : mMet l G m_X12_tellsLevel 2 0 0 [.ref p0, .int v1] h (fun v k => v = some (.int r) ∧ h' = k) (fun _ _ => False) :=
  mMet_of (by decide +kernel) rfl (ac_c rfl (ac_c rfl ac_0)) (Nat.le_of_ble_eq_true rfl) (s_X12_tellsLevel_0 p0 v1 h E (And.intro rfl rfl))
set_option maxRecDepth 100000 in
set_option maxHeartbeats 4000000 in
theorem sb_X12_apart_67 {l : Launch} {G : mG} {Q : Option Value → mH → Prop} {X : String → mH → Prop} (p0 : Nat) (v3 : Int32) (v4 : Int32) (v5 : Int32) (h : mH) {o : ((Int32 × Int32 × mH) ⊕ (Int32 × mH))} (E : b0_X12_apart_67 p0 v3 v4 v5 h = some o) (hK : (lpK (w_X12_apart_67 l G Q X p0 v3) (fiI Q)) o) : mW l G m_X12_apart 3 0 0 67 [some (.ref p0), none, none, some (.int v3), some (.int v4), some (.int v5)] [] h Q X := by
  unfold b0_X12_apart_67 at E
  refine q_iload dX12_apart_67 rfl ?_
  refine q_if_eq (tgt := 95) dX12_apart_69 (by decide) (fun z1 => ?_) (fun z1 => ?_)
  · replace E := ite_t E z1
    refine q_iconst dX12_apart_95 ?_
    cases E
    exact q_ireturn dX12_apart_96 rfl hK
  · replace E := ite_f E z1
    refine q_aload_n dX12_apart_72 rfl ?_
    refine q_iload_n dX12_apart_73 rfl ?_
    replace E := grd_some E
    obtain ⟨g4, E⟩ := E
    replace E := cal_some E
    obtain ⟨x3, h2, hc, E⟩ := E
    refine r_callV1 (mc := 0) (ms := 0) dX12_apart_74 KX12_308 (c_X12_tellsLevel hc) g4 (by decide) (Nat.le_of_ble_eq_true rfl) (fun _ _ q => q.elim) ?_
    rintro _ _ ⟨rfl, rfl⟩
    clear hc
    refine q_if_eq (tgt := 83) dX12_apart_77 (by decide) (fun z5 => ?_) (fun z5 => ?_)
    · replace E := ite_t E z5
      refine q_aload_n dX12_apart_83 rfl ?_
      replace E := grd_some E
      obtain ⟨g8, E⟩ := E
      replace E := cal_some E
      obtain ⟨x7, h6, hc, E⟩ := E
      refine r_callV0 (mc := 0) (ms := 0) dX12_apart_84 KX12_312 (c_X12_goesOn hc) g8 (by decide) (Nat.le_of_ble_eq_true rfl) (fun _ _ q => q.elim) ?_
      rintro _ _ ⟨rfl, rfl⟩
      clear hc
      refine r_istore dX12_apart_87 (by decide) rfl (ls' := [some (.ref p0), none, none, some (.int v3), some (.int v4), some (.int x7)]) rfl ?_
      replace E := bnd_x E
      obtain ⟨x9, ex9, E⟩ := E
      refine r_iinc (v := x9) dX12_apart_89 rfl ex9 (by decide) (ls' := [some (.ref p0), none, none, some (.int v3), some (.int x9), some (.int x7)]) rfl ?_
      refine q_goto (tgt := 67) dX12_apart_92 (by decide) ?_
      cases E
      exact r_fewer [some (.ref p0), none, none, some (.int v3), some (.int x9), some (.int x7)] (ls_s (ls_n (ls_n (ls_s (ls_s (ls_s ls_0)))))) hK
    · replace E := ite_f E z5
      refine q_iload dX12_apart_80 rfl ?_
      cases E
      exact q_ireturn dX12_apart_82 rfl hK
theorem s_X12_apart_67 {l : Launch} {G : mG} {Q : Option Value → mH → Prop} {X : String → mH → Prop} (p0 : Nat) (v3 : Int32) (v4 : Int32) (v5 : Int32) (h : mH) {o : Int32 × mH} (E : g_X12_apart_67 p0 v3 v4 v5 h = some o) (hK : (fiI Q) o) : mW l G m_X12_apart 3 0 0 67 [some (.ref p0), none, none, some (.int v3), some (.int v4), some (.int v5)] [] h Q X :=
  (lp_go (w_X12_apart_67 l G Q X p0 v3) (fiI Q) (b_X12_apart_67 p0 v3) (fun s o E hK => sb_X12_apart_67 p0 v3 s.1 s.2.1 (s.2.2) E hK) _ _ _ E hK : w_X12_apart_67 l G Q X p0 v3 (v4, v5, h))
set_option maxRecDepth 100000 in
set_option maxHeartbeats 4000000 in
theorem sb_X12_apart_3 {l : Launch} {G : mG} {Q : Option Value → mH → Prop} {X : String → mH → Prop} (p0 : Nat) (v1 : Int32) (v2 : Int32) (v3 : Int32) (v4 : Int32) (h : mH) {o : ((Int32 × mH) ⊕ (Int32 × mH))} (E : b0_X12_apart_3 p0 v1 v2 v3 v4 h = some o) (hK : (lpK (w_X12_apart_3 l G Q X p0 v1 v2 v3) (fiI Q)) o) : mW l G m_X12_apart 3 0 0 3 [some (.ref p0), some (.int v1), some (.int v2), some (.int v3), some (.int v4), none] [] h Q X := by
  unfold b0_X12_apart_3 at E
  refine q_iload dX12_apart_3 rfl ?_
  refine q_sipush (v := (Int32.ofInt 645)) dX12_apart_5 (by decide) ?_
  refine q_icmp_ge (tgt := 33) dX12_apart_8 (by decide) (fun z1 => ?_) (fun z1 => ?_)
  · replace E := ite_t E z1
    refine q_aload_n dX12_apart_33 rfl ?_
    replace E := grd_some E
    obtain ⟨g2, E⟩ := E
    replace E := orf_some E
    obtain ⟨a3, ea3, E⟩ := E
    refine r_getR dX12_apart_34 FX12_87 g2 ea3 ?_
    refine q_iload_n dX12_apart_37 rfl ?_
    refine q_iload_n dX12_apart_38 rfl ?_
    replace E := cal_some E
    obtain ⟨x5, h4, hc, E⟩ := E
    refine r_callS2 (mc := 0) (ms := 0) dX12_apart_39 KX12_298 (c_X12_row hc) (by decide) (Nat.le_of_ble_eq_true rfl) (fun _ _ q => q.elim) ?_
    rintro _ _ ⟨rfl, rfl⟩
    clear hc
    refine q_iload_n dX12_apart_42 rfl ?_
    replace E := cal_some E
    obtain ⟨x7, h6, hc, E⟩ := E
    refine r_callS1 (mc := 0) (ms := 0) dX12_apart_43 KX12_301 (c_X12_bit hc) (by decide) (Nat.le_of_ble_eq_true rfl) (fun _ _ q => q.elim) ?_
    rintro _ _ ⟨rfl, rfl⟩
    clear hc
    replace E := grd_some E
    obtain ⟨g9, E⟩ := E
    replace E := grd_some E
    obtain ⟨g10, E⟩ := E
    replace E := bnd_x E
    obtain ⟨h8, eh8, E⟩ := E
    refine r_iastore (hh := eh8) dX12_apart_46 g9 g10 ?_
    refine q_aload_n dX12_apart_47 rfl ?_
    replace E := grd_some E
    obtain ⟨g11, E⟩ := E
    replace E := orf_some E
    obtain ⟨a12, ea12, E⟩ := E
    refine r_getR dX12_apart_48 FX12_90 g11 ea12 ?_
    refine q_iload_n dX12_apart_51 rfl ?_
    refine q_iload_n dX12_apart_52 rfl ?_
    replace E := cal_some E
    obtain ⟨x14, h13, hc, E⟩ := E
    refine r_callS2 (mc := 0) (ms := 0) dX12_apart_53 KX12_298 (c_X12_row hc) (by decide) (Nat.le_of_ble_eq_true rfl) (fun _ _ q => q.elim) ?_
    rintro _ _ ⟨rfl, rfl⟩
    clear hc
    refine q_iload_n dX12_apart_56 rfl ?_
    replace E := cal_some E
    obtain ⟨x16, h15, hc, E⟩ := E
    refine r_callS1 (mc := 0) (ms := 0) dX12_apart_57 KX12_301 (c_X12_bit hc) (by decide) (Nat.le_of_ble_eq_true rfl) (fun _ _ q => q.elim) ?_
    rintro _ _ ⟨rfl, rfl⟩
    clear hc
    replace E := grd_some E
    obtain ⟨g18, E⟩ := E
    replace E := grd_some E
    obtain ⟨g19, E⟩ := E
    replace E := bnd_x E
    obtain ⟨h17, eh17, E⟩ := E
    refine r_iastore (hh := eh17) dX12_apart_60 g18 g19 ?_
    refine q_iconst dX12_apart_61 ?_
    refine r_istore dX12_apart_62 (by decide) rfl (ls' := [some (.ref p0), some (.int v1), some (.int v2), some (.int v3), some (.int (Int32.ofInt 0)), none]) rfl ?_
    refine q_iconst dX12_apart_64 ?_
    refine r_istore dX12_apart_65 (by decide) rfl (ls' := [some (.ref p0), some (.int v1), some (.int v2), some (.int v3), some (.int (Int32.ofInt 0)), some (.int (Int32.ofInt 1))]) rfl ?_
    obtain ⟨o0, E0, rfl⟩ := inrO_some E
    exact r_fewer [some (.ref p0), none, none, some (.int v3), some (.int (Int32.ofInt 0)), some (.int (Int32.ofInt 1))] (ls_s (ls_n (ls_n (ls_s (ls_s (ls_s ls_0)))))) (s_X12_apart_67 p0 v3 (Int32.ofInt 0) (Int32.ofInt 1) h17 E0 hK)
  · replace E := ite_f E z1
    refine q_aload_n dX12_apart_11 rfl ?_
    replace E := grd_some E
    obtain ⟨g20, E⟩ := E
    replace E := orf_some E
    obtain ⟨a21, ea21, E⟩ := E
    refine r_getR dX12_apart_12 FX12_87 g20 ea21 ?_
    refine q_iload dX12_apart_15 rfl ?_
    refine q_iconst dX12_apart_17 ?_
    replace E := grd_some E
    obtain ⟨g23, E⟩ := E
    replace E := grd_some E
    obtain ⟨g24, E⟩ := E
    replace E := bnd_x E
    obtain ⟨h22, eh22, E⟩ := E
    refine r_iastore (hh := eh22) dX12_apart_18 g23 g24 ?_
    refine q_aload_n dX12_apart_19 rfl ?_
    replace E := grd_some E
    obtain ⟨g25, E⟩ := E
    replace E := orf_some E
    obtain ⟨a26, ea26, E⟩ := E
    refine r_getR dX12_apart_20 FX12_90 g25 ea26 ?_
    refine q_iload dX12_apart_23 rfl ?_
    refine q_iconst dX12_apart_25 ?_
    replace E := grd_some E
    obtain ⟨g28, E⟩ := E
    replace E := grd_some E
    obtain ⟨g29, E⟩ := E
    replace E := bnd_x E
    obtain ⟨h27, eh27, E⟩ := E
    refine r_iastore (hh := eh27) dX12_apart_26 g28 g29 ?_
    replace E := bnd_x E
    obtain ⟨x30, ex30, E⟩ := E
    refine r_iinc (v := x30) dX12_apart_27 rfl ex30 (by decide) (ls' := [some (.ref p0), some (.int v1), some (.int v2), some (.int v3), some (.int x30), none]) rfl ?_
    refine q_goto (tgt := 3) dX12_apart_30 (by decide) ?_
    cases E
    exact r_fewer [some (.ref p0), some (.int v1), some (.int v2), some (.int v3), some (.int x30), none] (ls_s (ls_s (ls_s (ls_s (ls_s (ls_n ls_0)))))) hK
theorem s_X12_apart_3 {l : Launch} {G : mG} {Q : Option Value → mH → Prop} {X : String → mH → Prop} (p0 : Nat) (v1 : Int32) (v2 : Int32) (v3 : Int32) (v4 : Int32) (h : mH) {o : Int32 × mH} (E : g_X12_apart_3 p0 v1 v2 v3 v4 h = some o) (hK : (fiI Q) o) : mW l G m_X12_apart 3 0 0 3 [some (.ref p0), some (.int v1), some (.int v2), some (.int v3), some (.int v4), none] [] h Q X :=
  (lp_go (w_X12_apart_3 l G Q X p0 v1 v2 v3) (fiI Q) (b_X12_apart_3 p0 v1 v2 v3) (fun s o E hK => sb_X12_apart_3 p0 v1 v2 v3 s.1 (s.2) E hK) _ _ _ E hK : w_X12_apart_3 l G Q X p0 v1 v2 v3 (v4, h))
set_option maxRecDepth 100000 in
set_option maxHeartbeats 4000000 in
theorem s_X12_apart_0 {l : Launch} {G : mG} {Q : Option Value → mH → Prop} {X : String → mH → Prop} (p0 : Nat) (v1 : Int32) (v2 : Int32) (v3 : Int32) (h : mH) {o : Int32 × mH} (E : f_X12_apart p0 v1 v2 v3 h = some o) (hK : (fiI Q) o) : mW l G m_X12_apart 3 0 0 0 [some (.ref p0), some (.int v1), some (.int v2), some (.int v3), none, none] [] h Q X := by
  unfold f_X12_apart at E
  refine q_iconst dX12_apart_0 ?_
  refine r_istore dX12_apart_1 (by decide) rfl (ls' := [some (.ref p0), some (.int v1), some (.int v2), some (.int v3), some (.int (Int32.ofInt 0)), none]) rfl ?_
  exact r_fewer [some (.ref p0), some (.int v1), some (.int v2), some (.int v3), some (.int (Int32.ofInt 0)), none] (ls_s (ls_s (ls_s (ls_s (ls_s (ls_n ls_0)))))) (s_X12_apart_3 p0 v1 v2 v3 (Int32.ofInt 0) h E hK)
theorem c_X12_apart {l : Launch} {G : mG} {p0 : Nat} {v1 : Int32} {v2 : Int32} {v3 : Int32} {h h' : mH} {r : Int32} (E : f_X12_apart p0 v1 v2 v3 h = some (r, h')) : mMet l G m_X12_apart 3 0 0 [.ref p0, .int v1, .int v2, .int v3] h (fun v k => v = some (.int r) ∧ h' = k) (fun _ _ => False) :=
  mMet_of (by decide +kernel) rfl (ac_c rfl (ac_c rfl (ac_c rfl (ac_c rfl ac_0)))) (Nat.le_of_ble_eq_true rfl) (s_X12_apart_0 p0 v1 v2 v3 h E (And.intro rfl rfl))
set_option maxRecDepth 100000 in
set_option maxHeartbeats 4000000 in
theorem s_X12_apartSlots_0 {l : Launch} {G : mG} {Q : Option Value → mH → Prop} {X : String → mH → Prop} (p0 : Nat) (v1 : Int32) (v2 : Int32) (v3 : Int32) (h : mH) {o : Int32 × mH} (E : f_X12_apartSlots p0 v1 v2 v3 h = some o) (hK : (fiI Q) o) : mW l G m_X12_apartSlots 4 0 0 0 [some (.ref p0), some (.int v1), some (.int v2), some (.int v3)] [] h Q X := by
  unfold f_X12_apartSlots at E
  refine q_aload_n dX12_apartSlots_0 rfl ?_
  refine q_iconst dX12_apartSlots_1 ?_
  refine q_iload_n dX12_apartSlots_2 rfl ?_
  replace E := grd_some E
  obtain ⟨g3, E⟩ := E
  replace E := cal_some E
  obtain ⟨_, h1, hc, E⟩ := E
  refine r_callV2 (mc := 0) (ms := 0) dX12_apartSlots_3 KX12_280 (c_X12_builds hc) g3 (by decide) (Nat.le_of_ble_eq_true rfl) (fun _ _ q => q.elim) ?_
  rintro _ _ ⟨rfl, rfl⟩
  clear hc
  refine q_aload_n dX12_apartSlots_6 rfl ?_
  refine q_iconst dX12_apartSlots_7 ?_
  refine q_iload_n dX12_apartSlots_8 rfl ?_
  replace E := grd_some E
  obtain ⟨g6, E⟩ := E
  replace E := cal_some E
  obtain ⟨_, h4, hc, E⟩ := E
  refine r_callV2 (mc := 0) (ms := 0) dX12_apartSlots_9 KX12_280 (c_X12_builds hc) g6 (by decide) (Nat.le_of_ble_eq_true rfl) (fun _ _ q => q.elim) ?_
  rintro _ _ ⟨rfl, rfl⟩
  clear hc
  refine q_aload_n dX12_apartSlots_12 rfl ?_
  refine q_iconst dX12_apartSlots_13 ?_
  replace E := grd_some E
  obtain ⟨g9, E⟩ := E
  replace E := cal_some E
  obtain ⟨_, h7, hc, E⟩ := E
  refine r_callV1 (mc := 0) (ms := 0) dX12_apartSlots_14 KX12_283 (c_X12_reaches hc) g9 (by decide) (Nat.le_of_ble_eq_true rfl) (fun _ _ q => q.elim) ?_
  rintro _ _ ⟨rfl, rfl⟩
  clear hc
  refine q_aload_n dX12_apartSlots_17 rfl ?_
  refine q_iconst dX12_apartSlots_18 ?_
  replace E := grd_some E
  obtain ⟨g12, E⟩ := E
  replace E := cal_some E
  obtain ⟨_, h10, hc, E⟩ := E
  refine r_callV1 (mc := 0) (ms := 0) dX12_apartSlots_19 KX12_283 (c_X12_reaches hc) g12 (by decide) (Nat.le_of_ble_eq_true rfl) (fun _ _ q => q.elim) ?_
  rintro _ _ ⟨rfl, rfl⟩
  clear hc
  refine q_aload_n dX12_apartSlots_22 rfl ?_
  refine q_sipush (v := (Int32.ofInt 128)) dX12_apartSlots_23 (by decide) ?_
  refine q_sipush (v := (Int32.ofInt 128)) dX12_apartSlots_26 (by decide) ?_
  refine q_iload_n dX12_apartSlots_29 rfl ?_
  replace E := grd_some E
  obtain ⟨g15, E⟩ := E
  replace E := cal_some E
  obtain ⟨x14, h13, hc, E⟩ := E
  refine r_callV3 (mc := 0) (ms := 0) dX12_apartSlots_30 KX12_315 (c_X12_apart hc) g15 (by decide) (Nat.le_of_ble_eq_true rfl) (fun _ _ q => q.elim) ?_
  rintro _ _ ⟨rfl, rfl⟩
  clear hc
  cases E
  exact q_ireturn dX12_apartSlots_33 rfl hK
theorem c_X12_apartSlots {l : Launch} {G : mG} {p0 : Nat} {v1 : Int32} {v2 : Int32} {v3 : Int32} {h h' : mH} {r : Int32} (E : f_X12_apartSlots p0 v1 v2 v3 h = some (r, h')) : mMet l G m_X12_apartSlots 4 0 0 [.ref p0, .int v1, .int v2, .int v3] h (fun v k => v = some (.int r) ∧ h' = k) (fun _ _ => False) :=
  mMet_of (by decide +kernel) rfl (ac_c rfl (ac_c rfl (ac_c rfl (ac_c rfl ac_0)))) (Nat.le_of_ble_eq_true rfl) (s_X12_apartSlots_0 p0 v1 v2 v3 h E (And.intro rfl rfl))
set_option maxRecDepth 100000 in
set_option maxHeartbeats 4000000 in
theorem s_X12_patternCount_0 {l : Launch} {G : mG} {Q : Option Value → mH → Prop} {X : String → mH → Prop} (p0 : Nat) (h : mH) {o : Int32 × mH} (E : f_X12_patternCount p0 h = some o) (hK : (fiI Q) o) : mW l G m_X12_patternCount 2 0 0 0 [some (.ref p0)] [] h Q X := by
  unfold f_X12_patternCount at E
  refine q_aload_n dX12_patternCount_0 rfl ?_
  refine q_iconst dX12_patternCount_1 ?_
  replace E := grd_some E
  obtain ⟨g1, E⟩ := E
  replace E := bnd_x E
  obtain ⟨h2, eh2, E⟩ := E
  refine r_putI (hh := eh2) dX12_patternCount_2 FX12_117 g1 rfl rfl ?_
  refine q_aload_n dX12_patternCount_5 rfl ?_
  replace E := grd_some E
  obtain ⟨g5, E⟩ := E
  replace E := cal_some E
  obtain ⟨x4, h3, hc, E⟩ := E
  refine r_callV0 (mc := 0) (ms := 0) dX12_patternCount_6 KX12_227 (c_X12_patterns hc) g5 (by decide) (Nat.le_of_ble_eq_true rfl) (fun _ _ q => q.elim) ?_
  rintro _ _ ⟨rfl, rfl⟩
  clear hc
  cases E
  exact q_ireturn dX12_patternCount_9 rfl hK
theorem c_X12_patternCount {l : Launch} {G : mG} {p0 : Nat} {h h' : mH} {r : Int32} (E : f_X12_patternCount p0 h = some (r, h')) : mMet l G m_X12_patternCount 2 0 0 [.ref p0] h (fun v k => v = some (.int r) ∧ h' = k) (fun _ _ => False) :=
  mMet_of (by decide +kernel) rfl (ac_c rfl ac_0) (Nat.le_of_ble_eq_true rfl) (s_X12_patternCount_0 p0 h E (And.intro rfl rfl))
set_option maxRecDepth 100000 in
set_option maxHeartbeats 4000000 in
theorem s_X12_hasPattern_25 {l : Launch} {G : mG} {Q : Option Value → mH → Prop} {X : String → mH → Prop} (s0 : Int32) (h : mH) {o : Int32 × mH} (E : g_X12_hasPattern_25 s0 h = some o) (hK : (fiI Q) o) : mW l G m_X12_hasPattern 3 0 0 25 [none, none] [.int s0] h Q X := by
  unfold g_X12_hasPattern_25 at E
  replace E := grd_some E
  obtain ⟨g1, E⟩ := E
  cases E
  exact q_zreturn dX12_hasPattern_25 rfl (narZ g1) hK
set_option maxRecDepth 100000 in
set_option maxHeartbeats 4000000 in
theorem s_X12_hasPattern_0 {l : Launch} {G : mG} {Q : Option Value → mH → Prop} {X : String → mH → Prop} (p0 : Nat) (v1 : Int32) (h : mH) {o : Int32 × mH} (E : f_X12_hasPattern p0 v1 h = some o) (hK : (fiI Q) o) : mW l G m_X12_hasPattern 3 0 0 0 [some (.ref p0), some (.int v1)] [] h Q X := by
  unfold f_X12_hasPattern at E
  refine q_aload_n dX12_hasPattern_0 rfl ?_
  refine q_iconst dX12_hasPattern_1 ?_
  replace E := grd_some E
  obtain ⟨g1, E⟩ := E
  replace E := bnd_x E
  obtain ⟨h2, eh2, E⟩ := E
  refine r_putI (hh := eh2) dX12_hasPattern_2 FX12_117 g1 rfl rfl ?_
  refine q_iload_n dX12_hasPattern_5 rfl ?_
  replace E := cal_some E
  obtain ⟨x4, h3, hc, E⟩ := E
  refine r_callS1 (mc := 0) (ms := 0) dX12_hasPattern_6 KX12_136 (c_X12_isSlot hc) (by decide) (Nat.le_of_ble_eq_true rfl) (fun _ _ q => q.elim) ?_
  rintro _ _ ⟨rfl, rfl⟩
  clear hc
  refine q_if_ne (tgt := 26) dX12_hasPattern_9 (by decide) (fun z5 => ?_) (fun z5 => ?_)
  · replace E := ite_f E z5
    refine q_aload_n dX12_hasPattern_26 rfl ?_
    refine q_iload_n dX12_hasPattern_27 rfl ?_
    replace E := grd_some E
    obtain ⟨g8, E⟩ := E
    replace E := cal_some E
    obtain ⟨x7, h6, hc, E⟩ := E
    refine r_callV1 (mc := 0) (ms := 0) dX12_hasPattern_28 KX12_211 (c_X12_holds hc) g8 (by decide) (Nat.le_of_ble_eq_true rfl) (fun _ _ q => q.elim) ?_
    rintro _ _ ⟨rfl, rfl⟩
    clear hc
    replace E := grd_some E
    obtain ⟨g9, E⟩ := E
    cases E
    exact q_zreturn dX12_hasPattern_31 rfl (narZ g9) hK
  · replace E := ite_t E z5
    refine q_aload_n dX12_hasPattern_12 rfl ?_
    refine q_iconst dX12_hasPattern_13 ?_
    replace E := grd_some E
    obtain ⟨g12, E⟩ := E
    replace E := cal_some E
    obtain ⟨x11, h10, hc, E⟩ := E
    refine r_callV1 (mc := 0) (ms := 0) dX12_hasPattern_14 KX12_196 (c_X12_fails hc) g12 (by decide) (Nat.le_of_ble_eq_true rfl) (fun _ _ q => q.elim) ?_
    rintro _ _ ⟨rfl, rfl⟩
    clear hc
    refine q_if_le (tgt := 24) dX12_hasPattern_17 (by decide) (fun z13 => ?_) (fun z13 => ?_)
    · replace E := ite_t E z13
      refine q_iconst dX12_hasPattern_24 ?_
      exact r_fewer [none, none] (ls_n (ls_n ls_0)) (s_X12_hasPattern_25 (Int32.ofInt 0) h10 E hK)
    · replace E := ite_f E z13
      refine q_iconst dX12_hasPattern_20 ?_
      refine q_goto (tgt := 25) dX12_hasPattern_21 (by decide) ?_
      exact r_fewer [none, none] (ls_n (ls_n ls_0)) (s_X12_hasPattern_25 (Int32.ofInt 1) h10 E hK)
theorem c_X12_hasPattern {l : Launch} {G : mG} {p0 : Nat} {v1 : Int32} {h h' : mH} {r : Int32} (E : f_X12_hasPattern p0 v1 h = some (r, h')) : mMet l G m_X12_hasPattern 3 0 0 [.ref p0, .int v1] h (fun v k => v = some (.int r) ∧ h' = k) (fun _ _ => False) :=
  mMet_of (by decide +kernel) rfl (ac_c rfl (ac_c rfl ac_0)) (Nat.le_of_ble_eq_true rfl) (s_X12_hasPattern_0 p0 v1 h E (And.intro rfl rfl))
set_option maxRecDepth 100000 in
set_option maxHeartbeats 4000000 in
theorem s_X12_lettersOf_29 {l : Launch} {G : mG} {Q : Option Value → mH → Prop} {X : String → mH → Prop} (p0 : Nat) (v1 : Int32) (v3 : Int32) (s0 : Int32) (s1 : Int32) (h : mH) {o : ((Int32 × Int32 × mH) ⊕ (Int32 × mH))} (E : g_X12_lettersOf_29 p0 v1 v3 s0 s1 h = some o) (hK : (lpK (w_X12_lettersOf_4 l G Q X p0 v1) (fiI Q)) o) : mW l G m_X12_lettersOf 1 0 0 29 [some (.ref p0), some (.int v1), none, some (.int v3)] [.int s0, .int s1] h Q X := by
  unfold g_X12_lettersOf_29 at E
  refine q_iadd dX12_lettersOf_29 ?_
  replace E := bnd_x E
  obtain ⟨x1, ex1, E⟩ := E
  refine r_istore_n dX12_lettersOf_30 (by decide) ex1 (ls' := [some (.ref p0), some (.int v1), some (.int x1), some (.int v3)]) rfl ?_
  replace E := bnd_x E
  obtain ⟨x2, ex2, E⟩ := E
  refine r_iinc (v := x2) dX12_lettersOf_31 rfl ex2 (by decide) (ls' := [some (.ref p0), some (.int v1), some (.int x1), some (.int x2)]) rfl ?_
  refine q_goto (tgt := 4) dX12_lettersOf_34 (by decide) ?_
  cases E
  exact r_fewer [some (.ref p0), some (.int v1), some (.int x1), some (.int x2)] (ls_s (ls_s (ls_s (ls_s ls_0)))) hK
set_option maxRecDepth 100000 in
set_option maxHeartbeats 4000000 in
theorem sb_X12_lettersOf_4 {l : Launch} {G : mG} {Q : Option Value → mH → Prop} {X : String → mH → Prop} (p0 : Nat) (v1 : Int32) (v2 : Int32) (v3 : Int32) (h : mH) {o : ((Int32 × Int32 × mH) ⊕ (Int32 × mH))} (E : b0_X12_lettersOf_4 p0 v1 v2 v3 h = some o) (hK : (lpK (w_X12_lettersOf_4 l G Q X p0 v1) (fiI Q)) o) : mW l G m_X12_lettersOf 1 0 0 4 [some (.ref p0), some (.int v1), some (.int v2), some (.int v3)] [] h Q X := by
  unfold b0_X12_lettersOf_4 at E
  refine q_iload_n dX12_lettersOf_4 rfl ?_
  refine q_aload_n dX12_lettersOf_5 rfl ?_
  refine q_iload_n dX12_lettersOf_6 rfl ?_
  replace E := grd_some E
  obtain ⟨g3, E⟩ := E
  replace E := cal_some E
  obtain ⟨x2, h1, hc, E⟩ := E
  refine r_callV1 (mc := 0) (ms := 0) dX12_lettersOf_7 KX12_140 (c_X12_length hc) g3 (by decide) (Nat.le_of_ble_eq_true rfl) (fun _ _ q => q.elim) ?_
  rintro _ _ ⟨rfl, rfl⟩
  clear hc
  refine q_icmp_ge (tgt := 37) dX12_lettersOf_10 (by decide) (fun z4 => ?_) (fun z4 => ?_)
  · replace E := ite_t E z4
    refine q_iload_n dX12_lettersOf_37 rfl ?_
    cases E
    exact q_ireturn dX12_lettersOf_38 rfl hK
  · replace E := ite_f E z4
    refine q_iload_n dX12_lettersOf_13 rfl ?_
    refine q_aload_n dX12_lettersOf_14 rfl ?_
    refine q_iload_n dX12_lettersOf_15 rfl ?_
    refine q_iload_n dX12_lettersOf_16 rfl ?_
    replace E := grd_some E
    obtain ⟨g7, E⟩ := E
    replace E := cal_some E
    obtain ⟨x6, h5, hc, E⟩ := E
    refine r_callV2 (mc := 0) (ms := 0) dX12_lettersOf_17 KX12_147 (c_X12_code hc) g7 (by decide) (Nat.le_of_ble_eq_true rfl) (fun _ _ q => q.elim) ?_
    rintro _ _ ⟨rfl, rfl⟩
    clear hc
    refine q_iconst dX12_lettersOf_20 ?_
    refine q_icmp_ge (tgt := 28) dX12_lettersOf_21 (by decide) (fun z8 => ?_) (fun z8 => ?_)
    · replace E := ite_t E z8
      refine q_iconst dX12_lettersOf_28 ?_
      exact r_fewer [some (.ref p0), some (.int v1), none, some (.int v3)] (ls_s (ls_s (ls_n (ls_s ls_0)))) (s_X12_lettersOf_29 p0 v1 v3 (Int32.ofInt 0) v2 h5 E hK)
    · replace E := ite_f E z8
      refine q_iconst dX12_lettersOf_24 ?_
      refine q_goto (tgt := 29) dX12_lettersOf_25 (by decide) ?_
      exact r_fewer [some (.ref p0), some (.int v1), none, some (.int v3)] (ls_s (ls_s (ls_n (ls_s ls_0)))) (s_X12_lettersOf_29 p0 v1 v3 (Int32.ofInt 1) v2 h5 E hK)
theorem s_X12_lettersOf_4 {l : Launch} {G : mG} {Q : Option Value → mH → Prop} {X : String → mH → Prop} (p0 : Nat) (v1 : Int32) (v2 : Int32) (v3 : Int32) (h : mH) {o : Int32 × mH} (E : g_X12_lettersOf_4 p0 v1 v2 v3 h = some o) (hK : (fiI Q) o) : mW l G m_X12_lettersOf 1 0 0 4 [some (.ref p0), some (.int v1), some (.int v2), some (.int v3)] [] h Q X :=
  (lp_go (w_X12_lettersOf_4 l G Q X p0 v1) (fiI Q) (b_X12_lettersOf_4 p0 v1) (fun s o E hK => sb_X12_lettersOf_4 p0 v1 s.1 s.2.1 (s.2.2) E hK) _ _ _ E hK : w_X12_lettersOf_4 l G Q X p0 v1 (v2, v3, h))
set_option maxRecDepth 100000 in
set_option maxHeartbeats 4000000 in
theorem s_X12_lettersOf_0 {l : Launch} {G : mG} {Q : Option Value → mH → Prop} {X : String → mH → Prop} (p0 : Nat) (v1 : Int32) (h : mH) {o : Int32 × mH} (E : f_X12_lettersOf p0 v1 h = some o) (hK : (fiI Q) o) : mW l G m_X12_lettersOf 1 0 0 0 [some (.ref p0), some (.int v1), none, none] [] h Q X := by
  unfold f_X12_lettersOf at E
  refine q_iconst dX12_lettersOf_0 ?_
  refine r_istore_n dX12_lettersOf_1 (by decide) rfl (ls' := [some (.ref p0), some (.int v1), some (.int (Int32.ofInt 0)), none]) rfl ?_
  refine q_iconst dX12_lettersOf_2 ?_
  refine r_istore_n dX12_lettersOf_3 (by decide) rfl (ls' := [some (.ref p0), some (.int v1), some (.int (Int32.ofInt 0)), some (.int (Int32.ofInt 0))]) rfl ?_
  exact r_fewer [some (.ref p0), some (.int v1), some (.int (Int32.ofInt 0)), some (.int (Int32.ofInt 0))] (ls_s (ls_s (ls_s (ls_s ls_0)))) (s_X12_lettersOf_4 p0 v1 (Int32.ofInt 0) (Int32.ofInt 0) h E hK)
theorem c_X12_lettersOf {l : Launch} {G : mG} {p0 : Nat} {v1 : Int32} {h h' : mH} {r : Int32} (E : f_X12_lettersOf p0 v1 h = some (r, h')) : mMet l G m_X12_lettersOf 1 0 0 [.ref p0, .int v1] h (fun v k => v = some (.int r) ∧ h' = k) (fun _ _ => False) :=
  mMet_of (by decide +kernel) rfl (ac_c rfl (ac_c rfl ac_0)) (Nat.le_of_ble_eq_true rfl) (s_X12_lettersOf_0 p0 v1 h E (And.intro rfl rfl))
set_option maxRecDepth 100000 in
set_option maxHeartbeats 4000000 in
theorem s_X12_letterCount_26 {l : Launch} {G : mG} {Q : Option Value → mH → Prop} {X : String → mH → Prop} (s0 : Int32) (h : mH) {o : Int32 × mH} (E : g_X12_letterCount_26 s0 h = some o) (hK : (fiI Q) o) : mW l G m_X12_letterCount 3 0 0 26 [none, none] [.int s0] h Q X := by
  unfold g_X12_letterCount_26 at E
  cases E
  exact q_ireturn dX12_letterCount_26 rfl hK
set_option maxRecDepth 100000 in
set_option maxHeartbeats 4000000 in
theorem s_X12_letterCount_0 {l : Launch} {G : mG} {Q : Option Value → mH → Prop} {X : String → mH → Prop} (p0 : Nat) (v1 : Int32) (h : mH) {o : Int32 × mH} (E : f_X12_letterCount p0 v1 h = some o) (hK : (fiI Q) o) : mW l G m_X12_letterCount 3 0 0 0 [some (.ref p0), some (.int v1)] [] h Q X := by
  unfold f_X12_letterCount at E
  refine q_aload_n dX12_letterCount_0 rfl ?_
  refine q_iconst dX12_letterCount_1 ?_
  replace E := grd_some E
  obtain ⟨g1, E⟩ := E
  replace E := bnd_x E
  obtain ⟨h2, eh2, E⟩ := E
  refine r_putI (hh := eh2) dX12_letterCount_2 FX12_117 g1 rfl rfl ?_
  refine q_aload_n dX12_letterCount_5 rfl ?_
  refine q_iload_n dX12_letterCount_6 rfl ?_
  replace E := grd_some E
  obtain ⟨g5, E⟩ := E
  replace E := cal_some E
  obtain ⟨x4, h3, hc, E⟩ := E
  refine r_callV1 (mc := 0) (ms := 0) dX12_letterCount_7 KX12_211 (c_X12_holds hc) g5 (by decide) (Nat.le_of_ble_eq_true rfl) (fun _ _ q => q.elim) ?_
  rintro _ _ ⟨rfl, rfl⟩
  clear hc
  refine q_if_eq (tgt := 21) dX12_letterCount_10 (by decide) (fun z6 => ?_) (fun z6 => ?_)
  · replace E := ite_t E z6
    refine q_aload_n dX12_letterCount_21 rfl ?_
    refine q_iconst dX12_letterCount_22 ?_
    replace E := grd_some E
    obtain ⟨g9, E⟩ := E
    replace E := cal_some E
    obtain ⟨x8, h7, hc, E⟩ := E
    refine r_callV1 (mc := 0) (ms := 0) dX12_letterCount_23 KX12_196 (c_X12_fails hc) g9 (by decide) (Nat.le_of_ble_eq_true rfl) (fun _ _ q => q.elim) ?_
    rintro _ _ ⟨rfl, rfl⟩
    clear hc
    exact r_fewer [none, none] (ls_n (ls_n ls_0)) (s_X12_letterCount_26 x8 h7 E hK)
  · replace E := ite_f E z6
    refine q_aload_n dX12_letterCount_13 rfl ?_
    refine q_iload_n dX12_letterCount_14 rfl ?_
    replace E := grd_some E
    obtain ⟨g12, E⟩ := E
    replace E := cal_some E
    obtain ⟨x11, h10, hc, E⟩ := E
    refine r_callV1 (mc := 0) (ms := 0) dX12_letterCount_15 KX12_319 (c_X12_lettersOf hc) g12 (by decide) (Nat.le_of_ble_eq_true rfl) (fun _ _ q => q.elim) ?_
    rintro _ _ ⟨rfl, rfl⟩
    clear hc
    refine q_goto (tgt := 26) dX12_letterCount_18 (by decide) ?_
    exact r_fewer [none, none] (ls_n (ls_n ls_0)) (s_X12_letterCount_26 x11 h10 E hK)
theorem c_X12_letterCount {l : Launch} {G : mG} {p0 : Nat} {v1 : Int32} {h h' : mH} {r : Int32} (E : f_X12_letterCount p0 v1 h = some (r, h')) : mMet l G m_X12_letterCount 3 0 0 [.ref p0, .int v1] h (fun v k => v = some (.int r) ∧ h' = k) (fun _ _ => False) :=
  mMet_of (by decide +kernel) rfl (ac_c rfl (ac_c rfl ac_0)) (Nat.le_of_ble_eq_true rfl) (s_X12_letterCount_0 p0 v1 h E (And.intro rfl rfl))
set_option maxRecDepth 100000 in
set_option maxHeartbeats 4000000 in
theorem s_X12_acceptsEmpty_26 {l : Launch} {G : mG} {Q : Option Value → mH → Prop} {X : String → mH → Prop} (s0 : Int32) (h : mH) {o : Int32 × mH} (E : g_X12_acceptsEmpty_26 s0 h = some o) (hK : (fiI Q) o) : mW l G m_X12_acceptsEmpty 3 0 0 26 [none, none] [.int s0] h Q X := by
  unfold g_X12_acceptsEmpty_26 at E
  replace E := grd_some E
  obtain ⟨g1, E⟩ := E
  cases E
  exact q_zreturn dX12_acceptsEmpty_26 rfl (narZ g1) hK
set_option maxRecDepth 100000 in
set_option maxHeartbeats 4000000 in
theorem s_X12_acceptsEmpty_48 {l : Launch} {G : mG} {Q : Option Value → mH → Prop} {X : String → mH → Prop} (s0 : Int32) (h : mH) {o : Int32 × mH} (E : g_X12_acceptsEmpty_48 s0 h = some o) (hK : (fiI Q) o) : mW l G m_X12_acceptsEmpty 3 0 0 48 [none, none] [.int s0] h Q X := by
  unfold g_X12_acceptsEmpty_48 at E
  replace E := grd_some E
  obtain ⟨g1, E⟩ := E
  cases E
  exact q_zreturn dX12_acceptsEmpty_48 rfl (narZ g1) hK
set_option maxRecDepth 100000 in
set_option maxHeartbeats 4000000 in
theorem s_X12_acceptsEmpty_0 {l : Launch} {G : mG} {Q : Option Value → mH → Prop} {X : String → mH → Prop} (p0 : Nat) (v1 : Int32) (h : mH) {o : Int32 × mH} (E : f_X12_acceptsEmpty p0 v1 h = some o) (hK : (fiI Q) o) : mW l G m_X12_acceptsEmpty 3 0 0 0 [some (.ref p0), some (.int v1)] [] h Q X := by
  unfold f_X12_acceptsEmpty at E
  refine q_aload_n dX12_acceptsEmpty_0 rfl ?_
  refine q_iconst dX12_acceptsEmpty_1 ?_
  replace E := grd_some E
  obtain ⟨g1, E⟩ := E
  replace E := bnd_x E
  obtain ⟨h2, eh2, E⟩ := E
  refine r_putI (hh := eh2) dX12_acceptsEmpty_2 FX12_117 g1 rfl rfl ?_
  refine q_aload_n dX12_acceptsEmpty_5 rfl ?_
  refine q_iload_n dX12_acceptsEmpty_6 rfl ?_
  replace E := grd_some E
  obtain ⟨g5, E⟩ := E
  replace E := cal_some E
  obtain ⟨x4, h3, hc, E⟩ := E
  refine r_callV1 (mc := 0) (ms := 0) dX12_acceptsEmpty_7 KX12_211 (c_X12_holds hc) g5 (by decide) (Nat.le_of_ble_eq_true rfl) (fun _ _ q => q.elim) ?_
  rintro _ _ ⟨rfl, rfl⟩
  clear hc
  refine q_if_ne (tgt := 27) dX12_acceptsEmpty_10 (by decide) (fun z6 => ?_) (fun z6 => ?_)
  · replace E := ite_f E z6
    refine q_aload_n dX12_acceptsEmpty_27 rfl ?_
    refine q_iconst dX12_acceptsEmpty_28 ?_
    refine q_iload_n dX12_acceptsEmpty_29 rfl ?_
    replace E := grd_some E
    obtain ⟨g9, E⟩ := E
    replace E := cal_some E
    obtain ⟨_, h7, hc, E⟩ := E
    refine r_callV2 (mc := 0) (ms := 0) dX12_acceptsEmpty_30 KX12_280 (c_X12_builds hc) g9 (by decide) (Nat.le_of_ble_eq_true rfl) (fun _ _ q => q.elim) ?_
    rintro _ _ ⟨rfl, rfl⟩
    clear hc
    refine q_aload_n dX12_acceptsEmpty_33 rfl ?_
    replace E := grd_some E
    obtain ⟨g10, E⟩ := E
    replace E := orf_some E
    obtain ⟨a11, ea11, E⟩ := E
    refine r_getR dX12_acceptsEmpty_34 FX12_57 g10 ea11 ?_
    refine q_iconst dX12_acceptsEmpty_37 ?_
    replace E := grd_some E
    obtain ⟨g12, E⟩ := E
    replace E := grd_some E
    obtain ⟨g13, E⟩ := E
    refine r_iaload dX12_acceptsEmpty_38 g12 g13 ?_
    refine q_iconst dX12_acceptsEmpty_39 ?_
    refine q_icmp_ne (tgt := 47) dX12_acceptsEmpty_40 (by decide) (fun z14 => ?_) (fun z14 => ?_)
    · replace E := ite_f E z14
      refine q_iconst dX12_acceptsEmpty_47 ?_
      exact r_fewer [none, none] (ls_n (ls_n ls_0)) (s_X12_acceptsEmpty_48 (Int32.ofInt 0) h7 E hK)
    · replace E := ite_t E z14
      refine q_iconst dX12_acceptsEmpty_43 ?_
      refine q_goto (tgt := 48) dX12_acceptsEmpty_44 (by decide) ?_
      exact r_fewer [none, none] (ls_n (ls_n ls_0)) (s_X12_acceptsEmpty_48 (Int32.ofInt 1) h7 E hK)
  · replace E := ite_t E z6
    refine q_aload_n dX12_acceptsEmpty_13 rfl ?_
    refine q_iconst dX12_acceptsEmpty_14 ?_
    replace E := grd_some E
    obtain ⟨g17, E⟩ := E
    replace E := cal_some E
    obtain ⟨x16, h15, hc, E⟩ := E
    refine r_callV1 (mc := 0) (ms := 0) dX12_acceptsEmpty_15 KX12_196 (c_X12_fails hc) g17 (by decide) (Nat.le_of_ble_eq_true rfl) (fun _ _ q => q.elim) ?_
    rintro _ _ ⟨rfl, rfl⟩
    clear hc
    refine q_if_le (tgt := 25) dX12_acceptsEmpty_18 (by decide) (fun z18 => ?_) (fun z18 => ?_)
    · replace E := ite_t E z18
      refine q_iconst dX12_acceptsEmpty_25 ?_
      exact r_fewer [none, none] (ls_n (ls_n ls_0)) (s_X12_acceptsEmpty_26 (Int32.ofInt 0) h15 E hK)
    · replace E := ite_f E z18
      refine q_iconst dX12_acceptsEmpty_21 ?_
      refine q_goto (tgt := 26) dX12_acceptsEmpty_22 (by decide) ?_
      exact r_fewer [none, none] (ls_n (ls_n ls_0)) (s_X12_acceptsEmpty_26 (Int32.ofInt 1) h15 E hK)
theorem c_X12_acceptsEmpty {l : Launch} {G : mG} {p0 : Nat} {v1 : Int32} {h h' : mH} {r : Int32} (E : f_X12_acceptsEmpty p0 v1 h = some (r, h')) : mMet l G m_X12_acceptsEmpty 3 0 0 [.ref p0, .int v1] h (fun v k => v = some (.int r) ∧ h' = k) (fun _ _ => False) :=
  mMet_of (by decide +kernel) rfl (ac_c rfl (ac_c rfl ac_0)) (Nat.le_of_ble_eq_true rfl) (s_X12_acceptsEmpty_0 p0 v1 h E (And.intro rfl rfl))
set_option maxRecDepth 100000 in
set_option maxHeartbeats 4000000 in
theorem s_X12_misses_26 {l : Launch} {G : mG} {Q : Option Value → mH → Prop} {X : String → mH → Prop} (s0 : Int32) (h : mH) {o : Int32 × mH} (E : g_X12_misses_26 s0 h = some o) (hK : (fiI Q) o) : mW l G m_X12_misses 3 0 0 26 [none, none, none, none] [.int s0] h Q X := by
  unfold g_X12_misses_26 at E
  replace E := grd_some E
  obtain ⟨g1, E⟩ := E
  cases E
  exact q_zreturn dX12_misses_26 rfl (narZ g1) hK
set_option maxRecDepth 100000 in
set_option maxHeartbeats 4000000 in
theorem s_X12_misses_62 {l : Launch} {G : mG} {Q : Option Value → mH → Prop} {X : String → mH → Prop} (s0 : Int32) (h : mH) {o : Int32 × mH} (E : g_X12_misses_62 s0 h = some o) (hK : (fiI Q) o) : mW l G m_X12_misses 3 0 0 62 [none, none, none, none] [.int s0] h Q X := by
  unfold g_X12_misses_62 at E
  replace E := grd_some E
  obtain ⟨g1, E⟩ := E
  cases E
  exact q_zreturn dX12_misses_62 rfl (narZ g1) hK
set_option maxRecDepth 100000 in
set_option maxHeartbeats 4000000 in
theorem s_X12_misses_61 {l : Launch} {G : mG} {Q : Option Value → mH → Prop} {X : String → mH → Prop} (h : mH) {o : Int32 × mH} (E : g_X12_misses_61  h = some o) (hK : (fiI Q) o) : mW l G m_X12_misses 3 0 0 61 [none, none, none, none] [] h Q X := by
  unfold g_X12_misses_61 at E
  refine q_iconst dX12_misses_61 ?_
  exact r_fewer [none, none, none, none] (ls_n (ls_n (ls_n (ls_n ls_0)))) (s_X12_misses_62 (Int32.ofInt 0) h E hK)
set_option maxRecDepth 100000 in
set_option maxHeartbeats 4000000 in
theorem s_X12_misses_49 {l : Launch} {G : mG} {Q : Option Value → mH → Prop} {X : String → mH → Prop} (p0 : Nat) (h : mH) {o : Int32 × mH} (E : g_X12_misses_49 p0 h = some o) (hK : (fiI Q) o) : mW l G m_X12_misses 3 0 0 49 [some (.ref p0), none, none, none] [] h Q X := by
  unfold g_X12_misses_49 at E
  refine q_aload_n dX12_misses_49 rfl ?_
  refine q_iconst dX12_misses_50 ?_
  replace E := grd_some E
  obtain ⟨g3, E⟩ := E
  replace E := cal_some E
  obtain ⟨x2, h1, hc, E⟩ := E
  refine r_callV1 (mc := 0) (ms := 0) dX12_misses_51 KX12_196 (c_X12_fails hc) g3 (by decide) (Nat.le_of_ble_eq_true rfl) (fun _ _ q => q.elim) ?_
  rintro _ _ ⟨rfl, rfl⟩
  clear hc
  refine q_if_ne (tgt := 61) dX12_misses_54 (by decide) (fun z4 => ?_) (fun z4 => ?_)
  · replace E := ite_f E z4
    exact r_fewer [none, none, none, none] (ls_n (ls_n (ls_n (ls_n ls_0)))) (s_X12_misses_61 h1 E hK)
  · replace E := ite_t E z4
    refine q_iconst dX12_misses_57 ?_
    refine q_goto (tgt := 62) dX12_misses_58 (by decide) ?_
    exact r_fewer [none, none, none, none] (ls_n (ls_n (ls_n (ls_n ls_0)))) (s_X12_misses_62 (Int32.ofInt 1) h1 E hK)
set_option maxRecDepth 100000 in
set_option maxHeartbeats 4000000 in
theorem s_X12_misses_0 {l : Launch} {G : mG} {Q : Option Value → mH → Prop} {X : String → mH → Prop} (p0 : Nat) (v1 : Int32) (v2 : Int32) (v3 : Int32) (h : mH) {o : Int32 × mH} (E : f_X12_misses p0 v1 v2 v3 h = some o) (hK : (fiI Q) o) : mW l G m_X12_misses 3 0 0 0 [some (.ref p0), some (.int v1), some (.int v2), some (.int v3)] [] h Q X := by
  unfold f_X12_misses at E
  refine q_aload_n dX12_misses_0 rfl ?_
  refine q_iconst dX12_misses_1 ?_
  replace E := grd_some E
  obtain ⟨g1, E⟩ := E
  replace E := bnd_x E
  obtain ⟨h2, eh2, E⟩ := E
  refine r_putI (hh := eh2) dX12_misses_2 FX12_117 g1 rfl rfl ?_
  refine q_aload_n dX12_misses_5 rfl ?_
  refine q_iload_n dX12_misses_6 rfl ?_
  replace E := grd_some E
  obtain ⟨g5, E⟩ := E
  replace E := cal_some E
  obtain ⟨x4, h3, hc, E⟩ := E
  refine r_callV1 (mc := 0) (ms := 0) dX12_misses_7 KX12_211 (c_X12_holds hc) g5 (by decide) (Nat.le_of_ble_eq_true rfl) (fun _ _ q => q.elim) ?_
  rintro _ _ ⟨rfl, rfl⟩
  clear hc
  refine q_if_ne (tgt := 27) dX12_misses_10 (by decide) (fun z6 => ?_) (fun z6 => ?_)
  · replace E := ite_f E z6
    refine q_iload_n dX12_misses_27 rfl ?_
    refine q_bipush (v := (Int32.ofInt 97)) dX12_misses_28 (by decide) ?_
    refine q_bipush (v := (Int32.ofInt 99)) dX12_misses_30 (by decide) ?_
    replace E := cal_some E
    obtain ⟨x8, h7, hc, E⟩ := E
    refine r_callS3 (mc := 0) (ms := 0) dX12_misses_32 KX12_132 (c_X12_isBetween hc) (by decide) (Nat.le_of_ble_eq_true rfl) (fun _ _ q => q.elim) ?_
    rintro _ _ ⟨rfl, rfl⟩
    clear hc
    refine q_if_eq (tgt := 49) dX12_misses_35 (by decide) (fun z9 => ?_) (fun z9 => ?_)
    · replace E := ite_t E z9
      exact r_fewer [some (.ref p0), none, none, none] (ls_s (ls_n (ls_n (ls_n ls_0)))) (s_X12_misses_49 p0 h7 E hK)
    · replace E := ite_f E z9
      refine q_iload_n dX12_misses_38 rfl ?_
      refine q_bipush (v := (Int32.ofInt 97)) dX12_misses_39 (by decide) ?_
      refine q_bipush (v := (Int32.ofInt 99)) dX12_misses_41 (by decide) ?_
      replace E := cal_some E
      obtain ⟨x11, h10, hc, E⟩ := E
      refine r_callS3 (mc := 0) (ms := 0) dX12_misses_43 KX12_132 (c_X12_isBetween hc) (by decide) (Nat.le_of_ble_eq_true rfl) (fun _ _ q => q.elim) ?_
      rintro _ _ ⟨rfl, rfl⟩
      clear hc
      refine q_if_ne (tgt := 61) dX12_misses_46 (by decide) (fun z12 => ?_) (fun z12 => ?_)
      · replace E := ite_f E z12
        exact r_fewer [none, none, none, none] (ls_n (ls_n (ls_n (ls_n ls_0)))) (s_X12_misses_61 h10 E hK)
      · replace E := ite_t E z12
        exact r_fewer [some (.ref p0), none, none, none] (ls_s (ls_n (ls_n (ls_n ls_0)))) (s_X12_misses_49 p0 h10 E hK)
  · replace E := ite_t E z6
    refine q_aload_n dX12_misses_13 rfl ?_
    refine q_iconst dX12_misses_14 ?_
    replace E := grd_some E
    obtain ⟨g15, E⟩ := E
    replace E := cal_some E
    obtain ⟨x14, h13, hc, E⟩ := E
    refine r_callV1 (mc := 0) (ms := 0) dX12_misses_15 KX12_196 (c_X12_fails hc) g15 (by decide) (Nat.le_of_ble_eq_true rfl) (fun _ _ q => q.elim) ?_
    rintro _ _ ⟨rfl, rfl⟩
    clear hc
    refine q_if_ne (tgt := 25) dX12_misses_18 (by decide) (fun z16 => ?_) (fun z16 => ?_)
    · replace E := ite_f E z16
      refine q_iconst dX12_misses_25 ?_
      exact r_fewer [none, none, none, none] (ls_n (ls_n (ls_n (ls_n ls_0)))) (s_X12_misses_26 (Int32.ofInt 0) h13 E hK)
    · replace E := ite_t E z16
      refine q_iconst dX12_misses_21 ?_
      refine q_goto (tgt := 26) dX12_misses_22 (by decide) ?_
      exact r_fewer [none, none, none, none] (ls_n (ls_n (ls_n (ls_n ls_0)))) (s_X12_misses_26 (Int32.ofInt 1) h13 E hK)
theorem c_X12_misses {l : Launch} {G : mG} {p0 : Nat} {v1 : Int32} {v2 : Int32} {v3 : Int32} {h h' : mH} {r : Int32} (E : f_X12_misses p0 v1 v2 v3 h = some (r, h')) : mMet l G m_X12_misses 3 0 0 [.ref p0, .int v1, .int v2, .int v3] h (fun v k => v = some (.int r) ∧ h' = k) (fun _ _ => False) :=
  mMet_of (by decide +kernel) rfl (ac_c rfl (ac_c rfl (ac_c rfl (ac_c rfl ac_0)))) (Nat.le_of_ble_eq_true rfl) (s_X12_misses_0 p0 v1 v2 v3 h E (And.intro rfl rfl))
set_option maxRecDepth 100000 in
set_option maxHeartbeats 4000000 in
theorem s_X12_canBegin_43 {l : Launch} {G : mG} {Q : Option Value → mH → Prop} {X : String → mH → Prop} (s0 : Int32) (h : mH) {o : Int32 × mH} (E : g_X12_canBegin_43 s0 h = some o) (hK : (fiI Q) o) : mW l G m_X12_canBegin 4 0 0 43 [none, none, none] [.int s0] h Q X := by
  unfold g_X12_canBegin_43 at E
  replace E := grd_some E
  obtain ⟨g1, E⟩ := E
  cases E
  exact q_zreturn dX12_canBegin_43 rfl (narZ g1) hK
set_option maxRecDepth 100000 in
set_option maxHeartbeats 4000000 in
theorem s_X12_canBegin_0 {l : Launch} {G : mG} {Q : Option Value → mH → Prop} {X : String → mH → Prop} (p0 : Nat) (v1 : Int32) (v2 : Int32) (h : mH) {o : Int32 × mH} (E : f_X12_canBegin p0 v1 v2 h = some o) (hK : (fiI Q) o) : mW l G m_X12_canBegin 4 0 0 0 [some (.ref p0), some (.int v1), some (.int v2)] [] h Q X := by
  unfold f_X12_canBegin at E
  refine q_aload_n dX12_canBegin_0 rfl ?_
  refine q_iload_n dX12_canBegin_1 rfl ?_
  refine q_iload_n dX12_canBegin_2 rfl ?_
  refine q_bipush (v := (Int32.ofInt 97)) dX12_canBegin_3 (by decide) ?_
  replace E := grd_some E
  obtain ⟨g3, E⟩ := E
  replace E := cal_some E
  obtain ⟨x2, h1, hc, E⟩ := E
  refine r_callV3 (mc := 0) (ms := 0) dX12_canBegin_5 KX12_322 (c_X12_misses hc) g3 (by decide) (Nat.le_of_ble_eq_true rfl) (fun _ _ q => q.elim) ?_
  rintro _ _ ⟨rfl, rfl⟩
  clear hc
  refine q_if_eq (tgt := 13) dX12_canBegin_8 (by decide) (fun z4 => ?_) (fun z4 => ?_)
  · replace E := ite_t E z4
    refine q_aload_n dX12_canBegin_13 rfl ?_
    refine q_iconst dX12_canBegin_14 ?_
    refine q_iload_n dX12_canBegin_15 rfl ?_
    replace E := grd_some E
    obtain ⟨g7, E⟩ := E
    replace E := cal_some E
    obtain ⟨_, h5, hc, E⟩ := E
    refine r_callV2 (mc := 0) (ms := 0) dX12_canBegin_16 KX12_280 (c_X12_builds hc) g7 (by decide) (Nat.le_of_ble_eq_true rfl) (fun _ _ q => q.elim) ?_
    rintro _ _ ⟨rfl, rfl⟩
    clear hc
    refine q_aload_n dX12_canBegin_19 rfl ?_
    replace E := grd_some E
    obtain ⟨g8, E⟩ := E
    replace E := orf_some E
    obtain ⟨a9, ea9, E⟩ := E
    refine r_getR dX12_canBegin_20 FX12_54 g8 ea9 ?_
    refine q_iconst dX12_canBegin_23 ?_
    replace E := grd_some E
    obtain ⟨g10, E⟩ := E
    replace E := grd_some E
    obtain ⟨g11, E⟩ := E
    refine r_iaload dX12_canBegin_24 g10 g11 ?_
    refine q_aload_n dX12_canBegin_25 rfl ?_
    replace E := orf_some E
    obtain ⟨a12, ea12, E⟩ := E
    refine r_getR dX12_canBegin_26 FX12_48 g8 ea12 ?_
    refine q_iload_n dX12_canBegin_29 rfl ?_
    refine q_bipush (v := (Int32.ofInt 97)) dX12_canBegin_30 (by decide) ?_
    refine q_isub dX12_canBegin_32 ?_
    replace E := grd_some E
    obtain ⟨g13, E⟩ := E
    replace E := grd_some E
    obtain ⟨g14, E⟩ := E
    refine r_iaload dX12_canBegin_33 g13 g14 ?_
    refine q_iand dX12_canBegin_34 ?_
    refine q_if_eq (tgt := 42) dX12_canBegin_35 (by decide) (fun z15 => ?_) (fun z15 => ?_)
    · replace E := ite_t E z15
      refine q_iconst dX12_canBegin_42 ?_
      exact r_fewer [none, none, none] (ls_n (ls_n (ls_n ls_0))) (s_X12_canBegin_43 (Int32.ofInt 0) h5 E hK)
    · replace E := ite_f E z15
      refine q_iconst dX12_canBegin_38 ?_
      refine q_goto (tgt := 43) dX12_canBegin_39 (by decide) ?_
      exact r_fewer [none, none, none] (ls_n (ls_n (ls_n ls_0))) (s_X12_canBegin_43 (Int32.ofInt 1) h5 E hK)
  · replace E := ite_f E z4
    refine q_iconst dX12_canBegin_11 ?_
    cases E
    exact q_zreturn dX12_canBegin_12 rfl (by decide) hK
theorem c_X12_canBegin {l : Launch} {G : mG} {p0 : Nat} {v1 : Int32} {v2 : Int32} {h h' : mH} {r : Int32} (E : f_X12_canBegin p0 v1 v2 h = some (r, h')) : mMet l G m_X12_canBegin 4 0 0 [.ref p0, .int v1, .int v2] h (fun v k => v = some (.int r) ∧ h' = k) (fun _ _ => False) :=
  mMet_of (by decide +kernel) rfl (ac_c rfl (ac_c rfl (ac_c rfl ac_0))) (Nat.le_of_ble_eq_true rfl) (s_X12_canBegin_0 p0 v1 v2 h E (And.intro rfl rfl))
set_option maxRecDepth 100000 in
set_option maxHeartbeats 4000000 in
theorem s_X12_canEnd_43 {l : Launch} {G : mG} {Q : Option Value → mH → Prop} {X : String → mH → Prop} (s0 : Int32) (h : mH) {o : Int32 × mH} (E : g_X12_canEnd_43 s0 h = some o) (hK : (fiI Q) o) : mW l G m_X12_canEnd 4 0 0 43 [none, none, none] [.int s0] h Q X := by
  unfold g_X12_canEnd_43 at E
  replace E := grd_some E
  obtain ⟨g1, E⟩ := E
  cases E
  exact q_zreturn dX12_canEnd_43 rfl (narZ g1) hK
set_option maxRecDepth 100000 in
set_option maxHeartbeats 4000000 in
theorem s_X12_canEnd_0 {l : Launch} {G : mG} {Q : Option Value → mH → Prop} {X : String → mH → Prop} (p0 : Nat) (v1 : Int32) (v2 : Int32) (h : mH) {o : Int32 × mH} (E : f_X12_canEnd p0 v1 v2 h = some o) (hK : (fiI Q) o) : mW l G m_X12_canEnd 4 0 0 0 [some (.ref p0), some (.int v1), some (.int v2)] [] h Q X := by
  unfold f_X12_canEnd at E
  refine q_aload_n dX12_canEnd_0 rfl ?_
  refine q_iload_n dX12_canEnd_1 rfl ?_
  refine q_iload_n dX12_canEnd_2 rfl ?_
  refine q_bipush (v := (Int32.ofInt 97)) dX12_canEnd_3 (by decide) ?_
  replace E := grd_some E
  obtain ⟨g3, E⟩ := E
  replace E := cal_some E
  obtain ⟨x2, h1, hc, E⟩ := E
  refine r_callV3 (mc := 0) (ms := 0) dX12_canEnd_5 KX12_322 (c_X12_misses hc) g3 (by decide) (Nat.le_of_ble_eq_true rfl) (fun _ _ q => q.elim) ?_
  rintro _ _ ⟨rfl, rfl⟩
  clear hc
  refine q_if_eq (tgt := 13) dX12_canEnd_8 (by decide) (fun z4 => ?_) (fun z4 => ?_)
  · replace E := ite_t E z4
    refine q_aload_n dX12_canEnd_13 rfl ?_
    refine q_iconst dX12_canEnd_14 ?_
    refine q_iload_n dX12_canEnd_15 rfl ?_
    replace E := grd_some E
    obtain ⟨g7, E⟩ := E
    replace E := cal_some E
    obtain ⟨_, h5, hc, E⟩ := E
    refine r_callV2 (mc := 0) (ms := 0) dX12_canEnd_16 KX12_280 (c_X12_builds hc) g7 (by decide) (Nat.le_of_ble_eq_true rfl) (fun _ _ q => q.elim) ?_
    rintro _ _ ⟨rfl, rfl⟩
    clear hc
    refine q_aload_n dX12_canEnd_19 rfl ?_
    replace E := grd_some E
    obtain ⟨g8, E⟩ := E
    replace E := orf_some E
    obtain ⟨a9, ea9, E⟩ := E
    refine r_getR dX12_canEnd_20 FX12_51 g8 ea9 ?_
    refine q_iconst dX12_canEnd_23 ?_
    replace E := grd_some E
    obtain ⟨g10, E⟩ := E
    replace E := grd_some E
    obtain ⟨g11, E⟩ := E
    refine r_iaload dX12_canEnd_24 g10 g11 ?_
    refine q_aload_n dX12_canEnd_25 rfl ?_
    replace E := orf_some E
    obtain ⟨a12, ea12, E⟩ := E
    refine r_getR dX12_canEnd_26 FX12_48 g8 ea12 ?_
    refine q_iload_n dX12_canEnd_29 rfl ?_
    refine q_bipush (v := (Int32.ofInt 97)) dX12_canEnd_30 (by decide) ?_
    refine q_isub dX12_canEnd_32 ?_
    replace E := grd_some E
    obtain ⟨g13, E⟩ := E
    replace E := grd_some E
    obtain ⟨g14, E⟩ := E
    refine r_iaload dX12_canEnd_33 g13 g14 ?_
    refine q_iand dX12_canEnd_34 ?_
    refine q_if_eq (tgt := 42) dX12_canEnd_35 (by decide) (fun z15 => ?_) (fun z15 => ?_)
    · replace E := ite_t E z15
      refine q_iconst dX12_canEnd_42 ?_
      exact r_fewer [none, none, none] (ls_n (ls_n (ls_n ls_0))) (s_X12_canEnd_43 (Int32.ofInt 0) h5 E hK)
    · replace E := ite_f E z15
      refine q_iconst dX12_canEnd_38 ?_
      refine q_goto (tgt := 43) dX12_canEnd_39 (by decide) ?_
      exact r_fewer [none, none, none] (ls_n (ls_n (ls_n ls_0))) (s_X12_canEnd_43 (Int32.ofInt 1) h5 E hK)
  · replace E := ite_f E z4
    refine q_iconst dX12_canEnd_11 ?_
    cases E
    exact q_zreturn dX12_canEnd_12 rfl (by decide) hK
theorem c_X12_canEnd {l : Launch} {G : mG} {p0 : Nat} {v1 : Int32} {v2 : Int32} {h h' : mH} {r : Int32} (E : f_X12_canEnd p0 v1 v2 h = some (r, h')) : mMet l G m_X12_canEnd 4 0 0 [.ref p0, .int v1, .int v2] h (fun v k => v = some (.int r) ∧ h' = k) (fun _ _ => False) :=
  mMet_of (by decide +kernel) rfl (ac_c rfl (ac_c rfl (ac_c rfl ac_0))) (Nat.le_of_ble_eq_true rfl) (s_X12_canEnd_0 p0 v1 v2 h E (And.intro rfl rfl))
set_option maxRecDepth 100000 in
set_option maxHeartbeats 4000000 in
theorem s_X12_canBeAdjacent_68 {l : Launch} {G : mG} {Q : Option Value → mH → Prop} {X : String → mH → Prop} (p0 : Nat) (v2 : Int32) (v3 : Int32) (v4 : Int32) (h : mH) {o : ((Int32 × mH) ⊕ (Int32 × mH))} (E : g_X12_canBeAdjacent_68 p0 v2 v3 v4 h = some o) (hK : (lpK (w_X12_canBeAdjacent_21 l G Q X p0 v2 v3) (fiI Q)) o) : mW l G m_X12_canBeAdjacent 4 0 0 68 [some (.ref p0), none, some (.int v2), some (.int v3), some (.int v4)] [] h Q X := by
  unfold g_X12_canBeAdjacent_68 at E
  replace E := bnd_x E
  obtain ⟨x1, ex1, E⟩ := E
  refine r_iinc (v := x1) dX12_canBeAdjacent_68 rfl ex1 (by decide) (ls' := [some (.ref p0), none, some (.int v2), some (.int v3), some (.int x1)]) rfl ?_
  refine q_goto (tgt := 21) dX12_canBeAdjacent_71 (by decide) ?_
  cases E
  exact r_fewer [some (.ref p0), none, some (.int v2), some (.int v3), some (.int x1)] (ls_s (ls_n (ls_s (ls_s (ls_s ls_0))))) hK
set_option maxRecDepth 100000 in
set_option maxHeartbeats 4000000 in
theorem sb_X12_canBeAdjacent_21 {l : Launch} {G : mG} {Q : Option Value → mH → Prop} {X : String → mH → Prop} (p0 : Nat) (v2 : Int32) (v3 : Int32) (v4 : Int32) (h : mH) {o : ((Int32 × mH) ⊕ (Int32 × mH))} (E : b0_X12_canBeAdjacent_21 p0 v2 v3 v4 h = some o) (hK : (lpK (w_X12_canBeAdjacent_21 l G Q X p0 v2 v3) (fiI Q)) o) : mW l G m_X12_canBeAdjacent 4 0 0 21 [some (.ref p0), none, some (.int v2), some (.int v3), some (.int v4)] [] h Q X := by
  unfold b0_X12_canBeAdjacent_21 at E
  refine q_iload dX12_canBeAdjacent_21 rfl ?_
  refine q_bipush (v := (Int32.ofInt 7)) dX12_canBeAdjacent_23 (by decide) ?_
  refine q_icmp_ge (tgt := 74) dX12_canBeAdjacent_25 (by decide) (fun z1 => ?_) (fun z1 => ?_)
  · replace E := ite_t E z1
    refine q_iconst dX12_canBeAdjacent_74 ?_
    cases E
    exact q_zreturn dX12_canBeAdjacent_75 rfl (by decide) hK
  · replace E := ite_f E z1
    refine q_aload_n dX12_canBeAdjacent_28 rfl ?_
    replace E := grd_some E
    obtain ⟨g2, E⟩ := E
    replace E := orf_some E
    obtain ⟨a3, ea3, E⟩ := E
    refine r_getR dX12_canBeAdjacent_29 FX12_48 g2 ea3 ?_
    refine q_iload_n dX12_canBeAdjacent_32 rfl ?_
    refine q_bipush (v := (Int32.ofInt 97)) dX12_canBeAdjacent_33 (by decide) ?_
    refine q_isub dX12_canBeAdjacent_35 ?_
    replace E := grd_some E
    obtain ⟨g4, E⟩ := E
    replace E := grd_some E
    obtain ⟨g5, E⟩ := E
    refine r_iaload dX12_canBeAdjacent_36 g4 g5 ?_
    refine q_iload dX12_canBeAdjacent_37 rfl ?_
    refine q_ishr dX12_canBeAdjacent_39 ?_
    refine q_iconst dX12_canBeAdjacent_40 ?_
    refine q_iand dX12_canBeAdjacent_41 ?_
    refine q_iconst dX12_canBeAdjacent_42 ?_
    refine q_icmp_ne (tgt := 68) dX12_canBeAdjacent_43 (by decide) (fun z6 => ?_) (fun z6 => ?_)
    · replace E := ite_f E z6
      exact r_fewer [some (.ref p0), none, some (.int v2), some (.int v3), some (.int v4)] (ls_s (ls_n (ls_s (ls_s (ls_s ls_0))))) (s_X12_canBeAdjacent_68 p0 v2 v3 v4 h E hK)
    · replace E := ite_t E z6
      refine q_aload_n dX12_canBeAdjacent_46 rfl ?_
      replace E := orf_some E
      obtain ⟨a7, ea7, E⟩ := E
      refine r_getR dX12_canBeAdjacent_47 FX12_45 g2 ea7 ?_
      refine q_iload dX12_canBeAdjacent_50 rfl ?_
      replace E := grd_some E
      obtain ⟨g8, E⟩ := E
      replace E := grd_some E
      obtain ⟨g9, E⟩ := E
      refine r_iaload dX12_canBeAdjacent_52 g8 g9 ?_
      refine q_aload_n dX12_canBeAdjacent_53 rfl ?_
      refine r_getR dX12_canBeAdjacent_54 FX12_48 g2 ea3 ?_
      refine q_iload_n dX12_canBeAdjacent_57 rfl ?_
      refine q_bipush (v := (Int32.ofInt 97)) dX12_canBeAdjacent_58 (by decide) ?_
      refine q_isub dX12_canBeAdjacent_60 ?_
      replace E := grd_some E
      obtain ⟨g11, E⟩ := E
      refine r_iaload dX12_canBeAdjacent_61 g4 g11 ?_
      refine q_iand dX12_canBeAdjacent_62 ?_
      refine q_if_eq (tgt := 68) dX12_canBeAdjacent_63 (by decide) (fun z12 => ?_) (fun z12 => ?_)
      · replace E := ite_t E z12
        exact r_fewer [some (.ref p0), none, some (.int v2), some (.int v3), some (.int v4)] (ls_s (ls_n (ls_s (ls_s (ls_s ls_0))))) (s_X12_canBeAdjacent_68 p0 v2 v3 v4 h E hK)
      · replace E := ite_f E z12
        refine q_iconst dX12_canBeAdjacent_66 ?_
        cases E
        exact q_zreturn dX12_canBeAdjacent_67 rfl (by decide) hK
theorem s_X12_canBeAdjacent_21 {l : Launch} {G : mG} {Q : Option Value → mH → Prop} {X : String → mH → Prop} (p0 : Nat) (v2 : Int32) (v3 : Int32) (v4 : Int32) (h : mH) {o : Int32 × mH} (E : g_X12_canBeAdjacent_21 p0 v2 v3 v4 h = some o) (hK : (fiI Q) o) : mW l G m_X12_canBeAdjacent 4 0 0 21 [some (.ref p0), none, some (.int v2), some (.int v3), some (.int v4)] [] h Q X :=
  (lp_go (w_X12_canBeAdjacent_21 l G Q X p0 v2 v3) (fiI Q) (b_X12_canBeAdjacent_21 p0 v2 v3) (fun s o E hK => sb_X12_canBeAdjacent_21 p0 v2 v3 s.1 (s.2) E hK) _ _ _ E hK : w_X12_canBeAdjacent_21 l G Q X p0 v2 v3 (v4, h))
set_option maxRecDepth 100000 in
set_option maxHeartbeats 4000000 in
theorem s_X12_canBeAdjacent_0 {l : Launch} {G : mG} {Q : Option Value → mH → Prop} {X : String → mH → Prop} (p0 : Nat) (v1 : Int32) (v2 : Int32) (v3 : Int32) (h : mH) {o : Int32 × mH} (E : f_X12_canBeAdjacent p0 v1 v2 v3 h = some o) (hK : (fiI Q) o) : mW l G m_X12_canBeAdjacent 4 0 0 0 [some (.ref p0), some (.int v1), some (.int v2), some (.int v3), none] [] h Q X := by
  unfold f_X12_canBeAdjacent at E
  refine q_aload_n dX12_canBeAdjacent_0 rfl ?_
  refine q_iload_n dX12_canBeAdjacent_1 rfl ?_
  refine q_iload_n dX12_canBeAdjacent_2 rfl ?_
  refine q_iload_n dX12_canBeAdjacent_3 rfl ?_
  replace E := grd_some E
  obtain ⟨g3, E⟩ := E
  replace E := cal_some E
  obtain ⟨x2, h1, hc, E⟩ := E
  refine r_callV3 (mc := 0) (ms := 0) dX12_canBeAdjacent_4 KX12_322 (c_X12_misses hc) g3 (by decide) (Nat.le_of_ble_eq_true rfl) (fun _ _ q => q.elim) ?_
  rintro _ _ ⟨rfl, rfl⟩
  clear hc
  refine q_if_eq (tgt := 12) dX12_canBeAdjacent_7 (by decide) (fun z4 => ?_) (fun z4 => ?_)
  · replace E := ite_t E z4
    refine q_aload_n dX12_canBeAdjacent_12 rfl ?_
    refine q_iconst dX12_canBeAdjacent_13 ?_
    refine q_iload_n dX12_canBeAdjacent_14 rfl ?_
    replace E := grd_some E
    obtain ⟨g7, E⟩ := E
    replace E := cal_some E
    obtain ⟨_, h5, hc, E⟩ := E
    refine r_callV2 (mc := 0) (ms := 0) dX12_canBeAdjacent_15 KX12_280 (c_X12_builds hc) g7 (by decide) (Nat.le_of_ble_eq_true rfl) (fun _ _ q => q.elim) ?_
    rintro _ _ ⟨rfl, rfl⟩
    clear hc
    refine q_iconst dX12_canBeAdjacent_18 ?_
    refine r_istore dX12_canBeAdjacent_19 (by decide) rfl (ls' := [some (.ref p0), some (.int v1), some (.int v2), some (.int v3), some (.int (Int32.ofInt 0))]) rfl ?_
    exact r_fewer [some (.ref p0), none, some (.int v2), some (.int v3), some (.int (Int32.ofInt 0))] (ls_s (ls_n (ls_s (ls_s (ls_s ls_0))))) (s_X12_canBeAdjacent_21 p0 v2 v3 (Int32.ofInt 0) h5 E hK)
  · replace E := ite_f E z4
    refine q_iconst dX12_canBeAdjacent_10 ?_
    cases E
    exact q_zreturn dX12_canBeAdjacent_11 rfl (by decide) hK
theorem c_X12_canBeAdjacent {l : Launch} {G : mG} {p0 : Nat} {v1 : Int32} {v2 : Int32} {v3 : Int32} {h h' : mH} {r : Int32} (E : f_X12_canBeAdjacent p0 v1 v2 v3 h = some (r, h')) : mMet l G m_X12_canBeAdjacent 4 0 0 [.ref p0, .int v1, .int v2, .int v3] h (fun v k => v = some (.int r) ∧ h' = k) (fun _ _ => False) :=
  mMet_of (by decide +kernel) rfl (ac_c rfl (ac_c rfl (ac_c rfl (ac_c rfl ac_0)))) (Nat.le_of_ble_eq_true rfl) (s_X12_canBeAdjacent_0 p0 v1 v2 v3 h E (And.intro rfl rfl))
set_option maxRecDepth 100000 in
set_option maxHeartbeats 4000000 in
theorem sb_X12_behind_6 {l : Launch} {G : mG} {Q : Option Value → mH → Prop} {X : String → mH → Prop} (p0 : Nat) (v1 : Int32) (v2 : Int32) (v3 : Int32) (h : mH) {o : ((Int32 × Int32 × mH) ⊕ (Int32 × mH))} (E : b0_X12_behind_6 p0 v1 v2 v3 h = some o) (hK : (lpK (w_X12_behind_6 l G Q X p0 v1) (fiI Q)) o) : mW l G m_X12_behind 1 0 0 6 [some (.ref p0), some (.int v1), some (.int v2), some (.int v3)] [] h Q X := by
  unfold b0_X12_behind_6 at E
  refine q_iload_n dX12_behind_6 rfl ?_
  refine q_iload_n dX12_behind_7 rfl ?_
  refine q_icmp_ge (tgt := 30) dX12_behind_8 (by decide) (fun z1 => ?_) (fun z1 => ?_)
  · replace E := ite_t E z1
    refine q_iload_n dX12_behind_30 rfl ?_
    cases E
    exact q_ireturn dX12_behind_31 rfl hK
  · replace E := ite_f E z1
    refine q_aload_n dX12_behind_11 rfl ?_
    refine q_iconst dX12_behind_12 ?_
    refine q_iload_n dX12_behind_13 rfl ?_
    refine q_aload_n dX12_behind_14 rfl ?_
    replace E := grd_some E
    obtain ⟨g2, E⟩ := E
    replace E := orf_some E
    obtain ⟨a3, ea3, E⟩ := E
    refine r_getR dX12_behind_15 FX12_39 g2 ea3 ?_
    refine q_iload_n dX12_behind_18 rfl ?_
    replace E := grd_some E
    obtain ⟨g4, E⟩ := E
    replace E := grd_some E
    obtain ⟨g5, E⟩ := E
    refine r_iaload dX12_behind_19 g4 g5 ?_
    replace E := cal_some E
    obtain ⟨x7, h6, hc, E⟩ := E
    refine r_callV3 (mc := 0) (ms := 0) dX12_behind_20 KX12_277 (c_X12_to hc) g2 (by decide) (Nat.le_of_ble_eq_true rfl) (fun _ _ q => q.elim) ?_
    rintro _ _ ⟨rfl, rfl⟩
    clear hc
    refine r_istore_n dX12_behind_23 (by decide) rfl (ls' := [some (.ref p0), some (.int v1), some (.int x7), some (.int v3)]) rfl ?_
    replace E := bnd_x E
    obtain ⟨x8, ex8, E⟩ := E
    refine r_iinc (v := x8) dX12_behind_24 rfl ex8 (by decide) (ls' := [some (.ref p0), some (.int v1), some (.int x7), some (.int x8)]) rfl ?_
    refine q_goto (tgt := 6) dX12_behind_27 (by decide) ?_
    cases E
    exact r_fewer [some (.ref p0), some (.int v1), some (.int x7), some (.int x8)] (ls_s (ls_s (ls_s (ls_s ls_0)))) hK
theorem s_X12_behind_6 {l : Launch} {G : mG} {Q : Option Value → mH → Prop} {X : String → mH → Prop} (p0 : Nat) (v1 : Int32) (v2 : Int32) (v3 : Int32) (h : mH) {o : Int32 × mH} (E : g_X12_behind_6 p0 v1 v2 v3 h = some o) (hK : (fiI Q) o) : mW l G m_X12_behind 1 0 0 6 [some (.ref p0), some (.int v1), some (.int v2), some (.int v3)] [] h Q X :=
  (lp_go (w_X12_behind_6 l G Q X p0 v1) (fiI Q) (b_X12_behind_6 p0 v1) (fun s o E hK => sb_X12_behind_6 p0 v1 s.1 s.2.1 (s.2.2) E hK) _ _ _ E hK : w_X12_behind_6 l G Q X p0 v1 (v2, v3, h))
set_option maxRecDepth 100000 in
set_option maxHeartbeats 4000000 in
theorem s_X12_behind_0 {l : Launch} {G : mG} {Q : Option Value → mH → Prop} {X : String → mH → Prop} (p0 : Nat) (v1 : Int32) (h : mH) {o : Int32 × mH} (E : f_X12_behind p0 v1 h = some o) (hK : (fiI Q) o) : mW l G m_X12_behind 1 0 0 0 [some (.ref p0), some (.int v1), none, none] [] h Q X := by
  unfold f_X12_behind at E
  refine q_sipush (v := (Int32.ofInt 128)) dX12_behind_0 (by decide) ?_
  refine r_istore_n dX12_behind_3 (by decide) rfl (ls' := [some (.ref p0), some (.int v1), some (.int (Int32.ofInt 128)), none]) rfl ?_
  refine q_iconst dX12_behind_4 ?_
  refine r_istore_n dX12_behind_5 (by decide) rfl (ls' := [some (.ref p0), some (.int v1), some (.int (Int32.ofInt 128)), some (.int (Int32.ofInt 0))]) rfl ?_
  exact r_fewer [some (.ref p0), some (.int v1), some (.int (Int32.ofInt 128)), some (.int (Int32.ofInt 0))] (ls_s (ls_s (ls_s (ls_s ls_0)))) (s_X12_behind_6 p0 v1 (Int32.ofInt 128) (Int32.ofInt 0) h E hK)
theorem c_X12_behind {l : Launch} {G : mG} {p0 : Nat} {v1 : Int32} {h h' : mH} {r : Int32} (E : f_X12_behind p0 v1 h = some (r, h')) : mMet l G m_X12_behind 1 0 0 [.ref p0, .int v1] h (fun v k => v = some (.int r) ∧ h' = k) (fun _ _ => False) :=
  mMet_of (by decide +kernel) rfl (ac_c rfl (ac_c rfl ac_0)) (Nat.le_of_ble_eq_true rfl) (s_X12_behind_0 p0 v1 h E (And.intro rfl rfl))
set_option maxRecDepth 100000 in
set_option maxHeartbeats 4000000 in
theorem s_X12_hasNone_26 {l : Launch} {G : mG} {Q : Option Value → mH → Prop} {X : String → mH → Prop} (s0 : Int32) (h : mH) {o : Int32 × mH} (E : g_X12_hasNone_26 s0 h = some o) (hK : (fiI Q) o) : mW l G m_X12_hasNone 3 0 0 26 [none, none] [.int s0] h Q X := by
  unfold g_X12_hasNone_26 at E
  replace E := grd_some E
  obtain ⟨g1, E⟩ := E
  cases E
  exact q_zreturn dX12_hasNone_26 rfl (narZ g1) hK
set_option maxRecDepth 100000 in
set_option maxHeartbeats 4000000 in
theorem s_X12_hasNone_61 {l : Launch} {G : mG} {Q : Option Value → mH → Prop} {X : String → mH → Prop} (s0 : Int32) (h : mH) {o : Int32 × mH} (E : g_X12_hasNone_61 s0 h = some o) (hK : (fiI Q) o) : mW l G m_X12_hasNone 3 0 0 61 [none, none] [.int s0] h Q X := by
  unfold g_X12_hasNone_61 at E
  replace E := grd_some E
  obtain ⟨g1, E⟩ := E
  cases E
  exact q_zreturn dX12_hasNone_61 rfl (narZ g1) hK
set_option maxRecDepth 100000 in
set_option maxHeartbeats 4000000 in
theorem s_X12_hasNone_48 {l : Launch} {G : mG} {Q : Option Value → mH → Prop} {X : String → mH → Prop} (p0 : Nat) (h : mH) {o : Int32 × mH} (E : g_X12_hasNone_48 p0 h = some o) (hK : (fiI Q) o) : mW l G m_X12_hasNone 3 0 0 48 [some (.ref p0), none] [] h Q X := by
  unfold g_X12_hasNone_48 at E
  refine q_aload_n dX12_hasNone_48 rfl ?_
  refine q_iconst dX12_hasNone_49 ?_
  replace E := grd_some E
  obtain ⟨g3, E⟩ := E
  replace E := cal_some E
  obtain ⟨x2, h1, hc, E⟩ := E
  refine r_callV1 (mc := 0) (ms := 0) dX12_hasNone_50 KX12_196 (c_X12_fails hc) g3 (by decide) (Nat.le_of_ble_eq_true rfl) (fun _ _ q => q.elim) ?_
  rintro _ _ ⟨rfl, rfl⟩
  clear hc
  refine q_if_ne (tgt := 60) dX12_hasNone_53 (by decide) (fun z4 => ?_) (fun z4 => ?_)
  · replace E := ite_f E z4
    refine q_iconst dX12_hasNone_60 ?_
    exact r_fewer [none, none] (ls_n (ls_n ls_0)) (s_X12_hasNone_61 (Int32.ofInt 0) h1 E hK)
  · replace E := ite_t E z4
    refine q_iconst dX12_hasNone_56 ?_
    refine q_goto (tgt := 61) dX12_hasNone_57 (by decide) ?_
    exact r_fewer [none, none] (ls_n (ls_n ls_0)) (s_X12_hasNone_61 (Int32.ofInt 1) h1 E hK)
set_option maxRecDepth 100000 in
set_option maxHeartbeats 4000000 in
theorem s_X12_hasNone_0 {l : Launch} {G : mG} {Q : Option Value → mH → Prop} {X : String → mH → Prop} (p0 : Nat) (v1 : Int32) (h : mH) {o : Int32 × mH} (E : f_X12_hasNone p0 v1 h = some o) (hK : (fiI Q) o) : mW l G m_X12_hasNone 3 0 0 0 [some (.ref p0), some (.int v1)] [] h Q X := by
  unfold f_X12_hasNone at E
  refine q_aload_n dX12_hasNone_0 rfl ?_
  refine q_iconst dX12_hasNone_1 ?_
  replace E := grd_some E
  obtain ⟨g1, E⟩ := E
  replace E := bnd_x E
  obtain ⟨h2, eh2, E⟩ := E
  refine r_putI (hh := eh2) dX12_hasNone_2 FX12_117 g1 rfl rfl ?_
  refine q_aload_n dX12_hasNone_5 rfl ?_
  refine q_iload_n dX12_hasNone_6 rfl ?_
  replace E := grd_some E
  obtain ⟨g5, E⟩ := E
  replace E := cal_some E
  obtain ⟨x4, h3, hc, E⟩ := E
  refine r_callV1 (mc := 0) (ms := 0) dX12_hasNone_7 KX12_211 (c_X12_holds hc) g5 (by decide) (Nat.le_of_ble_eq_true rfl) (fun _ _ q => q.elim) ?_
  rintro _ _ ⟨rfl, rfl⟩
  clear hc
  refine q_if_ne (tgt := 27) dX12_hasNone_10 (by decide) (fun z6 => ?_) (fun z6 => ?_)
  · replace E := ite_f E z6
    refine q_aload_n dX12_hasNone_27 rfl ?_
    refine q_iconst dX12_hasNone_28 ?_
    refine q_aload_n dX12_hasNone_29 rfl ?_
    replace E := grd_some E
    obtain ⟨g7, E⟩ := E
    refine r_getI dX12_hasNone_30 FX12_165 g7 ?_
    replace E := cal_some E
    obtain ⟨x9, h8, hc, E⟩ := E
    refine r_callV2 (mc := 0) (ms := 0) dX12_hasNone_33 KX12_239 (c_X12_takesWord hc) g7 (by decide) (Nat.le_of_ble_eq_true rfl) (fun _ _ q => q.elim) ?_
    rintro _ _ ⟨rfl, rfl⟩
    clear hc
    refine q_if_eq (tgt := 48) dX12_hasNone_36 (by decide) (fun z10 => ?_) (fun z10 => ?_)
    · replace E := ite_t E z10
      exact r_fewer [some (.ref p0), none] (ls_s (ls_n ls_0)) (s_X12_hasNone_48 p0 h8 E hK)
    · replace E := ite_f E z10
      refine q_aload_n dX12_hasNone_39 rfl ?_
      replace E := grd_some E
      obtain ⟨g11, E⟩ := E
      refine r_getI dX12_hasNone_40 FX12_236 g11 ?_
      refine q_bipush (v := (Int32.ofInt 12)) dX12_hasNone_43 (by decide) ?_
      refine q_icmp_le (tgt := 62) dX12_hasNone_45 (by decide) (fun z12 => ?_) (fun z12 => ?_)
      · replace E := ite_t E z12
        refine q_aload_n dX12_hasNone_62 rfl ?_
        refine q_iconst dX12_hasNone_63 ?_
        refine q_iload_n dX12_hasNone_64 rfl ?_
        replace E := cal_some E
        obtain ⟨_, h13, hc, E⟩ := E
        refine r_callV2 (mc := 0) (ms := 0) dX12_hasNone_65 KX12_280 (c_X12_builds hc) g11 (by decide) (Nat.le_of_ble_eq_true rfl) (fun _ _ q => q.elim) ?_
        rintro _ _ ⟨rfl, rfl⟩
        clear hc
        refine q_iconst dX12_hasNone_68 ?_
        cases E
        exact q_zreturn dX12_hasNone_69 rfl (by decide) hK
      · replace E := ite_f E z12
        exact r_fewer [some (.ref p0), none] (ls_s (ls_n ls_0)) (s_X12_hasNone_48 p0 h8 E hK)
  · replace E := ite_t E z6
    refine q_aload_n dX12_hasNone_13 rfl ?_
    refine q_iconst dX12_hasNone_14 ?_
    replace E := grd_some E
    obtain ⟨g17, E⟩ := E
    replace E := cal_some E
    obtain ⟨x16, h15, hc, E⟩ := E
    refine r_callV1 (mc := 0) (ms := 0) dX12_hasNone_15 KX12_196 (c_X12_fails hc) g17 (by decide) (Nat.le_of_ble_eq_true rfl) (fun _ _ q => q.elim) ?_
    rintro _ _ ⟨rfl, rfl⟩
    clear hc
    refine q_if_ne (tgt := 25) dX12_hasNone_18 (by decide) (fun z18 => ?_) (fun z18 => ?_)
    · replace E := ite_f E z18
      refine q_iconst dX12_hasNone_25 ?_
      exact r_fewer [none, none] (ls_n (ls_n ls_0)) (s_X12_hasNone_26 (Int32.ofInt 0) h15 E hK)
    · replace E := ite_t E z18
      refine q_iconst dX12_hasNone_21 ?_
      refine q_goto (tgt := 26) dX12_hasNone_22 (by decide) ?_
      exact r_fewer [none, none] (ls_n (ls_n ls_0)) (s_X12_hasNone_26 (Int32.ofInt 1) h15 E hK)
theorem c_X12_hasNone {l : Launch} {G : mG} {p0 : Nat} {v1 : Int32} {h h' : mH} {r : Int32} (E : f_X12_hasNone p0 v1 h = some (r, h')) : mMet l G m_X12_hasNone 3 0 0 [.ref p0, .int v1] h (fun v k => v = some (.int r) ∧ h' = k) (fun _ _ => False) :=
  mMet_of (by decide +kernel) rfl (ac_c rfl (ac_c rfl ac_0)) (Nat.le_of_ble_eq_true rfl) (s_X12_hasNone_0 p0 v1 h E (And.intro rfl rfl))
