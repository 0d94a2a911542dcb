set_option maxRecDepth 100000 in
set_option maxHeartbeats 4000000 in
theorem s_X12_addsWord_59 {l : Launch} {G : va_G × (Nat → ClassId)} {Q : Option Value → mH → Prop} {X : String → mH → Prop} (p0 : Nat) (v1 : Int32) (v2 : Int32) (s0 : Int32) (s1 : Int32) (sp2 : Nat) (h : mH) {o : ((Int32 × mH) ⊕ (Int32 × mH))} (E : g_X12_addsWord_59 p0 v1 v2 s0 s1 sp2 h = some o) (hK : (lpK (w_X12_addsWord_26 l G Q X p0 v1) (fiI Q)) o) : mW l G m_X12_addsWord 0 0 0 59 [some (.ref p0), some (.int v1), some (.int v2)] [.int s0, .int s1, .ref sp2] h Q X := by
  unfold g_X12_addsWord_59 at E
  obtain ⟨g2, E⟩ := grd_some E
  obtain ⟨g3, E⟩ := grd_some E
  obtain ⟨h1, eh1, E⟩ := bnd_x E
  refine r_iastore (hh := eh1) dX12_addsWord_59 g2 g3 ?_
  obtain ⟨x4, ex4, E⟩ := bnd_x E
  refine r_iinc (v := x4) dX12_addsWord_60 rfl ex4 (by decide) (ls' := [some (.ref p0), some (.int v1), some (.int x4)]) rfl ?_
  refine q_goto (tgt := 26) dX12_addsWord_63 (by decide) ?_
  cases E
  exact r_fewer [some (.ref p0), some (.int v1), some (.int x4)] (ls_s (ls_s (ls_s ls_0))) hK
set_option maxRecDepth 100000 in
set_option maxHeartbeats 4000000 in
theorem sb_X12_addsWord_26 {l : Launch} {G : va_G × (Nat → ClassId)} {Q : Option Value → mH → Prop} {X : String → mH → Prop} (p0 : Nat) (v1 : Int32) (v2 : Int32) (h : mH) {o : ((Int32 × mH) ⊕ (Int32 × mH))} (E : b0_X12_addsWord_26 p0 v1 v2 h = some o) (hK : (lpK (w_X12_addsWord_26 l G Q X p0 v1) (fiI Q)) o) : mW l G m_X12_addsWord 0 0 0 26 [some (.ref p0), some (.int v1), some (.int v2)] [] h Q X := by
  unfold b0_X12_addsWord_26 at E
  refine q_iload_n dX12_addsWord_26 rfl ?_
  refine q_bipush (v := (Int32.ofInt 8)) dX12_addsWord_27 (by decide) ?_
  refine q_icmp_ge (tgt := 66) dX12_addsWord_29 (by decide) (fun z1 => ?_) (fun z1 => ?_)
  · replace E := ite_t E z1
    refine q_aload_n dX12_addsWord_66 rfl ?_
    obtain ⟨g2, E⟩ := grd_some E
    obtain ⟨a3, ea3, E⟩ := orf_some E
    refine r_getR dX12_addsWord_67 FX12_7 g2 ea3 ?_
    refine q_iconst dX12_addsWord_70 ?_
    refine q_dup2 dX12_addsWord_71 ?_
    obtain ⟨g4, E⟩ := grd_some E
    obtain ⟨g5, E⟩ := grd_some E
    refine r_iaload dX12_addsWord_72 g4 g5 ?_
    refine q_iconst dX12_addsWord_73 ?_
    refine q_iadd dX12_addsWord_74 ?_
    obtain ⟨h6, eh6, E⟩ := bnd_x E
    refine r_iastore (hh := eh6) dX12_addsWord_75 g4 g5 ?_
    refine q_aload_n dX12_addsWord_76 rfl ?_
    obtain ⟨g7, E⟩ := grd_some E
    obtain ⟨a8, ea8, E⟩ := orf_some E
    refine r_getR dX12_addsWord_77 FX12_7 g7 ea8 ?_
    refine q_iconst dX12_addsWord_80 ?_
    obtain ⟨g9, E⟩ := grd_some E
    obtain ⟨g10, E⟩ := grd_some E
    refine r_iaload dX12_addsWord_81 g9 g10 ?_
    refine q_iconst dX12_addsWord_82 ?_
    refine q_isub dX12_addsWord_83 ?_
    cases E
    exact q_ireturn dX12_addsWord_84 rfl hK
  · replace E := ite_f E z1
    refine q_aload_n dX12_addsWord_32 rfl ?_
    obtain ⟨g11, E⟩ := grd_some E
    obtain ⟨a12, ea12, E⟩ := orf_some E
    refine r_getR dX12_addsWord_33 FX12_7 g11 ea12 ?_
    refine q_iload_n dX12_addsWord_36 rfl ?_
    refine q_iconst dX12_addsWord_37 ?_
    refine q_iadd dX12_addsWord_38 ?_
    refine q_iload_n dX12_addsWord_39 rfl ?_
    refine q_iadd dX12_addsWord_40 ?_
    refine q_iload_n dX12_addsWord_41 rfl ?_
    refine q_aload_n dX12_addsWord_42 rfl ?_
    refine r_getI dX12_addsWord_43 FX12_236 g11 ?_
    refine q_icmp_ge (tgt := 58) dX12_addsWord_46 (by decide) (fun z13 => ?_) (fun z13 => ?_)
    · replace E := ite_t E z13
      refine q_iconst dX12_addsWord_58 ?_
      exact r_fewer [some (.ref p0), some (.int v1), some (.int v2)] (ls_s (ls_s (ls_s ls_0))) (s_X12_addsWord_59 p0 v1 v2 (Int32.ofInt 0) ((v1 + (Int32.ofInt 1)) + v2) a12 h E hK)
    · replace E := ite_f E z13
      refine q_aload_n dX12_addsWord_49 rfl ?_
      obtain ⟨a14, ea14, E⟩ := orf_some E
      refine r_getR dX12_addsWord_50 FX12_39 g11 ea14 ?_
      refine q_iload_n dX12_addsWord_53 rfl ?_
      obtain ⟨g15, E⟩ := grd_some E
      obtain ⟨g16, E⟩ := grd_some E
      refine r_iaload dX12_addsWord_54 g15 g16 ?_
      refine q_goto (tgt := 59) dX12_addsWord_55 (by decide) ?_
      exact r_fewer [some (.ref p0), some (.int v1), some (.int v2)] (ls_s (ls_s (ls_s ls_0))) (s_X12_addsWord_59 p0 v1 v2 (gi h a14 v2.toNatClampNeg) ((v1 + (Int32.ofInt 1)) + v2) a12 h E hK)
theorem s_X12_addsWord_26 {l : Launch} {G : va_G × (Nat → ClassId)} {Q : Option Value → mH → Prop} {X : String → mH → Prop} (p0 : Nat) (v1 : Int32) (v2 : Int32) (h : mH) {o : Int32 × mH} (E : g_X12_addsWord_26 p0 v1 v2 h = some o) (hK : (fiI Q) o) : mW l G m_X12_addsWord 0 0 0 26 [some (.ref p0), some (.int v1), some (.int v2)] [] h Q X :=
  (lp_go (w_X12_addsWord_26 l G Q X p0 v1) (fiI Q) (b_X12_addsWord_26 p0 v1) (fun s o E hK => sb_X12_addsWord_26 p0 v1 s.1 (s.2) E hK) _ _ _ E hK : w_X12_addsWord_26 l G Q X p0 v1 (v2, h))
set_option maxRecDepth 100000 in
set_option maxHeartbeats 4000000 in
theorem s_X12_addsWord_0 {l : Launch} {G : va_G × (Nat → ClassId)} {Q : Option Value → mH → Prop} {X : String → mH → Prop} (p0 : Nat) (h : mH) {o : Int32 × mH} (E : f_X12_addsWord p0 h = some o) (hK : (fiI Q) o) : mW l G m_X12_addsWord 0 0 0 0 [some (.ref p0), none, none] [] h Q X := by
  unfold f_X12_addsWord at E
  refine q_sipush (v := (Int32.ofInt 176)) dX12_addsWord_0 (by decide) ?_
  refine q_bipush (v := (Int32.ofInt 9)) dX12_addsWord_3 (by decide) ?_
  refine q_aload_n dX12_addsWord_5 rfl ?_
  obtain ⟨g1, E⟩ := grd_some E
  obtain ⟨a2, ea2, E⟩ := orf_some E
  refine r_getR dX12_addsWord_6 FX12_7 g1 ea2 ?_
  refine q_iconst dX12_addsWord_9 ?_
  obtain ⟨g3, E⟩ := grd_some E
  obtain ⟨g4, E⟩ := grd_some E
  refine r_iaload dX12_addsWord_10 g3 g4 ?_
  refine q_imul dX12_addsWord_11 ?_
  refine q_iadd dX12_addsWord_12 ?_
  obtain ⟨x5, ex5, E⟩ := bnd_x E
  refine r_istore_n dX12_addsWord_13 (by decide) ex5 (ls' := [some (.ref p0), some (.int x5), none]) rfl ?_
  refine q_aload_n dX12_addsWord_14 rfl ?_
  refine r_getR dX12_addsWord_15 FX12_7 g1 ea2 ?_
  refine q_iload_n dX12_addsWord_18 rfl ?_
  refine q_aload_n dX12_addsWord_19 rfl ?_
  refine r_getI dX12_addsWord_20 FX12_236 g1 ?_
  obtain ⟨g8, E⟩ := grd_some E
  obtain ⟨h7, eh7, E⟩ := bnd_x E
  refine r_iastore (hh := eh7) dX12_addsWord_23 g3 g8 ?_
  refine q_iconst dX12_addsWord_24 ?_
  refine r_istore_n dX12_addsWord_25 (by decide) rfl (ls' := [some (.ref p0), some (.int x5), some (.int (Int32.ofInt 0))]) rfl ?_
  exact r_fewer [some (.ref p0), some (.int x5), some (.int (Int32.ofInt 0))] (ls_s (ls_s (ls_s ls_0))) (s_X12_addsWord_26 p0 x5 (Int32.ofInt 0) h7 E hK)
theorem c_X12_addsWord {l : Launch} {G : va_G × (Nat → ClassId)} {p0 : Nat} {h h' : mH} {r : Int32} (E : f_X12_addsWord p0 h = some (r, h')) : mMet l G m_X12_addsWord 0 0 0 [.ref p0] h (fun v k => v = some (.int r) ∧ h' = k) (fun _ _ => False) :=
  mMet_of (by decide +kernel) rfl (ac_c rfl ac_0) (Nat.le_of_ble_eq_true rfl) (s_X12_addsWord_0 p0 h E (And.intro rfl rfl))
set_option maxRecDepth 100000 in
set_option maxHeartbeats 4000000 in
theorem s_X12_addWord_0 {l : Launch} {G : va_G × (Nat → ClassId)} {Q : Option Value → mH → Prop} {X : String → mH → Prop} (p0 : Nat) (h : mH) {o : Int32 × mH} (E : f_X12_addWord p0 h = some o) (hK : (fiI Q) o) : mW l G m_X12_addWord 2 0 0 0 [some (.ref p0), none] [] h Q X := by
  unfold f_X12_addWord at E
  refine q_aload_n dX12_addWord_0 rfl ?_
  refine q_iconst dX12_addWord_1 ?_
  obtain ⟨g1, E⟩ := grd_some E
  obtain ⟨h2, eh2, E⟩ := bnd_x E
  refine r_putI (hh := eh2) dX12_addWord_2 FX12_117 g1 rfl rfl ?_
  refine q_aload_n dX12_addWord_5 rfl ?_
  refine q_aload_n dX12_addWord_6 rfl ?_
  refine q_iconst dX12_addWord_7 ?_
  refine q_aload_n dX12_addWord_8 rfl ?_
  obtain ⟨g3, E⟩ := grd_some E
  refine r_getI dX12_addWord_9 FX12_165 g3 ?_
  obtain ⟨x5, h4, hc, E⟩ := cal_some E
  refine r_callV2 (mc := 0) (ms := 0) dX12_addWord_12 KX12_239 (c_X12_takesWord hc) g3 (by decide) (Nat.le_of_ble_eq_true rfl) (fun _ _ q => q.elim) ?_
  rintro _ _ ⟨rfl, rfl⟩
  clear hc
  obtain ⟨g8, E⟩ := grd_some E
  obtain ⟨x7, h6, hc, E⟩ := cal_some E
  refine r_callV1 (mc := 0) (ms := 0) dX12_addWord_15 KX12_243 (c_X12_notWord hc) g8 (by decide) (Nat.le_of_ble_eq_true rfl) (fun _ _ q => q.elim) ?_
  rintro _ _ ⟨rfl, rfl⟩
  clear hc
  refine r_istore_n dX12_addWord_18 (by decide) rfl (ls' := [some (.ref p0), some (.int x7)]) rfl ?_
  refine q_aload_n dX12_addWord_19 rfl ?_
  refine q_iconst dX12_addWord_20 ?_
  obtain ⟨g9, E⟩ := grd_some E
  obtain ⟨h10, eh10, E⟩ := bnd_x E
  refine r_putI (hh := eh10) dX12_addWord_21 FX12_165 g9 rfl rfl ?_
  refine q_iload_n dX12_addWord_24 rfl ?_
  refine q_if_eq (tgt := 34) dX12_addWord_25 (by decide) (fun z11 => ?_) (fun z11 => ?_)
  · replace E := ite_t E z11
    refine q_aload_n dX12_addWord_34 rfl ?_
    obtain ⟨g14, E⟩ := grd_some E
    obtain ⟨_, h12, hc, E⟩ := cal_some E
    refine r_callV0 (mc := 0) (ms := 0) dX12_addWord_35 KX12_205 (c_X12_remembers hc) g14 (by decide) (Nat.le_of_ble_eq_true rfl) (fun _ _ q => q.elim) ?_
    rintro _ _ ⟨rfl, rfl⟩
    clear hc
    refine q_aload_n dX12_addWord_38 rfl ?_
    obtain ⟨g17, E⟩ := grd_some E
    obtain ⟨x16, h15, hc, E⟩ := cal_some E
    refine r_callV0 (mc := 0) (ms := 0) dX12_addWord_39 KX12_247 (c_X12_addsWord hc) g17 (by decide) (Nat.le_of_ble_eq_true rfl) (fun _ _ q => q.elim) ?_
    rintro _ _ ⟨rfl, rfl⟩
    clear hc
    cases E
    exact q_ireturn dX12_addWord_42 rfl hK
  · replace E := ite_f E z11
    refine q_aload_n dX12_addWord_28 rfl ?_
    refine q_iload_n dX12_addWord_29 rfl ?_
    obtain ⟨g20, E⟩ := grd_some E
    obtain ⟨x19, h18, hc, E⟩ := cal_some E
    refine r_callV1 (mc := 0) (ms := 0) dX12_addWord_30 KX12_196 (c_X12_fails hc) g20 (by decide) (Nat.le_of_ble_eq_true rfl) (fun _ _ q => q.elim) ?_
    rintro _ _ ⟨rfl, rfl⟩
    clear hc
    cases E
    exact q_ireturn dX12_addWord_33 rfl hK
theorem c_X12_addWord {l : Launch} {G : va_G × (Nat → ClassId)} {p0 : Nat} {h h' : mH} {r : Int32} (E : f_X12_addWord p0 h = some (r, h')) : mMet l G m_X12_addWord 2 0 0 [.ref p0] h (fun v k => v = some (.int r) ∧ h' = k) (fun _ _ => False) :=
  mMet_of (by decide +kernel) rfl (ac_c rfl ac_0) (Nat.le_of_ble_eq_true rfl) (s_X12_addWord_0 p0 h E (And.intro rfl rfl))
set_option maxRecDepth 100000 in
set_option maxHeartbeats 4000000 in
theorem s_X12_isWord_0 {l : Launch} {G : va_G × (Nat → ClassId)} {Q : Option Value → mH → Prop} {X : String → mH → Prop} (p0 : Nat) (v1 : Int32) (h : mH) {o : Int32 × mH} (E : f_X12_isWord p0 v1 h = some o) (hK : (fiI Q) o) : mW l G m_X12_isWord 1 0 0 0 [some (.ref p0), some (.int v1)] [] h Q X := by
  unfold f_X12_isWord at E
  refine q_iload_n dX12_isWord_0 rfl ?_
  refine q_iconst dX12_isWord_1 ?_
  refine q_aload_n dX12_isWord_2 rfl ?_
  obtain ⟨g1, E⟩ := grd_some E
  obtain ⟨a2, ea2, E⟩ := orf_some E
  refine r_getR dX12_isWord_3 FX12_7 g1 ea2 ?_
  refine q_iconst dX12_isWord_6 ?_
  obtain ⟨g3, E⟩ := grd_some E
  obtain ⟨g4, E⟩ := grd_some E
  refine r_iaload dX12_isWord_7 g3 g4 ?_
  refine q_iconst dX12_isWord_8 ?_
  refine q_isub dX12_isWord_9 ?_
  obtain ⟨x6, h5, hc, E⟩ := cal_some E
  refine r_callS3 (mc := 0) (ms := 0) dX12_isWord_10 KX12_132 (c_X12_isBetween hc) (by decide) (Nat.le_of_ble_eq_true rfl) (fun _ _ q => q.elim) ?_
  rintro _ _ ⟨rfl, rfl⟩
  clear hc
  obtain ⟨g7, E⟩ := grd_some E
  cases E
  exact q_zreturn dX12_isWord_13 rfl (narZ g7) hK
theorem c_X12_isWord {l : Launch} {G : va_G × (Nat → ClassId)} {p0 : Nat} {v1 : Int32} {h h' : mH} {r : Int32} (E : f_X12_isWord p0 v1 h = some (r, h')) : mMet l G m_X12_isWord 1 0 0 [.ref p0, .int v1] h (fun v k => v = some (.int r) ∧ h' = k) (fun _ _ => False) :=
  mMet_of (by decide +kernel) rfl (ac_c rfl (ac_c rfl ac_0)) (Nat.le_of_ble_eq_true rfl) (s_X12_isWord_0 p0 v1 h E (And.intro rfl rfl))
set_option maxRecDepth 100000 in
set_option maxHeartbeats 4000000 in
theorem sb_X12_cuts_61 {l : Launch} {G : va_G × (Nat → ClassId)} {Q : Option Value → mH → Prop} {X : String → mH → Prop} (p0 : Nat) (v2 : Int32) (v3 : Int32) (h : mH) {o : ((Int32 × mH) ⊕ (Int32 × mH))} (E : b0_X12_cuts_61 p0 v2 v3 h = some o) (hK : (lpK (w_X12_cuts_61 l G Q X p0 v2) (fiI Q)) o) : mW l G m_X12_cuts 0 0 0 61 [some (.ref p0), none, some (.int v2), some (.int v3)] [] h Q X := by
  unfold b0_X12_cuts_61 at E
  refine q_iload_n dX12_cuts_61 rfl ?_
  refine q_bipush (v := (Int32.ofInt 9)) dX12_cuts_62 (by decide) ?_
  refine q_icmp_ge (tgt := 82) dX12_cuts_64 (by decide) (fun z1 => ?_) (fun z1 => ?_)
  · replace E := ite_t E z1
    refine q_aload_n dX12_cuts_82 rfl ?_
    obtain ⟨g2, E⟩ := grd_some E
    obtain ⟨a3, ea3, E⟩ := orf_some E
    refine r_getR dX12_cuts_83 FX12_7 g2 ea3 ?_
    refine q_iconst dX12_cuts_86 ?_
    obtain ⟨g4, E⟩ := grd_some E
    obtain ⟨g5, E⟩ := grd_some E
    refine r_iaload dX12_cuts_87 g4 g5 ?_
    cases E
    exact q_ireturn dX12_cuts_88 rfl hK
  · replace E := ite_f E z1
    refine q_aload_n dX12_cuts_67 rfl ?_
    obtain ⟨g6, E⟩ := grd_some E
    obtain ⟨a7, ea7, E⟩ := orf_some E
    refine r_getR dX12_cuts_68 FX12_7 g6 ea7 ?_
    refine q_iload_n dX12_cuts_71 rfl ?_
    refine q_iload_n dX12_cuts_72 rfl ?_
    refine q_iadd dX12_cuts_73 ?_
    refine q_iconst dX12_cuts_74 ?_
    obtain ⟨g9, E⟩ := grd_some E
    obtain ⟨g10, E⟩ := grd_some E
    obtain ⟨h8, eh8, E⟩ := bnd_x E
    refine r_iastore (hh := eh8) dX12_cuts_75 g9 g10 ?_
    obtain ⟨x11, ex11, E⟩ := bnd_x E
    refine r_iinc (v := x11) dX12_cuts_76 rfl ex11 (by decide) (ls' := [some (.ref p0), none, some (.int v2), some (.int x11)]) rfl ?_
    refine q_goto (tgt := 61) dX12_cuts_79 (by decide) ?_
    cases E
    exact r_fewer [some (.ref p0), none, some (.int v2), some (.int x11)] (ls_s (ls_n (ls_s (ls_s ls_0)))) hK
theorem s_X12_cuts_61 {l : Launch} {G : va_G × (Nat → ClassId)} {Q : Option Value → mH → Prop} {X : String → mH → Prop} (p0 : Nat) (v2 : Int32) (v3 : Int32) (h : mH) {o : Int32 × mH} (E : g_X12_cuts_61 p0 v2 v3 h = some o) (hK : (fiI Q) o) : mW l G m_X12_cuts 0 0 0 61 [some (.ref p0), none, some (.int v2), some (.int v3)] [] h Q X :=
  (lp_go (w_X12_cuts_61 l G Q X p0 v2) (fiI Q) (b_X12_cuts_61 p0 v2) (fun s o E hK => sb_X12_cuts_61 p0 v2 s.1 (s.2) E hK) _ _ _ E hK : w_X12_cuts_61 l G Q X p0 v2 (v3, h))
set_option maxRecDepth 100000 in
set_option maxHeartbeats 4000000 in
theorem sb_X12_cuts_33 {l : Launch} {G : va_G × (Nat → ClassId)} {Q : Option Value → mH → Prop} {X : String → mH → Prop} (p0 : Nat) (v2 : Int32) (v3 : Int32) (h : mH) {o : ((Int32 × mH) ⊕ (Int32 × mH))} (E : b0_X12_cuts_33 p0 v2 v3 h = some o) (hK : (lpK (w_X12_cuts_33 l G Q X p0 v2) (fiI Q)) o) : mW l G m_X12_cuts 0 0 0 33 [some (.ref p0), none, some (.int v2), some (.int v3)] [] h Q X := by
  unfold b0_X12_cuts_33 at E
  refine q_iload_n dX12_cuts_33 rfl ?_
  refine q_iload_n dX12_cuts_34 rfl ?_
  refine q_icmp_ge (tgt := 59) dX12_cuts_35 (by decide) (fun z1 => ?_) (fun z1 => ?_)
  · replace E := ite_t E z1
    refine q_iconst dX12_cuts_59 ?_
    refine r_istore_n dX12_cuts_60 (by decide) rfl (ls' := [some (.ref p0), none, some (.int v2), some (.int (Int32.ofInt 0))]) rfl ?_
    obtain ⟨o0, E0, rfl⟩ := inrO_some E
    exact r_fewer [some (.ref p0), none, some (.int v2), some (.int (Int32.ofInt 0))] (ls_s (ls_n (ls_s (ls_s ls_0)))) (s_X12_cuts_61 p0 v2 (Int32.ofInt 0) h E0 hK)
  · replace E := ite_f E z1
    refine q_aload_n dX12_cuts_38 rfl ?_
    obtain ⟨g2, E⟩ := grd_some E
    obtain ⟨a3, ea3, E⟩ := orf_some E
    refine r_getR dX12_cuts_39 FX12_7 g2 ea3 ?_
    refine q_iload_n dX12_cuts_42 rfl ?_
    refine q_aload_n dX12_cuts_43 rfl ?_
    refine r_getR dX12_cuts_44 FX12_7 g2 ea3 ?_
    refine q_iload_n dX12_cuts_47 rfl ?_
    refine q_bipush (v := (Int32.ofInt 9)) dX12_cuts_48 (by decide) ?_
    refine q_iadd dX12_cuts_50 ?_
    obtain ⟨g5, E⟩ := grd_some E
    obtain ⟨g6, E⟩ := grd_some E
    refine r_iaload dX12_cuts_51 g5 g6 ?_
    obtain ⟨g8, E⟩ := grd_some E
    obtain ⟨h7, eh7, E⟩ := bnd_x E
    refine r_iastore (hh := eh7) dX12_cuts_52 g5 g8 ?_
    obtain ⟨x9, ex9, E⟩ := bnd_x E
    refine r_iinc (v := x9) dX12_cuts_53 rfl ex9 (by decide) (ls' := [some (.ref p0), none, some (.int v2), some (.int x9)]) rfl ?_
    refine q_goto (tgt := 33) dX12_cuts_56 (by decide) ?_
    cases E
    exact r_fewer [some (.ref p0), none, some (.int v2), some (.int x9)] (ls_s (ls_n (ls_s (ls_s ls_0)))) hK
theorem s_X12_cuts_33 {l : Launch} {G : va_G × (Nat → ClassId)} {Q : Option Value → mH → Prop} {X : String → mH → Prop} (p0 : Nat) (v2 : Int32) (v3 : Int32) (h : mH) {o : Int32 × mH} (E : g_X12_cuts_33 p0 v2 v3 h = some o) (hK : (fiI Q) o) : mW l G m_X12_cuts 0 0 0 33 [some (.ref p0), none, some (.int v2), some (.int v3)] [] h Q X :=
  (lp_go (w_X12_cuts_33 l G Q X p0 v2) (fiI Q) (b_X12_cuts_33 p0 v2) (fun s o E hK => sb_X12_cuts_33 p0 v2 s.1 (s.2) E hK) _ _ _ E hK : w_X12_cuts_33 l G Q X p0 v2 (v3, h))
set_option maxRecDepth 100000 in
set_option maxHeartbeats 4000000 in
theorem s_X12_cuts_0 {l : Launch} {G : va_G × (Nat → ClassId)} {Q : Option Value → mH → Prop} {X : String → mH → Prop} (p0 : Nat) (v1 : Int32) (h : mH) {o : Int32 × mH} (E : f_X12_cuts p0 v1 h = some o) (hK : (fiI Q) o) : mW l G m_X12_cuts 0 0 0 0 [some (.ref p0), some (.int v1), none, none] [] h Q X := by
  unfold f_X12_cuts at E
  refine q_aload_n dX12_cuts_0 rfl ?_
  obtain ⟨g1, E⟩ := grd_some E
  obtain ⟨a2, ea2, E⟩ := orf_some E
  refine r_getR dX12_cuts_1 FX12_7 g1 ea2 ?_
  refine q_iconst dX12_cuts_4 ?_
  refine q_dup2 dX12_cuts_5 ?_
  obtain ⟨g3, E⟩ := grd_some E
  obtain ⟨g4, E⟩ := grd_some E
  refine r_iaload dX12_cuts_6 g3 g4 ?_
  refine q_iconst dX12_cuts_7 ?_
  refine q_isub dX12_cuts_8 ?_
  obtain ⟨h5, eh5, E⟩ := bnd_x E
  refine r_iastore (hh := eh5) dX12_cuts_9 g3 g4 ?_
  refine q_sipush (v := (Int32.ofInt 176)) dX12_cuts_10 (by decide) ?_
  refine q_bipush (v := (Int32.ofInt 9)) dX12_cuts_13 (by decide) ?_
  refine q_aload_n dX12_cuts_15 rfl ?_
  obtain ⟨g6, E⟩ := grd_some E
  obtain ⟨a7, ea7, E⟩ := orf_some E
  refine r_getR dX12_cuts_16 FX12_7 g6 ea7 ?_
  refine q_iconst dX12_cuts_19 ?_
  obtain ⟨g8, E⟩ := grd_some E
  obtain ⟨g9, E⟩ := grd_some E
  refine r_iaload dX12_cuts_20 g8 g9 ?_
  refine q_imul dX12_cuts_21 ?_
  refine q_iadd dX12_cuts_22 ?_
  obtain ⟨x10, ex10, E⟩ := bnd_x E
  refine r_istore_n dX12_cuts_23 (by decide) ex10 (ls' := [some (.ref p0), some (.int v1), some (.int x10), none]) rfl ?_
  refine q_sipush (v := (Int32.ofInt 176)) dX12_cuts_24 (by decide) ?_
  refine q_bipush (v := (Int32.ofInt 9)) dX12_cuts_27 (by decide) ?_
  refine q_iload_n dX12_cuts_29 rfl ?_
  refine q_imul dX12_cuts_30 ?_
  refine q_iadd dX12_cuts_31 ?_
  obtain ⟨x11, ex11, E⟩ := bnd_x E
  refine r_istore_n dX12_cuts_32 (by decide) ex11 (ls' := [some (.ref p0), some (.int v1), some (.int x10), some (.int x11)]) rfl ?_
  exact r_fewer [some (.ref p0), none, some (.int x10), some (.int x11)] (ls_s (ls_n (ls_s (ls_s ls_0)))) (s_X12_cuts_33 p0 x10 x11 h5 E hK)
theorem c_X12_cuts {l : Launch} {G : va_G × (Nat → ClassId)} {p0 : Nat} {v1 : Int32} {h h' : mH} {r : Int32} (E : f_X12_cuts p0 v1 h = some (r, h')) : mMet l G m_X12_cuts 0 0 0 [.ref p0, .int v1] h (fun v k => v = some (.int r) ∧ h' = k) (fun _ _ => False) :=
  mMet_of (by decide +kernel) rfl (ac_c rfl (ac_c rfl ac_0)) (Nat.le_of_ble_eq_true rfl) (s_X12_cuts_0 p0 v1 h E (And.intro rfl rfl))
set_option maxRecDepth 100000 in
set_option maxHeartbeats 4000000 in
theorem s_X12_removeWord_0 {l : Launch} {G : va_G × (Nat → ClassId)} {Q : Option Value → mH → Prop} {X : String → mH → Prop} (p0 : Nat) (v1 : Int32) (h : mH) {o : Int32 × mH} (E : f_X12_removeWord p0 v1 h = some o) (hK : (fiI Q) o) : mW l G m_X12_removeWord 2 0 0 0 [some (.ref p0), some (.int v1)] [] h Q X := by
  unfold f_X12_removeWord at E
  refine q_aload_n dX12_removeWord_0 rfl ?_
  refine q_iconst dX12_removeWord_1 ?_
  obtain ⟨g1, E⟩ := grd_some E
  obtain ⟨h2, eh2, E⟩ := bnd_x E
  refine r_putI (hh := eh2) dX12_removeWord_2 FX12_117 g1 rfl rfl ?_
  refine q_aload_n dX12_removeWord_5 rfl ?_
  refine q_iload_n dX12_removeWord_6 rfl ?_
  obtain ⟨g5, E⟩ := grd_some E
  obtain ⟨x4, h3, hc, E⟩ := cal_some E
  refine r_callV1 (mc := 0) (ms := 0) dX12_removeWord_7 KX12_250 (c_X12_isWord hc) g5 (by decide) (Nat.le_of_ble_eq_true rfl) (fun _ _ q => q.elim) ?_
  rintro _ _ ⟨rfl, rfl⟩
  clear hc
  refine q_if_ne (tgt := 19) dX12_removeWord_10 (by decide) (fun z6 => ?_) (fun z6 => ?_)
  · replace E := ite_f E z6
    refine q_aload_n dX12_removeWord_19 rfl ?_
    obtain ⟨g9, E⟩ := grd_some E
    obtain ⟨_, h7, hc, E⟩ := cal_some E
    refine r_callV0 (mc := 0) (ms := 0) dX12_removeWord_20 KX12_205 (c_X12_remembers hc) g9 (by decide) (Nat.le_of_ble_eq_true rfl) (fun _ _ q => q.elim) ?_
    rintro _ _ ⟨rfl, rfl⟩
    clear hc
    refine q_aload_n dX12_removeWord_23 rfl ?_
    refine q_iload_n dX12_removeWord_24 rfl ?_
    obtain ⟨g12, E⟩ := grd_some E
    obtain ⟨x11, h10, hc, E⟩ := cal_some E
    refine r_callV1 (mc := 0) (ms := 0) dX12_removeWord_25 KX12_253 (c_X12_cuts hc) g12 (by decide) (Nat.le_of_ble_eq_true rfl) (fun _ _ q => q.elim) ?_
    rintro _ _ ⟨rfl, rfl⟩
    clear hc
    cases E
    exact q_ireturn dX12_removeWord_28 rfl hK
  · replace E := ite_t E z6
    refine q_aload_n dX12_removeWord_13 rfl ?_
    refine q_iconst dX12_removeWord_14 ?_
    obtain ⟨g15, E⟩ := grd_some E
    obtain ⟨x14, h13, hc, E⟩ := cal_some E
    refine r_callV1 (mc := 0) (ms := 0) dX12_removeWord_15 KX12_196 (c_X12_fails hc) g15 (by decide) (Nat.le_of_ble_eq_true rfl) (fun _ _ q => q.elim) ?_
    rintro _ _ ⟨rfl, rfl⟩
    clear hc
    cases E
    exact q_ireturn dX12_removeWord_18 rfl hK
theorem c_X12_removeWord {l : Launch} {G : va_G × (Nat → ClassId)} {p0 : Nat} {v1 : Int32} {h h' : mH} {r : Int32} (E : f_X12_removeWord p0 v1 h = some (r, h')) : mMet l G m_X12_removeWord 2 0 0 [.ref p0, .int v1] h (fun v k => v = some (.int r) ∧ h' = k) (fun _ _ => False) :=
  mMet_of (by decide +kernel) rfl (ac_c rfl (ac_c rfl ac_0)) (Nat.le_of_ble_eq_true rfl) (s_X12_removeWord_0 p0 v1 h E (And.intro rfl rfl))
set_option maxRecDepth 100000 in
set_option maxHeartbeats 4000000 in
theorem s_X12_pileLetter_0 {l : Launch} {G : va_G × (Nat → ClassId)} {Q : Option Value → mH → Prop} {X : String → mH → Prop} (p0 : Nat) (v1 : Int32) (v2 : Int32) (v3 : Int32) (h : mH) {o : Unit × mH} (E : f_X12_pileLetter p0 v1 v2 v3 h = some o) (hK : (fiV Q) o) : mW l G m_X12_pileLetter 0 0 0 0 [some (.ref p0), some (.int v1), some (.int v2), some (.int v3)] [] h Q X := by
  unfold f_X12_pileLetter at E
  refine q_aload_n dX12_pileLetter_0 rfl ?_
  obtain ⟨g1, E⟩ := grd_some E
  obtain ⟨a2, ea2, E⟩ := orf_some E
  refine r_getR dX12_pileLetter_1 FX12_48 g1 ea2 ?_
  refine q_iconst dX12_pileLetter_4 ?_
  refine q_iload_n dX12_pileLetter_5 rfl ?_
  refine q_imul dX12_pileLetter_6 ?_
  refine q_iload_n dX12_pileLetter_7 rfl ?_
  refine q_iadd dX12_pileLetter_8 ?_
  refine q_aload_n dX12_pileLetter_9 rfl ?_
  refine r_getR dX12_pileLetter_10 FX12_48 g1 ea2 ?_
  refine q_iconst dX12_pileLetter_13 ?_
  refine q_iload_n dX12_pileLetter_14 rfl ?_
  refine q_imul dX12_pileLetter_15 ?_
  refine q_iload_n dX12_pileLetter_16 rfl ?_
  refine q_iadd dX12_pileLetter_17 ?_
  obtain ⟨g4, E⟩ := grd_some E
  obtain ⟨g5, E⟩ := grd_some E
  refine r_iaload dX12_pileLetter_18 g4 g5 ?_
  refine q_iconst dX12_pileLetter_19 ?_
  refine q_iload_n dX12_pileLetter_20 rfl ?_
  refine q_ishl dX12_pileLetter_21 ?_
  refine q_ior dX12_pileLetter_22 ?_
  obtain ⟨h6, eh6, E⟩ := bnd_x E
  refine r_iastore (hh := eh6) dX12_pileLetter_23 g4 g5 ?_
  refine q_aload_n dX12_pileLetter_24 rfl ?_
  obtain ⟨g7, E⟩ := grd_some E
  obtain ⟨a8, ea8, E⟩ := orf_some E
  refine r_getR dX12_pileLetter_25 FX12_60 g7 ea8 ?_
  refine q_aload_n dX12_pileLetter_28 rfl ?_
  refine r_getI dX12_pileLetter_29 FX12_256 g7 ?_
  refine q_iconst dX12_pileLetter_32 ?_
  obtain ⟨g10, E⟩ := grd_some E
  obtain ⟨g11, E⟩ := grd_some E
  obtain ⟨h9, eh9, E⟩ := bnd_x E
  refine r_iastore (hh := eh9) dX12_pileLetter_33 g10 g11 ?_
  refine q_aload_n dX12_pileLetter_34 rfl ?_
  obtain ⟨g12, E⟩ := grd_some E
  obtain ⟨a13, ea13, E⟩ := orf_some E
  refine r_getR dX12_pileLetter_35 FX12_63 g12 ea13 ?_
  refine q_aload_n dX12_pileLetter_38 rfl ?_
  refine r_getI dX12_pileLetter_39 FX12_256 g12 ?_
  refine q_iconst dX12_pileLetter_42 ?_
  refine q_iload_n dX12_pileLetter_43 rfl ?_
  refine q_ishl dX12_pileLetter_44 ?_
  obtain ⟨g15, E⟩ := grd_some E
  obtain ⟨g16, E⟩ := grd_some E
  obtain ⟨h14, eh14, E⟩ := bnd_x E
  refine r_iastore (hh := eh14) dX12_pileLetter_45 g15 g16 ?_
  refine q_aload_n dX12_pileLetter_46 rfl ?_
  obtain ⟨g17, E⟩ := grd_some E
  obtain ⟨a18, ea18, E⟩ := orf_some E
  refine r_getR dX12_pileLetter_47 FX12_66 g17 ea18 ?_
  refine q_aload_n dX12_pileLetter_50 rfl ?_
  refine r_getI dX12_pileLetter_51 FX12_256 g17 ?_
  refine q_iconst dX12_pileLetter_54 ?_
  refine q_iload_n dX12_pileLetter_55 rfl ?_
  refine q_ishl dX12_pileLetter_56 ?_
  obtain ⟨g20, E⟩ := grd_some E
  obtain ⟨g21, E⟩ := grd_some E
  obtain ⟨h19, eh19, E⟩ := bnd_x E
  refine r_iastore (hh := eh19) dX12_pileLetter_57 g20 g21 ?_
  refine q_aload_n dX12_pileLetter_58 rfl ?_
  refine q_dup dX12_pileLetter_59 ?_
  obtain ⟨g22, E⟩ := grd_some E
  refine r_getI dX12_pileLetter_60 FX12_256 g22 ?_
  refine q_iconst dX12_pileLetter_63 ?_
  refine q_iadd dX12_pileLetter_64 ?_
  obtain ⟨h23, eh23, E⟩ := bnd_x E
  refine r_putI (hh := eh23) dX12_pileLetter_65 FX12_256 g22 rfl rfl ?_
  cases E
  exact q_return dX12_pileLetter_68 rfl hK
theorem c_X12_pileLetter {l : Launch} {G : va_G × (Nat → ClassId)} {p0 : Nat} {v1 : Int32} {v2 : Int32} {v3 : Int32} {h h' : mH} {r : Unit} (E : f_X12_pileLetter p0 v1 v2 v3 h = some (r, h')) : mMet l G m_X12_pileLetter 0 0 0 [.ref p0, .int v1, .int v2, .int v3] h (fun v k => v = none ∧ h' = k) (fun _ _ => False) :=
  mMet_of (by decide +kernel) rfl (ac_c rfl (ac_c rfl (ac_c rfl (ac_c rfl ac_0)))) (Nat.le_of_ble_eq_true rfl) (s_X12_pileLetter_0 p0 v1 v2 v3 h E (And.intro rfl rfl))
set_option maxRecDepth 100000 in
set_option maxHeartbeats 4000000 in
theorem s_X12_followed_46 {l : Launch} {G : va_G × (Nat → ClassId)} {Q : Option Value → mH → Prop} {X : String → mH → Prop} (p0 : Nat) (v1 : Int32) (v2 : Int32) (v3 : Int32) (v4 : Int32) (h : mH) {o : ((Int32 × mH) ⊕ (Unit × mH))} (E : g_X12_followed_46 p0 v1 v2 v3 v4 h = some o) (hK : (lpK (w_X12_followed_3 l G Q X p0 v1 v2 v3) (fiV Q)) o) : mW l G m_X12_followed 0 0 0 46 [some (.ref p0), some (.int v1), some (.int v2), some (.int v3), some (.int v4)] [] h Q X := by
  unfold g_X12_followed_46 at E
  obtain ⟨x1, ex1, E⟩ := bnd_x E
  refine r_iinc (v := x1) dX12_followed_46 rfl ex1 (by decide) (ls' := [some (.ref p0), some (.int v1), some (.int v2), some (.int v3), some (.int x1)]) rfl ?_
  refine q_goto (tgt := 3) dX12_followed_49 (by decide) ?_
  cases E
  exact r_fewer [some (.ref p0), some (.int v1), some (.int v2), some (.int v3), some (.int x1)] (ls_s (ls_s (ls_s (ls_s (ls_s ls_0))))) hK
set_option maxRecDepth 100000 in
set_option maxHeartbeats 4000000 in
theorem sb_X12_followed_3 {l : Launch} {G : va_G × (Nat → ClassId)} {Q : Option Value → mH → Prop} {X : String → mH → Prop} (p0 : Nat) (v1 : Int32) (v2 : Int32) (v3 : Int32) (v4 : Int32) (h : mH) {o : ((Int32 × mH) ⊕ (Unit × mH))} (E : b0_X12_followed_3 p0 v1 v2 v3 v4 h = some o) (hK : (lpK (w_X12_followed_3 l G Q X p0 v1 v2 v3) (fiV Q)) o) : mW l G m_X12_followed 0 0 0 3 [some (.ref p0), some (.int v1), some (.int v2), some (.int v3), some (.int v4)] [] h Q X := by
  unfold b0_X12_followed_3 at E
  refine q_iload dX12_followed_3 rfl ?_
  refine q_bipush (v := (Int32.ofInt 7)) dX12_followed_5 (by decide) ?_
  refine q_icmp_ge (tgt := 52) dX12_followed_7 (by decide) (fun z1 => ?_) (fun z1 => ?_)
  · replace E := ite_t E z1
    cases E
    exact q_return dX12_followed_52 rfl hK
  · replace E := ite_f E z1
    refine q_iload_n dX12_followed_10 rfl ?_
    refine q_iload dX12_followed_11 rfl ?_
    refine q_ishr dX12_followed_13 ?_
    refine q_iconst dX12_followed_14 ?_
    refine q_iand dX12_followed_15 ?_
    refine q_iconst dX12_followed_16 ?_
    refine q_icmp_ne (tgt := 46) dX12_followed_17 (by decide) (fun z2 => ?_) (fun z2 => ?_)
    · replace E := ite_f E z2
      exact r_fewer [some (.ref p0), some (.int v1), some (.int v2), some (.int v3), some (.int v4)] (ls_s (ls_s (ls_s (ls_s (ls_s ls_0))))) (s_X12_followed_46 p0 v1 v2 v3 v4 h E hK)
    · replace E := ite_t E z2
      refine q_aload_n dX12_followed_20 rfl ?_
      obtain ⟨g3, E⟩ := grd_some E
      obtain ⟨a4, ea4, E⟩ := orf_some E
      refine r_getR dX12_followed_21 FX12_45 g3 ea4 ?_
      refine q_bipush (v := (Int32.ofInt 7)) dX12_followed_24 (by decide) ?_
      refine q_iload_n dX12_followed_26 rfl ?_
      refine q_imul dX12_followed_27 ?_
      refine q_iload dX12_followed_28 rfl ?_
      refine q_iadd dX12_followed_30 ?_
      refine q_aload_n dX12_followed_31 rfl ?_
      refine r_getR dX12_followed_32 FX12_45 g3 ea4 ?_
      refine q_bipush (v := (Int32.ofInt 7)) dX12_followed_35 (by decide) ?_
      refine q_iload_n dX12_followed_37 rfl ?_
      refine q_imul dX12_followed_38 ?_
      refine q_iload dX12_followed_39 rfl ?_
      refine q_iadd dX12_followed_41 ?_
      obtain ⟨g6, E⟩ := grd_some E
      obtain ⟨g7, E⟩ := grd_some E
      refine r_iaload dX12_followed_42 g6 g7 ?_
      refine q_iload_n dX12_followed_43 rfl ?_
      refine q_ior dX12_followed_44 ?_
      obtain ⟨h8, eh8, E⟩ := bnd_x E
      refine r_iastore (hh := eh8) dX12_followed_45 g6 g7 ?_
      exact r_fewer [some (.ref p0), some (.int v1), some (.int v2), some (.int v3), some (.int v4)] (ls_s (ls_s (ls_s (ls_s (ls_s ls_0))))) (s_X12_followed_46 p0 v1 v2 v3 v4 h8 E hK)
theorem s_X12_followed_3 {l : Launch} {G : va_G × (Nat → ClassId)} {Q : Option Value → mH → Prop} {X : String → mH → Prop} (p0 : Nat) (v1 : Int32) (v2 : Int32) (v3 : Int32) (v4 : Int32) (h : mH) {o : Unit × mH} (E : g_X12_followed_3 p0 v1 v2 v3 v4 h = some o) (hK : (fiV Q) o) : mW l G m_X12_followed 0 0 0 3 [some (.ref p0), some (.int v1), some (.int v2), some (.int v3), some (.int v4)] [] h Q X :=
  (lp_go (w_X12_followed_3 l G Q X p0 v1 v2 v3) (fiV Q) (b_X12_followed_3 p0 v1 v2 v3) (fun s o E hK => sb_X12_followed_3 p0 v1 v2 v3 s.1 (s.2) E hK) _ _ _ E hK : w_X12_followed_3 l G Q X p0 v1 v2 v3 (v4, h))
set_option maxRecDepth 100000 in
set_option maxHeartbeats 4000000 in
theorem s_X12_followed_0 {l : Launch} {G : va_G × (Nat → ClassId)} {Q : Option Value → mH → Prop} {X : String → mH → Prop} (p0 : Nat) (v1 : Int32) (v2 : Int32) (v3 : Int32) (h : mH) {o : Unit × mH} (E : f_X12_followed p0 v1 v2 v3 h = some o) (hK : (fiV Q) o) : mW l G m_X12_followed 0 0 0 0 [some (.ref p0), some (.int v1), some (.int v2), some (.int v3), none] [] h Q X := by
  unfold f_X12_followed at E
  refine q_iconst dX12_followed_0 ?_
  refine r_istore dX12_followed_1 (by decide) rfl (ls' := [some (.ref p0), some (.int v1), some (.int v2), some (.int v3), some (.int (Int32.ofInt 0))]) rfl ?_
  exact r_fewer [some (.ref p0), some (.int v1), some (.int v2), some (.int v3), some (.int (Int32.ofInt 0))] (ls_s (ls_s (ls_s (ls_s (ls_s ls_0))))) (s_X12_followed_3 p0 v1 v2 v3 (Int32.ofInt 0) h E hK)
theorem c_X12_followed {l : Launch} {G : va_G × (Nat → ClassId)} {p0 : Nat} {v1 : Int32} {v2 : Int32} {v3 : Int32} {h h' : mH} {r : Unit} (E : f_X12_followed p0 v1 v2 v3 h = some (r, h')) : mMet l G m_X12_followed 0 0 0 [.ref p0, .int v1, .int v2, .int v3] h (fun v k => v = none ∧ h' = k) (fun _ _ => False) :=
  mMet_of (by decide +kernel) rfl (ac_c rfl (ac_c rfl (ac_c rfl (ac_c rfl ac_0)))) (Nat.le_of_ble_eq_true rfl) (s_X12_followed_0 p0 v1 v2 v3 h E (And.intro rfl rfl))
set_option maxRecDepth 100000 in
set_option maxHeartbeats 4000000 in
theorem s_X12_joins_186 {l : Launch} {G : va_G × (Nat → ClassId)} {Q : Option Value → mH → Prop} {X : String → mH → Prop} (p0 : Nat) (v3 : Int32) (v4 : Int32) (s0 : Int32) (s1 : Int32) (sp2 : Nat) (h : mH) {o : Unit × mH} (E : g_X12_joins_186 p0 v3 v4 s0 s1 sp2 h = some o) (hK : (fiV Q) o) : mW l G m_X12_joins 1 0 0 186 [some (.ref p0), none, none, some (.int v3), some (.int v4)] [.int s0, .int s1, .ref sp2] h Q X := by
  unfold g_X12_joins_186 at E
  obtain ⟨g2, E⟩ := grd_some E
  obtain ⟨g3, E⟩ := grd_some E
  obtain ⟨h1, eh1, E⟩ := bnd_x E
  refine r_iastore (hh := eh1) dX12_joins_186 g2 g3 ?_
  refine q_aload_n dX12_joins_187 rfl ?_
  obtain ⟨g4, E⟩ := grd_some E
  obtain ⟨a5, ea5, E⟩ := orf_some E
  refine r_getR dX12_joins_188 FX12_60 g4 ea5 ?_
  refine q_iload_n dX12_joins_191 rfl ?_
  refine q_aload_n dX12_joins_192 rfl ?_
  refine r_getR dX12_joins_193 FX12_60 g4 ea5 ?_
  refine q_iload_n dX12_joins_196 rfl ?_
  obtain ⟨g7, E⟩ := grd_some E
  obtain ⟨g8, E⟩ := grd_some E
  refine r_iaload dX12_joins_197 g7 g8 ?_
  refine q_aload_n dX12_joins_198 rfl ?_
  refine r_getR dX12_joins_199 FX12_60 g4 ea5 ?_
  refine q_iload dX12_joins_202 rfl ?_
  obtain ⟨g10, E⟩ := grd_some E
  refine r_iaload dX12_joins_204 g7 g10 ?_
  refine q_iand dX12_joins_205 ?_
  obtain ⟨h11, eh11, E⟩ := bnd_x E
  refine r_iastore (hh := eh11) dX12_joins_206 g7 g8 ?_
  cases E
  exact q_return dX12_joins_207 rfl hK
set_option maxRecDepth 100000 in
set_option maxHeartbeats 4000000 in
theorem s_X12_joins_145 {l : Launch} {G : va_G × (Nat → ClassId)} {Q : Option Value → mH → Prop} {X : String → mH → Prop} (p0 : Nat) (v3 : Int32) (v4 : Int32) (s0 : Int32) (s1 : Int32) (sp2 : Nat) (h : mH) {o : Unit × mH} (E : g_X12_joins_145 p0 v3 v4 s0 s1 sp2 h = some o) (hK : (fiV Q) o) : mW l G m_X12_joins 1 0 0 145 [some (.ref p0), none, none, some (.int v3), some (.int v4)] [.int s0, .int s1, .ref sp2] h Q X := by
  unfold g_X12_joins_145 at E
  obtain ⟨g2, E⟩ := grd_some E
  obtain ⟨g3, E⟩ := grd_some E
  obtain ⟨h1, eh1, E⟩ := bnd_x E
  refine r_iastore (hh := eh1) dX12_joins_145 g2 g3 ?_
  refine q_aload_n dX12_joins_146 rfl ?_
  obtain ⟨g4, E⟩ := grd_some E
  obtain ⟨a5, ea5, E⟩ := orf_some E
  refine r_getR dX12_joins_147 FX12_66 g4 ea5 ?_
  refine q_iload_n dX12_joins_150 rfl ?_
  refine q_aload_n dX12_joins_151 rfl ?_
  obtain ⟨a6, ea6, E⟩ := orf_some E
  refine r_getR dX12_joins_152 FX12_60 g4 ea6 ?_
  refine q_iload dX12_joins_155 rfl ?_
  obtain ⟨g7, E⟩ := grd_some E
  obtain ⟨g8, E⟩ := grd_some E
  refine r_iaload dX12_joins_157 g7 g8 ?_
  refine q_iconst dX12_joins_158 ?_
  refine q_icmp_ne (tgt := 179) dX12_joins_159 (by decide) (fun z9 => ?_) (fun z9 => ?_)
  · replace E := ite_f E z9
    refine q_aload_n dX12_joins_179 rfl ?_
    refine r_getR dX12_joins_180 FX12_66 g4 ea5 ?_
    refine q_iload dX12_joins_183 rfl ?_
    obtain ⟨g11, E⟩ := grd_some E
    obtain ⟨g12, E⟩ := grd_some E
    refine r_iaload dX12_joins_185 g11 g12 ?_
    exact r_fewer [some (.ref p0), none, none, some (.int v3), some (.int v4)] (ls_s (ls_n (ls_n (ls_s (ls_s ls_0))))) (s_X12_joins_186 p0 v3 v4 (gi h1 a5 v4.toNatClampNeg) v3 a5 h1 E hK)
  · replace E := ite_t E z9
    refine q_aload_n dX12_joins_162 rfl ?_
    refine r_getR dX12_joins_163 FX12_66 g4 ea5 ?_
    refine q_iload_n dX12_joins_166 rfl ?_
    obtain ⟨g14, E⟩ := grd_some E
    obtain ⟨g15, E⟩ := grd_some E
    refine r_iaload dX12_joins_167 g14 g15 ?_
    refine q_aload_n dX12_joins_168 rfl ?_
    refine r_getR dX12_joins_169 FX12_66 g4 ea5 ?_
    refine q_iload dX12_joins_172 rfl ?_
    obtain ⟨g17, E⟩ := grd_some E
    refine r_iaload dX12_joins_174 g14 g17 ?_
    refine q_ior dX12_joins_175 ?_
    refine q_goto (tgt := 186) dX12_joins_176 (by decide) ?_
    exact r_fewer [some (.ref p0), none, none, some (.int v3), some (.int v4)] (ls_s (ls_n (ls_n (ls_s (ls_s ls_0))))) (s_X12_joins_186 p0 v3 v4 ((gi h1 a5 v3.toNatClampNeg) ||| (gi h1 a5 v4.toNatClampNeg)) v3 a5 h1 E hK)
set_option maxRecDepth 100000 in
set_option maxHeartbeats 4000000 in
theorem s_X12_joins_0 {l : Launch} {G : va_G × (Nat → ClassId)} {Q : Option Value → mH → Prop} {X : String → mH → Prop} (p0 : Nat) (v1 : Int32) (v2 : Int32) (h : mH) {o : Unit × mH} (E : f_X12_joins p0 v1 v2 h = some o) (hK : (fiV Q) o) : mW l G m_X12_joins 1 0 0 0 [some (.ref p0), some (.int v1), some (.int v2), none, none] [] h Q X := by
  unfold f_X12_joins at E
  refine q_aload_n dX12_joins_0 rfl ?_
  refine q_dup dX12_joins_1 ?_
  obtain ⟨g1, E⟩ := grd_some E
  refine r_getI dX12_joins_2 FX12_256 g1 ?_
  refine q_iconst dX12_joins_5 ?_
  refine q_isub dX12_joins_6 ?_
  obtain ⟨h2, eh2, E⟩ := bnd_x E
  refine r_putI (hh := eh2) dX12_joins_7 FX12_256 g1 rfl rfl ?_
  refine q_aload_n dX12_joins_10 rfl ?_
  obtain ⟨g3, E⟩ := grd_some E
  refine r_getI dX12_joins_11 FX12_256 g3 ?_
  refine q_iconst dX12_joins_14 ?_
  refine q_isub dX12_joins_15 ?_
  obtain ⟨x4, ex4, E⟩ := bnd_x E
  refine r_istore_n dX12_joins_16 (by decide) ex4 (ls' := [some (.ref p0), some (.int v1), some (.int v2), some (.int x4), none]) rfl ?_
  refine q_aload_n dX12_joins_17 rfl ?_
  refine r_getI dX12_joins_18 FX12_256 g3 ?_
  obtain ⟨x5, ex5, E⟩ := bnd_x E
  refine r_istore dX12_joins_21 (by decide) ex5 (ls' := [some (.ref p0), some (.int v1), some (.int v2), some (.int x4), some (.int x5)]) rfl ?_
  refine q_iload_n dX12_joins_23 rfl ?_
  refine q_iconst dX12_joins_24 ?_
  refine q_icmp_ne (tgt := 89) dX12_joins_25 (by decide) (fun z6 => ?_) (fun z6 => ?_)
  · replace E := ite_f E z6
    refine q_aload_n dX12_joins_89 rfl ?_
    refine q_iload_n dX12_joins_90 rfl ?_
    refine q_aload_n dX12_joins_91 rfl ?_
    obtain ⟨a7, ea7, E⟩ := orf_some E
    refine r_getR dX12_joins_92 FX12_66 g3 ea7 ?_
    refine q_iload_n dX12_joins_95 rfl ?_
    obtain ⟨g8, E⟩ := grd_some E
    obtain ⟨g9, E⟩ := grd_some E
    refine r_iaload dX12_joins_96 g8 g9 ?_
    refine q_aload_n dX12_joins_97 rfl ?_
    obtain ⟨a10, ea10, E⟩ := orf_some E
    refine r_getR dX12_joins_98 FX12_63 g3 ea10 ?_
    refine q_iload dX12_joins_101 rfl ?_
    obtain ⟨g11, E⟩ := grd_some E
    obtain ⟨g12, E⟩ := grd_some E
    refine r_iaload dX12_joins_103 g11 g12 ?_
    obtain ⟨_, h13, hc, E⟩ := cal_some E
    refine r_callV3 (mc := 0) (ms := 0) dX12_joins_104 KX12_259 (c_X12_followed hc) g3 (by decide) (Nat.le_of_ble_eq_true rfl) (fun _ _ q => q.elim) ?_
    rintro _ _ ⟨rfl, rfl⟩
    clear hc
    refine q_aload_n dX12_joins_107 rfl ?_
    obtain ⟨g15, E⟩ := grd_some E
    obtain ⟨a16, ea16, E⟩ := orf_some E
    refine r_getR dX12_joins_108 FX12_63 g15 ea16 ?_
    refine q_iload_n dX12_joins_111 rfl ?_
    refine q_aload_n dX12_joins_112 rfl ?_
    obtain ⟨a17, ea17, E⟩ := orf_some E
    refine r_getR dX12_joins_113 FX12_60 g15 ea17 ?_
    refine q_iload_n dX12_joins_116 rfl ?_
    obtain ⟨g18, E⟩ := grd_some E
    obtain ⟨g19, E⟩ := grd_some E
    refine r_iaload dX12_joins_117 g18 g19 ?_
    refine q_iconst dX12_joins_118 ?_
    refine q_icmp_ne (tgt := 139) dX12_joins_119 (by decide) (fun z20 => ?_) (fun z20 => ?_)
    · replace E := ite_f E z20
      refine q_aload_n dX12_joins_139 rfl ?_
      refine r_getR dX12_joins_140 FX12_63 g15 ea16 ?_
      refine q_iload_n dX12_joins_143 rfl ?_
      obtain ⟨g22, E⟩ := grd_some E
      obtain ⟨g23, E⟩ := grd_some E
      refine r_iaload dX12_joins_144 g22 g23 ?_
      exact r_fewer [some (.ref p0), none, none, some (.int x4), some (.int x5)] (ls_s (ls_n (ls_n (ls_s (ls_s ls_0))))) (s_X12_joins_145 p0 x4 x5 (gi h13 a16 x4.toNatClampNeg) x4 a16 h13 E hK)
    · replace E := ite_t E z20
      refine q_aload_n dX12_joins_122 rfl ?_
      refine r_getR dX12_joins_123 FX12_63 g15 ea16 ?_
      refine q_iload_n dX12_joins_126 rfl ?_
      obtain ⟨g25, E⟩ := grd_some E
      obtain ⟨g26, E⟩ := grd_some E
      refine r_iaload dX12_joins_127 g25 g26 ?_
      refine q_aload_n dX12_joins_128 rfl ?_
      refine r_getR dX12_joins_129 FX12_63 g15 ea16 ?_
      refine q_iload dX12_joins_132 rfl ?_
      obtain ⟨g28, E⟩ := grd_some E
      refine r_iaload dX12_joins_134 g25 g28 ?_
      refine q_ior dX12_joins_135 ?_
      refine q_goto (tgt := 145) dX12_joins_136 (by decide) ?_
      exact r_fewer [some (.ref p0), none, none, some (.int x4), some (.int x5)] (ls_s (ls_n (ls_n (ls_s (ls_s ls_0))))) (s_X12_joins_145 p0 x4 x5 ((gi h13 a16 x4.toNatClampNeg) ||| (gi h13 a16 x5.toNatClampNeg)) x4 a16 h13 E hK)
  · replace E := ite_t E z6
    refine q_aload_n dX12_joins_28 rfl ?_
    obtain ⟨a29, ea29, E⟩ := orf_some E
    refine r_getR dX12_joins_29 FX12_63 g3 ea29 ?_
    refine q_iload_n dX12_joins_32 rfl ?_
    refine q_aload_n dX12_joins_33 rfl ?_
    refine r_getR dX12_joins_34 FX12_63 g3 ea29 ?_
    refine q_iload_n dX12_joins_37 rfl ?_
    obtain ⟨g31, E⟩ := grd_some E
    obtain ⟨g32, E⟩ := grd_some E
    refine r_iaload dX12_joins_38 g31 g32 ?_
    refine q_aload_n dX12_joins_39 rfl ?_
    refine r_getR dX12_joins_40 FX12_63 g3 ea29 ?_
    refine q_iload dX12_joins_43 rfl ?_
    obtain ⟨g34, E⟩ := grd_some E
    refine r_iaload dX12_joins_45 g31 g34 ?_
    refine q_ior dX12_joins_46 ?_
    obtain ⟨h35, eh35, E⟩ := bnd_x E
    refine r_iastore (hh := eh35) dX12_joins_47 g31 g32 ?_
    refine q_aload_n dX12_joins_48 rfl ?_
    obtain ⟨g36, E⟩ := grd_some E
    obtain ⟨a37, ea37, E⟩ := orf_some E
    refine r_getR dX12_joins_49 FX12_66 g36 ea37 ?_
    refine q_iload_n dX12_joins_52 rfl ?_
    refine q_aload_n dX12_joins_53 rfl ?_
    refine r_getR dX12_joins_54 FX12_66 g36 ea37 ?_
    refine q_iload_n dX12_joins_57 rfl ?_
    obtain ⟨g39, E⟩ := grd_some E
    obtain ⟨g40, E⟩ := grd_some E
    refine r_iaload dX12_joins_58 g39 g40 ?_
    refine q_aload_n dX12_joins_59 rfl ?_
    refine r_getR dX12_joins_60 FX12_66 g36 ea37 ?_
    refine q_iload dX12_joins_63 rfl ?_
    obtain ⟨g42, E⟩ := grd_some E
    refine r_iaload dX12_joins_65 g39 g42 ?_
    refine q_ior dX12_joins_66 ?_
    obtain ⟨h43, eh43, E⟩ := bnd_x E
    refine r_iastore (hh := eh43) dX12_joins_67 g39 g40 ?_
    refine q_aload_n dX12_joins_68 rfl ?_
    obtain ⟨g44, E⟩ := grd_some E
    obtain ⟨a45, ea45, E⟩ := orf_some E
    refine r_getR dX12_joins_69 FX12_60 g44 ea45 ?_
    refine q_iload_n dX12_joins_72 rfl ?_
    refine q_aload_n dX12_joins_73 rfl ?_
    refine r_getR dX12_joins_74 FX12_60 g44 ea45 ?_
    refine q_iload_n dX12_joins_77 rfl ?_
    obtain ⟨g47, E⟩ := grd_some E
    obtain ⟨g48, E⟩ := grd_some E
    refine r_iaload dX12_joins_78 g47 g48 ?_
    refine q_aload_n dX12_joins_79 rfl ?_
    refine r_getR dX12_joins_80 FX12_60 g44 ea45 ?_
    refine q_iload dX12_joins_83 rfl ?_
    obtain ⟨g50, E⟩ := grd_some E
    refine r_iaload dX12_joins_85 g47 g50 ?_
    refine q_ior dX12_joins_86 ?_
    obtain ⟨h51, eh51, E⟩ := bnd_x E
    refine r_iastore (hh := eh51) dX12_joins_87 g47 g48 ?_
    cases E
    exact q_return dX12_joins_88 rfl hK
theorem c_X12_joins {l : Launch} {G : va_G × (Nat → ClassId)} {p0 : Nat} {v1 : Int32} {v2 : Int32} {h h' : mH} {r : Unit} (E : f_X12_joins p0 v1 v2 h = some (r, h')) : mMet l G m_X12_joins 1 0 0 [.ref p0, .int v1, .int v2] h (fun v k => v = none ∧ h' = k) (fun _ _ => False) :=
  mMet_of (by decide +kernel) rfl (ac_c rfl (ac_c rfl (ac_c rfl ac_0))) (Nat.le_of_ble_eq_true rfl) (s_X12_joins_0 p0 v1 v2 h E (And.intro rfl rfl))
set_option maxRecDepth 100000 in
set_option maxHeartbeats 4000000 in
theorem s_X12_next_66 {l : Launch} {G : va_G × (Nat → ClassId)} {Q : Option Value → mH → Prop} {X : String → mH → Prop} (p0 : Nat) (v1 : Int32) (v2 : Int32) (v3 : Int32) (v5 : Int32) (s0 : Int32) (h : mH) {o : ((Int32 × Int32 × mH) ⊕ (Int32 × mH))} (E : g_X12_next_66 p0 v1 v2 v3 v5 s0 h = some o) (hK : (lpK (w_X12_next_22 l G Q X p0 v1 v2 v3) (fiI Q)) o) : mW l G m_X12_next 0 0 0 66 [some (.ref p0), some (.int v1), some (.int v2), some (.int v3), none, some (.int v5)] [.int s0] h Q X := by
  unfold g_X12_next_66 at E
  refine r_istore dX12_next_66 (by decide) rfl (ls' := [some (.ref p0), some (.int v1), some (.int v2), some (.int v3), some (.int s0), some (.int v5)]) rfl ?_
  obtain ⟨x1, ex1, E⟩ := bnd_x E
  refine r_iinc (v := x1) dX12_next_68 rfl ex1 (by decide) (ls' := [some (.ref p0), some (.int v1), some (.int v2), some (.int v3), some (.int s0), some (.int x1)]) rfl ?_
  refine q_goto (tgt := 22) dX12_next_71 (by decide) ?_
  cases E
  exact r_fewer [some (.ref p0), some (.int v1), some (.int v2), some (.int v3), some (.int s0), some (.int x1)] (ls_s (ls_s (ls_s (ls_s (ls_s (ls_s ls_0)))))) hK
set_option maxRecDepth 100000 in
set_option maxHeartbeats 4000000 in
theorem s_X12_next_74 {l : Launch} {G : va_G × (Nat → ClassId)} {Q : Option Value → mH → Prop} {X : String → mH → Prop} (p0 : Nat) (v1 : Int32) (v3 : Int32) (v4 : Int32) (h : mH) {o : Int32 × mH} (E : g_X12_next_74 p0 v1 v3 v4 h = some o) (hK : (fiI Q) o) : mW l G m_X12_next 0 0 0 74 [some (.ref p0), some (.int v1), none, some (.int v3), some (.int v4), none] [] h Q X := by
  unfold g_X12_next_74 at E
  refine q_iload dX12_next_74 rfl ?_
  refine q_aload_n dX12_next_76 rfl ?_
  obtain ⟨g1, E⟩ := grd_some E
  obtain ⟨a2, ea2, E⟩ := orf_some E
  refine r_getR dX12_next_77 FX12_48 g1 ea2 ?_
  refine q_iconst dX12_next_80 ?_
  refine q_iload_n dX12_next_81 rfl ?_
  refine q_imul dX12_next_82 ?_
  refine q_iload_n dX12_next_83 rfl ?_
  refine q_iadd dX12_next_84 ?_
  obtain ⟨g3, E⟩ := grd_some E
  obtain ⟨g4, E⟩ := grd_some E
  refine r_iaload dX12_next_85 g3 g4 ?_
  refine q_iand dX12_next_86 ?_
  cases E
  exact q_ireturn dX12_next_87 rfl hK
set_option maxRecDepth 100000 in
set_option maxHeartbeats 4000000 in
theorem sb_X12_next_22 {l : Launch} {G : va_G × (Nat → ClassId)} {Q : Option Value → mH → Prop} {X : String → mH → Prop} (p0 : Nat) (v1 : Int32) (v2 : Int32) (v3 : Int32) (v4 : Int32) (v5 : Int32) (h : mH) {o : ((Int32 × Int32 × mH) ⊕ (Int32 × mH))} (E : b0_X12_next_22 p0 v1 v2 v3 v4 v5 h = some o) (hK : (lpK (w_X12_next_22 l G Q X p0 v1 v2 v3) (fiI Q)) o) : mW l G m_X12_next 0 0 0 22 [some (.ref p0), some (.int v1), some (.int v2), some (.int v3), some (.int v4), some (.int v5)] [] h Q X := by
  unfold b0_X12_next_22 at E
  refine q_iload dX12_next_22 rfl ?_
  refine q_bipush (v := (Int32.ofInt 7)) dX12_next_24 (by decide) ?_
  refine q_icmp_ge (tgt := 74) dX12_next_26 (by decide) (fun z1 => ?_) (fun z1 => ?_)
  · replace E := ite_t E z1
    obtain ⟨o0, E0, rfl⟩ := inrO_some E
    exact r_fewer [some (.ref p0), some (.int v1), none, some (.int v3), some (.int v4), none] (ls_s (ls_s (ls_n (ls_s (ls_s (ls_n ls_0)))))) (s_X12_next_74 p0 v1 v3 v4 h E0 hK)
  · replace E := ite_f E z1
    refine q_iload_n dX12_next_29 rfl ?_
    refine q_sipush (v := (Int32.ofInt 128)) dX12_next_30 (by decide) ?_
    refine q_icmp_eq (tgt := 74) dX12_next_33 (by decide) (fun z2 => ?_) (fun z2 => ?_)
    · replace E := ite_t E z2
      obtain ⟨o0, E0, rfl⟩ := inrO_some E
      exact r_fewer [some (.ref p0), some (.int v1), none, some (.int v3), some (.int v4), none] (ls_s (ls_s (ls_n (ls_s (ls_s (ls_n ls_0)))))) (s_X12_next_74 p0 v1 v3 v4 h E0 hK)
    · replace E := ite_f E z2
      refine q_iload_n dX12_next_36 rfl ?_
      refine q_iload dX12_next_37 rfl ?_
      refine q_ishr dX12_next_39 ?_
      refine q_iconst dX12_next_40 ?_
      refine q_iand dX12_next_41 ?_
      refine q_iconst dX12_next_42 ?_
      refine q_icmp_ne (tgt := 64) dX12_next_43 (by decide) (fun z3 => ?_) (fun z3 => ?_)
      · replace E := ite_f E z3
        refine q_iload dX12_next_64 rfl ?_
        exact r_fewer [some (.ref p0), some (.int v1), some (.int v2), some (.int v3), none, some (.int v5)] (ls_s (ls_s (ls_s (ls_s (ls_n (ls_s ls_0)))))) (s_X12_next_66 p0 v1 v2 v3 v5 v4 h E hK)
      · replace E := ite_t E z3
        refine q_iload dX12_next_46 rfl ?_
        refine q_aload_n dX12_next_48 rfl ?_
        obtain ⟨g4, E⟩ := grd_some E
        obtain ⟨a5, ea5, E⟩ := orf_some E
        refine r_getR dX12_next_49 FX12_45 g4 ea5 ?_
        refine q_bipush (v := (Int32.ofInt 7)) dX12_next_52 (by decide) ?_
        refine q_iload_n dX12_next_54 rfl ?_
        refine q_imul dX12_next_55 ?_
        refine q_iload dX12_next_56 rfl ?_
        refine q_iadd dX12_next_58 ?_
        obtain ⟨g6, E⟩ := grd_some E
        obtain ⟨g7, E⟩ := grd_some E
        refine r_iaload dX12_next_59 g6 g7 ?_
        refine q_ior dX12_next_60 ?_
        refine q_goto (tgt := 66) dX12_next_61 (by decide) ?_
        exact r_fewer [some (.ref p0), some (.int v1), some (.int v2), some (.int v3), none, some (.int v5)] (ls_s (ls_s (ls_s (ls_s (ls_n (ls_s ls_0)))))) (s_X12_next_66 p0 v1 v2 v3 v5 (v4 ||| (gi h a5 (((Int32.ofInt 7) * v1) + v5).toNatClampNeg)) h E hK)
theorem s_X12_next_22 {l : Launch} {G : va_G × (Nat → ClassId)} {Q : Option Value → mH → Prop} {X : String → mH → Prop} (p0 : Nat) (v1 : Int32) (v2 : Int32) (v3 : Int32) (v4 : Int32) (v5 : Int32) (h : mH) {o : Int32 × mH} (E : g_X12_next_22 p0 v1 v2 v3 v4 v5 h = some o) (hK : (fiI Q) o) : mW l G m_X12_next 0 0 0 22 [some (.ref p0), some (.int v1), some (.int v2), some (.int v3), some (.int v4), some (.int v5)] [] h Q X :=
  (lp_go (w_X12_next_22 l G Q X p0 v1 v2 v3) (fiI Q) (b_X12_next_22 p0 v1 v2 v3) (fun s o E hK => sb_X12_next_22 p0 v1 v2 v3 s.1 s.2.1 (s.2.2) E hK) _ _ _ E hK : w_X12_next_22 l G Q X p0 v1 v2 v3 (v4, v5, h))
set_option maxRecDepth 100000 in
set_option maxHeartbeats 4000000 in
theorem s_X12_next_17 {l : Launch} {G : va_G × (Nat → ClassId)} {Q : Option Value → mH → Prop} {X : String → mH → Prop} (p0 : Nat) (v1 : Int32) (v2 : Int32) (v3 : Int32) (s0 : Int32) (h : mH) {o : Int32 × mH} (E : g_X12_next_17 p0 v1 v2 v3 s0 h = some o) (hK : (fiI Q) o) : mW l G m_X12_next 0 0 0 17 [some (.ref p0), some (.int v1), some (.int v2), some (.int v3), none, none] [.int s0] h Q X := by
  unfold g_X12_next_17 at E
  refine r_istore dX12_next_17 (by decide) rfl (ls' := [some (.ref p0), some (.int v1), some (.int v2), some (.int v3), some (.int s0), none]) rfl ?_
  refine q_iconst dX12_next_19 ?_
  refine r_istore dX12_next_20 (by decide) rfl (ls' := [some (.ref p0), some (.int v1), some (.int v2), some (.int v3), some (.int s0), some (.int (Int32.ofInt 0))]) rfl ?_
  exact r_fewer [some (.ref p0), some (.int v1), some (.int v2), some (.int v3), some (.int s0), some (.int (Int32.ofInt 0))] (ls_s (ls_s (ls_s (ls_s (ls_s (ls_s ls_0)))))) (s_X12_next_22 p0 v1 v2 v3 s0 (Int32.ofInt 0) h E hK)
set_option maxRecDepth 100000 in
set_option maxHeartbeats 4000000 in
theorem s_X12_next_0 {l : Launch} {G : va_G × (Nat → ClassId)} {Q : Option Value → mH → Prop} {X : String → mH → Prop} (p0 : Nat) (v1 : Int32) (v2 : Int32) (v3 : Int32) (h : mH) {o : Int32 × mH} (E : f_X12_next p0 v1 v2 v3 h = some o) (hK : (fiI Q) o) : mW l G m_X12_next 0 0 0 0 [some (.ref p0), some (.int v1), some (.int v2), some (.int v3), none, none] [] h Q X := by
  unfold f_X12_next at E
  refine q_iload_n dX12_next_0 rfl ?_
  refine q_sipush (v := (Int32.ofInt 128)) dX12_next_1 (by decide) ?_
  refine q_icmp_ne (tgt := 16) dX12_next_4 (by decide) (fun z1 => ?_) (fun z1 => ?_)
  · replace E := ite_f E z1
    refine q_iconst dX12_next_16 ?_
    exact r_fewer [some (.ref p0), some (.int v1), some (.int v2), some (.int v3), none, none] (ls_s (ls_s (ls_s (ls_s (ls_n (ls_n ls_0)))))) (s_X12_next_17 p0 v1 v2 v3 (Int32.ofInt 0) h E hK)
  · replace E := ite_t E z1
    refine q_aload_n dX12_next_7 rfl ?_
    obtain ⟨g2, E⟩ := grd_some E
    obtain ⟨a3, ea3, E⟩ := orf_some E
    refine r_getR dX12_next_8 FX12_54 g2 ea3 ?_
    refine q_iload_n dX12_next_11 rfl ?_
    obtain ⟨g4, E⟩ := grd_some E
    obtain ⟨g5, E⟩ := grd_some E
    refine r_iaload dX12_next_12 g4 g5 ?_
    refine q_goto (tgt := 17) dX12_next_13 (by decide) ?_
    exact r_fewer [some (.ref p0), some (.int v1), some (.int v2), some (.int v3), none, none] (ls_s (ls_s (ls_s (ls_s (ls_n (ls_n ls_0)))))) (s_X12_next_17 p0 v1 v2 v3 (gi h a3 v1.toNatClampNeg) h E hK)
theorem c_X12_next {l : Launch} {G : va_G × (Nat → ClassId)} {p0 : Nat} {v1 : Int32} {v2 : Int32} {v3 : Int32} {h h' : mH} {r : Int32} (E : f_X12_next p0 v1 v2 v3 h = some (r, h')) : mMet l G m_X12_next 0 0 0 [.ref p0, .int v1, .int v2, .int v3] h (fun v k => v = some (.int r) ∧ h' = k) (fun _ _ => False) :=
  mMet_of (by decide +kernel) rfl (ac_c rfl (ac_c rfl (ac_c rfl (ac_c rfl ac_0)))) (Nat.le_of_ble_eq_true rfl) (s_X12_next_0 p0 v1 v2 v3 h E (And.intro rfl rfl))
set_option maxRecDepth 100000 in
set_option maxHeartbeats 4000000 in
theorem s_X12_builds_170 {l : Launch} {G : va_G × (Nat → ClassId)} {Q : Option Value → mH → Prop} {X : String → mH → Prop} (p0 : Nat) (v1 : Int32) (v2 : Int32) (v3 : Int32) (v4 : Int32) (h : mH) {o : ((Int32 × Int32 × mH) ⊕ (Unit × mH))} (E : g_X12_builds_170 p0 v1 v2 v3 v4 h = some o) (hK : (lpK (w_X12_builds_60 l G Q X p0 v1 v2) (fiV Q)) o) : mW l G m_X12_builds 2 0 0 170 [some (.ref p0), some (.int v1), some (.int v2), some (.int v3), some (.int v4), none] [] h Q X := by
  unfold g_X12_builds_170 at E
  obtain ⟨x1, ex1, E⟩ := bnd_x E
  refine r_iinc (v := x1) dX12_builds_170 rfl ex1 (by decide) (ls' := [some (.ref p0), some (.int v1), some (.int v2), some (.int v3), some (.int x1), none]) rfl ?_
  refine q_goto (tgt := 60) dX12_builds_173 (by decide) ?_
  cases E
  exact r_fewer [some (.ref p0), some (.int v1), some (.int v2), some (.int v3), some (.int x1), none] (ls_s (ls_s (ls_s (ls_s (ls_s (ls_n ls_0)))))) hK
set_option maxRecDepth 100000 in
set_option maxHeartbeats 4000000 in
theorem s_X12_builds_151 {l : Launch} {G : va_G × (Nat → ClassId)} {Q : Option Value → mH → Prop} {X : String → mH → Prop} (p0 : Nat) (v1 : Int32) (v2 : Int32) (v3 : Int32) (v4 : Int32) (v5 : Int32) (h : mH) {o : ((Int32 × Int32 × mH) ⊕ (Unit × mH))} (E : g_X12_builds_151 p0 v1 v2 v3 v4 v5 h = some o) (hK : (lpK (w_X12_builds_60 l G Q X p0 v1 v2) (fiV Q)) o) : mW l G m_X12_builds 2 0 0 151 [some (.ref p0), some (.int v1), some (.int v2), some (.int v3), some (.int v4), some (.int v5)] [] h Q X := by
  unfold g_X12_builds_151 at E
  refine q_iload dX12_builds_151 rfl ?_
  refine q_bipush (v := (Int32.ofInt 7)) dX12_builds_153 (by decide) ?_
  refine q_icmp_eq (tgt := 170) dX12_builds_155 (by decide) (fun z1 => ?_) (fun z1 => ?_)
  · replace E := ite_t E z1
    exact r_fewer [some (.ref p0), some (.int v1), some (.int v2), some (.int v3), some (.int v4), none] (ls_s (ls_s (ls_s (ls_s (ls_s (ls_n ls_0)))))) (s_X12_builds_170 p0 v1 v2 v3 v4 h E hK)
  · replace E := ite_f E z1
    refine q_aload_n dX12_builds_158 rfl ?_
    obtain ⟨g2, E⟩ := grd_some E
    obtain ⟨a3, ea3, E⟩ := orf_some E
    refine r_getR dX12_builds_159 FX12_60 g2 ea3 ?_
    refine q_aload_n dX12_builds_162 rfl ?_
    refine r_getI dX12_builds_163 FX12_256 g2 ?_
    refine q_iconst dX12_builds_166 ?_
    refine q_isub dX12_builds_167 ?_
    refine q_iconst dX12_builds_168 ?_
    obtain ⟨g5, E⟩ := grd_some E
    obtain ⟨g6, E⟩ := grd_some E
    obtain ⟨h4, eh4, E⟩ := bnd_x E
    refine r_iastore (hh := eh4) dX12_builds_169 g5 g6 ?_
    exact r_fewer [some (.ref p0), some (.int v1), some (.int v2), some (.int v3), some (.int v4), none] (ls_s (ls_s (ls_s (ls_s (ls_s (ls_n ls_0)))))) (s_X12_builds_170 p0 v1 v2 v3 v4 h4 E hK)
set_option maxRecDepth 100000 in
set_option maxHeartbeats 4000000 in
theorem sb_X12_builds_226 {l : Launch} {G : va_G × (Nat → ClassId)} {Q : Option Value → mH → Prop} {X : String → mH → Prop} (p0 : Nat) (v1 : Int32) (v4 : Int32) (v5 : Int32) (h : mH) {o : ((Int32 × mH) ⊕ ((Int32 × mH) ⊕ (Unit × mH)))} (E : b0_X12_builds_226 p0 v1 v4 v5 h = some o) (hK : (lpK (w_X12_builds_226 l G Q X p0 v1 v4) (lpK (w_X12_builds_215 l G Q X p0 v1) (fiV Q))) o) : mW l G m_X12_builds 2 0 0 226 [some (.ref p0), some (.int v1), none, none, some (.int v4), some (.int v5)] [] h Q X := by
  unfold b0_X12_builds_226 at E
  refine q_iload dX12_builds_226 rfl ?_
  refine q_iconst dX12_builds_228 ?_
  refine q_icmp_ge (tgt := 265) dX12_builds_229 (by decide) (fun z1 => ?_) (fun z1 => ?_)
  · replace E := ite_t E z1
    obtain ⟨x2, ex2, E⟩ := bnd_x E
    refine r_iinc (v := x2) dX12_builds_265 rfl ex2 (by decide) (ls' := [some (.ref p0), some (.int v1), none, none, some (.int x2), some (.int v5)]) rfl ?_
    refine q_goto (tgt := 215) dX12_builds_268 (by decide) ?_
    cases E
    exact r_fewer [some (.ref p0), some (.int v1), none, none, some (.int x2), none] (ls_s (ls_s (ls_n (ls_n (ls_s (ls_n ls_0)))))) hK
  · replace E := ite_f E z1
    refine q_aload_n dX12_builds_232 rfl ?_
    obtain ⟨g3, E⟩ := grd_some E
    obtain ⟨a4, ea4, E⟩ := orf_some E
    refine r_getR dX12_builds_233 FX12_42 g3 ea4 ?_
    refine q_sipush (v := (Int32.ofInt 387)) dX12_builds_236 (by decide) ?_
    refine q_iload_n dX12_builds_239 rfl ?_
    refine q_imul dX12_builds_240 ?_
    refine q_iconst dX12_builds_241 ?_
    refine q_iload dX12_builds_242 rfl ?_
    refine q_imul dX12_builds_244 ?_
    refine q_iadd dX12_builds_245 ?_
    refine q_iload dX12_builds_246 rfl ?_
    refine q_iadd dX12_builds_248 ?_
    refine q_aload_n dX12_builds_249 rfl ?_
    refine q_iload_n dX12_builds_250 rfl ?_
    refine q_iload dX12_builds_251 rfl ?_
    refine q_iload dX12_builds_253 rfl ?_
    obtain ⟨x6, h5, hc, E⟩ := cal_some E
    refine r_callV3 (mc := 0) (ms := 0) dX12_builds_255 KX12_270 (c_X12_next hc) g3 (by decide) (Nat.le_of_ble_eq_true rfl) (fun _ _ q => q.elim) ?_
    rintro _ _ ⟨rfl, rfl⟩
    clear hc
    obtain ⟨g8, E⟩ := grd_some E
    obtain ⟨g9, E⟩ := grd_some E
    obtain ⟨h7, eh7, E⟩ := bnd_x E
    refine r_iastore (hh := eh7) dX12_builds_258 g8 g9 ?_
    obtain ⟨x10, ex10, E⟩ := bnd_x E
    refine r_iinc (v := x10) dX12_builds_259 rfl ex10 (by decide) (ls' := [some (.ref p0), some (.int v1), none, none, some (.int v4), some (.int x10)]) rfl ?_
    refine q_goto (tgt := 226) dX12_builds_262 (by decide) ?_
    cases E
    exact r_fewer [some (.ref p0), some (.int v1), none, none, some (.int v4), some (.int x10)] (ls_s (ls_s (ls_n (ls_n (ls_s (ls_s ls_0)))))) hK
theorem s_X12_builds_226 {l : Launch} {G : va_G × (Nat → ClassId)} {Q : Option Value → mH → Prop} {X : String → mH → Prop} (p0 : Nat) (v1 : Int32) (v4 : Int32) (v5 : Int32) (h : mH) {o : ((Int32 × mH) ⊕ (Unit × mH))} (E : g_X12_builds_226 p0 v1 v4 v5 h = some o) (hK : (lpK (w_X12_builds_215 l G Q X p0 v1) (fiV Q)) o) : mW l G m_X12_builds 2 0 0 226 [some (.ref p0), some (.int v1), none, none, some (.int v4), some (.int v5)] [] h Q X :=
  (lp_go (w_X12_builds_226 l G Q X p0 v1 v4) (lpK (w_X12_builds_215 l G Q X p0 v1) (fiV Q)) (b_X12_builds_226 p0 v1 v4) (fun s o E hK => sb_X12_builds_226 p0 v1 v4 s.1 (s.2) E hK) _ _ _ E hK : w_X12_builds_226 l G Q X p0 v1 v4 (v5, h))
set_option maxRecDepth 100000 in
set_option maxHeartbeats 4000000 in
theorem sb_X12_builds_215 {l : Launch} {G : va_G × (Nat → ClassId)} {Q : Option Value → mH → Prop} {X : String → mH → Prop} (p0 : Nat) (v1 : Int32) (v4 : Int32) (h : mH) {o : ((Int32 × mH) ⊕ (Unit × mH))} (E : b0_X12_builds_215 p0 v1 v4 h = some o) (hK : (lpK (w_X12_builds_215 l G Q X p0 v1) (fiV Q)) o) : mW l G m_X12_builds 2 0 0 215 [some (.ref p0), some (.int v1), none, none, some (.int v4), none] [] h Q X := by
  unfold b0_X12_builds_215 at E
  refine q_iload dX12_builds_215 rfl ?_
  refine q_sipush (v := (Int32.ofInt 129)) dX12_builds_217 (by decide) ?_
  refine q_icmp_ge (tgt := 271) dX12_builds_220 (by decide) (fun z1 => ?_) (fun z1 => ?_)
  · replace E := ite_t E z1
    cases E
    exact q_return dX12_builds_271 rfl hK
  · replace E := ite_f E z1
    refine q_iconst dX12_builds_223 ?_
    refine r_istore dX12_builds_224 (by decide) rfl (ls' := [some (.ref p0), some (.int v1), none, none, some (.int v4), some (.int (Int32.ofInt 0))]) rfl ?_
    exact r_fewer [some (.ref p0), some (.int v1), none, none, some (.int v4), some (.int (Int32.ofInt 0))] (ls_s (ls_s (ls_n (ls_n (ls_s (ls_s ls_0)))))) (s_X12_builds_226 p0 v1 v4 (Int32.ofInt 0) h E hK)
theorem s_X12_builds_215 {l : Launch} {G : va_G × (Nat → ClassId)} {Q : Option Value → mH → Prop} {X : String → mH → Prop} (p0 : Nat) (v1 : Int32) (v4 : Int32) (h : mH) {o : Unit × mH} (E : g_X12_builds_215 p0 v1 v4 h = some o) (hK : (fiV Q) o) : mW l G m_X12_builds 2 0 0 215 [some (.ref p0), some (.int v1), none, none, some (.int v4), none] [] h Q X :=
  (lp_go (w_X12_builds_215 l G Q X p0 v1) (fiV Q) (b_X12_builds_215 p0 v1) (fun s o E hK => sb_X12_builds_215 p0 v1 s.1 (s.2) E hK) _ _ _ E hK : w_X12_builds_215 l G Q X p0 v1 (v4, h))
set_option maxRecDepth 100000 in
set_option maxHeartbeats 4000000 in
theorem sb_X12_builds_60 {l : Launch} {G : va_G × (Nat → ClassId)} {Q : Option Value → mH → Prop} {X : String → mH → Prop} (p0 : Nat) (v1 : Int32) (v2 : Int32) (v3 : Int32) (v4 : Int32) (h : mH) {o : ((Int32 × Int32 × mH) ⊕ (Unit × mH))} (E : b0_X12_builds_60 p0 v1 v2 v3 v4 h = some o) (hK : (lpK (w_X12_builds_60 l G Q X p0 v1 v2) (fiV Q)) o) : mW l G m_X12_builds 2 0 0 60 [some (.ref p0), some (.int v1), some (.int v2), some (.int v3), some (.int v4), none] [] h Q X := by
  unfold b0_X12_builds_60 at E
  refine q_iload dX12_builds_60 rfl ?_
  refine q_aload_n dX12_builds_62 rfl ?_
  refine q_iload_n dX12_builds_63 rfl ?_
  obtain ⟨g3, E⟩ := grd_some E
  obtain ⟨x2, h1, hc, E⟩ := cal_some E
  refine r_callV1 (mc := 0) (ms := 0) dX12_builds_64 KX12_140 (c_X12_length hc) g3 (by decide) (Nat.le_of_ble_eq_true rfl) (fun _ _ q => q.elim) ?_
  rintro _ _ ⟨rfl, rfl⟩
  clear hc
  refine q_icmp_ge (tgt := 176) dX12_builds_67 (by decide) (fun z4 => ?_) (fun z4 => ?_)
  · replace E := ite_t E z4
    refine q_aload_n dX12_builds_176 rfl ?_
    obtain ⟨g5, E⟩ := grd_some E
    obtain ⟨a6, ea6, E⟩ := orf_some E
    refine r_getR dX12_builds_177 FX12_54 g5 ea6 ?_
    refine q_iload_n dX12_builds_180 rfl ?_
    refine q_aload_n dX12_builds_181 rfl ?_
    obtain ⟨a7, ea7, E⟩ := orf_some E
    refine r_getR dX12_builds_182 FX12_63 g5 ea7 ?_
    refine q_iconst dX12_builds_185 ?_
    obtain ⟨g8, E⟩ := grd_some E
    obtain ⟨g9, E⟩ := grd_some E
    refine r_iaload dX12_builds_186 g8 g9 ?_
    obtain ⟨g11, E⟩ := grd_some E
    obtain ⟨g12, E⟩ := grd_some E
    obtain ⟨h10, eh10, E⟩ := bnd_x E
    refine r_iastore (hh := eh10) dX12_builds_187 g11 g12 ?_
    refine q_aload_n dX12_builds_188 rfl ?_
    obtain ⟨g13, E⟩ := grd_some E
    obtain ⟨a14, ea14, E⟩ := orf_some E
    refine r_getR dX12_builds_189 FX12_51 g13 ea14 ?_
    refine q_iload_n dX12_builds_192 rfl ?_
    refine q_aload_n dX12_builds_193 rfl ?_
    obtain ⟨a15, ea15, E⟩ := orf_some E
    refine r_getR dX12_builds_194 FX12_66 g13 ea15 ?_
    refine q_iconst dX12_builds_197 ?_
    obtain ⟨g16, E⟩ := grd_some E
    obtain ⟨g17, E⟩ := grd_some E
    refine r_iaload dX12_builds_198 g16 g17 ?_
    obtain ⟨g19, E⟩ := grd_some E
    obtain ⟨g20, E⟩ := grd_some E
    obtain ⟨h18, eh18, E⟩ := bnd_x E
    refine r_iastore (hh := eh18) dX12_builds_199 g19 g20 ?_
    refine q_aload_n dX12_builds_200 rfl ?_
    obtain ⟨g21, E⟩ := grd_some E
    obtain ⟨a22, ea22, E⟩ := orf_some E
    refine r_getR dX12_builds_201 FX12_57 g21 ea22 ?_
    refine q_iload_n dX12_builds_204 rfl ?_
    refine q_aload_n dX12_builds_205 rfl ?_
    obtain ⟨a23, ea23, E⟩ := orf_some E
    refine r_getR dX12_builds_206 FX12_60 g21 ea23 ?_
    refine q_iconst dX12_builds_209 ?_
    obtain ⟨g24, E⟩ := grd_some E
    obtain ⟨g25, E⟩ := grd_some E
    refine r_iaload dX12_builds_210 g24 g25 ?_
    obtain ⟨g27, E⟩ := grd_some E
    obtain ⟨g28, E⟩ := grd_some E
    obtain ⟨h26, eh26, E⟩ := bnd_x E
    refine r_iastore (hh := eh26) dX12_builds_211 g27 g28 ?_
    refine q_iconst dX12_builds_212 ?_
    refine r_istore dX12_builds_213 (by decide) rfl (ls' := [some (.ref p0), some (.int v1), some (.int v2), some (.int v3), some (.int (Int32.ofInt 0)), none]) rfl ?_
    obtain ⟨o0, E0, rfl⟩ := inrO_some E
    exact r_fewer [some (.ref p0), some (.int v1), none, none, some (.int (Int32.ofInt 0)), none] (ls_s (ls_s (ls_n (ls_n (ls_s (ls_n ls_0)))))) (s_X12_builds_215 p0 v1 (Int32.ofInt 0) h26 E0 hK)
  · replace E := ite_f E z4
    refine q_aload_n dX12_builds_70 rfl ?_
    refine q_iload_n dX12_builds_71 rfl ?_
    refine q_iload dX12_builds_72 rfl ?_
    obtain ⟨g31, E⟩ := grd_some E
    obtain ⟨x30, h29, hc, E⟩ := cal_some E
    refine r_callV2 (mc := 0) (ms := 0) dX12_builds_74 KX12_147 (c_X12_code hc) g31 (by decide) (Nat.le_of_ble_eq_true rfl) (fun _ _ q => q.elim) ?_
    rintro _ _ ⟨rfl, rfl⟩
    clear hc
    refine r_istore dX12_builds_77 (by decide) rfl (ls' := [some (.ref p0), some (.int v1), some (.int v2), some (.int v3), some (.int v4), some (.int x30)]) rfl ?_
    refine q_iload dX12_builds_79 rfl ?_
    refine q_iconst dX12_builds_81 ?_
    refine q_icmp_ge (tgt := 101) dX12_builds_82 (by decide) (fun z32 => ?_) (fun z32 => ?_)
    · replace E := ite_t E z32
      refine q_iload dX12_builds_101 rfl ?_
      refine q_iconst dX12_builds_103 ?_
      refine q_icmp_gt (tgt := 117) dX12_builds_104 (by decide) (fun z33 => ?_) (fun z33 => ?_)
      · replace E := ite_t E z33
        refine q_iload dX12_builds_117 rfl ?_
        refine q_bipush (v := (Int32.ofInt 8)) dX12_builds_119 (by decide) ?_
        refine q_icmp_eq (tgt := 151) dX12_builds_121 (by decide) (fun z34 => ?_) (fun z34 => ?_)
        · replace E := ite_t E z34
          exact r_fewer [some (.ref p0), some (.int v1), some (.int v2), some (.int v3), some (.int v4), some (.int x30)] (ls_s (ls_s (ls_s (ls_s (ls_s (ls_s ls_0)))))) (s_X12_builds_151 p0 v1 v2 v3 v4 x30 h29 E hK)
        · replace E := ite_f E z34
          refine q_aload_n dX12_builds_124 rfl ?_
          refine q_iload_n dX12_builds_125 rfl ?_
          refine q_aload_n dX12_builds_126 rfl ?_
          obtain ⟨g35, E⟩ := grd_some E
          obtain ⟨a36, ea36, E⟩ := orf_some E
          refine r_getR dX12_builds_127 FX12_66 g35 ea36 ?_
          refine q_aload_n dX12_builds_130 rfl ?_
          refine r_getI dX12_builds_131 FX12_256 g35 ?_
          refine q_iconst dX12_builds_134 ?_
          refine q_isub dX12_builds_135 ?_
          obtain ⟨g37, E⟩ := grd_some E
          obtain ⟨g38, E⟩ := grd_some E
          refine r_iaload dX12_builds_136 g37 g38 ?_
          refine q_aload_n dX12_builds_137 rfl ?_
          obtain ⟨a39, ea39, E⟩ := orf_some E
          refine r_getR dX12_builds_138 FX12_63 g35 ea39 ?_
          refine q_aload_n dX12_builds_141 rfl ?_
          refine r_getI dX12_builds_142 FX12_256 g35 ?_
          refine q_iconst dX12_builds_145 ?_
          refine q_isub dX12_builds_146 ?_
          obtain ⟨g40, E⟩ := grd_some E
          obtain ⟨g41, E⟩ := grd_some E
          refine r_iaload dX12_builds_147 g40 g41 ?_
          obtain ⟨_, h42, hc, E⟩ := cal_some E
          refine r_callV3 (mc := 0) (ms := 0) dX12_builds_148 KX12_259 (c_X12_followed hc) g35 (by decide) (Nat.le_of_ble_eq_true rfl) (fun _ _ q => q.elim) ?_
          rintro _ _ ⟨rfl, rfl⟩
          clear hc
          exact r_fewer [some (.ref p0), some (.int v1), some (.int v2), some (.int v3), some (.int v4), some (.int x30)] (ls_s (ls_s (ls_s (ls_s (ls_s (ls_s ls_0)))))) (s_X12_builds_151 p0 v1 v2 v3 v4 x30 h42 E hK)
      · replace E := ite_f E z33
        refine q_aload_n dX12_builds_107 rfl ?_
        refine q_iload_n dX12_builds_108 rfl ?_
        refine q_iload dX12_builds_109 rfl ?_
        obtain ⟨g46, E⟩ := grd_some E
        obtain ⟨_, h44, hc, E⟩ := cal_some E
        refine r_callV2 (mc := 0) (ms := 0) dX12_builds_111 KX12_266 (c_X12_joins hc) g46 (by decide) (Nat.le_of_ble_eq_true rfl) (fun _ _ q => q.elim) ?_
        rintro _ _ ⟨rfl, rfl⟩
        clear hc
        refine q_goto (tgt := 170) dX12_builds_114 (by decide) ?_
        exact r_fewer [some (.ref p0), some (.int v1), some (.int v2), some (.int v3), some (.int v4), none] (ls_s (ls_s (ls_s (ls_s (ls_s (ls_n ls_0)))))) (s_X12_builds_170 p0 v1 v2 v3 v4 h44 E hK)
    · replace E := ite_f E z32
      refine q_aload_n dX12_builds_85 rfl ?_
      refine q_iload_n dX12_builds_86 rfl ?_
      refine q_iload dX12_builds_87 rfl ?_
      refine q_iconst dX12_builds_89 ?_
      refine q_isub dX12_builds_90 ?_
      refine q_iload_n dX12_builds_91 rfl ?_
      obtain ⟨g49, E⟩ := grd_some E
      obtain ⟨_, h47, hc, E⟩ := cal_some E
      refine r_callV3 (mc := 0) (ms := 0) dX12_builds_92 KX12_263 (c_X12_pileLetter hc) g49 (by decide) (Nat.le_of_ble_eq_true rfl) (fun _ _ q => q.elim) ?_
      rintro _ _ ⟨rfl, rfl⟩
      clear hc
      obtain ⟨x50, ex50, E⟩ := bnd_x E
      refine r_iinc (v := x50) dX12_builds_95 rfl ex50 (by decide) (ls' := [some (.ref p0), some (.int v1), some (.int v2), some (.int x50), some (.int v4), some (.int x30)]) rfl ?_
      refine q_goto (tgt := 170) dX12_builds_98 (by decide) ?_
      exact r_fewer [some (.ref p0), some (.int v1), some (.int v2), some (.int x50), some (.int v4), none] (ls_s (ls_s (ls_s (ls_s (ls_s (ls_n ls_0)))))) (s_X12_builds_170 p0 v1 v2 x50 v4 h47 E hK)
theorem s_X12_builds_60 {l : Launch} {G : va_G × (Nat → ClassId)} {Q : Option Value → mH → Prop} {X : String → mH → Prop} (p0 : Nat) (v1 : Int32) (v2 : Int32) (v3 : Int32) (v4 : Int32) (h : mH) {o : Unit × mH} (E : g_X12_builds_60 p0 v1 v2 v3 v4 h = some o) (hK : (fiV Q) o) : mW l G m_X12_builds 2 0 0 60 [some (.ref p0), some (.int v1), some (.int v2), some (.int v3), some (.int v4), none] [] h Q X :=
  (lp_go (w_X12_builds_60 l G Q X p0 v1 v2) (fiV Q) (b_X12_builds_60 p0 v1 v2) (fun s o E hK => sb_X12_builds_60 p0 v1 v2 s.1 s.2.1 (s.2.2) E hK) _ _ _ E hK : w_X12_builds_60 l G Q X p0 v1 v2 (v3, v4, h))
set_option maxRecDepth 100000 in
set_option maxHeartbeats 4000000 in
theorem sb_X12_builds_28 {l : Launch} {G : va_G × (Nat → ClassId)} {Q : Option Value → mH → Prop} {X : String → mH → Prop} (p0 : Nat) (v1 : Int32) (v2 : Int32) (v3 : Int32) (h : mH) {o : ((Int32 × mH) ⊕ (Unit × mH))} (E : b0_X12_builds_28 p0 v1 v2 v3 h = some o) (hK : (lpK (w_X12_builds_28 l G Q X p0 v1 v2) (fiV Q)) o) : mW l G m_X12_builds 2 0 0 28 [some (.ref p0), some (.int v1), some (.int v2), some (.int v3), none, none] [] h Q X := by
  unfold b0_X12_builds_28 at E
  refine q_iload_n dX12_builds_28 rfl ?_
  refine q_iconst dX12_builds_29 ?_
  refine q_icmp_ge (tgt := 50) dX12_builds_30 (by decide) (fun z1 => ?_) (fun z1 => ?_)
  · replace E := ite_t E z1
    refine q_aload_n dX12_builds_50 rfl ?_
    refine q_iconst dX12_builds_51 ?_
    obtain ⟨g2, E⟩ := grd_some E
    obtain ⟨h3, eh3, E⟩ := bnd_x E
    refine r_putI (hh := eh3) dX12_builds_52 FX12_256 g2 rfl rfl ?_
    refine q_iconst dX12_builds_55 ?_
    refine r_istore_n dX12_builds_56 (by decide) rfl (ls' := [some (.ref p0), some (.int v1), some (.int v2), some (.int (Int32.ofInt 0)), none, none]) rfl ?_
    refine q_iconst dX12_builds_57 ?_
    refine r_istore dX12_builds_58 (by decide) rfl (ls' := [some (.ref p0), some (.int v1), some (.int v2), some (.int (Int32.ofInt 0)), some (.int (Int32.ofInt 0)), none]) rfl ?_
    obtain ⟨o0, E0, rfl⟩ := inrO_some E
    exact r_fewer [some (.ref p0), some (.int v1), some (.int v2), some (.int (Int32.ofInt 0)), some (.int (Int32.ofInt 0)), none] (ls_s (ls_s (ls_s (ls_s (ls_s (ls_n ls_0)))))) (s_X12_builds_60 p0 v1 v2 (Int32.ofInt 0) (Int32.ofInt 0) h3 E0 hK)
  · replace E := ite_f E z1
    refine q_aload_n dX12_builds_33 rfl ?_
    obtain ⟨g4, E⟩ := grd_some E
    obtain ⟨a5, ea5, E⟩ := orf_some E
    refine r_getR dX12_builds_34 FX12_48 g4 ea5 ?_
    refine q_iconst dX12_builds_37 ?_
    refine q_iload_n dX12_builds_38 rfl ?_
    refine q_imul dX12_builds_39 ?_
    refine q_iload_n dX12_builds_40 rfl ?_
    refine q_iadd dX12_builds_41 ?_
    refine q_iconst dX12_builds_42 ?_
    obtain ⟨g7, E⟩ := grd_some E
    obtain ⟨g8, E⟩ := grd_some E
    obtain ⟨h6, eh6, E⟩ := bnd_x E
    refine r_iastore (hh := eh6) dX12_builds_43 g7 g8 ?_
    obtain ⟨x9, ex9, E⟩ := bnd_x E
    refine r_iinc (v := x9) dX12_builds_44 rfl ex9 (by decide) (ls' := [some (.ref p0), some (.int v1), some (.int v2), some (.int x9), none, none]) rfl ?_
    refine q_goto (tgt := 28) dX12_builds_47 (by decide) ?_
    cases E
    exact r_fewer [some (.ref p0), some (.int v1), some (.int v2), some (.int x9), none, none] (ls_s (ls_s (ls_s (ls_s (ls_n (ls_n ls_0)))))) hK
theorem s_X12_builds_28 {l : Launch} {G : va_G × (Nat → ClassId)} {Q : Option Value → mH → Prop} {X : String → mH → Prop} (p0 : Nat) (v1 : Int32) (v2 : Int32) (v3 : Int32) (h : mH) {o : Unit × mH} (E : g_X12_builds_28 p0 v1 v2 v3 h = some o) (hK : (fiV Q) o) : mW l G m_X12_builds 2 0 0 28 [some (.ref p0), some (.int v1), some (.int v2), some (.int v3), none, none] [] h Q X :=
  (lp_go (w_X12_builds_28 l G Q X p0 v1 v2) (fiV Q) (b_X12_builds_28 p0 v1 v2) (fun s o E hK => sb_X12_builds_28 p0 v1 v2 s.1 (s.2) E hK) _ _ _ E hK : w_X12_builds_28 l G Q X p0 v1 v2 (v3, h))
set_option maxRecDepth 100000 in
set_option maxHeartbeats 4000000 in
theorem sb_X12_builds_2 {l : Launch} {G : va_G × (Nat → ClassId)} {Q : Option Value → mH → Prop} {X : String → mH → Prop} (p0 : Nat) (v1 : Int32) (v2 : Int32) (v3 : Int32) (h : mH) {o : ((Int32 × mH) ⊕ (Unit × mH))} (E : b0_X12_builds_2 p0 v1 v2 v3 h = some o) (hK : (lpK (w_X12_builds_2 l G Q X p0 v1 v2) (fiV Q)) o) : mW l G m_X12_builds 2 0 0 2 [some (.ref p0), some (.int v1), some (.int v2), some (.int v3), none, none] [] h Q X := by
  unfold b0_X12_builds_2 at E
  refine q_iload_n dX12_builds_2 rfl ?_
  refine q_bipush (v := (Int32.ofInt 7)) dX12_builds_3 (by decide) ?_
  refine q_icmp_ge (tgt := 26) dX12_builds_5 (by decide) (fun z1 => ?_) (fun z1 => ?_)
  · replace E := ite_t E z1
    refine q_iconst dX12_builds_26 ?_
    refine r_istore_n dX12_builds_27 (by decide) rfl (ls' := [some (.ref p0), some (.int v1), some (.int v2), some (.int (Int32.ofInt 0)), none, none]) rfl ?_
    obtain ⟨o0, E0, rfl⟩ := inrO_some E
    exact r_fewer [some (.ref p0), some (.int v1), some (.int v2), some (.int (Int32.ofInt 0)), none, none] (ls_s (ls_s (ls_s (ls_s (ls_n (ls_n ls_0)))))) (s_X12_builds_28 p0 v1 v2 (Int32.ofInt 0) h E0 hK)
  · replace E := ite_f E z1
    refine q_aload_n dX12_builds_8 rfl ?_
    obtain ⟨g2, E⟩ := grd_some E
    obtain ⟨a3, ea3, E⟩ := orf_some E
    refine r_getR dX12_builds_9 FX12_45 g2 ea3 ?_
    refine q_bipush (v := (Int32.ofInt 7)) dX12_builds_12 (by decide) ?_
    refine q_iload_n dX12_builds_14 rfl ?_
    refine q_imul dX12_builds_15 ?_
    refine q_iload_n dX12_builds_16 rfl ?_
    refine q_iadd dX12_builds_17 ?_
    refine q_iconst dX12_builds_18 ?_
    obtain ⟨g5, E⟩ := grd_some E
    obtain ⟨g6, E⟩ := grd_some E
    obtain ⟨h4, eh4, E⟩ := bnd_x E
    refine r_iastore (hh := eh4) dX12_builds_19 g5 g6 ?_
    obtain ⟨x7, ex7, E⟩ := bnd_x E
    refine r_iinc (v := x7) dX12_builds_20 rfl ex7 (by decide) (ls' := [some (.ref p0), some (.int v1), some (.int v2), some (.int x7), none, none]) rfl ?_
    refine q_goto (tgt := 2) dX12_builds_23 (by decide) ?_
    cases E
    exact r_fewer [some (.ref p0), some (.int v1), some (.int v2), some (.int x7), none, none] (ls_s (ls_s (ls_s (ls_s (ls_n (ls_n ls_0)))))) hK
theorem s_X12_builds_2 {l : Launch} {G : va_G × (Nat → ClassId)} {Q : Option Value → mH → Prop} {X : String → mH → Prop} (p0 : Nat) (v1 : Int32) (v2 : Int32) (v3 : Int32) (h : mH) {o : Unit × mH} (E : g_X12_builds_2 p0 v1 v2 v3 h = some o) (hK : (fiV Q) o) : mW l G m_X12_builds 2 0 0 2 [some (.ref p0), some (.int v1), some (.int v2), some (.int v3), none, none] [] h Q X :=
  (lp_go (w_X12_builds_2 l G Q X p0 v1 v2) (fiV Q) (b_X12_builds_2 p0 v1 v2) (fun s o E hK => sb_X12_builds_2 p0 v1 v2 s.1 (s.2) E hK) _ _ _ E hK : w_X12_builds_2 l G Q X p0 v1 v2 (v3, h))
set_option maxRecDepth 100000 in
set_option maxHeartbeats 4000000 in
theorem s_X12_builds_0 {l : Launch} {G : va_G × (Nat → ClassId)} {Q : Option Value → mH → Prop} {X : String → mH → Prop} (p0 : Nat) (v1 : Int32) (v2 : Int32) (h : mH) {o : Unit × mH} (E : f_X12_builds p0 v1 v2 h = some o) (hK : (fiV Q) o) : mW l G m_X12_builds 2 0 0 0 [some (.ref p0), some (.int v1), some (.int v2), none, none, none] [] h Q X := by
  unfold f_X12_builds at E
  refine q_iconst dX12_builds_0 ?_
  refine r_istore_n dX12_builds_1 (by decide) rfl (ls' := [some (.ref p0), some (.int v1), some (.int v2), some (.int (Int32.ofInt 0)), none, none]) rfl ?_
  exact r_fewer [some (.ref p0), some (.int v1), some (.int v2), some (.int (Int32.ofInt 0)), none, none] (ls_s (ls_s (ls_s (ls_s (ls_n (ls_n ls_0)))))) (s_X12_builds_2 p0 v1 v2 (Int32.ofInt 0) h E hK)
theorem c_X12_builds {l : Launch} {G : va_G × (Nat → ClassId)} {p0 : Nat} {v1 : Int32} {v2 : Int32} {h h' : mH} {r : Unit} (E : f_X12_builds p0 v1 v2 h = some (r, h')) : mMet l G m_X12_builds 2 0 0 [.ref p0, .int v1, .int v2] h (fun v k => v = none ∧ h' = k) (fun _ _ => False) :=
  mMet_of (by decide +kernel) rfl (ac_c rfl (ac_c rfl (ac_c rfl ac_0))) (Nat.le_of_ble_eq_true rfl) (s_X12_builds_0 p0 v1 v2 h E (And.intro rfl rfl))
