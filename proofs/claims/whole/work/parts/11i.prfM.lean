set_option maxRecDepth 100000 in
set_option maxHeartbeats 4000000 in
theorem s_X12_wordLetter_58 {l : Launch} {G : mG} {Q : Option Value → mH → Prop} {X : String → mH → Prop} (p0 : Nat) (h : mH) {o : Int32 × mH} (E : g_X12_wordLetter_58 p0 h = some o) (hK : (fiI Q) o) : mW l G m_X12_wordLetter 2 0 0 58 [some (.ref p0), none, none] [] h Q X := by
  unfold g_X12_wordLetter_58 at E
  refine q_aload_n dX12_wordLetter_58 rfl ?_
  refine q_iconst dX12_wordLetter_59 ?_
  replace E := grd_some E
  obtain ⟨g3, E⟩ := E
  replace E := cal_some E
  obtain ⟨x2, h1, hc, E⟩ := E
  refine r_callV1 (mc := 0) (ms := 0) dX12_wordLetter_60 KX12_196 (c_X12_fails hc) g3 (by decide) (Nat.le_of_ble_eq_true rfl) (fun _ _ q => q.elim) ?_
  rintro _ _ ⟨rfl, rfl⟩
  clear hc
  refine q_i2c dX12_wordLetter_63 ?_
  replace E := grd_some E
  obtain ⟨g4, E⟩ := E
  cases E
  exact q_zreturn dX12_wordLetter_64 rfl (narC g4) hK
set_option maxRecDepth 100000 in
set_option maxHeartbeats 4000000 in
theorem s_X12_wordLetter_0 {l : Launch} {G : mG} {Q : Option Value → mH → Prop} {X : String → mH → Prop} (p0 : Nat) (v1 : Int32) (v2 : Int32) (h : mH) {o : Int32 × mH} (E : f_X12_wordLetter p0 v1 v2 h = some o) (hK : (fiI Q) o) : mW l G m_X12_wordLetter 2 0 0 0 [some (.ref p0), some (.int v1), some (.int v2)] [] h Q X := by
  unfold f_X12_wordLetter at E
  refine q_aload_n dX12_wordLetter_0 rfl ?_
  refine q_iconst dX12_wordLetter_1 ?_
  replace E := grd_some E
  obtain ⟨g1, E⟩ := E
  replace E := bnd_x E
  obtain ⟨h2, eh2, E⟩ := E
  refine r_putI (hh := eh2) dX12_wordLetter_2 FX12_117 g1 rfl rfl ?_
  refine q_aload_n dX12_wordLetter_5 rfl ?_
  refine q_iload_n dX12_wordLetter_6 rfl ?_
  replace E := grd_some E
  obtain ⟨g5, E⟩ := E
  replace E := cal_some E
  obtain ⟨x4, h3, hc, E⟩ := E
  refine r_callV1 (mc := 0) (ms := 0) dX12_wordLetter_7 KX12_250 (c_X12_isWord hc) g5 (by decide) (Nat.le_of_ble_eq_true rfl) (fun _ _ q => q.elim) ?_
  rintro _ _ ⟨rfl, rfl⟩
  clear hc
  refine q_if_eq (tgt := 58) dX12_wordLetter_10 (by decide) (fun z6 => ?_) (fun z6 => ?_)
  · replace E := ite_t E z6
    exact r_fewer [some (.ref p0), none, none] (ls_s (ls_n (ls_n ls_0))) (s_X12_wordLetter_58 p0 h3 E hK)
  · replace E := ite_f E z6
    refine q_iload_n dX12_wordLetter_13 rfl ?_
    refine q_iconst dX12_wordLetter_14 ?_
    refine q_aload_n dX12_wordLetter_15 rfl ?_
    replace E := grd_some E
    obtain ⟨g7, E⟩ := E
    replace E := orf_some E
    obtain ⟨a8, ea8, E⟩ := E
    refine r_getR dX12_wordLetter_16 FX12_7 g7 ea8 ?_
    refine q_sipush (v := (Int32.ofInt 176)) dX12_wordLetter_19 (by decide) ?_
    refine q_bipush (v := (Int32.ofInt 9)) dX12_wordLetter_22 (by decide) ?_
    refine q_iload_n dX12_wordLetter_24 rfl ?_
    refine q_imul dX12_wordLetter_25 ?_
    refine q_iadd dX12_wordLetter_26 ?_
    replace E := grd_some E
    obtain ⟨g9, E⟩ := E
    replace E := grd_some E
    obtain ⟨g10, E⟩ := E
    refine r_iaload dX12_wordLetter_27 g9 g10 ?_
    refine q_iconst dX12_wordLetter_28 ?_
    refine q_isub dX12_wordLetter_29 ?_
    replace E := cal_some E
    obtain ⟨x12, h11, hc, E⟩ := E
    refine r_callS3 (mc := 0) (ms := 0) dX12_wordLetter_30 KX12_132 (c_X12_isBetween hc) (by decide) (Nat.le_of_ble_eq_true rfl) (fun _ _ q => q.elim) ?_
    rintro _ _ ⟨rfl, rfl⟩
    clear hc
    refine q_if_eq (tgt := 58) dX12_wordLetter_33 (by decide) (fun z13 => ?_) (fun z13 => ?_)
    · replace E := ite_t E z13
      exact r_fewer [some (.ref p0), none, none] (ls_s (ls_n (ls_n ls_0))) (s_X12_wordLetter_58 p0 h11 E hK)
    · replace E := ite_f E z13
      refine q_bipush (v := (Int32.ofInt 97)) dX12_wordLetter_36 (by decide) ?_
      refine q_aload_n dX12_wordLetter_38 rfl ?_
      replace E := grd_some E
      obtain ⟨g14, E⟩ := E
      replace E := orf_some E
      obtain ⟨a15, ea15, E⟩ := E
      refine r_getR dX12_wordLetter_39 FX12_7 g14 ea15 ?_
      refine q_sipush (v := (Int32.ofInt 176)) dX12_wordLetter_42 (by decide) ?_
      refine q_bipush (v := (Int32.ofInt 9)) dX12_wordLetter_45 (by decide) ?_
      refine q_iload_n dX12_wordLetter_47 rfl ?_
      refine q_imul dX12_wordLetter_48 ?_
      refine q_iadd dX12_wordLetter_49 ?_
      refine q_iconst dX12_wordLetter_50 ?_
      refine q_iadd dX12_wordLetter_51 ?_
      refine q_iload_n dX12_wordLetter_52 rfl ?_
      refine q_iadd dX12_wordLetter_53 ?_
      replace E := grd_some E
      obtain ⟨g16, E⟩ := E
      replace E := grd_some E
      obtain ⟨g17, E⟩ := E
      refine r_iaload dX12_wordLetter_54 g16 g17 ?_
      refine q_iadd dX12_wordLetter_55 ?_
      refine q_i2c dX12_wordLetter_56 ?_
      replace E := grd_some E
      obtain ⟨g18, E⟩ := E
      cases E
      exact q_zreturn dX12_wordLetter_57 rfl (narC g18) hK
theorem c_X12_wordLetter {l : Launch} {G : mG} {p0 : Nat} {v1 : Int32} {v2 : Int32} {h h' : mH} {r : Int32} (E : f_X12_wordLetter p0 v1 v2 h = some (r, h')) : mMet l G m_X12_wordLetter 2 0 0 [.ref p0, .int v1, .int v2] h (fun v k => v = some (.int r) ∧ h' = k) (fun _ _ => False) :=
  mMet_of (by decide +kernel) rfl (ac_c rfl (ac_c rfl (ac_c rfl ac_0))) (Nat.le_of_ble_eq_true rfl) (s_X12_wordLetter_0 p0 v1 v2 h E (And.intro rfl rfl))
set_option maxRecDepth 100000 in
set_option maxHeartbeats 4000000 in
theorem s_X12_definedTotal_0 {l : Launch} {G : mG} {Q : Option Value → mH → Prop} {X : String → mH → Prop} (p0 : Nat) (h : mH) {o : Int32 × mH} (E : f_X12_definedTotal p0 h = some o) (hK : (fiI Q) o) : mW l G m_X12_definedTotal 0 0 0 0 [some (.ref p0)] [] h Q X := by
  unfold f_X12_definedTotal at E
  refine q_aload_n dX12_definedTotal_0 rfl ?_
  refine q_iconst dX12_definedTotal_1 ?_
  replace E := grd_some E
  obtain ⟨g1, E⟩ := E
  replace E := bnd_x E
  obtain ⟨h2, eh2, E⟩ := E
  refine r_putI (hh := eh2) dX12_definedTotal_2 FX12_117 g1 rfl rfl ?_
  refine q_aload_n dX12_definedTotal_5 rfl ?_
  replace E := grd_some E
  obtain ⟨g3, E⟩ := E
  replace E := orf_some E
  obtain ⟨a4, ea4, E⟩ := E
  refine r_getR dX12_definedTotal_6 FX12_7 g3 ea4 ?_
  refine q_iconst dX12_definedTotal_9 ?_
  replace E := grd_some E
  obtain ⟨g5, E⟩ := E
  replace E := grd_some E
  obtain ⟨g6, E⟩ := E
  refine r_iaload dX12_definedTotal_10 g5 g6 ?_
  cases E
  exact q_ireturn dX12_definedTotal_11 rfl hK
theorem c_X12_definedTotal {l : Launch} {G : mG} {p0 : Nat} {h h' : mH} {r : Int32} (E : f_X12_definedTotal p0 h = some (r, h')) : mMet l G m_X12_definedTotal 0 0 0 [.ref p0] h (fun v k => v = some (.int r) ∧ h' = k) (fun _ _ => False) :=
  mMet_of (by decide +kernel) rfl (ac_c rfl ac_0) (Nat.le_of_ble_eq_true rfl) (s_X12_definedTotal_0 p0 h E (And.intro rfl rfl))
set_option maxRecDepth 100000 in
set_option maxHeartbeats 4000000 in
theorem sb_X12_meanLetters_23 {l : Launch} {G : mG} {Q : Option Value → mH → Prop} {X : String → mH → Prop} (p0 : Nat) (v1 : Int32) (v2 : Int32) (h : mH) {o : ((Int32 × Int32 × mH) ⊕ (UInt64 × mH))} (E : b0_X12_meanLetters_23 p0 v1 v2 h = some o) (hK : (lpK (w_X12_meanLetters_23 l G Q X p0) (fiD Q)) o) : mW l G m_X12_meanLetters 2 0 0 23 [some (.ref p0), some (.int v1), some (.int v2)] [] h Q X := by
  unfold b0_X12_meanLetters_23 at E
  refine q_iload_n dX12_meanLetters_23 rfl ?_
  refine q_bipush (v := (Int32.ofInt 6)) dX12_meanLetters_24 (by decide) ?_
  refine q_icmp_ge (tgt := 43) dX12_meanLetters_26 (by decide) (fun z1 => ?_) (fun z1 => ?_)
  · replace E := ite_t E z1
    refine q_iload_n dX12_meanLetters_43 rfl ?_
    refine q_i2d dX12_meanLetters_44 ?_
    refine q_aload_n dX12_meanLetters_45 rfl ?_
    replace E := grd_some E
    obtain ⟨g4, E⟩ := E
    replace E := cal_some E
    obtain ⟨x3, h2, hc, E⟩ := E
    refine r_callV0 (mc := 0) (ms := 0) dX12_meanLetters_46 KX12_227 (c_X12_patterns hc) g4 (by decide) (Nat.le_of_ble_eq_true rfl) (fun _ _ q => q.elim) ?_
    rintro _ _ ⟨rfl, rfl⟩
    clear hc
    refine q_i2d dX12_meanLetters_49 ?_
    replace E := grd_some E
    obtain ⟨g5, E⟩ := E
    refine q_ddiv g5 dX12_meanLetters_50 ?_
    cases E
    exact q_dreturn dX12_meanLetters_51 rfl hK
  · replace E := ite_f E z1
    refine q_iload_n dX12_meanLetters_29 rfl ?_
    refine q_aload_n dX12_meanLetters_30 rfl ?_
    refine q_iload_n dX12_meanLetters_31 rfl ?_
    replace E := grd_some E
    obtain ⟨g8, E⟩ := E
    replace E := cal_some E
    obtain ⟨x7, h6, hc, E⟩ := E
    refine r_callV1 (mc := 0) (ms := 0) dX12_meanLetters_32 KX12_319 (c_X12_lettersOf hc) g8 (by decide) (Nat.le_of_ble_eq_true rfl) (fun _ _ q => q.elim) ?_
    rintro _ _ ⟨rfl, rfl⟩
    clear hc
    refine q_iadd dX12_meanLetters_35 ?_
    replace E := bnd_x E
    obtain ⟨x9, ex9, E⟩ := E
    refine r_istore_n dX12_meanLetters_36 (by decide) ex9 (ls' := [some (.ref p0), some (.int x9), some (.int v2)]) rfl ?_
    replace E := bnd_x E
    obtain ⟨x10, ex10, E⟩ := E
    refine r_iinc (v := x10) dX12_meanLetters_37 rfl ex10 (by decide) (ls' := [some (.ref p0), some (.int x9), some (.int x10)]) rfl ?_
    refine q_goto (tgt := 23) dX12_meanLetters_40 (by decide) ?_
    cases E
    exact r_fewer [some (.ref p0), some (.int x9), some (.int x10)] (ls_s (ls_s (ls_s ls_0))) hK
theorem s_X12_meanLetters_23 {l : Launch} {G : mG} {Q : Option Value → mH → Prop} {X : String → mH → Prop} (p0 : Nat) (v1 : Int32) (v2 : Int32) (h : mH) {o : UInt64 × mH} (E : g_X12_meanLetters_23 p0 v1 v2 h = some o) (hK : (fiD Q) o) : mW l G m_X12_meanLetters 2 0 0 23 [some (.ref p0), some (.int v1), some (.int v2)] [] h Q X :=
  (lp_go (w_X12_meanLetters_23 l G Q X p0) (fiD Q) (b_X12_meanLetters_23 p0) (fun s o E hK => sb_X12_meanLetters_23 p0 s.1 s.2.1 (s.2.2) E hK) _ _ _ E hK : w_X12_meanLetters_23 l G Q X p0 (v1, v2, h))
set_option maxRecDepth 100000 in
set_option maxHeartbeats 4000000 in
theorem s_X12_meanLetters_0 {l : Launch} {G : mG} {Q : Option Value → mH → Prop} {X : String → mH → Prop} (p0 : Nat) (h : mH) {o : UInt64 × mH} (E : f_X12_meanLetters p0 h = some o) (hK : (fiD Q) o) : mW l G m_X12_meanLetters 2 0 0 0 [some (.ref p0), none, none] [] h Q X := by
  unfold f_X12_meanLetters at E
  refine q_aload_n dX12_meanLetters_0 rfl ?_
  refine q_iconst dX12_meanLetters_1 ?_
  replace E := grd_some E
  obtain ⟨g1, E⟩ := E
  replace E := bnd_x E
  obtain ⟨h2, eh2, E⟩ := E
  refine r_putI (hh := eh2) dX12_meanLetters_2 FX12_117 g1 rfl rfl ?_
  refine q_aload_n dX12_meanLetters_5 rfl ?_
  replace E := grd_some E
  obtain ⟨g5, E⟩ := E
  replace E := cal_some E
  obtain ⟨x4, h3, hc, E⟩ := E
  refine r_callV0 (mc := 0) (ms := 0) dX12_meanLetters_6 KX12_227 (c_X12_patterns hc) g5 (by decide) (Nat.le_of_ble_eq_true rfl) (fun _ _ q => q.elim) ?_
  rintro _ _ ⟨rfl, rfl⟩
  clear hc
  refine q_if_ne (tgt := 19) dX12_meanLetters_9 (by decide) (fun z6 => ?_) (fun z6 => ?_)
  · replace E := ite_f E z6
    refine q_iconst dX12_meanLetters_19 ?_
    refine r_istore_n dX12_meanLetters_20 (by decide) rfl (ls' := [some (.ref p0), some (.int (Int32.ofInt 0)), none]) rfl ?_
    refine q_iconst dX12_meanLetters_21 ?_
    refine r_istore_n dX12_meanLetters_22 (by decide) rfl (ls' := [some (.ref p0), some (.int (Int32.ofInt 0)), some (.int (Int32.ofInt 0))]) rfl ?_
    exact r_fewer [some (.ref p0), some (.int (Int32.ofInt 0)), some (.int (Int32.ofInt 0))] (ls_s (ls_s (ls_s ls_0))) (s_X12_meanLetters_23 p0 (Int32.ofInt 0) (Int32.ofInt 0) h3 E hK)
  · replace E := ite_t E z6
    refine q_aload_n dX12_meanLetters_12 rfl ?_
    refine q_iconst dX12_meanLetters_13 ?_
    replace E := grd_some E
    obtain ⟨g9, E⟩ := E
    replace E := cal_some E
    obtain ⟨x8, h7, hc, E⟩ := E
    refine r_callV1 (mc := 0) (ms := 0) dX12_meanLetters_14 KX12_196 (c_X12_fails hc) g9 (by decide) (Nat.le_of_ble_eq_true rfl) (fun _ _ q => q.elim) ?_
    rintro _ _ ⟨rfl, rfl⟩
    clear hc
    refine q_i2d dX12_meanLetters_17 ?_
    cases E
    exact q_dreturn dX12_meanLetters_18 rfl hK
theorem c_X12_meanLetters {l : Launch} {G : mG} {p0 : Nat} {h h' : mH} {r : UInt64} (E : f_X12_meanLetters p0 h = some (r, h')) : mMet l G m_X12_meanLetters 2 0 0 [.ref p0] h (fun v k => v = some (.double r) ∧ h' = k) (fun _ _ => False) :=
  mMet_of (by decide +kernel) rfl (ac_c rfl ac_0) (Nat.le_of_ble_eq_true rfl) (s_X12_meanLetters_0 p0 h E (And.intro rfl rfl))
set_option maxRecDepth 100000 in
set_option maxHeartbeats 4000000 in
theorem s_X12_acceptedShare_52 {l : Launch} {G : mG} {Q : Option Value → mH → Prop} {X : String → mH → Prop} (sf0 : UInt32) (h : mH) {o : UInt32 × mH} (E : g_X12_acceptedShare_52 sf0 h = some o) (hK : (fiF Q) o) : mW l G m_X12_acceptedShare 4 0 0 52 [none, none] [.float sf0] h Q X := by
  unfold g_X12_acceptedShare_52 at E
  cases E
  exact q_freturn dX12_acceptedShare_52 rfl hK
set_option maxRecDepth 100000 in
set_option maxHeartbeats 4000000 in
theorem s_X12_acceptedShare_0 {l : Launch} {G : mG} {Q : Option Value → mH → Prop} {X : String → mH → Prop} (p0 : Nat) (v1 : Int32) (h : mH) {o : UInt32 × mH} (E : f_X12_acceptedShare p0 v1 h = some o) (hK : (fiF Q) o) : mW l G m_X12_acceptedShare 4 0 0 0 [some (.ref p0), some (.int v1)] [] h Q X := by
  unfold f_X12_acceptedShare at E
  refine q_aload_n dX12_acceptedShare_0 rfl ?_
  refine q_iconst dX12_acceptedShare_1 ?_
  replace E := grd_some E
  obtain ⟨g1, E⟩ := E
  replace E := bnd_x E
  obtain ⟨h2, eh2, E⟩ := E
  refine r_putI (hh := eh2) dX12_acceptedShare_2 FX12_117 g1 rfl rfl ?_
  refine q_aload_n dX12_acceptedShare_5 rfl ?_
  refine q_iload_n dX12_acceptedShare_6 rfl ?_
  replace E := grd_some E
  obtain ⟨g5, E⟩ := E
  replace E := cal_some E
  obtain ⟨x4, h3, hc, E⟩ := E
  refine r_callV1 (mc := 0) (ms := 0) dX12_acceptedShare_7 KX12_211 (c_X12_holds hc) g5 (by decide) (Nat.le_of_ble_eq_true rfl) (fun _ _ q => q.elim) ?_
  rintro _ _ ⟨rfl, rfl⟩
  clear hc
  refine q_if_ne (tgt := 20) dX12_acceptedShare_10 (by decide) (fun z6 => ?_) (fun z6 => ?_)
  · replace E := ite_f E z6
    refine q_aload_n dX12_acceptedShare_20 rfl ?_
    replace E := grd_some E
    obtain ⟨g7, E⟩ := E
    replace E := orf_some E
    obtain ⟨a8, ea8, E⟩ := E
    refine r_getR dX12_acceptedShare_21 FX12_7 g7 ea8 ?_
    refine q_iconst dX12_acceptedShare_24 ?_
    replace E := grd_some E
    obtain ⟨g9, E⟩ := E
    replace E := grd_some E
    obtain ⟨g10, E⟩ := E
    refine r_iaload dX12_acceptedShare_25 g9 g10 ?_
    refine q_if_ne (tgt := 38) dX12_acceptedShare_26 (by decide) (fun z11 => ?_) (fun z11 => ?_)
    · replace E := ite_f E z11
      refine q_aload_n dX12_acceptedShare_38 rfl ?_
      refine q_iload_n dX12_acceptedShare_39 rfl ?_
      replace E := cal_some E
      obtain ⟨x13, h12, hc, E⟩ := E
      refine r_callV1 (mc := 0) (ms := 0) dX12_acceptedShare_40 KX12_337 (c_X12_accepted hc) g7 (by decide) (Nat.le_of_ble_eq_true rfl) (fun _ _ q => q.elim) ?_
      rintro _ _ ⟨rfl, rfl⟩
      clear hc
      refine q_i2f dX12_acceptedShare_43 ?_
      refine q_aload_n dX12_acceptedShare_44 rfl ?_
      replace E := grd_some E
      obtain ⟨g14, E⟩ := E
      replace E := orf_some E
      obtain ⟨a15, ea15, E⟩ := E
      refine r_getR dX12_acceptedShare_45 FX12_7 g14 ea15 ?_
      refine q_iconst dX12_acceptedShare_48 ?_
      replace E := grd_some E
      obtain ⟨g16, E⟩ := E
      replace E := grd_some E
      obtain ⟨g17, E⟩ := E
      refine r_iaload dX12_acceptedShare_49 g16 g17 ?_
      refine q_i2f dX12_acceptedShare_50 ?_
      replace E := grd_some E
      obtain ⟨g18, E⟩ := E
      refine q_fdiv g18 dX12_acceptedShare_51 ?_
      exact r_fewer [none, none] (ls_n (ls_n ls_0)) (s_X12_acceptedShare_52 (FP.fdiv (FP.i2f x13) (FP.i2f (gi h12 a15 (Int32.ofInt 1).toNatClampNeg))) h12 E hK)
    · replace E := ite_t E z11
      refine q_aload_n dX12_acceptedShare_29 rfl ?_
      refine q_iconst dX12_acceptedShare_30 ?_
      replace E := cal_some E
      obtain ⟨x20, h19, hc, E⟩ := E
      refine r_callV1 (mc := 0) (ms := 0) dX12_acceptedShare_31 KX12_196 (c_X12_fails hc) g7 (by decide) (Nat.le_of_ble_eq_true rfl) (fun _ _ q => q.elim) ?_
      rintro _ _ ⟨rfl, rfl⟩
      clear hc
      refine q_i2f dX12_acceptedShare_34 ?_
      refine q_goto (tgt := 52) dX12_acceptedShare_35 (by decide) ?_
      exact r_fewer [none, none] (ls_n (ls_n ls_0)) (s_X12_acceptedShare_52 (FP.i2f x20) h19 E hK)
  · replace E := ite_t E z6
    refine q_aload_n dX12_acceptedShare_13 rfl ?_
    refine q_iconst dX12_acceptedShare_14 ?_
    replace E := grd_some E
    obtain ⟨g23, E⟩ := E
    replace E := cal_some E
    obtain ⟨x22, h21, hc, E⟩ := E
    refine r_callV1 (mc := 0) (ms := 0) dX12_acceptedShare_15 KX12_196 (c_X12_fails hc) g23 (by decide) (Nat.le_of_ble_eq_true rfl) (fun _ _ q => q.elim) ?_
    rintro _ _ ⟨rfl, rfl⟩
    clear hc
    refine q_i2f dX12_acceptedShare_18 ?_
    cases E
    exact q_freturn dX12_acceptedShare_19 rfl hK
theorem c_X12_acceptedShare {l : Launch} {G : mG} {p0 : Nat} {v1 : Int32} {h h' : mH} {r : UInt32} (E : f_X12_acceptedShare p0 v1 h = some (r, h')) : mMet l G m_X12_acceptedShare 4 0 0 [.ref p0, .int v1] h (fun v k => v = some (.float r) ∧ h' = k) (fun _ _ => False) :=
  mMet_of (by decide +kernel) rfl (ac_c rfl (ac_c rfl ac_0)) (Nat.le_of_ble_eq_true rfl) (s_X12_acceptedShare_0 p0 v1 h E (And.intro rfl rfl))
set_option maxRecDepth 100000 in
set_option maxHeartbeats 4000000 in
theorem s_X12_isConsistent_19 {l : Launch} {G : mG} {Q : Option Value → mH → Prop} {X : String → mH → Prop} (s0 : Int32) (h : mH) {o : Int32 × mH} (E : g_X12_isConsistent_19 s0 h = some o) (hK : (fiI Q) o) : mW l G m_X12_isConsistent 0 0 0 19 [none] [.int s0] h Q X := by
  unfold g_X12_isConsistent_19 at E
  replace E := grd_some E
  obtain ⟨g1, E⟩ := E
  cases E
  exact q_zreturn dX12_isConsistent_19 rfl (narZ g1) hK
set_option maxRecDepth 100000 in
set_option maxHeartbeats 4000000 in
theorem s_X12_isConsistent_0 {l : Launch} {G : mG} {Q : Option Value → mH → Prop} {X : String → mH → Prop} (p0 : Nat) (h : mH) {o : Int32 × mH} (E : f_X12_isConsistent p0 h = some o) (hK : (fiI Q) o) : mW l G m_X12_isConsistent 0 0 0 0 [some (.ref p0)] [] h Q X := by
  unfold f_X12_isConsistent at E
  refine q_aload_n dX12_isConsistent_0 rfl ?_
  refine q_iconst dX12_isConsistent_1 ?_
  replace E := grd_some E
  obtain ⟨g1, E⟩ := E
  replace E := bnd_x E
  obtain ⟨h2, eh2, E⟩ := E
  refine r_putI (hh := eh2) dX12_isConsistent_2 FX12_117 g1 rfl rfl ?_
  refine q_aload_n dX12_isConsistent_5 rfl ?_
  replace E := grd_some E
  obtain ⟨g3, E⟩ := E
  replace E := orf_some E
  obtain ⟨a4, ea4, E⟩ := E
  refine r_getR dX12_isConsistent_6 FX12_7 g3 ea4 ?_
  refine q_iconst dX12_isConsistent_9 ?_
  replace E := grd_some E
  obtain ⟨g5, E⟩ := E
  replace E := grd_some E
  obtain ⟨g6, E⟩ := E
  refine r_iaload dX12_isConsistent_10 g5 g6 ?_
  refine q_if_lt (tgt := 18) dX12_isConsistent_11 (by decide) (fun z7 => ?_) (fun z7 => ?_)
  · replace E := ite_t E z7
    refine q_iconst dX12_isConsistent_18 ?_
    exact r_fewer [none] (ls_n ls_0) (s_X12_isConsistent_19 (Int32.ofInt 0) h2 E hK)
  · replace E := ite_f E z7
    refine q_iconst dX12_isConsistent_14 ?_
    refine q_goto (tgt := 19) dX12_isConsistent_15 (by decide) ?_
    exact r_fewer [none] (ls_n ls_0) (s_X12_isConsistent_19 (Int32.ofInt 1) h2 E hK)
theorem c_X12_isConsistent {l : Launch} {G : mG} {p0 : Nat} {h h' : mH} {r : Int32} (E : f_X12_isConsistent p0 h = some (r, h')) : mMet l G m_X12_isConsistent 0 0 0 [.ref p0] h (fun v k => v = some (.int r) ∧ h' = k) (fun _ _ => False) :=
  mMet_of (by decide +kernel) rfl (ac_c rfl ac_0) (Nat.le_of_ble_eq_true rfl) (s_X12_isConsistent_0 p0 h E (And.intro rfl rfl))
set_option maxRecDepth 100000 in
set_option maxHeartbeats 4000000 in
theorem sb_X12_inserts_5 {l : Launch} {G : mG} {Q : Option Value → mH → Prop} {X : String → mH → Prop} (p0 : Nat) (v1 : Int32) (v2 : Int32) (v3 : Int32) (h : mH) {o : ((Int32 × mH) ⊕ (Unit × mH))} (E : b0_X12_inserts_5 p0 v1 v2 v3 h = some o) (hK : (lpK (w_X12_inserts_5 l G Q X p0 v1 v2) (fiV Q)) o) : mW l G m_X12_inserts 0 0 0 5 [some (.ref p0), some (.int v1), some (.int v2), some (.int v3)] [] h Q X := by
  unfold b0_X12_inserts_5 at E
  refine q_iload_n dX12_inserts_5 rfl ?_
  refine q_iload_n dX12_inserts_6 rfl ?_
  refine q_icmp_le (tgt := 30) dX12_inserts_7 (by decide) (fun z1 => ?_) (fun z1 => ?_)
  · replace E := ite_t E z1
    refine q_aload_n dX12_inserts_30 rfl ?_
    replace E := grd_some E
    obtain ⟨g2, E⟩ := E
    replace E := orf_some E
    obtain ⟨a3, ea3, E⟩ := E
    refine r_getR dX12_inserts_31 FX12_105 g2 ea3 ?_
    refine q_iload_n dX12_inserts_34 rfl ?_
    refine q_iload_n dX12_inserts_35 rfl ?_
    refine q_i2c dX12_inserts_36 ?_
    replace E := grd_some E
    obtain ⟨g5, E⟩ := E
    replace E := grd_some E
    obtain ⟨g6, E⟩ := E
    replace E := grd_some E
    obtain ⟨g7, E⟩ := E
    replace E := bnd_x E
    obtain ⟨h4, eh4, E⟩ := E
    refine r_castore (hh := eh4) dX12_inserts_37 g5 g6 g7 ?_
    refine q_aload_n dX12_inserts_38 rfl ?_
    refine q_dup dX12_inserts_39 ?_
    replace E := grd_some E
    obtain ⟨g8, E⟩ := E
    refine r_getI dX12_inserts_40 FX12_364 g8 ?_
    refine q_iconst dX12_inserts_43 ?_
    refine q_iadd dX12_inserts_44 ?_
    replace E := bnd_x E
    obtain ⟨h9, eh9, E⟩ := E
    refine r_putI (hh := eh9) dX12_inserts_45 FX12_364 g8 rfl rfl ?_
    cases E
    exact q_return dX12_inserts_48 rfl hK
  · replace E := ite_f E z1
    refine q_aload_n dX12_inserts_10 rfl ?_
    replace E := grd_some E
    obtain ⟨g10, E⟩ := E
    replace E := orf_some E
    obtain ⟨a11, ea11, E⟩ := E
    refine r_getR dX12_inserts_11 FX12_105 g10 ea11 ?_
    refine q_iload_n dX12_inserts_14 rfl ?_
    refine q_aload_n dX12_inserts_15 rfl ?_
    refine r_getR dX12_inserts_16 FX12_105 g10 ea11 ?_
    refine q_iload_n dX12_inserts_19 rfl ?_
    refine q_iconst dX12_inserts_20 ?_
    refine q_isub dX12_inserts_21 ?_
    replace E := grd_some E
    obtain ⟨g13, E⟩ := E
    replace E := grd_some E
    obtain ⟨g14, E⟩ := E
    refine r_caload dX12_inserts_22 g13 g14 ?_
    replace E := grd_some E
    obtain ⟨g16, E⟩ := E
    replace E := grd_some E
    obtain ⟨g17, E⟩ := E
    replace E := bnd_x E
    obtain ⟨h15, eh15, E⟩ := E
    refine r_castore (hh := eh15) dX12_inserts_23 g13 g16 g17 ?_
    replace E := bnd_x E
    obtain ⟨x18, ex18, E⟩ := E
    refine r_iinc (v := x18) dX12_inserts_24 rfl ex18 (by decide) (ls' := [some (.ref p0), some (.int v1), some (.int v2), some (.int x18)]) rfl ?_
    refine q_goto (tgt := 5) dX12_inserts_27 (by decide) ?_
    cases E
    exact r_fewer [some (.ref p0), some (.int v1), some (.int v2), some (.int x18)] (ls_s (ls_s (ls_s (ls_s ls_0)))) hK
theorem s_X12_inserts_5 {l : Launch} {G : mG} {Q : Option Value → mH → Prop} {X : String → mH → Prop} (p0 : Nat) (v1 : Int32) (v2 : Int32) (v3 : Int32) (h : mH) {o : Unit × mH} (E : g_X12_inserts_5 p0 v1 v2 v3 h = some o) (hK : (fiV Q) o) : mW l G m_X12_inserts 0 0 0 5 [some (.ref p0), some (.int v1), some (.int v2), some (.int v3)] [] h Q X :=
  (lp_go (w_X12_inserts_5 l G Q X p0 v1 v2) (fiV Q) (b_X12_inserts_5 p0 v1 v2) (fun s o E hK => sb_X12_inserts_5 p0 v1 v2 s.1 (s.2) E hK) _ _ _ E hK : w_X12_inserts_5 l G Q X p0 v1 v2 (v3, h))
set_option maxRecDepth 100000 in
set_option maxHeartbeats 4000000 in
theorem s_X12_inserts_0 {l : Launch} {G : mG} {Q : Option Value → mH → Prop} {X : String → mH → Prop} (p0 : Nat) (v1 : Int32) (v2 : Int32) (h : mH) {o : Unit × mH} (E : f_X12_inserts p0 v1 v2 h = some o) (hK : (fiV Q) o) : mW l G m_X12_inserts 0 0 0 0 [some (.ref p0), some (.int v1), some (.int v2), none] [] h Q X := by
  unfold f_X12_inserts at E
  refine q_aload_n dX12_inserts_0 rfl ?_
  replace E := grd_some E
  obtain ⟨g1, E⟩ := E
  refine r_getI dX12_inserts_1 FX12_364 g1 ?_
  replace E := bnd_x E
  obtain ⟨x2, ex2, E⟩ := E
  refine r_istore_n dX12_inserts_4 (by decide) ex2 (ls' := [some (.ref p0), some (.int v1), some (.int v2), some (.int x2)]) rfl ?_
  exact r_fewer [some (.ref p0), some (.int v1), some (.int v2), some (.int x2)] (ls_s (ls_s (ls_s (ls_s ls_0)))) (s_X12_inserts_5 p0 v1 v2 x2 h E hK)
theorem c_X12_inserts {l : Launch} {G : mG} {p0 : Nat} {v1 : Int32} {v2 : Int32} {h h' : mH} {r : Unit} (E : f_X12_inserts p0 v1 v2 h = some (r, h')) : mMet l G m_X12_inserts 0 0 0 [.ref p0, .int v1, .int v2] h (fun v k => v = none ∧ h' = k) (fun _ _ => False) :=
  mMet_of (by decide +kernel) rfl (ac_c rfl (ac_c rfl (ac_c rfl ac_0))) (Nat.le_of_ble_eq_true rfl) (s_X12_inserts_0 p0 v1 v2 h E (And.intro rfl rfl))
set_option maxRecDepth 100000 in
set_option maxHeartbeats 4000000 in
theorem s_X12_encloses_0 {l : Launch} {G : mG} {Q : Option Value → mH → Prop} {X : String → mH → Prop} (p0 : Nat) (v1 : Int32) (v2 : Int32) (h : mH) {o : Unit × mH} (E : f_X12_encloses p0 v1 v2 h = some o) (hK : (fiV Q) o) : mW l G m_X12_encloses 1 0 0 0 [some (.ref p0), some (.int v1), some (.int v2)] [] h Q X := by
  unfold f_X12_encloses at E
  refine q_aload_n dX12_encloses_0 rfl ?_
  refine q_iload_n dX12_encloses_1 rfl ?_
  refine q_bipush (v := (Int32.ofInt 41)) dX12_encloses_2 (by decide) ?_
  replace E := grd_some E
  obtain ⟨g3, E⟩ := E
  replace E := cal_some E
  obtain ⟨_, h1, hc, E⟩ := E
  refine r_callV2 (mc := 0) (ms := 0) dX12_encloses_4 KX12_367 (c_X12_inserts hc) g3 (by decide) (Nat.le_of_ble_eq_true rfl) (fun _ _ q => q.elim) ?_
  rintro _ _ ⟨rfl, rfl⟩
  clear hc
  refine q_aload_n dX12_encloses_7 rfl ?_
  refine q_iload_n dX12_encloses_8 rfl ?_
  refine q_bipush (v := (Int32.ofInt 40)) dX12_encloses_9 (by decide) ?_
  replace E := grd_some E
  obtain ⟨g6, E⟩ := E
  replace E := cal_some E
  obtain ⟨_, h4, hc, E⟩ := E
  refine r_callV2 (mc := 0) (ms := 0) dX12_encloses_11 KX12_367 (c_X12_inserts hc) g6 (by decide) (Nat.le_of_ble_eq_true rfl) (fun _ _ q => q.elim) ?_
  rintro _ _ ⟨rfl, rfl⟩
  clear hc
  cases E
  exact q_return dX12_encloses_14 rfl hK
theorem c_X12_encloses {l : Launch} {G : mG} {p0 : Nat} {v1 : Int32} {v2 : Int32} {h h' : mH} {r : Unit} (E : f_X12_encloses p0 v1 v2 h = some (r, h')) : mMet l G m_X12_encloses 1 0 0 [.ref p0, .int v1, .int v2] h (fun v k => v = none ∧ h' = k) (fun _ _ => False) :=
  mMet_of (by decide +kernel) rfl (ac_c rfl (ac_c rfl (ac_c rfl ac_0))) (Nat.le_of_ble_eq_true rfl) (s_X12_encloses_0 p0 v1 v2 h E (And.intro rfl rfl))
set_option maxRecDepth 100000 in
set_option maxHeartbeats 4000000 in
theorem s_X12_writesTwo_95 {l : Launch} {G : mG} {Q : Option Value → mH → Prop} {X : String → mH → Prop} (p0 : Nat) (v2 : Int32) (h : mH) {o : Unit × mH} (E : g_X12_writesTwo_95 p0 v2 h = some o) (hK : (fiV Q) o) : mW l G m_X12_writesTwo 2 0 0 95 [some (.ref p0), none, some (.int v2), none] [] h Q X := by
  unfold g_X12_writesTwo_95 at E
  refine q_aload_n dX12_writesTwo_95 rfl ?_
  replace E := grd_some E
  obtain ⟨g1, E⟩ := E
  replace E := orf_some E
  obtain ⟨a2, ea2, E⟩ := E
  refine r_getR dX12_writesTwo_96 FX12_111 g1 ea2 ?_
  refine q_iload_n dX12_writesTwo_99 rfl ?_
  refine q_iconst dX12_writesTwo_100 ?_
  replace E := grd_some E
  obtain ⟨g4, E⟩ := E
  replace E := grd_some E
  obtain ⟨g5, E⟩ := E
  replace E := bnd_x E
  obtain ⟨h3, eh3, E⟩ := E
  refine r_iastore (hh := eh3) dX12_writesTwo_101 g4 g5 ?_
  cases E
  exact q_return dX12_writesTwo_102 rfl hK
set_option maxRecDepth 100000 in
set_option maxHeartbeats 4000000 in
theorem s_X12_writesTwo_70 {l : Launch} {G : mG} {Q : Option Value → mH → Prop} {X : String → mH → Prop} (p0 : Nat) (v2 : Int32) (v3 : Int32) (h : mH) {o : Unit × mH} (E : g_X12_writesTwo_70 p0 v2 v3 h = some o) (hK : (fiV Q) o) : mW l G m_X12_writesTwo 2 0 0 70 [some (.ref p0), none, some (.int v2), some (.int v3)] [] h Q X := by
  unfold g_X12_writesTwo_70 at E
  refine q_aload_n dX12_writesTwo_70 rfl ?_
  replace E := grd_some E
  obtain ⟨g1, E⟩ := E
  replace E := orf_some E
  obtain ⟨a2, ea2, E⟩ := E
  refine r_getR dX12_writesTwo_71 FX12_111 g1 ea2 ?_
  refine q_iload_n dX12_writesTwo_74 rfl ?_
  replace E := grd_some E
  obtain ⟨g3, E⟩ := E
  replace E := grd_some E
  obtain ⟨g4, E⟩ := E
  refine r_iaload dX12_writesTwo_75 g3 g4 ?_
  refine q_if_ne (tgt := 95) dX12_writesTwo_76 (by decide) (fun z5 => ?_) (fun z5 => ?_)
  · replace E := ite_f E z5
    exact r_fewer [some (.ref p0), none, some (.int v2), none] (ls_s (ls_n (ls_s (ls_n ls_0)))) (s_X12_writesTwo_95 p0 v2 h E hK)
  · replace E := ite_t E z5
    refine q_aload_n dX12_writesTwo_79 rfl ?_
    refine q_aload_n dX12_writesTwo_80 rfl ?_
    replace E := orf_some E
    obtain ⟨a6, ea6, E⟩ := E
    refine r_getR dX12_writesTwo_81 FX12_108 g1 ea6 ?_
    refine q_iload_n dX12_writesTwo_84 rfl ?_
    replace E := grd_some E
    obtain ⟨g7, E⟩ := E
    replace E := grd_some E
    obtain ⟨g8, E⟩ := E
    refine r_iaload dX12_writesTwo_85 g7 g8 ?_
    refine q_aload_n dX12_writesTwo_86 rfl ?_
    refine r_getR dX12_writesTwo_87 FX12_108 g1 ea6 ?_
    refine q_iload_n dX12_writesTwo_90 rfl ?_
    replace E := grd_some E
    obtain ⟨g10, E⟩ := E
    refine r_iaload dX12_writesTwo_91 g7 g10 ?_
    replace E := cal_some E
    obtain ⟨_, h11, hc, E⟩ := E
    refine r_callV2 (mc := 0) (ms := 0) dX12_writesTwo_92 KX12_370 (c_X12_encloses hc) g1 (by decide) (Nat.le_of_ble_eq_true rfl) (fun _ _ q => q.elim) ?_
    rintro _ _ ⟨rfl, rfl⟩
    clear hc
    exact r_fewer [some (.ref p0), none, some (.int v2), none] (ls_s (ls_n (ls_s (ls_n ls_0)))) (s_X12_writesTwo_95 p0 v2 h11 E hK)
set_option maxRecDepth 100000 in
set_option maxHeartbeats 4000000 in
theorem s_X12_writesTwo_0 {l : Launch} {G : mG} {Q : Option Value → mH → Prop} {X : String → mH → Prop} (p0 : Nat) (v1 : Int32) (h : mH) {o : Unit × mH} (E : f_X12_writesTwo p0 v1 h = some o) (hK : (fiV Q) o) : mW l G m_X12_writesTwo 2 0 0 0 [some (.ref p0), some (.int v1), none, none] [] h Q X := by
  unfold f_X12_writesTwo at E
  refine q_aload_n dX12_writesTwo_0 rfl ?_
  refine q_dup dX12_writesTwo_1 ?_
  replace E := grd_some E
  obtain ⟨g1, E⟩ := E
  refine r_getI dX12_writesTwo_2 FX12_256 g1 ?_
  refine q_iconst dX12_writesTwo_5 ?_
  refine q_isub dX12_writesTwo_6 ?_
  replace E := bnd_x E
  obtain ⟨h2, eh2, E⟩ := E
  refine r_putI (hh := eh2) dX12_writesTwo_7 FX12_256 g1 rfl rfl ?_
  refine q_aload_n dX12_writesTwo_10 rfl ?_
  replace E := grd_some E
  obtain ⟨g3, E⟩ := E
  refine r_getI dX12_writesTwo_11 FX12_256 g3 ?_
  refine q_iconst dX12_writesTwo_14 ?_
  refine q_isub dX12_writesTwo_15 ?_
  replace E := bnd_x E
  obtain ⟨x4, ex4, E⟩ := E
  refine r_istore_n dX12_writesTwo_16 (by decide) ex4 (ls' := [some (.ref p0), some (.int v1), some (.int x4), none]) rfl ?_
  refine q_aload_n dX12_writesTwo_17 rfl ?_
  refine r_getI dX12_writesTwo_18 FX12_256 g3 ?_
  replace E := bnd_x E
  obtain ⟨x5, ex5, E⟩ := E
  refine r_istore_n dX12_writesTwo_21 (by decide) ex5 (ls' := [some (.ref p0), some (.int v1), some (.int x4), some (.int x5)]) rfl ?_
  refine q_iload_n dX12_writesTwo_22 rfl ?_
  refine q_iconst dX12_writesTwo_23 ?_
  refine q_icmp_ne (tgt := 47) dX12_writesTwo_24 (by decide) (fun z6 => ?_) (fun z6 => ?_)
  · replace E := ite_f E z6
    refine q_aload_n dX12_writesTwo_47 rfl ?_
    replace E := orf_some E
    obtain ⟨a7, ea7, E⟩ := E
    refine r_getR dX12_writesTwo_48 FX12_111 g3 ea7 ?_
    refine q_iload_n dX12_writesTwo_51 rfl ?_
    replace E := grd_some E
    obtain ⟨g8, E⟩ := E
    replace E := grd_some E
    obtain ⟨g9, E⟩ := E
    refine r_iaload dX12_writesTwo_52 g8 g9 ?_
    refine q_if_ne (tgt := 70) dX12_writesTwo_53 (by decide) (fun z10 => ?_) (fun z10 => ?_)
    · replace E := ite_f E z10
      exact r_fewer [some (.ref p0), none, some (.int x4), some (.int x5)] (ls_s (ls_n (ls_s (ls_s ls_0)))) (s_X12_writesTwo_70 p0 x4 x5 h2 E hK)
    · replace E := ite_t E z10
      refine q_aload_n dX12_writesTwo_56 rfl ?_
      refine q_aload_n dX12_writesTwo_57 rfl ?_
      replace E := orf_some E
      obtain ⟨a11, ea11, E⟩ := E
      refine r_getR dX12_writesTwo_58 FX12_108 g3 ea11 ?_
      refine q_iload_n dX12_writesTwo_61 rfl ?_
      replace E := grd_some E
      obtain ⟨g12, E⟩ := E
      replace E := grd_some E
      obtain ⟨g13, E⟩ := E
      refine r_iaload dX12_writesTwo_62 g12 g13 ?_
      refine q_aload_n dX12_writesTwo_63 rfl ?_
      refine r_getI dX12_writesTwo_64 FX12_364 g3 ?_
      replace E := cal_some E
      obtain ⟨_, h14, hc, E⟩ := E
      refine r_callV2 (mc := 0) (ms := 0) dX12_writesTwo_67 KX12_370 (c_X12_encloses hc) g3 (by decide) (Nat.le_of_ble_eq_true rfl) (fun _ _ q => q.elim) ?_
      rintro _ _ ⟨rfl, rfl⟩
      clear hc
      exact r_fewer [some (.ref p0), none, some (.int x4), some (.int x5)] (ls_s (ls_n (ls_s (ls_s ls_0)))) (s_X12_writesTwo_70 p0 x4 x5 h14 E hK)
  · replace E := ite_t E z6
    refine q_aload_n dX12_writesTwo_27 rfl ?_
    refine q_aload_n dX12_writesTwo_28 rfl ?_
    replace E := orf_some E
    obtain ⟨a16, ea16, E⟩ := E
    refine r_getR dX12_writesTwo_29 FX12_108 g3 ea16 ?_
    refine q_iload_n dX12_writesTwo_32 rfl ?_
    replace E := grd_some E
    obtain ⟨g17, E⟩ := E
    replace E := grd_some E
    obtain ⟨g18, E⟩ := E
    refine r_iaload dX12_writesTwo_33 g17 g18 ?_
    refine q_bipush (v := (Int32.ofInt 124)) dX12_writesTwo_34 (by decide) ?_
    replace E := cal_some E
    obtain ⟨_, h19, hc, E⟩ := E
    refine r_callV2 (mc := 0) (ms := 0) dX12_writesTwo_36 KX12_367 (c_X12_inserts hc) g3 (by decide) (Nat.le_of_ble_eq_true rfl) (fun _ _ q => q.elim) ?_
    rintro _ _ ⟨rfl, rfl⟩
    clear hc
    refine q_aload_n dX12_writesTwo_39 rfl ?_
    replace E := grd_some E
    obtain ⟨g21, E⟩ := E
    replace E := orf_some E
    obtain ⟨a22, ea22, E⟩ := E
    refine r_getR dX12_writesTwo_40 FX12_111 g21 ea22 ?_
    refine q_iload_n dX12_writesTwo_43 rfl ?_
    refine q_iconst dX12_writesTwo_44 ?_
    replace E := grd_some E
    obtain ⟨g24, E⟩ := E
    replace E := grd_some E
    obtain ⟨g25, E⟩ := E
    replace E := bnd_x E
    obtain ⟨h23, eh23, E⟩ := E
    refine r_iastore (hh := eh23) dX12_writesTwo_45 g24 g25 ?_
    cases E
    exact q_return dX12_writesTwo_46 rfl hK
theorem c_X12_writesTwo {l : Launch} {G : mG} {p0 : Nat} {v1 : Int32} {h h' : mH} {r : Unit} (E : f_X12_writesTwo p0 v1 h = some (r, h')) : mMet l G m_X12_writesTwo 2 0 0 [.ref p0, .int v1] h (fun v k => v = none ∧ h' = k) (fun _ _ => False) :=
  mMet_of (by decide +kernel) rfl (ac_c rfl (ac_c rfl ac_0)) (Nat.le_of_ble_eq_true rfl) (s_X12_writesTwo_0 p0 v1 h E (And.intro rfl rfl))
set_option maxRecDepth 100000 in
set_option maxHeartbeats 4000000 in
theorem s_X12_writesSign_63 {l : Launch} {G : mG} {Q : Option Value → mH → Prop} {X : String → mH → Prop} (p0 : Nat) (s0 : Int32) (s1 : Int32) (sp2 : Nat) (h : mH) {o : Unit × mH} (E : g_X12_writesSign_63 p0 s0 s1 sp2 h = some o) (hK : (fiV Q) o) : mW l G m_X12_writesSign 2 0 0 63 [some (.ref p0), none] [.int s0, .int s1, .ref sp2] h Q X := by
  unfold g_X12_writesSign_63 at E
  replace E := grd_some E
  obtain ⟨g3, E⟩ := E
  replace E := cal_some E
  obtain ⟨_, h1, hc, E⟩ := E
  refine r_callV2 (mc := 0) (ms := 0) dX12_writesSign_63 KX12_367 (c_X12_inserts hc) g3 (by decide) (Nat.le_of_ble_eq_true rfl) (fun _ _ q => q.elim) ?_
  rintro _ _ ⟨rfl, rfl⟩
  clear hc
  refine q_aload_n dX12_writesSign_66 rfl ?_
  replace E := grd_some E
  obtain ⟨g4, E⟩ := E
  replace E := orf_some E
  obtain ⟨a5, ea5, E⟩ := E
  refine r_getR dX12_writesSign_67 FX12_111 g4 ea5 ?_
  refine q_aload_n dX12_writesSign_70 rfl ?_
  refine r_getI dX12_writesSign_71 FX12_256 g4 ?_
  refine q_iconst dX12_writesSign_74 ?_
  refine q_isub dX12_writesSign_75 ?_
  refine q_iconst dX12_writesSign_76 ?_
  replace E := grd_some E
  obtain ⟨g7, E⟩ := E
  replace E := grd_some E
  obtain ⟨g8, E⟩ := E
  replace E := bnd_x E
  obtain ⟨h6, eh6, E⟩ := E
  refine r_iastore (hh := eh6) dX12_writesSign_77 g7 g8 ?_
  cases E
  exact q_return dX12_writesSign_78 rfl hK
set_option maxRecDepth 100000 in
set_option maxHeartbeats 4000000 in
theorem s_X12_writesSign_34 {l : Launch} {G : mG} {Q : Option Value → mH → Prop} {X : String → mH → Prop} (p0 : Nat) (v1 : Int32) (h : mH) {o : Unit × mH} (E : g_X12_writesSign_34 p0 v1 h = some o) (hK : (fiV Q) o) : mW l G m_X12_writesSign 2 0 0 34 [some (.ref p0), some (.int v1)] [] h Q X := by
  unfold g_X12_writesSign_34 at E
  refine q_aload_n dX12_writesSign_34 rfl ?_
  refine q_aload_n dX12_writesSign_35 rfl ?_
  replace E := grd_some E
  obtain ⟨g1, E⟩ := E
  refine r_getI dX12_writesSign_36 FX12_364 g1 ?_
  refine q_iload_n dX12_writesSign_39 rfl ?_
  refine q_bipush (v := (Int32.ofInt 6)) dX12_writesSign_40 (by decide) ?_
  refine q_icmp_ne (tgt := 50) dX12_writesSign_42 (by decide) (fun z2 => ?_) (fun z2 => ?_)
  · replace E := ite_f E z2
    refine q_iload_n dX12_writesSign_50 rfl ?_
    refine q_bipush (v := (Int32.ofInt 7)) dX12_writesSign_51 (by decide) ?_
    refine q_icmp_ne (tgt := 61) dX12_writesSign_53 (by decide) (fun z3 => ?_) (fun z3 => ?_)
    · replace E := ite_f E z3
      refine q_bipush (v := (Int32.ofInt 63)) dX12_writesSign_61 (by decide) ?_
      exact r_fewer [some (.ref p0), none] (ls_s (ls_n ls_0)) (s_X12_writesSign_63 p0 (Int32.ofInt 63) (gi h p0 44) p0 h E hK)
    · replace E := ite_t E z3
      refine q_bipush (v := (Int32.ofInt 43)) dX12_writesSign_56 (by decide) ?_
      refine q_goto (tgt := 63) dX12_writesSign_58 (by decide) ?_
      exact r_fewer [some (.ref p0), none] (ls_s (ls_n ls_0)) (s_X12_writesSign_63 p0 (Int32.ofInt 43) (gi h p0 44) p0 h E hK)
  · replace E := ite_t E z2
    refine q_bipush (v := (Int32.ofInt 42)) dX12_writesSign_45 (by decide) ?_
    refine q_goto (tgt := 63) dX12_writesSign_47 (by decide) ?_
    exact r_fewer [some (.ref p0), none] (ls_s (ls_n ls_0)) (s_X12_writesSign_63 p0 (Int32.ofInt 42) (gi h p0 44) p0 h E hK)
set_option maxRecDepth 100000 in
set_option maxHeartbeats 4000000 in
theorem s_X12_writesSign_0 {l : Launch} {G : mG} {Q : Option Value → mH → Prop} {X : String → mH → Prop} (p0 : Nat) (v1 : Int32) (h : mH) {o : Unit × mH} (E : f_X12_writesSign p0 v1 h = some o) (hK : (fiV Q) o) : mW l G m_X12_writesSign 2 0 0 0 [some (.ref p0), some (.int v1)] [] h Q X := by
  unfold f_X12_writesSign at E
  refine q_aload_n dX12_writesSign_0 rfl ?_
  replace E := grd_some E
  obtain ⟨g1, E⟩ := E
  replace E := orf_some E
  obtain ⟨a2, ea2, E⟩ := E
  refine r_getR dX12_writesSign_1 FX12_111 g1 ea2 ?_
  refine q_aload_n dX12_writesSign_4 rfl ?_
  refine r_getI dX12_writesSign_5 FX12_256 g1 ?_
  refine q_iconst dX12_writesSign_8 ?_
  refine q_isub dX12_writesSign_9 ?_
  replace E := grd_some E
  obtain ⟨g3, E⟩ := E
  replace E := grd_some E
  obtain ⟨g4, E⟩ := E
  refine r_iaload dX12_writesSign_10 g3 g4 ?_
  refine q_iconst dX12_writesSign_11 ?_
  refine q_icmp_ge (tgt := 34) dX12_writesSign_12 (by decide) (fun z5 => ?_) (fun z5 => ?_)
  · replace E := ite_t E z5
    exact r_fewer [some (.ref p0), some (.int v1)] (ls_s (ls_s ls_0)) (s_X12_writesSign_34 p0 v1 h E hK)
  · replace E := ite_f E z5
    refine q_aload_n dX12_writesSign_15 rfl ?_
    refine q_aload_n dX12_writesSign_16 rfl ?_
    replace E := orf_some E
    obtain ⟨a6, ea6, E⟩ := E
    refine r_getR dX12_writesSign_17 FX12_108 g1 ea6 ?_
    refine q_aload_n dX12_writesSign_20 rfl ?_
    refine r_getI dX12_writesSign_21 FX12_256 g1 ?_
    refine q_iconst dX12_writesSign_24 ?_
    refine q_isub dX12_writesSign_25 ?_
    replace E := grd_some E
    obtain ⟨g7, E⟩ := E
    replace E := grd_some E
    obtain ⟨g8, E⟩ := E
    refine r_iaload dX12_writesSign_26 g7 g8 ?_
    refine q_aload_n dX12_writesSign_27 rfl ?_
    refine r_getI dX12_writesSign_28 FX12_364 g1 ?_
    replace E := cal_some E
    obtain ⟨_, h9, hc, E⟩ := E
    refine r_callV2 (mc := 0) (ms := 0) dX12_writesSign_31 KX12_370 (c_X12_encloses hc) g1 (by decide) (Nat.le_of_ble_eq_true rfl) (fun _ _ q => q.elim) ?_
    rintro _ _ ⟨rfl, rfl⟩
    clear hc
    exact r_fewer [some (.ref p0), some (.int v1)] (ls_s (ls_s ls_0)) (s_X12_writesSign_34 p0 v1 h9 E hK)
theorem c_X12_writesSign {l : Launch} {G : mG} {p0 : Nat} {v1 : Int32} {h h' : mH} {r : Unit} (E : f_X12_writesSign p0 v1 h = some (r, h')) : mMet l G m_X12_writesSign 2 0 0 [.ref p0, .int v1] h (fun v k => v = none ∧ h' = k) (fun _ _ => False) :=
  mMet_of (by decide +kernel) rfl (ac_c rfl (ac_c rfl ac_0)) (Nat.le_of_ble_eq_true rfl) (s_X12_writesSign_0 p0 v1 h E (And.intro rfl rfl))
set_option maxRecDepth 100000 in
set_option maxHeartbeats 4000000 in
theorem s_X12_formatPattern_120 {l : Launch} {G : mG} {Q : Option Value → mH → Prop} {X : String → mH → Prop} (p0 : Nat) (v1 : Int32) (v2 : Int32) (h : mH) {o : ((Int32 × mH) ⊕ (Int32 × mH))} (E : g_X12_formatPattern_120 p0 v1 v2 h = some o) (hK : (lpK (w_X12_formatPattern_31 l G Q X p0 v1) (fiI Q)) o) : mW l G m_X12_formatPattern 3 0 0 120 [some (.ref p0), some (.int v1), some (.int v2), none] [] h Q X := by
  unfold g_X12_formatPattern_120 at E
  replace E := bnd_x E
  obtain ⟨x1, ex1, E⟩ := E
  refine r_iinc (v := x1) dX12_formatPattern_120 rfl ex1 (by decide) (ls' := [some (.ref p0), some (.int v1), some (.int x1), none]) rfl ?_
  refine q_goto (tgt := 31) dX12_formatPattern_123 (by decide) ?_
  cases E
  exact r_fewer [some (.ref p0), some (.int v1), some (.int x1), none] (ls_s (ls_s (ls_s (ls_n ls_0)))) hK
set_option maxRecDepth 100000 in
set_option maxHeartbeats 4000000 in
theorem sb_X12_formatPattern_31 {l : Launch} {G : mG} {Q : Option Value → mH → Prop} {X : String → mH → Prop} (p0 : Nat) (v1 : Int32) (v2 : Int32) (h : mH) {o : ((Int32 × mH) ⊕ (Int32 × mH))} (E : b0_X12_formatPattern_31 p0 v1 v2 h = some o) (hK : (lpK (w_X12_formatPattern_31 l G Q X p0 v1) (fiI Q)) o) : mW l G m_X12_formatPattern 3 0 0 31 [some (.ref p0), some (.int v1), some (.int v2), none] [] h Q X := by
  unfold b0_X12_formatPattern_31 at E
  refine q_iload_n dX12_formatPattern_31 rfl ?_
  refine q_aload_n dX12_formatPattern_32 rfl ?_
  refine q_iload_n dX12_formatPattern_33 rfl ?_
  replace E := grd_some E
  obtain ⟨g3, E⟩ := E
  replace E := cal_some E
  obtain ⟨x2, h1, hc, E⟩ := E
  refine r_callV1 (mc := 0) (ms := 0) dX12_formatPattern_34 KX12_140 (c_X12_length hc) g3 (by decide) (Nat.le_of_ble_eq_true rfl) (fun _ _ q => q.elim) ?_
  rintro _ _ ⟨rfl, rfl⟩
  clear hc
  refine q_icmp_ge (tgt := 126) dX12_formatPattern_37 (by decide) (fun z4 => ?_) (fun z4 => ?_)
  · replace E := ite_t E z4
    refine q_aload_n dX12_formatPattern_126 rfl ?_
    replace E := grd_some E
    obtain ⟨g5, E⟩ := E
    refine r_getI dX12_formatPattern_127 FX12_364 g5 ?_
    cases E
    exact q_ireturn dX12_formatPattern_130 rfl hK
  · replace E := ite_f E z4
    refine q_aload_n dX12_formatPattern_40 rfl ?_
    refine q_iload_n dX12_formatPattern_41 rfl ?_
    refine q_iload_n dX12_formatPattern_42 rfl ?_
    replace E := grd_some E
    obtain ⟨g8, E⟩ := E
    replace E := cal_some E
    obtain ⟨x7, h6, hc, E⟩ := E
    refine r_callV2 (mc := 0) (ms := 0) dX12_formatPattern_43 KX12_147 (c_X12_code hc) g8 (by decide) (Nat.le_of_ble_eq_true rfl) (fun _ _ q => q.elim) ?_
    rintro _ _ ⟨rfl, rfl⟩
    clear hc
    refine r_istore_n dX12_formatPattern_46 (by decide) rfl (ls' := [some (.ref p0), some (.int v1), some (.int v2), some (.int x7)]) rfl ?_
    refine q_iload_n dX12_formatPattern_47 rfl ?_
    refine q_iconst dX12_formatPattern_48 ?_
    refine q_icmp_ge (tgt := 102) dX12_formatPattern_49 (by decide) (fun z9 => ?_) (fun z9 => ?_)
    · replace E := ite_t E z9
      refine q_iload_n dX12_formatPattern_102 rfl ?_
      refine q_iconst dX12_formatPattern_103 ?_
      refine q_icmp_gt (tgt := 115) dX12_formatPattern_104 (by decide) (fun z10 => ?_) (fun z10 => ?_)
      · replace E := ite_t E z10
        refine q_aload_n dX12_formatPattern_115 rfl ?_
        refine q_iload_n dX12_formatPattern_116 rfl ?_
        replace E := grd_some E
        obtain ⟨g13, E⟩ := E
        replace E := cal_some E
        obtain ⟨_, h11, hc, E⟩ := E
        refine r_callV1 (mc := 0) (ms := 0) dX12_formatPattern_117 KX12_376 (c_X12_writesSign hc) g13 (by decide) (Nat.le_of_ble_eq_true rfl) (fun _ _ q => q.elim) ?_
        rintro _ _ ⟨rfl, rfl⟩
        clear hc
        exact r_fewer [some (.ref p0), some (.int v1), some (.int v2), none] (ls_s (ls_s (ls_s (ls_n ls_0)))) (s_X12_formatPattern_120 p0 v1 v2 h11 E hK)
      · replace E := ite_f E z10
        refine q_aload_n dX12_formatPattern_107 rfl ?_
        refine q_iload_n dX12_formatPattern_108 rfl ?_
        replace E := grd_some E
        obtain ⟨g16, E⟩ := E
        replace E := cal_some E
        obtain ⟨_, h14, hc, E⟩ := E
        refine r_callV1 (mc := 0) (ms := 0) dX12_formatPattern_109 KX12_373 (c_X12_writesTwo hc) g16 (by decide) (Nat.le_of_ble_eq_true rfl) (fun _ _ q => q.elim) ?_
        rintro _ _ ⟨rfl, rfl⟩
        clear hc
        refine q_goto (tgt := 120) dX12_formatPattern_112 (by decide) ?_
        exact r_fewer [some (.ref p0), some (.int v1), some (.int v2), none] (ls_s (ls_s (ls_s (ls_n ls_0)))) (s_X12_formatPattern_120 p0 v1 v2 h14 E hK)
    · replace E := ite_f E z9
      refine q_aload_n dX12_formatPattern_52 rfl ?_
      replace E := grd_some E
      obtain ⟨g17, E⟩ := E
      replace E := orf_some E
      obtain ⟨a18, ea18, E⟩ := E
      refine r_getR dX12_formatPattern_53 FX12_108 g17 ea18 ?_
      refine q_aload_n dX12_formatPattern_56 rfl ?_
      refine r_getI dX12_formatPattern_57 FX12_256 g17 ?_
      refine q_aload_n dX12_formatPattern_60 rfl ?_
      refine r_getI dX12_formatPattern_61 FX12_364 g17 ?_
      replace E := grd_some E
      obtain ⟨g20, E⟩ := E
      replace E := grd_some E
      obtain ⟨g21, E⟩ := E
      replace E := bnd_x E
      obtain ⟨h19, eh19, E⟩ := E
      refine r_iastore (hh := eh19) dX12_formatPattern_64 g20 g21 ?_
      refine q_aload_n dX12_formatPattern_65 rfl ?_
      replace E := grd_some E
      obtain ⟨g22, E⟩ := E
      replace E := orf_some E
      obtain ⟨a23, ea23, E⟩ := E
      refine r_getR dX12_formatPattern_66 FX12_111 g22 ea23 ?_
      refine q_aload_n dX12_formatPattern_69 rfl ?_
      refine r_getI dX12_formatPattern_70 FX12_256 g22 ?_
      refine q_iconst dX12_formatPattern_73 ?_
      replace E := grd_some E
      obtain ⟨g25, E⟩ := E
      replace E := grd_some E
      obtain ⟨g26, E⟩ := E
      replace E := bnd_x E
      obtain ⟨h24, eh24, E⟩ := E
      refine r_iastore (hh := eh24) dX12_formatPattern_74 g25 g26 ?_
      refine q_aload_n dX12_formatPattern_75 rfl ?_
      refine q_dup dX12_formatPattern_76 ?_
      replace E := grd_some E
      obtain ⟨g27, E⟩ := E
      refine r_getI dX12_formatPattern_77 FX12_256 g27 ?_
      refine q_iconst dX12_formatPattern_80 ?_
      refine q_iadd dX12_formatPattern_81 ?_
      replace E := bnd_x E
      obtain ⟨h28, eh28, E⟩ := E
      refine r_putI (hh := eh28) dX12_formatPattern_82 FX12_256 g27 rfl rfl ?_
      refine q_aload_n dX12_formatPattern_85 rfl ?_
      refine q_aload_n dX12_formatPattern_86 rfl ?_
      replace E := grd_some E
      obtain ⟨g29, E⟩ := E
      refine r_getI dX12_formatPattern_87 FX12_364 g29 ?_
      refine q_bipush (v := (Int32.ofInt 97)) dX12_formatPattern_90 (by decide) ?_
      refine q_iload_n dX12_formatPattern_92 rfl ?_
      refine q_iadd dX12_formatPattern_93 ?_
      refine q_iconst dX12_formatPattern_94 ?_
      refine q_isub dX12_formatPattern_95 ?_
      replace E := cal_some E
      obtain ⟨_, h30, hc, E⟩ := E
      refine r_callV2 (mc := 0) (ms := 0) dX12_formatPattern_96 KX12_367 (c_X12_inserts hc) g29 (by decide) (Nat.le_of_ble_eq_true rfl) (fun _ _ q => q.elim) ?_
      rintro _ _ ⟨rfl, rfl⟩
      clear hc
      refine q_goto (tgt := 120) dX12_formatPattern_99 (by decide) ?_
      exact r_fewer [some (.ref p0), some (.int v1), some (.int v2), none] (ls_s (ls_s (ls_s (ls_n ls_0)))) (s_X12_formatPattern_120 p0 v1 v2 h30 E hK)
theorem s_X12_formatPattern_31 {l : Launch} {G : mG} {Q : Option Value → mH → Prop} {X : String → mH → Prop} (p0 : Nat) (v1 : Int32) (v2 : Int32) (h : mH) {o : Int32 × mH} (E : g_X12_formatPattern_31 p0 v1 v2 h = some o) (hK : (fiI Q) o) : mW l G m_X12_formatPattern 3 0 0 31 [some (.ref p0), some (.int v1), some (.int v2), none] [] h Q X :=
  (lp_go (w_X12_formatPattern_31 l G Q X p0 v1) (fiI Q) (b_X12_formatPattern_31 p0 v1) (fun s o E hK => sb_X12_formatPattern_31 p0 v1 s.1 (s.2) E hK) _ _ _ E hK : w_X12_formatPattern_31 l G Q X p0 v1 (v2, h))
set_option maxRecDepth 100000 in
set_option maxHeartbeats 4000000 in
theorem s_X12_formatPattern_0 {l : Launch} {G : mG} {Q : Option Value → mH → Prop} {X : String → mH → Prop} (p0 : Nat) (v1 : Int32) (h : mH) {o : Int32 × mH} (E : f_X12_formatPattern p0 v1 h = some o) (hK : (fiI Q) o) : mW l G m_X12_formatPattern 3 0 0 0 [some (.ref p0), some (.int v1), none, none] [] h Q X := by
  unfold f_X12_formatPattern at E
  refine q_aload_n dX12_formatPattern_0 rfl ?_
  refine q_iconst dX12_formatPattern_1 ?_
  replace E := grd_some E
  obtain ⟨g1, E⟩ := E
  replace E := bnd_x E
  obtain ⟨h2, eh2, E⟩ := E
  refine r_putI (hh := eh2) dX12_formatPattern_2 FX12_117 g1 rfl rfl ?_
  refine q_aload_n dX12_formatPattern_5 rfl ?_
  refine q_iload_n dX12_formatPattern_6 rfl ?_
  replace E := grd_some E
  obtain ⟨g5, E⟩ := E
  replace E := cal_some E
  obtain ⟨x4, h3, hc, E⟩ := E
  refine r_callV1 (mc := 0) (ms := 0) dX12_formatPattern_7 KX12_211 (c_X12_holds hc) g5 (by decide) (Nat.le_of_ble_eq_true rfl) (fun _ _ q => q.elim) ?_
  rintro _ _ ⟨rfl, rfl⟩
  clear hc
  refine q_if_ne (tgt := 19) dX12_formatPattern_10 (by decide) (fun z6 => ?_) (fun z6 => ?_)
  · replace E := ite_f E z6
    refine q_aload_n dX12_formatPattern_19 rfl ?_
    refine q_iconst dX12_formatPattern_20 ?_
    replace E := grd_some E
    obtain ⟨g7, E⟩ := E
    replace E := bnd_x E
    obtain ⟨h8, eh8, E⟩ := E
    refine r_putI (hh := eh8) dX12_formatPattern_21 FX12_364 g7 rfl rfl ?_
    refine q_aload_n dX12_formatPattern_24 rfl ?_
    refine q_iconst dX12_formatPattern_25 ?_
    replace E := grd_some E
    obtain ⟨g9, E⟩ := E
    replace E := bnd_x E
    obtain ⟨h10, eh10, E⟩ := E
    refine r_putI (hh := eh10) dX12_formatPattern_26 FX12_256 g9 rfl rfl ?_
    refine q_iconst dX12_formatPattern_29 ?_
    refine r_istore_n dX12_formatPattern_30 (by decide) rfl (ls' := [some (.ref p0), some (.int v1), some (.int (Int32.ofInt 0)), none]) rfl ?_
    exact r_fewer [some (.ref p0), some (.int v1), some (.int (Int32.ofInt 0)), none] (ls_s (ls_s (ls_s (ls_n ls_0)))) (s_X12_formatPattern_31 p0 v1 (Int32.ofInt 0) h10 E hK)
  · replace E := ite_t E z6
    refine q_aload_n dX12_formatPattern_13 rfl ?_
    refine q_iconst dX12_formatPattern_14 ?_
    replace E := grd_some E
    obtain ⟨g13, E⟩ := E
    replace E := cal_some E
    obtain ⟨x12, h11, hc, E⟩ := E
    refine r_callV1 (mc := 0) (ms := 0) dX12_formatPattern_15 KX12_196 (c_X12_fails hc) g13 (by decide) (Nat.le_of_ble_eq_true rfl) (fun _ _ q => q.elim) ?_
    rintro _ _ ⟨rfl, rfl⟩
    clear hc
    cases E
    exact q_ireturn dX12_formatPattern_18 rfl hK
theorem c_X12_formatPattern {l : Launch} {G : mG} {p0 : Nat} {v1 : Int32} {h h' : mH} {r : Int32} (E : f_X12_formatPattern p0 v1 h = some (r, h')) : mMet l G m_X12_formatPattern 3 0 0 [.ref p0, .int v1] h (fun v k => v = some (.int r) ∧ h' = k) (fun _ _ => False) :=
  mMet_of (by decide +kernel) rfl (ac_c rfl (ac_c rfl ac_0)) (Nat.le_of_ble_eq_true rfl) (s_X12_formatPattern_0 p0 v1 h E (And.intro rfl rfl))
set_option maxRecDepth 100000 in
set_option maxHeartbeats 4000000 in
theorem sb_X12_formatShortest_48 {l : Launch} {G : mG} {Q : Option Value → mH → Prop} {X : String → mH → Prop} (p0 : Nat) (v2 : Int32) (v3 : Int32) (h : mH) {o : ((Int32 × mH) ⊕ ((Int32 × mH) ⊕ (Int32 × mH)))} (E : b0_X12_formatShortest_48 p0 v2 v3 h = some o) (hK : (lpK (w_X12_formatShortest_48 l G Q X p0 v2) (lpK (w_X12_formatShortest_37 l G Q X p0) (fiI Q))) o) : mW l G m_X12_formatShortest 4 0 0 48 [some (.ref p0), none, some (.int v2), some (.int v3)] [] h Q X := by
  unfold b0_X12_formatShortest_48 at E
  refine q_aload_n dX12_formatShortest_48 rfl ?_
  replace E := grd_some E
  obtain ⟨g1, E⟩ := E
  replace E := orf_some E
  obtain ⟨a2, ea2, E⟩ := E
  refine r_getR dX12_formatShortest_49 FX12_84 g1 ea2 ?_
  refine q_aload_n dX12_formatShortest_52 rfl ?_
  refine q_iconst dX12_formatShortest_53 ?_
  refine q_iload_n dX12_formatShortest_54 rfl ?_
  refine q_iload_n dX12_formatShortest_55 rfl ?_
  replace E := cal_some E
  obtain ⟨x4, h3, hc, E⟩ := E
  refine r_callV3 (mc := 0) (ms := 0) dX12_formatShortest_56 KX12_277 (c_X12_to hc) g1 (by decide) (Nat.le_of_ble_eq_true rfl) (fun _ _ q => q.elim) ?_
  rintro _ _ ⟨rfl, rfl⟩
  clear hc
  replace E := grd_some E
  obtain ⟨g5, E⟩ := E
  replace E := grd_some E
  obtain ⟨g6, E⟩ := E
  refine r_iaload dX12_formatShortest_59 g5 g6 ?_
  refine q_aload_n dX12_formatShortest_60 rfl ?_
  replace E := grd_some E
  obtain ⟨g7, E⟩ := E
  replace E := orf_some E
  obtain ⟨a8, ea8, E⟩ := E
  refine r_getR dX12_formatShortest_61 FX12_84 g7 ea8 ?_
  refine q_iload_n dX12_formatShortest_64 rfl ?_
  replace E := grd_some E
  obtain ⟨g9, E⟩ := E
  replace E := grd_some E
  obtain ⟨g10, E⟩ := E
  refine r_iaload dX12_formatShortest_65 g9 g10 ?_
  refine q_iconst dX12_formatShortest_66 ?_
  refine q_isub dX12_formatShortest_67 ?_
  refine q_icmp_eq (tgt := 77) dX12_formatShortest_68 (by decide) (fun z11 => ?_) (fun z11 => ?_)
  · replace E := ite_t E z11
    refine q_aload_n dX12_formatShortest_77 rfl ?_
    refine q_aload_n dX12_formatShortest_78 rfl ?_
    refine r_getI dX12_formatShortest_79 FX12_364 g7 ?_
    refine q_bipush (v := (Int32.ofInt 97)) dX12_formatShortest_82 (by decide) ?_
    refine q_iload_n dX12_formatShortest_84 rfl ?_
    refine q_iadd dX12_formatShortest_85 ?_
    replace E := cal_some E
    obtain ⟨_, h12, hc, E⟩ := E
    refine r_callV2 (mc := 0) (ms := 0) dX12_formatShortest_86 KX12_367 (c_X12_inserts hc) g7 (by decide) (Nat.le_of_ble_eq_true rfl) (fun _ _ q => q.elim) ?_
    rintro _ _ ⟨rfl, rfl⟩
    clear hc
    refine q_aload_n dX12_formatShortest_89 rfl ?_
    refine q_iconst dX12_formatShortest_90 ?_
    refine q_iload_n dX12_formatShortest_91 rfl ?_
    refine q_iload_n dX12_formatShortest_92 rfl ?_
    replace E := grd_some E
    obtain ⟨g16, E⟩ := E
    replace E := cal_some E
    obtain ⟨x15, h14, hc, E⟩ := E
    refine r_callV3 (mc := 0) (ms := 0) dX12_formatShortest_93 KX12_277 (c_X12_to hc) g16 (by decide) (Nat.le_of_ble_eq_true rfl) (fun _ _ q => q.elim) ?_
    rintro _ _ ⟨rfl, rfl⟩
    clear hc
    refine r_istore_n dX12_formatShortest_96 (by decide) rfl (ls' := [some (.ref p0), none, some (.int x15), some (.int v3)]) rfl ?_
    refine q_goto (tgt := 37) dX12_formatShortest_97 (by decide) ?_
    cases E
    exact r_fewer [some (.ref p0), none, some (.int x15), none] (ls_s (ls_n (ls_s (ls_n ls_0)))) hK
  · replace E := ite_f E z11
    replace E := bnd_x E
    obtain ⟨x17, ex17, E⟩ := E
    refine r_iinc (v := x17) dX12_formatShortest_71 rfl ex17 (by decide) (ls' := [some (.ref p0), none, some (.int v2), some (.int x17)]) rfl ?_
    refine q_goto (tgt := 48) dX12_formatShortest_74 (by decide) ?_
    cases E
    exact r_fewer [some (.ref p0), none, some (.int v2), some (.int x17)] (ls_s (ls_n (ls_s (ls_s ls_0)))) hK
theorem s_X12_formatShortest_48 {l : Launch} {G : mG} {Q : Option Value → mH → Prop} {X : String → mH → Prop} (p0 : Nat) (v2 : Int32) (v3 : Int32) (h : mH) {o : ((Int32 × mH) ⊕ (Int32 × mH))} (E : g_X12_formatShortest_48 p0 v2 v3 h = some o) (hK : (lpK (w_X12_formatShortest_37 l G Q X p0) (fiI Q)) o) : mW l G m_X12_formatShortest 4 0 0 48 [some (.ref p0), none, some (.int v2), some (.int v3)] [] h Q X :=
  (lp_go (w_X12_formatShortest_48 l G Q X p0 v2) (lpK (w_X12_formatShortest_37 l G Q X p0) (fiI Q)) (b_X12_formatShortest_48 p0 v2) (fun s o E hK => sb_X12_formatShortest_48 p0 v2 s.1 (s.2) E hK) _ _ _ E hK : w_X12_formatShortest_48 l G Q X p0 v2 (v3, h))
set_option maxRecDepth 100000 in
set_option maxHeartbeats 4000000 in
theorem sb_X12_formatShortest_37 {l : Launch} {G : mG} {Q : Option Value → mH → Prop} {X : String → mH → Prop} (p0 : Nat) (v2 : Int32) (h : mH) {o : ((Int32 × mH) ⊕ (Int32 × mH))} (E : b0_X12_formatShortest_37 p0 v2 h = some o) (hK : (lpK (w_X12_formatShortest_37 l G Q X p0) (fiI Q)) o) : mW l G m_X12_formatShortest 4 0 0 37 [some (.ref p0), none, some (.int v2), none] [] h Q X := by
  unfold b0_X12_formatShortest_37 at E
  refine q_aload_n dX12_formatShortest_37 rfl ?_
  replace E := grd_some E
  obtain ⟨g1, E⟩ := E
  replace E := orf_some E
  obtain ⟨a2, ea2, E⟩ := E
  refine r_getR dX12_formatShortest_38 FX12_84 g1 ea2 ?_
  refine q_iload_n dX12_formatShortest_41 rfl ?_
  replace E := grd_some E
  obtain ⟨g3, E⟩ := E
  replace E := grd_some E
  obtain ⟨g4, E⟩ := E
  refine r_iaload dX12_formatShortest_42 g3 g4 ?_
  refine q_if_le (tgt := 100) dX12_formatShortest_43 (by decide) (fun z5 => ?_) (fun z5 => ?_)
  · replace E := ite_t E z5
    refine q_aload_n dX12_formatShortest_100 rfl ?_
    refine r_getI dX12_formatShortest_101 FX12_364 g1 ?_
    cases E
    exact q_ireturn dX12_formatShortest_104 rfl hK
  · replace E := ite_f E z5
    refine q_iconst dX12_formatShortest_46 ?_
    refine r_istore_n dX12_formatShortest_47 (by decide) rfl (ls' := [some (.ref p0), none, some (.int v2), some (.int (Int32.ofInt 0))]) rfl ?_
    exact r_fewer [some (.ref p0), none, some (.int v2), some (.int (Int32.ofInt 0))] (ls_s (ls_n (ls_s (ls_s ls_0)))) (s_X12_formatShortest_48 p0 v2 (Int32.ofInt 0) h E hK)
theorem s_X12_formatShortest_37 {l : Launch} {G : mG} {Q : Option Value → mH → Prop} {X : String → mH → Prop} (p0 : Nat) (v2 : Int32) (h : mH) {o : Int32 × mH} (E : g_X12_formatShortest_37 p0 v2 h = some o) (hK : (fiI Q) o) : mW l G m_X12_formatShortest 4 0 0 37 [some (.ref p0), none, some (.int v2), none] [] h Q X :=
  (lp_go (w_X12_formatShortest_37 l G Q X p0) (fiI Q) (b_X12_formatShortest_37 p0) (fun s o E hK => sb_X12_formatShortest_37 p0 s.1 (s.2) E hK) _ _ _ E hK : w_X12_formatShortest_37 l G Q X p0 (v2, h))
set_option maxRecDepth 100000 in
set_option maxHeartbeats 4000000 in
theorem s_X12_formatShortest_0 {l : Launch} {G : mG} {Q : Option Value → mH → Prop} {X : String → mH → Prop} (p0 : Nat) (v1 : Int32) (h : mH) {o : Int32 × mH} (E : f_X12_formatShortest p0 v1 h = some o) (hK : (fiI Q) o) : mW l G m_X12_formatShortest 4 0 0 0 [some (.ref p0), some (.int v1), none, none] [] h Q X := by
  unfold f_X12_formatShortest at E
  refine q_aload_n dX12_formatShortest_0 rfl ?_
  refine q_iconst dX12_formatShortest_1 ?_
  replace E := grd_some E
  obtain ⟨g1, E⟩ := E
  replace E := bnd_x E
  obtain ⟨h2, eh2, E⟩ := E
  refine r_putI (hh := eh2) dX12_formatShortest_2 FX12_117 g1 rfl rfl ?_
  refine q_aload_n dX12_formatShortest_5 rfl ?_
  refine q_iload_n dX12_formatShortest_6 rfl ?_
  replace E := grd_some E
  obtain ⟨g5, E⟩ := E
  replace E := cal_some E
  obtain ⟨x4, h3, hc, E⟩ := E
  refine r_callV1 (mc := 0) (ms := 0) dX12_formatShortest_7 KX12_211 (c_X12_holds hc) g5 (by decide) (Nat.le_of_ble_eq_true rfl) (fun _ _ q => q.elim) ?_
  rintro _ _ ⟨rfl, rfl⟩
  clear hc
  refine q_if_ne (tgt := 19) dX12_formatShortest_10 (by decide) (fun z6 => ?_) (fun z6 => ?_)
  · replace E := ite_f E z6
    refine q_aload_n dX12_formatShortest_19 rfl ?_
    refine q_iload_n dX12_formatShortest_20 rfl ?_
    replace E := grd_some E
    obtain ⟨g9, E⟩ := E
    replace E := cal_some E
    obtain ⟨_, h7, hc, E⟩ := E
    refine r_callV1 (mc := 0) (ms := 0) dX12_formatShortest_21 KX12_292 (c_X12_opens hc) g9 (by decide) (Nat.le_of_ble_eq_true rfl) (fun _ _ q => q.elim) ?_
    rintro _ _ ⟨rfl, rfl⟩
    clear hc
    refine q_aload_n dX12_formatShortest_24 rfl ?_
    replace E := grd_some E
    obtain ⟨g12, E⟩ := E
    replace E := cal_some E
    obtain ⟨_, h10, hc, E⟩ := E
    refine r_callV0 (mc := 0) (ms := 0) dX12_formatShortest_25 KX12_343 (c_X12_findsFar hc) g12 (by decide) (Nat.le_of_ble_eq_true rfl) (fun _ _ q => q.elim) ?_
    rintro _ _ ⟨rfl, rfl⟩
    clear hc
    refine q_aload_n dX12_formatShortest_28 rfl ?_
    refine q_iconst dX12_formatShortest_29 ?_
    replace E := grd_some E
    obtain ⟨g13, E⟩ := E
    replace E := bnd_x E
    obtain ⟨h14, eh14, E⟩ := E
    refine r_putI (hh := eh14) dX12_formatShortest_30 FX12_364 g13 rfl rfl ?_
    refine q_sipush (v := (Int32.ofInt 128)) dX12_formatShortest_33 (by decide) ?_
    refine r_istore_n dX12_formatShortest_36 (by decide) rfl (ls' := [some (.ref p0), some (.int v1), some (.int (Int32.ofInt 128)), none]) rfl ?_
    exact r_fewer [some (.ref p0), none, some (.int (Int32.ofInt 128)), none] (ls_s (ls_n (ls_s (ls_n ls_0)))) (s_X12_formatShortest_37 p0 (Int32.ofInt 128) h14 E hK)
  · replace E := ite_t E z6
    refine q_aload_n dX12_formatShortest_13 rfl ?_
    refine q_iconst dX12_formatShortest_14 ?_
    replace E := grd_some E
    obtain ⟨g17, E⟩ := E
    replace E := cal_some E
    obtain ⟨x16, h15, hc, E⟩ := E
    refine r_callV1 (mc := 0) (ms := 0) dX12_formatShortest_15 KX12_196 (c_X12_fails hc) g17 (by decide) (Nat.le_of_ble_eq_true rfl) (fun _ _ q => q.elim) ?_
    rintro _ _ ⟨rfl, rfl⟩
    clear hc
    cases E
    exact q_ireturn dX12_formatShortest_18 rfl hK
theorem c_X12_formatShortest {l : Launch} {G : mG} {p0 : Nat} {v1 : Int32} {h h' : mH} {r : Int32} (E : f_X12_formatShortest p0 v1 h = some (r, h')) : mMet l G m_X12_formatShortest 4 0 0 [.ref p0, .int v1] h (fun v k => v = some (.int r) ∧ h' = k) (fun _ _ => False) :=
  mMet_of (by decide +kernel) rfl (ac_c rfl (ac_c rfl ac_0)) (Nat.le_of_ble_eq_true rfl) (s_X12_formatShortest_0 p0 v1 h E (And.intro rfl rfl))
set_option maxRecDepth 100000 in
set_option maxHeartbeats 4000000 in
theorem sb_X12_formatDifference_41 {l : Launch} {G : mG} {Q : Option Value → mH → Prop} {X : String → mH → Prop} (p0 : Nat) (v3 : Int32) (v4 : Int32) (v5 : Int32) (v6 : Int32) (h : mH) {o : ((Int32 × mH) ⊕ ((Int32 × Int32 × Int32 × mH) ⊕ (Int32 × mH)))} (E : b0_X12_formatDifference_41 p0 v3 v4 v5 v6 h = some o) (hK : (lpK (w_X12_formatDifference_41 l G Q X p0 v3 v4 v5) (lpK (w_X12_formatDifference_34 l G Q X p0) (fiI Q))) o) : mW l G m_X12_formatDifference 5 0 0 41 [some (.ref p0), none, none, some (.int v3), some (.int v4), some (.int v5), some (.int v6)] [] h Q X := by
  unfold b0_X12_formatDifference_41 at E
  refine q_aload_n dX12_formatDifference_41 rfl ?_
  refine q_aload_n dX12_formatDifference_42 rfl ?_
  refine q_iconst dX12_formatDifference_43 ?_
  refine q_iload dX12_formatDifference_44 rfl ?_
  refine q_iload dX12_formatDifference_46 rfl ?_
  replace E := grd_some E
  obtain ⟨g3, E⟩ := E
  replace E := cal_some E
  obtain ⟨x2, h1, hc, E⟩ := E
  refine r_callV3 (mc := 0) (ms := 0) dX12_formatDifference_48 KX12_277 (c_X12_to hc) g3 (by decide) (Nat.le_of_ble_eq_true rfl) (fun _ _ q => q.elim) ?_
  rintro _ _ ⟨rfl, rfl⟩
  clear hc
  refine q_aload_n dX12_formatDifference_51 rfl ?_
  refine q_iconst dX12_formatDifference_52 ?_
  refine q_iload dX12_formatDifference_53 rfl ?_
  refine q_iload dX12_formatDifference_55 rfl ?_
  replace E := grd_some E
  obtain ⟨g6, E⟩ := E
  replace E := cal_some E
  obtain ⟨x5, h4, hc, E⟩ := E
  refine r_callV3 (mc := 0) (ms := 0) dX12_formatDifference_57 KX12_277 (c_X12_to hc) g6 (by decide) (Nat.le_of_ble_eq_true rfl) (fun _ _ q => q.elim) ?_
  rintro _ _ ⟨rfl, rfl⟩
  clear hc
  refine q_iconst dX12_formatDifference_60 ?_
  replace E := grd_some E
  obtain ⟨g9, E⟩ := E
  replace E := cal_some E
  obtain ⟨x8, h7, hc, E⟩ := E
  refine r_callV3 (mc := 0) (ms := 0) dX12_formatDifference_61 KX12_315 (c_X12_apart hc) g9 (by decide) (Nat.le_of_ble_eq_true rfl) (fun _ _ q => q.elim) ?_
  rintro _ _ ⟨rfl, rfl⟩
  clear hc
  refine q_iload_n dX12_formatDifference_64 rfl ?_
  refine q_iconst dX12_formatDifference_65 ?_
  refine q_isub dX12_formatDifference_66 ?_
  refine q_icmp_eq (tgt := 76) dX12_formatDifference_67 (by decide) (fun z10 => ?_) (fun z10 => ?_)
  · replace E := ite_t E z10
    refine q_aload_n dX12_formatDifference_76 rfl ?_
    refine q_aload_n dX12_formatDifference_77 rfl ?_
    replace E := grd_some E
    obtain ⟨g11, E⟩ := E
    refine r_getI dX12_formatDifference_78 FX12_364 g11 ?_
    refine q_bipush (v := (Int32.ofInt 97)) dX12_formatDifference_81 (by decide) ?_
    refine q_iload dX12_formatDifference_83 rfl ?_
    refine q_iadd dX12_formatDifference_85 ?_
    replace E := cal_some E
    obtain ⟨_, h12, hc, E⟩ := E
    refine r_callV2 (mc := 0) (ms := 0) dX12_formatDifference_86 KX12_367 (c_X12_inserts hc) g11 (by decide) (Nat.le_of_ble_eq_true rfl) (fun _ _ q => q.elim) ?_
    rintro _ _ ⟨rfl, rfl⟩
    clear hc
    refine q_aload_n dX12_formatDifference_89 rfl ?_
    refine q_iconst dX12_formatDifference_90 ?_
    refine q_iload dX12_formatDifference_91 rfl ?_
    refine q_iload dX12_formatDifference_93 rfl ?_
    replace E := grd_some E
    obtain ⟨g16, E⟩ := E
    replace E := cal_some E
    obtain ⟨x15, h14, hc, E⟩ := E
    refine r_callV3 (mc := 0) (ms := 0) dX12_formatDifference_95 KX12_277 (c_X12_to hc) g16 (by decide) (Nat.le_of_ble_eq_true rfl) (fun _ _ q => q.elim) ?_
    rintro _ _ ⟨rfl, rfl⟩
    clear hc
    refine r_istore dX12_formatDifference_98 (by decide) rfl (ls' := [some (.ref p0), none, none, some (.int v3), some (.int x15), some (.int v5), some (.int v6)]) rfl ?_
    refine q_aload_n dX12_formatDifference_100 rfl ?_
    refine q_iconst dX12_formatDifference_101 ?_
    refine q_iload dX12_formatDifference_102 rfl ?_
    refine q_iload dX12_formatDifference_104 rfl ?_
    replace E := grd_some E
    obtain ⟨g19, E⟩ := E
    replace E := cal_some E
    obtain ⟨x18, h17, hc, E⟩ := E
    refine r_callV3 (mc := 0) (ms := 0) dX12_formatDifference_106 KX12_277 (c_X12_to hc) g19 (by decide) (Nat.le_of_ble_eq_true rfl) (fun _ _ q => q.elim) ?_
    rintro _ _ ⟨rfl, rfl⟩
    clear hc
    refine r_istore dX12_formatDifference_109 (by decide) rfl (ls' := [some (.ref p0), none, none, some (.int v3), some (.int x15), some (.int x18), some (.int v6)]) rfl ?_
    replace E := bnd_x E
    obtain ⟨x20, ex20, E⟩ := E
    refine r_iinc (v := x20) dX12_formatDifference_111 rfl ex20 (by decide) (ls' := [some (.ref p0), none, none, some (.int x20), some (.int x15), some (.int x18), some (.int v6)]) rfl ?_
    refine q_goto (tgt := 34) dX12_formatDifference_114 (by decide) ?_
    cases E
    exact r_fewer [some (.ref p0), none, none, some (.int x20), some (.int x15), some (.int x18), none] (ls_s (ls_n (ls_n (ls_s (ls_s (ls_s (ls_n ls_0))))))) hK
  · replace E := ite_f E z10
    replace E := bnd_x E
    obtain ⟨x21, ex21, E⟩ := E
    refine r_iinc (v := x21) dX12_formatDifference_70 rfl ex21 (by decide) (ls' := [some (.ref p0), none, none, some (.int v3), some (.int v4), some (.int v5), some (.int x21)]) rfl ?_
    refine q_goto (tgt := 41) dX12_formatDifference_73 (by decide) ?_
    cases E
    exact r_fewer [some (.ref p0), none, none, some (.int v3), some (.int v4), some (.int v5), some (.int x21)] (ls_s (ls_n (ls_n (ls_s (ls_s (ls_s (ls_s ls_0))))))) hK
theorem s_X12_formatDifference_41 {l : Launch} {G : mG} {Q : Option Value → mH → Prop} {X : String → mH → Prop} (p0 : Nat) (v3 : Int32) (v4 : Int32) (v5 : Int32) (v6 : Int32) (h : mH) {o : ((Int32 × Int32 × Int32 × mH) ⊕ (Int32 × mH))} (E : g_X12_formatDifference_41 p0 v3 v4 v5 v6 h = some o) (hK : (lpK (w_X12_formatDifference_34 l G Q X p0) (fiI Q)) o) : mW l G m_X12_formatDifference 5 0 0 41 [some (.ref p0), none, none, some (.int v3), some (.int v4), some (.int v5), some (.int v6)] [] h Q X :=
  (lp_go (w_X12_formatDifference_41 l G Q X p0 v3 v4 v5) (lpK (w_X12_formatDifference_34 l G Q X p0) (fiI Q)) (b_X12_formatDifference_41 p0 v3 v4 v5) (fun s o E hK => sb_X12_formatDifference_41 p0 v3 v4 v5 s.1 (s.2) E hK) _ _ _ E hK : w_X12_formatDifference_41 l G Q X p0 v3 v4 v5 (v6, h))
set_option maxRecDepth 100000 in
set_option maxHeartbeats 4000000 in
theorem sb_X12_formatDifference_34 {l : Launch} {G : mG} {Q : Option Value → mH → Prop} {X : String → mH → Prop} (p0 : Nat) (v3 : Int32) (v4 : Int32) (v5 : Int32) (h : mH) {o : ((Int32 × Int32 × Int32 × mH) ⊕ (Int32 × mH))} (E : b0_X12_formatDifference_34 p0 v3 v4 v5 h = some o) (hK : (lpK (w_X12_formatDifference_34 l G Q X p0) (fiI Q)) o) : mW l G m_X12_formatDifference 5 0 0 34 [some (.ref p0), none, none, some (.int v3), some (.int v4), some (.int v5), none] [] h Q X := by
  unfold b0_X12_formatDifference_34 at E
  refine q_iload_n dX12_formatDifference_34 rfl ?_
  refine q_if_le (tgt := 117) dX12_formatDifference_35 (by decide) (fun z1 => ?_) (fun z1 => ?_)
  · replace E := ite_t E z1
    refine q_aload_n dX12_formatDifference_117 rfl ?_
    replace E := grd_some E
    obtain ⟨g2, E⟩ := E
    refine r_getI dX12_formatDifference_118 FX12_364 g2 ?_
    cases E
    exact q_ireturn dX12_formatDifference_121 rfl hK
  · replace E := ite_f E z1
    refine q_iconst dX12_formatDifference_38 ?_
    refine r_istore dX12_formatDifference_39 (by decide) rfl (ls' := [some (.ref p0), none, none, some (.int v3), some (.int v4), some (.int v5), some (.int (Int32.ofInt 0))]) rfl ?_
    exact r_fewer [some (.ref p0), none, none, some (.int v3), some (.int v4), some (.int v5), some (.int (Int32.ofInt 0))] (ls_s (ls_n (ls_n (ls_s (ls_s (ls_s (ls_s ls_0))))))) (s_X12_formatDifference_41 p0 v3 v4 v5 (Int32.ofInt 0) h E hK)
theorem s_X12_formatDifference_34 {l : Launch} {G : mG} {Q : Option Value → mH → Prop} {X : String → mH → Prop} (p0 : Nat) (v3 : Int32) (v4 : Int32) (v5 : Int32) (h : mH) {o : Int32 × mH} (E : g_X12_formatDifference_34 p0 v3 v4 v5 h = some o) (hK : (fiI Q) o) : mW l G m_X12_formatDifference 5 0 0 34 [some (.ref p0), none, none, some (.int v3), some (.int v4), some (.int v5), none] [] h Q X :=
  (lp_go (w_X12_formatDifference_34 l G Q X p0) (fiI Q) (b_X12_formatDifference_34 p0) (fun s o E hK => sb_X12_formatDifference_34 p0 s.1 s.2.1 s.2.2.1 (s.2.2.2) E hK) _ _ _ E hK : w_X12_formatDifference_34 l G Q X p0 (v3, v4, v5, h))
set_option maxRecDepth 100000 in
set_option maxHeartbeats 4000000 in
theorem s_X12_formatDifference_0 {l : Launch} {G : mG} {Q : Option Value → mH → Prop} {X : String → mH → Prop} (p0 : Nat) (v1 : Int32) (v2 : Int32) (h : mH) {o : Int32 × mH} (E : f_X12_formatDifference p0 v1 v2 h = some o) (hK : (fiI Q) o) : mW l G m_X12_formatDifference 5 0 0 0 [some (.ref p0), some (.int v1), some (.int v2), none, none, none, none] [] h Q X := by
  unfold f_X12_formatDifference at E
  refine q_aload_n dX12_formatDifference_0 rfl ?_
  refine q_iload_n dX12_formatDifference_1 rfl ?_
  refine q_iload_n dX12_formatDifference_2 rfl ?_
  replace E := grd_some E
  obtain ⟨g3, E⟩ := E
  replace E := cal_some E
  obtain ⟨x2, h1, hc, E⟩ := E
  refine r_callV2 (mc := 0) (ms := 0) dX12_formatDifference_3 KX12_352 (c_X12_areNot hc) g3 (by decide) (Nat.le_of_ble_eq_true rfl) (fun _ _ q => q.elim) ?_
  rintro _ _ ⟨rfl, rfl⟩
  clear hc
  refine q_if_eq (tgt := 11) dX12_formatDifference_6 (by decide) (fun z4 => ?_) (fun z4 => ?_)
  · replace E := ite_t E z4
    refine q_aload_n dX12_formatDifference_11 rfl ?_
    refine q_iload_n dX12_formatDifference_12 rfl ?_
    refine q_iload_n dX12_formatDifference_13 rfl ?_
    refine q_iconst dX12_formatDifference_14 ?_
    replace E := grd_some E
    obtain ⟨g7, E⟩ := E
    replace E := cal_some E
    obtain ⟨x6, h5, hc, E⟩ := E
    refine r_callV3 (mc := 0) (ms := 0) dX12_formatDifference_15 KX12_355 (c_X12_apartSlots hc) g7 (by decide) (Nat.le_of_ble_eq_true rfl) (fun _ _ q => q.elim) ?_
    rintro _ _ ⟨rfl, rfl⟩
    clear hc
    refine r_istore_n dX12_formatDifference_18 (by decide) rfl (ls' := [some (.ref p0), some (.int v1), some (.int v2), some (.int x6), none, none, none]) rfl ?_
    refine q_aload_n dX12_formatDifference_19 rfl ?_
    refine q_iconst dX12_formatDifference_20 ?_
    replace E := grd_some E
    obtain ⟨g8, E⟩ := E
    replace E := bnd_x E
    obtain ⟨h9, eh9, E⟩ := E
    refine r_putI (hh := eh9) dX12_formatDifference_21 FX12_364 g8 rfl rfl ?_
    refine q_sipush (v := (Int32.ofInt 128)) dX12_formatDifference_24 (by decide) ?_
    refine r_istore dX12_formatDifference_27 (by decide) rfl (ls' := [some (.ref p0), some (.int v1), some (.int v2), some (.int x6), some (.int (Int32.ofInt 128)), none, none]) rfl ?_
    refine q_sipush (v := (Int32.ofInt 128)) dX12_formatDifference_29 (by decide) ?_
    refine r_istore dX12_formatDifference_32 (by decide) rfl (ls' := [some (.ref p0), some (.int v1), some (.int v2), some (.int x6), some (.int (Int32.ofInt 128)), some (.int (Int32.ofInt 128)), none]) rfl ?_
    exact r_fewer [some (.ref p0), none, none, some (.int x6), some (.int (Int32.ofInt 128)), some (.int (Int32.ofInt 128)), none] (ls_s (ls_n (ls_n (ls_s (ls_s (ls_s (ls_n ls_0))))))) (s_X12_formatDifference_34 p0 x6 (Int32.ofInt 128) (Int32.ofInt 128) h9 E hK)
  · replace E := ite_f E z4
    refine q_iconst dX12_formatDifference_9 ?_
    cases E
    exact q_ireturn dX12_formatDifference_10 rfl hK
theorem c_X12_formatDifference {l : Launch} {G : mG} {p0 : Nat} {v1 : Int32} {v2 : Int32} {h h' : mH} {r : Int32} (E : f_X12_formatDifference p0 v1 v2 h = some (r, h')) : mMet l G m_X12_formatDifference 5 0 0 [.ref p0, .int v1, .int v2] h (fun v k => v = some (.int r) ∧ h' = k) (fun _ _ => False) :=
  mMet_of (by decide +kernel) rfl (ac_c rfl (ac_c rfl (ac_c rfl ac_0))) (Nat.le_of_ble_eq_true rfl) (s_X12_formatDifference_0 p0 v1 v2 h E (And.intro rfl rfl))
