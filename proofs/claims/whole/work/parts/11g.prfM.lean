set_option maxRecDepth 100000 in
set_option maxHeartbeats 4000000 in
theorem s_X12_isUniversal_26 {l : Launch} {G : va_G × (Nat → ClassId)} {Q : Option Value → mH → Prop} {X : String → mH → Prop} (s0 : Int32) (h : mH) {o : Int32 × mH} (E : g_X12_isUniversal_26 s0 h = some o) (hK : (fiI Q) o) : mW l G m_X12_isUniversal 4 0 0 26 [none, none, none] [.int s0] h Q X := by
  unfold g_X12_isUniversal_26 at E
  obtain ⟨g1, E⟩ := grd_some E
  cases E
  exact q_zreturn dX12_isUniversal_26 rfl (narZ g1) hK
set_option maxRecDepth 100000 in
set_option maxHeartbeats 4000000 in
theorem sb_X12_isUniversal_34 {l : Launch} {G : va_G × (Nat → ClassId)} {Q : Option Value → mH → Prop} {X : String → mH → Prop} (p0 : Nat) (v2 : Int32) (h : mH) {o : ((Int32 × mH) ⊕ (Int32 × mH))} (E : b0_X12_isUniversal_34 p0 v2 h = some o) (hK : (lpK (w_X12_isUniversal_34 l G Q X p0) (fiI Q)) o) : mW l G m_X12_isUniversal 4 0 0 34 [some (.ref p0), none, some (.int v2)] [] h Q X := by
  unfold b0_X12_isUniversal_34 at E
  refine q_iload_n dX12_isUniversal_34 rfl ?_
  refine q_aload_n dX12_isUniversal_35 rfl ?_
  obtain ⟨g1, E⟩ := grd_some E
  refine r_getI dX12_isUniversal_36 FX12_274 g1 ?_
  refine q_icmp_ge (tgt := 64) dX12_isUniversal_39 (by decide) (fun z2 => ?_) (fun z2 => ?_)
  · replace E := ite_t E z2
    refine q_iconst dX12_isUniversal_64 ?_
    cases E
    exact q_zreturn dX12_isUniversal_65 rfl (by decide) hK
  · replace E := ite_f E z2
    refine q_aload_n dX12_isUniversal_42 rfl ?_
    refine q_iconst dX12_isUniversal_43 ?_
    refine q_aload_n dX12_isUniversal_44 rfl ?_
    obtain ⟨a3, ea3, E⟩ := orf_some E
    refine r_getR dX12_isUniversal_45 FX12_69 g1 ea3 ?_
    refine q_iload_n dX12_isUniversal_48 rfl ?_
    obtain ⟨g4, E⟩ := grd_some E
    obtain ⟨g5, E⟩ := grd_some E
    refine r_iaload dX12_isUniversal_49 g4 g5 ?_
    obtain ⟨x7, h6, hc, E⟩ := cal_some E
    refine r_callV2 (mc := 0) (ms := 0) dX12_isUniversal_50 KX12_286 (c_X12_accepts hc) g1 (by decide) (Nat.le_of_ble_eq_true rfl) (fun _ _ q => q.elim) ?_
    rintro _ _ ⟨rfl, rfl⟩
    clear hc
    refine q_if_ne (tgt := 58) dX12_isUniversal_53 (by decide) (fun z8 => ?_) (fun z8 => ?_)
    · replace E := ite_f E z8
      obtain ⟨x9, ex9, E⟩ := bnd_x E
      refine r_iinc (v := x9) dX12_isUniversal_58 rfl ex9 (by decide) (ls' := [some (.ref p0), none, some (.int x9)]) rfl ?_
      refine q_goto (tgt := 34) dX12_isUniversal_61 (by decide) ?_
      cases E
      exact r_fewer [some (.ref p0), none, some (.int x9)] (ls_s (ls_n (ls_s ls_0))) hK
    · replace E := ite_t E z8
      refine q_iconst dX12_isUniversal_56 ?_
      cases E
      exact q_zreturn dX12_isUniversal_57 rfl (by decide) hK
theorem s_X12_isUniversal_34 {l : Launch} {G : va_G × (Nat → ClassId)} {Q : Option Value → mH → Prop} {X : String → mH → Prop} (p0 : Nat) (v2 : Int32) (h : mH) {o : Int32 × mH} (E : g_X12_isUniversal_34 p0 v2 h = some o) (hK : (fiI Q) o) : mW l G m_X12_isUniversal 4 0 0 34 [some (.ref p0), none, some (.int v2)] [] h Q X :=
  (lp_go (w_X12_isUniversal_34 l G Q X p0) (fiI Q) (b_X12_isUniversal_34 p0) (fun s o E hK => sb_X12_isUniversal_34 p0 s.1 (s.2) E hK) _ _ _ E hK : w_X12_isUniversal_34 l G Q X p0 (v2, h))
set_option maxRecDepth 100000 in
set_option maxHeartbeats 4000000 in
theorem s_X12_isUniversal_0 {l : Launch} {G : va_G × (Nat → ClassId)} {Q : Option Value → mH → Prop} {X : String → mH → Prop} (p0 : Nat) (v1 : Int32) (h : mH) {o : Int32 × mH} (E : f_X12_isUniversal p0 v1 h = some o) (hK : (fiI Q) o) : mW l G m_X12_isUniversal 4 0 0 0 [some (.ref p0), some (.int v1), none] [] h Q X := by
  unfold f_X12_isUniversal at E
  refine q_aload_n dX12_isUniversal_0 rfl ?_
  refine q_iconst dX12_isUniversal_1 ?_
  obtain ⟨g1, E⟩ := grd_some E
  obtain ⟨h2, eh2, E⟩ := bnd_x E
  refine r_putI (hh := eh2) dX12_isUniversal_2 FX12_117 g1 rfl rfl ?_
  refine q_aload_n dX12_isUniversal_5 rfl ?_
  refine q_iload_n dX12_isUniversal_6 rfl ?_
  obtain ⟨g5, E⟩ := grd_some E
  obtain ⟨x4, h3, hc, E⟩ := cal_some E
  refine r_callV1 (mc := 0) (ms := 0) dX12_isUniversal_7 KX12_211 (c_X12_holds hc) g5 (by decide) (Nat.le_of_ble_eq_true rfl) (fun _ _ q => q.elim) ?_
  rintro _ _ ⟨rfl, rfl⟩
  clear hc
  refine q_if_ne (tgt := 27) dX12_isUniversal_10 (by decide) (fun z6 => ?_) (fun z6 => ?_)
  · replace E := ite_f E z6
    refine q_aload_n dX12_isUniversal_27 rfl ?_
    refine q_iload_n dX12_isUniversal_28 rfl ?_
    obtain ⟨g9, E⟩ := grd_some E
    obtain ⟨_, h7, hc, E⟩ := cal_some E
    refine r_callV1 (mc := 0) (ms := 0) dX12_isUniversal_29 KX12_292 (c_X12_opens hc) g9 (by decide) (Nat.le_of_ble_eq_true rfl) (fun _ _ q => q.elim) ?_
    rintro _ _ ⟨rfl, rfl⟩
    clear hc
    refine q_iconst dX12_isUniversal_32 ?_
    refine r_istore_n dX12_isUniversal_33 (by decide) rfl (ls' := [some (.ref p0), some (.int v1), some (.int (Int32.ofInt 0))]) rfl ?_
    exact r_fewer [some (.ref p0), none, some (.int (Int32.ofInt 0))] (ls_s (ls_n (ls_s ls_0))) (s_X12_isUniversal_34 p0 (Int32.ofInt 0) h7 E hK)
  · replace E := ite_t E z6
    refine q_aload_n dX12_isUniversal_13 rfl ?_
    refine q_iconst dX12_isUniversal_14 ?_
    obtain ⟨g12, E⟩ := grd_some E
    obtain ⟨x11, h10, hc, E⟩ := cal_some E
    refine r_callV1 (mc := 0) (ms := 0) dX12_isUniversal_15 KX12_196 (c_X12_fails hc) g12 (by decide) (Nat.le_of_ble_eq_true rfl) (fun _ _ q => q.elim) ?_
    rintro _ _ ⟨rfl, rfl⟩
    clear hc
    refine q_if_le (tgt := 25) dX12_isUniversal_18 (by decide) (fun z13 => ?_) (fun z13 => ?_)
    · replace E := ite_t E z13
      refine q_iconst dX12_isUniversal_25 ?_
      exact r_fewer [none, none, none] (ls_n (ls_n (ls_n ls_0))) (s_X12_isUniversal_26 (Int32.ofInt 0) h10 E hK)
    · replace E := ite_f E z13
      refine q_iconst dX12_isUniversal_21 ?_
      refine q_goto (tgt := 26) dX12_isUniversal_22 (by decide) ?_
      exact r_fewer [none, none, none] (ls_n (ls_n (ls_n ls_0))) (s_X12_isUniversal_26 (Int32.ofInt 1) h10 E hK)
theorem c_X12_isUniversal {l : Launch} {G : va_G × (Nat → ClassId)} {p0 : Nat} {v1 : Int32} {h h' : mH} {r : Int32} (E : f_X12_isUniversal p0 v1 h = some (r, h')) : mMet l G m_X12_isUniversal 4 0 0 [.ref p0, .int v1] h (fun v k => v = some (.int r) ∧ h' = k) (fun _ _ => False) :=
  mMet_of (by decide +kernel) rfl (ac_c rfl (ac_c rfl ac_0)) (Nat.le_of_ble_eq_true rfl) (s_X12_isUniversal_0 p0 v1 h E (And.intro rfl rfl))
set_option maxRecDepth 100000 in
set_option maxHeartbeats 4000000 in
theorem s_X12_areNot_34 {l : Launch} {G : va_G × (Nat → ClassId)} {Q : Option Value → mH → Prop} {X : String → mH → Prop} (s0 : Int32) (h : mH) {o : Int32 × mH} (E : g_X12_areNot_34 s0 h = some o) (hK : (fiI Q) o) : mW l G m_X12_areNot 3 0 0 34 [none, none, none] [.int s0] h Q X := by
  unfold g_X12_areNot_34 at E
  obtain ⟨g1, E⟩ := grd_some E
  cases E
  exact q_zreturn dX12_areNot_34 rfl (narZ g1) hK
set_option maxRecDepth 100000 in
set_option maxHeartbeats 4000000 in
theorem s_X12_areNot_33 {l : Launch} {G : va_G × (Nat → ClassId)} {Q : Option Value → mH → Prop} {X : String → mH → Prop} (h : mH) {o : Int32 × mH} (E : g_X12_areNot_33  h = some o) (hK : (fiI Q) o) : mW l G m_X12_areNot 3 0 0 33 [none, none, none] [] h Q X := by
  unfold g_X12_areNot_33 at E
  refine q_iconst dX12_areNot_33 ?_
  exact r_fewer [none, none, none] (ls_n (ls_n (ls_n ls_0))) (s_X12_areNot_34 (Int32.ofInt 0) h E hK)
set_option maxRecDepth 100000 in
set_option maxHeartbeats 4000000 in
theorem s_X12_areNot_21 {l : Launch} {G : va_G × (Nat → ClassId)} {Q : Option Value → mH → Prop} {X : String → mH → Prop} (p0 : Nat) (h : mH) {o : Int32 × mH} (E : g_X12_areNot_21 p0 h = some o) (hK : (fiI Q) o) : mW l G m_X12_areNot 3 0 0 21 [some (.ref p0), none, none] [] h Q X := by
  unfold g_X12_areNot_21 at E
  refine q_aload_n dX12_areNot_21 rfl ?_
  refine q_iconst dX12_areNot_22 ?_
  obtain ⟨g3, E⟩ := grd_some E
  obtain ⟨x2, h1, hc, E⟩ := cal_some E
  refine r_callV1 (mc := 0) (ms := 0) dX12_areNot_23 KX12_196 (c_X12_fails hc) g3 (by decide) (Nat.le_of_ble_eq_true rfl) (fun _ _ q => q.elim) ?_
  rintro _ _ ⟨rfl, rfl⟩
  clear hc
  refine q_if_ne (tgt := 33) dX12_areNot_26 (by decide) (fun z4 => ?_) (fun z4 => ?_)
  · replace E := ite_f E z4
    exact r_fewer [none, none, none] (ls_n (ls_n (ls_n ls_0))) (s_X12_areNot_33 h1 E hK)
  · replace E := ite_t E z4
    refine q_iconst dX12_areNot_29 ?_
    refine q_goto (tgt := 34) dX12_areNot_30 (by decide) ?_
    exact r_fewer [none, none, none] (ls_n (ls_n (ls_n ls_0))) (s_X12_areNot_34 (Int32.ofInt 1) h1 E hK)
set_option maxRecDepth 100000 in
set_option maxHeartbeats 4000000 in
theorem s_X12_areNot_0 {l : Launch} {G : va_G × (Nat → ClassId)} {Q : Option Value → mH → Prop} {X : String → mH → Prop} (p0 : Nat) (v1 : Int32) (v2 : Int32) (h : mH) {o : Int32 × mH} (E : f_X12_areNot p0 v1 v2 h = some o) (hK : (fiI Q) o) : mW l G m_X12_areNot 3 0 0 0 [some (.ref p0), some (.int v1), some (.int v2)] [] h Q X := by
  unfold f_X12_areNot at E
  refine q_aload_n dX12_areNot_0 rfl ?_
  refine q_iconst dX12_areNot_1 ?_
  obtain ⟨g1, E⟩ := grd_some E
  obtain ⟨h2, eh2, E⟩ := bnd_x E
  refine r_putI (hh := eh2) dX12_areNot_2 FX12_117 g1 rfl rfl ?_
  refine q_aload_n dX12_areNot_5 rfl ?_
  refine q_iload_n dX12_areNot_6 rfl ?_
  obtain ⟨g5, E⟩ := grd_some E
  obtain ⟨x4, h3, hc, E⟩ := cal_some E
  refine r_callV1 (mc := 0) (ms := 0) dX12_areNot_7 KX12_211 (c_X12_holds hc) g5 (by decide) (Nat.le_of_ble_eq_true rfl) (fun _ _ q => q.elim) ?_
  rintro _ _ ⟨rfl, rfl⟩
  clear hc
  refine q_if_eq (tgt := 21) dX12_areNot_10 (by decide) (fun z6 => ?_) (fun z6 => ?_)
  · replace E := ite_t E z6
    exact r_fewer [some (.ref p0), none, none] (ls_s (ls_n (ls_n ls_0))) (s_X12_areNot_21 p0 h3 E hK)
  · replace E := ite_f E z6
    refine q_aload_n dX12_areNot_13 rfl ?_
    refine q_iload_n dX12_areNot_14 rfl ?_
    obtain ⟨g9, E⟩ := grd_some E
    obtain ⟨x8, h7, hc, E⟩ := cal_some E
    refine r_callV1 (mc := 0) (ms := 0) dX12_areNot_15 KX12_211 (c_X12_holds hc) g9 (by decide) (Nat.le_of_ble_eq_true rfl) (fun _ _ q => q.elim) ?_
    rintro _ _ ⟨rfl, rfl⟩
    clear hc
    refine q_if_ne (tgt := 33) dX12_areNot_18 (by decide) (fun z10 => ?_) (fun z10 => ?_)
    · replace E := ite_f E z10
      exact r_fewer [none, none, none] (ls_n (ls_n (ls_n ls_0))) (s_X12_areNot_33 h7 E hK)
    · replace E := ite_t E z10
      exact r_fewer [some (.ref p0), none, none] (ls_s (ls_n (ls_n ls_0))) (s_X12_areNot_21 p0 h7 E hK)
theorem c_X12_areNot {l : Launch} {G : va_G × (Nat → ClassId)} {p0 : Nat} {v1 : Int32} {v2 : Int32} {h h' : mH} {r : Int32} (E : f_X12_areNot p0 v1 v2 h = some (r, h')) : mMet l G m_X12_areNot 3 0 0 [.ref p0, .int v1, .int v2] h (fun v k => v = some (.int r) ∧ h' = k) (fun _ _ => False) :=
  mMet_of (by decide +kernel) rfl (ac_c rfl (ac_c rfl (ac_c rfl ac_0))) (Nat.le_of_ble_eq_true rfl) (s_X12_areNot_0 p0 v1 v2 h E (And.intro rfl rfl))
set_option maxRecDepth 100000 in
set_option maxHeartbeats 4000000 in
theorem s_X12_areEquivalent_26 {l : Launch} {G : va_G × (Nat → ClassId)} {Q : Option Value → mH → Prop} {X : String → mH → Prop} (s0 : Int32) (h : mH) {o : Int32 × mH} (E : g_X12_areEquivalent_26 s0 h = some o) (hK : (fiI Q) o) : mW l G m_X12_areEquivalent 5 0 0 26 [none, none, none] [.int s0] h Q X := by
  unfold g_X12_areEquivalent_26 at E
  obtain ⟨g1, E⟩ := grd_some E
  cases E
  exact q_zreturn dX12_areEquivalent_26 rfl (narZ g1) hK
set_option maxRecDepth 100000 in
set_option maxHeartbeats 4000000 in
theorem s_X12_areEquivalent_0 {l : Launch} {G : va_G × (Nat → ClassId)} {Q : Option Value → mH → Prop} {X : String → mH → Prop} (p0 : Nat) (v1 : Int32) (v2 : Int32) (h : mH) {o : Int32 × mH} (E : f_X12_areEquivalent p0 v1 v2 h = some o) (hK : (fiI Q) o) : mW l G m_X12_areEquivalent 5 0 0 0 [some (.ref p0), some (.int v1), some (.int v2)] [] h Q X := by
  unfold f_X12_areEquivalent at E
  refine q_aload_n dX12_areEquivalent_0 rfl ?_
  refine q_iload_n dX12_areEquivalent_1 rfl ?_
  refine q_iload_n dX12_areEquivalent_2 rfl ?_
  obtain ⟨g3, E⟩ := grd_some E
  obtain ⟨x2, h1, hc, E⟩ := cal_some E
  refine r_callV2 (mc := 0) (ms := 0) dX12_areEquivalent_3 KX12_352 (c_X12_areNot hc) g3 (by decide) (Nat.le_of_ble_eq_true rfl) (fun _ _ q => q.elim) ?_
  rintro _ _ ⟨rfl, rfl⟩
  clear hc
  refine q_if_eq (tgt := 11) dX12_areEquivalent_6 (by decide) (fun z4 => ?_) (fun z4 => ?_)
  · replace E := ite_t E z4
    refine q_aload_n dX12_areEquivalent_11 rfl ?_
    refine q_iload_n dX12_areEquivalent_12 rfl ?_
    refine q_iload_n dX12_areEquivalent_13 rfl ?_
    refine q_iconst dX12_areEquivalent_14 ?_
    obtain ⟨g7, E⟩ := grd_some E
    obtain ⟨x6, h5, hc, E⟩ := cal_some E
    refine r_callV3 (mc := 0) (ms := 0) dX12_areEquivalent_15 KX12_355 (c_X12_apartSlots hc) g7 (by decide) (Nat.le_of_ble_eq_true rfl) (fun _ _ q => q.elim) ?_
    rintro _ _ ⟨rfl, rfl⟩
    clear hc
    refine q_if_ge (tgt := 25) dX12_areEquivalent_18 (by decide) (fun z8 => ?_) (fun z8 => ?_)
    · replace E := ite_t E z8
      refine q_iconst dX12_areEquivalent_25 ?_
      exact r_fewer [none, none, none] (ls_n (ls_n (ls_n ls_0))) (s_X12_areEquivalent_26 (Int32.ofInt 0) h5 E hK)
    · replace E := ite_f E z8
      refine q_iconst dX12_areEquivalent_21 ?_
      refine q_goto (tgt := 26) dX12_areEquivalent_22 (by decide) ?_
      exact r_fewer [none, none, none] (ls_n (ls_n (ls_n ls_0))) (s_X12_areEquivalent_26 (Int32.ofInt 1) h5 E hK)
  · replace E := ite_f E z4
    refine q_iconst dX12_areEquivalent_9 ?_
    cases E
    exact q_zreturn dX12_areEquivalent_10 rfl (by decide) hK
theorem c_X12_areEquivalent {l : Launch} {G : va_G × (Nat → ClassId)} {p0 : Nat} {v1 : Int32} {v2 : Int32} {h h' : mH} {r : Int32} (E : f_X12_areEquivalent p0 v1 v2 h = some (r, h')) : mMet l G m_X12_areEquivalent 5 0 0 [.ref p0, .int v1, .int v2] h (fun v k => v = some (.int r) ∧ h' = k) (fun _ _ => False) :=
  mMet_of (by decide +kernel) rfl (ac_c rfl (ac_c rfl (ac_c rfl ac_0))) (Nat.le_of_ble_eq_true rfl) (s_X12_areEquivalent_0 p0 v1 v2 h E (And.intro rfl rfl))
set_option maxRecDepth 100000 in
set_option maxHeartbeats 4000000 in
theorem s_X12_areEquivalentBySmallest_0 {l : Launch} {G : va_G × (Nat → ClassId)} {Q : Option Value → mH → Prop} {X : String → mH → Prop} (p0 : Nat) (v1 : Int32) (v2 : Int32) (h : mH) {o : Int32 × mH} (E : f_X12_areEquivalentBySmallest p0 v1 v2 h = some o) (hK : (fiI Q) o) : mW l G m_X12_areEquivalentBySmallest 6 0 0 0 [some (.ref p0), some (.int v1), some (.int v2)] [] h Q X := by
  unfold f_X12_areEquivalentBySmallest at E
  refine q_aload_n dX12_areEquivalentBySmallest_0 rfl ?_
  refine q_iload_n dX12_areEquivalentBySmallest_1 rfl ?_
  refine q_iload_n dX12_areEquivalentBySmallest_2 rfl ?_
  obtain ⟨g3, E⟩ := grd_some E
  obtain ⟨x2, h1, hc, E⟩ := cal_some E
  refine r_callV2 (mc := 0) (ms := 0) dX12_areEquivalentBySmallest_3 KX12_358 (c_X12_areEquivalent hc) g3 (by decide) (Nat.le_of_ble_eq_true rfl) (fun _ _ q => q.elim) ?_
  rintro _ _ ⟨rfl, rfl⟩
  clear hc
  obtain ⟨g4, E⟩ := grd_some E
  cases E
  exact q_zreturn dX12_areEquivalentBySmallest_6 rfl (narZ g4) hK
theorem c_X12_areEquivalentBySmallest {l : Launch} {G : va_G × (Nat → ClassId)} {p0 : Nat} {v1 : Int32} {v2 : Int32} {h h' : mH} {r : Int32} (E : f_X12_areEquivalentBySmallest p0 v1 v2 h = some (r, h')) : mMet l G m_X12_areEquivalentBySmallest 6 0 0 [.ref p0, .int v1, .int v2] h (fun v k => v = some (.int r) ∧ h' = k) (fun _ _ => False) :=
  mMet_of (by decide +kernel) rfl (ac_c rfl (ac_c rfl (ac_c rfl ac_0))) (Nat.le_of_ble_eq_true rfl) (s_X12_areEquivalentBySmallest_0 p0 v1 v2 h E (And.intro rfl rfl))
set_option maxRecDepth 100000 in
set_option maxHeartbeats 4000000 in
theorem s_X12_isIncluded_26 {l : Launch} {G : va_G × (Nat → ClassId)} {Q : Option Value → mH → Prop} {X : String → mH → Prop} (s0 : Int32) (h : mH) {o : Int32 × mH} (E : g_X12_isIncluded_26 s0 h = some o) (hK : (fiI Q) o) : mW l G m_X12_isIncluded 5 0 0 26 [none, none, none] [.int s0] h Q X := by
  unfold g_X12_isIncluded_26 at E
  obtain ⟨g1, E⟩ := grd_some E
  cases E
  exact q_zreturn dX12_isIncluded_26 rfl (narZ g1) hK
set_option maxRecDepth 100000 in
set_option maxHeartbeats 4000000 in
theorem s_X12_isIncluded_0 {l : Launch} {G : va_G × (Nat → ClassId)} {Q : Option Value → mH → Prop} {X : String → mH → Prop} (p0 : Nat) (v1 : Int32) (v2 : Int32) (h : mH) {o : Int32 × mH} (E : f_X12_isIncluded p0 v1 v2 h = some o) (hK : (fiI Q) o) : mW l G m_X12_isIncluded 5 0 0 0 [some (.ref p0), some (.int v1), some (.int v2)] [] h Q X := by
  unfold f_X12_isIncluded at E
  refine q_aload_n dX12_isIncluded_0 rfl ?_
  refine q_iload_n dX12_isIncluded_1 rfl ?_
  refine q_iload_n dX12_isIncluded_2 rfl ?_
  obtain ⟨g3, E⟩ := grd_some E
  obtain ⟨x2, h1, hc, E⟩ := cal_some E
  refine r_callV2 (mc := 0) (ms := 0) dX12_isIncluded_3 KX12_352 (c_X12_areNot hc) g3 (by decide) (Nat.le_of_ble_eq_true rfl) (fun _ _ q => q.elim) ?_
  rintro _ _ ⟨rfl, rfl⟩
  clear hc
  refine q_if_eq (tgt := 11) dX12_isIncluded_6 (by decide) (fun z4 => ?_) (fun z4 => ?_)
  · replace E := ite_t E z4
    refine q_aload_n dX12_isIncluded_11 rfl ?_
    refine q_iload_n dX12_isIncluded_12 rfl ?_
    refine q_iload_n dX12_isIncluded_13 rfl ?_
    refine q_iconst dX12_isIncluded_14 ?_
    obtain ⟨g7, E⟩ := grd_some E
    obtain ⟨x6, h5, hc, E⟩ := cal_some E
    refine r_callV3 (mc := 0) (ms := 0) dX12_isIncluded_15 KX12_355 (c_X12_apartSlots hc) g7 (by decide) (Nat.le_of_ble_eq_true rfl) (fun _ _ q => q.elim) ?_
    rintro _ _ ⟨rfl, rfl⟩
    clear hc
    refine q_if_ge (tgt := 25) dX12_isIncluded_18 (by decide) (fun z8 => ?_) (fun z8 => ?_)
    · replace E := ite_t E z8
      refine q_iconst dX12_isIncluded_25 ?_
      exact r_fewer [none, none, none] (ls_n (ls_n (ls_n ls_0))) (s_X12_isIncluded_26 (Int32.ofInt 0) h5 E hK)
    · replace E := ite_f E z8
      refine q_iconst dX12_isIncluded_21 ?_
      refine q_goto (tgt := 26) dX12_isIncluded_22 (by decide) ?_
      exact r_fewer [none, none, none] (ls_n (ls_n (ls_n ls_0))) (s_X12_isIncluded_26 (Int32.ofInt 1) h5 E hK)
  · replace E := ite_f E z4
    refine q_iconst dX12_isIncluded_9 ?_
    cases E
    exact q_zreturn dX12_isIncluded_10 rfl (by decide) hK
theorem c_X12_isIncluded {l : Launch} {G : va_G × (Nat → ClassId)} {p0 : Nat} {v1 : Int32} {v2 : Int32} {h h' : mH} {r : Int32} (E : f_X12_isIncluded p0 v1 v2 h = some (r, h')) : mMet l G m_X12_isIncluded 5 0 0 [.ref p0, .int v1, .int v2] h (fun v k => v = some (.int r) ∧ h' = k) (fun _ _ => False) :=
  mMet_of (by decide +kernel) rfl (ac_c rfl (ac_c rfl (ac_c rfl ac_0))) (Nat.le_of_ble_eq_true rfl) (s_X12_isIncluded_0 p0 v1 v2 h E (And.intro rfl rfl))
set_option maxRecDepth 100000 in
set_option maxHeartbeats 4000000 in
theorem s_X12_differenceLength_0 {l : Launch} {G : va_G × (Nat → ClassId)} {Q : Option Value → mH → Prop} {X : String → mH → Prop} (p0 : Nat) (v1 : Int32) (v2 : Int32) (h : mH) {o : Int32 × mH} (E : f_X12_differenceLength p0 v1 v2 h = some o) (hK : (fiI Q) o) : mW l G m_X12_differenceLength 5 0 0 0 [some (.ref p0), some (.int v1), some (.int v2)] [] h Q X := by
  unfold f_X12_differenceLength at E
  refine q_aload_n dX12_differenceLength_0 rfl ?_
  refine q_iload_n dX12_differenceLength_1 rfl ?_
  refine q_iload_n dX12_differenceLength_2 rfl ?_
  obtain ⟨g3, E⟩ := grd_some E
  obtain ⟨x2, h1, hc, E⟩ := cal_some E
  refine r_callV2 (mc := 0) (ms := 0) dX12_differenceLength_3 KX12_352 (c_X12_areNot hc) g3 (by decide) (Nat.le_of_ble_eq_true rfl) (fun _ _ q => q.elim) ?_
  rintro _ _ ⟨rfl, rfl⟩
  clear hc
  refine q_if_eq (tgt := 11) dX12_differenceLength_6 (by decide) (fun z4 => ?_) (fun z4 => ?_)
  · replace E := ite_t E z4
    refine q_aload_n dX12_differenceLength_11 rfl ?_
    refine q_iload_n dX12_differenceLength_12 rfl ?_
    refine q_iload_n dX12_differenceLength_13 rfl ?_
    refine q_iconst dX12_differenceLength_14 ?_
    obtain ⟨g7, E⟩ := grd_some E
    obtain ⟨x6, h5, hc, E⟩ := cal_some E
    refine r_callV3 (mc := 0) (ms := 0) dX12_differenceLength_15 KX12_355 (c_X12_apartSlots hc) g7 (by decide) (Nat.le_of_ble_eq_true rfl) (fun _ _ q => q.elim) ?_
    rintro _ _ ⟨rfl, rfl⟩
    clear hc
    cases E
    exact q_ireturn dX12_differenceLength_18 rfl hK
  · replace E := ite_f E z4
    refine q_iconst dX12_differenceLength_9 ?_
    cases E
    exact q_ireturn dX12_differenceLength_10 rfl hK
theorem c_X12_differenceLength {l : Launch} {G : va_G × (Nat → ClassId)} {p0 : Nat} {v1 : Int32} {v2 : Int32} {h h' : mH} {r : Int32} (E : f_X12_differenceLength p0 v1 v2 h = some (r, h')) : mMet l G m_X12_differenceLength 5 0 0 [.ref p0, .int v1, .int v2] h (fun v k => v = some (.int r) ∧ h' = k) (fun _ _ => False) :=
  mMet_of (by decide +kernel) rfl (ac_c rfl (ac_c rfl (ac_c rfl ac_0))) (Nat.le_of_ble_eq_true rfl) (s_X12_differenceLength_0 p0 v1 v2 h E (And.intro rfl rfl))
set_option maxRecDepth 100000 in
set_option maxHeartbeats 4000000 in
theorem s_X12_isAhead_35 {l : Launch} {G : va_G × (Nat → ClassId)} {Q : Option Value → mH → Prop} {X : String → mH → Prop} (s0 : Int32) (h : mH) {o : Int32 × mH} (E : g_X12_isAhead_35 s0 h = some o) (hK : (fiI Q) o) : mW l G m_X12_isAhead 2 0 0 35 [none, none, none] [.int s0] h Q X := by
  unfold g_X12_isAhead_35 at E
  obtain ⟨g1, E⟩ := grd_some E
  cases E
  exact q_zreturn dX12_isAhead_35 rfl (narZ g1) hK
set_option maxRecDepth 100000 in
set_option maxHeartbeats 4000000 in
theorem s_X12_isAhead_80 {l : Launch} {G : va_G × (Nat → ClassId)} {Q : Option Value → mH → Prop} {X : String → mH → Prop} (s0 : Int32) (h : mH) {o : Int32 × mH} (E : g_X12_isAhead_80 s0 h = some o) (hK : (fiI Q) o) : mW l G m_X12_isAhead 2 0 0 80 [none, none, none] [.int s0] h Q X := by
  unfold g_X12_isAhead_80 at E
  obtain ⟨g1, E⟩ := grd_some E
  cases E
  exact q_zreturn dX12_isAhead_80 rfl (narZ g1) hK
set_option maxRecDepth 100000 in
set_option maxHeartbeats 4000000 in
theorem s_X12_isAhead_0 {l : Launch} {G : va_G × (Nat → ClassId)} {Q : Option Value → mH → Prop} {X : String → mH → Prop} (p0 : Nat) (v1 : Int32) (v2 : Int32) (h : mH) {o : Int32 × mH} (E : f_X12_isAhead p0 v1 v2 h = some o) (hK : (fiI Q) o) : mW l G m_X12_isAhead 2 0 0 0 [some (.ref p0), some (.int v1), some (.int v2)] [] h Q X := by
  unfold f_X12_isAhead at E
  refine q_aload_n dX12_isAhead_0 rfl ?_
  obtain ⟨g1, E⟩ := grd_some E
  obtain ⟨a2, ea2, E⟩ := orf_some E
  refine r_getR dX12_isAhead_1 FX12_102 g1 ea2 ?_
  refine q_iload_n dX12_isAhead_4 rfl ?_
  obtain ⟨g3, E⟩ := grd_some E
  obtain ⟨g4, E⟩ := grd_some E
  refine r_iaload dX12_isAhead_5 g3 g4 ?_
  refine q_aload_n dX12_isAhead_6 rfl ?_
  refine r_getR dX12_isAhead_7 FX12_102 g1 ea2 ?_
  refine q_iload_n dX12_isAhead_10 rfl ?_
  obtain ⟨g6, E⟩ := grd_some E
  refine r_iaload dX12_isAhead_11 g3 g6 ?_
  refine q_icmp_eq (tgt := 36) dX12_isAhead_12 (by decide) (fun z7 => ?_) (fun z7 => ?_)
  · replace E := ite_t E z7
    refine q_aload_n dX12_isAhead_36 rfl ?_
    refine q_iload_n dX12_isAhead_37 rfl ?_
    obtain ⟨x9, h8, hc, E⟩ := cal_some E
    refine r_callV1 (mc := 0) (ms := 0) dX12_isAhead_38 KX12_319 (c_X12_lettersOf hc) g1 (by decide) (Nat.le_of_ble_eq_true rfl) (fun _ _ q => q.elim) ?_
    rintro _ _ ⟨rfl, rfl⟩
    clear hc
    refine q_aload_n dX12_isAhead_41 rfl ?_
    refine q_iload_n dX12_isAhead_42 rfl ?_
    obtain ⟨g12, E⟩ := grd_some E
    obtain ⟨x11, h10, hc, E⟩ := cal_some E
    refine r_callV1 (mc := 0) (ms := 0) dX12_isAhead_43 KX12_319 (c_X12_lettersOf hc) g12 (by decide) (Nat.le_of_ble_eq_true rfl) (fun _ _ q => q.elim) ?_
    rintro _ _ ⟨rfl, rfl⟩
    clear hc
    refine q_icmp_eq (tgt := 70) dX12_isAhead_46 (by decide) (fun z13 => ?_) (fun z13 => ?_)
    · replace E := ite_t E z13
      refine q_iload_n dX12_isAhead_70 rfl ?_
      refine q_iload_n dX12_isAhead_71 rfl ?_
      refine q_icmp_ge (tgt := 79) dX12_isAhead_72 (by decide) (fun z14 => ?_) (fun z14 => ?_)
      · replace E := ite_t E z14
        refine q_iconst dX12_isAhead_79 ?_
        exact r_fewer [none, none, none] (ls_n (ls_n (ls_n ls_0))) (s_X12_isAhead_80 (Int32.ofInt 0) h10 E hK)
      · replace E := ite_f E z14
        refine q_iconst dX12_isAhead_75 ?_
        refine q_goto (tgt := 80) dX12_isAhead_76 (by decide) ?_
        exact r_fewer [none, none, none] (ls_n (ls_n (ls_n ls_0))) (s_X12_isAhead_80 (Int32.ofInt 1) h10 E hK)
    · replace E := ite_f E z13
      refine q_aload_n dX12_isAhead_49 rfl ?_
      refine q_iload_n dX12_isAhead_50 rfl ?_
      obtain ⟨g17, E⟩ := grd_some E
      obtain ⟨x16, h15, hc, E⟩ := cal_some E
      refine r_callV1 (mc := 0) (ms := 0) dX12_isAhead_51 KX12_319 (c_X12_lettersOf hc) g17 (by decide) (Nat.le_of_ble_eq_true rfl) (fun _ _ q => q.elim) ?_
      rintro _ _ ⟨rfl, rfl⟩
      clear hc
      refine q_aload_n dX12_isAhead_54 rfl ?_
      refine q_iload_n dX12_isAhead_55 rfl ?_
      obtain ⟨g20, E⟩ := grd_some E
      obtain ⟨x19, h18, hc, E⟩ := cal_some E
      refine r_callV1 (mc := 0) (ms := 0) dX12_isAhead_56 KX12_319 (c_X12_lettersOf hc) g20 (by decide) (Nat.le_of_ble_eq_true rfl) (fun _ _ q => q.elim) ?_
      rintro _ _ ⟨rfl, rfl⟩
      clear hc
      refine q_icmp_ge (tgt := 66) dX12_isAhead_59 (by decide) (fun z21 => ?_) (fun z21 => ?_)
      · replace E := ite_t E z21
        refine q_iconst dX12_isAhead_66 ?_
        refine q_goto (tgt := 80) dX12_isAhead_67 (by decide) ?_
        exact r_fewer [none, none, none] (ls_n (ls_n (ls_n ls_0))) (s_X12_isAhead_80 (Int32.ofInt 0) h18 E hK)
      · replace E := ite_f E z21
        refine q_iconst dX12_isAhead_62 ?_
        refine q_goto (tgt := 80) dX12_isAhead_63 (by decide) ?_
        exact r_fewer [none, none, none] (ls_n (ls_n (ls_n ls_0))) (s_X12_isAhead_80 (Int32.ofInt 1) h18 E hK)
  · replace E := ite_f E z7
    refine q_aload_n dX12_isAhead_15 rfl ?_
    refine r_getR dX12_isAhead_16 FX12_102 g1 ea2 ?_
    refine q_iload_n dX12_isAhead_19 rfl ?_
    refine r_iaload dX12_isAhead_20 g3 g4 ?_
    refine q_aload_n dX12_isAhead_21 rfl ?_
    refine r_getR dX12_isAhead_22 FX12_102 g1 ea2 ?_
    refine q_iload_n dX12_isAhead_25 rfl ?_
    refine r_iaload dX12_isAhead_26 g3 g6 ?_
    refine q_icmp_ge (tgt := 34) dX12_isAhead_27 (by decide) (fun z24 => ?_) (fun z24 => ?_)
    · replace E := ite_t E z24
      refine q_iconst dX12_isAhead_34 ?_
      exact r_fewer [none, none, none] (ls_n (ls_n (ls_n ls_0))) (s_X12_isAhead_35 (Int32.ofInt 0) h E hK)
    · replace E := ite_f E z24
      refine q_iconst dX12_isAhead_30 ?_
      refine q_goto (tgt := 35) dX12_isAhead_31 (by decide) ?_
      exact r_fewer [none, none, none] (ls_n (ls_n (ls_n ls_0))) (s_X12_isAhead_35 (Int32.ofInt 1) h E hK)
theorem c_X12_isAhead {l : Launch} {G : va_G × (Nat → ClassId)} {p0 : Nat} {v1 : Int32} {v2 : Int32} {h h' : mH} {r : Int32} (E : f_X12_isAhead p0 v1 v2 h = some (r, h')) : mMet l G m_X12_isAhead 2 0 0 [.ref p0, .int v1, .int v2] h (fun v k => v = some (.int r) ∧ h' = k) (fun _ _ => False) :=
  mMet_of (by decide +kernel) rfl (ac_c rfl (ac_c rfl (ac_c rfl ac_0))) (Nat.le_of_ble_eq_true rfl) (s_X12_isAhead_0 p0 v1 v2 h E (And.intro rfl rfl))
set_option maxRecDepth 100000 in
set_option maxHeartbeats 4000000 in
theorem s_X12_slotByStates_35 {l : Launch} {G : va_G × (Nat → ClassId)} {Q : Option Value → mH → Prop} {X : String → mH → Prop} (p0 : Nat) (v1 : Int32) (v2 : Int32) (s0 : Int32) (s1 : Int32) (sp2 : Nat) (h : mH) {o : ((Int32 × mH) ⊕ (Int32 × mH))} (E : g_X12_slotByStates_35 p0 v1 v2 s0 s1 sp2 h = some o) (hK : (lpK (w_X12_slotByStates_7 l G Q X p0 v1) (fiI Q)) o) : mW l G m_X12_slotByStates 5 0 0 35 [some (.ref p0), some (.int v1), some (.int v2), none, none] [.int s0, .int s1, .ref sp2] h Q X := by
  unfold g_X12_slotByStates_35 at E
  obtain ⟨g2, E⟩ := grd_some E
  obtain ⟨g3, E⟩ := grd_some E
  obtain ⟨h1, eh1, E⟩ := bnd_x E
  refine r_iastore (hh := eh1) dX12_slotByStates_35 g2 g3 ?_
  obtain ⟨x4, ex4, E⟩ := bnd_x E
  refine r_iinc (v := x4) dX12_slotByStates_36 rfl ex4 (by decide) (ls' := [some (.ref p0), some (.int v1), some (.int x4), none, none]) rfl ?_
  refine q_goto (tgt := 7) dX12_slotByStates_39 (by decide) ?_
  cases E
  exact r_fewer [some (.ref p0), some (.int v1), some (.int x4), none, none] (ls_s (ls_s (ls_s (ls_n (ls_n ls_0))))) hK
set_option maxRecDepth 100000 in
set_option maxHeartbeats 4000000 in
theorem s_X12_slotByStates_93 {l : Launch} {G : va_G × (Nat → ClassId)} {Q : Option Value → mH → Prop} {X : String → mH → Prop} (p0 : Nat) (v1 : Int32) (v2 : Int32) (v4 : Int32) (s0 : Int32) (s1 : Int32) (h : mH) {o : ((Int32 × Int32 × mH) ⊕ ((Int32 × mH) ⊕ (Int32 × mH)))} (E : g_X12_slotByStates_93 p0 v1 v2 v4 s0 s1 h = some o) (hK : (lpK (w_X12_slotByStates_55 l G Q X p0 v1 v2) (lpK (w_X12_slotByStates_44 l G Q X p0 v1) (fiI Q))) o) : mW l G m_X12_slotByStates 5 0 0 93 [some (.ref p0), some (.int v1), some (.int v2), none, some (.int v4)] [.int s0, .int s1] h Q X := by
  unfold g_X12_slotByStates_93 at E
  refine q_iadd dX12_slotByStates_93 ?_
  obtain ⟨x1, ex1, E⟩ := bnd_x E
  refine r_istore_n dX12_slotByStates_94 (by decide) ex1 (ls' := [some (.ref p0), some (.int v1), some (.int v2), some (.int x1), some (.int v4)]) rfl ?_
  obtain ⟨x2, ex2, E⟩ := bnd_x E
  refine r_iinc (v := x2) dX12_slotByStates_95 rfl ex2 (by decide) (ls' := [some (.ref p0), some (.int v1), some (.int v2), some (.int x1), some (.int x2)]) rfl ?_
  refine q_goto (tgt := 55) dX12_slotByStates_98 (by decide) ?_
  cases E
  exact r_fewer [some (.ref p0), some (.int v1), some (.int v2), some (.int x1), some (.int x2)] (ls_s (ls_s (ls_s (ls_s (ls_s ls_0))))) hK
set_option maxRecDepth 100000 in
set_option maxHeartbeats 4000000 in
theorem s_X12_slotByStates_92 {l : Launch} {G : va_G × (Nat → ClassId)} {Q : Option Value → mH → Prop} {X : String → mH → Prop} (p0 : Nat) (v1 : Int32) (v2 : Int32) (v4 : Int32) (s0 : Int32) (h : mH) {o : ((Int32 × Int32 × mH) ⊕ ((Int32 × mH) ⊕ (Int32 × mH)))} (E : g_X12_slotByStates_92 p0 v1 v2 v4 s0 h = some o) (hK : (lpK (w_X12_slotByStates_55 l G Q X p0 v1 v2) (lpK (w_X12_slotByStates_44 l G Q X p0 v1) (fiI Q))) o) : mW l G m_X12_slotByStates 5 0 0 92 [some (.ref p0), some (.int v1), some (.int v2), none, some (.int v4)] [.int s0] h Q X := by
  unfold g_X12_slotByStates_92 at E
  refine q_iconst dX12_slotByStates_92 ?_
  exact r_fewer [some (.ref p0), some (.int v1), some (.int v2), none, some (.int v4)] (ls_s (ls_s (ls_s (ls_n (ls_s ls_0))))) (s_X12_slotByStates_93 p0 v1 v2 v4 (Int32.ofInt 0) s0 h E hK)
set_option maxRecDepth 100000 in
set_option maxHeartbeats 4000000 in
theorem s_X12_slotByStates_116 {l : Launch} {G : va_G × (Nat → ClassId)} {Q : Option Value → mH → Prop} {X : String → mH → Prop} (p0 : Nat) (v1 : Int32) (v2 : Int32) (h : mH) {o : ((Int32 × mH) ⊕ (Int32 × mH))} (E : g_X12_slotByStates_116 p0 v1 v2 h = some o) (hK : (lpK (w_X12_slotByStates_44 l G Q X p0 v1) (fiI Q)) o) : mW l G m_X12_slotByStates 5 0 0 116 [some (.ref p0), some (.int v1), some (.int v2), none, none] [] h Q X := by
  unfold g_X12_slotByStates_116 at E
  obtain ⟨x1, ex1, E⟩ := bnd_x E
  refine r_iinc (v := x1) dX12_slotByStates_116 rfl ex1 (by decide) (ls' := [some (.ref p0), some (.int v1), some (.int x1), none, none]) rfl ?_
  refine q_goto (tgt := 44) dX12_slotByStates_119 (by decide) ?_
  cases E
  exact r_fewer [some (.ref p0), some (.int v1), some (.int x1), none, none] (ls_s (ls_s (ls_s (ls_n (ls_n ls_0))))) hK
set_option maxRecDepth 100000 in
set_option maxHeartbeats 4000000 in
theorem sb_X12_slotByStates_55 {l : Launch} {G : va_G × (Nat → ClassId)} {Q : Option Value → mH → Prop} {X : String → mH → Prop} (p0 : Nat) (v1 : Int32) (v2 : Int32) (v3 : Int32) (v4 : Int32) (h : mH) {o : ((Int32 × Int32 × mH) ⊕ ((Int32 × mH) ⊕ (Int32 × mH)))} (E : b0_X12_slotByStates_55 p0 v1 v2 v3 v4 h = some o) (hK : (lpK (w_X12_slotByStates_55 l G Q X p0 v1 v2) (lpK (w_X12_slotByStates_44 l G Q X p0 v1) (fiI Q))) o) : mW l G m_X12_slotByStates 5 0 0 55 [some (.ref p0), some (.int v1), some (.int v2), some (.int v3), some (.int v4)] [] h Q X := by
  unfold b0_X12_slotByStates_55 at E
  refine q_iload dX12_slotByStates_55 rfl ?_
  refine q_bipush (v := (Int32.ofInt 6)) dX12_slotByStates_57 (by decide) ?_
  refine q_icmp_ge (tgt := 101) dX12_slotByStates_59 (by decide) (fun z1 => ?_) (fun z1 => ?_)
  · replace E := ite_t E z1
    refine q_aload_n dX12_slotByStates_101 rfl ?_
    refine q_iload_n dX12_slotByStates_102 rfl ?_
    obtain ⟨g4, E⟩ := grd_some E
    obtain ⟨x3, h2, hc, E⟩ := cal_some E
    refine r_callV1 (mc := 0) (ms := 0) dX12_slotByStates_103 KX12_211 (c_X12_holds hc) g4 (by decide) (Nat.le_of_ble_eq_true rfl) (fun _ _ q => q.elim) ?_
    rintro _ _ ⟨rfl, rfl⟩
    clear hc
    refine q_if_eq (tgt := 116) dX12_slotByStates_106 (by decide) (fun z5 => ?_) (fun z5 => ?_)
    · replace E := ite_t E z5
      obtain ⟨o0, E0, rfl⟩ := inrO_some E
      exact r_fewer [some (.ref p0), some (.int v1), some (.int v2), none, none] (ls_s (ls_s (ls_s (ls_n (ls_n ls_0))))) (s_X12_slotByStates_116 p0 v1 v2 h2 E0 hK)
    · replace E := ite_f E z5
      refine q_iload_n dX12_slotByStates_109 rfl ?_
      refine q_iload_n dX12_slotByStates_110 rfl ?_
      refine q_icmp_ne (tgt := 116) dX12_slotByStates_111 (by decide) (fun z6 => ?_) (fun z6 => ?_)
      · replace E := ite_f E z6
        obtain ⟨o0, E0, rfl⟩ := inrO_some E
        exact r_fewer [some (.ref p0), some (.int v1), some (.int v2), none, none] (ls_s (ls_s (ls_s (ls_n (ls_n ls_0))))) (s_X12_slotByStates_116 p0 v1 v2 h2 E0 hK)
      · replace E := ite_t E z6
        refine q_iload_n dX12_slotByStates_114 rfl ?_
        cases E
        exact q_ireturn dX12_slotByStates_115 rfl hK
  · replace E := ite_f E z1
    refine q_iload_n dX12_slotByStates_62 rfl ?_
    refine q_iload dX12_slotByStates_63 rfl ?_
    refine q_iload_n dX12_slotByStates_65 rfl ?_
    refine q_icmp_eq (tgt := 92) dX12_slotByStates_66 (by decide) (fun z7 => ?_) (fun z7 => ?_)
    · replace E := ite_t E z7
      exact r_fewer [some (.ref p0), some (.int v1), some (.int v2), none, some (.int v4)] (ls_s (ls_s (ls_s (ls_n (ls_s ls_0))))) (s_X12_slotByStates_92 p0 v1 v2 v4 v3 h E hK)
    · replace E := ite_f E z7
      refine q_aload_n dX12_slotByStates_69 rfl ?_
      refine q_iload dX12_slotByStates_70 rfl ?_
      obtain ⟨g10, E⟩ := grd_some E
      obtain ⟨x9, h8, hc, E⟩ := cal_some E
      refine r_callV1 (mc := 0) (ms := 0) dX12_slotByStates_72 KX12_211 (c_X12_holds hc) g10 (by decide) (Nat.le_of_ble_eq_true rfl) (fun _ _ q => q.elim) ?_
      rintro _ _ ⟨rfl, rfl⟩
      clear hc
      refine q_if_eq (tgt := 92) dX12_slotByStates_75 (by decide) (fun z11 => ?_) (fun z11 => ?_)
      · replace E := ite_t E z11
        exact r_fewer [some (.ref p0), some (.int v1), some (.int v2), none, some (.int v4)] (ls_s (ls_s (ls_s (ls_n (ls_s ls_0))))) (s_X12_slotByStates_92 p0 v1 v2 v4 v3 h8 E hK)
      · replace E := ite_f E z11
        refine q_aload_n dX12_slotByStates_78 rfl ?_
        refine q_iload dX12_slotByStates_79 rfl ?_
        refine q_iload_n dX12_slotByStates_81 rfl ?_
        obtain ⟨g14, E⟩ := grd_some E
        obtain ⟨x13, h12, hc, E⟩ := cal_some E
        refine r_callV2 (mc := 0) (ms := 0) dX12_slotByStates_82 KX12_361 (c_X12_isAhead hc) g14 (by decide) (Nat.le_of_ble_eq_true rfl) (fun _ _ q => q.elim) ?_
        rintro _ _ ⟨rfl, rfl⟩
        clear hc
        refine q_if_eq (tgt := 92) dX12_slotByStates_85 (by decide) (fun z15 => ?_) (fun z15 => ?_)
        · replace E := ite_t E z15
          exact r_fewer [some (.ref p0), some (.int v1), some (.int v2), none, some (.int v4)] (ls_s (ls_s (ls_s (ls_n (ls_s ls_0))))) (s_X12_slotByStates_92 p0 v1 v2 v4 v3 h12 E hK)
        · replace E := ite_f E z15
          refine q_iconst dX12_slotByStates_88 ?_
          refine q_goto (tgt := 93) dX12_slotByStates_89 (by decide) ?_
          exact r_fewer [some (.ref p0), some (.int v1), some (.int v2), none, some (.int v4)] (ls_s (ls_s (ls_s (ls_n (ls_s ls_0))))) (s_X12_slotByStates_93 p0 v1 v2 v4 (Int32.ofInt 1) v3 h12 E hK)
theorem s_X12_slotByStates_55 {l : Launch} {G : va_G × (Nat → ClassId)} {Q : Option Value → mH → Prop} {X : String → mH → Prop} (p0 : Nat) (v1 : Int32) (v2 : Int32) (v3 : Int32) (v4 : Int32) (h : mH) {o : ((Int32 × mH) ⊕ (Int32 × mH))} (E : g_X12_slotByStates_55 p0 v1 v2 v3 v4 h = some o) (hK : (lpK (w_X12_slotByStates_44 l G Q X p0 v1) (fiI Q)) o) : mW l G m_X12_slotByStates 5 0 0 55 [some (.ref p0), some (.int v1), some (.int v2), some (.int v3), some (.int v4)] [] h Q X :=
  (lp_go (w_X12_slotByStates_55 l G Q X p0 v1 v2) (lpK (w_X12_slotByStates_44 l G Q X p0 v1) (fiI Q)) (b_X12_slotByStates_55 p0 v1 v2) (fun s o E hK => sb_X12_slotByStates_55 p0 v1 v2 s.1 s.2.1 (s.2.2) E hK) _ _ _ E hK : w_X12_slotByStates_55 l G Q X p0 v1 v2 (v3, v4, h))
set_option maxRecDepth 100000 in
set_option maxHeartbeats 4000000 in
theorem sb_X12_slotByStates_44 {l : Launch} {G : va_G × (Nat → ClassId)} {Q : Option Value → mH → Prop} {X : String → mH → Prop} (p0 : Nat) (v1 : Int32) (v2 : Int32) (h : mH) {o : ((Int32 × mH) ⊕ (Int32 × mH))} (E : b0_X12_slotByStates_44 p0 v1 v2 h = some o) (hK : (lpK (w_X12_slotByStates_44 l G Q X p0 v1) (fiI Q)) o) : mW l G m_X12_slotByStates 5 0 0 44 [some (.ref p0), some (.int v1), some (.int v2), none, none] [] h Q X := by
  unfold b0_X12_slotByStates_44 at E
  refine q_iload_n dX12_slotByStates_44 rfl ?_
  refine q_bipush (v := (Int32.ofInt 6)) dX12_slotByStates_45 (by decide) ?_
  refine q_icmp_ge (tgt := 122) dX12_slotByStates_47 (by decide) (fun z1 => ?_) (fun z1 => ?_)
  · replace E := ite_t E z1
    refine q_aload_n dX12_slotByStates_122 rfl ?_
    refine q_iconst dX12_slotByStates_123 ?_
    obtain ⟨g4, E⟩ := grd_some E
    obtain ⟨x3, h2, hc, E⟩ := cal_some E
    refine r_callV1 (mc := 0) (ms := 0) dX12_slotByStates_124 KX12_196 (c_X12_fails hc) g4 (by decide) (Nat.le_of_ble_eq_true rfl) (fun _ _ q => q.elim) ?_
    rintro _ _ ⟨rfl, rfl⟩
    clear hc
    cases E
    exact q_ireturn dX12_slotByStates_127 rfl hK
  · replace E := ite_f E z1
    refine q_iconst dX12_slotByStates_50 ?_
    refine r_istore_n dX12_slotByStates_51 (by decide) rfl (ls' := [some (.ref p0), some (.int v1), some (.int v2), some (.int (Int32.ofInt 0)), none]) rfl ?_
    refine q_iconst dX12_slotByStates_52 ?_
    refine r_istore dX12_slotByStates_53 (by decide) rfl (ls' := [some (.ref p0), some (.int v1), some (.int v2), some (.int (Int32.ofInt 0)), some (.int (Int32.ofInt 0))]) rfl ?_
    exact r_fewer [some (.ref p0), some (.int v1), some (.int v2), some (.int (Int32.ofInt 0)), some (.int (Int32.ofInt 0))] (ls_s (ls_s (ls_s (ls_s (ls_s ls_0))))) (s_X12_slotByStates_55 p0 v1 v2 (Int32.ofInt 0) (Int32.ofInt 0) h E hK)
theorem s_X12_slotByStates_44 {l : Launch} {G : va_G × (Nat → ClassId)} {Q : Option Value → mH → Prop} {X : String → mH → Prop} (p0 : Nat) (v1 : Int32) (v2 : Int32) (h : mH) {o : Int32 × mH} (E : g_X12_slotByStates_44 p0 v1 v2 h = some o) (hK : (fiI Q) o) : mW l G m_X12_slotByStates 5 0 0 44 [some (.ref p0), some (.int v1), some (.int v2), none, none] [] h Q X :=
  (lp_go (w_X12_slotByStates_44 l G Q X p0 v1) (fiI Q) (b_X12_slotByStates_44 p0 v1) (fun s o E hK => sb_X12_slotByStates_44 p0 v1 s.1 (s.2) E hK) _ _ _ E hK : w_X12_slotByStates_44 l G Q X p0 v1 (v2, h))
set_option maxRecDepth 100000 in
set_option maxHeartbeats 4000000 in
theorem sb_X12_slotByStates_7 {l : Launch} {G : va_G × (Nat → ClassId)} {Q : Option Value → mH → Prop} {X : String → mH → Prop} (p0 : Nat) (v1 : Int32) (v2 : Int32) (h : mH) {o : ((Int32 × mH) ⊕ (Int32 × mH))} (E : b0_X12_slotByStates_7 p0 v1 v2 h = some o) (hK : (lpK (w_X12_slotByStates_7 l G Q X p0 v1) (fiI Q)) o) : mW l G m_X12_slotByStates 5 0 0 7 [some (.ref p0), some (.int v1), some (.int v2), none, none] [] h Q X := by
  unfold b0_X12_slotByStates_7 at E
  refine q_iload_n dX12_slotByStates_7 rfl ?_
  refine q_bipush (v := (Int32.ofInt 6)) dX12_slotByStates_8 (by decide) ?_
  refine q_icmp_ge (tgt := 42) dX12_slotByStates_10 (by decide) (fun z1 => ?_) (fun z1 => ?_)
  · replace E := ite_t E z1
    refine q_iconst dX12_slotByStates_42 ?_
    refine r_istore_n dX12_slotByStates_43 (by decide) rfl (ls' := [some (.ref p0), some (.int v1), some (.int (Int32.ofInt 0)), none, none]) rfl ?_
    obtain ⟨o0, E0, rfl⟩ := inrO_some E
    exact r_fewer [some (.ref p0), some (.int v1), some (.int (Int32.ofInt 0)), none, none] (ls_s (ls_s (ls_s (ls_n (ls_n ls_0))))) (s_X12_slotByStates_44 p0 v1 (Int32.ofInt 0) h E0 hK)
  · replace E := ite_f E z1
    refine q_aload_n dX12_slotByStates_13 rfl ?_
    obtain ⟨g2, E⟩ := grd_some E
    obtain ⟨a3, ea3, E⟩ := orf_some E
    refine r_getR dX12_slotByStates_14 FX12_102 g2 ea3 ?_
    refine q_iload_n dX12_slotByStates_17 rfl ?_
    refine q_aload_n dX12_slotByStates_18 rfl ?_
    refine q_iload_n dX12_slotByStates_19 rfl ?_
    obtain ⟨x5, h4, hc, E⟩ := cal_some E
    refine r_callV1 (mc := 0) (ms := 0) dX12_slotByStates_20 KX12_211 (c_X12_holds hc) g2 (by decide) (Nat.le_of_ble_eq_true rfl) (fun _ _ q => q.elim) ?_
    rintro _ _ ⟨rfl, rfl⟩
    clear hc
    refine q_if_eq (tgt := 34) dX12_slotByStates_23 (by decide) (fun z6 => ?_) (fun z6 => ?_)
    · replace E := ite_t E z6
      refine q_iconst dX12_slotByStates_34 ?_
      exact r_fewer [some (.ref p0), some (.int v1), some (.int v2), none, none] (ls_s (ls_s (ls_s (ls_n (ls_n ls_0))))) (s_X12_slotByStates_35 p0 v1 v2 (Int32.ofInt 0) v2 a3 h4 E hK)
    · replace E := ite_f E z6
      refine q_aload_n dX12_slotByStates_26 rfl ?_
      refine q_iload_n dX12_slotByStates_27 rfl ?_
      obtain ⟨g9, E⟩ := grd_some E
      obtain ⟨x8, h7, hc, E⟩ := cal_some E
      refine r_callV1 (mc := 0) (ms := 0) dX12_slotByStates_28 KX12_346 (c_X12_smallest hc) g9 (by decide) (Nat.le_of_ble_eq_true rfl) (fun _ _ q => q.elim) ?_
      rintro _ _ ⟨rfl, rfl⟩
      clear hc
      refine q_goto (tgt := 35) dX12_slotByStates_31 (by decide) ?_
      exact r_fewer [some (.ref p0), some (.int v1), some (.int v2), none, none] (ls_s (ls_s (ls_s (ls_n (ls_n ls_0))))) (s_X12_slotByStates_35 p0 v1 v2 x8 v2 a3 h7 E hK)
theorem s_X12_slotByStates_7 {l : Launch} {G : va_G × (Nat → ClassId)} {Q : Option Value → mH → Prop} {X : String → mH → Prop} (p0 : Nat) (v1 : Int32) (v2 : Int32) (h : mH) {o : Int32 × mH} (E : g_X12_slotByStates_7 p0 v1 v2 h = some o) (hK : (fiI Q) o) : mW l G m_X12_slotByStates 5 0 0 7 [some (.ref p0), some (.int v1), some (.int v2), none, none] [] h Q X :=
  (lp_go (w_X12_slotByStates_7 l G Q X p0 v1) (fiI Q) (b_X12_slotByStates_7 p0 v1) (fun s o E hK => sb_X12_slotByStates_7 p0 v1 s.1 (s.2) E hK) _ _ _ E hK : w_X12_slotByStates_7 l G Q X p0 v1 (v2, h))
set_option maxRecDepth 100000 in
set_option maxHeartbeats 4000000 in
theorem s_X12_slotByStates_0 {l : Launch} {G : va_G × (Nat → ClassId)} {Q : Option Value → mH → Prop} {X : String → mH → Prop} (p0 : Nat) (v1 : Int32) (h : mH) {o : Int32 × mH} (E : f_X12_slotByStates p0 v1 h = some o) (hK : (fiI Q) o) : mW l G m_X12_slotByStates 5 0 0 0 [some (.ref p0), some (.int v1), none, none, none] [] h Q X := by
  unfold f_X12_slotByStates at E
  refine q_aload_n dX12_slotByStates_0 rfl ?_
  refine q_iconst dX12_slotByStates_1 ?_
  obtain ⟨g1, E⟩ := grd_some E
  obtain ⟨h2, eh2, E⟩ := bnd_x E
  refine r_putI (hh := eh2) dX12_slotByStates_2 FX12_117 g1 rfl rfl ?_
  refine q_iconst dX12_slotByStates_5 ?_
  refine r_istore_n dX12_slotByStates_6 (by decide) rfl (ls' := [some (.ref p0), some (.int v1), some (.int (Int32.ofInt 0)), none, none]) rfl ?_
  exact r_fewer [some (.ref p0), some (.int v1), some (.int (Int32.ofInt 0)), none, none] (ls_s (ls_s (ls_s (ls_n (ls_n ls_0))))) (s_X12_slotByStates_7 p0 v1 (Int32.ofInt 0) h2 E hK)
theorem c_X12_slotByStates {l : Launch} {G : va_G × (Nat → ClassId)} {p0 : Nat} {v1 : Int32} {h h' : mH} {r : Int32} (E : f_X12_slotByStates p0 v1 h = some (r, h')) : mMet l G m_X12_slotByStates 5 0 0 [.ref p0, .int v1] h (fun v k => v = some (.int r) ∧ h' = k) (fun _ _ => False) :=
  mMet_of (by decide +kernel) rfl (ac_c rfl (ac_c rfl ac_0)) (Nat.le_of_ble_eq_true rfl) (s_X12_slotByStates_0 p0 v1 h E (And.intro rfl rfl))
set_option maxRecDepth 100000 in
set_option maxHeartbeats 4000000 in
theorem s_X12_wordCount_0 {l : Launch} {G : va_G × (Nat → ClassId)} {Q : Option Value → mH → Prop} {X : String → mH → Prop} (p0 : Nat) (h : mH) {o : Int32 × mH} (E : f_X12_wordCount p0 h = some o) (hK : (fiI Q) o) : mW l G m_X12_wordCount 0 0 0 0 [some (.ref p0)] [] h Q X := by
  unfold f_X12_wordCount at E
  refine q_aload_n dX12_wordCount_0 rfl ?_
  refine q_iconst dX12_wordCount_1 ?_
  obtain ⟨g1, E⟩ := grd_some E
  obtain ⟨h2, eh2, E⟩ := bnd_x E
  refine r_putI (hh := eh2) dX12_wordCount_2 FX12_117 g1 rfl rfl ?_
  refine q_aload_n dX12_wordCount_5 rfl ?_
  obtain ⟨g3, E⟩ := grd_some E
  obtain ⟨a4, ea4, E⟩ := orf_some E
  refine r_getR dX12_wordCount_6 FX12_7 g3 ea4 ?_
  refine q_iconst dX12_wordCount_9 ?_
  obtain ⟨g5, E⟩ := grd_some E
  obtain ⟨g6, E⟩ := grd_some E
  refine r_iaload dX12_wordCount_10 g5 g6 ?_
  cases E
  exact q_ireturn dX12_wordCount_11 rfl hK
theorem c_X12_wordCount {l : Launch} {G : va_G × (Nat → ClassId)} {p0 : Nat} {h h' : mH} {r : Int32} (E : f_X12_wordCount p0 h = some (r, h')) : mMet l G m_X12_wordCount 0 0 0 [.ref p0] h (fun v k => v = some (.int r) ∧ h' = k) (fun _ _ => False) :=
  mMet_of (by decide +kernel) rfl (ac_c rfl ac_0) (Nat.le_of_ble_eq_true rfl) (s_X12_wordCount_0 p0 h E (And.intro rfl rfl))
set_option maxRecDepth 100000 in
set_option maxHeartbeats 4000000 in
theorem s_X12_wordLength_34 {l : Launch} {G : va_G × (Nat → ClassId)} {Q : Option Value → mH → Prop} {X : String → mH → Prop} (s0 : Int32) (h : mH) {o : Int32 × mH} (E : g_X12_wordLength_34 s0 h = some o) (hK : (fiI Q) o) : mW l G m_X12_wordLength 2 0 0 34 [none, none] [.int s0] h Q X := by
  unfold g_X12_wordLength_34 at E
  cases E
  exact q_ireturn dX12_wordLength_34 rfl hK
set_option maxRecDepth 100000 in
set_option maxHeartbeats 4000000 in
theorem s_X12_wordLength_0 {l : Launch} {G : va_G × (Nat → ClassId)} {Q : Option Value → mH → Prop} {X : String → mH → Prop} (p0 : Nat) (v1 : Int32) (h : mH) {o : Int32 × mH} (E : f_X12_wordLength p0 v1 h = some o) (hK : (fiI Q) o) : mW l G m_X12_wordLength 2 0 0 0 [some (.ref p0), some (.int v1)] [] h Q X := by
  unfold f_X12_wordLength at E
  refine q_aload_n dX12_wordLength_0 rfl ?_
  refine q_iconst dX12_wordLength_1 ?_
  obtain ⟨g1, E⟩ := grd_some E
  obtain ⟨h2, eh2, E⟩ := bnd_x E
  refine r_putI (hh := eh2) dX12_wordLength_2 FX12_117 g1 rfl rfl ?_
  refine q_aload_n dX12_wordLength_5 rfl ?_
  refine q_iload_n dX12_wordLength_6 rfl ?_
  obtain ⟨g5, E⟩ := grd_some E
  obtain ⟨x4, h3, hc, E⟩ := cal_some E
  refine r_callV1 (mc := 0) (ms := 0) dX12_wordLength_7 KX12_250 (c_X12_isWord hc) g5 (by decide) (Nat.le_of_ble_eq_true rfl) (fun _ _ q => q.elim) ?_
  rintro _ _ ⟨rfl, rfl⟩
  clear hc
  refine q_if_eq (tgt := 29) dX12_wordLength_10 (by decide) (fun z6 => ?_) (fun z6 => ?_)
  · replace E := ite_t E z6
    refine q_aload_n dX12_wordLength_29 rfl ?_
    refine q_iconst dX12_wordLength_30 ?_
    obtain ⟨g9, E⟩ := grd_some E
    obtain ⟨x8, h7, hc, E⟩ := cal_some E
    refine r_callV1 (mc := 0) (ms := 0) dX12_wordLength_31 KX12_196 (c_X12_fails hc) g9 (by decide) (Nat.le_of_ble_eq_true rfl) (fun _ _ q => q.elim) ?_
    rintro _ _ ⟨rfl, rfl⟩
    clear hc
    exact r_fewer [none, none] (ls_n (ls_n ls_0)) (s_X12_wordLength_34 x8 h7 E hK)
  · replace E := ite_f E z6
    refine q_aload_n dX12_wordLength_13 rfl ?_
    obtain ⟨g10, E⟩ := grd_some E
    obtain ⟨a11, ea11, E⟩ := orf_some E
    refine r_getR dX12_wordLength_14 FX12_7 g10 ea11 ?_
    refine q_sipush (v := (Int32.ofInt 176)) dX12_wordLength_17 (by decide) ?_
    refine q_bipush (v := (Int32.ofInt 9)) dX12_wordLength_20 (by decide) ?_
    refine q_iload_n dX12_wordLength_22 rfl ?_
    refine q_imul dX12_wordLength_23 ?_
    refine q_iadd dX12_wordLength_24 ?_
    obtain ⟨g12, E⟩ := grd_some E
    obtain ⟨g13, E⟩ := grd_some E
    refine r_iaload dX12_wordLength_25 g12 g13 ?_
    refine q_goto (tgt := 34) dX12_wordLength_26 (by decide) ?_
    exact r_fewer [none, none] (ls_n (ls_n ls_0)) (s_X12_wordLength_34 (gi h3 a11 ((Int32.ofInt 176) + ((Int32.ofInt 9) * v1)).toNatClampNeg) h3 E hK)
theorem c_X12_wordLength {l : Launch} {G : va_G × (Nat → ClassId)} {p0 : Nat} {v1 : Int32} {h h' : mH} {r : Int32} (E : f_X12_wordLength p0 v1 h = some (r, h')) : mMet l G m_X12_wordLength 2 0 0 [.ref p0, .int v1] h (fun v k => v = some (.int r) ∧ h' = k) (fun _ _ => False) :=
  mMet_of (by decide +kernel) rfl (ac_c rfl (ac_c rfl ac_0)) (Nat.le_of_ble_eq_true rfl) (s_X12_wordLength_0 p0 v1 h E (And.intro rfl rfl))
set_option maxRecDepth 100000 in
set_option maxHeartbeats 4000000 in
theorem s_X12_wordLetter_58 {l : Launch} {G : va_G × (Nat → ClassId)} {Q : Option Value → mH → Prop} {X : String → mH → Prop} (p0 : Nat) (h : mH) {o : Int32 × mH} (E : g_X12_wordLetter_58 p0 h = some o) (hK : (fiI Q) o) : mW l G m_X12_wordLetter 2 0 0 58 [some (.ref p0), none, none] [] h Q X := by
  unfold g_X12_wordLetter_58 at E
  refine q_aload_n dX12_wordLetter_58 rfl ?_
  refine q_iconst dX12_wordLetter_59 ?_
  obtain ⟨g3, E⟩ := grd_some E
  obtain ⟨x2, h1, hc, E⟩ := cal_some E
  refine r_callV1 (mc := 0) (ms := 0) dX12_wordLetter_60 KX12_196 (c_X12_fails hc) g3 (by decide) (Nat.le_of_ble_eq_true rfl) (fun _ _ q => q.elim) ?_
  rintro _ _ ⟨rfl, rfl⟩
  clear hc
  refine q_i2c dX12_wordLetter_63 ?_
  obtain ⟨g4, E⟩ := grd_some E
  cases E
  exact q_zreturn dX12_wordLetter_64 rfl (narC g4) hK
set_option maxRecDepth 100000 in
set_option maxHeartbeats 4000000 in
theorem s_X12_wordLetter_0 {l : Launch} {G : va_G × (Nat → ClassId)} {Q : Option Value → mH → Prop} {X : String → mH → Prop} (p0 : Nat) (v1 : Int32) (v2 : Int32) (h : mH) {o : Int32 × mH} (E : f_X12_wordLetter p0 v1 v2 h = some o) (hK : (fiI Q) o) : mW l G m_X12_wordLetter 2 0 0 0 [some (.ref p0), some (.int v1), some (.int v2)] [] h Q X := by
  unfold f_X12_wordLetter at E
  refine q_aload_n dX12_wordLetter_0 rfl ?_
  refine q_iconst dX12_wordLetter_1 ?_
  obtain ⟨g1, E⟩ := grd_some E
  obtain ⟨h2, eh2, E⟩ := bnd_x E
  refine r_putI (hh := eh2) dX12_wordLetter_2 FX12_117 g1 rfl rfl ?_
  refine q_aload_n dX12_wordLetter_5 rfl ?_
  refine q_iload_n dX12_wordLetter_6 rfl ?_
  obtain ⟨g5, E⟩ := grd_some E
  obtain ⟨x4, h3, hc, E⟩ := cal_some E
  refine r_callV1 (mc := 0) (ms := 0) dX12_wordLetter_7 KX12_250 (c_X12_isWord hc) g5 (by decide) (Nat.le_of_ble_eq_true rfl) (fun _ _ q => q.elim) ?_
  rintro _ _ ⟨rfl, rfl⟩
  clear hc
  refine q_if_eq (tgt := 58) dX12_wordLetter_10 (by decide) (fun z6 => ?_) (fun z6 => ?_)
  · replace E := ite_t E z6
    exact r_fewer [some (.ref p0), none, none] (ls_s (ls_n (ls_n ls_0))) (s_X12_wordLetter_58 p0 h3 E hK)
  · replace E := ite_f E z6
    refine q_iload_n dX12_wordLetter_13 rfl ?_
    refine q_iconst dX12_wordLetter_14 ?_
    refine q_aload_n dX12_wordLetter_15 rfl ?_
    obtain ⟨g7, E⟩ := grd_some E
    obtain ⟨a8, ea8, E⟩ := orf_some E
    refine r_getR dX12_wordLetter_16 FX12_7 g7 ea8 ?_
    refine q_sipush (v := (Int32.ofInt 176)) dX12_wordLetter_19 (by decide) ?_
    refine q_bipush (v := (Int32.ofInt 9)) dX12_wordLetter_22 (by decide) ?_
    refine q_iload_n dX12_wordLetter_24 rfl ?_
    refine q_imul dX12_wordLetter_25 ?_
    refine q_iadd dX12_wordLetter_26 ?_
    obtain ⟨g9, E⟩ := grd_some E
    obtain ⟨g10, E⟩ := grd_some E
    refine r_iaload dX12_wordLetter_27 g9 g10 ?_
    refine q_iconst dX12_wordLetter_28 ?_
    refine q_isub dX12_wordLetter_29 ?_
    obtain ⟨x12, h11, hc, E⟩ := cal_some E
    refine r_callS3 (mc := 0) (ms := 0) dX12_wordLetter_30 KX12_132 (c_X12_isBetween hc) (by decide) (Nat.le_of_ble_eq_true rfl) (fun _ _ q => q.elim) ?_
    rintro _ _ ⟨rfl, rfl⟩
    clear hc
    refine q_if_eq (tgt := 58) dX12_wordLetter_33 (by decide) (fun z13 => ?_) (fun z13 => ?_)
    · replace E := ite_t E z13
      exact r_fewer [some (.ref p0), none, none] (ls_s (ls_n (ls_n ls_0))) (s_X12_wordLetter_58 p0 h11 E hK)
    · replace E := ite_f E z13
      refine q_bipush (v := (Int32.ofInt 97)) dX12_wordLetter_36 (by decide) ?_
      refine q_aload_n dX12_wordLetter_38 rfl ?_
      obtain ⟨g14, E⟩ := grd_some E
      obtain ⟨a15, ea15, E⟩ := orf_some E
      refine r_getR dX12_wordLetter_39 FX12_7 g14 ea15 ?_
      refine q_sipush (v := (Int32.ofInt 176)) dX12_wordLetter_42 (by decide) ?_
      refine q_bipush (v := (Int32.ofInt 9)) dX12_wordLetter_45 (by decide) ?_
      refine q_iload_n dX12_wordLetter_47 rfl ?_
      refine q_imul dX12_wordLetter_48 ?_
      refine q_iadd dX12_wordLetter_49 ?_
      refine q_iconst dX12_wordLetter_50 ?_
      refine q_iadd dX12_wordLetter_51 ?_
      refine q_iload_n dX12_wordLetter_52 rfl ?_
      refine q_iadd dX12_wordLetter_53 ?_
      obtain ⟨g16, E⟩ := grd_some E
      obtain ⟨g17, E⟩ := grd_some E
      refine r_iaload dX12_wordLetter_54 g16 g17 ?_
      refine q_iadd dX12_wordLetter_55 ?_
      refine q_i2c dX12_wordLetter_56 ?_
      obtain ⟨g18, E⟩ := grd_some E
      cases E
      exact q_zreturn dX12_wordLetter_57 rfl (narC g18) hK
theorem c_X12_wordLetter {l : Launch} {G : va_G × (Nat → ClassId)} {p0 : Nat} {v1 : Int32} {v2 : Int32} {h h' : mH} {r : Int32} (E : f_X12_wordLetter p0 v1 v2 h = some (r, h')) : mMet l G m_X12_wordLetter 2 0 0 [.ref p0, .int v1, .int v2] h (fun v k => v = some (.int r) ∧ h' = k) (fun _ _ => False) :=
  mMet_of (by decide +kernel) rfl (ac_c rfl (ac_c rfl (ac_c rfl ac_0))) (Nat.le_of_ble_eq_true rfl) (s_X12_wordLetter_0 p0 v1 v2 h E (And.intro rfl rfl))
set_option maxRecDepth 100000 in
set_option maxHeartbeats 4000000 in
theorem s_X12_definedTotal_0 {l : Launch} {G : va_G × (Nat → ClassId)} {Q : Option Value → mH → Prop} {X : String → mH → Prop} (p0 : Nat) (h : mH) {o : Int32 × mH} (E : f_X12_definedTotal p0 h = some o) (hK : (fiI Q) o) : mW l G m_X12_definedTotal 0 0 0 0 [some (.ref p0)] [] h Q X := by
  unfold f_X12_definedTotal at E
  refine q_aload_n dX12_definedTotal_0 rfl ?_
  refine q_iconst dX12_definedTotal_1 ?_
  obtain ⟨g1, E⟩ := grd_some E
  obtain ⟨h2, eh2, E⟩ := bnd_x E
  refine r_putI (hh := eh2) dX12_definedTotal_2 FX12_117 g1 rfl rfl ?_
  refine q_aload_n dX12_definedTotal_5 rfl ?_
  obtain ⟨g3, E⟩ := grd_some E
  obtain ⟨a4, ea4, E⟩ := orf_some E
  refine r_getR dX12_definedTotal_6 FX12_7 g3 ea4 ?_
  refine q_iconst dX12_definedTotal_9 ?_
  obtain ⟨g5, E⟩ := grd_some E
  obtain ⟨g6, E⟩ := grd_some E
  refine r_iaload dX12_definedTotal_10 g5 g6 ?_
  cases E
  exact q_ireturn dX12_definedTotal_11 rfl hK
theorem c_X12_definedTotal {l : Launch} {G : va_G × (Nat → ClassId)} {p0 : Nat} {h h' : mH} {r : Int32} (E : f_X12_definedTotal p0 h = some (r, h')) : mMet l G m_X12_definedTotal 0 0 0 [.ref p0] h (fun v k => v = some (.int r) ∧ h' = k) (fun _ _ => False) :=
  mMet_of (by decide +kernel) rfl (ac_c rfl ac_0) (Nat.le_of_ble_eq_true rfl) (s_X12_definedTotal_0 p0 h E (And.intro rfl rfl))
set_option maxRecDepth 100000 in
set_option maxHeartbeats 4000000 in
theorem sb_X12_meanLetters_23 {l : Launch} {G : va_G × (Nat → ClassId)} {Q : Option Value → mH → Prop} {X : String → mH → Prop} (p0 : Nat) (v1 : Int32) (v2 : Int32) (h : mH) {o : ((Int32 × Int32 × mH) ⊕ (UInt64 × mH))} (E : b0_X12_meanLetters_23 p0 v1 v2 h = some o) (hK : (lpK (w_X12_meanLetters_23 l G Q X p0) (fiD Q)) o) : mW l G m_X12_meanLetters 2 0 0 23 [some (.ref p0), some (.int v1), some (.int v2)] [] h Q X := by
  unfold b0_X12_meanLetters_23 at E
  refine q_iload_n dX12_meanLetters_23 rfl ?_
  refine q_bipush (v := (Int32.ofInt 6)) dX12_meanLetters_24 (by decide) ?_
  refine q_icmp_ge (tgt := 43) dX12_meanLetters_26 (by decide) (fun z1 => ?_) (fun z1 => ?_)
  · replace E := ite_t E z1
    refine q_iload_n dX12_meanLetters_43 rfl ?_
    refine q_i2d dX12_meanLetters_44 ?_
    refine q_aload_n dX12_meanLetters_45 rfl ?_
    obtain ⟨g4, E⟩ := grd_some E
    obtain ⟨x3, h2, hc, E⟩ := cal_some E
    refine r_callV0 (mc := 0) (ms := 0) dX12_meanLetters_46 KX12_227 (c_X12_patterns hc) g4 (by decide) (Nat.le_of_ble_eq_true rfl) (fun _ _ q => q.elim) ?_
    rintro _ _ ⟨rfl, rfl⟩
    clear hc
    refine q_i2d dX12_meanLetters_49 ?_
    obtain ⟨g5, E⟩ := grd_some E
    refine q_ddiv g5 dX12_meanLetters_50 ?_
    cases E
    exact q_dreturn dX12_meanLetters_51 rfl hK
  · replace E := ite_f E z1
    refine q_iload_n dX12_meanLetters_29 rfl ?_
    refine q_aload_n dX12_meanLetters_30 rfl ?_
    refine q_iload_n dX12_meanLetters_31 rfl ?_
    obtain ⟨g8, E⟩ := grd_some E
    obtain ⟨x7, h6, hc, E⟩ := cal_some E
    refine r_callV1 (mc := 0) (ms := 0) dX12_meanLetters_32 KX12_319 (c_X12_lettersOf hc) g8 (by decide) (Nat.le_of_ble_eq_true rfl) (fun _ _ q => q.elim) ?_
    rintro _ _ ⟨rfl, rfl⟩
    clear hc
    refine q_iadd dX12_meanLetters_35 ?_
    obtain ⟨x9, ex9, E⟩ := bnd_x E
    refine r_istore_n dX12_meanLetters_36 (by decide) ex9 (ls' := [some (.ref p0), some (.int x9), some (.int v2)]) rfl ?_
    obtain ⟨x10, ex10, E⟩ := bnd_x E
    refine r_iinc (v := x10) dX12_meanLetters_37 rfl ex10 (by decide) (ls' := [some (.ref p0), some (.int x9), some (.int x10)]) rfl ?_
    refine q_goto (tgt := 23) dX12_meanLetters_40 (by decide) ?_
    cases E
    exact r_fewer [some (.ref p0), some (.int x9), some (.int x10)] (ls_s (ls_s (ls_s ls_0))) hK
theorem s_X12_meanLetters_23 {l : Launch} {G : va_G × (Nat → ClassId)} {Q : Option Value → mH → Prop} {X : String → mH → Prop} (p0 : Nat) (v1 : Int32) (v2 : Int32) (h : mH) {o : UInt64 × mH} (E : g_X12_meanLetters_23 p0 v1 v2 h = some o) (hK : (fiD Q) o) : mW l G m_X12_meanLetters 2 0 0 23 [some (.ref p0), some (.int v1), some (.int v2)] [] h Q X :=
  (lp_go (w_X12_meanLetters_23 l G Q X p0) (fiD Q) (b_X12_meanLetters_23 p0) (fun s o E hK => sb_X12_meanLetters_23 p0 s.1 s.2.1 (s.2.2) E hK) _ _ _ E hK : w_X12_meanLetters_23 l G Q X p0 (v1, v2, h))
set_option maxRecDepth 100000 in
set_option maxHeartbeats 4000000 in
theorem s_X12_meanLetters_0 {l : Launch} {G : va_G × (Nat → ClassId)} {Q : Option Value → mH → Prop} {X : String → mH → Prop} (p0 : Nat) (h : mH) {o : UInt64 × mH} (E : f_X12_meanLetters p0 h = some o) (hK : (fiD Q) o) : mW l G m_X12_meanLetters 2 0 0 0 [some (.ref p0), none, none] [] h Q X := by
  unfold f_X12_meanLetters at E
  refine q_aload_n dX12_meanLetters_0 rfl ?_
  refine q_iconst dX12_meanLetters_1 ?_
  obtain ⟨g1, E⟩ := grd_some E
  obtain ⟨h2, eh2, E⟩ := bnd_x E
  refine r_putI (hh := eh2) dX12_meanLetters_2 FX12_117 g1 rfl rfl ?_
  refine q_aload_n dX12_meanLetters_5 rfl ?_
  obtain ⟨g5, E⟩ := grd_some E
  obtain ⟨x4, h3, hc, E⟩ := cal_some E
  refine r_callV0 (mc := 0) (ms := 0) dX12_meanLetters_6 KX12_227 (c_X12_patterns hc) g5 (by decide) (Nat.le_of_ble_eq_true rfl) (fun _ _ q => q.elim) ?_
  rintro _ _ ⟨rfl, rfl⟩
  clear hc
  refine q_if_ne (tgt := 19) dX12_meanLetters_9 (by decide) (fun z6 => ?_) (fun z6 => ?_)
  · replace E := ite_f E z6
    refine q_iconst dX12_meanLetters_19 ?_
    refine r_istore_n dX12_meanLetters_20 (by decide) rfl (ls' := [some (.ref p0), some (.int (Int32.ofInt 0)), none]) rfl ?_
    refine q_iconst dX12_meanLetters_21 ?_
    refine r_istore_n dX12_meanLetters_22 (by decide) rfl (ls' := [some (.ref p0), some (.int (Int32.ofInt 0)), some (.int (Int32.ofInt 0))]) rfl ?_
    exact r_fewer [some (.ref p0), some (.int (Int32.ofInt 0)), some (.int (Int32.ofInt 0))] (ls_s (ls_s (ls_s ls_0))) (s_X12_meanLetters_23 p0 (Int32.ofInt 0) (Int32.ofInt 0) h3 E hK)
  · replace E := ite_t E z6
    refine q_aload_n dX12_meanLetters_12 rfl ?_
    refine q_iconst dX12_meanLetters_13 ?_
    obtain ⟨g9, E⟩ := grd_some E
    obtain ⟨x8, h7, hc, E⟩ := cal_some E
    refine r_callV1 (mc := 0) (ms := 0) dX12_meanLetters_14 KX12_196 (c_X12_fails hc) g9 (by decide) (Nat.le_of_ble_eq_true rfl) (fun _ _ q => q.elim) ?_
    rintro _ _ ⟨rfl, rfl⟩
    clear hc
    refine q_i2d dX12_meanLetters_17 ?_
    cases E
    exact q_dreturn dX12_meanLetters_18 rfl hK
theorem c_X12_meanLetters {l : Launch} {G : va_G × (Nat → ClassId)} {p0 : Nat} {h h' : mH} {r : UInt64} (E : f_X12_meanLetters p0 h = some (r, h')) : mMet l G m_X12_meanLetters 2 0 0 [.ref p0] h (fun v k => v = some (.double r) ∧ h' = k) (fun _ _ => False) :=
  mMet_of (by decide +kernel) rfl (ac_c rfl ac_0) (Nat.le_of_ble_eq_true rfl) (s_X12_meanLetters_0 p0 h E (And.intro rfl rfl))
set_option maxRecDepth 100000 in
set_option maxHeartbeats 4000000 in
theorem s_X12_acceptedShare_52 {l : Launch} {G : va_G × (Nat → ClassId)} {Q : Option Value → mH → Prop} {X : String → mH → Prop} (sf0 : UInt32) (h : mH) {o : UInt32 × mH} (E : g_X12_acceptedShare_52 sf0 h = some o) (hK : (fiF Q) o) : mW l G m_X12_acceptedShare 4 0 0 52 [none, none] [.float sf0] h Q X := by
  unfold g_X12_acceptedShare_52 at E
  cases E
  exact q_freturn dX12_acceptedShare_52 rfl hK
set_option maxRecDepth 100000 in
set_option maxHeartbeats 4000000 in
theorem s_X12_acceptedShare_0 {l : Launch} {G : va_G × (Nat → ClassId)} {Q : Option Value → mH → Prop} {X : String → mH → Prop} (p0 : Nat) (v1 : Int32) (h : mH) {o : UInt32 × mH} (E : f_X12_acceptedShare p0 v1 h = some o) (hK : (fiF Q) o) : mW l G m_X12_acceptedShare 4 0 0 0 [some (.ref p0), some (.int v1)] [] h Q X := by
  unfold f_X12_acceptedShare at E
  refine q_aload_n dX12_acceptedShare_0 rfl ?_
  refine q_iconst dX12_acceptedShare_1 ?_
  obtain ⟨g1, E⟩ := grd_some E
  obtain ⟨h2, eh2, E⟩ := bnd_x E
  refine r_putI (hh := eh2) dX12_acceptedShare_2 FX12_117 g1 rfl rfl ?_
  refine q_aload_n dX12_acceptedShare_5 rfl ?_
  refine q_iload_n dX12_acceptedShare_6 rfl ?_
  obtain ⟨g5, E⟩ := grd_some E
  obtain ⟨x4, h3, hc, E⟩ := cal_some E
  refine r_callV1 (mc := 0) (ms := 0) dX12_acceptedShare_7 KX12_211 (c_X12_holds hc) g5 (by decide) (Nat.le_of_ble_eq_true rfl) (fun _ _ q => q.elim) ?_
  rintro _ _ ⟨rfl, rfl⟩
  clear hc
  refine q_if_ne (tgt := 20) dX12_acceptedShare_10 (by decide) (fun z6 => ?_) (fun z6 => ?_)
  · replace E := ite_f E z6
    refine q_aload_n dX12_acceptedShare_20 rfl ?_
    obtain ⟨g7, E⟩ := grd_some E
    obtain ⟨a8, ea8, E⟩ := orf_some E
    refine r_getR dX12_acceptedShare_21 FX12_7 g7 ea8 ?_
    refine q_iconst dX12_acceptedShare_24 ?_
    obtain ⟨g9, E⟩ := grd_some E
    obtain ⟨g10, E⟩ := grd_some E
    refine r_iaload dX12_acceptedShare_25 g9 g10 ?_
    refine q_if_ne (tgt := 38) dX12_acceptedShare_26 (by decide) (fun z11 => ?_) (fun z11 => ?_)
    · replace E := ite_f E z11
      refine q_aload_n dX12_acceptedShare_38 rfl ?_
      refine q_iload_n dX12_acceptedShare_39 rfl ?_
      obtain ⟨x13, h12, hc, E⟩ := cal_some E
      refine r_callV1 (mc := 0) (ms := 0) dX12_acceptedShare_40 KX12_337 (c_X12_accepted hc) g7 (by decide) (Nat.le_of_ble_eq_true rfl) (fun _ _ q => q.elim) ?_
      rintro _ _ ⟨rfl, rfl⟩
      clear hc
      refine q_i2f dX12_acceptedShare_43 ?_
      refine q_aload_n dX12_acceptedShare_44 rfl ?_
      obtain ⟨g14, E⟩ := grd_some E
      obtain ⟨a15, ea15, E⟩ := orf_some E
      refine r_getR dX12_acceptedShare_45 FX12_7 g14 ea15 ?_
      refine q_iconst dX12_acceptedShare_48 ?_
      obtain ⟨g16, E⟩ := grd_some E
      obtain ⟨g17, E⟩ := grd_some E
      refine r_iaload dX12_acceptedShare_49 g16 g17 ?_
      refine q_i2f dX12_acceptedShare_50 ?_
      obtain ⟨g18, E⟩ := grd_some E
      refine q_fdiv g18 dX12_acceptedShare_51 ?_
      exact r_fewer [none, none] (ls_n (ls_n ls_0)) (s_X12_acceptedShare_52 (FP.fdiv (FP.i2f x13) (FP.i2f (gi h12 a15 (Int32.ofInt 1).toNatClampNeg))) h12 E hK)
    · replace E := ite_t E z11
      refine q_aload_n dX12_acceptedShare_29 rfl ?_
      refine q_iconst dX12_acceptedShare_30 ?_
      obtain ⟨x20, h19, hc, E⟩ := cal_some E
      refine r_callV1 (mc := 0) (ms := 0) dX12_acceptedShare_31 KX12_196 (c_X12_fails hc) g7 (by decide) (Nat.le_of_ble_eq_true rfl) (fun _ _ q => q.elim) ?_
      rintro _ _ ⟨rfl, rfl⟩
      clear hc
      refine q_i2f dX12_acceptedShare_34 ?_
      refine q_goto (tgt := 52) dX12_acceptedShare_35 (by decide) ?_
      exact r_fewer [none, none] (ls_n (ls_n ls_0)) (s_X12_acceptedShare_52 (FP.i2f x20) h19 E hK)
  · replace E := ite_t E z6
    refine q_aload_n dX12_acceptedShare_13 rfl ?_
    refine q_iconst dX12_acceptedShare_14 ?_
    obtain ⟨g23, E⟩ := grd_some E
    obtain ⟨x22, h21, hc, E⟩ := cal_some E
    refine r_callV1 (mc := 0) (ms := 0) dX12_acceptedShare_15 KX12_196 (c_X12_fails hc) g23 (by decide) (Nat.le_of_ble_eq_true rfl) (fun _ _ q => q.elim) ?_
    rintro _ _ ⟨rfl, rfl⟩
    clear hc
    refine q_i2f dX12_acceptedShare_18 ?_
    cases E
    exact q_freturn dX12_acceptedShare_19 rfl hK
theorem c_X12_acceptedShare {l : Launch} {G : va_G × (Nat → ClassId)} {p0 : Nat} {v1 : Int32} {h h' : mH} {r : UInt32} (E : f_X12_acceptedShare p0 v1 h = some (r, h')) : mMet l G m_X12_acceptedShare 4 0 0 [.ref p0, .int v1] h (fun v k => v = some (.float r) ∧ h' = k) (fun _ _ => False) :=
  mMet_of (by decide +kernel) rfl (ac_c rfl (ac_c rfl ac_0)) (Nat.le_of_ble_eq_true rfl) (s_X12_acceptedShare_0 p0 v1 h E (And.intro rfl rfl))
set_option maxRecDepth 100000 in
set_option maxHeartbeats 4000000 in
theorem s_X12_isConsistent_19 {l : Launch} {G : va_G × (Nat → ClassId)} {Q : Option Value → mH → Prop} {X : String → mH → Prop} (s0 : Int32) (h : mH) {o : Int32 × mH} (E : g_X12_isConsistent_19 s0 h = some o) (hK : (fiI Q) o) : mW l G m_X12_isConsistent 0 0 0 19 [none] [.int s0] h Q X := by
  unfold g_X12_isConsistent_19 at E
  obtain ⟨g1, E⟩ := grd_some E
  cases E
  exact q_zreturn dX12_isConsistent_19 rfl (narZ g1) hK
set_option maxRecDepth 100000 in
set_option maxHeartbeats 4000000 in
theorem s_X12_isConsistent_0 {l : Launch} {G : va_G × (Nat → ClassId)} {Q : Option Value → mH → Prop} {X : String → mH → Prop} (p0 : Nat) (h : mH) {o : Int32 × mH} (E : f_X12_isConsistent p0 h = some o) (hK : (fiI Q) o) : mW l G m_X12_isConsistent 0 0 0 0 [some (.ref p0)] [] h Q X := by
  unfold f_X12_isConsistent at E
  refine q_aload_n dX12_isConsistent_0 rfl ?_
  refine q_iconst dX12_isConsistent_1 ?_
  obtain ⟨g1, E⟩ := grd_some E
  obtain ⟨h2, eh2, E⟩ := bnd_x E
  refine r_putI (hh := eh2) dX12_isConsistent_2 FX12_117 g1 rfl rfl ?_
  refine q_aload_n dX12_isConsistent_5 rfl ?_
  obtain ⟨g3, E⟩ := grd_some E
  obtain ⟨a4, ea4, E⟩ := orf_some E
  refine r_getR dX12_isConsistent_6 FX12_7 g3 ea4 ?_
  refine q_iconst dX12_isConsistent_9 ?_
  obtain ⟨g5, E⟩ := grd_some E
  obtain ⟨g6, E⟩ := grd_some E
  refine r_iaload dX12_isConsistent_10 g5 g6 ?_
  refine q_if_lt (tgt := 18) dX12_isConsistent_11 (by decide) (fun z7 => ?_) (fun z7 => ?_)
  · replace E := ite_t E z7
    refine q_iconst dX12_isConsistent_18 ?_
    exact r_fewer [none] (ls_n ls_0) (s_X12_isConsistent_19 (Int32.ofInt 0) h2 E hK)
  · replace E := ite_f E z7
    refine q_iconst dX12_isConsistent_14 ?_
    refine q_goto (tgt := 19) dX12_isConsistent_15 (by decide) ?_
    exact r_fewer [none] (ls_n ls_0) (s_X12_isConsistent_19 (Int32.ofInt 1) h2 E hK)
theorem c_X12_isConsistent {l : Launch} {G : va_G × (Nat → ClassId)} {p0 : Nat} {h h' : mH} {r : Int32} (E : f_X12_isConsistent p0 h = some (r, h')) : mMet l G m_X12_isConsistent 0 0 0 [.ref p0] h (fun v k => v = some (.int r) ∧ h' = k) (fun _ _ => False) :=
  mMet_of (by decide +kernel) rfl (ac_c rfl ac_0) (Nat.le_of_ble_eq_true rfl) (s_X12_isConsistent_0 p0 h E (And.intro rfl rfl))
set_option maxRecDepth 100000 in
set_option maxHeartbeats 4000000 in
theorem sb_X12_inserts_5 {l : Launch} {G : va_G × (Nat → ClassId)} {Q : Option Value → mH → Prop} {X : String → mH → Prop} (p0 : Nat) (v1 : Int32) (v2 : Int32) (v3 : Int32) (h : mH) {o : ((Int32 × mH) ⊕ (Unit × mH))} (E : b0_X12_inserts_5 p0 v1 v2 v3 h = some o) (hK : (lpK (w_X12_inserts_5 l G Q X p0 v1 v2) (fiV Q)) o) : mW l G m_X12_inserts 0 0 0 5 [some (.ref p0), some (.int v1), some (.int v2), some (.int v3)] [] h Q X := by
  unfold b0_X12_inserts_5 at E
  refine q_iload_n dX12_inserts_5 rfl ?_
  refine q_iload_n dX12_inserts_6 rfl ?_
  refine q_icmp_le (tgt := 30) dX12_inserts_7 (by decide) (fun z1 => ?_) (fun z1 => ?_)
  · replace E := ite_t E z1
    refine q_aload_n dX12_inserts_30 rfl ?_
    obtain ⟨g2, E⟩ := grd_some E
    obtain ⟨a3, ea3, E⟩ := orf_some E
    refine r_getR dX12_inserts_31 FX12_105 g2 ea3 ?_
    refine q_iload_n dX12_inserts_34 rfl ?_
    refine q_iload_n dX12_inserts_35 rfl ?_
    refine q_i2c dX12_inserts_36 ?_
    obtain ⟨g5, E⟩ := grd_some E
    obtain ⟨g6, E⟩ := grd_some E
    obtain ⟨g7, E⟩ := grd_some E
    obtain ⟨h4, eh4, E⟩ := bnd_x E
    refine r_castore (hh := eh4) dX12_inserts_37 g5 g6 g7 ?_
    refine q_aload_n dX12_inserts_38 rfl ?_
    refine q_dup dX12_inserts_39 ?_
    obtain ⟨g8, E⟩ := grd_some E
    refine r_getI dX12_inserts_40 FX12_364 g8 ?_
    refine q_iconst dX12_inserts_43 ?_
    refine q_iadd dX12_inserts_44 ?_
    obtain ⟨h9, eh9, E⟩ := bnd_x E
    refine r_putI (hh := eh9) dX12_inserts_45 FX12_364 g8 rfl rfl ?_
    cases E
    exact q_return dX12_inserts_48 rfl hK
  · replace E := ite_f E z1
    refine q_aload_n dX12_inserts_10 rfl ?_
    obtain ⟨g10, E⟩ := grd_some E
    obtain ⟨a11, ea11, E⟩ := orf_some E
    refine r_getR dX12_inserts_11 FX12_105 g10 ea11 ?_
    refine q_iload_n dX12_inserts_14 rfl ?_
    refine q_aload_n dX12_inserts_15 rfl ?_
    refine r_getR dX12_inserts_16 FX12_105 g10 ea11 ?_
    refine q_iload_n dX12_inserts_19 rfl ?_
    refine q_iconst dX12_inserts_20 ?_
    refine q_isub dX12_inserts_21 ?_
    obtain ⟨g13, E⟩ := grd_some E
    obtain ⟨g14, E⟩ := grd_some E
    refine r_caload dX12_inserts_22 g13 g14 ?_
    obtain ⟨g16, E⟩ := grd_some E
    obtain ⟨g17, E⟩ := grd_some E
    obtain ⟨h15, eh15, E⟩ := bnd_x E
    refine r_castore (hh := eh15) dX12_inserts_23 g13 g16 g17 ?_
    obtain ⟨x18, ex18, E⟩ := bnd_x E
    refine r_iinc (v := x18) dX12_inserts_24 rfl ex18 (by decide) (ls' := [some (.ref p0), some (.int v1), some (.int v2), some (.int x18)]) rfl ?_
    refine q_goto (tgt := 5) dX12_inserts_27 (by decide) ?_
    cases E
    exact r_fewer [some (.ref p0), some (.int v1), some (.int v2), some (.int x18)] (ls_s (ls_s (ls_s (ls_s ls_0)))) hK
theorem s_X12_inserts_5 {l : Launch} {G : va_G × (Nat → ClassId)} {Q : Option Value → mH → Prop} {X : String → mH → Prop} (p0 : Nat) (v1 : Int32) (v2 : Int32) (v3 : Int32) (h : mH) {o : Unit × mH} (E : g_X12_inserts_5 p0 v1 v2 v3 h = some o) (hK : (fiV Q) o) : mW l G m_X12_inserts 0 0 0 5 [some (.ref p0), some (.int v1), some (.int v2), some (.int v3)] [] h Q X :=
  (lp_go (w_X12_inserts_5 l G Q X p0 v1 v2) (fiV Q) (b_X12_inserts_5 p0 v1 v2) (fun s o E hK => sb_X12_inserts_5 p0 v1 v2 s.1 (s.2) E hK) _ _ _ E hK : w_X12_inserts_5 l G Q X p0 v1 v2 (v3, h))
set_option maxRecDepth 100000 in
set_option maxHeartbeats 4000000 in
theorem s_X12_inserts_0 {l : Launch} {G : va_G × (Nat → ClassId)} {Q : Option Value → mH → Prop} {X : String → mH → Prop} (p0 : Nat) (v1 : Int32) (v2 : Int32) (h : mH) {o : Unit × mH} (E : f_X12_inserts p0 v1 v2 h = some o) (hK : (fiV Q) o) : mW l G m_X12_inserts 0 0 0 0 [some (.ref p0), some (.int v1), some (.int v2), none] [] h Q X := by
  unfold f_X12_inserts at E
  refine q_aload_n dX12_inserts_0 rfl ?_
  obtain ⟨g1, E⟩ := grd_some E
  refine r_getI dX12_inserts_1 FX12_364 g1 ?_
  obtain ⟨x2, ex2, E⟩ := bnd_x E
  refine r_istore_n dX12_inserts_4 (by decide) ex2 (ls' := [some (.ref p0), some (.int v1), some (.int v2), some (.int x2)]) rfl ?_
  exact r_fewer [some (.ref p0), some (.int v1), some (.int v2), some (.int x2)] (ls_s (ls_s (ls_s (ls_s ls_0)))) (s_X12_inserts_5 p0 v1 v2 x2 h E hK)
theorem c_X12_inserts {l : Launch} {G : va_G × (Nat → ClassId)} {p0 : Nat} {v1 : Int32} {v2 : Int32} {h h' : mH} {r : Unit} (E : f_X12_inserts p0 v1 v2 h = some (r, h')) : mMet l G m_X12_inserts 0 0 0 [.ref p0, .int v1, .int v2] h (fun v k => v = none ∧ h' = k) (fun _ _ => False) :=
  mMet_of (by decide +kernel) rfl (ac_c rfl (ac_c rfl (ac_c rfl ac_0))) (Nat.le_of_ble_eq_true rfl) (s_X12_inserts_0 p0 v1 v2 h E (And.intro rfl rfl))
set_option maxRecDepth 100000 in
set_option maxHeartbeats 4000000 in
theorem s_X12_encloses_0 {l : Launch} {G : va_G × (Nat → ClassId)} {Q : Option Value → mH → Prop} {X : String → mH → Prop} (p0 : Nat) (v1 : Int32) (v2 : Int32) (h : mH) {o : Unit × mH} (E : f_X12_encloses p0 v1 v2 h = some o) (hK : (fiV Q) o) : mW l G m_X12_encloses 1 0 0 0 [some (.ref p0), some (.int v1), some (.int v2)] [] h Q X := by
  unfold f_X12_encloses at E
  refine q_aload_n dX12_encloses_0 rfl ?_
  refine q_iload_n dX12_encloses_1 rfl ?_
  refine q_bipush (v := (Int32.ofInt 41)) dX12_encloses_2 (by decide) ?_
  obtain ⟨g3, E⟩ := grd_some E
  obtain ⟨_, h1, hc, E⟩ := cal_some E
  refine r_callV2 (mc := 0) (ms := 0) dX12_encloses_4 KX12_367 (c_X12_inserts hc) g3 (by decide) (Nat.le_of_ble_eq_true rfl) (fun _ _ q => q.elim) ?_
  rintro _ _ ⟨rfl, rfl⟩
  clear hc
  refine q_aload_n dX12_encloses_7 rfl ?_
  refine q_iload_n dX12_encloses_8 rfl ?_
  refine q_bipush (v := (Int32.ofInt 40)) dX12_encloses_9 (by decide) ?_
  obtain ⟨g6, E⟩ := grd_some E
  obtain ⟨_, h4, hc, E⟩ := cal_some E
  refine r_callV2 (mc := 0) (ms := 0) dX12_encloses_11 KX12_367 (c_X12_inserts hc) g6 (by decide) (Nat.le_of_ble_eq_true rfl) (fun _ _ q => q.elim) ?_
  rintro _ _ ⟨rfl, rfl⟩
  clear hc
  cases E
  exact q_return dX12_encloses_14 rfl hK
theorem c_X12_encloses {l : Launch} {G : va_G × (Nat → ClassId)} {p0 : Nat} {v1 : Int32} {v2 : Int32} {h h' : mH} {r : Unit} (E : f_X12_encloses p0 v1 v2 h = some (r, h')) : mMet l G m_X12_encloses 1 0 0 [.ref p0, .int v1, .int v2] h (fun v k => v = none ∧ h' = k) (fun _ _ => False) :=
  mMet_of (by decide +kernel) rfl (ac_c rfl (ac_c rfl (ac_c rfl ac_0))) (Nat.le_of_ble_eq_true rfl) (s_X12_encloses_0 p0 v1 v2 h E (And.intro rfl rfl))
set_option maxRecDepth 100000 in
set_option maxHeartbeats 4000000 in
theorem s_X12_writesTwo_95 {l : Launch} {G : va_G × (Nat → ClassId)} {Q : Option Value → mH → Prop} {X : String → mH → Prop} (p0 : Nat) (v2 : Int32) (h : mH) {o : Unit × mH} (E : g_X12_writesTwo_95 p0 v2 h = some o) (hK : (fiV Q) o) : mW l G m_X12_writesTwo 2 0 0 95 [some (.ref p0), none, some (.int v2), none] [] h Q X := by
  unfold g_X12_writesTwo_95 at E
  refine q_aload_n dX12_writesTwo_95 rfl ?_
  obtain ⟨g1, E⟩ := grd_some E
  obtain ⟨a2, ea2, E⟩ := orf_some E
  refine r_getR dX12_writesTwo_96 FX12_111 g1 ea2 ?_
  refine q_iload_n dX12_writesTwo_99 rfl ?_
  refine q_iconst dX12_writesTwo_100 ?_
  obtain ⟨g4, E⟩ := grd_some E
  obtain ⟨g5, E⟩ := grd_some E
  obtain ⟨h3, eh3, E⟩ := bnd_x E
  refine r_iastore (hh := eh3) dX12_writesTwo_101 g4 g5 ?_
  cases E
  exact q_return dX12_writesTwo_102 rfl hK
set_option maxRecDepth 100000 in
set_option maxHeartbeats 4000000 in
theorem s_X12_writesTwo_70 {l : Launch} {G : va_G × (Nat → ClassId)} {Q : Option Value → mH → Prop} {X : String → mH → Prop} (p0 : Nat) (v2 : Int32) (v3 : Int32) (h : mH) {o : Unit × mH} (E : g_X12_writesTwo_70 p0 v2 v3 h = some o) (hK : (fiV Q) o) : mW l G m_X12_writesTwo 2 0 0 70 [some (.ref p0), none, some (.int v2), some (.int v3)] [] h Q X := by
  unfold g_X12_writesTwo_70 at E
  refine q_aload_n dX12_writesTwo_70 rfl ?_
  obtain ⟨g1, E⟩ := grd_some E
  obtain ⟨a2, ea2, E⟩ := orf_some E
  refine r_getR dX12_writesTwo_71 FX12_111 g1 ea2 ?_
  refine q_iload_n dX12_writesTwo_74 rfl ?_
  obtain ⟨g3, E⟩ := grd_some E
  obtain ⟨g4, E⟩ := grd_some E
  refine r_iaload dX12_writesTwo_75 g3 g4 ?_
  refine q_if_ne (tgt := 95) dX12_writesTwo_76 (by decide) (fun z5 => ?_) (fun z5 => ?_)
  · replace E := ite_f E z5
    exact r_fewer [some (.ref p0), none, some (.int v2), none] (ls_s (ls_n (ls_s (ls_n ls_0)))) (s_X12_writesTwo_95 p0 v2 h E hK)
  · replace E := ite_t E z5
    refine q_aload_n dX12_writesTwo_79 rfl ?_
    refine q_aload_n dX12_writesTwo_80 rfl ?_
    obtain ⟨a6, ea6, E⟩ := orf_some E
    refine r_getR dX12_writesTwo_81 FX12_108 g1 ea6 ?_
    refine q_iload_n dX12_writesTwo_84 rfl ?_
    obtain ⟨g7, E⟩ := grd_some E
    obtain ⟨g8, E⟩ := grd_some E
    refine r_iaload dX12_writesTwo_85 g7 g8 ?_
    refine q_aload_n dX12_writesTwo_86 rfl ?_
    refine r_getR dX12_writesTwo_87 FX12_108 g1 ea6 ?_
    refine q_iload_n dX12_writesTwo_90 rfl ?_
    obtain ⟨g10, E⟩ := grd_some E
    refine r_iaload dX12_writesTwo_91 g7 g10 ?_
    obtain ⟨_, h11, hc, E⟩ := cal_some E
    refine r_callV2 (mc := 0) (ms := 0) dX12_writesTwo_92 KX12_370 (c_X12_encloses hc) g1 (by decide) (Nat.le_of_ble_eq_true rfl) (fun _ _ q => q.elim) ?_
    rintro _ _ ⟨rfl, rfl⟩
    clear hc
    exact r_fewer [some (.ref p0), none, some (.int v2), none] (ls_s (ls_n (ls_s (ls_n ls_0)))) (s_X12_writesTwo_95 p0 v2 h11 E hK)
set_option maxRecDepth 100000 in
set_option maxHeartbeats 4000000 in
theorem s_X12_writesTwo_0 {l : Launch} {G : va_G × (Nat → ClassId)} {Q : Option Value → mH → Prop} {X : String → mH → Prop} (p0 : Nat) (v1 : Int32) (h : mH) {o : Unit × mH} (E : f_X12_writesTwo p0 v1 h = some o) (hK : (fiV Q) o) : mW l G m_X12_writesTwo 2 0 0 0 [some (.ref p0), some (.int v1), none, none] [] h Q X := by
  unfold f_X12_writesTwo at E
  refine q_aload_n dX12_writesTwo_0 rfl ?_
  refine q_dup dX12_writesTwo_1 ?_
  obtain ⟨g1, E⟩ := grd_some E
  refine r_getI dX12_writesTwo_2 FX12_256 g1 ?_
  refine q_iconst dX12_writesTwo_5 ?_
  refine q_isub dX12_writesTwo_6 ?_
  obtain ⟨h2, eh2, E⟩ := bnd_x E
  refine r_putI (hh := eh2) dX12_writesTwo_7 FX12_256 g1 rfl rfl ?_
  refine q_aload_n dX12_writesTwo_10 rfl ?_
  obtain ⟨g3, E⟩ := grd_some E
  refine r_getI dX12_writesTwo_11 FX12_256 g3 ?_
  refine q_iconst dX12_writesTwo_14 ?_
  refine q_isub dX12_writesTwo_15 ?_
  obtain ⟨x4, ex4, E⟩ := bnd_x E
  refine r_istore_n dX12_writesTwo_16 (by decide) ex4 (ls' := [some (.ref p0), some (.int v1), some (.int x4), none]) rfl ?_
  refine q_aload_n dX12_writesTwo_17 rfl ?_
  refine r_getI dX12_writesTwo_18 FX12_256 g3 ?_
  obtain ⟨x5, ex5, E⟩ := bnd_x E
  refine r_istore_n dX12_writesTwo_21 (by decide) ex5 (ls' := [some (.ref p0), some (.int v1), some (.int x4), some (.int x5)]) rfl ?_
  refine q_iload_n dX12_writesTwo_22 rfl ?_
  refine q_iconst dX12_writesTwo_23 ?_
  refine q_icmp_ne (tgt := 47) dX12_writesTwo_24 (by decide) (fun z6 => ?_) (fun z6 => ?_)
  · replace E := ite_f E z6
    refine q_aload_n dX12_writesTwo_47 rfl ?_
    obtain ⟨a7, ea7, E⟩ := orf_some E
    refine r_getR dX12_writesTwo_48 FX12_111 g3 ea7 ?_
    refine q_iload_n dX12_writesTwo_51 rfl ?_
    obtain ⟨g8, E⟩ := grd_some E
    obtain ⟨g9, E⟩ := grd_some E
    refine r_iaload dX12_writesTwo_52 g8 g9 ?_
    refine q_if_ne (tgt := 70) dX12_writesTwo_53 (by decide) (fun z10 => ?_) (fun z10 => ?_)
    · replace E := ite_f E z10
      exact r_fewer [some (.ref p0), none, some (.int x4), some (.int x5)] (ls_s (ls_n (ls_s (ls_s ls_0)))) (s_X12_writesTwo_70 p0 x4 x5 h2 E hK)
    · replace E := ite_t E z10
      refine q_aload_n dX12_writesTwo_56 rfl ?_
      refine q_aload_n dX12_writesTwo_57 rfl ?_
      obtain ⟨a11, ea11, E⟩ := orf_some E
      refine r_getR dX12_writesTwo_58 FX12_108 g3 ea11 ?_
      refine q_iload_n dX12_writesTwo_61 rfl ?_
      obtain ⟨g12, E⟩ := grd_some E
      obtain ⟨g13, E⟩ := grd_some E
      refine r_iaload dX12_writesTwo_62 g12 g13 ?_
      refine q_aload_n dX12_writesTwo_63 rfl ?_
      refine r_getI dX12_writesTwo_64 FX12_364 g3 ?_
      obtain ⟨_, h14, hc, E⟩ := cal_some E
      refine r_callV2 (mc := 0) (ms := 0) dX12_writesTwo_67 KX12_370 (c_X12_encloses hc) g3 (by decide) (Nat.le_of_ble_eq_true rfl) (fun _ _ q => q.elim) ?_
      rintro _ _ ⟨rfl, rfl⟩
      clear hc
      exact r_fewer [some (.ref p0), none, some (.int x4), some (.int x5)] (ls_s (ls_n (ls_s (ls_s ls_0)))) (s_X12_writesTwo_70 p0 x4 x5 h14 E hK)
  · replace E := ite_t E z6
    refine q_aload_n dX12_writesTwo_27 rfl ?_
    refine q_aload_n dX12_writesTwo_28 rfl ?_
    obtain ⟨a16, ea16, E⟩ := orf_some E
    refine r_getR dX12_writesTwo_29 FX12_108 g3 ea16 ?_
    refine q_iload_n dX12_writesTwo_32 rfl ?_
    obtain ⟨g17, E⟩ := grd_some E
    obtain ⟨g18, E⟩ := grd_some E
    refine r_iaload dX12_writesTwo_33 g17 g18 ?_
    refine q_bipush (v := (Int32.ofInt 124)) dX12_writesTwo_34 (by decide) ?_
    obtain ⟨_, h19, hc, E⟩ := cal_some E
    refine r_callV2 (mc := 0) (ms := 0) dX12_writesTwo_36 KX12_367 (c_X12_inserts hc) g3 (by decide) (Nat.le_of_ble_eq_true rfl) (fun _ _ q => q.elim) ?_
    rintro _ _ ⟨rfl, rfl⟩
    clear hc
    refine q_aload_n dX12_writesTwo_39 rfl ?_
    obtain ⟨g21, E⟩ := grd_some E
    obtain ⟨a22, ea22, E⟩ := orf_some E
    refine r_getR dX12_writesTwo_40 FX12_111 g21 ea22 ?_
    refine q_iload_n dX12_writesTwo_43 rfl ?_
    refine q_iconst dX12_writesTwo_44 ?_
    obtain ⟨g24, E⟩ := grd_some E
    obtain ⟨g25, E⟩ := grd_some E
    obtain ⟨h23, eh23, E⟩ := bnd_x E
    refine r_iastore (hh := eh23) dX12_writesTwo_45 g24 g25 ?_
    cases E
    exact q_return dX12_writesTwo_46 rfl hK
theorem c_X12_writesTwo {l : Launch} {G : va_G × (Nat → ClassId)} {p0 : Nat} {v1 : Int32} {h h' : mH} {r : Unit} (E : f_X12_writesTwo p0 v1 h = some (r, h')) : mMet l G m_X12_writesTwo 2 0 0 [.ref p0, .int v1] h (fun v k => v = none ∧ h' = k) (fun _ _ => False) :=
  mMet_of (by decide +kernel) rfl (ac_c rfl (ac_c rfl ac_0)) (Nat.le_of_ble_eq_true rfl) (s_X12_writesTwo_0 p0 v1 h E (And.intro rfl rfl))
