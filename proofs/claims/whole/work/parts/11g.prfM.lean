set_option maxRecDepth 100000 in
set_option maxHeartbeats 4000000 in
theorem s_X12_matches_0 {l : Launch} {G : mG} {Q : Option Value → mH → Prop} {X : String → mH → Prop} (p0 : Nat) (v1 : Int32) (h : mH) {o : Int32 × mH} (E : f_X12_matches p0 v1 h = some o) (hK : (fiI Q) o) : mW l G m_X12_matches 4 0 0 0 [some (.ref p0), some (.int v1)] [] h Q X := by
  unfold f_X12_matches at E
  refine q_aload_n dX12_matches_0 rfl ?_
  refine q_iload_n dX12_matches_1 rfl ?_
  replace E := grd_some E
  obtain ⟨g3, E⟩ := E
  replace E := cal_some E
  obtain ⟨x2, h1, hc, E⟩ := E
  refine r_callV1 (mc := 0) (ms := 0) dX12_matches_2 KX12_325 (c_X12_hasNone hc) g3 (by decide) (Nat.le_of_ble_eq_true rfl) (fun _ _ q => q.elim) ?_
  rintro _ _ ⟨rfl, rfl⟩
  clear hc
  refine q_if_eq (tgt := 10) dX12_matches_5 (by decide) (fun z4 => ?_) (fun z4 => ?_)
  · replace E := ite_t E z4
    refine q_aload_n dX12_matches_10 rfl ?_
    refine q_iconst dX12_matches_11 ?_
    refine q_aload_n dX12_matches_12 rfl ?_
    refine q_aload_n dX12_matches_13 rfl ?_
    replace E := grd_some E
    obtain ⟨g5, E⟩ := E
    refine r_getI dX12_matches_14 FX12_236 g5 ?_
    replace E := cal_some E
    obtain ⟨x7, h6, hc, E⟩ := E
    refine r_callV1 (mc := 0) (ms := 0) dX12_matches_17 KX12_328 (c_X12_behind hc) g5 (by decide) (Nat.le_of_ble_eq_true rfl) (fun _ _ q => q.elim) ?_
    rintro _ _ ⟨rfl, rfl⟩
    clear hc
    replace E := grd_some E
    obtain ⟨g10, E⟩ := E
    replace E := cal_some E
    obtain ⟨x9, h8, hc, E⟩ := E
    refine r_callV2 (mc := 0) (ms := 0) dX12_matches_20 KX12_286 (c_X12_accepts hc) g10 (by decide) (Nat.le_of_ble_eq_true rfl) (fun _ _ q => q.elim) ?_
    rintro _ _ ⟨rfl, rfl⟩
    clear hc
    replace E := grd_some E
    obtain ⟨g11, E⟩ := E
    cases E
    exact q_zreturn dX12_matches_23 rfl (narZ g11) hK
  · replace E := ite_f E z4
    refine q_iconst dX12_matches_8 ?_
    cases E
    exact q_zreturn dX12_matches_9 rfl (by decide) hK
theorem c_X12_matches {l : Launch} {G : mG} {p0 : Nat} {v1 : Int32} {h h' : mH} {r : Int32} (E : f_X12_matches p0 v1 h = some (r, h')) : mMet l G m_X12_matches 4 0 0 [.ref p0, .int v1] h (fun v k => v = some (.int r) ∧ h' = k) (fun _ _ => False) :=
  mMet_of (by decide +kernel) rfl (ac_c rfl (ac_c rfl ac_0)) (Nat.le_of_ble_eq_true rfl) (s_X12_matches_0 p0 v1 h E (And.intro rfl rfl))
set_option maxRecDepth 100000 in
set_option maxHeartbeats 4000000 in
theorem s_X12_matchesBySpans_0 {l : Launch} {G : mG} {Q : Option Value → mH → Prop} {X : String → mH → Prop} (p0 : Nat) (v1 : Int32) (h : mH) {o : Int32 × mH} (E : f_X12_matchesBySpans p0 v1 h = some o) (hK : (fiI Q) o) : mW l G m_X12_matchesBySpans 5 0 0 0 [some (.ref p0), some (.int v1)] [] h Q X := by
  unfold f_X12_matchesBySpans at E
  refine q_aload_n dX12_matchesBySpans_0 rfl ?_
  refine q_iload_n dX12_matchesBySpans_1 rfl ?_
  replace E := grd_some E
  obtain ⟨g3, E⟩ := E
  replace E := cal_some E
  obtain ⟨x2, h1, hc, E⟩ := E
  refine r_callV1 (mc := 0) (ms := 0) dX12_matchesBySpans_2 KX12_331 (c_X12_matches hc) g3 (by decide) (Nat.le_of_ble_eq_true rfl) (fun _ _ q => q.elim) ?_
  rintro _ _ ⟨rfl, rfl⟩
  clear hc
  replace E := grd_some E
  obtain ⟨g4, E⟩ := E
  cases E
  exact q_zreturn dX12_matchesBySpans_5 rfl (narZ g4) hK
theorem c_X12_matchesBySpans {l : Launch} {G : mG} {p0 : Nat} {v1 : Int32} {h h' : mH} {r : Int32} (E : f_X12_matchesBySpans p0 v1 h = some (r, h')) : mMet l G m_X12_matchesBySpans 5 0 0 [.ref p0, .int v1] h (fun v k => v = some (.int r) ∧ h' = k) (fun _ _ => False) :=
  mMet_of (by decide +kernel) rfl (ac_c rfl (ac_c rfl ac_0)) (Nat.le_of_ble_eq_true rfl) (s_X12_matchesBySpans_0 p0 v1 h E (And.intro rfl rfl))
set_option maxRecDepth 100000 in
set_option maxHeartbeats 4000000 in
theorem s_X12_longestPrefix_40 {l : Launch} {G : mG} {Q : Option Value → mH → Prop} {X : String → mH → Prop} (p0 : Nat) (v3 : Int32) (s0 : Int32) (h : mH) {o : ((Int32 × Int32 × mH) ⊕ (Int32 × mH))} (E : g_X12_longestPrefix_40 p0 v3 s0 h = some o) (hK : (lpK (w_X12_longestPrefix_14 l G Q X p0) (fiI Q)) o) : mW l G m_X12_longestPrefix 4 0 0 40 [some (.ref p0), none, none, some (.int v3)] [.int s0] h Q X := by
  unfold g_X12_longestPrefix_40 at E
  refine r_istore_n dX12_longestPrefix_40 (by decide) rfl (ls' := [some (.ref p0), none, some (.int s0), some (.int v3)]) rfl ?_
  replace E := bnd_x E
  obtain ⟨x1, ex1, E⟩ := E
  refine r_iinc (v := x1) dX12_longestPrefix_41 rfl ex1 (by decide) (ls' := [some (.ref p0), none, some (.int s0), some (.int x1)]) rfl ?_
  refine q_goto (tgt := 14) dX12_longestPrefix_44 (by decide) ?_
  cases E
  exact r_fewer [some (.ref p0), none, some (.int s0), some (.int x1)] (ls_s (ls_n (ls_s (ls_s ls_0)))) hK
set_option maxRecDepth 100000 in
set_option maxHeartbeats 4000000 in
theorem sb_X12_longestPrefix_14 {l : Launch} {G : mG} {Q : Option Value → mH → Prop} {X : String → mH → Prop} (p0 : Nat) (v2 : Int32) (v3 : Int32) (h : mH) {o : ((Int32 × Int32 × mH) ⊕ (Int32 × mH))} (E : b0_X12_longestPrefix_14 p0 v2 v3 h = some o) (hK : (lpK (w_X12_longestPrefix_14 l G Q X p0) (fiI Q)) o) : mW l G m_X12_longestPrefix 4 0 0 14 [some (.ref p0), none, some (.int v2), some (.int v3)] [] h Q X := by
  unfold b0_X12_longestPrefix_14 at E
  refine q_iload_n dX12_longestPrefix_14 rfl ?_
  refine q_aload_n dX12_longestPrefix_15 rfl ?_
  replace E := grd_some E
  obtain ⟨g1, E⟩ := E
  refine r_getI dX12_longestPrefix_16 FX12_236 g1 ?_
  refine q_icmp_gt (tgt := 47) dX12_longestPrefix_19 (by decide) (fun z2 => ?_) (fun z2 => ?_)
  · replace E := ite_t E z2
    refine q_iload_n dX12_longestPrefix_47 rfl ?_
    cases E
    exact q_ireturn dX12_longestPrefix_48 rfl hK
  · replace E := ite_f E z2
    refine q_aload_n dX12_longestPrefix_22 rfl ?_
    refine q_iconst dX12_longestPrefix_23 ?_
    refine q_aload_n dX12_longestPrefix_24 rfl ?_
    refine q_iload_n dX12_longestPrefix_25 rfl ?_
    replace E := cal_some E
    obtain ⟨x4, h3, hc, E⟩ := E
    refine r_callV1 (mc := 0) (ms := 0) dX12_longestPrefix_26 KX12_328 (c_X12_behind hc) g1 (by decide) (Nat.le_of_ble_eq_true rfl) (fun _ _ q => q.elim) ?_
    rintro _ _ ⟨rfl, rfl⟩
    clear hc
    replace E := grd_some E
    obtain ⟨g7, E⟩ := E
    replace E := cal_some E
    obtain ⟨x6, h5, hc, E⟩ := E
    refine r_callV2 (mc := 0) (ms := 0) dX12_longestPrefix_29 KX12_286 (c_X12_accepts hc) g7 (by decide) (Nat.le_of_ble_eq_true rfl) (fun _ _ q => q.elim) ?_
    rintro _ _ ⟨rfl, rfl⟩
    clear hc
    refine q_if_eq (tgt := 39) dX12_longestPrefix_32 (by decide) (fun z8 => ?_) (fun z8 => ?_)
    · replace E := ite_t E z8
      refine q_iload_n dX12_longestPrefix_39 rfl ?_
      exact r_fewer [some (.ref p0), none, none, some (.int v3)] (ls_s (ls_n (ls_n (ls_s ls_0)))) (s_X12_longestPrefix_40 p0 v3 v2 h5 E hK)
    · replace E := ite_f E z8
      refine q_iload_n dX12_longestPrefix_35 rfl ?_
      refine q_goto (tgt := 40) dX12_longestPrefix_36 (by decide) ?_
      exact r_fewer [some (.ref p0), none, none, some (.int v3)] (ls_s (ls_n (ls_n (ls_s ls_0)))) (s_X12_longestPrefix_40 p0 v3 v3 h5 E hK)
theorem s_X12_longestPrefix_14 {l : Launch} {G : mG} {Q : Option Value → mH → Prop} {X : String → mH → Prop} (p0 : Nat) (v2 : Int32) (v3 : Int32) (h : mH) {o : Int32 × mH} (E : g_X12_longestPrefix_14 p0 v2 v3 h = some o) (hK : (fiI Q) o) : mW l G m_X12_longestPrefix 4 0 0 14 [some (.ref p0), none, some (.int v2), some (.int v3)] [] h Q X :=
  (lp_go (w_X12_longestPrefix_14 l G Q X p0) (fiI Q) (b_X12_longestPrefix_14 p0) (fun s o E hK => sb_X12_longestPrefix_14 p0 s.1 s.2.1 (s.2.2) E hK) _ _ _ E hK : w_X12_longestPrefix_14 l G Q X p0 (v2, v3, h))
set_option maxRecDepth 100000 in
set_option maxHeartbeats 4000000 in
theorem s_X12_longestPrefix_0 {l : Launch} {G : mG} {Q : Option Value → mH → Prop} {X : String → mH → Prop} (p0 : Nat) (v1 : Int32) (h : mH) {o : Int32 × mH} (E : f_X12_longestPrefix p0 v1 h = some o) (hK : (fiI Q) o) : mW l G m_X12_longestPrefix 4 0 0 0 [some (.ref p0), some (.int v1), none, none] [] h Q X := by
  unfold f_X12_longestPrefix at E
  refine q_aload_n dX12_longestPrefix_0 rfl ?_
  refine q_iload_n dX12_longestPrefix_1 rfl ?_
  replace E := grd_some E
  obtain ⟨g3, E⟩ := E
  replace E := cal_some E
  obtain ⟨x2, h1, hc, E⟩ := E
  refine r_callV1 (mc := 0) (ms := 0) dX12_longestPrefix_2 KX12_325 (c_X12_hasNone hc) g3 (by decide) (Nat.le_of_ble_eq_true rfl) (fun _ _ q => q.elim) ?_
  rintro _ _ ⟨rfl, rfl⟩
  clear hc
  refine q_if_eq (tgt := 10) dX12_longestPrefix_5 (by decide) (fun z4 => ?_) (fun z4 => ?_)
  · replace E := ite_t E z4
    refine q_iconst dX12_longestPrefix_10 ?_
    refine r_istore_n dX12_longestPrefix_11 (by decide) rfl (ls' := [some (.ref p0), some (.int v1), some (.int (Int32.ofInt (-1))), none]) rfl ?_
    refine q_iconst dX12_longestPrefix_12 ?_
    refine r_istore_n dX12_longestPrefix_13 (by decide) rfl (ls' := [some (.ref p0), some (.int v1), some (.int (Int32.ofInt (-1))), some (.int (Int32.ofInt 0))]) rfl ?_
    exact r_fewer [some (.ref p0), none, some (.int (Int32.ofInt (-1))), some (.int (Int32.ofInt 0))] (ls_s (ls_n (ls_s (ls_s ls_0)))) (s_X12_longestPrefix_14 p0 (Int32.ofInt (-1)) (Int32.ofInt 0) h1 E hK)
  · replace E := ite_f E z4
    refine q_iconst dX12_longestPrefix_8 ?_
    cases E
    exact q_ireturn dX12_longestPrefix_9 rfl hK
theorem c_X12_longestPrefix {l : Launch} {G : mG} {p0 : Nat} {v1 : Int32} {h h' : mH} {r : Int32} (E : f_X12_longestPrefix p0 v1 h = some (r, h')) : mMet l G m_X12_longestPrefix 4 0 0 [.ref p0, .int v1] h (fun v k => v = some (.int r) ∧ h' = k) (fun _ _ => False) :=
  mMet_of (by decide +kernel) rfl (ac_c rfl (ac_c rfl ac_0)) (Nat.le_of_ble_eq_true rfl) (s_X12_longestPrefix_0 p0 v1 h E (And.intro rfl rfl))
set_option maxRecDepth 100000 in
set_option maxHeartbeats 4000000 in
theorem sb_X12_acceptsSample_19 {l : Launch} {G : mG} {Q : Option Value → mH → Prop} {X : String → mH → Prop} (p0 : Nat) (v1 : Int32) (v2 : Int32) (h : mH) {o : ((Int32 × mH) ⊕ (Int32 × mH))} (E : b0_X12_acceptsSample_19 p0 v1 v2 h = some o) (hK : (lpK (w_X12_acceptsSample_19 l G Q X p0 v1) (fiI Q)) o) : mW l G m_X12_acceptsSample 2 0 0 19 [some (.ref p0), some (.int v1), some (.int v2)] [] h Q X := by
  unfold b0_X12_acceptsSample_19 at E
  refine q_iload_n dX12_acceptsSample_19 rfl ?_
  refine q_aload_n dX12_acceptsSample_20 rfl ?_
  replace E := grd_some E
  obtain ⟨g1, E⟩ := E
  refine r_getI dX12_acceptsSample_21 FX12_236 g1 ?_
  refine q_icmp_ge (tgt := 56) dX12_acceptsSample_24 (by decide) (fun z2 => ?_) (fun z2 => ?_)
  · replace E := ite_t E z2
    refine q_aload_n dX12_acceptsSample_56 rfl ?_
    refine q_iconst dX12_acceptsSample_57 ?_
    refine q_aload_n dX12_acceptsSample_58 rfl ?_
    refine q_aload_n dX12_acceptsSample_59 rfl ?_
    refine r_getI dX12_acceptsSample_60 FX12_236 g1 ?_
    replace E := cal_some E
    obtain ⟨x4, h3, hc, E⟩ := E
    refine r_callV1 (mc := 0) (ms := 0) dX12_acceptsSample_63 KX12_328 (c_X12_behind hc) g1 (by decide) (Nat.le_of_ble_eq_true rfl) (fun _ _ q => q.elim) ?_
    rintro _ _ ⟨rfl, rfl⟩
    clear hc
    replace E := grd_some E
    obtain ⟨g7, E⟩ := E
    replace E := cal_some E
    obtain ⟨x6, h5, hc, E⟩ := E
    refine r_callV2 (mc := 0) (ms := 0) dX12_acceptsSample_66 KX12_286 (c_X12_accepts hc) g7 (by decide) (Nat.le_of_ble_eq_true rfl) (fun _ _ q => q.elim) ?_
    rintro _ _ ⟨rfl, rfl⟩
    clear hc
    replace E := grd_some E
    obtain ⟨g8, E⟩ := E
    cases E
    exact q_zreturn dX12_acceptsSample_69 rfl (narZ g8) hK
  · replace E := ite_f E z2
    refine q_aload_n dX12_acceptsSample_27 rfl ?_
    replace E := orf_some E
    obtain ⟨a9, ea9, E⟩ := E
    refine r_getR dX12_acceptsSample_28 FX12_39 g1 ea9 ?_
    refine q_iload_n dX12_acceptsSample_31 rfl ?_
    refine q_aload_n dX12_acceptsSample_32 rfl ?_
    replace E := orf_some E
    obtain ⟨a10, ea10, E⟩ := E
    refine r_getR dX12_acceptsSample_33 FX12_7 g1 ea10 ?_
    refine q_sipush (v := (Int32.ofInt 176)) dX12_acceptsSample_36 (by decide) ?_
    refine q_bipush (v := (Int32.ofInt 9)) dX12_acceptsSample_39 (by decide) ?_
    refine q_iload_n dX12_acceptsSample_41 rfl ?_
    refine q_imul dX12_acceptsSample_42 ?_
    refine q_iadd dX12_acceptsSample_43 ?_
    refine q_iconst dX12_acceptsSample_44 ?_
    refine q_iadd dX12_acceptsSample_45 ?_
    refine q_iload_n dX12_acceptsSample_46 rfl ?_
    refine q_iadd dX12_acceptsSample_47 ?_
    replace E := grd_some E
    obtain ⟨g11, E⟩ := E
    replace E := grd_some E
    obtain ⟨g12, E⟩ := E
    refine r_iaload dX12_acceptsSample_48 g11 g12 ?_
    replace E := grd_some E
    obtain ⟨g14, E⟩ := E
    replace E := grd_some E
    obtain ⟨g15, E⟩ := E
    replace E := bnd_x E
    obtain ⟨h13, eh13, E⟩ := E
    refine r_iastore (hh := eh13) dX12_acceptsSample_49 g14 g15 ?_
    replace E := bnd_x E
    obtain ⟨x16, ex16, E⟩ := E
    refine r_iinc (v := x16) dX12_acceptsSample_50 rfl ex16 (by decide) (ls' := [some (.ref p0), some (.int v1), some (.int x16)]) rfl ?_
    refine q_goto (tgt := 19) dX12_acceptsSample_53 (by decide) ?_
    cases E
    exact r_fewer [some (.ref p0), some (.int v1), some (.int x16)] (ls_s (ls_s (ls_s ls_0))) hK
theorem s_X12_acceptsSample_19 {l : Launch} {G : mG} {Q : Option Value → mH → Prop} {X : String → mH → Prop} (p0 : Nat) (v1 : Int32) (v2 : Int32) (h : mH) {o : Int32 × mH} (E : g_X12_acceptsSample_19 p0 v1 v2 h = some o) (hK : (fiI Q) o) : mW l G m_X12_acceptsSample 2 0 0 19 [some (.ref p0), some (.int v1), some (.int v2)] [] h Q X :=
  (lp_go (w_X12_acceptsSample_19 l G Q X p0 v1) (fiI Q) (b_X12_acceptsSample_19 p0 v1) (fun s o E hK => sb_X12_acceptsSample_19 p0 v1 s.1 (s.2) E hK) _ _ _ E hK : w_X12_acceptsSample_19 l G Q X p0 v1 (v2, h))
set_option maxRecDepth 100000 in
set_option maxHeartbeats 4000000 in
theorem s_X12_acceptsSample_0 {l : Launch} {G : mG} {Q : Option Value → mH → Prop} {X : String → mH → Prop} (p0 : Nat) (v1 : Int32) (h : mH) {o : Int32 × mH} (E : f_X12_acceptsSample p0 v1 h = some o) (hK : (fiI Q) o) : mW l G m_X12_acceptsSample 2 0 0 0 [some (.ref p0), some (.int v1), none] [] h Q X := by
  unfold f_X12_acceptsSample at E
  refine q_aload_n dX12_acceptsSample_0 rfl ?_
  refine q_aload_n dX12_acceptsSample_1 rfl ?_
  replace E := grd_some E
  obtain ⟨g1, E⟩ := E
  replace E := orf_some E
  obtain ⟨a2, ea2, E⟩ := E
  refine r_getR dX12_acceptsSample_2 FX12_7 g1 ea2 ?_
  refine q_sipush (v := (Int32.ofInt 176)) dX12_acceptsSample_5 (by decide) ?_
  refine q_bipush (v := (Int32.ofInt 9)) dX12_acceptsSample_8 (by decide) ?_
  refine q_iload_n dX12_acceptsSample_10 rfl ?_
  refine q_imul dX12_acceptsSample_11 ?_
  refine q_iadd dX12_acceptsSample_12 ?_
  replace E := grd_some E
  obtain ⟨g3, E⟩ := E
  replace E := grd_some E
  obtain ⟨g4, E⟩ := E
  refine r_iaload dX12_acceptsSample_13 g3 g4 ?_
  replace E := bnd_x E
  obtain ⟨h5, eh5, E⟩ := E
  refine r_putI (hh := eh5) dX12_acceptsSample_14 FX12_236 g1 rfl rfl ?_
  refine q_iconst dX12_acceptsSample_17 ?_
  refine r_istore_n dX12_acceptsSample_18 (by decide) rfl (ls' := [some (.ref p0), some (.int v1), some (.int (Int32.ofInt 0))]) rfl ?_
  exact r_fewer [some (.ref p0), some (.int v1), some (.int (Int32.ofInt 0))] (ls_s (ls_s (ls_s ls_0))) (s_X12_acceptsSample_19 p0 v1 (Int32.ofInt 0) h5 E hK)
theorem c_X12_acceptsSample {l : Launch} {G : mG} {p0 : Nat} {v1 : Int32} {h h' : mH} {r : Int32} (E : f_X12_acceptsSample p0 v1 h = some (r, h')) : mMet l G m_X12_acceptsSample 2 0 0 [.ref p0, .int v1] h (fun v k => v = some (.int r) ∧ h' = k) (fun _ _ => False) :=
  mMet_of (by decide +kernel) rfl (ac_c rfl (ac_c rfl ac_0)) (Nat.le_of_ble_eq_true rfl) (s_X12_acceptsSample_0 p0 v1 h E (And.intro rfl rfl))
set_option maxRecDepth 100000 in
set_option maxHeartbeats 4000000 in
theorem s_X12_acceptsWord_26 {l : Launch} {G : mG} {Q : Option Value → mH → Prop} {X : String → mH → Prop} (s0 : Int32) (h : mH) {o : Int32 × mH} (E : g_X12_acceptsWord_26 s0 h = some o) (hK : (fiI Q) o) : mW l G m_X12_acceptsWord 3 0 0 26 [none, none, none] [.int s0] h Q X := by
  unfold g_X12_acceptsWord_26 at E
  replace E := grd_some E
  obtain ⟨g1, E⟩ := E
  cases E
  exact q_zreturn dX12_acceptsWord_26 rfl (narZ g1) hK
set_option maxRecDepth 100000 in
set_option maxHeartbeats 4000000 in
theorem s_X12_acceptsWord_48 {l : Launch} {G : mG} {Q : Option Value → mH → Prop} {X : String → mH → Prop} (s0 : Int32) (h : mH) {o : Int32 × mH} (E : g_X12_acceptsWord_48 s0 h = some o) (hK : (fiI Q) o) : mW l G m_X12_acceptsWord 3 0 0 48 [none, none, none] [.int s0] h Q X := by
  unfold g_X12_acceptsWord_48 at E
  replace E := grd_some E
  obtain ⟨g1, E⟩ := E
  cases E
  exact q_zreturn dX12_acceptsWord_48 rfl (narZ g1) hK
set_option maxRecDepth 100000 in
set_option maxHeartbeats 4000000 in
theorem s_X12_acceptsWord_0 {l : Launch} {G : mG} {Q : Option Value → mH → Prop} {X : String → mH → Prop} (p0 : Nat) (v1 : Int32) (v2 : Int32) (h : mH) {o : Int32 × mH} (E : f_X12_acceptsWord p0 v1 v2 h = some o) (hK : (fiI Q) o) : mW l G m_X12_acceptsWord 3 0 0 0 [some (.ref p0), some (.int v1), some (.int v2)] [] h Q X := by
  unfold f_X12_acceptsWord at E
  refine q_aload_n dX12_acceptsWord_0 rfl ?_
  refine q_iconst dX12_acceptsWord_1 ?_
  replace E := grd_some E
  obtain ⟨g1, E⟩ := E
  replace E := bnd_x E
  obtain ⟨h2, eh2, E⟩ := E
  refine r_putI (hh := eh2) dX12_acceptsWord_2 FX12_117 g1 rfl rfl ?_
  refine q_aload_n dX12_acceptsWord_5 rfl ?_
  refine q_iload_n dX12_acceptsWord_6 rfl ?_
  replace E := grd_some E
  obtain ⟨g5, E⟩ := E
  replace E := cal_some E
  obtain ⟨x4, h3, hc, E⟩ := E
  refine r_callV1 (mc := 0) (ms := 0) dX12_acceptsWord_7 KX12_211 (c_X12_holds hc) g5 (by decide) (Nat.le_of_ble_eq_true rfl) (fun _ _ q => q.elim) ?_
  rintro _ _ ⟨rfl, rfl⟩
  clear hc
  refine q_if_ne (tgt := 27) dX12_acceptsWord_10 (by decide) (fun z6 => ?_) (fun z6 => ?_)
  · replace E := ite_f E z6
    refine q_aload_n dX12_acceptsWord_27 rfl ?_
    refine q_iload_n dX12_acceptsWord_28 rfl ?_
    replace E := grd_some E
    obtain ⟨g9, E⟩ := E
    replace E := cal_some E
    obtain ⟨x8, h7, hc, E⟩ := E
    refine r_callV1 (mc := 0) (ms := 0) dX12_acceptsWord_29 KX12_250 (c_X12_isWord hc) g9 (by decide) (Nat.le_of_ble_eq_true rfl) (fun _ _ q => q.elim) ?_
    rintro _ _ ⟨rfl, rfl⟩
    clear hc
    refine q_if_ne (tgt := 49) dX12_acceptsWord_32 (by decide) (fun z10 => ?_) (fun z10 => ?_)
    · replace E := ite_f E z10
      refine q_aload_n dX12_acceptsWord_49 rfl ?_
      refine q_iconst dX12_acceptsWord_50 ?_
      refine q_iload_n dX12_acceptsWord_51 rfl ?_
      replace E := grd_some E
      obtain ⟨g13, E⟩ := E
      replace E := cal_some E
      obtain ⟨_, h11, hc, E⟩ := E
      refine r_callV2 (mc := 0) (ms := 0) dX12_acceptsWord_52 KX12_280 (c_X12_builds hc) g13 (by decide) (Nat.le_of_ble_eq_true rfl) (fun _ _ q => q.elim) ?_
      rintro _ _ ⟨rfl, rfl⟩
      clear hc
      refine q_aload_n dX12_acceptsWord_55 rfl ?_
      refine q_iload_n dX12_acceptsWord_56 rfl ?_
      replace E := grd_some E
      obtain ⟨g16, E⟩ := E
      replace E := cal_some E
      obtain ⟨x15, h14, hc, E⟩ := E
      refine r_callV1 (mc := 0) (ms := 0) dX12_acceptsWord_57 KX12_334 (c_X12_acceptsSample hc) g16 (by decide) (Nat.le_of_ble_eq_true rfl) (fun _ _ q => q.elim) ?_
      rintro _ _ ⟨rfl, rfl⟩
      clear hc
      replace E := grd_some E
      obtain ⟨g17, E⟩ := E
      cases E
      exact q_zreturn dX12_acceptsWord_60 rfl (narZ g17) hK
    · replace E := ite_t E z10
      refine q_aload_n dX12_acceptsWord_35 rfl ?_
      refine q_iconst dX12_acceptsWord_36 ?_
      replace E := grd_some E
      obtain ⟨g20, E⟩ := E
      replace E := cal_some E
      obtain ⟨x19, h18, hc, E⟩ := E
      refine r_callV1 (mc := 0) (ms := 0) dX12_acceptsWord_37 KX12_196 (c_X12_fails hc) g20 (by decide) (Nat.le_of_ble_eq_true rfl) (fun _ _ q => q.elim) ?_
      rintro _ _ ⟨rfl, rfl⟩
      clear hc
      refine q_if_le (tgt := 47) dX12_acceptsWord_40 (by decide) (fun z21 => ?_) (fun z21 => ?_)
      · replace E := ite_t E z21
        refine q_iconst dX12_acceptsWord_47 ?_
        exact r_fewer [none, none, none] (ls_n (ls_n (ls_n ls_0))) (s_X12_acceptsWord_48 (Int32.ofInt 0) h18 E hK)
      · replace E := ite_f E z21
        refine q_iconst dX12_acceptsWord_43 ?_
        refine q_goto (tgt := 48) dX12_acceptsWord_44 (by decide) ?_
        exact r_fewer [none, none, none] (ls_n (ls_n (ls_n ls_0))) (s_X12_acceptsWord_48 (Int32.ofInt 1) h18 E hK)
  · replace E := ite_t E z6
    refine q_aload_n dX12_acceptsWord_13 rfl ?_
    refine q_iconst dX12_acceptsWord_14 ?_
    replace E := grd_some E
    obtain ⟨g24, E⟩ := E
    replace E := cal_some E
    obtain ⟨x23, h22, hc, E⟩ := E
    refine r_callV1 (mc := 0) (ms := 0) dX12_acceptsWord_15 KX12_196 (c_X12_fails hc) g24 (by decide) (Nat.le_of_ble_eq_true rfl) (fun _ _ q => q.elim) ?_
    rintro _ _ ⟨rfl, rfl⟩
    clear hc
    refine q_if_le (tgt := 25) dX12_acceptsWord_18 (by decide) (fun z25 => ?_) (fun z25 => ?_)
    · replace E := ite_t E z25
      refine q_iconst dX12_acceptsWord_25 ?_
      exact r_fewer [none, none, none] (ls_n (ls_n (ls_n ls_0))) (s_X12_acceptsWord_26 (Int32.ofInt 0) h22 E hK)
    · replace E := ite_f E z25
      refine q_iconst dX12_acceptsWord_21 ?_
      refine q_goto (tgt := 26) dX12_acceptsWord_22 (by decide) ?_
      exact r_fewer [none, none, none] (ls_n (ls_n (ls_n ls_0))) (s_X12_acceptsWord_26 (Int32.ofInt 1) h22 E hK)
theorem c_X12_acceptsWord {l : Launch} {G : mG} {p0 : Nat} {v1 : Int32} {v2 : Int32} {h h' : mH} {r : Int32} (E : f_X12_acceptsWord p0 v1 v2 h = some (r, h')) : mMet l G m_X12_acceptsWord 3 0 0 [.ref p0, .int v1, .int v2] h (fun v k => v = some (.int r) ∧ h' = k) (fun _ _ => False) :=
  mMet_of (by decide +kernel) rfl (ac_c rfl (ac_c rfl (ac_c rfl ac_0))) (Nat.le_of_ble_eq_true rfl) (s_X12_acceptsWord_0 p0 v1 v2 h E (And.intro rfl rfl))
set_option maxRecDepth 100000 in
set_option maxHeartbeats 4000000 in
theorem s_X12_accepted_34 {l : Launch} {G : mG} {Q : Option Value → mH → Prop} {X : String → mH → Prop} (p0 : Nat) (v3 : Int32) (s0 : Int32) (s1 : Int32) (h : mH) {o : ((Int32 × Int32 × mH) ⊕ (Int32 × mH))} (E : g_X12_accepted_34 p0 v3 s0 s1 h = some o) (hK : (lpK (w_X12_accepted_10 l G Q X p0) (fiI Q)) o) : mW l G m_X12_accepted 3 0 0 34 [some (.ref p0), none, none, some (.int v3)] [.int s0, .int s1] h Q X := by
  unfold g_X12_accepted_34 at E
  refine q_iadd dX12_accepted_34 ?_
  replace E := bnd_x E
  obtain ⟨x1, ex1, E⟩ := E
  refine r_istore_n dX12_accepted_35 (by decide) ex1 (ls' := [some (.ref p0), none, some (.int x1), some (.int v3)]) rfl ?_
  replace E := bnd_x E
  obtain ⟨x2, ex2, E⟩ := E
  refine r_iinc (v := x2) dX12_accepted_36 rfl ex2 (by decide) (ls' := [some (.ref p0), none, some (.int x1), some (.int x2)]) rfl ?_
  refine q_goto (tgt := 10) dX12_accepted_39 (by decide) ?_
  cases E
  exact r_fewer [some (.ref p0), none, some (.int x1), some (.int x2)] (ls_s (ls_n (ls_s (ls_s ls_0)))) hK
set_option maxRecDepth 100000 in
set_option maxHeartbeats 4000000 in
theorem sb_X12_accepted_10 {l : Launch} {G : mG} {Q : Option Value → mH → Prop} {X : String → mH → Prop} (p0 : Nat) (v2 : Int32) (v3 : Int32) (h : mH) {o : ((Int32 × Int32 × mH) ⊕ (Int32 × mH))} (E : b0_X12_accepted_10 p0 v2 v3 h = some o) (hK : (lpK (w_X12_accepted_10 l G Q X p0) (fiI Q)) o) : mW l G m_X12_accepted 3 0 0 10 [some (.ref p0), none, some (.int v2), some (.int v3)] [] h Q X := by
  unfold b0_X12_accepted_10 at E
  refine q_iload_n dX12_accepted_10 rfl ?_
  refine q_aload_n dX12_accepted_11 rfl ?_
  replace E := grd_some E
  obtain ⟨g1, E⟩ := E
  replace E := orf_some E
  obtain ⟨a2, ea2, E⟩ := E
  refine r_getR dX12_accepted_12 FX12_7 g1 ea2 ?_
  refine q_iconst dX12_accepted_15 ?_
  replace E := grd_some E
  obtain ⟨g3, E⟩ := E
  replace E := grd_some E
  obtain ⟨g4, E⟩ := E
  refine r_iaload dX12_accepted_16 g3 g4 ?_
  refine q_icmp_ge (tgt := 42) dX12_accepted_17 (by decide) (fun z5 => ?_) (fun z5 => ?_)
  · replace E := ite_t E z5
    refine q_iload_n dX12_accepted_42 rfl ?_
    cases E
    exact q_ireturn dX12_accepted_43 rfl hK
  · replace E := ite_f E z5
    refine q_iload_n dX12_accepted_20 rfl ?_
    refine q_aload_n dX12_accepted_21 rfl ?_
    refine q_iload_n dX12_accepted_22 rfl ?_
    replace E := cal_some E
    obtain ⟨x7, h6, hc, E⟩ := E
    refine r_callV1 (mc := 0) (ms := 0) dX12_accepted_23 KX12_334 (c_X12_acceptsSample hc) g1 (by decide) (Nat.le_of_ble_eq_true rfl) (fun _ _ q => q.elim) ?_
    rintro _ _ ⟨rfl, rfl⟩
    clear hc
    refine q_if_eq (tgt := 33) dX12_accepted_26 (by decide) (fun z8 => ?_) (fun z8 => ?_)
    · replace E := ite_t E z8
      refine q_iconst dX12_accepted_33 ?_
      exact r_fewer [some (.ref p0), none, none, some (.int v3)] (ls_s (ls_n (ls_n (ls_s ls_0)))) (s_X12_accepted_34 p0 v3 (Int32.ofInt 0) v2 h6 E hK)
    · replace E := ite_f E z8
      refine q_iconst dX12_accepted_29 ?_
      refine q_goto (tgt := 34) dX12_accepted_30 (by decide) ?_
      exact r_fewer [some (.ref p0), none, none, some (.int v3)] (ls_s (ls_n (ls_n (ls_s ls_0)))) (s_X12_accepted_34 p0 v3 (Int32.ofInt 1) v2 h6 E hK)
theorem s_X12_accepted_10 {l : Launch} {G : mG} {Q : Option Value → mH → Prop} {X : String → mH → Prop} (p0 : Nat) (v2 : Int32) (v3 : Int32) (h : mH) {o : Int32 × mH} (E : g_X12_accepted_10 p0 v2 v3 h = some o) (hK : (fiI Q) o) : mW l G m_X12_accepted 3 0 0 10 [some (.ref p0), none, some (.int v2), some (.int v3)] [] h Q X :=
  (lp_go (w_X12_accepted_10 l G Q X p0) (fiI Q) (b_X12_accepted_10 p0) (fun s o E hK => sb_X12_accepted_10 p0 s.1 s.2.1 (s.2.2) E hK) _ _ _ E hK : w_X12_accepted_10 l G Q X p0 (v2, v3, h))
set_option maxRecDepth 100000 in
set_option maxHeartbeats 4000000 in
theorem s_X12_accepted_0 {l : Launch} {G : mG} {Q : Option Value → mH → Prop} {X : String → mH → Prop} (p0 : Nat) (v1 : Int32) (h : mH) {o : Int32 × mH} (E : f_X12_accepted p0 v1 h = some o) (hK : (fiI Q) o) : mW l G m_X12_accepted 3 0 0 0 [some (.ref p0), some (.int v1), none, none] [] h Q X := by
  unfold f_X12_accepted at E
  refine q_aload_n dX12_accepted_0 rfl ?_
  refine q_iconst dX12_accepted_1 ?_
  refine q_iload_n dX12_accepted_2 rfl ?_
  replace E := grd_some E
  obtain ⟨g3, E⟩ := E
  replace E := cal_some E
  obtain ⟨_, h1, hc, E⟩ := E
  refine r_callV2 (mc := 0) (ms := 0) dX12_accepted_3 KX12_280 (c_X12_builds hc) g3 (by decide) (Nat.le_of_ble_eq_true rfl) (fun _ _ q => q.elim) ?_
  rintro _ _ ⟨rfl, rfl⟩
  clear hc
  refine q_iconst dX12_accepted_6 ?_
  refine r_istore_n dX12_accepted_7 (by decide) rfl (ls' := [some (.ref p0), some (.int v1), some (.int (Int32.ofInt 0)), none]) rfl ?_
  refine q_iconst dX12_accepted_8 ?_
  refine r_istore_n dX12_accepted_9 (by decide) rfl (ls' := [some (.ref p0), some (.int v1), some (.int (Int32.ofInt 0)), some (.int (Int32.ofInt 0))]) rfl ?_
  exact r_fewer [some (.ref p0), none, some (.int (Int32.ofInt 0)), some (.int (Int32.ofInt 0))] (ls_s (ls_n (ls_s (ls_s ls_0)))) (s_X12_accepted_10 p0 (Int32.ofInt 0) (Int32.ofInt 0) h1 E hK)
theorem c_X12_accepted {l : Launch} {G : mG} {p0 : Nat} {v1 : Int32} {h h' : mH} {r : Int32} (E : f_X12_accepted p0 v1 h = some (r, h')) : mMet l G m_X12_accepted 3 0 0 [.ref p0, .int v1] h (fun v k => v = some (.int r) ∧ h' = k) (fun _ _ => False) :=
  mMet_of (by decide +kernel) rfl (ac_c rfl (ac_c rfl ac_0)) (Nat.le_of_ble_eq_true rfl) (s_X12_accepted_0 p0 v1 h E (And.intro rfl rfl))
set_option maxRecDepth 100000 in
set_option maxHeartbeats 4000000 in
theorem s_X12_acceptedWords_26 {l : Launch} {G : mG} {Q : Option Value → mH → Prop} {X : String → mH → Prop} (s0 : Int32) (h : mH) {o : Int32 × mH} (E : g_X12_acceptedWords_26 s0 h = some o) (hK : (fiI Q) o) : mW l G m_X12_acceptedWords 4 0 0 26 [none, none] [.int s0] h Q X := by
  unfold g_X12_acceptedWords_26 at E
  cases E
  exact q_ireturn dX12_acceptedWords_26 rfl hK
set_option maxRecDepth 100000 in
set_option maxHeartbeats 4000000 in
theorem s_X12_acceptedWords_0 {l : Launch} {G : mG} {Q : Option Value → mH → Prop} {X : String → mH → Prop} (p0 : Nat) (v1 : Int32) (h : mH) {o : Int32 × mH} (E : f_X12_acceptedWords p0 v1 h = some o) (hK : (fiI Q) o) : mW l G m_X12_acceptedWords 4 0 0 0 [some (.ref p0), some (.int v1)] [] h Q X := by
  unfold f_X12_acceptedWords at E
  refine q_aload_n dX12_acceptedWords_0 rfl ?_
  refine q_iconst dX12_acceptedWords_1 ?_
  replace E := grd_some E
  obtain ⟨g1, E⟩ := E
  replace E := bnd_x E
  obtain ⟨h2, eh2, E⟩ := E
  refine r_putI (hh := eh2) dX12_acceptedWords_2 FX12_117 g1 rfl rfl ?_
  refine q_aload_n dX12_acceptedWords_5 rfl ?_
  refine q_iload_n dX12_acceptedWords_6 rfl ?_
  replace E := grd_some E
  obtain ⟨g5, E⟩ := E
  replace E := cal_some E
  obtain ⟨x4, h3, hc, E⟩ := E
  refine r_callV1 (mc := 0) (ms := 0) dX12_acceptedWords_7 KX12_211 (c_X12_holds hc) g5 (by decide) (Nat.le_of_ble_eq_true rfl) (fun _ _ q => q.elim) ?_
  rintro _ _ ⟨rfl, rfl⟩
  clear hc
  refine q_if_eq (tgt := 21) dX12_acceptedWords_10 (by decide) (fun z6 => ?_) (fun z6 => ?_)
  · replace E := ite_t E z6
    refine q_aload_n dX12_acceptedWords_21 rfl ?_
    refine q_iconst dX12_acceptedWords_22 ?_
    replace E := grd_some E
    obtain ⟨g9, E⟩ := E
    replace E := cal_some E
    obtain ⟨x8, h7, hc, E⟩ := E
    refine r_callV1 (mc := 0) (ms := 0) dX12_acceptedWords_23 KX12_196 (c_X12_fails hc) g9 (by decide) (Nat.le_of_ble_eq_true rfl) (fun _ _ q => q.elim) ?_
    rintro _ _ ⟨rfl, rfl⟩
    clear hc
    exact r_fewer [none, none] (ls_n (ls_n ls_0)) (s_X12_acceptedWords_26 x8 h7 E hK)
  · replace E := ite_f E z6
    refine q_aload_n dX12_acceptedWords_13 rfl ?_
    refine q_iload_n dX12_acceptedWords_14 rfl ?_
    replace E := grd_some E
    obtain ⟨g12, E⟩ := E
    replace E := cal_some E
    obtain ⟨x11, h10, hc, E⟩ := E
    refine r_callV1 (mc := 0) (ms := 0) dX12_acceptedWords_15 KX12_337 (c_X12_accepted hc) g12 (by decide) (Nat.le_of_ble_eq_true rfl) (fun _ _ q => q.elim) ?_
    rintro _ _ ⟨rfl, rfl⟩
    clear hc
    refine q_goto (tgt := 26) dX12_acceptedWords_18 (by decide) ?_
    exact r_fewer [none, none] (ls_n (ls_n ls_0)) (s_X12_acceptedWords_26 x11 h10 E hK)
theorem c_X12_acceptedWords {l : Launch} {G : mG} {p0 : Nat} {v1 : Int32} {h h' : mH} {r : Int32} (E : f_X12_acceptedWords p0 v1 h = some (r, h')) : mMet l G m_X12_acceptedWords 4 0 0 [.ref p0, .int v1] h (fun v k => v = some (.int r) ∧ h' = k) (fun _ _ => False) :=
  mMet_of (by decide +kernel) rfl (ac_c rfl (ac_c rfl ac_0)) (Nat.le_of_ble_eq_true rfl) (s_X12_acceptedWords_0 p0 v1 h E (And.intro rfl rfl))
set_option maxRecDepth 100000 in
set_option maxHeartbeats 4000000 in
theorem s_X12_countWords_67 {l : Launch} {G : mG} {Q : Option Value → mH → Prop} {X : String → mH → Prop} (p0 : Nat) (v2 : Int32) (v3 : Int32) (s0 : Int32) (s1 : Int32) (sp2 : Nat) (h : mH) {o : ((Int32 × mH) ⊕ (Int32 × mH))} (E : g_X12_countWords_67 p0 v2 v3 s0 s1 sp2 h = some o) (hK : (lpK (w_X12_countWords_43 l G Q X p0 v2) (fiI Q)) o) : mW l G m_X12_countWords 3 0 0 67 [some (.ref p0), none, some (.int v2), some (.int v3), none, none] [.int s0, .int s1, .ref sp2] h Q X := by
  unfold g_X12_countWords_67 at E
  replace E := grd_some E
  obtain ⟨g2, E⟩ := E
  replace E := grd_some E
  obtain ⟨g3, E⟩ := E
  replace E := bnd_x E
  obtain ⟨h1, eh1, E⟩ := E
  refine r_iastore (hh := eh1) dX12_countWords_67 g2 g3 ?_
  replace E := bnd_x E
  obtain ⟨x4, ex4, E⟩ := E
  refine r_iinc (v := x4) dX12_countWords_68 rfl ex4 (by decide) (ls' := [some (.ref p0), none, some (.int v2), some (.int x4), none, none]) rfl ?_
  refine q_goto (tgt := 43) dX12_countWords_71 (by decide) ?_
  cases E
  exact r_fewer [some (.ref p0), none, some (.int v2), some (.int x4), none, none] (ls_s (ls_n (ls_s (ls_s (ls_n (ls_n ls_0)))))) hK
set_option maxRecDepth 100000 in
set_option maxHeartbeats 4000000 in
theorem sb_X12_countWords_120 {l : Launch} {G : mG} {Q : Option Value → mH → Prop} {X : String → mH → Prop} (p0 : Nat) (v2 : Int32) (v3 : Int32) (v4 : Int32) (v5 : Int32) (h : mH) {o : ((Int32 × mH) ⊕ ((Int32 × mH) ⊕ ((Int32 × mH) ⊕ (Int32 × mH))))} (E : b0_X12_countWords_120 p0 v2 v3 v4 v5 h = some o) (hK : (lpK (w_X12_countWords_120 l G Q X p0 v2 v3 v4) (lpK (w_X12_countWords_109 l G Q X p0 v2 v3) (lpK (w_X12_countWords_76 l G Q X p0 v2) (fiI Q)))) o) : mW l G m_X12_countWords 3 0 0 120 [some (.ref p0), none, some (.int v2), some (.int v3), some (.int v4), some (.int v5)] [] h Q X := by
  unfold b0_X12_countWords_120 at E
  refine q_iload dX12_countWords_120 rfl ?_
  refine q_iconst dX12_countWords_122 ?_
  refine q_icmp_ge (tgt := 156) dX12_countWords_123 (by decide) (fun z1 => ?_) (fun z1 => ?_)
  · replace E := ite_t E z1
    replace E := bnd_x E
    obtain ⟨x2, ex2, E⟩ := E
    refine r_iinc (v := x2) dX12_countWords_156 rfl ex2 (by decide) (ls' := [some (.ref p0), none, some (.int v2), some (.int v3), some (.int x2), some (.int v5)]) rfl ?_
    refine q_goto (tgt := 109) dX12_countWords_159 (by decide) ?_
    cases E
    exact r_fewer [some (.ref p0), none, some (.int v2), some (.int v3), some (.int x2), none] (ls_s (ls_n (ls_s (ls_s (ls_s (ls_n ls_0)))))) hK
  · replace E := ite_f E z1
    refine q_aload_n dX12_countWords_126 rfl ?_
    replace E := grd_some E
    obtain ⟨g3, E⟩ := E
    replace E := orf_some E
    obtain ⟨a4, ea4, E⟩ := E
    refine r_getR dX12_countWords_127 FX12_99 g3 ea4 ?_
    refine q_aload_n dX12_countWords_130 rfl ?_
    refine q_iconst dX12_countWords_131 ?_
    refine q_iload dX12_countWords_132 rfl ?_
    refine q_iload dX12_countWords_134 rfl ?_
    replace E := cal_some E
    obtain ⟨x6, h5, hc, E⟩ := E
    refine r_callV3 (mc := 0) (ms := 0) dX12_countWords_136 KX12_277 (c_X12_to hc) g3 (by decide) (Nat.le_of_ble_eq_true rfl) (fun _ _ q => q.elim) ?_
    rintro _ _ ⟨rfl, rfl⟩
    clear hc
    refine q_dup2 dX12_countWords_139 ?_
    replace E := grd_some E
    obtain ⟨g7, E⟩ := E
    replace E := grd_some E
    obtain ⟨g8, E⟩ := E
    refine r_iaload dX12_countWords_140 g7 g8 ?_
    refine q_aload_n dX12_countWords_141 rfl ?_
    replace E := grd_some E
    obtain ⟨g9, E⟩ := E
    replace E := orf_some E
    obtain ⟨a10, ea10, E⟩ := E
    refine r_getR dX12_countWords_142 FX12_96 g9 ea10 ?_
    refine q_iload dX12_countWords_145 rfl ?_
    replace E := grd_some E
    obtain ⟨g11, E⟩ := E
    replace E := grd_some E
    obtain ⟨g12, E⟩ := E
    refine r_iaload dX12_countWords_147 g11 g12 ?_
    refine q_iadd dX12_countWords_148 ?_
    replace E := bnd_x E
    obtain ⟨h13, eh13, E⟩ := E
    refine r_iastore (hh := eh13) dX12_countWords_149 g7 g8 ?_
    replace E := bnd_x E
    obtain ⟨x14, ex14, E⟩ := E
    refine r_iinc (v := x14) dX12_countWords_150 rfl ex14 (by decide) (ls' := [some (.ref p0), none, some (.int v2), some (.int v3), some (.int v4), some (.int x14)]) rfl ?_
    refine q_goto (tgt := 120) dX12_countWords_153 (by decide) ?_
    cases E
    exact r_fewer [some (.ref p0), none, some (.int v2), some (.int v3), some (.int v4), some (.int x14)] (ls_s (ls_n (ls_s (ls_s (ls_s (ls_s ls_0)))))) hK
theorem s_X12_countWords_120 {l : Launch} {G : mG} {Q : Option Value → mH → Prop} {X : String → mH → Prop} (p0 : Nat) (v2 : Int32) (v3 : Int32) (v4 : Int32) (v5 : Int32) (h : mH) {o : ((Int32 × mH) ⊕ ((Int32 × mH) ⊕ (Int32 × mH)))} (E : g_X12_countWords_120 p0 v2 v3 v4 v5 h = some o) (hK : (lpK (w_X12_countWords_109 l G Q X p0 v2 v3) (lpK (w_X12_countWords_76 l G Q X p0 v2) (fiI Q))) o) : mW l G m_X12_countWords 3 0 0 120 [some (.ref p0), none, some (.int v2), some (.int v3), some (.int v4), some (.int v5)] [] h Q X :=
  (lp_go (w_X12_countWords_120 l G Q X p0 v2 v3 v4) (lpK (w_X12_countWords_109 l G Q X p0 v2 v3) (lpK (w_X12_countWords_76 l G Q X p0 v2) (fiI Q))) (b_X12_countWords_120 p0 v2 v3 v4) (fun s o E hK => sb_X12_countWords_120 p0 v2 v3 v4 s.1 (s.2) E hK) _ _ _ E hK : w_X12_countWords_120 l G Q X p0 v2 v3 v4 (v5, h))
set_option maxRecDepth 100000 in
set_option maxHeartbeats 4000000 in
theorem sb_X12_countWords_165 {l : Launch} {G : mG} {Q : Option Value → mH → Prop} {X : String → mH → Prop} (p0 : Nat) (v2 : Int32) (v3 : Int32) (v4 : Int32) (h : mH) {o : ((Int32 × mH) ⊕ ((Int32 × mH) ⊕ (Int32 × mH)))} (E : b0_X12_countWords_165 p0 v2 v3 v4 h = some o) (hK : (lpK (w_X12_countWords_165 l G Q X p0 v2 v3) (lpK (w_X12_countWords_76 l G Q X p0 v2) (fiI Q))) o) : mW l G m_X12_countWords 3 0 0 165 [some (.ref p0), none, some (.int v2), some (.int v3), some (.int v4), none] [] h Q X := by
  unfold b0_X12_countWords_165 at E
  refine q_iload dX12_countWords_165 rfl ?_
  refine q_sipush (v := (Int32.ofInt 129)) dX12_countWords_167 (by decide) ?_
  refine q_icmp_ge (tgt := 193) dX12_countWords_170 (by decide) (fun z1 => ?_) (fun z1 => ?_)
  · replace E := ite_t E z1
    replace E := bnd_x E
    obtain ⟨x2, ex2, E⟩ := E
    refine r_iinc (v := x2) dX12_countWords_193 rfl ex2 (by decide) (ls' := [some (.ref p0), none, some (.int v2), some (.int x2), some (.int v4), none]) rfl ?_
    refine q_goto (tgt := 76) dX12_countWords_196 (by decide) ?_
    cases E
    exact r_fewer [some (.ref p0), none, some (.int v2), some (.int x2), none, none] (ls_s (ls_n (ls_s (ls_s (ls_n (ls_n ls_0)))))) hK
  · replace E := ite_f E z1
    refine q_aload_n dX12_countWords_173 rfl ?_
    replace E := grd_some E
    obtain ⟨g3, E⟩ := E
    replace E := orf_some E
    obtain ⟨a4, ea4, E⟩ := E
    refine r_getR dX12_countWords_174 FX12_96 g3 ea4 ?_
    refine q_iload dX12_countWords_177 rfl ?_
    refine q_aload_n dX12_countWords_179 rfl ?_
    replace E := orf_some E
    obtain ⟨a5, ea5, E⟩ := E
    refine r_getR dX12_countWords_180 FX12_99 g3 ea5 ?_
    refine q_iload dX12_countWords_183 rfl ?_
    replace E := grd_some E
    obtain ⟨g6, E⟩ := E
    replace E := grd_some E
    obtain ⟨g7, E⟩ := E
    refine r_iaload dX12_countWords_185 g6 g7 ?_
    replace E := grd_some E
    obtain ⟨g9, E⟩ := E
    replace E := grd_some E
    obtain ⟨g10, E⟩ := E
    replace E := bnd_x E
    obtain ⟨h8, eh8, E⟩ := E
    refine r_iastore (hh := eh8) dX12_countWords_186 g9 g10 ?_
    replace E := bnd_x E
    obtain ⟨x11, ex11, E⟩ := E
    refine r_iinc (v := x11) dX12_countWords_187 rfl ex11 (by decide) (ls' := [some (.ref p0), none, some (.int v2), some (.int v3), some (.int x11), none]) rfl ?_
    refine q_goto (tgt := 165) dX12_countWords_190 (by decide) ?_
    cases E
    exact r_fewer [some (.ref p0), none, some (.int v2), some (.int v3), some (.int x11), none] (ls_s (ls_n (ls_s (ls_s (ls_s (ls_n ls_0)))))) hK
theorem s_X12_countWords_165 {l : Launch} {G : mG} {Q : Option Value → mH → Prop} {X : String → mH → Prop} (p0 : Nat) (v2 : Int32) (v3 : Int32) (v4 : Int32) (h : mH) {o : ((Int32 × mH) ⊕ (Int32 × mH))} (E : g_X12_countWords_165 p0 v2 v3 v4 h = some o) (hK : (lpK (w_X12_countWords_76 l G Q X p0 v2) (fiI Q)) o) : mW l G m_X12_countWords 3 0 0 165 [some (.ref p0), none, some (.int v2), some (.int v3), some (.int v4), none] [] h Q X :=
  (lp_go (w_X12_countWords_165 l G Q X p0 v2 v3) (lpK (w_X12_countWords_76 l G Q X p0 v2) (fiI Q)) (b_X12_countWords_165 p0 v2 v3) (fun s o E hK => sb_X12_countWords_165 p0 v2 v3 s.1 (s.2) E hK) _ _ _ E hK : w_X12_countWords_165 l G Q X p0 v2 v3 (v4, h))
set_option maxRecDepth 100000 in
set_option maxHeartbeats 4000000 in
theorem sb_X12_countWords_109 {l : Launch} {G : mG} {Q : Option Value → mH → Prop} {X : String → mH → Prop} (p0 : Nat) (v2 : Int32) (v3 : Int32) (v4 : Int32) (h : mH) {o : ((Int32 × mH) ⊕ ((Int32 × mH) ⊕ (Int32 × mH)))} (E : b0_X12_countWords_109 p0 v2 v3 v4 h = some o) (hK : (lpK (w_X12_countWords_109 l G Q X p0 v2 v3) (lpK (w_X12_countWords_76 l G Q X p0 v2) (fiI Q))) o) : mW l G m_X12_countWords 3 0 0 109 [some (.ref p0), none, some (.int v2), some (.int v3), some (.int v4), none] [] h Q X := by
  unfold b0_X12_countWords_109 at E
  refine q_iload dX12_countWords_109 rfl ?_
  refine q_sipush (v := (Int32.ofInt 129)) dX12_countWords_111 (by decide) ?_
  refine q_icmp_ge (tgt := 162) dX12_countWords_114 (by decide) (fun z1 => ?_) (fun z1 => ?_)
  · replace E := ite_t E z1
    refine q_iconst dX12_countWords_162 ?_
    refine r_istore dX12_countWords_163 (by decide) rfl (ls' := [some (.ref p0), none, some (.int v2), some (.int v3), some (.int (Int32.ofInt 0)), none]) rfl ?_
    obtain ⟨o0, E0, rfl⟩ := inrO_some E
    exact r_fewer [some (.ref p0), none, some (.int v2), some (.int v3), some (.int (Int32.ofInt 0)), none] (ls_s (ls_n (ls_s (ls_s (ls_s (ls_n ls_0)))))) (s_X12_countWords_165 p0 v2 v3 (Int32.ofInt 0) h E0 hK)
  · replace E := ite_f E z1
    refine q_iconst dX12_countWords_117 ?_
    refine r_istore dX12_countWords_118 (by decide) rfl (ls' := [some (.ref p0), none, some (.int v2), some (.int v3), some (.int v4), some (.int (Int32.ofInt 0))]) rfl ?_
    exact r_fewer [some (.ref p0), none, some (.int v2), some (.int v3), some (.int v4), some (.int (Int32.ofInt 0))] (ls_s (ls_n (ls_s (ls_s (ls_s (ls_s ls_0)))))) (s_X12_countWords_120 p0 v2 v3 v4 (Int32.ofInt 0) h E hK)
theorem s_X12_countWords_109 {l : Launch} {G : mG} {Q : Option Value → mH → Prop} {X : String → mH → Prop} (p0 : Nat) (v2 : Int32) (v3 : Int32) (v4 : Int32) (h : mH) {o : ((Int32 × mH) ⊕ (Int32 × mH))} (E : g_X12_countWords_109 p0 v2 v3 v4 h = some o) (hK : (lpK (w_X12_countWords_76 l G Q X p0 v2) (fiI Q)) o) : mW l G m_X12_countWords 3 0 0 109 [some (.ref p0), none, some (.int v2), some (.int v3), some (.int v4), none] [] h Q X :=
  (lp_go (w_X12_countWords_109 l G Q X p0 v2 v3) (lpK (w_X12_countWords_76 l G Q X p0 v2) (fiI Q)) (b_X12_countWords_109 p0 v2 v3) (fun s o E hK => sb_X12_countWords_109 p0 v2 v3 s.1 (s.2) E hK) _ _ _ E hK : w_X12_countWords_109 l G Q X p0 v2 v3 (v4, h))
set_option maxRecDepth 100000 in
set_option maxHeartbeats 4000000 in
theorem sb_X12_countWords_84 {l : Launch} {G : mG} {Q : Option Value → mH → Prop} {X : String → mH → Prop} (p0 : Nat) (v2 : Int32) (v3 : Int32) (v4 : Int32) (h : mH) {o : ((Int32 × mH) ⊕ ((Int32 × mH) ⊕ (Int32 × mH)))} (E : b0_X12_countWords_84 p0 v2 v3 v4 h = some o) (hK : (lpK (w_X12_countWords_84 l G Q X p0 v2 v3) (lpK (w_X12_countWords_76 l G Q X p0 v2) (fiI Q))) o) : mW l G m_X12_countWords 3 0 0 84 [some (.ref p0), none, some (.int v2), some (.int v3), some (.int v4), none] [] h Q X := by
  unfold b0_X12_countWords_84 at E
  refine q_iload dX12_countWords_84 rfl ?_
  refine q_sipush (v := (Int32.ofInt 129)) dX12_countWords_86 (by decide) ?_
  refine q_icmp_ge (tgt := 106) dX12_countWords_89 (by decide) (fun z1 => ?_) (fun z1 => ?_)
  · replace E := ite_t E z1
    refine q_iconst dX12_countWords_106 ?_
    refine r_istore dX12_countWords_107 (by decide) rfl (ls' := [some (.ref p0), none, some (.int v2), some (.int v3), some (.int (Int32.ofInt 0)), none]) rfl ?_
    obtain ⟨o0, E0, rfl⟩ := inrO_some E
    exact r_fewer [some (.ref p0), none, some (.int v2), some (.int v3), some (.int (Int32.ofInt 0)), none] (ls_s (ls_n (ls_s (ls_s (ls_s (ls_n ls_0)))))) (s_X12_countWords_109 p0 v2 v3 (Int32.ofInt 0) h E0 hK)
  · replace E := ite_f E z1
    refine q_aload_n dX12_countWords_92 rfl ?_
    replace E := grd_some E
    obtain ⟨g2, E⟩ := E
    replace E := orf_some E
    obtain ⟨a3, ea3, E⟩ := E
    refine r_getR dX12_countWords_93 FX12_99 g2 ea3 ?_
    refine q_iload dX12_countWords_96 rfl ?_
    refine q_iconst dX12_countWords_98 ?_
    replace E := grd_some E
    obtain ⟨g5, E⟩ := E
    replace E := grd_some E
    obtain ⟨g6, E⟩ := E
    replace E := bnd_x E
    obtain ⟨h4, eh4, E⟩ := E
    refine r_iastore (hh := eh4) dX12_countWords_99 g5 g6 ?_
    replace E := bnd_x E
    obtain ⟨x7, ex7, E⟩ := E
    refine r_iinc (v := x7) dX12_countWords_100 rfl ex7 (by decide) (ls' := [some (.ref p0), none, some (.int v2), some (.int v3), some (.int x7), none]) rfl ?_
    refine q_goto (tgt := 84) dX12_countWords_103 (by decide) ?_
    cases E
    exact r_fewer [some (.ref p0), none, some (.int v2), some (.int v3), some (.int x7), none] (ls_s (ls_n (ls_s (ls_s (ls_s (ls_n ls_0)))))) hK
theorem s_X12_countWords_84 {l : Launch} {G : mG} {Q : Option Value → mH → Prop} {X : String → mH → Prop} (p0 : Nat) (v2 : Int32) (v3 : Int32) (v4 : Int32) (h : mH) {o : ((Int32 × mH) ⊕ (Int32 × mH))} (E : g_X12_countWords_84 p0 v2 v3 v4 h = some o) (hK : (lpK (w_X12_countWords_76 l G Q X p0 v2) (fiI Q)) o) : mW l G m_X12_countWords 3 0 0 84 [some (.ref p0), none, some (.int v2), some (.int v3), some (.int v4), none] [] h Q X :=
  (lp_go (w_X12_countWords_84 l G Q X p0 v2 v3) (lpK (w_X12_countWords_76 l G Q X p0 v2) (fiI Q)) (b_X12_countWords_84 p0 v2 v3) (fun s o E hK => sb_X12_countWords_84 p0 v2 v3 s.1 (s.2) E hK) _ _ _ E hK : w_X12_countWords_84 l G Q X p0 v2 v3 (v4, h))
set_option maxRecDepth 100000 in
set_option maxHeartbeats 4000000 in
theorem s_X12_countWords_234 {l : Launch} {G : mG} {Q : Option Value → mH → Prop} {X : String → mH → Prop} (p0 : Nat) (v4 : Int32) (s0 : Int32) (s1 : Int32) (h : mH) {o : ((Int32 × Int32 × mH) ⊕ (Int32 × mH))} (E : g_X12_countWords_234 p0 v4 s0 s1 h = some o) (hK : (lpK (w_X12_countWords_204 l G Q X p0) (fiI Q)) o) : mW l G m_X12_countWords 3 0 0 234 [some (.ref p0), none, none, none, some (.int v4), none] [.int s0, .int s1] h Q X := by
  unfold g_X12_countWords_234 at E
  refine q_iadd dX12_countWords_234 ?_
  replace E := bnd_x E
  obtain ⟨x1, ex1, E⟩ := E
  refine r_istore_n dX12_countWords_235 (by decide) ex1 (ls' := [some (.ref p0), none, none, some (.int x1), some (.int v4), none]) rfl ?_
  replace E := bnd_x E
  obtain ⟨x2, ex2, E⟩ := E
  refine r_iinc (v := x2) dX12_countWords_236 rfl ex2 (by decide) (ls' := [some (.ref p0), none, none, some (.int x1), some (.int x2), none]) rfl ?_
  refine q_goto (tgt := 204) dX12_countWords_239 (by decide) ?_
  cases E
  exact r_fewer [some (.ref p0), none, none, some (.int x1), some (.int x2), none] (ls_s (ls_n (ls_n (ls_s (ls_s (ls_n ls_0)))))) hK
set_option maxRecDepth 100000 in
set_option maxHeartbeats 4000000 in
theorem sb_X12_countWords_204 {l : Launch} {G : mG} {Q : Option Value → mH → Prop} {X : String → mH → Prop} (p0 : Nat) (v3 : Int32) (v4 : Int32) (h : mH) {o : ((Int32 × Int32 × mH) ⊕ (Int32 × mH))} (E : b0_X12_countWords_204 p0 v3 v4 h = some o) (hK : (lpK (w_X12_countWords_204 l G Q X p0) (fiI Q)) o) : mW l G m_X12_countWords 3 0 0 204 [some (.ref p0), none, none, some (.int v3), some (.int v4), none] [] h Q X := by
  unfold b0_X12_countWords_204 at E
  refine q_iload dX12_countWords_204 rfl ?_
  refine q_sipush (v := (Int32.ofInt 129)) dX12_countWords_206 (by decide) ?_
  refine q_icmp_ge (tgt := 242) dX12_countWords_209 (by decide) (fun z1 => ?_) (fun z1 => ?_)
  · replace E := ite_t E z1
    refine q_iload_n dX12_countWords_242 rfl ?_
    cases E
    exact q_ireturn dX12_countWords_243 rfl hK
  · replace E := ite_f E z1
    refine q_iload_n dX12_countWords_212 rfl ?_
    refine q_aload_n dX12_countWords_213 rfl ?_
    refine q_iconst dX12_countWords_214 ?_
    refine q_iload dX12_countWords_215 rfl ?_
    replace E := grd_some E
    obtain ⟨g4, E⟩ := E
    replace E := cal_some E
    obtain ⟨x3, h2, hc, E⟩ := E
    refine r_callV2 (mc := 0) (ms := 0) dX12_countWords_217 KX12_286 (c_X12_accepts hc) g4 (by decide) (Nat.le_of_ble_eq_true rfl) (fun _ _ q => q.elim) ?_
    rintro _ _ ⟨rfl, rfl⟩
    clear hc
    refine q_if_eq (tgt := 233) dX12_countWords_220 (by decide) (fun z5 => ?_) (fun z5 => ?_)
    · replace E := ite_t E z5
      refine q_iconst dX12_countWords_233 ?_
      exact r_fewer [some (.ref p0), none, none, none, some (.int v4), none] (ls_s (ls_n (ls_n (ls_n (ls_s (ls_n ls_0)))))) (s_X12_countWords_234 p0 v4 (Int32.ofInt 0) v3 h2 E hK)
    · replace E := ite_f E z5
      refine q_aload_n dX12_countWords_223 rfl ?_
      replace E := grd_some E
      obtain ⟨g6, E⟩ := E
      replace E := orf_some E
      obtain ⟨a7, ea7, E⟩ := E
      refine r_getR dX12_countWords_224 FX12_96 g6 ea7 ?_
      refine q_iload dX12_countWords_227 rfl ?_
      replace E := grd_some E
      obtain ⟨g8, E⟩ := E
      replace E := grd_some E
      obtain ⟨g9, E⟩ := E
      refine r_iaload dX12_countWords_229 g8 g9 ?_
      refine q_goto (tgt := 234) dX12_countWords_230 (by decide) ?_
      exact r_fewer [some (.ref p0), none, none, none, some (.int v4), none] (ls_s (ls_n (ls_n (ls_n (ls_s (ls_n ls_0)))))) (s_X12_countWords_234 p0 v4 (gi h2 a7 v4.toNatClampNeg) v3 h2 E hK)
theorem s_X12_countWords_204 {l : Launch} {G : mG} {Q : Option Value → mH → Prop} {X : String → mH → Prop} (p0 : Nat) (v3 : Int32) (v4 : Int32) (h : mH) {o : Int32 × mH} (E : g_X12_countWords_204 p0 v3 v4 h = some o) (hK : (fiI Q) o) : mW l G m_X12_countWords 3 0 0 204 [some (.ref p0), none, none, some (.int v3), some (.int v4), none] [] h Q X :=
  (lp_go (w_X12_countWords_204 l G Q X p0) (fiI Q) (b_X12_countWords_204 p0) (fun s o E hK => sb_X12_countWords_204 p0 s.1 s.2.1 (s.2.2) E hK) _ _ _ E hK : w_X12_countWords_204 l G Q X p0 (v3, v4, h))
set_option maxRecDepth 100000 in
set_option maxHeartbeats 4000000 in
theorem sb_X12_countWords_76 {l : Launch} {G : mG} {Q : Option Value → mH → Prop} {X : String → mH → Prop} (p0 : Nat) (v2 : Int32) (v3 : Int32) (h : mH) {o : ((Int32 × mH) ⊕ (Int32 × mH))} (E : b0_X12_countWords_76 p0 v2 v3 h = some o) (hK : (lpK (w_X12_countWords_76 l G Q X p0 v2) (fiI Q)) o) : mW l G m_X12_countWords 3 0 0 76 [some (.ref p0), none, some (.int v2), some (.int v3), none, none] [] h Q X := by
  unfold b0_X12_countWords_76 at E
  refine q_iload_n dX12_countWords_76 rfl ?_
  refine q_iload_n dX12_countWords_77 rfl ?_
  refine q_icmp_ge (tgt := 199) dX12_countWords_78 (by decide) (fun z1 => ?_) (fun z1 => ?_)
  · replace E := ite_t E z1
    refine q_iconst dX12_countWords_199 ?_
    refine r_istore_n dX12_countWords_200 (by decide) rfl (ls' := [some (.ref p0), none, some (.int v2), some (.int (Int32.ofInt 0)), none, none]) rfl ?_
    refine q_iconst dX12_countWords_201 ?_
    refine r_istore dX12_countWords_202 (by decide) rfl (ls' := [some (.ref p0), none, some (.int v2), some (.int (Int32.ofInt 0)), some (.int (Int32.ofInt 0)), none]) rfl ?_
    obtain ⟨o0, E0, rfl⟩ := inrO_some E
    exact r_fewer [some (.ref p0), none, none, some (.int (Int32.ofInt 0)), some (.int (Int32.ofInt 0)), none] (ls_s (ls_n (ls_n (ls_s (ls_s (ls_n ls_0)))))) (s_X12_countWords_204 p0 (Int32.ofInt 0) (Int32.ofInt 0) h E0 hK)
  · replace E := ite_f E z1
    refine q_iconst dX12_countWords_81 ?_
    refine r_istore dX12_countWords_82 (by decide) rfl (ls' := [some (.ref p0), none, some (.int v2), some (.int v3), some (.int (Int32.ofInt 0)), none]) rfl ?_
    exact r_fewer [some (.ref p0), none, some (.int v2), some (.int v3), some (.int (Int32.ofInt 0)), none] (ls_s (ls_n (ls_s (ls_s (ls_s (ls_n ls_0)))))) (s_X12_countWords_84 p0 v2 v3 (Int32.ofInt 0) h E hK)
theorem s_X12_countWords_76 {l : Launch} {G : mG} {Q : Option Value → mH → Prop} {X : String → mH → Prop} (p0 : Nat) (v2 : Int32) (v3 : Int32) (h : mH) {o : Int32 × mH} (E : g_X12_countWords_76 p0 v2 v3 h = some o) (hK : (fiI Q) o) : mW l G m_X12_countWords 3 0 0 76 [some (.ref p0), none, some (.int v2), some (.int v3), none, none] [] h Q X :=
  (lp_go (w_X12_countWords_76 l G Q X p0 v2) (fiI Q) (b_X12_countWords_76 p0 v2) (fun s o E hK => sb_X12_countWords_76 p0 v2 s.1 (s.2) E hK) _ _ _ E hK : w_X12_countWords_76 l G Q X p0 v2 (v3, h))
set_option maxRecDepth 100000 in
set_option maxHeartbeats 4000000 in
theorem sb_X12_countWords_43 {l : Launch} {G : mG} {Q : Option Value → mH → Prop} {X : String → mH → Prop} (p0 : Nat) (v2 : Int32) (v3 : Int32) (h : mH) {o : ((Int32 × mH) ⊕ (Int32 × mH))} (E : b0_X12_countWords_43 p0 v2 v3 h = some o) (hK : (lpK (w_X12_countWords_43 l G Q X p0 v2) (fiI Q)) o) : mW l G m_X12_countWords 3 0 0 43 [some (.ref p0), none, some (.int v2), some (.int v3), none, none] [] h Q X := by
  unfold b0_X12_countWords_43 at E
  refine q_iload_n dX12_countWords_43 rfl ?_
  refine q_sipush (v := (Int32.ofInt 129)) dX12_countWords_44 (by decide) ?_
  refine q_icmp_ge (tgt := 74) dX12_countWords_47 (by decide) (fun z1 => ?_) (fun z1 => ?_)
  · replace E := ite_t E z1
    refine q_iconst dX12_countWords_74 ?_
    refine r_istore_n dX12_countWords_75 (by decide) rfl (ls' := [some (.ref p0), none, some (.int v2), some (.int (Int32.ofInt 0)), none, none]) rfl ?_
    obtain ⟨o0, E0, rfl⟩ := inrO_some E
    exact r_fewer [some (.ref p0), none, some (.int v2), some (.int (Int32.ofInt 0)), none, none] (ls_s (ls_n (ls_s (ls_s (ls_n (ls_n ls_0)))))) (s_X12_countWords_76 p0 v2 (Int32.ofInt 0) h E0 hK)
  · replace E := ite_f E z1
    refine q_aload_n dX12_countWords_50 rfl ?_
    replace E := grd_some E
    obtain ⟨g2, E⟩ := E
    replace E := orf_some E
    obtain ⟨a3, ea3, E⟩ := E
    refine r_getR dX12_countWords_51 FX12_96 g2 ea3 ?_
    refine q_iload_n dX12_countWords_54 rfl ?_
    refine q_iload_n dX12_countWords_55 rfl ?_
    refine q_sipush (v := (Int32.ofInt 128)) dX12_countWords_56 (by decide) ?_
    refine q_icmp_ne (tgt := 66) dX12_countWords_59 (by decide) (fun z4 => ?_) (fun z4 => ?_)
    · replace E := ite_f E z4
      refine q_iconst dX12_countWords_66 ?_
      exact r_fewer [some (.ref p0), none, some (.int v2), some (.int v3), none, none] (ls_s (ls_n (ls_s (ls_s (ls_n (ls_n ls_0)))))) (s_X12_countWords_67 p0 v2 v3 (Int32.ofInt 0) v3 a3 h E hK)
    · replace E := ite_t E z4
      refine q_iconst dX12_countWords_62 ?_
      refine q_goto (tgt := 67) dX12_countWords_63 (by decide) ?_
      exact r_fewer [some (.ref p0), none, some (.int v2), some (.int v3), none, none] (ls_s (ls_n (ls_s (ls_s (ls_n (ls_n ls_0)))))) (s_X12_countWords_67 p0 v2 v3 (Int32.ofInt 1) v3 a3 h E hK)
theorem s_X12_countWords_43 {l : Launch} {G : mG} {Q : Option Value → mH → Prop} {X : String → mH → Prop} (p0 : Nat) (v2 : Int32) (v3 : Int32) (h : mH) {o : Int32 × mH} (E : g_X12_countWords_43 p0 v2 v3 h = some o) (hK : (fiI Q) o) : mW l G m_X12_countWords 3 0 0 43 [some (.ref p0), none, some (.int v2), some (.int v3), none, none] [] h Q X :=
  (lp_go (w_X12_countWords_43 l G Q X p0 v2) (fiI Q) (b_X12_countWords_43 p0 v2) (fun s o E hK => sb_X12_countWords_43 p0 v2 s.1 (s.2) E hK) _ _ _ E hK : w_X12_countWords_43 l G Q X p0 v2 (v3, h))
set_option maxRecDepth 100000 in
set_option maxHeartbeats 4000000 in
theorem s_X12_countWords_0 {l : Launch} {G : mG} {Q : Option Value → mH → Prop} {X : String → mH → Prop} (p0 : Nat) (v1 : Int32) (v2 : Int32) (h : mH) {o : Int32 × mH} (E : f_X12_countWords p0 v1 v2 h = some o) (hK : (fiI Q) o) : mW l G m_X12_countWords 3 0 0 0 [some (.ref p0), some (.int v1), some (.int v2), none, none, none] [] h Q X := by
  unfold f_X12_countWords at E
  refine q_aload_n dX12_countWords_0 rfl ?_
  refine q_iconst dX12_countWords_1 ?_
  replace E := grd_some E
  obtain ⟨g1, E⟩ := E
  replace E := bnd_x E
  obtain ⟨h2, eh2, E⟩ := E
  refine r_putI (hh := eh2) dX12_countWords_2 FX12_117 g1 rfl rfl ?_
  refine q_aload_n dX12_countWords_5 rfl ?_
  refine q_iload_n dX12_countWords_6 rfl ?_
  replace E := grd_some E
  obtain ⟨g5, E⟩ := E
  replace E := cal_some E
  obtain ⟨x4, h3, hc, E⟩ := E
  refine r_callV1 (mc := 0) (ms := 0) dX12_countWords_7 KX12_211 (c_X12_holds hc) g5 (by decide) (Nat.le_of_ble_eq_true rfl) (fun _ _ q => q.elim) ?_
  rintro _ _ ⟨rfl, rfl⟩
  clear hc
  refine q_if_ne (tgt := 19) dX12_countWords_10 (by decide) (fun z6 => ?_) (fun z6 => ?_)
  · replace E := ite_f E z6
    refine q_iload_n dX12_countWords_19 rfl ?_
    refine q_iconst dX12_countWords_20 ?_
    refine q_bipush (v := (Int32.ofInt 6)) dX12_countWords_21 (by decide) ?_
    replace E := cal_some E
    obtain ⟨x8, h7, hc, E⟩ := E
    refine r_callS3 (mc := 0) (ms := 0) dX12_countWords_23 KX12_132 (c_X12_isBetween hc) (by decide) (Nat.le_of_ble_eq_true rfl) (fun _ _ q => q.elim) ?_
    rintro _ _ ⟨rfl, rfl⟩
    clear hc
    refine q_if_ne (tgt := 35) dX12_countWords_26 (by decide) (fun z9 => ?_) (fun z9 => ?_)
    · replace E := ite_f E z9
      refine q_aload_n dX12_countWords_35 rfl ?_
      refine q_iconst dX12_countWords_36 ?_
      refine q_iload_n dX12_countWords_37 rfl ?_
      replace E := grd_some E
      obtain ⟨g12, E⟩ := E
      replace E := cal_some E
      obtain ⟨_, h10, hc, E⟩ := E
      refine r_callV2 (mc := 0) (ms := 0) dX12_countWords_38 KX12_280 (c_X12_builds hc) g12 (by decide) (Nat.le_of_ble_eq_true rfl) (fun _ _ q => q.elim) ?_
      rintro _ _ ⟨rfl, rfl⟩
      clear hc
      refine q_iconst dX12_countWords_41 ?_
      refine r_istore_n dX12_countWords_42 (by decide) rfl (ls' := [some (.ref p0), some (.int v1), some (.int v2), some (.int (Int32.ofInt 0)), none, none]) rfl ?_
      exact r_fewer [some (.ref p0), none, some (.int v2), some (.int (Int32.ofInt 0)), none, none] (ls_s (ls_n (ls_s (ls_s (ls_n (ls_n ls_0)))))) (s_X12_countWords_43 p0 v2 (Int32.ofInt 0) h10 E hK)
    · replace E := ite_t E z9
      refine q_aload_n dX12_countWords_29 rfl ?_
      refine q_iconst dX12_countWords_30 ?_
      replace E := grd_some E
      obtain ⟨g15, E⟩ := E
      replace E := cal_some E
      obtain ⟨x14, h13, hc, E⟩ := E
      refine r_callV1 (mc := 0) (ms := 0) dX12_countWords_31 KX12_196 (c_X12_fails hc) g15 (by decide) (Nat.le_of_ble_eq_true rfl) (fun _ _ q => q.elim) ?_
      rintro _ _ ⟨rfl, rfl⟩
      clear hc
      cases E
      exact q_ireturn dX12_countWords_34 rfl hK
  · replace E := ite_t E z6
    refine q_aload_n dX12_countWords_13 rfl ?_
    refine q_iconst dX12_countWords_14 ?_
    replace E := grd_some E
    obtain ⟨g18, E⟩ := E
    replace E := cal_some E
    obtain ⟨x17, h16, hc, E⟩ := E
    refine r_callV1 (mc := 0) (ms := 0) dX12_countWords_15 KX12_196 (c_X12_fails hc) g18 (by decide) (Nat.le_of_ble_eq_true rfl) (fun _ _ q => q.elim) ?_
    rintro _ _ ⟨rfl, rfl⟩
    clear hc
    cases E
    exact q_ireturn dX12_countWords_18 rfl hK
theorem c_X12_countWords {l : Launch} {G : mG} {p0 : Nat} {v1 : Int32} {v2 : Int32} {h h' : mH} {r : Int32} (E : f_X12_countWords p0 v1 v2 h = some (r, h')) : mMet l G m_X12_countWords 3 0 0 [.ref p0, .int v1, .int v2] h (fun v k => v = some (.int r) ∧ h' = k) (fun _ _ => False) :=
  mMet_of (by decide +kernel) rfl (ac_c rfl (ac_c rfl (ac_c rfl ac_0))) (Nat.le_of_ble_eq_true rfl) (s_X12_countWords_0 p0 v1 v2 h E (And.intro rfl rfl))
set_option maxRecDepth 100000 in
set_option maxHeartbeats 4000000 in
theorem s_X12_countWordsByListing_0 {l : Launch} {G : mG} {Q : Option Value → mH → Prop} {X : String → mH → Prop} (p0 : Nat) (v1 : Int32) (v2 : Int32) (h : mH) {o : Int32 × mH} (E : f_X12_countWordsByListing p0 v1 v2 h = some o) (hK : (fiI Q) o) : mW l G m_X12_countWordsByListing 4 0 0 0 [some (.ref p0), some (.int v1), some (.int v2)] [] h Q X := by
  unfold f_X12_countWordsByListing at E
  refine q_aload_n dX12_countWordsByListing_0 rfl ?_
  refine q_iload_n dX12_countWordsByListing_1 rfl ?_
  refine q_iload_n dX12_countWordsByListing_2 rfl ?_
  replace E := grd_some E
  obtain ⟨g3, E⟩ := E
  replace E := cal_some E
  obtain ⟨x2, h1, hc, E⟩ := E
  refine r_callV2 (mc := 0) (ms := 0) dX12_countWordsByListing_3 KX12_340 (c_X12_countWords hc) g3 (by decide) (Nat.le_of_ble_eq_true rfl) (fun _ _ q => q.elim) ?_
  rintro _ _ ⟨rfl, rfl⟩
  clear hc
  cases E
  exact q_ireturn dX12_countWordsByListing_6 rfl hK
theorem c_X12_countWordsByListing {l : Launch} {G : mG} {p0 : Nat} {v1 : Int32} {v2 : Int32} {h h' : mH} {r : Int32} (E : f_X12_countWordsByListing p0 v1 v2 h = some (r, h')) : mMet l G m_X12_countWordsByListing 4 0 0 [.ref p0, .int v1, .int v2] h (fun v k => v = some (.int r) ∧ h' = k) (fun _ _ => False) :=
  mMet_of (by decide +kernel) rfl (ac_c rfl (ac_c rfl (ac_c rfl ac_0))) (Nat.le_of_ble_eq_true rfl) (s_X12_countWordsByListing_0 p0 v1 v2 h E (And.intro rfl rfl))
set_option maxRecDepth 100000 in
set_option maxHeartbeats 4000000 in
theorem s_X12_shortestLength_0 {l : Launch} {G : mG} {Q : Option Value → mH → Prop} {X : String → mH → Prop} (p0 : Nat) (v1 : Int32) (h : mH) {o : Int32 × mH} (E : f_X12_shortestLength p0 v1 h = some o) (hK : (fiI Q) o) : mW l G m_X12_shortestLength 4 0 0 0 [some (.ref p0), some (.int v1)] [] h Q X := by
  unfold f_X12_shortestLength at E
  refine q_aload_n dX12_shortestLength_0 rfl ?_
  refine q_iconst dX12_shortestLength_1 ?_
  replace E := grd_some E
  obtain ⟨g1, E⟩ := E
  replace E := bnd_x E
  obtain ⟨h2, eh2, E⟩ := E
  refine r_putI (hh := eh2) dX12_shortestLength_2 FX12_117 g1 rfl rfl ?_
  refine q_aload_n dX12_shortestLength_5 rfl ?_
  refine q_iload_n dX12_shortestLength_6 rfl ?_
  replace E := grd_some E
  obtain ⟨g5, E⟩ := E
  replace E := cal_some E
  obtain ⟨x4, h3, hc, E⟩ := E
  refine r_callV1 (mc := 0) (ms := 0) dX12_shortestLength_7 KX12_211 (c_X12_holds hc) g5 (by decide) (Nat.le_of_ble_eq_true rfl) (fun _ _ q => q.elim) ?_
  rintro _ _ ⟨rfl, rfl⟩
  clear hc
  refine q_if_ne (tgt := 19) dX12_shortestLength_10 (by decide) (fun z6 => ?_) (fun z6 => ?_)
  · replace E := ite_f E z6
    refine q_aload_n dX12_shortestLength_19 rfl ?_
    refine q_iload_n dX12_shortestLength_20 rfl ?_
    replace E := grd_some E
    obtain ⟨g9, E⟩ := E
    replace E := cal_some E
    obtain ⟨_, h7, hc, E⟩ := E
    refine r_callV1 (mc := 0) (ms := 0) dX12_shortestLength_21 KX12_292 (c_X12_opens hc) g9 (by decide) (Nat.le_of_ble_eq_true rfl) (fun _ _ q => q.elim) ?_
    rintro _ _ ⟨rfl, rfl⟩
    clear hc
    refine q_aload_n dX12_shortestLength_24 rfl ?_
    replace E := grd_some E
    obtain ⟨g12, E⟩ := E
    replace E := cal_some E
    obtain ⟨_, h10, hc, E⟩ := E
    refine r_callV0 (mc := 0) (ms := 0) dX12_shortestLength_25 KX12_343 (c_X12_findsFar hc) g12 (by decide) (Nat.le_of_ble_eq_true rfl) (fun _ _ q => q.elim) ?_
    rintro _ _ ⟨rfl, rfl⟩
    clear hc
    refine q_aload_n dX12_shortestLength_28 rfl ?_
    replace E := grd_some E
    obtain ⟨g13, E⟩ := E
    replace E := orf_some E
    obtain ⟨a14, ea14, E⟩ := E
    refine r_getR dX12_shortestLength_29 FX12_84 g13 ea14 ?_
    refine q_sipush (v := (Int32.ofInt 128)) dX12_shortestLength_32 (by decide) ?_
    replace E := grd_some E
    obtain ⟨g15, E⟩ := E
    replace E := grd_some E
    obtain ⟨g16, E⟩ := E
    refine r_iaload dX12_shortestLength_35 g15 g16 ?_
    cases E
    exact q_ireturn dX12_shortestLength_36 rfl hK
  · replace E := ite_t E z6
    refine q_aload_n dX12_shortestLength_13 rfl ?_
    refine q_iconst dX12_shortestLength_14 ?_
    replace E := grd_some E
    obtain ⟨g19, E⟩ := E
    replace E := cal_some E
    obtain ⟨x18, h17, hc, E⟩ := E
    refine r_callV1 (mc := 0) (ms := 0) dX12_shortestLength_15 KX12_196 (c_X12_fails hc) g19 (by decide) (Nat.le_of_ble_eq_true rfl) (fun _ _ q => q.elim) ?_
    rintro _ _ ⟨rfl, rfl⟩
    clear hc
    cases E
    exact q_ireturn dX12_shortestLength_18 rfl hK
theorem c_X12_shortestLength {l : Launch} {G : mG} {p0 : Nat} {v1 : Int32} {h h' : mH} {r : Int32} (E : f_X12_shortestLength p0 v1 h = some (r, h')) : mMet l G m_X12_shortestLength 4 0 0 [.ref p0, .int v1] h (fun v k => v = some (.int r) ∧ h' = k) (fun _ _ => False) :=
  mMet_of (by decide +kernel) rfl (ac_c rfl (ac_c rfl ac_0)) (Nat.le_of_ble_eq_true rfl) (s_X12_shortestLength_0 p0 v1 h E (And.intro rfl rfl))
set_option maxRecDepth 100000 in
set_option maxHeartbeats 4000000 in
theorem s_X12_stateCount_0 {l : Launch} {G : mG} {Q : Option Value → mH → Prop} {X : String → mH → Prop} (p0 : Nat) (v1 : Int32) (h : mH) {o : Int32 × mH} (E : f_X12_stateCount p0 v1 h = some o) (hK : (fiI Q) o) : mW l G m_X12_stateCount 4 0 0 0 [some (.ref p0), some (.int v1)] [] h Q X := by
  unfold f_X12_stateCount at E
  refine q_aload_n dX12_stateCount_0 rfl ?_
  refine q_iconst dX12_stateCount_1 ?_
  replace E := grd_some E
  obtain ⟨g1, E⟩ := E
  replace E := bnd_x E
  obtain ⟨h2, eh2, E⟩ := E
  refine r_putI (hh := eh2) dX12_stateCount_2 FX12_117 g1 rfl rfl ?_
  refine q_aload_n dX12_stateCount_5 rfl ?_
  refine q_iload_n dX12_stateCount_6 rfl ?_
  replace E := grd_some E
  obtain ⟨g5, E⟩ := E
  replace E := cal_some E
  obtain ⟨x4, h3, hc, E⟩ := E
  refine r_callV1 (mc := 0) (ms := 0) dX12_stateCount_7 KX12_211 (c_X12_holds hc) g5 (by decide) (Nat.le_of_ble_eq_true rfl) (fun _ _ q => q.elim) ?_
  rintro _ _ ⟨rfl, rfl⟩
  clear hc
  refine q_if_ne (tgt := 19) dX12_stateCount_10 (by decide) (fun z6 => ?_) (fun z6 => ?_)
  · replace E := ite_f E z6
    refine q_aload_n dX12_stateCount_19 rfl ?_
    refine q_iload_n dX12_stateCount_20 rfl ?_
    replace E := grd_some E
    obtain ⟨g9, E⟩ := E
    replace E := cal_some E
    obtain ⟨_, h7, hc, E⟩ := E
    refine r_callV1 (mc := 0) (ms := 0) dX12_stateCount_21 KX12_292 (c_X12_opens hc) g9 (by decide) (Nat.le_of_ble_eq_true rfl) (fun _ _ q => q.elim) ?_
    rintro _ _ ⟨rfl, rfl⟩
    clear hc
    refine q_aload_n dX12_stateCount_24 rfl ?_
    replace E := grd_some E
    obtain ⟨g10, E⟩ := E
    refine r_getI dX12_stateCount_25 FX12_274 g10 ?_
    cases E
    exact q_ireturn dX12_stateCount_28 rfl hK
  · replace E := ite_t E z6
    refine q_aload_n dX12_stateCount_13 rfl ?_
    refine q_iconst dX12_stateCount_14 ?_
    replace E := grd_some E
    obtain ⟨g13, E⟩ := E
    replace E := cal_some E
    obtain ⟨x12, h11, hc, E⟩ := E
    refine r_callV1 (mc := 0) (ms := 0) dX12_stateCount_15 KX12_196 (c_X12_fails hc) g13 (by decide) (Nat.le_of_ble_eq_true rfl) (fun _ _ q => q.elim) ?_
    rintro _ _ ⟨rfl, rfl⟩
    clear hc
    cases E
    exact q_ireturn dX12_stateCount_18 rfl hK
theorem c_X12_stateCount {l : Launch} {G : mG} {p0 : Nat} {v1 : Int32} {h h' : mH} {r : Int32} (E : f_X12_stateCount p0 v1 h = some (r, h')) : mMet l G m_X12_stateCount 4 0 0 [.ref p0, .int v1] h (fun v k => v = some (.int r) ∧ h' = k) (fun _ _ => False) :=
  mMet_of (by decide +kernel) rfl (ac_c rfl (ac_c rfl ac_0)) (Nat.le_of_ble_eq_true rfl) (s_X12_stateCount_0 p0 v1 h E (And.intro rfl rfl))
set_option maxRecDepth 100000 in
set_option maxHeartbeats 4000000 in
theorem s_X12_acceptingCount_56 {l : Launch} {G : mG} {Q : Option Value → mH → Prop} {X : String → mH → Prop} (p0 : Nat) (v3 : Int32) (s0 : Int32) (s1 : Int32) (h : mH) {o : ((Int32 × Int32 × mH) ⊕ (Int32 × mH))} (E : g_X12_acceptingCount_56 p0 v3 s0 s1 h = some o) (hK : (lpK (w_X12_acceptingCount_28 l G Q X p0) (fiI Q)) o) : mW l G m_X12_acceptingCount 4 0 0 56 [some (.ref p0), none, none, some (.int v3)] [.int s0, .int s1] h Q X := by
  unfold g_X12_acceptingCount_56 at E
  refine q_iadd dX12_acceptingCount_56 ?_
  replace E := bnd_x E
  obtain ⟨x1, ex1, E⟩ := E
  refine r_istore_n dX12_acceptingCount_57 (by decide) ex1 (ls' := [some (.ref p0), none, some (.int x1), some (.int v3)]) rfl ?_
  replace E := bnd_x E
  obtain ⟨x2, ex2, E⟩ := E
  refine r_iinc (v := x2) dX12_acceptingCount_58 rfl ex2 (by decide) (ls' := [some (.ref p0), none, some (.int x1), some (.int x2)]) rfl ?_
  refine q_goto (tgt := 28) dX12_acceptingCount_61 (by decide) ?_
  cases E
  exact r_fewer [some (.ref p0), none, some (.int x1), some (.int x2)] (ls_s (ls_n (ls_s (ls_s ls_0)))) hK
set_option maxRecDepth 100000 in
set_option maxHeartbeats 4000000 in
theorem sb_X12_acceptingCount_28 {l : Launch} {G : mG} {Q : Option Value → mH → Prop} {X : String → mH → Prop} (p0 : Nat) (v2 : Int32) (v3 : Int32) (h : mH) {o : ((Int32 × Int32 × mH) ⊕ (Int32 × mH))} (E : b0_X12_acceptingCount_28 p0 v2 v3 h = some o) (hK : (lpK (w_X12_acceptingCount_28 l G Q X p0) (fiI Q)) o) : mW l G m_X12_acceptingCount 4 0 0 28 [some (.ref p0), none, some (.int v2), some (.int v3)] [] h Q X := by
  unfold b0_X12_acceptingCount_28 at E
  refine q_iload_n dX12_acceptingCount_28 rfl ?_
  refine q_aload_n dX12_acceptingCount_29 rfl ?_
  replace E := grd_some E
  obtain ⟨g1, E⟩ := E
  refine r_getI dX12_acceptingCount_30 FX12_274 g1 ?_
  refine q_icmp_ge (tgt := 64) dX12_acceptingCount_33 (by decide) (fun z2 => ?_) (fun z2 => ?_)
  · replace E := ite_t E z2
    refine q_iload_n dX12_acceptingCount_64 rfl ?_
    cases E
    exact q_ireturn dX12_acceptingCount_65 rfl hK
  · replace E := ite_f E z2
    refine q_iload_n dX12_acceptingCount_36 rfl ?_
    refine q_aload_n dX12_acceptingCount_37 rfl ?_
    refine q_iconst dX12_acceptingCount_38 ?_
    refine q_aload_n dX12_acceptingCount_39 rfl ?_
    replace E := orf_some E
    obtain ⟨a3, ea3, E⟩ := E
    refine r_getR dX12_acceptingCount_40 FX12_69 g1 ea3 ?_
    refine q_iload_n dX12_acceptingCount_43 rfl ?_
    replace E := grd_some E
    obtain ⟨g4, E⟩ := E
    replace E := grd_some E
    obtain ⟨g5, E⟩ := E
    refine r_iaload dX12_acceptingCount_44 g4 g5 ?_
    replace E := cal_some E
    obtain ⟨x7, h6, hc, E⟩ := E
    refine r_callV2 (mc := 0) (ms := 0) dX12_acceptingCount_45 KX12_286 (c_X12_accepts hc) g1 (by decide) (Nat.le_of_ble_eq_true rfl) (fun _ _ q => q.elim) ?_
    rintro _ _ ⟨rfl, rfl⟩
    clear hc
    refine q_if_eq (tgt := 55) dX12_acceptingCount_48 (by decide) (fun z8 => ?_) (fun z8 => ?_)
    · replace E := ite_t E z8
      refine q_iconst dX12_acceptingCount_55 ?_
      exact r_fewer [some (.ref p0), none, none, some (.int v3)] (ls_s (ls_n (ls_n (ls_s ls_0)))) (s_X12_acceptingCount_56 p0 v3 (Int32.ofInt 0) v2 h6 E hK)
    · replace E := ite_f E z8
      refine q_iconst dX12_acceptingCount_51 ?_
      refine q_goto (tgt := 56) dX12_acceptingCount_52 (by decide) ?_
      exact r_fewer [some (.ref p0), none, none, some (.int v3)] (ls_s (ls_n (ls_n (ls_s ls_0)))) (s_X12_acceptingCount_56 p0 v3 (Int32.ofInt 1) v2 h6 E hK)
theorem s_X12_acceptingCount_28 {l : Launch} {G : mG} {Q : Option Value → mH → Prop} {X : String → mH → Prop} (p0 : Nat) (v2 : Int32) (v3 : Int32) (h : mH) {o : Int32 × mH} (E : g_X12_acceptingCount_28 p0 v2 v3 h = some o) (hK : (fiI Q) o) : mW l G m_X12_acceptingCount 4 0 0 28 [some (.ref p0), none, some (.int v2), some (.int v3)] [] h Q X :=
  (lp_go (w_X12_acceptingCount_28 l G Q X p0) (fiI Q) (b_X12_acceptingCount_28 p0) (fun s o E hK => sb_X12_acceptingCount_28 p0 s.1 s.2.1 (s.2.2) E hK) _ _ _ E hK : w_X12_acceptingCount_28 l G Q X p0 (v2, v3, h))
set_option maxRecDepth 100000 in
set_option maxHeartbeats 4000000 in
theorem s_X12_acceptingCount_0 {l : Launch} {G : mG} {Q : Option Value → mH → Prop} {X : String → mH → Prop} (p0 : Nat) (v1 : Int32) (h : mH) {o : Int32 × mH} (E : f_X12_acceptingCount p0 v1 h = some o) (hK : (fiI Q) o) : mW l G m_X12_acceptingCount 4 0 0 0 [some (.ref p0), some (.int v1), none, none] [] h Q X := by
  unfold f_X12_acceptingCount at E
  refine q_aload_n dX12_acceptingCount_0 rfl ?_
  refine q_iconst dX12_acceptingCount_1 ?_
  replace E := grd_some E
  obtain ⟨g1, E⟩ := E
  replace E := bnd_x E
  obtain ⟨h2, eh2, E⟩ := E
  refine r_putI (hh := eh2) dX12_acceptingCount_2 FX12_117 g1 rfl rfl ?_
  refine q_aload_n dX12_acceptingCount_5 rfl ?_
  refine q_iload_n dX12_acceptingCount_6 rfl ?_
  replace E := grd_some E
  obtain ⟨g5, E⟩ := E
  replace E := cal_some E
  obtain ⟨x4, h3, hc, E⟩ := E
  refine r_callV1 (mc := 0) (ms := 0) dX12_acceptingCount_7 KX12_211 (c_X12_holds hc) g5 (by decide) (Nat.le_of_ble_eq_true rfl) (fun _ _ q => q.elim) ?_
  rintro _ _ ⟨rfl, rfl⟩
  clear hc
  refine q_if_ne (tgt := 19) dX12_acceptingCount_10 (by decide) (fun z6 => ?_) (fun z6 => ?_)
  · replace E := ite_f E z6
    refine q_aload_n dX12_acceptingCount_19 rfl ?_
    refine q_iload_n dX12_acceptingCount_20 rfl ?_
    replace E := grd_some E
    obtain ⟨g9, E⟩ := E
    replace E := cal_some E
    obtain ⟨_, h7, hc, E⟩ := E
    refine r_callV1 (mc := 0) (ms := 0) dX12_acceptingCount_21 KX12_292 (c_X12_opens hc) g9 (by decide) (Nat.le_of_ble_eq_true rfl) (fun _ _ q => q.elim) ?_
    rintro _ _ ⟨rfl, rfl⟩
    clear hc
    refine q_iconst dX12_acceptingCount_24 ?_
    refine r_istore_n dX12_acceptingCount_25 (by decide) rfl (ls' := [some (.ref p0), some (.int v1), some (.int (Int32.ofInt 0)), none]) rfl ?_
    refine q_iconst dX12_acceptingCount_26 ?_
    refine r_istore_n dX12_acceptingCount_27 (by decide) rfl (ls' := [some (.ref p0), some (.int v1), some (.int (Int32.ofInt 0)), some (.int (Int32.ofInt 0))]) rfl ?_
    exact r_fewer [some (.ref p0), none, some (.int (Int32.ofInt 0)), some (.int (Int32.ofInt 0))] (ls_s (ls_n (ls_s (ls_s ls_0)))) (s_X12_acceptingCount_28 p0 (Int32.ofInt 0) (Int32.ofInt 0) h7 E hK)
  · replace E := ite_t E z6
    refine q_aload_n dX12_acceptingCount_13 rfl ?_
    refine q_iconst dX12_acceptingCount_14 ?_
    replace E := grd_some E
    obtain ⟨g12, E⟩ := E
    replace E := cal_some E
    obtain ⟨x11, h10, hc, E⟩ := E
    refine r_callV1 (mc := 0) (ms := 0) dX12_acceptingCount_15 KX12_196 (c_X12_fails hc) g12 (by decide) (Nat.le_of_ble_eq_true rfl) (fun _ _ q => q.elim) ?_
    rintro _ _ ⟨rfl, rfl⟩
    clear hc
    cases E
    exact q_ireturn dX12_acceptingCount_18 rfl hK
theorem c_X12_acceptingCount {l : Launch} {G : mG} {p0 : Nat} {v1 : Int32} {h h' : mH} {r : Int32} (E : f_X12_acceptingCount p0 v1 h = some (r, h')) : mMet l G m_X12_acceptingCount 4 0 0 [.ref p0, .int v1] h (fun v k => v = some (.int r) ∧ h' = k) (fun _ _ => False) :=
  mMet_of (by decide +kernel) rfl (ac_c rfl (ac_c rfl ac_0)) (Nat.le_of_ble_eq_true rfl) (s_X12_acceptingCount_0 p0 v1 h E (And.intro rfl rfl))
set_option maxRecDepth 100000 in
set_option maxHeartbeats 4000000 in
theorem s_X12_smallestCount_26 {l : Launch} {G : mG} {Q : Option Value → mH → Prop} {X : String → mH → Prop} (s0 : Int32) (h : mH) {o : Int32 × mH} (E : g_X12_smallestCount_26 s0 h = some o) (hK : (fiI Q) o) : mW l G m_X12_smallestCount 5 0 0 26 [none, none] [.int s0] h Q X := by
  unfold g_X12_smallestCount_26 at E
  cases E
  exact q_ireturn dX12_smallestCount_26 rfl hK
set_option maxRecDepth 100000 in
set_option maxHeartbeats 4000000 in
theorem s_X12_smallestCount_0 {l : Launch} {G : mG} {Q : Option Value → mH → Prop} {X : String → mH → Prop} (p0 : Nat) (v1 : Int32) (h : mH) {o : Int32 × mH} (E : f_X12_smallestCount p0 v1 h = some o) (hK : (fiI Q) o) : mW l G m_X12_smallestCount 5 0 0 0 [some (.ref p0), some (.int v1)] [] h Q X := by
  unfold f_X12_smallestCount at E
  refine q_aload_n dX12_smallestCount_0 rfl ?_
  refine q_iconst dX12_smallestCount_1 ?_
  replace E := grd_some E
  obtain ⟨g1, E⟩ := E
  replace E := bnd_x E
  obtain ⟨h2, eh2, E⟩ := E
  refine r_putI (hh := eh2) dX12_smallestCount_2 FX12_117 g1 rfl rfl ?_
  refine q_aload_n dX12_smallestCount_5 rfl ?_
  refine q_iload_n dX12_smallestCount_6 rfl ?_
  replace E := grd_some E
  obtain ⟨g5, E⟩ := E
  replace E := cal_some E
  obtain ⟨x4, h3, hc, E⟩ := E
  refine r_callV1 (mc := 0) (ms := 0) dX12_smallestCount_7 KX12_211 (c_X12_holds hc) g5 (by decide) (Nat.le_of_ble_eq_true rfl) (fun _ _ q => q.elim) ?_
  rintro _ _ ⟨rfl, rfl⟩
  clear hc
  refine q_if_eq (tgt := 21) dX12_smallestCount_10 (by decide) (fun z6 => ?_) (fun z6 => ?_)
  · replace E := ite_t E z6
    refine q_aload_n dX12_smallestCount_21 rfl ?_
    refine q_iconst dX12_smallestCount_22 ?_
    replace E := grd_some E
    obtain ⟨g9, E⟩ := E
    replace E := cal_some E
    obtain ⟨x8, h7, hc, E⟩ := E
    refine r_callV1 (mc := 0) (ms := 0) dX12_smallestCount_23 KX12_196 (c_X12_fails hc) g9 (by decide) (Nat.le_of_ble_eq_true rfl) (fun _ _ q => q.elim) ?_
    rintro _ _ ⟨rfl, rfl⟩
    clear hc
    exact r_fewer [none, none] (ls_n (ls_n ls_0)) (s_X12_smallestCount_26 x8 h7 E hK)
  · replace E := ite_f E z6
    refine q_aload_n dX12_smallestCount_13 rfl ?_
    refine q_iload_n dX12_smallestCount_14 rfl ?_
    replace E := grd_some E
    obtain ⟨g12, E⟩ := E
    replace E := cal_some E
    obtain ⟨x11, h10, hc, E⟩ := E
    refine r_callV1 (mc := 0) (ms := 0) dX12_smallestCount_15 KX12_346 (c_X12_smallest hc) g12 (by decide) (Nat.le_of_ble_eq_true rfl) (fun _ _ q => q.elim) ?_
    rintro _ _ ⟨rfl, rfl⟩
    clear hc
    refine q_goto (tgt := 26) dX12_smallestCount_18 (by decide) ?_
    exact r_fewer [none, none] (ls_n (ls_n ls_0)) (s_X12_smallestCount_26 x11 h10 E hK)
theorem c_X12_smallestCount {l : Launch} {G : mG} {p0 : Nat} {v1 : Int32} {h h' : mH} {r : Int32} (E : f_X12_smallestCount p0 v1 h = some (r, h')) : mMet l G m_X12_smallestCount 5 0 0 [.ref p0, .int v1] h (fun v k => v = some (.int r) ∧ h' = k) (fun _ _ => False) :=
  mMet_of (by decide +kernel) rfl (ac_c rfl (ac_c rfl ac_0)) (Nat.le_of_ble_eq_true rfl) (s_X12_smallestCount_0 p0 v1 h E (And.intro rfl rfl))
