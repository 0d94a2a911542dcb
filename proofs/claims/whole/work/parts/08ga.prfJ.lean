set_option maxRecDepth 100000 in
set_option maxHeartbeats 4000000 in
theorem sb_J7_fill_53178_5 {l : Launch} {G : mG} {Q : Option Value → mH → Prop} {X : String → mH → Prop} (p0 : Nat) (v1 : Int32) (v2 : Int32) (v3 : Int32) (h : mH) {o : ((Int32 × mH) ⊕ (Unit × mH))} (E : b0_J7_fill_53178_5 p0 v1 v2 v3 h = some o) (hK : (lpK (w_J7_fill_53178_5 l G Q X p0 v1 v3) (fiV Q)) o) : mW l G m_J7_fill_53178 0 0 0 5 [some (.ref p0), some (.int v1), some (.int v2), some (.int v3)] [] h Q X := by
  unfold b0_J7_fill_53178_5 at E
  refine q_iload_n dJ7_fill_53178_5 rfl ?_
  refine q_iload_n dJ7_fill_53178_6 rfl ?_
  refine q_icmp_ge (tgt := 20) dJ7_fill_53178_7 (by decide) (fun z1 => ?_) (fun z1 => ?_)
  · replace E := ite_t E z1
    cases E
    exact q_return dJ7_fill_53178_20 rfl hK
  · replace E := ite_f E z1
    refine q_aload_n dJ7_fill_53178_10 rfl ?_
    refine q_iload_n dJ7_fill_53178_11 rfl ?_
    refine q_iload_n dJ7_fill_53178_12 rfl ?_
    replace E := grd_some E
    obtain ⟨g3, E⟩ := E
    replace E := grd_some E
    obtain ⟨g4, E⟩ := E
    replace E := bnd_x E
    obtain ⟨h2, eh2, E⟩ := E
    refine r_iastore (hh := eh2) dJ7_fill_53178_13 g3 g4 ?_
    replace E := bnd_x E
    obtain ⟨x5, ex5, E⟩ := E
    refine r_iinc (v := x5) dJ7_fill_53178_14 rfl ex5 (by decide) (ls' := [some (.ref p0), some (.int v1), some (.int x5), some (.int v3)]) rfl ?_
    refine q_goto (tgt := 5) dJ7_fill_53178_17 (by decide) ?_
    cases E
    exact r_fewer [some (.ref p0), some (.int v1), some (.int x5), some (.int v3)] (ls_s (ls_s (ls_s (ls_s ls_0)))) hK
theorem s_J7_fill_53178_5 {l : Launch} {G : mG} {Q : Option Value → mH → Prop} {X : String → mH → Prop} (p0 : Nat) (v1 : Int32) (v2 : Int32) (v3 : Int32) (h : mH) {o : Unit × mH} (E : g_J7_fill_53178_5 p0 v1 v2 v3 h = some o) (hK : (fiV Q) o) : mW l G m_J7_fill_53178 0 0 0 5 [some (.ref p0), some (.int v1), some (.int v2), some (.int v3)] [] h Q X :=
  (lp_go (w_J7_fill_53178_5 l G Q X p0 v1 v3) (fiV Q) (b_J7_fill_53178_5 p0 v1 v3) (fun s o E hK => sb_J7_fill_53178_5 p0 v1 s.1 v3 (s.2) E hK) _ _ _ E hK : w_J7_fill_53178_5 l G Q X p0 v1 v3 (v2, h))
set_option maxRecDepth 100000 in
set_option maxHeartbeats 4000000 in
theorem s_J7_fill_53178_0 {l : Launch} {G : mG} {Q : Option Value → mH → Prop} {X : String → mH → Prop} (p0 : Nat) (v1 : Int32) (h : mH) {o : Unit × mH} (E : f_J7_fill_53178 p0 v1 h = some o) (hK : (fiV Q) o) : mW l G m_J7_fill_53178 0 0 0 0 [some (.ref p0), some (.int v1), none, none] [] h Q X := by
  unfold f_J7_fill_53178 at E
  refine q_iconst dJ7_fill_53178_0 ?_
  refine r_istore_n dJ7_fill_53178_1 (by decide) rfl (ls' := [some (.ref p0), some (.int v1), some (.int (Int32.ofInt 0)), none]) rfl ?_
  refine q_aload_n dJ7_fill_53178_2 rfl ?_
  replace E := grd_some E
  obtain ⟨g1, E⟩ := E
  refine r_alen (t0 := 3) dJ7_fill_53178_3 rfl g1 ?_
  replace E := bnd_x E
  obtain ⟨x2, ex2, E⟩ := E
  refine r_istore_n dJ7_fill_53178_4 (by decide) ex2 (ls' := [some (.ref p0), some (.int v1), some (.int (Int32.ofInt 0)), some (.int x2)]) rfl ?_
  exact r_fewer [some (.ref p0), some (.int v1), some (.int (Int32.ofInt 0)), some (.int x2)] (ls_s (ls_s (ls_s (ls_s ls_0)))) (s_J7_fill_53178_5 p0 v1 (Int32.ofInt 0) x2 h E hK)
theorem c_J7_fill_53178 {l : Launch} {G : mG} {p0 : Nat} {v1 : Int32} {h h' : mH} {r : Unit} (E : f_J7_fill_53178 p0 v1 h = some (r, h')) : mMet l G m_J7_fill_53178 0 0 0 [.ref p0, .int v1] h (fun v k => v = none ∧ h' = k) (fun _ _ => False) :=
  mMet_of (by decide +kernel) rfl (ac_c rfl (ac_c rfl ac_0)) (Nat.le_of_ble_eq_true rfl) (s_J7_fill_53178_0 p0 v1 h E (And.intro rfl rfl))
set_option maxRecDepth 100000 in
set_option maxHeartbeats 4000000 in
theorem s_J3_checkIndex_8e157_9 {l : Launch} {G : mG} {Q : Option Value → mH → Prop} {X : String → mH → Prop} (v0 : Int32) (v1 : Int32) (q2 : Option Nat) (h : mH) {o : Int32 × mH} (E : g_J3_checkIndex_8e157_9 v0 v1 q2 h = some o) (hK : (fiI Q) o) : mW l G m_J3_checkIndex_8e157 0 0 0 9 [some (.int v0), some (.int v1), some (va_rf q2)] [] h Q X := by
  unfold g_J3_checkIndex_8e157_9 at E
  refine r_aload_nO dJ3_checkIndex_8e157_9 rfl ?_
  refine q_iload_n dJ3_checkIndex_8e157_10 rfl ?_
  refine q_iload_n dJ3_checkIndex_8e157_11 rfl ?_
  cases E
set_option maxRecDepth 100000 in
set_option maxHeartbeats 4000000 in
theorem s_J3_checkIndex_8e157_0 {l : Launch} {G : mG} {Q : Option Value → mH → Prop} {X : String → mH → Prop} (v0 : Int32) (v1 : Int32) (q2 : Option Nat) (h : mH) {o : Int32 × mH} (E : f_J3_checkIndex_8e157 v0 v1 q2 h = some o) (hK : (fiI Q) o) : mW l G m_J3_checkIndex_8e157 0 0 0 0 [some (.int v0), some (.int v1), some (va_rf q2)] [] h Q X := by
  unfold f_J3_checkIndex_8e157 at E
  refine q_iload_n dJ3_checkIndex_8e157_0 rfl ?_
  refine q_if_lt (tgt := 9) dJ3_checkIndex_8e157_1 (by decide) (fun z1 => ?_) (fun z1 => ?_)
  · replace E := ite_t E z1
    exact r_fewer [some (.int v0), some (.int v1), some (va_rf q2)] (ls_s (ls_s (ls_s ls_0))) (s_J3_checkIndex_8e157_9 v0 v1 q2 h E hK)
  · replace E := ite_f E z1
    refine q_iload_n dJ3_checkIndex_8e157_4 rfl ?_
    refine q_iload_n dJ3_checkIndex_8e157_5 rfl ?_
    refine q_icmp_lt (tgt := 16) dJ3_checkIndex_8e157_6 (by decide) (fun z2 => ?_) (fun z2 => ?_)
    · replace E := ite_t E z2
      refine q_iload_n dJ3_checkIndex_8e157_16 rfl ?_
      cases E
      exact q_ireturn dJ3_checkIndex_8e157_17 rfl hK
    · replace E := ite_f E z2
      exact r_fewer [some (.int v0), some (.int v1), some (va_rf q2)] (ls_s (ls_s (ls_s ls_0))) (s_J3_checkIndex_8e157_9 v0 v1 q2 h E hK)
theorem c_J3_checkIndex_8e157 {l : Launch} {G : mG} {v0 : Int32} {v1 : Int32} {q2 : Option Nat} {h h' : mH} {r : Int32} (E : f_J3_checkIndex_8e157 v0 v1 q2 h = some (r, h')) : mMet l G m_J3_checkIndex_8e157 0 0 0 [.int v0, .int v1, va_rf q2] h (fun v k => v = some (.int r) ∧ h' = k) (fun _ _ => False) :=
  mMet_of (by decide +kernel) rfl (ac_c rfl (ac_c rfl (ac_c (r_cat _) ac_0))) (Nat.le_of_ble_eq_true rfl) (s_J3_checkIndex_8e157_0 v0 v1 q2 h E (And.intro rfl rfl))
theorem c_J0_checkIndex_df160 {l : Launch} {G : mG} {v0 v1 : Int32} {h hE : mH} {r : Unit} (E : f_J0_checkIndex_df160 v0 v1 h = some (r, hE)) : mMet l G m_J0_checkIndex_df160 1 0 0 [.int v0, .int v1] h (fun v k => v = none ∧ hE = k) (fun _ _ => False) := by
  refine mMet_of (by decide +kernel) rfl (ac_c rfl (ac_c rfl ac_0)) (Nat.le_of_ble_eq_true rfl) ?_
  unfold f_J0_checkIndex_df160 at E
  obtain ⟨x, h2, hc, E⟩ := cal_some E
  obtain rfl : h2 = hE := by cases E; rfl
  refine q_iload_n dJ0_checkIndex_df160_0 rfl ?_
  refine q_iload_n dJ0_checkIndex_df160_1 rfl ?_
  refine q_getQ dJ0_checkIndex_df160_2 ZJ0_1053 (fun z => ?_)
  refine r_callS3 (mc := 0) (ms := 0) dJ0_checkIndex_df160_5 KJ0_1059 (c_J3_checkIndex_8e157 (q2 := z) (r := x) (h' := h2) hc) (by decide) (Nat.le_of_ble_eq_true rfl) (fun _ _ q => q.elim) ?_
  rintro _ _ ⟨rfl, rfl⟩
  refine q_pop dJ0_checkIndex_df160_8 ?_
  exact q_return dJ0_checkIndex_df160_9 rfl (And.intro rfl rfl)
set_option maxRecDepth 100000 in
set_option maxHeartbeats 4000000 in
theorem s_J1_charAt_3b067_0 {l : Launch} {G : mG} {Q : Option Value → mH → Prop} {X : String → mH → Prop} (k0 : Nat) (v1 : Int32) (h : mH) {o : Int32 × mH} (E : f_J1_charAt_3b067 k0 v1 h = some o) (hK : (fiI Q) o) : mW l G m_J1_charAt_3b067 2 0 0 0 [some (.ref (tA G k0)), some (.int v1)] [] h Q X := by
  unfold f_J1_charAt_3b067 at E
  refine q_iload_n dJ1_charAt_3b067_0 rfl ?_
  refine q_aload_n dJ1_charAt_3b067_1 rfl ?_
  replace E := grd_some E
  obtain ⟨g1, E⟩ := E
  refine q_strL dJ1_charAt_3b067_2 g1 ?_
  replace E := cal_some E
  obtain ⟨_, h2, hc, E⟩ := E
  refine r_callS2 (mc := 0) (ms := 0) dJ1_charAt_3b067_3 KJ1_9 (c_J0_checkIndex_df160 hc) (by decide) (Nat.le_of_ble_eq_true rfl) (fun _ _ q => q.elim) ?_
  rintro _ _ ⟨rfl, rfl⟩
  clear hc
  refine q_aload_n dJ1_charAt_3b067_6 rfl ?_
  refine q_iload_n dJ1_charAt_3b067_7 rfl ?_
  replace E := grd_some E
  obtain ⟨g4, E⟩ := E
  refine q_strB dJ1_charAt_3b067_8 g1 g4 ?_
  refine q_sipush (v := (Int32.ofInt 255)) dJ1_charAt_3b067_9 (by decide) ?_
  refine q_iand dJ1_charAt_3b067_12 ?_
  refine q_i2c dJ1_charAt_3b067_13 ?_
  replace E := grd_some E
  obtain ⟨g5, E⟩ := E
  cases E
  exact q_zreturn dJ1_charAt_3b067_14 rfl (narC g5) hK
theorem c_J1_charAt_3b067 {l : Launch} {G : mG} {k0 : Nat} {v1 : Int32} {h h' : mH} {r : Int32} (E : f_J1_charAt_3b067 k0 v1 h = some (r, h')) : mMet l G m_J1_charAt_3b067 2 0 0 [.ref (tA G k0), .int v1] h (fun v k => v = some (.int r) ∧ h' = k) (fun _ _ => False) :=
  mMet_of (by decide +kernel) rfl (ac_c rfl (ac_c rfl ac_0)) (Nat.le_of_ble_eq_true rfl) (s_J1_charAt_3b067_0 k0 v1 h E (And.intro rfl rfl))
set_option maxRecDepth 100000 in
set_option maxHeartbeats 4000000 in
theorem s_J0_coder_7d493_14 {l : Launch} {G : mG} {Q : Option Value → mH → Prop} {X : String → mH → Prop} (s0 : Int32) (h : mH) {o : Int32 × mH} (E : g_J0_coder_7d493_14 s0 h = some o) (hK : (fiI Q) o) : mW l G m_J0_coder_7d493 0 0 0 14 [none] [.int s0] h Q X := by
  unfold g_J0_coder_7d493_14 at E
  replace E := grd_some E
  obtain ⟨g1, E⟩ := E
  cases E
  exact q_zreturn dJ0_coder_7d493_14 rfl (narB g1) hK
set_option maxRecDepth 100000 in
set_option maxHeartbeats 4000000 in
theorem s_J0_coder_7d493_0 {l : Launch} {G : mG} {Q : Option Value → mH → Prop} {X : String → mH → Prop} (j0 : Nat) (h : mH) {o : Int32 × mH} (E : f_J0_coder_7d493 j0 h = some o) (hK : (fiI Q) o) : mW l G m_J0_coder_7d493 0 0 0 0 [some (.ref (sA G j0))] [] h Q X := by
  unfold f_J0_coder_7d493 at E
  refine q_getZ dJ0_coder_7d493_0 ZJ0_38 ?_
  refine q_if_eq (tgt := 13) dJ0_coder_7d493_3 (by decide) (fun z1 => ?_) (fun z1 => ?_)
  · replace E := ite_t E z1
    refine q_iconst dJ0_coder_7d493_13 ?_
    exact r_fewer [none] (ls_n ls_0) (s_J0_coder_7d493_14 (Int32.ofInt 1) h E hK)
  · replace E := ite_f E z1
    refine q_aload_n dJ0_coder_7d493_6 rfl ?_
    replace E := grd_some E
    obtain ⟨g2, E⟩ := E
    refine q_strC dJ0_coder_7d493_7 GJ0_15 g2 ?_
    refine q_goto (tgt := 14) dJ0_coder_7d493_10 (by decide) ?_
    exact r_fewer [none] (ls_n ls_0) (s_J0_coder_7d493_14 (Int32.ofInt 0) h E hK)
theorem c_J0_coder_7d493 {l : Launch} {G : mG} {j0 : Nat} {h h' : mH} {r : Int32} (E : f_J0_coder_7d493 j0 h = some (r, h')) : mMet l G m_J0_coder_7d493 0 0 0 [.ref (sA G j0)] h (fun v k => v = some (.int r) ∧ h' = k) (fun _ _ => False) :=
  mMet_of (by decide +kernel) rfl (ac_c rfl ac_0) (Nat.le_of_ble_eq_true rfl) (s_J0_coder_7d493_0 j0 h E (And.intro rfl rfl))
set_option maxRecDepth 100000 in
set_option maxHeartbeats 4000000 in
theorem s_J0_isLatin1_aae02_18 {l : Launch} {G : mG} {Q : Option Value → mH → Prop} {X : String → mH → Prop} (s0 : Int32) (h : mH) {o : Int32 × mH} (E : g_J0_isLatin1_aae02_18 s0 h = some o) (hK : (fiI Q) o) : mW l G m_J0_isLatin1_aae02 0 0 0 18 [none] [.int s0] h Q X := by
  unfold g_J0_isLatin1_aae02_18 at E
  replace E := grd_some E
  obtain ⟨g1, E⟩ := E
  cases E
  exact q_zreturn dJ0_isLatin1_aae02_18 rfl (narZ g1) hK
set_option maxRecDepth 100000 in
set_option maxHeartbeats 4000000 in
theorem s_J0_isLatin1_aae02_17 {l : Launch} {G : mG} {Q : Option Value → mH → Prop} {X : String → mH → Prop} (h : mH) {o : Int32 × mH} (E : g_J0_isLatin1_aae02_17  h = some o) (hK : (fiI Q) o) : mW l G m_J0_isLatin1_aae02 0 0 0 17 [none] [] h Q X := by
  unfold g_J0_isLatin1_aae02_17 at E
  refine q_iconst dJ0_isLatin1_aae02_17 ?_
  exact r_fewer [none] (ls_n ls_0) (s_J0_isLatin1_aae02_18 (Int32.ofInt 0) h E hK)
set_option maxRecDepth 100000 in
set_option maxHeartbeats 4000000 in
theorem s_J0_isLatin1_aae02_0 {l : Launch} {G : mG} {Q : Option Value → mH → Prop} {X : String → mH → Prop} (j0 : Nat) (h : mH) {o : Int32 × mH} (E : f_J0_isLatin1_aae02 j0 h = some o) (hK : (fiI Q) o) : mW l G m_J0_isLatin1_aae02 0 0 0 0 [some (.ref (sA G j0))] [] h Q X := by
  unfold f_J0_isLatin1_aae02 at E
  refine q_getZ dJ0_isLatin1_aae02_0 ZJ0_38 ?_
  refine q_if_eq (tgt := 17) dJ0_isLatin1_aae02_3 (by decide) (fun z1 => ?_) (fun z1 => ?_)
  · replace E := ite_t E z1
    exact r_fewer [none] (ls_n ls_0) (s_J0_isLatin1_aae02_17 h E hK)
  · replace E := ite_f E z1
    refine q_aload_n dJ0_isLatin1_aae02_6 rfl ?_
    replace E := grd_some E
    obtain ⟨g2, E⟩ := E
    refine q_strC dJ0_isLatin1_aae02_7 GJ0_15 g2 ?_
    refine q_if_ne (tgt := 17) dJ0_isLatin1_aae02_10 (by decide) (fun z3 => ?_) (fun z3 => ?_)
    · replace E := ite_f E z3
      exact r_fewer [none] (ls_n ls_0) (s_J0_isLatin1_aae02_17 h E hK)
    · replace E := ite_t E z3
      refine q_iconst dJ0_isLatin1_aae02_13 ?_
      refine q_goto (tgt := 18) dJ0_isLatin1_aae02_14 (by decide) ?_
      exact r_fewer [none] (ls_n ls_0) (s_J0_isLatin1_aae02_18 (Int32.ofInt 1) h E hK)
theorem c_J0_isLatin1_aae02 {l : Launch} {G : mG} {j0 : Nat} {h h' : mH} {r : Int32} (E : f_J0_isLatin1_aae02 j0 h = some (r, h')) : mMet l G m_J0_isLatin1_aae02 0 0 0 [.ref (sA G j0)] h (fun v k => v = some (.int r) ∧ h' = k) (fun _ _ => False) :=
  mMet_of (by decide +kernel) rfl (ac_c rfl ac_0) (Nat.le_of_ble_eq_true rfl) (s_J0_isLatin1_aae02_0 j0 h E (And.intro rfl rfl))
set_option maxRecDepth 100000 in
set_option maxHeartbeats 4000000 in
theorem s_J0_length_8abf5_0 {l : Launch} {G : mG} {Q : Option Value → mH → Prop} {X : String → mH → Prop} (j0 : Nat) (h : mH) {o : Int32 × mH} (E : f_J0_length_8abf5 j0 h = some o) (hK : (fiI Q) o) : mW l G m_J0_length_8abf5 1 0 0 0 [some (.ref (sA G j0))] [] h Q X := by
  unfold f_J0_length_8abf5 at E
  refine q_aload_n dJ0_length_8abf5_0 rfl ?_
  replace E := grd_some E
  obtain ⟨g1, E⟩ := E
  refine q_strV dJ0_length_8abf5_1 GJ0_9 g1 ?_
  refine q_strL dJ0_length_8abf5_4 g1 ?_
  refine q_aload_n dJ0_length_8abf5_5 rfl ?_
  replace E := cal_some E
  obtain ⟨x3, h2, hc, E⟩ := E
  refine r_callVs0 (mc := 0) (ms := 0) dJ0_length_8abf5_6 KJ0_335 (c_J0_coder_7d493 hc) g1 (by decide) (Nat.le_of_ble_eq_true rfl) (fun _ _ q => q.elim) ?_
  rintro _ _ ⟨rfl, rfl⟩
  clear hc
  refine q_ishr dJ0_length_8abf5_9 ?_
  cases E
  exact q_ireturn dJ0_length_8abf5_10 rfl hK
theorem c_J0_length_8abf5 {l : Launch} {G : mG} {j0 : Nat} {h h' : mH} {r : Int32} (E : f_J0_length_8abf5 j0 h = some (r, h')) : mMet l G m_J0_length_8abf5 1 0 0 [.ref (sA G j0)] h (fun v k => v = some (.int r) ∧ h' = k) (fun _ _ => False) :=
  mMet_of (by decide +kernel) rfl (ac_c rfl ac_0) (Nat.le_of_ble_eq_true rfl) (s_J0_length_8abf5_0 j0 h E (And.intro rfl rfl))
set_option maxRecDepth 100000 in
set_option maxHeartbeats 4000000 in
theorem s_J0_charAt_5068e_0 {l : Launch} {G : mG} {Q : Option Value → mH → Prop} {X : String → mH → Prop} (j0 : Nat) (v1 : Int32) (h : mH) {o : Int32 × mH} (E : f_J0_charAt_5068e j0 v1 h = some o) (hK : (fiI Q) o) : mW l G m_J0_charAt_5068e 3 0 0 0 [some (.ref (sA G j0)), some (.int v1)] [] h Q X := by
  unfold f_J0_charAt_5068e at E
  refine q_aload_n dJ0_charAt_5068e_0 rfl ?_
  replace E := grd_some E
  obtain ⟨g3, E⟩ := E
  replace E := cal_some E
  obtain ⟨x2, h1, hc, E⟩ := E
  refine r_callVs0 (mc := 0) (ms := 0) dJ0_charAt_5068e_1 KJ0_492 (c_J0_isLatin1_aae02 hc) g3 (by decide) (Nat.le_of_ble_eq_true rfl) (fun _ _ q => q.elim) ?_
  rintro _ _ ⟨rfl, rfl⟩
  clear hc
  refine q_if_eq (tgt := 16) dJ0_charAt_5068e_4 (by decide) (fun z4 => ?_) (fun z4 => ?_)
  · replace E := ite_t E z4
    refine q_aload_n dJ0_charAt_5068e_16 rfl ?_
    refine q_strV dJ0_charAt_5068e_17 GJ0_9 g3 ?_
    refine q_iload_n dJ0_charAt_5068e_20 rfl ?_
    cases E
  · replace E := ite_f E z4
    refine q_aload_n dJ0_charAt_5068e_7 rfl ?_
    refine q_strV dJ0_charAt_5068e_8 GJ0_9 g3 ?_
    refine q_iload_n dJ0_charAt_5068e_11 rfl ?_
    replace E := cal_some E
    obtain ⟨x6, h5, hc, E⟩ := E
    refine r_callS2 (mc := 0) (ms := 0) dJ0_charAt_5068e_12 KJ0_495 (c_J1_charAt_3b067 hc) (by decide) (Nat.le_of_ble_eq_true rfl) (fun _ _ q => q.elim) ?_
    rintro _ _ ⟨rfl, rfl⟩
    clear hc
    replace E := grd_some E
    obtain ⟨g7, E⟩ := E
    cases E
    exact q_zreturn dJ0_charAt_5068e_15 rfl (narC g7) hK
theorem c_J0_charAt_5068e {l : Launch} {G : mG} {j0 : Nat} {v1 : Int32} {h h' : mH} {r : Int32} (E : f_J0_charAt_5068e j0 v1 h = some (r, h')) : mMet l G m_J0_charAt_5068e 3 0 0 [.ref (sA G j0), .int v1] h (fun v k => v = some (.int r) ∧ h' = k) (fun _ _ => False) :=
  mMet_of (by decide +kernel) rfl (ac_c rfl (ac_c rfl ac_0)) (Nat.le_of_ble_eq_true rfl) (s_J0_charAt_5068e_0 j0 v1 h E (And.intro rfl rfl))
set_option maxRecDepth 100000 in
set_option maxHeartbeats 4000000 in
theorem s_J1_canEncode_fc78d_12 {l : Launch} {G : mG} {Q : Option Value → mH → Prop} {X : String → mH → Prop} (s0 : Int32) (h : mH) {o : Int32 × mH} (E : g_J1_canEncode_fc78d_12 s0 h = some o) (hK : (fiI Q) o) : mW l G m_J1_canEncode_fc78d 0 0 0 12 [none] [.int s0] h Q X := by
  unfold g_J1_canEncode_fc78d_12 at E
  replace E := grd_some E
  obtain ⟨g1, E⟩ := E
  cases E
  exact q_zreturn dJ1_canEncode_fc78d_12 rfl (narZ g1) hK
set_option maxRecDepth 100000 in
set_option maxHeartbeats 4000000 in
theorem s_J1_canEncode_fc78d_0 {l : Launch} {G : mG} {Q : Option Value → mH → Prop} {X : String → mH → Prop} (v0 : Int32) (h : mH) {o : Int32 × mH} (E : f_J1_canEncode_fc78d v0 h = some o) (hK : (fiI Q) o) : mW l G m_J1_canEncode_fc78d 0 0 0 0 [some (.int v0)] [] h Q X := by
  unfold f_J1_canEncode_fc78d at E
  refine q_iload_n dJ1_canEncode_fc78d_0 rfl ?_
  refine q_sipush (v := (Int32.ofInt 255)) dJ1_canEncode_fc78d_1 (by decide) ?_
  refine q_icmp_gt (tgt := 11) dJ1_canEncode_fc78d_4 (by decide) (fun z1 => ?_) (fun z1 => ?_)
  · replace E := ite_t E z1
    refine q_iconst dJ1_canEncode_fc78d_11 ?_
    exact r_fewer [none] (ls_n ls_0) (s_J1_canEncode_fc78d_12 (Int32.ofInt 0) h E hK)
  · replace E := ite_f E z1
    refine q_iconst dJ1_canEncode_fc78d_7 ?_
    refine q_goto (tgt := 12) dJ1_canEncode_fc78d_8 (by decide) ?_
    exact r_fewer [none] (ls_n ls_0) (s_J1_canEncode_fc78d_12 (Int32.ofInt 1) h E hK)
theorem c_J1_canEncode_fc78d {l : Launch} {G : mG} {v0 : Int32} {h h' : mH} {r : Int32} (E : f_J1_canEncode_fc78d v0 h = some (r, h')) : mMet l G m_J1_canEncode_fc78d 0 0 0 [.int v0] h (fun v k => v = some (.int r) ∧ h' = k) (fun _ _ => False) :=
  mMet_of (by decide +kernel) rfl (ac_c rfl ac_0) (Nat.le_of_ble_eq_true rfl) (s_J1_canEncode_fc78d_0 v0 h E (And.intro rfl rfl))
set_option maxRecDepth 100000 in
set_option maxHeartbeats 4000000 in
theorem s_J5_isLatin1_aae02_18 {l : Launch} {G : mG} {Q : Option Value → mH → Prop} {X : String → mH → Prop} (s0 : Int32) (h : mH) {o : Int32 × mH} (E : g_J5_isLatin1_aae02_18 s0 h = some o) (hK : (fiI Q) o) : mW l G m_J5_isLatin1_aae02 0 0 0 18 [none] [.int s0] h Q X := by
  unfold g_J5_isLatin1_aae02_18 at E
  replace E := grd_some E
  obtain ⟨g1, E⟩ := E
  cases E
  exact q_zreturn dJ5_isLatin1_aae02_18 rfl (narZ g1) hK
set_option maxRecDepth 100000 in
set_option maxHeartbeats 4000000 in
theorem s_J5_isLatin1_aae02_17 {l : Launch} {G : mG} {Q : Option Value → mH → Prop} {X : String → mH → Prop} (h : mH) {o : Int32 × mH} (E : g_J5_isLatin1_aae02_17  h = some o) (hK : (fiI Q) o) : mW l G m_J5_isLatin1_aae02 0 0 0 17 [none] [] h Q X := by
  unfold g_J5_isLatin1_aae02_17 at E
  refine q_iconst dJ5_isLatin1_aae02_17 ?_
  exact r_fewer [none] (ls_n ls_0) (s_J5_isLatin1_aae02_18 (Int32.ofInt 0) h E hK)
set_option maxRecDepth 100000 in
set_option maxHeartbeats 4000000 in
theorem s_J5_isLatin1_aae02_0 {l : Launch} {G : mG} {Q : Option Value → mH → Prop} {X : String → mH → Prop} (p0 : Nat) (h : mH) {o : Int32 × mH} (E : f_J5_isLatin1_aae02 p0 h = some o) (hK : (fiI Q) o) : mW l G m_J5_isLatin1_aae02 0 0 0 0 [some (.ref p0)] [] h Q X := by
  unfold f_J5_isLatin1_aae02 at E
  refine q_getZ dJ5_isLatin1_aae02_0 ZJ5_18 ?_
  refine q_if_eq (tgt := 17) dJ5_isLatin1_aae02_3 (by decide) (fun z1 => ?_) (fun z1 => ?_)
  · replace E := ite_t E z1
    exact r_fewer [none] (ls_n ls_0) (s_J5_isLatin1_aae02_17 h E hK)
  · replace E := ite_f E z1
    refine q_aload_n dJ5_isLatin1_aae02_6 rfl ?_
    replace E := grd_some E
    obtain ⟨g2, E⟩ := E
    refine r_getI dJ5_isLatin1_aae02_7 FJ5_22 g2 ?_
    refine q_if_ne (tgt := 17) dJ5_isLatin1_aae02_10 (by decide) (fun z3 => ?_) (fun z3 => ?_)
    · replace E := ite_f E z3
      exact r_fewer [none] (ls_n ls_0) (s_J5_isLatin1_aae02_17 h E hK)
    · replace E := ite_t E z3
      refine q_iconst dJ5_isLatin1_aae02_13 ?_
      refine q_goto (tgt := 18) dJ5_isLatin1_aae02_14 (by decide) ?_
      exact r_fewer [none] (ls_n ls_0) (s_J5_isLatin1_aae02_18 (Int32.ofInt 1) h E hK)
theorem c_J5_isLatin1_aae02 {l : Launch} {G : mG} {p0 : Nat} {h h' : mH} {r : Int32} (E : f_J5_isLatin1_aae02 p0 h = some (r, h')) : mMet l G m_J5_isLatin1_aae02 0 0 0 [.ref p0] h (fun v k => v = some (.int r) ∧ h' = k) (fun _ _ => False) :=
  mMet_of (by decide +kernel) rfl (ac_c rfl ac_0) (Nat.le_of_ble_eq_true rfl) (s_J5_isLatin1_aae02_0 p0 h E (And.intro rfl rfl))
set_option maxRecDepth 100000 in
set_option maxHeartbeats 4000000 in
theorem s_J5_length_8abf5_0 {l : Launch} {G : mG} {Q : Option Value → mH → Prop} {X : String → mH → Prop} (p0 : Nat) (h : mH) {o : Int32 × mH} (E : f_J5_length_8abf5 p0 h = some o) (hK : (fiI Q) o) : mW l G m_J5_length_8abf5 0 0 0 0 [some (.ref p0)] [] h Q X := by
  unfold f_J5_length_8abf5 at E
  refine q_aload_n dJ5_length_8abf5_0 rfl ?_
  replace E := grd_some E
  obtain ⟨g1, E⟩ := E
  refine r_getI dJ5_length_8abf5_1 FJ5_79 g1 ?_
  cases E
  exact q_ireturn dJ5_length_8abf5_4 rfl hK
theorem c_J5_length_8abf5 {l : Launch} {G : mG} {p0 : Nat} {h h' : mH} {r : Int32} (E : f_J5_length_8abf5 p0 h = some (r, h')) : mMet l G m_J5_length_8abf5 0 0 0 [.ref p0] h (fun v k => v = some (.int r) ∧ h' = k) (fun _ _ => False) :=
  mMet_of (by decide +kernel) rfl (ac_c rfl ac_0) (Nat.le_of_ble_eq_true rfl) (s_J5_length_8abf5_0 p0 h E (And.intro rfl rfl))
set_option maxRecDepth 100000 in
set_option maxHeartbeats 4000000 in
theorem s_J4_length_8abf5_0 {l : Launch} {G : mG} {Q : Option Value → mH → Prop} {X : String → mH → Prop} (p0 : Nat) (h : mH) {o : Int32 × mH} (E : f_J4_length_8abf5 p0 h = some o) (hK : (fiI Q) o) : mW l G m_J4_length_8abf5 1 0 0 0 [some (.ref p0)] [] h Q X := by
  unfold f_J4_length_8abf5 at E
  refine q_aload_n dJ4_length_8abf5_0 rfl ?_
  replace E := grd_some E
  obtain ⟨g3, E⟩ := E
  replace E := cal_some E
  obtain ⟨x2, h1, hc, E⟩ := E
  refine r_callSU0 (mc := 0) (ms := 0) dJ4_length_8abf5_1 KJ4_343 (c_J5_length_8abf5 hc) g3 (by decide) (Nat.le_of_ble_eq_true rfl) (fun _ _ q => q.elim) ?_
  rintro _ _ ⟨rfl, rfl⟩
  clear hc
  cases E
  exact q_ireturn dJ4_length_8abf5_4 rfl hK
theorem c_J4_length_8abf5 {l : Launch} {G : mG} {p0 : Nat} {h h' : mH} {r : Int32} (E : f_J4_length_8abf5 p0 h = some (r, h')) : mMet l G m_J4_length_8abf5 1 0 0 [.ref p0] h (fun v k => v = some (.int r) ∧ h' = k) (fun _ _ => False) :=
  mMet_of (by decide +kernel) rfl (ac_c rfl ac_0) (Nat.le_of_ble_eq_true rfl) (s_J4_length_8abf5_0 p0 h E (And.intro rfl rfl))
set_option maxRecDepth 100000 in
set_option maxHeartbeats 4000000 in
theorem s_J5_charAt_5068e_0 {l : Launch} {G : mG} {Q : Option Value → mH → Prop} {X : String → mH → Prop} (p0 : Nat) (v1 : Int32) (h : mH) {o : Int32 × mH} (E : f_J5_charAt_5068e p0 v1 h = some o) (hK : (fiI Q) o) : mW l G m_J5_charAt_5068e 2 0 0 0 [some (.ref p0), some (.int v1), none, none, none] [] h Q X := by
  unfold f_J5_charAt_5068e at E
  refine q_aload_n dJ5_charAt_5068e_0 rfl ?_
  replace E := grd_some E
  obtain ⟨g1, E⟩ := E
  refine r_getI dJ5_charAt_5068e_1 FJ5_22 g1 ?_
  replace E := bnd_x E
  obtain ⟨x2, ex2, E⟩ := E
  refine r_istore_n dJ5_charAt_5068e_4 (by decide) ex2 (ls' := [some (.ref p0), some (.int v1), some (.int x2), none, none]) rfl ?_
  refine q_aload_n dJ5_charAt_5068e_5 rfl ?_
  replace E := orf_some E
  obtain ⟨a3, ea3, E⟩ := E
  refine r_getR dJ5_charAt_5068e_6 FJ5_15 g1 ea3 ?_
  refine r_astore_n dJ5_charAt_5068e_9 (by decide) (ls' := [some (.ref p0), some (.int v1), some (.int x2), some (.ref a3), none]) rfl ?_
  refine q_aload_n dJ5_charAt_5068e_10 rfl ?_
  refine r_getI dJ5_charAt_5068e_11 FJ5_79 g1 ?_
  refine q_aload_n dJ5_charAt_5068e_14 rfl ?_
  replace E := grd_some E
  obtain ⟨g4, E⟩ := E
  refine r_alen (t0 := 1) dJ5_charAt_5068e_15 rfl g4 ?_
  refine q_iload_n dJ5_charAt_5068e_16 rfl ?_
  refine q_ishr dJ5_charAt_5068e_17 ?_
  refine q_mmin dJ5_charAt_5068e_18 XJ5_138 (Nat.le_of_ble_eq_true rfl) ?_
  replace E := bnd_x E
  obtain ⟨x5, ex5, E⟩ := E
  refine r_istore dJ5_charAt_5068e_21 (by decide) ex5 (ls' := [some (.ref p0), some (.int v1), some (.int x2), some (.ref a3), some (.int x5)]) rfl ?_
  refine q_iload_n dJ5_charAt_5068e_23 rfl ?_
  refine q_iload dJ5_charAt_5068e_24 rfl ?_
  replace E := cal_some E
  obtain ⟨_, h6, hc, E⟩ := E
  refine r_callS2 (mc := 0) (ms := 0) dJ5_charAt_5068e_26 KJ5_144 (c_J0_checkIndex_df160 hc) (by decide) (Nat.le_of_ble_eq_true rfl) (fun _ _ q => q.elim) ?_
  rintro _ _ ⟨rfl, rfl⟩
  clear hc
  refine q_iload_n dJ5_charAt_5068e_29 rfl ?_
  refine q_if_ne (tgt := 42) dJ5_charAt_5068e_30 (by decide) (fun z8 => ?_) (fun z8 => ?_)
  · replace E := ite_f E z8
    refine q_aload_n dJ5_charAt_5068e_42 rfl ?_
    refine q_iload_n dJ5_charAt_5068e_43 rfl ?_
    cases E
  · replace E := ite_t E z8
    refine q_aload_n dJ5_charAt_5068e_33 rfl ?_
    refine q_iload_n dJ5_charAt_5068e_34 rfl ?_
    replace E := grd_some E
    obtain ⟨g9, E⟩ := E
    replace E := grd_some E
    obtain ⟨g10, E⟩ := E
    refine r_baload dJ5_charAt_5068e_35 g9 g10 ?_
    refine q_sipush (v := (Int32.ofInt 255)) dJ5_charAt_5068e_36 (by decide) ?_
    refine q_iand dJ5_charAt_5068e_39 ?_
    refine q_i2c dJ5_charAt_5068e_40 ?_
    replace E := grd_some E
    obtain ⟨g11, E⟩ := E
    cases E
    exact q_zreturn dJ5_charAt_5068e_41 rfl (narC g11) hK
theorem c_J5_charAt_5068e {l : Launch} {G : mG} {p0 : Nat} {v1 : Int32} {h h' : mH} {r : Int32} (E : f_J5_charAt_5068e p0 v1 h = some (r, h')) : mMet l G m_J5_charAt_5068e 2 0 0 [.ref p0, .int v1] h (fun v k => v = some (.int r) ∧ h' = k) (fun _ _ => False) :=
  mMet_of (by decide +kernel) rfl (ac_c rfl (ac_c rfl ac_0)) (Nat.le_of_ble_eq_true rfl) (s_J5_charAt_5068e_0 p0 v1 h E (And.intro rfl rfl))
set_option maxRecDepth 100000 in
set_option maxHeartbeats 4000000 in
theorem s_J4_charAt_5068e_0 {l : Launch} {G : mG} {Q : Option Value → mH → Prop} {X : String → mH → Prop} (p0 : Nat) (v1 : Int32) (h : mH) {o : Int32 × mH} (E : f_J4_charAt_5068e p0 v1 h = some o) (hK : (fiI Q) o) : mW l G m_J4_charAt_5068e 3 0 0 0 [some (.ref p0), some (.int v1)] [] h Q X := by
  unfold f_J4_charAt_5068e at E
  refine q_aload_n dJ4_charAt_5068e_0 rfl ?_
  refine q_iload_n dJ4_charAt_5068e_1 rfl ?_
  replace E := grd_some E
  obtain ⟨g3, E⟩ := E
  replace E := cal_some E
  obtain ⟨x2, h1, hc, E⟩ := E
  refine r_callSU1 (mc := 0) (ms := 0) dJ4_charAt_5068e_2 KJ4_329 (c_J5_charAt_5068e hc) g3 (by decide) (Nat.le_of_ble_eq_true rfl) (fun _ _ q => q.elim) ?_
  rintro _ _ ⟨rfl, rfl⟩
  clear hc
  replace E := grd_some E
  obtain ⟨g4, E⟩ := E
  cases E
  exact q_zreturn dJ4_charAt_5068e_5 rfl (narC g4) hK
theorem c_J4_charAt_5068e {l : Launch} {G : mG} {p0 : Nat} {v1 : Int32} {h h' : mH} {r : Int32} (E : f_J4_charAt_5068e p0 v1 h = some (r, h')) : mMet l G m_J4_charAt_5068e 3 0 0 [.ref p0, .int v1] h (fun v k => v = some (.int r) ∧ h' = k) (fun _ _ => False) :=
  mMet_of (by decide +kernel) rfl (ac_c rfl (ac_c rfl ac_0)) (Nat.le_of_ble_eq_true rfl) (s_J4_charAt_5068e_0 p0 v1 h E (And.intro rfl rfl))
set_option maxRecDepth 100000 in
set_option maxHeartbeats 4000000 in
theorem s_J8_newLength_cabcc_21 {l : Launch} {G : mG} {Q : Option Value → mH → Prop} {X : String → mH → Prop} (v0 : Int32) (v1 : Int32) (h : mH) {o : Int32 × mH} (E : g_J8_newLength_cabcc_21 v0 v1 h = some o) (hK : (fiI Q) o) : mW l G m_J8_newLength_cabcc 0 0 0 21 [some (.int v0), some (.int v1), none, none] [] h Q X := by
  unfold g_J8_newLength_cabcc_21 at E
  refine q_iload_n dJ8_newLength_cabcc_21 rfl ?_
  refine q_iload_n dJ8_newLength_cabcc_22 rfl ?_
  cases E
set_option maxRecDepth 100000 in
set_option maxHeartbeats 4000000 in
theorem s_J8_newLength_cabcc_0 {l : Launch} {G : mG} {Q : Option Value → mH → Prop} {X : String → mH → Prop} (v0 : Int32) (v1 : Int32) (v2 : Int32) (h : mH) {o : Int32 × mH} (E : f_J8_newLength_cabcc v0 v1 v2 h = some o) (hK : (fiI Q) o) : mW l G m_J8_newLength_cabcc 0 0 0 0 [some (.int v0), some (.int v1), some (.int v2), none] [] h Q X := by
  unfold f_J8_newLength_cabcc at E
  refine q_iload_n dJ8_newLength_cabcc_0 rfl ?_
  refine q_iload_n dJ8_newLength_cabcc_1 rfl ?_
  refine q_iload_n dJ8_newLength_cabcc_2 rfl ?_
  refine q_mmax dJ8_newLength_cabcc_3 XJ8_194 (Nat.le_of_ble_eq_true rfl) ?_
  refine q_iadd dJ8_newLength_cabcc_6 ?_
  replace E := bnd_x E
  obtain ⟨x1, ex1, E⟩ := E
  refine r_istore_n dJ8_newLength_cabcc_7 (by decide) ex1 (ls' := [some (.int v0), some (.int v1), some (.int v2), some (.int x1)]) rfl ?_
  refine q_iconst dJ8_newLength_cabcc_8 ?_
  refine q_iload_n dJ8_newLength_cabcc_9 rfl ?_
  refine q_icmp_ge (tgt := 21) dJ8_newLength_cabcc_10 (by decide) (fun z2 => ?_) (fun z2 => ?_)
  · replace E := ite_t E z2
    exact r_fewer [some (.int v0), some (.int v1), none, none] (ls_s (ls_s (ls_n (ls_n ls_0)))) (s_J8_newLength_cabcc_21 v0 v1 h E hK)
  · replace E := ite_f E z2
    refine q_iload_n dJ8_newLength_cabcc_13 rfl ?_
    refine q_ldc DJ8_200 dJ8_newLength_cabcc_14 ?_
    refine q_icmp_gt (tgt := 21) dJ8_newLength_cabcc_16 (by decide) (fun z3 => ?_) (fun z3 => ?_)
    · replace E := ite_t E z3
      exact r_fewer [some (.int v0), some (.int v1), none, none] (ls_s (ls_s (ls_n (ls_n ls_0)))) (s_J8_newLength_cabcc_21 v0 v1 h E hK)
    · replace E := ite_f E z3
      refine q_iload_n dJ8_newLength_cabcc_19 rfl ?_
      cases E
      exact q_ireturn dJ8_newLength_cabcc_20 rfl hK
theorem c_J8_newLength_cabcc {l : Launch} {G : mG} {v0 : Int32} {v1 : Int32} {v2 : Int32} {h h' : mH} {r : Int32} (E : f_J8_newLength_cabcc v0 v1 v2 h = some (r, h')) : mMet l G m_J8_newLength_cabcc 0 0 0 [.int v0, .int v1, .int v2] h (fun v k => v = some (.int r) ∧ h' = k) (fun _ _ => False) :=
  mMet_of (by decide +kernel) rfl (ac_c rfl (ac_c rfl (ac_c rfl ac_0))) (Nat.le_of_ble_eq_true rfl) (s_J8_newLength_cabcc_0 v0 v1 v2 h E (And.intro rfl rfl))
set_option maxRecDepth 100000 in
set_option maxHeartbeats 4000000 in
theorem s_J7_copyOf_9075b_0 {l : Launch} {G : mG} {Q : Option Value → mH → Prop} {X : String → mH → Prop} (p0 : Nat) (v1 : Int32) (h : mH) {o : Option Nat × mH} {c m c2 m2 : Nat} (E : f_J7_copyOf_9075b p0 v1 h = some (o, c, m)) (hK : (fun o (_ _ : Nat) => (fiR Q) o) o c2 m2) : mW l G m_J7_copyOf_9075b 0 (c2 + c) (m2 + m) 0 [some (.ref p0), some (.int v1), none] [] h Q X := by
  unfold f_J7_copyOf_9075b at E
  refine q_iload_n dJ7_copyOf_9075b_0 rfl ?_
  refine q_aload_n dJ7_copyOf_9075b_1 rfl ?_
  replace E := grd_some E
  obtain ⟨g1, E⟩ := E
  refine r_alen (t0 := 1) dJ7_copyOf_9075b_2 rfl g1 ?_
  refine q_icmp_ne (tgt := 14) dJ7_copyOf_9075b_3 (by decide) (fun z2 => ?_) (fun z2 => ?_)
  · replace E := ite_f E z2
    refine q_iload_n dJ7_copyOf_9075b_14 rfl ?_
    replace E := grd_some E
    obtain ⟨g3, E⟩ := E
    replace E := adc_some E
    obtain ⟨c_1, m_1, ec_1, em_1, E⟩ := E
    refine q_room (d' := 0) (mc' := (c2 + c_1) + 1) (ms' := (m2 + m_1) + (v1.toNatClampNeg)) (Nat.le_refl _) (by omega) (by omega) ?_
    replace E := bnd_x E
    obtain ⟨a4, ea4, E⟩ := E
    replace E := bnd_x E
    obtain ⟨h5, eh5, E⟩ := E
    refine r_newarrayD (t0 := 1) (hq := ea4) (hh := eh5) dJ7_copyOf_9075b_15 W_byte rfl rfl (by decide) g3 ?_
    refine r_astore_n dJ7_copyOf_9075b_17 (by decide) (ls' := [some (.ref p0), some (.int v1), some (.ref a4)]) rfl ?_
    refine q_aload_n dJ7_copyOf_9075b_18 rfl ?_
    refine q_iconst dJ7_copyOf_9075b_19 ?_
    refine q_aload_n dJ7_copyOf_9075b_20 rfl ?_
    refine q_iconst dJ7_copyOf_9075b_21 ?_
    refine q_aload_n dJ7_copyOf_9075b_22 rfl ?_
    replace E := grd_some E
    obtain ⟨g6, E⟩ := E
    refine r_alen (t0 := 1) dJ7_copyOf_9075b_23 rfl g6 ?_
    refine q_iload_n dJ7_copyOf_9075b_24 rfl ?_
    refine q_mmin dJ7_copyOf_9075b_25 XJ7_304 (Nat.le_of_ble_eq_true rfl) ?_
    replace E := grd_some E
    obtain ⟨g7, E⟩ := E
    replace E := grd_some E
    obtain ⟨g8, E⟩ := E
    replace E := grd_some E
    obtain ⟨g9, E⟩ := E
    replace E := bnd_x E
    obtain ⟨h10, eh10, E⟩ := E
    refine r_copy (t0 := 1) dJ7_copyOf_9075b_28 AJ7_150 rfl (by decide) rfl g6 g7 g8 g9 eh10 (Nat.le_of_ble_eq_true rfl) ?_
    refine q_aload_n dJ7_copyOf_9075b_31 rfl ?_
    cases E
    exact q_areturn (v := (some a4)) dJ7_copyOf_9075b_32 rfl (by first | exact Or.inl ⟨_, rfl⟩ | exact Or.inr ⟨_, rfl⟩) hK
  · replace E := ite_t E z2
    refine q_aload_n dJ7_copyOf_9075b_6 rfl ?_
    cases E
theorem c_J7_copyOf_9075b {l : Launch} {G : mG} {p0 : Nat} {v1 : Int32} {h h' : mH} {r : Option Nat} {c m B1 B2 : Nat} (E : f_J7_copyOf_9075b p0 v1 h = some ((r, h'), c, m)) (hb1 : c ≤ B1) (hb2 : m ≤ B2) : mMet l G m_J7_copyOf_9075b 0 B1 B2 [.ref p0, .int v1] h (fun v k => v = some (va_rf r) ∧ h' = k) (fun _ _ => False) :=
  mMet_of (by decide +kernel) rfl (ac_c rfl (ac_c rfl ac_0)) (Nat.le_of_ble_eq_true rfl) (q_room (mc' := 0 + c) (ms' := 0 + m) (Nat.le_refl _) (by omega) (by omega) (s_J7_copyOf_9075b_0 p0 v1 h E (And.intro rfl rfl)))
set_option maxRecDepth 100000 in
set_option maxHeartbeats 4000000 in
theorem s_J5_newCapacity_0f7a4_0 {l : Launch} {G : mG} {Q : Option Value → mH → Prop} {X : String → mH → Prop} (p0 : Nat) (v1 : Int32) (h : mH) {o : Int32 × mH} (E : f_J5_newCapacity_0f7a4 p0 v1 h = some o) (hK : (fiI Q) o) : mW l G m_J5_newCapacity_0f7a4 1 0 0 0 [some (.ref p0), some (.int v1), none, none, none, none] [] h Q X := by
  unfold f_J5_newCapacity_0f7a4 at E
  refine q_aload_n dJ5_newCapacity_0f7a4_0 rfl ?_
  replace E := grd_some E
  obtain ⟨g1, E⟩ := E
  replace E := orf_some E
  obtain ⟨a2, ea2, E⟩ := E
  refine r_getR dJ5_newCapacity_0f7a4_1 FJ5_15 g1 ea2 ?_
  replace E := grd_some E
  obtain ⟨g3, E⟩ := E
  refine r_alen (t0 := 1) dJ5_newCapacity_0f7a4_4 rfl g3 ?_
  replace E := bnd_x E
  obtain ⟨x4, ex4, E⟩ := E
  refine r_istore_n dJ5_newCapacity_0f7a4_5 (by decide) ex4 (ls' := [some (.ref p0), some (.int v1), some (.int x4), none, none, none]) rfl ?_
  refine q_iload_n dJ5_newCapacity_0f7a4_6 rfl ?_
  refine q_aload_n dJ5_newCapacity_0f7a4_7 rfl ?_
  refine r_getI dJ5_newCapacity_0f7a4_8 FJ5_22 g1 ?_
  refine q_ishl dJ5_newCapacity_0f7a4_11 ?_
  replace E := bnd_x E
  obtain ⟨x5, ex5, E⟩ := E
  refine r_istore_n dJ5_newCapacity_0f7a4_12 (by decide) ex5 (ls' := [some (.ref p0), some (.int v1), some (.int x4), some (.int x5), none, none]) rfl ?_
  refine q_iload_n dJ5_newCapacity_0f7a4_13 rfl ?_
  refine q_iload_n dJ5_newCapacity_0f7a4_14 rfl ?_
  refine q_isub dJ5_newCapacity_0f7a4_15 ?_
  replace E := bnd_x E
  obtain ⟨x6, ex6, E⟩ := E
  refine r_istore dJ5_newCapacity_0f7a4_16 (by decide) ex6 (ls' := [some (.ref p0), some (.int v1), some (.int x4), some (.int x5), some (.int x6), none]) rfl ?_
  refine q_iload_n dJ5_newCapacity_0f7a4_18 rfl ?_
  refine q_iload dJ5_newCapacity_0f7a4_19 rfl ?_
  refine q_iload_n dJ5_newCapacity_0f7a4_21 rfl ?_
  refine q_iconst dJ5_newCapacity_0f7a4_22 ?_
  refine q_aload_n dJ5_newCapacity_0f7a4_23 rfl ?_
  refine r_getI dJ5_newCapacity_0f7a4_24 FJ5_22 g1 ?_
  refine q_ishl dJ5_newCapacity_0f7a4_27 ?_
  refine q_iadd dJ5_newCapacity_0f7a4_28 ?_
  replace E := cal_some E
  obtain ⟨x8, h7, hc, E⟩ := E
  refine r_callS3 (mc := 0) (ms := 0) dJ5_newCapacity_0f7a4_29 KJ5_114 (c_J8_newLength_cabcc hc) (by decide) (Nat.le_of_ble_eq_true rfl) (fun _ _ q => q.elim) ?_
  rintro _ _ ⟨rfl, rfl⟩
  clear hc
  refine r_istore dJ5_newCapacity_0f7a4_32 (by decide) rfl (ls' := [some (.ref p0), some (.int v1), some (.int x4), some (.int x5), some (.int x6), some (.int x8)]) rfl ?_
  refine q_iload dJ5_newCapacity_0f7a4_34 rfl ?_
  refine q_ldc DJ5_39 dJ5_newCapacity_0f7a4_36 ?_
  refine q_icmp_ne (tgt := 51) dJ5_newCapacity_0f7a4_38 (by decide) (fun z9 => ?_) (fun z9 => ?_)
  · replace E := ite_f E z9
    refine q_iload dJ5_newCapacity_0f7a4_51 rfl ?_
    refine q_aload_n dJ5_newCapacity_0f7a4_53 rfl ?_
    replace E := grd_some E
    obtain ⟨g10, E⟩ := E
    refine r_getI dJ5_newCapacity_0f7a4_54 FJ5_22 g10 ?_
    refine q_ishr dJ5_newCapacity_0f7a4_57 ?_
    cases E
    exact q_ireturn dJ5_newCapacity_0f7a4_58 rfl hK
  · replace E := ite_t E z9
    cases E
theorem c_J5_newCapacity_0f7a4 {l : Launch} {G : mG} {p0 : Nat} {v1 : Int32} {h h' : mH} {r : Int32} (E : f_J5_newCapacity_0f7a4 p0 v1 h = some (r, h')) : mMet l G m_J5_newCapacity_0f7a4 1 0 0 [.ref p0, .int v1] h (fun v k => v = some (.int r) ∧ h' = k) (fun _ _ => False) :=
  mMet_of (by decide +kernel) rfl (ac_c rfl (ac_c rfl ac_0)) (Nat.le_of_ble_eq_true rfl) (s_J5_newCapacity_0f7a4_0 p0 v1 h E (And.intro rfl rfl))
set_option maxRecDepth 100000 in
set_option maxHeartbeats 4000000 in
theorem s_J5_ensureCapacityInternal_d00df_38 {l : Launch} {G : mG} {Q : Option Value → mH → Prop} {X : String → mH → Prop} (h : mH) {o : Unit × mH} {c m c2 m2 : Nat} (E : g_J5_ensureCapacityInternal_d00df_38  h = some (o, c, m)) (hK : (fun o (_ _ : Nat) => (fiV Q) o) o c2 m2) : mW l G m_J5_ensureCapacityInternal_d00df 2 (c2 + c) (m2 + m) 38 [none, none, none] [] h Q X := by
  unfold g_J5_ensureCapacityInternal_d00df_38 at E
  cases E
  exact q_return dJ5_ensureCapacityInternal_d00df_38 rfl hK
set_option maxRecDepth 100000 in
set_option maxHeartbeats 4000000 in
theorem s_J5_ensureCapacityInternal_d00df_0 {l : Launch} {G : mG} {Q : Option Value → mH → Prop} {X : String → mH → Prop} (p0 : Nat) (v1 : Int32) (h : mH) {o : Unit × mH} {c m c2 m2 : Nat} (E : f_J5_ensureCapacityInternal_d00df p0 v1 h = some (o, c, m)) (hK : (fun o (_ _ : Nat) => (fiV Q) o) o c2 m2) : mW l G m_J5_ensureCapacityInternal_d00df 2 (c2 + c) (m2 + m) 0 [some (.ref p0), some (.int v1), none] [] h Q X := by
  unfold f_J5_ensureCapacityInternal_d00df at E
  refine q_aload_n dJ5_ensureCapacityInternal_d00df_0 rfl ?_
  replace E := grd_some E
  obtain ⟨g1, E⟩ := E
  replace E := orf_some E
  obtain ⟨a2, ea2, E⟩ := E
  refine r_getR dJ5_ensureCapacityInternal_d00df_1 FJ5_15 g1 ea2 ?_
  replace E := grd_some E
  obtain ⟨g3, E⟩ := E
  refine r_alen (t0 := 1) dJ5_ensureCapacityInternal_d00df_4 rfl g3 ?_
  refine q_aload_n dJ5_ensureCapacityInternal_d00df_5 rfl ?_
  refine r_getI dJ5_ensureCapacityInternal_d00df_6 FJ5_22 g1 ?_
  refine q_ishr dJ5_ensureCapacityInternal_d00df_9 ?_
  replace E := bnd_x E
  obtain ⟨x4, ex4, E⟩ := E
  refine r_istore_n dJ5_ensureCapacityInternal_d00df_10 (by decide) ex4 (ls' := [some (.ref p0), some (.int v1), some (.int x4)]) rfl ?_
  refine q_iload_n dJ5_ensureCapacityInternal_d00df_11 rfl ?_
  refine q_iload_n dJ5_ensureCapacityInternal_d00df_12 rfl ?_
  refine q_isub dJ5_ensureCapacityInternal_d00df_13 ?_
  refine q_if_le (tgt := 38) dJ5_ensureCapacityInternal_d00df_14 (by decide) (fun z5 => ?_) (fun z5 => ?_)
  · replace E := ite_t E z5
    exact r_fewer [none, none, none] (ls_n (ls_n (ls_n ls_0))) (s_J5_ensureCapacityInternal_d00df_38 h E hK)
  · replace E := ite_f E z5
    refine q_aload_n dJ5_ensureCapacityInternal_d00df_17 rfl ?_
    refine q_aload_n dJ5_ensureCapacityInternal_d00df_18 rfl ?_
    refine r_getR dJ5_ensureCapacityInternal_d00df_19 FJ5_15 g1 ea2 ?_
    refine q_aload_n dJ5_ensureCapacityInternal_d00df_22 rfl ?_
    refine q_iload_n dJ5_ensureCapacityInternal_d00df_23 rfl ?_
    replace E := cal_some E
    obtain ⟨x8, h7, hc, E⟩ := E
    refine q_room (d' := 2) (mc' := 0 + (c2 + c)) (ms' := 0 + (m2 + m)) (Nat.le_refl _) (by omega) (by omega) ?_
    refine r_callU1 (mc := c2 + c) (ms := m2 + m) dJ5_ensureCapacityInternal_d00df_24 KJ5_104 (c_J5_newCapacity_0f7a4 hc) g1 (by decide) (Nat.le_of_ble_eq_true rfl) (fun _ _ q => q.elim) ?_
    rintro _ _ ⟨rfl, rfl⟩
    clear hc
    refine q_aload_n dJ5_ensureCapacityInternal_d00df_27 rfl ?_
    replace E := grd_some E
    obtain ⟨g9, E⟩ := E
    refine r_getI dJ5_ensureCapacityInternal_d00df_28 FJ5_22 g9 ?_
    refine q_ishl dJ5_ensureCapacityInternal_d00df_31 ?_
    replace E := calC_some E
    obtain ⟨o11, h10, ch10, mh10, hc, E⟩ := E
    replace E := adc_some E
    obtain ⟨c_1, m_1, ec_1, em_1, E⟩ := E
    refine q_room (d' := 2) (mc' := ch10 + (c2 + c_1)) (ms' := mh10 + (m2 + m_1)) (Nat.le_refl _) (by omega) (by omega) ?_
    refine r_callS2 (mc := c2 + c_1) (ms := m2 + m_1) dJ5_ensureCapacityInternal_d00df_32 KJ5_108 (c_J7_copyOf_9075b hc (Nat.le_refl _) (Nat.le_refl _)) (by decide) (Nat.le_of_ble_eq_true rfl) (fun _ _ q => q.elim) ?_
    rintro _ _ ⟨rfl, rfl⟩
    clear hc
    replace E := grd_some E
    obtain ⟨g12, E⟩ := E
    replace E := orf_some E
    obtain ⟨a14, rfl, E⟩ := E
    replace E := bnd_x E
    obtain ⟨h13, eh13, E⟩ := E
    refine r_putR (hh := eh13) dJ5_ensureCapacityInternal_d00df_35 FJ5_15 g12 (hf := Or.inl rfl) ?_
    exact r_fewer [none, none, none] (ls_n (ls_n (ls_n ls_0))) (s_J5_ensureCapacityInternal_d00df_38 h13 E hK)
theorem c_J5_ensureCapacityInternal_d00df {l : Launch} {G : mG} {p0 : Nat} {v1 : Int32} {h h' : mH} {r : Unit} {c m B1 B2 : Nat} (E : f_J5_ensureCapacityInternal_d00df p0 v1 h = some ((r, h'), c, m)) (hb1 : c ≤ B1) (hb2 : m ≤ B2) : mMet l G m_J5_ensureCapacityInternal_d00df 2 B1 B2 [.ref p0, .int v1] h (fun v k => v = none ∧ h' = k) (fun _ _ => False) :=
  mMet_of (by decide +kernel) rfl (ac_c rfl (ac_c rfl ac_0)) (Nat.le_of_ble_eq_true rfl) (q_room (mc' := 0 + c) (ms' := 0 + m) (Nat.le_refl _) (by omega) (by omega) (s_J5_ensureCapacityInternal_d00df_0 p0 v1 h E (And.intro rfl rfl)))
set_option maxRecDepth 100000 in
set_option maxHeartbeats 4000000 in
theorem s_J5_append_3fe6f_56 {l : Launch} {G : mG} {Q : Option Value → mH → Prop} {X : String → mH → Prop} (p0 : Nat) (v1 : Int32) (h : mH) {o : Option Nat × mH} {c m c2 m2 : Nat} (E : g_J5_append_3fe6f_56 p0 v1 h = some (o, c, m)) (hK : (fun o (_ _ : Nat) => (fiR Q) o) o c2 m2) : mW l G m_J5_append_3fe6f 3 (c2 + c) (m2 + m) 56 [some (.ref p0), some (.int v1)] [] h Q X := by
  unfold g_J5_append_3fe6f_56 at E
  refine q_aload_n dJ5_append_3fe6f_56 rfl ?_
  replace E := grd_some E
  obtain ⟨g1, E⟩ := E
  replace E := orf_some E
  obtain ⟨a2, ea2, E⟩ := E
  refine r_getR dJ5_append_3fe6f_57 FJ5_15 g1 ea2 ?_
  refine q_aload_n dJ5_append_3fe6f_60 rfl ?_
  refine q_dup dJ5_append_3fe6f_61 ?_
  refine r_getI dJ5_append_3fe6f_62 FJ5_79 g1 ?_
  refine q_dup_x1 dJ5_append_3fe6f_65 ?_
  refine q_iconst dJ5_append_3fe6f_66 ?_
  refine q_iadd dJ5_append_3fe6f_67 ?_
  replace E := bnd_x E
  obtain ⟨h3, eh3, E⟩ := E
  refine r_putI (hh := eh3) dJ5_append_3fe6f_68 FJ5_79 g1 rfl rfl ?_
  refine q_iload_n dJ5_append_3fe6f_71 rfl ?_
  cases E
set_option maxRecDepth 100000 in
set_option maxHeartbeats 4000000 in
theorem s_J5_append_3fe6f_45 {l : Launch} {G : mG} {Q : Option Value → mH → Prop} {X : String → mH → Prop} (p0 : Nat) (v1 : Int32) (h : mH) {o : Option Nat × mH} {c m c2 m2 : Nat} (E : g_J5_append_3fe6f_45 p0 v1 h = some (o, c, m)) (hK : (fun o (_ _ : Nat) => (fiR Q) o) o c2 m2) : mW l G m_J5_append_3fe6f 3 (c2 + c) (m2 + m) 45 [some (.ref p0), some (.int v1)] [] h Q X := by
  unfold g_J5_append_3fe6f_45 at E
  refine q_aload_n dJ5_append_3fe6f_45 rfl ?_
  replace E := grd_some E
  obtain ⟨g3, E⟩ := E
  replace E := cal_some E
  obtain ⟨x2, h1, hc, E⟩ := E
  refine q_room (d' := 3) (mc' := 0 + (c2 + c)) (ms' := 0 + (m2 + m)) (Nat.le_refl _) (by omega) (by omega) ?_
  refine r_callU0 (mc := c2 + c) (ms := m2 + m) dJ5_append_3fe6f_46 KJ5_83 (c_J5_isLatin1_aae02 hc) g3 (by decide) (Nat.le_of_ble_eq_true rfl) (fun _ _ q => q.elim) ?_
  rintro _ _ ⟨rfl, rfl⟩
  clear hc
  refine q_if_eq (tgt := 56) dJ5_append_3fe6f_49 (by decide) (fun z4 => ?_) (fun z4 => ?_)
  · replace E := ite_t E z4
    exact r_fewer [some (.ref p0), some (.int v1)] (ls_s (ls_s ls_0)) (s_J5_append_3fe6f_56 p0 v1 h1 E hK)
  · replace E := ite_f E z4
    refine q_aload_n dJ5_append_3fe6f_52 rfl ?_
    cases E
set_option maxRecDepth 100000 in
set_option maxHeartbeats 4000000 in
theorem s_J5_append_3fe6f_75 {l : Launch} {G : mG} {Q : Option Value → mH → Prop} {X : String → mH → Prop} (p0 : Nat) (h : mH) {o : Option Nat × mH} {c m c2 m2 : Nat} (E : g_J5_append_3fe6f_75 p0 h = some (o, c, m)) (hK : (fun o (_ _ : Nat) => (fiR Q) o) o c2 m2) : mW l G m_J5_append_3fe6f 3 (c2 + c) (m2 + m) 75 [some (.ref p0), none] [] h Q X := by
  unfold g_J5_append_3fe6f_75 at E
  refine q_aload_n dJ5_append_3fe6f_75 rfl ?_
  cases E
  exact q_areturn (v := (some p0)) dJ5_append_3fe6f_76 rfl (by first | exact Or.inl ⟨_, rfl⟩ | exact Or.inr ⟨_, rfl⟩) hK
set_option maxRecDepth 100000 in
set_option maxHeartbeats 4000000 in
theorem s_J5_append_3fe6f_0 {l : Launch} {G : mG} {Q : Option Value → mH → Prop} {X : String → mH → Prop} (p0 : Nat) (v1 : Int32) (h : mH) {o : Option Nat × mH} {c m c2 m2 : Nat} (E : f_J5_append_3fe6f p0 v1 h = some (o, c, m)) (hK : (fun o (_ _ : Nat) => (fiR Q) o) o c2 m2) : mW l G m_J5_append_3fe6f 3 (c2 + c) (m2 + m) 0 [some (.ref p0), some (.int v1)] [] h Q X := by
  unfold f_J5_append_3fe6f at E
  refine q_aload_n dJ5_append_3fe6f_0 rfl ?_
  refine q_aload_n dJ5_append_3fe6f_1 rfl ?_
  replace E := grd_some E
  obtain ⟨g1, E⟩ := E
  refine r_getI dJ5_append_3fe6f_2 FJ5_79 g1 ?_
  refine q_iconst dJ5_append_3fe6f_5 ?_
  refine q_iadd dJ5_append_3fe6f_6 ?_
  replace E := calC_some E
  obtain ⟨_, h2, ch2, mh2, hc, E⟩ := E
  replace E := adc_some E
  obtain ⟨c_1, m_1, ec_1, em_1, E⟩ := E
  refine q_room (d' := 3) (mc' := ch2 + (c2 + c_1)) (ms' := mh2 + (m2 + m_1)) (Nat.le_refl _) (by omega) (by omega) ?_
  refine r_callU1 (mc := c2 + c_1) (ms := m2 + m_1) dJ5_append_3fe6f_7 KJ5_100 (c_J5_ensureCapacityInternal_d00df hc (Nat.le_refl _) (Nat.le_refl _)) g1 (by decide) (Nat.le_of_ble_eq_true rfl) (fun _ _ q => q.elim) ?_
  rintro _ _ ⟨rfl, rfl⟩
  clear hc
  refine q_aload_n dJ5_append_3fe6f_10 rfl ?_
  replace E := grd_some E
  obtain ⟨g6, E⟩ := E
  replace E := cal_some E
  obtain ⟨x5, h4, hc, E⟩ := E
  refine q_room (d' := 3) (mc' := 0 + (c2 + c_1)) (ms' := 0 + (m2 + m_1)) (Nat.le_refl _) (by omega) (by omega) ?_
  refine r_callU0 (mc := c2 + c_1) (ms := m2 + m_1) dJ5_append_3fe6f_11 KJ5_83 (c_J5_isLatin1_aae02 hc) g6 (by decide) (Nat.le_of_ble_eq_true rfl) (fun _ _ q => q.elim) ?_
  rintro _ _ ⟨rfl, rfl⟩
  clear hc
  refine q_if_eq (tgt := 45) dJ5_append_3fe6f_14 (by decide) (fun z7 => ?_) (fun z7 => ?_)
  · replace E := ite_t E z7
    exact r_fewer [some (.ref p0), some (.int v1)] (ls_s (ls_s ls_0)) (s_J5_append_3fe6f_45 p0 v1 h4 E hK)
  · replace E := ite_f E z7
    refine q_iload_n dJ5_append_3fe6f_17 rfl ?_
    replace E := cal_some E
    obtain ⟨x9, h8, hc, E⟩ := E
    refine q_room (d' := 3) (mc' := 0 + (c2 + c_1)) (ms' := 0 + (m2 + m_1)) (Nat.le_refl _) (by omega) (by omega) ?_
    refine r_callS1 (mc := c2 + c_1) (ms := m2 + m_1) dJ5_append_3fe6f_18 KJ5_191 (c_J1_canEncode_fc78d hc) (by decide) (Nat.le_of_ble_eq_true rfl) (fun _ _ q => q.elim) ?_
    rintro _ _ ⟨rfl, rfl⟩
    clear hc
    refine q_if_eq (tgt := 45) dJ5_append_3fe6f_21 (by decide) (fun z10 => ?_) (fun z10 => ?_)
    · replace E := ite_t E z10
      exact r_fewer [some (.ref p0), some (.int v1)] (ls_s (ls_s ls_0)) (s_J5_append_3fe6f_45 p0 v1 h8 E hK)
    · replace E := ite_f E z10
      refine q_aload_n dJ5_append_3fe6f_24 rfl ?_
      replace E := grd_some E
      obtain ⟨g11, E⟩ := E
      replace E := orf_some E
      obtain ⟨a12, ea12, E⟩ := E
      refine r_getR dJ5_append_3fe6f_25 FJ5_15 g11 ea12 ?_
      refine q_aload_n dJ5_append_3fe6f_28 rfl ?_
      refine q_dup dJ5_append_3fe6f_29 ?_
      refine r_getI dJ5_append_3fe6f_30 FJ5_79 g11 ?_
      refine q_dup_x1 dJ5_append_3fe6f_33 ?_
      refine q_iconst dJ5_append_3fe6f_34 ?_
      refine q_iadd dJ5_append_3fe6f_35 ?_
      replace E := bnd_x E
      obtain ⟨h13, eh13, E⟩ := E
      refine r_putI (hh := eh13) dJ5_append_3fe6f_36 FJ5_79 g11 rfl rfl ?_
      refine q_iload_n dJ5_append_3fe6f_39 rfl ?_
      refine q_i2b dJ5_append_3fe6f_40 ?_
      replace E := grd_some E
      obtain ⟨g15, E⟩ := E
      replace E := grd_some E
      obtain ⟨g16, E⟩ := E
      replace E := grd_some E
      obtain ⟨g17, E⟩ := E
      replace E := bnd_x E
      obtain ⟨h14, eh14, E⟩ := E
      refine r_bastore (hh := eh14) dJ5_append_3fe6f_41 g15 g16 g17 ?_
      refine q_goto (tgt := 75) dJ5_append_3fe6f_42 (by decide) ?_
      exact r_fewer [some (.ref p0), none] (ls_s (ls_n ls_0)) (s_J5_append_3fe6f_75 p0 h14 E hK)
theorem c_J5_append_3fe6f {l : Launch} {G : mG} {p0 : Nat} {v1 : Int32} {h h' : mH} {r : Option Nat} {c m B1 B2 : Nat} (E : f_J5_append_3fe6f p0 v1 h = some ((r, h'), c, m)) (hb1 : c ≤ B1) (hb2 : m ≤ B2) : mMet l G m_J5_append_3fe6f 3 B1 B2 [.ref p0, .int v1] h (fun v k => v = some (va_rf r) ∧ h' = k) (fun _ _ => False) :=
  mMet_of (by decide +kernel) rfl (ac_c rfl (ac_c rfl ac_0)) (Nat.le_of_ble_eq_true rfl) (q_room (mc' := 0 + c) (ms' := 0 + m) (Nat.le_refl _) (by omega) (by omega) (s_J5_append_3fe6f_0 p0 v1 h E (And.intro rfl rfl)))
set_option maxRecDepth 100000 in
set_option maxHeartbeats 4000000 in
theorem s_J4_append_cf468_0 {l : Launch} {G : mG} {Q : Option Value → mH → Prop} {X : String → mH → Prop} (p0 : Nat) (v1 : Int32) (h : mH) {o : Option Nat × mH} {c m c2 m2 : Nat} (E : f_J4_append_cf468 p0 v1 h = some (o, c, m)) (hK : (fun o (_ _ : Nat) => (fiR Q) o) o c2 m2) : mW l G m_J4_append_cf468 4 (c2 + c) (m2 + m) 0 [some (.ref p0), some (.int v1)] [] h Q X := by
  unfold f_J4_append_cf468 at E
  refine q_aload_n dJ4_append_cf468_0 rfl ?_
  refine q_iload_n dJ4_append_cf468_1 rfl ?_
  replace E := grd_some E
  obtain ⟨g3, E⟩ := E
  replace E := calC_some E
  obtain ⟨o2, h1, ch1, mh1, hc, E⟩ := E
  replace E := adc_some E
  obtain ⟨c_1, m_1, ec_1, em_1, E⟩ := E
  refine q_room (d' := 4) (mc' := ch1 + (c2 + c_1)) (ms' := mh1 + (m2 + m_1)) (Nat.le_refl _) (by omega) (by omega) ?_
  refine r_callSU1 (mc := c2 + c_1) (ms := m2 + m_1) dJ4_append_cf468_2 KJ4_50 (c_J5_append_3fe6f hc (Nat.le_refl _) (Nat.le_refl _)) g3 (by decide) (Nat.le_of_ble_eq_true rfl) (fun _ _ q => q.elim) ?_
  rintro _ _ ⟨rfl, rfl⟩
  clear hc
  refine q_pop (h1 := r_cat _) dJ4_append_cf468_5 ?_
  refine q_aload_n dJ4_append_cf468_6 rfl ?_
  cases E
  exact q_areturn (v := (some p0)) dJ4_append_cf468_7 rfl (by first | exact Or.inl ⟨_, rfl⟩ | exact Or.inr ⟨_, rfl⟩) hK
theorem c_J4_append_cf468 {l : Launch} {G : mG} {p0 : Nat} {v1 : Int32} {h h' : mH} {r : Option Nat} {c m B1 B2 : Nat} (E : f_J4_append_cf468 p0 v1 h = some ((r, h'), c, m)) (hb1 : c ≤ B1) (hb2 : m ≤ B2) : mMet l G m_J4_append_cf468 4 B1 B2 [.ref p0, .int v1] h (fun v k => v = some (va_rf r) ∧ h' = k) (fun _ _ => False) :=
  mMet_of (by decide +kernel) rfl (ac_c rfl (ac_c rfl ac_0)) (Nat.le_of_ble_eq_true rfl) (q_room (mc' := 0 + c) (ms' := 0 + m) (Nat.le_refl _) (by omega) (by omega) (s_J4_append_cf468_0 p0 v1 h E (And.intro rfl rfl)))
set_option maxRecDepth 100000 in
set_option maxHeartbeats 4000000 in
theorem s_J5_setLength_d00df_76 {l : Launch} {G : mG} {Q : Option Value → mH → Prop} {X : String → mH → Prop} (p0 : Nat) (v1 : Int32) (h : mH) {o : Unit × mH} {c m c2 m2 : Nat} (E : g_J5_setLength_d00df_76 p0 v1 h = some (o, c, m)) (hK : (fun o (_ _ : Nat) => (fiV Q) o) o c2 m2) : mW l G m_J5_setLength_d00df 3 (c2 + c) (m2 + m) 76 [some (.ref p0), some (.int v1)] [] h Q X := by
  unfold g_J5_setLength_d00df_76 at E
  refine q_aload_n dJ5_setLength_d00df_76 rfl ?_
  refine q_iload_n dJ5_setLength_d00df_77 rfl ?_
  replace E := grd_some E
  obtain ⟨g1, E⟩ := E
  replace E := bnd_x E
  obtain ⟨h2, eh2, E⟩ := E
  refine r_putI (hh := eh2) dJ5_setLength_d00df_78 FJ5_79 g1 rfl rfl ?_
  cases E
  exact q_return dJ5_setLength_d00df_81 rfl hK
set_option maxRecDepth 100000 in
set_option maxHeartbeats 4000000 in
theorem s_J5_setLength_d00df_0 {l : Launch} {G : mG} {Q : Option Value → mH → Prop} {X : String → mH → Prop} (p0 : Nat) (v1 : Int32) (h : mH) {o : Unit × mH} {c m c2 m2 : Nat} (E : f_J5_setLength_d00df p0 v1 h = some (o, c, m)) (hK : (fun o (_ _ : Nat) => (fiV Q) o) o c2 m2) : mW l G m_J5_setLength_d00df 3 (c2 + c) (m2 + m) 0 [some (.ref p0), some (.int v1)] [] h Q X := by
  unfold f_J5_setLength_d00df at E
  refine q_iload_n dJ5_setLength_d00df_0 rfl ?_
  refine q_if_ge (tgt := 13) dJ5_setLength_d00df_1 (by decide) (fun z1 => ?_) (fun z1 => ?_)
  · replace E := ite_t E z1
    refine q_aload_n dJ5_setLength_d00df_13 rfl ?_
    refine q_iload_n dJ5_setLength_d00df_14 rfl ?_
    replace E := grd_some E
    obtain ⟨g4, E⟩ := E
    replace E := calC_some E
    obtain ⟨_, h2, ch2, mh2, hc, E⟩ := E
    replace E := adc_some E
    obtain ⟨c_1, m_1, ec_1, em_1, E⟩ := E
    refine q_room (d' := 3) (mc' := ch2 + (c2 + c_1)) (ms' := mh2 + (m2 + m_1)) (Nat.le_refl _) (by omega) (by omega) ?_
    refine r_callU1 (mc := c2 + c_1) (ms := m2 + m_1) dJ5_setLength_d00df_15 KJ5_100 (c_J5_ensureCapacityInternal_d00df hc (Nat.le_refl _) (Nat.le_refl _)) g4 (by decide) (Nat.le_of_ble_eq_true rfl) (fun _ _ q => q.elim) ?_
    rintro _ _ ⟨rfl, rfl⟩
    clear hc
    refine q_aload_n dJ5_setLength_d00df_18 rfl ?_
    replace E := grd_some E
    obtain ⟨g5, E⟩ := E
    refine r_getI dJ5_setLength_d00df_19 FJ5_79 g5 ?_
    refine q_iload_n dJ5_setLength_d00df_22 rfl ?_
    refine q_icmp_ge (tgt := 63) dJ5_setLength_d00df_23 (by decide) (fun z6 => ?_) (fun z6 => ?_)
    · replace E := ite_t E z6
      refine q_aload_n dJ5_setLength_d00df_63 rfl ?_
      refine r_getI dJ5_setLength_d00df_64 FJ5_79 g5 ?_
      refine q_iload_n dJ5_setLength_d00df_67 rfl ?_
      refine q_icmp_le (tgt := 76) dJ5_setLength_d00df_68 (by decide) (fun z7 => ?_) (fun z7 => ?_)
      · replace E := ite_t E z7
        exact r_fewer [some (.ref p0), some (.int v1)] (ls_s (ls_s ls_0)) (s_J5_setLength_d00df_76 p0 v1 h2 E hK)
      · replace E := ite_f E z7
        refine q_aload_n dJ5_setLength_d00df_71 rfl ?_
        refine q_iconst dJ5_setLength_d00df_72 ?_
        replace E := bnd_x E
        obtain ⟨h8, eh8, E⟩ := E
        refine r_putI (hh := eh8) dJ5_setLength_d00df_73 FJ5_73 g5 (by decide) (by decide) ?_
        exact r_fewer [some (.ref p0), some (.int v1)] (ls_s (ls_s ls_0)) (s_J5_setLength_d00df_76 p0 v1 h8 E hK)
    · replace E := ite_f E z6
      refine q_aload_n dJ5_setLength_d00df_26 rfl ?_
      replace E := cal_some E
      obtain ⟨x10, h9, hc, E⟩ := E
      refine q_room (d' := 3) (mc' := 0 + (c2 + c_1)) (ms' := 0 + (m2 + m_1)) (Nat.le_refl _) (by omega) (by omega) ?_
      refine r_callU0 (mc := c2 + c_1) (ms := m2 + m_1) dJ5_setLength_d00df_27 KJ5_83 (c_J5_isLatin1_aae02 hc) g5 (by decide) (Nat.le_of_ble_eq_true rfl) (fun _ _ q => q.elim) ?_
      rintro _ _ ⟨rfl, rfl⟩
      clear hc
      refine q_if_eq (tgt := 48) dJ5_setLength_d00df_30 (by decide) (fun z11 => ?_) (fun z11 => ?_)
      · replace E := ite_t E z11
        refine q_aload_n dJ5_setLength_d00df_48 rfl ?_
        replace E := grd_some E
        obtain ⟨g12, E⟩ := E
        replace E := orf_some E
        obtain ⟨a13, ea13, E⟩ := E
        refine r_getR dJ5_setLength_d00df_49 FJ5_15 g12 ea13 ?_
        refine q_aload_n dJ5_setLength_d00df_52 rfl ?_
        refine r_getI dJ5_setLength_d00df_53 FJ5_79 g12 ?_
        refine q_iload_n dJ5_setLength_d00df_56 rfl ?_
        cases E
      · replace E := ite_f E z11
        refine q_aload_n dJ5_setLength_d00df_33 rfl ?_
        replace E := grd_some E
        obtain ⟨g14, E⟩ := E
        replace E := orf_some E
        obtain ⟨a15, ea15, E⟩ := E
        refine r_getR dJ5_setLength_d00df_34 FJ5_15 g14 ea15 ?_
        refine q_aload_n dJ5_setLength_d00df_37 rfl ?_
        refine r_getI dJ5_setLength_d00df_38 FJ5_79 g14 ?_
        refine q_iload_n dJ5_setLength_d00df_41 rfl ?_
        cases E
  · replace E := ite_f E z1
    replace E := adc_some E
    obtain ⟨c_2, m_2, ec_2, em_2, E⟩ := E
    refine q_room (d' := 3) (mc' := (c2 + c_2) + 1) (ms' := (m2 + m_2) + 6) (Nat.le_refl _) (by omega) (by omega) ?_
    replace E := bnd_x E
    obtain ⟨a16, ea16, E⟩ := E
    replace E := bnd_x E
    obtain ⟨h17, eh17, E⟩ := E
    refine r_new (hq := ea16) (hh := eh17) dJ5_setLength_d00df_4 CJ5_129 ?_
    refine q_dup dJ5_setLength_d00df_7 ?_
    refine q_iload_n dJ5_setLength_d00df_8 rfl ?_
    cases E
theorem c_J5_setLength_d00df {l : Launch} {G : mG} {p0 : Nat} {v1 : Int32} {h h' : mH} {r : Unit} {c m B1 B2 : Nat} (E : f_J5_setLength_d00df p0 v1 h = some ((r, h'), c, m)) (hb1 : c ≤ B1) (hb2 : m ≤ B2) : mMet l G m_J5_setLength_d00df 3 B1 B2 [.ref p0, .int v1] h (fun v k => v = none ∧ h' = k) (fun _ _ => False) :=
  mMet_of (by decide +kernel) rfl (ac_c rfl (ac_c rfl ac_0)) (Nat.le_of_ble_eq_true rfl) (q_room (mc' := 0 + c) (ms' := 0 + m) (Nat.le_refl _) (by omega) (by omega) (s_J5_setLength_d00df_0 p0 v1 h E (And.intro rfl rfl)))
set_option maxRecDepth 100000 in
set_option maxHeartbeats 4000000 in
theorem s_J4_setLength_d00df_0 {l : Launch} {G : mG} {Q : Option Value → mH → Prop} {X : String → mH → Prop} (p0 : Nat) (v1 : Int32) (h : mH) {o : Unit × mH} {c m c2 m2 : Nat} (E : f_J4_setLength_d00df p0 v1 h = some (o, c, m)) (hK : (fun o (_ _ : Nat) => (fiV Q) o) o c2 m2) : mW l G m_J4_setLength_d00df 4 (c2 + c) (m2 + m) 0 [some (.ref p0), some (.int v1)] [] h Q X := by
  unfold f_J4_setLength_d00df at E
  refine q_aload_n dJ4_setLength_d00df_0 rfl ?_
  refine q_iload_n dJ4_setLength_d00df_1 rfl ?_
  replace E := grd_some E
  obtain ⟨g3, E⟩ := E
  replace E := calC_some E
  obtain ⟨_, h1, ch1, mh1, hc, E⟩ := E
  replace E := adc_some E
  obtain ⟨c_1, m_1, ec_1, em_1, E⟩ := E
  refine q_room (d' := 4) (mc' := ch1 + (c2 + c_1)) (ms' := mh1 + (m2 + m_1)) (Nat.le_refl _) (by omega) (by omega) ?_
  refine r_callSU1 (mc := c2 + c_1) (ms := m2 + m_1) dJ4_setLength_d00df_2 KJ4_333 (c_J5_setLength_d00df hc (Nat.le_refl _) (Nat.le_refl _)) g3 (by decide) (Nat.le_of_ble_eq_true rfl) (fun _ _ q => q.elim) ?_
  rintro _ _ ⟨rfl, rfl⟩
  clear hc
  cases E
  exact q_return dJ4_setLength_d00df_5 rfl hK
theorem c_J4_setLength_d00df {l : Launch} {G : mG} {p0 : Nat} {v1 : Int32} {h h' : mH} {r : Unit} {c m B1 B2 : Nat} (E : f_J4_setLength_d00df p0 v1 h = some ((r, h'), c, m)) (hb1 : c ≤ B1) (hb2 : m ≤ B2) : mMet l G m_J4_setLength_d00df 4 B1 B2 [.ref p0, .int v1] h (fun v k => v = none ∧ h' = k) (fun _ _ => False) :=
  mMet_of (by decide +kernel) rfl (ac_c rfl (ac_c rfl ac_0)) (Nat.le_of_ble_eq_true rfl) (q_room (mc' := 0 + c) (ms' := 0 + m) (Nat.le_refl _) (by omega) (by omega) (s_J4_setLength_d00df_0 p0 v1 h E (And.intro rfl rfl)))
set_option maxRecDepth 100000 in
set_option maxHeartbeats 4000000 in
theorem s_J5_reverse_278bc_73 {l : Launch} {G : mG} {Q : Option Value → mH → Prop} {X : String → mH → Prop} (p0 : Nat) (h : mH) {o : Option Nat × mH} (E : g_J5_reverse_278bc_73 p0 h = some o) (hK : (fiR Q) o) : mW l G m_J5_reverse_278bc 1 0 0 73 [some (.ref p0), none, none, none, none, none, none] [] h Q X := by
  unfold g_J5_reverse_278bc_73 at E
  refine q_aload_n dJ5_reverse_278bc_73 rfl ?_
  cases E
  exact q_areturn (v := (some p0)) dJ5_reverse_278bc_74 rfl (by first | exact Or.inl ⟨_, rfl⟩ | exact Or.inr ⟨_, rfl⟩) hK
set_option maxRecDepth 100000 in
set_option maxHeartbeats 4000000 in
theorem sb_J5_reverse_278bc_28 {l : Launch} {G : mG} {Q : Option Value → mH → Prop} {X : String → mH → Prop} (p0 : Nat) (p1 : Nat) (v3 : Int32) (v4 : Int32) (h : mH) {o : ((Int32 × mH) ⊕ (Option Nat × mH))} (E : b0_J5_reverse_278bc_28 p0 p1 v3 v4 h = some o) (hK : (lpK (w_J5_reverse_278bc_28 l G Q X p0 p1 v3) (fiR Q)) o) : mW l G m_J5_reverse_278bc 1 0 0 28 [some (.ref p0), some (.ref p1), none, some (.int v3), some (.int v4), none, none] [] h Q X := by
  unfold b0_J5_reverse_278bc_28 at E
  refine q_iload dJ5_reverse_278bc_28 rfl ?_
  refine q_if_lt (tgt := 65) dJ5_reverse_278bc_30 (by decide) (fun z1 => ?_) (fun z1 => ?_)
  · replace E := ite_t E z1
    refine q_goto (tgt := 73) dJ5_reverse_278bc_65 (by decide) ?_
    obtain ⟨o0, E0, rfl⟩ := inrO_some E
    exact r_fewer [some (.ref p0), none, none, none, none, none, none] (ls_s (ls_n (ls_n (ls_n (ls_n (ls_n (ls_n ls_0))))))) (s_J5_reverse_278bc_73 p0 h E0 hK)
  · replace E := ite_f E z1
    refine q_iload_n dJ5_reverse_278bc_33 rfl ?_
    refine q_iload dJ5_reverse_278bc_34 rfl ?_
    refine q_isub dJ5_reverse_278bc_36 ?_
    replace E := bnd_x E
    obtain ⟨x2, ex2, E⟩ := E
    refine r_istore dJ5_reverse_278bc_37 (by decide) ex2 (ls' := [some (.ref p0), some (.ref p1), none, some (.int v3), some (.int v4), some (.int x2), none]) rfl ?_
    refine q_aload_n dJ5_reverse_278bc_39 rfl ?_
    refine q_iload dJ5_reverse_278bc_40 rfl ?_
    replace E := grd_some E
    obtain ⟨g3, E⟩ := E
    replace E := grd_some E
    obtain ⟨g4, E⟩ := E
    refine r_baload dJ5_reverse_278bc_42 g3 g4 ?_
    replace E := bnd_x E
    obtain ⟨x5, ex5, E⟩ := E
    refine r_istore dJ5_reverse_278bc_43 (by decide) ex5 (ls' := [some (.ref p0), some (.ref p1), none, some (.int v3), some (.int v4), some (.int x2), some (.int x5)]) rfl ?_
    refine q_aload_n dJ5_reverse_278bc_45 rfl ?_
    refine q_iload dJ5_reverse_278bc_46 rfl ?_
    refine q_aload_n dJ5_reverse_278bc_48 rfl ?_
    refine q_iload dJ5_reverse_278bc_49 rfl ?_
    replace E := grd_some E
    obtain ⟨g6, E⟩ := E
    refine r_baload dJ5_reverse_278bc_51 g3 g6 ?_
    replace E := grd_some E
    obtain ⟨g8, E⟩ := E
    replace E := bnd_x E
    obtain ⟨h7, eh7, E⟩ := E
    refine r_bastore (hh := eh7) dJ5_reverse_278bc_52 g3 g4 g8 ?_
    refine q_aload_n dJ5_reverse_278bc_53 rfl ?_
    refine q_iload dJ5_reverse_278bc_54 rfl ?_
    refine q_iload dJ5_reverse_278bc_56 rfl ?_
    replace E := grd_some E
    obtain ⟨g10, E⟩ := E
    replace E := grd_some E
    obtain ⟨g11, E⟩ := E
    replace E := grd_some E
    obtain ⟨g12, E⟩ := E
    replace E := bnd_x E
    obtain ⟨h9, eh9, E⟩ := E
    refine r_bastore (hh := eh9) dJ5_reverse_278bc_58 g10 g11 g12 ?_
    replace E := bnd_x E
    obtain ⟨x13, ex13, E⟩ := E
    refine r_iinc (v := x13) dJ5_reverse_278bc_59 rfl ex13 (by decide) (ls' := [some (.ref p0), some (.ref p1), none, some (.int v3), some (.int x13), some (.int x2), some (.int x5)]) rfl ?_
    refine q_goto (tgt := 28) dJ5_reverse_278bc_62 (by decide) ?_
    cases E
    exact r_fewer [some (.ref p0), some (.ref p1), none, some (.int v3), some (.int x13), none, none] (ls_s (ls_s (ls_n (ls_s (ls_s (ls_n (ls_n ls_0))))))) hK
theorem s_J5_reverse_278bc_28 {l : Launch} {G : mG} {Q : Option Value → mH → Prop} {X : String → mH → Prop} (p0 : Nat) (p1 : Nat) (v3 : Int32) (v4 : Int32) (h : mH) {o : Option Nat × mH} (E : g_J5_reverse_278bc_28 p0 p1 v3 v4 h = some o) (hK : (fiR Q) o) : mW l G m_J5_reverse_278bc 1 0 0 28 [some (.ref p0), some (.ref p1), none, some (.int v3), some (.int v4), none, none] [] h Q X :=
  (lp_go (w_J5_reverse_278bc_28 l G Q X p0 p1 v3) (fiR Q) (b_J5_reverse_278bc_28 p0 p1 v3) (fun s o E hK => sb_J5_reverse_278bc_28 p0 p1 v3 s.1 (s.2) E hK) _ _ _ E hK : w_J5_reverse_278bc_28 l G Q X p0 p1 v3 (v4, h))
set_option maxRecDepth 100000 in
set_option maxHeartbeats 4000000 in
theorem s_J5_reverse_278bc_0 {l : Launch} {G : mG} {Q : Option Value → mH → Prop} {X : String → mH → Prop} (p0 : Nat) (h : mH) {o : Option Nat × mH} (E : f_J5_reverse_278bc p0 h = some o) (hK : (fiR Q) o) : mW l G m_J5_reverse_278bc 1 0 0 0 [some (.ref p0), none, none, none, none, none, none] [] h Q X := by
  unfold f_J5_reverse_278bc at E
  refine q_aload_n dJ5_reverse_278bc_0 rfl ?_
  replace E := grd_some E
  obtain ⟨g1, E⟩ := E
  replace E := orf_some E
  obtain ⟨a2, ea2, E⟩ := E
  refine r_getR dJ5_reverse_278bc_1 FJ5_15 g1 ea2 ?_
  refine r_astore_n dJ5_reverse_278bc_4 (by decide) (ls' := [some (.ref p0), some (.ref a2), none, none, none, none, none]) rfl ?_
  refine q_aload_n dJ5_reverse_278bc_5 rfl ?_
  refine r_getI dJ5_reverse_278bc_6 FJ5_79 g1 ?_
  replace E := bnd_x E
  obtain ⟨x3, ex3, E⟩ := E
  refine r_istore_n dJ5_reverse_278bc_9 (by decide) ex3 (ls' := [some (.ref p0), some (.ref a2), some (.int x3), none, none, none, none]) rfl ?_
  refine q_iload_n dJ5_reverse_278bc_10 rfl ?_
  refine q_iconst dJ5_reverse_278bc_11 ?_
  refine q_isub dJ5_reverse_278bc_12 ?_
  replace E := bnd_x E
  obtain ⟨x4, ex4, E⟩ := E
  refine r_istore_n dJ5_reverse_278bc_13 (by decide) ex4 (ls' := [some (.ref p0), some (.ref a2), some (.int x3), some (.int x4), none, none, none]) rfl ?_
  refine q_aload_n dJ5_reverse_278bc_14 rfl ?_
  replace E := cal_some E
  obtain ⟨x6, h5, hc, E⟩ := E
  refine r_callU0 (mc := 0) (ms := 0) dJ5_reverse_278bc_15 KJ5_83 (c_J5_isLatin1_aae02 hc) g1 (by decide) (Nat.le_of_ble_eq_true rfl) (fun _ _ q => q.elim) ?_
  rintro _ _ ⟨rfl, rfl⟩
  clear hc
  refine q_if_eq (tgt := 68) dJ5_reverse_278bc_18 (by decide) (fun z7 => ?_) (fun z7 => ?_)
  · replace E := ite_t E z7
    refine q_aload_n dJ5_reverse_278bc_68 rfl ?_
    refine q_iload_n dJ5_reverse_278bc_69 rfl ?_
    cases E
  · replace E := ite_f E z7
    refine q_iload_n dJ5_reverse_278bc_21 rfl ?_
    refine q_iconst dJ5_reverse_278bc_22 ?_
    refine q_isub dJ5_reverse_278bc_23 ?_
    refine q_iconst dJ5_reverse_278bc_24 ?_
    refine q_ishr dJ5_reverse_278bc_25 ?_
    replace E := bnd_x E
    obtain ⟨x8, ex8, E⟩ := E
    refine r_istore dJ5_reverse_278bc_26 (by decide) ex8 (ls' := [some (.ref p0), some (.ref a2), some (.int x3), some (.int x4), some (.int x8), none, none]) rfl ?_
    exact r_fewer [some (.ref p0), some (.ref a2), none, some (.int x4), some (.int x8), none, none] (ls_s (ls_s (ls_n (ls_s (ls_s (ls_n (ls_n ls_0))))))) (s_J5_reverse_278bc_28 p0 a2 x4 x8 h5 E hK)
theorem c_J5_reverse_278bc {l : Launch} {G : mG} {p0 : Nat} {h h' : mH} {r : Option Nat} (E : f_J5_reverse_278bc p0 h = some (r, h')) : mMet l G m_J5_reverse_278bc 1 0 0 [.ref p0] h (fun v k => v = some (va_rf r) ∧ h' = k) (fun _ _ => False) :=
  mMet_of (by decide +kernel) rfl (ac_c rfl ac_0) (Nat.le_of_ble_eq_true rfl) (s_J5_reverse_278bc_0 p0 h E (And.intro rfl rfl))
set_option maxRecDepth 100000 in
set_option maxHeartbeats 4000000 in
theorem s_J4_reverse_43fcb_0 {l : Launch} {G : mG} {Q : Option Value → mH → Prop} {X : String → mH → Prop} (p0 : Nat) (h : mH) {o : Option Nat × mH} (E : f_J4_reverse_43fcb p0 h = some o) (hK : (fiR Q) o) : mW l G m_J4_reverse_43fcb 2 0 0 0 [some (.ref p0)] [] h Q X := by
  unfold f_J4_reverse_43fcb at E
  refine q_aload_n dJ4_reverse_43fcb_0 rfl ?_
  replace E := grd_some E
  obtain ⟨g3, E⟩ := E
  replace E := cal_some E
  obtain ⟨o2, h1, hc, E⟩ := E
  refine r_callSU0 (mc := 0) (ms := 0) dJ4_reverse_43fcb_1 KJ4_127 (c_J5_reverse_278bc hc) g3 (by decide) (Nat.le_of_ble_eq_true rfl) (fun _ _ q => q.elim) ?_
  rintro _ _ ⟨rfl, rfl⟩
  clear hc
  refine q_pop (h1 := r_cat _) dJ4_reverse_43fcb_4 ?_
  refine q_aload_n dJ4_reverse_43fcb_5 rfl ?_
  cases E
  exact q_areturn (v := (some p0)) dJ4_reverse_43fcb_6 rfl (by first | exact Or.inl ⟨_, rfl⟩ | exact Or.inr ⟨_, rfl⟩) hK
theorem c_J4_reverse_43fcb {l : Launch} {G : mG} {p0 : Nat} {h h' : mH} {r : Option Nat} (E : f_J4_reverse_43fcb p0 h = some (r, h')) : mMet l G m_J4_reverse_43fcb 2 0 0 [.ref p0] h (fun v k => v = some (va_rf r) ∧ h' = k) (fun _ _ => False) :=
  mMet_of (by decide +kernel) rfl (ac_c rfl ac_0) (Nat.le_of_ble_eq_true rfl) (s_J4_reverse_43fcb_0 p0 h E (And.intro rfl rfl))
set_option maxRecDepth 100000 in
set_option maxHeartbeats 4000000 in
theorem s_J5_init_d00df_38 {l : Launch} {G : mG} {Q : Option Value → mH → Prop} {X : String → mH → Prop} (h : mH) {o : Unit × mH} (E : g_J5_init_d00df_38  h = some o) (hK : (fiV Q) o) : mW l G m_J5_init_d00df 0 0 0 38 [none, none] [] h Q X := by
  unfold g_J5_init_d00df_38 at E
  cases E
  exact q_return dJ5_init_d00df_38 rfl hK
set_option maxRecDepth 100000 in
set_option maxHeartbeats 4000000 in
theorem s_J5_init_d00df_0 {l : Launch} {G : mG} {Q : Option Value → mH → Prop} {X : String → mH → Prop} (p0 : Nat) (v1 : Int32) (h : mH) {o : Unit × mH} (E : f_J5_init_d00df p0 v1 h = some o) (hK : (fiV Q) o) : mW l G m_J5_init_d00df 0 1 255 0 [some (.ref p0), some (.int v1)] [] h Q X := by
  unfold f_J5_init_d00df at E
  refine q_aload_n dJ5_init_d00df_0 rfl ?_
  refine q_objInit dJ5_init_d00df_1 OJ5_3 objW1 objW2 (Nat.le_of_ble_eq_true rfl) ?_
  refine q_getZ dJ5_init_d00df_4 ZJ5_18 ?_
  refine q_if_eq (tgt := 25) dJ5_init_d00df_7 (by decide) (fun z1 => ?_) (fun z1 => ?_)
  · replace E := ite_t E z1
    refine q_aload_n dJ5_init_d00df_25 rfl ?_
    refine q_iload_n dJ5_init_d00df_26 rfl ?_
    cases E
  · replace E := ite_f E z1
    refine q_aload_n dJ5_init_d00df_10 rfl ?_
    refine q_iload_n dJ5_init_d00df_11 rfl ?_
    replace E := grd_some E
    obtain ⟨g2, E⟩ := E
    replace E := bnd_x E
    obtain ⟨a3, ea3, E⟩ := E
    replace E := bnd_x E
    obtain ⟨h4, eh4, E⟩ := E
    refine r_newarray (n := 255) (t0 := 1) (hq := ea3) (hh := eh4) dJ5_init_d00df_12 W_byte rfl rfl (by decide) g2 (by decide) ?_
    replace E := grd_some E
    obtain ⟨g5, E⟩ := E
    replace E := bnd_x E
    obtain ⟨h6, eh6, E⟩ := E
    refine r_putR (hh := eh6) dJ5_init_d00df_14 FJ5_15 g5 (hf := Or.inl rfl) ?_
    refine q_aload_n dJ5_init_d00df_17 rfl ?_
    refine q_iconst dJ5_init_d00df_18 ?_
    replace E := grd_some E
    obtain ⟨g7, E⟩ := E
    replace E := grd_some E
    obtain ⟨g9, E⟩ := E
    replace E := grd_some E
    obtain ⟨g10, E⟩ := E
    replace E := bnd_x E
    obtain ⟨h8, eh8, E⟩ := E
    refine r_putI (hh := eh8) dJ5_init_d00df_19 FJ5_22 g7 (narB g9) g10 ?_
    refine q_goto (tgt := 38) dJ5_init_d00df_22 (by decide) ?_
    exact r_fewer [none, none] (ls_n (ls_n ls_0)) (s_J5_init_d00df_38 h8 E hK)
theorem c_J5_init_d00df {l : Launch} {G : mG} {p0 : Nat} {v1 : Int32} {h h' : mH} {r : Unit} (E : f_J5_init_d00df p0 v1 h = some (r, h')) : mMet l G m_J5_init_d00df 0 1 255 [.ref p0, .int v1] h (fun v k => v = none ∧ h' = k) (fun _ _ => False) :=
  mMet_of (by decide +kernel) rfl (ac_c rfl (ac_c rfl ac_0)) (Nat.le_of_ble_eq_true rfl) (s_J5_init_d00df_0 p0 v1 h E (And.intro rfl rfl))
set_option maxRecDepth 100000 in
set_option maxHeartbeats 4000000 in
theorem s_J4_init_da8c8_0 {l : Launch} {G : mG} {Q : Option Value → mH → Prop} {X : String → mH → Prop} (p0 : Nat) (h : mH) {o : Unit × mH} (E : f_J4_init_da8c8 p0 h = some o) (hK : (fiV Q) o) : mW l G m_J4_init_da8c8 1 1 255 0 [some (.ref p0)] [] h Q X := by
  unfold f_J4_init_da8c8 at E
  refine q_aload_n dJ4_init_da8c8_0 rfl ?_
  refine q_bipush (v := (Int32.ofInt 16)) dJ4_init_da8c8_1 (by decide) ?_
  replace E := cal_some E
  obtain ⟨_, h1, hc, E⟩ := E
  refine r_callI1 (mc := 0) (ms := 0) dJ4_init_da8c8_3 KJ4_1 (c_J5_init_d00df hc) (by decide) (Nat.le_of_ble_eq_true rfl) (fun _ _ q => q.elim) ?_
  rintro _ _ ⟨rfl, rfl⟩
  clear hc
  cases E
  exact q_return dJ4_init_da8c8_6 rfl hK
theorem c_J4_init_da8c8 {l : Launch} {G : mG} {p0 : Nat} {h h' : mH} {r : Unit} (E : f_J4_init_da8c8 p0 h = some (r, h')) : mMet l G m_J4_init_da8c8 1 1 255 [.ref p0] h (fun v k => v = none ∧ h' = k) (fun _ _ => False) :=
  mMet_of (by decide +kernel) rfl (ac_c rfl ac_0) (Nat.le_of_ble_eq_true rfl) (s_J4_init_da8c8_0 p0 h E (And.intro rfl rfl))
