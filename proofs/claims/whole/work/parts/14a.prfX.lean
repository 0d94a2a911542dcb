set_option maxRecDepth 100000 in
set_option maxHeartbeats 4000000 in
theorem s_X5_init_0 {l : Launch} {G : mG} {Q : Option Value → mH → Prop} {X : String → mH → Prop} (p0 : Nat) (h : mH) {o : Unit × mH} (E : f_X5_init p0 h = some o) (hK : (fiV Q) o) : mW l G m_X5_init 0 5 31 0 [some (.ref p0)] [] h Q X := by
  unfold f_X5_init at E
  refine q_aload_n dX5_init_0 rfl ?_
  refine q_objInit dX5_init_1 OX5_3 objW1 objW2 (Nat.le_of_ble_eq_true rfl) ?_
  refine q_aload_n dX5_init_4 rfl ?_
  refine q_iconst dX5_init_5 ?_
  replace E := grd_some E
  obtain ⟨g1, E⟩ := E
  replace E := bnd_x E
  obtain ⟨a2, ea2, E⟩ := E
  replace E := bnd_x E
  obtain ⟨h3, eh3, E⟩ := E
  refine r_newarray (n := 3) (t0 := 3) (hq := ea2) (hh := eh3) dX5_init_6 W_int rfl rfl (by decide) g1 (by decide) ?_
  replace E := grd_some E
  obtain ⟨g4, E⟩ := E
  replace E := bnd_x E
  obtain ⟨h5, eh5, E⟩ := E
  refine r_putR (hh := eh5) dX5_init_8 FX5_9 g4 (hf := Or.inr ⟨rfl, fun _ _ _ q => (Prod.mk.inj (Option.some.inj q)).1.symm⟩) ?_
  refine q_aload_n dX5_init_11 rfl ?_
  refine q_bipush (v := (Int32.ofInt 7)) dX5_init_12 (by decide) ?_
  replace E := grd_some E
  obtain ⟨g6, E⟩ := E
  replace E := bnd_x E
  obtain ⟨a7, ea7, E⟩ := E
  replace E := bnd_x E
  obtain ⟨h8, eh8, E⟩ := E
  refine r_newarray (n := 7) (t0 := 3) (hq := ea7) (hh := eh8) dX5_init_14 W_int rfl rfl (by decide) g6 (by decide) ?_
  replace E := grd_some E
  obtain ⟨g9, E⟩ := E
  replace E := bnd_x E
  obtain ⟨h10, eh10, E⟩ := E
  refine r_putR (hh := eh10) dX5_init_16 FX5_15 g9 (hf := Or.inr ⟨rfl, fun _ _ _ q => (Prod.mk.inj (Option.some.inj q)).1.symm⟩) ?_
  refine q_aload_n dX5_init_19 rfl ?_
  refine q_bipush (v := (Int32.ofInt 7)) dX5_init_20 (by decide) ?_
  replace E := bnd_x E
  obtain ⟨a11, ea11, E⟩ := E
  replace E := bnd_x E
  obtain ⟨h12, eh12, E⟩ := E
  refine r_newarray (n := 7) (t0 := 3) (hq := ea11) (hh := eh12) dX5_init_22 W_int rfl rfl (by decide) g6 (by decide) ?_
  replace E := grd_some E
  obtain ⟨g13, E⟩ := E
  replace E := bnd_x E
  obtain ⟨h14, eh14, E⟩ := E
  refine r_putR (hh := eh14) dX5_init_24 FX5_18 g13 (hf := Or.inr ⟨rfl, fun _ _ _ q => (Prod.mk.inj (Option.some.inj q)).1.symm⟩) ?_
  refine q_aload_n dX5_init_27 rfl ?_
  refine q_bipush (v := (Int32.ofInt 7)) dX5_init_28 (by decide) ?_
  replace E := bnd_x E
  obtain ⟨a15, ea15, E⟩ := E
  replace E := bnd_x E
  obtain ⟨h16, eh16, E⟩ := E
  refine r_newarray (n := 7) (t0 := 3) (hq := ea15) (hh := eh16) dX5_init_30 W_int rfl rfl (by decide) g6 (by decide) ?_
  replace E := grd_some E
  obtain ⟨g17, E⟩ := E
  replace E := bnd_x E
  obtain ⟨h18, eh18, E⟩ := E
  refine r_putR (hh := eh18) dX5_init_32 FX5_21 g17 (hf := Or.inr ⟨rfl, fun _ _ _ q => (Prod.mk.inj (Option.some.inj q)).1.symm⟩) ?_
  refine q_aload_n dX5_init_35 rfl ?_
  refine q_bipush (v := (Int32.ofInt 7)) dX5_init_36 (by decide) ?_
  replace E := bnd_x E
  obtain ⟨a19, ea19, E⟩ := E
  replace E := bnd_x E
  obtain ⟨h20, eh20, E⟩ := E
  refine r_newarray (n := 7) (t0 := 0) (hq := ea19) (hh := eh20) dX5_init_38 W_boolean rfl rfl (by decide) g6 (by decide) ?_
  replace E := grd_some E
  obtain ⟨g21, E⟩ := E
  replace E := bnd_x E
  obtain ⟨h22, eh22, E⟩ := E
  refine r_putR (hh := eh22) dX5_init_40 FX5_24 g21 (hf := Or.inr ⟨rfl, fun _ _ _ q => (Prod.mk.inj (Option.some.inj q)).1.symm⟩) ?_
  refine q_aload_n dX5_init_43 rfl ?_
  refine q_iconst dX5_init_44 ?_
  replace E := grd_some E
  obtain ⟨g23, E⟩ := E
  replace E := bnd_x E
  obtain ⟨h24, eh24, E⟩ := E
  refine r_putI (hh := eh24) dX5_init_45 FX5_28 g23 rfl rfl ?_
  refine q_aload_n dX5_init_48 rfl ?_
  refine q_iconst dX5_init_49 ?_
  replace E := grd_some E
  obtain ⟨g25, E⟩ := E
  replace E := bnd_x E
  obtain ⟨h26, eh26, E⟩ := E
  refine r_putI (hh := eh26) dX5_init_50 FX5_32 g25 rfl rfl ?_
  cases E
  exact q_return dX5_init_53 rfl hK
theorem c_X5_init {l : Launch} {G : mG} {p0 : Nat} {h h' : mH} {r : Unit} (E : f_X5_init p0 h = some (r, h')) : mMet l G m_X5_init 0 5 31 [.ref p0] h (fun v k => v = none ∧ h' = k) (fun _ _ => False) :=
  mMet_of (by decide +kernel) rfl (ac_c rfl ac_0) (Nat.le_of_ble_eq_true rfl) (s_X5_init_0 p0 h E (And.intro rfl rfl))
set_option maxRecDepth 100000 in
set_option maxHeartbeats 4000000 in
theorem s_X0_init_0 {l : Launch} {G : mG} {Q : Option Value → mH → Prop} {X : String → mH → Prop} (p0 : Nat) (h : mH) {o : Unit × mH} (E : f_X0_init p0 h = some o) (hK : (fiV Q) o) : mW l G m_X0_init 1 13 1198 0 [some (.ref p0)] [] h Q X := by
  unfold f_X0_init at E
  refine q_aload_n dX0_init_0 rfl ?_
  refine q_objInit dX0_init_1 OX0_3 objW1 objW2 (Nat.le_of_ble_eq_true rfl) ?_
  refine q_aload_n dX0_init_4 rfl ?_
  replace E := bnd_x E
  obtain ⟨a1, ea1, E⟩ := E
  replace E := bnd_x E
  obtain ⟨h2, eh2, E⟩ := E
  refine r_new (hq := ea1) (hh := eh2) dX0_init_5 CX0_9 ?_
  refine q_dup dX0_init_8 ?_
  replace E := cal_some E
  obtain ⟨_, h3, hc, E⟩ := E
  refine r_callIN0 (mc := 7) (ms := 1160) dX0_init_9 KX0_11 (c_X5_init hc) (by decide) (Nat.le_of_ble_eq_true rfl) (fun _ _ q => q.elim) ?_
  rintro _ _ ⟨rfl, rfl⟩
  clear hc
  replace E := grd_some E
  obtain ⟨g5, E⟩ := E
  replace E := bnd_x E
  obtain ⟨h6, eh6, E⟩ := E
  refine r_putR (hh := eh6) dX0_init_12 FX0_12 g5 (hf := Or.inr ⟨rfl, fun _ _ _ q => (Prod.mk.inj (Option.some.inj q)).1.symm⟩) ?_
  refine q_aload_n dX0_init_15 rfl ?_
  refine q_sipush (v := (Int32.ofInt 129)) dX0_init_16 (by decide) ?_
  replace E := grd_some E
  obtain ⟨g7, E⟩ := E
  replace E := bnd_x E
  obtain ⟨a8, ea8, E⟩ := E
  replace E := bnd_x E
  obtain ⟨h9, eh9, E⟩ := E
  refine r_newarray (n := 129) (t0 := 3) (hq := ea8) (hh := eh9) dX0_init_19 W_int rfl rfl (by decide) g7 (by decide) ?_
  replace E := grd_some E
  obtain ⟨g10, E⟩ := E
  replace E := bnd_x E
  obtain ⟨h11, eh11, E⟩ := E
  refine r_putR (hh := eh11) dX0_init_21 FX0_18 g10 (hf := Or.inr ⟨rfl, fun _ _ _ q => (Prod.mk.inj (Option.some.inj q)).1.symm⟩) ?_
  refine q_aload_n dX0_init_24 rfl ?_
  refine q_sipush (v := (Int32.ofInt 128)) dX0_init_25 (by decide) ?_
  replace E := grd_some E
  obtain ⟨g12, E⟩ := E
  replace E := bnd_x E
  obtain ⟨a13, ea13, E⟩ := E
  replace E := bnd_x E
  obtain ⟨h14, eh14, E⟩ := E
  refine r_newarray (n := 128) (t0 := 3) (hq := ea13) (hh := eh14) dX0_init_28 W_int rfl rfl (by decide) g12 (by decide) ?_
  replace E := grd_some E
  obtain ⟨g15, E⟩ := E
  replace E := bnd_x E
  obtain ⟨h16, eh16, E⟩ := E
  refine r_putR (hh := eh16) dX0_init_30 FX0_22 g15 (hf := Or.inr ⟨rfl, fun _ _ _ q => (Prod.mk.inj (Option.some.inj q)).1.symm⟩) ?_
  refine q_aload_n dX0_init_33 rfl ?_
  refine q_sipush (v := (Int32.ofInt 387)) dX0_init_34 (by decide) ?_
  replace E := grd_some E
  obtain ⟨g17, E⟩ := E
  replace E := bnd_x E
  obtain ⟨a18, ea18, E⟩ := E
  replace E := bnd_x E
  obtain ⟨h19, eh19, E⟩ := E
  refine r_newarray (n := 387) (t0 := 3) (hq := ea18) (hh := eh19) dX0_init_37 W_int rfl rfl (by decide) g17 (by decide) ?_
  replace E := grd_some E
  obtain ⟨g20, E⟩ := E
  replace E := bnd_x E
  obtain ⟨h21, eh21, E⟩ := E
  refine r_putR (hh := eh21) dX0_init_39 FX0_25 g20 (hf := Or.inr ⟨rfl, fun _ _ _ q => (Prod.mk.inj (Option.some.inj q)).1.symm⟩) ?_
  refine q_aload_n dX0_init_42 rfl ?_
  refine q_sipush (v := (Int32.ofInt 129)) dX0_init_43 (by decide) ?_
  replace E := bnd_x E
  obtain ⟨a22, ea22, E⟩ := E
  replace E := bnd_x E
  obtain ⟨h23, eh23, E⟩ := E
  refine r_newarray (n := 129) (t0 := 0) (hq := ea22) (hh := eh23) dX0_init_46 W_boolean rfl rfl (by decide) g7 (by decide) ?_
  replace E := grd_some E
  obtain ⟨g24, E⟩ := E
  replace E := bnd_x E
  obtain ⟨h25, eh25, E⟩ := E
  refine r_putR (hh := eh25) dX0_init_48 FX0_28 g24 (hf := Or.inr ⟨rfl, fun _ _ _ q => (Prod.mk.inj (Option.some.inj q)).1.symm⟩) ?_
  refine q_aload_n dX0_init_51 rfl ?_
  refine q_sipush (v := (Int32.ofInt 129)) dX0_init_52 (by decide) ?_
  replace E := bnd_x E
  obtain ⟨a26, ea26, E⟩ := E
  replace E := bnd_x E
  obtain ⟨h27, eh27, E⟩ := E
  refine r_newarray (n := 129) (t0 := 3) (hq := ea26) (hh := eh27) dX0_init_55 W_int rfl rfl (by decide) g7 (by decide) ?_
  replace E := grd_some E
  obtain ⟨g28, E⟩ := E
  replace E := bnd_x E
  obtain ⟨h29, eh29, E⟩ := E
  refine r_putR (hh := eh29) dX0_init_57 FX0_32 g28 (hf := Or.inr ⟨rfl, fun _ _ _ q => (Prod.mk.inj (Option.some.inj q)).1.symm⟩) ?_
  refine q_aload_n dX0_init_60 rfl ?_
  refine q_sipush (v := (Int32.ofInt 129)) dX0_init_61 (by decide) ?_
  replace E := bnd_x E
  obtain ⟨a30, ea30, E⟩ := E
  replace E := bnd_x E
  obtain ⟨h31, eh31, E⟩ := E
  refine r_newarray (n := 129) (t0 := 3) (hq := ea30) (hh := eh31) dX0_init_64 W_int rfl rfl (by decide) g7 (by decide) ?_
  replace E := grd_some E
  obtain ⟨g32, E⟩ := E
  replace E := bnd_x E
  obtain ⟨h33, eh33, E⟩ := E
  refine r_putR (hh := eh33) dX0_init_66 FX0_35 g32 (hf := Or.inr ⟨rfl, fun _ _ _ q => (Prod.mk.inj (Option.some.inj q)).1.symm⟩) ?_
  refine q_aload_n dX0_init_69 rfl ?_
  refine q_sipush (v := (Int32.ofInt 129)) dX0_init_70 (by decide) ?_
  replace E := bnd_x E
  obtain ⟨a34, ea34, E⟩ := E
  replace E := bnd_x E
  obtain ⟨h35, eh35, E⟩ := E
  refine r_newarray (n := 129) (t0 := 3) (hq := ea34) (hh := eh35) dX0_init_73 W_int rfl rfl (by decide) g7 (by decide) ?_
  replace E := grd_some E
  obtain ⟨g36, E⟩ := E
  replace E := bnd_x E
  obtain ⟨h37, eh37, E⟩ := E
  refine r_putR (hh := eh37) dX0_init_75 FX0_38 g36 (hf := Or.inr ⟨rfl, fun _ _ _ q => (Prod.mk.inj (Option.some.inj q)).1.symm⟩) ?_
  refine q_aload_n dX0_init_78 rfl ?_
  refine q_iconst dX0_init_79 ?_
  replace E := grd_some E
  obtain ⟨g38, E⟩ := E
  replace E := bnd_x E
  obtain ⟨h39, eh39, E⟩ := E
  refine r_putI (hh := eh39) dX0_init_80 FX0_41 g38 rfl rfl ?_
  cases E
  exact q_return dX0_init_83 rfl hK
theorem c_X0_init {l : Launch} {G : mG} {p0 : Nat} {h h' : mH} {r : Unit} (E : f_X0_init p0 h = some (r, h')) : mMet l G m_X0_init 1 13 1198 [.ref p0] h (fun v k => v = none ∧ h' = k) (fun _ _ => False) :=
  mMet_of (by decide +kernel) rfl (ac_c rfl ac_0) (Nat.le_of_ble_eq_true rfl) (s_X0_init_0 p0 h E (And.intro rfl rfl))
set_option maxRecDepth 100000 in
set_option maxHeartbeats 4000000 in
theorem s_X4_size_0 {l : Launch} {G : mG} {Q : Option Value → mH → Prop} {X : String → mH → Prop} (p0 : Nat) (h : mH) {o : Int32 × mH} (E : f_X4_size p0 h = some o) (hK : (fiI Q) o) : mW l G m_X4_size 0 0 0 0 [some (.ref p0)] [] h Q X := by
  unfold f_X4_size at E
  refine q_aload_n dX4_size_0 rfl ?_
  replace E := grd_some E
  obtain ⟨g1, E⟩ := E
  replace E := orf_some E
  obtain ⟨a2, ea2, E⟩ := E
  refine r_getR dX4_size_1 FX4_9 g1 ea2 ?_
  replace E := grd_some E
  obtain ⟨g3, E⟩ := E
  refine r_alen (t0 := 2) dX4_size_4 rfl g3 ?_
  cases E
  exact q_ireturn dX4_size_5 rfl hK
theorem c_X4_size {l : Launch} {G : mG} {p0 : Nat} {h h' : mH} {r : Int32} (E : f_X4_size p0 h = some (r, h')) : mMet l G m_X4_size 0 0 0 [.ref p0] h (fun v k => v = some (.int r) ∧ h' = k) (fun _ _ => False) :=
  mMet_of (by decide +kernel) rfl (ac_c rfl ac_0) (Nat.le_of_ble_eq_true rfl) (s_X4_size_0 p0 h E (And.intro rfl rfl))
set_option maxRecDepth 100000 in
set_option maxHeartbeats 4000000 in
theorem s_X4_code_23 {l : Launch} {G : mG} {Q : Option Value → mH → Prop} {X : String → mH → Prop} (s0 : Int32) (h : mH) {o : Int32 × mH} (E : g_X4_code_23 s0 h = some o) (hK : (fiI Q) o) : mW l G m_X4_code 0 0 0 23 [none, none] [.int s0] h Q X := by
  unfold g_X4_code_23 at E
  replace E := grd_some E
  obtain ⟨g1, E⟩ := E
  cases E
  exact q_zreturn dX4_code_23 rfl (narC g1) hK
set_option maxRecDepth 100000 in
set_option maxHeartbeats 4000000 in
theorem s_X4_code_13 {l : Launch} {G : mG} {Q : Option Value → mH → Prop} {X : String → mH → Prop} (h : mH) {o : Int32 × mH} (E : g_X4_code_13  h = some o) (hK : (fiI Q) o) : mW l G m_X4_code 0 0 0 13 [none, none] [] h Q X := by
  unfold g_X4_code_13 at E
  refine q_iconst dX4_code_13 ?_
  refine q_goto (tgt := 23) dX4_code_14 (by decide) ?_
  exact r_fewer [none, none] (ls_n (ls_n ls_0)) (s_X4_code_23 (Int32.ofInt 0) h E hK)
set_option maxRecDepth 100000 in
set_option maxHeartbeats 4000000 in
theorem s_X4_code_0 {l : Launch} {G : mG} {Q : Option Value → mH → Prop} {X : String → mH → Prop} (p0 : Nat) (v1 : Int32) (h : mH) {o : Int32 × mH} (E : f_X4_code p0 v1 h = some o) (hK : (fiI Q) o) : mW l G m_X4_code 0 0 0 0 [some (.ref p0), some (.int v1)] [] h Q X := by
  unfold f_X4_code at E
  refine q_iload_n dX4_code_0 rfl ?_
  refine q_if_lt (tgt := 13) dX4_code_1 (by decide) (fun z1 => ?_) (fun z1 => ?_)
  · replace E := ite_t E z1
    exact r_fewer [none, none] (ls_n (ls_n ls_0)) (s_X4_code_13 h E hK)
  · replace E := ite_f E z1
    refine q_iload_n dX4_code_4 rfl ?_
    refine q_aload_n dX4_code_5 rfl ?_
    replace E := grd_some E
    obtain ⟨g2, E⟩ := E
    replace E := orf_some E
    obtain ⟨a3, ea3, E⟩ := E
    refine r_getR dX4_code_6 FX4_9 g2 ea3 ?_
    replace E := grd_some E
    obtain ⟨g4, E⟩ := E
    refine r_alen (t0 := 2) dX4_code_9 rfl g4 ?_
    refine q_icmp_lt (tgt := 17) dX4_code_10 (by decide) (fun z5 => ?_) (fun z5 => ?_)
    · replace E := ite_t E z5
      refine q_aload_n dX4_code_17 rfl ?_
      refine r_getR dX4_code_18 FX4_9 g2 ea3 ?_
      refine q_iload_n dX4_code_21 rfl ?_
      replace E := grd_some E
      obtain ⟨g7, E⟩ := E
      refine r_caload dX4_code_22 g4 g7 ?_
      exact r_fewer [none, none] (ls_n (ls_n ls_0)) (s_X4_code_23 (gi h a3 v1.toNatClampNeg) h E hK)
    · replace E := ite_f E z5
      exact r_fewer [none, none] (ls_n (ls_n ls_0)) (s_X4_code_13 h E hK)
theorem c_X4_code {l : Launch} {G : mG} {p0 : Nat} {v1 : Int32} {h h' : mH} {r : Int32} (E : f_X4_code p0 v1 h = some (r, h')) : mMet l G m_X4_code 0 0 0 [.ref p0, .int v1] h (fun v k => v = some (.int r) ∧ h' = k) (fun _ _ => False) :=
  mMet_of (by decide +kernel) rfl (ac_c rfl (ac_c rfl ac_0)) (Nat.le_of_ble_eq_true rfl) (s_X4_code_0 p0 v1 h E (And.intro rfl rfl))
set_option maxRecDepth 100000 in
set_option maxHeartbeats 4000000 in
theorem s_X11_isLetter_17 {l : Launch} {G : mG} {Q : Option Value → mH → Prop} {X : String → mH → Prop} (s0 : Int32) (h : mH) {o : Int32 × mH} (E : g_X11_isLetter_17 s0 h = some o) (hK : (fiI Q) o) : mW l G m_X11_isLetter 0 0 0 17 [none] [.int s0] h Q X := by
  unfold g_X11_isLetter_17 at E
  replace E := grd_some E
  obtain ⟨g1, E⟩ := E
  cases E
  exact q_zreturn dX11_isLetter_17 rfl (narZ g1) hK
set_option maxRecDepth 100000 in
set_option maxHeartbeats 4000000 in
theorem s_X11_isLetter_16 {l : Launch} {G : mG} {Q : Option Value → mH → Prop} {X : String → mH → Prop} (h : mH) {o : Int32 × mH} (E : g_X11_isLetter_16  h = some o) (hK : (fiI Q) o) : mW l G m_X11_isLetter 0 0 0 16 [none] [] h Q X := by
  unfold g_X11_isLetter_16 at E
  refine q_iconst dX11_isLetter_16 ?_
  exact r_fewer [none] (ls_n ls_0) (s_X11_isLetter_17 (Int32.ofInt 0) h E hK)
set_option maxRecDepth 100000 in
set_option maxHeartbeats 4000000 in
theorem s_X11_isLetter_0 {l : Launch} {G : mG} {Q : Option Value → mH → Prop} {X : String → mH → Prop} (v0 : Int32) (h : mH) {o : Int32 × mH} (E : f_X11_isLetter v0 h = some o) (hK : (fiI Q) o) : mW l G m_X11_isLetter 0 0 0 0 [some (.int v0)] [] h Q X := by
  unfold f_X11_isLetter at E
  refine q_iload_n dX11_isLetter_0 rfl ?_
  refine q_bipush (v := (Int32.ofInt 97)) dX11_isLetter_1 (by decide) ?_
  refine q_icmp_lt (tgt := 16) dX11_isLetter_3 (by decide) (fun z1 => ?_) (fun z1 => ?_)
  · replace E := ite_t E z1
    exact r_fewer [none] (ls_n ls_0) (s_X11_isLetter_16 h E hK)
  · replace E := ite_f E z1
    refine q_iload_n dX11_isLetter_6 rfl ?_
    refine q_bipush (v := (Int32.ofInt 99)) dX11_isLetter_7 (by decide) ?_
    refine q_icmp_gt (tgt := 16) dX11_isLetter_9 (by decide) (fun z2 => ?_) (fun z2 => ?_)
    · replace E := ite_t E z2
      exact r_fewer [none] (ls_n ls_0) (s_X11_isLetter_16 h E hK)
    · replace E := ite_f E z2
      refine q_iconst dX11_isLetter_12 ?_
      refine q_goto (tgt := 17) dX11_isLetter_13 (by decide) ?_
      exact r_fewer [none] (ls_n ls_0) (s_X11_isLetter_17 (Int32.ofInt 1) h E hK)
theorem c_X11_isLetter {l : Launch} {G : mG} {v0 : Int32} {h h' : mH} {r : Int32} (E : f_X11_isLetter v0 h = some (r, h')) : mMet l G m_X11_isLetter 0 0 0 [.int v0] h (fun v k => v = some (.int r) ∧ h' = k) (fun _ _ => False) :=
  mMet_of (by decide +kernel) rfl (ac_c rfl ac_0) (Nat.le_of_ble_eq_true rfl) (s_X11_isLetter_0 v0 h E (And.intro rfl rfl))
set_option maxRecDepth 100000 in
set_option maxHeartbeats 4000000 in
theorem s_X5_addPosition_34 {l : Launch} {G : mG} {Q : Option Value → mH → Prop} {X : String → mH → Prop} (h : mH) {o : Unit × mH} (E : g_X5_addPosition_34  h = some o) (hK : (fiV Q) o) : mW l G m_X5_addPosition 0 0 0 34 [none, none, none] [] h Q X := by
  unfold g_X5_addPosition_34 at E
  cases E
  exact q_return dX5_addPosition_34 rfl hK
set_option maxRecDepth 100000 in
set_option maxHeartbeats 4000000 in
theorem s_X5_addPosition_0 {l : Launch} {G : mG} {Q : Option Value → mH → Prop} {X : String → mH → Prop} (p0 : Nat) (v1 : Int32) (h : mH) {o : Unit × mH} (E : f_X5_addPosition p0 v1 h = some o) (hK : (fiV Q) o) : mW l G m_X5_addPosition 0 0 0 0 [some (.ref p0), some (.int v1), none] [] h Q X := by
  unfold f_X5_addPosition at E
  refine q_aload_n dX5_addPosition_0 rfl ?_
  replace E := grd_some E
  obtain ⟨g1, E⟩ := E
  refine r_getI dX5_addPosition_1 FX5_28 g1 ?_
  refine q_if_lt (tgt := 34) dX5_addPosition_4 (by decide) (fun z2 => ?_) (fun z2 => ?_)
  · replace E := ite_t E z2
    exact r_fewer [none, none, none] (ls_n (ls_n (ls_n ls_0))) (s_X5_addPosition_34 h E hK)
  · replace E := ite_f E z2
    refine q_aload_n dX5_addPosition_7 rfl ?_
    refine r_getI dX5_addPosition_8 FX5_28 g1 ?_
    refine q_bipush (v := (Int32.ofInt 7)) dX5_addPosition_11 (by decide) ?_
    refine q_icmp_ge (tgt := 34) dX5_addPosition_13 (by decide) (fun z3 => ?_) (fun z3 => ?_)
    · replace E := ite_t E z3
      exact r_fewer [none, none, none] (ls_n (ls_n (ls_n ls_0))) (s_X5_addPosition_34 h E hK)
    · replace E := ite_f E z3
      refine q_aload_n dX5_addPosition_16 rfl ?_
      refine r_getI dX5_addPosition_17 FX5_32 g1 ?_
      refine q_bipush (v := (Int32.ofInt 7)) dX5_addPosition_20 (by decide) ?_
      refine q_icmp_ge (tgt := 34) dX5_addPosition_22 (by decide) (fun z4 => ?_) (fun z4 => ?_)
      · replace E := ite_t E z4
        exact r_fewer [none, none, none] (ls_n (ls_n (ls_n ls_0))) (s_X5_addPosition_34 h E hK)
      · replace E := ite_f E z4
        refine q_iload_n dX5_addPosition_25 rfl ?_
        refine q_if_lt (tgt := 34) dX5_addPosition_26 (by decide) (fun z5 => ?_) (fun z5 => ?_)
        · replace E := ite_t E z5
          exact r_fewer [none, none, none] (ls_n (ls_n (ls_n ls_0))) (s_X5_addPosition_34 h E hK)
        · replace E := ite_f E z5
          refine q_iload_n dX5_addPosition_29 rfl ?_
          refine q_iconst dX5_addPosition_30 ?_
          refine q_icmp_lt (tgt := 35) dX5_addPosition_31 (by decide) (fun z6 => ?_) (fun z6 => ?_)
          · replace E := ite_t E z6
            refine q_iconst dX5_addPosition_35 ?_
            refine q_aload_n dX5_addPosition_36 rfl ?_
            refine r_getI dX5_addPosition_37 FX5_32 g1 ?_
            refine q_ishl dX5_addPosition_40 ?_
            replace E := bnd_x E
            obtain ⟨x7, ex7, E⟩ := E
            refine r_istore_n dX5_addPosition_41 (by decide) ex7 (ls' := [some (.ref p0), some (.int v1), some (.int x7)]) rfl ?_
            refine q_aload_n dX5_addPosition_42 rfl ?_
            replace E := orf_some E
            obtain ⟨a8, ea8, E⟩ := E
            refine r_getR dX5_addPosition_43 FX5_9 g1 ea8 ?_
            refine q_iload_n dX5_addPosition_46 rfl ?_
            refine q_dup2 dX5_addPosition_47 ?_
            replace E := grd_some E
            obtain ⟨g9, E⟩ := E
            replace E := grd_some E
            obtain ⟨g10, E⟩ := E
            refine r_iaload dX5_addPosition_48 g9 g10 ?_
            refine q_iload_n dX5_addPosition_49 rfl ?_
            refine q_ior dX5_addPosition_50 ?_
            replace E := bnd_x E
            obtain ⟨h11, eh11, E⟩ := E
            refine r_iastore (hh := eh11) dX5_addPosition_51 g9 g10 ?_
            refine q_aload_n dX5_addPosition_52 rfl ?_
            replace E := grd_some E
            obtain ⟨g12, E⟩ := E
            replace E := orf_some E
            obtain ⟨a13, ea13, E⟩ := E
            refine r_getR dX5_addPosition_53 FX5_18 g12 ea13 ?_
            refine q_aload_n dX5_addPosition_56 rfl ?_
            refine r_getI dX5_addPosition_57 FX5_28 g12 ?_
            refine q_iload_n dX5_addPosition_60 rfl ?_
            replace E := grd_some E
            obtain ⟨g15, E⟩ := E
            replace E := grd_some E
            obtain ⟨g16, E⟩ := E
            replace E := bnd_x E
            obtain ⟨h14, eh14, E⟩ := E
            refine r_iastore (hh := eh14) dX5_addPosition_61 g15 g16 ?_
            refine q_aload_n dX5_addPosition_62 rfl ?_
            replace E := grd_some E
            obtain ⟨g17, E⟩ := E
            replace E := orf_some E
            obtain ⟨a18, ea18, E⟩ := E
            refine r_getR dX5_addPosition_63 FX5_21 g17 ea18 ?_
            refine q_aload_n dX5_addPosition_66 rfl ?_
            refine r_getI dX5_addPosition_67 FX5_28 g17 ?_
            refine q_iload_n dX5_addPosition_70 rfl ?_
            replace E := grd_some E
            obtain ⟨g20, E⟩ := E
            replace E := grd_some E
            obtain ⟨g21, E⟩ := E
            replace E := bnd_x E
            obtain ⟨h19, eh19, E⟩ := E
            refine r_iastore (hh := eh19) dX5_addPosition_71 g20 g21 ?_
            refine q_aload_n dX5_addPosition_72 rfl ?_
            replace E := grd_some E
            obtain ⟨g22, E⟩ := E
            replace E := orf_some E
            obtain ⟨a23, ea23, E⟩ := E
            refine r_getR dX5_addPosition_73 FX5_24 g22 ea23 ?_
            refine q_aload_n dX5_addPosition_76 rfl ?_
            refine r_getI dX5_addPosition_77 FX5_28 g22 ?_
            refine q_iconst dX5_addPosition_80 ?_
            replace E := grd_some E
            obtain ⟨g25, E⟩ := E
            replace E := grd_some E
            obtain ⟨g26, E⟩ := E
            replace E := bnd_x E
            obtain ⟨h24, eh24, E⟩ := E
            refine r_zastore (hh := eh24) dX5_addPosition_81 g25 g26 (by decide) ?_
            refine q_aload_n dX5_addPosition_82 rfl ?_
            refine q_dup dX5_addPosition_83 ?_
            replace E := grd_some E
            obtain ⟨g27, E⟩ := E
            refine r_getI dX5_addPosition_84 FX5_28 g27 ?_
            refine q_iconst dX5_addPosition_87 ?_
            refine q_iadd dX5_addPosition_88 ?_
            replace E := bnd_x E
            obtain ⟨h28, eh28, E⟩ := E
            refine r_putI (hh := eh28) dX5_addPosition_89 FX5_28 g27 rfl rfl ?_
            refine q_aload_n dX5_addPosition_92 rfl ?_
            refine q_dup dX5_addPosition_93 ?_
            replace E := grd_some E
            obtain ⟨g29, E⟩ := E
            refine r_getI dX5_addPosition_94 FX5_32 g29 ?_
            refine q_iconst dX5_addPosition_97 ?_
            refine q_iadd dX5_addPosition_98 ?_
            replace E := bnd_x E
            obtain ⟨h30, eh30, E⟩ := E
            refine r_putI (hh := eh30) dX5_addPosition_99 FX5_32 g29 rfl rfl ?_
            cases E
            exact q_return dX5_addPosition_102 rfl hK
          · replace E := ite_f E z6
            exact r_fewer [none, none, none] (ls_n (ls_n (ls_n ls_0))) (s_X5_addPosition_34 h E hK)
theorem c_X5_addPosition {l : Launch} {G : mG} {p0 : Nat} {v1 : Int32} {h h' : mH} {r : Unit} (E : f_X5_addPosition p0 v1 h = some (r, h')) : mMet l G m_X5_addPosition 0 0 0 [.ref p0, .int v1] h (fun v k => v = none ∧ h' = k) (fun _ _ => False) :=
  mMet_of (by decide +kernel) rfl (ac_c rfl (ac_c rfl ac_0)) (Nat.le_of_ble_eq_true rfl) (s_X5_addPosition_0 p0 v1 h E (And.intro rfl rfl))
set_option maxRecDepth 100000 in
set_option maxHeartbeats 4000000 in
theorem s_X11_isSign_23 {l : Launch} {G : mG} {Q : Option Value → mH → Prop} {X : String → mH → Prop} (s0 : Int32) (h : mH) {o : Int32 × mH} (E : g_X11_isSign_23 s0 h = some o) (hK : (fiI Q) o) : mW l G m_X11_isSign 0 0 0 23 [none] [.int s0] h Q X := by
  unfold g_X11_isSign_23 at E
  replace E := grd_some E
  obtain ⟨g1, E⟩ := E
  cases E
  exact q_zreturn dX11_isSign_23 rfl (narZ g1) hK
set_option maxRecDepth 100000 in
set_option maxHeartbeats 4000000 in
theorem s_X11_isSign_18 {l : Launch} {G : mG} {Q : Option Value → mH → Prop} {X : String → mH → Prop} (h : mH) {o : Int32 × mH} (E : g_X11_isSign_18  h = some o) (hK : (fiI Q) o) : mW l G m_X11_isSign 0 0 0 18 [none] [] h Q X := by
  unfold g_X11_isSign_18 at E
  refine q_iconst dX11_isSign_18 ?_
  refine q_goto (tgt := 23) dX11_isSign_19 (by decide) ?_
  exact r_fewer [none] (ls_n ls_0) (s_X11_isSign_23 (Int32.ofInt 1) h E hK)
set_option maxRecDepth 100000 in
set_option maxHeartbeats 4000000 in
theorem s_X11_isSign_0 {l : Launch} {G : mG} {Q : Option Value → mH → Prop} {X : String → mH → Prop} (v0 : Int32) (h : mH) {o : Int32 × mH} (E : f_X11_isSign v0 h = some o) (hK : (fiI Q) o) : mW l G m_X11_isSign 0 0 0 0 [some (.int v0)] [] h Q X := by
  unfold f_X11_isSign at E
  refine q_iload_n dX11_isSign_0 rfl ?_
  refine q_bipush (v := (Int32.ofInt 42)) dX11_isSign_1 (by decide) ?_
  refine q_icmp_eq (tgt := 18) dX11_isSign_3 (by decide) (fun z1 => ?_) (fun z1 => ?_)
  · replace E := ite_t E z1
    exact r_fewer [none] (ls_n ls_0) (s_X11_isSign_18 h E hK)
  · replace E := ite_f E z1
    refine q_iload_n dX11_isSign_6 rfl ?_
    refine q_bipush (v := (Int32.ofInt 43)) dX11_isSign_7 (by decide) ?_
    refine q_icmp_eq (tgt := 18) dX11_isSign_9 (by decide) (fun z2 => ?_) (fun z2 => ?_)
    · replace E := ite_t E z2
      exact r_fewer [none] (ls_n ls_0) (s_X11_isSign_18 h E hK)
    · replace E := ite_f E z2
      refine q_iload_n dX11_isSign_12 rfl ?_
      refine q_bipush (v := (Int32.ofInt 63)) dX11_isSign_13 (by decide) ?_
      refine q_icmp_ne (tgt := 22) dX11_isSign_15 (by decide) (fun z3 => ?_) (fun z3 => ?_)
      · replace E := ite_f E z3
        refine q_iconst dX11_isSign_22 ?_
        exact r_fewer [none] (ls_n ls_0) (s_X11_isSign_23 (Int32.ofInt 0) h E hK)
      · replace E := ite_t E z3
        exact r_fewer [none] (ls_n ls_0) (s_X11_isSign_18 h E hK)
theorem c_X11_isSign {l : Launch} {G : mG} {v0 : Int32} {h h' : mH} {r : Int32} (E : f_X11_isSign v0 h = some (r, h')) : mMet l G m_X11_isSign 0 0 0 [.int v0] h (fun v k => v = some (.int r) ∧ h' = k) (fun _ _ => False) :=
  mMet_of (by decide +kernel) rfl (ac_c rfl ac_0) (Nat.le_of_ble_eq_true rfl) (s_X11_isSign_0 v0 h E (And.intro rfl rfl))
set_option maxRecDepth 100000 in
set_option maxHeartbeats 4000000 in
theorem s_X5_addFollowers_26 {l : Launch} {G : mG} {Q : Option Value → mH → Prop} {X : String → mH → Prop} (p0 : Nat) (v1 : Int32) (v2 : Int32) (v3 : Int32) (h : mH) {o : ((Int32 × mH) ⊕ (Unit × mH))} (E : g_X5_addFollowers_26 p0 v1 v2 v3 h = some o) (hK : (lpK (w_X5_addFollowers_2 l G Q X p0 v1 v2) (fiV Q)) o) : mW l G m_X5_addFollowers 0 0 0 26 [some (.ref p0), some (.int v1), some (.int v2), some (.int v3)] [] h Q X := by
  unfold g_X5_addFollowers_26 at E
  replace E := bnd_x E
  obtain ⟨x1, ex1, E⟩ := E
  refine r_iinc (v := x1) dX5_addFollowers_26 rfl ex1 (by decide) (ls' := [some (.ref p0), some (.int v1), some (.int v2), some (.int x1)]) rfl ?_
  refine q_goto (tgt := 2) dX5_addFollowers_29 (by decide) ?_
  cases E
  exact r_fewer [some (.ref p0), some (.int v1), some (.int v2), some (.int x1)] (ls_s (ls_s (ls_s (ls_s ls_0)))) hK
set_option maxRecDepth 100000 in
set_option maxHeartbeats 4000000 in
theorem sb_X5_addFollowers_2 {l : Launch} {G : mG} {Q : Option Value → mH → Prop} {X : String → mH → Prop} (p0 : Nat) (v1 : Int32) (v2 : Int32) (v3 : Int32) (h : mH) {o : ((Int32 × mH) ⊕ (Unit × mH))} (E : b0_X5_addFollowers_2 p0 v1 v2 v3 h = some o) (hK : (lpK (w_X5_addFollowers_2 l G Q X p0 v1 v2) (fiV Q)) o) : mW l G m_X5_addFollowers 0 0 0 2 [some (.ref p0), some (.int v1), some (.int v2), some (.int v3)] [] h Q X := by
  unfold b0_X5_addFollowers_2 at E
  refine q_iload_n dX5_addFollowers_2 rfl ?_
  refine q_bipush (v := (Int32.ofInt 7)) dX5_addFollowers_3 (by decide) ?_
  refine q_icmp_ge (tgt := 32) dX5_addFollowers_5 (by decide) (fun z1 => ?_) (fun z1 => ?_)
  · replace E := ite_t E z1
    cases E
    exact q_return dX5_addFollowers_32 rfl hK
  · replace E := ite_f E z1
    refine q_iload_n dX5_addFollowers_8 rfl ?_
    refine q_iload_n dX5_addFollowers_9 rfl ?_
    refine q_ishr dX5_addFollowers_10 ?_
    refine q_iconst dX5_addFollowers_11 ?_
    refine q_iand dX5_addFollowers_12 ?_
    refine q_if_eq (tgt := 26) dX5_addFollowers_13 (by decide) (fun z2 => ?_) (fun z2 => ?_)
    · replace E := ite_t E z2
      exact r_fewer [some (.ref p0), some (.int v1), some (.int v2), some (.int v3)] (ls_s (ls_s (ls_s (ls_s ls_0)))) (s_X5_addFollowers_26 p0 v1 v2 v3 h E hK)
    · replace E := ite_f E z2
      refine q_aload_n dX5_addFollowers_16 rfl ?_
      replace E := grd_some E
      obtain ⟨g3, E⟩ := E
      replace E := orf_some E
      obtain ⟨a4, ea4, E⟩ := E
      refine r_getR dX5_addFollowers_17 FX5_15 g3 ea4 ?_
      refine q_iload_n dX5_addFollowers_20 rfl ?_
      refine q_dup2 dX5_addFollowers_21 ?_
      replace E := grd_some E
      obtain ⟨g5, E⟩ := E
      replace E := grd_some E
      obtain ⟨g6, E⟩ := E
      refine r_iaload dX5_addFollowers_22 g5 g6 ?_
      refine q_iload_n dX5_addFollowers_23 rfl ?_
      refine q_ior dX5_addFollowers_24 ?_
      replace E := bnd_x E
      obtain ⟨h7, eh7, E⟩ := E
      refine r_iastore (hh := eh7) dX5_addFollowers_25 g5 g6 ?_
      exact r_fewer [some (.ref p0), some (.int v1), some (.int v2), some (.int v3)] (ls_s (ls_s (ls_s (ls_s ls_0)))) (s_X5_addFollowers_26 p0 v1 v2 v3 h7 E hK)
theorem s_X5_addFollowers_2 {l : Launch} {G : mG} {Q : Option Value → mH → Prop} {X : String → mH → Prop} (p0 : Nat) (v1 : Int32) (v2 : Int32) (v3 : Int32) (h : mH) {o : Unit × mH} (E : g_X5_addFollowers_2 p0 v1 v2 v3 h = some o) (hK : (fiV Q) o) : mW l G m_X5_addFollowers 0 0 0 2 [some (.ref p0), some (.int v1), some (.int v2), some (.int v3)] [] h Q X :=
  (lp_go (w_X5_addFollowers_2 l G Q X p0 v1 v2) (fiV Q) (b_X5_addFollowers_2 p0 v1 v2) (fun s o E hK => sb_X5_addFollowers_2 p0 v1 v2 s.1 (s.2) E hK) _ _ _ E hK : w_X5_addFollowers_2 l G Q X p0 v1 v2 (v3, h))
set_option maxRecDepth 100000 in
set_option maxHeartbeats 4000000 in
theorem s_X5_addFollowers_0 {l : Launch} {G : mG} {Q : Option Value → mH → Prop} {X : String → mH → Prop} (p0 : Nat) (v1 : Int32) (v2 : Int32) (h : mH) {o : Unit × mH} (E : f_X5_addFollowers p0 v1 v2 h = some o) (hK : (fiV Q) o) : mW l G m_X5_addFollowers 0 0 0 0 [some (.ref p0), some (.int v1), some (.int v2), none] [] h Q X := by
  unfold f_X5_addFollowers at E
  refine q_iconst dX5_addFollowers_0 ?_
  refine r_istore_n dX5_addFollowers_1 (by decide) rfl (ls' := [some (.ref p0), some (.int v1), some (.int v2), some (.int (Int32.ofInt 0))]) rfl ?_
  exact r_fewer [some (.ref p0), some (.int v1), some (.int v2), some (.int (Int32.ofInt 0))] (ls_s (ls_s (ls_s (ls_s ls_0)))) (s_X5_addFollowers_2 p0 v1 v2 (Int32.ofInt 0) h E hK)
theorem c_X5_addFollowers {l : Launch} {G : mG} {p0 : Nat} {v1 : Int32} {v2 : Int32} {h h' : mH} {r : Unit} (E : f_X5_addFollowers p0 v1 v2 h = some (r, h')) : mMet l G m_X5_addFollowers 0 0 0 [.ref p0, .int v1, .int v2] h (fun v k => v = none ∧ h' = k) (fun _ _ => False) :=
  mMet_of (by decide +kernel) rfl (ac_c rfl (ac_c rfl (ac_c rfl ac_0))) (Nat.le_of_ble_eq_true rfl) (s_X5_addFollowers_0 p0 v1 v2 h E (And.intro rfl rfl))
set_option maxRecDepth 100000 in
set_option maxHeartbeats 4000000 in
theorem s_X5_sign_17 {l : Launch} {G : mG} {Q : Option Value → mH → Prop} {X : String → mH → Prop} (h : mH) {o : Unit × mH} (E : g_X5_sign_17  h = some o) (hK : (fiV Q) o) : mW l G m_X5_sign 1 0 0 17 [none, none, none] [] h Q X := by
  unfold g_X5_sign_17 at E
  cases E
  exact q_return dX5_sign_17 rfl hK
set_option maxRecDepth 100000 in
set_option maxHeartbeats 4000000 in
theorem s_X5_sign_53 {l : Launch} {G : mG} {Q : Option Value → mH → Prop} {X : String → mH → Prop} (h : mH) {o : Unit × mH} (E : g_X5_sign_53  h = some o) (hK : (fiV Q) o) : mW l G m_X5_sign 1 0 0 53 [none, none, none] [] h Q X := by
  unfold g_X5_sign_53 at E
  cases E
  exact q_return dX5_sign_53 rfl hK
set_option maxRecDepth 100000 in
set_option maxHeartbeats 4000000 in
theorem s_X5_sign_40 {l : Launch} {G : mG} {Q : Option Value → mH → Prop} {X : String → mH → Prop} (p0 : Nat) (v1 : Int32) (v2 : Int32) (h : mH) {o : Unit × mH} (E : g_X5_sign_40 p0 v1 v2 h = some o) (hK : (fiV Q) o) : mW l G m_X5_sign 1 0 0 40 [some (.ref p0), some (.int v1), some (.int v2)] [] h Q X := by
  unfold g_X5_sign_40 at E
  refine q_iload_n dX5_sign_40 rfl ?_
  refine q_bipush (v := (Int32.ofInt 43)) dX5_sign_41 (by decide) ?_
  refine q_icmp_eq (tgt := 53) dX5_sign_43 (by decide) (fun z1 => ?_) (fun z1 => ?_)
  · replace E := ite_t E z1
    exact r_fewer [none, none, none] (ls_n (ls_n (ls_n ls_0))) (s_X5_sign_53 h E hK)
  · replace E := ite_f E z1
    refine q_aload_n dX5_sign_46 rfl ?_
    replace E := grd_some E
    obtain ⟨g2, E⟩ := E
    replace E := orf_some E
    obtain ⟨a3, ea3, E⟩ := E
    refine r_getR dX5_sign_47 FX5_24 g2 ea3 ?_
    refine q_iload_n dX5_sign_50 rfl ?_
    refine q_iconst dX5_sign_51 ?_
    replace E := grd_some E
    obtain ⟨g5, E⟩ := E
    replace E := grd_some E
    obtain ⟨g6, E⟩ := E
    replace E := bnd_x E
    obtain ⟨h4, eh4, E⟩ := E
    refine r_zastore (hh := eh4) dX5_sign_52 g5 g6 (by decide) ?_
    exact r_fewer [none, none, none] (ls_n (ls_n (ls_n ls_0))) (s_X5_sign_53 h4 E hK)
set_option maxRecDepth 100000 in
set_option maxHeartbeats 4000000 in
theorem s_X5_sign_0 {l : Launch} {G : mG} {Q : Option Value → mH → Prop} {X : String → mH → Prop} (p0 : Nat) (v1 : Int32) (h : mH) {o : Unit × mH} (E : f_X5_sign p0 v1 h = some o) (hK : (fiV Q) o) : mW l G m_X5_sign 1 0 0 0 [some (.ref p0), some (.int v1), none] [] h Q X := by
  unfold f_X5_sign at E
  refine q_aload_n dX5_sign_0 rfl ?_
  replace E := grd_some E
  obtain ⟨g1, E⟩ := E
  refine r_getI dX5_sign_1 FX5_28 g1 ?_
  refine q_iconst dX5_sign_4 ?_
  refine q_isub dX5_sign_5 ?_
  replace E := bnd_x E
  obtain ⟨x2, ex2, E⟩ := E
  refine r_istore_n dX5_sign_6 (by decide) ex2 (ls' := [some (.ref p0), some (.int v1), some (.int x2)]) rfl ?_
  refine q_iload_n dX5_sign_7 rfl ?_
  refine q_if_lt (tgt := 17) dX5_sign_8 (by decide) (fun z3 => ?_) (fun z3 => ?_)
  · replace E := ite_t E z3
    exact r_fewer [none, none, none] (ls_n (ls_n (ls_n ls_0))) (s_X5_sign_17 h E hK)
  · replace E := ite_f E z3
    refine q_iload_n dX5_sign_11 rfl ?_
    refine q_bipush (v := (Int32.ofInt 7)) dX5_sign_12 (by decide) ?_
    refine q_icmp_lt (tgt := 18) dX5_sign_14 (by decide) (fun z4 => ?_) (fun z4 => ?_)
    · replace E := ite_t E z4
      refine q_iload_n dX5_sign_18 rfl ?_
      refine q_bipush (v := (Int32.ofInt 63)) dX5_sign_19 (by decide) ?_
      refine q_icmp_eq (tgt := 40) dX5_sign_21 (by decide) (fun z5 => ?_) (fun z5 => ?_)
      · replace E := ite_t E z5
        exact r_fewer [some (.ref p0), some (.int v1), some (.int x2)] (ls_s (ls_s (ls_s ls_0))) (s_X5_sign_40 p0 v1 x2 h E hK)
      · replace E := ite_f E z5
        refine q_aload_n dX5_sign_24 rfl ?_
        refine q_aload_n dX5_sign_25 rfl ?_
        replace E := orf_some E
        obtain ⟨a6, ea6, E⟩ := E
        refine r_getR dX5_sign_26 FX5_21 g1 ea6 ?_
        refine q_iload_n dX5_sign_29 rfl ?_
        replace E := grd_some E
        obtain ⟨g7, E⟩ := E
        replace E := grd_some E
        obtain ⟨g8, E⟩ := E
        refine r_iaload dX5_sign_30 g7 g8 ?_
        refine q_aload_n dX5_sign_31 rfl ?_
        replace E := orf_some E
        obtain ⟨a9, ea9, E⟩ := E
        refine r_getR dX5_sign_32 FX5_18 g1 ea9 ?_
        refine q_iload_n dX5_sign_35 rfl ?_
        replace E := grd_some E
        obtain ⟨g10, E⟩ := E
        replace E := grd_some E
        obtain ⟨g11, E⟩ := E
        refine r_iaload dX5_sign_36 g10 g11 ?_
        replace E := cal_some E
        obtain ⟨_, h12, hc, E⟩ := E
        refine r_callV2 (mc := 0) (ms := 0) dX5_sign_37 KX5_68 (c_X5_addFollowers hc) g1 (by decide) (Nat.le_of_ble_eq_true rfl) (fun _ _ q => q.elim) ?_
        rintro _ _ ⟨rfl, rfl⟩
        clear hc
        exact r_fewer [some (.ref p0), some (.int v1), some (.int x2)] (ls_s (ls_s (ls_s ls_0))) (s_X5_sign_40 p0 v1 x2 h12 E hK)
    · replace E := ite_f E z4
      exact r_fewer [none, none, none] (ls_n (ls_n (ls_n ls_0))) (s_X5_sign_17 h E hK)
theorem c_X5_sign {l : Launch} {G : mG} {p0 : Nat} {v1 : Int32} {h h' : mH} {r : Unit} (E : f_X5_sign p0 v1 h = some (r, h')) : mMet l G m_X5_sign 1 0 0 [.ref p0, .int v1] h (fun v k => v = none ∧ h' = k) (fun _ _ => False) :=
  mMet_of (by decide +kernel) rfl (ac_c rfl (ac_c rfl ac_0)) (Nat.le_of_ble_eq_true rfl) (s_X5_sign_0 p0 v1 h E (And.intro rfl rfl))
set_option maxRecDepth 100000 in
set_option maxHeartbeats 4000000 in
theorem s_X5_join_24 {l : Launch} {G : mG} {Q : Option Value → mH → Prop} {X : String → mH → Prop} (h : mH) {o : Unit × mH} (E : g_X5_join_24  h = some o) (hK : (fiV Q) o) : mW l G m_X5_join 1 0 0 24 [none, none, none, none] [] h Q X := by
  unfold g_X5_join_24 at E
  cases E
  exact q_return dX5_join_24 rfl hK
set_option maxRecDepth 100000 in
set_option maxHeartbeats 4000000 in
theorem s_X5_join_161 {l : Launch} {G : mG} {Q : Option Value → mH → Prop} {X : String → mH → Prop} (p0 : Nat) (v2 : Int32) (v3 : Int32) (s0 : Int32) (s1 : Int32) (s2 : Int32) (sp3 : Nat) (h : mH) {o : Unit × mH} (E : g_X5_join_161 p0 v2 v3 s0 s1 s2 sp3 h = some o) (hK : (fiV Q) o) : mW l G m_X5_join 1 0 0 161 [some (.ref p0), none, some (.int v2), some (.int v3)] [.int s0, .int s1, .int s2, .ref sp3] h Q X := by
  unfold g_X5_join_161 at E
  refine q_ior dX5_join_161 ?_
  replace E := grd_some E
  obtain ⟨g2, E⟩ := E
  replace E := grd_some E
  obtain ⟨g3, E⟩ := E
  replace E := bnd_x E
  obtain ⟨h1, eh1, E⟩ := E
  refine r_iastore (hh := eh1) dX5_join_162 g2 g3 ?_
  refine q_aload_n dX5_join_163 rfl ?_
  replace E := grd_some E
  obtain ⟨g4, E⟩ := E
  replace E := orf_some E
  obtain ⟨a5, ea5, E⟩ := E
  refine r_getR dX5_join_164 FX5_24 g4 ea5 ?_
  refine q_iload_n dX5_join_167 rfl ?_
  refine q_dup2 dX5_join_168 ?_
  replace E := grd_some E
  obtain ⟨g6, E⟩ := E
  replace E := grd_some E
  obtain ⟨g7, E⟩ := E
  refine r_zaload dX5_join_169 g6 g7 ?_
  refine q_aload_n dX5_join_170 rfl ?_
  refine r_getR dX5_join_171 FX5_24 g4 ea5 ?_
  refine q_iload_n dX5_join_174 rfl ?_
  replace E := grd_some E
  obtain ⟨g9, E⟩ := E
  refine r_zaload dX5_join_175 g6 g9 ?_
  refine q_iand dX5_join_176 ?_
  replace E := grd_some E
  obtain ⟨g11, E⟩ := E
  replace E := bnd_x E
  obtain ⟨h10, eh10, E⟩ := E
  refine r_zastore (hh := eh10) dX5_join_177 g6 g7 g11 ?_
  cases E
  exact q_return dX5_join_178 rfl hK
set_option maxRecDepth 100000 in
set_option maxHeartbeats 4000000 in
theorem s_X5_join_129 {l : Launch} {G : mG} {Q : Option Value → mH → Prop} {X : String → mH → Prop} (p0 : Nat) (v2 : Int32) (v3 : Int32) (s0 : Int32) (s1 : Int32) (s2 : Int32) (sp3 : Nat) (h : mH) {o : Unit × mH} (E : g_X5_join_129 p0 v2 v3 s0 s1 s2 sp3 h = some o) (hK : (fiV Q) o) : mW l G m_X5_join 1 0 0 129 [some (.ref p0), none, some (.int v2), some (.int v3)] [.int s0, .int s1, .int s2, .ref sp3] h Q X := by
  unfold g_X5_join_129 at E
  refine q_ior dX5_join_129 ?_
  replace E := grd_some E
  obtain ⟨g2, E⟩ := E
  replace E := grd_some E
  obtain ⟨g3, E⟩ := E
  replace E := bnd_x E
  obtain ⟨h1, eh1, E⟩ := E
  refine r_iastore (hh := eh1) dX5_join_130 g2 g3 ?_
  refine q_aload_n dX5_join_131 rfl ?_
  replace E := grd_some E
  obtain ⟨g4, E⟩ := E
  replace E := orf_some E
  obtain ⟨a5, ea5, E⟩ := E
  refine r_getR dX5_join_132 FX5_21 g4 ea5 ?_
  refine q_iload_n dX5_join_135 rfl ?_
  refine q_aload_n dX5_join_136 rfl ?_
  refine r_getR dX5_join_137 FX5_21 g4 ea5 ?_
  refine q_iload_n dX5_join_140 rfl ?_
  replace E := grd_some E
  obtain ⟨g7, E⟩ := E
  replace E := grd_some E
  obtain ⟨g8, E⟩ := E
  refine r_iaload dX5_join_141 g7 g8 ?_
  refine q_aload_n dX5_join_142 rfl ?_
  replace E := orf_some E
  obtain ⟨a9, ea9, E⟩ := E
  refine r_getR dX5_join_143 FX5_24 g4 ea9 ?_
  refine q_iload_n dX5_join_146 rfl ?_
  replace E := grd_some E
  obtain ⟨g10, E⟩ := E
  replace E := grd_some E
  obtain ⟨g11, E⟩ := E
  refine r_zaload dX5_join_147 g10 g11 ?_
  refine q_if_eq (tgt := 160) dX5_join_148 (by decide) (fun z12 => ?_) (fun z12 => ?_)
  · replace E := ite_t E z12
    refine q_iconst dX5_join_160 ?_
    exact r_fewer [some (.ref p0), none, some (.int v2), some (.int v3)] (ls_s (ls_n (ls_s (ls_s ls_0)))) (s_X5_join_161 p0 v2 v3 (Int32.ofInt 0) (gi h1 a5 v3.toNatClampNeg) v2 a5 h1 E hK)
  · replace E := ite_f E z12
    refine q_aload_n dX5_join_151 rfl ?_
    refine r_getR dX5_join_152 FX5_21 g4 ea5 ?_
    refine q_iload_n dX5_join_155 rfl ?_
    replace E := grd_some E
    obtain ⟨g14, E⟩ := E
    refine r_iaload dX5_join_156 g7 g14 ?_
    refine q_goto (tgt := 161) dX5_join_157 (by decide) ?_
    exact r_fewer [some (.ref p0), none, some (.int v2), some (.int v3)] (ls_s (ls_n (ls_s (ls_s ls_0)))) (s_X5_join_161 p0 v2 v3 (gi h1 a5 v2.toNatClampNeg) (gi h1 a5 v3.toNatClampNeg) v2 a5 h1 E hK)
set_option maxRecDepth 100000 in
set_option maxHeartbeats 4000000 in
theorem s_X5_join_0 {l : Launch} {G : mG} {Q : Option Value → mH → Prop} {X : String → mH → Prop} (p0 : Nat) (v1 : Int32) (h : mH) {o : Unit × mH} (E : f_X5_join p0 v1 h = some o) (hK : (fiV Q) o) : mW l G m_X5_join 1 0 0 0 [some (.ref p0), some (.int v1), none, none] [] h Q X := by
  unfold f_X5_join at E
  refine q_aload_n dX5_join_0 rfl ?_
  replace E := grd_some E
  obtain ⟨g1, E⟩ := E
  refine r_getI dX5_join_1 FX5_28 g1 ?_
  refine q_iconst dX5_join_4 ?_
  refine q_isub dX5_join_5 ?_
  replace E := bnd_x E
  obtain ⟨x2, ex2, E⟩ := E
  refine r_istore_n dX5_join_6 (by decide) ex2 (ls' := [some (.ref p0), some (.int v1), some (.int x2), none]) rfl ?_
  refine q_aload_n dX5_join_7 rfl ?_
  refine r_getI dX5_join_8 FX5_28 g1 ?_
  refine q_iconst dX5_join_11 ?_
  refine q_isub dX5_join_12 ?_
  replace E := bnd_x E
  obtain ⟨x3, ex3, E⟩ := E
  refine r_istore_n dX5_join_13 (by decide) ex3 (ls' := [some (.ref p0), some (.int v1), some (.int x2), some (.int x3)]) rfl ?_
  refine q_iload_n dX5_join_14 rfl ?_
  refine q_if_lt (tgt := 24) dX5_join_15 (by decide) (fun z4 => ?_) (fun z4 => ?_)
  · replace E := ite_t E z4
    exact r_fewer [none, none, none, none] (ls_n (ls_n (ls_n (ls_n ls_0)))) (s_X5_join_24 h E hK)
  · replace E := ite_f E z4
    refine q_iload_n dX5_join_18 rfl ?_
    refine q_bipush (v := (Int32.ofInt 7)) dX5_join_19 (by decide) ?_
    refine q_icmp_lt (tgt := 25) dX5_join_21 (by decide) (fun z5 => ?_) (fun z5 => ?_)
    · replace E := ite_t E z5
      refine q_aload_n dX5_join_25 rfl ?_
      refine q_dup dX5_join_26 ?_
      refine r_getI dX5_join_27 FX5_28 g1 ?_
      refine q_iconst dX5_join_30 ?_
      refine q_isub dX5_join_31 ?_
      replace E := bnd_x E
      obtain ⟨h6, eh6, E⟩ := E
      refine r_putI (hh := eh6) dX5_join_32 FX5_28 g1 rfl rfl ?_
      refine q_iload_n dX5_join_35 rfl ?_
      refine q_bipush (v := (Int32.ofInt 124)) dX5_join_36 (by decide) ?_
      refine q_icmp_ne (tgt := 87) dX5_join_38 (by decide) (fun z7 => ?_) (fun z7 => ?_)
      · replace E := ite_f E z7
        refine q_aload_n dX5_join_87 rfl ?_
        refine q_aload_n dX5_join_88 rfl ?_
        replace E := grd_some E
        obtain ⟨g8, E⟩ := E
        replace E := orf_some E
        obtain ⟨a9, ea9, E⟩ := E
        refine r_getR dX5_join_89 FX5_21 g8 ea9 ?_
        refine q_iload_n dX5_join_92 rfl ?_
        replace E := grd_some E
        obtain ⟨g10, E⟩ := E
        replace E := grd_some E
        obtain ⟨g11, E⟩ := E
        refine r_iaload dX5_join_93 g10 g11 ?_
        refine q_aload_n dX5_join_94 rfl ?_
        replace E := orf_some E
        obtain ⟨a12, ea12, E⟩ := E
        refine r_getR dX5_join_95 FX5_18 g8 ea12 ?_
        refine q_iload_n dX5_join_98 rfl ?_
        replace E := grd_some E
        obtain ⟨g13, E⟩ := E
        replace E := grd_some E
        obtain ⟨g14, E⟩ := E
        refine r_iaload dX5_join_99 g13 g14 ?_
        replace E := cal_some E
        obtain ⟨_, h15, hc, E⟩ := E
        refine r_callV2 (mc := 0) (ms := 0) dX5_join_100 KX5_68 (c_X5_addFollowers hc) g8 (by decide) (Nat.le_of_ble_eq_true rfl) (fun _ _ q => q.elim) ?_
        rintro _ _ ⟨rfl, rfl⟩
        clear hc
        refine q_aload_n dX5_join_103 rfl ?_
        replace E := grd_some E
        obtain ⟨g17, E⟩ := E
        replace E := orf_some E
        obtain ⟨a18, ea18, E⟩ := E
        refine r_getR dX5_join_104 FX5_18 g17 ea18 ?_
        refine q_iload_n dX5_join_107 rfl ?_
        refine q_dup2 dX5_join_108 ?_
        replace E := grd_some E
        obtain ⟨g19, E⟩ := E
        replace E := grd_some E
        obtain ⟨g20, E⟩ := E
        refine r_iaload dX5_join_109 g19 g20 ?_
        refine q_aload_n dX5_join_110 rfl ?_
        replace E := orf_some E
        obtain ⟨a21, ea21, E⟩ := E
        refine r_getR dX5_join_111 FX5_24 g17 ea21 ?_
        refine q_iload_n dX5_join_114 rfl ?_
        replace E := grd_some E
        obtain ⟨g22, E⟩ := E
        replace E := grd_some E
        obtain ⟨g23, E⟩ := E
        refine r_zaload dX5_join_115 g22 g23 ?_
        refine q_if_eq (tgt := 128) dX5_join_116 (by decide) (fun z24 => ?_) (fun z24 => ?_)
        · replace E := ite_t E z24
          refine q_iconst dX5_join_128 ?_
          exact r_fewer [some (.ref p0), none, some (.int x2), some (.int x3)] (ls_s (ls_n (ls_s (ls_s ls_0)))) (s_X5_join_129 p0 x2 x3 (Int32.ofInt 0) (gi h15 a18 x2.toNatClampNeg) x2 a18 h15 E hK)
        · replace E := ite_f E z24
          refine q_aload_n dX5_join_119 rfl ?_
          refine r_getR dX5_join_120 FX5_18 g17 ea18 ?_
          refine q_iload_n dX5_join_123 rfl ?_
          replace E := grd_some E
          obtain ⟨g26, E⟩ := E
          refine r_iaload dX5_join_124 g19 g26 ?_
          refine q_goto (tgt := 129) dX5_join_125 (by decide) ?_
          exact r_fewer [some (.ref p0), none, some (.int x2), some (.int x3)] (ls_s (ls_n (ls_s (ls_s ls_0)))) (s_X5_join_129 p0 x2 x3 (gi h15 a18 x3.toNatClampNeg) (gi h15 a18 x2.toNatClampNeg) x2 a18 h15 E hK)
      · replace E := ite_t E z7
        refine q_aload_n dX5_join_41 rfl ?_
        replace E := grd_some E
        obtain ⟨g27, E⟩ := E
        replace E := orf_some E
        obtain ⟨a28, ea28, E⟩ := E
        refine r_getR dX5_join_42 FX5_18 g27 ea28 ?_
        refine q_iload_n dX5_join_45 rfl ?_
        refine q_dup2 dX5_join_46 ?_
        replace E := grd_some E
        obtain ⟨g29, E⟩ := E
        replace E := grd_some E
        obtain ⟨g30, E⟩ := E
        refine r_iaload dX5_join_47 g29 g30 ?_
        refine q_aload_n dX5_join_48 rfl ?_
        refine r_getR dX5_join_49 FX5_18 g27 ea28 ?_
        refine q_iload_n dX5_join_52 rfl ?_
        replace E := grd_some E
        obtain ⟨g32, E⟩ := E
        refine r_iaload dX5_join_53 g29 g32 ?_
        refine q_ior dX5_join_54 ?_
        replace E := bnd_x E
        obtain ⟨h33, eh33, E⟩ := E
        refine r_iastore (hh := eh33) dX5_join_55 g29 g30 ?_
        refine q_aload_n dX5_join_56 rfl ?_
        replace E := grd_some E
        obtain ⟨g34, E⟩ := E
        replace E := orf_some E
        obtain ⟨a35, ea35, E⟩ := E
        refine r_getR dX5_join_57 FX5_21 g34 ea35 ?_
        refine q_iload_n dX5_join_60 rfl ?_
        refine q_dup2 dX5_join_61 ?_
        replace E := grd_some E
        obtain ⟨g36, E⟩ := E
        replace E := grd_some E
        obtain ⟨g37, E⟩ := E
        refine r_iaload dX5_join_62 g36 g37 ?_
        refine q_aload_n dX5_join_63 rfl ?_
        refine r_getR dX5_join_64 FX5_21 g34 ea35 ?_
        refine q_iload_n dX5_join_67 rfl ?_
        replace E := grd_some E
        obtain ⟨g39, E⟩ := E
        refine r_iaload dX5_join_68 g36 g39 ?_
        refine q_ior dX5_join_69 ?_
        replace E := bnd_x E
        obtain ⟨h40, eh40, E⟩ := E
        refine r_iastore (hh := eh40) dX5_join_70 g36 g37 ?_
        refine q_aload_n dX5_join_71 rfl ?_
        replace E := grd_some E
        obtain ⟨g41, E⟩ := E
        replace E := orf_some E
        obtain ⟨a42, ea42, E⟩ := E
        refine r_getR dX5_join_72 FX5_24 g41 ea42 ?_
        refine q_iload_n dX5_join_75 rfl ?_
        refine q_dup2 dX5_join_76 ?_
        replace E := grd_some E
        obtain ⟨g43, E⟩ := E
        replace E := grd_some E
        obtain ⟨g44, E⟩ := E
        refine r_zaload dX5_join_77 g43 g44 ?_
        refine q_aload_n dX5_join_78 rfl ?_
        refine r_getR dX5_join_79 FX5_24 g41 ea42 ?_
        refine q_iload_n dX5_join_82 rfl ?_
        replace E := grd_some E
        obtain ⟨g46, E⟩ := E
        refine r_zaload dX5_join_83 g43 g46 ?_
        refine q_ior dX5_join_84 ?_
        replace E := grd_some E
        obtain ⟨g48, E⟩ := E
        replace E := bnd_x E
        obtain ⟨h47, eh47, E⟩ := E
        refine r_zastore (hh := eh47) dX5_join_85 g43 g44 g48 ?_
        cases E
        exact q_return dX5_join_86 rfl hK
    · replace E := ite_f E z5
      exact r_fewer [none, none, none, none] (ls_n (ls_n (ls_n (ls_n ls_0)))) (s_X5_join_24 h E hK)
theorem c_X5_join {l : Launch} {G : mG} {p0 : Nat} {v1 : Int32} {h h' : mH} {r : Unit} (E : f_X5_join p0 v1 h = some (r, h')) : mMet l G m_X5_join 1 0 0 [.ref p0, .int v1] h (fun v k => v = none ∧ h' = k) (fun _ _ => False) :=
  mMet_of (by decide +kernel) rfl (ac_c rfl (ac_c rfl ac_0)) (Nat.le_of_ble_eq_true rfl) (s_X5_join_0 p0 v1 h E (And.intro rfl rfl))
set_option maxRecDepth 100000 in
set_option maxHeartbeats 4000000 in
theorem s_X5_number_80 {l : Launch} {G : mG} {Q : Option Value → mH → Prop} {X : String → mH → Prop} (p0 : Nat) (p1 : Nat) (v2 : Int32) (h : mH) {o : ((Int32 × mH) ⊕ (Unit × mH))} (E : g_X5_number_80 p0 p1 v2 h = some o) (hK : (lpK (w_X5_number_28 l G Q X p0 p1) (fiV Q)) o) : mW l G m_X5_number 2 0 0 80 [some (.ref p0), some (.ref p1), some (.int v2), none] [] h Q X := by
  unfold g_X5_number_80 at E
  replace E := bnd_x E
  obtain ⟨x1, ex1, E⟩ := E
  refine r_iinc (v := x1) dX5_number_80 rfl ex1 (by decide) (ls' := [some (.ref p0), some (.ref p1), some (.int x1), none]) rfl ?_
  refine q_goto (tgt := 28) dX5_number_83 (by decide) ?_
  cases E
  exact r_fewer [some (.ref p0), some (.ref p1), some (.int x1), none] (ls_s (ls_s (ls_s (ls_n ls_0)))) hK
set_option maxRecDepth 100000 in
set_option maxHeartbeats 4000000 in
theorem sb_X5_number_28 {l : Launch} {G : mG} {Q : Option Value → mH → Prop} {X : String → mH → Prop} (p0 : Nat) (p1 : Nat) (v2 : Int32) (h : mH) {o : ((Int32 × mH) ⊕ (Unit × mH))} (E : b0_X5_number_28 p0 p1 v2 h = some o) (hK : (lpK (w_X5_number_28 l G Q X p0 p1) (fiV Q)) o) : mW l G m_X5_number 2 0 0 28 [some (.ref p0), some (.ref p1), some (.int v2), none] [] h Q X := by
  unfold b0_X5_number_28 at E
  refine q_iload_n dX5_number_28 rfl ?_
  refine q_aload_n dX5_number_29 rfl ?_
  replace E := grd_some E
  obtain ⟨g3, E⟩ := E
  replace E := cal_some E
  obtain ⟨x2, h1, hc, E⟩ := E
  refine r_callV0 (mc := 0) (ms := 0) dX5_number_30 KX5_41 (c_X4_size hc) g3 (by decide) (Nat.le_of_ble_eq_true rfl) (fun _ _ q => q.elim) ?_
  rintro _ _ ⟨rfl, rfl⟩
  clear hc
  refine q_icmp_ge (tgt := 86) dX5_number_33 (by decide) (fun z4 => ?_) (fun z4 => ?_)
  · replace E := ite_t E z4
    cases E
    exact q_return dX5_number_86 rfl hK
  · replace E := ite_f E z4
    refine q_aload_n dX5_number_36 rfl ?_
    refine q_iload_n dX5_number_37 rfl ?_
    replace E := grd_some E
    obtain ⟨g7, E⟩ := E
    replace E := cal_some E
    obtain ⟨x6, h5, hc, E⟩ := E
    refine r_callV1 (mc := 0) (ms := 0) dX5_number_38 KX5_46 (c_X4_code hc) g7 (by decide) (Nat.le_of_ble_eq_true rfl) (fun _ _ q => q.elim) ?_
    rintro _ _ ⟨rfl, rfl⟩
    clear hc
    refine r_istore_n dX5_number_41 (by decide) rfl (ls' := [some (.ref p0), some (.ref p1), some (.int v2), some (.int x6)]) rfl ?_
    refine q_iload_n dX5_number_42 rfl ?_
    replace E := cal_some E
    obtain ⟨x9, h8, hc, E⟩ := E
    refine r_callSN1 (mc := 0) (ms := 0) dX5_number_43 KX5_50 (c_X11_isLetter hc) (by decide) (Nat.le_of_ble_eq_true rfl) (fun _ _ q => q.elim) ?_
    rintro _ _ ⟨rfl, rfl⟩
    clear hc
    refine q_if_eq (tgt := 60) dX5_number_46 (by decide) (fun z10 => ?_) (fun z10 => ?_)
    · replace E := ite_t E z10
      refine q_iload_n dX5_number_60 rfl ?_
      replace E := cal_some E
      obtain ⟨x12, h11, hc, E⟩ := E
      refine r_callSN1 (mc := 0) (ms := 0) dX5_number_61 KX5_58 (c_X11_isSign hc) (by decide) (Nat.le_of_ble_eq_true rfl) (fun _ _ q => q.elim) ?_
      rintro _ _ ⟨rfl, rfl⟩
      clear hc
      refine q_if_eq (tgt := 75) dX5_number_64 (by decide) (fun z13 => ?_) (fun z13 => ?_)
      · replace E := ite_t E z13
        refine q_aload_n dX5_number_75 rfl ?_
        refine q_iload_n dX5_number_76 rfl ?_
        replace E := grd_some E
        obtain ⟨g16, E⟩ := E
        replace E := cal_some E
        obtain ⟨_, h14, hc, E⟩ := E
        refine r_callV1 (mc := 0) (ms := 0) dX5_number_77 KX5_65 (c_X5_join hc) g16 (by decide) (Nat.le_of_ble_eq_true rfl) (fun _ _ q => q.elim) ?_
        rintro _ _ ⟨rfl, rfl⟩
        clear hc
        exact r_fewer [some (.ref p0), some (.ref p1), some (.int v2), none] (ls_s (ls_s (ls_s (ls_n ls_0)))) (s_X5_number_80 p0 p1 v2 h14 E hK)
      · replace E := ite_f E z13
        refine q_aload_n dX5_number_67 rfl ?_
        refine q_iload_n dX5_number_68 rfl ?_
        replace E := grd_some E
        obtain ⟨g19, E⟩ := E
        replace E := cal_some E
        obtain ⟨_, h17, hc, E⟩ := E
        refine r_callV1 (mc := 0) (ms := 0) dX5_number_69 KX5_61 (c_X5_sign hc) g19 (by decide) (Nat.le_of_ble_eq_true rfl) (fun _ _ q => q.elim) ?_
        rintro _ _ ⟨rfl, rfl⟩
        clear hc
        refine q_goto (tgt := 80) dX5_number_72 (by decide) ?_
        exact r_fewer [some (.ref p0), some (.ref p1), some (.int v2), none] (ls_s (ls_s (ls_s (ls_n ls_0)))) (s_X5_number_80 p0 p1 v2 h17 E hK)
    · replace E := ite_f E z10
      refine q_aload_n dX5_number_49 rfl ?_
      refine q_iload_n dX5_number_50 rfl ?_
      refine q_bipush (v := (Int32.ofInt 97)) dX5_number_51 (by decide) ?_
      refine q_isub dX5_number_53 ?_
      replace E := grd_some E
      obtain ⟨g22, E⟩ := E
      replace E := cal_some E
      obtain ⟨_, h20, hc, E⟩ := E
      refine r_callV1 (mc := 0) (ms := 0) dX5_number_54 KX5_54 (c_X5_addPosition hc) g22 (by decide) (Nat.le_of_ble_eq_true rfl) (fun _ _ q => q.elim) ?_
      rintro _ _ ⟨rfl, rfl⟩
      clear hc
      refine q_goto (tgt := 80) dX5_number_57 (by decide) ?_
      exact r_fewer [some (.ref p0), some (.ref p1), some (.int v2), none] (ls_s (ls_s (ls_s (ls_n ls_0)))) (s_X5_number_80 p0 p1 v2 h20 E hK)
theorem s_X5_number_28 {l : Launch} {G : mG} {Q : Option Value → mH → Prop} {X : String → mH → Prop} (p0 : Nat) (p1 : Nat) (v2 : Int32) (h : mH) {o : Unit × mH} (E : g_X5_number_28 p0 p1 v2 h = some o) (hK : (fiV Q) o) : mW l G m_X5_number 2 0 0 28 [some (.ref p0), some (.ref p1), some (.int v2), none] [] h Q X :=
  (lp_go (w_X5_number_28 l G Q X p0 p1) (fiV Q) (b_X5_number_28 p0 p1) (fun s o E hK => sb_X5_number_28 p0 p1 s.1 (s.2) E hK) _ _ _ E hK : w_X5_number_28 l G Q X p0 p1 (v2, h))
set_option maxRecDepth 100000 in
set_option maxHeartbeats 4000000 in
theorem s_X5_number_0 {l : Launch} {G : mG} {Q : Option Value → mH → Prop} {X : String → mH → Prop} (p0 : Nat) (p1 : Nat) (h : mH) {o : Unit × mH} (E : f_X5_number p0 p1 h = some o) (hK : (fiV Q) o) : mW l G m_X5_number 2 0 0 0 [some (.ref p0), some (.ref p1), none, none] [] h Q X := by
  unfold f_X5_number at E
  refine q_aload_n dX5_number_0 rfl ?_
  refine q_iconst dX5_number_1 ?_
  replace E := grd_some E
  obtain ⟨g1, E⟩ := E
  replace E := bnd_x E
  obtain ⟨h2, eh2, E⟩ := E
  refine r_putI (hh := eh2) dX5_number_2 FX5_28 g1 rfl rfl ?_
  refine q_aload_n dX5_number_5 rfl ?_
  refine q_iconst dX5_number_6 ?_
  replace E := grd_some E
  obtain ⟨g3, E⟩ := E
  replace E := bnd_x E
  obtain ⟨h4, eh4, E⟩ := E
  refine r_putI (hh := eh4) dX5_number_7 FX5_32 g3 rfl rfl ?_
  refine q_aload_n dX5_number_10 rfl ?_
  replace E := grd_some E
  obtain ⟨g5, E⟩ := E
  replace E := orf_some E
  obtain ⟨a6, ea6, E⟩ := E
  refine r_getR dX5_number_11 FX5_9 g5 ea6 ?_
  refine q_iconst dX5_number_14 ?_
  replace E := cal_some E
  obtain ⟨_, h7, hc, E⟩ := E
  refine r_callS2 (mc := 0) (ms := 0) dX5_number_15 KX5_35 (c_J7_fill_53178 hc) (by decide) (Nat.le_of_ble_eq_true rfl) (fun _ _ q => q.elim) ?_
  rintro _ _ ⟨rfl, rfl⟩
  clear hc
  refine q_aload_n dX5_number_18 rfl ?_
  replace E := grd_some E
  obtain ⟨g9, E⟩ := E
  replace E := orf_some E
  obtain ⟨a10, ea10, E⟩ := E
  refine r_getR dX5_number_19 FX5_15 g9 ea10 ?_
  refine q_iconst dX5_number_22 ?_
  replace E := cal_some E
  obtain ⟨_, h11, hc, E⟩ := E
  refine r_callS2 (mc := 0) (ms := 0) dX5_number_23 KX5_35 (c_J7_fill_53178 hc) (by decide) (Nat.le_of_ble_eq_true rfl) (fun _ _ q => q.elim) ?_
  rintro _ _ ⟨rfl, rfl⟩
  clear hc
  refine q_iconst dX5_number_26 ?_
  refine r_istore_n dX5_number_27 (by decide) rfl (ls' := [some (.ref p0), some (.ref p1), some (.int (Int32.ofInt 0)), none]) rfl ?_
  exact r_fewer [some (.ref p0), some (.ref p1), some (.int (Int32.ofInt 0)), none] (ls_s (ls_s (ls_s (ls_n ls_0)))) (s_X5_number_28 p0 p1 (Int32.ofInt 0) h11 E hK)
theorem c_X5_number {l : Launch} {G : mG} {p0 : Nat} {p1 : Nat} {h h' : mH} {r : Unit} (E : f_X5_number p0 p1 h = some (r, h')) : mMet l G m_X5_number 2 0 0 [.ref p0, .ref p1] h (fun v k => v = none ∧ h' = k) (fun _ _ => False) :=
  mMet_of (by decide +kernel) rfl (ac_c rfl (ac_c rfl ac_0)) (Nat.le_of_ble_eq_true rfl) (s_X5_number_0 p0 p1 h E (And.intro rfl rfl))
set_option maxRecDepth 100000 in
set_option maxHeartbeats 4000000 in
theorem s_X5_acceptNothing_0 {l : Launch} {G : mG} {Q : Option Value → mH → Prop} {X : String → mH → Prop} (p0 : Nat) (h : mH) {o : Int32 × mH} (E : f_X5_acceptNothing p0 h = some o) (hK : (fiI Q) o) : mW l G m_X5_acceptNothing 0 0 0 0 [some (.ref p0)] [] h Q X := by
  unfold f_X5_acceptNothing at E
  refine q_aload_n dX5_acceptNothing_0 rfl ?_
  replace E := grd_some E
  obtain ⟨g1, E⟩ := E
  replace E := orf_some E
  obtain ⟨a2, ea2, E⟩ := E
  refine r_getR dX5_acceptNothing_1 FX5_24 g1 ea2 ?_
  refine q_iconst dX5_acceptNothing_4 ?_
  replace E := grd_some E
  obtain ⟨g3, E⟩ := E
  replace E := grd_some E
  obtain ⟨g4, E⟩ := E
  refine r_zaload dX5_acceptNothing_5 g3 g4 ?_
  replace E := grd_some E
  obtain ⟨g5, E⟩ := E
  cases E
  exact q_zreturn dX5_acceptNothing_6 rfl (narZ g5) hK
theorem c_X5_acceptNothing {l : Launch} {G : mG} {p0 : Nat} {h h' : mH} {r : Int32} (E : f_X5_acceptNothing p0 h = some (r, h')) : mMet l G m_X5_acceptNothing 0 0 0 [.ref p0] h (fun v k => v = some (.int r) ∧ h' = k) (fun _ _ => False) :=
  mMet_of (by decide +kernel) rfl (ac_c rfl ac_0) (Nat.le_of_ble_eq_true rfl) (s_X5_acceptNothing_0 p0 h E (And.intro rfl rfl))
set_option maxRecDepth 100000 in
set_option maxHeartbeats 4000000 in
theorem s_X5_first_0 {l : Launch} {G : mG} {Q : Option Value → mH → Prop} {X : String → mH → Prop} (p0 : Nat) (h : mH) {o : Int32 × mH} (E : f_X5_first p0 h = some o) (hK : (fiI Q) o) : mW l G m_X5_first 0 0 0 0 [some (.ref p0)] [] h Q X := by
  unfold f_X5_first at E
  refine q_aload_n dX5_first_0 rfl ?_
  replace E := grd_some E
  obtain ⟨g1, E⟩ := E
  replace E := orf_some E
  obtain ⟨a2, ea2, E⟩ := E
  refine r_getR dX5_first_1 FX5_18 g1 ea2 ?_
  refine q_iconst dX5_first_4 ?_
  replace E := grd_some E
  obtain ⟨g3, E⟩ := E
  replace E := grd_some E
  obtain ⟨g4, E⟩ := E
  refine r_iaload dX5_first_5 g3 g4 ?_
  cases E
  exact q_ireturn dX5_first_6 rfl hK
theorem c_X5_first {l : Launch} {G : mG} {p0 : Nat} {h h' : mH} {r : Int32} (E : f_X5_first p0 h = some (r, h')) : mMet l G m_X5_first 0 0 0 [.ref p0] h (fun v k => v = some (.int r) ∧ h' = k) (fun _ _ => False) :=
  mMet_of (by decide +kernel) rfl (ac_c rfl ac_0) (Nat.le_of_ble_eq_true rfl) (s_X5_first_0 p0 h E (And.intro rfl rfl))
set_option maxRecDepth 100000 in
set_option maxHeartbeats 4000000 in
theorem s_X5_followersOf_27 {l : Launch} {G : mG} {Q : Option Value → mH → Prop} {X : String → mH → Prop} (p0 : Nat) (v1 : Int32) (v2 : Int32) (v3 : Int32) (h : mH) {o : ((Int32 × Int32 × mH) ⊕ (Int32 × mH))} (E : g_X5_followersOf_27 p0 v1 v2 v3 h = some o) (hK : (lpK (w_X5_followersOf_4 l G Q X p0 v1) (fiI Q)) o) : mW l G m_X5_followersOf 0 0 0 27 [some (.ref p0), some (.int v1), some (.int v2), some (.int v3)] [] h Q X := by
  unfold g_X5_followersOf_27 at E
  replace E := bnd_x E
  obtain ⟨x1, ex1, E⟩ := E
  refine r_iinc (v := x1) dX5_followersOf_27 rfl ex1 (by decide) (ls' := [some (.ref p0), some (.int v1), some (.int v2), some (.int x1)]) rfl ?_
  refine q_goto (tgt := 4) dX5_followersOf_30 (by decide) ?_
  cases E
  exact r_fewer [some (.ref p0), some (.int v1), some (.int v2), some (.int x1)] (ls_s (ls_s (ls_s (ls_s ls_0)))) hK
set_option maxRecDepth 100000 in
set_option maxHeartbeats 4000000 in
theorem sb_X5_followersOf_4 {l : Launch} {G : mG} {Q : Option Value → mH → Prop} {X : String → mH → Prop} (p0 : Nat) (v1 : Int32) (v2 : Int32) (v3 : Int32) (h : mH) {o : ((Int32 × Int32 × mH) ⊕ (Int32 × mH))} (E : b0_X5_followersOf_4 p0 v1 v2 v3 h = some o) (hK : (lpK (w_X5_followersOf_4 l G Q X p0 v1) (fiI Q)) o) : mW l G m_X5_followersOf 0 0 0 4 [some (.ref p0), some (.int v1), some (.int v2), some (.int v3)] [] h Q X := by
  unfold b0_X5_followersOf_4 at E
  refine q_iload_n dX5_followersOf_4 rfl ?_
  refine q_bipush (v := (Int32.ofInt 7)) dX5_followersOf_5 (by decide) ?_
  refine q_icmp_ge (tgt := 33) dX5_followersOf_7 (by decide) (fun z1 => ?_) (fun z1 => ?_)
  · replace E := ite_t E z1
    refine q_iload_n dX5_followersOf_33 rfl ?_
    cases E
    exact q_ireturn dX5_followersOf_34 rfl hK
  · replace E := ite_f E z1
    refine q_iload_n dX5_followersOf_10 rfl ?_
    refine q_iload_n dX5_followersOf_11 rfl ?_
    refine q_ishr dX5_followersOf_12 ?_
    refine q_iconst dX5_followersOf_13 ?_
    refine q_iand dX5_followersOf_14 ?_
    refine q_if_eq (tgt := 27) dX5_followersOf_15 (by decide) (fun z2 => ?_) (fun z2 => ?_)
    · replace E := ite_t E z2
      exact r_fewer [some (.ref p0), some (.int v1), some (.int v2), some (.int v3)] (ls_s (ls_s (ls_s (ls_s ls_0)))) (s_X5_followersOf_27 p0 v1 v2 v3 h E hK)
    · replace E := ite_f E z2
      refine q_iload_n dX5_followersOf_18 rfl ?_
      refine q_aload_n dX5_followersOf_19 rfl ?_
      replace E := grd_some E
      obtain ⟨g3, E⟩ := E
      replace E := orf_some E
      obtain ⟨a4, ea4, E⟩ := E
      refine r_getR dX5_followersOf_20 FX5_15 g3 ea4 ?_
      refine q_iload_n dX5_followersOf_23 rfl ?_
      replace E := grd_some E
      obtain ⟨g5, E⟩ := E
      replace E := grd_some E
      obtain ⟨g6, E⟩ := E
      refine r_iaload dX5_followersOf_24 g5 g6 ?_
      refine q_ior dX5_followersOf_25 ?_
      replace E := bnd_x E
      obtain ⟨x7, ex7, E⟩ := E
      refine r_istore_n dX5_followersOf_26 (by decide) ex7 (ls' := [some (.ref p0), some (.int v1), some (.int x7), some (.int v3)]) rfl ?_
      exact r_fewer [some (.ref p0), some (.int v1), some (.int x7), some (.int v3)] (ls_s (ls_s (ls_s (ls_s ls_0)))) (s_X5_followersOf_27 p0 v1 x7 v3 h E hK)
theorem s_X5_followersOf_4 {l : Launch} {G : mG} {Q : Option Value → mH → Prop} {X : String → mH → Prop} (p0 : Nat) (v1 : Int32) (v2 : Int32) (v3 : Int32) (h : mH) {o : Int32 × mH} (E : g_X5_followersOf_4 p0 v1 v2 v3 h = some o) (hK : (fiI Q) o) : mW l G m_X5_followersOf 0 0 0 4 [some (.ref p0), some (.int v1), some (.int v2), some (.int v3)] [] h Q X :=
  (lp_go (w_X5_followersOf_4 l G Q X p0 v1) (fiI Q) (b_X5_followersOf_4 p0 v1) (fun s o E hK => sb_X5_followersOf_4 p0 v1 s.1 s.2.1 (s.2.2) E hK) _ _ _ E hK : w_X5_followersOf_4 l G Q X p0 v1 (v2, v3, h))
set_option maxRecDepth 100000 in
set_option maxHeartbeats 4000000 in
theorem s_X5_followersOf_0 {l : Launch} {G : mG} {Q : Option Value → mH → Prop} {X : String → mH → Prop} (p0 : Nat) (v1 : Int32) (h : mH) {o : Int32 × mH} (E : f_X5_followersOf p0 v1 h = some o) (hK : (fiI Q) o) : mW l G m_X5_followersOf 0 0 0 0 [some (.ref p0), some (.int v1), none, none] [] h Q X := by
  unfold f_X5_followersOf at E
  refine q_iconst dX5_followersOf_0 ?_
  refine r_istore_n dX5_followersOf_1 (by decide) rfl (ls' := [some (.ref p0), some (.int v1), some (.int (Int32.ofInt 0)), none]) rfl ?_
  refine q_iconst dX5_followersOf_2 ?_
  refine r_istore_n dX5_followersOf_3 (by decide) rfl (ls' := [some (.ref p0), some (.int v1), some (.int (Int32.ofInt 0)), some (.int (Int32.ofInt 0))]) rfl ?_
  exact r_fewer [some (.ref p0), some (.int v1), some (.int (Int32.ofInt 0)), some (.int (Int32.ofInt 0))] (ls_s (ls_s (ls_s (ls_s ls_0)))) (s_X5_followersOf_4 p0 v1 (Int32.ofInt 0) (Int32.ofInt 0) h E hK)
theorem c_X5_followersOf {l : Launch} {G : mG} {p0 : Nat} {v1 : Int32} {h h' : mH} {r : Int32} (E : f_X5_followersOf p0 v1 h = some (r, h')) : mMet l G m_X5_followersOf 0 0 0 [.ref p0, .int v1] h (fun v k => v = some (.int r) ∧ h' = k) (fun _ _ => False) :=
  mMet_of (by decide +kernel) rfl (ac_c rfl (ac_c rfl ac_0)) (Nat.le_of_ble_eq_true rfl) (s_X5_followersOf_0 p0 v1 h E (And.intro rfl rfl))
set_option maxRecDepth 100000 in
set_option maxHeartbeats 4000000 in
theorem s_X5_having_19 {l : Launch} {G : mG} {Q : Option Value → mH → Prop} {X : String → mH → Prop} (s0 : Int32) (h : mH) {o : Int32 × mH} (E : g_X5_having_19 s0 h = some o) (hK : (fiI Q) o) : mW l G m_X5_having 0 0 0 19 [none, none] [.int s0] h Q X := by
  unfold g_X5_having_19 at E
  cases E
  exact q_ireturn dX5_having_19 rfl hK
set_option maxRecDepth 100000 in
set_option maxHeartbeats 4000000 in
theorem s_X5_having_9 {l : Launch} {G : mG} {Q : Option Value → mH → Prop} {X : String → mH → Prop} (h : mH) {o : Int32 × mH} (E : g_X5_having_9  h = some o) (hK : (fiI Q) o) : mW l G m_X5_having 0 0 0 9 [none, none] [] h Q X := by
  unfold g_X5_having_9 at E
  refine q_iconst dX5_having_9 ?_
  refine q_goto (tgt := 19) dX5_having_10 (by decide) ?_
  exact r_fewer [none, none] (ls_n (ls_n ls_0)) (s_X5_having_19 (Int32.ofInt 0) h E hK)
set_option maxRecDepth 100000 in
set_option maxHeartbeats 4000000 in
theorem s_X5_having_0 {l : Launch} {G : mG} {Q : Option Value → mH → Prop} {X : String → mH → Prop} (p0 : Nat) (v1 : Int32) (h : mH) {o : Int32 × mH} (E : f_X5_having p0 v1 h = some o) (hK : (fiI Q) o) : mW l G m_X5_having 0 0 0 0 [some (.ref p0), some (.int v1)] [] h Q X := by
  unfold f_X5_having at E
  refine q_iload_n dX5_having_0 rfl ?_
  refine q_if_lt (tgt := 9) dX5_having_1 (by decide) (fun z1 => ?_) (fun z1 => ?_)
  · replace E := ite_t E z1
    exact r_fewer [none, none] (ls_n (ls_n ls_0)) (s_X5_having_9 h E hK)
  · replace E := ite_f E z1
    refine q_iload_n dX5_having_4 rfl ?_
    refine q_iconst dX5_having_5 ?_
    refine q_icmp_lt (tgt := 13) dX5_having_6 (by decide) (fun z2 => ?_) (fun z2 => ?_)
    · replace E := ite_t E z2
      refine q_aload_n dX5_having_13 rfl ?_
      replace E := grd_some E
      obtain ⟨g3, E⟩ := E
      replace E := orf_some E
      obtain ⟨a4, ea4, E⟩ := E
      refine r_getR dX5_having_14 FX5_9 g3 ea4 ?_
      refine q_iload_n dX5_having_17 rfl ?_
      replace E := grd_some E
      obtain ⟨g5, E⟩ := E
      replace E := grd_some E
      obtain ⟨g6, E⟩ := E
      refine r_iaload dX5_having_18 g5 g6 ?_
      exact r_fewer [none, none] (ls_n (ls_n ls_0)) (s_X5_having_19 (gi h a4 v1.toNatClampNeg) h E hK)
    · replace E := ite_f E z2
      exact r_fewer [none, none] (ls_n (ls_n ls_0)) (s_X5_having_9 h E hK)
theorem c_X5_having {l : Launch} {G : mG} {p0 : Nat} {v1 : Int32} {h h' : mH} {r : Int32} (E : f_X5_having p0 v1 h = some (r, h')) : mMet l G m_X5_having 0 0 0 [.ref p0, .int v1] h (fun v k => v = some (.int r) ∧ h' = k) (fun _ _ => False) :=
  mMet_of (by decide +kernel) rfl (ac_c rfl (ac_c rfl ac_0)) (Nat.le_of_ble_eq_true rfl) (s_X5_having_0 p0 v1 h E (And.intro rfl rfl))
set_option maxRecDepth 100000 in
set_option maxHeartbeats 4000000 in
theorem s_X5_last_0 {l : Launch} {G : mG} {Q : Option Value → mH → Prop} {X : String → mH → Prop} (p0 : Nat) (h : mH) {o : Int32 × mH} (E : f_X5_last p0 h = some o) (hK : (fiI Q) o) : mW l G m_X5_last 0 0 0 0 [some (.ref p0)] [] h Q X := by
  unfold f_X5_last at E
  refine q_aload_n dX5_last_0 rfl ?_
  replace E := grd_some E
  obtain ⟨g1, E⟩ := E
  replace E := orf_some E
  obtain ⟨a2, ea2, E⟩ := E
  refine r_getR dX5_last_1 FX5_21 g1 ea2 ?_
  refine q_iconst dX5_last_4 ?_
  replace E := grd_some E
  obtain ⟨g3, E⟩ := E
  replace E := grd_some E
  obtain ⟨g4, E⟩ := E
  refine r_iaload dX5_last_5 g3 g4 ?_
  cases E
  exact q_ireturn dX5_last_6 rfl hK
theorem c_X5_last {l : Launch} {G : mG} {p0 : Nat} {h h' : mH} {r : Int32} (E : f_X5_last p0 h = some (r, h')) : mMet l G m_X5_last 0 0 0 [.ref p0] h (fun v k => v = some (.int r) ∧ h' = k) (fun _ _ => False) :=
  mMet_of (by decide +kernel) rfl (ac_c rfl ac_0) (Nat.le_of_ble_eq_true rfl) (s_X5_last_0 p0 h E (And.intro rfl rfl))
set_option maxRecDepth 100000 in
set_option maxHeartbeats 4000000 in
theorem s_X0_numberOf_97 {l : Launch} {G : mG} {Q : Option Value → mH → Prop} {X : String → mH → Prop} (p0 : Nat) (v3 : Int32) (h : mH) {o : Int32 × mH} (E : g_X0_numberOf_97 p0 v3 h = some o) (hK : (fiI Q) o) : mW l G m_X0_numberOf 1 0 0 97 [some (.ref p0), none, none, some (.int v3)] [] h Q X := by
  unfold g_X0_numberOf_97 at E
  refine q_aload_n dX0_numberOf_97 rfl ?_
  replace E := grd_some E
  obtain ⟨g1, E⟩ := E
  replace E := orf_some E
  obtain ⟨a2, ea2, E⟩ := E
  refine r_getR dX0_numberOf_98 FX0_22 g1 ea2 ?_
  refine q_iload_n dX0_numberOf_101 rfl ?_
  replace E := grd_some E
  obtain ⟨g3, E⟩ := E
  replace E := grd_some E
  obtain ⟨g4, E⟩ := E
  refine r_iaload dX0_numberOf_102 g3 g4 ?_
  cases E
  exact q_ireturn dX0_numberOf_103 rfl hK
set_option maxRecDepth 100000 in
set_option maxHeartbeats 4000000 in
theorem s_X0_numberOf_86 {l : Launch} {G : mG} {Q : Option Value → mH → Prop} {X : String → mH → Prop} (p0 : Nat) (v3 : Int32) (s0 : Int32) (s1 : Int32) (sp2 : Nat) (h : mH) {o : Int32 × mH} (E : g_X0_numberOf_86 p0 v3 s0 s1 sp2 h = some o) (hK : (fiI Q) o) : mW l G m_X0_numberOf 1 0 0 86 [some (.ref p0), none, none, some (.int v3)] [.int s0, .int s1, .ref sp2] h Q X := by
  unfold g_X0_numberOf_86 at E
  replace E := grd_some E
  obtain ⟨g2, E⟩ := E
  replace E := grd_some E
  obtain ⟨g3, E⟩ := E
  replace E := grd_some E
  obtain ⟨g4, E⟩ := E
  replace E := bnd_x E
  obtain ⟨h1, eh1, E⟩ := E
  refine r_zastore (hh := eh1) dX0_numberOf_86 g2 g3 g4 ?_
  refine q_aload_n dX0_numberOf_87 rfl ?_
  refine q_dup dX0_numberOf_88 ?_
  replace E := grd_some E
  obtain ⟨g5, E⟩ := E
  refine r_getI dX0_numberOf_89 FX0_41 g5 ?_
  refine q_iconst dX0_numberOf_92 ?_
  refine q_iadd dX0_numberOf_93 ?_
  replace E := bnd_x E
  obtain ⟨h6, eh6, E⟩ := E
  refine r_putI (hh := eh6) dX0_numberOf_94 FX0_41 g5 rfl rfl ?_
  exact r_fewer [some (.ref p0), none, none, some (.int v3)] (ls_s (ls_n (ls_n (ls_s ls_0)))) (s_X0_numberOf_97 p0 v3 h6 E hK)
set_option maxRecDepth 100000 in
set_option maxHeartbeats 4000000 in
theorem s_X0_numberOf_0 {l : Launch} {G : mG} {Q : Option Value → mH → Prop} {X : String → mH → Prop} (p0 : Nat) (v1 : Int32) (v2 : Int32) (h : mH) {o : Int32 × mH} (E : f_X0_numberOf p0 v1 v2 h = some o) (hK : (fiI Q) o) : mW l G m_X0_numberOf 1 0 0 0 [some (.ref p0), some (.int v1), some (.int v2), none] [] h Q X := by
  unfold f_X0_numberOf at E
  refine q_iload_n dX0_numberOf_0 rfl ?_
  refine q_bipush (v := (Int32.ofInt 127)) dX0_numberOf_1 (by decide) ?_
  refine q_iand dX0_numberOf_3 ?_
  replace E := bnd_x E
  obtain ⟨x1, ex1, E⟩ := E
  refine r_istore_n dX0_numberOf_4 (by decide) ex1 (ls' := [some (.ref p0), some (.int v1), some (.int v2), some (.int x1)]) rfl ?_
  refine q_aload_n dX0_numberOf_5 rfl ?_
  replace E := grd_some E
  obtain ⟨g2, E⟩ := E
  replace E := orf_some E
  obtain ⟨a3, ea3, E⟩ := E
  refine r_getR dX0_numberOf_6 FX0_22 g2 ea3 ?_
  refine q_iload_n dX0_numberOf_9 rfl ?_
  replace E := grd_some E
  obtain ⟨g4, E⟩ := E
  replace E := grd_some E
  obtain ⟨g5, E⟩ := E
  refine r_iaload dX0_numberOf_10 g4 g5 ?_
  refine q_if_ge (tgt := 97) dX0_numberOf_11 (by decide) (fun z6 => ?_) (fun z6 => ?_)
  · replace E := ite_t E z6
    exact r_fewer [some (.ref p0), none, none, some (.int x1)] (ls_s (ls_n (ls_n (ls_s ls_0)))) (s_X0_numberOf_97 p0 x1 h E hK)
  · replace E := ite_f E z6
    refine q_aload_n dX0_numberOf_14 rfl ?_
    refine r_getI dX0_numberOf_15 FX0_41 g2 ?_
    refine q_if_lt (tgt := 97) dX0_numberOf_18 (by decide) (fun z7 => ?_) (fun z7 => ?_)
    · replace E := ite_t E z7
      exact r_fewer [some (.ref p0), none, none, some (.int x1)] (ls_s (ls_n (ls_n (ls_s ls_0)))) (s_X0_numberOf_97 p0 x1 h E hK)
    · replace E := ite_f E z7
      refine q_aload_n dX0_numberOf_21 rfl ?_
      refine r_getI dX0_numberOf_22 FX0_41 g2 ?_
      refine q_sipush (v := (Int32.ofInt 129)) dX0_numberOf_25 (by decide) ?_
      refine q_icmp_ge (tgt := 97) dX0_numberOf_28 (by decide) (fun z8 => ?_) (fun z8 => ?_)
      · replace E := ite_t E z8
        exact r_fewer [some (.ref p0), none, none, some (.int x1)] (ls_s (ls_n (ls_n (ls_s ls_0)))) (s_X0_numberOf_97 p0 x1 h E hK)
      · replace E := ite_f E z8
        refine q_aload_n dX0_numberOf_31 rfl ?_
        refine r_getR dX0_numberOf_32 FX0_22 g2 ea3 ?_
        refine q_iload_n dX0_numberOf_35 rfl ?_
        refine q_aload_n dX0_numberOf_36 rfl ?_
        refine r_getI dX0_numberOf_37 FX0_41 g2 ?_
        replace E := bnd_x E
        obtain ⟨h10, eh10, E⟩ := E
        refine r_iastore (hh := eh10) dX0_numberOf_40 g4 g5 ?_
        refine q_aload_n dX0_numberOf_41 rfl ?_
        replace E := grd_some E
        obtain ⟨g11, E⟩ := E
        replace E := orf_some E
        obtain ⟨a12, ea12, E⟩ := E
        refine r_getR dX0_numberOf_42 FX0_18 g11 ea12 ?_
        refine q_aload_n dX0_numberOf_45 rfl ?_
        refine r_getI dX0_numberOf_46 FX0_41 g11 ?_
        refine q_iload_n dX0_numberOf_49 rfl ?_
        replace E := grd_some E
        obtain ⟨g14, E⟩ := E
        replace E := grd_some E
        obtain ⟨g15, E⟩ := E
        replace E := bnd_x E
        obtain ⟨h13, eh13, E⟩ := E
        refine r_iastore (hh := eh13) dX0_numberOf_50 g14 g15 ?_
        refine q_aload_n dX0_numberOf_51 rfl ?_
        replace E := grd_some E
        obtain ⟨g16, E⟩ := E
        replace E := orf_some E
        obtain ⟨a17, ea17, E⟩ := E
        refine r_getR dX0_numberOf_52 FX0_32 g16 ea17 ?_
        refine q_aload_n dX0_numberOf_55 rfl ?_
        refine r_getI dX0_numberOf_56 FX0_41 g16 ?_
        refine q_iload_n dX0_numberOf_59 rfl ?_
        replace E := grd_some E
        obtain ⟨g19, E⟩ := E
        replace E := grd_some E
        obtain ⟨g20, E⟩ := E
        replace E := bnd_x E
        obtain ⟨h18, eh18, E⟩ := E
        refine r_iastore (hh := eh18) dX0_numberOf_60 g19 g20 ?_
        refine q_aload_n dX0_numberOf_61 rfl ?_
        replace E := grd_some E
        obtain ⟨g21, E⟩ := E
        replace E := orf_some E
        obtain ⟨a22, ea22, E⟩ := E
        refine r_getR dX0_numberOf_62 FX0_28 g21 ea22 ?_
        refine q_aload_n dX0_numberOf_65 rfl ?_
        refine r_getI dX0_numberOf_66 FX0_41 g21 ?_
        refine q_iload_n dX0_numberOf_69 rfl ?_
        refine q_aload_n dX0_numberOf_70 rfl ?_
        replace E := orf_some E
        obtain ⟨a23, ea23, E⟩ := E
        refine r_getR dX0_numberOf_71 FX0_12 g21 ea23 ?_
        replace E := grd_some E
        obtain ⟨g26, E⟩ := E
        replace E := cal_some E
        obtain ⟨x25, h24, hc, E⟩ := E
        refine r_callV0 (mc := 0) (ms := 0) dX0_numberOf_74 KX0_115 (c_X5_last hc) g26 (by decide) (Nat.le_of_ble_eq_true rfl) (fun _ _ q => q.elim) ?_
        rintro _ _ ⟨rfl, rfl⟩
        clear hc
        refine q_iand dX0_numberOf_77 ?_
        refine q_if_eq (tgt := 85) dX0_numberOf_78 (by decide) (fun z27 => ?_) (fun z27 => ?_)
        · replace E := ite_t E z27
          refine q_iconst dX0_numberOf_85 ?_
          exact r_fewer [some (.ref p0), none, none, some (.int x1)] (ls_s (ls_n (ls_n (ls_s ls_0)))) (s_X0_numberOf_86 p0 x1 (Int32.ofInt 0) (gi h18 p0 8) a22 h24 E hK)
        · replace E := ite_f E z27
          refine q_iconst dX0_numberOf_81 ?_
          refine q_goto (tgt := 86) dX0_numberOf_82 (by decide) ?_
          exact r_fewer [some (.ref p0), none, none, some (.int x1)] (ls_s (ls_n (ls_n (ls_s ls_0)))) (s_X0_numberOf_86 p0 x1 (Int32.ofInt 1) (gi h18 p0 8) a22 h24 E hK)
theorem c_X0_numberOf {l : Launch} {G : mG} {p0 : Nat} {v1 : Int32} {v2 : Int32} {h h' : mH} {r : Int32} (E : f_X0_numberOf p0 v1 v2 h = some (r, h')) : mMet l G m_X0_numberOf 1 0 0 [.ref p0, .int v1, .int v2] h (fun v k => v = some (.int r) ∧ h' = k) (fun _ _ => False) :=
  mMet_of (by decide +kernel) rfl (ac_c rfl (ac_c rfl (ac_c rfl ac_0))) (Nat.le_of_ble_eq_true rfl) (s_X0_numberOf_0 p0 v1 v2 h E (And.intro rfl rfl))
set_option maxRecDepth 100000 in
set_option maxHeartbeats 4000000 in
theorem sb_X0_build_96 {l : Launch} {G : mG} {Q : Option Value → mH → Prop} {X : String → mH → Prop} (p0 : Nat) (v2 : Int32) (v3 : Int32) (v4 : Int32) (h : mH) {o : ((Int32 × mH) ⊕ ((Int32 × mH) ⊕ (Unit × mH)))} (E : b0_X0_build_96 p0 v2 v3 v4 h = some o) (hK : (lpK (w_X0_build_96 l G Q X p0 v2 v3) (lpK (w_X0_build_50 l G Q X p0) (fiV Q))) o) : mW l G m_X0_build 3 0 0 96 [some (.ref p0), none, some (.int v2), some (.int v3), some (.int v4), none] [] h Q X := by
  unfold b0_X0_build_96 at E
  refine q_iload dX0_build_96 rfl ?_
  refine q_iconst dX0_build_98 ?_
  refine q_icmp_ge (tgt := 140) dX0_build_99 (by decide) (fun z1 => ?_) (fun z1 => ?_)
  · replace E := ite_t E z1
    replace E := bnd_x E
    obtain ⟨x2, ex2, E⟩ := E
    refine r_iinc (v := x2) dX0_build_140 rfl ex2 (by decide) (ls' := [some (.ref p0), none, some (.int x2), some (.int v3), some (.int v4), none]) rfl ?_
    refine q_goto (tgt := 50) dX0_build_143 (by decide) ?_
    cases E
    exact r_fewer [some (.ref p0), none, some (.int x2), none, none, none] (ls_s (ls_n (ls_s (ls_n (ls_n (ls_n ls_0)))))) hK
  · replace E := ite_f E z1
    refine q_iload_n dX0_build_102 rfl ?_
    refine q_iconst dX0_build_103 ?_
    refine q_imul dX0_build_104 ?_
    refine q_iload dX0_build_105 rfl ?_
    refine q_iadd dX0_build_107 ?_
    replace E := bnd_x E
    obtain ⟨x3, ex3, E⟩ := E
    refine r_istore dX0_build_108 (by decide) ex3 (ls' := [some (.ref p0), none, some (.int v2), some (.int v3), some (.int v4), some (.int x3)]) rfl ?_
    refine q_aload_n dX0_build_110 rfl ?_
    replace E := grd_some E
    obtain ⟨g4, E⟩ := E
    replace E := orf_some E
    obtain ⟨a5, ea5, E⟩ := E
    refine r_getR dX0_build_111 FX0_25 g4 ea5 ?_
    refine q_iload dX0_build_114 rfl ?_
    refine q_aload_n dX0_build_116 rfl ?_
    refine q_iload_n dX0_build_117 rfl ?_
    refine q_aload_n dX0_build_118 rfl ?_
    replace E := orf_some E
    obtain ⟨a6, ea6, E⟩ := E
    refine r_getR dX0_build_119 FX0_12 g4 ea6 ?_
    refine q_iload dX0_build_122 rfl ?_
    replace E := grd_some E
    obtain ⟨g9, E⟩ := E
    replace E := cal_some E
    obtain ⟨x8, h7, hc, E⟩ := E
    refine r_callV1 (mc := 0) (ms := 0) dX0_build_124 KX0_67 (c_X5_having hc) g9 (by decide) (Nat.le_of_ble_eq_true rfl) (fun _ _ q => q.elim) ?_
    rintro _ _ ⟨rfl, rfl⟩
    clear hc
    refine q_iand dX0_build_127 ?_
    refine q_iload dX0_build_128 rfl ?_
    replace E := grd_some E
    obtain ⟨g12, E⟩ := E
    replace E := cal_some E
    obtain ⟨x11, h10, hc, E⟩ := E
    refine r_callV2 (mc := 0) (ms := 0) dX0_build_130 KX0_70 (c_X0_numberOf hc) g12 (by decide) (Nat.le_of_ble_eq_true rfl) (fun _ _ q => q.elim) ?_
    rintro _ _ ⟨rfl, rfl⟩
    clear hc
    replace E := grd_some E
    obtain ⟨g14, E⟩ := E
    replace E := grd_some E
    obtain ⟨g15, E⟩ := E
    replace E := bnd_x E
    obtain ⟨h13, eh13, E⟩ := E
    refine r_iastore (hh := eh13) dX0_build_133 g14 g15 ?_
    replace E := bnd_x E
    obtain ⟨x16, ex16, E⟩ := E
    refine r_iinc (v := x16) dX0_build_134 rfl ex16 (by decide) (ls' := [some (.ref p0), none, some (.int v2), some (.int v3), some (.int x16), some (.int x3)]) rfl ?_
    refine q_goto (tgt := 96) dX0_build_137 (by decide) ?_
    cases E
    exact r_fewer [some (.ref p0), none, some (.int v2), some (.int v3), some (.int x16), none] (ls_s (ls_n (ls_s (ls_s (ls_s (ls_n ls_0)))))) hK
theorem s_X0_build_96 {l : Launch} {G : mG} {Q : Option Value → mH → Prop} {X : String → mH → Prop} (p0 : Nat) (v2 : Int32) (v3 : Int32) (v4 : Int32) (h : mH) {o : ((Int32 × mH) ⊕ (Unit × mH))} (E : g_X0_build_96 p0 v2 v3 v4 h = some o) (hK : (lpK (w_X0_build_50 l G Q X p0) (fiV Q)) o) : mW l G m_X0_build 3 0 0 96 [some (.ref p0), none, some (.int v2), some (.int v3), some (.int v4), none] [] h Q X :=
  (lp_go (w_X0_build_96 l G Q X p0 v2 v3) (lpK (w_X0_build_50 l G Q X p0) (fiV Q)) (b_X0_build_96 p0 v2 v3) (fun s o E hK => sb_X0_build_96 p0 v2 v3 s.1 (s.2) E hK) _ _ _ E hK : w_X0_build_96 l G Q X p0 v2 v3 (v4, h))
set_option maxRecDepth 100000 in
set_option maxHeartbeats 4000000 in
theorem s_X0_build_92 {l : Launch} {G : mG} {Q : Option Value → mH → Prop} {X : String → mH → Prop} (p0 : Nat) (v2 : Int32) (s0 : Int32) (h : mH) {o : ((Int32 × mH) ⊕ (Unit × mH))} (E : g_X0_build_92 p0 v2 s0 h = some o) (hK : (lpK (w_X0_build_50 l G Q X p0) (fiV Q)) o) : mW l G m_X0_build 3 0 0 92 [some (.ref p0), none, some (.int v2), none, none, none] [.int s0] h Q X := by
  unfold g_X0_build_92 at E
  refine r_istore_n dX0_build_92 (by decide) rfl (ls' := [some (.ref p0), none, some (.int v2), some (.int s0), none, none]) rfl ?_
  refine q_iconst dX0_build_93 ?_
  refine r_istore dX0_build_94 (by decide) rfl (ls' := [some (.ref p0), none, some (.int v2), some (.int s0), some (.int (Int32.ofInt 0)), none]) rfl ?_
  exact r_fewer [some (.ref p0), none, some (.int v2), some (.int s0), some (.int (Int32.ofInt 0)), none] (ls_s (ls_n (ls_s (ls_s (ls_s (ls_n ls_0)))))) (s_X0_build_96 p0 v2 s0 (Int32.ofInt 0) h E hK)
set_option maxRecDepth 100000 in
set_option maxHeartbeats 4000000 in
theorem s_X0_build_146 {l : Launch} {G : mG} {Q : Option Value → mH → Prop} {X : String → mH → Prop} (h : mH) {o : Unit × mH} (E : g_X0_build_146  h = some o) (hK : (fiV Q) o) : mW l G m_X0_build 3 0 0 146 [none, none, none, none, none, none] [] h Q X := by
  unfold g_X0_build_146 at E
  cases E
  exact q_return dX0_build_146 rfl hK
set_option maxRecDepth 100000 in
set_option maxHeartbeats 4000000 in
theorem sb_X0_build_50 {l : Launch} {G : mG} {Q : Option Value → mH → Prop} {X : String → mH → Prop} (p0 : Nat) (v2 : Int32) (h : mH) {o : ((Int32 × mH) ⊕ (Unit × mH))} (E : b0_X0_build_50 p0 v2 h = some o) (hK : (lpK (w_X0_build_50 l G Q X p0) (fiV Q)) o) : mW l G m_X0_build 3 0 0 50 [some (.ref p0), none, some (.int v2), none, none, none] [] h Q X := by
  unfold b0_X0_build_50 at E
  refine q_iload_n dX0_build_50 rfl ?_
  refine q_aload_n dX0_build_51 rfl ?_
  replace E := grd_some E
  obtain ⟨g1, E⟩ := E
  refine r_getI dX0_build_52 FX0_41 g1 ?_
  refine q_icmp_ge (tgt := 146) dX0_build_55 (by decide) (fun z2 => ?_) (fun z2 => ?_)
  · replace E := ite_t E z2
    obtain ⟨o0, E0, rfl⟩ := inrO_some E
    exact r_fewer [none, none, none, none, none, none] (ls_n (ls_n (ls_n (ls_n (ls_n (ls_n ls_0)))))) (s_X0_build_146 h E0 hK)
  · replace E := ite_f E z2
    refine q_iload_n dX0_build_58 rfl ?_
    refine q_sipush (v := (Int32.ofInt 129)) dX0_build_59 (by decide) ?_
    refine q_icmp_ge (tgt := 146) dX0_build_62 (by decide) (fun z3 => ?_) (fun z3 => ?_)
    · replace E := ite_t E z3
      obtain ⟨o0, E0, rfl⟩ := inrO_some E
      exact r_fewer [none, none, none, none, none, none] (ls_n (ls_n (ls_n (ls_n (ls_n (ls_n ls_0)))))) (s_X0_build_146 h E0 hK)
    · replace E := ite_f E z3
      refine q_iload_n dX0_build_65 rfl ?_
      refine q_if_ne (tgt := 79) dX0_build_66 (by decide) (fun z4 => ?_) (fun z4 => ?_)
      · replace E := ite_f E z4
        refine q_aload_n dX0_build_79 rfl ?_
        replace E := orf_some E
        obtain ⟨a5, ea5, E⟩ := E
        refine r_getR dX0_build_80 FX0_12 g1 ea5 ?_
        refine q_aload_n dX0_build_83 rfl ?_
        replace E := orf_some E
        obtain ⟨a6, ea6, E⟩ := E
        refine r_getR dX0_build_84 FX0_18 g1 ea6 ?_
        refine q_iload_n dX0_build_87 rfl ?_
        replace E := grd_some E
        obtain ⟨g7, E⟩ := E
        replace E := grd_some E
        obtain ⟨g8, E⟩ := E
        refine r_iaload dX0_build_88 g7 g8 ?_
        replace E := grd_some E
        obtain ⟨g11, E⟩ := E
        replace E := cal_some E
        obtain ⟨x10, h9, hc, E⟩ := E
        refine r_callV1 (mc := 0) (ms := 0) dX0_build_89 KX0_63 (c_X5_followersOf hc) g11 (by decide) (Nat.le_of_ble_eq_true rfl) (fun _ _ q => q.elim) ?_
        rintro _ _ ⟨rfl, rfl⟩
        clear hc
        exact r_fewer [some (.ref p0), none, some (.int v2), none, none, none] (ls_s (ls_n (ls_s (ls_n (ls_n (ls_n ls_0)))))) (s_X0_build_92 p0 v2 x10 h9 E hK)
      · replace E := ite_t E z4
        refine q_aload_n dX0_build_69 rfl ?_
        replace E := orf_some E
        obtain ⟨a12, ea12, E⟩ := E
        refine r_getR dX0_build_70 FX0_12 g1 ea12 ?_
        replace E := grd_some E
        obtain ⟨g15, E⟩ := E
        replace E := cal_some E
        obtain ⟨x14, h13, hc, E⟩ := E
        refine r_callV0 (mc := 0) (ms := 0) dX0_build_73 KX0_59 (c_X5_first hc) g15 (by decide) (Nat.le_of_ble_eq_true rfl) (fun _ _ q => q.elim) ?_
        rintro _ _ ⟨rfl, rfl⟩
        clear hc
        refine q_goto (tgt := 92) dX0_build_76 (by decide) ?_
        exact r_fewer [some (.ref p0), none, some (.int v2), none, none, none] (ls_s (ls_n (ls_s (ls_n (ls_n (ls_n ls_0)))))) (s_X0_build_92 p0 v2 x14 h13 E hK)
theorem s_X0_build_50 {l : Launch} {G : mG} {Q : Option Value → mH → Prop} {X : String → mH → Prop} (p0 : Nat) (v2 : Int32) (h : mH) {o : Unit × mH} (E : g_X0_build_50 p0 v2 h = some o) (hK : (fiV Q) o) : mW l G m_X0_build 3 0 0 50 [some (.ref p0), none, some (.int v2), none, none, none] [] h Q X :=
  (lp_go (w_X0_build_50 l G Q X p0) (fiV Q) (b_X0_build_50 p0) (fun s o E hK => sb_X0_build_50 p0 s.1 (s.2) E hK) _ _ _ E hK : w_X0_build_50 l G Q X p0 (v2, h))
set_option maxRecDepth 100000 in
set_option maxHeartbeats 4000000 in
theorem s_X0_build_0 {l : Launch} {G : mG} {Q : Option Value → mH → Prop} {X : String → mH → Prop} (p0 : Nat) (p1 : Nat) (h : mH) {o : Unit × mH} (E : f_X0_build p0 p1 h = some o) (hK : (fiV Q) o) : mW l G m_X0_build 3 0 0 0 [some (.ref p0), some (.ref p1), none, none, none, none] [] h Q X := by
  unfold f_X0_build at E
  refine q_aload_n dX0_build_0 rfl ?_
  replace E := grd_some E
  obtain ⟨g1, E⟩ := E
  replace E := orf_some E
  obtain ⟨a2, ea2, E⟩ := E
  refine r_getR dX0_build_1 FX0_12 g1 ea2 ?_
  refine q_aload_n dX0_build_4 rfl ?_
  replace E := grd_some E
  obtain ⟨g5, E⟩ := E
  replace E := cal_some E
  obtain ⟨_, h3, hc, E⟩ := E
  refine r_callV1 (mc := 0) (ms := 0) dX0_build_5 KX0_45 (c_X5_number hc) g5 (by decide) (Nat.le_of_ble_eq_true rfl) (fun _ _ q => q.elim) ?_
  rintro _ _ ⟨rfl, rfl⟩
  clear hc
  refine q_aload_n dX0_build_8 rfl ?_
  replace E := grd_some E
  obtain ⟨g6, E⟩ := E
  replace E := orf_some E
  obtain ⟨a7, ea7, E⟩ := E
  refine r_getR dX0_build_9 FX0_22 g6 ea7 ?_
  refine q_iconst dX0_build_12 ?_
  replace E := cal_some E
  obtain ⟨_, h8, hc, E⟩ := E
  refine r_callS2 (mc := 0) (ms := 0) dX0_build_13 KX0_49 (c_J7_fill_53178 hc) (by decide) (Nat.le_of_ble_eq_true rfl) (fun _ _ q => q.elim) ?_
  rintro _ _ ⟨rfl, rfl⟩
  clear hc
  refine q_aload_n dX0_build_16 rfl ?_
  refine q_iconst dX0_build_17 ?_
  replace E := grd_some E
  obtain ⟨g10, E⟩ := E
  replace E := bnd_x E
  obtain ⟨h11, eh11, E⟩ := E
  refine r_putI (hh := eh11) dX0_build_18 FX0_41 g10 rfl rfl ?_
  refine q_aload_n dX0_build_21 rfl ?_
  replace E := grd_some E
  obtain ⟨g12, E⟩ := E
  replace E := orf_some E
  obtain ⟨a13, ea13, E⟩ := E
  refine r_getR dX0_build_22 FX0_18 g12 ea13 ?_
  refine q_iconst dX0_build_25 ?_
  refine q_iconst dX0_build_26 ?_
  replace E := grd_some E
  obtain ⟨g15, E⟩ := E
  replace E := grd_some E
  obtain ⟨g16, E⟩ := E
  replace E := bnd_x E
  obtain ⟨h14, eh14, E⟩ := E
  refine r_iastore (hh := eh14) dX0_build_27 g15 g16 ?_
  refine q_aload_n dX0_build_28 rfl ?_
  replace E := grd_some E
  obtain ⟨g17, E⟩ := E
  replace E := orf_some E
  obtain ⟨a18, ea18, E⟩ := E
  refine r_getR dX0_build_29 FX0_32 g17 ea18 ?_
  refine q_iconst dX0_build_32 ?_
  refine q_iconst dX0_build_33 ?_
  replace E := grd_some E
  obtain ⟨g20, E⟩ := E
  replace E := grd_some E
  obtain ⟨g21, E⟩ := E
  replace E := bnd_x E
  obtain ⟨h19, eh19, E⟩ := E
  refine r_iastore (hh := eh19) dX0_build_34 g20 g21 ?_
  refine q_aload_n dX0_build_35 rfl ?_
  replace E := grd_some E
  obtain ⟨g22, E⟩ := E
  replace E := orf_some E
  obtain ⟨a23, ea23, E⟩ := E
  refine r_getR dX0_build_36 FX0_28 g22 ea23 ?_
  refine q_iconst dX0_build_39 ?_
  refine q_aload_n dX0_build_40 rfl ?_
  replace E := orf_some E
  obtain ⟨a24, ea24, E⟩ := E
  refine r_getR dX0_build_41 FX0_12 g22 ea24 ?_
  replace E := grd_some E
  obtain ⟨g27, E⟩ := E
  replace E := cal_some E
  obtain ⟨x26, h25, hc, E⟩ := E
  refine r_callV0 (mc := 0) (ms := 0) dX0_build_44 KX0_55 (c_X5_acceptNothing hc) g27 (by decide) (Nat.le_of_ble_eq_true rfl) (fun _ _ q => q.elim) ?_
  rintro _ _ ⟨rfl, rfl⟩
  clear hc
  replace E := grd_some E
  obtain ⟨g29, E⟩ := E
  replace E := grd_some E
  obtain ⟨g30, E⟩ := E
  replace E := grd_some E
  obtain ⟨g31, E⟩ := E
  replace E := bnd_x E
  obtain ⟨h28, eh28, E⟩ := E
  refine r_zastore (hh := eh28) dX0_build_47 g29 g30 g31 ?_
  refine q_iconst dX0_build_48 ?_
  refine r_istore_n dX0_build_49 (by decide) rfl (ls' := [some (.ref p0), some (.ref p1), some (.int (Int32.ofInt 0)), none, none, none]) rfl ?_
  exact r_fewer [some (.ref p0), none, some (.int (Int32.ofInt 0)), none, none, none] (ls_s (ls_n (ls_s (ls_n (ls_n (ls_n ls_0)))))) (s_X0_build_50 p0 (Int32.ofInt 0) h28 E hK)
theorem c_X0_build {l : Launch} {G : mG} {p0 : Nat} {p1 : Nat} {h h' : mH} {r : Unit} (E : f_X0_build p0 p1 h = some (r, h')) : mMet l G m_X0_build 3 0 0 [.ref p0, .ref p1] h (fun v k => v = none ∧ h' = k) (fun _ _ => False) :=
  mMet_of (by decide +kernel) rfl (ac_c rfl (ac_c rfl ac_0)) (Nat.le_of_ble_eq_true rfl) (s_X0_build_0 p0 p1 h E (And.intro rfl rfl))
