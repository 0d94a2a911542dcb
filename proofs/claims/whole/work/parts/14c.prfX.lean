set_option maxRecDepth 100000 in
set_option maxHeartbeats 4000000 in
theorem s_X1_keepPrepared_0 {l : Launch} {G : mG} {Q : Option Value → mH → Prop} {X : String → mH → Prop} (p0 : Nat) (h : mH) {o : Unit × mH} (E : f_X1_keepPrepared p0 h = some o) (hK : (fiV Q) o) : mW l G m_X1_keepPrepared 0 0 0 0 [some (.ref p0)] [] h Q X := by
  unfold f_X1_keepPrepared at E
  refine q_aload_n dX1_keepPrepared_0 rfl ?_
  refine q_aload_n dX1_keepPrepared_1 rfl ?_
  replace E := grd_some E
  obtain ⟨g1, E⟩ := E
  refine r_getI dX1_keepPrepared_2 FX1_17 g1 ?_
  refine q_iconst dX1_keepPrepared_5 ?_
  refine q_iadd dX1_keepPrepared_6 ?_
  refine q_bipush (v := (Int32.ofInt 9)) dX1_keepPrepared_7 (by decide) ?_
  refine q_irem (by decide) dX1_keepPrepared_9 ?_
  replace E := bnd_x E
  obtain ⟨h2, eh2, E⟩ := E
  refine r_putI (hh := eh2) dX1_keepPrepared_10 FX1_17 g1 rfl rfl ?_
  refine q_aload_n dX1_keepPrepared_13 rfl ?_
  refine q_aload_n dX1_keepPrepared_14 rfl ?_
  replace E := grd_some E
  obtain ⟨g3, E⟩ := E
  refine r_getI dX1_keepPrepared_15 FX1_21 g3 ?_
  refine q_iconst dX1_keepPrepared_18 ?_
  refine q_iadd dX1_keepPrepared_19 ?_
  refine q_bipush (v := (Int32.ofInt 8)) dX1_keepPrepared_20 (by decide) ?_
  refine q_mmin dX1_keepPrepared_22 XX1_33 (Nat.le_of_ble_eq_true rfl) ?_
  replace E := bnd_x E
  obtain ⟨h4, eh4, E⟩ := E
  refine r_putI (hh := eh4) dX1_keepPrepared_25 FX1_21 g3 rfl rfl ?_
  cases E
  exact q_return dX1_keepPrepared_28 rfl hK
theorem c_X1_keepPrepared {l : Launch} {G : mG} {p0 : Nat} {h h' : mH} {r : Unit} (E : f_X1_keepPrepared p0 h = some (r, h')) : mMet l G m_X1_keepPrepared 0 0 0 [.ref p0] h (fun v k => v = none ∧ h' = k) (fun _ _ => False) :=
  mMet_of (by decide +kernel) rfl (ac_c rfl ac_0) (Nat.le_of_ble_eq_true rfl) (s_X1_keepPrepared_0 p0 h E (And.intro rfl rfl))
set_option maxRecDepth 100000 in
set_option maxHeartbeats 4000000 in
theorem s_X1_takePrepared_14 {l : Launch} {G : mG} {Q : Option Value → mH → Prop} {X : String → mH → Prop} (h : mH) {o : Unit × mH} (E : g_X1_takePrepared_14  h = some o) (hK : (fiV Q) o) : mW l G m_X1_takePrepared 1 0 0 14 [none, none, none] [] h Q X := by
  unfold g_X1_takePrepared_14 at E
  cases E
  exact q_return dX1_takePrepared_14 rfl hK
set_option maxRecDepth 100000 in
set_option maxHeartbeats 4000000 in
theorem s_X1_takePrepared_0 {l : Launch} {G : mG} {Q : Option Value → mH → Prop} {X : String → mH → Prop} (p0 : Nat) (p1 : Nat) (h : mH) {o : Unit × mH} (E : f_X1_takePrepared p0 p1 h = some o) (hK : (fiV Q) o) : mW l G m_X1_takePrepared 1 0 0 0 [some (.ref p0), some (.ref p1), none] [] h Q X := by
  unfold f_X1_takePrepared at E
  refine q_aload_n dX1_takePrepared_0 rfl ?_
  replace E := grd_some E
  obtain ⟨g3, E⟩ := E
  replace E := cal_some E
  obtain ⟨o2, h1, hc, E⟩ := E
  refine r_callV0 (mc := 0) (ms := 0) dX1_takePrepared_1 KX1_25 (c_X1_preparedShelf hc) g3 (by decide) (Nat.le_of_ble_eq_true rfl) (fun _ _ q => q.elim) ?_
  rintro _ _ ⟨rfl, rfl⟩
  clear hc
  refine r_astore_nO dX1_takePrepared_4 (by decide) (ls' := [some (.ref p0), some (.ref p1), some (va_rf o2)]) rfl ?_
  refine r_aload_nO dX1_takePrepared_5 rfl ?_
  replace E := oif_some E
  rcases E with ⟨rfl, E⟩ | ⟨a4, rfl, E⟩
  · refine q_ifnullN (tgt := 14) dX1_takePrepared_6 (by decide) ?_
    exact r_fewer [none, none, none] (ls_n (ls_n (ls_n ls_0))) (s_X1_takePrepared_14 h1 E hK)
  · refine q_ifnull dX1_takePrepared_6 ?_
    refine q_aload_n dX1_takePrepared_9 rfl ?_
    refine q_aload_n dX1_takePrepared_10 rfl ?_
    replace E := grd_some E
    obtain ⟨g7, E⟩ := E
    replace E := cal_some E
    obtain ⟨_, h5, hc, E⟩ := E
    refine r_callV1 (mc := 0) (ms := 0) dX1_takePrepared_11 KX1_29 (c_X6_copyFrom hc) g7 (by decide) (Nat.le_of_ble_eq_true rfl) (fun _ _ q => q.elim) ?_
    rintro _ _ ⟨rfl, rfl⟩
    clear hc
    exact r_fewer [none, none, none] (ls_n (ls_n (ls_n ls_0))) (s_X1_takePrepared_14 h5 E hK)
theorem c_X1_takePrepared {l : Launch} {G : mG} {p0 : Nat} {p1 : Nat} {h h' : mH} {r : Unit} (E : f_X1_takePrepared p0 p1 h = some (r, h')) : mMet l G m_X1_takePrepared 1 0 0 [.ref p0, .ref p1] h (fun v k => v = none ∧ h' = k) (fun _ _ => False) :=
  mMet_of (by decide +kernel) rfl (ac_c rfl (ac_c rfl ac_0)) (Nat.le_of_ble_eq_true rfl) (s_X1_takePrepared_0 p0 p1 h E (And.intro rfl rfl))
set_option maxRecDepth 100000 in
set_option maxHeartbeats 4000000 in
theorem s_X1_takeLatest_0 {l : Launch} {G : mG} {Q : Option Value → mH → Prop} {X : String → mH → Prop} (p0 : Nat) (p1 : Nat) (h : mH) {o : Unit × mH} (E : f_X1_takeLatest p0 p1 h = some o) (hK : (fiV Q) o) : mW l G m_X1_takeLatest 2 0 0 0 [some (.ref p0), some (.ref p1)] [] h Q X := by
  unfold f_X1_takeLatest at E
  refine q_aload_n dX1_takeLatest_0 rfl ?_
  refine q_aload_n dX1_takeLatest_1 rfl ?_
  replace E := grd_some E
  obtain ⟨g1, E⟩ := E
  refine r_getI dX1_takeLatest_2 FX1_17 g1 ?_
  refine q_bipush (v := (Int32.ofInt 9)) dX1_takeLatest_5 (by decide) ?_
  refine q_iadd dX1_takeLatest_7 ?_
  refine q_iconst dX1_takeLatest_8 ?_
  refine q_isub dX1_takeLatest_9 ?_
  refine q_bipush (v := (Int32.ofInt 9)) dX1_takeLatest_10 (by decide) ?_
  refine q_irem (by decide) dX1_takeLatest_12 ?_
  replace E := bnd_x E
  obtain ⟨h2, eh2, E⟩ := E
  refine r_putI (hh := eh2) dX1_takeLatest_13 FX1_17 g1 rfl rfl ?_
  refine q_aload_n dX1_takeLatest_16 rfl ?_
  refine q_aload_n dX1_takeLatest_17 rfl ?_
  replace E := grd_some E
  obtain ⟨g3, E⟩ := E
  refine r_getI dX1_takeLatest_18 FX1_21 g3 ?_
  refine q_iconst dX1_takeLatest_21 ?_
  refine q_isub dX1_takeLatest_22 ?_
  refine q_iconst dX1_takeLatest_23 ?_
  refine q_mmax dX1_takeLatest_24 XX1_39 (Nat.le_of_ble_eq_true rfl) ?_
  replace E := bnd_x E
  obtain ⟨h4, eh4, E⟩ := E
  refine r_putI (hh := eh4) dX1_takeLatest_27 FX1_21 g3 rfl rfl ?_
  refine q_aload_n dX1_takeLatest_30 rfl ?_
  refine q_aload_n dX1_takeLatest_31 rfl ?_
  replace E := grd_some E
  obtain ⟨g7, E⟩ := E
  replace E := cal_some E
  obtain ⟨_, h5, hc, E⟩ := E
  refine r_callV1 (mc := 0) (ms := 0) dX1_takeLatest_32 KX1_42 (c_X1_takePrepared hc) g7 (by decide) (Nat.le_of_ble_eq_true rfl) (fun _ _ q => q.elim) ?_
  rintro _ _ ⟨rfl, rfl⟩
  clear hc
  cases E
  exact q_return dX1_takeLatest_35 rfl hK
theorem c_X1_takeLatest {l : Launch} {G : mG} {p0 : Nat} {p1 : Nat} {h h' : mH} {r : Unit} (E : f_X1_takeLatest p0 p1 h = some (r, h')) : mMet l G m_X1_takeLatest 2 0 0 [.ref p0, .ref p1] h (fun v k => v = none ∧ h' = k) (fun _ _ => False) :=
  mMet_of (by decide +kernel) rfl (ac_c rfl (ac_c rfl ac_0)) (Nat.le_of_ble_eq_true rfl) (s_X1_takeLatest_0 p0 p1 h E (And.intro rfl rfl))
set_option maxRecDepth 100000 in
set_option maxHeartbeats 4000000 in
theorem s_X1_forget_0 {l : Launch} {G : mG} {Q : Option Value → mH → Prop} {X : String → mH → Prop} (p0 : Nat) (h : mH) {o : Unit × mH} (E : f_X1_forget p0 h = some o) (hK : (fiV Q) o) : mW l G m_X1_forget 0 0 0 0 [some (.ref p0)] [] h Q X := by
  unfold f_X1_forget at E
  refine q_aload_n dX1_forget_0 rfl ?_
  refine q_iconst dX1_forget_1 ?_
  replace E := grd_some E
  obtain ⟨g1, E⟩ := E
  replace E := bnd_x E
  obtain ⟨h2, eh2, E⟩ := E
  refine r_putI (hh := eh2) dX1_forget_2 FX1_21 g1 rfl rfl ?_
  cases E
  exact q_return dX1_forget_5 rfl hK
theorem c_X1_forget {l : Launch} {G : mG} {p0 : Nat} {h h' : mH} {r : Unit} (E : f_X1_forget p0 h = some (r, h')) : mMet l G m_X1_forget 0 0 0 [.ref p0] h (fun v k => v = none ∧ h' = k) (fun _ _ => False) :=
  mMet_of (by decide +kernel) rfl (ac_c rfl ac_0) (Nat.le_of_ble_eq_true rfl) (s_X1_forget_0 p0 h E (And.intro rfl rfl))
set_option maxRecDepth 100000 in
set_option maxHeartbeats 4000000 in
theorem s_X2_init_0 {l : Launch} {G : mG} {Q : Option Value → mH → Prop} {X : String → mH → Prop} (p0 : Nat) (h : mH) {o : Unit × mH} (E : f_X2_init p0 h = some o) (hK : (fiV Q) o) : mW l G m_X2_init 0 2 240 0 [some (.ref p0)] [] h Q X := by
  unfold f_X2_init at E
  refine q_aload_n dX2_init_0 rfl ?_
  refine q_objInit dX2_init_1 OX2_3 objW1 objW2 (Nat.le_of_ble_eq_true rfl) ?_
  refine q_aload_n dX2_init_4 rfl ?_
  refine q_bipush (v := (Int32.ofInt 120)) dX2_init_5 (by decide) ?_
  replace E := grd_some E
  obtain ⟨g1, E⟩ := E
  replace E := bnd_x E
  obtain ⟨a2, ea2, E⟩ := E
  replace E := bnd_x E
  obtain ⟨h3, eh3, E⟩ := E
  refine r_newarray (n := 120) (t0 := 2) (hq := ea2) (hh := eh3) dX2_init_7 W_char rfl rfl (by decide) g1 (by decide) ?_
  replace E := grd_some E
  obtain ⟨g4, E⟩ := E
  replace E := bnd_x E
  obtain ⟨h5, eh5, E⟩ := E
  refine r_putR (hh := eh5) dX2_init_9 FX2_9 g4 (hf := Or.inr ⟨rfl, fun _ _ _ q => (Prod.mk.inj (Option.some.inj q)).1.symm⟩) ?_
  refine q_aload_n dX2_init_12 rfl ?_
  refine q_bipush (v := (Int32.ofInt 120)) dX2_init_13 (by decide) ?_
  replace E := bnd_x E
  obtain ⟨a6, ea6, E⟩ := E
  replace E := bnd_x E
  obtain ⟨h7, eh7, E⟩ := E
  refine r_newarray (n := 120) (t0 := 2) (hq := ea6) (hh := eh7) dX2_init_15 W_char rfl rfl (by decide) g1 (by decide) ?_
  replace E := grd_some E
  obtain ⟨g8, E⟩ := E
  replace E := bnd_x E
  obtain ⟨h9, eh9, E⟩ := E
  refine r_putR (hh := eh9) dX2_init_17 FX2_15 g8 (hf := Or.inr ⟨rfl, fun _ _ _ q => (Prod.mk.inj (Option.some.inj q)).1.symm⟩) ?_
  refine q_aload_n dX2_init_20 rfl ?_
  refine q_iconst dX2_init_21 ?_
  replace E := grd_some E
  obtain ⟨g10, E⟩ := E
  replace E := bnd_x E
  obtain ⟨h11, eh11, E⟩ := E
  refine r_putI (hh := eh11) dX2_init_22 FX2_18 g10 rfl rfl ?_
  refine q_aload_n dX2_init_25 rfl ?_
  refine q_iconst dX2_init_26 ?_
  replace E := grd_some E
  obtain ⟨g12, E⟩ := E
  replace E := bnd_x E
  obtain ⟨h13, eh13, E⟩ := E
  refine r_putI (hh := eh13) dX2_init_27 FX2_22 g12 rfl rfl ?_
  cases E
  exact q_return dX2_init_30 rfl hK
theorem c_X2_init {l : Launch} {G : mG} {p0 : Nat} {h h' : mH} {r : Unit} (E : f_X2_init p0 h = some (r, h')) : mMet l G m_X2_init 0 2 240 [.ref p0] h (fun v k => v = none ∧ h' = k) (fun _ _ => False) :=
  mMet_of (by decide +kernel) rfl (ac_c rfl ac_0) (Nat.le_of_ble_eq_true rfl) (s_X2_init_0 p0 h E (And.intro rfl rfl))
set_option maxRecDepth 100000 in
set_option maxHeartbeats 4000000 in
theorem s_X9_start_0 {l : Launch} {G : mG} {Q : Option Value → mH → Prop} {X : String → mH → Prop} (p0 : Nat) (h : mH) {o : Int32 × mH} (E : f_X9_start p0 h = some o) (hK : (fiI Q) o) : mW l G m_X9_start 0 0 0 0 [some (.ref p0)] [] h Q X := by
  unfold f_X9_start at E
  refine q_aload_n dX9_start_0 rfl ?_
  replace E := grd_some E
  obtain ⟨g1, E⟩ := E
  refine r_getI dX9_start_1 FX9_29 g1 ?_
  cases E
  exact q_ireturn dX9_start_4 rfl hK
theorem c_X9_start {l : Launch} {G : mG} {p0 : Nat} {h h' : mH} {r : Int32} (E : f_X9_start p0 h = some (r, h')) : mMet l G m_X9_start 0 0 0 [.ref p0] h (fun v k => v = some (.int r) ∧ h' = k) (fun _ _ => False) :=
  mMet_of (by decide +kernel) rfl (ac_c rfl ac_0) (Nat.le_of_ble_eq_true rfl) (s_X9_start_0 p0 h E (And.intro rfl rfl))
set_option maxRecDepth 100000 in
set_option maxHeartbeats 4000000 in
theorem s_X9_end_0 {l : Launch} {G : mG} {Q : Option Value → mH → Prop} {X : String → mH → Prop} (p0 : Nat) (h : mH) {o : Int32 × mH} (E : f_X9_end p0 h = some o) (hK : (fiI Q) o) : mW l G m_X9_end 0 0 0 0 [some (.ref p0)] [] h Q X := by
  unfold f_X9_end at E
  refine q_aload_n dX9_end_0 rfl ?_
  replace E := grd_some E
  obtain ⟨g1, E⟩ := E
  refine r_getI dX9_end_1 FX9_32 g1 ?_
  cases E
  exact q_ireturn dX9_end_4 rfl hK
theorem c_X9_end {l : Launch} {G : mG} {p0 : Nat} {h h' : mH} {r : Int32} (E : f_X9_end p0 h = some (r, h')) : mMet l G m_X9_end 0 0 0 [.ref p0] h (fun v k => v = some (.int r) ∧ h' = k) (fun _ _ => False) :=
  mMet_of (by decide +kernel) rfl (ac_c rfl ac_0) (Nat.le_of_ble_eq_true rfl) (s_X9_end_0 p0 h E (And.intro rfl rfl))
set_option maxRecDepth 100000 in
set_option maxHeartbeats 4000000 in
theorem s_X9_character_28 {l : Launch} {G : mG} {Q : Option Value → mH → Prop} {X : String → mH → Prop} (s0 : Int32) (h : mH) {o : Int32 × mH} (E : g_X9_character_28 s0 h = some o) (hK : (fiI Q) o) : mW l G m_X9_character 0 0 0 28 [none, none] [.int s0] h Q X := by
  unfold g_X9_character_28 at E
  replace E := grd_some E
  obtain ⟨g1, E⟩ := E
  cases E
  exact q_zreturn dX9_character_28 rfl (narC g1) hK
set_option maxRecDepth 100000 in
set_option maxHeartbeats 4000000 in
theorem s_X9_character_18 {l : Launch} {G : mG} {Q : Option Value → mH → Prop} {X : String → mH → Prop} (h : mH) {o : Int32 × mH} (E : g_X9_character_18  h = some o) (hK : (fiI Q) o) : mW l G m_X9_character 0 0 0 18 [none, none] [] h Q X := by
  unfold g_X9_character_18 at E
  refine q_iconst dX9_character_18 ?_
  refine q_goto (tgt := 28) dX9_character_19 (by decide) ?_
  exact r_fewer [none, none] (ls_n (ls_n ls_0)) (s_X9_character_28 (Int32.ofInt 0) h E hK)
set_option maxRecDepth 100000 in
set_option maxHeartbeats 4000000 in
theorem s_X9_character_0 {l : Launch} {G : mG} {Q : Option Value → mH → Prop} {X : String → mH → Prop} (p0 : Nat) (v1 : Int32) (h : mH) {o : Int32 × mH} (E : f_X9_character p0 v1 h = some o) (hK : (fiI Q) o) : mW l G m_X9_character 0 0 0 0 [some (.ref p0), some (.int v1)] [] h Q X := by
  unfold f_X9_character at E
  refine q_iload_n dX9_character_0 rfl ?_
  refine q_if_lt (tgt := 18) dX9_character_1 (by decide) (fun z1 => ?_) (fun z1 => ?_)
  · replace E := ite_t E z1
    exact r_fewer [none, none] (ls_n (ls_n ls_0)) (s_X9_character_18 h E hK)
  · replace E := ite_f E z1
    refine q_iload_n dX9_character_4 rfl ?_
    refine q_aload_n dX9_character_5 rfl ?_
    replace E := grd_some E
    obtain ⟨g2, E⟩ := E
    refine r_getI dX9_character_6 FX9_19 g2 ?_
    refine q_icmp_ge (tgt := 18) dX9_character_9 (by decide) (fun z3 => ?_) (fun z3 => ?_)
    · replace E := ite_t E z3
      exact r_fewer [none, none] (ls_n (ls_n ls_0)) (s_X9_character_18 h E hK)
    · replace E := ite_f E z3
      refine q_iload_n dX9_character_12 rfl ?_
      refine q_bipush (v := (Int32.ofInt 60)) dX9_character_13 (by decide) ?_
      refine q_icmp_lt (tgt := 22) dX9_character_15 (by decide) (fun z4 => ?_) (fun z4 => ?_)
      · replace E := ite_t E z4
        refine q_aload_n dX9_character_22 rfl ?_
        replace E := orf_some E
        obtain ⟨a5, ea5, E⟩ := E
        refine r_getR dX9_character_23 FX9_9 g2 ea5 ?_
        refine q_iload_n dX9_character_26 rfl ?_
        replace E := grd_some E
        obtain ⟨g6, E⟩ := E
        replace E := grd_some E
        obtain ⟨g7, E⟩ := E
        refine r_caload dX9_character_27 g6 g7 ?_
        exact r_fewer [none, none] (ls_n (ls_n ls_0)) (s_X9_character_28 (gi h a5 v1.toNatClampNeg) h E hK)
      · replace E := ite_f E z4
        exact r_fewer [none, none] (ls_n (ls_n ls_0)) (s_X9_character_18 h E hK)
theorem c_X9_character {l : Launch} {G : mG} {p0 : Nat} {v1 : Int32} {h h' : mH} {r : Int32} (E : f_X9_character p0 v1 h = some (r, h')) : mMet l G m_X9_character 0 0 0 [.ref p0, .int v1] h (fun v k => v = some (.int r) ∧ h' = k) (fun _ _ => False) :=
  mMet_of (by decide +kernel) rfl (ac_c rfl (ac_c rfl ac_0)) (Nat.le_of_ble_eq_true rfl) (s_X9_character_0 p0 v1 h E (And.intro rfl rfl))
set_option maxRecDepth 100000 in
set_option maxHeartbeats 4000000 in
theorem s_X9_endsFactor_25 {l : Launch} {G : mG} {Q : Option Value → mH → Prop} {X : String → mH → Prop} (s0 : Int32) (h : mH) {o : Int32 × mH} (E : g_X9_endsFactor_25 s0 h = some o) (hK : (fiI Q) o) : mW l G m_X9_endsFactor 1 0 0 25 [none] [.int s0] h Q X := by
  unfold g_X9_endsFactor_25 at E
  replace E := grd_some E
  obtain ⟨g1, E⟩ := E
  cases E
  exact q_zreturn dX9_endsFactor_25 rfl (narZ g1) hK
set_option maxRecDepth 100000 in
set_option maxHeartbeats 4000000 in
theorem s_X9_endsFactor_20 {l : Launch} {G : mG} {Q : Option Value → mH → Prop} {X : String → mH → Prop} (h : mH) {o : Int32 × mH} (E : g_X9_endsFactor_20  h = some o) (hK : (fiI Q) o) : mW l G m_X9_endsFactor 1 0 0 20 [none] [] h Q X := by
  unfold g_X9_endsFactor_20 at E
  refine q_iconst dX9_endsFactor_20 ?_
  refine q_goto (tgt := 25) dX9_endsFactor_21 (by decide) ?_
  exact r_fewer [none] (ls_n ls_0) (s_X9_endsFactor_25 (Int32.ofInt 1) h E hK)
set_option maxRecDepth 100000 in
set_option maxHeartbeats 4000000 in
theorem s_X9_endsFactor_0 {l : Launch} {G : mG} {Q : Option Value → mH → Prop} {X : String → mH → Prop} (v0 : Int32) (h : mH) {o : Int32 × mH} (E : f_X9_endsFactor v0 h = some o) (hK : (fiI Q) o) : mW l G m_X9_endsFactor 1 0 0 0 [some (.int v0)] [] h Q X := by
  unfold f_X9_endsFactor at E
  refine q_iload_n dX9_endsFactor_0 rfl ?_
  replace E := cal_some E
  obtain ⟨x2, h1, hc, E⟩ := E
  refine r_callSN1 (mc := 0) (ms := 0) dX9_endsFactor_1 KX9_39 (c_X11_isLetter hc) (by decide) (Nat.le_of_ble_eq_true rfl) (fun _ _ q => q.elim) ?_
  rintro _ _ ⟨rfl, rfl⟩
  clear hc
  refine q_if_ne (tgt := 20) dX9_endsFactor_4 (by decide) (fun z3 => ?_) (fun z3 => ?_)
  · replace E := ite_f E z3
    exact r_fewer [none] (ls_n ls_0) (s_X9_endsFactor_20 h1 E hK)
  · replace E := ite_t E z3
    refine q_iload_n dX9_endsFactor_7 rfl ?_
    replace E := cal_some E
    obtain ⟨x5, h4, hc, E⟩ := E
    refine r_callSN1 (mc := 0) (ms := 0) dX9_endsFactor_8 KX9_115 (c_X11_isSign hc) (by decide) (Nat.le_of_ble_eq_true rfl) (fun _ _ q => q.elim) ?_
    rintro _ _ ⟨rfl, rfl⟩
    clear hc
    refine q_if_ne (tgt := 20) dX9_endsFactor_11 (by decide) (fun z6 => ?_) (fun z6 => ?_)
    · replace E := ite_f E z6
      exact r_fewer [none] (ls_n ls_0) (s_X9_endsFactor_20 h4 E hK)
    · replace E := ite_t E z6
      refine q_iload_n dX9_endsFactor_14 rfl ?_
      refine q_bipush (v := (Int32.ofInt 41)) dX9_endsFactor_15 (by decide) ?_
      refine q_icmp_ne (tgt := 24) dX9_endsFactor_17 (by decide) (fun z7 => ?_) (fun z7 => ?_)
      · replace E := ite_f E z7
        refine q_iconst dX9_endsFactor_24 ?_
        exact r_fewer [none] (ls_n ls_0) (s_X9_endsFactor_25 (Int32.ofInt 0) h4 E hK)
      · replace E := ite_t E z7
        exact r_fewer [none] (ls_n ls_0) (s_X9_endsFactor_20 h4 E hK)
theorem c_X9_endsFactor {l : Launch} {G : mG} {v0 : Int32} {h h' : mH} {r : Int32} (E : f_X9_endsFactor v0 h = some (r, h')) : mMet l G m_X9_endsFactor 1 0 0 [.int v0] h (fun v k => v = some (.int r) ∧ h' = k) (fun _ _ => False) :=
  mMet_of (by decide +kernel) rfl (ac_c rfl ac_0) (Nat.le_of_ble_eq_true rfl) (s_X9_endsFactor_0 v0 h E (And.intro rfl rfl))
set_option maxRecDepth 100000 in
set_option maxHeartbeats 4000000 in
theorem s_X2_level_21 {l : Launch} {G : mG} {Q : Option Value → mH → Prop} {X : String → mH → Prop} (s0 : Int32) (h : mH) {o : Int32 × mH} (E : g_X2_level_21 s0 h = some o) (hK : (fiI Q) o) : mW l G m_X2_level 0 0 0 21 [none] [.int s0] h Q X := by
  unfold g_X2_level_21 at E
  cases E
  exact q_ireturn dX2_level_21 rfl hK
set_option maxRecDepth 100000 in
set_option maxHeartbeats 4000000 in
theorem s_X2_level_0 {l : Launch} {G : mG} {Q : Option Value → mH → Prop} {X : String → mH → Prop} (v0 : Int32) (h : mH) {o : Int32 × mH} (E : f_X2_level v0 h = some o) (hK : (fiI Q) o) : mW l G m_X2_level 0 0 0 0 [some (.int v0)] [] h Q X := by
  unfold f_X2_level at E
  refine q_iload_n dX2_level_0 rfl ?_
  refine q_bipush (v := (Int32.ofInt 46)) dX2_level_1 (by decide) ?_
  refine q_icmp_ne (tgt := 10) dX2_level_3 (by decide) (fun z1 => ?_) (fun z1 => ?_)
  · replace E := ite_f E z1
    refine q_iload_n dX2_level_10 rfl ?_
    refine q_bipush (v := (Int32.ofInt 124)) dX2_level_11 (by decide) ?_
    refine q_icmp_ne (tgt := 20) dX2_level_13 (by decide) (fun z2 => ?_) (fun z2 => ?_)
    · replace E := ite_f E z2
      refine q_iconst dX2_level_20 ?_
      exact r_fewer [none] (ls_n ls_0) (s_X2_level_21 (Int32.ofInt 0) h E hK)
    · replace E := ite_t E z2
      refine q_iconst dX2_level_16 ?_
      refine q_goto (tgt := 21) dX2_level_17 (by decide) ?_
      exact r_fewer [none] (ls_n ls_0) (s_X2_level_21 (Int32.ofInt 1) h E hK)
  · replace E := ite_t E z1
    refine q_iconst dX2_level_6 ?_
    refine q_goto (tgt := 21) dX2_level_7 (by decide) ?_
    exact r_fewer [none] (ls_n ls_0) (s_X2_level_21 (Int32.ofInt 2) h E hK)
theorem c_X2_level {l : Launch} {G : mG} {v0 : Int32} {h h' : mH} {r : Int32} (E : f_X2_level v0 h = some (r, h')) : mMet l G m_X2_level 0 0 0 [.int v0] h (fun v k => v = some (.int r) ∧ h' = k) (fun _ _ => False) :=
  mMet_of (by decide +kernel) rfl (ac_c rfl ac_0) (Nat.le_of_ble_eq_true rfl) (s_X2_level_0 v0 h E (And.intro rfl rfl))
set_option maxRecDepth 100000 in
set_option maxHeartbeats 4000000 in
theorem s_X2_top_34 {l : Launch} {G : mG} {Q : Option Value → mH → Prop} {X : String → mH → Prop} (s0 : Int32) (h : mH) {o : Int32 × mH} (E : g_X2_top_34 s0 h = some o) (hK : (fiI Q) o) : mW l G m_X2_top 0 0 0 34 [none] [.int s0] h Q X := by
  unfold g_X2_top_34 at E
  replace E := grd_some E
  obtain ⟨g1, E⟩ := E
  cases E
  exact q_zreturn dX2_top_34 rfl (narC g1) hK
set_option maxRecDepth 100000 in
set_option maxHeartbeats 4000000 in
theorem s_X2_top_19 {l : Launch} {G : mG} {Q : Option Value → mH → Prop} {X : String → mH → Prop} (h : mH) {o : Int32 × mH} (E : g_X2_top_19  h = some o) (hK : (fiI Q) o) : mW l G m_X2_top 0 0 0 19 [none] [] h Q X := by
  unfold g_X2_top_19 at E
  refine q_iconst dX2_top_19 ?_
  refine q_goto (tgt := 34) dX2_top_20 (by decide) ?_
  exact r_fewer [none] (ls_n ls_0) (s_X2_top_34 (Int32.ofInt 0) h E hK)
set_option maxRecDepth 100000 in
set_option maxHeartbeats 4000000 in
theorem s_X2_top_0 {l : Launch} {G : mG} {Q : Option Value → mH → Prop} {X : String → mH → Prop} (p0 : Nat) (h : mH) {o : Int32 × mH} (E : f_X2_top p0 h = some o) (hK : (fiI Q) o) : mW l G m_X2_top 0 0 0 0 [some (.ref p0)] [] h Q X := by
  unfold f_X2_top at E
  refine q_aload_n dX2_top_0 rfl ?_
  replace E := grd_some E
  obtain ⟨g1, E⟩ := E
  refine r_getI dX2_top_1 FX2_18 g1 ?_
  refine q_if_le (tgt := 19) dX2_top_4 (by decide) (fun z2 => ?_) (fun z2 => ?_)
  · replace E := ite_t E z2
    exact r_fewer [none] (ls_n ls_0) (s_X2_top_19 h E hK)
  · replace E := ite_f E z2
    refine q_aload_n dX2_top_7 rfl ?_
    refine r_getI dX2_top_8 FX2_18 g1 ?_
    refine q_aload_n dX2_top_11 rfl ?_
    replace E := orf_some E
    obtain ⟨a3, ea3, E⟩ := E
    refine r_getR dX2_top_12 FX2_9 g1 ea3 ?_
    replace E := grd_some E
    obtain ⟨g4, E⟩ := E
    refine r_alen (t0 := 2) dX2_top_15 rfl g4 ?_
    refine q_icmp_le (tgt := 23) dX2_top_16 (by decide) (fun z5 => ?_) (fun z5 => ?_)
    · replace E := ite_t E z5
      refine q_aload_n dX2_top_23 rfl ?_
      refine r_getR dX2_top_24 FX2_9 g1 ea3 ?_
      refine q_aload_n dX2_top_27 rfl ?_
      refine r_getI dX2_top_28 FX2_18 g1 ?_
      refine q_iconst dX2_top_31 ?_
      refine q_isub dX2_top_32 ?_
      replace E := grd_some E
      obtain ⟨g7, E⟩ := E
      refine r_caload dX2_top_33 g4 g7 ?_
      exact r_fewer [none] (ls_n ls_0) (s_X2_top_34 (gi h a3 ((gi h p0 2) - (Int32.ofInt 1)).toNatClampNeg) h E hK)
    · replace E := ite_f E z5
      exact r_fewer [none] (ls_n ls_0) (s_X2_top_19 h E hK)
theorem c_X2_top {l : Launch} {G : mG} {p0 : Nat} {h h' : mH} {r : Int32} (E : f_X2_top p0 h = some (r, h')) : mMet l G m_X2_top 0 0 0 [.ref p0] h (fun v k => v = some (.int r) ∧ h' = k) (fun _ _ => False) :=
  mMet_of (by decide +kernel) rfl (ac_c rfl ac_0) (Nat.le_of_ble_eq_true rfl) (s_X2_top_0 p0 h E (And.intro rfl rfl))
set_option maxRecDepth 100000 in
set_option maxHeartbeats 4000000 in
theorem s_X2_pop_0 {l : Launch} {G : mG} {Q : Option Value → mH → Prop} {X : String → mH → Prop} (p0 : Nat) (h : mH) {o : Int32 × mH} (E : f_X2_pop p0 h = some o) (hK : (fiI Q) o) : mW l G m_X2_pop 1 0 0 0 [some (.ref p0), none] [] h Q X := by
  unfold f_X2_pop at E
  refine q_aload_n dX2_pop_0 rfl ?_
  replace E := grd_some E
  obtain ⟨g3, E⟩ := E
  replace E := cal_some E
  obtain ⟨x2, h1, hc, E⟩ := E
  refine r_callV0 (mc := 0) (ms := 0) dX2_pop_1 KX2_112 (c_X2_top hc) g3 (by decide) (Nat.le_of_ble_eq_true rfl) (fun _ _ q => q.elim) ?_
  rintro _ _ ⟨rfl, rfl⟩
  clear hc
  refine r_istore_n dX2_pop_4 (by decide) rfl (ls' := [some (.ref p0), some (.int x2)]) rfl ?_
  refine q_aload_n dX2_pop_5 rfl ?_
  refine q_aload_n dX2_pop_6 rfl ?_
  replace E := grd_some E
  obtain ⟨g4, E⟩ := E
  refine r_getI dX2_pop_7 FX2_18 g4 ?_
  refine q_iconst dX2_pop_10 ?_
  refine q_isub dX2_pop_11 ?_
  refine q_iconst dX2_pop_12 ?_
  refine q_mmax dX2_pop_13 XX2_66 (Nat.le_of_ble_eq_true rfl) ?_
  replace E := bnd_x E
  obtain ⟨h5, eh5, E⟩ := E
  refine r_putI (hh := eh5) dX2_pop_16 FX2_18 g4 rfl rfl ?_
  refine q_iload_n dX2_pop_19 rfl ?_
  replace E := grd_some E
  obtain ⟨g6, E⟩ := E
  cases E
  exact q_zreturn dX2_pop_20 rfl (narC g6) hK
theorem c_X2_pop {l : Launch} {G : mG} {p0 : Nat} {h h' : mH} {r : Int32} (E : f_X2_pop p0 h = some (r, h')) : mMet l G m_X2_pop 1 0 0 [.ref p0] h (fun v k => v = some (.int r) ∧ h' = k) (fun _ _ => False) :=
  mMet_of (by decide +kernel) rfl (ac_c rfl ac_0) (Nat.le_of_ble_eq_true rfl) (s_X2_pop_0 p0 h E (And.intro rfl rfl))
set_option maxRecDepth 100000 in
set_option maxHeartbeats 4000000 in
theorem s_X2_emit_39 {l : Launch} {G : mG} {Q : Option Value → mH → Prop} {X : String → mH → Prop} (h : mH) {o : Unit × mH} (E : g_X2_emit_39  h = some o) (hK : (fiV Q) o) : mW l G m_X2_emit 0 0 0 39 [none, none] [] h Q X := by
  unfold g_X2_emit_39 at E
  cases E
  exact q_return dX2_emit_39 rfl hK
set_option maxRecDepth 100000 in
set_option maxHeartbeats 4000000 in
theorem s_X2_emit_0 {l : Launch} {G : mG} {Q : Option Value → mH → Prop} {X : String → mH → Prop} (p0 : Nat) (v1 : Int32) (h : mH) {o : Unit × mH} (E : f_X2_emit p0 v1 h = some o) (hK : (fiV Q) o) : mW l G m_X2_emit 0 0 0 0 [some (.ref p0), some (.int v1)] [] h Q X := by
  unfold f_X2_emit at E
  refine q_aload_n dX2_emit_0 rfl ?_
  replace E := grd_some E
  obtain ⟨g1, E⟩ := E
  refine r_getI dX2_emit_1 FX2_22 g1 ?_
  refine q_if_lt (tgt := 39) dX2_emit_4 (by decide) (fun z2 => ?_) (fun z2 => ?_)
  · replace E := ite_t E z2
    exact r_fewer [none, none] (ls_n (ls_n ls_0)) (s_X2_emit_39 h E hK)
  · replace E := ite_f E z2
    refine q_aload_n dX2_emit_7 rfl ?_
    refine r_getI dX2_emit_8 FX2_22 g1 ?_
    refine q_aload_n dX2_emit_11 rfl ?_
    replace E := orf_some E
    obtain ⟨a3, ea3, E⟩ := E
    refine r_getR dX2_emit_12 FX2_15 g1 ea3 ?_
    replace E := grd_some E
    obtain ⟨g4, E⟩ := E
    refine r_alen (t0 := 2) dX2_emit_15 rfl g4 ?_
    refine q_icmp_ge (tgt := 39) dX2_emit_16 (by decide) (fun z5 => ?_) (fun z5 => ?_)
    · replace E := ite_t E z5
      exact r_fewer [none, none] (ls_n (ls_n ls_0)) (s_X2_emit_39 h E hK)
    · replace E := ite_f E z5
      refine q_aload_n dX2_emit_19 rfl ?_
      refine r_getR dX2_emit_20 FX2_15 g1 ea3 ?_
      refine q_aload_n dX2_emit_23 rfl ?_
      refine r_getI dX2_emit_24 FX2_22 g1 ?_
      refine q_iload_n dX2_emit_27 rfl ?_
      replace E := grd_some E
      obtain ⟨g8, E⟩ := E
      replace E := grd_some E
      obtain ⟨g9, E⟩ := E
      replace E := bnd_x E
      obtain ⟨h7, eh7, E⟩ := E
      refine r_castore (hh := eh7) dX2_emit_28 g4 g8 g9 ?_
      refine q_aload_n dX2_emit_29 rfl ?_
      refine q_dup dX2_emit_30 ?_
      replace E := grd_some E
      obtain ⟨g10, E⟩ := E
      refine r_getI dX2_emit_31 FX2_22 g10 ?_
      refine q_iconst dX2_emit_34 ?_
      refine q_iadd dX2_emit_35 ?_
      replace E := bnd_x E
      obtain ⟨h11, eh11, E⟩ := E
      refine r_putI (hh := eh11) dX2_emit_36 FX2_22 g10 rfl rfl ?_
      exact r_fewer [none, none] (ls_n (ls_n ls_0)) (s_X2_emit_39 h11 E hK)
theorem c_X2_emit {l : Launch} {G : mG} {p0 : Nat} {v1 : Int32} {h h' : mH} {r : Unit} (E : f_X2_emit p0 v1 h = some (r, h')) : mMet l G m_X2_emit 0 0 0 [.ref p0, .int v1] h (fun v k => v = none ∧ h' = k) (fun _ _ => False) :=
  mMet_of (by decide +kernel) rfl (ac_c rfl (ac_c rfl ac_0)) (Nat.le_of_ble_eq_true rfl) (s_X2_emit_0 p0 v1 h E (And.intro rfl rfl))
set_option maxRecDepth 100000 in
set_option maxHeartbeats 4000000 in
theorem s_X2_flush_34 {l : Launch} {G : mG} {Q : Option Value → mH → Prop} {X : String → mH → Prop} (h : mH) {o : Unit × mH} (E : g_X2_flush_34  h = some o) (hK : (fiV Q) o) : mW l G m_X2_flush 2 0 0 34 [none, none, none] [] h Q X := by
  unfold g_X2_flush_34 at E
  cases E
  exact q_return dX2_flush_34 rfl hK
set_option maxRecDepth 100000 in
set_option maxHeartbeats 4000000 in
theorem sb_X2_flush_5 {l : Launch} {G : mG} {Q : Option Value → mH → Prop} {X : String → mH → Prop} (p0 : Nat) (v1 : Int32) (v2 : Int32) (h : mH) {o : ((Int32 × mH) ⊕ (Unit × mH))} (E : b0_X2_flush_5 p0 v1 v2 h = some o) (hK : (lpK (w_X2_flush_5 l G Q X p0 v1) (fiV Q)) o) : mW l G m_X2_flush 2 0 0 5 [some (.ref p0), some (.int v1), some (.int v2)] [] h Q X := by
  unfold b0_X2_flush_5 at E
  refine q_iload_n dX2_flush_5 rfl ?_
  refine q_if_le (tgt := 34) dX2_flush_6 (by decide) (fun z1 => ?_) (fun z1 => ?_)
  · replace E := ite_t E z1
    obtain ⟨o0, E0, rfl⟩ := inrO_some E
    exact r_fewer [none, none, none] (ls_n (ls_n (ls_n ls_0))) (s_X2_flush_34 h E0 hK)
  · replace E := ite_f E z1
    refine q_aload_n dX2_flush_9 rfl ?_
    replace E := grd_some E
    obtain ⟨g4, E⟩ := E
    replace E := cal_some E
    obtain ⟨x3, h2, hc, E⟩ := E
    refine r_callV0 (mc := 0) (ms := 0) dX2_flush_10 KX2_112 (c_X2_top hc) g4 (by decide) (Nat.le_of_ble_eq_true rfl) (fun _ _ q => q.elim) ?_
    rintro _ _ ⟨rfl, rfl⟩
    clear hc
    replace E := cal_some E
    obtain ⟨x6, h5, hc, E⟩ := E
    refine r_callS1 (mc := 0) (ms := 0) dX2_flush_13 KX2_45 (c_X2_level hc) (by decide) (Nat.le_of_ble_eq_true rfl) (fun _ _ q => q.elim) ?_
    rintro _ _ ⟨rfl, rfl⟩
    clear hc
    refine q_iload_n dX2_flush_16 rfl ?_
    refine q_icmp_lt (tgt := 34) dX2_flush_17 (by decide) (fun z7 => ?_) (fun z7 => ?_)
    · replace E := ite_t E z7
      obtain ⟨o0, E0, rfl⟩ := inrO_some E
      exact r_fewer [none, none, none] (ls_n (ls_n (ls_n ls_0))) (s_X2_flush_34 h5 E0 hK)
    · replace E := ite_f E z7
      refine q_aload_n dX2_flush_20 rfl ?_
      refine q_aload_n dX2_flush_21 rfl ?_
      replace E := grd_some E
      obtain ⟨g10, E⟩ := E
      replace E := cal_some E
      obtain ⟨x9, h8, hc, E⟩ := E
      refine r_callV0 (mc := 0) (ms := 0) dX2_flush_22 KX2_94 (c_X2_pop hc) g10 (by decide) (Nat.le_of_ble_eq_true rfl) (fun _ _ q => q.elim) ?_
      rintro _ _ ⟨rfl, rfl⟩
      clear hc
      replace E := grd_some E
      obtain ⟨g13, E⟩ := E
      replace E := cal_some E
      obtain ⟨_, h11, hc, E⟩ := E
      refine r_callV1 (mc := 0) (ms := 0) dX2_flush_25 KX2_109 (c_X2_emit hc) g13 (by decide) (Nat.le_of_ble_eq_true rfl) (fun _ _ q => q.elim) ?_
      rintro _ _ ⟨rfl, rfl⟩
      clear hc
      replace E := bnd_x E
      obtain ⟨x14, ex14, E⟩ := E
      refine r_iinc (v := x14) dX2_flush_28 rfl ex14 (by decide) (ls' := [some (.ref p0), some (.int v1), some (.int x14)]) rfl ?_
      refine q_goto (tgt := 5) dX2_flush_31 (by decide) ?_
      cases E
      exact r_fewer [some (.ref p0), some (.int v1), some (.int x14)] (ls_s (ls_s (ls_s ls_0))) hK
theorem s_X2_flush_5 {l : Launch} {G : mG} {Q : Option Value → mH → Prop} {X : String → mH → Prop} (p0 : Nat) (v1 : Int32) (v2 : Int32) (h : mH) {o : Unit × mH} (E : g_X2_flush_5 p0 v1 v2 h = some o) (hK : (fiV Q) o) : mW l G m_X2_flush 2 0 0 5 [some (.ref p0), some (.int v1), some (.int v2)] [] h Q X :=
  (lp_go (w_X2_flush_5 l G Q X p0 v1) (fiV Q) (b_X2_flush_5 p0 v1) (fun s o E hK => sb_X2_flush_5 p0 v1 s.1 (s.2) E hK) _ _ _ E hK : w_X2_flush_5 l G Q X p0 v1 (v2, h))
set_option maxRecDepth 100000 in
set_option maxHeartbeats 4000000 in
theorem s_X2_flush_0 {l : Launch} {G : mG} {Q : Option Value → mH → Prop} {X : String → mH → Prop} (p0 : Nat) (v1 : Int32) (h : mH) {o : Unit × mH} (E : f_X2_flush p0 v1 h = some o) (hK : (fiV Q) o) : mW l G m_X2_flush 2 0 0 0 [some (.ref p0), some (.int v1), none] [] h Q X := by
  unfold f_X2_flush at E
  refine q_aload_n dX2_flush_0 rfl ?_
  replace E := grd_some E
  obtain ⟨g1, E⟩ := E
  refine r_getI dX2_flush_1 FX2_18 g1 ?_
  replace E := bnd_x E
  obtain ⟨x2, ex2, E⟩ := E
  refine r_istore_n dX2_flush_4 (by decide) ex2 (ls' := [some (.ref p0), some (.int v1), some (.int x2)]) rfl ?_
  exact r_fewer [some (.ref p0), some (.int v1), some (.int x2)] (ls_s (ls_s (ls_s ls_0))) (s_X2_flush_5 p0 v1 x2 h E hK)
theorem c_X2_flush {l : Launch} {G : mG} {p0 : Nat} {v1 : Int32} {h h' : mH} {r : Unit} (E : f_X2_flush p0 v1 h = some (r, h')) : mMet l G m_X2_flush 2 0 0 [.ref p0, .int v1] h (fun v k => v = none ∧ h' = k) (fun _ _ => False) :=
  mMet_of (by decide +kernel) rfl (ac_c rfl (ac_c rfl ac_0)) (Nat.le_of_ble_eq_true rfl) (s_X2_flush_0 p0 v1 h E (And.intro rfl rfl))
set_option maxRecDepth 100000 in
set_option maxHeartbeats 4000000 in
theorem s_X2_push_39 {l : Launch} {G : mG} {Q : Option Value → mH → Prop} {X : String → mH → Prop} (h : mH) {o : Unit × mH} (E : g_X2_push_39  h = some o) (hK : (fiV Q) o) : mW l G m_X2_push 0 0 0 39 [none, none] [] h Q X := by
  unfold g_X2_push_39 at E
  cases E
  exact q_return dX2_push_39 rfl hK
set_option maxRecDepth 100000 in
set_option maxHeartbeats 4000000 in
theorem s_X2_push_0 {l : Launch} {G : mG} {Q : Option Value → mH → Prop} {X : String → mH → Prop} (p0 : Nat) (v1 : Int32) (h : mH) {o : Unit × mH} (E : f_X2_push p0 v1 h = some o) (hK : (fiV Q) o) : mW l G m_X2_push 0 0 0 0 [some (.ref p0), some (.int v1)] [] h Q X := by
  unfold f_X2_push at E
  refine q_aload_n dX2_push_0 rfl ?_
  replace E := grd_some E
  obtain ⟨g1, E⟩ := E
  refine r_getI dX2_push_1 FX2_18 g1 ?_
  refine q_if_lt (tgt := 39) dX2_push_4 (by decide) (fun z2 => ?_) (fun z2 => ?_)
  · replace E := ite_t E z2
    exact r_fewer [none, none] (ls_n (ls_n ls_0)) (s_X2_push_39 h E hK)
  · replace E := ite_f E z2
    refine q_aload_n dX2_push_7 rfl ?_
    refine r_getI dX2_push_8 FX2_18 g1 ?_
    refine q_aload_n dX2_push_11 rfl ?_
    replace E := orf_some E
    obtain ⟨a3, ea3, E⟩ := E
    refine r_getR dX2_push_12 FX2_9 g1 ea3 ?_
    replace E := grd_some E
    obtain ⟨g4, E⟩ := E
    refine r_alen (t0 := 2) dX2_push_15 rfl g4 ?_
    refine q_icmp_ge (tgt := 39) dX2_push_16 (by decide) (fun z5 => ?_) (fun z5 => ?_)
    · replace E := ite_t E z5
      exact r_fewer [none, none] (ls_n (ls_n ls_0)) (s_X2_push_39 h E hK)
    · replace E := ite_f E z5
      refine q_aload_n dX2_push_19 rfl ?_
      refine r_getR dX2_push_20 FX2_9 g1 ea3 ?_
      refine q_aload_n dX2_push_23 rfl ?_
      refine r_getI dX2_push_24 FX2_18 g1 ?_
      refine q_iload_n dX2_push_27 rfl ?_
      replace E := grd_some E
      obtain ⟨g8, E⟩ := E
      replace E := grd_some E
      obtain ⟨g9, E⟩ := E
      replace E := bnd_x E
      obtain ⟨h7, eh7, E⟩ := E
      refine r_castore (hh := eh7) dX2_push_28 g4 g8 g9 ?_
      refine q_aload_n dX2_push_29 rfl ?_
      refine q_dup dX2_push_30 ?_
      replace E := grd_some E
      obtain ⟨g10, E⟩ := E
      refine r_getI dX2_push_31 FX2_18 g10 ?_
      refine q_iconst dX2_push_34 ?_
      refine q_iadd dX2_push_35 ?_
      replace E := bnd_x E
      obtain ⟨h11, eh11, E⟩ := E
      refine r_putI (hh := eh11) dX2_push_36 FX2_18 g10 rfl rfl ?_
      exact r_fewer [none, none] (ls_n (ls_n ls_0)) (s_X2_push_39 h11 E hK)
theorem c_X2_push {l : Launch} {G : mG} {p0 : Nat} {v1 : Int32} {h h' : mH} {r : Unit} (E : f_X2_push p0 v1 h = some (r, h')) : mMet l G m_X2_push 0 0 0 [.ref p0, .int v1] h (fun v k => v = none ∧ h' = k) (fun _ _ => False) :=
  mMet_of (by decide +kernel) rfl (ac_c rfl (ac_c rfl ac_0)) (Nat.le_of_ble_eq_true rfl) (s_X2_push_0 p0 v1 h E (And.intro rfl rfl))
set_option maxRecDepth 100000 in
set_option maxHeartbeats 4000000 in
theorem s_X2_takeCharacter_80 {l : Launch} {G : mG} {Q : Option Value → mH → Prop} {X : String → mH → Prop} (h : mH) {o : Unit × mH} (E : g_X2_takeCharacter_80  h = some o) (hK : (fiV Q) o) : mW l G m_X2_takeCharacter 3 0 0 80 [none, none] [] h Q X := by
  unfold g_X2_takeCharacter_80 at E
  cases E
  exact q_return dX2_takeCharacter_80 rfl hK
set_option maxRecDepth 100000 in
set_option maxHeartbeats 4000000 in
theorem s_X2_takeCharacter_14 {l : Launch} {G : mG} {Q : Option Value → mH → Prop} {X : String → mH → Prop} (p0 : Nat) (v1 : Int32) (h : mH) {o : Unit × mH} (E : g_X2_takeCharacter_14 p0 v1 h = some o) (hK : (fiV Q) o) : mW l G m_X2_takeCharacter 3 0 0 14 [some (.ref p0), some (.int v1)] [] h Q X := by
  unfold g_X2_takeCharacter_14 at E
  refine q_aload_n dX2_takeCharacter_14 rfl ?_
  refine q_iload_n dX2_takeCharacter_15 rfl ?_
  replace E := grd_some E
  obtain ⟨g3, E⟩ := E
  replace E := cal_some E
  obtain ⟨_, h1, hc, E⟩ := E
  refine r_callV1 (mc := 0) (ms := 0) dX2_takeCharacter_16 KX2_109 (c_X2_emit hc) g3 (by decide) (Nat.le_of_ble_eq_true rfl) (fun _ _ q => q.elim) ?_
  rintro _ _ ⟨rfl, rfl⟩
  clear hc
  refine q_goto (tgt := 80) dX2_takeCharacter_19 (by decide) ?_
  exact r_fewer [none, none] (ls_n (ls_n ls_0)) (s_X2_takeCharacter_80 h1 E hK)
set_option maxRecDepth 100000 in
set_option maxHeartbeats 4000000 in
theorem s_X2_takeCharacter_0 {l : Launch} {G : mG} {Q : Option Value → mH → Prop} {X : String → mH → Prop} (p0 : Nat) (v1 : Int32) (h : mH) {o : Unit × mH} (E : f_X2_takeCharacter p0 v1 h = some o) (hK : (fiV Q) o) : mW l G m_X2_takeCharacter 3 0 0 0 [some (.ref p0), some (.int v1)] [] h Q X := by
  unfold f_X2_takeCharacter at E
  refine q_iload_n dX2_takeCharacter_0 rfl ?_
  replace E := cal_some E
  obtain ⟨x2, h1, hc, E⟩ := E
  refine r_callSN1 (mc := 0) (ms := 0) dX2_takeCharacter_1 KX2_42 (c_X11_isLetter hc) (by decide) (Nat.le_of_ble_eq_true rfl) (fun _ _ q => q.elim) ?_
  rintro _ _ ⟨rfl, rfl⟩
  clear hc
  refine q_if_ne (tgt := 14) dX2_takeCharacter_4 (by decide) (fun z3 => ?_) (fun z3 => ?_)
  · replace E := ite_f E z3
    exact r_fewer [some (.ref p0), some (.int v1)] (ls_s (ls_s ls_0)) (s_X2_takeCharacter_14 p0 v1 h1 E hK)
  · replace E := ite_t E z3
    refine q_iload_n dX2_takeCharacter_7 rfl ?_
    replace E := cal_some E
    obtain ⟨x5, h4, hc, E⟩ := E
    refine r_callSN1 (mc := 0) (ms := 0) dX2_takeCharacter_8 KX2_106 (c_X11_isSign hc) (by decide) (Nat.le_of_ble_eq_true rfl) (fun _ _ q => q.elim) ?_
    rintro _ _ ⟨rfl, rfl⟩
    clear hc
    refine q_if_eq (tgt := 22) dX2_takeCharacter_11 (by decide) (fun z6 => ?_) (fun z6 => ?_)
    · replace E := ite_t E z6
      refine q_iload_n dX2_takeCharacter_22 rfl ?_
      refine q_bipush (v := (Int32.ofInt 40)) dX2_takeCharacter_23 (by decide) ?_
      refine q_icmp_ne (tgt := 36) dX2_takeCharacter_25 (by decide) (fun z7 => ?_) (fun z7 => ?_)
      · replace E := ite_f E z7
        refine q_iload_n dX2_takeCharacter_36 rfl ?_
        refine q_bipush (v := (Int32.ofInt 41)) dX2_takeCharacter_37 (by decide) ?_
        refine q_icmp_ne (tgt := 59) dX2_takeCharacter_39 (by decide) (fun z8 => ?_) (fun z8 => ?_)
        · replace E := ite_f E z8
          refine q_iload_n dX2_takeCharacter_59 rfl ?_
          refine q_bipush (v := (Int32.ofInt 124)) dX2_takeCharacter_60 (by decide) ?_
          refine q_icmp_ne (tgt := 80) dX2_takeCharacter_62 (by decide) (fun z9 => ?_) (fun z9 => ?_)
          · replace E := ite_f E z9
            exact r_fewer [none, none] (ls_n (ls_n ls_0)) (s_X2_takeCharacter_80 h4 E hK)
          · replace E := ite_t E z9
            refine q_aload_n dX2_takeCharacter_65 rfl ?_
            refine q_bipush (v := (Int32.ofInt 124)) dX2_takeCharacter_66 (by decide) ?_
            replace E := cal_some E
            obtain ⟨x11, h10, hc, E⟩ := E
            refine r_callS1 (mc := 0) (ms := 0) dX2_takeCharacter_68 KX2_45 (c_X2_level hc) (by decide) (Nat.le_of_ble_eq_true rfl) (fun _ _ q => q.elim) ?_
            rintro _ _ ⟨rfl, rfl⟩
            clear hc
            replace E := grd_some E
            obtain ⟨g14, E⟩ := E
            replace E := cal_some E
            obtain ⟨_, h12, hc, E⟩ := E
            refine r_callV1 (mc := 0) (ms := 0) dX2_takeCharacter_71 KX2_49 (c_X2_flush hc) g14 (by decide) (Nat.le_of_ble_eq_true rfl) (fun _ _ q => q.elim) ?_
            rintro _ _ ⟨rfl, rfl⟩
            clear hc
            refine q_aload_n dX2_takeCharacter_74 rfl ?_
            refine q_bipush (v := (Int32.ofInt 124)) dX2_takeCharacter_75 (by decide) ?_
            replace E := grd_some E
            obtain ⟨g17, E⟩ := E
            replace E := cal_some E
            obtain ⟨_, h15, hc, E⟩ := E
            refine r_callV1 (mc := 0) (ms := 0) dX2_takeCharacter_77 KX2_53 (c_X2_push hc) g17 (by decide) (Nat.le_of_ble_eq_true rfl) (fun _ _ q => q.elim) ?_
            rintro _ _ ⟨rfl, rfl⟩
            clear hc
            exact r_fewer [none, none] (ls_n (ls_n ls_0)) (s_X2_takeCharacter_80 h15 E hK)
        · replace E := ite_t E z8
          refine q_aload_n dX2_takeCharacter_42 rfl ?_
          refine q_bipush (v := (Int32.ofInt 124)) dX2_takeCharacter_43 (by decide) ?_
          replace E := cal_some E
          obtain ⟨x19, h18, hc, E⟩ := E
          refine r_callS1 (mc := 0) (ms := 0) dX2_takeCharacter_45 KX2_45 (c_X2_level hc) (by decide) (Nat.le_of_ble_eq_true rfl) (fun _ _ q => q.elim) ?_
          rintro _ _ ⟨rfl, rfl⟩
          clear hc
          replace E := grd_some E
          obtain ⟨g22, E⟩ := E
          replace E := cal_some E
          obtain ⟨_, h20, hc, E⟩ := E
          refine r_callV1 (mc := 0) (ms := 0) dX2_takeCharacter_48 KX2_49 (c_X2_flush hc) g22 (by decide) (Nat.le_of_ble_eq_true rfl) (fun _ _ q => q.elim) ?_
          rintro _ _ ⟨rfl, rfl⟩
          clear hc
          refine q_aload_n dX2_takeCharacter_51 rfl ?_
          replace E := grd_some E
          obtain ⟨g25, E⟩ := E
          replace E := cal_some E
          obtain ⟨x24, h23, hc, E⟩ := E
          refine r_callV0 (mc := 0) (ms := 0) dX2_takeCharacter_52 KX2_94 (c_X2_pop hc) g25 (by decide) (Nat.le_of_ble_eq_true rfl) (fun _ _ q => q.elim) ?_
          rintro _ _ ⟨rfl, rfl⟩
          clear hc
          refine q_pop dX2_takeCharacter_55 ?_
          refine q_goto (tgt := 80) dX2_takeCharacter_56 (by decide) ?_
          exact r_fewer [none, none] (ls_n (ls_n ls_0)) (s_X2_takeCharacter_80 h23 E hK)
      · replace E := ite_t E z7
        refine q_aload_n dX2_takeCharacter_28 rfl ?_
        refine q_iload_n dX2_takeCharacter_29 rfl ?_
        replace E := grd_some E
        obtain ⟨g28, E⟩ := E
        replace E := cal_some E
        obtain ⟨_, h26, hc, E⟩ := E
        refine r_callV1 (mc := 0) (ms := 0) dX2_takeCharacter_30 KX2_53 (c_X2_push hc) g28 (by decide) (Nat.le_of_ble_eq_true rfl) (fun _ _ q => q.elim) ?_
        rintro _ _ ⟨rfl, rfl⟩
        clear hc
        refine q_goto (tgt := 80) dX2_takeCharacter_33 (by decide) ?_
        exact r_fewer [none, none] (ls_n (ls_n ls_0)) (s_X2_takeCharacter_80 h26 E hK)
    · replace E := ite_f E z6
      exact r_fewer [some (.ref p0), some (.int v1)] (ls_s (ls_s ls_0)) (s_X2_takeCharacter_14 p0 v1 h4 E hK)
theorem c_X2_takeCharacter {l : Launch} {G : mG} {p0 : Nat} {v1 : Int32} {h h' : mH} {r : Unit} (E : f_X2_takeCharacter p0 v1 h = some (r, h')) : mMet l G m_X2_takeCharacter 3 0 0 [.ref p0, .int v1] h (fun v k => v = none ∧ h' = k) (fun _ _ => False) :=
  mMet_of (by decide +kernel) rfl (ac_c rfl (ac_c rfl ac_0)) (Nat.le_of_ble_eq_true rfl) (s_X2_takeCharacter_0 p0 v1 h E (And.intro rfl rfl))
set_option maxRecDepth 100000 in
set_option maxHeartbeats 4000000 in
theorem s_X4_init_68 {l : Launch} {G : mG} {Q : Option Value → mH → Prop} {X : String → mH → Prop} (p0 : Nat) (v2 : Int32) (p4 : Nat) (v5 : Int32) (v6 : Int32) (s0 : Int32) (s1 : Int32) (h : mH) {o : ((Int32 × Int32 × Int32 × mH) ⊕ (Unit × mH))} (E : g_X4_init_68 p0 v2 p4 v5 v6 s0 s1 h = some o) (hK : (lpK (w_X4_init_24 l G Q X p0 p4 v5) (fiV Q)) o) : mW l G m_X4_init 1 0 0 68 [some (.ref p0), none, some (.int v2), none, some (.ref p4), some (.int v5), some (.int v6), none] [.int s0, .int s1] h Q X := by
  unfold g_X4_init_68 at E
  refine q_iadd dX4_init_68 ?_
  replace E := bnd_x E
  obtain ⟨x1, ex1, E⟩ := E
  refine r_istore_n dX4_init_69 (by decide) ex1 (ls' := [some (.ref p0), none, some (.int v2), some (.int x1), some (.ref p4), some (.int v5), some (.int v6), none]) rfl ?_
  replace E := bnd_x E
  obtain ⟨x2, ex2, E⟩ := E
  refine r_iinc (v := x2) dX4_init_70 rfl ex2 (by decide) (ls' := [some (.ref p0), none, some (.int v2), some (.int x1), some (.ref p4), some (.int v5), some (.int x2), none]) rfl ?_
  refine q_goto (tgt := 24) dX4_init_73 (by decide) ?_
  cases E
  exact r_fewer [some (.ref p0), none, some (.int v2), some (.int x1), some (.ref p4), some (.int v5), some (.int x2), none] (ls_s (ls_n (ls_s (ls_s (ls_s (ls_s (ls_s (ls_n ls_0)))))))) hK
set_option maxRecDepth 100000 in
set_option maxHeartbeats 4000000 in
theorem s_X4_init_52 {l : Launch} {G : mG} {Q : Option Value → mH → Prop} {X : String → mH → Prop} (p0 : Nat) (v3 : Int32) (p4 : Nat) (v5 : Int32) (v6 : Int32) (v7 : Int32) (s0 : Int32) (s1 : Int32) (h : mH) {o : ((Int32 × Int32 × Int32 × mH) ⊕ (Unit × mH))} (E : g_X4_init_52 p0 v3 p4 v5 v6 v7 s0 s1 h = some o) (hK : (lpK (w_X4_init_24 l G Q X p0 p4 v5) (fiV Q)) o) : mW l G m_X4_init 1 0 0 52 [some (.ref p0), none, none, some (.int v3), some (.ref p4), some (.int v5), some (.int v6), some (.int v7)] [.int s0, .int s1] h Q X := by
  unfold g_X4_init_52 at E
  refine q_iadd dX4_init_52 ?_
  replace E := bnd_x E
  obtain ⟨x1, ex1, E⟩ := E
  refine r_istore_n dX4_init_53 (by decide) ex1 (ls' := [some (.ref p0), none, some (.int x1), some (.int v3), some (.ref p4), some (.int v5), some (.int v6), some (.int v7)]) rfl ?_
  refine q_iload_n dX4_init_54 rfl ?_
  refine q_iload dX4_init_55 rfl ?_
  replace E := cal_some E
  obtain ⟨x3, h2, hc, E⟩ := E
  refine r_callSN1 (mc := 0) (ms := 0) dX4_init_57 KX4_19 (c_X11_isSign hc) (by decide) (Nat.le_of_ble_eq_true rfl) (fun _ _ q => q.elim) ?_
  rintro _ _ ⟨rfl, rfl⟩
  clear hc
  refine q_if_eq (tgt := 67) dX4_init_60 (by decide) (fun z4 => ?_) (fun z4 => ?_)
  · replace E := ite_t E z4
    refine q_iconst dX4_init_67 ?_
    exact r_fewer [some (.ref p0), none, some (.int x1), none, some (.ref p4), some (.int v5), some (.int v6), none] (ls_s (ls_n (ls_s (ls_n (ls_s (ls_s (ls_s (ls_n ls_0)))))))) (s_X4_init_68 p0 x1 p4 v5 v6 (Int32.ofInt 0) v3 h2 E hK)
  · replace E := ite_f E z4
    refine q_iconst dX4_init_63 ?_
    refine q_goto (tgt := 68) dX4_init_64 (by decide) ?_
    exact r_fewer [some (.ref p0), none, some (.int x1), none, some (.ref p4), some (.int v5), some (.int v6), none] (ls_s (ls_n (ls_s (ls_n (ls_s (ls_s (ls_s (ls_n ls_0)))))))) (s_X4_init_68 p0 x1 p4 v5 v6 (Int32.ofInt 1) v3 h2 E hK)
set_option maxRecDepth 100000 in
set_option maxHeartbeats 4000000 in
theorem sb_X4_init_24 {l : Launch} {G : mG} {Q : Option Value → mH → Prop} {X : String → mH → Prop} (p0 : Nat) (v2 : Int32) (v3 : Int32) (p4 : Nat) (v5 : Int32) (v6 : Int32) (h : mH) {o : ((Int32 × Int32 × Int32 × mH) ⊕ (Unit × mH))} (E : b0_X4_init_24 p0 v2 v3 p4 v5 v6 h = some o) (hK : (lpK (w_X4_init_24 l G Q X p0 p4 v5) (fiV Q)) o) : mW l G m_X4_init 1 0 0 24 [some (.ref p0), none, some (.int v2), some (.int v3), some (.ref p4), some (.int v5), some (.int v6), none] [] h Q X := by
  unfold b0_X4_init_24 at E
  refine q_iload dX4_init_24 rfl ?_
  refine q_iload dX4_init_26 rfl ?_
  refine q_icmp_ge (tgt := 76) dX4_init_28 (by decide) (fun z1 => ?_) (fun z1 => ?_)
  · replace E := ite_t E z1
    refine q_aload_n dX4_init_76 rfl ?_
    refine q_iload_n dX4_init_77 rfl ?_
    replace E := grd_some E
    obtain ⟨g2, E⟩ := E
    replace E := bnd_x E
    obtain ⟨h3, eh3, E⟩ := E
    refine r_putI (hh := eh3) dX4_init_78 FX4_22 g2 rfl rfl (hf := Or.inr ⟨rfl, fun _ _ _ q => (Prod.mk.inj (Option.some.inj q)).1.symm⟩) ?_
    refine q_aload_n dX4_init_81 rfl ?_
    refine q_iload_n dX4_init_82 rfl ?_
    replace E := grd_some E
    obtain ⟨g4, E⟩ := E
    replace E := bnd_x E
    obtain ⟨h5, eh5, E⟩ := E
    refine r_putI (hh := eh5) dX4_init_83 FX4_26 g4 rfl rfl (hf := Or.inr ⟨rfl, fun _ _ _ q => (Prod.mk.inj (Option.some.inj q)).1.symm⟩) ?_
    cases E
    exact q_return dX4_init_86 rfl hK
  · replace E := ite_f E z1
    refine q_aload dX4_init_31 rfl ?_
    refine q_iload dX4_init_33 rfl ?_
    replace E := grd_some E
    obtain ⟨g6, E⟩ := E
    replace E := grd_some E
    obtain ⟨g7, E⟩ := E
    refine r_caload dX4_init_35 g6 g7 ?_
    replace E := bnd_x E
    obtain ⟨x8, ex8, E⟩ := E
    refine r_istore dX4_init_36 (by decide) ex8 (ls' := [some (.ref p0), none, some (.int v2), some (.int v3), some (.ref p4), some (.int v5), some (.int v6), some (.int x8)]) rfl ?_
    refine q_iload_n dX4_init_38 rfl ?_
    refine q_iload dX4_init_39 rfl ?_
    replace E := cal_some E
    obtain ⟨x10, h9, hc, E⟩ := E
    refine r_callSN1 (mc := 0) (ms := 0) dX4_init_41 KX4_15 (c_X11_isLetter hc) (by decide) (Nat.le_of_ble_eq_true rfl) (fun _ _ q => q.elim) ?_
    rintro _ _ ⟨rfl, rfl⟩
    clear hc
    refine q_if_eq (tgt := 51) dX4_init_44 (by decide) (fun z11 => ?_) (fun z11 => ?_)
    · replace E := ite_t E z11
      refine q_iconst dX4_init_51 ?_
      exact r_fewer [some (.ref p0), none, none, some (.int v3), some (.ref p4), some (.int v5), some (.int v6), some (.int x8)] (ls_s (ls_n (ls_n (ls_s (ls_s (ls_s (ls_s (ls_s ls_0)))))))) (s_X4_init_52 p0 v3 p4 v5 v6 x8 (Int32.ofInt 0) v2 h9 E hK)
    · replace E := ite_f E z11
      refine q_iconst dX4_init_47 ?_
      refine q_goto (tgt := 52) dX4_init_48 (by decide) ?_
      exact r_fewer [some (.ref p0), none, none, some (.int v3), some (.ref p4), some (.int v5), some (.int v6), some (.int x8)] (ls_s (ls_n (ls_n (ls_s (ls_s (ls_s (ls_s (ls_s ls_0)))))))) (s_X4_init_52 p0 v3 p4 v5 v6 x8 (Int32.ofInt 1) v2 h9 E hK)
theorem s_X4_init_24 {l : Launch} {G : mG} {Q : Option Value → mH → Prop} {X : String → mH → Prop} (p0 : Nat) (v2 : Int32) (v3 : Int32) (p4 : Nat) (v5 : Int32) (v6 : Int32) (h : mH) {o : Unit × mH} (E : g_X4_init_24 p0 v2 v3 p4 v5 v6 h = some o) (hK : (fiV Q) o) : mW l G m_X4_init 1 0 0 24 [some (.ref p0), none, some (.int v2), some (.int v3), some (.ref p4), some (.int v5), some (.int v6), none] [] h Q X :=
  (lp_go (w_X4_init_24 l G Q X p0 p4 v5) (fiV Q) (b_X4_init_24 p0 p4 v5) (fun s o E hK => sb_X4_init_24 p0 s.1 s.2.1 p4 v5 s.2.2.1 (s.2.2.2) E hK) _ _ _ E hK : w_X4_init_24 l G Q X p0 p4 v5 (v2, v3, v6, h))
set_option maxRecDepth 100000 in
set_option maxHeartbeats 4000000 in
theorem s_X4_init_0 {l : Launch} {G : mG} {Q : Option Value → mH → Prop} {X : String → mH → Prop} (p0 : Nat) (p1 : Nat) (h : mH) {o : Unit × mH} (E : f_X4_init p0 p1 h = some o) (hK : (fiV Q) o) : mW l G m_X4_init 1 0 0 0 [some (.ref p0), some (.ref p1), none, none, none, none, none, none] [] h Q X := by
  unfold f_X4_init at E
  refine q_aload_n dX4_init_0 rfl ?_
  refine q_objInit dX4_init_1 OX4_3 objW1 objW2 (Nat.le_of_ble_eq_true rfl) ?_
  refine q_aload_n dX4_init_4 rfl ?_
  refine q_aload_n dX4_init_5 rfl ?_
  replace E := grd_some E
  obtain ⟨g1, E⟩ := E
  replace E := bnd_x E
  obtain ⟨h2, eh2, E⟩ := E
  refine r_putR (hh := eh2) dX4_init_6 FX4_9 g1 (hf := Or.inr ⟨rfl, fun _ _ _ q => (Prod.mk.inj (Option.some.inj q)).1.symm⟩) ?_
  refine q_iconst dX4_init_9 ?_
  refine r_istore_n dX4_init_10 (by decide) rfl (ls' := [some (.ref p0), some (.ref p1), some (.int (Int32.ofInt 0)), none, none, none, none, none]) rfl ?_
  refine q_iconst dX4_init_11 ?_
  refine r_istore_n dX4_init_12 (by decide) rfl (ls' := [some (.ref p0), some (.ref p1), some (.int (Int32.ofInt 0)), some (.int (Int32.ofInt 0)), none, none, none, none]) rfl ?_
  refine q_aload_n dX4_init_13 rfl ?_
  refine r_astore dX4_init_14 (by decide) (ls' := [some (.ref p0), some (.ref p1), some (.int (Int32.ofInt 0)), some (.int (Int32.ofInt 0)), some (.ref p1), none, none, none]) rfl ?_
  refine q_aload dX4_init_16 rfl ?_
  replace E := grd_some E
  obtain ⟨g3, E⟩ := E
  refine r_alen (t0 := 2) dX4_init_18 rfl g3 ?_
  replace E := bnd_x E
  obtain ⟨x4, ex4, E⟩ := E
  refine r_istore dX4_init_19 (by decide) ex4 (ls' := [some (.ref p0), some (.ref p1), some (.int (Int32.ofInt 0)), some (.int (Int32.ofInt 0)), some (.ref p1), some (.int x4), none, none]) rfl ?_
  refine q_iconst dX4_init_21 ?_
  refine r_istore dX4_init_22 (by decide) rfl (ls' := [some (.ref p0), some (.ref p1), some (.int (Int32.ofInt 0)), some (.int (Int32.ofInt 0)), some (.ref p1), some (.int x4), some (.int (Int32.ofInt 0)), none]) rfl ?_
  exact r_fewer [some (.ref p0), none, some (.int (Int32.ofInt 0)), some (.int (Int32.ofInt 0)), some (.ref p1), some (.int x4), some (.int (Int32.ofInt 0)), none] (ls_s (ls_n (ls_s (ls_s (ls_s (ls_s (ls_s (ls_n ls_0)))))))) (s_X4_init_24 p0 (Int32.ofInt 0) (Int32.ofInt 0) p1 x4 (Int32.ofInt 0) h2 E hK)
theorem c_X4_init {l : Launch} {G : mG} {p0 : Nat} {p1 : Nat} {h h' : mH} {r : Unit} (E : f_X4_init p0 p1 h = some (r, h')) : mMet l G m_X4_init 1 0 0 [.ref p0, .ref p1] h (fun v k => v = none ∧ h' = k) (fun _ _ => False) :=
  mMet_of (by decide +kernel) rfl (ac_c rfl (ac_c rfl ac_0)) (Nat.le_of_ble_eq_true rfl) (s_X4_init_0 p0 p1 h E (And.intro rfl rfl))
set_option maxRecDepth 100000 in
set_option maxHeartbeats 4000000 in
theorem s_X2_read_69 {l : Launch} {G : mG} {Q : Option Value → mH → Prop} {X : String → mH → Prop} (p0 : Nat) (p1 : Nat) (v3 : Int32) (v4 : Int32) (h : mH) {o : ((Int32 × Int32 × mH) ⊕ (Option Nat × mH))} (E : g_X2_read_69 p0 p1 v3 v4 h = some o) (hK : (lpK (w_X2_read_17 l G Q X p0 p1) (fiR Q)) o) : mW l G m_X2_read 4 2 258 69 [some (.ref p0), some (.ref p1), none, some (.int v3), some (.int v4)] [] h Q X := by
  unfold g_X2_read_69 at E
  refine q_aload_n dX2_read_69 rfl ?_
  refine q_iload dX2_read_70 rfl ?_
  replace E := grd_some E
  obtain ⟨g3, E⟩ := E
  replace E := cal_some E
  obtain ⟨_, h1, hc, E⟩ := E
  refine r_callV1 (mc := 2) (ms := 258) dX2_read_72 KX2_57 (c_X2_takeCharacter hc) g3 (by decide) (Nat.le_of_ble_eq_true rfl) (fun _ _ q => q.elim) ?_
  rintro _ _ ⟨rfl, rfl⟩
  clear hc
  refine q_iload dX2_read_75 rfl ?_
  refine r_istore_n dX2_read_77 (by decide) rfl (ls' := [some (.ref p0), some (.ref p1), some (.int v4), some (.int v3), some (.int v4)]) rfl ?_
  replace E := bnd_x E
  obtain ⟨x4, ex4, E⟩ := E
  refine r_iinc (v := x4) dX2_read_78 rfl ex4 (by decide) (ls' := [some (.ref p0), some (.ref p1), some (.int v4), some (.int x4), some (.int v4)]) rfl ?_
  refine q_goto (tgt := 17) dX2_read_81 (by decide) ?_
  cases E
  exact r_fewer [some (.ref p0), some (.ref p1), some (.int v4), some (.int x4), none] (ls_s (ls_s (ls_s (ls_s (ls_n ls_0))))) hK
set_option maxRecDepth 100000 in
set_option maxHeartbeats 4000000 in
theorem s_X2_read_54 {l : Launch} {G : mG} {Q : Option Value → mH → Prop} {X : String → mH → Prop} (p0 : Nat) (p1 : Nat) (v3 : Int32) (v4 : Int32) (h : mH) {o : ((Int32 × Int32 × mH) ⊕ (Option Nat × mH))} (E : g_X2_read_54 p0 p1 v3 v4 h = some o) (hK : (lpK (w_X2_read_17 l G Q X p0 p1) (fiR Q)) o) : mW l G m_X2_read 4 2 258 54 [some (.ref p0), some (.ref p1), none, some (.int v3), some (.int v4)] [] h Q X := by
  unfold g_X2_read_54 at E
  refine q_aload_n dX2_read_54 rfl ?_
  refine q_bipush (v := (Int32.ofInt 46)) dX2_read_55 (by decide) ?_
  replace E := cal_some E
  obtain ⟨x2, h1, hc, E⟩ := E
  refine r_callS1 (mc := 2) (ms := 258) dX2_read_57 KX2_45 (c_X2_level hc) (by decide) (Nat.le_of_ble_eq_true rfl) (fun _ _ q => q.elim) ?_
  rintro _ _ ⟨rfl, rfl⟩
  clear hc
  replace E := grd_some E
  obtain ⟨g5, E⟩ := E
  replace E := cal_some E
  obtain ⟨_, h3, hc, E⟩ := E
  refine r_callV1 (mc := 2) (ms := 258) dX2_read_60 KX2_49 (c_X2_flush hc) g5 (by decide) (Nat.le_of_ble_eq_true rfl) (fun _ _ q => q.elim) ?_
  rintro _ _ ⟨rfl, rfl⟩
  clear hc
  refine q_aload_n dX2_read_63 rfl ?_
  refine q_bipush (v := (Int32.ofInt 46)) dX2_read_64 (by decide) ?_
  replace E := grd_some E
  obtain ⟨g8, E⟩ := E
  replace E := cal_some E
  obtain ⟨_, h6, hc, E⟩ := E
  refine r_callV1 (mc := 2) (ms := 258) dX2_read_66 KX2_53 (c_X2_push hc) g8 (by decide) (Nat.le_of_ble_eq_true rfl) (fun _ _ q => q.elim) ?_
  rintro _ _ ⟨rfl, rfl⟩
  clear hc
  exact r_fewer [some (.ref p0), some (.ref p1), none, some (.int v3), some (.int v4)] (ls_s (ls_s (ls_n (ls_s (ls_s ls_0))))) (s_X2_read_69 p0 p1 v3 v4 h6 E hK)
set_option maxRecDepth 100000 in
set_option maxHeartbeats 4000000 in
theorem sb_X2_read_17 {l : Launch} {G : mG} {Q : Option Value → mH → Prop} {X : String → mH → Prop} (p0 : Nat) (p1 : Nat) (v2 : Int32) (v3 : Int32) (h : mH) {o : ((Int32 × Int32 × mH) ⊕ (Option Nat × mH))} (E : b0_X2_read_17 p0 p1 v2 v3 h = some o) (hK : (lpK (w_X2_read_17 l G Q X p0 p1) (fiR Q)) o) : mW l G m_X2_read 4 2 258 17 [some (.ref p0), some (.ref p1), some (.int v2), some (.int v3), none] [] h Q X := by
  unfold b0_X2_read_17 at E
  refine q_iload_n dX2_read_17 rfl ?_
  refine q_aload_n dX2_read_18 rfl ?_
  replace E := grd_some E
  obtain ⟨g3, E⟩ := E
  replace E := cal_some E
  obtain ⟨x2, h1, hc, E⟩ := E
  refine r_callV0 (mc := 2) (ms := 258) dX2_read_19 KX2_31 (c_X9_end hc) g3 (by decide) (Nat.le_of_ble_eq_true rfl) (fun _ _ q => q.elim) ?_
  rintro _ _ ⟨rfl, rfl⟩
  clear hc
  refine q_icmp_ge (tgt := 84) dX2_read_22 (by decide) (fun z4 => ?_) (fun z4 => ?_)
  · replace E := ite_t E z4
    refine q_aload_n dX2_read_84 rfl ?_
    refine q_bipush (v := (Int32.ofInt 124)) dX2_read_85 (by decide) ?_
    replace E := cal_some E
    obtain ⟨x6, h5, hc, E⟩ := E
    refine r_callS1 (mc := 2) (ms := 258) dX2_read_87 KX2_45 (c_X2_level hc) (by decide) (Nat.le_of_ble_eq_true rfl) (fun _ _ q => q.elim) ?_
    rintro _ _ ⟨rfl, rfl⟩
    clear hc
    replace E := grd_some E
    obtain ⟨g9, E⟩ := E
    replace E := cal_some E
    obtain ⟨_, h7, hc, E⟩ := E
    refine r_callV1 (mc := 2) (ms := 258) dX2_read_90 KX2_49 (c_X2_flush hc) g9 (by decide) (Nat.le_of_ble_eq_true rfl) (fun _ _ q => q.elim) ?_
    rintro _ _ ⟨rfl, rfl⟩
    clear hc
    refine q_iconst dX2_read_93 ?_
    refine q_aload_n dX2_read_94 rfl ?_
    replace E := grd_some E
    obtain ⟨g10, E⟩ := E
    refine r_getI dX2_read_95 FX2_22 g10 ?_
    refine q_aload_n dX2_read_98 rfl ?_
    replace E := orf_some E
    obtain ⟨a11, ea11, E⟩ := E
    refine r_getR dX2_read_99 FX2_15 g10 ea11 ?_
    replace E := grd_some E
    obtain ⟨g12, E⟩ := E
    refine r_alen (t0 := 2) dX2_read_102 rfl g12 ?_
    refine q_mmin dX2_read_103 XX2_60 (Nat.le_of_ble_eq_true rfl) ?_
    refine q_mmax dX2_read_106 XX2_66 (Nat.le_of_ble_eq_true rfl) ?_
    replace E := bnd_x E
    obtain ⟨x13, ex13, E⟩ := E
    refine r_istore_n dX2_read_109 (by decide) ex13 (ls' := [some (.ref p0), some (.ref p1), some (.int v2), some (.int x13), none]) rfl ?_
    refine q_iload_n dX2_read_110 rfl ?_
    replace E := grd_some E
    obtain ⟨g14, E⟩ := E
    replace E := bnd_x E
    obtain ⟨a15, ea15, E⟩ := E
    replace E := bnd_x E
    obtain ⟨h16, eh16, E⟩ := E
    refine r_newarray (n := 255) (t0 := 2) (hq := ea15) (hh := eh16) dX2_read_111 W_char rfl rfl (by decide) g14 (by decide) ?_
    refine r_astore dX2_read_113 (by decide) (ls' := [some (.ref p0), some (.ref p1), some (.int v2), some (.int x13), some (.ref a15)]) rfl ?_
    refine q_aload_n dX2_read_115 rfl ?_
    replace E := grd_some E
    obtain ⟨g17, E⟩ := E
    replace E := orf_some E
    obtain ⟨a18, ea18, E⟩ := E
    refine r_getR dX2_read_116 FX2_15 g17 ea18 ?_
    refine q_iconst dX2_read_119 ?_
    refine q_aload dX2_read_120 rfl ?_
    refine q_iconst dX2_read_122 ?_
    refine q_iload_n dX2_read_123 rfl ?_
    replace E := grd_some E
    obtain ⟨g19, E⟩ := E
    replace E := grd_some E
    obtain ⟨g20, E⟩ := E
    replace E := grd_some E
    obtain ⟨g21, E⟩ := E
    replace E := grd_some E
    obtain ⟨g22, E⟩ := E
    replace E := bnd_x E
    obtain ⟨h23, eh23, E⟩ := E
    refine r_copy (t0 := 2) dX2_read_124 AX2_69 rfl (by decide) rfl g19 g20 g21 g22 eh23 (Nat.le_of_ble_eq_true rfl) ?_
    replace E := bnd_x E
    obtain ⟨a24, ea24, E⟩ := E
    replace E := bnd_x E
    obtain ⟨h25, eh25, E⟩ := E
    refine r_new (hq := ea24) (hh := eh25) dX2_read_127 CX2_75 ?_
    refine q_dup dX2_read_130 ?_
    refine q_aload dX2_read_131 rfl ?_
    replace E := cal_some E
    obtain ⟨_, h26, hc, E⟩ := E
    refine r_callI1 (mc := 0) (ms := 0) dX2_read_133 KX2_77 (c_X4_init hc) (by decide) (Nat.le_of_ble_eq_true rfl) (fun _ _ q => q.elim) ?_
    rintro _ _ ⟨rfl, rfl⟩
    clear hc
    cases E
    exact q_areturn (v := (some a24)) dX2_read_136 rfl (by first | exact Or.inl ⟨_, rfl⟩ | exact Or.inr ⟨_, rfl⟩) hK
  · replace E := ite_f E z4
    refine q_aload_n dX2_read_25 rfl ?_
    refine q_iload_n dX2_read_26 rfl ?_
    replace E := grd_some E
    obtain ⟨g30, E⟩ := E
    replace E := cal_some E
    obtain ⟨x29, h28, hc, E⟩ := E
    refine r_callV1 (mc := 2) (ms := 258) dX2_read_27 KX2_34 (c_X9_character hc) g30 (by decide) (Nat.le_of_ble_eq_true rfl) (fun _ _ q => q.elim) ?_
    rintro _ _ ⟨rfl, rfl⟩
    clear hc
    refine r_istore dX2_read_30 (by decide) rfl (ls' := [some (.ref p0), some (.ref p1), some (.int v2), some (.int v3), some (.int x29)]) rfl ?_
    refine q_iload_n dX2_read_32 rfl ?_
    replace E := cal_some E
    obtain ⟨x32, h31, hc, E⟩ := E
    refine r_callS1 (mc := 2) (ms := 258) dX2_read_33 KX2_38 (c_X9_endsFactor hc) (by decide) (Nat.le_of_ble_eq_true rfl) (fun _ _ q => q.elim) ?_
    rintro _ _ ⟨rfl, rfl⟩
    clear hc
    refine q_if_eq (tgt := 69) dX2_read_36 (by decide) (fun z33 => ?_) (fun z33 => ?_)
    · replace E := ite_t E z33
      exact r_fewer [some (.ref p0), some (.ref p1), none, some (.int v3), some (.int x29)] (ls_s (ls_s (ls_n (ls_s (ls_s ls_0))))) (s_X2_read_69 p0 p1 v3 x29 h31 E hK)
    · replace E := ite_f E z33
      refine q_iload dX2_read_39 rfl ?_
      replace E := cal_some E
      obtain ⟨x35, h34, hc, E⟩ := E
      refine r_callSN1 (mc := 2) (ms := 258) dX2_read_41 KX2_42 (c_X11_isLetter hc) (by decide) (Nat.le_of_ble_eq_true rfl) (fun _ _ q => q.elim) ?_
      rintro _ _ ⟨rfl, rfl⟩
      clear hc
      refine q_if_ne (tgt := 54) dX2_read_44 (by decide) (fun z36 => ?_) (fun z36 => ?_)
      · replace E := ite_f E z36
        exact r_fewer [some (.ref p0), some (.ref p1), none, some (.int v3), some (.int x29)] (ls_s (ls_s (ls_n (ls_s (ls_s ls_0))))) (s_X2_read_54 p0 p1 v3 x29 h34 E hK)
      · replace E := ite_t E z36
        refine q_iload dX2_read_47 rfl ?_
        refine q_bipush (v := (Int32.ofInt 40)) dX2_read_49 (by decide) ?_
        refine q_icmp_ne (tgt := 69) dX2_read_51 (by decide) (fun z37 => ?_) (fun z37 => ?_)
        · replace E := ite_f E z37
          exact r_fewer [some (.ref p0), some (.ref p1), none, some (.int v3), some (.int x29)] (ls_s (ls_s (ls_n (ls_s (ls_s ls_0))))) (s_X2_read_69 p0 p1 v3 x29 h34 E hK)
        · replace E := ite_t E z37
          exact r_fewer [some (.ref p0), some (.ref p1), none, some (.int v3), some (.int x29)] (ls_s (ls_s (ls_n (ls_s (ls_s ls_0))))) (s_X2_read_54 p0 p1 v3 x29 h34 E hK)
theorem s_X2_read_17 {l : Launch} {G : mG} {Q : Option Value → mH → Prop} {X : String → mH → Prop} (p0 : Nat) (p1 : Nat) (v2 : Int32) (v3 : Int32) (h : mH) {o : Option Nat × mH} (E : g_X2_read_17 p0 p1 v2 v3 h = some o) (hK : (fiR Q) o) : mW l G m_X2_read 4 2 258 17 [some (.ref p0), some (.ref p1), some (.int v2), some (.int v3), none] [] h Q X :=
  (lp_go (w_X2_read_17 l G Q X p0 p1) (fiR Q) (b_X2_read_17 p0 p1) (fun s o E hK => sb_X2_read_17 p0 p1 s.1 s.2.1 (s.2.2) E hK) _ _ _ E hK : w_X2_read_17 l G Q X p0 p1 (v2, v3, h))
set_option maxRecDepth 100000 in
set_option maxHeartbeats 4000000 in
theorem s_X2_read_0 {l : Launch} {G : mG} {Q : Option Value → mH → Prop} {X : String → mH → Prop} (p0 : Nat) (p1 : Nat) (h : mH) {o : Option Nat × mH} (E : f_X2_read p0 p1 h = some o) (hK : (fiR Q) o) : mW l G m_X2_read 4 2 258 0 [some (.ref p0), some (.ref p1), none, none, none] [] h Q X := by
  unfold f_X2_read at E
  refine q_aload_n dX2_read_0 rfl ?_
  refine q_iconst dX2_read_1 ?_
  replace E := grd_some E
  obtain ⟨g1, E⟩ := E
  replace E := bnd_x E
  obtain ⟨h2, eh2, E⟩ := E
  refine r_putI (hh := eh2) dX2_read_2 FX2_18 g1 rfl rfl ?_
  refine q_aload_n dX2_read_5 rfl ?_
  refine q_iconst dX2_read_6 ?_
  replace E := grd_some E
  obtain ⟨g3, E⟩ := E
  replace E := bnd_x E
  obtain ⟨h4, eh4, E⟩ := E
  refine r_putI (hh := eh4) dX2_read_7 FX2_22 g3 rfl rfl ?_
  refine q_iconst dX2_read_10 ?_
  refine r_istore_n dX2_read_11 (by decide) rfl (ls' := [some (.ref p0), some (.ref p1), some (.int (Int32.ofInt 0)), none, none]) rfl ?_
  refine q_aload_n dX2_read_12 rfl ?_
  replace E := grd_some E
  obtain ⟨g7, E⟩ := E
  replace E := cal_some E
  obtain ⟨x6, h5, hc, E⟩ := E
  refine r_callV0 (mc := 2) (ms := 258) dX2_read_13 KX2_25 (c_X9_start hc) g7 (by decide) (Nat.le_of_ble_eq_true rfl) (fun _ _ q => q.elim) ?_
  rintro _ _ ⟨rfl, rfl⟩
  clear hc
  refine r_istore_n dX2_read_16 (by decide) rfl (ls' := [some (.ref p0), some (.ref p1), some (.int (Int32.ofInt 0)), some (.int x6), none]) rfl ?_
  exact r_fewer [some (.ref p0), some (.ref p1), some (.int (Int32.ofInt 0)), some (.int x6), none] (ls_s (ls_s (ls_s (ls_s (ls_n ls_0))))) (s_X2_read_17 p0 p1 (Int32.ofInt 0) x6 h5 E hK)
theorem c_X2_read {l : Launch} {G : mG} {p0 : Nat} {p1 : Nat} {h h' : mH} {r : Option Nat} (E : f_X2_read p0 p1 h = some (r, h')) : mMet l G m_X2_read 4 2 258 [.ref p0, .ref p1] h (fun v k => v = some (va_rf r) ∧ h' = k) (fun _ _ => False) :=
  mMet_of (by decide +kernel) rfl (ac_c rfl (ac_c rfl ac_0)) (Nat.le_of_ble_eq_true rfl) (s_X2_read_0 p0 p1 h E (And.intro rfl rfl))
set_option maxRecDepth 100000 in
set_option maxHeartbeats 4000000 in
theorem s_X2_writeSigns_27 {l : Launch} {G : mG} {Q : Option Value → mH → Prop} {X : String → mH → Prop} (p0 : Nat) (p1 : Nat) (v2 : Int32) (h : mH) {o : ((Int32 × mH) ⊕ (Unit × mH))} {c m c2 m2 : Nat} (E : g_X2_writeSigns_27 p0 p1 v2 h = some (o, c, m)) (hK : (lpKC (w_X2_writeSigns_5 l G Q X p0 p1) (fun o (_ _ : Nat) => (fiV Q) o)) o c2 m2) : mW l G m_X2_writeSigns 5 (c2 + c) (m2 + m) 27 [some (.ref p0), some (.ref p1), some (.int v2)] [] h Q X := by
  unfold g_X2_writeSigns_27 at E
  refine q_aload_n dX2_writeSigns_27 rfl ?_
  refine q_aload_n dX2_writeSigns_28 rfl ?_
  replace E := grd_some E
  obtain ⟨g3, E⟩ := E
  replace E := cal_some E
  obtain ⟨x2, h1, hc, E⟩ := E
  refine q_room (d' := 5) (mc' := 0 + (c2 + c)) (ms' := 0 + (m2 + m)) (Nat.le_refl _) (by omega) (by omega) ?_
  refine r_callV0 (mc := c2 + c) (ms := m2 + m) dX2_writeSigns_29 KX2_94 (c_X2_pop hc) g3 (by decide) (Nat.le_of_ble_eq_true rfl) (fun _ _ q => q.elim) ?_
  rintro _ _ ⟨rfl, rfl⟩
  clear hc
  replace E := grd_some E
  obtain ⟨g6, E⟩ := E
  replace E := calC_some E
  obtain ⟨o5, h4, ch4, mh4, hc, E⟩ := E
  replace E := adc_some E
  obtain ⟨c_1, m_1, ec_1, em_1, E⟩ := E
  refine q_room (d' := 5) (mc' := ch4 + (c2 + c_1)) (ms' := mh4 + (m2 + m_1)) (Nat.le_refl _) (by omega) (by omega) ?_
  refine r_callV1 (mc := c2 + c_1) (ms := m2 + m_1) dX2_writeSigns_32 KX2_115 (c_J4_append_cf468 hc (Nat.le_refl _) (Nat.le_refl _)) g6 (by decide) (Nat.le_of_ble_eq_true rfl) (fun _ _ q => q.elim) ?_
  rintro _ _ ⟨rfl, rfl⟩
  clear hc
  refine q_pop (h1 := r_cat _) dX2_writeSigns_35 ?_
  replace E := bnd_x E
  obtain ⟨x7, ex7, E⟩ := E
  refine r_iinc (v := x7) dX2_writeSigns_36 rfl ex7 (by decide) (ls' := [some (.ref p0), some (.ref p1), some (.int x7)]) rfl ?_
  refine q_goto (tgt := 5) dX2_writeSigns_39 (by decide) ?_
  cases E
  exact r_fewer [some (.ref p0), some (.ref p1), some (.int x7)] (ls_s (ls_s (ls_s ls_0))) hK
set_option maxRecDepth 100000 in
set_option maxHeartbeats 4000000 in
theorem s_X2_writeSigns_42 {l : Launch} {G : mG} {Q : Option Value → mH → Prop} {X : String → mH → Prop} (h : mH) {o : Unit × mH} {c m c2 m2 : Nat} (E : g_X2_writeSigns_42  h = some (o, c, m)) (hK : (fun o (_ _ : Nat) => (fiV Q) o) o c2 m2) : mW l G m_X2_writeSigns 5 (c2 + c) (m2 + m) 42 [none, none, none] [] h Q X := by
  unfold g_X2_writeSigns_42 at E
  cases E
  exact q_return dX2_writeSigns_42 rfl hK
set_option maxRecDepth 100000 in
set_option maxHeartbeats 4000000 in
theorem sb_X2_writeSigns_5 {l : Launch} {G : mG} {Q : Option Value → mH → Prop} {X : String → mH → Prop} (p0 : Nat) (p1 : Nat) (v2 : Int32) (h : mH) {o : ((Int32 × mH) ⊕ (Unit × mH))} {c m c2 m2 : Nat} (E : b0_X2_writeSigns_5 p0 p1 v2 h = some (o, c, m)) (hK : (lpKC (w_X2_writeSigns_5 l G Q X p0 p1) (fun o (_ _ : Nat) => (fiV Q) o)) o c2 m2) : mW l G m_X2_writeSigns 5 (c2 + c) (m2 + m) 5 [some (.ref p0), some (.ref p1), some (.int v2)] [] h Q X := by
  unfold b0_X2_writeSigns_5 at E
  refine q_iload_n dX2_writeSigns_5 rfl ?_
  refine q_if_le (tgt := 42) dX2_writeSigns_6 (by decide) (fun z1 => ?_) (fun z1 => ?_)
  · replace E := ite_t E z1
    obtain ⟨o0, E0, rfl⟩ := inrC_some E
    exact r_fewer [none, none, none] (ls_n (ls_n (ls_n ls_0))) (s_X2_writeSigns_42 h E0 hK)
  · replace E := ite_f E z1
    refine q_aload_n dX2_writeSigns_9 rfl ?_
    replace E := grd_some E
    obtain ⟨g4, E⟩ := E
    replace E := cal_some E
    obtain ⟨x3, h2, hc, E⟩ := E
    refine q_room (d' := 5) (mc' := 0 + (c2 + c)) (ms' := 0 + (m2 + m)) (Nat.le_refl _) (by omega) (by omega) ?_
    refine r_callV0 (mc := c2 + c) (ms := m2 + m) dX2_writeSigns_10 KX2_112 (c_X2_top hc) g4 (by decide) (Nat.le_of_ble_eq_true rfl) (fun _ _ q => q.elim) ?_
    rintro _ _ ⟨rfl, rfl⟩
    clear hc
    refine q_bipush (v := (Int32.ofInt 40)) dX2_writeSigns_13 (by decide) ?_
    refine q_icmp_eq (tgt := 27) dX2_writeSigns_15 (by decide) (fun z5 => ?_) (fun z5 => ?_)
    · replace E := ite_t E z5
      exact r_fewer [some (.ref p0), some (.ref p1), some (.int v2)] (ls_s (ls_s (ls_s ls_0))) (s_X2_writeSigns_27 p0 p1 v2 h2 E hK)
    · replace E := ite_f E z5
      refine q_aload_n dX2_writeSigns_18 rfl ?_
      replace E := grd_some E
      obtain ⟨g8, E⟩ := E
      replace E := cal_some E
      obtain ⟨x7, h6, hc, E⟩ := E
      refine q_room (d' := 5) (mc' := 0 + (c2 + c)) (ms' := 0 + (m2 + m)) (Nat.le_refl _) (by omega) (by omega) ?_
      refine r_callV0 (mc := c2 + c) (ms := m2 + m) dX2_writeSigns_19 KX2_112 (c_X2_top hc) g8 (by decide) (Nat.le_of_ble_eq_true rfl) (fun _ _ q => q.elim) ?_
      rintro _ _ ⟨rfl, rfl⟩
      clear hc
      refine q_bipush (v := (Int32.ofInt 124)) dX2_writeSigns_22 (by decide) ?_
      refine q_icmp_ne (tgt := 42) dX2_writeSigns_24 (by decide) (fun z9 => ?_) (fun z9 => ?_)
      · replace E := ite_f E z9
        obtain ⟨o0, E0, rfl⟩ := inrC_some E
        exact r_fewer [none, none, none] (ls_n (ls_n (ls_n ls_0))) (s_X2_writeSigns_42 h6 E0 hK)
      · replace E := ite_t E z9
        exact r_fewer [some (.ref p0), some (.ref p1), some (.int v2)] (ls_s (ls_s (ls_s ls_0))) (s_X2_writeSigns_27 p0 p1 v2 h6 E hK)
theorem s_X2_writeSigns_5 {l : Launch} {G : mG} {Q : Option Value → mH → Prop} {X : String → mH → Prop} (p0 : Nat) (p1 : Nat) (v2 : Int32) (h : mH) {o : Unit × mH} {c m c2 m2 : Nat} (E : g_X2_writeSigns_5 p0 p1 v2 h = some (o, c, m)) (hK : (fun o (_ _ : Nat) => (fiV Q) o) o c2 m2) : mW l G m_X2_writeSigns 5 (c2 + c) (m2 + m) 5 [some (.ref p0), some (.ref p1), some (.int v2)] [] h Q X :=
  (lpC_go (w_X2_writeSigns_5 l G Q X p0 p1) (fun o (_ _ : Nat) => (fiV Q) o) (b_X2_writeSigns_5 p0 p1) (fun s o c m c2 m2 E hK => sb_X2_writeSigns_5 p0 p1 s.1 (s.2) E hK) _ _ _ _ _ _ _ E hK : w_X2_writeSigns_5 l G Q X p0 p1 (v2, h) (c2 + c) (m2 + m))
set_option maxRecDepth 100000 in
set_option maxHeartbeats 4000000 in
theorem s_X2_writeSigns_0 {l : Launch} {G : mG} {Q : Option Value → mH → Prop} {X : String → mH → Prop} (p0 : Nat) (p1 : Nat) (h : mH) {o : Unit × mH} {c m c2 m2 : Nat} (E : f_X2_writeSigns p0 p1 h = some (o, c, m)) (hK : (fun o (_ _ : Nat) => (fiV Q) o) o c2 m2) : mW l G m_X2_writeSigns 5 (c2 + c) (m2 + m) 0 [some (.ref p0), some (.ref p1), none] [] h Q X := by
  unfold f_X2_writeSigns at E
  refine q_aload_n dX2_writeSigns_0 rfl ?_
  replace E := grd_some E
  obtain ⟨g1, E⟩ := E
  refine r_getI dX2_writeSigns_1 FX2_18 g1 ?_
  replace E := bnd_x E
  obtain ⟨x2, ex2, E⟩ := E
  refine r_istore_n dX2_writeSigns_4 (by decide) ex2 (ls' := [some (.ref p0), some (.ref p1), some (.int x2)]) rfl ?_
  exact r_fewer [some (.ref p0), some (.ref p1), some (.int x2)] (ls_s (ls_s (ls_s ls_0))) (s_X2_writeSigns_5 p0 p1 x2 h E hK)
theorem c_X2_writeSigns {l : Launch} {G : mG} {p0 : Nat} {p1 : Nat} {h h' : mH} {r : Unit} {c m B1 B2 : Nat} (E : f_X2_writeSigns p0 p1 h = some ((r, h'), c, m)) (hb1 : c ≤ B1) (hb2 : m ≤ B2) : mMet l G m_X2_writeSigns 5 B1 B2 [.ref p0, .ref p1] h (fun v k => v = none ∧ h' = k) (fun _ _ => False) :=
  mMet_of (by decide +kernel) rfl (ac_c rfl (ac_c rfl ac_0)) (Nat.le_of_ble_eq_true rfl) (q_room (mc' := 0 + c) (ms' := 0 + m) (Nat.le_refl _) (by omega) (by omega) (s_X2_writeSigns_0 p0 p1 h E (And.intro rfl rfl)))
set_option maxRecDepth 100000 in
set_option maxHeartbeats 4000000 in
theorem s_X2_writePart_105 {l : Launch} {G : mG} {Q : Option Value → mH → Prop} {X : String → mH → Prop} (h : mH) {o : Unit × mH} {c m c2 m2 : Nat} (E : g_X2_writePart_105  h = some (o, c, m)) (hK : (fun o (_ _ : Nat) => (fiV Q) o) o c2 m2) : mW l G m_X2_writePart 5 (c2 + c) (m2 + m) 105 [none, none, none, none] [] h Q X := by
  unfold g_X2_writePart_105 at E
  cases E
  exact q_return dX2_writePart_105 rfl hK
set_option maxRecDepth 100000 in
set_option maxHeartbeats 4000000 in
theorem s_X2_writePart_38 {l : Launch} {G : mG} {Q : Option Value → mH → Prop} {X : String → mH → Prop} (p0 : Nat) (v1 : Int32) (p3 : Nat) (h : mH) {o : Unit × mH} {c m c2 m2 : Nat} (E : g_X2_writePart_38 p0 v1 p3 h = some (o, c, m)) (hK : (fun o (_ _ : Nat) => (fiV Q) o) o c2 m2) : mW l G m_X2_writePart 5 (c2 + c) (m2 + m) 38 [some (.ref p0), some (.int v1), none, some (.ref p3)] [] h Q X := by
  unfold g_X2_writePart_38 at E
  refine q_iload_n dX2_writePart_38 rfl ?_
  refine q_bipush (v := (Int32.ofInt 124)) dX2_writePart_39 (by decide) ?_
  refine q_icmp_ne (tgt := 65) dX2_writePart_41 (by decide) (fun z1 => ?_) (fun z1 => ?_)
  · replace E := ite_f E z1
    refine q_iload_n dX2_writePart_65 rfl ?_
    refine q_bipush (v := (Int32.ofInt 46)) dX2_writePart_66 (by decide) ?_
    refine q_icmp_ne (tgt := 86) dX2_writePart_68 (by decide) (fun z2 => ?_) (fun z2 => ?_)
    · replace E := ite_f E z2
      refine q_aload_n dX2_writePart_86 rfl ?_
      refine q_iload_n dX2_writePart_87 rfl ?_
      replace E := grd_some E
      obtain ⟨g5, E⟩ := E
      replace E := calC_some E
      obtain ⟨o4, h3, ch3, mh3, hc, E⟩ := E
      replace E := adc_some E
      obtain ⟨c_1, m_1, ec_1, em_1, E⟩ := E
      refine q_room (d' := 5) (mc' := ch3 + (c2 + c_1)) (ms' := mh3 + (m2 + m_1)) (Nat.le_refl _) (by omega) (by omega) ?_
      refine r_callV1 (mc := c2 + c_1) (ms := m2 + m_1) dX2_writePart_88 KX2_115 (c_J4_append_cf468 hc (Nat.le_refl _) (Nat.le_refl _)) g5 (by decide) (Nat.le_of_ble_eq_true rfl) (fun _ _ q => q.elim) ?_
      rintro _ _ ⟨rfl, rfl⟩
      clear hc
      refine q_pop (h1 := r_cat _) dX2_writePart_91 ?_
      refine q_iload_n dX2_writePart_92 rfl ?_
      replace E := cal_some E
      obtain ⟨x7, h6, hc, E⟩ := E
      refine q_room (d' := 5) (mc' := 0 + (c2 + c_1)) (ms' := 0 + (m2 + m_1)) (Nat.le_refl _) (by omega) (by omega) ?_
      refine r_callSN1 (mc := c2 + c_1) (ms := m2 + m_1) dX2_writePart_93 KX2_106 (c_X11_isSign hc) (by decide) (Nat.le_of_ble_eq_true rfl) (fun _ _ q => q.elim) ?_
      rintro _ _ ⟨rfl, rfl⟩
      clear hc
      refine q_if_eq (tgt := 105) dX2_writePart_96 (by decide) (fun z8 => ?_) (fun z8 => ?_)
      · replace E := ite_t E z8
        exact r_fewer [none, none, none, none] (ls_n (ls_n (ls_n (ls_n ls_0)))) (s_X2_writePart_105 h6 E hK)
      · replace E := ite_f E z8
        refine q_aload_n dX2_writePart_99 rfl ?_
        refine q_bipush (v := (Int32.ofInt 50)) dX2_writePart_100 (by decide) ?_
        replace E := grd_some E
        obtain ⟨g11, E⟩ := E
        replace E := cal_some E
        obtain ⟨_, h9, hc, E⟩ := E
        refine q_room (d' := 5) (mc' := 0 + (c2 + c_1)) (ms' := 0 + (m2 + m_1)) (Nat.le_refl _) (by omega) (by omega) ?_
        refine r_callV1 (mc := c2 + c_1) (ms := m2 + m_1) dX2_writePart_102 KX2_53 (c_X2_push hc) g11 (by decide) (Nat.le_of_ble_eq_true rfl) (fun _ _ q => q.elim) ?_
        rintro _ _ ⟨rfl, rfl⟩
        clear hc
        exact r_fewer [none, none, none, none] (ls_n (ls_n (ls_n (ls_n ls_0)))) (s_X2_writePart_105 h9 E hK)
    · replace E := ite_t E z2
      refine q_aload_n dX2_writePart_71 rfl ?_
      refine q_bipush (v := (Int32.ofInt 49)) dX2_writePart_72 (by decide) ?_
      replace E := grd_some E
      obtain ⟨g14, E⟩ := E
      replace E := cal_some E
      obtain ⟨_, h12, hc, E⟩ := E
      refine q_room (d' := 5) (mc' := 0 + (c2 + c)) (ms' := 0 + (m2 + m)) (Nat.le_refl _) (by omega) (by omega) ?_
      refine r_callV1 (mc := c2 + c) (ms := m2 + m) dX2_writePart_74 KX2_53 (c_X2_push hc) g14 (by decide) (Nat.le_of_ble_eq_true rfl) (fun _ _ q => q.elim) ?_
      rintro _ _ ⟨rfl, rfl⟩
      clear hc
      refine q_aload_n dX2_writePart_77 rfl ?_
      refine q_bipush (v := (Int32.ofInt 49)) dX2_writePart_78 (by decide) ?_
      replace E := grd_some E
      obtain ⟨g17, E⟩ := E
      replace E := cal_some E
      obtain ⟨_, h15, hc, E⟩ := E
      refine q_room (d' := 5) (mc' := 0 + (c2 + c)) (ms' := 0 + (m2 + m)) (Nat.le_refl _) (by omega) (by omega) ?_
      refine r_callV1 (mc := c2 + c) (ms := m2 + m) dX2_writePart_80 KX2_53 (c_X2_push hc) g17 (by decide) (Nat.le_of_ble_eq_true rfl) (fun _ _ q => q.elim) ?_
      rintro _ _ ⟨rfl, rfl⟩
      clear hc
      refine q_goto (tgt := 105) dX2_writePart_83 (by decide) ?_
      exact r_fewer [none, none, none, none] (ls_n (ls_n (ls_n (ls_n ls_0)))) (s_X2_writePart_105 h15 E hK)
  · replace E := ite_t E z1
    refine q_aload_n dX2_writePart_44 rfl ?_
    refine q_bipush (v := (Int32.ofInt 48)) dX2_writePart_45 (by decide) ?_
    replace E := grd_some E
    obtain ⟨g20, E⟩ := E
    replace E := cal_some E
    obtain ⟨_, h18, hc, E⟩ := E
    refine q_room (d' := 5) (mc' := 0 + (c2 + c)) (ms' := 0 + (m2 + m)) (Nat.le_refl _) (by omega) (by omega) ?_
    refine r_callV1 (mc := c2 + c) (ms := m2 + m) dX2_writePart_47 KX2_53 (c_X2_push hc) g20 (by decide) (Nat.le_of_ble_eq_true rfl) (fun _ _ q => q.elim) ?_
    rintro _ _ ⟨rfl, rfl⟩
    clear hc
    refine q_aload_n dX2_writePart_50 rfl ?_
    refine q_bipush (v := (Int32.ofInt 124)) dX2_writePart_51 (by decide) ?_
    replace E := grd_some E
    obtain ⟨g23, E⟩ := E
    replace E := cal_some E
    obtain ⟨_, h21, hc, E⟩ := E
    refine q_room (d' := 5) (mc' := 0 + (c2 + c)) (ms' := 0 + (m2 + m)) (Nat.le_refl _) (by omega) (by omega) ?_
    refine r_callV1 (mc := c2 + c) (ms := m2 + m) dX2_writePart_53 KX2_53 (c_X2_push hc) g23 (by decide) (Nat.le_of_ble_eq_true rfl) (fun _ _ q => q.elim) ?_
    rintro _ _ ⟨rfl, rfl⟩
    clear hc
    refine q_aload_n dX2_writePart_56 rfl ?_
    refine q_bipush (v := (Int32.ofInt 48)) dX2_writePart_57 (by decide) ?_
    replace E := grd_some E
    obtain ⟨g26, E⟩ := E
    replace E := cal_some E
    obtain ⟨_, h24, hc, E⟩ := E
    refine q_room (d' := 5) (mc' := 0 + (c2 + c)) (ms' := 0 + (m2 + m)) (Nat.le_refl _) (by omega) (by omega) ?_
    refine r_callV1 (mc := c2 + c) (ms := m2 + m) dX2_writePart_59 KX2_53 (c_X2_push hc) g26 (by decide) (Nat.le_of_ble_eq_true rfl) (fun _ _ q => q.elim) ?_
    rintro _ _ ⟨rfl, rfl⟩
    clear hc
    refine q_goto (tgt := 105) dX2_writePart_62 (by decide) ?_
    exact r_fewer [none, none, none, none] (ls_n (ls_n (ls_n (ls_n ls_0)))) (s_X2_writePart_105 h24 E hK)
set_option maxRecDepth 100000 in
set_option maxHeartbeats 4000000 in
theorem s_X2_writePart_25 {l : Launch} {G : mG} {Q : Option Value → mH → Prop} {X : String → mH → Prop} (p0 : Nat) (v1 : Int32) (p3 : Nat) (h : mH) {o : Unit × mH} {c m c2 m2 : Nat} (E : g_X2_writePart_25 p0 v1 p3 h = some (o, c, m)) (hK : (fun o (_ _ : Nat) => (fiV Q) o) o c2 m2) : mW l G m_X2_writePart 5 (c2 + c) (m2 + m) 25 [some (.ref p0), some (.int v1), none, some (.ref p3)] [] h Q X := by
  unfold g_X2_writePart_25 at E
  refine q_aload_n dX2_writePart_25 rfl ?_
  refine q_bipush (v := (Int32.ofInt 41)) dX2_writePart_26 (by decide) ?_
  replace E := grd_some E
  obtain ⟨g3, E⟩ := E
  replace E := calC_some E
  obtain ⟨o2, h1, ch1, mh1, hc, E⟩ := E
  replace E := adc_some E
  obtain ⟨c_1, m_1, ec_1, em_1, E⟩ := E
  refine q_room (d' := 5) (mc' := ch1 + (c2 + c_1)) (ms' := mh1 + (m2 + m_1)) (Nat.le_refl _) (by omega) (by omega) ?_
  refine r_callV1 (mc := c2 + c_1) (ms := m2 + m_1) dX2_writePart_28 KX2_115 (c_J4_append_cf468 hc (Nat.le_refl _) (Nat.le_refl _)) g3 (by decide) (Nat.le_of_ble_eq_true rfl) (fun _ _ q => q.elim) ?_
  rintro _ _ ⟨rfl, rfl⟩
  clear hc
  refine q_pop (h1 := r_cat _) dX2_writePart_31 ?_
  refine q_aload_n dX2_writePart_32 rfl ?_
  refine q_bipush (v := (Int32.ofInt 40)) dX2_writePart_33 (by decide) ?_
  replace E := grd_some E
  obtain ⟨g6, E⟩ := E
  replace E := cal_some E
  obtain ⟨_, h4, hc, E⟩ := E
  refine q_room (d' := 5) (mc' := 0 + (c2 + c_1)) (ms' := 0 + (m2 + m_1)) (Nat.le_refl _) (by omega) (by omega) ?_
  refine r_callV1 (mc := c2 + c_1) (ms := m2 + m_1) dX2_writePart_35 KX2_53 (c_X2_push hc) g6 (by decide) (Nat.le_of_ble_eq_true rfl) (fun _ _ q => q.elim) ?_
  rintro _ _ ⟨rfl, rfl⟩
  clear hc
  exact r_fewer [some (.ref p0), some (.int v1), none, some (.ref p3)] (ls_s (ls_s (ls_n (ls_s ls_0)))) (s_X2_writePart_38 p0 v1 p3 h4 E hK)
set_option maxRecDepth 100000 in
set_option maxHeartbeats 4000000 in
theorem s_X2_writePart_13 {l : Launch} {G : mG} {Q : Option Value → mH → Prop} {X : String → mH → Prop} (p0 : Nat) (v1 : Int32) (v2 : Int32) (p3 : Nat) (h : mH) {o : Unit × mH} {c m c2 m2 : Nat} (E : g_X2_writePart_13 p0 v1 v2 p3 h = some (o, c, m)) (hK : (fun o (_ _ : Nat) => (fiV Q) o) o c2 m2) : mW l G m_X2_writePart 5 (c2 + c) (m2 + m) 13 [some (.ref p0), some (.int v1), some (.int v2), some (.ref p3)] [] h Q X := by
  unfold g_X2_writePart_13 at E
  refine q_iload_n dX2_writePart_13 rfl ?_
  refine q_bipush (v := (Int32.ofInt 49)) dX2_writePart_14 (by decide) ?_
  refine q_icmp_ne (tgt := 38) dX2_writePart_16 (by decide) (fun z1 => ?_) (fun z1 => ?_)
  · replace E := ite_f E z1
    exact r_fewer [some (.ref p0), some (.int v1), none, some (.ref p3)] (ls_s (ls_s (ls_n (ls_s ls_0)))) (s_X2_writePart_38 p0 v1 p3 h E hK)
  · replace E := ite_t E z1
    refine q_iload_n dX2_writePart_19 rfl ?_
    refine q_bipush (v := (Int32.ofInt 124)) dX2_writePart_20 (by decide) ?_
    refine q_icmp_ne (tgt := 38) dX2_writePart_22 (by decide) (fun z2 => ?_) (fun z2 => ?_)
    · replace E := ite_f E z2
      exact r_fewer [some (.ref p0), some (.int v1), none, some (.ref p3)] (ls_s (ls_s (ls_n (ls_s ls_0)))) (s_X2_writePart_38 p0 v1 p3 h E hK)
    · replace E := ite_t E z2
      exact r_fewer [some (.ref p0), some (.int v1), none, some (.ref p3)] (ls_s (ls_s (ls_n (ls_s ls_0)))) (s_X2_writePart_25 p0 v1 p3 h E hK)
set_option maxRecDepth 100000 in
set_option maxHeartbeats 4000000 in
theorem s_X2_writePart_0 {l : Launch} {G : mG} {Q : Option Value → mH → Prop} {X : String → mH → Prop} (p0 : Nat) (v1 : Int32) (v2 : Int32) (p3 : Nat) (h : mH) {o : Unit × mH} {c m c2 m2 : Nat} (E : f_X2_writePart p0 v1 v2 p3 h = some (o, c, m)) (hK : (fun o (_ _ : Nat) => (fiV Q) o) o c2 m2) : mW l G m_X2_writePart 5 (c2 + c) (m2 + m) 0 [some (.ref p0), some (.int v1), some (.int v2), some (.ref p3)] [] h Q X := by
  unfold f_X2_writePart at E
  refine q_iload_n dX2_writePart_0 rfl ?_
  refine q_bipush (v := (Int32.ofInt 50)) dX2_writePart_1 (by decide) ?_
  refine q_icmp_ne (tgt := 13) dX2_writePart_3 (by decide) (fun z1 => ?_) (fun z1 => ?_)
  · replace E := ite_f E z1
    exact r_fewer [some (.ref p0), some (.int v1), some (.int v2), some (.ref p3)] (ls_s (ls_s (ls_s (ls_s ls_0)))) (s_X2_writePart_13 p0 v1 v2 p3 h E hK)
  · replace E := ite_t E z1
    refine q_iload_n dX2_writePart_6 rfl ?_
    replace E := cal_some E
    obtain ⟨x3, h2, hc, E⟩ := E
    refine q_room (d' := 5) (mc' := 0 + (c2 + c)) (ms' := 0 + (m2 + m)) (Nat.le_refl _) (by omega) (by omega) ?_
    refine r_callSN1 (mc := c2 + c) (ms := m2 + m) dX2_writePart_7 KX2_42 (c_X11_isLetter hc) (by decide) (Nat.le_of_ble_eq_true rfl) (fun _ _ q => q.elim) ?_
    rintro _ _ ⟨rfl, rfl⟩
    clear hc
    refine q_if_eq (tgt := 25) dX2_writePart_10 (by decide) (fun z4 => ?_) (fun z4 => ?_)
    · replace E := ite_t E z4
      exact r_fewer [some (.ref p0), some (.int v1), none, some (.ref p3)] (ls_s (ls_s (ls_n (ls_s ls_0)))) (s_X2_writePart_25 p0 v1 p3 h2 E hK)
    · replace E := ite_f E z4
      exact r_fewer [some (.ref p0), some (.int v1), some (.int v2), some (.ref p3)] (ls_s (ls_s (ls_s (ls_s ls_0)))) (s_X2_writePart_13 p0 v1 v2 p3 h2 E hK)
theorem c_X2_writePart {l : Launch} {G : mG} {p0 : Nat} {v1 : Int32} {v2 : Int32} {p3 : Nat} {h h' : mH} {r : Unit} {c m B1 B2 : Nat} (E : f_X2_writePart p0 v1 v2 p3 h = some ((r, h'), c, m)) (hb1 : c ≤ B1) (hb2 : m ≤ B2) : mMet l G m_X2_writePart 5 B1 B2 [.ref p0, .int v1, .int v2, .ref p3] h (fun v k => v = none ∧ h' = k) (fun _ _ => False) :=
  mMet_of (by decide +kernel) rfl (ac_c rfl (ac_c rfl (ac_c rfl (ac_c rfl ac_0)))) (Nat.le_of_ble_eq_true rfl) (q_room (mc' := 0 + c) (ms' := 0 + m) (Nat.le_refl _) (by omega) (by omega) (s_X2_writePart_0 p0 v1 v2 p3 h E (And.intro rfl rfl)))
set_option maxRecDepth 100000 in
set_option maxHeartbeats 4000000 in
theorem sb_X2_write_23 {l : Launch} {G : mG} {Q : Option Value → mH → Prop} {X : String → mH → Prop} (p0 : Nat) (p1 : Nat) (p2 : Nat) (v3 : Int32) (h : mH) {o : ((Int32 × mH) ⊕ (Unit × mH))} {c m c2 m2 : Nat} (E : b0_X2_write_23 p0 p1 p2 v3 h = some (o, c, m)) (hK : (lpKC (w_X2_write_23 l G Q X p0 p1 p2) (fun o (_ _ : Nat) => (fiV Q) o)) o c2 m2) : mW l G m_X2_write 6 (c2 + c) (m2 + m) 23 [some (.ref p0), some (.ref p1), some (.ref p2), some (.int v3)] [] h Q X := by
  unfold b0_X2_write_23 at E
  refine q_iload_n dX2_write_23 rfl ?_
  refine q_if_lt (tgt := 52) dX2_write_24 (by decide) (fun z1 => ?_) (fun z1 => ?_)
  · replace E := ite_t E z1
    refine q_aload_n dX2_write_52 rfl ?_
    refine q_aload_n dX2_write_53 rfl ?_
    replace E := grd_some E
    obtain ⟨g4, E⟩ := E
    replace E := calC_some E
    obtain ⟨_, h2, ch2, mh2, hc, E⟩ := E
    replace E := adc_some E
    obtain ⟨c_1, m_1, ec_1, em_1, E⟩ := E
    refine q_room (d' := 6) (mc' := ch2 + (c2 + c_1)) (ms' := mh2 + (m2 + m_1)) (Nat.le_refl _) (by omega) (by omega) ?_
    refine r_callV1 (mc := c2 + c_1) (ms := m2 + m_1) dX2_write_54 KX2_87 (c_X2_writeSigns hc (Nat.le_refl _) (Nat.le_refl _)) g4 (by decide) (Nat.le_of_ble_eq_true rfl) (fun _ _ q => q.elim) ?_
    rintro _ _ ⟨rfl, rfl⟩
    clear hc
    refine q_aload_n dX2_write_57 rfl ?_
    replace E := grd_some E
    obtain ⟨g7, E⟩ := E
    replace E := cal_some E
    obtain ⟨o6, h5, hc, E⟩ := E
    refine q_room (d' := 6) (mc' := 0 + (c2 + c_1)) (ms' := 0 + (m2 + m_1)) (Nat.le_refl _) (by omega) (by omega) ?_
    refine r_callV0 (mc := c2 + c_1) (ms := m2 + m_1) dX2_write_58 KX2_102 (c_J4_reverse_43fcb hc) g7 (by decide) (Nat.le_of_ble_eq_true rfl) (fun _ _ q => q.elim) ?_
    rintro _ _ ⟨rfl, rfl⟩
    clear hc
    refine q_pop (h1 := r_cat _) dX2_write_61 ?_
    cases E
    exact q_return dX2_write_62 rfl hK
  · replace E := ite_f E z1
    refine q_aload_n dX2_write_27 rfl ?_
    refine q_aload_n dX2_write_28 rfl ?_
    replace E := grd_some E
    obtain ⟨g10, E⟩ := E
    replace E := calC_some E
    obtain ⟨_, h8, ch8, mh8, hc, E⟩ := E
    replace E := adc_some E
    obtain ⟨c_2, m_2, ec_2, em_2, E⟩ := E
    refine q_room (d' := 6) (mc' := ch8 + (c2 + c_2)) (ms' := mh8 + (m2 + m_2)) (Nat.le_refl _) (by omega) (by omega) ?_
    refine r_callV1 (mc := c2 + c_2) (ms := m2 + m_2) dX2_write_29 KX2_87 (c_X2_writeSigns hc (Nat.le_refl _) (Nat.le_refl _)) g10 (by decide) (Nat.le_of_ble_eq_true rfl) (fun _ _ q => q.elim) ?_
    rintro _ _ ⟨rfl, rfl⟩
    clear hc
    refine q_aload_n dX2_write_32 rfl ?_
    refine q_aload_n dX2_write_33 rfl ?_
    refine q_iload_n dX2_write_34 rfl ?_
    replace E := grd_some E
    obtain ⟨g13, E⟩ := E
    replace E := cal_some E
    obtain ⟨x12, h11, hc, E⟩ := E
    refine q_room (d' := 6) (mc' := 0 + (c2 + c_2)) (ms' := 0 + (m2 + m_2)) (Nat.le_refl _) (by omega) (by omega) ?_
    refine r_callV1 (mc := c2 + c_2) (ms := m2 + m_2) dX2_write_35 KX2_91 (c_X4_code hc) g13 (by decide) (Nat.le_of_ble_eq_true rfl) (fun _ _ q => q.elim) ?_
    rintro _ _ ⟨rfl, rfl⟩
    clear hc
    refine q_aload_n dX2_write_38 rfl ?_
    replace E := grd_some E
    obtain ⟨g16, E⟩ := E
    replace E := cal_some E
    obtain ⟨x15, h14, hc, E⟩ := E
    refine q_room (d' := 6) (mc' := 0 + (c2 + c_2)) (ms' := 0 + (m2 + m_2)) (Nat.le_refl _) (by omega) (by omega) ?_
    refine r_callV0 (mc := c2 + c_2) (ms := m2 + m_2) dX2_write_39 KX2_94 (c_X2_pop hc) g16 (by decide) (Nat.le_of_ble_eq_true rfl) (fun _ _ q => q.elim) ?_
    rintro _ _ ⟨rfl, rfl⟩
    clear hc
    refine q_aload_n dX2_write_42 rfl ?_
    replace E := grd_some E
    obtain ⟨g19, E⟩ := E
    replace E := calC_some E
    obtain ⟨_, h17, ch17, mh17, hc, E⟩ := E
    replace E := adc_some E
    obtain ⟨c_3, m_3, ec_3, em_3, E⟩ := E
    refine q_room (d' := 6) (mc' := ch17 + (c2 + c_3)) (ms' := mh17 + (m2 + m_3)) (Nat.le_refl _) (by omega) (by omega) ?_
    refine r_callV3 (mc := c2 + c_3) (ms := m2 + m_3) dX2_write_43 KX2_98 (c_X2_writePart hc (Nat.le_refl _) (Nat.le_refl _)) g19 (by decide) (Nat.le_of_ble_eq_true rfl) (fun _ _ q => q.elim) ?_
    rintro _ _ ⟨rfl, rfl⟩
    clear hc
    replace E := bnd_x E
    obtain ⟨x20, ex20, E⟩ := E
    refine r_iinc (v := x20) dX2_write_46 rfl ex20 (by decide) (ls' := [some (.ref p0), some (.ref p1), some (.ref p2), some (.int x20)]) rfl ?_
    refine q_goto (tgt := 23) dX2_write_49 (by decide) ?_
    cases E
    exact r_fewer [some (.ref p0), some (.ref p1), some (.ref p2), some (.int x20)] (ls_s (ls_s (ls_s (ls_s ls_0)))) hK
theorem s_X2_write_23 {l : Launch} {G : mG} {Q : Option Value → mH → Prop} {X : String → mH → Prop} (p0 : Nat) (p1 : Nat) (p2 : Nat) (v3 : Int32) (h : mH) {o : Unit × mH} {c m c2 m2 : Nat} (E : g_X2_write_23 p0 p1 p2 v3 h = some (o, c, m)) (hK : (fun o (_ _ : Nat) => (fiV Q) o) o c2 m2) : mW l G m_X2_write 6 (c2 + c) (m2 + m) 23 [some (.ref p0), some (.ref p1), some (.ref p2), some (.int v3)] [] h Q X :=
  (lpC_go (w_X2_write_23 l G Q X p0 p1 p2) (fun o (_ _ : Nat) => (fiV Q) o) (b_X2_write_23 p0 p1 p2) (fun s o c m c2 m2 E hK => sb_X2_write_23 p0 p1 p2 s.1 (s.2) E hK) _ _ _ _ _ _ _ E hK : w_X2_write_23 l G Q X p0 p1 p2 (v3, h) (c2 + c) (m2 + m))
set_option maxRecDepth 100000 in
set_option maxHeartbeats 4000000 in
theorem s_X2_write_0 {l : Launch} {G : mG} {Q : Option Value → mH → Prop} {X : String → mH → Prop} (p0 : Nat) (p1 : Nat) (p2 : Nat) (h : mH) {o : Unit × mH} {c m c2 m2 : Nat} (E : f_X2_write p0 p1 p2 h = some (o, c, m)) (hK : (fun o (_ _ : Nat) => (fiV Q) o) o c2 m2) : mW l G m_X2_write 6 (c2 + c) (m2 + m) 0 [some (.ref p0), some (.ref p1), some (.ref p2), none] [] h Q X := by
  unfold f_X2_write at E
  refine q_aload_n dX2_write_0 rfl ?_
  refine q_iconst dX2_write_1 ?_
  replace E := grd_some E
  obtain ⟨g3, E⟩ := E
  replace E := calC_some E
  obtain ⟨_, h1, ch1, mh1, hc, E⟩ := E
  replace E := adc_some E
  obtain ⟨c_1, m_1, ec_1, em_1, E⟩ := E
  refine q_room (d' := 6) (mc' := ch1 + (c2 + c_1)) (ms' := mh1 + (m2 + m_1)) (Nat.le_refl _) (by omega) (by omega) ?_
  refine r_callV1 (mc := c2 + c_1) (ms := m2 + m_1) dX2_write_2 KX2_80 (c_J4_setLength_d00df hc (Nat.le_refl _) (Nat.le_refl _)) g3 (by decide) (Nat.le_of_ble_eq_true rfl) (fun _ _ q => q.elim) ?_
  rintro _ _ ⟨rfl, rfl⟩
  clear hc
  refine q_aload_n dX2_write_5 rfl ?_
  refine q_iconst dX2_write_6 ?_
  replace E := grd_some E
  obtain ⟨g4, E⟩ := E
  replace E := bnd_x E
  obtain ⟨h5, eh5, E⟩ := E
  refine r_putI (hh := eh5) dX2_write_7 FX2_18 g4 rfl rfl ?_
  refine q_aload_n dX2_write_10 rfl ?_
  refine q_bipush (v := (Int32.ofInt 48)) dX2_write_11 (by decide) ?_
  replace E := grd_some E
  obtain ⟨g8, E⟩ := E
  replace E := cal_some E
  obtain ⟨_, h6, hc, E⟩ := E
  refine q_room (d' := 6) (mc' := 0 + (c2 + c_1)) (ms' := 0 + (m2 + m_1)) (Nat.le_refl _) (by omega) (by omega) ?_
  refine r_callV1 (mc := c2 + c_1) (ms := m2 + m_1) dX2_write_13 KX2_53 (c_X2_push hc) g8 (by decide) (Nat.le_of_ble_eq_true rfl) (fun _ _ q => q.elim) ?_
  rintro _ _ ⟨rfl, rfl⟩
  clear hc
  refine q_aload_n dX2_write_16 rfl ?_
  replace E := grd_some E
  obtain ⟨g11, E⟩ := E
  replace E := cal_some E
  obtain ⟨x10, h9, hc, E⟩ := E
  refine q_room (d' := 6) (mc' := 0 + (c2 + c_1)) (ms' := 0 + (m2 + m_1)) (Nat.le_refl _) (by omega) (by omega) ?_
  refine r_callV0 (mc := c2 + c_1) (ms := m2 + m_1) dX2_write_17 KX2_85 (c_X4_size hc) g11 (by decide) (Nat.le_of_ble_eq_true rfl) (fun _ _ q => q.elim) ?_
  rintro _ _ ⟨rfl, rfl⟩
  clear hc
  refine q_iconst dX2_write_20 ?_
  refine q_isub dX2_write_21 ?_
  replace E := bnd_x E
  obtain ⟨x12, ex12, E⟩ := E
  refine r_istore_n dX2_write_22 (by decide) ex12 (ls' := [some (.ref p0), some (.ref p1), some (.ref p2), some (.int x12)]) rfl ?_
  exact r_fewer [some (.ref p0), some (.ref p1), some (.ref p2), some (.int x12)] (ls_s (ls_s (ls_s (ls_s ls_0)))) (s_X2_write_23 p0 p1 p2 x12 h9 E hK)
theorem c_X2_write {l : Launch} {G : mG} {p0 : Nat} {p1 : Nat} {p2 : Nat} {h h' : mH} {r : Unit} {c m B1 B2 : Nat} (E : f_X2_write p0 p1 p2 h = some ((r, h'), c, m)) (hb1 : c ≤ B1) (hb2 : m ≤ B2) : mMet l G m_X2_write 6 B1 B2 [.ref p0, .ref p1, .ref p2] h (fun v k => v = none ∧ h' = k) (fun _ _ => False) :=
  mMet_of (by decide +kernel) rfl (ac_c rfl (ac_c rfl (ac_c rfl ac_0))) (Nat.le_of_ble_eq_true rfl) (q_room (mc' := 0 + c) (ms' := 0 + m) (Nat.le_refl _) (by omega) (by omega) (s_X2_write_0 p0 p1 p2 h E (And.intro rfl rfl)))
set_option maxRecDepth 100000 in
set_option maxHeartbeats 4000000 in
theorem s_X3_init_0 {l : Launch} {G : mG} {Q : Option Value → mH → Prop} {X : String → mH → Prop} (p0 : Nat) (h : mH) {o : Unit × mH} (E : f_X3_init p0 h = some o) (hK : (fiV Q) o) : mW l G m_X3_init 0 3 49923 0 [some (.ref p0)] [] h Q X := by
  unfold f_X3_init at E
  refine q_aload_n dX3_init_0 rfl ?_
  refine q_objInit dX3_init_1 OX3_3 objW1 objW2 (Nat.le_of_ble_eq_true rfl) ?_
  refine q_aload_n dX3_init_4 rfl ?_
  refine q_sipush (v := (Int32.ofInt 16641)) dX3_init_5 (by decide) ?_
  replace E := grd_some E
  obtain ⟨g1, E⟩ := E
  replace E := bnd_x E
  obtain ⟨a2, ea2, E⟩ := E
  replace E := bnd_x E
  obtain ⟨h3, eh3, E⟩ := E
  refine r_newarray (n := 16641) (t0 := 0) (hq := ea2) (hh := eh3) dX3_init_8 W_boolean rfl rfl (by decide) g1 (by decide) ?_
  replace E := grd_some E
  obtain ⟨g4, E⟩ := E
  replace E := bnd_x E
  obtain ⟨h5, eh5, E⟩ := E
  refine r_putR (hh := eh5) dX3_init_10 FX3_11 g4 (hf := Or.inr ⟨rfl, fun _ _ _ q => (Prod.mk.inj (Option.some.inj q)).1.symm⟩) ?_
  refine q_aload_n dX3_init_13 rfl ?_
  refine q_sipush (v := (Int32.ofInt 16641)) dX3_init_14 (by decide) ?_
  replace E := bnd_x E
  obtain ⟨a6, ea6, E⟩ := E
  replace E := bnd_x E
  obtain ⟨h7, eh7, E⟩ := E
  refine r_newarray (n := 16641) (t0 := 3) (hq := ea6) (hh := eh7) dX3_init_17 W_int rfl rfl (by decide) g1 (by decide) ?_
  replace E := grd_some E
  obtain ⟨g8, E⟩ := E
  replace E := bnd_x E
  obtain ⟨h9, eh9, E⟩ := E
  refine r_putR (hh := eh9) dX3_init_19 FX3_15 g8 (hf := Or.inr ⟨rfl, fun _ _ _ q => (Prod.mk.inj (Option.some.inj q)).1.symm⟩) ?_
  refine q_aload_n dX3_init_22 rfl ?_
  refine q_sipush (v := (Int32.ofInt 16641)) dX3_init_23 (by decide) ?_
  replace E := bnd_x E
  obtain ⟨a10, ea10, E⟩ := E
  replace E := bnd_x E
  obtain ⟨h11, eh11, E⟩ := E
  refine r_newarray (n := 16641) (t0 := 3) (hq := ea10) (hh := eh11) dX3_init_26 W_int rfl rfl (by decide) g1 (by decide) ?_
  replace E := grd_some E
  obtain ⟨g12, E⟩ := E
  replace E := bnd_x E
  obtain ⟨h13, eh13, E⟩ := E
  refine r_putR (hh := eh13) dX3_init_28 FX3_19 g12 (hf := Or.inr ⟨rfl, fun _ _ _ q => (Prod.mk.inj (Option.some.inj q)).1.symm⟩) ?_
  refine q_aload_n dX3_init_31 rfl ?_
  refine q_iconst dX3_init_32 ?_
  replace E := grd_some E
  obtain ⟨g14, E⟩ := E
  replace E := bnd_x E
  obtain ⟨h15, eh15, E⟩ := E
  refine r_putI (hh := eh15) dX3_init_33 FX3_22 g14 rfl rfl ?_
  refine q_aload_n dX3_init_36 rfl ?_
  refine q_iconst dX3_init_37 ?_
  replace E := grd_some E
  obtain ⟨g16, E⟩ := E
  replace E := bnd_x E
  obtain ⟨h17, eh17, E⟩ := E
  refine r_putI (hh := eh17) dX3_init_38 FX3_26 g16 rfl rfl ?_
  cases E
  exact q_return dX3_init_41 rfl hK
theorem c_X3_init {l : Launch} {G : mG} {p0 : Nat} {h h' : mH} {r : Unit} (E : f_X3_init p0 h = some (r, h')) : mMet l G m_X3_init 0 3 49923 [.ref p0] h (fun v k => v = none ∧ h' = k) (fun _ _ => False) :=
  mMet_of (by decide +kernel) rfl (ac_c rfl ac_0) (Nat.le_of_ble_eq_true rfl) (s_X3_init_0 p0 h E (And.intro rfl rfl))
