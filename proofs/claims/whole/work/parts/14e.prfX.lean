set_option maxRecDepth 100000 in
set_option maxHeartbeats 4000000 in
theorem s_X11_isSlot_15 {l : Launch} {G : mG} {Q : Option Value → mH → Prop} {X : String → mH → Prop} (s0 : Int32) (h : mH) {o : Int32 × mH} (E : g_X11_isSlot_15 s0 h = some o) (hK : (fiI Q) o) : mW l G m_X11_isSlot 0 0 0 15 [none] [.int s0] h Q X := by
  unfold g_X11_isSlot_15 at E
  replace E := grd_some E
  obtain ⟨g1, E⟩ := E
  cases E
  exact q_zreturn dX11_isSlot_15 rfl (narZ g1) hK
set_option maxRecDepth 100000 in
set_option maxHeartbeats 4000000 in
theorem s_X11_isSlot_14 {l : Launch} {G : mG} {Q : Option Value → mH → Prop} {X : String → mH → Prop} (h : mH) {o : Int32 × mH} (E : g_X11_isSlot_14  h = some o) (hK : (fiI Q) o) : mW l G m_X11_isSlot 0 0 0 14 [none] [] h Q X := by
  unfold g_X11_isSlot_14 at E
  refine q_iconst dX11_isSlot_14 ?_
  exact r_fewer [none] (ls_n ls_0) (s_X11_isSlot_15 (Int32.ofInt 0) h E hK)
set_option maxRecDepth 100000 in
set_option maxHeartbeats 4000000 in
theorem s_X11_isSlot_0 {l : Launch} {G : mG} {Q : Option Value → mH → Prop} {X : String → mH → Prop} (v0 : Int32) (h : mH) {o : Int32 × mH} (E : f_X11_isSlot v0 h = some o) (hK : (fiI Q) o) : mW l G m_X11_isSlot 0 0 0 0 [some (.int v0)] [] h Q X := by
  unfold f_X11_isSlot at E
  refine q_iload_n dX11_isSlot_0 rfl ?_
  refine q_if_lt (tgt := 14) dX11_isSlot_1 (by decide) (fun z1 => ?_) (fun z1 => ?_)
  · replace E := ite_t E z1
    exact r_fewer [none] (ls_n ls_0) (s_X11_isSlot_14 h E hK)
  · replace E := ite_f E z1
    refine q_iload_n dX11_isSlot_4 rfl ?_
    refine q_bipush (v := (Int32.ofInt 6)) dX11_isSlot_5 (by decide) ?_
    refine q_icmp_ge (tgt := 14) dX11_isSlot_7 (by decide) (fun z2 => ?_) (fun z2 => ?_)
    · replace E := ite_t E z2
      exact r_fewer [none] (ls_n ls_0) (s_X11_isSlot_14 h E hK)
    · replace E := ite_f E z2
      refine q_iconst dX11_isSlot_10 ?_
      refine q_goto (tgt := 15) dX11_isSlot_11 (by decide) ?_
      exact r_fewer [none] (ls_n ls_0) (s_X11_isSlot_15 (Int32.ofInt 1) h E hK)
theorem c_X11_isSlot {l : Launch} {G : mG} {v0 : Int32} {h h' : mH} {r : Int32} (E : f_X11_isSlot v0 h = some (r, h')) : mMet l G m_X11_isSlot 0 0 0 [.int v0] h (fun v k => v = some (.int r) ∧ h' = k) (fun _ _ => False) :=
  mMet_of (by decide +kernel) rfl (ac_c rfl ac_0) (Nat.le_of_ble_eq_true rfl) (s_X11_isSlot_0 v0 h E (And.intro rfl rfl))
set_option maxRecDepth 100000 in
set_option maxHeartbeats 4000000 in
theorem s_X6_put_0 {l : Launch} {G : mG} {Q : Option Value → mH → Prop} {X : String → mH → Prop} (p0 : Nat) (v1 : Int32) (p2 : Nat) (h : mH) {o : Int32 × mH} (E : f_X6_put p0 v1 p2 h = some o) (hK : (fiI Q) o) : mW l G m_X6_put 1 0 0 0 [some (.ref p0), some (.int v1), some (.ref p2)] [] h Q X := by
  unfold f_X6_put at E
  refine q_iload_n dX6_put_0 rfl ?_
  replace E := cal_some E
  obtain ⟨x2, h1, hc, E⟩ := E
  refine r_callSN1 (mc := 0) (ms := 0) dX6_put_1 KX6_30 (c_X11_isSlot hc) (by decide) (Nat.le_of_ble_eq_true rfl) (fun _ _ q => q.elim) ?_
  rintro _ _ ⟨rfl, rfl⟩
  clear hc
  refine q_if_ne (tgt := 9) dX6_put_4 (by decide) (fun z3 => ?_) (fun z3 => ?_)
  · replace E := ite_f E z3
    refine q_aload_n dX6_put_9 rfl ?_
    replace E := grd_some E
    obtain ⟨g6, E⟩ := E
    replace E := cal_some E
    obtain ⟨x5, h4, hc, E⟩ := E
    refine r_callV0 (mc := 0) (ms := 0) dX6_put_10 KX6_34 (c_X4_isTooLarge hc) g6 (by decide) (Nat.le_of_ble_eq_true rfl) (fun _ _ q => q.elim) ?_
    rintro _ _ ⟨rfl, rfl⟩
    clear hc
    refine q_if_eq (tgt := 19) dX6_put_13 (by decide) (fun z7 => ?_) (fun z7 => ?_)
    · replace E := ite_t E z7
      refine q_aload_n dX6_put_19 rfl ?_
      replace E := grd_some E
      obtain ⟨g8, E⟩ := E
      replace E := orf_some E
      obtain ⟨a9, ea9, E⟩ := E
      refine r_getR dX6_put_20 FX6_11 g8 ea9 ?_
      refine q_iload_n dX6_put_23 rfl ?_
      refine q_aload_n dX6_put_24 rfl ?_
      replace E := grd_some E
      obtain ⟨g11, E⟩ := E
      replace E := grd_some E
      obtain ⟨g12, E⟩ := E
      replace E := grd_some E
      obtain ⟨g13, E⟩ := E
      replace E := bnd_x E
      obtain ⟨h10, eh10, E⟩ := E
      refine r_aastore (t0 := 6) (ci := 8) (hh := eh10) dX6_put_25 rfl rfl g11 g13 g12 ?_
      refine q_aload_n dX6_put_26 rfl ?_
      refine q_dup dX6_put_27 ?_
      replace E := grd_some E
      obtain ⟨g14, E⟩ := E
      refine r_getI dX6_put_28 FX6_27 g14 ?_
      refine q_iconst dX6_put_31 ?_
      refine q_iadd dX6_put_32 ?_
      replace E := bnd_x E
      obtain ⟨h15, eh15, E⟩ := E
      refine r_putI (hh := eh15) dX6_put_33 FX6_27 g14 rfl rfl ?_
      refine q_aload_n dX6_put_36 rfl ?_
      replace E := grd_some E
      obtain ⟨g18, E⟩ := E
      replace E := cal_some E
      obtain ⟨x17, h16, hc, E⟩ := E
      refine r_callV0 (mc := 0) (ms := 0) dX6_put_37 KX6_38 (c_X4_letters hc) g18 (by decide) (Nat.le_of_ble_eq_true rfl) (fun _ _ q => q.elim) ?_
      rintro _ _ ⟨rfl, rfl⟩
      clear hc
      cases E
      exact q_ireturn dX6_put_40 rfl hK
    · replace E := ite_f E z7
      refine q_bipush (v := (Int32.ofInt (-3))) dX6_put_16 (by decide) ?_
      cases E
      exact q_ireturn dX6_put_18 rfl hK
  · replace E := ite_t E z3
    refine q_iconst dX6_put_7 ?_
    cases E
    exact q_ireturn dX6_put_8 rfl hK
theorem c_X6_put {l : Launch} {G : mG} {p0 : Nat} {v1 : Int32} {p2 : Nat} {h h' : mH} {r : Int32} (E : f_X6_put p0 v1 p2 h = some (r, h')) : mMet l G m_X6_put 1 0 0 [.ref p0, .int v1, .ref p2] h (fun v k => v = some (.int r) ∧ h' = k) (fun _ _ => False) :=
  mMet_of (by decide +kernel) rfl (ac_c rfl (ac_c rfl (ac_c rfl ac_0))) (Nat.le_of_ble_eq_true rfl) (s_X6_put_0 p0 v1 p2 h E (And.intro rfl rfl))
set_option maxRecDepth 100000 in
set_option maxHeartbeats 4000000 in
theorem s_X6_putJoined_21 {l : Launch} {G : mG} {Q : Option Value → mH → Prop} {X : String → mH → Prop} (h : mH) {o : Int32 × mH} (E : g_X6_putJoined_21  h = some o) (hK : (fiI Q) o) : mW l G m_X6_putJoined 3 0 0 21 [none, none, none, none, none, none, none] [] h Q X := by
  unfold g_X6_putJoined_21 at E
  refine q_iconst dX6_putJoined_21 ?_
  cases E
  exact q_ireturn dX6_putJoined_22 rfl hK
set_option maxRecDepth 100000 in
set_option maxHeartbeats 4000000 in
theorem s_X6_putJoined_49 {l : Launch} {G : mG} {Q : Option Value → mH → Prop} {X : String → mH → Prop} (h : mH) {o : Int32 × mH} (E : g_X6_putJoined_49  h = some o) (hK : (fiI Q) o) : mW l G m_X6_putJoined 3 0 0 49 [none, none, none, none, none, none, none] [] h Q X := by
  unfold g_X6_putJoined_49 at E
  refine q_bipush (v := (Int32.ofInt (-2))) dX6_putJoined_49 (by decide) ?_
  cases E
  exact q_ireturn dX6_putJoined_51 rfl hK
set_option maxRecDepth 100000 in
set_option maxHeartbeats 4000000 in
theorem s_X6_putJoined_0 {l : Launch} {G : mG} {Q : Option Value → mH → Prop} {X : String → mH → Prop} (p0 : Nat) (v1 : Int32) (v2 : Int32) (v3 : Int32) (v4 : Int32) (h : mH) {o : Int32 × mH} (E : f_X6_putJoined p0 v1 v2 v3 v4 h = some o) (hK : (fiI Q) o) : mW l G m_X6_putJoined 3 2 258 0 [some (.ref p0), some (.int v1), some (.int v2), some (.int v3), some (.int v4), none, none] [] h Q X := by
  unfold f_X6_putJoined at E
  refine q_iload_n dX6_putJoined_0 rfl ?_
  replace E := cal_some E
  obtain ⟨x2, h1, hc, E⟩ := E
  refine r_callSN1 (mc := 2) (ms := 258) dX6_putJoined_1 KX6_30 (c_X11_isSlot hc) (by decide) (Nat.le_of_ble_eq_true rfl) (fun _ _ q => q.elim) ?_
  rintro _ _ ⟨rfl, rfl⟩
  clear hc
  refine q_if_eq (tgt := 21) dX6_putJoined_4 (by decide) (fun z3 => ?_) (fun z3 => ?_)
  · replace E := ite_t E z3
    refine q_room (d' := 3) (mc' := 0) (ms' := 0) (Nat.le_refl _) (Nat.le_of_ble_eq_true rfl) (Nat.le_of_ble_eq_true rfl) ?_
    exact r_fewer [none, none, none, none, none, none, none] (ls_n (ls_n (ls_n (ls_n (ls_n (ls_n (ls_n ls_0))))))) (s_X6_putJoined_21 h1 E hK)
  · replace E := ite_f E z3
    refine q_iload_n dX6_putJoined_7 rfl ?_
    replace E := cal_some E
    obtain ⟨x5, h4, hc, E⟩ := E
    refine r_callSN1 (mc := 2) (ms := 258) dX6_putJoined_8 KX6_30 (c_X11_isSlot hc) (by decide) (Nat.le_of_ble_eq_true rfl) (fun _ _ q => q.elim) ?_
    rintro _ _ ⟨rfl, rfl⟩
    clear hc
    refine q_if_eq (tgt := 21) dX6_putJoined_11 (by decide) (fun z6 => ?_) (fun z6 => ?_)
    · replace E := ite_t E z6
      refine q_room (d' := 3) (mc' := 0) (ms' := 0) (Nat.le_refl _) (Nat.le_of_ble_eq_true rfl) (Nat.le_of_ble_eq_true rfl) ?_
      exact r_fewer [none, none, none, none, none, none, none] (ls_n (ls_n (ls_n (ls_n (ls_n (ls_n (ls_n ls_0))))))) (s_X6_putJoined_21 h4 E hK)
    · replace E := ite_f E z6
      refine q_iload_n dX6_putJoined_14 rfl ?_
      replace E := cal_some E
      obtain ⟨x8, h7, hc, E⟩ := E
      refine r_callSN1 (mc := 2) (ms := 258) dX6_putJoined_15 KX6_30 (c_X11_isSlot hc) (by decide) (Nat.le_of_ble_eq_true rfl) (fun _ _ q => q.elim) ?_
      rintro _ _ ⟨rfl, rfl⟩
      clear hc
      refine q_if_ne (tgt := 23) dX6_putJoined_18 (by decide) (fun z9 => ?_) (fun z9 => ?_)
      · replace E := ite_f E z9
        refine q_aload_n dX6_putJoined_23 rfl ?_
        replace E := grd_some E
        obtain ⟨g10, E⟩ := E
        replace E := orf_some E
        obtain ⟨a11, ea11, E⟩ := E
        refine r_getR dX6_putJoined_24 FX6_11 g10 ea11 ?_
        refine q_iload_n dX6_putJoined_27 rfl ?_
        replace E := grd_some E
        obtain ⟨g12, E⟩ := E
        replace E := grd_some E
        obtain ⟨g13, E⟩ := E
        replace E := bnd_x E
        obtain ⟨o14, eo14, E⟩ := E
        refine r_aaload (t0 := 6) dX6_putJoined_28 rfl g12 g13 eo14 ?_
        refine r_astoreO dX6_putJoined_29 (by decide) (ls' := [some (.ref p0), some (.int v1), some (.int v2), some (.int v3), some (.int v4), some (va_rf o14), none]) rfl ?_
        refine q_aload_n dX6_putJoined_31 rfl ?_
        refine r_getR dX6_putJoined_32 FX6_11 g10 ea11 ?_
        refine q_iload_n dX6_putJoined_35 rfl ?_
        replace E := grd_some E
        obtain ⟨g16, E⟩ := E
        replace E := bnd_x E
        obtain ⟨o17, eo17, E⟩ := E
        refine r_aaload (t0 := 6) dX6_putJoined_36 rfl g12 g16 eo17 ?_
        refine r_astoreO dX6_putJoined_37 (by decide) (ls' := [some (.ref p0), some (.int v1), some (.int v2), some (.int v3), some (.int v4), some (va_rf o14), some (va_rf o17)]) rfl ?_
        refine r_aloadO dX6_putJoined_39 rfl ?_
        replace E := oif_some E
        rcases E with ⟨rfl, E⟩ | ⟨a18, rfl, E⟩
        · refine q_ifnullN (tgt := 49) dX6_putJoined_41 (by decide) ?_
          refine q_room (d' := 3) (mc' := 0) (ms' := 0) (Nat.le_refl _) (Nat.le_of_ble_eq_true rfl) (Nat.le_of_ble_eq_true rfl) ?_
          exact r_fewer [none, none, none, none, none, none, none] (ls_n (ls_n (ls_n (ls_n (ls_n (ls_n (ls_n ls_0))))))) (s_X6_putJoined_49 h7 E hK)
        · refine q_ifnull dX6_putJoined_41 ?_
          refine r_aloadO dX6_putJoined_44 rfl ?_
          replace E := oif_some E
          rcases E with ⟨rfl, E⟩ | ⟨a19, rfl, E⟩
          · refine q_ifnonnullN dX6_putJoined_46 ?_
            refine q_room (d' := 3) (mc' := 0) (ms' := 0) (Nat.le_refl _) (Nat.le_of_ble_eq_true rfl) (Nat.le_of_ble_eq_true rfl) ?_
            exact r_fewer [none, none, none, none, none, none, none] (ls_n (ls_n (ls_n (ls_n (ls_n (ls_n (ls_n ls_0))))))) (s_X6_putJoined_49 h7 E hK)
          · refine q_ifnonnull (tgt := 52) dX6_putJoined_46 (by decide) ?_
            refine q_aload_n dX6_putJoined_52 rfl ?_
            refine q_iload_n dX6_putJoined_53 rfl ?_
            refine q_aload dX6_putJoined_54 rfl ?_
            refine q_aload dX6_putJoined_56 rfl ?_
            refine q_iload dX6_putJoined_58 rfl ?_
            replace E := cal_some E
            obtain ⟨o21, h20, hc, E⟩ := E
            refine r_callS3 (mc := 0) (ms := 0) dX6_putJoined_60 KX6_42 (c_X4_joined hc) (by decide) (Nat.le_of_ble_eq_true rfl) (fun _ _ q => q.elim) ?_
            rintro _ _ ⟨rfl, rfl⟩
            clear hc
            replace E := orf_some E
            obtain ⟨a22, rfl, E⟩ := E
            replace E := grd_some E
            obtain ⟨g25, E⟩ := E
            replace E := cal_some E
            obtain ⟨x24, h23, hc, E⟩ := E
            refine r_callV2 (mc := 0) (ms := 0) dX6_putJoined_63 KX6_46 (c_X6_put hc) g25 (by decide) (Nat.le_of_ble_eq_true rfl) (fun _ _ q => q.elim) ?_
            rintro _ _ ⟨rfl, rfl⟩
            clear hc
            cases E
            exact q_ireturn dX6_putJoined_66 rfl hK
      · replace E := ite_t E z9
        refine q_room (d' := 3) (mc' := 0) (ms' := 0) (Nat.le_refl _) (Nat.le_of_ble_eq_true rfl) (Nat.le_of_ble_eq_true rfl) ?_
        exact r_fewer [none, none, none, none, none, none, none] (ls_n (ls_n (ls_n (ls_n (ls_n (ls_n (ls_n ls_0))))))) (s_X6_putJoined_21 h7 E hK)
theorem c_X6_putJoined {l : Launch} {G : mG} {p0 : Nat} {v1 : Int32} {v2 : Int32} {v3 : Int32} {v4 : Int32} {h h' : mH} {r : Int32} (E : f_X6_putJoined p0 v1 v2 v3 v4 h = some (r, h')) : mMet l G m_X6_putJoined 3 2 258 [.ref p0, .int v1, .int v2, .int v3, .int v4] h (fun v k => v = some (.int r) ∧ h' = k) (fun _ _ => False) :=
  mMet_of (by decide +kernel) rfl (ac_c rfl (ac_c rfl (ac_c rfl (ac_c rfl (ac_c rfl ac_0))))) (Nat.le_of_ble_eq_true rfl) (s_X6_putJoined_0 p0 v1 v2 v3 v4 h E (And.intro rfl rfl))
set_option maxRecDepth 100000 in
set_option maxHeartbeats 4000000 in
theorem s_X6_putStarred_14 {l : Launch} {G : mG} {Q : Option Value → mH → Prop} {X : String → mH → Prop} (h : mH) {o : Int32 × mH} (E : g_X6_putStarred_14  h = some o) (hK : (fiI Q) o) : mW l G m_X6_putStarred 3 0 0 14 [none, none, none, none] [] h Q X := by
  unfold g_X6_putStarred_14 at E
  refine q_iconst dX6_putStarred_14 ?_
  cases E
  exact q_ireturn dX6_putStarred_15 rfl hK
set_option maxRecDepth 100000 in
set_option maxHeartbeats 4000000 in
theorem s_X6_putStarred_41 {l : Launch} {G : mG} {Q : Option Value → mH → Prop} {X : String → mH → Prop} (s0 : Int32) (h : mH) {o : Int32 × mH} (E : g_X6_putStarred_41 s0 h = some o) (hK : (fiI Q) o) : mW l G m_X6_putStarred 3 0 0 41 [none, none, none, none] [.int s0] h Q X := by
  unfold g_X6_putStarred_41 at E
  cases E
  exact q_ireturn dX6_putStarred_41 rfl hK
set_option maxRecDepth 100000 in
set_option maxHeartbeats 4000000 in
theorem s_X6_putStarred_0 {l : Launch} {G : mG} {Q : Option Value → mH → Prop} {X : String → mH → Prop} (p0 : Nat) (v1 : Int32) (v2 : Int32) (h : mH) {o : Int32 × mH} (E : f_X6_putStarred p0 v1 v2 h = some o) (hK : (fiI Q) o) : mW l G m_X6_putStarred 3 2 258 0 [some (.ref p0), some (.int v1), some (.int v2), none] [] h Q X := by
  unfold f_X6_putStarred at E
  refine q_iload_n dX6_putStarred_0 rfl ?_
  replace E := cal_some E
  obtain ⟨x2, h1, hc, E⟩ := E
  refine r_callSN1 (mc := 2) (ms := 258) dX6_putStarred_1 KX6_30 (c_X11_isSlot hc) (by decide) (Nat.le_of_ble_eq_true rfl) (fun _ _ q => q.elim) ?_
  rintro _ _ ⟨rfl, rfl⟩
  clear hc
  refine q_if_eq (tgt := 14) dX6_putStarred_4 (by decide) (fun z3 => ?_) (fun z3 => ?_)
  · replace E := ite_t E z3
    refine q_room (d' := 3) (mc' := 0) (ms' := 0) (Nat.le_refl _) (Nat.le_of_ble_eq_true rfl) (Nat.le_of_ble_eq_true rfl) ?_
    exact r_fewer [none, none, none, none] (ls_n (ls_n (ls_n (ls_n ls_0)))) (s_X6_putStarred_14 h1 E hK)
  · replace E := ite_f E z3
    refine q_iload_n dX6_putStarred_7 rfl ?_
    replace E := cal_some E
    obtain ⟨x5, h4, hc, E⟩ := E
    refine r_callSN1 (mc := 2) (ms := 258) dX6_putStarred_8 KX6_30 (c_X11_isSlot hc) (by decide) (Nat.le_of_ble_eq_true rfl) (fun _ _ q => q.elim) ?_
    rintro _ _ ⟨rfl, rfl⟩
    clear hc
    refine q_if_ne (tgt := 16) dX6_putStarred_11 (by decide) (fun z6 => ?_) (fun z6 => ?_)
    · replace E := ite_f E z6
      refine q_aload_n dX6_putStarred_16 rfl ?_
      replace E := grd_some E
      obtain ⟨g7, E⟩ := E
      replace E := orf_some E
      obtain ⟨a8, ea8, E⟩ := E
      refine r_getR dX6_putStarred_17 FX6_11 g7 ea8 ?_
      refine q_iload_n dX6_putStarred_20 rfl ?_
      replace E := grd_some E
      obtain ⟨g9, E⟩ := E
      replace E := grd_some E
      obtain ⟨g10, E⟩ := E
      replace E := bnd_x E
      obtain ⟨o11, eo11, E⟩ := E
      refine r_aaload (t0 := 6) dX6_putStarred_21 rfl g9 g10 eo11 ?_
      refine r_astore_nO dX6_putStarred_22 (by decide) (ls' := [some (.ref p0), some (.int v1), some (.int v2), some (va_rf o11)]) rfl ?_
      refine r_aload_nO dX6_putStarred_23 rfl ?_
      replace E := oif_some E
      rcases E with ⟨rfl, E⟩ | ⟨a12, rfl, E⟩
      · refine q_ifnonnullN dX6_putStarred_24 ?_
        refine q_bipush (v := (Int32.ofInt (-2))) dX6_putStarred_27 (by decide) ?_
        refine q_goto (tgt := 41) dX6_putStarred_29 (by decide) ?_
        refine q_room (d' := 3) (mc' := 0) (ms' := 0) (Nat.le_refl _) (Nat.le_of_ble_eq_true rfl) (Nat.le_of_ble_eq_true rfl) ?_
        exact r_fewer [none, none, none, none] (ls_n (ls_n (ls_n (ls_n ls_0)))) (s_X6_putStarred_41 (Int32.ofInt (-2)) h4 E hK)
      · refine q_ifnonnull (tgt := 32) dX6_putStarred_24 (by decide) ?_
        refine q_aload_n dX6_putStarred_32 rfl ?_
        refine q_iload_n dX6_putStarred_33 rfl ?_
        refine q_aload_n dX6_putStarred_34 rfl ?_
        replace E := cal_some E
        obtain ⟨o14, h13, hc, E⟩ := E
        refine r_callS1 (mc := 0) (ms := 0) dX6_putStarred_35 KX6_50 (c_X4_starred hc) (by decide) (Nat.le_of_ble_eq_true rfl) (fun _ _ q => q.elim) ?_
        rintro _ _ ⟨rfl, rfl⟩
        clear hc
        replace E := orf_some E
        obtain ⟨a15, rfl, E⟩ := E
        replace E := grd_some E
        obtain ⟨g18, E⟩ := E
        replace E := cal_some E
        obtain ⟨x17, h16, hc, E⟩ := E
        refine r_callV2 (mc := 0) (ms := 0) dX6_putStarred_38 KX6_46 (c_X6_put hc) g18 (by decide) (Nat.le_of_ble_eq_true rfl) (fun _ _ q => q.elim) ?_
        rintro _ _ ⟨rfl, rfl⟩
        clear hc
        exact r_fewer [none, none, none, none] (ls_n (ls_n (ls_n (ls_n ls_0)))) (s_X6_putStarred_41 x17 h16 E hK)
    · replace E := ite_t E z6
      refine q_room (d' := 3) (mc' := 0) (ms' := 0) (Nat.le_refl _) (Nat.le_of_ble_eq_true rfl) (Nat.le_of_ble_eq_true rfl) ?_
      exact r_fewer [none, none, none, none] (ls_n (ls_n (ls_n (ls_n ls_0)))) (s_X6_putStarred_14 h4 E hK)
theorem c_X6_putStarred {l : Launch} {G : mG} {p0 : Nat} {v1 : Int32} {v2 : Int32} {h h' : mH} {r : Int32} (E : f_X6_putStarred p0 v1 v2 h = some (r, h')) : mMet l G m_X6_putStarred 3 2 258 [.ref p0, .int v1, .int v2] h (fun v k => v = some (.int r) ∧ h' = k) (fun _ _ => False) :=
  mMet_of (by decide +kernel) rfl (ac_c rfl (ac_c rfl (ac_c rfl ac_0))) (Nat.le_of_ble_eq_true rfl) (s_X6_putStarred_0 p0 v1 v2 h E (And.intro rfl rfl))
set_option maxRecDepth 100000 in
set_option maxHeartbeats 4000000 in
theorem s_X6_patternTotal_36 {l : Launch} {G : mG} {Q : Option Value → mH → Prop} {X : String → mH → Prop} (p2 : Nat) (v3 : Int32) (v4 : Int32) (s0 : Int32) (s1 : Int32) (h : mH) {o : ((Int32 × Int32 × mH) ⊕ (Int32 × mH))} (E : g_X6_patternTotal_36 p2 v3 v4 s0 s1 h = some o) (hK : (lpK (w_X6_patternTotal_13 l G Q X p2 v3) (fiI Q)) o) : mW l G m_X6_patternTotal 0 0 0 36 [none, none, some (.ref p2), some (.int v3), some (.int v4), none] [.int s0, .int s1] h Q X := by
  unfold g_X6_patternTotal_36 at E
  refine q_iadd dX6_patternTotal_36 ?_
  replace E := bnd_x E
  obtain ⟨x1, ex1, E⟩ := E
  refine r_istore_n dX6_patternTotal_37 (by decide) ex1 (ls' := [none, some (.int x1), some (.ref p2), some (.int v3), some (.int v4), none]) rfl ?_
  replace E := bnd_x E
  obtain ⟨x2, ex2, E⟩ := E
  refine r_iinc (v := x2) dX6_patternTotal_38 rfl ex2 (by decide) (ls' := [none, some (.int x1), some (.ref p2), some (.int v3), some (.int x2), none]) rfl ?_
  refine q_goto (tgt := 13) dX6_patternTotal_41 (by decide) ?_
  cases E
  exact r_fewer [none, some (.int x1), some (.ref p2), some (.int v3), some (.int x2), none] (ls_n (ls_s (ls_s (ls_s (ls_s (ls_n ls_0)))))) hK
set_option maxRecDepth 100000 in
set_option maxHeartbeats 4000000 in
theorem sb_X6_patternTotal_13 {l : Launch} {G : mG} {Q : Option Value → mH → Prop} {X : String → mH → Prop} (v1 : Int32) (p2 : Nat) (v3 : Int32) (v4 : Int32) (h : mH) {o : ((Int32 × Int32 × mH) ⊕ (Int32 × mH))} (E : b0_X6_patternTotal_13 v1 p2 v3 v4 h = some o) (hK : (lpK (w_X6_patternTotal_13 l G Q X p2 v3) (fiI Q)) o) : mW l G m_X6_patternTotal 0 0 0 13 [none, some (.int v1), some (.ref p2), some (.int v3), some (.int v4), none] [] h Q X := by
  unfold b0_X6_patternTotal_13 at E
  refine q_iload dX6_patternTotal_13 rfl ?_
  refine q_iload_n dX6_patternTotal_15 rfl ?_
  refine q_icmp_ge (tgt := 44) dX6_patternTotal_16 (by decide) (fun z1 => ?_) (fun z1 => ?_)
  · replace E := ite_t E z1
    refine q_iload_n dX6_patternTotal_44 rfl ?_
    cases E
    exact q_ireturn dX6_patternTotal_45 rfl hK
  · replace E := ite_f E z1
    refine q_aload_n dX6_patternTotal_19 rfl ?_
    refine q_iload dX6_patternTotal_20 rfl ?_
    replace E := grd_some E
    obtain ⟨g2, E⟩ := E
    replace E := grd_some E
    obtain ⟨g3, E⟩ := E
    replace E := bnd_x E
    obtain ⟨o4, eo4, E⟩ := E
    refine r_aaload (t0 := 6) dX6_patternTotal_22 rfl g2 g3 eo4 ?_
    refine r_astoreO dX6_patternTotal_23 (by decide) (ls' := [none, some (.int v1), some (.ref p2), some (.int v3), some (.int v4), some (va_rf o4)]) rfl ?_
    refine q_iload_n dX6_patternTotal_25 rfl ?_
    refine r_aloadO dX6_patternTotal_26 rfl ?_
    replace E := oif_some E
    rcases E with ⟨rfl, E⟩ | ⟨a5, rfl, E⟩
    · refine q_ifnonnullN dX6_patternTotal_28 ?_
      refine q_iconst dX6_patternTotal_31 ?_
      refine q_goto (tgt := 36) dX6_patternTotal_32 (by decide) ?_
      exact r_fewer [none, none, some (.ref p2), some (.int v3), some (.int v4), none] (ls_n (ls_n (ls_s (ls_s (ls_s (ls_n ls_0)))))) (s_X6_patternTotal_36 p2 v3 v4 (Int32.ofInt 0) v1 h E hK)
    · refine q_ifnonnull (tgt := 35) dX6_patternTotal_28 (by decide) ?_
      refine q_iconst dX6_patternTotal_35 ?_
      exact r_fewer [none, none, some (.ref p2), some (.int v3), some (.int v4), none] (ls_n (ls_n (ls_s (ls_s (ls_s (ls_n ls_0)))))) (s_X6_patternTotal_36 p2 v3 v4 (Int32.ofInt 1) v1 h E hK)
theorem s_X6_patternTotal_13 {l : Launch} {G : mG} {Q : Option Value → mH → Prop} {X : String → mH → Prop} (v1 : Int32) (p2 : Nat) (v3 : Int32) (v4 : Int32) (h : mH) {o : Int32 × mH} (E : g_X6_patternTotal_13 v1 p2 v3 v4 h = some o) (hK : (fiI Q) o) : mW l G m_X6_patternTotal 0 0 0 13 [none, some (.int v1), some (.ref p2), some (.int v3), some (.int v4), none] [] h Q X :=
  (lp_go (w_X6_patternTotal_13 l G Q X p2 v3) (fiI Q) (b_X6_patternTotal_13 p2 v3) (fun s o E hK => sb_X6_patternTotal_13 s.1 p2 v3 s.2.1 (s.2.2) E hK) _ _ _ E hK : w_X6_patternTotal_13 l G Q X p2 v3 (v1, v4, h))
set_option maxRecDepth 100000 in
set_option maxHeartbeats 4000000 in
theorem s_X6_patternTotal_0 {l : Launch} {G : mG} {Q : Option Value → mH → Prop} {X : String → mH → Prop} (p0 : Nat) (h : mH) {o : Int32 × mH} (E : f_X6_patternTotal p0 h = some o) (hK : (fiI Q) o) : mW l G m_X6_patternTotal 0 0 0 0 [some (.ref p0), none, none, none, none, none] [] h Q X := by
  unfold f_X6_patternTotal at E
  refine q_iconst dX6_patternTotal_0 ?_
  refine r_istore_n dX6_patternTotal_1 (by decide) rfl (ls' := [some (.ref p0), some (.int (Int32.ofInt 0)), none, none, none, none]) rfl ?_
  refine q_aload_n dX6_patternTotal_2 rfl ?_
  replace E := grd_some E
  obtain ⟨g1, E⟩ := E
  replace E := orf_some E
  obtain ⟨a2, ea2, E⟩ := E
  refine r_getR dX6_patternTotal_3 FX6_11 g1 ea2 ?_
  refine r_astore_n dX6_patternTotal_6 (by decide) (ls' := [some (.ref p0), some (.int (Int32.ofInt 0)), some (.ref a2), none, none, none]) rfl ?_
  refine q_aload_n dX6_patternTotal_7 rfl ?_
  replace E := grd_some E
  obtain ⟨g3, E⟩ := E
  refine r_alen (t0 := 6) dX6_patternTotal_8 rfl g3 ?_
  replace E := bnd_x E
  obtain ⟨x4, ex4, E⟩ := E
  refine r_istore_n dX6_patternTotal_9 (by decide) ex4 (ls' := [some (.ref p0), some (.int (Int32.ofInt 0)), some (.ref a2), some (.int x4), none, none]) rfl ?_
  refine q_iconst dX6_patternTotal_10 ?_
  refine r_istore dX6_patternTotal_11 (by decide) rfl (ls' := [some (.ref p0), some (.int (Int32.ofInt 0)), some (.ref a2), some (.int x4), some (.int (Int32.ofInt 0)), none]) rfl ?_
  exact r_fewer [none, some (.int (Int32.ofInt 0)), some (.ref a2), some (.int x4), some (.int (Int32.ofInt 0)), none] (ls_n (ls_s (ls_s (ls_s (ls_s (ls_n ls_0)))))) (s_X6_patternTotal_13 (Int32.ofInt 0) a2 x4 (Int32.ofInt 0) h E hK)
theorem c_X6_patternTotal {l : Launch} {G : mG} {p0 : Nat} {h h' : mH} {r : Int32} (E : f_X6_patternTotal p0 h = some (r, h')) : mMet l G m_X6_patternTotal 0 0 0 [.ref p0] h (fun v k => v = some (.int r) ∧ h' = k) (fun _ _ => False) :=
  mMet_of (by decide +kernel) rfl (ac_c rfl ac_0) (Nat.le_of_ble_eq_true rfl) (s_X6_patternTotal_0 p0 h E (And.intro rfl rfl))
set_option maxRecDepth 100000 in
set_option maxHeartbeats 4000000 in
theorem s_X6_free_0 {l : Launch} {G : mG} {Q : Option Value → mH → Prop} {X : String → mH → Prop} (p0 : Nat) (v1 : Int32) (h : mH) {o : Int32 × mH} (E : f_X6_free p0 v1 h = some o) (hK : (fiI Q) o) : mW l G m_X6_free 1 0 0 0 [some (.ref p0), some (.int v1)] [] h Q X := by
  unfold f_X6_free at E
  refine q_iload_n dX6_free_0 rfl ?_
  replace E := cal_some E
  obtain ⟨x2, h1, hc, E⟩ := E
  refine r_callSN1 (mc := 0) (ms := 0) dX6_free_1 KX6_30 (c_X11_isSlot hc) (by decide) (Nat.le_of_ble_eq_true rfl) (fun _ _ q => q.elim) ?_
  rintro _ _ ⟨rfl, rfl⟩
  clear hc
  refine q_if_ne (tgt := 9) dX6_free_4 (by decide) (fun z3 => ?_) (fun z3 => ?_)
  · replace E := ite_f E z3
    refine q_aload_n dX6_free_9 rfl ?_
    replace E := grd_some E
    obtain ⟨g4, E⟩ := E
    replace E := orf_some E
    obtain ⟨a5, ea5, E⟩ := E
    refine r_getR dX6_free_10 FX6_11 g4 ea5 ?_
    refine q_iload_n dX6_free_13 rfl ?_
    replace E := grd_some E
    obtain ⟨g6, E⟩ := E
    replace E := grd_some E
    obtain ⟨g7, E⟩ := E
    replace E := bnd_x E
    obtain ⟨o8, eo8, E⟩ := E
    refine r_aaload (t0 := 6) dX6_free_14 rfl g6 g7 eo8 ?_
    replace E := oif_some E
    rcases E with ⟨rfl, E⟩ | ⟨a9, rfl, E⟩
    · refine q_ifnonnullN dX6_free_15 ?_
      refine q_bipush (v := (Int32.ofInt (-2))) dX6_free_18 (by decide) ?_
      cases E
      exact q_ireturn dX6_free_20 rfl hK
    · refine q_ifnonnull (tgt := 21) dX6_free_15 (by decide) ?_
      refine q_aload_n dX6_free_21 rfl ?_
      refine r_getR dX6_free_22 FX6_11 g4 ea5 ?_
      refine q_iload_n dX6_free_25 rfl ?_
      refine q_null dX6_free_26 ?_
      replace E := bnd_x E
      obtain ⟨h11, eh11, E⟩ := E
      refine r_aastoreN (t0 := 6) (hh := eh11) dX6_free_27 rfl g6 g7 ?_
      refine q_aload_n dX6_free_28 rfl ?_
      replace E := grd_some E
      obtain ⟨g14, E⟩ := E
      replace E := cal_some E
      obtain ⟨x13, h12, hc, E⟩ := E
      refine r_callV0 (mc := 0) (ms := 0) dX6_free_29 KX6_54 (c_X6_patternTotal hc) g14 (by decide) (Nat.le_of_ble_eq_true rfl) (fun _ _ q => q.elim) ?_
      rintro _ _ ⟨rfl, rfl⟩
      clear hc
      cases E
      exact q_ireturn dX6_free_32 rfl hK
  · replace E := ite_t E z3
    refine q_iconst dX6_free_7 ?_
    cases E
    exact q_ireturn dX6_free_8 rfl hK
theorem c_X6_free {l : Launch} {G : mG} {p0 : Nat} {v1 : Int32} {h h' : mH} {r : Int32} (E : f_X6_free p0 v1 h = some (r, h')) : mMet l G m_X6_free 1 0 0 [.ref p0, .int v1] h (fun v k => v = some (.int r) ∧ h' = k) (fun _ _ => False) :=
  mMet_of (by decide +kernel) rfl (ac_c rfl (ac_c rfl ac_0)) (Nat.le_of_ble_eq_true rfl) (s_X6_free_0 p0 v1 h E (And.intro rfl rfl))
set_option maxRecDepth 100000 in
set_option maxHeartbeats 4000000 in
theorem s_X6_addSample_11 {l : Launch} {G : mG} {Q : Option Value → mH → Prop} {X : String → mH → Prop} (h : mH) {o : Int32 × mH} (E : g_X6_addSample_11  h = some o) (hK : (fiI Q) o) : mW l G m_X6_addSample 1 0 0 11 [none, none] [] h Q X := by
  unfold g_X6_addSample_11 at E
  refine q_bipush (v := (Int32.ofInt (-4))) dX6_addSample_11 (by decide) ?_
  cases E
  exact q_ireturn dX6_addSample_13 rfl hK
set_option maxRecDepth 100000 in
set_option maxHeartbeats 4000000 in
theorem s_X6_addSample_30 {l : Launch} {G : mG} {Q : Option Value → mH → Prop} {X : String → mH → Prop} (h : mH) {o : Int32 × mH} (E : g_X6_addSample_30  h = some o) (hK : (fiI Q) o) : mW l G m_X6_addSample 1 0 0 30 [none, none] [] h Q X := by
  unfold g_X6_addSample_30 at E
  refine q_bipush (v := (Int32.ofInt (-5))) dX6_addSample_30 (by decide) ?_
  cases E
  exact q_ireturn dX6_addSample_32 rfl hK
set_option maxRecDepth 100000 in
set_option maxHeartbeats 4000000 in
theorem s_X6_addSample_0 {l : Launch} {G : mG} {Q : Option Value → mH → Prop} {X : String → mH → Prop} (p0 : Nat) (q1 : Option Nat) (h : mH) {o : Int32 × mH} (E : f_X6_addSample p0 q1 h = some o) (hK : (fiI Q) o) : mW l G m_X6_addSample 1 0 0 0 [some (.ref p0), some (va_rf q1)] [] h Q X := by
  unfold f_X6_addSample at E
  refine r_aload_nO dX6_addSample_0 rfl ?_
  replace E := oif_some E
  rcases E with ⟨rfl, E⟩ | ⟨a1, rfl, E⟩
  · refine q_ifnullN (tgt := 11) dX6_addSample_1 (by decide) ?_
    exact r_fewer [none, none] (ls_n (ls_n ls_0)) (s_X6_addSample_11 h E hK)
  · refine q_ifnull dX6_addSample_1 ?_
    refine q_aload_n dX6_addSample_4 rfl ?_
    replace E := grd_some E
    obtain ⟨g4, E⟩ := E
    replace E := cal_some E
    obtain ⟨x3, h2, hc, E⟩ := E
    refine r_callV0 (mc := 0) (ms := 0) dX6_addSample_5 KX6_57 (c_X10_size hc) g4 (by decide) (Nat.le_of_ble_eq_true rfl) (fun _ _ q => q.elim) ?_
    rintro _ _ ⟨rfl, rfl⟩
    clear hc
    refine q_if_ne (tgt := 14) dX6_addSample_8 (by decide) (fun z5 => ?_) (fun z5 => ?_)
    · replace E := ite_f E z5
      refine q_aload_n dX6_addSample_14 rfl ?_
      replace E := grd_some E
      obtain ⟨g6, E⟩ := E
      refine r_getI dX6_addSample_15 FX6_23 g6 ?_
      refine q_if_lt (tgt := 30) dX6_addSample_18 (by decide) (fun z7 => ?_) (fun z7 => ?_)
      · replace E := ite_t E z7
        exact r_fewer [none, none] (ls_n (ls_n ls_0)) (s_X6_addSample_30 h2 E hK)
      · replace E := ite_f E z7
        refine q_aload_n dX6_addSample_21 rfl ?_
        refine r_getI dX6_addSample_22 FX6_23 g6 ?_
        refine q_bipush (v := (Int32.ofInt 8)) dX6_addSample_25 (by decide) ?_
        refine q_icmp_lt (tgt := 33) dX6_addSample_27 (by decide) (fun z8 => ?_) (fun z8 => ?_)
        · replace E := ite_t E z8
          refine q_aload_n dX6_addSample_33 rfl ?_
          replace E := orf_some E
          obtain ⟨a9, ea9, E⟩ := E
          refine r_getR dX6_addSample_34 FX6_19 g6 ea9 ?_
          refine q_aload_n dX6_addSample_37 rfl ?_
          refine r_getI dX6_addSample_38 FX6_23 g6 ?_
          refine q_aload_n dX6_addSample_41 rfl ?_
          replace E := grd_some E
          obtain ⟨g11, E⟩ := E
          replace E := grd_some E
          obtain ⟨g12, E⟩ := E
          replace E := grd_some E
          obtain ⟨g13, E⟩ := E
          replace E := bnd_x E
          obtain ⟨h10, eh10, E⟩ := E
          refine r_aastore (t0 := 8) (ci := 14) (hh := eh10) dX6_addSample_42 rfl rfl g11 g13 g12 ?_
          refine q_aload_n dX6_addSample_43 rfl ?_
          refine q_dup dX6_addSample_44 ?_
          replace E := grd_some E
          obtain ⟨g14, E⟩ := E
          refine r_getI dX6_addSample_45 FX6_23 g14 ?_
          refine q_iconst dX6_addSample_48 ?_
          refine q_iadd dX6_addSample_49 ?_
          replace E := bnd_x E
          obtain ⟨h15, eh15, E⟩ := E
          refine r_putI (hh := eh15) dX6_addSample_50 FX6_23 g14 rfl rfl ?_
          refine q_aload_n dX6_addSample_53 rfl ?_
          replace E := grd_some E
          obtain ⟨g16, E⟩ := E
          refine r_getI dX6_addSample_54 FX6_23 g16 ?_
          refine q_iconst dX6_addSample_57 ?_
          refine q_isub dX6_addSample_58 ?_
          cases E
          exact q_ireturn dX6_addSample_59 rfl hK
        · replace E := ite_f E z8
          exact r_fewer [none, none] (ls_n (ls_n ls_0)) (s_X6_addSample_30 h2 E hK)
    · replace E := ite_t E z5
      exact r_fewer [none, none] (ls_n (ls_n ls_0)) (s_X6_addSample_11 h2 E hK)
theorem c_X6_addSample {l : Launch} {G : mG} {p0 : Nat} {q1 : Option Nat} {h h' : mH} {r : Int32} (E : f_X6_addSample p0 q1 h = some (r, h')) : mMet l G m_X6_addSample 1 0 0 [.ref p0, va_rf q1] h (fun v k => v = some (.int r) ∧ h' = k) (fun _ _ => False) :=
  mMet_of (by decide +kernel) rfl (ac_c rfl (ac_c (r_cat _) ac_0)) (Nat.le_of_ble_eq_true rfl) (s_X6_addSample_0 p0 q1 h E (And.intro rfl rfl))
set_option maxRecDepth 100000 in
set_option maxHeartbeats 4000000 in
theorem s_X6_sample_28 {l : Launch} {G : mG} {Q : Option Value → mH → Prop} {X : String → mH → Prop} (sq0 : Option Nat) (h : mH) {o : Option Nat × mH} (E : g_X6_sample_28 sq0 h = some o) (hK : (fiR Q) o) : mW l G m_X6_sample 0 0 0 28 [none, none] [va_rf sq0] h Q X := by
  unfold g_X6_sample_28 at E
  cases E
  exact q_areturn (v := sq0) dX6_sample_28 rfl (by first | exact Or.inl ⟨_, rfl⟩ | exact Or.inr ⟨_, rfl⟩) hK
set_option maxRecDepth 100000 in
set_option maxHeartbeats 4000000 in
theorem s_X6_sample_18 {l : Launch} {G : mG} {Q : Option Value → mH → Prop} {X : String → mH → Prop} (h : mH) {o : Option Nat × mH} (E : g_X6_sample_18  h = some o) (hK : (fiR Q) o) : mW l G m_X6_sample 0 0 0 18 [none, none] [] h Q X := by
  unfold g_X6_sample_18 at E
  refine q_null dX6_sample_18 ?_
  refine q_goto (tgt := 28) dX6_sample_19 (by decide) ?_
  exact r_fewer [none, none] (ls_n (ls_n ls_0)) (s_X6_sample_28 none h E hK)
set_option maxRecDepth 100000 in
set_option maxHeartbeats 4000000 in
theorem s_X6_sample_0 {l : Launch} {G : mG} {Q : Option Value → mH → Prop} {X : String → mH → Prop} (p0 : Nat) (v1 : Int32) (h : mH) {o : Option Nat × mH} (E : f_X6_sample p0 v1 h = some o) (hK : (fiR Q) o) : mW l G m_X6_sample 0 0 0 0 [some (.ref p0), some (.int v1)] [] h Q X := by
  unfold f_X6_sample at E
  refine q_iload_n dX6_sample_0 rfl ?_
  refine q_if_lt (tgt := 18) dX6_sample_1 (by decide) (fun z1 => ?_) (fun z1 => ?_)
  · replace E := ite_t E z1
    exact r_fewer [none, none] (ls_n (ls_n ls_0)) (s_X6_sample_18 h E hK)
  · replace E := ite_f E z1
    refine q_iload_n dX6_sample_4 rfl ?_
    refine q_aload_n dX6_sample_5 rfl ?_
    replace E := grd_some E
    obtain ⟨g2, E⟩ := E
    refine r_getI dX6_sample_6 FX6_23 g2 ?_
    refine q_icmp_ge (tgt := 18) dX6_sample_9 (by decide) (fun z3 => ?_) (fun z3 => ?_)
    · replace E := ite_t E z3
      exact r_fewer [none, none] (ls_n (ls_n ls_0)) (s_X6_sample_18 h E hK)
    · replace E := ite_f E z3
      refine q_iload_n dX6_sample_12 rfl ?_
      refine q_bipush (v := (Int32.ofInt 8)) dX6_sample_13 (by decide) ?_
      refine q_icmp_lt (tgt := 22) dX6_sample_15 (by decide) (fun z4 => ?_) (fun z4 => ?_)
      · replace E := ite_t E z4
        refine q_aload_n dX6_sample_22 rfl ?_
        replace E := orf_some E
        obtain ⟨a5, ea5, E⟩ := E
        refine r_getR dX6_sample_23 FX6_19 g2 ea5 ?_
        refine q_iload_n dX6_sample_26 rfl ?_
        replace E := grd_some E
        obtain ⟨g6, E⟩ := E
        replace E := grd_some E
        obtain ⟨g7, E⟩ := E
        replace E := bnd_x E
        obtain ⟨o8, eo8, E⟩ := E
        refine r_aaload (t0 := 8) dX6_sample_27 rfl g6 g7 eo8 ?_
        exact r_fewer [none, none] (ls_n (ls_n ls_0)) (s_X6_sample_28 o8 h E hK)
      · replace E := ite_f E z4
        exact r_fewer [none, none] (ls_n (ls_n ls_0)) (s_X6_sample_18 h E hK)
theorem c_X6_sample {l : Launch} {G : mG} {p0 : Nat} {v1 : Int32} {h h' : mH} {r : Option Nat} (E : f_X6_sample p0 v1 h = some (r, h')) : mMet l G m_X6_sample 0 0 0 [.ref p0, .int v1] h (fun v k => v = some (va_rf r) ∧ h' = k) (fun _ _ => False) :=
  mMet_of (by decide +kernel) rfl (ac_c rfl (ac_c rfl ac_0)) (Nat.le_of_ble_eq_true rfl) (s_X6_sample_0 p0 v1 h E (And.intro rfl rfl))
set_option maxRecDepth 100000 in
set_option maxHeartbeats 4000000 in
theorem sb_X6_removeSample_15 {l : Launch} {G : mG} {Q : Option Value → mH → Prop} {X : String → mH → Prop} (p0 : Nat) (v2 : Int32) (h : mH) {o : ((Int32 × mH) ⊕ (Int32 × mH))} (E : b0_X6_removeSample_15 p0 v2 h = some o) (hK : (lpK (w_X6_removeSample_15 l G Q X p0) (fiI Q)) o) : mW l G m_X6_removeSample 1 0 0 15 [some (.ref p0), none, some (.int v2)] [] h Q X := by
  unfold b0_X6_removeSample_15 at E
  refine q_iload_n dX6_removeSample_15 rfl ?_
  refine q_bipush (v := (Int32.ofInt 8)) dX6_removeSample_16 (by decide) ?_
  refine q_icmp_ge (tgt := 41) dX6_removeSample_18 (by decide) (fun z1 => ?_) (fun z1 => ?_)
  · replace E := ite_t E z1
    refine q_aload_n dX6_removeSample_41 rfl ?_
    replace E := grd_some E
    obtain ⟨g2, E⟩ := E
    replace E := orf_some E
    obtain ⟨a3, ea3, E⟩ := E
    refine r_getR dX6_removeSample_42 FX6_19 g2 ea3 ?_
    refine q_bipush (v := (Int32.ofInt 7)) dX6_removeSample_45 (by decide) ?_
    refine q_null dX6_removeSample_47 ?_
    replace E := grd_some E
    obtain ⟨g5, E⟩ := E
    replace E := grd_some E
    obtain ⟨g6, E⟩ := E
    replace E := bnd_x E
    obtain ⟨h4, eh4, E⟩ := E
    refine r_aastoreN (t0 := 8) (hh := eh4) dX6_removeSample_48 rfl g5 g6 ?_
    refine q_aload_n dX6_removeSample_49 rfl ?_
    refine q_dup dX6_removeSample_50 ?_
    replace E := grd_some E
    obtain ⟨g7, E⟩ := E
    refine r_getI dX6_removeSample_51 FX6_23 g7 ?_
    refine q_iconst dX6_removeSample_54 ?_
    refine q_isub dX6_removeSample_55 ?_
    replace E := bnd_x E
    obtain ⟨h8, eh8, E⟩ := E
    refine r_putI (hh := eh8) dX6_removeSample_56 FX6_23 g7 rfl rfl ?_
    refine q_aload_n dX6_removeSample_59 rfl ?_
    replace E := grd_some E
    obtain ⟨g9, E⟩ := E
    refine r_getI dX6_removeSample_60 FX6_23 g9 ?_
    cases E
    exact q_ireturn dX6_removeSample_63 rfl hK
  · replace E := ite_f E z1
    refine q_aload_n dX6_removeSample_21 rfl ?_
    replace E := grd_some E
    obtain ⟨g10, E⟩ := E
    replace E := orf_some E
    obtain ⟨a11, ea11, E⟩ := E
    refine r_getR dX6_removeSample_22 FX6_19 g10 ea11 ?_
    refine q_iload_n dX6_removeSample_25 rfl ?_
    refine q_iconst dX6_removeSample_26 ?_
    refine q_isub dX6_removeSample_27 ?_
    refine q_aload_n dX6_removeSample_28 rfl ?_
    refine r_getR dX6_removeSample_29 FX6_19 g10 ea11 ?_
    refine q_iload_n dX6_removeSample_32 rfl ?_
    replace E := grd_some E
    obtain ⟨g13, E⟩ := E
    replace E := grd_some E
    obtain ⟨g14, E⟩ := E
    replace E := bnd_x E
    obtain ⟨o15, eo15, E⟩ := E
    refine r_aaload (t0 := 8) dX6_removeSample_33 rfl g13 g14 eo15 ?_
    replace E := grd_some E
    obtain ⟨g17, E⟩ := E
    replace E := bnd_x E
    obtain ⟨h16, eh16, E⟩ := E
    replace E := grd_some E
    obtain ⟨g18, E⟩ := E
    refine r_aastoreO (t0 := 8) (ci := 14) (hh := eh16) dX6_removeSample_34 rfl rfl g13 g18 g17 ?_
    replace E := bnd_x E
    obtain ⟨x19, ex19, E⟩ := E
    refine r_iinc (v := x19) dX6_removeSample_35 rfl ex19 (by decide) (ls' := [some (.ref p0), none, some (.int x19)]) rfl ?_
    refine q_goto (tgt := 15) dX6_removeSample_38 (by decide) ?_
    cases E
    exact r_fewer [some (.ref p0), none, some (.int x19)] (ls_s (ls_n (ls_s ls_0))) hK
theorem s_X6_removeSample_15 {l : Launch} {G : mG} {Q : Option Value → mH → Prop} {X : String → mH → Prop} (p0 : Nat) (v2 : Int32) (h : mH) {o : Int32 × mH} (E : g_X6_removeSample_15 p0 v2 h = some o) (hK : (fiI Q) o) : mW l G m_X6_removeSample 1 0 0 15 [some (.ref p0), none, some (.int v2)] [] h Q X :=
  (lp_go (w_X6_removeSample_15 l G Q X p0) (fiI Q) (b_X6_removeSample_15 p0) (fun s o E hK => sb_X6_removeSample_15 p0 s.1 (s.2) E hK) _ _ _ E hK : w_X6_removeSample_15 l G Q X p0 (v2, h))
set_option maxRecDepth 100000 in
set_option maxHeartbeats 4000000 in
theorem s_X6_removeSample_0 {l : Launch} {G : mG} {Q : Option Value → mH → Prop} {X : String → mH → Prop} (p0 : Nat) (v1 : Int32) (h : mH) {o : Int32 × mH} (E : f_X6_removeSample p0 v1 h = some o) (hK : (fiI Q) o) : mW l G m_X6_removeSample 1 0 0 0 [some (.ref p0), some (.int v1), none] [] h Q X := by
  unfold f_X6_removeSample at E
  refine q_aload_n dX6_removeSample_0 rfl ?_
  refine q_iload_n dX6_removeSample_1 rfl ?_
  replace E := grd_some E
  obtain ⟨g3, E⟩ := E
  replace E := cal_some E
  obtain ⟨o2, h1, hc, E⟩ := E
  refine r_callV1 (mc := 0) (ms := 0) dX6_removeSample_2 KX6_60 (c_X6_sample hc) g3 (by decide) (Nat.le_of_ble_eq_true rfl) (fun _ _ q => q.elim) ?_
  rintro _ _ ⟨rfl, rfl⟩
  clear hc
  replace E := oif_some E
  rcases E with ⟨rfl, E⟩ | ⟨a4, rfl, E⟩
  · refine q_ifnonnullN dX6_removeSample_5 ?_
    refine q_bipush (v := (Int32.ofInt (-6))) dX6_removeSample_8 (by decide) ?_
    cases E
    exact q_ireturn dX6_removeSample_10 rfl hK
  · refine q_ifnonnull (tgt := 11) dX6_removeSample_5 (by decide) ?_
    refine q_iload_n dX6_removeSample_11 rfl ?_
    refine q_iconst dX6_removeSample_12 ?_
    refine q_iadd dX6_removeSample_13 ?_
    replace E := bnd_x E
    obtain ⟨x5, ex5, E⟩ := E
    refine r_istore_n dX6_removeSample_14 (by decide) ex5 (ls' := [some (.ref p0), some (.int v1), some (.int x5)]) rfl ?_
    exact r_fewer [some (.ref p0), none, some (.int x5)] (ls_s (ls_n (ls_s ls_0))) (s_X6_removeSample_15 p0 x5 h1 E hK)
theorem c_X6_removeSample {l : Launch} {G : mG} {p0 : Nat} {v1 : Int32} {h h' : mH} {r : Int32} (E : f_X6_removeSample p0 v1 h = some (r, h')) : mMet l G m_X6_removeSample 1 0 0 [.ref p0, .int v1] h (fun v k => v = some (.int r) ∧ h' = k) (fun _ _ => False) :=
  mMet_of (by decide +kernel) rfl (ac_c rfl (ac_c rfl ac_0)) (Nat.le_of_ble_eq_true rfl) (s_X6_removeSample_0 p0 v1 h E (And.intro rfl rfl))
set_option maxRecDepth 100000 in
set_option maxHeartbeats 4000000 in
theorem s_X6_pattern_17 {l : Launch} {G : mG} {Q : Option Value → mH → Prop} {X : String → mH → Prop} (sq0 : Option Nat) (h : mH) {o : Option Nat × mH} (E : g_X6_pattern_17 sq0 h = some o) (hK : (fiR Q) o) : mW l G m_X6_pattern 1 0 0 17 [none, none] [va_rf sq0] h Q X := by
  unfold g_X6_pattern_17 at E
  cases E
  exact q_areturn (v := sq0) dX6_pattern_17 rfl (by first | exact Or.inl ⟨_, rfl⟩ | exact Or.inr ⟨_, rfl⟩) hK
set_option maxRecDepth 100000 in
set_option maxHeartbeats 4000000 in
theorem s_X6_pattern_0 {l : Launch} {G : mG} {Q : Option Value → mH → Prop} {X : String → mH → Prop} (p0 : Nat) (v1 : Int32) (h : mH) {o : Option Nat × mH} (E : f_X6_pattern p0 v1 h = some o) (hK : (fiR Q) o) : mW l G m_X6_pattern 1 0 0 0 [some (.ref p0), some (.int v1)] [] h Q X := by
  unfold f_X6_pattern at E
  refine q_iload_n dX6_pattern_0 rfl ?_
  replace E := cal_some E
  obtain ⟨x2, h1, hc, E⟩ := E
  refine r_callSN1 (mc := 0) (ms := 0) dX6_pattern_1 KX6_30 (c_X11_isSlot hc) (by decide) (Nat.le_of_ble_eq_true rfl) (fun _ _ q => q.elim) ?_
  rintro _ _ ⟨rfl, rfl⟩
  clear hc
  refine q_if_eq (tgt := 16) dX6_pattern_4 (by decide) (fun z3 => ?_) (fun z3 => ?_)
  · replace E := ite_t E z3
    refine q_null dX6_pattern_16 ?_
    exact r_fewer [none, none] (ls_n (ls_n ls_0)) (s_X6_pattern_17 none h1 E hK)
  · replace E := ite_f E z3
    refine q_aload_n dX6_pattern_7 rfl ?_
    replace E := grd_some E
    obtain ⟨g4, E⟩ := E
    replace E := orf_some E
    obtain ⟨a5, ea5, E⟩ := E
    refine r_getR dX6_pattern_8 FX6_11 g4 ea5 ?_
    refine q_iload_n dX6_pattern_11 rfl ?_
    replace E := grd_some E
    obtain ⟨g6, E⟩ := E
    replace E := grd_some E
    obtain ⟨g7, E⟩ := E
    replace E := bnd_x E
    obtain ⟨o8, eo8, E⟩ := E
    refine r_aaload (t0 := 6) dX6_pattern_12 rfl g6 g7 eo8 ?_
    refine q_goto (tgt := 17) dX6_pattern_13 (by decide) ?_
    exact r_fewer [none, none] (ls_n (ls_n ls_0)) (s_X6_pattern_17 o8 h1 E hK)
theorem c_X6_pattern {l : Launch} {G : mG} {p0 : Nat} {v1 : Int32} {h h' : mH} {r : Option Nat} (E : f_X6_pattern p0 v1 h = some (r, h')) : mMet l G m_X6_pattern 1 0 0 [.ref p0, .int v1] h (fun v k => v = some (va_rf r) ∧ h' = k) (fun _ _ => False) :=
  mMet_of (by decide +kernel) rfl (ac_c rfl (ac_c rfl ac_0)) (Nat.le_of_ble_eq_true rfl) (s_X6_pattern_0 p0 v1 h E (And.intro rfl rfl))
set_option maxRecDepth 100000 in
set_option maxHeartbeats 4000000 in
theorem s_X6_letterSum_40 {l : Launch} {G : mG} {Q : Option Value → mH → Prop} {X : String → mH → Prop} (p2 : Nat) (v3 : Int32) (v4 : Int32) (s0 : Int32) (s1 : Int32) (h : mH) {o : ((Int32 × Int32 × mH) ⊕ (Int32 × mH))} (E : g_X6_letterSum_40 p2 v3 v4 s0 s1 h = some o) (hK : (lpK (w_X6_letterSum_13 l G Q X p2 v3) (fiI Q)) o) : mW l G m_X6_letterSum 1 0 0 40 [none, none, some (.ref p2), some (.int v3), some (.int v4), none] [.int s0, .int s1] h Q X := by
  unfold g_X6_letterSum_40 at E
  refine q_iadd dX6_letterSum_40 ?_
  replace E := bnd_x E
  obtain ⟨x1, ex1, E⟩ := E
  refine r_istore_n dX6_letterSum_41 (by decide) ex1 (ls' := [none, some (.int x1), some (.ref p2), some (.int v3), some (.int v4), none]) rfl ?_
  replace E := bnd_x E
  obtain ⟨x2, ex2, E⟩ := E
  refine r_iinc (v := x2) dX6_letterSum_42 rfl ex2 (by decide) (ls' := [none, some (.int x1), some (.ref p2), some (.int v3), some (.int x2), none]) rfl ?_
  refine q_goto (tgt := 13) dX6_letterSum_45 (by decide) ?_
  cases E
  exact r_fewer [none, some (.int x1), some (.ref p2), some (.int v3), some (.int x2), none] (ls_n (ls_s (ls_s (ls_s (ls_s (ls_n ls_0)))))) hK
set_option maxRecDepth 100000 in
set_option maxHeartbeats 4000000 in
theorem sb_X6_letterSum_13 {l : Launch} {G : mG} {Q : Option Value → mH → Prop} {X : String → mH → Prop} (v1 : Int32) (p2 : Nat) (v3 : Int32) (v4 : Int32) (h : mH) {o : ((Int32 × Int32 × mH) ⊕ (Int32 × mH))} (E : b0_X6_letterSum_13 v1 p2 v3 v4 h = some o) (hK : (lpK (w_X6_letterSum_13 l G Q X p2 v3) (fiI Q)) o) : mW l G m_X6_letterSum 1 0 0 13 [none, some (.int v1), some (.ref p2), some (.int v3), some (.int v4), none] [] h Q X := by
  unfold b0_X6_letterSum_13 at E
  refine q_iload dX6_letterSum_13 rfl ?_
  refine q_iload_n dX6_letterSum_15 rfl ?_
  refine q_icmp_ge (tgt := 48) dX6_letterSum_16 (by decide) (fun z1 => ?_) (fun z1 => ?_)
  · replace E := ite_t E z1
    refine q_iload_n dX6_letterSum_48 rfl ?_
    cases E
    exact q_ireturn dX6_letterSum_49 rfl hK
  · replace E := ite_f E z1
    refine q_aload_n dX6_letterSum_19 rfl ?_
    refine q_iload dX6_letterSum_20 rfl ?_
    replace E := grd_some E
    obtain ⟨g2, E⟩ := E
    replace E := grd_some E
    obtain ⟨g3, E⟩ := E
    replace E := bnd_x E
    obtain ⟨o4, eo4, E⟩ := E
    refine r_aaload (t0 := 6) dX6_letterSum_22 rfl g2 g3 eo4 ?_
    refine r_astoreO dX6_letterSum_23 (by decide) (ls' := [none, some (.int v1), some (.ref p2), some (.int v3), some (.int v4), some (va_rf o4)]) rfl ?_
    refine q_iload_n dX6_letterSum_25 rfl ?_
    refine r_aloadO dX6_letterSum_26 rfl ?_
    replace E := oif_some E
    rcases E with ⟨rfl, E⟩ | ⟨a5, rfl, E⟩
    · refine q_ifnonnullN dX6_letterSum_28 ?_
      refine q_iconst dX6_letterSum_31 ?_
      refine q_goto (tgt := 40) dX6_letterSum_32 (by decide) ?_
      exact r_fewer [none, none, some (.ref p2), some (.int v3), some (.int v4), none] (ls_n (ls_n (ls_s (ls_s (ls_s (ls_n ls_0)))))) (s_X6_letterSum_40 p2 v3 v4 (Int32.ofInt 0) v1 h E hK)
    · refine q_ifnonnull (tgt := 35) dX6_letterSum_28 (by decide) ?_
      refine q_aload dX6_letterSum_35 rfl ?_
      replace E := grd_some E
      obtain ⟨g8, E⟩ := E
      replace E := cal_some E
      obtain ⟨x7, h6, hc, E⟩ := E
      refine r_callV0 (mc := 0) (ms := 0) dX6_letterSum_37 KX6_38 (c_X4_letters hc) g8 (by decide) (Nat.le_of_ble_eq_true rfl) (fun _ _ q => q.elim) ?_
      rintro _ _ ⟨rfl, rfl⟩
      clear hc
      exact r_fewer [none, none, some (.ref p2), some (.int v3), some (.int v4), none] (ls_n (ls_n (ls_s (ls_s (ls_s (ls_n ls_0)))))) (s_X6_letterSum_40 p2 v3 v4 x7 v1 h6 E hK)
theorem s_X6_letterSum_13 {l : Launch} {G : mG} {Q : Option Value → mH → Prop} {X : String → mH → Prop} (v1 : Int32) (p2 : Nat) (v3 : Int32) (v4 : Int32) (h : mH) {o : Int32 × mH} (E : g_X6_letterSum_13 v1 p2 v3 v4 h = some o) (hK : (fiI Q) o) : mW l G m_X6_letterSum 1 0 0 13 [none, some (.int v1), some (.ref p2), some (.int v3), some (.int v4), none] [] h Q X :=
  (lp_go (w_X6_letterSum_13 l G Q X p2 v3) (fiI Q) (b_X6_letterSum_13 p2 v3) (fun s o E hK => sb_X6_letterSum_13 s.1 p2 v3 s.2.1 (s.2.2) E hK) _ _ _ E hK : w_X6_letterSum_13 l G Q X p2 v3 (v1, v4, h))
set_option maxRecDepth 100000 in
set_option maxHeartbeats 4000000 in
theorem s_X6_letterSum_0 {l : Launch} {G : mG} {Q : Option Value → mH → Prop} {X : String → mH → Prop} (p0 : Nat) (h : mH) {o : Int32 × mH} (E : f_X6_letterSum p0 h = some o) (hK : (fiI Q) o) : mW l G m_X6_letterSum 1 0 0 0 [some (.ref p0), none, none, none, none, none] [] h Q X := by
  unfold f_X6_letterSum at E
  refine q_iconst dX6_letterSum_0 ?_
  refine r_istore_n dX6_letterSum_1 (by decide) rfl (ls' := [some (.ref p0), some (.int (Int32.ofInt 0)), none, none, none, none]) rfl ?_
  refine q_aload_n dX6_letterSum_2 rfl ?_
  replace E := grd_some E
  obtain ⟨g1, E⟩ := E
  replace E := orf_some E
  obtain ⟨a2, ea2, E⟩ := E
  refine r_getR dX6_letterSum_3 FX6_11 g1 ea2 ?_
  refine r_astore_n dX6_letterSum_6 (by decide) (ls' := [some (.ref p0), some (.int (Int32.ofInt 0)), some (.ref a2), none, none, none]) rfl ?_
  refine q_aload_n dX6_letterSum_7 rfl ?_
  replace E := grd_some E
  obtain ⟨g3, E⟩ := E
  refine r_alen (t0 := 6) dX6_letterSum_8 rfl g3 ?_
  replace E := bnd_x E
  obtain ⟨x4, ex4, E⟩ := E
  refine r_istore_n dX6_letterSum_9 (by decide) ex4 (ls' := [some (.ref p0), some (.int (Int32.ofInt 0)), some (.ref a2), some (.int x4), none, none]) rfl ?_
  refine q_iconst dX6_letterSum_10 ?_
  refine r_istore dX6_letterSum_11 (by decide) rfl (ls' := [some (.ref p0), some (.int (Int32.ofInt 0)), some (.ref a2), some (.int x4), some (.int (Int32.ofInt 0)), none]) rfl ?_
  exact r_fewer [none, some (.int (Int32.ofInt 0)), some (.ref a2), some (.int x4), some (.int (Int32.ofInt 0)), none] (ls_n (ls_s (ls_s (ls_s (ls_s (ls_n ls_0)))))) (s_X6_letterSum_13 (Int32.ofInt 0) a2 x4 (Int32.ofInt 0) h E hK)
theorem c_X6_letterSum {l : Launch} {G : mG} {p0 : Nat} {h h' : mH} {r : Int32} (E : f_X6_letterSum p0 h = some (r, h')) : mMet l G m_X6_letterSum 1 0 0 [.ref p0] h (fun v k => v = some (.int r) ∧ h' = k) (fun _ _ => False) :=
  mMet_of (by decide +kernel) rfl (ac_c rfl ac_0) (Nat.le_of_ble_eq_true rfl) (s_X6_letterSum_0 p0 h E (And.intro rfl rfl))
set_option maxRecDepth 100000 in
set_option maxHeartbeats 4000000 in
theorem s_X6_sampleTotal_0 {l : Launch} {G : mG} {Q : Option Value → mH → Prop} {X : String → mH → Prop} (p0 : Nat) (h : mH) {o : Int32 × mH} (E : f_X6_sampleTotal p0 h = some o) (hK : (fiI Q) o) : mW l G m_X6_sampleTotal 0 0 0 0 [some (.ref p0)] [] h Q X := by
  unfold f_X6_sampleTotal at E
  refine q_aload_n dX6_sampleTotal_0 rfl ?_
  replace E := grd_some E
  obtain ⟨g1, E⟩ := E
  refine r_getI dX6_sampleTotal_1 FX6_23 g1 ?_
  cases E
  exact q_ireturn dX6_sampleTotal_4 rfl hK
theorem c_X6_sampleTotal {l : Launch} {G : mG} {p0 : Nat} {h h' : mH} {r : Int32} (E : f_X6_sampleTotal p0 h = some (r, h')) : mMet l G m_X6_sampleTotal 0 0 0 [.ref p0] h (fun v k => v = some (.int r) ∧ h' = k) (fun _ _ => False) :=
  mMet_of (by decide +kernel) rfl (ac_c rfl ac_0) (Nat.le_of_ble_eq_true rfl) (s_X6_sampleTotal_0 p0 h E (And.intro rfl rfl))
set_option maxRecDepth 100000 in
set_option maxHeartbeats 4000000 in
theorem s_X6_putTotal_0 {l : Launch} {G : mG} {Q : Option Value → mH → Prop} {X : String → mH → Prop} (p0 : Nat) (h : mH) {o : Int32 × mH} (E : f_X6_putTotal p0 h = some o) (hK : (fiI Q) o) : mW l G m_X6_putTotal 0 0 0 0 [some (.ref p0)] [] h Q X := by
  unfold f_X6_putTotal at E
  refine q_aload_n dX6_putTotal_0 rfl ?_
  replace E := grd_some E
  obtain ⟨g1, E⟩ := E
  refine r_getI dX6_putTotal_1 FX6_27 g1 ?_
  cases E
  exact q_ireturn dX6_putTotal_4 rfl hK
theorem c_X6_putTotal {l : Launch} {G : mG} {p0 : Nat} {h h' : mH} {r : Int32} (E : f_X6_putTotal p0 h = some (r, h')) : mMet l G m_X6_putTotal 0 0 0 [.ref p0] h (fun v k => v = some (.int r) ∧ h' = k) (fun _ _ => False) :=
  mMet_of (by decide +kernel) rfl (ac_c rfl ac_0) (Nat.le_of_ble_eq_true rfl) (s_X6_putTotal_0 p0 h E (And.intro rfl rfl))
set_option maxRecDepth 100000 in
set_option maxHeartbeats 4000000 in
theorem s_X7_init_0 {l : Launch} {G : mG} {Q : Option Value → mH → Prop} {X : String → mH → Prop} (p0 : Nat) (h : mH) {o : Unit × mH} (E : f_X7_init p0 h = some o) (hK : (fiV Q) o) : mW l G m_X7_init 0 5 903 0 [some (.ref p0)] [] h Q X := by
  unfold f_X7_init at E
  refine q_aload_n dX7_init_0 rfl ?_
  refine q_objInit dX7_init_1 OX7_3 objW1 objW2 (Nat.le_of_ble_eq_true rfl) ?_
  refine q_aload_n dX7_init_4 rfl ?_
  refine q_sipush (v := (Int32.ofInt 129)) dX7_init_5 (by decide) ?_
  replace E := grd_some E
  obtain ⟨g1, E⟩ := E
  replace E := bnd_x E
  obtain ⟨a2, ea2, E⟩ := E
  replace E := bnd_x E
  obtain ⟨h3, eh3, E⟩ := E
  refine r_newarray (n := 129) (t0 := 3) (hq := ea2) (hh := eh3) dX7_init_8 W_int rfl rfl (by decide) g1 (by decide) ?_
  replace E := grd_some E
  obtain ⟨g4, E⟩ := E
  replace E := bnd_x E
  obtain ⟨h5, eh5, E⟩ := E
  refine r_putR (hh := eh5) dX7_init_10 FX7_9 g4 (hf := Or.inr ⟨rfl, fun _ _ _ q => (Prod.mk.inj (Option.some.inj q)).1.symm⟩) ?_
  refine q_aload_n dX7_init_13 rfl ?_
  refine q_sipush (v := (Int32.ofInt 129)) dX7_init_14 (by decide) ?_
  replace E := bnd_x E
  obtain ⟨a6, ea6, E⟩ := E
  replace E := bnd_x E
  obtain ⟨h7, eh7, E⟩ := E
  refine r_newarray (n := 129) (t0 := 3) (hq := ea6) (hh := eh7) dX7_init_17 W_int rfl rfl (by decide) g1 (by decide) ?_
  replace E := grd_some E
  obtain ⟨g8, E⟩ := E
  replace E := bnd_x E
  obtain ⟨h9, eh9, E⟩ := E
  refine r_putR (hh := eh9) dX7_init_19 FX7_15 g8 (hf := Or.inr ⟨rfl, fun _ _ _ q => (Prod.mk.inj (Option.some.inj q)).1.symm⟩) ?_
  refine q_aload_n dX7_init_22 rfl ?_
  refine q_sipush (v := (Int32.ofInt 129)) dX7_init_23 (by decide) ?_
  replace E := bnd_x E
  obtain ⟨a10, ea10, E⟩ := E
  replace E := bnd_x E
  obtain ⟨h11, eh11, E⟩ := E
  refine r_newarray (n := 129) (t0 := 3) (hq := ea10) (hh := eh11) dX7_init_26 W_int rfl rfl (by decide) g1 (by decide) ?_
  replace E := grd_some E
  obtain ⟨g12, E⟩ := E
  replace E := bnd_x E
  obtain ⟨h13, eh13, E⟩ := E
  refine r_putR (hh := eh13) dX7_init_28 FX7_18 g12 (hf := Or.inr ⟨rfl, fun _ _ _ q => (Prod.mk.inj (Option.some.inj q)).1.symm⟩) ?_
  refine q_aload_n dX7_init_31 rfl ?_
  refine q_sipush (v := (Int32.ofInt 387)) dX7_init_32 (by decide) ?_
  replace E := grd_some E
  obtain ⟨g14, E⟩ := E
  replace E := bnd_x E
  obtain ⟨a15, ea15, E⟩ := E
  replace E := bnd_x E
  obtain ⟨h16, eh16, E⟩ := E
  refine r_newarray (n := 387) (t0 := 3) (hq := ea15) (hh := eh16) dX7_init_35 W_int rfl rfl (by decide) g14 (by decide) ?_
  replace E := grd_some E
  obtain ⟨g17, E⟩ := E
  replace E := bnd_x E
  obtain ⟨h18, eh18, E⟩ := E
  refine r_putR (hh := eh18) dX7_init_37 FX7_21 g17 (hf := Or.inr ⟨rfl, fun _ _ _ q => (Prod.mk.inj (Option.some.inj q)).1.symm⟩) ?_
  refine q_aload_n dX7_init_40 rfl ?_
  refine q_sipush (v := (Int32.ofInt 129)) dX7_init_41 (by decide) ?_
  replace E := bnd_x E
  obtain ⟨a19, ea19, E⟩ := E
  replace E := bnd_x E
  obtain ⟨h20, eh20, E⟩ := E
  refine r_newarray (n := 129) (t0 := 0) (hq := ea19) (hh := eh20) dX7_init_44 W_boolean rfl rfl (by decide) g1 (by decide) ?_
  replace E := grd_some E
  obtain ⟨g21, E⟩ := E
  replace E := bnd_x E
  obtain ⟨h22, eh22, E⟩ := E
  refine r_putR (hh := eh22) dX7_init_46 FX7_24 g21 (hf := Or.inr ⟨rfl, fun _ _ _ q => (Prod.mk.inj (Option.some.inj q)).1.symm⟩) ?_
  refine q_aload_n dX7_init_49 rfl ?_
  refine q_iconst dX7_init_50 ?_
  replace E := grd_some E
  obtain ⟨g23, E⟩ := E
  replace E := bnd_x E
  obtain ⟨h24, eh24, E⟩ := E
  refine r_putI (hh := eh24) dX7_init_51 FX7_28 g23 rfl rfl ?_
  cases E
  exact q_return dX7_init_54 rfl hK
theorem c_X7_init {l : Launch} {G : mG} {p0 : Nat} {h h' : mH} {r : Unit} (E : f_X7_init p0 h = some (r, h')) : mMet l G m_X7_init 0 5 903 [.ref p0] h (fun v k => v = none ∧ h' = k) (fun _ _ => False) :=
  mMet_of (by decide +kernel) rfl (ac_c rfl ac_0) (Nat.le_of_ble_eq_true rfl) (s_X7_init_0 p0 h E (And.intro rfl rfl))
set_option maxRecDepth 100000 in
set_option maxHeartbeats 4000000 in
theorem s_X7_classOf_21 {l : Launch} {G : mG} {Q : Option Value → mH → Prop} {X : String → mH → Prop} (s0 : Int32) (h : mH) {o : Int32 × mH} (E : g_X7_classOf_21 s0 h = some o) (hK : (fiI Q) o) : mW l G m_X7_classOf 0 0 0 21 [none, none] [.int s0] h Q X := by
  unfold g_X7_classOf_21 at E
  cases E
  exact q_ireturn dX7_classOf_21 rfl hK
set_option maxRecDepth 100000 in
set_option maxHeartbeats 4000000 in
theorem s_X7_classOf_11 {l : Launch} {G : mG} {Q : Option Value → mH → Prop} {X : String → mH → Prop} (h : mH) {o : Int32 × mH} (E : g_X7_classOf_11  h = some o) (hK : (fiI Q) o) : mW l G m_X7_classOf 0 0 0 11 [none, none] [] h Q X := by
  unfold g_X7_classOf_11 at E
  refine q_iconst dX7_classOf_11 ?_
  refine q_goto (tgt := 21) dX7_classOf_12 (by decide) ?_
  exact r_fewer [none, none] (ls_n (ls_n ls_0)) (s_X7_classOf_21 (Int32.ofInt (-1)) h E hK)
set_option maxRecDepth 100000 in
set_option maxHeartbeats 4000000 in
theorem s_X7_classOf_0 {l : Launch} {G : mG} {Q : Option Value → mH → Prop} {X : String → mH → Prop} (p0 : Nat) (v1 : Int32) (h : mH) {o : Int32 × mH} (E : f_X7_classOf p0 v1 h = some o) (hK : (fiI Q) o) : mW l G m_X7_classOf 0 0 0 0 [some (.ref p0), some (.int v1)] [] h Q X := by
  unfold f_X7_classOf at E
  refine q_iload_n dX7_classOf_0 rfl ?_
  refine q_if_lt (tgt := 11) dX7_classOf_1 (by decide) (fun z1 => ?_) (fun z1 => ?_)
  · replace E := ite_t E z1
    exact r_fewer [none, none] (ls_n (ls_n ls_0)) (s_X7_classOf_11 h E hK)
  · replace E := ite_f E z1
    refine q_iload_n dX7_classOf_4 rfl ?_
    refine q_sipush (v := (Int32.ofInt 129)) dX7_classOf_5 (by decide) ?_
    refine q_icmp_lt (tgt := 15) dX7_classOf_8 (by decide) (fun z2 => ?_) (fun z2 => ?_)
    · replace E := ite_t E z2
      refine q_aload_n dX7_classOf_15 rfl ?_
      replace E := grd_some E
      obtain ⟨g3, E⟩ := E
      replace E := orf_some E
      obtain ⟨a4, ea4, E⟩ := E
      refine r_getR dX7_classOf_16 FX7_9 g3 ea4 ?_
      refine q_iload_n dX7_classOf_19 rfl ?_
      replace E := grd_some E
      obtain ⟨g5, E⟩ := E
      replace E := grd_some E
      obtain ⟨g6, E⟩ := E
      refine r_iaload dX7_classOf_20 g5 g6 ?_
      exact r_fewer [none, none] (ls_n (ls_n ls_0)) (s_X7_classOf_21 (gi h a4 v1.toNatClampNeg) h E hK)
    · replace E := ite_f E z2
      exact r_fewer [none, none] (ls_n (ls_n ls_0)) (s_X7_classOf_11 h E hK)
theorem c_X7_classOf {l : Launch} {G : mG} {p0 : Nat} {v1 : Int32} {h h' : mH} {r : Int32} (E : f_X7_classOf p0 v1 h = some (r, h')) : mMet l G m_X7_classOf 0 0 0 [.ref p0, .int v1] h (fun v k => v = some (.int r) ∧ h' = k) (fun _ _ => False) :=
  mMet_of (by decide +kernel) rfl (ac_c rfl (ac_c rfl ac_0)) (Nat.le_of_ble_eq_true rfl) (s_X7_classOf_0 p0 v1 h E (And.intro rfl rfl))
set_option maxRecDepth 100000 in
set_option maxHeartbeats 4000000 in
theorem sb_X7_areAlike_18 {l : Launch} {G : mG} {Q : Option Value → mH → Prop} {X : String → mH → Prop} (p0 : Nat) (p1 : Nat) (v2 : Int32) (v3 : Int32) (v4 : Int32) (h : mH) {o : ((Int32 × mH) ⊕ (Int32 × mH))} (E : b0_X7_areAlike_18 p0 p1 v2 v3 v4 h = some o) (hK : (lpK (w_X7_areAlike_18 l G Q X p0 p1 v2 v3) (fiI Q)) o) : mW l G m_X7_areAlike 1 0 0 18 [some (.ref p0), some (.ref p1), some (.int v2), some (.int v3), some (.int v4)] [] h Q X := by
  unfold b0_X7_areAlike_18 at E
  refine q_iload dX7_areAlike_18 rfl ?_
  refine q_iconst dX7_areAlike_20 ?_
  refine q_icmp_ge (tgt := 57) dX7_areAlike_21 (by decide) (fun z1 => ?_) (fun z1 => ?_)
  · replace E := ite_t E z1
    refine q_iconst dX7_areAlike_57 ?_
    cases E
    exact q_zreturn dX7_areAlike_58 rfl (by decide) hK
  · replace E := ite_f E z1
    refine q_aload_n dX7_areAlike_24 rfl ?_
    refine q_aload_n dX7_areAlike_25 rfl ?_
    refine q_iload_n dX7_areAlike_26 rfl ?_
    refine q_iload dX7_areAlike_27 rfl ?_
    replace E := grd_some E
    obtain ⟨g4, E⟩ := E
    replace E := cal_some E
    obtain ⟨x3, h2, hc, E⟩ := E
    refine r_callV2 (mc := 0) (ms := 0) dX7_areAlike_29 KX7_69 (c_X0_step hc) g4 (by decide) (Nat.le_of_ble_eq_true rfl) (fun _ _ q => q.elim) ?_
    rintro _ _ ⟨rfl, rfl⟩
    clear hc
    replace E := grd_some E
    obtain ⟨g7, E⟩ := E
    replace E := cal_some E
    obtain ⟨x6, h5, hc, E⟩ := E
    refine r_callV1 (mc := 0) (ms := 0) dX7_areAlike_32 KX7_65 (c_X7_classOf hc) g7 (by decide) (Nat.le_of_ble_eq_true rfl) (fun _ _ q => q.elim) ?_
    rintro _ _ ⟨rfl, rfl⟩
    clear hc
    refine q_aload_n dX7_areAlike_35 rfl ?_
    refine q_aload_n dX7_areAlike_36 rfl ?_
    refine q_iload_n dX7_areAlike_37 rfl ?_
    refine q_iload dX7_areAlike_38 rfl ?_
    replace E := grd_some E
    obtain ⟨g10, E⟩ := E
    replace E := cal_some E
    obtain ⟨x9, h8, hc, E⟩ := E
    refine r_callV2 (mc := 0) (ms := 0) dX7_areAlike_40 KX7_69 (c_X0_step hc) g10 (by decide) (Nat.le_of_ble_eq_true rfl) (fun _ _ q => q.elim) ?_
    rintro _ _ ⟨rfl, rfl⟩
    clear hc
    replace E := grd_some E
    obtain ⟨g13, E⟩ := E
    replace E := cal_some E
    obtain ⟨x12, h11, hc, E⟩ := E
    refine r_callV1 (mc := 0) (ms := 0) dX7_areAlike_43 KX7_65 (c_X7_classOf hc) g13 (by decide) (Nat.le_of_ble_eq_true rfl) (fun _ _ q => q.elim) ?_
    rintro _ _ ⟨rfl, rfl⟩
    clear hc
    refine q_icmp_eq (tgt := 51) dX7_areAlike_46 (by decide) (fun z14 => ?_) (fun z14 => ?_)
    · replace E := ite_t E z14
      replace E := bnd_x E
      obtain ⟨x15, ex15, E⟩ := E
      refine r_iinc (v := x15) dX7_areAlike_51 rfl ex15 (by decide) (ls' := [some (.ref p0), some (.ref p1), some (.int v2), some (.int v3), some (.int x15)]) rfl ?_
      refine q_goto (tgt := 18) dX7_areAlike_54 (by decide) ?_
      cases E
      exact r_fewer [some (.ref p0), some (.ref p1), some (.int v2), some (.int v3), some (.int x15)] (ls_s (ls_s (ls_s (ls_s (ls_s ls_0))))) hK
    · replace E := ite_f E z14
      refine q_iconst dX7_areAlike_49 ?_
      cases E
      exact q_zreturn dX7_areAlike_50 rfl (by decide) hK
theorem s_X7_areAlike_18 {l : Launch} {G : mG} {Q : Option Value → mH → Prop} {X : String → mH → Prop} (p0 : Nat) (p1 : Nat) (v2 : Int32) (v3 : Int32) (v4 : Int32) (h : mH) {o : Int32 × mH} (E : g_X7_areAlike_18 p0 p1 v2 v3 v4 h = some o) (hK : (fiI Q) o) : mW l G m_X7_areAlike 1 0 0 18 [some (.ref p0), some (.ref p1), some (.int v2), some (.int v3), some (.int v4)] [] h Q X :=
  (lp_go (w_X7_areAlike_18 l G Q X p0 p1 v2 v3) (fiI Q) (b_X7_areAlike_18 p0 p1 v2 v3) (fun s o E hK => sb_X7_areAlike_18 p0 p1 v2 v3 s.1 (s.2) E hK) _ _ _ E hK : w_X7_areAlike_18 l G Q X p0 p1 v2 v3 (v4, h))
set_option maxRecDepth 100000 in
set_option maxHeartbeats 4000000 in
theorem s_X7_areAlike_0 {l : Launch} {G : mG} {Q : Option Value → mH → Prop} {X : String → mH → Prop} (p0 : Nat) (p1 : Nat) (v2 : Int32) (v3 : Int32) (h : mH) {o : Int32 × mH} (E : f_X7_areAlike p0 p1 v2 v3 h = some o) (hK : (fiI Q) o) : mW l G m_X7_areAlike 1 0 0 0 [some (.ref p0), some (.ref p1), some (.int v2), some (.int v3), none] [] h Q X := by
  unfold f_X7_areAlike at E
  refine q_aload_n dX7_areAlike_0 rfl ?_
  refine q_iload_n dX7_areAlike_1 rfl ?_
  replace E := grd_some E
  obtain ⟨g3, E⟩ := E
  replace E := cal_some E
  obtain ⟨x2, h1, hc, E⟩ := E
  refine r_callV1 (mc := 0) (ms := 0) dX7_areAlike_2 KX7_65 (c_X7_classOf hc) g3 (by decide) (Nat.le_of_ble_eq_true rfl) (fun _ _ q => q.elim) ?_
  rintro _ _ ⟨rfl, rfl⟩
  clear hc
  refine q_aload_n dX7_areAlike_5 rfl ?_
  refine q_iload_n dX7_areAlike_6 rfl ?_
  replace E := grd_some E
  obtain ⟨g6, E⟩ := E
  replace E := cal_some E
  obtain ⟨x5, h4, hc, E⟩ := E
  refine r_callV1 (mc := 0) (ms := 0) dX7_areAlike_7 KX7_65 (c_X7_classOf hc) g6 (by decide) (Nat.le_of_ble_eq_true rfl) (fun _ _ q => q.elim) ?_
  rintro _ _ ⟨rfl, rfl⟩
  clear hc
  refine q_icmp_eq (tgt := 15) dX7_areAlike_10 (by decide) (fun z7 => ?_) (fun z7 => ?_)
  · replace E := ite_t E z7
    refine q_iconst dX7_areAlike_15 ?_
    refine r_istore dX7_areAlike_16 (by decide) rfl (ls' := [some (.ref p0), some (.ref p1), some (.int v2), some (.int v3), some (.int (Int32.ofInt 0))]) rfl ?_
    exact r_fewer [some (.ref p0), some (.ref p1), some (.int v2), some (.int v3), some (.int (Int32.ofInt 0))] (ls_s (ls_s (ls_s (ls_s (ls_s ls_0))))) (s_X7_areAlike_18 p0 p1 v2 v3 (Int32.ofInt 0) h4 E hK)
  · replace E := ite_f E z7
    refine q_iconst dX7_areAlike_13 ?_
    cases E
    exact q_zreturn dX7_areAlike_14 rfl (by decide) hK
theorem c_X7_areAlike {l : Launch} {G : mG} {p0 : Nat} {p1 : Nat} {v2 : Int32} {v3 : Int32} {h h' : mH} {r : Int32} (E : f_X7_areAlike p0 p1 v2 v3 h = some (r, h')) : mMet l G m_X7_areAlike 1 0 0 [.ref p0, .ref p1, .int v2, .int v3] h (fun v k => v = some (.int r) ∧ h' = k) (fun _ _ => False) :=
  mMet_of (by decide +kernel) rfl (ac_c rfl (ac_c rfl (ac_c rfl (ac_c rfl ac_0)))) (Nat.le_of_ble_eq_true rfl) (s_X7_areAlike_0 p0 p1 v2 v3 h E (And.intro rfl rfl))
set_option maxRecDepth 100000 in
set_option maxHeartbeats 4000000 in
theorem s_X7_divide_83 {l : Launch} {G : mG} {Q : Option Value → mH → Prop} {X : String → mH → Prop} (p0 : Nat) (p1 : Nat) (v2 : Int32) (v3 : Int32) (v4 : Int32) (v5 : Int32) (h : mH) {o : ((Int32 × Int32 × mH) ⊕ (Int32 × mH))} (E : g_X7_divide_83 p0 p1 v2 v3 v4 v5 h = some o) (hK : (lpK (w_X7_divide_5 l G Q X p0 p1 v2) (fiI Q)) o) : mW l G m_X7_divide 2 0 0 83 [some (.ref p0), some (.ref p1), some (.int v2), some (.int v3), some (.int v4), some (.int v5)] [] h Q X := by
  unfold g_X7_divide_83 at E
  refine q_aload_n dX7_divide_83 rfl ?_
  replace E := grd_some E
  obtain ⟨g1, E⟩ := E
  replace E := orf_some E
  obtain ⟨a2, ea2, E⟩ := E
  refine r_getR dX7_divide_84 FX7_15 g1 ea2 ?_
  refine q_iload dX7_divide_87 rfl ?_
  refine q_iload dX7_divide_89 rfl ?_
  replace E := grd_some E
  obtain ⟨g4, E⟩ := E
  replace E := grd_some E
  obtain ⟨g5, E⟩ := E
  replace E := bnd_x E
  obtain ⟨h3, eh3, E⟩ := E
  refine r_iastore (hh := eh3) dX7_divide_91 g4 g5 ?_
  replace E := bnd_x E
  obtain ⟨x6, ex6, E⟩ := E
  refine r_iinc (v := x6) dX7_divide_92 rfl ex6 (by decide) (ls' := [some (.ref p0), some (.ref p1), some (.int v2), some (.int v3), some (.int x6), some (.int v5)]) rfl ?_
  refine q_goto (tgt := 5) dX7_divide_95 (by decide) ?_
  cases E
  exact r_fewer [some (.ref p0), some (.ref p1), some (.int v2), some (.int v3), some (.int x6), none] (ls_s (ls_s (ls_s (ls_s (ls_s (ls_n ls_0)))))) hK
set_option maxRecDepth 100000 in
set_option maxHeartbeats 4000000 in
theorem s_X7_divide_59 {l : Launch} {G : mG} {Q : Option Value → mH → Prop} {X : String → mH → Prop} (p0 : Nat) (p1 : Nat) (v2 : Int32) (v3 : Int32) (v4 : Int32) (v5 : Int32) (h : mH) {o : ((Int32 × Int32 × mH) ⊕ (Int32 × mH))} (E : g_X7_divide_59 p0 p1 v2 v3 v4 v5 h = some o) (hK : (lpK (w_X7_divide_5 l G Q X p0 p1 v2) (fiI Q)) o) : mW l G m_X7_divide 2 0 0 59 [some (.ref p0), some (.ref p1), some (.int v2), some (.int v3), some (.int v4), some (.int v5)] [] h Q X := by
  unfold g_X7_divide_59 at E
  refine q_iload dX7_divide_59 rfl ?_
  refine q_iload_n dX7_divide_61 rfl ?_
  refine q_icmp_ne (tgt := 83) dX7_divide_62 (by decide) (fun z1 => ?_) (fun z1 => ?_)
  · replace E := ite_f E z1
    exact r_fewer [some (.ref p0), some (.ref p1), some (.int v2), some (.int v3), some (.int v4), some (.int v5)] (ls_s (ls_s (ls_s (ls_s (ls_s (ls_s ls_0)))))) (s_X7_divide_83 p0 p1 v2 v3 v4 v5 h E hK)
  · replace E := ite_t E z1
    refine q_iload_n dX7_divide_65 rfl ?_
    refine q_sipush (v := (Int32.ofInt 129)) dX7_divide_66 (by decide) ?_
    refine q_icmp_ge (tgt := 83) dX7_divide_69 (by decide) (fun z2 => ?_) (fun z2 => ?_)
    · replace E := ite_t E z2
      exact r_fewer [some (.ref p0), some (.ref p1), some (.int v2), some (.int v3), some (.int v4), some (.int v5)] (ls_s (ls_s (ls_s (ls_s (ls_s (ls_s ls_0)))))) (s_X7_divide_83 p0 p1 v2 v3 v4 v5 h E hK)
    · replace E := ite_f E z2
      refine q_aload_n dX7_divide_72 rfl ?_
      replace E := grd_some E
      obtain ⟨g3, E⟩ := E
      replace E := orf_some E
      obtain ⟨a4, ea4, E⟩ := E
      refine r_getR dX7_divide_73 FX7_18 g3 ea4 ?_
      refine q_iload_n dX7_divide_76 rfl ?_
      refine q_iload dX7_divide_77 rfl ?_
      replace E := grd_some E
      obtain ⟨g6, E⟩ := E
      replace E := grd_some E
      obtain ⟨g7, E⟩ := E
      replace E := bnd_x E
      obtain ⟨h5, eh5, E⟩ := E
      refine r_iastore (hh := eh5) dX7_divide_79 g6 g7 ?_
      replace E := bnd_x E
      obtain ⟨x8, ex8, E⟩ := E
      refine r_iinc (v := x8) dX7_divide_80 rfl ex8 (by decide) (ls' := [some (.ref p0), some (.ref p1), some (.int v2), some (.int x8), some (.int v4), some (.int v5)]) rfl ?_
      exact r_fewer [some (.ref p0), some (.ref p1), some (.int v2), some (.int x8), some (.int v4), some (.int v5)] (ls_s (ls_s (ls_s (ls_s (ls_s (ls_s ls_0)))))) (s_X7_divide_83 p0 p1 v2 x8 v4 v5 h5 E hK)
set_option maxRecDepth 100000 in
set_option maxHeartbeats 4000000 in
theorem sb_X7_divide_22 {l : Launch} {G : mG} {Q : Option Value → mH → Prop} {X : String → mH → Prop} (p0 : Nat) (p1 : Nat) (v2 : Int32) (v3 : Int32) (v4 : Int32) (v5 : Int32) (h : mH) {o : ((Int32 × mH) ⊕ ((Int32 × Int32 × mH) ⊕ (Int32 × mH)))} (E : b0_X7_divide_22 p0 p1 v2 v3 v4 v5 h = some o) (hK : (lpK (w_X7_divide_22 l G Q X p0 p1 v2 v3 v4) (lpK (w_X7_divide_5 l G Q X p0 p1 v2) (fiI Q))) o) : mW l G m_X7_divide 2 0 0 22 [some (.ref p0), some (.ref p1), some (.int v2), some (.int v3), some (.int v4), some (.int v5)] [] h Q X := by
  unfold b0_X7_divide_22 at E
  refine q_iload dX7_divide_22 rfl ?_
  refine q_iload_n dX7_divide_24 rfl ?_
  refine q_icmp_ge (tgt := 59) dX7_divide_25 (by decide) (fun z1 => ?_) (fun z1 => ?_)
  · replace E := ite_t E z1
    obtain ⟨o0, E0, rfl⟩ := inrO_some E
    exact r_fewer [some (.ref p0), some (.ref p1), some (.int v2), some (.int v3), some (.int v4), some (.int v5)] (ls_s (ls_s (ls_s (ls_s (ls_s (ls_s ls_0)))))) (s_X7_divide_59 p0 p1 v2 v3 v4 v5 h E0 hK)
  · replace E := ite_f E z1
    refine q_iload dX7_divide_28 rfl ?_
    refine q_sipush (v := (Int32.ofInt 129)) dX7_divide_30 (by decide) ?_
    refine q_icmp_ge (tgt := 59) dX7_divide_33 (by decide) (fun z2 => ?_) (fun z2 => ?_)
    · replace E := ite_t E z2
      obtain ⟨o0, E0, rfl⟩ := inrO_some E
      exact r_fewer [some (.ref p0), some (.ref p1), some (.int v2), some (.int v3), some (.int v4), some (.int v5)] (ls_s (ls_s (ls_s (ls_s (ls_s (ls_s ls_0)))))) (s_X7_divide_59 p0 p1 v2 v3 v4 v5 h E0 hK)
    · replace E := ite_f E z2
      refine q_aload_n dX7_divide_36 rfl ?_
      refine q_aload_n dX7_divide_37 rfl ?_
      refine q_aload_n dX7_divide_38 rfl ?_
      replace E := grd_some E
      obtain ⟨g3, E⟩ := E
      replace E := orf_some E
      obtain ⟨a4, ea4, E⟩ := E
      refine r_getR dX7_divide_39 FX7_18 g3 ea4 ?_
      refine q_iload dX7_divide_42 rfl ?_
      replace E := grd_some E
      obtain ⟨g5, E⟩ := E
      replace E := grd_some E
      obtain ⟨g6, E⟩ := E
      refine r_iaload dX7_divide_44 g5 g6 ?_
      refine q_iload dX7_divide_45 rfl ?_
      replace E := cal_some E
      obtain ⟨x8, h7, hc, E⟩ := E
      refine r_callV3 (mc := 0) (ms := 0) dX7_divide_47 KX7_61 (c_X7_areAlike hc) g3 (by decide) (Nat.le_of_ble_eq_true rfl) (fun _ _ q => q.elim) ?_
      rintro _ _ ⟨rfl, rfl⟩
      clear hc
      refine q_if_ne (tgt := 59) dX7_divide_50 (by decide) (fun z9 => ?_) (fun z9 => ?_)
      · replace E := ite_f E z9
        obtain ⟨o0, E0, rfl⟩ := inrO_some E
        exact r_fewer [some (.ref p0), some (.ref p1), some (.int v2), some (.int v3), some (.int v4), some (.int v5)] (ls_s (ls_s (ls_s (ls_s (ls_s (ls_s ls_0)))))) (s_X7_divide_59 p0 p1 v2 v3 v4 v5 h7 E0 hK)
      · replace E := ite_t E z9
        replace E := bnd_x E
        obtain ⟨x10, ex10, E⟩ := E
        refine r_iinc (v := x10) dX7_divide_53 rfl ex10 (by decide) (ls' := [some (.ref p0), some (.ref p1), some (.int v2), some (.int v3), some (.int v4), some (.int x10)]) rfl ?_
        refine q_goto (tgt := 22) dX7_divide_56 (by decide) ?_
        cases E
        exact r_fewer [some (.ref p0), some (.ref p1), some (.int v2), some (.int v3), some (.int v4), some (.int x10)] (ls_s (ls_s (ls_s (ls_s (ls_s (ls_s ls_0)))))) hK
theorem s_X7_divide_22 {l : Launch} {G : mG} {Q : Option Value → mH → Prop} {X : String → mH → Prop} (p0 : Nat) (p1 : Nat) (v2 : Int32) (v3 : Int32) (v4 : Int32) (v5 : Int32) (h : mH) {o : ((Int32 × Int32 × mH) ⊕ (Int32 × mH))} (E : g_X7_divide_22 p0 p1 v2 v3 v4 v5 h = some o) (hK : (lpK (w_X7_divide_5 l G Q X p0 p1 v2) (fiI Q)) o) : mW l G m_X7_divide 2 0 0 22 [some (.ref p0), some (.ref p1), some (.int v2), some (.int v3), some (.int v4), some (.int v5)] [] h Q X :=
  (lp_go (w_X7_divide_22 l G Q X p0 p1 v2 v3 v4) (lpK (w_X7_divide_5 l G Q X p0 p1 v2) (fiI Q)) (b_X7_divide_22 p0 p1 v2 v3 v4) (fun s o E hK => sb_X7_divide_22 p0 p1 v2 v3 v4 s.1 (s.2) E hK) _ _ _ E hK : w_X7_divide_22 l G Q X p0 p1 v2 v3 v4 (v5, h))
set_option maxRecDepth 100000 in
set_option maxHeartbeats 4000000 in
theorem s_X7_divide_98 {l : Launch} {G : mG} {Q : Option Value → mH → Prop} {X : String → mH → Prop} (v3 : Int32) (h : mH) {o : Int32 × mH} (E : g_X7_divide_98 v3 h = some o) (hK : (fiI Q) o) : mW l G m_X7_divide 2 0 0 98 [none, none, none, some (.int v3), none, none] [] h Q X := by
  unfold g_X7_divide_98 at E
  refine q_iload_n dX7_divide_98 rfl ?_
  cases E
  exact q_ireturn dX7_divide_99 rfl hK
set_option maxRecDepth 100000 in
set_option maxHeartbeats 4000000 in
theorem sb_X7_divide_5 {l : Launch} {G : mG} {Q : Option Value → mH → Prop} {X : String → mH → Prop} (p0 : Nat) (p1 : Nat) (v2 : Int32) (v3 : Int32) (v4 : Int32) (h : mH) {o : ((Int32 × Int32 × mH) ⊕ (Int32 × mH))} (E : b0_X7_divide_5 p0 p1 v2 v3 v4 h = some o) (hK : (lpK (w_X7_divide_5 l G Q X p0 p1 v2) (fiI Q)) o) : mW l G m_X7_divide 2 0 0 5 [some (.ref p0), some (.ref p1), some (.int v2), some (.int v3), some (.int v4), none] [] h Q X := by
  unfold b0_X7_divide_5 at E
  refine q_iload dX7_divide_5 rfl ?_
  refine q_iload_n dX7_divide_7 rfl ?_
  refine q_icmp_ge (tgt := 98) dX7_divide_8 (by decide) (fun z1 => ?_) (fun z1 => ?_)
  · replace E := ite_t E z1
    obtain ⟨o0, E0, rfl⟩ := inrO_some E
    exact r_fewer [none, none, none, some (.int v3), none, none] (ls_n (ls_n (ls_n (ls_s (ls_n (ls_n ls_0)))))) (s_X7_divide_98 v3 h E0 hK)
  · replace E := ite_f E z1
    refine q_iload dX7_divide_11 rfl ?_
    refine q_sipush (v := (Int32.ofInt 129)) dX7_divide_13 (by decide) ?_
    refine q_icmp_ge (tgt := 98) dX7_divide_16 (by decide) (fun z2 => ?_) (fun z2 => ?_)
    · replace E := ite_t E z2
      obtain ⟨o0, E0, rfl⟩ := inrO_some E
      exact r_fewer [none, none, none, some (.int v3), none, none] (ls_n (ls_n (ls_n (ls_s (ls_n (ls_n ls_0)))))) (s_X7_divide_98 v3 h E0 hK)
    · replace E := ite_f E z2
      refine q_iconst dX7_divide_19 ?_
      refine r_istore dX7_divide_20 (by decide) rfl (ls' := [some (.ref p0), some (.ref p1), some (.int v2), some (.int v3), some (.int v4), some (.int (Int32.ofInt 0))]) rfl ?_
      exact r_fewer [some (.ref p0), some (.ref p1), some (.int v2), some (.int v3), some (.int v4), some (.int (Int32.ofInt 0))] (ls_s (ls_s (ls_s (ls_s (ls_s (ls_s ls_0)))))) (s_X7_divide_22 p0 p1 v2 v3 v4 (Int32.ofInt 0) h E hK)
theorem s_X7_divide_5 {l : Launch} {G : mG} {Q : Option Value → mH → Prop} {X : String → mH → Prop} (p0 : Nat) (p1 : Nat) (v2 : Int32) (v3 : Int32) (v4 : Int32) (h : mH) {o : Int32 × mH} (E : g_X7_divide_5 p0 p1 v2 v3 v4 h = some o) (hK : (fiI Q) o) : mW l G m_X7_divide 2 0 0 5 [some (.ref p0), some (.ref p1), some (.int v2), some (.int v3), some (.int v4), none] [] h Q X :=
  (lp_go (w_X7_divide_5 l G Q X p0 p1 v2) (fiI Q) (b_X7_divide_5 p0 p1 v2) (fun s o E hK => sb_X7_divide_5 p0 p1 v2 s.1 s.2.1 (s.2.2) E hK) _ _ _ E hK : w_X7_divide_5 l G Q X p0 p1 v2 (v3, v4, h))
set_option maxRecDepth 100000 in
set_option maxHeartbeats 4000000 in
theorem s_X7_divide_0 {l : Launch} {G : mG} {Q : Option Value → mH → Prop} {X : String → mH → Prop} (p0 : Nat) (p1 : Nat) (v2 : Int32) (h : mH) {o : Int32 × mH} (E : f_X7_divide p0 p1 v2 h = some o) (hK : (fiI Q) o) : mW l G m_X7_divide 2 0 0 0 [some (.ref p0), some (.ref p1), some (.int v2), none, none, none] [] h Q X := by
  unfold f_X7_divide at E
  refine q_iconst dX7_divide_0 ?_
  refine r_istore_n dX7_divide_1 (by decide) rfl (ls' := [some (.ref p0), some (.ref p1), some (.int v2), some (.int (Int32.ofInt 0)), none, none]) rfl ?_
  refine q_iconst dX7_divide_2 ?_
  refine r_istore dX7_divide_3 (by decide) rfl (ls' := [some (.ref p0), some (.ref p1), some (.int v2), some (.int (Int32.ofInt 0)), some (.int (Int32.ofInt 0)), none]) rfl ?_
  exact r_fewer [some (.ref p0), some (.ref p1), some (.int v2), some (.int (Int32.ofInt 0)), some (.int (Int32.ofInt 0)), none] (ls_s (ls_s (ls_s (ls_s (ls_s (ls_n ls_0)))))) (s_X7_divide_5 p0 p1 v2 (Int32.ofInt 0) (Int32.ofInt 0) h E hK)
theorem c_X7_divide {l : Launch} {G : mG} {p0 : Nat} {p1 : Nat} {v2 : Int32} {h h' : mH} {r : Int32} (E : f_X7_divide p0 p1 v2 h = some (r, h')) : mMet l G m_X7_divide 2 0 0 [.ref p0, .ref p1, .int v2] h (fun v k => v = some (.int r) ∧ h' = k) (fun _ _ => False) :=
  mMet_of (by decide +kernel) rfl (ac_c rfl (ac_c rfl (ac_c rfl ac_0))) (Nat.le_of_ble_eq_true rfl) (s_X7_divide_0 p0 p1 v2 h E (And.intro rfl rfl))
set_option maxRecDepth 100000 in
set_option maxHeartbeats 4000000 in
theorem sb_X7_fillTargets_35 {l : Launch} {G : mG} {Q : Option Value → mH → Prop} {X : String → mH → Prop} (p0 : Nat) (p1 : Nat) (v2 : Int32) (v3 : Int32) (h : mH) {o : ((Int32 × mH) ⊕ ((Int32 × mH) ⊕ (Unit × mH)))} (E : b0_X7_fillTargets_35 p0 p1 v2 v3 h = some o) (hK : (lpK (w_X7_fillTargets_35 l G Q X p0 p1 v2) (lpK (w_X7_fillTargets_2 l G Q X p0 p1) (fiV Q))) o) : mW l G m_X7_fillTargets 1 0 0 35 [some (.ref p0), some (.ref p1), some (.int v2), some (.int v3)] [] h Q X := by
  unfold b0_X7_fillTargets_35 at E
  refine q_iload_n dX7_fillTargets_35 rfl ?_
  refine q_iconst dX7_fillTargets_36 ?_
  refine q_icmp_ge (tgt := 71) dX7_fillTargets_37 (by decide) (fun z1 => ?_) (fun z1 => ?_)
  · replace E := ite_t E z1
    replace E := bnd_x E
    obtain ⟨x2, ex2, E⟩ := E
    refine r_iinc (v := x2) dX7_fillTargets_71 rfl ex2 (by decide) (ls' := [some (.ref p0), some (.ref p1), some (.int x2), some (.int v3)]) rfl ?_
    refine q_goto (tgt := 2) dX7_fillTargets_74 (by decide) ?_
    cases E
    exact r_fewer [some (.ref p0), some (.ref p1), some (.int x2), none] (ls_s (ls_s (ls_s (ls_n ls_0)))) hK
  · replace E := ite_f E z1
    refine q_aload_n dX7_fillTargets_40 rfl ?_
    replace E := grd_some E
    obtain ⟨g3, E⟩ := E
    replace E := orf_some E
    obtain ⟨a4, ea4, E⟩ := E
    refine r_getR dX7_fillTargets_41 FX7_21 g3 ea4 ?_
    refine q_iload_n dX7_fillTargets_44 rfl ?_
    refine q_iconst dX7_fillTargets_45 ?_
    refine q_imul dX7_fillTargets_46 ?_
    refine q_iload_n dX7_fillTargets_47 rfl ?_
    refine q_iadd dX7_fillTargets_48 ?_
    refine q_aload_n dX7_fillTargets_49 rfl ?_
    refine q_aload_n dX7_fillTargets_50 rfl ?_
    refine q_aload_n dX7_fillTargets_51 rfl ?_
    replace E := orf_some E
    obtain ⟨a5, ea5, E⟩ := E
    refine r_getR dX7_fillTargets_52 FX7_18 g3 ea5 ?_
    refine q_iload_n dX7_fillTargets_55 rfl ?_
    replace E := grd_some E
    obtain ⟨g6, E⟩ := E
    replace E := grd_some E
    obtain ⟨g7, E⟩ := E
    refine r_iaload dX7_fillTargets_56 g6 g7 ?_
    refine q_iload_n dX7_fillTargets_57 rfl ?_
    replace E := grd_some E
    obtain ⟨g10, E⟩ := E
    replace E := cal_some E
    obtain ⟨x9, h8, hc, E⟩ := E
    refine r_callV2 (mc := 0) (ms := 0) dX7_fillTargets_58 KX7_69 (c_X0_step hc) g10 (by decide) (Nat.le_of_ble_eq_true rfl) (fun _ _ q => q.elim) ?_
    rintro _ _ ⟨rfl, rfl⟩
    clear hc
    replace E := grd_some E
    obtain ⟨g13, E⟩ := E
    replace E := cal_some E
    obtain ⟨x12, h11, hc, E⟩ := E
    refine r_callV1 (mc := 0) (ms := 0) dX7_fillTargets_61 KX7_65 (c_X7_classOf hc) g13 (by decide) (Nat.le_of_ble_eq_true rfl) (fun _ _ q => q.elim) ?_
    rintro _ _ ⟨rfl, rfl⟩
    clear hc
    replace E := grd_some E
    obtain ⟨g15, E⟩ := E
    replace E := grd_some E
    obtain ⟨g16, E⟩ := E
    replace E := bnd_x E
    obtain ⟨h14, eh14, E⟩ := E
    refine r_iastore (hh := eh14) dX7_fillTargets_64 g15 g16 ?_
    replace E := bnd_x E
    obtain ⟨x17, ex17, E⟩ := E
    refine r_iinc (v := x17) dX7_fillTargets_65 rfl ex17 (by decide) (ls' := [some (.ref p0), some (.ref p1), some (.int v2), some (.int x17)]) rfl ?_
    refine q_goto (tgt := 35) dX7_fillTargets_68 (by decide) ?_
    cases E
    exact r_fewer [some (.ref p0), some (.ref p1), some (.int v2), some (.int x17)] (ls_s (ls_s (ls_s (ls_s ls_0)))) hK
theorem s_X7_fillTargets_35 {l : Launch} {G : mG} {Q : Option Value → mH → Prop} {X : String → mH → Prop} (p0 : Nat) (p1 : Nat) (v2 : Int32) (v3 : Int32) (h : mH) {o : ((Int32 × mH) ⊕ (Unit × mH))} (E : g_X7_fillTargets_35 p0 p1 v2 v3 h = some o) (hK : (lpK (w_X7_fillTargets_2 l G Q X p0 p1) (fiV Q)) o) : mW l G m_X7_fillTargets 1 0 0 35 [some (.ref p0), some (.ref p1), some (.int v2), some (.int v3)] [] h Q X :=
  (lp_go (w_X7_fillTargets_35 l G Q X p0 p1 v2) (lpK (w_X7_fillTargets_2 l G Q X p0 p1) (fiV Q)) (b_X7_fillTargets_35 p0 p1 v2) (fun s o E hK => sb_X7_fillTargets_35 p0 p1 v2 s.1 (s.2) E hK) _ _ _ E hK : w_X7_fillTargets_35 l G Q X p0 p1 v2 (v3, h))
set_option maxRecDepth 100000 in
set_option maxHeartbeats 4000000 in
theorem s_X7_fillTargets_77 {l : Launch} {G : mG} {Q : Option Value → mH → Prop} {X : String → mH → Prop} (h : mH) {o : Unit × mH} (E : g_X7_fillTargets_77  h = some o) (hK : (fiV Q) o) : mW l G m_X7_fillTargets 1 0 0 77 [none, none, none, none] [] h Q X := by
  unfold g_X7_fillTargets_77 at E
  cases E
  exact q_return dX7_fillTargets_77 rfl hK
set_option maxRecDepth 100000 in
set_option maxHeartbeats 4000000 in
theorem sb_X7_fillTargets_2 {l : Launch} {G : mG} {Q : Option Value → mH → Prop} {X : String → mH → Prop} (p0 : Nat) (p1 : Nat) (v2 : Int32) (h : mH) {o : ((Int32 × mH) ⊕ (Unit × mH))} (E : b0_X7_fillTargets_2 p0 p1 v2 h = some o) (hK : (lpK (w_X7_fillTargets_2 l G Q X p0 p1) (fiV Q)) o) : mW l G m_X7_fillTargets 1 0 0 2 [some (.ref p0), some (.ref p1), some (.int v2), none] [] h Q X := by
  unfold b0_X7_fillTargets_2 at E
  refine q_iload_n dX7_fillTargets_2 rfl ?_
  refine q_aload_n dX7_fillTargets_3 rfl ?_
  replace E := grd_some E
  obtain ⟨g1, E⟩ := E
  refine r_getI dX7_fillTargets_4 FX7_28 g1 ?_
  refine q_icmp_ge (tgt := 77) dX7_fillTargets_7 (by decide) (fun z2 => ?_) (fun z2 => ?_)
  · replace E := ite_t E z2
    obtain ⟨o0, E0, rfl⟩ := inrO_some E
    exact r_fewer [none, none, none, none] (ls_n (ls_n (ls_n (ls_n ls_0)))) (s_X7_fillTargets_77 h E0 hK)
  · replace E := ite_f E z2
    refine q_iload_n dX7_fillTargets_10 rfl ?_
    refine q_sipush (v := (Int32.ofInt 129)) dX7_fillTargets_11 (by decide) ?_
    refine q_icmp_ge (tgt := 77) dX7_fillTargets_14 (by decide) (fun z3 => ?_) (fun z3 => ?_)
    · replace E := ite_t E z3
      obtain ⟨o0, E0, rfl⟩ := inrO_some E
      exact r_fewer [none, none, none, none] (ls_n (ls_n (ls_n (ls_n ls_0)))) (s_X7_fillTargets_77 h E0 hK)
    · replace E := ite_f E z3
      refine q_aload_n dX7_fillTargets_17 rfl ?_
      replace E := orf_some E
      obtain ⟨a4, ea4, E⟩ := E
      refine r_getR dX7_fillTargets_18 FX7_24 g1 ea4 ?_
      refine q_iload_n dX7_fillTargets_21 rfl ?_
      refine q_aload_n dX7_fillTargets_22 rfl ?_
      refine q_aload_n dX7_fillTargets_23 rfl ?_
      replace E := orf_some E
      obtain ⟨a5, ea5, E⟩ := E
      refine r_getR dX7_fillTargets_24 FX7_18 g1 ea5 ?_
      refine q_iload_n dX7_fillTargets_27 rfl ?_
      replace E := grd_some E
      obtain ⟨g6, E⟩ := E
      replace E := grd_some E
      obtain ⟨g7, E⟩ := E
      refine r_iaload dX7_fillTargets_28 g6 g7 ?_
      replace E := grd_some E
      obtain ⟨g10, E⟩ := E
      replace E := cal_some E
      obtain ⟨x9, h8, hc, E⟩ := E
      refine r_callV1 (mc := 0) (ms := 0) dX7_fillTargets_29 KX7_43 (c_X0_isAccepting hc) g10 (by decide) (Nat.le_of_ble_eq_true rfl) (fun _ _ q => q.elim) ?_
      rintro _ _ ⟨rfl, rfl⟩
      clear hc
      replace E := grd_some E
      obtain ⟨g12, E⟩ := E
      replace E := grd_some E
      obtain ⟨g13, E⟩ := E
      replace E := grd_some E
      obtain ⟨g14, E⟩ := E
      replace E := bnd_x E
      obtain ⟨h11, eh11, E⟩ := E
      refine r_zastore (hh := eh11) dX7_fillTargets_32 g12 g13 g14 ?_
      refine q_iconst dX7_fillTargets_33 ?_
      refine r_istore_n dX7_fillTargets_34 (by decide) rfl (ls' := [some (.ref p0), some (.ref p1), some (.int v2), some (.int (Int32.ofInt 0))]) rfl ?_
      exact r_fewer [some (.ref p0), some (.ref p1), some (.int v2), some (.int (Int32.ofInt 0))] (ls_s (ls_s (ls_s (ls_s ls_0)))) (s_X7_fillTargets_35 p0 p1 v2 (Int32.ofInt 0) h11 E hK)
theorem s_X7_fillTargets_2 {l : Launch} {G : mG} {Q : Option Value → mH → Prop} {X : String → mH → Prop} (p0 : Nat) (p1 : Nat) (v2 : Int32) (h : mH) {o : Unit × mH} (E : g_X7_fillTargets_2 p0 p1 v2 h = some o) (hK : (fiV Q) o) : mW l G m_X7_fillTargets 1 0 0 2 [some (.ref p0), some (.ref p1), some (.int v2), none] [] h Q X :=
  (lp_go (w_X7_fillTargets_2 l G Q X p0 p1) (fiV Q) (b_X7_fillTargets_2 p0 p1) (fun s o E hK => sb_X7_fillTargets_2 p0 p1 s.1 (s.2) E hK) _ _ _ E hK : w_X7_fillTargets_2 l G Q X p0 p1 (v2, h))
set_option maxRecDepth 100000 in
set_option maxHeartbeats 4000000 in
theorem s_X7_fillTargets_0 {l : Launch} {G : mG} {Q : Option Value → mH → Prop} {X : String → mH → Prop} (p0 : Nat) (p1 : Nat) (h : mH) {o : Unit × mH} (E : f_X7_fillTargets p0 p1 h = some o) (hK : (fiV Q) o) : mW l G m_X7_fillTargets 1 0 0 0 [some (.ref p0), some (.ref p1), none, none] [] h Q X := by
  unfold f_X7_fillTargets at E
  refine q_iconst dX7_fillTargets_0 ?_
  refine r_istore_n dX7_fillTargets_1 (by decide) rfl (ls' := [some (.ref p0), some (.ref p1), some (.int (Int32.ofInt 0)), none]) rfl ?_
  exact r_fewer [some (.ref p0), some (.ref p1), some (.int (Int32.ofInt 0)), none] (ls_s (ls_s (ls_s (ls_n ls_0)))) (s_X7_fillTargets_2 p0 p1 (Int32.ofInt 0) h E hK)
theorem c_X7_fillTargets {l : Launch} {G : mG} {p0 : Nat} {p1 : Nat} {h h' : mH} {r : Unit} (E : f_X7_fillTargets p0 p1 h = some (r, h')) : mMet l G m_X7_fillTargets 1 0 0 [.ref p0, .ref p1] h (fun v k => v = none ∧ h' = k) (fun _ _ => False) :=
  mMet_of (by decide +kernel) rfl (ac_c rfl (ac_c rfl ac_0)) (Nat.le_of_ble_eq_true rfl) (s_X7_fillTargets_0 p0 p1 h E (And.intro rfl rfl))
set_option maxRecDepth 100000 in
set_option maxHeartbeats 4000000 in
theorem s_X7_build_41 {l : Launch} {G : mG} {Q : Option Value → mH → Prop} {X : String → mH → Prop} (p0 : Nat) (p1 : Nat) (v2 : Int32) (v3 : Int32) (s0 : Int32) (s1 : Int32) (sp2 : Nat) (h : mH) {o : ((Int32 × mH) ⊕ (Unit × mH))} (E : g_X7_build_41 p0 p1 v2 v3 s0 s1 sp2 h = some o) (hK : (lpK (w_X7_build_13 l G Q X p0 p1 v2) (fiV Q)) o) : mW l G m_X7_build 3 0 0 41 [some (.ref p0), some (.ref p1), some (.int v2), some (.int v3), none] [.int s0, .int s1, .ref sp2] h Q X := by
  unfold g_X7_build_41 at E
  replace E := grd_some E
  obtain ⟨g2, E⟩ := E
  replace E := grd_some E
  obtain ⟨g3, E⟩ := E
  replace E := bnd_x E
  obtain ⟨h1, eh1, E⟩ := E
  refine r_iastore (hh := eh1) dX7_build_41 g2 g3 ?_
  replace E := bnd_x E
  obtain ⟨x4, ex4, E⟩ := E
  refine r_iinc (v := x4) dX7_build_42 rfl ex4 (by decide) (ls' := [some (.ref p0), some (.ref p1), some (.int v2), some (.int x4), none]) rfl ?_
  refine q_goto (tgt := 13) dX7_build_45 (by decide) ?_
  cases E
  exact r_fewer [some (.ref p0), some (.ref p1), some (.int v2), some (.int x4), none] (ls_s (ls_s (ls_s (ls_s (ls_n ls_0))))) hK
set_option maxRecDepth 100000 in
set_option maxHeartbeats 4000000 in
theorem s_X7_build_110 {l : Launch} {G : mG} {Q : Option Value → mH → Prop} {X : String → mH → Prop} (p0 : Nat) (p1 : Nat) (h : mH) {o : Unit × mH} (E : g_X7_build_110 p0 p1 h = some o) (hK : (fiV Q) o) : mW l G m_X7_build 3 0 0 110 [some (.ref p0), some (.ref p1), none, none, none] [] h Q X := by
  unfold g_X7_build_110 at E
  refine q_aload_n dX7_build_110 rfl ?_
  refine q_aload_n dX7_build_111 rfl ?_
  replace E := grd_some E
  obtain ⟨g3, E⟩ := E
  replace E := cal_some E
  obtain ⟨_, h1, hc, E⟩ := E
  refine r_callV1 (mc := 0) (ms := 0) dX7_build_112 KX7_57 (c_X7_fillTargets hc) g3 (by decide) (Nat.le_of_ble_eq_true rfl) (fun _ _ q => q.elim) ?_
  rintro _ _ ⟨rfl, rfl⟩
  clear hc
  cases E
  exact q_return dX7_build_115 rfl hK
set_option maxRecDepth 100000 in
set_option maxHeartbeats 4000000 in
theorem sb_X7_build_55 {l : Launch} {G : mG} {Q : Option Value → mH → Prop} {X : String → mH → Prop} (p0 : Nat) (p1 : Nat) (v2 : Int32) (v3 : Int32) (h : mH) {o : ((Int32 × mH) ⊕ (Unit × mH))} (E : b0_X7_build_55 p0 p1 v2 v3 h = some o) (hK : (lpK (w_X7_build_55 l G Q X p0 p1 v2) (fiV Q)) o) : mW l G m_X7_build 3 0 0 55 [some (.ref p0), some (.ref p1), some (.int v2), some (.int v3), none] [] h Q X := by
  unfold b0_X7_build_55 at E
  refine q_iload_n dX7_build_55 rfl ?_
  refine q_sipush (v := (Int32.ofInt 129)) dX7_build_56 (by decide) ?_
  refine q_icmp_ge (tgt := 110) dX7_build_59 (by decide) (fun z1 => ?_) (fun z1 => ?_)
  · replace E := ite_t E z1
    obtain ⟨o0, E0, rfl⟩ := inrO_some E
    exact r_fewer [some (.ref p0), some (.ref p1), none, none, none] (ls_s (ls_s (ls_n (ls_n (ls_n ls_0))))) (s_X7_build_110 p0 p1 h E0 hK)
  · replace E := ite_f E z1
    refine q_aload_n dX7_build_62 rfl ?_
    refine q_aload_n dX7_build_63 rfl ?_
    refine q_iload_n dX7_build_64 rfl ?_
    replace E := grd_some E
    obtain ⟨g4, E⟩ := E
    replace E := cal_some E
    obtain ⟨x3, h2, hc, E⟩ := E
    refine r_callV2 (mc := 0) (ms := 0) dX7_build_65 KX7_47 (c_X7_divide hc) g4 (by decide) (Nat.le_of_ble_eq_true rfl) (fun _ _ q => q.elim) ?_
    rintro _ _ ⟨rfl, rfl⟩
    clear hc
    refine r_istore dX7_build_68 (by decide) rfl (ls' := [some (.ref p0), some (.ref p1), some (.int v2), some (.int v3), some (.int x3)]) rfl ?_
    refine q_aload_n dX7_build_70 rfl ?_
    replace E := grd_some E
    obtain ⟨g5, E⟩ := E
    replace E := orf_some E
    obtain ⟨a6, ea6, E⟩ := E
    refine r_getR dX7_build_71 FX7_15 g5 ea6 ?_
    refine q_iconst dX7_build_74 ?_
    refine q_aload_n dX7_build_75 rfl ?_
    replace E := orf_some E
    obtain ⟨a7, ea7, E⟩ := E
    refine r_getR dX7_build_76 FX7_9 g5 ea7 ?_
    refine q_iconst dX7_build_79 ?_
    refine q_sipush (v := (Int32.ofInt 129)) dX7_build_80 (by decide) ?_
    replace E := grd_some E
    obtain ⟨g8, E⟩ := E
    replace E := grd_some E
    obtain ⟨g9, E⟩ := E
    replace E := grd_some E
    obtain ⟨g10, E⟩ := E
    replace E := bnd_x E
    obtain ⟨h11, eh11, E⟩ := E
    refine r_copy (t0 := 3) dX7_build_83 AX7_51 rfl (by decide) rfl g8 g9 g10 (fun _ _ => rfl) eh11 (Nat.le_of_ble_eq_true rfl) ?_
    refine q_iload dX7_build_86 rfl ?_
    refine q_aload_n dX7_build_88 rfl ?_
    replace E := grd_some E
    obtain ⟨g12, E⟩ := E
    refine r_getI dX7_build_89 FX7_28 g12 ?_
    refine q_icmp_ne (tgt := 98) dX7_build_92 (by decide) (fun z13 => ?_) (fun z13 => ?_)
    · replace E := ite_f E z13
      refine q_aload_n dX7_build_98 rfl ?_
      refine q_iload dX7_build_99 rfl ?_
      replace E := bnd_x E
      obtain ⟨h14, eh14, E⟩ := E
      refine r_putI (hh := eh14) dX7_build_101 FX7_28 g12 rfl rfl ?_
      replace E := bnd_x E
      obtain ⟨x15, ex15, E⟩ := E
      refine r_iinc (v := x15) dX7_build_104 rfl ex15 (by decide) (ls' := [some (.ref p0), some (.ref p1), some (.int v2), some (.int x15), some (.int x3)]) rfl ?_
      refine q_goto (tgt := 55) dX7_build_107 (by decide) ?_
      cases E
      exact r_fewer [some (.ref p0), some (.ref p1), some (.int v2), some (.int x15), none] (ls_s (ls_s (ls_s (ls_s (ls_n ls_0))))) hK
    · replace E := ite_t E z13
      refine q_goto (tgt := 110) dX7_build_95 (by decide) ?_
      obtain ⟨o0, E0, rfl⟩ := inrO_some E
      exact r_fewer [some (.ref p0), some (.ref p1), none, none, none] (ls_s (ls_s (ls_n (ls_n (ls_n ls_0))))) (s_X7_build_110 p0 p1 h11 E0 hK)
theorem s_X7_build_55 {l : Launch} {G : mG} {Q : Option Value → mH → Prop} {X : String → mH → Prop} (p0 : Nat) (p1 : Nat) (v2 : Int32) (v3 : Int32) (h : mH) {o : Unit × mH} (E : g_X7_build_55 p0 p1 v2 v3 h = some o) (hK : (fiV Q) o) : mW l G m_X7_build 3 0 0 55 [some (.ref p0), some (.ref p1), some (.int v2), some (.int v3), none] [] h Q X :=
  (lp_go (w_X7_build_55 l G Q X p0 p1 v2) (fiV Q) (b_X7_build_55 p0 p1 v2) (fun s o E hK => sb_X7_build_55 p0 p1 v2 s.1 (s.2) E hK) _ _ _ E hK : w_X7_build_55 l G Q X p0 p1 v2 (v3, h))
set_option maxRecDepth 100000 in
set_option maxHeartbeats 4000000 in
theorem sb_X7_build_13 {l : Launch} {G : mG} {Q : Option Value → mH → Prop} {X : String → mH → Prop} (p0 : Nat) (p1 : Nat) (v2 : Int32) (v3 : Int32) (h : mH) {o : ((Int32 × mH) ⊕ (Unit × mH))} (E : b0_X7_build_13 p0 p1 v2 v3 h = some o) (hK : (lpK (w_X7_build_13 l G Q X p0 p1 v2) (fiV Q)) o) : mW l G m_X7_build 3 0 0 13 [some (.ref p0), some (.ref p1), some (.int v2), some (.int v3), none] [] h Q X := by
  unfold b0_X7_build_13 at E
  refine q_iload_n dX7_build_13 rfl ?_
  refine q_iload_n dX7_build_14 rfl ?_
  refine q_icmp_ge (tgt := 48) dX7_build_15 (by decide) (fun z1 => ?_) (fun z1 => ?_)
  · replace E := ite_t E z1
    refine q_aload_n dX7_build_48 rfl ?_
    refine q_iconst dX7_build_49 ?_
    replace E := grd_some E
    obtain ⟨g2, E⟩ := E
    replace E := bnd_x E
    obtain ⟨h3, eh3, E⟩ := E
    refine r_putI (hh := eh3) dX7_build_50 FX7_28 g2 rfl rfl ?_
    refine q_iconst dX7_build_53 ?_
    refine r_istore_n dX7_build_54 (by decide) rfl (ls' := [some (.ref p0), some (.ref p1), some (.int v2), some (.int (Int32.ofInt 0)), none]) rfl ?_
    obtain ⟨o0, E0, rfl⟩ := inrO_some E
    exact r_fewer [some (.ref p0), some (.ref p1), some (.int v2), some (.int (Int32.ofInt 0)), none] (ls_s (ls_s (ls_s (ls_s (ls_n ls_0))))) (s_X7_build_55 p0 p1 v2 (Int32.ofInt 0) h3 E0 hK)
  · replace E := ite_f E z1
    refine q_aload_n dX7_build_18 rfl ?_
    replace E := grd_some E
    obtain ⟨g4, E⟩ := E
    replace E := orf_some E
    obtain ⟨a5, ea5, E⟩ := E
    refine r_getR dX7_build_19 FX7_9 g4 ea5 ?_
    refine q_iload_n dX7_build_22 rfl ?_
    refine q_aload_n dX7_build_23 rfl ?_
    refine q_iload_n dX7_build_24 rfl ?_
    replace E := grd_some E
    obtain ⟨g8, E⟩ := E
    replace E := cal_some E
    obtain ⟨x7, h6, hc, E⟩ := E
    refine r_callV1 (mc := 0) (ms := 0) dX7_build_25 KX7_43 (c_X0_isAccepting hc) g8 (by decide) (Nat.le_of_ble_eq_true rfl) (fun _ _ q => q.elim) ?_
    rintro _ _ ⟨rfl, rfl⟩
    clear hc
    refine q_aload_n dX7_build_28 rfl ?_
    refine q_iconst dX7_build_29 ?_
    replace E := grd_some E
    obtain ⟨g11, E⟩ := E
    replace E := cal_some E
    obtain ⟨x10, h9, hc, E⟩ := E
    refine r_callV1 (mc := 0) (ms := 0) dX7_build_30 KX7_43 (c_X0_isAccepting hc) g11 (by decide) (Nat.le_of_ble_eq_true rfl) (fun _ _ q => q.elim) ?_
    rintro _ _ ⟨rfl, rfl⟩
    clear hc
    refine q_icmp_ne (tgt := 40) dX7_build_33 (by decide) (fun z12 => ?_) (fun z12 => ?_)
    · replace E := ite_f E z12
      refine q_iconst dX7_build_40 ?_
      exact r_fewer [some (.ref p0), some (.ref p1), some (.int v2), some (.int v3), none] (ls_s (ls_s (ls_s (ls_s (ls_n ls_0))))) (s_X7_build_41 p0 p1 v2 v3 (Int32.ofInt 1) v3 a5 h9 E hK)
    · replace E := ite_t E z12
      refine q_iconst dX7_build_36 ?_
      refine q_goto (tgt := 41) dX7_build_37 (by decide) ?_
      exact r_fewer [some (.ref p0), some (.ref p1), some (.int v2), some (.int v3), none] (ls_s (ls_s (ls_s (ls_s (ls_n ls_0))))) (s_X7_build_41 p0 p1 v2 v3 (Int32.ofInt 0) v3 a5 h9 E hK)
theorem s_X7_build_13 {l : Launch} {G : mG} {Q : Option Value → mH → Prop} {X : String → mH → Prop} (p0 : Nat) (p1 : Nat) (v2 : Int32) (v3 : Int32) (h : mH) {o : Unit × mH} (E : g_X7_build_13 p0 p1 v2 v3 h = some o) (hK : (fiV Q) o) : mW l G m_X7_build 3 0 0 13 [some (.ref p0), some (.ref p1), some (.int v2), some (.int v3), none] [] h Q X :=
  (lp_go (w_X7_build_13 l G Q X p0 p1 v2) (fiV Q) (b_X7_build_13 p0 p1 v2) (fun s o E hK => sb_X7_build_13 p0 p1 v2 s.1 (s.2) E hK) _ _ _ E hK : w_X7_build_13 l G Q X p0 p1 v2 (v3, h))
set_option maxRecDepth 100000 in
set_option maxHeartbeats 4000000 in
theorem s_X7_build_0 {l : Launch} {G : mG} {Q : Option Value → mH → Prop} {X : String → mH → Prop} (p0 : Nat) (p1 : Nat) (h : mH) {o : Unit × mH} (E : f_X7_build p0 p1 h = some o) (hK : (fiV Q) o) : mW l G m_X7_build 3 0 0 0 [some (.ref p0), some (.ref p1), none, none, none] [] h Q X := by
  unfold f_X7_build at E
  refine q_aload_n dX7_build_0 rfl ?_
  replace E := grd_some E
  obtain ⟨g3, E⟩ := E
  replace E := cal_some E
  obtain ⟨x2, h1, hc, E⟩ := E
  refine r_callV0 (mc := 0) (ms := 0) dX7_build_1 KX7_32 (c_X0_size hc) g3 (by decide) (Nat.le_of_ble_eq_true rfl) (fun _ _ q => q.elim) ?_
  rintro _ _ ⟨rfl, rfl⟩
  clear hc
  refine q_sipush (v := (Int32.ofInt 129)) dX7_build_4 (by decide) ?_
  refine q_mmin dX7_build_7 XX7_37 (Nat.le_of_ble_eq_true rfl) ?_
  replace E := bnd_x E
  obtain ⟨x4, ex4, E⟩ := E
  refine r_istore_n dX7_build_10 (by decide) ex4 (ls' := [some (.ref p0), some (.ref p1), some (.int x4), none, none]) rfl ?_
  refine q_iconst dX7_build_11 ?_
  refine r_istore_n dX7_build_12 (by decide) rfl (ls' := [some (.ref p0), some (.ref p1), some (.int x4), some (.int (Int32.ofInt 0)), none]) rfl ?_
  exact r_fewer [some (.ref p0), some (.ref p1), some (.int x4), some (.int (Int32.ofInt 0)), none] (ls_s (ls_s (ls_s (ls_s (ls_n ls_0))))) (s_X7_build_13 p0 p1 x4 (Int32.ofInt 0) h1 E hK)
theorem c_X7_build {l : Launch} {G : mG} {p0 : Nat} {p1 : Nat} {h h' : mH} {r : Unit} (E : f_X7_build p0 p1 h = some (r, h')) : mMet l G m_X7_build 3 0 0 [.ref p0, .ref p1] h (fun v k => v = none ∧ h' = k) (fun _ _ => False) :=
  mMet_of (by decide +kernel) rfl (ac_c rfl (ac_c rfl ac_0)) (Nat.le_of_ble_eq_true rfl) (s_X7_build_0 p0 p1 h E (And.intro rfl rfl))
