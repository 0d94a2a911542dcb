set_option maxRecDepth 100000 in
set_option maxHeartbeats 4000000 in
theorem s_X7_size_0 {l : Launch} {G : mG} {Q : Option Value → mH → Prop} {X : String → mH → Prop} (p0 : Nat) (h : mH) {o : Int32 × mH} (E : f_X7_size p0 h = some o) (hK : (fiI Q) o) : mW l G m_X7_size 0 0 0 0 [some (.ref p0)] [] h Q X := by
  unfold f_X7_size at E
  refine q_aload_n dX7_size_0 rfl ?_
  replace E := grd_some E
  obtain ⟨g1, E⟩ := E
  refine r_getI dX7_size_1 FX7_28 g1 ?_
  cases E
  exact q_ireturn dX7_size_4 rfl hK
theorem c_X7_size {l : Launch} {G : mG} {p0 : Nat} {h h' : mH} {r : Int32} (E : f_X7_size p0 h = some (r, h')) : mMet l G m_X7_size 0 0 0 [.ref p0] h (fun v k => v = some (.int r) ∧ h' = k) (fun _ _ => False) :=
  mMet_of (by decide +kernel) rfl (ac_c rfl ac_0) (Nat.le_of_ble_eq_true rfl) (s_X7_size_0 p0 h E (And.intro rfl rfl))
set_option maxRecDepth 100000 in
set_option maxHeartbeats 4000000 in
theorem s_X7_equalsOther_97 {l : Launch} {G : mG} {Q : Option Value → mH → Prop} {X : String → mH → Prop} (h : mH) {o : Int32 × mH} (E : g_X7_equalsOther_97  h = some o) (hK : (fiI Q) o) : mW l G m_X7_equalsOther 0 0 0 97 [none, none, none] [] h Q X := by
  unfold g_X7_equalsOther_97 at E
  refine q_iconst dX7_equalsOther_97 ?_
  cases E
  exact q_zreturn dX7_equalsOther_98 rfl (by decide) hK
set_option maxRecDepth 100000 in
set_option maxHeartbeats 4000000 in
theorem sb_X7_equalsOther_55 {l : Launch} {G : mG} {Q : Option Value → mH → Prop} {X : String → mH → Prop} (p0 : Nat) (p1 : Nat) (v2 : Int32) (h : mH) {o : ((Int32 × mH) ⊕ (Int32 × mH))} (E : b0_X7_equalsOther_55 p0 p1 v2 h = some o) (hK : (lpK (w_X7_equalsOther_55 l G Q X p0 p1) (fiI Q)) o) : mW l G m_X7_equalsOther 0 0 0 55 [some (.ref p0), some (.ref p1), some (.int v2)] [] h Q X := by
  unfold b0_X7_equalsOther_55 at E
  refine q_iload_n dX7_equalsOther_55 rfl ?_
  refine q_aload_n dX7_equalsOther_56 rfl ?_
  replace E := grd_some E
  obtain ⟨g1, E⟩ := E
  refine r_getI dX7_equalsOther_57 FX7_28 g1 ?_
  refine q_iconst dX7_equalsOther_60 ?_
  refine q_imul dX7_equalsOther_61 ?_
  refine q_icmp_ge (tgt := 97) dX7_equalsOther_62 (by decide) (fun z2 => ?_) (fun z2 => ?_)
  · replace E := ite_t E z2
    obtain ⟨o0, E0, rfl⟩ := inrO_some E
    exact r_fewer [none, none, none] (ls_n (ls_n (ls_n ls_0))) (s_X7_equalsOther_97 h E0 hK)
  · replace E := ite_f E z2
    refine q_iload_n dX7_equalsOther_65 rfl ?_
    refine q_aload_n dX7_equalsOther_66 rfl ?_
    replace E := orf_some E
    obtain ⟨a3, ea3, E⟩ := E
    refine r_getR dX7_equalsOther_67 FX7_21 g1 ea3 ?_
    replace E := grd_some E
    obtain ⟨g4, E⟩ := E
    refine r_alen (t0 := 3) dX7_equalsOther_70 rfl g4 ?_
    refine q_icmp_ge (tgt := 97) dX7_equalsOther_71 (by decide) (fun z5 => ?_) (fun z5 => ?_)
    · replace E := ite_t E z5
      obtain ⟨o0, E0, rfl⟩ := inrO_some E
      exact r_fewer [none, none, none] (ls_n (ls_n (ls_n ls_0))) (s_X7_equalsOther_97 h E0 hK)
    · replace E := ite_f E z5
      refine q_aload_n dX7_equalsOther_74 rfl ?_
      refine r_getR dX7_equalsOther_75 FX7_21 g1 ea3 ?_
      refine q_iload_n dX7_equalsOther_78 rfl ?_
      replace E := grd_some E
      obtain ⟨g7, E⟩ := E
      refine r_iaload dX7_equalsOther_79 g4 g7 ?_
      refine q_aload_n dX7_equalsOther_80 rfl ?_
      replace E := grd_some E
      obtain ⟨g8, E⟩ := E
      replace E := orf_some E
      obtain ⟨a9, ea9, E⟩ := E
      refine r_getR dX7_equalsOther_81 FX7_21 g8 ea9 ?_
      refine q_iload_n dX7_equalsOther_84 rfl ?_
      replace E := grd_some E
      obtain ⟨g10, E⟩ := E
      replace E := grd_some E
      obtain ⟨g11, E⟩ := E
      refine r_iaload dX7_equalsOther_85 g10 g11 ?_
      refine q_icmp_eq (tgt := 91) dX7_equalsOther_86 (by decide) (fun z12 => ?_) (fun z12 => ?_)
      · replace E := ite_t E z12
        replace E := bnd_x E
        obtain ⟨x13, ex13, E⟩ := E
        refine r_iinc (v := x13) dX7_equalsOther_91 rfl ex13 (by decide) (ls' := [some (.ref p0), some (.ref p1), some (.int x13)]) rfl ?_
        refine q_goto (tgt := 55) dX7_equalsOther_94 (by decide) ?_
        cases E
        exact r_fewer [some (.ref p0), some (.ref p1), some (.int x13)] (ls_s (ls_s (ls_s ls_0))) hK
      · replace E := ite_f E z12
        refine q_iconst dX7_equalsOther_89 ?_
        cases E
        exact q_zreturn dX7_equalsOther_90 rfl (by decide) hK
theorem s_X7_equalsOther_55 {l : Launch} {G : mG} {Q : Option Value → mH → Prop} {X : String → mH → Prop} (p0 : Nat) (p1 : Nat) (v2 : Int32) (h : mH) {o : Int32 × mH} (E : g_X7_equalsOther_55 p0 p1 v2 h = some o) (hK : (fiI Q) o) : mW l G m_X7_equalsOther 0 0 0 55 [some (.ref p0), some (.ref p1), some (.int v2)] [] h Q X :=
  (lp_go (w_X7_equalsOther_55 l G Q X p0 p1) (fiI Q) (b_X7_equalsOther_55 p0 p1) (fun s o E hK => sb_X7_equalsOther_55 p0 p1 s.1 (s.2) E hK) _ _ _ E hK : w_X7_equalsOther_55 l G Q X p0 p1 (v2, h))
set_option maxRecDepth 100000 in
set_option maxHeartbeats 4000000 in
theorem s_X7_equalsOther_53 {l : Launch} {G : mG} {Q : Option Value → mH → Prop} {X : String → mH → Prop} (p0 : Nat) (p1 : Nat) (h : mH) {o : Int32 × mH} (E : g_X7_equalsOther_53 p0 p1 h = some o) (hK : (fiI Q) o) : mW l G m_X7_equalsOther 0 0 0 53 [some (.ref p0), some (.ref p1), none] [] h Q X := by
  unfold g_X7_equalsOther_53 at E
  refine q_iconst dX7_equalsOther_53 ?_
  refine r_istore_n dX7_equalsOther_54 (by decide) rfl (ls' := [some (.ref p0), some (.ref p1), some (.int (Int32.ofInt 0))]) rfl ?_
  exact r_fewer [some (.ref p0), some (.ref p1), some (.int (Int32.ofInt 0))] (ls_s (ls_s (ls_s ls_0))) (s_X7_equalsOther_55 p0 p1 (Int32.ofInt 0) h E hK)
set_option maxRecDepth 100000 in
set_option maxHeartbeats 4000000 in
theorem sb_X7_equalsOther_15 {l : Launch} {G : mG} {Q : Option Value → mH → Prop} {X : String → mH → Prop} (p0 : Nat) (p1 : Nat) (v2 : Int32) (h : mH) {o : ((Int32 × mH) ⊕ (Int32 × mH))} (E : b0_X7_equalsOther_15 p0 p1 v2 h = some o) (hK : (lpK (w_X7_equalsOther_15 l G Q X p0 p1) (fiI Q)) o) : mW l G m_X7_equalsOther 0 0 0 15 [some (.ref p0), some (.ref p1), some (.int v2)] [] h Q X := by
  unfold b0_X7_equalsOther_15 at E
  refine q_iload_n dX7_equalsOther_15 rfl ?_
  refine q_aload_n dX7_equalsOther_16 rfl ?_
  replace E := grd_some E
  obtain ⟨g1, E⟩ := E
  refine r_getI dX7_equalsOther_17 FX7_28 g1 ?_
  refine q_icmp_ge (tgt := 53) dX7_equalsOther_20 (by decide) (fun z2 => ?_) (fun z2 => ?_)
  · replace E := ite_t E z2
    obtain ⟨o0, E0, rfl⟩ := inrO_some E
    exact r_fewer [some (.ref p0), some (.ref p1), none] (ls_s (ls_s (ls_n ls_0))) (s_X7_equalsOther_53 p0 p1 h E0 hK)
  · replace E := ite_f E z2
    refine q_iload_n dX7_equalsOther_23 rfl ?_
    refine q_sipush (v := (Int32.ofInt 129)) dX7_equalsOther_24 (by decide) ?_
    refine q_icmp_ge (tgt := 53) dX7_equalsOther_27 (by decide) (fun z3 => ?_) (fun z3 => ?_)
    · replace E := ite_t E z3
      obtain ⟨o0, E0, rfl⟩ := inrO_some E
      exact r_fewer [some (.ref p0), some (.ref p1), none] (ls_s (ls_s (ls_n ls_0))) (s_X7_equalsOther_53 p0 p1 h E0 hK)
    · replace E := ite_f E z3
      refine q_aload_n dX7_equalsOther_30 rfl ?_
      replace E := orf_some E
      obtain ⟨a4, ea4, E⟩ := E
      refine r_getR dX7_equalsOther_31 FX7_24 g1 ea4 ?_
      refine q_iload_n dX7_equalsOther_34 rfl ?_
      replace E := grd_some E
      obtain ⟨g5, E⟩ := E
      replace E := grd_some E
      obtain ⟨g6, E⟩ := E
      refine r_zaload dX7_equalsOther_35 g5 g6 ?_
      refine q_aload_n dX7_equalsOther_36 rfl ?_
      replace E := grd_some E
      obtain ⟨g7, E⟩ := E
      replace E := orf_some E
      obtain ⟨a8, ea8, E⟩ := E
      refine r_getR dX7_equalsOther_37 FX7_24 g7 ea8 ?_
      refine q_iload_n dX7_equalsOther_40 rfl ?_
      replace E := grd_some E
      obtain ⟨g9, E⟩ := E
      replace E := grd_some E
      obtain ⟨g10, E⟩ := E
      refine r_zaload dX7_equalsOther_41 g9 g10 ?_
      refine q_icmp_eq (tgt := 47) dX7_equalsOther_42 (by decide) (fun z11 => ?_) (fun z11 => ?_)
      · replace E := ite_t E z11
        replace E := bnd_x E
        obtain ⟨x12, ex12, E⟩ := E
        refine r_iinc (v := x12) dX7_equalsOther_47 rfl ex12 (by decide) (ls' := [some (.ref p0), some (.ref p1), some (.int x12)]) rfl ?_
        refine q_goto (tgt := 15) dX7_equalsOther_50 (by decide) ?_
        cases E
        exact r_fewer [some (.ref p0), some (.ref p1), some (.int x12)] (ls_s (ls_s (ls_s ls_0))) hK
      · replace E := ite_f E z11
        refine q_iconst dX7_equalsOther_45 ?_
        cases E
        exact q_zreturn dX7_equalsOther_46 rfl (by decide) hK
theorem s_X7_equalsOther_15 {l : Launch} {G : mG} {Q : Option Value → mH → Prop} {X : String → mH → Prop} (p0 : Nat) (p1 : Nat) (v2 : Int32) (h : mH) {o : Int32 × mH} (E : g_X7_equalsOther_15 p0 p1 v2 h = some o) (hK : (fiI Q) o) : mW l G m_X7_equalsOther 0 0 0 15 [some (.ref p0), some (.ref p1), some (.int v2)] [] h Q X :=
  (lp_go (w_X7_equalsOther_15 l G Q X p0 p1) (fiI Q) (b_X7_equalsOther_15 p0 p1) (fun s o E hK => sb_X7_equalsOther_15 p0 p1 s.1 (s.2) E hK) _ _ _ E hK : w_X7_equalsOther_15 l G Q X p0 p1 (v2, h))
set_option maxRecDepth 100000 in
set_option maxHeartbeats 4000000 in
theorem s_X7_equalsOther_0 {l : Launch} {G : mG} {Q : Option Value → mH → Prop} {X : String → mH → Prop} (p0 : Nat) (p1 : Nat) (h : mH) {o : Int32 × mH} (E : f_X7_equalsOther p0 p1 h = some o) (hK : (fiI Q) o) : mW l G m_X7_equalsOther 0 0 0 0 [some (.ref p0), some (.ref p1), none] [] h Q X := by
  unfold f_X7_equalsOther at E
  refine q_aload_n dX7_equalsOther_0 rfl ?_
  replace E := grd_some E
  obtain ⟨g1, E⟩ := E
  refine r_getI dX7_equalsOther_1 FX7_28 g1 ?_
  refine q_aload_n dX7_equalsOther_4 rfl ?_
  replace E := grd_some E
  obtain ⟨g2, E⟩ := E
  refine r_getI dX7_equalsOther_5 FX7_28 g2 ?_
  refine q_icmp_eq (tgt := 13) dX7_equalsOther_8 (by decide) (fun z3 => ?_) (fun z3 => ?_)
  · replace E := ite_t E z3
    refine q_iconst dX7_equalsOther_13 ?_
    refine r_istore_n dX7_equalsOther_14 (by decide) rfl (ls' := [some (.ref p0), some (.ref p1), some (.int (Int32.ofInt 0))]) rfl ?_
    exact r_fewer [some (.ref p0), some (.ref p1), some (.int (Int32.ofInt 0))] (ls_s (ls_s (ls_s ls_0))) (s_X7_equalsOther_15 p0 p1 (Int32.ofInt 0) h E hK)
  · replace E := ite_f E z3
    refine q_iconst dX7_equalsOther_11 ?_
    cases E
    exact q_zreturn dX7_equalsOther_12 rfl (by decide) hK
theorem c_X7_equalsOther {l : Launch} {G : mG} {p0 : Nat} {p1 : Nat} {h h' : mH} {r : Int32} (E : f_X7_equalsOther p0 p1 h = some (r, h')) : mMet l G m_X7_equalsOther 0 0 0 [.ref p0, .ref p1] h (fun v k => v = some (.int r) ∧ h' = k) (fun _ _ => False) :=
  mMet_of (by decide +kernel) rfl (ac_c rfl (ac_c rfl ac_0)) (Nat.le_of_ble_eq_true rfl) (s_X7_equalsOther_0 p0 p1 h E (And.intro rfl rfl))
set_option maxRecDepth 100000 in
set_option maxHeartbeats 4000000 in
theorem s_X8_init_0 {l : Launch} {G : mG} {Q : Option Value → mH → Prop} {X : String → mH → Prop} (p0 : Nat) (h : mH) {o : Unit × mH} (E : f_X8_init p0 h = some o) (hK : (fiV Q) o) : mW l G m_X8_init 0 1 91 0 [some (.ref p0)] [] h Q X := by
  unfold f_X8_init at E
  refine q_aload_n dX8_init_0 rfl ?_
  refine q_objInit dX8_init_1 OX8_3 objW1 objW2 (Nat.le_of_ble_eq_true rfl) ?_
  refine q_aload_n dX8_init_4 rfl ?_
  refine q_bipush (v := (Int32.ofInt 91)) dX8_init_5 (by decide) ?_
  replace E := grd_some E
  obtain ⟨g1, E⟩ := E
  replace E := bnd_x E
  obtain ⟨a2, ea2, E⟩ := E
  replace E := bnd_x E
  obtain ⟨h3, eh3, E⟩ := E
  refine r_newarray (n := 91) (t0 := 3) (hq := ea2) (hh := eh3) dX8_init_7 W_int rfl rfl (by decide) g1 (by decide) ?_
  replace E := grd_some E
  obtain ⟨g4, E⟩ := E
  replace E := bnd_x E
  obtain ⟨h5, eh5, E⟩ := E
  refine r_putR (hh := eh5) dX8_init_9 FX8_11 g4 (hf := Or.inr ⟨rfl, fun _ _ _ q => (Prod.mk.inj (Option.some.inj q)).1.symm⟩) ?_
  refine q_aload_n dX8_init_12 rfl ?_
  refine q_iconst dX8_init_13 ?_
  replace E := grd_some E
  obtain ⟨g6, E⟩ := E
  replace E := bnd_x E
  obtain ⟨h7, eh7, E⟩ := E
  refine r_putI (hh := eh7) dX8_init_14 FX8_15 g6 rfl rfl ?_
  refine q_aload_n dX8_init_17 rfl ?_
  refine q_iconst dX8_init_18 ?_
  replace E := grd_some E
  obtain ⟨g8, E⟩ := E
  replace E := bnd_x E
  obtain ⟨h9, eh9, E⟩ := E
  refine r_putI (hh := eh9) dX8_init_19 FX8_19 g8 rfl rfl ?_
  cases E
  exact q_return dX8_init_22 rfl hK
theorem c_X8_init {l : Launch} {G : mG} {p0 : Nat} {h h' : mH} {r : Unit} (E : f_X8_init p0 h = some (r, h')) : mMet l G m_X8_init 0 1 91 [.ref p0] h (fun v k => v = none ∧ h' = k) (fun _ _ => False) :=
  mMet_of (by decide +kernel) rfl (ac_c rfl ac_0) (Nat.le_of_ble_eq_true rfl) (s_X8_init_0 p0 h E (And.intro rfl rfl))
set_option maxRecDepth 100000 in
set_option maxHeartbeats 4000000 in
theorem s_X8_addLetter_16 {l : Launch} {G : mG} {Q : Option Value → mH → Prop} {X : String → mH → Prop} (h : mH) {o : Unit × mH} (E : g_X8_addLetter_16  h = some o) (hK : (fiV Q) o) : mW l G m_X8_addLetter 1 0 0 16 [none, none, none, none] [] h Q X := by
  unfold g_X8_addLetter_16 at E
  cases E
  exact q_return dX8_addLetter_16 rfl hK
set_option maxRecDepth 100000 in
set_option maxHeartbeats 4000000 in
theorem s_X8_addLetter_64 {l : Launch} {G : mG} {Q : Option Value → mH → Prop} {X : String → mH → Prop} (p0 : Nat) (v1 : Int32) (p2 : Nat) (v3 : Int32) (s0 : Int32) (s1 : Int32) (sp2 : Nat) (h : mH) {o : ((Int32 × mH) ⊕ (Unit × mH))} (E : g_X8_addLetter_64 p0 v1 p2 v3 s0 s1 sp2 h = some o) (hK : (lpK (w_X8_addLetter_19 l G Q X p0 v1 p2) (fiV Q)) o) : mW l G m_X8_addLetter 1 0 0 64 [some (.ref p0), some (.int v1), some (.ref p2), some (.int v3)] [.int s0, .int s1, .ref sp2] h Q X := by
  unfold g_X8_addLetter_64 at E
  replace E := grd_some E
  obtain ⟨g2, E⟩ := E
  replace E := grd_some E
  obtain ⟨g3, E⟩ := E
  replace E := bnd_x E
  obtain ⟨h1, eh1, E⟩ := E
  refine r_iastore (hh := eh1) dX8_addLetter_64 g2 g3 ?_
  replace E := bnd_x E
  obtain ⟨x4, ex4, E⟩ := E
  refine r_iinc (v := x4) dX8_addLetter_65 rfl ex4 (by decide) (ls' := [some (.ref p0), some (.int v1), some (.ref p2), some (.int x4)]) rfl ?_
  refine q_goto (tgt := 19) dX8_addLetter_68 (by decide) ?_
  cases E
  exact r_fewer [some (.ref p0), some (.int v1), some (.ref p2), some (.int x4)] (ls_s (ls_s (ls_s (ls_s ls_0)))) hK
set_option maxRecDepth 100000 in
set_option maxHeartbeats 4000000 in
theorem s_X8_addLetter_71 {l : Launch} {G : mG} {Q : Option Value → mH → Prop} {X : String → mH → Prop} (p0 : Nat) (h : mH) {o : Unit × mH} (E : g_X8_addLetter_71 p0 h = some o) (hK : (fiV Q) o) : mW l G m_X8_addLetter 1 0 0 71 [some (.ref p0), none, none, none] [] h Q X := by
  unfold g_X8_addLetter_71 at E
  refine q_aload_n dX8_addLetter_71 rfl ?_
  refine q_dup dX8_addLetter_72 ?_
  replace E := grd_some E
  obtain ⟨g1, E⟩ := E
  refine r_getI dX8_addLetter_73 FX8_15 g1 ?_
  refine q_iconst dX8_addLetter_76 ?_
  refine q_iadd dX8_addLetter_77 ?_
  replace E := bnd_x E
  obtain ⟨h2, eh2, E⟩ := E
  refine r_putI (hh := eh2) dX8_addLetter_78 FX8_15 g1 rfl rfl ?_
  cases E
  exact q_return dX8_addLetter_81 rfl hK
set_option maxRecDepth 100000 in
set_option maxHeartbeats 4000000 in
theorem sb_X8_addLetter_19 {l : Launch} {G : mG} {Q : Option Value → mH → Prop} {X : String → mH → Prop} (p0 : Nat) (v1 : Int32) (p2 : Nat) (v3 : Int32) (h : mH) {o : ((Int32 × mH) ⊕ (Unit × mH))} (E : b0_X8_addLetter_19 p0 v1 p2 v3 h = some o) (hK : (lpK (w_X8_addLetter_19 l G Q X p0 v1 p2) (fiV Q)) o) : mW l G m_X8_addLetter 1 0 0 19 [some (.ref p0), some (.int v1), some (.ref p2), some (.int v3)] [] h Q X := by
  unfold b0_X8_addLetter_19 at E
  refine q_iload_n dX8_addLetter_19 rfl ?_
  refine q_aload_n dX8_addLetter_20 rfl ?_
  replace E := grd_some E
  obtain ⟨g1, E⟩ := E
  refine r_getI dX8_addLetter_21 FX8_19 g1 ?_
  refine q_icmp_gt (tgt := 71) dX8_addLetter_24 (by decide) (fun z2 => ?_) (fun z2 => ?_)
  · replace E := ite_t E z2
    obtain ⟨o0, E0, rfl⟩ := inrO_some E
    exact r_fewer [some (.ref p0), none, none, none] (ls_s (ls_n (ls_n (ls_n ls_0)))) (s_X8_addLetter_71 p0 h E0 hK)
  · replace E := ite_f E z2
    refine q_iload_n dX8_addLetter_27 rfl ?_
    refine q_bipush (v := (Int32.ofInt 13)) dX8_addLetter_28 (by decide) ?_
    refine q_icmp_ge (tgt := 71) dX8_addLetter_30 (by decide) (fun z3 => ?_) (fun z3 => ?_)
    · replace E := ite_t E z3
      obtain ⟨o0, E0, rfl⟩ := inrO_some E
      exact r_fewer [some (.ref p0), none, none, none] (ls_s (ls_n (ls_n (ls_n ls_0)))) (s_X8_addLetter_71 p0 h E0 hK)
    · replace E := ite_f E z3
      refine q_aload_n dX8_addLetter_33 rfl ?_
      replace E := orf_some E
      obtain ⟨a4, ea4, E⟩ := E
      refine r_getR dX8_addLetter_34 FX8_11 g1 ea4 ?_
      refine q_aload_n dX8_addLetter_37 rfl ?_
      refine r_getI dX8_addLetter_38 FX8_15 g1 ?_
      refine q_bipush (v := (Int32.ofInt 13)) dX8_addLetter_41 (by decide) ?_
      refine q_imul dX8_addLetter_43 ?_
      refine q_iload_n dX8_addLetter_44 rfl ?_
      refine q_iadd dX8_addLetter_45 ?_
      refine q_aload_n dX8_addLetter_46 rfl ?_
      refine q_iload_n dX8_addLetter_47 rfl ?_
      replace E := grd_some E
      obtain ⟨g7, E⟩ := E
      replace E := cal_some E
      obtain ⟨x6, h5, hc, E⟩ := E
      refine r_callV1 (mc := 0) (ms := 0) dX8_addLetter_48 KX8_53 (c_X10_letter hc) g7 (by decide) (Nat.le_of_ble_eq_true rfl) (fun _ _ q => q.elim) ?_
      rintro _ _ ⟨rfl, rfl⟩
      clear hc
      refine q_iload_n dX8_addLetter_51 rfl ?_
      refine q_icmp_ne (tgt := 63) dX8_addLetter_52 (by decide) (fun z8 => ?_) (fun z8 => ?_)
      · replace E := ite_f E z8
        refine q_iconst dX8_addLetter_63 ?_
        exact r_fewer [some (.ref p0), some (.int v1), some (.ref p2), some (.int v3)] (ls_s (ls_s (ls_s (ls_s ls_0)))) (s_X8_addLetter_64 p0 v1 p2 v3 (Int32.ofInt 0) (((gi h p0 1) * (Int32.ofInt 13)) + v3) a4 h5 E hK)
      · replace E := ite_t E z8
        refine q_iconst dX8_addLetter_55 ?_
        refine q_iload_n dX8_addLetter_56 rfl ?_
        refine q_iconst dX8_addLetter_57 ?_
        refine q_iadd dX8_addLetter_58 ?_
        refine q_ishl dX8_addLetter_59 ?_
        refine q_goto (tgt := 64) dX8_addLetter_60 (by decide) ?_
        exact r_fewer [some (.ref p0), some (.int v1), some (.ref p2), some (.int v3)] (ls_s (ls_s (ls_s (ls_s ls_0)))) (s_X8_addLetter_64 p0 v1 p2 v3 ((Int32.ofInt 1) <<< ((v3 + (Int32.ofInt 1)) &&& 31)) (((gi h p0 1) * (Int32.ofInt 13)) + v3) a4 h5 E hK)
theorem s_X8_addLetter_19 {l : Launch} {G : mG} {Q : Option Value → mH → Prop} {X : String → mH → Prop} (p0 : Nat) (v1 : Int32) (p2 : Nat) (v3 : Int32) (h : mH) {o : Unit × mH} (E : g_X8_addLetter_19 p0 v1 p2 v3 h = some o) (hK : (fiV Q) o) : mW l G m_X8_addLetter 1 0 0 19 [some (.ref p0), some (.int v1), some (.ref p2), some (.int v3)] [] h Q X :=
  (lp_go (w_X8_addLetter_19 l G Q X p0 v1 p2) (fiV Q) (b_X8_addLetter_19 p0 v1 p2) (fun s o E hK => sb_X8_addLetter_19 p0 v1 p2 s.1 (s.2) E hK) _ _ _ E hK : w_X8_addLetter_19 l G Q X p0 v1 p2 (v3, h))
set_option maxRecDepth 100000 in
set_option maxHeartbeats 4000000 in
theorem s_X8_addLetter_0 {l : Launch} {G : mG} {Q : Option Value → mH → Prop} {X : String → mH → Prop} (p0 : Nat) (v1 : Int32) (p2 : Nat) (h : mH) {o : Unit × mH} (E : f_X8_addLetter p0 v1 p2 h = some o) (hK : (fiV Q) o) : mW l G m_X8_addLetter 1 0 0 0 [some (.ref p0), some (.int v1), some (.ref p2), none] [] h Q X := by
  unfold f_X8_addLetter at E
  refine q_aload_n dX8_addLetter_0 rfl ?_
  replace E := grd_some E
  obtain ⟨g1, E⟩ := E
  refine r_getI dX8_addLetter_1 FX8_15 g1 ?_
  refine q_if_lt (tgt := 16) dX8_addLetter_4 (by decide) (fun z2 => ?_) (fun z2 => ?_)
  · replace E := ite_t E z2
    exact r_fewer [none, none, none, none] (ls_n (ls_n (ls_n (ls_n ls_0)))) (s_X8_addLetter_16 h E hK)
  · replace E := ite_f E z2
    refine q_aload_n dX8_addLetter_7 rfl ?_
    refine r_getI dX8_addLetter_8 FX8_15 g1 ?_
    refine q_bipush (v := (Int32.ofInt 7)) dX8_addLetter_11 (by decide) ?_
    refine q_icmp_lt (tgt := 17) dX8_addLetter_13 (by decide) (fun z3 => ?_) (fun z3 => ?_)
    · replace E := ite_t E z3
      refine q_iconst dX8_addLetter_17 ?_
      refine r_istore_n dX8_addLetter_18 (by decide) rfl (ls' := [some (.ref p0), some (.int v1), some (.ref p2), some (.int (Int32.ofInt 0))]) rfl ?_
      exact r_fewer [some (.ref p0), some (.int v1), some (.ref p2), some (.int (Int32.ofInt 0))] (ls_s (ls_s (ls_s (ls_s ls_0)))) (s_X8_addLetter_19 p0 v1 p2 (Int32.ofInt 0) h E hK)
    · replace E := ite_f E z3
      exact r_fewer [none, none, none, none] (ls_n (ls_n (ls_n (ls_n ls_0)))) (s_X8_addLetter_16 h E hK)
theorem c_X8_addLetter {l : Launch} {G : mG} {p0 : Nat} {v1 : Int32} {p2 : Nat} {h h' : mH} {r : Unit} (E : f_X8_addLetter p0 v1 p2 h = some (r, h')) : mMet l G m_X8_addLetter 1 0 0 [.ref p0, .int v1, .ref p2] h (fun v k => v = none ∧ h' = k) (fun _ _ => False) :=
  mMet_of (by decide +kernel) rfl (ac_c rfl (ac_c rfl (ac_c rfl ac_0))) (Nat.le_of_ble_eq_true rfl) (s_X8_addLetter_0 p0 v1 p2 h E (And.intro rfl rfl))
set_option maxRecDepth 100000 in
set_option maxHeartbeats 4000000 in
theorem s_X8_endsFrom_45 {l : Launch} {G : mG} {Q : Option Value → mH → Prop} {X : String → mH → Prop} (p0 : Nat) (v1 : Int32) (v2 : Int32) (v3 : Int32) (v4 : Int32) (h : mH) {o : ((Int32 × Int32 × mH) ⊕ (Int32 × mH))} (E : g_X8_endsFrom_45 p0 v1 v2 v3 v4 h = some o) (hK : (lpK (w_X8_endsFrom_5 l G Q X p0 v1 v2) (fiI Q)) o) : mW l G m_X8_endsFrom 0 0 0 45 [some (.ref p0), some (.int v1), some (.int v2), some (.int v3), some (.int v4)] [] h Q X := by
  unfold g_X8_endsFrom_45 at E
  replace E := bnd_x E
  obtain ⟨x1, ex1, E⟩ := E
  refine r_iinc (v := x1) dX8_endsFrom_45 rfl ex1 (by decide) (ls' := [some (.ref p0), some (.int v1), some (.int v2), some (.int v3), some (.int x1)]) rfl ?_
  refine q_goto (tgt := 5) dX8_endsFrom_48 (by decide) ?_
  cases E
  exact r_fewer [some (.ref p0), some (.int v1), some (.int v2), some (.int v3), some (.int x1)] (ls_s (ls_s (ls_s (ls_s (ls_s ls_0))))) hK
set_option maxRecDepth 100000 in
set_option maxHeartbeats 4000000 in
theorem s_X8_endsFrom_51 {l : Launch} {G : mG} {Q : Option Value → mH → Prop} {X : String → mH → Prop} (v3 : Int32) (h : mH) {o : Int32 × mH} (E : g_X8_endsFrom_51 v3 h = some o) (hK : (fiI Q) o) : mW l G m_X8_endsFrom 0 0 0 51 [none, none, none, some (.int v3), none] [] h Q X := by
  unfold g_X8_endsFrom_51 at E
  refine q_iload_n dX8_endsFrom_51 rfl ?_
  cases E
  exact q_ireturn dX8_endsFrom_52 rfl hK
set_option maxRecDepth 100000 in
set_option maxHeartbeats 4000000 in
theorem sb_X8_endsFrom_5 {l : Launch} {G : mG} {Q : Option Value → mH → Prop} {X : String → mH → Prop} (p0 : Nat) (v1 : Int32) (v2 : Int32) (v3 : Int32) (v4 : Int32) (h : mH) {o : ((Int32 × Int32 × mH) ⊕ (Int32 × mH))} (E : b0_X8_endsFrom_5 p0 v1 v2 v3 v4 h = some o) (hK : (lpK (w_X8_endsFrom_5 l G Q X p0 v1 v2) (fiI Q)) o) : mW l G m_X8_endsFrom 0 0 0 5 [some (.ref p0), some (.int v1), some (.int v2), some (.int v3), some (.int v4)] [] h Q X := by
  unfold b0_X8_endsFrom_5 at E
  refine q_iload dX8_endsFrom_5 rfl ?_
  refine q_aload_n dX8_endsFrom_7 rfl ?_
  replace E := grd_some E
  obtain ⟨g1, E⟩ := E
  refine r_getI dX8_endsFrom_8 FX8_19 g1 ?_
  refine q_icmp_gt (tgt := 51) dX8_endsFrom_11 (by decide) (fun z2 => ?_) (fun z2 => ?_)
  · replace E := ite_t E z2
    obtain ⟨o0, E0, rfl⟩ := inrO_some E
    exact r_fewer [none, none, none, some (.int v3), none] (ls_n (ls_n (ls_n (ls_s (ls_n ls_0))))) (s_X8_endsFrom_51 v3 h E0 hK)
  · replace E := ite_f E z2
    refine q_iload dX8_endsFrom_14 rfl ?_
    refine q_bipush (v := (Int32.ofInt 13)) dX8_endsFrom_16 (by decide) ?_
    refine q_icmp_ge (tgt := 51) dX8_endsFrom_18 (by decide) (fun z3 => ?_) (fun z3 => ?_)
    · replace E := ite_t E z3
      obtain ⟨o0, E0, rfl⟩ := inrO_some E
      exact r_fewer [none, none, none, some (.int v3), none] (ls_n (ls_n (ls_n (ls_s (ls_n ls_0))))) (s_X8_endsFrom_51 v3 h E0 hK)
    · replace E := ite_f E z3
      refine q_iload_n dX8_endsFrom_21 rfl ?_
      refine q_iload dX8_endsFrom_22 rfl ?_
      refine q_ishr dX8_endsFrom_24 ?_
      refine q_iconst dX8_endsFrom_25 ?_
      refine q_iand dX8_endsFrom_26 ?_
      refine q_if_eq (tgt := 45) dX8_endsFrom_27 (by decide) (fun z4 => ?_) (fun z4 => ?_)
      · replace E := ite_t E z4
        exact r_fewer [some (.ref p0), some (.int v1), some (.int v2), some (.int v3), some (.int v4)] (ls_s (ls_s (ls_s (ls_s (ls_s ls_0))))) (s_X8_endsFrom_45 p0 v1 v2 v3 v4 h E hK)
      · replace E := ite_f E z4
        refine q_iload_n dX8_endsFrom_30 rfl ?_
        refine q_aload_n dX8_endsFrom_31 rfl ?_
        replace E := orf_some E
        obtain ⟨a5, ea5, E⟩ := E
        refine r_getR dX8_endsFrom_32 FX8_11 g1 ea5 ?_
        refine q_iload_n dX8_endsFrom_35 rfl ?_
        refine q_bipush (v := (Int32.ofInt 13)) dX8_endsFrom_36 (by decide) ?_
        refine q_imul dX8_endsFrom_38 ?_
        refine q_iload dX8_endsFrom_39 rfl ?_
        refine q_iadd dX8_endsFrom_41 ?_
        replace E := grd_some E
        obtain ⟨g6, E⟩ := E
        replace E := grd_some E
        obtain ⟨g7, E⟩ := E
        refine r_iaload dX8_endsFrom_42 g6 g7 ?_
        refine q_ior dX8_endsFrom_43 ?_
        replace E := bnd_x E
        obtain ⟨x8, ex8, E⟩ := E
        refine r_istore_n dX8_endsFrom_44 (by decide) ex8 (ls' := [some (.ref p0), some (.int v1), some (.int v2), some (.int x8), some (.int v4)]) rfl ?_
        exact r_fewer [some (.ref p0), some (.int v1), some (.int v2), some (.int x8), some (.int v4)] (ls_s (ls_s (ls_s (ls_s (ls_s ls_0))))) (s_X8_endsFrom_45 p0 v1 v2 x8 v4 h E hK)
theorem s_X8_endsFrom_5 {l : Launch} {G : mG} {Q : Option Value → mH → Prop} {X : String → mH → Prop} (p0 : Nat) (v1 : Int32) (v2 : Int32) (v3 : Int32) (v4 : Int32) (h : mH) {o : Int32 × mH} (E : g_X8_endsFrom_5 p0 v1 v2 v3 v4 h = some o) (hK : (fiI Q) o) : mW l G m_X8_endsFrom 0 0 0 5 [some (.ref p0), some (.int v1), some (.int v2), some (.int v3), some (.int v4)] [] h Q X :=
  (lp_go (w_X8_endsFrom_5 l G Q X p0 v1 v2) (fiI Q) (b_X8_endsFrom_5 p0 v1 v2) (fun s o E hK => sb_X8_endsFrom_5 p0 v1 v2 s.1 s.2.1 (s.2.2) E hK) _ _ _ E hK : w_X8_endsFrom_5 l G Q X p0 v1 v2 (v3, v4, h))
set_option maxRecDepth 100000 in
set_option maxHeartbeats 4000000 in
theorem s_X8_endsFrom_0 {l : Launch} {G : mG} {Q : Option Value → mH → Prop} {X : String → mH → Prop} (p0 : Nat) (v1 : Int32) (v2 : Int32) (h : mH) {o : Int32 × mH} (E : f_X8_endsFrom p0 v1 v2 h = some o) (hK : (fiI Q) o) : mW l G m_X8_endsFrom 0 0 0 0 [some (.ref p0), some (.int v1), some (.int v2), none, none] [] h Q X := by
  unfold f_X8_endsFrom at E
  refine q_iconst dX8_endsFrom_0 ?_
  refine r_istore_n dX8_endsFrom_1 (by decide) rfl (ls' := [some (.ref p0), some (.int v1), some (.int v2), some (.int (Int32.ofInt 0)), none]) rfl ?_
  refine q_iconst dX8_endsFrom_2 ?_
  refine r_istore dX8_endsFrom_3 (by decide) rfl (ls' := [some (.ref p0), some (.int v1), some (.int v2), some (.int (Int32.ofInt 0)), some (.int (Int32.ofInt 0))]) rfl ?_
  exact r_fewer [some (.ref p0), some (.int v1), some (.int v2), some (.int (Int32.ofInt 0)), some (.int (Int32.ofInt 0))] (ls_s (ls_s (ls_s (ls_s (ls_s ls_0))))) (s_X8_endsFrom_5 p0 v1 v2 (Int32.ofInt 0) (Int32.ofInt 0) h E hK)
theorem c_X8_endsFrom {l : Launch} {G : mG} {p0 : Nat} {v1 : Int32} {v2 : Int32} {h h' : mH} {r : Int32} (E : f_X8_endsFrom p0 v1 v2 h = some (r, h')) : mMet l G m_X8_endsFrom 0 0 0 [.ref p0, .int v1, .int v2] h (fun v k => v = some (.int r) ∧ h' = k) (fun _ _ => False) :=
  mMet_of (by decide +kernel) rfl (ac_c rfl (ac_c rfl (ac_c rfl ac_0))) (Nat.le_of_ble_eq_true rfl) (s_X8_endsFrom_0 p0 v1 v2 h E (And.intro rfl rfl))
set_option maxRecDepth 100000 in
set_option maxHeartbeats 4000000 in
theorem s_X8_sign_17 {l : Launch} {G : mG} {Q : Option Value → mH → Prop} {X : String → mH → Prop} (h : mH) {o : Unit × mH} (E : g_X8_sign_17  h = some o) (hK : (fiV Q) o) : mW l G m_X8_sign 1 0 0 17 [none, none, none, none, none] [] h Q X := by
  unfold g_X8_sign_17 at E
  cases E
  exact q_return dX8_sign_17 rfl hK
set_option maxRecDepth 100000 in
set_option maxHeartbeats 4000000 in
theorem s_X8_sign_93 {l : Launch} {G : mG} {Q : Option Value → mH → Prop} {X : String → mH → Prop} (p0 : Nat) (v1 : Int32) (v2 : Int32) (v3 : Int32) (h : mH) {o : ((Int32 × mH) ⊕ (Unit × mH))} (E : g_X8_sign_93 p0 v1 v2 v3 h = some o) (hK : (lpK (w_X8_sign_28 l G Q X p0 v1 v2) (fiV Q)) o) : mW l G m_X8_sign 1 0 0 93 [some (.ref p0), some (.int v1), some (.int v2), some (.int v3), none] [] h Q X := by
  unfold g_X8_sign_93 at E
  replace E := bnd_x E
  obtain ⟨x1, ex1, E⟩ := E
  refine r_iinc (v := x1) dX8_sign_93 rfl ex1 (by decide) (ls' := [some (.ref p0), some (.int v1), some (.int v2), some (.int x1), none]) rfl ?_
  refine q_goto (tgt := 28) dX8_sign_96 (by decide) ?_
  cases E
  exact r_fewer [some (.ref p0), some (.int v1), some (.int v2), some (.int x1), none] (ls_s (ls_s (ls_s (ls_s (ls_n ls_0))))) hK
set_option maxRecDepth 100000 in
set_option maxHeartbeats 4000000 in
theorem s_X8_sign_74 {l : Launch} {G : mG} {Q : Option Value → mH → Prop} {X : String → mH → Prop} (p0 : Nat) (v1 : Int32) (v2 : Int32) (v3 : Int32) (v4 : Int32) (h : mH) {o : ((Int32 × mH) ⊕ (Unit × mH))} (E : g_X8_sign_74 p0 v1 v2 v3 v4 h = some o) (hK : (lpK (w_X8_sign_28 l G Q X p0 v1 v2) (fiV Q)) o) : mW l G m_X8_sign 1 0 0 74 [some (.ref p0), some (.int v1), some (.int v2), some (.int v3), some (.int v4)] [] h Q X := by
  unfold g_X8_sign_74 at E
  refine q_iload_n dX8_sign_74 rfl ?_
  refine q_bipush (v := (Int32.ofInt 43)) dX8_sign_75 (by decide) ?_
  refine q_icmp_eq (tgt := 93) dX8_sign_77 (by decide) (fun z1 => ?_) (fun z1 => ?_)
  · replace E := ite_t E z1
    exact r_fewer [some (.ref p0), some (.int v1), some (.int v2), some (.int v3), none] (ls_s (ls_s (ls_s (ls_s (ls_n ls_0))))) (s_X8_sign_93 p0 v1 v2 v3 h E hK)
  · replace E := ite_f E z1
    refine q_aload_n dX8_sign_80 rfl ?_
    replace E := grd_some E
    obtain ⟨g2, E⟩ := E
    replace E := orf_some E
    obtain ⟨a3, ea3, E⟩ := E
    refine r_getR dX8_sign_81 FX8_11 g2 ea3 ?_
    refine q_iload dX8_sign_84 rfl ?_
    refine q_dup2 dX8_sign_86 ?_
    replace E := grd_some E
    obtain ⟨g4, E⟩ := E
    replace E := grd_some E
    obtain ⟨g5, E⟩ := E
    refine r_iaload dX8_sign_87 g4 g5 ?_
    refine q_iconst dX8_sign_88 ?_
    refine q_iload_n dX8_sign_89 rfl ?_
    refine q_ishl dX8_sign_90 ?_
    refine q_ior dX8_sign_91 ?_
    replace E := bnd_x E
    obtain ⟨h6, eh6, E⟩ := E
    refine r_iastore (hh := eh6) dX8_sign_92 g4 g5 ?_
    exact r_fewer [some (.ref p0), some (.int v1), some (.int v2), some (.int v3), none] (ls_s (ls_s (ls_s (ls_s (ls_n ls_0))))) (s_X8_sign_93 p0 v1 v2 v3 h6 E hK)
set_option maxRecDepth 100000 in
set_option maxHeartbeats 4000000 in
theorem sb_X8_sign_28 {l : Launch} {G : mG} {Q : Option Value → mH → Prop} {X : String → mH → Prop} (p0 : Nat) (v1 : Int32) (v2 : Int32) (v3 : Int32) (h : mH) {o : ((Int32 × mH) ⊕ (Unit × mH))} (E : b0_X8_sign_28 p0 v1 v2 v3 h = some o) (hK : (lpK (w_X8_sign_28 l G Q X p0 v1 v2) (fiV Q)) o) : mW l G m_X8_sign 1 0 0 28 [some (.ref p0), some (.int v1), some (.int v2), some (.int v3), none] [] h Q X := by
  unfold b0_X8_sign_28 at E
  refine q_iload_n dX8_sign_28 rfl ?_
  refine q_if_lt (tgt := 99) dX8_sign_29 (by decide) (fun z1 => ?_) (fun z1 => ?_)
  · replace E := ite_t E z1
    cases E
    exact q_return dX8_sign_99 rfl hK
  · replace E := ite_f E z1
    refine q_iload_n dX8_sign_32 rfl ?_
    refine q_bipush (v := (Int32.ofInt 13)) dX8_sign_33 (by decide) ?_
    refine q_imul dX8_sign_35 ?_
    refine q_iload_n dX8_sign_36 rfl ?_
    refine q_iadd dX8_sign_37 ?_
    replace E := bnd_x E
    obtain ⟨x2, ex2, E⟩ := E
    refine r_istore dX8_sign_38 (by decide) ex2 (ls' := [some (.ref p0), some (.int v1), some (.int v2), some (.int v3), some (.int x2)]) rfl ?_
    refine q_iload_n dX8_sign_40 rfl ?_
    refine q_bipush (v := (Int32.ofInt 63)) dX8_sign_41 (by decide) ?_
    refine q_icmp_eq (tgt := 74) dX8_sign_43 (by decide) (fun z3 => ?_) (fun z3 => ?_)
    · replace E := ite_t E z3
      exact r_fewer [some (.ref p0), some (.int v1), some (.int v2), some (.int v3), some (.int x2)] (ls_s (ls_s (ls_s (ls_s (ls_s ls_0))))) (s_X8_sign_74 p0 v1 v2 v3 x2 h E hK)
    · replace E := ite_f E z3
      refine q_aload_n dX8_sign_46 rfl ?_
      replace E := grd_some E
      obtain ⟨g4, E⟩ := E
      replace E := orf_some E
      obtain ⟨a5, ea5, E⟩ := E
      refine r_getR dX8_sign_47 FX8_11 g4 ea5 ?_
      refine q_iload dX8_sign_50 rfl ?_
      refine q_dup2 dX8_sign_52 ?_
      replace E := grd_some E
      obtain ⟨g6, E⟩ := E
      replace E := grd_some E
      obtain ⟨g7, E⟩ := E
      refine r_iaload dX8_sign_53 g6 g7 ?_
      refine q_aload_n dX8_sign_54 rfl ?_
      refine q_iload_n dX8_sign_55 rfl ?_
      refine q_aload_n dX8_sign_56 rfl ?_
      refine r_getR dX8_sign_57 FX8_11 g4 ea5 ?_
      refine q_iload dX8_sign_60 rfl ?_
      refine r_iaload dX8_sign_62 g6 g7 ?_
      refine q_iconst dX8_sign_63 ?_
      refine q_iload_n dX8_sign_64 rfl ?_
      refine q_ishl dX8_sign_65 ?_
      refine q_iconst dX8_sign_66 ?_
      refine q_ixor dX8_sign_67 ?_
      refine q_iand dX8_sign_68 ?_
      replace E := cal_some E
      obtain ⟨x10, h9, hc, E⟩ := E
      refine r_callV2 (mc := 0) (ms := 0) dX8_sign_69 KX8_57 (c_X8_endsFrom hc) g4 (by decide) (Nat.le_of_ble_eq_true rfl) (fun _ _ q => q.elim) ?_
      rintro _ _ ⟨rfl, rfl⟩
      clear hc
      refine q_ior dX8_sign_72 ?_
      replace E := grd_some E
      obtain ⟨g12, E⟩ := E
      replace E := grd_some E
      obtain ⟨g13, E⟩ := E
      replace E := bnd_x E
      obtain ⟨h11, eh11, E⟩ := E
      refine r_iastore (hh := eh11) dX8_sign_73 g12 g13 ?_
      exact r_fewer [some (.ref p0), some (.int v1), some (.int v2), some (.int v3), some (.int x2)] (ls_s (ls_s (ls_s (ls_s (ls_s ls_0))))) (s_X8_sign_74 p0 v1 v2 v3 x2 h11 E hK)
theorem s_X8_sign_28 {l : Launch} {G : mG} {Q : Option Value → mH → Prop} {X : String → mH → Prop} (p0 : Nat) (v1 : Int32) (v2 : Int32) (v3 : Int32) (h : mH) {o : Unit × mH} (E : g_X8_sign_28 p0 v1 v2 v3 h = some o) (hK : (fiV Q) o) : mW l G m_X8_sign 1 0 0 28 [some (.ref p0), some (.int v1), some (.int v2), some (.int v3), none] [] h Q X :=
  (lp_go (w_X8_sign_28 l G Q X p0 v1 v2) (fiV Q) (b_X8_sign_28 p0 v1 v2) (fun s o E hK => sb_X8_sign_28 p0 v1 v2 s.1 (s.2) E hK) _ _ _ E hK : w_X8_sign_28 l G Q X p0 v1 v2 (v3, h))
set_option maxRecDepth 100000 in
set_option maxHeartbeats 4000000 in
theorem s_X8_sign_0 {l : Launch} {G : mG} {Q : Option Value → mH → Prop} {X : String → mH → Prop} (p0 : Nat) (v1 : Int32) (h : mH) {o : Unit × mH} (E : f_X8_sign p0 v1 h = some o) (hK : (fiV Q) o) : mW l G m_X8_sign 1 0 0 0 [some (.ref p0), some (.int v1), none, none, none] [] h Q X := by
  unfold f_X8_sign at E
  refine q_aload_n dX8_sign_0 rfl ?_
  replace E := grd_some E
  obtain ⟨g1, E⟩ := E
  refine r_getI dX8_sign_1 FX8_15 g1 ?_
  refine q_iconst dX8_sign_4 ?_
  refine q_isub dX8_sign_5 ?_
  replace E := bnd_x E
  obtain ⟨x2, ex2, E⟩ := E
  refine r_istore_n dX8_sign_6 (by decide) ex2 (ls' := [some (.ref p0), some (.int v1), some (.int x2), none, none]) rfl ?_
  refine q_iload_n dX8_sign_7 rfl ?_
  refine q_if_lt (tgt := 17) dX8_sign_8 (by decide) (fun z3 => ?_) (fun z3 => ?_)
  · replace E := ite_t E z3
    exact r_fewer [none, none, none, none, none] (ls_n (ls_n (ls_n (ls_n (ls_n ls_0))))) (s_X8_sign_17 h E hK)
  · replace E := ite_f E z3
    refine q_iload_n dX8_sign_11 rfl ?_
    refine q_bipush (v := (Int32.ofInt 7)) dX8_sign_12 (by decide) ?_
    refine q_icmp_lt (tgt := 18) dX8_sign_14 (by decide) (fun z4 => ?_) (fun z4 => ?_)
    · replace E := ite_t E z4
      refine q_aload_n dX8_sign_18 rfl ?_
      refine r_getI dX8_sign_19 FX8_19 g1 ?_
      refine q_bipush (v := (Int32.ofInt 12)) dX8_sign_22 (by decide) ?_
      refine q_mmin dX8_sign_24 XX8_61 (Nat.le_of_ble_eq_true rfl) ?_
      replace E := bnd_x E
      obtain ⟨x5, ex5, E⟩ := E
      refine r_istore_n dX8_sign_27 (by decide) ex5 (ls' := [some (.ref p0), some (.int v1), some (.int x2), some (.int x5), none]) rfl ?_
      exact r_fewer [some (.ref p0), some (.int v1), some (.int x2), some (.int x5), none] (ls_s (ls_s (ls_s (ls_s (ls_n ls_0))))) (s_X8_sign_28 p0 v1 x2 x5 h E hK)
    · replace E := ite_f E z4
      exact r_fewer [none, none, none, none, none] (ls_n (ls_n (ls_n (ls_n (ls_n ls_0))))) (s_X8_sign_17 h E hK)
theorem c_X8_sign {l : Launch} {G : mG} {p0 : Nat} {v1 : Int32} {h h' : mH} {r : Unit} (E : f_X8_sign p0 v1 h = some (r, h')) : mMet l G m_X8_sign 1 0 0 [.ref p0, .int v1] h (fun v k => v = none ∧ h' = k) (fun _ _ => False) :=
  mMet_of (by decide +kernel) rfl (ac_c rfl (ac_c rfl ac_0)) (Nat.le_of_ble_eq_true rfl) (s_X8_sign_0 p0 v1 h E (And.intro rfl rfl))
set_option maxRecDepth 100000 in
set_option maxHeartbeats 4000000 in
theorem s_X8_join_24 {l : Launch} {G : mG} {Q : Option Value → mH → Prop} {X : String → mH → Prop} (h : mH) {o : Unit × mH} (E : g_X8_join_24  h = some o) (hK : (fiV Q) o) : mW l G m_X8_join 1 0 0 24 [none, none, none, none, none, none] [] h Q X := by
  unfold g_X8_join_24 at E
  cases E
  exact q_return dX8_join_24 rfl hK
set_option maxRecDepth 100000 in
set_option maxHeartbeats 4000000 in
theorem s_X8_join_110 {l : Launch} {G : mG} {Q : Option Value → mH → Prop} {X : String → mH → Prop} (p0 : Nat) (v1 : Int32) (v2 : Int32) (v3 : Int32) (v4 : Int32) (s0 : Int32) (s1 : Int32) (sp2 : Nat) (h : mH) {o : ((Int32 × mH) ⊕ (Unit × mH))} (E : g_X8_join_110 p0 v1 v2 v3 v4 s0 s1 sp2 h = some o) (hK : (lpK (w_X8_join_38 l G Q X p0 v1 v2 v3) (fiV Q)) o) : mW l G m_X8_join 1 0 0 110 [some (.ref p0), some (.int v1), some (.int v2), some (.int v3), some (.int v4), none] [.int s0, .int s1, .ref sp2] h Q X := by
  unfold g_X8_join_110 at E
  replace E := grd_some E
  obtain ⟨g2, E⟩ := E
  replace E := grd_some E
  obtain ⟨g3, E⟩ := E
  replace E := bnd_x E
  obtain ⟨h1, eh1, E⟩ := E
  refine r_iastore (hh := eh1) dX8_join_110 g2 g3 ?_
  replace E := bnd_x E
  obtain ⟨x4, ex4, E⟩ := E
  refine r_iinc (v := x4) dX8_join_111 rfl ex4 (by decide) (ls' := [some (.ref p0), some (.int v1), some (.int v2), some (.int v3), some (.int x4), none]) rfl ?_
  refine q_goto (tgt := 38) dX8_join_114 (by decide) ?_
  cases E
  exact r_fewer [some (.ref p0), some (.int v1), some (.int v2), some (.int v3), some (.int x4), none] (ls_s (ls_s (ls_s (ls_s (ls_s (ls_n ls_0)))))) hK
set_option maxRecDepth 100000 in
set_option maxHeartbeats 4000000 in
theorem s_X8_join_117 {l : Launch} {G : mG} {Q : Option Value → mH → Prop} {X : String → mH → Prop} (h : mH) {o : Unit × mH} (E : g_X8_join_117  h = some o) (hK : (fiV Q) o) : mW l G m_X8_join 1 0 0 117 [none, none, none, none, none, none] [] h Q X := by
  unfold g_X8_join_117 at E
  cases E
  exact q_return dX8_join_117 rfl hK
set_option maxRecDepth 100000 in
set_option maxHeartbeats 4000000 in
theorem sb_X8_join_38 {l : Launch} {G : mG} {Q : Option Value → mH → Prop} {X : String → mH → Prop} (p0 : Nat) (v1 : Int32) (v2 : Int32) (v3 : Int32) (v4 : Int32) (h : mH) {o : ((Int32 × mH) ⊕ (Unit × mH))} (E : b0_X8_join_38 p0 v1 v2 v3 v4 h = some o) (hK : (lpK (w_X8_join_38 l G Q X p0 v1 v2 v3) (fiV Q)) o) : mW l G m_X8_join 1 0 0 38 [some (.ref p0), some (.int v1), some (.int v2), some (.int v3), some (.int v4), none] [] h Q X := by
  unfold b0_X8_join_38 at E
  refine q_iload dX8_join_38 rfl ?_
  refine q_aload_n dX8_join_40 rfl ?_
  replace E := grd_some E
  obtain ⟨g1, E⟩ := E
  refine r_getI dX8_join_41 FX8_19 g1 ?_
  refine q_icmp_gt (tgt := 117) dX8_join_44 (by decide) (fun z2 => ?_) (fun z2 => ?_)
  · replace E := ite_t E z2
    obtain ⟨o0, E0, rfl⟩ := inrO_some E
    exact r_fewer [none, none, none, none, none, none] (ls_n (ls_n (ls_n (ls_n (ls_n (ls_n ls_0)))))) (s_X8_join_117 h E0 hK)
  · replace E := ite_f E z2
    refine q_iload dX8_join_47 rfl ?_
    refine q_bipush (v := (Int32.ofInt 13)) dX8_join_49 (by decide) ?_
    refine q_icmp_ge (tgt := 117) dX8_join_51 (by decide) (fun z3 => ?_) (fun z3 => ?_)
    · replace E := ite_t E z3
      obtain ⟨o0, E0, rfl⟩ := inrO_some E
      exact r_fewer [none, none, none, none, none, none] (ls_n (ls_n (ls_n (ls_n (ls_n (ls_n ls_0)))))) (s_X8_join_117 h E0 hK)
    · replace E := ite_f E z3
      refine q_iload_n dX8_join_54 rfl ?_
      refine q_bipush (v := (Int32.ofInt 13)) dX8_join_55 (by decide) ?_
      refine q_imul dX8_join_57 ?_
      refine q_iload dX8_join_58 rfl ?_
      refine q_iadd dX8_join_60 ?_
      replace E := bnd_x E
      obtain ⟨x4, ex4, E⟩ := E
      refine r_istore dX8_join_61 (by decide) ex4 (ls' := [some (.ref p0), some (.int v1), some (.int v2), some (.int v3), some (.int v4), some (.int x4)]) rfl ?_
      refine q_aload_n dX8_join_63 rfl ?_
      replace E := orf_some E
      obtain ⟨a5, ea5, E⟩ := E
      refine r_getR dX8_join_64 FX8_11 g1 ea5 ?_
      refine q_iload dX8_join_67 rfl ?_
      refine q_iload_n dX8_join_69 rfl ?_
      refine q_bipush (v := (Int32.ofInt 124)) dX8_join_70 (by decide) ?_
      refine q_icmp_ne (tgt := 98) dX8_join_72 (by decide) (fun z6 => ?_) (fun z6 => ?_)
      · replace E := ite_f E z6
        refine q_aload_n dX8_join_98 rfl ?_
        refine q_iload_n dX8_join_99 rfl ?_
        refine q_aload_n dX8_join_100 rfl ?_
        refine r_getR dX8_join_101 FX8_11 g1 ea5 ?_
        refine q_iload dX8_join_104 rfl ?_
        replace E := grd_some E
        obtain ⟨g8, E⟩ := E
        replace E := grd_some E
        obtain ⟨g9, E⟩ := E
        refine r_iaload dX8_join_106 g8 g9 ?_
        replace E := cal_some E
        obtain ⟨x11, h10, hc, E⟩ := E
        refine r_callV2 (mc := 0) (ms := 0) dX8_join_107 KX8_57 (c_X8_endsFrom hc) g1 (by decide) (Nat.le_of_ble_eq_true rfl) (fun _ _ q => q.elim) ?_
        rintro _ _ ⟨rfl, rfl⟩
        clear hc
        exact r_fewer [some (.ref p0), some (.int v1), some (.int v2), some (.int v3), some (.int v4), none] (ls_s (ls_s (ls_s (ls_s (ls_s (ls_n ls_0)))))) (s_X8_join_110 p0 v1 v2 v3 v4 x11 x4 a5 h10 E hK)
      · replace E := ite_t E z6
        refine q_aload_n dX8_join_75 rfl ?_
        refine r_getR dX8_join_76 FX8_11 g1 ea5 ?_
        refine q_iload dX8_join_79 rfl ?_
        replace E := grd_some E
        obtain ⟨g13, E⟩ := E
        replace E := grd_some E
        obtain ⟨g14, E⟩ := E
        refine r_iaload dX8_join_81 g13 g14 ?_
        refine q_aload_n dX8_join_82 rfl ?_
        refine r_getR dX8_join_83 FX8_11 g1 ea5 ?_
        refine q_iload_n dX8_join_86 rfl ?_
        refine q_bipush (v := (Int32.ofInt 13)) dX8_join_87 (by decide) ?_
        refine q_imul dX8_join_89 ?_
        refine q_iload dX8_join_90 rfl ?_
        refine q_iadd dX8_join_92 ?_
        replace E := grd_some E
        obtain ⟨g16, E⟩ := E
        refine r_iaload dX8_join_93 g13 g16 ?_
        refine q_ior dX8_join_94 ?_
        refine q_goto (tgt := 110) dX8_join_95 (by decide) ?_
        exact r_fewer [some (.ref p0), some (.int v1), some (.int v2), some (.int v3), some (.int v4), none] (ls_s (ls_s (ls_s (ls_s (ls_s (ls_n ls_0)))))) (s_X8_join_110 p0 v1 v2 v3 v4 ((gi h a5 x4.toNatClampNeg) ||| (gi h a5 ((v3 * (Int32.ofInt 13)) + v4).toNatClampNeg)) x4 a5 h E hK)
theorem s_X8_join_38 {l : Launch} {G : mG} {Q : Option Value → mH → Prop} {X : String → mH → Prop} (p0 : Nat) (v1 : Int32) (v2 : Int32) (v3 : Int32) (v4 : Int32) (h : mH) {o : Unit × mH} (E : g_X8_join_38 p0 v1 v2 v3 v4 h = some o) (hK : (fiV Q) o) : mW l G m_X8_join 1 0 0 38 [some (.ref p0), some (.int v1), some (.int v2), some (.int v3), some (.int v4), none] [] h Q X :=
  (lp_go (w_X8_join_38 l G Q X p0 v1 v2 v3) (fiV Q) (b_X8_join_38 p0 v1 v2 v3) (fun s o E hK => sb_X8_join_38 p0 v1 v2 v3 s.1 (s.2) E hK) _ _ _ E hK : w_X8_join_38 l G Q X p0 v1 v2 v3 (v4, h))
set_option maxRecDepth 100000 in
set_option maxHeartbeats 4000000 in
theorem s_X8_join_0 {l : Launch} {G : mG} {Q : Option Value → mH → Prop} {X : String → mH → Prop} (p0 : Nat) (v1 : Int32) (h : mH) {o : Unit × mH} (E : f_X8_join p0 v1 h = some o) (hK : (fiV Q) o) : mW l G m_X8_join 1 0 0 0 [some (.ref p0), some (.int v1), none, none, none, none] [] h Q X := by
  unfold f_X8_join at E
  refine q_aload_n dX8_join_0 rfl ?_
  replace E := grd_some E
  obtain ⟨g1, E⟩ := E
  refine r_getI dX8_join_1 FX8_15 g1 ?_
  refine q_iconst dX8_join_4 ?_
  refine q_isub dX8_join_5 ?_
  replace E := bnd_x E
  obtain ⟨x2, ex2, E⟩ := E
  refine r_istore_n dX8_join_6 (by decide) ex2 (ls' := [some (.ref p0), some (.int v1), some (.int x2), none, none, none]) rfl ?_
  refine q_aload_n dX8_join_7 rfl ?_
  refine r_getI dX8_join_8 FX8_15 g1 ?_
  refine q_iconst dX8_join_11 ?_
  refine q_isub dX8_join_12 ?_
  replace E := bnd_x E
  obtain ⟨x3, ex3, E⟩ := E
  refine r_istore_n dX8_join_13 (by decide) ex3 (ls' := [some (.ref p0), some (.int v1), some (.int x2), some (.int x3), none, none]) rfl ?_
  refine q_iload_n dX8_join_14 rfl ?_
  refine q_if_lt (tgt := 24) dX8_join_15 (by decide) (fun z4 => ?_) (fun z4 => ?_)
  · replace E := ite_t E z4
    exact r_fewer [none, none, none, none, none, none] (ls_n (ls_n (ls_n (ls_n (ls_n (ls_n ls_0)))))) (s_X8_join_24 h E hK)
  · replace E := ite_f E z4
    refine q_iload_n dX8_join_18 rfl ?_
    refine q_bipush (v := (Int32.ofInt 7)) dX8_join_19 (by decide) ?_
    refine q_icmp_lt (tgt := 25) dX8_join_21 (by decide) (fun z5 => ?_) (fun z5 => ?_)
    · replace E := ite_t E z5
      refine q_aload_n dX8_join_25 rfl ?_
      refine q_dup dX8_join_26 ?_
      refine r_getI dX8_join_27 FX8_15 g1 ?_
      refine q_iconst dX8_join_30 ?_
      refine q_isub dX8_join_31 ?_
      replace E := bnd_x E
      obtain ⟨h6, eh6, E⟩ := E
      refine r_putI (hh := eh6) dX8_join_32 FX8_15 g1 rfl rfl ?_
      refine q_iconst dX8_join_35 ?_
      refine r_istore dX8_join_36 (by decide) rfl (ls' := [some (.ref p0), some (.int v1), some (.int x2), some (.int x3), some (.int (Int32.ofInt 0)), none]) rfl ?_
      exact r_fewer [some (.ref p0), some (.int v1), some (.int x2), some (.int x3), some (.int (Int32.ofInt 0)), none] (ls_s (ls_s (ls_s (ls_s (ls_s (ls_n ls_0)))))) (s_X8_join_38 p0 v1 x2 x3 (Int32.ofInt 0) h6 E hK)
    · replace E := ite_f E z5
      exact r_fewer [none, none, none, none, none, none] (ls_n (ls_n (ls_n (ls_n (ls_n (ls_n ls_0)))))) (s_X8_join_24 h E hK)
theorem c_X8_join {l : Launch} {G : mG} {p0 : Nat} {v1 : Int32} {h h' : mH} {r : Unit} (E : f_X8_join p0 v1 h = some (r, h')) : mMet l G m_X8_join 1 0 0 [.ref p0, .int v1] h (fun v k => v = none ∧ h' = k) (fun _ _ => False) :=
  mMet_of (by decide +kernel) rfl (ac_c rfl (ac_c rfl ac_0)) (Nat.le_of_ble_eq_true rfl) (s_X8_join_0 p0 v1 h E (And.intro rfl rfl))
set_option maxRecDepth 100000 in
set_option maxHeartbeats 4000000 in
theorem s_X8_accept_13 {l : Launch} {G : mG} {Q : Option Value → mH → Prop} {X : String → mH → Prop} (h : mH) {o : Int32 × mH} (E : g_X8_accept_13  h = some o) (hK : (fiI Q) o) : mW l G m_X8_accept 2 0 0 13 [none, none, none, none, none] [] h Q X := by
  unfold g_X8_accept_13 at E
  refine q_iconst dX8_accept_13 ?_
  cases E
  exact q_zreturn dX8_accept_14 rfl (by decide) hK
set_option maxRecDepth 100000 in
set_option maxHeartbeats 4000000 in
theorem s_X8_accept_89 {l : Launch} {G : mG} {Q : Option Value → mH → Prop} {X : String → mH → Prop} (p0 : Nat) (p1 : Nat) (p2 : Nat) (v3 : Int32) (h : mH) {o : ((Int32 × mH) ⊕ (Int32 × mH))} (E : g_X8_accept_89 p0 p1 p2 v3 h = some o) (hK : (lpK (w_X8_accept_30 l G Q X p0 p1 p2) (fiI Q)) o) : mW l G m_X8_accept 2 0 0 89 [some (.ref p0), some (.ref p1), some (.ref p2), some (.int v3), none] [] h Q X := by
  unfold g_X8_accept_89 at E
  replace E := bnd_x E
  obtain ⟨x1, ex1, E⟩ := E
  refine r_iinc (v := x1) dX8_accept_89 rfl ex1 (by decide) (ls' := [some (.ref p0), some (.ref p1), some (.ref p2), some (.int x1), none]) rfl ?_
  refine q_goto (tgt := 30) dX8_accept_92 (by decide) ?_
  cases E
  exact r_fewer [some (.ref p0), some (.ref p1), some (.ref p2), some (.int x1), none] (ls_s (ls_s (ls_s (ls_s (ls_n ls_0))))) hK
set_option maxRecDepth 100000 in
set_option maxHeartbeats 4000000 in
theorem s_X8_accept_116 {l : Launch} {G : mG} {Q : Option Value → mH → Prop} {X : String → mH → Prop} (s0 : Int32) (h : mH) {o : Int32 × mH} (E : g_X8_accept_116 s0 h = some o) (hK : (fiI Q) o) : mW l G m_X8_accept 2 0 0 116 [none, none, none, none, none] [.int s0] h Q X := by
  unfold g_X8_accept_116 at E
  replace E := grd_some E
  obtain ⟨g1, E⟩ := E
  cases E
  exact q_zreturn dX8_accept_116 rfl (narZ g1) hK
set_option maxRecDepth 100000 in
set_option maxHeartbeats 4000000 in
theorem sb_X8_accept_30 {l : Launch} {G : mG} {Q : Option Value → mH → Prop} {X : String → mH → Prop} (p0 : Nat) (p1 : Nat) (p2 : Nat) (v3 : Int32) (h : mH) {o : ((Int32 × mH) ⊕ (Int32 × mH))} (E : b0_X8_accept_30 p0 p1 p2 v3 h = some o) (hK : (lpK (w_X8_accept_30 l G Q X p0 p1 p2) (fiI Q)) o) : mW l G m_X8_accept 2 0 0 30 [some (.ref p0), some (.ref p1), some (.ref p2), some (.int v3), none] [] h Q X := by
  unfold b0_X8_accept_30 at E
  refine q_iload_n dX8_accept_30 rfl ?_
  refine q_aload_n dX8_accept_31 rfl ?_
  replace E := grd_some E
  obtain ⟨g3, E⟩ := E
  replace E := cal_some E
  obtain ⟨x2, h1, hc, E⟩ := E
  refine r_callV0 (mc := 0) (ms := 0) dX8_accept_32 KX8_28 (c_X4_size hc) g3 (by decide) (Nat.le_of_ble_eq_true rfl) (fun _ _ q => q.elim) ?_
  rintro _ _ ⟨rfl, rfl⟩
  clear hc
  refine q_icmp_ge (tgt := 95) dX8_accept_35 (by decide) (fun z4 => ?_) (fun z4 => ?_)
  · replace E := ite_t E z4
    refine q_aload_n dX8_accept_95 rfl ?_
    replace E := grd_some E
    obtain ⟨g5, E⟩ := E
    replace E := orf_some E
    obtain ⟨a6, ea6, E⟩ := E
    refine r_getR dX8_accept_96 FX8_11 g5 ea6 ?_
    refine q_iconst dX8_accept_99 ?_
    replace E := grd_some E
    obtain ⟨g7, E⟩ := E
    replace E := grd_some E
    obtain ⟨g8, E⟩ := E
    refine r_iaload dX8_accept_100 g7 g8 ?_
    refine q_aload_n dX8_accept_101 rfl ?_
    refine r_getI dX8_accept_102 FX8_19 g5 ?_
    refine q_ishr dX8_accept_105 ?_
    refine q_iconst dX8_accept_106 ?_
    refine q_iand dX8_accept_107 ?_
    refine q_if_eq (tgt := 115) dX8_accept_108 (by decide) (fun z9 => ?_) (fun z9 => ?_)
    · replace E := ite_t E z9
      refine q_iconst dX8_accept_115 ?_
      obtain ⟨o0, E0, rfl⟩ := inrO_some E
      exact r_fewer [none, none, none, none, none] (ls_n (ls_n (ls_n (ls_n (ls_n ls_0))))) (s_X8_accept_116 (Int32.ofInt 0) h1 E0 hK)
    · replace E := ite_f E z9
      refine q_iconst dX8_accept_111 ?_
      refine q_goto (tgt := 116) dX8_accept_112 (by decide) ?_
      obtain ⟨o0, E0, rfl⟩ := inrO_some E
      exact r_fewer [none, none, none, none, none] (ls_n (ls_n (ls_n (ls_n (ls_n ls_0))))) (s_X8_accept_116 (Int32.ofInt 1) h1 E0 hK)
  · replace E := ite_f E z4
    refine q_aload_n dX8_accept_38 rfl ?_
    refine q_iload_n dX8_accept_39 rfl ?_
    replace E := grd_some E
    obtain ⟨g12, E⟩ := E
    replace E := cal_some E
    obtain ⟨x11, h10, hc, E⟩ := E
    refine r_callV1 (mc := 0) (ms := 0) dX8_accept_40 KX8_31 (c_X4_code hc) g12 (by decide) (Nat.le_of_ble_eq_true rfl) (fun _ _ q => q.elim) ?_
    rintro _ _ ⟨rfl, rfl⟩
    clear hc
    refine r_istore dX8_accept_43 (by decide) rfl (ls' := [some (.ref p0), some (.ref p1), some (.ref p2), some (.int v3), some (.int x11)]) rfl ?_
    refine q_iload dX8_accept_45 rfl ?_
    replace E := cal_some E
    obtain ⟨x14, h13, hc, E⟩ := E
    refine r_callSN1 (mc := 0) (ms := 0) dX8_accept_47 KX8_35 (c_X11_isLetter hc) (by decide) (Nat.le_of_ble_eq_true rfl) (fun _ _ q => q.elim) ?_
    rintro _ _ ⟨rfl, rfl⟩
    clear hc
    refine q_if_eq (tgt := 66) dX8_accept_50 (by decide) (fun z15 => ?_) (fun z15 => ?_)
    · replace E := ite_t E z15
      refine q_iload dX8_accept_66 rfl ?_
      replace E := cal_some E
      obtain ⟨x17, h16, hc, E⟩ := E
      refine r_callSN1 (mc := 0) (ms := 0) dX8_accept_68 KX8_43 (c_X11_isSign hc) (by decide) (Nat.le_of_ble_eq_true rfl) (fun _ _ q => q.elim) ?_
      rintro _ _ ⟨rfl, rfl⟩
      clear hc
      refine q_if_eq (tgt := 83) dX8_accept_71 (by decide) (fun z18 => ?_) (fun z18 => ?_)
      · replace E := ite_t E z18
        refine q_aload_n dX8_accept_83 rfl ?_
        refine q_iload dX8_accept_84 rfl ?_
        replace E := grd_some E
        obtain ⟨g21, E⟩ := E
        replace E := cal_some E
        obtain ⟨_, h19, hc, E⟩ := E
        refine r_callV1 (mc := 0) (ms := 0) dX8_accept_86 KX8_50 (c_X8_join hc) g21 (by decide) (Nat.le_of_ble_eq_true rfl) (fun _ _ q => q.elim) ?_
        rintro _ _ ⟨rfl, rfl⟩
        clear hc
        exact r_fewer [some (.ref p0), some (.ref p1), some (.ref p2), some (.int v3), none] (ls_s (ls_s (ls_s (ls_s (ls_n ls_0))))) (s_X8_accept_89 p0 p1 p2 v3 h19 E hK)
      · replace E := ite_f E z18
        refine q_aload_n dX8_accept_74 rfl ?_
        refine q_iload dX8_accept_75 rfl ?_
        replace E := grd_some E
        obtain ⟨g24, E⟩ := E
        replace E := cal_some E
        obtain ⟨_, h22, hc, E⟩ := E
        refine r_callV1 (mc := 0) (ms := 0) dX8_accept_77 KX8_46 (c_X8_sign hc) g24 (by decide) (Nat.le_of_ble_eq_true rfl) (fun _ _ q => q.elim) ?_
        rintro _ _ ⟨rfl, rfl⟩
        clear hc
        refine q_goto (tgt := 89) dX8_accept_80 (by decide) ?_
        exact r_fewer [some (.ref p0), some (.ref p1), some (.ref p2), some (.int v3), none] (ls_s (ls_s (ls_s (ls_s (ls_n ls_0))))) (s_X8_accept_89 p0 p1 p2 v3 h22 E hK)
    · replace E := ite_f E z15
      refine q_aload_n dX8_accept_53 rfl ?_
      refine q_iload dX8_accept_54 rfl ?_
      refine q_bipush (v := (Int32.ofInt 97)) dX8_accept_56 (by decide) ?_
      refine q_isub dX8_accept_58 ?_
      refine q_aload_n dX8_accept_59 rfl ?_
      replace E := grd_some E
      obtain ⟨g27, E⟩ := E
      replace E := cal_some E
      obtain ⟨_, h25, hc, E⟩ := E
      refine r_callV2 (mc := 0) (ms := 0) dX8_accept_60 KX8_39 (c_X8_addLetter hc) g27 (by decide) (Nat.le_of_ble_eq_true rfl) (fun _ _ q => q.elim) ?_
      rintro _ _ ⟨rfl, rfl⟩
      clear hc
      refine q_goto (tgt := 89) dX8_accept_63 (by decide) ?_
      exact r_fewer [some (.ref p0), some (.ref p1), some (.ref p2), some (.int v3), none] (ls_s (ls_s (ls_s (ls_s (ls_n ls_0))))) (s_X8_accept_89 p0 p1 p2 v3 h25 E hK)
theorem s_X8_accept_30 {l : Launch} {G : mG} {Q : Option Value → mH → Prop} {X : String → mH → Prop} (p0 : Nat) (p1 : Nat) (p2 : Nat) (v3 : Int32) (h : mH) {o : Int32 × mH} (E : g_X8_accept_30 p0 p1 p2 v3 h = some o) (hK : (fiI Q) o) : mW l G m_X8_accept 2 0 0 30 [some (.ref p0), some (.ref p1), some (.ref p2), some (.int v3), none] [] h Q X :=
  (lp_go (w_X8_accept_30 l G Q X p0 p1 p2) (fiI Q) (b_X8_accept_30 p0 p1 p2) (fun s o E hK => sb_X8_accept_30 p0 p1 p2 s.1 (s.2) E hK) _ _ _ E hK : w_X8_accept_30 l G Q X p0 p1 p2 (v3, h))
set_option maxRecDepth 100000 in
set_option maxHeartbeats 4000000 in
theorem s_X8_accept_0 {l : Launch} {G : mG} {Q : Option Value → mH → Prop} {X : String → mH → Prop} (p0 : Nat) (p1 : Nat) (q2 : Option Nat) (h : mH) {o : Int32 × mH} (E : f_X8_accept p0 p1 q2 h = some o) (hK : (fiI Q) o) : mW l G m_X8_accept 2 0 0 0 [some (.ref p0), some (.ref p1), some (va_rf q2), none, none] [] h Q X := by
  unfold f_X8_accept at E
  refine r_aload_nO dX8_accept_0 rfl ?_
  replace E := oif_some E
  rcases E with ⟨rfl, E⟩ | ⟨a1, rfl, E⟩
  · refine q_ifnullN (tgt := 13) dX8_accept_1 (by decide) ?_
    exact r_fewer [none, none, none, none, none] (ls_n (ls_n (ls_n (ls_n (ls_n ls_0))))) (s_X8_accept_13 h E hK)
  · refine q_ifnull dX8_accept_1 ?_
    refine q_aload_n dX8_accept_4 rfl ?_
    replace E := grd_some E
    obtain ⟨g4, E⟩ := E
    replace E := cal_some E
    obtain ⟨x3, h2, hc, E⟩ := E
    refine r_callV0 (mc := 0) (ms := 0) dX8_accept_5 KX8_22 (c_X10_size hc) g4 (by decide) (Nat.le_of_ble_eq_true rfl) (fun _ _ q => q.elim) ?_
    rintro _ _ ⟨rfl, rfl⟩
    clear hc
    refine q_bipush (v := (Int32.ofInt 12)) dX8_accept_8 (by decide) ?_
    refine q_icmp_le (tgt := 15) dX8_accept_10 (by decide) (fun z5 => ?_) (fun z5 => ?_)
    · replace E := ite_t E z5
      refine q_aload_n dX8_accept_15 rfl ?_
      refine q_iconst dX8_accept_16 ?_
      replace E := grd_some E
      obtain ⟨g6, E⟩ := E
      replace E := bnd_x E
      obtain ⟨h7, eh7, E⟩ := E
      refine r_putI (hh := eh7) dX8_accept_17 FX8_15 g6 rfl rfl ?_
      refine q_aload_n dX8_accept_20 rfl ?_
      refine q_aload_n dX8_accept_21 rfl ?_
      replace E := grd_some E
      obtain ⟨g10, E⟩ := E
      replace E := cal_some E
      obtain ⟨x9, h8, hc, E⟩ := E
      refine r_callV0 (mc := 0) (ms := 0) dX8_accept_22 KX8_22 (c_X10_size hc) g10 (by decide) (Nat.le_of_ble_eq_true rfl) (fun _ _ q => q.elim) ?_
      rintro _ _ ⟨rfl, rfl⟩
      clear hc
      replace E := grd_some E
      obtain ⟨g11, E⟩ := E
      replace E := bnd_x E
      obtain ⟨h12, eh12, E⟩ := E
      refine r_putI (hh := eh12) dX8_accept_25 FX8_19 g11 rfl rfl ?_
      refine q_iconst dX8_accept_28 ?_
      refine r_istore_n dX8_accept_29 (by decide) rfl (ls' := [some (.ref p0), some (.ref p1), some (.ref a1), some (.int (Int32.ofInt 0)), none]) rfl ?_
      exact r_fewer [some (.ref p0), some (.ref p1), some (.ref a1), some (.int (Int32.ofInt 0)), none] (ls_s (ls_s (ls_s (ls_s (ls_n ls_0))))) (s_X8_accept_30 p0 p1 a1 (Int32.ofInt 0) h12 E hK)
    · replace E := ite_f E z5
      exact r_fewer [none, none, none, none, none] (ls_n (ls_n (ls_n (ls_n (ls_n ls_0))))) (s_X8_accept_13 h2 E hK)
theorem c_X8_accept {l : Launch} {G : mG} {p0 : Nat} {p1 : Nat} {q2 : Option Nat} {h h' : mH} {r : Int32} (E : f_X8_accept p0 p1 q2 h = some (r, h')) : mMet l G m_X8_accept 2 0 0 [.ref p0, .ref p1, va_rf q2] h (fun v k => v = some (.int r) ∧ h' = k) (fun _ _ => False) :=
  mMet_of (by decide +kernel) rfl (ac_c rfl (ac_c rfl (ac_c (r_cat _) ac_0))) (Nat.le_of_ble_eq_true rfl) (s_X8_accept_0 p0 p1 q2 h E (And.intro rfl rfl))
set_option maxRecDepth 100000 in
set_option maxHeartbeats 4000000 in
theorem s_X9_init_0 {l : Launch} {G : mG} {Q : Option Value → mH → Prop} {X : String → mH → Prop} (p0 : Nat) (h : mH) {o : Unit × mH} (E : f_X9_init p0 h = some o) (hK : (fiV Q) o) : mW l G m_X9_init 0 2 63 0 [some (.ref p0)] [] h Q X := by
  unfold f_X9_init at E
  refine q_aload_n dX9_init_0 rfl ?_
  refine q_objInit dX9_init_1 OX9_3 objW1 objW2 (Nat.le_of_ble_eq_true rfl) ?_
  refine q_aload_n dX9_init_4 rfl ?_
  refine q_bipush (v := (Int32.ofInt 60)) dX9_init_5 (by decide) ?_
  replace E := grd_some E
  obtain ⟨g1, E⟩ := E
  replace E := bnd_x E
  obtain ⟨a2, ea2, E⟩ := E
  replace E := bnd_x E
  obtain ⟨h3, eh3, E⟩ := E
  refine r_newarray (n := 60) (t0 := 2) (hq := ea2) (hh := eh3) dX9_init_7 W_char rfl rfl (by decide) g1 (by decide) ?_
  replace E := grd_some E
  obtain ⟨g4, E⟩ := E
  replace E := bnd_x E
  obtain ⟨h5, eh5, E⟩ := E
  refine r_putR (hh := eh5) dX9_init_9 FX9_9 g4 (hf := Or.inr ⟨rfl, fun _ _ _ q => (Prod.mk.inj (Option.some.inj q)).1.symm⟩) ?_
  refine q_aload_n dX9_init_12 rfl ?_
  refine q_iconst dX9_init_13 ?_
  replace E := grd_some E
  obtain ⟨g6, E⟩ := E
  replace E := bnd_x E
  obtain ⟨a7, ea7, E⟩ := E
  replace E := bnd_x E
  obtain ⟨h8, eh8, E⟩ := E
  refine r_newarray (n := 3) (t0 := 3) (hq := ea7) (hh := eh8) dX9_init_14 W_int rfl rfl (by decide) g6 (by decide) ?_
  replace E := grd_some E
  obtain ⟨g9, E⟩ := E
  replace E := bnd_x E
  obtain ⟨h10, eh10, E⟩ := E
  refine r_putR (hh := eh10) dX9_init_16 FX9_15 g9 (hf := Or.inr ⟨rfl, fun _ _ _ q => (Prod.mk.inj (Option.some.inj q)).1.symm⟩) ?_
  refine q_aload_n dX9_init_19 rfl ?_
  refine q_iconst dX9_init_20 ?_
  replace E := grd_some E
  obtain ⟨g11, E⟩ := E
  replace E := bnd_x E
  obtain ⟨h12, eh12, E⟩ := E
  refine r_putI (hh := eh12) dX9_init_21 FX9_19 g11 rfl rfl ?_
  refine q_aload_n dX9_init_24 rfl ?_
  refine q_iconst dX9_init_25 ?_
  replace E := grd_some E
  obtain ⟨g13, E⟩ := E
  replace E := bnd_x E
  obtain ⟨h14, eh14, E⟩ := E
  refine r_putI (hh := eh14) dX9_init_26 FX9_23 g13 rfl rfl ?_
  refine q_aload_n dX9_init_29 rfl ?_
  refine q_iconst dX9_init_30 ?_
  replace E := grd_some E
  obtain ⟨g15, E⟩ := E
  replace E := bnd_x E
  obtain ⟨h16, eh16, E⟩ := E
  refine r_putI (hh := eh16) dX9_init_31 FX9_26 g15 rfl rfl ?_
  refine q_aload_n dX9_init_34 rfl ?_
  refine q_iconst dX9_init_35 ?_
  replace E := grd_some E
  obtain ⟨g17, E⟩ := E
  replace E := bnd_x E
  obtain ⟨h18, eh18, E⟩ := E
  refine r_putI (hh := eh18) dX9_init_36 FX9_29 g17 rfl rfl ?_
  refine q_aload_n dX9_init_39 rfl ?_
  refine q_iconst dX9_init_40 ?_
  replace E := grd_some E
  obtain ⟨g19, E⟩ := E
  replace E := bnd_x E
  obtain ⟨h20, eh20, E⟩ := E
  refine r_putI (hh := eh20) dX9_init_41 FX9_32 g19 rfl rfl ?_
  cases E
  exact q_return dX9_init_44 rfl hK
theorem c_X9_init {l : Launch} {G : mG} {p0 : Nat} {h h' : mH} {r : Unit} (E : f_X9_init p0 h = some (r, h')) : mMet l G m_X9_init 0 2 63 [.ref p0] h (fun v k => v = none ∧ h' = k) (fun _ _ => False) :=
  mMet_of (by decide +kernel) rfl (ac_c rfl ac_0) (Nat.le_of_ble_eq_true rfl) (s_X9_init_0 p0 h E (And.intro rfl rfl))
set_option maxRecDepth 100000 in
set_option maxHeartbeats 4000000 in
theorem s_X9_isFull_14 {l : Launch} {G : mG} {Q : Option Value → mH → Prop} {X : String → mH → Prop} (s0 : Int32) (h : mH) {o : Int32 × mH} (E : g_X9_isFull_14 s0 h = some o) (hK : (fiI Q) o) : mW l G m_X9_isFull 0 0 0 14 [none] [.int s0] h Q X := by
  unfold g_X9_isFull_14 at E
  replace E := grd_some E
  obtain ⟨g1, E⟩ := E
  cases E
  exact q_zreturn dX9_isFull_14 rfl (narZ g1) hK
set_option maxRecDepth 100000 in
set_option maxHeartbeats 4000000 in
theorem s_X9_isFull_0 {l : Launch} {G : mG} {Q : Option Value → mH → Prop} {X : String → mH → Prop} (p0 : Nat) (h : mH) {o : Int32 × mH} (E : f_X9_isFull p0 h = some o) (hK : (fiI Q) o) : mW l G m_X9_isFull 0 0 0 0 [some (.ref p0)] [] h Q X := by
  unfold f_X9_isFull at E
  refine q_aload_n dX9_isFull_0 rfl ?_
  replace E := grd_some E
  obtain ⟨g1, E⟩ := E
  refine r_getI dX9_isFull_1 FX9_19 g1 ?_
  refine q_bipush (v := (Int32.ofInt 60)) dX9_isFull_4 (by decide) ?_
  refine q_icmp_lt (tgt := 13) dX9_isFull_6 (by decide) (fun z2 => ?_) (fun z2 => ?_)
  · replace E := ite_t E z2
    refine q_iconst dX9_isFull_13 ?_
    exact r_fewer [none] (ls_n ls_0) (s_X9_isFull_14 (Int32.ofInt 0) h E hK)
  · replace E := ite_f E z2
    refine q_iconst dX9_isFull_9 ?_
    refine q_goto (tgt := 14) dX9_isFull_10 (by decide) ?_
    exact r_fewer [none] (ls_n ls_0) (s_X9_isFull_14 (Int32.ofInt 1) h E hK)
theorem c_X9_isFull {l : Launch} {G : mG} {p0 : Nat} {h h' : mH} {r : Int32} (E : f_X9_isFull p0 h = some (r, h')) : mMet l G m_X9_isFull 0 0 0 [.ref p0] h (fun v k => v = some (.int r) ∧ h' = k) (fun _ _ => False) :=
  mMet_of (by decide +kernel) rfl (ac_c rfl ac_0) (Nat.le_of_ble_eq_true rfl) (s_X9_isFull_0 p0 h E (And.intro rfl rfl))
set_option maxRecDepth 100000 in
set_option maxHeartbeats 4000000 in
theorem s_X9_add_36 {l : Launch} {G : mG} {Q : Option Value → mH → Prop} {X : String → mH → Prop} (h : mH) {o : Unit × mH} (E : g_X9_add_36  h = some o) (hK : (fiV Q) o) : mW l G m_X9_add 0 0 0 36 [none, none] [] h Q X := by
  unfold g_X9_add_36 at E
  cases E
  exact q_return dX9_add_36 rfl hK
set_option maxRecDepth 100000 in
set_option maxHeartbeats 4000000 in
theorem s_X9_add_0 {l : Launch} {G : mG} {Q : Option Value → mH → Prop} {X : String → mH → Prop} (p0 : Nat) (v1 : Int32) (h : mH) {o : Unit × mH} (E : f_X9_add p0 v1 h = some o) (hK : (fiV Q) o) : mW l G m_X9_add 0 0 0 0 [some (.ref p0), some (.int v1)] [] h Q X := by
  unfold f_X9_add at E
  refine q_aload_n dX9_add_0 rfl ?_
  replace E := grd_some E
  obtain ⟨g1, E⟩ := E
  refine r_getI dX9_add_1 FX9_19 g1 ?_
  refine q_if_lt (tgt := 36) dX9_add_4 (by decide) (fun z2 => ?_) (fun z2 => ?_)
  · replace E := ite_t E z2
    exact r_fewer [none, none] (ls_n (ls_n ls_0)) (s_X9_add_36 h E hK)
  · replace E := ite_f E z2
    refine q_aload_n dX9_add_7 rfl ?_
    refine r_getI dX9_add_8 FX9_19 g1 ?_
    refine q_bipush (v := (Int32.ofInt 60)) dX9_add_11 (by decide) ?_
    refine q_icmp_ge (tgt := 36) dX9_add_13 (by decide) (fun z3 => ?_) (fun z3 => ?_)
    · replace E := ite_t E z3
      exact r_fewer [none, none] (ls_n (ls_n ls_0)) (s_X9_add_36 h E hK)
    · replace E := ite_f E z3
      refine q_aload_n dX9_add_16 rfl ?_
      replace E := orf_some E
      obtain ⟨a4, ea4, E⟩ := E
      refine r_getR dX9_add_17 FX9_9 g1 ea4 ?_
      refine q_aload_n dX9_add_20 rfl ?_
      refine r_getI dX9_add_21 FX9_19 g1 ?_
      refine q_iload_n dX9_add_24 rfl ?_
      replace E := grd_some E
      obtain ⟨g6, E⟩ := E
      replace E := grd_some E
      obtain ⟨g7, E⟩ := E
      replace E := grd_some E
      obtain ⟨g8, E⟩ := E
      replace E := bnd_x E
      obtain ⟨h5, eh5, E⟩ := E
      refine r_castore (hh := eh5) dX9_add_25 g6 g7 g8 ?_
      refine q_aload_n dX9_add_26 rfl ?_
      refine q_dup dX9_add_27 ?_
      replace E := grd_some E
      obtain ⟨g9, E⟩ := E
      refine r_getI dX9_add_28 FX9_19 g9 ?_
      refine q_iconst dX9_add_31 ?_
      refine q_iadd dX9_add_32 ?_
      replace E := bnd_x E
      obtain ⟨h10, eh10, E⟩ := E
      refine r_putI (hh := eh10) dX9_add_33 FX9_19 g9 rfl rfl ?_
      exact r_fewer [none, none] (ls_n (ls_n ls_0)) (s_X9_add_36 h10 E hK)
theorem c_X9_add {l : Launch} {G : mG} {p0 : Nat} {v1 : Int32} {h h' : mH} {r : Unit} (E : f_X9_add p0 v1 h = some (r, h')) : mMet l G m_X9_add 0 0 0 [.ref p0, .int v1] h (fun v k => v = none ∧ h' = k) (fun _ _ => False) :=
  mMet_of (by decide +kernel) rfl (ac_c rfl (ac_c rfl ac_0)) (Nat.le_of_ble_eq_true rfl) (s_X9_add_0 p0 v1 h E (And.intro rfl rfl))
set_option maxRecDepth 100000 in
set_option maxHeartbeats 4000000 in
theorem s_X9_empty_0 {l : Launch} {G : mG} {Q : Option Value → mH → Prop} {X : String → mH → Prop} (p0 : Nat) (h : mH) {o : Unit × mH} (E : f_X9_empty p0 h = some o) (hK : (fiV Q) o) : mW l G m_X9_empty 0 0 0 0 [some (.ref p0)] [] h Q X := by
  unfold f_X9_empty at E
  refine q_aload_n dX9_empty_0 rfl ?_
  refine q_iconst dX9_empty_1 ?_
  replace E := grd_some E
  obtain ⟨g1, E⟩ := E
  replace E := bnd_x E
  obtain ⟨h2, eh2, E⟩ := E
  refine r_putI (hh := eh2) dX9_empty_2 FX9_19 g1 rfl rfl ?_
  cases E
  exact q_return dX9_empty_5 rfl hK
theorem c_X9_empty {l : Launch} {G : mG} {p0 : Nat} {h h' : mH} {r : Unit} (E : f_X9_empty p0 h = some (r, h')) : mMet l G m_X9_empty 0 0 0 [.ref p0] h (fun v k => v = none ∧ h' = k) (fun _ _ => False) :=
  mMet_of (by decide +kernel) rfl (ac_c rfl ac_0) (Nat.le_of_ble_eq_true rfl) (s_X9_empty_0 p0 h E (And.intro rfl rfl))
set_option maxRecDepth 100000 in
set_option maxHeartbeats 4000000 in
theorem s_X9_rewind_0 {l : Launch} {G : mG} {Q : Option Value → mH → Prop} {X : String → mH → Prop} (p0 : Nat) (h : mH) {o : Unit × mH} (E : f_X9_rewind p0 h = some o) (hK : (fiV Q) o) : mW l G m_X9_rewind 0 0 0 0 [some (.ref p0)] [] h Q X := by
  unfold f_X9_rewind at E
  refine q_aload_n dX9_rewind_0 rfl ?_
  refine q_iconst dX9_rewind_1 ?_
  replace E := grd_some E
  obtain ⟨g1, E⟩ := E
  replace E := bnd_x E
  obtain ⟨h2, eh2, E⟩ := E
  refine r_putI (hh := eh2) dX9_rewind_2 FX9_23 g1 rfl rfl ?_
  cases E
  exact q_return dX9_rewind_5 rfl hK
theorem c_X9_rewind {l : Launch} {G : mG} {p0 : Nat} {h h' : mH} {r : Unit} (E : f_X9_rewind p0 h = some (r, h')) : mMet l G m_X9_rewind 0 0 0 [.ref p0] h (fun v k => v = none ∧ h' = k) (fun _ _ => False) :=
  mMet_of (by decide +kernel) rfl (ac_c rfl ac_0) (Nat.le_of_ble_eq_true rfl) (s_X9_rewind_0 p0 h E (And.intro rfl rfl))
set_option maxRecDepth 100000 in
set_option maxHeartbeats 4000000 in
theorem s_X9_size_0 {l : Launch} {G : mG} {Q : Option Value → mH → Prop} {X : String → mH → Prop} (p0 : Nat) (h : mH) {o : Int32 × mH} (E : f_X9_size p0 h = some o) (hK : (fiI Q) o) : mW l G m_X9_size 0 0 0 0 [some (.ref p0)] [] h Q X := by
  unfold f_X9_size at E
  refine q_aload_n dX9_size_0 rfl ?_
  replace E := grd_some E
  obtain ⟨g1, E⟩ := E
  refine r_getI dX9_size_1 FX9_19 g1 ?_
  cases E
  exact q_ireturn dX9_size_4 rfl hK
theorem c_X9_size {l : Launch} {G : mG} {p0 : Nat} {h h' : mH} {r : Int32} (E : f_X9_size p0 h = some (r, h')) : mMet l G m_X9_size 0 0 0 [.ref p0] h (fun v k => v = some (.int r) ∧ h' = k) (fun _ _ => False) :=
  mMet_of (by decide +kernel) rfl (ac_c rfl ac_0) (Nat.le_of_ble_eq_true rfl) (s_X9_size_0 p0 h E (And.intro rfl rfl))
set_option maxRecDepth 100000 in
set_option maxHeartbeats 4000000 in
theorem s_X9_position_0 {l : Launch} {G : mG} {Q : Option Value → mH → Prop} {X : String → mH → Prop} (p0 : Nat) (h : mH) {o : Int32 × mH} (E : f_X9_position p0 h = some o) (hK : (fiI Q) o) : mW l G m_X9_position 0 0 0 0 [some (.ref p0)] [] h Q X := by
  unfold f_X9_position at E
  refine q_aload_n dX9_position_0 rfl ?_
  replace E := grd_some E
  obtain ⟨g1, E⟩ := E
  refine r_getI dX9_position_1 FX9_23 g1 ?_
  cases E
  exact q_ireturn dX9_position_4 rfl hK
theorem c_X9_position {l : Launch} {G : mG} {p0 : Nat} {h h' : mH} {r : Int32} (E : f_X9_position p0 h = some (r, h')) : mMet l G m_X9_position 0 0 0 [.ref p0] h (fun v k => v = some (.int r) ∧ h' = k) (fun _ _ => False) :=
  mMet_of (by decide +kernel) rfl (ac_c rfl ac_0) (Nat.le_of_ble_eq_true rfl) (s_X9_position_0 p0 h E (And.intro rfl rfl))
set_option maxRecDepth 100000 in
set_option maxHeartbeats 4000000 in
theorem s_X9_keyword_0 {l : Launch} {G : mG} {Q : Option Value → mH → Prop} {X : String → mH → Prop} (p0 : Nat) (h : mH) {o : Int32 × mH} (E : f_X9_keyword p0 h = some o) (hK : (fiI Q) o) : mW l G m_X9_keyword 0 0 0 0 [some (.ref p0)] [] h Q X := by
  unfold f_X9_keyword at E
  refine q_aload_n dX9_keyword_0 rfl ?_
  replace E := grd_some E
  obtain ⟨g1, E⟩ := E
  refine r_getI dX9_keyword_1 FX9_26 g1 ?_
  cases E
  exact q_ireturn dX9_keyword_4 rfl hK
theorem c_X9_keyword {l : Launch} {G : mG} {p0 : Nat} {h h' : mH} {r : Int32} (E : f_X9_keyword p0 h = some (r, h')) : mMet l G m_X9_keyword 0 0 0 [.ref p0] h (fun v k => v = some (.int r) ∧ h' = k) (fun _ _ => False) :=
  mMet_of (by decide +kernel) rfl (ac_c rfl ac_0) (Nat.le_of_ble_eq_true rfl) (s_X9_keyword_0 p0 h E (And.intro rfl rfl))
set_option maxRecDepth 100000 in
set_option maxHeartbeats 4000000 in
theorem s_X9_digit_23 {l : Launch} {G : mG} {Q : Option Value → mH → Prop} {X : String → mH → Prop} (s0 : Int32) (h : mH) {o : Int32 × mH} (E : g_X9_digit_23 s0 h = some o) (hK : (fiI Q) o) : mW l G m_X9_digit 0 0 0 23 [none, none] [.int s0] h Q X := by
  unfold g_X9_digit_23 at E
  cases E
  exact q_ireturn dX9_digit_23 rfl hK
set_option maxRecDepth 100000 in
set_option maxHeartbeats 4000000 in
theorem s_X9_digit_13 {l : Launch} {G : mG} {Q : Option Value → mH → Prop} {X : String → mH → Prop} (h : mH) {o : Int32 × mH} (E : g_X9_digit_13  h = some o) (hK : (fiI Q) o) : mW l G m_X9_digit 0 0 0 13 [none, none] [] h Q X := by
  unfold g_X9_digit_13 at E
  refine q_iconst dX9_digit_13 ?_
  refine q_goto (tgt := 23) dX9_digit_14 (by decide) ?_
  exact r_fewer [none, none] (ls_n (ls_n ls_0)) (s_X9_digit_23 (Int32.ofInt (-1)) h E hK)
set_option maxRecDepth 100000 in
set_option maxHeartbeats 4000000 in
theorem s_X9_digit_0 {l : Launch} {G : mG} {Q : Option Value → mH → Prop} {X : String → mH → Prop} (p0 : Nat) (v1 : Int32) (h : mH) {o : Int32 × mH} (E : f_X9_digit p0 v1 h = some o) (hK : (fiI Q) o) : mW l G m_X9_digit 0 0 0 0 [some (.ref p0), some (.int v1)] [] h Q X := by
  unfold f_X9_digit at E
  refine q_iload_n dX9_digit_0 rfl ?_
  refine q_if_lt (tgt := 13) dX9_digit_1 (by decide) (fun z1 => ?_) (fun z1 => ?_)
  · replace E := ite_t E z1
    exact r_fewer [none, none] (ls_n (ls_n ls_0)) (s_X9_digit_13 h E hK)
  · replace E := ite_f E z1
    refine q_iload_n dX9_digit_4 rfl ?_
    refine q_aload_n dX9_digit_5 rfl ?_
    replace E := grd_some E
    obtain ⟨g2, E⟩ := E
    replace E := orf_some E
    obtain ⟨a3, ea3, E⟩ := E
    refine r_getR dX9_digit_6 FX9_15 g2 ea3 ?_
    replace E := grd_some E
    obtain ⟨g4, E⟩ := E
    refine r_alen (t0 := 3) dX9_digit_9 rfl g4 ?_
    refine q_icmp_lt (tgt := 17) dX9_digit_10 (by decide) (fun z5 => ?_) (fun z5 => ?_)
    · replace E := ite_t E z5
      refine q_aload_n dX9_digit_17 rfl ?_
      refine r_getR dX9_digit_18 FX9_15 g2 ea3 ?_
      refine q_iload_n dX9_digit_21 rfl ?_
      replace E := grd_some E
      obtain ⟨g7, E⟩ := E
      refine r_iaload dX9_digit_22 g4 g7 ?_
      exact r_fewer [none, none] (ls_n (ls_n ls_0)) (s_X9_digit_23 (gi h a3 v1.toNatClampNeg) h E hK)
    · replace E := ite_f E z5
      exact r_fewer [none, none] (ls_n (ls_n ls_0)) (s_X9_digit_13 h E hK)
theorem c_X9_digit {l : Launch} {G : mG} {p0 : Nat} {v1 : Int32} {h h' : mH} {r : Int32} (E : f_X9_digit p0 v1 h = some (r, h')) : mMet l G m_X9_digit 0 0 0 [.ref p0, .int v1] h (fun v k => v = some (.int r) ∧ h' = k) (fun _ _ => False) :=
  mMet_of (by decide +kernel) rfl (ac_c rfl (ac_c rfl ac_0)) (Nat.le_of_ble_eq_true rfl) (s_X9_digit_0 p0 v1 h E (And.intro rfl rfl))
set_option maxRecDepth 100000 in
set_option maxHeartbeats 4000000 in
theorem s_X10_init_0 {l : Launch} {G : mG} {Q : Option Value → mH → Prop} {X : String → mH → Prop} (p0 : Nat) (p1 : Nat) (h : mH) {o : Unit × mH} (E : f_X10_init p0 p1 h = some o) (hK : (fiV Q) o) : mW l G m_X10_init 0 0 0 0 [some (.ref p0), some (.ref p1)] [] h Q X := by
  unfold f_X10_init at E
  refine q_aload_n dX10_init_0 rfl ?_
  refine q_objInit dX10_init_1 OX10_1 objW1 objW2 (Nat.le_of_ble_eq_true rfl) ?_
  refine q_aload_n dX10_init_4 rfl ?_
  refine q_aload_n dX10_init_5 rfl ?_
  replace E := grd_some E
  obtain ⟨g1, E⟩ := E
  replace E := bnd_x E
  obtain ⟨h2, eh2, E⟩ := E
  refine r_putR (hh := eh2) dX10_init_6 FX10_7 g1 (hf := Or.inr ⟨rfl, fun _ _ _ q => (Prod.mk.inj (Option.some.inj q)).1.symm⟩) ?_
  cases E
  exact q_return dX10_init_9 rfl hK
theorem c_X10_init {l : Launch} {G : mG} {p0 : Nat} {p1 : Nat} {h h' : mH} {r : Unit} (E : f_X10_init p0 p1 h = some (r, h')) : mMet l G m_X10_init 0 0 0 [.ref p0, .ref p1] h (fun v k => v = none ∧ h' = k) (fun _ _ => False) :=
  mMet_of (by decide +kernel) rfl (ac_c rfl (ac_c rfl ac_0)) (Nat.le_of_ble_eq_true rfl) (s_X10_init_0 p0 p1 h E (And.intro rfl rfl))
set_option maxRecDepth 100000 in
set_option maxHeartbeats 4000000 in
theorem s_X9_wordBetween_16 {l : Launch} {G : mG} {Q : Option Value → mH → Prop} {X : String → mH → Prop} (h : mH) {o : Option Nat × mH} (E : g_X9_wordBetween_16  h = some o) (hK : (fiR Q) o) : mW l G m_X9_wordBetween 1 0 0 16 [none, none, none, none, none, none, none, none] [] h Q X := by
  unfold g_X9_wordBetween_16 at E
  refine q_null dX9_wordBetween_16 ?_
  cases E
  exact q_areturn (v := none) dX9_wordBetween_17 rfl (by first | exact Or.inl ⟨_, rfl⟩ | exact Or.inr ⟨_, rfl⟩) hK
set_option maxRecDepth 100000 in
set_option maxHeartbeats 4000000 in
theorem sb_X9_wordBetween_27 {l : Launch} {G : mG} {Q : Option Value → mH → Prop} {X : String → mH → Prop} (p0 : Nat) (v1 : Int32) (v4 : Int32) (p5 : Nat) (v6 : Int32) (h : mH) {o : ((Int32 × mH) ⊕ (Option Nat × mH))} (E : b0_X9_wordBetween_27 p0 v1 v4 p5 v6 h = some o) (hK : (lpK (w_X9_wordBetween_27 l G Q X p0 v1 v4 p5) (fiR Q)) o) : mW l G m_X9_wordBetween 1 1 1 27 [some (.ref p0), some (.int v1), none, none, some (.int v4), some (.ref p5), some (.int v6), none] [] h Q X := by
  unfold b0_X9_wordBetween_27 at E
  refine q_iload dX9_wordBetween_27 rfl ?_
  refine q_iload dX9_wordBetween_29 rfl ?_
  refine q_icmp_ge (tgt := 70) dX9_wordBetween_31 (by decide) (fun z1 => ?_) (fun z1 => ?_)
  · replace E := ite_t E z1
    replace E := bnd_x E
    obtain ⟨a2, ea2, E⟩ := E
    replace E := bnd_x E
    obtain ⟨h3, eh3, E⟩ := E
    refine r_new (hq := ea2) (hh := eh3) dX9_wordBetween_70 CX9_43 ?_
    refine q_dup dX9_wordBetween_73 ?_
    refine q_aload dX9_wordBetween_74 rfl ?_
    replace E := cal_some E
    obtain ⟨_, h4, hc, E⟩ := E
    refine r_callI1 (mc := 0) (ms := 0) dX9_wordBetween_76 KX9_45 (c_X10_init hc) (by decide) (Nat.le_of_ble_eq_true rfl) (fun _ _ q => q.elim) ?_
    rintro _ _ ⟨rfl, rfl⟩
    clear hc
    cases E
    exact q_areturn (v := (some a2)) dX9_wordBetween_79 rfl (by first | exact Or.inl ⟨_, rfl⟩ | exact Or.inr ⟨_, rfl⟩) hK
  · replace E := ite_f E z1
    refine q_aload_n dX9_wordBetween_34 rfl ?_
    refine q_iload_n dX9_wordBetween_35 rfl ?_
    refine q_iload dX9_wordBetween_36 rfl ?_
    refine q_iadd dX9_wordBetween_38 ?_
    replace E := grd_some E
    obtain ⟨g8, E⟩ := E
    replace E := cal_some E
    obtain ⟨x7, h6, hc, E⟩ := E
    refine r_callV1 (mc := 1) (ms := 1) dX9_wordBetween_39 KX9_35 (c_X9_character hc) g8 (by decide) (Nat.le_of_ble_eq_true rfl) (fun _ _ q => q.elim) ?_
    rintro _ _ ⟨rfl, rfl⟩
    clear hc
    refine r_istore dX9_wordBetween_42 (by decide) rfl (ls' := [some (.ref p0), some (.int v1), none, none, some (.int v4), some (.ref p5), some (.int v6), some (.int x7)]) rfl ?_
    refine q_iload dX9_wordBetween_44 rfl ?_
    replace E := cal_some E
    obtain ⟨x10, h9, hc, E⟩ := E
    refine r_callSN1 (mc := 1) (ms := 1) dX9_wordBetween_46 KX9_39 (c_X11_isLetter hc) (by decide) (Nat.le_of_ble_eq_true rfl) (fun _ _ q => q.elim) ?_
    rintro _ _ ⟨rfl, rfl⟩
    clear hc
    refine q_if_ne (tgt := 54) dX9_wordBetween_49 (by decide) (fun z11 => ?_) (fun z11 => ?_)
    · replace E := ite_f E z11
      refine q_aload dX9_wordBetween_54 rfl ?_
      refine q_iload dX9_wordBetween_56 rfl ?_
      refine q_iload dX9_wordBetween_58 rfl ?_
      refine q_bipush (v := (Int32.ofInt 97)) dX9_wordBetween_60 (by decide) ?_
      refine q_isub dX9_wordBetween_62 ?_
      replace E := grd_some E
      obtain ⟨g13, E⟩ := E
      replace E := grd_some E
      obtain ⟨g14, E⟩ := E
      replace E := bnd_x E
      obtain ⟨h12, eh12, E⟩ := E
      refine r_iastore (hh := eh12) dX9_wordBetween_63 g13 g14 ?_
      replace E := bnd_x E
      obtain ⟨x15, ex15, E⟩ := E
      refine r_iinc (v := x15) dX9_wordBetween_64 rfl ex15 (by decide) (ls' := [some (.ref p0), some (.int v1), none, none, some (.int v4), some (.ref p5), some (.int x15), some (.int x7)]) rfl ?_
      refine q_goto (tgt := 27) dX9_wordBetween_67 (by decide) ?_
      cases E
      exact r_fewer [some (.ref p0), some (.int v1), none, none, some (.int v4), some (.ref p5), some (.int x15), none] (ls_s (ls_s (ls_n (ls_n (ls_s (ls_s (ls_s (ls_n ls_0)))))))) hK
    · replace E := ite_t E z11
      refine q_null dX9_wordBetween_52 ?_
      cases E
      exact q_areturn (v := none) dX9_wordBetween_53 rfl (by first | exact Or.inl ⟨_, rfl⟩ | exact Or.inr ⟨_, rfl⟩) hK
theorem s_X9_wordBetween_27 {l : Launch} {G : mG} {Q : Option Value → mH → Prop} {X : String → mH → Prop} (p0 : Nat) (v1 : Int32) (v4 : Int32) (p5 : Nat) (v6 : Int32) (h : mH) {o : Option Nat × mH} (E : g_X9_wordBetween_27 p0 v1 v4 p5 v6 h = some o) (hK : (fiR Q) o) : mW l G m_X9_wordBetween 1 1 1 27 [some (.ref p0), some (.int v1), none, none, some (.int v4), some (.ref p5), some (.int v6), none] [] h Q X :=
  (lp_go (w_X9_wordBetween_27 l G Q X p0 v1 v4 p5) (fiR Q) (b_X9_wordBetween_27 p0 v1 v4 p5) (fun s o E hK => sb_X9_wordBetween_27 p0 v1 v4 p5 s.1 (s.2) E hK) _ _ _ E hK : w_X9_wordBetween_27 l G Q X p0 v1 v4 p5 (v6, h))
set_option maxRecDepth 100000 in
set_option maxHeartbeats 4000000 in
theorem s_X9_wordBetween_0 {l : Launch} {G : mG} {Q : Option Value → mH → Prop} {X : String → mH → Prop} (p0 : Nat) (v1 : Int32) (v2 : Int32) (v3 : Int32) (h : mH) {o : Option Nat × mH} (E : f_X9_wordBetween p0 v1 v2 v3 h = some o) (hK : (fiR Q) o) : mW l G m_X9_wordBetween 1 2 256 0 [some (.ref p0), some (.int v1), some (.int v2), some (.int v3), none, none, none, none] [] h Q X := by
  unfold f_X9_wordBetween at E
  refine q_iload_n dX9_wordBetween_0 rfl ?_
  refine q_iload_n dX9_wordBetween_1 rfl ?_
  refine q_isub dX9_wordBetween_2 ?_
  replace E := bnd_x E
  obtain ⟨x1, ex1, E⟩ := E
  refine r_istore dX9_wordBetween_3 (by decide) ex1 (ls' := [some (.ref p0), some (.int v1), some (.int v2), some (.int v3), some (.int x1), none, none, none]) rfl ?_
  refine q_iload dX9_wordBetween_5 rfl ?_
  refine q_if_lt (tgt := 16) dX9_wordBetween_7 (by decide) (fun z2 => ?_) (fun z2 => ?_)
  · replace E := ite_t E z2
    refine q_room (d' := 1) (mc' := 0) (ms' := 0) (Nat.le_refl _) (Nat.le_of_ble_eq_true rfl) (Nat.le_of_ble_eq_true rfl) ?_
    exact r_fewer [none, none, none, none, none, none, none, none] (ls_n (ls_n (ls_n (ls_n (ls_n (ls_n (ls_n (ls_n ls_0)))))))) (s_X9_wordBetween_16 h E hK)
  · replace E := ite_f E z2
    refine q_iload dX9_wordBetween_10 rfl ?_
    refine q_iload_n dX9_wordBetween_12 rfl ?_
    refine q_icmp_le (tgt := 18) dX9_wordBetween_13 (by decide) (fun z3 => ?_) (fun z3 => ?_)
    · replace E := ite_t E z3
      refine q_iload dX9_wordBetween_18 rfl ?_
      replace E := grd_some E
      obtain ⟨g4, E⟩ := E
      replace E := bnd_x E
      obtain ⟨a5, ea5, E⟩ := E
      replace E := bnd_x E
      obtain ⟨h6, eh6, E⟩ := E
      refine r_newarray (n := 255) (t0 := 3) (hq := ea5) (hh := eh6) dX9_wordBetween_20 W_int rfl rfl (by decide) g4 (by decide) ?_
      refine r_astore dX9_wordBetween_22 (by decide) (ls' := [some (.ref p0), some (.int v1), some (.int v2), some (.int v3), some (.int x1), some (.ref a5), none, none]) rfl ?_
      refine q_iconst dX9_wordBetween_24 ?_
      refine r_istore dX9_wordBetween_25 (by decide) rfl (ls' := [some (.ref p0), some (.int v1), some (.int v2), some (.int v3), some (.int x1), some (.ref a5), some (.int (Int32.ofInt 0)), none]) rfl ?_
      exact r_fewer [some (.ref p0), some (.int v1), none, none, some (.int x1), some (.ref a5), some (.int (Int32.ofInt 0)), none] (ls_s (ls_s (ls_n (ls_n (ls_s (ls_s (ls_s (ls_n ls_0)))))))) (s_X9_wordBetween_27 p0 v1 x1 a5 (Int32.ofInt 0) h6 E hK)
    · replace E := ite_f E z3
      refine q_room (d' := 1) (mc' := 0) (ms' := 0) (Nat.le_refl _) (Nat.le_of_ble_eq_true rfl) (Nat.le_of_ble_eq_true rfl) ?_
      exact r_fewer [none, none, none, none, none, none, none, none] (ls_n (ls_n (ls_n (ls_n (ls_n (ls_n (ls_n (ls_n ls_0)))))))) (s_X9_wordBetween_16 h E hK)
theorem c_X9_wordBetween {l : Launch} {G : mG} {p0 : Nat} {v1 : Int32} {v2 : Int32} {v3 : Int32} {h h' : mH} {r : Option Nat} (E : f_X9_wordBetween p0 v1 v2 v3 h = some (r, h')) : mMet l G m_X9_wordBetween 1 2 256 [.ref p0, .int v1, .int v2, .int v3] h (fun v k => v = some (va_rf r) ∧ h' = k) (fun _ _ => False) :=
  mMet_of (by decide +kernel) rfl (ac_c rfl (ac_c rfl (ac_c rfl (ac_c rfl ac_0)))) (Nat.le_of_ble_eq_true rfl) (s_X9_wordBetween_0 p0 v1 v2 v3 h E (And.intro rfl rfl))
set_option maxRecDepth 100000 in
set_option maxHeartbeats 4000000 in
theorem s_X9_canFollow_13 {l : Launch} {G : mG} {Q : Option Value → mH → Prop} {X : String → mH → Prop} (h : mH) {o : Int32 × mH} (E : g_X9_canFollow_13  h = some o) (hK : (fiI Q) o) : mW l G m_X9_canFollow 2 0 0 13 [none, none, none] [] h Q X := by
  unfold g_X9_canFollow_13 at E
  refine q_iconst dX9_canFollow_13 ?_
  cases E
  exact q_zreturn dX9_canFollow_14 rfl (by decide) hK
set_option maxRecDepth 100000 in
set_option maxHeartbeats 4000000 in
theorem s_X9_canFollow_40 {l : Launch} {G : mG} {Q : Option Value → mH → Prop} {X : String → mH → Prop} (s0 : Int32) (h : mH) {o : Int32 × mH} (E : g_X9_canFollow_40 s0 h = some o) (hK : (fiI Q) o) : mW l G m_X9_canFollow 2 0 0 40 [none, none, none] [.int s0] h Q X := by
  unfold g_X9_canFollow_40 at E
  replace E := grd_some E
  obtain ⟨g1, E⟩ := E
  cases E
  exact q_zreturn dX9_canFollow_40 rfl (narZ g1) hK
set_option maxRecDepth 100000 in
set_option maxHeartbeats 4000000 in
theorem s_X9_canFollow_35 {l : Launch} {G : mG} {Q : Option Value → mH → Prop} {X : String → mH → Prop} (h : mH) {o : Int32 × mH} (E : g_X9_canFollow_35  h = some o) (hK : (fiI Q) o) : mW l G m_X9_canFollow 2 0 0 35 [none, none, none] [] h Q X := by
  unfold g_X9_canFollow_35 at E
  refine q_iconst dX9_canFollow_35 ?_
  refine q_goto (tgt := 40) dX9_canFollow_36 (by decide) ?_
  exact r_fewer [none, none, none] (ls_n (ls_n (ls_n ls_0))) (s_X9_canFollow_40 (Int32.ofInt 1) h E hK)
set_option maxRecDepth 100000 in
set_option maxHeartbeats 4000000 in
theorem s_X9_canFollow_69 {l : Launch} {G : mG} {Q : Option Value → mH → Prop} {X : String → mH → Prop} (s0 : Int32) (h : mH) {o : Int32 × mH} (E : g_X9_canFollow_69 s0 h = some o) (hK : (fiI Q) o) : mW l G m_X9_canFollow 2 0 0 69 [none, none, none] [.int s0] h Q X := by
  unfold g_X9_canFollow_69 at E
  replace E := grd_some E
  obtain ⟨g1, E⟩ := E
  cases E
  exact q_zreturn dX9_canFollow_69 rfl (narZ g1) hK
set_option maxRecDepth 100000 in
set_option maxHeartbeats 4000000 in
theorem s_X9_canFollow_64 {l : Launch} {G : mG} {Q : Option Value → mH → Prop} {X : String → mH → Prop} (h : mH) {o : Int32 × mH} (E : g_X9_canFollow_64  h = some o) (hK : (fiI Q) o) : mW l G m_X9_canFollow 2 0 0 64 [none, none, none] [] h Q X := by
  unfold g_X9_canFollow_64 at E
  refine q_iconst dX9_canFollow_64 ?_
  refine q_goto (tgt := 69) dX9_canFollow_65 (by decide) ?_
  exact r_fewer [none, none, none] (ls_n (ls_n (ls_n ls_0))) (s_X9_canFollow_69 (Int32.ofInt 1) h E hK)
set_option maxRecDepth 100000 in
set_option maxHeartbeats 4000000 in
theorem s_X9_canFollow_68 {l : Launch} {G : mG} {Q : Option Value → mH → Prop} {X : String → mH → Prop} (h : mH) {o : Int32 × mH} (E : g_X9_canFollow_68  h = some o) (hK : (fiI Q) o) : mW l G m_X9_canFollow 2 0 0 68 [none, none, none] [] h Q X := by
  unfold g_X9_canFollow_68 at E
  refine q_iconst dX9_canFollow_68 ?_
  exact r_fewer [none, none, none] (ls_n (ls_n (ls_n ls_0))) (s_X9_canFollow_69 (Int32.ofInt 0) h E hK)
set_option maxRecDepth 100000 in
set_option maxHeartbeats 4000000 in
theorem s_X9_canFollow_0 {l : Launch} {G : mG} {Q : Option Value → mH → Prop} {X : String → mH → Prop} (v0 : Int32) (v1 : Int32) (v2 : Int32) (h : mH) {o : Int32 × mH} (E : f_X9_canFollow v0 v1 v2 h = some o) (hK : (fiI Q) o) : mW l G m_X9_canFollow 2 0 0 0 [some (.int v0), some (.int v1), some (.int v2)] [] h Q X := by
  unfold f_X9_canFollow at E
  refine q_iload_n dX9_canFollow_0 rfl ?_
  replace E := cal_some E
  obtain ⟨x2, h1, hc, E⟩ := E
  refine r_callSN1 (mc := 0) (ms := 0) dX9_canFollow_1 KX9_39 (c_X11_isLetter hc) (by decide) (Nat.le_of_ble_eq_true rfl) (fun _ _ q => q.elim) ?_
  rintro _ _ ⟨rfl, rfl⟩
  clear hc
  refine q_if_ne (tgt := 13) dX9_canFollow_4 (by decide) (fun z3 => ?_) (fun z3 => ?_)
  · replace E := ite_f E z3
    exact r_fewer [none, none, none] (ls_n (ls_n (ls_n ls_0))) (s_X9_canFollow_13 h1 E hK)
  · replace E := ite_t E z3
    refine q_iload_n dX9_canFollow_7 rfl ?_
    refine q_bipush (v := (Int32.ofInt 40)) dX9_canFollow_8 (by decide) ?_
    refine q_icmp_ne (tgt := 15) dX9_canFollow_10 (by decide) (fun z4 => ?_) (fun z4 => ?_)
    · replace E := ite_f E z4
      refine q_iload_n dX9_canFollow_15 rfl ?_
      replace E := cal_some E
      obtain ⟨x6, h5, hc, E⟩ := E
      refine r_callSN1 (mc := 0) (ms := 0) dX9_canFollow_16 KX9_115 (c_X11_isSign hc) (by decide) (Nat.le_of_ble_eq_true rfl) (fun _ _ q => q.elim) ?_
      rintro _ _ ⟨rfl, rfl⟩
      clear hc
      refine q_if_eq (tgt := 41) dX9_canFollow_19 (by decide) (fun z7 => ?_) (fun z7 => ?_)
      · replace E := ite_t E z7
        refine q_iload_n dX9_canFollow_41 rfl ?_
        replace E := cal_some E
        obtain ⟨x9, h8, hc, E⟩ := E
        refine r_callS1 (mc := 0) (ms := 0) dX9_canFollow_42 KX9_112 (c_X9_endsFactor hc) (by decide) (Nat.le_of_ble_eq_true rfl) (fun _ _ q => q.elim) ?_
        rintro _ _ ⟨rfl, rfl⟩
        clear hc
        refine q_if_eq (tgt := 68) dX9_canFollow_45 (by decide) (fun z10 => ?_) (fun z10 => ?_)
        · replace E := ite_t E z10
          exact r_fewer [none, none, none] (ls_n (ls_n (ls_n ls_0))) (s_X9_canFollow_68 h8 E hK)
        · replace E := ite_f E z10
          refine q_iload_n dX9_canFollow_48 rfl ?_
          refine q_bipush (v := (Int32.ofInt 124)) dX9_canFollow_49 (by decide) ?_
          refine q_icmp_eq (tgt := 64) dX9_canFollow_51 (by decide) (fun z11 => ?_) (fun z11 => ?_)
          · replace E := ite_t E z11
            exact r_fewer [none, none, none] (ls_n (ls_n (ls_n ls_0))) (s_X9_canFollow_64 h8 E hK)
          · replace E := ite_f E z11
            refine q_iload_n dX9_canFollow_54 rfl ?_
            refine q_bipush (v := (Int32.ofInt 41)) dX9_canFollow_55 (by decide) ?_
            refine q_icmp_ne (tgt := 68) dX9_canFollow_57 (by decide) (fun z12 => ?_) (fun z12 => ?_)
            · replace E := ite_f E z12
              exact r_fewer [none, none, none] (ls_n (ls_n (ls_n ls_0))) (s_X9_canFollow_68 h8 E hK)
            · replace E := ite_t E z12
              refine q_iload_n dX9_canFollow_60 rfl ?_
              refine q_if_le (tgt := 68) dX9_canFollow_61 (by decide) (fun z13 => ?_) (fun z13 => ?_)
              · replace E := ite_t E z13
                exact r_fewer [none, none, none] (ls_n (ls_n (ls_n ls_0))) (s_X9_canFollow_68 h8 E hK)
              · replace E := ite_f E z13
                exact r_fewer [none, none, none] (ls_n (ls_n (ls_n ls_0))) (s_X9_canFollow_64 h8 E hK)
      · replace E := ite_f E z7
        refine q_iload_n dX9_canFollow_22 rfl ?_
        replace E := cal_some E
        obtain ⟨x15, h14, hc, E⟩ := E
        refine r_callSN1 (mc := 0) (ms := 0) dX9_canFollow_23 KX9_39 (c_X11_isLetter hc) (by decide) (Nat.le_of_ble_eq_true rfl) (fun _ _ q => q.elim) ?_
        rintro _ _ ⟨rfl, rfl⟩
        clear hc
        refine q_if_ne (tgt := 35) dX9_canFollow_26 (by decide) (fun z16 => ?_) (fun z16 => ?_)
        · replace E := ite_f E z16
          exact r_fewer [none, none, none] (ls_n (ls_n (ls_n ls_0))) (s_X9_canFollow_35 h14 E hK)
        · replace E := ite_t E z16
          refine q_iload_n dX9_canFollow_29 rfl ?_
          refine q_bipush (v := (Int32.ofInt 41)) dX9_canFollow_30 (by decide) ?_
          refine q_icmp_ne (tgt := 39) dX9_canFollow_32 (by decide) (fun z17 => ?_) (fun z17 => ?_)
          · replace E := ite_f E z17
            refine q_iconst dX9_canFollow_39 ?_
            exact r_fewer [none, none, none] (ls_n (ls_n (ls_n ls_0))) (s_X9_canFollow_40 (Int32.ofInt 0) h14 E hK)
          · replace E := ite_t E z17
            exact r_fewer [none, none, none] (ls_n (ls_n (ls_n ls_0))) (s_X9_canFollow_35 h14 E hK)
    · replace E := ite_t E z4
      exact r_fewer [none, none, none] (ls_n (ls_n (ls_n ls_0))) (s_X9_canFollow_13 h1 E hK)
theorem c_X9_canFollow {l : Launch} {G : mG} {v0 : Int32} {v1 : Int32} {v2 : Int32} {h h' : mH} {r : Int32} (E : f_X9_canFollow v0 v1 v2 h = some (r, h')) : mMet l G m_X9_canFollow 2 0 0 [.int v0, .int v1, .int v2] h (fun v k => v = some (.int r) ∧ h' = k) (fun _ _ => False) :=
  mMet_of (by decide +kernel) rfl (ac_c rfl (ac_c rfl (ac_c rfl ac_0))) (Nat.le_of_ble_eq_true rfl) (s_X9_canFollow_0 v0 v1 v2 h E (And.intro rfl rfl))
set_option maxRecDepth 100000 in
set_option maxHeartbeats 4000000 in
theorem s_X9_readPattern_70 {l : Launch} {G : mG} {Q : Option Value → mH → Prop} {X : String → mH → Prop} (p0 : Nat) (v1 : Int32) (v2 : Int32) (h : mH) {o : ((Int32 × Int32 × mH) ⊕ (Int32 × mH))} (E : g_X9_readPattern_70 p0 v1 v2 h = some o) (hK : (lpK (w_X9_readPattern_13 l G Q X p0) (fiI Q)) o) : mW l G m_X9_readPattern 3 0 0 70 [some (.ref p0), some (.int v1), some (.int v2)] [] h Q X := by
  unfold g_X9_readPattern_70 at E
  refine q_aload_n dX9_readPattern_70 rfl ?_
  refine q_dup dX9_readPattern_71 ?_
  replace E := grd_some E
  obtain ⟨g1, E⟩ := E
  refine r_getI dX9_readPattern_72 FX9_23 g1 ?_
  refine q_iconst dX9_readPattern_75 ?_
  refine q_iadd dX9_readPattern_76 ?_
  replace E := bnd_x E
  obtain ⟨h2, eh2, E⟩ := E
  refine r_putI (hh := eh2) dX9_readPattern_77 FX9_23 g1 rfl rfl ?_
  refine q_goto (tgt := 13) dX9_readPattern_80 (by decide) ?_
  cases E
  exact r_fewer [some (.ref p0), some (.int v1), some (.int v2)] (ls_s (ls_s (ls_s ls_0))) hK
set_option maxRecDepth 100000 in
set_option maxHeartbeats 4000000 in
theorem s_X9_readPattern_107 {l : Launch} {G : mG} {Q : Option Value → mH → Prop} {X : String → mH → Prop} (s0 : Int32) (h : mH) {o : Int32 × mH} (E : g_X9_readPattern_107 s0 h = some o) (hK : (fiI Q) o) : mW l G m_X9_readPattern 3 0 0 107 [none, none, none] [.int s0] h Q X := by
  unfold g_X9_readPattern_107 at E
  replace E := grd_some E
  obtain ⟨g1, E⟩ := E
  cases E
  exact q_zreturn dX9_readPattern_107 rfl (narZ g1) hK
set_option maxRecDepth 100000 in
set_option maxHeartbeats 4000000 in
theorem s_X9_readPattern_106 {l : Launch} {G : mG} {Q : Option Value → mH → Prop} {X : String → mH → Prop} (h : mH) {o : Int32 × mH} (E : g_X9_readPattern_106  h = some o) (hK : (fiI Q) o) : mW l G m_X9_readPattern 3 0 0 106 [none, none, none] [] h Q X := by
  unfold g_X9_readPattern_106 at E
  refine q_iconst dX9_readPattern_106 ?_
  exact r_fewer [none, none, none] (ls_n (ls_n (ls_n ls_0))) (s_X9_readPattern_107 (Int32.ofInt 0) h E hK)
set_option maxRecDepth 100000 in
set_option maxHeartbeats 4000000 in
theorem s_X9_readPattern_83 {l : Launch} {G : mG} {Q : Option Value → mH → Prop} {X : String → mH → Prop} (p0 : Nat) (v1 : Int32) (v2 : Int32) (h : mH) {o : Int32 × mH} (E : g_X9_readPattern_83 p0 v1 v2 h = some o) (hK : (fiI Q) o) : mW l G m_X9_readPattern 3 0 0 83 [some (.ref p0), some (.int v1), some (.int v2)] [] h Q X := by
  unfold g_X9_readPattern_83 at E
  refine q_aload_n dX9_readPattern_83 rfl ?_
  refine q_aload_n dX9_readPattern_84 rfl ?_
  replace E := grd_some E
  obtain ⟨g1, E⟩ := E
  refine r_getI dX9_readPattern_85 FX9_23 g1 ?_
  replace E := bnd_x E
  obtain ⟨h2, eh2, E⟩ := E
  refine r_putI (hh := eh2) dX9_readPattern_88 FX9_32 g1 rfl rfl ?_
  refine q_iload_n dX9_readPattern_91 rfl ?_
  refine q_if_ne (tgt := 106) dX9_readPattern_92 (by decide) (fun z3 => ?_) (fun z3 => ?_)
  · replace E := ite_f E z3
    exact r_fewer [none, none, none] (ls_n (ls_n (ls_n ls_0))) (s_X9_readPattern_106 h2 E hK)
  · replace E := ite_t E z3
    refine q_iload_n dX9_readPattern_95 rfl ?_
    replace E := cal_some E
    obtain ⟨x5, h4, hc, E⟩ := E
    refine r_callS1 (mc := 0) (ms := 0) dX9_readPattern_96 KX9_112 (c_X9_endsFactor hc) (by decide) (Nat.le_of_ble_eq_true rfl) (fun _ _ q => q.elim) ?_
    rintro _ _ ⟨rfl, rfl⟩
    clear hc
    refine q_if_eq (tgt := 106) dX9_readPattern_99 (by decide) (fun z6 => ?_) (fun z6 => ?_)
    · replace E := ite_t E z6
      exact r_fewer [none, none, none] (ls_n (ls_n (ls_n ls_0))) (s_X9_readPattern_106 h4 E hK)
    · replace E := ite_f E z6
      refine q_iconst dX9_readPattern_102 ?_
      refine q_goto (tgt := 107) dX9_readPattern_103 (by decide) ?_
      exact r_fewer [none, none, none] (ls_n (ls_n (ls_n ls_0))) (s_X9_readPattern_107 (Int32.ofInt 1) h4 E hK)
set_option maxRecDepth 100000 in
set_option maxHeartbeats 4000000 in
theorem sb_X9_readPattern_13 {l : Launch} {G : mG} {Q : Option Value → mH → Prop} {X : String → mH → Prop} (p0 : Nat) (v1 : Int32) (v2 : Int32) (h : mH) {o : ((Int32 × Int32 × mH) ⊕ (Int32 × mH))} (E : b0_X9_readPattern_13 p0 v1 v2 h = some o) (hK : (lpK (w_X9_readPattern_13 l G Q X p0) (fiI Q)) o) : mW l G m_X9_readPattern 3 0 0 13 [some (.ref p0), some (.int v1), some (.int v2)] [] h Q X := by
  unfold b0_X9_readPattern_13 at E
  refine q_aload_n dX9_readPattern_13 rfl ?_
  replace E := grd_some E
  obtain ⟨g1, E⟩ := E
  refine r_getI dX9_readPattern_14 FX9_23 g1 ?_
  refine q_aload_n dX9_readPattern_17 rfl ?_
  refine r_getI dX9_readPattern_18 FX9_19 g1 ?_
  refine q_icmp_ge (tgt := 83) dX9_readPattern_21 (by decide) (fun z2 => ?_) (fun z2 => ?_)
  · replace E := ite_t E z2
    obtain ⟨o0, E0, rfl⟩ := inrO_some E
    exact r_fewer [some (.ref p0), some (.int v1), some (.int v2)] (ls_s (ls_s (ls_s ls_0))) (s_X9_readPattern_83 p0 v1 v2 h E0 hK)
  · replace E := ite_f E z2
    refine q_iload_n dX9_readPattern_24 rfl ?_
    refine q_aload_n dX9_readPattern_25 rfl ?_
    refine q_aload_n dX9_readPattern_26 rfl ?_
    refine r_getI dX9_readPattern_27 FX9_23 g1 ?_
    replace E := cal_some E
    obtain ⟨x4, h3, hc, E⟩ := E
    refine r_callV1 (mc := 0) (ms := 0) dX9_readPattern_30 KX9_35 (c_X9_character hc) g1 (by decide) (Nat.le_of_ble_eq_true rfl) (fun _ _ q => q.elim) ?_
    rintro _ _ ⟨rfl, rfl⟩
    clear hc
    refine q_iload_n dX9_readPattern_33 rfl ?_
    replace E := cal_some E
    obtain ⟨x6, h5, hc, E⟩ := E
    refine r_callS3 (mc := 0) (ms := 0) dX9_readPattern_34 KX9_108 (c_X9_canFollow hc) (by decide) (Nat.le_of_ble_eq_true rfl) (fun _ _ q => q.elim) ?_
    rintro _ _ ⟨rfl, rfl⟩
    clear hc
    refine q_if_eq (tgt := 83) dX9_readPattern_37 (by decide) (fun z7 => ?_) (fun z7 => ?_)
    · replace E := ite_t E z7
      obtain ⟨o0, E0, rfl⟩ := inrO_some E
      exact r_fewer [some (.ref p0), some (.int v1), some (.int v2)] (ls_s (ls_s (ls_s ls_0))) (s_X9_readPattern_83 p0 v1 v2 h5 E0 hK)
    · replace E := ite_f E z7
      refine q_aload_n dX9_readPattern_40 rfl ?_
      refine q_aload_n dX9_readPattern_41 rfl ?_
      replace E := grd_some E
      obtain ⟨g8, E⟩ := E
      refine r_getI dX9_readPattern_42 FX9_23 g8 ?_
      replace E := cal_some E
      obtain ⟨x10, h9, hc, E⟩ := E
      refine r_callV1 (mc := 0) (ms := 0) dX9_readPattern_45 KX9_35 (c_X9_character hc) g8 (by decide) (Nat.le_of_ble_eq_true rfl) (fun _ _ q => q.elim) ?_
      rintro _ _ ⟨rfl, rfl⟩
      clear hc
      refine r_istore_n dX9_readPattern_48 (by decide) rfl (ls' := [some (.ref p0), some (.int v1), some (.int x10)]) rfl ?_
      refine q_iload_n dX9_readPattern_49 rfl ?_
      refine q_bipush (v := (Int32.ofInt 40)) dX9_readPattern_50 (by decide) ?_
      refine q_icmp_ne (tgt := 61) dX9_readPattern_52 (by decide) (fun z11 => ?_) (fun z11 => ?_)
      · replace E := ite_f E z11
        refine q_iload_n dX9_readPattern_61 rfl ?_
        refine q_bipush (v := (Int32.ofInt 41)) dX9_readPattern_62 (by decide) ?_
        refine q_icmp_ne (tgt := 70) dX9_readPattern_64 (by decide) (fun z12 => ?_) (fun z12 => ?_)
        · replace E := ite_f E z12
          exact r_fewer [some (.ref p0), some (.int v1), some (.int x10)] (ls_s (ls_s (ls_s ls_0))) (s_X9_readPattern_70 p0 v1 x10 h9 E hK)
        · replace E := ite_t E z12
          replace E := bnd_x E
          obtain ⟨x13, ex13, E⟩ := E
          refine r_iinc (v := x13) dX9_readPattern_67 rfl ex13 (by decide) (ls' := [some (.ref p0), some (.int x13), some (.int x10)]) rfl ?_
          exact r_fewer [some (.ref p0), some (.int x13), some (.int x10)] (ls_s (ls_s (ls_s ls_0))) (s_X9_readPattern_70 p0 x13 x10 h9 E hK)
      · replace E := ite_t E z11
        replace E := bnd_x E
        obtain ⟨x14, ex14, E⟩ := E
        refine r_iinc (v := x14) dX9_readPattern_55 rfl ex14 (by decide) (ls' := [some (.ref p0), some (.int x14), some (.int x10)]) rfl ?_
        refine q_goto (tgt := 70) dX9_readPattern_58 (by decide) ?_
        exact r_fewer [some (.ref p0), some (.int x14), some (.int x10)] (ls_s (ls_s (ls_s ls_0))) (s_X9_readPattern_70 p0 x14 x10 h9 E hK)
theorem s_X9_readPattern_13 {l : Launch} {G : mG} {Q : Option Value → mH → Prop} {X : String → mH → Prop} (p0 : Nat) (v1 : Int32) (v2 : Int32) (h : mH) {o : Int32 × mH} (E : g_X9_readPattern_13 p0 v1 v2 h = some o) (hK : (fiI Q) o) : mW l G m_X9_readPattern 3 0 0 13 [some (.ref p0), some (.int v1), some (.int v2)] [] h Q X :=
  (lp_go (w_X9_readPattern_13 l G Q X p0) (fiI Q) (b_X9_readPattern_13 p0) (fun s o E hK => sb_X9_readPattern_13 p0 s.1 s.2.1 (s.2.2) E hK) _ _ _ E hK : w_X9_readPattern_13 l G Q X p0 (v1, v2, h))
set_option maxRecDepth 100000 in
set_option maxHeartbeats 4000000 in
theorem s_X9_readPattern_0 {l : Launch} {G : mG} {Q : Option Value → mH → Prop} {X : String → mH → Prop} (p0 : Nat) (h : mH) {o : Int32 × mH} (E : f_X9_readPattern p0 h = some o) (hK : (fiI Q) o) : mW l G m_X9_readPattern 3 0 0 0 [some (.ref p0), none, none] [] h Q X := by
  unfold f_X9_readPattern at E
  refine q_aload_n dX9_readPattern_0 rfl ?_
  refine q_aload_n dX9_readPattern_1 rfl ?_
  replace E := grd_some E
  obtain ⟨g1, E⟩ := E
  refine r_getI dX9_readPattern_2 FX9_23 g1 ?_
  replace E := bnd_x E
  obtain ⟨h2, eh2, E⟩ := E
  refine r_putI (hh := eh2) dX9_readPattern_5 FX9_29 g1 rfl rfl ?_
  refine q_iconst dX9_readPattern_8 ?_
  refine r_istore_n dX9_readPattern_9 (by decide) rfl (ls' := [some (.ref p0), some (.int (Int32.ofInt 0)), none]) rfl ?_
  refine q_bipush (v := (Int32.ofInt 40)) dX9_readPattern_10 (by decide) ?_
  refine r_istore_n dX9_readPattern_12 (by decide) rfl (ls' := [some (.ref p0), some (.int (Int32.ofInt 0)), some (.int (Int32.ofInt 40))]) rfl ?_
  exact r_fewer [some (.ref p0), some (.int (Int32.ofInt 0)), some (.int (Int32.ofInt 40))] (ls_s (ls_s (ls_s ls_0))) (s_X9_readPattern_13 p0 (Int32.ofInt 0) (Int32.ofInt 40) h2 E hK)
theorem c_X9_readPattern {l : Launch} {G : mG} {p0 : Nat} {h h' : mH} {r : Int32} (E : f_X9_readPattern p0 h = some (r, h')) : mMet l G m_X9_readPattern 3 0 0 [.ref p0] h (fun v k => v = some (.int r) ∧ h' = k) (fun _ _ => False) :=
  mMet_of (by decide +kernel) rfl (ac_c rfl ac_0) (Nat.le_of_ble_eq_true rfl) (s_X9_readPattern_0 p0 h E (And.intro rfl rfl))
