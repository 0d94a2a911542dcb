set_option maxRecDepth 100000 in
set_option maxHeartbeats 4000000 in
theorem s_X0_size_0 {l : Launch} {G : mG} {Q : Option Value → mH → Prop} {X : String → mH → Prop} (p0 : Nat) (h : mH) {o : Int32 × mH} (E : f_X0_size p0 h = some o) (hK : (fiI Q) o) : mW l G m_X0_size 0 0 0 0 [some (.ref p0)] [] h Q X := by
  unfold f_X0_size at E
  refine q_aload_n dX0_size_0 rfl ?_
  replace E := grd_some E
  obtain ⟨g1, E⟩ := E
  refine r_getI dX0_size_1 FX0_41 g1 ?_
  cases E
  exact q_ireturn dX0_size_4 rfl hK
theorem c_X0_size {l : Launch} {G : mG} {p0 : Nat} {h h' : mH} {r : Int32} (E : f_X0_size p0 h = some (r, h')) : mMet l G m_X0_size 0 0 0 [.ref p0] h (fun v k => v = some (.int r) ∧ h' = k) (fun _ _ => False) :=
  mMet_of (by decide +kernel) rfl (ac_c rfl ac_0) (Nat.le_of_ble_eq_true rfl) (s_X0_size_0 p0 h E (And.intro rfl rfl))
set_option maxRecDepth 100000 in
set_option maxHeartbeats 4000000 in
theorem s_X0_acceptingSize_34 {l : Launch} {G : mG} {Q : Option Value → mH → Prop} {X : String → mH → Prop} (p0 : Nat) (v2 : Int32) (s0 : Int32) (s1 : Int32) (h : mH) {o : ((Int32 × Int32 × mH) ⊕ (Int32 × mH))} (E : g_X0_acceptingSize_34 p0 v2 s0 s1 h = some o) (hK : (lpK (w_X0_acceptingSize_4 l G Q X p0) (fiI Q)) o) : mW l G m_X0_acceptingSize 0 0 0 34 [some (.ref p0), none, some (.int v2)] [.int s0, .int s1] h Q X := by
  unfold g_X0_acceptingSize_34 at E
  refine q_iadd dX0_acceptingSize_34 ?_
  replace E := bnd_x E
  obtain ⟨x1, ex1, E⟩ := E
  refine r_istore_n dX0_acceptingSize_35 (by decide) ex1 (ls' := [some (.ref p0), some (.int x1), some (.int v2)]) rfl ?_
  replace E := bnd_x E
  obtain ⟨x2, ex2, E⟩ := E
  refine r_iinc (v := x2) dX0_acceptingSize_36 rfl ex2 (by decide) (ls' := [some (.ref p0), some (.int x1), some (.int x2)]) rfl ?_
  refine q_goto (tgt := 4) dX0_acceptingSize_39 (by decide) ?_
  cases E
  exact r_fewer [some (.ref p0), some (.int x1), some (.int x2)] (ls_s (ls_s (ls_s ls_0))) hK
set_option maxRecDepth 100000 in
set_option maxHeartbeats 4000000 in
theorem s_X0_acceptingSize_42 {l : Launch} {G : mG} {Q : Option Value → mH → Prop} {X : String → mH → Prop} (v1 : Int32) (h : mH) {o : Int32 × mH} (E : g_X0_acceptingSize_42 v1 h = some o) (hK : (fiI Q) o) : mW l G m_X0_acceptingSize 0 0 0 42 [none, some (.int v1), none] [] h Q X := by
  unfold g_X0_acceptingSize_42 at E
  refine q_iload_n dX0_acceptingSize_42 rfl ?_
  cases E
  exact q_ireturn dX0_acceptingSize_43 rfl hK
set_option maxRecDepth 100000 in
set_option maxHeartbeats 4000000 in
theorem sb_X0_acceptingSize_4 {l : Launch} {G : mG} {Q : Option Value → mH → Prop} {X : String → mH → Prop} (p0 : Nat) (v1 : Int32) (v2 : Int32) (h : mH) {o : ((Int32 × Int32 × mH) ⊕ (Int32 × mH))} (E : b0_X0_acceptingSize_4 p0 v1 v2 h = some o) (hK : (lpK (w_X0_acceptingSize_4 l G Q X p0) (fiI Q)) o) : mW l G m_X0_acceptingSize 0 0 0 4 [some (.ref p0), some (.int v1), some (.int v2)] [] h Q X := by
  unfold b0_X0_acceptingSize_4 at E
  refine q_iload_n dX0_acceptingSize_4 rfl ?_
  refine q_aload_n dX0_acceptingSize_5 rfl ?_
  replace E := grd_some E
  obtain ⟨g1, E⟩ := E
  refine r_getI dX0_acceptingSize_6 FX0_41 g1 ?_
  refine q_icmp_ge (tgt := 42) dX0_acceptingSize_9 (by decide) (fun z2 => ?_) (fun z2 => ?_)
  · replace E := ite_t E z2
    obtain ⟨o0, E0, rfl⟩ := inrO_some E
    exact r_fewer [none, some (.int v1), none] (ls_n (ls_s (ls_n ls_0))) (s_X0_acceptingSize_42 v1 h E0 hK)
  · replace E := ite_f E z2
    refine q_iload_n dX0_acceptingSize_12 rfl ?_
    refine q_sipush (v := (Int32.ofInt 129)) dX0_acceptingSize_13 (by decide) ?_
    refine q_icmp_ge (tgt := 42) dX0_acceptingSize_16 (by decide) (fun z3 => ?_) (fun z3 => ?_)
    · replace E := ite_t E z3
      obtain ⟨o0, E0, rfl⟩ := inrO_some E
      exact r_fewer [none, some (.int v1), none] (ls_n (ls_s (ls_n ls_0))) (s_X0_acceptingSize_42 v1 h E0 hK)
    · replace E := ite_f E z3
      refine q_iload_n dX0_acceptingSize_19 rfl ?_
      refine q_aload_n dX0_acceptingSize_20 rfl ?_
      replace E := orf_some E
      obtain ⟨a4, ea4, E⟩ := E
      refine r_getR dX0_acceptingSize_21 FX0_28 g1 ea4 ?_
      refine q_iload_n dX0_acceptingSize_24 rfl ?_
      replace E := grd_some E
      obtain ⟨g5, E⟩ := E
      replace E := grd_some E
      obtain ⟨g6, E⟩ := E
      refine r_zaload dX0_acceptingSize_25 g5 g6 ?_
      refine q_if_eq (tgt := 33) dX0_acceptingSize_26 (by decide) (fun z7 => ?_) (fun z7 => ?_)
      · replace E := ite_t E z7
        refine q_iconst dX0_acceptingSize_33 ?_
        exact r_fewer [some (.ref p0), none, some (.int v2)] (ls_s (ls_n (ls_s ls_0))) (s_X0_acceptingSize_34 p0 v2 (Int32.ofInt 0) v1 h E hK)
      · replace E := ite_f E z7
        refine q_iconst dX0_acceptingSize_29 ?_
        refine q_goto (tgt := 34) dX0_acceptingSize_30 (by decide) ?_
        exact r_fewer [some (.ref p0), none, some (.int v2)] (ls_s (ls_n (ls_s ls_0))) (s_X0_acceptingSize_34 p0 v2 (Int32.ofInt 1) v1 h E hK)
theorem s_X0_acceptingSize_4 {l : Launch} {G : mG} {Q : Option Value → mH → Prop} {X : String → mH → Prop} (p0 : Nat) (v1 : Int32) (v2 : Int32) (h : mH) {o : Int32 × mH} (E : g_X0_acceptingSize_4 p0 v1 v2 h = some o) (hK : (fiI Q) o) : mW l G m_X0_acceptingSize 0 0 0 4 [some (.ref p0), some (.int v1), some (.int v2)] [] h Q X :=
  (lp_go (w_X0_acceptingSize_4 l G Q X p0) (fiI Q) (b_X0_acceptingSize_4 p0) (fun s o E hK => sb_X0_acceptingSize_4 p0 s.1 s.2.1 (s.2.2) E hK) _ _ _ E hK : w_X0_acceptingSize_4 l G Q X p0 (v1, v2, h))
set_option maxRecDepth 100000 in
set_option maxHeartbeats 4000000 in
theorem s_X0_acceptingSize_0 {l : Launch} {G : mG} {Q : Option Value → mH → Prop} {X : String → mH → Prop} (p0 : Nat) (h : mH) {o : Int32 × mH} (E : f_X0_acceptingSize p0 h = some o) (hK : (fiI Q) o) : mW l G m_X0_acceptingSize 0 0 0 0 [some (.ref p0), none, none] [] h Q X := by
  unfold f_X0_acceptingSize at E
  refine q_iconst dX0_acceptingSize_0 ?_
  refine r_istore_n dX0_acceptingSize_1 (by decide) rfl (ls' := [some (.ref p0), some (.int (Int32.ofInt 0)), none]) rfl ?_
  refine q_iconst dX0_acceptingSize_2 ?_
  refine r_istore_n dX0_acceptingSize_3 (by decide) rfl (ls' := [some (.ref p0), some (.int (Int32.ofInt 0)), some (.int (Int32.ofInt 0))]) rfl ?_
  exact r_fewer [some (.ref p0), some (.int (Int32.ofInt 0)), some (.int (Int32.ofInt 0))] (ls_s (ls_s (ls_s ls_0))) (s_X0_acceptingSize_4 p0 (Int32.ofInt 0) (Int32.ofInt 0) h E hK)
theorem c_X0_acceptingSize {l : Launch} {G : mG} {p0 : Nat} {h h' : mH} {r : Int32} (E : f_X0_acceptingSize p0 h = some (r, h')) : mMet l G m_X0_acceptingSize 0 0 0 [.ref p0] h (fun v k => v = some (.int r) ∧ h' = k) (fun _ _ => False) :=
  mMet_of (by decide +kernel) rfl (ac_c rfl ac_0) (Nat.le_of_ble_eq_true rfl) (s_X0_acceptingSize_0 p0 h E (And.intro rfl rfl))
set_option maxRecDepth 100000 in
set_option maxHeartbeats 4000000 in
theorem s_X0_step_29 {l : Launch} {G : mG} {Q : Option Value → mH → Prop} {X : String → mH → Prop} (s0 : Int32) (h : mH) {o : Int32 × mH} (E : g_X0_step_29 s0 h = some o) (hK : (fiI Q) o) : mW l G m_X0_step 0 0 0 29 [none, none, none, none] [.int s0] h Q X := by
  unfold g_X0_step_29 at E
  cases E
  exact q_ireturn dX0_step_29 rfl hK
set_option maxRecDepth 100000 in
set_option maxHeartbeats 4000000 in
theorem s_X0_step_19 {l : Launch} {G : mG} {Q : Option Value → mH → Prop} {X : String → mH → Prop} (h : mH) {o : Int32 × mH} (E : g_X0_step_19  h = some o) (hK : (fiI Q) o) : mW l G m_X0_step 0 0 0 19 [none, none, none, none] [] h Q X := by
  unfold g_X0_step_19 at E
  refine q_iconst dX0_step_19 ?_
  refine q_goto (tgt := 29) dX0_step_20 (by decide) ?_
  exact r_fewer [none, none, none, none] (ls_n (ls_n (ls_n (ls_n ls_0)))) (s_X0_step_29 (Int32.ofInt 0) h E hK)
set_option maxRecDepth 100000 in
set_option maxHeartbeats 4000000 in
theorem s_X0_step_0 {l : Launch} {G : mG} {Q : Option Value → mH → Prop} {X : String → mH → Prop} (p0 : Nat) (v1 : Int32) (v2 : Int32) (h : mH) {o : Int32 × mH} (E : f_X0_step p0 v1 v2 h = some o) (hK : (fiI Q) o) : mW l G m_X0_step 0 0 0 0 [some (.ref p0), some (.int v1), some (.int v2), none] [] h Q X := by
  unfold f_X0_step at E
  refine q_iload_n dX0_step_0 rfl ?_
  refine q_iconst dX0_step_1 ?_
  refine q_imul dX0_step_2 ?_
  refine q_iload_n dX0_step_3 rfl ?_
  refine q_iadd dX0_step_4 ?_
  replace E := bnd_x E
  obtain ⟨x1, ex1, E⟩ := E
  refine r_istore_n dX0_step_5 (by decide) ex1 (ls' := [some (.ref p0), some (.int v1), some (.int v2), some (.int x1)]) rfl ?_
  refine q_iload_n dX0_step_6 rfl ?_
  refine q_if_lt (tgt := 19) dX0_step_7 (by decide) (fun z2 => ?_) (fun z2 => ?_)
  · replace E := ite_t E z2
    exact r_fewer [none, none, none, none] (ls_n (ls_n (ls_n (ls_n ls_0)))) (s_X0_step_19 h E hK)
  · replace E := ite_f E z2
    refine q_iload_n dX0_step_10 rfl ?_
    refine q_aload_n dX0_step_11 rfl ?_
    replace E := grd_some E
    obtain ⟨g3, E⟩ := E
    replace E := orf_some E
    obtain ⟨a4, ea4, E⟩ := E
    refine r_getR dX0_step_12 FX0_25 g3 ea4 ?_
    replace E := grd_some E
    obtain ⟨g5, E⟩ := E
    refine r_alen (t0 := 3) dX0_step_15 rfl g5 ?_
    refine q_icmp_lt (tgt := 23) dX0_step_16 (by decide) (fun z6 => ?_) (fun z6 => ?_)
    · replace E := ite_t E z6
      refine q_aload_n dX0_step_23 rfl ?_
      refine r_getR dX0_step_24 FX0_25 g3 ea4 ?_
      refine q_iload_n dX0_step_27 rfl ?_
      replace E := grd_some E
      obtain ⟨g8, E⟩ := E
      refine r_iaload dX0_step_28 g5 g8 ?_
      exact r_fewer [none, none, none, none] (ls_n (ls_n (ls_n (ls_n ls_0)))) (s_X0_step_29 (gi h a4 x1.toNatClampNeg) h E hK)
    · replace E := ite_f E z6
      exact r_fewer [none, none, none, none] (ls_n (ls_n (ls_n (ls_n ls_0)))) (s_X0_step_19 h E hK)
theorem c_X0_step {l : Launch} {G : mG} {p0 : Nat} {v1 : Int32} {v2 : Int32} {h h' : mH} {r : Int32} (E : f_X0_step p0 v1 v2 h = some (r, h')) : mMet l G m_X0_step 0 0 0 [.ref p0, .int v1, .int v2] h (fun v k => v = some (.int r) ∧ h' = k) (fun _ _ => False) :=
  mMet_of (by decide +kernel) rfl (ac_c rfl (ac_c rfl (ac_c rfl ac_0))) (Nat.le_of_ble_eq_true rfl) (s_X0_step_0 p0 v1 v2 h E (And.intro rfl rfl))
set_option maxRecDepth 100000 in
set_option maxHeartbeats 4000000 in
theorem s_X0_isAccepting_25 {l : Launch} {G : mG} {Q : Option Value → mH → Prop} {X : String → mH → Prop} (s0 : Int32) (h : mH) {o : Int32 × mH} (E : g_X0_isAccepting_25 s0 h = some o) (hK : (fiI Q) o) : mW l G m_X0_isAccepting 0 0 0 25 [none, none] [.int s0] h Q X := by
  unfold g_X0_isAccepting_25 at E
  replace E := grd_some E
  obtain ⟨g1, E⟩ := E
  cases E
  exact q_zreturn dX0_isAccepting_25 rfl (narZ g1) hK
set_option maxRecDepth 100000 in
set_option maxHeartbeats 4000000 in
theorem s_X0_isAccepting_24 {l : Launch} {G : mG} {Q : Option Value → mH → Prop} {X : String → mH → Prop} (h : mH) {o : Int32 × mH} (E : g_X0_isAccepting_24  h = some o) (hK : (fiI Q) o) : mW l G m_X0_isAccepting 0 0 0 24 [none, none] [] h Q X := by
  unfold g_X0_isAccepting_24 at E
  refine q_iconst dX0_isAccepting_24 ?_
  exact r_fewer [none, none] (ls_n (ls_n ls_0)) (s_X0_isAccepting_25 (Int32.ofInt 0) h E hK)
set_option maxRecDepth 100000 in
set_option maxHeartbeats 4000000 in
theorem s_X0_isAccepting_0 {l : Launch} {G : mG} {Q : Option Value → mH → Prop} {X : String → mH → Prop} (p0 : Nat) (v1 : Int32) (h : mH) {o : Int32 × mH} (E : f_X0_isAccepting p0 v1 h = some o) (hK : (fiI Q) o) : mW l G m_X0_isAccepting 0 0 0 0 [some (.ref p0), some (.int v1)] [] h Q X := by
  unfold f_X0_isAccepting at E
  refine q_iload_n dX0_isAccepting_0 rfl ?_
  refine q_if_lt (tgt := 24) dX0_isAccepting_1 (by decide) (fun z1 => ?_) (fun z1 => ?_)
  · replace E := ite_t E z1
    exact r_fewer [none, none] (ls_n (ls_n ls_0)) (s_X0_isAccepting_24 h E hK)
  · replace E := ite_f E z1
    refine q_iload_n dX0_isAccepting_4 rfl ?_
    refine q_sipush (v := (Int32.ofInt 129)) dX0_isAccepting_5 (by decide) ?_
    refine q_icmp_ge (tgt := 24) dX0_isAccepting_8 (by decide) (fun z2 => ?_) (fun z2 => ?_)
    · replace E := ite_t E z2
      exact r_fewer [none, none] (ls_n (ls_n ls_0)) (s_X0_isAccepting_24 h E hK)
    · replace E := ite_f E z2
      refine q_aload_n dX0_isAccepting_11 rfl ?_
      replace E := grd_some E
      obtain ⟨g3, E⟩ := E
      replace E := orf_some E
      obtain ⟨a4, ea4, E⟩ := E
      refine r_getR dX0_isAccepting_12 FX0_28 g3 ea4 ?_
      refine q_iload_n dX0_isAccepting_15 rfl ?_
      replace E := grd_some E
      obtain ⟨g5, E⟩ := E
      replace E := grd_some E
      obtain ⟨g6, E⟩ := E
      refine r_zaload dX0_isAccepting_16 g5 g6 ?_
      refine q_if_eq (tgt := 24) dX0_isAccepting_17 (by decide) (fun z7 => ?_) (fun z7 => ?_)
      · replace E := ite_t E z7
        exact r_fewer [none, none] (ls_n (ls_n ls_0)) (s_X0_isAccepting_24 h E hK)
      · replace E := ite_f E z7
        refine q_iconst dX0_isAccepting_20 ?_
        refine q_goto (tgt := 25) dX0_isAccepting_21 (by decide) ?_
        exact r_fewer [none, none] (ls_n (ls_n ls_0)) (s_X0_isAccepting_25 (Int32.ofInt 1) h E hK)
theorem c_X0_isAccepting {l : Launch} {G : mG} {p0 : Nat} {v1 : Int32} {h h' : mH} {r : Int32} (E : f_X0_isAccepting p0 v1 h = some (r, h')) : mMet l G m_X0_isAccepting 0 0 0 [.ref p0, .int v1] h (fun v k => v = some (.int r) ∧ h' = k) (fun _ _ => False) :=
  mMet_of (by decide +kernel) rfl (ac_c rfl (ac_c rfl ac_0)) (Nat.le_of_ble_eq_true rfl) (s_X0_isAccepting_0 p0 v1 h E (And.intro rfl rfl))
set_option maxRecDepth 100000 in
set_option maxHeartbeats 4000000 in
theorem s_X10_size_0 {l : Launch} {G : mG} {Q : Option Value → mH → Prop} {X : String → mH → Prop} (p0 : Nat) (h : mH) {o : Int32 × mH} (E : f_X10_size p0 h = some o) (hK : (fiI Q) o) : mW l G m_X10_size 0 0 0 0 [some (.ref p0)] [] h Q X := by
  unfold f_X10_size at E
  refine q_aload_n dX10_size_0 rfl ?_
  replace E := grd_some E
  obtain ⟨g1, E⟩ := E
  replace E := orf_some E
  obtain ⟨a2, ea2, E⟩ := E
  refine r_getR dX10_size_1 FX10_7 g1 ea2 ?_
  replace E := grd_some E
  obtain ⟨g3, E⟩ := E
  refine r_alen (t0 := 3) dX10_size_4 rfl g3 ?_
  cases E
  exact q_ireturn dX10_size_5 rfl hK
theorem c_X10_size {l : Launch} {G : mG} {p0 : Nat} {h h' : mH} {r : Int32} (E : f_X10_size p0 h = some (r, h')) : mMet l G m_X10_size 0 0 0 [.ref p0] h (fun v k => v = some (.int r) ∧ h' = k) (fun _ _ => False) :=
  mMet_of (by decide +kernel) rfl (ac_c rfl ac_0) (Nat.le_of_ble_eq_true rfl) (s_X10_size_0 p0 h E (And.intro rfl rfl))
set_option maxRecDepth 100000 in
set_option maxHeartbeats 4000000 in
theorem s_X10_letter_23 {l : Launch} {G : mG} {Q : Option Value → mH → Prop} {X : String → mH → Prop} (s0 : Int32) (h : mH) {o : Int32 × mH} (E : g_X10_letter_23 s0 h = some o) (hK : (fiI Q) o) : mW l G m_X10_letter 0 0 0 23 [none, none] [.int s0] h Q X := by
  unfold g_X10_letter_23 at E
  cases E
  exact q_ireturn dX10_letter_23 rfl hK
set_option maxRecDepth 100000 in
set_option maxHeartbeats 4000000 in
theorem s_X10_letter_13 {l : Launch} {G : mG} {Q : Option Value → mH → Prop} {X : String → mH → Prop} (h : mH) {o : Int32 × mH} (E : g_X10_letter_13  h = some o) (hK : (fiI Q) o) : mW l G m_X10_letter 0 0 0 13 [none, none] [] h Q X := by
  unfold g_X10_letter_13 at E
  refine q_iconst dX10_letter_13 ?_
  refine q_goto (tgt := 23) dX10_letter_14 (by decide) ?_
  exact r_fewer [none, none] (ls_n (ls_n ls_0)) (s_X10_letter_23 (Int32.ofInt (-1)) h E hK)
set_option maxRecDepth 100000 in
set_option maxHeartbeats 4000000 in
theorem s_X10_letter_0 {l : Launch} {G : mG} {Q : Option Value → mH → Prop} {X : String → mH → Prop} (p0 : Nat) (v1 : Int32) (h : mH) {o : Int32 × mH} (E : f_X10_letter p0 v1 h = some o) (hK : (fiI Q) o) : mW l G m_X10_letter 0 0 0 0 [some (.ref p0), some (.int v1)] [] h Q X := by
  unfold f_X10_letter at E
  refine q_iload_n dX10_letter_0 rfl ?_
  refine q_if_lt (tgt := 13) dX10_letter_1 (by decide) (fun z1 => ?_) (fun z1 => ?_)
  · replace E := ite_t E z1
    exact r_fewer [none, none] (ls_n (ls_n ls_0)) (s_X10_letter_13 h E hK)
  · replace E := ite_f E z1
    refine q_iload_n dX10_letter_4 rfl ?_
    refine q_aload_n dX10_letter_5 rfl ?_
    replace E := grd_some E
    obtain ⟨g2, E⟩ := E
    replace E := orf_some E
    obtain ⟨a3, ea3, E⟩ := E
    refine r_getR dX10_letter_6 FX10_7 g2 ea3 ?_
    replace E := grd_some E
    obtain ⟨g4, E⟩ := E
    refine r_alen (t0 := 3) dX10_letter_9 rfl g4 ?_
    refine q_icmp_lt (tgt := 17) dX10_letter_10 (by decide) (fun z5 => ?_) (fun z5 => ?_)
    · replace E := ite_t E z5
      refine q_aload_n dX10_letter_17 rfl ?_
      refine r_getR dX10_letter_18 FX10_7 g2 ea3 ?_
      refine q_iload_n dX10_letter_21 rfl ?_
      replace E := grd_some E
      obtain ⟨g7, E⟩ := E
      refine r_iaload dX10_letter_22 g4 g7 ?_
      exact r_fewer [none, none] (ls_n (ls_n ls_0)) (s_X10_letter_23 (gi h a3 v1.toNatClampNeg) h E hK)
    · replace E := ite_f E z5
      exact r_fewer [none, none] (ls_n (ls_n ls_0)) (s_X10_letter_13 h E hK)
theorem c_X10_letter {l : Launch} {G : mG} {p0 : Nat} {v1 : Int32} {h h' : mH} {r : Int32} (E : f_X10_letter p0 v1 h = some (r, h')) : mMet l G m_X10_letter 0 0 0 [.ref p0, .int v1] h (fun v k => v = some (.int r) ∧ h' = k) (fun _ _ => False) :=
  mMet_of (by decide +kernel) rfl (ac_c rfl (ac_c rfl ac_0)) (Nat.le_of_ble_eq_true rfl) (s_X10_letter_0 p0 v1 h E (And.intro rfl rfl))
set_option maxRecDepth 100000 in
set_option maxHeartbeats 4000000 in
theorem sb_X0_accepts_10 {l : Launch} {G : mG} {Q : Option Value → mH → Prop} {X : String → mH → Prop} (p0 : Nat) (p1 : Nat) (v2 : Int32) (v3 : Int32) (h : mH) {o : ((Int32 × Int32 × mH) ⊕ (Int32 × mH))} (E : b0_X0_accepts_10 p0 p1 v2 v3 h = some o) (hK : (lpK (w_X0_accepts_10 l G Q X p0 p1) (fiI Q)) o) : mW l G m_X0_accepts 1 0 0 10 [some (.ref p0), some (.ref p1), some (.int v2), some (.int v3)] [] h Q X := by
  unfold b0_X0_accepts_10 at E
  refine q_iload_n dX0_accepts_10 rfl ?_
  refine q_aload_n dX0_accepts_11 rfl ?_
  replace E := grd_some E
  obtain ⟨g3, E⟩ := E
  replace E := cal_some E
  obtain ⟨x2, h1, hc, E⟩ := E
  refine r_callV0 (mc := 0) (ms := 0) dX0_accepts_12 KX0_74 (c_X10_size hc) g3 (by decide) (Nat.le_of_ble_eq_true rfl) (fun _ _ q => q.elim) ?_
  rintro _ _ ⟨rfl, rfl⟩
  clear hc
  refine q_icmp_ge (tgt := 35) dX0_accepts_15 (by decide) (fun z4 => ?_) (fun z4 => ?_)
  · replace E := ite_t E z4
    refine q_aload_n dX0_accepts_35 rfl ?_
    refine q_iload_n dX0_accepts_36 rfl ?_
    replace E := grd_some E
    obtain ⟨g7, E⟩ := E
    replace E := cal_some E
    obtain ⟨x6, h5, hc, E⟩ := E
    refine r_callV1 (mc := 0) (ms := 0) dX0_accepts_37 KX0_84 (c_X0_isAccepting hc) g7 (by decide) (Nat.le_of_ble_eq_true rfl) (fun _ _ q => q.elim) ?_
    rintro _ _ ⟨rfl, rfl⟩
    clear hc
    replace E := grd_some E
    obtain ⟨g8, E⟩ := E
    cases E
    exact q_zreturn dX0_accepts_40 rfl (narZ g8) hK
  · replace E := ite_f E z4
    refine q_aload_n dX0_accepts_18 rfl ?_
    refine q_iload_n dX0_accepts_19 rfl ?_
    refine q_aload_n dX0_accepts_20 rfl ?_
    refine q_iload_n dX0_accepts_21 rfl ?_
    replace E := grd_some E
    obtain ⟨g11, E⟩ := E
    replace E := cal_some E
    obtain ⟨x10, h9, hc, E⟩ := E
    refine r_callV1 (mc := 0) (ms := 0) dX0_accepts_22 KX0_78 (c_X10_letter hc) g11 (by decide) (Nat.le_of_ble_eq_true rfl) (fun _ _ q => q.elim) ?_
    rintro _ _ ⟨rfl, rfl⟩
    clear hc
    replace E := grd_some E
    obtain ⟨g14, E⟩ := E
    replace E := cal_some E
    obtain ⟨x13, h12, hc, E⟩ := E
    refine r_callV2 (mc := 0) (ms := 0) dX0_accepts_25 KX0_81 (c_X0_step hc) g14 (by decide) (Nat.le_of_ble_eq_true rfl) (fun _ _ q => q.elim) ?_
    rintro _ _ ⟨rfl, rfl⟩
    clear hc
    refine r_istore_n dX0_accepts_28 (by decide) rfl (ls' := [some (.ref p0), some (.ref p1), some (.int x13), some (.int v3)]) rfl ?_
    replace E := bnd_x E
    obtain ⟨x15, ex15, E⟩ := E
    refine r_iinc (v := x15) dX0_accepts_29 rfl ex15 (by decide) (ls' := [some (.ref p0), some (.ref p1), some (.int x13), some (.int x15)]) rfl ?_
    refine q_goto (tgt := 10) dX0_accepts_32 (by decide) ?_
    cases E
    exact r_fewer [some (.ref p0), some (.ref p1), some (.int x13), some (.int x15)] (ls_s (ls_s (ls_s (ls_s ls_0)))) hK
theorem s_X0_accepts_10 {l : Launch} {G : mG} {Q : Option Value → mH → Prop} {X : String → mH → Prop} (p0 : Nat) (p1 : Nat) (v2 : Int32) (v3 : Int32) (h : mH) {o : Int32 × mH} (E : g_X0_accepts_10 p0 p1 v2 v3 h = some o) (hK : (fiI Q) o) : mW l G m_X0_accepts 1 0 0 10 [some (.ref p0), some (.ref p1), some (.int v2), some (.int v3)] [] h Q X :=
  (lp_go (w_X0_accepts_10 l G Q X p0 p1) (fiI Q) (b_X0_accepts_10 p0 p1) (fun s o E hK => sb_X0_accepts_10 p0 p1 s.1 s.2.1 (s.2.2) E hK) _ _ _ E hK : w_X0_accepts_10 l G Q X p0 p1 (v2, v3, h))
set_option maxRecDepth 100000 in
set_option maxHeartbeats 4000000 in
theorem s_X0_accepts_0 {l : Launch} {G : mG} {Q : Option Value → mH → Prop} {X : String → mH → Prop} (p0 : Nat) (q1 : Option Nat) (h : mH) {o : Int32 × mH} (E : f_X0_accepts p0 q1 h = some o) (hK : (fiI Q) o) : mW l G m_X0_accepts 1 0 0 0 [some (.ref p0), some (va_rf q1), none, none] [] h Q X := by
  unfold f_X0_accepts at E
  refine r_aload_nO dX0_accepts_0 rfl ?_
  replace E := oif_some E
  rcases E with ⟨rfl, E⟩ | ⟨a1, rfl, E⟩
  · refine q_ifnonnullN dX0_accepts_1 ?_
    refine q_iconst dX0_accepts_4 ?_
    cases E
    exact q_zreturn dX0_accepts_5 rfl (by decide) hK
  · refine q_ifnonnull (tgt := 6) dX0_accepts_1 (by decide) ?_
    refine q_iconst dX0_accepts_6 ?_
    refine r_istore_n dX0_accepts_7 (by decide) rfl (ls' := [some (.ref p0), some (.ref a1), some (.int (Int32.ofInt 0)), none]) rfl ?_
    refine q_iconst dX0_accepts_8 ?_
    refine r_istore_n dX0_accepts_9 (by decide) rfl (ls' := [some (.ref p0), some (.ref a1), some (.int (Int32.ofInt 0)), some (.int (Int32.ofInt 0))]) rfl ?_
    exact r_fewer [some (.ref p0), some (.ref a1), some (.int (Int32.ofInt 0)), some (.int (Int32.ofInt 0))] (ls_s (ls_s (ls_s (ls_s ls_0)))) (s_X0_accepts_10 p0 a1 (Int32.ofInt 0) (Int32.ofInt 0) h E hK)
theorem c_X0_accepts {l : Launch} {G : mG} {p0 : Nat} {q1 : Option Nat} {h h' : mH} {r : Int32} (E : f_X0_accepts p0 q1 h = some (r, h')) : mMet l G m_X0_accepts 1 0 0 [.ref p0, va_rf q1] h (fun v k => v = some (.int r) ∧ h' = k) (fun _ _ => False) :=
  mMet_of (by decide +kernel) rfl (ac_c rfl (ac_c (r_cat _) ac_0)) (Nat.le_of_ble_eq_true rfl) (s_X0_accepts_0 p0 q1 h E (And.intro rfl rfl))
set_option maxRecDepth 100000 in
set_option maxHeartbeats 4000000 in
theorem s_X0_longestAcceptedPrefix_56 {l : Launch} {G : mG} {Q : Option Value → mH → Prop} {X : String → mH → Prop} (p0 : Nat) (p1 : Nat) (v2 : Int32) (v4 : Int32) (s0 : Int32) (h : mH) {o : ((Int32 × Int32 × Int32 × mH) ⊕ (Int32 × mH))} (E : g_X0_longestAcceptedPrefix_56 p0 p1 v2 v4 s0 h = some o) (hK : (lpK (w_X0_longestAcceptedPrefix_19 l G Q X p0 p1) (fiI Q)) o) : mW l G m_X0_longestAcceptedPrefix 1 0 0 56 [some (.ref p0), some (.ref p1), some (.int v2), none, some (.int v4)] [.int s0] h Q X := by
  unfold g_X0_longestAcceptedPrefix_56 at E
  refine r_istore_n dX0_longestAcceptedPrefix_56 (by decide) rfl (ls' := [some (.ref p0), some (.ref p1), some (.int v2), some (.int s0), some (.int v4)]) rfl ?_
  replace E := bnd_x E
  obtain ⟨x1, ex1, E⟩ := E
  refine r_iinc (v := x1) dX0_longestAcceptedPrefix_57 rfl ex1 (by decide) (ls' := [some (.ref p0), some (.ref p1), some (.int v2), some (.int s0), some (.int x1)]) rfl ?_
  refine q_goto (tgt := 19) dX0_longestAcceptedPrefix_60 (by decide) ?_
  cases E
  exact r_fewer [some (.ref p0), some (.ref p1), some (.int v2), some (.int s0), some (.int x1)] (ls_s (ls_s (ls_s (ls_s (ls_s ls_0))))) hK
set_option maxRecDepth 100000 in
set_option maxHeartbeats 4000000 in
theorem sb_X0_longestAcceptedPrefix_19 {l : Launch} {G : mG} {Q : Option Value → mH → Prop} {X : String → mH → Prop} (p0 : Nat) (p1 : Nat) (v2 : Int32) (v3 : Int32) (v4 : Int32) (h : mH) {o : ((Int32 × Int32 × Int32 × mH) ⊕ (Int32 × mH))} (E : b0_X0_longestAcceptedPrefix_19 p0 p1 v2 v3 v4 h = some o) (hK : (lpK (w_X0_longestAcceptedPrefix_19 l G Q X p0 p1) (fiI Q)) o) : mW l G m_X0_longestAcceptedPrefix 1 0 0 19 [some (.ref p0), some (.ref p1), some (.int v2), some (.int v3), some (.int v4)] [] h Q X := by
  unfold b0_X0_longestAcceptedPrefix_19 at E
  refine q_iload dX0_longestAcceptedPrefix_19 rfl ?_
  refine q_aload_n dX0_longestAcceptedPrefix_21 rfl ?_
  replace E := grd_some E
  obtain ⟨g3, E⟩ := E
  replace E := cal_some E
  obtain ⟨x2, h1, hc, E⟩ := E
  refine r_callV0 (mc := 0) (ms := 0) dX0_longestAcceptedPrefix_22 KX0_74 (c_X10_size hc) g3 (by decide) (Nat.le_of_ble_eq_true rfl) (fun _ _ q => q.elim) ?_
  rintro _ _ ⟨rfl, rfl⟩
  clear hc
  refine q_icmp_ge (tgt := 63) dX0_longestAcceptedPrefix_25 (by decide) (fun z4 => ?_) (fun z4 => ?_)
  · replace E := ite_t E z4
    refine q_iload_n dX0_longestAcceptedPrefix_63 rfl ?_
    cases E
    exact q_ireturn dX0_longestAcceptedPrefix_64 rfl hK
  · replace E := ite_f E z4
    refine q_aload_n dX0_longestAcceptedPrefix_28 rfl ?_
    refine q_iload_n dX0_longestAcceptedPrefix_29 rfl ?_
    refine q_aload_n dX0_longestAcceptedPrefix_30 rfl ?_
    refine q_iload dX0_longestAcceptedPrefix_31 rfl ?_
    replace E := grd_some E
    obtain ⟨g7, E⟩ := E
    replace E := cal_some E
    obtain ⟨x6, h5, hc, E⟩ := E
    refine r_callV1 (mc := 0) (ms := 0) dX0_longestAcceptedPrefix_33 KX0_78 (c_X10_letter hc) g7 (by decide) (Nat.le_of_ble_eq_true rfl) (fun _ _ q => q.elim) ?_
    rintro _ _ ⟨rfl, rfl⟩
    clear hc
    replace E := grd_some E
    obtain ⟨g10, E⟩ := E
    replace E := cal_some E
    obtain ⟨x9, h8, hc, E⟩ := E
    refine r_callV2 (mc := 0) (ms := 0) dX0_longestAcceptedPrefix_36 KX0_81 (c_X0_step hc) g10 (by decide) (Nat.le_of_ble_eq_true rfl) (fun _ _ q => q.elim) ?_
    rintro _ _ ⟨rfl, rfl⟩
    clear hc
    refine r_istore_n dX0_longestAcceptedPrefix_39 (by decide) rfl (ls' := [some (.ref p0), some (.ref p1), some (.int x9), some (.int v3), some (.int v4)]) rfl ?_
    refine q_aload_n dX0_longestAcceptedPrefix_40 rfl ?_
    refine q_iload_n dX0_longestAcceptedPrefix_41 rfl ?_
    replace E := grd_some E
    obtain ⟨g13, E⟩ := E
    replace E := cal_some E
    obtain ⟨x12, h11, hc, E⟩ := E
    refine r_callV1 (mc := 0) (ms := 0) dX0_longestAcceptedPrefix_42 KX0_84 (c_X0_isAccepting hc) g13 (by decide) (Nat.le_of_ble_eq_true rfl) (fun _ _ q => q.elim) ?_
    rintro _ _ ⟨rfl, rfl⟩
    clear hc
    refine q_if_eq (tgt := 55) dX0_longestAcceptedPrefix_45 (by decide) (fun z14 => ?_) (fun z14 => ?_)
    · replace E := ite_t E z14
      refine q_iload_n dX0_longestAcceptedPrefix_55 rfl ?_
      exact r_fewer [some (.ref p0), some (.ref p1), some (.int x9), none, some (.int v4)] (ls_s (ls_s (ls_s (ls_n (ls_s ls_0))))) (s_X0_longestAcceptedPrefix_56 p0 p1 x9 v4 v3 h11 E hK)
    · replace E := ite_f E z14
      refine q_iload dX0_longestAcceptedPrefix_48 rfl ?_
      refine q_iconst dX0_longestAcceptedPrefix_50 ?_
      refine q_iadd dX0_longestAcceptedPrefix_51 ?_
      refine q_goto (tgt := 56) dX0_longestAcceptedPrefix_52 (by decide) ?_
      exact r_fewer [some (.ref p0), some (.ref p1), some (.int x9), none, some (.int v4)] (ls_s (ls_s (ls_s (ls_n (ls_s ls_0))))) (s_X0_longestAcceptedPrefix_56 p0 p1 x9 v4 (v4 + (Int32.ofInt 1)) h11 E hK)
theorem s_X0_longestAcceptedPrefix_19 {l : Launch} {G : mG} {Q : Option Value → mH → Prop} {X : String → mH → Prop} (p0 : Nat) (p1 : Nat) (v2 : Int32) (v3 : Int32) (v4 : Int32) (h : mH) {o : Int32 × mH} (E : g_X0_longestAcceptedPrefix_19 p0 p1 v2 v3 v4 h = some o) (hK : (fiI Q) o) : mW l G m_X0_longestAcceptedPrefix 1 0 0 19 [some (.ref p0), some (.ref p1), some (.int v2), some (.int v3), some (.int v4)] [] h Q X :=
  (lp_go (w_X0_longestAcceptedPrefix_19 l G Q X p0 p1) (fiI Q) (b_X0_longestAcceptedPrefix_19 p0 p1) (fun s o E hK => sb_X0_longestAcceptedPrefix_19 p0 p1 s.1 s.2.1 s.2.2.1 (s.2.2.2) E hK) _ _ _ E hK : w_X0_longestAcceptedPrefix_19 l G Q X p0 p1 (v2, v3, v4, h))
set_option maxRecDepth 100000 in
set_option maxHeartbeats 4000000 in
theorem s_X0_longestAcceptedPrefix_15 {l : Launch} {G : mG} {Q : Option Value → mH → Prop} {X : String → mH → Prop} (p0 : Nat) (p1 : Nat) (v2 : Int32) (s0 : Int32) (h : mH) {o : Int32 × mH} (E : g_X0_longestAcceptedPrefix_15 p0 p1 v2 s0 h = some o) (hK : (fiI Q) o) : mW l G m_X0_longestAcceptedPrefix 1 0 0 15 [some (.ref p0), some (.ref p1), some (.int v2), none, none] [.int s0] h Q X := by
  unfold g_X0_longestAcceptedPrefix_15 at E
  refine r_istore_n dX0_longestAcceptedPrefix_15 (by decide) rfl (ls' := [some (.ref p0), some (.ref p1), some (.int v2), some (.int s0), none]) rfl ?_
  refine q_iconst dX0_longestAcceptedPrefix_16 ?_
  refine r_istore dX0_longestAcceptedPrefix_17 (by decide) rfl (ls' := [some (.ref p0), some (.ref p1), some (.int v2), some (.int s0), some (.int (Int32.ofInt 0))]) rfl ?_
  exact r_fewer [some (.ref p0), some (.ref p1), some (.int v2), some (.int s0), some (.int (Int32.ofInt 0))] (ls_s (ls_s (ls_s (ls_s (ls_s ls_0))))) (s_X0_longestAcceptedPrefix_19 p0 p1 v2 s0 (Int32.ofInt 0) h E hK)
set_option maxRecDepth 100000 in
set_option maxHeartbeats 4000000 in
theorem s_X0_longestAcceptedPrefix_0 {l : Launch} {G : mG} {Q : Option Value → mH → Prop} {X : String → mH → Prop} (p0 : Nat) (p1 : Nat) (h : mH) {o : Int32 × mH} (E : f_X0_longestAcceptedPrefix p0 p1 h = some o) (hK : (fiI Q) o) : mW l G m_X0_longestAcceptedPrefix 1 0 0 0 [some (.ref p0), some (.ref p1), none, none, none] [] h Q X := by
  unfold f_X0_longestAcceptedPrefix at E
  refine q_iconst dX0_longestAcceptedPrefix_0 ?_
  refine r_istore_n dX0_longestAcceptedPrefix_1 (by decide) rfl (ls' := [some (.ref p0), some (.ref p1), some (.int (Int32.ofInt 0)), none, none]) rfl ?_
  refine q_aload_n dX0_longestAcceptedPrefix_2 rfl ?_
  refine q_iconst dX0_longestAcceptedPrefix_3 ?_
  replace E := grd_some E
  obtain ⟨g3, E⟩ := E
  replace E := cal_some E
  obtain ⟨x2, h1, hc, E⟩ := E
  refine r_callV1 (mc := 0) (ms := 0) dX0_longestAcceptedPrefix_4 KX0_84 (c_X0_isAccepting hc) g3 (by decide) (Nat.le_of_ble_eq_true rfl) (fun _ _ q => q.elim) ?_
  rintro _ _ ⟨rfl, rfl⟩
  clear hc
  refine q_if_eq (tgt := 14) dX0_longestAcceptedPrefix_7 (by decide) (fun z4 => ?_) (fun z4 => ?_)
  · replace E := ite_t E z4
    refine q_iconst dX0_longestAcceptedPrefix_14 ?_
    exact r_fewer [some (.ref p0), some (.ref p1), some (.int (Int32.ofInt 0)), none, none] (ls_s (ls_s (ls_s (ls_n (ls_n ls_0))))) (s_X0_longestAcceptedPrefix_15 p0 p1 (Int32.ofInt 0) (Int32.ofInt (-1)) h1 E hK)
  · replace E := ite_f E z4
    refine q_iconst dX0_longestAcceptedPrefix_10 ?_
    refine q_goto (tgt := 15) dX0_longestAcceptedPrefix_11 (by decide) ?_
    exact r_fewer [some (.ref p0), some (.ref p1), some (.int (Int32.ofInt 0)), none, none] (ls_s (ls_s (ls_s (ls_n (ls_n ls_0))))) (s_X0_longestAcceptedPrefix_15 p0 p1 (Int32.ofInt 0) (Int32.ofInt 0) h1 E hK)
theorem c_X0_longestAcceptedPrefix {l : Launch} {G : mG} {p0 : Nat} {p1 : Nat} {h h' : mH} {r : Int32} (E : f_X0_longestAcceptedPrefix p0 p1 h = some (r, h')) : mMet l G m_X0_longestAcceptedPrefix 1 0 0 [.ref p0, .ref p1] h (fun v k => v = some (.int r) ∧ h' = k) (fun _ _ => False) :=
  mMet_of (by decide +kernel) rfl (ac_c rfl (ac_c rfl ac_0)) (Nat.le_of_ble_eq_true rfl) (s_X0_longestAcceptedPrefix_0 p0 p1 h E (And.intro rfl rfl))
set_option maxRecDepth 100000 in
set_option maxHeartbeats 4000000 in
theorem s_X0_moveWays_65 {l : Launch} {G : mG} {Q : Option Value → mH → Prop} {X : String → mH → Prop} (p0 : Nat) (v1 : Int32) (v2 : Int32) (h : mH) {o : ((Int32 × mH) ⊕ ((Int32 × mH) ⊕ (Unit × mH)))} (E : g_X0_moveWays_65 p0 v1 v2 h = some o) (hK : (lpK (w_X0_moveWays_27 l G Q X p0 v1) (lpK (w_X0_moveWays_10 l G Q X p0) (fiV Q))) o) : mW l G m_X0_moveWays 1 0 0 65 [some (.ref p0), some (.int v1), some (.int v2), none] [] h Q X := by
  unfold g_X0_moveWays_65 at E
  replace E := bnd_x E
  obtain ⟨x1, ex1, E⟩ := E
  refine r_iinc (v := x1) dX0_moveWays_65 rfl ex1 (by decide) (ls' := [some (.ref p0), some (.int v1), some (.int x1), none]) rfl ?_
  refine q_goto (tgt := 27) dX0_moveWays_68 (by decide) ?_
  cases E
  exact r_fewer [some (.ref p0), some (.int v1), some (.int x1), none] (ls_s (ls_s (ls_s (ls_n ls_0)))) hK
set_option maxRecDepth 100000 in
set_option maxHeartbeats 4000000 in
theorem sb_X0_moveWays_27 {l : Launch} {G : mG} {Q : Option Value → mH → Prop} {X : String → mH → Prop} (p0 : Nat) (v1 : Int32) (v2 : Int32) (h : mH) {o : ((Int32 × mH) ⊕ ((Int32 × mH) ⊕ (Unit × mH)))} (E : b0_X0_moveWays_27 p0 v1 v2 h = some o) (hK : (lpK (w_X0_moveWays_27 l G Q X p0 v1) (lpK (w_X0_moveWays_10 l G Q X p0) (fiV Q))) o) : mW l G m_X0_moveWays 1 0 0 27 [some (.ref p0), some (.int v1), some (.int v2), none] [] h Q X := by
  unfold b0_X0_moveWays_27 at E
  refine q_iload_n dX0_moveWays_27 rfl ?_
  refine q_iconst dX0_moveWays_28 ?_
  refine q_icmp_ge (tgt := 71) dX0_moveWays_29 (by decide) (fun z1 => ?_) (fun z1 => ?_)
  · replace E := ite_t E z1
    replace E := bnd_x E
    obtain ⟨x2, ex2, E⟩ := E
    refine r_iinc (v := x2) dX0_moveWays_71 rfl ex2 (by decide) (ls' := [some (.ref p0), some (.int x2), some (.int v2), none]) rfl ?_
    refine q_goto (tgt := 10) dX0_moveWays_74 (by decide) ?_
    cases E
    exact r_fewer [some (.ref p0), some (.int x2), none, none] (ls_s (ls_s (ls_n (ls_n ls_0)))) hK
  · replace E := ite_f E z1
    refine q_aload_n dX0_moveWays_32 rfl ?_
    refine q_iload_n dX0_moveWays_33 rfl ?_
    refine q_iload_n dX0_moveWays_34 rfl ?_
    replace E := grd_some E
    obtain ⟨g5, E⟩ := E
    replace E := cal_some E
    obtain ⟨x4, h3, hc, E⟩ := E
    refine r_callV2 (mc := 0) (ms := 0) dX0_moveWays_35 KX0_81 (c_X0_step hc) g5 (by decide) (Nat.le_of_ble_eq_true rfl) (fun _ _ q => q.elim) ?_
    rintro _ _ ⟨rfl, rfl⟩
    clear hc
    refine r_istore_n dX0_moveWays_38 (by decide) rfl (ls' := [some (.ref p0), some (.int v1), some (.int v2), some (.int x4)]) rfl ?_
    refine q_iload_n dX0_moveWays_39 rfl ?_
    refine q_if_lt (tgt := 65) dX0_moveWays_40 (by decide) (fun z6 => ?_) (fun z6 => ?_)
    · replace E := ite_t E z6
      exact r_fewer [some (.ref p0), some (.int v1), some (.int v2), none] (ls_s (ls_s (ls_s (ls_n ls_0)))) (s_X0_moveWays_65 p0 v1 v2 h3 E hK)
    · replace E := ite_f E z6
      refine q_iload_n dX0_moveWays_43 rfl ?_
      refine q_sipush (v := (Int32.ofInt 129)) dX0_moveWays_44 (by decide) ?_
      refine q_icmp_ge (tgt := 65) dX0_moveWays_47 (by decide) (fun z7 => ?_) (fun z7 => ?_)
      · replace E := ite_t E z7
        exact r_fewer [some (.ref p0), some (.int v1), some (.int v2), none] (ls_s (ls_s (ls_s (ls_n ls_0)))) (s_X0_moveWays_65 p0 v1 v2 h3 E hK)
      · replace E := ite_f E z7
        refine q_aload_n dX0_moveWays_50 rfl ?_
        replace E := grd_some E
        obtain ⟨g8, E⟩ := E
        replace E := orf_some E
        obtain ⟨a9, ea9, E⟩ := E
        refine r_getR dX0_moveWays_51 FX0_38 g8 ea9 ?_
        refine q_iload_n dX0_moveWays_54 rfl ?_
        refine q_dup2 dX0_moveWays_55 ?_
        replace E := grd_some E
        obtain ⟨g10, E⟩ := E
        replace E := grd_some E
        obtain ⟨g11, E⟩ := E
        refine r_iaload dX0_moveWays_56 g10 g11 ?_
        refine q_aload_n dX0_moveWays_57 rfl ?_
        replace E := orf_some E
        obtain ⟨a12, ea12, E⟩ := E
        refine r_getR dX0_moveWays_58 FX0_35 g8 ea12 ?_
        refine q_iload_n dX0_moveWays_61 rfl ?_
        replace E := grd_some E
        obtain ⟨g13, E⟩ := E
        replace E := grd_some E
        obtain ⟨g14, E⟩ := E
        refine r_iaload dX0_moveWays_62 g13 g14 ?_
        refine q_iadd dX0_moveWays_63 ?_
        replace E := bnd_x E
        obtain ⟨h15, eh15, E⟩ := E
        refine r_iastore (hh := eh15) dX0_moveWays_64 g10 g11 ?_
        exact r_fewer [some (.ref p0), some (.int v1), some (.int v2), none] (ls_s (ls_s (ls_s (ls_n ls_0)))) (s_X0_moveWays_65 p0 v1 v2 h15 E hK)
theorem s_X0_moveWays_27 {l : Launch} {G : mG} {Q : Option Value → mH → Prop} {X : String → mH → Prop} (p0 : Nat) (v1 : Int32) (v2 : Int32) (h : mH) {o : ((Int32 × mH) ⊕ (Unit × mH))} (E : g_X0_moveWays_27 p0 v1 v2 h = some o) (hK : (lpK (w_X0_moveWays_10 l G Q X p0) (fiV Q)) o) : mW l G m_X0_moveWays 1 0 0 27 [some (.ref p0), some (.int v1), some (.int v2), none] [] h Q X :=
  (lp_go (w_X0_moveWays_27 l G Q X p0 v1) (lpK (w_X0_moveWays_10 l G Q X p0) (fiV Q)) (b_X0_moveWays_27 p0 v1) (fun s o E hK => sb_X0_moveWays_27 p0 v1 s.1 (s.2) E hK) _ _ _ E hK : w_X0_moveWays_27 l G Q X p0 v1 (v2, h))
set_option maxRecDepth 100000 in
set_option maxHeartbeats 4000000 in
theorem s_X0_moveWays_77 {l : Launch} {G : mG} {Q : Option Value → mH → Prop} {X : String → mH → Prop} (p0 : Nat) (h : mH) {o : Unit × mH} (E : g_X0_moveWays_77 p0 h = some o) (hK : (fiV Q) o) : mW l G m_X0_moveWays 1 0 0 77 [some (.ref p0), none, none, none] [] h Q X := by
  unfold g_X0_moveWays_77 at E
  refine q_aload_n dX0_moveWays_77 rfl ?_
  replace E := grd_some E
  obtain ⟨g1, E⟩ := E
  replace E := orf_some E
  obtain ⟨a2, ea2, E⟩ := E
  refine r_getR dX0_moveWays_78 FX0_38 g1 ea2 ?_
  refine q_iconst dX0_moveWays_81 ?_
  refine q_aload_n dX0_moveWays_82 rfl ?_
  replace E := orf_some E
  obtain ⟨a3, ea3, E⟩ := E
  refine r_getR dX0_moveWays_83 FX0_35 g1 ea3 ?_
  refine q_iconst dX0_moveWays_86 ?_
  refine q_sipush (v := (Int32.ofInt 129)) dX0_moveWays_87 (by decide) ?_
  replace E := grd_some E
  obtain ⟨g4, E⟩ := E
  replace E := grd_some E
  obtain ⟨g5, E⟩ := E
  replace E := grd_some E
  obtain ⟨g6, E⟩ := E
  replace E := bnd_x E
  obtain ⟨h7, eh7, E⟩ := E
  refine r_copy (t0 := 3) dX0_moveWays_90 AX0_118 rfl (by decide) rfl g4 g5 g6 (fun _ _ => rfl) eh7 (Nat.le_of_ble_eq_true rfl) ?_
  cases E
  exact q_return dX0_moveWays_93 rfl hK
set_option maxRecDepth 100000 in
set_option maxHeartbeats 4000000 in
theorem sb_X0_moveWays_10 {l : Launch} {G : mG} {Q : Option Value → mH → Prop} {X : String → mH → Prop} (p0 : Nat) (v1 : Int32) (h : mH) {o : ((Int32 × mH) ⊕ (Unit × mH))} (E : b0_X0_moveWays_10 p0 v1 h = some o) (hK : (lpK (w_X0_moveWays_10 l G Q X p0) (fiV Q)) o) : mW l G m_X0_moveWays 1 0 0 10 [some (.ref p0), some (.int v1), none, none] [] h Q X := by
  unfold b0_X0_moveWays_10 at E
  refine q_iload_n dX0_moveWays_10 rfl ?_
  refine q_aload_n dX0_moveWays_11 rfl ?_
  replace E := grd_some E
  obtain ⟨g1, E⟩ := E
  refine r_getI dX0_moveWays_12 FX0_41 g1 ?_
  refine q_icmp_ge (tgt := 77) dX0_moveWays_15 (by decide) (fun z2 => ?_) (fun z2 => ?_)
  · replace E := ite_t E z2
    obtain ⟨o0, E0, rfl⟩ := inrO_some E
    exact r_fewer [some (.ref p0), none, none, none] (ls_s (ls_n (ls_n (ls_n ls_0)))) (s_X0_moveWays_77 p0 h E0 hK)
  · replace E := ite_f E z2
    refine q_iload_n dX0_moveWays_18 rfl ?_
    refine q_sipush (v := (Int32.ofInt 129)) dX0_moveWays_19 (by decide) ?_
    refine q_icmp_ge (tgt := 77) dX0_moveWays_22 (by decide) (fun z3 => ?_) (fun z3 => ?_)
    · replace E := ite_t E z3
      obtain ⟨o0, E0, rfl⟩ := inrO_some E
      exact r_fewer [some (.ref p0), none, none, none] (ls_s (ls_n (ls_n (ls_n ls_0)))) (s_X0_moveWays_77 p0 h E0 hK)
    · replace E := ite_f E z3
      refine q_iconst dX0_moveWays_25 ?_
      refine r_istore_n dX0_moveWays_26 (by decide) rfl (ls' := [some (.ref p0), some (.int v1), some (.int (Int32.ofInt 0)), none]) rfl ?_
      exact r_fewer [some (.ref p0), some (.int v1), some (.int (Int32.ofInt 0)), none] (ls_s (ls_s (ls_s (ls_n ls_0)))) (s_X0_moveWays_27 p0 v1 (Int32.ofInt 0) h E hK)
theorem s_X0_moveWays_10 {l : Launch} {G : mG} {Q : Option Value → mH → Prop} {X : String → mH → Prop} (p0 : Nat) (v1 : Int32) (h : mH) {o : Unit × mH} (E : g_X0_moveWays_10 p0 v1 h = some o) (hK : (fiV Q) o) : mW l G m_X0_moveWays 1 0 0 10 [some (.ref p0), some (.int v1), none, none] [] h Q X :=
  (lp_go (w_X0_moveWays_10 l G Q X p0) (fiV Q) (b_X0_moveWays_10 p0) (fun s o E hK => sb_X0_moveWays_10 p0 s.1 (s.2) E hK) _ _ _ E hK : w_X0_moveWays_10 l G Q X p0 (v1, h))
set_option maxRecDepth 100000 in
set_option maxHeartbeats 4000000 in
theorem s_X0_moveWays_0 {l : Launch} {G : mG} {Q : Option Value → mH → Prop} {X : String → mH → Prop} (p0 : Nat) (h : mH) {o : Unit × mH} (E : f_X0_moveWays p0 h = some o) (hK : (fiV Q) o) : mW l G m_X0_moveWays 1 0 0 0 [some (.ref p0), none, none, none] [] h Q X := by
  unfold f_X0_moveWays at E
  refine q_aload_n dX0_moveWays_0 rfl ?_
  replace E := grd_some E
  obtain ⟨g1, E⟩ := E
  replace E := orf_some E
  obtain ⟨a2, ea2, E⟩ := E
  refine r_getR dX0_moveWays_1 FX0_38 g1 ea2 ?_
  refine q_iconst dX0_moveWays_4 ?_
  replace E := cal_some E
  obtain ⟨_, h3, hc, E⟩ := E
  refine r_callS2 (mc := 0) (ms := 0) dX0_moveWays_5 KX0_49 (c_J7_fill_53178 hc) (by decide) (Nat.le_of_ble_eq_true rfl) (fun _ _ q => q.elim) ?_
  rintro _ _ ⟨rfl, rfl⟩
  clear hc
  refine q_iconst dX0_moveWays_8 ?_
  refine r_istore_n dX0_moveWays_9 (by decide) rfl (ls' := [some (.ref p0), some (.int (Int32.ofInt 0)), none, none]) rfl ?_
  exact r_fewer [some (.ref p0), some (.int (Int32.ofInt 0)), none, none] (ls_s (ls_s (ls_n (ls_n ls_0)))) (s_X0_moveWays_10 p0 (Int32.ofInt 0) h3 E hK)
theorem c_X0_moveWays {l : Launch} {G : mG} {p0 : Nat} {h h' : mH} {r : Unit} (E : f_X0_moveWays p0 h = some (r, h')) : mMet l G m_X0_moveWays 1 0 0 [.ref p0] h (fun v k => v = none ∧ h' = k) (fun _ _ => False) :=
  mMet_of (by decide +kernel) rfl (ac_c rfl ac_0) (Nat.le_of_ble_eq_true rfl) (s_X0_moveWays_0 p0 h E (And.intro rfl rfl))
set_option maxRecDepth 100000 in
set_option maxHeartbeats 4000000 in
theorem s_X0_countByStates_71 {l : Launch} {G : mG} {Q : Option Value → mH → Prop} {X : String → mH → Prop} (p0 : Nat) (v3 : Int32) (s0 : Int32) (s1 : Int32) (h : mH) {o : ((Int32 × Int32 × mH) ⊕ (Int32 × mH))} (E : g_X0_countByStates_71 p0 v3 s0 s1 h = some o) (hK : (lpK (w_X0_countByStates_36 l G Q X p0) (fiI Q)) o) : mW l G m_X0_countByStates 2 0 0 71 [some (.ref p0), none, none, some (.int v3)] [.int s0, .int s1] h Q X := by
  unfold g_X0_countByStates_71 at E
  refine q_iadd dX0_countByStates_71 ?_
  replace E := bnd_x E
  obtain ⟨x1, ex1, E⟩ := E
  refine r_istore_n dX0_countByStates_72 (by decide) ex1 (ls' := [some (.ref p0), none, some (.int x1), some (.int v3)]) rfl ?_
  replace E := bnd_x E
  obtain ⟨x2, ex2, E⟩ := E
  refine r_iinc (v := x2) dX0_countByStates_73 rfl ex2 (by decide) (ls' := [some (.ref p0), none, some (.int x1), some (.int x2)]) rfl ?_
  refine q_goto (tgt := 36) dX0_countByStates_76 (by decide) ?_
  cases E
  exact r_fewer [some (.ref p0), none, some (.int x1), some (.int x2)] (ls_s (ls_n (ls_s (ls_s ls_0)))) hK
set_option maxRecDepth 100000 in
set_option maxHeartbeats 4000000 in
theorem s_X0_countByStates_79 {l : Launch} {G : mG} {Q : Option Value → mH → Prop} {X : String → mH → Prop} (v2 : Int32) (h : mH) {o : Int32 × mH} (E : g_X0_countByStates_79 v2 h = some o) (hK : (fiI Q) o) : mW l G m_X0_countByStates 2 0 0 79 [none, none, some (.int v2), none] [] h Q X := by
  unfold g_X0_countByStates_79 at E
  refine q_iload_n dX0_countByStates_79 rfl ?_
  cases E
  exact q_ireturn dX0_countByStates_80 rfl hK
set_option maxRecDepth 100000 in
set_option maxHeartbeats 4000000 in
theorem sb_X0_countByStates_36 {l : Launch} {G : mG} {Q : Option Value → mH → Prop} {X : String → mH → Prop} (p0 : Nat) (v2 : Int32) (v3 : Int32) (h : mH) {o : ((Int32 × Int32 × mH) ⊕ (Int32 × mH))} (E : b0_X0_countByStates_36 p0 v2 v3 h = some o) (hK : (lpK (w_X0_countByStates_36 l G Q X p0) (fiI Q)) o) : mW l G m_X0_countByStates 2 0 0 36 [some (.ref p0), none, some (.int v2), some (.int v3)] [] h Q X := by
  unfold b0_X0_countByStates_36 at E
  refine q_iload_n dX0_countByStates_36 rfl ?_
  refine q_aload_n dX0_countByStates_37 rfl ?_
  replace E := grd_some E
  obtain ⟨g1, E⟩ := E
  refine r_getI dX0_countByStates_38 FX0_41 g1 ?_
  refine q_icmp_ge (tgt := 79) dX0_countByStates_41 (by decide) (fun z2 => ?_) (fun z2 => ?_)
  · replace E := ite_t E z2
    obtain ⟨o0, E0, rfl⟩ := inrO_some E
    exact r_fewer [none, none, some (.int v2), none] (ls_n (ls_n (ls_s (ls_n ls_0)))) (s_X0_countByStates_79 v2 h E0 hK)
  · replace E := ite_f E z2
    refine q_iload_n dX0_countByStates_44 rfl ?_
    refine q_sipush (v := (Int32.ofInt 129)) dX0_countByStates_45 (by decide) ?_
    refine q_icmp_ge (tgt := 79) dX0_countByStates_48 (by decide) (fun z3 => ?_) (fun z3 => ?_)
    · replace E := ite_t E z3
      obtain ⟨o0, E0, rfl⟩ := inrO_some E
      exact r_fewer [none, none, some (.int v2), none] (ls_n (ls_n (ls_s (ls_n ls_0)))) (s_X0_countByStates_79 v2 h E0 hK)
    · replace E := ite_f E z3
      refine q_iload_n dX0_countByStates_51 rfl ?_
      refine q_aload_n dX0_countByStates_52 rfl ?_
      replace E := orf_some E
      obtain ⟨a4, ea4, E⟩ := E
      refine r_getR dX0_countByStates_53 FX0_28 g1 ea4 ?_
      refine q_iload_n dX0_countByStates_56 rfl ?_
      replace E := grd_some E
      obtain ⟨g5, E⟩ := E
      replace E := grd_some E
      obtain ⟨g6, E⟩ := E
      refine r_zaload dX0_countByStates_57 g5 g6 ?_
      refine q_if_eq (tgt := 70) dX0_countByStates_58 (by decide) (fun z7 => ?_) (fun z7 => ?_)
      · replace E := ite_t E z7
        refine q_iconst dX0_countByStates_70 ?_
        exact r_fewer [some (.ref p0), none, none, some (.int v3)] (ls_s (ls_n (ls_n (ls_s ls_0)))) (s_X0_countByStates_71 p0 v3 (Int32.ofInt 0) v2 h E hK)
      · replace E := ite_f E z7
        refine q_aload_n dX0_countByStates_61 rfl ?_
        replace E := orf_some E
        obtain ⟨a8, ea8, E⟩ := E
        refine r_getR dX0_countByStates_62 FX0_35 g1 ea8 ?_
        refine q_iload_n dX0_countByStates_65 rfl ?_
        replace E := grd_some E
        obtain ⟨g9, E⟩ := E
        replace E := grd_some E
        obtain ⟨g10, E⟩ := E
        refine r_iaload dX0_countByStates_66 g9 g10 ?_
        refine q_goto (tgt := 71) dX0_countByStates_67 (by decide) ?_
        exact r_fewer [some (.ref p0), none, none, some (.int v3)] (ls_s (ls_n (ls_n (ls_s ls_0)))) (s_X0_countByStates_71 p0 v3 (gi h a8 v3.toNatClampNeg) v2 h E hK)
theorem s_X0_countByStates_36 {l : Launch} {G : mG} {Q : Option Value → mH → Prop} {X : String → mH → Prop} (p0 : Nat) (v2 : Int32) (v3 : Int32) (h : mH) {o : Int32 × mH} (E : g_X0_countByStates_36 p0 v2 v3 h = some o) (hK : (fiI Q) o) : mW l G m_X0_countByStates 2 0 0 36 [some (.ref p0), none, some (.int v2), some (.int v3)] [] h Q X :=
  (lp_go (w_X0_countByStates_36 l G Q X p0) (fiI Q) (b_X0_countByStates_36 p0) (fun s o E hK => sb_X0_countByStates_36 p0 s.1 s.2.1 (s.2.2) E hK) _ _ _ E hK : w_X0_countByStates_36 l G Q X p0 (v2, v3, h))
set_option maxRecDepth 100000 in
set_option maxHeartbeats 4000000 in
theorem sb_X0_countByStates_17 {l : Launch} {G : mG} {Q : Option Value → mH → Prop} {X : String → mH → Prop} (p0 : Nat) (v1 : Int32) (v2 : Int32) (h : mH) {o : ((Int32 × mH) ⊕ (Int32 × mH))} (E : b0_X0_countByStates_17 p0 v1 v2 h = some o) (hK : (lpK (w_X0_countByStates_17 l G Q X p0 v1) (fiI Q)) o) : mW l G m_X0_countByStates 2 0 0 17 [some (.ref p0), some (.int v1), some (.int v2), none] [] h Q X := by
  unfold b0_X0_countByStates_17 at E
  refine q_iload_n dX0_countByStates_17 rfl ?_
  refine q_iload_n dX0_countByStates_18 rfl ?_
  refine q_icmp_ge (tgt := 32) dX0_countByStates_19 (by decide) (fun z1 => ?_) (fun z1 => ?_)
  · replace E := ite_t E z1
    refine q_iconst dX0_countByStates_32 ?_
    refine r_istore_n dX0_countByStates_33 (by decide) rfl (ls' := [some (.ref p0), some (.int v1), some (.int (Int32.ofInt 0)), none]) rfl ?_
    refine q_iconst dX0_countByStates_34 ?_
    refine r_istore_n dX0_countByStates_35 (by decide) rfl (ls' := [some (.ref p0), some (.int v1), some (.int (Int32.ofInt 0)), some (.int (Int32.ofInt 0))]) rfl ?_
    obtain ⟨o0, E0, rfl⟩ := inrO_some E
    exact r_fewer [some (.ref p0), none, some (.int (Int32.ofInt 0)), some (.int (Int32.ofInt 0))] (ls_s (ls_n (ls_s (ls_s ls_0)))) (s_X0_countByStates_36 p0 (Int32.ofInt 0) (Int32.ofInt 0) h E0 hK)
  · replace E := ite_f E z1
    refine q_aload_n dX0_countByStates_22 rfl ?_
    replace E := grd_some E
    obtain ⟨g4, E⟩ := E
    replace E := cal_some E
    obtain ⟨_, h2, hc, E⟩ := E
    refine r_callV0 (mc := 0) (ms := 0) dX0_countByStates_23 KX0_88 (c_X0_moveWays hc) g4 (by decide) (Nat.le_of_ble_eq_true rfl) (fun _ _ q => q.elim) ?_
    rintro _ _ ⟨rfl, rfl⟩
    clear hc
    replace E := bnd_x E
    obtain ⟨x5, ex5, E⟩ := E
    refine r_iinc (v := x5) dX0_countByStates_26 rfl ex5 (by decide) (ls' := [some (.ref p0), some (.int v1), some (.int x5), none]) rfl ?_
    refine q_goto (tgt := 17) dX0_countByStates_29 (by decide) ?_
    cases E
    exact r_fewer [some (.ref p0), some (.int v1), some (.int x5), none] (ls_s (ls_s (ls_s (ls_n ls_0)))) hK
theorem s_X0_countByStates_17 {l : Launch} {G : mG} {Q : Option Value → mH → Prop} {X : String → mH → Prop} (p0 : Nat) (v1 : Int32) (v2 : Int32) (h : mH) {o : Int32 × mH} (E : g_X0_countByStates_17 p0 v1 v2 h = some o) (hK : (fiI Q) o) : mW l G m_X0_countByStates 2 0 0 17 [some (.ref p0), some (.int v1), some (.int v2), none] [] h Q X :=
  (lp_go (w_X0_countByStates_17 l G Q X p0 v1) (fiI Q) (b_X0_countByStates_17 p0 v1) (fun s o E hK => sb_X0_countByStates_17 p0 v1 s.1 (s.2) E hK) _ _ _ E hK : w_X0_countByStates_17 l G Q X p0 v1 (v2, h))
set_option maxRecDepth 100000 in
set_option maxHeartbeats 4000000 in
theorem s_X0_countByStates_0 {l : Launch} {G : mG} {Q : Option Value → mH → Prop} {X : String → mH → Prop} (p0 : Nat) (v1 : Int32) (h : mH) {o : Int32 × mH} (E : f_X0_countByStates p0 v1 h = some o) (hK : (fiI Q) o) : mW l G m_X0_countByStates 2 0 0 0 [some (.ref p0), some (.int v1), none, none] [] h Q X := by
  unfold f_X0_countByStates at E
  refine q_aload_n dX0_countByStates_0 rfl ?_
  replace E := grd_some E
  obtain ⟨g1, E⟩ := E
  replace E := orf_some E
  obtain ⟨a2, ea2, E⟩ := E
  refine r_getR dX0_countByStates_1 FX0_35 g1 ea2 ?_
  refine q_iconst dX0_countByStates_4 ?_
  replace E := cal_some E
  obtain ⟨_, h3, hc, E⟩ := E
  refine r_callS2 (mc := 0) (ms := 0) dX0_countByStates_5 KX0_49 (c_J7_fill_53178 hc) (by decide) (Nat.le_of_ble_eq_true rfl) (fun _ _ q => q.elim) ?_
  rintro _ _ ⟨rfl, rfl⟩
  clear hc
  refine q_aload_n dX0_countByStates_8 rfl ?_
  replace E := grd_some E
  obtain ⟨g5, E⟩ := E
  replace E := orf_some E
  obtain ⟨a6, ea6, E⟩ := E
  refine r_getR dX0_countByStates_9 FX0_35 g5 ea6 ?_
  refine q_iconst dX0_countByStates_12 ?_
  refine q_iconst dX0_countByStates_13 ?_
  replace E := grd_some E
  obtain ⟨g8, E⟩ := E
  replace E := grd_some E
  obtain ⟨g9, E⟩ := E
  replace E := bnd_x E
  obtain ⟨h7, eh7, E⟩ := E
  refine r_iastore (hh := eh7) dX0_countByStates_14 g8 g9 ?_
  refine q_iconst dX0_countByStates_15 ?_
  refine r_istore_n dX0_countByStates_16 (by decide) rfl (ls' := [some (.ref p0), some (.int v1), some (.int (Int32.ofInt 0)), none]) rfl ?_
  exact r_fewer [some (.ref p0), some (.int v1), some (.int (Int32.ofInt 0)), none] (ls_s (ls_s (ls_s (ls_n ls_0)))) (s_X0_countByStates_17 p0 v1 (Int32.ofInt 0) h7 E hK)
theorem c_X0_countByStates {l : Launch} {G : mG} {p0 : Nat} {v1 : Int32} {h h' : mH} {r : Int32} (E : f_X0_countByStates p0 v1 h = some (r, h')) : mMet l G m_X0_countByStates 2 0 0 [.ref p0, .int v1] h (fun v k => v = some (.int r) ∧ h' = k) (fun _ _ => False) :=
  mMet_of (by decide +kernel) rfl (ac_c rfl (ac_c rfl ac_0)) (Nat.le_of_ble_eq_true rfl) (s_X0_countByStates_0 p0 v1 h E (And.intro rfl rfl))
set_option maxRecDepth 100000 in
set_option maxHeartbeats 4000000 in
theorem sb_X0_acceptsDigits_8 {l : Launch} {G : mG} {Q : Option Value → mH → Prop} {X : String → mH → Prop} (p0 : Nat) (v2 : Int32) (v3 : Int32) (v4 : Int32) (v5 : Int32) (h : mH) {o : ((Int32 × Int32 × Int32 × mH) ⊕ (Int32 × mH))} (E : b0_X0_acceptsDigits_8 p0 v2 v3 v4 v5 h = some o) (hK : (lpK (w_X0_acceptsDigits_8 l G Q X p0 v2) (fiI Q)) o) : mW l G m_X0_acceptsDigits 1 0 0 8 [some (.ref p0), none, some (.int v2), some (.int v3), some (.int v4), some (.int v5)] [] h Q X := by
  unfold b0_X0_acceptsDigits_8 at E
  refine q_iload dX0_acceptsDigits_8 rfl ?_
  refine q_iload_n dX0_acceptsDigits_10 rfl ?_
  refine q_icmp_ge (tgt := 36) dX0_acceptsDigits_11 (by decide) (fun z1 => ?_) (fun z1 => ?_)
  · replace E := ite_t E z1
    refine q_aload_n dX0_acceptsDigits_36 rfl ?_
    refine q_iload_n dX0_acceptsDigits_37 rfl ?_
    replace E := grd_some E
    obtain ⟨g4, E⟩ := E
    replace E := cal_some E
    obtain ⟨x3, h2, hc, E⟩ := E
    refine r_callV1 (mc := 0) (ms := 0) dX0_acceptsDigits_38 KX0_84 (c_X0_isAccepting hc) g4 (by decide) (Nat.le_of_ble_eq_true rfl) (fun _ _ q => q.elim) ?_
    rintro _ _ ⟨rfl, rfl⟩
    clear hc
    replace E := grd_some E
    obtain ⟨g5, E⟩ := E
    cases E
    exact q_zreturn dX0_acceptsDigits_41 rfl (narZ g5) hK
  · replace E := ite_f E z1
    refine q_aload_n dX0_acceptsDigits_14 rfl ?_
    refine q_iload_n dX0_acceptsDigits_15 rfl ?_
    refine q_iload dX0_acceptsDigits_16 rfl ?_
    refine q_iconst dX0_acceptsDigits_18 ?_
    refine q_irem (by decide) dX0_acceptsDigits_19 ?_
    replace E := grd_some E
    obtain ⟨g8, E⟩ := E
    replace E := cal_some E
    obtain ⟨x7, h6, hc, E⟩ := E
    refine r_callV2 (mc := 0) (ms := 0) dX0_acceptsDigits_20 KX0_81 (c_X0_step hc) g8 (by decide) (Nat.le_of_ble_eq_true rfl) (fun _ _ q => q.elim) ?_
    rintro _ _ ⟨rfl, rfl⟩
    clear hc
    refine r_istore_n dX0_acceptsDigits_23 (by decide) rfl (ls' := [some (.ref p0), none, some (.int v2), some (.int x7), some (.int v4), some (.int v5)]) rfl ?_
    refine q_iload dX0_acceptsDigits_24 rfl ?_
    refine q_iconst dX0_acceptsDigits_26 ?_
    refine q_idiv (by decide) dX0_acceptsDigits_27 ?_
    replace E := bnd_x E
    obtain ⟨x9, ex9, E⟩ := E
    refine r_istore dX0_acceptsDigits_28 (by decide) ex9 (ls' := [some (.ref p0), none, some (.int v2), some (.int x7), some (.int x9), some (.int v5)]) rfl ?_
    replace E := bnd_x E
    obtain ⟨x10, ex10, E⟩ := E
    refine r_iinc (v := x10) dX0_acceptsDigits_30 rfl ex10 (by decide) (ls' := [some (.ref p0), none, some (.int v2), some (.int x7), some (.int x9), some (.int x10)]) rfl ?_
    refine q_goto (tgt := 8) dX0_acceptsDigits_33 (by decide) ?_
    cases E
    exact r_fewer [some (.ref p0), none, some (.int v2), some (.int x7), some (.int x9), some (.int x10)] (ls_s (ls_n (ls_s (ls_s (ls_s (ls_s ls_0)))))) hK
theorem s_X0_acceptsDigits_8 {l : Launch} {G : mG} {Q : Option Value → mH → Prop} {X : String → mH → Prop} (p0 : Nat) (v2 : Int32) (v3 : Int32) (v4 : Int32) (v5 : Int32) (h : mH) {o : Int32 × mH} (E : g_X0_acceptsDigits_8 p0 v2 v3 v4 v5 h = some o) (hK : (fiI Q) o) : mW l G m_X0_acceptsDigits 1 0 0 8 [some (.ref p0), none, some (.int v2), some (.int v3), some (.int v4), some (.int v5)] [] h Q X :=
  (lp_go (w_X0_acceptsDigits_8 l G Q X p0 v2) (fiI Q) (b_X0_acceptsDigits_8 p0 v2) (fun s o E hK => sb_X0_acceptsDigits_8 p0 v2 s.1 s.2.1 s.2.2.1 (s.2.2.2) E hK) _ _ _ E hK : w_X0_acceptsDigits_8 l G Q X p0 v2 (v3, v4, v5, h))
set_option maxRecDepth 100000 in
set_option maxHeartbeats 4000000 in
theorem s_X0_acceptsDigits_0 {l : Launch} {G : mG} {Q : Option Value → mH → Prop} {X : String → mH → Prop} (p0 : Nat) (v1 : Int32) (v2 : Int32) (h : mH) {o : Int32 × mH} (E : f_X0_acceptsDigits p0 v1 v2 h = some o) (hK : (fiI Q) o) : mW l G m_X0_acceptsDigits 1 0 0 0 [some (.ref p0), some (.int v1), some (.int v2), none, none, none] [] h Q X := by
  unfold f_X0_acceptsDigits at E
  refine q_iconst dX0_acceptsDigits_0 ?_
  refine r_istore_n dX0_acceptsDigits_1 (by decide) rfl (ls' := [some (.ref p0), some (.int v1), some (.int v2), some (.int (Int32.ofInt 0)), none, none]) rfl ?_
  refine q_iload_n dX0_acceptsDigits_2 rfl ?_
  refine r_istore dX0_acceptsDigits_3 (by decide) rfl (ls' := [some (.ref p0), some (.int v1), some (.int v2), some (.int (Int32.ofInt 0)), some (.int v1), none]) rfl ?_
  refine q_iconst dX0_acceptsDigits_5 ?_
  refine r_istore dX0_acceptsDigits_6 (by decide) rfl (ls' := [some (.ref p0), some (.int v1), some (.int v2), some (.int (Int32.ofInt 0)), some (.int v1), some (.int (Int32.ofInt 0))]) rfl ?_
  exact r_fewer [some (.ref p0), none, some (.int v2), some (.int (Int32.ofInt 0)), some (.int v1), some (.int (Int32.ofInt 0))] (ls_s (ls_n (ls_s (ls_s (ls_s (ls_s ls_0)))))) (s_X0_acceptsDigits_8 p0 v2 (Int32.ofInt 0) v1 (Int32.ofInt 0) h E hK)
theorem c_X0_acceptsDigits {l : Launch} {G : mG} {p0 : Nat} {v1 : Int32} {v2 : Int32} {h h' : mH} {r : Int32} (E : f_X0_acceptsDigits p0 v1 v2 h = some (r, h')) : mMet l G m_X0_acceptsDigits 1 0 0 [.ref p0, .int v1, .int v2] h (fun v k => v = some (.int r) ∧ h' = k) (fun _ _ => False) :=
  mMet_of (by decide +kernel) rfl (ac_c rfl (ac_c rfl (ac_c rfl ac_0))) (Nat.le_of_ble_eq_true rfl) (s_X0_acceptsDigits_0 p0 v1 v2 h E (And.intro rfl rfl))
set_option maxRecDepth 100000 in
set_option maxHeartbeats 4000000 in
theorem s_X0_countByListing_52 {l : Launch} {G : mG} {Q : Option Value → mH → Prop} {X : String → mH → Prop} (p0 : Nat) (v1 : Int32) (v2 : Int32) (v4 : Int32) (s0 : Int32) (s1 : Int32) (h : mH) {o : ((Int32 × Int32 × mH) ⊕ (Int32 × mH))} (E : g_X0_countByListing_52 p0 v1 v2 v4 s0 s1 h = some o) (hK : (lpK (w_X0_countByListing_30 l G Q X p0 v1 v2) (fiI Q)) o) : mW l G m_X0_countByListing 2 0 0 52 [some (.ref p0), some (.int v1), some (.int v2), none, some (.int v4)] [.int s0, .int s1] h Q X := by
  unfold g_X0_countByListing_52 at E
  refine q_iadd dX0_countByListing_52 ?_
  replace E := bnd_x E
  obtain ⟨x1, ex1, E⟩ := E
  refine r_istore_n dX0_countByListing_53 (by decide) ex1 (ls' := [some (.ref p0), some (.int v1), some (.int v2), some (.int x1), some (.int v4)]) rfl ?_
  replace E := bnd_x E
  obtain ⟨x2, ex2, E⟩ := E
  refine r_iinc (v := x2) dX0_countByListing_54 rfl ex2 (by decide) (ls' := [some (.ref p0), some (.int v1), some (.int v2), some (.int x1), some (.int x2)]) rfl ?_
  refine q_goto (tgt := 30) dX0_countByListing_57 (by decide) ?_
  cases E
  exact r_fewer [some (.ref p0), some (.int v1), some (.int v2), some (.int x1), some (.int x2)] (ls_s (ls_s (ls_s (ls_s (ls_s ls_0))))) hK
set_option maxRecDepth 100000 in
set_option maxHeartbeats 4000000 in
theorem sb_X0_countByListing_30 {l : Launch} {G : mG} {Q : Option Value → mH → Prop} {X : String → mH → Prop} (p0 : Nat) (v1 : Int32) (v2 : Int32) (v3 : Int32) (v4 : Int32) (h : mH) {o : ((Int32 × Int32 × mH) ⊕ (Int32 × mH))} (E : b0_X0_countByListing_30 p0 v1 v2 v3 v4 h = some o) (hK : (lpK (w_X0_countByListing_30 l G Q X p0 v1 v2) (fiI Q)) o) : mW l G m_X0_countByListing 2 0 0 30 [some (.ref p0), some (.int v1), some (.int v2), some (.int v3), some (.int v4)] [] h Q X := by
  unfold b0_X0_countByListing_30 at E
  refine q_iload dX0_countByListing_30 rfl ?_
  refine q_iload_n dX0_countByListing_32 rfl ?_
  refine q_icmp_ge (tgt := 60) dX0_countByListing_33 (by decide) (fun z1 => ?_) (fun z1 => ?_)
  · replace E := ite_t E z1
    refine q_iload_n dX0_countByListing_60 rfl ?_
    cases E
    exact q_ireturn dX0_countByListing_61 rfl hK
  · replace E := ite_f E z1
    refine q_iload_n dX0_countByListing_36 rfl ?_
    refine q_aload_n dX0_countByListing_37 rfl ?_
    refine q_iload dX0_countByListing_38 rfl ?_
    refine q_iload_n dX0_countByListing_40 rfl ?_
    replace E := grd_some E
    obtain ⟨g4, E⟩ := E
    replace E := cal_some E
    obtain ⟨x3, h2, hc, E⟩ := E
    refine r_callV2 (mc := 0) (ms := 0) dX0_countByListing_41 KX0_91 (c_X0_acceptsDigits hc) g4 (by decide) (Nat.le_of_ble_eq_true rfl) (fun _ _ q => q.elim) ?_
    rintro _ _ ⟨rfl, rfl⟩
    clear hc
    refine q_if_eq (tgt := 51) dX0_countByListing_44 (by decide) (fun z5 => ?_) (fun z5 => ?_)
    · replace E := ite_t E z5
      refine q_iconst dX0_countByListing_51 ?_
      exact r_fewer [some (.ref p0), some (.int v1), some (.int v2), none, some (.int v4)] (ls_s (ls_s (ls_s (ls_n (ls_s ls_0))))) (s_X0_countByListing_52 p0 v1 v2 v4 (Int32.ofInt 0) v3 h2 E hK)
    · replace E := ite_f E z5
      refine q_iconst dX0_countByListing_47 ?_
      refine q_goto (tgt := 52) dX0_countByListing_48 (by decide) ?_
      exact r_fewer [some (.ref p0), some (.int v1), some (.int v2), none, some (.int v4)] (ls_s (ls_s (ls_s (ls_n (ls_s ls_0))))) (s_X0_countByListing_52 p0 v1 v2 v4 (Int32.ofInt 1) v3 h2 E hK)
theorem s_X0_countByListing_30 {l : Launch} {G : mG} {Q : Option Value → mH → Prop} {X : String → mH → Prop} (p0 : Nat) (v1 : Int32) (v2 : Int32) (v3 : Int32) (v4 : Int32) (h : mH) {o : Int32 × mH} (E : g_X0_countByListing_30 p0 v1 v2 v3 v4 h = some o) (hK : (fiI Q) o) : mW l G m_X0_countByListing 2 0 0 30 [some (.ref p0), some (.int v1), some (.int v2), some (.int v3), some (.int v4)] [] h Q X :=
  (lp_go (w_X0_countByListing_30 l G Q X p0 v1 v2) (fiI Q) (b_X0_countByListing_30 p0 v1 v2) (fun s o E hK => sb_X0_countByListing_30 p0 v1 v2 s.1 s.2.1 (s.2.2) E hK) _ _ _ E hK : w_X0_countByListing_30 l G Q X p0 v1 v2 (v3, v4, h))
set_option maxRecDepth 100000 in
set_option maxHeartbeats 4000000 in
theorem s_X0_countByListing_25 {l : Launch} {G : mG} {Q : Option Value → mH → Prop} {X : String → mH → Prop} (p0 : Nat) (v1 : Int32) (v2 : Int32) (h : mH) {o : Int32 × mH} (E : g_X0_countByListing_25 p0 v1 v2 h = some o) (hK : (fiI Q) o) : mW l G m_X0_countByListing 2 0 0 25 [some (.ref p0), some (.int v1), some (.int v2), none, none] [] h Q X := by
  unfold g_X0_countByListing_25 at E
  refine q_iconst dX0_countByListing_25 ?_
  refine r_istore_n dX0_countByListing_26 (by decide) rfl (ls' := [some (.ref p0), some (.int v1), some (.int v2), some (.int (Int32.ofInt 0)), none]) rfl ?_
  refine q_iconst dX0_countByListing_27 ?_
  refine r_istore dX0_countByListing_28 (by decide) rfl (ls' := [some (.ref p0), some (.int v1), some (.int v2), some (.int (Int32.ofInt 0)), some (.int (Int32.ofInt 0))]) rfl ?_
  exact r_fewer [some (.ref p0), some (.int v1), some (.int v2), some (.int (Int32.ofInt 0)), some (.int (Int32.ofInt 0))] (ls_s (ls_s (ls_s (ls_s (ls_s ls_0))))) (s_X0_countByListing_30 p0 v1 v2 (Int32.ofInt 0) (Int32.ofInt 0) h E hK)
set_option maxRecDepth 100000 in
set_option maxHeartbeats 4000000 in
theorem sb_X0_countByListing_4 {l : Launch} {G : mG} {Q : Option Value → mH → Prop} {X : String → mH → Prop} (p0 : Nat) (v1 : Int32) (v2 : Int32) (v3 : Int32) (h : mH) {o : ((Int32 × Int32 × mH) ⊕ (Int32 × mH))} (E : b0_X0_countByListing_4 p0 v1 v2 v3 h = some o) (hK : (lpK (w_X0_countByListing_4 l G Q X p0 v1) (fiI Q)) o) : mW l G m_X0_countByListing 2 0 0 4 [some (.ref p0), some (.int v1), some (.int v2), some (.int v3), none] [] h Q X := by
  unfold b0_X0_countByListing_4 at E
  refine q_iload_n dX0_countByListing_4 rfl ?_
  refine q_iload_n dX0_countByListing_5 rfl ?_
  refine q_icmp_ge (tgt := 25) dX0_countByListing_6 (by decide) (fun z1 => ?_) (fun z1 => ?_)
  · replace E := ite_t E z1
    obtain ⟨o0, E0, rfl⟩ := inrO_some E
    exact r_fewer [some (.ref p0), some (.int v1), some (.int v2), none, none] (ls_s (ls_s (ls_s (ls_n (ls_n ls_0))))) (s_X0_countByListing_25 p0 v1 v2 h E0 hK)
  · replace E := ite_f E z1
    refine q_iload_n dX0_countByListing_9 rfl ?_
    refine q_bipush (v := (Int32.ofInt 6)) dX0_countByListing_10 (by decide) ?_
    refine q_icmp_ge (tgt := 25) dX0_countByListing_12 (by decide) (fun z2 => ?_) (fun z2 => ?_)
    · replace E := ite_t E z2
      obtain ⟨o0, E0, rfl⟩ := inrO_some E
      exact r_fewer [some (.ref p0), some (.int v1), some (.int v2), none, none] (ls_s (ls_s (ls_s (ls_n (ls_n ls_0))))) (s_X0_countByListing_25 p0 v1 v2 h E0 hK)
    · replace E := ite_f E z2
      refine q_iload_n dX0_countByListing_15 rfl ?_
      refine q_iconst dX0_countByListing_16 ?_
      refine q_imul dX0_countByListing_17 ?_
      replace E := bnd_x E
      obtain ⟨x3, ex3, E⟩ := E
      refine r_istore_n dX0_countByListing_18 (by decide) ex3 (ls' := [some (.ref p0), some (.int v1), some (.int x3), some (.int v3), none]) rfl ?_
      replace E := bnd_x E
      obtain ⟨x4, ex4, E⟩ := E
      refine r_iinc (v := x4) dX0_countByListing_19 rfl ex4 (by decide) (ls' := [some (.ref p0), some (.int v1), some (.int x3), some (.int x4), none]) rfl ?_
      refine q_goto (tgt := 4) dX0_countByListing_22 (by decide) ?_
      cases E
      exact r_fewer [some (.ref p0), some (.int v1), some (.int x3), some (.int x4), none] (ls_s (ls_s (ls_s (ls_s (ls_n ls_0))))) hK
theorem s_X0_countByListing_4 {l : Launch} {G : mG} {Q : Option Value → mH → Prop} {X : String → mH → Prop} (p0 : Nat) (v1 : Int32) (v2 : Int32) (v3 : Int32) (h : mH) {o : Int32 × mH} (E : g_X0_countByListing_4 p0 v1 v2 v3 h = some o) (hK : (fiI Q) o) : mW l G m_X0_countByListing 2 0 0 4 [some (.ref p0), some (.int v1), some (.int v2), some (.int v3), none] [] h Q X :=
  (lp_go (w_X0_countByListing_4 l G Q X p0 v1) (fiI Q) (b_X0_countByListing_4 p0 v1) (fun s o E hK => sb_X0_countByListing_4 p0 v1 s.1 s.2.1 (s.2.2) E hK) _ _ _ E hK : w_X0_countByListing_4 l G Q X p0 v1 (v2, v3, h))
set_option maxRecDepth 100000 in
set_option maxHeartbeats 4000000 in
theorem s_X0_countByListing_0 {l : Launch} {G : mG} {Q : Option Value → mH → Prop} {X : String → mH → Prop} (p0 : Nat) (v1 : Int32) (h : mH) {o : Int32 × mH} (E : f_X0_countByListing p0 v1 h = some o) (hK : (fiI Q) o) : mW l G m_X0_countByListing 2 0 0 0 [some (.ref p0), some (.int v1), none, none, none] [] h Q X := by
  unfold f_X0_countByListing at E
  refine q_iconst dX0_countByListing_0 ?_
  refine r_istore_n dX0_countByListing_1 (by decide) rfl (ls' := [some (.ref p0), some (.int v1), some (.int (Int32.ofInt 1)), none, none]) rfl ?_
  refine q_iconst dX0_countByListing_2 ?_
  refine r_istore_n dX0_countByListing_3 (by decide) rfl (ls' := [some (.ref p0), some (.int v1), some (.int (Int32.ofInt 1)), some (.int (Int32.ofInt 0)), none]) rfl ?_
  exact r_fewer [some (.ref p0), some (.int v1), some (.int (Int32.ofInt 1)), some (.int (Int32.ofInt 0)), none] (ls_s (ls_s (ls_s (ls_s (ls_n ls_0))))) (s_X0_countByListing_4 p0 v1 (Int32.ofInt 1) (Int32.ofInt 0) h E hK)
theorem c_X0_countByListing {l : Launch} {G : mG} {p0 : Nat} {v1 : Int32} {h h' : mH} {r : Int32} (E : f_X0_countByListing p0 v1 h = some (r, h')) : mMet l G m_X0_countByListing 2 0 0 [.ref p0, .int v1] h (fun v k => v = some (.int r) ∧ h' = k) (fun _ _ => False) :=
  mMet_of (by decide +kernel) rfl (ac_c rfl (ac_c rfl ac_0)) (Nat.le_of_ble_eq_true rfl) (s_X0_countByListing_0 p0 v1 h E (And.intro rfl rfl))
set_option maxRecDepth 100000 in
set_option maxHeartbeats 4000000 in
theorem s_X0_firstAccepting_34 {l : Launch} {G : mG} {Q : Option Value → mH → Prop} {X : String → mH → Prop} (h : mH) {o : Int32 × mH} (E : g_X0_firstAccepting_34  h = some o) (hK : (fiI Q) o) : mW l G m_X0_firstAccepting 0 0 0 34 [none, none] [] h Q X := by
  unfold g_X0_firstAccepting_34 at E
  refine q_iconst dX0_firstAccepting_34 ?_
  cases E
  exact q_ireturn dX0_firstAccepting_35 rfl hK
set_option maxRecDepth 100000 in
set_option maxHeartbeats 4000000 in
theorem sb_X0_firstAccepting_2 {l : Launch} {G : mG} {Q : Option Value → mH → Prop} {X : String → mH → Prop} (p0 : Nat) (v1 : Int32) (h : mH) {o : ((Int32 × mH) ⊕ (Int32 × mH))} (E : b0_X0_firstAccepting_2 p0 v1 h = some o) (hK : (lpK (w_X0_firstAccepting_2 l G Q X p0) (fiI Q)) o) : mW l G m_X0_firstAccepting 0 0 0 2 [some (.ref p0), some (.int v1)] [] h Q X := by
  unfold b0_X0_firstAccepting_2 at E
  refine q_iload_n dX0_firstAccepting_2 rfl ?_
  refine q_aload_n dX0_firstAccepting_3 rfl ?_
  replace E := grd_some E
  obtain ⟨g1, E⟩ := E
  refine r_getI dX0_firstAccepting_4 FX0_41 g1 ?_
  refine q_icmp_ge (tgt := 34) dX0_firstAccepting_7 (by decide) (fun z2 => ?_) (fun z2 => ?_)
  · replace E := ite_t E z2
    obtain ⟨o0, E0, rfl⟩ := inrO_some E
    exact r_fewer [none, none] (ls_n (ls_n ls_0)) (s_X0_firstAccepting_34 h E0 hK)
  · replace E := ite_f E z2
    refine q_iload_n dX0_firstAccepting_10 rfl ?_
    refine q_sipush (v := (Int32.ofInt 129)) dX0_firstAccepting_11 (by decide) ?_
    refine q_icmp_ge (tgt := 34) dX0_firstAccepting_14 (by decide) (fun z3 => ?_) (fun z3 => ?_)
    · replace E := ite_t E z3
      obtain ⟨o0, E0, rfl⟩ := inrO_some E
      exact r_fewer [none, none] (ls_n (ls_n ls_0)) (s_X0_firstAccepting_34 h E0 hK)
    · replace E := ite_f E z3
      refine q_aload_n dX0_firstAccepting_17 rfl ?_
      replace E := orf_some E
      obtain ⟨a4, ea4, E⟩ := E
      refine r_getR dX0_firstAccepting_18 FX0_28 g1 ea4 ?_
      refine q_iload_n dX0_firstAccepting_21 rfl ?_
      replace E := grd_some E
      obtain ⟨g5, E⟩ := E
      replace E := grd_some E
      obtain ⟨g6, E⟩ := E
      refine r_zaload dX0_firstAccepting_22 g5 g6 ?_
      refine q_if_eq (tgt := 28) dX0_firstAccepting_23 (by decide) (fun z7 => ?_) (fun z7 => ?_)
      · replace E := ite_t E z7
        replace E := bnd_x E
        obtain ⟨x8, ex8, E⟩ := E
        refine r_iinc (v := x8) dX0_firstAccepting_28 rfl ex8 (by decide) (ls' := [some (.ref p0), some (.int x8)]) rfl ?_
        refine q_goto (tgt := 2) dX0_firstAccepting_31 (by decide) ?_
        cases E
        exact r_fewer [some (.ref p0), some (.int x8)] (ls_s (ls_s ls_0)) hK
      · replace E := ite_f E z7
        refine q_iload_n dX0_firstAccepting_26 rfl ?_
        cases E
        exact q_ireturn dX0_firstAccepting_27 rfl hK
theorem s_X0_firstAccepting_2 {l : Launch} {G : mG} {Q : Option Value → mH → Prop} {X : String → mH → Prop} (p0 : Nat) (v1 : Int32) (h : mH) {o : Int32 × mH} (E : g_X0_firstAccepting_2 p0 v1 h = some o) (hK : (fiI Q) o) : mW l G m_X0_firstAccepting 0 0 0 2 [some (.ref p0), some (.int v1)] [] h Q X :=
  (lp_go (w_X0_firstAccepting_2 l G Q X p0) (fiI Q) (b_X0_firstAccepting_2 p0) (fun s o E hK => sb_X0_firstAccepting_2 p0 s.1 (s.2) E hK) _ _ _ E hK : w_X0_firstAccepting_2 l G Q X p0 (v1, h))
set_option maxRecDepth 100000 in
set_option maxHeartbeats 4000000 in
theorem s_X0_firstAccepting_0 {l : Launch} {G : mG} {Q : Option Value → mH → Prop} {X : String → mH → Prop} (p0 : Nat) (h : mH) {o : Int32 × mH} (E : f_X0_firstAccepting p0 h = some o) (hK : (fiI Q) o) : mW l G m_X0_firstAccepting 0 0 0 0 [some (.ref p0), none] [] h Q X := by
  unfold f_X0_firstAccepting at E
  refine q_iconst dX0_firstAccepting_0 ?_
  refine r_istore_n dX0_firstAccepting_1 (by decide) rfl (ls' := [some (.ref p0), some (.int (Int32.ofInt 0))]) rfl ?_
  exact r_fewer [some (.ref p0), some (.int (Int32.ofInt 0))] (ls_s (ls_s ls_0)) (s_X0_firstAccepting_2 p0 (Int32.ofInt 0) h E hK)
theorem c_X0_firstAccepting {l : Launch} {G : mG} {p0 : Nat} {h h' : mH} {r : Int32} (E : f_X0_firstAccepting p0 h = some (r, h')) : mMet l G m_X0_firstAccepting 0 0 0 [.ref p0] h (fun v k => v = some (.int r) ∧ h' = k) (fun _ _ => False) :=
  mMet_of (by decide +kernel) rfl (ac_c rfl ac_0) (Nat.le_of_ble_eq_true rfl) (s_X0_firstAccepting_0 p0 h E (And.intro rfl rfl))
set_option maxRecDepth 100000 in
set_option maxHeartbeats 4000000 in
theorem s_X0_shortestAccepted_49 {l : Launch} {G : mG} {Q : Option Value → mH → Prop} {X : String → mH → Prop} (s0 : Int32) (h : mH) {o : Int32 × mH} (E : g_X0_shortestAccepted_49 s0 h = some o) (hK : (fiI Q) o) : mW l G m_X0_shortestAccepted 1 0 0 49 [none, none, none] [.int s0] h Q X := by
  unfold g_X0_shortestAccepted_49 at E
  cases E
  exact q_ireturn dX0_shortestAccepted_49 rfl hK
set_option maxRecDepth 100000 in
set_option maxHeartbeats 4000000 in
theorem s_X0_shortestAccepted_40 {l : Launch} {G : mG} {Q : Option Value → mH → Prop} {X : String → mH → Prop} (v1 : Int32) (v2 : Int32) (h : mH) {o : Int32 × mH} (E : g_X0_shortestAccepted_40 v1 v2 h = some o) (hK : (fiI Q) o) : mW l G m_X0_shortestAccepted 1 0 0 40 [none, some (.int v1), some (.int v2)] [] h Q X := by
  unfold g_X0_shortestAccepted_40 at E
  refine q_iload_n dX0_shortestAccepted_40 rfl ?_
  refine q_if_ge (tgt := 48) dX0_shortestAccepted_41 (by decide) (fun z1 => ?_) (fun z1 => ?_)
  · replace E := ite_t E z1
    refine q_iload_n dX0_shortestAccepted_48 rfl ?_
    exact r_fewer [none, none, none] (ls_n (ls_n (ls_n ls_0))) (s_X0_shortestAccepted_49 v1 h E hK)
  · replace E := ite_f E z1
    refine q_iconst dX0_shortestAccepted_44 ?_
    refine q_goto (tgt := 49) dX0_shortestAccepted_45 (by decide) ?_
    exact r_fewer [none, none, none] (ls_n (ls_n (ls_n ls_0))) (s_X0_shortestAccepted_49 (Int32.ofInt (-1)) h E hK)
set_option maxRecDepth 100000 in
set_option maxHeartbeats 4000000 in
theorem sb_X0_shortestAccepted_7 {l : Launch} {G : mG} {Q : Option Value → mH → Prop} {X : String → mH → Prop} (p0 : Nat) (v1 : Int32) (v2 : Int32) (h : mH) {o : ((Int32 × Int32 × mH) ⊕ (Int32 × mH))} (E : b0_X0_shortestAccepted_7 p0 v1 v2 h = some o) (hK : (lpK (w_X0_shortestAccepted_7 l G Q X p0) (fiI Q)) o) : mW l G m_X0_shortestAccepted 1 0 0 7 [some (.ref p0), some (.int v1), some (.int v2)] [] h Q X := by
  unfold b0_X0_shortestAccepted_7 at E
  refine q_iload_n dX0_shortestAccepted_7 rfl ?_
  refine q_if_le (tgt := 40) dX0_shortestAccepted_8 (by decide) (fun z1 => ?_) (fun z1 => ?_)
  · replace E := ite_t E z1
    obtain ⟨o0, E0, rfl⟩ := inrO_some E
    exact r_fewer [none, some (.int v1), some (.int v2)] (ls_n (ls_s (ls_s ls_0))) (s_X0_shortestAccepted_40 v1 v2 h E0 hK)
  · replace E := ite_f E z1
    refine q_iload_n dX0_shortestAccepted_11 rfl ?_
    refine q_sipush (v := (Int32.ofInt 129)) dX0_shortestAccepted_12 (by decide) ?_
    refine q_icmp_ge (tgt := 40) dX0_shortestAccepted_15 (by decide) (fun z2 => ?_) (fun z2 => ?_)
    · replace E := ite_t E z2
      obtain ⟨o0, E0, rfl⟩ := inrO_some E
      exact r_fewer [none, some (.int v1), some (.int v2)] (ls_n (ls_s (ls_s ls_0))) (s_X0_shortestAccepted_40 v1 v2 h E0 hK)
    · replace E := ite_f E z2
      refine q_iload_n dX0_shortestAccepted_18 rfl ?_
      refine q_sipush (v := (Int32.ofInt 129)) dX0_shortestAccepted_19 (by decide) ?_
      refine q_icmp_ge (tgt := 40) dX0_shortestAccepted_22 (by decide) (fun z3 => ?_) (fun z3 => ?_)
      · replace E := ite_t E z3
        obtain ⟨o0, E0, rfl⟩ := inrO_some E
        exact r_fewer [none, some (.int v1), some (.int v2)] (ls_n (ls_s (ls_s ls_0))) (s_X0_shortestAccepted_40 v1 v2 h E0 hK)
      · replace E := ite_f E z3
        refine q_aload_n dX0_shortestAccepted_25 rfl ?_
        replace E := grd_some E
        obtain ⟨g4, E⟩ := E
        replace E := orf_some E
        obtain ⟨a5, ea5, E⟩ := E
        refine r_getR dX0_shortestAccepted_26 FX0_32 g4 ea5 ?_
        refine q_iload_n dX0_shortestAccepted_29 rfl ?_
        replace E := grd_some E
        obtain ⟨g6, E⟩ := E
        replace E := grd_some E
        obtain ⟨g7, E⟩ := E
        refine r_iaload dX0_shortestAccepted_30 g6 g7 ?_
        refine q_iconst dX0_shortestAccepted_31 ?_
        refine q_idiv (by decide) dX0_shortestAccepted_32 ?_
        replace E := bnd_x E
        obtain ⟨x8, ex8, E⟩ := E
        refine r_istore_n dX0_shortestAccepted_33 (by decide) ex8 (ls' := [some (.ref p0), some (.int v1), some (.int x8)]) rfl ?_
        replace E := bnd_x E
        obtain ⟨x9, ex9, E⟩ := E
        refine r_iinc (v := x9) dX0_shortestAccepted_34 rfl ex9 (by decide) (ls' := [some (.ref p0), some (.int x9), some (.int x8)]) rfl ?_
        refine q_goto (tgt := 7) dX0_shortestAccepted_37 (by decide) ?_
        cases E
        exact r_fewer [some (.ref p0), some (.int x9), some (.int x8)] (ls_s (ls_s (ls_s ls_0))) hK
theorem s_X0_shortestAccepted_7 {l : Launch} {G : mG} {Q : Option Value → mH → Prop} {X : String → mH → Prop} (p0 : Nat) (v1 : Int32) (v2 : Int32) (h : mH) {o : Int32 × mH} (E : g_X0_shortestAccepted_7 p0 v1 v2 h = some o) (hK : (fiI Q) o) : mW l G m_X0_shortestAccepted 1 0 0 7 [some (.ref p0), some (.int v1), some (.int v2)] [] h Q X :=
  (lp_go (w_X0_shortestAccepted_7 l G Q X p0) (fiI Q) (b_X0_shortestAccepted_7 p0) (fun s o E hK => sb_X0_shortestAccepted_7 p0 s.1 s.2.1 (s.2.2) E hK) _ _ _ E hK : w_X0_shortestAccepted_7 l G Q X p0 (v1, v2, h))
set_option maxRecDepth 100000 in
set_option maxHeartbeats 4000000 in
theorem s_X0_shortestAccepted_0 {l : Launch} {G : mG} {Q : Option Value → mH → Prop} {X : String → mH → Prop} (p0 : Nat) (h : mH) {o : Int32 × mH} (E : f_X0_shortestAccepted p0 h = some o) (hK : (fiI Q) o) : mW l G m_X0_shortestAccepted 1 0 0 0 [some (.ref p0), none, none] [] h Q X := by
  unfold f_X0_shortestAccepted at E
  refine q_iconst dX0_shortestAccepted_0 ?_
  refine r_istore_n dX0_shortestAccepted_1 (by decide) rfl (ls' := [some (.ref p0), some (.int (Int32.ofInt 0)), none]) rfl ?_
  refine q_aload_n dX0_shortestAccepted_2 rfl ?_
  replace E := grd_some E
  obtain ⟨g3, E⟩ := E
  replace E := cal_some E
  obtain ⟨x2, h1, hc, E⟩ := E
  refine r_callV0 (mc := 0) (ms := 0) dX0_shortestAccepted_3 KX0_95 (c_X0_firstAccepting hc) g3 (by decide) (Nat.le_of_ble_eq_true rfl) (fun _ _ q => q.elim) ?_
  rintro _ _ ⟨rfl, rfl⟩
  clear hc
  refine r_istore_n dX0_shortestAccepted_6 (by decide) rfl (ls' := [some (.ref p0), some (.int (Int32.ofInt 0)), some (.int x2)]) rfl ?_
  exact r_fewer [some (.ref p0), some (.int (Int32.ofInt 0)), some (.int x2)] (ls_s (ls_s (ls_s ls_0))) (s_X0_shortestAccepted_7 p0 (Int32.ofInt 0) x2 h1 E hK)
theorem c_X0_shortestAccepted {l : Launch} {G : mG} {p0 : Nat} {h h' : mH} {r : Int32} (E : f_X0_shortestAccepted p0 h = some (r, h')) : mMet l G m_X0_shortestAccepted 1 0 0 [.ref p0] h (fun v k => v = some (.int r) ∧ h' = k) (fun _ _ => False) :=
  mMet_of (by decide +kernel) rfl (ac_c rfl ac_0) (Nat.le_of_ble_eq_true rfl) (s_X0_shortestAccepted_0 p0 h E (And.intro rfl rfl))
set_option maxRecDepth 100000 in
set_option maxHeartbeats 4000000 in
theorem s_X0_writeShortest_60 {l : Launch} {G : mG} {Q : Option Value → mH → Prop} {X : String → mH → Prop} (p1 : Nat) (h : mH) {o : Unit × mH} {c m c2 m2 : Nat} (E : g_X0_writeShortest_60 p1 h = some (o, c, m)) (hK : (fun o (_ _ : Nat) => (fiV Q) o) o c2 m2) : mW l G m_X0_writeShortest 5 (c2 + c) (m2 + m) 60 [none, some (.ref p1), none] [] h Q X := by
  unfold g_X0_writeShortest_60 at E
  refine q_aload_n dX0_writeShortest_60 rfl ?_
  replace E := grd_some E
  obtain ⟨g3, E⟩ := E
  replace E := cal_some E
  obtain ⟨o2, h1, hc, E⟩ := E
  refine q_room (d' := 5) (mc' := 0 + (c2 + c)) (ms' := 0 + (m2 + m)) (Nat.le_refl _) (by omega) (by omega) ?_
  refine r_callV0 (mc := c2 + c) (ms := m2 + m) dX0_writeShortest_61 KX0_111 (c_J4_reverse_43fcb hc) g3 (by decide) (Nat.le_of_ble_eq_true rfl) (fun _ _ q => q.elim) ?_
  rintro _ _ ⟨rfl, rfl⟩
  clear hc
  refine q_pop (h1 := r_cat _) dX0_writeShortest_64 ?_
  cases E
  exact q_return dX0_writeShortest_65 rfl hK
set_option maxRecDepth 100000 in
set_option maxHeartbeats 4000000 in
theorem sb_X0_writeShortest_10 {l : Launch} {G : mG} {Q : Option Value → mH → Prop} {X : String → mH → Prop} (p0 : Nat) (p1 : Nat) (v2 : Int32) (h : mH) {o : ((Int32 × mH) ⊕ (Unit × mH))} {c m c2 m2 : Nat} (E : b0_X0_writeShortest_10 p0 p1 v2 h = some (o, c, m)) (hK : (lpKC (w_X0_writeShortest_10 l G Q X p0 p1) (fun o (_ _ : Nat) => (fiV Q) o)) o c2 m2) : mW l G m_X0_writeShortest 5 (c2 + c) (m2 + m) 10 [some (.ref p0), some (.ref p1), some (.int v2)] [] h Q X := by
  unfold b0_X0_writeShortest_10 at E
  refine q_iload_n dX0_writeShortest_10 rfl ?_
  refine q_if_le (tgt := 60) dX0_writeShortest_11 (by decide) (fun z1 => ?_) (fun z1 => ?_)
  · replace E := ite_t E z1
    obtain ⟨o0, E0, rfl⟩ := inrC_some E
    exact r_fewer [none, some (.ref p1), none] (ls_n (ls_s (ls_n ls_0))) (s_X0_writeShortest_60 p1 h E0 hK)
  · replace E := ite_f E z1
    refine q_iload_n dX0_writeShortest_14 rfl ?_
    refine q_sipush (v := (Int32.ofInt 129)) dX0_writeShortest_15 (by decide) ?_
    refine q_icmp_ge (tgt := 60) dX0_writeShortest_18 (by decide) (fun z2 => ?_) (fun z2 => ?_)
    · replace E := ite_t E z2
      obtain ⟨o0, E0, rfl⟩ := inrC_some E
      exact r_fewer [none, some (.ref p1), none] (ls_n (ls_s (ls_n ls_0))) (s_X0_writeShortest_60 p1 h E0 hK)
    · replace E := ite_f E z2
      refine q_aload_n dX0_writeShortest_21 rfl ?_
      replace E := grd_some E
      obtain ⟨g5, E⟩ := E
      replace E := cal_some E
      obtain ⟨x4, h3, hc, E⟩ := E
      refine q_room (d' := 5) (mc' := 0 + (c2 + c)) (ms' := 0 + (m2 + m)) (Nat.le_refl _) (by omega) (by omega) ?_
      refine r_callV0 (mc := c2 + c) (ms := m2 + m) dX0_writeShortest_22 KX0_104 (c_J4_length_8abf5 hc) g5 (by decide) (Nat.le_of_ble_eq_true rfl) (fun _ _ q => q.elim) ?_
      rintro _ _ ⟨rfl, rfl⟩
      clear hc
      refine q_sipush (v := (Int32.ofInt 129)) dX0_writeShortest_25 (by decide) ?_
      refine q_icmp_ge (tgt := 60) dX0_writeShortest_28 (by decide) (fun z6 => ?_) (fun z6 => ?_)
      · replace E := ite_t E z6
        obtain ⟨o0, E0, rfl⟩ := inrC_some E
        exact r_fewer [none, some (.ref p1), none] (ls_n (ls_s (ls_n ls_0))) (s_X0_writeShortest_60 p1 h3 E0 hK)
      · replace E := ite_f E z6
        refine q_aload_n dX0_writeShortest_31 rfl ?_
        refine q_bipush (v := (Int32.ofInt 97)) dX0_writeShortest_32 (by decide) ?_
        refine q_aload_n dX0_writeShortest_34 rfl ?_
        replace E := grd_some E
        obtain ⟨g7, E⟩ := E
        replace E := orf_some E
        obtain ⟨a8, ea8, E⟩ := E
        refine r_getR dX0_writeShortest_35 FX0_32 g7 ea8 ?_
        refine q_iload_n dX0_writeShortest_38 rfl ?_
        replace E := grd_some E
        obtain ⟨g9, E⟩ := E
        replace E := grd_some E
        obtain ⟨g10, E⟩ := E
        refine r_iaload dX0_writeShortest_39 g9 g10 ?_
        refine q_iconst dX0_writeShortest_40 ?_
        refine q_irem (by decide) dX0_writeShortest_41 ?_
        refine q_iadd dX0_writeShortest_42 ?_
        refine q_i2c dX0_writeShortest_43 ?_
        replace E := grd_some E
        obtain ⟨g13, E⟩ := E
        replace E := calC_some E
        obtain ⟨o12, h11, ch11, mh11, hc, E⟩ := E
        replace E := adc_some E
        obtain ⟨c_1, m_1, ec_1, em_1, E⟩ := E
        refine q_room (d' := 5) (mc' := ch11 + (c2 + c_1)) (ms' := mh11 + (m2 + m_1)) (Nat.le_refl _) (by omega) (by omega) ?_
        refine r_callV1 (mc := c2 + c_1) (ms := m2 + m_1) dX0_writeShortest_44 KX0_107 (c_J4_append_cf468 hc (Nat.le_refl _) (Nat.le_refl _)) g13 (by decide) (Nat.le_of_ble_eq_true rfl) (fun _ _ q => q.elim) ?_
        rintro _ _ ⟨rfl, rfl⟩
        clear hc
        refine q_pop (h1 := r_cat _) dX0_writeShortest_47 ?_
        refine q_aload_n dX0_writeShortest_48 rfl ?_
        replace E := grd_some E
        obtain ⟨g14, E⟩ := E
        replace E := orf_some E
        obtain ⟨a15, ea15, E⟩ := E
        refine r_getR dX0_writeShortest_49 FX0_32 g14 ea15 ?_
        refine q_iload_n dX0_writeShortest_52 rfl ?_
        replace E := grd_some E
        obtain ⟨g16, E⟩ := E
        replace E := grd_some E
        obtain ⟨g17, E⟩ := E
        refine r_iaload dX0_writeShortest_53 g16 g17 ?_
        refine q_iconst dX0_writeShortest_54 ?_
        refine q_idiv (by decide) dX0_writeShortest_55 ?_
        replace E := bnd_x E
        obtain ⟨x18, ex18, E⟩ := E
        refine r_istore_n dX0_writeShortest_56 (by decide) ex18 (ls' := [some (.ref p0), some (.ref p1), some (.int x18)]) rfl ?_
        refine q_goto (tgt := 10) dX0_writeShortest_57 (by decide) ?_
        cases E
        exact r_fewer [some (.ref p0), some (.ref p1), some (.int x18)] (ls_s (ls_s (ls_s ls_0))) hK
theorem s_X0_writeShortest_10 {l : Launch} {G : mG} {Q : Option Value → mH → Prop} {X : String → mH → Prop} (p0 : Nat) (p1 : Nat) (v2 : Int32) (h : mH) {o : Unit × mH} {c m c2 m2 : Nat} (E : g_X0_writeShortest_10 p0 p1 v2 h = some (o, c, m)) (hK : (fun o (_ _ : Nat) => (fiV Q) o) o c2 m2) : mW l G m_X0_writeShortest 5 (c2 + c) (m2 + m) 10 [some (.ref p0), some (.ref p1), some (.int v2)] [] h Q X :=
  (lpC_go (w_X0_writeShortest_10 l G Q X p0 p1) (fun o (_ _ : Nat) => (fiV Q) o) (b_X0_writeShortest_10 p0 p1) (fun s o c m c2 m2 E hK => sb_X0_writeShortest_10 p0 p1 s.1 (s.2) E hK) _ _ _ _ _ _ _ E hK : w_X0_writeShortest_10 l G Q X p0 p1 (v2, h) (c2 + c) (m2 + m))
set_option maxRecDepth 100000 in
set_option maxHeartbeats 4000000 in
theorem s_X0_writeShortest_0 {l : Launch} {G : mG} {Q : Option Value → mH → Prop} {X : String → mH → Prop} (p0 : Nat) (p1 : Nat) (h : mH) {o : Unit × mH} {c m c2 m2 : Nat} (E : f_X0_writeShortest p0 p1 h = some (o, c, m)) (hK : (fun o (_ _ : Nat) => (fiV Q) o) o c2 m2) : mW l G m_X0_writeShortest 5 (c2 + c) (m2 + m) 0 [some (.ref p0), some (.ref p1), none] [] h Q X := by
  unfold f_X0_writeShortest at E
  refine q_aload_n dX0_writeShortest_0 rfl ?_
  refine q_iconst dX0_writeShortest_1 ?_
  replace E := grd_some E
  obtain ⟨g3, E⟩ := E
  replace E := calC_some E
  obtain ⟨_, h1, ch1, mh1, hc, E⟩ := E
  replace E := adc_some E
  obtain ⟨c_1, m_1, ec_1, em_1, E⟩ := E
  refine q_room (d' := 5) (mc' := ch1 + (c2 + c_1)) (ms' := mh1 + (m2 + m_1)) (Nat.le_refl _) (by omega) (by omega) ?_
  refine r_callV1 (mc := c2 + c_1) (ms := m2 + m_1) dX0_writeShortest_2 KX0_98 (c_J4_setLength_d00df hc (Nat.le_refl _) (Nat.le_refl _)) g3 (by decide) (Nat.le_of_ble_eq_true rfl) (fun _ _ q => q.elim) ?_
  rintro _ _ ⟨rfl, rfl⟩
  clear hc
  refine q_aload_n dX0_writeShortest_5 rfl ?_
  replace E := grd_some E
  obtain ⟨g6, E⟩ := E
  replace E := cal_some E
  obtain ⟨x5, h4, hc, E⟩ := E
  refine q_room (d' := 5) (mc' := 0 + (c2 + c_1)) (ms' := 0 + (m2 + m_1)) (Nat.le_refl _) (by omega) (by omega) ?_
  refine r_callV0 (mc := c2 + c_1) (ms := m2 + m_1) dX0_writeShortest_6 KX0_95 (c_X0_firstAccepting hc) g6 (by decide) (Nat.le_of_ble_eq_true rfl) (fun _ _ q => q.elim) ?_
  rintro _ _ ⟨rfl, rfl⟩
  clear hc
  refine r_istore_n dX0_writeShortest_9 (by decide) rfl (ls' := [some (.ref p0), some (.ref p1), some (.int x5)]) rfl ?_
  exact r_fewer [some (.ref p0), some (.ref p1), some (.int x5)] (ls_s (ls_s (ls_s ls_0))) (s_X0_writeShortest_10 p0 p1 x5 h4 E hK)
theorem c_X0_writeShortest {l : Launch} {G : mG} {p0 : Nat} {p1 : Nat} {h h' : mH} {r : Unit} {c m B1 B2 : Nat} (E : f_X0_writeShortest p0 p1 h = some ((r, h'), c, m)) (hb1 : c ≤ B1) (hb2 : m ≤ B2) : mMet l G m_X0_writeShortest 5 B1 B2 [.ref p0, .ref p1] h (fun v k => v = none ∧ h' = k) (fun _ _ => False) :=
  mMet_of (by decide +kernel) rfl (ac_c rfl (ac_c rfl ac_0)) (Nat.le_of_ble_eq_true rfl) (q_room (mc' := 0 + c) (ms' := 0 + m) (Nat.le_refl _) (by omega) (by omega) (s_X0_writeShortest_0 p0 p1 h E (And.intro rfl rfl)))
set_option maxRecDepth 100000 in
set_option maxHeartbeats 4000000 in
theorem s_X6_init_0 {l : Launch} {G : mG} {Q : Option Value → mH → Prop} {X : String → mH → Prop} (p0 : Nat) (h : mH) {o : Unit × mH} (E : f_X6_init p0 h = some o) (hK : (fiV Q) o) : mW l G m_X6_init 0 2 14 0 [some (.ref p0)] [] h Q X := by
  unfold f_X6_init at E
  refine q_aload_n dX6_init_0 rfl ?_
  refine q_objInit dX6_init_1 OX6_3 objW1 objW2 (Nat.le_of_ble_eq_true rfl) ?_
  refine q_aload_n dX6_init_4 rfl ?_
  refine q_bipush (v := (Int32.ofInt 6)) dX6_init_5 (by decide) ?_
  replace E := grd_some E
  obtain ⟨g1, E⟩ := E
  replace E := bnd_x E
  obtain ⟨a2, ea2, E⟩ := E
  replace E := bnd_x E
  obtain ⟨h3, eh3, E⟩ := E
  refine r_anewarray (n := 6) (t0 := 6) (hq := ea2) (hh := eh3) dX6_init_7 NX6_9 rfl (by decide) (by decide) g1 (by decide) ?_
  replace E := grd_some E
  obtain ⟨g4, E⟩ := E
  replace E := bnd_x E
  obtain ⟨h5, eh5, E⟩ := E
  refine r_putR (hh := eh5) dX6_init_10 FX6_11 g4 (hf := Or.inr ⟨rfl, fun _ _ _ q => (Prod.mk.inj (Option.some.inj q)).1.symm⟩) ?_
  refine q_aload_n dX6_init_13 rfl ?_
  refine q_bipush (v := (Int32.ofInt 8)) dX6_init_14 (by decide) ?_
  replace E := grd_some E
  obtain ⟨g6, E⟩ := E
  replace E := bnd_x E
  obtain ⟨a7, ea7, E⟩ := E
  replace E := bnd_x E
  obtain ⟨h8, eh8, E⟩ := E
  refine r_anewarray (n := 8) (t0 := 8) (hq := ea7) (hh := eh8) dX6_init_16 NX6_17 rfl (by decide) (by decide) g6 (by decide) ?_
  replace E := grd_some E
  obtain ⟨g9, E⟩ := E
  replace E := bnd_x E
  obtain ⟨h10, eh10, E⟩ := E
  refine r_putR (hh := eh10) dX6_init_19 FX6_19 g9 (hf := Or.inr ⟨rfl, fun _ _ _ q => (Prod.mk.inj (Option.some.inj q)).1.symm⟩) ?_
  refine q_aload_n dX6_init_22 rfl ?_
  refine q_iconst dX6_init_23 ?_
  replace E := grd_some E
  obtain ⟨g11, E⟩ := E
  replace E := bnd_x E
  obtain ⟨h12, eh12, E⟩ := E
  refine r_putI (hh := eh12) dX6_init_24 FX6_23 g11 rfl rfl ?_
  refine q_aload_n dX6_init_27 rfl ?_
  refine q_iconst dX6_init_28 ?_
  replace E := grd_some E
  obtain ⟨g13, E⟩ := E
  replace E := bnd_x E
  obtain ⟨h14, eh14, E⟩ := E
  refine r_putI (hh := eh14) dX6_init_29 FX6_27 g13 rfl rfl ?_
  cases E
  exact q_return dX6_init_32 rfl hK
theorem c_X6_init {l : Launch} {G : mG} {p0 : Nat} {h h' : mH} {r : Unit} (E : f_X6_init p0 h = some (r, h')) : mMet l G m_X6_init 0 2 14 [.ref p0] h (fun v k => v = none ∧ h' = k) (fun _ _ => False) :=
  mMet_of (by decide +kernel) rfl (ac_c rfl ac_0) (Nat.le_of_ble_eq_true rfl) (s_X6_init_0 p0 h E (And.intro rfl rfl))
set_option maxRecDepth 100000 in
set_option maxHeartbeats 4000000 in
theorem sb_X1_init_25 {l : Launch} {G : mG} {Q : Option Value → mH → Prop} {X : String → mH → Prop} (p0 : Nat) (v1 : Int32) (h : mH) {o : ((Int32 × mH) ⊕ (Unit × mH))} {c m c2 m2 : Nat} (E : b0_X1_init_25 p0 v1 h = some (o, c, m)) (hK : (lpKC (w_X1_init_25 l G Q X p0) (fun o (_ _ : Nat) => (fiV Q) o)) o c2 m2) : mW l G m_X1_init 1 (c2 + c) (m2 + m) 25 [some (.ref p0), some (.int v1)] [] h Q X := by
  unfold b0_X1_init_25 at E
  refine q_iload_n dX1_init_25 rfl ?_
  refine q_bipush (v := (Int32.ofInt 9)) dX1_init_26 (by decide) ?_
  refine q_icmp_ge (tgt := 50) dX1_init_28 (by decide) (fun z1 => ?_) (fun z1 => ?_)
  · replace E := ite_t E z1
    cases E
    exact q_return dX1_init_50 rfl hK
  · replace E := ite_f E z1
    refine q_aload_n dX1_init_31 rfl ?_
    replace E := grd_some E
    obtain ⟨g2, E⟩ := E
    replace E := orf_some E
    obtain ⟨a3, ea3, E⟩ := E
    refine r_getR dX1_init_32 FX1_13 g2 ea3 ?_
    refine q_iload_n dX1_init_35 rfl ?_
    replace E := adc_some E
    obtain ⟨c_1, m_1, ec_1, em_1, E⟩ := E
    refine q_room (d' := 1) (mc' := (c2 + c_1) + 1) (ms' := (m2 + m_1) + 4) (Nat.le_refl _) (by omega) (by omega) ?_
    replace E := bnd_x E
    obtain ⟨a4, ea4, E⟩ := E
    replace E := bnd_x E
    obtain ⟨h5, eh5, E⟩ := E
    refine r_new (hq := ea4) (hh := eh5) dX1_init_36 CX1_11 ?_
    refine q_dup dX1_init_39 ?_
    replace E := cal_some E
    obtain ⟨_, h6, hc, E⟩ := E
    replace E := adc_some E
    obtain ⟨c_2, m_2, ec_2, em_2, E⟩ := E
    refine q_room (d' := 1) (mc' := 2 + (c2 + c_2)) (ms' := 14 + (m2 + m_2)) (Nat.le_refl _) (by omega) (by omega) ?_
    refine r_callIN0 (mc := c2 + c_2) (ms := m2 + m_2) dX1_init_40 KX1_24 (c_X6_init hc) (by decide) (Nat.le_of_ble_eq_true rfl) (fun _ _ q => q.elim) ?_
    rintro _ _ ⟨rfl, rfl⟩
    clear hc
    replace E := grd_some E
    obtain ⟨g9, E⟩ := E
    replace E := grd_some E
    obtain ⟨g10, E⟩ := E
    replace E := grd_some E
    obtain ⟨g11, E⟩ := E
    replace E := bnd_x E
    obtain ⟨h8, eh8, E⟩ := E
    refine r_aastore (t0 := 7) (ci := 10) (hh := eh8) dX1_init_43 rfl rfl g9 g11 g10 ?_
    replace E := bnd_x E
    obtain ⟨x12, ex12, E⟩ := E
    refine r_iinc (v := x12) dX1_init_44 rfl ex12 (by decide) (ls' := [some (.ref p0), some (.int x12)]) rfl ?_
    refine q_goto (tgt := 25) dX1_init_47 (by decide) ?_
    cases E
    exact r_fewer [some (.ref p0), some (.int x12)] (ls_s (ls_s ls_0)) hK
theorem s_X1_init_25 {l : Launch} {G : mG} {Q : Option Value → mH → Prop} {X : String → mH → Prop} (p0 : Nat) (v1 : Int32) (h : mH) {o : Unit × mH} {c m c2 m2 : Nat} (E : g_X1_init_25 p0 v1 h = some (o, c, m)) (hK : (fun o (_ _ : Nat) => (fiV Q) o) o c2 m2) : mW l G m_X1_init 1 (c2 + c) (m2 + m) 25 [some (.ref p0), some (.int v1)] [] h Q X :=
  (lpC_go (w_X1_init_25 l G Q X p0) (fun o (_ _ : Nat) => (fiV Q) o) (b_X1_init_25 p0) (fun s o c m c2 m2 E hK => sb_X1_init_25 p0 s.1 (s.2) E hK) _ _ _ _ _ _ _ E hK : w_X1_init_25 l G Q X p0 (v1, h) (c2 + c) (m2 + m))
set_option maxRecDepth 100000 in
set_option maxHeartbeats 4000000 in
theorem s_X1_init_0 {l : Launch} {G : mG} {Q : Option Value → mH → Prop} {X : String → mH → Prop} (p0 : Nat) (h : mH) {o : Unit × mH} {c m c2 m2 : Nat} (E : f_X1_init p0 h = some (o, c, m)) (hK : (fun o (_ _ : Nat) => (fiV Q) o) o c2 m2) : mW l G m_X1_init 1 (c2 + c) (m2 + m) 0 [some (.ref p0), none] [] h Q X := by
  unfold f_X1_init at E
  refine q_aload_n dX1_init_0 rfl ?_
  refine q_objInit dX1_init_1 OX1_3 objW1 objW2 (Nat.le_of_ble_eq_true rfl) ?_
  refine q_aload_n dX1_init_4 rfl ?_
  refine q_bipush (v := (Int32.ofInt 9)) dX1_init_5 (by decide) ?_
  replace E := grd_some E
  obtain ⟨g1, E⟩ := E
  replace E := adc_some E
  obtain ⟨c_1, m_1, ec_1, em_1, E⟩ := E
  refine q_room (d' := 1) (mc' := (c2 + c_1) + 1) (ms' := (m2 + m_1) + 9) (Nat.le_refl _) (by omega) (by omega) ?_
  replace E := bnd_x E
  obtain ⟨a2, ea2, E⟩ := E
  replace E := bnd_x E
  obtain ⟨h3, eh3, E⟩ := E
  refine r_anewarray (n := 9) (t0 := 7) (hq := ea2) (hh := eh3) dX1_init_7 NX1_11 rfl (by decide) (by decide) g1 (by decide) ?_
  replace E := grd_some E
  obtain ⟨g4, E⟩ := E
  replace E := bnd_x E
  obtain ⟨h5, eh5, E⟩ := E
  refine r_putR (hh := eh5) dX1_init_10 FX1_13 g4 (hf := Or.inr ⟨rfl, fun _ _ _ q => (Prod.mk.inj (Option.some.inj q)).1.symm⟩) ?_
  refine q_aload_n dX1_init_13 rfl ?_
  refine q_iconst dX1_init_14 ?_
  replace E := grd_some E
  obtain ⟨g6, E⟩ := E
  replace E := bnd_x E
  obtain ⟨h7, eh7, E⟩ := E
  refine r_putI (hh := eh7) dX1_init_15 FX1_17 g6 rfl rfl ?_
  refine q_aload_n dX1_init_18 rfl ?_
  refine q_iconst dX1_init_19 ?_
  replace E := grd_some E
  obtain ⟨g8, E⟩ := E
  replace E := bnd_x E
  obtain ⟨h9, eh9, E⟩ := E
  refine r_putI (hh := eh9) dX1_init_20 FX1_21 g8 rfl rfl ?_
  refine q_iconst dX1_init_23 ?_
  refine r_istore_n dX1_init_24 (by decide) rfl (ls' := [some (.ref p0), some (.int (Int32.ofInt 0))]) rfl ?_
  exact r_fewer [some (.ref p0), some (.int (Int32.ofInt 0))] (ls_s (ls_s ls_0)) (s_X1_init_25 p0 (Int32.ofInt 0) h9 E hK)
theorem c_X1_init {l : Launch} {G : mG} {p0 : Nat} {h h' : mH} {r : Unit} {c m B1 B2 : Nat} (E : f_X1_init p0 h = some ((r, h'), c, m)) (hb1 : c ≤ B1) (hb2 : m ≤ B2) : mMet l G m_X1_init 1 B1 B2 [.ref p0] h (fun v k => v = none ∧ h' = k) (fun _ _ => False) :=
  mMet_of (by decide +kernel) rfl (ac_c rfl ac_0) (Nat.le_of_ble_eq_true rfl) (q_room (mc' := 0 + c) (ms' := 0 + m) (Nat.le_refl _) (by omega) (by omega) (s_X1_init_0 p0 h E (And.intro rfl rfl)))
set_option maxRecDepth 100000 in
set_option maxHeartbeats 4000000 in
theorem s_X1_size_0 {l : Launch} {G : mG} {Q : Option Value → mH → Prop} {X : String → mH → Prop} (p0 : Nat) (h : mH) {o : Int32 × mH} (E : f_X1_size p0 h = some o) (hK : (fiI Q) o) : mW l G m_X1_size 0 0 0 0 [some (.ref p0)] [] h Q X := by
  unfold f_X1_size at E
  refine q_aload_n dX1_size_0 rfl ?_
  replace E := grd_some E
  obtain ⟨g1, E⟩ := E
  refine r_getI dX1_size_1 FX1_21 g1 ?_
  cases E
  exact q_ireturn dX1_size_4 rfl hK
theorem c_X1_size {l : Launch} {G : mG} {p0 : Nat} {h h' : mH} {r : Int32} (E : f_X1_size p0 h = some (r, h')) : mMet l G m_X1_size 0 0 0 [.ref p0] h (fun v k => v = some (.int r) ∧ h' = k) (fun _ _ => False) :=
  mMet_of (by decide +kernel) rfl (ac_c rfl ac_0) (Nat.le_of_ble_eq_true rfl) (s_X1_size_0 p0 h E (And.intro rfl rfl))
set_option maxRecDepth 100000 in
set_option maxHeartbeats 4000000 in
theorem s_X1_preparedShelf_29 {l : Launch} {G : mG} {Q : Option Value → mH → Prop} {X : String → mH → Prop} (sq0 : Option Nat) (h : mH) {o : Option Nat × mH} (E : g_X1_preparedShelf_29 sq0 h = some o) (hK : (fiR Q) o) : mW l G m_X1_preparedShelf 0 0 0 29 [none] [va_rf sq0] h Q X := by
  unfold g_X1_preparedShelf_29 at E
  cases E
  exact q_areturn (v := sq0) dX1_preparedShelf_29 rfl (by first | exact Or.inl ⟨_, rfl⟩ | exact Or.inr ⟨_, rfl⟩) hK
set_option maxRecDepth 100000 in
set_option maxHeartbeats 4000000 in
theorem s_X1_preparedShelf_16 {l : Launch} {G : mG} {Q : Option Value → mH → Prop} {X : String → mH → Prop} (h : mH) {o : Option Nat × mH} (E : g_X1_preparedShelf_16  h = some o) (hK : (fiR Q) o) : mW l G m_X1_preparedShelf 0 0 0 16 [none] [] h Q X := by
  unfold g_X1_preparedShelf_16 at E
  refine q_null dX1_preparedShelf_16 ?_
  refine q_goto (tgt := 29) dX1_preparedShelf_17 (by decide) ?_
  exact r_fewer [none] (ls_n ls_0) (s_X1_preparedShelf_29 none h E hK)
set_option maxRecDepth 100000 in
set_option maxHeartbeats 4000000 in
theorem s_X1_preparedShelf_0 {l : Launch} {G : mG} {Q : Option Value → mH → Prop} {X : String → mH → Prop} (p0 : Nat) (h : mH) {o : Option Nat × mH} (E : f_X1_preparedShelf p0 h = some o) (hK : (fiR Q) o) : mW l G m_X1_preparedShelf 0 0 0 0 [some (.ref p0)] [] h Q X := by
  unfold f_X1_preparedShelf at E
  refine q_aload_n dX1_preparedShelf_0 rfl ?_
  replace E := grd_some E
  obtain ⟨g1, E⟩ := E
  refine r_getI dX1_preparedShelf_1 FX1_17 g1 ?_
  refine q_if_lt (tgt := 16) dX1_preparedShelf_4 (by decide) (fun z2 => ?_) (fun z2 => ?_)
  · replace E := ite_t E z2
    exact r_fewer [none] (ls_n ls_0) (s_X1_preparedShelf_16 h E hK)
  · replace E := ite_f E z2
    refine q_aload_n dX1_preparedShelf_7 rfl ?_
    refine r_getI dX1_preparedShelf_8 FX1_17 g1 ?_
    refine q_bipush (v := (Int32.ofInt 9)) dX1_preparedShelf_11 (by decide) ?_
    refine q_icmp_lt (tgt := 20) dX1_preparedShelf_13 (by decide) (fun z3 => ?_) (fun z3 => ?_)
    · replace E := ite_t E z3
      refine q_aload_n dX1_preparedShelf_20 rfl ?_
      replace E := orf_some E
      obtain ⟨a4, ea4, E⟩ := E
      refine r_getR dX1_preparedShelf_21 FX1_13 g1 ea4 ?_
      refine q_aload_n dX1_preparedShelf_24 rfl ?_
      refine r_getI dX1_preparedShelf_25 FX1_17 g1 ?_
      replace E := grd_some E
      obtain ⟨g5, E⟩ := E
      replace E := grd_some E
      obtain ⟨g6, E⟩ := E
      replace E := bnd_x E
      obtain ⟨o7, eo7, E⟩ := E
      refine r_aaload (t0 := 7) dX1_preparedShelf_28 rfl g5 g6 eo7 ?_
      exact r_fewer [none] (ls_n ls_0) (s_X1_preparedShelf_29 o7 h E hK)
    · replace E := ite_f E z3
      exact r_fewer [none] (ls_n ls_0) (s_X1_preparedShelf_16 h E hK)
theorem c_X1_preparedShelf {l : Launch} {G : mG} {p0 : Nat} {h h' : mH} {r : Option Nat} (E : f_X1_preparedShelf p0 h = some (r, h')) : mMet l G m_X1_preparedShelf 0 0 0 [.ref p0] h (fun v k => v = some (va_rf r) ∧ h' = k) (fun _ _ => False) :=
  mMet_of (by decide +kernel) rfl (ac_c rfl ac_0) (Nat.le_of_ble_eq_true rfl) (s_X1_preparedShelf_0 p0 h E (And.intro rfl rfl))
set_option maxRecDepth 100000 in
set_option maxHeartbeats 4000000 in
theorem sb_X6_copyFrom_28 {l : Launch} {G : mG} {Q : Option Value → mH → Prop} {X : String → mH → Prop} (p0 : Nat) (p1 : Nat) (v2 : Int32) (h : mH) {o : ((Int32 × mH) ⊕ (Unit × mH))} (E : b0_X6_copyFrom_28 p0 p1 v2 h = some o) (hK : (lpK (w_X6_copyFrom_28 l G Q X p0 p1) (fiV Q)) o) : mW l G m_X6_copyFrom 0 0 0 28 [some (.ref p0), some (.ref p1), some (.int v2)] [] h Q X := by
  unfold b0_X6_copyFrom_28 at E
  refine q_iload_n dX6_copyFrom_28 rfl ?_
  refine q_bipush (v := (Int32.ofInt 8)) dX6_copyFrom_29 (by decide) ?_
  refine q_icmp_ge (tgt := 52) dX6_copyFrom_31 (by decide) (fun z1 => ?_) (fun z1 => ?_)
  · replace E := ite_t E z1
    refine q_aload_n dX6_copyFrom_52 rfl ?_
    refine q_aload_n dX6_copyFrom_53 rfl ?_
    replace E := grd_some E
    obtain ⟨g2, E⟩ := E
    refine r_getI dX6_copyFrom_54 FX6_23 g2 ?_
    replace E := grd_some E
    obtain ⟨g3, E⟩ := E
    replace E := bnd_x E
    obtain ⟨h4, eh4, E⟩ := E
    refine r_putI (hh := eh4) dX6_copyFrom_57 FX6_23 g3 rfl rfl ?_
    refine q_aload_n dX6_copyFrom_60 rfl ?_
    refine q_aload_n dX6_copyFrom_61 rfl ?_
    replace E := grd_some E
    obtain ⟨g5, E⟩ := E
    refine r_getI dX6_copyFrom_62 FX6_27 g5 ?_
    replace E := grd_some E
    obtain ⟨g6, E⟩ := E
    replace E := bnd_x E
    obtain ⟨h7, eh7, E⟩ := E
    refine r_putI (hh := eh7) dX6_copyFrom_65 FX6_27 g6 rfl rfl ?_
    cases E
    exact q_return dX6_copyFrom_68 rfl hK
  · replace E := ite_f E z1
    refine q_aload_n dX6_copyFrom_34 rfl ?_
    replace E := grd_some E
    obtain ⟨g8, E⟩ := E
    replace E := orf_some E
    obtain ⟨a9, ea9, E⟩ := E
    refine r_getR dX6_copyFrom_35 FX6_19 g8 ea9 ?_
    refine q_iload_n dX6_copyFrom_38 rfl ?_
    refine q_aload_n dX6_copyFrom_39 rfl ?_
    replace E := grd_some E
    obtain ⟨g10, E⟩ := E
    replace E := orf_some E
    obtain ⟨a11, ea11, E⟩ := E
    refine r_getR dX6_copyFrom_40 FX6_19 g10 ea11 ?_
    refine q_iload_n dX6_copyFrom_43 rfl ?_
    replace E := grd_some E
    obtain ⟨g12, E⟩ := E
    replace E := grd_some E
    obtain ⟨g13, E⟩ := E
    replace E := bnd_x E
    obtain ⟨o14, eo14, E⟩ := E
    refine r_aaload (t0 := 8) dX6_copyFrom_44 rfl g12 g13 eo14 ?_
    replace E := grd_some E
    obtain ⟨g16, E⟩ := E
    replace E := grd_some E
    obtain ⟨g17, E⟩ := E
    replace E := bnd_x E
    obtain ⟨h15, eh15, E⟩ := E
    replace E := grd_some E
    obtain ⟨g18, E⟩ := E
    refine r_aastoreO (t0 := 8) (ci := 14) (hh := eh15) dX6_copyFrom_45 rfl rfl g16 g18 g17 ?_
    replace E := bnd_x E
    obtain ⟨x19, ex19, E⟩ := E
    refine r_iinc (v := x19) dX6_copyFrom_46 rfl ex19 (by decide) (ls' := [some (.ref p0), some (.ref p1), some (.int x19)]) rfl ?_
    refine q_goto (tgt := 28) dX6_copyFrom_49 (by decide) ?_
    cases E
    exact r_fewer [some (.ref p0), some (.ref p1), some (.int x19)] (ls_s (ls_s (ls_s ls_0))) hK
theorem s_X6_copyFrom_28 {l : Launch} {G : mG} {Q : Option Value → mH → Prop} {X : String → mH → Prop} (p0 : Nat) (p1 : Nat) (v2 : Int32) (h : mH) {o : Unit × mH} (E : g_X6_copyFrom_28 p0 p1 v2 h = some o) (hK : (fiV Q) o) : mW l G m_X6_copyFrom 0 0 0 28 [some (.ref p0), some (.ref p1), some (.int v2)] [] h Q X :=
  (lp_go (w_X6_copyFrom_28 l G Q X p0 p1) (fiV Q) (b_X6_copyFrom_28 p0 p1) (fun s o E hK => sb_X6_copyFrom_28 p0 p1 s.1 (s.2) E hK) _ _ _ E hK : w_X6_copyFrom_28 l G Q X p0 p1 (v2, h))
set_option maxRecDepth 100000 in
set_option maxHeartbeats 4000000 in
theorem sb_X6_copyFrom_2 {l : Launch} {G : mG} {Q : Option Value → mH → Prop} {X : String → mH → Prop} (p0 : Nat) (p1 : Nat) (v2 : Int32) (h : mH) {o : ((Int32 × mH) ⊕ (Unit × mH))} (E : b0_X6_copyFrom_2 p0 p1 v2 h = some o) (hK : (lpK (w_X6_copyFrom_2 l G Q X p0 p1) (fiV Q)) o) : mW l G m_X6_copyFrom 0 0 0 2 [some (.ref p0), some (.ref p1), some (.int v2)] [] h Q X := by
  unfold b0_X6_copyFrom_2 at E
  refine q_iload_n dX6_copyFrom_2 rfl ?_
  refine q_bipush (v := (Int32.ofInt 6)) dX6_copyFrom_3 (by decide) ?_
  refine q_icmp_ge (tgt := 26) dX6_copyFrom_5 (by decide) (fun z1 => ?_) (fun z1 => ?_)
  · replace E := ite_t E z1
    refine q_iconst dX6_copyFrom_26 ?_
    refine r_istore_n dX6_copyFrom_27 (by decide) rfl (ls' := [some (.ref p0), some (.ref p1), some (.int (Int32.ofInt 0))]) rfl ?_
    obtain ⟨o0, E0, rfl⟩ := inrO_some E
    exact r_fewer [some (.ref p0), some (.ref p1), some (.int (Int32.ofInt 0))] (ls_s (ls_s (ls_s ls_0))) (s_X6_copyFrom_28 p0 p1 (Int32.ofInt 0) h E0 hK)
  · replace E := ite_f E z1
    refine q_aload_n dX6_copyFrom_8 rfl ?_
    replace E := grd_some E
    obtain ⟨g2, E⟩ := E
    replace E := orf_some E
    obtain ⟨a3, ea3, E⟩ := E
    refine r_getR dX6_copyFrom_9 FX6_11 g2 ea3 ?_
    refine q_iload_n dX6_copyFrom_12 rfl ?_
    refine q_aload_n dX6_copyFrom_13 rfl ?_
    replace E := grd_some E
    obtain ⟨g4, E⟩ := E
    replace E := orf_some E
    obtain ⟨a5, ea5, E⟩ := E
    refine r_getR dX6_copyFrom_14 FX6_11 g4 ea5 ?_
    refine q_iload_n dX6_copyFrom_17 rfl ?_
    replace E := grd_some E
    obtain ⟨g6, E⟩ := E
    replace E := grd_some E
    obtain ⟨g7, E⟩ := E
    replace E := bnd_x E
    obtain ⟨o8, eo8, E⟩ := E
    refine r_aaload (t0 := 6) dX6_copyFrom_18 rfl g6 g7 eo8 ?_
    replace E := grd_some E
    obtain ⟨g10, E⟩ := E
    replace E := grd_some E
    obtain ⟨g11, E⟩ := E
    replace E := bnd_x E
    obtain ⟨h9, eh9, E⟩ := E
    replace E := grd_some E
    obtain ⟨g12, E⟩ := E
    refine r_aastoreO (t0 := 6) (ci := 8) (hh := eh9) dX6_copyFrom_19 rfl rfl g10 g12 g11 ?_
    replace E := bnd_x E
    obtain ⟨x13, ex13, E⟩ := E
    refine r_iinc (v := x13) dX6_copyFrom_20 rfl ex13 (by decide) (ls' := [some (.ref p0), some (.ref p1), some (.int x13)]) rfl ?_
    refine q_goto (tgt := 2) dX6_copyFrom_23 (by decide) ?_
    cases E
    exact r_fewer [some (.ref p0), some (.ref p1), some (.int x13)] (ls_s (ls_s (ls_s ls_0))) hK
theorem s_X6_copyFrom_2 {l : Launch} {G : mG} {Q : Option Value → mH → Prop} {X : String → mH → Prop} (p0 : Nat) (p1 : Nat) (v2 : Int32) (h : mH) {o : Unit × mH} (E : g_X6_copyFrom_2 p0 p1 v2 h = some o) (hK : (fiV Q) o) : mW l G m_X6_copyFrom 0 0 0 2 [some (.ref p0), some (.ref p1), some (.int v2)] [] h Q X :=
  (lp_go (w_X6_copyFrom_2 l G Q X p0 p1) (fiV Q) (b_X6_copyFrom_2 p0 p1) (fun s o E hK => sb_X6_copyFrom_2 p0 p1 s.1 (s.2) E hK) _ _ _ E hK : w_X6_copyFrom_2 l G Q X p0 p1 (v2, h))
set_option maxRecDepth 100000 in
set_option maxHeartbeats 4000000 in
theorem s_X6_copyFrom_0 {l : Launch} {G : mG} {Q : Option Value → mH → Prop} {X : String → mH → Prop} (p0 : Nat) (p1 : Nat) (h : mH) {o : Unit × mH} (E : f_X6_copyFrom p0 p1 h = some o) (hK : (fiV Q) o) : mW l G m_X6_copyFrom 0 0 0 0 [some (.ref p0), some (.ref p1), none] [] h Q X := by
  unfold f_X6_copyFrom at E
  refine q_iconst dX6_copyFrom_0 ?_
  refine r_istore_n dX6_copyFrom_1 (by decide) rfl (ls' := [some (.ref p0), some (.ref p1), some (.int (Int32.ofInt 0))]) rfl ?_
  exact r_fewer [some (.ref p0), some (.ref p1), some (.int (Int32.ofInt 0))] (ls_s (ls_s (ls_s ls_0))) (s_X6_copyFrom_2 p0 p1 (Int32.ofInt 0) h E hK)
theorem c_X6_copyFrom {l : Launch} {G : mG} {p0 : Nat} {p1 : Nat} {h h' : mH} {r : Unit} (E : f_X6_copyFrom p0 p1 h = some (r, h')) : mMet l G m_X6_copyFrom 0 0 0 [.ref p0, .ref p1] h (fun v k => v = none ∧ h' = k) (fun _ _ => False) :=
  mMet_of (by decide +kernel) rfl (ac_c rfl (ac_c rfl ac_0)) (Nat.le_of_ble_eq_true rfl) (s_X6_copyFrom_0 p0 p1 h E (And.intro rfl rfl))
set_option maxRecDepth 100000 in
set_option maxHeartbeats 4000000 in
theorem s_X1_prepare_14 {l : Launch} {G : mG} {Q : Option Value → mH → Prop} {X : String → mH → Prop} (h : mH) {o : Unit × mH} (E : g_X1_prepare_14  h = some o) (hK : (fiV Q) o) : mW l G m_X1_prepare 1 0 0 14 [none, none, none] [] h Q X := by
  unfold g_X1_prepare_14 at E
  cases E
  exact q_return dX1_prepare_14 rfl hK
set_option maxRecDepth 100000 in
set_option maxHeartbeats 4000000 in
theorem s_X1_prepare_0 {l : Launch} {G : mG} {Q : Option Value → mH → Prop} {X : String → mH → Prop} (p0 : Nat) (p1 : Nat) (h : mH) {o : Unit × mH} (E : f_X1_prepare p0 p1 h = some o) (hK : (fiV Q) o) : mW l G m_X1_prepare 1 0 0 0 [some (.ref p0), some (.ref p1), none] [] h Q X := by
  unfold f_X1_prepare at E
  refine q_aload_n dX1_prepare_0 rfl ?_
  replace E := grd_some E
  obtain ⟨g3, E⟩ := E
  replace E := cal_some E
  obtain ⟨o2, h1, hc, E⟩ := E
  refine r_callV0 (mc := 0) (ms := 0) dX1_prepare_1 KX1_25 (c_X1_preparedShelf hc) g3 (by decide) (Nat.le_of_ble_eq_true rfl) (fun _ _ q => q.elim) ?_
  rintro _ _ ⟨rfl, rfl⟩
  clear hc
  refine r_astore_nO dX1_prepare_4 (by decide) (ls' := [some (.ref p0), some (.ref p1), some (va_rf o2)]) rfl ?_
  refine r_aload_nO dX1_prepare_5 rfl ?_
  replace E := oif_some E
  rcases E with ⟨rfl, E⟩ | ⟨a4, rfl, E⟩
  · refine q_ifnullN (tgt := 14) dX1_prepare_6 (by decide) ?_
    exact r_fewer [none, none, none] (ls_n (ls_n (ls_n ls_0))) (s_X1_prepare_14 h1 E hK)
  · refine q_ifnull dX1_prepare_6 ?_
    refine q_aload_n dX1_prepare_9 rfl ?_
    refine q_aload_n dX1_prepare_10 rfl ?_
    replace E := grd_some E
    obtain ⟨g7, E⟩ := E
    replace E := cal_some E
    obtain ⟨_, h5, hc, E⟩ := E
    refine r_callV1 (mc := 0) (ms := 0) dX1_prepare_11 KX1_29 (c_X6_copyFrom hc) g7 (by decide) (Nat.le_of_ble_eq_true rfl) (fun _ _ q => q.elim) ?_
    rintro _ _ ⟨rfl, rfl⟩
    clear hc
    exact r_fewer [none, none, none] (ls_n (ls_n (ls_n ls_0))) (s_X1_prepare_14 h5 E hK)
theorem c_X1_prepare {l : Launch} {G : mG} {p0 : Nat} {p1 : Nat} {h h' : mH} {r : Unit} (E : f_X1_prepare p0 p1 h = some (r, h')) : mMet l G m_X1_prepare 1 0 0 [.ref p0, .ref p1] h (fun v k => v = none ∧ h' = k) (fun _ _ => False) :=
  mMet_of (by decide +kernel) rfl (ac_c rfl (ac_c rfl ac_0)) (Nat.le_of_ble_eq_true rfl) (s_X1_prepare_0 p0 p1 h E (And.intro rfl rfl))
