set_option maxRecDepth 100000 in
set_option maxHeartbeats 4000000 in
theorem s_X3_isMarked_35 {l : Launch} {G : mG} {Q : Option Value → mH → Prop} {X : String → mH → Prop} (s0 : Int32) (h : mH) {o : Int32 × mH} (E : g_X3_isMarked_35 s0 h = some o) (hK : (fiI Q) o) : mW l G m_X3_isMarked 0 0 0 35 [none, none, none, none, none] [.int s0] h Q X := by
  unfold g_X3_isMarked_35 at E
  replace E := grd_some E
  obtain ⟨g1, E⟩ := E
  cases E
  exact q_zreturn dX3_isMarked_35 rfl (narZ g1) hK
set_option maxRecDepth 100000 in
set_option maxHeartbeats 4000000 in
theorem s_X3_isMarked_34 {l : Launch} {G : mG} {Q : Option Value → mH → Prop} {X : String → mH → Prop} (h : mH) {o : Int32 × mH} (E : g_X3_isMarked_34  h = some o) (hK : (fiI Q) o) : mW l G m_X3_isMarked 0 0 0 34 [none, none, none, none, none] [] h Q X := by
  unfold g_X3_isMarked_34 at E
  refine q_iconst dX3_isMarked_34 ?_
  exact r_fewer [none, none, none, none, none] (ls_n (ls_n (ls_n (ls_n (ls_n ls_0))))) (s_X3_isMarked_35 (Int32.ofInt 0) h E hK)
set_option maxRecDepth 100000 in
set_option maxHeartbeats 4000000 in
theorem s_X3_isMarked_0 {l : Launch} {G : mG} {Q : Option Value → mH → Prop} {X : String → mH → Prop} (p0 : Nat) (v1 : Int32) (v2 : Int32) (v3 : Int32) (h : mH) {o : Int32 × mH} (E : f_X3_isMarked p0 v1 v2 v3 h = some o) (hK : (fiI Q) o) : mW l G m_X3_isMarked 0 0 0 0 [some (.ref p0), some (.int v1), some (.int v2), some (.int v3), none] [] h Q X := by
  unfold f_X3_isMarked at E
  refine q_iload_n dX3_isMarked_0 rfl ?_
  refine q_iload_n dX3_isMarked_1 rfl ?_
  refine q_imul dX3_isMarked_2 ?_
  refine q_iload_n dX3_isMarked_3 rfl ?_
  refine q_iadd dX3_isMarked_4 ?_
  replace E := bnd_x E
  obtain ⟨x1, ex1, E⟩ := E
  refine r_istore dX3_isMarked_5 (by decide) ex1 (ls' := [some (.ref p0), some (.int v1), some (.int v2), some (.int v3), some (.int x1)]) rfl ?_
  refine q_iload dX3_isMarked_7 rfl ?_
  refine q_if_lt (tgt := 34) dX3_isMarked_9 (by decide) (fun z2 => ?_) (fun z2 => ?_)
  · replace E := ite_t E z2
    exact r_fewer [none, none, none, none, none] (ls_n (ls_n (ls_n (ls_n (ls_n ls_0))))) (s_X3_isMarked_34 h E hK)
  · replace E := ite_f E z2
    refine q_iload dX3_isMarked_12 rfl ?_
    refine q_sipush (v := (Int32.ofInt 16641)) dX3_isMarked_14 (by decide) ?_
    refine q_icmp_ge (tgt := 34) dX3_isMarked_17 (by decide) (fun z3 => ?_) (fun z3 => ?_)
    · replace E := ite_t E z3
      exact r_fewer [none, none, none, none, none] (ls_n (ls_n (ls_n (ls_n (ls_n ls_0))))) (s_X3_isMarked_34 h E hK)
    · replace E := ite_f E z3
      refine q_aload_n dX3_isMarked_20 rfl ?_
      replace E := grd_some E
      obtain ⟨g4, E⟩ := E
      replace E := orf_some E
      obtain ⟨a5, ea5, E⟩ := E
      refine r_getR dX3_isMarked_21 FX3_11 g4 ea5 ?_
      refine q_iload dX3_isMarked_24 rfl ?_
      replace E := grd_some E
      obtain ⟨g6, E⟩ := E
      replace E := grd_some E
      obtain ⟨g7, E⟩ := E
      refine r_zaload dX3_isMarked_26 g6 g7 ?_
      refine q_if_eq (tgt := 34) dX3_isMarked_27 (by decide) (fun z8 => ?_) (fun z8 => ?_)
      · replace E := ite_t E z8
        exact r_fewer [none, none, none, none, none] (ls_n (ls_n (ls_n (ls_n (ls_n ls_0))))) (s_X3_isMarked_34 h E hK)
      · replace E := ite_f E z8
        refine q_iconst dX3_isMarked_30 ?_
        refine q_goto (tgt := 35) dX3_isMarked_31 (by decide) ?_
        exact r_fewer [none, none, none, none, none] (ls_n (ls_n (ls_n (ls_n (ls_n ls_0))))) (s_X3_isMarked_35 (Int32.ofInt 1) h E hK)
theorem c_X3_isMarked {l : Launch} {G : mG} {p0 : Nat} {v1 : Int32} {v2 : Int32} {v3 : Int32} {h h' : mH} {r : Int32} (E : f_X3_isMarked p0 v1 v2 v3 h = some (r, h')) : mMet l G m_X3_isMarked 0 0 0 [.ref p0, .int v1, .int v2, .int v3] h (fun v k => v = some (.int r) ∧ h' = k) (fun _ _ => False) :=
  mMet_of (by decide +kernel) rfl (ac_c rfl (ac_c rfl (ac_c rfl (ac_c rfl ac_0)))) (Nat.le_of_ble_eq_true rfl) (s_X3_isMarked_0 p0 v1 v2 v3 h E (And.intro rfl rfl))
set_option maxRecDepth 100000 in
set_option maxHeartbeats 4000000 in
theorem sb_X3_leadApart_3 {l : Launch} {G : mG} {Q : Option Value → mH → Prop} {X : String → mH → Prop} (p0 : Nat) (p1 : Nat) (v2 : Int32) (v3 : Int32) (v4 : Int32) (h : mH) {o : ((Int32 × mH) ⊕ (Int32 × mH))} (E : b0_X3_leadApart_3 p0 p1 v2 v3 v4 h = some o) (hK : (lpK (w_X3_leadApart_3 l G Q X p0 p1 v2 v3) (fiI Q)) o) : mW l G m_X3_leadApart 1 0 0 3 [some (.ref p0), some (.ref p1), some (.int v2), some (.int v3), some (.int v4)] [] h Q X := by
  unfold b0_X3_leadApart_3 at E
  refine q_iload dX3_leadApart_3 rfl ?_
  refine q_iconst dX3_leadApart_5 ?_
  refine q_icmp_ge (tgt := 42) dX3_leadApart_6 (by decide) (fun z1 => ?_) (fun z1 => ?_)
  · replace E := ite_t E z1
    refine q_iconst dX3_leadApart_42 ?_
    cases E
    exact q_zreturn dX3_leadApart_43 rfl (by decide) hK
  · replace E := ite_f E z1
    refine q_aload_n dX3_leadApart_9 rfl ?_
    refine q_aload_n dX3_leadApart_10 rfl ?_
    refine q_iload_n dX3_leadApart_11 rfl ?_
    refine q_iload dX3_leadApart_12 rfl ?_
    replace E := grd_some E
    obtain ⟨g4, E⟩ := E
    replace E := cal_some E
    obtain ⟨x3, h2, hc, E⟩ := E
    refine r_callV2 (mc := 0) (ms := 0) dX3_leadApart_14 KX3_85 (c_X0_step hc) g4 (by decide) (Nat.le_of_ble_eq_true rfl) (fun _ _ q => q.elim) ?_
    rintro _ _ ⟨rfl, rfl⟩
    clear hc
    refine q_aload_n dX3_leadApart_17 rfl ?_
    refine q_iload_n dX3_leadApart_18 rfl ?_
    refine q_iload dX3_leadApart_19 rfl ?_
    replace E := grd_some E
    obtain ⟨g7, E⟩ := E
    replace E := cal_some E
    obtain ⟨x6, h5, hc, E⟩ := E
    refine r_callV2 (mc := 0) (ms := 0) dX3_leadApart_21 KX3_85 (c_X0_step hc) g7 (by decide) (Nat.le_of_ble_eq_true rfl) (fun _ _ q => q.elim) ?_
    rintro _ _ ⟨rfl, rfl⟩
    clear hc
    refine q_aload_n dX3_leadApart_24 rfl ?_
    replace E := grd_some E
    obtain ⟨g10, E⟩ := E
    replace E := cal_some E
    obtain ⟨x9, h8, hc, E⟩ := E
    refine r_callV0 (mc := 0) (ms := 0) dX3_leadApart_25 KX3_29 (c_X0_size hc) g10 (by decide) (Nat.le_of_ble_eq_true rfl) (fun _ _ q => q.elim) ?_
    rintro _ _ ⟨rfl, rfl⟩
    clear hc
    replace E := grd_some E
    obtain ⟨g13, E⟩ := E
    replace E := cal_some E
    obtain ⟨x12, h11, hc, E⟩ := E
    refine r_callV3 (mc := 0) (ms := 0) dX3_leadApart_28 KX3_74 (c_X3_isMarked hc) g13 (by decide) (Nat.le_of_ble_eq_true rfl) (fun _ _ q => q.elim) ?_
    rintro _ _ ⟨rfl, rfl⟩
    clear hc
    refine q_if_eq (tgt := 36) dX3_leadApart_31 (by decide) (fun z14 => ?_) (fun z14 => ?_)
    · replace E := ite_t E z14
      replace E := bnd_x E
      obtain ⟨x15, ex15, E⟩ := E
      refine r_iinc (v := x15) dX3_leadApart_36 rfl ex15 (by decide) (ls' := [some (.ref p0), some (.ref p1), some (.int v2), some (.int v3), some (.int x15)]) rfl ?_
      refine q_goto (tgt := 3) dX3_leadApart_39 (by decide) ?_
      cases E
      exact r_fewer [some (.ref p0), some (.ref p1), some (.int v2), some (.int v3), some (.int x15)] (ls_s (ls_s (ls_s (ls_s (ls_s ls_0))))) hK
    · replace E := ite_f E z14
      refine q_iconst dX3_leadApart_34 ?_
      cases E
      exact q_zreturn dX3_leadApart_35 rfl (by decide) hK
theorem s_X3_leadApart_3 {l : Launch} {G : mG} {Q : Option Value → mH → Prop} {X : String → mH → Prop} (p0 : Nat) (p1 : Nat) (v2 : Int32) (v3 : Int32) (v4 : Int32) (h : mH) {o : Int32 × mH} (E : g_X3_leadApart_3 p0 p1 v2 v3 v4 h = some o) (hK : (fiI Q) o) : mW l G m_X3_leadApart 1 0 0 3 [some (.ref p0), some (.ref p1), some (.int v2), some (.int v3), some (.int v4)] [] h Q X :=
  (lp_go (w_X3_leadApart_3 l G Q X p0 p1 v2 v3) (fiI Q) (b_X3_leadApart_3 p0 p1 v2 v3) (fun s o E hK => sb_X3_leadApart_3 p0 p1 v2 v3 s.1 (s.2) E hK) _ _ _ E hK : w_X3_leadApart_3 l G Q X p0 p1 v2 v3 (v4, h))
set_option maxRecDepth 100000 in
set_option maxHeartbeats 4000000 in
theorem s_X3_leadApart_0 {l : Launch} {G : mG} {Q : Option Value → mH → Prop} {X : String → mH → Prop} (p0 : Nat) (p1 : Nat) (v2 : Int32) (v3 : Int32) (h : mH) {o : Int32 × mH} (E : f_X3_leadApart p0 p1 v2 v3 h = some o) (hK : (fiI Q) o) : mW l G m_X3_leadApart 1 0 0 0 [some (.ref p0), some (.ref p1), some (.int v2), some (.int v3), none] [] h Q X := by
  unfold f_X3_leadApart at E
  refine q_iconst dX3_leadApart_0 ?_
  refine r_istore dX3_leadApart_1 (by decide) rfl (ls' := [some (.ref p0), some (.ref p1), some (.int v2), some (.int v3), some (.int (Int32.ofInt 0))]) rfl ?_
  exact r_fewer [some (.ref p0), some (.ref p1), some (.int v2), some (.int v3), some (.int (Int32.ofInt 0))] (ls_s (ls_s (ls_s (ls_s (ls_s ls_0))))) (s_X3_leadApart_3 p0 p1 v2 v3 (Int32.ofInt 0) h E hK)
theorem c_X3_leadApart {l : Launch} {G : mG} {p0 : Nat} {p1 : Nat} {v2 : Int32} {v3 : Int32} {h h' : mH} {r : Int32} (E : f_X3_leadApart p0 p1 v2 v3 h = some (r, h')) : mMet l G m_X3_leadApart 1 0 0 [.ref p0, .ref p1, .int v2, .int v3] h (fun v k => v = some (.int r) ∧ h' = k) (fun _ _ => False) :=
  mMet_of (by decide +kernel) rfl (ac_c rfl (ac_c rfl (ac_c rfl (ac_c rfl ac_0)))) (Nat.le_of_ble_eq_true rfl) (s_X3_leadApart_0 p0 p1 v2 v3 h E (And.intro rfl rfl))
set_option maxRecDepth 100000 in
set_option maxHeartbeats 4000000 in
theorem s_X3_mark_18 {l : Launch} {G : mG} {Q : Option Value → mH → Prop} {X : String → mH → Prop} (h : mH) {o : Unit × mH} (E : g_X3_mark_18  h = some o) (hK : (fiV Q) o) : mW l G m_X3_mark 0 0 0 18 [none, none] [] h Q X := by
  unfold g_X3_mark_18 at E
  cases E
  exact q_return dX3_mark_18 rfl hK
set_option maxRecDepth 100000 in
set_option maxHeartbeats 4000000 in
theorem s_X3_mark_0 {l : Launch} {G : mG} {Q : Option Value → mH → Prop} {X : String → mH → Prop} (p0 : Nat) (v1 : Int32) (h : mH) {o : Unit × mH} (E : f_X3_mark p0 v1 h = some o) (hK : (fiV Q) o) : mW l G m_X3_mark 0 0 0 0 [some (.ref p0), some (.int v1)] [] h Q X := by
  unfold f_X3_mark at E
  refine q_iload_n dX3_mark_0 rfl ?_
  refine q_if_lt (tgt := 18) dX3_mark_1 (by decide) (fun z1 => ?_) (fun z1 => ?_)
  · replace E := ite_t E z1
    exact r_fewer [none, none] (ls_n (ls_n ls_0)) (s_X3_mark_18 h E hK)
  · replace E := ite_f E z1
    refine q_iload_n dX3_mark_4 rfl ?_
    refine q_sipush (v := (Int32.ofInt 16641)) dX3_mark_5 (by decide) ?_
    refine q_icmp_ge (tgt := 18) dX3_mark_8 (by decide) (fun z2 => ?_) (fun z2 => ?_)
    · replace E := ite_t E z2
      exact r_fewer [none, none] (ls_n (ls_n ls_0)) (s_X3_mark_18 h E hK)
    · replace E := ite_f E z2
      refine q_aload_n dX3_mark_11 rfl ?_
      replace E := grd_some E
      obtain ⟨g3, E⟩ := E
      replace E := orf_some E
      obtain ⟨a4, ea4, E⟩ := E
      refine r_getR dX3_mark_12 FX3_11 g3 ea4 ?_
      refine q_iload_n dX3_mark_15 rfl ?_
      refine q_iconst dX3_mark_16 ?_
      replace E := grd_some E
      obtain ⟨g6, E⟩ := E
      replace E := grd_some E
      obtain ⟨g7, E⟩ := E
      replace E := bnd_x E
      obtain ⟨h5, eh5, E⟩ := E
      refine r_zastore (hh := eh5) dX3_mark_17 g6 g7 (by decide) ?_
      exact r_fewer [none, none] (ls_n (ls_n ls_0)) (s_X3_mark_18 h5 E hK)
theorem c_X3_mark {l : Launch} {G : mG} {p0 : Nat} {v1 : Int32} {h h' : mH} {r : Unit} (E : f_X3_mark p0 v1 h = some (r, h')) : mMet l G m_X3_mark 0 0 0 [.ref p0, .int v1] h (fun v k => v = none ∧ h' = k) (fun _ _ => False) :=
  mMet_of (by decide +kernel) rfl (ac_c rfl (ac_c rfl ac_0)) (Nat.le_of_ble_eq_true rfl) (s_X3_mark_0 p0 v1 h E (And.intro rfl rfl))
set_option maxRecDepth 100000 in
set_option maxHeartbeats 4000000 in
theorem s_X3_markMore_69 {l : Launch} {G : mG} {Q : Option Value → mH → Prop} {X : String → mH → Prop} (p0 : Nat) (p1 : Nat) (v2 : Int32) (v3 : Int32) (v4 : Int32) (v5 : Int32) (h : mH) {o : ((Int32 × Int32 × mH) ⊕ ((Int32 × Int32 × mH) ⊕ (Int32 × mH)))} (E : g_X3_markMore_69 p0 p1 v2 v3 v4 v5 h = some o) (hK : (lpK (w_X3_markMore_14 l G Q X p0 p1 v2 v4) (lpK (w_X3_markMore_5 l G Q X p0 p1 v2) (fiI Q))) o) : mW l G m_X3_markMore 2 0 0 69 [some (.ref p0), some (.ref p1), some (.int v2), some (.int v3), some (.int v4), some (.int v5)] [] h Q X := by
  unfold g_X3_markMore_69 at E
  replace E := bnd_x E
  obtain ⟨x1, ex1, E⟩ := E
  refine r_iinc (v := x1) dX3_markMore_69 rfl ex1 (by decide) (ls' := [some (.ref p0), some (.ref p1), some (.int v2), some (.int v3), some (.int v4), some (.int x1)]) rfl ?_
  refine q_goto (tgt := 14) dX3_markMore_72 (by decide) ?_
  cases E
  exact r_fewer [some (.ref p0), some (.ref p1), some (.int v2), some (.int v3), some (.int v4), some (.int x1)] (ls_s (ls_s (ls_s (ls_s (ls_s (ls_s ls_0)))))) hK
set_option maxRecDepth 100000 in
set_option maxHeartbeats 4000000 in
theorem sb_X3_markMore_14 {l : Launch} {G : mG} {Q : Option Value → mH → Prop} {X : String → mH → Prop} (p0 : Nat) (p1 : Nat) (v2 : Int32) (v3 : Int32) (v4 : Int32) (v5 : Int32) (h : mH) {o : ((Int32 × Int32 × mH) ⊕ ((Int32 × Int32 × mH) ⊕ (Int32 × mH)))} (E : b0_X3_markMore_14 p0 p1 v2 v3 v4 v5 h = some o) (hK : (lpK (w_X3_markMore_14 l G Q X p0 p1 v2 v4) (lpK (w_X3_markMore_5 l G Q X p0 p1 v2) (fiI Q))) o) : mW l G m_X3_markMore 2 0 0 14 [some (.ref p0), some (.ref p1), some (.int v2), some (.int v3), some (.int v4), some (.int v5)] [] h Q X := by
  unfold b0_X3_markMore_14 at E
  refine q_iload dX3_markMore_14 rfl ?_
  refine q_iload dX3_markMore_16 rfl ?_
  refine q_icmp_ge (tgt := 75) dX3_markMore_18 (by decide) (fun z1 => ?_) (fun z1 => ?_)
  · replace E := ite_t E z1
    replace E := bnd_x E
    obtain ⟨x2, ex2, E⟩ := E
    refine r_iinc (v := x2) dX3_markMore_75 rfl ex2 (by decide) (ls' := [some (.ref p0), some (.ref p1), some (.int v2), some (.int v3), some (.int x2), some (.int v5)]) rfl ?_
    refine q_goto (tgt := 5) dX3_markMore_78 (by decide) ?_
    cases E
    exact r_fewer [some (.ref p0), some (.ref p1), some (.int v2), some (.int v3), some (.int x2), none] (ls_s (ls_s (ls_s (ls_s (ls_s (ls_n ls_0)))))) hK
  · replace E := ite_f E z1
    refine q_aload_n dX3_markMore_21 rfl ?_
    refine q_iload dX3_markMore_22 rfl ?_
    refine q_iload dX3_markMore_24 rfl ?_
    refine q_iload_n dX3_markMore_26 rfl ?_
    replace E := grd_some E
    obtain ⟨g5, E⟩ := E
    replace E := cal_some E
    obtain ⟨x4, h3, hc, E⟩ := E
    refine r_callV3 (mc := 0) (ms := 0) dX3_markMore_27 KX3_74 (c_X3_isMarked hc) g5 (by decide) (Nat.le_of_ble_eq_true rfl) (fun _ _ q => q.elim) ?_
    rintro _ _ ⟨rfl, rfl⟩
    clear hc
    refine q_if_ne (tgt := 69) dX3_markMore_30 (by decide) (fun z6 => ?_) (fun z6 => ?_)
    · replace E := ite_f E z6
      exact r_fewer [some (.ref p0), some (.ref p1), some (.int v2), some (.int v3), some (.int v4), some (.int v5)] (ls_s (ls_s (ls_s (ls_s (ls_s (ls_s ls_0)))))) (s_X3_markMore_69 p0 p1 v2 v3 v4 v5 h3 E hK)
    · replace E := ite_t E z6
      refine q_aload_n dX3_markMore_33 rfl ?_
      refine q_aload_n dX3_markMore_34 rfl ?_
      refine q_iload dX3_markMore_35 rfl ?_
      refine q_iload dX3_markMore_37 rfl ?_
      replace E := grd_some E
      obtain ⟨g9, E⟩ := E
      replace E := cal_some E
      obtain ⟨x8, h7, hc, E⟩ := E
      refine r_callV3 (mc := 0) (ms := 0) dX3_markMore_39 KX3_78 (c_X3_leadApart hc) g9 (by decide) (Nat.le_of_ble_eq_true rfl) (fun _ _ q => q.elim) ?_
      rintro _ _ ⟨rfl, rfl⟩
      clear hc
      refine q_if_eq (tgt := 69) dX3_markMore_42 (by decide) (fun z10 => ?_) (fun z10 => ?_)
      · replace E := ite_t E z10
        exact r_fewer [some (.ref p0), some (.ref p1), some (.int v2), some (.int v3), some (.int v4), some (.int v5)] (ls_s (ls_s (ls_s (ls_s (ls_s (ls_s ls_0)))))) (s_X3_markMore_69 p0 p1 v2 v3 v4 v5 h7 E hK)
      · replace E := ite_f E z10
        refine q_aload_n dX3_markMore_45 rfl ?_
        refine q_iload dX3_markMore_46 rfl ?_
        refine q_iload_n dX3_markMore_48 rfl ?_
        refine q_imul dX3_markMore_49 ?_
        refine q_iload dX3_markMore_50 rfl ?_
        refine q_iadd dX3_markMore_52 ?_
        replace E := grd_some E
        obtain ⟨g13, E⟩ := E
        replace E := cal_some E
        obtain ⟨_, h11, hc, E⟩ := E
        refine r_callV1 (mc := 0) (ms := 0) dX3_markMore_53 KX3_82 (c_X3_mark hc) g13 (by decide) (Nat.le_of_ble_eq_true rfl) (fun _ _ q => q.elim) ?_
        rintro _ _ ⟨rfl, rfl⟩
        clear hc
        refine q_aload_n dX3_markMore_56 rfl ?_
        refine q_iload dX3_markMore_57 rfl ?_
        refine q_iload_n dX3_markMore_59 rfl ?_
        refine q_imul dX3_markMore_60 ?_
        refine q_iload dX3_markMore_61 rfl ?_
        refine q_iadd dX3_markMore_63 ?_
        replace E := grd_some E
        obtain ⟨g16, E⟩ := E
        replace E := cal_some E
        obtain ⟨_, h14, hc, E⟩ := E
        refine r_callV1 (mc := 0) (ms := 0) dX3_markMore_64 KX3_82 (c_X3_mark hc) g16 (by decide) (Nat.le_of_ble_eq_true rfl) (fun _ _ q => q.elim) ?_
        rintro _ _ ⟨rfl, rfl⟩
        clear hc
        refine q_iconst dX3_markMore_67 ?_
        refine r_istore_n dX3_markMore_68 (by decide) rfl (ls' := [some (.ref p0), some (.ref p1), some (.int v2), some (.int (Int32.ofInt 1)), some (.int v4), some (.int v5)]) rfl ?_
        exact r_fewer [some (.ref p0), some (.ref p1), some (.int v2), some (.int (Int32.ofInt 1)), some (.int v4), some (.int v5)] (ls_s (ls_s (ls_s (ls_s (ls_s (ls_s ls_0)))))) (s_X3_markMore_69 p0 p1 v2 (Int32.ofInt 1) v4 v5 h14 E hK)
theorem s_X3_markMore_14 {l : Launch} {G : mG} {Q : Option Value → mH → Prop} {X : String → mH → Prop} (p0 : Nat) (p1 : Nat) (v2 : Int32) (v3 : Int32) (v4 : Int32) (v5 : Int32) (h : mH) {o : ((Int32 × Int32 × mH) ⊕ (Int32 × mH))} (E : g_X3_markMore_14 p0 p1 v2 v3 v4 v5 h = some o) (hK : (lpK (w_X3_markMore_5 l G Q X p0 p1 v2) (fiI Q)) o) : mW l G m_X3_markMore 2 0 0 14 [some (.ref p0), some (.ref p1), some (.int v2), some (.int v3), some (.int v4), some (.int v5)] [] h Q X :=
  (lp_go (w_X3_markMore_14 l G Q X p0 p1 v2 v4) (lpK (w_X3_markMore_5 l G Q X p0 p1 v2) (fiI Q)) (b_X3_markMore_14 p0 p1 v2 v4) (fun s o E hK => sb_X3_markMore_14 p0 p1 v2 s.1 v4 s.2.1 (s.2.2) E hK) _ _ _ E hK : w_X3_markMore_14 l G Q X p0 p1 v2 v4 (v3, v5, h))
set_option maxRecDepth 100000 in
set_option maxHeartbeats 4000000 in
theorem sb_X3_markMore_5 {l : Launch} {G : mG} {Q : Option Value → mH → Prop} {X : String → mH → Prop} (p0 : Nat) (p1 : Nat) (v2 : Int32) (v3 : Int32) (v4 : Int32) (h : mH) {o : ((Int32 × Int32 × mH) ⊕ (Int32 × mH))} (E : b0_X3_markMore_5 p0 p1 v2 v3 v4 h = some o) (hK : (lpK (w_X3_markMore_5 l G Q X p0 p1 v2) (fiI Q)) o) : mW l G m_X3_markMore 2 0 0 5 [some (.ref p0), some (.ref p1), some (.int v2), some (.int v3), some (.int v4), none] [] h Q X := by
  unfold b0_X3_markMore_5 at E
  refine q_iload dX3_markMore_5 rfl ?_
  refine q_iload_n dX3_markMore_7 rfl ?_
  refine q_icmp_ge (tgt := 81) dX3_markMore_8 (by decide) (fun z1 => ?_) (fun z1 => ?_)
  · replace E := ite_t E z1
    refine q_iload_n dX3_markMore_81 rfl ?_
    replace E := grd_some E
    obtain ⟨g2, E⟩ := E
    cases E
    exact q_zreturn dX3_markMore_82 rfl (narZ g2) hK
  · replace E := ite_f E z1
    refine q_iconst dX3_markMore_11 ?_
    refine r_istore dX3_markMore_12 (by decide) rfl (ls' := [some (.ref p0), some (.ref p1), some (.int v2), some (.int v3), some (.int v4), some (.int (Int32.ofInt 0))]) rfl ?_
    exact r_fewer [some (.ref p0), some (.ref p1), some (.int v2), some (.int v3), some (.int v4), some (.int (Int32.ofInt 0))] (ls_s (ls_s (ls_s (ls_s (ls_s (ls_s ls_0)))))) (s_X3_markMore_14 p0 p1 v2 v3 v4 (Int32.ofInt 0) h E hK)
theorem s_X3_markMore_5 {l : Launch} {G : mG} {Q : Option Value → mH → Prop} {X : String → mH → Prop} (p0 : Nat) (p1 : Nat) (v2 : Int32) (v3 : Int32) (v4 : Int32) (h : mH) {o : Int32 × mH} (E : g_X3_markMore_5 p0 p1 v2 v3 v4 h = some o) (hK : (fiI Q) o) : mW l G m_X3_markMore 2 0 0 5 [some (.ref p0), some (.ref p1), some (.int v2), some (.int v3), some (.int v4), none] [] h Q X :=
  (lp_go (w_X3_markMore_5 l G Q X p0 p1 v2) (fiI Q) (b_X3_markMore_5 p0 p1 v2) (fun s o E hK => sb_X3_markMore_5 p0 p1 v2 s.1 s.2.1 (s.2.2) E hK) _ _ _ E hK : w_X3_markMore_5 l G Q X p0 p1 v2 (v3, v4, h))
set_option maxRecDepth 100000 in
set_option maxHeartbeats 4000000 in
theorem s_X3_markMore_0 {l : Launch} {G : mG} {Q : Option Value → mH → Prop} {X : String → mH → Prop} (p0 : Nat) (p1 : Nat) (v2 : Int32) (h : mH) {o : Int32 × mH} (E : f_X3_markMore p0 p1 v2 h = some o) (hK : (fiI Q) o) : mW l G m_X3_markMore 2 0 0 0 [some (.ref p0), some (.ref p1), some (.int v2), none, none, none] [] h Q X := by
  unfold f_X3_markMore at E
  refine q_iconst dX3_markMore_0 ?_
  refine r_istore_n dX3_markMore_1 (by decide) rfl (ls' := [some (.ref p0), some (.ref p1), some (.int v2), some (.int (Int32.ofInt 0)), none, none]) rfl ?_
  refine q_iconst dX3_markMore_2 ?_
  refine r_istore dX3_markMore_3 (by decide) rfl (ls' := [some (.ref p0), some (.ref p1), some (.int v2), some (.int (Int32.ofInt 0)), some (.int (Int32.ofInt 0)), none]) rfl ?_
  exact r_fewer [some (.ref p0), some (.ref p1), some (.int v2), some (.int (Int32.ofInt 0)), some (.int (Int32.ofInt 0)), none] (ls_s (ls_s (ls_s (ls_s (ls_s (ls_n ls_0)))))) (s_X3_markMore_5 p0 p1 v2 (Int32.ofInt 0) (Int32.ofInt 0) h E hK)
theorem c_X3_markMore {l : Launch} {G : mG} {p0 : Nat} {p1 : Nat} {v2 : Int32} {h h' : mH} {r : Int32} (E : f_X3_markMore p0 p1 v2 h = some (r, h')) : mMet l G m_X3_markMore 2 0 0 [.ref p0, .ref p1, .int v2] h (fun v k => v = some (.int r) ∧ h' = k) (fun _ _ => False) :=
  mMet_of (by decide +kernel) rfl (ac_c rfl (ac_c rfl (ac_c rfl ac_0))) (Nat.le_of_ble_eq_true rfl) (s_X3_markMore_0 p0 p1 v2 h E (And.intro rfl rfl))
set_option maxRecDepth 100000 in
set_option maxHeartbeats 4000000 in
theorem sb_X3_isApartFromEarlier_2 {l : Launch} {G : mG} {Q : Option Value → mH → Prop} {X : String → mH → Prop} (p0 : Nat) (v1 : Int32) (v2 : Int32) (v3 : Int32) (h : mH) {o : ((Int32 × mH) ⊕ (Int32 × mH))} (E : b0_X3_isApartFromEarlier_2 p0 v1 v2 v3 h = some o) (hK : (lpK (w_X3_isApartFromEarlier_2 l G Q X p0 v1 v2) (fiI Q)) o) : mW l G m_X3_isApartFromEarlier 1 0 0 2 [some (.ref p0), some (.int v1), some (.int v2), some (.int v3)] [] h Q X := by
  unfold b0_X3_isApartFromEarlier_2 at E
  refine q_iload_n dX3_isApartFromEarlier_2 rfl ?_
  refine q_iload_n dX3_isApartFromEarlier_3 rfl ?_
  refine q_icmp_ge (tgt := 25) dX3_isApartFromEarlier_4 (by decide) (fun z1 => ?_) (fun z1 => ?_)
  · replace E := ite_t E z1
    refine q_iconst dX3_isApartFromEarlier_25 ?_
    cases E
    exact q_zreturn dX3_isApartFromEarlier_26 rfl (by decide) hK
  · replace E := ite_f E z1
    refine q_aload_n dX3_isApartFromEarlier_7 rfl ?_
    refine q_iload_n dX3_isApartFromEarlier_8 rfl ?_
    refine q_iload_n dX3_isApartFromEarlier_9 rfl ?_
    refine q_iload_n dX3_isApartFromEarlier_10 rfl ?_
    replace E := grd_some E
    obtain ⟨g4, E⟩ := E
    replace E := cal_some E
    obtain ⟨x3, h2, hc, E⟩ := E
    refine r_callV3 (mc := 0) (ms := 0) dX3_isApartFromEarlier_11 KX3_74 (c_X3_isMarked hc) g4 (by decide) (Nat.le_of_ble_eq_true rfl) (fun _ _ q => q.elim) ?_
    rintro _ _ ⟨rfl, rfl⟩
    clear hc
    refine q_if_ne (tgt := 19) dX3_isApartFromEarlier_14 (by decide) (fun z5 => ?_) (fun z5 => ?_)
    · replace E := ite_f E z5
      replace E := bnd_x E
      obtain ⟨x6, ex6, E⟩ := E
      refine r_iinc (v := x6) dX3_isApartFromEarlier_19 rfl ex6 (by decide) (ls' := [some (.ref p0), some (.int v1), some (.int v2), some (.int x6)]) rfl ?_
      refine q_goto (tgt := 2) dX3_isApartFromEarlier_22 (by decide) ?_
      cases E
      exact r_fewer [some (.ref p0), some (.int v1), some (.int v2), some (.int x6)] (ls_s (ls_s (ls_s (ls_s ls_0)))) hK
    · replace E := ite_t E z5
      refine q_iconst dX3_isApartFromEarlier_17 ?_
      cases E
      exact q_zreturn dX3_isApartFromEarlier_18 rfl (by decide) hK
theorem s_X3_isApartFromEarlier_2 {l : Launch} {G : mG} {Q : Option Value → mH → Prop} {X : String → mH → Prop} (p0 : Nat) (v1 : Int32) (v2 : Int32) (v3 : Int32) (h : mH) {o : Int32 × mH} (E : g_X3_isApartFromEarlier_2 p0 v1 v2 v3 h = some o) (hK : (fiI Q) o) : mW l G m_X3_isApartFromEarlier 1 0 0 2 [some (.ref p0), some (.int v1), some (.int v2), some (.int v3)] [] h Q X :=
  (lp_go (w_X3_isApartFromEarlier_2 l G Q X p0 v1 v2) (fiI Q) (b_X3_isApartFromEarlier_2 p0 v1 v2) (fun s o E hK => sb_X3_isApartFromEarlier_2 p0 v1 v2 s.1 (s.2) E hK) _ _ _ E hK : w_X3_isApartFromEarlier_2 l G Q X p0 v1 v2 (v3, h))
set_option maxRecDepth 100000 in
set_option maxHeartbeats 4000000 in
theorem s_X3_isApartFromEarlier_0 {l : Launch} {G : mG} {Q : Option Value → mH → Prop} {X : String → mH → Prop} (p0 : Nat) (v1 : Int32) (v2 : Int32) (h : mH) {o : Int32 × mH} (E : f_X3_isApartFromEarlier p0 v1 v2 h = some o) (hK : (fiI Q) o) : mW l G m_X3_isApartFromEarlier 1 0 0 0 [some (.ref p0), some (.int v1), some (.int v2), none] [] h Q X := by
  unfold f_X3_isApartFromEarlier at E
  refine q_iconst dX3_isApartFromEarlier_0 ?_
  refine r_istore_n dX3_isApartFromEarlier_1 (by decide) rfl (ls' := [some (.ref p0), some (.int v1), some (.int v2), some (.int (Int32.ofInt 0))]) rfl ?_
  exact r_fewer [some (.ref p0), some (.int v1), some (.int v2), some (.int (Int32.ofInt 0))] (ls_s (ls_s (ls_s (ls_s ls_0)))) (s_X3_isApartFromEarlier_2 p0 v1 v2 (Int32.ofInt 0) h E hK)
theorem c_X3_isApartFromEarlier {l : Launch} {G : mG} {p0 : Nat} {v1 : Int32} {v2 : Int32} {h h' : mH} {r : Int32} (E : f_X3_isApartFromEarlier p0 v1 v2 h = some (r, h')) : mMet l G m_X3_isApartFromEarlier 1 0 0 [.ref p0, .int v1, .int v2] h (fun v k => v = some (.int r) ∧ h' = k) (fun _ _ => False) :=
  mMet_of (by decide +kernel) rfl (ac_c rfl (ac_c rfl (ac_c rfl ac_0))) (Nat.le_of_ble_eq_true rfl) (s_X3_isApartFromEarlier_0 p0 v1 v2 h E (And.intro rfl rfl))
set_option maxRecDepth 100000 in
set_option maxHeartbeats 4000000 in
theorem s_X3_countToldApart_56 {l : Launch} {G : mG} {Q : Option Value → mH → Prop} {X : String → mH → Prop} (p0 : Nat) (p1 : Nat) (v2 : Int32) (v3 : Int32) (v4 : Int32) (s0 : Int32) (s1 : Int32) (sp2 : Nat) (h : mH) {o : ((Int32 × mH) ⊕ ((Int32 × mH) ⊕ (Int32 × mH)))} (E : g_X3_countToldApart_56 p0 p1 v2 v3 v4 s0 s1 sp2 h = some o) (hK : (lpK (w_X3_countToldApart_21 l G Q X p0 p1 v2 v3) (lpK (w_X3_countToldApart_13 l G Q X p0 p1 v2) (fiI Q))) o) : mW l G m_X3_countToldApart 3 0 0 56 [some (.ref p0), some (.ref p1), some (.int v2), some (.int v3), some (.int v4), none] [.int s0, .int s1, .ref sp2] h Q X := by
  unfold g_X3_countToldApart_56 at E
  replace E := grd_some E
  obtain ⟨g2, E⟩ := E
  replace E := grd_some E
  obtain ⟨g3, E⟩ := E
  replace E := grd_some E
  obtain ⟨g4, E⟩ := E
  replace E := bnd_x E
  obtain ⟨h1, eh1, E⟩ := E
  refine r_zastore (hh := eh1) dX3_countToldApart_56 g2 g3 g4 ?_
  replace E := bnd_x E
  obtain ⟨x5, ex5, E⟩ := E
  refine r_iinc (v := x5) dX3_countToldApart_57 rfl ex5 (by decide) (ls' := [some (.ref p0), some (.ref p1), some (.int v2), some (.int v3), some (.int x5), none]) rfl ?_
  refine q_goto (tgt := 21) dX3_countToldApart_60 (by decide) ?_
  cases E
  exact r_fewer [some (.ref p0), some (.ref p1), some (.int v2), some (.int v3), some (.int x5), none] (ls_s (ls_s (ls_s (ls_s (ls_s (ls_n ls_0)))))) hK
set_option maxRecDepth 100000 in
set_option maxHeartbeats 4000000 in
theorem sb_X3_countToldApart_21 {l : Launch} {G : mG} {Q : Option Value → mH → Prop} {X : String → mH → Prop} (p0 : Nat) (p1 : Nat) (v2 : Int32) (v3 : Int32) (v4 : Int32) (h : mH) {o : ((Int32 × mH) ⊕ ((Int32 × mH) ⊕ (Int32 × mH)))} (E : b0_X3_countToldApart_21 p0 p1 v2 v3 v4 h = some o) (hK : (lpK (w_X3_countToldApart_21 l G Q X p0 p1 v2 v3) (lpK (w_X3_countToldApart_13 l G Q X p0 p1 v2) (fiI Q))) o) : mW l G m_X3_countToldApart 3 0 0 21 [some (.ref p0), some (.ref p1), some (.int v2), some (.int v3), some (.int v4), none] [] h Q X := by
  unfold b0_X3_countToldApart_21 at E
  refine q_iload dX3_countToldApart_21 rfl ?_
  refine q_iload_n dX3_countToldApart_23 rfl ?_
  refine q_icmp_ge (tgt := 63) dX3_countToldApart_24 (by decide) (fun z1 => ?_) (fun z1 => ?_)
  · replace E := ite_t E z1
    replace E := bnd_x E
    obtain ⟨x2, ex2, E⟩ := E
    refine r_iinc (v := x2) dX3_countToldApart_63 rfl ex2 (by decide) (ls' := [some (.ref p0), some (.ref p1), some (.int v2), some (.int x2), some (.int v4), none]) rfl ?_
    refine q_goto (tgt := 13) dX3_countToldApart_66 (by decide) ?_
    cases E
    exact r_fewer [some (.ref p0), some (.ref p1), some (.int v2), some (.int x2), none, none] (ls_s (ls_s (ls_s (ls_s (ls_n (ls_n ls_0)))))) hK
  · replace E := ite_f E z1
    refine q_aload_n dX3_countToldApart_27 rfl ?_
    replace E := grd_some E
    obtain ⟨g3, E⟩ := E
    replace E := orf_some E
    obtain ⟨a4, ea4, E⟩ := E
    refine r_getR dX3_countToldApart_28 FX3_11 g3 ea4 ?_
    refine q_iload_n dX3_countToldApart_31 rfl ?_
    refine q_iload_n dX3_countToldApart_32 rfl ?_
    refine q_imul dX3_countToldApart_33 ?_
    refine q_iload dX3_countToldApart_34 rfl ?_
    refine q_iadd dX3_countToldApart_36 ?_
    refine q_aload_n dX3_countToldApart_37 rfl ?_
    refine q_iload_n dX3_countToldApart_38 rfl ?_
    replace E := grd_some E
    obtain ⟨g7, E⟩ := E
    replace E := cal_some E
    obtain ⟨x6, h5, hc, E⟩ := E
    refine r_callV1 (mc := 0) (ms := 0) dX3_countToldApart_39 KX3_41 (c_X0_isAccepting hc) g7 (by decide) (Nat.le_of_ble_eq_true rfl) (fun _ _ q => q.elim) ?_
    rintro _ _ ⟨rfl, rfl⟩
    clear hc
    refine q_aload_n dX3_countToldApart_42 rfl ?_
    refine q_iload dX3_countToldApart_43 rfl ?_
    replace E := grd_some E
    obtain ⟨g10, E⟩ := E
    replace E := cal_some E
    obtain ⟨x9, h8, hc, E⟩ := E
    refine r_callV1 (mc := 0) (ms := 0) dX3_countToldApart_45 KX3_41 (c_X0_isAccepting hc) g10 (by decide) (Nat.le_of_ble_eq_true rfl) (fun _ _ q => q.elim) ?_
    rintro _ _ ⟨rfl, rfl⟩
    clear hc
    refine q_icmp_eq (tgt := 55) dX3_countToldApart_48 (by decide) (fun z11 => ?_) (fun z11 => ?_)
    · replace E := ite_t E z11
      refine q_iconst dX3_countToldApart_55 ?_
      exact r_fewer [some (.ref p0), some (.ref p1), some (.int v2), some (.int v3), some (.int v4), none] (ls_s (ls_s (ls_s (ls_s (ls_s (ls_n ls_0)))))) (s_X3_countToldApart_56 p0 p1 v2 v3 v4 (Int32.ofInt 0) ((v3 * v2) + v4) a4 h8 E hK)
    · replace E := ite_f E z11
      refine q_iconst dX3_countToldApart_51 ?_
      refine q_goto (tgt := 56) dX3_countToldApart_52 (by decide) ?_
      exact r_fewer [some (.ref p0), some (.ref p1), some (.int v2), some (.int v3), some (.int v4), none] (ls_s (ls_s (ls_s (ls_s (ls_s (ls_n ls_0)))))) (s_X3_countToldApart_56 p0 p1 v2 v3 v4 (Int32.ofInt 1) ((v3 * v2) + v4) a4 h8 E hK)
theorem s_X3_countToldApart_21 {l : Launch} {G : mG} {Q : Option Value → mH → Prop} {X : String → mH → Prop} (p0 : Nat) (p1 : Nat) (v2 : Int32) (v3 : Int32) (v4 : Int32) (h : mH) {o : ((Int32 × mH) ⊕ (Int32 × mH))} (E : g_X3_countToldApart_21 p0 p1 v2 v3 v4 h = some o) (hK : (lpK (w_X3_countToldApart_13 l G Q X p0 p1 v2) (fiI Q)) o) : mW l G m_X3_countToldApart 3 0 0 21 [some (.ref p0), some (.ref p1), some (.int v2), some (.int v3), some (.int v4), none] [] h Q X :=
  (lp_go (w_X3_countToldApart_21 l G Q X p0 p1 v2 v3) (lpK (w_X3_countToldApart_13 l G Q X p0 p1 v2) (fiI Q)) (b_X3_countToldApart_21 p0 p1 v2 v3) (fun s o E hK => sb_X3_countToldApart_21 p0 p1 v2 v3 s.1 (s.2) E hK) _ _ _ E hK : w_X3_countToldApart_21 l G Q X p0 p1 v2 v3 (v4, h))
set_option maxRecDepth 100000 in
set_option maxHeartbeats 4000000 in
theorem s_X3_countToldApart_128 {l : Launch} {G : mG} {Q : Option Value → mH → Prop} {X : String → mH → Prop} (p0 : Nat) (v2 : Int32) (v5 : Int32) (s0 : Int32) (s1 : Int32) (h : mH) {o : ((Int32 × Int32 × mH) ⊕ (Int32 × mH))} (E : g_X3_countToldApart_128 p0 v2 v5 s0 s1 h = some o) (hK : (lpK (w_X3_countToldApart_105 l G Q X p0 v2) (fiI Q)) o) : mW l G m_X3_countToldApart 3 0 0 128 [some (.ref p0), none, some (.int v2), none, none, some (.int v5)] [.int s0, .int s1] h Q X := by
  unfold g_X3_countToldApart_128 at E
  refine q_iadd dX3_countToldApart_128 ?_
  replace E := bnd_x E
  obtain ⟨x1, ex1, E⟩ := E
  refine r_istore dX3_countToldApart_129 (by decide) ex1 (ls' := [some (.ref p0), none, some (.int v2), none, some (.int x1), some (.int v5)]) rfl ?_
  replace E := bnd_x E
  obtain ⟨x2, ex2, E⟩ := E
  refine r_iinc (v := x2) dX3_countToldApart_131 rfl ex2 (by decide) (ls' := [some (.ref p0), none, some (.int v2), none, some (.int x1), some (.int x2)]) rfl ?_
  refine q_goto (tgt := 105) dX3_countToldApart_134 (by decide) ?_
  cases E
  exact r_fewer [some (.ref p0), none, some (.int v2), none, some (.int x1), some (.int x2)] (ls_s (ls_n (ls_s (ls_n (ls_s (ls_s ls_0)))))) hK
set_option maxRecDepth 100000 in
set_option maxHeartbeats 4000000 in
theorem sb_X3_countToldApart_105 {l : Launch} {G : mG} {Q : Option Value → mH → Prop} {X : String → mH → Prop} (p0 : Nat) (v2 : Int32) (v4 : Int32) (v5 : Int32) (h : mH) {o : ((Int32 × Int32 × mH) ⊕ (Int32 × mH))} (E : b0_X3_countToldApart_105 p0 v2 v4 v5 h = some o) (hK : (lpK (w_X3_countToldApart_105 l G Q X p0 v2) (fiI Q)) o) : mW l G m_X3_countToldApart 3 0 0 105 [some (.ref p0), none, some (.int v2), none, some (.int v4), some (.int v5)] [] h Q X := by
  unfold b0_X3_countToldApart_105 at E
  refine q_iload dX3_countToldApart_105 rfl ?_
  refine q_iload_n dX3_countToldApart_107 rfl ?_
  refine q_icmp_ge (tgt := 137) dX3_countToldApart_108 (by decide) (fun z1 => ?_) (fun z1 => ?_)
  · replace E := ite_t E z1
    refine q_iload dX3_countToldApart_137 rfl ?_
    cases E
    exact q_ireturn dX3_countToldApart_139 rfl hK
  · replace E := ite_f E z1
    refine q_iload dX3_countToldApart_111 rfl ?_
    refine q_aload_n dX3_countToldApart_113 rfl ?_
    refine q_iload dX3_countToldApart_114 rfl ?_
    refine q_iload_n dX3_countToldApart_116 rfl ?_
    replace E := grd_some E
    obtain ⟨g4, E⟩ := E
    replace E := cal_some E
    obtain ⟨x3, h2, hc, E⟩ := E
    refine r_callV2 (mc := 0) (ms := 0) dX3_countToldApart_117 KX3_49 (c_X3_isApartFromEarlier hc) g4 (by decide) (Nat.le_of_ble_eq_true rfl) (fun _ _ q => q.elim) ?_
    rintro _ _ ⟨rfl, rfl⟩
    clear hc
    refine q_if_eq (tgt := 127) dX3_countToldApart_120 (by decide) (fun z5 => ?_) (fun z5 => ?_)
    · replace E := ite_t E z5
      refine q_iconst dX3_countToldApart_127 ?_
      exact r_fewer [some (.ref p0), none, some (.int v2), none, none, some (.int v5)] (ls_s (ls_n (ls_s (ls_n (ls_n (ls_s ls_0)))))) (s_X3_countToldApart_128 p0 v2 v5 (Int32.ofInt 0) v4 h2 E hK)
    · replace E := ite_f E z5
      refine q_iconst dX3_countToldApart_123 ?_
      refine q_goto (tgt := 128) dX3_countToldApart_124 (by decide) ?_
      exact r_fewer [some (.ref p0), none, some (.int v2), none, none, some (.int v5)] (ls_s (ls_n (ls_s (ls_n (ls_n (ls_s ls_0)))))) (s_X3_countToldApart_128 p0 v2 v5 (Int32.ofInt 1) v4 h2 E hK)
theorem s_X3_countToldApart_105 {l : Launch} {G : mG} {Q : Option Value → mH → Prop} {X : String → mH → Prop} (p0 : Nat) (v2 : Int32) (v4 : Int32) (v5 : Int32) (h : mH) {o : Int32 × mH} (E : g_X3_countToldApart_105 p0 v2 v4 v5 h = some o) (hK : (fiI Q) o) : mW l G m_X3_countToldApart 3 0 0 105 [some (.ref p0), none, some (.int v2), none, some (.int v4), some (.int v5)] [] h Q X :=
  (lp_go (w_X3_countToldApart_105 l G Q X p0 v2) (fiI Q) (b_X3_countToldApart_105 p0 v2) (fun s o E hK => sb_X3_countToldApart_105 p0 v2 s.1 s.2.1 (s.2.2) E hK) _ _ _ E hK : w_X3_countToldApart_105 l G Q X p0 v2 (v4, v5, h))
set_option maxRecDepth 100000 in
set_option maxHeartbeats 4000000 in
theorem s_X3_countToldApart_99 {l : Launch} {G : mG} {Q : Option Value → mH → Prop} {X : String → mH → Prop} (p0 : Nat) (v2 : Int32) (h : mH) {o : Int32 × mH} (E : g_X3_countToldApart_99 p0 v2 h = some o) (hK : (fiI Q) o) : mW l G m_X3_countToldApart 3 0 0 99 [some (.ref p0), none, some (.int v2), none, none, none] [] h Q X := by
  unfold g_X3_countToldApart_99 at E
  refine q_iconst dX3_countToldApart_99 ?_
  refine r_istore dX3_countToldApart_100 (by decide) rfl (ls' := [some (.ref p0), none, some (.int v2), none, some (.int (Int32.ofInt 0)), none]) rfl ?_
  refine q_iconst dX3_countToldApart_102 ?_
  refine r_istore dX3_countToldApart_103 (by decide) rfl (ls' := [some (.ref p0), none, some (.int v2), none, some (.int (Int32.ofInt 0)), some (.int (Int32.ofInt 0))]) rfl ?_
  exact r_fewer [some (.ref p0), none, some (.int v2), none, some (.int (Int32.ofInt 0)), some (.int (Int32.ofInt 0))] (ls_s (ls_n (ls_s (ls_n (ls_s (ls_s ls_0)))))) (s_X3_countToldApart_105 p0 v2 (Int32.ofInt 0) (Int32.ofInt 0) h E hK)
set_option maxRecDepth 100000 in
set_option maxHeartbeats 4000000 in
theorem sb_X3_countToldApart_74 {l : Launch} {G : mG} {Q : Option Value → mH → Prop} {X : String → mH → Prop} (p0 : Nat) (p1 : Nat) (v2 : Int32) (v3 : Int32) (v4 : Int32) (h : mH) {o : ((Int32 × Int32 × mH) ⊕ (Int32 × mH))} (E : b0_X3_countToldApart_74 p0 p1 v2 v3 v4 h = some o) (hK : (lpK (w_X3_countToldApart_74 l G Q X p0 p1 v2) (fiI Q)) o) : mW l G m_X3_countToldApart 3 0 0 74 [some (.ref p0), some (.ref p1), some (.int v2), some (.int v3), some (.int v4), none] [] h Q X := by
  unfold b0_X3_countToldApart_74 at E
  refine q_iload_n dX3_countToldApart_74 rfl ?_
  refine q_if_eq (tgt := 99) dX3_countToldApart_75 (by decide) (fun z1 => ?_) (fun z1 => ?_)
  · replace E := ite_t E z1
    obtain ⟨o0, E0, rfl⟩ := inrO_some E
    exact r_fewer [some (.ref p0), none, some (.int v2), none, none, none] (ls_s (ls_n (ls_s (ls_n (ls_n (ls_n ls_0)))))) (s_X3_countToldApart_99 p0 v2 h E0 hK)
  · replace E := ite_f E z1
    refine q_iload dX3_countToldApart_78 rfl ?_
    refine q_sipush (v := (Int32.ofInt 129)) dX3_countToldApart_80 (by decide) ?_
    refine q_icmp_ge (tgt := 99) dX3_countToldApart_83 (by decide) (fun z2 => ?_) (fun z2 => ?_)
    · replace E := ite_t E z2
      obtain ⟨o0, E0, rfl⟩ := inrO_some E
      exact r_fewer [some (.ref p0), none, some (.int v2), none, none, none] (ls_s (ls_n (ls_s (ls_n (ls_n (ls_n ls_0)))))) (s_X3_countToldApart_99 p0 v2 h E0 hK)
    · replace E := ite_f E z2
      refine q_aload_n dX3_countToldApart_86 rfl ?_
      refine q_aload_n dX3_countToldApart_87 rfl ?_
      refine q_iload_n dX3_countToldApart_88 rfl ?_
      replace E := grd_some E
      obtain ⟨g5, E⟩ := E
      replace E := cal_some E
      obtain ⟨x4, h3, hc, E⟩ := E
      refine r_callV2 (mc := 0) (ms := 0) dX3_countToldApart_89 KX3_45 (c_X3_markMore hc) g5 (by decide) (Nat.le_of_ble_eq_true rfl) (fun _ _ q => q.elim) ?_
      rintro _ _ ⟨rfl, rfl⟩
      clear hc
      refine r_istore_n dX3_countToldApart_92 (by decide) rfl (ls' := [some (.ref p0), some (.ref p1), some (.int v2), some (.int x4), some (.int v4), none]) rfl ?_
      replace E := bnd_x E
      obtain ⟨x6, ex6, E⟩ := E
      refine r_iinc (v := x6) dX3_countToldApart_93 rfl ex6 (by decide) (ls' := [some (.ref p0), some (.ref p1), some (.int v2), some (.int x4), some (.int x6), none]) rfl ?_
      refine q_goto (tgt := 74) dX3_countToldApart_96 (by decide) ?_
      cases E
      exact r_fewer [some (.ref p0), some (.ref p1), some (.int v2), some (.int x4), some (.int x6), none] (ls_s (ls_s (ls_s (ls_s (ls_s (ls_n ls_0)))))) hK
theorem s_X3_countToldApart_74 {l : Launch} {G : mG} {Q : Option Value → mH → Prop} {X : String → mH → Prop} (p0 : Nat) (p1 : Nat) (v2 : Int32) (v3 : Int32) (v4 : Int32) (h : mH) {o : Int32 × mH} (E : g_X3_countToldApart_74 p0 p1 v2 v3 v4 h = some o) (hK : (fiI Q) o) : mW l G m_X3_countToldApart 3 0 0 74 [some (.ref p0), some (.ref p1), some (.int v2), some (.int v3), some (.int v4), none] [] h Q X :=
  (lp_go (w_X3_countToldApart_74 l G Q X p0 p1 v2) (fiI Q) (b_X3_countToldApart_74 p0 p1 v2) (fun s o E hK => sb_X3_countToldApart_74 p0 p1 v2 s.1 s.2.1 (s.2.2) E hK) _ _ _ E hK : w_X3_countToldApart_74 l G Q X p0 p1 v2 (v3, v4, h))
set_option maxRecDepth 100000 in
set_option maxHeartbeats 4000000 in
theorem sb_X3_countToldApart_13 {l : Launch} {G : mG} {Q : Option Value → mH → Prop} {X : String → mH → Prop} (p0 : Nat) (p1 : Nat) (v2 : Int32) (v3 : Int32) (h : mH) {o : ((Int32 × mH) ⊕ (Int32 × mH))} (E : b0_X3_countToldApart_13 p0 p1 v2 v3 h = some o) (hK : (lpK (w_X3_countToldApart_13 l G Q X p0 p1 v2) (fiI Q)) o) : mW l G m_X3_countToldApart 3 0 0 13 [some (.ref p0), some (.ref p1), some (.int v2), some (.int v3), none, none] [] h Q X := by
  unfold b0_X3_countToldApart_13 at E
  refine q_iload_n dX3_countToldApart_13 rfl ?_
  refine q_iload_n dX3_countToldApart_14 rfl ?_
  refine q_icmp_ge (tgt := 69) dX3_countToldApart_15 (by decide) (fun z1 => ?_) (fun z1 => ?_)
  · replace E := ite_t E z1
    refine q_iconst dX3_countToldApart_69 ?_
    refine r_istore_n dX3_countToldApart_70 (by decide) rfl (ls' := [some (.ref p0), some (.ref p1), some (.int v2), some (.int (Int32.ofInt 1)), none, none]) rfl ?_
    refine q_iconst dX3_countToldApart_71 ?_
    refine r_istore dX3_countToldApart_72 (by decide) rfl (ls' := [some (.ref p0), some (.ref p1), some (.int v2), some (.int (Int32.ofInt 1)), some (.int (Int32.ofInt 0)), none]) rfl ?_
    obtain ⟨o0, E0, rfl⟩ := inrO_some E
    exact r_fewer [some (.ref p0), some (.ref p1), some (.int v2), some (.int (Int32.ofInt 1)), some (.int (Int32.ofInt 0)), none] (ls_s (ls_s (ls_s (ls_s (ls_s (ls_n ls_0)))))) (s_X3_countToldApart_74 p0 p1 v2 (Int32.ofInt 1) (Int32.ofInt 0) h E0 hK)
  · replace E := ite_f E z1
    refine q_iconst dX3_countToldApart_18 ?_
    refine r_istore dX3_countToldApart_19 (by decide) rfl (ls' := [some (.ref p0), some (.ref p1), some (.int v2), some (.int v3), some (.int (Int32.ofInt 0)), none]) rfl ?_
    exact r_fewer [some (.ref p0), some (.ref p1), some (.int v2), some (.int v3), some (.int (Int32.ofInt 0)), none] (ls_s (ls_s (ls_s (ls_s (ls_s (ls_n ls_0)))))) (s_X3_countToldApart_21 p0 p1 v2 v3 (Int32.ofInt 0) h E hK)
theorem s_X3_countToldApart_13 {l : Launch} {G : mG} {Q : Option Value → mH → Prop} {X : String → mH → Prop} (p0 : Nat) (p1 : Nat) (v2 : Int32) (v3 : Int32) (h : mH) {o : Int32 × mH} (E : g_X3_countToldApart_13 p0 p1 v2 v3 h = some o) (hK : (fiI Q) o) : mW l G m_X3_countToldApart 3 0 0 13 [some (.ref p0), some (.ref p1), some (.int v2), some (.int v3), none, none] [] h Q X :=
  (lp_go (w_X3_countToldApart_13 l G Q X p0 p1 v2) (fiI Q) (b_X3_countToldApart_13 p0 p1 v2) (fun s o E hK => sb_X3_countToldApart_13 p0 p1 v2 s.1 (s.2) E hK) _ _ _ E hK : w_X3_countToldApart_13 l G Q X p0 p1 v2 (v3, h))
set_option maxRecDepth 100000 in
set_option maxHeartbeats 4000000 in
theorem s_X3_countToldApart_0 {l : Launch} {G : mG} {Q : Option Value → mH → Prop} {X : String → mH → Prop} (p0 : Nat) (p1 : Nat) (h : mH) {o : Int32 × mH} (E : f_X3_countToldApart p0 p1 h = some o) (hK : (fiI Q) o) : mW l G m_X3_countToldApart 3 0 0 0 [some (.ref p0), some (.ref p1), none, none, none, none] [] h Q X := by
  unfold f_X3_countToldApart at E
  refine q_aload_n dX3_countToldApart_0 rfl ?_
  replace E := grd_some E
  obtain ⟨g3, E⟩ := E
  replace E := cal_some E
  obtain ⟨x2, h1, hc, E⟩ := E
  refine r_callV0 (mc := 0) (ms := 0) dX3_countToldApart_1 KX3_29 (c_X0_size hc) g3 (by decide) (Nat.le_of_ble_eq_true rfl) (fun _ _ q => q.elim) ?_
  rintro _ _ ⟨rfl, rfl⟩
  clear hc
  refine q_sipush (v := (Int32.ofInt 129)) dX3_countToldApart_4 (by decide) ?_
  refine q_mmin dX3_countToldApart_7 XX3_35 (Nat.le_of_ble_eq_true rfl) ?_
  replace E := bnd_x E
  obtain ⟨x4, ex4, E⟩ := E
  refine r_istore_n dX3_countToldApart_10 (by decide) ex4 (ls' := [some (.ref p0), some (.ref p1), some (.int x4), none, none, none]) rfl ?_
  refine q_iconst dX3_countToldApart_11 ?_
  refine r_istore_n dX3_countToldApart_12 (by decide) rfl (ls' := [some (.ref p0), some (.ref p1), some (.int x4), some (.int (Int32.ofInt 0)), none, none]) rfl ?_
  exact r_fewer [some (.ref p0), some (.ref p1), some (.int x4), some (.int (Int32.ofInt 0)), none, none] (ls_s (ls_s (ls_s (ls_s (ls_n (ls_n ls_0)))))) (s_X3_countToldApart_13 p0 p1 x4 (Int32.ofInt 0) h1 E hK)
theorem c_X3_countToldApart {l : Launch} {G : mG} {p0 : Nat} {p1 : Nat} {h h' : mH} {r : Int32} (E : f_X3_countToldApart p0 p1 h = some (r, h')) : mMet l G m_X3_countToldApart 3 0 0 [.ref p0, .ref p1] h (fun v k => v = some (.int r) ∧ h' = k) (fun _ _ => False) :=
  mMet_of (by decide +kernel) rfl (ac_c rfl (ac_c rfl ac_0)) (Nat.le_of_ble_eq_true rfl) (s_X3_countToldApart_0 p0 p1 h E (And.intro rfl rfl))
set_option maxRecDepth 100000 in
set_option maxHeartbeats 4000000 in
theorem s_X3_reach_37 {l : Launch} {G : mG} {Q : Option Value → mH → Prop} {X : String → mH → Prop} (h : mH) {o : Unit × mH} (E : g_X3_reach_37  h = some o) (hK : (fiV Q) o) : mW l G m_X3_reach 0 0 0 37 [none, none, none] [] h Q X := by
  unfold g_X3_reach_37 at E
  cases E
  exact q_return dX3_reach_37 rfl hK
set_option maxRecDepth 100000 in
set_option maxHeartbeats 4000000 in
theorem s_X3_reach_0 {l : Launch} {G : mG} {Q : Option Value → mH → Prop} {X : String → mH → Prop} (p0 : Nat) (v1 : Int32) (v2 : Int32) (h : mH) {o : Unit × mH} (E : f_X3_reach p0 v1 v2 h = some o) (hK : (fiV Q) o) : mW l G m_X3_reach 0 0 0 0 [some (.ref p0), some (.int v1), some (.int v2)] [] h Q X := by
  unfold f_X3_reach at E
  refine q_iload_n dX3_reach_0 rfl ?_
  refine q_if_lt (tgt := 37) dX3_reach_1 (by decide) (fun z1 => ?_) (fun z1 => ?_)
  · replace E := ite_t E z1
    exact r_fewer [none, none, none] (ls_n (ls_n (ls_n ls_0))) (s_X3_reach_37 h E hK)
  · replace E := ite_f E z1
    refine q_iload_n dX3_reach_4 rfl ?_
    refine q_sipush (v := (Int32.ofInt 16641)) dX3_reach_5 (by decide) ?_
    refine q_icmp_ge (tgt := 37) dX3_reach_8 (by decide) (fun z2 => ?_) (fun z2 => ?_)
    · replace E := ite_t E z2
      exact r_fewer [none, none, none] (ls_n (ls_n (ls_n ls_0))) (s_X3_reach_37 h E hK)
    · replace E := ite_f E z2
      refine q_aload_n dX3_reach_11 rfl ?_
      replace E := grd_some E
      obtain ⟨g3, E⟩ := E
      replace E := orf_some E
      obtain ⟨a4, ea4, E⟩ := E
      refine r_getR dX3_reach_12 FX3_11 g3 ea4 ?_
      refine q_iload_n dX3_reach_15 rfl ?_
      replace E := grd_some E
      obtain ⟨g5, E⟩ := E
      replace E := grd_some E
      obtain ⟨g6, E⟩ := E
      refine r_zaload dX3_reach_16 g5 g6 ?_
      refine q_if_ne (tgt := 37) dX3_reach_17 (by decide) (fun z7 => ?_) (fun z7 => ?_)
      · replace E := ite_f E z7
        exact r_fewer [none, none, none] (ls_n (ls_n (ls_n ls_0))) (s_X3_reach_37 h E hK)
      · replace E := ite_t E z7
        refine q_aload_n dX3_reach_20 rfl ?_
        refine r_getI dX3_reach_21 FX3_22 g3 ?_
        refine q_if_lt (tgt := 37) dX3_reach_24 (by decide) (fun z8 => ?_) (fun z8 => ?_)
        · replace E := ite_t E z8
          exact r_fewer [none, none, none] (ls_n (ls_n (ls_n ls_0))) (s_X3_reach_37 h E hK)
        · replace E := ite_f E z8
          refine q_aload_n dX3_reach_27 rfl ?_
          refine r_getI dX3_reach_28 FX3_22 g3 ?_
          refine q_sipush (v := (Int32.ofInt 16641)) dX3_reach_31 (by decide) ?_
          refine q_icmp_lt (tgt := 38) dX3_reach_34 (by decide) (fun z9 => ?_) (fun z9 => ?_)
          · replace E := ite_t E z9
            refine q_aload_n dX3_reach_38 rfl ?_
            refine r_getR dX3_reach_39 FX3_11 g3 ea4 ?_
            refine q_iload_n dX3_reach_42 rfl ?_
            refine q_iconst dX3_reach_43 ?_
            replace E := bnd_x E
            obtain ⟨h11, eh11, E⟩ := E
            refine r_zastore (hh := eh11) dX3_reach_44 g5 g6 (by decide) ?_
            refine q_aload_n dX3_reach_45 rfl ?_
            replace E := grd_some E
            obtain ⟨g12, E⟩ := E
            replace E := orf_some E
            obtain ⟨a13, ea13, E⟩ := E
            refine r_getR dX3_reach_46 FX3_15 g12 ea13 ?_
            refine q_aload_n dX3_reach_49 rfl ?_
            refine r_getI dX3_reach_50 FX3_22 g12 ?_
            refine q_iload_n dX3_reach_53 rfl ?_
            replace E := grd_some E
            obtain ⟨g15, E⟩ := E
            replace E := grd_some E
            obtain ⟨g16, E⟩ := E
            replace E := bnd_x E
            obtain ⟨h14, eh14, E⟩ := E
            refine r_iastore (hh := eh14) dX3_reach_54 g15 g16 ?_
            refine q_aload_n dX3_reach_55 rfl ?_
            replace E := grd_some E
            obtain ⟨g17, E⟩ := E
            replace E := orf_some E
            obtain ⟨a18, ea18, E⟩ := E
            refine r_getR dX3_reach_56 FX3_19 g17 ea18 ?_
            refine q_aload_n dX3_reach_59 rfl ?_
            refine r_getI dX3_reach_60 FX3_22 g17 ?_
            refine q_iload_n dX3_reach_63 rfl ?_
            replace E := grd_some E
            obtain ⟨g20, E⟩ := E
            replace E := grd_some E
            obtain ⟨g21, E⟩ := E
            replace E := bnd_x E
            obtain ⟨h19, eh19, E⟩ := E
            refine r_iastore (hh := eh19) dX3_reach_64 g20 g21 ?_
            refine q_aload_n dX3_reach_65 rfl ?_
            refine q_dup dX3_reach_66 ?_
            replace E := grd_some E
            obtain ⟨g22, E⟩ := E
            refine r_getI dX3_reach_67 FX3_22 g22 ?_
            refine q_iconst dX3_reach_70 ?_
            refine q_iadd dX3_reach_71 ?_
            replace E := bnd_x E
            obtain ⟨h23, eh23, E⟩ := E
            refine r_putI (hh := eh23) dX3_reach_72 FX3_22 g22 rfl rfl ?_
            cases E
            exact q_return dX3_reach_75 rfl hK
          · replace E := ite_f E z9
            exact r_fewer [none, none, none] (ls_n (ls_n (ls_n ls_0))) (s_X3_reach_37 h E hK)
theorem c_X3_reach {l : Launch} {G : mG} {p0 : Nat} {v1 : Int32} {v2 : Int32} {h h' : mH} {r : Unit} (E : f_X3_reach p0 v1 v2 h = some (r, h')) : mMet l G m_X3_reach 0 0 0 [.ref p0, .int v1, .int v2] h (fun v k => v = none ∧ h' = k) (fun _ _ => False) :=
  mMet_of (by decide +kernel) rfl (ac_c rfl (ac_c rfl (ac_c rfl ac_0))) (Nat.le_of_ble_eq_true rfl) (s_X3_reach_0 p0 v1 v2 h E (And.intro rfl rfl))
set_option maxRecDepth 100000 in
set_option maxHeartbeats 4000000 in
theorem s_X3_find_133 {l : Launch} {G : mG} {Q : Option Value → mH → Prop} {X : String → mH → Prop} (p0 : Nat) (v5 : Int32) (h : mH) {o : Int32 × mH} (E : g_X3_find_133 p0 v5 h = some o) (hK : (fiI Q) o) : mW l G m_X3_find 1 0 0 133 [some (.ref p0), none, none, none, none, some (.int v5), none, none, none, none, none] [] h Q X := by
  unfold g_X3_find_133 at E
  refine q_aload_n dX3_find_133 rfl ?_
  refine q_iload dX3_find_134 rfl ?_
  replace E := grd_some E
  obtain ⟨g1, E⟩ := E
  replace E := bnd_x E
  obtain ⟨h2, eh2, E⟩ := E
  refine r_putI (hh := eh2) dX3_find_136 FX3_26 g1 rfl rfl ?_
  refine q_iconst dX3_find_139 ?_
  cases E
  exact q_zreturn dX3_find_140 rfl (by decide) hK
set_option maxRecDepth 100000 in
set_option maxHeartbeats 4000000 in
theorem sb_X3_find_144 {l : Launch} {G : mG} {Q : Option Value → mH → Prop} {X : String → mH → Prop} (p0 : Nat) (p1 : Nat) (p2 : Nat) (v3 : Int32) (v4 : Int32) (v5 : Int32) (v6 : Int32) (v7 : Int32) (v9 : Int32) (h : mH) {o : ((Int32 × mH) ⊕ ((Int32 × mH) ⊕ (Int32 × mH)))} (E : b0_X3_find_144 p0 p1 p2 v3 v4 v5 v6 v7 v9 h = some o) (hK : (lpK (w_X3_find_144 l G Q X p0 p1 p2 v3 v4 v5 v6 v7) (lpK (w_X3_find_64 l G Q X p0 p1 p2 v3 v4) (fiI Q))) o) : mW l G m_X3_find 1 0 0 144 [some (.ref p0), some (.ref p1), some (.ref p2), some (.int v3), some (.int v4), some (.int v5), some (.int v6), some (.int v7), none, some (.int v9), none] [] h Q X := by
  unfold b0_X3_find_144 at E
  refine q_iload dX3_find_144 rfl ?_
  refine q_iconst dX3_find_146 ?_
  refine q_icmp_ge (tgt := 191) dX3_find_147 (by decide) (fun z1 => ?_) (fun z1 => ?_)
  · replace E := ite_t E z1
    replace E := bnd_x E
    obtain ⟨x2, ex2, E⟩ := E
    refine r_iinc (v := x2) dX3_find_191 rfl ex2 (by decide) (ls' := [some (.ref p0), some (.ref p1), some (.ref p2), some (.int v3), some (.int v4), some (.int x2), some (.int v6), some (.int v7), none, some (.int v9), none]) rfl ?_
    refine q_goto (tgt := 64) dX3_find_194 (by decide) ?_
    cases E
    exact r_fewer [some (.ref p0), some (.ref p1), some (.ref p2), some (.int v3), some (.int v4), some (.int x2), none, none, none, none, none] (ls_s (ls_s (ls_s (ls_s (ls_s (ls_s (ls_n (ls_n (ls_n (ls_n (ls_n ls_0))))))))))) hK
  · replace E := ite_f E z1
    refine q_aload_n dX3_find_150 rfl ?_
    refine q_iload dX3_find_151 rfl ?_
    refine q_iload dX3_find_153 rfl ?_
    replace E := grd_some E
    obtain ⟨g5, E⟩ := E
    replace E := cal_some E
    obtain ⟨x4, h3, hc, E⟩ := E
    refine r_callV2 (mc := 0) (ms := 0) dX3_find_155 KX3_85 (c_X0_step hc) g5 (by decide) (Nat.le_of_ble_eq_true rfl) (fun _ _ q => q.elim) ?_
    rintro _ _ ⟨rfl, rfl⟩
    clear hc
    refine q_iload dX3_find_158 rfl ?_
    refine q_imul dX3_find_160 ?_
    refine q_aload_n dX3_find_161 rfl ?_
    refine q_iload dX3_find_162 rfl ?_
    refine q_iload dX3_find_164 rfl ?_
    replace E := grd_some E
    obtain ⟨g8, E⟩ := E
    replace E := cal_some E
    obtain ⟨x7, h6, hc, E⟩ := E
    refine r_callV2 (mc := 0) (ms := 0) dX3_find_166 KX3_85 (c_X0_step hc) g8 (by decide) (Nat.le_of_ble_eq_true rfl) (fun _ _ q => q.elim) ?_
    rintro _ _ ⟨rfl, rfl⟩
    clear hc
    refine q_iadd dX3_find_169 ?_
    replace E := bnd_x E
    obtain ⟨x9, ex9, E⟩ := E
    refine r_istore dX3_find_170 (by decide) ex9 (ls' := [some (.ref p0), some (.ref p1), some (.ref p2), some (.int v3), some (.int v4), some (.int v5), some (.int v6), some (.int v7), none, some (.int v9), some (.int x9)]) rfl ?_
    refine q_aload_n dX3_find_172 rfl ?_
    refine q_iload dX3_find_173 rfl ?_
    refine q_iload dX3_find_175 rfl ?_
    refine q_iconst dX3_find_177 ?_
    refine q_imul dX3_find_178 ?_
    refine q_iload dX3_find_179 rfl ?_
    refine q_iadd dX3_find_181 ?_
    replace E := grd_some E
    obtain ⟨g12, E⟩ := E
    replace E := cal_some E
    obtain ⟨_, h10, hc, E⟩ := E
    refine r_callV2 (mc := 0) (ms := 0) dX3_find_182 KX3_88 (c_X3_reach hc) g12 (by decide) (Nat.le_of_ble_eq_true rfl) (fun _ _ q => q.elim) ?_
    rintro _ _ ⟨rfl, rfl⟩
    clear hc
    replace E := bnd_x E
    obtain ⟨x13, ex13, E⟩ := E
    refine r_iinc (v := x13) dX3_find_185 rfl ex13 (by decide) (ls' := [some (.ref p0), some (.ref p1), some (.ref p2), some (.int v3), some (.int v4), some (.int v5), some (.int v6), some (.int v7), none, some (.int x13), some (.int x9)]) rfl ?_
    refine q_goto (tgt := 144) dX3_find_188 (by decide) ?_
    cases E
    exact r_fewer [some (.ref p0), some (.ref p1), some (.ref p2), some (.int v3), some (.int v4), some (.int v5), some (.int v6), some (.int v7), none, some (.int x13), none] (ls_s (ls_s (ls_s (ls_s (ls_s (ls_s (ls_s (ls_s (ls_n (ls_s (ls_n ls_0))))))))))) hK
theorem s_X3_find_144 {l : Launch} {G : mG} {Q : Option Value → mH → Prop} {X : String → mH → Prop} (p0 : Nat) (p1 : Nat) (p2 : Nat) (v3 : Int32) (v4 : Int32) (v5 : Int32) (v6 : Int32) (v7 : Int32) (v9 : Int32) (h : mH) {o : ((Int32 × mH) ⊕ (Int32 × mH))} (E : g_X3_find_144 p0 p1 p2 v3 v4 v5 v6 v7 v9 h = some o) (hK : (lpK (w_X3_find_64 l G Q X p0 p1 p2 v3 v4) (fiI Q)) o) : mW l G m_X3_find 1 0 0 144 [some (.ref p0), some (.ref p1), some (.ref p2), some (.int v3), some (.int v4), some (.int v5), some (.int v6), some (.int v7), none, some (.int v9), none] [] h Q X :=
  (lp_go (w_X3_find_144 l G Q X p0 p1 p2 v3 v4 v5 v6 v7) (lpK (w_X3_find_64 l G Q X p0 p1 p2 v3 v4) (fiI Q)) (b_X3_find_144 p0 p1 p2 v3 v4 v5 v6 v7) (fun s o E hK => sb_X3_find_144 p0 p1 p2 v3 v4 v5 v6 v7 s.1 (s.2) E hK) _ _ _ E hK : w_X3_find_144 l G Q X p0 p1 p2 v3 v4 v5 v6 v7 (v9, h))
set_option maxRecDepth 100000 in
set_option maxHeartbeats 4000000 in
theorem s_X3_find_141 {l : Launch} {G : mG} {Q : Option Value → mH → Prop} {X : String → mH → Prop} (p0 : Nat) (p1 : Nat) (p2 : Nat) (v3 : Int32) (v4 : Int32) (v5 : Int32) (v6 : Int32) (v7 : Int32) (h : mH) {o : ((Int32 × mH) ⊕ (Int32 × mH))} (E : g_X3_find_141 p0 p1 p2 v3 v4 v5 v6 v7 h = some o) (hK : (lpK (w_X3_find_64 l G Q X p0 p1 p2 v3 v4) (fiI Q)) o) : mW l G m_X3_find 1 0 0 141 [some (.ref p0), some (.ref p1), some (.ref p2), some (.int v3), some (.int v4), some (.int v5), some (.int v6), some (.int v7), none, none, none] [] h Q X := by
  unfold g_X3_find_141 at E
  refine q_iconst dX3_find_141 ?_
  refine r_istore dX3_find_142 (by decide) rfl (ls' := [some (.ref p0), some (.ref p1), some (.ref p2), some (.int v3), some (.int v4), some (.int v5), some (.int v6), some (.int v7), none, some (.int (Int32.ofInt 0)), none]) rfl ?_
  exact r_fewer [some (.ref p0), some (.ref p1), some (.ref p2), some (.int v3), some (.int v4), some (.int v5), some (.int v6), some (.int v7), none, some (.int (Int32.ofInt 0)), none] (ls_s (ls_s (ls_s (ls_s (ls_s (ls_s (ls_s (ls_s (ls_n (ls_s (ls_n ls_0))))))))))) (s_X3_find_144 p0 p1 p2 v3 v4 v5 v6 v7 (Int32.ofInt 0) h E hK)
set_option maxRecDepth 100000 in
set_option maxHeartbeats 4000000 in
theorem s_X3_find_197 {l : Launch} {G : mG} {Q : Option Value → mH → Prop} {X : String → mH → Prop} (p0 : Nat) (h : mH) {o : Int32 × mH} (E : g_X3_find_197 p0 h = some o) (hK : (fiI Q) o) : mW l G m_X3_find 1 0 0 197 [some (.ref p0), none, none, none, none, none, none, none, none, none, none] [] h Q X := by
  unfold g_X3_find_197 at E
  refine q_aload_n dX3_find_197 rfl ?_
  refine q_iconst dX3_find_198 ?_
  replace E := grd_some E
  obtain ⟨g1, E⟩ := E
  replace E := bnd_x E
  obtain ⟨h2, eh2, E⟩ := E
  refine r_putI (hh := eh2) dX3_find_199 FX3_26 g1 rfl rfl ?_
  refine q_iconst dX3_find_202 ?_
  cases E
  exact q_zreturn dX3_find_203 rfl (by decide) hK
set_option maxRecDepth 100000 in
set_option maxHeartbeats 4000000 in
theorem sb_X3_find_64 {l : Launch} {G : mG} {Q : Option Value → mH → Prop} {X : String → mH → Prop} (p0 : Nat) (p1 : Nat) (p2 : Nat) (v3 : Int32) (v4 : Int32) (v5 : Int32) (h : mH) {o : ((Int32 × mH) ⊕ (Int32 × mH))} (E : b0_X3_find_64 p0 p1 p2 v3 v4 v5 h = some o) (hK : (lpK (w_X3_find_64 l G Q X p0 p1 p2 v3 v4) (fiI Q)) o) : mW l G m_X3_find 1 0 0 64 [some (.ref p0), some (.ref p1), some (.ref p2), some (.int v3), some (.int v4), some (.int v5), none, none, none, none, none] [] h Q X := by
  unfold b0_X3_find_64 at E
  refine q_iload dX3_find_64 rfl ?_
  refine q_aload_n dX3_find_66 rfl ?_
  replace E := grd_some E
  obtain ⟨g1, E⟩ := E
  refine r_getI dX3_find_67 FX3_22 g1 ?_
  refine q_icmp_ge (tgt := 197) dX3_find_70 (by decide) (fun z2 => ?_) (fun z2 => ?_)
  · replace E := ite_t E z2
    obtain ⟨o0, E0, rfl⟩ := inrO_some E
    exact r_fewer [some (.ref p0), none, none, none, none, none, none, none, none, none, none] (ls_s (ls_n (ls_n (ls_n (ls_n (ls_n (ls_n (ls_n (ls_n (ls_n (ls_n ls_0))))))))))) (s_X3_find_197 p0 h E0 hK)
  · replace E := ite_f E z2
    refine q_iload dX3_find_73 rfl ?_
    refine q_sipush (v := (Int32.ofInt 16641)) dX3_find_75 (by decide) ?_
    refine q_icmp_ge (tgt := 197) dX3_find_78 (by decide) (fun z3 => ?_) (fun z3 => ?_)
    · replace E := ite_t E z3
      obtain ⟨o0, E0, rfl⟩ := inrO_some E
      exact r_fewer [some (.ref p0), none, none, none, none, none, none, none, none, none, none] (ls_s (ls_n (ls_n (ls_n (ls_n (ls_n (ls_n (ls_n (ls_n (ls_n (ls_n ls_0))))))))))) (s_X3_find_197 p0 h E0 hK)
    · replace E := ite_f E z3
      refine q_aload_n dX3_find_81 rfl ?_
      replace E := orf_some E
      obtain ⟨a4, ea4, E⟩ := E
      refine r_getR dX3_find_82 FX3_15 g1 ea4 ?_
      refine q_iload dX3_find_85 rfl ?_
      replace E := grd_some E
      obtain ⟨g5, E⟩ := E
      replace E := grd_some E
      obtain ⟨g6, E⟩ := E
      refine r_iaload dX3_find_87 g5 g6 ?_
      refine q_iload dX3_find_88 rfl ?_
      replace E := grd_some E
      obtain ⟨g7, E⟩ := E
      refine q_idiv g7 dX3_find_90 ?_
      replace E := bnd_x E
      obtain ⟨x8, ex8, E⟩ := E
      refine r_istore dX3_find_91 (by decide) ex8 (ls' := [some (.ref p0), some (.ref p1), some (.ref p2), some (.int v3), some (.int v4), some (.int v5), some (.int x8), none, none, none, none]) rfl ?_
      refine q_aload_n dX3_find_93 rfl ?_
      refine r_getR dX3_find_94 FX3_15 g1 ea4 ?_
      refine q_iload dX3_find_97 rfl ?_
      refine r_iaload dX3_find_99 g5 g6 ?_
      refine q_iload dX3_find_100 rfl ?_
      refine q_irem g7 dX3_find_102 ?_
      replace E := bnd_x E
      obtain ⟨x10, ex10, E⟩ := E
      refine r_istore dX3_find_103 (by decide) ex10 (ls' := [some (.ref p0), some (.ref p1), some (.ref p2), some (.int v3), some (.int v4), some (.int v5), some (.int x8), some (.int x10), none, none, none]) rfl ?_
      refine q_aload_n dX3_find_105 rfl ?_
      refine q_iload dX3_find_106 rfl ?_
      replace E := grd_some E
      obtain ⟨g13, E⟩ := E
      replace E := cal_some E
      obtain ⟨x12, h11, hc, E⟩ := E
      refine r_callV1 (mc := 0) (ms := 0) dX3_find_108 KX3_41 (c_X0_isAccepting hc) g13 (by decide) (Nat.le_of_ble_eq_true rfl) (fun _ _ q => q.elim) ?_
      rintro _ _ ⟨rfl, rfl⟩
      clear hc
      refine r_istore dX3_find_111 (by decide) rfl (ls' := [some (.ref p0), some (.ref p1), some (.ref p2), some (.int v3), some (.int v4), some (.int v5), some (.int x8), some (.int x10), some (.int x12), none, none]) rfl ?_
      refine q_iload dX3_find_113 rfl ?_
      refine q_aload_n dX3_find_115 rfl ?_
      refine q_iload dX3_find_116 rfl ?_
      replace E := grd_some E
      obtain ⟨g16, E⟩ := E
      replace E := cal_some E
      obtain ⟨x15, h14, hc, E⟩ := E
      refine r_callV1 (mc := 0) (ms := 0) dX3_find_118 KX3_41 (c_X0_isAccepting hc) g16 (by decide) (Nat.le_of_ble_eq_true rfl) (fun _ _ q => q.elim) ?_
      rintro _ _ ⟨rfl, rfl⟩
      clear hc
      refine q_icmp_eq (tgt := 141) dX3_find_121 (by decide) (fun z17 => ?_) (fun z17 => ?_)
      · replace E := ite_t E z17
        exact r_fewer [some (.ref p0), some (.ref p1), some (.ref p2), some (.int v3), some (.int v4), some (.int v5), some (.int x8), some (.int x10), none, none, none] (ls_s (ls_s (ls_s (ls_s (ls_s (ls_s (ls_s (ls_s (ls_n (ls_n (ls_n ls_0))))))))))) (s_X3_find_141 p0 p1 p2 v3 v4 v5 x8 x10 h14 E hK)
      · replace E := ite_f E z17
        refine q_iload dX3_find_124 rfl ?_
        refine q_if_ne (tgt := 133) dX3_find_126 (by decide) (fun z18 => ?_) (fun z18 => ?_)
        · replace E := ite_f E z18
          obtain ⟨o0, E0, rfl⟩ := inrO_some E
          exact r_fewer [some (.ref p0), none, none, none, none, some (.int v5), none, none, none, none, none] (ls_s (ls_n (ls_n (ls_n (ls_n (ls_s (ls_n (ls_n (ls_n (ls_n (ls_n ls_0))))))))))) (s_X3_find_133 p0 v5 h14 E0 hK)
        · replace E := ite_t E z18
          refine q_iload_n dX3_find_129 rfl ?_
          refine q_if_ne (tgt := 141) dX3_find_130 (by decide) (fun z19 => ?_) (fun z19 => ?_)
          · replace E := ite_f E z19
            exact r_fewer [some (.ref p0), some (.ref p1), some (.ref p2), some (.int v3), some (.int v4), some (.int v5), some (.int x8), some (.int x10), none, none, none] (ls_s (ls_s (ls_s (ls_s (ls_s (ls_s (ls_s (ls_s (ls_n (ls_n (ls_n ls_0))))))))))) (s_X3_find_141 p0 p1 p2 v3 v4 v5 x8 x10 h14 E hK)
          · replace E := ite_t E z19
            obtain ⟨o0, E0, rfl⟩ := inrO_some E
            exact r_fewer [some (.ref p0), none, none, none, none, some (.int v5), none, none, none, none, none] (ls_s (ls_n (ls_n (ls_n (ls_n (ls_s (ls_n (ls_n (ls_n (ls_n (ls_n ls_0))))))))))) (s_X3_find_133 p0 v5 h14 E0 hK)
theorem s_X3_find_64 {l : Launch} {G : mG} {Q : Option Value → mH → Prop} {X : String → mH → Prop} (p0 : Nat) (p1 : Nat) (p2 : Nat) (v3 : Int32) (v4 : Int32) (v5 : Int32) (h : mH) {o : Int32 × mH} (E : g_X3_find_64 p0 p1 p2 v3 v4 v5 h = some o) (hK : (fiI Q) o) : mW l G m_X3_find 1 0 0 64 [some (.ref p0), some (.ref p1), some (.ref p2), some (.int v3), some (.int v4), some (.int v5), none, none, none, none, none] [] h Q X :=
  (lp_go (w_X3_find_64 l G Q X p0 p1 p2 v3 v4) (fiI Q) (b_X3_find_64 p0 p1 p2 v3 v4) (fun s o E hK => sb_X3_find_64 p0 p1 p2 v3 v4 s.1 (s.2) E hK) _ _ _ E hK : w_X3_find_64 l G Q X p0 p1 p2 v3 v4 (v5, h))
set_option maxRecDepth 100000 in
set_option maxHeartbeats 4000000 in
theorem s_X3_find_50 {l : Launch} {G : mG} {Q : Option Value → mH → Prop} {X : String → mH → Prop} (p0 : Nat) (p1 : Nat) (p2 : Nat) (v3 : Int32) (v4 : Int32) (h : mH) {o : Int32 × mH} (E : g_X3_find_50 p0 p1 p2 v3 v4 h = some o) (hK : (fiI Q) o) : mW l G m_X3_find 1 0 0 50 [some (.ref p0), some (.ref p1), some (.ref p2), some (.int v3), some (.int v4), none, none, none, none, none, none] [] h Q X := by
  unfold g_X3_find_50 at E
  refine q_aload_n dX3_find_50 rfl ?_
  refine q_iconst dX3_find_51 ?_
  replace E := grd_some E
  obtain ⟨g1, E⟩ := E
  replace E := bnd_x E
  obtain ⟨h2, eh2, E⟩ := E
  refine r_putI (hh := eh2) dX3_find_52 FX3_22 g1 rfl rfl ?_
  refine q_aload_n dX3_find_55 rfl ?_
  refine q_iconst dX3_find_56 ?_
  refine q_iconst dX3_find_57 ?_
  replace E := grd_some E
  obtain ⟨g5, E⟩ := E
  replace E := cal_some E
  obtain ⟨_, h3, hc, E⟩ := E
  refine r_callV2 (mc := 0) (ms := 0) dX3_find_58 KX3_88 (c_X3_reach hc) g5 (by decide) (Nat.le_of_ble_eq_true rfl) (fun _ _ q => q.elim) ?_
  rintro _ _ ⟨rfl, rfl⟩
  clear hc
  refine q_iconst dX3_find_61 ?_
  refine r_istore dX3_find_62 (by decide) rfl (ls' := [some (.ref p0), some (.ref p1), some (.ref p2), some (.int v3), some (.int v4), some (.int (Int32.ofInt 0)), none, none, none, none, none]) rfl ?_
  exact r_fewer [some (.ref p0), some (.ref p1), some (.ref p2), some (.int v3), some (.int v4), some (.int (Int32.ofInt 0)), none, none, none, none, none] (ls_s (ls_s (ls_s (ls_s (ls_s (ls_s (ls_n (ls_n (ls_n (ls_n (ls_n ls_0))))))))))) (s_X3_find_64 p0 p1 p2 v3 v4 (Int32.ofInt 0) h3 E hK)
set_option maxRecDepth 100000 in
set_option maxHeartbeats 4000000 in
theorem sb_X3_find_16 {l : Launch} {G : mG} {Q : Option Value → mH → Prop} {X : String → mH → Prop} (p0 : Nat) (p1 : Nat) (p2 : Nat) (v3 : Int32) (v4 : Int32) (v5 : Int32) (h : mH) {o : ((Int32 × mH) ⊕ (Int32 × mH))} (E : b0_X3_find_16 p0 p1 p2 v3 v4 v5 h = some o) (hK : (lpK (w_X3_find_16 l G Q X p0 p1 p2 v3 v4) (fiI Q)) o) : mW l G m_X3_find 1 0 0 16 [some (.ref p0), some (.ref p1), some (.ref p2), some (.int v3), some (.int v4), some (.int v5), none, none, none, none, none] [] h Q X := by
  unfold b0_X3_find_16 at E
  refine q_iload dX3_find_16 rfl ?_
  refine q_aload_n dX3_find_18 rfl ?_
  replace E := grd_some E
  obtain ⟨g3, E⟩ := E
  replace E := cal_some E
  obtain ⟨x2, h1, hc, E⟩ := E
  refine r_callV0 (mc := 0) (ms := 0) dX3_find_19 KX3_29 (c_X0_size hc) g3 (by decide) (Nat.le_of_ble_eq_true rfl) (fun _ _ q => q.elim) ?_
  rintro _ _ ⟨rfl, rfl⟩
  clear hc
  refine q_iload dX3_find_22 rfl ?_
  refine q_imul dX3_find_24 ?_
  refine q_icmp_ge (tgt := 50) dX3_find_25 (by decide) (fun z4 => ?_) (fun z4 => ?_)
  · replace E := ite_t E z4
    obtain ⟨o0, E0, rfl⟩ := inrO_some E
    exact r_fewer [some (.ref p0), some (.ref p1), some (.ref p2), some (.int v3), some (.int v4), none, none, none, none, none, none] (ls_s (ls_s (ls_s (ls_s (ls_s (ls_n (ls_n (ls_n (ls_n (ls_n (ls_n ls_0))))))))))) (s_X3_find_50 p0 p1 p2 v3 v4 h1 E0 hK)
  · replace E := ite_f E z4
    refine q_iload dX3_find_28 rfl ?_
    refine q_sipush (v := (Int32.ofInt 16641)) dX3_find_30 (by decide) ?_
    refine q_icmp_ge (tgt := 50) dX3_find_33 (by decide) (fun z5 => ?_) (fun z5 => ?_)
    · replace E := ite_t E z5
      obtain ⟨o0, E0, rfl⟩ := inrO_some E
      exact r_fewer [some (.ref p0), some (.ref p1), some (.ref p2), some (.int v3), some (.int v4), none, none, none, none, none, none] (ls_s (ls_s (ls_s (ls_s (ls_s (ls_n (ls_n (ls_n (ls_n (ls_n (ls_n ls_0))))))))))) (s_X3_find_50 p0 p1 p2 v3 v4 h1 E0 hK)
    · replace E := ite_f E z5
      refine q_aload_n dX3_find_36 rfl ?_
      replace E := grd_some E
      obtain ⟨g6, E⟩ := E
      replace E := orf_some E
      obtain ⟨a7, ea7, E⟩ := E
      refine r_getR dX3_find_37 FX3_11 g6 ea7 ?_
      refine q_iload dX3_find_40 rfl ?_
      refine q_iconst dX3_find_42 ?_
      replace E := grd_some E
      obtain ⟨g9, E⟩ := E
      replace E := grd_some E
      obtain ⟨g10, E⟩ := E
      replace E := bnd_x E
      obtain ⟨h8, eh8, E⟩ := E
      refine r_zastore (hh := eh8) dX3_find_43 g9 g10 (by decide) ?_
      replace E := bnd_x E
      obtain ⟨x11, ex11, E⟩ := E
      refine r_iinc (v := x11) dX3_find_44 rfl ex11 (by decide) (ls' := [some (.ref p0), some (.ref p1), some (.ref p2), some (.int v3), some (.int v4), some (.int x11), none, none, none, none, none]) rfl ?_
      refine q_goto (tgt := 16) dX3_find_47 (by decide) ?_
      cases E
      exact r_fewer [some (.ref p0), some (.ref p1), some (.ref p2), some (.int v3), some (.int v4), some (.int x11), none, none, none, none, none] (ls_s (ls_s (ls_s (ls_s (ls_s (ls_s (ls_n (ls_n (ls_n (ls_n (ls_n ls_0))))))))))) hK
theorem s_X3_find_16 {l : Launch} {G : mG} {Q : Option Value → mH → Prop} {X : String → mH → Prop} (p0 : Nat) (p1 : Nat) (p2 : Nat) (v3 : Int32) (v4 : Int32) (v5 : Int32) (h : mH) {o : Int32 × mH} (E : g_X3_find_16 p0 p1 p2 v3 v4 v5 h = some o) (hK : (fiI Q) o) : mW l G m_X3_find 1 0 0 16 [some (.ref p0), some (.ref p1), some (.ref p2), some (.int v3), some (.int v4), some (.int v5), none, none, none, none, none] [] h Q X :=
  (lp_go (w_X3_find_16 l G Q X p0 p1 p2 v3 v4) (fiI Q) (b_X3_find_16 p0 p1 p2 v3 v4) (fun s o E hK => sb_X3_find_16 p0 p1 p2 v3 v4 s.1 (s.2) E hK) _ _ _ E hK : w_X3_find_16 l G Q X p0 p1 p2 v3 v4 (v5, h))
set_option maxRecDepth 100000 in
set_option maxHeartbeats 4000000 in
theorem s_X3_find_0 {l : Launch} {G : mG} {Q : Option Value → mH → Prop} {X : String → mH → Prop} (p0 : Nat) (p1 : Nat) (p2 : Nat) (v3 : Int32) (h : mH) {o : Int32 × mH} (E : f_X3_find p0 p1 p2 v3 h = some o) (hK : (fiI Q) o) : mW l G m_X3_find 1 0 0 0 [some (.ref p0), some (.ref p1), some (.ref p2), some (.int v3), none, none, none, none, none, none, none] [] h Q X := by
  unfold f_X3_find at E
  refine q_aload_n dX3_find_0 rfl ?_
  replace E := grd_some E
  obtain ⟨g3, E⟩ := E
  replace E := cal_some E
  obtain ⟨x2, h1, hc, E⟩ := E
  refine r_callV0 (mc := 0) (ms := 0) dX3_find_1 KX3_29 (c_X0_size hc) g3 (by decide) (Nat.le_of_ble_eq_true rfl) (fun _ _ q => q.elim) ?_
  rintro _ _ ⟨rfl, rfl⟩
  clear hc
  refine r_istore dX3_find_4 (by decide) rfl (ls' := [some (.ref p0), some (.ref p1), some (.ref p2), some (.int v3), some (.int x2), none, none, none, none, none, none]) rfl ?_
  refine q_iload dX3_find_6 rfl ?_
  refine q_if_gt (tgt := 13) dX3_find_8 (by decide) (fun z4 => ?_) (fun z4 => ?_)
  · replace E := ite_t E z4
    refine q_iconst dX3_find_13 ?_
    refine r_istore dX3_find_14 (by decide) rfl (ls' := [some (.ref p0), some (.ref p1), some (.ref p2), some (.int v3), some (.int x2), some (.int (Int32.ofInt 0)), none, none, none, none, none]) rfl ?_
    exact r_fewer [some (.ref p0), some (.ref p1), some (.ref p2), some (.int v3), some (.int x2), some (.int (Int32.ofInt 0)), none, none, none, none, none] (ls_s (ls_s (ls_s (ls_s (ls_s (ls_s (ls_n (ls_n (ls_n (ls_n (ls_n ls_0))))))))))) (s_X3_find_16 p0 p1 p2 v3 x2 (Int32.ofInt 0) h1 E hK)
  · replace E := ite_f E z4
    refine q_iconst dX3_find_11 ?_
    cases E
    exact q_zreturn dX3_find_12 rfl (by decide) hK
theorem c_X3_find {l : Launch} {G : mG} {p0 : Nat} {p1 : Nat} {p2 : Nat} {v3 : Int32} {h h' : mH} {r : Int32} (E : f_X3_find p0 p1 p2 v3 h = some (r, h')) : mMet l G m_X3_find 1 0 0 [.ref p0, .ref p1, .ref p2, .int v3] h (fun v k => v = some (.int r) ∧ h' = k) (fun _ _ => False) :=
  mMet_of (by decide +kernel) rfl (ac_c rfl (ac_c rfl (ac_c rfl (ac_c rfl ac_0)))) (Nat.le_of_ble_eq_true rfl) (s_X3_find_0 p0 p1 p2 v3 h E (And.intro rfl rfl))
set_option maxRecDepth 100000 in
set_option maxHeartbeats 4000000 in
theorem s_X3_findApart_0 {l : Launch} {G : mG} {Q : Option Value → mH → Prop} {X : String → mH → Prop} (p0 : Nat) (p1 : Nat) (p2 : Nat) (h : mH) {o : Int32 × mH} (E : f_X3_findApart p0 p1 p2 h = some o) (hK : (fiI Q) o) : mW l G m_X3_findApart 2 0 0 0 [some (.ref p0), some (.ref p1), some (.ref p2)] [] h Q X := by
  unfold f_X3_findApart at E
  refine q_aload_n dX3_findApart_0 rfl ?_
  refine q_aload_n dX3_findApart_1 rfl ?_
  refine q_aload_n dX3_findApart_2 rfl ?_
  refine q_iconst dX3_findApart_3 ?_
  replace E := grd_some E
  obtain ⟨g3, E⟩ := E
  replace E := cal_some E
  obtain ⟨x2, h1, hc, E⟩ := E
  refine r_callV3 (mc := 0) (ms := 0) dX3_findApart_4 KX3_53 (c_X3_find hc) g3 (by decide) (Nat.le_of_ble_eq_true rfl) (fun _ _ q => q.elim) ?_
  rintro _ _ ⟨rfl, rfl⟩
  clear hc
  replace E := grd_some E
  obtain ⟨g4, E⟩ := E
  cases E
  exact q_zreturn dX3_findApart_7 rfl (narZ g4) hK
theorem c_X3_findApart {l : Launch} {G : mG} {p0 : Nat} {p1 : Nat} {p2 : Nat} {h h' : mH} {r : Int32} (E : f_X3_findApart p0 p1 p2 h = some (r, h')) : mMet l G m_X3_findApart 2 0 0 [.ref p0, .ref p1, .ref p2] h (fun v k => v = some (.int r) ∧ h' = k) (fun _ _ => False) :=
  mMet_of (by decide +kernel) rfl (ac_c rfl (ac_c rfl (ac_c rfl ac_0))) (Nat.le_of_ble_eq_true rfl) (s_X3_findApart_0 p0 p1 p2 h E (And.intro rfl rfl))
set_option maxRecDepth 100000 in
set_option maxHeartbeats 4000000 in
theorem s_X3_findOnlyFirst_0 {l : Launch} {G : mG} {Q : Option Value → mH → Prop} {X : String → mH → Prop} (p0 : Nat) (p1 : Nat) (p2 : Nat) (h : mH) {o : Int32 × mH} (E : f_X3_findOnlyFirst p0 p1 p2 h = some o) (hK : (fiI Q) o) : mW l G m_X3_findOnlyFirst 2 0 0 0 [some (.ref p0), some (.ref p1), some (.ref p2)] [] h Q X := by
  unfold f_X3_findOnlyFirst at E
  refine q_aload_n dX3_findOnlyFirst_0 rfl ?_
  refine q_aload_n dX3_findOnlyFirst_1 rfl ?_
  refine q_aload_n dX3_findOnlyFirst_2 rfl ?_
  refine q_iconst dX3_findOnlyFirst_3 ?_
  replace E := grd_some E
  obtain ⟨g3, E⟩ := E
  replace E := cal_some E
  obtain ⟨x2, h1, hc, E⟩ := E
  refine r_callV3 (mc := 0) (ms := 0) dX3_findOnlyFirst_4 KX3_53 (c_X3_find hc) g3 (by decide) (Nat.le_of_ble_eq_true rfl) (fun _ _ q => q.elim) ?_
  rintro _ _ ⟨rfl, rfl⟩
  clear hc
  replace E := grd_some E
  obtain ⟨g4, E⟩ := E
  cases E
  exact q_zreturn dX3_findOnlyFirst_7 rfl (narZ g4) hK
theorem c_X3_findOnlyFirst {l : Launch} {G : mG} {p0 : Nat} {p1 : Nat} {p2 : Nat} {h h' : mH} {r : Int32} (E : f_X3_findOnlyFirst p0 p1 p2 h = some (r, h')) : mMet l G m_X3_findOnlyFirst 2 0 0 [.ref p0, .ref p1, .ref p2] h (fun v k => v = some (.int r) ∧ h' = k) (fun _ _ => False) :=
  mMet_of (by decide +kernel) rfl (ac_c rfl (ac_c rfl (ac_c rfl ac_0))) (Nat.le_of_ble_eq_true rfl) (s_X3_findOnlyFirst_0 p0 p1 p2 h E (And.intro rfl rfl))
set_option maxRecDepth 100000 in
set_option maxHeartbeats 4000000 in
theorem s_X3_foundLength_40 {l : Launch} {G : mG} {Q : Option Value → mH → Prop} {X : String → mH → Prop} (v1 : Int32) (h : mH) {o : Int32 × mH} (E : g_X3_foundLength_40 v1 h = some o) (hK : (fiI Q) o) : mW l G m_X3_foundLength 0 0 0 40 [none, some (.int v1), none] [] h Q X := by
  unfold g_X3_foundLength_40 at E
  refine q_iload_n dX3_foundLength_40 rfl ?_
  cases E
  exact q_ireturn dX3_foundLength_41 rfl hK
set_option maxRecDepth 100000 in
set_option maxHeartbeats 4000000 in
theorem sb_X3_foundLength_7 {l : Launch} {G : mG} {Q : Option Value → mH → Prop} {X : String → mH → Prop} (p0 : Nat) (v1 : Int32) (v2 : Int32) (h : mH) {o : ((Int32 × Int32 × mH) ⊕ (Int32 × mH))} (E : b0_X3_foundLength_7 p0 v1 v2 h = some o) (hK : (lpK (w_X3_foundLength_7 l G Q X p0) (fiI Q)) o) : mW l G m_X3_foundLength 0 0 0 7 [some (.ref p0), some (.int v1), some (.int v2)] [] h Q X := by
  unfold b0_X3_foundLength_7 at E
  refine q_iload_n dX3_foundLength_7 rfl ?_
  refine q_if_le (tgt := 40) dX3_foundLength_8 (by decide) (fun z1 => ?_) (fun z1 => ?_)
  · replace E := ite_t E z1
    obtain ⟨o0, E0, rfl⟩ := inrO_some E
    exact r_fewer [none, some (.int v1), none] (ls_n (ls_s (ls_n ls_0))) (s_X3_foundLength_40 v1 h E0 hK)
  · replace E := ite_f E z1
    refine q_iload_n dX3_foundLength_11 rfl ?_
    refine q_sipush (v := (Int32.ofInt 16641)) dX3_foundLength_12 (by decide) ?_
    refine q_icmp_ge (tgt := 40) dX3_foundLength_15 (by decide) (fun z2 => ?_) (fun z2 => ?_)
    · replace E := ite_t E z2
      obtain ⟨o0, E0, rfl⟩ := inrO_some E
      exact r_fewer [none, some (.int v1), none] (ls_n (ls_s (ls_n ls_0))) (s_X3_foundLength_40 v1 h E0 hK)
    · replace E := ite_f E z2
      refine q_iload_n dX3_foundLength_18 rfl ?_
      refine q_sipush (v := (Int32.ofInt 16641)) dX3_foundLength_19 (by decide) ?_
      refine q_icmp_ge (tgt := 40) dX3_foundLength_22 (by decide) (fun z3 => ?_) (fun z3 => ?_)
      · replace E := ite_t E z3
        obtain ⟨o0, E0, rfl⟩ := inrO_some E
        exact r_fewer [none, some (.int v1), none] (ls_n (ls_s (ls_n ls_0))) (s_X3_foundLength_40 v1 h E0 hK)
      · replace E := ite_f E z3
        refine q_aload_n dX3_foundLength_25 rfl ?_
        replace E := grd_some E
        obtain ⟨g4, E⟩ := E
        replace E := orf_some E
        obtain ⟨a5, ea5, E⟩ := E
        refine r_getR dX3_foundLength_26 FX3_19 g4 ea5 ?_
        refine q_iload_n dX3_foundLength_29 rfl ?_
        replace E := grd_some E
        obtain ⟨g6, E⟩ := E
        replace E := grd_some E
        obtain ⟨g7, E⟩ := E
        refine r_iaload dX3_foundLength_30 g6 g7 ?_
        refine q_iconst dX3_foundLength_31 ?_
        refine q_idiv (by decide) dX3_foundLength_32 ?_
        replace E := bnd_x E
        obtain ⟨x8, ex8, E⟩ := E
        refine r_istore_n dX3_foundLength_33 (by decide) ex8 (ls' := [some (.ref p0), some (.int v1), some (.int x8)]) rfl ?_
        replace E := bnd_x E
        obtain ⟨x9, ex9, E⟩ := E
        refine r_iinc (v := x9) dX3_foundLength_34 rfl ex9 (by decide) (ls' := [some (.ref p0), some (.int x9), some (.int x8)]) rfl ?_
        refine q_goto (tgt := 7) dX3_foundLength_37 (by decide) ?_
        cases E
        exact r_fewer [some (.ref p0), some (.int x9), some (.int x8)] (ls_s (ls_s (ls_s ls_0))) hK
theorem s_X3_foundLength_7 {l : Launch} {G : mG} {Q : Option Value → mH → Prop} {X : String → mH → Prop} (p0 : Nat) (v1 : Int32) (v2 : Int32) (h : mH) {o : Int32 × mH} (E : g_X3_foundLength_7 p0 v1 v2 h = some o) (hK : (fiI Q) o) : mW l G m_X3_foundLength 0 0 0 7 [some (.ref p0), some (.int v1), some (.int v2)] [] h Q X :=
  (lp_go (w_X3_foundLength_7 l G Q X p0) (fiI Q) (b_X3_foundLength_7 p0) (fun s o E hK => sb_X3_foundLength_7 p0 s.1 s.2.1 (s.2.2) E hK) _ _ _ E hK : w_X3_foundLength_7 l G Q X p0 (v1, v2, h))
set_option maxRecDepth 100000 in
set_option maxHeartbeats 4000000 in
theorem s_X3_foundLength_0 {l : Launch} {G : mG} {Q : Option Value → mH → Prop} {X : String → mH → Prop} (p0 : Nat) (h : mH) {o : Int32 × mH} (E : f_X3_foundLength p0 h = some o) (hK : (fiI Q) o) : mW l G m_X3_foundLength 0 0 0 0 [some (.ref p0), none, none] [] h Q X := by
  unfold f_X3_foundLength at E
  refine q_iconst dX3_foundLength_0 ?_
  refine r_istore_n dX3_foundLength_1 (by decide) rfl (ls' := [some (.ref p0), some (.int (Int32.ofInt 0)), none]) rfl ?_
  refine q_aload_n dX3_foundLength_2 rfl ?_
  replace E := grd_some E
  obtain ⟨g1, E⟩ := E
  refine r_getI dX3_foundLength_3 FX3_26 g1 ?_
  replace E := bnd_x E
  obtain ⟨x2, ex2, E⟩ := E
  refine r_istore_n dX3_foundLength_6 (by decide) ex2 (ls' := [some (.ref p0), some (.int (Int32.ofInt 0)), some (.int x2)]) rfl ?_
  exact r_fewer [some (.ref p0), some (.int (Int32.ofInt 0)), some (.int x2)] (ls_s (ls_s (ls_s ls_0))) (s_X3_foundLength_7 p0 (Int32.ofInt 0) x2 h E hK)
theorem c_X3_foundLength {l : Launch} {G : mG} {p0 : Nat} {h h' : mH} {r : Int32} (E : f_X3_foundLength p0 h = some (r, h')) : mMet l G m_X3_foundLength 0 0 0 [.ref p0] h (fun v k => v = some (.int r) ∧ h' = k) (fun _ _ => False) :=
  mMet_of (by decide +kernel) rfl (ac_c rfl ac_0) (Nat.le_of_ble_eq_true rfl) (s_X3_foundLength_0 p0 h E (And.intro rfl rfl))
set_option maxRecDepth 100000 in
set_option maxHeartbeats 4000000 in
theorem s_X3_writeFound_60 {l : Launch} {G : mG} {Q : Option Value → mH → Prop} {X : String → mH → Prop} (p1 : Nat) (h : mH) {o : Unit × mH} {c m c2 m2 : Nat} (E : g_X3_writeFound_60 p1 h = some (o, c, m)) (hK : (fun o (_ _ : Nat) => (fiV Q) o) o c2 m2) : mW l G m_X3_writeFound 5 (c2 + c) (m2 + m) 60 [none, some (.ref p1), none] [] h Q X := by
  unfold g_X3_writeFound_60 at E
  refine q_aload_n dX3_writeFound_60 rfl ?_
  replace E := grd_some E
  obtain ⟨g3, E⟩ := E
  replace E := cal_some E
  obtain ⟨o2, h1, hc, E⟩ := E
  refine q_room (d' := 5) (mc' := 0 + (c2 + c)) (ms' := 0 + (m2 + m)) (Nat.le_refl _) (by omega) (by omega) ?_
  refine r_callV0 (mc := c2 + c) (ms := m2 + m) dX3_writeFound_61 KX3_70 (c_J4_reverse_43fcb hc) g3 (by decide) (Nat.le_of_ble_eq_true rfl) (fun _ _ q => q.elim) ?_
  rintro _ _ ⟨rfl, rfl⟩
  clear hc
  refine q_pop (h1 := r_cat _) dX3_writeFound_64 ?_
  cases E
  exact q_return dX3_writeFound_65 rfl hK
set_option maxRecDepth 100000 in
set_option maxHeartbeats 4000000 in
theorem sb_X3_writeFound_10 {l : Launch} {G : mG} {Q : Option Value → mH → Prop} {X : String → mH → Prop} (p0 : Nat) (p1 : Nat) (v2 : Int32) (h : mH) {o : ((Int32 × mH) ⊕ (Unit × mH))} {c m c2 m2 : Nat} (E : b0_X3_writeFound_10 p0 p1 v2 h = some (o, c, m)) (hK : (lpKC (w_X3_writeFound_10 l G Q X p0 p1) (fun o (_ _ : Nat) => (fiV Q) o)) o c2 m2) : mW l G m_X3_writeFound 5 (c2 + c) (m2 + m) 10 [some (.ref p0), some (.ref p1), some (.int v2)] [] h Q X := by
  unfold b0_X3_writeFound_10 at E
  refine q_iload_n dX3_writeFound_10 rfl ?_
  refine q_if_le (tgt := 60) dX3_writeFound_11 (by decide) (fun z1 => ?_) (fun z1 => ?_)
  · replace E := ite_t E z1
    obtain ⟨o0, E0, rfl⟩ := inrC_some E
    exact r_fewer [none, some (.ref p1), none] (ls_n (ls_s (ls_n ls_0))) (s_X3_writeFound_60 p1 h E0 hK)
  · replace E := ite_f E z1
    refine q_iload_n dX3_writeFound_14 rfl ?_
    refine q_sipush (v := (Int32.ofInt 16641)) dX3_writeFound_15 (by decide) ?_
    refine q_icmp_ge (tgt := 60) dX3_writeFound_18 (by decide) (fun z2 => ?_) (fun z2 => ?_)
    · replace E := ite_t E z2
      obtain ⟨o0, E0, rfl⟩ := inrC_some E
      exact r_fewer [none, some (.ref p1), none] (ls_n (ls_s (ls_n ls_0))) (s_X3_writeFound_60 p1 h E0 hK)
    · replace E := ite_f E z2
      refine q_aload_n dX3_writeFound_21 rfl ?_
      replace E := grd_some E
      obtain ⟨g5, E⟩ := E
      replace E := cal_some E
      obtain ⟨x4, h3, hc, E⟩ := E
      refine q_room (d' := 5) (mc' := 0 + (c2 + c)) (ms' := 0 + (m2 + m)) (Nat.le_refl _) (by omega) (by omega) ?_
      refine r_callV0 (mc := c2 + c) (ms := m2 + m) dX3_writeFound_22 KX3_63 (c_J4_length_8abf5 hc) g5 (by decide) (Nat.le_of_ble_eq_true rfl) (fun _ _ q => q.elim) ?_
      rintro _ _ ⟨rfl, rfl⟩
      clear hc
      refine q_sipush (v := (Int32.ofInt 16641)) dX3_writeFound_25 (by decide) ?_
      refine q_icmp_ge (tgt := 60) dX3_writeFound_28 (by decide) (fun z6 => ?_) (fun z6 => ?_)
      · replace E := ite_t E z6
        obtain ⟨o0, E0, rfl⟩ := inrC_some E
        exact r_fewer [none, some (.ref p1), none] (ls_n (ls_s (ls_n ls_0))) (s_X3_writeFound_60 p1 h3 E0 hK)
      · replace E := ite_f E z6
        refine q_aload_n dX3_writeFound_31 rfl ?_
        refine q_bipush (v := (Int32.ofInt 97)) dX3_writeFound_32 (by decide) ?_
        refine q_aload_n dX3_writeFound_34 rfl ?_
        replace E := grd_some E
        obtain ⟨g7, E⟩ := E
        replace E := orf_some E
        obtain ⟨a8, ea8, E⟩ := E
        refine r_getR dX3_writeFound_35 FX3_19 g7 ea8 ?_
        refine q_iload_n dX3_writeFound_38 rfl ?_
        replace E := grd_some E
        obtain ⟨g9, E⟩ := E
        replace E := grd_some E
        obtain ⟨g10, E⟩ := E
        refine r_iaload dX3_writeFound_39 g9 g10 ?_
        refine q_iconst dX3_writeFound_40 ?_
        refine q_irem (by decide) dX3_writeFound_41 ?_
        refine q_iadd dX3_writeFound_42 ?_
        refine q_i2c dX3_writeFound_43 ?_
        replace E := grd_some E
        obtain ⟨g13, E⟩ := E
        replace E := calC_some E
        obtain ⟨o12, h11, ch11, mh11, hc, E⟩ := E
        replace E := adc_some E
        obtain ⟨c_1, m_1, ec_1, em_1, E⟩ := E
        refine q_room (d' := 5) (mc' := ch11 + (c2 + c_1)) (ms' := mh11 + (m2 + m_1)) (Nat.le_refl _) (by omega) (by omega) ?_
        refine r_callV1 (mc := c2 + c_1) (ms := m2 + m_1) dX3_writeFound_44 KX3_66 (c_J4_append_cf468 hc (Nat.le_refl _) (Nat.le_refl _)) g13 (by decide) (Nat.le_of_ble_eq_true rfl) (fun _ _ q => q.elim) ?_
        rintro _ _ ⟨rfl, rfl⟩
        clear hc
        refine q_pop (h1 := r_cat _) dX3_writeFound_47 ?_
        refine q_aload_n dX3_writeFound_48 rfl ?_
        replace E := grd_some E
        obtain ⟨g14, E⟩ := E
        replace E := orf_some E
        obtain ⟨a15, ea15, E⟩ := E
        refine r_getR dX3_writeFound_49 FX3_19 g14 ea15 ?_
        refine q_iload_n dX3_writeFound_52 rfl ?_
        replace E := grd_some E
        obtain ⟨g16, E⟩ := E
        replace E := grd_some E
        obtain ⟨g17, E⟩ := E
        refine r_iaload dX3_writeFound_53 g16 g17 ?_
        refine q_iconst dX3_writeFound_54 ?_
        refine q_idiv (by decide) dX3_writeFound_55 ?_
        replace E := bnd_x E
        obtain ⟨x18, ex18, E⟩ := E
        refine r_istore_n dX3_writeFound_56 (by decide) ex18 (ls' := [some (.ref p0), some (.ref p1), some (.int x18)]) rfl ?_
        refine q_goto (tgt := 10) dX3_writeFound_57 (by decide) ?_
        cases E
        exact r_fewer [some (.ref p0), some (.ref p1), some (.int x18)] (ls_s (ls_s (ls_s ls_0))) hK
theorem s_X3_writeFound_10 {l : Launch} {G : mG} {Q : Option Value → mH → Prop} {X : String → mH → Prop} (p0 : Nat) (p1 : Nat) (v2 : Int32) (h : mH) {o : Unit × mH} {c m c2 m2 : Nat} (E : g_X3_writeFound_10 p0 p1 v2 h = some (o, c, m)) (hK : (fun o (_ _ : Nat) => (fiV Q) o) o c2 m2) : mW l G m_X3_writeFound 5 (c2 + c) (m2 + m) 10 [some (.ref p0), some (.ref p1), some (.int v2)] [] h Q X :=
  (lpC_go (w_X3_writeFound_10 l G Q X p0 p1) (fun o (_ _ : Nat) => (fiV Q) o) (b_X3_writeFound_10 p0 p1) (fun s o c m c2 m2 E hK => sb_X3_writeFound_10 p0 p1 s.1 (s.2) E hK) _ _ _ _ _ _ _ E hK : w_X3_writeFound_10 l G Q X p0 p1 (v2, h) (c2 + c) (m2 + m))
set_option maxRecDepth 100000 in
set_option maxHeartbeats 4000000 in
theorem s_X3_writeFound_0 {l : Launch} {G : mG} {Q : Option Value → mH → Prop} {X : String → mH → Prop} (p0 : Nat) (p1 : Nat) (h : mH) {o : Unit × mH} {c m c2 m2 : Nat} (E : f_X3_writeFound p0 p1 h = some (o, c, m)) (hK : (fun o (_ _ : Nat) => (fiV Q) o) o c2 m2) : mW l G m_X3_writeFound 5 (c2 + c) (m2 + m) 0 [some (.ref p0), some (.ref p1), none] [] h Q X := by
  unfold f_X3_writeFound at E
  refine q_aload_n dX3_writeFound_0 rfl ?_
  refine q_iconst dX3_writeFound_1 ?_
  replace E := grd_some E
  obtain ⟨g3, E⟩ := E
  replace E := calC_some E
  obtain ⟨_, h1, ch1, mh1, hc, E⟩ := E
  replace E := adc_some E
  obtain ⟨c_1, m_1, ec_1, em_1, E⟩ := E
  refine q_room (d' := 5) (mc' := ch1 + (c2 + c_1)) (ms' := mh1 + (m2 + m_1)) (Nat.le_refl _) (by omega) (by omega) ?_
  refine r_callV1 (mc := c2 + c_1) (ms := m2 + m_1) dX3_writeFound_2 KX3_57 (c_J4_setLength_d00df hc (Nat.le_refl _) (Nat.le_refl _)) g3 (by decide) (Nat.le_of_ble_eq_true rfl) (fun _ _ q => q.elim) ?_
  rintro _ _ ⟨rfl, rfl⟩
  clear hc
  refine q_aload_n dX3_writeFound_5 rfl ?_
  replace E := grd_some E
  obtain ⟨g4, E⟩ := E
  refine r_getI dX3_writeFound_6 FX3_26 g4 ?_
  replace E := bnd_x E
  obtain ⟨x5, ex5, E⟩ := E
  refine r_istore_n dX3_writeFound_9 (by decide) ex5 (ls' := [some (.ref p0), some (.ref p1), some (.int x5)]) rfl ?_
  exact r_fewer [some (.ref p0), some (.ref p1), some (.int x5)] (ls_s (ls_s (ls_s ls_0))) (s_X3_writeFound_10 p0 p1 x5 h1 E hK)
theorem c_X3_writeFound {l : Launch} {G : mG} {p0 : Nat} {p1 : Nat} {h h' : mH} {r : Unit} {c m B1 B2 : Nat} (E : f_X3_writeFound p0 p1 h = some ((r, h'), c, m)) (hb1 : c ≤ B1) (hb2 : m ≤ B2) : mMet l G m_X3_writeFound 5 B1 B2 [.ref p0, .ref p1] h (fun v k => v = none ∧ h' = k) (fun _ _ => False) :=
  mMet_of (by decide +kernel) rfl (ac_c rfl (ac_c rfl ac_0)) (Nat.le_of_ble_eq_true rfl) (q_room (mc' := 0 + c) (ms' := 0 + m) (Nat.le_refl _) (by omega) (by omega) (s_X3_writeFound_0 p0 p1 h E (And.intro rfl rfl)))
set_option maxRecDepth 100000 in
set_option maxHeartbeats 4000000 in
theorem s_X4_joined_0 {l : Launch} {G : mG} {Q : Option Value → mH → Prop} {X : String → mH → Prop} (p0 : Nat) (p1 : Nat) (v2 : Int32) (h : mH) {o : Option Nat × mH} (E : f_X4_joined p0 p1 v2 h = some o) (hK : (fiR Q) o) : mW l G m_X4_joined 2 2 258 0 [some (.ref p0), some (.ref p1), some (.int v2), none, none] [] h Q X := by
  unfold f_X4_joined at E
  refine q_aload_n dX4_joined_0 rfl ?_
  replace E := grd_some E
  obtain ⟨g1, E⟩ := E
  replace E := orf_some E
  obtain ⟨a2, ea2, E⟩ := E
  refine r_getR dX4_joined_1 FX4_9 g1 ea2 ?_
  replace E := grd_some E
  obtain ⟨g3, E⟩ := E
  refine r_alen (t0 := 2) dX4_joined_4 rfl g3 ?_
  refine q_aload_n dX4_joined_5 rfl ?_
  replace E := grd_some E
  obtain ⟨g4, E⟩ := E
  replace E := orf_some E
  obtain ⟨a5, ea5, E⟩ := E
  refine r_getR dX4_joined_6 FX4_9 g4 ea5 ?_
  replace E := grd_some E
  obtain ⟨g6, E⟩ := E
  refine r_alen (t0 := 2) dX4_joined_9 rfl g6 ?_
  refine q_iadd dX4_joined_10 ?_
  replace E := bnd_x E
  obtain ⟨x7, ex7, E⟩ := E
  refine r_istore_n dX4_joined_11 (by decide) ex7 (ls' := [some (.ref p0), some (.ref p1), some (.int v2), some (.int x7), none]) rfl ?_
  refine q_iload_n dX4_joined_12 rfl ?_
  refine q_iconst dX4_joined_13 ?_
  refine q_iadd dX4_joined_14 ?_
  replace E := grd_some E
  obtain ⟨g8, E⟩ := E
  replace E := bnd_x E
  obtain ⟨a9, ea9, E⟩ := E
  replace E := bnd_x E
  obtain ⟨h10, eh10, E⟩ := E
  refine r_newarray (n := 255) (t0 := 2) (hq := ea9) (hh := eh10) dX4_joined_15 W_char rfl rfl (by decide) g8 (by decide) ?_
  refine r_astore dX4_joined_17 (by decide) (ls' := [some (.ref p0), some (.ref p1), some (.int v2), some (.int x7), some (.ref a9)]) rfl ?_
  refine q_aload_n dX4_joined_19 rfl ?_
  replace E := grd_some E
  obtain ⟨g11, E⟩ := E
  replace E := orf_some E
  obtain ⟨a12, ea12, E⟩ := E
  refine r_getR dX4_joined_20 FX4_9 g11 ea12 ?_
  refine q_iconst dX4_joined_23 ?_
  refine q_aload dX4_joined_24 rfl ?_
  refine q_iconst dX4_joined_26 ?_
  refine q_aload_n dX4_joined_27 rfl ?_
  refine r_getR dX4_joined_28 FX4_9 g11 ea12 ?_
  replace E := grd_some E
  obtain ⟨g14, E⟩ := E
  refine r_alen (t0 := 2) dX4_joined_31 rfl g14 ?_
  replace E := grd_some E
  obtain ⟨g15, E⟩ := E
  replace E := grd_some E
  obtain ⟨g16, E⟩ := E
  replace E := grd_some E
  obtain ⟨g17, E⟩ := E
  replace E := bnd_x E
  obtain ⟨h18, eh18, E⟩ := E
  refine r_copy (t0 := 2) dX4_joined_32 AX4_29 rfl (by decide) rfl g14 g15 g16 g17 eh18 (Nat.le_of_ble_eq_true rfl) ?_
  refine q_aload_n dX4_joined_35 rfl ?_
  replace E := grd_some E
  obtain ⟨g19, E⟩ := E
  replace E := orf_some E
  obtain ⟨a20, ea20, E⟩ := E
  refine r_getR dX4_joined_36 FX4_9 g19 ea20 ?_
  refine q_iconst dX4_joined_39 ?_
  refine q_aload dX4_joined_40 rfl ?_
  refine q_aload_n dX4_joined_42 rfl ?_
  replace E := grd_some E
  obtain ⟨g21, E⟩ := E
  replace E := orf_some E
  obtain ⟨a22, ea22, E⟩ := E
  refine r_getR dX4_joined_43 FX4_9 g21 ea22 ?_
  replace E := grd_some E
  obtain ⟨g23, E⟩ := E
  refine r_alen (t0 := 2) dX4_joined_46 rfl g23 ?_
  refine q_aload_n dX4_joined_47 rfl ?_
  refine r_getR dX4_joined_48 FX4_9 g19 ea20 ?_
  replace E := grd_some E
  obtain ⟨g25, E⟩ := E
  refine r_alen (t0 := 2) dX4_joined_51 rfl g25 ?_
  replace E := grd_some E
  obtain ⟨g26, E⟩ := E
  replace E := grd_some E
  obtain ⟨g27, E⟩ := E
  replace E := grd_some E
  obtain ⟨g28, E⟩ := E
  replace E := bnd_x E
  obtain ⟨h29, eh29, E⟩ := E
  refine r_copy (t0 := 2) dX4_joined_52 AX4_29 rfl (by decide) rfl g25 g26 g27 g28 eh29 (Nat.le_of_ble_eq_true rfl) ?_
  refine q_aload dX4_joined_55 rfl ?_
  refine q_iload_n dX4_joined_57 rfl ?_
  refine q_iload_n dX4_joined_58 rfl ?_
  replace E := grd_some E
  obtain ⟨g31, E⟩ := E
  replace E := grd_some E
  obtain ⟨g32, E⟩ := E
  replace E := grd_some E
  obtain ⟨g33, E⟩ := E
  replace E := bnd_x E
  obtain ⟨h30, eh30, E⟩ := E
  refine r_castore (hh := eh30) dX4_joined_59 g31 g32 g33 ?_
  replace E := bnd_x E
  obtain ⟨a34, ea34, E⟩ := E
  replace E := bnd_x E
  obtain ⟨h35, eh35, E⟩ := E
  refine r_new (hq := ea34) (hh := eh35) dX4_joined_60 CX4_10 ?_
  refine q_dup dX4_joined_63 ?_
  refine q_aload dX4_joined_64 rfl ?_
  replace E := cal_some E
  obtain ⟨_, h36, hc, E⟩ := E
  refine r_callI1 (mc := 0) (ms := 0) dX4_joined_66 KX4_35 (c_X4_init hc) (by decide) (Nat.le_of_ble_eq_true rfl) (fun _ _ q => q.elim) ?_
  rintro _ _ ⟨rfl, rfl⟩
  clear hc
  cases E
  exact q_areturn (v := (some a34)) dX4_joined_69 rfl (by first | exact Or.inl ⟨_, rfl⟩ | exact Or.inr ⟨_, rfl⟩) hK
theorem c_X4_joined {l : Launch} {G : mG} {p0 : Nat} {p1 : Nat} {v2 : Int32} {h h' : mH} {r : Option Nat} (E : f_X4_joined p0 p1 v2 h = some (r, h')) : mMet l G m_X4_joined 2 2 258 [.ref p0, .ref p1, .int v2] h (fun v k => v = some (va_rf r) ∧ h' = k) (fun _ _ => False) :=
  mMet_of (by decide +kernel) rfl (ac_c rfl (ac_c rfl (ac_c rfl ac_0))) (Nat.le_of_ble_eq_true rfl) (s_X4_joined_0 p0 p1 v2 h E (And.intro rfl rfl))
set_option maxRecDepth 100000 in
set_option maxHeartbeats 4000000 in
theorem s_X4_starred_0 {l : Launch} {G : mG} {Q : Option Value → mH → Prop} {X : String → mH → Prop} (p0 : Nat) (h : mH) {o : Option Nat × mH} (E : f_X4_starred p0 h = some o) (hK : (fiR Q) o) : mW l G m_X4_starred 2 2 258 0 [some (.ref p0), none, none] [] h Q X := by
  unfold f_X4_starred at E
  refine q_aload_n dX4_starred_0 rfl ?_
  replace E := grd_some E
  obtain ⟨g1, E⟩ := E
  replace E := orf_some E
  obtain ⟨a2, ea2, E⟩ := E
  refine r_getR dX4_starred_1 FX4_9 g1 ea2 ?_
  replace E := grd_some E
  obtain ⟨g3, E⟩ := E
  refine r_alen (t0 := 2) dX4_starred_4 rfl g3 ?_
  replace E := bnd_x E
  obtain ⟨x4, ex4, E⟩ := E
  refine r_istore_n dX4_starred_5 (by decide) ex4 (ls' := [some (.ref p0), some (.int x4), none]) rfl ?_
  refine q_iload_n dX4_starred_6 rfl ?_
  refine q_iconst dX4_starred_7 ?_
  refine q_iadd dX4_starred_8 ?_
  replace E := grd_some E
  obtain ⟨g5, E⟩ := E
  replace E := bnd_x E
  obtain ⟨a6, ea6, E⟩ := E
  replace E := bnd_x E
  obtain ⟨h7, eh7, E⟩ := E
  refine r_newarray (n := 255) (t0 := 2) (hq := ea6) (hh := eh7) dX4_starred_9 W_char rfl rfl (by decide) g5 (by decide) ?_
  refine r_astore_n dX4_starred_11 (by decide) (ls' := [some (.ref p0), some (.int x4), some (.ref a6)]) rfl ?_
  refine q_aload_n dX4_starred_12 rfl ?_
  replace E := grd_some E
  obtain ⟨g8, E⟩ := E
  replace E := orf_some E
  obtain ⟨a9, ea9, E⟩ := E
  refine r_getR dX4_starred_13 FX4_9 g8 ea9 ?_
  refine q_iconst dX4_starred_16 ?_
  refine q_aload_n dX4_starred_17 rfl ?_
  refine q_iconst dX4_starred_18 ?_
  refine q_iload_n dX4_starred_19 rfl ?_
  replace E := grd_some E
  obtain ⟨g10, E⟩ := E
  replace E := grd_some E
  obtain ⟨g11, E⟩ := E
  replace E := grd_some E
  obtain ⟨g12, E⟩ := E
  replace E := grd_some E
  obtain ⟨g13, E⟩ := E
  replace E := bnd_x E
  obtain ⟨h14, eh14, E⟩ := E
  refine r_copy (t0 := 2) dX4_starred_20 AX4_29 rfl (by decide) rfl g10 g11 g12 g13 eh14 (Nat.le_of_ble_eq_true rfl) ?_
  refine q_aload_n dX4_starred_23 rfl ?_
  refine q_iload_n dX4_starred_24 rfl ?_
  refine q_bipush (v := (Int32.ofInt 42)) dX4_starred_25 (by decide) ?_
  replace E := grd_some E
  obtain ⟨g16, E⟩ := E
  replace E := grd_some E
  obtain ⟨g17, E⟩ := E
  replace E := bnd_x E
  obtain ⟨h15, eh15, E⟩ := E
  refine r_castore (hh := eh15) dX4_starred_27 g16 g17 (by decide) ?_
  replace E := bnd_x E
  obtain ⟨a18, ea18, E⟩ := E
  replace E := bnd_x E
  obtain ⟨h19, eh19, E⟩ := E
  refine r_new (hq := ea18) (hh := eh19) dX4_starred_28 CX4_10 ?_
  refine q_dup dX4_starred_31 ?_
  refine q_aload_n dX4_starred_32 rfl ?_
  replace E := cal_some E
  obtain ⟨_, h20, hc, E⟩ := E
  refine r_callI1 (mc := 0) (ms := 0) dX4_starred_33 KX4_35 (c_X4_init hc) (by decide) (Nat.le_of_ble_eq_true rfl) (fun _ _ q => q.elim) ?_
  rintro _ _ ⟨rfl, rfl⟩
  clear hc
  cases E
  exact q_areturn (v := (some a18)) dX4_starred_36 rfl (by first | exact Or.inl ⟨_, rfl⟩ | exact Or.inr ⟨_, rfl⟩) hK
theorem c_X4_starred {l : Launch} {G : mG} {p0 : Nat} {h h' : mH} {r : Option Nat} (E : f_X4_starred p0 h = some (r, h')) : mMet l G m_X4_starred 2 2 258 [.ref p0] h (fun v k => v = some (va_rf r) ∧ h' = k) (fun _ _ => False) :=
  mMet_of (by decide +kernel) rfl (ac_c rfl ac_0) (Nat.le_of_ble_eq_true rfl) (s_X4_starred_0 p0 h E (And.intro rfl rfl))
set_option maxRecDepth 100000 in
set_option maxHeartbeats 4000000 in
theorem s_X4_letters_0 {l : Launch} {G : mG} {Q : Option Value → mH → Prop} {X : String → mH → Prop} (p0 : Nat) (h : mH) {o : Int32 × mH} (E : f_X4_letters p0 h = some o) (hK : (fiI Q) o) : mW l G m_X4_letters 0 0 0 0 [some (.ref p0)] [] h Q X := by
  unfold f_X4_letters at E
  refine q_aload_n dX4_letters_0 rfl ?_
  replace E := grd_some E
  obtain ⟨g1, E⟩ := E
  refine r_getI dX4_letters_1 FX4_22 g1 ?_
  cases E
  exact q_ireturn dX4_letters_4 rfl hK
theorem c_X4_letters {l : Launch} {G : mG} {p0 : Nat} {h h' : mH} {r : Int32} (E : f_X4_letters p0 h = some (r, h')) : mMet l G m_X4_letters 0 0 0 [.ref p0] h (fun v k => v = some (.int r) ∧ h' = k) (fun _ _ => False) :=
  mMet_of (by decide +kernel) rfl (ac_c rfl ac_0) (Nat.le_of_ble_eq_true rfl) (s_X4_letters_0 p0 h E (And.intro rfl rfl))
set_option maxRecDepth 100000 in
set_option maxHeartbeats 4000000 in
theorem s_X4_isTooLarge_23 {l : Launch} {G : mG} {Q : Option Value → mH → Prop} {X : String → mH → Prop} (s0 : Int32) (h : mH) {o : Int32 × mH} (E : g_X4_isTooLarge_23 s0 h = some o) (hK : (fiI Q) o) : mW l G m_X4_isTooLarge 0 0 0 23 [none] [.int s0] h Q X := by
  unfold g_X4_isTooLarge_23 at E
  replace E := grd_some E
  obtain ⟨g1, E⟩ := E
  cases E
  exact q_zreturn dX4_isTooLarge_23 rfl (narZ g1) hK
set_option maxRecDepth 100000 in
set_option maxHeartbeats 4000000 in
theorem s_X4_isTooLarge_18 {l : Launch} {G : mG} {Q : Option Value → mH → Prop} {X : String → mH → Prop} (h : mH) {o : Int32 × mH} (E : g_X4_isTooLarge_18  h = some o) (hK : (fiI Q) o) : mW l G m_X4_isTooLarge 0 0 0 18 [none] [] h Q X := by
  unfold g_X4_isTooLarge_18 at E
  refine q_iconst dX4_isTooLarge_18 ?_
  refine q_goto (tgt := 23) dX4_isTooLarge_19 (by decide) ?_
  exact r_fewer [none] (ls_n ls_0) (s_X4_isTooLarge_23 (Int32.ofInt 1) h E hK)
set_option maxRecDepth 100000 in
set_option maxHeartbeats 4000000 in
theorem s_X4_isTooLarge_0 {l : Launch} {G : mG} {Q : Option Value → mH → Prop} {X : String → mH → Prop} (p0 : Nat) (h : mH) {o : Int32 × mH} (E : f_X4_isTooLarge p0 h = some o) (hK : (fiI Q) o) : mW l G m_X4_isTooLarge 0 0 0 0 [some (.ref p0)] [] h Q X := by
  unfold f_X4_isTooLarge at E
  refine q_aload_n dX4_isTooLarge_0 rfl ?_
  replace E := grd_some E
  obtain ⟨g1, E⟩ := E
  refine r_getI dX4_isTooLarge_1 FX4_22 g1 ?_
  refine q_bipush (v := (Int32.ofInt 7)) dX4_isTooLarge_4 (by decide) ?_
  refine q_icmp_gt (tgt := 18) dX4_isTooLarge_6 (by decide) (fun z2 => ?_) (fun z2 => ?_)
  · replace E := ite_t E z2
    exact r_fewer [none] (ls_n ls_0) (s_X4_isTooLarge_18 h E hK)
  · replace E := ite_f E z2
    refine q_aload_n dX4_isTooLarge_9 rfl ?_
    refine r_getI dX4_isTooLarge_10 FX4_26 g1 ?_
    refine q_bipush (v := (Int32.ofInt 9)) dX4_isTooLarge_13 (by decide) ?_
    refine q_icmp_le (tgt := 22) dX4_isTooLarge_15 (by decide) (fun z3 => ?_) (fun z3 => ?_)
    · replace E := ite_t E z3
      refine q_iconst dX4_isTooLarge_22 ?_
      exact r_fewer [none] (ls_n ls_0) (s_X4_isTooLarge_23 (Int32.ofInt 0) h E hK)
    · replace E := ite_f E z3
      exact r_fewer [none] (ls_n ls_0) (s_X4_isTooLarge_18 h E hK)
theorem c_X4_isTooLarge {l : Launch} {G : mG} {p0 : Nat} {h h' : mH} {r : Int32} (E : f_X4_isTooLarge p0 h = some (r, h')) : mMet l G m_X4_isTooLarge 0 0 0 [.ref p0] h (fun v k => v = some (.int r) ∧ h' = k) (fun _ _ => False) :=
  mMet_of (by decide +kernel) rfl (ac_c rfl ac_0) (Nat.le_of_ble_eq_true rfl) (s_X4_isTooLarge_0 p0 h E (And.intro rfl rfl))
set_option maxRecDepth 100000 in
set_option maxHeartbeats 4000000 in
theorem s_X5_haveCycle_44 {l : Launch} {G : mG} {Q : Option Value → mH → Prop} {X : String → mH → Prop} (p0 : Nat) (v1 : Int32) (v2 : Int32) (v3 : Int32) (h : mH) {o : ((Int32 × Int32 × mH) ⊕ ((Int32 × Int32 × mH) ⊕ (Int32 × mH)))} (E : g_X5_haveCycle_44 p0 v1 v2 v3 h = some o) (hK : (lpK (w_X5_haveCycle_19 l G Q X p0 v2) (lpK (w_X5_haveCycle_11 l G Q X p0) (fiI Q))) o) : mW l G m_X5_haveCycle 0 0 0 44 [some (.ref p0), some (.int v1), some (.int v2), some (.int v3)] [] h Q X := by
  unfold g_X5_haveCycle_44 at E
  replace E := bnd_x E
  obtain ⟨x1, ex1, E⟩ := E
  refine r_iinc (v := x1) dX5_haveCycle_44 rfl ex1 (by decide) (ls' := [some (.ref p0), some (.int v1), some (.int v2), some (.int x1)]) rfl ?_
  refine q_goto (tgt := 19) dX5_haveCycle_47 (by decide) ?_
  cases E
  exact r_fewer [some (.ref p0), some (.int v1), some (.int v2), some (.int x1)] (ls_s (ls_s (ls_s (ls_s ls_0)))) hK
set_option maxRecDepth 100000 in
set_option maxHeartbeats 4000000 in
theorem sb_X5_haveCycle_19 {l : Launch} {G : mG} {Q : Option Value → mH → Prop} {X : String → mH → Prop} (p0 : Nat) (v1 : Int32) (v2 : Int32) (v3 : Int32) (h : mH) {o : ((Int32 × Int32 × mH) ⊕ ((Int32 × Int32 × mH) ⊕ (Int32 × mH)))} (E : b0_X5_haveCycle_19 p0 v1 v2 v3 h = some o) (hK : (lpK (w_X5_haveCycle_19 l G Q X p0 v2) (lpK (w_X5_haveCycle_11 l G Q X p0) (fiI Q))) o) : mW l G m_X5_haveCycle 0 0 0 19 [some (.ref p0), some (.int v1), some (.int v2), some (.int v3)] [] h Q X := by
  unfold b0_X5_haveCycle_19 at E
  refine q_iload_n dX5_haveCycle_19 rfl ?_
  refine q_bipush (v := (Int32.ofInt 7)) dX5_haveCycle_20 (by decide) ?_
  refine q_icmp_ge (tgt := 50) dX5_haveCycle_22 (by decide) (fun z1 => ?_) (fun z1 => ?_)
  · replace E := ite_t E z1
    replace E := bnd_x E
    obtain ⟨x2, ex2, E⟩ := E
    refine r_iinc (v := x2) dX5_haveCycle_50 rfl ex2 (by decide) (ls' := [some (.ref p0), some (.int v1), some (.int x2), some (.int v3)]) rfl ?_
    refine q_goto (tgt := 11) dX5_haveCycle_53 (by decide) ?_
    cases E
    exact r_fewer [some (.ref p0), some (.int v1), some (.int x2), none] (ls_s (ls_s (ls_s (ls_n ls_0)))) hK
  · replace E := ite_f E z1
    refine q_aload_n dX5_haveCycle_25 rfl ?_
    replace E := grd_some E
    obtain ⟨g3, E⟩ := E
    replace E := orf_some E
    obtain ⟨a4, ea4, E⟩ := E
    refine r_getR dX5_haveCycle_26 FX5_15 g3 ea4 ?_
    refine q_iload_n dX5_haveCycle_29 rfl ?_
    replace E := grd_some E
    obtain ⟨g5, E⟩ := E
    replace E := grd_some E
    obtain ⟨g6, E⟩ := E
    refine r_iaload dX5_haveCycle_30 g5 g6 ?_
    refine q_iload_n dX5_haveCycle_31 rfl ?_
    refine q_iand dX5_haveCycle_32 ?_
    refine q_if_ne (tgt := 44) dX5_haveCycle_33 (by decide) (fun z7 => ?_) (fun z7 => ?_)
    · replace E := ite_f E z7
      exact r_fewer [some (.ref p0), some (.int v1), some (.int v2), some (.int v3)] (ls_s (ls_s (ls_s (ls_s ls_0)))) (s_X5_haveCycle_44 p0 v1 v2 v3 h E hK)
    · replace E := ite_t E z7
      refine q_iload_n dX5_haveCycle_36 rfl ?_
      refine q_iconst dX5_haveCycle_37 ?_
      refine q_iload_n dX5_haveCycle_38 rfl ?_
      refine q_ishl dX5_haveCycle_39 ?_
      refine q_iconst dX5_haveCycle_40 ?_
      refine q_ixor dX5_haveCycle_41 ?_
      refine q_iand dX5_haveCycle_42 ?_
      replace E := bnd_x E
      obtain ⟨x8, ex8, E⟩ := E
      refine r_istore_n dX5_haveCycle_43 (by decide) ex8 (ls' := [some (.ref p0), some (.int x8), some (.int v2), some (.int v3)]) rfl ?_
      exact r_fewer [some (.ref p0), some (.int x8), some (.int v2), some (.int v3)] (ls_s (ls_s (ls_s (ls_s ls_0)))) (s_X5_haveCycle_44 p0 x8 v2 v3 h E hK)
theorem s_X5_haveCycle_19 {l : Launch} {G : mG} {Q : Option Value → mH → Prop} {X : String → mH → Prop} (p0 : Nat) (v1 : Int32) (v2 : Int32) (v3 : Int32) (h : mH) {o : ((Int32 × Int32 × mH) ⊕ (Int32 × mH))} (E : g_X5_haveCycle_19 p0 v1 v2 v3 h = some o) (hK : (lpK (w_X5_haveCycle_11 l G Q X p0) (fiI Q)) o) : mW l G m_X5_haveCycle 0 0 0 19 [some (.ref p0), some (.int v1), some (.int v2), some (.int v3)] [] h Q X :=
  (lp_go (w_X5_haveCycle_19 l G Q X p0 v2) (lpK (w_X5_haveCycle_11 l G Q X p0) (fiI Q)) (b_X5_haveCycle_19 p0 v2) (fun s o E hK => sb_X5_haveCycle_19 p0 s.1 v2 s.2.1 (s.2.2) E hK) _ _ _ E hK : w_X5_haveCycle_19 l G Q X p0 v2 (v1, v3, h))
set_option maxRecDepth 100000 in
set_option maxHeartbeats 4000000 in
theorem s_X5_haveCycle_65 {l : Launch} {G : mG} {Q : Option Value → mH → Prop} {X : String → mH → Prop} (s0 : Int32) (h : mH) {o : Int32 × mH} (E : g_X5_haveCycle_65 s0 h = some o) (hK : (fiI Q) o) : mW l G m_X5_haveCycle 0 0 0 65 [none, none, none, none] [.int s0] h Q X := by
  unfold g_X5_haveCycle_65 at E
  replace E := grd_some E
  obtain ⟨g1, E⟩ := E
  cases E
  exact q_zreturn dX5_haveCycle_65 rfl (narZ g1) hK
set_option maxRecDepth 100000 in
set_option maxHeartbeats 4000000 in
theorem sb_X5_haveCycle_11 {l : Launch} {G : mG} {Q : Option Value → mH → Prop} {X : String → mH → Prop} (p0 : Nat) (v1 : Int32) (v2 : Int32) (h : mH) {o : ((Int32 × Int32 × mH) ⊕ (Int32 × mH))} (E : b0_X5_haveCycle_11 p0 v1 v2 h = some o) (hK : (lpK (w_X5_haveCycle_11 l G Q X p0) (fiI Q)) o) : mW l G m_X5_haveCycle 0 0 0 11 [some (.ref p0), some (.int v1), some (.int v2), none] [] h Q X := by
  unfold b0_X5_haveCycle_11 at E
  refine q_iload_n dX5_haveCycle_11 rfl ?_
  refine q_bipush (v := (Int32.ofInt 7)) dX5_haveCycle_12 (by decide) ?_
  refine q_icmp_ge (tgt := 56) dX5_haveCycle_14 (by decide) (fun z1 => ?_) (fun z1 => ?_)
  · replace E := ite_t E z1
    refine q_iload_n dX5_haveCycle_56 rfl ?_
    refine q_if_eq (tgt := 64) dX5_haveCycle_57 (by decide) (fun z2 => ?_) (fun z2 => ?_)
    · replace E := ite_t E z2
      refine q_iconst dX5_haveCycle_64 ?_
      obtain ⟨o0, E0, rfl⟩ := inrO_some E
      exact r_fewer [none, none, none, none] (ls_n (ls_n (ls_n (ls_n ls_0)))) (s_X5_haveCycle_65 (Int32.ofInt 0) h E0 hK)
    · replace E := ite_f E z2
      refine q_iconst dX5_haveCycle_60 ?_
      refine q_goto (tgt := 65) dX5_haveCycle_61 (by decide) ?_
      obtain ⟨o0, E0, rfl⟩ := inrO_some E
      exact r_fewer [none, none, none, none] (ls_n (ls_n (ls_n (ls_n ls_0)))) (s_X5_haveCycle_65 (Int32.ofInt 1) h E0 hK)
  · replace E := ite_f E z1
    refine q_iconst dX5_haveCycle_17 ?_
    refine r_istore_n dX5_haveCycle_18 (by decide) rfl (ls' := [some (.ref p0), some (.int v1), some (.int v2), some (.int (Int32.ofInt 0))]) rfl ?_
    exact r_fewer [some (.ref p0), some (.int v1), some (.int v2), some (.int (Int32.ofInt 0))] (ls_s (ls_s (ls_s (ls_s ls_0)))) (s_X5_haveCycle_19 p0 v1 v2 (Int32.ofInt 0) h E hK)
theorem s_X5_haveCycle_11 {l : Launch} {G : mG} {Q : Option Value → mH → Prop} {X : String → mH → Prop} (p0 : Nat) (v1 : Int32) (v2 : Int32) (h : mH) {o : Int32 × mH} (E : g_X5_haveCycle_11 p0 v1 v2 h = some o) (hK : (fiI Q) o) : mW l G m_X5_haveCycle 0 0 0 11 [some (.ref p0), some (.int v1), some (.int v2), none] [] h Q X :=
  (lp_go (w_X5_haveCycle_11 l G Q X p0) (fiI Q) (b_X5_haveCycle_11 p0) (fun s o E hK => sb_X5_haveCycle_11 p0 s.1 s.2.1 (s.2.2) E hK) _ _ _ E hK : w_X5_haveCycle_11 l G Q X p0 (v1, v2, h))
set_option maxRecDepth 100000 in
set_option maxHeartbeats 4000000 in
theorem s_X5_haveCycle_0 {l : Launch} {G : mG} {Q : Option Value → mH → Prop} {X : String → mH → Prop} (p0 : Nat) (h : mH) {o : Int32 × mH} (E : f_X5_haveCycle p0 h = some o) (hK : (fiI Q) o) : mW l G m_X5_haveCycle 0 0 0 0 [some (.ref p0), none, none, none] [] h Q X := by
  unfold f_X5_haveCycle at E
  refine q_iconst dX5_haveCycle_0 ?_
  refine q_aload_n dX5_haveCycle_1 rfl ?_
  replace E := grd_some E
  obtain ⟨g1, E⟩ := E
  refine r_getI dX5_haveCycle_2 FX5_32 g1 ?_
  refine q_ishl dX5_haveCycle_5 ?_
  refine q_iconst dX5_haveCycle_6 ?_
  refine q_isub dX5_haveCycle_7 ?_
  replace E := bnd_x E
  obtain ⟨x2, ex2, E⟩ := E
  refine r_istore_n dX5_haveCycle_8 (by decide) ex2 (ls' := [some (.ref p0), some (.int x2), none, none]) rfl ?_
  refine q_iconst dX5_haveCycle_9 ?_
  refine r_istore_n dX5_haveCycle_10 (by decide) rfl (ls' := [some (.ref p0), some (.int x2), some (.int (Int32.ofInt 0)), none]) rfl ?_
  exact r_fewer [some (.ref p0), some (.int x2), some (.int (Int32.ofInt 0)), none] (ls_s (ls_s (ls_s (ls_n ls_0)))) (s_X5_haveCycle_11 p0 x2 (Int32.ofInt 0) h E hK)
theorem c_X5_haveCycle {l : Launch} {G : mG} {p0 : Nat} {h h' : mH} {r : Int32} (E : f_X5_haveCycle p0 h = some (r, h')) : mMet l G m_X5_haveCycle 0 0 0 [.ref p0] h (fun v k => v = some (.int r) ∧ h' = k) (fun _ _ => False) :=
  mMet_of (by decide +kernel) rfl (ac_c rfl ac_0) (Nat.le_of_ble_eq_true rfl) (s_X5_haveCycle_0 p0 h E (And.intro rfl rfl))
