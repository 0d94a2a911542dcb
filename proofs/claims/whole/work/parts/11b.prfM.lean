set_option maxRecDepth 100000 in
set_option maxHeartbeats 4000000 in
theorem s_X12_lays_40 {l : Launch} {G : mG} {Q : Option Value → mH → Prop} {X : String → mH → Prop} (p0 : Nat) (v1 : Int32) (v2 : Int32) (s0 : Int32) (s1 : Int32) (sp2 : Nat) (h : mH) {o : ((Int32 × mH) ⊕ (Int32 × mH))} (E : g_X12_lays_40 p0 v1 v2 s0 s1 sp2 h = some o) (hK : (lpK (w_X12_lays_2 l G Q X p0 v1) (fiI Q)) o) : mW l G m_X12_lays 1 0 0 40 [some (.ref p0), some (.int v1), some (.int v2)] [.int s0, .int s1, .ref sp2] h Q X := by
  unfold g_X12_lays_40 at E
  replace E := grd_some E
  obtain ⟨g2, E⟩ := E
  replace E := grd_some E
  obtain ⟨g3, E⟩ := E
  replace E := bnd_x E
  obtain ⟨h1, eh1, E⟩ := E
  refine r_iastore (hh := eh1) dX12_lays_40 g2 g3 ?_
  replace E := bnd_x E
  obtain ⟨x4, ex4, E⟩ := E
  refine r_iinc (v := x4) dX12_lays_41 rfl ex4 (by decide) (ls' := [some (.ref p0), some (.int v1), some (.int x4)]) rfl ?_
  refine q_goto (tgt := 2) dX12_lays_44 (by decide) ?_
  cases E
  exact r_fewer [some (.ref p0), some (.int v1), some (.int x4)] (ls_s (ls_s (ls_s ls_0))) hK
set_option maxRecDepth 100000 in
set_option maxHeartbeats 4000000 in
theorem sb_X12_lays_2 {l : Launch} {G : mG} {Q : Option Value → mH → Prop} {X : String → mH → Prop} (p0 : Nat) (v1 : Int32) (v2 : Int32) (h : mH) {o : ((Int32 × mH) ⊕ (Int32 × mH))} (E : b0_X12_lays_2 p0 v1 v2 h = some o) (hK : (lpK (w_X12_lays_2 l G Q X p0 v1) (fiI Q)) o) : mW l G m_X12_lays 1 0 0 2 [some (.ref p0), some (.int v1), some (.int v2)] [] h Q X := by
  unfold b0_X12_lays_2 at E
  refine q_iload_n dX12_lays_2 rfl ?_
  refine q_bipush (v := (Int32.ofInt 28)) dX12_lays_3 (by decide) ?_
  refine q_icmp_ge (tgt := 47) dX12_lays_5 (by decide) (fun z1 => ?_) (fun z1 => ?_)
  · replace E := ite_t E z1
    refine q_aload_n dX12_lays_47 rfl ?_
    replace E := grd_some E
    obtain ⟨g2, E⟩ := E
    replace E := orf_some E
    obtain ⟨a3, ea3, E⟩ := E
    refine r_getR dX12_lays_48 FX12_7 g2 ea3 ?_
    refine q_iconst dX12_lays_51 ?_
    refine q_bipush (v := (Int32.ofInt 29)) dX12_lays_52 (by decide) ?_
    refine q_iload_n dX12_lays_54 rfl ?_
    refine q_imul dX12_lays_55 ?_
    refine q_iadd dX12_lays_56 ?_
    refine q_aload_n dX12_lays_57 rfl ?_
    refine r_getI dX12_lays_58 FX12_144 g2 ?_
    replace E := grd_some E
    obtain ⟨g5, E⟩ := E
    replace E := grd_some E
    obtain ⟨g6, E⟩ := E
    replace E := bnd_x E
    obtain ⟨h4, eh4, E⟩ := E
    refine r_iastore (hh := eh4) dX12_lays_61 g5 g6 ?_
    refine q_aload_n dX12_lays_62 rfl ?_
    replace E := grd_some E
    obtain ⟨g7, E⟩ := E
    replace E := orf_some E
    obtain ⟨a8, ea8, E⟩ := E
    refine r_getR dX12_lays_63 FX12_7 g7 ea8 ?_
    refine q_iconst dX12_lays_66 ?_
    refine q_dup2 dX12_lays_67 ?_
    replace E := grd_some E
    obtain ⟨g9, E⟩ := E
    replace E := grd_some E
    obtain ⟨g10, E⟩ := E
    refine r_iaload dX12_lays_68 g9 g10 ?_
    refine q_iconst dX12_lays_69 ?_
    refine q_iadd dX12_lays_70 ?_
    replace E := bnd_x E
    obtain ⟨h11, eh11, E⟩ := E
    refine r_iastore (hh := eh11) dX12_lays_71 g9 g10 ?_
    refine q_aload_n dX12_lays_72 rfl ?_
    replace E := grd_some E
    obtain ⟨g14, E⟩ := E
    replace E := cal_some E
    obtain ⟨x13, h12, hc, E⟩ := E
    refine r_callV0 (mc := 0) (ms := 0) dX12_lays_73 KX12_155 (c_X12_letters hc) g14 (by decide) (Nat.le_of_ble_eq_true rfl) (fun _ _ q => q.elim) ?_
    rintro _ _ ⟨rfl, rfl⟩
    clear hc
    cases E
    exact q_ireturn dX12_lays_76 rfl hK
  · replace E := ite_f E z1
    refine q_aload_n dX12_lays_8 rfl ?_
    replace E := grd_some E
    obtain ⟨g15, E⟩ := E
    replace E := orf_some E
    obtain ⟨a16, ea16, E⟩ := E
    refine r_getR dX12_lays_9 FX12_7 g15 ea16 ?_
    refine q_iconst dX12_lays_12 ?_
    refine q_bipush (v := (Int32.ofInt 29)) dX12_lays_13 (by decide) ?_
    refine q_iload_n dX12_lays_15 rfl ?_
    refine q_imul dX12_lays_16 ?_
    refine q_iadd dX12_lays_17 ?_
    refine q_iconst dX12_lays_18 ?_
    refine q_iadd dX12_lays_19 ?_
    refine q_iload_n dX12_lays_20 rfl ?_
    refine q_iadd dX12_lays_21 ?_
    refine q_iload_n dX12_lays_22 rfl ?_
    refine q_aload_n dX12_lays_23 rfl ?_
    refine r_getI dX12_lays_24 FX12_144 g15 ?_
    refine q_icmp_ge (tgt := 39) dX12_lays_27 (by decide) (fun z17 => ?_) (fun z17 => ?_)
    · replace E := ite_t E z17
      refine q_iconst dX12_lays_39 ?_
      exact r_fewer [some (.ref p0), some (.int v1), some (.int v2)] (ls_s (ls_s (ls_s ls_0))) (s_X12_lays_40 p0 v1 v2 (Int32.ofInt 0) ((((Int32.ofInt 2) + ((Int32.ofInt 29) * v1)) + (Int32.ofInt 1)) + v2) a16 h E hK)
    · replace E := ite_f E z17
      refine q_aload_n dX12_lays_30 rfl ?_
      replace E := orf_some E
      obtain ⟨a18, ea18, E⟩ := E
      refine r_getR dX12_lays_31 FX12_22 g15 ea18 ?_
      refine q_iload_n dX12_lays_34 rfl ?_
      replace E := grd_some E
      obtain ⟨g19, E⟩ := E
      replace E := grd_some E
      obtain ⟨g20, E⟩ := E
      refine r_iaload dX12_lays_35 g19 g20 ?_
      refine q_goto (tgt := 40) dX12_lays_36 (by decide) ?_
      exact r_fewer [some (.ref p0), some (.int v1), some (.int v2)] (ls_s (ls_s (ls_s ls_0))) (s_X12_lays_40 p0 v1 v2 (gi h a18 v2.toNatClampNeg) ((((Int32.ofInt 2) + ((Int32.ofInt 29) * v1)) + (Int32.ofInt 1)) + v2) a16 h E hK)
theorem s_X12_lays_2 {l : Launch} {G : mG} {Q : Option Value → mH → Prop} {X : String → mH → Prop} (p0 : Nat) (v1 : Int32) (v2 : Int32) (h : mH) {o : Int32 × mH} (E : g_X12_lays_2 p0 v1 v2 h = some o) (hK : (fiI Q) o) : mW l G m_X12_lays 1 0 0 2 [some (.ref p0), some (.int v1), some (.int v2)] [] h Q X :=
  (lp_go (w_X12_lays_2 l G Q X p0 v1) (fiI Q) (b_X12_lays_2 p0 v1) (fun s o E hK => sb_X12_lays_2 p0 v1 s.1 (s.2) E hK) _ _ _ E hK : w_X12_lays_2 l G Q X p0 v1 (v2, h))
set_option maxRecDepth 100000 in
set_option maxHeartbeats 4000000 in
theorem s_X12_lays_0 {l : Launch} {G : mG} {Q : Option Value → mH → Prop} {X : String → mH → Prop} (p0 : Nat) (v1 : Int32) (h : mH) {o : Int32 × mH} (E : f_X12_lays p0 v1 h = some o) (hK : (fiI Q) o) : mW l G m_X12_lays 1 0 0 0 [some (.ref p0), some (.int v1), none] [] h Q X := by
  unfold f_X12_lays at E
  refine q_iconst dX12_lays_0 ?_
  refine r_istore_n dX12_lays_1 (by decide) rfl (ls' := [some (.ref p0), some (.int v1), some (.int (Int32.ofInt 0))]) rfl ?_
  exact r_fewer [some (.ref p0), some (.int v1), some (.int (Int32.ofInt 0))] (ls_s (ls_s (ls_s ls_0))) (s_X12_lays_2 p0 v1 (Int32.ofInt 0) h E hK)
theorem c_X12_lays {l : Launch} {G : mG} {p0 : Nat} {v1 : Int32} {h h' : mH} {r : Int32} (E : f_X12_lays p0 v1 h = some (r, h')) : mMet l G m_X12_lays 1 0 0 [.ref p0, .int v1] h (fun v k => v = some (.int r) ∧ h' = k) (fun _ _ => False) :=
  mMet_of (by decide +kernel) rfl (ac_c rfl (ac_c rfl ac_0)) (Nat.le_of_ble_eq_true rfl) (s_X12_lays_0 p0 v1 h E (And.intro rfl rfl))
set_option maxRecDepth 100000 in
set_option maxHeartbeats 4000000 in
theorem s_X12_nextChar_24 {l : Launch} {G : mG} {Q : Option Value → mH → Prop} {X : String → mH → Prop} (s0 : Int32) (h : mH) {o : Int32 × mH} (E : g_X12_nextChar_24 s0 h = some o) (hK : (fiI Q) o) : mW l G m_X12_nextChar 0 0 0 24 [none] [.int s0] h Q X := by
  unfold g_X12_nextChar_24 at E
  cases E
  exact q_ireturn dX12_nextChar_24 rfl hK
set_option maxRecDepth 100000 in
set_option maxHeartbeats 4000000 in
theorem s_X12_nextChar_0 {l : Launch} {G : mG} {Q : Option Value → mH → Prop} {X : String → mH → Prop} (p0 : Nat) (h : mH) {o : Int32 × mH} (E : f_X12_nextChar p0 h = some o) (hK : (fiI Q) o) : mW l G m_X12_nextChar 0 0 0 0 [some (.ref p0)] [] h Q X := by
  unfold f_X12_nextChar at E
  refine q_aload_n dX12_nextChar_0 rfl ?_
  replace E := grd_some E
  obtain ⟨g1, E⟩ := E
  refine r_getI dX12_nextChar_1 FX12_162 g1 ?_
  refine q_aload_n dX12_nextChar_4 rfl ?_
  refine r_getI dX12_nextChar_5 FX12_165 g1 ?_
  refine q_icmp_ge (tgt := 23) dX12_nextChar_8 (by decide) (fun z2 => ?_) (fun z2 => ?_)
  · replace E := ite_t E z2
    refine q_iconst dX12_nextChar_23 ?_
    exact r_fewer [none] (ls_n ls_0) (s_X12_nextChar_24 (Int32.ofInt (-1)) h E hK)
  · replace E := ite_f E z2
    refine q_aload_n dX12_nextChar_11 rfl ?_
    replace E := orf_some E
    obtain ⟨a3, ea3, E⟩ := E
    refine r_getR dX12_nextChar_12 FX12_25 g1 ea3 ?_
    refine q_aload_n dX12_nextChar_15 rfl ?_
    refine r_getI dX12_nextChar_16 FX12_162 g1 ?_
    replace E := grd_some E
    obtain ⟨g4, E⟩ := E
    replace E := grd_some E
    obtain ⟨g5, E⟩ := E
    refine r_caload dX12_nextChar_19 g4 g5 ?_
    refine q_goto (tgt := 24) dX12_nextChar_20 (by decide) ?_
    exact r_fewer [none] (ls_n ls_0) (s_X12_nextChar_24 (gi h a3 (gi h p0 12).toNatClampNeg) h E hK)
theorem c_X12_nextChar {l : Launch} {G : mG} {p0 : Nat} {h h' : mH} {r : Int32} (E : f_X12_nextChar p0 h = some (r, h')) : mMet l G m_X12_nextChar 0 0 0 [.ref p0] h (fun v k => v = some (.int r) ∧ h' = k) (fun _ _ => False) :=
  mMet_of (by decide +kernel) rfl (ac_c rfl ac_0) (Nat.le_of_ble_eq_true rfl) (s_X12_nextChar_0 p0 h E (And.intro rfl rfl))
set_option maxRecDepth 100000 in
set_option maxHeartbeats 4000000 in
theorem s_X12_reads_0 {l : Launch} {G : mG} {Q : Option Value → mH → Prop} {X : String → mH → Prop} (p0 : Nat) (v1 : Int32) (h : mH) {o : Int32 × mH} (E : f_X12_reads p0 v1 h = some o) (hK : (fiI Q) o) : mW l G m_X12_reads 1 0 0 0 [some (.ref p0), some (.int v1)] [] h Q X := by
  unfold f_X12_reads at E
  refine q_aload_n dX12_reads_0 rfl ?_
  replace E := grd_some E
  obtain ⟨g3, E⟩ := E
  replace E := cal_some E
  obtain ⟨x2, h1, hc, E⟩ := E
  refine r_callV0 (mc := 0) (ms := 0) dX12_reads_1 KX12_168 (c_X12_nextChar hc) g3 (by decide) (Nat.le_of_ble_eq_true rfl) (fun _ _ q => q.elim) ?_
  rintro _ _ ⟨rfl, rfl⟩
  clear hc
  refine q_iload_n dX12_reads_4 rfl ?_
  refine q_icmp_eq (tgt := 10) dX12_reads_5 (by decide) (fun z4 => ?_) (fun z4 => ?_)
  · replace E := ite_t E z4
    refine q_aload_n dX12_reads_10 rfl ?_
    refine q_dup dX12_reads_11 ?_
    replace E := grd_some E
    obtain ⟨g5, E⟩ := E
    refine r_getI dX12_reads_12 FX12_162 g5 ?_
    refine q_iconst dX12_reads_15 ?_
    refine q_iadd dX12_reads_16 ?_
    replace E := bnd_x E
    obtain ⟨h6, eh6, E⟩ := E
    refine r_putI (hh := eh6) dX12_reads_17 FX12_162 g5 rfl rfl ?_
    refine q_iconst dX12_reads_20 ?_
    cases E
    exact q_zreturn dX12_reads_21 rfl (by decide) hK
  · replace E := ite_f E z4
    refine q_iconst dX12_reads_8 ?_
    cases E
    exact q_zreturn dX12_reads_9 rfl (by decide) hK
theorem c_X12_reads {l : Launch} {G : mG} {p0 : Nat} {v1 : Int32} {h h' : mH} {r : Int32} (E : f_X12_reads p0 v1 h = some (r, h')) : mMet l G m_X12_reads 1 0 0 [.ref p0, .int v1] h (fun v k => v = some (.int r) ∧ h' = k) (fun _ _ => False) :=
  mMet_of (by decide +kernel) rfl (ac_c rfl (ac_c rfl ac_0)) (Nat.le_of_ble_eq_true rfl) (s_X12_reads_0 p0 v1 h E (And.intro rfl rfl))
set_option maxRecDepth 100000 in
set_option maxHeartbeats 4000000 in
theorem s_X12_waitsFor_0 {l : Launch} {G : mG} {Q : Option Value → mH → Prop} {X : String → mH → Prop} (p0 : Nat) (v1 : Int32) (h : mH) {o : Unit × mH} (E : f_X12_waitsFor p0 v1 h = some o) (hK : (fiV Q) o) : mW l G m_X12_waitsFor 0 0 0 0 [some (.ref p0), some (.int v1)] [] h Q X := by
  unfold f_X12_waitsFor at E
  refine q_aload_n dX12_waitsFor_0 rfl ?_
  replace E := grd_some E
  obtain ⟨g1, E⟩ := E
  replace E := orf_some E
  obtain ⟨a2, ea2, E⟩ := E
  refine r_getR dX12_waitsFor_1 FX12_36 g1 ea2 ?_
  refine q_aload_n dX12_waitsFor_4 rfl ?_
  refine r_getI dX12_waitsFor_5 FX12_171 g1 ?_
  refine q_iload_n dX12_waitsFor_8 rfl ?_
  replace E := grd_some E
  obtain ⟨g4, E⟩ := E
  replace E := grd_some E
  obtain ⟨g5, E⟩ := E
  replace E := bnd_x E
  obtain ⟨h3, eh3, E⟩ := E
  refine r_iastore (hh := eh3) dX12_waitsFor_9 g4 g5 ?_
  refine q_aload_n dX12_waitsFor_10 rfl ?_
  refine q_dup dX12_waitsFor_11 ?_
  replace E := grd_some E
  obtain ⟨g6, E⟩ := E
  refine r_getI dX12_waitsFor_12 FX12_171 g6 ?_
  refine q_iconst dX12_waitsFor_15 ?_
  refine q_iadd dX12_waitsFor_16 ?_
  replace E := bnd_x E
  obtain ⟨h7, eh7, E⟩ := E
  refine r_putI (hh := eh7) dX12_waitsFor_17 FX12_171 g6 rfl rfl ?_
  cases E
  exact q_return dX12_waitsFor_20 rfl hK
theorem c_X12_waitsFor {l : Launch} {G : mG} {p0 : Nat} {v1 : Int32} {h h' : mH} {r : Unit} (E : f_X12_waitsFor p0 v1 h = some (r, h')) : mMet l G m_X12_waitsFor 0 0 0 [.ref p0, .int v1] h (fun v k => v = none ∧ h' = k) (fun _ _ => False) :=
  mMet_of (by decide +kernel) rfl (ac_c rfl (ac_c rfl ac_0)) (Nat.le_of_ble_eq_true rfl) (s_X12_waitsFor_0 p0 v1 h E (And.intro rfl rfl))
set_option maxRecDepth 100000 in
set_option maxHeartbeats 4000000 in
theorem s_X12_brings_53 {l : Launch} {G : mG} {Q : Option Value → mH → Prop} {X : String → mH → Prop} (p0 : Nat) (v1 : Int32) (s0 : Int32) (h : mH) {o : ((Int32 × mH) ⊕ (Unit × mH))} (E : g_X12_brings_53 p0 v1 s0 h = some o) (hK : (lpK (w_X12_brings_2 l G Q X p0 v1) (fiV Q)) o) : mW l G m_X12_brings 1 0 0 53 [some (.ref p0), some (.int v1), none] [.int s0] h Q X := by
  unfold g_X12_brings_53 at E
  refine r_istore_n dX12_brings_53 (by decide) rfl (ls' := [some (.ref p0), some (.int v1), some (.int s0)]) rfl ?_
  refine q_iload_n dX12_brings_54 rfl ?_
  refine q_if_ne (tgt := 59) dX12_brings_55 (by decide) (fun z1 => ?_) (fun z1 => ?_)
  · replace E := ite_f E z1
    refine q_aload_n dX12_brings_59 rfl ?_
    refine q_dup dX12_brings_60 ?_
    replace E := grd_some E
    obtain ⟨g2, E⟩ := E
    refine r_getI dX12_brings_61 FX12_171 g2 ?_
    refine q_iconst dX12_brings_64 ?_
    refine q_isub dX12_brings_65 ?_
    replace E := bnd_x E
    obtain ⟨h3, eh3, E⟩ := E
    refine r_putI (hh := eh3) dX12_brings_66 FX12_171 g2 rfl rfl ?_
    refine q_aload_n dX12_brings_69 rfl ?_
    refine q_aload_n dX12_brings_70 rfl ?_
    replace E := grd_some E
    obtain ⟨g4, E⟩ := E
    replace E := orf_some E
    obtain ⟨a5, ea5, E⟩ := E
    refine r_getR dX12_brings_71 FX12_36 g4 ea5 ?_
    refine q_aload_n dX12_brings_74 rfl ?_
    refine r_getI dX12_brings_75 FX12_171 g4 ?_
    replace E := grd_some E
    obtain ⟨g6, E⟩ := E
    replace E := grd_some E
    obtain ⟨g7, E⟩ := E
    refine r_iaload dX12_brings_78 g6 g7 ?_
    replace E := cal_some E
    obtain ⟨_, h8, hc, E⟩ := E
    refine r_callV1 (mc := 0) (ms := 0) dX12_brings_79 KX12_151 (c_X12_adds hc) g4 (by decide) (Nat.le_of_ble_eq_true rfl) (fun _ _ q => q.elim) ?_
    rintro _ _ ⟨rfl, rfl⟩
    clear hc
    refine q_goto (tgt := 2) dX12_brings_82 (by decide) ?_
    cases E
    exact r_fewer [some (.ref p0), some (.int v1), some (.int s0)] (ls_s (ls_s (ls_s ls_0))) hK
  · replace E := ite_t E z1
    cases E
    exact q_return dX12_brings_58 rfl hK
set_option maxRecDepth 100000 in
set_option maxHeartbeats 4000000 in
theorem s_X12_brings_48 {l : Launch} {G : mG} {Q : Option Value → mH → Prop} {X : String → mH → Prop} (p0 : Nat) (v1 : Int32) (h : mH) {o : ((Int32 × mH) ⊕ (Unit × mH))} (E : g_X12_brings_48 p0 v1 h = some o) (hK : (lpK (w_X12_brings_2 l G Q X p0 v1) (fiV Q)) o) : mW l G m_X12_brings 1 0 0 48 [some (.ref p0), some (.int v1), none] [] h Q X := by
  unfold g_X12_brings_48 at E
  refine q_iconst dX12_brings_48 ?_
  refine q_goto (tgt := 53) dX12_brings_49 (by decide) ?_
  exact r_fewer [some (.ref p0), some (.int v1), none] (ls_s (ls_s (ls_n ls_0))) (s_X12_brings_53 p0 v1 (Int32.ofInt 1) h E hK)
set_option maxRecDepth 100000 in
set_option maxHeartbeats 4000000 in
theorem s_X12_brings_52 {l : Launch} {G : mG} {Q : Option Value → mH → Prop} {X : String → mH → Prop} (p0 : Nat) (v1 : Int32) (h : mH) {o : ((Int32 × mH) ⊕ (Unit × mH))} (E : g_X12_brings_52 p0 v1 h = some o) (hK : (lpK (w_X12_brings_2 l G Q X p0 v1) (fiV Q)) o) : mW l G m_X12_brings 1 0 0 52 [some (.ref p0), some (.int v1), none] [] h Q X := by
  unfold g_X12_brings_52 at E
  refine q_iconst dX12_brings_52 ?_
  exact r_fewer [some (.ref p0), some (.int v1), none] (ls_s (ls_s (ls_n ls_0))) (s_X12_brings_53 p0 v1 (Int32.ofInt 0) h E hK)
set_option maxRecDepth 100000 in
set_option maxHeartbeats 4000000 in
theorem sb_X12_brings_2 {l : Launch} {G : mG} {Q : Option Value → mH → Prop} {X : String → mH → Prop} (p0 : Nat) (v1 : Int32) (v2 : Int32) (h : mH) {o : ((Int32 × mH) ⊕ (Unit × mH))} (E : b0_X12_brings_2 p0 v1 v2 h = some o) (hK : (lpK (w_X12_brings_2 l G Q X p0 v1) (fiV Q)) o) : mW l G m_X12_brings 1 0 0 2 [some (.ref p0), some (.int v1), some (.int v2)] [] h Q X := by
  unfold b0_X12_brings_2 at E
  refine q_iload_n dX12_brings_2 rfl ?_
  refine q_if_eq (tgt := 85) dX12_brings_3 (by decide) (fun z1 => ?_) (fun z1 => ?_)
  · replace E := ite_t E z1
    cases E
    exact q_return dX12_brings_85 rfl hK
  · replace E := ite_f E z1
    refine q_aload_n dX12_brings_6 rfl ?_
    replace E := grd_some E
    obtain ⟨g2, E⟩ := E
    refine r_getI dX12_brings_7 FX12_171 g2 ?_
    refine q_if_le (tgt := 52) dX12_brings_10 (by decide) (fun z3 => ?_) (fun z3 => ?_)
    · replace E := ite_t E z3
      exact r_fewer [some (.ref p0), some (.int v1), none] (ls_s (ls_s (ls_n ls_0))) (s_X12_brings_52 p0 v1 h E hK)
    · replace E := ite_f E z3
      refine q_aload_n dX12_brings_13 rfl ?_
      replace E := orf_some E
      obtain ⟨a4, ea4, E⟩ := E
      refine r_getR dX12_brings_14 FX12_36 g2 ea4 ?_
      refine q_aload_n dX12_brings_17 rfl ?_
      refine r_getI dX12_brings_18 FX12_171 g2 ?_
      refine q_iconst dX12_brings_21 ?_
      refine q_isub dX12_brings_22 ?_
      replace E := grd_some E
      obtain ⟨g5, E⟩ := E
      replace E := grd_some E
      obtain ⟨g6, E⟩ := E
      refine r_iaload dX12_brings_23 g5 g6 ?_
      refine q_iconst dX12_brings_24 ?_
      refine q_icmp_eq (tgt := 48) dX12_brings_25 (by decide) (fun z7 => ?_) (fun z7 => ?_)
      · replace E := ite_t E z7
        exact r_fewer [some (.ref p0), some (.int v1), none] (ls_s (ls_s (ls_n ls_0))) (s_X12_brings_48 p0 v1 h E hK)
      · replace E := ite_f E z7
        refine q_aload_n dX12_brings_28 rfl ?_
        refine r_getR dX12_brings_29 FX12_36 g2 ea4 ?_
        refine q_aload_n dX12_brings_32 rfl ?_
        refine r_getI dX12_brings_33 FX12_171 g2 ?_
        refine q_iconst dX12_brings_36 ?_
        refine q_isub dX12_brings_37 ?_
        refine r_iaload dX12_brings_38 g5 g6 ?_
        refine q_iconst dX12_brings_39 ?_
        refine q_icmp_ne (tgt := 52) dX12_brings_40 (by decide) (fun z9 => ?_) (fun z9 => ?_)
        · replace E := ite_f E z9
          exact r_fewer [some (.ref p0), some (.int v1), none] (ls_s (ls_s (ls_n ls_0))) (s_X12_brings_52 p0 v1 h E hK)
        · replace E := ite_t E z9
          refine q_iload_n dX12_brings_43 rfl ?_
          refine q_iconst dX12_brings_44 ?_
          refine q_icmp_ne (tgt := 52) dX12_brings_45 (by decide) (fun z10 => ?_) (fun z10 => ?_)
          · replace E := ite_f E z10
            exact r_fewer [some (.ref p0), some (.int v1), none] (ls_s (ls_s (ls_n ls_0))) (s_X12_brings_52 p0 v1 h E hK)
          · replace E := ite_t E z10
            exact r_fewer [some (.ref p0), some (.int v1), none] (ls_s (ls_s (ls_n ls_0))) (s_X12_brings_48 p0 v1 h E hK)
theorem s_X12_brings_2 {l : Launch} {G : mG} {Q : Option Value → mH → Prop} {X : String → mH → Prop} (p0 : Nat) (v1 : Int32) (v2 : Int32) (h : mH) {o : Unit × mH} (E : g_X12_brings_2 p0 v1 v2 h = some o) (hK : (fiV Q) o) : mW l G m_X12_brings 1 0 0 2 [some (.ref p0), some (.int v1), some (.int v2)] [] h Q X :=
  (lp_go (w_X12_brings_2 l G Q X p0 v1) (fiV Q) (b_X12_brings_2 p0 v1) (fun s o E hK => sb_X12_brings_2 p0 v1 s.1 (s.2) E hK) _ _ _ E hK : w_X12_brings_2 l G Q X p0 v1 (v2, h))
set_option maxRecDepth 100000 in
set_option maxHeartbeats 4000000 in
theorem s_X12_brings_0 {l : Launch} {G : mG} {Q : Option Value → mH → Prop} {X : String → mH → Prop} (p0 : Nat) (v1 : Int32) (h : mH) {o : Unit × mH} (E : f_X12_brings p0 v1 h = some o) (hK : (fiV Q) o) : mW l G m_X12_brings 1 0 0 0 [some (.ref p0), some (.int v1), none] [] h Q X := by
  unfold f_X12_brings at E
  refine q_iconst dX12_brings_0 ?_
  refine r_istore_n dX12_brings_1 (by decide) rfl (ls' := [some (.ref p0), some (.int v1), some (.int (Int32.ofInt 1))]) rfl ?_
  exact r_fewer [some (.ref p0), some (.int v1), some (.int (Int32.ofInt 1))] (ls_s (ls_s (ls_s ls_0))) (s_X12_brings_2 p0 v1 (Int32.ofInt 1) h E hK)
theorem c_X12_brings {l : Launch} {G : mG} {p0 : Nat} {v1 : Int32} {h h' : mH} {r : Unit} (E : f_X12_brings p0 v1 h = some (r, h')) : mMet l G m_X12_brings 1 0 0 [.ref p0, .int v1] h (fun v k => v = none ∧ h' = k) (fun _ _ => False) :=
  mMet_of (by decide +kernel) rfl (ac_c rfl (ac_c rfl ac_0)) (Nat.le_of_ble_eq_true rfl) (s_X12_brings_0 p0 v1 h E (And.intro rfl rfl))
set_option maxRecDepth 100000 in
set_option maxHeartbeats 4000000 in
theorem s_X12_readsLetter_0 {l : Launch} {G : mG} {Q : Option Value → mH → Prop} {X : String → mH → Prop} (p0 : Nat) (h : mH) {o : Int32 × mH} (E : f_X12_readsLetter p0 h = some o) (hK : (fiI Q) o) : mW l G m_X12_readsLetter 1 0 0 0 [some (.ref p0), none] [] h Q X := by
  unfold f_X12_readsLetter at E
  refine q_aload_n dX12_readsLetter_0 rfl ?_
  replace E := grd_some E
  obtain ⟨g3, E⟩ := E
  replace E := cal_some E
  obtain ⟨x2, h1, hc, E⟩ := E
  refine r_callV0 (mc := 0) (ms := 0) dX12_readsLetter_1 KX12_168 (c_X12_nextChar hc) g3 (by decide) (Nat.le_of_ble_eq_true rfl) (fun _ _ q => q.elim) ?_
  rintro _ _ ⟨rfl, rfl⟩
  clear hc
  refine r_istore_n dX12_readsLetter_4 (by decide) rfl (ls' := [some (.ref p0), some (.int x2)]) rfl ?_
  refine q_iload_n dX12_readsLetter_5 rfl ?_
  refine q_bipush (v := (Int32.ofInt 97)) dX12_readsLetter_6 (by decide) ?_
  refine q_bipush (v := (Int32.ofInt 99)) dX12_readsLetter_8 (by decide) ?_
  replace E := cal_some E
  obtain ⟨x5, h4, hc, E⟩ := E
  refine r_callS3 (mc := 0) (ms := 0) dX12_readsLetter_10 KX12_132 (c_X12_isBetween hc) (by decide) (Nat.le_of_ble_eq_true rfl) (fun _ _ q => q.elim) ?_
  rintro _ _ ⟨rfl, rfl⟩
  clear hc
  refine q_if_ne (tgt := 18) dX12_readsLetter_13 (by decide) (fun z6 => ?_) (fun z6 => ?_)
  · replace E := ite_f E z6
    refine q_aload_n dX12_readsLetter_18 rfl ?_
    refine q_dup dX12_readsLetter_19 ?_
    replace E := grd_some E
    obtain ⟨g7, E⟩ := E
    refine r_getI dX12_readsLetter_20 FX12_162 g7 ?_
    refine q_iconst dX12_readsLetter_23 ?_
    refine q_iadd dX12_readsLetter_24 ?_
    replace E := bnd_x E
    obtain ⟨h8, eh8, E⟩ := E
    refine r_putI (hh := eh8) dX12_readsLetter_25 FX12_162 g7 rfl rfl ?_
    refine q_aload_n dX12_readsLetter_28 rfl ?_
    refine q_iload_n dX12_readsLetter_29 rfl ?_
    refine q_bipush (v := (Int32.ofInt 97)) dX12_readsLetter_30 (by decide) ?_
    refine q_isub dX12_readsLetter_32 ?_
    refine q_iconst dX12_readsLetter_33 ?_
    refine q_iadd dX12_readsLetter_34 ?_
    replace E := grd_some E
    obtain ⟨g11, E⟩ := E
    replace E := cal_some E
    obtain ⟨_, h9, hc, E⟩ := E
    refine r_callV1 (mc := 0) (ms := 0) dX12_readsLetter_35 KX12_151 (c_X12_adds hc) g11 (by decide) (Nat.le_of_ble_eq_true rfl) (fun _ _ q => q.elim) ?_
    rintro _ _ ⟨rfl, rfl⟩
    clear hc
    refine q_iconst dX12_readsLetter_38 ?_
    cases E
    exact q_zreturn dX12_readsLetter_39 rfl (by decide) hK
  · replace E := ite_t E z6
    refine q_iconst dX12_readsLetter_16 ?_
    cases E
    exact q_zreturn dX12_readsLetter_17 rfl (by decide) hK
theorem c_X12_readsLetter {l : Launch} {G : mG} {p0 : Nat} {h h' : mH} {r : Int32} (E : f_X12_readsLetter p0 h = some (r, h')) : mMet l G m_X12_readsLetter 1 0 0 [.ref p0] h (fun v k => v = some (.int r) ∧ h' = k) (fun _ _ => False) :=
  mMet_of (by decide +kernel) rfl (ac_c rfl ac_0) (Nat.le_of_ble_eq_true rfl) (s_X12_readsLetter_0 p0 h E (And.intro rfl rfl))
set_option maxRecDepth 100000 in
set_option maxHeartbeats 4000000 in
theorem s_X12_signOf_0 {l : Launch} {G : mG} {Q : Option Value → mH → Prop} {X : String → mH → Prop} (v0 : Int32) (h : mH) {o : Int32 × mH} (E : f_X12_signOf v0 h = some o) (hK : (fiI Q) o) : mW l G m_X12_signOf 0 0 0 0 [some (.int v0)] [] h Q X := by
  unfold f_X12_signOf at E
  refine q_iload_n dX12_signOf_0 rfl ?_
  by_cases z1 : v0 = (Int32.ofInt 42)
  · replace E := ite_t E z1
    refine r_lookupV (off := 35) (tgt := 36) (Int32.ofInt 42) dX12_signOf_1 z1 (by decide) (by decide) (by decide) ?_
    refine q_bipush (v := (Int32.ofInt 6)) dX12_signOf_36 (by decide) ?_
    cases E
    exact q_ireturn dX12_signOf_38 rfl hK
  replace E := ite_f E z1
  by_cases z2 : v0 = (Int32.ofInt 43)
  · replace E := ite_t E z2
    refine r_lookupV (off := 38) (tgt := 39) (Int32.ofInt 43) dX12_signOf_1 z2 (by decide) (by decide) (by decide) ?_
    refine q_bipush (v := (Int32.ofInt 7)) dX12_signOf_39 (by decide) ?_
    cases E
    exact q_ireturn dX12_signOf_41 rfl hK
  replace E := ite_f E z2
  by_cases z3 : v0 = (Int32.ofInt 63)
  · replace E := ite_t E z3
    refine r_lookupV (off := 41) (tgt := 42) (Int32.ofInt 63) dX12_signOf_1 z3 (by decide) (by decide) (by decide) ?_
    refine q_bipush (v := (Int32.ofInt 8)) dX12_signOf_42 (by decide) ?_
    cases E
    exact q_ireturn dX12_signOf_44 rfl hK
  replace E := ite_f E z3
  refine r_lookup (off := 44) (tgt := 45) dX12_signOf_1 (by decide) (Eq.trans (lv_osw z1 rfl) (Eq.trans (lv_osw z2 rfl) (Eq.trans (lv_osw z3 rfl) rfl))) (by decide) ?_
  refine q_iconst dX12_signOf_45 ?_
  cases E
  exact q_ireturn dX12_signOf_46 rfl hK
theorem c_X12_signOf {l : Launch} {G : mG} {v0 : Int32} {h h' : mH} {r : Int32} (E : f_X12_signOf v0 h = some (r, h')) : mMet l G m_X12_signOf 0 0 0 [.int v0] h (fun v k => v = some (.int r) ∧ h' = k) (fun _ _ => False) :=
  mMet_of (by decide +kernel) rfl (ac_c rfl ac_0) (Nat.le_of_ble_eq_true rfl) (s_X12_signOf_0 v0 h E (And.intro rfl rfl))
set_option maxRecDepth 100000 in
set_option maxHeartbeats 4000000 in
theorem s_X12_readsBehind_50 {l : Launch} {G : mG} {Q : Option Value → mH → Prop} {X : String → mH → Prop} (p0 : Nat) (h : mH) {o : Int32 × mH} (E : g_X12_readsBehind_50 p0 h = some o) (hK : (fiI Q) o) : mW l G m_X12_readsBehind 2 0 0 50 [some (.ref p0), none] [] h Q X := by
  unfold g_X12_readsBehind_50 at E
  refine q_aload_n dX12_readsBehind_50 rfl ?_
  refine q_iconst dX12_readsBehind_51 ?_
  replace E := grd_some E
  obtain ⟨g3, E⟩ := E
  replace E := cal_some E
  obtain ⟨_, h1, hc, E⟩ := E
  refine r_callV1 (mc := 0) (ms := 0) dX12_readsBehind_52 KX12_177 (c_X12_brings hc) g3 (by decide) (Nat.le_of_ble_eq_true rfl) (fun _ _ q => q.elim) ?_
  rintro _ _ ⟨rfl, rfl⟩
  clear hc
  refine q_aload_n dX12_readsBehind_55 rfl ?_
  refine q_iconst dX12_readsBehind_56 ?_
  replace E := grd_some E
  obtain ⟨g6, E⟩ := E
  replace E := cal_some E
  obtain ⟨_, h4, hc, E⟩ := E
  refine r_callV1 (mc := 0) (ms := 0) dX12_readsBehind_57 KX12_180 (c_X12_waitsFor hc) g6 (by decide) (Nat.le_of_ble_eq_true rfl) (fun _ _ q => q.elim) ?_
  rintro _ _ ⟨rfl, rfl⟩
  clear hc
  refine q_iconst dX12_readsBehind_60 ?_
  cases E
  exact q_ireturn dX12_readsBehind_61 rfl hK
set_option maxRecDepth 100000 in
set_option maxHeartbeats 4000000 in
theorem s_X12_readsBehind_126 {l : Launch} {G : mG} {Q : Option Value → mH → Prop} {X : String → mH → Prop} (h : mH) {o : Int32 × mH} (E : g_X12_readsBehind_126  h = some o) (hK : (fiI Q) o) : mW l G m_X12_readsBehind 2 0 0 126 [none, none] [] h Q X := by
  unfold g_X12_readsBehind_126 at E
  refine q_iconst dX12_readsBehind_126 ?_
  cases E
  exact q_ireturn dX12_readsBehind_127 rfl hK
set_option maxRecDepth 100000 in
set_option maxHeartbeats 4000000 in
theorem s_X12_readsBehind_27 {l : Launch} {G : mG} {Q : Option Value → mH → Prop} {X : String → mH → Prop} (p0 : Nat) (h : mH) {o : Int32 × mH} (E : g_X12_readsBehind_27 p0 h = some o) (hK : (fiI Q) o) : mW l G m_X12_readsBehind 2 0 0 27 [some (.ref p0), none] [] h Q X := by
  unfold g_X12_readsBehind_27 at E
  refine q_aload_n dX12_readsBehind_27 rfl ?_
  replace E := grd_some E
  obtain ⟨g3, E⟩ := E
  replace E := cal_some E
  obtain ⟨x2, h1, hc, E⟩ := E
  refine r_callV0 (mc := 0) (ms := 0) dX12_readsBehind_28 KX12_168 (c_X12_nextChar hc) g3 (by decide) (Nat.le_of_ble_eq_true rfl) (fun _ _ q => q.elim) ?_
  rintro _ _ ⟨rfl, rfl⟩
  clear hc
  refine q_bipush (v := (Int32.ofInt 97)) dX12_readsBehind_31 (by decide) ?_
  refine q_bipush (v := (Int32.ofInt 99)) dX12_readsBehind_33 (by decide) ?_
  replace E := cal_some E
  obtain ⟨x5, h4, hc, E⟩ := E
  refine r_callS3 (mc := 0) (ms := 0) dX12_readsBehind_35 KX12_132 (c_X12_isBetween hc) (by decide) (Nat.le_of_ble_eq_true rfl) (fun _ _ q => q.elim) ?_
  rintro _ _ ⟨rfl, rfl⟩
  clear hc
  refine q_if_ne (tgt := 50) dX12_readsBehind_38 (by decide) (fun z6 => ?_) (fun z6 => ?_)
  · replace E := ite_f E z6
    exact r_fewer [some (.ref p0), none] (ls_s (ls_n ls_0)) (s_X12_readsBehind_50 p0 h4 E hK)
  · replace E := ite_t E z6
    refine q_aload_n dX12_readsBehind_41 rfl ?_
    replace E := grd_some E
    obtain ⟨g9, E⟩ := E
    replace E := cal_some E
    obtain ⟨x8, h7, hc, E⟩ := E
    refine r_callV0 (mc := 0) (ms := 0) dX12_readsBehind_42 KX12_168 (c_X12_nextChar hc) g9 (by decide) (Nat.le_of_ble_eq_true rfl) (fun _ _ q => q.elim) ?_
    rintro _ _ ⟨rfl, rfl⟩
    clear hc
    refine q_bipush (v := (Int32.ofInt 40)) dX12_readsBehind_45 (by decide) ?_
    refine q_icmp_ne (tgt := 62) dX12_readsBehind_47 (by decide) (fun z10 => ?_) (fun z10 => ?_)
    · replace E := ite_f E z10
      refine q_aload_n dX12_readsBehind_62 rfl ?_
      refine q_bipush (v := (Int32.ofInt 124)) dX12_readsBehind_63 (by decide) ?_
      replace E := grd_some E
      obtain ⟨g13, E⟩ := E
      replace E := cal_some E
      obtain ⟨x12, h11, hc, E⟩ := E
      refine r_callV1 (mc := 0) (ms := 0) dX12_readsBehind_65 KX12_183 (c_X12_reads hc) g13 (by decide) (Nat.le_of_ble_eq_true rfl) (fun _ _ q => q.elim) ?_
      rintro _ _ ⟨rfl, rfl⟩
      clear hc
      refine q_if_eq (tgt := 83) dX12_readsBehind_68 (by decide) (fun z14 => ?_) (fun z14 => ?_)
      · replace E := ite_t E z14
        refine q_aload_n dX12_readsBehind_83 rfl ?_
        replace E := grd_some E
        obtain ⟨g15, E⟩ := E
        refine r_getI dX12_readsBehind_84 FX12_186 g15 ?_
        refine q_if_le (tgt := 126) dX12_readsBehind_87 (by decide) (fun z16 => ?_) (fun z16 => ?_)
        · replace E := ite_t E z16
          exact r_fewer [none, none] (ls_n (ls_n ls_0)) (s_X12_readsBehind_126 h11 E hK)
        · replace E := ite_f E z16
          refine q_aload_n dX12_readsBehind_90 rfl ?_
          refine q_bipush (v := (Int32.ofInt 41)) dX12_readsBehind_91 (by decide) ?_
          replace E := cal_some E
          obtain ⟨x18, h17, hc, E⟩ := E
          refine r_callV1 (mc := 0) (ms := 0) dX12_readsBehind_93 KX12_183 (c_X12_reads hc) g15 (by decide) (Nat.le_of_ble_eq_true rfl) (fun _ _ q => q.elim) ?_
          rintro _ _ ⟨rfl, rfl⟩
          clear hc
          refine q_if_eq (tgt := 126) dX12_readsBehind_96 (by decide) (fun z19 => ?_) (fun z19 => ?_)
          · replace E := ite_t E z19
            exact r_fewer [none, none] (ls_n (ls_n ls_0)) (s_X12_readsBehind_126 h17 E hK)
          · replace E := ite_f E z19
            refine q_aload_n dX12_readsBehind_99 rfl ?_
            refine q_iconst dX12_readsBehind_100 ?_
            replace E := grd_some E
            obtain ⟨g22, E⟩ := E
            replace E := cal_some E
            obtain ⟨_, h20, hc, E⟩ := E
            refine r_callV1 (mc := 0) (ms := 0) dX12_readsBehind_101 KX12_177 (c_X12_brings hc) g22 (by decide) (Nat.le_of_ble_eq_true rfl) (fun _ _ q => q.elim) ?_
            rintro _ _ ⟨rfl, rfl⟩
            clear hc
            refine q_aload_n dX12_readsBehind_104 rfl ?_
            refine q_dup dX12_readsBehind_105 ?_
            replace E := grd_some E
            obtain ⟨g23, E⟩ := E
            refine r_getI dX12_readsBehind_106 FX12_171 g23 ?_
            refine q_iconst dX12_readsBehind_109 ?_
            refine q_isub dX12_readsBehind_110 ?_
            replace E := bnd_x E
            obtain ⟨h24, eh24, E⟩ := E
            refine r_putI (hh := eh24) dX12_readsBehind_111 FX12_171 g23 rfl rfl ?_
            refine q_aload_n dX12_readsBehind_114 rfl ?_
            refine q_dup dX12_readsBehind_115 ?_
            replace E := grd_some E
            obtain ⟨g25, E⟩ := E
            refine r_getI dX12_readsBehind_116 FX12_186 g25 ?_
            refine q_iconst dX12_readsBehind_119 ?_
            refine q_isub dX12_readsBehind_120 ?_
            replace E := bnd_x E
            obtain ⟨h26, eh26, E⟩ := E
            refine r_putI (hh := eh26) dX12_readsBehind_121 FX12_186 g25 rfl rfl ?_
            refine q_iconst dX12_readsBehind_124 ?_
            cases E
            exact q_ireturn dX12_readsBehind_125 rfl hK
      · replace E := ite_f E z14
        refine q_aload_n dX12_readsBehind_71 rfl ?_
        refine q_iconst dX12_readsBehind_72 ?_
        replace E := grd_some E
        obtain ⟨g29, E⟩ := E
        replace E := cal_some E
        obtain ⟨_, h27, hc, E⟩ := E
        refine r_callV1 (mc := 0) (ms := 0) dX12_readsBehind_73 KX12_177 (c_X12_brings hc) g29 (by decide) (Nat.le_of_ble_eq_true rfl) (fun _ _ q => q.elim) ?_
        rintro _ _ ⟨rfl, rfl⟩
        clear hc
        refine q_aload_n dX12_readsBehind_76 rfl ?_
        refine q_iconst dX12_readsBehind_77 ?_
        replace E := grd_some E
        obtain ⟨g32, E⟩ := E
        replace E := cal_some E
        obtain ⟨_, h30, hc, E⟩ := E
        refine r_callV1 (mc := 0) (ms := 0) dX12_readsBehind_78 KX12_180 (c_X12_waitsFor hc) g32 (by decide) (Nat.le_of_ble_eq_true rfl) (fun _ _ q => q.elim) ?_
        rintro _ _ ⟨rfl, rfl⟩
        clear hc
        refine q_iconst dX12_readsBehind_81 ?_
        cases E
        exact q_ireturn dX12_readsBehind_82 rfl hK
    · replace E := ite_t E z10
      exact r_fewer [some (.ref p0), none] (ls_s (ls_n ls_0)) (s_X12_readsBehind_50 p0 h7 E hK)
set_option maxRecDepth 100000 in
set_option maxHeartbeats 4000000 in
theorem s_X12_readsBehind_0 {l : Launch} {G : mG} {Q : Option Value → mH → Prop} {X : String → mH → Prop} (p0 : Nat) (h : mH) {o : Int32 × mH} (E : f_X12_readsBehind p0 h = some o) (hK : (fiI Q) o) : mW l G m_X12_readsBehind 2 0 0 0 [some (.ref p0), none] [] h Q X := by
  unfold f_X12_readsBehind at E
  refine q_aload_n dX12_readsBehind_0 rfl ?_
  replace E := grd_some E
  obtain ⟨g3, E⟩ := E
  replace E := cal_some E
  obtain ⟨x2, h1, hc, E⟩ := E
  refine r_callV0 (mc := 0) (ms := 0) dX12_readsBehind_1 KX12_168 (c_X12_nextChar hc) g3 (by decide) (Nat.le_of_ble_eq_true rfl) (fun _ _ q => q.elim) ?_
  rintro _ _ ⟨rfl, rfl⟩
  clear hc
  replace E := cal_some E
  obtain ⟨x5, h4, hc, E⟩ := E
  refine r_callS1 (mc := 0) (ms := 0) dX12_readsBehind_4 KX12_174 (c_X12_signOf hc) (by decide) (Nat.le_of_ble_eq_true rfl) (fun _ _ q => q.elim) ?_
  rintro _ _ ⟨rfl, rfl⟩
  clear hc
  refine r_istore_n dX12_readsBehind_7 (by decide) rfl (ls' := [some (.ref p0), some (.int x5)]) rfl ?_
  refine q_iload_n dX12_readsBehind_8 rfl ?_
  refine q_if_le (tgt := 27) dX12_readsBehind_9 (by decide) (fun z6 => ?_) (fun z6 => ?_)
  · replace E := ite_t E z6
    exact r_fewer [some (.ref p0), none] (ls_s (ls_n ls_0)) (s_X12_readsBehind_27 p0 h4 E hK)
  · replace E := ite_f E z6
    refine q_aload_n dX12_readsBehind_12 rfl ?_
    refine q_dup dX12_readsBehind_13 ?_
    replace E := grd_some E
    obtain ⟨g7, E⟩ := E
    refine r_getI dX12_readsBehind_14 FX12_162 g7 ?_
    refine q_iconst dX12_readsBehind_17 ?_
    refine q_iadd dX12_readsBehind_18 ?_
    replace E := bnd_x E
    obtain ⟨h8, eh8, E⟩ := E
    refine r_putI (hh := eh8) dX12_readsBehind_19 FX12_162 g7 rfl rfl ?_
    refine q_aload_n dX12_readsBehind_22 rfl ?_
    refine q_iload_n dX12_readsBehind_23 rfl ?_
    replace E := grd_some E
    obtain ⟨g11, E⟩ := E
    replace E := cal_some E
    obtain ⟨_, h9, hc, E⟩ := E
    refine r_callV1 (mc := 0) (ms := 0) dX12_readsBehind_24 KX12_151 (c_X12_adds hc) g11 (by decide) (Nat.le_of_ble_eq_true rfl) (fun _ _ q => q.elim) ?_
    rintro _ _ ⟨rfl, rfl⟩
    clear hc
    exact r_fewer [some (.ref p0), none] (ls_s (ls_n ls_0)) (s_X12_readsBehind_27 p0 h9 E hK)
theorem c_X12_readsBehind {l : Launch} {G : mG} {p0 : Nat} {h h' : mH} {r : Int32} (E : f_X12_readsBehind p0 h = some (r, h')) : mMet l G m_X12_readsBehind 2 0 0 [.ref p0] h (fun v k => v = some (.int r) ∧ h' = k) (fun _ _ => False) :=
  mMet_of (by decide +kernel) rfl (ac_c rfl ac_0) (Nat.le_of_ble_eq_true rfl) (s_X12_readsBehind_0 p0 h E (And.intro rfl rfl))
set_option maxRecDepth 100000 in
set_option maxHeartbeats 4000000 in
theorem s_X12_readsPattern_54 {l : Launch} {G : mG} {Q : Option Value → mH → Prop} {X : String → mH → Prop} (p0 : Nat) (v1 : Int32) (h : mH) {o : ((Int32 × mH) ⊕ (Int32 × mH))} (E : g_X12_readsPattern_54 p0 v1 h = some o) (hK : (lpK (w_X12_readsPattern_17 l G Q X p0) (fiI Q)) o) : mW l G m_X12_readsPattern 3 0 0 54 [some (.ref p0), some (.int v1)] [] h Q X := by
  unfold g_X12_readsPattern_54 at E
  refine q_iload_n dX12_readsPattern_54 rfl ?_
  refine q_iconst dX12_readsPattern_55 ?_
  refine q_icmp_ne (tgt := 76) dX12_readsPattern_56 (by decide) (fun z1 => ?_) (fun z1 => ?_)
  · replace E := ite_f E z1
    refine q_aload_n dX12_readsPattern_76 rfl ?_
    replace E := grd_some E
    obtain ⟨g4, E⟩ := E
    replace E := cal_some E
    obtain ⟨x3, h2, hc, E⟩ := E
    refine r_callV0 (mc := 0) (ms := 0) dX12_readsPattern_77 KX12_193 (c_X12_readsBehind hc) g4 (by decide) (Nat.le_of_ble_eq_true rfl) (fun _ _ q => q.elim) ?_
    rintro _ _ ⟨rfl, rfl⟩
    clear hc
    refine r_istore_n dX12_readsPattern_80 (by decide) rfl (ls' := [some (.ref p0), some (.int x3)]) rfl ?_
    refine q_goto (tgt := 17) dX12_readsPattern_81 (by decide) ?_
    cases E
    exact r_fewer [some (.ref p0), some (.int x3)] (ls_s (ls_s ls_0)) hK
  · replace E := ite_t E z1
    refine q_aload_n dX12_readsPattern_59 rfl ?_
    replace E := grd_some E
    obtain ⟨g7, E⟩ := E
    replace E := cal_some E
    obtain ⟨x6, h5, hc, E⟩ := E
    refine r_callV0 (mc := 0) (ms := 0) dX12_readsPattern_60 KX12_189 (c_X12_readsLetter hc) g7 (by decide) (Nat.le_of_ble_eq_true rfl) (fun _ _ q => q.elim) ?_
    rintro _ _ ⟨rfl, rfl⟩
    clear hc
    refine q_if_ne (tgt := 68) dX12_readsPattern_63 (by decide) (fun z8 => ?_) (fun z8 => ?_)
    · replace E := ite_f E z8
      refine q_aload_n dX12_readsPattern_68 rfl ?_
      replace E := grd_some E
      obtain ⟨g11, E⟩ := E
      replace E := cal_some E
      obtain ⟨x10, h9, hc, E⟩ := E
      refine r_callV0 (mc := 0) (ms := 0) dX12_readsPattern_69 KX12_193 (c_X12_readsBehind hc) g11 (by decide) (Nat.le_of_ble_eq_true rfl) (fun _ _ q => q.elim) ?_
      rintro _ _ ⟨rfl, rfl⟩
      clear hc
      refine r_istore_n dX12_readsPattern_72 (by decide) rfl (ls' := [some (.ref p0), some (.int x10)]) rfl ?_
      refine q_goto (tgt := 17) dX12_readsPattern_73 (by decide) ?_
      cases E
      exact r_fewer [some (.ref p0), some (.int x10)] (ls_s (ls_s ls_0)) hK
    · replace E := ite_t E z8
      refine q_iconst dX12_readsPattern_66 ?_
      cases E
      exact q_zreturn dX12_readsPattern_67 rfl (by decide) hK
set_option maxRecDepth 100000 in
set_option maxHeartbeats 4000000 in
theorem sb_X12_readsPattern_17 {l : Launch} {G : mG} {Q : Option Value → mH → Prop} {X : String → mH → Prop} (p0 : Nat) (v1 : Int32) (h : mH) {o : ((Int32 × mH) ⊕ (Int32 × mH))} (E : b0_X12_readsPattern_17 p0 v1 h = some o) (hK : (lpK (w_X12_readsPattern_17 l G Q X p0) (fiI Q)) o) : mW l G m_X12_readsPattern 3 0 0 17 [some (.ref p0), some (.int v1)] [] h Q X := by
  unfold b0_X12_readsPattern_17 at E
  refine q_iload_n dX12_readsPattern_17 rfl ?_
  refine q_if_le (tgt := 84) dX12_readsPattern_18 (by decide) (fun z1 => ?_) (fun z1 => ?_)
  · replace E := ite_t E z1
    refine q_aload_n dX12_readsPattern_84 rfl ?_
    replace E := grd_some E
    obtain ⟨g2, E⟩ := E
    refine r_getI dX12_readsPattern_85 FX12_186 g2 ?_
    refine q_if_le (tgt := 93) dX12_readsPattern_88 (by decide) (fun z3 => ?_) (fun z3 => ?_)
    · replace E := ite_t E z3
      refine q_aload_n dX12_readsPattern_93 rfl ?_
      refine q_iconst dX12_readsPattern_94 ?_
      replace E := cal_some E
      obtain ⟨_, h4, hc, E⟩ := E
      refine r_callV1 (mc := 0) (ms := 0) dX12_readsPattern_95 KX12_177 (c_X12_brings hc) g2 (by decide) (Nat.le_of_ble_eq_true rfl) (fun _ _ q => q.elim) ?_
      rintro _ _ ⟨rfl, rfl⟩
      clear hc
      refine q_iconst dX12_readsPattern_98 ?_
      cases E
      exact q_zreturn dX12_readsPattern_99 rfl (by decide) hK
    · replace E := ite_f E z3
      refine q_iconst dX12_readsPattern_91 ?_
      cases E
      exact q_zreturn dX12_readsPattern_92 rfl (by decide) hK
  · replace E := ite_f E z1
    refine q_iload_n dX12_readsPattern_21 rfl ?_
    refine q_iconst dX12_readsPattern_22 ?_
    refine q_icmp_ne (tgt := 54) dX12_readsPattern_23 (by decide) (fun z6 => ?_) (fun z6 => ?_)
    · replace E := ite_f E z6
      exact r_fewer [some (.ref p0), some (.int v1)] (ls_s (ls_s ls_0)) (s_X12_readsPattern_54 p0 v1 h E hK)
    · replace E := ite_t E z6
      refine q_aload_n dX12_readsPattern_26 rfl ?_
      refine q_bipush (v := (Int32.ofInt 40)) dX12_readsPattern_27 (by decide) ?_
      replace E := grd_some E
      obtain ⟨g9, E⟩ := E
      replace E := cal_some E
      obtain ⟨x8, h7, hc, E⟩ := E
      refine r_callV1 (mc := 0) (ms := 0) dX12_readsPattern_29 KX12_183 (c_X12_reads hc) g9 (by decide) (Nat.le_of_ble_eq_true rfl) (fun _ _ q => q.elim) ?_
      rintro _ _ ⟨rfl, rfl⟩
      clear hc
      refine q_if_eq (tgt := 54) dX12_readsPattern_32 (by decide) (fun z10 => ?_) (fun z10 => ?_)
      · replace E := ite_t E z10
        exact r_fewer [some (.ref p0), some (.int v1)] (ls_s (ls_s ls_0)) (s_X12_readsPattern_54 p0 v1 h7 E hK)
      · replace E := ite_f E z10
        refine q_aload_n dX12_readsPattern_35 rfl ?_
        refine q_bipush (v := (Int32.ofInt 9)) dX12_readsPattern_36 (by decide) ?_
        replace E := grd_some E
        obtain ⟨g13, E⟩ := E
        replace E := cal_some E
        obtain ⟨_, h11, hc, E⟩ := E
        refine r_callV1 (mc := 0) (ms := 0) dX12_readsPattern_38 KX12_180 (c_X12_waitsFor hc) g13 (by decide) (Nat.le_of_ble_eq_true rfl) (fun _ _ q => q.elim) ?_
        rintro _ _ ⟨rfl, rfl⟩
        clear hc
        refine q_aload_n dX12_readsPattern_41 rfl ?_
        refine q_dup dX12_readsPattern_42 ?_
        replace E := grd_some E
        obtain ⟨g14, E⟩ := E
        refine r_getI dX12_readsPattern_43 FX12_186 g14 ?_
        refine q_iconst dX12_readsPattern_46 ?_
        refine q_iadd dX12_readsPattern_47 ?_
        replace E := bnd_x E
        obtain ⟨h15, eh15, E⟩ := E
        refine r_putI (hh := eh15) dX12_readsPattern_48 FX12_186 g14 rfl rfl ?_
        refine q_goto (tgt := 17) dX12_readsPattern_51 (by decide) ?_
        cases E
        exact r_fewer [some (.ref p0), some (.int v1)] (ls_s (ls_s ls_0)) hK
theorem s_X12_readsPattern_17 {l : Launch} {G : mG} {Q : Option Value → mH → Prop} {X : String → mH → Prop} (p0 : Nat) (v1 : Int32) (h : mH) {o : Int32 × mH} (E : g_X12_readsPattern_17 p0 v1 h = some o) (hK : (fiI Q) o) : mW l G m_X12_readsPattern 3 0 0 17 [some (.ref p0), some (.int v1)] [] h Q X :=
  (lp_go (w_X12_readsPattern_17 l G Q X p0) (fiI Q) (b_X12_readsPattern_17 p0) (fun s o E hK => sb_X12_readsPattern_17 p0 s.1 (s.2) E hK) _ _ _ E hK : w_X12_readsPattern_17 l G Q X p0 (v1, h))
set_option maxRecDepth 100000 in
set_option maxHeartbeats 4000000 in
theorem s_X12_readsPattern_0 {l : Launch} {G : mG} {Q : Option Value → mH → Prop} {X : String → mH → Prop} (p0 : Nat) (h : mH) {o : Int32 × mH} (E : f_X12_readsPattern p0 h = some o) (hK : (fiI Q) o) : mW l G m_X12_readsPattern 3 0 0 0 [some (.ref p0), none] [] h Q X := by
  unfold f_X12_readsPattern at E
  refine q_aload_n dX12_readsPattern_0 rfl ?_
  refine q_iconst dX12_readsPattern_1 ?_
  replace E := grd_some E
  obtain ⟨g1, E⟩ := E
  replace E := bnd_x E
  obtain ⟨h2, eh2, E⟩ := E
  refine r_putI (hh := eh2) dX12_readsPattern_2 FX12_144 g1 rfl rfl ?_
  refine q_aload_n dX12_readsPattern_5 rfl ?_
  refine q_iconst dX12_readsPattern_6 ?_
  replace E := grd_some E
  obtain ⟨g3, E⟩ := E
  replace E := bnd_x E
  obtain ⟨h4, eh4, E⟩ := E
  refine r_putI (hh := eh4) dX12_readsPattern_7 FX12_171 g3 rfl rfl ?_
  refine q_aload_n dX12_readsPattern_10 rfl ?_
  refine q_iconst dX12_readsPattern_11 ?_
  replace E := grd_some E
  obtain ⟨g5, E⟩ := E
  replace E := bnd_x E
  obtain ⟨h6, eh6, E⟩ := E
  refine r_putI (hh := eh6) dX12_readsPattern_12 FX12_186 g5 rfl rfl ?_
  refine q_iconst dX12_readsPattern_15 ?_
  refine r_istore_n dX12_readsPattern_16 (by decide) rfl (ls' := [some (.ref p0), some (.int (Int32.ofInt 1))]) rfl ?_
  exact r_fewer [some (.ref p0), some (.int (Int32.ofInt 1))] (ls_s (ls_s ls_0)) (s_X12_readsPattern_17 p0 (Int32.ofInt 1) h6 E hK)
theorem c_X12_readsPattern {l : Launch} {G : mG} {p0 : Nat} {h h' : mH} {r : Int32} (E : f_X12_readsPattern p0 h = some (r, h')) : mMet l G m_X12_readsPattern 3 0 0 [.ref p0] h (fun v k => v = some (.int r) ∧ h' = k) (fun _ _ => False) :=
  mMet_of (by decide +kernel) rfl (ac_c rfl ac_0) (Nat.le_of_ble_eq_true rfl) (s_X12_readsPattern_0 p0 h E (And.intro rfl rfl))
set_option maxRecDepth 100000 in
set_option maxHeartbeats 4000000 in
theorem s_X12_define_46 {l : Launch} {G : mG} {Q : Option Value → mH → Prop} {X : String → mH → Prop} (p0 : Nat) (v1 : Int32) (s0 : Int32) (h : mH) {o : Int32 × mH} (E : g_X12_define_46 p0 v1 s0 h = some o) (hK : (fiI Q) o) : mW l G m_X12_define 4 0 0 46 [some (.ref p0), some (.int v1), none] [.int s0] h Q X := by
  unfold g_X12_define_46 at E
  refine r_istore_n dX12_define_46 (by decide) rfl (ls' := [some (.ref p0), some (.int v1), some (.int s0)]) rfl ?_
  refine q_aload_n dX12_define_47 rfl ?_
  refine q_iconst dX12_define_48 ?_
  replace E := grd_some E
  obtain ⟨g1, E⟩ := E
  replace E := bnd_x E
  obtain ⟨h2, eh2, E⟩ := E
  refine r_putI (hh := eh2) dX12_define_49 FX12_165 g1 rfl rfl ?_
  refine q_iload_n dX12_define_52 rfl ?_
  refine q_if_ne (tgt := 70) dX12_define_53 (by decide) (fun z3 => ?_) (fun z3 => ?_)
  · replace E := ite_f E z3
    refine q_aload_n dX12_define_70 rfl ?_
    replace E := grd_some E
    obtain ⟨g6, E⟩ := E
    replace E := cal_some E
    obtain ⟨x5, h4, hc, E⟩ := E
    refine r_callV0 (mc := 0) (ms := 0) dX12_define_71 KX12_202 (c_X12_isTooLarge hc) g6 (by decide) (Nat.le_of_ble_eq_true rfl) (fun _ _ q => q.elim) ?_
    rintro _ _ ⟨rfl, rfl⟩
    clear hc
    refine q_if_eq (tgt := 83) dX12_define_74 (by decide) (fun z7 => ?_) (fun z7 => ?_)
    · replace E := ite_t E z7
      refine q_aload_n dX12_define_83 rfl ?_
      replace E := grd_some E
      obtain ⟨g10, E⟩ := E
      replace E := cal_some E
      obtain ⟨_, h8, hc, E⟩ := E
      refine r_callV0 (mc := 0) (ms := 0) dX12_define_84 KX12_205 (c_X12_remembers hc) g10 (by decide) (Nat.le_of_ble_eq_true rfl) (fun _ _ q => q.elim) ?_
      rintro _ _ ⟨rfl, rfl⟩
      clear hc
      refine q_aload_n dX12_define_87 rfl ?_
      refine q_iload_n dX12_define_88 rfl ?_
      replace E := grd_some E
      obtain ⟨g13, E⟩ := E
      replace E := cal_some E
      obtain ⟨x12, h11, hc, E⟩ := E
      refine r_callV1 (mc := 0) (ms := 0) dX12_define_89 KX12_208 (c_X12_lays hc) g13 (by decide) (Nat.le_of_ble_eq_true rfl) (fun _ _ q => q.elim) ?_
      rintro _ _ ⟨rfl, rfl⟩
      clear hc
      cases E
      exact q_ireturn dX12_define_92 rfl hK
    · replace E := ite_f E z7
      refine q_aload_n dX12_define_77 rfl ?_
      refine q_iconst dX12_define_78 ?_
      replace E := grd_some E
      obtain ⟨g16, E⟩ := E
      replace E := cal_some E
      obtain ⟨x15, h14, hc, E⟩ := E
      refine r_callV1 (mc := 0) (ms := 0) dX12_define_79 KX12_196 (c_X12_fails hc) g16 (by decide) (Nat.le_of_ble_eq_true rfl) (fun _ _ q => q.elim) ?_
      rintro _ _ ⟨rfl, rfl⟩
      clear hc
      cases E
      exact q_ireturn dX12_define_82 rfl hK
  · replace E := ite_t E z3
    refine q_aload_n dX12_define_56 rfl ?_
    refine q_aload_n dX12_define_57 rfl ?_
    replace E := grd_some E
    obtain ⟨g17, E⟩ := E
    refine r_getI dX12_define_58 FX12_162 g17 ?_
    replace E := bnd_x E
    obtain ⟨h18, eh18, E⟩ := E
    refine r_putI (hh := eh18) dX12_define_61 FX12_29 g17 rfl rfl ?_
    refine q_aload_n dX12_define_64 rfl ?_
    refine q_iconst dX12_define_65 ?_
    replace E := grd_some E
    obtain ⟨g21, E⟩ := E
    replace E := cal_some E
    obtain ⟨x20, h19, hc, E⟩ := E
    refine r_callV1 (mc := 0) (ms := 0) dX12_define_66 KX12_196 (c_X12_fails hc) g21 (by decide) (Nat.le_of_ble_eq_true rfl) (fun _ _ q => q.elim) ?_
    rintro _ _ ⟨rfl, rfl⟩
    clear hc
    cases E
    exact q_ireturn dX12_define_69 rfl hK
set_option maxRecDepth 100000 in
set_option maxHeartbeats 4000000 in
theorem s_X12_define_45 {l : Launch} {G : mG} {Q : Option Value → mH → Prop} {X : String → mH → Prop} (p0 : Nat) (v1 : Int32) (h : mH) {o : Int32 × mH} (E : g_X12_define_45 p0 v1 h = some o) (hK : (fiI Q) o) : mW l G m_X12_define 4 0 0 45 [some (.ref p0), some (.int v1), none] [] h Q X := by
  unfold g_X12_define_45 at E
  refine q_iconst dX12_define_45 ?_
  exact r_fewer [some (.ref p0), some (.int v1), none] (ls_s (ls_s (ls_n ls_0))) (s_X12_define_46 p0 v1 (Int32.ofInt 0) h E hK)
set_option maxRecDepth 100000 in
set_option maxHeartbeats 4000000 in
theorem s_X12_define_0 {l : Launch} {G : mG} {Q : Option Value → mH → Prop} {X : String → mH → Prop} (p0 : Nat) (v1 : Int32) (h : mH) {o : Int32 × mH} (E : f_X12_define p0 v1 h = some o) (hK : (fiI Q) o) : mW l G m_X12_define 4 0 0 0 [some (.ref p0), some (.int v1), none] [] h Q X := by
  unfold f_X12_define at E
  refine q_aload_n dX12_define_0 rfl ?_
  refine q_iconst dX12_define_1 ?_
  replace E := grd_some E
  obtain ⟨g1, E⟩ := E
  replace E := bnd_x E
  obtain ⟨h2, eh2, E⟩ := E
  refine r_putI (hh := eh2) dX12_define_2 FX12_117 g1 rfl rfl ?_
  refine q_iload_n dX12_define_5 rfl ?_
  replace E := cal_some E
  obtain ⟨x4, h3, hc, E⟩ := E
  refine r_callS1 (mc := 0) (ms := 0) dX12_define_6 KX12_136 (c_X12_isSlot hc) (by decide) (Nat.le_of_ble_eq_true rfl) (fun _ _ q => q.elim) ?_
  rintro _ _ ⟨rfl, rfl⟩
  clear hc
  refine q_if_ne (tgt := 18) dX12_define_9 (by decide) (fun z5 => ?_) (fun z5 => ?_)
  · replace E := ite_f E z5
    refine q_aload_n dX12_define_18 rfl ?_
    refine q_iconst dX12_define_19 ?_
    replace E := grd_some E
    obtain ⟨g6, E⟩ := E
    replace E := bnd_x E
    obtain ⟨h7, eh7, E⟩ := E
    refine r_putI (hh := eh7) dX12_define_20 FX12_162 g6 rfl rfl ?_
    refine q_aload_n dX12_define_23 rfl ?_
    replace E := grd_some E
    obtain ⟨g10, E⟩ := E
    replace E := cal_some E
    obtain ⟨x9, h8, hc, E⟩ := E
    refine r_callV0 (mc := 0) (ms := 0) dX12_define_24 KX12_199 (c_X12_readsPattern hc) g10 (by decide) (Nat.le_of_ble_eq_true rfl) (fun _ _ q => q.elim) ?_
    rintro _ _ ⟨rfl, rfl⟩
    clear hc
    refine q_if_eq (tgt := 45) dX12_define_27 (by decide) (fun z11 => ?_) (fun z11 => ?_)
    · replace E := ite_t E z11
      exact r_fewer [some (.ref p0), some (.int v1), none] (ls_s (ls_s (ls_n ls_0))) (s_X12_define_45 p0 v1 h8 E hK)
    · replace E := ite_f E z11
      refine q_aload_n dX12_define_30 rfl ?_
      replace E := grd_some E
      obtain ⟨g12, E⟩ := E
      refine r_getI dX12_define_31 FX12_162 g12 ?_
      refine q_aload_n dX12_define_34 rfl ?_
      refine r_getI dX12_define_35 FX12_165 g12 ?_
      refine q_icmp_ne (tgt := 45) dX12_define_38 (by decide) (fun z13 => ?_) (fun z13 => ?_)
      · replace E := ite_f E z13
        exact r_fewer [some (.ref p0), some (.int v1), none] (ls_s (ls_s (ls_n ls_0))) (s_X12_define_45 p0 v1 h8 E hK)
      · replace E := ite_t E z13
        refine q_iconst dX12_define_41 ?_
        refine q_goto (tgt := 46) dX12_define_42 (by decide) ?_
        exact r_fewer [some (.ref p0), some (.int v1), none] (ls_s (ls_s (ls_n ls_0))) (s_X12_define_46 p0 v1 (Int32.ofInt 1) h8 E hK)
  · replace E := ite_t E z5
    refine q_aload_n dX12_define_12 rfl ?_
    refine q_iconst dX12_define_13 ?_
    replace E := grd_some E
    obtain ⟨g16, E⟩ := E
    replace E := cal_some E
    obtain ⟨x15, h14, hc, E⟩ := E
    refine r_callV1 (mc := 0) (ms := 0) dX12_define_14 KX12_196 (c_X12_fails hc) g16 (by decide) (Nat.le_of_ble_eq_true rfl) (fun _ _ q => q.elim) ?_
    rintro _ _ ⟨rfl, rfl⟩
    clear hc
    cases E
    exact q_ireturn dX12_define_17 rfl hK
theorem c_X12_define {l : Launch} {G : mG} {p0 : Nat} {v1 : Int32} {h h' : mH} {r : Int32} (E : f_X12_define p0 v1 h = some (r, h')) : mMet l G m_X12_define 4 0 0 [.ref p0, .int v1] h (fun v k => v = some (.int r) ∧ h' = k) (fun _ _ => False) :=
  mMet_of (by decide +kernel) rfl (ac_c rfl (ac_c rfl ac_0)) (Nat.le_of_ble_eq_true rfl) (s_X12_define_0 p0 v1 h E (And.intro rfl rfl))
set_option maxRecDepth 100000 in
set_option maxHeartbeats 4000000 in
theorem s_X12_notTwo_21 {l : Launch} {G : mG} {Q : Option Value → mH → Prop} {X : String → mH → Prop} (h : mH) {o : Int32 × mH} (E : g_X12_notTwo_21  h = some o) (hK : (fiI Q) o) : mW l G m_X12_notTwo 3 0 0 21 [none, none, none, none, none] [] h Q X := by
  unfold g_X12_notTwo_21 at E
  refine q_iconst dX12_notTwo_21 ?_
  cases E
  exact q_ireturn dX12_notTwo_22 rfl hK
set_option maxRecDepth 100000 in
set_option maxHeartbeats 4000000 in
theorem s_X12_notTwo_39 {l : Launch} {G : mG} {Q : Option Value → mH → Prop} {X : String → mH → Prop} (h : mH) {o : Int32 × mH} (E : g_X12_notTwo_39  h = some o) (hK : (fiI Q) o) : mW l G m_X12_notTwo 3 0 0 39 [none, none, none, none, none] [] h Q X := by
  unfold g_X12_notTwo_39 at E
  refine q_iconst dX12_notTwo_39 ?_
  cases E
  exact q_ireturn dX12_notTwo_40 rfl hK
set_option maxRecDepth 100000 in
set_option maxHeartbeats 4000000 in
theorem s_X12_notTwo_74 {l : Launch} {G : mG} {Q : Option Value → mH → Prop} {X : String → mH → Prop} (s0 : Int32) (h : mH) {o : Int32 × mH} (E : g_X12_notTwo_74 s0 h = some o) (hK : (fiI Q) o) : mW l G m_X12_notTwo 3 0 0 74 [none, none, none, none, none] [.int s0] h Q X := by
  unfold g_X12_notTwo_74 at E
  cases E
  exact q_ireturn dX12_notTwo_74 rfl hK
set_option maxRecDepth 100000 in
set_option maxHeartbeats 4000000 in
theorem s_X12_notTwo_0 {l : Launch} {G : mG} {Q : Option Value → mH → Prop} {X : String → mH → Prop} (p0 : Nat) (v1 : Int32) (v2 : Int32) (v3 : Int32) (v4 : Int32) (h : mH) {o : Int32 × mH} (E : f_X12_notTwo p0 v1 v2 v3 v4 h = some o) (hK : (fiI Q) o) : mW l G m_X12_notTwo 3 0 0 0 [some (.ref p0), some (.int v1), some (.int v2), some (.int v3), some (.int v4)] [] h Q X := by
  unfold f_X12_notTwo at E
  refine q_iload_n dX12_notTwo_0 rfl ?_
  replace E := cal_some E
  obtain ⟨x2, h1, hc, E⟩ := E
  refine r_callS1 (mc := 0) (ms := 0) dX12_notTwo_1 KX12_136 (c_X12_isSlot hc) (by decide) (Nat.le_of_ble_eq_true rfl) (fun _ _ q => q.elim) ?_
  rintro _ _ ⟨rfl, rfl⟩
  clear hc
  refine q_if_eq (tgt := 21) dX12_notTwo_4 (by decide) (fun z3 => ?_) (fun z3 => ?_)
  · replace E := ite_t E z3
    exact r_fewer [none, none, none, none, none] (ls_n (ls_n (ls_n (ls_n (ls_n ls_0))))) (s_X12_notTwo_21 h1 E hK)
  · replace E := ite_f E z3
    refine q_iload_n dX12_notTwo_7 rfl ?_
    replace E := cal_some E
    obtain ⟨x5, h4, hc, E⟩ := E
    refine r_callS1 (mc := 0) (ms := 0) dX12_notTwo_8 KX12_136 (c_X12_isSlot hc) (by decide) (Nat.le_of_ble_eq_true rfl) (fun _ _ q => q.elim) ?_
    rintro _ _ ⟨rfl, rfl⟩
    clear hc
    refine q_if_eq (tgt := 21) dX12_notTwo_11 (by decide) (fun z6 => ?_) (fun z6 => ?_)
    · replace E := ite_t E z6
      exact r_fewer [none, none, none, none, none] (ls_n (ls_n (ls_n (ls_n (ls_n ls_0))))) (s_X12_notTwo_21 h4 E hK)
    · replace E := ite_f E z6
      refine q_iload_n dX12_notTwo_14 rfl ?_
      replace E := cal_some E
      obtain ⟨x8, h7, hc, E⟩ := E
      refine r_callS1 (mc := 0) (ms := 0) dX12_notTwo_15 KX12_136 (c_X12_isSlot hc) (by decide) (Nat.le_of_ble_eq_true rfl) (fun _ _ q => q.elim) ?_
      rintro _ _ ⟨rfl, rfl⟩
      clear hc
      refine q_if_ne (tgt := 23) dX12_notTwo_18 (by decide) (fun z9 => ?_) (fun z9 => ?_)
      · replace E := ite_f E z9
        refine q_aload_n dX12_notTwo_23 rfl ?_
        refine q_iload_n dX12_notTwo_24 rfl ?_
        replace E := grd_some E
        obtain ⟨g12, E⟩ := E
        replace E := cal_some E
        obtain ⟨x11, h10, hc, E⟩ := E
        refine r_callV1 (mc := 0) (ms := 0) dX12_notTwo_25 KX12_211 (c_X12_holds hc) g12 (by decide) (Nat.le_of_ble_eq_true rfl) (fun _ _ q => q.elim) ?_
        rintro _ _ ⟨rfl, rfl⟩
        clear hc
        refine q_if_eq (tgt := 39) dX12_notTwo_28 (by decide) (fun z13 => ?_) (fun z13 => ?_)
        · replace E := ite_t E z13
          exact r_fewer [none, none, none, none, none] (ls_n (ls_n (ls_n (ls_n (ls_n ls_0))))) (s_X12_notTwo_39 h10 E hK)
        · replace E := ite_f E z13
          refine q_aload_n dX12_notTwo_31 rfl ?_
          refine q_iload_n dX12_notTwo_32 rfl ?_
          replace E := grd_some E
          obtain ⟨g16, E⟩ := E
          replace E := cal_some E
          obtain ⟨x15, h14, hc, E⟩ := E
          refine r_callV1 (mc := 0) (ms := 0) dX12_notTwo_33 KX12_211 (c_X12_holds hc) g16 (by decide) (Nat.le_of_ble_eq_true rfl) (fun _ _ q => q.elim) ?_
          rintro _ _ ⟨rfl, rfl⟩
          clear hc
          refine q_if_ne (tgt := 41) dX12_notTwo_36 (by decide) (fun z17 => ?_) (fun z17 => ?_)
          · replace E := ite_f E z17
            refine q_aload_n dX12_notTwo_41 rfl ?_
            refine q_iconst dX12_notTwo_42 ?_
            replace E := grd_some E
            obtain ⟨g18, E⟩ := E
            replace E := bnd_x E
            obtain ⟨h19, eh19, E⟩ := E
            refine r_putI (hh := eh19) dX12_notTwo_43 FX12_144 g18 rfl rfl ?_
            refine q_aload_n dX12_notTwo_46 rfl ?_
            refine q_iload_n dX12_notTwo_47 rfl ?_
            replace E := grd_some E
            obtain ⟨g22, E⟩ := E
            replace E := cal_some E
            obtain ⟨_, h20, hc, E⟩ := E
            refine r_callV1 (mc := 0) (ms := 0) dX12_notTwo_48 KX12_214 (c_X12_copiesSlot hc) g22 (by decide) (Nat.le_of_ble_eq_true rfl) (fun _ _ q => q.elim) ?_
            rintro _ _ ⟨rfl, rfl⟩
            clear hc
            refine q_aload_n dX12_notTwo_51 rfl ?_
            refine q_iload_n dX12_notTwo_52 rfl ?_
            replace E := grd_some E
            obtain ⟨g25, E⟩ := E
            replace E := cal_some E
            obtain ⟨_, h23, hc, E⟩ := E
            refine r_callV1 (mc := 0) (ms := 0) dX12_notTwo_53 KX12_214 (c_X12_copiesSlot hc) g25 (by decide) (Nat.le_of_ble_eq_true rfl) (fun _ _ q => q.elim) ?_
            rintro _ _ ⟨rfl, rfl⟩
            clear hc
            refine q_aload_n dX12_notTwo_56 rfl ?_
            refine q_iload dX12_notTwo_57 rfl ?_
            replace E := grd_some E
            obtain ⟨g28, E⟩ := E
            replace E := cal_some E
            obtain ⟨_, h26, hc, E⟩ := E
            refine r_callV1 (mc := 0) (ms := 0) dX12_notTwo_59 KX12_151 (c_X12_adds hc) g28 (by decide) (Nat.le_of_ble_eq_true rfl) (fun _ _ q => q.elim) ?_
            rintro _ _ ⟨rfl, rfl⟩
            clear hc
            refine q_aload_n dX12_notTwo_62 rfl ?_
            replace E := grd_some E
            obtain ⟨g31, E⟩ := E
            replace E := cal_some E
            obtain ⟨x30, h29, hc, E⟩ := E
            refine r_callV0 (mc := 0) (ms := 0) dX12_notTwo_63 KX12_202 (c_X12_isTooLarge hc) g31 (by decide) (Nat.le_of_ble_eq_true rfl) (fun _ _ q => q.elim) ?_
            rintro _ _ ⟨rfl, rfl⟩
            clear hc
            refine q_if_eq (tgt := 73) dX12_notTwo_66 (by decide) (fun z32 => ?_) (fun z32 => ?_)
            · replace E := ite_t E z32
              refine q_iconst dX12_notTwo_73 ?_
              exact r_fewer [none, none, none, none, none] (ls_n (ls_n (ls_n (ls_n (ls_n ls_0))))) (s_X12_notTwo_74 (Int32.ofInt 0) h29 E hK)
            · replace E := ite_f E z32
              refine q_iconst dX12_notTwo_69 ?_
              refine q_goto (tgt := 74) dX12_notTwo_70 (by decide) ?_
              exact r_fewer [none, none, none, none, none] (ls_n (ls_n (ls_n (ls_n (ls_n ls_0))))) (s_X12_notTwo_74 (Int32.ofInt 3) h29 E hK)
          · replace E := ite_t E z17
            exact r_fewer [none, none, none, none, none] (ls_n (ls_n (ls_n (ls_n (ls_n ls_0))))) (s_X12_notTwo_39 h14 E hK)
      · replace E := ite_t E z9
        exact r_fewer [none, none, none, none, none] (ls_n (ls_n (ls_n (ls_n (ls_n ls_0))))) (s_X12_notTwo_21 h7 E hK)
theorem c_X12_notTwo {l : Launch} {G : mG} {p0 : Nat} {v1 : Int32} {v2 : Int32} {v3 : Int32} {v4 : Int32} {h h' : mH} {r : Int32} (E : f_X12_notTwo p0 v1 v2 v3 v4 h = some (r, h')) : mMet l G m_X12_notTwo 3 0 0 [.ref p0, .int v1, .int v2, .int v3, .int v4] h (fun v k => v = some (.int r) ∧ h' = k) (fun _ _ => False) :=
  mMet_of (by decide +kernel) rfl (ac_c rfl (ac_c rfl (ac_c rfl (ac_c rfl (ac_c rfl ac_0))))) (Nat.le_of_ble_eq_true rfl) (s_X12_notTwo_0 p0 v1 v2 v3 v4 h E (And.intro rfl rfl))
set_option maxRecDepth 100000 in
set_option maxHeartbeats 4000000 in
theorem s_X12_makes_0 {l : Launch} {G : mG} {Q : Option Value → mH → Prop} {X : String → mH → Prop} (p0 : Nat) (v1 : Int32) (v2 : Int32) (v3 : Int32) (v4 : Int32) (h : mH) {o : Int32 × mH} (E : f_X12_makes p0 v1 v2 v3 v4 h = some o) (hK : (fiI Q) o) : mW l G m_X12_makes 4 0 0 0 [some (.ref p0), some (.int v1), some (.int v2), some (.int v3), some (.int v4), none] [] h Q X := by
  unfold f_X12_makes at E
  refine q_aload_n dX12_makes_0 rfl ?_
  refine q_iconst dX12_makes_1 ?_
  replace E := grd_some E
  obtain ⟨g1, E⟩ := E
  replace E := bnd_x E
  obtain ⟨h2, eh2, E⟩ := E
  refine r_putI (hh := eh2) dX12_makes_2 FX12_117 g1 rfl rfl ?_
  refine q_aload_n dX12_makes_5 rfl ?_
  refine q_iload_n dX12_makes_6 rfl ?_
  refine q_iload_n dX12_makes_7 rfl ?_
  refine q_iload_n dX12_makes_8 rfl ?_
  refine q_iload dX12_makes_9 rfl ?_
  replace E := grd_some E
  obtain ⟨g5, E⟩ := E
  replace E := cal_some E
  obtain ⟨x4, h3, hc, E⟩ := E
  refine r_callV4 (mc := 0) (ms := 0) dX12_makes_11 KX12_217 (c_X12_notTwo hc) g5 (by decide) (Nat.le_of_ble_eq_true rfl) (fun _ _ q => q.elim) ?_
  rintro _ _ ⟨rfl, rfl⟩
  clear hc
  refine r_istore dX12_makes_14 (by decide) rfl (ls' := [some (.ref p0), some (.int v1), some (.int v2), some (.int v3), some (.int v4), some (.int x4)]) rfl ?_
  refine q_iload dX12_makes_16 rfl ?_
  refine q_if_eq (tgt := 28) dX12_makes_18 (by decide) (fun z6 => ?_) (fun z6 => ?_)
  · replace E := ite_t E z6
    refine q_aload_n dX12_makes_28 rfl ?_
    replace E := grd_some E
    obtain ⟨g9, E⟩ := E
    replace E := cal_some E
    obtain ⟨_, h7, hc, E⟩ := E
    refine r_callV0 (mc := 0) (ms := 0) dX12_makes_29 KX12_205 (c_X12_remembers hc) g9 (by decide) (Nat.le_of_ble_eq_true rfl) (fun _ _ q => q.elim) ?_
    rintro _ _ ⟨rfl, rfl⟩
    clear hc
    refine q_aload_n dX12_makes_32 rfl ?_
    refine q_iload_n dX12_makes_33 rfl ?_
    replace E := grd_some E
    obtain ⟨g12, E⟩ := E
    replace E := cal_some E
    obtain ⟨x11, h10, hc, E⟩ := E
    refine r_callV1 (mc := 0) (ms := 0) dX12_makes_34 KX12_208 (c_X12_lays hc) g12 (by decide) (Nat.le_of_ble_eq_true rfl) (fun _ _ q => q.elim) ?_
    rintro _ _ ⟨rfl, rfl⟩
    clear hc
    cases E
    exact q_ireturn dX12_makes_37 rfl hK
  · replace E := ite_f E z6
    refine q_aload_n dX12_makes_21 rfl ?_
    refine q_iload dX12_makes_22 rfl ?_
    replace E := grd_some E
    obtain ⟨g15, E⟩ := E
    replace E := cal_some E
    obtain ⟨x14, h13, hc, E⟩ := E
    refine r_callV1 (mc := 0) (ms := 0) dX12_makes_24 KX12_196 (c_X12_fails hc) g15 (by decide) (Nat.le_of_ble_eq_true rfl) (fun _ _ q => q.elim) ?_
    rintro _ _ ⟨rfl, rfl⟩
    clear hc
    cases E
    exact q_ireturn dX12_makes_27 rfl hK
theorem c_X12_makes {l : Launch} {G : mG} {p0 : Nat} {v1 : Int32} {v2 : Int32} {v3 : Int32} {v4 : Int32} {h h' : mH} {r : Int32} (E : f_X12_makes p0 v1 v2 v3 v4 h = some (r, h')) : mMet l G m_X12_makes 4 0 0 [.ref p0, .int v1, .int v2, .int v3, .int v4] h (fun v k => v = some (.int r) ∧ h' = k) (fun _ _ => False) :=
  mMet_of (by decide +kernel) rfl (ac_c rfl (ac_c rfl (ac_c rfl (ac_c rfl (ac_c rfl ac_0))))) (Nat.le_of_ble_eq_true rfl) (s_X12_makes_0 p0 v1 v2 v3 v4 h E (And.intro rfl rfl))
