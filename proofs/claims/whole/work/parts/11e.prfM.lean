set_option maxRecDepth 100000 in
set_option maxHeartbeats 4000000 in
theorem s_X12_opens_0 {l : Launch} {G : mG} {Q : Option Value → mH → Prop} {X : String → mH → Prop} (p0 : Nat) (v1 : Int32) (h : mH) {o : Unit × mH} (E : f_X12_opens p0 v1 h = some o) (hK : (fiV Q) o) : mW l G m_X12_opens 3 0 0 0 [some (.ref p0), some (.int v1)] [] h Q X := by
  unfold f_X12_opens at E
  refine q_aload_n dX12_opens_0 rfl ?_
  refine q_iconst dX12_opens_1 ?_
  refine q_iload_n dX12_opens_2 rfl ?_
  replace E := grd_some E
  obtain ⟨g3, E⟩ := E
  replace E := cal_some E
  obtain ⟨_, h1, hc, E⟩ := E
  refine r_callV2 (mc := 0) (ms := 0) dX12_opens_3 KX12_280 (c_X12_builds hc) g3 (by decide) (Nat.le_of_ble_eq_true rfl) (fun _ _ q => q.elim) ?_
  rintro _ _ ⟨rfl, rfl⟩
  clear hc
  refine q_aload_n dX12_opens_6 rfl ?_
  refine q_iconst dX12_opens_7 ?_
  replace E := grd_some E
  obtain ⟨g6, E⟩ := E
  replace E := cal_some E
  obtain ⟨_, h4, hc, E⟩ := E
  refine r_callV1 (mc := 0) (ms := 0) dX12_opens_8 KX12_283 (c_X12_reaches hc) g6 (by decide) (Nat.le_of_ble_eq_true rfl) (fun _ _ q => q.elim) ?_
  rintro _ _ ⟨rfl, rfl⟩
  clear hc
  cases E
  exact q_return dX12_opens_11 rfl hK
theorem c_X12_opens {l : Launch} {G : mG} {p0 : Nat} {v1 : Int32} {h h' : mH} {r : Unit} (E : f_X12_opens p0 v1 h = some (r, h')) : mMet l G m_X12_opens 3 0 0 [.ref p0, .int v1] h (fun v k => v = none ∧ h' = k) (fun _ _ => False) :=
  mMet_of (by decide +kernel) rfl (ac_c rfl (ac_c rfl ac_0)) (Nat.le_of_ble_eq_true rfl) (s_X12_opens_0 p0 v1 h E (And.intro rfl rfl))
set_option maxRecDepth 100000 in
set_option maxHeartbeats 4000000 in
theorem s_X12_findsFar_30 {l : Launch} {G : mG} {Q : Option Value → mH → Prop} {X : String → mH → Prop} (p0 : Nat) (v1 : Int32) (s0 : Int32) (s1 : Int32) (sp2 : Nat) (h : mH) {o : ((Int32 × mH) ⊕ (Unit × mH))} (E : g_X12_findsFar_30 p0 v1 s0 s1 sp2 h = some o) (hK : (lpK (w_X12_findsFar_2 l G Q X p0) (fiV Q)) o) : mW l G m_X12_findsFar 1 0 0 30 [some (.ref p0), some (.int v1), none, none, none] [.int s0, .int s1, .ref sp2] h Q X := by
  unfold g_X12_findsFar_30 at E
  replace E := grd_some E
  obtain ⟨g2, E⟩ := E
  replace E := grd_some E
  obtain ⟨g3, E⟩ := E
  replace E := bnd_x E
  obtain ⟨h1, eh1, E⟩ := E
  refine r_iastore (hh := eh1) dX12_findsFar_30 g2 g3 ?_
  replace E := bnd_x E
  obtain ⟨x4, ex4, E⟩ := E
  refine r_iinc (v := x4) dX12_findsFar_31 rfl ex4 (by decide) (ls' := [some (.ref p0), some (.int x4), none, none, none]) rfl ?_
  refine q_goto (tgt := 2) dX12_findsFar_34 (by decide) ?_
  cases E
  exact r_fewer [some (.ref p0), some (.int x4), none, none, none] (ls_s (ls_s (ls_n (ls_n (ls_n ls_0))))) hK
set_option maxRecDepth 100000 in
set_option maxHeartbeats 4000000 in
theorem s_X12_findsFar_117 {l : Launch} {G : mG} {Q : Option Value → mH → Prop} {X : String → mH → Prop} (p0 : Nat) (v1 : Int32) (v2 : Int32) (v3 : Int32) (h : mH) {o : ((Int32 × Int32 × mH) ⊕ ((Int32 × Int32 × mH) ⊕ ((Int32 × mH) ⊕ (Unit × mH))))} (E : g_X12_findsFar_117 p0 v1 v2 v3 h = some o) (hK : (lpK (w_X12_findsFar_57 l G Q X p0 v2) (lpK (w_X12_findsFar_47 l G Q X p0) (lpK (w_X12_findsFar_39 l G Q X p0) (fiV Q)))) o) : mW l G m_X12_findsFar 1 0 0 117 [some (.ref p0), some (.int v1), some (.int v2), some (.int v3), none] [] h Q X := by
  unfold g_X12_findsFar_117 at E
  replace E := bnd_x E
  obtain ⟨x1, ex1, E⟩ := E
  refine r_iinc (v := x1) dX12_findsFar_117 rfl ex1 (by decide) (ls' := [some (.ref p0), some (.int v1), some (.int v2), some (.int x1), none]) rfl ?_
  refine q_goto (tgt := 57) dX12_findsFar_120 (by decide) ?_
  cases E
  exact r_fewer [some (.ref p0), some (.int v1), some (.int v2), some (.int x1), none] (ls_s (ls_s (ls_s (ls_s (ls_n ls_0))))) hK
set_option maxRecDepth 100000 in
set_option maxHeartbeats 4000000 in
theorem sb_X12_findsFar_57 {l : Launch} {G : mG} {Q : Option Value → mH → Prop} {X : String → mH → Prop} (p0 : Nat) (v1 : Int32) (v2 : Int32) (v3 : Int32) (h : mH) {o : ((Int32 × Int32 × mH) ⊕ ((Int32 × Int32 × mH) ⊕ ((Int32 × mH) ⊕ (Unit × mH))))} (E : b0_X12_findsFar_57 p0 v1 v2 v3 h = some o) (hK : (lpK (w_X12_findsFar_57 l G Q X p0 v2) (lpK (w_X12_findsFar_47 l G Q X p0) (lpK (w_X12_findsFar_39 l G Q X p0) (fiV Q)))) o) : mW l G m_X12_findsFar 1 0 0 57 [some (.ref p0), some (.int v1), some (.int v2), some (.int v3), none] [] h Q X := by
  unfold b0_X12_findsFar_57 at E
  refine q_iload_n dX12_findsFar_57 rfl ?_
  refine q_iconst dX12_findsFar_58 ?_
  refine q_icmp_ge (tgt := 123) dX12_findsFar_59 (by decide) (fun z1 => ?_) (fun z1 => ?_)
  · replace E := ite_t E z1
    replace E := bnd_x E
    obtain ⟨x2, ex2, E⟩ := E
    refine r_iinc (v := x2) dX12_findsFar_123 rfl ex2 (by decide) (ls' := [some (.ref p0), some (.int v1), some (.int x2), some (.int v3), none]) rfl ?_
    refine q_goto (tgt := 47) dX12_findsFar_126 (by decide) ?_
    cases E
    exact r_fewer [some (.ref p0), some (.int v1), some (.int x2), none, none] (ls_s (ls_s (ls_s (ls_n (ls_n ls_0))))) hK
  · replace E := ite_f E z1
    refine q_aload_n dX12_findsFar_62 rfl ?_
    replace E := grd_some E
    obtain ⟨g3, E⟩ := E
    replace E := orf_some E
    obtain ⟨a4, ea4, E⟩ := E
    refine r_getR dX12_findsFar_63 FX12_84 g3 ea4 ?_
    refine q_aload_n dX12_findsFar_66 rfl ?_
    refine q_iconst dX12_findsFar_67 ?_
    refine q_aload_n dX12_findsFar_68 rfl ?_
    replace E := orf_some E
    obtain ⟨a5, ea5, E⟩ := E
    refine r_getR dX12_findsFar_69 FX12_69 g3 ea5 ?_
    refine q_iload_n dX12_findsFar_72 rfl ?_
    replace E := grd_some E
    obtain ⟨g6, E⟩ := E
    replace E := grd_some E
    obtain ⟨g7, E⟩ := E
    refine r_iaload dX12_findsFar_73 g6 g7 ?_
    refine q_iload_n dX12_findsFar_74 rfl ?_
    replace E := cal_some E
    obtain ⟨x9, h8, hc, E⟩ := E
    refine r_callV3 (mc := 0) (ms := 0) dX12_findsFar_75 KX12_277 (c_X12_to hc) g3 (by decide) (Nat.le_of_ble_eq_true rfl) (fun _ _ q => q.elim) ?_
    rintro _ _ ⟨rfl, rfl⟩
    clear hc
    replace E := grd_some E
    obtain ⟨g10, E⟩ := E
    replace E := grd_some E
    obtain ⟨g11, E⟩ := E
    refine r_iaload dX12_findsFar_78 g10 g11 ?_
    refine q_iconst dX12_findsFar_79 ?_
    refine q_iadd dX12_findsFar_80 ?_
    replace E := bnd_x E
    obtain ⟨x12, ex12, E⟩ := E
    refine r_istore dX12_findsFar_81 (by decide) ex12 (ls' := [some (.ref p0), some (.int v1), some (.int v2), some (.int v3), some (.int x12)]) rfl ?_
    refine q_iload dX12_findsFar_83 rfl ?_
    refine q_aload_n dX12_findsFar_85 rfl ?_
    replace E := grd_some E
    obtain ⟨g13, E⟩ := E
    replace E := orf_some E
    obtain ⟨a14, ea14, E⟩ := E
    refine r_getR dX12_findsFar_86 FX12_84 g13 ea14 ?_
    refine q_aload_n dX12_findsFar_89 rfl ?_
    replace E := orf_some E
    obtain ⟨a15, ea15, E⟩ := E
    refine r_getR dX12_findsFar_90 FX12_69 g13 ea15 ?_
    refine q_iload_n dX12_findsFar_93 rfl ?_
    replace E := grd_some E
    obtain ⟨g16, E⟩ := E
    replace E := grd_some E
    obtain ⟨g17, E⟩ := E
    refine r_iaload dX12_findsFar_94 g16 g17 ?_
    replace E := grd_some E
    obtain ⟨g18, E⟩ := E
    replace E := grd_some E
    obtain ⟨g19, E⟩ := E
    refine r_iaload dX12_findsFar_95 g18 g19 ?_
    refine q_icmp_lt (tgt := 102) dX12_findsFar_96 (by decide) (fun z20 => ?_) (fun z20 => ?_)
    · replace E := ite_t E z20
      refine q_aload_n dX12_findsFar_102 rfl ?_
      refine r_getR dX12_findsFar_103 FX12_84 g13 ea14 ?_
      refine q_aload_n dX12_findsFar_106 rfl ?_
      refine r_getR dX12_findsFar_107 FX12_69 g13 ea15 ?_
      refine q_iload_n dX12_findsFar_110 rfl ?_
      refine r_iaload dX12_findsFar_111 g16 g17 ?_
      refine q_iload dX12_findsFar_112 rfl ?_
      replace E := bnd_x E
      obtain ⟨h23, eh23, E⟩ := E
      refine r_iastore (hh := eh23) dX12_findsFar_114 g18 g19 ?_
      refine q_iconst dX12_findsFar_115 ?_
      refine r_istore_n dX12_findsFar_116 (by decide) rfl (ls' := [some (.ref p0), some (.int (Int32.ofInt 1)), some (.int v2), some (.int v3), some (.int x12)]) rfl ?_
      exact r_fewer [some (.ref p0), some (.int (Int32.ofInt 1)), some (.int v2), some (.int v3), none] (ls_s (ls_s (ls_s (ls_s (ls_n ls_0))))) (s_X12_findsFar_117 p0 (Int32.ofInt 1) v2 v3 h23 E hK)
    · replace E := ite_f E z20
      refine q_goto (tgt := 117) dX12_findsFar_99 (by decide) ?_
      exact r_fewer [some (.ref p0), some (.int v1), some (.int v2), some (.int v3), none] (ls_s (ls_s (ls_s (ls_s (ls_n ls_0))))) (s_X12_findsFar_117 p0 v1 v2 v3 h8 E hK)
theorem s_X12_findsFar_57 {l : Launch} {G : mG} {Q : Option Value → mH → Prop} {X : String → mH → Prop} (p0 : Nat) (v1 : Int32) (v2 : Int32) (v3 : Int32) (h : mH) {o : ((Int32 × Int32 × mH) ⊕ ((Int32 × mH) ⊕ (Unit × mH)))} (E : g_X12_findsFar_57 p0 v1 v2 v3 h = some o) (hK : (lpK (w_X12_findsFar_47 l G Q X p0) (lpK (w_X12_findsFar_39 l G Q X p0) (fiV Q))) o) : mW l G m_X12_findsFar 1 0 0 57 [some (.ref p0), some (.int v1), some (.int v2), some (.int v3), none] [] h Q X :=
  (lp_go (w_X12_findsFar_57 l G Q X p0 v2) (lpK (w_X12_findsFar_47 l G Q X p0) (lpK (w_X12_findsFar_39 l G Q X p0) (fiV Q))) (b_X12_findsFar_57 p0 v2) (fun s o E hK => sb_X12_findsFar_57 p0 s.1 v2 s.2.1 (s.2.2) E hK) _ _ _ E hK : w_X12_findsFar_57 l G Q X p0 v2 (v1, v3, h))
set_option maxRecDepth 100000 in
set_option maxHeartbeats 4000000 in
theorem sb_X12_findsFar_47 {l : Launch} {G : mG} {Q : Option Value → mH → Prop} {X : String → mH → Prop} (p0 : Nat) (v1 : Int32) (v2 : Int32) (h : mH) {o : ((Int32 × Int32 × mH) ⊕ ((Int32 × mH) ⊕ (Unit × mH)))} (E : b0_X12_findsFar_47 p0 v1 v2 h = some o) (hK : (lpK (w_X12_findsFar_47 l G Q X p0) (lpK (w_X12_findsFar_39 l G Q X p0) (fiV Q))) o) : mW l G m_X12_findsFar 1 0 0 47 [some (.ref p0), some (.int v1), some (.int v2), none, none] [] h Q X := by
  unfold b0_X12_findsFar_47 at E
  refine q_iload_n dX12_findsFar_47 rfl ?_
  refine q_aload_n dX12_findsFar_48 rfl ?_
  replace E := grd_some E
  obtain ⟨g1, E⟩ := E
  refine r_getI dX12_findsFar_49 FX12_274 g1 ?_
  refine q_icmp_ge (tgt := 129) dX12_findsFar_52 (by decide) (fun z2 => ?_) (fun z2 => ?_)
  · replace E := ite_t E z2
    refine q_goto (tgt := 39) dX12_findsFar_129 (by decide) ?_
    cases E
    exact r_fewer [some (.ref p0), some (.int v1), none, none, none] (ls_s (ls_s (ls_n (ls_n (ls_n ls_0))))) hK
  · replace E := ite_f E z2
    refine q_iconst dX12_findsFar_55 ?_
    refine r_istore_n dX12_findsFar_56 (by decide) rfl (ls' := [some (.ref p0), some (.int v1), some (.int v2), some (.int (Int32.ofInt 0)), none]) rfl ?_
    exact r_fewer [some (.ref p0), some (.int v1), some (.int v2), some (.int (Int32.ofInt 0)), none] (ls_s (ls_s (ls_s (ls_s (ls_n ls_0))))) (s_X12_findsFar_57 p0 v1 v2 (Int32.ofInt 0) h E hK)
theorem s_X12_findsFar_47 {l : Launch} {G : mG} {Q : Option Value → mH → Prop} {X : String → mH → Prop} (p0 : Nat) (v1 : Int32) (v2 : Int32) (h : mH) {o : ((Int32 × mH) ⊕ (Unit × mH))} (E : g_X12_findsFar_47 p0 v1 v2 h = some o) (hK : (lpK (w_X12_findsFar_39 l G Q X p0) (fiV Q)) o) : mW l G m_X12_findsFar 1 0 0 47 [some (.ref p0), some (.int v1), some (.int v2), none, none] [] h Q X :=
  (lp_go (w_X12_findsFar_47 l G Q X p0) (lpK (w_X12_findsFar_39 l G Q X p0) (fiV Q)) (b_X12_findsFar_47 p0) (fun s o E hK => sb_X12_findsFar_47 p0 s.1 s.2.1 (s.2.2) E hK) _ _ _ E hK : w_X12_findsFar_47 l G Q X p0 (v1, v2, h))
set_option maxRecDepth 100000 in
set_option maxHeartbeats 4000000 in
theorem sb_X12_findsFar_39 {l : Launch} {G : mG} {Q : Option Value → mH → Prop} {X : String → mH → Prop} (p0 : Nat) (v1 : Int32) (h : mH) {o : ((Int32 × mH) ⊕ (Unit × mH))} (E : b0_X12_findsFar_39 p0 v1 h = some o) (hK : (lpK (w_X12_findsFar_39 l G Q X p0) (fiV Q)) o) : mW l G m_X12_findsFar 1 0 0 39 [some (.ref p0), some (.int v1), none, none, none] [] h Q X := by
  unfold b0_X12_findsFar_39 at E
  refine q_iload_n dX12_findsFar_39 rfl ?_
  refine q_if_eq (tgt := 132) dX12_findsFar_40 (by decide) (fun z1 => ?_) (fun z1 => ?_)
  · replace E := ite_t E z1
    cases E
    exact q_return dX12_findsFar_132 rfl hK
  · replace E := ite_f E z1
    refine q_iconst dX12_findsFar_43 ?_
    refine r_istore_n dX12_findsFar_44 (by decide) rfl (ls' := [some (.ref p0), some (.int (Int32.ofInt 0)), none, none, none]) rfl ?_
    refine q_iconst dX12_findsFar_45 ?_
    refine r_istore_n dX12_findsFar_46 (by decide) rfl (ls' := [some (.ref p0), some (.int (Int32.ofInt 0)), some (.int (Int32.ofInt 0)), none, none]) rfl ?_
    exact r_fewer [some (.ref p0), some (.int (Int32.ofInt 0)), some (.int (Int32.ofInt 0)), none, none] (ls_s (ls_s (ls_s (ls_n (ls_n ls_0))))) (s_X12_findsFar_47 p0 (Int32.ofInt 0) (Int32.ofInt 0) h E hK)
theorem s_X12_findsFar_39 {l : Launch} {G : mG} {Q : Option Value → mH → Prop} {X : String → mH → Prop} (p0 : Nat) (v1 : Int32) (h : mH) {o : Unit × mH} (E : g_X12_findsFar_39 p0 v1 h = some o) (hK : (fiV Q) o) : mW l G m_X12_findsFar 1 0 0 39 [some (.ref p0), some (.int v1), none, none, none] [] h Q X :=
  (lp_go (w_X12_findsFar_39 l G Q X p0) (fiV Q) (b_X12_findsFar_39 p0) (fun s o E hK => sb_X12_findsFar_39 p0 s.1 (s.2) E hK) _ _ _ E hK : w_X12_findsFar_39 l G Q X p0 (v1, h))
set_option maxRecDepth 100000 in
set_option maxHeartbeats 4000000 in
theorem sb_X12_findsFar_2 {l : Launch} {G : mG} {Q : Option Value → mH → Prop} {X : String → mH → Prop} (p0 : Nat) (v1 : Int32) (h : mH) {o : ((Int32 × mH) ⊕ (Unit × mH))} (E : b0_X12_findsFar_2 p0 v1 h = some o) (hK : (lpK (w_X12_findsFar_2 l G Q X p0) (fiV Q)) o) : mW l G m_X12_findsFar 1 0 0 2 [some (.ref p0), some (.int v1), none, none, none] [] h Q X := by
  unfold b0_X12_findsFar_2 at E
  refine q_iload_n dX12_findsFar_2 rfl ?_
  refine q_sipush (v := (Int32.ofInt 129)) dX12_findsFar_3 (by decide) ?_
  refine q_icmp_ge (tgt := 37) dX12_findsFar_6 (by decide) (fun z1 => ?_) (fun z1 => ?_)
  · replace E := ite_t E z1
    refine q_iconst dX12_findsFar_37 ?_
    refine r_istore_n dX12_findsFar_38 (by decide) rfl (ls' := [some (.ref p0), some (.int (Int32.ofInt 1)), none, none, none]) rfl ?_
    obtain ⟨o0, E0, rfl⟩ := inrO_some E
    exact r_fewer [some (.ref p0), some (.int (Int32.ofInt 1)), none, none, none] (ls_s (ls_s (ls_n (ls_n (ls_n ls_0))))) (s_X12_findsFar_39 p0 (Int32.ofInt 1) h E0 hK)
  · replace E := ite_f E z1
    refine q_aload_n dX12_findsFar_9 rfl ?_
    replace E := grd_some E
    obtain ⟨g2, E⟩ := E
    replace E := orf_some E
    obtain ⟨a3, ea3, E⟩ := E
    refine r_getR dX12_findsFar_10 FX12_84 g2 ea3 ?_
    refine q_iload_n dX12_findsFar_13 rfl ?_
    refine q_aload_n dX12_findsFar_14 rfl ?_
    refine q_iconst dX12_findsFar_15 ?_
    refine q_iload_n dX12_findsFar_16 rfl ?_
    replace E := cal_some E
    obtain ⟨x5, h4, hc, E⟩ := E
    refine r_callV2 (mc := 0) (ms := 0) dX12_findsFar_17 KX12_286 (c_X12_accepts hc) g2 (by decide) (Nat.le_of_ble_eq_true rfl) (fun _ _ q => q.elim) ?_
    rintro _ _ ⟨rfl, rfl⟩
    clear hc
    refine q_if_eq (tgt := 27) dX12_findsFar_20 (by decide) (fun z6 => ?_) (fun z6 => ?_)
    · replace E := ite_t E z6
      refine q_sipush (v := (Int32.ofInt 999)) dX12_findsFar_27 (by decide) ?_
      exact r_fewer [some (.ref p0), some (.int v1), none, none, none] (ls_s (ls_s (ls_n (ls_n (ls_n ls_0))))) (s_X12_findsFar_30 p0 v1 (Int32.ofInt 999) v1 a3 h4 E hK)
    · replace E := ite_f E z6
      refine q_iconst dX12_findsFar_23 ?_
      refine q_goto (tgt := 30) dX12_findsFar_24 (by decide) ?_
      exact r_fewer [some (.ref p0), some (.int v1), none, none, none] (ls_s (ls_s (ls_n (ls_n (ls_n ls_0))))) (s_X12_findsFar_30 p0 v1 (Int32.ofInt 0) v1 a3 h4 E hK)
theorem s_X12_findsFar_2 {l : Launch} {G : mG} {Q : Option Value → mH → Prop} {X : String → mH → Prop} (p0 : Nat) (v1 : Int32) (h : mH) {o : Unit × mH} (E : g_X12_findsFar_2 p0 v1 h = some o) (hK : (fiV Q) o) : mW l G m_X12_findsFar 1 0 0 2 [some (.ref p0), some (.int v1), none, none, none] [] h Q X :=
  (lp_go (w_X12_findsFar_2 l G Q X p0) (fiV Q) (b_X12_findsFar_2 p0) (fun s o E hK => sb_X12_findsFar_2 p0 s.1 (s.2) E hK) _ _ _ E hK : w_X12_findsFar_2 l G Q X p0 (v1, h))
set_option maxRecDepth 100000 in
set_option maxHeartbeats 4000000 in
theorem s_X12_findsFar_0 {l : Launch} {G : mG} {Q : Option Value → mH → Prop} {X : String → mH → Prop} (p0 : Nat) (h : mH) {o : Unit × mH} (E : f_X12_findsFar p0 h = some o) (hK : (fiV Q) o) : mW l G m_X12_findsFar 1 0 0 0 [some (.ref p0), none, none, none, none] [] h Q X := by
  unfold f_X12_findsFar at E
  refine q_iconst dX12_findsFar_0 ?_
  refine r_istore_n dX12_findsFar_1 (by decide) rfl (ls' := [some (.ref p0), some (.int (Int32.ofInt 0)), none, none, none]) rfl ?_
  exact r_fewer [some (.ref p0), some (.int (Int32.ofInt 0)), none, none, none] (ls_s (ls_s (ls_n (ls_n (ls_n ls_0))))) (s_X12_findsFar_2 p0 (Int32.ofInt 0) h E hK)
theorem c_X12_findsFar {l : Launch} {G : mG} {p0 : Nat} {h h' : mH} {r : Unit} (E : f_X12_findsFar p0 h = some (r, h')) : mMet l G m_X12_findsFar 1 0 0 [.ref p0] h (fun v k => v = none ∧ h' = k) (fun _ _ => False) :=
  mMet_of (by decide +kernel) rfl (ac_c rfl ac_0) (Nat.le_of_ble_eq_true rfl) (s_X12_findsFar_0 p0 h E (And.intro rfl rfl))
set_option maxRecDepth 100000 in
set_option maxHeartbeats 4000000 in
theorem sb_X12_areAlike_19 {l : Launch} {G : mG} {Q : Option Value → mH → Prop} {X : String → mH → Prop} (p0 : Nat) (v1 : Int32) (v2 : Int32) (v3 : Int32) (h : mH) {o : ((Int32 × mH) ⊕ (Int32 × mH))} (E : b0_X12_areAlike_19 p0 v1 v2 v3 h = some o) (hK : (lpK (w_X12_areAlike_19 l G Q X p0 v1 v2) (fiI Q)) o) : mW l G m_X12_areAlike 1 0 0 19 [some (.ref p0), some (.int v1), some (.int v2), some (.int v3)] [] h Q X := by
  unfold b0_X12_areAlike_19 at E
  refine q_iload_n dX12_areAlike_19 rfl ?_
  refine q_iconst dX12_areAlike_20 ?_
  refine q_icmp_ge (tgt := 79) dX12_areAlike_21 (by decide) (fun z1 => ?_) (fun z1 => ?_)
  · replace E := ite_t E z1
    refine q_iconst dX12_areAlike_79 ?_
    cases E
    exact q_zreturn dX12_areAlike_80 rfl (by decide) hK
  · replace E := ite_f E z1
    refine q_aload_n dX12_areAlike_24 rfl ?_
    replace E := grd_some E
    obtain ⟨g2, E⟩ := E
    replace E := orf_some E
    obtain ⟨a3, ea3, E⟩ := E
    refine r_getR dX12_areAlike_25 FX12_78 g2 ea3 ?_
    refine q_aload_n dX12_areAlike_28 rfl ?_
    replace E := orf_some E
    obtain ⟨a4, ea4, E⟩ := E
    refine r_getR dX12_areAlike_29 FX12_72 g2 ea4 ?_
    refine q_aload_n dX12_areAlike_32 rfl ?_
    refine q_iconst dX12_areAlike_33 ?_
    refine q_aload_n dX12_areAlike_34 rfl ?_
    replace E := orf_some E
    obtain ⟨a5, ea5, E⟩ := E
    refine r_getR dX12_areAlike_35 FX12_69 g2 ea5 ?_
    refine q_iload_n dX12_areAlike_38 rfl ?_
    replace E := grd_some E
    obtain ⟨g6, E⟩ := E
    replace E := grd_some E
    obtain ⟨g7, E⟩ := E
    refine r_iaload dX12_areAlike_39 g6 g7 ?_
    refine q_iload_n dX12_areAlike_40 rfl ?_
    replace E := cal_some E
    obtain ⟨x9, h8, hc, E⟩ := E
    refine r_callV3 (mc := 0) (ms := 0) dX12_areAlike_41 KX12_277 (c_X12_to hc) g2 (by decide) (Nat.le_of_ble_eq_true rfl) (fun _ _ q => q.elim) ?_
    rintro _ _ ⟨rfl, rfl⟩
    clear hc
    replace E := grd_some E
    obtain ⟨g10, E⟩ := E
    replace E := grd_some E
    obtain ⟨g11, E⟩ := E
    refine r_iaload dX12_areAlike_44 g10 g11 ?_
    replace E := grd_some E
    obtain ⟨g12, E⟩ := E
    replace E := grd_some E
    obtain ⟨g13, E⟩ := E
    refine r_iaload dX12_areAlike_45 g12 g13 ?_
    refine q_aload_n dX12_areAlike_46 rfl ?_
    replace E := grd_some E
    obtain ⟨g14, E⟩ := E
    replace E := orf_some E
    obtain ⟨a15, ea15, E⟩ := E
    refine r_getR dX12_areAlike_47 FX12_78 g14 ea15 ?_
    refine q_aload_n dX12_areAlike_50 rfl ?_
    replace E := orf_some E
    obtain ⟨a16, ea16, E⟩ := E
    refine r_getR dX12_areAlike_51 FX12_72 g14 ea16 ?_
    refine q_aload_n dX12_areAlike_54 rfl ?_
    refine q_iconst dX12_areAlike_55 ?_
    refine q_aload_n dX12_areAlike_56 rfl ?_
    replace E := orf_some E
    obtain ⟨a17, ea17, E⟩ := E
    refine r_getR dX12_areAlike_57 FX12_69 g14 ea17 ?_
    refine q_iload_n dX12_areAlike_60 rfl ?_
    replace E := grd_some E
    obtain ⟨g18, E⟩ := E
    replace E := grd_some E
    obtain ⟨g19, E⟩ := E
    refine r_iaload dX12_areAlike_61 g18 g19 ?_
    refine q_iload_n dX12_areAlike_62 rfl ?_
    replace E := cal_some E
    obtain ⟨x21, h20, hc, E⟩ := E
    refine r_callV3 (mc := 0) (ms := 0) dX12_areAlike_63 KX12_277 (c_X12_to hc) g14 (by decide) (Nat.le_of_ble_eq_true rfl) (fun _ _ q => q.elim) ?_
    rintro _ _ ⟨rfl, rfl⟩
    clear hc
    replace E := grd_some E
    obtain ⟨g22, E⟩ := E
    replace E := grd_some E
    obtain ⟨g23, E⟩ := E
    refine r_iaload dX12_areAlike_66 g22 g23 ?_
    replace E := grd_some E
    obtain ⟨g24, E⟩ := E
    replace E := grd_some E
    obtain ⟨g25, E⟩ := E
    refine r_iaload dX12_areAlike_67 g24 g25 ?_
    refine q_icmp_eq (tgt := 73) dX12_areAlike_68 (by decide) (fun z26 => ?_) (fun z26 => ?_)
    · replace E := ite_t E z26
      replace E := bnd_x E
      obtain ⟨x27, ex27, E⟩ := E
      refine r_iinc (v := x27) dX12_areAlike_73 rfl ex27 (by decide) (ls' := [some (.ref p0), some (.int v1), some (.int v2), some (.int x27)]) rfl ?_
      refine q_goto (tgt := 19) dX12_areAlike_76 (by decide) ?_
      cases E
      exact r_fewer [some (.ref p0), some (.int v1), some (.int v2), some (.int x27)] (ls_s (ls_s (ls_s (ls_s ls_0)))) hK
    · replace E := ite_f E z26
      refine q_iconst dX12_areAlike_71 ?_
      cases E
      exact q_zreturn dX12_areAlike_72 rfl (by decide) hK
theorem s_X12_areAlike_19 {l : Launch} {G : mG} {Q : Option Value → mH → Prop} {X : String → mH → Prop} (p0 : Nat) (v1 : Int32) (v2 : Int32) (v3 : Int32) (h : mH) {o : Int32 × mH} (E : g_X12_areAlike_19 p0 v1 v2 v3 h = some o) (hK : (fiI Q) o) : mW l G m_X12_areAlike 1 0 0 19 [some (.ref p0), some (.int v1), some (.int v2), some (.int v3)] [] h Q X :=
  (lp_go (w_X12_areAlike_19 l G Q X p0 v1 v2) (fiI Q) (b_X12_areAlike_19 p0 v1 v2) (fun s o E hK => sb_X12_areAlike_19 p0 v1 v2 s.1 (s.2) E hK) _ _ _ E hK : w_X12_areAlike_19 l G Q X p0 v1 v2 (v3, h))
set_option maxRecDepth 100000 in
set_option maxHeartbeats 4000000 in
theorem s_X12_areAlike_0 {l : Launch} {G : mG} {Q : Option Value → mH → Prop} {X : String → mH → Prop} (p0 : Nat) (v1 : Int32) (v2 : Int32) (h : mH) {o : Int32 × mH} (E : f_X12_areAlike p0 v1 v2 h = some o) (hK : (fiI Q) o) : mW l G m_X12_areAlike 1 0 0 0 [some (.ref p0), some (.int v1), some (.int v2), none] [] h Q X := by
  unfold f_X12_areAlike at E
  refine q_aload_n dX12_areAlike_0 rfl ?_
  replace E := grd_some E
  obtain ⟨g1, E⟩ := E
  replace E := orf_some E
  obtain ⟨a2, ea2, E⟩ := E
  refine r_getR dX12_areAlike_1 FX12_78 g1 ea2 ?_
  refine q_iload_n dX12_areAlike_4 rfl ?_
  replace E := grd_some E
  obtain ⟨g3, E⟩ := E
  replace E := grd_some E
  obtain ⟨g4, E⟩ := E
  refine r_iaload dX12_areAlike_5 g3 g4 ?_
  refine q_aload_n dX12_areAlike_6 rfl ?_
  refine r_getR dX12_areAlike_7 FX12_78 g1 ea2 ?_
  refine q_iload_n dX12_areAlike_10 rfl ?_
  replace E := grd_some E
  obtain ⟨g6, E⟩ := E
  refine r_iaload dX12_areAlike_11 g3 g6 ?_
  refine q_icmp_eq (tgt := 17) dX12_areAlike_12 (by decide) (fun z7 => ?_) (fun z7 => ?_)
  · replace E := ite_t E z7
    refine q_iconst dX12_areAlike_17 ?_
    refine r_istore_n dX12_areAlike_18 (by decide) rfl (ls' := [some (.ref p0), some (.int v1), some (.int v2), some (.int (Int32.ofInt 0))]) rfl ?_
    exact r_fewer [some (.ref p0), some (.int v1), some (.int v2), some (.int (Int32.ofInt 0))] (ls_s (ls_s (ls_s (ls_s ls_0)))) (s_X12_areAlike_19 p0 v1 v2 (Int32.ofInt 0) h E hK)
  · replace E := ite_f E z7
    refine q_iconst dX12_areAlike_15 ?_
    cases E
    exact q_zreturn dX12_areAlike_16 rfl (by decide) hK
theorem c_X12_areAlike {l : Launch} {G : mG} {p0 : Nat} {v1 : Int32} {v2 : Int32} {h h' : mH} {r : Int32} (E : f_X12_areAlike p0 v1 v2 h = some (r, h')) : mMet l G m_X12_areAlike 1 0 0 [.ref p0, .int v1, .int v2] h (fun v k => v = some (.int r) ∧ h' = k) (fun _ _ => False) :=
  mMet_of (by decide +kernel) rfl (ac_c rfl (ac_c rfl (ac_c rfl ac_0))) (Nat.le_of_ble_eq_true rfl) (s_X12_areAlike_0 p0 v1 v2 h E (And.intro rfl rfl))
set_option maxRecDepth 100000 in
set_option maxHeartbeats 4000000 in
theorem s_X12_divides_66 {l : Launch} {G : mG} {Q : Option Value → mH → Prop} {X : String → mH → Prop} (p0 : Nat) (v2 : Int32) (s0 : Int32) (s1 : Int32) (h : mH) {o : ((Int32 × Int32 × mH) ⊕ (Int32 × mH))} (E : g_X12_divides_66 p0 v2 s0 s1 h = some o) (hK : (lpK (w_X12_divides_4 l G Q X p0) (fiI Q)) o) : mW l G m_X12_divides 2 0 0 66 [some (.ref p0), none, some (.int v2), none] [.int s0, .int s1] h Q X := by
  unfold g_X12_divides_66 at E
  refine q_iadd dX12_divides_66 ?_
  replace E := bnd_x E
  obtain ⟨x1, ex1, E⟩ := E
  refine r_istore_n dX12_divides_67 (by decide) ex1 (ls' := [some (.ref p0), some (.int x1), some (.int v2), none]) rfl ?_
  replace E := bnd_x E
  obtain ⟨x2, ex2, E⟩ := E
  refine r_iinc (v := x2) dX12_divides_68 rfl ex2 (by decide) (ls' := [some (.ref p0), some (.int x1), some (.int x2), none]) rfl ?_
  refine q_goto (tgt := 4) dX12_divides_71 (by decide) ?_
  cases E
  exact r_fewer [some (.ref p0), some (.int x1), some (.int x2), none] (ls_s (ls_s (ls_s (ls_n ls_0)))) hK
set_option maxRecDepth 100000 in
set_option maxHeartbeats 4000000 in
theorem s_X12_divides_54 {l : Launch} {G : mG} {Q : Option Value → mH → Prop} {X : String → mH → Prop} (p0 : Nat) (v1 : Int32) (v2 : Int32) (v3 : Int32) (s0 : Int32) (s1 : Int32) (sp2 : Nat) (h : mH) {o : ((Int32 × Int32 × mH) ⊕ (Int32 × mH))} (E : g_X12_divides_54 p0 v1 v2 v3 s0 s1 sp2 h = some o) (hK : (lpK (w_X12_divides_4 l G Q X p0) (fiI Q)) o) : mW l G m_X12_divides 2 0 0 54 [some (.ref p0), some (.int v1), some (.int v2), some (.int v3)] [.int s0, .int s1, .ref sp2] h Q X := by
  unfold g_X12_divides_54 at E
  replace E := grd_some E
  obtain ⟨g2, E⟩ := E
  replace E := grd_some E
  obtain ⟨g3, E⟩ := E
  replace E := bnd_x E
  obtain ⟨h1, eh1, E⟩ := E
  refine r_iastore (hh := eh1) dX12_divides_54 g2 g3 ?_
  refine q_iload_n dX12_divides_55 rfl ?_
  refine q_iload_n dX12_divides_56 rfl ?_
  refine q_iload_n dX12_divides_57 rfl ?_
  refine q_icmp_ge (tgt := 65) dX12_divides_58 (by decide) (fun z4 => ?_) (fun z4 => ?_)
  · replace E := ite_t E z4
    refine q_iconst dX12_divides_65 ?_
    exact r_fewer [some (.ref p0), none, some (.int v2), none] (ls_s (ls_n (ls_s (ls_n ls_0)))) (s_X12_divides_66 p0 v2 (Int32.ofInt 1) v1 h1 E hK)
  · replace E := ite_f E z4
    refine q_iconst dX12_divides_61 ?_
    refine q_goto (tgt := 66) dX12_divides_62 (by decide) ?_
    exact r_fewer [some (.ref p0), none, some (.int v2), none] (ls_s (ls_n (ls_s (ls_n ls_0)))) (s_X12_divides_66 p0 v2 (Int32.ofInt 0) v1 h1 E hK)
set_option maxRecDepth 100000 in
set_option maxHeartbeats 4000000 in
theorem s_X12_divides_34 {l : Launch} {G : mG} {Q : Option Value → mH → Prop} {X : String → mH → Prop} (p0 : Nat) (v1 : Int32) (v2 : Int32) (v3 : Int32) (h : mH) {o : ((Int32 × Int32 × mH) ⊕ (Int32 × mH))} (E : g_X12_divides_34 p0 v1 v2 v3 h = some o) (hK : (lpK (w_X12_divides_4 l G Q X p0) (fiI Q)) o) : mW l G m_X12_divides 2 0 0 34 [some (.ref p0), some (.int v1), some (.int v2), some (.int v3)] [] h Q X := by
  unfold g_X12_divides_34 at E
  refine q_aload_n dX12_divides_34 rfl ?_
  replace E := grd_some E
  obtain ⟨g1, E⟩ := E
  replace E := orf_some E
  obtain ⟨a2, ea2, E⟩ := E
  refine r_getR dX12_divides_35 FX12_81 g1 ea2 ?_
  refine q_iload_n dX12_divides_38 rfl ?_
  refine q_iload_n dX12_divides_39 rfl ?_
  refine q_iload_n dX12_divides_40 rfl ?_
  refine q_icmp_ge (tgt := 53) dX12_divides_41 (by decide) (fun z3 => ?_) (fun z3 => ?_)
  · replace E := ite_t E z3
    refine q_iload_n dX12_divides_53 rfl ?_
    exact r_fewer [some (.ref p0), some (.int v1), some (.int v2), some (.int v3)] (ls_s (ls_s (ls_s (ls_s ls_0)))) (s_X12_divides_54 p0 v1 v2 v3 v1 v2 a2 h E hK)
  · replace E := ite_f E z3
    refine q_aload_n dX12_divides_44 rfl ?_
    refine r_getR dX12_divides_45 FX12_81 g1 ea2 ?_
    refine q_iload_n dX12_divides_48 rfl ?_
    replace E := grd_some E
    obtain ⟨g5, E⟩ := E
    replace E := grd_some E
    obtain ⟨g6, E⟩ := E
    refine r_iaload dX12_divides_49 g5 g6 ?_
    refine q_goto (tgt := 54) dX12_divides_50 (by decide) ?_
    exact r_fewer [some (.ref p0), some (.int v1), some (.int v2), some (.int v3)] (ls_s (ls_s (ls_s (ls_s ls_0)))) (s_X12_divides_54 p0 v1 v2 v3 (gi h a2 v3.toNatClampNeg) v2 a2 h E hK)
set_option maxRecDepth 100000 in
set_option maxHeartbeats 4000000 in
theorem sb_X12_divides_14 {l : Launch} {G : mG} {Q : Option Value → mH → Prop} {X : String → mH → Prop} (p0 : Nat) (v1 : Int32) (v2 : Int32) (v3 : Int32) (h : mH) {o : ((Int32 × mH) ⊕ ((Int32 × Int32 × mH) ⊕ (Int32 × mH)))} (E : b0_X12_divides_14 p0 v1 v2 v3 h = some o) (hK : (lpK (w_X12_divides_14 l G Q X p0 v1 v2) (lpK (w_X12_divides_4 l G Q X p0) (fiI Q))) o) : mW l G m_X12_divides 2 0 0 14 [some (.ref p0), some (.int v1), some (.int v2), some (.int v3)] [] h Q X := by
  unfold b0_X12_divides_14 at E
  refine q_iload_n dX12_divides_14 rfl ?_
  refine q_iload_n dX12_divides_15 rfl ?_
  refine q_icmp_ge (tgt := 34) dX12_divides_16 (by decide) (fun z1 => ?_) (fun z1 => ?_)
  · replace E := ite_t E z1
    obtain ⟨o0, E0, rfl⟩ := inrO_some E
    exact r_fewer [some (.ref p0), some (.int v1), some (.int v2), some (.int v3)] (ls_s (ls_s (ls_s (ls_s ls_0)))) (s_X12_divides_34 p0 v1 v2 v3 h E0 hK)
  · replace E := ite_f E z1
    refine q_aload_n dX12_divides_19 rfl ?_
    refine q_iload_n dX12_divides_20 rfl ?_
    refine q_iload_n dX12_divides_21 rfl ?_
    replace E := grd_some E
    obtain ⟨g4, E⟩ := E
    replace E := cal_some E
    obtain ⟨x3, h2, hc, E⟩ := E
    refine r_callV2 (mc := 0) (ms := 0) dX12_divides_22 KX12_289 (c_X12_areAlike hc) g4 (by decide) (Nat.le_of_ble_eq_true rfl) (fun _ _ q => q.elim) ?_
    rintro _ _ ⟨rfl, rfl⟩
    clear hc
    refine q_if_ne (tgt := 34) dX12_divides_25 (by decide) (fun z5 => ?_) (fun z5 => ?_)
    · replace E := ite_f E z5
      obtain ⟨o0, E0, rfl⟩ := inrO_some E
      exact r_fewer [some (.ref p0), some (.int v1), some (.int v2), some (.int v3)] (ls_s (ls_s (ls_s (ls_s ls_0)))) (s_X12_divides_34 p0 v1 v2 v3 h2 E0 hK)
    · replace E := ite_t E z5
      replace E := bnd_x E
      obtain ⟨x6, ex6, E⟩ := E
      refine r_iinc (v := x6) dX12_divides_28 rfl ex6 (by decide) (ls' := [some (.ref p0), some (.int v1), some (.int v2), some (.int x6)]) rfl ?_
      refine q_goto (tgt := 14) dX12_divides_31 (by decide) ?_
      cases E
      exact r_fewer [some (.ref p0), some (.int v1), some (.int v2), some (.int x6)] (ls_s (ls_s (ls_s (ls_s ls_0)))) hK
theorem s_X12_divides_14 {l : Launch} {G : mG} {Q : Option Value → mH → Prop} {X : String → mH → Prop} (p0 : Nat) (v1 : Int32) (v2 : Int32) (v3 : Int32) (h : mH) {o : ((Int32 × Int32 × mH) ⊕ (Int32 × mH))} (E : g_X12_divides_14 p0 v1 v2 v3 h = some o) (hK : (lpK (w_X12_divides_4 l G Q X p0) (fiI Q)) o) : mW l G m_X12_divides 2 0 0 14 [some (.ref p0), some (.int v1), some (.int v2), some (.int v3)] [] h Q X :=
  (lp_go (w_X12_divides_14 l G Q X p0 v1 v2) (lpK (w_X12_divides_4 l G Q X p0) (fiI Q)) (b_X12_divides_14 p0 v1 v2) (fun s o E hK => sb_X12_divides_14 p0 v1 v2 s.1 (s.2) E hK) _ _ _ E hK : w_X12_divides_14 l G Q X p0 v1 v2 (v3, h))
set_option maxRecDepth 100000 in
set_option maxHeartbeats 4000000 in
theorem sb_X12_divides_76 {l : Launch} {G : mG} {Q : Option Value → mH → Prop} {X : String → mH → Prop} (p0 : Nat) (v1 : Int32) (v2 : Int32) (h : mH) {o : ((Int32 × mH) ⊕ (Int32 × mH))} (E : b0_X12_divides_76 p0 v1 v2 h = some o) (hK : (lpK (w_X12_divides_76 l G Q X p0 v1) (fiI Q)) o) : mW l G m_X12_divides 2 0 0 76 [some (.ref p0), some (.int v1), some (.int v2), none] [] h Q X := by
  unfold b0_X12_divides_76 at E
  refine q_iload_n dX12_divides_76 rfl ?_
  refine q_aload_n dX12_divides_77 rfl ?_
  replace E := grd_some E
  obtain ⟨g1, E⟩ := E
  refine r_getI dX12_divides_78 FX12_274 g1 ?_
  refine q_icmp_ge (tgt := 102) dX12_divides_81 (by decide) (fun z2 => ?_) (fun z2 => ?_)
  · replace E := ite_t E z2
    refine q_iload_n dX12_divides_102 rfl ?_
    cases E
    exact q_ireturn dX12_divides_103 rfl hK
  · replace E := ite_f E z2
    refine q_aload_n dX12_divides_84 rfl ?_
    replace E := orf_some E
    obtain ⟨a3, ea3, E⟩ := E
    refine r_getR dX12_divides_85 FX12_78 g1 ea3 ?_
    refine q_iload_n dX12_divides_88 rfl ?_
    refine q_aload_n dX12_divides_89 rfl ?_
    replace E := orf_some E
    obtain ⟨a4, ea4, E⟩ := E
    refine r_getR dX12_divides_90 FX12_81 g1 ea4 ?_
    refine q_iload_n dX12_divides_93 rfl ?_
    replace E := grd_some E
    obtain ⟨g5, E⟩ := E
    replace E := grd_some E
    obtain ⟨g6, E⟩ := E
    refine r_iaload dX12_divides_94 g5 g6 ?_
    replace E := grd_some E
    obtain ⟨g8, E⟩ := E
    replace E := grd_some E
    obtain ⟨g9, E⟩ := E
    replace E := bnd_x E
    obtain ⟨h7, eh7, E⟩ := E
    refine r_iastore (hh := eh7) dX12_divides_95 g8 g9 ?_
    replace E := bnd_x E
    obtain ⟨x10, ex10, E⟩ := E
    refine r_iinc (v := x10) dX12_divides_96 rfl ex10 (by decide) (ls' := [some (.ref p0), some (.int v1), some (.int x10), none]) rfl ?_
    refine q_goto (tgt := 76) dX12_divides_99 (by decide) ?_
    cases E
    exact r_fewer [some (.ref p0), some (.int v1), some (.int x10), none] (ls_s (ls_s (ls_s (ls_n ls_0)))) hK
theorem s_X12_divides_76 {l : Launch} {G : mG} {Q : Option Value → mH → Prop} {X : String → mH → Prop} (p0 : Nat) (v1 : Int32) (v2 : Int32) (h : mH) {o : Int32 × mH} (E : g_X12_divides_76 p0 v1 v2 h = some o) (hK : (fiI Q) o) : mW l G m_X12_divides 2 0 0 76 [some (.ref p0), some (.int v1), some (.int v2), none] [] h Q X :=
  (lp_go (w_X12_divides_76 l G Q X p0 v1) (fiI Q) (b_X12_divides_76 p0 v1) (fun s o E hK => sb_X12_divides_76 p0 v1 s.1 (s.2) E hK) _ _ _ E hK : w_X12_divides_76 l G Q X p0 v1 (v2, h))
set_option maxRecDepth 100000 in
set_option maxHeartbeats 4000000 in
theorem sb_X12_divides_4 {l : Launch} {G : mG} {Q : Option Value → mH → Prop} {X : String → mH → Prop} (p0 : Nat) (v1 : Int32) (v2 : Int32) (h : mH) {o : ((Int32 × Int32 × mH) ⊕ (Int32 × mH))} (E : b0_X12_divides_4 p0 v1 v2 h = some o) (hK : (lpK (w_X12_divides_4 l G Q X p0) (fiI Q)) o) : mW l G m_X12_divides 2 0 0 4 [some (.ref p0), some (.int v1), some (.int v2), none] [] h Q X := by
  unfold b0_X12_divides_4 at E
  refine q_iload_n dX12_divides_4 rfl ?_
  refine q_aload_n dX12_divides_5 rfl ?_
  replace E := grd_some E
  obtain ⟨g1, E⟩ := E
  refine r_getI dX12_divides_6 FX12_274 g1 ?_
  refine q_icmp_ge (tgt := 74) dX12_divides_9 (by decide) (fun z2 => ?_) (fun z2 => ?_)
  · replace E := ite_t E z2
    refine q_iconst dX12_divides_74 ?_
    refine r_istore_n dX12_divides_75 (by decide) rfl (ls' := [some (.ref p0), some (.int v1), some (.int (Int32.ofInt 0)), none]) rfl ?_
    obtain ⟨o0, E0, rfl⟩ := inrO_some E
    exact r_fewer [some (.ref p0), some (.int v1), some (.int (Int32.ofInt 0)), none] (ls_s (ls_s (ls_s (ls_n ls_0)))) (s_X12_divides_76 p0 v1 (Int32.ofInt 0) h E0 hK)
  · replace E := ite_f E z2
    refine q_iconst dX12_divides_12 ?_
    refine r_istore_n dX12_divides_13 (by decide) rfl (ls' := [some (.ref p0), some (.int v1), some (.int v2), some (.int (Int32.ofInt 0))]) rfl ?_
    exact r_fewer [some (.ref p0), some (.int v1), some (.int v2), some (.int (Int32.ofInt 0))] (ls_s (ls_s (ls_s (ls_s ls_0)))) (s_X12_divides_14 p0 v1 v2 (Int32.ofInt 0) h E hK)
theorem s_X12_divides_4 {l : Launch} {G : mG} {Q : Option Value → mH → Prop} {X : String → mH → Prop} (p0 : Nat) (v1 : Int32) (v2 : Int32) (h : mH) {o : Int32 × mH} (E : g_X12_divides_4 p0 v1 v2 h = some o) (hK : (fiI Q) o) : mW l G m_X12_divides 2 0 0 4 [some (.ref p0), some (.int v1), some (.int v2), none] [] h Q X :=
  (lp_go (w_X12_divides_4 l G Q X p0) (fiI Q) (b_X12_divides_4 p0) (fun s o E hK => sb_X12_divides_4 p0 s.1 s.2.1 (s.2.2) E hK) _ _ _ E hK : w_X12_divides_4 l G Q X p0 (v1, v2, h))
set_option maxRecDepth 100000 in
set_option maxHeartbeats 4000000 in
theorem s_X12_divides_0 {l : Launch} {G : mG} {Q : Option Value → mH → Prop} {X : String → mH → Prop} (p0 : Nat) (h : mH) {o : Int32 × mH} (E : f_X12_divides p0 h = some o) (hK : (fiI Q) o) : mW l G m_X12_divides 2 0 0 0 [some (.ref p0), none, none, none] [] h Q X := by
  unfold f_X12_divides at E
  refine q_iconst dX12_divides_0 ?_
  refine r_istore_n dX12_divides_1 (by decide) rfl (ls' := [some (.ref p0), some (.int (Int32.ofInt 0)), none, none]) rfl ?_
  refine q_iconst dX12_divides_2 ?_
  refine r_istore_n dX12_divides_3 (by decide) rfl (ls' := [some (.ref p0), some (.int (Int32.ofInt 0)), some (.int (Int32.ofInt 0)), none]) rfl ?_
  exact r_fewer [some (.ref p0), some (.int (Int32.ofInt 0)), some (.int (Int32.ofInt 0)), none] (ls_s (ls_s (ls_s (ls_n ls_0)))) (s_X12_divides_4 p0 (Int32.ofInt 0) (Int32.ofInt 0) h E hK)
theorem c_X12_divides {l : Launch} {G : mG} {p0 : Nat} {h h' : mH} {r : Int32} (E : f_X12_divides p0 h = some (r, h')) : mMet l G m_X12_divides 2 0 0 [.ref p0] h (fun v k => v = some (.int r) ∧ h' = k) (fun _ _ => False) :=
  mMet_of (by decide +kernel) rfl (ac_c rfl ac_0) (Nat.le_of_ble_eq_true rfl) (s_X12_divides_0 p0 h E (And.intro rfl rfl))
set_option maxRecDepth 100000 in
set_option maxHeartbeats 4000000 in
theorem s_X12_smallest_39 {l : Launch} {G : mG} {Q : Option Value → mH → Prop} {X : String → mH → Prop} (p0 : Nat) (v2 : Int32) (s0 : Int32) (s1 : Int32) (sp2 : Nat) (h : mH) {o : ((Int32 × mH) ⊕ (Int32 × mH))} (E : g_X12_smallest_39 p0 v2 s0 s1 sp2 h = some o) (hK : (lpK (w_X12_smallest_7 l G Q X p0) (fiI Q)) o) : mW l G m_X12_smallest 4 0 0 39 [some (.ref p0), none, some (.int v2), none] [.int s0, .int s1, .ref sp2] h Q X := by
  unfold g_X12_smallest_39 at E
  replace E := grd_some E
  obtain ⟨g2, E⟩ := E
  replace E := grd_some E
  obtain ⟨g3, E⟩ := E
  replace E := bnd_x E
  obtain ⟨h1, eh1, E⟩ := E
  refine r_iastore (hh := eh1) dX12_smallest_39 g2 g3 ?_
  replace E := bnd_x E
  obtain ⟨x4, ex4, E⟩ := E
  refine r_iinc (v := x4) dX12_smallest_40 rfl ex4 (by decide) (ls' := [some (.ref p0), none, some (.int x4), none]) rfl ?_
  refine q_goto (tgt := 7) dX12_smallest_43 (by decide) ?_
  cases E
  exact r_fewer [some (.ref p0), none, some (.int x4), none] (ls_s (ls_n (ls_s (ls_n ls_0)))) hK
set_option maxRecDepth 100000 in
set_option maxHeartbeats 4000000 in
theorem sb_X12_smallest_50 {l : Launch} {G : mG} {Q : Option Value → mH → Prop} {X : String → mH → Prop} (p0 : Nat) (v2 : Int32) (v3 : Int32) (h : mH) {o : ((Int32 × Int32 × mH) ⊕ (Int32 × mH))} (E : b0_X12_smallest_50 p0 v2 v3 h = some o) (hK : (lpK (w_X12_smallest_50 l G Q X p0) (fiI Q)) o) : mW l G m_X12_smallest 4 0 0 50 [some (.ref p0), none, some (.int v2), some (.int v3)] [] h Q X := by
  unfold b0_X12_smallest_50 at E
  refine q_iload_n dX12_smallest_50 rfl ?_
  refine q_iload_n dX12_smallest_51 rfl ?_
  refine q_icmp_le (tgt := 65) dX12_smallest_52 (by decide) (fun z1 => ?_) (fun z1 => ?_)
  · replace E := ite_t E z1
    refine q_iload_n dX12_smallest_65 rfl ?_
    cases E
    exact q_ireturn dX12_smallest_66 rfl hK
  · replace E := ite_f E z1
    refine q_iload_n dX12_smallest_55 rfl ?_
    refine r_istore_n dX12_smallest_56 (by decide) rfl (ls' := [some (.ref p0), none, some (.int v3), some (.int v3)]) rfl ?_
    refine q_aload_n dX12_smallest_57 rfl ?_
    replace E := grd_some E
    obtain ⟨g4, E⟩ := E
    replace E := cal_some E
    obtain ⟨x3, h2, hc, E⟩ := E
    refine r_callV0 (mc := 0) (ms := 0) dX12_smallest_58 KX12_295 (c_X12_divides hc) g4 (by decide) (Nat.le_of_ble_eq_true rfl) (fun _ _ q => q.elim) ?_
    rintro _ _ ⟨rfl, rfl⟩
    clear hc
    refine r_istore_n dX12_smallest_61 (by decide) rfl (ls' := [some (.ref p0), none, some (.int v3), some (.int x3)]) rfl ?_
    refine q_goto (tgt := 50) dX12_smallest_62 (by decide) ?_
    cases E
    exact r_fewer [some (.ref p0), none, some (.int v3), some (.int x3)] (ls_s (ls_n (ls_s (ls_s ls_0)))) hK
theorem s_X12_smallest_50 {l : Launch} {G : mG} {Q : Option Value → mH → Prop} {X : String → mH → Prop} (p0 : Nat) (v2 : Int32) (v3 : Int32) (h : mH) {o : Int32 × mH} (E : g_X12_smallest_50 p0 v2 v3 h = some o) (hK : (fiI Q) o) : mW l G m_X12_smallest 4 0 0 50 [some (.ref p0), none, some (.int v2), some (.int v3)] [] h Q X :=
  (lp_go (w_X12_smallest_50 l G Q X p0) (fiI Q) (b_X12_smallest_50 p0) (fun s o E hK => sb_X12_smallest_50 p0 s.1 s.2.1 (s.2.2) E hK) _ _ _ E hK : w_X12_smallest_50 l G Q X p0 (v2, v3, h))
set_option maxRecDepth 100000 in
set_option maxHeartbeats 4000000 in
theorem sb_X12_smallest_7 {l : Launch} {G : mG} {Q : Option Value → mH → Prop} {X : String → mH → Prop} (p0 : Nat) (v2 : Int32) (h : mH) {o : ((Int32 × mH) ⊕ (Int32 × mH))} (E : b0_X12_smallest_7 p0 v2 h = some o) (hK : (lpK (w_X12_smallest_7 l G Q X p0) (fiI Q)) o) : mW l G m_X12_smallest 4 0 0 7 [some (.ref p0), none, some (.int v2), none] [] h Q X := by
  unfold b0_X12_smallest_7 at E
  refine q_iload_n dX12_smallest_7 rfl ?_
  refine q_aload_n dX12_smallest_8 rfl ?_
  replace E := grd_some E
  obtain ⟨g1, E⟩ := E
  refine r_getI dX12_smallest_9 FX12_274 g1 ?_
  refine q_icmp_ge (tgt := 46) dX12_smallest_12 (by decide) (fun z2 => ?_) (fun z2 => ?_)
  · replace E := ite_t E z2
    refine q_iconst dX12_smallest_46 ?_
    refine r_istore_n dX12_smallest_47 (by decide) rfl (ls' := [some (.ref p0), none, some (.int (Int32.ofInt 0)), none]) rfl ?_
    refine q_iconst dX12_smallest_48 ?_
    refine r_istore_n dX12_smallest_49 (by decide) rfl (ls' := [some (.ref p0), none, some (.int (Int32.ofInt 0)), some (.int (Int32.ofInt 1))]) rfl ?_
    obtain ⟨o0, E0, rfl⟩ := inrO_some E
    exact r_fewer [some (.ref p0), none, some (.int (Int32.ofInt 0)), some (.int (Int32.ofInt 1))] (ls_s (ls_n (ls_s (ls_s ls_0)))) (s_X12_smallest_50 p0 (Int32.ofInt 0) (Int32.ofInt 1) h E0 hK)
  · replace E := ite_f E z2
    refine q_aload_n dX12_smallest_15 rfl ?_
    replace E := orf_some E
    obtain ⟨a3, ea3, E⟩ := E
    refine r_getR dX12_smallest_16 FX12_78 g1 ea3 ?_
    refine q_iload_n dX12_smallest_19 rfl ?_
    refine q_aload_n dX12_smallest_20 rfl ?_
    refine q_iconst dX12_smallest_21 ?_
    refine q_aload_n dX12_smallest_22 rfl ?_
    replace E := orf_some E
    obtain ⟨a4, ea4, E⟩ := E
    refine r_getR dX12_smallest_23 FX12_69 g1 ea4 ?_
    refine q_iload_n dX12_smallest_26 rfl ?_
    replace E := grd_some E
    obtain ⟨g5, E⟩ := E
    replace E := grd_some E
    obtain ⟨g6, E⟩ := E
    refine r_iaload dX12_smallest_27 g5 g6 ?_
    replace E := cal_some E
    obtain ⟨x8, h7, hc, E⟩ := E
    refine r_callV2 (mc := 0) (ms := 0) dX12_smallest_28 KX12_286 (c_X12_accepts hc) g1 (by decide) (Nat.le_of_ble_eq_true rfl) (fun _ _ q => q.elim) ?_
    rintro _ _ ⟨rfl, rfl⟩
    clear hc
    refine q_if_eq (tgt := 38) dX12_smallest_31 (by decide) (fun z9 => ?_) (fun z9 => ?_)
    · replace E := ite_t E z9
      refine q_iconst dX12_smallest_38 ?_
      exact r_fewer [some (.ref p0), none, some (.int v2), none] (ls_s (ls_n (ls_s (ls_n ls_0)))) (s_X12_smallest_39 p0 v2 (Int32.ofInt 0) v2 a3 h7 E hK)
    · replace E := ite_f E z9
      refine q_iconst dX12_smallest_34 ?_
      refine q_goto (tgt := 39) dX12_smallest_35 (by decide) ?_
      exact r_fewer [some (.ref p0), none, some (.int v2), none] (ls_s (ls_n (ls_s (ls_n ls_0)))) (s_X12_smallest_39 p0 v2 (Int32.ofInt 1) v2 a3 h7 E hK)
theorem s_X12_smallest_7 {l : Launch} {G : mG} {Q : Option Value → mH → Prop} {X : String → mH → Prop} (p0 : Nat) (v2 : Int32) (h : mH) {o : Int32 × mH} (E : g_X12_smallest_7 p0 v2 h = some o) (hK : (fiI Q) o) : mW l G m_X12_smallest 4 0 0 7 [some (.ref p0), none, some (.int v2), none] [] h Q X :=
  (lp_go (w_X12_smallest_7 l G Q X p0) (fiI Q) (b_X12_smallest_7 p0) (fun s o E hK => sb_X12_smallest_7 p0 s.1 (s.2) E hK) _ _ _ E hK : w_X12_smallest_7 l G Q X p0 (v2, h))
set_option maxRecDepth 100000 in
set_option maxHeartbeats 4000000 in
theorem s_X12_smallest_0 {l : Launch} {G : mG} {Q : Option Value → mH → Prop} {X : String → mH → Prop} (p0 : Nat) (v1 : Int32) (h : mH) {o : Int32 × mH} (E : f_X12_smallest p0 v1 h = some o) (hK : (fiI Q) o) : mW l G m_X12_smallest 4 0 0 0 [some (.ref p0), some (.int v1), none, none] [] h Q X := by
  unfold f_X12_smallest at E
  refine q_aload_n dX12_smallest_0 rfl ?_
  refine q_iload_n dX12_smallest_1 rfl ?_
  replace E := grd_some E
  obtain ⟨g3, E⟩ := E
  replace E := cal_some E
  obtain ⟨_, h1, hc, E⟩ := E
  refine r_callV1 (mc := 0) (ms := 0) dX12_smallest_2 KX12_292 (c_X12_opens hc) g3 (by decide) (Nat.le_of_ble_eq_true rfl) (fun _ _ q => q.elim) ?_
  rintro _ _ ⟨rfl, rfl⟩
  clear hc
  refine q_iconst dX12_smallest_5 ?_
  refine r_istore_n dX12_smallest_6 (by decide) rfl (ls' := [some (.ref p0), some (.int v1), some (.int (Int32.ofInt 0)), none]) rfl ?_
  exact r_fewer [some (.ref p0), none, some (.int (Int32.ofInt 0)), none] (ls_s (ls_n (ls_s (ls_n ls_0)))) (s_X12_smallest_7 p0 (Int32.ofInt 0) h1 E hK)
theorem c_X12_smallest {l : Launch} {G : mG} {p0 : Nat} {v1 : Int32} {h h' : mH} {r : Int32} (E : f_X12_smallest p0 v1 h = some (r, h')) : mMet l G m_X12_smallest 4 0 0 [.ref p0, .int v1] h (fun v k => v = some (.int r) ∧ h' = k) (fun _ _ => False) :=
  mMet_of (by decide +kernel) rfl (ac_c rfl (ac_c rfl ac_0)) (Nat.le_of_ble_eq_true rfl) (s_X12_smallest_0 p0 v1 h E (And.intro rfl rfl))
set_option maxRecDepth 100000 in
set_option maxHeartbeats 4000000 in
theorem s_X12_row_0 {l : Launch} {G : mG} {Q : Option Value → mH → Prop} {X : String → mH → Prop} (v0 : Int32) (v1 : Int32) (h : mH) {o : Int32 × mH} (E : f_X12_row v0 v1 h = some o) (hK : (fiI Q) o) : mW l G m_X12_row 0 0 0 0 [some (.int v0), some (.int v1)] [] h Q X := by
  unfold f_X12_row at E
  refine q_iconst dX12_row_0 ?_
  refine q_iload_n dX12_row_1 rfl ?_
  refine q_imul dX12_row_2 ?_
  refine q_iload_n dX12_row_3 rfl ?_
  refine q_bipush (v := (Int32.ofInt 30)) dX12_row_4 (by decide) ?_
  refine q_idiv (by decide) dX12_row_6 ?_
  refine q_iadd dX12_row_7 ?_
  cases E
  exact q_ireturn dX12_row_8 rfl hK
theorem c_X12_row {l : Launch} {G : mG} {v0 : Int32} {v1 : Int32} {h h' : mH} {r : Int32} (E : f_X12_row v0 v1 h = some (r, h')) : mMet l G m_X12_row 0 0 0 [.int v0, .int v1] h (fun v k => v = some (.int r) ∧ h' = k) (fun _ _ => False) :=
  mMet_of (by decide +kernel) rfl (ac_c rfl (ac_c rfl ac_0)) (Nat.le_of_ble_eq_true rfl) (s_X12_row_0 v0 v1 h E (And.intro rfl rfl))
set_option maxRecDepth 100000 in
set_option maxHeartbeats 4000000 in
theorem s_X12_bit_0 {l : Launch} {G : mG} {Q : Option Value → mH → Prop} {X : String → mH → Prop} (v0 : Int32) (h : mH) {o : Int32 × mH} (E : f_X12_bit v0 h = some o) (hK : (fiI Q) o) : mW l G m_X12_bit 0 0 0 0 [some (.int v0)] [] h Q X := by
  unfold f_X12_bit at E
  refine q_iconst dX12_bit_0 ?_
  refine q_iload_n dX12_bit_1 rfl ?_
  refine q_bipush (v := (Int32.ofInt 30)) dX12_bit_2 (by decide) ?_
  refine q_irem (by decide) dX12_bit_4 ?_
  refine q_ishl dX12_bit_5 ?_
  cases E
  exact q_ireturn dX12_bit_6 rfl hK
theorem c_X12_bit {l : Launch} {G : mG} {v0 : Int32} {h h' : mH} {r : Int32} (E : f_X12_bit v0 h = some (r, h')) : mMet l G m_X12_bit 0 0 0 [.int v0] h (fun v k => v = some (.int r) ∧ h' = k) (fun _ _ => False) :=
  mMet_of (by decide +kernel) rfl (ac_c rfl ac_0) (Nat.le_of_ble_eq_true rfl) (s_X12_bit_0 v0 h E (And.intro rfl rfl))
set_option maxRecDepth 100000 in
set_option maxHeartbeats 4000000 in
theorem s_X12_tells_50 {l : Launch} {G : mG} {Q : Option Value → mH → Prop} {X : String → mH → Prop} (s0 : Int32) (h : mH) {o : Int32 × mH} (E : g_X12_tells_50 s0 h = some o) (hK : (fiI Q) o) : mW l G m_X12_tells 1 0 0 50 [none, none, none, none] [.int s0] h Q X := by
  unfold g_X12_tells_50 at E
  replace E := grd_some E
  obtain ⟨g1, E⟩ := E
  cases E
  exact q_zreturn dX12_tells_50 rfl (narZ g1) hK
set_option maxRecDepth 100000 in
set_option maxHeartbeats 4000000 in
theorem s_X12_tells_26 {l : Launch} {G : mG} {Q : Option Value → mH → Prop} {X : String → mH → Prop} (h : mH) {o : Int32 × mH} (E : g_X12_tells_26  h = some o) (hK : (fiI Q) o) : mW l G m_X12_tells 1 0 0 26 [none, none, none, none] [] h Q X := by
  unfold g_X12_tells_26 at E
  refine q_iconst dX12_tells_26 ?_
  refine q_goto (tgt := 50) dX12_tells_27 (by decide) ?_
  exact r_fewer [none, none, none, none] (ls_n (ls_n (ls_n (ls_n ls_0)))) (s_X12_tells_50 (Int32.ofInt 0) h E hK)
set_option maxRecDepth 100000 in
set_option maxHeartbeats 4000000 in
theorem s_X12_tells_0 {l : Launch} {G : mG} {Q : Option Value → mH → Prop} {X : String → mH → Prop} (p0 : Nat) (v1 : Int32) (v2 : Int32) (v3 : Int32) (h : mH) {o : Int32 × mH} (E : f_X12_tells p0 v1 v2 v3 h = some o) (hK : (fiI Q) o) : mW l G m_X12_tells 1 0 0 0 [some (.ref p0), some (.int v1), some (.int v2), some (.int v3)] [] h Q X := by
  unfold f_X12_tells at E
  refine q_iload_n dX12_tells_0 rfl ?_
  refine q_if_eq (tgt := 30) dX12_tells_1 (by decide) (fun z1 => ?_) (fun z1 => ?_)
  · replace E := ite_t E z1
    refine q_aload_n dX12_tells_30 rfl ?_
    refine q_iconst dX12_tells_31 ?_
    refine q_iload_n dX12_tells_32 rfl ?_
    replace E := grd_some E
    obtain ⟨g4, E⟩ := E
    replace E := cal_some E
    obtain ⟨x3, h2, hc, E⟩ := E
    refine r_callV2 (mc := 0) (ms := 0) dX12_tells_33 KX12_286 (c_X12_accepts hc) g4 (by decide) (Nat.le_of_ble_eq_true rfl) (fun _ _ q => q.elim) ?_
    rintro _ _ ⟨rfl, rfl⟩
    clear hc
    refine q_aload_n dX12_tells_36 rfl ?_
    refine q_iconst dX12_tells_37 ?_
    refine q_iload_n dX12_tells_38 rfl ?_
    replace E := grd_some E
    obtain ⟨g7, E⟩ := E
    replace E := cal_some E
    obtain ⟨x6, h5, hc, E⟩ := E
    refine r_callV2 (mc := 0) (ms := 0) dX12_tells_39 KX12_286 (c_X12_accepts hc) g7 (by decide) (Nat.le_of_ble_eq_true rfl) (fun _ _ q => q.elim) ?_
    rintro _ _ ⟨rfl, rfl⟩
    clear hc
    refine q_icmp_eq (tgt := 49) dX12_tells_42 (by decide) (fun z8 => ?_) (fun z8 => ?_)
    · replace E := ite_t E z8
      refine q_iconst dX12_tells_49 ?_
      exact r_fewer [none, none, none, none] (ls_n (ls_n (ls_n (ls_n ls_0)))) (s_X12_tells_50 (Int32.ofInt 0) h5 E hK)
    · replace E := ite_f E z8
      refine q_iconst dX12_tells_45 ?_
      refine q_goto (tgt := 50) dX12_tells_46 (by decide) ?_
      exact r_fewer [none, none, none, none] (ls_n (ls_n (ls_n (ls_n ls_0)))) (s_X12_tells_50 (Int32.ofInt 1) h5 E hK)
  · replace E := ite_f E z1
    refine q_aload_n dX12_tells_4 rfl ?_
    refine q_iconst dX12_tells_5 ?_
    refine q_iload_n dX12_tells_6 rfl ?_
    replace E := grd_some E
    obtain ⟨g11, E⟩ := E
    replace E := cal_some E
    obtain ⟨x10, h9, hc, E⟩ := E
    refine r_callV2 (mc := 0) (ms := 0) dX12_tells_7 KX12_286 (c_X12_accepts hc) g11 (by decide) (Nat.le_of_ble_eq_true rfl) (fun _ _ q => q.elim) ?_
    rintro _ _ ⟨rfl, rfl⟩
    clear hc
    refine q_if_eq (tgt := 26) dX12_tells_10 (by decide) (fun z12 => ?_) (fun z12 => ?_)
    · replace E := ite_t E z12
      exact r_fewer [none, none, none, none] (ls_n (ls_n (ls_n (ls_n ls_0)))) (s_X12_tells_26 h9 E hK)
    · replace E := ite_f E z12
      refine q_aload_n dX12_tells_13 rfl ?_
      refine q_iconst dX12_tells_14 ?_
      refine q_iload_n dX12_tells_15 rfl ?_
      replace E := grd_some E
      obtain ⟨g15, E⟩ := E
      replace E := cal_some E
      obtain ⟨x14, h13, hc, E⟩ := E
      refine r_callV2 (mc := 0) (ms := 0) dX12_tells_16 KX12_286 (c_X12_accepts hc) g15 (by decide) (Nat.le_of_ble_eq_true rfl) (fun _ _ q => q.elim) ?_
      rintro _ _ ⟨rfl, rfl⟩
      clear hc
      refine q_if_ne (tgt := 26) dX12_tells_19 (by decide) (fun z16 => ?_) (fun z16 => ?_)
      · replace E := ite_f E z16
        exact r_fewer [none, none, none, none] (ls_n (ls_n (ls_n (ls_n ls_0)))) (s_X12_tells_26 h13 E hK)
      · replace E := ite_t E z16
        refine q_iconst dX12_tells_22 ?_
        refine q_goto (tgt := 50) dX12_tells_23 (by decide) ?_
        exact r_fewer [none, none, none, none] (ls_n (ls_n (ls_n (ls_n ls_0)))) (s_X12_tells_50 (Int32.ofInt 1) h13 E hK)
theorem c_X12_tells {l : Launch} {G : mG} {p0 : Nat} {v1 : Int32} {v2 : Int32} {v3 : Int32} {h h' : mH} {r : Int32} (E : f_X12_tells p0 v1 v2 v3 h = some (r, h')) : mMet l G m_X12_tells 1 0 0 [.ref p0, .int v1, .int v2, .int v3] h (fun v k => v = some (.int r) ∧ h' = k) (fun _ _ => False) :=
  mMet_of (by decide +kernel) rfl (ac_c rfl (ac_c rfl (ac_c rfl (ac_c rfl ac_0)))) (Nat.le_of_ble_eq_true rfl) (s_X12_tells_0 p0 v1 v2 v3 h E (And.intro rfl rfl))
set_option maxRecDepth 100000 in
set_option maxHeartbeats 4000000 in
theorem s_X12_goesOn_209 {l : Launch} {G : mG} {Q : Option Value → mH → Prop} {X : String → mH → Prop} (p0 : Nat) (v1 : Int32) (v2 : Int32) (v3 : Int32) (v4 : Int32) (v5 : Int32) (v6 : Int32) (h : mH) {o : ((Int32 × Int32 × mH) ⊕ ((Int32 × Int32 × mH) ⊕ ((Int32 × Int32 × mH) ⊕ (Int32 × mH))))} (E : g_X12_goesOn_209 p0 v1 v2 v3 v4 v5 v6 h = some o) (hK : (lpK (w_X12_goesOn_95 l G Q X p0 v2 v3 v4 v5) (lpK (w_X12_goesOn_38 l G Q X p0 v2) (lpK (w_X12_goesOn_26 l G Q X p0) (fiI Q)))) o) : mW l G m_X12_goesOn 1 0 0 209 [some (.ref p0), some (.int v1), some (.int v2), some (.int v3), some (.int v4), some (.int v5), some (.int v6), none, none] [] h Q X := by
  unfold g_X12_goesOn_209 at E
  replace E := bnd_x E
  obtain ⟨x1, ex1, E⟩ := E
  refine r_iinc (v := x1) dX12_goesOn_209 rfl ex1 (by decide) (ls' := [some (.ref p0), some (.int v1), some (.int v2), some (.int v3), some (.int v4), some (.int v5), some (.int x1), none, none]) rfl ?_
  refine q_goto (tgt := 95) dX12_goesOn_212 (by decide) ?_
  cases E
  exact r_fewer [some (.ref p0), some (.int v1), some (.int v2), some (.int v3), some (.int v4), some (.int v5), some (.int x1), none, none] (ls_s (ls_s (ls_s (ls_s (ls_s (ls_s (ls_s (ls_n (ls_n ls_0))))))))) hK
set_option maxRecDepth 100000 in
set_option maxHeartbeats 4000000 in
theorem s_X12_goesOn_215 {l : Launch} {G : mG} {Q : Option Value → mH → Prop} {X : String → mH → Prop} (p0 : Nat) (v1 : Int32) (v2 : Int32) (v3 : Int32) (h : mH) {o : ((Int32 × Int32 × mH) ⊕ ((Int32 × Int32 × mH) ⊕ (Int32 × mH)))} (E : g_X12_goesOn_215 p0 v1 v2 v3 h = some o) (hK : (lpK (w_X12_goesOn_38 l G Q X p0 v2) (lpK (w_X12_goesOn_26 l G Q X p0) (fiI Q))) o) : mW l G m_X12_goesOn 1 0 0 215 [some (.ref p0), some (.int v1), some (.int v2), some (.int v3), none, none, none, none, none] [] h Q X := by
  unfold g_X12_goesOn_215 at E
  replace E := bnd_x E
  obtain ⟨x1, ex1, E⟩ := E
  refine r_iinc (v := x1) dX12_goesOn_215 rfl ex1 (by decide) (ls' := [some (.ref p0), some (.int v1), some (.int v2), some (.int x1), none, none, none, none, none]) rfl ?_
  refine q_goto (tgt := 38) dX12_goesOn_218 (by decide) ?_
  cases E
  exact r_fewer [some (.ref p0), some (.int v1), some (.int v2), some (.int x1), none, none, none, none, none] (ls_s (ls_s (ls_s (ls_s (ls_n (ls_n (ls_n (ls_n (ls_n ls_0))))))))) hK
set_option maxRecDepth 100000 in
set_option maxHeartbeats 4000000 in
theorem sb_X12_goesOn_95 {l : Launch} {G : mG} {Q : Option Value → mH → Prop} {X : String → mH → Prop} (p0 : Nat) (v1 : Int32) (v2 : Int32) (v3 : Int32) (v4 : Int32) (v5 : Int32) (v6 : Int32) (h : mH) {o : ((Int32 × Int32 × mH) ⊕ ((Int32 × Int32 × mH) ⊕ ((Int32 × Int32 × mH) ⊕ (Int32 × mH))))} (E : b0_X12_goesOn_95 p0 v1 v2 v3 v4 v5 v6 h = some o) (hK : (lpK (w_X12_goesOn_95 l G Q X p0 v2 v3 v4 v5) (lpK (w_X12_goesOn_38 l G Q X p0 v2) (lpK (w_X12_goesOn_26 l G Q X p0) (fiI Q)))) o) : mW l G m_X12_goesOn 1 0 0 95 [some (.ref p0), some (.int v1), some (.int v2), some (.int v3), some (.int v4), some (.int v5), some (.int v6), none, none] [] h Q X := by
  unfold b0_X12_goesOn_95 at E
  refine q_iload dX12_goesOn_95 rfl ?_
  refine q_iconst dX12_goesOn_97 ?_
  refine q_icmp_ge (tgt := 215) dX12_goesOn_98 (by decide) (fun z1 => ?_) (fun z1 => ?_)
  · replace E := ite_t E z1
    obtain ⟨o0, E0, rfl⟩ := inrO_some E
    exact r_fewer [some (.ref p0), some (.int v1), some (.int v2), some (.int v3), none, none, none, none, none] (ls_s (ls_s (ls_s (ls_s (ls_n (ls_n (ls_n (ls_n (ls_n ls_0))))))))) (s_X12_goesOn_215 p0 v1 v2 v3 h E0 hK)
  · replace E := ite_f E z1
    refine q_aload_n dX12_goesOn_101 rfl ?_
    refine q_iconst dX12_goesOn_102 ?_
    refine q_iload dX12_goesOn_103 rfl ?_
    refine q_iload dX12_goesOn_105 rfl ?_
    replace E := grd_some E
    obtain ⟨g4, E⟩ := E
    replace E := cal_some E
    obtain ⟨x3, h2, hc, E⟩ := E
    refine r_callV3 (mc := 0) (ms := 0) dX12_goesOn_107 KX12_277 (c_X12_to hc) g4 (by decide) (Nat.le_of_ble_eq_true rfl) (fun _ _ q => q.elim) ?_
    rintro _ _ ⟨rfl, rfl⟩
    clear hc
    refine r_istore dX12_goesOn_110 (by decide) rfl (ls' := [some (.ref p0), some (.int v1), some (.int v2), some (.int v3), some (.int v4), some (.int v5), some (.int v6), some (.int x3), none]) rfl ?_
    refine q_aload_n dX12_goesOn_112 rfl ?_
    refine q_iconst dX12_goesOn_113 ?_
    refine q_iload dX12_goesOn_114 rfl ?_
    refine q_iload dX12_goesOn_116 rfl ?_
    replace E := grd_some E
    obtain ⟨g7, E⟩ := E
    replace E := cal_some E
    obtain ⟨x6, h5, hc, E⟩ := E
    refine r_callV3 (mc := 0) (ms := 0) dX12_goesOn_118 KX12_277 (c_X12_to hc) g7 (by decide) (Nat.le_of_ble_eq_true rfl) (fun _ _ q => q.elim) ?_
    rintro _ _ ⟨rfl, rfl⟩
    clear hc
    refine r_istore dX12_goesOn_121 (by decide) rfl (ls' := [some (.ref p0), some (.int v1), some (.int v2), some (.int v3), some (.int v4), some (.int v5), some (.int v6), some (.int x3), some (.int x6)]) rfl ?_
    refine q_aload_n dX12_goesOn_123 rfl ?_
    replace E := grd_some E
    obtain ⟨g8, E⟩ := E
    replace E := orf_some E
    obtain ⟨a9, ea9, E⟩ := E
    refine r_getR dX12_goesOn_124 FX12_87 g8 ea9 ?_
    refine q_iload dX12_goesOn_127 rfl ?_
    refine q_iload dX12_goesOn_129 rfl ?_
    replace E := cal_some E
    obtain ⟨x11, h10, hc, E⟩ := E
    refine r_callS2 (mc := 0) (ms := 0) dX12_goesOn_131 KX12_298 (c_X12_row hc) (by decide) (Nat.le_of_ble_eq_true rfl) (fun _ _ q => q.elim) ?_
    rintro _ _ ⟨rfl, rfl⟩
    clear hc
    replace E := grd_some E
    obtain ⟨g12, E⟩ := E
    replace E := grd_some E
    obtain ⟨g13, E⟩ := E
    refine r_iaload dX12_goesOn_134 g12 g13 ?_
    refine q_iload dX12_goesOn_135 rfl ?_
    replace E := cal_some E
    obtain ⟨x15, h14, hc, E⟩ := E
    refine r_callS1 (mc := 0) (ms := 0) dX12_goesOn_137 KX12_301 (c_X12_bit hc) (by decide) (Nat.le_of_ble_eq_true rfl) (fun _ _ q => q.elim) ?_
    rintro _ _ ⟨rfl, rfl⟩
    clear hc
    refine q_iand dX12_goesOn_140 ?_
    refine q_if_eq (tgt := 147) dX12_goesOn_141 (by decide) (fun z16 => ?_) (fun z16 => ?_)
    · replace E := ite_t E z16
      refine q_aload_n dX12_goesOn_147 rfl ?_
      replace E := grd_some E
      obtain ⟨g17, E⟩ := E
      replace E := orf_some E
      obtain ⟨a18, ea18, E⟩ := E
      refine r_getR dX12_goesOn_148 FX12_87 g17 ea18 ?_
      refine q_iload dX12_goesOn_151 rfl ?_
      refine q_iload dX12_goesOn_153 rfl ?_
      replace E := cal_some E
      obtain ⟨x20, h19, hc, E⟩ := E
      refine r_callS2 (mc := 0) (ms := 0) dX12_goesOn_155 KX12_298 (c_X12_row hc) (by decide) (Nat.le_of_ble_eq_true rfl) (fun _ _ q => q.elim) ?_
      rintro _ _ ⟨rfl, rfl⟩
      clear hc
      refine q_aload_n dX12_goesOn_158 rfl ?_
      replace E := grd_some E
      obtain ⟨g21, E⟩ := E
      replace E := orf_some E
      obtain ⟨a22, ea22, E⟩ := E
      refine r_getR dX12_goesOn_159 FX12_87 g21 ea22 ?_
      refine q_iload dX12_goesOn_162 rfl ?_
      refine q_iload dX12_goesOn_164 rfl ?_
      replace E := cal_some E
      obtain ⟨x24, h23, hc, E⟩ := E
      refine r_callS2 (mc := 0) (ms := 0) dX12_goesOn_166 KX12_298 (c_X12_row hc) (by decide) (Nat.le_of_ble_eq_true rfl) (fun _ _ q => q.elim) ?_
      rintro _ _ ⟨rfl, rfl⟩
      clear hc
      replace E := grd_some E
      obtain ⟨g25, E⟩ := E
      replace E := grd_some E
      obtain ⟨g26, E⟩ := E
      refine r_iaload dX12_goesOn_169 g25 g26 ?_
      refine q_iload dX12_goesOn_170 rfl ?_
      replace E := cal_some E
      obtain ⟨x28, h27, hc, E⟩ := E
      refine r_callS1 (mc := 0) (ms := 0) dX12_goesOn_172 KX12_301 (c_X12_bit hc) (by decide) (Nat.le_of_ble_eq_true rfl) (fun _ _ q => q.elim) ?_
      rintro _ _ ⟨rfl, rfl⟩
      clear hc
      refine q_ior dX12_goesOn_175 ?_
      replace E := grd_some E
      obtain ⟨g30, E⟩ := E
      replace E := grd_some E
      obtain ⟨g31, E⟩ := E
      replace E := bnd_x E
      obtain ⟨h29, eh29, E⟩ := E
      refine r_iastore (hh := eh29) dX12_goesOn_176 g30 g31 ?_
      refine q_aload_n dX12_goesOn_177 rfl ?_
      replace E := grd_some E
      obtain ⟨g32, E⟩ := E
      replace E := orf_some E
      obtain ⟨a33, ea33, E⟩ := E
      refine r_getR dX12_goesOn_178 FX12_93 g32 ea33 ?_
      refine q_iload dX12_goesOn_181 rfl ?_
      refine q_iload dX12_goesOn_183 rfl ?_
      replace E := cal_some E
      obtain ⟨x35, h34, hc, E⟩ := E
      refine r_callS2 (mc := 0) (ms := 0) dX12_goesOn_185 KX12_298 (c_X12_row hc) (by decide) (Nat.le_of_ble_eq_true rfl) (fun _ _ q => q.elim) ?_
      rintro _ _ ⟨rfl, rfl⟩
      clear hc
      refine q_aload_n dX12_goesOn_188 rfl ?_
      replace E := grd_some E
      obtain ⟨g36, E⟩ := E
      replace E := orf_some E
      obtain ⟨a37, ea37, E⟩ := E
      refine r_getR dX12_goesOn_189 FX12_93 g36 ea37 ?_
      refine q_iload dX12_goesOn_192 rfl ?_
      refine q_iload dX12_goesOn_194 rfl ?_
      replace E := cal_some E
      obtain ⟨x39, h38, hc, E⟩ := E
      refine r_callS2 (mc := 0) (ms := 0) dX12_goesOn_196 KX12_298 (c_X12_row hc) (by decide) (Nat.le_of_ble_eq_true rfl) (fun _ _ q => q.elim) ?_
      rintro _ _ ⟨rfl, rfl⟩
      clear hc
      replace E := grd_some E
      obtain ⟨g40, E⟩ := E
      replace E := grd_some E
      obtain ⟨g41, E⟩ := E
      refine r_iaload dX12_goesOn_199 g40 g41 ?_
      refine q_iload dX12_goesOn_200 rfl ?_
      replace E := cal_some E
      obtain ⟨x43, h42, hc, E⟩ := E
      refine r_callS1 (mc := 0) (ms := 0) dX12_goesOn_202 KX12_301 (c_X12_bit hc) (by decide) (Nat.le_of_ble_eq_true rfl) (fun _ _ q => q.elim) ?_
      rintro _ _ ⟨rfl, rfl⟩
      clear hc
      refine q_ior dX12_goesOn_205 ?_
      replace E := grd_some E
      obtain ⟨g45, E⟩ := E
      replace E := grd_some E
      obtain ⟨g46, E⟩ := E
      replace E := bnd_x E
      obtain ⟨h44, eh44, E⟩ := E
      refine r_iastore (hh := eh44) dX12_goesOn_206 g45 g46 ?_
      refine q_iconst dX12_goesOn_207 ?_
      refine r_istore_n dX12_goesOn_208 (by decide) rfl (ls' := [some (.ref p0), some (.int (Int32.ofInt 1)), some (.int v2), some (.int v3), some (.int v4), some (.int v5), some (.int v6), some (.int x3), some (.int x6)]) rfl ?_
      exact r_fewer [some (.ref p0), some (.int (Int32.ofInt 1)), some (.int v2), some (.int v3), some (.int v4), some (.int v5), some (.int v6), none, none] (ls_s (ls_s (ls_s (ls_s (ls_s (ls_s (ls_s (ls_n (ls_n ls_0))))))))) (s_X12_goesOn_209 p0 (Int32.ofInt 1) v2 v3 v4 v5 v6 h44 E hK)
    · replace E := ite_f E z16
      refine q_goto (tgt := 209) dX12_goesOn_144 (by decide) ?_
      exact r_fewer [some (.ref p0), some (.int v1), some (.int v2), some (.int v3), some (.int v4), some (.int v5), some (.int v6), none, none] (ls_s (ls_s (ls_s (ls_s (ls_s (ls_s (ls_s (ls_n (ls_n ls_0))))))))) (s_X12_goesOn_209 p0 v1 v2 v3 v4 v5 v6 h14 E hK)
theorem s_X12_goesOn_95 {l : Launch} {G : mG} {Q : Option Value → mH → Prop} {X : String → mH → Prop} (p0 : Nat) (v1 : Int32) (v2 : Int32) (v3 : Int32) (v4 : Int32) (v5 : Int32) (v6 : Int32) (h : mH) {o : ((Int32 × Int32 × mH) ⊕ ((Int32 × Int32 × mH) ⊕ (Int32 × mH)))} (E : g_X12_goesOn_95 p0 v1 v2 v3 v4 v5 v6 h = some o) (hK : (lpK (w_X12_goesOn_38 l G Q X p0 v2) (lpK (w_X12_goesOn_26 l G Q X p0) (fiI Q))) o) : mW l G m_X12_goesOn 1 0 0 95 [some (.ref p0), some (.int v1), some (.int v2), some (.int v3), some (.int v4), some (.int v5), some (.int v6), none, none] [] h Q X :=
  (lp_go (w_X12_goesOn_95 l G Q X p0 v2 v3 v4 v5) (lpK (w_X12_goesOn_38 l G Q X p0 v2) (lpK (w_X12_goesOn_26 l G Q X p0) (fiI Q))) (b_X12_goesOn_95 p0 v2 v3 v4 v5) (fun s o E hK => sb_X12_goesOn_95 p0 s.1 v2 v3 v4 v5 s.2.1 (s.2.2) E hK) _ _ _ E hK : w_X12_goesOn_95 l G Q X p0 v2 v3 v4 v5 (v1, v6, h))
set_option maxRecDepth 100000 in
set_option maxHeartbeats 4000000 in
theorem sb_X12_goesOn_38 {l : Launch} {G : mG} {Q : Option Value → mH → Prop} {X : String → mH → Prop} (p0 : Nat) (v1 : Int32) (v2 : Int32) (v3 : Int32) (h : mH) {o : ((Int32 × Int32 × mH) ⊕ ((Int32 × Int32 × mH) ⊕ (Int32 × mH)))} (E : b0_X12_goesOn_38 p0 v1 v2 v3 h = some o) (hK : (lpK (w_X12_goesOn_38 l G Q X p0 v2) (lpK (w_X12_goesOn_26 l G Q X p0) (fiI Q))) o) : mW l G m_X12_goesOn 1 0 0 38 [some (.ref p0), some (.int v1), some (.int v2), some (.int v3), none, none, none, none, none] [] h Q X := by
  unfold b0_X12_goesOn_38 at E
  refine q_iload_n dX12_goesOn_38 rfl ?_
  refine q_aload_n dX12_goesOn_39 rfl ?_
  replace E := grd_some E
  obtain ⟨g1, E⟩ := E
  replace E := orf_some E
  obtain ⟨a2, ea2, E⟩ := E
  refine r_getR dX12_goesOn_40 FX12_75 g1 ea2 ?_
  refine q_iconst dX12_goesOn_43 ?_
  replace E := grd_some E
  obtain ⟨g3, E⟩ := E
  replace E := grd_some E
  obtain ⟨g4, E⟩ := E
  refine r_iaload dX12_goesOn_44 g3 g4 ?_
  refine q_icmp_ge (tgt := 221) dX12_goesOn_45 (by decide) (fun z5 => ?_) (fun z5 => ?_)
  · replace E := ite_t E z5
    replace E := bnd_x E
    obtain ⟨x6, ex6, E⟩ := E
    refine r_iinc (v := x6) dX12_goesOn_221 rfl ex6 (by decide) (ls' := [some (.ref p0), some (.int v1), some (.int x6), some (.int v3), none, none, none, none, none]) rfl ?_
    refine q_goto (tgt := 26) dX12_goesOn_224 (by decide) ?_
    cases E
    exact r_fewer [some (.ref p0), some (.int v1), some (.int x6), none, none, none, none, none, none] (ls_s (ls_s (ls_s (ls_n (ls_n (ls_n (ls_n (ls_n (ls_n ls_0))))))))) hK
  · replace E := ite_f E z5
    refine q_aload_n dX12_goesOn_48 rfl ?_
    replace E := orf_some E
    obtain ⟨a7, ea7, E⟩ := E
    refine r_getR dX12_goesOn_49 FX12_69 g1 ea7 ?_
    refine q_iload_n dX12_goesOn_52 rfl ?_
    replace E := grd_some E
    obtain ⟨g8, E⟩ := E
    replace E := grd_some E
    obtain ⟨g9, E⟩ := E
    refine r_iaload dX12_goesOn_53 g8 g9 ?_
    replace E := bnd_x E
    obtain ⟨x10, ex10, E⟩ := E
    refine r_istore dX12_goesOn_54 (by decide) ex10 (ls' := [some (.ref p0), some (.int v1), some (.int v2), some (.int v3), some (.int x10), none, none, none, none]) rfl ?_
    refine q_aload_n dX12_goesOn_56 rfl ?_
    refine r_getR dX12_goesOn_57 FX12_69 g1 ea7 ?_
    refine q_sipush (v := (Int32.ofInt 129)) dX12_goesOn_60 (by decide) ?_
    refine q_iload_n dX12_goesOn_63 rfl ?_
    refine q_iadd dX12_goesOn_64 ?_
    replace E := grd_some E
    obtain ⟨g12, E⟩ := E
    refine r_iaload dX12_goesOn_65 g8 g12 ?_
    replace E := bnd_x E
    obtain ⟨x13, ex13, E⟩ := E
    refine r_istore dX12_goesOn_66 (by decide) ex13 (ls' := [some (.ref p0), some (.int v1), some (.int v2), some (.int v3), some (.int x10), some (.int x13), none, none, none]) rfl ?_
    refine q_aload_n dX12_goesOn_68 rfl ?_
    replace E := orf_some E
    obtain ⟨a14, ea14, E⟩ := E
    refine r_getR dX12_goesOn_69 FX12_90 g1 ea14 ?_
    refine q_iload dX12_goesOn_72 rfl ?_
    refine q_iload dX12_goesOn_74 rfl ?_
    replace E := cal_some E
    obtain ⟨x16, h15, hc, E⟩ := E
    refine r_callS2 (mc := 0) (ms := 0) dX12_goesOn_76 KX12_298 (c_X12_row hc) (by decide) (Nat.le_of_ble_eq_true rfl) (fun _ _ q => q.elim) ?_
    rintro _ _ ⟨rfl, rfl⟩
    clear hc
    replace E := grd_some E
    obtain ⟨g17, E⟩ := E
    replace E := grd_some E
    obtain ⟨g18, E⟩ := E
    refine r_iaload dX12_goesOn_79 g17 g18 ?_
    refine q_iload dX12_goesOn_80 rfl ?_
    replace E := cal_some E
    obtain ⟨x20, h19, hc, E⟩ := E
    refine r_callS1 (mc := 0) (ms := 0) dX12_goesOn_82 KX12_301 (c_X12_bit hc) (by decide) (Nat.le_of_ble_eq_true rfl) (fun _ _ q => q.elim) ?_
    rintro _ _ ⟨rfl, rfl⟩
    clear hc
    refine q_iand dX12_goesOn_85 ?_
    refine q_if_ne (tgt := 92) dX12_goesOn_86 (by decide) (fun z21 => ?_) (fun z21 => ?_)
    · replace E := ite_f E z21
      refine q_iconst dX12_goesOn_92 ?_
      refine r_istore dX12_goesOn_93 (by decide) rfl (ls' := [some (.ref p0), some (.int v1), some (.int v2), some (.int v3), some (.int x10), some (.int x13), some (.int (Int32.ofInt 0)), none, none]) rfl ?_
      exact r_fewer [some (.ref p0), some (.int v1), some (.int v2), some (.int v3), some (.int x10), some (.int x13), some (.int (Int32.ofInt 0)), none, none] (ls_s (ls_s (ls_s (ls_s (ls_s (ls_s (ls_s (ls_n (ls_n ls_0))))))))) (s_X12_goesOn_95 p0 v1 v2 v3 x10 x13 (Int32.ofInt 0) h19 E hK)
    · replace E := ite_t E z21
      refine q_goto (tgt := 215) dX12_goesOn_89 (by decide) ?_
      exact r_fewer [some (.ref p0), some (.int v1), some (.int v2), some (.int v3), none, none, none, none, none] (ls_s (ls_s (ls_s (ls_s (ls_n (ls_n (ls_n (ls_n (ls_n ls_0))))))))) (s_X12_goesOn_215 p0 v1 v2 v3 h19 E hK)
theorem s_X12_goesOn_38 {l : Launch} {G : mG} {Q : Option Value → mH → Prop} {X : String → mH → Prop} (p0 : Nat) (v1 : Int32) (v2 : Int32) (v3 : Int32) (h : mH) {o : ((Int32 × Int32 × mH) ⊕ (Int32 × mH))} (E : g_X12_goesOn_38 p0 v1 v2 v3 h = some o) (hK : (lpK (w_X12_goesOn_26 l G Q X p0) (fiI Q)) o) : mW l G m_X12_goesOn 1 0 0 38 [some (.ref p0), some (.int v1), some (.int v2), some (.int v3), none, none, none, none, none] [] h Q X :=
  (lp_go (w_X12_goesOn_38 l G Q X p0 v2) (lpK (w_X12_goesOn_26 l G Q X p0) (fiI Q)) (b_X12_goesOn_38 p0 v2) (fun s o E hK => sb_X12_goesOn_38 p0 s.1 v2 s.2.1 (s.2.2) E hK) _ _ _ E hK : w_X12_goesOn_38 l G Q X p0 v2 (v1, v3, h))
set_option maxRecDepth 100000 in
set_option maxHeartbeats 4000000 in
theorem sb_X12_goesOn_229 {l : Launch} {G : mG} {Q : Option Value → mH → Prop} {X : String → mH → Prop} (p0 : Nat) (v1 : Int32) (v2 : Int32) (h : mH) {o : ((Int32 × mH) ⊕ (Int32 × mH))} (E : b0_X12_goesOn_229 p0 v1 v2 h = some o) (hK : (lpK (w_X12_goesOn_229 l G Q X p0 v1) (fiI Q)) o) : mW l G m_X12_goesOn 1 0 0 229 [some (.ref p0), some (.int v1), some (.int v2), none, none, none, none, none, none] [] h Q X := by
  unfold b0_X12_goesOn_229 at E
  refine q_iload_n dX12_goesOn_229 rfl ?_
  refine q_sipush (v := (Int32.ofInt 645)) dX12_goesOn_230 (by decide) ?_
  refine q_icmp_ge (tgt := 254) dX12_goesOn_233 (by decide) (fun z1 => ?_) (fun z1 => ?_)
  · replace E := ite_t E z1
    refine q_iload_n dX12_goesOn_254 rfl ?_
    replace E := grd_some E
    obtain ⟨g2, E⟩ := E
    cases E
    exact q_zreturn dX12_goesOn_255 rfl (narZ g2) hK
  · replace E := ite_f E z1
    refine q_aload_n dX12_goesOn_236 rfl ?_
    replace E := grd_some E
    obtain ⟨g3, E⟩ := E
    replace E := orf_some E
    obtain ⟨a4, ea4, E⟩ := E
    refine r_getR dX12_goesOn_237 FX12_90 g3 ea4 ?_
    refine q_iload_n dX12_goesOn_240 rfl ?_
    refine q_aload_n dX12_goesOn_241 rfl ?_
    replace E := orf_some E
    obtain ⟨a5, ea5, E⟩ := E
    refine r_getR dX12_goesOn_242 FX12_93 g3 ea5 ?_
    refine q_iload_n dX12_goesOn_245 rfl ?_
    replace E := grd_some E
    obtain ⟨g6, E⟩ := E
    replace E := grd_some E
    obtain ⟨g7, E⟩ := E
    refine r_iaload dX12_goesOn_246 g6 g7 ?_
    replace E := grd_some E
    obtain ⟨g9, E⟩ := E
    replace E := grd_some E
    obtain ⟨g10, E⟩ := E
    replace E := bnd_x E
    obtain ⟨h8, eh8, E⟩ := E
    refine r_iastore (hh := eh8) dX12_goesOn_247 g9 g10 ?_
    replace E := bnd_x E
    obtain ⟨x11, ex11, E⟩ := E
    refine r_iinc (v := x11) dX12_goesOn_248 rfl ex11 (by decide) (ls' := [some (.ref p0), some (.int v1), some (.int x11), none, none, none, none, none, none]) rfl ?_
    refine q_goto (tgt := 229) dX12_goesOn_251 (by decide) ?_
    cases E
    exact r_fewer [some (.ref p0), some (.int v1), some (.int x11), none, none, none, none, none, none] (ls_s (ls_s (ls_s (ls_n (ls_n (ls_n (ls_n (ls_n (ls_n ls_0))))))))) hK
theorem s_X12_goesOn_229 {l : Launch} {G : mG} {Q : Option Value → mH → Prop} {X : String → mH → Prop} (p0 : Nat) (v1 : Int32) (v2 : Int32) (h : mH) {o : Int32 × mH} (E : g_X12_goesOn_229 p0 v1 v2 h = some o) (hK : (fiI Q) o) : mW l G m_X12_goesOn 1 0 0 229 [some (.ref p0), some (.int v1), some (.int v2), none, none, none, none, none, none] [] h Q X :=
  (lp_go (w_X12_goesOn_229 l G Q X p0 v1) (fiI Q) (b_X12_goesOn_229 p0 v1) (fun s o E hK => sb_X12_goesOn_229 p0 v1 s.1 (s.2) E hK) _ _ _ E hK : w_X12_goesOn_229 l G Q X p0 v1 (v2, h))
set_option maxRecDepth 100000 in
set_option maxHeartbeats 4000000 in
theorem sb_X12_goesOn_26 {l : Launch} {G : mG} {Q : Option Value → mH → Prop} {X : String → mH → Prop} (p0 : Nat) (v1 : Int32) (v2 : Int32) (h : mH) {o : ((Int32 × Int32 × mH) ⊕ (Int32 × mH))} (E : b0_X12_goesOn_26 p0 v1 v2 h = some o) (hK : (lpK (w_X12_goesOn_26 l G Q X p0) (fiI Q)) o) : mW l G m_X12_goesOn 1 0 0 26 [some (.ref p0), some (.int v1), some (.int v2), none, none, none, none, none, none] [] h Q X := by
  unfold b0_X12_goesOn_26 at E
  refine q_iload_n dX12_goesOn_26 rfl ?_
  refine q_aload_n dX12_goesOn_27 rfl ?_
  replace E := grd_some E
  obtain ⟨g1, E⟩ := E
  replace E := orf_some E
  obtain ⟨a2, ea2, E⟩ := E
  refine r_getR dX12_goesOn_28 FX12_75 g1 ea2 ?_
  refine q_iconst dX12_goesOn_31 ?_
  replace E := grd_some E
  obtain ⟨g3, E⟩ := E
  replace E := grd_some E
  obtain ⟨g4, E⟩ := E
  refine r_iaload dX12_goesOn_32 g3 g4 ?_
  refine q_icmp_ge (tgt := 227) dX12_goesOn_33 (by decide) (fun z5 => ?_) (fun z5 => ?_)
  · replace E := ite_t E z5
    refine q_iconst dX12_goesOn_227 ?_
    refine r_istore_n dX12_goesOn_228 (by decide) rfl (ls' := [some (.ref p0), some (.int v1), some (.int (Int32.ofInt 0)), none, none, none, none, none, none]) rfl ?_
    obtain ⟨o0, E0, rfl⟩ := inrO_some E
    exact r_fewer [some (.ref p0), some (.int v1), some (.int (Int32.ofInt 0)), none, none, none, none, none, none] (ls_s (ls_s (ls_s (ls_n (ls_n (ls_n (ls_n (ls_n (ls_n ls_0))))))))) (s_X12_goesOn_229 p0 v1 (Int32.ofInt 0) h E0 hK)
  · replace E := ite_f E z5
    refine q_iconst dX12_goesOn_36 ?_
    refine r_istore_n dX12_goesOn_37 (by decide) rfl (ls' := [some (.ref p0), some (.int v1), some (.int v2), some (.int (Int32.ofInt 0)), none, none, none, none, none]) rfl ?_
    exact r_fewer [some (.ref p0), some (.int v1), some (.int v2), some (.int (Int32.ofInt 0)), none, none, none, none, none] (ls_s (ls_s (ls_s (ls_s (ls_n (ls_n (ls_n (ls_n (ls_n ls_0))))))))) (s_X12_goesOn_38 p0 v1 v2 (Int32.ofInt 0) h E hK)
theorem s_X12_goesOn_26 {l : Launch} {G : mG} {Q : Option Value → mH → Prop} {X : String → mH → Prop} (p0 : Nat) (v1 : Int32) (v2 : Int32) (h : mH) {o : Int32 × mH} (E : g_X12_goesOn_26 p0 v1 v2 h = some o) (hK : (fiI Q) o) : mW l G m_X12_goesOn 1 0 0 26 [some (.ref p0), some (.int v1), some (.int v2), none, none, none, none, none, none] [] h Q X :=
  (lp_go (w_X12_goesOn_26 l G Q X p0) (fiI Q) (b_X12_goesOn_26 p0) (fun s o E hK => sb_X12_goesOn_26 p0 s.1 s.2.1 (s.2.2) E hK) _ _ _ E hK : w_X12_goesOn_26 l G Q X p0 (v1, v2, h))
set_option maxRecDepth 100000 in
set_option maxHeartbeats 4000000 in
theorem sb_X12_goesOn_4 {l : Launch} {G : mG} {Q : Option Value → mH → Prop} {X : String → mH → Prop} (p0 : Nat) (v1 : Int32) (v2 : Int32) (h : mH) {o : ((Int32 × mH) ⊕ (Int32 × mH))} (E : b0_X12_goesOn_4 p0 v1 v2 h = some o) (hK : (lpK (w_X12_goesOn_4 l G Q X p0 v1) (fiI Q)) o) : mW l G m_X12_goesOn 1 0 0 4 [some (.ref p0), some (.int v1), some (.int v2), none, none, none, none, none, none] [] h Q X := by
  unfold b0_X12_goesOn_4 at E
  refine q_iload_n dX12_goesOn_4 rfl ?_
  refine q_sipush (v := (Int32.ofInt 645)) dX12_goesOn_5 (by decide) ?_
  refine q_icmp_ge (tgt := 24) dX12_goesOn_8 (by decide) (fun z1 => ?_) (fun z1 => ?_)
  · replace E := ite_t E z1
    refine q_iconst dX12_goesOn_24 ?_
    refine r_istore_n dX12_goesOn_25 (by decide) rfl (ls' := [some (.ref p0), some (.int v1), some (.int (Int32.ofInt 0)), none, none, none, none, none, none]) rfl ?_
    obtain ⟨o0, E0, rfl⟩ := inrO_some E
    exact r_fewer [some (.ref p0), some (.int v1), some (.int (Int32.ofInt 0)), none, none, none, none, none, none] (ls_s (ls_s (ls_s (ls_n (ls_n (ls_n (ls_n (ls_n (ls_n ls_0))))))))) (s_X12_goesOn_26 p0 v1 (Int32.ofInt 0) h E0 hK)
  · replace E := ite_f E z1
    refine q_aload_n dX12_goesOn_11 rfl ?_
    replace E := grd_some E
    obtain ⟨g2, E⟩ := E
    replace E := orf_some E
    obtain ⟨a3, ea3, E⟩ := E
    refine r_getR dX12_goesOn_12 FX12_93 g2 ea3 ?_
    refine q_iload_n dX12_goesOn_15 rfl ?_
    refine q_iconst dX12_goesOn_16 ?_
    replace E := grd_some E
    obtain ⟨g5, E⟩ := E
    replace E := grd_some E
    obtain ⟨g6, E⟩ := E
    replace E := bnd_x E
    obtain ⟨h4, eh4, E⟩ := E
    refine r_iastore (hh := eh4) dX12_goesOn_17 g5 g6 ?_
    replace E := bnd_x E
    obtain ⟨x7, ex7, E⟩ := E
    refine r_iinc (v := x7) dX12_goesOn_18 rfl ex7 (by decide) (ls' := [some (.ref p0), some (.int v1), some (.int x7), none, none, none, none, none, none]) rfl ?_
    refine q_goto (tgt := 4) dX12_goesOn_21 (by decide) ?_
    cases E
    exact r_fewer [some (.ref p0), some (.int v1), some (.int x7), none, none, none, none, none, none] (ls_s (ls_s (ls_s (ls_n (ls_n (ls_n (ls_n (ls_n (ls_n ls_0))))))))) hK
theorem s_X12_goesOn_4 {l : Launch} {G : mG} {Q : Option Value → mH → Prop} {X : String → mH → Prop} (p0 : Nat) (v1 : Int32) (v2 : Int32) (h : mH) {o : Int32 × mH} (E : g_X12_goesOn_4 p0 v1 v2 h = some o) (hK : (fiI Q) o) : mW l G m_X12_goesOn 1 0 0 4 [some (.ref p0), some (.int v1), some (.int v2), none, none, none, none, none, none] [] h Q X :=
  (lp_go (w_X12_goesOn_4 l G Q X p0 v1) (fiI Q) (b_X12_goesOn_4 p0 v1) (fun s o E hK => sb_X12_goesOn_4 p0 v1 s.1 (s.2) E hK) _ _ _ E hK : w_X12_goesOn_4 l G Q X p0 v1 (v2, h))
set_option maxRecDepth 100000 in
set_option maxHeartbeats 4000000 in
theorem s_X12_goesOn_0 {l : Launch} {G : mG} {Q : Option Value → mH → Prop} {X : String → mH → Prop} (p0 : Nat) (h : mH) {o : Int32 × mH} (E : f_X12_goesOn p0 h = some o) (hK : (fiI Q) o) : mW l G m_X12_goesOn 1 0 0 0 [some (.ref p0), none, none, none, none, none, none, none, none] [] h Q X := by
  unfold f_X12_goesOn at E
  refine q_iconst dX12_goesOn_0 ?_
  refine r_istore_n dX12_goesOn_1 (by decide) rfl (ls' := [some (.ref p0), some (.int (Int32.ofInt 0)), none, none, none, none, none, none, none]) rfl ?_
  refine q_iconst dX12_goesOn_2 ?_
  refine r_istore_n dX12_goesOn_3 (by decide) rfl (ls' := [some (.ref p0), some (.int (Int32.ofInt 0)), some (.int (Int32.ofInt 0)), none, none, none, none, none, none]) rfl ?_
  exact r_fewer [some (.ref p0), some (.int (Int32.ofInt 0)), some (.int (Int32.ofInt 0)), none, none, none, none, none, none] (ls_s (ls_s (ls_s (ls_n (ls_n (ls_n (ls_n (ls_n (ls_n ls_0))))))))) (s_X12_goesOn_4 p0 (Int32.ofInt 0) (Int32.ofInt 0) h E hK)
theorem c_X12_goesOn {l : Launch} {G : mG} {p0 : Nat} {h h' : mH} {r : Int32} (E : f_X12_goesOn p0 h = some (r, h')) : mMet l G m_X12_goesOn 1 0 0 [.ref p0] h (fun v k => v = some (.int r) ∧ h' = k) (fun _ _ => False) :=
  mMet_of (by decide +kernel) rfl (ac_c rfl ac_0) (Nat.le_of_ble_eq_true rfl) (s_X12_goesOn_0 p0 h E (And.intro rfl rfl))
