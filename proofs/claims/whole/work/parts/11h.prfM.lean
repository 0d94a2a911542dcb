set_option maxRecDepth 100000 in
set_option maxHeartbeats 4000000 in
theorem s_X12_smallestCountByPairs_0 {l : Launch} {G : mG} {Q : Option Value → mH → Prop} {X : String → mH → Prop} (p0 : Nat) (v1 : Int32) (h : mH) {o : Int32 × mH} (E : f_X12_smallestCountByPairs p0 v1 h = some o) (hK : (fiI Q) o) : mW l G m_X12_smallestCountByPairs 6 0 0 0 [some (.ref p0), some (.int v1)] [] h Q X := by
  unfold f_X12_smallestCountByPairs at E
  refine q_aload_n dX12_smallestCountByPairs_0 rfl ?_
  refine q_iload_n dX12_smallestCountByPairs_1 rfl ?_
  replace E := grd_some E
  obtain ⟨g3, E⟩ := E
  replace E := cal_some E
  obtain ⟨x2, h1, hc, E⟩ := E
  refine r_callV1 (mc := 0) (ms := 0) dX12_smallestCountByPairs_2 KX12_349 (c_X12_smallestCount hc) g3 (by decide) (Nat.le_of_ble_eq_true rfl) (fun _ _ q => q.elim) ?_
  rintro _ _ ⟨rfl, rfl⟩
  clear hc
  cases E
  exact q_ireturn dX12_smallestCountByPairs_5 rfl hK
theorem c_X12_smallestCountByPairs {l : Launch} {G : mG} {p0 : Nat} {v1 : Int32} {h h' : mH} {r : Int32} (E : f_X12_smallestCountByPairs p0 v1 h = some (r, h')) : mMet l G m_X12_smallestCountByPairs 6 0 0 [.ref p0, .int v1] h (fun v k => v = some (.int r) ∧ h' = k) (fun _ _ => False) :=
  mMet_of (by decide +kernel) rfl (ac_c rfl (ac_c rfl ac_0)) (Nat.le_of_ble_eq_true rfl) (s_X12_smallestCountByPairs_0 p0 v1 h E (And.intro rfl rfl))
set_option maxRecDepth 100000 in
set_option maxHeartbeats 4000000 in
theorem s_X12_isFinite_26 {l : Launch} {G : mG} {Q : Option Value → mH → Prop} {X : String → mH → Prop} (s0 : Int32) (h : mH) {o : Int32 × mH} (E : g_X12_isFinite_26 s0 h = some o) (hK : (fiI Q) o) : mW l G m_X12_isFinite 4 0 0 26 [none, none, none, none, none] [.int s0] h Q X := by
  unfold g_X12_isFinite_26 at E
  replace E := grd_some E
  obtain ⟨g1, E⟩ := E
  cases E
  exact q_zreturn dX12_isFinite_26 rfl (narZ g1) hK
set_option maxRecDepth 100000 in
set_option maxHeartbeats 4000000 in
theorem s_X12_isFinite_62 {l : Launch} {G : mG} {Q : Option Value → mH → Prop} {X : String → mH → Prop} (p0 : Nat) (v2 : Int32) (s0 : Int32) (s1 : Int32) (sp2 : Nat) (h : mH) {o : ((Int32 × mH) ⊕ (Int32 × mH))} (E : g_X12_isFinite_62 p0 v2 s0 s1 sp2 h = some o) (hK : (lpK (w_X12_isFinite_38 l G Q X p0) (fiI Q)) o) : mW l G m_X12_isFinite 4 0 0 62 [some (.ref p0), none, some (.int v2), none, none] [.int s0, .int s1, .ref sp2] h Q X := by
  unfold g_X12_isFinite_62 at E
  replace E := grd_some E
  obtain ⟨g2, E⟩ := E
  replace E := grd_some E
  obtain ⟨g3, E⟩ := E
  replace E := bnd_x E
  obtain ⟨h1, eh1, E⟩ := E
  refine r_iastore (hh := eh1) dX12_isFinite_62 g2 g3 ?_
  replace E := bnd_x E
  obtain ⟨x4, ex4, E⟩ := E
  refine r_iinc (v := x4) dX12_isFinite_63 rfl ex4 (by decide) (ls' := [some (.ref p0), none, some (.int x4), none, none]) rfl ?_
  refine q_goto (tgt := 38) dX12_isFinite_66 (by decide) ?_
  cases E
  exact r_fewer [some (.ref p0), none, some (.int x4), none, none] (ls_s (ls_n (ls_s (ls_n (ls_n ls_0))))) hK
set_option maxRecDepth 100000 in
set_option maxHeartbeats 4000000 in
theorem s_X12_isFinite_148 {l : Launch} {G : mG} {Q : Option Value → mH → Prop} {X : String → mH → Prop} (p0 : Nat) (v2 : Int32) (v3 : Int32) (h : mH) {o : ((Int32 × mH) ⊕ ((Int32 × mH) ⊕ (Int32 × mH)))} (E : g_X12_isFinite_148 p0 v2 v3 h = some o) (hK : (lpK (w_X12_isFinite_103 l G Q X p0 v2) (lpK (w_X12_isFinite_71 l G Q X p0) (fiI Q))) o) : mW l G m_X12_isFinite 4 0 0 148 [some (.ref p0), none, some (.int v2), some (.int v3), none] [] h Q X := by
  unfold g_X12_isFinite_148 at E
  replace E := bnd_x E
  obtain ⟨x1, ex1, E⟩ := E
  refine r_iinc (v := x1) dX12_isFinite_148 rfl ex1 (by decide) (ls' := [some (.ref p0), none, some (.int v2), some (.int x1), none]) rfl ?_
  refine q_goto (tgt := 103) dX12_isFinite_151 (by decide) ?_
  cases E
  exact r_fewer [some (.ref p0), none, some (.int v2), some (.int x1), none] (ls_s (ls_n (ls_s (ls_s (ls_n ls_0))))) hK
set_option maxRecDepth 100000 in
set_option maxHeartbeats 4000000 in
theorem sb_X12_isFinite_113 {l : Launch} {G : mG} {Q : Option Value → mH → Prop} {X : String → mH → Prop} (p0 : Nat) (v2 : Int32) (v3 : Int32) (v4 : Int32) (h : mH) {o : ((Int32 × mH) ⊕ ((Int32 × mH) ⊕ ((Int32 × mH) ⊕ (Int32 × mH))))} (E : b0_X12_isFinite_113 p0 v2 v3 v4 h = some o) (hK : (lpK (w_X12_isFinite_113 l G Q X p0 v2 v3) (lpK (w_X12_isFinite_103 l G Q X p0 v2) (lpK (w_X12_isFinite_71 l G Q X p0) (fiI Q)))) o) : mW l G m_X12_isFinite 4 0 0 113 [some (.ref p0), none, some (.int v2), some (.int v3), some (.int v4)] [] h Q X := by
  unfold b0_X12_isFinite_113 at E
  refine q_iload dX12_isFinite_113 rfl ?_
  refine q_iconst dX12_isFinite_115 ?_
  refine q_icmp_ge (tgt := 148) dX12_isFinite_116 (by decide) (fun z1 => ?_) (fun z1 => ?_)
  · replace E := ite_t E z1
    obtain ⟨o0, E0, rfl⟩ := inrO_some E
    exact r_fewer [some (.ref p0), none, some (.int v2), some (.int v3), none] (ls_s (ls_n (ls_s (ls_s (ls_n ls_0))))) (s_X12_isFinite_148 p0 v2 v3 h E0 hK)
  · replace E := ite_f E z1
    refine q_aload_n dX12_isFinite_119 rfl ?_
    replace E := grd_some E
    obtain ⟨g2, E⟩ := E
    replace E := orf_some E
    obtain ⟨a3, ea3, E⟩ := E
    refine r_getR dX12_isFinite_120 FX12_96 g2 ea3 ?_
    refine q_iload_n dX12_isFinite_123 rfl ?_
    replace E := grd_some E
    obtain ⟨g4, E⟩ := E
    replace E := grd_some E
    obtain ⟨g5, E⟩ := E
    refine r_iaload dX12_isFinite_124 g4 g5 ?_
    refine q_if_le (tgt := 148) dX12_isFinite_125 (by decide) (fun z6 => ?_) (fun z6 => ?_)
    · replace E := ite_t E z6
      obtain ⟨o0, E0, rfl⟩ := inrO_some E
      exact r_fewer [some (.ref p0), none, some (.int v2), some (.int v3), none] (ls_s (ls_n (ls_s (ls_s (ls_n ls_0))))) (s_X12_isFinite_148 p0 v2 v3 h E0 hK)
    · replace E := ite_f E z6
      refine q_aload_n dX12_isFinite_128 rfl ?_
      replace E := orf_some E
      obtain ⟨a7, ea7, E⟩ := E
      refine r_getR dX12_isFinite_129 FX12_99 g2 ea7 ?_
      refine q_aload_n dX12_isFinite_132 rfl ?_
      refine q_iconst dX12_isFinite_133 ?_
      refine q_iload_n dX12_isFinite_134 rfl ?_
      refine q_iload dX12_isFinite_135 rfl ?_
      replace E := cal_some E
      obtain ⟨x9, h8, hc, E⟩ := E
      refine r_callV3 (mc := 0) (ms := 0) dX12_isFinite_137 KX12_277 (c_X12_to hc) g2 (by decide) (Nat.le_of_ble_eq_true rfl) (fun _ _ q => q.elim) ?_
      rintro _ _ ⟨rfl, rfl⟩
      clear hc
      refine q_iconst dX12_isFinite_140 ?_
      replace E := grd_some E
      obtain ⟨g11, E⟩ := E
      replace E := grd_some E
      obtain ⟨g12, E⟩ := E
      replace E := bnd_x E
      obtain ⟨h10, eh10, E⟩ := E
      refine r_iastore (hh := eh10) dX12_isFinite_141 g11 g12 ?_
      replace E := bnd_x E
      obtain ⟨x13, ex13, E⟩ := E
      refine r_iinc (v := x13) dX12_isFinite_142 rfl ex13 (by decide) (ls' := [some (.ref p0), none, some (.int v2), some (.int v3), some (.int x13)]) rfl ?_
      refine q_goto (tgt := 113) dX12_isFinite_145 (by decide) ?_
      cases E
      exact r_fewer [some (.ref p0), none, some (.int v2), some (.int v3), some (.int x13)] (ls_s (ls_n (ls_s (ls_s (ls_s ls_0))))) hK
theorem s_X12_isFinite_113 {l : Launch} {G : mG} {Q : Option Value → mH → Prop} {X : String → mH → Prop} (p0 : Nat) (v2 : Int32) (v3 : Int32) (v4 : Int32) (h : mH) {o : ((Int32 × mH) ⊕ ((Int32 × mH) ⊕ (Int32 × mH)))} (E : g_X12_isFinite_113 p0 v2 v3 v4 h = some o) (hK : (lpK (w_X12_isFinite_103 l G Q X p0 v2) (lpK (w_X12_isFinite_71 l G Q X p0) (fiI Q))) o) : mW l G m_X12_isFinite 4 0 0 113 [some (.ref p0), none, some (.int v2), some (.int v3), some (.int v4)] [] h Q X :=
  (lp_go (w_X12_isFinite_113 l G Q X p0 v2 v3) (lpK (w_X12_isFinite_103 l G Q X p0 v2) (lpK (w_X12_isFinite_71 l G Q X p0) (fiI Q))) (b_X12_isFinite_113 p0 v2 v3) (fun s o E hK => sb_X12_isFinite_113 p0 v2 v3 s.1 (s.2) E hK) _ _ _ E hK : w_X12_isFinite_113 l G Q X p0 v2 v3 (v4, h))
set_option maxRecDepth 100000 in
set_option maxHeartbeats 4000000 in
theorem sb_X12_isFinite_156 {l : Launch} {G : mG} {Q : Option Value → mH → Prop} {X : String → mH → Prop} (p0 : Nat) (v2 : Int32) (v3 : Int32) (h : mH) {o : ((Int32 × mH) ⊕ ((Int32 × mH) ⊕ (Int32 × mH)))} (E : b0_X12_isFinite_156 p0 v2 v3 h = some o) (hK : (lpK (w_X12_isFinite_156 l G Q X p0 v2) (lpK (w_X12_isFinite_71 l G Q X p0) (fiI Q))) o) : mW l G m_X12_isFinite 4 0 0 156 [some (.ref p0), none, some (.int v2), some (.int v3), none] [] h Q X := by
  unfold b0_X12_isFinite_156 at E
  refine q_iload_n dX12_isFinite_156 rfl ?_
  refine q_sipush (v := (Int32.ofInt 129)) dX12_isFinite_157 (by decide) ?_
  refine q_icmp_ge (tgt := 181) dX12_isFinite_160 (by decide) (fun z1 => ?_) (fun z1 => ?_)
  · replace E := ite_t E z1
    replace E := bnd_x E
    obtain ⟨x2, ex2, E⟩ := E
    refine r_iinc (v := x2) dX12_isFinite_181 rfl ex2 (by decide) (ls' := [some (.ref p0), none, some (.int x2), some (.int v3), none]) rfl ?_
    refine q_goto (tgt := 71) dX12_isFinite_184 (by decide) ?_
    cases E
    exact r_fewer [some (.ref p0), none, some (.int x2), none, none] (ls_s (ls_n (ls_s (ls_n (ls_n ls_0))))) hK
  · replace E := ite_f E z1
    refine q_aload_n dX12_isFinite_163 rfl ?_
    replace E := grd_some E
    obtain ⟨g3, E⟩ := E
    replace E := orf_some E
    obtain ⟨a4, ea4, E⟩ := E
    refine r_getR dX12_isFinite_164 FX12_96 g3 ea4 ?_
    refine q_iload_n dX12_isFinite_167 rfl ?_
    refine q_aload_n dX12_isFinite_168 rfl ?_
    replace E := orf_some E
    obtain ⟨a5, ea5, E⟩ := E
    refine r_getR dX12_isFinite_169 FX12_99 g3 ea5 ?_
    refine q_iload_n dX12_isFinite_172 rfl ?_
    replace E := grd_some E
    obtain ⟨g6, E⟩ := E
    replace E := grd_some E
    obtain ⟨g7, E⟩ := E
    refine r_iaload dX12_isFinite_173 g6 g7 ?_
    replace E := grd_some E
    obtain ⟨g9, E⟩ := E
    replace E := grd_some E
    obtain ⟨g10, E⟩ := E
    replace E := bnd_x E
    obtain ⟨h8, eh8, E⟩ := E
    refine r_iastore (hh := eh8) dX12_isFinite_174 g9 g10 ?_
    replace E := bnd_x E
    obtain ⟨x11, ex11, E⟩ := E
    refine r_iinc (v := x11) dX12_isFinite_175 rfl ex11 (by decide) (ls' := [some (.ref p0), none, some (.int v2), some (.int x11), none]) rfl ?_
    refine q_goto (tgt := 156) dX12_isFinite_178 (by decide) ?_
    cases E
    exact r_fewer [some (.ref p0), none, some (.int v2), some (.int x11), none] (ls_s (ls_n (ls_s (ls_s (ls_n ls_0))))) hK
theorem s_X12_isFinite_156 {l : Launch} {G : mG} {Q : Option Value → mH → Prop} {X : String → mH → Prop} (p0 : Nat) (v2 : Int32) (v3 : Int32) (h : mH) {o : ((Int32 × mH) ⊕ (Int32 × mH))} (E : g_X12_isFinite_156 p0 v2 v3 h = some o) (hK : (lpK (w_X12_isFinite_71 l G Q X p0) (fiI Q)) o) : mW l G m_X12_isFinite 4 0 0 156 [some (.ref p0), none, some (.int v2), some (.int v3), none] [] h Q X :=
  (lp_go (w_X12_isFinite_156 l G Q X p0 v2) (lpK (w_X12_isFinite_71 l G Q X p0) (fiI Q)) (b_X12_isFinite_156 p0 v2) (fun s o E hK => sb_X12_isFinite_156 p0 v2 s.1 (s.2) E hK) _ _ _ E hK : w_X12_isFinite_156 l G Q X p0 v2 (v3, h))
set_option maxRecDepth 100000 in
set_option maxHeartbeats 4000000 in
theorem sb_X12_isFinite_103 {l : Launch} {G : mG} {Q : Option Value → mH → Prop} {X : String → mH → Prop} (p0 : Nat) (v2 : Int32) (v3 : Int32) (h : mH) {o : ((Int32 × mH) ⊕ ((Int32 × mH) ⊕ (Int32 × mH)))} (E : b0_X12_isFinite_103 p0 v2 v3 h = some o) (hK : (lpK (w_X12_isFinite_103 l G Q X p0 v2) (lpK (w_X12_isFinite_71 l G Q X p0) (fiI Q))) o) : mW l G m_X12_isFinite 4 0 0 103 [some (.ref p0), none, some (.int v2), some (.int v3), none] [] h Q X := by
  unfold b0_X12_isFinite_103 at E
  refine q_iload_n dX12_isFinite_103 rfl ?_
  refine q_sipush (v := (Int32.ofInt 129)) dX12_isFinite_104 (by decide) ?_
  refine q_icmp_ge (tgt := 154) dX12_isFinite_107 (by decide) (fun z1 => ?_) (fun z1 => ?_)
  · replace E := ite_t E z1
    refine q_iconst dX12_isFinite_154 ?_
    refine r_istore_n dX12_isFinite_155 (by decide) rfl (ls' := [some (.ref p0), none, some (.int v2), some (.int (Int32.ofInt 0)), none]) rfl ?_
    obtain ⟨o0, E0, rfl⟩ := inrO_some E
    exact r_fewer [some (.ref p0), none, some (.int v2), some (.int (Int32.ofInt 0)), none] (ls_s (ls_n (ls_s (ls_s (ls_n ls_0))))) (s_X12_isFinite_156 p0 v2 (Int32.ofInt 0) h E0 hK)
  · replace E := ite_f E z1
    refine q_iconst dX12_isFinite_110 ?_
    refine r_istore dX12_isFinite_111 (by decide) rfl (ls' := [some (.ref p0), none, some (.int v2), some (.int v3), some (.int (Int32.ofInt 0))]) rfl ?_
    exact r_fewer [some (.ref p0), none, some (.int v2), some (.int v3), some (.int (Int32.ofInt 0))] (ls_s (ls_n (ls_s (ls_s (ls_s ls_0))))) (s_X12_isFinite_113 p0 v2 v3 (Int32.ofInt 0) h E hK)
theorem s_X12_isFinite_103 {l : Launch} {G : mG} {Q : Option Value → mH → Prop} {X : String → mH → Prop} (p0 : Nat) (v2 : Int32) (v3 : Int32) (h : mH) {o : ((Int32 × mH) ⊕ (Int32 × mH))} (E : g_X12_isFinite_103 p0 v2 v3 h = some o) (hK : (lpK (w_X12_isFinite_71 l G Q X p0) (fiI Q)) o) : mW l G m_X12_isFinite 4 0 0 103 [some (.ref p0), none, some (.int v2), some (.int v3), none] [] h Q X :=
  (lp_go (w_X12_isFinite_103 l G Q X p0 v2) (lpK (w_X12_isFinite_71 l G Q X p0) (fiI Q)) (b_X12_isFinite_103 p0 v2) (fun s o E hK => sb_X12_isFinite_103 p0 v2 s.1 (s.2) E hK) _ _ _ E hK : w_X12_isFinite_103 l G Q X p0 v2 (v3, h))
set_option maxRecDepth 100000 in
set_option maxHeartbeats 4000000 in
theorem sb_X12_isFinite_81 {l : Launch} {G : mG} {Q : Option Value → mH → Prop} {X : String → mH → Prop} (p0 : Nat) (v2 : Int32) (v3 : Int32) (h : mH) {o : ((Int32 × mH) ⊕ ((Int32 × mH) ⊕ (Int32 × mH)))} (E : b0_X12_isFinite_81 p0 v2 v3 h = some o) (hK : (lpK (w_X12_isFinite_81 l G Q X p0 v2) (lpK (w_X12_isFinite_71 l G Q X p0) (fiI Q))) o) : mW l G m_X12_isFinite 4 0 0 81 [some (.ref p0), none, some (.int v2), some (.int v3), none] [] h Q X := by
  unfold b0_X12_isFinite_81 at E
  refine q_iload_n dX12_isFinite_81 rfl ?_
  refine q_sipush (v := (Int32.ofInt 129)) dX12_isFinite_82 (by decide) ?_
  refine q_icmp_ge (tgt := 101) dX12_isFinite_85 (by decide) (fun z1 => ?_) (fun z1 => ?_)
  · replace E := ite_t E z1
    refine q_iconst dX12_isFinite_101 ?_
    refine r_istore_n dX12_isFinite_102 (by decide) rfl (ls' := [some (.ref p0), none, some (.int v2), some (.int (Int32.ofInt 0)), none]) rfl ?_
    obtain ⟨o0, E0, rfl⟩ := inrO_some E
    exact r_fewer [some (.ref p0), none, some (.int v2), some (.int (Int32.ofInt 0)), none] (ls_s (ls_n (ls_s (ls_s (ls_n ls_0))))) (s_X12_isFinite_103 p0 v2 (Int32.ofInt 0) h E0 hK)
  · replace E := ite_f E z1
    refine q_aload_n dX12_isFinite_88 rfl ?_
    replace E := grd_some E
    obtain ⟨g2, E⟩ := E
    replace E := orf_some E
    obtain ⟨a3, ea3, E⟩ := E
    refine r_getR dX12_isFinite_89 FX12_99 g2 ea3 ?_
    refine q_iload_n dX12_isFinite_92 rfl ?_
    refine q_iconst dX12_isFinite_93 ?_
    replace E := grd_some E
    obtain ⟨g5, E⟩ := E
    replace E := grd_some E
    obtain ⟨g6, E⟩ := E
    replace E := bnd_x E
    obtain ⟨h4, eh4, E⟩ := E
    refine r_iastore (hh := eh4) dX12_isFinite_94 g5 g6 ?_
    replace E := bnd_x E
    obtain ⟨x7, ex7, E⟩ := E
    refine r_iinc (v := x7) dX12_isFinite_95 rfl ex7 (by decide) (ls' := [some (.ref p0), none, some (.int v2), some (.int x7), none]) rfl ?_
    refine q_goto (tgt := 81) dX12_isFinite_98 (by decide) ?_
    cases E
    exact r_fewer [some (.ref p0), none, some (.int v2), some (.int x7), none] (ls_s (ls_n (ls_s (ls_s (ls_n ls_0))))) hK
theorem s_X12_isFinite_81 {l : Launch} {G : mG} {Q : Option Value → mH → Prop} {X : String → mH → Prop} (p0 : Nat) (v2 : Int32) (v3 : Int32) (h : mH) {o : ((Int32 × mH) ⊕ (Int32 × mH))} (E : g_X12_isFinite_81 p0 v2 v3 h = some o) (hK : (lpK (w_X12_isFinite_71 l G Q X p0) (fiI Q)) o) : mW l G m_X12_isFinite 4 0 0 81 [some (.ref p0), none, some (.int v2), some (.int v3), none] [] h Q X :=
  (lp_go (w_X12_isFinite_81 l G Q X p0 v2) (lpK (w_X12_isFinite_71 l G Q X p0) (fiI Q)) (b_X12_isFinite_81 p0 v2) (fun s o E hK => sb_X12_isFinite_81 p0 v2 s.1 (s.2) E hK) _ _ _ E hK : w_X12_isFinite_81 l G Q X p0 v2 (v3, h))
set_option maxRecDepth 100000 in
set_option maxHeartbeats 4000000 in
theorem s_X12_isFinite_219 {l : Launch} {G : mG} {Q : Option Value → mH → Prop} {X : String → mH → Prop} (p0 : Nat) (v2 : Int32) (h : mH) {o : ((Int32 × mH) ⊕ (Int32 × mH))} (E : g_X12_isFinite_219 p0 v2 h = some o) (hK : (lpK (w_X12_isFinite_189 l G Q X p0) (fiI Q)) o) : mW l G m_X12_isFinite 4 0 0 219 [some (.ref p0), none, some (.int v2), none, none] [] h Q X := by
  unfold g_X12_isFinite_219 at E
  replace E := bnd_x E
  obtain ⟨x1, ex1, E⟩ := E
  refine r_iinc (v := x1) dX12_isFinite_219 rfl ex1 (by decide) (ls' := [some (.ref p0), none, some (.int x1), none, none]) rfl ?_
  refine q_goto (tgt := 189) dX12_isFinite_222 (by decide) ?_
  cases E
  exact r_fewer [some (.ref p0), none, some (.int x1), none, none] (ls_s (ls_n (ls_s (ls_n (ls_n ls_0))))) hK
set_option maxRecDepth 100000 in
set_option maxHeartbeats 4000000 in
theorem sb_X12_isFinite_189 {l : Launch} {G : mG} {Q : Option Value → mH → Prop} {X : String → mH → Prop} (p0 : Nat) (v2 : Int32) (h : mH) {o : ((Int32 × mH) ⊕ (Int32 × mH))} (E : b0_X12_isFinite_189 p0 v2 h = some o) (hK : (lpK (w_X12_isFinite_189 l G Q X p0) (fiI Q)) o) : mW l G m_X12_isFinite 4 0 0 189 [some (.ref p0), none, some (.int v2), none, none] [] h Q X := by
  unfold b0_X12_isFinite_189 at E
  refine q_iload_n dX12_isFinite_189 rfl ?_
  refine q_sipush (v := (Int32.ofInt 129)) dX12_isFinite_190 (by decide) ?_
  refine q_icmp_ge (tgt := 225) dX12_isFinite_193 (by decide) (fun z1 => ?_) (fun z1 => ?_)
  · replace E := ite_t E z1
    refine q_iconst dX12_isFinite_225 ?_
    cases E
    exact q_zreturn dX12_isFinite_226 rfl (by decide) hK
  · replace E := ite_f E z1
    refine q_aload_n dX12_isFinite_196 rfl ?_
    replace E := grd_some E
    obtain ⟨g2, E⟩ := E
    replace E := orf_some E
    obtain ⟨a3, ea3, E⟩ := E
    refine r_getR dX12_isFinite_197 FX12_96 g2 ea3 ?_
    refine q_iload_n dX12_isFinite_200 rfl ?_
    replace E := grd_some E
    obtain ⟨g4, E⟩ := E
    replace E := grd_some E
    obtain ⟨g5, E⟩ := E
    refine r_iaload dX12_isFinite_201 g4 g5 ?_
    refine q_if_le (tgt := 219) dX12_isFinite_202 (by decide) (fun z6 => ?_) (fun z6 => ?_)
    · replace E := ite_t E z6
      exact r_fewer [some (.ref p0), none, some (.int v2), none, none] (ls_s (ls_n (ls_s (ls_n (ls_n ls_0))))) (s_X12_isFinite_219 p0 v2 h E hK)
    · replace E := ite_f E z6
      refine q_aload_n dX12_isFinite_205 rfl ?_
      replace E := orf_some E
      obtain ⟨a7, ea7, E⟩ := E
      refine r_getR dX12_isFinite_206 FX12_84 g2 ea7 ?_
      refine q_iload_n dX12_isFinite_209 rfl ?_
      replace E := grd_some E
      obtain ⟨g8, E⟩ := E
      replace E := grd_some E
      obtain ⟨g9, E⟩ := E
      refine r_iaload dX12_isFinite_210 g8 g9 ?_
      refine q_sipush (v := (Int32.ofInt 999)) dX12_isFinite_211 (by decide) ?_
      refine q_icmp_ge (tgt := 219) dX12_isFinite_214 (by decide) (fun z10 => ?_) (fun z10 => ?_)
      · replace E := ite_t E z10
        exact r_fewer [some (.ref p0), none, some (.int v2), none, none] (ls_s (ls_n (ls_s (ls_n (ls_n ls_0))))) (s_X12_isFinite_219 p0 v2 h E hK)
      · replace E := ite_f E z10
        refine q_iconst dX12_isFinite_217 ?_
        cases E
        exact q_zreturn dX12_isFinite_218 rfl (by decide) hK
theorem s_X12_isFinite_189 {l : Launch} {G : mG} {Q : Option Value → mH → Prop} {X : String → mH → Prop} (p0 : Nat) (v2 : Int32) (h : mH) {o : Int32 × mH} (E : g_X12_isFinite_189 p0 v2 h = some o) (hK : (fiI Q) o) : mW l G m_X12_isFinite 4 0 0 189 [some (.ref p0), none, some (.int v2), none, none] [] h Q X :=
  (lp_go (w_X12_isFinite_189 l G Q X p0) (fiI Q) (b_X12_isFinite_189 p0) (fun s o E hK => sb_X12_isFinite_189 p0 s.1 (s.2) E hK) _ _ _ E hK : w_X12_isFinite_189 l G Q X p0 (v2, h))
set_option maxRecDepth 100000 in
set_option maxHeartbeats 4000000 in
theorem sb_X12_isFinite_71 {l : Launch} {G : mG} {Q : Option Value → mH → Prop} {X : String → mH → Prop} (p0 : Nat) (v2 : Int32) (h : mH) {o : ((Int32 × mH) ⊕ (Int32 × mH))} (E : b0_X12_isFinite_71 p0 v2 h = some o) (hK : (lpK (w_X12_isFinite_71 l G Q X p0) (fiI Q)) o) : mW l G m_X12_isFinite 4 0 0 71 [some (.ref p0), none, some (.int v2), none, none] [] h Q X := by
  unfold b0_X12_isFinite_71 at E
  refine q_iload_n dX12_isFinite_71 rfl ?_
  refine q_aload_n dX12_isFinite_72 rfl ?_
  replace E := grd_some E
  obtain ⟨g1, E⟩ := E
  refine r_getI dX12_isFinite_73 FX12_274 g1 ?_
  refine q_icmp_ge (tgt := 187) dX12_isFinite_76 (by decide) (fun z2 => ?_) (fun z2 => ?_)
  · replace E := ite_t E z2
    refine q_iconst dX12_isFinite_187 ?_
    refine r_istore_n dX12_isFinite_188 (by decide) rfl (ls' := [some (.ref p0), none, some (.int (Int32.ofInt 0)), none, none]) rfl ?_
    obtain ⟨o0, E0, rfl⟩ := inrO_some E
    exact r_fewer [some (.ref p0), none, some (.int (Int32.ofInt 0)), none, none] (ls_s (ls_n (ls_s (ls_n (ls_n ls_0))))) (s_X12_isFinite_189 p0 (Int32.ofInt 0) h E0 hK)
  · replace E := ite_f E z2
    refine q_iconst dX12_isFinite_79 ?_
    refine r_istore_n dX12_isFinite_80 (by decide) rfl (ls' := [some (.ref p0), none, some (.int v2), some (.int (Int32.ofInt 0)), none]) rfl ?_
    exact r_fewer [some (.ref p0), none, some (.int v2), some (.int (Int32.ofInt 0)), none] (ls_s (ls_n (ls_s (ls_s (ls_n ls_0))))) (s_X12_isFinite_81 p0 v2 (Int32.ofInt 0) h E hK)
theorem s_X12_isFinite_71 {l : Launch} {G : mG} {Q : Option Value → mH → Prop} {X : String → mH → Prop} (p0 : Nat) (v2 : Int32) (h : mH) {o : Int32 × mH} (E : g_X12_isFinite_71 p0 v2 h = some o) (hK : (fiI Q) o) : mW l G m_X12_isFinite 4 0 0 71 [some (.ref p0), none, some (.int v2), none, none] [] h Q X :=
  (lp_go (w_X12_isFinite_71 l G Q X p0) (fiI Q) (b_X12_isFinite_71 p0) (fun s o E hK => sb_X12_isFinite_71 p0 s.1 (s.2) E hK) _ _ _ E hK : w_X12_isFinite_71 l G Q X p0 (v2, h))
set_option maxRecDepth 100000 in
set_option maxHeartbeats 4000000 in
theorem sb_X12_isFinite_38 {l : Launch} {G : mG} {Q : Option Value → mH → Prop} {X : String → mH → Prop} (p0 : Nat) (v2 : Int32) (h : mH) {o : ((Int32 × mH) ⊕ (Int32 × mH))} (E : b0_X12_isFinite_38 p0 v2 h = some o) (hK : (lpK (w_X12_isFinite_38 l G Q X p0) (fiI Q)) o) : mW l G m_X12_isFinite 4 0 0 38 [some (.ref p0), none, some (.int v2), none, none] [] h Q X := by
  unfold b0_X12_isFinite_38 at E
  refine q_iload_n dX12_isFinite_38 rfl ?_
  refine q_sipush (v := (Int32.ofInt 129)) dX12_isFinite_39 (by decide) ?_
  refine q_icmp_ge (tgt := 69) dX12_isFinite_42 (by decide) (fun z1 => ?_) (fun z1 => ?_)
  · replace E := ite_t E z1
    refine q_iconst dX12_isFinite_69 ?_
    refine r_istore_n dX12_isFinite_70 (by decide) rfl (ls' := [some (.ref p0), none, some (.int (Int32.ofInt 0)), none, none]) rfl ?_
    obtain ⟨o0, E0, rfl⟩ := inrO_some E
    exact r_fewer [some (.ref p0), none, some (.int (Int32.ofInt 0)), none, none] (ls_s (ls_n (ls_s (ls_n (ls_n ls_0))))) (s_X12_isFinite_71 p0 (Int32.ofInt 0) h E0 hK)
  · replace E := ite_f E z1
    refine q_aload_n dX12_isFinite_45 rfl ?_
    replace E := grd_some E
    obtain ⟨g2, E⟩ := E
    replace E := orf_some E
    obtain ⟨a3, ea3, E⟩ := E
    refine r_getR dX12_isFinite_46 FX12_96 g2 ea3 ?_
    refine q_iload_n dX12_isFinite_49 rfl ?_
    refine q_iload_n dX12_isFinite_50 rfl ?_
    refine q_sipush (v := (Int32.ofInt 128)) dX12_isFinite_51 (by decide) ?_
    refine q_icmp_ne (tgt := 61) dX12_isFinite_54 (by decide) (fun z4 => ?_) (fun z4 => ?_)
    · replace E := ite_f E z4
      refine q_iconst dX12_isFinite_61 ?_
      exact r_fewer [some (.ref p0), none, some (.int v2), none, none] (ls_s (ls_n (ls_s (ls_n (ls_n ls_0))))) (s_X12_isFinite_62 p0 v2 (Int32.ofInt 0) v2 a3 h E hK)
    · replace E := ite_t E z4
      refine q_iconst dX12_isFinite_57 ?_
      refine q_goto (tgt := 62) dX12_isFinite_58 (by decide) ?_
      exact r_fewer [some (.ref p0), none, some (.int v2), none, none] (ls_s (ls_n (ls_s (ls_n (ls_n ls_0))))) (s_X12_isFinite_62 p0 v2 (Int32.ofInt 1) v2 a3 h E hK)
theorem s_X12_isFinite_38 {l : Launch} {G : mG} {Q : Option Value → mH → Prop} {X : String → mH → Prop} (p0 : Nat) (v2 : Int32) (h : mH) {o : Int32 × mH} (E : g_X12_isFinite_38 p0 v2 h = some o) (hK : (fiI Q) o) : mW l G m_X12_isFinite 4 0 0 38 [some (.ref p0), none, some (.int v2), none, none] [] h Q X :=
  (lp_go (w_X12_isFinite_38 l G Q X p0) (fiI Q) (b_X12_isFinite_38 p0) (fun s o E hK => sb_X12_isFinite_38 p0 s.1 (s.2) E hK) _ _ _ E hK : w_X12_isFinite_38 l G Q X p0 (v2, h))
set_option maxRecDepth 100000 in
set_option maxHeartbeats 4000000 in
theorem s_X12_isFinite_0 {l : Launch} {G : mG} {Q : Option Value → mH → Prop} {X : String → mH → Prop} (p0 : Nat) (v1 : Int32) (h : mH) {o : Int32 × mH} (E : f_X12_isFinite p0 v1 h = some o) (hK : (fiI Q) o) : mW l G m_X12_isFinite 4 0 0 0 [some (.ref p0), some (.int v1), none, none, none] [] h Q X := by
  unfold f_X12_isFinite at E
  refine q_aload_n dX12_isFinite_0 rfl ?_
  refine q_iconst dX12_isFinite_1 ?_
  replace E := grd_some E
  obtain ⟨g1, E⟩ := E
  replace E := bnd_x E
  obtain ⟨h2, eh2, E⟩ := E
  refine r_putI (hh := eh2) dX12_isFinite_2 FX12_117 g1 rfl rfl ?_
  refine q_aload_n dX12_isFinite_5 rfl ?_
  refine q_iload_n dX12_isFinite_6 rfl ?_
  replace E := grd_some E
  obtain ⟨g5, E⟩ := E
  replace E := cal_some E
  obtain ⟨x4, h3, hc, E⟩ := E
  refine r_callV1 (mc := 0) (ms := 0) dX12_isFinite_7 KX12_211 (c_X12_holds hc) g5 (by decide) (Nat.le_of_ble_eq_true rfl) (fun _ _ q => q.elim) ?_
  rintro _ _ ⟨rfl, rfl⟩
  clear hc
  refine q_if_ne (tgt := 27) dX12_isFinite_10 (by decide) (fun z6 => ?_) (fun z6 => ?_)
  · replace E := ite_f E z6
    refine q_aload_n dX12_isFinite_27 rfl ?_
    refine q_iload_n dX12_isFinite_28 rfl ?_
    replace E := grd_some E
    obtain ⟨g9, E⟩ := E
    replace E := cal_some E
    obtain ⟨_, h7, hc, E⟩ := E
    refine r_callV1 (mc := 0) (ms := 0) dX12_isFinite_29 KX12_292 (c_X12_opens hc) g9 (by decide) (Nat.le_of_ble_eq_true rfl) (fun _ _ q => q.elim) ?_
    rintro _ _ ⟨rfl, rfl⟩
    clear hc
    refine q_aload_n dX12_isFinite_32 rfl ?_
    replace E := grd_some E
    obtain ⟨g12, E⟩ := E
    replace E := cal_some E
    obtain ⟨_, h10, hc, E⟩ := E
    refine r_callV0 (mc := 0) (ms := 0) dX12_isFinite_33 KX12_343 (c_X12_findsFar hc) g12 (by decide) (Nat.le_of_ble_eq_true rfl) (fun _ _ q => q.elim) ?_
    rintro _ _ ⟨rfl, rfl⟩
    clear hc
    refine q_iconst dX12_isFinite_36 ?_
    refine r_istore_n dX12_isFinite_37 (by decide) rfl (ls' := [some (.ref p0), some (.int v1), some (.int (Int32.ofInt 0)), none, none]) rfl ?_
    exact r_fewer [some (.ref p0), none, some (.int (Int32.ofInt 0)), none, none] (ls_s (ls_n (ls_s (ls_n (ls_n ls_0))))) (s_X12_isFinite_38 p0 (Int32.ofInt 0) h10 E hK)
  · replace E := ite_t E z6
    refine q_aload_n dX12_isFinite_13 rfl ?_
    refine q_iconst dX12_isFinite_14 ?_
    replace E := grd_some E
    obtain ⟨g15, E⟩ := E
    replace E := cal_some E
    obtain ⟨x14, h13, hc, E⟩ := E
    refine r_callV1 (mc := 0) (ms := 0) dX12_isFinite_15 KX12_196 (c_X12_fails hc) g15 (by decide) (Nat.le_of_ble_eq_true rfl) (fun _ _ q => q.elim) ?_
    rintro _ _ ⟨rfl, rfl⟩
    clear hc
    refine q_if_le (tgt := 25) dX12_isFinite_18 (by decide) (fun z16 => ?_) (fun z16 => ?_)
    · replace E := ite_t E z16
      refine q_iconst dX12_isFinite_25 ?_
      exact r_fewer [none, none, none, none, none] (ls_n (ls_n (ls_n (ls_n (ls_n ls_0))))) (s_X12_isFinite_26 (Int32.ofInt 0) h13 E hK)
    · replace E := ite_f E z16
      refine q_iconst dX12_isFinite_21 ?_
      refine q_goto (tgt := 26) dX12_isFinite_22 (by decide) ?_
      exact r_fewer [none, none, none, none, none] (ls_n (ls_n (ls_n (ls_n (ls_n ls_0))))) (s_X12_isFinite_26 (Int32.ofInt 1) h13 E hK)
theorem c_X12_isFinite {l : Launch} {G : mG} {p0 : Nat} {v1 : Int32} {h h' : mH} {r : Int32} (E : f_X12_isFinite p0 v1 h = some (r, h')) : mMet l G m_X12_isFinite 4 0 0 [.ref p0, .int v1] h (fun v k => v = some (.int r) ∧ h' = k) (fun _ _ => False) :=
  mMet_of (by decide +kernel) rfl (ac_c rfl (ac_c rfl ac_0)) (Nat.le_of_ble_eq_true rfl) (s_X12_isFinite_0 p0 v1 h E (And.intro rfl rfl))
set_option maxRecDepth 100000 in
set_option maxHeartbeats 4000000 in
theorem s_X12_isUniversal_26 {l : Launch} {G : mG} {Q : Option Value → mH → Prop} {X : String → mH → Prop} (s0 : Int32) (h : mH) {o : Int32 × mH} (E : g_X12_isUniversal_26 s0 h = some o) (hK : (fiI Q) o) : mW l G m_X12_isUniversal 4 0 0 26 [none, none, none] [.int s0] h Q X := by
  unfold g_X12_isUniversal_26 at E
  replace E := grd_some E
  obtain ⟨g1, E⟩ := E
  cases E
  exact q_zreturn dX12_isUniversal_26 rfl (narZ g1) hK
set_option maxRecDepth 100000 in
set_option maxHeartbeats 4000000 in
theorem sb_X12_isUniversal_34 {l : Launch} {G : mG} {Q : Option Value → mH → Prop} {X : String → mH → Prop} (p0 : Nat) (v2 : Int32) (h : mH) {o : ((Int32 × mH) ⊕ (Int32 × mH))} (E : b0_X12_isUniversal_34 p0 v2 h = some o) (hK : (lpK (w_X12_isUniversal_34 l G Q X p0) (fiI Q)) o) : mW l G m_X12_isUniversal 4 0 0 34 [some (.ref p0), none, some (.int v2)] [] h Q X := by
  unfold b0_X12_isUniversal_34 at E
  refine q_iload_n dX12_isUniversal_34 rfl ?_
  refine q_aload_n dX12_isUniversal_35 rfl ?_
  replace E := grd_some E
  obtain ⟨g1, E⟩ := E
  refine r_getI dX12_isUniversal_36 FX12_274 g1 ?_
  refine q_icmp_ge (tgt := 64) dX12_isUniversal_39 (by decide) (fun z2 => ?_) (fun z2 => ?_)
  · replace E := ite_t E z2
    refine q_iconst dX12_isUniversal_64 ?_
    cases E
    exact q_zreturn dX12_isUniversal_65 rfl (by decide) hK
  · replace E := ite_f E z2
    refine q_aload_n dX12_isUniversal_42 rfl ?_
    refine q_iconst dX12_isUniversal_43 ?_
    refine q_aload_n dX12_isUniversal_44 rfl ?_
    replace E := orf_some E
    obtain ⟨a3, ea3, E⟩ := E
    refine r_getR dX12_isUniversal_45 FX12_69 g1 ea3 ?_
    refine q_iload_n dX12_isUniversal_48 rfl ?_
    replace E := grd_some E
    obtain ⟨g4, E⟩ := E
    replace E := grd_some E
    obtain ⟨g5, E⟩ := E
    refine r_iaload dX12_isUniversal_49 g4 g5 ?_
    replace E := cal_some E
    obtain ⟨x7, h6, hc, E⟩ := E
    refine r_callV2 (mc := 0) (ms := 0) dX12_isUniversal_50 KX12_286 (c_X12_accepts hc) g1 (by decide) (Nat.le_of_ble_eq_true rfl) (fun _ _ q => q.elim) ?_
    rintro _ _ ⟨rfl, rfl⟩
    clear hc
    refine q_if_ne (tgt := 58) dX12_isUniversal_53 (by decide) (fun z8 => ?_) (fun z8 => ?_)
    · replace E := ite_f E z8
      replace E := bnd_x E
      obtain ⟨x9, ex9, E⟩ := E
      refine r_iinc (v := x9) dX12_isUniversal_58 rfl ex9 (by decide) (ls' := [some (.ref p0), none, some (.int x9)]) rfl ?_
      refine q_goto (tgt := 34) dX12_isUniversal_61 (by decide) ?_
      cases E
      exact r_fewer [some (.ref p0), none, some (.int x9)] (ls_s (ls_n (ls_s ls_0))) hK
    · replace E := ite_t E z8
      refine q_iconst dX12_isUniversal_56 ?_
      cases E
      exact q_zreturn dX12_isUniversal_57 rfl (by decide) hK
theorem s_X12_isUniversal_34 {l : Launch} {G : mG} {Q : Option Value → mH → Prop} {X : String → mH → Prop} (p0 : Nat) (v2 : Int32) (h : mH) {o : Int32 × mH} (E : g_X12_isUniversal_34 p0 v2 h = some o) (hK : (fiI Q) o) : mW l G m_X12_isUniversal 4 0 0 34 [some (.ref p0), none, some (.int v2)] [] h Q X :=
  (lp_go (w_X12_isUniversal_34 l G Q X p0) (fiI Q) (b_X12_isUniversal_34 p0) (fun s o E hK => sb_X12_isUniversal_34 p0 s.1 (s.2) E hK) _ _ _ E hK : w_X12_isUniversal_34 l G Q X p0 (v2, h))
set_option maxRecDepth 100000 in
set_option maxHeartbeats 4000000 in
theorem s_X12_isUniversal_0 {l : Launch} {G : mG} {Q : Option Value → mH → Prop} {X : String → mH → Prop} (p0 : Nat) (v1 : Int32) (h : mH) {o : Int32 × mH} (E : f_X12_isUniversal p0 v1 h = some o) (hK : (fiI Q) o) : mW l G m_X12_isUniversal 4 0 0 0 [some (.ref p0), some (.int v1), none] [] h Q X := by
  unfold f_X12_isUniversal at E
  refine q_aload_n dX12_isUniversal_0 rfl ?_
  refine q_iconst dX12_isUniversal_1 ?_
  replace E := grd_some E
  obtain ⟨g1, E⟩ := E
  replace E := bnd_x E
  obtain ⟨h2, eh2, E⟩ := E
  refine r_putI (hh := eh2) dX12_isUniversal_2 FX12_117 g1 rfl rfl ?_
  refine q_aload_n dX12_isUniversal_5 rfl ?_
  refine q_iload_n dX12_isUniversal_6 rfl ?_
  replace E := grd_some E
  obtain ⟨g5, E⟩ := E
  replace E := cal_some E
  obtain ⟨x4, h3, hc, E⟩ := E
  refine r_callV1 (mc := 0) (ms := 0) dX12_isUniversal_7 KX12_211 (c_X12_holds hc) g5 (by decide) (Nat.le_of_ble_eq_true rfl) (fun _ _ q => q.elim) ?_
  rintro _ _ ⟨rfl, rfl⟩
  clear hc
  refine q_if_ne (tgt := 27) dX12_isUniversal_10 (by decide) (fun z6 => ?_) (fun z6 => ?_)
  · replace E := ite_f E z6
    refine q_aload_n dX12_isUniversal_27 rfl ?_
    refine q_iload_n dX12_isUniversal_28 rfl ?_
    replace E := grd_some E
    obtain ⟨g9, E⟩ := E
    replace E := cal_some E
    obtain ⟨_, h7, hc, E⟩ := E
    refine r_callV1 (mc := 0) (ms := 0) dX12_isUniversal_29 KX12_292 (c_X12_opens hc) g9 (by decide) (Nat.le_of_ble_eq_true rfl) (fun _ _ q => q.elim) ?_
    rintro _ _ ⟨rfl, rfl⟩
    clear hc
    refine q_iconst dX12_isUniversal_32 ?_
    refine r_istore_n dX12_isUniversal_33 (by decide) rfl (ls' := [some (.ref p0), some (.int v1), some (.int (Int32.ofInt 0))]) rfl ?_
    exact r_fewer [some (.ref p0), none, some (.int (Int32.ofInt 0))] (ls_s (ls_n (ls_s ls_0))) (s_X12_isUniversal_34 p0 (Int32.ofInt 0) h7 E hK)
  · replace E := ite_t E z6
    refine q_aload_n dX12_isUniversal_13 rfl ?_
    refine q_iconst dX12_isUniversal_14 ?_
    replace E := grd_some E
    obtain ⟨g12, E⟩ := E
    replace E := cal_some E
    obtain ⟨x11, h10, hc, E⟩ := E
    refine r_callV1 (mc := 0) (ms := 0) dX12_isUniversal_15 KX12_196 (c_X12_fails hc) g12 (by decide) (Nat.le_of_ble_eq_true rfl) (fun _ _ q => q.elim) ?_
    rintro _ _ ⟨rfl, rfl⟩
    clear hc
    refine q_if_le (tgt := 25) dX12_isUniversal_18 (by decide) (fun z13 => ?_) (fun z13 => ?_)
    · replace E := ite_t E z13
      refine q_iconst dX12_isUniversal_25 ?_
      exact r_fewer [none, none, none] (ls_n (ls_n (ls_n ls_0))) (s_X12_isUniversal_26 (Int32.ofInt 0) h10 E hK)
    · replace E := ite_f E z13
      refine q_iconst dX12_isUniversal_21 ?_
      refine q_goto (tgt := 26) dX12_isUniversal_22 (by decide) ?_
      exact r_fewer [none, none, none] (ls_n (ls_n (ls_n ls_0))) (s_X12_isUniversal_26 (Int32.ofInt 1) h10 E hK)
theorem c_X12_isUniversal {l : Launch} {G : mG} {p0 : Nat} {v1 : Int32} {h h' : mH} {r : Int32} (E : f_X12_isUniversal p0 v1 h = some (r, h')) : mMet l G m_X12_isUniversal 4 0 0 [.ref p0, .int v1] h (fun v k => v = some (.int r) ∧ h' = k) (fun _ _ => False) :=
  mMet_of (by decide +kernel) rfl (ac_c rfl (ac_c rfl ac_0)) (Nat.le_of_ble_eq_true rfl) (s_X12_isUniversal_0 p0 v1 h E (And.intro rfl rfl))
set_option maxRecDepth 100000 in
set_option maxHeartbeats 4000000 in
theorem s_X12_areNot_34 {l : Launch} {G : mG} {Q : Option Value → mH → Prop} {X : String → mH → Prop} (s0 : Int32) (h : mH) {o : Int32 × mH} (E : g_X12_areNot_34 s0 h = some o) (hK : (fiI Q) o) : mW l G m_X12_areNot 3 0 0 34 [none, none, none] [.int s0] h Q X := by
  unfold g_X12_areNot_34 at E
  replace E := grd_some E
  obtain ⟨g1, E⟩ := E
  cases E
  exact q_zreturn dX12_areNot_34 rfl (narZ g1) hK
set_option maxRecDepth 100000 in
set_option maxHeartbeats 4000000 in
theorem s_X12_areNot_33 {l : Launch} {G : mG} {Q : Option Value → mH → Prop} {X : String → mH → Prop} (h : mH) {o : Int32 × mH} (E : g_X12_areNot_33  h = some o) (hK : (fiI Q) o) : mW l G m_X12_areNot 3 0 0 33 [none, none, none] [] h Q X := by
  unfold g_X12_areNot_33 at E
  refine q_iconst dX12_areNot_33 ?_
  exact r_fewer [none, none, none] (ls_n (ls_n (ls_n ls_0))) (s_X12_areNot_34 (Int32.ofInt 0) h E hK)
set_option maxRecDepth 100000 in
set_option maxHeartbeats 4000000 in
theorem s_X12_areNot_21 {l : Launch} {G : mG} {Q : Option Value → mH → Prop} {X : String → mH → Prop} (p0 : Nat) (h : mH) {o : Int32 × mH} (E : g_X12_areNot_21 p0 h = some o) (hK : (fiI Q) o) : mW l G m_X12_areNot 3 0 0 21 [some (.ref p0), none, none] [] h Q X := by
  unfold g_X12_areNot_21 at E
  refine q_aload_n dX12_areNot_21 rfl ?_
  refine q_iconst dX12_areNot_22 ?_
  replace E := grd_some E
  obtain ⟨g3, E⟩ := E
  replace E := cal_some E
  obtain ⟨x2, h1, hc, E⟩ := E
  refine r_callV1 (mc := 0) (ms := 0) dX12_areNot_23 KX12_196 (c_X12_fails hc) g3 (by decide) (Nat.le_of_ble_eq_true rfl) (fun _ _ q => q.elim) ?_
  rintro _ _ ⟨rfl, rfl⟩
  clear hc
  refine q_if_ne (tgt := 33) dX12_areNot_26 (by decide) (fun z4 => ?_) (fun z4 => ?_)
  · replace E := ite_f E z4
    exact r_fewer [none, none, none] (ls_n (ls_n (ls_n ls_0))) (s_X12_areNot_33 h1 E hK)
  · replace E := ite_t E z4
    refine q_iconst dX12_areNot_29 ?_
    refine q_goto (tgt := 34) dX12_areNot_30 (by decide) ?_
    exact r_fewer [none, none, none] (ls_n (ls_n (ls_n ls_0))) (s_X12_areNot_34 (Int32.ofInt 1) h1 E hK)
set_option maxRecDepth 100000 in
set_option maxHeartbeats 4000000 in
theorem s_X12_areNot_0 {l : Launch} {G : mG} {Q : Option Value → mH → Prop} {X : String → mH → Prop} (p0 : Nat) (v1 : Int32) (v2 : Int32) (h : mH) {o : Int32 × mH} (E : f_X12_areNot p0 v1 v2 h = some o) (hK : (fiI Q) o) : mW l G m_X12_areNot 3 0 0 0 [some (.ref p0), some (.int v1), some (.int v2)] [] h Q X := by
  unfold f_X12_areNot at E
  refine q_aload_n dX12_areNot_0 rfl ?_
  refine q_iconst dX12_areNot_1 ?_
  replace E := grd_some E
  obtain ⟨g1, E⟩ := E
  replace E := bnd_x E
  obtain ⟨h2, eh2, E⟩ := E
  refine r_putI (hh := eh2) dX12_areNot_2 FX12_117 g1 rfl rfl ?_
  refine q_aload_n dX12_areNot_5 rfl ?_
  refine q_iload_n dX12_areNot_6 rfl ?_
  replace E := grd_some E
  obtain ⟨g5, E⟩ := E
  replace E := cal_some E
  obtain ⟨x4, h3, hc, E⟩ := E
  refine r_callV1 (mc := 0) (ms := 0) dX12_areNot_7 KX12_211 (c_X12_holds hc) g5 (by decide) (Nat.le_of_ble_eq_true rfl) (fun _ _ q => q.elim) ?_
  rintro _ _ ⟨rfl, rfl⟩
  clear hc
  refine q_if_eq (tgt := 21) dX12_areNot_10 (by decide) (fun z6 => ?_) (fun z6 => ?_)
  · replace E := ite_t E z6
    exact r_fewer [some (.ref p0), none, none] (ls_s (ls_n (ls_n ls_0))) (s_X12_areNot_21 p0 h3 E hK)
  · replace E := ite_f E z6
    refine q_aload_n dX12_areNot_13 rfl ?_
    refine q_iload_n dX12_areNot_14 rfl ?_
    replace E := grd_some E
    obtain ⟨g9, E⟩ := E
    replace E := cal_some E
    obtain ⟨x8, h7, hc, E⟩ := E
    refine r_callV1 (mc := 0) (ms := 0) dX12_areNot_15 KX12_211 (c_X12_holds hc) g9 (by decide) (Nat.le_of_ble_eq_true rfl) (fun _ _ q => q.elim) ?_
    rintro _ _ ⟨rfl, rfl⟩
    clear hc
    refine q_if_ne (tgt := 33) dX12_areNot_18 (by decide) (fun z10 => ?_) (fun z10 => ?_)
    · replace E := ite_f E z10
      exact r_fewer [none, none, none] (ls_n (ls_n (ls_n ls_0))) (s_X12_areNot_33 h7 E hK)
    · replace E := ite_t E z10
      exact r_fewer [some (.ref p0), none, none] (ls_s (ls_n (ls_n ls_0))) (s_X12_areNot_21 p0 h7 E hK)
theorem c_X12_areNot {l : Launch} {G : mG} {p0 : Nat} {v1 : Int32} {v2 : Int32} {h h' : mH} {r : Int32} (E : f_X12_areNot p0 v1 v2 h = some (r, h')) : mMet l G m_X12_areNot 3 0 0 [.ref p0, .int v1, .int v2] h (fun v k => v = some (.int r) ∧ h' = k) (fun _ _ => False) :=
  mMet_of (by decide +kernel) rfl (ac_c rfl (ac_c rfl (ac_c rfl ac_0))) (Nat.le_of_ble_eq_true rfl) (s_X12_areNot_0 p0 v1 v2 h E (And.intro rfl rfl))
set_option maxRecDepth 100000 in
set_option maxHeartbeats 4000000 in
theorem s_X12_areEquivalent_26 {l : Launch} {G : mG} {Q : Option Value → mH → Prop} {X : String → mH → Prop} (s0 : Int32) (h : mH) {o : Int32 × mH} (E : g_X12_areEquivalent_26 s0 h = some o) (hK : (fiI Q) o) : mW l G m_X12_areEquivalent 5 0 0 26 [none, none, none] [.int s0] h Q X := by
  unfold g_X12_areEquivalent_26 at E
  replace E := grd_some E
  obtain ⟨g1, E⟩ := E
  cases E
  exact q_zreturn dX12_areEquivalent_26 rfl (narZ g1) hK
set_option maxRecDepth 100000 in
set_option maxHeartbeats 4000000 in
theorem s_X12_areEquivalent_0 {l : Launch} {G : mG} {Q : Option Value → mH → Prop} {X : String → mH → Prop} (p0 : Nat) (v1 : Int32) (v2 : Int32) (h : mH) {o : Int32 × mH} (E : f_X12_areEquivalent p0 v1 v2 h = some o) (hK : (fiI Q) o) : mW l G m_X12_areEquivalent 5 0 0 0 [some (.ref p0), some (.int v1), some (.int v2)] [] h Q X := by
  unfold f_X12_areEquivalent at E
  refine q_aload_n dX12_areEquivalent_0 rfl ?_
  refine q_iload_n dX12_areEquivalent_1 rfl ?_
  refine q_iload_n dX12_areEquivalent_2 rfl ?_
  replace E := grd_some E
  obtain ⟨g3, E⟩ := E
  replace E := cal_some E
  obtain ⟨x2, h1, hc, E⟩ := E
  refine r_callV2 (mc := 0) (ms := 0) dX12_areEquivalent_3 KX12_352 (c_X12_areNot hc) g3 (by decide) (Nat.le_of_ble_eq_true rfl) (fun _ _ q => q.elim) ?_
  rintro _ _ ⟨rfl, rfl⟩
  clear hc
  refine q_if_eq (tgt := 11) dX12_areEquivalent_6 (by decide) (fun z4 => ?_) (fun z4 => ?_)
  · replace E := ite_t E z4
    refine q_aload_n dX12_areEquivalent_11 rfl ?_
    refine q_iload_n dX12_areEquivalent_12 rfl ?_
    refine q_iload_n dX12_areEquivalent_13 rfl ?_
    refine q_iconst dX12_areEquivalent_14 ?_
    replace E := grd_some E
    obtain ⟨g7, E⟩ := E
    replace E := cal_some E
    obtain ⟨x6, h5, hc, E⟩ := E
    refine r_callV3 (mc := 0) (ms := 0) dX12_areEquivalent_15 KX12_355 (c_X12_apartSlots hc) g7 (by decide) (Nat.le_of_ble_eq_true rfl) (fun _ _ q => q.elim) ?_
    rintro _ _ ⟨rfl, rfl⟩
    clear hc
    refine q_if_ge (tgt := 25) dX12_areEquivalent_18 (by decide) (fun z8 => ?_) (fun z8 => ?_)
    · replace E := ite_t E z8
      refine q_iconst dX12_areEquivalent_25 ?_
      exact r_fewer [none, none, none] (ls_n (ls_n (ls_n ls_0))) (s_X12_areEquivalent_26 (Int32.ofInt 0) h5 E hK)
    · replace E := ite_f E z8
      refine q_iconst dX12_areEquivalent_21 ?_
      refine q_goto (tgt := 26) dX12_areEquivalent_22 (by decide) ?_
      exact r_fewer [none, none, none] (ls_n (ls_n (ls_n ls_0))) (s_X12_areEquivalent_26 (Int32.ofInt 1) h5 E hK)
  · replace E := ite_f E z4
    refine q_iconst dX12_areEquivalent_9 ?_
    cases E
    exact q_zreturn dX12_areEquivalent_10 rfl (by decide) hK
theorem c_X12_areEquivalent {l : Launch} {G : mG} {p0 : Nat} {v1 : Int32} {v2 : Int32} {h h' : mH} {r : Int32} (E : f_X12_areEquivalent p0 v1 v2 h = some (r, h')) : mMet l G m_X12_areEquivalent 5 0 0 [.ref p0, .int v1, .int v2] h (fun v k => v = some (.int r) ∧ h' = k) (fun _ _ => False) :=
  mMet_of (by decide +kernel) rfl (ac_c rfl (ac_c rfl (ac_c rfl ac_0))) (Nat.le_of_ble_eq_true rfl) (s_X12_areEquivalent_0 p0 v1 v2 h E (And.intro rfl rfl))
set_option maxRecDepth 100000 in
set_option maxHeartbeats 4000000 in
theorem s_X12_areEquivalentBySmallest_0 {l : Launch} {G : mG} {Q : Option Value → mH → Prop} {X : String → mH → Prop} (p0 : Nat) (v1 : Int32) (v2 : Int32) (h : mH) {o : Int32 × mH} (E : f_X12_areEquivalentBySmallest p0 v1 v2 h = some o) (hK : (fiI Q) o) : mW l G m_X12_areEquivalentBySmallest 6 0 0 0 [some (.ref p0), some (.int v1), some (.int v2)] [] h Q X := by
  unfold f_X12_areEquivalentBySmallest at E
  refine q_aload_n dX12_areEquivalentBySmallest_0 rfl ?_
  refine q_iload_n dX12_areEquivalentBySmallest_1 rfl ?_
  refine q_iload_n dX12_areEquivalentBySmallest_2 rfl ?_
  replace E := grd_some E
  obtain ⟨g3, E⟩ := E
  replace E := cal_some E
  obtain ⟨x2, h1, hc, E⟩ := E
  refine r_callV2 (mc := 0) (ms := 0) dX12_areEquivalentBySmallest_3 KX12_358 (c_X12_areEquivalent hc) g3 (by decide) (Nat.le_of_ble_eq_true rfl) (fun _ _ q => q.elim) ?_
  rintro _ _ ⟨rfl, rfl⟩
  clear hc
  replace E := grd_some E
  obtain ⟨g4, E⟩ := E
  cases E
  exact q_zreturn dX12_areEquivalentBySmallest_6 rfl (narZ g4) hK
theorem c_X12_areEquivalentBySmallest {l : Launch} {G : mG} {p0 : Nat} {v1 : Int32} {v2 : Int32} {h h' : mH} {r : Int32} (E : f_X12_areEquivalentBySmallest p0 v1 v2 h = some (r, h')) : mMet l G m_X12_areEquivalentBySmallest 6 0 0 [.ref p0, .int v1, .int v2] h (fun v k => v = some (.int r) ∧ h' = k) (fun _ _ => False) :=
  mMet_of (by decide +kernel) rfl (ac_c rfl (ac_c rfl (ac_c rfl ac_0))) (Nat.le_of_ble_eq_true rfl) (s_X12_areEquivalentBySmallest_0 p0 v1 v2 h E (And.intro rfl rfl))
set_option maxRecDepth 100000 in
set_option maxHeartbeats 4000000 in
theorem s_X12_isIncluded_26 {l : Launch} {G : mG} {Q : Option Value → mH → Prop} {X : String → mH → Prop} (s0 : Int32) (h : mH) {o : Int32 × mH} (E : g_X12_isIncluded_26 s0 h = some o) (hK : (fiI Q) o) : mW l G m_X12_isIncluded 5 0 0 26 [none, none, none] [.int s0] h Q X := by
  unfold g_X12_isIncluded_26 at E
  replace E := grd_some E
  obtain ⟨g1, E⟩ := E
  cases E
  exact q_zreturn dX12_isIncluded_26 rfl (narZ g1) hK
set_option maxRecDepth 100000 in
set_option maxHeartbeats 4000000 in
theorem s_X12_isIncluded_0 {l : Launch} {G : mG} {Q : Option Value → mH → Prop} {X : String → mH → Prop} (p0 : Nat) (v1 : Int32) (v2 : Int32) (h : mH) {o : Int32 × mH} (E : f_X12_isIncluded p0 v1 v2 h = some o) (hK : (fiI Q) o) : mW l G m_X12_isIncluded 5 0 0 0 [some (.ref p0), some (.int v1), some (.int v2)] [] h Q X := by
  unfold f_X12_isIncluded at E
  refine q_aload_n dX12_isIncluded_0 rfl ?_
  refine q_iload_n dX12_isIncluded_1 rfl ?_
  refine q_iload_n dX12_isIncluded_2 rfl ?_
  replace E := grd_some E
  obtain ⟨g3, E⟩ := E
  replace E := cal_some E
  obtain ⟨x2, h1, hc, E⟩ := E
  refine r_callV2 (mc := 0) (ms := 0) dX12_isIncluded_3 KX12_352 (c_X12_areNot hc) g3 (by decide) (Nat.le_of_ble_eq_true rfl) (fun _ _ q => q.elim) ?_
  rintro _ _ ⟨rfl, rfl⟩
  clear hc
  refine q_if_eq (tgt := 11) dX12_isIncluded_6 (by decide) (fun z4 => ?_) (fun z4 => ?_)
  · replace E := ite_t E z4
    refine q_aload_n dX12_isIncluded_11 rfl ?_
    refine q_iload_n dX12_isIncluded_12 rfl ?_
    refine q_iload_n dX12_isIncluded_13 rfl ?_
    refine q_iconst dX12_isIncluded_14 ?_
    replace E := grd_some E
    obtain ⟨g7, E⟩ := E
    replace E := cal_some E
    obtain ⟨x6, h5, hc, E⟩ := E
    refine r_callV3 (mc := 0) (ms := 0) dX12_isIncluded_15 KX12_355 (c_X12_apartSlots hc) g7 (by decide) (Nat.le_of_ble_eq_true rfl) (fun _ _ q => q.elim) ?_
    rintro _ _ ⟨rfl, rfl⟩
    clear hc
    refine q_if_ge (tgt := 25) dX12_isIncluded_18 (by decide) (fun z8 => ?_) (fun z8 => ?_)
    · replace E := ite_t E z8
      refine q_iconst dX12_isIncluded_25 ?_
      exact r_fewer [none, none, none] (ls_n (ls_n (ls_n ls_0))) (s_X12_isIncluded_26 (Int32.ofInt 0) h5 E hK)
    · replace E := ite_f E z8
      refine q_iconst dX12_isIncluded_21 ?_
      refine q_goto (tgt := 26) dX12_isIncluded_22 (by decide) ?_
      exact r_fewer [none, none, none] (ls_n (ls_n (ls_n ls_0))) (s_X12_isIncluded_26 (Int32.ofInt 1) h5 E hK)
  · replace E := ite_f E z4
    refine q_iconst dX12_isIncluded_9 ?_
    cases E
    exact q_zreturn dX12_isIncluded_10 rfl (by decide) hK
theorem c_X12_isIncluded {l : Launch} {G : mG} {p0 : Nat} {v1 : Int32} {v2 : Int32} {h h' : mH} {r : Int32} (E : f_X12_isIncluded p0 v1 v2 h = some (r, h')) : mMet l G m_X12_isIncluded 5 0 0 [.ref p0, .int v1, .int v2] h (fun v k => v = some (.int r) ∧ h' = k) (fun _ _ => False) :=
  mMet_of (by decide +kernel) rfl (ac_c rfl (ac_c rfl (ac_c rfl ac_0))) (Nat.le_of_ble_eq_true rfl) (s_X12_isIncluded_0 p0 v1 v2 h E (And.intro rfl rfl))
set_option maxRecDepth 100000 in
set_option maxHeartbeats 4000000 in
theorem s_X12_differenceLength_0 {l : Launch} {G : mG} {Q : Option Value → mH → Prop} {X : String → mH → Prop} (p0 : Nat) (v1 : Int32) (v2 : Int32) (h : mH) {o : Int32 × mH} (E : f_X12_differenceLength p0 v1 v2 h = some o) (hK : (fiI Q) o) : mW l G m_X12_differenceLength 5 0 0 0 [some (.ref p0), some (.int v1), some (.int v2)] [] h Q X := by
  unfold f_X12_differenceLength at E
  refine q_aload_n dX12_differenceLength_0 rfl ?_
  refine q_iload_n dX12_differenceLength_1 rfl ?_
  refine q_iload_n dX12_differenceLength_2 rfl ?_
  replace E := grd_some E
  obtain ⟨g3, E⟩ := E
  replace E := cal_some E
  obtain ⟨x2, h1, hc, E⟩ := E
  refine r_callV2 (mc := 0) (ms := 0) dX12_differenceLength_3 KX12_352 (c_X12_areNot hc) g3 (by decide) (Nat.le_of_ble_eq_true rfl) (fun _ _ q => q.elim) ?_
  rintro _ _ ⟨rfl, rfl⟩
  clear hc
  refine q_if_eq (tgt := 11) dX12_differenceLength_6 (by decide) (fun z4 => ?_) (fun z4 => ?_)
  · replace E := ite_t E z4
    refine q_aload_n dX12_differenceLength_11 rfl ?_
    refine q_iload_n dX12_differenceLength_12 rfl ?_
    refine q_iload_n dX12_differenceLength_13 rfl ?_
    refine q_iconst dX12_differenceLength_14 ?_
    replace E := grd_some E
    obtain ⟨g7, E⟩ := E
    replace E := cal_some E
    obtain ⟨x6, h5, hc, E⟩ := E
    refine r_callV3 (mc := 0) (ms := 0) dX12_differenceLength_15 KX12_355 (c_X12_apartSlots hc) g7 (by decide) (Nat.le_of_ble_eq_true rfl) (fun _ _ q => q.elim) ?_
    rintro _ _ ⟨rfl, rfl⟩
    clear hc
    cases E
    exact q_ireturn dX12_differenceLength_18 rfl hK
  · replace E := ite_f E z4
    refine q_iconst dX12_differenceLength_9 ?_
    cases E
    exact q_ireturn dX12_differenceLength_10 rfl hK
theorem c_X12_differenceLength {l : Launch} {G : mG} {p0 : Nat} {v1 : Int32} {v2 : Int32} {h h' : mH} {r : Int32} (E : f_X12_differenceLength p0 v1 v2 h = some (r, h')) : mMet l G m_X12_differenceLength 5 0 0 [.ref p0, .int v1, .int v2] h (fun v k => v = some (.int r) ∧ h' = k) (fun _ _ => False) :=
  mMet_of (by decide +kernel) rfl (ac_c rfl (ac_c rfl (ac_c rfl ac_0))) (Nat.le_of_ble_eq_true rfl) (s_X12_differenceLength_0 p0 v1 v2 h E (And.intro rfl rfl))
set_option maxRecDepth 100000 in
set_option maxHeartbeats 4000000 in
theorem s_X12_isAhead_35 {l : Launch} {G : mG} {Q : Option Value → mH → Prop} {X : String → mH → Prop} (s0 : Int32) (h : mH) {o : Int32 × mH} (E : g_X12_isAhead_35 s0 h = some o) (hK : (fiI Q) o) : mW l G m_X12_isAhead 2 0 0 35 [none, none, none] [.int s0] h Q X := by
  unfold g_X12_isAhead_35 at E
  replace E := grd_some E
  obtain ⟨g1, E⟩ := E
  cases E
  exact q_zreturn dX12_isAhead_35 rfl (narZ g1) hK
set_option maxRecDepth 100000 in
set_option maxHeartbeats 4000000 in
theorem s_X12_isAhead_80 {l : Launch} {G : mG} {Q : Option Value → mH → Prop} {X : String → mH → Prop} (s0 : Int32) (h : mH) {o : Int32 × mH} (E : g_X12_isAhead_80 s0 h = some o) (hK : (fiI Q) o) : mW l G m_X12_isAhead 2 0 0 80 [none, none, none] [.int s0] h Q X := by
  unfold g_X12_isAhead_80 at E
  replace E := grd_some E
  obtain ⟨g1, E⟩ := E
  cases E
  exact q_zreturn dX12_isAhead_80 rfl (narZ g1) hK
set_option maxRecDepth 100000 in
set_option maxHeartbeats 4000000 in
theorem s_X12_isAhead_0 {l : Launch} {G : mG} {Q : Option Value → mH → Prop} {X : String → mH → Prop} (p0 : Nat) (v1 : Int32) (v2 : Int32) (h : mH) {o : Int32 × mH} (E : f_X12_isAhead p0 v1 v2 h = some o) (hK : (fiI Q) o) : mW l G m_X12_isAhead 2 0 0 0 [some (.ref p0), some (.int v1), some (.int v2)] [] h Q X := by
  unfold f_X12_isAhead at E
  refine q_aload_n dX12_isAhead_0 rfl ?_
  replace E := grd_some E
  obtain ⟨g1, E⟩ := E
  replace E := orf_some E
  obtain ⟨a2, ea2, E⟩ := E
  refine r_getR dX12_isAhead_1 FX12_102 g1 ea2 ?_
  refine q_iload_n dX12_isAhead_4 rfl ?_
  replace E := grd_some E
  obtain ⟨g3, E⟩ := E
  replace E := grd_some E
  obtain ⟨g4, E⟩ := E
  refine r_iaload dX12_isAhead_5 g3 g4 ?_
  refine q_aload_n dX12_isAhead_6 rfl ?_
  refine r_getR dX12_isAhead_7 FX12_102 g1 ea2 ?_
  refine q_iload_n dX12_isAhead_10 rfl ?_
  replace E := grd_some E
  obtain ⟨g6, E⟩ := E
  refine r_iaload dX12_isAhead_11 g3 g6 ?_
  refine q_icmp_eq (tgt := 36) dX12_isAhead_12 (by decide) (fun z7 => ?_) (fun z7 => ?_)
  · replace E := ite_t E z7
    refine q_aload_n dX12_isAhead_36 rfl ?_
    refine q_iload_n dX12_isAhead_37 rfl ?_
    replace E := cal_some E
    obtain ⟨x9, h8, hc, E⟩ := E
    refine r_callV1 (mc := 0) (ms := 0) dX12_isAhead_38 KX12_319 (c_X12_lettersOf hc) g1 (by decide) (Nat.le_of_ble_eq_true rfl) (fun _ _ q => q.elim) ?_
    rintro _ _ ⟨rfl, rfl⟩
    clear hc
    refine q_aload_n dX12_isAhead_41 rfl ?_
    refine q_iload_n dX12_isAhead_42 rfl ?_
    replace E := grd_some E
    obtain ⟨g12, E⟩ := E
    replace E := cal_some E
    obtain ⟨x11, h10, hc, E⟩ := E
    refine r_callV1 (mc := 0) (ms := 0) dX12_isAhead_43 KX12_319 (c_X12_lettersOf hc) g12 (by decide) (Nat.le_of_ble_eq_true rfl) (fun _ _ q => q.elim) ?_
    rintro _ _ ⟨rfl, rfl⟩
    clear hc
    refine q_icmp_eq (tgt := 70) dX12_isAhead_46 (by decide) (fun z13 => ?_) (fun z13 => ?_)
    · replace E := ite_t E z13
      refine q_iload_n dX12_isAhead_70 rfl ?_
      refine q_iload_n dX12_isAhead_71 rfl ?_
      refine q_icmp_ge (tgt := 79) dX12_isAhead_72 (by decide) (fun z14 => ?_) (fun z14 => ?_)
      · replace E := ite_t E z14
        refine q_iconst dX12_isAhead_79 ?_
        exact r_fewer [none, none, none] (ls_n (ls_n (ls_n ls_0))) (s_X12_isAhead_80 (Int32.ofInt 0) h10 E hK)
      · replace E := ite_f E z14
        refine q_iconst dX12_isAhead_75 ?_
        refine q_goto (tgt := 80) dX12_isAhead_76 (by decide) ?_
        exact r_fewer [none, none, none] (ls_n (ls_n (ls_n ls_0))) (s_X12_isAhead_80 (Int32.ofInt 1) h10 E hK)
    · replace E := ite_f E z13
      refine q_aload_n dX12_isAhead_49 rfl ?_
      refine q_iload_n dX12_isAhead_50 rfl ?_
      replace E := grd_some E
      obtain ⟨g17, E⟩ := E
      replace E := cal_some E
      obtain ⟨x16, h15, hc, E⟩ := E
      refine r_callV1 (mc := 0) (ms := 0) dX12_isAhead_51 KX12_319 (c_X12_lettersOf hc) g17 (by decide) (Nat.le_of_ble_eq_true rfl) (fun _ _ q => q.elim) ?_
      rintro _ _ ⟨rfl, rfl⟩
      clear hc
      refine q_aload_n dX12_isAhead_54 rfl ?_
      refine q_iload_n dX12_isAhead_55 rfl ?_
      replace E := grd_some E
      obtain ⟨g20, E⟩ := E
      replace E := cal_some E
      obtain ⟨x19, h18, hc, E⟩ := E
      refine r_callV1 (mc := 0) (ms := 0) dX12_isAhead_56 KX12_319 (c_X12_lettersOf hc) g20 (by decide) (Nat.le_of_ble_eq_true rfl) (fun _ _ q => q.elim) ?_
      rintro _ _ ⟨rfl, rfl⟩
      clear hc
      refine q_icmp_ge (tgt := 66) dX12_isAhead_59 (by decide) (fun z21 => ?_) (fun z21 => ?_)
      · replace E := ite_t E z21
        refine q_iconst dX12_isAhead_66 ?_
        refine q_goto (tgt := 80) dX12_isAhead_67 (by decide) ?_
        exact r_fewer [none, none, none] (ls_n (ls_n (ls_n ls_0))) (s_X12_isAhead_80 (Int32.ofInt 0) h18 E hK)
      · replace E := ite_f E z21
        refine q_iconst dX12_isAhead_62 ?_
        refine q_goto (tgt := 80) dX12_isAhead_63 (by decide) ?_
        exact r_fewer [none, none, none] (ls_n (ls_n (ls_n ls_0))) (s_X12_isAhead_80 (Int32.ofInt 1) h18 E hK)
  · replace E := ite_f E z7
    refine q_aload_n dX12_isAhead_15 rfl ?_
    refine r_getR dX12_isAhead_16 FX12_102 g1 ea2 ?_
    refine q_iload_n dX12_isAhead_19 rfl ?_
    refine r_iaload dX12_isAhead_20 g3 g4 ?_
    refine q_aload_n dX12_isAhead_21 rfl ?_
    refine r_getR dX12_isAhead_22 FX12_102 g1 ea2 ?_
    refine q_iload_n dX12_isAhead_25 rfl ?_
    refine r_iaload dX12_isAhead_26 g3 g6 ?_
    refine q_icmp_ge (tgt := 34) dX12_isAhead_27 (by decide) (fun z24 => ?_) (fun z24 => ?_)
    · replace E := ite_t E z24
      refine q_iconst dX12_isAhead_34 ?_
      exact r_fewer [none, none, none] (ls_n (ls_n (ls_n ls_0))) (s_X12_isAhead_35 (Int32.ofInt 0) h E hK)
    · replace E := ite_f E z24
      refine q_iconst dX12_isAhead_30 ?_
      refine q_goto (tgt := 35) dX12_isAhead_31 (by decide) ?_
      exact r_fewer [none, none, none] (ls_n (ls_n (ls_n ls_0))) (s_X12_isAhead_35 (Int32.ofInt 1) h E hK)
theorem c_X12_isAhead {l : Launch} {G : mG} {p0 : Nat} {v1 : Int32} {v2 : Int32} {h h' : mH} {r : Int32} (E : f_X12_isAhead p0 v1 v2 h = some (r, h')) : mMet l G m_X12_isAhead 2 0 0 [.ref p0, .int v1, .int v2] h (fun v k => v = some (.int r) ∧ h' = k) (fun _ _ => False) :=
  mMet_of (by decide +kernel) rfl (ac_c rfl (ac_c rfl (ac_c rfl ac_0))) (Nat.le_of_ble_eq_true rfl) (s_X12_isAhead_0 p0 v1 v2 h E (And.intro rfl rfl))
set_option maxRecDepth 100000 in
set_option maxHeartbeats 4000000 in
theorem s_X12_slotByStates_35 {l : Launch} {G : mG} {Q : Option Value → mH → Prop} {X : String → mH → Prop} (p0 : Nat) (v1 : Int32) (v2 : Int32) (s0 : Int32) (s1 : Int32) (sp2 : Nat) (h : mH) {o : ((Int32 × mH) ⊕ (Int32 × mH))} (E : g_X12_slotByStates_35 p0 v1 v2 s0 s1 sp2 h = some o) (hK : (lpK (w_X12_slotByStates_7 l G Q X p0 v1) (fiI Q)) o) : mW l G m_X12_slotByStates 5 0 0 35 [some (.ref p0), some (.int v1), some (.int v2), none, none] [.int s0, .int s1, .ref sp2] h Q X := by
  unfold g_X12_slotByStates_35 at E
  replace E := grd_some E
  obtain ⟨g2, E⟩ := E
  replace E := grd_some E
  obtain ⟨g3, E⟩ := E
  replace E := bnd_x E
  obtain ⟨h1, eh1, E⟩ := E
  refine r_iastore (hh := eh1) dX12_slotByStates_35 g2 g3 ?_
  replace E := bnd_x E
  obtain ⟨x4, ex4, E⟩ := E
  refine r_iinc (v := x4) dX12_slotByStates_36 rfl ex4 (by decide) (ls' := [some (.ref p0), some (.int v1), some (.int x4), none, none]) rfl ?_
  refine q_goto (tgt := 7) dX12_slotByStates_39 (by decide) ?_
  cases E
  exact r_fewer [some (.ref p0), some (.int v1), some (.int x4), none, none] (ls_s (ls_s (ls_s (ls_n (ls_n ls_0))))) hK
set_option maxRecDepth 100000 in
set_option maxHeartbeats 4000000 in
theorem s_X12_slotByStates_93 {l : Launch} {G : mG} {Q : Option Value → mH → Prop} {X : String → mH → Prop} (p0 : Nat) (v1 : Int32) (v2 : Int32) (v4 : Int32) (s0 : Int32) (s1 : Int32) (h : mH) {o : ((Int32 × Int32 × mH) ⊕ ((Int32 × mH) ⊕ (Int32 × mH)))} (E : g_X12_slotByStates_93 p0 v1 v2 v4 s0 s1 h = some o) (hK : (lpK (w_X12_slotByStates_55 l G Q X p0 v1 v2) (lpK (w_X12_slotByStates_44 l G Q X p0 v1) (fiI Q))) o) : mW l G m_X12_slotByStates 5 0 0 93 [some (.ref p0), some (.int v1), some (.int v2), none, some (.int v4)] [.int s0, .int s1] h Q X := by
  unfold g_X12_slotByStates_93 at E
  refine q_iadd dX12_slotByStates_93 ?_
  replace E := bnd_x E
  obtain ⟨x1, ex1, E⟩ := E
  refine r_istore_n dX12_slotByStates_94 (by decide) ex1 (ls' := [some (.ref p0), some (.int v1), some (.int v2), some (.int x1), some (.int v4)]) rfl ?_
  replace E := bnd_x E
  obtain ⟨x2, ex2, E⟩ := E
  refine r_iinc (v := x2) dX12_slotByStates_95 rfl ex2 (by decide) (ls' := [some (.ref p0), some (.int v1), some (.int v2), some (.int x1), some (.int x2)]) rfl ?_
  refine q_goto (tgt := 55) dX12_slotByStates_98 (by decide) ?_
  cases E
  exact r_fewer [some (.ref p0), some (.int v1), some (.int v2), some (.int x1), some (.int x2)] (ls_s (ls_s (ls_s (ls_s (ls_s ls_0))))) hK
set_option maxRecDepth 100000 in
set_option maxHeartbeats 4000000 in
theorem s_X12_slotByStates_92 {l : Launch} {G : mG} {Q : Option Value → mH → Prop} {X : String → mH → Prop} (p0 : Nat) (v1 : Int32) (v2 : Int32) (v4 : Int32) (s0 : Int32) (h : mH) {o : ((Int32 × Int32 × mH) ⊕ ((Int32 × mH) ⊕ (Int32 × mH)))} (E : g_X12_slotByStates_92 p0 v1 v2 v4 s0 h = some o) (hK : (lpK (w_X12_slotByStates_55 l G Q X p0 v1 v2) (lpK (w_X12_slotByStates_44 l G Q X p0 v1) (fiI Q))) o) : mW l G m_X12_slotByStates 5 0 0 92 [some (.ref p0), some (.int v1), some (.int v2), none, some (.int v4)] [.int s0] h Q X := by
  unfold g_X12_slotByStates_92 at E
  refine q_iconst dX12_slotByStates_92 ?_
  exact r_fewer [some (.ref p0), some (.int v1), some (.int v2), none, some (.int v4)] (ls_s (ls_s (ls_s (ls_n (ls_s ls_0))))) (s_X12_slotByStates_93 p0 v1 v2 v4 (Int32.ofInt 0) s0 h E hK)
set_option maxRecDepth 100000 in
set_option maxHeartbeats 4000000 in
theorem s_X12_slotByStates_116 {l : Launch} {G : mG} {Q : Option Value → mH → Prop} {X : String → mH → Prop} (p0 : Nat) (v1 : Int32) (v2 : Int32) (h : mH) {o : ((Int32 × mH) ⊕ (Int32 × mH))} (E : g_X12_slotByStates_116 p0 v1 v2 h = some o) (hK : (lpK (w_X12_slotByStates_44 l G Q X p0 v1) (fiI Q)) o) : mW l G m_X12_slotByStates 5 0 0 116 [some (.ref p0), some (.int v1), some (.int v2), none, none] [] h Q X := by
  unfold g_X12_slotByStates_116 at E
  replace E := bnd_x E
  obtain ⟨x1, ex1, E⟩ := E
  refine r_iinc (v := x1) dX12_slotByStates_116 rfl ex1 (by decide) (ls' := [some (.ref p0), some (.int v1), some (.int x1), none, none]) rfl ?_
  refine q_goto (tgt := 44) dX12_slotByStates_119 (by decide) ?_
  cases E
  exact r_fewer [some (.ref p0), some (.int v1), some (.int x1), none, none] (ls_s (ls_s (ls_s (ls_n (ls_n ls_0))))) hK
set_option maxRecDepth 100000 in
set_option maxHeartbeats 4000000 in
theorem sb_X12_slotByStates_55 {l : Launch} {G : mG} {Q : Option Value → mH → Prop} {X : String → mH → Prop} (p0 : Nat) (v1 : Int32) (v2 : Int32) (v3 : Int32) (v4 : Int32) (h : mH) {o : ((Int32 × Int32 × mH) ⊕ ((Int32 × mH) ⊕ (Int32 × mH)))} (E : b0_X12_slotByStates_55 p0 v1 v2 v3 v4 h = some o) (hK : (lpK (w_X12_slotByStates_55 l G Q X p0 v1 v2) (lpK (w_X12_slotByStates_44 l G Q X p0 v1) (fiI Q))) o) : mW l G m_X12_slotByStates 5 0 0 55 [some (.ref p0), some (.int v1), some (.int v2), some (.int v3), some (.int v4)] [] h Q X := by
  unfold b0_X12_slotByStates_55 at E
  refine q_iload dX12_slotByStates_55 rfl ?_
  refine q_bipush (v := (Int32.ofInt 6)) dX12_slotByStates_57 (by decide) ?_
  refine q_icmp_ge (tgt := 101) dX12_slotByStates_59 (by decide) (fun z1 => ?_) (fun z1 => ?_)
  · replace E := ite_t E z1
    refine q_aload_n dX12_slotByStates_101 rfl ?_
    refine q_iload_n dX12_slotByStates_102 rfl ?_
    replace E := grd_some E
    obtain ⟨g4, E⟩ := E
    replace E := cal_some E
    obtain ⟨x3, h2, hc, E⟩ := E
    refine r_callV1 (mc := 0) (ms := 0) dX12_slotByStates_103 KX12_211 (c_X12_holds hc) g4 (by decide) (Nat.le_of_ble_eq_true rfl) (fun _ _ q => q.elim) ?_
    rintro _ _ ⟨rfl, rfl⟩
    clear hc
    refine q_if_eq (tgt := 116) dX12_slotByStates_106 (by decide) (fun z5 => ?_) (fun z5 => ?_)
    · replace E := ite_t E z5
      obtain ⟨o0, E0, rfl⟩ := inrO_some E
      exact r_fewer [some (.ref p0), some (.int v1), some (.int v2), none, none] (ls_s (ls_s (ls_s (ls_n (ls_n ls_0))))) (s_X12_slotByStates_116 p0 v1 v2 h2 E0 hK)
    · replace E := ite_f E z5
      refine q_iload_n dX12_slotByStates_109 rfl ?_
      refine q_iload_n dX12_slotByStates_110 rfl ?_
      refine q_icmp_ne (tgt := 116) dX12_slotByStates_111 (by decide) (fun z6 => ?_) (fun z6 => ?_)
      · replace E := ite_f E z6
        obtain ⟨o0, E0, rfl⟩ := inrO_some E
        exact r_fewer [some (.ref p0), some (.int v1), some (.int v2), none, none] (ls_s (ls_s (ls_s (ls_n (ls_n ls_0))))) (s_X12_slotByStates_116 p0 v1 v2 h2 E0 hK)
      · replace E := ite_t E z6
        refine q_iload_n dX12_slotByStates_114 rfl ?_
        cases E
        exact q_ireturn dX12_slotByStates_115 rfl hK
  · replace E := ite_f E z1
    refine q_iload_n dX12_slotByStates_62 rfl ?_
    refine q_iload dX12_slotByStates_63 rfl ?_
    refine q_iload_n dX12_slotByStates_65 rfl ?_
    refine q_icmp_eq (tgt := 92) dX12_slotByStates_66 (by decide) (fun z7 => ?_) (fun z7 => ?_)
    · replace E := ite_t E z7
      exact r_fewer [some (.ref p0), some (.int v1), some (.int v2), none, some (.int v4)] (ls_s (ls_s (ls_s (ls_n (ls_s ls_0))))) (s_X12_slotByStates_92 p0 v1 v2 v4 v3 h E hK)
    · replace E := ite_f E z7
      refine q_aload_n dX12_slotByStates_69 rfl ?_
      refine q_iload dX12_slotByStates_70 rfl ?_
      replace E := grd_some E
      obtain ⟨g10, E⟩ := E
      replace E := cal_some E
      obtain ⟨x9, h8, hc, E⟩ := E
      refine r_callV1 (mc := 0) (ms := 0) dX12_slotByStates_72 KX12_211 (c_X12_holds hc) g10 (by decide) (Nat.le_of_ble_eq_true rfl) (fun _ _ q => q.elim) ?_
      rintro _ _ ⟨rfl, rfl⟩
      clear hc
      refine q_if_eq (tgt := 92) dX12_slotByStates_75 (by decide) (fun z11 => ?_) (fun z11 => ?_)
      · replace E := ite_t E z11
        exact r_fewer [some (.ref p0), some (.int v1), some (.int v2), none, some (.int v4)] (ls_s (ls_s (ls_s (ls_n (ls_s ls_0))))) (s_X12_slotByStates_92 p0 v1 v2 v4 v3 h8 E hK)
      · replace E := ite_f E z11
        refine q_aload_n dX12_slotByStates_78 rfl ?_
        refine q_iload dX12_slotByStates_79 rfl ?_
        refine q_iload_n dX12_slotByStates_81 rfl ?_
        replace E := grd_some E
        obtain ⟨g14, E⟩ := E
        replace E := cal_some E
        obtain ⟨x13, h12, hc, E⟩ := E
        refine r_callV2 (mc := 0) (ms := 0) dX12_slotByStates_82 KX12_361 (c_X12_isAhead hc) g14 (by decide) (Nat.le_of_ble_eq_true rfl) (fun _ _ q => q.elim) ?_
        rintro _ _ ⟨rfl, rfl⟩
        clear hc
        refine q_if_eq (tgt := 92) dX12_slotByStates_85 (by decide) (fun z15 => ?_) (fun z15 => ?_)
        · replace E := ite_t E z15
          exact r_fewer [some (.ref p0), some (.int v1), some (.int v2), none, some (.int v4)] (ls_s (ls_s (ls_s (ls_n (ls_s ls_0))))) (s_X12_slotByStates_92 p0 v1 v2 v4 v3 h12 E hK)
        · replace E := ite_f E z15
          refine q_iconst dX12_slotByStates_88 ?_
          refine q_goto (tgt := 93) dX12_slotByStates_89 (by decide) ?_
          exact r_fewer [some (.ref p0), some (.int v1), some (.int v2), none, some (.int v4)] (ls_s (ls_s (ls_s (ls_n (ls_s ls_0))))) (s_X12_slotByStates_93 p0 v1 v2 v4 (Int32.ofInt 1) v3 h12 E hK)
theorem s_X12_slotByStates_55 {l : Launch} {G : mG} {Q : Option Value → mH → Prop} {X : String → mH → Prop} (p0 : Nat) (v1 : Int32) (v2 : Int32) (v3 : Int32) (v4 : Int32) (h : mH) {o : ((Int32 × mH) ⊕ (Int32 × mH))} (E : g_X12_slotByStates_55 p0 v1 v2 v3 v4 h = some o) (hK : (lpK (w_X12_slotByStates_44 l G Q X p0 v1) (fiI Q)) o) : mW l G m_X12_slotByStates 5 0 0 55 [some (.ref p0), some (.int v1), some (.int v2), some (.int v3), some (.int v4)] [] h Q X :=
  (lp_go (w_X12_slotByStates_55 l G Q X p0 v1 v2) (lpK (w_X12_slotByStates_44 l G Q X p0 v1) (fiI Q)) (b_X12_slotByStates_55 p0 v1 v2) (fun s o E hK => sb_X12_slotByStates_55 p0 v1 v2 s.1 s.2.1 (s.2.2) E hK) _ _ _ E hK : w_X12_slotByStates_55 l G Q X p0 v1 v2 (v3, v4, h))
set_option maxRecDepth 100000 in
set_option maxHeartbeats 4000000 in
theorem sb_X12_slotByStates_44 {l : Launch} {G : mG} {Q : Option Value → mH → Prop} {X : String → mH → Prop} (p0 : Nat) (v1 : Int32) (v2 : Int32) (h : mH) {o : ((Int32 × mH) ⊕ (Int32 × mH))} (E : b0_X12_slotByStates_44 p0 v1 v2 h = some o) (hK : (lpK (w_X12_slotByStates_44 l G Q X p0 v1) (fiI Q)) o) : mW l G m_X12_slotByStates 5 0 0 44 [some (.ref p0), some (.int v1), some (.int v2), none, none] [] h Q X := by
  unfold b0_X12_slotByStates_44 at E
  refine q_iload_n dX12_slotByStates_44 rfl ?_
  refine q_bipush (v := (Int32.ofInt 6)) dX12_slotByStates_45 (by decide) ?_
  refine q_icmp_ge (tgt := 122) dX12_slotByStates_47 (by decide) (fun z1 => ?_) (fun z1 => ?_)
  · replace E := ite_t E z1
    refine q_aload_n dX12_slotByStates_122 rfl ?_
    refine q_iconst dX12_slotByStates_123 ?_
    replace E := grd_some E
    obtain ⟨g4, E⟩ := E
    replace E := cal_some E
    obtain ⟨x3, h2, hc, E⟩ := E
    refine r_callV1 (mc := 0) (ms := 0) dX12_slotByStates_124 KX12_196 (c_X12_fails hc) g4 (by decide) (Nat.le_of_ble_eq_true rfl) (fun _ _ q => q.elim) ?_
    rintro _ _ ⟨rfl, rfl⟩
    clear hc
    cases E
    exact q_ireturn dX12_slotByStates_127 rfl hK
  · replace E := ite_f E z1
    refine q_iconst dX12_slotByStates_50 ?_
    refine r_istore_n dX12_slotByStates_51 (by decide) rfl (ls' := [some (.ref p0), some (.int v1), some (.int v2), some (.int (Int32.ofInt 0)), none]) rfl ?_
    refine q_iconst dX12_slotByStates_52 ?_
    refine r_istore dX12_slotByStates_53 (by decide) rfl (ls' := [some (.ref p0), some (.int v1), some (.int v2), some (.int (Int32.ofInt 0)), some (.int (Int32.ofInt 0))]) rfl ?_
    exact r_fewer [some (.ref p0), some (.int v1), some (.int v2), some (.int (Int32.ofInt 0)), some (.int (Int32.ofInt 0))] (ls_s (ls_s (ls_s (ls_s (ls_s ls_0))))) (s_X12_slotByStates_55 p0 v1 v2 (Int32.ofInt 0) (Int32.ofInt 0) h E hK)
theorem s_X12_slotByStates_44 {l : Launch} {G : mG} {Q : Option Value → mH → Prop} {X : String → mH → Prop} (p0 : Nat) (v1 : Int32) (v2 : Int32) (h : mH) {o : Int32 × mH} (E : g_X12_slotByStates_44 p0 v1 v2 h = some o) (hK : (fiI Q) o) : mW l G m_X12_slotByStates 5 0 0 44 [some (.ref p0), some (.int v1), some (.int v2), none, none] [] h Q X :=
  (lp_go (w_X12_slotByStates_44 l G Q X p0 v1) (fiI Q) (b_X12_slotByStates_44 p0 v1) (fun s o E hK => sb_X12_slotByStates_44 p0 v1 s.1 (s.2) E hK) _ _ _ E hK : w_X12_slotByStates_44 l G Q X p0 v1 (v2, h))
set_option maxRecDepth 100000 in
set_option maxHeartbeats 4000000 in
theorem sb_X12_slotByStates_7 {l : Launch} {G : mG} {Q : Option Value → mH → Prop} {X : String → mH → Prop} (p0 : Nat) (v1 : Int32) (v2 : Int32) (h : mH) {o : ((Int32 × mH) ⊕ (Int32 × mH))} (E : b0_X12_slotByStates_7 p0 v1 v2 h = some o) (hK : (lpK (w_X12_slotByStates_7 l G Q X p0 v1) (fiI Q)) o) : mW l G m_X12_slotByStates 5 0 0 7 [some (.ref p0), some (.int v1), some (.int v2), none, none] [] h Q X := by
  unfold b0_X12_slotByStates_7 at E
  refine q_iload_n dX12_slotByStates_7 rfl ?_
  refine q_bipush (v := (Int32.ofInt 6)) dX12_slotByStates_8 (by decide) ?_
  refine q_icmp_ge (tgt := 42) dX12_slotByStates_10 (by decide) (fun z1 => ?_) (fun z1 => ?_)
  · replace E := ite_t E z1
    refine q_iconst dX12_slotByStates_42 ?_
    refine r_istore_n dX12_slotByStates_43 (by decide) rfl (ls' := [some (.ref p0), some (.int v1), some (.int (Int32.ofInt 0)), none, none]) rfl ?_
    obtain ⟨o0, E0, rfl⟩ := inrO_some E
    exact r_fewer [some (.ref p0), some (.int v1), some (.int (Int32.ofInt 0)), none, none] (ls_s (ls_s (ls_s (ls_n (ls_n ls_0))))) (s_X12_slotByStates_44 p0 v1 (Int32.ofInt 0) h E0 hK)
  · replace E := ite_f E z1
    refine q_aload_n dX12_slotByStates_13 rfl ?_
    replace E := grd_some E
    obtain ⟨g2, E⟩ := E
    replace E := orf_some E
    obtain ⟨a3, ea3, E⟩ := E
    refine r_getR dX12_slotByStates_14 FX12_102 g2 ea3 ?_
    refine q_iload_n dX12_slotByStates_17 rfl ?_
    refine q_aload_n dX12_slotByStates_18 rfl ?_
    refine q_iload_n dX12_slotByStates_19 rfl ?_
    replace E := cal_some E
    obtain ⟨x5, h4, hc, E⟩ := E
    refine r_callV1 (mc := 0) (ms := 0) dX12_slotByStates_20 KX12_211 (c_X12_holds hc) g2 (by decide) (Nat.le_of_ble_eq_true rfl) (fun _ _ q => q.elim) ?_
    rintro _ _ ⟨rfl, rfl⟩
    clear hc
    refine q_if_eq (tgt := 34) dX12_slotByStates_23 (by decide) (fun z6 => ?_) (fun z6 => ?_)
    · replace E := ite_t E z6
      refine q_iconst dX12_slotByStates_34 ?_
      exact r_fewer [some (.ref p0), some (.int v1), some (.int v2), none, none] (ls_s (ls_s (ls_s (ls_n (ls_n ls_0))))) (s_X12_slotByStates_35 p0 v1 v2 (Int32.ofInt 0) v2 a3 h4 E hK)
    · replace E := ite_f E z6
      refine q_aload_n dX12_slotByStates_26 rfl ?_
      refine q_iload_n dX12_slotByStates_27 rfl ?_
      replace E := grd_some E
      obtain ⟨g9, E⟩ := E
      replace E := cal_some E
      obtain ⟨x8, h7, hc, E⟩ := E
      refine r_callV1 (mc := 0) (ms := 0) dX12_slotByStates_28 KX12_346 (c_X12_smallest hc) g9 (by decide) (Nat.le_of_ble_eq_true rfl) (fun _ _ q => q.elim) ?_
      rintro _ _ ⟨rfl, rfl⟩
      clear hc
      refine q_goto (tgt := 35) dX12_slotByStates_31 (by decide) ?_
      exact r_fewer [some (.ref p0), some (.int v1), some (.int v2), none, none] (ls_s (ls_s (ls_s (ls_n (ls_n ls_0))))) (s_X12_slotByStates_35 p0 v1 v2 x8 v2 a3 h7 E hK)
theorem s_X12_slotByStates_7 {l : Launch} {G : mG} {Q : Option Value → mH → Prop} {X : String → mH → Prop} (p0 : Nat) (v1 : Int32) (v2 : Int32) (h : mH) {o : Int32 × mH} (E : g_X12_slotByStates_7 p0 v1 v2 h = some o) (hK : (fiI Q) o) : mW l G m_X12_slotByStates 5 0 0 7 [some (.ref p0), some (.int v1), some (.int v2), none, none] [] h Q X :=
  (lp_go (w_X12_slotByStates_7 l G Q X p0 v1) (fiI Q) (b_X12_slotByStates_7 p0 v1) (fun s o E hK => sb_X12_slotByStates_7 p0 v1 s.1 (s.2) E hK) _ _ _ E hK : w_X12_slotByStates_7 l G Q X p0 v1 (v2, h))
set_option maxRecDepth 100000 in
set_option maxHeartbeats 4000000 in
theorem s_X12_slotByStates_0 {l : Launch} {G : mG} {Q : Option Value → mH → Prop} {X : String → mH → Prop} (p0 : Nat) (v1 : Int32) (h : mH) {o : Int32 × mH} (E : f_X12_slotByStates p0 v1 h = some o) (hK : (fiI Q) o) : mW l G m_X12_slotByStates 5 0 0 0 [some (.ref p0), some (.int v1), none, none, none] [] h Q X := by
  unfold f_X12_slotByStates at E
  refine q_aload_n dX12_slotByStates_0 rfl ?_
  refine q_iconst dX12_slotByStates_1 ?_
  replace E := grd_some E
  obtain ⟨g1, E⟩ := E
  replace E := bnd_x E
  obtain ⟨h2, eh2, E⟩ := E
  refine r_putI (hh := eh2) dX12_slotByStates_2 FX12_117 g1 rfl rfl ?_
  refine q_iconst dX12_slotByStates_5 ?_
  refine r_istore_n dX12_slotByStates_6 (by decide) rfl (ls' := [some (.ref p0), some (.int v1), some (.int (Int32.ofInt 0)), none, none]) rfl ?_
  exact r_fewer [some (.ref p0), some (.int v1), some (.int (Int32.ofInt 0)), none, none] (ls_s (ls_s (ls_s (ls_n (ls_n ls_0))))) (s_X12_slotByStates_7 p0 v1 (Int32.ofInt 0) h2 E hK)
theorem c_X12_slotByStates {l : Launch} {G : mG} {p0 : Nat} {v1 : Int32} {h h' : mH} {r : Int32} (E : f_X12_slotByStates p0 v1 h = some (r, h')) : mMet l G m_X12_slotByStates 5 0 0 [.ref p0, .int v1] h (fun v k => v = some (.int r) ∧ h' = k) (fun _ _ => False) :=
  mMet_of (by decide +kernel) rfl (ac_c rfl (ac_c rfl ac_0)) (Nat.le_of_ble_eq_true rfl) (s_X12_slotByStates_0 p0 v1 h E (And.intro rfl rfl))
set_option maxRecDepth 100000 in
set_option maxHeartbeats 4000000 in
theorem s_X12_wordCount_0 {l : Launch} {G : mG} {Q : Option Value → mH → Prop} {X : String → mH → Prop} (p0 : Nat) (h : mH) {o : Int32 × mH} (E : f_X12_wordCount p0 h = some o) (hK : (fiI Q) o) : mW l G m_X12_wordCount 0 0 0 0 [some (.ref p0)] [] h Q X := by
  unfold f_X12_wordCount at E
  refine q_aload_n dX12_wordCount_0 rfl ?_
  refine q_iconst dX12_wordCount_1 ?_
  replace E := grd_some E
  obtain ⟨g1, E⟩ := E
  replace E := bnd_x E
  obtain ⟨h2, eh2, E⟩ := E
  refine r_putI (hh := eh2) dX12_wordCount_2 FX12_117 g1 rfl rfl ?_
  refine q_aload_n dX12_wordCount_5 rfl ?_
  replace E := grd_some E
  obtain ⟨g3, E⟩ := E
  replace E := orf_some E
  obtain ⟨a4, ea4, E⟩ := E
  refine r_getR dX12_wordCount_6 FX12_7 g3 ea4 ?_
  refine q_iconst dX12_wordCount_9 ?_
  replace E := grd_some E
  obtain ⟨g5, E⟩ := E
  replace E := grd_some E
  obtain ⟨g6, E⟩ := E
  refine r_iaload dX12_wordCount_10 g5 g6 ?_
  cases E
  exact q_ireturn dX12_wordCount_11 rfl hK
theorem c_X12_wordCount {l : Launch} {G : mG} {p0 : Nat} {h h' : mH} {r : Int32} (E : f_X12_wordCount p0 h = some (r, h')) : mMet l G m_X12_wordCount 0 0 0 [.ref p0] h (fun v k => v = some (.int r) ∧ h' = k) (fun _ _ => False) :=
  mMet_of (by decide +kernel) rfl (ac_c rfl ac_0) (Nat.le_of_ble_eq_true rfl) (s_X12_wordCount_0 p0 h E (And.intro rfl rfl))
set_option maxRecDepth 100000 in
set_option maxHeartbeats 4000000 in
theorem s_X12_wordLength_34 {l : Launch} {G : mG} {Q : Option Value → mH → Prop} {X : String → mH → Prop} (s0 : Int32) (h : mH) {o : Int32 × mH} (E : g_X12_wordLength_34 s0 h = some o) (hK : (fiI Q) o) : mW l G m_X12_wordLength 2 0 0 34 [none, none] [.int s0] h Q X := by
  unfold g_X12_wordLength_34 at E
  cases E
  exact q_ireturn dX12_wordLength_34 rfl hK
set_option maxRecDepth 100000 in
set_option maxHeartbeats 4000000 in
theorem s_X12_wordLength_0 {l : Launch} {G : mG} {Q : Option Value → mH → Prop} {X : String → mH → Prop} (p0 : Nat) (v1 : Int32) (h : mH) {o : Int32 × mH} (E : f_X12_wordLength p0 v1 h = some o) (hK : (fiI Q) o) : mW l G m_X12_wordLength 2 0 0 0 [some (.ref p0), some (.int v1)] [] h Q X := by
  unfold f_X12_wordLength at E
  refine q_aload_n dX12_wordLength_0 rfl ?_
  refine q_iconst dX12_wordLength_1 ?_
  replace E := grd_some E
  obtain ⟨g1, E⟩ := E
  replace E := bnd_x E
  obtain ⟨h2, eh2, E⟩ := E
  refine r_putI (hh := eh2) dX12_wordLength_2 FX12_117 g1 rfl rfl ?_
  refine q_aload_n dX12_wordLength_5 rfl ?_
  refine q_iload_n dX12_wordLength_6 rfl ?_
  replace E := grd_some E
  obtain ⟨g5, E⟩ := E
  replace E := cal_some E
  obtain ⟨x4, h3, hc, E⟩ := E
  refine r_callV1 (mc := 0) (ms := 0) dX12_wordLength_7 KX12_250 (c_X12_isWord hc) g5 (by decide) (Nat.le_of_ble_eq_true rfl) (fun _ _ q => q.elim) ?_
  rintro _ _ ⟨rfl, rfl⟩
  clear hc
  refine q_if_eq (tgt := 29) dX12_wordLength_10 (by decide) (fun z6 => ?_) (fun z6 => ?_)
  · replace E := ite_t E z6
    refine q_aload_n dX12_wordLength_29 rfl ?_
    refine q_iconst dX12_wordLength_30 ?_
    replace E := grd_some E
    obtain ⟨g9, E⟩ := E
    replace E := cal_some E
    obtain ⟨x8, h7, hc, E⟩ := E
    refine r_callV1 (mc := 0) (ms := 0) dX12_wordLength_31 KX12_196 (c_X12_fails hc) g9 (by decide) (Nat.le_of_ble_eq_true rfl) (fun _ _ q => q.elim) ?_
    rintro _ _ ⟨rfl, rfl⟩
    clear hc
    exact r_fewer [none, none] (ls_n (ls_n ls_0)) (s_X12_wordLength_34 x8 h7 E hK)
  · replace E := ite_f E z6
    refine q_aload_n dX12_wordLength_13 rfl ?_
    replace E := grd_some E
    obtain ⟨g10, E⟩ := E
    replace E := orf_some E
    obtain ⟨a11, ea11, E⟩ := E
    refine r_getR dX12_wordLength_14 FX12_7 g10 ea11 ?_
    refine q_sipush (v := (Int32.ofInt 176)) dX12_wordLength_17 (by decide) ?_
    refine q_bipush (v := (Int32.ofInt 9)) dX12_wordLength_20 (by decide) ?_
    refine q_iload_n dX12_wordLength_22 rfl ?_
    refine q_imul dX12_wordLength_23 ?_
    refine q_iadd dX12_wordLength_24 ?_
    replace E := grd_some E
    obtain ⟨g12, E⟩ := E
    replace E := grd_some E
    obtain ⟨g13, E⟩ := E
    refine r_iaload dX12_wordLength_25 g12 g13 ?_
    refine q_goto (tgt := 34) dX12_wordLength_26 (by decide) ?_
    exact r_fewer [none, none] (ls_n (ls_n ls_0)) (s_X12_wordLength_34 (gi h3 a11 ((Int32.ofInt 176) + ((Int32.ofInt 9) * v1)).toNatClampNeg) h3 E hK)
theorem c_X12_wordLength {l : Launch} {G : mG} {p0 : Nat} {v1 : Int32} {h h' : mH} {r : Int32} (E : f_X12_wordLength p0 v1 h = some (r, h')) : mMet l G m_X12_wordLength 2 0 0 [.ref p0, .int v1] h (fun v k => v = some (.int r) ∧ h' = k) (fun _ _ => False) :=
  mMet_of (by decide +kernel) rfl (ac_c rfl (ac_c rfl ac_0)) (Nat.le_of_ble_eq_true rfl) (s_X12_wordLength_0 p0 v1 h E (And.intro rfl rfl))
