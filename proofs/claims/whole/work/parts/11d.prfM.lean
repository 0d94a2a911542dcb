set_option maxRecDepth 100000 in
set_option maxHeartbeats 4000000 in
theorem s_X12_joins_186 {l : Launch} {G : mG} {Q : Option Value → mH → Prop} {X : String → mH → Prop} (p0 : Nat) (v3 : Int32) (v4 : Int32) (s0 : Int32) (s1 : Int32) (sp2 : Nat) (h : mH) {o : Unit × mH} (E : g_X12_joins_186 p0 v3 v4 s0 s1 sp2 h = some o) (hK : (fiV Q) o) : mW l G m_X12_joins 1 0 0 186 [some (.ref p0), none, none, some (.int v3), some (.int v4)] [.int s0, .int s1, .ref sp2] h Q X := by
  unfold g_X12_joins_186 at E
  replace E := grd_some E
  obtain ⟨g2, E⟩ := E
  replace E := grd_some E
  obtain ⟨g3, E⟩ := E
  replace E := bnd_x E
  obtain ⟨h1, eh1, E⟩ := E
  refine r_iastore (hh := eh1) dX12_joins_186 g2 g3 ?_
  refine q_aload_n dX12_joins_187 rfl ?_
  replace E := grd_some E
  obtain ⟨g4, E⟩ := E
  replace E := orf_some E
  obtain ⟨a5, ea5, E⟩ := E
  refine r_getR dX12_joins_188 FX12_60 g4 ea5 ?_
  refine q_iload_n dX12_joins_191 rfl ?_
  refine q_aload_n dX12_joins_192 rfl ?_
  refine r_getR dX12_joins_193 FX12_60 g4 ea5 ?_
  refine q_iload_n dX12_joins_196 rfl ?_
  replace E := grd_some E
  obtain ⟨g7, E⟩ := E
  replace E := grd_some E
  obtain ⟨g8, E⟩ := E
  refine r_iaload dX12_joins_197 g7 g8 ?_
  refine q_aload_n dX12_joins_198 rfl ?_
  refine r_getR dX12_joins_199 FX12_60 g4 ea5 ?_
  refine q_iload dX12_joins_202 rfl ?_
  replace E := grd_some E
  obtain ⟨g10, E⟩ := E
  refine r_iaload dX12_joins_204 g7 g10 ?_
  refine q_iand dX12_joins_205 ?_
  replace E := bnd_x E
  obtain ⟨h11, eh11, E⟩ := E
  refine r_iastore (hh := eh11) dX12_joins_206 g7 g8 ?_
  cases E
  exact q_return dX12_joins_207 rfl hK
set_option maxRecDepth 100000 in
set_option maxHeartbeats 4000000 in
theorem s_X12_joins_145 {l : Launch} {G : mG} {Q : Option Value → mH → Prop} {X : String → mH → Prop} (p0 : Nat) (v3 : Int32) (v4 : Int32) (s0 : Int32) (s1 : Int32) (sp2 : Nat) (h : mH) {o : Unit × mH} (E : g_X12_joins_145 p0 v3 v4 s0 s1 sp2 h = some o) (hK : (fiV Q) o) : mW l G m_X12_joins 1 0 0 145 [some (.ref p0), none, none, some (.int v3), some (.int v4)] [.int s0, .int s1, .ref sp2] h Q X := by
  unfold g_X12_joins_145 at E
  replace E := grd_some E
  obtain ⟨g2, E⟩ := E
  replace E := grd_some E
  obtain ⟨g3, E⟩ := E
  replace E := bnd_x E
  obtain ⟨h1, eh1, E⟩ := E
  refine r_iastore (hh := eh1) dX12_joins_145 g2 g3 ?_
  refine q_aload_n dX12_joins_146 rfl ?_
  replace E := grd_some E
  obtain ⟨g4, E⟩ := E
  replace E := orf_some E
  obtain ⟨a5, ea5, E⟩ := E
  refine r_getR dX12_joins_147 FX12_66 g4 ea5 ?_
  refine q_iload_n dX12_joins_150 rfl ?_
  refine q_aload_n dX12_joins_151 rfl ?_
  replace E := orf_some E
  obtain ⟨a6, ea6, E⟩ := E
  refine r_getR dX12_joins_152 FX12_60 g4 ea6 ?_
  refine q_iload dX12_joins_155 rfl ?_
  replace E := grd_some E
  obtain ⟨g7, E⟩ := E
  replace E := grd_some E
  obtain ⟨g8, E⟩ := E
  refine r_iaload dX12_joins_157 g7 g8 ?_
  refine q_iconst dX12_joins_158 ?_
  refine q_icmp_ne (tgt := 179) dX12_joins_159 (by decide) (fun z9 => ?_) (fun z9 => ?_)
  · replace E := ite_f E z9
    refine q_aload_n dX12_joins_179 rfl ?_
    refine r_getR dX12_joins_180 FX12_66 g4 ea5 ?_
    refine q_iload dX12_joins_183 rfl ?_
    replace E := grd_some E
    obtain ⟨g11, E⟩ := E
    replace E := grd_some E
    obtain ⟨g12, E⟩ := E
    refine r_iaload dX12_joins_185 g11 g12 ?_
    exact r_fewer [some (.ref p0), none, none, some (.int v3), some (.int v4)] (ls_s (ls_n (ls_n (ls_s (ls_s ls_0))))) (s_X12_joins_186 p0 v3 v4 (gi h1 a5 v4.toNatClampNeg) v3 a5 h1 E hK)
  · replace E := ite_t E z9
    refine q_aload_n dX12_joins_162 rfl ?_
    refine r_getR dX12_joins_163 FX12_66 g4 ea5 ?_
    refine q_iload_n dX12_joins_166 rfl ?_
    replace E := grd_some E
    obtain ⟨g14, E⟩ := E
    replace E := grd_some E
    obtain ⟨g15, E⟩ := E
    refine r_iaload dX12_joins_167 g14 g15 ?_
    refine q_aload_n dX12_joins_168 rfl ?_
    refine r_getR dX12_joins_169 FX12_66 g4 ea5 ?_
    refine q_iload dX12_joins_172 rfl ?_
    replace E := grd_some E
    obtain ⟨g17, E⟩ := E
    refine r_iaload dX12_joins_174 g14 g17 ?_
    refine q_ior dX12_joins_175 ?_
    refine q_goto (tgt := 186) dX12_joins_176 (by decide) ?_
    exact r_fewer [some (.ref p0), none, none, some (.int v3), some (.int v4)] (ls_s (ls_n (ls_n (ls_s (ls_s ls_0))))) (s_X12_joins_186 p0 v3 v4 ((gi h1 a5 v3.toNatClampNeg) ||| (gi h1 a5 v4.toNatClampNeg)) v3 a5 h1 E hK)
set_option maxRecDepth 100000 in
set_option maxHeartbeats 4000000 in
theorem s_X12_joins_0 {l : Launch} {G : mG} {Q : Option Value → mH → Prop} {X : String → mH → Prop} (p0 : Nat) (v1 : Int32) (v2 : Int32) (h : mH) {o : Unit × mH} (E : f_X12_joins p0 v1 v2 h = some o) (hK : (fiV Q) o) : mW l G m_X12_joins 1 0 0 0 [some (.ref p0), some (.int v1), some (.int v2), none, none] [] h Q X := by
  unfold f_X12_joins at E
  refine q_aload_n dX12_joins_0 rfl ?_
  refine q_dup dX12_joins_1 ?_
  replace E := grd_some E
  obtain ⟨g1, E⟩ := E
  refine r_getI dX12_joins_2 FX12_256 g1 ?_
  refine q_iconst dX12_joins_5 ?_
  refine q_isub dX12_joins_6 ?_
  replace E := bnd_x E
  obtain ⟨h2, eh2, E⟩ := E
  refine r_putI (hh := eh2) dX12_joins_7 FX12_256 g1 rfl rfl ?_
  refine q_aload_n dX12_joins_10 rfl ?_
  replace E := grd_some E
  obtain ⟨g3, E⟩ := E
  refine r_getI dX12_joins_11 FX12_256 g3 ?_
  refine q_iconst dX12_joins_14 ?_
  refine q_isub dX12_joins_15 ?_
  replace E := bnd_x E
  obtain ⟨x4, ex4, E⟩ := E
  refine r_istore_n dX12_joins_16 (by decide) ex4 (ls' := [some (.ref p0), some (.int v1), some (.int v2), some (.int x4), none]) rfl ?_
  refine q_aload_n dX12_joins_17 rfl ?_
  refine r_getI dX12_joins_18 FX12_256 g3 ?_
  replace E := bnd_x E
  obtain ⟨x5, ex5, E⟩ := E
  refine r_istore dX12_joins_21 (by decide) ex5 (ls' := [some (.ref p0), some (.int v1), some (.int v2), some (.int x4), some (.int x5)]) rfl ?_
  refine q_iload_n dX12_joins_23 rfl ?_
  refine q_iconst dX12_joins_24 ?_
  refine q_icmp_ne (tgt := 89) dX12_joins_25 (by decide) (fun z6 => ?_) (fun z6 => ?_)
  · replace E := ite_f E z6
    refine q_aload_n dX12_joins_89 rfl ?_
    refine q_iload_n dX12_joins_90 rfl ?_
    refine q_aload_n dX12_joins_91 rfl ?_
    replace E := orf_some E
    obtain ⟨a7, ea7, E⟩ := E
    refine r_getR dX12_joins_92 FX12_66 g3 ea7 ?_
    refine q_iload_n dX12_joins_95 rfl ?_
    replace E := grd_some E
    obtain ⟨g8, E⟩ := E
    replace E := grd_some E
    obtain ⟨g9, E⟩ := E
    refine r_iaload dX12_joins_96 g8 g9 ?_
    refine q_aload_n dX12_joins_97 rfl ?_
    replace E := orf_some E
    obtain ⟨a10, ea10, E⟩ := E
    refine r_getR dX12_joins_98 FX12_63 g3 ea10 ?_
    refine q_iload dX12_joins_101 rfl ?_
    replace E := grd_some E
    obtain ⟨g11, E⟩ := E
    replace E := grd_some E
    obtain ⟨g12, E⟩ := E
    refine r_iaload dX12_joins_103 g11 g12 ?_
    replace E := cal_some E
    obtain ⟨_, h13, hc, E⟩ := E
    refine r_callV3 (mc := 0) (ms := 0) dX12_joins_104 KX12_259 (c_X12_followed hc) g3 (by decide) (Nat.le_of_ble_eq_true rfl) (fun _ _ q => q.elim) ?_
    rintro _ _ ⟨rfl, rfl⟩
    clear hc
    refine q_aload_n dX12_joins_107 rfl ?_
    replace E := grd_some E
    obtain ⟨g15, E⟩ := E
    replace E := orf_some E
    obtain ⟨a16, ea16, E⟩ := E
    refine r_getR dX12_joins_108 FX12_63 g15 ea16 ?_
    refine q_iload_n dX12_joins_111 rfl ?_
    refine q_aload_n dX12_joins_112 rfl ?_
    replace E := orf_some E
    obtain ⟨a17, ea17, E⟩ := E
    refine r_getR dX12_joins_113 FX12_60 g15 ea17 ?_
    refine q_iload_n dX12_joins_116 rfl ?_
    replace E := grd_some E
    obtain ⟨g18, E⟩ := E
    replace E := grd_some E
    obtain ⟨g19, E⟩ := E
    refine r_iaload dX12_joins_117 g18 g19 ?_
    refine q_iconst dX12_joins_118 ?_
    refine q_icmp_ne (tgt := 139) dX12_joins_119 (by decide) (fun z20 => ?_) (fun z20 => ?_)
    · replace E := ite_f E z20
      refine q_aload_n dX12_joins_139 rfl ?_
      refine r_getR dX12_joins_140 FX12_63 g15 ea16 ?_
      refine q_iload_n dX12_joins_143 rfl ?_
      replace E := grd_some E
      obtain ⟨g22, E⟩ := E
      replace E := grd_some E
      obtain ⟨g23, E⟩ := E
      refine r_iaload dX12_joins_144 g22 g23 ?_
      exact r_fewer [some (.ref p0), none, none, some (.int x4), some (.int x5)] (ls_s (ls_n (ls_n (ls_s (ls_s ls_0))))) (s_X12_joins_145 p0 x4 x5 (gi h13 a16 x4.toNatClampNeg) x4 a16 h13 E hK)
    · replace E := ite_t E z20
      refine q_aload_n dX12_joins_122 rfl ?_
      refine r_getR dX12_joins_123 FX12_63 g15 ea16 ?_
      refine q_iload_n dX12_joins_126 rfl ?_
      replace E := grd_some E
      obtain ⟨g25, E⟩ := E
      replace E := grd_some E
      obtain ⟨g26, E⟩ := E
      refine r_iaload dX12_joins_127 g25 g26 ?_
      refine q_aload_n dX12_joins_128 rfl ?_
      refine r_getR dX12_joins_129 FX12_63 g15 ea16 ?_
      refine q_iload dX12_joins_132 rfl ?_
      replace E := grd_some E
      obtain ⟨g28, E⟩ := E
      refine r_iaload dX12_joins_134 g25 g28 ?_
      refine q_ior dX12_joins_135 ?_
      refine q_goto (tgt := 145) dX12_joins_136 (by decide) ?_
      exact r_fewer [some (.ref p0), none, none, some (.int x4), some (.int x5)] (ls_s (ls_n (ls_n (ls_s (ls_s ls_0))))) (s_X12_joins_145 p0 x4 x5 ((gi h13 a16 x4.toNatClampNeg) ||| (gi h13 a16 x5.toNatClampNeg)) x4 a16 h13 E hK)
  · replace E := ite_t E z6
    refine q_aload_n dX12_joins_28 rfl ?_
    replace E := orf_some E
    obtain ⟨a29, ea29, E⟩ := E
    refine r_getR dX12_joins_29 FX12_63 g3 ea29 ?_
    refine q_iload_n dX12_joins_32 rfl ?_
    refine q_aload_n dX12_joins_33 rfl ?_
    refine r_getR dX12_joins_34 FX12_63 g3 ea29 ?_
    refine q_iload_n dX12_joins_37 rfl ?_
    replace E := grd_some E
    obtain ⟨g31, E⟩ := E
    replace E := grd_some E
    obtain ⟨g32, E⟩ := E
    refine r_iaload dX12_joins_38 g31 g32 ?_
    refine q_aload_n dX12_joins_39 rfl ?_
    refine r_getR dX12_joins_40 FX12_63 g3 ea29 ?_
    refine q_iload dX12_joins_43 rfl ?_
    replace E := grd_some E
    obtain ⟨g34, E⟩ := E
    refine r_iaload dX12_joins_45 g31 g34 ?_
    refine q_ior dX12_joins_46 ?_
    replace E := bnd_x E
    obtain ⟨h35, eh35, E⟩ := E
    refine r_iastore (hh := eh35) dX12_joins_47 g31 g32 ?_
    refine q_aload_n dX12_joins_48 rfl ?_
    replace E := grd_some E
    obtain ⟨g36, E⟩ := E
    replace E := orf_some E
    obtain ⟨a37, ea37, E⟩ := E
    refine r_getR dX12_joins_49 FX12_66 g36 ea37 ?_
    refine q_iload_n dX12_joins_52 rfl ?_
    refine q_aload_n dX12_joins_53 rfl ?_
    refine r_getR dX12_joins_54 FX12_66 g36 ea37 ?_
    refine q_iload_n dX12_joins_57 rfl ?_
    replace E := grd_some E
    obtain ⟨g39, E⟩ := E
    replace E := grd_some E
    obtain ⟨g40, E⟩ := E
    refine r_iaload dX12_joins_58 g39 g40 ?_
    refine q_aload_n dX12_joins_59 rfl ?_
    refine r_getR dX12_joins_60 FX12_66 g36 ea37 ?_
    refine q_iload dX12_joins_63 rfl ?_
    replace E := grd_some E
    obtain ⟨g42, E⟩ := E
    refine r_iaload dX12_joins_65 g39 g42 ?_
    refine q_ior dX12_joins_66 ?_
    replace E := bnd_x E
    obtain ⟨h43, eh43, E⟩ := E
    refine r_iastore (hh := eh43) dX12_joins_67 g39 g40 ?_
    refine q_aload_n dX12_joins_68 rfl ?_
    replace E := grd_some E
    obtain ⟨g44, E⟩ := E
    replace E := orf_some E
    obtain ⟨a45, ea45, E⟩ := E
    refine r_getR dX12_joins_69 FX12_60 g44 ea45 ?_
    refine q_iload_n dX12_joins_72 rfl ?_
    refine q_aload_n dX12_joins_73 rfl ?_
    refine r_getR dX12_joins_74 FX12_60 g44 ea45 ?_
    refine q_iload_n dX12_joins_77 rfl ?_
    replace E := grd_some E
    obtain ⟨g47, E⟩ := E
    replace E := grd_some E
    obtain ⟨g48, E⟩ := E
    refine r_iaload dX12_joins_78 g47 g48 ?_
    refine q_aload_n dX12_joins_79 rfl ?_
    refine r_getR dX12_joins_80 FX12_60 g44 ea45 ?_
    refine q_iload dX12_joins_83 rfl ?_
    replace E := grd_some E
    obtain ⟨g50, E⟩ := E
    refine r_iaload dX12_joins_85 g47 g50 ?_
    refine q_ior dX12_joins_86 ?_
    replace E := bnd_x E
    obtain ⟨h51, eh51, E⟩ := E
    refine r_iastore (hh := eh51) dX12_joins_87 g47 g48 ?_
    cases E
    exact q_return dX12_joins_88 rfl hK
theorem c_X12_joins {l : Launch} {G : mG} {p0 : Nat} {v1 : Int32} {v2 : Int32} {h h' : mH} {r : Unit} (E : f_X12_joins p0 v1 v2 h = some (r, h')) : mMet l G m_X12_joins 1 0 0 [.ref p0, .int v1, .int v2] h (fun v k => v = none ∧ h' = k) (fun _ _ => False) :=
  mMet_of (by decide +kernel) rfl (ac_c rfl (ac_c rfl (ac_c rfl ac_0))) (Nat.le_of_ble_eq_true rfl) (s_X12_joins_0 p0 v1 v2 h E (And.intro rfl rfl))
set_option maxRecDepth 100000 in
set_option maxHeartbeats 4000000 in
theorem s_X12_next_66 {l : Launch} {G : mG} {Q : Option Value → mH → Prop} {X : String → mH → Prop} (p0 : Nat) (v1 : Int32) (v2 : Int32) (v3 : Int32) (v5 : Int32) (s0 : Int32) (h : mH) {o : ((Int32 × Int32 × mH) ⊕ (Int32 × mH))} (E : g_X12_next_66 p0 v1 v2 v3 v5 s0 h = some o) (hK : (lpK (w_X12_next_22 l G Q X p0 v1 v2 v3) (fiI Q)) o) : mW l G m_X12_next 0 0 0 66 [some (.ref p0), some (.int v1), some (.int v2), some (.int v3), none, some (.int v5)] [.int s0] h Q X := by
  unfold g_X12_next_66 at E
  refine r_istore dX12_next_66 (by decide) rfl (ls' := [some (.ref p0), some (.int v1), some (.int v2), some (.int v3), some (.int s0), some (.int v5)]) rfl ?_
  replace E := bnd_x E
  obtain ⟨x1, ex1, E⟩ := E
  refine r_iinc (v := x1) dX12_next_68 rfl ex1 (by decide) (ls' := [some (.ref p0), some (.int v1), some (.int v2), some (.int v3), some (.int s0), some (.int x1)]) rfl ?_
  refine q_goto (tgt := 22) dX12_next_71 (by decide) ?_
  cases E
  exact r_fewer [some (.ref p0), some (.int v1), some (.int v2), some (.int v3), some (.int s0), some (.int x1)] (ls_s (ls_s (ls_s (ls_s (ls_s (ls_s ls_0)))))) hK
set_option maxRecDepth 100000 in
set_option maxHeartbeats 4000000 in
theorem s_X12_next_74 {l : Launch} {G : mG} {Q : Option Value → mH → Prop} {X : String → mH → Prop} (p0 : Nat) (v1 : Int32) (v3 : Int32) (v4 : Int32) (h : mH) {o : Int32 × mH} (E : g_X12_next_74 p0 v1 v3 v4 h = some o) (hK : (fiI Q) o) : mW l G m_X12_next 0 0 0 74 [some (.ref p0), some (.int v1), none, some (.int v3), some (.int v4), none] [] h Q X := by
  unfold g_X12_next_74 at E
  refine q_iload dX12_next_74 rfl ?_
  refine q_aload_n dX12_next_76 rfl ?_
  replace E := grd_some E
  obtain ⟨g1, E⟩ := E
  replace E := orf_some E
  obtain ⟨a2, ea2, E⟩ := E
  refine r_getR dX12_next_77 FX12_48 g1 ea2 ?_
  refine q_iconst dX12_next_80 ?_
  refine q_iload_n dX12_next_81 rfl ?_
  refine q_imul dX12_next_82 ?_
  refine q_iload_n dX12_next_83 rfl ?_
  refine q_iadd dX12_next_84 ?_
  replace E := grd_some E
  obtain ⟨g3, E⟩ := E
  replace E := grd_some E
  obtain ⟨g4, E⟩ := E
  refine r_iaload dX12_next_85 g3 g4 ?_
  refine q_iand dX12_next_86 ?_
  cases E
  exact q_ireturn dX12_next_87 rfl hK
set_option maxRecDepth 100000 in
set_option maxHeartbeats 4000000 in
theorem sb_X12_next_22 {l : Launch} {G : mG} {Q : Option Value → mH → Prop} {X : String → mH → Prop} (p0 : Nat) (v1 : Int32) (v2 : Int32) (v3 : Int32) (v4 : Int32) (v5 : Int32) (h : mH) {o : ((Int32 × Int32 × mH) ⊕ (Int32 × mH))} (E : b0_X12_next_22 p0 v1 v2 v3 v4 v5 h = some o) (hK : (lpK (w_X12_next_22 l G Q X p0 v1 v2 v3) (fiI Q)) o) : mW l G m_X12_next 0 0 0 22 [some (.ref p0), some (.int v1), some (.int v2), some (.int v3), some (.int v4), some (.int v5)] [] h Q X := by
  unfold b0_X12_next_22 at E
  refine q_iload dX12_next_22 rfl ?_
  refine q_bipush (v := (Int32.ofInt 7)) dX12_next_24 (by decide) ?_
  refine q_icmp_ge (tgt := 74) dX12_next_26 (by decide) (fun z1 => ?_) (fun z1 => ?_)
  · replace E := ite_t E z1
    obtain ⟨o0, E0, rfl⟩ := inrO_some E
    exact r_fewer [some (.ref p0), some (.int v1), none, some (.int v3), some (.int v4), none] (ls_s (ls_s (ls_n (ls_s (ls_s (ls_n ls_0)))))) (s_X12_next_74 p0 v1 v3 v4 h E0 hK)
  · replace E := ite_f E z1
    refine q_iload_n dX12_next_29 rfl ?_
    refine q_sipush (v := (Int32.ofInt 128)) dX12_next_30 (by decide) ?_
    refine q_icmp_eq (tgt := 74) dX12_next_33 (by decide) (fun z2 => ?_) (fun z2 => ?_)
    · replace E := ite_t E z2
      obtain ⟨o0, E0, rfl⟩ := inrO_some E
      exact r_fewer [some (.ref p0), some (.int v1), none, some (.int v3), some (.int v4), none] (ls_s (ls_s (ls_n (ls_s (ls_s (ls_n ls_0)))))) (s_X12_next_74 p0 v1 v3 v4 h E0 hK)
    · replace E := ite_f E z2
      refine q_iload_n dX12_next_36 rfl ?_
      refine q_iload dX12_next_37 rfl ?_
      refine q_ishr dX12_next_39 ?_
      refine q_iconst dX12_next_40 ?_
      refine q_iand dX12_next_41 ?_
      refine q_iconst dX12_next_42 ?_
      refine q_icmp_ne (tgt := 64) dX12_next_43 (by decide) (fun z3 => ?_) (fun z3 => ?_)
      · replace E := ite_f E z3
        refine q_iload dX12_next_64 rfl ?_
        exact r_fewer [some (.ref p0), some (.int v1), some (.int v2), some (.int v3), none, some (.int v5)] (ls_s (ls_s (ls_s (ls_s (ls_n (ls_s ls_0)))))) (s_X12_next_66 p0 v1 v2 v3 v5 v4 h E hK)
      · replace E := ite_t E z3
        refine q_iload dX12_next_46 rfl ?_
        refine q_aload_n dX12_next_48 rfl ?_
        replace E := grd_some E
        obtain ⟨g4, E⟩ := E
        replace E := orf_some E
        obtain ⟨a5, ea5, E⟩ := E
        refine r_getR dX12_next_49 FX12_45 g4 ea5 ?_
        refine q_bipush (v := (Int32.ofInt 7)) dX12_next_52 (by decide) ?_
        refine q_iload_n dX12_next_54 rfl ?_
        refine q_imul dX12_next_55 ?_
        refine q_iload dX12_next_56 rfl ?_
        refine q_iadd dX12_next_58 ?_
        replace E := grd_some E
        obtain ⟨g6, E⟩ := E
        replace E := grd_some E
        obtain ⟨g7, E⟩ := E
        refine r_iaload dX12_next_59 g6 g7 ?_
        refine q_ior dX12_next_60 ?_
        refine q_goto (tgt := 66) dX12_next_61 (by decide) ?_
        exact r_fewer [some (.ref p0), some (.int v1), some (.int v2), some (.int v3), none, some (.int v5)] (ls_s (ls_s (ls_s (ls_s (ls_n (ls_s ls_0)))))) (s_X12_next_66 p0 v1 v2 v3 v5 (v4 ||| (gi h a5 (((Int32.ofInt 7) * v1) + v5).toNatClampNeg)) h E hK)
theorem s_X12_next_22 {l : Launch} {G : mG} {Q : Option Value → mH → Prop} {X : String → mH → Prop} (p0 : Nat) (v1 : Int32) (v2 : Int32) (v3 : Int32) (v4 : Int32) (v5 : Int32) (h : mH) {o : Int32 × mH} (E : g_X12_next_22 p0 v1 v2 v3 v4 v5 h = some o) (hK : (fiI Q) o) : mW l G m_X12_next 0 0 0 22 [some (.ref p0), some (.int v1), some (.int v2), some (.int v3), some (.int v4), some (.int v5)] [] h Q X :=
  (lp_go (w_X12_next_22 l G Q X p0 v1 v2 v3) (fiI Q) (b_X12_next_22 p0 v1 v2 v3) (fun s o E hK => sb_X12_next_22 p0 v1 v2 v3 s.1 s.2.1 (s.2.2) E hK) _ _ _ E hK : w_X12_next_22 l G Q X p0 v1 v2 v3 (v4, v5, h))
set_option maxRecDepth 100000 in
set_option maxHeartbeats 4000000 in
theorem s_X12_next_17 {l : Launch} {G : mG} {Q : Option Value → mH → Prop} {X : String → mH → Prop} (p0 : Nat) (v1 : Int32) (v2 : Int32) (v3 : Int32) (s0 : Int32) (h : mH) {o : Int32 × mH} (E : g_X12_next_17 p0 v1 v2 v3 s0 h = some o) (hK : (fiI Q) o) : mW l G m_X12_next 0 0 0 17 [some (.ref p0), some (.int v1), some (.int v2), some (.int v3), none, none] [.int s0] h Q X := by
  unfold g_X12_next_17 at E
  refine r_istore dX12_next_17 (by decide) rfl (ls' := [some (.ref p0), some (.int v1), some (.int v2), some (.int v3), some (.int s0), none]) rfl ?_
  refine q_iconst dX12_next_19 ?_
  refine r_istore dX12_next_20 (by decide) rfl (ls' := [some (.ref p0), some (.int v1), some (.int v2), some (.int v3), some (.int s0), some (.int (Int32.ofInt 0))]) rfl ?_
  exact r_fewer [some (.ref p0), some (.int v1), some (.int v2), some (.int v3), some (.int s0), some (.int (Int32.ofInt 0))] (ls_s (ls_s (ls_s (ls_s (ls_s (ls_s ls_0)))))) (s_X12_next_22 p0 v1 v2 v3 s0 (Int32.ofInt 0) h E hK)
set_option maxRecDepth 100000 in
set_option maxHeartbeats 4000000 in
theorem s_X12_next_0 {l : Launch} {G : mG} {Q : Option Value → mH → Prop} {X : String → mH → Prop} (p0 : Nat) (v1 : Int32) (v2 : Int32) (v3 : Int32) (h : mH) {o : Int32 × mH} (E : f_X12_next p0 v1 v2 v3 h = some o) (hK : (fiI Q) o) : mW l G m_X12_next 0 0 0 0 [some (.ref p0), some (.int v1), some (.int v2), some (.int v3), none, none] [] h Q X := by
  unfold f_X12_next at E
  refine q_iload_n dX12_next_0 rfl ?_
  refine q_sipush (v := (Int32.ofInt 128)) dX12_next_1 (by decide) ?_
  refine q_icmp_ne (tgt := 16) dX12_next_4 (by decide) (fun z1 => ?_) (fun z1 => ?_)
  · replace E := ite_f E z1
    refine q_iconst dX12_next_16 ?_
    exact r_fewer [some (.ref p0), some (.int v1), some (.int v2), some (.int v3), none, none] (ls_s (ls_s (ls_s (ls_s (ls_n (ls_n ls_0)))))) (s_X12_next_17 p0 v1 v2 v3 (Int32.ofInt 0) h E hK)
  · replace E := ite_t E z1
    refine q_aload_n dX12_next_7 rfl ?_
    replace E := grd_some E
    obtain ⟨g2, E⟩ := E
    replace E := orf_some E
    obtain ⟨a3, ea3, E⟩ := E
    refine r_getR dX12_next_8 FX12_54 g2 ea3 ?_
    refine q_iload_n dX12_next_11 rfl ?_
    replace E := grd_some E
    obtain ⟨g4, E⟩ := E
    replace E := grd_some E
    obtain ⟨g5, E⟩ := E
    refine r_iaload dX12_next_12 g4 g5 ?_
    refine q_goto (tgt := 17) dX12_next_13 (by decide) ?_
    exact r_fewer [some (.ref p0), some (.int v1), some (.int v2), some (.int v3), none, none] (ls_s (ls_s (ls_s (ls_s (ls_n (ls_n ls_0)))))) (s_X12_next_17 p0 v1 v2 v3 (gi h a3 v1.toNatClampNeg) h E hK)
theorem c_X12_next {l : Launch} {G : mG} {p0 : Nat} {v1 : Int32} {v2 : Int32} {v3 : Int32} {h h' : mH} {r : Int32} (E : f_X12_next p0 v1 v2 v3 h = some (r, h')) : mMet l G m_X12_next 0 0 0 [.ref p0, .int v1, .int v2, .int v3] h (fun v k => v = some (.int r) ∧ h' = k) (fun _ _ => False) :=
  mMet_of (by decide +kernel) rfl (ac_c rfl (ac_c rfl (ac_c rfl (ac_c rfl ac_0)))) (Nat.le_of_ble_eq_true rfl) (s_X12_next_0 p0 v1 v2 v3 h E (And.intro rfl rfl))
set_option maxRecDepth 100000 in
set_option maxHeartbeats 4000000 in
theorem s_X12_builds_170 {l : Launch} {G : mG} {Q : Option Value → mH → Prop} {X : String → mH → Prop} (p0 : Nat) (v1 : Int32) (v2 : Int32) (v3 : Int32) (v4 : Int32) (h : mH) {o : ((Int32 × Int32 × mH) ⊕ (Unit × mH))} (E : g_X12_builds_170 p0 v1 v2 v3 v4 h = some o) (hK : (lpK (w_X12_builds_60 l G Q X p0 v1 v2) (fiV Q)) o) : mW l G m_X12_builds 2 0 0 170 [some (.ref p0), some (.int v1), some (.int v2), some (.int v3), some (.int v4), none] [] h Q X := by
  unfold g_X12_builds_170 at E
  replace E := bnd_x E
  obtain ⟨x1, ex1, E⟩ := E
  refine r_iinc (v := x1) dX12_builds_170 rfl ex1 (by decide) (ls' := [some (.ref p0), some (.int v1), some (.int v2), some (.int v3), some (.int x1), none]) rfl ?_
  refine q_goto (tgt := 60) dX12_builds_173 (by decide) ?_
  cases E
  exact r_fewer [some (.ref p0), some (.int v1), some (.int v2), some (.int v3), some (.int x1), none] (ls_s (ls_s (ls_s (ls_s (ls_s (ls_n ls_0)))))) hK
set_option maxRecDepth 100000 in
set_option maxHeartbeats 4000000 in
theorem s_X12_builds_151 {l : Launch} {G : mG} {Q : Option Value → mH → Prop} {X : String → mH → Prop} (p0 : Nat) (v1 : Int32) (v2 : Int32) (v3 : Int32) (v4 : Int32) (v5 : Int32) (h : mH) {o : ((Int32 × Int32 × mH) ⊕ (Unit × mH))} (E : g_X12_builds_151 p0 v1 v2 v3 v4 v5 h = some o) (hK : (lpK (w_X12_builds_60 l G Q X p0 v1 v2) (fiV Q)) o) : mW l G m_X12_builds 2 0 0 151 [some (.ref p0), some (.int v1), some (.int v2), some (.int v3), some (.int v4), some (.int v5)] [] h Q X := by
  unfold g_X12_builds_151 at E
  refine q_iload dX12_builds_151 rfl ?_
  refine q_bipush (v := (Int32.ofInt 7)) dX12_builds_153 (by decide) ?_
  refine q_icmp_eq (tgt := 170) dX12_builds_155 (by decide) (fun z1 => ?_) (fun z1 => ?_)
  · replace E := ite_t E z1
    exact r_fewer [some (.ref p0), some (.int v1), some (.int v2), some (.int v3), some (.int v4), none] (ls_s (ls_s (ls_s (ls_s (ls_s (ls_n ls_0)))))) (s_X12_builds_170 p0 v1 v2 v3 v4 h E hK)
  · replace E := ite_f E z1
    refine q_aload_n dX12_builds_158 rfl ?_
    replace E := grd_some E
    obtain ⟨g2, E⟩ := E
    replace E := orf_some E
    obtain ⟨a3, ea3, E⟩ := E
    refine r_getR dX12_builds_159 FX12_60 g2 ea3 ?_
    refine q_aload_n dX12_builds_162 rfl ?_
    refine r_getI dX12_builds_163 FX12_256 g2 ?_
    refine q_iconst dX12_builds_166 ?_
    refine q_isub dX12_builds_167 ?_
    refine q_iconst dX12_builds_168 ?_
    replace E := grd_some E
    obtain ⟨g5, E⟩ := E
    replace E := grd_some E
    obtain ⟨g6, E⟩ := E
    replace E := bnd_x E
    obtain ⟨h4, eh4, E⟩ := E
    refine r_iastore (hh := eh4) dX12_builds_169 g5 g6 ?_
    exact r_fewer [some (.ref p0), some (.int v1), some (.int v2), some (.int v3), some (.int v4), none] (ls_s (ls_s (ls_s (ls_s (ls_s (ls_n ls_0)))))) (s_X12_builds_170 p0 v1 v2 v3 v4 h4 E hK)
set_option maxRecDepth 100000 in
set_option maxHeartbeats 4000000 in
theorem sb_X12_builds_226 {l : Launch} {G : mG} {Q : Option Value → mH → Prop} {X : String → mH → Prop} (p0 : Nat) (v1 : Int32) (v4 : Int32) (v5 : Int32) (h : mH) {o : ((Int32 × mH) ⊕ ((Int32 × mH) ⊕ (Unit × mH)))} (E : b0_X12_builds_226 p0 v1 v4 v5 h = some o) (hK : (lpK (w_X12_builds_226 l G Q X p0 v1 v4) (lpK (w_X12_builds_215 l G Q X p0 v1) (fiV Q))) o) : mW l G m_X12_builds 2 0 0 226 [some (.ref p0), some (.int v1), none, none, some (.int v4), some (.int v5)] [] h Q X := by
  unfold b0_X12_builds_226 at E
  refine q_iload dX12_builds_226 rfl ?_
  refine q_iconst dX12_builds_228 ?_
  refine q_icmp_ge (tgt := 265) dX12_builds_229 (by decide) (fun z1 => ?_) (fun z1 => ?_)
  · replace E := ite_t E z1
    replace E := bnd_x E
    obtain ⟨x2, ex2, E⟩ := E
    refine r_iinc (v := x2) dX12_builds_265 rfl ex2 (by decide) (ls' := [some (.ref p0), some (.int v1), none, none, some (.int x2), some (.int v5)]) rfl ?_
    refine q_goto (tgt := 215) dX12_builds_268 (by decide) ?_
    cases E
    exact r_fewer [some (.ref p0), some (.int v1), none, none, some (.int x2), none] (ls_s (ls_s (ls_n (ls_n (ls_s (ls_n ls_0)))))) hK
  · replace E := ite_f E z1
    refine q_aload_n dX12_builds_232 rfl ?_
    replace E := grd_some E
    obtain ⟨g3, E⟩ := E
    replace E := orf_some E
    obtain ⟨a4, ea4, E⟩ := E
    refine r_getR dX12_builds_233 FX12_42 g3 ea4 ?_
    refine q_sipush (v := (Int32.ofInt 387)) dX12_builds_236 (by decide) ?_
    refine q_iload_n dX12_builds_239 rfl ?_
    refine q_imul dX12_builds_240 ?_
    refine q_iconst dX12_builds_241 ?_
    refine q_iload dX12_builds_242 rfl ?_
    refine q_imul dX12_builds_244 ?_
    refine q_iadd dX12_builds_245 ?_
    refine q_iload dX12_builds_246 rfl ?_
    refine q_iadd dX12_builds_248 ?_
    refine q_aload_n dX12_builds_249 rfl ?_
    refine q_iload_n dX12_builds_250 rfl ?_
    refine q_iload dX12_builds_251 rfl ?_
    refine q_iload dX12_builds_253 rfl ?_
    replace E := cal_some E
    obtain ⟨x6, h5, hc, E⟩ := E
    refine r_callV3 (mc := 0) (ms := 0) dX12_builds_255 KX12_270 (c_X12_next hc) g3 (by decide) (Nat.le_of_ble_eq_true rfl) (fun _ _ q => q.elim) ?_
    rintro _ _ ⟨rfl, rfl⟩
    clear hc
    replace E := grd_some E
    obtain ⟨g8, E⟩ := E
    replace E := grd_some E
    obtain ⟨g9, E⟩ := E
    replace E := bnd_x E
    obtain ⟨h7, eh7, E⟩ := E
    refine r_iastore (hh := eh7) dX12_builds_258 g8 g9 ?_
    replace E := bnd_x E
    obtain ⟨x10, ex10, E⟩ := E
    refine r_iinc (v := x10) dX12_builds_259 rfl ex10 (by decide) (ls' := [some (.ref p0), some (.int v1), none, none, some (.int v4), some (.int x10)]) rfl ?_
    refine q_goto (tgt := 226) dX12_builds_262 (by decide) ?_
    cases E
    exact r_fewer [some (.ref p0), some (.int v1), none, none, some (.int v4), some (.int x10)] (ls_s (ls_s (ls_n (ls_n (ls_s (ls_s ls_0)))))) hK
theorem s_X12_builds_226 {l : Launch} {G : mG} {Q : Option Value → mH → Prop} {X : String → mH → Prop} (p0 : Nat) (v1 : Int32) (v4 : Int32) (v5 : Int32) (h : mH) {o : ((Int32 × mH) ⊕ (Unit × mH))} (E : g_X12_builds_226 p0 v1 v4 v5 h = some o) (hK : (lpK (w_X12_builds_215 l G Q X p0 v1) (fiV Q)) o) : mW l G m_X12_builds 2 0 0 226 [some (.ref p0), some (.int v1), none, none, some (.int v4), some (.int v5)] [] h Q X :=
  (lp_go (w_X12_builds_226 l G Q X p0 v1 v4) (lpK (w_X12_builds_215 l G Q X p0 v1) (fiV Q)) (b_X12_builds_226 p0 v1 v4) (fun s o E hK => sb_X12_builds_226 p0 v1 v4 s.1 (s.2) E hK) _ _ _ E hK : w_X12_builds_226 l G Q X p0 v1 v4 (v5, h))
set_option maxRecDepth 100000 in
set_option maxHeartbeats 4000000 in
theorem sb_X12_builds_215 {l : Launch} {G : mG} {Q : Option Value → mH → Prop} {X : String → mH → Prop} (p0 : Nat) (v1 : Int32) (v4 : Int32) (h : mH) {o : ((Int32 × mH) ⊕ (Unit × mH))} (E : b0_X12_builds_215 p0 v1 v4 h = some o) (hK : (lpK (w_X12_builds_215 l G Q X p0 v1) (fiV Q)) o) : mW l G m_X12_builds 2 0 0 215 [some (.ref p0), some (.int v1), none, none, some (.int v4), none] [] h Q X := by
  unfold b0_X12_builds_215 at E
  refine q_iload dX12_builds_215 rfl ?_
  refine q_sipush (v := (Int32.ofInt 129)) dX12_builds_217 (by decide) ?_
  refine q_icmp_ge (tgt := 271) dX12_builds_220 (by decide) (fun z1 => ?_) (fun z1 => ?_)
  · replace E := ite_t E z1
    cases E
    exact q_return dX12_builds_271 rfl hK
  · replace E := ite_f E z1
    refine q_iconst dX12_builds_223 ?_
    refine r_istore dX12_builds_224 (by decide) rfl (ls' := [some (.ref p0), some (.int v1), none, none, some (.int v4), some (.int (Int32.ofInt 0))]) rfl ?_
    exact r_fewer [some (.ref p0), some (.int v1), none, none, some (.int v4), some (.int (Int32.ofInt 0))] (ls_s (ls_s (ls_n (ls_n (ls_s (ls_s ls_0)))))) (s_X12_builds_226 p0 v1 v4 (Int32.ofInt 0) h E hK)
theorem s_X12_builds_215 {l : Launch} {G : mG} {Q : Option Value → mH → Prop} {X : String → mH → Prop} (p0 : Nat) (v1 : Int32) (v4 : Int32) (h : mH) {o : Unit × mH} (E : g_X12_builds_215 p0 v1 v4 h = some o) (hK : (fiV Q) o) : mW l G m_X12_builds 2 0 0 215 [some (.ref p0), some (.int v1), none, none, some (.int v4), none] [] h Q X :=
  (lp_go (w_X12_builds_215 l G Q X p0 v1) (fiV Q) (b_X12_builds_215 p0 v1) (fun s o E hK => sb_X12_builds_215 p0 v1 s.1 (s.2) E hK) _ _ _ E hK : w_X12_builds_215 l G Q X p0 v1 (v4, h))
set_option maxRecDepth 100000 in
set_option maxHeartbeats 4000000 in
theorem sb_X12_builds_60 {l : Launch} {G : mG} {Q : Option Value → mH → Prop} {X : String → mH → Prop} (p0 : Nat) (v1 : Int32) (v2 : Int32) (v3 : Int32) (v4 : Int32) (h : mH) {o : ((Int32 × Int32 × mH) ⊕ (Unit × mH))} (E : b0_X12_builds_60 p0 v1 v2 v3 v4 h = some o) (hK : (lpK (w_X12_builds_60 l G Q X p0 v1 v2) (fiV Q)) o) : mW l G m_X12_builds 2 0 0 60 [some (.ref p0), some (.int v1), some (.int v2), some (.int v3), some (.int v4), none] [] h Q X := by
  unfold b0_X12_builds_60 at E
  refine q_iload dX12_builds_60 rfl ?_
  refine q_aload_n dX12_builds_62 rfl ?_
  refine q_iload_n dX12_builds_63 rfl ?_
  replace E := grd_some E
  obtain ⟨g3, E⟩ := E
  replace E := cal_some E
  obtain ⟨x2, h1, hc, E⟩ := E
  refine r_callV1 (mc := 0) (ms := 0) dX12_builds_64 KX12_140 (c_X12_length hc) g3 (by decide) (Nat.le_of_ble_eq_true rfl) (fun _ _ q => q.elim) ?_
  rintro _ _ ⟨rfl, rfl⟩
  clear hc
  refine q_icmp_ge (tgt := 176) dX12_builds_67 (by decide) (fun z4 => ?_) (fun z4 => ?_)
  · replace E := ite_t E z4
    refine q_aload_n dX12_builds_176 rfl ?_
    replace E := grd_some E
    obtain ⟨g5, E⟩ := E
    replace E := orf_some E
    obtain ⟨a6, ea6, E⟩ := E
    refine r_getR dX12_builds_177 FX12_54 g5 ea6 ?_
    refine q_iload_n dX12_builds_180 rfl ?_
    refine q_aload_n dX12_builds_181 rfl ?_
    replace E := orf_some E
    obtain ⟨a7, ea7, E⟩ := E
    refine r_getR dX12_builds_182 FX12_63 g5 ea7 ?_
    refine q_iconst dX12_builds_185 ?_
    replace E := grd_some E
    obtain ⟨g8, E⟩ := E
    replace E := grd_some E
    obtain ⟨g9, E⟩ := E
    refine r_iaload dX12_builds_186 g8 g9 ?_
    replace E := grd_some E
    obtain ⟨g11, E⟩ := E
    replace E := grd_some E
    obtain ⟨g12, E⟩ := E
    replace E := bnd_x E
    obtain ⟨h10, eh10, E⟩ := E
    refine r_iastore (hh := eh10) dX12_builds_187 g11 g12 ?_
    refine q_aload_n dX12_builds_188 rfl ?_
    replace E := grd_some E
    obtain ⟨g13, E⟩ := E
    replace E := orf_some E
    obtain ⟨a14, ea14, E⟩ := E
    refine r_getR dX12_builds_189 FX12_51 g13 ea14 ?_
    refine q_iload_n dX12_builds_192 rfl ?_
    refine q_aload_n dX12_builds_193 rfl ?_
    replace E := orf_some E
    obtain ⟨a15, ea15, E⟩ := E
    refine r_getR dX12_builds_194 FX12_66 g13 ea15 ?_
    refine q_iconst dX12_builds_197 ?_
    replace E := grd_some E
    obtain ⟨g16, E⟩ := E
    replace E := grd_some E
    obtain ⟨g17, E⟩ := E
    refine r_iaload dX12_builds_198 g16 g17 ?_
    replace E := grd_some E
    obtain ⟨g19, E⟩ := E
    replace E := grd_some E
    obtain ⟨g20, E⟩ := E
    replace E := bnd_x E
    obtain ⟨h18, eh18, E⟩ := E
    refine r_iastore (hh := eh18) dX12_builds_199 g19 g20 ?_
    refine q_aload_n dX12_builds_200 rfl ?_
    replace E := grd_some E
    obtain ⟨g21, E⟩ := E
    replace E := orf_some E
    obtain ⟨a22, ea22, E⟩ := E
    refine r_getR dX12_builds_201 FX12_57 g21 ea22 ?_
    refine q_iload_n dX12_builds_204 rfl ?_
    refine q_aload_n dX12_builds_205 rfl ?_
    replace E := orf_some E
    obtain ⟨a23, ea23, E⟩ := E
    refine r_getR dX12_builds_206 FX12_60 g21 ea23 ?_
    refine q_iconst dX12_builds_209 ?_
    replace E := grd_some E
    obtain ⟨g24, E⟩ := E
    replace E := grd_some E
    obtain ⟨g25, E⟩ := E
    refine r_iaload dX12_builds_210 g24 g25 ?_
    replace E := grd_some E
    obtain ⟨g27, E⟩ := E
    replace E := grd_some E
    obtain ⟨g28, E⟩ := E
    replace E := bnd_x E
    obtain ⟨h26, eh26, E⟩ := E
    refine r_iastore (hh := eh26) dX12_builds_211 g27 g28 ?_
    refine q_iconst dX12_builds_212 ?_
    refine r_istore dX12_builds_213 (by decide) rfl (ls' := [some (.ref p0), some (.int v1), some (.int v2), some (.int v3), some (.int (Int32.ofInt 0)), none]) rfl ?_
    obtain ⟨o0, E0, rfl⟩ := inrO_some E
    exact r_fewer [some (.ref p0), some (.int v1), none, none, some (.int (Int32.ofInt 0)), none] (ls_s (ls_s (ls_n (ls_n (ls_s (ls_n ls_0)))))) (s_X12_builds_215 p0 v1 (Int32.ofInt 0) h26 E0 hK)
  · replace E := ite_f E z4
    refine q_aload_n dX12_builds_70 rfl ?_
    refine q_iload_n dX12_builds_71 rfl ?_
    refine q_iload dX12_builds_72 rfl ?_
    replace E := grd_some E
    obtain ⟨g31, E⟩ := E
    replace E := cal_some E
    obtain ⟨x30, h29, hc, E⟩ := E
    refine r_callV2 (mc := 0) (ms := 0) dX12_builds_74 KX12_147 (c_X12_code hc) g31 (by decide) (Nat.le_of_ble_eq_true rfl) (fun _ _ q => q.elim) ?_
    rintro _ _ ⟨rfl, rfl⟩
    clear hc
    refine r_istore dX12_builds_77 (by decide) rfl (ls' := [some (.ref p0), some (.int v1), some (.int v2), some (.int v3), some (.int v4), some (.int x30)]) rfl ?_
    refine q_iload dX12_builds_79 rfl ?_
    refine q_iconst dX12_builds_81 ?_
    refine q_icmp_ge (tgt := 101) dX12_builds_82 (by decide) (fun z32 => ?_) (fun z32 => ?_)
    · replace E := ite_t E z32
      refine q_iload dX12_builds_101 rfl ?_
      refine q_iconst dX12_builds_103 ?_
      refine q_icmp_gt (tgt := 117) dX12_builds_104 (by decide) (fun z33 => ?_) (fun z33 => ?_)
      · replace E := ite_t E z33
        refine q_iload dX12_builds_117 rfl ?_
        refine q_bipush (v := (Int32.ofInt 8)) dX12_builds_119 (by decide) ?_
        refine q_icmp_eq (tgt := 151) dX12_builds_121 (by decide) (fun z34 => ?_) (fun z34 => ?_)
        · replace E := ite_t E z34
          exact r_fewer [some (.ref p0), some (.int v1), some (.int v2), some (.int v3), some (.int v4), some (.int x30)] (ls_s (ls_s (ls_s (ls_s (ls_s (ls_s ls_0)))))) (s_X12_builds_151 p0 v1 v2 v3 v4 x30 h29 E hK)
        · replace E := ite_f E z34
          refine q_aload_n dX12_builds_124 rfl ?_
          refine q_iload_n dX12_builds_125 rfl ?_
          refine q_aload_n dX12_builds_126 rfl ?_
          replace E := grd_some E
          obtain ⟨g35, E⟩ := E
          replace E := orf_some E
          obtain ⟨a36, ea36, E⟩ := E
          refine r_getR dX12_builds_127 FX12_66 g35 ea36 ?_
          refine q_aload_n dX12_builds_130 rfl ?_
          refine r_getI dX12_builds_131 FX12_256 g35 ?_
          refine q_iconst dX12_builds_134 ?_
          refine q_isub dX12_builds_135 ?_
          replace E := grd_some E
          obtain ⟨g37, E⟩ := E
          replace E := grd_some E
          obtain ⟨g38, E⟩ := E
          refine r_iaload dX12_builds_136 g37 g38 ?_
          refine q_aload_n dX12_builds_137 rfl ?_
          replace E := orf_some E
          obtain ⟨a39, ea39, E⟩ := E
          refine r_getR dX12_builds_138 FX12_63 g35 ea39 ?_
          refine q_aload_n dX12_builds_141 rfl ?_
          refine r_getI dX12_builds_142 FX12_256 g35 ?_
          refine q_iconst dX12_builds_145 ?_
          refine q_isub dX12_builds_146 ?_
          replace E := grd_some E
          obtain ⟨g40, E⟩ := E
          replace E := grd_some E
          obtain ⟨g41, E⟩ := E
          refine r_iaload dX12_builds_147 g40 g41 ?_
          replace E := cal_some E
          obtain ⟨_, h42, hc, E⟩ := E
          refine r_callV3 (mc := 0) (ms := 0) dX12_builds_148 KX12_259 (c_X12_followed hc) g35 (by decide) (Nat.le_of_ble_eq_true rfl) (fun _ _ q => q.elim) ?_
          rintro _ _ ⟨rfl, rfl⟩
          clear hc
          exact r_fewer [some (.ref p0), some (.int v1), some (.int v2), some (.int v3), some (.int v4), some (.int x30)] (ls_s (ls_s (ls_s (ls_s (ls_s (ls_s ls_0)))))) (s_X12_builds_151 p0 v1 v2 v3 v4 x30 h42 E hK)
      · replace E := ite_f E z33
        refine q_aload_n dX12_builds_107 rfl ?_
        refine q_iload_n dX12_builds_108 rfl ?_
        refine q_iload dX12_builds_109 rfl ?_
        replace E := grd_some E
        obtain ⟨g46, E⟩ := E
        replace E := cal_some E
        obtain ⟨_, h44, hc, E⟩ := E
        refine r_callV2 (mc := 0) (ms := 0) dX12_builds_111 KX12_266 (c_X12_joins hc) g46 (by decide) (Nat.le_of_ble_eq_true rfl) (fun _ _ q => q.elim) ?_
        rintro _ _ ⟨rfl, rfl⟩
        clear hc
        refine q_goto (tgt := 170) dX12_builds_114 (by decide) ?_
        exact r_fewer [some (.ref p0), some (.int v1), some (.int v2), some (.int v3), some (.int v4), none] (ls_s (ls_s (ls_s (ls_s (ls_s (ls_n ls_0)))))) (s_X12_builds_170 p0 v1 v2 v3 v4 h44 E hK)
    · replace E := ite_f E z32
      refine q_aload_n dX12_builds_85 rfl ?_
      refine q_iload_n dX12_builds_86 rfl ?_
      refine q_iload dX12_builds_87 rfl ?_
      refine q_iconst dX12_builds_89 ?_
      refine q_isub dX12_builds_90 ?_
      refine q_iload_n dX12_builds_91 rfl ?_
      replace E := grd_some E
      obtain ⟨g49, E⟩ := E
      replace E := cal_some E
      obtain ⟨_, h47, hc, E⟩ := E
      refine r_callV3 (mc := 0) (ms := 0) dX12_builds_92 KX12_263 (c_X12_pileLetter hc) g49 (by decide) (Nat.le_of_ble_eq_true rfl) (fun _ _ q => q.elim) ?_
      rintro _ _ ⟨rfl, rfl⟩
      clear hc
      replace E := bnd_x E
      obtain ⟨x50, ex50, E⟩ := E
      refine r_iinc (v := x50) dX12_builds_95 rfl ex50 (by decide) (ls' := [some (.ref p0), some (.int v1), some (.int v2), some (.int x50), some (.int v4), some (.int x30)]) rfl ?_
      refine q_goto (tgt := 170) dX12_builds_98 (by decide) ?_
      exact r_fewer [some (.ref p0), some (.int v1), some (.int v2), some (.int x50), some (.int v4), none] (ls_s (ls_s (ls_s (ls_s (ls_s (ls_n ls_0)))))) (s_X12_builds_170 p0 v1 v2 x50 v4 h47 E hK)
theorem s_X12_builds_60 {l : Launch} {G : mG} {Q : Option Value → mH → Prop} {X : String → mH → Prop} (p0 : Nat) (v1 : Int32) (v2 : Int32) (v3 : Int32) (v4 : Int32) (h : mH) {o : Unit × mH} (E : g_X12_builds_60 p0 v1 v2 v3 v4 h = some o) (hK : (fiV Q) o) : mW l G m_X12_builds 2 0 0 60 [some (.ref p0), some (.int v1), some (.int v2), some (.int v3), some (.int v4), none] [] h Q X :=
  (lp_go (w_X12_builds_60 l G Q X p0 v1 v2) (fiV Q) (b_X12_builds_60 p0 v1 v2) (fun s o E hK => sb_X12_builds_60 p0 v1 v2 s.1 s.2.1 (s.2.2) E hK) _ _ _ E hK : w_X12_builds_60 l G Q X p0 v1 v2 (v3, v4, h))
set_option maxRecDepth 100000 in
set_option maxHeartbeats 4000000 in
theorem sb_X12_builds_28 {l : Launch} {G : mG} {Q : Option Value → mH → Prop} {X : String → mH → Prop} (p0 : Nat) (v1 : Int32) (v2 : Int32) (v3 : Int32) (h : mH) {o : ((Int32 × mH) ⊕ (Unit × mH))} (E : b0_X12_builds_28 p0 v1 v2 v3 h = some o) (hK : (lpK (w_X12_builds_28 l G Q X p0 v1 v2) (fiV Q)) o) : mW l G m_X12_builds 2 0 0 28 [some (.ref p0), some (.int v1), some (.int v2), some (.int v3), none, none] [] h Q X := by
  unfold b0_X12_builds_28 at E
  refine q_iload_n dX12_builds_28 rfl ?_
  refine q_iconst dX12_builds_29 ?_
  refine q_icmp_ge (tgt := 50) dX12_builds_30 (by decide) (fun z1 => ?_) (fun z1 => ?_)
  · replace E := ite_t E z1
    refine q_aload_n dX12_builds_50 rfl ?_
    refine q_iconst dX12_builds_51 ?_
    replace E := grd_some E
    obtain ⟨g2, E⟩ := E
    replace E := bnd_x E
    obtain ⟨h3, eh3, E⟩ := E
    refine r_putI (hh := eh3) dX12_builds_52 FX12_256 g2 rfl rfl ?_
    refine q_iconst dX12_builds_55 ?_
    refine r_istore_n dX12_builds_56 (by decide) rfl (ls' := [some (.ref p0), some (.int v1), some (.int v2), some (.int (Int32.ofInt 0)), none, none]) rfl ?_
    refine q_iconst dX12_builds_57 ?_
    refine r_istore dX12_builds_58 (by decide) rfl (ls' := [some (.ref p0), some (.int v1), some (.int v2), some (.int (Int32.ofInt 0)), some (.int (Int32.ofInt 0)), none]) rfl ?_
    obtain ⟨o0, E0, rfl⟩ := inrO_some E
    exact r_fewer [some (.ref p0), some (.int v1), some (.int v2), some (.int (Int32.ofInt 0)), some (.int (Int32.ofInt 0)), none] (ls_s (ls_s (ls_s (ls_s (ls_s (ls_n ls_0)))))) (s_X12_builds_60 p0 v1 v2 (Int32.ofInt 0) (Int32.ofInt 0) h3 E0 hK)
  · replace E := ite_f E z1
    refine q_aload_n dX12_builds_33 rfl ?_
    replace E := grd_some E
    obtain ⟨g4, E⟩ := E
    replace E := orf_some E
    obtain ⟨a5, ea5, E⟩ := E
    refine r_getR dX12_builds_34 FX12_48 g4 ea5 ?_
    refine q_iconst dX12_builds_37 ?_
    refine q_iload_n dX12_builds_38 rfl ?_
    refine q_imul dX12_builds_39 ?_
    refine q_iload_n dX12_builds_40 rfl ?_
    refine q_iadd dX12_builds_41 ?_
    refine q_iconst dX12_builds_42 ?_
    replace E := grd_some E
    obtain ⟨g7, E⟩ := E
    replace E := grd_some E
    obtain ⟨g8, E⟩ := E
    replace E := bnd_x E
    obtain ⟨h6, eh6, E⟩ := E
    refine r_iastore (hh := eh6) dX12_builds_43 g7 g8 ?_
    replace E := bnd_x E
    obtain ⟨x9, ex9, E⟩ := E
    refine r_iinc (v := x9) dX12_builds_44 rfl ex9 (by decide) (ls' := [some (.ref p0), some (.int v1), some (.int v2), some (.int x9), none, none]) rfl ?_
    refine q_goto (tgt := 28) dX12_builds_47 (by decide) ?_
    cases E
    exact r_fewer [some (.ref p0), some (.int v1), some (.int v2), some (.int x9), none, none] (ls_s (ls_s (ls_s (ls_s (ls_n (ls_n ls_0)))))) hK
theorem s_X12_builds_28 {l : Launch} {G : mG} {Q : Option Value → mH → Prop} {X : String → mH → Prop} (p0 : Nat) (v1 : Int32) (v2 : Int32) (v3 : Int32) (h : mH) {o : Unit × mH} (E : g_X12_builds_28 p0 v1 v2 v3 h = some o) (hK : (fiV Q) o) : mW l G m_X12_builds 2 0 0 28 [some (.ref p0), some (.int v1), some (.int v2), some (.int v3), none, none] [] h Q X :=
  (lp_go (w_X12_builds_28 l G Q X p0 v1 v2) (fiV Q) (b_X12_builds_28 p0 v1 v2) (fun s o E hK => sb_X12_builds_28 p0 v1 v2 s.1 (s.2) E hK) _ _ _ E hK : w_X12_builds_28 l G Q X p0 v1 v2 (v3, h))
set_option maxRecDepth 100000 in
set_option maxHeartbeats 4000000 in
theorem sb_X12_builds_2 {l : Launch} {G : mG} {Q : Option Value → mH → Prop} {X : String → mH → Prop} (p0 : Nat) (v1 : Int32) (v2 : Int32) (v3 : Int32) (h : mH) {o : ((Int32 × mH) ⊕ (Unit × mH))} (E : b0_X12_builds_2 p0 v1 v2 v3 h = some o) (hK : (lpK (w_X12_builds_2 l G Q X p0 v1 v2) (fiV Q)) o) : mW l G m_X12_builds 2 0 0 2 [some (.ref p0), some (.int v1), some (.int v2), some (.int v3), none, none] [] h Q X := by
  unfold b0_X12_builds_2 at E
  refine q_iload_n dX12_builds_2 rfl ?_
  refine q_bipush (v := (Int32.ofInt 7)) dX12_builds_3 (by decide) ?_
  refine q_icmp_ge (tgt := 26) dX12_builds_5 (by decide) (fun z1 => ?_) (fun z1 => ?_)
  · replace E := ite_t E z1
    refine q_iconst dX12_builds_26 ?_
    refine r_istore_n dX12_builds_27 (by decide) rfl (ls' := [some (.ref p0), some (.int v1), some (.int v2), some (.int (Int32.ofInt 0)), none, none]) rfl ?_
    obtain ⟨o0, E0, rfl⟩ := inrO_some E
    exact r_fewer [some (.ref p0), some (.int v1), some (.int v2), some (.int (Int32.ofInt 0)), none, none] (ls_s (ls_s (ls_s (ls_s (ls_n (ls_n ls_0)))))) (s_X12_builds_28 p0 v1 v2 (Int32.ofInt 0) h E0 hK)
  · replace E := ite_f E z1
    refine q_aload_n dX12_builds_8 rfl ?_
    replace E := grd_some E
    obtain ⟨g2, E⟩ := E
    replace E := orf_some E
    obtain ⟨a3, ea3, E⟩ := E
    refine r_getR dX12_builds_9 FX12_45 g2 ea3 ?_
    refine q_bipush (v := (Int32.ofInt 7)) dX12_builds_12 (by decide) ?_
    refine q_iload_n dX12_builds_14 rfl ?_
    refine q_imul dX12_builds_15 ?_
    refine q_iload_n dX12_builds_16 rfl ?_
    refine q_iadd dX12_builds_17 ?_
    refine q_iconst dX12_builds_18 ?_
    replace E := grd_some E
    obtain ⟨g5, E⟩ := E
    replace E := grd_some E
    obtain ⟨g6, E⟩ := E
    replace E := bnd_x E
    obtain ⟨h4, eh4, E⟩ := E
    refine r_iastore (hh := eh4) dX12_builds_19 g5 g6 ?_
    replace E := bnd_x E
    obtain ⟨x7, ex7, E⟩ := E
    refine r_iinc (v := x7) dX12_builds_20 rfl ex7 (by decide) (ls' := [some (.ref p0), some (.int v1), some (.int v2), some (.int x7), none, none]) rfl ?_
    refine q_goto (tgt := 2) dX12_builds_23 (by decide) ?_
    cases E
    exact r_fewer [some (.ref p0), some (.int v1), some (.int v2), some (.int x7), none, none] (ls_s (ls_s (ls_s (ls_s (ls_n (ls_n ls_0)))))) hK
theorem s_X12_builds_2 {l : Launch} {G : mG} {Q : Option Value → mH → Prop} {X : String → mH → Prop} (p0 : Nat) (v1 : Int32) (v2 : Int32) (v3 : Int32) (h : mH) {o : Unit × mH} (E : g_X12_builds_2 p0 v1 v2 v3 h = some o) (hK : (fiV Q) o) : mW l G m_X12_builds 2 0 0 2 [some (.ref p0), some (.int v1), some (.int v2), some (.int v3), none, none] [] h Q X :=
  (lp_go (w_X12_builds_2 l G Q X p0 v1 v2) (fiV Q) (b_X12_builds_2 p0 v1 v2) (fun s o E hK => sb_X12_builds_2 p0 v1 v2 s.1 (s.2) E hK) _ _ _ E hK : w_X12_builds_2 l G Q X p0 v1 v2 (v3, h))
set_option maxRecDepth 100000 in
set_option maxHeartbeats 4000000 in
theorem s_X12_builds_0 {l : Launch} {G : mG} {Q : Option Value → mH → Prop} {X : String → mH → Prop} (p0 : Nat) (v1 : Int32) (v2 : Int32) (h : mH) {o : Unit × mH} (E : f_X12_builds p0 v1 v2 h = some o) (hK : (fiV Q) o) : mW l G m_X12_builds 2 0 0 0 [some (.ref p0), some (.int v1), some (.int v2), none, none, none] [] h Q X := by
  unfold f_X12_builds at E
  refine q_iconst dX12_builds_0 ?_
  refine r_istore_n dX12_builds_1 (by decide) rfl (ls' := [some (.ref p0), some (.int v1), some (.int v2), some (.int (Int32.ofInt 0)), none, none]) rfl ?_
  exact r_fewer [some (.ref p0), some (.int v1), some (.int v2), some (.int (Int32.ofInt 0)), none, none] (ls_s (ls_s (ls_s (ls_s (ls_n (ls_n ls_0)))))) (s_X12_builds_2 p0 v1 v2 (Int32.ofInt 0) h E hK)
theorem c_X12_builds {l : Launch} {G : mG} {p0 : Nat} {v1 : Int32} {v2 : Int32} {h h' : mH} {r : Unit} (E : f_X12_builds p0 v1 v2 h = some (r, h')) : mMet l G m_X12_builds 2 0 0 [.ref p0, .int v1, .int v2] h (fun v k => v = none ∧ h' = k) (fun _ _ => False) :=
  mMet_of (by decide +kernel) rfl (ac_c rfl (ac_c rfl (ac_c rfl ac_0))) (Nat.le_of_ble_eq_true rfl) (s_X12_builds_0 p0 v1 v2 h E (And.intro rfl rfl))
set_option maxRecDepth 100000 in
set_option maxHeartbeats 4000000 in
theorem s_X12_to_0 {l : Launch} {G : mG} {Q : Option Value → mH → Prop} {X : String → mH → Prop} (p0 : Nat) (v1 : Int32) (v2 : Int32) (v3 : Int32) (h : mH) {o : Int32 × mH} (E : f_X12_to p0 v1 v2 v3 h = some o) (hK : (fiI Q) o) : mW l G m_X12_to 0 0 0 0 [some (.ref p0), some (.int v1), some (.int v2), some (.int v3)] [] h Q X := by
  unfold f_X12_to at E
  refine q_aload_n dX12_to_0 rfl ?_
  replace E := grd_some E
  obtain ⟨g1, E⟩ := E
  replace E := orf_some E
  obtain ⟨a2, ea2, E⟩ := E
  refine r_getR dX12_to_1 FX12_42 g1 ea2 ?_
  refine q_sipush (v := (Int32.ofInt 387)) dX12_to_4 (by decide) ?_
  refine q_iload_n dX12_to_7 rfl ?_
  refine q_imul dX12_to_8 ?_
  refine q_iconst dX12_to_9 ?_
  refine q_iload_n dX12_to_10 rfl ?_
  refine q_imul dX12_to_11 ?_
  refine q_iadd dX12_to_12 ?_
  refine q_iload_n dX12_to_13 rfl ?_
  refine q_iadd dX12_to_14 ?_
  replace E := grd_some E
  obtain ⟨g3, E⟩ := E
  replace E := grd_some E
  obtain ⟨g4, E⟩ := E
  refine r_iaload dX12_to_15 g3 g4 ?_
  cases E
  exact q_ireturn dX12_to_16 rfl hK
theorem c_X12_to {l : Launch} {G : mG} {p0 : Nat} {v1 : Int32} {v2 : Int32} {v3 : Int32} {h h' : mH} {r : Int32} (E : f_X12_to p0 v1 v2 v3 h = some (r, h')) : mMet l G m_X12_to 0 0 0 [.ref p0, .int v1, .int v2, .int v3] h (fun v k => v = some (.int r) ∧ h' = k) (fun _ _ => False) :=
  mMet_of (by decide +kernel) rfl (ac_c rfl (ac_c rfl (ac_c rfl (ac_c rfl ac_0)))) (Nat.le_of_ble_eq_true rfl) (s_X12_to_0 p0 v1 v2 v3 h E (And.intro rfl rfl))
set_option maxRecDepth 100000 in
set_option maxHeartbeats 4000000 in
theorem s_X12_accepts_41 {l : Launch} {G : mG} {Q : Option Value → mH → Prop} {X : String → mH → Prop} (s0 : Int32) (h : mH) {o : Int32 × mH} (E : g_X12_accepts_41 s0 h = some o) (hK : (fiI Q) o) : mW l G m_X12_accepts 0 0 0 41 [none, none, none] [.int s0] h Q X := by
  unfold g_X12_accepts_41 at E
  replace E := grd_some E
  obtain ⟨g1, E⟩ := E
  cases E
  exact q_zreturn dX12_accepts_41 rfl (narZ g1) hK
set_option maxRecDepth 100000 in
set_option maxHeartbeats 4000000 in
theorem s_X12_accepts_0 {l : Launch} {G : mG} {Q : Option Value → mH → Prop} {X : String → mH → Prop} (p0 : Nat) (v1 : Int32) (v2 : Int32) (h : mH) {o : Int32 × mH} (E : f_X12_accepts p0 v1 v2 h = some o) (hK : (fiI Q) o) : mW l G m_X12_accepts 0 0 0 0 [some (.ref p0), some (.int v1), some (.int v2)] [] h Q X := by
  unfold f_X12_accepts at E
  refine q_iload_n dX12_accepts_0 rfl ?_
  refine q_sipush (v := (Int32.ofInt 128)) dX12_accepts_1 (by decide) ?_
  refine q_icmp_ne (tgt := 25) dX12_accepts_4 (by decide) (fun z1 => ?_) (fun z1 => ?_)
  · replace E := ite_f E z1
    refine q_iload_n dX12_accepts_25 rfl ?_
    refine q_aload_n dX12_accepts_26 rfl ?_
    replace E := grd_some E
    obtain ⟨g2, E⟩ := E
    replace E := orf_some E
    obtain ⟨a3, ea3, E⟩ := E
    refine r_getR dX12_accepts_27 FX12_51 g2 ea3 ?_
    refine q_iload_n dX12_accepts_30 rfl ?_
    replace E := grd_some E
    obtain ⟨g4, E⟩ := E
    replace E := grd_some E
    obtain ⟨g5, E⟩ := E
    refine r_iaload dX12_accepts_31 g4 g5 ?_
    refine q_iand dX12_accepts_32 ?_
    refine q_if_eq (tgt := 40) dX12_accepts_33 (by decide) (fun z6 => ?_) (fun z6 => ?_)
    · replace E := ite_t E z6
      refine q_iconst dX12_accepts_40 ?_
      exact r_fewer [none, none, none] (ls_n (ls_n (ls_n ls_0))) (s_X12_accepts_41 (Int32.ofInt 0) h E hK)
    · replace E := ite_f E z6
      refine q_iconst dX12_accepts_36 ?_
      refine q_goto (tgt := 41) dX12_accepts_37 (by decide) ?_
      exact r_fewer [none, none, none] (ls_n (ls_n (ls_n ls_0))) (s_X12_accepts_41 (Int32.ofInt 1) h E hK)
  · replace E := ite_t E z1
    refine q_aload_n dX12_accepts_7 rfl ?_
    replace E := grd_some E
    obtain ⟨g7, E⟩ := E
    replace E := orf_some E
    obtain ⟨a8, ea8, E⟩ := E
    refine r_getR dX12_accepts_8 FX12_57 g7 ea8 ?_
    refine q_iload_n dX12_accepts_11 rfl ?_
    replace E := grd_some E
    obtain ⟨g9, E⟩ := E
    replace E := grd_some E
    obtain ⟨g10, E⟩ := E
    refine r_iaload dX12_accepts_12 g9 g10 ?_
    refine q_iconst dX12_accepts_13 ?_
    refine q_icmp_ne (tgt := 21) dX12_accepts_14 (by decide) (fun z11 => ?_) (fun z11 => ?_)
    · replace E := ite_f E z11
      refine q_iconst dX12_accepts_21 ?_
      refine q_goto (tgt := 41) dX12_accepts_22 (by decide) ?_
      exact r_fewer [none, none, none] (ls_n (ls_n (ls_n ls_0))) (s_X12_accepts_41 (Int32.ofInt 0) h E hK)
    · replace E := ite_t E z11
      refine q_iconst dX12_accepts_17 ?_
      refine q_goto (tgt := 41) dX12_accepts_18 (by decide) ?_
      exact r_fewer [none, none, none] (ls_n (ls_n (ls_n ls_0))) (s_X12_accepts_41 (Int32.ofInt 1) h E hK)
theorem c_X12_accepts {l : Launch} {G : mG} {p0 : Nat} {v1 : Int32} {v2 : Int32} {h h' : mH} {r : Int32} (E : f_X12_accepts p0 v1 v2 h = some (r, h')) : mMet l G m_X12_accepts 0 0 0 [.ref p0, .int v1, .int v2] h (fun v k => v = some (.int r) ∧ h' = k) (fun _ _ => False) :=
  mMet_of (by decide +kernel) rfl (ac_c rfl (ac_c rfl (ac_c rfl ac_0))) (Nat.le_of_ble_eq_true rfl) (s_X12_accepts_0 p0 v1 v2 h E (And.intro rfl rfl))
set_option maxRecDepth 100000 in
set_option maxHeartbeats 4000000 in
theorem s_X12_reaches_142 {l : Launch} {G : mG} {Q : Option Value → mH → Prop} {X : String → mH → Prop} (p0 : Nat) (v1 : Int32) (v2 : Int32) (v3 : Int32) (v4 : Int32) (h : mH) {o : ((Int32 × mH) ⊕ ((Int32 × mH) ⊕ (Unit × mH)))} (E : g_X12_reaches_142 p0 v1 v2 v3 v4 h = some o) (hK : (lpK (w_X12_reaches_68 l G Q X p0 v1 v2 v3) (lpK (w_X12_reaches_57 l G Q X p0 v1 v2) (fiV Q))) o) : mW l G m_X12_reaches 1 0 0 142 [some (.ref p0), some (.int v1), some (.int v2), some (.int v3), some (.int v4), none] [] h Q X := by
  unfold g_X12_reaches_142 at E
  replace E := bnd_x E
  obtain ⟨x1, ex1, E⟩ := E
  refine r_iinc (v := x1) dX12_reaches_142 rfl ex1 (by decide) (ls' := [some (.ref p0), some (.int v1), some (.int v2), some (.int v3), some (.int x1), none]) rfl ?_
  refine q_goto (tgt := 68) dX12_reaches_145 (by decide) ?_
  cases E
  exact r_fewer [some (.ref p0), some (.int v1), some (.int v2), some (.int v3), some (.int x1), none] (ls_s (ls_s (ls_s (ls_s (ls_s (ls_n ls_0)))))) hK
set_option maxRecDepth 100000 in
set_option maxHeartbeats 4000000 in
theorem sb_X12_reaches_68 {l : Launch} {G : mG} {Q : Option Value → mH → Prop} {X : String → mH → Prop} (p0 : Nat) (v1 : Int32) (v2 : Int32) (v3 : Int32) (v4 : Int32) (h : mH) {o : ((Int32 × mH) ⊕ ((Int32 × mH) ⊕ (Unit × mH)))} (E : b0_X12_reaches_68 p0 v1 v2 v3 v4 h = some o) (hK : (lpK (w_X12_reaches_68 l G Q X p0 v1 v2 v3) (lpK (w_X12_reaches_57 l G Q X p0 v1 v2) (fiV Q))) o) : mW l G m_X12_reaches 1 0 0 68 [some (.ref p0), some (.int v1), some (.int v2), some (.int v3), some (.int v4), none] [] h Q X := by
  unfold b0_X12_reaches_68 at E
  refine q_iload dX12_reaches_68 rfl ?_
  refine q_iconst dX12_reaches_70 ?_
  refine q_icmp_ge (tgt := 148) dX12_reaches_71 (by decide) (fun z1 => ?_) (fun z1 => ?_)
  · replace E := ite_t E z1
    replace E := bnd_x E
    obtain ⟨x2, ex2, E⟩ := E
    refine r_iinc (v := x2) dX12_reaches_148 rfl ex2 (by decide) (ls' := [some (.ref p0), some (.int v1), some (.int v2), some (.int x2), some (.int v4), none]) rfl ?_
    refine q_goto (tgt := 57) dX12_reaches_151 (by decide) ?_
    cases E
    exact r_fewer [some (.ref p0), some (.int v1), some (.int v2), some (.int x2), none, none] (ls_s (ls_s (ls_s (ls_s (ls_n (ls_n ls_0)))))) hK
  · replace E := ite_f E z1
    refine q_aload_n dX12_reaches_74 rfl ?_
    refine q_iload_n dX12_reaches_75 rfl ?_
    refine q_aload_n dX12_reaches_76 rfl ?_
    replace E := grd_some E
    obtain ⟨g3, E⟩ := E
    replace E := orf_some E
    obtain ⟨a4, ea4, E⟩ := E
    refine r_getR dX12_reaches_77 FX12_69 g3 ea4 ?_
    refine q_iload_n dX12_reaches_80 rfl ?_
    refine q_iload_n dX12_reaches_81 rfl ?_
    refine q_iadd dX12_reaches_82 ?_
    replace E := grd_some E
    obtain ⟨g5, E⟩ := E
    replace E := grd_some E
    obtain ⟨g6, E⟩ := E
    refine r_iaload dX12_reaches_83 g5 g6 ?_
    refine q_iload dX12_reaches_84 rfl ?_
    replace E := cal_some E
    obtain ⟨x8, h7, hc, E⟩ := E
    refine r_callV3 (mc := 0) (ms := 0) dX12_reaches_86 KX12_277 (c_X12_to hc) g3 (by decide) (Nat.le_of_ble_eq_true rfl) (fun _ _ q => q.elim) ?_
    rintro _ _ ⟨rfl, rfl⟩
    clear hc
    refine r_istore dX12_reaches_89 (by decide) rfl (ls' := [some (.ref p0), some (.int v1), some (.int v2), some (.int v3), some (.int v4), some (.int x8)]) rfl ?_
    refine q_aload_n dX12_reaches_91 rfl ?_
    replace E := grd_some E
    obtain ⟨g9, E⟩ := E
    replace E := orf_some E
    obtain ⟨a10, ea10, E⟩ := E
    refine r_getR dX12_reaches_92 FX12_72 g9 ea10 ?_
    refine q_iload_n dX12_reaches_95 rfl ?_
    refine q_iload dX12_reaches_96 rfl ?_
    refine q_iadd dX12_reaches_98 ?_
    replace E := grd_some E
    obtain ⟨g11, E⟩ := E
    replace E := grd_some E
    obtain ⟨g12, E⟩ := E
    refine r_iaload dX12_reaches_99 g11 g12 ?_
    refine q_if_lt (tgt := 106) dX12_reaches_100 (by decide) (fun z13 => ?_) (fun z13 => ?_)
    · replace E := ite_t E z13
      refine q_aload_n dX12_reaches_106 rfl ?_
      refine r_getR dX12_reaches_107 FX12_72 g9 ea10 ?_
      refine q_iload_n dX12_reaches_110 rfl ?_
      refine q_iload dX12_reaches_111 rfl ?_
      refine q_iadd dX12_reaches_113 ?_
      refine q_aload_n dX12_reaches_114 rfl ?_
      refine r_getI dX12_reaches_115 FX12_274 g9 ?_
      replace E := bnd_x E
      obtain ⟨h15, eh15, E⟩ := E
      refine r_iastore (hh := eh15) dX12_reaches_118 g11 g12 ?_
      refine q_aload_n dX12_reaches_119 rfl ?_
      replace E := grd_some E
      obtain ⟨g16, E⟩ := E
      replace E := orf_some E
      obtain ⟨a17, ea17, E⟩ := E
      refine r_getR dX12_reaches_120 FX12_69 g16 ea17 ?_
      refine q_iload_n dX12_reaches_123 rfl ?_
      refine q_aload_n dX12_reaches_124 rfl ?_
      refine r_getI dX12_reaches_125 FX12_274 g16 ?_
      refine q_iadd dX12_reaches_128 ?_
      refine q_iload dX12_reaches_129 rfl ?_
      replace E := grd_some E
      obtain ⟨g19, E⟩ := E
      replace E := grd_some E
      obtain ⟨g20, E⟩ := E
      replace E := bnd_x E
      obtain ⟨h18, eh18, E⟩ := E
      refine r_iastore (hh := eh18) dX12_reaches_131 g19 g20 ?_
      refine q_aload_n dX12_reaches_132 rfl ?_
      refine q_dup dX12_reaches_133 ?_
      replace E := grd_some E
      obtain ⟨g21, E⟩ := E
      refine r_getI dX12_reaches_134 FX12_274 g21 ?_
      refine q_iconst dX12_reaches_137 ?_
      refine q_iadd dX12_reaches_138 ?_
      replace E := bnd_x E
      obtain ⟨h22, eh22, E⟩ := E
      refine r_putI (hh := eh22) dX12_reaches_139 FX12_274 g21 rfl rfl ?_
      exact r_fewer [some (.ref p0), some (.int v1), some (.int v2), some (.int v3), some (.int v4), none] (ls_s (ls_s (ls_s (ls_s (ls_s (ls_n ls_0)))))) (s_X12_reaches_142 p0 v1 v2 v3 v4 h22 E hK)
    · replace E := ite_f E z13
      refine q_goto (tgt := 142) dX12_reaches_103 (by decide) ?_
      exact r_fewer [some (.ref p0), some (.int v1), some (.int v2), some (.int v3), some (.int v4), none] (ls_s (ls_s (ls_s (ls_s (ls_s (ls_n ls_0)))))) (s_X12_reaches_142 p0 v1 v2 v3 v4 h7 E hK)
theorem s_X12_reaches_68 {l : Launch} {G : mG} {Q : Option Value → mH → Prop} {X : String → mH → Prop} (p0 : Nat) (v1 : Int32) (v2 : Int32) (v3 : Int32) (v4 : Int32) (h : mH) {o : ((Int32 × mH) ⊕ (Unit × mH))} (E : g_X12_reaches_68 p0 v1 v2 v3 v4 h = some o) (hK : (lpK (w_X12_reaches_57 l G Q X p0 v1 v2) (fiV Q)) o) : mW l G m_X12_reaches 1 0 0 68 [some (.ref p0), some (.int v1), some (.int v2), some (.int v3), some (.int v4), none] [] h Q X :=
  (lp_go (w_X12_reaches_68 l G Q X p0 v1 v2 v3) (lpK (w_X12_reaches_57 l G Q X p0 v1 v2) (fiV Q)) (b_X12_reaches_68 p0 v1 v2 v3) (fun s o E hK => sb_X12_reaches_68 p0 v1 v2 v3 s.1 (s.2) E hK) _ _ _ E hK : w_X12_reaches_68 l G Q X p0 v1 v2 v3 (v4, h))
set_option maxRecDepth 100000 in
set_option maxHeartbeats 4000000 in
theorem sb_X12_reaches_57 {l : Launch} {G : mG} {Q : Option Value → mH → Prop} {X : String → mH → Prop} (p0 : Nat) (v1 : Int32) (v2 : Int32) (v3 : Int32) (h : mH) {o : ((Int32 × mH) ⊕ (Unit × mH))} (E : b0_X12_reaches_57 p0 v1 v2 v3 h = some o) (hK : (lpK (w_X12_reaches_57 l G Q X p0 v1 v2) (fiV Q)) o) : mW l G m_X12_reaches 1 0 0 57 [some (.ref p0), some (.int v1), some (.int v2), some (.int v3), none, none] [] h Q X := by
  unfold b0_X12_reaches_57 at E
  refine q_iload_n dX12_reaches_57 rfl ?_
  refine q_aload_n dX12_reaches_58 rfl ?_
  replace E := grd_some E
  obtain ⟨g1, E⟩ := E
  refine r_getI dX12_reaches_59 FX12_274 g1 ?_
  refine q_icmp_ge (tgt := 154) dX12_reaches_62 (by decide) (fun z2 => ?_) (fun z2 => ?_)
  · replace E := ite_t E z2
    refine q_aload_n dX12_reaches_154 rfl ?_
    replace E := orf_some E
    obtain ⟨a3, ea3, E⟩ := E
    refine r_getR dX12_reaches_155 FX12_75 g1 ea3 ?_
    refine q_iload_n dX12_reaches_158 rfl ?_
    refine q_aload_n dX12_reaches_159 rfl ?_
    refine r_getI dX12_reaches_160 FX12_274 g1 ?_
    replace E := grd_some E
    obtain ⟨g5, E⟩ := E
    replace E := grd_some E
    obtain ⟨g6, E⟩ := E
    replace E := bnd_x E
    obtain ⟨h4, eh4, E⟩ := E
    refine r_iastore (hh := eh4) dX12_reaches_163 g5 g6 ?_
    cases E
    exact q_return dX12_reaches_164 rfl hK
  · replace E := ite_f E z2
    refine q_iconst dX12_reaches_65 ?_
    refine r_istore dX12_reaches_66 (by decide) rfl (ls' := [some (.ref p0), some (.int v1), some (.int v2), some (.int v3), some (.int (Int32.ofInt 0)), none]) rfl ?_
    exact r_fewer [some (.ref p0), some (.int v1), some (.int v2), some (.int v3), some (.int (Int32.ofInt 0)), none] (ls_s (ls_s (ls_s (ls_s (ls_s (ls_n ls_0)))))) (s_X12_reaches_68 p0 v1 v2 v3 (Int32.ofInt 0) h E hK)
theorem s_X12_reaches_57 {l : Launch} {G : mG} {Q : Option Value → mH → Prop} {X : String → mH → Prop} (p0 : Nat) (v1 : Int32) (v2 : Int32) (v3 : Int32) (h : mH) {o : Unit × mH} (E : g_X12_reaches_57 p0 v1 v2 v3 h = some o) (hK : (fiV Q) o) : mW l G m_X12_reaches 1 0 0 57 [some (.ref p0), some (.int v1), some (.int v2), some (.int v3), none, none] [] h Q X :=
  (lp_go (w_X12_reaches_57 l G Q X p0 v1 v2) (fiV Q) (b_X12_reaches_57 p0 v1 v2) (fun s o E hK => sb_X12_reaches_57 p0 v1 v2 s.1 (s.2) E hK) _ _ _ E hK : w_X12_reaches_57 l G Q X p0 v1 v2 (v3, h))
set_option maxRecDepth 100000 in
set_option maxHeartbeats 4000000 in
theorem sb_X12_reaches_8 {l : Launch} {G : mG} {Q : Option Value → mH → Prop} {X : String → mH → Prop} (p0 : Nat) (v1 : Int32) (v2 : Int32) (v3 : Int32) (h : mH) {o : ((Int32 × mH) ⊕ (Unit × mH))} (E : b0_X12_reaches_8 p0 v1 v2 v3 h = some o) (hK : (lpK (w_X12_reaches_8 l G Q X p0 v1 v2) (fiV Q)) o) : mW l G m_X12_reaches 1 0 0 8 [some (.ref p0), some (.int v1), some (.int v2), some (.int v3), none, none] [] h Q X := by
  unfold b0_X12_reaches_8 at E
  refine q_iload_n dX12_reaches_8 rfl ?_
  refine q_sipush (v := (Int32.ofInt 129)) dX12_reaches_9 (by decide) ?_
  refine q_icmp_ge (tgt := 30) dX12_reaches_12 (by decide) (fun z1 => ?_) (fun z1 => ?_)
  · replace E := ite_t E z1
    refine q_aload_n dX12_reaches_30 rfl ?_
    replace E := grd_some E
    obtain ⟨g2, E⟩ := E
    replace E := orf_some E
    obtain ⟨a3, ea3, E⟩ := E
    refine r_getR dX12_reaches_31 FX12_69 g2 ea3 ?_
    refine q_iload_n dX12_reaches_34 rfl ?_
    refine q_sipush (v := (Int32.ofInt 128)) dX12_reaches_35 (by decide) ?_
    replace E := grd_some E
    obtain ⟨g5, E⟩ := E
    replace E := grd_some E
    obtain ⟨g6, E⟩ := E
    replace E := bnd_x E
    obtain ⟨h4, eh4, E⟩ := E
    refine r_iastore (hh := eh4) dX12_reaches_38 g5 g6 ?_
    refine q_aload_n dX12_reaches_39 rfl ?_
    replace E := grd_some E
    obtain ⟨g7, E⟩ := E
    replace E := orf_some E
    obtain ⟨a8, ea8, E⟩ := E
    refine r_getR dX12_reaches_40 FX12_72 g7 ea8 ?_
    refine q_iload_n dX12_reaches_43 rfl ?_
    refine q_sipush (v := (Int32.ofInt 128)) dX12_reaches_44 (by decide) ?_
    refine q_iadd dX12_reaches_47 ?_
    refine q_iconst dX12_reaches_48 ?_
    replace E := grd_some E
    obtain ⟨g10, E⟩ := E
    replace E := grd_some E
    obtain ⟨g11, E⟩ := E
    replace E := bnd_x E
    obtain ⟨h9, eh9, E⟩ := E
    refine r_iastore (hh := eh9) dX12_reaches_49 g10 g11 ?_
    refine q_aload_n dX12_reaches_50 rfl ?_
    refine q_iconst dX12_reaches_51 ?_
    replace E := grd_some E
    obtain ⟨g12, E⟩ := E
    replace E := bnd_x E
    obtain ⟨h13, eh13, E⟩ := E
    refine r_putI (hh := eh13) dX12_reaches_52 FX12_274 g12 rfl rfl ?_
    refine q_iconst dX12_reaches_55 ?_
    refine r_istore_n dX12_reaches_56 (by decide) rfl (ls' := [some (.ref p0), some (.int v1), some (.int v2), some (.int (Int32.ofInt 0)), none, none]) rfl ?_
    obtain ⟨o0, E0, rfl⟩ := inrO_some E
    exact r_fewer [some (.ref p0), some (.int v1), some (.int v2), some (.int (Int32.ofInt 0)), none, none] (ls_s (ls_s (ls_s (ls_s (ls_n (ls_n ls_0)))))) (s_X12_reaches_57 p0 v1 v2 (Int32.ofInt 0) h13 E0 hK)
  · replace E := ite_f E z1
    refine q_aload_n dX12_reaches_15 rfl ?_
    replace E := grd_some E
    obtain ⟨g14, E⟩ := E
    replace E := orf_some E
    obtain ⟨a15, ea15, E⟩ := E
    refine r_getR dX12_reaches_16 FX12_72 g14 ea15 ?_
    refine q_iload_n dX12_reaches_19 rfl ?_
    refine q_iload_n dX12_reaches_20 rfl ?_
    refine q_iadd dX12_reaches_21 ?_
    refine q_iconst dX12_reaches_22 ?_
    replace E := grd_some E
    obtain ⟨g17, E⟩ := E
    replace E := grd_some E
    obtain ⟨g18, E⟩ := E
    replace E := bnd_x E
    obtain ⟨h16, eh16, E⟩ := E
    refine r_iastore (hh := eh16) dX12_reaches_23 g17 g18 ?_
    replace E := bnd_x E
    obtain ⟨x19, ex19, E⟩ := E
    refine r_iinc (v := x19) dX12_reaches_24 rfl ex19 (by decide) (ls' := [some (.ref p0), some (.int v1), some (.int v2), some (.int x19), none, none]) rfl ?_
    refine q_goto (tgt := 8) dX12_reaches_27 (by decide) ?_
    cases E
    exact r_fewer [some (.ref p0), some (.int v1), some (.int v2), some (.int x19), none, none] (ls_s (ls_s (ls_s (ls_s (ls_n (ls_n ls_0)))))) hK
theorem s_X12_reaches_8 {l : Launch} {G : mG} {Q : Option Value → mH → Prop} {X : String → mH → Prop} (p0 : Nat) (v1 : Int32) (v2 : Int32) (v3 : Int32) (h : mH) {o : Unit × mH} (E : g_X12_reaches_8 p0 v1 v2 v3 h = some o) (hK : (fiV Q) o) : mW l G m_X12_reaches 1 0 0 8 [some (.ref p0), some (.int v1), some (.int v2), some (.int v3), none, none] [] h Q X :=
  (lp_go (w_X12_reaches_8 l G Q X p0 v1 v2) (fiV Q) (b_X12_reaches_8 p0 v1 v2) (fun s o E hK => sb_X12_reaches_8 p0 v1 v2 s.1 (s.2) E hK) _ _ _ E hK : w_X12_reaches_8 l G Q X p0 v1 v2 (v3, h))
set_option maxRecDepth 100000 in
set_option maxHeartbeats 4000000 in
theorem s_X12_reaches_0 {l : Launch} {G : mG} {Q : Option Value → mH → Prop} {X : String → mH → Prop} (p0 : Nat) (v1 : Int32) (h : mH) {o : Unit × mH} (E : f_X12_reaches p0 v1 h = some o) (hK : (fiV Q) o) : mW l G m_X12_reaches 1 0 0 0 [some (.ref p0), some (.int v1), none, none, none, none] [] h Q X := by
  unfold f_X12_reaches at E
  refine q_sipush (v := (Int32.ofInt 129)) dX12_reaches_0 (by decide) ?_
  refine q_iload_n dX12_reaches_3 rfl ?_
  refine q_imul dX12_reaches_4 ?_
  replace E := bnd_x E
  obtain ⟨x1, ex1, E⟩ := E
  refine r_istore_n dX12_reaches_5 (by decide) ex1 (ls' := [some (.ref p0), some (.int v1), some (.int x1), none, none, none]) rfl ?_
  refine q_iconst dX12_reaches_6 ?_
  refine r_istore_n dX12_reaches_7 (by decide) rfl (ls' := [some (.ref p0), some (.int v1), some (.int x1), some (.int (Int32.ofInt 0)), none, none]) rfl ?_
  exact r_fewer [some (.ref p0), some (.int v1), some (.int x1), some (.int (Int32.ofInt 0)), none, none] (ls_s (ls_s (ls_s (ls_s (ls_n (ls_n ls_0)))))) (s_X12_reaches_8 p0 v1 x1 (Int32.ofInt 0) h E hK)
theorem c_X12_reaches {l : Launch} {G : mG} {p0 : Nat} {v1 : Int32} {h h' : mH} {r : Unit} (E : f_X12_reaches p0 v1 h = some (r, h')) : mMet l G m_X12_reaches 1 0 0 [.ref p0, .int v1] h (fun v k => v = none ∧ h' = k) (fun _ _ => False) :=
  mMet_of (by decide +kernel) rfl (ac_c rfl (ac_c rfl ac_0)) (Nat.le_of_ble_eq_true rfl) (s_X12_reaches_0 p0 v1 h E (And.intro rfl rfl))
