set_option maxRecDepth 100000 in
set_option maxHeartbeats 4000000 in
theorem s_X12_notNow_131 {l : Launch} {G : mG} {Q : Option Value → mH → Prop} {X : String → mH → Prop} (s0 : Int32) (h : mH) {o : Int32 × mH} (E : g_X12_notNow_131 s0 h = some o) (hK : (fiI Q) o) : mW l G m_X12_notNow 4 0 0 131 [none, none, none] [.int s0] h Q X := by
  unfold g_X12_notNow_131 at E
  cases E
  exact q_ireturn dX12_notNow_131 rfl hK
set_option maxRecDepth 100000 in
set_option maxHeartbeats 4000000 in
theorem s_X12_notNow_130 {l : Launch} {G : mG} {Q : Option Value → mH → Prop} {X : String → mH → Prop} (h : mH) {o : Int32 × mH} (E : g_X12_notNow_130  h = some o) (hK : (fiI Q) o) : mW l G m_X12_notNow 4 0 0 130 [none, none, none] [] h Q X := by
  unfold g_X12_notNow_130 at E
  refine q_iconst dX12_notNow_130 ?_
  exact r_fewer [none, none, none] (ls_n (ls_n (ls_n ls_0))) (s_X12_notNow_131 (Int32.ofInt 1) h E hK)
set_option maxRecDepth 100000 in
set_option maxHeartbeats 4000000 in
theorem s_X12_notNow_192 {l : Launch} {G : mG} {Q : Option Value → mH → Prop} {X : String → mH → Prop} (s0 : Int32) (h : mH) {o : Int32 × mH} (E : g_X12_notNow_192 s0 h = some o) (hK : (fiI Q) o) : mW l G m_X12_notNow 4 0 0 192 [none, none, none] [.int s0] h Q X := by
  unfold g_X12_notNow_192 at E
  cases E
  exact q_ireturn dX12_notNow_192 rfl hK
set_option maxRecDepth 100000 in
set_option maxHeartbeats 4000000 in
theorem s_X12_notNow_179 {l : Launch} {G : mG} {Q : Option Value → mH → Prop} {X : String → mH → Prop} (p0 : Nat) (v1 : Int32) (h : mH) {o : Int32 × mH} (E : g_X12_notNow_179 p0 v1 h = some o) (hK : (fiI Q) o) : mW l G m_X12_notNow 4 0 0 179 [some (.ref p0), some (.int v1), none] [] h Q X := by
  unfold g_X12_notNow_179 at E
  refine q_aload_n dX12_notNow_179 rfl ?_
  refine q_iload_n dX12_notNow_180 rfl ?_
  replace E := grd_some E
  obtain ⟨g3, E⟩ := E
  replace E := cal_some E
  obtain ⟨x2, h1, hc, E⟩ := E
  refine r_callV1 (mc := 0) (ms := 0) dX12_notNow_181 KX12_250 (c_X12_isWord hc) g3 (by decide) (Nat.le_of_ble_eq_true rfl) (fun _ _ q => q.elim) ?_
  rintro _ _ ⟨rfl, rfl⟩
  clear hc
  refine q_if_eq (tgt := 191) dX12_notNow_184 (by decide) (fun z4 => ?_) (fun z4 => ?_)
  · replace E := ite_t E z4
    refine q_iconst dX12_notNow_191 ?_
    exact r_fewer [none, none, none] (ls_n (ls_n (ls_n ls_0))) (s_X12_notNow_192 (Int32.ofInt 1) h1 E hK)
  · replace E := ite_f E z4
    refine q_iconst dX12_notNow_187 ?_
    refine q_goto (tgt := 192) dX12_notNow_188 (by decide) ?_
    exact r_fewer [none, none, none] (ls_n (ls_n (ls_n ls_0))) (s_X12_notNow_192 (Int32.ofInt 0) h1 E hK)
set_option maxRecDepth 100000 in
set_option maxHeartbeats 4000000 in
theorem s_X12_notNow_0 {l : Launch} {G : mG} {Q : Option Value → mH → Prop} {X : String → mH → Prop} (p0 : Nat) (h : mH) {o : Int32 × mH} (E : f_X12_notNow p0 h = some o) (hK : (fiI Q) o) : mW l G m_X12_notNow 4 0 0 0 [some (.ref p0), none, none] [] h Q X := by
  unfold f_X12_notNow at E
  refine q_aload_n dX12_notNow_0 rfl ?_
  replace E := grd_some E
  obtain ⟨g1, E⟩ := E
  replace E := orf_some E
  obtain ⟨a2, ea2, E⟩ := E
  refine r_getR dX12_notNow_1 FX12_114 g1 ea2 ?_
  refine q_iconst dX12_notNow_4 ?_
  replace E := grd_some E
  obtain ⟨g3, E⟩ := E
  replace E := grd_some E
  obtain ⟨g4, E⟩ := E
  refine r_iaload dX12_notNow_5 g3 g4 ?_
  replace E := bnd_x E
  obtain ⟨x5, ex5, E⟩ := E
  refine r_istore_n dX12_notNow_6 (by decide) ex5 (ls' := [some (.ref p0), some (.int x5), none]) rfl ?_
  refine q_aload_n dX12_notNow_7 rfl ?_
  refine r_getR dX12_notNow_8 FX12_114 g1 ea2 ?_
  refine q_iconst dX12_notNow_11 ?_
  replace E := grd_some E
  obtain ⟨g7, E⟩ := E
  refine r_iaload dX12_notNow_12 g3 g7 ?_
  replace E := bnd_x E
  obtain ⟨x8, ex8, E⟩ := E
  refine r_istore_n dX12_notNow_13 (by decide) ex8 (ls' := [some (.ref p0), some (.int x5), some (.int x8)]) rfl ?_
  refine q_aload_n dX12_notNow_14 rfl ?_
  refine r_getI dX12_notNow_15 FX12_382 g1 ?_
  by_cases z30 : (gi h p0 48) = (Int32.ofInt 100)
  · replace E := ite_t E z30
    refine r_tableIn (tgt := 167) (Int32.ofInt 100) dX12_notNow_18 z30 (by decide) (by decide) (by rfl) (by decide) ?_
    refine q_aload_n dX12_notNow_167 rfl ?_
    refine q_iload_n dX12_notNow_168 rfl ?_
    replace E := cal_some E
    obtain ⟨x10, h9, hc, E⟩ := E
    refine r_callV1 (mc := 0) (ms := 0) dX12_notNow_169 KX12_230 (c_X12_notRemove hc) g1 (by decide) (Nat.le_of_ble_eq_true rfl) (fun _ _ q => q.elim) ?_
    rintro _ _ ⟨rfl, rfl⟩
    clear hc
    cases E
    exact q_ireturn dX12_notNow_172 rfl hK
  replace E := ite_f E z30
  by_cases z31 : (gi h p0 48) = (Int32.ofInt 101)
  · replace E := ite_t E z31
    refine r_tableIn (tgt := 179) (Int32.ofInt 101) dX12_notNow_18 z31 (by decide) (by decide) (by rfl) (by decide) ?_
    exact r_fewer [some (.ref p0), some (.int x5), none] (ls_s (ls_s (ls_n ls_0))) (s_X12_notNow_179 p0 x5 h E hK)
  replace E := ite_f E z31
  by_cases z32 : (gi h p0 48) = (Int32.ofInt 102)
  · replace E := ite_t E z32
    refine r_tableIn (tgt := 179) (Int32.ofInt 102) dX12_notNow_18 z32 (by decide) (by decide) (by rfl) (by decide) ?_
    exact r_fewer [some (.ref p0), some (.int x5), none] (ls_s (ls_s (ls_n ls_0))) (s_X12_notNow_179 p0 x5 h E hK)
  replace E := ite_f E z32
  by_cases z33 : (gi h p0 48) = (Int32.ofInt 103)
  · replace E := ite_t E z33
    refine r_tableIn (tgt := 179) (Int32.ofInt 103) dX12_notNow_18 z33 (by decide) (by decide) (by rfl) (by decide) ?_
    exact r_fewer [some (.ref p0), some (.int x5), none] (ls_s (ls_s (ls_n ls_0))) (s_X12_notNow_179 p0 x5 h E hK)
  replace E := ite_f E z33
  by_cases z34 : (gi h p0 48) = (Int32.ofInt 104)
  · replace E := ite_t E z34
    refine r_tableIn (tgt := 179) (Int32.ofInt 104) dX12_notNow_18 z34 (by decide) (by decide) (by rfl) (by decide) ?_
    exact r_fewer [some (.ref p0), some (.int x5), none] (ls_s (ls_s (ls_n ls_0))) (s_X12_notNow_179 p0 x5 h E hK)
  replace E := ite_f E z34
  by_cases z35 : (gi h p0 48) = (Int32.ofInt 105)
  · replace E := ite_t E z35
    refine r_tableIn (tgt := 179) (Int32.ofInt 105) dX12_notNow_18 z35 (by decide) (by decide) (by rfl) (by decide) ?_
    exact r_fewer [some (.ref p0), some (.int x5), none] (ls_s (ls_s (ls_n ls_0))) (s_X12_notNow_179 p0 x5 h E hK)
  replace E := ite_f E z35
  by_cases z36 : (gi h p0 48) = (Int32.ofInt 106)
  · replace E := ite_t E z36
    refine r_tableIn (tgt := 179) (Int32.ofInt 106) dX12_notNow_18 z36 (by decide) (by decide) (by rfl) (by decide) ?_
    exact r_fewer [some (.ref p0), some (.int x5), none] (ls_s (ls_s (ls_n ls_0))) (s_X12_notNow_179 p0 x5 h E hK)
  replace E := ite_f E z36
  by_cases z37 : (gi h p0 48) = (Int32.ofInt 107)
  · replace E := ite_t E z37
    refine r_tableIn (tgt := 179) (Int32.ofInt 107) dX12_notNow_18 z37 (by decide) (by decide) (by rfl) (by decide) ?_
    exact r_fewer [some (.ref p0), some (.int x5), none] (ls_s (ls_s (ls_n ls_0))) (s_X12_notNow_179 p0 x5 h E hK)
  replace E := ite_f E z37
  by_cases z38 : (gi h p0 48) = (Int32.ofInt 108)
  · replace E := ite_t E z38
    refine r_tableIn (tgt := 179) (Int32.ofInt 108) dX12_notNow_18 z38 (by decide) (by decide) (by rfl) (by decide) ?_
    exact r_fewer [some (.ref p0), some (.int x5), none] (ls_s (ls_s (ls_n ls_0))) (s_X12_notNow_179 p0 x5 h E hK)
  replace E := ite_f E z38
  by_cases z39 : (gi h p0 48) = (Int32.ofInt 109)
  · replace E := ite_t E z39
    refine r_tableIn (tgt := 179) (Int32.ofInt 109) dX12_notNow_18 z39 (by decide) (by decide) (by rfl) (by decide) ?_
    exact r_fewer [some (.ref p0), some (.int x5), none] (ls_s (ls_s (ls_n ls_0))) (s_X12_notNow_179 p0 x5 h E hK)
  replace E := ite_f E z39
  by_cases z40 : (gi h p0 48) = (Int32.ofInt 110)
  · replace E := ite_t E z40
    refine r_tableIn (tgt := 179) (Int32.ofInt 110) dX12_notNow_18 z40 (by decide) (by decide) (by rfl) (by decide) ?_
    exact r_fewer [some (.ref p0), some (.int x5), none] (ls_s (ls_s (ls_n ls_0))) (s_X12_notNow_179 p0 x5 h E hK)
  replace E := ite_f E z40
  by_cases z41 : (gi h p0 48) = (Int32.ofInt 111)
  · replace E := ite_t E z41
    refine r_tableIn (tgt := 139) (Int32.ofInt 111) dX12_notNow_18 z41 (by decide) (by decide) (by rfl) (by decide) ?_
    refine q_aload_n dX12_notNow_139 rfl ?_
    refine q_iload_n dX12_notNow_140 rfl ?_
    refine q_iload_n dX12_notNow_141 rfl ?_
    refine q_aload_n dX12_notNow_142 rfl ?_
    refine r_getR dX12_notNow_143 FX12_114 g1 ea2 ?_
    refine q_iconst dX12_notNow_146 ?_
    replace E := grd_some E
    obtain ⟨g12, E⟩ := E
    refine r_iaload dX12_notNow_147 g3 g12 ?_
    refine q_iconst dX12_notNow_148 ?_
    replace E := cal_some E
    obtain ⟨x14, h13, hc, E⟩ := E
    refine r_callV4 (mc := 0) (ms := 0) dX12_notNow_149 KX12_217 (c_X12_notTwo hc) g1 (by decide) (Nat.le_of_ble_eq_true rfl) (fun _ _ q => q.elim) ?_
    rintro _ _ ⟨rfl, rfl⟩
    clear hc
    cases E
    exact q_ireturn dX12_notNow_152 rfl hK
  replace E := ite_f E z41
  by_cases z42 : (gi h p0 48) = (Int32.ofInt 112)
  · replace E := ite_t E z42
    refine r_tableIn (tgt := 179) (Int32.ofInt 112) dX12_notNow_18 z42 (by decide) (by decide) (by rfl) (by decide) ?_
    exact r_fewer [some (.ref p0), some (.int x5), none] (ls_s (ls_s (ls_n ls_0))) (s_X12_notNow_179 p0 x5 h E hK)
  replace E := ite_f E z42
  by_cases z43 : (gi h p0 48) = (Int32.ofInt 113)
  · replace E := ite_t E z43
    refine r_tableIn (tgt := 179) (Int32.ofInt 113) dX12_notNow_18 z43 (by decide) (by decide) (by rfl) (by decide) ?_
    exact r_fewer [some (.ref p0), some (.int x5), none] (ls_s (ls_s (ls_n ls_0))) (s_X12_notNow_179 p0 x5 h E hK)
  replace E := ite_f E z43
  by_cases z44 : (gi h p0 48) = (Int32.ofInt 114)
  · replace E := ite_t E z44
    refine r_tableIn (tgt := 132) (Int32.ofInt 114) dX12_notNow_18 z44 (by decide) (by decide) (by rfl) (by decide) ?_
    refine q_aload_n dX12_notNow_132 rfl ?_
    refine q_iload_n dX12_notNow_133 rfl ?_
    refine q_iload_n dX12_notNow_134 rfl ?_
    replace E := cal_some E
    obtain ⟨x16, h15, hc, E⟩ := E
    refine r_callV2 (mc := 0) (ms := 0) dX12_notNow_135 KX12_224 (c_X12_notRepeat hc) g1 (by decide) (Nat.le_of_ble_eq_true rfl) (fun _ _ q => q.elim) ?_
    rintro _ _ ⟨rfl, rfl⟩
    clear hc
    cases E
    exact q_ireturn dX12_notNow_138 rfl hK
  replace E := ite_f E z44
  by_cases z45 : (gi h p0 48) = (Int32.ofInt 115)
  · replace E := ite_t E z45
    refine r_tableIn (tgt := 112) (Int32.ofInt 115) dX12_notNow_18 z45 (by decide) (by decide) (by rfl) (by decide) ?_
    refine q_iload_n dX12_notNow_112 rfl ?_
    replace E := cal_some E
    obtain ⟨x18, h17, hc, E⟩ := E
    refine r_callS1 (mc := 0) (ms := 0) dX12_notNow_113 KX12_136 (c_X12_isSlot hc) (by decide) (Nat.le_of_ble_eq_true rfl) (fun _ _ q => q.elim) ?_
    rintro _ _ ⟨rfl, rfl⟩
    clear hc
    refine q_if_eq (tgt := 130) dX12_notNow_116 (by decide) (fun z19 => ?_) (fun z19 => ?_)
    · replace E := ite_t E z19
      exact r_fewer [none, none, none] (ls_n (ls_n (ls_n ls_0))) (s_X12_notNow_130 h17 E hK)
    · replace E := ite_f E z19
      refine q_aload_n dX12_notNow_119 rfl ?_
      replace E := grd_some E
      obtain ⟨g22, E⟩ := E
      replace E := cal_some E
      obtain ⟨x21, h20, hc, E⟩ := E
      refine r_callV0 (mc := 0) (ms := 0) dX12_notNow_120 KX12_202 (c_X12_isTooLarge hc) g22 (by decide) (Nat.le_of_ble_eq_true rfl) (fun _ _ q => q.elim) ?_
      rintro _ _ ⟨rfl, rfl⟩
      clear hc
      refine q_if_ne (tgt := 130) dX12_notNow_123 (by decide) (fun z23 => ?_) (fun z23 => ?_)
      · replace E := ite_f E z23
        exact r_fewer [none, none, none] (ls_n (ls_n (ls_n ls_0))) (s_X12_notNow_130 h20 E hK)
      · replace E := ite_t E z23
        refine q_iconst dX12_notNow_126 ?_
        refine q_goto (tgt := 131) dX12_notNow_127 (by decide) ?_
        exact r_fewer [none, none, none] (ls_n (ls_n (ls_n ls_0))) (s_X12_notNow_131 (Int32.ofInt 0) h20 E hK)
  replace E := ite_f E z45
  by_cases z46 : (gi h p0 48) = (Int32.ofInt 116)
  · replace E := ite_t E z46
    refine r_tableIn (tgt := 153) (Int32.ofInt 116) dX12_notNow_18 z46 (by decide) (by decide) (by rfl) (by decide) ?_
    refine q_aload_n dX12_notNow_153 rfl ?_
    refine q_iload_n dX12_notNow_154 rfl ?_
    refine q_iload_n dX12_notNow_155 rfl ?_
    refine q_aload_n dX12_notNow_156 rfl ?_
    refine r_getR dX12_notNow_157 FX12_114 g1 ea2 ?_
    refine q_iconst dX12_notNow_160 ?_
    replace E := grd_some E
    obtain ⟨g25, E⟩ := E
    refine r_iaload dX12_notNow_161 g3 g25 ?_
    refine q_iconst dX12_notNow_162 ?_
    replace E := cal_some E
    obtain ⟨x27, h26, hc, E⟩ := E
    refine r_callV4 (mc := 0) (ms := 0) dX12_notNow_163 KX12_217 (c_X12_notTwo hc) g1 (by decide) (Nat.le_of_ble_eq_true rfl) (fun _ _ q => q.elim) ?_
    rintro _ _ ⟨rfl, rfl⟩
    clear hc
    cases E
    exact q_ireturn dX12_notNow_166 rfl hK
  replace E := ite_f E z46
  by_cases z47 : (gi h p0 48) = (Int32.ofInt 117)
  · replace E := ite_t E z47
    refine r_tableIn (tgt := 179) (Int32.ofInt 117) dX12_notNow_18 z47 (by decide) (by decide) (by rfl) (by decide) ?_
    exact r_fewer [some (.ref p0), some (.int x5), none] (ls_s (ls_s (ls_n ls_0))) (s_X12_notNow_179 p0 x5 h E hK)
  replace E := ite_f E z47
  by_cases z48 : (gi h p0 48) = (Int32.ofInt 118)
  · replace E := ite_t E z48
    refine r_tableIn (tgt := 179) (Int32.ofInt 118) dX12_notNow_18 z48 (by decide) (by decide) (by rfl) (by decide) ?_
    exact r_fewer [some (.ref p0), some (.int x5), none] (ls_s (ls_s (ls_n ls_0))) (s_X12_notNow_179 p0 x5 h E hK)
  replace E := ite_f E z48
  by_cases z49 : (gi h p0 48) = (Int32.ofInt 119)
  · replace E := ite_t E z49
    refine r_tableIn (tgt := 173) (Int32.ofInt 119) dX12_notNow_18 z49 (by decide) (by decide) (by rfl) (by decide) ?_
    refine q_aload_n dX12_notNow_173 rfl ?_
    refine q_iconst dX12_notNow_174 ?_
    replace E := cal_some E
    obtain ⟨x29, h28, hc, E⟩ := E
    refine r_callV1 (mc := 0) (ms := 0) dX12_notNow_175 KX12_243 (c_X12_notWord hc) g1 (by decide) (Nat.le_of_ble_eq_true rfl) (fun _ _ q => q.elim) ?_
    rintro _ _ ⟨rfl, rfl⟩
    clear hc
    cases E
    exact q_ireturn dX12_notNow_178 rfl hK
  replace E := ite_f E z49
  have nz30 : ¬ ((gi h p0 48)).toInt = 100 := lv_neT z30 (by decide)
  have nz31 : ¬ ((gi h p0 48)).toInt = 101 := lv_neT z31 (by decide)
  have nz32 : ¬ ((gi h p0 48)).toInt = 102 := lv_neT z32 (by decide)
  have nz33 : ¬ ((gi h p0 48)).toInt = 103 := lv_neT z33 (by decide)
  have nz34 : ¬ ((gi h p0 48)).toInt = 104 := lv_neT z34 (by decide)
  have nz35 : ¬ ((gi h p0 48)).toInt = 105 := lv_neT z35 (by decide)
  have nz36 : ¬ ((gi h p0 48)).toInt = 106 := lv_neT z36 (by decide)
  have nz37 : ¬ ((gi h p0 48)).toInt = 107 := lv_neT z37 (by decide)
  have nz38 : ¬ ((gi h p0 48)).toInt = 108 := lv_neT z38 (by decide)
  have nz39 : ¬ ((gi h p0 48)).toInt = 109 := lv_neT z39 (by decide)
  have nz40 : ¬ ((gi h p0 48)).toInt = 110 := lv_neT z40 (by decide)
  have nz41 : ¬ ((gi h p0 48)).toInt = 111 := lv_neT z41 (by decide)
  have nz42 : ¬ ((gi h p0 48)).toInt = 112 := lv_neT z42 (by decide)
  have nz43 : ¬ ((gi h p0 48)).toInt = 113 := lv_neT z43 (by decide)
  have nz44 : ¬ ((gi h p0 48)).toInt = 114 := lv_neT z44 (by decide)
  have nz45 : ¬ ((gi h p0 48)).toInt = 115 := lv_neT z45 (by decide)
  have nz46 : ¬ ((gi h p0 48)).toInt = 116 := lv_neT z46 (by decide)
  have nz47 : ¬ ((gi h p0 48)).toInt = 117 := lv_neT z47 (by decide)
  have nz48 : ¬ ((gi h p0 48)).toInt = 118 := lv_neT z48 (by decide)
  have nz49 : ¬ ((gi h p0 48)).toInt = 119 := lv_neT z49 (by decide)
  refine r_tableOut (tgt := 179) dX12_notNow_18 (by omega) (by decide) ?_
  exact r_fewer [some (.ref p0), some (.int x5), none] (ls_s (ls_s (ls_n ls_0))) (s_X12_notNow_179 p0 x5 h E hK)
theorem c_X12_notNow {l : Launch} {G : mG} {p0 : Nat} {h h' : mH} {r : Int32} (E : f_X12_notNow p0 h = some (r, h')) : mMet l G m_X12_notNow 4 0 0 [.ref p0] h (fun v k => v = some (.int r) ∧ h' = k) (fun _ _ => False) :=
  mMet_of (by decide +kernel) rfl (ac_c rfl ac_0) (Nat.le_of_ble_eq_true rfl) (s_X12_notNow_0 p0 h E (And.intro rfl rfl))
set_option maxRecDepth 100000 in
set_option maxHeartbeats 4000000 in
theorem s_X12_doesNow_0 {l : Launch} {G : mG} {Q : Option Value → mH → Prop} {X : String → mH → Prop} (p0 : Nat) (h : mH) {o : Int32 × mH} (E : f_X12_doesNow p0 h = some o) (hK : (fiI Q) o) : mW l G m_X12_doesNow 3 0 0 0 [some (.ref p0), none] [] h Q X := by
  unfold f_X12_doesNow at E
  refine q_aload_n dX12_doesNow_0 rfl ?_
  replace E := grd_some E
  obtain ⟨g1, E⟩ := E
  replace E := orf_some E
  obtain ⟨a2, ea2, E⟩ := E
  refine r_getR dX12_doesNow_1 FX12_114 g1 ea2 ?_
  refine q_iconst dX12_doesNow_4 ?_
  replace E := grd_some E
  obtain ⟨g3, E⟩ := E
  replace E := grd_some E
  obtain ⟨g4, E⟩ := E
  refine r_iaload dX12_doesNow_5 g3 g4 ?_
  replace E := bnd_x E
  obtain ⟨x5, ex5, E⟩ := E
  refine r_istore_n dX12_doesNow_6 (by decide) ex5 (ls' := [some (.ref p0), some (.int x5)]) rfl ?_
  refine q_aload_n dX12_doesNow_7 rfl ?_
  refine r_getI dX12_doesNow_8 FX12_382 g1 ?_
  by_cases z14 : (gi h p0 48) = (Int32.ofInt 99)
  · replace E := ite_t E z14
    refine r_lookupV (off := 44) (tgt := 55) (Int32.ofInt 99) dX12_doesNow_11 z14 (by decide) (by decide) (by decide) ?_
    refine q_aload_n dX12_doesNow_55 rfl ?_
    refine q_iload_n dX12_doesNow_56 rfl ?_
    replace E := cal_some E
    obtain ⟨x7, h6, hc, E⟩ := E
    refine r_callV1 (mc := 0) (ms := 0) dX12_doesNow_57 KX12_253 (c_X12_cuts hc) g1 (by decide) (Nat.le_of_ble_eq_true rfl) (fun _ _ q => q.elim) ?_
    rintro _ _ ⟨rfl, rfl⟩
    clear hc
    cases E
    exact q_ireturn dX12_doesNow_60 rfl hK
  replace E := ite_f E z14
  by_cases z15 : (gi h p0 48) = (Int32.ofInt 100)
  · replace E := ite_t E z15
    refine r_lookupV (off := 33) (tgt := 44) (Int32.ofInt 100) dX12_doesNow_11 z15 (by decide) (by decide) (by decide) ?_
    refine q_aload_n dX12_doesNow_44 rfl ?_
    refine q_iload_n dX12_doesNow_45 rfl ?_
    replace E := cal_some E
    obtain ⟨x9, h8, hc, E⟩ := E
    refine r_callV1 (mc := 0) (ms := 0) dX12_doesNow_46 KX12_233 (c_X12_removes hc) g1 (by decide) (Nat.le_of_ble_eq_true rfl) (fun _ _ q => q.elim) ?_
    rintro _ _ ⟨rfl, rfl⟩
    clear hc
    cases E
    exact q_ireturn dX12_doesNow_49 rfl hK
  replace E := ite_f E z15
  by_cases z16 : (gi h p0 48) = (Int32.ofInt 119)
  · replace E := ite_t E z16
    refine r_lookupV (off := 39) (tgt := 50) (Int32.ofInt 119) dX12_doesNow_11 z16 (by decide) (by decide) (by decide) ?_
    refine q_aload_n dX12_doesNow_50 rfl ?_
    replace E := cal_some E
    obtain ⟨x11, h10, hc, E⟩ := E
    refine r_callV0 (mc := 0) (ms := 0) dX12_doesNow_51 KX12_247 (c_X12_addsWord hc) g1 (by decide) (Nat.le_of_ble_eq_true rfl) (fun _ _ q => q.elim) ?_
    rintro _ _ ⟨rfl, rfl⟩
    clear hc
    cases E
    exact q_ireturn dX12_doesNow_54 rfl hK
  replace E := ite_f E z16
  refine r_lookup (off := 50) (tgt := 61) dX12_doesNow_11 (by decide) (Eq.trans (lv_osw z14 rfl) (Eq.trans (lv_osw z15 rfl) (Eq.trans (lv_osw z16 rfl) rfl))) (by decide) ?_
  refine q_aload_n dX12_doesNow_61 rfl ?_
  refine q_iload_n dX12_doesNow_62 rfl ?_
  replace E := cal_some E
  obtain ⟨x13, h12, hc, E⟩ := E
  refine r_callV1 (mc := 0) (ms := 0) dX12_doesNow_63 KX12_208 (c_X12_lays hc) g1 (by decide) (Nat.le_of_ble_eq_true rfl) (fun _ _ q => q.elim) ?_
  rintro _ _ ⟨rfl, rfl⟩
  clear hc
  cases E
  exact q_ireturn dX12_doesNow_66 rfl hK
theorem c_X12_doesNow {l : Launch} {G : mG} {p0 : Nat} {h h' : mH} {r : Int32} (E : f_X12_doesNow p0 h = some (r, h')) : mMet l G m_X12_doesNow 3 0 0 [.ref p0] h (fun v k => v = some (.int r) ∧ h' = k) (fun _ _ => False) :=
  mMet_of (by decide +kernel) rfl (ac_c rfl ac_0) (Nat.le_of_ble_eq_true rfl) (s_X12_doesNow_0 p0 h E (And.intro rfl rfl))
set_option maxRecDepth 100000 in
set_option maxHeartbeats 4000000 in
theorem sb_X12_doesAll_12 {l : Launch} {G : mG} {Q : Option Value → mH → Prop} {X : String → mH → Prop} (p0 : Nat) (v1 : Int32) (h : mH) {o : ((Int32 × mH) ⊕ (Int32 × mH))} (E : b0_X12_doesAll_12 p0 v1 h = some o) (hK : (lpK (w_X12_doesAll_12 l G Q X p0) (fiI Q)) o) : mW l G m_X12_doesAll 6 0 0 12 [some (.ref p0), some (.int v1)] [] h Q X := by
  unfold b0_X12_doesAll_12 at E
  refine q_iload_n dX12_doesAll_12 rfl ?_
  refine q_if_eq (tgt := 55) dX12_doesAll_13 (by decide) (fun z1 => ?_) (fun z1 => ?_)
  · replace E := ite_t E z1
    refine q_iconst dX12_doesAll_55 ?_
    cases E
    exact q_zreturn dX12_doesAll_56 rfl (by decide) hK
  · replace E := ite_f E z1
    refine q_aload_n dX12_doesAll_16 rfl ?_
    replace E := grd_some E
    obtain ⟨g4, E⟩ := E
    replace E := cal_some E
    obtain ⟨x3, h2, hc, E⟩ := E
    refine r_callV0 (mc := 0) (ms := 0) dX12_doesAll_17 KX12_394 (c_X12_readsCommand hc) g4 (by decide) (Nat.le_of_ble_eq_true rfl) (fun _ _ q => q.elim) ?_
    rintro _ _ ⟨rfl, rfl⟩
    clear hc
    refine q_pop dX12_doesAll_20 ?_
    refine q_aload_n dX12_doesAll_21 rfl ?_
    replace E := grd_some E
    obtain ⟨g7, E⟩ := E
    replace E := cal_some E
    obtain ⟨x6, h5, hc, E⟩ := E
    refine r_callV0 (mc := 0) (ms := 0) dX12_doesAll_22 KX12_400 (c_X12_notNow hc) g7 (by decide) (Nat.le_of_ble_eq_true rfl) (fun _ _ q => q.elim) ?_
    rintro _ _ ⟨rfl, rfl⟩
    clear hc
    refine q_if_eq (tgt := 30) dX12_doesAll_25 (by decide) (fun z8 => ?_) (fun z8 => ?_)
    · replace E := ite_t E z8
      refine q_aload_n dX12_doesAll_30 rfl ?_
      replace E := grd_some E
      obtain ⟨g11, E⟩ := E
      replace E := cal_some E
      obtain ⟨x10, h9, hc, E⟩ := E
      refine r_callV0 (mc := 0) (ms := 0) dX12_doesAll_31 KX12_403 (c_X12_doesNow hc) g11 (by decide) (Nat.le_of_ble_eq_true rfl) (fun _ _ q => q.elim) ?_
      rintro _ _ ⟨rfl, rfl⟩
      clear hc
      refine q_pop dX12_doesAll_34 ?_
      refine q_aload_n dX12_doesAll_35 rfl ?_
      refine q_dup dX12_doesAll_36 ?_
      replace E := grd_some E
      obtain ⟨g12, E⟩ := E
      refine r_getI dX12_doesAll_37 FX12_397 g12 ?_
      refine q_iconst dX12_doesAll_40 ?_
      refine q_iadd dX12_doesAll_41 ?_
      replace E := bnd_x E
      obtain ⟨h13, eh13, E⟩ := E
      refine r_putI (hh := eh13) dX12_doesAll_42 FX12_397 g12 rfl rfl ?_
      refine q_aload_n dX12_doesAll_45 rfl ?_
      refine q_bipush (v := (Int32.ofInt 59)) dX12_doesAll_46 (by decide) ?_
      replace E := grd_some E
      obtain ⟨g16, E⟩ := E
      replace E := cal_some E
      obtain ⟨x15, h14, hc, E⟩ := E
      refine r_callV1 (mc := 0) (ms := 0) dX12_doesAll_48 KX12_183 (c_X12_reads hc) g16 (by decide) (Nat.le_of_ble_eq_true rfl) (fun _ _ q => q.elim) ?_
      rintro _ _ ⟨rfl, rfl⟩
      clear hc
      refine r_istore_n dX12_doesAll_51 (by decide) rfl (ls' := [some (.ref p0), some (.int x15)]) rfl ?_
      refine q_goto (tgt := 12) dX12_doesAll_52 (by decide) ?_
      cases E
      exact r_fewer [some (.ref p0), some (.int x15)] (ls_s (ls_s ls_0)) hK
    · replace E := ite_f E z8
      refine q_iconst dX12_doesAll_28 ?_
      cases E
      exact q_zreturn dX12_doesAll_29 rfl (by decide) hK
theorem s_X12_doesAll_12 {l : Launch} {G : mG} {Q : Option Value → mH → Prop} {X : String → mH → Prop} (p0 : Nat) (v1 : Int32) (h : mH) {o : Int32 × mH} (E : g_X12_doesAll_12 p0 v1 h = some o) (hK : (fiI Q) o) : mW l G m_X12_doesAll 6 0 0 12 [some (.ref p0), some (.int v1)] [] h Q X :=
  (lp_go (w_X12_doesAll_12 l G Q X p0) (fiI Q) (b_X12_doesAll_12 p0) (fun s o E hK => sb_X12_doesAll_12 p0 s.1 (s.2) E hK) _ _ _ E hK : w_X12_doesAll_12 l G Q X p0 (v1, h))
set_option maxRecDepth 100000 in
set_option maxHeartbeats 4000000 in
theorem s_X12_doesAll_0 {l : Launch} {G : mG} {Q : Option Value → mH → Prop} {X : String → mH → Prop} (p0 : Nat) (h : mH) {o : Int32 × mH} (E : f_X12_doesAll p0 h = some o) (hK : (fiI Q) o) : mW l G m_X12_doesAll 6 0 0 0 [some (.ref p0), none] [] h Q X := by
  unfold f_X12_doesAll at E
  refine q_aload_n dX12_doesAll_0 rfl ?_
  refine q_iconst dX12_doesAll_1 ?_
  replace E := grd_some E
  obtain ⟨g1, E⟩ := E
  replace E := bnd_x E
  obtain ⟨h2, eh2, E⟩ := E
  refine r_putI (hh := eh2) dX12_doesAll_2 FX12_397 g1 rfl rfl ?_
  refine q_aload_n dX12_doesAll_5 rfl ?_
  refine q_iconst dX12_doesAll_6 ?_
  replace E := grd_some E
  obtain ⟨g3, E⟩ := E
  replace E := bnd_x E
  obtain ⟨h4, eh4, E⟩ := E
  refine r_putI (hh := eh4) dX12_doesAll_7 FX12_162 g3 rfl rfl ?_
  refine q_iconst dX12_doesAll_10 ?_
  refine r_istore_n dX12_doesAll_11 (by decide) rfl (ls' := [some (.ref p0), some (.int (Int32.ofInt 1))]) rfl ?_
  exact r_fewer [some (.ref p0), some (.int (Int32.ofInt 1))] (ls_s (ls_s ls_0)) (s_X12_doesAll_12 p0 (Int32.ofInt 1) h4 E hK)
theorem c_X12_doesAll {l : Launch} {G : mG} {p0 : Nat} {h h' : mH} {r : Int32} (E : f_X12_doesAll p0 h = some (r, h')) : mMet l G m_X12_doesAll 6 0 0 [.ref p0] h (fun v k => v = some (.int r) ∧ h' = k) (fun _ _ => False) :=
  mMet_of (by decide +kernel) rfl (ac_c rfl ac_0) (Nat.le_of_ble_eq_true rfl) (s_X12_doesAll_0 p0 h E (And.intro rfl rfl))
set_option maxRecDepth 100000 in
set_option maxHeartbeats 4000000 in
theorem s_X12_run_0 {l : Launch} {G : mG} {Q : Option Value → mH → Prop} {X : String → mH → Prop} (p0 : Nat) (h : mH) {o : Int32 × mH} (E : f_X12_run p0 h = some o) (hK : (fiI Q) o) : mW l G m_X12_run 7 0 0 0 [some (.ref p0), none] [] h Q X := by
  unfold f_X12_run at E
  refine q_aload_n dX12_run_0 rfl ?_
  refine q_iconst dX12_run_1 ?_
  replace E := grd_some E
  obtain ⟨g1, E⟩ := E
  replace E := bnd_x E
  obtain ⟨h2, eh2, E⟩ := E
  refine r_putI (hh := eh2) dX12_run_2 FX12_117 g1 rfl rfl ?_
  refine q_aload_n dX12_run_5 rfl ?_
  replace E := grd_some E
  obtain ⟨g5, E⟩ := E
  replace E := cal_some E
  obtain ⟨x4, h3, hc, E⟩ := E
  refine r_callV0 (mc := 0) (ms := 0) dX12_run_6 KX12_406 (c_X12_readsAll hc) g5 (by decide) (Nat.le_of_ble_eq_true rfl) (fun _ _ q => q.elim) ?_
  rintro _ _ ⟨rfl, rfl⟩
  clear hc
  refine q_if_ne (tgt := 31) dX12_run_9 (by decide) (fun z6 => ?_) (fun z6 => ?_)
  · replace E := ite_f E z6
    refine q_aload_n dX12_run_31 rfl ?_
    replace E := grd_some E
    obtain ⟨g9, E⟩ := E
    replace E := cal_some E
    obtain ⟨_, h7, hc, E⟩ := E
    refine r_callV0 (mc := 0) (ms := 0) dX12_run_32 KX12_126 (c_X12_copies hc) g9 (by decide) (Nat.le_of_ble_eq_true rfl) (fun _ _ q => q.elim) ?_
    rintro _ _ ⟨rfl, rfl⟩
    clear hc
    refine q_aload_n dX12_run_35 rfl ?_
    replace E := grd_some E
    obtain ⟨g12, E⟩ := E
    replace E := cal_some E
    obtain ⟨x11, h10, hc, E⟩ := E
    refine r_callV0 (mc := 0) (ms := 0) dX12_run_36 KX12_409 (c_X12_doesAll hc) g12 (by decide) (Nat.le_of_ble_eq_true rfl) (fun _ _ q => q.elim) ?_
    rintro _ _ ⟨rfl, rfl⟩
    clear hc
    refine r_istore_n dX12_run_39 (by decide) rfl (ls' := [some (.ref p0), some (.int x11)]) rfl ?_
    refine q_aload_n dX12_run_40 rfl ?_
    refine q_iconst dX12_run_41 ?_
    replace E := grd_some E
    obtain ⟨g13, E⟩ := E
    replace E := bnd_x E
    obtain ⟨h14, eh14, E⟩ := E
    refine r_putI (hh := eh14) dX12_run_42 FX12_165 g13 rfl rfl ?_
    refine q_iload_n dX12_run_45 rfl ?_
    refine q_if_eq (tgt := 58) dX12_run_46 (by decide) (fun z15 => ?_) (fun z15 => ?_)
    · replace E := ite_t E z15
      refine q_aload_n dX12_run_58 rfl ?_
      replace E := grd_some E
      obtain ⟨g18, E⟩ := E
      replace E := cal_some E
      obtain ⟨_, h16, hc, E⟩ := E
      refine r_callV0 (mc := 0) (ms := 0) dX12_run_59 KX12_412 (c_X12_goesBack hc) g18 (by decide) (Nat.le_of_ble_eq_true rfl) (fun _ _ q => q.elim) ?_
      rintro _ _ ⟨rfl, rfl⟩
      clear hc
      refine q_aload_n dX12_run_62 rfl ?_
      refine q_aload_n dX12_run_63 rfl ?_
      replace E := grd_some E
      obtain ⟨g19, E⟩ := E
      refine r_getI dX12_run_64 FX12_397 g19 ?_
      replace E := bnd_x E
      obtain ⟨h20, eh20, E⟩ := E
      refine r_putI (hh := eh20) dX12_run_67 FX12_33 g19 rfl rfl ?_
      refine q_aload_n dX12_run_70 rfl ?_
      refine q_iconst dX12_run_71 ?_
      replace E := grd_some E
      obtain ⟨g23, E⟩ := E
      replace E := cal_some E
      obtain ⟨x22, h21, hc, E⟩ := E
      refine r_callV1 (mc := 0) (ms := 0) dX12_run_72 KX12_196 (c_X12_fails hc) g23 (by decide) (Nat.le_of_ble_eq_true rfl) (fun _ _ q => q.elim) ?_
      rintro _ _ ⟨rfl, rfl⟩
      clear hc
      cases E
      exact q_ireturn dX12_run_75 rfl hK
    · replace E := ite_f E z15
      refine q_aload_n dX12_run_49 rfl ?_
      replace E := grd_some E
      obtain ⟨g26, E⟩ := E
      replace E := cal_some E
      obtain ⟨_, h24, hc, E⟩ := E
      refine r_callV0 (mc := 0) (ms := 0) dX12_run_50 KX12_129 (c_X12_keeps hc) g26 (by decide) (Nat.le_of_ble_eq_true rfl) (fun _ _ q => q.elim) ?_
      rintro _ _ ⟨rfl, rfl⟩
      clear hc
      refine q_aload_n dX12_run_53 rfl ?_
      replace E := grd_some E
      obtain ⟨g27, E⟩ := E
      refine r_getI dX12_run_54 FX12_397 g27 ?_
      cases E
      exact q_ireturn dX12_run_57 rfl hK
  · replace E := ite_t E z6
    refine q_aload_n dX12_run_12 rfl ?_
    refine q_aload_n dX12_run_13 rfl ?_
    replace E := grd_some E
    obtain ⟨g28, E⟩ := E
    refine r_getI dX12_run_14 FX12_162 g28 ?_
    replace E := bnd_x E
    obtain ⟨h29, eh29, E⟩ := E
    refine r_putI (hh := eh29) dX12_run_17 FX12_29 g28 rfl rfl ?_
    refine q_aload_n dX12_run_20 rfl ?_
    refine q_iconst dX12_run_21 ?_
    replace E := grd_some E
    obtain ⟨g30, E⟩ := E
    replace E := bnd_x E
    obtain ⟨h31, eh31, E⟩ := E
    refine r_putI (hh := eh31) dX12_run_22 FX12_165 g30 rfl rfl ?_
    refine q_aload_n dX12_run_25 rfl ?_
    refine q_iconst dX12_run_26 ?_
    replace E := grd_some E
    obtain ⟨g34, E⟩ := E
    replace E := cal_some E
    obtain ⟨x33, h32, hc, E⟩ := E
    refine r_callV1 (mc := 0) (ms := 0) dX12_run_27 KX12_196 (c_X12_fails hc) g34 (by decide) (Nat.le_of_ble_eq_true rfl) (fun _ _ q => q.elim) ?_
    rintro _ _ ⟨rfl, rfl⟩
    clear hc
    cases E
    exact q_ireturn dX12_run_30 rfl hK
theorem c_X12_run {l : Launch} {G : mG} {p0 : Nat} {h h' : mH} {r : Int32} (E : f_X12_run p0 h = some (r, h')) : mMet l G m_X12_run 7 0 0 [.ref p0] h (fun v k => v = some (.int r) ∧ h' = k) (fun _ _ => False) :=
  mMet_of (by decide +kernel) rfl (ac_c rfl ac_0) (Nat.le_of_ble_eq_true rfl) (s_X12_run_0 p0 h E (And.intro rfl rfl))
set_option maxRecDepth 100000 in
set_option maxHeartbeats 4000000 in
theorem s_X12_errorPosition_24 {l : Launch} {G : mG} {Q : Option Value → mH → Prop} {X : String → mH → Prop} (s0 : Int32) (h : mH) {o : Int32 × mH} (E : g_X12_errorPosition_24 s0 h = some o) (hK : (fiI Q) o) : mW l G m_X12_errorPosition 1 0 0 24 [none] [.int s0] h Q X := by
  unfold g_X12_errorPosition_24 at E
  cases E
  exact q_ireturn dX12_errorPosition_24 rfl hK
set_option maxRecDepth 100000 in
set_option maxHeartbeats 4000000 in
theorem s_X12_errorPosition_0 {l : Launch} {G : mG} {Q : Option Value → mH → Prop} {X : String → mH → Prop} (p0 : Nat) (h : mH) {o : Int32 × mH} (E : f_X12_errorPosition p0 h = some o) (hK : (fiI Q) o) : mW l G m_X12_errorPosition 1 0 0 0 [some (.ref p0)] [] h Q X := by
  unfold f_X12_errorPosition at E
  refine q_aload_n dX12_errorPosition_0 rfl ?_
  refine q_iconst dX12_errorPosition_1 ?_
  replace E := grd_some E
  obtain ⟨g1, E⟩ := E
  replace E := bnd_x E
  obtain ⟨h2, eh2, E⟩ := E
  refine r_putI (hh := eh2) dX12_errorPosition_2 FX12_117 g1 rfl rfl ?_
  refine q_aload_n dX12_errorPosition_5 rfl ?_
  replace E := grd_some E
  obtain ⟨g3, E⟩ := E
  refine r_getI dX12_errorPosition_6 FX12_29 g3 ?_
  refine q_if_ge (tgt := 20) dX12_errorPosition_9 (by decide) (fun z4 => ?_) (fun z4 => ?_)
  · replace E := ite_t E z4
    refine q_aload_n dX12_errorPosition_20 rfl ?_
    refine r_getI dX12_errorPosition_21 FX12_29 g3 ?_
    exact r_fewer [none] (ls_n ls_0) (s_X12_errorPosition_24 (gi h2 p0 13) h2 E hK)
  · replace E := ite_f E z4
    refine q_aload_n dX12_errorPosition_12 rfl ?_
    refine q_iconst dX12_errorPosition_13 ?_
    replace E := cal_some E
    obtain ⟨x6, h5, hc, E⟩ := E
    refine r_callV1 (mc := 0) (ms := 0) dX12_errorPosition_14 KX12_196 (c_X12_fails hc) g3 (by decide) (Nat.le_of_ble_eq_true rfl) (fun _ _ q => q.elim) ?_
    rintro _ _ ⟨rfl, rfl⟩
    clear hc
    refine q_goto (tgt := 24) dX12_errorPosition_17 (by decide) ?_
    exact r_fewer [none] (ls_n ls_0) (s_X12_errorPosition_24 x6 h5 E hK)
theorem c_X12_errorPosition {l : Launch} {G : mG} {p0 : Nat} {h h' : mH} {r : Int32} (E : f_X12_errorPosition p0 h = some (r, h')) : mMet l G m_X12_errorPosition 1 0 0 [.ref p0] h (fun v k => v = some (.int r) ∧ h' = k) (fun _ _ => False) :=
  mMet_of (by decide +kernel) rfl (ac_c rfl ac_0) (Nat.le_of_ble_eq_true rfl) (s_X12_errorPosition_0 p0 h E (And.intro rfl rfl))
set_option maxRecDepth 100000 in
set_option maxHeartbeats 4000000 in
theorem s_X12_failedCommand_24 {l : Launch} {G : mG} {Q : Option Value → mH → Prop} {X : String → mH → Prop} (s0 : Int32) (h : mH) {o : Int32 × mH} (E : g_X12_failedCommand_24 s0 h = some o) (hK : (fiI Q) o) : mW l G m_X12_failedCommand 1 0 0 24 [none] [.int s0] h Q X := by
  unfold g_X12_failedCommand_24 at E
  cases E
  exact q_ireturn dX12_failedCommand_24 rfl hK
set_option maxRecDepth 100000 in
set_option maxHeartbeats 4000000 in
theorem s_X12_failedCommand_0 {l : Launch} {G : mG} {Q : Option Value → mH → Prop} {X : String → mH → Prop} (p0 : Nat) (h : mH) {o : Int32 × mH} (E : f_X12_failedCommand p0 h = some o) (hK : (fiI Q) o) : mW l G m_X12_failedCommand 1 0 0 0 [some (.ref p0)] [] h Q X := by
  unfold f_X12_failedCommand at E
  refine q_aload_n dX12_failedCommand_0 rfl ?_
  refine q_iconst dX12_failedCommand_1 ?_
  replace E := grd_some E
  obtain ⟨g1, E⟩ := E
  replace E := bnd_x E
  obtain ⟨h2, eh2, E⟩ := E
  refine r_putI (hh := eh2) dX12_failedCommand_2 FX12_117 g1 rfl rfl ?_
  refine q_aload_n dX12_failedCommand_5 rfl ?_
  replace E := grd_some E
  obtain ⟨g3, E⟩ := E
  refine r_getI dX12_failedCommand_6 FX12_33 g3 ?_
  refine q_if_ge (tgt := 20) dX12_failedCommand_9 (by decide) (fun z4 => ?_) (fun z4 => ?_)
  · replace E := ite_t E z4
    refine q_aload_n dX12_failedCommand_20 rfl ?_
    refine r_getI dX12_failedCommand_21 FX12_33 g3 ?_
    exact r_fewer [none] (ls_n ls_0) (s_X12_failedCommand_24 (gi h2 p0 14) h2 E hK)
  · replace E := ite_f E z4
    refine q_aload_n dX12_failedCommand_12 rfl ?_
    refine q_iconst dX12_failedCommand_13 ?_
    replace E := cal_some E
    obtain ⟨x6, h5, hc, E⟩ := E
    refine r_callV1 (mc := 0) (ms := 0) dX12_failedCommand_14 KX12_196 (c_X12_fails hc) g3 (by decide) (Nat.le_of_ble_eq_true rfl) (fun _ _ q => q.elim) ?_
    rintro _ _ ⟨rfl, rfl⟩
    clear hc
    refine q_goto (tgt := 24) dX12_failedCommand_17 (by decide) ?_
    exact r_fewer [none] (ls_n ls_0) (s_X12_failedCommand_24 x6 h5 E hK)
theorem c_X12_failedCommand {l : Launch} {G : mG} {p0 : Nat} {h h' : mH} {r : Int32} (E : f_X12_failedCommand p0 h = some (r, h')) : mMet l G m_X12_failedCommand 1 0 0 [.ref p0] h (fun v k => v = some (.int r) ∧ h' = k) (fun _ _ => False) :=
  mMet_of (by decide +kernel) rfl (ac_c rfl ac_0) (Nat.le_of_ble_eq_true rfl) (s_X12_failedCommand_0 p0 h E (And.intro rfl rfl))
set_option maxRecDepth 100000 in
set_option maxHeartbeats 4000000 in
theorem s_X12_undoableCount_0 {l : Launch} {G : mG} {Q : Option Value → mH → Prop} {X : String → mH → Prop} (p0 : Nat) (h : mH) {o : Int32 × mH} (E : f_X12_undoableCount p0 h = some o) (hK : (fiI Q) o) : mW l G m_X12_undoableCount 0 0 0 0 [some (.ref p0)] [] h Q X := by
  unfold f_X12_undoableCount at E
  refine q_aload_n dX12_undoableCount_0 rfl ?_
  refine q_iconst dX12_undoableCount_1 ?_
  replace E := grd_some E
  obtain ⟨g1, E⟩ := E
  replace E := bnd_x E
  obtain ⟨h2, eh2, E⟩ := E
  refine r_putI (hh := eh2) dX12_undoableCount_2 FX12_117 g1 rfl rfl ?_
  refine q_aload_n dX12_undoableCount_5 rfl ?_
  replace E := grd_some E
  obtain ⟨g3, E⟩ := E
  refine r_getI dX12_undoableCount_6 FX12_120 g3 ?_
  cases E
  exact q_ireturn dX12_undoableCount_9 rfl hK
theorem c_X12_undoableCount {l : Launch} {G : mG} {p0 : Nat} {h h' : mH} {r : Int32} (E : f_X12_undoableCount p0 h = some (r, h')) : mMet l G m_X12_undoableCount 0 0 0 [.ref p0] h (fun v k => v = some (.int r) ∧ h' = k) (fun _ _ => False) :=
  mMet_of (by decide +kernel) rfl (ac_c rfl ac_0) (Nat.le_of_ble_eq_true rfl) (s_X12_undoableCount_0 p0 h E (And.intro rfl rfl))
set_option maxRecDepth 100000 in
set_option maxHeartbeats 4000000 in
theorem sb_X12_undo_43 {l : Launch} {G : mG} {Q : Option Value → mH → Prop} {X : String → mH → Prop} (p0 : Nat) (v1 : Int32) (v2 : Int32) (h : mH) {o : ((Int32 × mH) ⊕ (Int32 × mH))} (E : b0_X12_undo_43 p0 v1 v2 h = some o) (hK : (lpK (w_X12_undo_43 l G Q X p0 v1) (fiI Q)) o) : mW l G m_X12_undo 1 0 0 43 [some (.ref p0), some (.int v1), some (.int v2)] [] h Q X := by
  unfold b0_X12_undo_43 at E
  refine q_iload_n dX12_undo_43 rfl ?_
  refine q_sipush (v := (Int32.ofInt 248)) dX12_undo_44 (by decide) ?_
  refine q_icmp_ge (tgt := 74) dX12_undo_47 (by decide) (fun z1 => ?_) (fun z1 => ?_)
  · replace E := ite_t E z1
    refine q_aload_n dX12_undo_74 rfl ?_
    replace E := grd_some E
    obtain ⟨g2, E⟩ := E
    refine r_getI dX12_undo_75 FX12_120 g2 ?_
    cases E
    exact q_ireturn dX12_undo_78 rfl hK
  · replace E := ite_f E z1
    refine q_aload_n dX12_undo_50 rfl ?_
    replace E := grd_some E
    obtain ⟨g3, E⟩ := E
    replace E := orf_some E
    obtain ⟨a4, ea4, E⟩ := E
    refine r_getR dX12_undo_51 FX12_7 g3 ea4 ?_
    refine q_iload_n dX12_undo_54 rfl ?_
    refine q_aload_n dX12_undo_55 rfl ?_
    replace E := orf_some E
    obtain ⟨a5, ea5, E⟩ := E
    refine r_getR dX12_undo_56 FX12_13 g3 ea5 ?_
    refine q_sipush (v := (Int32.ofInt 248)) dX12_undo_59 (by decide) ?_
    refine q_iload_n dX12_undo_62 rfl ?_
    refine q_imul dX12_undo_63 ?_
    refine q_iload_n dX12_undo_64 rfl ?_
    refine q_iadd dX12_undo_65 ?_
    replace E := grd_some E
    obtain ⟨g6, E⟩ := E
    replace E := grd_some E
    obtain ⟨g7, E⟩ := E
    refine r_iaload dX12_undo_66 g6 g7 ?_
    replace E := grd_some E
    obtain ⟨g9, E⟩ := E
    replace E := grd_some E
    obtain ⟨g10, E⟩ := E
    replace E := bnd_x E
    obtain ⟨h8, eh8, E⟩ := E
    refine r_iastore (hh := eh8) dX12_undo_67 g9 g10 ?_
    replace E := bnd_x E
    obtain ⟨x11, ex11, E⟩ := E
    refine r_iinc (v := x11) dX12_undo_68 rfl ex11 (by decide) (ls' := [some (.ref p0), some (.int v1), some (.int x11)]) rfl ?_
    refine q_goto (tgt := 43) dX12_undo_71 (by decide) ?_
    cases E
    exact r_fewer [some (.ref p0), some (.int v1), some (.int x11)] (ls_s (ls_s (ls_s ls_0))) hK
theorem s_X12_undo_43 {l : Launch} {G : mG} {Q : Option Value → mH → Prop} {X : String → mH → Prop} (p0 : Nat) (v1 : Int32) (v2 : Int32) (h : mH) {o : Int32 × mH} (E : g_X12_undo_43 p0 v1 v2 h = some o) (hK : (fiI Q) o) : mW l G m_X12_undo 1 0 0 43 [some (.ref p0), some (.int v1), some (.int v2)] [] h Q X :=
  (lp_go (w_X12_undo_43 l G Q X p0 v1) (fiI Q) (b_X12_undo_43 p0 v1) (fun s o E hK => sb_X12_undo_43 p0 v1 s.1 (s.2) E hK) _ _ _ E hK : w_X12_undo_43 l G Q X p0 v1 (v2, h))
set_option maxRecDepth 100000 in
set_option maxHeartbeats 4000000 in
theorem s_X12_undo_0 {l : Launch} {G : mG} {Q : Option Value → mH → Prop} {X : String → mH → Prop} (p0 : Nat) (h : mH) {o : Int32 × mH} (E : f_X12_undo p0 h = some o) (hK : (fiI Q) o) : mW l G m_X12_undo 1 0 0 0 [some (.ref p0), none, none] [] h Q X := by
  unfold f_X12_undo at E
  refine q_aload_n dX12_undo_0 rfl ?_
  refine q_iconst dX12_undo_1 ?_
  replace E := grd_some E
  obtain ⟨g1, E⟩ := E
  replace E := bnd_x E
  obtain ⟨h2, eh2, E⟩ := E
  refine r_putI (hh := eh2) dX12_undo_2 FX12_117 g1 rfl rfl ?_
  refine q_aload_n dX12_undo_5 rfl ?_
  replace E := grd_some E
  obtain ⟨g3, E⟩ := E
  refine r_getI dX12_undo_6 FX12_120 g3 ?_
  refine q_if_ne (tgt := 18) dX12_undo_9 (by decide) (fun z4 => ?_) (fun z4 => ?_)
  · replace E := ite_f E z4
    refine q_aload_n dX12_undo_18 rfl ?_
    refine q_dup dX12_undo_19 ?_
    refine r_getI dX12_undo_20 FX12_120 g3 ?_
    refine q_iconst dX12_undo_23 ?_
    refine q_isub dX12_undo_24 ?_
    replace E := bnd_x E
    obtain ⟨h5, eh5, E⟩ := E
    refine r_putI (hh := eh5) dX12_undo_25 FX12_120 g3 rfl rfl ?_
    refine q_aload_n dX12_undo_28 rfl ?_
    replace E := grd_some E
    obtain ⟨g6, E⟩ := E
    refine r_getI dX12_undo_29 FX12_123 g6 ?_
    refine q_aload_n dX12_undo_32 rfl ?_
    refine r_getI dX12_undo_33 FX12_120 g6 ?_
    refine q_iadd dX12_undo_36 ?_
    refine q_bipush (v := (Int32.ofInt 8)) dX12_undo_37 (by decide) ?_
    refine q_irem (by decide) dX12_undo_39 ?_
    replace E := bnd_x E
    obtain ⟨x7, ex7, E⟩ := E
    refine r_istore_n dX12_undo_40 (by decide) ex7 (ls' := [some (.ref p0), some (.int x7), none]) rfl ?_
    refine q_iconst dX12_undo_41 ?_
    refine r_istore_n dX12_undo_42 (by decide) rfl (ls' := [some (.ref p0), some (.int x7), some (.int (Int32.ofInt 0))]) rfl ?_
    exact r_fewer [some (.ref p0), some (.int x7), some (.int (Int32.ofInt 0))] (ls_s (ls_s (ls_s ls_0))) (s_X12_undo_43 p0 x7 (Int32.ofInt 0) h5 E hK)
  · replace E := ite_t E z4
    refine q_aload_n dX12_undo_12 rfl ?_
    refine q_iconst dX12_undo_13 ?_
    replace E := cal_some E
    obtain ⟨x9, h8, hc, E⟩ := E
    refine r_callV1 (mc := 0) (ms := 0) dX12_undo_14 KX12_196 (c_X12_fails hc) g3 (by decide) (Nat.le_of_ble_eq_true rfl) (fun _ _ q => q.elim) ?_
    rintro _ _ ⟨rfl, rfl⟩
    clear hc
    cases E
    exact q_ireturn dX12_undo_17 rfl hK
theorem c_X12_undo {l : Launch} {G : mG} {p0 : Nat} {h h' : mH} {r : Int32} (E : f_X12_undo p0 h = some (r, h')) : mMet l G m_X12_undo 1 0 0 [.ref p0] h (fun v k => v = some (.int r) ∧ h' = k) (fun _ _ => False) :=
  mMet_of (by decide +kernel) rfl (ac_c rfl ac_0) (Nat.le_of_ble_eq_true rfl) (s_X12_undo_0 p0 h E (And.intro rfl rfl))
set_option maxRecDepth 100000 in
set_option maxHeartbeats 4000000 in
theorem sb_X12_save_7 {l : Launch} {G : mG} {Q : Option Value → mH → Prop} {X : String → mH → Prop} (p0 : Nat) (v1 : Int32) (h : mH) {o : ((Int32 × mH) ⊕ (Int32 × mH))} (E : b0_X12_save_7 p0 v1 h = some o) (hK : (lpK (w_X12_save_7 l G Q X p0) (fiI Q)) o) : mW l G m_X12_save 2 0 0 7 [some (.ref p0), some (.int v1)] [] h Q X := by
  unfold b0_X12_save_7 at E
  refine q_iload_n dX12_save_7 rfl ?_
  refine q_sipush (v := (Int32.ofInt 248)) dX12_save_8 (by decide) ?_
  refine q_icmp_ge (tgt := 32) dX12_save_11 (by decide) (fun z1 => ?_) (fun z1 => ?_)
  · replace E := ite_t E z1
    refine q_aload_n dX12_save_32 rfl ?_
    refine q_iconst dX12_save_33 ?_
    replace E := grd_some E
    obtain ⟨g2, E⟩ := E
    replace E := bnd_x E
    obtain ⟨h3, eh3, E⟩ := E
    refine r_putI (hh := eh3) dX12_save_34 FX12_415 g2 (by decide) (by decide) ?_
    refine q_aload_n dX12_save_37 rfl ?_
    replace E := grd_some E
    obtain ⟨g6, E⟩ := E
    replace E := cal_some E
    obtain ⟨x5, h4, hc, E⟩ := E
    refine r_callV0 (mc := 0) (ms := 0) dX12_save_38 KX12_227 (c_X12_patterns hc) g6 (by decide) (Nat.le_of_ble_eq_true rfl) (fun _ _ q => q.elim) ?_
    rintro _ _ ⟨rfl, rfl⟩
    clear hc
    cases E
    exact q_ireturn dX12_save_41 rfl hK
  · replace E := ite_f E z1
    refine q_aload_n dX12_save_14 rfl ?_
    replace E := grd_some E
    obtain ⟨g7, E⟩ := E
    replace E := orf_some E
    obtain ⟨a8, ea8, E⟩ := E
    refine r_getR dX12_save_15 FX12_16 g7 ea8 ?_
    refine q_iload_n dX12_save_18 rfl ?_
    refine q_aload_n dX12_save_19 rfl ?_
    replace E := orf_some E
    obtain ⟨a9, ea9, E⟩ := E
    refine r_getR dX12_save_20 FX12_7 g7 ea9 ?_
    refine q_iload_n dX12_save_23 rfl ?_
    replace E := grd_some E
    obtain ⟨g10, E⟩ := E
    replace E := grd_some E
    obtain ⟨g11, E⟩ := E
    refine r_iaload dX12_save_24 g10 g11 ?_
    replace E := grd_some E
    obtain ⟨g13, E⟩ := E
    replace E := grd_some E
    obtain ⟨g14, E⟩ := E
    replace E := bnd_x E
    obtain ⟨h12, eh12, E⟩ := E
    refine r_iastore (hh := eh12) dX12_save_25 g13 g14 ?_
    replace E := bnd_x E
    obtain ⟨x15, ex15, E⟩ := E
    refine r_iinc (v := x15) dX12_save_26 rfl ex15 (by decide) (ls' := [some (.ref p0), some (.int x15)]) rfl ?_
    refine q_goto (tgt := 7) dX12_save_29 (by decide) ?_
    cases E
    exact r_fewer [some (.ref p0), some (.int x15)] (ls_s (ls_s ls_0)) hK
theorem s_X12_save_7 {l : Launch} {G : mG} {Q : Option Value → mH → Prop} {X : String → mH → Prop} (p0 : Nat) (v1 : Int32) (h : mH) {o : Int32 × mH} (E : g_X12_save_7 p0 v1 h = some o) (hK : (fiI Q) o) : mW l G m_X12_save 2 0 0 7 [some (.ref p0), some (.int v1)] [] h Q X :=
  (lp_go (w_X12_save_7 l G Q X p0) (fiI Q) (b_X12_save_7 p0) (fun s o E hK => sb_X12_save_7 p0 s.1 (s.2) E hK) _ _ _ E hK : w_X12_save_7 l G Q X p0 (v1, h))
set_option maxRecDepth 100000 in
set_option maxHeartbeats 4000000 in
theorem s_X12_save_0 {l : Launch} {G : mG} {Q : Option Value → mH → Prop} {X : String → mH → Prop} (p0 : Nat) (h : mH) {o : Int32 × mH} (E : f_X12_save p0 h = some o) (hK : (fiI Q) o) : mW l G m_X12_save 2 0 0 0 [some (.ref p0), none] [] h Q X := by
  unfold f_X12_save at E
  refine q_aload_n dX12_save_0 rfl ?_
  refine q_iconst dX12_save_1 ?_
  replace E := grd_some E
  obtain ⟨g1, E⟩ := E
  replace E := bnd_x E
  obtain ⟨h2, eh2, E⟩ := E
  refine r_putI (hh := eh2) dX12_save_2 FX12_117 g1 rfl rfl ?_
  refine q_iconst dX12_save_5 ?_
  refine r_istore_n dX12_save_6 (by decide) rfl (ls' := [some (.ref p0), some (.int (Int32.ofInt 0))]) rfl ?_
  exact r_fewer [some (.ref p0), some (.int (Int32.ofInt 0))] (ls_s (ls_s ls_0)) (s_X12_save_7 p0 (Int32.ofInt 0) h2 E hK)
theorem c_X12_save {l : Launch} {G : mG} {p0 : Nat} {h h' : mH} {r : Int32} (E : f_X12_save p0 h = some (r, h')) : mMet l G m_X12_save 2 0 0 [.ref p0] h (fun v k => v = some (.int r) ∧ h' = k) (fun _ _ => False) :=
  mMet_of (by decide +kernel) rfl (ac_c rfl ac_0) (Nat.le_of_ble_eq_true rfl) (s_X12_save_0 p0 h E (And.intro rfl rfl))
set_option maxRecDepth 100000 in
set_option maxHeartbeats 4000000 in
theorem sb_X12_restore_20 {l : Launch} {G : mG} {Q : Option Value → mH → Prop} {X : String → mH → Prop} (p0 : Nat) (v1 : Int32) (h : mH) {o : ((Int32 × mH) ⊕ (Int32 × mH))} (E : b0_X12_restore_20 p0 v1 h = some o) (hK : (lpK (w_X12_restore_20 l G Q X p0) (fiI Q)) o) : mW l G m_X12_restore 2 0 0 20 [some (.ref p0), some (.int v1)] [] h Q X := by
  unfold b0_X12_restore_20 at E
  refine q_iload_n dX12_restore_20 rfl ?_
  refine q_sipush (v := (Int32.ofInt 248)) dX12_restore_21 (by decide) ?_
  refine q_icmp_ge (tgt := 45) dX12_restore_24 (by decide) (fun z1 => ?_) (fun z1 => ?_)
  · replace E := ite_t E z1
    refine q_aload_n dX12_restore_45 rfl ?_
    refine q_iconst dX12_restore_46 ?_
    replace E := grd_some E
    obtain ⟨g2, E⟩ := E
    replace E := bnd_x E
    obtain ⟨h3, eh3, E⟩ := E
    refine r_putI (hh := eh3) dX12_restore_47 FX12_120 g2 rfl rfl ?_
    refine q_aload_n dX12_restore_50 rfl ?_
    refine q_iconst dX12_restore_51 ?_
    replace E := grd_some E
    obtain ⟨g4, E⟩ := E
    replace E := bnd_x E
    obtain ⟨h5, eh5, E⟩ := E
    refine r_putI (hh := eh5) dX12_restore_52 FX12_123 g4 rfl rfl ?_
    refine q_aload_n dX12_restore_55 rfl ?_
    replace E := grd_some E
    obtain ⟨g8, E⟩ := E
    replace E := cal_some E
    obtain ⟨x7, h6, hc, E⟩ := E
    refine r_callV0 (mc := 0) (ms := 0) dX12_restore_56 KX12_227 (c_X12_patterns hc) g8 (by decide) (Nat.le_of_ble_eq_true rfl) (fun _ _ q => q.elim) ?_
    rintro _ _ ⟨rfl, rfl⟩
    clear hc
    cases E
    exact q_ireturn dX12_restore_59 rfl hK
  · replace E := ite_f E z1
    refine q_aload_n dX12_restore_27 rfl ?_
    replace E := grd_some E
    obtain ⟨g9, E⟩ := E
    replace E := orf_some E
    obtain ⟨a10, ea10, E⟩ := E
    refine r_getR dX12_restore_28 FX12_7 g9 ea10 ?_
    refine q_iload_n dX12_restore_31 rfl ?_
    refine q_aload_n dX12_restore_32 rfl ?_
    replace E := orf_some E
    obtain ⟨a11, ea11, E⟩ := E
    refine r_getR dX12_restore_33 FX12_16 g9 ea11 ?_
    refine q_iload_n dX12_restore_36 rfl ?_
    replace E := grd_some E
    obtain ⟨g12, E⟩ := E
    replace E := grd_some E
    obtain ⟨g13, E⟩ := E
    refine r_iaload dX12_restore_37 g12 g13 ?_
    replace E := grd_some E
    obtain ⟨g15, E⟩ := E
    replace E := grd_some E
    obtain ⟨g16, E⟩ := E
    replace E := bnd_x E
    obtain ⟨h14, eh14, E⟩ := E
    refine r_iastore (hh := eh14) dX12_restore_38 g15 g16 ?_
    replace E := bnd_x E
    obtain ⟨x17, ex17, E⟩ := E
    refine r_iinc (v := x17) dX12_restore_39 rfl ex17 (by decide) (ls' := [some (.ref p0), some (.int x17)]) rfl ?_
    refine q_goto (tgt := 20) dX12_restore_42 (by decide) ?_
    cases E
    exact r_fewer [some (.ref p0), some (.int x17)] (ls_s (ls_s ls_0)) hK
theorem s_X12_restore_20 {l : Launch} {G : mG} {Q : Option Value → mH → Prop} {X : String → mH → Prop} (p0 : Nat) (v1 : Int32) (h : mH) {o : Int32 × mH} (E : g_X12_restore_20 p0 v1 h = some o) (hK : (fiI Q) o) : mW l G m_X12_restore 2 0 0 20 [some (.ref p0), some (.int v1)] [] h Q X :=
  (lp_go (w_X12_restore_20 l G Q X p0) (fiI Q) (b_X12_restore_20 p0) (fun s o E hK => sb_X12_restore_20 p0 s.1 (s.2) E hK) _ _ _ E hK : w_X12_restore_20 l G Q X p0 (v1, h))
set_option maxRecDepth 100000 in
set_option maxHeartbeats 4000000 in
theorem s_X12_restore_0 {l : Launch} {G : mG} {Q : Option Value → mH → Prop} {X : String → mH → Prop} (p0 : Nat) (h : mH) {o : Int32 × mH} (E : f_X12_restore p0 h = some o) (hK : (fiI Q) o) : mW l G m_X12_restore 2 0 0 0 [some (.ref p0), none] [] h Q X := by
  unfold f_X12_restore at E
  refine q_aload_n dX12_restore_0 rfl ?_
  refine q_iconst dX12_restore_1 ?_
  replace E := grd_some E
  obtain ⟨g1, E⟩ := E
  replace E := bnd_x E
  obtain ⟨h2, eh2, E⟩ := E
  refine r_putI (hh := eh2) dX12_restore_2 FX12_117 g1 rfl rfl ?_
  refine q_aload_n dX12_restore_5 rfl ?_
  replace E := grd_some E
  obtain ⟨g3, E⟩ := E
  refine r_getI dX12_restore_6 FX12_415 g3 ?_
  refine q_if_ne (tgt := 18) dX12_restore_9 (by decide) (fun z4 => ?_) (fun z4 => ?_)
  · replace E := ite_f E z4
    refine q_iconst dX12_restore_18 ?_
    refine r_istore_n dX12_restore_19 (by decide) rfl (ls' := [some (.ref p0), some (.int (Int32.ofInt 0))]) rfl ?_
    exact r_fewer [some (.ref p0), some (.int (Int32.ofInt 0))] (ls_s (ls_s ls_0)) (s_X12_restore_20 p0 (Int32.ofInt 0) h2 E hK)
  · replace E := ite_t E z4
    refine q_aload_n dX12_restore_12 rfl ?_
    refine q_iconst dX12_restore_13 ?_
    replace E := cal_some E
    obtain ⟨x6, h5, hc, E⟩ := E
    refine r_callV1 (mc := 0) (ms := 0) dX12_restore_14 KX12_196 (c_X12_fails hc) g3 (by decide) (Nat.le_of_ble_eq_true rfl) (fun _ _ q => q.elim) ?_
    rintro _ _ ⟨rfl, rfl⟩
    clear hc
    cases E
    exact q_ireturn dX12_restore_17 rfl hK
theorem c_X12_restore {l : Launch} {G : mG} {p0 : Nat} {h h' : mH} {r : Int32} (E : f_X12_restore p0 h = some (r, h')) : mMet l G m_X12_restore 2 0 0 [.ref p0] h (fun v k => v = some (.int r) ∧ h' = k) (fun _ _ => False) :=
  mMet_of (by decide +kernel) rfl (ac_c rfl ac_0) (Nat.le_of_ble_eq_true rfl) (s_X12_restore_0 p0 h E (And.intro rfl rfl))
