set_option maxRecDepth 100000 in
set_option maxHeartbeats 4000000 in
theorem s_X12_init_0 {l : Launch} {G : mG} {Q : Option Value → mH → Prop} {X : String → mH → Prop} (p0 : Nat) (h : mH) {o : Unit × mH} (E : f_X12_init p0 h = some o) (hK : (fiV Q) o) : mW l G m_X12_init 0 33 7125 0 [some (.ref p0)] [] h Q X := by
  unfold f_X12_init at E
  refine q_aload_n dX12_init_0 rfl ?_
  refine q_objInit dX12_init_1 OX12_1 objW1 objW2 (Nat.le_of_ble_eq_true rfl) ?_
  refine q_aload_n dX12_init_4 rfl ?_
  refine q_sipush (v := (Int32.ofInt 248)) dX12_init_5 (by decide) ?_
  replace E := grd_some E
  obtain ⟨g1, E⟩ := E
  replace E := bnd_x E
  obtain ⟨a2, ea2, E⟩ := E
  replace E := bnd_x E
  obtain ⟨h3, eh3, E⟩ := E
  refine r_newarray (n := 248) (t0 := 3) (hq := ea2) (hh := eh3) dX12_init_8 W_int rfl rfl (by decide) g1 (by decide) ?_
  replace E := grd_some E
  obtain ⟨g4, E⟩ := E
  replace E := bnd_x E
  obtain ⟨h5, eh5, E⟩ := E
  refine r_putR (hh := eh5) dX12_init_10 FX12_7 g4 (hf := Or.inr ⟨rfl, fun _ _ _ q => (Prod.mk.inj (Option.some.inj q)).1.symm⟩) ?_
  refine q_aload_n dX12_init_13 rfl ?_
  refine q_sipush (v := (Int32.ofInt 1984)) dX12_init_14 (by decide) ?_
  replace E := grd_some E
  obtain ⟨g6, E⟩ := E
  replace E := bnd_x E
  obtain ⟨a7, ea7, E⟩ := E
  replace E := bnd_x E
  obtain ⟨h8, eh8, E⟩ := E
  refine r_newarray (n := 1984) (t0 := 3) (hq := ea7) (hh := eh8) dX12_init_17 W_int rfl rfl (by decide) g6 (by decide) ?_
  replace E := grd_some E
  obtain ⟨g9, E⟩ := E
  replace E := bnd_x E
  obtain ⟨h10, eh10, E⟩ := E
  refine r_putR (hh := eh10) dX12_init_19 FX12_13 g9 (hf := Or.inr ⟨rfl, fun _ _ _ q => (Prod.mk.inj (Option.some.inj q)).1.symm⟩) ?_
  refine q_aload_n dX12_init_22 rfl ?_
  refine q_sipush (v := (Int32.ofInt 248)) dX12_init_23 (by decide) ?_
  replace E := bnd_x E
  obtain ⟨a11, ea11, E⟩ := E
  replace E := bnd_x E
  obtain ⟨h12, eh12, E⟩ := E
  refine r_newarray (n := 248) (t0 := 3) (hq := ea11) (hh := eh12) dX12_init_26 W_int rfl rfl (by decide) g1 (by decide) ?_
  replace E := grd_some E
  obtain ⟨g13, E⟩ := E
  replace E := bnd_x E
  obtain ⟨h14, eh14, E⟩ := E
  refine r_putR (hh := eh14) dX12_init_28 FX12_16 g13 (hf := Or.inr ⟨rfl, fun _ _ _ q => (Prod.mk.inj (Option.some.inj q)).1.symm⟩) ?_
  refine q_aload_n dX12_init_31 rfl ?_
  refine q_sipush (v := (Int32.ofInt 248)) dX12_init_32 (by decide) ?_
  replace E := bnd_x E
  obtain ⟨a15, ea15, E⟩ := E
  replace E := bnd_x E
  obtain ⟨h16, eh16, E⟩ := E
  refine r_newarray (n := 248) (t0 := 3) (hq := ea15) (hh := eh16) dX12_init_35 W_int rfl rfl (by decide) g1 (by decide) ?_
  replace E := grd_some E
  obtain ⟨g17, E⟩ := E
  replace E := bnd_x E
  obtain ⟨h18, eh18, E⟩ := E
  refine r_putR (hh := eh18) dX12_init_37 FX12_19 g17 (hf := Or.inr ⟨rfl, fun _ _ _ q => (Prod.mk.inj (Option.some.inj q)).1.symm⟩) ?_
  refine q_aload_n dX12_init_40 rfl ?_
  refine q_sipush (v := (Int32.ofInt 130)) dX12_init_41 (by decide) ?_
  replace E := grd_some E
  obtain ⟨g19, E⟩ := E
  replace E := bnd_x E
  obtain ⟨a20, ea20, E⟩ := E
  replace E := bnd_x E
  obtain ⟨h21, eh21, E⟩ := E
  refine r_newarray (n := 130) (t0 := 3) (hq := ea20) (hh := eh21) dX12_init_44 W_int rfl rfl (by decide) g19 (by decide) ?_
  replace E := grd_some E
  obtain ⟨g22, E⟩ := E
  replace E := bnd_x E
  obtain ⟨h23, eh23, E⟩ := E
  refine r_putR (hh := eh23) dX12_init_46 FX12_22 g22 (hf := Or.inr ⟨rfl, fun _ _ _ q => (Prod.mk.inj (Option.some.inj q)).1.symm⟩) ?_
  refine q_aload_n dX12_init_49 rfl ?_
  refine q_bipush (v := (Int32.ofInt 60)) dX12_init_50 (by decide) ?_
  replace E := grd_some E
  obtain ⟨g24, E⟩ := E
  replace E := bnd_x E
  obtain ⟨a25, ea25, E⟩ := E
  replace E := bnd_x E
  obtain ⟨h26, eh26, E⟩ := E
  refine r_newarray (n := 60) (t0 := 2) (hq := ea25) (hh := eh26) dX12_init_52 W_char rfl rfl (by decide) g24 (by decide) ?_
  replace E := grd_some E
  obtain ⟨g27, E⟩ := E
  replace E := bnd_x E
  obtain ⟨h28, eh28, E⟩ := E
  refine r_putR (hh := eh28) dX12_init_54 FX12_25 g27 (hf := Or.inr ⟨rfl, fun _ _ _ q => (Prod.mk.inj (Option.some.inj q)).1.symm⟩) ?_
  refine q_aload_n dX12_init_57 rfl ?_
  refine q_iconst dX12_init_58 ?_
  replace E := grd_some E
  obtain ⟨g29, E⟩ := E
  replace E := bnd_x E
  obtain ⟨h30, eh30, E⟩ := E
  refine r_putI (hh := eh30) dX12_init_59 FX12_29 g29 rfl rfl ?_
  refine q_aload_n dX12_init_62 rfl ?_
  refine q_iconst dX12_init_63 ?_
  replace E := grd_some E
  obtain ⟨g31, E⟩ := E
  replace E := bnd_x E
  obtain ⟨h32, eh32, E⟩ := E
  refine r_putI (hh := eh32) dX12_init_64 FX12_33 g31 rfl rfl ?_
  refine q_aload_n dX12_init_67 rfl ?_
  refine q_bipush (v := (Int32.ofInt 80)) dX12_init_68 (by decide) ?_
  replace E := grd_some E
  obtain ⟨g33, E⟩ := E
  replace E := bnd_x E
  obtain ⟨a34, ea34, E⟩ := E
  replace E := bnd_x E
  obtain ⟨h35, eh35, E⟩ := E
  refine r_newarray (n := 80) (t0 := 3) (hq := ea34) (hh := eh35) dX12_init_70 W_int rfl rfl (by decide) g33 (by decide) ?_
  replace E := grd_some E
  obtain ⟨g36, E⟩ := E
  replace E := bnd_x E
  obtain ⟨h37, eh37, E⟩ := E
  refine r_putR (hh := eh37) dX12_init_72 FX12_36 g36 (hf := Or.inr ⟨rfl, fun _ _ _ q => (Prod.mk.inj (Option.some.inj q)).1.symm⟩) ?_
  refine q_aload_n dX12_init_75 rfl ?_
  refine q_bipush (v := (Int32.ofInt 60)) dX12_init_76 (by decide) ?_
  replace E := bnd_x E
  obtain ⟨a38, ea38, E⟩ := E
  replace E := bnd_x E
  obtain ⟨h39, eh39, E⟩ := E
  refine r_newarray (n := 60) (t0 := 3) (hq := ea38) (hh := eh39) dX12_init_78 W_int rfl rfl (by decide) g24 (by decide) ?_
  replace E := grd_some E
  obtain ⟨g40, E⟩ := E
  replace E := bnd_x E
  obtain ⟨h41, eh41, E⟩ := E
  refine r_putR (hh := eh41) dX12_init_80 FX12_39 g40 (hf := Or.inr ⟨rfl, fun _ _ _ q => (Prod.mk.inj (Option.some.inj q)).1.symm⟩) ?_
  refine q_aload_n dX12_init_83 rfl ?_
  refine q_sipush (v := (Int32.ofInt 774)) dX12_init_84 (by decide) ?_
  replace E := grd_some E
  obtain ⟨g42, E⟩ := E
  replace E := bnd_x E
  obtain ⟨a43, ea43, E⟩ := E
  replace E := bnd_x E
  obtain ⟨h44, eh44, E⟩ := E
  refine r_newarray (n := 774) (t0 := 3) (hq := ea43) (hh := eh44) dX12_init_87 W_int rfl rfl (by decide) g42 (by decide) ?_
  replace E := grd_some E
  obtain ⟨g45, E⟩ := E
  replace E := bnd_x E
  obtain ⟨h46, eh46, E⟩ := E
  refine r_putR (hh := eh46) dX12_init_89 FX12_42 g45 (hf := Or.inr ⟨rfl, fun _ _ _ q => (Prod.mk.inj (Option.some.inj q)).1.symm⟩) ?_
  refine q_aload_n dX12_init_92 rfl ?_
  refine q_bipush (v := (Int32.ofInt 14)) dX12_init_93 (by decide) ?_
  replace E := grd_some E
  obtain ⟨g47, E⟩ := E
  replace E := bnd_x E
  obtain ⟨a48, ea48, E⟩ := E
  replace E := bnd_x E
  obtain ⟨h49, eh49, E⟩ := E
  refine r_newarray (n := 14) (t0 := 3) (hq := ea48) (hh := eh49) dX12_init_95 W_int rfl rfl (by decide) g47 (by decide) ?_
  replace E := grd_some E
  obtain ⟨g50, E⟩ := E
  replace E := bnd_x E
  obtain ⟨h51, eh51, E⟩ := E
  refine r_putR (hh := eh51) dX12_init_97 FX12_45 g50 (hf := Or.inr ⟨rfl, fun _ _ _ q => (Prod.mk.inj (Option.some.inj q)).1.symm⟩) ?_
  refine q_aload_n dX12_init_100 rfl ?_
  refine q_bipush (v := (Int32.ofInt 6)) dX12_init_101 (by decide) ?_
  replace E := grd_some E
  obtain ⟨g52, E⟩ := E
  replace E := bnd_x E
  obtain ⟨a53, ea53, E⟩ := E
  replace E := bnd_x E
  obtain ⟨h54, eh54, E⟩ := E
  refine r_newarray (n := 6) (t0 := 3) (hq := ea53) (hh := eh54) dX12_init_103 W_int rfl rfl (by decide) g52 (by decide) ?_
  replace E := grd_some E
  obtain ⟨g55, E⟩ := E
  replace E := bnd_x E
  obtain ⟨h56, eh56, E⟩ := E
  refine r_putR (hh := eh56) dX12_init_105 FX12_48 g55 (hf := Or.inr ⟨rfl, fun _ _ _ q => (Prod.mk.inj (Option.some.inj q)).1.symm⟩) ?_
  refine q_aload_n dX12_init_108 rfl ?_
  refine q_iconst dX12_init_109 ?_
  replace E := grd_some E
  obtain ⟨g57, E⟩ := E
  replace E := bnd_x E
  obtain ⟨a58, ea58, E⟩ := E
  replace E := bnd_x E
  obtain ⟨h59, eh59, E⟩ := E
  refine r_newarray (n := 2) (t0 := 3) (hq := ea58) (hh := eh59) dX12_init_110 W_int rfl rfl (by decide) g57 (by decide) ?_
  replace E := grd_some E
  obtain ⟨g60, E⟩ := E
  replace E := bnd_x E
  obtain ⟨h61, eh61, E⟩ := E
  refine r_putR (hh := eh61) dX12_init_112 FX12_51 g60 (hf := Or.inr ⟨rfl, fun _ _ _ q => (Prod.mk.inj (Option.some.inj q)).1.symm⟩) ?_
  refine q_aload_n dX12_init_115 rfl ?_
  refine q_iconst dX12_init_116 ?_
  replace E := bnd_x E
  obtain ⟨a62, ea62, E⟩ := E
  replace E := bnd_x E
  obtain ⟨h63, eh63, E⟩ := E
  refine r_newarray (n := 2) (t0 := 3) (hq := ea62) (hh := eh63) dX12_init_117 W_int rfl rfl (by decide) g57 (by decide) ?_
  replace E := grd_some E
  obtain ⟨g64, E⟩ := E
  replace E := bnd_x E
  obtain ⟨h65, eh65, E⟩ := E
  refine r_putR (hh := eh65) dX12_init_119 FX12_54 g64 (hf := Or.inr ⟨rfl, fun _ _ _ q => (Prod.mk.inj (Option.some.inj q)).1.symm⟩) ?_
  refine q_aload_n dX12_init_122 rfl ?_
  refine q_iconst dX12_init_123 ?_
  replace E := bnd_x E
  obtain ⟨a66, ea66, E⟩ := E
  replace E := bnd_x E
  obtain ⟨h67, eh67, E⟩ := E
  refine r_newarray (n := 2) (t0 := 3) (hq := ea66) (hh := eh67) dX12_init_124 W_int rfl rfl (by decide) g57 (by decide) ?_
  replace E := grd_some E
  obtain ⟨g68, E⟩ := E
  replace E := bnd_x E
  obtain ⟨h69, eh69, E⟩ := E
  refine r_putR (hh := eh69) dX12_init_126 FX12_57 g68 (hf := Or.inr ⟨rfl, fun _ _ _ q => (Prod.mk.inj (Option.some.inj q)).1.symm⟩) ?_
  refine q_aload_n dX12_init_129 rfl ?_
  refine q_bipush (v := (Int32.ofInt 8)) dX12_init_130 (by decide) ?_
  replace E := grd_some E
  obtain ⟨g70, E⟩ := E
  replace E := bnd_x E
  obtain ⟨a71, ea71, E⟩ := E
  replace E := bnd_x E
  obtain ⟨h72, eh72, E⟩ := E
  refine r_newarray (n := 8) (t0 := 3) (hq := ea71) (hh := eh72) dX12_init_132 W_int rfl rfl (by decide) g70 (by decide) ?_
  replace E := grd_some E
  obtain ⟨g73, E⟩ := E
  replace E := bnd_x E
  obtain ⟨h74, eh74, E⟩ := E
  refine r_putR (hh := eh74) dX12_init_134 FX12_60 g73 (hf := Or.inr ⟨rfl, fun _ _ _ q => (Prod.mk.inj (Option.some.inj q)).1.symm⟩) ?_
  refine q_aload_n dX12_init_137 rfl ?_
  refine q_bipush (v := (Int32.ofInt 8)) dX12_init_138 (by decide) ?_
  replace E := bnd_x E
  obtain ⟨a75, ea75, E⟩ := E
  replace E := bnd_x E
  obtain ⟨h76, eh76, E⟩ := E
  refine r_newarray (n := 8) (t0 := 3) (hq := ea75) (hh := eh76) dX12_init_140 W_int rfl rfl (by decide) g70 (by decide) ?_
  replace E := grd_some E
  obtain ⟨g77, E⟩ := E
  replace E := bnd_x E
  obtain ⟨h78, eh78, E⟩ := E
  refine r_putR (hh := eh78) dX12_init_142 FX12_63 g77 (hf := Or.inr ⟨rfl, fun _ _ _ q => (Prod.mk.inj (Option.some.inj q)).1.symm⟩) ?_
  refine q_aload_n dX12_init_145 rfl ?_
  refine q_bipush (v := (Int32.ofInt 8)) dX12_init_146 (by decide) ?_
  replace E := bnd_x E
  obtain ⟨a79, ea79, E⟩ := E
  replace E := bnd_x E
  obtain ⟨h80, eh80, E⟩ := E
  refine r_newarray (n := 8) (t0 := 3) (hq := ea79) (hh := eh80) dX12_init_148 W_int rfl rfl (by decide) g70 (by decide) ?_
  replace E := grd_some E
  obtain ⟨g81, E⟩ := E
  replace E := bnd_x E
  obtain ⟨h82, eh82, E⟩ := E
  refine r_putR (hh := eh82) dX12_init_150 FX12_66 g81 (hf := Or.inr ⟨rfl, fun _ _ _ q => (Prod.mk.inj (Option.some.inj q)).1.symm⟩) ?_
  refine q_aload_n dX12_init_153 rfl ?_
  refine q_sipush (v := (Int32.ofInt 258)) dX12_init_154 (by decide) ?_
  replace E := grd_some E
  obtain ⟨g83, E⟩ := E
  replace E := bnd_x E
  obtain ⟨a84, ea84, E⟩ := E
  replace E := bnd_x E
  obtain ⟨h85, eh85, E⟩ := E
  refine r_newarray (n := 258) (t0 := 3) (hq := ea84) (hh := eh85) dX12_init_157 W_int rfl rfl (by decide) g83 (by decide) ?_
  replace E := grd_some E
  obtain ⟨g86, E⟩ := E
  replace E := bnd_x E
  obtain ⟨h87, eh87, E⟩ := E
  refine r_putR (hh := eh87) dX12_init_159 FX12_69 g86 (hf := Or.inr ⟨rfl, fun _ _ _ q => (Prod.mk.inj (Option.some.inj q)).1.symm⟩) ?_
  refine q_aload_n dX12_init_162 rfl ?_
  refine q_sipush (v := (Int32.ofInt 258)) dX12_init_163 (by decide) ?_
  replace E := bnd_x E
  obtain ⟨a88, ea88, E⟩ := E
  replace E := bnd_x E
  obtain ⟨h89, eh89, E⟩ := E
  refine r_newarray (n := 258) (t0 := 3) (hq := ea88) (hh := eh89) dX12_init_166 W_int rfl rfl (by decide) g83 (by decide) ?_
  replace E := grd_some E
  obtain ⟨g90, E⟩ := E
  replace E := bnd_x E
  obtain ⟨h91, eh91, E⟩ := E
  refine r_putR (hh := eh91) dX12_init_168 FX12_72 g90 (hf := Or.inr ⟨rfl, fun _ _ _ q => (Prod.mk.inj (Option.some.inj q)).1.symm⟩) ?_
  refine q_aload_n dX12_init_171 rfl ?_
  refine q_iconst dX12_init_172 ?_
  replace E := bnd_x E
  obtain ⟨a92, ea92, E⟩ := E
  replace E := bnd_x E
  obtain ⟨h93, eh93, E⟩ := E
  refine r_newarray (n := 2) (t0 := 3) (hq := ea92) (hh := eh93) dX12_init_173 W_int rfl rfl (by decide) g57 (by decide) ?_
  replace E := grd_some E
  obtain ⟨g94, E⟩ := E
  replace E := bnd_x E
  obtain ⟨h95, eh95, E⟩ := E
  refine r_putR (hh := eh95) dX12_init_175 FX12_75 g94 (hf := Or.inr ⟨rfl, fun _ _ _ q => (Prod.mk.inj (Option.some.inj q)).1.symm⟩) ?_
  refine q_aload_n dX12_init_178 rfl ?_
  refine q_sipush (v := (Int32.ofInt 129)) dX12_init_179 (by decide) ?_
  replace E := grd_some E
  obtain ⟨g96, E⟩ := E
  replace E := bnd_x E
  obtain ⟨a97, ea97, E⟩ := E
  replace E := bnd_x E
  obtain ⟨h98, eh98, E⟩ := E
  refine r_newarray (n := 129) (t0 := 3) (hq := ea97) (hh := eh98) dX12_init_182 W_int rfl rfl (by decide) g96 (by decide) ?_
  replace E := grd_some E
  obtain ⟨g99, E⟩ := E
  replace E := bnd_x E
  obtain ⟨h100, eh100, E⟩ := E
  refine r_putR (hh := eh100) dX12_init_184 FX12_78 g99 (hf := Or.inr ⟨rfl, fun _ _ _ q => (Prod.mk.inj (Option.some.inj q)).1.symm⟩) ?_
  refine q_aload_n dX12_init_187 rfl ?_
  refine q_sipush (v := (Int32.ofInt 129)) dX12_init_188 (by decide) ?_
  replace E := bnd_x E
  obtain ⟨a101, ea101, E⟩ := E
  replace E := bnd_x E
  obtain ⟨h102, eh102, E⟩ := E
  refine r_newarray (n := 129) (t0 := 3) (hq := ea101) (hh := eh102) dX12_init_191 W_int rfl rfl (by decide) g96 (by decide) ?_
  replace E := grd_some E
  obtain ⟨g103, E⟩ := E
  replace E := bnd_x E
  obtain ⟨h104, eh104, E⟩ := E
  refine r_putR (hh := eh104) dX12_init_193 FX12_81 g103 (hf := Or.inr ⟨rfl, fun _ _ _ q => (Prod.mk.inj (Option.some.inj q)).1.symm⟩) ?_
  refine q_aload_n dX12_init_196 rfl ?_
  refine q_sipush (v := (Int32.ofInt 129)) dX12_init_197 (by decide) ?_
  replace E := bnd_x E
  obtain ⟨a105, ea105, E⟩ := E
  replace E := bnd_x E
  obtain ⟨h106, eh106, E⟩ := E
  refine r_newarray (n := 129) (t0 := 3) (hq := ea105) (hh := eh106) dX12_init_200 W_int rfl rfl (by decide) g96 (by decide) ?_
  replace E := grd_some E
  obtain ⟨g107, E⟩ := E
  replace E := bnd_x E
  obtain ⟨h108, eh108, E⟩ := E
  refine r_putR (hh := eh108) dX12_init_202 FX12_84 g107 (hf := Or.inr ⟨rfl, fun _ _ _ q => (Prod.mk.inj (Option.some.inj q)).1.symm⟩) ?_
  refine q_aload_n dX12_init_205 rfl ?_
  refine q_sipush (v := (Int32.ofInt 645)) dX12_init_206 (by decide) ?_
  replace E := grd_some E
  obtain ⟨g109, E⟩ := E
  replace E := bnd_x E
  obtain ⟨a110, ea110, E⟩ := E
  replace E := bnd_x E
  obtain ⟨h111, eh111, E⟩ := E
  refine r_newarray (n := 645) (t0 := 3) (hq := ea110) (hh := eh111) dX12_init_209 W_int rfl rfl (by decide) g109 (by decide) ?_
  replace E := grd_some E
  obtain ⟨g112, E⟩ := E
  replace E := bnd_x E
  obtain ⟨h113, eh113, E⟩ := E
  refine r_putR (hh := eh113) dX12_init_211 FX12_87 g112 (hf := Or.inr ⟨rfl, fun _ _ _ q => (Prod.mk.inj (Option.some.inj q)).1.symm⟩) ?_
  refine q_aload_n dX12_init_214 rfl ?_
  refine q_sipush (v := (Int32.ofInt 645)) dX12_init_215 (by decide) ?_
  replace E := bnd_x E
  obtain ⟨a114, ea114, E⟩ := E
  replace E := bnd_x E
  obtain ⟨h115, eh115, E⟩ := E
  refine r_newarray (n := 645) (t0 := 3) (hq := ea114) (hh := eh115) dX12_init_218 W_int rfl rfl (by decide) g109 (by decide) ?_
  replace E := grd_some E
  obtain ⟨g116, E⟩ := E
  replace E := bnd_x E
  obtain ⟨h117, eh117, E⟩ := E
  refine r_putR (hh := eh117) dX12_init_220 FX12_90 g116 (hf := Or.inr ⟨rfl, fun _ _ _ q => (Prod.mk.inj (Option.some.inj q)).1.symm⟩) ?_
  refine q_aload_n dX12_init_223 rfl ?_
  refine q_sipush (v := (Int32.ofInt 645)) dX12_init_224 (by decide) ?_
  replace E := bnd_x E
  obtain ⟨a118, ea118, E⟩ := E
  replace E := bnd_x E
  obtain ⟨h119, eh119, E⟩ := E
  refine r_newarray (n := 645) (t0 := 3) (hq := ea118) (hh := eh119) dX12_init_227 W_int rfl rfl (by decide) g109 (by decide) ?_
  replace E := grd_some E
  obtain ⟨g120, E⟩ := E
  replace E := bnd_x E
  obtain ⟨h121, eh121, E⟩ := E
  refine r_putR (hh := eh121) dX12_init_229 FX12_93 g120 (hf := Or.inr ⟨rfl, fun _ _ _ q => (Prod.mk.inj (Option.some.inj q)).1.symm⟩) ?_
  refine q_aload_n dX12_init_232 rfl ?_
  refine q_sipush (v := (Int32.ofInt 129)) dX12_init_233 (by decide) ?_
  replace E := bnd_x E
  obtain ⟨a122, ea122, E⟩ := E
  replace E := bnd_x E
  obtain ⟨h123, eh123, E⟩ := E
  refine r_newarray (n := 129) (t0 := 3) (hq := ea122) (hh := eh123) dX12_init_236 W_int rfl rfl (by decide) g96 (by decide) ?_
  replace E := grd_some E
  obtain ⟨g124, E⟩ := E
  replace E := bnd_x E
  obtain ⟨h125, eh125, E⟩ := E
  refine r_putR (hh := eh125) dX12_init_238 FX12_96 g124 (hf := Or.inr ⟨rfl, fun _ _ _ q => (Prod.mk.inj (Option.some.inj q)).1.symm⟩) ?_
  refine q_aload_n dX12_init_241 rfl ?_
  refine q_sipush (v := (Int32.ofInt 129)) dX12_init_242 (by decide) ?_
  replace E := bnd_x E
  obtain ⟨a126, ea126, E⟩ := E
  replace E := bnd_x E
  obtain ⟨h127, eh127, E⟩ := E
  refine r_newarray (n := 129) (t0 := 3) (hq := ea126) (hh := eh127) dX12_init_245 W_int rfl rfl (by decide) g96 (by decide) ?_
  replace E := grd_some E
  obtain ⟨g128, E⟩ := E
  replace E := bnd_x E
  obtain ⟨h129, eh129, E⟩ := E
  refine r_putR (hh := eh129) dX12_init_247 FX12_99 g128 (hf := Or.inr ⟨rfl, fun _ _ _ q => (Prod.mk.inj (Option.some.inj q)).1.symm⟩) ?_
  refine q_aload_n dX12_init_250 rfl ?_
  refine q_bipush (v := (Int32.ofInt 6)) dX12_init_251 (by decide) ?_
  replace E := bnd_x E
  obtain ⟨a130, ea130, E⟩ := E
  replace E := bnd_x E
  obtain ⟨h131, eh131, E⟩ := E
  refine r_newarray (n := 6) (t0 := 3) (hq := ea130) (hh := eh131) dX12_init_253 W_int rfl rfl (by decide) g52 (by decide) ?_
  replace E := grd_some E
  obtain ⟨g132, E⟩ := E
  replace E := bnd_x E
  obtain ⟨h133, eh133, E⟩ := E
  refine r_putR (hh := eh133) dX12_init_255 FX12_102 g132 (hf := Or.inr ⟨rfl, fun _ _ _ q => (Prod.mk.inj (Option.some.inj q)).1.symm⟩) ?_
  refine q_aload_n dX12_init_258 rfl ?_
  refine q_bipush (v := (Int32.ofInt 120)) dX12_init_259 (by decide) ?_
  replace E := grd_some E
  obtain ⟨g134, E⟩ := E
  replace E := bnd_x E
  obtain ⟨a135, ea135, E⟩ := E
  replace E := bnd_x E
  obtain ⟨h136, eh136, E⟩ := E
  refine r_newarray (n := 120) (t0 := 2) (hq := ea135) (hh := eh136) dX12_init_261 W_char rfl rfl (by decide) g134 (by decide) ?_
  replace E := grd_some E
  obtain ⟨g137, E⟩ := E
  replace E := bnd_x E
  obtain ⟨h138, eh138, E⟩ := E
  refine r_putR (hh := eh138) dX12_init_263 FX12_105 g137 (hf := Or.inr ⟨rfl, fun _ _ _ q => (Prod.mk.inj (Option.some.inj q)).1.symm⟩) ?_
  refine q_aload_n dX12_init_266 rfl ?_
  refine q_bipush (v := (Int32.ofInt 8)) dX12_init_267 (by decide) ?_
  replace E := bnd_x E
  obtain ⟨a139, ea139, E⟩ := E
  replace E := bnd_x E
  obtain ⟨h140, eh140, E⟩ := E
  refine r_newarray (n := 8) (t0 := 3) (hq := ea139) (hh := eh140) dX12_init_269 W_int rfl rfl (by decide) g70 (by decide) ?_
  replace E := grd_some E
  obtain ⟨g141, E⟩ := E
  replace E := bnd_x E
  obtain ⟨h142, eh142, E⟩ := E
  refine r_putR (hh := eh142) dX12_init_271 FX12_108 g141 (hf := Or.inr ⟨rfl, fun _ _ _ q => (Prod.mk.inj (Option.some.inj q)).1.symm⟩) ?_
  refine q_aload_n dX12_init_274 rfl ?_
  refine q_bipush (v := (Int32.ofInt 8)) dX12_init_275 (by decide) ?_
  replace E := bnd_x E
  obtain ⟨a143, ea143, E⟩ := E
  replace E := bnd_x E
  obtain ⟨h144, eh144, E⟩ := E
  refine r_newarray (n := 8) (t0 := 3) (hq := ea143) (hh := eh144) dX12_init_277 W_int rfl rfl (by decide) g70 (by decide) ?_
  replace E := grd_some E
  obtain ⟨g145, E⟩ := E
  replace E := bnd_x E
  obtain ⟨h146, eh146, E⟩ := E
  refine r_putR (hh := eh146) dX12_init_279 FX12_111 g145 (hf := Or.inr ⟨rfl, fun _ _ _ q => (Prod.mk.inj (Option.some.inj q)).1.symm⟩) ?_
  refine q_aload_n dX12_init_282 rfl ?_
  refine q_iconst dX12_init_283 ?_
  replace E := grd_some E
  obtain ⟨g147, E⟩ := E
  replace E := bnd_x E
  obtain ⟨a148, ea148, E⟩ := E
  replace E := bnd_x E
  obtain ⟨h149, eh149, E⟩ := E
  refine r_newarray (n := 3) (t0 := 3) (hq := ea148) (hh := eh149) dX12_init_284 W_int rfl rfl (by decide) g147 (by decide) ?_
  replace E := grd_some E
  obtain ⟨g150, E⟩ := E
  replace E := bnd_x E
  obtain ⟨h151, eh151, E⟩ := E
  refine r_putR (hh := eh151) dX12_init_286 FX12_114 g150 (hf := Or.inr ⟨rfl, fun _ _ _ q => (Prod.mk.inj (Option.some.inj q)).1.symm⟩) ?_
  cases E
  exact q_return dX12_init_289 rfl hK
theorem c_X12_init {l : Launch} {G : mG} {p0 : Nat} {h h' : mH} {r : Unit} (E : f_X12_init p0 h = some (r, h')) : mMet l G m_X12_init 0 33 7125 [.ref p0] h (fun v k => v = none ∧ h' = k) (fun _ _ => False) :=
  mMet_of (by decide +kernel) rfl (ac_c rfl ac_0) (Nat.le_of_ble_eq_true rfl) (s_X12_init_0 p0 h E (And.intro rfl rfl))
set_option maxRecDepth 100000 in
set_option maxHeartbeats 4000000 in
theorem s_X12_thrown_0 {l : Launch} {G : mG} {Q : Option Value → mH → Prop} {X : String → mH → Prop} (p0 : Nat) (h : mH) {o : Int32 × mH} (E : f_X12_thrown p0 h = some o) (hK : (fiI Q) o) : mW l G m_X12_thrown 0 0 0 0 [some (.ref p0)] [] h Q X := by
  unfold f_X12_thrown at E
  refine q_aload_n dX12_thrown_0 rfl ?_
  replace E := grd_some E
  obtain ⟨g1, E⟩ := E
  refine r_getI dX12_thrown_1 FX12_117 g1 ?_
  cases E
  exact q_ireturn dX12_thrown_4 rfl hK
theorem c_X12_thrown {l : Launch} {G : mG} {p0 : Nat} {h h' : mH} {r : Int32} (E : f_X12_thrown p0 h = some (r, h')) : mMet l G m_X12_thrown 0 0 0 [.ref p0] h (fun v k => v = some (.int r) ∧ h' = k) (fun _ _ => False) :=
  mMet_of (by decide +kernel) rfl (ac_c rfl ac_0) (Nat.le_of_ble_eq_true rfl) (s_X12_thrown_0 p0 h E (And.intro rfl rfl))
set_option maxRecDepth 100000 in
set_option maxHeartbeats 4000000 in
theorem s_X12_fails_0 {l : Launch} {G : mG} {Q : Option Value → mH → Prop} {X : String → mH → Prop} (p0 : Nat) (v1 : Int32) (h : mH) {o : Int32 × mH} (E : f_X12_fails p0 v1 h = some o) (hK : (fiI Q) o) : mW l G m_X12_fails 0 0 0 0 [some (.ref p0), some (.int v1)] [] h Q X := by
  unfold f_X12_fails at E
  refine q_aload_n dX12_fails_0 rfl ?_
  refine q_iload_n dX12_fails_1 rfl ?_
  replace E := grd_some E
  obtain ⟨g1, E⟩ := E
  replace E := bnd_x E
  obtain ⟨h2, eh2, E⟩ := E
  refine r_putI (hh := eh2) dX12_fails_2 FX12_117 g1 rfl rfl ?_
  refine q_iconst dX12_fails_5 ?_
  cases E
  exact q_ireturn dX12_fails_6 rfl hK
theorem c_X12_fails {l : Launch} {G : mG} {p0 : Nat} {v1 : Int32} {h h' : mH} {r : Int32} (E : f_X12_fails p0 v1 h = some (r, h')) : mMet l G m_X12_fails 0 0 0 [.ref p0, .int v1] h (fun v k => v = some (.int r) ∧ h' = k) (fun _ _ => False) :=
  mMet_of (by decide +kernel) rfl (ac_c rfl (ac_c rfl ac_0)) (Nat.le_of_ble_eq_true rfl) (s_X12_fails_0 p0 v1 h E (And.intro rfl rfl))
set_option maxRecDepth 100000 in
set_option maxHeartbeats 4000000 in
theorem s_X12_isBetween_15 {l : Launch} {G : mG} {Q : Option Value → mH → Prop} {X : String → mH → Prop} (s0 : Int32) (h : mH) {o : Int32 × mH} (E : g_X12_isBetween_15 s0 h = some o) (hK : (fiI Q) o) : mW l G m_X12_isBetween 0 0 0 15 [none, none, none] [.int s0] h Q X := by
  unfold g_X12_isBetween_15 at E
  replace E := grd_some E
  obtain ⟨g1, E⟩ := E
  cases E
  exact q_zreturn dX12_isBetween_15 rfl (narZ g1) hK
set_option maxRecDepth 100000 in
set_option maxHeartbeats 4000000 in
theorem s_X12_isBetween_14 {l : Launch} {G : mG} {Q : Option Value → mH → Prop} {X : String → mH → Prop} (h : mH) {o : Int32 × mH} (E : g_X12_isBetween_14  h = some o) (hK : (fiI Q) o) : mW l G m_X12_isBetween 0 0 0 14 [none, none, none] [] h Q X := by
  unfold g_X12_isBetween_14 at E
  refine q_iconst dX12_isBetween_14 ?_
  exact r_fewer [none, none, none] (ls_n (ls_n (ls_n ls_0))) (s_X12_isBetween_15 (Int32.ofInt 0) h E hK)
set_option maxRecDepth 100000 in
set_option maxHeartbeats 4000000 in
theorem s_X12_isBetween_0 {l : Launch} {G : mG} {Q : Option Value → mH → Prop} {X : String → mH → Prop} (v0 : Int32) (v1 : Int32) (v2 : Int32) (h : mH) {o : Int32 × mH} (E : f_X12_isBetween v0 v1 v2 h = some o) (hK : (fiI Q) o) : mW l G m_X12_isBetween 0 0 0 0 [some (.int v0), some (.int v1), some (.int v2)] [] h Q X := by
  unfold f_X12_isBetween at E
  refine q_iload_n dX12_isBetween_0 rfl ?_
  refine q_iload_n dX12_isBetween_1 rfl ?_
  refine q_icmp_gt (tgt := 14) dX12_isBetween_2 (by decide) (fun z1 => ?_) (fun z1 => ?_)
  · replace E := ite_t E z1
    exact r_fewer [none, none, none] (ls_n (ls_n (ls_n ls_0))) (s_X12_isBetween_14 h E hK)
  · replace E := ite_f E z1
    refine q_iload_n dX12_isBetween_5 rfl ?_
    refine q_iload_n dX12_isBetween_6 rfl ?_
    refine q_icmp_gt (tgt := 14) dX12_isBetween_7 (by decide) (fun z2 => ?_) (fun z2 => ?_)
    · replace E := ite_t E z2
      exact r_fewer [none, none, none] (ls_n (ls_n (ls_n ls_0))) (s_X12_isBetween_14 h E hK)
    · replace E := ite_f E z2
      refine q_iconst dX12_isBetween_10 ?_
      refine q_goto (tgt := 15) dX12_isBetween_11 (by decide) ?_
      exact r_fewer [none, none, none] (ls_n (ls_n (ls_n ls_0))) (s_X12_isBetween_15 (Int32.ofInt 1) h E hK)
theorem c_X12_isBetween {l : Launch} {G : mG} {v0 : Int32} {v1 : Int32} {v2 : Int32} {h h' : mH} {r : Int32} (E : f_X12_isBetween v0 v1 v2 h = some (r, h')) : mMet l G m_X12_isBetween 0 0 0 [.int v0, .int v1, .int v2] h (fun v k => v = some (.int r) ∧ h' = k) (fun _ _ => False) :=
  mMet_of (by decide +kernel) rfl (ac_c rfl (ac_c rfl (ac_c rfl ac_0))) (Nat.le_of_ble_eq_true rfl) (s_X12_isBetween_0 v0 v1 v2 h E (And.intro rfl rfl))
set_option maxRecDepth 100000 in
set_option maxHeartbeats 4000000 in
theorem sb_X12_copies_2 {l : Launch} {G : mG} {Q : Option Value → mH → Prop} {X : String → mH → Prop} (p0 : Nat) (v1 : Int32) (h : mH) {o : ((Int32 × mH) ⊕ (Unit × mH))} (E : b0_X12_copies_2 p0 v1 h = some o) (hK : (lpK (w_X12_copies_2 l G Q X p0) (fiV Q)) o) : mW l G m_X12_copies 0 0 0 2 [some (.ref p0), some (.int v1)] [] h Q X := by
  unfold b0_X12_copies_2 at E
  refine q_iload_n dX12_copies_2 rfl ?_
  refine q_sipush (v := (Int32.ofInt 248)) dX12_copies_3 (by decide) ?_
  refine q_icmp_ge (tgt := 27) dX12_copies_6 (by decide) (fun z1 => ?_) (fun z1 => ?_)
  · replace E := ite_t E z1
    cases E
    exact q_return dX12_copies_27 rfl hK
  · replace E := ite_f E z1
    refine q_aload_n dX12_copies_9 rfl ?_
    replace E := grd_some E
    obtain ⟨g2, E⟩ := E
    replace E := orf_some E
    obtain ⟨a3, ea3, E⟩ := E
    refine r_getR dX12_copies_10 FX12_19 g2 ea3 ?_
    refine q_iload_n dX12_copies_13 rfl ?_
    refine q_aload_n dX12_copies_14 rfl ?_
    replace E := orf_some E
    obtain ⟨a4, ea4, E⟩ := E
    refine r_getR dX12_copies_15 FX12_7 g2 ea4 ?_
    refine q_iload_n dX12_copies_18 rfl ?_
    replace E := grd_some E
    obtain ⟨g5, E⟩ := E
    replace E := grd_some E
    obtain ⟨g6, E⟩ := E
    refine r_iaload dX12_copies_19 g5 g6 ?_
    replace E := grd_some E
    obtain ⟨g8, E⟩ := E
    replace E := grd_some E
    obtain ⟨g9, E⟩ := E
    replace E := bnd_x E
    obtain ⟨h7, eh7, E⟩ := E
    refine r_iastore (hh := eh7) dX12_copies_20 g8 g9 ?_
    replace E := bnd_x E
    obtain ⟨x10, ex10, E⟩ := E
    refine r_iinc (v := x10) dX12_copies_21 rfl ex10 (by decide) (ls' := [some (.ref p0), some (.int x10)]) rfl ?_
    refine q_goto (tgt := 2) dX12_copies_24 (by decide) ?_
    cases E
    exact r_fewer [some (.ref p0), some (.int x10)] (ls_s (ls_s ls_0)) hK
theorem s_X12_copies_2 {l : Launch} {G : mG} {Q : Option Value → mH → Prop} {X : String → mH → Prop} (p0 : Nat) (v1 : Int32) (h : mH) {o : Unit × mH} (E : g_X12_copies_2 p0 v1 h = some o) (hK : (fiV Q) o) : mW l G m_X12_copies 0 0 0 2 [some (.ref p0), some (.int v1)] [] h Q X :=
  (lp_go (w_X12_copies_2 l G Q X p0) (fiV Q) (b_X12_copies_2 p0) (fun s o E hK => sb_X12_copies_2 p0 s.1 (s.2) E hK) _ _ _ E hK : w_X12_copies_2 l G Q X p0 (v1, h))
set_option maxRecDepth 100000 in
set_option maxHeartbeats 4000000 in
theorem s_X12_copies_0 {l : Launch} {G : mG} {Q : Option Value → mH → Prop} {X : String → mH → Prop} (p0 : Nat) (h : mH) {o : Unit × mH} (E : f_X12_copies p0 h = some o) (hK : (fiV Q) o) : mW l G m_X12_copies 0 0 0 0 [some (.ref p0), none] [] h Q X := by
  unfold f_X12_copies at E
  refine q_iconst dX12_copies_0 ?_
  refine r_istore_n dX12_copies_1 (by decide) rfl (ls' := [some (.ref p0), some (.int (Int32.ofInt 0))]) rfl ?_
  exact r_fewer [some (.ref p0), some (.int (Int32.ofInt 0))] (ls_s (ls_s ls_0)) (s_X12_copies_2 p0 (Int32.ofInt 0) h E hK)
theorem c_X12_copies {l : Launch} {G : mG} {p0 : Nat} {h h' : mH} {r : Unit} (E : f_X12_copies p0 h = some (r, h')) : mMet l G m_X12_copies 0 0 0 [.ref p0] h (fun v k => v = none ∧ h' = k) (fun _ _ => False) :=
  mMet_of (by decide +kernel) rfl (ac_c rfl ac_0) (Nat.le_of_ble_eq_true rfl) (s_X12_copies_0 p0 h E (And.intro rfl rfl))
set_option maxRecDepth 100000 in
set_option maxHeartbeats 4000000 in
theorem sb_X12_goesBack_2 {l : Launch} {G : mG} {Q : Option Value → mH → Prop} {X : String → mH → Prop} (p0 : Nat) (v1 : Int32) (h : mH) {o : ((Int32 × mH) ⊕ (Unit × mH))} (E : b0_X12_goesBack_2 p0 v1 h = some o) (hK : (lpK (w_X12_goesBack_2 l G Q X p0) (fiV Q)) o) : mW l G m_X12_goesBack 0 0 0 2 [some (.ref p0), some (.int v1)] [] h Q X := by
  unfold b0_X12_goesBack_2 at E
  refine q_iload_n dX12_goesBack_2 rfl ?_
  refine q_sipush (v := (Int32.ofInt 248)) dX12_goesBack_3 (by decide) ?_
  refine q_icmp_ge (tgt := 27) dX12_goesBack_6 (by decide) (fun z1 => ?_) (fun z1 => ?_)
  · replace E := ite_t E z1
    cases E
    exact q_return dX12_goesBack_27 rfl hK
  · replace E := ite_f E z1
    refine q_aload_n dX12_goesBack_9 rfl ?_
    replace E := grd_some E
    obtain ⟨g2, E⟩ := E
    replace E := orf_some E
    obtain ⟨a3, ea3, E⟩ := E
    refine r_getR dX12_goesBack_10 FX12_7 g2 ea3 ?_
    refine q_iload_n dX12_goesBack_13 rfl ?_
    refine q_aload_n dX12_goesBack_14 rfl ?_
    replace E := orf_some E
    obtain ⟨a4, ea4, E⟩ := E
    refine r_getR dX12_goesBack_15 FX12_19 g2 ea4 ?_
    refine q_iload_n dX12_goesBack_18 rfl ?_
    replace E := grd_some E
    obtain ⟨g5, E⟩ := E
    replace E := grd_some E
    obtain ⟨g6, E⟩ := E
    refine r_iaload dX12_goesBack_19 g5 g6 ?_
    replace E := grd_some E
    obtain ⟨g8, E⟩ := E
    replace E := grd_some E
    obtain ⟨g9, E⟩ := E
    replace E := bnd_x E
    obtain ⟨h7, eh7, E⟩ := E
    refine r_iastore (hh := eh7) dX12_goesBack_20 g8 g9 ?_
    replace E := bnd_x E
    obtain ⟨x10, ex10, E⟩ := E
    refine r_iinc (v := x10) dX12_goesBack_21 rfl ex10 (by decide) (ls' := [some (.ref p0), some (.int x10)]) rfl ?_
    refine q_goto (tgt := 2) dX12_goesBack_24 (by decide) ?_
    cases E
    exact r_fewer [some (.ref p0), some (.int x10)] (ls_s (ls_s ls_0)) hK
theorem s_X12_goesBack_2 {l : Launch} {G : mG} {Q : Option Value → mH → Prop} {X : String → mH → Prop} (p0 : Nat) (v1 : Int32) (h : mH) {o : Unit × mH} (E : g_X12_goesBack_2 p0 v1 h = some o) (hK : (fiV Q) o) : mW l G m_X12_goesBack 0 0 0 2 [some (.ref p0), some (.int v1)] [] h Q X :=
  (lp_go (w_X12_goesBack_2 l G Q X p0) (fiV Q) (b_X12_goesBack_2 p0) (fun s o E hK => sb_X12_goesBack_2 p0 s.1 (s.2) E hK) _ _ _ E hK : w_X12_goesBack_2 l G Q X p0 (v1, h))
set_option maxRecDepth 100000 in
set_option maxHeartbeats 4000000 in
theorem s_X12_goesBack_0 {l : Launch} {G : mG} {Q : Option Value → mH → Prop} {X : String → mH → Prop} (p0 : Nat) (h : mH) {o : Unit × mH} (E : f_X12_goesBack p0 h = some o) (hK : (fiV Q) o) : mW l G m_X12_goesBack 0 0 0 0 [some (.ref p0), none] [] h Q X := by
  unfold f_X12_goesBack at E
  refine q_iconst dX12_goesBack_0 ?_
  refine r_istore_n dX12_goesBack_1 (by decide) rfl (ls' := [some (.ref p0), some (.int (Int32.ofInt 0))]) rfl ?_
  exact r_fewer [some (.ref p0), some (.int (Int32.ofInt 0))] (ls_s (ls_s ls_0)) (s_X12_goesBack_2 p0 (Int32.ofInt 0) h E hK)
theorem c_X12_goesBack {l : Launch} {G : mG} {p0 : Nat} {h h' : mH} {r : Unit} (E : f_X12_goesBack p0 h = some (r, h')) : mMet l G m_X12_goesBack 0 0 0 [.ref p0] h (fun v k => v = none ∧ h' = k) (fun _ _ => False) :=
  mMet_of (by decide +kernel) rfl (ac_c rfl ac_0) (Nat.le_of_ble_eq_true rfl) (s_X12_goesBack_0 p0 h E (And.intro rfl rfl))
set_option maxRecDepth 100000 in
set_option maxHeartbeats 4000000 in
theorem sb_X12_keeps_47 {l : Launch} {G : mG} {Q : Option Value → mH → Prop} {X : String → mH → Prop} (p0 : Nat) (v1 : Int32) (v2 : Int32) (h : mH) {o : ((Int32 × mH) ⊕ (Unit × mH))} (E : b0_X12_keeps_47 p0 v1 v2 h = some o) (hK : (lpK (w_X12_keeps_47 l G Q X p0 v1) (fiV Q)) o) : mW l G m_X12_keeps 0 0 0 47 [some (.ref p0), some (.int v1), some (.int v2)] [] h Q X := by
  unfold b0_X12_keeps_47 at E
  refine q_iload_n dX12_keeps_47 rfl ?_
  refine q_sipush (v := (Int32.ofInt 248)) dX12_keeps_48 (by decide) ?_
  refine q_icmp_ge (tgt := 78) dX12_keeps_51 (by decide) (fun z1 => ?_) (fun z1 => ?_)
  · replace E := ite_t E z1
    refine q_aload_n dX12_keeps_78 rfl ?_
    refine q_dup dX12_keeps_79 ?_
    replace E := grd_some E
    obtain ⟨g2, E⟩ := E
    refine r_getI dX12_keeps_80 FX12_120 g2 ?_
    refine q_iconst dX12_keeps_83 ?_
    refine q_iadd dX12_keeps_84 ?_
    replace E := bnd_x E
    obtain ⟨h3, eh3, E⟩ := E
    refine r_putI (hh := eh3) dX12_keeps_85 FX12_120 g2 rfl rfl ?_
    cases E
    exact q_return dX12_keeps_88 rfl hK
  · replace E := ite_f E z1
    refine q_aload_n dX12_keeps_54 rfl ?_
    replace E := grd_some E
    obtain ⟨g4, E⟩ := E
    replace E := orf_some E
    obtain ⟨a5, ea5, E⟩ := E
    refine r_getR dX12_keeps_55 FX12_13 g4 ea5 ?_
    refine q_sipush (v := (Int32.ofInt 248)) dX12_keeps_58 (by decide) ?_
    refine q_iload_n dX12_keeps_61 rfl ?_
    refine q_imul dX12_keeps_62 ?_
    refine q_iload_n dX12_keeps_63 rfl ?_
    refine q_iadd dX12_keeps_64 ?_
    refine q_aload_n dX12_keeps_65 rfl ?_
    replace E := orf_some E
    obtain ⟨a6, ea6, E⟩ := E
    refine r_getR dX12_keeps_66 FX12_19 g4 ea6 ?_
    refine q_iload_n dX12_keeps_69 rfl ?_
    replace E := grd_some E
    obtain ⟨g7, E⟩ := E
    replace E := grd_some E
    obtain ⟨g8, E⟩ := E
    refine r_iaload dX12_keeps_70 g7 g8 ?_
    replace E := grd_some E
    obtain ⟨g10, E⟩ := E
    replace E := grd_some E
    obtain ⟨g11, E⟩ := E
    replace E := bnd_x E
    obtain ⟨h9, eh9, E⟩ := E
    refine r_iastore (hh := eh9) dX12_keeps_71 g10 g11 ?_
    replace E := bnd_x E
    obtain ⟨x12, ex12, E⟩ := E
    refine r_iinc (v := x12) dX12_keeps_72 rfl ex12 (by decide) (ls' := [some (.ref p0), some (.int v1), some (.int x12)]) rfl ?_
    refine q_goto (tgt := 47) dX12_keeps_75 (by decide) ?_
    cases E
    exact r_fewer [some (.ref p0), some (.int v1), some (.int x12)] (ls_s (ls_s (ls_s ls_0))) hK
theorem s_X12_keeps_47 {l : Launch} {G : mG} {Q : Option Value → mH → Prop} {X : String → mH → Prop} (p0 : Nat) (v1 : Int32) (v2 : Int32) (h : mH) {o : Unit × mH} (E : g_X12_keeps_47 p0 v1 v2 h = some o) (hK : (fiV Q) o) : mW l G m_X12_keeps 0 0 0 47 [some (.ref p0), some (.int v1), some (.int v2)] [] h Q X :=
  (lp_go (w_X12_keeps_47 l G Q X p0 v1) (fiV Q) (b_X12_keeps_47 p0 v1) (fun s o E hK => sb_X12_keeps_47 p0 v1 s.1 (s.2) E hK) _ _ _ E hK : w_X12_keeps_47 l G Q X p0 v1 (v2, h))
set_option maxRecDepth 100000 in
set_option maxHeartbeats 4000000 in
theorem s_X12_keeps_32 {l : Launch} {G : mG} {Q : Option Value → mH → Prop} {X : String → mH → Prop} (p0 : Nat) (h : mH) {o : Unit × mH} (E : g_X12_keeps_32 p0 h = some o) (hK : (fiV Q) o) : mW l G m_X12_keeps 0 0 0 32 [some (.ref p0), none, none] [] h Q X := by
  unfold g_X12_keeps_32 at E
  refine q_aload_n dX12_keeps_32 rfl ?_
  replace E := grd_some E
  obtain ⟨g1, E⟩ := E
  refine r_getI dX12_keeps_33 FX12_123 g1 ?_
  refine q_aload_n dX12_keeps_36 rfl ?_
  refine r_getI dX12_keeps_37 FX12_120 g1 ?_
  refine q_iadd dX12_keeps_40 ?_
  refine q_bipush (v := (Int32.ofInt 8)) dX12_keeps_41 (by decide) ?_
  refine q_irem (by decide) dX12_keeps_43 ?_
  replace E := bnd_x E
  obtain ⟨x2, ex2, E⟩ := E
  refine r_istore_n dX12_keeps_44 (by decide) ex2 (ls' := [some (.ref p0), some (.int x2), none]) rfl ?_
  refine q_iconst dX12_keeps_45 ?_
  refine r_istore_n dX12_keeps_46 (by decide) rfl (ls' := [some (.ref p0), some (.int x2), some (.int (Int32.ofInt 0))]) rfl ?_
  exact r_fewer [some (.ref p0), some (.int x2), some (.int (Int32.ofInt 0))] (ls_s (ls_s (ls_s ls_0))) (s_X12_keeps_47 p0 x2 (Int32.ofInt 0) h E hK)
set_option maxRecDepth 100000 in
set_option maxHeartbeats 4000000 in
theorem s_X12_keeps_0 {l : Launch} {G : mG} {Q : Option Value → mH → Prop} {X : String → mH → Prop} (p0 : Nat) (h : mH) {o : Unit × mH} (E : f_X12_keeps p0 h = some o) (hK : (fiV Q) o) : mW l G m_X12_keeps 0 0 0 0 [some (.ref p0), none, none] [] h Q X := by
  unfold f_X12_keeps at E
  refine q_aload_n dX12_keeps_0 rfl ?_
  replace E := grd_some E
  obtain ⟨g1, E⟩ := E
  refine r_getI dX12_keeps_1 FX12_120 g1 ?_
  refine q_bipush (v := (Int32.ofInt 8)) dX12_keeps_4 (by decide) ?_
  refine q_icmp_ne (tgt := 32) dX12_keeps_6 (by decide) (fun z2 => ?_) (fun z2 => ?_)
  · replace E := ite_f E z2
    exact r_fewer [some (.ref p0), none, none] (ls_s (ls_n (ls_n ls_0))) (s_X12_keeps_32 p0 h E hK)
  · replace E := ite_t E z2
    refine q_aload_n dX12_keeps_9 rfl ?_
    refine q_aload_n dX12_keeps_10 rfl ?_
    refine r_getI dX12_keeps_11 FX12_123 g1 ?_
    refine q_iconst dX12_keeps_14 ?_
    refine q_iadd dX12_keeps_15 ?_
    refine q_bipush (v := (Int32.ofInt 8)) dX12_keeps_16 (by decide) ?_
    refine q_irem (by decide) dX12_keeps_18 ?_
    replace E := bnd_x E
    obtain ⟨h3, eh3, E⟩ := E
    refine r_putI (hh := eh3) dX12_keeps_19 FX12_123 g1 rfl rfl ?_
    refine q_aload_n dX12_keeps_22 rfl ?_
    refine q_dup dX12_keeps_23 ?_
    replace E := grd_some E
    obtain ⟨g4, E⟩ := E
    refine r_getI dX12_keeps_24 FX12_120 g4 ?_
    refine q_iconst dX12_keeps_27 ?_
    refine q_isub dX12_keeps_28 ?_
    replace E := bnd_x E
    obtain ⟨h5, eh5, E⟩ := E
    refine r_putI (hh := eh5) dX12_keeps_29 FX12_120 g4 rfl rfl ?_
    exact r_fewer [some (.ref p0), none, none] (ls_s (ls_n (ls_n ls_0))) (s_X12_keeps_32 p0 h5 E hK)
theorem c_X12_keeps {l : Launch} {G : mG} {p0 : Nat} {h h' : mH} {r : Unit} (E : f_X12_keeps p0 h = some (r, h')) : mMet l G m_X12_keeps 0 0 0 [.ref p0] h (fun v k => v = none ∧ h' = k) (fun _ _ => False) :=
  mMet_of (by decide +kernel) rfl (ac_c rfl ac_0) (Nat.le_of_ble_eq_true rfl) (s_X12_keeps_0 p0 h E (And.intro rfl rfl))
set_option maxRecDepth 100000 in
set_option maxHeartbeats 4000000 in
theorem s_X12_remembers_0 {l : Launch} {G : mG} {Q : Option Value → mH → Prop} {X : String → mH → Prop} (p0 : Nat) (h : mH) {o : Unit × mH} (E : f_X12_remembers p0 h = some o) (hK : (fiV Q) o) : mW l G m_X12_remembers 1 0 0 0 [some (.ref p0)] [] h Q X := by
  unfold f_X12_remembers at E
  refine q_aload_n dX12_remembers_0 rfl ?_
  replace E := grd_some E
  obtain ⟨g3, E⟩ := E
  replace E := cal_some E
  obtain ⟨_, h1, hc, E⟩ := E
  refine r_callV0 (mc := 0) (ms := 0) dX12_remembers_1 KX12_126 (c_X12_copies hc) g3 (by decide) (Nat.le_of_ble_eq_true rfl) (fun _ _ q => q.elim) ?_
  rintro _ _ ⟨rfl, rfl⟩
  clear hc
  refine q_aload_n dX12_remembers_4 rfl ?_
  replace E := grd_some E
  obtain ⟨g6, E⟩ := E
  replace E := cal_some E
  obtain ⟨_, h4, hc, E⟩ := E
  refine r_callV0 (mc := 0) (ms := 0) dX12_remembers_5 KX12_129 (c_X12_keeps hc) g6 (by decide) (Nat.le_of_ble_eq_true rfl) (fun _ _ q => q.elim) ?_
  rintro _ _ ⟨rfl, rfl⟩
  clear hc
  cases E
  exact q_return dX12_remembers_8 rfl hK
theorem c_X12_remembers {l : Launch} {G : mG} {p0 : Nat} {h h' : mH} {r : Unit} (E : f_X12_remembers p0 h = some (r, h')) : mMet l G m_X12_remembers 1 0 0 [.ref p0] h (fun v k => v = none ∧ h' = k) (fun _ _ => False) :=
  mMet_of (by decide +kernel) rfl (ac_c rfl ac_0) (Nat.le_of_ble_eq_true rfl) (s_X12_remembers_0 p0 h E (And.intro rfl rfl))
set_option maxRecDepth 100000 in
set_option maxHeartbeats 4000000 in
theorem s_X12_isSlot_0 {l : Launch} {G : mG} {Q : Option Value → mH → Prop} {X : String → mH → Prop} (v0 : Int32) (h : mH) {o : Int32 × mH} (E : f_X12_isSlot v0 h = some o) (hK : (fiI Q) o) : mW l G m_X12_isSlot 1 0 0 0 [some (.int v0)] [] h Q X := by
  unfold f_X12_isSlot at E
  refine q_iload_n dX12_isSlot_0 rfl ?_
  refine q_iconst dX12_isSlot_1 ?_
  refine q_iconst dX12_isSlot_2 ?_
  replace E := cal_some E
  obtain ⟨x2, h1, hc, E⟩ := E
  refine r_callS3 (mc := 0) (ms := 0) dX12_isSlot_3 KX12_132 (c_X12_isBetween hc) (by decide) (Nat.le_of_ble_eq_true rfl) (fun _ _ q => q.elim) ?_
  rintro _ _ ⟨rfl, rfl⟩
  clear hc
  replace E := grd_some E
  obtain ⟨g3, E⟩ := E
  cases E
  exact q_zreturn dX12_isSlot_6 rfl (narZ g3) hK
theorem c_X12_isSlot {l : Launch} {G : mG} {v0 : Int32} {h h' : mH} {r : Int32} (E : f_X12_isSlot v0 h = some (r, h')) : mMet l G m_X12_isSlot 1 0 0 [.int v0] h (fun v k => v = some (.int r) ∧ h' = k) (fun _ _ => False) :=
  mMet_of (by decide +kernel) rfl (ac_c rfl ac_0) (Nat.le_of_ble_eq_true rfl) (s_X12_isSlot_0 v0 h E (And.intro rfl rfl))
set_option maxRecDepth 100000 in
set_option maxHeartbeats 4000000 in
theorem s_X12_length_0 {l : Launch} {G : mG} {Q : Option Value → mH → Prop} {X : String → mH → Prop} (p0 : Nat) (v1 : Int32) (h : mH) {o : Int32 × mH} (E : f_X12_length p0 v1 h = some o) (hK : (fiI Q) o) : mW l G m_X12_length 0 0 0 0 [some (.ref p0), some (.int v1)] [] h Q X := by
  unfold f_X12_length at E
  refine q_aload_n dX12_length_0 rfl ?_
  replace E := grd_some E
  obtain ⟨g1, E⟩ := E
  replace E := orf_some E
  obtain ⟨a2, ea2, E⟩ := E
  refine r_getR dX12_length_1 FX12_7 g1 ea2 ?_
  refine q_iconst dX12_length_4 ?_
  refine q_bipush (v := (Int32.ofInt 29)) dX12_length_5 (by decide) ?_
  refine q_iload_n dX12_length_7 rfl ?_
  refine q_imul dX12_length_8 ?_
  refine q_iadd dX12_length_9 ?_
  replace E := grd_some E
  obtain ⟨g3, E⟩ := E
  replace E := grd_some E
  obtain ⟨g4, E⟩ := E
  refine r_iaload dX12_length_10 g3 g4 ?_
  cases E
  exact q_ireturn dX12_length_11 rfl hK
theorem c_X12_length {l : Launch} {G : mG} {p0 : Nat} {v1 : Int32} {h h' : mH} {r : Int32} (E : f_X12_length p0 v1 h = some (r, h')) : mMet l G m_X12_length 0 0 0 [.ref p0, .int v1] h (fun v k => v = some (.int r) ∧ h' = k) (fun _ _ => False) :=
  mMet_of (by decide +kernel) rfl (ac_c rfl (ac_c rfl ac_0)) (Nat.le_of_ble_eq_true rfl) (s_X12_length_0 p0 v1 h E (And.intro rfl rfl))
set_option maxRecDepth 100000 in
set_option maxHeartbeats 4000000 in
theorem s_X12_code_0 {l : Launch} {G : mG} {Q : Option Value → mH → Prop} {X : String → mH → Prop} (p0 : Nat) (v1 : Int32) (v2 : Int32) (h : mH) {o : Int32 × mH} (E : f_X12_code p0 v1 v2 h = some o) (hK : (fiI Q) o) : mW l G m_X12_code 0 0 0 0 [some (.ref p0), some (.int v1), some (.int v2)] [] h Q X := by
  unfold f_X12_code at E
  refine q_aload_n dX12_code_0 rfl ?_
  replace E := grd_some E
  obtain ⟨g1, E⟩ := E
  replace E := orf_some E
  obtain ⟨a2, ea2, E⟩ := E
  refine r_getR dX12_code_1 FX12_7 g1 ea2 ?_
  refine q_iconst dX12_code_4 ?_
  refine q_bipush (v := (Int32.ofInt 29)) dX12_code_5 (by decide) ?_
  refine q_iload_n dX12_code_7 rfl ?_
  refine q_imul dX12_code_8 ?_
  refine q_iadd dX12_code_9 ?_
  refine q_iconst dX12_code_10 ?_
  refine q_iadd dX12_code_11 ?_
  refine q_iload_n dX12_code_12 rfl ?_
  refine q_iadd dX12_code_13 ?_
  replace E := grd_some E
  obtain ⟨g3, E⟩ := E
  replace E := grd_some E
  obtain ⟨g4, E⟩ := E
  refine r_iaload dX12_code_14 g3 g4 ?_
  cases E
  exact q_ireturn dX12_code_15 rfl hK
theorem c_X12_code {l : Launch} {G : mG} {p0 : Nat} {v1 : Int32} {v2 : Int32} {h h' : mH} {r : Int32} (E : f_X12_code p0 v1 v2 h = some (r, h')) : mMet l G m_X12_code 0 0 0 [.ref p0, .int v1, .int v2] h (fun v k => v = some (.int r) ∧ h' = k) (fun _ _ => False) :=
  mMet_of (by decide +kernel) rfl (ac_c rfl (ac_c rfl (ac_c rfl ac_0))) (Nat.le_of_ble_eq_true rfl) (s_X12_code_0 p0 v1 v2 h E (And.intro rfl rfl))
set_option maxRecDepth 100000 in
set_option maxHeartbeats 4000000 in
theorem s_X12_holds_20 {l : Launch} {G : mG} {Q : Option Value → mH → Prop} {X : String → mH → Prop} (s0 : Int32) (h : mH) {o : Int32 × mH} (E : g_X12_holds_20 s0 h = some o) (hK : (fiI Q) o) : mW l G m_X12_holds 2 0 0 20 [none, none] [.int s0] h Q X := by
  unfold g_X12_holds_20 at E
  replace E := grd_some E
  obtain ⟨g1, E⟩ := E
  cases E
  exact q_zreturn dX12_holds_20 rfl (narZ g1) hK
set_option maxRecDepth 100000 in
set_option maxHeartbeats 4000000 in
theorem s_X12_holds_19 {l : Launch} {G : mG} {Q : Option Value → mH → Prop} {X : String → mH → Prop} (h : mH) {o : Int32 × mH} (E : g_X12_holds_19  h = some o) (hK : (fiI Q) o) : mW l G m_X12_holds 2 0 0 19 [none, none] [] h Q X := by
  unfold g_X12_holds_19 at E
  refine q_iconst dX12_holds_19 ?_
  exact r_fewer [none, none] (ls_n (ls_n ls_0)) (s_X12_holds_20 (Int32.ofInt 0) h E hK)
set_option maxRecDepth 100000 in
set_option maxHeartbeats 4000000 in
theorem s_X12_holds_0 {l : Launch} {G : mG} {Q : Option Value → mH → Prop} {X : String → mH → Prop} (p0 : Nat) (v1 : Int32) (h : mH) {o : Int32 × mH} (E : f_X12_holds p0 v1 h = some o) (hK : (fiI Q) o) : mW l G m_X12_holds 2 0 0 0 [some (.ref p0), some (.int v1)] [] h Q X := by
  unfold f_X12_holds at E
  refine q_iload_n dX12_holds_0 rfl ?_
  replace E := cal_some E
  obtain ⟨x2, h1, hc, E⟩ := E
  refine r_callS1 (mc := 0) (ms := 0) dX12_holds_1 KX12_136 (c_X12_isSlot hc) (by decide) (Nat.le_of_ble_eq_true rfl) (fun _ _ q => q.elim) ?_
  rintro _ _ ⟨rfl, rfl⟩
  clear hc
  refine q_if_eq (tgt := 19) dX12_holds_4 (by decide) (fun z3 => ?_) (fun z3 => ?_)
  · replace E := ite_t E z3
    exact r_fewer [none, none] (ls_n (ls_n ls_0)) (s_X12_holds_19 h1 E hK)
  · replace E := ite_f E z3
    refine q_aload_n dX12_holds_7 rfl ?_
    refine q_iload_n dX12_holds_8 rfl ?_
    replace E := grd_some E
    obtain ⟨g6, E⟩ := E
    replace E := cal_some E
    obtain ⟨x5, h4, hc, E⟩ := E
    refine r_callV1 (mc := 0) (ms := 0) dX12_holds_9 KX12_140 (c_X12_length hc) g6 (by decide) (Nat.le_of_ble_eq_true rfl) (fun _ _ q => q.elim) ?_
    rintro _ _ ⟨rfl, rfl⟩
    clear hc
    refine q_if_le (tgt := 19) dX12_holds_12 (by decide) (fun z7 => ?_) (fun z7 => ?_)
    · replace E := ite_t E z7
      exact r_fewer [none, none] (ls_n (ls_n ls_0)) (s_X12_holds_19 h4 E hK)
    · replace E := ite_f E z7
      refine q_iconst dX12_holds_15 ?_
      refine q_goto (tgt := 20) dX12_holds_16 (by decide) ?_
      exact r_fewer [none, none] (ls_n (ls_n ls_0)) (s_X12_holds_20 (Int32.ofInt 1) h4 E hK)
theorem c_X12_holds {l : Launch} {G : mG} {p0 : Nat} {v1 : Int32} {h h' : mH} {r : Int32} (E : f_X12_holds p0 v1 h = some (r, h')) : mMet l G m_X12_holds 2 0 0 [.ref p0, .int v1] h (fun v k => v = some (.int r) ∧ h' = k) (fun _ _ => False) :=
  mMet_of (by decide +kernel) rfl (ac_c rfl (ac_c rfl ac_0)) (Nat.le_of_ble_eq_true rfl) (s_X12_holds_0 p0 v1 h E (And.intro rfl rfl))
set_option maxRecDepth 100000 in
set_option maxHeartbeats 4000000 in
theorem s_X12_adds_0 {l : Launch} {G : mG} {Q : Option Value → mH → Prop} {X : String → mH → Prop} (p0 : Nat) (v1 : Int32) (h : mH) {o : Unit × mH} (E : f_X12_adds p0 v1 h = some o) (hK : (fiV Q) o) : mW l G m_X12_adds 0 0 0 0 [some (.ref p0), some (.int v1)] [] h Q X := by
  unfold f_X12_adds at E
  refine q_aload_n dX12_adds_0 rfl ?_
  replace E := grd_some E
  obtain ⟨g1, E⟩ := E
  replace E := orf_some E
  obtain ⟨a2, ea2, E⟩ := E
  refine r_getR dX12_adds_1 FX12_22 g1 ea2 ?_
  refine q_aload_n dX12_adds_4 rfl ?_
  refine r_getI dX12_adds_5 FX12_144 g1 ?_
  refine q_iload_n dX12_adds_8 rfl ?_
  replace E := grd_some E
  obtain ⟨g4, E⟩ := E
  replace E := grd_some E
  obtain ⟨g5, E⟩ := E
  replace E := bnd_x E
  obtain ⟨h3, eh3, E⟩ := E
  refine r_iastore (hh := eh3) dX12_adds_9 g4 g5 ?_
  refine q_aload_n dX12_adds_10 rfl ?_
  refine q_dup dX12_adds_11 ?_
  replace E := grd_some E
  obtain ⟨g6, E⟩ := E
  refine r_getI dX12_adds_12 FX12_144 g6 ?_
  refine q_iconst dX12_adds_15 ?_
  refine q_iadd dX12_adds_16 ?_
  replace E := bnd_x E
  obtain ⟨h7, eh7, E⟩ := E
  refine r_putI (hh := eh7) dX12_adds_17 FX12_144 g6 rfl rfl ?_
  cases E
  exact q_return dX12_adds_20 rfl hK
theorem c_X12_adds {l : Launch} {G : mG} {p0 : Nat} {v1 : Int32} {h h' : mH} {r : Unit} (E : f_X12_adds p0 v1 h = some (r, h')) : mMet l G m_X12_adds 0 0 0 [.ref p0, .int v1] h (fun v k => v = none ∧ h' = k) (fun _ _ => False) :=
  mMet_of (by decide +kernel) rfl (ac_c rfl (ac_c rfl ac_0)) (Nat.le_of_ble_eq_true rfl) (s_X12_adds_0 p0 v1 h E (And.intro rfl rfl))
set_option maxRecDepth 100000 in
set_option maxHeartbeats 4000000 in
theorem sb_X12_copiesSlot_2 {l : Launch} {G : mG} {Q : Option Value → mH → Prop} {X : String → mH → Prop} (p0 : Nat) (v1 : Int32) (v2 : Int32) (h : mH) {o : ((Int32 × mH) ⊕ (Unit × mH))} (E : b0_X12_copiesSlot_2 p0 v1 v2 h = some o) (hK : (lpK (w_X12_copiesSlot_2 l G Q X p0 v1) (fiV Q)) o) : mW l G m_X12_copiesSlot 1 0 0 2 [some (.ref p0), some (.int v1), some (.int v2)] [] h Q X := by
  unfold b0_X12_copiesSlot_2 at E
  refine q_iload_n dX12_copiesSlot_2 rfl ?_
  refine q_aload_n dX12_copiesSlot_3 rfl ?_
  refine q_iload_n dX12_copiesSlot_4 rfl ?_
  replace E := grd_some E
  obtain ⟨g3, E⟩ := E
  replace E := cal_some E
  obtain ⟨x2, h1, hc, E⟩ := E
  refine r_callV1 (mc := 0) (ms := 0) dX12_copiesSlot_5 KX12_140 (c_X12_length hc) g3 (by decide) (Nat.le_of_ble_eq_true rfl) (fun _ _ q => q.elim) ?_
  rintro _ _ ⟨rfl, rfl⟩
  clear hc
  refine q_icmp_ge (tgt := 27) dX12_copiesSlot_8 (by decide) (fun z4 => ?_) (fun z4 => ?_)
  · replace E := ite_t E z4
    cases E
    exact q_return dX12_copiesSlot_27 rfl hK
  · replace E := ite_f E z4
    refine q_aload_n dX12_copiesSlot_11 rfl ?_
    refine q_aload_n dX12_copiesSlot_12 rfl ?_
    refine q_iload_n dX12_copiesSlot_13 rfl ?_
    refine q_iload_n dX12_copiesSlot_14 rfl ?_
    replace E := grd_some E
    obtain ⟨g7, E⟩ := E
    replace E := cal_some E
    obtain ⟨x6, h5, hc, E⟩ := E
    refine r_callV2 (mc := 0) (ms := 0) dX12_copiesSlot_15 KX12_147 (c_X12_code hc) g7 (by decide) (Nat.le_of_ble_eq_true rfl) (fun _ _ q => q.elim) ?_
    rintro _ _ ⟨rfl, rfl⟩
    clear hc
    replace E := grd_some E
    obtain ⟨g10, E⟩ := E
    replace E := cal_some E
    obtain ⟨_, h8, hc, E⟩ := E
    refine r_callV1 (mc := 0) (ms := 0) dX12_copiesSlot_18 KX12_151 (c_X12_adds hc) g10 (by decide) (Nat.le_of_ble_eq_true rfl) (fun _ _ q => q.elim) ?_
    rintro _ _ ⟨rfl, rfl⟩
    clear hc
    replace E := bnd_x E
    obtain ⟨x11, ex11, E⟩ := E
    refine r_iinc (v := x11) dX12_copiesSlot_21 rfl ex11 (by decide) (ls' := [some (.ref p0), some (.int v1), some (.int x11)]) rfl ?_
    refine q_goto (tgt := 2) dX12_copiesSlot_24 (by decide) ?_
    cases E
    exact r_fewer [some (.ref p0), some (.int v1), some (.int x11)] (ls_s (ls_s (ls_s ls_0))) hK
theorem s_X12_copiesSlot_2 {l : Launch} {G : mG} {Q : Option Value → mH → Prop} {X : String → mH → Prop} (p0 : Nat) (v1 : Int32) (v2 : Int32) (h : mH) {o : Unit × mH} (E : g_X12_copiesSlot_2 p0 v1 v2 h = some o) (hK : (fiV Q) o) : mW l G m_X12_copiesSlot 1 0 0 2 [some (.ref p0), some (.int v1), some (.int v2)] [] h Q X :=
  (lp_go (w_X12_copiesSlot_2 l G Q X p0 v1) (fiV Q) (b_X12_copiesSlot_2 p0 v1) (fun s o E hK => sb_X12_copiesSlot_2 p0 v1 s.1 (s.2) E hK) _ _ _ E hK : w_X12_copiesSlot_2 l G Q X p0 v1 (v2, h))
set_option maxRecDepth 100000 in
set_option maxHeartbeats 4000000 in
theorem s_X12_copiesSlot_0 {l : Launch} {G : mG} {Q : Option Value → mH → Prop} {X : String → mH → Prop} (p0 : Nat) (v1 : Int32) (h : mH) {o : Unit × mH} (E : f_X12_copiesSlot p0 v1 h = some o) (hK : (fiV Q) o) : mW l G m_X12_copiesSlot 1 0 0 0 [some (.ref p0), some (.int v1), none] [] h Q X := by
  unfold f_X12_copiesSlot at E
  refine q_iconst dX12_copiesSlot_0 ?_
  refine r_istore_n dX12_copiesSlot_1 (by decide) rfl (ls' := [some (.ref p0), some (.int v1), some (.int (Int32.ofInt 0))]) rfl ?_
  exact r_fewer [some (.ref p0), some (.int v1), some (.int (Int32.ofInt 0))] (ls_s (ls_s (ls_s ls_0))) (s_X12_copiesSlot_2 p0 v1 (Int32.ofInt 0) h E hK)
theorem c_X12_copiesSlot {l : Launch} {G : mG} {p0 : Nat} {v1 : Int32} {h h' : mH} {r : Unit} (E : f_X12_copiesSlot p0 v1 h = some (r, h')) : mMet l G m_X12_copiesSlot 1 0 0 [.ref p0, .int v1] h (fun v k => v = none ∧ h' = k) (fun _ _ => False) :=
  mMet_of (by decide +kernel) rfl (ac_c rfl (ac_c rfl ac_0)) (Nat.le_of_ble_eq_true rfl) (s_X12_copiesSlot_0 p0 v1 h E (And.intro rfl rfl))
set_option maxRecDepth 100000 in
set_option maxHeartbeats 4000000 in
theorem s_X12_letters_28 {l : Launch} {G : mG} {Q : Option Value → mH → Prop} {X : String → mH → Prop} (p0 : Nat) (v2 : Int32) (s0 : Int32) (s1 : Int32) (h : mH) {o : ((Int32 × Int32 × mH) ⊕ (Int32 × mH))} (E : g_X12_letters_28 p0 v2 s0 s1 h = some o) (hK : (lpK (w_X12_letters_4 l G Q X p0) (fiI Q)) o) : mW l G m_X12_letters 0 0 0 28 [some (.ref p0), none, some (.int v2)] [.int s0, .int s1] h Q X := by
  unfold g_X12_letters_28 at E
  refine q_iadd dX12_letters_28 ?_
  replace E := bnd_x E
  obtain ⟨x1, ex1, E⟩ := E
  refine r_istore_n dX12_letters_29 (by decide) ex1 (ls' := [some (.ref p0), some (.int x1), some (.int v2)]) rfl ?_
  replace E := bnd_x E
  obtain ⟨x2, ex2, E⟩ := E
  refine r_iinc (v := x2) dX12_letters_30 rfl ex2 (by decide) (ls' := [some (.ref p0), some (.int x1), some (.int x2)]) rfl ?_
  refine q_goto (tgt := 4) dX12_letters_33 (by decide) ?_
  cases E
  exact r_fewer [some (.ref p0), some (.int x1), some (.int x2)] (ls_s (ls_s (ls_s ls_0))) hK
set_option maxRecDepth 100000 in
set_option maxHeartbeats 4000000 in
theorem sb_X12_letters_4 {l : Launch} {G : mG} {Q : Option Value → mH → Prop} {X : String → mH → Prop} (p0 : Nat) (v1 : Int32) (v2 : Int32) (h : mH) {o : ((Int32 × Int32 × mH) ⊕ (Int32 × mH))} (E : b0_X12_letters_4 p0 v1 v2 h = some o) (hK : (lpK (w_X12_letters_4 l G Q X p0) (fiI Q)) o) : mW l G m_X12_letters 0 0 0 4 [some (.ref p0), some (.int v1), some (.int v2)] [] h Q X := by
  unfold b0_X12_letters_4 at E
  refine q_iload_n dX12_letters_4 rfl ?_
  refine q_aload_n dX12_letters_5 rfl ?_
  replace E := grd_some E
  obtain ⟨g1, E⟩ := E
  refine r_getI dX12_letters_6 FX12_144 g1 ?_
  refine q_icmp_ge (tgt := 36) dX12_letters_9 (by decide) (fun z2 => ?_) (fun z2 => ?_)
  · replace E := ite_t E z2
    refine q_iload_n dX12_letters_36 rfl ?_
    cases E
    exact q_ireturn dX12_letters_37 rfl hK
  · replace E := ite_f E z2
    refine q_iload_n dX12_letters_12 rfl ?_
    refine q_aload_n dX12_letters_13 rfl ?_
    replace E := orf_some E
    obtain ⟨a3, ea3, E⟩ := E
    refine r_getR dX12_letters_14 FX12_22 g1 ea3 ?_
    refine q_iload_n dX12_letters_17 rfl ?_
    replace E := grd_some E
    obtain ⟨g4, E⟩ := E
    replace E := grd_some E
    obtain ⟨g5, E⟩ := E
    refine r_iaload dX12_letters_18 g4 g5 ?_
    refine q_iconst dX12_letters_19 ?_
    refine q_icmp_ge (tgt := 27) dX12_letters_20 (by decide) (fun z6 => ?_) (fun z6 => ?_)
    · replace E := ite_t E z6
      refine q_iconst dX12_letters_27 ?_
      exact r_fewer [some (.ref p0), none, some (.int v2)] (ls_s (ls_n (ls_s ls_0))) (s_X12_letters_28 p0 v2 (Int32.ofInt 0) v1 h E hK)
    · replace E := ite_f E z6
      refine q_iconst dX12_letters_23 ?_
      refine q_goto (tgt := 28) dX12_letters_24 (by decide) ?_
      exact r_fewer [some (.ref p0), none, some (.int v2)] (ls_s (ls_n (ls_s ls_0))) (s_X12_letters_28 p0 v2 (Int32.ofInt 1) v1 h E hK)
theorem s_X12_letters_4 {l : Launch} {G : mG} {Q : Option Value → mH → Prop} {X : String → mH → Prop} (p0 : Nat) (v1 : Int32) (v2 : Int32) (h : mH) {o : Int32 × mH} (E : g_X12_letters_4 p0 v1 v2 h = some o) (hK : (fiI Q) o) : mW l G m_X12_letters 0 0 0 4 [some (.ref p0), some (.int v1), some (.int v2)] [] h Q X :=
  (lp_go (w_X12_letters_4 l G Q X p0) (fiI Q) (b_X12_letters_4 p0) (fun s o E hK => sb_X12_letters_4 p0 s.1 s.2.1 (s.2.2) E hK) _ _ _ E hK : w_X12_letters_4 l G Q X p0 (v1, v2, h))
set_option maxRecDepth 100000 in
set_option maxHeartbeats 4000000 in
theorem s_X12_letters_0 {l : Launch} {G : mG} {Q : Option Value → mH → Prop} {X : String → mH → Prop} (p0 : Nat) (h : mH) {o : Int32 × mH} (E : f_X12_letters p0 h = some o) (hK : (fiI Q) o) : mW l G m_X12_letters 0 0 0 0 [some (.ref p0), none, none] [] h Q X := by
  unfold f_X12_letters at E
  refine q_iconst dX12_letters_0 ?_
  refine r_istore_n dX12_letters_1 (by decide) rfl (ls' := [some (.ref p0), some (.int (Int32.ofInt 0)), none]) rfl ?_
  refine q_iconst dX12_letters_2 ?_
  refine r_istore_n dX12_letters_3 (by decide) rfl (ls' := [some (.ref p0), some (.int (Int32.ofInt 0)), some (.int (Int32.ofInt 0))]) rfl ?_
  exact r_fewer [some (.ref p0), some (.int (Int32.ofInt 0)), some (.int (Int32.ofInt 0))] (ls_s (ls_s (ls_s ls_0))) (s_X12_letters_4 p0 (Int32.ofInt 0) (Int32.ofInt 0) h E hK)
theorem c_X12_letters {l : Launch} {G : mG} {p0 : Nat} {h h' : mH} {r : Int32} (E : f_X12_letters p0 h = some (r, h')) : mMet l G m_X12_letters 0 0 0 [.ref p0] h (fun v k => v = some (.int r) ∧ h' = k) (fun _ _ => False) :=
  mMet_of (by decide +kernel) rfl (ac_c rfl ac_0) (Nat.le_of_ble_eq_true rfl) (s_X12_letters_0 p0 h E (And.intro rfl rfl))
set_option maxRecDepth 100000 in
set_option maxHeartbeats 4000000 in
theorem s_X12_signs_29 {l : Launch} {G : mG} {Q : Option Value → mH → Prop} {X : String → mH → Prop} (p0 : Nat) (v2 : Int32) (s0 : Int32) (s1 : Int32) (h : mH) {o : ((Int32 × Int32 × mH) ⊕ (Int32 × mH))} (E : g_X12_signs_29 p0 v2 s0 s1 h = some o) (hK : (lpK (w_X12_signs_4 l G Q X p0) (fiI Q)) o) : mW l G m_X12_signs 0 0 0 29 [some (.ref p0), none, some (.int v2)] [.int s0, .int s1] h Q X := by
  unfold g_X12_signs_29 at E
  refine q_iadd dX12_signs_29 ?_
  replace E := bnd_x E
  obtain ⟨x1, ex1, E⟩ := E
  refine r_istore_n dX12_signs_30 (by decide) ex1 (ls' := [some (.ref p0), some (.int x1), some (.int v2)]) rfl ?_
  replace E := bnd_x E
  obtain ⟨x2, ex2, E⟩ := E
  refine r_iinc (v := x2) dX12_signs_31 rfl ex2 (by decide) (ls' := [some (.ref p0), some (.int x1), some (.int x2)]) rfl ?_
  refine q_goto (tgt := 4) dX12_signs_34 (by decide) ?_
  cases E
  exact r_fewer [some (.ref p0), some (.int x1), some (.int x2)] (ls_s (ls_s (ls_s ls_0))) hK
set_option maxRecDepth 100000 in
set_option maxHeartbeats 4000000 in
theorem sb_X12_signs_4 {l : Launch} {G : mG} {Q : Option Value → mH → Prop} {X : String → mH → Prop} (p0 : Nat) (v1 : Int32) (v2 : Int32) (h : mH) {o : ((Int32 × Int32 × mH) ⊕ (Int32 × mH))} (E : b0_X12_signs_4 p0 v1 v2 h = some o) (hK : (lpK (w_X12_signs_4 l G Q X p0) (fiI Q)) o) : mW l G m_X12_signs 0 0 0 4 [some (.ref p0), some (.int v1), some (.int v2)] [] h Q X := by
  unfold b0_X12_signs_4 at E
  refine q_iload_n dX12_signs_4 rfl ?_
  refine q_aload_n dX12_signs_5 rfl ?_
  replace E := grd_some E
  obtain ⟨g1, E⟩ := E
  refine r_getI dX12_signs_6 FX12_144 g1 ?_
  refine q_icmp_ge (tgt := 37) dX12_signs_9 (by decide) (fun z2 => ?_) (fun z2 => ?_)
  · replace E := ite_t E z2
    refine q_iload_n dX12_signs_37 rfl ?_
    cases E
    exact q_ireturn dX12_signs_38 rfl hK
  · replace E := ite_f E z2
    refine q_iload_n dX12_signs_12 rfl ?_
    refine q_aload_n dX12_signs_13 rfl ?_
    replace E := orf_some E
    obtain ⟨a3, ea3, E⟩ := E
    refine r_getR dX12_signs_14 FX12_22 g1 ea3 ?_
    refine q_iload_n dX12_signs_17 rfl ?_
    replace E := grd_some E
    obtain ⟨g4, E⟩ := E
    replace E := grd_some E
    obtain ⟨g5, E⟩ := E
    refine r_iaload dX12_signs_18 g4 g5 ?_
    refine q_bipush (v := (Int32.ofInt 6)) dX12_signs_19 (by decide) ?_
    refine q_icmp_lt (tgt := 28) dX12_signs_21 (by decide) (fun z6 => ?_) (fun z6 => ?_)
    · replace E := ite_t E z6
      refine q_iconst dX12_signs_28 ?_
      exact r_fewer [some (.ref p0), none, some (.int v2)] (ls_s (ls_n (ls_s ls_0))) (s_X12_signs_29 p0 v2 (Int32.ofInt 0) v1 h E hK)
    · replace E := ite_f E z6
      refine q_iconst dX12_signs_24 ?_
      refine q_goto (tgt := 29) dX12_signs_25 (by decide) ?_
      exact r_fewer [some (.ref p0), none, some (.int v2)] (ls_s (ls_n (ls_s ls_0))) (s_X12_signs_29 p0 v2 (Int32.ofInt 1) v1 h E hK)
theorem s_X12_signs_4 {l : Launch} {G : mG} {Q : Option Value → mH → Prop} {X : String → mH → Prop} (p0 : Nat) (v1 : Int32) (v2 : Int32) (h : mH) {o : Int32 × mH} (E : g_X12_signs_4 p0 v1 v2 h = some o) (hK : (fiI Q) o) : mW l G m_X12_signs 0 0 0 4 [some (.ref p0), some (.int v1), some (.int v2)] [] h Q X :=
  (lp_go (w_X12_signs_4 l G Q X p0) (fiI Q) (b_X12_signs_4 p0) (fun s o E hK => sb_X12_signs_4 p0 s.1 s.2.1 (s.2.2) E hK) _ _ _ E hK : w_X12_signs_4 l G Q X p0 (v1, v2, h))
set_option maxRecDepth 100000 in
set_option maxHeartbeats 4000000 in
theorem s_X12_signs_0 {l : Launch} {G : mG} {Q : Option Value → mH → Prop} {X : String → mH → Prop} (p0 : Nat) (h : mH) {o : Int32 × mH} (E : f_X12_signs p0 h = some o) (hK : (fiI Q) o) : mW l G m_X12_signs 0 0 0 0 [some (.ref p0), none, none] [] h Q X := by
  unfold f_X12_signs at E
  refine q_iconst dX12_signs_0 ?_
  refine r_istore_n dX12_signs_1 (by decide) rfl (ls' := [some (.ref p0), some (.int (Int32.ofInt 0)), none]) rfl ?_
  refine q_iconst dX12_signs_2 ?_
  refine r_istore_n dX12_signs_3 (by decide) rfl (ls' := [some (.ref p0), some (.int (Int32.ofInt 0)), some (.int (Int32.ofInt 0))]) rfl ?_
  exact r_fewer [some (.ref p0), some (.int (Int32.ofInt 0)), some (.int (Int32.ofInt 0))] (ls_s (ls_s (ls_s ls_0))) (s_X12_signs_4 p0 (Int32.ofInt 0) (Int32.ofInt 0) h E hK)
theorem c_X12_signs {l : Launch} {G : mG} {p0 : Nat} {h h' : mH} {r : Int32} (E : f_X12_signs p0 h = some (r, h')) : mMet l G m_X12_signs 0 0 0 [.ref p0] h (fun v k => v = some (.int r) ∧ h' = k) (fun _ _ => False) :=
  mMet_of (by decide +kernel) rfl (ac_c rfl ac_0) (Nat.le_of_ble_eq_true rfl) (s_X12_signs_0 p0 h E (And.intro rfl rfl))
set_option maxRecDepth 100000 in
set_option maxHeartbeats 4000000 in
theorem s_X12_isTooLarge_23 {l : Launch} {G : mG} {Q : Option Value → mH → Prop} {X : String → mH → Prop} (s0 : Int32) (h : mH) {o : Int32 × mH} (E : g_X12_isTooLarge_23 s0 h = some o) (hK : (fiI Q) o) : mW l G m_X12_isTooLarge 1 0 0 23 [none] [.int s0] h Q X := by
  unfold g_X12_isTooLarge_23 at E
  replace E := grd_some E
  obtain ⟨g1, E⟩ := E
  cases E
  exact q_zreturn dX12_isTooLarge_23 rfl (narZ g1) hK
set_option maxRecDepth 100000 in
set_option maxHeartbeats 4000000 in
theorem s_X12_isTooLarge_18 {l : Launch} {G : mG} {Q : Option Value → mH → Prop} {X : String → mH → Prop} (h : mH) {o : Int32 × mH} (E : g_X12_isTooLarge_18  h = some o) (hK : (fiI Q) o) : mW l G m_X12_isTooLarge 1 0 0 18 [none] [] h Q X := by
  unfold g_X12_isTooLarge_18 at E
  refine q_iconst dX12_isTooLarge_18 ?_
  refine q_goto (tgt := 23) dX12_isTooLarge_19 (by decide) ?_
  exact r_fewer [none] (ls_n ls_0) (s_X12_isTooLarge_23 (Int32.ofInt 1) h E hK)
set_option maxRecDepth 100000 in
set_option maxHeartbeats 4000000 in
theorem s_X12_isTooLarge_0 {l : Launch} {G : mG} {Q : Option Value → mH → Prop} {X : String → mH → Prop} (p0 : Nat) (h : mH) {o : Int32 × mH} (E : f_X12_isTooLarge p0 h = some o) (hK : (fiI Q) o) : mW l G m_X12_isTooLarge 1 0 0 0 [some (.ref p0)] [] h Q X := by
  unfold f_X12_isTooLarge at E
  refine q_aload_n dX12_isTooLarge_0 rfl ?_
  replace E := grd_some E
  obtain ⟨g3, E⟩ := E
  replace E := cal_some E
  obtain ⟨x2, h1, hc, E⟩ := E
  refine r_callV0 (mc := 0) (ms := 0) dX12_isTooLarge_1 KX12_155 (c_X12_letters hc) g3 (by decide) (Nat.le_of_ble_eq_true rfl) (fun _ _ q => q.elim) ?_
  rintro _ _ ⟨rfl, rfl⟩
  clear hc
  refine q_bipush (v := (Int32.ofInt 7)) dX12_isTooLarge_4 (by decide) ?_
  refine q_icmp_gt (tgt := 18) dX12_isTooLarge_6 (by decide) (fun z4 => ?_) (fun z4 => ?_)
  · replace E := ite_t E z4
    exact r_fewer [none] (ls_n ls_0) (s_X12_isTooLarge_18 h1 E hK)
  · replace E := ite_f E z4
    refine q_aload_n dX12_isTooLarge_9 rfl ?_
    replace E := grd_some E
    obtain ⟨g7, E⟩ := E
    replace E := cal_some E
    obtain ⟨x6, h5, hc, E⟩ := E
    refine r_callV0 (mc := 0) (ms := 0) dX12_isTooLarge_10 KX12_159 (c_X12_signs hc) g7 (by decide) (Nat.le_of_ble_eq_true rfl) (fun _ _ q => q.elim) ?_
    rintro _ _ ⟨rfl, rfl⟩
    clear hc
    refine q_bipush (v := (Int32.ofInt 9)) dX12_isTooLarge_13 (by decide) ?_
    refine q_icmp_le (tgt := 22) dX12_isTooLarge_15 (by decide) (fun z8 => ?_) (fun z8 => ?_)
    · replace E := ite_t E z8
      refine q_iconst dX12_isTooLarge_22 ?_
      exact r_fewer [none] (ls_n ls_0) (s_X12_isTooLarge_23 (Int32.ofInt 0) h5 E hK)
    · replace E := ite_f E z8
      exact r_fewer [none] (ls_n ls_0) (s_X12_isTooLarge_18 h5 E hK)
theorem c_X12_isTooLarge {l : Launch} {G : mG} {p0 : Nat} {h h' : mH} {r : Int32} (E : f_X12_isTooLarge p0 h = some (r, h')) : mMet l G m_X12_isTooLarge 1 0 0 [.ref p0] h (fun v k => v = some (.int r) ∧ h' = k) (fun _ _ => False) :=
  mMet_of (by decide +kernel) rfl (ac_c rfl ac_0) (Nat.le_of_ble_eq_true rfl) (s_X12_isTooLarge_0 p0 h E (And.intro rfl rfl))
