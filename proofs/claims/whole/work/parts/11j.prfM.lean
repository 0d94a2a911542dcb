set_option maxRecDepth 100000 in
set_option maxHeartbeats 4000000 in
theorem sb_X12_restore_20 {l : Launch} {G : va_G × (Nat → ClassId)} {Q : Option Value → mH → Prop} {X : String → mH → Prop} (p0 : Nat) (v1 : Int32) (h : mH) {o : ((Int32 × mH) ⊕ (Int32 × mH))} (E : b0_X12_restore_20 p0 v1 h = some o) (hK : (lpK (w_X12_restore_20 l G Q X p0) (fiI Q)) o) : mW l G m_X12_restore 2 0 0 20 [some (.ref p0), some (.int v1)] [] h Q X := by
  unfold b0_X12_restore_20 at E
  refine q_iload_n dX12_restore_20 rfl ?_
  refine q_sipush (v := (Int32.ofInt 248)) dX12_restore_21 (by decide) ?_
  refine q_icmp_ge (tgt := 45) dX12_restore_24 (by decide) (fun z1 => ?_) (fun z1 => ?_)
  · replace E := ite_t E z1
    refine q_aload_n dX12_restore_45 rfl ?_
    refine q_iconst dX12_restore_46 ?_
    obtain ⟨g2, E⟩ := grd_some E
    obtain ⟨h3, eh3, E⟩ := bnd_x E
    refine r_putI (hh := eh3) dX12_restore_47 FX12_120 g2 rfl rfl ?_
    refine q_aload_n dX12_restore_50 rfl ?_
    refine q_iconst dX12_restore_51 ?_
    obtain ⟨g4, E⟩ := grd_some E
    obtain ⟨h5, eh5, E⟩ := bnd_x E
    refine r_putI (hh := eh5) dX12_restore_52 FX12_123 g4 rfl rfl ?_
    refine q_aload_n dX12_restore_55 rfl ?_
    obtain ⟨g8, E⟩ := grd_some E
    obtain ⟨x7, h6, hc, E⟩ := cal_some E
    refine r_callV0 (mc := 0) (ms := 0) dX12_restore_56 KX12_227 (c_X12_patterns hc) g8 (by decide) (Nat.le_of_ble_eq_true rfl) (fun _ _ q => q.elim) ?_
    rintro _ _ ⟨rfl, rfl⟩
    clear hc
    cases E
    exact q_ireturn dX12_restore_59 rfl hK
  · replace E := ite_f E z1
    refine q_aload_n dX12_restore_27 rfl ?_
    obtain ⟨g9, E⟩ := grd_some E
    obtain ⟨a10, ea10, E⟩ := orf_some E
    refine r_getR dX12_restore_28 FX12_7 g9 ea10 ?_
    refine q_iload_n dX12_restore_31 rfl ?_
    refine q_aload_n dX12_restore_32 rfl ?_
    obtain ⟨a11, ea11, E⟩ := orf_some E
    refine r_getR dX12_restore_33 FX12_16 g9 ea11 ?_
    refine q_iload_n dX12_restore_36 rfl ?_
    obtain ⟨g12, E⟩ := grd_some E
    obtain ⟨g13, E⟩ := grd_some E
    refine r_iaload dX12_restore_37 g12 g13 ?_
    obtain ⟨g15, E⟩ := grd_some E
    obtain ⟨g16, E⟩ := grd_some E
    obtain ⟨h14, eh14, E⟩ := bnd_x E
    refine r_iastore (hh := eh14) dX12_restore_38 g15 g16 ?_
    obtain ⟨x17, ex17, E⟩ := bnd_x E
    refine r_iinc (v := x17) dX12_restore_39 rfl ex17 (by decide) (ls' := [some (.ref p0), some (.int x17)]) rfl ?_
    refine q_goto (tgt := 20) dX12_restore_42 (by decide) ?_
    cases E
    exact r_fewer [some (.ref p0), some (.int x17)] (ls_s (ls_s ls_0)) hK
theorem s_X12_restore_20 {l : Launch} {G : va_G × (Nat → ClassId)} {Q : Option Value → mH → Prop} {X : String → mH → Prop} (p0 : Nat) (v1 : Int32) (h : mH) {o : Int32 × mH} (E : g_X12_restore_20 p0 v1 h = some o) (hK : (fiI Q) o) : mW l G m_X12_restore 2 0 0 20 [some (.ref p0), some (.int v1)] [] h Q X :=
  (lp_go (w_X12_restore_20 l G Q X p0) (fiI Q) (b_X12_restore_20 p0) (fun s o E hK => sb_X12_restore_20 p0 s.1 (s.2) E hK) _ _ _ E hK : w_X12_restore_20 l G Q X p0 (v1, h))
set_option maxRecDepth 100000 in
set_option maxHeartbeats 4000000 in
theorem s_X12_restore_0 {l : Launch} {G : va_G × (Nat → ClassId)} {Q : Option Value → mH → Prop} {X : String → mH → Prop} (p0 : Nat) (h : mH) {o : Int32 × mH} (E : f_X12_restore p0 h = some o) (hK : (fiI Q) o) : mW l G m_X12_restore 2 0 0 0 [some (.ref p0), none] [] h Q X := by
  unfold f_X12_restore at E
  refine q_aload_n dX12_restore_0 rfl ?_
  refine q_iconst dX12_restore_1 ?_
  obtain ⟨g1, E⟩ := grd_some E
  obtain ⟨h2, eh2, E⟩ := bnd_x E
  refine r_putI (hh := eh2) dX12_restore_2 FX12_117 g1 rfl rfl ?_
  refine q_aload_n dX12_restore_5 rfl ?_
  obtain ⟨g3, E⟩ := grd_some E
  refine r_getI dX12_restore_6 FX12_415 g3 ?_
  refine q_if_ne (tgt := 18) dX12_restore_9 (by decide) (fun z4 => ?_) (fun z4 => ?_)
  · replace E := ite_f E z4
    refine q_iconst dX12_restore_18 ?_
    refine r_istore_n dX12_restore_19 (by decide) rfl (ls' := [some (.ref p0), some (.int (Int32.ofInt 0))]) rfl ?_
    exact r_fewer [some (.ref p0), some (.int (Int32.ofInt 0))] (ls_s (ls_s ls_0)) (s_X12_restore_20 p0 (Int32.ofInt 0) h2 E hK)
  · replace E := ite_t E z4
    refine q_aload_n dX12_restore_12 rfl ?_
    refine q_iconst dX12_restore_13 ?_
    obtain ⟨x6, h5, hc, E⟩ := cal_some E
    refine r_callV1 (mc := 0) (ms := 0) dX12_restore_14 KX12_196 (c_X12_fails hc) g3 (by decide) (Nat.le_of_ble_eq_true rfl) (fun _ _ q => q.elim) ?_
    rintro _ _ ⟨rfl, rfl⟩
    clear hc
    cases E
    exact q_ireturn dX12_restore_17 rfl hK
theorem c_X12_restore {l : Launch} {G : va_G × (Nat → ClassId)} {p0 : Nat} {h h' : mH} {r : Int32} (E : f_X12_restore p0 h = some (r, h')) : mMet l G m_X12_restore 2 0 0 [.ref p0] h (fun v k => v = some (.int r) ∧ h' = k) (fun _ _ => False) :=
  mMet_of (by decide +kernel) rfl (ac_c rfl ac_0) (Nat.le_of_ble_eq_true rfl) (s_X12_restore_0 p0 h E (And.intro rfl rfl))
