set_option maxRecDepth 100000 in
set_option maxHeartbeats 4000000 in
theorem s_X11_remove_0 {l : Launch} {G : mG} {Q : Option Value → mH → Prop} {X : String → mH → Prop} (p0 : Nat) (v1 : Int32) (h : mH) {o : (Int32 ⊕ String) × mH} (E : f_X11_remove p0 v1 h = some o) (hK : (fiIX Q X) o) : mW l G m_X11_remove 2 1 6 0 [some (.ref p0), some (.int v1)] [] h Q X := by
  unfold f_X11_remove at E
  refine q_aload_n dX11_remove_0 rfl ?_
  replace E := grd_some E
  obtain ⟨g1, E⟩ := E
  replace E := orf_some E
  obtain ⟨a2, ea2, E⟩ := E
  refine r_getR dX11_remove_1 FX11_22 g1 ea2 ?_
  refine q_aload_n dX11_remove_4 rfl ?_
  replace E := orf_some E
  obtain ⟨a3, ea3, E⟩ := E
  refine r_getR dX11_remove_5 FX11_10 g1 ea3 ?_
  replace E := grd_some E
  obtain ⟨g6, E⟩ := E
  replace E := cal_some E
  obtain ⟨_, h4, hc, E⟩ := E
  refine r_callV1 (mc := 1) (ms := 6) dX11_remove_8 KX11_130 (c_X1_prepare hc) g6 (by decide) (Nat.le_of_ble_eq_true rfl) (fun _ _ q => q.elim) ?_
  rintro _ _ ⟨rfl, rfl⟩
  clear hc
  refine q_aload_n dX11_remove_11 rfl ?_
  refine q_aload_n dX11_remove_12 rfl ?_
  replace E := grd_some E
  obtain ⟨g7, E⟩ := E
  replace E := orf_some E
  obtain ⟨a8, ea8, E⟩ := E
  refine r_getR dX11_remove_13 FX11_10 g7 ea8 ?_
  refine q_iload_n dX11_remove_16 rfl ?_
  replace E := grd_some E
  obtain ⟨g11, E⟩ := E
  replace E := cal_some E
  obtain ⟨x10, h9, hc, E⟩ := E
  refine r_callV1 (mc := 1) (ms := 6) dX11_remove_17 KX11_154 (c_X6_free hc) g11 (by decide) (Nat.le_of_ble_eq_true rfl) (fun _ _ q => q.elim) ?_
  rintro _ _ ⟨rfl, rfl⟩
  clear hc
  replace E := grd_some E
  obtain ⟨g14, E⟩ := E
  replace E := calX_some E
  rcases E with ⟨x13, h12, hc, E⟩ | ⟨e, h12, hc, E⟩
  · refine r_callV1 (mc := 0) (ms := 0) dX11_remove_20 KX11_142 (c_X11_finishChange hc) g14 (by decide) (Nat.le_of_ble_eq_true rfl) (fun _ _ ⟨_, q, _⟩ => by cases q) ?_
    rintro _ _ ⟨_, q, rfl⟩
    obtain ⟨e9, f9⟩ := inl_inj q; subst e9; subst f9
    clear hc q
    cases E
    exact q_ireturn dX11_remove_23 rfl hK
  · cases E
    refine r_callV1 (mc := 0) (ms := 0) dX11_remove_20 KX11_142 (c_X11_finishChange hc) g14 (by decide) (Nat.le_of_ble_eq_true rfl) (fun _ _ ⟨_, q, n, hn, hk⟩ => by cases q; subst hk; exact hK n hn) ?_
    rintro _ _ ⟨_, q, _⟩
    cases q
theorem c_X11_remove {l : Launch} {G : mG} {p0 : Nat} {v1 : Int32} {h : mH} {o : (Int32 ⊕ String) × mH} (E : f_X11_remove p0 v1 h = some o) : mMet l G m_X11_remove 2 1 6 [.ref p0, .int v1] h (fun v k => ∃ r, o = (.inl r, k) ∧ v = some (.int r)) (fun e k => ∃ k0, o = (.inr e, k0) ∧ ∃ n, nx k0 ≤ n ∧ k = sn k0 n) := by
  refine mMet_of (by decide +kernel) rfl (ac_c rfl (ac_c rfl ac_0)) (Nat.le_of_ble_eq_true rfl) (s_X11_remove_0 p0 v1 h E ?_)
  obtain ⟨r | e, k⟩ := o
  · exact ⟨r, rfl, rfl⟩
  · exact fun n hn => ⟨k, rfl, n, hn, rfl⟩
set_option maxRecDepth 100000 in
set_option maxHeartbeats 4000000 in
theorem s_X11_addWord_0 {l : Launch} {G : mG} {Q : Option Value → mH → Prop} {X : String → mH → Prop} (p0 : Nat) (h : mH) {o : (Int32 ⊕ String) × mH} (E : f_X11_addWord p0 h = some o) (hK : (fiIX Q X) o) : mW l G m_X11_addWord 2 3 262 0 [some (.ref p0), none] [] h Q X := by
  unfold f_X11_addWord at E
  refine q_aload_n dX11_addWord_0 rfl ?_
  replace E := grd_some E
  obtain ⟨g1, E⟩ := E
  replace E := orf_some E
  obtain ⟨a2, ea2, E⟩ := E
  refine r_getR dX11_addWord_1 FX11_22 g1 ea2 ?_
  refine q_aload_n dX11_addWord_4 rfl ?_
  replace E := orf_some E
  obtain ⟨a3, ea3, E⟩ := E
  refine r_getR dX11_addWord_5 FX11_10 g1 ea3 ?_
  replace E := grd_some E
  obtain ⟨g6, E⟩ := E
  replace E := cal_some E
  obtain ⟨_, h4, hc, E⟩ := E
  refine r_callV1 (mc := 3) (ms := 262) dX11_addWord_8 KX11_130 (c_X1_prepare hc) g6 (by decide) (Nat.le_of_ble_eq_true rfl) (fun _ _ q => q.elim) ?_
  rintro _ _ ⟨rfl, rfl⟩
  clear hc
  refine q_aload_n dX11_addWord_11 rfl ?_
  replace E := grd_some E
  obtain ⟨g7, E⟩ := E
  replace E := orf_some E
  obtain ⟨a8, ea8, E⟩ := E
  refine r_getR dX11_addWord_12 FX11_10 g7 ea8 ?_
  refine q_aload_n dX11_addWord_15 rfl ?_
  replace E := orf_some E
  obtain ⟨a9, ea9, E⟩ := E
  refine r_getR dX11_addWord_16 FX11_29 g7 ea9 ?_
  refine q_iconst dX11_addWord_19 ?_
  refine q_aload_n dX11_addWord_20 rfl ?_
  refine r_getR dX11_addWord_21 FX11_29 g7 ea9 ?_
  replace E := grd_some E
  obtain ⟨g13, E⟩ := E
  replace E := cal_some E
  obtain ⟨x12, h11, hc, E⟩ := E
  refine r_callV0 (mc := 3) (ms := 262) dX11_addWord_24 KX11_157 (c_X9_size hc) g13 (by decide) (Nat.le_of_ble_eq_true rfl) (fun _ _ q => q.elim) ?_
  rintro _ _ ⟨rfl, rfl⟩
  clear hc
  refine q_bipush (v := (Int32.ofInt 8)) dX11_addWord_27 (by decide) ?_
  replace E := grd_some E
  obtain ⟨g16, E⟩ := E
  replace E := cal_some E
  obtain ⟨o15, h14, hc, E⟩ := E
  refine r_callV3 (mc := 1) (ms := 6) dX11_addWord_29 KX11_160 (c_X9_wordBetween hc) g16 (by decide) (Nat.le_of_ble_eq_true rfl) (fun _ _ q => q.elim) ?_
  rintro _ _ ⟨rfl, rfl⟩
  clear hc
  replace E := grd_some E
  obtain ⟨g19, E⟩ := E
  replace E := cal_some E
  obtain ⟨x18, h17, hc, E⟩ := E
  refine r_callV1 (mc := 1) (ms := 6) dX11_addWord_32 KX11_164 (c_X6_addSample hc) g19 (by decide) (Nat.le_of_ble_eq_true rfl) (fun _ _ q => q.elim) ?_
  rintro _ _ ⟨rfl, rfl⟩
  clear hc
  refine r_istore_n dX11_addWord_35 (by decide) rfl (ls' := [some (.ref p0), some (.int x18)]) rfl ?_
  refine q_aload_n dX11_addWord_36 rfl ?_
  replace E := grd_some E
  obtain ⟨g20, E⟩ := E
  replace E := orf_some E
  obtain ⟨a21, ea21, E⟩ := E
  refine r_getR dX11_addWord_37 FX11_29 g20 ea21 ?_
  replace E := grd_some E
  obtain ⟨g24, E⟩ := E
  replace E := cal_some E
  obtain ⟨_, h22, hc, E⟩ := E
  refine r_callV0 (mc := 1) (ms := 6) dX11_addWord_40 KX11_122 (c_X9_empty hc) g24 (by decide) (Nat.le_of_ble_eq_true rfl) (fun _ _ q => q.elim) ?_
  rintro _ _ ⟨rfl, rfl⟩
  clear hc
  refine q_aload_n dX11_addWord_43 rfl ?_
  refine q_iload_n dX11_addWord_44 rfl ?_
  replace E := grd_some E
  obtain ⟨g27, E⟩ := E
  replace E := calX_some E
  rcases E with ⟨x26, h25, hc, E⟩ | ⟨e, h25, hc, E⟩
  · refine r_callV1 (mc := 0) (ms := 0) dX11_addWord_45 KX11_142 (c_X11_finishChange hc) g27 (by decide) (Nat.le_of_ble_eq_true rfl) (fun _ _ ⟨_, q, _⟩ => by cases q) ?_
    rintro _ _ ⟨_, q, rfl⟩
    obtain ⟨e9, f9⟩ := inl_inj q; subst e9; subst f9
    clear hc q
    cases E
    exact q_ireturn dX11_addWord_48 rfl hK
  · cases E
    refine r_callV1 (mc := 0) (ms := 0) dX11_addWord_45 KX11_142 (c_X11_finishChange hc) g27 (by decide) (Nat.le_of_ble_eq_true rfl) (fun _ _ ⟨_, q, n, hn, hk⟩ => by cases q; subst hk; exact hK n hn) ?_
    rintro _ _ ⟨_, q, _⟩
    cases q
theorem c_X11_addWord {l : Launch} {G : mG} {p0 : Nat} {h : mH} {o : (Int32 ⊕ String) × mH} (E : f_X11_addWord p0 h = some o) : mMet l G m_X11_addWord 2 3 262 [.ref p0] h (fun v k => ∃ r, o = (.inl r, k) ∧ v = some (.int r)) (fun e k => ∃ k0, o = (.inr e, k0) ∧ ∃ n, nx k0 ≤ n ∧ k = sn k0 n) := by
  refine mMet_of (by decide +kernel) rfl (ac_c rfl ac_0) (Nat.le_of_ble_eq_true rfl) (s_X11_addWord_0 p0 h E ?_)
  obtain ⟨r | e, k⟩ := o
  · exact ⟨r, rfl, rfl⟩
  · exact fun n hn => ⟨k, rfl, n, hn, rfl⟩
set_option maxRecDepth 100000 in
set_option maxHeartbeats 4000000 in
theorem s_X11_removeWord_0 {l : Launch} {G : mG} {Q : Option Value → mH → Prop} {X : String → mH → Prop} (p0 : Nat) (v1 : Int32) (h : mH) {o : (Int32 ⊕ String) × mH} (E : f_X11_removeWord p0 v1 h = some o) (hK : (fiIX Q X) o) : mW l G m_X11_removeWord 2 1 6 0 [some (.ref p0), some (.int v1)] [] h Q X := by
  unfold f_X11_removeWord at E
  refine q_aload_n dX11_removeWord_0 rfl ?_
  replace E := grd_some E
  obtain ⟨g1, E⟩ := E
  replace E := orf_some E
  obtain ⟨a2, ea2, E⟩ := E
  refine r_getR dX11_removeWord_1 FX11_22 g1 ea2 ?_
  refine q_aload_n dX11_removeWord_4 rfl ?_
  replace E := orf_some E
  obtain ⟨a3, ea3, E⟩ := E
  refine r_getR dX11_removeWord_5 FX11_10 g1 ea3 ?_
  replace E := grd_some E
  obtain ⟨g6, E⟩ := E
  replace E := cal_some E
  obtain ⟨_, h4, hc, E⟩ := E
  refine r_callV1 (mc := 1) (ms := 6) dX11_removeWord_8 KX11_130 (c_X1_prepare hc) g6 (by decide) (Nat.le_of_ble_eq_true rfl) (fun _ _ q => q.elim) ?_
  rintro _ _ ⟨rfl, rfl⟩
  clear hc
  refine q_aload_n dX11_removeWord_11 rfl ?_
  refine q_aload_n dX11_removeWord_12 rfl ?_
  replace E := grd_some E
  obtain ⟨g7, E⟩ := E
  replace E := orf_some E
  obtain ⟨a8, ea8, E⟩ := E
  refine r_getR dX11_removeWord_13 FX11_10 g7 ea8 ?_
  refine q_iload_n dX11_removeWord_16 rfl ?_
  replace E := grd_some E
  obtain ⟨g11, E⟩ := E
  replace E := cal_some E
  obtain ⟨x10, h9, hc, E⟩ := E
  refine r_callV1 (mc := 1) (ms := 6) dX11_removeWord_17 KX11_168 (c_X6_removeSample hc) g11 (by decide) (Nat.le_of_ble_eq_true rfl) (fun _ _ q => q.elim) ?_
  rintro _ _ ⟨rfl, rfl⟩
  clear hc
  replace E := grd_some E
  obtain ⟨g14, E⟩ := E
  replace E := calX_some E
  rcases E with ⟨x13, h12, hc, E⟩ | ⟨e, h12, hc, E⟩
  · refine r_callV1 (mc := 0) (ms := 0) dX11_removeWord_20 KX11_142 (c_X11_finishChange hc) g14 (by decide) (Nat.le_of_ble_eq_true rfl) (fun _ _ ⟨_, q, _⟩ => by cases q) ?_
    rintro _ _ ⟨_, q, rfl⟩
    obtain ⟨e9, f9⟩ := inl_inj q; subst e9; subst f9
    clear hc q
    cases E
    exact q_ireturn dX11_removeWord_23 rfl hK
  · cases E
    refine r_callV1 (mc := 0) (ms := 0) dX11_removeWord_20 KX11_142 (c_X11_finishChange hc) g14 (by decide) (Nat.le_of_ble_eq_true rfl) (fun _ _ ⟨_, q, n, hn, hk⟩ => by cases q; subst hk; exact hK n hn) ?_
    rintro _ _ ⟨_, q, _⟩
    cases q
theorem c_X11_removeWord {l : Launch} {G : mG} {p0 : Nat} {v1 : Int32} {h : mH} {o : (Int32 ⊕ String) × mH} (E : f_X11_removeWord p0 v1 h = some o) : mMet l G m_X11_removeWord 2 1 6 [.ref p0, .int v1] h (fun v k => ∃ r, o = (.inl r, k) ∧ v = some (.int r)) (fun e k => ∃ k0, o = (.inr e, k0) ∧ ∃ n, nx k0 ≤ n ∧ k = sn k0 n) := by
  refine mMet_of (by decide +kernel) rfl (ac_c rfl (ac_c rfl ac_0)) (Nat.le_of_ble_eq_true rfl) (s_X11_removeWord_0 p0 v1 h E ?_)
  obtain ⟨r | e, k⟩ := o
  · exact ⟨r, rfl, rfl⟩
  · exact fun n hn => ⟨k, rfl, n, hn, rfl⟩
set_option maxRecDepth 100000 in
set_option maxHeartbeats 4000000 in
theorem s_X11_patternCount_0 {l : Launch} {G : mG} {Q : Option Value → mH → Prop} {X : String → mH → Prop} (p0 : Nat) (h : mH) {o : Int32 × mH} (E : f_X11_patternCount p0 h = some o) (hK : (fiI Q) o) : mW l G m_X11_patternCount 1 0 0 0 [some (.ref p0)] [] h Q X := by
  unfold f_X11_patternCount at E
  refine q_aload_n dX11_patternCount_0 rfl ?_
  replace E := grd_some E
  obtain ⟨g1, E⟩ := E
  replace E := orf_some E
  obtain ⟨a2, ea2, E⟩ := E
  refine r_getR dX11_patternCount_1 FX11_10 g1 ea2 ?_
  replace E := grd_some E
  obtain ⟨g5, E⟩ := E
  replace E := cal_some E
  obtain ⟨x4, h3, hc, E⟩ := E
  refine r_callV0 (mc := 0) (ms := 0) dX11_patternCount_4 KX11_171 (c_X6_patternTotal hc) g5 (by decide) (Nat.le_of_ble_eq_true rfl) (fun _ _ q => q.elim) ?_
  rintro _ _ ⟨rfl, rfl⟩
  clear hc
  cases E
  exact q_ireturn dX11_patternCount_7 rfl hK
theorem c_X11_patternCount {l : Launch} {G : mG} {p0 : Nat} {h h' : mH} {r : Int32} (E : f_X11_patternCount p0 h = some (r, h')) : mMet l G m_X11_patternCount 1 0 0 [.ref p0] h (fun v k => v = some (.int r) ∧ h' = k) (fun _ _ => False) :=
  mMet_of (by decide +kernel) rfl (ac_c rfl ac_0) (Nat.le_of_ble_eq_true rfl) (s_X11_patternCount_0 p0 h E (And.intro rfl rfl))
set_option maxRecDepth 100000 in
set_option maxHeartbeats 4000000 in
theorem s_X11_hasPattern_33 {l : Launch} {G : mG} {Q : Option Value → mH → Prop} {X : String → mH → Prop} (s0 : Int32) (h : mH) {o : (Int32 ⊕ String) × mH} (E : g_X11_hasPattern_33 s0 h = some o) (hK : (fiIX Q X) o) : mW l G m_X11_hasPattern 2 0 0 33 [none, none] [.int s0] h Q X := by
  unfold g_X11_hasPattern_33 at E
  replace E := grd_some E
  obtain ⟨g1, E⟩ := E
  cases E
  exact q_zreturn dX11_hasPattern_33 rfl (narZ g1) hK
set_option maxRecDepth 100000 in
set_option maxHeartbeats 4000000 in
theorem s_X11_hasPattern_0 {l : Launch} {G : mG} {Q : Option Value → mH → Prop} {X : String → mH → Prop} (p0 : Nat) (v1 : Int32) (h : mH) {o : (Int32 ⊕ String) × mH} (E : f_X11_hasPattern p0 v1 h = some o) (hK : (fiIX Q X) o) : mW l G m_X11_hasPattern 2 1 6 0 [some (.ref p0), some (.int v1)] [] h Q X := by
  unfold f_X11_hasPattern at E
  refine q_iload_n dX11_hasPattern_0 rfl ?_
  replace E := cal_some E
  obtain ⟨x2, h1, hc, E⟩ := E
  refine r_callS1 (mc := 1) (ms := 6) dX11_hasPattern_1 KX11_103 (c_X11_isSlot hc) (by decide) (Nat.le_of_ble_eq_true rfl) (fun _ _ q => q.elim) ?_
  rintro _ _ ⟨rfl, rfl⟩
  clear hc
  refine q_if_ne (tgt := 17) dX11_hasPattern_4 (by decide) (fun z3 => ?_) (fun z3 => ?_)
  · replace E := ite_f E z3
    refine q_aload_n dX11_hasPattern_17 rfl ?_
    replace E := grd_some E
    obtain ⟨g4, E⟩ := E
    replace E := orf_some E
    obtain ⟨a5, ea5, E⟩ := E
    refine r_getR dX11_hasPattern_18 FX11_10 g4 ea5 ?_
    refine q_iload_n dX11_hasPattern_21 rfl ?_
    replace E := grd_some E
    obtain ⟨g8, E⟩ := E
    refine q_room (d' := 2) (mc' := 0) (ms' := 0) (Nat.le_refl _) (Nat.le_of_ble_eq_true rfl) (Nat.le_of_ble_eq_true rfl) ?_
    replace E := cal_some E
    obtain ⟨o7, h6, hc, E⟩ := E
    refine r_callV1 (mc := 0) (ms := 0) dX11_hasPattern_22 KX11_174 (c_X6_pattern hc) g8 (by decide) (Nat.le_of_ble_eq_true rfl) (fun _ _ q => q.elim) ?_
    rintro _ _ ⟨rfl, rfl⟩
    clear hc
    replace E := oif_some E
    rcases E with ⟨rfl, E⟩ | ⟨a9, rfl, E⟩
    · refine q_ifnullN (tgt := 32) dX11_hasPattern_25 (by decide) ?_
      refine q_iconst dX11_hasPattern_32 ?_
      exact r_fewer [none, none] (ls_n (ls_n ls_0)) (s_X11_hasPattern_33 (Int32.ofInt 0) h6 E hK)
    · refine q_ifnull dX11_hasPattern_25 ?_
      refine q_iconst dX11_hasPattern_28 ?_
      refine q_goto (tgt := 33) dX11_hasPattern_29 (by decide) ?_
      exact r_fewer [none, none] (ls_n (ls_n ls_0)) (s_X11_hasPattern_33 (Int32.ofInt 1) h6 E hK)
  · replace E := ite_t E z3
    cases E
    exact q_throwS (mc := 0) (ms := 0) TX11_107_111 SX11_109 dX11_hasPattern_7 dX11_hasPattern_10 dX11_hasPattern_11 dX11_hasPattern_13 dX11_hasPattern_16 rfl (Nat.le_of_ble_eq_true rfl) hK
theorem c_X11_hasPattern {l : Launch} {G : mG} {p0 : Nat} {v1 : Int32} {h : mH} {o : (Int32 ⊕ String) × mH} (E : f_X11_hasPattern p0 v1 h = some o) : mMet l G m_X11_hasPattern 2 1 6 [.ref p0, .int v1] h (fun v k => ∃ r, o = (.inl r, k) ∧ v = some (.int r)) (fun e k => ∃ k0, o = (.inr e, k0) ∧ ∃ n, nx k0 ≤ n ∧ k = sn k0 n) := by
  refine mMet_of (by decide +kernel) rfl (ac_c rfl (ac_c rfl ac_0)) (Nat.le_of_ble_eq_true rfl) (s_X11_hasPattern_0 p0 v1 h E ?_)
  obtain ⟨r | e, k⟩ := o
  · exact ⟨r, rfl, rfl⟩
  · exact fun n hn => ⟨k, rfl, n, hn, rfl⟩
set_option maxRecDepth 100000 in
set_option maxHeartbeats 4000000 in
theorem s_X11_patternIn_0 {l : Launch} {G : mG} {Q : Option Value → mH → Prop} {X : String → mH → Prop} (p0 : Nat) (v1 : Int32) (h : mH) {o : (Option Nat ⊕ String) × mH} (E : f_X11_patternIn p0 v1 h = some o) (hK : (fiRX Q X) o) : mW l G m_X11_patternIn 2 1 6 0 [some (.ref p0), some (.int v1), none] [] h Q X := by
  unfold f_X11_patternIn at E
  refine q_aload_n dX11_patternIn_0 rfl ?_
  replace E := grd_some E
  obtain ⟨g1, E⟩ := E
  replace E := orf_some E
  obtain ⟨a2, ea2, E⟩ := E
  refine r_getR dX11_patternIn_1 FX11_10 g1 ea2 ?_
  refine q_iload_n dX11_patternIn_4 rfl ?_
  replace E := grd_some E
  obtain ⟨g5, E⟩ := E
  replace E := cal_some E
  obtain ⟨o4, h3, hc, E⟩ := E
  refine r_callV1 (mc := 1) (ms := 6) dX11_patternIn_5 KX11_174 (c_X6_pattern hc) g5 (by decide) (Nat.le_of_ble_eq_true rfl) (fun _ _ q => q.elim) ?_
  rintro _ _ ⟨rfl, rfl⟩
  clear hc
  refine r_astore_nO dX11_patternIn_8 (by decide) (ls' := [some (.ref p0), some (.int v1), some (va_rf o4)]) rfl ?_
  refine r_aload_nO dX11_patternIn_9 rfl ?_
  replace E := oif_some E
  rcases E with ⟨rfl, E⟩ | ⟨a6, rfl, E⟩
  · refine q_ifnonnullN dX11_patternIn_10 ?_
    cases E
    exact q_throwNS (mc := 0) (ms := 0) TX11_286_290 SX11_398 dX11_patternIn_13 dX11_patternIn_16 dX11_patternIn_17 dX11_patternIn_20 dX11_patternIn_23 rfl (Nat.le_of_ble_eq_true rfl) hK
  · refine q_ifnonnull (tgt := 24) dX11_patternIn_10 (by decide) ?_
    refine q_aload_n dX11_patternIn_24 rfl ?_
    cases E
    exact q_areturn (v := (some a6)) dX11_patternIn_25 rfl (by first | exact Or.inl ⟨_, rfl⟩ | exact Or.inr ⟨_, rfl⟩) hK
theorem c_X11_patternIn {l : Launch} {G : mG} {p0 : Nat} {v1 : Int32} {h : mH} {o : (Option Nat ⊕ String) × mH} (E : f_X11_patternIn p0 v1 h = some o) : mMet l G m_X11_patternIn 2 1 6 [.ref p0, .int v1] h (fun v k => ∃ r, o = (.inl r, k) ∧ v = some (va_rf r)) (fun e k => ∃ k0, o = (.inr e, k0) ∧ ∃ n, nx k0 ≤ n ∧ k = sn k0 n) := by
  refine mMet_of (by decide +kernel) rfl (ac_c rfl (ac_c rfl ac_0)) (Nat.le_of_ble_eq_true rfl) (s_X11_patternIn_0 p0 v1 h E ?_)
  obtain ⟨r | e, k⟩ := o
  · exact ⟨r, rfl, rfl⟩
  · exact fun n hn => ⟨k, rfl, n, hn, rfl⟩
set_option maxRecDepth 100000 in
set_option maxHeartbeats 4000000 in
theorem s_X11_letterCount_0 {l : Launch} {G : mG} {Q : Option Value → mH → Prop} {X : String → mH → Prop} (p0 : Nat) (v1 : Int32) (h : mH) {o : (Int32 ⊕ String) × mH} (E : f_X11_letterCount p0 v1 h = some o) (hK : (fiIX Q X) o) : mW l G m_X11_letterCount 3 1 6 0 [some (.ref p0), some (.int v1)] [] h Q X := by
  unfold f_X11_letterCount at E
  refine q_aload_n dX11_letterCount_0 rfl ?_
  refine q_iload_n dX11_letterCount_1 rfl ?_
  replace E := grd_some E
  obtain ⟨g3, E⟩ := E
  replace E := calX_some E
  rcases E with ⟨o2, h1, hc, E⟩ | ⟨e, h1, hc, E⟩
  · refine r_callV1 (mc := 0) (ms := 0) dX11_letterCount_2 KX11_178 (c_X11_patternIn hc) g3 (by decide) (Nat.le_of_ble_eq_true rfl) (fun _ _ ⟨_, q, _⟩ => by cases q) ?_
    rintro _ _ ⟨_, q, rfl⟩
    obtain ⟨e9, f9⟩ := inl_inj q; subst e9; subst f9
    clear hc q
    replace E := orf_some E
    obtain ⟨a4, rfl, E⟩ := E
    replace E := grd_some E
    obtain ⟨g7, E⟩ := E
    replace E := cal_some E
    obtain ⟨x6, h5, hc, E⟩ := E
    refine r_callV0 (mc := 0) (ms := 0) dX11_letterCount_5 KX11_181 (c_X4_letters hc) g7 (by decide) (Nat.le_of_ble_eq_true rfl) (fun _ _ q => q.elim) ?_
    rintro _ _ ⟨rfl, rfl⟩
    clear hc
    cases E
    exact q_ireturn dX11_letterCount_8 rfl hK
  · cases E
    refine r_callV1 (mc := 0) (ms := 0) dX11_letterCount_2 KX11_178 (c_X11_patternIn hc) g3 (by decide) (Nat.le_of_ble_eq_true rfl) (fun _ _ ⟨_, q, n, hn, hk⟩ => by cases q; subst hk; exact hK n hn) ?_
    rintro _ _ ⟨_, q, _⟩
    cases q
theorem c_X11_letterCount {l : Launch} {G : mG} {p0 : Nat} {v1 : Int32} {h : mH} {o : (Int32 ⊕ String) × mH} (E : f_X11_letterCount p0 v1 h = some o) : mMet l G m_X11_letterCount 3 1 6 [.ref p0, .int v1] h (fun v k => ∃ r, o = (.inl r, k) ∧ v = some (.int r)) (fun e k => ∃ k0, o = (.inr e, k0) ∧ ∃ n, nx k0 ≤ n ∧ k = sn k0 n) := by
  refine mMet_of (by decide +kernel) rfl (ac_c rfl (ac_c rfl ac_0)) (Nat.le_of_ble_eq_true rfl) (s_X11_letterCount_0 p0 v1 h E ?_)
  obtain ⟨r | e, k⟩ := o
  · exact ⟨r, rfl, rfl⟩
  · exact fun n hn => ⟨k, rfl, n, hn, rfl⟩
set_option maxRecDepth 100000 in
set_option maxHeartbeats 4000000 in
theorem s_X11_acceptsEmpty_0 {l : Launch} {G : mG} {Q : Option Value → mH → Prop} {X : String → mH → Prop} (p0 : Nat) (v1 : Int32) (h : mH) {o : (Int32 ⊕ String) × mH} (E : f_X11_acceptsEmpty p0 v1 h = some o) (hK : (fiIX Q X) o) : mW l G m_X11_acceptsEmpty 3 1 6 0 [some (.ref p0), some (.int v1)] [] h Q X := by
  unfold f_X11_acceptsEmpty at E
  refine q_aload_n dX11_acceptsEmpty_0 rfl ?_
  replace E := grd_some E
  obtain ⟨g1, E⟩ := E
  replace E := orf_some E
  obtain ⟨a2, ea2, E⟩ := E
  refine r_getR dX11_acceptsEmpty_1 FX11_50 g1 ea2 ?_
  refine q_aload_n dX11_acceptsEmpty_4 rfl ?_
  refine q_iload_n dX11_acceptsEmpty_5 rfl ?_
  replace E := calX_some E
  rcases E with ⟨o4, h3, hc, E⟩ | ⟨e, h3, hc, E⟩
  · refine r_callV1 (mc := 0) (ms := 0) dX11_acceptsEmpty_6 KX11_178 (c_X11_patternIn hc) g1 (by decide) (Nat.le_of_ble_eq_true rfl) (fun _ _ ⟨_, q, _⟩ => by cases q) ?_
    rintro _ _ ⟨_, q, rfl⟩
    obtain ⟨e9, f9⟩ := inl_inj q; subst e9; subst f9
    clear hc q
    replace E := orf_some E
    obtain ⟨a5, rfl, E⟩ := E
    replace E := grd_some E
    obtain ⟨g8, E⟩ := E
    replace E := cal_some E
    obtain ⟨_, h6, hc, E⟩ := E
    refine r_callV1 (mc := 0) (ms := 0) dX11_acceptsEmpty_9 KX11_186 (c_X5_number hc) g8 (by decide) (Nat.le_of_ble_eq_true rfl) (fun _ _ q => q.elim) ?_
    rintro _ _ ⟨rfl, rfl⟩
    clear hc
    refine q_aload_n dX11_acceptsEmpty_12 rfl ?_
    replace E := grd_some E
    obtain ⟨g9, E⟩ := E
    replace E := orf_some E
    obtain ⟨a10, ea10, E⟩ := E
    refine r_getR dX11_acceptsEmpty_13 FX11_50 g9 ea10 ?_
    replace E := grd_some E
    obtain ⟨g13, E⟩ := E
    replace E := cal_some E
    obtain ⟨x12, h11, hc, E⟩ := E
    refine r_callV0 (mc := 0) (ms := 0) dX11_acceptsEmpty_16 KX11_190 (c_X5_acceptNothing hc) g13 (by decide) (Nat.le_of_ble_eq_true rfl) (fun _ _ q => q.elim) ?_
    rintro _ _ ⟨rfl, rfl⟩
    clear hc
    replace E := grd_some E
    obtain ⟨g14, E⟩ := E
    cases E
    exact q_zreturn dX11_acceptsEmpty_19 rfl (narZ g14) hK
  · cases E
    refine r_callV1 (mc := 0) (ms := 0) dX11_acceptsEmpty_6 KX11_178 (c_X11_patternIn hc) g1 (by decide) (Nat.le_of_ble_eq_true rfl) (fun _ _ ⟨_, q, n, hn, hk⟩ => by cases q; subst hk; exact hK n hn) ?_
    rintro _ _ ⟨_, q, _⟩
    cases q
theorem c_X11_acceptsEmpty {l : Launch} {G : mG} {p0 : Nat} {v1 : Int32} {h : mH} {o : (Int32 ⊕ String) × mH} (E : f_X11_acceptsEmpty p0 v1 h = some o) : mMet l G m_X11_acceptsEmpty 3 1 6 [.ref p0, .int v1] h (fun v k => ∃ r, o = (.inl r, k) ∧ v = some (.int r)) (fun e k => ∃ k0, o = (.inr e, k0) ∧ ∃ n, nx k0 ≤ n ∧ k = sn k0 n) := by
  refine mMet_of (by decide +kernel) rfl (ac_c rfl (ac_c rfl ac_0)) (Nat.le_of_ble_eq_true rfl) (s_X11_acceptsEmpty_0 p0 v1 h E ?_)
  obtain ⟨r | e, k⟩ := o
  · exact ⟨r, rfl, rfl⟩
  · exact fun n hn => ⟨k, rfl, n, hn, rfl⟩
set_option maxRecDepth 100000 in
set_option maxHeartbeats 4000000 in
theorem s_X11_letterNumber_0 {l : Launch} {G : mG} {Q : Option Value → mH → Prop} {X : String → mH → Prop} (v0 : Int32) (h : mH) {o : (Int32 ⊕ String) × mH} (E : f_X11_letterNumber v0 h = some o) (hK : (fiIX Q X) o) : mW l G m_X11_letterNumber 1 1 6 0 [some (.int v0)] [] h Q X := by
  unfold f_X11_letterNumber at E
  refine q_iload_n dX11_letterNumber_0 rfl ?_
  replace E := cal_some E
  obtain ⟨x2, h1, hc, E⟩ := E
  refine r_callS1 (mc := 1) (ms := 6) dX11_letterNumber_1 KX11_390 (c_X11_isLetter hc) (by decide) (Nat.le_of_ble_eq_true rfl) (fun _ _ q => q.elim) ?_
  rintro _ _ ⟨rfl, rfl⟩
  clear hc
  refine q_if_ne (tgt := 18) dX11_letterNumber_4 (by decide) (fun z3 => ?_) (fun z3 => ?_)
  · replace E := ite_f E z3
    refine q_iload_n dX11_letterNumber_18 rfl ?_
    refine q_bipush (v := (Int32.ofInt 97)) dX11_letterNumber_19 (by decide) ?_
    refine q_isub dX11_letterNumber_21 ?_
    cases E
    exact q_ireturn dX11_letterNumber_22 rfl hK
  · replace E := ite_t E z3
    cases E
    exact q_throwSW (mc := 0) (ms := 0) TX11_125_129 SX11_394 dX11_letterNumber_7 dX11_letterNumber_10 dX11_letterNumber_11 dX11_letterNumber_14 dX11_letterNumber_17 rfl (Nat.le_of_ble_eq_true rfl) hK
theorem c_X11_letterNumber {l : Launch} {G : mG} {v0 : Int32} {h : mH} {o : (Int32 ⊕ String) × mH} (E : f_X11_letterNumber v0 h = some o) : mMet l G m_X11_letterNumber 1 1 6 [.int v0] h (fun v k => ∃ r, o = (.inl r, k) ∧ v = some (.int r)) (fun e k => ∃ k0, o = (.inr e, k0) ∧ ∃ n, nx k0 ≤ n ∧ k = sn k0 n) := by
  refine mMet_of (by decide +kernel) rfl (ac_c rfl ac_0) (Nat.le_of_ble_eq_true rfl) (s_X11_letterNumber_0 v0 h E ?_)
  obtain ⟨r | e, k⟩ := o
  · exact ⟨r, rfl, rfl⟩
  · exact fun n hn => ⟨k, rfl, n, hn, rfl⟩
set_option maxRecDepth 100000 in
set_option maxHeartbeats 4000000 in
theorem s_X11_canBegin_39 {l : Launch} {G : mG} {Q : Option Value → mH → Prop} {X : String → mH → Prop} (s0 : Int32) (h : mH) {o : (Int32 ⊕ String) × mH} (E : g_X11_canBegin_39 s0 h = some o) (hK : (fiIX Q X) o) : mW l G m_X11_canBegin 3 0 0 39 [none, none, none] [.int s0] h Q X := by
  unfold g_X11_canBegin_39 at E
  replace E := grd_some E
  obtain ⟨g1, E⟩ := E
  cases E
  exact q_zreturn dX11_canBegin_39 rfl (narZ g1) hK
set_option maxRecDepth 100000 in
set_option maxHeartbeats 4000000 in
theorem s_X11_canBegin_0 {l : Launch} {G : mG} {Q : Option Value → mH → Prop} {X : String → mH → Prop} (p0 : Nat) (v1 : Int32) (v2 : Int32) (h : mH) {o : (Int32 ⊕ String) × mH} (E : f_X11_canBegin p0 v1 v2 h = some o) (hK : (fiIX Q X) o) : mW l G m_X11_canBegin 3 2 12 0 [some (.ref p0), some (.int v1), some (.int v2)] [] h Q X := by
  unfold f_X11_canBegin at E
  refine q_aload_n dX11_canBegin_0 rfl ?_
  replace E := grd_some E
  obtain ⟨g1, E⟩ := E
  replace E := orf_some E
  obtain ⟨a2, ea2, E⟩ := E
  refine r_getR dX11_canBegin_1 FX11_50 g1 ea2 ?_
  refine q_aload_n dX11_canBegin_4 rfl ?_
  refine q_iload_n dX11_canBegin_5 rfl ?_
  replace E := calX_some E
  rcases E with ⟨o4, h3, hc, E⟩ | ⟨e, h3, hc, E⟩
  · refine r_callV1 (mc := 1) (ms := 6) dX11_canBegin_6 KX11_178 (c_X11_patternIn hc) g1 (by decide) (Nat.le_of_ble_eq_true rfl) (fun _ _ ⟨_, q, _⟩ => by cases q) ?_
    rintro _ _ ⟨_, q, rfl⟩
    obtain ⟨e9, f9⟩ := inl_inj q; subst e9; subst f9
    clear hc q
    replace E := orf_some E
    obtain ⟨a5, rfl, E⟩ := E
    replace E := grd_some E
    obtain ⟨g8, E⟩ := E
    replace E := cal_some E
    obtain ⟨_, h6, hc, E⟩ := E
    refine r_callV1 (mc := 1) (ms := 6) dX11_canBegin_9 KX11_186 (c_X5_number hc) g8 (by decide) (Nat.le_of_ble_eq_true rfl) (fun _ _ q => q.elim) ?_
    rintro _ _ ⟨rfl, rfl⟩
    clear hc
    refine q_aload_n dX11_canBegin_12 rfl ?_
    replace E := grd_some E
    obtain ⟨g9, E⟩ := E
    replace E := orf_some E
    obtain ⟨a10, ea10, E⟩ := E
    refine r_getR dX11_canBegin_13 FX11_50 g9 ea10 ?_
    replace E := grd_some E
    obtain ⟨g13, E⟩ := E
    replace E := cal_some E
    obtain ⟨x12, h11, hc, E⟩ := E
    refine r_callV0 (mc := 1) (ms := 6) dX11_canBegin_16 KX11_193 (c_X5_first hc) g13 (by decide) (Nat.le_of_ble_eq_true rfl) (fun _ _ q => q.elim) ?_
    rintro _ _ ⟨rfl, rfl⟩
    clear hc
    refine q_aload_n dX11_canBegin_19 rfl ?_
    replace E := grd_some E
    obtain ⟨g14, E⟩ := E
    replace E := orf_some E
    obtain ⟨a15, ea15, E⟩ := E
    refine r_getR dX11_canBegin_20 FX11_50 g14 ea15 ?_
    refine q_iload_n dX11_canBegin_23 rfl ?_
    replace E := calX_some E
    rcases E with ⟨x17, h16, hc, E⟩ | ⟨e, h16, hc, E⟩
    · refine r_callS1 (mc := 0) (ms := 0) dX11_canBegin_24 KX11_196 (c_X11_letterNumber hc) (by decide) (Nat.le_of_ble_eq_true rfl) (fun _ _ ⟨_, q, _⟩ => by cases q) ?_
      rintro _ _ ⟨_, q, rfl⟩
      obtain ⟨e9, f9⟩ := inl_inj q; subst e9; subst f9
      clear hc q
      replace E := grd_some E
      obtain ⟨g20, E⟩ := E
      replace E := cal_some E
      obtain ⟨x19, h18, hc, E⟩ := E
      refine r_callV1 (mc := 0) (ms := 0) dX11_canBegin_27 KX11_200 (c_X5_having hc) g20 (by decide) (Nat.le_of_ble_eq_true rfl) (fun _ _ q => q.elim) ?_
      rintro _ _ ⟨rfl, rfl⟩
      clear hc
      refine q_iand dX11_canBegin_30 ?_
      refine q_if_eq (tgt := 38) dX11_canBegin_31 (by decide) (fun z21 => ?_) (fun z21 => ?_)
      · replace E := ite_t E z21
        refine q_iconst dX11_canBegin_38 ?_
        exact r_fewer [none, none, none] (ls_n (ls_n (ls_n ls_0))) (s_X11_canBegin_39 (Int32.ofInt 0) h18 E hK)
      · replace E := ite_f E z21
        refine q_iconst dX11_canBegin_34 ?_
        refine q_goto (tgt := 39) dX11_canBegin_35 (by decide) ?_
        exact r_fewer [none, none, none] (ls_n (ls_n (ls_n ls_0))) (s_X11_canBegin_39 (Int32.ofInt 1) h18 E hK)
    · cases E
      refine r_callS1 (mc := 0) (ms := 0) dX11_canBegin_24 KX11_196 (c_X11_letterNumber hc) (by decide) (Nat.le_of_ble_eq_true rfl) (fun _ _ ⟨_, q, n, hn, hk⟩ => by cases q; subst hk; exact hK n hn) ?_
      rintro _ _ ⟨_, q, _⟩
      cases q
  · cases E
    refine r_callV1 (mc := 1) (ms := 6) dX11_canBegin_6 KX11_178 (c_X11_patternIn hc) g1 (by decide) (Nat.le_of_ble_eq_true rfl) (fun _ _ ⟨_, q, n, hn, hk⟩ => by cases q; subst hk; exact hK n hn) ?_
    rintro _ _ ⟨_, q, _⟩
    cases q
theorem c_X11_canBegin {l : Launch} {G : mG} {p0 : Nat} {v1 : Int32} {v2 : Int32} {h : mH} {o : (Int32 ⊕ String) × mH} (E : f_X11_canBegin p0 v1 v2 h = some o) : mMet l G m_X11_canBegin 3 2 12 [.ref p0, .int v1, .int v2] h (fun v k => ∃ r, o = (.inl r, k) ∧ v = some (.int r)) (fun e k => ∃ k0, o = (.inr e, k0) ∧ ∃ n, nx k0 ≤ n ∧ k = sn k0 n) := by
  refine mMet_of (by decide +kernel) rfl (ac_c rfl (ac_c rfl (ac_c rfl ac_0))) (Nat.le_of_ble_eq_true rfl) (s_X11_canBegin_0 p0 v1 v2 h E ?_)
  obtain ⟨r | e, k⟩ := o
  · exact ⟨r, rfl, rfl⟩
  · exact fun n hn => ⟨k, rfl, n, hn, rfl⟩
set_option maxRecDepth 100000 in
set_option maxHeartbeats 4000000 in
theorem s_X11_canEnd_39 {l : Launch} {G : mG} {Q : Option Value → mH → Prop} {X : String → mH → Prop} (s0 : Int32) (h : mH) {o : (Int32 ⊕ String) × mH} (E : g_X11_canEnd_39 s0 h = some o) (hK : (fiIX Q X) o) : mW l G m_X11_canEnd 3 0 0 39 [none, none, none] [.int s0] h Q X := by
  unfold g_X11_canEnd_39 at E
  replace E := grd_some E
  obtain ⟨g1, E⟩ := E
  cases E
  exact q_zreturn dX11_canEnd_39 rfl (narZ g1) hK
set_option maxRecDepth 100000 in
set_option maxHeartbeats 4000000 in
theorem s_X11_canEnd_0 {l : Launch} {G : mG} {Q : Option Value → mH → Prop} {X : String → mH → Prop} (p0 : Nat) (v1 : Int32) (v2 : Int32) (h : mH) {o : (Int32 ⊕ String) × mH} (E : f_X11_canEnd p0 v1 v2 h = some o) (hK : (fiIX Q X) o) : mW l G m_X11_canEnd 3 2 12 0 [some (.ref p0), some (.int v1), some (.int v2)] [] h Q X := by
  unfold f_X11_canEnd at E
  refine q_aload_n dX11_canEnd_0 rfl ?_
  replace E := grd_some E
  obtain ⟨g1, E⟩ := E
  replace E := orf_some E
  obtain ⟨a2, ea2, E⟩ := E
  refine r_getR dX11_canEnd_1 FX11_50 g1 ea2 ?_
  refine q_aload_n dX11_canEnd_4 rfl ?_
  refine q_iload_n dX11_canEnd_5 rfl ?_
  replace E := calX_some E
  rcases E with ⟨o4, h3, hc, E⟩ | ⟨e, h3, hc, E⟩
  · refine r_callV1 (mc := 1) (ms := 6) dX11_canEnd_6 KX11_178 (c_X11_patternIn hc) g1 (by decide) (Nat.le_of_ble_eq_true rfl) (fun _ _ ⟨_, q, _⟩ => by cases q) ?_
    rintro _ _ ⟨_, q, rfl⟩
    obtain ⟨e9, f9⟩ := inl_inj q; subst e9; subst f9
    clear hc q
    replace E := orf_some E
    obtain ⟨a5, rfl, E⟩ := E
    replace E := grd_some E
    obtain ⟨g8, E⟩ := E
    replace E := cal_some E
    obtain ⟨_, h6, hc, E⟩ := E
    refine r_callV1 (mc := 1) (ms := 6) dX11_canEnd_9 KX11_186 (c_X5_number hc) g8 (by decide) (Nat.le_of_ble_eq_true rfl) (fun _ _ q => q.elim) ?_
    rintro _ _ ⟨rfl, rfl⟩
    clear hc
    refine q_aload_n dX11_canEnd_12 rfl ?_
    replace E := grd_some E
    obtain ⟨g9, E⟩ := E
    replace E := orf_some E
    obtain ⟨a10, ea10, E⟩ := E
    refine r_getR dX11_canEnd_13 FX11_50 g9 ea10 ?_
    replace E := grd_some E
    obtain ⟨g13, E⟩ := E
    replace E := cal_some E
    obtain ⟨x12, h11, hc, E⟩ := E
    refine r_callV0 (mc := 1) (ms := 6) dX11_canEnd_16 KX11_203 (c_X5_last hc) g13 (by decide) (Nat.le_of_ble_eq_true rfl) (fun _ _ q => q.elim) ?_
    rintro _ _ ⟨rfl, rfl⟩
    clear hc
    refine q_aload_n dX11_canEnd_19 rfl ?_
    replace E := grd_some E
    obtain ⟨g14, E⟩ := E
    replace E := orf_some E
    obtain ⟨a15, ea15, E⟩ := E
    refine r_getR dX11_canEnd_20 FX11_50 g14 ea15 ?_
    refine q_iload_n dX11_canEnd_23 rfl ?_
    replace E := calX_some E
    rcases E with ⟨x17, h16, hc, E⟩ | ⟨e, h16, hc, E⟩
    · refine r_callS1 (mc := 0) (ms := 0) dX11_canEnd_24 KX11_196 (c_X11_letterNumber hc) (by decide) (Nat.le_of_ble_eq_true rfl) (fun _ _ ⟨_, q, _⟩ => by cases q) ?_
      rintro _ _ ⟨_, q, rfl⟩
      obtain ⟨e9, f9⟩ := inl_inj q; subst e9; subst f9
      clear hc q
      replace E := grd_some E
      obtain ⟨g20, E⟩ := E
      replace E := cal_some E
      obtain ⟨x19, h18, hc, E⟩ := E
      refine r_callV1 (mc := 0) (ms := 0) dX11_canEnd_27 KX11_200 (c_X5_having hc) g20 (by decide) (Nat.le_of_ble_eq_true rfl) (fun _ _ q => q.elim) ?_
      rintro _ _ ⟨rfl, rfl⟩
      clear hc
      refine q_iand dX11_canEnd_30 ?_
      refine q_if_eq (tgt := 38) dX11_canEnd_31 (by decide) (fun z21 => ?_) (fun z21 => ?_)
      · replace E := ite_t E z21
        refine q_iconst dX11_canEnd_38 ?_
        exact r_fewer [none, none, none] (ls_n (ls_n (ls_n ls_0))) (s_X11_canEnd_39 (Int32.ofInt 0) h18 E hK)
      · replace E := ite_f E z21
        refine q_iconst dX11_canEnd_34 ?_
        refine q_goto (tgt := 39) dX11_canEnd_35 (by decide) ?_
        exact r_fewer [none, none, none] (ls_n (ls_n (ls_n ls_0))) (s_X11_canEnd_39 (Int32.ofInt 1) h18 E hK)
    · cases E
      refine r_callS1 (mc := 0) (ms := 0) dX11_canEnd_24 KX11_196 (c_X11_letterNumber hc) (by decide) (Nat.le_of_ble_eq_true rfl) (fun _ _ ⟨_, q, n, hn, hk⟩ => by cases q; subst hk; exact hK n hn) ?_
      rintro _ _ ⟨_, q, _⟩
      cases q
  · cases E
    refine r_callV1 (mc := 1) (ms := 6) dX11_canEnd_6 KX11_178 (c_X11_patternIn hc) g1 (by decide) (Nat.le_of_ble_eq_true rfl) (fun _ _ ⟨_, q, n, hn, hk⟩ => by cases q; subst hk; exact hK n hn) ?_
    rintro _ _ ⟨_, q, _⟩
    cases q
theorem c_X11_canEnd {l : Launch} {G : mG} {p0 : Nat} {v1 : Int32} {v2 : Int32} {h : mH} {o : (Int32 ⊕ String) × mH} (E : f_X11_canEnd p0 v1 v2 h = some o) : mMet l G m_X11_canEnd 3 2 12 [.ref p0, .int v1, .int v2] h (fun v k => ∃ r, o = (.inl r, k) ∧ v = some (.int r)) (fun e k => ∃ k0, o = (.inr e, k0) ∧ ∃ n, nx k0 ≤ n ∧ k = sn k0 n) := by
  refine mMet_of (by decide +kernel) rfl (ac_c rfl (ac_c rfl (ac_c rfl ac_0))) (Nat.le_of_ble_eq_true rfl) (s_X11_canEnd_0 p0 v1 v2 h E ?_)
  obtain ⟨r | e, k⟩ := o
  · exact ⟨r, rfl, rfl⟩
  · exact fun n hn => ⟨k, rfl, n, hn, rfl⟩
set_option maxRecDepth 100000 in
set_option maxHeartbeats 4000000 in
theorem s_X11_canBeAdjacent_58 {l : Launch} {G : mG} {Q : Option Value → mH → Prop} {X : String → mH → Prop} (s0 : Int32) (h : mH) {o : (Int32 ⊕ String) × mH} (E : g_X11_canBeAdjacent_58 s0 h = some o) (hK : (fiIX Q X) o) : mW l G m_X11_canBeAdjacent 3 0 0 58 [none, none, none, none, none, none] [.int s0] h Q X := by
  unfold g_X11_canBeAdjacent_58 at E
  replace E := grd_some E
  obtain ⟨g1, E⟩ := E
  cases E
  exact q_zreturn dX11_canBeAdjacent_58 rfl (narZ g1) hK
set_option maxRecDepth 100000 in
set_option maxHeartbeats 4000000 in
theorem s_X11_canBeAdjacent_0 {l : Launch} {G : mG} {Q : Option Value → mH → Prop} {X : String → mH → Prop} (p0 : Nat) (v1 : Int32) (v2 : Int32) (v3 : Int32) (h : mH) {o : (Int32 ⊕ String) × mH} (E : f_X11_canBeAdjacent p0 v1 v2 v3 h = some o) (hK : (fiIX Q X) o) : mW l G m_X11_canBeAdjacent 3 3 18 0 [some (.ref p0), some (.int v1), some (.int v2), some (.int v3), none, none] [] h Q X := by
  unfold f_X11_canBeAdjacent at E
  refine q_aload_n dX11_canBeAdjacent_0 rfl ?_
  replace E := grd_some E
  obtain ⟨g1, E⟩ := E
  replace E := orf_some E
  obtain ⟨a2, ea2, E⟩ := E
  refine r_getR dX11_canBeAdjacent_1 FX11_50 g1 ea2 ?_
  refine q_aload_n dX11_canBeAdjacent_4 rfl ?_
  refine q_iload_n dX11_canBeAdjacent_5 rfl ?_
  replace E := calX_some E
  rcases E with ⟨o4, h3, hc, E⟩ | ⟨e, h3, hc, E⟩
  · refine r_callV1 (mc := 2) (ms := 12) dX11_canBeAdjacent_6 KX11_178 (c_X11_patternIn hc) g1 (by decide) (Nat.le_of_ble_eq_true rfl) (fun _ _ ⟨_, q, _⟩ => by cases q) ?_
    rintro _ _ ⟨_, q, rfl⟩
    obtain ⟨e9, f9⟩ := inl_inj q; subst e9; subst f9
    clear hc q
    replace E := orf_some E
    obtain ⟨a5, rfl, E⟩ := E
    replace E := grd_some E
    obtain ⟨g8, E⟩ := E
    replace E := cal_some E
    obtain ⟨_, h6, hc, E⟩ := E
    refine r_callV1 (mc := 2) (ms := 12) dX11_canBeAdjacent_9 KX11_186 (c_X5_number hc) g8 (by decide) (Nat.le_of_ble_eq_true rfl) (fun _ _ q => q.elim) ?_
    rintro _ _ ⟨rfl, rfl⟩
    clear hc
    refine q_aload_n dX11_canBeAdjacent_12 rfl ?_
    replace E := grd_some E
    obtain ⟨g9, E⟩ := E
    replace E := orf_some E
    obtain ⟨a10, ea10, E⟩ := E
    refine r_getR dX11_canBeAdjacent_13 FX11_50 g9 ea10 ?_
    refine q_iload_n dX11_canBeAdjacent_16 rfl ?_
    replace E := calX_some E
    rcases E with ⟨x12, h11, hc, E⟩ | ⟨e, h11, hc, E⟩
    · refine r_callS1 (mc := 1) (ms := 6) dX11_canBeAdjacent_17 KX11_196 (c_X11_letterNumber hc) (by decide) (Nat.le_of_ble_eq_true rfl) (fun _ _ ⟨_, q, _⟩ => by cases q) ?_
      rintro _ _ ⟨_, q, rfl⟩
      obtain ⟨e9, f9⟩ := inl_inj q; subst e9; subst f9
      clear hc q
      replace E := grd_some E
      obtain ⟨g15, E⟩ := E
      replace E := cal_some E
      obtain ⟨x14, h13, hc, E⟩ := E
      refine r_callV1 (mc := 1) (ms := 6) dX11_canBeAdjacent_20 KX11_200 (c_X5_having hc) g15 (by decide) (Nat.le_of_ble_eq_true rfl) (fun _ _ q => q.elim) ?_
      rintro _ _ ⟨rfl, rfl⟩
      clear hc
      refine r_istore dX11_canBeAdjacent_23 (by decide) rfl (ls' := [some (.ref p0), some (.int v1), some (.int v2), some (.int v3), some (.int x14), none]) rfl ?_
      refine q_aload_n dX11_canBeAdjacent_25 rfl ?_
      replace E := grd_some E
      obtain ⟨g16, E⟩ := E
      replace E := orf_some E
      obtain ⟨a17, ea17, E⟩ := E
      refine r_getR dX11_canBeAdjacent_26 FX11_50 g16 ea17 ?_
      refine q_iload_n dX11_canBeAdjacent_29 rfl ?_
      replace E := calX_some E
      rcases E with ⟨x19, h18, hc, E⟩ | ⟨e, h18, hc, E⟩
      · refine r_callS1 (mc := 0) (ms := 0) dX11_canBeAdjacent_30 KX11_196 (c_X11_letterNumber hc) (by decide) (Nat.le_of_ble_eq_true rfl) (fun _ _ ⟨_, q, _⟩ => by cases q) ?_
        rintro _ _ ⟨_, q, rfl⟩
        obtain ⟨e9, f9⟩ := inl_inj q; subst e9; subst f9
        clear hc q
        replace E := grd_some E
        obtain ⟨g22, E⟩ := E
        replace E := cal_some E
        obtain ⟨x21, h20, hc, E⟩ := E
        refine r_callV1 (mc := 0) (ms := 0) dX11_canBeAdjacent_33 KX11_200 (c_X5_having hc) g22 (by decide) (Nat.le_of_ble_eq_true rfl) (fun _ _ q => q.elim) ?_
        rintro _ _ ⟨rfl, rfl⟩
        clear hc
        refine r_istore dX11_canBeAdjacent_36 (by decide) rfl (ls' := [some (.ref p0), some (.int v1), some (.int v2), some (.int v3), some (.int x14), some (.int x21)]) rfl ?_
        refine q_aload_n dX11_canBeAdjacent_38 rfl ?_
        replace E := grd_some E
        obtain ⟨g23, E⟩ := E
        replace E := orf_some E
        obtain ⟨a24, ea24, E⟩ := E
        refine r_getR dX11_canBeAdjacent_39 FX11_50 g23 ea24 ?_
        refine q_iload dX11_canBeAdjacent_42 rfl ?_
        replace E := grd_some E
        obtain ⟨g27, E⟩ := E
        replace E := cal_some E
        obtain ⟨x26, h25, hc, E⟩ := E
        refine r_callV1 (mc := 0) (ms := 0) dX11_canBeAdjacent_44 KX11_206 (c_X5_followersOf hc) g27 (by decide) (Nat.le_of_ble_eq_true rfl) (fun _ _ q => q.elim) ?_
        rintro _ _ ⟨rfl, rfl⟩
        clear hc
        refine q_iload dX11_canBeAdjacent_47 rfl ?_
        refine q_iand dX11_canBeAdjacent_49 ?_
        refine q_if_eq (tgt := 57) dX11_canBeAdjacent_50 (by decide) (fun z28 => ?_) (fun z28 => ?_)
        · replace E := ite_t E z28
          refine q_iconst dX11_canBeAdjacent_57 ?_
          exact r_fewer [none, none, none, none, none, none] (ls_n (ls_n (ls_n (ls_n (ls_n (ls_n ls_0)))))) (s_X11_canBeAdjacent_58 (Int32.ofInt 0) h25 E hK)
        · replace E := ite_f E z28
          refine q_iconst dX11_canBeAdjacent_53 ?_
          refine q_goto (tgt := 58) dX11_canBeAdjacent_54 (by decide) ?_
          exact r_fewer [none, none, none, none, none, none] (ls_n (ls_n (ls_n (ls_n (ls_n (ls_n ls_0)))))) (s_X11_canBeAdjacent_58 (Int32.ofInt 1) h25 E hK)
      · cases E
        refine r_callS1 (mc := 0) (ms := 0) dX11_canBeAdjacent_30 KX11_196 (c_X11_letterNumber hc) (by decide) (Nat.le_of_ble_eq_true rfl) (fun _ _ ⟨_, q, n, hn, hk⟩ => by cases q; subst hk; exact hK n hn) ?_
        rintro _ _ ⟨_, q, _⟩
        cases q
    · cases E
      refine r_callS1 (mc := 1) (ms := 6) dX11_canBeAdjacent_17 KX11_196 (c_X11_letterNumber hc) (by decide) (Nat.le_of_ble_eq_true rfl) (fun _ _ ⟨_, q, n, hn, hk⟩ => by cases q; subst hk; exact hK n hn) ?_
      rintro _ _ ⟨_, q, _⟩
      cases q
  · cases E
    refine r_callV1 (mc := 2) (ms := 12) dX11_canBeAdjacent_6 KX11_178 (c_X11_patternIn hc) g1 (by decide) (Nat.le_of_ble_eq_true rfl) (fun _ _ ⟨_, q, n, hn, hk⟩ => by cases q; subst hk; exact hK n hn) ?_
    rintro _ _ ⟨_, q, _⟩
    cases q
theorem c_X11_canBeAdjacent {l : Launch} {G : mG} {p0 : Nat} {v1 : Int32} {v2 : Int32} {v3 : Int32} {h : mH} {o : (Int32 ⊕ String) × mH} (E : f_X11_canBeAdjacent p0 v1 v2 v3 h = some o) : mMet l G m_X11_canBeAdjacent 3 3 18 [.ref p0, .int v1, .int v2, .int v3] h (fun v k => ∃ r, o = (.inl r, k) ∧ v = some (.int r)) (fun e k => ∃ k0, o = (.inr e, k0) ∧ ∃ n, nx k0 ≤ n ∧ k = sn k0 n) := by
  refine mMet_of (by decide +kernel) rfl (ac_c rfl (ac_c rfl (ac_c rfl (ac_c rfl ac_0)))) (Nat.le_of_ble_eq_true rfl) (s_X11_canBeAdjacent_0 p0 v1 v2 v3 h E ?_)
  obtain ⟨r | e, k⟩ := o
  · exact ⟨r, rfl, rfl⟩
  · exact fun n hn => ⟨k, rfl, n, hn, rfl⟩
set_option maxRecDepth 100000 in
set_option maxHeartbeats 4000000 in
theorem s_X11_matchedWord_0 {l : Launch} {G : mG} {Q : Option Value → mH → Prop} {X : String → mH → Prop} (p0 : Nat) (h : mH) {o : (Option Nat ⊕ String) × mH} (E : f_X11_matchedWord p0 h = some o) (hK : (fiRX Q X) o) : mW l G m_X11_matchedWord 2 3 262 0 [some (.ref p0), none] [] h Q X := by
  unfold f_X11_matchedWord at E
  refine q_aload_n dX11_matchedWord_0 rfl ?_
  replace E := grd_some E
  obtain ⟨g1, E⟩ := E
  replace E := orf_some E
  obtain ⟨a2, ea2, E⟩ := E
  refine r_getR dX11_matchedWord_1 FX11_29 g1 ea2 ?_
  refine q_iconst dX11_matchedWord_4 ?_
  refine q_aload_n dX11_matchedWord_5 rfl ?_
  refine r_getR dX11_matchedWord_6 FX11_29 g1 ea2 ?_
  replace E := grd_some E
  obtain ⟨g6, E⟩ := E
  replace E := cal_some E
  obtain ⟨x5, h4, hc, E⟩ := E
  refine r_callV0 (mc := 3) (ms := 262) dX11_matchedWord_9 KX11_157 (c_X9_size hc) g6 (by decide) (Nat.le_of_ble_eq_true rfl) (fun _ _ q => q.elim) ?_
  rintro _ _ ⟨rfl, rfl⟩
  clear hc
  refine q_bipush (v := (Int32.ofInt 12)) dX11_matchedWord_12 (by decide) ?_
  replace E := grd_some E
  obtain ⟨g9, E⟩ := E
  replace E := cal_some E
  obtain ⟨o8, h7, hc, E⟩ := E
  refine r_callV3 (mc := 1) (ms := 6) dX11_matchedWord_14 KX11_160 (c_X9_wordBetween hc) g9 (by decide) (Nat.le_of_ble_eq_true rfl) (fun _ _ q => q.elim) ?_
  rintro _ _ ⟨rfl, rfl⟩
  clear hc
  refine r_astore_nO dX11_matchedWord_17 (by decide) (ls' := [some (.ref p0), some (va_rf o8)]) rfl ?_
  refine r_aload_nO dX11_matchedWord_18 rfl ?_
  replace E := oif_some E
  rcases E with ⟨rfl, E⟩ | ⟨a10, rfl, E⟩
  · refine q_ifnonnullN dX11_matchedWord_19 ?_
    cases E
    exact q_throwSW (mc := 0) (ms := 0) TX11_125_129 SX11_405 dX11_matchedWord_22 dX11_matchedWord_25 dX11_matchedWord_26 dX11_matchedWord_29 dX11_matchedWord_32 rfl (Nat.le_of_ble_eq_true rfl) hK
  · refine q_ifnonnull (tgt := 33) dX11_matchedWord_19 (by decide) ?_
    refine q_aload_n dX11_matchedWord_33 rfl ?_
    cases E
    exact q_areturn (v := (some a10)) dX11_matchedWord_34 rfl (by first | exact Or.inl ⟨_, rfl⟩ | exact Or.inr ⟨_, rfl⟩) hK
theorem c_X11_matchedWord {l : Launch} {G : mG} {p0 : Nat} {h : mH} {o : (Option Nat ⊕ String) × mH} (E : f_X11_matchedWord p0 h = some o) : mMet l G m_X11_matchedWord 2 3 262 [.ref p0] h (fun v k => ∃ r, o = (.inl r, k) ∧ v = some (va_rf r)) (fun e k => ∃ k0, o = (.inr e, k0) ∧ ∃ n, nx k0 ≤ n ∧ k = sn k0 n) := by
  refine mMet_of (by decide +kernel) rfl (ac_c rfl ac_0) (Nat.le_of_ble_eq_true rfl) (s_X11_matchedWord_0 p0 h E ?_)
  obtain ⟨r | e, k⟩ := o
  · exact ⟨r, rfl, rfl⟩
  · exact fun n hn => ⟨k, rfl, n, hn, rfl⟩
set_option maxRecDepth 100000 in
set_option maxHeartbeats 4000000 in
theorem s_X11_matches_0 {l : Launch} {G : mG} {Q : Option Value → mH → Prop} {X : String → mH → Prop} (p0 : Nat) (v1 : Int32) (h : mH) {o : (Int32 ⊕ String) × mH} (E : f_X11_matches p0 v1 h = some o) (hK : (fiIX Q X) o) : mW l G m_X11_matches 4 4 268 0 [some (.ref p0), some (.int v1), none, none] [] h Q X := by
  unfold f_X11_matches at E
  refine q_aload_n dX11_matches_0 rfl ?_
  refine q_iload_n dX11_matches_1 rfl ?_
  replace E := grd_some E
  obtain ⟨g3, E⟩ := E
  replace E := calX_some E
  rcases E with ⟨o2, h1, hc, E⟩ | ⟨e, h1, hc, E⟩
  · refine r_callV1 (mc := 3) (ms := 262) dX11_matches_2 KX11_178 (c_X11_patternIn hc) g3 (by decide) (Nat.le_of_ble_eq_true rfl) (fun _ _ ⟨_, q, _⟩ => by cases q) ?_
    rintro _ _ ⟨_, q, rfl⟩
    obtain ⟨e9, f9⟩ := inl_inj q; subst e9; subst f9
    clear hc q
    refine r_astore_nO dX11_matches_5 (by decide) (ls' := [some (.ref p0), some (.int v1), some (va_rf o2), none]) rfl ?_
    refine q_aload_n dX11_matches_6 rfl ?_
    replace E := grd_some E
    obtain ⟨g6, E⟩ := E
    replace E := calX_some E
    rcases E with ⟨o5, h4, hc, E⟩ | ⟨e, h4, hc, E⟩
    · refine r_callV0 (mc := 0) (ms := 0) dX11_matches_7 KX11_209 (c_X11_matchedWord hc) g6 (by decide) (Nat.le_of_ble_eq_true rfl) (fun _ _ ⟨_, q, _⟩ => by cases q) ?_
      rintro _ _ ⟨_, q, rfl⟩
      obtain ⟨e9, f9⟩ := inl_inj q; subst e9; subst f9
      clear hc q
      refine r_astore_nO dX11_matches_10 (by decide) (ls' := [some (.ref p0), some (.int v1), some (va_rf o2), some (va_rf o5)]) rfl ?_
      refine q_aload_n dX11_matches_11 rfl ?_
      replace E := grd_some E
      obtain ⟨g7, E⟩ := E
      replace E := orf_some E
      obtain ⟨a8, ea8, E⟩ := E
      refine r_getR dX11_matches_12 FX11_57 g7 ea8 ?_
      refine r_aload_nO dX11_matches_15 rfl ?_
      replace E := orf_some E
      obtain ⟨a9, rfl, E⟩ := E
      replace E := grd_some E
      obtain ⟨g12, E⟩ := E
      replace E := cal_some E
      obtain ⟨_, h10, hc, E⟩ := E
      refine r_callV1 (mc := 0) (ms := 0) dX11_matches_16 KX11_213 (c_X0_build hc) g12 (by decide) (Nat.le_of_ble_eq_true rfl) (fun _ _ q => q.elim) ?_
      rintro _ _ ⟨rfl, rfl⟩
      clear hc
      refine q_aload_n dX11_matches_19 rfl ?_
      replace E := grd_some E
      obtain ⟨g13, E⟩ := E
      replace E := orf_some E
      obtain ⟨a14, ea14, E⟩ := E
      refine r_getR dX11_matches_20 FX11_57 g13 ea14 ?_
      refine r_aload_nO dX11_matches_23 rfl ?_
      replace E := grd_some E
      obtain ⟨g17, E⟩ := E
      replace E := cal_some E
      obtain ⟨x16, h15, hc, E⟩ := E
      refine r_callV1 (mc := 0) (ms := 0) dX11_matches_24 KX11_216 (c_X0_accepts hc) g17 (by decide) (Nat.le_of_ble_eq_true rfl) (fun _ _ q => q.elim) ?_
      rintro _ _ ⟨rfl, rfl⟩
      clear hc
      replace E := grd_some E
      obtain ⟨g18, E⟩ := E
      cases E
      exact q_zreturn dX11_matches_27 rfl (narZ g18) hK
    · cases E
      refine r_callV0 (mc := 0) (ms := 0) dX11_matches_7 KX11_209 (c_X11_matchedWord hc) g6 (by decide) (Nat.le_of_ble_eq_true rfl) (fun _ _ ⟨_, q, n, hn, hk⟩ => by cases q; subst hk; exact hK n hn) ?_
      rintro _ _ ⟨_, q, _⟩
      cases q
  · cases E
    refine r_callV1 (mc := 3) (ms := 262) dX11_matches_2 KX11_178 (c_X11_patternIn hc) g3 (by decide) (Nat.le_of_ble_eq_true rfl) (fun _ _ ⟨_, q, n, hn, hk⟩ => by cases q; subst hk; exact hK n hn) ?_
    rintro _ _ ⟨_, q, _⟩
    cases q
theorem c_X11_matches {l : Launch} {G : mG} {p0 : Nat} {v1 : Int32} {h : mH} {o : (Int32 ⊕ String) × mH} (E : f_X11_matches p0 v1 h = some o) : mMet l G m_X11_matches 4 4 268 [.ref p0, .int v1] h (fun v k => ∃ r, o = (.inl r, k) ∧ v = some (.int r)) (fun e k => ∃ k0, o = (.inr e, k0) ∧ ∃ n, nx k0 ≤ n ∧ k = sn k0 n) := by
  refine mMet_of (by decide +kernel) rfl (ac_c rfl (ac_c rfl ac_0)) (Nat.le_of_ble_eq_true rfl) (s_X11_matches_0 p0 v1 h E ?_)
  obtain ⟨r | e, k⟩ := o
  · exact ⟨r, rfl, rfl⟩
  · exact fun n hn => ⟨k, rfl, n, hn, rfl⟩
set_option maxRecDepth 100000 in
set_option maxHeartbeats 4000000 in
theorem s_X11_matchesBySpans_0 {l : Launch} {G : mG} {Q : Option Value → mH → Prop} {X : String → mH → Prop} (p0 : Nat) (v1 : Int32) (h : mH) {o : (Int32 ⊕ String) × mH} (E : f_X11_matchesBySpans p0 v1 h = some o) (hK : (fiIX Q X) o) : mW l G m_X11_matchesBySpans 3 4 268 0 [some (.ref p0), some (.int v1), none] [] h Q X := by
  unfold f_X11_matchesBySpans at E
  refine q_aload_n dX11_matchesBySpans_0 rfl ?_
  refine q_iload_n dX11_matchesBySpans_1 rfl ?_
  replace E := grd_some E
  obtain ⟨g3, E⟩ := E
  replace E := calX_some E
  rcases E with ⟨o2, h1, hc, E⟩ | ⟨e, h1, hc, E⟩
  · refine r_callV1 (mc := 3) (ms := 262) dX11_matchesBySpans_2 KX11_178 (c_X11_patternIn hc) g3 (by decide) (Nat.le_of_ble_eq_true rfl) (fun _ _ ⟨_, q, _⟩ => by cases q) ?_
    rintro _ _ ⟨_, q, rfl⟩
    obtain ⟨e9, f9⟩ := inl_inj q; subst e9; subst f9
    clear hc q
    refine r_astore_nO dX11_matchesBySpans_5 (by decide) (ls' := [some (.ref p0), some (.int v1), some (va_rf o2)]) rfl ?_
    refine q_aload_n dX11_matchesBySpans_6 rfl ?_
    replace E := grd_some E
    obtain ⟨g4, E⟩ := E
    replace E := orf_some E
    obtain ⟨a5, ea5, E⟩ := E
    refine r_getR dX11_matchesBySpans_7 FX11_84 g4 ea5 ?_
    refine r_aload_nO dX11_matchesBySpans_10 rfl ?_
    refine q_aload_n dX11_matchesBySpans_11 rfl ?_
    replace E := calX_some E
    rcases E with ⟨o7, h6, hc, E⟩ | ⟨e, h6, hc, E⟩
    · refine r_callV0 (mc := 0) (ms := 0) dX11_matchesBySpans_12 KX11_209 (c_X11_matchedWord hc) g4 (by decide) (cs_le (cs_c (r_cat _) (cs_c rfl cs_0)) (by decide)) (fun _ _ ⟨_, q, _⟩ => by cases q) ?_
      rintro _ _ ⟨_, q, rfl⟩
      obtain ⟨e9, f9⟩ := inl_inj q; subst e9; subst f9
      clear hc q
      replace E := orf_some E
      obtain ⟨a8, rfl, E⟩ := E
      replace E := grd_some E
      obtain ⟨g11, E⟩ := E
      replace E := cal_some E
      obtain ⟨x10, h9, hc, E⟩ := E
      refine r_callV2 (mc := 0) (ms := 0) dX11_matchesBySpans_15 KX11_220 (c_X8_accept hc) g11 (by decide) (Nat.le_of_ble_eq_true rfl) (fun _ _ q => q.elim) ?_
      rintro _ _ ⟨rfl, rfl⟩
      clear hc
      replace E := grd_some E
      obtain ⟨g12, E⟩ := E
      cases E
      exact q_zreturn dX11_matchesBySpans_18 rfl (narZ g12) hK
    · cases E
      refine r_callV0 (mc := 0) (ms := 0) dX11_matchesBySpans_12 KX11_209 (c_X11_matchedWord hc) g4 (by decide) (cs_le (cs_c (r_cat _) (cs_c rfl cs_0)) (by decide)) (fun _ _ ⟨_, q, n, hn, hk⟩ => by cases q; subst hk; exact hK n hn) ?_
      rintro _ _ ⟨_, q, _⟩
      cases q
  · cases E
    refine r_callV1 (mc := 3) (ms := 262) dX11_matchesBySpans_2 KX11_178 (c_X11_patternIn hc) g3 (by decide) (Nat.le_of_ble_eq_true rfl) (fun _ _ ⟨_, q, n, hn, hk⟩ => by cases q; subst hk; exact hK n hn) ?_
    rintro _ _ ⟨_, q, _⟩
    cases q
theorem c_X11_matchesBySpans {l : Launch} {G : mG} {p0 : Nat} {v1 : Int32} {h : mH} {o : (Int32 ⊕ String) × mH} (E : f_X11_matchesBySpans p0 v1 h = some o) : mMet l G m_X11_matchesBySpans 3 4 268 [.ref p0, .int v1] h (fun v k => ∃ r, o = (.inl r, k) ∧ v = some (.int r)) (fun e k => ∃ k0, o = (.inr e, k0) ∧ ∃ n, nx k0 ≤ n ∧ k = sn k0 n) := by
  refine mMet_of (by decide +kernel) rfl (ac_c rfl (ac_c rfl ac_0)) (Nat.le_of_ble_eq_true rfl) (s_X11_matchesBySpans_0 p0 v1 h E ?_)
  obtain ⟨r | e, k⟩ := o
  · exact ⟨r, rfl, rfl⟩
  · exact fun n hn => ⟨k, rfl, n, hn, rfl⟩
set_option maxRecDepth 100000 in
set_option maxHeartbeats 4000000 in
theorem s_X11_longestPrefix_0 {l : Launch} {G : mG} {Q : Option Value → mH → Prop} {X : String → mH → Prop} (p0 : Nat) (v1 : Int32) (h : mH) {o : (Int32 ⊕ String) × mH} (E : f_X11_longestPrefix p0 v1 h = some o) (hK : (fiIX Q X) o) : mW l G m_X11_longestPrefix 4 4 268 0 [some (.ref p0), some (.int v1), none, none] [] h Q X := by
  unfold f_X11_longestPrefix at E
  refine q_aload_n dX11_longestPrefix_0 rfl ?_
  refine q_iload_n dX11_longestPrefix_1 rfl ?_
  replace E := grd_some E
  obtain ⟨g3, E⟩ := E
  replace E := calX_some E
  rcases E with ⟨o2, h1, hc, E⟩ | ⟨e, h1, hc, E⟩
  · refine r_callV1 (mc := 3) (ms := 262) dX11_longestPrefix_2 KX11_178 (c_X11_patternIn hc) g3 (by decide) (Nat.le_of_ble_eq_true rfl) (fun _ _ ⟨_, q, _⟩ => by cases q) ?_
    rintro _ _ ⟨_, q, rfl⟩
    obtain ⟨e9, f9⟩ := inl_inj q; subst e9; subst f9
    clear hc q
    refine r_astore_nO dX11_longestPrefix_5 (by decide) (ls' := [some (.ref p0), some (.int v1), some (va_rf o2), none]) rfl ?_
    refine q_aload_n dX11_longestPrefix_6 rfl ?_
    replace E := grd_some E
    obtain ⟨g6, E⟩ := E
    replace E := calX_some E
    rcases E with ⟨o5, h4, hc, E⟩ | ⟨e, h4, hc, E⟩
    · refine r_callV0 (mc := 0) (ms := 0) dX11_longestPrefix_7 KX11_209 (c_X11_matchedWord hc) g6 (by decide) (Nat.le_of_ble_eq_true rfl) (fun _ _ ⟨_, q, _⟩ => by cases q) ?_
      rintro _ _ ⟨_, q, rfl⟩
      obtain ⟨e9, f9⟩ := inl_inj q; subst e9; subst f9
      clear hc q
      refine r_astore_nO dX11_longestPrefix_10 (by decide) (ls' := [some (.ref p0), some (.int v1), some (va_rf o2), some (va_rf o5)]) rfl ?_
      refine q_aload_n dX11_longestPrefix_11 rfl ?_
      replace E := grd_some E
      obtain ⟨g7, E⟩ := E
      replace E := orf_some E
      obtain ⟨a8, ea8, E⟩ := E
      refine r_getR dX11_longestPrefix_12 FX11_57 g7 ea8 ?_
      refine r_aload_nO dX11_longestPrefix_15 rfl ?_
      replace E := orf_some E
      obtain ⟨a9, rfl, E⟩ := E
      replace E := grd_some E
      obtain ⟨g12, E⟩ := E
      replace E := cal_some E
      obtain ⟨_, h10, hc, E⟩ := E
      refine r_callV1 (mc := 0) (ms := 0) dX11_longestPrefix_16 KX11_213 (c_X0_build hc) g12 (by decide) (Nat.le_of_ble_eq_true rfl) (fun _ _ q => q.elim) ?_
      rintro _ _ ⟨rfl, rfl⟩
      clear hc
      refine q_aload_n dX11_longestPrefix_19 rfl ?_
      replace E := grd_some E
      obtain ⟨g13, E⟩ := E
      replace E := orf_some E
      obtain ⟨a14, ea14, E⟩ := E
      refine r_getR dX11_longestPrefix_20 FX11_57 g13 ea14 ?_
      refine r_aload_nO dX11_longestPrefix_23 rfl ?_
      replace E := orf_some E
      obtain ⟨a15, rfl, E⟩ := E
      replace E := grd_some E
      obtain ⟨g18, E⟩ := E
      replace E := cal_some E
      obtain ⟨x17, h16, hc, E⟩ := E
      refine r_callV1 (mc := 0) (ms := 0) dX11_longestPrefix_24 KX11_224 (c_X0_longestAcceptedPrefix hc) g18 (by decide) (Nat.le_of_ble_eq_true rfl) (fun _ _ q => q.elim) ?_
      rintro _ _ ⟨rfl, rfl⟩
      clear hc
      cases E
      exact q_ireturn dX11_longestPrefix_27 rfl hK
    · cases E
      refine r_callV0 (mc := 0) (ms := 0) dX11_longestPrefix_7 KX11_209 (c_X11_matchedWord hc) g6 (by decide) (Nat.le_of_ble_eq_true rfl) (fun _ _ ⟨_, q, n, hn, hk⟩ => by cases q; subst hk; exact hK n hn) ?_
      rintro _ _ ⟨_, q, _⟩
      cases q
  · cases E
    refine r_callV1 (mc := 3) (ms := 262) dX11_longestPrefix_2 KX11_178 (c_X11_patternIn hc) g3 (by decide) (Nat.le_of_ble_eq_true rfl) (fun _ _ ⟨_, q, n, hn, hk⟩ => by cases q; subst hk; exact hK n hn) ?_
    rintro _ _ ⟨_, q, _⟩
    cases q
theorem c_X11_longestPrefix {l : Launch} {G : mG} {p0 : Nat} {v1 : Int32} {h : mH} {o : (Int32 ⊕ String) × mH} (E : f_X11_longestPrefix p0 v1 h = some o) : mMet l G m_X11_longestPrefix 4 4 268 [.ref p0, .int v1] h (fun v k => ∃ r, o = (.inl r, k) ∧ v = some (.int r)) (fun e k => ∃ k0, o = (.inr e, k0) ∧ ∃ n, nx k0 ≤ n ∧ k = sn k0 n) := by
  refine mMet_of (by decide +kernel) rfl (ac_c rfl (ac_c rfl ac_0)) (Nat.le_of_ble_eq_true rfl) (s_X11_longestPrefix_0 p0 v1 h E ?_)
  obtain ⟨r | e, k⟩ := o
  · exact ⟨r, rfl, rfl⟩
  · exact fun n hn => ⟨k, rfl, n, hn, rfl⟩
set_option maxRecDepth 100000 in
set_option maxHeartbeats 4000000 in
theorem s_X11_sampleAt_0 {l : Launch} {G : mG} {Q : Option Value → mH → Prop} {X : String → mH → Prop} (p0 : Nat) (v1 : Int32) (h : mH) {o : (Option Nat ⊕ String) × mH} (E : f_X11_sampleAt p0 v1 h = some o) (hK : (fiRX Q X) o) : mW l G m_X11_sampleAt 1 1 6 0 [some (.ref p0), some (.int v1), none] [] h Q X := by
  unfold f_X11_sampleAt at E
  refine q_aload_n dX11_sampleAt_0 rfl ?_
  replace E := grd_some E
  obtain ⟨g1, E⟩ := E
  replace E := orf_some E
  obtain ⟨a2, ea2, E⟩ := E
  refine r_getR dX11_sampleAt_1 FX11_10 g1 ea2 ?_
  refine q_iload_n dX11_sampleAt_4 rfl ?_
  replace E := grd_some E
  obtain ⟨g5, E⟩ := E
  replace E := cal_some E
  obtain ⟨o4, h3, hc, E⟩ := E
  refine r_callV1 (mc := 1) (ms := 6) dX11_sampleAt_5 KX11_400 (c_X6_sample hc) g5 (by decide) (Nat.le_of_ble_eq_true rfl) (fun _ _ q => q.elim) ?_
  rintro _ _ ⟨rfl, rfl⟩
  clear hc
  refine r_astore_nO dX11_sampleAt_8 (by decide) (ls' := [some (.ref p0), some (.int v1), some (va_rf o4)]) rfl ?_
  refine r_aload_nO dX11_sampleAt_9 rfl ?_
  replace E := oif_some E
  rcases E with ⟨rfl, E⟩ | ⟨a6, rfl, E⟩
  · refine q_ifnonnullN dX11_sampleAt_10 ?_
    cases E
    exact q_throwSW (mc := 0) (ms := 0) TX11_107_111 SX11_403 dX11_sampleAt_13 dX11_sampleAt_16 dX11_sampleAt_17 dX11_sampleAt_20 dX11_sampleAt_23 rfl (Nat.le_of_ble_eq_true rfl) hK
  · refine q_ifnonnull (tgt := 24) dX11_sampleAt_10 (by decide) ?_
    refine q_aload_n dX11_sampleAt_24 rfl ?_
    cases E
    exact q_areturn (v := (some a6)) dX11_sampleAt_25 rfl (by first | exact Or.inl ⟨_, rfl⟩ | exact Or.inr ⟨_, rfl⟩) hK
theorem c_X11_sampleAt {l : Launch} {G : mG} {p0 : Nat} {v1 : Int32} {h : mH} {o : (Option Nat ⊕ String) × mH} (E : f_X11_sampleAt p0 v1 h = some o) : mMet l G m_X11_sampleAt 1 1 6 [.ref p0, .int v1] h (fun v k => ∃ r, o = (.inl r, k) ∧ v = some (va_rf r)) (fun e k => ∃ k0, o = (.inr e, k0) ∧ ∃ n, nx k0 ≤ n ∧ k = sn k0 n) := by
  refine mMet_of (by decide +kernel) rfl (ac_c rfl (ac_c rfl ac_0)) (Nat.le_of_ble_eq_true rfl) (s_X11_sampleAt_0 p0 v1 h E ?_)
  obtain ⟨r | e, k⟩ := o
  · exact ⟨r, rfl, rfl⟩
  · exact fun n hn => ⟨k, rfl, n, hn, rfl⟩
set_option maxRecDepth 100000 in
set_option maxHeartbeats 4000000 in
theorem s_X11_acceptsWord_0 {l : Launch} {G : mG} {Q : Option Value → mH → Prop} {X : String → mH → Prop} (p0 : Nat) (v1 : Int32) (v2 : Int32) (h : mH) {o : (Int32 ⊕ String) × mH} (E : f_X11_acceptsWord p0 v1 v2 h = some o) (hK : (fiIX Q X) o) : mW l G m_X11_acceptsWord 4 2 12 0 [some (.ref p0), some (.int v1), some (.int v2), none, none] [] h Q X := by
  unfold f_X11_acceptsWord at E
  refine q_aload_n dX11_acceptsWord_0 rfl ?_
  refine q_iload_n dX11_acceptsWord_1 rfl ?_
  replace E := grd_some E
  obtain ⟨g3, E⟩ := E
  replace E := calX_some E
  rcases E with ⟨o2, h1, hc, E⟩ | ⟨e, h1, hc, E⟩
  · refine r_callV1 (mc := 1) (ms := 6) dX11_acceptsWord_2 KX11_178 (c_X11_patternIn hc) g3 (by decide) (Nat.le_of_ble_eq_true rfl) (fun _ _ ⟨_, q, _⟩ => by cases q) ?_
    rintro _ _ ⟨_, q, rfl⟩
    obtain ⟨e9, f9⟩ := inl_inj q; subst e9; subst f9
    clear hc q
    refine r_astore_nO dX11_acceptsWord_5 (by decide) (ls' := [some (.ref p0), some (.int v1), some (.int v2), some (va_rf o2), none]) rfl ?_
    refine q_aload_n dX11_acceptsWord_6 rfl ?_
    refine q_iload_n dX11_acceptsWord_7 rfl ?_
    replace E := grd_some E
    obtain ⟨g6, E⟩ := E
    replace E := calX_some E
    rcases E with ⟨o5, h4, hc, E⟩ | ⟨e, h4, hc, E⟩
    · refine r_callV1 (mc := 0) (ms := 0) dX11_acceptsWord_8 KX11_227 (c_X11_sampleAt hc) g6 (by decide) (Nat.le_of_ble_eq_true rfl) (fun _ _ ⟨_, q, _⟩ => by cases q) ?_
      rintro _ _ ⟨_, q, rfl⟩
      obtain ⟨e9, f9⟩ := inl_inj q; subst e9; subst f9
      clear hc q
      refine r_astoreO dX11_acceptsWord_11 (by decide) (ls' := [some (.ref p0), some (.int v1), some (.int v2), some (va_rf o2), some (va_rf o5)]) rfl ?_
      refine q_aload_n dX11_acceptsWord_13 rfl ?_
      replace E := grd_some E
      obtain ⟨g7, E⟩ := E
      replace E := orf_some E
      obtain ⟨a8, ea8, E⟩ := E
      refine r_getR dX11_acceptsWord_14 FX11_57 g7 ea8 ?_
      refine r_aload_nO dX11_acceptsWord_17 rfl ?_
      replace E := orf_some E
      obtain ⟨a9, rfl, E⟩ := E
      replace E := grd_some E
      obtain ⟨g12, E⟩ := E
      replace E := cal_some E
      obtain ⟨_, h10, hc, E⟩ := E
      refine r_callV1 (mc := 0) (ms := 0) dX11_acceptsWord_18 KX11_213 (c_X0_build hc) g12 (by decide) (Nat.le_of_ble_eq_true rfl) (fun _ _ q => q.elim) ?_
      rintro _ _ ⟨rfl, rfl⟩
      clear hc
      refine q_aload_n dX11_acceptsWord_21 rfl ?_
      replace E := grd_some E
      obtain ⟨g13, E⟩ := E
      replace E := orf_some E
      obtain ⟨a14, ea14, E⟩ := E
      refine r_getR dX11_acceptsWord_22 FX11_57 g13 ea14 ?_
      refine r_aloadO dX11_acceptsWord_25 rfl ?_
      replace E := grd_some E
      obtain ⟨g17, E⟩ := E
      replace E := cal_some E
      obtain ⟨x16, h15, hc, E⟩ := E
      refine r_callV1 (mc := 0) (ms := 0) dX11_acceptsWord_27 KX11_216 (c_X0_accepts hc) g17 (by decide) (Nat.le_of_ble_eq_true rfl) (fun _ _ q => q.elim) ?_
      rintro _ _ ⟨rfl, rfl⟩
      clear hc
      replace E := grd_some E
      obtain ⟨g18, E⟩ := E
      cases E
      exact q_zreturn dX11_acceptsWord_30 rfl (narZ g18) hK
    · cases E
      refine r_callV1 (mc := 0) (ms := 0) dX11_acceptsWord_8 KX11_227 (c_X11_sampleAt hc) g6 (by decide) (Nat.le_of_ble_eq_true rfl) (fun _ _ ⟨_, q, n, hn, hk⟩ => by cases q; subst hk; exact hK n hn) ?_
      rintro _ _ ⟨_, q, _⟩
      cases q
  · cases E
    refine r_callV1 (mc := 1) (ms := 6) dX11_acceptsWord_2 KX11_178 (c_X11_patternIn hc) g3 (by decide) (Nat.le_of_ble_eq_true rfl) (fun _ _ ⟨_, q, n, hn, hk⟩ => by cases q; subst hk; exact hK n hn) ?_
    rintro _ _ ⟨_, q, _⟩
    cases q
theorem c_X11_acceptsWord {l : Launch} {G : mG} {p0 : Nat} {v1 : Int32} {v2 : Int32} {h : mH} {o : (Int32 ⊕ String) × mH} (E : f_X11_acceptsWord p0 v1 v2 h = some o) : mMet l G m_X11_acceptsWord 4 2 12 [.ref p0, .int v1, .int v2] h (fun v k => ∃ r, o = (.inl r, k) ∧ v = some (.int r)) (fun e k => ∃ k0, o = (.inr e, k0) ∧ ∃ n, nx k0 ≤ n ∧ k = sn k0 n) := by
  refine mMet_of (by decide +kernel) rfl (ac_c rfl (ac_c rfl (ac_c rfl ac_0))) (Nat.le_of_ble_eq_true rfl) (s_X11_acceptsWord_0 p0 v1 v2 h E ?_)
  obtain ⟨r | e, k⟩ := o
  · exact ⟨r, rfl, rfl⟩
  · exact fun n hn => ⟨k, rfl, n, hn, rfl⟩
set_option maxRecDepth 100000 in
set_option maxHeartbeats 4000000 in
theorem s_X11_acceptedSamples_36 {l : Launch} {G : mG} {Q : Option Value → mH → Prop} {X : String → mH → Prop} (p0 : Nat) (v1 : Int32) (v2 : Int32) (h : mH) {o : ((Int32 × Int32 × mH) ⊕ (Int32 × mH))} (E : g_X11_acceptedSamples_36 p0 v1 v2 h = some o) (hK : (lpK (w_X11_acceptedSamples_4 l G Q X p0) (fiI Q)) o) : mW l G m_X11_acceptedSamples 2 0 0 36 [some (.ref p0), some (.int v1), some (.int v2)] [] h Q X := by
  unfold g_X11_acceptedSamples_36 at E
  replace E := bnd_x E
  obtain ⟨x1, ex1, E⟩ := E
  refine r_iinc (v := x1) dX11_acceptedSamples_36 rfl ex1 (by decide) (ls' := [some (.ref p0), some (.int v1), some (.int x1)]) rfl ?_
  refine q_goto (tgt := 4) dX11_acceptedSamples_39 (by decide) ?_
  cases E
  exact r_fewer [some (.ref p0), some (.int v1), some (.int x1)] (ls_s (ls_s (ls_s ls_0))) hK
set_option maxRecDepth 100000 in
set_option maxHeartbeats 4000000 in
theorem sb_X11_acceptedSamples_4 {l : Launch} {G : mG} {Q : Option Value → mH → Prop} {X : String → mH → Prop} (p0 : Nat) (v1 : Int32) (v2 : Int32) (h : mH) {o : ((Int32 × Int32 × mH) ⊕ (Int32 × mH))} (E : b0_X11_acceptedSamples_4 p0 v1 v2 h = some o) (hK : (lpK (w_X11_acceptedSamples_4 l G Q X p0) (fiI Q)) o) : mW l G m_X11_acceptedSamples 2 0 0 4 [some (.ref p0), some (.int v1), some (.int v2)] [] h Q X := by
  unfold b0_X11_acceptedSamples_4 at E
  refine q_iload_n dX11_acceptedSamples_4 rfl ?_
  refine q_aload_n dX11_acceptedSamples_5 rfl ?_
  replace E := grd_some E
  obtain ⟨g1, E⟩ := E
  replace E := orf_some E
  obtain ⟨a2, ea2, E⟩ := E
  refine r_getR dX11_acceptedSamples_6 FX11_10 g1 ea2 ?_
  replace E := grd_some E
  obtain ⟨g5, E⟩ := E
  replace E := cal_some E
  obtain ⟨x4, h3, hc, E⟩ := E
  refine r_callV0 (mc := 0) (ms := 0) dX11_acceptedSamples_9 KX11_291 (c_X6_sampleTotal hc) g5 (by decide) (Nat.le_of_ble_eq_true rfl) (fun _ _ q => q.elim) ?_
  rintro _ _ ⟨rfl, rfl⟩
  clear hc
  refine q_icmp_ge (tgt := 42) dX11_acceptedSamples_12 (by decide) (fun z6 => ?_) (fun z6 => ?_)
  · replace E := ite_t E z6
    refine q_iload_n dX11_acceptedSamples_42 rfl ?_
    cases E
    exact q_ireturn dX11_acceptedSamples_43 rfl hK
  · replace E := ite_f E z6
    refine q_aload_n dX11_acceptedSamples_15 rfl ?_
    replace E := grd_some E
    obtain ⟨g7, E⟩ := E
    replace E := orf_some E
    obtain ⟨a8, ea8, E⟩ := E
    refine r_getR dX11_acceptedSamples_16 FX11_57 g7 ea8 ?_
    refine q_aload_n dX11_acceptedSamples_19 rfl ?_
    replace E := orf_some E
    obtain ⟨a9, ea9, E⟩ := E
    refine r_getR dX11_acceptedSamples_20 FX11_10 g7 ea9 ?_
    refine q_iload_n dX11_acceptedSamples_23 rfl ?_
    replace E := grd_some E
    obtain ⟨g12, E⟩ := E
    replace E := cal_some E
    obtain ⟨o11, h10, hc, E⟩ := E
    refine r_callV1 (mc := 0) (ms := 0) dX11_acceptedSamples_24 KX11_400 (c_X6_sample hc) g12 (by decide) (Nat.le_of_ble_eq_true rfl) (fun _ _ q => q.elim) ?_
    rintro _ _ ⟨rfl, rfl⟩
    clear hc
    replace E := grd_some E
    obtain ⟨g15, E⟩ := E
    replace E := cal_some E
    obtain ⟨x14, h13, hc, E⟩ := E
    refine r_callV1 (mc := 0) (ms := 0) dX11_acceptedSamples_27 KX11_216 (c_X0_accepts hc) g15 (by decide) (Nat.le_of_ble_eq_true rfl) (fun _ _ q => q.elim) ?_
    rintro _ _ ⟨rfl, rfl⟩
    clear hc
    refine q_if_eq (tgt := 36) dX11_acceptedSamples_30 (by decide) (fun z16 => ?_) (fun z16 => ?_)
    · replace E := ite_t E z16
      exact r_fewer [some (.ref p0), some (.int v1), some (.int v2)] (ls_s (ls_s (ls_s ls_0))) (s_X11_acceptedSamples_36 p0 v1 v2 h13 E hK)
    · replace E := ite_f E z16
      replace E := bnd_x E
      obtain ⟨x17, ex17, E⟩ := E
      refine r_iinc (v := x17) dX11_acceptedSamples_33 rfl ex17 (by decide) (ls' := [some (.ref p0), some (.int x17), some (.int v2)]) rfl ?_
      exact r_fewer [some (.ref p0), some (.int x17), some (.int v2)] (ls_s (ls_s (ls_s ls_0))) (s_X11_acceptedSamples_36 p0 x17 v2 h13 E hK)
theorem s_X11_acceptedSamples_4 {l : Launch} {G : mG} {Q : Option Value → mH → Prop} {X : String → mH → Prop} (p0 : Nat) (v1 : Int32) (v2 : Int32) (h : mH) {o : Int32 × mH} (E : g_X11_acceptedSamples_4 p0 v1 v2 h = some o) (hK : (fiI Q) o) : mW l G m_X11_acceptedSamples 2 0 0 4 [some (.ref p0), some (.int v1), some (.int v2)] [] h Q X :=
  (lp_go (w_X11_acceptedSamples_4 l G Q X p0) (fiI Q) (b_X11_acceptedSamples_4 p0) (fun s o E hK => sb_X11_acceptedSamples_4 p0 s.1 s.2.1 (s.2.2) E hK) _ _ _ E hK : w_X11_acceptedSamples_4 l G Q X p0 (v1, v2, h))
set_option maxRecDepth 100000 in
set_option maxHeartbeats 4000000 in
theorem s_X11_acceptedSamples_0 {l : Launch} {G : mG} {Q : Option Value → mH → Prop} {X : String → mH → Prop} (p0 : Nat) (h : mH) {o : Int32 × mH} (E : f_X11_acceptedSamples p0 h = some o) (hK : (fiI Q) o) : mW l G m_X11_acceptedSamples 2 0 0 0 [some (.ref p0), none, none] [] h Q X := by
  unfold f_X11_acceptedSamples at E
  refine q_iconst dX11_acceptedSamples_0 ?_
  refine r_istore_n dX11_acceptedSamples_1 (by decide) rfl (ls' := [some (.ref p0), some (.int (Int32.ofInt 0)), none]) rfl ?_
  refine q_iconst dX11_acceptedSamples_2 ?_
  refine r_istore_n dX11_acceptedSamples_3 (by decide) rfl (ls' := [some (.ref p0), some (.int (Int32.ofInt 0)), some (.int (Int32.ofInt 0))]) rfl ?_
  exact r_fewer [some (.ref p0), some (.int (Int32.ofInt 0)), some (.int (Int32.ofInt 0))] (ls_s (ls_s (ls_s ls_0))) (s_X11_acceptedSamples_4 p0 (Int32.ofInt 0) (Int32.ofInt 0) h E hK)
theorem c_X11_acceptedSamples {l : Launch} {G : mG} {p0 : Nat} {h h' : mH} {r : Int32} (E : f_X11_acceptedSamples p0 h = some (r, h')) : mMet l G m_X11_acceptedSamples 2 0 0 [.ref p0] h (fun v k => v = some (.int r) ∧ h' = k) (fun _ _ => False) :=
  mMet_of (by decide +kernel) rfl (ac_c rfl ac_0) (Nat.le_of_ble_eq_true rfl) (s_X11_acceptedSamples_0 p0 h E (And.intro rfl rfl))
set_option maxRecDepth 100000 in
set_option maxHeartbeats 4000000 in
theorem s_X11_acceptedWords_0 {l : Launch} {G : mG} {Q : Option Value → mH → Prop} {X : String → mH → Prop} (p0 : Nat) (v1 : Int32) (h : mH) {o : (Int32 ⊕ String) × mH} (E : f_X11_acceptedWords p0 v1 h = some o) (hK : (fiIX Q X) o) : mW l G m_X11_acceptedWords 4 1 6 0 [some (.ref p0), some (.int v1)] [] h Q X := by
  unfold f_X11_acceptedWords at E
  refine q_aload_n dX11_acceptedWords_0 rfl ?_
  replace E := grd_some E
  obtain ⟨g1, E⟩ := E
  replace E := orf_some E
  obtain ⟨a2, ea2, E⟩ := E
  refine r_getR dX11_acceptedWords_1 FX11_57 g1 ea2 ?_
  refine q_aload_n dX11_acceptedWords_4 rfl ?_
  refine q_iload_n dX11_acceptedWords_5 rfl ?_
  replace E := calX_some E
  rcases E with ⟨o4, h3, hc, E⟩ | ⟨e, h3, hc, E⟩
  · refine r_callV1 (mc := 0) (ms := 0) dX11_acceptedWords_6 KX11_178 (c_X11_patternIn hc) g1 (by decide) (Nat.le_of_ble_eq_true rfl) (fun _ _ ⟨_, q, _⟩ => by cases q) ?_
    rintro _ _ ⟨_, q, rfl⟩
    obtain ⟨e9, f9⟩ := inl_inj q; subst e9; subst f9
    clear hc q
    replace E := orf_some E
    obtain ⟨a5, rfl, E⟩ := E
    replace E := grd_some E
    obtain ⟨g8, E⟩ := E
    replace E := cal_some E
    obtain ⟨_, h6, hc, E⟩ := E
    refine r_callV1 (mc := 0) (ms := 0) dX11_acceptedWords_9 KX11_213 (c_X0_build hc) g8 (by decide) (Nat.le_of_ble_eq_true rfl) (fun _ _ q => q.elim) ?_
    rintro _ _ ⟨rfl, rfl⟩
    clear hc
    refine q_aload_n dX11_acceptedWords_12 rfl ?_
    replace E := grd_some E
    obtain ⟨g11, E⟩ := E
    replace E := cal_some E
    obtain ⟨x10, h9, hc, E⟩ := E
    refine r_callV0 (mc := 0) (ms := 0) dX11_acceptedWords_13 KX11_231 (c_X11_acceptedSamples hc) g11 (by decide) (Nat.le_of_ble_eq_true rfl) (fun _ _ q => q.elim) ?_
    rintro _ _ ⟨rfl, rfl⟩
    clear hc
    cases E
    exact q_ireturn dX11_acceptedWords_16 rfl hK
  · cases E
    refine r_callV1 (mc := 0) (ms := 0) dX11_acceptedWords_6 KX11_178 (c_X11_patternIn hc) g1 (by decide) (Nat.le_of_ble_eq_true rfl) (fun _ _ ⟨_, q, n, hn, hk⟩ => by cases q; subst hk; exact hK n hn) ?_
    rintro _ _ ⟨_, q, _⟩
    cases q
theorem c_X11_acceptedWords {l : Launch} {G : mG} {p0 : Nat} {v1 : Int32} {h : mH} {o : (Int32 ⊕ String) × mH} (E : f_X11_acceptedWords p0 v1 h = some o) : mMet l G m_X11_acceptedWords 4 1 6 [.ref p0, .int v1] h (fun v k => ∃ r, o = (.inl r, k) ∧ v = some (.int r)) (fun e k => ∃ k0, o = (.inr e, k0) ∧ ∃ n, nx k0 ≤ n ∧ k = sn k0 n) := by
  refine mMet_of (by decide +kernel) rfl (ac_c rfl (ac_c rfl ac_0)) (Nat.le_of_ble_eq_true rfl) (s_X11_acceptedWords_0 p0 v1 h E ?_)
  obtain ⟨r | e, k⟩ := o
  · exact ⟨r, rfl, rfl⟩
  · exact fun n hn => ⟨k, rfl, n, hn, rfl⟩
set_option maxRecDepth 100000 in
set_option maxHeartbeats 4000000 in
theorem s_X11_checkCountedLength_10 {l : Launch} {G : mG} {Q : Option Value → mH → Prop} {X : String → mH → Prop} (h : mH) {o : (Unit ⊕ String) × mH} (E : g_X11_checkCountedLength_10  h = some o) (hK : (fiVX Q X) o) : mW l G m_X11_checkCountedLength 0 1 6 10 [none] [] h Q X := by
  unfold g_X11_checkCountedLength_10 at E
  cases E
  exact q_throwSW (mc := 0) (ms := 0) TX11_125_129 SX11_396 dX11_checkCountedLength_10 dX11_checkCountedLength_13 dX11_checkCountedLength_14 dX11_checkCountedLength_17 dX11_checkCountedLength_20 rfl (Nat.le_of_ble_eq_true rfl) hK
set_option maxRecDepth 100000 in
set_option maxHeartbeats 4000000 in
theorem s_X11_checkCountedLength_0 {l : Launch} {G : mG} {Q : Option Value → mH → Prop} {X : String → mH → Prop} (v0 : Int32) (h : mH) {o : (Unit ⊕ String) × mH} (E : f_X11_checkCountedLength v0 h = some o) (hK : (fiVX Q X) o) : mW l G m_X11_checkCountedLength 0 1 6 0 [some (.int v0)] [] h Q X := by
  unfold f_X11_checkCountedLength at E
  refine q_iload_n dX11_checkCountedLength_0 rfl ?_
  refine q_if_lt (tgt := 10) dX11_checkCountedLength_1 (by decide) (fun z1 => ?_) (fun z1 => ?_)
  · replace E := ite_t E z1
    exact r_fewer [none] (ls_n ls_0) (s_X11_checkCountedLength_10 h E hK)
  · replace E := ite_f E z1
    refine q_iload_n dX11_checkCountedLength_4 rfl ?_
    refine q_bipush (v := (Int32.ofInt 6)) dX11_checkCountedLength_5 (by decide) ?_
    refine q_icmp_le (tgt := 21) dX11_checkCountedLength_7 (by decide) (fun z2 => ?_) (fun z2 => ?_)
    · replace E := ite_t E z2
      cases E
      exact q_return dX11_checkCountedLength_21 rfl hK
    · replace E := ite_f E z2
      exact r_fewer [none] (ls_n ls_0) (s_X11_checkCountedLength_10 h E hK)
theorem c_X11_checkCountedLength {l : Launch} {G : mG} {v0 : Int32} {h : mH} {o : (Unit ⊕ String) × mH} (E : f_X11_checkCountedLength v0 h = some o) : mMet l G m_X11_checkCountedLength 0 1 6 [.int v0] h (fun v k => ∃ r, o = (.inl r, k) ∧ v = none) (fun e k => ∃ k0, o = (.inr e, k0) ∧ ∃ n, nx k0 ≤ n ∧ k = sn k0 n) := by
  refine mMet_of (by decide +kernel) rfl (ac_c rfl ac_0) (Nat.le_of_ble_eq_true rfl) (s_X11_checkCountedLength_0 v0 h E ?_)
  obtain ⟨r | e, k⟩ := o
  · exact ⟨r, rfl, rfl⟩
  · exact fun n hn => ⟨k, rfl, n, hn, rfl⟩
set_option maxRecDepth 100000 in
set_option maxHeartbeats 4000000 in
theorem s_X11_countWords_0 {l : Launch} {G : mG} {Q : Option Value → mH → Prop} {X : String → mH → Prop} (p0 : Nat) (v1 : Int32) (v2 : Int32) (h : mH) {o : (Int32 ⊕ String) × mH} (E : f_X11_countWords p0 v1 v2 h = some o) (hK : (fiIX Q X) o) : mW l G m_X11_countWords 4 2 12 0 [some (.ref p0), some (.int v1), some (.int v2), none] [] h Q X := by
  unfold f_X11_countWords at E
  refine q_aload_n dX11_countWords_0 rfl ?_
  refine q_iload_n dX11_countWords_1 rfl ?_
  replace E := grd_some E
  obtain ⟨g3, E⟩ := E
  replace E := calX_some E
  rcases E with ⟨o2, h1, hc, E⟩ | ⟨e, h1, hc, E⟩
  · refine r_callV1 (mc := 1) (ms := 6) dX11_countWords_2 KX11_178 (c_X11_patternIn hc) g3 (by decide) (Nat.le_of_ble_eq_true rfl) (fun _ _ ⟨_, q, _⟩ => by cases q) ?_
    rintro _ _ ⟨_, q, rfl⟩
    obtain ⟨e9, f9⟩ := inl_inj q; subst e9; subst f9
    clear hc q
    refine r_astore_nO dX11_countWords_5 (by decide) (ls' := [some (.ref p0), some (.int v1), some (.int v2), some (va_rf o2)]) rfl ?_
    refine q_iload_n dX11_countWords_6 rfl ?_
    replace E := calX_some E
    rcases E with ⟨_, h4, hc, E⟩ | ⟨e, h4, hc, E⟩
    · refine r_callS1 (mc := 0) (ms := 0) dX11_countWords_7 KX11_234 (c_X11_checkCountedLength hc) (by decide) (Nat.le_of_ble_eq_true rfl) (fun _ _ ⟨_, q, _⟩ => by cases q) ?_
      rintro _ _ ⟨_, q, rfl⟩
      obtain ⟨e9, f9⟩ := inl_inj q; subst e9; subst f9
      clear hc q
      refine q_aload_n dX11_countWords_10 rfl ?_
      replace E := grd_some E
      obtain ⟨g6, E⟩ := E
      replace E := orf_some E
      obtain ⟨a7, ea7, E⟩ := E
      refine r_getR dX11_countWords_11 FX11_57 g6 ea7 ?_
      refine r_aload_nO dX11_countWords_14 rfl ?_
      replace E := orf_some E
      obtain ⟨a8, rfl, E⟩ := E
      replace E := grd_some E
      obtain ⟨g11, E⟩ := E
      replace E := cal_some E
      obtain ⟨_, h9, hc, E⟩ := E
      refine r_callV1 (mc := 0) (ms := 0) dX11_countWords_15 KX11_213 (c_X0_build hc) g11 (by decide) (Nat.le_of_ble_eq_true rfl) (fun _ _ q => q.elim) ?_
      rintro _ _ ⟨rfl, rfl⟩
      clear hc
      refine q_aload_n dX11_countWords_18 rfl ?_
      replace E := grd_some E
      obtain ⟨g12, E⟩ := E
      replace E := orf_some E
      obtain ⟨a13, ea13, E⟩ := E
      refine r_getR dX11_countWords_19 FX11_57 g12 ea13 ?_
      refine q_iload_n dX11_countWords_22 rfl ?_
      replace E := grd_some E
      obtain ⟨g16, E⟩ := E
      replace E := cal_some E
      obtain ⟨x15, h14, hc, E⟩ := E
      refine r_callV1 (mc := 0) (ms := 0) dX11_countWords_23 KX11_238 (c_X0_countByStates hc) g16 (by decide) (Nat.le_of_ble_eq_true rfl) (fun _ _ q => q.elim) ?_
      rintro _ _ ⟨rfl, rfl⟩
      clear hc
      cases E
      exact q_ireturn dX11_countWords_26 rfl hK
    · cases E
      refine r_callS1 (mc := 0) (ms := 0) dX11_countWords_7 KX11_234 (c_X11_checkCountedLength hc) (by decide) (Nat.le_of_ble_eq_true rfl) (fun _ _ ⟨_, q, n, hn, hk⟩ => by cases q; subst hk; exact hK n hn) ?_
      rintro _ _ ⟨_, q, _⟩
      cases q
  · cases E
    refine r_callV1 (mc := 1) (ms := 6) dX11_countWords_2 KX11_178 (c_X11_patternIn hc) g3 (by decide) (Nat.le_of_ble_eq_true rfl) (fun _ _ ⟨_, q, n, hn, hk⟩ => by cases q; subst hk; exact hK n hn) ?_
    rintro _ _ ⟨_, q, _⟩
    cases q
theorem c_X11_countWords {l : Launch} {G : mG} {p0 : Nat} {v1 : Int32} {v2 : Int32} {h : mH} {o : (Int32 ⊕ String) × mH} (E : f_X11_countWords p0 v1 v2 h = some o) : mMet l G m_X11_countWords 4 2 12 [.ref p0, .int v1, .int v2] h (fun v k => ∃ r, o = (.inl r, k) ∧ v = some (.int r)) (fun e k => ∃ k0, o = (.inr e, k0) ∧ ∃ n, nx k0 ≤ n ∧ k = sn k0 n) := by
  refine mMet_of (by decide +kernel) rfl (ac_c rfl (ac_c rfl (ac_c rfl ac_0))) (Nat.le_of_ble_eq_true rfl) (s_X11_countWords_0 p0 v1 v2 h E ?_)
  obtain ⟨r | e, k⟩ := o
  · exact ⟨r, rfl, rfl⟩
  · exact fun n hn => ⟨k, rfl, n, hn, rfl⟩
set_option maxRecDepth 100000 in
set_option maxHeartbeats 4000000 in
theorem s_X11_countWordsByListing_0 {l : Launch} {G : mG} {Q : Option Value → mH → Prop} {X : String → mH → Prop} (p0 : Nat) (v1 : Int32) (v2 : Int32) (h : mH) {o : (Int32 ⊕ String) × mH} (E : f_X11_countWordsByListing p0 v1 v2 h = some o) (hK : (fiIX Q X) o) : mW l G m_X11_countWordsByListing 4 2 12 0 [some (.ref p0), some (.int v1), some (.int v2), none] [] h Q X := by
  unfold f_X11_countWordsByListing at E
  refine q_aload_n dX11_countWordsByListing_0 rfl ?_
  refine q_iload_n dX11_countWordsByListing_1 rfl ?_
  replace E := grd_some E
  obtain ⟨g3, E⟩ := E
  replace E := calX_some E
  rcases E with ⟨o2, h1, hc, E⟩ | ⟨e, h1, hc, E⟩
  · refine r_callV1 (mc := 1) (ms := 6) dX11_countWordsByListing_2 KX11_178 (c_X11_patternIn hc) g3 (by decide) (Nat.le_of_ble_eq_true rfl) (fun _ _ ⟨_, q, _⟩ => by cases q) ?_
    rintro _ _ ⟨_, q, rfl⟩
    obtain ⟨e9, f9⟩ := inl_inj q; subst e9; subst f9
    clear hc q
    refine r_astore_nO dX11_countWordsByListing_5 (by decide) (ls' := [some (.ref p0), some (.int v1), some (.int v2), some (va_rf o2)]) rfl ?_
    refine q_iload_n dX11_countWordsByListing_6 rfl ?_
    replace E := calX_some E
    rcases E with ⟨_, h4, hc, E⟩ | ⟨e, h4, hc, E⟩
    · refine r_callS1 (mc := 0) (ms := 0) dX11_countWordsByListing_7 KX11_234 (c_X11_checkCountedLength hc) (by decide) (Nat.le_of_ble_eq_true rfl) (fun _ _ ⟨_, q, _⟩ => by cases q) ?_
      rintro _ _ ⟨_, q, rfl⟩
      obtain ⟨e9, f9⟩ := inl_inj q; subst e9; subst f9
      clear hc q
      refine q_aload_n dX11_countWordsByListing_10 rfl ?_
      replace E := grd_some E
      obtain ⟨g6, E⟩ := E
      replace E := orf_some E
      obtain ⟨a7, ea7, E⟩ := E
      refine r_getR dX11_countWordsByListing_11 FX11_57 g6 ea7 ?_
      refine r_aload_nO dX11_countWordsByListing_14 rfl ?_
      replace E := orf_some E
      obtain ⟨a8, rfl, E⟩ := E
      replace E := grd_some E
      obtain ⟨g11, E⟩ := E
      replace E := cal_some E
      obtain ⟨_, h9, hc, E⟩ := E
      refine r_callV1 (mc := 0) (ms := 0) dX11_countWordsByListing_15 KX11_213 (c_X0_build hc) g11 (by decide) (Nat.le_of_ble_eq_true rfl) (fun _ _ q => q.elim) ?_
      rintro _ _ ⟨rfl, rfl⟩
      clear hc
      refine q_aload_n dX11_countWordsByListing_18 rfl ?_
      replace E := grd_some E
      obtain ⟨g12, E⟩ := E
      replace E := orf_some E
      obtain ⟨a13, ea13, E⟩ := E
      refine r_getR dX11_countWordsByListing_19 FX11_57 g12 ea13 ?_
      refine q_iload_n dX11_countWordsByListing_22 rfl ?_
      replace E := grd_some E
      obtain ⟨g16, E⟩ := E
      replace E := cal_some E
      obtain ⟨x15, h14, hc, E⟩ := E
      refine r_callV1 (mc := 0) (ms := 0) dX11_countWordsByListing_23 KX11_241 (c_X0_countByListing hc) g16 (by decide) (Nat.le_of_ble_eq_true rfl) (fun _ _ q => q.elim) ?_
      rintro _ _ ⟨rfl, rfl⟩
      clear hc
      cases E
      exact q_ireturn dX11_countWordsByListing_26 rfl hK
    · cases E
      refine r_callS1 (mc := 0) (ms := 0) dX11_countWordsByListing_7 KX11_234 (c_X11_checkCountedLength hc) (by decide) (Nat.le_of_ble_eq_true rfl) (fun _ _ ⟨_, q, n, hn, hk⟩ => by cases q; subst hk; exact hK n hn) ?_
      rintro _ _ ⟨_, q, _⟩
      cases q
  · cases E
    refine r_callV1 (mc := 1) (ms := 6) dX11_countWordsByListing_2 KX11_178 (c_X11_patternIn hc) g3 (by decide) (Nat.le_of_ble_eq_true rfl) (fun _ _ ⟨_, q, n, hn, hk⟩ => by cases q; subst hk; exact hK n hn) ?_
    rintro _ _ ⟨_, q, _⟩
    cases q
theorem c_X11_countWordsByListing {l : Launch} {G : mG} {p0 : Nat} {v1 : Int32} {v2 : Int32} {h : mH} {o : (Int32 ⊕ String) × mH} (E : f_X11_countWordsByListing p0 v1 v2 h = some o) : mMet l G m_X11_countWordsByListing 4 2 12 [.ref p0, .int v1, .int v2] h (fun v k => ∃ r, o = (.inl r, k) ∧ v = some (.int r)) (fun e k => ∃ k0, o = (.inr e, k0) ∧ ∃ n, nx k0 ≤ n ∧ k = sn k0 n) := by
  refine mMet_of (by decide +kernel) rfl (ac_c rfl (ac_c rfl (ac_c rfl ac_0))) (Nat.le_of_ble_eq_true rfl) (s_X11_countWordsByListing_0 p0 v1 v2 h E ?_)
  obtain ⟨r | e, k⟩ := o
  · exact ⟨r, rfl, rfl⟩
  · exact fun n hn => ⟨k, rfl, n, hn, rfl⟩
set_option maxRecDepth 100000 in
set_option maxHeartbeats 4000000 in
theorem s_X11_shortestLength_0 {l : Launch} {G : mG} {Q : Option Value → mH → Prop} {X : String → mH → Prop} (p0 : Nat) (v1 : Int32) (h : mH) {o : (Int32 ⊕ String) × mH} (E : f_X11_shortestLength p0 v1 h = some o) (hK : (fiIX Q X) o) : mW l G m_X11_shortestLength 4 1 6 0 [some (.ref p0), some (.int v1)] [] h Q X := by
  unfold f_X11_shortestLength at E
  refine q_aload_n dX11_shortestLength_0 rfl ?_
  replace E := grd_some E
  obtain ⟨g1, E⟩ := E
  replace E := orf_some E
  obtain ⟨a2, ea2, E⟩ := E
  refine r_getR dX11_shortestLength_1 FX11_57 g1 ea2 ?_
  refine q_aload_n dX11_shortestLength_4 rfl ?_
  refine q_iload_n dX11_shortestLength_5 rfl ?_
  replace E := calX_some E
  rcases E with ⟨o4, h3, hc, E⟩ | ⟨e, h3, hc, E⟩
  · refine r_callV1 (mc := 0) (ms := 0) dX11_shortestLength_6 KX11_178 (c_X11_patternIn hc) g1 (by decide) (Nat.le_of_ble_eq_true rfl) (fun _ _ ⟨_, q, _⟩ => by cases q) ?_
    rintro _ _ ⟨_, q, rfl⟩
    obtain ⟨e9, f9⟩ := inl_inj q; subst e9; subst f9
    clear hc q
    replace E := orf_some E
    obtain ⟨a5, rfl, E⟩ := E
    replace E := grd_some E
    obtain ⟨g8, E⟩ := E
    replace E := cal_some E
    obtain ⟨_, h6, hc, E⟩ := E
    refine r_callV1 (mc := 0) (ms := 0) dX11_shortestLength_9 KX11_213 (c_X0_build hc) g8 (by decide) (Nat.le_of_ble_eq_true rfl) (fun _ _ q => q.elim) ?_
    rintro _ _ ⟨rfl, rfl⟩
    clear hc
    refine q_aload_n dX11_shortestLength_12 rfl ?_
    replace E := grd_some E
    obtain ⟨g9, E⟩ := E
    replace E := orf_some E
    obtain ⟨a10, ea10, E⟩ := E
    refine r_getR dX11_shortestLength_13 FX11_57 g9 ea10 ?_
    replace E := grd_some E
    obtain ⟨g13, E⟩ := E
    replace E := cal_some E
    obtain ⟨x12, h11, hc, E⟩ := E
    refine r_callV0 (mc := 0) (ms := 0) dX11_shortestLength_16 KX11_244 (c_X0_shortestAccepted hc) g13 (by decide) (Nat.le_of_ble_eq_true rfl) (fun _ _ q => q.elim) ?_
    rintro _ _ ⟨rfl, rfl⟩
    clear hc
    cases E
    exact q_ireturn dX11_shortestLength_19 rfl hK
  · cases E
    refine r_callV1 (mc := 0) (ms := 0) dX11_shortestLength_6 KX11_178 (c_X11_patternIn hc) g1 (by decide) (Nat.le_of_ble_eq_true rfl) (fun _ _ ⟨_, q, n, hn, hk⟩ => by cases q; subst hk; exact hK n hn) ?_
    rintro _ _ ⟨_, q, _⟩
    cases q
theorem c_X11_shortestLength {l : Launch} {G : mG} {p0 : Nat} {v1 : Int32} {h : mH} {o : (Int32 ⊕ String) × mH} (E : f_X11_shortestLength p0 v1 h = some o) : mMet l G m_X11_shortestLength 4 1 6 [.ref p0, .int v1] h (fun v k => ∃ r, o = (.inl r, k) ∧ v = some (.int r)) (fun e k => ∃ k0, o = (.inr e, k0) ∧ ∃ n, nx k0 ≤ n ∧ k = sn k0 n) := by
  refine mMet_of (by decide +kernel) rfl (ac_c rfl (ac_c rfl ac_0)) (Nat.le_of_ble_eq_true rfl) (s_X11_shortestLength_0 p0 v1 h E ?_)
  obtain ⟨r | e, k⟩ := o
  · exact ⟨r, rfl, rfl⟩
  · exact fun n hn => ⟨k, rfl, n, hn, rfl⟩
set_option maxRecDepth 100000 in
set_option maxHeartbeats 4000000 in
theorem s_X11_stateCount_0 {l : Launch} {G : mG} {Q : Option Value → mH → Prop} {X : String → mH → Prop} (p0 : Nat) (v1 : Int32) (h : mH) {o : (Int32 ⊕ String) × mH} (E : f_X11_stateCount p0 v1 h = some o) (hK : (fiIX Q X) o) : mW l G m_X11_stateCount 4 1 6 0 [some (.ref p0), some (.int v1)] [] h Q X := by
  unfold f_X11_stateCount at E
  refine q_aload_n dX11_stateCount_0 rfl ?_
  replace E := grd_some E
  obtain ⟨g1, E⟩ := E
  replace E := orf_some E
  obtain ⟨a2, ea2, E⟩ := E
  refine r_getR dX11_stateCount_1 FX11_57 g1 ea2 ?_
  refine q_aload_n dX11_stateCount_4 rfl ?_
  refine q_iload_n dX11_stateCount_5 rfl ?_
  replace E := calX_some E
  rcases E with ⟨o4, h3, hc, E⟩ | ⟨e, h3, hc, E⟩
  · refine r_callV1 (mc := 0) (ms := 0) dX11_stateCount_6 KX11_178 (c_X11_patternIn hc) g1 (by decide) (Nat.le_of_ble_eq_true rfl) (fun _ _ ⟨_, q, _⟩ => by cases q) ?_
    rintro _ _ ⟨_, q, rfl⟩
    obtain ⟨e9, f9⟩ := inl_inj q; subst e9; subst f9
    clear hc q
    replace E := orf_some E
    obtain ⟨a5, rfl, E⟩ := E
    replace E := grd_some E
    obtain ⟨g8, E⟩ := E
    replace E := cal_some E
    obtain ⟨_, h6, hc, E⟩ := E
    refine r_callV1 (mc := 0) (ms := 0) dX11_stateCount_9 KX11_213 (c_X0_build hc) g8 (by decide) (Nat.le_of_ble_eq_true rfl) (fun _ _ q => q.elim) ?_
    rintro _ _ ⟨rfl, rfl⟩
    clear hc
    refine q_aload_n dX11_stateCount_12 rfl ?_
    replace E := grd_some E
    obtain ⟨g9, E⟩ := E
    replace E := orf_some E
    obtain ⟨a10, ea10, E⟩ := E
    refine r_getR dX11_stateCount_13 FX11_57 g9 ea10 ?_
    replace E := grd_some E
    obtain ⟨g13, E⟩ := E
    replace E := cal_some E
    obtain ⟨x12, h11, hc, E⟩ := E
    refine r_callV0 (mc := 0) (ms := 0) dX11_stateCount_16 KX11_247 (c_X0_size hc) g13 (by decide) (Nat.le_of_ble_eq_true rfl) (fun _ _ q => q.elim) ?_
    rintro _ _ ⟨rfl, rfl⟩
    clear hc
    cases E
    exact q_ireturn dX11_stateCount_19 rfl hK
  · cases E
    refine r_callV1 (mc := 0) (ms := 0) dX11_stateCount_6 KX11_178 (c_X11_patternIn hc) g1 (by decide) (Nat.le_of_ble_eq_true rfl) (fun _ _ ⟨_, q, n, hn, hk⟩ => by cases q; subst hk; exact hK n hn) ?_
    rintro _ _ ⟨_, q, _⟩
    cases q
theorem c_X11_stateCount {l : Launch} {G : mG} {p0 : Nat} {v1 : Int32} {h : mH} {o : (Int32 ⊕ String) × mH} (E : f_X11_stateCount p0 v1 h = some o) : mMet l G m_X11_stateCount 4 1 6 [.ref p0, .int v1] h (fun v k => ∃ r, o = (.inl r, k) ∧ v = some (.int r)) (fun e k => ∃ k0, o = (.inr e, k0) ∧ ∃ n, nx k0 ≤ n ∧ k = sn k0 n) := by
  refine mMet_of (by decide +kernel) rfl (ac_c rfl (ac_c rfl ac_0)) (Nat.le_of_ble_eq_true rfl) (s_X11_stateCount_0 p0 v1 h E ?_)
  obtain ⟨r | e, k⟩ := o
  · exact ⟨r, rfl, rfl⟩
  · exact fun n hn => ⟨k, rfl, n, hn, rfl⟩
set_option maxRecDepth 100000 in
set_option maxHeartbeats 4000000 in
theorem s_X11_acceptingCount_0 {l : Launch} {G : mG} {Q : Option Value → mH → Prop} {X : String → mH → Prop} (p0 : Nat) (v1 : Int32) (h : mH) {o : (Int32 ⊕ String) × mH} (E : f_X11_acceptingCount p0 v1 h = some o) (hK : (fiIX Q X) o) : mW l G m_X11_acceptingCount 4 1 6 0 [some (.ref p0), some (.int v1)] [] h Q X := by
  unfold f_X11_acceptingCount at E
  refine q_aload_n dX11_acceptingCount_0 rfl ?_
  replace E := grd_some E
  obtain ⟨g1, E⟩ := E
  replace E := orf_some E
  obtain ⟨a2, ea2, E⟩ := E
  refine r_getR dX11_acceptingCount_1 FX11_57 g1 ea2 ?_
  refine q_aload_n dX11_acceptingCount_4 rfl ?_
  refine q_iload_n dX11_acceptingCount_5 rfl ?_
  replace E := calX_some E
  rcases E with ⟨o4, h3, hc, E⟩ | ⟨e, h3, hc, E⟩
  · refine r_callV1 (mc := 0) (ms := 0) dX11_acceptingCount_6 KX11_178 (c_X11_patternIn hc) g1 (by decide) (Nat.le_of_ble_eq_true rfl) (fun _ _ ⟨_, q, _⟩ => by cases q) ?_
    rintro _ _ ⟨_, q, rfl⟩
    obtain ⟨e9, f9⟩ := inl_inj q; subst e9; subst f9
    clear hc q
    replace E := orf_some E
    obtain ⟨a5, rfl, E⟩ := E
    replace E := grd_some E
    obtain ⟨g8, E⟩ := E
    replace E := cal_some E
    obtain ⟨_, h6, hc, E⟩ := E
    refine r_callV1 (mc := 0) (ms := 0) dX11_acceptingCount_9 KX11_213 (c_X0_build hc) g8 (by decide) (Nat.le_of_ble_eq_true rfl) (fun _ _ q => q.elim) ?_
    rintro _ _ ⟨rfl, rfl⟩
    clear hc
    refine q_aload_n dX11_acceptingCount_12 rfl ?_
    replace E := grd_some E
    obtain ⟨g9, E⟩ := E
    replace E := orf_some E
    obtain ⟨a10, ea10, E⟩ := E
    refine r_getR dX11_acceptingCount_13 FX11_57 g9 ea10 ?_
    replace E := grd_some E
    obtain ⟨g13, E⟩ := E
    replace E := cal_some E
    obtain ⟨x12, h11, hc, E⟩ := E
    refine r_callV0 (mc := 0) (ms := 0) dX11_acceptingCount_16 KX11_248 (c_X0_acceptingSize hc) g13 (by decide) (Nat.le_of_ble_eq_true rfl) (fun _ _ q => q.elim) ?_
    rintro _ _ ⟨rfl, rfl⟩
    clear hc
    cases E
    exact q_ireturn dX11_acceptingCount_19 rfl hK
  · cases E
    refine r_callV1 (mc := 0) (ms := 0) dX11_acceptingCount_6 KX11_178 (c_X11_patternIn hc) g1 (by decide) (Nat.le_of_ble_eq_true rfl) (fun _ _ ⟨_, q, n, hn, hk⟩ => by cases q; subst hk; exact hK n hn) ?_
    rintro _ _ ⟨_, q, _⟩
    cases q
theorem c_X11_acceptingCount {l : Launch} {G : mG} {p0 : Nat} {v1 : Int32} {h : mH} {o : (Int32 ⊕ String) × mH} (E : f_X11_acceptingCount p0 v1 h = some o) : mMet l G m_X11_acceptingCount 4 1 6 [.ref p0, .int v1] h (fun v k => ∃ r, o = (.inl r, k) ∧ v = some (.int r)) (fun e k => ∃ k0, o = (.inr e, k0) ∧ ∃ n, nx k0 ≤ n ∧ k = sn k0 n) := by
  refine mMet_of (by decide +kernel) rfl (ac_c rfl (ac_c rfl ac_0)) (Nat.le_of_ble_eq_true rfl) (s_X11_acceptingCount_0 p0 v1 h E ?_)
  obtain ⟨r | e, k⟩ := o
  · exact ⟨r, rfl, rfl⟩
  · exact fun n hn => ⟨k, rfl, n, hn, rfl⟩
