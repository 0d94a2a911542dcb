set_option maxRecDepth 100000 in
set_option maxHeartbeats 4000000 in
theorem s_X11_smallestSize_0 {l : Launch} {G : mG} {Q : Option Value → mH → Prop} {X : String → mH → Prop} (p0 : Nat) (p1 : Nat) (h : mH) {o : Int32 × mH} (E : f_X11_smallestSize p0 p1 h = some o) (hK : (fiI Q) o) : mW l G m_X11_smallestSize 4 0 0 0 [some (.ref p0), some (.ref p1)] [] h Q X := by
  unfold f_X11_smallestSize at E
  refine q_aload_n dX11_smallestSize_0 rfl ?_
  replace E := grd_some E
  obtain ⟨g1, E⟩ := E
  replace E := orf_some E
  obtain ⟨a2, ea2, E⟩ := E
  refine r_getR dX11_smallestSize_1 FX11_57 g1 ea2 ?_
  refine q_aload_n dX11_smallestSize_4 rfl ?_
  replace E := grd_some E
  obtain ⟨g5, E⟩ := E
  replace E := cal_some E
  obtain ⟨_, h3, hc, E⟩ := E
  refine r_callV1 (mc := 0) (ms := 0) dX11_smallestSize_5 KX11_213 (c_X0_build hc) g5 (by decide) (Nat.le_of_ble_eq_true rfl) (fun _ _ q => q.elim) ?_
  rintro _ _ ⟨rfl, rfl⟩
  clear hc
  refine q_aload_n dX11_smallestSize_8 rfl ?_
  replace E := grd_some E
  obtain ⟨g6, E⟩ := E
  replace E := orf_some E
  obtain ⟨a7, ea7, E⟩ := E
  refine r_getR dX11_smallestSize_9 FX11_67 g6 ea7 ?_
  refine q_aload_n dX11_smallestSize_12 rfl ?_
  replace E := orf_some E
  obtain ⟨a8, ea8, E⟩ := E
  refine r_getR dX11_smallestSize_13 FX11_57 g6 ea8 ?_
  replace E := grd_some E
  obtain ⟨g11, E⟩ := E
  replace E := cal_some E
  obtain ⟨_, h9, hc, E⟩ := E
  refine r_callV1 (mc := 0) (ms := 0) dX11_smallestSize_16 KX11_439 (c_X7_build hc) g11 (by decide) (Nat.le_of_ble_eq_true rfl) (fun _ _ q => q.elim) ?_
  rintro _ _ ⟨rfl, rfl⟩
  clear hc
  refine q_aload_n dX11_smallestSize_19 rfl ?_
  replace E := grd_some E
  obtain ⟨g12, E⟩ := E
  replace E := orf_some E
  obtain ⟨a13, ea13, E⟩ := E
  refine r_getR dX11_smallestSize_20 FX11_67 g12 ea13 ?_
  replace E := grd_some E
  obtain ⟨g16, E⟩ := E
  replace E := cal_some E
  obtain ⟨x15, h14, hc, E⟩ := E
  refine r_callV0 (mc := 0) (ms := 0) dX11_smallestSize_23 KX11_442 (c_X7_size hc) g16 (by decide) (Nat.le_of_ble_eq_true rfl) (fun _ _ q => q.elim) ?_
  rintro _ _ ⟨rfl, rfl⟩
  clear hc
  cases E
  exact q_ireturn dX11_smallestSize_26 rfl hK
theorem c_X11_smallestSize {l : Launch} {G : mG} {p0 : Nat} {p1 : Nat} {h h' : mH} {r : Int32} (E : f_X11_smallestSize p0 p1 h = some (r, h')) : mMet l G m_X11_smallestSize 4 0 0 [.ref p0, .ref p1] h (fun v k => v = some (.int r) ∧ h' = k) (fun _ _ => False) :=
  mMet_of (by decide +kernel) rfl (ac_c rfl (ac_c rfl ac_0)) (Nat.le_of_ble_eq_true rfl) (s_X11_smallestSize_0 p0 p1 h E (And.intro rfl rfl))
set_option maxRecDepth 100000 in
set_option maxHeartbeats 4000000 in
theorem s_X11_smallestCount_0 {l : Launch} {G : mG} {Q : Option Value → mH → Prop} {X : String → mH → Prop} (p0 : Nat) (v1 : Int32) (h : mH) {o : (Int32 ⊕ String) × mH} (E : f_X11_smallestCount p0 v1 h = some o) (hK : (fiIX Q X) o) : mW l G m_X11_smallestCount 5 1 6 0 [some (.ref p0), some (.int v1)] [] h Q X := by
  unfold f_X11_smallestCount at E
  refine q_aload_n dX11_smallestCount_0 rfl ?_
  refine q_aload_n dX11_smallestCount_1 rfl ?_
  refine q_iload_n dX11_smallestCount_2 rfl ?_
  replace E := grd_some E
  obtain ⟨g3, E⟩ := E
  replace E := calX_some E
  rcases E with ⟨o2, h1, hc, E⟩ | ⟨e, h1, hc, E⟩
  · refine r_callV1 (mc := 0) (ms := 0) dX11_smallestCount_3 KX11_178 (c_X11_patternIn hc) g3 (by decide) (Nat.le_of_ble_eq_true rfl) (fun _ _ ⟨_, q, _⟩ => by cases q) ?_
    rintro _ _ ⟨_, q, rfl⟩
    obtain ⟨e9, f9⟩ := inl_inj q; subst e9; subst f9
    clear hc q
    replace E := orf_some E
    obtain ⟨a4, rfl, E⟩ := E
    replace E := grd_some E
    obtain ⟨g7, E⟩ := E
    replace E := cal_some E
    obtain ⟨x6, h5, hc, E⟩ := E
    refine r_callV1 (mc := 0) (ms := 0) dX11_smallestCount_6 KX11_251 (c_X11_smallestSize hc) g7 (by decide) (Nat.le_of_ble_eq_true rfl) (fun _ _ q => q.elim) ?_
    rintro _ _ ⟨rfl, rfl⟩
    clear hc
    cases E
    exact q_ireturn dX11_smallestCount_9 rfl hK
  · cases E
    refine r_callV1 (mc := 0) (ms := 0) dX11_smallestCount_3 KX11_178 (c_X11_patternIn hc) g3 (by decide) (Nat.le_of_ble_eq_true rfl) (fun _ _ ⟨_, q, n, hn, hk⟩ => by cases q; subst hk; exact hK n hn) ?_
    rintro _ _ ⟨_, q, _⟩
    cases q
theorem c_X11_smallestCount {l : Launch} {G : mG} {p0 : Nat} {v1 : Int32} {h : mH} {o : (Int32 ⊕ String) × mH} (E : f_X11_smallestCount p0 v1 h = some o) : mMet l G m_X11_smallestCount 5 1 6 [.ref p0, .int v1] h (fun v k => ∃ r, o = (.inl r, k) ∧ v = some (.int r)) (fun e k => ∃ k0, o = (.inr e, k0) ∧ ∃ n, nx k0 ≤ n ∧ k = sn k0 n) := by
  refine mMet_of (by decide +kernel) rfl (ac_c rfl (ac_c rfl ac_0)) (Nat.le_of_ble_eq_true rfl) (s_X11_smallestCount_0 p0 v1 h E ?_)
  obtain ⟨r | e, k⟩ := o
  · exact ⟨r, rfl, rfl⟩
  · exact fun n hn => ⟨k, rfl, n, hn, rfl⟩
set_option maxRecDepth 100000 in
set_option maxHeartbeats 4000000 in
theorem s_X11_smallestCountByPairs_0 {l : Launch} {G : mG} {Q : Option Value → mH → Prop} {X : String → mH → Prop} (p0 : Nat) (v1 : Int32) (h : mH) {o : (Int32 ⊕ String) × mH} (E : f_X11_smallestCountByPairs p0 v1 h = some o) (hK : (fiIX Q X) o) : mW l G m_X11_smallestCountByPairs 4 1 6 0 [some (.ref p0), some (.int v1)] [] h Q X := by
  unfold f_X11_smallestCountByPairs at E
  refine q_aload_n dX11_smallestCountByPairs_0 rfl ?_
  replace E := grd_some E
  obtain ⟨g1, E⟩ := E
  replace E := orf_some E
  obtain ⟨a2, ea2, E⟩ := E
  refine r_getR dX11_smallestCountByPairs_1 FX11_57 g1 ea2 ?_
  refine q_aload_n dX11_smallestCountByPairs_4 rfl ?_
  refine q_iload_n dX11_smallestCountByPairs_5 rfl ?_
  replace E := calX_some E
  rcases E with ⟨o4, h3, hc, E⟩ | ⟨e, h3, hc, E⟩
  · refine r_callV1 (mc := 0) (ms := 0) dX11_smallestCountByPairs_6 KX11_178 (c_X11_patternIn hc) g1 (by decide) (Nat.le_of_ble_eq_true rfl) (fun _ _ ⟨_, q, _⟩ => by cases q) ?_
    rintro _ _ ⟨_, q, rfl⟩
    obtain ⟨e9, f9⟩ := inl_inj q; subst e9; subst f9
    clear hc q
    replace E := orf_some E
    obtain ⟨a5, rfl, E⟩ := E
    replace E := grd_some E
    obtain ⟨g8, E⟩ := E
    replace E := cal_some E
    obtain ⟨_, h6, hc, E⟩ := E
    refine r_callV1 (mc := 0) (ms := 0) dX11_smallestCountByPairs_9 KX11_213 (c_X0_build hc) g8 (by decide) (Nat.le_of_ble_eq_true rfl) (fun _ _ q => q.elim) ?_
    rintro _ _ ⟨rfl, rfl⟩
    clear hc
    refine q_aload_n dX11_smallestCountByPairs_12 rfl ?_
    replace E := grd_some E
    obtain ⟨g9, E⟩ := E
    replace E := orf_some E
    obtain ⟨a10, ea10, E⟩ := E
    refine r_getR dX11_smallestCountByPairs_13 FX11_77 g9 ea10 ?_
    refine q_aload_n dX11_smallestCountByPairs_16 rfl ?_
    replace E := orf_some E
    obtain ⟨a11, ea11, E⟩ := E
    refine r_getR dX11_smallestCountByPairs_17 FX11_57 g9 ea11 ?_
    replace E := grd_some E
    obtain ⟨g14, E⟩ := E
    replace E := cal_some E
    obtain ⟨x13, h12, hc, E⟩ := E
    refine r_callV1 (mc := 0) (ms := 0) dX11_smallestCountByPairs_20 KX11_255 (c_X3_countToldApart hc) g14 (by decide) (Nat.le_of_ble_eq_true rfl) (fun _ _ q => q.elim) ?_
    rintro _ _ ⟨rfl, rfl⟩
    clear hc
    cases E
    exact q_ireturn dX11_smallestCountByPairs_23 rfl hK
  · cases E
    refine r_callV1 (mc := 0) (ms := 0) dX11_smallestCountByPairs_6 KX11_178 (c_X11_patternIn hc) g1 (by decide) (Nat.le_of_ble_eq_true rfl) (fun _ _ ⟨_, q, n, hn, hk⟩ => by cases q; subst hk; exact hK n hn) ?_
    rintro _ _ ⟨_, q, _⟩
    cases q
theorem c_X11_smallestCountByPairs {l : Launch} {G : mG} {p0 : Nat} {v1 : Int32} {h : mH} {o : (Int32 ⊕ String) × mH} (E : f_X11_smallestCountByPairs p0 v1 h = some o) : mMet l G m_X11_smallestCountByPairs 4 1 6 [.ref p0, .int v1] h (fun v k => ∃ r, o = (.inl r, k) ∧ v = some (.int r)) (fun e k => ∃ k0, o = (.inr e, k0) ∧ ∃ n, nx k0 ≤ n ∧ k = sn k0 n) := by
  refine mMet_of (by decide +kernel) rfl (ac_c rfl (ac_c rfl ac_0)) (Nat.le_of_ble_eq_true rfl) (s_X11_smallestCountByPairs_0 p0 v1 h E ?_)
  obtain ⟨r | e, k⟩ := o
  · exact ⟨r, rfl, rfl⟩
  · exact fun n hn => ⟨k, rfl, n, hn, rfl⟩
set_option maxRecDepth 100000 in
set_option maxHeartbeats 4000000 in
theorem s_X11_isFinite_27 {l : Launch} {G : mG} {Q : Option Value → mH → Prop} {X : String → mH → Prop} (s0 : Int32) (h : mH) {o : (Int32 ⊕ String) × mH} (E : g_X11_isFinite_27 s0 h = some o) (hK : (fiIX Q X) o) : mW l G m_X11_isFinite 3 0 0 27 [none, none] [.int s0] h Q X := by
  unfold g_X11_isFinite_27 at E
  replace E := grd_some E
  obtain ⟨g1, E⟩ := E
  cases E
  exact q_zreturn dX11_isFinite_27 rfl (narZ g1) hK
set_option maxRecDepth 100000 in
set_option maxHeartbeats 4000000 in
theorem s_X11_isFinite_0 {l : Launch} {G : mG} {Q : Option Value → mH → Prop} {X : String → mH → Prop} (p0 : Nat) (v1 : Int32) (h : mH) {o : (Int32 ⊕ String) × mH} (E : f_X11_isFinite p0 v1 h = some o) (hK : (fiIX Q X) o) : mW l G m_X11_isFinite 3 1 6 0 [some (.ref p0), some (.int v1)] [] h Q X := by
  unfold f_X11_isFinite at E
  refine q_aload_n dX11_isFinite_0 rfl ?_
  replace E := grd_some E
  obtain ⟨g1, E⟩ := E
  replace E := orf_some E
  obtain ⟨a2, ea2, E⟩ := E
  refine r_getR dX11_isFinite_1 FX11_50 g1 ea2 ?_
  refine q_aload_n dX11_isFinite_4 rfl ?_
  refine q_iload_n dX11_isFinite_5 rfl ?_
  replace E := calX_some E
  rcases E with ⟨o4, h3, hc, E⟩ | ⟨e, h3, hc, E⟩
  · refine r_callV1 (mc := 0) (ms := 0) dX11_isFinite_6 KX11_178 (c_X11_patternIn hc) g1 (by decide) (Nat.le_of_ble_eq_true rfl) (fun _ _ ⟨_, q, _⟩ => by cases q) ?_
    rintro _ _ ⟨_, q, rfl⟩
    obtain ⟨e9, f9⟩ := inl_inj q; subst e9; subst f9
    clear hc q
    replace E := orf_some E
    obtain ⟨a5, rfl, E⟩ := E
    replace E := grd_some E
    obtain ⟨g8, E⟩ := E
    replace E := cal_some E
    obtain ⟨_, h6, hc, E⟩ := E
    refine r_callV1 (mc := 0) (ms := 0) dX11_isFinite_9 KX11_186 (c_X5_number hc) g8 (by decide) (Nat.le_of_ble_eq_true rfl) (fun _ _ q => q.elim) ?_
    rintro _ _ ⟨rfl, rfl⟩
    clear hc
    refine q_aload_n dX11_isFinite_12 rfl ?_
    replace E := grd_some E
    obtain ⟨g9, E⟩ := E
    replace E := orf_some E
    obtain ⟨a10, ea10, E⟩ := E
    refine r_getR dX11_isFinite_13 FX11_50 g9 ea10 ?_
    replace E := grd_some E
    obtain ⟨g13, E⟩ := E
    replace E := cal_some E
    obtain ⟨x12, h11, hc, E⟩ := E
    refine r_callV0 (mc := 0) (ms := 0) dX11_isFinite_16 KX11_259 (c_X5_haveCycle hc) g13 (by decide) (Nat.le_of_ble_eq_true rfl) (fun _ _ q => q.elim) ?_
    rintro _ _ ⟨rfl, rfl⟩
    clear hc
    refine q_if_ne (tgt := 26) dX11_isFinite_19 (by decide) (fun z14 => ?_) (fun z14 => ?_)
    · replace E := ite_f E z14
      refine q_iconst dX11_isFinite_26 ?_
      exact r_fewer [none, none] (ls_n (ls_n ls_0)) (s_X11_isFinite_27 (Int32.ofInt 0) h11 E hK)
    · replace E := ite_t E z14
      refine q_iconst dX11_isFinite_22 ?_
      refine q_goto (tgt := 27) dX11_isFinite_23 (by decide) ?_
      exact r_fewer [none, none] (ls_n (ls_n ls_0)) (s_X11_isFinite_27 (Int32.ofInt 1) h11 E hK)
  · cases E
    refine r_callV1 (mc := 0) (ms := 0) dX11_isFinite_6 KX11_178 (c_X11_patternIn hc) g1 (by decide) (Nat.le_of_ble_eq_true rfl) (fun _ _ ⟨_, q, n, hn, hk⟩ => by cases q; subst hk; exact hK n hn) ?_
    rintro _ _ ⟨_, q, _⟩
    cases q
theorem c_X11_isFinite {l : Launch} {G : mG} {p0 : Nat} {v1 : Int32} {h : mH} {o : (Int32 ⊕ String) × mH} (E : f_X11_isFinite p0 v1 h = some o) : mMet l G m_X11_isFinite 3 1 6 [.ref p0, .int v1] h (fun v k => ∃ r, o = (.inl r, k) ∧ v = some (.int r)) (fun e k => ∃ k0, o = (.inr e, k0) ∧ ∃ n, nx k0 ≤ n ∧ k = sn k0 n) := by
  refine mMet_of (by decide +kernel) rfl (ac_c rfl (ac_c rfl ac_0)) (Nat.le_of_ble_eq_true rfl) (s_X11_isFinite_0 p0 v1 h E ?_)
  obtain ⟨r | e, k⟩ := o
  · exact ⟨r, rfl, rfl⟩
  · exact fun n hn => ⟨k, rfl, n, hn, rfl⟩
set_option maxRecDepth 100000 in
set_option maxHeartbeats 4000000 in
theorem s_X11_isUniversal_34 {l : Launch} {G : mG} {Q : Option Value → mH → Prop} {X : String → mH → Prop} (s0 : Int32) (h : mH) {o : (Int32 ⊕ String) × mH} (E : g_X11_isUniversal_34 s0 h = some o) (hK : (fiIX Q X) o) : mW l G m_X11_isUniversal 4 0 0 34 [none, none] [.int s0] h Q X := by
  unfold g_X11_isUniversal_34 at E
  replace E := grd_some E
  obtain ⟨g1, E⟩ := E
  cases E
  exact q_zreturn dX11_isUniversal_34 rfl (narZ g1) hK
set_option maxRecDepth 100000 in
set_option maxHeartbeats 4000000 in
theorem s_X11_isUniversal_0 {l : Launch} {G : mG} {Q : Option Value → mH → Prop} {X : String → mH → Prop} (p0 : Nat) (v1 : Int32) (h : mH) {o : (Int32 ⊕ String) × mH} (E : f_X11_isUniversal p0 v1 h = some o) (hK : (fiIX Q X) o) : mW l G m_X11_isUniversal 4 1 6 0 [some (.ref p0), some (.int v1)] [] h Q X := by
  unfold f_X11_isUniversal at E
  refine q_aload_n dX11_isUniversal_0 rfl ?_
  replace E := grd_some E
  obtain ⟨g1, E⟩ := E
  replace E := orf_some E
  obtain ⟨a2, ea2, E⟩ := E
  refine r_getR dX11_isUniversal_1 FX11_57 g1 ea2 ?_
  refine q_aload_n dX11_isUniversal_4 rfl ?_
  refine q_iload_n dX11_isUniversal_5 rfl ?_
  replace E := calX_some E
  rcases E with ⟨o4, h3, hc, E⟩ | ⟨e, h3, hc, E⟩
  · refine r_callV1 (mc := 0) (ms := 0) dX11_isUniversal_6 KX11_178 (c_X11_patternIn hc) g1 (by decide) (Nat.le_of_ble_eq_true rfl) (fun _ _ ⟨_, q, _⟩ => by cases q) ?_
    rintro _ _ ⟨_, q, rfl⟩
    obtain ⟨e9, f9⟩ := inl_inj q; subst e9; subst f9
    clear hc q
    replace E := orf_some E
    obtain ⟨a5, rfl, E⟩ := E
    replace E := grd_some E
    obtain ⟨g8, E⟩ := E
    replace E := cal_some E
    obtain ⟨_, h6, hc, E⟩ := E
    refine r_callV1 (mc := 0) (ms := 0) dX11_isUniversal_9 KX11_213 (c_X0_build hc) g8 (by decide) (Nat.le_of_ble_eq_true rfl) (fun _ _ q => q.elim) ?_
    rintro _ _ ⟨rfl, rfl⟩
    clear hc
    refine q_aload_n dX11_isUniversal_12 rfl ?_
    replace E := grd_some E
    obtain ⟨g9, E⟩ := E
    replace E := orf_some E
    obtain ⟨a10, ea10, E⟩ := E
    refine r_getR dX11_isUniversal_13 FX11_57 g9 ea10 ?_
    replace E := grd_some E
    obtain ⟨g13, E⟩ := E
    replace E := cal_some E
    obtain ⟨x12, h11, hc, E⟩ := E
    refine r_callV0 (mc := 0) (ms := 0) dX11_isUniversal_16 KX11_248 (c_X0_acceptingSize hc) g13 (by decide) (Nat.le_of_ble_eq_true rfl) (fun _ _ q => q.elim) ?_
    rintro _ _ ⟨rfl, rfl⟩
    clear hc
    refine q_aload_n dX11_isUniversal_19 rfl ?_
    replace E := grd_some E
    obtain ⟨g14, E⟩ := E
    replace E := orf_some E
    obtain ⟨a15, ea15, E⟩ := E
    refine r_getR dX11_isUniversal_20 FX11_57 g14 ea15 ?_
    replace E := grd_some E
    obtain ⟨g18, E⟩ := E
    replace E := cal_some E
    obtain ⟨x17, h16, hc, E⟩ := E
    refine r_callV0 (mc := 0) (ms := 0) dX11_isUniversal_23 KX11_247 (c_X0_size hc) g18 (by decide) (Nat.le_of_ble_eq_true rfl) (fun _ _ q => q.elim) ?_
    rintro _ _ ⟨rfl, rfl⟩
    clear hc
    refine q_icmp_ne (tgt := 33) dX11_isUniversal_26 (by decide) (fun z19 => ?_) (fun z19 => ?_)
    · replace E := ite_f E z19
      refine q_iconst dX11_isUniversal_33 ?_
      exact r_fewer [none, none] (ls_n (ls_n ls_0)) (s_X11_isUniversal_34 (Int32.ofInt 0) h16 E hK)
    · replace E := ite_t E z19
      refine q_iconst dX11_isUniversal_29 ?_
      refine q_goto (tgt := 34) dX11_isUniversal_30 (by decide) ?_
      exact r_fewer [none, none] (ls_n (ls_n ls_0)) (s_X11_isUniversal_34 (Int32.ofInt 1) h16 E hK)
  · cases E
    refine r_callV1 (mc := 0) (ms := 0) dX11_isUniversal_6 KX11_178 (c_X11_patternIn hc) g1 (by decide) (Nat.le_of_ble_eq_true rfl) (fun _ _ ⟨_, q, n, hn, hk⟩ => by cases q; subst hk; exact hK n hn) ?_
    rintro _ _ ⟨_, q, _⟩
    cases q
theorem c_X11_isUniversal {l : Launch} {G : mG} {p0 : Nat} {v1 : Int32} {h : mH} {o : (Int32 ⊕ String) × mH} (E : f_X11_isUniversal p0 v1 h = some o) : mMet l G m_X11_isUniversal 4 1 6 [.ref p0, .int v1] h (fun v k => ∃ r, o = (.inl r, k) ∧ v = some (.int r)) (fun e k => ∃ k0, o = (.inr e, k0) ∧ ∃ n, nx k0 ≤ n ∧ k = sn k0 n) := by
  refine mMet_of (by decide +kernel) rfl (ac_c rfl (ac_c rfl ac_0)) (Nat.le_of_ble_eq_true rfl) (s_X11_isUniversal_0 p0 v1 h E ?_)
  obtain ⟨r | e, k⟩ := o
  · exact ⟨r, rfl, rfl⟩
  · exact fun n hn => ⟨k, rfl, n, hn, rfl⟩
set_option maxRecDepth 100000 in
set_option maxHeartbeats 4000000 in
theorem s_X11_buildBoth_0 {l : Launch} {G : mG} {Q : Option Value → mH → Prop} {X : String → mH → Prop} (p0 : Nat) (p1 : Nat) (p2 : Nat) (h : mH) {o : Unit × mH} (E : f_X11_buildBoth p0 p1 p2 h = some o) (hK : (fiV Q) o) : mW l G m_X11_buildBoth 4 0 0 0 [some (.ref p0), some (.ref p1), some (.ref p2)] [] h Q X := by
  unfold f_X11_buildBoth at E
  refine q_aload_n dX11_buildBoth_0 rfl ?_
  replace E := grd_some E
  obtain ⟨g1, E⟩ := E
  replace E := orf_some E
  obtain ⟨a2, ea2, E⟩ := E
  refine r_getR dX11_buildBoth_1 FX11_57 g1 ea2 ?_
  refine q_aload_n dX11_buildBoth_4 rfl ?_
  replace E := grd_some E
  obtain ⟨g5, E⟩ := E
  replace E := cal_some E
  obtain ⟨_, h3, hc, E⟩ := E
  refine r_callV1 (mc := 0) (ms := 0) dX11_buildBoth_5 KX11_213 (c_X0_build hc) g5 (by decide) (Nat.le_of_ble_eq_true rfl) (fun _ _ q => q.elim) ?_
  rintro _ _ ⟨rfl, rfl⟩
  clear hc
  refine q_aload_n dX11_buildBoth_8 rfl ?_
  replace E := grd_some E
  obtain ⟨g6, E⟩ := E
  replace E := orf_some E
  obtain ⟨a7, ea7, E⟩ := E
  refine r_getR dX11_buildBoth_9 FX11_61 g6 ea7 ?_
  refine q_aload_n dX11_buildBoth_12 rfl ?_
  replace E := grd_some E
  obtain ⟨g10, E⟩ := E
  replace E := cal_some E
  obtain ⟨_, h8, hc, E⟩ := E
  refine r_callV1 (mc := 0) (ms := 0) dX11_buildBoth_13 KX11_213 (c_X0_build hc) g10 (by decide) (Nat.le_of_ble_eq_true rfl) (fun _ _ q => q.elim) ?_
  rintro _ _ ⟨rfl, rfl⟩
  clear hc
  cases E
  exact q_return dX11_buildBoth_16 rfl hK
theorem c_X11_buildBoth {l : Launch} {G : mG} {p0 : Nat} {p1 : Nat} {p2 : Nat} {h h' : mH} {r : Unit} (E : f_X11_buildBoth p0 p1 p2 h = some (r, h')) : mMet l G m_X11_buildBoth 4 0 0 [.ref p0, .ref p1, .ref p2] h (fun v k => v = none ∧ h' = k) (fun _ _ => False) :=
  mMet_of (by decide +kernel) rfl (ac_c rfl (ac_c rfl (ac_c rfl ac_0))) (Nat.le_of_ble_eq_true rfl) (s_X11_buildBoth_0 p0 p1 p2 h E (And.intro rfl rfl))
set_option maxRecDepth 100000 in
set_option maxHeartbeats 4000000 in
theorem s_X11_sameByPairs_29 {l : Launch} {G : mG} {Q : Option Value → mH → Prop} {X : String → mH → Prop} (s0 : Int32) (h : mH) {o : Int32 × mH} (E : g_X11_sameByPairs_29 s0 h = some o) (hK : (fiI Q) o) : mW l G m_X11_sameByPairs 5 0 0 29 [none, none, none] [.int s0] h Q X := by
  unfold g_X11_sameByPairs_29 at E
  replace E := grd_some E
  obtain ⟨g1, E⟩ := E
  cases E
  exact q_zreturn dX11_sameByPairs_29 rfl (narZ g1) hK
set_option maxRecDepth 100000 in
set_option maxHeartbeats 4000000 in
theorem s_X11_sameByPairs_0 {l : Launch} {G : mG} {Q : Option Value → mH → Prop} {X : String → mH → Prop} (p0 : Nat) (p1 : Nat) (p2 : Nat) (h : mH) {o : Int32 × mH} (E : f_X11_sameByPairs p0 p1 p2 h = some o) (hK : (fiI Q) o) : mW l G m_X11_sameByPairs 5 0 0 0 [some (.ref p0), some (.ref p1), some (.ref p2)] [] h Q X := by
  unfold f_X11_sameByPairs at E
  refine q_aload_n dX11_sameByPairs_0 rfl ?_
  refine q_aload_n dX11_sameByPairs_1 rfl ?_
  refine q_aload_n dX11_sameByPairs_2 rfl ?_
  replace E := grd_some E
  obtain ⟨g3, E⟩ := E
  replace E := cal_some E
  obtain ⟨_, h1, hc, E⟩ := E
  refine r_callV2 (mc := 0) (ms := 0) dX11_sameByPairs_3 KX11_269 (c_X11_buildBoth hc) g3 (by decide) (Nat.le_of_ble_eq_true rfl) (fun _ _ q => q.elim) ?_
  rintro _ _ ⟨rfl, rfl⟩
  clear hc
  refine q_aload_n dX11_sameByPairs_6 rfl ?_
  replace E := grd_some E
  obtain ⟨g4, E⟩ := E
  replace E := orf_some E
  obtain ⟨a5, ea5, E⟩ := E
  refine r_getR dX11_sameByPairs_7 FX11_77 g4 ea5 ?_
  refine q_aload_n dX11_sameByPairs_10 rfl ?_
  replace E := orf_some E
  obtain ⟨a6, ea6, E⟩ := E
  refine r_getR dX11_sameByPairs_11 FX11_57 g4 ea6 ?_
  refine q_aload_n dX11_sameByPairs_14 rfl ?_
  replace E := orf_some E
  obtain ⟨a7, ea7, E⟩ := E
  refine r_getR dX11_sameByPairs_15 FX11_61 g4 ea7 ?_
  replace E := grd_some E
  obtain ⟨g10, E⟩ := E
  replace E := cal_some E
  obtain ⟨x9, h8, hc, E⟩ := E
  refine r_callV2 (mc := 0) (ms := 0) dX11_sameByPairs_18 KX11_277 (c_X3_findApart hc) g10 (by decide) (Nat.le_of_ble_eq_true rfl) (fun _ _ q => q.elim) ?_
  rintro _ _ ⟨rfl, rfl⟩
  clear hc
  refine q_if_ne (tgt := 28) dX11_sameByPairs_21 (by decide) (fun z11 => ?_) (fun z11 => ?_)
  · replace E := ite_f E z11
    refine q_iconst dX11_sameByPairs_28 ?_
    exact r_fewer [none, none, none] (ls_n (ls_n (ls_n ls_0))) (s_X11_sameByPairs_29 (Int32.ofInt 0) h8 E hK)
  · replace E := ite_t E z11
    refine q_iconst dX11_sameByPairs_24 ?_
    refine q_goto (tgt := 29) dX11_sameByPairs_25 (by decide) ?_
    exact r_fewer [none, none, none] (ls_n (ls_n (ls_n ls_0))) (s_X11_sameByPairs_29 (Int32.ofInt 1) h8 E hK)
theorem c_X11_sameByPairs {l : Launch} {G : mG} {p0 : Nat} {p1 : Nat} {p2 : Nat} {h h' : mH} {r : Int32} (E : f_X11_sameByPairs p0 p1 p2 h = some (r, h')) : mMet l G m_X11_sameByPairs 5 0 0 [.ref p0, .ref p1, .ref p2] h (fun v k => v = some (.int r) ∧ h' = k) (fun _ _ => False) :=
  mMet_of (by decide +kernel) rfl (ac_c rfl (ac_c rfl (ac_c rfl ac_0))) (Nat.le_of_ble_eq_true rfl) (s_X11_sameByPairs_0 p0 p1 p2 h E (And.intro rfl rfl))
set_option maxRecDepth 100000 in
set_option maxHeartbeats 4000000 in
theorem s_X11_areEquivalent_0 {l : Launch} {G : mG} {Q : Option Value → mH → Prop} {X : String → mH → Prop} (p0 : Nat) (v1 : Int32) (v2 : Int32) (h : mH) {o : (Int32 ⊕ String) × mH} (E : f_X11_areEquivalent p0 v1 v2 h = some o) (hK : (fiIX Q X) o) : mW l G m_X11_areEquivalent 6 2 12 0 [some (.ref p0), some (.int v1), some (.int v2)] [] h Q X := by
  unfold f_X11_areEquivalent at E
  refine q_aload_n dX11_areEquivalent_0 rfl ?_
  refine q_aload_n dX11_areEquivalent_1 rfl ?_
  refine q_iload_n dX11_areEquivalent_2 rfl ?_
  replace E := grd_some E
  obtain ⟨g3, E⟩ := E
  replace E := calX_some E
  rcases E with ⟨o2, h1, hc, E⟩ | ⟨e, h1, hc, E⟩
  · refine r_callV1 (mc := 1) (ms := 6) dX11_areEquivalent_3 KX11_178 (c_X11_patternIn hc) g3 (by decide) (Nat.le_of_ble_eq_true rfl) (fun _ _ ⟨_, q, _⟩ => by cases q) ?_
    rintro _ _ ⟨_, q, rfl⟩
    obtain ⟨e9, f9⟩ := inl_inj q; subst e9; subst f9
    clear hc q
    refine q_aload_n dX11_areEquivalent_6 rfl ?_
    refine q_iload_n dX11_areEquivalent_7 rfl ?_
    replace E := grd_some E
    obtain ⟨g6, E⟩ := E
    replace E := calX_some E
    rcases E with ⟨o5, h4, hc, E⟩ | ⟨e, h4, hc, E⟩
    · refine r_callV1 (mc := 0) (ms := 0) dX11_areEquivalent_8 KX11_178 (c_X11_patternIn hc) g6 (by decide) (cs_le (cs_c (r_cat _) (cs_c rfl cs_0)) (by decide)) (fun _ _ ⟨_, q, _⟩ => by cases q) ?_
      rintro _ _ ⟨_, q, rfl⟩
      obtain ⟨e9, f9⟩ := inl_inj q; subst e9; subst f9
      clear hc q
      replace E := orf_some E
      obtain ⟨a7, rfl, E⟩ := E
      replace E := orf_some E
      obtain ⟨a8, rfl, E⟩ := E
      replace E := grd_some E
      obtain ⟨g11, E⟩ := E
      replace E := cal_some E
      obtain ⟨x10, h9, hc, E⟩ := E
      refine r_callV2 (mc := 0) (ms := 0) dX11_areEquivalent_11 KX11_262 (c_X11_sameByPairs hc) g11 (by decide) (Nat.le_of_ble_eq_true rfl) (fun _ _ q => q.elim) ?_
      rintro _ _ ⟨rfl, rfl⟩
      clear hc
      replace E := grd_some E
      obtain ⟨g12, E⟩ := E
      cases E
      exact q_zreturn dX11_areEquivalent_14 rfl (narZ g12) hK
    · cases E
      refine r_callV1 (mc := 0) (ms := 0) dX11_areEquivalent_8 KX11_178 (c_X11_patternIn hc) g6 (by decide) (cs_le (cs_c (r_cat _) (cs_c rfl cs_0)) (by decide)) (fun _ _ ⟨_, q, n, hn, hk⟩ => by cases q; subst hk; exact hK n hn) ?_
      rintro _ _ ⟨_, q, _⟩
      cases q
  · cases E
    refine r_callV1 (mc := 1) (ms := 6) dX11_areEquivalent_3 KX11_178 (c_X11_patternIn hc) g3 (by decide) (Nat.le_of_ble_eq_true rfl) (fun _ _ ⟨_, q, n, hn, hk⟩ => by cases q; subst hk; exact hK n hn) ?_
    rintro _ _ ⟨_, q, _⟩
    cases q
theorem c_X11_areEquivalent {l : Launch} {G : mG} {p0 : Nat} {v1 : Int32} {v2 : Int32} {h : mH} {o : (Int32 ⊕ String) × mH} (E : f_X11_areEquivalent p0 v1 v2 h = some o) : mMet l G m_X11_areEquivalent 6 2 12 [.ref p0, .int v1, .int v2] h (fun v k => ∃ r, o = (.inl r, k) ∧ v = some (.int r)) (fun e k => ∃ k0, o = (.inr e, k0) ∧ ∃ n, nx k0 ≤ n ∧ k = sn k0 n) := by
  refine mMet_of (by decide +kernel) rfl (ac_c rfl (ac_c rfl (ac_c rfl ac_0))) (Nat.le_of_ble_eq_true rfl) (s_X11_areEquivalent_0 p0 v1 v2 h E ?_)
  obtain ⟨r | e, k⟩ := o
  · exact ⟨r, rfl, rfl⟩
  · exact fun n hn => ⟨k, rfl, n, hn, rfl⟩
set_option maxRecDepth 100000 in
set_option maxHeartbeats 4000000 in
theorem s_X11_sameBySmallest_0 {l : Launch} {G : mG} {Q : Option Value → mH → Prop} {X : String → mH → Prop} (p0 : Nat) (p1 : Nat) (p2 : Nat) (h : mH) {o : Int32 × mH} (E : f_X11_sameBySmallest p0 p1 p2 h = some o) (hK : (fiI Q) o) : mW l G m_X11_sameBySmallest 5 0 0 0 [some (.ref p0), some (.ref p1), some (.ref p2)] [] h Q X := by
  unfold f_X11_sameBySmallest at E
  refine q_aload_n dX11_sameBySmallest_0 rfl ?_
  refine q_aload_n dX11_sameBySmallest_1 rfl ?_
  refine q_aload_n dX11_sameBySmallest_2 rfl ?_
  replace E := grd_some E
  obtain ⟨g3, E⟩ := E
  replace E := cal_some E
  obtain ⟨_, h1, hc, E⟩ := E
  refine r_callV2 (mc := 0) (ms := 0) dX11_sameBySmallest_3 KX11_269 (c_X11_buildBoth hc) g3 (by decide) (Nat.le_of_ble_eq_true rfl) (fun _ _ q => q.elim) ?_
  rintro _ _ ⟨rfl, rfl⟩
  clear hc
  refine q_aload_n dX11_sameBySmallest_6 rfl ?_
  replace E := grd_some E
  obtain ⟨g4, E⟩ := E
  replace E := orf_some E
  obtain ⟨a5, ea5, E⟩ := E
  refine r_getR dX11_sameBySmallest_7 FX11_67 g4 ea5 ?_
  refine q_aload_n dX11_sameBySmallest_10 rfl ?_
  replace E := orf_some E
  obtain ⟨a6, ea6, E⟩ := E
  refine r_getR dX11_sameBySmallest_11 FX11_57 g4 ea6 ?_
  replace E := grd_some E
  obtain ⟨g9, E⟩ := E
  replace E := cal_some E
  obtain ⟨_, h7, hc, E⟩ := E
  refine r_callV1 (mc := 0) (ms := 0) dX11_sameBySmallest_14 KX11_439 (c_X7_build hc) g9 (by decide) (Nat.le_of_ble_eq_true rfl) (fun _ _ q => q.elim) ?_
  rintro _ _ ⟨rfl, rfl⟩
  clear hc
  refine q_aload_n dX11_sameBySmallest_17 rfl ?_
  replace E := grd_some E
  obtain ⟨g10, E⟩ := E
  replace E := orf_some E
  obtain ⟨a11, ea11, E⟩ := E
  refine r_getR dX11_sameBySmallest_18 FX11_71 g10 ea11 ?_
  refine q_aload_n dX11_sameBySmallest_21 rfl ?_
  replace E := orf_some E
  obtain ⟨a12, ea12, E⟩ := E
  refine r_getR dX11_sameBySmallest_22 FX11_61 g10 ea12 ?_
  replace E := grd_some E
  obtain ⟨g15, E⟩ := E
  replace E := cal_some E
  obtain ⟨_, h13, hc, E⟩ := E
  refine r_callV1 (mc := 0) (ms := 0) dX11_sameBySmallest_25 KX11_439 (c_X7_build hc) g15 (by decide) (Nat.le_of_ble_eq_true rfl) (fun _ _ q => q.elim) ?_
  rintro _ _ ⟨rfl, rfl⟩
  clear hc
  refine q_aload_n dX11_sameBySmallest_28 rfl ?_
  replace E := grd_some E
  obtain ⟨g16, E⟩ := E
  replace E := orf_some E
  obtain ⟨a17, ea17, E⟩ := E
  refine r_getR dX11_sameBySmallest_29 FX11_67 g16 ea17 ?_
  refine q_aload_n dX11_sameBySmallest_32 rfl ?_
  replace E := orf_some E
  obtain ⟨a18, ea18, E⟩ := E
  refine r_getR dX11_sameBySmallest_33 FX11_71 g16 ea18 ?_
  replace E := grd_some E
  obtain ⟨g21, E⟩ := E
  replace E := cal_some E
  obtain ⟨x20, h19, hc, E⟩ := E
  refine r_callV1 (mc := 0) (ms := 0) dX11_sameBySmallest_36 KX11_443 (c_X7_equalsOther hc) g21 (by decide) (Nat.le_of_ble_eq_true rfl) (fun _ _ q => q.elim) ?_
  rintro _ _ ⟨rfl, rfl⟩
  clear hc
  replace E := grd_some E
  obtain ⟨g22, E⟩ := E
  cases E
  exact q_zreturn dX11_sameBySmallest_39 rfl (narZ g22) hK
theorem c_X11_sameBySmallest {l : Launch} {G : mG} {p0 : Nat} {p1 : Nat} {p2 : Nat} {h h' : mH} {r : Int32} (E : f_X11_sameBySmallest p0 p1 p2 h = some (r, h')) : mMet l G m_X11_sameBySmallest 5 0 0 [.ref p0, .ref p1, .ref p2] h (fun v k => v = some (.int r) ∧ h' = k) (fun _ _ => False) :=
  mMet_of (by decide +kernel) rfl (ac_c rfl (ac_c rfl (ac_c rfl ac_0))) (Nat.le_of_ble_eq_true rfl) (s_X11_sameBySmallest_0 p0 p1 p2 h E (And.intro rfl rfl))
set_option maxRecDepth 100000 in
set_option maxHeartbeats 4000000 in
theorem s_X11_areEquivalentBySmallest_0 {l : Launch} {G : mG} {Q : Option Value → mH → Prop} {X : String → mH → Prop} (p0 : Nat) (v1 : Int32) (v2 : Int32) (h : mH) {o : (Int32 ⊕ String) × mH} (E : f_X11_areEquivalentBySmallest p0 v1 v2 h = some o) (hK : (fiIX Q X) o) : mW l G m_X11_areEquivalentBySmallest 6 2 12 0 [some (.ref p0), some (.int v1), some (.int v2)] [] h Q X := by
  unfold f_X11_areEquivalentBySmallest at E
  refine q_aload_n dX11_areEquivalentBySmallest_0 rfl ?_
  refine q_aload_n dX11_areEquivalentBySmallest_1 rfl ?_
  refine q_iload_n dX11_areEquivalentBySmallest_2 rfl ?_
  replace E := grd_some E
  obtain ⟨g3, E⟩ := E
  replace E := calX_some E
  rcases E with ⟨o2, h1, hc, E⟩ | ⟨e, h1, hc, E⟩
  · refine r_callV1 (mc := 1) (ms := 6) dX11_areEquivalentBySmallest_3 KX11_178 (c_X11_patternIn hc) g3 (by decide) (Nat.le_of_ble_eq_true rfl) (fun _ _ ⟨_, q, _⟩ => by cases q) ?_
    rintro _ _ ⟨_, q, rfl⟩
    obtain ⟨e9, f9⟩ := inl_inj q; subst e9; subst f9
    clear hc q
    refine q_aload_n dX11_areEquivalentBySmallest_6 rfl ?_
    refine q_iload_n dX11_areEquivalentBySmallest_7 rfl ?_
    replace E := grd_some E
    obtain ⟨g6, E⟩ := E
    replace E := calX_some E
    rcases E with ⟨o5, h4, hc, E⟩ | ⟨e, h4, hc, E⟩
    · refine r_callV1 (mc := 0) (ms := 0) dX11_areEquivalentBySmallest_8 KX11_178 (c_X11_patternIn hc) g6 (by decide) (cs_le (cs_c (r_cat _) (cs_c rfl cs_0)) (by decide)) (fun _ _ ⟨_, q, _⟩ => by cases q) ?_
      rintro _ _ ⟨_, q, rfl⟩
      obtain ⟨e9, f9⟩ := inl_inj q; subst e9; subst f9
      clear hc q
      replace E := orf_some E
      obtain ⟨a7, rfl, E⟩ := E
      replace E := orf_some E
      obtain ⟨a8, rfl, E⟩ := E
      replace E := grd_some E
      obtain ⟨g11, E⟩ := E
      replace E := cal_some E
      obtain ⟨x10, h9, hc, E⟩ := E
      refine r_callV2 (mc := 0) (ms := 0) dX11_areEquivalentBySmallest_11 KX11_266 (c_X11_sameBySmallest hc) g11 (by decide) (Nat.le_of_ble_eq_true rfl) (fun _ _ q => q.elim) ?_
      rintro _ _ ⟨rfl, rfl⟩
      clear hc
      replace E := grd_some E
      obtain ⟨g12, E⟩ := E
      cases E
      exact q_zreturn dX11_areEquivalentBySmallest_14 rfl (narZ g12) hK
    · cases E
      refine r_callV1 (mc := 0) (ms := 0) dX11_areEquivalentBySmallest_8 KX11_178 (c_X11_patternIn hc) g6 (by decide) (cs_le (cs_c (r_cat _) (cs_c rfl cs_0)) (by decide)) (fun _ _ ⟨_, q, n, hn, hk⟩ => by cases q; subst hk; exact hK n hn) ?_
      rintro _ _ ⟨_, q, _⟩
      cases q
  · cases E
    refine r_callV1 (mc := 1) (ms := 6) dX11_areEquivalentBySmallest_3 KX11_178 (c_X11_patternIn hc) g3 (by decide) (Nat.le_of_ble_eq_true rfl) (fun _ _ ⟨_, q, n, hn, hk⟩ => by cases q; subst hk; exact hK n hn) ?_
    rintro _ _ ⟨_, q, _⟩
    cases q
theorem c_X11_areEquivalentBySmallest {l : Launch} {G : mG} {p0 : Nat} {v1 : Int32} {v2 : Int32} {h : mH} {o : (Int32 ⊕ String) × mH} (E : f_X11_areEquivalentBySmallest p0 v1 v2 h = some o) : mMet l G m_X11_areEquivalentBySmallest 6 2 12 [.ref p0, .int v1, .int v2] h (fun v k => ∃ r, o = (.inl r, k) ∧ v = some (.int r)) (fun e k => ∃ k0, o = (.inr e, k0) ∧ ∃ n, nx k0 ≤ n ∧ k = sn k0 n) := by
  refine mMet_of (by decide +kernel) rfl (ac_c rfl (ac_c rfl (ac_c rfl ac_0))) (Nat.le_of_ble_eq_true rfl) (s_X11_areEquivalentBySmallest_0 p0 v1 v2 h E ?_)
  obtain ⟨r | e, k⟩ := o
  · exact ⟨r, rfl, rfl⟩
  · exact fun n hn => ⟨k, rfl, n, hn, rfl⟩
set_option maxRecDepth 100000 in
set_option maxHeartbeats 4000000 in
theorem s_X11_isIncluded_37 {l : Launch} {G : mG} {Q : Option Value → mH → Prop} {X : String → mH → Prop} (s0 : Int32) (h : mH) {o : (Int32 ⊕ String) × mH} (E : g_X11_isIncluded_37 s0 h = some o) (hK : (fiIX Q X) o) : mW l G m_X11_isIncluded 5 0 0 37 [none, none, none] [.int s0] h Q X := by
  unfold g_X11_isIncluded_37 at E
  replace E := grd_some E
  obtain ⟨g1, E⟩ := E
  cases E
  exact q_zreturn dX11_isIncluded_37 rfl (narZ g1) hK
set_option maxRecDepth 100000 in
set_option maxHeartbeats 4000000 in
theorem s_X11_isIncluded_0 {l : Launch} {G : mG} {Q : Option Value → mH → Prop} {X : String → mH → Prop} (p0 : Nat) (v1 : Int32) (v2 : Int32) (h : mH) {o : (Int32 ⊕ String) × mH} (E : f_X11_isIncluded p0 v1 v2 h = some o) (hK : (fiIX Q X) o) : mW l G m_X11_isIncluded 5 2 12 0 [some (.ref p0), some (.int v1), some (.int v2)] [] h Q X := by
  unfold f_X11_isIncluded at E
  refine q_aload_n dX11_isIncluded_0 rfl ?_
  refine q_aload_n dX11_isIncluded_1 rfl ?_
  refine q_iload_n dX11_isIncluded_2 rfl ?_
  replace E := grd_some E
  obtain ⟨g3, E⟩ := E
  replace E := calX_some E
  rcases E with ⟨o2, h1, hc, E⟩ | ⟨e, h1, hc, E⟩
  · refine r_callV1 (mc := 1) (ms := 6) dX11_isIncluded_3 KX11_178 (c_X11_patternIn hc) g3 (by decide) (Nat.le_of_ble_eq_true rfl) (fun _ _ ⟨_, q, _⟩ => by cases q) ?_
    rintro _ _ ⟨_, q, rfl⟩
    obtain ⟨e9, f9⟩ := inl_inj q; subst e9; subst f9
    clear hc q
    refine q_aload_n dX11_isIncluded_6 rfl ?_
    refine q_iload_n dX11_isIncluded_7 rfl ?_
    replace E := grd_some E
    obtain ⟨g6, E⟩ := E
    replace E := calX_some E
    rcases E with ⟨o5, h4, hc, E⟩ | ⟨e, h4, hc, E⟩
    · refine r_callV1 (mc := 0) (ms := 0) dX11_isIncluded_8 KX11_178 (c_X11_patternIn hc) g6 (by decide) (cs_le (cs_c (r_cat _) (cs_c rfl cs_0)) (by decide)) (fun _ _ ⟨_, q, _⟩ => by cases q) ?_
      rintro _ _ ⟨_, q, rfl⟩
      obtain ⟨e9, f9⟩ := inl_inj q; subst e9; subst f9
      clear hc q
      replace E := orf_some E
      obtain ⟨a7, rfl, E⟩ := E
      replace E := orf_some E
      obtain ⟨a8, rfl, E⟩ := E
      replace E := grd_some E
      obtain ⟨g11, E⟩ := E
      replace E := cal_some E
      obtain ⟨_, h9, hc, E⟩ := E
      refine r_callV2 (mc := 0) (ms := 0) dX11_isIncluded_11 KX11_269 (c_X11_buildBoth hc) g11 (by decide) (Nat.le_of_ble_eq_true rfl) (fun _ _ q => q.elim) ?_
      rintro _ _ ⟨rfl, rfl⟩
      clear hc
      refine q_aload_n dX11_isIncluded_14 rfl ?_
      replace E := grd_some E
      obtain ⟨g12, E⟩ := E
      replace E := orf_some E
      obtain ⟨a13, ea13, E⟩ := E
      refine r_getR dX11_isIncluded_15 FX11_77 g12 ea13 ?_
      refine q_aload_n dX11_isIncluded_18 rfl ?_
      replace E := orf_some E
      obtain ⟨a14, ea14, E⟩ := E
      refine r_getR dX11_isIncluded_19 FX11_57 g12 ea14 ?_
      refine q_aload_n dX11_isIncluded_22 rfl ?_
      replace E := orf_some E
      obtain ⟨a15, ea15, E⟩ := E
      refine r_getR dX11_isIncluded_23 FX11_61 g12 ea15 ?_
      replace E := grd_some E
      obtain ⟨g18, E⟩ := E
      replace E := cal_some E
      obtain ⟨x17, h16, hc, E⟩ := E
      refine r_callV2 (mc := 0) (ms := 0) dX11_isIncluded_26 KX11_273 (c_X3_findOnlyFirst hc) g18 (by decide) (Nat.le_of_ble_eq_true rfl) (fun _ _ q => q.elim) ?_
      rintro _ _ ⟨rfl, rfl⟩
      clear hc
      refine q_if_ne (tgt := 36) dX11_isIncluded_29 (by decide) (fun z19 => ?_) (fun z19 => ?_)
      · replace E := ite_f E z19
        refine q_iconst dX11_isIncluded_36 ?_
        exact r_fewer [none, none, none] (ls_n (ls_n (ls_n ls_0))) (s_X11_isIncluded_37 (Int32.ofInt 0) h16 E hK)
      · replace E := ite_t E z19
        refine q_iconst dX11_isIncluded_32 ?_
        refine q_goto (tgt := 37) dX11_isIncluded_33 (by decide) ?_
        exact r_fewer [none, none, none] (ls_n (ls_n (ls_n ls_0))) (s_X11_isIncluded_37 (Int32.ofInt 1) h16 E hK)
    · cases E
      refine r_callV1 (mc := 0) (ms := 0) dX11_isIncluded_8 KX11_178 (c_X11_patternIn hc) g6 (by decide) (cs_le (cs_c (r_cat _) (cs_c rfl cs_0)) (by decide)) (fun _ _ ⟨_, q, n, hn, hk⟩ => by cases q; subst hk; exact hK n hn) ?_
      rintro _ _ ⟨_, q, _⟩
      cases q
  · cases E
    refine r_callV1 (mc := 1) (ms := 6) dX11_isIncluded_3 KX11_178 (c_X11_patternIn hc) g3 (by decide) (Nat.le_of_ble_eq_true rfl) (fun _ _ ⟨_, q, n, hn, hk⟩ => by cases q; subst hk; exact hK n hn) ?_
    rintro _ _ ⟨_, q, _⟩
    cases q
theorem c_X11_isIncluded {l : Launch} {G : mG} {p0 : Nat} {v1 : Int32} {v2 : Int32} {h : mH} {o : (Int32 ⊕ String) × mH} (E : f_X11_isIncluded p0 v1 v2 h = some o) : mMet l G m_X11_isIncluded 5 2 12 [.ref p0, .int v1, .int v2] h (fun v k => ∃ r, o = (.inl r, k) ∧ v = some (.int r)) (fun e k => ∃ k0, o = (.inr e, k0) ∧ ∃ n, nx k0 ≤ n ∧ k = sn k0 n) := by
  refine mMet_of (by decide +kernel) rfl (ac_c rfl (ac_c rfl (ac_c rfl ac_0))) (Nat.le_of_ble_eq_true rfl) (s_X11_isIncluded_0 p0 v1 v2 h E ?_)
  obtain ⟨r | e, k⟩ := o
  · exact ⟨r, rfl, rfl⟩
  · exact fun n hn => ⟨k, rfl, n, hn, rfl⟩
set_option maxRecDepth 100000 in
set_option maxHeartbeats 4000000 in
theorem s_X11_differenceLength_43 {l : Launch} {G : mG} {Q : Option Value → mH → Prop} {X : String → mH → Prop} (s0 : Int32) (h : mH) {o : (Int32 ⊕ String) × mH} (E : g_X11_differenceLength_43 s0 h = some o) (hK : (fiIX Q X) o) : mW l G m_X11_differenceLength 5 0 0 43 [none, none, none] [.int s0] h Q X := by
  unfold g_X11_differenceLength_43 at E
  cases E
  exact q_ireturn dX11_differenceLength_43 rfl hK
set_option maxRecDepth 100000 in
set_option maxHeartbeats 4000000 in
theorem s_X11_differenceLength_0 {l : Launch} {G : mG} {Q : Option Value → mH → Prop} {X : String → mH → Prop} (p0 : Nat) (v1 : Int32) (v2 : Int32) (h : mH) {o : (Int32 ⊕ String) × mH} (E : f_X11_differenceLength p0 v1 v2 h = some o) (hK : (fiIX Q X) o) : mW l G m_X11_differenceLength 5 2 12 0 [some (.ref p0), some (.int v1), some (.int v2)] [] h Q X := by
  unfold f_X11_differenceLength at E
  refine q_aload_n dX11_differenceLength_0 rfl ?_
  refine q_aload_n dX11_differenceLength_1 rfl ?_
  refine q_iload_n dX11_differenceLength_2 rfl ?_
  replace E := grd_some E
  obtain ⟨g3, E⟩ := E
  replace E := calX_some E
  rcases E with ⟨o2, h1, hc, E⟩ | ⟨e, h1, hc, E⟩
  · refine r_callV1 (mc := 1) (ms := 6) dX11_differenceLength_3 KX11_178 (c_X11_patternIn hc) g3 (by decide) (Nat.le_of_ble_eq_true rfl) (fun _ _ ⟨_, q, _⟩ => by cases q) ?_
    rintro _ _ ⟨_, q, rfl⟩
    obtain ⟨e9, f9⟩ := inl_inj q; subst e9; subst f9
    clear hc q
    refine q_aload_n dX11_differenceLength_6 rfl ?_
    refine q_iload_n dX11_differenceLength_7 rfl ?_
    replace E := grd_some E
    obtain ⟨g6, E⟩ := E
    replace E := calX_some E
    rcases E with ⟨o5, h4, hc, E⟩ | ⟨e, h4, hc, E⟩
    · refine r_callV1 (mc := 0) (ms := 0) dX11_differenceLength_8 KX11_178 (c_X11_patternIn hc) g6 (by decide) (cs_le (cs_c (r_cat _) (cs_c rfl cs_0)) (by decide)) (fun _ _ ⟨_, q, _⟩ => by cases q) ?_
      rintro _ _ ⟨_, q, rfl⟩
      obtain ⟨e9, f9⟩ := inl_inj q; subst e9; subst f9
      clear hc q
      replace E := orf_some E
      obtain ⟨a7, rfl, E⟩ := E
      replace E := orf_some E
      obtain ⟨a8, rfl, E⟩ := E
      replace E := grd_some E
      obtain ⟨g11, E⟩ := E
      replace E := cal_some E
      obtain ⟨_, h9, hc, E⟩ := E
      refine r_callV2 (mc := 0) (ms := 0) dX11_differenceLength_11 KX11_269 (c_X11_buildBoth hc) g11 (by decide) (Nat.le_of_ble_eq_true rfl) (fun _ _ q => q.elim) ?_
      rintro _ _ ⟨rfl, rfl⟩
      clear hc
      refine q_aload_n dX11_differenceLength_14 rfl ?_
      replace E := grd_some E
      obtain ⟨g12, E⟩ := E
      replace E := orf_some E
      obtain ⟨a13, ea13, E⟩ := E
      refine r_getR dX11_differenceLength_15 FX11_77 g12 ea13 ?_
      refine q_aload_n dX11_differenceLength_18 rfl ?_
      replace E := orf_some E
      obtain ⟨a14, ea14, E⟩ := E
      refine r_getR dX11_differenceLength_19 FX11_57 g12 ea14 ?_
      refine q_aload_n dX11_differenceLength_22 rfl ?_
      replace E := orf_some E
      obtain ⟨a15, ea15, E⟩ := E
      refine r_getR dX11_differenceLength_23 FX11_61 g12 ea15 ?_
      replace E := grd_some E
      obtain ⟨g18, E⟩ := E
      replace E := cal_some E
      obtain ⟨x17, h16, hc, E⟩ := E
      refine r_callV2 (mc := 0) (ms := 0) dX11_differenceLength_26 KX11_277 (c_X3_findApart hc) g18 (by decide) (Nat.le_of_ble_eq_true rfl) (fun _ _ q => q.elim) ?_
      rintro _ _ ⟨rfl, rfl⟩
      clear hc
      refine q_if_eq (tgt := 42) dX11_differenceLength_29 (by decide) (fun z19 => ?_) (fun z19 => ?_)
      · replace E := ite_t E z19
        refine q_iconst dX11_differenceLength_42 ?_
        exact r_fewer [none, none, none] (ls_n (ls_n (ls_n ls_0))) (s_X11_differenceLength_43 (Int32.ofInt (-1)) h16 E hK)
      · replace E := ite_f E z19
        refine q_aload_n dX11_differenceLength_32 rfl ?_
        replace E := grd_some E
        obtain ⟨g20, E⟩ := E
        replace E := orf_some E
        obtain ⟨a21, ea21, E⟩ := E
        refine r_getR dX11_differenceLength_33 FX11_77 g20 ea21 ?_
        replace E := grd_some E
        obtain ⟨g24, E⟩ := E
        replace E := cal_some E
        obtain ⟨x23, h22, hc, E⟩ := E
        refine r_callV0 (mc := 0) (ms := 0) dX11_differenceLength_36 KX11_280 (c_X3_foundLength hc) g24 (by decide) (Nat.le_of_ble_eq_true rfl) (fun _ _ q => q.elim) ?_
        rintro _ _ ⟨rfl, rfl⟩
        clear hc
        refine q_goto (tgt := 43) dX11_differenceLength_39 (by decide) ?_
        exact r_fewer [none, none, none] (ls_n (ls_n (ls_n ls_0))) (s_X11_differenceLength_43 x23 h22 E hK)
    · cases E
      refine r_callV1 (mc := 0) (ms := 0) dX11_differenceLength_8 KX11_178 (c_X11_patternIn hc) g6 (by decide) (cs_le (cs_c (r_cat _) (cs_c rfl cs_0)) (by decide)) (fun _ _ ⟨_, q, n, hn, hk⟩ => by cases q; subst hk; exact hK n hn) ?_
      rintro _ _ ⟨_, q, _⟩
      cases q
  · cases E
    refine r_callV1 (mc := 1) (ms := 6) dX11_differenceLength_3 KX11_178 (c_X11_patternIn hc) g3 (by decide) (Nat.le_of_ble_eq_true rfl) (fun _ _ ⟨_, q, n, hn, hk⟩ => by cases q; subst hk; exact hK n hn) ?_
    rintro _ _ ⟨_, q, _⟩
    cases q
theorem c_X11_differenceLength {l : Launch} {G : mG} {p0 : Nat} {v1 : Int32} {v2 : Int32} {h : mH} {o : (Int32 ⊕ String) × mH} (E : f_X11_differenceLength p0 v1 v2 h = some o) : mMet l G m_X11_differenceLength 5 2 12 [.ref p0, .int v1, .int v2] h (fun v k => ∃ r, o = (.inl r, k) ∧ v = some (.int r)) (fun e k => ∃ k0, o = (.inr e, k0) ∧ ∃ n, nx k0 ≤ n ∧ k = sn k0 n) := by
  refine mMet_of (by decide +kernel) rfl (ac_c rfl (ac_c rfl (ac_c rfl ac_0))) (Nat.le_of_ble_eq_true rfl) (s_X11_differenceLength_0 p0 v1 v2 h E ?_)
  obtain ⟨r | e, k⟩ := o
  · exact ⟨r, rfl, rfl⟩
  · exact fun n hn => ⟨k, rfl, n, hn, rfl⟩
set_option maxRecDepth 100000 in
set_option maxHeartbeats 4000000 in
theorem s_X11_comesBefore_42 {l : Launch} {G : mG} {Q : Option Value → mH → Prop} {X : String → mH → Prop} (h : mH) {o : Int32 × mH} (E : g_X11_comesBefore_42  h = some o) (hK : (fiI Q) o) : mW l G m_X11_comesBefore 2 0 0 42 [none, none, none, none, none] [] h Q X := by
  unfold g_X11_comesBefore_42 at E
  refine q_iconst dX11_comesBefore_42 ?_
  cases E
  exact q_zreturn dX11_comesBefore_43 rfl (by decide) hK
set_option maxRecDepth 100000 in
set_option maxHeartbeats 4000000 in
theorem s_X11_comesBefore_79 {l : Launch} {G : mG} {Q : Option Value → mH → Prop} {X : String → mH → Prop} (s0 : Int32) (h : mH) {o : Int32 × mH} (E : g_X11_comesBefore_79 s0 h = some o) (hK : (fiI Q) o) : mW l G m_X11_comesBefore 2 0 0 79 [none, none, none, none, none] [.int s0] h Q X := by
  unfold g_X11_comesBefore_79 at E
  replace E := grd_some E
  obtain ⟨g1, E⟩ := E
  cases E
  exact q_zreturn dX11_comesBefore_79 rfl (narZ g1) hK
set_option maxRecDepth 100000 in
set_option maxHeartbeats 4000000 in
theorem s_X11_comesBefore_109 {l : Launch} {G : mG} {Q : Option Value → mH → Prop} {X : String → mH → Prop} (s0 : Int32) (h : mH) {o : Int32 × mH} (E : g_X11_comesBefore_109 s0 h = some o) (hK : (fiI Q) o) : mW l G m_X11_comesBefore 2 0 0 109 [none, none, none, none, none] [.int s0] h Q X := by
  unfold g_X11_comesBefore_109 at E
  replace E := grd_some E
  obtain ⟨g1, E⟩ := E
  cases E
  exact q_zreturn dX11_comesBefore_109 rfl (narZ g1) hK
set_option maxRecDepth 100000 in
set_option maxHeartbeats 4000000 in
theorem s_X11_comesBefore_120 {l : Launch} {G : mG} {Q : Option Value → mH → Prop} {X : String → mH → Prop} (s0 : Int32) (h : mH) {o : Int32 × mH} (E : g_X11_comesBefore_120 s0 h = some o) (hK : (fiI Q) o) : mW l G m_X11_comesBefore 2 0 0 120 [none, none, none, none, none] [.int s0] h Q X := by
  unfold g_X11_comesBefore_120 at E
  replace E := grd_some E
  obtain ⟨g1, E⟩ := E
  cases E
  exact q_zreturn dX11_comesBefore_120 rfl (narZ g1) hK
set_option maxRecDepth 100000 in
set_option maxHeartbeats 4000000 in
theorem s_X11_comesBefore_0 {l : Launch} {G : mG} {Q : Option Value → mH → Prop} {X : String → mH → Prop} (p0 : Nat) (v1 : Int32) (v2 : Int32) (h : mH) {o : Int32 × mH} (E : f_X11_comesBefore p0 v1 v2 h = some o) (hK : (fiI Q) o) : mW l G m_X11_comesBefore 2 0 0 0 [some (.ref p0), some (.int v1), some (.int v2), none, none] [] h Q X := by
  unfold f_X11_comesBefore at E
  refine q_aload_n dX11_comesBefore_0 rfl ?_
  replace E := grd_some E
  obtain ⟨g1, E⟩ := E
  replace E := orf_some E
  obtain ⟨a2, ea2, E⟩ := E
  refine r_getR dX11_comesBefore_1 FX11_10 g1 ea2 ?_
  refine q_iload_n dX11_comesBefore_4 rfl ?_
  replace E := grd_some E
  obtain ⟨g5, E⟩ := E
  replace E := cal_some E
  obtain ⟨o4, h3, hc, E⟩ := E
  refine r_callV1 (mc := 0) (ms := 0) dX11_comesBefore_5 KX11_174 (c_X6_pattern hc) g5 (by decide) (Nat.le_of_ble_eq_true rfl) (fun _ _ q => q.elim) ?_
  rintro _ _ ⟨rfl, rfl⟩
  clear hc
  refine r_astore_nO dX11_comesBefore_8 (by decide) (ls' := [some (.ref p0), some (.int v1), some (.int v2), some (va_rf o4), none]) rfl ?_
  refine q_aload_n dX11_comesBefore_9 rfl ?_
  replace E := grd_some E
  obtain ⟨g6, E⟩ := E
  replace E := orf_some E
  obtain ⟨a7, ea7, E⟩ := E
  refine r_getR dX11_comesBefore_10 FX11_10 g6 ea7 ?_
  refine q_iload_n dX11_comesBefore_13 rfl ?_
  replace E := grd_some E
  obtain ⟨g10, E⟩ := E
  replace E := cal_some E
  obtain ⟨o9, h8, hc, E⟩ := E
  refine r_callV1 (mc := 0) (ms := 0) dX11_comesBefore_14 KX11_174 (c_X6_pattern hc) g10 (by decide) (Nat.le_of_ble_eq_true rfl) (fun _ _ q => q.elim) ?_
  rintro _ _ ⟨rfl, rfl⟩
  clear hc
  refine r_astoreO dX11_comesBefore_17 (by decide) (ls' := [some (.ref p0), some (.int v1), some (.int v2), some (va_rf o4), some (va_rf o9)]) rfl ?_
  refine r_aload_nO dX11_comesBefore_19 rfl ?_
  replace E := oif_some E
  rcases E with ⟨rfl, E⟩ | ⟨a11, rfl, E⟩
  · refine q_ifnullN (tgt := 42) dX11_comesBefore_20 (by decide) ?_
    exact r_fewer [none, none, none, none, none] (ls_n (ls_n (ls_n (ls_n (ls_n ls_0))))) (s_X11_comesBefore_42 h8 E hK)
  · refine q_ifnull dX11_comesBefore_20 ?_
    refine r_aloadO dX11_comesBefore_23 rfl ?_
    replace E := oif_some E
    rcases E with ⟨rfl, E⟩ | ⟨a12, rfl, E⟩
    · refine q_ifnullN (tgt := 42) dX11_comesBefore_25 (by decide) ?_
      exact r_fewer [none, none, none, none, none] (ls_n (ls_n (ls_n (ls_n (ls_n ls_0))))) (s_X11_comesBefore_42 h8 E hK)
    · refine q_ifnull dX11_comesBefore_25 ?_
      refine q_iload_n dX11_comesBefore_28 rfl ?_
      replace E := cal_some E
      obtain ⟨x14, h13, hc, E⟩ := E
      refine r_callS1 (mc := 0) (ms := 0) dX11_comesBefore_29 KX11_103 (c_X11_isSlot hc) (by decide) (Nat.le_of_ble_eq_true rfl) (fun _ _ q => q.elim) ?_
      rintro _ _ ⟨rfl, rfl⟩
      clear hc
      refine q_if_eq (tgt := 42) dX11_comesBefore_32 (by decide) (fun z15 => ?_) (fun z15 => ?_)
      · replace E := ite_t E z15
        exact r_fewer [none, none, none, none, none] (ls_n (ls_n (ls_n (ls_n (ls_n ls_0))))) (s_X11_comesBefore_42 h13 E hK)
      · replace E := ite_f E z15
        refine q_iload_n dX11_comesBefore_35 rfl ?_
        replace E := cal_some E
        obtain ⟨x17, h16, hc, E⟩ := E
        refine r_callS1 (mc := 0) (ms := 0) dX11_comesBefore_36 KX11_103 (c_X11_isSlot hc) (by decide) (Nat.le_of_ble_eq_true rfl) (fun _ _ q => q.elim) ?_
        rintro _ _ ⟨rfl, rfl⟩
        clear hc
        refine q_if_ne (tgt := 44) dX11_comesBefore_39 (by decide) (fun z18 => ?_) (fun z18 => ?_)
        · replace E := ite_f E z18
          refine q_aload_n dX11_comesBefore_44 rfl ?_
          replace E := grd_some E
          obtain ⟨g19, E⟩ := E
          replace E := orf_some E
          obtain ⟨a20, ea20, E⟩ := E
          refine r_getR dX11_comesBefore_45 FX11_88 g19 ea20 ?_
          refine q_iload_n dX11_comesBefore_48 rfl ?_
          replace E := grd_some E
          obtain ⟨g21, E⟩ := E
          replace E := grd_some E
          obtain ⟨g22, E⟩ := E
          refine r_iaload dX11_comesBefore_49 g21 g22 ?_
          refine q_aload_n dX11_comesBefore_50 rfl ?_
          refine r_getR dX11_comesBefore_51 FX11_88 g19 ea20 ?_
          refine q_iload_n dX11_comesBefore_54 rfl ?_
          replace E := grd_some E
          obtain ⟨g24, E⟩ := E
          refine r_iaload dX11_comesBefore_55 g21 g24 ?_
          refine q_icmp_eq (tgt := 80) dX11_comesBefore_56 (by decide) (fun z25 => ?_) (fun z25 => ?_)
          · replace E := ite_t E z25
            refine q_aload_n dX11_comesBefore_80 rfl ?_
            replace E := grd_some E
            obtain ⟨g28, E⟩ := E
            replace E := cal_some E
            obtain ⟨x27, h26, hc, E⟩ := E
            refine r_callV0 (mc := 0) (ms := 0) dX11_comesBefore_81 KX11_181 (c_X4_letters hc) g28 (by decide) (Nat.le_of_ble_eq_true rfl) (fun _ _ q => q.elim) ?_
            rintro _ _ ⟨rfl, rfl⟩
            clear hc
            refine q_aload dX11_comesBefore_84 rfl ?_
            replace E := grd_some E
            obtain ⟨g31, E⟩ := E
            replace E := cal_some E
            obtain ⟨x30, h29, hc, E⟩ := E
            refine r_callV0 (mc := 0) (ms := 0) dX11_comesBefore_86 KX11_181 (c_X4_letters hc) g31 (by decide) (Nat.le_of_ble_eq_true rfl) (fun _ _ q => q.elim) ?_
            rintro _ _ ⟨rfl, rfl⟩
            clear hc
            refine q_icmp_eq (tgt := 110) dX11_comesBefore_89 (by decide) (fun z32 => ?_) (fun z32 => ?_)
            · replace E := ite_t E z32
              refine q_iload_n dX11_comesBefore_110 rfl ?_
              refine q_iload_n dX11_comesBefore_111 rfl ?_
              refine q_icmp_ge (tgt := 119) dX11_comesBefore_112 (by decide) (fun z33 => ?_) (fun z33 => ?_)
              · replace E := ite_t E z33
                refine q_iconst dX11_comesBefore_119 ?_
                exact r_fewer [none, none, none, none, none] (ls_n (ls_n (ls_n (ls_n (ls_n ls_0))))) (s_X11_comesBefore_120 (Int32.ofInt 0) h29 E hK)
              · replace E := ite_f E z33
                refine q_iconst dX11_comesBefore_115 ?_
                refine q_goto (tgt := 120) dX11_comesBefore_116 (by decide) ?_
                exact r_fewer [none, none, none, none, none] (ls_n (ls_n (ls_n (ls_n (ls_n ls_0))))) (s_X11_comesBefore_120 (Int32.ofInt 1) h29 E hK)
            · replace E := ite_f E z32
              refine q_aload_n dX11_comesBefore_92 rfl ?_
              replace E := grd_some E
              obtain ⟨g36, E⟩ := E
              replace E := cal_some E
              obtain ⟨x35, h34, hc, E⟩ := E
              refine r_callV0 (mc := 0) (ms := 0) dX11_comesBefore_93 KX11_181 (c_X4_letters hc) g36 (by decide) (Nat.le_of_ble_eq_true rfl) (fun _ _ q => q.elim) ?_
              rintro _ _ ⟨rfl, rfl⟩
              clear hc
              refine q_aload dX11_comesBefore_96 rfl ?_
              replace E := grd_some E
              obtain ⟨g39, E⟩ := E
              replace E := cal_some E
              obtain ⟨x38, h37, hc, E⟩ := E
              refine r_callV0 (mc := 0) (ms := 0) dX11_comesBefore_98 KX11_181 (c_X4_letters hc) g39 (by decide) (Nat.le_of_ble_eq_true rfl) (fun _ _ q => q.elim) ?_
              rintro _ _ ⟨rfl, rfl⟩
              clear hc
              refine q_icmp_ge (tgt := 108) dX11_comesBefore_101 (by decide) (fun z40 => ?_) (fun z40 => ?_)
              · replace E := ite_t E z40
                refine q_iconst dX11_comesBefore_108 ?_
                exact r_fewer [none, none, none, none, none] (ls_n (ls_n (ls_n (ls_n (ls_n ls_0))))) (s_X11_comesBefore_109 (Int32.ofInt 0) h37 E hK)
              · replace E := ite_f E z40
                refine q_iconst dX11_comesBefore_104 ?_
                refine q_goto (tgt := 109) dX11_comesBefore_105 (by decide) ?_
                exact r_fewer [none, none, none, none, none] (ls_n (ls_n (ls_n (ls_n (ls_n ls_0))))) (s_X11_comesBefore_109 (Int32.ofInt 1) h37 E hK)
          · replace E := ite_f E z25
            refine q_aload_n dX11_comesBefore_59 rfl ?_
            refine r_getR dX11_comesBefore_60 FX11_88 g19 ea20 ?_
            refine q_iload_n dX11_comesBefore_63 rfl ?_
            refine r_iaload dX11_comesBefore_64 g21 g22 ?_
            refine q_aload_n dX11_comesBefore_65 rfl ?_
            refine r_getR dX11_comesBefore_66 FX11_88 g19 ea20 ?_
            refine q_iload_n dX11_comesBefore_69 rfl ?_
            refine r_iaload dX11_comesBefore_70 g21 g24 ?_
            refine q_icmp_ge (tgt := 78) dX11_comesBefore_71 (by decide) (fun z43 => ?_) (fun z43 => ?_)
            · replace E := ite_t E z43
              refine q_iconst dX11_comesBefore_78 ?_
              exact r_fewer [none, none, none, none, none] (ls_n (ls_n (ls_n (ls_n (ls_n ls_0))))) (s_X11_comesBefore_79 (Int32.ofInt 0) h16 E hK)
            · replace E := ite_f E z43
              refine q_iconst dX11_comesBefore_74 ?_
              refine q_goto (tgt := 79) dX11_comesBefore_75 (by decide) ?_
              exact r_fewer [none, none, none, none, none] (ls_n (ls_n (ls_n (ls_n (ls_n ls_0))))) (s_X11_comesBefore_79 (Int32.ofInt 1) h16 E hK)
        · replace E := ite_t E z18
          exact r_fewer [none, none, none, none, none] (ls_n (ls_n (ls_n (ls_n (ls_n ls_0))))) (s_X11_comesBefore_42 h16 E hK)
theorem c_X11_comesBefore {l : Launch} {G : mG} {p0 : Nat} {v1 : Int32} {v2 : Int32} {h h' : mH} {r : Int32} (E : f_X11_comesBefore p0 v1 v2 h = some (r, h')) : mMet l G m_X11_comesBefore 2 0 0 [.ref p0, .int v1, .int v2] h (fun v k => v = some (.int r) ∧ h' = k) (fun _ _ => False) :=
  mMet_of (by decide +kernel) rfl (ac_c rfl (ac_c rfl (ac_c rfl ac_0))) (Nat.le_of_ble_eq_true rfl) (s_X11_comesBefore_0 p0 v1 v2 h E (And.intro rfl rfl))
set_option maxRecDepth 100000 in
set_option maxHeartbeats 4000000 in
theorem s_X11_rankOf_22 {l : Launch} {G : mG} {Q : Option Value → mH → Prop} {X : String → mH → Prop} (p0 : Nat) (v1 : Int32) (v2 : Int32) (v3 : Int32) (h : mH) {o : ((Int32 × Int32 × mH) ⊕ (Int32 × mH))} (E : g_X11_rankOf_22 p0 v1 v2 v3 h = some o) (hK : (lpK (w_X11_rankOf_4 l G Q X p0 v1) (fiI Q)) o) : mW l G m_X11_rankOf 3 0 0 22 [some (.ref p0), some (.int v1), some (.int v2), some (.int v3)] [] h Q X := by
  unfold g_X11_rankOf_22 at E
  replace E := bnd_x E
  obtain ⟨x1, ex1, E⟩ := E
  refine r_iinc (v := x1) dX11_rankOf_22 rfl ex1 (by decide) (ls' := [some (.ref p0), some (.int v1), some (.int v2), some (.int x1)]) rfl ?_
  refine q_goto (tgt := 4) dX11_rankOf_25 (by decide) ?_
  cases E
  exact r_fewer [some (.ref p0), some (.int v1), some (.int v2), some (.int x1)] (ls_s (ls_s (ls_s (ls_s ls_0)))) hK
set_option maxRecDepth 100000 in
set_option maxHeartbeats 4000000 in
theorem sb_X11_rankOf_4 {l : Launch} {G : mG} {Q : Option Value → mH → Prop} {X : String → mH → Prop} (p0 : Nat) (v1 : Int32) (v2 : Int32) (v3 : Int32) (h : mH) {o : ((Int32 × Int32 × mH) ⊕ (Int32 × mH))} (E : b0_X11_rankOf_4 p0 v1 v2 v3 h = some o) (hK : (lpK (w_X11_rankOf_4 l G Q X p0 v1) (fiI Q)) o) : mW l G m_X11_rankOf 3 0 0 4 [some (.ref p0), some (.int v1), some (.int v2), some (.int v3)] [] h Q X := by
  unfold b0_X11_rankOf_4 at E
  refine q_iload_n dX11_rankOf_4 rfl ?_
  refine q_bipush (v := (Int32.ofInt 6)) dX11_rankOf_5 (by decide) ?_
  refine q_icmp_ge (tgt := 28) dX11_rankOf_7 (by decide) (fun z1 => ?_) (fun z1 => ?_)
  · replace E := ite_t E z1
    refine q_iload_n dX11_rankOf_28 rfl ?_
    cases E
    exact q_ireturn dX11_rankOf_29 rfl hK
  · replace E := ite_f E z1
    refine q_aload_n dX11_rankOf_10 rfl ?_
    refine q_iload_n dX11_rankOf_11 rfl ?_
    refine q_iload_n dX11_rankOf_12 rfl ?_
    replace E := grd_some E
    obtain ⟨g4, E⟩ := E
    replace E := cal_some E
    obtain ⟨x3, h2, hc, E⟩ := E
    refine r_callV2 (mc := 0) (ms := 0) dX11_rankOf_13 KX11_447 (c_X11_comesBefore hc) g4 (by decide) (Nat.le_of_ble_eq_true rfl) (fun _ _ q => q.elim) ?_
    rintro _ _ ⟨rfl, rfl⟩
    clear hc
    refine q_if_eq (tgt := 22) dX11_rankOf_16 (by decide) (fun z5 => ?_) (fun z5 => ?_)
    · replace E := ite_t E z5
      exact r_fewer [some (.ref p0), some (.int v1), some (.int v2), some (.int v3)] (ls_s (ls_s (ls_s (ls_s ls_0)))) (s_X11_rankOf_22 p0 v1 v2 v3 h2 E hK)
    · replace E := ite_f E z5
      replace E := bnd_x E
      obtain ⟨x6, ex6, E⟩ := E
      refine r_iinc (v := x6) dX11_rankOf_19 rfl ex6 (by decide) (ls' := [some (.ref p0), some (.int v1), some (.int x6), some (.int v3)]) rfl ?_
      exact r_fewer [some (.ref p0), some (.int v1), some (.int x6), some (.int v3)] (ls_s (ls_s (ls_s (ls_s ls_0)))) (s_X11_rankOf_22 p0 v1 x6 v3 h2 E hK)
theorem s_X11_rankOf_4 {l : Launch} {G : mG} {Q : Option Value → mH → Prop} {X : String → mH → Prop} (p0 : Nat) (v1 : Int32) (v2 : Int32) (v3 : Int32) (h : mH) {o : Int32 × mH} (E : g_X11_rankOf_4 p0 v1 v2 v3 h = some o) (hK : (fiI Q) o) : mW l G m_X11_rankOf 3 0 0 4 [some (.ref p0), some (.int v1), some (.int v2), some (.int v3)] [] h Q X :=
  (lp_go (w_X11_rankOf_4 l G Q X p0 v1) (fiI Q) (b_X11_rankOf_4 p0 v1) (fun s o E hK => sb_X11_rankOf_4 p0 v1 s.1 s.2.1 (s.2.2) E hK) _ _ _ E hK : w_X11_rankOf_4 l G Q X p0 v1 (v2, v3, h))
set_option maxRecDepth 100000 in
set_option maxHeartbeats 4000000 in
theorem s_X11_rankOf_0 {l : Launch} {G : mG} {Q : Option Value → mH → Prop} {X : String → mH → Prop} (p0 : Nat) (v1 : Int32) (h : mH) {o : Int32 × mH} (E : f_X11_rankOf p0 v1 h = some o) (hK : (fiI Q) o) : mW l G m_X11_rankOf 3 0 0 0 [some (.ref p0), some (.int v1), none, none] [] h Q X := by
  unfold f_X11_rankOf at E
  refine q_iconst dX11_rankOf_0 ?_
  refine r_istore_n dX11_rankOf_1 (by decide) rfl (ls' := [some (.ref p0), some (.int v1), some (.int (Int32.ofInt 0)), none]) rfl ?_
  refine q_iconst dX11_rankOf_2 ?_
  refine r_istore_n dX11_rankOf_3 (by decide) rfl (ls' := [some (.ref p0), some (.int v1), some (.int (Int32.ofInt 0)), some (.int (Int32.ofInt 0))]) rfl ?_
  exact r_fewer [some (.ref p0), some (.int v1), some (.int (Int32.ofInt 0)), some (.int (Int32.ofInt 0))] (ls_s (ls_s (ls_s (ls_s ls_0)))) (s_X11_rankOf_4 p0 v1 (Int32.ofInt 0) (Int32.ofInt 0) h E hK)
theorem c_X11_rankOf {l : Launch} {G : mG} {p0 : Nat} {v1 : Int32} {h h' : mH} {r : Int32} (E : f_X11_rankOf p0 v1 h = some (r, h')) : mMet l G m_X11_rankOf 3 0 0 [.ref p0, .int v1] h (fun v k => v = some (.int r) ∧ h' = k) (fun _ _ => False) :=
  mMet_of (by decide +kernel) rfl (ac_c rfl (ac_c rfl ac_0)) (Nat.le_of_ble_eq_true rfl) (s_X11_rankOf_0 p0 v1 h E (And.intro rfl rfl))
set_option maxRecDepth 100000 in
set_option maxHeartbeats 4000000 in
theorem s_X11_slotByStates_35 {l : Launch} {G : mG} {Q : Option Value → mH → Prop} {X : String → mH → Prop} (p0 : Nat) (v1 : Int32) (v2 : Int32) (s0 : Int32) (s1 : Int32) (sp2 : Nat) (h : mH) {o : ((Int32 × mH) ⊕ (Int32 ⊕ String) × mH)} (E : g_X11_slotByStates_35 p0 v1 v2 s0 s1 sp2 h = some o) (hK : (lpK (w_X11_slotByStates_2 l G Q X p0 v1) (fiIX Q X)) o) : mW l G m_X11_slotByStates 5 1 6 35 [some (.ref p0), some (.int v1), some (.int v2), none] [.int s0, .int s1, .ref sp2] h Q X := by
  unfold g_X11_slotByStates_35 at E
  replace E := grd_some E
  obtain ⟨g2, E⟩ := E
  replace E := grd_some E
  obtain ⟨g3, E⟩ := E
  replace E := bnd_x E
  obtain ⟨h1, eh1, E⟩ := E
  refine r_iastore (hh := eh1) dX11_slotByStates_35 g2 g3 ?_
  replace E := bnd_x E
  obtain ⟨x4, ex4, E⟩ := E
  refine r_iinc (v := x4) dX11_slotByStates_36 rfl ex4 (by decide) (ls' := [some (.ref p0), some (.int v1), some (.int x4), none]) rfl ?_
  refine q_goto (tgt := 2) dX11_slotByStates_39 (by decide) ?_
  cases E
  exact r_fewer [some (.ref p0), some (.int v1), some (.int x4), none] (ls_s (ls_s (ls_s (ls_n ls_0)))) hK
set_option maxRecDepth 100000 in
set_option maxHeartbeats 4000000 in
theorem s_X11_slotByStates_72 {l : Launch} {G : mG} {Q : Option Value → mH → Prop} {X : String → mH → Prop} (p0 : Nat) (v1 : Int32) (v2 : Int32) (h : mH) {o : ((Int32 × mH) ⊕ (Int32 ⊕ String) × mH)} (E : g_X11_slotByStates_72 p0 v1 v2 h = some o) (hK : (lpK (w_X11_slotByStates_44 l G Q X p0 v1) (fiIX Q X)) o) : mW l G m_X11_slotByStates 5 1 6 72 [some (.ref p0), some (.int v1), some (.int v2), none] [] h Q X := by
  unfold g_X11_slotByStates_72 at E
  replace E := bnd_x E
  obtain ⟨x1, ex1, E⟩ := E
  refine r_iinc (v := x1) dX11_slotByStates_72 rfl ex1 (by decide) (ls' := [some (.ref p0), some (.int v1), some (.int x1), none]) rfl ?_
  refine q_goto (tgt := 44) dX11_slotByStates_75 (by decide) ?_
  cases E
  exact r_fewer [some (.ref p0), some (.int v1), some (.int x1), none] (ls_s (ls_s (ls_s (ls_n ls_0)))) hK
set_option maxRecDepth 100000 in
set_option maxHeartbeats 4000000 in
theorem sb_X11_slotByStates_44 {l : Launch} {G : mG} {Q : Option Value → mH → Prop} {X : String → mH → Prop} (p0 : Nat) (v1 : Int32) (v2 : Int32) (h : mH) {o : ((Int32 × mH) ⊕ (Int32 ⊕ String) × mH)} (E : b0_X11_slotByStates_44 p0 v1 v2 h = some o) (hK : (lpK (w_X11_slotByStates_44 l G Q X p0 v1) (fiIX Q X)) o) : mW l G m_X11_slotByStates 5 1 6 44 [some (.ref p0), some (.int v1), some (.int v2), none] [] h Q X := by
  unfold b0_X11_slotByStates_44 at E
  refine q_iload_n dX11_slotByStates_44 rfl ?_
  refine q_bipush (v := (Int32.ofInt 6)) dX11_slotByStates_45 (by decide) ?_
  refine q_icmp_ge (tgt := 78) dX11_slotByStates_47 (by decide) (fun z1 => ?_) (fun z1 => ?_)
  · replace E := ite_t E z1
    cases E
    exact q_throwNS (mc := 0) (ms := 0) TX11_286_290 SX11_288 dX11_slotByStates_78 dX11_slotByStates_81 dX11_slotByStates_82 dX11_slotByStates_85 dX11_slotByStates_88 rfl (Nat.le_of_ble_eq_true rfl) hK
  · replace E := ite_f E z1
    refine q_aload_n dX11_slotByStates_50 rfl ?_
    replace E := grd_some E
    obtain ⟨g2, E⟩ := E
    replace E := orf_some E
    obtain ⟨a3, ea3, E⟩ := E
    refine r_getR dX11_slotByStates_51 FX11_10 g2 ea3 ?_
    refine q_iload_n dX11_slotByStates_54 rfl ?_
    replace E := grd_some E
    obtain ⟨g6, E⟩ := E
    replace E := cal_some E
    obtain ⟨o5, h4, hc, E⟩ := E
    refine r_callV1 (mc := 1) (ms := 6) dX11_slotByStates_55 KX11_174 (c_X6_pattern hc) g6 (by decide) (Nat.le_of_ble_eq_true rfl) (fun _ _ q => q.elim) ?_
    rintro _ _ ⟨rfl, rfl⟩
    clear hc
    replace E := oif_some E
    rcases E with ⟨rfl, E⟩ | ⟨a7, rfl, E⟩
    · refine q_ifnullN (tgt := 72) dX11_slotByStates_58 (by decide) ?_
      exact r_fewer [some (.ref p0), some (.int v1), some (.int v2), none] (ls_s (ls_s (ls_s (ls_n ls_0)))) (s_X11_slotByStates_72 p0 v1 v2 h4 E hK)
    · refine q_ifnull dX11_slotByStates_58 ?_
      refine q_aload_n dX11_slotByStates_61 rfl ?_
      refine q_iload_n dX11_slotByStates_62 rfl ?_
      replace E := grd_some E
      obtain ⟨g10, E⟩ := E
      replace E := cal_some E
      obtain ⟨x9, h8, hc, E⟩ := E
      refine r_callV1 (mc := 1) (ms := 6) dX11_slotByStates_63 KX11_283 (c_X11_rankOf hc) g10 (by decide) (Nat.le_of_ble_eq_true rfl) (fun _ _ q => q.elim) ?_
      rintro _ _ ⟨rfl, rfl⟩
      clear hc
      refine q_iload_n dX11_slotByStates_66 rfl ?_
      refine q_icmp_ne (tgt := 72) dX11_slotByStates_67 (by decide) (fun z11 => ?_) (fun z11 => ?_)
      · replace E := ite_f E z11
        exact r_fewer [some (.ref p0), some (.int v1), some (.int v2), none] (ls_s (ls_s (ls_s (ls_n ls_0)))) (s_X11_slotByStates_72 p0 v1 v2 h8 E hK)
      · replace E := ite_t E z11
        refine q_iload_n dX11_slotByStates_70 rfl ?_
        cases E
        exact q_ireturn dX11_slotByStates_71 rfl hK
theorem s_X11_slotByStates_44 {l : Launch} {G : mG} {Q : Option Value → mH → Prop} {X : String → mH → Prop} (p0 : Nat) (v1 : Int32) (v2 : Int32) (h : mH) {o : (Int32 ⊕ String) × mH} (E : g_X11_slotByStates_44 p0 v1 v2 h = some o) (hK : (fiIX Q X) o) : mW l G m_X11_slotByStates 5 1 6 44 [some (.ref p0), some (.int v1), some (.int v2), none] [] h Q X :=
  (lp_go (w_X11_slotByStates_44 l G Q X p0 v1) (fiIX Q X) (b_X11_slotByStates_44 p0 v1) (fun s o E hK => sb_X11_slotByStates_44 p0 v1 s.1 (s.2) E hK) _ _ _ E hK : w_X11_slotByStates_44 l G Q X p0 v1 (v2, h))
set_option maxRecDepth 100000 in
set_option maxHeartbeats 4000000 in
theorem sb_X11_slotByStates_2 {l : Launch} {G : mG} {Q : Option Value → mH → Prop} {X : String → mH → Prop} (p0 : Nat) (v1 : Int32) (v2 : Int32) (h : mH) {o : ((Int32 × mH) ⊕ (Int32 ⊕ String) × mH)} (E : b0_X11_slotByStates_2 p0 v1 v2 h = some o) (hK : (lpK (w_X11_slotByStates_2 l G Q X p0 v1) (fiIX Q X)) o) : mW l G m_X11_slotByStates 5 1 6 2 [some (.ref p0), some (.int v1), some (.int v2), none] [] h Q X := by
  unfold b0_X11_slotByStates_2 at E
  refine q_iload_n dX11_slotByStates_2 rfl ?_
  refine q_bipush (v := (Int32.ofInt 6)) dX11_slotByStates_3 (by decide) ?_
  refine q_icmp_ge (tgt := 42) dX11_slotByStates_5 (by decide) (fun z1 => ?_) (fun z1 => ?_)
  · replace E := ite_t E z1
    refine q_iconst dX11_slotByStates_42 ?_
    refine r_istore_n dX11_slotByStates_43 (by decide) rfl (ls' := [some (.ref p0), some (.int v1), some (.int (Int32.ofInt 0)), none]) rfl ?_
    obtain ⟨o0, E0, rfl⟩ := inrO_some E
    exact r_fewer [some (.ref p0), some (.int v1), some (.int (Int32.ofInt 0)), none] (ls_s (ls_s (ls_s (ls_n ls_0)))) (s_X11_slotByStates_44 p0 v1 (Int32.ofInt 0) h E0 hK)
  · replace E := ite_f E z1
    refine q_aload_n dX11_slotByStates_8 rfl ?_
    replace E := grd_some E
    obtain ⟨g2, E⟩ := E
    replace E := orf_some E
    obtain ⟨a3, ea3, E⟩ := E
    refine r_getR dX11_slotByStates_9 FX11_10 g2 ea3 ?_
    refine q_iload_n dX11_slotByStates_12 rfl ?_
    replace E := grd_some E
    obtain ⟨g6, E⟩ := E
    replace E := cal_some E
    obtain ⟨o5, h4, hc, E⟩ := E
    refine r_callV1 (mc := 1) (ms := 6) dX11_slotByStates_13 KX11_174 (c_X6_pattern hc) g6 (by decide) (Nat.le_of_ble_eq_true rfl) (fun _ _ q => q.elim) ?_
    rintro _ _ ⟨rfl, rfl⟩
    clear hc
    refine r_astore_nO dX11_slotByStates_16 (by decide) (ls' := [some (.ref p0), some (.int v1), some (.int v2), some (va_rf o5)]) rfl ?_
    refine q_aload_n dX11_slotByStates_17 rfl ?_
    replace E := grd_some E
    obtain ⟨g7, E⟩ := E
    replace E := orf_some E
    obtain ⟨a8, ea8, E⟩ := E
    refine r_getR dX11_slotByStates_18 FX11_88 g7 ea8 ?_
    refine q_iload_n dX11_slotByStates_21 rfl ?_
    refine r_aload_nO dX11_slotByStates_22 rfl ?_
    replace E := oif_some E
    rcases E with ⟨rfl, E⟩ | ⟨a9, rfl, E⟩
    · refine q_ifnonnullN dX11_slotByStates_23 ?_
      refine q_iconst dX11_slotByStates_26 ?_
      refine q_goto (tgt := 35) dX11_slotByStates_27 (by decide) ?_
      exact r_fewer [some (.ref p0), some (.int v1), some (.int v2), none] (ls_s (ls_s (ls_s (ls_n ls_0)))) (s_X11_slotByStates_35 p0 v1 v2 (Int32.ofInt 0) v2 a8 h4 E hK)
    · refine q_ifnonnull (tgt := 30) dX11_slotByStates_23 (by decide) ?_
      refine q_aload_n dX11_slotByStates_30 rfl ?_
      refine q_aload_n dX11_slotByStates_31 rfl ?_
      replace E := cal_some E
      obtain ⟨x11, h10, hc, E⟩ := E
      refine r_callV1 (mc := 1) (ms := 6) dX11_slotByStates_32 KX11_251 (c_X11_smallestSize hc) g7 (by decide) (Nat.le_of_ble_eq_true rfl) (fun _ _ q => q.elim) ?_
      rintro _ _ ⟨rfl, rfl⟩
      clear hc
      exact r_fewer [some (.ref p0), some (.int v1), some (.int v2), none] (ls_s (ls_s (ls_s (ls_n ls_0)))) (s_X11_slotByStates_35 p0 v1 v2 x11 v2 a8 h10 E hK)
theorem s_X11_slotByStates_2 {l : Launch} {G : mG} {Q : Option Value → mH → Prop} {X : String → mH → Prop} (p0 : Nat) (v1 : Int32) (v2 : Int32) (h : mH) {o : (Int32 ⊕ String) × mH} (E : g_X11_slotByStates_2 p0 v1 v2 h = some o) (hK : (fiIX Q X) o) : mW l G m_X11_slotByStates 5 1 6 2 [some (.ref p0), some (.int v1), some (.int v2), none] [] h Q X :=
  (lp_go (w_X11_slotByStates_2 l G Q X p0 v1) (fiIX Q X) (b_X11_slotByStates_2 p0 v1) (fun s o E hK => sb_X11_slotByStates_2 p0 v1 s.1 (s.2) E hK) _ _ _ E hK : w_X11_slotByStates_2 l G Q X p0 v1 (v2, h))
set_option maxRecDepth 100000 in
set_option maxHeartbeats 4000000 in
theorem s_X11_slotByStates_0 {l : Launch} {G : mG} {Q : Option Value → mH → Prop} {X : String → mH → Prop} (p0 : Nat) (v1 : Int32) (h : mH) {o : (Int32 ⊕ String) × mH} (E : f_X11_slotByStates p0 v1 h = some o) (hK : (fiIX Q X) o) : mW l G m_X11_slotByStates 5 1 6 0 [some (.ref p0), some (.int v1), none, none] [] h Q X := by
  unfold f_X11_slotByStates at E
  refine q_iconst dX11_slotByStates_0 ?_
  refine r_istore_n dX11_slotByStates_1 (by decide) rfl (ls' := [some (.ref p0), some (.int v1), some (.int (Int32.ofInt 0)), none]) rfl ?_
  exact r_fewer [some (.ref p0), some (.int v1), some (.int (Int32.ofInt 0)), none] (ls_s (ls_s (ls_s (ls_n ls_0)))) (s_X11_slotByStates_2 p0 v1 (Int32.ofInt 0) h E hK)
theorem c_X11_slotByStates {l : Launch} {G : mG} {p0 : Nat} {v1 : Int32} {h : mH} {o : (Int32 ⊕ String) × mH} (E : f_X11_slotByStates p0 v1 h = some o) : mMet l G m_X11_slotByStates 5 1 6 [.ref p0, .int v1] h (fun v k => ∃ r, o = (.inl r, k) ∧ v = some (.int r)) (fun e k => ∃ k0, o = (.inr e, k0) ∧ ∃ n, nx k0 ≤ n ∧ k = sn k0 n) := by
  refine mMet_of (by decide +kernel) rfl (ac_c rfl (ac_c rfl ac_0)) (Nat.le_of_ble_eq_true rfl) (s_X11_slotByStates_0 p0 v1 h E ?_)
  obtain ⟨r | e, k⟩ := o
  · exact ⟨r, rfl, rfl⟩
  · exact fun n hn => ⟨k, rfl, n, hn, rfl⟩
set_option maxRecDepth 100000 in
set_option maxHeartbeats 4000000 in
theorem s_X11_wordCount_0 {l : Launch} {G : mG} {Q : Option Value → mH → Prop} {X : String → mH → Prop} (p0 : Nat) (h : mH) {o : Int32 × mH} (E : f_X11_wordCount p0 h = some o) (hK : (fiI Q) o) : mW l G m_X11_wordCount 1 0 0 0 [some (.ref p0)] [] h Q X := by
  unfold f_X11_wordCount at E
  refine q_aload_n dX11_wordCount_0 rfl ?_
  replace E := grd_some E
  obtain ⟨g1, E⟩ := E
  replace E := orf_some E
  obtain ⟨a2, ea2, E⟩ := E
  refine r_getR dX11_wordCount_1 FX11_10 g1 ea2 ?_
  replace E := grd_some E
  obtain ⟨g5, E⟩ := E
  replace E := cal_some E
  obtain ⟨x4, h3, hc, E⟩ := E
  refine r_callV0 (mc := 0) (ms := 0) dX11_wordCount_4 KX11_291 (c_X6_sampleTotal hc) g5 (by decide) (Nat.le_of_ble_eq_true rfl) (fun _ _ q => q.elim) ?_
  rintro _ _ ⟨rfl, rfl⟩
  clear hc
  cases E
  exact q_ireturn dX11_wordCount_7 rfl hK
theorem c_X11_wordCount {l : Launch} {G : mG} {p0 : Nat} {h h' : mH} {r : Int32} (E : f_X11_wordCount p0 h = some (r, h')) : mMet l G m_X11_wordCount 1 0 0 [.ref p0] h (fun v k => v = some (.int r) ∧ h' = k) (fun _ _ => False) :=
  mMet_of (by decide +kernel) rfl (ac_c rfl ac_0) (Nat.le_of_ble_eq_true rfl) (s_X11_wordCount_0 p0 h E (And.intro rfl rfl))
set_option maxRecDepth 100000 in
set_option maxHeartbeats 4000000 in
theorem s_X11_wordLength_0 {l : Launch} {G : mG} {Q : Option Value → mH → Prop} {X : String → mH → Prop} (p0 : Nat) (v1 : Int32) (h : mH) {o : (Int32 ⊕ String) × mH} (E : f_X11_wordLength p0 v1 h = some o) (hK : (fiIX Q X) o) : mW l G m_X11_wordLength 2 1 6 0 [some (.ref p0), some (.int v1)] [] h Q X := by
  unfold f_X11_wordLength at E
  refine q_aload_n dX11_wordLength_0 rfl ?_
  refine q_iload_n dX11_wordLength_1 rfl ?_
  replace E := grd_some E
  obtain ⟨g3, E⟩ := E
  replace E := calX_some E
  rcases E with ⟨o2, h1, hc, E⟩ | ⟨e, h1, hc, E⟩
  · refine r_callV1 (mc := 0) (ms := 0) dX11_wordLength_2 KX11_227 (c_X11_sampleAt hc) g3 (by decide) (Nat.le_of_ble_eq_true rfl) (fun _ _ ⟨_, q, _⟩ => by cases q) ?_
    rintro _ _ ⟨_, q, rfl⟩
    obtain ⟨e9, f9⟩ := inl_inj q; subst e9; subst f9
    clear hc q
    replace E := orf_some E
    obtain ⟨a4, rfl, E⟩ := E
    replace E := grd_some E
    obtain ⟨g7, E⟩ := E
    replace E := cal_some E
    obtain ⟨x6, h5, hc, E⟩ := E
    refine r_callV0 (mc := 0) (ms := 0) dX11_wordLength_5 KX11_294 (c_X10_size hc) g7 (by decide) (Nat.le_of_ble_eq_true rfl) (fun _ _ q => q.elim) ?_
    rintro _ _ ⟨rfl, rfl⟩
    clear hc
    cases E
    exact q_ireturn dX11_wordLength_8 rfl hK
  · cases E
    refine r_callV1 (mc := 0) (ms := 0) dX11_wordLength_2 KX11_227 (c_X11_sampleAt hc) g3 (by decide) (Nat.le_of_ble_eq_true rfl) (fun _ _ ⟨_, q, n, hn, hk⟩ => by cases q; subst hk; exact hK n hn) ?_
    rintro _ _ ⟨_, q, _⟩
    cases q
theorem c_X11_wordLength {l : Launch} {G : mG} {p0 : Nat} {v1 : Int32} {h : mH} {o : (Int32 ⊕ String) × mH} (E : f_X11_wordLength p0 v1 h = some o) : mMet l G m_X11_wordLength 2 1 6 [.ref p0, .int v1] h (fun v k => ∃ r, o = (.inl r, k) ∧ v = some (.int r)) (fun e k => ∃ k0, o = (.inr e, k0) ∧ ∃ n, nx k0 ≤ n ∧ k = sn k0 n) := by
  refine mMet_of (by decide +kernel) rfl (ac_c rfl (ac_c rfl ac_0)) (Nat.le_of_ble_eq_true rfl) (s_X11_wordLength_0 p0 v1 h E ?_)
  obtain ⟨r | e, k⟩ := o
  · exact ⟨r, rfl, rfl⟩
  · exact fun n hn => ⟨k, rfl, n, hn, rfl⟩
set_option maxRecDepth 100000 in
set_option maxHeartbeats 4000000 in
theorem s_X11_wordLetter_18 {l : Launch} {G : mG} {Q : Option Value → mH → Prop} {X : String → mH → Prop} (h : mH) {o : (Int32 ⊕ String) × mH} (E : g_X11_wordLetter_18  h = some o) (hK : (fiIX Q X) o) : mW l G m_X11_wordLetter 2 1 6 18 [none, none, none, none] [] h Q X := by
  unfold g_X11_wordLetter_18 at E
  cases E
  exact q_throwSW (mc := 0) (ms := 0) TX11_107_111 SX11_297 dX11_wordLetter_18 dX11_wordLetter_21 dX11_wordLetter_22 dX11_wordLetter_25 dX11_wordLetter_28 rfl (Nat.le_of_ble_eq_true rfl) hK
set_option maxRecDepth 100000 in
set_option maxHeartbeats 4000000 in
theorem s_X11_wordLetter_0 {l : Launch} {G : mG} {Q : Option Value → mH → Prop} {X : String → mH → Prop} (p0 : Nat) (v1 : Int32) (v2 : Int32) (h : mH) {o : (Int32 ⊕ String) × mH} (E : f_X11_wordLetter p0 v1 v2 h = some o) (hK : (fiIX Q X) o) : mW l G m_X11_wordLetter 2 2 12 0 [some (.ref p0), some (.int v1), some (.int v2), none] [] h Q X := by
  unfold f_X11_wordLetter at E
  refine q_aload_n dX11_wordLetter_0 rfl ?_
  refine q_iload_n dX11_wordLetter_1 rfl ?_
  replace E := grd_some E
  obtain ⟨g3, E⟩ := E
  replace E := calX_some E
  rcases E with ⟨o2, h1, hc, E⟩ | ⟨e, h1, hc, E⟩
  · refine r_callV1 (mc := 1) (ms := 6) dX11_wordLetter_2 KX11_227 (c_X11_sampleAt hc) g3 (by decide) (Nat.le_of_ble_eq_true rfl) (fun _ _ ⟨_, q, _⟩ => by cases q) ?_
    rintro _ _ ⟨_, q, rfl⟩
    obtain ⟨e9, f9⟩ := inl_inj q; subst e9; subst f9
    clear hc q
    refine r_astore_nO dX11_wordLetter_5 (by decide) (ls' := [some (.ref p0), some (.int v1), some (.int v2), some (va_rf o2)]) rfl ?_
    refine q_iload_n dX11_wordLetter_6 rfl ?_
    refine q_if_lt (tgt := 18) dX11_wordLetter_7 (by decide) (fun z4 => ?_) (fun z4 => ?_)
    · replace E := ite_t E z4
      exact r_fewer [none, none, none, none] (ls_n (ls_n (ls_n (ls_n ls_0)))) (s_X11_wordLetter_18 h1 E hK)
    · replace E := ite_f E z4
      refine q_iload_n dX11_wordLetter_10 rfl ?_
      refine r_aload_nO dX11_wordLetter_11 rfl ?_
      replace E := orf_some E
      obtain ⟨a5, rfl, E⟩ := E
      replace E := grd_some E
      obtain ⟨g8, E⟩ := E
      replace E := cal_some E
      obtain ⟨x7, h6, hc, E⟩ := E
      refine r_callV0 (mc := 1) (ms := 6) dX11_wordLetter_12 KX11_294 (c_X10_size hc) g8 (by decide) (Nat.le_of_ble_eq_true rfl) (fun _ _ q => q.elim) ?_
      rintro _ _ ⟨rfl, rfl⟩
      clear hc
      refine q_icmp_lt (tgt := 29) dX11_wordLetter_15 (by decide) (fun z9 => ?_) (fun z9 => ?_)
      · replace E := ite_t E z9
        refine q_bipush (v := (Int32.ofInt 97)) dX11_wordLetter_29 (by decide) ?_
        refine q_aload_n dX11_wordLetter_31 rfl ?_
        refine q_iload_n dX11_wordLetter_32 rfl ?_
        replace E := grd_some E
        obtain ⟨g12, E⟩ := E
        refine q_room (d' := 2) (mc' := 0) (ms' := 0) (Nat.le_refl _) (Nat.le_of_ble_eq_true rfl) (Nat.le_of_ble_eq_true rfl) ?_
        replace E := cal_some E
        obtain ⟨x11, h10, hc, E⟩ := E
        refine r_callV1 (mc := 0) (ms := 0) dX11_wordLetter_33 KX11_299 (c_X10_letter hc) g12 (by decide) (Nat.le_of_ble_eq_true rfl) (fun _ _ q => q.elim) ?_
        rintro _ _ ⟨rfl, rfl⟩
        clear hc
        refine q_iadd dX11_wordLetter_36 ?_
        refine q_i2c dX11_wordLetter_37 ?_
        replace E := grd_some E
        obtain ⟨g13, E⟩ := E
        cases E
        exact q_zreturn dX11_wordLetter_38 rfl (narC g13) hK
      · replace E := ite_f E z9
        exact r_fewer [none, none, none, none] (ls_n (ls_n (ls_n (ls_n ls_0)))) (s_X11_wordLetter_18 h6 E hK)
  · cases E
    refine r_callV1 (mc := 1) (ms := 6) dX11_wordLetter_2 KX11_227 (c_X11_sampleAt hc) g3 (by decide) (Nat.le_of_ble_eq_true rfl) (fun _ _ ⟨_, q, n, hn, hk⟩ => by cases q; subst hk; exact hK n hn) ?_
    rintro _ _ ⟨_, q, _⟩
    cases q
theorem c_X11_wordLetter {l : Launch} {G : mG} {p0 : Nat} {v1 : Int32} {v2 : Int32} {h : mH} {o : (Int32 ⊕ String) × mH} (E : f_X11_wordLetter p0 v1 v2 h = some o) : mMet l G m_X11_wordLetter 2 2 12 [.ref p0, .int v1, .int v2] h (fun v k => ∃ r, o = (.inl r, k) ∧ v = some (.int r)) (fun e k => ∃ k0, o = (.inr e, k0) ∧ ∃ n, nx k0 ≤ n ∧ k = sn k0 n) := by
  refine mMet_of (by decide +kernel) rfl (ac_c rfl (ac_c rfl (ac_c rfl ac_0))) (Nat.le_of_ble_eq_true rfl) (s_X11_wordLetter_0 p0 v1 v2 h E ?_)
  obtain ⟨r | e, k⟩ := o
  · exact ⟨r, rfl, rfl⟩
  · exact fun n hn => ⟨k, rfl, n, hn, rfl⟩
set_option maxRecDepth 100000 in
set_option maxHeartbeats 4000000 in
theorem s_X11_definedTotal_0 {l : Launch} {G : mG} {Q : Option Value → mH → Prop} {X : String → mH → Prop} (p0 : Nat) (h : mH) {o : Int32 × mH} (E : f_X11_definedTotal p0 h = some o) (hK : (fiI Q) o) : mW l G m_X11_definedTotal 1 0 0 0 [some (.ref p0)] [] h Q X := by
  unfold f_X11_definedTotal at E
  refine q_aload_n dX11_definedTotal_0 rfl ?_
  replace E := grd_some E
  obtain ⟨g1, E⟩ := E
  replace E := orf_some E
  obtain ⟨a2, ea2, E⟩ := E
  refine r_getR dX11_definedTotal_1 FX11_10 g1 ea2 ?_
  replace E := grd_some E
  obtain ⟨g5, E⟩ := E
  replace E := cal_some E
  obtain ⟨x4, h3, hc, E⟩ := E
  refine r_callV0 (mc := 0) (ms := 0) dX11_definedTotal_4 KX11_302 (c_X6_putTotal hc) g5 (by decide) (Nat.le_of_ble_eq_true rfl) (fun _ _ q => q.elim) ?_
  rintro _ _ ⟨rfl, rfl⟩
  clear hc
  cases E
  exact q_ireturn dX11_definedTotal_7 rfl hK
theorem c_X11_definedTotal {l : Launch} {G : mG} {p0 : Nat} {h h' : mH} {r : Int32} (E : f_X11_definedTotal p0 h = some (r, h')) : mMet l G m_X11_definedTotal 1 0 0 [.ref p0] h (fun v k => v = some (.int r) ∧ h' = k) (fun _ _ => False) :=
  mMet_of (by decide +kernel) rfl (ac_c rfl ac_0) (Nat.le_of_ble_eq_true rfl) (s_X11_definedTotal_0 p0 h E (And.intro rfl rfl))
set_option maxRecDepth 100000 in
set_option maxHeartbeats 4000000 in
theorem s_X11_meanLetters_0 {l : Launch} {G : mG} {Q : Option Value → mH → Prop} {X : String → mH → Prop} (p0 : Nat) (h : mH) {o : (UInt64 ⊕ String) × mH} (E : f_X11_meanLetters p0 h = some o) (hK : (fiDX Q X) o) : mW l G m_X11_meanLetters 2 1 6 0 [some (.ref p0), none] [] h Q X := by
  unfold f_X11_meanLetters at E
  refine q_aload_n dX11_meanLetters_0 rfl ?_
  replace E := grd_some E
  obtain ⟨g1, E⟩ := E
  replace E := orf_some E
  obtain ⟨a2, ea2, E⟩ := E
  refine r_getR dX11_meanLetters_1 FX11_10 g1 ea2 ?_
  replace E := grd_some E
  obtain ⟨g5, E⟩ := E
  replace E := cal_some E
  obtain ⟨x4, h3, hc, E⟩ := E
  refine r_callV0 (mc := 1) (ms := 6) dX11_meanLetters_4 KX11_171 (c_X6_patternTotal hc) g5 (by decide) (Nat.le_of_ble_eq_true rfl) (fun _ _ q => q.elim) ?_
  rintro _ _ ⟨rfl, rfl⟩
  clear hc
  refine r_istore_n dX11_meanLetters_7 (by decide) rfl (ls' := [some (.ref p0), some (.int x4)]) rfl ?_
  refine q_iload_n dX11_meanLetters_8 rfl ?_
  refine q_if_ne (tgt := 23) dX11_meanLetters_9 (by decide) (fun z6 => ?_) (fun z6 => ?_)
  · replace E := ite_f E z6
    refine q_aload_n dX11_meanLetters_23 rfl ?_
    replace E := grd_some E
    obtain ⟨g7, E⟩ := E
    replace E := orf_some E
    obtain ⟨a8, ea8, E⟩ := E
    refine r_getR dX11_meanLetters_24 FX11_10 g7 ea8 ?_
    replace E := grd_some E
    obtain ⟨g11, E⟩ := E
    refine q_room (d' := 2) (mc' := 0) (ms' := 0) (Nat.le_refl _) (Nat.le_of_ble_eq_true rfl) (Nat.le_of_ble_eq_true rfl) ?_
    replace E := cal_some E
    obtain ⟨x10, h9, hc, E⟩ := E
    refine r_callV0 (mc := 0) (ms := 0) dX11_meanLetters_27 KX11_310 (c_X6_letterSum hc) g11 (by decide) (Nat.le_of_ble_eq_true rfl) (fun _ _ q => q.elim) ?_
    rintro _ _ ⟨rfl, rfl⟩
    clear hc
    refine q_i2d dX11_meanLetters_30 ?_
    refine q_iload_n dX11_meanLetters_31 rfl ?_
    refine q_i2d dX11_meanLetters_32 ?_
    replace E := grd_some E
    obtain ⟨g12, E⟩ := E
    refine q_ddiv g12 dX11_meanLetters_33 ?_
    cases E
    exact q_dreturn dX11_meanLetters_34 rfl hK
  · replace E := ite_t E z6
    cases E
    exact q_throwSW (mc := 0) (ms := 0) TX11_305_309 SX11_307 dX11_meanLetters_12 dX11_meanLetters_15 dX11_meanLetters_16 dX11_meanLetters_19 dX11_meanLetters_22 rfl (Nat.le_of_ble_eq_true rfl) hK
theorem c_X11_meanLetters {l : Launch} {G : mG} {p0 : Nat} {h : mH} {o : (UInt64 ⊕ String) × mH} (E : f_X11_meanLetters p0 h = some o) : mMet l G m_X11_meanLetters 2 1 6 [.ref p0] h (fun v k => ∃ r, o = (.inl r, k) ∧ v = some (.double r)) (fun e k => ∃ k0, o = (.inr e, k0) ∧ ∃ n, nx k0 ≤ n ∧ k = sn k0 n) := by
  refine mMet_of (by decide +kernel) rfl (ac_c rfl ac_0) (Nat.le_of_ble_eq_true rfl) (s_X11_meanLetters_0 p0 h E ?_)
  obtain ⟨r | e, k⟩ := o
  · exact ⟨r, rfl, rfl⟩
  · exact fun n hn => ⟨k, rfl, n, hn, rfl⟩
set_option maxRecDepth 100000 in
set_option maxHeartbeats 4000000 in
theorem s_X11_acceptedShare_0 {l : Launch} {G : mG} {Q : Option Value → mH → Prop} {X : String → mH → Prop} (p0 : Nat) (v1 : Int32) (h : mH) {o : (UInt32 ⊕ String) × mH} (E : f_X11_acceptedShare p0 v1 h = some o) (hK : (fiFX Q X) o) : mW l G m_X11_acceptedShare 4 2 12 0 [some (.ref p0), some (.int v1), none, none] [] h Q X := by
  unfold f_X11_acceptedShare at E
  refine q_aload_n dX11_acceptedShare_0 rfl ?_
  refine q_iload_n dX11_acceptedShare_1 rfl ?_
  replace E := grd_some E
  obtain ⟨g3, E⟩ := E
  replace E := calX_some E
  rcases E with ⟨o2, h1, hc, E⟩ | ⟨e, h1, hc, E⟩
  · refine r_callV1 (mc := 1) (ms := 6) dX11_acceptedShare_2 KX11_178 (c_X11_patternIn hc) g3 (by decide) (Nat.le_of_ble_eq_true rfl) (fun _ _ ⟨_, q, _⟩ => by cases q) ?_
    rintro _ _ ⟨_, q, rfl⟩
    obtain ⟨e9, f9⟩ := inl_inj q; subst e9; subst f9
    clear hc q
    refine r_astore_nO dX11_acceptedShare_5 (by decide) (ls' := [some (.ref p0), some (.int v1), some (va_rf o2), none]) rfl ?_
    refine q_aload_n dX11_acceptedShare_6 rfl ?_
    replace E := grd_some E
    obtain ⟨g4, E⟩ := E
    replace E := orf_some E
    obtain ⟨a5, ea5, E⟩ := E
    refine r_getR dX11_acceptedShare_7 FX11_10 g4 ea5 ?_
    replace E := grd_some E
    obtain ⟨g8, E⟩ := E
    replace E := cal_some E
    obtain ⟨x7, h6, hc, E⟩ := E
    refine r_callV0 (mc := 1) (ms := 6) dX11_acceptedShare_10 KX11_291 (c_X6_sampleTotal hc) g8 (by decide) (Nat.le_of_ble_eq_true rfl) (fun _ _ q => q.elim) ?_
    rintro _ _ ⟨rfl, rfl⟩
    clear hc
    refine r_istore_n dX11_acceptedShare_13 (by decide) rfl (ls' := [some (.ref p0), some (.int v1), some (va_rf o2), some (.int x7)]) rfl ?_
    refine q_iload_n dX11_acceptedShare_14 rfl ?_
    refine q_if_ne (tgt := 29) dX11_acceptedShare_15 (by decide) (fun z9 => ?_) (fun z9 => ?_)
    · replace E := ite_f E z9
      refine q_aload_n dX11_acceptedShare_29 rfl ?_
      replace E := grd_some E
      obtain ⟨g10, E⟩ := E
      replace E := orf_some E
      obtain ⟨a11, ea11, E⟩ := E
      refine r_getR dX11_acceptedShare_30 FX11_57 g10 ea11 ?_
      refine r_aload_nO dX11_acceptedShare_33 rfl ?_
      replace E := orf_some E
      obtain ⟨a12, rfl, E⟩ := E
      replace E := grd_some E
      obtain ⟨g15, E⟩ := E
      refine q_room (d' := 4) (mc' := 0) (ms' := 0) (Nat.le_refl _) (Nat.le_of_ble_eq_true rfl) (Nat.le_of_ble_eq_true rfl) ?_
      replace E := cal_some E
      obtain ⟨_, h13, hc, E⟩ := E
      refine r_callV1 (mc := 0) (ms := 0) dX11_acceptedShare_34 KX11_213 (c_X0_build hc) g15 (by decide) (Nat.le_of_ble_eq_true rfl) (fun _ _ q => q.elim) ?_
      rintro _ _ ⟨rfl, rfl⟩
      clear hc
      refine q_aload_n dX11_acceptedShare_37 rfl ?_
      replace E := grd_some E
      obtain ⟨g18, E⟩ := E
      replace E := cal_some E
      obtain ⟨x17, h16, hc, E⟩ := E
      refine r_callV0 (mc := 0) (ms := 0) dX11_acceptedShare_38 KX11_231 (c_X11_acceptedSamples hc) g18 (by decide) (Nat.le_of_ble_eq_true rfl) (fun _ _ q => q.elim) ?_
      rintro _ _ ⟨rfl, rfl⟩
      clear hc
      refine q_i2f dX11_acceptedShare_41 ?_
      refine q_iload_n dX11_acceptedShare_42 rfl ?_
      refine q_i2f dX11_acceptedShare_43 ?_
      replace E := grd_some E
      obtain ⟨g19, E⟩ := E
      refine q_fdiv g19 dX11_acceptedShare_44 ?_
      cases E
      exact q_freturn dX11_acceptedShare_45 rfl hK
    · replace E := ite_t E z9
      cases E
      exact q_throwSW (mc := 0) (ms := 0) TX11_305_309 SX11_313 dX11_acceptedShare_18 dX11_acceptedShare_21 dX11_acceptedShare_22 dX11_acceptedShare_25 dX11_acceptedShare_28 rfl (Nat.le_of_ble_eq_true rfl) hK
  · cases E
    refine r_callV1 (mc := 1) (ms := 6) dX11_acceptedShare_2 KX11_178 (c_X11_patternIn hc) g3 (by decide) (Nat.le_of_ble_eq_true rfl) (fun _ _ ⟨_, q, n, hn, hk⟩ => by cases q; subst hk; exact hK n hn) ?_
    rintro _ _ ⟨_, q, _⟩
    cases q
theorem c_X11_acceptedShare {l : Launch} {G : mG} {p0 : Nat} {v1 : Int32} {h : mH} {o : (UInt32 ⊕ String) × mH} (E : f_X11_acceptedShare p0 v1 h = some o) : mMet l G m_X11_acceptedShare 4 2 12 [.ref p0, .int v1] h (fun v k => ∃ r, o = (.inl r, k) ∧ v = some (.float r)) (fun e k => ∃ k0, o = (.inr e, k0) ∧ ∃ n, nx k0 ≤ n ∧ k = sn k0 n) := by
  refine mMet_of (by decide +kernel) rfl (ac_c rfl (ac_c rfl ac_0)) (Nat.le_of_ble_eq_true rfl) (s_X11_acceptedShare_0 p0 v1 h E ?_)
  obtain ⟨r | e, k⟩ := o
  · exact ⟨r, rfl, rfl⟩
  · exact fun n hn => ⟨k, rfl, n, hn, rfl⟩
set_option maxRecDepth 100000 in
set_option maxHeartbeats 4000000 in
theorem sb_X11_agreesAlone_65 {l : Launch} {G : mG} {Q : Option Value → mH → Prop} {X : String → mH → Prop} (p0 : Nat) (p1 : Nat) (v2 : Int32) (h : mH) {o : ((Int32 × mH) ⊕ (Int32 × mH))} (E : b0_X11_agreesAlone_65 p0 p1 v2 h = some o) (hK : (lpK (w_X11_agreesAlone_65 l G Q X p0 p1) (fiI Q)) o) : mW l G m_X11_agreesAlone 4 0 0 65 [some (.ref p0), some (.ref p1), some (.int v2), none] [] h Q X := by
  unfold b0_X11_agreesAlone_65 at E
  refine q_iload_n dX11_agreesAlone_65 rfl ?_
  refine q_aload_n dX11_agreesAlone_66 rfl ?_
  replace E := grd_some E
  obtain ⟨g1, E⟩ := E
  replace E := orf_some E
  obtain ⟨a2, ea2, E⟩ := E
  refine r_getR dX11_agreesAlone_67 FX11_10 g1 ea2 ?_
  replace E := grd_some E
  obtain ⟨g5, E⟩ := E
  replace E := cal_some E
  obtain ⟨x4, h3, hc, E⟩ := E
  refine r_callV0 (mc := 0) (ms := 0) dX11_agreesAlone_70 KX11_291 (c_X6_sampleTotal hc) g5 (by decide) (Nat.le_of_ble_eq_true rfl) (fun _ _ q => q.elim) ?_
  rintro _ _ ⟨rfl, rfl⟩
  clear hc
  refine q_icmp_ge (tgt := 113) dX11_agreesAlone_73 (by decide) (fun z6 => ?_) (fun z6 => ?_)
  · replace E := ite_t E z6
    refine q_iconst dX11_agreesAlone_113 ?_
    cases E
    exact q_zreturn dX11_agreesAlone_114 rfl (by decide) hK
  · replace E := ite_f E z6
    refine q_aload_n dX11_agreesAlone_76 rfl ?_
    replace E := grd_some E
    obtain ⟨g7, E⟩ := E
    replace E := orf_some E
    obtain ⟨a8, ea8, E⟩ := E
    refine r_getR dX11_agreesAlone_77 FX11_10 g7 ea8 ?_
    refine q_iload_n dX11_agreesAlone_80 rfl ?_
    replace E := grd_some E
    obtain ⟨g11, E⟩ := E
    replace E := cal_some E
    obtain ⟨o10, h9, hc, E⟩ := E
    refine r_callV1 (mc := 0) (ms := 0) dX11_agreesAlone_81 KX11_400 (c_X6_sample hc) g11 (by decide) (Nat.le_of_ble_eq_true rfl) (fun _ _ q => q.elim) ?_
    rintro _ _ ⟨rfl, rfl⟩
    clear hc
    refine r_astore_nO dX11_agreesAlone_84 (by decide) (ls' := [some (.ref p0), some (.ref p1), some (.int v2), some (va_rf o10)]) rfl ?_
    refine q_aload_n dX11_agreesAlone_85 rfl ?_
    replace E := grd_some E
    obtain ⟨g12, E⟩ := E
    replace E := orf_some E
    obtain ⟨a13, ea13, E⟩ := E
    refine r_getR dX11_agreesAlone_86 FX11_57 g12 ea13 ?_
    refine r_aload_nO dX11_agreesAlone_89 rfl ?_
    replace E := grd_some E
    obtain ⟨g16, E⟩ := E
    replace E := cal_some E
    obtain ⟨x15, h14, hc, E⟩ := E
    refine r_callV1 (mc := 0) (ms := 0) dX11_agreesAlone_90 KX11_216 (c_X0_accepts hc) g16 (by decide) (Nat.le_of_ble_eq_true rfl) (fun _ _ q => q.elim) ?_
    rintro _ _ ⟨rfl, rfl⟩
    clear hc
    refine q_aload_n dX11_agreesAlone_93 rfl ?_
    replace E := grd_some E
    obtain ⟨g17, E⟩ := E
    replace E := orf_some E
    obtain ⟨a18, ea18, E⟩ := E
    refine r_getR dX11_agreesAlone_94 FX11_84 g17 ea18 ?_
    refine q_aload_n dX11_agreesAlone_97 rfl ?_
    refine r_aload_nO dX11_agreesAlone_98 rfl ?_
    replace E := grd_some E
    obtain ⟨g21, E⟩ := E
    replace E := cal_some E
    obtain ⟨x20, h19, hc, E⟩ := E
    refine r_callV2 (mc := 0) (ms := 0) dX11_agreesAlone_99 KX11_220 (c_X8_accept hc) g21 (by decide) (Nat.le_of_ble_eq_true rfl) (fun _ _ q => q.elim) ?_
    rintro _ _ ⟨rfl, rfl⟩
    clear hc
    refine q_icmp_eq (tgt := 107) dX11_agreesAlone_102 (by decide) (fun z22 => ?_) (fun z22 => ?_)
    · replace E := ite_t E z22
      replace E := bnd_x E
      obtain ⟨x23, ex23, E⟩ := E
      refine r_iinc (v := x23) dX11_agreesAlone_107 rfl ex23 (by decide) (ls' := [some (.ref p0), some (.ref p1), some (.int x23), some (va_rf o10)]) rfl ?_
      refine q_goto (tgt := 65) dX11_agreesAlone_110 (by decide) ?_
      cases E
      exact r_fewer [some (.ref p0), some (.ref p1), some (.int x23), none] (ls_s (ls_s (ls_s (ls_n ls_0)))) hK
    · replace E := ite_f E z22
      refine q_iconst dX11_agreesAlone_105 ?_
      cases E
      exact q_zreturn dX11_agreesAlone_106 rfl (by decide) hK
theorem s_X11_agreesAlone_65 {l : Launch} {G : mG} {Q : Option Value → mH → Prop} {X : String → mH → Prop} (p0 : Nat) (p1 : Nat) (v2 : Int32) (h : mH) {o : Int32 × mH} (E : g_X11_agreesAlone_65 p0 p1 v2 h = some o) (hK : (fiI Q) o) : mW l G m_X11_agreesAlone 4 0 0 65 [some (.ref p0), some (.ref p1), some (.int v2), none] [] h Q X :=
  (lp_go (w_X11_agreesAlone_65 l G Q X p0 p1) (fiI Q) (b_X11_agreesAlone_65 p0 p1) (fun s o E hK => sb_X11_agreesAlone_65 p0 p1 s.1 (s.2) E hK) _ _ _ E hK : w_X11_agreesAlone_65 l G Q X p0 p1 (v2, h))
set_option maxRecDepth 100000 in
set_option maxHeartbeats 4000000 in
theorem s_X11_agreesAlone_0 {l : Launch} {G : mG} {Q : Option Value → mH → Prop} {X : String → mH → Prop} (p0 : Nat) (p1 : Nat) (h : mH) {o : Int32 × mH} (E : f_X11_agreesAlone p0 p1 h = some o) (hK : (fiI Q) o) : mW l G m_X11_agreesAlone 4 0 0 0 [some (.ref p0), some (.ref p1), none, none] [] h Q X := by
  unfold f_X11_agreesAlone at E
  refine q_aload_n dX11_agreesAlone_0 rfl ?_
  replace E := grd_some E
  obtain ⟨g1, E⟩ := E
  replace E := orf_some E
  obtain ⟨a2, ea2, E⟩ := E
  refine r_getR dX11_agreesAlone_1 FX11_57 g1 ea2 ?_
  refine q_aload_n dX11_agreesAlone_4 rfl ?_
  replace E := grd_some E
  obtain ⟨g5, E⟩ := E
  replace E := cal_some E
  obtain ⟨_, h3, hc, E⟩ := E
  refine r_callV1 (mc := 0) (ms := 0) dX11_agreesAlone_5 KX11_213 (c_X0_build hc) g5 (by decide) (Nat.le_of_ble_eq_true rfl) (fun _ _ q => q.elim) ?_
  rintro _ _ ⟨rfl, rfl⟩
  clear hc
  refine q_aload_n dX11_agreesAlone_8 rfl ?_
  replace E := grd_some E
  obtain ⟨g6, E⟩ := E
  replace E := orf_some E
  obtain ⟨a7, ea7, E⟩ := E
  refine r_getR dX11_agreesAlone_9 FX11_67 g6 ea7 ?_
  refine q_aload_n dX11_agreesAlone_12 rfl ?_
  replace E := orf_some E
  obtain ⟨a8, ea8, E⟩ := E
  refine r_getR dX11_agreesAlone_13 FX11_57 g6 ea8 ?_
  replace E := grd_some E
  obtain ⟨g11, E⟩ := E
  replace E := cal_some E
  obtain ⟨_, h9, hc, E⟩ := E
  refine r_callV1 (mc := 0) (ms := 0) dX11_agreesAlone_16 KX11_439 (c_X7_build hc) g11 (by decide) (Nat.le_of_ble_eq_true rfl) (fun _ _ q => q.elim) ?_
  rintro _ _ ⟨rfl, rfl⟩
  clear hc
  refine q_aload_n dX11_agreesAlone_19 rfl ?_
  replace E := grd_some E
  obtain ⟨g12, E⟩ := E
  replace E := orf_some E
  obtain ⟨a13, ea13, E⟩ := E
  refine r_getR dX11_agreesAlone_20 FX11_67 g12 ea13 ?_
  replace E := grd_some E
  obtain ⟨g16, E⟩ := E
  replace E := cal_some E
  obtain ⟨x15, h14, hc, E⟩ := E
  refine r_callV0 (mc := 0) (ms := 0) dX11_agreesAlone_23 KX11_442 (c_X7_size hc) g16 (by decide) (Nat.le_of_ble_eq_true rfl) (fun _ _ q => q.elim) ?_
  rintro _ _ ⟨rfl, rfl⟩
  clear hc
  refine q_aload_n dX11_agreesAlone_26 rfl ?_
  replace E := grd_some E
  obtain ⟨g17, E⟩ := E
  replace E := orf_some E
  obtain ⟨a18, ea18, E⟩ := E
  refine r_getR dX11_agreesAlone_27 FX11_77 g17 ea18 ?_
  refine q_aload_n dX11_agreesAlone_30 rfl ?_
  replace E := orf_some E
  obtain ⟨a19, ea19, E⟩ := E
  refine r_getR dX11_agreesAlone_31 FX11_57 g17 ea19 ?_
  replace E := grd_some E
  obtain ⟨g22, E⟩ := E
  replace E := cal_some E
  obtain ⟨x21, h20, hc, E⟩ := E
  refine r_callV1 (mc := 0) (ms := 0) dX11_agreesAlone_34 KX11_255 (c_X3_countToldApart hc) g22 (by decide) (Nat.le_of_ble_eq_true rfl) (fun _ _ q => q.elim) ?_
  rintro _ _ ⟨rfl, rfl⟩
  clear hc
  refine q_icmp_eq (tgt := 42) dX11_agreesAlone_37 (by decide) (fun z23 => ?_) (fun z23 => ?_)
  · replace E := ite_t E z23
    refine q_aload_n dX11_agreesAlone_42 rfl ?_
    replace E := grd_some E
    obtain ⟨g24, E⟩ := E
    replace E := orf_some E
    obtain ⟨a25, ea25, E⟩ := E
    refine r_getR dX11_agreesAlone_43 FX11_57 g24 ea25 ?_
    refine q_iconst dX11_agreesAlone_46 ?_
    replace E := grd_some E
    obtain ⟨g28, E⟩ := E
    replace E := cal_some E
    obtain ⟨x27, h26, hc, E⟩ := E
    refine r_callV1 (mc := 0) (ms := 0) dX11_agreesAlone_47 KX11_238 (c_X0_countByStates hc) g28 (by decide) (Nat.le_of_ble_eq_true rfl) (fun _ _ q => q.elim) ?_
    rintro _ _ ⟨rfl, rfl⟩
    clear hc
    refine q_aload_n dX11_agreesAlone_50 rfl ?_
    replace E := grd_some E
    obtain ⟨g29, E⟩ := E
    replace E := orf_some E
    obtain ⟨a30, ea30, E⟩ := E
    refine r_getR dX11_agreesAlone_51 FX11_57 g29 ea30 ?_
    refine q_iconst dX11_agreesAlone_54 ?_
    replace E := grd_some E
    obtain ⟨g33, E⟩ := E
    replace E := cal_some E
    obtain ⟨x32, h31, hc, E⟩ := E
    refine r_callV1 (mc := 0) (ms := 0) dX11_agreesAlone_55 KX11_241 (c_X0_countByListing hc) g33 (by decide) (Nat.le_of_ble_eq_true rfl) (fun _ _ q => q.elim) ?_
    rintro _ _ ⟨rfl, rfl⟩
    clear hc
    refine q_icmp_eq (tgt := 63) dX11_agreesAlone_58 (by decide) (fun z34 => ?_) (fun z34 => ?_)
    · replace E := ite_t E z34
      refine q_iconst dX11_agreesAlone_63 ?_
      refine r_istore_n dX11_agreesAlone_64 (by decide) rfl (ls' := [some (.ref p0), some (.ref p1), some (.int (Int32.ofInt 0)), none]) rfl ?_
      exact r_fewer [some (.ref p0), some (.ref p1), some (.int (Int32.ofInt 0)), none] (ls_s (ls_s (ls_s (ls_n ls_0)))) (s_X11_agreesAlone_65 p0 p1 (Int32.ofInt 0) h31 E hK)
    · replace E := ite_f E z34
      refine q_iconst dX11_agreesAlone_61 ?_
      cases E
      exact q_zreturn dX11_agreesAlone_62 rfl (by decide) hK
  · replace E := ite_f E z23
    refine q_iconst dX11_agreesAlone_40 ?_
    cases E
    exact q_zreturn dX11_agreesAlone_41 rfl (by decide) hK
theorem c_X11_agreesAlone {l : Launch} {G : mG} {p0 : Nat} {p1 : Nat} {h h' : mH} {r : Int32} (E : f_X11_agreesAlone p0 p1 h = some (r, h')) : mMet l G m_X11_agreesAlone 4 0 0 [.ref p0, .ref p1] h (fun v k => v = some (.int r) ∧ h' = k) (fun _ _ => False) :=
  mMet_of (by decide +kernel) rfl (ac_c rfl (ac_c rfl ac_0)) (Nat.le_of_ble_eq_true rfl) (s_X11_agreesAlone_0 p0 p1 h E (And.intro rfl rfl))
