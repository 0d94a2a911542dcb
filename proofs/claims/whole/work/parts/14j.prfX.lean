set_option maxRecDepth 100000 in
set_option maxHeartbeats 4000000 in
theorem s_X11_agreesWithNext_8 {l : Launch} {G : mG} {Q : Option Value → mH → Prop} {X : String → mH → Prop} (h : mH) {o : Int32 × mH} (E : g_X11_agreesWithNext_8  h = some o) (hK : (fiI Q) o) : mW l G m_X11_agreesWithNext 6 0 0 8 [none, none, none] [] h Q X := by
  unfold g_X11_agreesWithNext_8 at E
  refine q_iconst dX11_agreesWithNext_8 ?_
  cases E
  exact q_zreturn dX11_agreesWithNext_9 rfl (by decide) hK
set_option maxRecDepth 100000 in
set_option maxHeartbeats 4000000 in
theorem s_X11_agreesWithNext_30 {l : Launch} {G : mG} {Q : Option Value → mH → Prop} {X : String → mH → Prop} (s0 : Int32) (h : mH) {o : Int32 × mH} (E : g_X11_agreesWithNext_30 s0 h = some o) (hK : (fiI Q) o) : mW l G m_X11_agreesWithNext 6 0 0 30 [none, none, none] [.int s0] h Q X := by
  unfold g_X11_agreesWithNext_30 at E
  replace E := grd_some E
  obtain ⟨g1, E⟩ := E
  cases E
  exact q_zreturn dX11_agreesWithNext_30 rfl (narZ g1) hK
set_option maxRecDepth 100000 in
set_option maxHeartbeats 4000000 in
theorem s_X11_agreesWithNext_0 {l : Launch} {G : mG} {Q : Option Value → mH → Prop} {X : String → mH → Prop} (p0 : Nat) (q1 : Option Nat) (q2 : Option Nat) (h : mH) {o : Int32 × mH} (E : f_X11_agreesWithNext p0 q1 q2 h = some o) (hK : (fiI Q) o) : mW l G m_X11_agreesWithNext 6 0 0 0 [some (.ref p0), some (va_rf q1), some (va_rf q2)] [] h Q X := by
  unfold f_X11_agreesWithNext at E
  refine r_aload_nO dX11_agreesWithNext_0 rfl ?_
  replace E := oif_some E
  rcases E with ⟨rfl, E⟩ | ⟨a1, rfl, E⟩
  · refine q_ifnullN (tgt := 8) dX11_agreesWithNext_1 (by decide) ?_
    exact r_fewer [none, none, none] (ls_n (ls_n (ls_n ls_0))) (s_X11_agreesWithNext_8 h E hK)
  · refine q_ifnull dX11_agreesWithNext_1 ?_
    refine r_aload_nO dX11_agreesWithNext_4 rfl ?_
    replace E := oif_some E
    rcases E with ⟨rfl, E⟩ | ⟨a2, rfl, E⟩
    · refine q_ifnonnullN dX11_agreesWithNext_5 ?_
      exact r_fewer [none, none, none] (ls_n (ls_n (ls_n ls_0))) (s_X11_agreesWithNext_8 h E hK)
    · refine q_ifnonnull (tgt := 10) dX11_agreesWithNext_5 (by decide) ?_
      refine q_aload_n dX11_agreesWithNext_10 rfl ?_
      refine q_aload_n dX11_agreesWithNext_11 rfl ?_
      refine q_aload_n dX11_agreesWithNext_12 rfl ?_
      replace E := grd_some E
      obtain ⟨g5, E⟩ := E
      replace E := cal_some E
      obtain ⟨x4, h3, hc, E⟩ := E
      refine r_callV2 (mc := 0) (ms := 0) dX11_agreesWithNext_13 KX11_262 (c_X11_sameByPairs hc) g5 (by decide) (Nat.le_of_ble_eq_true rfl) (fun _ _ q => q.elim) ?_
      rintro _ _ ⟨rfl, rfl⟩
      clear hc
      refine q_aload_n dX11_agreesWithNext_16 rfl ?_
      refine q_aload_n dX11_agreesWithNext_17 rfl ?_
      refine q_aload_n dX11_agreesWithNext_18 rfl ?_
      replace E := grd_some E
      obtain ⟨g8, E⟩ := E
      replace E := cal_some E
      obtain ⟨x7, h6, hc, E⟩ := E
      refine r_callV2 (mc := 0) (ms := 0) dX11_agreesWithNext_19 KX11_266 (c_X11_sameBySmallest hc) g8 (by decide) (Nat.le_of_ble_eq_true rfl) (fun _ _ q => q.elim) ?_
      rintro _ _ ⟨rfl, rfl⟩
      clear hc
      refine q_icmp_ne (tgt := 29) dX11_agreesWithNext_22 (by decide) (fun z9 => ?_) (fun z9 => ?_)
      · replace E := ite_f E z9
        refine q_iconst dX11_agreesWithNext_29 ?_
        exact r_fewer [none, none, none] (ls_n (ls_n (ls_n ls_0))) (s_X11_agreesWithNext_30 (Int32.ofInt 0) h6 E hK)
      · replace E := ite_t E z9
        refine q_iconst dX11_agreesWithNext_25 ?_
        refine q_goto (tgt := 30) dX11_agreesWithNext_26 (by decide) ?_
        exact r_fewer [none, none, none] (ls_n (ls_n (ls_n ls_0))) (s_X11_agreesWithNext_30 (Int32.ofInt 1) h6 E hK)
theorem c_X11_agreesWithNext {l : Launch} {G : mG} {p0 : Nat} {q1 : Option Nat} {q2 : Option Nat} {h h' : mH} {r : Int32} (E : f_X11_agreesWithNext p0 q1 q2 h = some (r, h')) : mMet l G m_X11_agreesWithNext 6 0 0 [.ref p0, va_rf q1, va_rf q2] h (fun v k => v = some (.int r) ∧ h' = k) (fun _ _ => False) :=
  mMet_of (by decide +kernel) rfl (ac_c rfl (ac_c (r_cat _) (ac_c (r_cat _) ac_0))) (Nat.le_of_ble_eq_true rfl) (s_X11_agreesWithNext_0 p0 q1 q2 h E (And.intro rfl rfl))
set_option maxRecDepth 100000 in
set_option maxHeartbeats 4000000 in
theorem s_X11_isConsistent_43 {l : Launch} {G : mG} {Q : Option Value → mH → Prop} {X : String → mH → Prop} (h : mH) {o : Int32 × mH} (E : g_X11_isConsistent_43  h = some o) (hK : (fiI Q) o) : mW l G m_X11_isConsistent 7 0 0 43 [none, none, none, none] [] h Q X := by
  unfold g_X11_isConsistent_43 at E
  refine q_iconst dX11_isConsistent_43 ?_
  cases E
  exact q_zreturn dX11_isConsistent_44 rfl (by decide) hK
set_option maxRecDepth 100000 in
set_option maxHeartbeats 4000000 in
theorem s_X11_isConsistent_47 {l : Launch} {G : mG} {Q : Option Value → mH → Prop} {X : String → mH → Prop} (p0 : Nat) (q1 : Option Nat) (v2 : Int32) (h : mH) {o : ((Option Nat × Int32 × mH) ⊕ (Int32 × mH))} (E : g_X11_isConsistent_47 p0 q1 v2 h = some o) (hK : (lpK (w_X11_isConsistent_4 l G Q X p0) (fiI Q)) o) : mW l G m_X11_isConsistent 7 0 0 47 [some (.ref p0), some (va_rf q1), some (.int v2), none] [] h Q X := by
  unfold g_X11_isConsistent_47 at E
  replace E := bnd_x E
  obtain ⟨x1, ex1, E⟩ := E
  refine r_iinc (v := x1) dX11_isConsistent_47 rfl ex1 (by decide) (ls' := [some (.ref p0), some (va_rf q1), some (.int x1), none]) rfl ?_
  refine q_goto (tgt := 4) dX11_isConsistent_50 (by decide) ?_
  cases E
  exact r_fewer [some (.ref p0), some (va_rf q1), some (.int x1), none] (ls_s (ls_s (ls_s (ls_n ls_0)))) hK
set_option maxRecDepth 100000 in
set_option maxHeartbeats 4000000 in
theorem sb_X11_isConsistent_4 {l : Launch} {G : mG} {Q : Option Value → mH → Prop} {X : String → mH → Prop} (p0 : Nat) (q1 : Option Nat) (v2 : Int32) (h : mH) {o : ((Option Nat × Int32 × mH) ⊕ (Int32 × mH))} (E : b0_X11_isConsistent_4 p0 q1 v2 h = some o) (hK : (lpK (w_X11_isConsistent_4 l G Q X p0) (fiI Q)) o) : mW l G m_X11_isConsistent 7 0 0 4 [some (.ref p0), some (va_rf q1), some (.int v2), none] [] h Q X := by
  unfold b0_X11_isConsistent_4 at E
  refine q_iload_n dX11_isConsistent_4 rfl ?_
  refine q_bipush (v := (Int32.ofInt 6)) dX11_isConsistent_5 (by decide) ?_
  refine q_icmp_ge (tgt := 53) dX11_isConsistent_7 (by decide) (fun z1 => ?_) (fun z1 => ?_)
  · replace E := ite_t E z1
    refine q_iconst dX11_isConsistent_53 ?_
    cases E
    exact q_zreturn dX11_isConsistent_54 rfl (by decide) hK
  · replace E := ite_f E z1
    refine q_aload_n dX11_isConsistent_10 rfl ?_
    replace E := grd_some E
    obtain ⟨g2, E⟩ := E
    replace E := orf_some E
    obtain ⟨a3, ea3, E⟩ := E
    refine r_getR dX11_isConsistent_11 FX11_10 g2 ea3 ?_
    refine q_iload_n dX11_isConsistent_14 rfl ?_
    replace E := grd_some E
    obtain ⟨g6, E⟩ := E
    replace E := cal_some E
    obtain ⟨o5, h4, hc, E⟩ := E
    refine r_callV1 (mc := 0) (ms := 0) dX11_isConsistent_15 KX11_174 (c_X6_pattern hc) g6 (by decide) (Nat.le_of_ble_eq_true rfl) (fun _ _ q => q.elim) ?_
    rintro _ _ ⟨rfl, rfl⟩
    clear hc
    refine r_astore_nO dX11_isConsistent_18 (by decide) (ls' := [some (.ref p0), some (va_rf q1), some (.int v2), some (va_rf o5)]) rfl ?_
    refine r_aload_nO dX11_isConsistent_19 rfl ?_
    replace E := oif_some E
    rcases E with ⟨rfl, E⟩ | ⟨a7, rfl, E⟩
    · refine q_ifnonnullN dX11_isConsistent_20 ?_
      refine q_goto (tgt := 47) dX11_isConsistent_23 (by decide) ?_
      exact r_fewer [some (.ref p0), some (va_rf q1), some (.int v2), none] (ls_s (ls_s (ls_s (ls_n ls_0)))) (s_X11_isConsistent_47 p0 q1 v2 h4 E hK)
    · refine q_ifnonnull (tgt := 26) dX11_isConsistent_20 (by decide) ?_
      refine q_aload_n dX11_isConsistent_26 rfl ?_
      refine q_aload_n dX11_isConsistent_27 rfl ?_
      replace E := grd_some E
      obtain ⟨g10, E⟩ := E
      replace E := cal_some E
      obtain ⟨x9, h8, hc, E⟩ := E
      refine r_callV1 (mc := 0) (ms := 0) dX11_isConsistent_28 KX11_315 (c_X11_agreesAlone hc) g10 (by decide) (Nat.le_of_ble_eq_true rfl) (fun _ _ q => q.elim) ?_
      rintro _ _ ⟨rfl, rfl⟩
      clear hc
      refine q_if_eq (tgt := 43) dX11_isConsistent_31 (by decide) (fun z11 => ?_) (fun z11 => ?_)
      · replace E := ite_t E z11
        obtain ⟨o0, E0, rfl⟩ := inrO_some E
        exact r_fewer [none, none, none, none] (ls_n (ls_n (ls_n (ls_n ls_0)))) (s_X11_isConsistent_43 h8 E0 hK)
      · replace E := ite_f E z11
        refine q_aload_n dX11_isConsistent_34 rfl ?_
        refine r_aload_nO dX11_isConsistent_35 rfl ?_
        refine q_aload_n dX11_isConsistent_36 rfl ?_
        replace E := grd_some E
        obtain ⟨g14, E⟩ := E
        replace E := cal_some E
        obtain ⟨x13, h12, hc, E⟩ := E
        refine r_callV2 (mc := 0) (ms := 0) dX11_isConsistent_37 KX11_319 (c_X11_agreesWithNext hc) g14 (by decide) (Nat.le_of_ble_eq_true rfl) (fun _ _ q => q.elim) ?_
        rintro _ _ ⟨rfl, rfl⟩
        clear hc
        refine q_if_ne (tgt := 45) dX11_isConsistent_40 (by decide) (fun z15 => ?_) (fun z15 => ?_)
        · replace E := ite_f E z15
          refine q_aload_n dX11_isConsistent_45 rfl ?_
          refine r_astore_n dX11_isConsistent_46 (by decide) (ls' := [some (.ref p0), some (.ref a7), some (.int v2), some (.ref a7)]) rfl ?_
          exact r_fewer [some (.ref p0), some (va_rf (some a7)), some (.int v2), none] (ls_s (ls_s (ls_s (ls_n ls_0)))) (s_X11_isConsistent_47 p0 (some a7) v2 h12 E hK)
        · replace E := ite_t E z15
          obtain ⟨o0, E0, rfl⟩ := inrO_some E
          exact r_fewer [none, none, none, none] (ls_n (ls_n (ls_n (ls_n ls_0)))) (s_X11_isConsistent_43 h12 E0 hK)
theorem s_X11_isConsistent_4 {l : Launch} {G : mG} {Q : Option Value → mH → Prop} {X : String → mH → Prop} (p0 : Nat) (q1 : Option Nat) (v2 : Int32) (h : mH) {o : Int32 × mH} (E : g_X11_isConsistent_4 p0 q1 v2 h = some o) (hK : (fiI Q) o) : mW l G m_X11_isConsistent 7 0 0 4 [some (.ref p0), some (va_rf q1), some (.int v2), none] [] h Q X :=
  (lp_go (w_X11_isConsistent_4 l G Q X p0) (fiI Q) (b_X11_isConsistent_4 p0) (fun s o E hK => sb_X11_isConsistent_4 p0 s.1 s.2.1 (s.2.2) E hK) _ _ _ E hK : w_X11_isConsistent_4 l G Q X p0 (q1, v2, h))
set_option maxRecDepth 100000 in
set_option maxHeartbeats 4000000 in
theorem s_X11_isConsistent_0 {l : Launch} {G : mG} {Q : Option Value → mH → Prop} {X : String → mH → Prop} (p0 : Nat) (h : mH) {o : Int32 × mH} (E : f_X11_isConsistent p0 h = some o) (hK : (fiI Q) o) : mW l G m_X11_isConsistent 7 0 0 0 [some (.ref p0), none, none, none] [] h Q X := by
  unfold f_X11_isConsistent at E
  refine q_null dX11_isConsistent_0 ?_
  refine r_astore_nN dX11_isConsistent_1 (by decide) (ls' := [some (.ref p0), some (.null), none, none]) rfl ?_
  refine q_iconst dX11_isConsistent_2 ?_
  refine r_istore_n dX11_isConsistent_3 (by decide) rfl (ls' := [some (.ref p0), some (.null), some (.int (Int32.ofInt 0)), none]) rfl ?_
  exact r_fewer [some (.ref p0), some (va_rf none), some (.int (Int32.ofInt 0)), none] (ls_s (ls_s (ls_s (ls_n ls_0)))) (s_X11_isConsistent_4 p0 none (Int32.ofInt 0) h E hK)
theorem c_X11_isConsistent {l : Launch} {G : mG} {p0 : Nat} {h h' : mH} {r : Int32} (E : f_X11_isConsistent p0 h = some (r, h')) : mMet l G m_X11_isConsistent 7 0 0 [.ref p0] h (fun v k => v = some (.int r) ∧ h' = k) (fun _ _ => False) :=
  mMet_of (by decide +kernel) rfl (ac_c rfl ac_0) (Nat.le_of_ble_eq_true rfl) (s_X11_isConsistent_0 p0 h E (And.intro rfl rfl))
set_option maxRecDepth 100000 in
set_option maxHeartbeats 4000000 in
theorem s_X11_formatPattern_0 {l : Launch} {G : mG} {Q : Option Value → mH → Prop} {X : String → mH → Prop} (p0 : Nat) (v1 : Int32) (h : mH) {o : (Int32 ⊕ String) × mH} (E : f_X11_formatPattern p0 v1 h = some o) (hK : (fiIX Q X) o) : mW l G m_X11_formatPattern 7 4 252 0 [some (.ref p0), some (.int v1)] [] h Q X := by
  unfold f_X11_formatPattern at E
  refine q_aload_n dX11_formatPattern_0 rfl ?_
  replace E := grd_some E
  obtain ⟨g1, E⟩ := E
  replace E := orf_some E
  obtain ⟨a2, ea2, E⟩ := E
  refine r_getR dX11_formatPattern_1 FX11_36 g1 ea2 ?_
  refine q_aload_n dX11_formatPattern_4 rfl ?_
  refine q_iload_n dX11_formatPattern_5 rfl ?_
  replace E := calX_some E
  rcases E with ⟨o4, h3, hc, E⟩ | ⟨e, h3, hc, E⟩
  · refine r_callV1 (mc := 3) (ms := 246) dX11_formatPattern_6 KX11_178 (c_X11_patternIn hc) g1 (by decide) (Nat.le_of_ble_eq_true rfl) (fun _ _ ⟨_, q, _⟩ => by cases q) ?_
    rintro _ _ ⟨_, q, rfl⟩
    obtain ⟨e9, f9⟩ := inl_inj q; subst e9; subst f9
    clear hc q
    refine q_aload_n dX11_formatPattern_9 rfl ?_
    replace E := grd_some E
    obtain ⟨g5, E⟩ := E
    replace E := orf_some E
    obtain ⟨a6, ea6, E⟩ := E
    refine r_getR dX11_formatPattern_10 FX11_43 g5 ea6 ?_
    replace E := orf_some E
    obtain ⟨a7, rfl, E⟩ := E
    replace E := grd_some E
    obtain ⟨g10, E⟩ := E
    replace E := calC_some E
    obtain ⟨_, h8, ch8, mh8, hc, E⟩ := E
    replace E := grd_some E
    obtain ⟨gb, E⟩ := E
    refine r_callV2 (mc := 0) (ms := 0) dX11_formatPattern_13 KX11_322 (c_X2_write hc gb.1 gb.2) g10 (by decide) (Nat.le_of_ble_eq_true rfl) (fun _ _ q => q.elim) ?_
    rintro _ _ ⟨rfl, rfl⟩
    clear hc
    refine q_aload_n dX11_formatPattern_16 rfl ?_
    replace E := grd_some E
    obtain ⟨g11, E⟩ := E
    replace E := orf_some E
    obtain ⟨a12, ea12, E⟩ := E
    refine r_getR dX11_formatPattern_17 FX11_43 g11 ea12 ?_
    replace E := grd_some E
    obtain ⟨g15, E⟩ := E
    replace E := cal_some E
    obtain ⟨x14, h13, hc, E⟩ := E
    refine r_callV0 (mc := 0) (ms := 0) dX11_formatPattern_20 KX11_326 (c_J4_length_8abf5 hc) g15 (by decide) (Nat.le_of_ble_eq_true rfl) (fun _ _ q => q.elim) ?_
    rintro _ _ ⟨rfl, rfl⟩
    clear hc
    cases E
    exact q_ireturn dX11_formatPattern_23 rfl hK
  · cases E
    refine r_callV1 (mc := 3) (ms := 246) dX11_formatPattern_6 KX11_178 (c_X11_patternIn hc) g1 (by decide) (Nat.le_of_ble_eq_true rfl) (fun _ _ ⟨_, q, n, hn, hk⟩ => by cases q; subst hk; exact hK n hn) ?_
    rintro _ _ ⟨_, q, _⟩
    cases q
theorem c_X11_formatPattern {l : Launch} {G : mG} {p0 : Nat} {v1 : Int32} {h : mH} {o : (Int32 ⊕ String) × mH} (E : f_X11_formatPattern p0 v1 h = some o) : mMet l G m_X11_formatPattern 7 4 252 [.ref p0, .int v1] h (fun v k => ∃ r, o = (.inl r, k) ∧ v = some (.int r)) (fun e k => ∃ k0, o = (.inr e, k0) ∧ ∃ n, nx k0 ≤ n ∧ k = sn k0 n) := by
  refine mMet_of (by decide +kernel) rfl (ac_c rfl (ac_c rfl ac_0)) (Nat.le_of_ble_eq_true rfl) (s_X11_formatPattern_0 p0 v1 h E ?_)
  obtain ⟨r | e, k⟩ := o
  · exact ⟨r, rfl, rfl⟩
  · exact fun n hn => ⟨k, rfl, n, hn, rfl⟩
set_option maxRecDepth 100000 in
set_option maxHeartbeats 4000000 in
theorem s_X11_formatShortest_0 {l : Launch} {G : mG} {Q : Option Value → mH → Prop} {X : String → mH → Prop} (p0 : Nat) (v1 : Int32) (h : mH) {o : (Int32 ⊕ String) × mH} (E : f_X11_formatShortest p0 v1 h = some o) (hK : (fiIX Q X) o) : mW l G m_X11_formatShortest 6 4 252 0 [some (.ref p0), some (.int v1)] [] h Q X := by
  unfold f_X11_formatShortest at E
  refine q_aload_n dX11_formatShortest_0 rfl ?_
  replace E := grd_some E
  obtain ⟨g1, E⟩ := E
  replace E := orf_some E
  obtain ⟨a2, ea2, E⟩ := E
  refine r_getR dX11_formatShortest_1 FX11_57 g1 ea2 ?_
  refine q_aload_n dX11_formatShortest_4 rfl ?_
  refine q_iload_n dX11_formatShortest_5 rfl ?_
  replace E := calX_some E
  rcases E with ⟨o4, h3, hc, E⟩ | ⟨e, h3, hc, E⟩
  · refine r_callV1 (mc := 3) (ms := 246) dX11_formatShortest_6 KX11_178 (c_X11_patternIn hc) g1 (by decide) (Nat.le_of_ble_eq_true rfl) (fun _ _ ⟨_, q, _⟩ => by cases q) ?_
    rintro _ _ ⟨_, q, rfl⟩
    obtain ⟨e9, f9⟩ := inl_inj q; subst e9; subst f9
    clear hc q
    replace E := orf_some E
    obtain ⟨a5, rfl, E⟩ := E
    replace E := grd_some E
    obtain ⟨g8, E⟩ := E
    replace E := cal_some E
    obtain ⟨_, h6, hc, E⟩ := E
    refine r_callV1 (mc := 3) (ms := 246) dX11_formatShortest_9 KX11_213 (c_X0_build hc) g8 (by decide) (Nat.le_of_ble_eq_true rfl) (fun _ _ q => q.elim) ?_
    rintro _ _ ⟨rfl, rfl⟩
    clear hc
    refine q_aload_n dX11_formatShortest_12 rfl ?_
    replace E := grd_some E
    obtain ⟨g9, E⟩ := E
    replace E := orf_some E
    obtain ⟨a10, ea10, E⟩ := E
    refine r_getR dX11_formatShortest_13 FX11_57 g9 ea10 ?_
    refine q_aload_n dX11_formatShortest_16 rfl ?_
    replace E := orf_some E
    obtain ⟨a11, ea11, E⟩ := E
    refine r_getR dX11_formatShortest_17 FX11_43 g9 ea11 ?_
    replace E := grd_some E
    obtain ⟨g14, E⟩ := E
    replace E := calC_some E
    obtain ⟨_, h12, ch12, mh12, hc, E⟩ := E
    replace E := grd_some E
    obtain ⟨gb, E⟩ := E
    refine r_callV1 (mc := 0) (ms := 0) dX11_formatShortest_20 KX11_329 (c_X0_writeShortest hc gb.1 gb.2) g14 (by decide) (Nat.le_of_ble_eq_true rfl) (fun _ _ q => q.elim) ?_
    rintro _ _ ⟨rfl, rfl⟩
    clear hc
    refine q_aload_n dX11_formatShortest_23 rfl ?_
    replace E := grd_some E
    obtain ⟨g15, E⟩ := E
    replace E := orf_some E
    obtain ⟨a16, ea16, E⟩ := E
    refine r_getR dX11_formatShortest_24 FX11_43 g15 ea16 ?_
    replace E := grd_some E
    obtain ⟨g19, E⟩ := E
    replace E := cal_some E
    obtain ⟨x18, h17, hc, E⟩ := E
    refine r_callV0 (mc := 0) (ms := 0) dX11_formatShortest_27 KX11_326 (c_J4_length_8abf5 hc) g19 (by decide) (Nat.le_of_ble_eq_true rfl) (fun _ _ q => q.elim) ?_
    rintro _ _ ⟨rfl, rfl⟩
    clear hc
    cases E
    exact q_ireturn dX11_formatShortest_30 rfl hK
  · cases E
    refine r_callV1 (mc := 3) (ms := 246) dX11_formatShortest_6 KX11_178 (c_X11_patternIn hc) g1 (by decide) (Nat.le_of_ble_eq_true rfl) (fun _ _ ⟨_, q, n, hn, hk⟩ => by cases q; subst hk; exact hK n hn) ?_
    rintro _ _ ⟨_, q, _⟩
    cases q
theorem c_X11_formatShortest {l : Launch} {G : mG} {p0 : Nat} {v1 : Int32} {h : mH} {o : (Int32 ⊕ String) × mH} (E : f_X11_formatShortest p0 v1 h = some o) : mMet l G m_X11_formatShortest 6 4 252 [.ref p0, .int v1] h (fun v k => ∃ r, o = (.inl r, k) ∧ v = some (.int r)) (fun e k => ∃ k0, o = (.inr e, k0) ∧ ∃ n, nx k0 ≤ n ∧ k = sn k0 n) := by
  refine mMet_of (by decide +kernel) rfl (ac_c rfl (ac_c rfl ac_0)) (Nat.le_of_ble_eq_true rfl) (s_X11_formatShortest_0 p0 v1 h E ?_)
  obtain ⟨r | e, k⟩ := o
  · exact ⟨r, rfl, rfl⟩
  · exact fun n hn => ⟨k, rfl, n, hn, rfl⟩
set_option maxRecDepth 100000 in
set_option maxHeartbeats 4000000 in
theorem s_X11_formatDifference_0 {l : Launch} {G : mG} {Q : Option Value → mH → Prop} {X : String → mH → Prop} (p0 : Nat) (v1 : Int32) (v2 : Int32) (h : mH) {o : (Int32 ⊕ String) × mH} (E : f_X11_formatDifference p0 v1 v2 h = some o) (hK : (fiIX Q X) o) : mW l G m_X11_formatDifference 6 5 258 0 [some (.ref p0), some (.int v1), some (.int v2)] [] h Q X := by
  unfold f_X11_formatDifference at E
  refine q_aload_n dX11_formatDifference_0 rfl ?_
  refine q_aload_n dX11_formatDifference_1 rfl ?_
  refine q_iload_n dX11_formatDifference_2 rfl ?_
  replace E := grd_some E
  obtain ⟨g3, E⟩ := E
  replace E := calX_some E
  rcases E with ⟨o2, h1, hc, E⟩ | ⟨e, h1, hc, E⟩
  · refine r_callV1 (mc := 4) (ms := 252) dX11_formatDifference_3 KX11_178 (c_X11_patternIn hc) g3 (by decide) (Nat.le_of_ble_eq_true rfl) (fun _ _ ⟨_, q, _⟩ => by cases q) ?_
    rintro _ _ ⟨_, q, rfl⟩
    obtain ⟨e9, f9⟩ := inl_inj q; subst e9; subst f9
    clear hc q
    refine q_aload_n dX11_formatDifference_6 rfl ?_
    refine q_iload_n dX11_formatDifference_7 rfl ?_
    replace E := grd_some E
    obtain ⟨g6, E⟩ := E
    replace E := calX_some E
    rcases E with ⟨o5, h4, hc, E⟩ | ⟨e, h4, hc, E⟩
    · refine r_callV1 (mc := 3) (ms := 246) dX11_formatDifference_8 KX11_178 (c_X11_patternIn hc) g6 (by decide) (cs_le (cs_c (r_cat _) (cs_c rfl cs_0)) (by decide)) (fun _ _ ⟨_, q, _⟩ => by cases q) ?_
      rintro _ _ ⟨_, q, rfl⟩
      obtain ⟨e9, f9⟩ := inl_inj q; subst e9; subst f9
      clear hc q
      replace E := orf_some E
      obtain ⟨a7, rfl, E⟩ := E
      replace E := orf_some E
      obtain ⟨a8, rfl, E⟩ := E
      replace E := grd_some E
      obtain ⟨g11, E⟩ := E
      replace E := cal_some E
      obtain ⟨_, h9, hc, E⟩ := E
      refine r_callV2 (mc := 3) (ms := 246) dX11_formatDifference_11 KX11_269 (c_X11_buildBoth hc) g11 (by decide) (Nat.le_of_ble_eq_true rfl) (fun _ _ q => q.elim) ?_
      rintro _ _ ⟨rfl, rfl⟩
      clear hc
      refine q_aload_n dX11_formatDifference_14 rfl ?_
      replace E := grd_some E
      obtain ⟨g12, E⟩ := E
      replace E := orf_some E
      obtain ⟨a13, ea13, E⟩ := E
      refine r_getR dX11_formatDifference_15 FX11_77 g12 ea13 ?_
      refine q_aload_n dX11_formatDifference_18 rfl ?_
      replace E := orf_some E
      obtain ⟨a14, ea14, E⟩ := E
      refine r_getR dX11_formatDifference_19 FX11_57 g12 ea14 ?_
      refine q_aload_n dX11_formatDifference_22 rfl ?_
      replace E := orf_some E
      obtain ⟨a15, ea15, E⟩ := E
      refine r_getR dX11_formatDifference_23 FX11_61 g12 ea15 ?_
      replace E := grd_some E
      obtain ⟨g18, E⟩ := E
      replace E := cal_some E
      obtain ⟨x17, h16, hc, E⟩ := E
      refine r_callV2 (mc := 3) (ms := 246) dX11_formatDifference_26 KX11_277 (c_X3_findApart hc) g18 (by decide) (Nat.le_of_ble_eq_true rfl) (fun _ _ q => q.elim) ?_
      rintro _ _ ⟨rfl, rfl⟩
      clear hc
      refine q_pop dX11_formatDifference_29 ?_
      refine q_aload_n dX11_formatDifference_30 rfl ?_
      replace E := grd_some E
      obtain ⟨g19, E⟩ := E
      replace E := orf_some E
      obtain ⟨a20, ea20, E⟩ := E
      refine r_getR dX11_formatDifference_31 FX11_77 g19 ea20 ?_
      refine q_aload_n dX11_formatDifference_34 rfl ?_
      replace E := orf_some E
      obtain ⟨a21, ea21, E⟩ := E
      refine r_getR dX11_formatDifference_35 FX11_43 g19 ea21 ?_
      replace E := grd_some E
      obtain ⟨g24, E⟩ := E
      replace E := calC_some E
      obtain ⟨_, h22, ch22, mh22, hc, E⟩ := E
      replace E := grd_some E
      obtain ⟨gb, E⟩ := E
      refine r_callV1 (mc := 0) (ms := 0) dX11_formatDifference_38 KX11_333 (c_X3_writeFound hc gb.1 gb.2) g24 (by decide) (Nat.le_of_ble_eq_true rfl) (fun _ _ q => q.elim) ?_
      rintro _ _ ⟨rfl, rfl⟩
      clear hc
      refine q_aload_n dX11_formatDifference_41 rfl ?_
      replace E := grd_some E
      obtain ⟨g25, E⟩ := E
      replace E := orf_some E
      obtain ⟨a26, ea26, E⟩ := E
      refine r_getR dX11_formatDifference_42 FX11_43 g25 ea26 ?_
      replace E := grd_some E
      obtain ⟨g29, E⟩ := E
      replace E := cal_some E
      obtain ⟨x28, h27, hc, E⟩ := E
      refine r_callV0 (mc := 0) (ms := 0) dX11_formatDifference_45 KX11_326 (c_J4_length_8abf5 hc) g29 (by decide) (Nat.le_of_ble_eq_true rfl) (fun _ _ q => q.elim) ?_
      rintro _ _ ⟨rfl, rfl⟩
      clear hc
      cases E
      exact q_ireturn dX11_formatDifference_48 rfl hK
    · cases E
      refine r_callV1 (mc := 3) (ms := 246) dX11_formatDifference_8 KX11_178 (c_X11_patternIn hc) g6 (by decide) (cs_le (cs_c (r_cat _) (cs_c rfl cs_0)) (by decide)) (fun _ _ ⟨_, q, n, hn, hk⟩ => by cases q; subst hk; exact hK n hn) ?_
      rintro _ _ ⟨_, q, _⟩
      cases q
  · cases E
    refine r_callV1 (mc := 4) (ms := 252) dX11_formatDifference_3 KX11_178 (c_X11_patternIn hc) g3 (by decide) (Nat.le_of_ble_eq_true rfl) (fun _ _ ⟨_, q, n, hn, hk⟩ => by cases q; subst hk; exact hK n hn) ?_
    rintro _ _ ⟨_, q, _⟩
    cases q
theorem c_X11_formatDifference {l : Launch} {G : mG} {p0 : Nat} {v1 : Int32} {v2 : Int32} {h : mH} {o : (Int32 ⊕ String) × mH} (E : f_X11_formatDifference p0 v1 v2 h = some o) : mMet l G m_X11_formatDifference 6 5 258 [.ref p0, .int v1, .int v2] h (fun v k => ∃ r, o = (.inl r, k) ∧ v = some (.int r)) (fun e k => ∃ k0, o = (.inr e, k0) ∧ ∃ n, nx k0 ≤ n ∧ k = sn k0 n) := by
  refine mMet_of (by decide +kernel) rfl (ac_c rfl (ac_c rfl (ac_c rfl ac_0))) (Nat.le_of_ble_eq_true rfl) (s_X11_formatDifference_0 p0 v1 v2 h E ?_)
  obtain ⟨r | e, k⟩ := o
  · exact ⟨r, rfl, rfl⟩
  · exact fun n hn => ⟨k, rfl, n, hn, rfl⟩
set_option maxRecDepth 100000 in
set_option maxHeartbeats 4000000 in
theorem s_X11_lineChar_15 {l : Launch} {G : mG} {Q : Option Value → mH → Prop} {X : String → mH → Prop} (h : mH) {o : (Int32 ⊕ String) × mH} (E : g_X11_lineChar_15  h = some o) (hK : (fiIX Q X) o) : mW l G m_X11_lineChar 4 1 6 15 [none, none] [] h Q X := by
  unfold g_X11_lineChar_15 at E
  cases E
  exact q_throwSW (mc := 0) (ms := 0) TX11_107_111 SX11_336 dX11_lineChar_15 dX11_lineChar_18 dX11_lineChar_19 dX11_lineChar_22 dX11_lineChar_25 rfl (Nat.le_of_ble_eq_true rfl) hK
set_option maxRecDepth 100000 in
set_option maxHeartbeats 4000000 in
theorem s_X11_lineChar_0 {l : Launch} {G : mG} {Q : Option Value → mH → Prop} {X : String → mH → Prop} (p0 : Nat) (v1 : Int32) (h : mH) {o : (Int32 ⊕ String) × mH} (E : f_X11_lineChar p0 v1 h = some o) (hK : (fiIX Q X) o) : mW l G m_X11_lineChar 4 1 6 0 [some (.ref p0), some (.int v1)] [] h Q X := by
  unfold f_X11_lineChar at E
  refine q_iload_n dX11_lineChar_0 rfl ?_
  refine q_if_lt (tgt := 15) dX11_lineChar_1 (by decide) (fun z1 => ?_) (fun z1 => ?_)
  · replace E := ite_t E z1
    exact r_fewer [none, none] (ls_n (ls_n ls_0)) (s_X11_lineChar_15 h E hK)
  · replace E := ite_f E z1
    refine q_iload_n dX11_lineChar_4 rfl ?_
    refine q_aload_n dX11_lineChar_5 rfl ?_
    replace E := grd_some E
    obtain ⟨g2, E⟩ := E
    replace E := orf_some E
    obtain ⟨a3, ea3, E⟩ := E
    refine r_getR dX11_lineChar_6 FX11_43 g2 ea3 ?_
    replace E := grd_some E
    obtain ⟨g6, E⟩ := E
    replace E := cal_some E
    obtain ⟨x5, h4, hc, E⟩ := E
    refine r_callV0 (mc := 1) (ms := 6) dX11_lineChar_9 KX11_326 (c_J4_length_8abf5 hc) g6 (by decide) (Nat.le_of_ble_eq_true rfl) (fun _ _ q => q.elim) ?_
    rintro _ _ ⟨rfl, rfl⟩
    clear hc
    refine q_icmp_lt (tgt := 26) dX11_lineChar_12 (by decide) (fun z7 => ?_) (fun z7 => ?_)
    · replace E := ite_t E z7
      refine q_aload_n dX11_lineChar_26 rfl ?_
      replace E := grd_some E
      obtain ⟨g8, E⟩ := E
      replace E := orf_some E
      obtain ⟨a9, ea9, E⟩ := E
      refine r_getR dX11_lineChar_27 FX11_43 g8 ea9 ?_
      refine q_iload_n dX11_lineChar_30 rfl ?_
      replace E := grd_some E
      obtain ⟨g12, E⟩ := E
      refine q_room (d' := 4) (mc' := 0) (ms' := 0) (Nat.le_refl _) (Nat.le_of_ble_eq_true rfl) (Nat.le_of_ble_eq_true rfl) ?_
      replace E := cal_some E
      obtain ⟨x11, h10, hc, E⟩ := E
      refine r_callV1 (mc := 0) (ms := 0) dX11_lineChar_31 KX11_338 (c_J4_charAt_5068e hc) g12 (by decide) (Nat.le_of_ble_eq_true rfl) (fun _ _ q => q.elim) ?_
      rintro _ _ ⟨rfl, rfl⟩
      clear hc
      replace E := grd_some E
      obtain ⟨g13, E⟩ := E
      cases E
      exact q_zreturn dX11_lineChar_34 rfl (narC g13) hK
    · replace E := ite_f E z7
      exact r_fewer [none, none] (ls_n (ls_n ls_0)) (s_X11_lineChar_15 h4 E hK)
theorem c_X11_lineChar {l : Launch} {G : mG} {p0 : Nat} {v1 : Int32} {h : mH} {o : (Int32 ⊕ String) × mH} (E : f_X11_lineChar p0 v1 h = some o) : mMet l G m_X11_lineChar 4 1 6 [.ref p0, .int v1] h (fun v k => ∃ r, o = (.inl r, k) ∧ v = some (.int r)) (fun e k => ∃ k0, o = (.inr e, k0) ∧ ∃ n, nx k0 ≤ n ∧ k = sn k0 n) := by
  refine mMet_of (by decide +kernel) rfl (ac_c rfl (ac_c rfl ac_0)) (Nat.le_of_ble_eq_true rfl) (s_X11_lineChar_0 p0 v1 h E ?_)
  obtain ⟨r | e, k⟩ := o
  · exact ⟨r, rfl, rfl⟩
  · exact fun n hn => ⟨k, rfl, n, hn, rfl⟩
set_option maxRecDepth 100000 in
set_option maxHeartbeats 4000000 in
theorem s_X11_append_12 {l : Launch} {G : mG} {Q : Option Value → mH → Prop} {X : String → mH → Prop} (h : mH) {o : (Int32 ⊕ String) × mH} (E : g_X11_append_12  h = some o) (hK : (fiIX Q X) o) : mW l G m_X11_append 1 1 6 12 [none, none] [] h Q X := by
  unfold g_X11_append_12 at E
  cases E
  exact q_throwSW (mc := 0) (ms := 0) TX11_125_129 SX11_342 dX11_append_12 dX11_append_15 dX11_append_16 dX11_append_19 dX11_append_22 rfl (Nat.le_of_ble_eq_true rfl) hK
set_option maxRecDepth 100000 in
set_option maxHeartbeats 4000000 in
theorem s_X11_append_0 {l : Launch} {G : mG} {Q : Option Value → mH → Prop} {X : String → mH → Prop} (p0 : Nat) (v1 : Int32) (h : mH) {o : (Int32 ⊕ String) × mH} (E : f_X11_append p0 v1 h = some o) (hK : (fiIX Q X) o) : mW l G m_X11_append 1 1 6 0 [some (.ref p0), some (.int v1)] [] h Q X := by
  unfold f_X11_append at E
  refine q_iload_n dX11_append_0 rfl ?_
  refine q_bipush (v := (Int32.ofInt 32)) dX11_append_1 (by decide) ?_
  refine q_icmp_lt (tgt := 12) dX11_append_3 (by decide) (fun z1 => ?_) (fun z1 => ?_)
  · replace E := ite_t E z1
    exact r_fewer [none, none] (ls_n (ls_n ls_0)) (s_X11_append_12 h E hK)
  · replace E := ite_f E z1
    refine q_iload_n dX11_append_6 rfl ?_
    refine q_bipush (v := (Int32.ofInt 126)) dX11_append_7 (by decide) ?_
    refine q_icmp_le (tgt := 23) dX11_append_9 (by decide) (fun z2 => ?_) (fun z2 => ?_)
    · replace E := ite_t E z2
      refine q_aload_n dX11_append_23 rfl ?_
      replace E := grd_some E
      obtain ⟨g3, E⟩ := E
      replace E := orf_some E
      obtain ⟨a4, ea4, E⟩ := E
      refine r_getR dX11_append_24 FX11_29 g3 ea4 ?_
      replace E := grd_some E
      obtain ⟨g7, E⟩ := E
      replace E := cal_some E
      obtain ⟨x6, h5, hc, E⟩ := E
      refine r_callV0 (mc := 1) (ms := 6) dX11_append_27 KX11_344 (c_X9_isFull hc) g7 (by decide) (Nat.le_of_ble_eq_true rfl) (fun _ _ q => q.elim) ?_
      rintro _ _ ⟨rfl, rfl⟩
      clear hc
      refine q_if_eq (tgt := 44) dX11_append_30 (by decide) (fun z8 => ?_) (fun z8 => ?_)
      · replace E := ite_t E z8
        refine q_aload_n dX11_append_44 rfl ?_
        replace E := grd_some E
        obtain ⟨g9, E⟩ := E
        replace E := orf_some E
        obtain ⟨a10, ea10, E⟩ := E
        refine r_getR dX11_append_45 FX11_29 g9 ea10 ?_
        refine q_iload_n dX11_append_48 rfl ?_
        replace E := grd_some E
        obtain ⟨g13, E⟩ := E
        refine q_room (d' := 1) (mc' := 0) (ms' := 0) (Nat.le_refl _) (Nat.le_of_ble_eq_true rfl) (Nat.le_of_ble_eq_true rfl) ?_
        replace E := cal_some E
        obtain ⟨_, h11, hc, E⟩ := E
        refine r_callV1 (mc := 0) (ms := 0) dX11_append_49 KX11_352 (c_X9_add hc) g13 (by decide) (Nat.le_of_ble_eq_true rfl) (fun _ _ q => q.elim) ?_
        rintro _ _ ⟨rfl, rfl⟩
        clear hc
        refine q_aload_n dX11_append_52 rfl ?_
        replace E := grd_some E
        obtain ⟨g14, E⟩ := E
        replace E := orf_some E
        obtain ⟨a15, ea15, E⟩ := E
        refine r_getR dX11_append_53 FX11_29 g14 ea15 ?_
        replace E := grd_some E
        obtain ⟨g18, E⟩ := E
        replace E := cal_some E
        obtain ⟨x17, h16, hc, E⟩ := E
        refine r_callV0 (mc := 0) (ms := 0) dX11_append_56 KX11_157 (c_X9_size hc) g18 (by decide) (Nat.le_of_ble_eq_true rfl) (fun _ _ q => q.elim) ?_
        rintro _ _ ⟨rfl, rfl⟩
        clear hc
        cases E
        exact q_ireturn dX11_append_59 rfl hK
      · replace E := ite_f E z8
        cases E
        exact q_throwSW (mc := 0) (ms := 0) TX11_347_351 SX11_349 dX11_append_33 dX11_append_36 dX11_append_37 dX11_append_40 dX11_append_43 rfl (Nat.le_of_ble_eq_true rfl) hK
    · replace E := ite_f E z2
      exact r_fewer [none, none] (ls_n (ls_n ls_0)) (s_X11_append_12 h E hK)
theorem c_X11_append {l : Launch} {G : mG} {p0 : Nat} {v1 : Int32} {h : mH} {o : (Int32 ⊕ String) × mH} (E : f_X11_append p0 v1 h = some o) : mMet l G m_X11_append 1 1 6 [.ref p0, .int v1] h (fun v k => ∃ r, o = (.inl r, k) ∧ v = some (.int r)) (fun e k => ∃ k0, o = (.inr e, k0) ∧ ∃ n, nx k0 ≤ n ∧ k = sn k0 n) := by
  refine mMet_of (by decide +kernel) rfl (ac_c rfl (ac_c rfl ac_0)) (Nat.le_of_ble_eq_true rfl) (s_X11_append_0 p0 v1 h E ?_)
  obtain ⟨r | e, k⟩ := o
  · exact ⟨r, rfl, rfl⟩
  · exact fun n hn => ⟨k, rfl, n, hn, rfl⟩
set_option maxRecDepth 100000 in
set_option maxHeartbeats 4000000 in
theorem s_X11_clearBuffer_0 {l : Launch} {G : mG} {Q : Option Value → mH → Prop} {X : String → mH → Prop} (p0 : Nat) (h : mH) {o : Int32 × mH} (E : f_X11_clearBuffer p0 h = some o) (hK : (fiI Q) o) : mW l G m_X11_clearBuffer 1 0 0 0 [some (.ref p0), none] [] h Q X := by
  unfold f_X11_clearBuffer at E
  refine q_aload_n dX11_clearBuffer_0 rfl ?_
  replace E := grd_some E
  obtain ⟨g1, E⟩ := E
  replace E := orf_some E
  obtain ⟨a2, ea2, E⟩ := E
  refine r_getR dX11_clearBuffer_1 FX11_29 g1 ea2 ?_
  replace E := grd_some E
  obtain ⟨g5, E⟩ := E
  replace E := cal_some E
  obtain ⟨x4, h3, hc, E⟩ := E
  refine r_callV0 (mc := 0) (ms := 0) dX11_clearBuffer_4 KX11_157 (c_X9_size hc) g5 (by decide) (Nat.le_of_ble_eq_true rfl) (fun _ _ q => q.elim) ?_
  rintro _ _ ⟨rfl, rfl⟩
  clear hc
  refine r_istore_n dX11_clearBuffer_7 (by decide) rfl (ls' := [some (.ref p0), some (.int x4)]) rfl ?_
  refine q_aload_n dX11_clearBuffer_8 rfl ?_
  replace E := grd_some E
  obtain ⟨g6, E⟩ := E
  replace E := orf_some E
  obtain ⟨a7, ea7, E⟩ := E
  refine r_getR dX11_clearBuffer_9 FX11_29 g6 ea7 ?_
  replace E := grd_some E
  obtain ⟨g10, E⟩ := E
  replace E := cal_some E
  obtain ⟨_, h8, hc, E⟩ := E
  refine r_callV0 (mc := 0) (ms := 0) dX11_clearBuffer_12 KX11_122 (c_X9_empty hc) g10 (by decide) (Nat.le_of_ble_eq_true rfl) (fun _ _ q => q.elim) ?_
  rintro _ _ ⟨rfl, rfl⟩
  clear hc
  refine q_iload_n dX11_clearBuffer_15 rfl ?_
  cases E
  exact q_ireturn dX11_clearBuffer_16 rfl hK
theorem c_X11_clearBuffer {l : Launch} {G : mG} {p0 : Nat} {h h' : mH} {r : Int32} (E : f_X11_clearBuffer p0 h = some (r, h')) : mMet l G m_X11_clearBuffer 1 0 0 [.ref p0] h (fun v k => v = some (.int r) ∧ h' = k) (fun _ _ => False) :=
  mMet_of (by decide +kernel) rfl (ac_c rfl ac_0) (Nat.le_of_ble_eq_true rfl) (s_X11_clearBuffer_0 p0 h E (And.intro rfl rfl))
set_option maxRecDepth 100000 in
set_option maxHeartbeats 4000000 in
theorem s_X11_executeCommand_0 {l : Launch} {G : mG} {Q : Option Value → mH → Prop} {X : String → mH → Prop} (p0 : Nat) (h : mH) {o : Int32 × mH} (E : f_X11_executeCommand p0 h = some o) (hK : (fiI Q) o) : mW l G m_X11_executeCommand 5 2 258 0 [some (.ref p0)] [] h Q X := by
  unfold f_X11_executeCommand at E
  refine q_aload_n dX11_executeCommand_0 rfl ?_
  replace E := grd_some E
  obtain ⟨g1, E⟩ := E
  replace E := orf_some E
  obtain ⟨a2, ea2, E⟩ := E
  refine r_getR dX11_executeCommand_1 FX11_29 g1 ea2 ?_
  replace E := grd_some E
  obtain ⟨g5, E⟩ := E
  replace E := cal_some E
  obtain ⟨x4, h3, hc, E⟩ := E
  refine r_callV0 (mc := 2) (ms := 258) dX11_executeCommand_4 KX11_427 (c_X9_keyword hc) g5 (by decide) (Nat.le_of_ble_eq_true rfl) (fun _ _ q => q.elim) ?_
  rintro _ _ ⟨rfl, rfl⟩
  clear hc
  by_cases z110 : x4 = (Int32.ofInt 0)
  · replace E := ite_t E z110
    refine r_tableIn (tgt := 48) (Int32.ofInt 0) dX11_executeCommand_7 z110 (by decide) (by decide) (by rfl) (by decide) ?_
    refine q_aload_n dX11_executeCommand_48 rfl ?_
    replace E := grd_some E
    obtain ⟨g6, E⟩ := E
    replace E := orf_some E
    obtain ⟨a7, ea7, E⟩ := E
    refine r_getR dX11_executeCommand_49 FX11_10 g6 ea7 ?_
    refine q_aload_n dX11_executeCommand_52 rfl ?_
    replace E := orf_some E
    obtain ⟨a8, ea8, E⟩ := E
    refine r_getR dX11_executeCommand_53 FX11_29 g6 ea8 ?_
    refine q_iconst dX11_executeCommand_56 ?_
    replace E := grd_some E
    obtain ⟨g11, E⟩ := E
    replace E := cal_some E
    obtain ⟨x10, h9, hc, E⟩ := E
    refine r_callV1 (mc := 2) (ms := 258) dX11_executeCommand_57 KX11_430 (c_X9_digit hc) g11 (by decide) (Nat.le_of_ble_eq_true rfl) (fun _ _ q => q.elim) ?_
    rintro _ _ ⟨rfl, rfl⟩
    clear hc
    refine q_aload_n dX11_executeCommand_60 rfl ?_
    replace E := grd_some E
    obtain ⟨g12, E⟩ := E
    replace E := orf_some E
    obtain ⟨a13, ea13, E⟩ := E
    refine r_getR dX11_executeCommand_61 FX11_36 g12 ea13 ?_
    refine q_aload_n dX11_executeCommand_64 rfl ?_
    replace E := orf_some E
    obtain ⟨a14, ea14, E⟩ := E
    refine r_getR dX11_executeCommand_65 FX11_29 g12 ea14 ?_
    replace E := grd_some E
    obtain ⟨g17, E⟩ := E
    replace E := cal_some E
    obtain ⟨o16, h15, hc, E⟩ := E
    refine r_callV1 (mc := 0) (ms := 0) dX11_executeCommand_68 KX11_134 (c_X2_read hc) g17 (by decide) (Nat.le_of_ble_eq_true rfl) (fun _ _ q => q.elim) ?_
    rintro _ _ ⟨rfl, rfl⟩
    clear hc
    replace E := orf_some E
    obtain ⟨a18, rfl, E⟩ := E
    replace E := grd_some E
    obtain ⟨g21, E⟩ := E
    replace E := cal_some E
    obtain ⟨x20, h19, hc, E⟩ := E
    refine r_callV2 (mc := 0) (ms := 0) dX11_executeCommand_71 KX11_138 (c_X6_put hc) g21 (by decide) (Nat.le_of_ble_eq_true rfl) (fun _ _ q => q.elim) ?_
    rintro _ _ ⟨rfl, rfl⟩
    clear hc
    cases E
    exact q_ireturn dX11_executeCommand_74 rfl hK
  replace E := ite_f E z110
  by_cases z111 : x4 = (Int32.ofInt 1)
  · replace E := ite_t E z111
    refine r_tableIn (tgt := 75) (Int32.ofInt 1) dX11_executeCommand_7 z111 (by decide) (by decide) (by rfl) (by decide) ?_
    refine q_aload_n dX11_executeCommand_75 rfl ?_
    replace E := grd_some E
    obtain ⟨g22, E⟩ := E
    replace E := orf_some E
    obtain ⟨a23, ea23, E⟩ := E
    refine r_getR dX11_executeCommand_76 FX11_10 g22 ea23 ?_
    refine q_aload_n dX11_executeCommand_79 rfl ?_
    replace E := orf_some E
    obtain ⟨a24, ea24, E⟩ := E
    refine r_getR dX11_executeCommand_80 FX11_29 g22 ea24 ?_
    refine q_iconst dX11_executeCommand_83 ?_
    replace E := grd_some E
    obtain ⟨g27, E⟩ := E
    replace E := cal_some E
    obtain ⟨x26, h25, hc, E⟩ := E
    refine r_callV1 (mc := 2) (ms := 258) dX11_executeCommand_84 KX11_430 (c_X9_digit hc) g27 (by decide) (Nat.le_of_ble_eq_true rfl) (fun _ _ q => q.elim) ?_
    rintro _ _ ⟨rfl, rfl⟩
    clear hc
    refine q_aload_n dX11_executeCommand_87 rfl ?_
    replace E := grd_some E
    obtain ⟨g28, E⟩ := E
    replace E := orf_some E
    obtain ⟨a29, ea29, E⟩ := E
    refine r_getR dX11_executeCommand_88 FX11_29 g28 ea29 ?_
    refine q_iconst dX11_executeCommand_91 ?_
    replace E := grd_some E
    obtain ⟨g32, E⟩ := E
    replace E := cal_some E
    obtain ⟨x31, h30, hc, E⟩ := E
    refine r_callV1 (mc := 2) (ms := 258) dX11_executeCommand_92 KX11_430 (c_X9_digit hc) g32 (by decide) (Nat.le_of_ble_eq_true rfl) (fun _ _ q => q.elim) ?_
    rintro _ _ ⟨rfl, rfl⟩
    clear hc
    refine q_aload_n dX11_executeCommand_95 rfl ?_
    replace E := grd_some E
    obtain ⟨g33, E⟩ := E
    replace E := orf_some E
    obtain ⟨a34, ea34, E⟩ := E
    refine r_getR dX11_executeCommand_96 FX11_29 g33 ea34 ?_
    refine q_iconst dX11_executeCommand_99 ?_
    replace E := grd_some E
    obtain ⟨g37, E⟩ := E
    replace E := cal_some E
    obtain ⟨x36, h35, hc, E⟩ := E
    refine r_callV1 (mc := 2) (ms := 258) dX11_executeCommand_100 KX11_430 (c_X9_digit hc) g37 (by decide) (Nat.le_of_ble_eq_true rfl) (fun _ _ q => q.elim) ?_
    rintro _ _ ⟨rfl, rfl⟩
    clear hc
    refine q_bipush (v := (Int32.ofInt 124)) dX11_executeCommand_103 (by decide) ?_
    replace E := grd_some E
    obtain ⟨g40, E⟩ := E
    replace E := cal_some E
    obtain ⟨x39, h38, hc, E⟩ := E
    refine r_callV4 (mc := 0) (ms := 0) dX11_executeCommand_105 KX11_146 (c_X6_putJoined hc) g40 (by decide) (Nat.le_of_ble_eq_true rfl) (fun _ _ q => q.elim) ?_
    rintro _ _ ⟨rfl, rfl⟩
    clear hc
    cases E
    exact q_ireturn dX11_executeCommand_108 rfl hK
  replace E := ite_f E z111
  by_cases z112 : x4 = (Int32.ofInt 2)
  · replace E := ite_t E z112
    refine r_tableIn (tgt := 109) (Int32.ofInt 2) dX11_executeCommand_7 z112 (by decide) (by decide) (by rfl) (by decide) ?_
    refine q_aload_n dX11_executeCommand_109 rfl ?_
    replace E := grd_some E
    obtain ⟨g41, E⟩ := E
    replace E := orf_some E
    obtain ⟨a42, ea42, E⟩ := E
    refine r_getR dX11_executeCommand_110 FX11_10 g41 ea42 ?_
    refine q_aload_n dX11_executeCommand_113 rfl ?_
    replace E := orf_some E
    obtain ⟨a43, ea43, E⟩ := E
    refine r_getR dX11_executeCommand_114 FX11_29 g41 ea43 ?_
    refine q_iconst dX11_executeCommand_117 ?_
    replace E := grd_some E
    obtain ⟨g46, E⟩ := E
    replace E := cal_some E
    obtain ⟨x45, h44, hc, E⟩ := E
    refine r_callV1 (mc := 2) (ms := 258) dX11_executeCommand_118 KX11_430 (c_X9_digit hc) g46 (by decide) (Nat.le_of_ble_eq_true rfl) (fun _ _ q => q.elim) ?_
    rintro _ _ ⟨rfl, rfl⟩
    clear hc
    refine q_aload_n dX11_executeCommand_121 rfl ?_
    replace E := grd_some E
    obtain ⟨g47, E⟩ := E
    replace E := orf_some E
    obtain ⟨a48, ea48, E⟩ := E
    refine r_getR dX11_executeCommand_122 FX11_29 g47 ea48 ?_
    refine q_iconst dX11_executeCommand_125 ?_
    replace E := grd_some E
    obtain ⟨g51, E⟩ := E
    replace E := cal_some E
    obtain ⟨x50, h49, hc, E⟩ := E
    refine r_callV1 (mc := 2) (ms := 258) dX11_executeCommand_126 KX11_430 (c_X9_digit hc) g51 (by decide) (Nat.le_of_ble_eq_true rfl) (fun _ _ q => q.elim) ?_
    rintro _ _ ⟨rfl, rfl⟩
    clear hc
    refine q_aload_n dX11_executeCommand_129 rfl ?_
    replace E := grd_some E
    obtain ⟨g52, E⟩ := E
    replace E := orf_some E
    obtain ⟨a53, ea53, E⟩ := E
    refine r_getR dX11_executeCommand_130 FX11_29 g52 ea53 ?_
    refine q_iconst dX11_executeCommand_133 ?_
    replace E := grd_some E
    obtain ⟨g56, E⟩ := E
    replace E := cal_some E
    obtain ⟨x55, h54, hc, E⟩ := E
    refine r_callV1 (mc := 2) (ms := 258) dX11_executeCommand_134 KX11_430 (c_X9_digit hc) g56 (by decide) (Nat.le_of_ble_eq_true rfl) (fun _ _ q => q.elim) ?_
    rintro _ _ ⟨rfl, rfl⟩
    clear hc
    refine q_bipush (v := (Int32.ofInt 46)) dX11_executeCommand_137 (by decide) ?_
    replace E := grd_some E
    obtain ⟨g59, E⟩ := E
    replace E := cal_some E
    obtain ⟨x58, h57, hc, E⟩ := E
    refine r_callV4 (mc := 0) (ms := 0) dX11_executeCommand_139 KX11_146 (c_X6_putJoined hc) g59 (by decide) (Nat.le_of_ble_eq_true rfl) (fun _ _ q => q.elim) ?_
    rintro _ _ ⟨rfl, rfl⟩
    clear hc
    cases E
    exact q_ireturn dX11_executeCommand_142 rfl hK
  replace E := ite_f E z112
  by_cases z113 : x4 = (Int32.ofInt 3)
  · replace E := ite_t E z113
    refine r_tableIn (tgt := 143) (Int32.ofInt 3) dX11_executeCommand_7 z113 (by decide) (by decide) (by rfl) (by decide) ?_
    refine q_aload_n dX11_executeCommand_143 rfl ?_
    replace E := grd_some E
    obtain ⟨g60, E⟩ := E
    replace E := orf_some E
    obtain ⟨a61, ea61, E⟩ := E
    refine r_getR dX11_executeCommand_144 FX11_10 g60 ea61 ?_
    refine q_aload_n dX11_executeCommand_147 rfl ?_
    replace E := orf_some E
    obtain ⟨a62, ea62, E⟩ := E
    refine r_getR dX11_executeCommand_148 FX11_29 g60 ea62 ?_
    refine q_iconst dX11_executeCommand_151 ?_
    replace E := grd_some E
    obtain ⟨g65, E⟩ := E
    replace E := cal_some E
    obtain ⟨x64, h63, hc, E⟩ := E
    refine r_callV1 (mc := 2) (ms := 258) dX11_executeCommand_152 KX11_430 (c_X9_digit hc) g65 (by decide) (Nat.le_of_ble_eq_true rfl) (fun _ _ q => q.elim) ?_
    rintro _ _ ⟨rfl, rfl⟩
    clear hc
    refine q_aload_n dX11_executeCommand_155 rfl ?_
    replace E := grd_some E
    obtain ⟨g66, E⟩ := E
    replace E := orf_some E
    obtain ⟨a67, ea67, E⟩ := E
    refine r_getR dX11_executeCommand_156 FX11_29 g66 ea67 ?_
    refine q_iconst dX11_executeCommand_159 ?_
    replace E := grd_some E
    obtain ⟨g70, E⟩ := E
    replace E := cal_some E
    obtain ⟨x69, h68, hc, E⟩ := E
    refine r_callV1 (mc := 2) (ms := 258) dX11_executeCommand_160 KX11_430 (c_X9_digit hc) g70 (by decide) (Nat.le_of_ble_eq_true rfl) (fun _ _ q => q.elim) ?_
    rintro _ _ ⟨rfl, rfl⟩
    clear hc
    replace E := grd_some E
    obtain ⟨g73, E⟩ := E
    replace E := cal_some E
    obtain ⟨x72, h71, hc, E⟩ := E
    refine r_callV2 (mc := 0) (ms := 0) dX11_executeCommand_163 KX11_150 (c_X6_putStarred hc) g73 (by decide) (Nat.le_of_ble_eq_true rfl) (fun _ _ q => q.elim) ?_
    rintro _ _ ⟨rfl, rfl⟩
    clear hc
    cases E
    exact q_ireturn dX11_executeCommand_166 rfl hK
  replace E := ite_f E z113
  by_cases z114 : x4 = (Int32.ofInt 4)
  · replace E := ite_t E z114
    refine r_tableIn (tgt := 167) (Int32.ofInt 4) dX11_executeCommand_7 z114 (by decide) (by decide) (by rfl) (by decide) ?_
    refine q_aload_n dX11_executeCommand_167 rfl ?_
    replace E := grd_some E
    obtain ⟨g74, E⟩ := E
    replace E := orf_some E
    obtain ⟨a75, ea75, E⟩ := E
    refine r_getR dX11_executeCommand_168 FX11_10 g74 ea75 ?_
    refine q_aload_n dX11_executeCommand_171 rfl ?_
    replace E := orf_some E
    obtain ⟨a76, ea76, E⟩ := E
    refine r_getR dX11_executeCommand_172 FX11_29 g74 ea76 ?_
    refine q_iconst dX11_executeCommand_175 ?_
    replace E := grd_some E
    obtain ⟨g79, E⟩ := E
    refine q_room (d' := 5) (mc' := 0) (ms' := 0) (Nat.le_refl _) (Nat.le_of_ble_eq_true rfl) (Nat.le_of_ble_eq_true rfl) ?_
    replace E := cal_some E
    obtain ⟨x78, h77, hc, E⟩ := E
    refine r_callV1 (mc := 0) (ms := 0) dX11_executeCommand_176 KX11_430 (c_X9_digit hc) g79 (by decide) (Nat.le_of_ble_eq_true rfl) (fun _ _ q => q.elim) ?_
    rintro _ _ ⟨rfl, rfl⟩
    clear hc
    replace E := grd_some E
    obtain ⟨g82, E⟩ := E
    replace E := cal_some E
    obtain ⟨x81, h80, hc, E⟩ := E
    refine r_callV1 (mc := 0) (ms := 0) dX11_executeCommand_179 KX11_154 (c_X6_free hc) g82 (by decide) (Nat.le_of_ble_eq_true rfl) (fun _ _ q => q.elim) ?_
    rintro _ _ ⟨rfl, rfl⟩
    clear hc
    cases E
    exact q_ireturn dX11_executeCommand_182 rfl hK
  replace E := ite_f E z114
  by_cases z115 : x4 = (Int32.ofInt 5)
  · replace E := ite_t E z115
    refine r_tableIn (tgt := 183) (Int32.ofInt 5) dX11_executeCommand_7 z115 (by decide) (by decide) (by rfl) (by decide) ?_
    refine q_aload_n dX11_executeCommand_183 rfl ?_
    replace E := grd_some E
    obtain ⟨g83, E⟩ := E
    replace E := orf_some E
    obtain ⟨a84, ea84, E⟩ := E
    refine r_getR dX11_executeCommand_184 FX11_10 g83 ea84 ?_
    refine q_aload_n dX11_executeCommand_187 rfl ?_
    replace E := orf_some E
    obtain ⟨a85, ea85, E⟩ := E
    refine r_getR dX11_executeCommand_188 FX11_29 g83 ea85 ?_
    refine q_aload_n dX11_executeCommand_191 rfl ?_
    refine r_getR dX11_executeCommand_192 FX11_29 g83 ea85 ?_
    replace E := grd_some E
    obtain ⟨g89, E⟩ := E
    refine q_room (d' := 5) (mc' := 2) (ms' := 256) (Nat.le_refl _) (Nat.le_of_ble_eq_true rfl) (Nat.le_of_ble_eq_true rfl) ?_
    replace E := cal_some E
    obtain ⟨x88, h87, hc, E⟩ := E
    refine r_callV0 (mc := 2) (ms := 256) dX11_executeCommand_195 KX11_433 (c_X9_start hc) g89 (by decide) (Nat.le_of_ble_eq_true rfl) (fun _ _ q => q.elim) ?_
    rintro _ _ ⟨rfl, rfl⟩
    clear hc
    refine q_aload_n dX11_executeCommand_198 rfl ?_
    replace E := grd_some E
    obtain ⟨g90, E⟩ := E
    replace E := orf_some E
    obtain ⟨a91, ea91, E⟩ := E
    refine r_getR dX11_executeCommand_199 FX11_29 g90 ea91 ?_
    replace E := grd_some E
    obtain ⟨g94, E⟩ := E
    replace E := cal_some E
    obtain ⟨x93, h92, hc, E⟩ := E
    refine r_callV0 (mc := 2) (ms := 256) dX11_executeCommand_202 KX11_436 (c_X9_end hc) g94 (by decide) (Nat.le_of_ble_eq_true rfl) (fun _ _ q => q.elim) ?_
    rintro _ _ ⟨rfl, rfl⟩
    clear hc
    refine q_bipush (v := (Int32.ofInt 8)) dX11_executeCommand_205 (by decide) ?_
    replace E := grd_some E
    obtain ⟨g97, E⟩ := E
    replace E := cal_some E
    obtain ⟨o96, h95, hc, E⟩ := E
    refine r_callV3 (mc := 0) (ms := 0) dX11_executeCommand_207 KX11_160 (c_X9_wordBetween hc) g97 (by decide) (Nat.le_of_ble_eq_true rfl) (fun _ _ q => q.elim) ?_
    rintro _ _ ⟨rfl, rfl⟩
    clear hc
    replace E := grd_some E
    obtain ⟨g100, E⟩ := E
    replace E := cal_some E
    obtain ⟨x99, h98, hc, E⟩ := E
    refine r_callV1 (mc := 0) (ms := 0) dX11_executeCommand_210 KX11_164 (c_X6_addSample hc) g100 (by decide) (Nat.le_of_ble_eq_true rfl) (fun _ _ q => q.elim) ?_
    rintro _ _ ⟨rfl, rfl⟩
    clear hc
    cases E
    exact q_ireturn dX11_executeCommand_213 rfl hK
  replace E := ite_f E z115
  by_cases z116 : x4 = (Int32.ofInt 6)
  · replace E := ite_t E z116
    refine r_tableIn (tgt := 214) (Int32.ofInt 6) dX11_executeCommand_7 z116 (by decide) (by decide) (by rfl) (by decide) ?_
    refine q_aload_n dX11_executeCommand_214 rfl ?_
    replace E := grd_some E
    obtain ⟨g101, E⟩ := E
    replace E := orf_some E
    obtain ⟨a102, ea102, E⟩ := E
    refine r_getR dX11_executeCommand_215 FX11_10 g101 ea102 ?_
    refine q_aload_n dX11_executeCommand_218 rfl ?_
    replace E := orf_some E
    obtain ⟨a103, ea103, E⟩ := E
    refine r_getR dX11_executeCommand_219 FX11_29 g101 ea103 ?_
    refine q_iconst dX11_executeCommand_222 ?_
    replace E := grd_some E
    obtain ⟨g106, E⟩ := E
    refine q_room (d' := 5) (mc' := 0) (ms' := 0) (Nat.le_refl _) (Nat.le_of_ble_eq_true rfl) (Nat.le_of_ble_eq_true rfl) ?_
    replace E := cal_some E
    obtain ⟨x105, h104, hc, E⟩ := E
    refine r_callV1 (mc := 0) (ms := 0) dX11_executeCommand_223 KX11_430 (c_X9_digit hc) g106 (by decide) (Nat.le_of_ble_eq_true rfl) (fun _ _ q => q.elim) ?_
    rintro _ _ ⟨rfl, rfl⟩
    clear hc
    replace E := grd_some E
    obtain ⟨g109, E⟩ := E
    replace E := cal_some E
    obtain ⟨x108, h107, hc, E⟩ := E
    refine r_callV1 (mc := 0) (ms := 0) dX11_executeCommand_226 KX11_168 (c_X6_removeSample hc) g109 (by decide) (Nat.le_of_ble_eq_true rfl) (fun _ _ q => q.elim) ?_
    rintro _ _ ⟨rfl, rfl⟩
    clear hc
    cases E
    exact q_ireturn dX11_executeCommand_229 rfl hK
  replace E := ite_f E z116
  have nz110 : ¬ (x4).toInt = 0 := lv_neT z110 (by decide)
  have nz111 : ¬ (x4).toInt = 1 := lv_neT z111 (by decide)
  have nz112 : ¬ (x4).toInt = 2 := lv_neT z112 (by decide)
  have nz113 : ¬ (x4).toInt = 3 := lv_neT z113 (by decide)
  have nz114 : ¬ (x4).toInt = 4 := lv_neT z114 (by decide)
  have nz115 : ¬ (x4).toInt = 5 := lv_neT z115 (by decide)
  have nz116 : ¬ (x4).toInt = 6 := lv_neT z116 (by decide)
  refine r_tableOut (tgt := 230) dX11_executeCommand_7 (by omega) (by decide) ?_
  refine q_bipush (v := (Int32.ofInt (-4))) dX11_executeCommand_230 (by decide) ?_
  cases E
  exact q_ireturn dX11_executeCommand_232 rfl hK
theorem c_X11_executeCommand {l : Launch} {G : mG} {p0 : Nat} {h h' : mH} {r : Int32} (E : f_X11_executeCommand p0 h = some (r, h')) : mMet l G m_X11_executeCommand 5 2 258 [.ref p0] h (fun v k => v = some (.int r) ∧ h' = k) (fun _ _ => False) :=
  mMet_of (by decide +kernel) rfl (ac_c rfl ac_0) (Nat.le_of_ble_eq_true rfl) (s_X11_executeCommand_0 p0 h E (And.intro rfl rfl))
set_option maxRecDepth 100000 in
set_option maxHeartbeats 4000000 in
theorem s_X11_executeCommands_31 {l : Launch} {G : mG} {Q : Option Value → mH → Prop} {X : String → mH → Prop} (v2 : Int32) (h : mH) {o : Int32 × mH} {c m c2 m2 : Nat} (E : g_X11_executeCommands_31 v2 h = some (o, c, m)) (hK : (fun o (_ _ : Nat) => (fiI Q) o) o c2 m2) : mW l G m_X11_executeCommands 7 (c2 + c) (m2 + m) 31 [none, none, some (.int v2)] [] h Q X := by
  unfold g_X11_executeCommands_31 at E
  refine q_iload_n dX11_executeCommands_31 rfl ?_
  cases E
  exact q_ireturn dX11_executeCommands_32 rfl hK
set_option maxRecDepth 100000 in
set_option maxHeartbeats 4000000 in
theorem sb_X11_executeCommands_9 {l : Launch} {G : mG} {Q : Option Value → mH → Prop} {X : String → mH → Prop} (p0 : Nat) (v1 : Int32) (v2 : Int32) (h : mH) {o : ((Int32 × mH) ⊕ (Int32 × mH))} {c m c2 m2 : Nat} (E : b0_X11_executeCommands_9 p0 v1 v2 h = some (o, c, m)) (hK : (lpKC (w_X11_executeCommands_9 l G Q X p0 v1) (fun o (_ _ : Nat) => (fiI Q) o)) o c2 m2) : mW l G m_X11_executeCommands 7 (c2 + c) (m2 + m) 9 [some (.ref p0), some (.int v1), some (.int v2)] [] h Q X := by
  unfold b0_X11_executeCommands_9 at E
  refine q_iload_n dX11_executeCommands_9 rfl ?_
  refine q_iload_n dX11_executeCommands_10 rfl ?_
  refine q_icmp_ge (tgt := 49) dX11_executeCommands_11 (by decide) (fun z1 => ?_) (fun z1 => ?_)
  · replace E := ite_t E z1
    refine q_iload_n dX11_executeCommands_49 rfl ?_
    cases E
    exact q_ireturn dX11_executeCommands_50 rfl hK
  · replace E := ite_f E z1
    refine q_aload_n dX11_executeCommands_14 rfl ?_
    replace E := grd_some E
    obtain ⟨g2, E⟩ := E
    replace E := orf_some E
    obtain ⟨a3, ea3, E⟩ := E
    refine r_getR dX11_executeCommands_15 FX11_29 g2 ea3 ?_
    replace E := grd_some E
    obtain ⟨g6, E⟩ := E
    replace E := cal_some E
    obtain ⟨x5, h4, hc, E⟩ := E
    refine q_room (d' := 7) (mc' := 0 + (c2 + c)) (ms' := 0 + (m2 + m)) (Nat.le_refl _) (by omega) (by omega) ?_
    refine r_callV0 (mc := c2 + c) (ms := m2 + m) dX11_executeCommands_18 KX11_418 (c_X9_readCommand hc) g6 (by decide) (Nat.le_of_ble_eq_true rfl) (fun _ _ q => q.elim) ?_
    rintro _ _ ⟨rfl, rfl⟩
    clear hc
    refine q_if_eq (tgt := 31) dX11_executeCommands_21 (by decide) (fun z7 => ?_) (fun z7 => ?_)
    · replace E := ite_t E z7
      obtain ⟨o0, E0, rfl⟩ := inrC_some E
      exact r_fewer [none, none, some (.int v2)] (ls_n (ls_n (ls_s ls_0))) (s_X11_executeCommands_31 v2 h4 E0 hK)
    · replace E := ite_f E z7
      refine q_aload_n dX11_executeCommands_24 rfl ?_
      replace E := grd_some E
      obtain ⟨g10, E⟩ := E
      replace E := cal_some E
      obtain ⟨x9, h8, hc, E⟩ := E
      replace E := adc_some E
      obtain ⟨c_1, m_1, ec_1, em_1, E⟩ := E
      refine q_room (d' := 7) (mc' := 2 + (c2 + c_1)) (ms' := 258 + (m2 + m_1)) (Nat.le_refl _) (by omega) (by omega) ?_
      refine r_callV0 (mc := c2 + c_1) (ms := m2 + m_1) dX11_executeCommands_25 KX11_421 (c_X11_executeCommand hc) g10 (by decide) (Nat.le_of_ble_eq_true rfl) (fun _ _ q => q.elim) ?_
      rintro _ _ ⟨rfl, rfl⟩
      clear hc
      refine q_if_ge (tgt := 33) dX11_executeCommands_28 (by decide) (fun z11 => ?_) (fun z11 => ?_)
      · replace E := ite_t E z11
        refine q_aload_n dX11_executeCommands_33 rfl ?_
        replace E := grd_some E
        obtain ⟨g12, E⟩ := E
        replace E := orf_some E
        obtain ⟨a13, ea13, E⟩ := E
        refine r_getR dX11_executeCommands_34 FX11_29 g12 ea13 ?_
        refine q_bipush (v := (Int32.ofInt 59)) dX11_executeCommands_37 (by decide) ?_
        replace E := grd_some E
        obtain ⟨g16, E⟩ := E
        replace E := cal_some E
        obtain ⟨x15, h14, hc, E⟩ := E
        refine q_room (d' := 7) (mc' := 0 + (c2 + c_1)) (ms' := 0 + (m2 + m_1)) (Nat.le_refl _) (by omega) (by omega) ?_
        refine r_callV1 (mc := c2 + c_1) (ms := m2 + m_1) dX11_executeCommands_39 KX11_424 (c_X9_readSign hc) g16 (by decide) (Nat.le_of_ble_eq_true rfl) (fun _ _ q => q.elim) ?_
        rintro _ _ ⟨rfl, rfl⟩
        clear hc
        refine q_pop dX11_executeCommands_42 ?_
        replace E := bnd_x E
        obtain ⟨x17, ex17, E⟩ := E
        refine r_iinc (v := x17) dX11_executeCommands_43 rfl ex17 (by decide) (ls' := [some (.ref p0), some (.int v1), some (.int x17)]) rfl ?_
        refine q_goto (tgt := 9) dX11_executeCommands_46 (by decide) ?_
        cases E
        exact r_fewer [some (.ref p0), some (.int v1), some (.int x17)] (ls_s (ls_s (ls_s ls_0))) hK
      · replace E := ite_f E z11
        obtain ⟨o0, E0, rfl⟩ := inrC_some E
        exact r_fewer [none, none, some (.int v2)] (ls_n (ls_n (ls_s ls_0))) (s_X11_executeCommands_31 v2 h8 E0 hK)
theorem s_X11_executeCommands_9 {l : Launch} {G : mG} {Q : Option Value → mH → Prop} {X : String → mH → Prop} (p0 : Nat) (v1 : Int32) (v2 : Int32) (h : mH) {o : Int32 × mH} {c m c2 m2 : Nat} (E : g_X11_executeCommands_9 p0 v1 v2 h = some (o, c, m)) (hK : (fun o (_ _ : Nat) => (fiI Q) o) o c2 m2) : mW l G m_X11_executeCommands 7 (c2 + c) (m2 + m) 9 [some (.ref p0), some (.int v1), some (.int v2)] [] h Q X :=
  (lpC_go (w_X11_executeCommands_9 l G Q X p0 v1) (fun o (_ _ : Nat) => (fiI Q) o) (b_X11_executeCommands_9 p0 v1) (fun s o c m c2 m2 E hK => sb_X11_executeCommands_9 p0 v1 s.1 (s.2) E hK) _ _ _ _ _ _ _ E hK : w_X11_executeCommands_9 l G Q X p0 v1 (v2, h) (c2 + c) (m2 + m))
set_option maxRecDepth 100000 in
set_option maxHeartbeats 4000000 in
theorem s_X11_executeCommands_0 {l : Launch} {G : mG} {Q : Option Value → mH → Prop} {X : String → mH → Prop} (p0 : Nat) (v1 : Int32) (h : mH) {o : Int32 × mH} {c m c2 m2 : Nat} (E : f_X11_executeCommands p0 v1 h = some (o, c, m)) (hK : (fun o (_ _ : Nat) => (fiI Q) o) o c2 m2) : mW l G m_X11_executeCommands 7 (c2 + c) (m2 + m) 0 [some (.ref p0), some (.int v1), none] [] h Q X := by
  unfold f_X11_executeCommands at E
  refine q_aload_n dX11_executeCommands_0 rfl ?_
  replace E := grd_some E
  obtain ⟨g1, E⟩ := E
  replace E := orf_some E
  obtain ⟨a2, ea2, E⟩ := E
  refine r_getR dX11_executeCommands_1 FX11_29 g1 ea2 ?_
  replace E := grd_some E
  obtain ⟨g5, E⟩ := E
  replace E := cal_some E
  obtain ⟨_, h3, hc, E⟩ := E
  refine q_room (d' := 7) (mc' := 0 + (c2 + c)) (ms' := 0 + (m2 + m)) (Nat.le_refl _) (by omega) (by omega) ?_
  refine r_callV0 (mc := c2 + c) (ms := m2 + m) dX11_executeCommands_4 KX11_415 (c_X9_rewind hc) g5 (by decide) (Nat.le_of_ble_eq_true rfl) (fun _ _ q => q.elim) ?_
  rintro _ _ ⟨rfl, rfl⟩
  clear hc
  refine q_iconst dX11_executeCommands_7 ?_
  refine r_istore_n dX11_executeCommands_8 (by decide) rfl (ls' := [some (.ref p0), some (.int v1), some (.int (Int32.ofInt 0))]) rfl ?_
  exact r_fewer [some (.ref p0), some (.int v1), some (.int (Int32.ofInt 0))] (ls_s (ls_s (ls_s ls_0))) (s_X11_executeCommands_9 p0 v1 (Int32.ofInt 0) h3 E hK)
theorem c_X11_executeCommands {l : Launch} {G : mG} {p0 : Nat} {v1 : Int32} {h h' : mH} {r : Int32} {c m B1 B2 : Nat} (E : f_X11_executeCommands p0 v1 h = some ((r, h'), c, m)) (hb1 : c ≤ B1) (hb2 : m ≤ B2) : mMet l G m_X11_executeCommands 7 B1 B2 [.ref p0, .int v1] h (fun v k => v = some (.int r) ∧ h' = k) (fun _ _ => False) :=
  mMet_of (by decide +kernel) rfl (ac_c rfl (ac_c rfl ac_0)) (Nat.le_of_ble_eq_true rfl) (q_room (mc' := 0 + c) (ms' := 0 + m) (Nat.le_refl _) (by omega) (by omega) (s_X11_executeCommands_0 p0 v1 h E (And.intro rfl rfl)))
set_option maxRecDepth 100000 in
set_option maxHeartbeats 4000000 in
theorem s_X11_run_0 {l : Launch} {G : mG} {Q : Option Value → mH → Prop} {X : String → mH → Prop} (p0 : Nat) (h : mH) {o : (Int32 ⊕ String) × mH} (E : f_X11_run p0 h = some o) (hK : (fiIX Q X) o) : mW l G m_X11_run 8 21 2586 0 [some (.ref p0), none, none] [] h Q X := by
  unfold f_X11_run at E
  refine q_aload_n dX11_run_0 rfl ?_
  replace E := grd_some E
  obtain ⟨g1, E⟩ := E
  replace E := orf_some E
  obtain ⟨a2, ea2, E⟩ := E
  refine r_getR dX11_run_1 FX11_29 g1 ea2 ?_
  replace E := grd_some E
  obtain ⟨g5, E⟩ := E
  replace E := cal_some E
  obtain ⟨x4, h3, hc, E⟩ := E
  refine r_callV0 (mc := 21) (ms := 2586) dX11_run_4 KX11_356 (c_X9_readProgram hc) g5 (by decide) (Nat.le_of_ble_eq_true rfl) (fun _ _ q => q.elim) ?_
  rintro _ _ ⟨rfl, rfl⟩
  clear hc
  refine r_istore_n dX11_run_7 (by decide) rfl (ls' := [some (.ref p0), some (.int x4), none]) rfl ?_
  refine q_iload_n dX11_run_8 rfl ?_
  refine q_bipush (v := (Int32.ofInt (-4))) dX11_run_9 (by decide) ?_
  refine q_icmp_ne (tgt := 43) dX11_run_11 (by decide) (fun z6 => ?_) (fun z6 => ?_)
  · replace E := ite_f E z6
    refine q_aload_n dX11_run_43 rfl ?_
    replace E := grd_some E
    obtain ⟨g7, E⟩ := E
    replace E := orf_some E
    obtain ⟨a8, ea8, E⟩ := E
    refine r_getR dX11_run_44 FX11_22 g7 ea8 ?_
    refine q_aload_n dX11_run_47 rfl ?_
    replace E := orf_some E
    obtain ⟨a9, ea9, E⟩ := E
    refine r_getR dX11_run_48 FX11_10 g7 ea9 ?_
    replace E := grd_some E
    obtain ⟨g12, E⟩ := E
    replace E := cal_some E
    obtain ⟨_, h10, hc, E⟩ := E
    refine r_callV1 (mc := 21) (ms := 2586) dX11_run_51 KX11_130 (c_X1_prepare hc) g12 (by decide) (Nat.le_of_ble_eq_true rfl) (fun _ _ q => q.elim) ?_
    rintro _ _ ⟨rfl, rfl⟩
    clear hc
    refine q_aload_n dX11_run_54 rfl ?_
    refine q_iload_n dX11_run_55 rfl ?_
    replace E := grd_some E
    obtain ⟨g15, E⟩ := E
    replace E := calC_some E
    obtain ⟨x14, h13, ch13, mh13, hc, E⟩ := E
    replace E := grd_some E
    obtain ⟨gb, E⟩ := E
    refine r_callV1 (mc := 1) (ms := 6) dX11_run_56 KX11_361 (c_X11_executeCommands hc gb.1 gb.2) g15 (by decide) (Nat.le_of_ble_eq_true rfl) (fun _ _ q => q.elim) ?_
    rintro _ _ ⟨rfl, rfl⟩
    clear hc
    refine r_istore_n dX11_run_59 (by decide) rfl (ls' := [some (.ref p0), some (.int x4), some (.int x14)]) rfl ?_
    refine q_aload_n dX11_run_60 rfl ?_
    replace E := grd_some E
    obtain ⟨g16, E⟩ := E
    replace E := orf_some E
    obtain ⟨a17, ea17, E⟩ := E
    refine r_getR dX11_run_61 FX11_29 g16 ea17 ?_
    replace E := grd_some E
    obtain ⟨g20, E⟩ := E
    replace E := cal_some E
    obtain ⟨_, h18, hc, E⟩ := E
    refine r_callV0 (mc := 1) (ms := 6) dX11_run_64 KX11_122 (c_X9_empty hc) g20 (by decide) (Nat.le_of_ble_eq_true rfl) (fun _ _ q => q.elim) ?_
    rintro _ _ ⟨rfl, rfl⟩
    clear hc
    refine q_iload_n dX11_run_67 rfl ?_
    refine q_iload_n dX11_run_68 rfl ?_
    refine q_icmp_ge (tgt := 99) dX11_run_69 (by decide) (fun z21 => ?_) (fun z21 => ?_)
    · replace E := ite_t E z21
      refine q_aload_n dX11_run_99 rfl ?_
      replace E := grd_some E
      obtain ⟨g22, E⟩ := E
      replace E := orf_some E
      obtain ⟨a23, ea23, E⟩ := E
      refine r_getR dX11_run_100 FX11_22 g22 ea23 ?_
      replace E := grd_some E
      obtain ⟨g26, E⟩ := E
      refine q_room (d' := 8) (mc' := 0) (ms' := 0) (Nat.le_refl _) (Nat.le_of_ble_eq_true rfl) (Nat.le_of_ble_eq_true rfl) ?_
      replace E := cal_some E
      obtain ⟨_, h24, hc, E⟩ := E
      refine r_callV0 (mc := 0) (ms := 0) dX11_run_103 KX11_369 (c_X1_keepPrepared hc) g26 (by decide) (Nat.le_of_ble_eq_true rfl) (fun _ _ q => q.elim) ?_
      rintro _ _ ⟨rfl, rfl⟩
      clear hc
      refine q_iload_n dX11_run_106 rfl ?_
      cases E
      exact q_ireturn dX11_run_107 rfl hK
    · replace E := ite_f E z21
      refine q_aload_n dX11_run_72 rfl ?_
      refine q_iload_n dX11_run_73 rfl ?_
      replace E := grd_some E
      obtain ⟨g27, E⟩ := E
      replace E := bnd_x E
      obtain ⟨h28, eh28, E⟩ := E
      refine r_putI (hh := eh28) dX11_run_74 FX11_100 g27 rfl rfl ?_
      refine q_aload_n dX11_run_77 rfl ?_
      replace E := grd_some E
      obtain ⟨g29, E⟩ := E
      replace E := orf_some E
      obtain ⟨a30, ea30, E⟩ := E
      refine r_getR dX11_run_78 FX11_22 g29 ea30 ?_
      refine q_aload_n dX11_run_81 rfl ?_
      replace E := orf_some E
      obtain ⟨a31, ea31, E⟩ := E
      refine r_getR dX11_run_82 FX11_10 g29 ea31 ?_
      replace E := grd_some E
      obtain ⟨g34, E⟩ := E
      replace E := cal_some E
      obtain ⟨_, h32, hc, E⟩ := E
      refine r_callV1 (mc := 1) (ms := 6) dX11_run_85 KX11_364 (c_X1_takePrepared hc) g34 (by decide) (Nat.le_of_ble_eq_true rfl) (fun _ _ q => q.elim) ?_
      rintro _ _ ⟨rfl, rfl⟩
      clear hc
      cases E
      exact q_throwSW (mc := 0) (ms := 0) TX11_347_351 SX11_367 dX11_run_88 dX11_run_91 dX11_run_92 dX11_run_95 dX11_run_98 rfl (Nat.le_of_ble_eq_true rfl) hK
  · replace E := ite_t E z6
    refine q_aload_n dX11_run_14 rfl ?_
    refine q_aload_n dX11_run_15 rfl ?_
    replace E := grd_some E
    obtain ⟨g35, E⟩ := E
    replace E := orf_some E
    obtain ⟨a36, ea36, E⟩ := E
    refine r_getR dX11_run_16 FX11_29 g35 ea36 ?_
    replace E := grd_some E
    obtain ⟨g39, E⟩ := E
    refine q_room (d' := 8) (mc' := 1) (ms' := 6) (Nat.le_refl _) (Nat.le_of_ble_eq_true rfl) (Nat.le_of_ble_eq_true rfl) ?_
    replace E := cal_some E
    obtain ⟨x38, h37, hc, E⟩ := E
    refine r_callV0 (mc := 1) (ms := 6) dX11_run_19 KX11_118 (c_X9_position hc) g39 (by decide) (Nat.le_of_ble_eq_true rfl) (fun _ _ q => q.elim) ?_
    rintro _ _ ⟨rfl, rfl⟩
    clear hc
    replace E := grd_some E
    obtain ⟨g40, E⟩ := E
    replace E := bnd_x E
    obtain ⟨h41, eh41, E⟩ := E
    refine r_putI (hh := eh41) dX11_run_22 FX11_96 g40 rfl rfl ?_
    refine q_aload_n dX11_run_25 rfl ?_
    replace E := grd_some E
    obtain ⟨g42, E⟩ := E
    replace E := orf_some E
    obtain ⟨a43, ea43, E⟩ := E
    refine r_getR dX11_run_26 FX11_29 g42 ea43 ?_
    replace E := grd_some E
    obtain ⟨g46, E⟩ := E
    replace E := cal_some E
    obtain ⟨_, h44, hc, E⟩ := E
    refine r_callV0 (mc := 1) (ms := 6) dX11_run_29 KX11_122 (c_X9_empty hc) g46 (by decide) (Nat.le_of_ble_eq_true rfl) (fun _ _ q => q.elim) ?_
    rintro _ _ ⟨rfl, rfl⟩
    clear hc
    cases E
    exact q_throwSW (mc := 0) (ms := 0) TX11_125_129 SX11_359 dX11_run_32 dX11_run_35 dX11_run_36 dX11_run_39 dX11_run_42 rfl (Nat.le_of_ble_eq_true rfl) hK
theorem c_X11_run {l : Launch} {G : mG} {p0 : Nat} {h : mH} {o : (Int32 ⊕ String) × mH} (E : f_X11_run p0 h = some o) : mMet l G m_X11_run 8 21 2586 [.ref p0] h (fun v k => ∃ r, o = (.inl r, k) ∧ v = some (.int r)) (fun e k => ∃ k0, o = (.inr e, k0) ∧ ∃ n, nx k0 ≤ n ∧ k = sn k0 n) := by
  refine mMet_of (by decide +kernel) rfl (ac_c rfl ac_0) (Nat.le_of_ble_eq_true rfl) (s_X11_run_0 p0 h E ?_)
  obtain ⟨r | e, k⟩ := o
  · exact ⟨r, rfl, rfl⟩
  · exact fun n hn => ⟨k, rfl, n, hn, rfl⟩
set_option maxRecDepth 100000 in
set_option maxHeartbeats 4000000 in
theorem s_X11_errorPosition_0 {l : Launch} {G : mG} {Q : Option Value → mH → Prop} {X : String → mH → Prop} (p0 : Nat) (h : mH) {o : (Int32 ⊕ String) × mH} (E : f_X11_errorPosition p0 h = some o) (hK : (fiIX Q X) o) : mW l G m_X11_errorPosition 0 1 6 0 [some (.ref p0)] [] h Q X := by
  unfold f_X11_errorPosition at E
  refine q_aload_n dX11_errorPosition_0 rfl ?_
  replace E := grd_some E
  obtain ⟨g1, E⟩ := E
  refine r_getI dX11_errorPosition_1 FX11_96 g1 ?_
  refine q_if_ge (tgt := 18) dX11_errorPosition_4 (by decide) (fun z2 => ?_) (fun z2 => ?_)
  · replace E := ite_t E z2
    refine q_aload_n dX11_errorPosition_18 rfl ?_
    refine r_getI dX11_errorPosition_19 FX11_96 g1 ?_
    cases E
    exact q_ireturn dX11_errorPosition_22 rfl hK
  · replace E := ite_f E z2
    cases E
    exact q_throwNS (mc := 0) (ms := 0) TX11_286_290 SX11_372 dX11_errorPosition_7 dX11_errorPosition_10 dX11_errorPosition_11 dX11_errorPosition_14 dX11_errorPosition_17 rfl (Nat.le_of_ble_eq_true rfl) hK
theorem c_X11_errorPosition {l : Launch} {G : mG} {p0 : Nat} {h : mH} {o : (Int32 ⊕ String) × mH} (E : f_X11_errorPosition p0 h = some o) : mMet l G m_X11_errorPosition 0 1 6 [.ref p0] h (fun v k => ∃ r, o = (.inl r, k) ∧ v = some (.int r)) (fun e k => ∃ k0, o = (.inr e, k0) ∧ ∃ n, nx k0 ≤ n ∧ k = sn k0 n) := by
  refine mMet_of (by decide +kernel) rfl (ac_c rfl ac_0) (Nat.le_of_ble_eq_true rfl) (s_X11_errorPosition_0 p0 h E ?_)
  obtain ⟨r | e, k⟩ := o
  · exact ⟨r, rfl, rfl⟩
  · exact fun n hn => ⟨k, rfl, n, hn, rfl⟩
set_option maxRecDepth 100000 in
set_option maxHeartbeats 4000000 in
theorem s_X11_failedCommand_0 {l : Launch} {G : mG} {Q : Option Value → mH → Prop} {X : String → mH → Prop} (p0 : Nat) (h : mH) {o : (Int32 ⊕ String) × mH} (E : f_X11_failedCommand p0 h = some o) (hK : (fiIX Q X) o) : mW l G m_X11_failedCommand 0 1 6 0 [some (.ref p0)] [] h Q X := by
  unfold f_X11_failedCommand at E
  refine q_aload_n dX11_failedCommand_0 rfl ?_
  replace E := grd_some E
  obtain ⟨g1, E⟩ := E
  refine r_getI dX11_failedCommand_1 FX11_100 g1 ?_
  refine q_if_ge (tgt := 18) dX11_failedCommand_4 (by decide) (fun z2 => ?_) (fun z2 => ?_)
  · replace E := ite_t E z2
    refine q_aload_n dX11_failedCommand_18 rfl ?_
    refine r_getI dX11_failedCommand_19 FX11_100 g1 ?_
    cases E
    exact q_ireturn dX11_failedCommand_22 rfl hK
  · replace E := ite_f E z2
    cases E
    exact q_throwNS (mc := 0) (ms := 0) TX11_286_290 SX11_374 dX11_failedCommand_7 dX11_failedCommand_10 dX11_failedCommand_11 dX11_failedCommand_14 dX11_failedCommand_17 rfl (Nat.le_of_ble_eq_true rfl) hK
theorem c_X11_failedCommand {l : Launch} {G : mG} {p0 : Nat} {h : mH} {o : (Int32 ⊕ String) × mH} (E : f_X11_failedCommand p0 h = some o) : mMet l G m_X11_failedCommand 0 1 6 [.ref p0] h (fun v k => ∃ r, o = (.inl r, k) ∧ v = some (.int r)) (fun e k => ∃ k0, o = (.inr e, k0) ∧ ∃ n, nx k0 ≤ n ∧ k = sn k0 n) := by
  refine mMet_of (by decide +kernel) rfl (ac_c rfl ac_0) (Nat.le_of_ble_eq_true rfl) (s_X11_failedCommand_0 p0 h E ?_)
  obtain ⟨r | e, k⟩ := o
  · exact ⟨r, rfl, rfl⟩
  · exact fun n hn => ⟨k, rfl, n, hn, rfl⟩
set_option maxRecDepth 100000 in
set_option maxHeartbeats 4000000 in
theorem s_X11_undoableCount_0 {l : Launch} {G : mG} {Q : Option Value → mH → Prop} {X : String → mH → Prop} (p0 : Nat) (h : mH) {o : Int32 × mH} (E : f_X11_undoableCount p0 h = some o) (hK : (fiI Q) o) : mW l G m_X11_undoableCount 1 0 0 0 [some (.ref p0)] [] h Q X := by
  unfold f_X11_undoableCount at E
  refine q_aload_n dX11_undoableCount_0 rfl ?_
  replace E := grd_some E
  obtain ⟨g1, E⟩ := E
  replace E := orf_some E
  obtain ⟨a2, ea2, E⟩ := E
  refine r_getR dX11_undoableCount_1 FX11_22 g1 ea2 ?_
  replace E := grd_some E
  obtain ⟨g5, E⟩ := E
  replace E := cal_some E
  obtain ⟨x4, h3, hc, E⟩ := E
  refine r_callV0 (mc := 0) (ms := 0) dX11_undoableCount_4 KX11_376 (c_X1_size hc) g5 (by decide) (Nat.le_of_ble_eq_true rfl) (fun _ _ q => q.elim) ?_
  rintro _ _ ⟨rfl, rfl⟩
  clear hc
  cases E
  exact q_ireturn dX11_undoableCount_7 rfl hK
theorem c_X11_undoableCount {l : Launch} {G : mG} {p0 : Nat} {h h' : mH} {r : Int32} (E : f_X11_undoableCount p0 h = some (r, h')) : mMet l G m_X11_undoableCount 1 0 0 [.ref p0] h (fun v k => v = some (.int r) ∧ h' = k) (fun _ _ => False) :=
  mMet_of (by decide +kernel) rfl (ac_c rfl ac_0) (Nat.le_of_ble_eq_true rfl) (s_X11_undoableCount_0 p0 h E (And.intro rfl rfl))
set_option maxRecDepth 100000 in
set_option maxHeartbeats 4000000 in
theorem s_X11_undo_0 {l : Launch} {G : mG} {Q : Option Value → mH → Prop} {X : String → mH → Prop} (p0 : Nat) (h : mH) {o : (Int32 ⊕ String) × mH} (E : f_X11_undo p0 h = some o) (hK : (fiIX Q X) o) : mW l G m_X11_undo 3 1 6 0 [some (.ref p0)] [] h Q X := by
  unfold f_X11_undo at E
  refine q_aload_n dX11_undo_0 rfl ?_
  replace E := grd_some E
  obtain ⟨g1, E⟩ := E
  replace E := orf_some E
  obtain ⟨a2, ea2, E⟩ := E
  refine r_getR dX11_undo_1 FX11_22 g1 ea2 ?_
  replace E := grd_some E
  obtain ⟨g5, E⟩ := E
  replace E := cal_some E
  obtain ⟨x4, h3, hc, E⟩ := E
  refine r_callV0 (mc := 1) (ms := 6) dX11_undo_4 KX11_376 (c_X1_size hc) g5 (by decide) (Nat.le_of_ble_eq_true rfl) (fun _ _ q => q.elim) ?_
  rintro _ _ ⟨rfl, rfl⟩
  clear hc
  refine q_if_ne (tgt := 21) dX11_undo_7 (by decide) (fun z6 => ?_) (fun z6 => ?_)
  · replace E := ite_f E z6
    refine q_aload_n dX11_undo_21 rfl ?_
    replace E := grd_some E
    obtain ⟨g7, E⟩ := E
    replace E := orf_some E
    obtain ⟨a8, ea8, E⟩ := E
    refine r_getR dX11_undo_22 FX11_22 g7 ea8 ?_
    refine q_aload_n dX11_undo_25 rfl ?_
    replace E := orf_some E
    obtain ⟨a9, ea9, E⟩ := E
    refine r_getR dX11_undo_26 FX11_10 g7 ea9 ?_
    replace E := grd_some E
    obtain ⟨g12, E⟩ := E
    refine q_room (d' := 3) (mc' := 0) (ms' := 0) (Nat.le_refl _) (Nat.le_of_ble_eq_true rfl) (Nat.le_of_ble_eq_true rfl) ?_
    replace E := cal_some E
    obtain ⟨_, h10, hc, E⟩ := E
    refine r_callV1 (mc := 0) (ms := 0) dX11_undo_29 KX11_379 (c_X1_takeLatest hc) g12 (by decide) (Nat.le_of_ble_eq_true rfl) (fun _ _ q => q.elim) ?_
    rintro _ _ ⟨rfl, rfl⟩
    clear hc
    refine q_aload_n dX11_undo_32 rfl ?_
    replace E := grd_some E
    obtain ⟨g13, E⟩ := E
    replace E := orf_some E
    obtain ⟨a14, ea14, E⟩ := E
    refine r_getR dX11_undo_33 FX11_22 g13 ea14 ?_
    replace E := grd_some E
    obtain ⟨g17, E⟩ := E
    replace E := cal_some E
    obtain ⟨x16, h15, hc, E⟩ := E
    refine r_callV0 (mc := 0) (ms := 0) dX11_undo_36 KX11_376 (c_X1_size hc) g17 (by decide) (Nat.le_of_ble_eq_true rfl) (fun _ _ q => q.elim) ?_
    rintro _ _ ⟨rfl, rfl⟩
    clear hc
    cases E
    exact q_ireturn dX11_undo_39 rfl hK
  · replace E := ite_t E z6
    cases E
    exact q_throwSW (mc := 0) (ms := 0) TX11_347_351 SX11_377 dX11_undo_10 dX11_undo_13 dX11_undo_14 dX11_undo_17 dX11_undo_20 rfl (Nat.le_of_ble_eq_true rfl) hK
theorem c_X11_undo {l : Launch} {G : mG} {p0 : Nat} {h : mH} {o : (Int32 ⊕ String) × mH} (E : f_X11_undo p0 h = some o) : mMet l G m_X11_undo 3 1 6 [.ref p0] h (fun v k => ∃ r, o = (.inl r, k) ∧ v = some (.int r)) (fun e k => ∃ k0, o = (.inr e, k0) ∧ ∃ n, nx k0 ≤ n ∧ k = sn k0 n) := by
  refine mMet_of (by decide +kernel) rfl (ac_c rfl ac_0) (Nat.le_of_ble_eq_true rfl) (s_X11_undo_0 p0 h E ?_)
  obtain ⟨r | e, k⟩ := o
  · exact ⟨r, rfl, rfl⟩
  · exact fun n hn => ⟨k, rfl, n, hn, rfl⟩
set_option maxRecDepth 100000 in
set_option maxHeartbeats 4000000 in
theorem s_X11_save_0 {l : Launch} {G : mG} {Q : Option Value → mH → Prop} {X : String → mH → Prop} (p0 : Nat) (h : mH) {o : Int32 × mH} (E : f_X11_save p0 h = some o) (hK : (fiI Q) o) : mW l G m_X11_save 1 0 0 0 [some (.ref p0)] [] h Q X := by
  unfold f_X11_save at E
  refine q_aload_n dX11_save_0 rfl ?_
  replace E := grd_some E
  obtain ⟨g1, E⟩ := E
  replace E := orf_some E
  obtain ⟨a2, ea2, E⟩ := E
  refine r_getR dX11_save_1 FX11_16 g1 ea2 ?_
  refine q_aload_n dX11_save_4 rfl ?_
  replace E := orf_some E
  obtain ⟨a3, ea3, E⟩ := E
  refine r_getR dX11_save_5 FX11_10 g1 ea3 ?_
  replace E := grd_some E
  obtain ⟨g6, E⟩ := E
  replace E := cal_some E
  obtain ⟨_, h4, hc, E⟩ := E
  refine r_callV1 (mc := 0) (ms := 0) dX11_save_8 KX11_382 (c_X6_copyFrom hc) g6 (by decide) (Nat.le_of_ble_eq_true rfl) (fun _ _ q => q.elim) ?_
  rintro _ _ ⟨rfl, rfl⟩
  clear hc
  refine q_aload_n dX11_save_11 rfl ?_
  refine q_iconst dX11_save_12 ?_
  replace E := grd_some E
  obtain ⟨g7, E⟩ := E
  replace E := bnd_x E
  obtain ⟨h8, eh8, E⟩ := E
  refine r_putI (hh := eh8) dX11_save_13 FX11_92 g7 (by decide) (by decide) ?_
  refine q_aload_n dX11_save_16 rfl ?_
  replace E := grd_some E
  obtain ⟨g9, E⟩ := E
  replace E := orf_some E
  obtain ⟨a10, ea10, E⟩ := E
  refine r_getR dX11_save_17 FX11_10 g9 ea10 ?_
  replace E := grd_some E
  obtain ⟨g13, E⟩ := E
  replace E := cal_some E
  obtain ⟨x12, h11, hc, E⟩ := E
  refine r_callV0 (mc := 0) (ms := 0) dX11_save_20 KX11_171 (c_X6_patternTotal hc) g13 (by decide) (Nat.le_of_ble_eq_true rfl) (fun _ _ q => q.elim) ?_
  rintro _ _ ⟨rfl, rfl⟩
  clear hc
  cases E
  exact q_ireturn dX11_save_23 rfl hK
theorem c_X11_save {l : Launch} {G : mG} {p0 : Nat} {h h' : mH} {r : Int32} (E : f_X11_save p0 h = some (r, h')) : mMet l G m_X11_save 1 0 0 [.ref p0] h (fun v k => v = some (.int r) ∧ h' = k) (fun _ _ => False) :=
  mMet_of (by decide +kernel) rfl (ac_c rfl ac_0) (Nat.le_of_ble_eq_true rfl) (s_X11_save_0 p0 h E (And.intro rfl rfl))
set_option maxRecDepth 100000 in
set_option maxHeartbeats 4000000 in
theorem s_X11_restore_0 {l : Launch} {G : mG} {Q : Option Value → mH → Prop} {X : String → mH → Prop} (p0 : Nat) (h : mH) {o : (Int32 ⊕ String) × mH} (E : f_X11_restore p0 h = some o) (hK : (fiIX Q X) o) : mW l G m_X11_restore 1 1 6 0 [some (.ref p0)] [] h Q X := by
  unfold f_X11_restore at E
  refine q_aload_n dX11_restore_0 rfl ?_
  replace E := grd_some E
  obtain ⟨g1, E⟩ := E
  refine r_getI dX11_restore_1 FX11_92 g1 ?_
  refine q_if_ne (tgt := 18) dX11_restore_4 (by decide) (fun z2 => ?_) (fun z2 => ?_)
  · replace E := ite_f E z2
    refine q_aload_n dX11_restore_18 rfl ?_
    replace E := orf_some E
    obtain ⟨a3, ea3, E⟩ := E
    refine r_getR dX11_restore_19 FX11_10 g1 ea3 ?_
    refine q_aload_n dX11_restore_22 rfl ?_
    replace E := orf_some E
    obtain ⟨a4, ea4, E⟩ := E
    refine r_getR dX11_restore_23 FX11_16 g1 ea4 ?_
    replace E := grd_some E
    obtain ⟨g7, E⟩ := E
    refine q_room (d' := 1) (mc' := 0) (ms' := 0) (Nat.le_refl _) (Nat.le_of_ble_eq_true rfl) (Nat.le_of_ble_eq_true rfl) ?_
    replace E := cal_some E
    obtain ⟨_, h5, hc, E⟩ := E
    refine r_callV1 (mc := 0) (ms := 0) dX11_restore_26 KX11_382 (c_X6_copyFrom hc) g7 (by decide) (Nat.le_of_ble_eq_true rfl) (fun _ _ q => q.elim) ?_
    rintro _ _ ⟨rfl, rfl⟩
    clear hc
    refine q_aload_n dX11_restore_29 rfl ?_
    replace E := grd_some E
    obtain ⟨g8, E⟩ := E
    replace E := orf_some E
    obtain ⟨a9, ea9, E⟩ := E
    refine r_getR dX11_restore_30 FX11_22 g8 ea9 ?_
    replace E := grd_some E
    obtain ⟨g12, E⟩ := E
    replace E := cal_some E
    obtain ⟨_, h10, hc, E⟩ := E
    refine r_callV0 (mc := 0) (ms := 0) dX11_restore_33 KX11_387 (c_X1_forget hc) g12 (by decide) (Nat.le_of_ble_eq_true rfl) (fun _ _ q => q.elim) ?_
    rintro _ _ ⟨rfl, rfl⟩
    clear hc
    refine q_aload_n dX11_restore_36 rfl ?_
    replace E := grd_some E
    obtain ⟨g13, E⟩ := E
    replace E := orf_some E
    obtain ⟨a14, ea14, E⟩ := E
    refine r_getR dX11_restore_37 FX11_10 g13 ea14 ?_
    replace E := grd_some E
    obtain ⟨g17, E⟩ := E
    replace E := cal_some E
    obtain ⟨x16, h15, hc, E⟩ := E
    refine r_callV0 (mc := 0) (ms := 0) dX11_restore_40 KX11_171 (c_X6_patternTotal hc) g17 (by decide) (Nat.le_of_ble_eq_true rfl) (fun _ _ q => q.elim) ?_
    rintro _ _ ⟨rfl, rfl⟩
    clear hc
    cases E
    exact q_ireturn dX11_restore_43 rfl hK
  · replace E := ite_t E z2
    cases E
    exact q_throwSW (mc := 0) (ms := 0) TX11_347_351 SX11_385 dX11_restore_7 dX11_restore_10 dX11_restore_11 dX11_restore_14 dX11_restore_17 rfl (Nat.le_of_ble_eq_true rfl) hK
theorem c_X11_restore {l : Launch} {G : mG} {p0 : Nat} {h : mH} {o : (Int32 ⊕ String) × mH} (E : f_X11_restore p0 h = some o) : mMet l G m_X11_restore 1 1 6 [.ref p0] h (fun v k => ∃ r, o = (.inl r, k) ∧ v = some (.int r)) (fun e k => ∃ k0, o = (.inr e, k0) ∧ ∃ n, nx k0 ≤ n ∧ k = sn k0 n) := by
  refine mMet_of (by decide +kernel) rfl (ac_c rfl ac_0) (Nat.le_of_ble_eq_true rfl) (s_X11_restore_0 p0 h E ?_)
  obtain ⟨r | e, k⟩ := o
  · exact ⟨r, rfl, rfl⟩
  · exact fun n hn => ⟨k, rfl, n, hn, rfl⟩
