/-! what a caller that catches makes of a call: its answer stored, or the number of what was thrown -/
def cdl (es : List String) (e : String) : Int32 := Int32.ofNat (es.findIdx (fun x => x == e) + 1)
def hQ {ρ : Type} (o : (ρ ⊕ String) × mH) (wr : ρ → mH → mH) (es : List String) (v : Option Value) (k : mH) : Prop := match o with
  | (.inl r, k0) => v = some (.int 0) ∧ k = wr r k0
  | (.inr e, k0) => v = some (.int (cdl es e)) ∧ ∃ n, nx k0 ≤ n ∧ k = sn k0 n
theorem ix0 {n : Nat} (h : 0 < n) : Ix (Int32.ofInt 0) 0 n := ix_of ⟨by decide, by rw [show (Int32.ofInt 0).toNatClampNeg = 0 from by decide +kernel]; exact h⟩
set_option maxRecDepth 100000 in
theorem c_L_define {l : Launch} {G : mG} {p0 p2 : Nat} {v1 : Int32} {h : mH} {o : (Int32 ⊕ String) × mH} (E : f_X11_define p0 v1 h = some o) (hk : kd h p0 = 16) (ho : ∀ r k, o = (.inl r, k) → kd k p2 = 105 ∧ 0 < sz k p2) (hx : ∀ e k, o = (.inr e, k) → e ∈ [xI, xA, xS]) : mMet l G m_L_define 6 3 264 [.ref p0, .int v1, .ref p2] h (hQ o (fun r k => sl k p2 0 r.toInt64) [xI, xA, xS]) (fun _ _ => False) := by
  refine mMet_ofH (by decide +kernel) (by decide) (ac_c rfl (ac_c rfl (ac_c rfl ac_0))) (Nat.le_of_ble_eq_true rfl) ?_
  refine q_aload_n dL_define_0 rfl ?_
  refine q_iconst dL_define_1 ?_
  refine q_aload_n dL_define_2 rfl ?_
  refine q_iload_n dL_define_3 rfl ?_
  refine q_callVH (mc := 0) (ms := 0) (As := [.int v1]) dL_define_4 KL_7 (c_X11_define E) hk rfl (by decide) (Nat.le_of_ble_eq_true rfl) ?_ ?_
  · rintro e k ⟨k0, rfl, n, hn, rfl⟩
    have he := hx _ _ rfl
    rcases List.mem_cons.mp he with rfl | he
    · refine ⟨12, ⟨[], ⟨0, 9, 12, 13⟩, [⟨0, 9, 15, 15⟩, ⟨0, 9, 18, 17⟩], rfl, rfl, by decide +kernel, by decide, CLx_13, CAx_xI, fun z hz => by
        cases hz⟩, fun q => ?_⟩
      refine q_astore_n dL_define_12 (by decide) ?_
      refine q_iconst dL_define_13 ?_
      exact q_ireturn dL_define_14 rfl ⟨by rfl, n, hn, rfl⟩
    rcases List.mem_cons.mp he with rfl | he
    · refine ⟨15, ⟨[⟨0, 9, 12, 13⟩], ⟨0, 9, 15, 15⟩, [⟨0, 9, 18, 17⟩], rfl, rfl, by decide +kernel, by decide, CLx_15, CAx_xA, fun z hz => by
        rcases List.mem_cons.mp hz with rfl | hz; · exact Or.inr ⟨by decide, _, CLx_13, by decide +kernel⟩
        cases hz⟩, fun q => ?_⟩
      refine q_astore_n dL_define_15 (by decide) ?_
      refine q_iconst dL_define_16 ?_
      exact q_ireturn dL_define_17 rfl ⟨by rfl, n, hn, rfl⟩
    rcases List.mem_cons.mp he with rfl | he
    · refine ⟨18, ⟨[⟨0, 9, 12, 13⟩, ⟨0, 9, 15, 15⟩], ⟨0, 9, 18, 17⟩, [], rfl, rfl, by decide +kernel, by decide, CLx_17, CAx_xS, fun z hz => by
        rcases List.mem_cons.mp hz with rfl | hz; · exact Or.inr ⟨by decide, _, CLx_13, by decide +kernel⟩
        rcases List.mem_cons.mp hz with rfl | hz; · exact Or.inr ⟨by decide, _, CLx_15, by decide +kernel⟩
        cases hz⟩, fun q => ?_⟩
      refine q_astore_n dL_define_18 (by decide) ?_
      refine q_iconst dL_define_19 ?_
      exact q_ireturn dL_define_20 rfl ⟨by rfl, n, hn, rfl⟩
    · cases he
  · rintro v k ⟨r, rfl, rfl⟩
    obtain ⟨h1, h2⟩ := ho _ _ rfl
    refine q_i2l dL_define_7 ?_
    refine q_lastore dL_define_8 h1 (ix0 h2) ?_
    refine q_goto (tgt := 21) dL_define_9 (by decide) ?_
    refine q_iconst dL_define_21 ?_
    exact q_ireturn dL_define_22 rfl ⟨rfl, rfl⟩
set_option maxRecDepth 100000 in
theorem c_L_unite {l : Launch} {G : mG} {p0 p4 : Nat} {v1 : Int32} {v2 : Int32} {v3 : Int32} {h : mH} {o : (Int32 ⊕ String) × mH} (E : f_X11_unite p0 v1 v2 v3 h = some o) (hk : kd h p0 = 16) (ho : ∀ r k, o = (.inl r, k) → kd k p4 = 105 ∧ 0 < sz k p4) (hx : ∀ e k, o = (.inr e, k) → e ∈ [xI, xN, xS]) : mMet l G m_L_unite 5 3 264 [.ref p0, .int v1, .int v2, .int v3, .ref p4] h (hQ o (fun r k => sl k p4 0 r.toInt64) [xI, xN, xS]) (fun _ _ => False) := by
  refine mMet_ofH (by decide +kernel) (by decide) (ac_c rfl (ac_c rfl (ac_c rfl (ac_c rfl (ac_c rfl ac_0))))) (Nat.le_of_ble_eq_true rfl) ?_
  refine q_aload dL_unite_0 rfl ?_
  refine q_iconst dL_unite_2 ?_
  refine q_aload_n dL_unite_3 rfl ?_
  refine q_iload_n dL_unite_4 rfl ?_
  refine q_iload_n dL_unite_5 rfl ?_
  refine q_iload_n dL_unite_6 rfl ?_
  refine q_callVH (mc := 0) (ms := 0) (As := [.int v1, .int v2, .int v3]) dL_unite_7 KL_19 (c_X11_unite E) hk rfl (by decide) (Nat.le_of_ble_eq_true rfl) ?_ ?_
  · rintro e k ⟨k0, rfl, n, hn, rfl⟩
    have he := hx _ _ rfl
    rcases List.mem_cons.mp he with rfl | he
    · refine ⟨15, ⟨[], ⟨0, 12, 15, 13⟩, [⟨0, 12, 19, 23⟩, ⟨0, 12, 23, 17⟩], rfl, rfl, by decide +kernel, by decide, CLx_13, CAx_xI, fun z hz => by
        cases hz⟩, fun q => ?_⟩
      refine q_astore dL_unite_15 (by decide) ?_
      refine q_iconst dL_unite_17 ?_
      exact q_ireturn dL_unite_18 rfl ⟨by rfl, n, hn, rfl⟩
    rcases List.mem_cons.mp he with rfl | he
    · refine ⟨19, ⟨[⟨0, 12, 15, 13⟩], ⟨0, 12, 19, 23⟩, [⟨0, 12, 23, 17⟩], rfl, rfl, by decide +kernel, by decide, CLx_23, CAx_xN, fun z hz => by
        rcases List.mem_cons.mp hz with rfl | hz; · exact Or.inr ⟨by decide, _, CLx_13, by decide +kernel⟩
        cases hz⟩, fun q => ?_⟩
      refine q_astore dL_unite_19 (by decide) ?_
      refine q_iconst dL_unite_21 ?_
      exact q_ireturn dL_unite_22 rfl ⟨by rfl, n, hn, rfl⟩
    rcases List.mem_cons.mp he with rfl | he
    · refine ⟨23, ⟨[⟨0, 12, 15, 13⟩, ⟨0, 12, 19, 23⟩], ⟨0, 12, 23, 17⟩, [], rfl, rfl, by decide +kernel, by decide, CLx_17, CAx_xS, fun z hz => by
        rcases List.mem_cons.mp hz with rfl | hz; · exact Or.inr ⟨by decide, _, CLx_13, by decide +kernel⟩
        rcases List.mem_cons.mp hz with rfl | hz; · exact Or.inr ⟨by decide, _, CLx_23, by decide +kernel⟩
        cases hz⟩, fun q => ?_⟩
      refine q_astore dL_unite_23 (by decide) ?_
      refine q_iconst dL_unite_25 ?_
      exact q_ireturn dL_unite_26 rfl ⟨by rfl, n, hn, rfl⟩
    · cases he
  · rintro v k ⟨r, rfl, rfl⟩
    obtain ⟨h1, h2⟩ := ho _ _ rfl
    refine q_i2l dL_unite_10 ?_
    refine q_lastore dL_unite_11 h1 (ix0 h2) ?_
    refine q_goto (tgt := 27) dL_unite_12 (by decide) ?_
    refine q_iconst dL_unite_27 ?_
    exact q_ireturn dL_unite_28 rfl ⟨rfl, rfl⟩
set_option maxRecDepth 100000 in
theorem c_L_concatenate {l : Launch} {G : mG} {p0 p4 : Nat} {v1 : Int32} {v2 : Int32} {v3 : Int32} {h : mH} {o : (Int32 ⊕ String) × mH} (E : f_X11_concatenate p0 v1 v2 v3 h = some o) (hk : kd h p0 = 16) (ho : ∀ r k, o = (.inl r, k) → kd k p4 = 105 ∧ 0 < sz k p4) (hx : ∀ e k, o = (.inr e, k) → e ∈ [xI, xN, xS]) : mMet l G m_L_concatenate 5 3 264 [.ref p0, .int v1, .int v2, .int v3, .ref p4] h (hQ o (fun r k => sl k p4 0 r.toInt64) [xI, xN, xS]) (fun _ _ => False) := by
  refine mMet_ofH (by decide +kernel) (by decide) (ac_c rfl (ac_c rfl (ac_c rfl (ac_c rfl (ac_c rfl ac_0))))) (Nat.le_of_ble_eq_true rfl) ?_
  refine q_aload dL_concatenate_0 rfl ?_
  refine q_iconst dL_concatenate_2 ?_
  refine q_aload_n dL_concatenate_3 rfl ?_
  refine q_iload_n dL_concatenate_4 rfl ?_
  refine q_iload_n dL_concatenate_5 rfl ?_
  refine q_iload_n dL_concatenate_6 rfl ?_
  refine q_callVH (mc := 0) (ms := 0) (As := [.int v1, .int v2, .int v3]) dL_concatenate_7 KL_25 (c_X11_concatenate E) hk rfl (by decide) (Nat.le_of_ble_eq_true rfl) ?_ ?_
  · rintro e k ⟨k0, rfl, n, hn, rfl⟩
    have he := hx _ _ rfl
    rcases List.mem_cons.mp he with rfl | he
    · refine ⟨15, ⟨[], ⟨0, 12, 15, 13⟩, [⟨0, 12, 19, 23⟩, ⟨0, 12, 23, 17⟩], rfl, rfl, by decide +kernel, by decide, CLx_13, CAx_xI, fun z hz => by
        cases hz⟩, fun q => ?_⟩
      refine q_astore dL_concatenate_15 (by decide) ?_
      refine q_iconst dL_concatenate_17 ?_
      exact q_ireturn dL_concatenate_18 rfl ⟨by rfl, n, hn, rfl⟩
    rcases List.mem_cons.mp he with rfl | he
    · refine ⟨19, ⟨[⟨0, 12, 15, 13⟩], ⟨0, 12, 19, 23⟩, [⟨0, 12, 23, 17⟩], rfl, rfl, by decide +kernel, by decide, CLx_23, CAx_xN, fun z hz => by
        rcases List.mem_cons.mp hz with rfl | hz; · exact Or.inr ⟨by decide, _, CLx_13, by decide +kernel⟩
        cases hz⟩, fun q => ?_⟩
      refine q_astore dL_concatenate_19 (by decide) ?_
      refine q_iconst dL_concatenate_21 ?_
      exact q_ireturn dL_concatenate_22 rfl ⟨by rfl, n, hn, rfl⟩
    rcases List.mem_cons.mp he with rfl | he
    · refine ⟨23, ⟨[⟨0, 12, 15, 13⟩, ⟨0, 12, 19, 23⟩], ⟨0, 12, 23, 17⟩, [], rfl, rfl, by decide +kernel, by decide, CLx_17, CAx_xS, fun z hz => by
        rcases List.mem_cons.mp hz with rfl | hz; · exact Or.inr ⟨by decide, _, CLx_13, by decide +kernel⟩
        rcases List.mem_cons.mp hz with rfl | hz; · exact Or.inr ⟨by decide, _, CLx_23, by decide +kernel⟩
        cases hz⟩, fun q => ?_⟩
      refine q_astore dL_concatenate_23 (by decide) ?_
      refine q_iconst dL_concatenate_25 ?_
      exact q_ireturn dL_concatenate_26 rfl ⟨by rfl, n, hn, rfl⟩
    · cases he
  · rintro v k ⟨r, rfl, rfl⟩
    obtain ⟨h1, h2⟩ := ho _ _ rfl
    refine q_i2l dL_concatenate_10 ?_
    refine q_lastore dL_concatenate_11 h1 (ix0 h2) ?_
    refine q_goto (tgt := 27) dL_concatenate_12 (by decide) ?_
    refine q_iconst dL_concatenate_27 ?_
    exact q_ireturn dL_concatenate_28 rfl ⟨rfl, rfl⟩
set_option maxRecDepth 100000 in
theorem c_L_repeat {l : Launch} {G : mG} {p0 p3 : Nat} {v1 : Int32} {v2 : Int32} {h : mH} {o : (Int32 ⊕ String) × mH} (E : f_X11_repeat p0 v1 v2 h = some o) (hk : kd h p0 = 16) (ho : ∀ r k, o = (.inl r, k) → kd k p3 = 105 ∧ 0 < sz k p3) (hx : ∀ e k, o = (.inr e, k) → e ∈ [xI, xN, xS]) : mMet l G m_L_repeat 5 3 264 [.ref p0, .int v1, .int v2, .ref p3] h (hQ o (fun r k => sl k p3 0 r.toInt64) [xI, xN, xS]) (fun _ _ => False) := by
  refine mMet_ofH (by decide +kernel) (by decide) (ac_c rfl (ac_c rfl (ac_c rfl (ac_c rfl ac_0)))) (Nat.le_of_ble_eq_true rfl) ?_
  refine q_aload_n dL_repeat_0 rfl ?_
  refine q_iconst dL_repeat_1 ?_
  refine q_aload_n dL_repeat_2 rfl ?_
  refine q_iload_n dL_repeat_3 rfl ?_
  refine q_iload_n dL_repeat_4 rfl ?_
  refine q_callVH (mc := 0) (ms := 0) (As := [.int v1, .int v2]) dL_repeat_5 KL_28 (c_X11_repeat E) hk rfl (by decide) (Nat.le_of_ble_eq_true rfl) ?_ ?_
  · rintro e k ⟨k0, rfl, n, hn, rfl⟩
    have he := hx _ _ rfl
    rcases List.mem_cons.mp he with rfl | he
    · refine ⟨13, ⟨[], ⟨0, 10, 13, 13⟩, [⟨0, 10, 17, 23⟩, ⟨0, 10, 21, 17⟩], rfl, rfl, by decide +kernel, by decide, CLx_13, CAx_xI, fun z hz => by
        cases hz⟩, fun q => ?_⟩
      refine q_astore dL_repeat_13 (by decide) ?_
      refine q_iconst dL_repeat_15 ?_
      exact q_ireturn dL_repeat_16 rfl ⟨by rfl, n, hn, rfl⟩
    rcases List.mem_cons.mp he with rfl | he
    · refine ⟨17, ⟨[⟨0, 10, 13, 13⟩], ⟨0, 10, 17, 23⟩, [⟨0, 10, 21, 17⟩], rfl, rfl, by decide +kernel, by decide, CLx_23, CAx_xN, fun z hz => by
        rcases List.mem_cons.mp hz with rfl | hz; · exact Or.inr ⟨by decide, _, CLx_13, by decide +kernel⟩
        cases hz⟩, fun q => ?_⟩
      refine q_astore dL_repeat_17 (by decide) ?_
      refine q_iconst dL_repeat_19 ?_
      exact q_ireturn dL_repeat_20 rfl ⟨by rfl, n, hn, rfl⟩
    rcases List.mem_cons.mp he with rfl | he
    · refine ⟨21, ⟨[⟨0, 10, 13, 13⟩, ⟨0, 10, 17, 23⟩], ⟨0, 10, 21, 17⟩, [], rfl, rfl, by decide +kernel, by decide, CLx_17, CAx_xS, fun z hz => by
        rcases List.mem_cons.mp hz with rfl | hz; · exact Or.inr ⟨by decide, _, CLx_13, by decide +kernel⟩
        rcases List.mem_cons.mp hz with rfl | hz; · exact Or.inr ⟨by decide, _, CLx_23, by decide +kernel⟩
        cases hz⟩, fun q => ?_⟩
      refine q_astore dL_repeat_21 (by decide) ?_
      refine q_iconst dL_repeat_23 ?_
      exact q_ireturn dL_repeat_24 rfl ⟨by rfl, n, hn, rfl⟩
    · cases he
  · rintro v k ⟨r, rfl, rfl⟩
    obtain ⟨h1, h2⟩ := ho _ _ rfl
    refine q_i2l dL_repeat_8 ?_
    refine q_lastore dL_repeat_9 h1 (ix0 h2) ?_
    refine q_goto (tgt := 25) dL_repeat_10 (by decide) ?_
    refine q_iconst dL_repeat_25 ?_
    exact q_ireturn dL_repeat_26 rfl ⟨rfl, rfl⟩
set_option maxRecDepth 100000 in
theorem c_L_remove {l : Launch} {G : mG} {p0 p2 : Nat} {v1 : Int32} {h : mH} {o : (Int32 ⊕ String) × mH} (E : f_X11_remove p0 v1 h = some o) (hk : kd h p0 = 16) (ho : ∀ r k, o = (.inl r, k) → kd k p2 = 105 ∧ 0 < sz k p2) (hx : ∀ e k, o = (.inr e, k) → e ∈ [xI, xN]) : mMet l G m_L_remove 3 1 6 [.ref p0, .int v1, .ref p2] h (hQ o (fun r k => sl k p2 0 r.toInt64) [xI, xN]) (fun _ _ => False) := by
  refine mMet_ofH (by decide +kernel) (by decide) (ac_c rfl (ac_c rfl (ac_c rfl ac_0))) (Nat.le_of_ble_eq_true rfl) ?_
  refine q_aload_n dL_remove_0 rfl ?_
  refine q_iconst dL_remove_1 ?_
  refine q_aload_n dL_remove_2 rfl ?_
  refine q_iload_n dL_remove_3 rfl ?_
  refine q_callVH (mc := 0) (ms := 0) (As := [.int v1]) dL_remove_4 KL_32 (c_X11_remove E) hk rfl (by decide) (Nat.le_of_ble_eq_true rfl) ?_ ?_
  · rintro e k ⟨k0, rfl, n, hn, rfl⟩
    have he := hx _ _ rfl
    rcases List.mem_cons.mp he with rfl | he
    · refine ⟨12, ⟨[], ⟨0, 9, 12, 13⟩, [⟨0, 9, 15, 23⟩], rfl, rfl, by decide +kernel, by decide, CLx_13, CAx_xI, fun z hz => by
        cases hz⟩, fun q => ?_⟩
      refine q_astore_n dL_remove_12 (by decide) ?_
      refine q_iconst dL_remove_13 ?_
      exact q_ireturn dL_remove_14 rfl ⟨by rfl, n, hn, rfl⟩
    rcases List.mem_cons.mp he with rfl | he
    · refine ⟨15, ⟨[⟨0, 9, 12, 13⟩], ⟨0, 9, 15, 23⟩, [], rfl, rfl, by decide +kernel, by decide, CLx_23, CAx_xN, fun z hz => by
        rcases List.mem_cons.mp hz with rfl | hz; · exact Or.inr ⟨by decide, _, CLx_13, by decide +kernel⟩
        cases hz⟩, fun q => ?_⟩
      refine q_astore_n dL_remove_15 (by decide) ?_
      refine q_iconst dL_remove_16 ?_
      exact q_ireturn dL_remove_17 rfl ⟨by rfl, n, hn, rfl⟩
    · cases he
  · rintro v k ⟨r, rfl, rfl⟩
    obtain ⟨h1, h2⟩ := ho _ _ rfl
    refine q_i2l dL_remove_7 ?_
    refine q_lastore dL_remove_8 h1 (ix0 h2) ?_
    refine q_goto (tgt := 18) dL_remove_9 (by decide) ?_
    refine q_iconst dL_remove_18 ?_
    exact q_ireturn dL_remove_19 rfl ⟨rfl, rfl⟩
set_option maxRecDepth 100000 in
theorem c_L_addWord {l : Launch} {G : mG} {p0 p1 : Nat} {h : mH} {o : (Int32 ⊕ String) × mH} (E : f_X11_addWord p0 h = some o) (hk : kd h p0 = 16) (ho : ∀ r k, o = (.inl r, k) → kd k p1 = 105 ∧ 0 < sz k p1) (hx : ∀ e k, o = (.inr e, k) → e ∈ [xA, xS]) : mMet l G m_L_addWord 3 3 262 [.ref p0, .ref p1] h (hQ o (fun r k => sl k p1 0 r.toInt64) [xA, xS]) (fun _ _ => False) := by
  refine mMet_ofH (by decide +kernel) (by decide) (ac_c rfl (ac_c rfl ac_0)) (Nat.le_of_ble_eq_true rfl) ?_
  refine q_aload_n dL_addWord_0 rfl ?_
  refine q_iconst dL_addWord_1 ?_
  refine q_aload_n dL_addWord_2 rfl ?_
  refine q_callVH (mc := 0) (ms := 0) (As := []) dL_addWord_3 KL_35 (c_X11_addWord E) hk rfl (by decide) (Nat.le_of_ble_eq_true rfl) ?_ ?_
  · rintro e k ⟨k0, rfl, n, hn, rfl⟩
    have he := hx _ _ rfl
    rcases List.mem_cons.mp he with rfl | he
    · refine ⟨11, ⟨[], ⟨0, 8, 11, 15⟩, [⟨0, 8, 14, 17⟩], rfl, rfl, by decide +kernel, by decide, CLx_15, CAx_xA, fun z hz => by
        cases hz⟩, fun q => ?_⟩
      refine q_astore_n dL_addWord_11 (by decide) ?_
      refine q_iconst dL_addWord_12 ?_
      exact q_ireturn dL_addWord_13 rfl ⟨by rfl, n, hn, rfl⟩
    rcases List.mem_cons.mp he with rfl | he
    · refine ⟨14, ⟨[⟨0, 8, 11, 15⟩], ⟨0, 8, 14, 17⟩, [], rfl, rfl, by decide +kernel, by decide, CLx_17, CAx_xS, fun z hz => by
        rcases List.mem_cons.mp hz with rfl | hz; · exact Or.inr ⟨by decide, _, CLx_15, by decide +kernel⟩
        cases hz⟩, fun q => ?_⟩
      refine q_astore_n dL_addWord_14 (by decide) ?_
      refine q_iconst dL_addWord_15 ?_
      exact q_ireturn dL_addWord_16 rfl ⟨by rfl, n, hn, rfl⟩
    · cases he
  · rintro v k ⟨r, rfl, rfl⟩
    obtain ⟨h1, h2⟩ := ho _ _ rfl
    refine q_i2l dL_addWord_6 ?_
    refine q_lastore dL_addWord_7 h1 (ix0 h2) ?_
    refine q_goto (tgt := 17) dL_addWord_8 (by decide) ?_
    refine q_iconst dL_addWord_17 ?_
    exact q_ireturn dL_addWord_18 rfl ⟨rfl, rfl⟩
set_option maxRecDepth 100000 in
theorem c_L_removeWord {l : Launch} {G : mG} {p0 p2 : Nat} {v1 : Int32} {h : mH} {o : (Int32 ⊕ String) × mH} (E : f_X11_removeWord p0 v1 h = some o) (hk : kd h p0 = 16) (ho : ∀ r k, o = (.inl r, k) → kd k p2 = 105 ∧ 0 < sz k p2) (hx : ∀ e k, o = (.inr e, k) → e ∈ [xI]) : mMet l G m_L_removeWord 3 1 6 [.ref p0, .int v1, .ref p2] h (hQ o (fun r k => sl k p2 0 r.toInt64) [xI]) (fun _ _ => False) := by
  refine mMet_ofH (by decide +kernel) (by decide) (ac_c rfl (ac_c rfl (ac_c rfl ac_0))) (Nat.le_of_ble_eq_true rfl) ?_
  refine q_aload_n dL_removeWord_0 rfl ?_
  refine q_iconst dL_removeWord_1 ?_
  refine q_aload_n dL_removeWord_2 rfl ?_
  refine q_iload_n dL_removeWord_3 rfl ?_
  refine q_callVH (mc := 0) (ms := 0) (As := [.int v1]) dL_removeWord_4 KL_39 (c_X11_removeWord E) hk rfl (by decide) (Nat.le_of_ble_eq_true rfl) ?_ ?_
  · rintro e k ⟨k0, rfl, n, hn, rfl⟩
    have he := hx _ _ rfl
    rcases List.mem_cons.mp he with rfl | he
    · refine ⟨12, ⟨[], ⟨0, 9, 12, 13⟩, [], rfl, rfl, by decide +kernel, by decide, CLx_13, CAx_xI, fun z hz => by
        cases hz⟩, fun q => ?_⟩
      refine q_astore_n dL_removeWord_12 (by decide) ?_
      refine q_iconst dL_removeWord_13 ?_
      exact q_ireturn dL_removeWord_14 rfl ⟨by rfl, n, hn, rfl⟩
    · cases he
  · rintro v k ⟨r, rfl, rfl⟩
    obtain ⟨h1, h2⟩ := ho _ _ rfl
    refine q_i2l dL_removeWord_7 ?_
    refine q_lastore dL_removeWord_8 h1 (ix0 h2) ?_
    refine q_goto (tgt := 15) dL_removeWord_9 (by decide) ?_
    refine q_iconst dL_removeWord_15 ?_
    exact q_ireturn dL_removeWord_16 rfl ⟨rfl, rfl⟩
set_option maxRecDepth 100000 in
theorem c_L_hasPattern {l : Launch} {G : mG} {p0 p2 : Nat} {v1 : Int32} {h : mH} {o : (Int32 ⊕ String) × mH} (E : f_X11_hasPattern p0 v1 h = some o) (hk : kd h p0 = 16) (ho : ∀ r k, o = (.inl r, k) → kd k p2 = 105 ∧ 0 < sz k p2) (hx : ∀ e k, o = (.inr e, k) → e ∈ [xI]) : mMet l G m_L_hasPattern 3 1 6 [.ref p0, .int v1, .ref p2] h (hQ o (fun r k => sl k p2 0 (if r = 0 then Int64.ofNat 0 else Int64.ofNat 1)) [xI]) (fun _ _ => False) := by
  refine mMet_ofH (by decide +kernel) (by decide) (ac_c rfl (ac_c rfl (ac_c rfl ac_0))) (Nat.le_of_ble_eq_true rfl) ?_
  refine q_aload_n dL_hasPattern_0 rfl ?_
  refine q_iconst dL_hasPattern_1 ?_
  refine q_aload_n dL_hasPattern_2 rfl ?_
  refine q_iload_n dL_hasPattern_3 rfl ?_
  refine q_callVH (mc := 0) (ms := 0) (As := [.int v1]) dL_hasPattern_4 KL_42 (c_X11_hasPattern E) hk rfl (by decide) (Nat.le_of_ble_eq_true rfl) ?_ ?_
  · rintro e k ⟨k0, rfl, n, hn, rfl⟩
    have he := hx _ _ rfl
    rcases List.mem_cons.mp he with rfl | he
    · refine ⟨19, ⟨[], ⟨0, 16, 19, 13⟩, [], rfl, rfl, by decide +kernel, by decide, CLx_13, CAx_xI, fun z hz => by
        cases hz⟩, fun q => ?_⟩
      refine q_astore_n dL_hasPattern_19 (by decide) ?_
      refine q_iconst dL_hasPattern_20 ?_
      exact q_ireturn dL_hasPattern_21 rfl ⟨by rfl, n, hn, rfl⟩
    · cases he
  · rintro v k ⟨r, rfl, rfl⟩
    obtain ⟨h1, h2⟩ := ho _ _ rfl
    refine q_if_eq (tgt := 14) dL_hasPattern_7 (by decide) (fun z => ?_) (fun z => ?_)
    · refine q_lconst dL_hasPattern_14 ?_
      refine q_lastore dL_hasPattern_15 h1 (ix0 h2) ?_
      refine q_goto (tgt := 22) dL_hasPattern_16 (by decide) ?_
      refine q_iconst dL_hasPattern_22 ?_
      exact q_ireturn dL_hasPattern_23 rfl ⟨rfl, by simp only [if_pos z]; rfl⟩
    · refine q_lconst dL_hasPattern_10 ?_
      refine q_goto (tgt := 15) dL_hasPattern_11 (by decide) ?_
      refine q_lastore dL_hasPattern_15 h1 (ix0 h2) ?_
      refine q_goto (tgt := 22) dL_hasPattern_16 (by decide) ?_
      refine q_iconst dL_hasPattern_22 ?_
      exact q_ireturn dL_hasPattern_23 rfl ⟨rfl, by simp only [if_neg z]; rfl⟩
set_option maxRecDepth 100000 in
theorem c_L_letterCount {l : Launch} {G : mG} {p0 p2 : Nat} {v1 : Int32} {h : mH} {o : (Int32 ⊕ String) × mH} (E : f_X11_letterCount p0 v1 h = some o) (hk : kd h p0 = 16) (ho : ∀ r k, o = (.inl r, k) → kd k p2 = 105 ∧ 0 < sz k p2) (hx : ∀ e k, o = (.inr e, k) → e ∈ [xN]) : mMet l G m_L_letterCount 4 1 6 [.ref p0, .int v1, .ref p2] h (hQ o (fun r k => sl k p2 0 r.toInt64) [xN]) (fun _ _ => False) := by
  refine mMet_ofH (by decide +kernel) (by decide) (ac_c rfl (ac_c rfl (ac_c rfl ac_0))) (Nat.le_of_ble_eq_true rfl) ?_
  refine q_aload_n dL_letterCount_0 rfl ?_
  refine q_iconst dL_letterCount_1 ?_
  refine q_aload_n dL_letterCount_2 rfl ?_
  refine q_iload_n dL_letterCount_3 rfl ?_
  refine q_callVH (mc := 0) (ms := 0) (As := [.int v1]) dL_letterCount_4 KL_46 (c_X11_letterCount E) hk rfl (by decide) (Nat.le_of_ble_eq_true rfl) ?_ ?_
  · rintro e k ⟨k0, rfl, n, hn, rfl⟩
    have he := hx _ _ rfl
    rcases List.mem_cons.mp he with rfl | he
    · refine ⟨12, ⟨[], ⟨0, 9, 12, 23⟩, [], rfl, rfl, by decide +kernel, by decide, CLx_23, CAx_xN, fun z hz => by
        cases hz⟩, fun q => ?_⟩
      refine q_astore_n dL_letterCount_12 (by decide) ?_
      refine q_iconst dL_letterCount_13 ?_
      exact q_ireturn dL_letterCount_14 rfl ⟨by rfl, n, hn, rfl⟩
    · cases he
  · rintro v k ⟨r, rfl, rfl⟩
    obtain ⟨h1, h2⟩ := ho _ _ rfl
    refine q_i2l dL_letterCount_7 ?_
    refine q_lastore dL_letterCount_8 h1 (ix0 h2) ?_
    refine q_goto (tgt := 15) dL_letterCount_9 (by decide) ?_
    refine q_iconst dL_letterCount_15 ?_
    exact q_ireturn dL_letterCount_16 rfl ⟨rfl, rfl⟩
set_option maxRecDepth 100000 in
theorem c_L_acceptsEmpty {l : Launch} {G : mG} {p0 p2 : Nat} {v1 : Int32} {h : mH} {o : (Int32 ⊕ String) × mH} (E : f_X11_acceptsEmpty p0 v1 h = some o) (hk : kd h p0 = 16) (ho : ∀ r k, o = (.inl r, k) → kd k p2 = 105 ∧ 0 < sz k p2) (hx : ∀ e k, o = (.inr e, k) → e ∈ [xN]) : mMet l G m_L_acceptsEmpty 4 1 6 [.ref p0, .int v1, .ref p2] h (hQ o (fun r k => sl k p2 0 (if r = 0 then Int64.ofNat 0 else Int64.ofNat 1)) [xN]) (fun _ _ => False) := by
  refine mMet_ofH (by decide +kernel) (by decide) (ac_c rfl (ac_c rfl (ac_c rfl ac_0))) (Nat.le_of_ble_eq_true rfl) ?_
  refine q_aload_n dL_acceptsEmpty_0 rfl ?_
  refine q_iconst dL_acceptsEmpty_1 ?_
  refine q_aload_n dL_acceptsEmpty_2 rfl ?_
  refine q_iload_n dL_acceptsEmpty_3 rfl ?_
  refine q_callVH (mc := 0) (ms := 0) (As := [.int v1]) dL_acceptsEmpty_4 KL_49 (c_X11_acceptsEmpty E) hk rfl (by decide) (Nat.le_of_ble_eq_true rfl) ?_ ?_
  · rintro e k ⟨k0, rfl, n, hn, rfl⟩
    have he := hx _ _ rfl
    rcases List.mem_cons.mp he with rfl | he
    · refine ⟨19, ⟨[], ⟨0, 16, 19, 23⟩, [], rfl, rfl, by decide +kernel, by decide, CLx_23, CAx_xN, fun z hz => by
        cases hz⟩, fun q => ?_⟩
      refine q_astore_n dL_acceptsEmpty_19 (by decide) ?_
      refine q_iconst dL_acceptsEmpty_20 ?_
      exact q_ireturn dL_acceptsEmpty_21 rfl ⟨by rfl, n, hn, rfl⟩
    · cases he
  · rintro v k ⟨r, rfl, rfl⟩
    obtain ⟨h1, h2⟩ := ho _ _ rfl
    refine q_if_eq (tgt := 14) dL_acceptsEmpty_7 (by decide) (fun z => ?_) (fun z => ?_)
    · refine q_lconst dL_acceptsEmpty_14 ?_
      refine q_lastore dL_acceptsEmpty_15 h1 (ix0 h2) ?_
      refine q_goto (tgt := 22) dL_acceptsEmpty_16 (by decide) ?_
      refine q_iconst dL_acceptsEmpty_22 ?_
      exact q_ireturn dL_acceptsEmpty_23 rfl ⟨rfl, by simp only [if_pos z]; rfl⟩
    · refine q_lconst dL_acceptsEmpty_10 ?_
      refine q_goto (tgt := 15) dL_acceptsEmpty_11 (by decide) ?_
      refine q_lastore dL_acceptsEmpty_15 h1 (ix0 h2) ?_
      refine q_goto (tgt := 22) dL_acceptsEmpty_16 (by decide) ?_
      refine q_iconst dL_acceptsEmpty_22 ?_
      exact q_ireturn dL_acceptsEmpty_23 rfl ⟨rfl, by simp only [if_neg z]; rfl⟩
set_option maxRecDepth 100000 in
theorem c_L_canBegin {l : Launch} {G : mG} {p0 p3 : Nat} {v1 : Int32} {v2 : Int32} {h : mH} {o : (Int32 ⊕ String) × mH} (E : f_X11_canBegin p0 v1 v2 h = some o) (hk : kd h p0 = 16) (ho : ∀ r k, o = (.inl r, k) → kd k p3 = 105 ∧ 0 < sz k p3) (hx : ∀ e k, o = (.inr e, k) → e ∈ [xN, xA]) : mMet l G m_L_canBegin 4 2 12 [.ref p0, .int v1, .int v2, .ref p3] h (hQ o (fun r k => sl k p3 0 (if r = 0 then Int64.ofNat 0 else Int64.ofNat 1)) [xN, xA]) (fun _ _ => False) := by
  refine mMet_ofH (by decide +kernel) (by decide) (ac_c rfl (ac_c rfl (ac_c rfl (ac_c rfl ac_0)))) (Nat.le_of_ble_eq_true rfl) ?_
  refine q_aload_n dL_canBegin_0 rfl ?_
  refine q_iconst dL_canBegin_1 ?_
  refine q_aload_n dL_canBegin_2 rfl ?_
  refine q_iload_n dL_canBegin_3 rfl ?_
  refine q_iload_n dL_canBegin_4 rfl ?_
  refine q_callVH (mc := 0) (ms := 0) (As := [.int v1, .int v2]) dL_canBegin_5 KL_52 (c_X11_canBegin E) hk rfl (by decide) (Nat.le_of_ble_eq_true rfl) ?_ ?_
  · rintro e k ⟨k0, rfl, n, hn, rfl⟩
    have he := hx _ _ rfl
    rcases List.mem_cons.mp he with rfl | he
    · refine ⟨20, ⟨[], ⟨0, 17, 20, 23⟩, [⟨0, 17, 24, 15⟩], rfl, rfl, by decide +kernel, by decide, CLx_23, CAx_xN, fun z hz => by
        cases hz⟩, fun q => ?_⟩
      refine q_astore dL_canBegin_20 (by decide) ?_
      refine q_iconst dL_canBegin_22 ?_
      exact q_ireturn dL_canBegin_23 rfl ⟨by rfl, n, hn, rfl⟩
    rcases List.mem_cons.mp he with rfl | he
    · refine ⟨24, ⟨[⟨0, 17, 20, 23⟩], ⟨0, 17, 24, 15⟩, [], rfl, rfl, by decide +kernel, by decide, CLx_15, CAx_xA, fun z hz => by
        rcases List.mem_cons.mp hz with rfl | hz; · exact Or.inr ⟨by decide, _, CLx_23, by decide +kernel⟩
        cases hz⟩, fun q => ?_⟩
      refine q_astore dL_canBegin_24 (by decide) ?_
      refine q_iconst dL_canBegin_26 ?_
      exact q_ireturn dL_canBegin_27 rfl ⟨by rfl, n, hn, rfl⟩
    · cases he
  · rintro v k ⟨r, rfl, rfl⟩
    obtain ⟨h1, h2⟩ := ho _ _ rfl
    refine q_if_eq (tgt := 15) dL_canBegin_8 (by decide) (fun z => ?_) (fun z => ?_)
    · refine q_lconst dL_canBegin_15 ?_
      refine q_lastore dL_canBegin_16 h1 (ix0 h2) ?_
      refine q_goto (tgt := 28) dL_canBegin_17 (by decide) ?_
      refine q_iconst dL_canBegin_28 ?_
      exact q_ireturn dL_canBegin_29 rfl ⟨rfl, by simp only [if_pos z]; rfl⟩
    · refine q_lconst dL_canBegin_11 ?_
      refine q_goto (tgt := 16) dL_canBegin_12 (by decide) ?_
      refine q_lastore dL_canBegin_16 h1 (ix0 h2) ?_
      refine q_goto (tgt := 28) dL_canBegin_17 (by decide) ?_
      refine q_iconst dL_canBegin_28 ?_
      exact q_ireturn dL_canBegin_29 rfl ⟨rfl, by simp only [if_neg z]; rfl⟩
set_option maxRecDepth 100000 in
theorem c_L_canEnd {l : Launch} {G : mG} {p0 p3 : Nat} {v1 : Int32} {v2 : Int32} {h : mH} {o : (Int32 ⊕ String) × mH} (E : f_X11_canEnd p0 v1 v2 h = some o) (hk : kd h p0 = 16) (ho : ∀ r k, o = (.inl r, k) → kd k p3 = 105 ∧ 0 < sz k p3) (hx : ∀ e k, o = (.inr e, k) → e ∈ [xN, xA]) : mMet l G m_L_canEnd 4 2 12 [.ref p0, .int v1, .int v2, .ref p3] h (hQ o (fun r k => sl k p3 0 (if r = 0 then Int64.ofNat 0 else Int64.ofNat 1)) [xN, xA]) (fun _ _ => False) := by
  refine mMet_ofH (by decide +kernel) (by decide) (ac_c rfl (ac_c rfl (ac_c rfl (ac_c rfl ac_0)))) (Nat.le_of_ble_eq_true rfl) ?_
  refine q_aload_n dL_canEnd_0 rfl ?_
  refine q_iconst dL_canEnd_1 ?_
  refine q_aload_n dL_canEnd_2 rfl ?_
  refine q_iload_n dL_canEnd_3 rfl ?_
  refine q_iload_n dL_canEnd_4 rfl ?_
  refine q_callVH (mc := 0) (ms := 0) (As := [.int v1, .int v2]) dL_canEnd_5 KL_56 (c_X11_canEnd E) hk rfl (by decide) (Nat.le_of_ble_eq_true rfl) ?_ ?_
  · rintro e k ⟨k0, rfl, n, hn, rfl⟩
    have he := hx _ _ rfl
    rcases List.mem_cons.mp he with rfl | he
    · refine ⟨20, ⟨[], ⟨0, 17, 20, 23⟩, [⟨0, 17, 24, 15⟩], rfl, rfl, by decide +kernel, by decide, CLx_23, CAx_xN, fun z hz => by
        cases hz⟩, fun q => ?_⟩
      refine q_astore dL_canEnd_20 (by decide) ?_
      refine q_iconst dL_canEnd_22 ?_
      exact q_ireturn dL_canEnd_23 rfl ⟨by rfl, n, hn, rfl⟩
    rcases List.mem_cons.mp he with rfl | he
    · refine ⟨24, ⟨[⟨0, 17, 20, 23⟩], ⟨0, 17, 24, 15⟩, [], rfl, rfl, by decide +kernel, by decide, CLx_15, CAx_xA, fun z hz => by
        rcases List.mem_cons.mp hz with rfl | hz; · exact Or.inr ⟨by decide, _, CLx_23, by decide +kernel⟩
        cases hz⟩, fun q => ?_⟩
      refine q_astore dL_canEnd_24 (by decide) ?_
      refine q_iconst dL_canEnd_26 ?_
      exact q_ireturn dL_canEnd_27 rfl ⟨by rfl, n, hn, rfl⟩
    · cases he
  · rintro v k ⟨r, rfl, rfl⟩
    obtain ⟨h1, h2⟩ := ho _ _ rfl
    refine q_if_eq (tgt := 15) dL_canEnd_8 (by decide) (fun z => ?_) (fun z => ?_)
    · refine q_lconst dL_canEnd_15 ?_
      refine q_lastore dL_canEnd_16 h1 (ix0 h2) ?_
      refine q_goto (tgt := 28) dL_canEnd_17 (by decide) ?_
      refine q_iconst dL_canEnd_28 ?_
      exact q_ireturn dL_canEnd_29 rfl ⟨rfl, by simp only [if_pos z]; rfl⟩
    · refine q_lconst dL_canEnd_11 ?_
      refine q_goto (tgt := 16) dL_canEnd_12 (by decide) ?_
      refine q_lastore dL_canEnd_16 h1 (ix0 h2) ?_
      refine q_goto (tgt := 28) dL_canEnd_17 (by decide) ?_
      refine q_iconst dL_canEnd_28 ?_
      exact q_ireturn dL_canEnd_29 rfl ⟨rfl, by simp only [if_neg z]; rfl⟩
set_option maxRecDepth 100000 in
theorem c_L_canBeAdjacent {l : Launch} {G : mG} {p0 p4 : Nat} {v1 : Int32} {v2 : Int32} {v3 : Int32} {h : mH} {o : (Int32 ⊕ String) × mH} (E : f_X11_canBeAdjacent p0 v1 v2 v3 h = some o) (hk : kd h p0 = 16) (ho : ∀ r k, o = (.inl r, k) → kd k p4 = 105 ∧ 0 < sz k p4) (hx : ∀ e k, o = (.inr e, k) → e ∈ [xN, xA]) : mMet l G m_L_canBeAdjacent 4 3 18 [.ref p0, .int v1, .int v2, .int v3, .ref p4] h (hQ o (fun r k => sl k p4 0 (if r = 0 then Int64.ofNat 0 else Int64.ofNat 1)) [xN, xA]) (fun _ _ => False) := by
  refine mMet_ofH (by decide +kernel) (by decide) (ac_c rfl (ac_c rfl (ac_c rfl (ac_c rfl (ac_c rfl ac_0))))) (Nat.le_of_ble_eq_true rfl) ?_
  refine q_aload dL_canBeAdjacent_0 rfl ?_
  refine q_iconst dL_canBeAdjacent_2 ?_
  refine q_aload_n dL_canBeAdjacent_3 rfl ?_
  refine q_iload_n dL_canBeAdjacent_4 rfl ?_
  refine q_iload_n dL_canBeAdjacent_5 rfl ?_
  refine q_iload_n dL_canBeAdjacent_6 rfl ?_
  refine q_callVH (mc := 0) (ms := 0) (As := [.int v1, .int v2, .int v3]) dL_canBeAdjacent_7 KL_59 (c_X11_canBeAdjacent E) hk rfl (by decide) (Nat.le_of_ble_eq_true rfl) ?_ ?_
  · rintro e k ⟨k0, rfl, n, hn, rfl⟩
    have he := hx _ _ rfl
    rcases List.mem_cons.mp he with rfl | he
    · refine ⟨22, ⟨[], ⟨0, 19, 22, 23⟩, [⟨0, 19, 26, 15⟩], rfl, rfl, by decide +kernel, by decide, CLx_23, CAx_xN, fun z hz => by
        cases hz⟩, fun q => ?_⟩
      refine q_astore dL_canBeAdjacent_22 (by decide) ?_
      refine q_iconst dL_canBeAdjacent_24 ?_
      exact q_ireturn dL_canBeAdjacent_25 rfl ⟨by rfl, n, hn, rfl⟩
    rcases List.mem_cons.mp he with rfl | he
    · refine ⟨26, ⟨[⟨0, 19, 22, 23⟩], ⟨0, 19, 26, 15⟩, [], rfl, rfl, by decide +kernel, by decide, CLx_15, CAx_xA, fun z hz => by
        rcases List.mem_cons.mp hz with rfl | hz; · exact Or.inr ⟨by decide, _, CLx_23, by decide +kernel⟩
        cases hz⟩, fun q => ?_⟩
      refine q_astore dL_canBeAdjacent_26 (by decide) ?_
      refine q_iconst dL_canBeAdjacent_28 ?_
      exact q_ireturn dL_canBeAdjacent_29 rfl ⟨by rfl, n, hn, rfl⟩
    · cases he
  · rintro v k ⟨r, rfl, rfl⟩
    obtain ⟨h1, h2⟩ := ho _ _ rfl
    refine q_if_eq (tgt := 17) dL_canBeAdjacent_10 (by decide) (fun z => ?_) (fun z => ?_)
    · refine q_lconst dL_canBeAdjacent_17 ?_
      refine q_lastore dL_canBeAdjacent_18 h1 (ix0 h2) ?_
      refine q_goto (tgt := 30) dL_canBeAdjacent_19 (by decide) ?_
      refine q_iconst dL_canBeAdjacent_30 ?_
      exact q_ireturn dL_canBeAdjacent_31 rfl ⟨rfl, by simp only [if_pos z]; rfl⟩
    · refine q_lconst dL_canBeAdjacent_13 ?_
      refine q_goto (tgt := 18) dL_canBeAdjacent_14 (by decide) ?_
      refine q_lastore dL_canBeAdjacent_18 h1 (ix0 h2) ?_
      refine q_goto (tgt := 30) dL_canBeAdjacent_19 (by decide) ?_
      refine q_iconst dL_canBeAdjacent_30 ?_
      exact q_ireturn dL_canBeAdjacent_31 rfl ⟨rfl, by simp only [if_neg z]; rfl⟩
set_option maxRecDepth 100000 in
theorem c_L_matches {l : Launch} {G : mG} {p0 p2 : Nat} {v1 : Int32} {h : mH} {o : (Int32 ⊕ String) × mH} (E : f_X11_matches p0 v1 h = some o) (hk : kd h p0 = 16) (ho : ∀ r k, o = (.inl r, k) → kd k p2 = 105 ∧ 0 < sz k p2) (hx : ∀ e k, o = (.inr e, k) → e ∈ [xN, xA]) : mMet l G m_L_matches 5 4 268 [.ref p0, .int v1, .ref p2] h (hQ o (fun r k => sl k p2 0 (if r = 0 then Int64.ofNat 0 else Int64.ofNat 1)) [xN, xA]) (fun _ _ => False) := by
  refine mMet_ofH (by decide +kernel) (by decide) (ac_c rfl (ac_c rfl (ac_c rfl ac_0))) (Nat.le_of_ble_eq_true rfl) ?_
  refine q_aload_n dL_matches_0 rfl ?_
  refine q_iconst dL_matches_1 ?_
  refine q_aload_n dL_matches_2 rfl ?_
  refine q_iload_n dL_matches_3 rfl ?_
  refine q_callVH (mc := 0) (ms := 0) (As := [.int v1]) dL_matches_4 KL_63 (c_X11_matches E) hk rfl (by decide) (Nat.le_of_ble_eq_true rfl) ?_ ?_
  · rintro e k ⟨k0, rfl, n, hn, rfl⟩
    have he := hx _ _ rfl
    rcases List.mem_cons.mp he with rfl | he
    · refine ⟨19, ⟨[], ⟨0, 16, 19, 23⟩, [⟨0, 16, 22, 15⟩], rfl, rfl, by decide +kernel, by decide, CLx_23, CAx_xN, fun z hz => by
        cases hz⟩, fun q => ?_⟩
      refine q_astore_n dL_matches_19 (by decide) ?_
      refine q_iconst dL_matches_20 ?_
      exact q_ireturn dL_matches_21 rfl ⟨by rfl, n, hn, rfl⟩
    rcases List.mem_cons.mp he with rfl | he
    · refine ⟨22, ⟨[⟨0, 16, 19, 23⟩], ⟨0, 16, 22, 15⟩, [], rfl, rfl, by decide +kernel, by decide, CLx_15, CAx_xA, fun z hz => by
        rcases List.mem_cons.mp hz with rfl | hz; · exact Or.inr ⟨by decide, _, CLx_23, by decide +kernel⟩
        cases hz⟩, fun q => ?_⟩
      refine q_astore_n dL_matches_22 (by decide) ?_
      refine q_iconst dL_matches_23 ?_
      exact q_ireturn dL_matches_24 rfl ⟨by rfl, n, hn, rfl⟩
    · cases he
  · rintro v k ⟨r, rfl, rfl⟩
    obtain ⟨h1, h2⟩ := ho _ _ rfl
    refine q_if_eq (tgt := 14) dL_matches_7 (by decide) (fun z => ?_) (fun z => ?_)
    · refine q_lconst dL_matches_14 ?_
      refine q_lastore dL_matches_15 h1 (ix0 h2) ?_
      refine q_goto (tgt := 25) dL_matches_16 (by decide) ?_
      refine q_iconst dL_matches_25 ?_
      exact q_ireturn dL_matches_26 rfl ⟨rfl, by simp only [if_pos z]; rfl⟩
    · refine q_lconst dL_matches_10 ?_
      refine q_goto (tgt := 15) dL_matches_11 (by decide) ?_
      refine q_lastore dL_matches_15 h1 (ix0 h2) ?_
      refine q_goto (tgt := 25) dL_matches_16 (by decide) ?_
      refine q_iconst dL_matches_25 ?_
      exact q_ireturn dL_matches_26 rfl ⟨rfl, by simp only [if_neg z]; rfl⟩
set_option maxRecDepth 100000 in
theorem c_L_matchesBySpans {l : Launch} {G : mG} {p0 p2 : Nat} {v1 : Int32} {h : mH} {o : (Int32 ⊕ String) × mH} (E : f_X11_matchesBySpans p0 v1 h = some o) (hk : kd h p0 = 16) (ho : ∀ r k, o = (.inl r, k) → kd k p2 = 105 ∧ 0 < sz k p2) (hx : ∀ e k, o = (.inr e, k) → e ∈ [xN, xA]) : mMet l G m_L_matchesBySpans 4 4 268 [.ref p0, .int v1, .ref p2] h (hQ o (fun r k => sl k p2 0 (if r = 0 then Int64.ofNat 0 else Int64.ofNat 1)) [xN, xA]) (fun _ _ => False) := by
  refine mMet_ofH (by decide +kernel) (by decide) (ac_c rfl (ac_c rfl (ac_c rfl ac_0))) (Nat.le_of_ble_eq_true rfl) ?_
  refine q_aload_n dL_matchesBySpans_0 rfl ?_
  refine q_iconst dL_matchesBySpans_1 ?_
  refine q_aload_n dL_matchesBySpans_2 rfl ?_
  refine q_iload_n dL_matchesBySpans_3 rfl ?_
  refine q_callVH (mc := 0) (ms := 0) (As := [.int v1]) dL_matchesBySpans_4 KL_66 (c_X11_matchesBySpans E) hk rfl (by decide) (Nat.le_of_ble_eq_true rfl) ?_ ?_
  · rintro e k ⟨k0, rfl, n, hn, rfl⟩
    have he := hx _ _ rfl
    rcases List.mem_cons.mp he with rfl | he
    · refine ⟨19, ⟨[], ⟨0, 16, 19, 23⟩, [⟨0, 16, 22, 15⟩], rfl, rfl, by decide +kernel, by decide, CLx_23, CAx_xN, fun z hz => by
        cases hz⟩, fun q => ?_⟩
      refine q_astore_n dL_matchesBySpans_19 (by decide) ?_
      refine q_iconst dL_matchesBySpans_20 ?_
      exact q_ireturn dL_matchesBySpans_21 rfl ⟨by rfl, n, hn, rfl⟩
    rcases List.mem_cons.mp he with rfl | he
    · refine ⟨22, ⟨[⟨0, 16, 19, 23⟩], ⟨0, 16, 22, 15⟩, [], rfl, rfl, by decide +kernel, by decide, CLx_15, CAx_xA, fun z hz => by
        rcases List.mem_cons.mp hz with rfl | hz; · exact Or.inr ⟨by decide, _, CLx_23, by decide +kernel⟩
        cases hz⟩, fun q => ?_⟩
      refine q_astore_n dL_matchesBySpans_22 (by decide) ?_
      refine q_iconst dL_matchesBySpans_23 ?_
      exact q_ireturn dL_matchesBySpans_24 rfl ⟨by rfl, n, hn, rfl⟩
    · cases he
  · rintro v k ⟨r, rfl, rfl⟩
    obtain ⟨h1, h2⟩ := ho _ _ rfl
    refine q_if_eq (tgt := 14) dL_matchesBySpans_7 (by decide) (fun z => ?_) (fun z => ?_)
    · refine q_lconst dL_matchesBySpans_14 ?_
      refine q_lastore dL_matchesBySpans_15 h1 (ix0 h2) ?_
      refine q_goto (tgt := 25) dL_matchesBySpans_16 (by decide) ?_
      refine q_iconst dL_matchesBySpans_25 ?_
      exact q_ireturn dL_matchesBySpans_26 rfl ⟨rfl, by simp only [if_pos z]; rfl⟩
    · refine q_lconst dL_matchesBySpans_10 ?_
      refine q_goto (tgt := 15) dL_matchesBySpans_11 (by decide) ?_
      refine q_lastore dL_matchesBySpans_15 h1 (ix0 h2) ?_
      refine q_goto (tgt := 25) dL_matchesBySpans_16 (by decide) ?_
      refine q_iconst dL_matchesBySpans_25 ?_
      exact q_ireturn dL_matchesBySpans_26 rfl ⟨rfl, by simp only [if_neg z]; rfl⟩
set_option maxRecDepth 100000 in
theorem c_L_longestPrefix {l : Launch} {G : mG} {p0 p2 : Nat} {v1 : Int32} {h : mH} {o : (Int32 ⊕ String) × mH} (E : f_X11_longestPrefix p0 v1 h = some o) (hk : kd h p0 = 16) (ho : ∀ r k, o = (.inl r, k) → kd k p2 = 105 ∧ 0 < sz k p2) (hx : ∀ e k, o = (.inr e, k) → e ∈ [xN, xA]) : mMet l G m_L_longestPrefix 5 4 268 [.ref p0, .int v1, .ref p2] h (hQ o (fun r k => sl k p2 0 r.toInt64) [xN, xA]) (fun _ _ => False) := by
  refine mMet_ofH (by decide +kernel) (by decide) (ac_c rfl (ac_c rfl (ac_c rfl ac_0))) (Nat.le_of_ble_eq_true rfl) ?_
  refine q_aload_n dL_longestPrefix_0 rfl ?_
  refine q_iconst dL_longestPrefix_1 ?_
  refine q_aload_n dL_longestPrefix_2 rfl ?_
  refine q_iload_n dL_longestPrefix_3 rfl ?_
  refine q_callVH (mc := 0) (ms := 0) (As := [.int v1]) dL_longestPrefix_4 KL_69 (c_X11_longestPrefix E) hk rfl (by decide) (Nat.le_of_ble_eq_true rfl) ?_ ?_
  · rintro e k ⟨k0, rfl, n, hn, rfl⟩
    have he := hx _ _ rfl
    rcases List.mem_cons.mp he with rfl | he
    · refine ⟨12, ⟨[], ⟨0, 9, 12, 23⟩, [⟨0, 9, 15, 15⟩], rfl, rfl, by decide +kernel, by decide, CLx_23, CAx_xN, fun z hz => by
        cases hz⟩, fun q => ?_⟩
      refine q_astore_n dL_longestPrefix_12 (by decide) ?_
      refine q_iconst dL_longestPrefix_13 ?_
      exact q_ireturn dL_longestPrefix_14 rfl ⟨by rfl, n, hn, rfl⟩
    rcases List.mem_cons.mp he with rfl | he
    · refine ⟨15, ⟨[⟨0, 9, 12, 23⟩], ⟨0, 9, 15, 15⟩, [], rfl, rfl, by decide +kernel, by decide, CLx_15, CAx_xA, fun z hz => by
        rcases List.mem_cons.mp hz with rfl | hz; · exact Or.inr ⟨by decide, _, CLx_23, by decide +kernel⟩
        cases hz⟩, fun q => ?_⟩
      refine q_astore_n dL_longestPrefix_15 (by decide) ?_
      refine q_iconst dL_longestPrefix_16 ?_
      exact q_ireturn dL_longestPrefix_17 rfl ⟨by rfl, n, hn, rfl⟩
    · cases he
  · rintro v k ⟨r, rfl, rfl⟩
    obtain ⟨h1, h2⟩ := ho _ _ rfl
    refine q_i2l dL_longestPrefix_7 ?_
    refine q_lastore dL_longestPrefix_8 h1 (ix0 h2) ?_
    refine q_goto (tgt := 18) dL_longestPrefix_9 (by decide) ?_
    refine q_iconst dL_longestPrefix_18 ?_
    exact q_ireturn dL_longestPrefix_19 rfl ⟨rfl, rfl⟩
set_option maxRecDepth 100000 in
theorem c_L_acceptsWord {l : Launch} {G : mG} {p0 p3 : Nat} {v1 : Int32} {v2 : Int32} {h : mH} {o : (Int32 ⊕ String) × mH} (E : f_X11_acceptsWord p0 v1 v2 h = some o) (hk : kd h p0 = 16) (ho : ∀ r k, o = (.inl r, k) → kd k p3 = 105 ∧ 0 < sz k p3) (hx : ∀ e k, o = (.inr e, k) → e ∈ [xN, xI]) : mMet l G m_L_acceptsWord 5 2 12 [.ref p0, .int v1, .int v2, .ref p3] h (hQ o (fun r k => sl k p3 0 (if r = 0 then Int64.ofNat 0 else Int64.ofNat 1)) [xN, xI]) (fun _ _ => False) := by
  refine mMet_ofH (by decide +kernel) (by decide) (ac_c rfl (ac_c rfl (ac_c rfl (ac_c rfl ac_0)))) (Nat.le_of_ble_eq_true rfl) ?_
  refine q_aload_n dL_acceptsWord_0 rfl ?_
  refine q_iconst dL_acceptsWord_1 ?_
  refine q_aload_n dL_acceptsWord_2 rfl ?_
  refine q_iload_n dL_acceptsWord_3 rfl ?_
  refine q_iload_n dL_acceptsWord_4 rfl ?_
  refine q_callVH (mc := 0) (ms := 0) (As := [.int v1, .int v2]) dL_acceptsWord_5 KL_72 (c_X11_acceptsWord E) hk rfl (by decide) (Nat.le_of_ble_eq_true rfl) ?_ ?_
  · rintro e k ⟨k0, rfl, n, hn, rfl⟩
    have he := hx _ _ rfl
    rcases List.mem_cons.mp he with rfl | he
    · refine ⟨20, ⟨[], ⟨0, 17, 20, 23⟩, [⟨0, 17, 24, 13⟩], rfl, rfl, by decide +kernel, by decide, CLx_23, CAx_xN, fun z hz => by
        cases hz⟩, fun q => ?_⟩
      refine q_astore dL_acceptsWord_20 (by decide) ?_
      refine q_iconst dL_acceptsWord_22 ?_
      exact q_ireturn dL_acceptsWord_23 rfl ⟨by rfl, n, hn, rfl⟩
    rcases List.mem_cons.mp he with rfl | he
    · refine ⟨24, ⟨[⟨0, 17, 20, 23⟩], ⟨0, 17, 24, 13⟩, [], rfl, rfl, by decide +kernel, by decide, CLx_13, CAx_xI, fun z hz => by
        rcases List.mem_cons.mp hz with rfl | hz; · exact Or.inr ⟨by decide, _, CLx_23, by decide +kernel⟩
        cases hz⟩, fun q => ?_⟩
      refine q_astore dL_acceptsWord_24 (by decide) ?_
      refine q_iconst dL_acceptsWord_26 ?_
      exact q_ireturn dL_acceptsWord_27 rfl ⟨by rfl, n, hn, rfl⟩
    · cases he
  · rintro v k ⟨r, rfl, rfl⟩
    obtain ⟨h1, h2⟩ := ho _ _ rfl
    refine q_if_eq (tgt := 15) dL_acceptsWord_8 (by decide) (fun z => ?_) (fun z => ?_)
    · refine q_lconst dL_acceptsWord_15 ?_
      refine q_lastore dL_acceptsWord_16 h1 (ix0 h2) ?_
      refine q_goto (tgt := 28) dL_acceptsWord_17 (by decide) ?_
      refine q_iconst dL_acceptsWord_28 ?_
      exact q_ireturn dL_acceptsWord_29 rfl ⟨rfl, by simp only [if_pos z]; rfl⟩
    · refine q_lconst dL_acceptsWord_11 ?_
      refine q_goto (tgt := 16) dL_acceptsWord_12 (by decide) ?_
      refine q_lastore dL_acceptsWord_16 h1 (ix0 h2) ?_
      refine q_goto (tgt := 28) dL_acceptsWord_17 (by decide) ?_
      refine q_iconst dL_acceptsWord_28 ?_
      exact q_ireturn dL_acceptsWord_29 rfl ⟨rfl, by simp only [if_neg z]; rfl⟩
set_option maxRecDepth 100000 in
theorem c_L_acceptedWords {l : Launch} {G : mG} {p0 p2 : Nat} {v1 : Int32} {h : mH} {o : (Int32 ⊕ String) × mH} (E : f_X11_acceptedWords p0 v1 h = some o) (hk : kd h p0 = 16) (ho : ∀ r k, o = (.inl r, k) → kd k p2 = 105 ∧ 0 < sz k p2) (hx : ∀ e k, o = (.inr e, k) → e ∈ [xN]) : mMet l G m_L_acceptedWords 5 1 6 [.ref p0, .int v1, .ref p2] h (hQ o (fun r k => sl k p2 0 r.toInt64) [xN]) (fun _ _ => False) := by
  refine mMet_ofH (by decide +kernel) (by decide) (ac_c rfl (ac_c rfl (ac_c rfl ac_0))) (Nat.le_of_ble_eq_true rfl) ?_
  refine q_aload_n dL_acceptedWords_0 rfl ?_
  refine q_iconst dL_acceptedWords_1 ?_
  refine q_aload_n dL_acceptedWords_2 rfl ?_
  refine q_iload_n dL_acceptedWords_3 rfl ?_
  refine q_callVH (mc := 0) (ms := 0) (As := [.int v1]) dL_acceptedWords_4 KL_76 (c_X11_acceptedWords E) hk rfl (by decide) (Nat.le_of_ble_eq_true rfl) ?_ ?_
  · rintro e k ⟨k0, rfl, n, hn, rfl⟩
    have he := hx _ _ rfl
    rcases List.mem_cons.mp he with rfl | he
    · refine ⟨12, ⟨[], ⟨0, 9, 12, 23⟩, [], rfl, rfl, by decide +kernel, by decide, CLx_23, CAx_xN, fun z hz => by
        cases hz⟩, fun q => ?_⟩
      refine q_astore_n dL_acceptedWords_12 (by decide) ?_
      refine q_iconst dL_acceptedWords_13 ?_
      exact q_ireturn dL_acceptedWords_14 rfl ⟨by rfl, n, hn, rfl⟩
    · cases he
  · rintro v k ⟨r, rfl, rfl⟩
    obtain ⟨h1, h2⟩ := ho _ _ rfl
    refine q_i2l dL_acceptedWords_7 ?_
    refine q_lastore dL_acceptedWords_8 h1 (ix0 h2) ?_
    refine q_goto (tgt := 15) dL_acceptedWords_9 (by decide) ?_
    refine q_iconst dL_acceptedWords_15 ?_
    exact q_ireturn dL_acceptedWords_16 rfl ⟨rfl, rfl⟩
set_option maxRecDepth 100000 in
theorem c_L_countWords {l : Launch} {G : mG} {p0 p3 : Nat} {v1 : Int32} {v2 : Int32} {h : mH} {o : (Int32 ⊕ String) × mH} (E : f_X11_countWords p0 v1 v2 h = some o) (hk : kd h p0 = 16) (ho : ∀ r k, o = (.inl r, k) → kd k p3 = 105 ∧ 0 < sz k p3) (hx : ∀ e k, o = (.inr e, k) → e ∈ [xN, xA]) : mMet l G m_L_countWords 5 2 12 [.ref p0, .int v1, .int v2, .ref p3] h (hQ o (fun r k => sl k p3 0 r.toInt64) [xN, xA]) (fun _ _ => False) := by
  refine mMet_ofH (by decide +kernel) (by decide) (ac_c rfl (ac_c rfl (ac_c rfl (ac_c rfl ac_0)))) (Nat.le_of_ble_eq_true rfl) ?_
  refine q_aload_n dL_countWords_0 rfl ?_
  refine q_iconst dL_countWords_1 ?_
  refine q_aload_n dL_countWords_2 rfl ?_
  refine q_iload_n dL_countWords_3 rfl ?_
  refine q_iload_n dL_countWords_4 rfl ?_
  refine q_callVH (mc := 0) (ms := 0) (As := [.int v1, .int v2]) dL_countWords_5 KL_79 (c_X11_countWords E) hk rfl (by decide) (Nat.le_of_ble_eq_true rfl) ?_ ?_
  · rintro e k ⟨k0, rfl, n, hn, rfl⟩
    have he := hx _ _ rfl
    rcases List.mem_cons.mp he with rfl | he
    · refine ⟨13, ⟨[], ⟨0, 10, 13, 23⟩, [⟨0, 10, 17, 15⟩], rfl, rfl, by decide +kernel, by decide, CLx_23, CAx_xN, fun z hz => by
        cases hz⟩, fun q => ?_⟩
      refine q_astore dL_countWords_13 (by decide) ?_
      refine q_iconst dL_countWords_15 ?_
      exact q_ireturn dL_countWords_16 rfl ⟨by rfl, n, hn, rfl⟩
    rcases List.mem_cons.mp he with rfl | he
    · refine ⟨17, ⟨[⟨0, 10, 13, 23⟩], ⟨0, 10, 17, 15⟩, [], rfl, rfl, by decide +kernel, by decide, CLx_15, CAx_xA, fun z hz => by
        rcases List.mem_cons.mp hz with rfl | hz; · exact Or.inr ⟨by decide, _, CLx_23, by decide +kernel⟩
        cases hz⟩, fun q => ?_⟩
      refine q_astore dL_countWords_17 (by decide) ?_
      refine q_iconst dL_countWords_19 ?_
      exact q_ireturn dL_countWords_20 rfl ⟨by rfl, n, hn, rfl⟩
    · cases he
  · rintro v k ⟨r, rfl, rfl⟩
    obtain ⟨h1, h2⟩ := ho _ _ rfl
    refine q_i2l dL_countWords_8 ?_
    refine q_lastore dL_countWords_9 h1 (ix0 h2) ?_
    refine q_goto (tgt := 21) dL_countWords_10 (by decide) ?_
    refine q_iconst dL_countWords_21 ?_
    exact q_ireturn dL_countWords_22 rfl ⟨rfl, rfl⟩
set_option maxRecDepth 100000 in
theorem c_L_countWordsByListing {l : Launch} {G : mG} {p0 p3 : Nat} {v1 : Int32} {v2 : Int32} {h : mH} {o : (Int32 ⊕ String) × mH} (E : f_X11_countWordsByListing p0 v1 v2 h = some o) (hk : kd h p0 = 16) (ho : ∀ r k, o = (.inl r, k) → kd k p3 = 105 ∧ 0 < sz k p3) (hx : ∀ e k, o = (.inr e, k) → e ∈ [xN, xA]) : mMet l G m_L_countWordsByListing 5 2 12 [.ref p0, .int v1, .int v2, .ref p3] h (hQ o (fun r k => sl k p3 0 r.toInt64) [xN, xA]) (fun _ _ => False) := by
  refine mMet_ofH (by decide +kernel) (by decide) (ac_c rfl (ac_c rfl (ac_c rfl (ac_c rfl ac_0)))) (Nat.le_of_ble_eq_true rfl) ?_
  refine q_aload_n dL_countWordsByListing_0 rfl ?_
  refine q_iconst dL_countWordsByListing_1 ?_
  refine q_aload_n dL_countWordsByListing_2 rfl ?_
  refine q_iload_n dL_countWordsByListing_3 rfl ?_
  refine q_iload_n dL_countWordsByListing_4 rfl ?_
  refine q_callVH (mc := 0) (ms := 0) (As := [.int v1, .int v2]) dL_countWordsByListing_5 KL_82 (c_X11_countWordsByListing E) hk rfl (by decide) (Nat.le_of_ble_eq_true rfl) ?_ ?_
  · rintro e k ⟨k0, rfl, n, hn, rfl⟩
    have he := hx _ _ rfl
    rcases List.mem_cons.mp he with rfl | he
    · refine ⟨13, ⟨[], ⟨0, 10, 13, 23⟩, [⟨0, 10, 17, 15⟩], rfl, rfl, by decide +kernel, by decide, CLx_23, CAx_xN, fun z hz => by
        cases hz⟩, fun q => ?_⟩
      refine q_astore dL_countWordsByListing_13 (by decide) ?_
      refine q_iconst dL_countWordsByListing_15 ?_
      exact q_ireturn dL_countWordsByListing_16 rfl ⟨by rfl, n, hn, rfl⟩
    rcases List.mem_cons.mp he with rfl | he
    · refine ⟨17, ⟨[⟨0, 10, 13, 23⟩], ⟨0, 10, 17, 15⟩, [], rfl, rfl, by decide +kernel, by decide, CLx_15, CAx_xA, fun z hz => by
        rcases List.mem_cons.mp hz with rfl | hz; · exact Or.inr ⟨by decide, _, CLx_23, by decide +kernel⟩
        cases hz⟩, fun q => ?_⟩
      refine q_astore dL_countWordsByListing_17 (by decide) ?_
      refine q_iconst dL_countWordsByListing_19 ?_
      exact q_ireturn dL_countWordsByListing_20 rfl ⟨by rfl, n, hn, rfl⟩
    · cases he
  · rintro v k ⟨r, rfl, rfl⟩
    obtain ⟨h1, h2⟩ := ho _ _ rfl
    refine q_i2l dL_countWordsByListing_8 ?_
    refine q_lastore dL_countWordsByListing_9 h1 (ix0 h2) ?_
    refine q_goto (tgt := 21) dL_countWordsByListing_10 (by decide) ?_
    refine q_iconst dL_countWordsByListing_21 ?_
    exact q_ireturn dL_countWordsByListing_22 rfl ⟨rfl, rfl⟩
set_option maxRecDepth 100000 in
theorem c_L_shortestLength {l : Launch} {G : mG} {p0 p2 : Nat} {v1 : Int32} {h : mH} {o : (Int32 ⊕ String) × mH} (E : f_X11_shortestLength p0 v1 h = some o) (hk : kd h p0 = 16) (ho : ∀ r k, o = (.inl r, k) → kd k p2 = 105 ∧ 0 < sz k p2) (hx : ∀ e k, o = (.inr e, k) → e ∈ [xN]) : mMet l G m_L_shortestLength 5 1 6 [.ref p0, .int v1, .ref p2] h (hQ o (fun r k => sl k p2 0 r.toInt64) [xN]) (fun _ _ => False) := by
  refine mMet_ofH (by decide +kernel) (by decide) (ac_c rfl (ac_c rfl (ac_c rfl ac_0))) (Nat.le_of_ble_eq_true rfl) ?_
  refine q_aload_n dL_shortestLength_0 rfl ?_
  refine q_iconst dL_shortestLength_1 ?_
  refine q_aload_n dL_shortestLength_2 rfl ?_
  refine q_iload_n dL_shortestLength_3 rfl ?_
  refine q_callVH (mc := 0) (ms := 0) (As := [.int v1]) dL_shortestLength_4 KL_85 (c_X11_shortestLength E) hk rfl (by decide) (Nat.le_of_ble_eq_true rfl) ?_ ?_
  · rintro e k ⟨k0, rfl, n, hn, rfl⟩
    have he := hx _ _ rfl
    rcases List.mem_cons.mp he with rfl | he
    · refine ⟨12, ⟨[], ⟨0, 9, 12, 23⟩, [], rfl, rfl, by decide +kernel, by decide, CLx_23, CAx_xN, fun z hz => by
        cases hz⟩, fun q => ?_⟩
      refine q_astore_n dL_shortestLength_12 (by decide) ?_
      refine q_iconst dL_shortestLength_13 ?_
      exact q_ireturn dL_shortestLength_14 rfl ⟨by rfl, n, hn, rfl⟩
    · cases he
  · rintro v k ⟨r, rfl, rfl⟩
    obtain ⟨h1, h2⟩ := ho _ _ rfl
    refine q_i2l dL_shortestLength_7 ?_
    refine q_lastore dL_shortestLength_8 h1 (ix0 h2) ?_
    refine q_goto (tgt := 15) dL_shortestLength_9 (by decide) ?_
    refine q_iconst dL_shortestLength_15 ?_
    exact q_ireturn dL_shortestLength_16 rfl ⟨rfl, rfl⟩
set_option maxRecDepth 100000 in
theorem c_L_stateCount {l : Launch} {G : mG} {p0 p2 : Nat} {v1 : Int32} {h : mH} {o : (Int32 ⊕ String) × mH} (E : f_X11_stateCount p0 v1 h = some o) (hk : kd h p0 = 16) (ho : ∀ r k, o = (.inl r, k) → kd k p2 = 105 ∧ 0 < sz k p2) (hx : ∀ e k, o = (.inr e, k) → e ∈ [xN]) : mMet l G m_L_stateCount 5 1 6 [.ref p0, .int v1, .ref p2] h (hQ o (fun r k => sl k p2 0 r.toInt64) [xN]) (fun _ _ => False) := by
  refine mMet_ofH (by decide +kernel) (by decide) (ac_c rfl (ac_c rfl (ac_c rfl ac_0))) (Nat.le_of_ble_eq_true rfl) ?_
  refine q_aload_n dL_stateCount_0 rfl ?_
  refine q_iconst dL_stateCount_1 ?_
  refine q_aload_n dL_stateCount_2 rfl ?_
  refine q_iload_n dL_stateCount_3 rfl ?_
  refine q_callVH (mc := 0) (ms := 0) (As := [.int v1]) dL_stateCount_4 KL_88 (c_X11_stateCount E) hk rfl (by decide) (Nat.le_of_ble_eq_true rfl) ?_ ?_
  · rintro e k ⟨k0, rfl, n, hn, rfl⟩
    have he := hx _ _ rfl
    rcases List.mem_cons.mp he with rfl | he
    · refine ⟨12, ⟨[], ⟨0, 9, 12, 23⟩, [], rfl, rfl, by decide +kernel, by decide, CLx_23, CAx_xN, fun z hz => by
        cases hz⟩, fun q => ?_⟩
      refine q_astore_n dL_stateCount_12 (by decide) ?_
      refine q_iconst dL_stateCount_13 ?_
      exact q_ireturn dL_stateCount_14 rfl ⟨by rfl, n, hn, rfl⟩
    · cases he
  · rintro v k ⟨r, rfl, rfl⟩
    obtain ⟨h1, h2⟩ := ho _ _ rfl
    refine q_i2l dL_stateCount_7 ?_
    refine q_lastore dL_stateCount_8 h1 (ix0 h2) ?_
    refine q_goto (tgt := 15) dL_stateCount_9 (by decide) ?_
    refine q_iconst dL_stateCount_15 ?_
    exact q_ireturn dL_stateCount_16 rfl ⟨rfl, rfl⟩
set_option maxRecDepth 100000 in
theorem c_L_acceptingCount {l : Launch} {G : mG} {p0 p2 : Nat} {v1 : Int32} {h : mH} {o : (Int32 ⊕ String) × mH} (E : f_X11_acceptingCount p0 v1 h = some o) (hk : kd h p0 = 16) (ho : ∀ r k, o = (.inl r, k) → kd k p2 = 105 ∧ 0 < sz k p2) (hx : ∀ e k, o = (.inr e, k) → e ∈ [xN]) : mMet l G m_L_acceptingCount 5 1 6 [.ref p0, .int v1, .ref p2] h (hQ o (fun r k => sl k p2 0 r.toInt64) [xN]) (fun _ _ => False) := by
  refine mMet_ofH (by decide +kernel) (by decide) (ac_c rfl (ac_c rfl (ac_c rfl ac_0))) (Nat.le_of_ble_eq_true rfl) ?_
  refine q_aload_n dL_acceptingCount_0 rfl ?_
  refine q_iconst dL_acceptingCount_1 ?_
  refine q_aload_n dL_acceptingCount_2 rfl ?_
  refine q_iload_n dL_acceptingCount_3 rfl ?_
  refine q_callVH (mc := 0) (ms := 0) (As := [.int v1]) dL_acceptingCount_4 KL_91 (c_X11_acceptingCount E) hk rfl (by decide) (Nat.le_of_ble_eq_true rfl) ?_ ?_
  · rintro e k ⟨k0, rfl, n, hn, rfl⟩
    have he := hx _ _ rfl
    rcases List.mem_cons.mp he with rfl | he
    · refine ⟨12, ⟨[], ⟨0, 9, 12, 23⟩, [], rfl, rfl, by decide +kernel, by decide, CLx_23, CAx_xN, fun z hz => by
        cases hz⟩, fun q => ?_⟩
      refine q_astore_n dL_acceptingCount_12 (by decide) ?_
      refine q_iconst dL_acceptingCount_13 ?_
      exact q_ireturn dL_acceptingCount_14 rfl ⟨by rfl, n, hn, rfl⟩
    · cases he
  · rintro v k ⟨r, rfl, rfl⟩
    obtain ⟨h1, h2⟩ := ho _ _ rfl
    refine q_i2l dL_acceptingCount_7 ?_
    refine q_lastore dL_acceptingCount_8 h1 (ix0 h2) ?_
    refine q_goto (tgt := 15) dL_acceptingCount_9 (by decide) ?_
    refine q_iconst dL_acceptingCount_15 ?_
    exact q_ireturn dL_acceptingCount_16 rfl ⟨rfl, rfl⟩
set_option maxRecDepth 100000 in
theorem c_L_smallestCount {l : Launch} {G : mG} {p0 p2 : Nat} {v1 : Int32} {h : mH} {o : (Int32 ⊕ String) × mH} (E : f_X11_smallestCount p0 v1 h = some o) (hk : kd h p0 = 16) (ho : ∀ r k, o = (.inl r, k) → kd k p2 = 105 ∧ 0 < sz k p2) (hx : ∀ e k, o = (.inr e, k) → e ∈ [xN]) : mMet l G m_L_smallestCount 6 1 6 [.ref p0, .int v1, .ref p2] h (hQ o (fun r k => sl k p2 0 r.toInt64) [xN]) (fun _ _ => False) := by
  refine mMet_ofH (by decide +kernel) (by decide) (ac_c rfl (ac_c rfl (ac_c rfl ac_0))) (Nat.le_of_ble_eq_true rfl) ?_
  refine q_aload_n dL_smallestCount_0 rfl ?_
  refine q_iconst dL_smallestCount_1 ?_
  refine q_aload_n dL_smallestCount_2 rfl ?_
  refine q_iload_n dL_smallestCount_3 rfl ?_
  refine q_callVH (mc := 0) (ms := 0) (As := [.int v1]) dL_smallestCount_4 KL_94 (c_X11_smallestCount E) hk rfl (by decide) (Nat.le_of_ble_eq_true rfl) ?_ ?_
  · rintro e k ⟨k0, rfl, n, hn, rfl⟩
    have he := hx _ _ rfl
    rcases List.mem_cons.mp he with rfl | he
    · refine ⟨12, ⟨[], ⟨0, 9, 12, 23⟩, [], rfl, rfl, by decide +kernel, by decide, CLx_23, CAx_xN, fun z hz => by
        cases hz⟩, fun q => ?_⟩
      refine q_astore_n dL_smallestCount_12 (by decide) ?_
      refine q_iconst dL_smallestCount_13 ?_
      exact q_ireturn dL_smallestCount_14 rfl ⟨by rfl, n, hn, rfl⟩
    · cases he
  · rintro v k ⟨r, rfl, rfl⟩
    obtain ⟨h1, h2⟩ := ho _ _ rfl
    refine q_i2l dL_smallestCount_7 ?_
    refine q_lastore dL_smallestCount_8 h1 (ix0 h2) ?_
    refine q_goto (tgt := 15) dL_smallestCount_9 (by decide) ?_
    refine q_iconst dL_smallestCount_15 ?_
    exact q_ireturn dL_smallestCount_16 rfl ⟨rfl, rfl⟩
set_option maxRecDepth 100000 in
theorem c_L_smallestCountByPairs {l : Launch} {G : mG} {p0 p2 : Nat} {v1 : Int32} {h : mH} {o : (Int32 ⊕ String) × mH} (E : f_X11_smallestCountByPairs p0 v1 h = some o) (hk : kd h p0 = 16) (ho : ∀ r k, o = (.inl r, k) → kd k p2 = 105 ∧ 0 < sz k p2) (hx : ∀ e k, o = (.inr e, k) → e ∈ [xN]) : mMet l G m_L_smallestCountByPairs 5 1 6 [.ref p0, .int v1, .ref p2] h (hQ o (fun r k => sl k p2 0 r.toInt64) [xN]) (fun _ _ => False) := by
  refine mMet_ofH (by decide +kernel) (by decide) (ac_c rfl (ac_c rfl (ac_c rfl ac_0))) (Nat.le_of_ble_eq_true rfl) ?_
  refine q_aload_n dL_smallestCountByPairs_0 rfl ?_
  refine q_iconst dL_smallestCountByPairs_1 ?_
  refine q_aload_n dL_smallestCountByPairs_2 rfl ?_
  refine q_iload_n dL_smallestCountByPairs_3 rfl ?_
  refine q_callVH (mc := 0) (ms := 0) (As := [.int v1]) dL_smallestCountByPairs_4 KL_97 (c_X11_smallestCountByPairs E) hk rfl (by decide) (Nat.le_of_ble_eq_true rfl) ?_ ?_
  · rintro e k ⟨k0, rfl, n, hn, rfl⟩
    have he := hx _ _ rfl
    rcases List.mem_cons.mp he with rfl | he
    · refine ⟨12, ⟨[], ⟨0, 9, 12, 23⟩, [], rfl, rfl, by decide +kernel, by decide, CLx_23, CAx_xN, fun z hz => by
        cases hz⟩, fun q => ?_⟩
      refine q_astore_n dL_smallestCountByPairs_12 (by decide) ?_
      refine q_iconst dL_smallestCountByPairs_13 ?_
      exact q_ireturn dL_smallestCountByPairs_14 rfl ⟨by rfl, n, hn, rfl⟩
    · cases he
  · rintro v k ⟨r, rfl, rfl⟩
    obtain ⟨h1, h2⟩ := ho _ _ rfl
    refine q_i2l dL_smallestCountByPairs_7 ?_
    refine q_lastore dL_smallestCountByPairs_8 h1 (ix0 h2) ?_
    refine q_goto (tgt := 15) dL_smallestCountByPairs_9 (by decide) ?_
    refine q_iconst dL_smallestCountByPairs_15 ?_
    exact q_ireturn dL_smallestCountByPairs_16 rfl ⟨rfl, rfl⟩
set_option maxRecDepth 100000 in
theorem c_L_isFinite {l : Launch} {G : mG} {p0 p2 : Nat} {v1 : Int32} {h : mH} {o : (Int32 ⊕ String) × mH} (E : f_X11_isFinite p0 v1 h = some o) (hk : kd h p0 = 16) (ho : ∀ r k, o = (.inl r, k) → kd k p2 = 105 ∧ 0 < sz k p2) (hx : ∀ e k, o = (.inr e, k) → e ∈ [xN]) : mMet l G m_L_isFinite 4 1 6 [.ref p0, .int v1, .ref p2] h (hQ o (fun r k => sl k p2 0 (if r = 0 then Int64.ofNat 0 else Int64.ofNat 1)) [xN]) (fun _ _ => False) := by
  refine mMet_ofH (by decide +kernel) (by decide) (ac_c rfl (ac_c rfl (ac_c rfl ac_0))) (Nat.le_of_ble_eq_true rfl) ?_
  refine q_aload_n dL_isFinite_0 rfl ?_
  refine q_iconst dL_isFinite_1 ?_
  refine q_aload_n dL_isFinite_2 rfl ?_
  refine q_iload_n dL_isFinite_3 rfl ?_
  refine q_callVH (mc := 0) (ms := 0) (As := [.int v1]) dL_isFinite_4 KL_100 (c_X11_isFinite E) hk rfl (by decide) (Nat.le_of_ble_eq_true rfl) ?_ ?_
  · rintro e k ⟨k0, rfl, n, hn, rfl⟩
    have he := hx _ _ rfl
    rcases List.mem_cons.mp he with rfl | he
    · refine ⟨19, ⟨[], ⟨0, 16, 19, 23⟩, [], rfl, rfl, by decide +kernel, by decide, CLx_23, CAx_xN, fun z hz => by
        cases hz⟩, fun q => ?_⟩
      refine q_astore_n dL_isFinite_19 (by decide) ?_
      refine q_iconst dL_isFinite_20 ?_
      exact q_ireturn dL_isFinite_21 rfl ⟨by rfl, n, hn, rfl⟩
    · cases he
  · rintro v k ⟨r, rfl, rfl⟩
    obtain ⟨h1, h2⟩ := ho _ _ rfl
    refine q_if_eq (tgt := 14) dL_isFinite_7 (by decide) (fun z => ?_) (fun z => ?_)
    · refine q_lconst dL_isFinite_14 ?_
      refine q_lastore dL_isFinite_15 h1 (ix0 h2) ?_
      refine q_goto (tgt := 22) dL_isFinite_16 (by decide) ?_
      refine q_iconst dL_isFinite_22 ?_
      exact q_ireturn dL_isFinite_23 rfl ⟨rfl, by simp only [if_pos z]; rfl⟩
    · refine q_lconst dL_isFinite_10 ?_
      refine q_goto (tgt := 15) dL_isFinite_11 (by decide) ?_
      refine q_lastore dL_isFinite_15 h1 (ix0 h2) ?_
      refine q_goto (tgt := 22) dL_isFinite_16 (by decide) ?_
      refine q_iconst dL_isFinite_22 ?_
      exact q_ireturn dL_isFinite_23 rfl ⟨rfl, by simp only [if_neg z]; rfl⟩
set_option maxRecDepth 100000 in
theorem c_L_isUniversal {l : Launch} {G : mG} {p0 p2 : Nat} {v1 : Int32} {h : mH} {o : (Int32 ⊕ String) × mH} (E : f_X11_isUniversal p0 v1 h = some o) (hk : kd h p0 = 16) (ho : ∀ r k, o = (.inl r, k) → kd k p2 = 105 ∧ 0 < sz k p2) (hx : ∀ e k, o = (.inr e, k) → e ∈ [xN]) : mMet l G m_L_isUniversal 5 1 6 [.ref p0, .int v1, .ref p2] h (hQ o (fun r k => sl k p2 0 (if r = 0 then Int64.ofNat 0 else Int64.ofNat 1)) [xN]) (fun _ _ => False) := by
  refine mMet_ofH (by decide +kernel) (by decide) (ac_c rfl (ac_c rfl (ac_c rfl ac_0))) (Nat.le_of_ble_eq_true rfl) ?_
  refine q_aload_n dL_isUniversal_0 rfl ?_
  refine q_iconst dL_isUniversal_1 ?_
  refine q_aload_n dL_isUniversal_2 rfl ?_
  refine q_iload_n dL_isUniversal_3 rfl ?_
  refine q_callVH (mc := 0) (ms := 0) (As := [.int v1]) dL_isUniversal_4 KL_103 (c_X11_isUniversal E) hk rfl (by decide) (Nat.le_of_ble_eq_true rfl) ?_ ?_
  · rintro e k ⟨k0, rfl, n, hn, rfl⟩
    have he := hx _ _ rfl
    rcases List.mem_cons.mp he with rfl | he
    · refine ⟨19, ⟨[], ⟨0, 16, 19, 23⟩, [], rfl, rfl, by decide +kernel, by decide, CLx_23, CAx_xN, fun z hz => by
        cases hz⟩, fun q => ?_⟩
      refine q_astore_n dL_isUniversal_19 (by decide) ?_
      refine q_iconst dL_isUniversal_20 ?_
      exact q_ireturn dL_isUniversal_21 rfl ⟨by rfl, n, hn, rfl⟩
    · cases he
  · rintro v k ⟨r, rfl, rfl⟩
    obtain ⟨h1, h2⟩ := ho _ _ rfl
    refine q_if_eq (tgt := 14) dL_isUniversal_7 (by decide) (fun z => ?_) (fun z => ?_)
    · refine q_lconst dL_isUniversal_14 ?_
      refine q_lastore dL_isUniversal_15 h1 (ix0 h2) ?_
      refine q_goto (tgt := 22) dL_isUniversal_16 (by decide) ?_
      refine q_iconst dL_isUniversal_22 ?_
      exact q_ireturn dL_isUniversal_23 rfl ⟨rfl, by simp only [if_pos z]; rfl⟩
    · refine q_lconst dL_isUniversal_10 ?_
      refine q_goto (tgt := 15) dL_isUniversal_11 (by decide) ?_
      refine q_lastore dL_isUniversal_15 h1 (ix0 h2) ?_
      refine q_goto (tgt := 22) dL_isUniversal_16 (by decide) ?_
      refine q_iconst dL_isUniversal_22 ?_
      exact q_ireturn dL_isUniversal_23 rfl ⟨rfl, by simp only [if_neg z]; rfl⟩
set_option maxRecDepth 100000 in
theorem c_L_areEquivalent {l : Launch} {G : mG} {p0 p3 : Nat} {v1 : Int32} {v2 : Int32} {h : mH} {o : (Int32 ⊕ String) × mH} (E : f_X11_areEquivalent p0 v1 v2 h = some o) (hk : kd h p0 = 16) (ho : ∀ r k, o = (.inl r, k) → kd k p3 = 105 ∧ 0 < sz k p3) (hx : ∀ e k, o = (.inr e, k) → e ∈ [xN]) : mMet l G m_L_areEquivalent 7 2 12 [.ref p0, .int v1, .int v2, .ref p3] h (hQ o (fun r k => sl k p3 0 (if r = 0 then Int64.ofNat 0 else Int64.ofNat 1)) [xN]) (fun _ _ => False) := by
  refine mMet_ofH (by decide +kernel) (by decide) (ac_c rfl (ac_c rfl (ac_c rfl (ac_c rfl ac_0)))) (Nat.le_of_ble_eq_true rfl) ?_
  refine q_aload_n dL_areEquivalent_0 rfl ?_
  refine q_iconst dL_areEquivalent_1 ?_
  refine q_aload_n dL_areEquivalent_2 rfl ?_
  refine q_iload_n dL_areEquivalent_3 rfl ?_
  refine q_iload_n dL_areEquivalent_4 rfl ?_
  refine q_callVH (mc := 0) (ms := 0) (As := [.int v1, .int v2]) dL_areEquivalent_5 KL_106 (c_X11_areEquivalent E) hk rfl (by decide) (Nat.le_of_ble_eq_true rfl) ?_ ?_
  · rintro e k ⟨k0, rfl, n, hn, rfl⟩
    have he := hx _ _ rfl
    rcases List.mem_cons.mp he with rfl | he
    · refine ⟨20, ⟨[], ⟨0, 17, 20, 23⟩, [], rfl, rfl, by decide +kernel, by decide, CLx_23, CAx_xN, fun z hz => by
        cases hz⟩, fun q => ?_⟩
      refine q_astore dL_areEquivalent_20 (by decide) ?_
      refine q_iconst dL_areEquivalent_22 ?_
      exact q_ireturn dL_areEquivalent_23 rfl ⟨by rfl, n, hn, rfl⟩
    · cases he
  · rintro v k ⟨r, rfl, rfl⟩
    obtain ⟨h1, h2⟩ := ho _ _ rfl
    refine q_if_eq (tgt := 15) dL_areEquivalent_8 (by decide) (fun z => ?_) (fun z => ?_)
    · refine q_lconst dL_areEquivalent_15 ?_
      refine q_lastore dL_areEquivalent_16 h1 (ix0 h2) ?_
      refine q_goto (tgt := 24) dL_areEquivalent_17 (by decide) ?_
      refine q_iconst dL_areEquivalent_24 ?_
      exact q_ireturn dL_areEquivalent_25 rfl ⟨rfl, by simp only [if_pos z]; rfl⟩
    · refine q_lconst dL_areEquivalent_11 ?_
      refine q_goto (tgt := 16) dL_areEquivalent_12 (by decide) ?_
      refine q_lastore dL_areEquivalent_16 h1 (ix0 h2) ?_
      refine q_goto (tgt := 24) dL_areEquivalent_17 (by decide) ?_
      refine q_iconst dL_areEquivalent_24 ?_
      exact q_ireturn dL_areEquivalent_25 rfl ⟨rfl, by simp only [if_neg z]; rfl⟩
set_option maxRecDepth 100000 in
theorem c_L_areEquivalentBySmallest {l : Launch} {G : mG} {p0 p3 : Nat} {v1 : Int32} {v2 : Int32} {h : mH} {o : (Int32 ⊕ String) × mH} (E : f_X11_areEquivalentBySmallest p0 v1 v2 h = some o) (hk : kd h p0 = 16) (ho : ∀ r k, o = (.inl r, k) → kd k p3 = 105 ∧ 0 < sz k p3) (hx : ∀ e k, o = (.inr e, k) → e ∈ [xN]) : mMet l G m_L_areEquivalentBySmallest 7 2 12 [.ref p0, .int v1, .int v2, .ref p3] h (hQ o (fun r k => sl k p3 0 (if r = 0 then Int64.ofNat 0 else Int64.ofNat 1)) [xN]) (fun _ _ => False) := by
  refine mMet_ofH (by decide +kernel) (by decide) (ac_c rfl (ac_c rfl (ac_c rfl (ac_c rfl ac_0)))) (Nat.le_of_ble_eq_true rfl) ?_
  refine q_aload_n dL_areEquivalentBySmallest_0 rfl ?_
  refine q_iconst dL_areEquivalentBySmallest_1 ?_
  refine q_aload_n dL_areEquivalentBySmallest_2 rfl ?_
  refine q_iload_n dL_areEquivalentBySmallest_3 rfl ?_
  refine q_iload_n dL_areEquivalentBySmallest_4 rfl ?_
  refine q_callVH (mc := 0) (ms := 0) (As := [.int v1, .int v2]) dL_areEquivalentBySmallest_5 KL_109 (c_X11_areEquivalentBySmallest E) hk rfl (by decide) (Nat.le_of_ble_eq_true rfl) ?_ ?_
  · rintro e k ⟨k0, rfl, n, hn, rfl⟩
    have he := hx _ _ rfl
    rcases List.mem_cons.mp he with rfl | he
    · refine ⟨20, ⟨[], ⟨0, 17, 20, 23⟩, [], rfl, rfl, by decide +kernel, by decide, CLx_23, CAx_xN, fun z hz => by
        cases hz⟩, fun q => ?_⟩
      refine q_astore dL_areEquivalentBySmallest_20 (by decide) ?_
      refine q_iconst dL_areEquivalentBySmallest_22 ?_
      exact q_ireturn dL_areEquivalentBySmallest_23 rfl ⟨by rfl, n, hn, rfl⟩
    · cases he
  · rintro v k ⟨r, rfl, rfl⟩
    obtain ⟨h1, h2⟩ := ho _ _ rfl
    refine q_if_eq (tgt := 15) dL_areEquivalentBySmallest_8 (by decide) (fun z => ?_) (fun z => ?_)
    · refine q_lconst dL_areEquivalentBySmallest_15 ?_
      refine q_lastore dL_areEquivalentBySmallest_16 h1 (ix0 h2) ?_
      refine q_goto (tgt := 24) dL_areEquivalentBySmallest_17 (by decide) ?_
      refine q_iconst dL_areEquivalentBySmallest_24 ?_
      exact q_ireturn dL_areEquivalentBySmallest_25 rfl ⟨rfl, by simp only [if_pos z]; rfl⟩
    · refine q_lconst dL_areEquivalentBySmallest_11 ?_
      refine q_goto (tgt := 16) dL_areEquivalentBySmallest_12 (by decide) ?_
      refine q_lastore dL_areEquivalentBySmallest_16 h1 (ix0 h2) ?_
      refine q_goto (tgt := 24) dL_areEquivalentBySmallest_17 (by decide) ?_
      refine q_iconst dL_areEquivalentBySmallest_24 ?_
      exact q_ireturn dL_areEquivalentBySmallest_25 rfl ⟨rfl, by simp only [if_neg z]; rfl⟩
set_option maxRecDepth 100000 in
theorem c_L_isIncluded {l : Launch} {G : mG} {p0 p3 : Nat} {v1 : Int32} {v2 : Int32} {h : mH} {o : (Int32 ⊕ String) × mH} (E : f_X11_isIncluded p0 v1 v2 h = some o) (hk : kd h p0 = 16) (ho : ∀ r k, o = (.inl r, k) → kd k p3 = 105 ∧ 0 < sz k p3) (hx : ∀ e k, o = (.inr e, k) → e ∈ [xN]) : mMet l G m_L_isIncluded 6 2 12 [.ref p0, .int v1, .int v2, .ref p3] h (hQ o (fun r k => sl k p3 0 (if r = 0 then Int64.ofNat 0 else Int64.ofNat 1)) [xN]) (fun _ _ => False) := by
  refine mMet_ofH (by decide +kernel) (by decide) (ac_c rfl (ac_c rfl (ac_c rfl (ac_c rfl ac_0)))) (Nat.le_of_ble_eq_true rfl) ?_
  refine q_aload_n dL_isIncluded_0 rfl ?_
  refine q_iconst dL_isIncluded_1 ?_
  refine q_aload_n dL_isIncluded_2 rfl ?_
  refine q_iload_n dL_isIncluded_3 rfl ?_
  refine q_iload_n dL_isIncluded_4 rfl ?_
  refine q_callVH (mc := 0) (ms := 0) (As := [.int v1, .int v2]) dL_isIncluded_5 KL_112 (c_X11_isIncluded E) hk rfl (by decide) (Nat.le_of_ble_eq_true rfl) ?_ ?_
  · rintro e k ⟨k0, rfl, n, hn, rfl⟩
    have he := hx _ _ rfl
    rcases List.mem_cons.mp he with rfl | he
    · refine ⟨20, ⟨[], ⟨0, 17, 20, 23⟩, [], rfl, rfl, by decide +kernel, by decide, CLx_23, CAx_xN, fun z hz => by
        cases hz⟩, fun q => ?_⟩
      refine q_astore dL_isIncluded_20 (by decide) ?_
      refine q_iconst dL_isIncluded_22 ?_
      exact q_ireturn dL_isIncluded_23 rfl ⟨by rfl, n, hn, rfl⟩
    · cases he
  · rintro v k ⟨r, rfl, rfl⟩
    obtain ⟨h1, h2⟩ := ho _ _ rfl
    refine q_if_eq (tgt := 15) dL_isIncluded_8 (by decide) (fun z => ?_) (fun z => ?_)
    · refine q_lconst dL_isIncluded_15 ?_
      refine q_lastore dL_isIncluded_16 h1 (ix0 h2) ?_
      refine q_goto (tgt := 24) dL_isIncluded_17 (by decide) ?_
      refine q_iconst dL_isIncluded_24 ?_
      exact q_ireturn dL_isIncluded_25 rfl ⟨rfl, by simp only [if_pos z]; rfl⟩
    · refine q_lconst dL_isIncluded_11 ?_
      refine q_goto (tgt := 16) dL_isIncluded_12 (by decide) ?_
      refine q_lastore dL_isIncluded_16 h1 (ix0 h2) ?_
      refine q_goto (tgt := 24) dL_isIncluded_17 (by decide) ?_
      refine q_iconst dL_isIncluded_24 ?_
      exact q_ireturn dL_isIncluded_25 rfl ⟨rfl, by simp only [if_neg z]; rfl⟩
set_option maxRecDepth 100000 in
theorem c_L_differenceLength {l : Launch} {G : mG} {p0 p3 : Nat} {v1 : Int32} {v2 : Int32} {h : mH} {o : (Int32 ⊕ String) × mH} (E : f_X11_differenceLength p0 v1 v2 h = some o) (hk : kd h p0 = 16) (ho : ∀ r k, o = (.inl r, k) → kd k p3 = 105 ∧ 0 < sz k p3) (hx : ∀ e k, o = (.inr e, k) → e ∈ [xN]) : mMet l G m_L_differenceLength 6 2 12 [.ref p0, .int v1, .int v2, .ref p3] h (hQ o (fun r k => sl k p3 0 r.toInt64) [xN]) (fun _ _ => False) := by
  refine mMet_ofH (by decide +kernel) (by decide) (ac_c rfl (ac_c rfl (ac_c rfl (ac_c rfl ac_0)))) (Nat.le_of_ble_eq_true rfl) ?_
  refine q_aload_n dL_differenceLength_0 rfl ?_
  refine q_iconst dL_differenceLength_1 ?_
  refine q_aload_n dL_differenceLength_2 rfl ?_
  refine q_iload_n dL_differenceLength_3 rfl ?_
  refine q_iload_n dL_differenceLength_4 rfl ?_
  refine q_callVH (mc := 0) (ms := 0) (As := [.int v1, .int v2]) dL_differenceLength_5 KL_115 (c_X11_differenceLength E) hk rfl (by decide) (Nat.le_of_ble_eq_true rfl) ?_ ?_
  · rintro e k ⟨k0, rfl, n, hn, rfl⟩
    have he := hx _ _ rfl
    rcases List.mem_cons.mp he with rfl | he
    · refine ⟨13, ⟨[], ⟨0, 10, 13, 23⟩, [], rfl, rfl, by decide +kernel, by decide, CLx_23, CAx_xN, fun z hz => by
        cases hz⟩, fun q => ?_⟩
      refine q_astore dL_differenceLength_13 (by decide) ?_
      refine q_iconst dL_differenceLength_15 ?_
      exact q_ireturn dL_differenceLength_16 rfl ⟨by rfl, n, hn, rfl⟩
    · cases he
  · rintro v k ⟨r, rfl, rfl⟩
    obtain ⟨h1, h2⟩ := ho _ _ rfl
    refine q_i2l dL_differenceLength_8 ?_
    refine q_lastore dL_differenceLength_9 h1 (ix0 h2) ?_
    refine q_goto (tgt := 17) dL_differenceLength_10 (by decide) ?_
    refine q_iconst dL_differenceLength_17 ?_
    exact q_ireturn dL_differenceLength_18 rfl ⟨rfl, rfl⟩
set_option maxRecDepth 100000 in
theorem c_L_slotByStates {l : Launch} {G : mG} {p0 p2 : Nat} {v1 : Int32} {h : mH} {o : (Int32 ⊕ String) × mH} (E : f_X11_slotByStates p0 v1 h = some o) (hk : kd h p0 = 16) (ho : ∀ r k, o = (.inl r, k) → kd k p2 = 105 ∧ 0 < sz k p2) (hx : ∀ e k, o = (.inr e, k) → e ∈ [xN]) : mMet l G m_L_slotByStates 6 1 6 [.ref p0, .int v1, .ref p2] h (hQ o (fun r k => sl k p2 0 r.toInt64) [xN]) (fun _ _ => False) := by
  refine mMet_ofH (by decide +kernel) (by decide) (ac_c rfl (ac_c rfl (ac_c rfl ac_0))) (Nat.le_of_ble_eq_true rfl) ?_
  refine q_aload_n dL_slotByStates_0 rfl ?_
  refine q_iconst dL_slotByStates_1 ?_
  refine q_aload_n dL_slotByStates_2 rfl ?_
  refine q_iload_n dL_slotByStates_3 rfl ?_
  refine q_callVH (mc := 0) (ms := 0) (As := [.int v1]) dL_slotByStates_4 KL_118 (c_X11_slotByStates E) hk rfl (by decide) (Nat.le_of_ble_eq_true rfl) ?_ ?_
  · rintro e k ⟨k0, rfl, n, hn, rfl⟩
    have he := hx _ _ rfl
    rcases List.mem_cons.mp he with rfl | he
    · refine ⟨12, ⟨[], ⟨0, 9, 12, 23⟩, [], rfl, rfl, by decide +kernel, by decide, CLx_23, CAx_xN, fun z hz => by
        cases hz⟩, fun q => ?_⟩
      refine q_astore_n dL_slotByStates_12 (by decide) ?_
      refine q_iconst dL_slotByStates_13 ?_
      exact q_ireturn dL_slotByStates_14 rfl ⟨by rfl, n, hn, rfl⟩
    · cases he
  · rintro v k ⟨r, rfl, rfl⟩
    obtain ⟨h1, h2⟩ := ho _ _ rfl
    refine q_i2l dL_slotByStates_7 ?_
    refine q_lastore dL_slotByStates_8 h1 (ix0 h2) ?_
    refine q_goto (tgt := 15) dL_slotByStates_9 (by decide) ?_
    refine q_iconst dL_slotByStates_15 ?_
    exact q_ireturn dL_slotByStates_16 rfl ⟨rfl, rfl⟩
set_option maxRecDepth 100000 in
theorem c_L_wordLength {l : Launch} {G : mG} {p0 p2 : Nat} {v1 : Int32} {h : mH} {o : (Int32 ⊕ String) × mH} (E : f_X11_wordLength p0 v1 h = some o) (hk : kd h p0 = 16) (ho : ∀ r k, o = (.inl r, k) → kd k p2 = 105 ∧ 0 < sz k p2) (hx : ∀ e k, o = (.inr e, k) → e ∈ [xI]) : mMet l G m_L_wordLength 3 1 6 [.ref p0, .int v1, .ref p2] h (hQ o (fun r k => sl k p2 0 r.toInt64) [xI]) (fun _ _ => False) := by
  refine mMet_ofH (by decide +kernel) (by decide) (ac_c rfl (ac_c rfl (ac_c rfl ac_0))) (Nat.le_of_ble_eq_true rfl) ?_
  refine q_aload_n dL_wordLength_0 rfl ?_
  refine q_iconst dL_wordLength_1 ?_
  refine q_aload_n dL_wordLength_2 rfl ?_
  refine q_iload_n dL_wordLength_3 rfl ?_
  refine q_callVH (mc := 0) (ms := 0) (As := [.int v1]) dL_wordLength_4 KL_121 (c_X11_wordLength E) hk rfl (by decide) (Nat.le_of_ble_eq_true rfl) ?_ ?_
  · rintro e k ⟨k0, rfl, n, hn, rfl⟩
    have he := hx _ _ rfl
    rcases List.mem_cons.mp he with rfl | he
    · refine ⟨12, ⟨[], ⟨0, 9, 12, 13⟩, [], rfl, rfl, by decide +kernel, by decide, CLx_13, CAx_xI, fun z hz => by
        cases hz⟩, fun q => ?_⟩
      refine q_astore_n dL_wordLength_12 (by decide) ?_
      refine q_iconst dL_wordLength_13 ?_
      exact q_ireturn dL_wordLength_14 rfl ⟨by rfl, n, hn, rfl⟩
    · cases he
  · rintro v k ⟨r, rfl, rfl⟩
    obtain ⟨h1, h2⟩ := ho _ _ rfl
    refine q_i2l dL_wordLength_7 ?_
    refine q_lastore dL_wordLength_8 h1 (ix0 h2) ?_
    refine q_goto (tgt := 15) dL_wordLength_9 (by decide) ?_
    refine q_iconst dL_wordLength_15 ?_
    exact q_ireturn dL_wordLength_16 rfl ⟨rfl, rfl⟩
set_option maxRecDepth 100000 in
theorem c_L_wordLetter {l : Launch} {G : mG} {p0 p3 : Nat} {v1 : Int32} {v2 : Int32} {h : mH} {o : (Int32 ⊕ String) × mH} (E : f_X11_wordLetter p0 v1 v2 h = some o) (hk : kd h p0 = 16) (ho : ∀ r k, o = (.inl r, k) → kd k p3 = 105 ∧ 0 < sz k p3) (hx : ∀ e k, o = (.inr e, k) → e ∈ [xI]) : mMet l G m_L_wordLetter 3 2 12 [.ref p0, .int v1, .int v2, .ref p3] h (hQ o (fun r k => sl k p3 0 r.toInt64) [xI]) (fun _ _ => False) := by
  refine mMet_ofH (by decide +kernel) (by decide) (ac_c rfl (ac_c rfl (ac_c rfl (ac_c rfl ac_0)))) (Nat.le_of_ble_eq_true rfl) ?_
  refine q_aload_n dL_wordLetter_0 rfl ?_
  refine q_iconst dL_wordLetter_1 ?_
  refine q_aload_n dL_wordLetter_2 rfl ?_
  refine q_iload_n dL_wordLetter_3 rfl ?_
  refine q_iload_n dL_wordLetter_4 rfl ?_
  refine q_callVH (mc := 0) (ms := 0) (As := [.int v1, .int v2]) dL_wordLetter_5 KL_124 (c_X11_wordLetter E) hk rfl (by decide) (Nat.le_of_ble_eq_true rfl) ?_ ?_
  · rintro e k ⟨k0, rfl, n, hn, rfl⟩
    have he := hx _ _ rfl
    rcases List.mem_cons.mp he with rfl | he
    · refine ⟨13, ⟨[], ⟨0, 10, 13, 13⟩, [], rfl, rfl, by decide +kernel, by decide, CLx_13, CAx_xI, fun z hz => by
        cases hz⟩, fun q => ?_⟩
      refine q_astore dL_wordLetter_13 (by decide) ?_
      refine q_iconst dL_wordLetter_15 ?_
      exact q_ireturn dL_wordLetter_16 rfl ⟨by rfl, n, hn, rfl⟩
    · cases he
  · rintro v k ⟨r, rfl, rfl⟩
    obtain ⟨h1, h2⟩ := ho _ _ rfl
    refine q_i2l dL_wordLetter_8 ?_
    refine q_lastore dL_wordLetter_9 h1 (ix0 h2) ?_
    refine q_goto (tgt := 17) dL_wordLetter_10 (by decide) ?_
    refine q_iconst dL_wordLetter_17 ?_
    exact q_ireturn dL_wordLetter_18 rfl ⟨rfl, rfl⟩
set_option maxRecDepth 100000 in
theorem c_L_meanLetters {l : Launch} {G : mG} {p0 p1 : Nat} {h : mH} {o : (UInt64 ⊕ String) × mH} (E : f_X11_meanLetters p0 h = some o) (hk : kd h p0 = 16) (ho : ∀ r k, o = (.inl r, k) → kd k p1 = 106 ∧ 0 < sz k p1) (hx : ∀ e k, o = (.inr e, k) → e ∈ [xM]) : mMet l G m_L_meanLetters 3 1 6 [.ref p0, .ref p1] h (hQ o (fun r k => sd k p1 0 r) [xM]) (fun _ _ => False) := by
  refine mMet_ofH (by decide +kernel) (by decide) (ac_c rfl (ac_c rfl ac_0)) (Nat.le_of_ble_eq_true rfl) ?_
  refine q_aload_n dL_meanLetters_0 rfl ?_
  refine q_iconst dL_meanLetters_1 ?_
  refine q_aload_n dL_meanLetters_2 rfl ?_
  refine q_callVH (mc := 0) (ms := 0) (As := []) dL_meanLetters_3 KL_128 (c_X11_meanLetters E) hk rfl (by decide) (Nat.le_of_ble_eq_true rfl) ?_ ?_
  · rintro e k ⟨k0, rfl, n, hn, rfl⟩
    have he := hx _ _ rfl
    rcases List.mem_cons.mp he with rfl | he
    · refine ⟨10, ⟨[], ⟨0, 7, 10, 132⟩, [], rfl, rfl, by decide +kernel, by decide, CLx_132, CAx_xM, fun z hz => by
        cases hz⟩, fun q => ?_⟩
      refine q_astore_n dL_meanLetters_10 (by decide) ?_
      refine q_iconst dL_meanLetters_11 ?_
      exact q_ireturn dL_meanLetters_12 rfl ⟨by rfl, n, hn, rfl⟩
    · cases he
  · rintro v k ⟨r, rfl, rfl⟩
    obtain ⟨h1, h2⟩ := ho _ _ rfl
    refine q_dastore dL_meanLetters_6 h1 (ix0 h2) ?_
    refine q_goto (tgt := 13) dL_meanLetters_7 (by decide) ?_
    refine q_iconst dL_meanLetters_13 ?_
    exact q_ireturn dL_meanLetters_14 rfl ⟨rfl, rfl⟩
set_option maxRecDepth 100000 in
theorem c_L_acceptedShare {l : Launch} {G : mG} {p0 p2 : Nat} {v1 : Int32} {h : mH} {o : (UInt32 ⊕ String) × mH} (E : f_X11_acceptedShare p0 v1 h = some o) (hk : kd h p0 = 16) (ho : ∀ r k, o = (.inl r, k) → kd k p2 = 106 ∧ 0 < sz k p2) (hx : ∀ e k, o = (.inr e, k) → e ∈ [xN, xM]) (hnn : ∀ r k, o = (.inl r, k) → vf_n64 (FP.f2d r)) : mMet l G m_L_acceptedShare 5 2 12 [.ref p0, .int v1, .ref p2] h (hQ o (fun r k => sd k p2 0 (FP.f2d r)) [xN, xM]) (fun _ _ => False) := by
  refine mMet_ofH (by decide +kernel) (by decide) (ac_c rfl (ac_c rfl (ac_c rfl ac_0))) (Nat.le_of_ble_eq_true rfl) ?_
  refine q_aload_n dL_acceptedShare_0 rfl ?_
  refine q_iconst dL_acceptedShare_1 ?_
  refine q_aload_n dL_acceptedShare_2 rfl ?_
  refine q_iload_n dL_acceptedShare_3 rfl ?_
  refine q_callVH (mc := 0) (ms := 0) (As := [.int v1]) dL_acceptedShare_4 KL_134 (c_X11_acceptedShare E) hk rfl (by decide) (Nat.le_of_ble_eq_true rfl) ?_ ?_
  · rintro e k ⟨k0, rfl, n, hn, rfl⟩
    have he := hx _ _ rfl
    rcases List.mem_cons.mp he with rfl | he
    · refine ⟨12, ⟨[], ⟨0, 9, 12, 23⟩, [⟨0, 9, 15, 132⟩], rfl, rfl, by decide +kernel, by decide, CLx_23, CAx_xN, fun z hz => by
        cases hz⟩, fun q => ?_⟩
      refine q_astore_n dL_acceptedShare_12 (by decide) ?_
      refine q_iconst dL_acceptedShare_13 ?_
      exact q_ireturn dL_acceptedShare_14 rfl ⟨by rfl, n, hn, rfl⟩
    rcases List.mem_cons.mp he with rfl | he
    · refine ⟨15, ⟨[⟨0, 9, 12, 23⟩], ⟨0, 9, 15, 132⟩, [], rfl, rfl, by decide +kernel, by decide, CLx_132, CAx_xM, fun z hz => by
        rcases List.mem_cons.mp hz with rfl | hz; · exact Or.inr ⟨by decide, _, CLx_23, by decide +kernel⟩
        cases hz⟩, fun q => ?_⟩
      refine q_astore_n dL_acceptedShare_15 (by decide) ?_
      refine q_iconst dL_acceptedShare_16 ?_
      exact q_ireturn dL_acceptedShare_17 rfl ⟨by rfl, n, hn, rfl⟩
    · cases he
  · rintro v k ⟨r, rfl, rfl⟩
    obtain ⟨h1, h2⟩ := ho _ _ rfl
    refine q_f2d (hnn _ _ rfl) dL_acceptedShare_7 ?_
    refine q_dastore dL_acceptedShare_8 h1 (ix0 h2) ?_
    refine q_goto (tgt := 18) dL_acceptedShare_9 (by decide) ?_
    refine q_iconst dL_acceptedShare_18 ?_
    exact q_ireturn dL_acceptedShare_19 rfl ⟨rfl, rfl⟩
set_option maxRecDepth 100000 in
theorem c_L_formatPattern {l : Launch} {G : mG} {p0 p2 : Nat} {v1 : Int32} {h : mH} {o : (Int32 ⊕ String) × mH} (E : f_X11_formatPattern p0 v1 h = some o) (hk : kd h p0 = 16) (ho : ∀ r k, o = (.inl r, k) → kd k p2 = 105 ∧ 0 < sz k p2) (hx : ∀ e k, o = (.inr e, k) → e ∈ [xN]) : mMet l G m_L_formatPattern 8 4 252 [.ref p0, .int v1, .ref p2] h (hQ o (fun r k => sl k p2 0 r.toInt64) [xN]) (fun _ _ => False) := by
  refine mMet_ofH (by decide +kernel) (by decide) (ac_c rfl (ac_c rfl (ac_c rfl ac_0))) (Nat.le_of_ble_eq_true rfl) ?_
  refine q_aload_n dL_formatPattern_0 rfl ?_
  refine q_iconst dL_formatPattern_1 ?_
  refine q_aload_n dL_formatPattern_2 rfl ?_
  refine q_iload_n dL_formatPattern_3 rfl ?_
  refine q_callVH (mc := 0) (ms := 0) (As := [.int v1]) dL_formatPattern_4 KL_138 (c_X11_formatPattern E) hk rfl (by decide) (Nat.le_of_ble_eq_true rfl) ?_ ?_
  · rintro e k ⟨k0, rfl, n, hn, rfl⟩
    have he := hx _ _ rfl
    rcases List.mem_cons.mp he with rfl | he
    · refine ⟨12, ⟨[], ⟨0, 9, 12, 23⟩, [], rfl, rfl, by decide +kernel, by decide, CLx_23, CAx_xN, fun z hz => by
        cases hz⟩, fun q => ?_⟩
      refine q_astore_n dL_formatPattern_12 (by decide) ?_
      refine q_iconst dL_formatPattern_13 ?_
      exact q_ireturn dL_formatPattern_14 rfl ⟨by rfl, n, hn, rfl⟩
    · cases he
  · rintro v k ⟨r, rfl, rfl⟩
    obtain ⟨h1, h2⟩ := ho _ _ rfl
    refine q_i2l dL_formatPattern_7 ?_
    refine q_lastore dL_formatPattern_8 h1 (ix0 h2) ?_
    refine q_goto (tgt := 15) dL_formatPattern_9 (by decide) ?_
    refine q_iconst dL_formatPattern_15 ?_
    exact q_ireturn dL_formatPattern_16 rfl ⟨rfl, rfl⟩
set_option maxRecDepth 100000 in
theorem c_L_formatShortest {l : Launch} {G : mG} {p0 p2 : Nat} {v1 : Int32} {h : mH} {o : (Int32 ⊕ String) × mH} (E : f_X11_formatShortest p0 v1 h = some o) (hk : kd h p0 = 16) (ho : ∀ r k, o = (.inl r, k) → kd k p2 = 105 ∧ 0 < sz k p2) (hx : ∀ e k, o = (.inr e, k) → e ∈ [xN]) : mMet l G m_L_formatShortest 7 4 252 [.ref p0, .int v1, .ref p2] h (hQ o (fun r k => sl k p2 0 r.toInt64) [xN]) (fun _ _ => False) := by
  refine mMet_ofH (by decide +kernel) (by decide) (ac_c rfl (ac_c rfl (ac_c rfl ac_0))) (Nat.le_of_ble_eq_true rfl) ?_
  refine q_aload_n dL_formatShortest_0 rfl ?_
  refine q_iconst dL_formatShortest_1 ?_
  refine q_aload_n dL_formatShortest_2 rfl ?_
  refine q_iload_n dL_formatShortest_3 rfl ?_
  refine q_callVH (mc := 0) (ms := 0) (As := [.int v1]) dL_formatShortest_4 KL_141 (c_X11_formatShortest E) hk rfl (by decide) (Nat.le_of_ble_eq_true rfl) ?_ ?_
  · rintro e k ⟨k0, rfl, n, hn, rfl⟩
    have he := hx _ _ rfl
    rcases List.mem_cons.mp he with rfl | he
    · refine ⟨12, ⟨[], ⟨0, 9, 12, 23⟩, [], rfl, rfl, by decide +kernel, by decide, CLx_23, CAx_xN, fun z hz => by
        cases hz⟩, fun q => ?_⟩
      refine q_astore_n dL_formatShortest_12 (by decide) ?_
      refine q_iconst dL_formatShortest_13 ?_
      exact q_ireturn dL_formatShortest_14 rfl ⟨by rfl, n, hn, rfl⟩
    · cases he
  · rintro v k ⟨r, rfl, rfl⟩
    obtain ⟨h1, h2⟩ := ho _ _ rfl
    refine q_i2l dL_formatShortest_7 ?_
    refine q_lastore dL_formatShortest_8 h1 (ix0 h2) ?_
    refine q_goto (tgt := 15) dL_formatShortest_9 (by decide) ?_
    refine q_iconst dL_formatShortest_15 ?_
    exact q_ireturn dL_formatShortest_16 rfl ⟨rfl, rfl⟩
set_option maxRecDepth 100000 in
theorem c_L_formatDifference {l : Launch} {G : mG} {p0 p3 : Nat} {v1 : Int32} {v2 : Int32} {h : mH} {o : (Int32 ⊕ String) × mH} (E : f_X11_formatDifference p0 v1 v2 h = some o) (hk : kd h p0 = 16) (ho : ∀ r k, o = (.inl r, k) → kd k p3 = 105 ∧ 0 < sz k p3) (hx : ∀ e k, o = (.inr e, k) → e ∈ [xN]) : mMet l G m_L_formatDifference 7 5 258 [.ref p0, .int v1, .int v2, .ref p3] h (hQ o (fun r k => sl k p3 0 r.toInt64) [xN]) (fun _ _ => False) := by
  refine mMet_ofH (by decide +kernel) (by decide) (ac_c rfl (ac_c rfl (ac_c rfl (ac_c rfl ac_0)))) (Nat.le_of_ble_eq_true rfl) ?_
  refine q_aload_n dL_formatDifference_0 rfl ?_
  refine q_iconst dL_formatDifference_1 ?_
  refine q_aload_n dL_formatDifference_2 rfl ?_
  refine q_iload_n dL_formatDifference_3 rfl ?_
  refine q_iload_n dL_formatDifference_4 rfl ?_
  refine q_callVH (mc := 0) (ms := 0) (As := [.int v1, .int v2]) dL_formatDifference_5 KL_144 (c_X11_formatDifference E) hk rfl (by decide) (Nat.le_of_ble_eq_true rfl) ?_ ?_
  · rintro e k ⟨k0, rfl, n, hn, rfl⟩
    have he := hx _ _ rfl
    rcases List.mem_cons.mp he with rfl | he
    · refine ⟨13, ⟨[], ⟨0, 10, 13, 23⟩, [], rfl, rfl, by decide +kernel, by decide, CLx_23, CAx_xN, fun z hz => by
        cases hz⟩, fun q => ?_⟩
      refine q_astore dL_formatDifference_13 (by decide) ?_
      refine q_iconst dL_formatDifference_15 ?_
      exact q_ireturn dL_formatDifference_16 rfl ⟨by rfl, n, hn, rfl⟩
    · cases he
  · rintro v k ⟨r, rfl, rfl⟩
    obtain ⟨h1, h2⟩ := ho _ _ rfl
    refine q_i2l dL_formatDifference_8 ?_
    refine q_lastore dL_formatDifference_9 h1 (ix0 h2) ?_
    refine q_goto (tgt := 17) dL_formatDifference_10 (by decide) ?_
    refine q_iconst dL_formatDifference_17 ?_
    exact q_ireturn dL_formatDifference_18 rfl ⟨rfl, rfl⟩
set_option maxRecDepth 100000 in
theorem c_L_lineChar {l : Launch} {G : mG} {p0 p2 : Nat} {v1 : Int32} {h : mH} {o : (Int32 ⊕ String) × mH} (E : f_X11_lineChar p0 v1 h = some o) (hk : kd h p0 = 16) (ho : ∀ r k, o = (.inl r, k) → kd k p2 = 105 ∧ 0 < sz k p2) (hx : ∀ e k, o = (.inr e, k) → e ∈ [xI]) : mMet l G m_L_lineChar 5 1 6 [.ref p0, .int v1, .ref p2] h (hQ o (fun r k => sl k p2 0 r.toInt64) [xI]) (fun _ _ => False) := by
  refine mMet_ofH (by decide +kernel) (by decide) (ac_c rfl (ac_c rfl (ac_c rfl ac_0))) (Nat.le_of_ble_eq_true rfl) ?_
  refine q_aload_n dL_lineChar_0 rfl ?_
  refine q_iconst dL_lineChar_1 ?_
  refine q_aload_n dL_lineChar_2 rfl ?_
  refine q_iload_n dL_lineChar_3 rfl ?_
  refine q_callVH (mc := 0) (ms := 0) (As := [.int v1]) dL_lineChar_4 KL_147 (c_X11_lineChar E) hk rfl (by decide) (Nat.le_of_ble_eq_true rfl) ?_ ?_
  · rintro e k ⟨k0, rfl, n, hn, rfl⟩
    have he := hx _ _ rfl
    rcases List.mem_cons.mp he with rfl | he
    · refine ⟨12, ⟨[], ⟨0, 9, 12, 13⟩, [], rfl, rfl, by decide +kernel, by decide, CLx_13, CAx_xI, fun z hz => by
        cases hz⟩, fun q => ?_⟩
      refine q_astore_n dL_lineChar_12 (by decide) ?_
      refine q_iconst dL_lineChar_13 ?_
      exact q_ireturn dL_lineChar_14 rfl ⟨by rfl, n, hn, rfl⟩
    · cases he
  · rintro v k ⟨r, rfl, rfl⟩
    obtain ⟨h1, h2⟩ := ho _ _ rfl
    refine q_i2l dL_lineChar_7 ?_
    refine q_lastore dL_lineChar_8 h1 (ix0 h2) ?_
    refine q_goto (tgt := 15) dL_lineChar_9 (by decide) ?_
    refine q_iconst dL_lineChar_15 ?_
    exact q_ireturn dL_lineChar_16 rfl ⟨rfl, rfl⟩
set_option maxRecDepth 100000 in
theorem c_L_append {l : Launch} {G : mG} {p0 p2 : Nat} {v1 : Int32} {h : mH} {o : (Int32 ⊕ String) × mH} (E : f_X11_append p0 v1 h = some o) (hk : kd h p0 = 16) (ho : ∀ r k, o = (.inl r, k) → kd k p2 = 105 ∧ 0 < sz k p2) (hx : ∀ e k, o = (.inr e, k) → e ∈ [xA, xS]) : mMet l G m_L_append 2 1 6 [.ref p0, .int v1, .ref p2] h (hQ o (fun r k => sl k p2 0 r.toInt64) [xA, xS]) (fun _ _ => False) := by
  refine mMet_ofH (by decide +kernel) (by decide) (ac_c rfl (ac_c rfl (ac_c rfl ac_0))) (Nat.le_of_ble_eq_true rfl) ?_
  refine q_aload_n dL_append_0 rfl ?_
  refine q_iconst dL_append_1 ?_
  refine q_aload_n dL_append_2 rfl ?_
  refine q_iload_n dL_append_3 rfl ?_
  refine q_callVH (mc := 0) (ms := 0) (As := [.int v1]) dL_append_4 KL_151 (c_X11_append E) hk rfl (by decide) (Nat.le_of_ble_eq_true rfl) ?_ ?_
  · rintro e k ⟨k0, rfl, n, hn, rfl⟩
    have he := hx _ _ rfl
    rcases List.mem_cons.mp he with rfl | he
    · refine ⟨12, ⟨[], ⟨0, 9, 12, 15⟩, [⟨0, 9, 15, 17⟩], rfl, rfl, by decide +kernel, by decide, CLx_15, CAx_xA, fun z hz => by
        cases hz⟩, fun q => ?_⟩
      refine q_astore_n dL_append_12 (by decide) ?_
      refine q_iconst dL_append_13 ?_
      exact q_ireturn dL_append_14 rfl ⟨by rfl, n, hn, rfl⟩
    rcases List.mem_cons.mp he with rfl | he
    · refine ⟨15, ⟨[⟨0, 9, 12, 15⟩], ⟨0, 9, 15, 17⟩, [], rfl, rfl, by decide +kernel, by decide, CLx_17, CAx_xS, fun z hz => by
        rcases List.mem_cons.mp hz with rfl | hz; · exact Or.inr ⟨by decide, _, CLx_15, by decide +kernel⟩
        cases hz⟩, fun q => ?_⟩
      refine q_astore_n dL_append_15 (by decide) ?_
      refine q_iconst dL_append_16 ?_
      exact q_ireturn dL_append_17 rfl ⟨by rfl, n, hn, rfl⟩
    · cases he
  · rintro v k ⟨r, rfl, rfl⟩
    obtain ⟨h1, h2⟩ := ho _ _ rfl
    refine q_i2l dL_append_7 ?_
    refine q_lastore dL_append_8 h1 (ix0 h2) ?_
    refine q_goto (tgt := 18) dL_append_9 (by decide) ?_
    refine q_iconst dL_append_18 ?_
    exact q_ireturn dL_append_19 rfl ⟨rfl, rfl⟩
set_option maxRecDepth 100000 in
theorem c_L_run {l : Launch} {G : mG} {p0 p1 : Nat} {h : mH} {o : (Int32 ⊕ String) × mH} (E : f_X11_run p0 h = some o) (hk : kd h p0 = 16) (ho : ∀ r k, o = (.inl r, k) → kd k p1 = 105 ∧ 0 < sz k p1) (hx : ∀ e k, o = (.inr e, k) → e ∈ [xA, xS]) : mMet l G m_L_run 9 21 2586 [.ref p0, .ref p1] h (hQ o (fun r k => sl k p1 0 r.toInt64) [xA, xS]) (fun _ _ => False) := by
  refine mMet_ofH (by decide +kernel) (by decide) (ac_c rfl (ac_c rfl ac_0)) (Nat.le_of_ble_eq_true rfl) ?_
  refine q_aload_n dL_run_0 rfl ?_
  refine q_iconst dL_run_1 ?_
  refine q_aload_n dL_run_2 rfl ?_
  refine q_callVH (mc := 0) (ms := 0) (As := []) dL_run_3 KL_155 (c_X11_run E) hk rfl (by decide) (Nat.le_of_ble_eq_true rfl) ?_ ?_
  · rintro e k ⟨k0, rfl, n, hn, rfl⟩
    have he := hx _ _ rfl
    rcases List.mem_cons.mp he with rfl | he
    · refine ⟨11, ⟨[], ⟨0, 8, 11, 15⟩, [⟨0, 8, 14, 17⟩], rfl, rfl, by decide +kernel, by decide, CLx_15, CAx_xA, fun z hz => by
        cases hz⟩, fun q => ?_⟩
      refine q_astore_n dL_run_11 (by decide) ?_
      refine q_iconst dL_run_12 ?_
      exact q_ireturn dL_run_13 rfl ⟨by rfl, n, hn, rfl⟩
    rcases List.mem_cons.mp he with rfl | he
    · refine ⟨14, ⟨[⟨0, 8, 11, 15⟩], ⟨0, 8, 14, 17⟩, [], rfl, rfl, by decide +kernel, by decide, CLx_17, CAx_xS, fun z hz => by
        rcases List.mem_cons.mp hz with rfl | hz; · exact Or.inr ⟨by decide, _, CLx_15, by decide +kernel⟩
        cases hz⟩, fun q => ?_⟩
      refine q_astore_n dL_run_14 (by decide) ?_
      refine q_iconst dL_run_15 ?_
      exact q_ireturn dL_run_16 rfl ⟨by rfl, n, hn, rfl⟩
    · cases he
  · rintro v k ⟨r, rfl, rfl⟩
    obtain ⟨h1, h2⟩ := ho _ _ rfl
    refine q_i2l dL_run_6 ?_
    refine q_lastore dL_run_7 h1 (ix0 h2) ?_
    refine q_goto (tgt := 17) dL_run_8 (by decide) ?_
    refine q_iconst dL_run_17 ?_
    exact q_ireturn dL_run_18 rfl ⟨rfl, rfl⟩
set_option maxRecDepth 100000 in
theorem c_L_errorPosition {l : Launch} {G : mG} {p0 p1 : Nat} {h : mH} {o : (Int32 ⊕ String) × mH} (E : f_X11_errorPosition p0 h = some o) (hk : kd h p0 = 16) (ho : ∀ r k, o = (.inl r, k) → kd k p1 = 105 ∧ 0 < sz k p1) (hx : ∀ e k, o = (.inr e, k) → e ∈ [xN]) : mMet l G m_L_errorPosition 1 1 6 [.ref p0, .ref p1] h (hQ o (fun r k => sl k p1 0 r.toInt64) [xN]) (fun _ _ => False) := by
  refine mMet_ofH (by decide +kernel) (by decide) (ac_c rfl (ac_c rfl ac_0)) (Nat.le_of_ble_eq_true rfl) ?_
  refine q_aload_n dL_errorPosition_0 rfl ?_
  refine q_iconst dL_errorPosition_1 ?_
  refine q_aload_n dL_errorPosition_2 rfl ?_
  refine q_callVH (mc := 0) (ms := 0) (As := []) dL_errorPosition_3 KL_158 (c_X11_errorPosition E) hk rfl (by decide) (Nat.le_of_ble_eq_true rfl) ?_ ?_
  · rintro e k ⟨k0, rfl, n, hn, rfl⟩
    have he := hx _ _ rfl
    rcases List.mem_cons.mp he with rfl | he
    · refine ⟨11, ⟨[], ⟨0, 8, 11, 23⟩, [], rfl, rfl, by decide +kernel, by decide, CLx_23, CAx_xN, fun z hz => by
        cases hz⟩, fun q => ?_⟩
      refine q_astore_n dL_errorPosition_11 (by decide) ?_
      refine q_iconst dL_errorPosition_12 ?_
      exact q_ireturn dL_errorPosition_13 rfl ⟨by rfl, n, hn, rfl⟩
    · cases he
  · rintro v k ⟨r, rfl, rfl⟩
    obtain ⟨h1, h2⟩ := ho _ _ rfl
    refine q_i2l dL_errorPosition_6 ?_
    refine q_lastore dL_errorPosition_7 h1 (ix0 h2) ?_
    refine q_goto (tgt := 14) dL_errorPosition_8 (by decide) ?_
    refine q_iconst dL_errorPosition_14 ?_
    exact q_ireturn dL_errorPosition_15 rfl ⟨rfl, rfl⟩
set_option maxRecDepth 100000 in
theorem c_L_failedCommand {l : Launch} {G : mG} {p0 p1 : Nat} {h : mH} {o : (Int32 ⊕ String) × mH} (E : f_X11_failedCommand p0 h = some o) (hk : kd h p0 = 16) (ho : ∀ r k, o = (.inl r, k) → kd k p1 = 105 ∧ 0 < sz k p1) (hx : ∀ e k, o = (.inr e, k) → e ∈ [xN]) : mMet l G m_L_failedCommand 1 1 6 [.ref p0, .ref p1] h (hQ o (fun r k => sl k p1 0 r.toInt64) [xN]) (fun _ _ => False) := by
  refine mMet_ofH (by decide +kernel) (by decide) (ac_c rfl (ac_c rfl ac_0)) (Nat.le_of_ble_eq_true rfl) ?_
  refine q_aload_n dL_failedCommand_0 rfl ?_
  refine q_iconst dL_failedCommand_1 ?_
  refine q_aload_n dL_failedCommand_2 rfl ?_
  refine q_callVH (mc := 0) (ms := 0) (As := []) dL_failedCommand_3 KL_161 (c_X11_failedCommand E) hk rfl (by decide) (Nat.le_of_ble_eq_true rfl) ?_ ?_
  · rintro e k ⟨k0, rfl, n, hn, rfl⟩
    have he := hx _ _ rfl
    rcases List.mem_cons.mp he with rfl | he
    · refine ⟨11, ⟨[], ⟨0, 8, 11, 23⟩, [], rfl, rfl, by decide +kernel, by decide, CLx_23, CAx_xN, fun z hz => by
        cases hz⟩, fun q => ?_⟩
      refine q_astore_n dL_failedCommand_11 (by decide) ?_
      refine q_iconst dL_failedCommand_12 ?_
      exact q_ireturn dL_failedCommand_13 rfl ⟨by rfl, n, hn, rfl⟩
    · cases he
  · rintro v k ⟨r, rfl, rfl⟩
    obtain ⟨h1, h2⟩ := ho _ _ rfl
    refine q_i2l dL_failedCommand_6 ?_
    refine q_lastore dL_failedCommand_7 h1 (ix0 h2) ?_
    refine q_goto (tgt := 14) dL_failedCommand_8 (by decide) ?_
    refine q_iconst dL_failedCommand_14 ?_
    exact q_ireturn dL_failedCommand_15 rfl ⟨rfl, rfl⟩
set_option maxRecDepth 100000 in
theorem c_L_undo {l : Launch} {G : mG} {p0 p1 : Nat} {h : mH} {o : (Int32 ⊕ String) × mH} (E : f_X11_undo p0 h = some o) (hk : kd h p0 = 16) (ho : ∀ r k, o = (.inl r, k) → kd k p1 = 105 ∧ 0 < sz k p1) (hx : ∀ e k, o = (.inr e, k) → e ∈ [xS]) : mMet l G m_L_undo 4 1 6 [.ref p0, .ref p1] h (hQ o (fun r k => sl k p1 0 r.toInt64) [xS]) (fun _ _ => False) := by
  refine mMet_ofH (by decide +kernel) (by decide) (ac_c rfl (ac_c rfl ac_0)) (Nat.le_of_ble_eq_true rfl) ?_
  refine q_aload_n dL_undo_0 rfl ?_
  refine q_iconst dL_undo_1 ?_
  refine q_aload_n dL_undo_2 rfl ?_
  refine q_callVH (mc := 0) (ms := 0) (As := []) dL_undo_3 KL_164 (c_X11_undo E) hk rfl (by decide) (Nat.le_of_ble_eq_true rfl) ?_ ?_
  · rintro e k ⟨k0, rfl, n, hn, rfl⟩
    have he := hx _ _ rfl
    rcases List.mem_cons.mp he with rfl | he
    · refine ⟨11, ⟨[], ⟨0, 8, 11, 17⟩, [], rfl, rfl, by decide +kernel, by decide, CLx_17, CAx_xS, fun z hz => by
        cases hz⟩, fun q => ?_⟩
      refine q_astore_n dL_undo_11 (by decide) ?_
      refine q_iconst dL_undo_12 ?_
      exact q_ireturn dL_undo_13 rfl ⟨by rfl, n, hn, rfl⟩
    · cases he
  · rintro v k ⟨r, rfl, rfl⟩
    obtain ⟨h1, h2⟩ := ho _ _ rfl
    refine q_i2l dL_undo_6 ?_
    refine q_lastore dL_undo_7 h1 (ix0 h2) ?_
    refine q_goto (tgt := 14) dL_undo_8 (by decide) ?_
    refine q_iconst dL_undo_14 ?_
    exact q_ireturn dL_undo_15 rfl ⟨rfl, rfl⟩
set_option maxRecDepth 100000 in
theorem c_L_restore {l : Launch} {G : mG} {p0 p1 : Nat} {h : mH} {o : (Int32 ⊕ String) × mH} (E : f_X11_restore p0 h = some o) (hk : kd h p0 = 16) (ho : ∀ r k, o = (.inl r, k) → kd k p1 = 105 ∧ 0 < sz k p1) (hx : ∀ e k, o = (.inr e, k) → e ∈ [xS]) : mMet l G m_L_restore 2 1 6 [.ref p0, .ref p1] h (hQ o (fun r k => sl k p1 0 r.toInt64) [xS]) (fun _ _ => False) := by
  refine mMet_ofH (by decide +kernel) (by decide) (ac_c rfl (ac_c rfl ac_0)) (Nat.le_of_ble_eq_true rfl) ?_
  refine q_aload_n dL_restore_0 rfl ?_
  refine q_iconst dL_restore_1 ?_
  refine q_aload_n dL_restore_2 rfl ?_
  refine q_callVH (mc := 0) (ms := 0) (As := []) dL_restore_3 KL_167 (c_X11_restore E) hk rfl (by decide) (Nat.le_of_ble_eq_true rfl) ?_ ?_
  · rintro e k ⟨k0, rfl, n, hn, rfl⟩
    have he := hx _ _ rfl
    rcases List.mem_cons.mp he with rfl | he
    · refine ⟨11, ⟨[], ⟨0, 8, 11, 17⟩, [], rfl, rfl, by decide +kernel, by decide, CLx_17, CAx_xS, fun z hz => by
        cases hz⟩, fun q => ?_⟩
      refine q_astore_n dL_restore_11 (by decide) ?_
      refine q_iconst dL_restore_12 ?_
      exact q_ireturn dL_restore_13 rfl ⟨by rfl, n, hn, rfl⟩
    · cases he
  · rintro v k ⟨r, rfl, rfl⟩
    obtain ⟨h1, h2⟩ := ho _ _ rfl
    refine q_i2l dL_restore_6 ?_
    refine q_lastore dL_restore_7 h1 (ix0 h2) ?_
    refine q_goto (tgt := 14) dL_restore_8 (by decide) ?_
    refine q_iconst dL_restore_14 ?_
    exact q_ireturn dL_restore_15 rfl ⟨rfl, rfl⟩
