/-! every call leaves a good state -/
section GOOD2
variable {S : St}
theorem GoodS_rem {L : Lib} (hg : GoodS S) (hL : GoodL L) : GoodS (remember S L) := by
  obtain ⟨a1, a2, a3, a4⟩ := hg
  refine ⟨hL, fun K hK => ?_, ?_, a4⟩
  · have hK : K ∈ (sCur S :: sUndo S).take 8 := hK
    rcases List.mem_cons.mp (List.mem_of_mem_take hK) with e | e
    · rw [e]; exact a1
    · exact a2 K e
  · show ((sCur S :: sUndo S).take 8).length ≤ 8
    rw [List.length_take]
    omega
theorem GoodS_laid {s : Nat} {p : List Nat} (hg : GoodS S) (hp : WF p) : GoodS (laid S s p).2.2 := by
  unfold laid
  by_cases e : 7 < nLet p ∨ 9 < nSig p
  · rw [if_pos e]; exact hg
  · rw [if_neg e]
    exact GoodS_rem hg (GoodL_put hg.1 (Or.inr ⟨hp, e⟩))
theorem slN_lt {v : Int32} {s : Nat} (h : slN v = some s) : s < 6 := by
  rcases slot_cases v with ⟨t, ht, rfl⟩ | hv
  · rw [slN_T ht] at h
    injection h with h
    omega
  · rw [slN_F hv] at h
    cases h
theorem GoodS_two {v a b : Int32} {o : Nat} (hg : GoodS S) (ho : o = 4 ∨ o = 5) : GoodS (aTwo S (slN v) (slN a) (slN b) o).2.2 := by
  unfold aTwo
  cases ev : slN v with
  | none => exact hg
  | some v' => cases ea : slN a with
    | none => exact hg
    | some a' => cases eb : slN b with
      | none => exact hg
      | some b' =>
        dsimp only
        by_cases e : lP (sCur S) a' = [] ∨ lP (sCur S) b' = []
        · rw [if_pos e]; exact hg
        · rw [if_neg e]
          exact GoodS_laid hg (WF_bin (GoodP_wf (hg.1.1 a' (slN_lt ea)) (fun z => e (Or.inl z))) (GoodP_wf (hg.1.1 b' (slN_lt eb)) (fun z => e (Or.inr z))) ho)
theorem GoodS_rep {v a : Int32} (hg : GoodS S) : GoodS (aRep S (slN v) (slN a)).2.2 := by
  unfold aRep
  cases ev : slN v with
  | none => exact hg
  | some v' => cases ea : slN a with
    | none => exact hg
    | some a' =>
      dsimp only
      by_cases e : lP (sCur S) a' = []
      · rw [if_pos e]; exact hg
      · rw [if_neg e]
        exact GoodS_laid hg (WF_sign (GoodP_wf (hg.1.1 a' (slN_lt ea)) e) (by decide) (by decide))
theorem GoodS_remv {v : Int32} (hg : GoodS S) : GoodS (aRem S (slN v)).2.2 := by
  unfold aRem
  cases ev : slN v with
  | none => exact hg
  | some v' =>
    dsimp only
    by_cases e : lP (sCur S) v' = []
    · rw [if_pos e]; exact hg
    · rw [if_neg e]
      exact GoodS_rem hg (GoodL_free hg.1)
theorem GoodS_setT {T : List Nat} (hg : GoodS S) (h1 : T.length ≤ 60) (h2 : ∀ c ∈ T, 32 ≤ c ∧ c ≤ 126) : GoodS (setText S T) := ⟨hg.1, hg.2.1, hg.2.2.1, hg.2.2.2.1, h1, h2, hg.2.2.2.2.2.2⟩
theorem GoodS_setL {l : List Nat} (hg : GoodS S) (h1 : l.length ≤ 120) (h2 : ∀ c ∈ l, 32 ≤ c ∧ c ≤ 126) : GoodS (setL S l) := ⟨hg.1, hg.2.1, hg.2.2.1, hg.2.2.2.1, hg.2.2.2.2.1, hg.2.2.2.2.2.1, hg.2.2.2.2.2.2.1, hg.2.2.2.2.2.2.2.1, h1, h2⟩
theorem GoodS_app {v : Int32} (hg : GoodS S) : GoodS (aApp S v).2.2 := by
  unfold aApp
  rcases ch_cases v with ⟨c, h1, h2, rfl, e⟩ | ⟨hv, e⟩
  · rw [e]
    dsimp only
    have h60 := hg.2.2.2.2.1
    by_cases h6 : (sText S).length = 60
    · rw [if_pos h6]; exact hg
    · rw [if_neg h6]
      refine GoodS_setT hg ?_ (fun d hd => ?_)
      · rw [List.length_append, List.length_singleton]; omega
      · rcases List.mem_append.mp hd with z | z
        · exact hg.2.2.2.2.2.1 d z
        · rw [List.mem_singleton.mp z]; exact ⟨h1, h2⟩
  · rw [e]; exact hg
theorem GoodS_save (hg : GoodS S) : GoodS (aSave S) := ⟨hg.1, hg.2.1, hg.2.2.1, fun L hL => by
  have hL : L ∈ (some (sCur S) : Option Lib) := hL
  rw [← Option.mem_some.mp hL]
  exact hg.1, hg.2.2.2.2⟩
theorem GoodS_rest (hg : GoodS S) : GoodS (aRest S).2.2 := by
  unfold aRest
  cases e : sSaved S with
  | none => exact hg
  | some L =>
    have hL : GoodL L := hg.2.2.2.1 L (by rw [e]; exact Option.mem_some_self L)
    exact ⟨hL, fun K hK => absurd (show K ∈ ([] : List Lib) from hK) (by simp), Nat.zero_le _, fun K hK => by
      have hK : K ∈ (some L : Option Lib) := hK
      rw [← Option.mem_some.mp hK]
      exact hL, hg.2.2.2.2⟩
theorem GoodS_undo (hg : GoodS S) : GoodS (aUndo S).2.2 := by
  unfold aUndo
  cases e : sUndo S with
  | nil => exact hg
  | cons L u =>
    have h2 := hg.2.1
    have h3 := hg.2.2.1
    rw [e] at h2 h3
    exact ⟨h2 L List.mem_cons_self, fun K hK => h2 K (List.mem_cons_of_mem _ hK), by
      have : u.length + 1 ≤ 8 := h3
      show u.length ≤ 8
      omega, hg.2.2.2⟩
theorem GoodS_cutW {v : Int32} (hg : GoodS S) : GoodS (aCutW S v).2.2 := by
  unfold aCutW
  cases e : ixN v (lW (sCur S)).length with
  | none => exact hg
  | some i =>
    refine GoodS_rem hg ⟨hg.1.1, ?_, fun w hw => hg.1.2.2 w (List.mem_of_mem_eraseIdx hw)⟩
    have := hg.1.2.1
    have h2 : ((lW (sCur S)).eraseIdx i).length ≤ (lW (sCur S)).length := List.length_eraseIdx_le _ _
    exact Nat.le_trans h2 this
theorem GoodS_addW (hg : GoodS S) : GoodS (aAddW S).2.2 := by
  unfold aAddW
  by_cases e : okW (sText S) 0 (sText S).length = 1 ∧ 1 ≤ (sText S).length ∧ (sText S).length ≤ 8
  · rw [if_pos e]
    by_cases e8 : (lW (sCur S)).length = 8
    · rw [if_pos e8]; exact GoodS_text hg
    · rw [if_neg e8]
      refine GoodS_text (GoodS_rem hg ⟨hg.1.1, ?_, fun w hw => ?_⟩)
      · have := hg.1.2.1
        show (lW (sCur S) ++ [lets (sText S)]).length ≤ 8
        rw [List.length_append, List.length_singleton]
        omega
      · have hw : w ∈ lW (sCur S) ++ [lets (sText S)] := hw
        rcases List.mem_append.mp hw with z | z
        · exact hg.1.2.2 w z
        · rw [List.mem_singleton.mp z]
          exact ⟨by rw [lets_len]; exact e.2.1, by rw [lets_len]; exact e.2.2, lets_le3 e.1⟩
  · rw [if_neg e]; exact GoodS_text hg
theorem map_ch {w : List Nat} (h : le3 w) : ∀ c ∈ w.map (97 + ·), 32 ≤ c ∧ c ≤ 126 := fun c hc => by
  obtain ⟨x, hx, rfl⟩ := List.mem_map.mp hc
  have := h x hx
  exact ⟨by omega, by omega⟩
theorem GoodS_fmt {v : Int32} (hg : GoodS S) : GoodS (aFmt S v).2.2 := by
  unfold aFmt
  rcases pat_cases S v with ⟨s, hs, rfl, hp, e⟩ | ⟨e, hc⟩
  · rw [e]
    dsimp only
    obtain ⟨k, hk7, hk⟩ := good_short hg hs hp
    refine GoodS_setL hg ?_ ?_
    · rw [List.length_map]
      by_cases hx : ∃ w, isB (gnext (gluOf (lP (sCur S) s))) (gab (gluOf (lP (sCur S) s))) 128 w
      · obtain ⟨w, hw⟩ := hx
        rw [chw_u hw (fun j hj => isB_u hj hw)]
        have h1 := (isB_len hw).2 k
        rcases Nat.lt_or_ge k w.length with z | z
        · rw [h1 z] at hk; cases hk
        · omega
      · rw [chw_no (fun w hw => hx ⟨w, hw⟩)]
        exact Nat.zero_le _
    · by_cases hx : ∃ w, isB (gnext (gluOf (lP (sCur S) s))) (gab (gluOf (lP (sCur S) s))) 128 w
      · obtain ⟨w, hw⟩ := hx
        rw [chw_u hw (fun j hj => isB_u hj hw)]
        exact map_ch hw.1
      · rw [chw_no (fun w hw => hx ⟨w, hw⟩)]
        exact map_ch le3_nil
  · rw [e]; exact hg
theorem GoodS_fmtD {v w : Int32} (hg : GoodS S) (h120 : ∀ a b k, patN S v = some a → patN S w = some b → isD (nx2 (gluOf (lP (sCur S) a)) (gluOf (lP (sCur S) b))) (T2 false (gluOf (lP (sCur S) a)) (gluOf (lP (sCur S) b))) (128, 128) k → k ≤ 120) : GoodS (aFmtD S v w).2.2 := by
  rcases two_cases S v w with ⟨a, b, ha, hb, rfl, rfl, pa, pb, ea, eb⟩ | hx
  · have h120 := h120 a b
    unfold aFmtD
    rw [ea, eb]
    dsimp only
    by_cases hx : ∃ u, isB (nx2 (gluOf (lP (sCur S) a)) (gluOf (lP (sCur S) b))) (T2 false (gluOf (lP (sCur S) a)) (gluOf (lP (sCur S) b))) (128, 128) u
    · obtain ⟨u, hu⟩ := hx
      rw [chw_u hu (fun j hj => isB_u hj hu)]
      exact GoodS_setL hg (by rw [List.length_map]; exact h120 _ ea eb (isB_len hu)) (map_ch hu.1)
    · rw [chw_no (fun w hw => hx ⟨w, hw⟩)]
      exact GoodS_setL hg (Nat.zero_le _) (map_ch le3_nil)
  · rw [aFmtD_X hx]; exact hg
theorem sgc_ch (c : Nat) : 32 ≤ sgc c ∧ sgc c ≤ 126 := by unfold sgc; split; decide; split <;> decide
def FC (st : fst1) (k : Nat) : Prop := (∀ x ∈ st, ∀ c ∈ x.1, 32 ≤ c ∧ c ≤ 126) ∧ (flt st).length ≤ 5 * k
theorem wrp_ch {l : List Nat} (h : ∀ c ∈ l, 32 ≤ c ∧ c ≤ 126) : ∀ c ∈ wrp l, 32 ≤ c ∧ c ≤ 126 := fun c hc => by
  unfold wrp at hc
  rcases List.mem_cons.mp hc with z | z
  · rw [z]; decide
  · rcases List.mem_append.mp z with z | z
    · exact h c z
    · rw [List.mem_singleton.mp z]; decide
theorem app_ch {l l' : List Nat} (h : ∀ c ∈ l, 32 ≤ c ∧ c ≤ 126) (h' : ∀ c ∈ l', 32 ≤ c ∧ c ≤ 126) : ∀ c ∈ l ++ l', 32 ≤ c ∧ c ≤ 126 := fun c hc => (List.mem_append.mp hc).elim (h c) (h' c)
theorem FC_step {st : fst1} {k c : Nat} (h : FC st k) (h1 : 1 ≤ c) (h9 : c < 9) : FC (fstep st c) (k + 1) := by
  obtain ⟨f1, f2⟩ := h
  unfold fstep
  by_cases c4 : c < 4
  · rw [if_pos c4]
    refine ⟨fun x hx => ?_, ?_⟩
    · rcases List.mem_cons.mp hx with z | z
      · rw [z]
        exact fun d hd => by rw [List.mem_singleton.mp hd]; exact ⟨by omega, by omega⟩
      · exact f1 x z
    · rw [flt_c, List.length_append]
      show _ + 1 ≤ _
      omega
  · rw [if_neg c4]
    by_cases c6 : 6 ≤ c
    · rw [if_pos c6]
      cases st with
      | nil => exact ⟨fun x hx => absurd hx (by simp), Nat.zero_le _⟩
      | cons x r =>
        have hx := f1 x List.mem_cons_self
        rw [flt_c, List.length_append] at f2
        refine ⟨fun y hy => ?_, ?_⟩
        · rcases List.mem_cons.mp hy with z | z
          · rw [z]
            refine app_ch ?_ (fun d hd => by rw [List.mem_singleton.mp hd]; exact sgc_ch c)
            split
            · exact hx
            · exact wrp_ch hx
          · exact f1 y (List.mem_cons_of_mem _ z)
        · dsimp only
          rw [flt_c, List.length_append, List.length_append]
          show _ + (_ + 1) ≤ _
          split
          · omega
          · rw [wrp_len]; omega
    · rw [if_neg c6]
      match st, f1, f2 with
      | [], _, _ => exact ⟨fun x hx => absurd hx (by simp), Nat.zero_le _⟩
      | [x], f1, f2 => exact ⟨f1, Nat.le_trans f2 (by omega)⟩
      | y :: x :: r, f1, f2 =>
        have hy := f1 y List.mem_cons_self
        have hx := f1 x (List.mem_cons_of_mem _ List.mem_cons_self)
        rw [flt_c, flt_c, List.length_append, List.length_append] at f2
        dsimp only
        by_cases c5 : c = 5
        · rw [if_pos c5]
          refine ⟨fun z hz => ?_, ?_⟩
          · rcases List.mem_cons.mp hz with q | q
            · rw [q]
              refine app_ch hx (fun d hd => ?_)
              rcases List.mem_cons.mp hd with t | t
              · rw [t]; decide
              · exact hy d t
            · exact f1 z (List.mem_cons_of_mem _ (List.mem_cons_of_mem _ q))
          · rw [flt_c, List.length_append, List.length_append, List.length_cons]
            omega
        · rw [if_neg c5]
          refine ⟨fun z hz => ?_, ?_⟩
          · rcases List.mem_cons.mp hz with q | q
            · rw [q]
              refine app_ch ?_ ?_
              · split
                · exact wrp_ch hx
                · exact hx
              · split
                · exact wrp_ch hy
                · exact hy
            · exact f1 z (List.mem_cons_of_mem _ (List.mem_cons_of_mem _ q))
          · rw [flt_c, List.length_append, List.length_append]
            have w1 := wrp_len x.1
            have w2 := wrp_len y.1
            split <;> split <;> omega
theorem FC_run {p : List Nat} (h : ∀ c ∈ p, 1 ≤ c ∧ c < 9) : ∀ {st : fst1} {k : Nat}, FC st k → FC (frun st p) (k + p.length) := by
  induction p with
  | nil => exact fun hf => hf
  | cons c p ih =>
    intro st k hf
    obtain ⟨o1, o2⟩ := h c List.mem_cons_self
    have := ih (fun d hd => h d (List.mem_cons_of_mem _ hd)) (FC_step hf o1 o2)
    rw [List.length_cons, show k + (p.length + 1) = k + 1 + p.length by omega]
    exact this
theorem GoodS_fmtP {v : Int32} (hg : GoodS S) : GoodS (aFmtP S v).2.2 := by
  unfold aFmtP
  rcases pat_cases S v with ⟨s, hs, rfl, hp, e⟩ | ⟨e, hc⟩
  · rw [e]
    dsimp only
    have gp := hg.1.1 s hs
    have h22 := GoodP_len gp
    obtain ⟨f1, f2⟩ := FC_run (p := lP (sCur S) s) (WF_mem (GoodP_wf gp hp)) (st := []) (k := 0) ⟨fun x hx => absurd hx (by simp), Nat.le_refl _⟩
    unfold ptx
    cases hq : frun [] (lP (sCur S) s) with
    | nil => exact GoodS_setL hg (Nat.zero_le _) (fun c hc => absurd (show c ∈ ([] : List Nat) from hc) (by simp))
    | cons x r =>
      rw [hq] at f1 f2
      rw [flt_c, List.length_append] at f2
      refine GoodS_setL hg ?_ (f1 x List.mem_cons_self)
      show x.1.length ≤ 120
      omega
  · rw [e]; exact hg
end GOOD2
