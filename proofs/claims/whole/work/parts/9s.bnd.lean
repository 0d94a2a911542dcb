/-! what a call throws, and that the state stays good -/
section BND
variable {S : St}
theorem ro_match1 {v : Int32} {f : Nat → Nat} {k : Nat} : (match ixN v k with | some i => (0, f i, S) | none => (1, 0, S) : Nat × Nat × St).1 ≤ 1 ∧ (match ixN v k with | some i => (0, f i, S) | none => (1, 0, S) : Nat × Nat × St).2.2 = S := by
  cases ixN v k <;> exact ⟨Nat.le_of_ble_eq_true rfl, rfl⟩
theorem bd_two {v a b : Option Nat} {o : Nat} : (aTwo S v a b o).1 ≤ 3 := by
  unfold aTwo laid
  repeat' split
  all_goals exact Nat.le_of_ble_eq_true rfl
theorem bd_rep {v a : Option Nat} : (aRep S v a).1 ≤ 3 := by
  unfold aRep laid
  repeat' split
  all_goals exact Nat.le_of_ble_eq_true rfl
theorem bd_rem {v : Option Nat} : (aRem S v).1 ≤ 2 := by
  unfold aRem
  repeat' split
  all_goals exact Nat.le_of_ble_eq_true rfl
theorem bd_def {v : Int32} : (aDef S v).1 ≤ 3 := by
  unfold aDef laid
  repeat' split
  all_goals exact Nat.le_of_ble_eq_true rfl
theorem bd_addW : (aAddW S).1 ≤ 2 := by
  unfold aAddW
  repeat' split
  all_goals exact Nat.le_of_ble_eq_true rfl
theorem bd_cutW {v : Int32} : (aCutW S v).1 ≤ 1 := by
  unfold aCutW
  split <;> exact Nat.le_of_ble_eq_true rfl
theorem bd_app {v : Int32} : (aApp S v).1 ≤ 2 := by
  unfold aApp
  repeat' split
  all_goals exact Nat.le_of_ble_eq_true rfl
theorem bd_run : (aRun S).1 ≤ 2 := by
  unfold aRun
  repeat' split
  all_goals exact Nat.le_of_ble_eq_true rfl
theorem bd_undo : (aUndo S).1 ≤ 1 := by
  unfold aUndo
  split <;> exact Nat.le_of_ble_eq_true rfl
theorem bd_rest : (aRest S).1 ≤ 1 := by
  unfold aRest
  split <;> exact Nat.le_of_ble_eq_true rfl
theorem bd_fmt {v : Int32} : (aFmt S v).1 ≤ 1 := by
  unfold aFmt
  repeat' split
  all_goals exact Nat.le_of_ble_eq_true rfl
theorem bd_fmtP {v : Int32} : (aFmtP S v).1 ≤ 1 := by
  unfold aFmtP
  repeat' split
  all_goals exact Nat.le_of_ble_eq_true rfl
theorem bd_fmtD {v w : Int32} : (aFmtD S v w).1 ≤ 1 := by
  unfold aFmtD
  repeat' split
  all_goals exact Nat.le_of_ble_eq_true rfl
theorem ro_empty {v : Int32} : (aEmpty S v).1 ≤ 1 ∧ (aEmpty S v).2.2 = S := by
  unfold aEmpty
  repeat' split
  all_goals exact ⟨Nat.le_of_ble_eq_true rfl, rfl⟩
theorem ro_beg {v c : Int32} : (aBeg S v c).1 ≤ 2 ∧ (aBeg S v c).2.2 = S := by
  unfold aBeg
  repeat' split
  all_goals exact ⟨Nat.le_of_ble_eq_true rfl, rfl⟩
theorem ro_end {v c : Int32} : (aEnd S v c).1 ≤ 2 ∧ (aEnd S v c).2.2 = S := by
  unfold aEnd
  repeat' split
  all_goals exact ⟨Nat.le_of_ble_eq_true rfl, rfl⟩
theorem ro_adj {v c d : Int32} : (aAdj S v c d).1 ≤ 2 ∧ (aAdj S v c d).2.2 = S := by
  unfold aAdj
  repeat' split
  all_goals exact ⟨Nat.le_of_ble_eq_true rfl, rfl⟩
theorem ro_mat {v : Int32} : (aMat S v).1 ≤ 2 ∧ (aMat S v).2.2 = S := by
  unfold aMat
  repeat' split
  all_goals exact ⟨Nat.le_of_ble_eq_true rfl, rfl⟩
theorem ro_pre {v : Int32} : (aPre S v).1 ≤ 2 ∧ (aPre S v).2.2 = S := by
  unfold aPre
  repeat' split
  all_goals exact ⟨Nat.le_of_ble_eq_true rfl, rfl⟩
theorem ro_acW {v x : Int32} : (aAcW S v x).1 ≤ 2 ∧ (aAcW S v x).2.2 = S := by
  unfold aAcW
  repeat' split
  all_goals exact ⟨Nat.le_of_ble_eq_true rfl, rfl⟩
theorem ro_acs {v : Int32} : (aAcs S v).1 ≤ 1 ∧ (aAcs S v).2.2 = S := by
  unfold aAcs
  repeat' split
  all_goals exact ⟨Nat.le_of_ble_eq_true rfl, rfl⟩
theorem ro_cw {v w : Int32} : (aCw S v w).1 ≤ 2 ∧ (aCw S v w).2.2 = S := by
  unfold aCw
  repeat' split
  all_goals exact ⟨Nat.le_of_ble_eq_true rfl, rfl⟩
theorem ro_cnt {v : Int32} {f : Glu → Nat} : (aCnt S v f).1 ≤ 1 ∧ (aCnt S v f).2.2 = S := by
  unfold aCnt
  repeat' split
  all_goals exact ⟨Nat.le_of_ble_eq_true rfl, rfl⟩
theorem ro_twoP {v w : Int32} {f : Glu → Glu → Nat} : (aTwoP S v w f).1 ≤ 1 ∧ (aTwoP S v w f).2.2 = S := by
  unfold aTwoP
  repeat' split
  all_goals exact ⟨Nat.le_of_ble_eq_true rfl, rfl⟩
theorem ro_slot {v : Int32} : (aSlot S v).1 ≤ 1 ∧ (aSlot S v).2.2 = S := by
  unfold aSlot
  repeat' split
  all_goals exact ⟨Nat.le_of_ble_eq_true rfl, rfl⟩
theorem ro_wLet {v w : Int32} : (aWLet S v w).1 ≤ 1 ∧ (aWLet S v w).2.2 = S := by
  unfold aWLet
  repeat' split
  all_goals exact ⟨Nat.le_of_ble_eq_true rfl, rfl⟩
theorem ro_line {v : Int32} : (aLine S v).1 ≤ 1 ∧ (aLine S v).2.2 = S := by
  unfold aLine
  repeat' split
  all_goals exact ⟨Nat.le_of_ble_eq_true rfl, rfl⟩
theorem GoodS_err {e : Nat} (hg : GoodS S) (he : e ≤ 60) : GoodS (setErr S e) := ⟨hg.1, hg.2.1, hg.2.2.1, hg.2.2.2.1, hg.2.2.2.2.1, hg.2.2.2.2.2.1, fun x hx => by cases hx; exact he, hg.2.2.2.2.2.2.2⟩
theorem GoodS_fail {e : Nat} (hg : GoodS S) (he : e ≤ 60) : GoodS (setFail S e) := ⟨hg.1, hg.2.1, hg.2.2.1, hg.2.2.2.1, hg.2.2.2.2.1, hg.2.2.2.2.2.1, hg.2.2.2.2.2.2.1, fun x hx => by cases hx; exact he, hg.2.2.2.2.2.2.2.2⟩
theorem GoodS_def {v : Int32} (hg : GoodS S) : GoodS (aDef S v).2.2 := by
  have t60 := hg.2.2.2.2.1
  have hp := (pR_ok (sText S) 0).2.2
  unfold aDef
  cases slN v with
  | none => exact hg
  | some s =>
    dsimp only
    by_cases ok : pOk (sText S)
    · rw [if_pos ok]
      exact GoodS_laid (GoodS_text hg) (rdE_wf (pR_ok (sText S) 0).1 ok.1).1
    · rw [if_neg ok]
      exact GoodS_err (GoodS_text hg) (by omega)
theorem prR_pos {T : List Nat} : ∀ (f i : Nat), i ≤ T.length → (prR T f i).2 ≤ T.length
  | 0, i, h => h
  | f + 1, i, h => by
    obtain ⟨c1, c2, c3⟩ := cmR_ok h
    unfold prR
    by_cases q : (cmR T i).1 = true
    · rw [if_pos q]
      by_cases q2 : (cmR T i).2 = T.length
      · rw [if_pos q2]
        exact Nat.le_refl _
      · rw [if_neg q2]
        by_cases q3 : T.getD (cmR T i).2 0 = 59
        · rw [if_pos q3]
          exact prR_pos f _ (by omega)
        · rw [if_neg q3]
          exact c2
    · rw [if_neg q]
      exact c2
theorem doR_good {T : List Nat} (h60 : T.length ≤ 60) : ∀ (f i : Nat) (S : St) (m : Nat), GoodS S → i ≤ T.length → (prR T f i).1.isSome = true → GoodL (doR T f i S m).2.2
  | 0, i, S, m, hg, hi, hp => hg.1
  | f + 1, i, S, m, hg, hi, hp => by
    have hok : (cmR T i).1 = true := Decidable.byContradiction fun z => by
      unfold prR at hp
      rw [if_neg z] at hp
      exact absurd hp Bool.false_ne_true
    obtain ⟨c1, c2, c3⟩ := cmR_ok hi
    have gl := exC_good hg h60 hi hok
    unfold doR
    by_cases q : (exC T i S).1 = 0
    · rw [if_pos q]
      by_cases q3 : T.getD (cmR T i).2 0 = 59
      · rw [if_pos q3]
        have hl : (cmR T i).2 < T.length := by
          rcases Nat.lt_or_ge (cmR T i).2 T.length with z | z
          · exact z
          · rw [getD_ov z] at q3
            exact absurd q3 (by decide)
        refine doR_good h60 f _ _ _ (GoodS_setC hg gl) hl ?_
        unfold prR at hp
        rw [if_pos hok, if_neg (by omega), if_pos q3] at hp
        have hp : ((prR T f ((cmR T i).2 + 1)).1.map (· + 1)).isSome = true := hp
        rw [Option.isSome_map] at hp
        exact hp
      · rw [if_neg q3]
        exact gl
    · rw [if_neg q]
      exact hg.1
theorem GoodS_run (hg : GoodS S) : GoodS (aRun S).2.2 := by
  have t60 := hg.2.2.2.2.1
  have hpp := prR_pos (T := sText S) 11 0 (Nat.zero_le _)
  have hdl := (doR_le (sText S) 11 0 S 0).2
  unfold aRun
  cases hp : (prR (sText S) 11 0).1 with
  | none => exact GoodS_err (GoodS_text hg) (by omega)
  | some c =>
    dsimp only
    have gl := doR_good t60 11 0 S 0 hg (Nat.zero_le _) (by rw [hp]; rfl)
    by_cases ok : (doR (sText S) 11 0 S 0).1 = true
    · rw [if_pos ok]
      exact GoodS_rem (GoodS_text hg) gl
    · rw [if_neg ok]
      exact GoodS_fail (GoodS_text hg) (by omega)
end BND
