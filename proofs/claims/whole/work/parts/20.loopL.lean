/-- what each call of the script must keep, from I to I' -/
def op_0 (x m o od : Nat) (h : mH) (I' : mH → Prop) (a1 a2 a3 : Int32) : Prop := opT x m o od I' (f_X11_define x a1 h) (fun r k => sl k o 0 r.toInt64) [xI, xA, xS] (fun k => f_X12_define m a1 k) (fun b k => gl k o 0 = Int32.toInt64 b)
def op_1 (x m o od : Nat) (h : mH) (I' : mH → Prop) (a1 a2 a3 : Int32) : Prop := opT x m o od I' (f_X11_unite x a1 a2 a3 h) (fun r k => sl k o 0 r.toInt64) [xI, xN, xS] (fun k => f_X12_unite m a1 a2 a3 k) (fun b k => gl k o 0 = Int32.toInt64 b)
def op_2 (x m o od : Nat) (h : mH) (I' : mH → Prop) (a1 a2 a3 : Int32) : Prop := opT x m o od I' (f_X11_concatenate x a1 a2 a3 h) (fun r k => sl k o 0 r.toInt64) [xI, xN, xS] (fun k => f_X12_concatenate m a1 a2 a3 k) (fun b k => gl k o 0 = Int32.toInt64 b)
def op_3 (x m o od : Nat) (h : mH) (I' : mH → Prop) (a1 a2 a3 : Int32) : Prop := opT x m o od I' (f_X11_repeat x a1 a2 h) (fun r k => sl k o 0 r.toInt64) [xI, xN, xS] (fun k => f_X12_repeat m a1 a2 k) (fun b k => gl k o 0 = Int32.toInt64 b)
def op_4 (x m o od : Nat) (h : mH) (I' : mH → Prop) (a1 a2 a3 : Int32) : Prop := opT x m o od I' (f_X11_remove x a1 h) (fun r k => sl k o 0 r.toInt64) [xI, xN] (fun k => f_X12_remove m a1 k) (fun b k => gl k o 0 = Int32.toInt64 b)
def op_5 (x m o od : Nat) (h : mH) (I' : mH → Prop) (a1 a2 a3 : Int32) : Prop := opT x m o od I' (f_X11_addWord x h) (fun r k => sl k o 0 r.toInt64) [xA, xS] (fun k => f_X12_addWord m k) (fun b k => gl k o 0 = Int32.toInt64 b)
def op_6 (x m o od : Nat) (h : mH) (I' : mH → Prop) (a1 a2 a3 : Int32) : Prop := opT x m o od I' (f_X11_removeWord x a1 h) (fun r k => sl k o 0 r.toInt64) [xI] (fun k => f_X12_removeWord m a1 k) (fun b k => gl k o 0 = Int32.toInt64 b)
def op_7 (x m o od : Nat) (h : mH) (I' : mH → Prop) (a1 a2 a3 : Int32) : Prop := opN x m o od I' (f_X11_patternCount x h) (fun k => f_X12_patternCount m k)
def op_8 (x m o od : Nat) (h : mH) (I' : mH → Prop) (a1 a2 a3 : Int32) : Prop := opT x m o od I' (f_X11_hasPattern x a1 h) (fun r k => sl k o 0 (if r = 0 then Int64.ofNat 0 else Int64.ofNat 1)) [xI] (fun k => f_X12_hasPattern m a1 k) (fun b k => gl k o 0 = if b = 0 then Int64.ofNat 0 else Int64.ofNat 1)
def op_9 (x m o od : Nat) (h : mH) (I' : mH → Prop) (a1 a2 a3 : Int32) : Prop := opT x m o od I' (f_X11_letterCount x a1 h) (fun r k => sl k o 0 r.toInt64) [xN] (fun k => f_X12_letterCount m a1 k) (fun b k => gl k o 0 = Int32.toInt64 b)
def op_10 (x m o od : Nat) (h : mH) (I' : mH → Prop) (a1 a2 a3 : Int32) : Prop := opT x m o od I' (f_X11_acceptsEmpty x a1 h) (fun r k => sl k o 0 (if r = 0 then Int64.ofNat 0 else Int64.ofNat 1)) [xN] (fun k => f_X12_acceptsEmpty m a1 k) (fun b k => gl k o 0 = if b = 0 then Int64.ofNat 0 else Int64.ofNat 1)
def op_11 (x m o od : Nat) (h : mH) (I' : mH → Prop) (a1 a2 a3 : Int32) : Prop := opT x m o od I' (f_X11_canBegin x a1 (chr a2) h) (fun r k => sl k o 0 (if r = 0 then Int64.ofNat 0 else Int64.ofNat 1)) [xN, xA] (fun k => f_X12_canBegin m a1 (chr a2) k) (fun b k => gl k o 0 = if b = 0 then Int64.ofNat 0 else Int64.ofNat 1)
def op_12 (x m o od : Nat) (h : mH) (I' : mH → Prop) (a1 a2 a3 : Int32) : Prop := opT x m o od I' (f_X11_canEnd x a1 (chr a2) h) (fun r k => sl k o 0 (if r = 0 then Int64.ofNat 0 else Int64.ofNat 1)) [xN, xA] (fun k => f_X12_canEnd m a1 (chr a2) k) (fun b k => gl k o 0 = if b = 0 then Int64.ofNat 0 else Int64.ofNat 1)
def op_13 (x m o od : Nat) (h : mH) (I' : mH → Prop) (a1 a2 a3 : Int32) : Prop := opT x m o od I' (f_X11_canBeAdjacent x a1 (chr a2) (chr a3) h) (fun r k => sl k o 0 (if r = 0 then Int64.ofNat 0 else Int64.ofNat 1)) [xN, xA] (fun k => f_X12_canBeAdjacent m a1 (chr a2) (chr a3) k) (fun b k => gl k o 0 = if b = 0 then Int64.ofNat 0 else Int64.ofNat 1)
def op_14 (x m o od : Nat) (h : mH) (I' : mH → Prop) (a1 a2 a3 : Int32) : Prop := opT x m o od I' (f_X11_matches x a1 h) (fun r k => sl k o 0 (if r = 0 then Int64.ofNat 0 else Int64.ofNat 1)) [xN, xA] (fun k => f_X12_matches m a1 k) (fun b k => gl k o 0 = if b = 0 then Int64.ofNat 0 else Int64.ofNat 1)
def op_15 (x m o od : Nat) (h : mH) (I' : mH → Prop) (a1 a2 a3 : Int32) : Prop := opT x m o od I' (f_X11_matchesBySpans x a1 h) (fun r k => sl k o 0 (if r = 0 then Int64.ofNat 0 else Int64.ofNat 1)) [xN, xA] (fun k => f_X12_matchesBySpans m a1 k) (fun b k => gl k o 0 = if b = 0 then Int64.ofNat 0 else Int64.ofNat 1)
def op_16 (x m o od : Nat) (h : mH) (I' : mH → Prop) (a1 a2 a3 : Int32) : Prop := opT x m o od I' (f_X11_longestPrefix x a1 h) (fun r k => sl k o 0 r.toInt64) [xN, xA] (fun k => f_X12_longestPrefix m a1 k) (fun b k => gl k o 0 = Int32.toInt64 b)
def op_17 (x m o od : Nat) (h : mH) (I' : mH → Prop) (a1 a2 a3 : Int32) : Prop := opT x m o od I' (f_X11_acceptsWord x a1 a2 h) (fun r k => sl k o 0 (if r = 0 then Int64.ofNat 0 else Int64.ofNat 1)) [xN, xI] (fun k => f_X12_acceptsWord m a1 a2 k) (fun b k => gl k o 0 = if b = 0 then Int64.ofNat 0 else Int64.ofNat 1)
def op_18 (x m o od : Nat) (h : mH) (I' : mH → Prop) (a1 a2 a3 : Int32) : Prop := opT x m o od I' (f_X11_acceptedWords x a1 h) (fun r k => sl k o 0 r.toInt64) [xN] (fun k => f_X12_acceptedWords m a1 k) (fun b k => gl k o 0 = Int32.toInt64 b)
def op_19 (x m o od : Nat) (h : mH) (I' : mH → Prop) (a1 a2 a3 : Int32) : Prop := opT x m o od I' (f_X11_countWords x a1 a2 h) (fun r k => sl k o 0 r.toInt64) [xN, xA] (fun k => f_X12_countWords m a1 a2 k) (fun b k => gl k o 0 = Int32.toInt64 b)
def op_20 (x m o od : Nat) (h : mH) (I' : mH → Prop) (a1 a2 a3 : Int32) : Prop := opT x m o od I' (f_X11_countWordsByListing x a1 a2 h) (fun r k => sl k o 0 r.toInt64) [xN, xA] (fun k => f_X12_countWordsByListing m a1 a2 k) (fun b k => gl k o 0 = Int32.toInt64 b)
def op_21 (x m o od : Nat) (h : mH) (I' : mH → Prop) (a1 a2 a3 : Int32) : Prop := opT x m o od I' (f_X11_shortestLength x a1 h) (fun r k => sl k o 0 r.toInt64) [xN] (fun k => f_X12_shortestLength m a1 k) (fun b k => gl k o 0 = Int32.toInt64 b)
def op_22 (x m o od : Nat) (h : mH) (I' : mH → Prop) (a1 a2 a3 : Int32) : Prop := opT x m o od I' (f_X11_stateCount x a1 h) (fun r k => sl k o 0 r.toInt64) [xN] (fun k => f_X12_stateCount m a1 k) (fun b k => gl k o 0 = Int32.toInt64 b)
def op_23 (x m o od : Nat) (h : mH) (I' : mH → Prop) (a1 a2 a3 : Int32) : Prop := opT x m o od I' (f_X11_acceptingCount x a1 h) (fun r k => sl k o 0 r.toInt64) [xN] (fun k => f_X12_acceptingCount m a1 k) (fun b k => gl k o 0 = Int32.toInt64 b)
def op_24 (x m o od : Nat) (h : mH) (I' : mH → Prop) (a1 a2 a3 : Int32) : Prop := opT x m o od I' (f_X11_smallestCount x a1 h) (fun r k => sl k o 0 r.toInt64) [xN] (fun k => f_X12_smallestCount m a1 k) (fun b k => gl k o 0 = Int32.toInt64 b)
def op_25 (x m o od : Nat) (h : mH) (I' : mH → Prop) (a1 a2 a3 : Int32) : Prop := opT x m o od I' (f_X11_smallestCountByPairs x a1 h) (fun r k => sl k o 0 r.toInt64) [xN] (fun k => f_X12_smallestCountByPairs m a1 k) (fun b k => gl k o 0 = Int32.toInt64 b)
def op_26 (x m o od : Nat) (h : mH) (I' : mH → Prop) (a1 a2 a3 : Int32) : Prop := opT x m o od I' (f_X11_isFinite x a1 h) (fun r k => sl k o 0 (if r = 0 then Int64.ofNat 0 else Int64.ofNat 1)) [xN] (fun k => f_X12_isFinite m a1 k) (fun b k => gl k o 0 = if b = 0 then Int64.ofNat 0 else Int64.ofNat 1)
def op_27 (x m o od : Nat) (h : mH) (I' : mH → Prop) (a1 a2 a3 : Int32) : Prop := opT x m o od I' (f_X11_isUniversal x a1 h) (fun r k => sl k o 0 (if r = 0 then Int64.ofNat 0 else Int64.ofNat 1)) [xN] (fun k => f_X12_isUniversal m a1 k) (fun b k => gl k o 0 = if b = 0 then Int64.ofNat 0 else Int64.ofNat 1)
def op_28 (x m o od : Nat) (h : mH) (I' : mH → Prop) (a1 a2 a3 : Int32) : Prop := opT x m o od I' (f_X11_areEquivalent x a1 a2 h) (fun r k => sl k o 0 (if r = 0 then Int64.ofNat 0 else Int64.ofNat 1)) [xN] (fun k => f_X12_areEquivalent m a1 a2 k) (fun b k => gl k o 0 = if b = 0 then Int64.ofNat 0 else Int64.ofNat 1)
def op_29 (x m o od : Nat) (h : mH) (I' : mH → Prop) (a1 a2 a3 : Int32) : Prop := opT x m o od I' (f_X11_areEquivalentBySmallest x a1 a2 h) (fun r k => sl k o 0 (if r = 0 then Int64.ofNat 0 else Int64.ofNat 1)) [xN] (fun k => f_X12_areEquivalentBySmallest m a1 a2 k) (fun b k => gl k o 0 = if b = 0 then Int64.ofNat 0 else Int64.ofNat 1)
def op_30 (x m o od : Nat) (h : mH) (I' : mH → Prop) (a1 a2 a3 : Int32) : Prop := opT x m o od I' (f_X11_isIncluded x a1 a2 h) (fun r k => sl k o 0 (if r = 0 then Int64.ofNat 0 else Int64.ofNat 1)) [xN] (fun k => f_X12_isIncluded m a1 a2 k) (fun b k => gl k o 0 = if b = 0 then Int64.ofNat 0 else Int64.ofNat 1)
def op_31 (x m o od : Nat) (h : mH) (I' : mH → Prop) (a1 a2 a3 : Int32) : Prop := opT x m o od I' (f_X11_differenceLength x a1 a2 h) (fun r k => sl k o 0 r.toInt64) [xN] (fun k => f_X12_differenceLength m a1 a2 k) (fun b k => gl k o 0 = Int32.toInt64 b)
def op_32 (x m o od : Nat) (h : mH) (I' : mH → Prop) (a1 a2 a3 : Int32) : Prop := opT x m o od I' (f_X11_slotByStates x a1 h) (fun r k => sl k o 0 r.toInt64) [xN] (fun k => f_X12_slotByStates m a1 k) (fun b k => gl k o 0 = Int32.toInt64 b)
def op_33 (x m o od : Nat) (h : mH) (I' : mH → Prop) (a1 a2 a3 : Int32) : Prop := opN x m o od I' (f_X11_wordCount x h) (fun k => f_X12_wordCount m k)
def op_34 (x m o od : Nat) (h : mH) (I' : mH → Prop) (a1 a2 a3 : Int32) : Prop := opT x m o od I' (f_X11_wordLength x a1 h) (fun r k => sl k o 0 r.toInt64) [xI] (fun k => f_X12_wordLength m a1 k) (fun b k => gl k o 0 = Int32.toInt64 b)
def op_35 (x m o od : Nat) (h : mH) (I' : mH → Prop) (a1 a2 a3 : Int32) : Prop := opT x m o od I' (f_X11_wordLetter x a1 a2 h) (fun r k => sl k o 0 r.toInt64) [xI] (fun k => f_X12_wordLetter m a1 a2 k) (fun b k => gl k o 0 = Int32.toInt64 b)
def op_36 (x m o od : Nat) (h : mH) (I' : mH → Prop) (a1 a2 a3 : Int32) : Prop := opN x m o od I' (f_X11_definedTotal x h) (fun k => f_X12_definedTotal m k)
def op_37 (x m o od : Nat) (h : mH) (I' : mH → Prop) (a1 a2 a3 : Int32) : Prop := opT x m o od I' (f_X11_meanLetters x h) (fun r k => sd k od 0 r) [xM] (fun k => f_X12_meanLetters m k) (fun b k => Op.cmpValue (FP.dcmp (gd k od 0) b) .l = 0)
def op_38 (x m o od : Nat) (h : mH) (I' : mH → Prop) (a1 a2 a3 : Int32) : Prop := (opT x m o od I' (f_X11_acceptedShare x a1 h) (fun r k => sd k od 0 (FP.f2d r)) [xN, xM] (fun k => f_X12_acceptedShare m a1 k) (fun b k => vf_n64 (FP.f2d b) ∧ Op.cmpValue (FP.dcmp (gd k od 0) (FP.f2d b)) .l = 0)) ∧ (∀ r k, f_X11_acceptedShare x a1 h = some (.inl r, k) → vf_n64 (FP.f2d r))
def op_39 (x m o od : Nat) (h : mH) (I' : mH → Prop) (a1 a2 a3 : Int32) : Prop := opN x m o od I' (f_X11_isConsistent x h) (fun k => f_X12_isConsistent m k)
def op_40 (x m o od : Nat) (h : mH) (I' : mH → Prop) (a1 a2 a3 : Int32) : Prop := opT x m o od I' (f_X11_formatPattern x a1 h) (fun r k => sl k o 0 r.toInt64) [xN] (fun k => f_X12_formatPattern m a1 k) (fun b k => gl k o 0 = Int32.toInt64 b)
def op_41 (x m o od : Nat) (h : mH) (I' : mH → Prop) (a1 a2 a3 : Int32) : Prop := opT x m o od I' (f_X11_formatShortest x a1 h) (fun r k => sl k o 0 r.toInt64) [xN] (fun k => f_X12_formatShortest m a1 k) (fun b k => gl k o 0 = Int32.toInt64 b)
def op_42 (x m o od : Nat) (h : mH) (I' : mH → Prop) (a1 a2 a3 : Int32) : Prop := opT x m o od I' (f_X11_formatDifference x a1 a2 h) (fun r k => sl k o 0 r.toInt64) [xN] (fun k => f_X12_formatDifference m a1 a2 k) (fun b k => gl k o 0 = Int32.toInt64 b)
def op_43 (x m o od : Nat) (h : mH) (I' : mH → Prop) (a1 a2 a3 : Int32) : Prop := opT x m o od I' (f_X11_lineChar x a1 h) (fun r k => sl k o 0 r.toInt64) [xI] (fun k => f_X12_lineChar m a1 k) (fun b k => gl k o 0 = Int32.toInt64 b)
def op_44 (x m o od : Nat) (h : mH) (I' : mH → Prop) (a1 a2 a3 : Int32) : Prop := opT x m o od I' (f_X11_append x (chr a1) h) (fun r k => sl k o 0 r.toInt64) [xA, xS] (fun k => f_X12_append m (chr a1) k) (fun b k => gl k o 0 = Int32.toInt64 b)
def op_45 (x m o od : Nat) (h : mH) (I' : mH → Prop) (a1 a2 a3 : Int32) : Prop := opN x m o od I' (f_X11_clearBuffer x h) (fun k => f_X12_clearBuffer m k)
def op_46 (x m o od : Nat) (h : mH) (I' : mH → Prop) (a1 a2 a3 : Int32) : Prop := opT x m o od I' (f_X11_run x h) (fun r k => sl k o 0 r.toInt64) [xA, xS] (fun k => f_X12_run m k) (fun b k => gl k o 0 = Int32.toInt64 b)
def op_47 (x m o od : Nat) (h : mH) (I' : mH → Prop) (a1 a2 a3 : Int32) : Prop := opT x m o od I' (f_X11_errorPosition x h) (fun r k => sl k o 0 r.toInt64) [xN] (fun k => f_X12_errorPosition m k) (fun b k => gl k o 0 = Int32.toInt64 b)
def op_48 (x m o od : Nat) (h : mH) (I' : mH → Prop) (a1 a2 a3 : Int32) : Prop := opT x m o od I' (f_X11_failedCommand x h) (fun r k => sl k o 0 r.toInt64) [xN] (fun k => f_X12_failedCommand m k) (fun b k => gl k o 0 = Int32.toInt64 b)
def op_49 (x m o od : Nat) (h : mH) (I' : mH → Prop) (a1 a2 a3 : Int32) : Prop := opN x m o od I' (f_X11_undoableCount x h) (fun k => f_X12_undoableCount m k)
def op_50 (x m o od : Nat) (h : mH) (I' : mH → Prop) (a1 a2 a3 : Int32) : Prop := opT x m o od I' (f_X11_undo x h) (fun r k => sl k o 0 r.toInt64) [xS] (fun k => f_X12_undo m k) (fun b k => gl k o 0 = Int32.toInt64 b)
def op_51 (x m o od : Nat) (h : mH) (I' : mH → Prop) (a1 a2 a3 : Int32) : Prop := opN x m o od I' (f_X11_save x h) (fun k => f_X12_save m k)
def op_52 (x m o od : Nat) (h : mH) (I' : mH → Prop) (a1 a2 a3 : Int32) : Prop := opT x m o od I' (f_X11_restore x h) (fun r k => sl k o 0 r.toInt64) [xS] (fun k => f_X12_restore m k) (fun b k => gl k o 0 = Int32.toInt64 b)
def Ops (x m o od : Nat) (h : mH) (I' : mH → Prop) (a1 a2 a3 : Int32) : Prop := op_0 x m o od h I' a1 a2 a3 ∧ op_1 x m o od h I' a1 a2 a3 ∧ op_2 x m o od h I' a1 a2 a3 ∧ op_3 x m o od h I' a1 a2 a3 ∧ op_4 x m o od h I' a1 a2 a3 ∧ op_5 x m o od h I' a1 a2 a3 ∧ op_6 x m o od h I' a1 a2 a3 ∧ op_7 x m o od h I' a1 a2 a3 ∧ op_8 x m o od h I' a1 a2 a3 ∧ op_9 x m o od h I' a1 a2 a3 ∧ op_10 x m o od h I' a1 a2 a3 ∧ op_11 x m o od h I' a1 a2 a3 ∧ op_12 x m o od h I' a1 a2 a3 ∧ op_13 x m o od h I' a1 a2 a3 ∧ op_14 x m o od h I' a1 a2 a3 ∧ op_15 x m o od h I' a1 a2 a3 ∧ op_16 x m o od h I' a1 a2 a3 ∧ op_17 x m o od h I' a1 a2 a3 ∧ op_18 x m o od h I' a1 a2 a3 ∧ op_19 x m o od h I' a1 a2 a3 ∧ op_20 x m o od h I' a1 a2 a3 ∧ op_21 x m o od h I' a1 a2 a3 ∧ op_22 x m o od h I' a1 a2 a3 ∧ op_23 x m o od h I' a1 a2 a3 ∧ op_24 x m o od h I' a1 a2 a3 ∧ op_25 x m o od h I' a1 a2 a3 ∧ op_26 x m o od h I' a1 a2 a3 ∧ op_27 x m o od h I' a1 a2 a3 ∧ op_28 x m o od h I' a1 a2 a3 ∧ op_29 x m o od h I' a1 a2 a3 ∧ op_30 x m o od h I' a1 a2 a3 ∧ op_31 x m o od h I' a1 a2 a3 ∧ op_32 x m o od h I' a1 a2 a3 ∧ op_33 x m o od h I' a1 a2 a3 ∧ op_34 x m o od h I' a1 a2 a3 ∧ op_35 x m o od h I' a1 a2 a3 ∧ op_36 x m o od h I' a1 a2 a3 ∧ op_37 x m o od h I' a1 a2 a3 ∧ op_38 x m o od h I' a1 a2 a3 ∧ op_39 x m o od h I' a1 a2 a3 ∧ op_40 x m o od h I' a1 a2 a3 ∧ op_41 x m o od h I' a1 a2 a3 ∧ op_42 x m o od h I' a1 a2 a3 ∧ op_43 x m o od h I' a1 a2 a3 ∧ op_44 x m o od h I' a1 a2 a3 ∧ op_45 x m o od h I' a1 a2 a3 ∧ op_46 x m o od h I' a1 a2 a3 ∧ op_47 x m o od h I' a1 a2 a3 ∧ op_48 x m o od h I' a1 a2 a3 ∧ op_49 x m o od h I' a1 a2 a3 ∧ op_50 x m o od h I' a1 a2 a3 ∧ op_51 x m o od h I' a1 a2 a3 ∧ op_52 x m o od h I' a1 a2 a3
theorem and63 (x : Int32) : ∃ j, j < 64 ∧ x &&& Int32.ofInt 63 = nI j := by
  have hx : x = nI x.toBitVec.toNat := Int32.toBitVec_inj.mp (by show _ = BitVec.ofNat 32 _; simp)
  refine ⟨x.toBitVec.toNat &&& 63, Nat.lt_of_le_of_lt Nat.and_le_right (by decide), ?_⟩
  rw [show Int32.ofInt 63 = nI 63 from rfl]
  conv => lhs; rw [hx]
  apply Int32.toBitVec_inj.1
  show BitVec.ofNat 32 _ &&& BitVec.ofNat 32 63 = BitVec.ofNat 32 _
  apply BitVec.eq_of_getLsbD_eq
  intro i hi
  simp [hi]
theorem lt_rest {L t : Nat} (hL : L ≤ 2048) (ht : t ≤ 512) : nI L - Int32.ofInt 4 < nI (4 * t) ↔ L < 4 * t + 4 := by
  have e4 : Int32.ofInt 4 = nI 4 := rfl
  have h1 : (nI (4 * t)).toInt = ((4 * t : Nat) : Int) := nI_toInt (by omega)
  by_cases h : 4 ≤ L
  · have e : nI L - Int32.ofInt 4 = nI (L - 4) := by
      have h1 : nI L = nI (L - 4) + nI 4 := by rw [nI_add]; congr 1; omega
      rw [h1, e4]
      exact Int32.add_sub_cancel _ _
    rw [e, nI_ltI (by omega) (by omega)]
    omega
  · constructor
    · intro _; omega
    · intro _
      have hc : L = 0 ∨ L = 1 ∨ L = 2 ∨ L = 3 := by omega
      have h2 : (nI L - Int32.ofInt 4).toInt = (L : Int) - 4 := by rcases hc with rfl | rfl | rfl | rfl <;> decide +kernel
      rw [Int32.lt_iff_toInt_lt, h1, h2]
      omega
abbrev lLS (G : mG) (x m o od : Nat) (i : Int32) : List (Option Value) := [some (.ref (sB G)), some (.ref x), some (.ref m), some (.ref o), some (.ref od), some (.int i), none, none, none]
theorem in_sc {L t j : Nat} (hL : L ≤ 2048) (h : 4 * t + 4 ≤ L) (hj : j < 4) : inb (nI (4 * t) + Int32.ofInt (j : Int)) L := by
  have e : Int32.ofInt (j : Int) = nI j := rfl
  rw [e, nI_add]
  exact ⟨fun q => nI_pos (by omega) q, by rw [nI_clamp (by omega)]; omega⟩
set_option maxRecDepth 100000 in
set_option maxHeartbeats 4000000 in
theorem law_loop {l : Launch} {G : mG} {x m o od : Nat} {I : Nat → mH → Prop} (hL : sL G ≤ 2048) (hI : ∀ t h, I t h → hOK x m o od h) (hup : ∀ t h, I t h → I (t + 1) h)
    (ops : ∀ t h, I t h → t < 512 → ∀ a1 a2 a3, Ops x m o od h (I (t + 1)) a1 a2 a3) : ∀ (n t : Nat) (h : mH), sL G < 4 * (t + n) + 4 → t ≤ 512 → I t h →
    mW l G m_L_law 12 (n * 21) (n * 2586) 28 (lLS G x m o od (nI (4 * t))) [] h (fun v _ => v = some (.int 1)) (fun _ _ => False) := by
  intro n
  induction n with
  | zero =>
    intro t h hn ht hi
    refine q_iload dL_law_28 rfl ?_
    refine q_aload_n dL_law_30 rfl ?_
    refine q_slen dL_law_31 ?_
    refine q_iconst dL_law_32 ?_
    refine q_isub dL_law_33 ?_
    refine q_icmp_gt (tgt := 3221) dL_law_34 (by decide) (fun z => ?_) (fun z => absurd ((lt_rest hL ht).mpr (by omega)) z)
    refine q_iconst dL_law_3221 ?_
    exact q_zreturn dL_law_3222 rfl (by decide) rfl
  | succ n ih =>
    intro t h hn ht hi
    refine q_iload dL_law_28 rfl ?_
    refine q_aload_n dL_law_30 rfl ?_
    refine q_slen dL_law_31 ?_
    refine q_iconst dL_law_32 ?_
    refine q_isub dL_law_33 ?_
    refine q_icmp_gt (tgt := 3221) dL_law_34 (by decide) (fun z => ?_) (fun z => ?_)
    · refine q_iconst dL_law_3221 ?_
      exact q_zreturn dL_law_3222 rfl (by decide) rfl
    have hz : 4 * t + 4 ≤ sL G := Nat.not_lt.mp (fun q => z ((lt_rest hL ht).mpr q))
    have g0 : inb (nI (4 * t)) (sL G) := ⟨fun q => nI_pos (by omega) q, by rw [nI_clamp (by omega)]; omega⟩
    have g1 := in_sc hL hz (j := 1) (by decide)
    have g2 := in_sc hL hz (j := 2) (by decide)
    have g3 := in_sc hL hz (j := 3) (by decide)
    have hok := hI t h hi
    have O := ops t h hi (by omega) (sX G (nI (4 * t) + Int32.ofInt 1).toNatClampNeg) (sX G (nI (4 * t) + Int32.ofInt 2).toNatClampNeg) (sX G (nI (4 * t) + Int32.ofInt 3).toNatClampNeg)
    have kE : ∀ h', hOK x m o od h' → I (t + 1) h' → mW l G m_L_law 12 (n * 21) (n * 2586) 3215 (lLS G x m o od (nI (4 * t))) [] h' (fun v _ => v = some (.int 1)) (fun _ _ => False) := fun h' _ hi' => by
      refine q_iinc (x := nI (4 * t)) (v := nI (4 * (t + 1))) dL_law_3215 rfl (by rw [show Int32.ofInt 4 = nI 4 from rfl, nI_add]; congr 1) (by decide) ?_
      refine q_goto (tgt := 28) dL_law_3218 (by decide) ?_
      exact ih (t + 1) h' (by omega) (by omega) hi'
    refine q_aload_n dL_law_37 rfl ?_
    refine q_iload dL_law_38 rfl ?_
    refine q_sld dL_law_40 g0 ?_
    refine q_bipush (v := Int32.ofInt 63) dL_law_41 (by decide) ?_
    refine q_iand dL_law_43 ?_
    obtain ⟨j, hj, ej⟩ := and63 (sX G (nI (4 * t)).toNatClampNeg)
    rw [ej]
    rw [show (n + 1) * 21 = n * 21 + 21 by omega, show (n + 1) * 2586 = n * 2586 + 2586 by omega]
    by_cases hj2 : 53 ≤ j
    · refine r_tableOut (tgt := 3215) dL_law_44 (Or.inr (by rw [nI_toInt (by omega)]; omega)) (by decide) ?_
      exact q_room (mc' := n * 21) (ms' := n * 2586) (Nat.le_refl _) (by omega) (by omega) (kE h hok (hup t h hi))

    have hd : j = 0 ∨ j = 1 ∨ j = 2 ∨ j = 3 ∨ j = 4 ∨ j = 5 ∨ j = 6 ∨ j = 7 ∨ j = 8 ∨ j = 9 ∨ j = 10 ∨ j = 11 ∨ j = 12 ∨ j = 13 ∨ j = 14 ∨ j = 15 ∨ j = 16 ∨ j = 17 ∨ j = 18 ∨ j = 19 ∨ j = 20 ∨ j = 21 ∨ j = 22 ∨ j = 23 ∨ j = 24 ∨ j = 25 ∨ j = 26 ∨ j = 27 ∨ j = 28 ∨ j = 29 ∨ j = 30 ∨ j = 31 ∨ j = 32 ∨ j = 33 ∨ j = 34 ∨ j = 35 ∨ j = 36 ∨ j = 37 ∨ j = 38 ∨ j = 39 ∨ j = 40 ∨ j = 41 ∨ j = 42 ∨ j = 43 ∨ j = 44 ∨ j = 45 ∨ j = 46 ∨ j = 47 ∨ j = 48 ∨ j = 49 ∨ j = 50 ∨ j = 51 ∨ j = 52 := by omega
    unfold Ops at O
    obtain ⟨o0, o1, o2, o3, o4, o5, o6, o7, o8, o9, o10, o11, o12, o13, o14, o15, o16, o17, o18, o19, o20, o21, o22, o23, o24, o25, o26, o27, o28, o29, o30, o31, o32, o33, o34, o35, o36, o37, o38, o39, o40, o41, o42, o43, o44, o45, o46, o47, o48, o49, o50, o51, o52⟩ := O
    rcases hd with rfl | rfl | rfl | rfl | rfl | rfl | rfl | rfl | rfl | rfl | rfl | rfl | rfl | rfl | rfl | rfl | rfl | rfl | rfl | rfl | rfl | rfl | rfl | rfl | rfl | rfl | rfl | rfl | rfl | rfl | rfl | rfl | rfl | rfl | rfl | rfl | rfl | rfl | rfl | rfl | rfl | rfl | rfl | rfl | rfl | rfl | rfl | rfl | rfl | rfl | rfl | rfl | rfl
    · refine r_tableIn (v := nI 0) (off := 228) (tgt := 272) dL_law_44 rfl (by decide +kernel) (by decide +kernel) (by decide +kernel) (by decide) ?_
      exact k_0 g1 g2 g3 rfl rfl rfl hok.1 o0 kE
    · refine r_tableIn (v := nI 1) (off := 284) (tgt := 328) dL_law_44 rfl (by decide +kernel) (by decide +kernel) (by decide +kernel) (by decide) ?_
      exact k_1 g1 g2 g3 rfl rfl rfl hok.1 o1 kE
    · refine r_tableIn (v := nI 2) (off := 364) (tgt := 408) dL_law_44 rfl (by decide +kernel) (by decide +kernel) (by decide +kernel) (by decide) ?_
      exact k_2 g1 g2 g3 rfl rfl rfl hok.1 o2 kE
    · refine r_tableIn (v := nI 3) (off := 444) (tgt := 488) dL_law_44 rfl (by decide +kernel) (by decide +kernel) (by decide +kernel) (by decide) ?_
      exact k_3 g1 g2 g3 rfl rfl rfl hok.1 o3 kE
    · refine r_tableIn (v := nI 4) (off := 512) (tgt := 556) dL_law_44 rfl (by decide +kernel) (by decide +kernel) (by decide +kernel) (by decide) ?_
      exact k_4 g1 g2 g3 rfl rfl rfl hok.1 o4 kE
    · refine r_tableIn (v := nI 5) (off := 568) (tgt := 612) dL_law_44 rfl (by decide +kernel) (by decide +kernel) (by decide +kernel) (by decide) ?_
      exact k_5 g1 g2 g3 rfl rfl rfl hok.1 o5 kE
    · refine r_tableIn (v := nI 6) (off := 612) (tgt := 656) dL_law_44 rfl (by decide +kernel) (by decide +kernel) (by decide +kernel) (by decide) ?_
      exact k_6 g1 g2 g3 rfl rfl rfl hok.1 o6 kE
    · refine r_tableIn (v := nI 7) (off := 668) (tgt := 712) dL_law_44 rfl (by decide +kernel) (by decide +kernel) (by decide +kernel) (by decide) ?_
      exact k_7 g1 g2 g3 rfl rfl rfl hok.1 o7 kE
    · refine r_tableIn (v := nI 8) (off := 681) (tgt := 725) dL_law_44 rfl (by decide +kernel) (by decide +kernel) (by decide +kernel) (by decide) ?_
      exact k_8 g1 g2 g3 rfl rfl rfl hok.1 o8 kE
    · refine r_tableIn (v := nI 9) (off := 744) (tgt := 788) dL_law_44 rfl (by decide +kernel) (by decide +kernel) (by decide +kernel) (by decide) ?_
      exact k_9 g1 g2 g3 rfl rfl rfl hok.1 o9 kE
    · refine r_tableIn (v := nI 10) (off := 800) (tgt := 844) dL_law_44 rfl (by decide +kernel) (by decide +kernel) (by decide +kernel) (by decide) ?_
      exact k_10 g1 g2 g3 rfl rfl rfl hok.1 o10 kE
    · refine r_tableIn (v := nI 11) (off := 863) (tgt := 907) dL_law_44 rfl (by decide +kernel) (by decide +kernel) (by decide +kernel) (by decide) ?_
      exact k_11 g1 g2 g3 rfl rfl rfl hok.1 o11 kE
    · refine r_tableIn (v := nI 12) (off := 940) (tgt := 984) dL_law_44 rfl (by decide +kernel) (by decide +kernel) (by decide +kernel) (by decide) ?_
      exact k_12 g1 g2 g3 rfl rfl rfl hok.1 o12 kE
    · refine r_tableIn (v := nI 13) (off := 1017) (tgt := 1061) dL_law_44 rfl (by decide +kernel) (by decide +kernel) (by decide +kernel) (by decide) ?_
      exact k_13 g1 g2 g3 rfl rfl rfl hok.1 o13 kE
    · refine r_tableIn (v := nI 14) (off := 1108) (tgt := 1152) dL_law_44 rfl (by decide +kernel) (by decide +kernel) (by decide +kernel) (by decide) ?_
      exact k_14 g1 g2 g3 rfl rfl rfl hok.1 o14 kE
    · refine r_tableIn (v := nI 15) (off := 1171) (tgt := 1215) dL_law_44 rfl (by decide +kernel) (by decide +kernel) (by decide +kernel) (by decide) ?_
      exact k_15 g1 g2 g3 rfl rfl rfl hok.1 o15 kE
    · refine r_tableIn (v := nI 16) (off := 1234) (tgt := 1278) dL_law_44 rfl (by decide +kernel) (by decide +kernel) (by decide +kernel) (by decide) ?_
      exact k_16 g1 g2 g3 rfl rfl rfl hok.1 o16 kE
    · refine r_tableIn (v := nI 17) (off := 1290) (tgt := 1334) dL_law_44 rfl (by decide +kernel) (by decide +kernel) (by decide +kernel) (by decide) ?_
      exact k_17 g1 g2 g3 rfl rfl rfl hok.1 o17 kE
    · refine r_tableIn (v := nI 18) (off := 1365) (tgt := 1409) dL_law_44 rfl (by decide +kernel) (by decide +kernel) (by decide +kernel) (by decide) ?_
      exact k_18 g1 g2 g3 rfl rfl rfl hok.1 o18 kE
    · refine r_tableIn (v := nI 19) (off := 1421) (tgt := 1465) dL_law_44 rfl (by decide +kernel) (by decide +kernel) (by decide +kernel) (by decide) ?_
      exact k_19 g1 g2 g3 rfl rfl rfl hok.1 o19 kE
    · refine r_tableIn (v := nI 20) (off := 1489) (tgt := 1533) dL_law_44 rfl (by decide +kernel) (by decide +kernel) (by decide +kernel) (by decide) ?_
      exact k_20 g1 g2 g3 rfl rfl rfl hok.1 o20 kE
    · refine r_tableIn (v := nI 21) (off := 1557) (tgt := 1601) dL_law_44 rfl (by decide +kernel) (by decide +kernel) (by decide +kernel) (by decide) ?_
      exact k_21 g1 g2 g3 rfl rfl rfl hok.1 o21 kE
    · refine r_tableIn (v := nI 22) (off := 1613) (tgt := 1657) dL_law_44 rfl (by decide +kernel) (by decide +kernel) (by decide +kernel) (by decide) ?_
      exact k_22 g1 g2 g3 rfl rfl rfl hok.1 o22 kE
    · refine r_tableIn (v := nI 23) (off := 1669) (tgt := 1713) dL_law_44 rfl (by decide +kernel) (by decide +kernel) (by decide +kernel) (by decide) ?_
      exact k_23 g1 g2 g3 rfl rfl rfl hok.1 o23 kE
    · refine r_tableIn (v := nI 24) (off := 1725) (tgt := 1769) dL_law_44 rfl (by decide +kernel) (by decide +kernel) (by decide +kernel) (by decide) ?_
      exact k_24 g1 g2 g3 rfl rfl rfl hok.1 o24 kE
    · refine r_tableIn (v := nI 25) (off := 1781) (tgt := 1825) dL_law_44 rfl (by decide +kernel) (by decide +kernel) (by decide +kernel) (by decide) ?_
      exact k_25 g1 g2 g3 rfl rfl rfl hok.1 o25 kE
    · refine r_tableIn (v := nI 26) (off := 1837) (tgt := 1881) dL_law_44 rfl (by decide +kernel) (by decide +kernel) (by decide +kernel) (by decide) ?_
      exact k_26 g1 g2 g3 rfl rfl rfl hok.1 o26 kE
    · refine r_tableIn (v := nI 27) (off := 1900) (tgt := 1944) dL_law_44 rfl (by decide +kernel) (by decide +kernel) (by decide +kernel) (by decide) ?_
      exact k_27 g1 g2 g3 rfl rfl rfl hok.1 o27 kE
    · refine r_tableIn (v := nI 28) (off := 1963) (tgt := 2007) dL_law_44 rfl (by decide +kernel) (by decide +kernel) (by decide +kernel) (by decide) ?_
      exact k_28 g1 g2 g3 rfl rfl rfl hok.1 o28 kE
    · refine r_tableIn (v := nI 29) (off := 2038) (tgt := 2082) dL_law_44 rfl (by decide +kernel) (by decide +kernel) (by decide +kernel) (by decide) ?_
      exact k_29 g1 g2 g3 rfl rfl rfl hok.1 o29 kE
    · refine r_tableIn (v := nI 30) (off := 2113) (tgt := 2157) dL_law_44 rfl (by decide +kernel) (by decide +kernel) (by decide +kernel) (by decide) ?_
      exact k_30 g1 g2 g3 rfl rfl rfl hok.1 o30 kE
    · refine r_tableIn (v := nI 31) (off := 2188) (tgt := 2232) dL_law_44 rfl (by decide +kernel) (by decide +kernel) (by decide +kernel) (by decide) ?_
      exact k_31 g1 g2 g3 rfl rfl rfl hok.1 o31 kE
    · refine r_tableIn (v := nI 32) (off := 2256) (tgt := 2300) dL_law_44 rfl (by decide +kernel) (by decide +kernel) (by decide +kernel) (by decide) ?_
      exact k_32 g1 g2 g3 rfl rfl rfl hok.1 o32 kE
    · refine r_tableIn (v := nI 33) (off := 2312) (tgt := 2356) dL_law_44 rfl (by decide +kernel) (by decide +kernel) (by decide +kernel) (by decide) ?_
      exact k_33 g1 g2 g3 rfl rfl rfl hok.1 o33 kE
    · refine r_tableIn (v := nI 34) (off := 2325) (tgt := 2369) dL_law_44 rfl (by decide +kernel) (by decide +kernel) (by decide +kernel) (by decide) ?_
      exact k_34 g1 g2 g3 rfl rfl rfl hok.1 o34 kE
    · refine r_tableIn (v := nI 35) (off := 2381) (tgt := 2425) dL_law_44 rfl (by decide +kernel) (by decide +kernel) (by decide +kernel) (by decide) ?_
      exact k_35 g1 g2 g3 rfl rfl rfl hok.1 o35 kE
    · refine r_tableIn (v := nI 36) (off := 2449) (tgt := 2493) dL_law_44 rfl (by decide +kernel) (by decide +kernel) (by decide +kernel) (by decide) ?_
      exact k_36 g1 g2 g3 rfl rfl rfl hok.1 o36 kE
    · refine r_tableIn (v := nI 37) (off := 2462) (tgt := 2506) dL_law_44 rfl (by decide +kernel) (by decide +kernel) (by decide +kernel) (by decide) ?_
      exact k_37 g1 g2 g3 rfl rfl rfl hok.1 o37 kE
    · refine r_tableIn (v := nI 38) (off := 2527) (tgt := 2571) dL_law_44 rfl (by decide +kernel) (by decide +kernel) (by decide +kernel) (by decide) ?_
      exact k_38 g1 g2 g3 rfl rfl rfl hok.1 o38 kE
    · refine r_tableIn (v := nI 39) (off := 2605) (tgt := 2649) dL_law_44 rfl (by decide +kernel) (by decide +kernel) (by decide +kernel) (by decide) ?_
      exact k_39 g1 g2 g3 rfl rfl rfl hok.1 o39 kE
    · refine r_tableIn (v := nI 40) (off := 2618) (tgt := 2662) dL_law_44 rfl (by decide +kernel) (by decide +kernel) (by decide +kernel) (by decide) ?_
      exact k_40 g1 g2 g3 rfl rfl rfl hok.1 o40 kE
    · refine r_tableIn (v := nI 41) (off := 2674) (tgt := 2718) dL_law_44 rfl (by decide +kernel) (by decide +kernel) (by decide +kernel) (by decide) ?_
      exact k_41 g1 g2 g3 rfl rfl rfl hok.1 o41 kE
    · refine r_tableIn (v := nI 42) (off := 2730) (tgt := 2774) dL_law_44 rfl (by decide +kernel) (by decide +kernel) (by decide +kernel) (by decide) ?_
      exact k_42 g1 g2 g3 rfl rfl rfl hok.1 o42 kE
    · refine r_tableIn (v := nI 43) (off := 2798) (tgt := 2842) dL_law_44 rfl (by decide +kernel) (by decide +kernel) (by decide +kernel) (by decide) ?_
      exact k_43 g1 g2 g3 rfl rfl rfl hok.1 o43 kE
    · refine r_tableIn (v := nI 44) (off := 2854) (tgt := 2898) dL_law_44 rfl (by decide +kernel) (by decide +kernel) (by decide +kernel) (by decide) ?_
      exact k_44 g1 g2 g3 rfl rfl rfl hok.1 o44 kE
    · refine r_tableIn (v := nI 45) (off := 2912) (tgt := 2956) dL_law_44 rfl (by decide +kernel) (by decide +kernel) (by decide +kernel) (by decide) ?_
      exact k_45 g1 g2 g3 rfl rfl rfl hok.1 o45 kE
    · refine r_tableIn (v := nI 46) (off := 2925) (tgt := 2969) dL_law_44 rfl (by decide +kernel) (by decide +kernel) (by decide +kernel) (by decide) ?_
      exact k_46 g1 g2 g3 rfl rfl rfl hok.1 o46 kE
    · refine r_tableIn (v := nI 47) (off := 2969) (tgt := 3013) dL_law_44 rfl (by decide +kernel) (by decide +kernel) (by decide +kernel) (by decide) ?_
      exact k_47 g1 g2 g3 rfl rfl rfl hok.1 o47 kE
    · refine r_tableIn (v := nI 48) (off := 3013) (tgt := 3057) dL_law_44 rfl (by decide +kernel) (by decide +kernel) (by decide +kernel) (by decide) ?_
      exact k_48 g1 g2 g3 rfl rfl rfl hok.1 o48 kE
    · refine r_tableIn (v := nI 49) (off := 3057) (tgt := 3101) dL_law_44 rfl (by decide +kernel) (by decide +kernel) (by decide +kernel) (by decide) ?_
      exact k_49 g1 g2 g3 rfl rfl rfl hok.1 o49 kE
    · refine r_tableIn (v := nI 50) (off := 3070) (tgt := 3114) dL_law_44 rfl (by decide +kernel) (by decide +kernel) (by decide +kernel) (by decide) ?_
      exact k_50 g1 g2 g3 rfl rfl rfl hok.1 o50 kE
    · refine r_tableIn (v := nI 51) (off := 3114) (tgt := 3158) dL_law_44 rfl (by decide +kernel) (by decide +kernel) (by decide +kernel) (by decide) ?_
      exact k_51 g1 g2 g3 rfl rfl rfl hok.1 o51 kE
    · refine r_tableIn (v := nI 52) (off := 3127) (tgt := 3171) dL_law_44 rfl (by decide +kernel) (by decide +kernel) (by decide +kernel) (by decide) ?_
      exact k_52 g1 g2 g3 rfl rfl rfl hok.1 o52 kE
