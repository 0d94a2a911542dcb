/-! the class's parts are made -/
theorem KQ_A {O : List stp} {r c k m j a : Nat} (h : KQ O r c) : KQ (aA k m j a O) r c := KQ_c (KQ_c h)
theorem KQ_O {O : List stp} {r c kind m j a : Nat} {B : Nat → List stp → List stp} (hB : ∀ {O : List stp} {a : Nat}, KQ O r c → KQ (B a O) r c) (h : KQ O r c) : KQ (aO kind m j B a O) r c := KQ_c (hB (KQ_c h))
theorem KQ_N {O : List stp} {r c j a : Nat} {v : Int32} (h : KQ O r c) : KQ (aN j v a O) r c := KQ_c h
theorem tn_2 : (Int32.ofInt 2).toNatClampNeg = 2 := by decide +kernel
theorem tn_3 : (Int32.ofInt 3).toNatClampNeg = 3 := by decide +kernel
theorem tn_6 : (Int32.ofInt 6).toNatClampNeg = 6 := by decide +kernel
theorem tn_7 : (Int32.ofInt 7).toNatClampNeg = 7 := by decide +kernel
theorem tn_8 : (Int32.ofInt 8).toNatClampNeg = 8 := by decide +kernel
theorem tn_9 : (Int32.ofInt 9).toNatClampNeg = 9 := by decide +kernel
theorem tn_14 : (Int32.ofInt 14).toNatClampNeg = 14 := by decide +kernel
theorem tn_60 : (Int32.ofInt 60).toNatClampNeg = 60 := by decide +kernel
theorem tn_80 : (Int32.ofInt 80).toNatClampNeg = 80 := by decide +kernel
theorem tn_91 : (Int32.ofInt 91).toNatClampNeg = 91 := by decide +kernel
theorem tn_120 : (Int32.ofInt 120).toNatClampNeg = 120 := by decide +kernel
theorem tn_128 : (Int32.ofInt 128).toNatClampNeg = 128 := by decide +kernel
theorem tn_129 : (Int32.ofInt 129).toNatClampNeg = 129 := by decide +kernel
theorem tn_130 : (Int32.ofInt 130).toNatClampNeg = 130 := by decide +kernel
theorem tn_248 : (Int32.ofInt 248).toNatClampNeg = 248 := by decide +kernel
theorem tn_258 : (Int32.ofInt 258).toNatClampNeg = 258 := by decide +kernel
theorem tn_387 : (Int32.ofInt 387).toNatClampNeg = 387 := by decide +kernel
theorem tn_645 : (Int32.ofInt 645).toNatClampNeg = 645 := by decide +kernel
theorem tn_774 : (Int32.ofInt 774).toNatClampNeg = 774 := by decide +kernel
theorem tn_1984 : (Int32.ofInt 1984).toNatClampNeg = 1984 := by decide +kernel
theorem tn_16641 : (Int32.ofInt 16641).toNatClampNeg = 16641 := by decide +kernel
theorem cn_2 : cnt (Int32.ofInt 2) 2 := by
  unfold cnt
  decide +kernel
theorem cn_3 : cnt (Int32.ofInt 3) 3 := by
  unfold cnt
  decide +kernel
theorem cn_6 : cnt (Int32.ofInt 6) 6 := by
  unfold cnt
  decide +kernel
theorem cn_7 : cnt (Int32.ofInt 7) 7 := by
  unfold cnt
  decide +kernel
theorem cn_8 : cnt (Int32.ofInt 8) 8 := by
  unfold cnt
  decide +kernel
theorem cn_9 : cnt (Int32.ofInt 9) 9 := by
  unfold cnt
  decide +kernel
theorem cn_14 : cnt (Int32.ofInt 14) 14 := by
  unfold cnt
  decide +kernel
theorem cn_60 : cnt (Int32.ofInt 60) 60 := by
  unfold cnt
  decide +kernel
theorem cn_80 : cnt (Int32.ofInt 80) 80 := by
  unfold cnt
  decide +kernel
theorem cn_91 : cnt (Int32.ofInt 91) 91 := by
  unfold cnt
  decide +kernel
theorem cn_120 : cnt (Int32.ofInt 120) 120 := by
  unfold cnt
  decide +kernel
theorem cn_128 : cnt (Int32.ofInt 128) 128 := by
  unfold cnt
  decide +kernel
theorem cn_129 : cnt (Int32.ofInt 129) 129 := by
  unfold cnt
  decide +kernel
theorem cn_130 : cnt (Int32.ofInt 130) 130 := by
  unfold cnt
  decide +kernel
theorem cn_248 : cnt (Int32.ofInt 248) 248 := by
  unfold cnt
  decide +kernel
theorem cn_258 : cnt (Int32.ofInt 258) 258 := by
  unfold cnt
  decide +kernel
theorem cn_387 : cnt (Int32.ofInt 387) 387 := by
  unfold cnt
  decide +kernel
theorem cn_645 : cnt (Int32.ofInt 645) 645 := by
  unfold cnt
  decide +kernel
theorem cn_774 : cnt (Int32.ofInt 774) 774 := by
  unfold cnt
  decide +kernel
theorem cn_1984 : cnt (Int32.ofInt 1984) 1984 := by
  unfold cnt
  decide +kernel
theorem cn_16641 : cnt (Int32.ofInt 16641) 16641 := by
  unfold cnt
  decide +kernel
section STARTB
variable {N : Nat} {O : List stp}
theorem st_obj {β : Type} {kind m j p c : Nat} {f : Nat → mH → Option (Unit × mH)} {B : Nat → List stp → List stp} {K : mH → Option β} (hf : ∀ (O : List stp) (a : Nat), KQ O a kind → f (N + a) (hp N O) = some ((), hp N (B a O))) (hB : ∀ {O : List stp} {a : Nat}, KQ O p c → KQ (B a O) p c) (hk : KQ O p c) : (bnd (nx (hp N O)) fun a1 => bnd (al (hp N O) kind m) fun h2 => cal (f a1 h2) fun _ h3 => grd (kd h3 (N + p) = c) <| bnd (sr h3 (N + p) j (some a1)) K) = K (hp N (aO kind m j B p O)) := by
  rw [bnd_w, bnd_w, hp_al, hp_nx, cal_w (hf _ _ KQ_n), grd_w (by rw [hp_kd]; exact (hB (KQ_c hk)).1), bnd_w, hp_sr]
  rfl
def bX6 (a : Nat) (O : List stp) : List stp := aN 3 (Int32.ofInt 0) a (aN 2 (Int32.ofInt 0) a (aA 113 8 1 a (aA 111 6 0 a (O))))
theorem KQ_bX6 {r c a : Nat} {O : List stp} (hk : KQ O r c) : KQ (bX6 a O) r c := KQ_N (KQ_N (KQ_A (KQ_A (hk))))
theorem i_X6 : ∀ (O : List stp) (a : Nat), KQ O a 11 → f_X6_init (N + a) (hp N O) = some ((), hp N (bX6 a O)) := by
  intro O a hk
  unfold f_X6_init
  rw [grd_w cn_6, st_arr (m' := 6) (hk) tn_6, grd_w cn_8, st_arr (m' := 8) (KQ_A (hk)) tn_8, st_nmb (KQ_A (KQ_A (hk))), st_nmb (KQ_N (KQ_A (KQ_A (hk))))]
  rfl
def bX9 (a : Nat) (O : List stp) : List stp := aN 6 (Int32.ofInt 0) a (aN 5 (Int32.ofInt 0) a (aN 4 (Int32.ofInt (-1)) a (aN 3 (Int32.ofInt 0) a (aN 2 (Int32.ofInt 0) a (aA 104 3 1 a (aA 103 60 0 a (O)))))))
theorem KQ_bX9 {r c a : Nat} {O : List stp} (hk : KQ O r c) : KQ (bX9 a O) r c := KQ_N (KQ_N (KQ_N (KQ_N (KQ_N (KQ_A (KQ_A (hk)))))))
theorem i_X9 : ∀ (O : List stp) (a : Nat), KQ O a 14 → f_X9_init (N + a) (hp N O) = some ((), hp N (bX9 a O)) := by
  intro O a hk
  unfold f_X9_init
  rw [grd_w cn_60, st_arr (m' := 60) (hk) tn_60, grd_w cn_3, st_arr (m' := 3) (KQ_A (hk)) tn_3, st_nmb (KQ_A (KQ_A (hk))), st_nmb (KQ_N (KQ_A (KQ_A (hk)))), st_nmb (KQ_N (KQ_N (KQ_A (KQ_A (hk))))), st_nmb (KQ_N (KQ_N (KQ_N (KQ_A (KQ_A (hk)))))), st_nmb (KQ_N (KQ_N (KQ_N (KQ_N (KQ_A (KQ_A (hk)))))))]
  rfl
def bX2 (a : Nat) (O : List stp) : List stp := aN 3 (Int32.ofInt 0) a (aN 2 (Int32.ofInt 0) a (aA 103 120 1 a (aA 103 120 0 a (O))))
theorem KQ_bX2 {r c a : Nat} {O : List stp} (hk : KQ O r c) : KQ (bX2 a O) r c := KQ_N (KQ_N (KQ_A (KQ_A (hk))))
theorem i_X2 : ∀ (O : List stp) (a : Nat), KQ O a 7 → f_X2_init (N + a) (hp N O) = some ((), hp N (bX2 a O)) := by
  intro O a hk
  unfold f_X2_init
  rw [grd_w cn_120, st_arr (m' := 120) (hk) tn_120, st_arr (m' := 120) (KQ_A (hk)) tn_120, st_nmb (KQ_A (KQ_A (hk))), st_nmb (KQ_N (KQ_A (KQ_A (hk))))]
  rfl
def bX5 (a : Nat) (O : List stp) : List stp := aN 6 (Int32.ofInt 0) a (aN 5 (Int32.ofInt 0) a (aA 101 7 4 a (aA 104 7 3 a (aA 104 7 2 a (aA 104 7 1 a (aA 104 3 0 a (O)))))))
theorem KQ_bX5 {r c a : Nat} {O : List stp} (hk : KQ O r c) : KQ (bX5 a O) r c := KQ_N (KQ_N (KQ_A (KQ_A (KQ_A (KQ_A (KQ_A (hk)))))))
theorem i_X5 : ∀ (O : List stp) (a : Nat), KQ O a 10 → f_X5_init (N + a) (hp N O) = some ((), hp N (bX5 a O)) := by
  intro O a hk
  unfold f_X5_init
  rw [grd_w cn_3, st_arr (m' := 3) (hk) tn_3, grd_w cn_7, st_arr (m' := 7) (KQ_A (hk)) tn_7, st_arr (m' := 7) (KQ_A (KQ_A (hk))) tn_7, st_arr (m' := 7) (KQ_A (KQ_A (KQ_A (hk)))) tn_7, st_arr (m' := 7) (KQ_A (KQ_A (KQ_A (KQ_A (hk))))) tn_7, st_nmb (KQ_A (KQ_A (KQ_A (KQ_A (KQ_A (hk)))))), st_nmb (KQ_N (KQ_A (KQ_A (KQ_A (KQ_A (KQ_A (hk)))))))]
  rfl
def bX0 (a : Nat) (O : List stp) : List stp := aN 8 (Int32.ofInt 0) a (aA 104 129 7 a (aA 104 129 6 a (aA 104 129 5 a (aA 101 129 4 a (aA 104 387 3 a (aA 104 128 2 a (aA 104 129 1 a (aO 10 7 0 bX5 a (O)))))))))
theorem KQ_bX0 {r c a : Nat} {O : List stp} (hk : KQ O r c) : KQ (bX0 a O) r c := KQ_N (KQ_A (KQ_A (KQ_A (KQ_A (KQ_A (KQ_A (KQ_A (KQ_O (fun h => KQ_bX5 h) (hk)))))))))
theorem i_X0 : ∀ (O : List stp) (a : Nat), KQ O a 5 → f_X0_init (N + a) (hp N O) = some ((), hp N (bX0 a O)) := by
  intro O a hk
  unfold f_X0_init
  rw [st_obj (B := bX5) i_X5 (fun h => KQ_bX5 h) (hk), grd_w cn_129, st_arr (m' := 129) (KQ_O (fun h => KQ_bX5 h) (hk)) tn_129, grd_w cn_128, st_arr (m' := 128) (KQ_A (KQ_O (fun h => KQ_bX5 h) (hk))) tn_128, grd_w cn_387, st_arr (m' := 387) (KQ_A (KQ_A (KQ_O (fun h => KQ_bX5 h) (hk)))) tn_387, st_arr (m' := 129) (KQ_A (KQ_A (KQ_A (KQ_O (fun h => KQ_bX5 h) (hk))))) tn_129, st_arr (m' := 129) (KQ_A (KQ_A (KQ_A (KQ_A (KQ_O (fun h => KQ_bX5 h) (hk)))))) tn_129, st_arr (m' := 129) (KQ_A (KQ_A (KQ_A (KQ_A (KQ_A (KQ_O (fun h => KQ_bX5 h) (hk))))))) tn_129, st_arr (m' := 129) (KQ_A (KQ_A (KQ_A (KQ_A (KQ_A (KQ_A (KQ_O (fun h => KQ_bX5 h) (hk)))))))) tn_129, st_nmb (KQ_A (KQ_A (KQ_A (KQ_A (KQ_A (KQ_A (KQ_A (KQ_O (fun h => KQ_bX5 h) (hk)))))))))]
  rfl
def bX7 (a : Nat) (O : List stp) : List stp := aN 5 (Int32.ofInt 0) a (aA 101 129 4 a (aA 104 387 3 a (aA 104 129 2 a (aA 104 129 1 a (aA 104 129 0 a (O))))))
theorem KQ_bX7 {r c a : Nat} {O : List stp} (hk : KQ O r c) : KQ (bX7 a O) r c := KQ_N (KQ_A (KQ_A (KQ_A (KQ_A (KQ_A (hk))))))
theorem i_X7 : ∀ (O : List stp) (a : Nat), KQ O a 12 → f_X7_init (N + a) (hp N O) = some ((), hp N (bX7 a O)) := by
  intro O a hk
  unfold f_X7_init
  rw [grd_w cn_129, st_arr (m' := 129) (hk) tn_129, st_arr (m' := 129) (KQ_A (hk)) tn_129, st_arr (m' := 129) (KQ_A (KQ_A (hk))) tn_129, grd_w cn_387, st_arr (m' := 387) (KQ_A (KQ_A (KQ_A (hk)))) tn_387, st_arr (m' := 129) (KQ_A (KQ_A (KQ_A (KQ_A (hk))))) tn_129, st_nmb (KQ_A (KQ_A (KQ_A (KQ_A (KQ_A (hk))))))]
  rfl
def bX3 (a : Nat) (O : List stp) : List stp := aN 4 (Int32.ofInt (-1)) a (aN 3 (Int32.ofInt 0) a (aA 104 16641 2 a (aA 104 16641 1 a (aA 101 16641 0 a (O)))))
theorem KQ_bX3 {r c a : Nat} {O : List stp} (hk : KQ O r c) : KQ (bX3 a O) r c := KQ_N (KQ_N (KQ_A (KQ_A (KQ_A (hk)))))
theorem i_X3 : ∀ (O : List stp) (a : Nat), KQ O a 8 → f_X3_init (N + a) (hp N O) = some ((), hp N (bX3 a O)) := by
  intro O a hk
  unfold f_X3_init
  rw [grd_w cn_16641, st_arr (m' := 16641) (hk) tn_16641, st_arr (m' := 16641) (KQ_A (hk)) tn_16641, st_arr (m' := 16641) (KQ_A (KQ_A (hk))) tn_16641, st_nmb (KQ_A (KQ_A (KQ_A (hk)))), st_nmb (KQ_N (KQ_A (KQ_A (KQ_A (hk)))))]
  rfl
def bX8 (a : Nat) (O : List stp) : List stp := aN 2 (Int32.ofInt 0) a (aN 1 (Int32.ofInt 0) a (aA 104 91 0 a (O)))
theorem KQ_bX8 {r c a : Nat} {O : List stp} (hk : KQ O r c) : KQ (bX8 a O) r c := KQ_N (KQ_N (KQ_A (hk)))
theorem i_X8 : ∀ (O : List stp) (a : Nat), KQ O a 13 → f_X8_init (N + a) (hp N O) = some ((), hp N (bX8 a O)) := by
  intro O a hk
  unfold f_X8_init
  rw [grd_w cn_91, st_arr (m' := 91) (hk) tn_91, st_nmb (KQ_A (hk)), st_nmb (KQ_N (KQ_A (hk)))]
  rfl
end STARTB
