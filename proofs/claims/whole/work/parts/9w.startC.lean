/-! the class's object is made -/
def bJ4 (a : Nat) (O : List stp) : List stp := aN 1 (Int32.ofInt 0) a (aA 102 16 0 a O)
theorem KQ_bJ4 {r c a : Nat} {O : List stp} (hk : KQ O r c) : KQ (bJ4 a O) r c := KQ_N (KQ_A hk)
theorem cn_16 : cnt (Int32.ofInt 16) 255 := by
  unfold cnt
  decide +kernel
theorem tn_16 : (Int32.ofInt 16).toNatClampNeg = 16 := by decide +kernel
theorem orf_w {α β : Type} (a : α) (f : α → Option β) : orf (some a) f = f a := rfl
def O0 : List stp := [(0, 16, 17, 0)]
def OX1 : List stp := aO 11 4 0 bX6 0 O0
def OX2 : List stp := aO 11 4 1 bX6 0 OX1
def HS0 : List stp := aN 2 (Int32.ofInt 0) 7 (aN 1 (Int32.ofInt 0) 7 (aA 112 9 0 7 ((0, 6, 3, 0) :: OX2)))
def hs : Nat → List stp
  | 0 => HS0
  | k + 1 => (nO (hs k) + 2, 8, k, 0) :: bX6 (nO (hs k)) ((0, 11, 4, 0) :: hs k)
def OX3 : List stp := (9, 0, 2, 0) :: hs 9
def OX4 : List stp := aO 14 7 3 bX9 0 OX3
def OX5 : List stp := aO 7 4 4 bX2 0 OX4
def OX6 : List stp := aO 2 4 5 bJ4 0 OX5
def OX7 : List stp := aO 10 7 6 bX5 0 OX6
def OX8 : List stp := aO 5 9 7 bX0 0 OX7
def OX9 : List stp := aO 5 9 8 bX0 0 OX8
def OX10 : List stp := aO 12 6 9 bX7 0 OX9
def OX11 : List stp := aO 12 6 10 bX7 0 OX10
def OX12 : List stp := aO 8 5 11 bX3 0 OX11
def OX13 : List stp := aO 13 3 12 bX8 0 OX12
def OXA : List stp := aA 104 6 13 0 OX13
def OX : List stp := aN 16 (Int32.ofInt (-1)) 0 (aN 15 (Int32.ofInt (-1)) 0 (aN 14 (Int32.ofInt 0) 0 OXA))
theorem h_O0 : KQ O0 0 16 := ⟨rfl, by decide⟩
theorem h_OX1 : KQ OX1 0 16 := KQ_O (fun h => KQ_bX6 h) h_O0
theorem h_OX2 : KQ OX2 0 16 := KQ_O (fun h => KQ_bX6 h) h_OX1
theorem h_OX3 : KQ OX3 0 16 := ⟨by decide +kernel, by decide +kernel⟩
theorem h_OX4 : KQ OX4 0 16 := KQ_O (fun h => KQ_bX9 h) h_OX3
theorem h_OX5 : KQ OX5 0 16 := KQ_O (fun h => KQ_bX2 h) h_OX4
theorem h_OX6 : KQ OX6 0 16 := KQ_O (fun h => KQ_bJ4 h) h_OX5
theorem h_OX7 : KQ OX7 0 16 := KQ_O (fun h => KQ_bX5 h) h_OX6
theorem h_OX8 : KQ OX8 0 16 := KQ_O (fun h => KQ_bX0 h) h_OX7
theorem h_OX9 : KQ OX9 0 16 := KQ_O (fun h => KQ_bX0 h) h_OX8
theorem h_OX10 : KQ OX10 0 16 := KQ_O (fun h => KQ_bX7 h) h_OX9
theorem h_OX11 : KQ OX11 0 16 := KQ_O (fun h => KQ_bX7 h) h_OX10
theorem h_OX12 : KQ OX12 0 16 := KQ_O (fun h => KQ_bX3 h) h_OX11
theorem h_OX13 : KQ OX13 0 16 := KQ_O (fun h => KQ_bX8 h) h_OX12
theorem h_OXA : KQ OXA 0 16 := KQ_A h_OX13
section STARTC
variable {N : Nat}
theorem i_J4 : ∀ (O : List stp) (a : Nat), KQ O a 2 → f_J4_init_da8c8 (N + a) (hp N O) = some ((), hp N (bJ4 a O)) := by
  intro O a hk
  have e : f_J5_init_d00df (N + a) (Int32.ofInt 16) (hp N O) = some ((), hp N (bJ4 a O)) := by
    unfold f_J5_init_d00df g_J5_init_d00df_38
    rw [if_neg (by decide), grd_w cn_16, st_arr (m' := 16) hk tn_16, grd_w (by rw [hp_kd]; exact (KQ_A hk).1), grd_w (by decide +kernel), grd_w (by decide +kernel), bnd_w, hp_si]
    rfl
  unfold f_J4_init_da8c8
  rw [cal_w e]
theorem hs_f : ∀ k, k < 9 → kO (hs k) 7 = 6 ∧ rO (hs k) 7 0 = some 8 ∧ kO (bX6 (nO (hs k)) ((0, 11, 4, 0) :: hs k)) 8 = 112 ∧ zO (bX6 (nO (hs k)) ((0, 11, 4, 0) :: hs k)) 8 = 9 ∧ kO (bX6 (nO (hs k)) ((0, 11, 4, 0) :: hs k)) (nO (hs k)) = 11 := by decide +kernel
theorem hs_st {k : Nat} (hk : k < 9) : b_X1_init_25 (N + 7) (nI k, hp N (hs k)) = some (.inl (nI (k + 1), hp N (hs (k + 1))), 3, 18) := by
  obtain ⟨f1, f2, f3, f4, f5⟩ := hs_f k hk
  unfold b_X1_init_25 b0_X1_init_25
  dsimp only
  rw [if_neg (show ¬ Int32.ofInt 9 ≤ nI k by
    rw [show Int32.ofInt 9 = nI 9 from rfl, n_le (by decide) (by omega)]
    omega), grd_w (by rw [hp_kd]; exact f1), hp_gr, f2]
  show orf (some (N + 8)) _ = _
  rw [orf_w, bnd_w, bnd_w, hp_al, hp_nx, cal_w (i_X6 _ _ KQ_n), grd_w (by rw [hp_kd]; exact f3), grd_w (by rw [hp_sz, f4, n_inb (by omega)]; exact hk), grd_w (by rw [hp_kd]; exact f5), bnd_w, n_cl (by omega), hp_sr, bnd_w, show nI k + Int32.ofInt 1 = nI (k + 1) from n_add k 1]
  rfl
theorem hs_lp : ∀ (d k L : Nat), k + d = 9 → d < L → lpC (b_X1_init_25 (N + 7)) L (nI k, hp N (hs k)) = some (((), hp N (hs 9)), 3 * d, 18 * d)
  | 0, k, L + 1, h, _ => by
    have hk : k = 9 := by omega
    rw [hk, lpC_en (r := ((), hp N (hs 9))) (c := 0) (m := 0)]
    unfold b_X1_init_25 b0_X1_init_25
    rw [if_pos (show Int32.ofInt 9 ≤ nI 9 by decide +kernel)]
  | d + 1, k, L + 1, h, hl => by
    rw [lpC_nx (hs_st (by omega)), hs_lp d (k + 1) L (by omega) (by omega)]
    rfl
theorem i_X1 : f_X1_init (N + 7) (hp N ((0, 6, 3, 0) :: OX2)) = some (((), hp N (hs 9)), 28, 171) := by
  have h7 : KQ ((0, 6, 3, 0) :: OX2) 7 6 := ⟨by decide +kernel, by decide +kernel⟩
  unfold f_X1_init
  rw [grd_w cn_9, st_arr (m' := 9) h7 tn_9, st_nmb (KQ_A h7), st_nmb (KQ_N (KQ_A h7))]
  have e := hs_lp (N := N) 9 0 100000 rfl (by decide)
  have e : g_X1_init_25 (N + 7) (Int32.ofInt 0) (hp N HS0) = some (((), hp N (hs 9)), 27, 162) := e
  show adc 1 9 (g_X1_init_25 (N + 7) (Int32.ofInt 0) (hp N HS0)) = _
  rw [e]
  rfl
theorem i_X11 : f_X11_init (N + 0) (hp N O0) = some ((), hp N OX) := by
  unfold f_X11_init
  rw [st_obj (B := bX6) i_X6 (fun h => KQ_bX6 h) h_O0, show hp N (aO 11 4 0 bX6 0 O0) = hp N OX1 from rfl]
  rw [st_obj (B := bX6) i_X6 (fun h => KQ_bX6 h) h_OX1, show hp N (aO 11 4 1 bX6 0 OX1) = hp N OX2 from rfl]
  have n7 : nO OX2 = 7 := by decide +kernel
  rw [bnd_w, bnd_w, hp_al, hp_nx, n7, show calC (f_X1_init (N + 7) (hp N ((0, 6, 3, 0) :: OX2))) = calC (some (((), hp N (hs 9)), 28, 171)) from by rw [i_X1]]
  show grd (28 ≤ 40 ∧ 171 ≤ 400) _ = _
  rw [grd_w (by decide), grd_w (by rw [hp_kd]; decide +kernel), bnd_w, hp_sr, show hp N ((7 + 2, 0, 2, 0) :: hs 9) = hp N OX3 from rfl]
  rw [st_obj (B := bX9) i_X9 (fun h => KQ_bX9 h) h_OX3, show hp N (aO 14 7 3 bX9 0 OX3) = hp N OX4 from rfl]
  rw [st_obj (B := bX2) i_X2 (fun h => KQ_bX2 h) h_OX4, show hp N (aO 7 4 4 bX2 0 OX4) = hp N OX5 from rfl]
  rw [st_obj (B := bJ4) i_J4 (fun h => KQ_bJ4 h) h_OX5, show hp N (aO 2 4 5 bJ4 0 OX5) = hp N OX6 from rfl]
  rw [st_obj (B := bX5) i_X5 (fun h => KQ_bX5 h) h_OX6, show hp N (aO 10 7 6 bX5 0 OX6) = hp N OX7 from rfl]
  rw [st_obj (B := bX0) i_X0 (fun h => KQ_bX0 h) h_OX7, show hp N (aO 5 9 7 bX0 0 OX7) = hp N OX8 from rfl]
  rw [st_obj (B := bX0) i_X0 (fun h => KQ_bX0 h) h_OX8, show hp N (aO 5 9 8 bX0 0 OX8) = hp N OX9 from rfl]
  rw [st_obj (B := bX7) i_X7 (fun h => KQ_bX7 h) h_OX9, show hp N (aO 12 6 9 bX7 0 OX9) = hp N OX10 from rfl]
  rw [st_obj (B := bX7) i_X7 (fun h => KQ_bX7 h) h_OX10, show hp N (aO 12 6 10 bX7 0 OX10) = hp N OX11 from rfl]
  rw [st_obj (B := bX3) i_X3 (fun h => KQ_bX3 h) h_OX11, show hp N (aO 8 5 11 bX3 0 OX11) = hp N OX12 from rfl]
  rw [st_obj (B := bX8) i_X8 (fun h => KQ_bX8 h) h_OX12, show hp N (aO 13 3 12 bX8 0 OX12) = hp N OX13 from rfl]
  rw [grd_w cn_6, st_arr (m' := 6) h_OX13 tn_6, show hp N (aA 104 6 13 0 OX13) = hp N OXA from rfl, st_nmb h_OXA, st_nmb (KQ_N h_OXA), st_nmb (KQ_N (KQ_N h_OXA))]
  rfl
end STARTC
