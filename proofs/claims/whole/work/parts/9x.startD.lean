/-! the reference's object is made -/
def OY0 : List stp := (0, 17, 50, 0) :: OX
theorem h_OY0 : KQ OY0 97 17 := ⟨by decide +kernel, by decide +kernel⟩
def OY1 : List stp := aA 104 248 1 97 OY0
theorem h_OY1 : KQ OY1 97 17 := KQ_A h_OY0
def OY2 : List stp := aA 104 1984 2 97 OY1
theorem h_OY2 : KQ OY2 97 17 := KQ_A h_OY1
def OY3 : List stp := aA 104 248 3 97 OY2
theorem h_OY3 : KQ OY3 97 17 := KQ_A h_OY2
def OY4 : List stp := aA 104 248 4 97 OY3
theorem h_OY4 : KQ OY4 97 17 := KQ_A h_OY3
def OY5 : List stp := aA 104 130 8 97 OY4
theorem h_OY5 : KQ OY5 97 17 := KQ_A h_OY4
def OY6 : List stp := aA 103 60 10 97 OY5
theorem h_OY6 : KQ OY6 97 17 := KQ_A h_OY5
def OY7 : List stp := aN 13 (Int32.ofInt (-1)) 97 OY6
theorem h_OY7 : KQ OY7 97 17 := KQ_N h_OY6
def OY8 : List stp := aN 14 (Int32.ofInt (-1)) 97 OY7
theorem h_OY8 : KQ OY8 97 17 := KQ_N h_OY7
def OY9 : List stp := aA 104 80 15 97 OY8
theorem h_OY9 : KQ OY9 97 17 := KQ_A h_OY8
def OY10 : List stp := aA 104 60 18 97 OY9
theorem h_OY10 : KQ OY10 97 17 := KQ_A h_OY9
def OY11 : List stp := aA 104 774 20 97 OY10
theorem h_OY11 : KQ OY11 97 17 := KQ_A h_OY10
def OY12 : List stp := aA 104 14 21 97 OY11
theorem h_OY12 : KQ OY12 97 17 := KQ_A h_OY11
def OY13 : List stp := aA 104 6 22 97 OY12
theorem h_OY13 : KQ OY13 97 17 := KQ_A h_OY12
def OY14 : List stp := aA 104 2 23 97 OY13
theorem h_OY14 : KQ OY14 97 17 := KQ_A h_OY13
def OY15 : List stp := aA 104 2 24 97 OY14
theorem h_OY15 : KQ OY15 97 17 := KQ_A h_OY14
def OY16 : List stp := aA 104 2 25 97 OY15
theorem h_OY16 : KQ OY16 97 17 := KQ_A h_OY15
def OY17 : List stp := aA 104 8 26 97 OY16
theorem h_OY17 : KQ OY17 97 17 := KQ_A h_OY16
def OY18 : List stp := aA 104 8 27 97 OY17
theorem h_OY18 : KQ OY18 97 17 := KQ_A h_OY17
def OY19 : List stp := aA 104 8 28 97 OY18
theorem h_OY19 : KQ OY19 97 17 := KQ_A h_OY18
def OY20 : List stp := aA 104 258 30 97 OY19
theorem h_OY20 : KQ OY20 97 17 := KQ_A h_OY19
def OY21 : List stp := aA 104 258 31 97 OY20
theorem h_OY21 : KQ OY21 97 17 := KQ_A h_OY20
def OY22 : List stp := aA 104 2 32 97 OY21
theorem h_OY22 : KQ OY22 97 17 := KQ_A h_OY21
def OY23 : List stp := aA 104 129 33 97 OY22
theorem h_OY23 : KQ OY23 97 17 := KQ_A h_OY22
def OY24 : List stp := aA 104 129 34 97 OY23
theorem h_OY24 : KQ OY24 97 17 := KQ_A h_OY23
def OY25 : List stp := aA 104 129 35 97 OY24
theorem h_OY25 : KQ OY25 97 17 := KQ_A h_OY24
def OY26 : List stp := aA 104 645 37 97 OY25
theorem h_OY26 : KQ OY26 97 17 := KQ_A h_OY25
def OY27 : List stp := aA 104 645 38 97 OY26
theorem h_OY27 : KQ OY27 97 17 := KQ_A h_OY26
def OY28 : List stp := aA 104 645 39 97 OY27
theorem h_OY28 : KQ OY28 97 17 := KQ_A h_OY27
def OY29 : List stp := aA 104 129 40 97 OY28
theorem h_OY29 : KQ OY29 97 17 := KQ_A h_OY28
def OY30 : List stp := aA 104 129 41 97 OY29
theorem h_OY30 : KQ OY30 97 17 := KQ_A h_OY29
def OY31 : List stp := aA 104 6 42 97 OY30
theorem h_OY31 : KQ OY31 97 17 := KQ_A h_OY30
def OY32 : List stp := aA 103 120 43 97 OY31
theorem h_OY32 : KQ OY32 97 17 := KQ_A h_OY31
def OY33 : List stp := aA 104 8 45 97 OY32
theorem h_OY33 : KQ OY33 97 17 := KQ_A h_OY32
def OY34 : List stp := aA 104 8 46 97 OY33
theorem h_OY34 : KQ OY34 97 17 := KQ_A h_OY33
def OY35 : List stp := aA 104 3 47 97 OY34
theorem h_OY35 : KQ OY35 97 17 := KQ_A h_OY34
section STARTD
variable {N : Nat}
theorem i_X12 : f_X12_init (N + 97) (hp N OY0) = some ((), hp N OY35) := by
  unfold f_X12_init
  rw [grd_w cn_248]
  rw [st_arr (m' := 248) h_OY0 tn_248, show hp N (aA 104 248 1 97 OY0) = hp N OY1 from rfl]
  rw [grd_w cn_1984]
  rw [st_arr (m' := 1984) h_OY1 tn_1984, show hp N (aA 104 1984 2 97 OY1) = hp N OY2 from rfl]
  rw [st_arr (m' := 248) h_OY2 tn_248, show hp N (aA 104 248 3 97 OY2) = hp N OY3 from rfl]
  rw [st_arr (m' := 248) h_OY3 tn_248, show hp N (aA 104 248 4 97 OY3) = hp N OY4 from rfl]
  rw [grd_w cn_130]
  rw [st_arr (m' := 130) h_OY4 tn_130, show hp N (aA 104 130 8 97 OY4) = hp N OY5 from rfl]
  rw [grd_w cn_60]
  rw [st_arr (m' := 60) h_OY5 tn_60, show hp N (aA 103 60 10 97 OY5) = hp N OY6 from rfl]
  rw [st_nmb h_OY6, show hp N (aN 13 (Int32.ofInt (-1)) 97 OY6) = hp N OY7 from rfl]
  rw [st_nmb h_OY7, show hp N (aN 14 (Int32.ofInt (-1)) 97 OY7) = hp N OY8 from rfl]
  rw [grd_w cn_80]
  rw [st_arr (m' := 80) h_OY8 tn_80, show hp N (aA 104 80 15 97 OY8) = hp N OY9 from rfl]
  rw [st_arr (m' := 60) h_OY9 tn_60, show hp N (aA 104 60 18 97 OY9) = hp N OY10 from rfl]
  rw [grd_w cn_774]
  rw [st_arr (m' := 774) h_OY10 tn_774, show hp N (aA 104 774 20 97 OY10) = hp N OY11 from rfl]
  rw [grd_w cn_14]
  rw [st_arr (m' := 14) h_OY11 tn_14, show hp N (aA 104 14 21 97 OY11) = hp N OY12 from rfl]
  rw [grd_w cn_6]
  rw [st_arr (m' := 6) h_OY12 tn_6, show hp N (aA 104 6 22 97 OY12) = hp N OY13 from rfl]
  rw [grd_w cn_2]
  rw [st_arr (m' := 2) h_OY13 tn_2, show hp N (aA 104 2 23 97 OY13) = hp N OY14 from rfl]
  rw [st_arr (m' := 2) h_OY14 tn_2, show hp N (aA 104 2 24 97 OY14) = hp N OY15 from rfl]
  rw [st_arr (m' := 2) h_OY15 tn_2, show hp N (aA 104 2 25 97 OY15) = hp N OY16 from rfl]
  rw [grd_w cn_8]
  rw [st_arr (m' := 8) h_OY16 tn_8, show hp N (aA 104 8 26 97 OY16) = hp N OY17 from rfl]
  rw [st_arr (m' := 8) h_OY17 tn_8, show hp N (aA 104 8 27 97 OY17) = hp N OY18 from rfl]
  rw [st_arr (m' := 8) h_OY18 tn_8, show hp N (aA 104 8 28 97 OY18) = hp N OY19 from rfl]
  rw [grd_w cn_258]
  rw [st_arr (m' := 258) h_OY19 tn_258, show hp N (aA 104 258 30 97 OY19) = hp N OY20 from rfl]
  rw [st_arr (m' := 258) h_OY20 tn_258, show hp N (aA 104 258 31 97 OY20) = hp N OY21 from rfl]
  rw [st_arr (m' := 2) h_OY21 tn_2, show hp N (aA 104 2 32 97 OY21) = hp N OY22 from rfl]
  rw [grd_w cn_129]
  rw [st_arr (m' := 129) h_OY22 tn_129, show hp N (aA 104 129 33 97 OY22) = hp N OY23 from rfl]
  rw [st_arr (m' := 129) h_OY23 tn_129, show hp N (aA 104 129 34 97 OY23) = hp N OY24 from rfl]
  rw [st_arr (m' := 129) h_OY24 tn_129, show hp N (aA 104 129 35 97 OY24) = hp N OY25 from rfl]
  rw [grd_w cn_645]
  rw [st_arr (m' := 645) h_OY25 tn_645, show hp N (aA 104 645 37 97 OY25) = hp N OY26 from rfl]
  rw [st_arr (m' := 645) h_OY26 tn_645, show hp N (aA 104 645 38 97 OY26) = hp N OY27 from rfl]
  rw [st_arr (m' := 645) h_OY27 tn_645, show hp N (aA 104 645 39 97 OY27) = hp N OY28 from rfl]
  rw [st_arr (m' := 129) h_OY28 tn_129, show hp N (aA 104 129 40 97 OY28) = hp N OY29 from rfl]
  rw [st_arr (m' := 129) h_OY29 tn_129, show hp N (aA 104 129 41 97 OY29) = hp N OY30 from rfl]
  rw [st_arr (m' := 6) h_OY30 tn_6, show hp N (aA 104 6 42 97 OY30) = hp N OY31 from rfl]
  rw [grd_w cn_120]
  rw [st_arr (m' := 120) h_OY31 tn_120, show hp N (aA 103 120 43 97 OY31) = hp N OY32 from rfl]
  rw [st_arr (m' := 8) h_OY32 tn_8, show hp N (aA 104 8 45 97 OY32) = hp N OY33 from rfl]
  rw [st_arr (m' := 8) h_OY33 tn_8, show hp N (aA 104 8 46 97 OY33) = hp N OY34 from rfl]
  rw [grd_w cn_3]
  rw [st_arr (m' := 3) h_OY34 tn_3, show hp N (aA 104 3 47 97 OY34) = hp N OY35 from rfl]
end STARTD
def OM : List stp := OY35
def OF : List stp := (0, 106, 1, 0) :: (0, 105, 1, 0) :: OM
