section ROWS
variable {l : Launch} {G : mG} {M : mMI} {d mc ms pc : Nat} {ls : List (Option Value)} {st : List Value} {h : mH} {Q : Option Value → mH → Prop} {X : String → mH → Prop}
theorem q_iconst {n : Int} (hd : decode M.2.1 pc = .ok (.iconst n, 1)) (kk : mW l G M d mc ms (pc + 1) ls (.int (Int32.ofInt n) :: st) h Q X) : mW l G M d mc ms pc ls (st) h Q X := by
  intro p e R s m args below meth c A H locs cells slots mct mst lm C hr hR hS hl
  exact lv_iconst C.1 C.2.1 hd rfl (kk p e R s m args below meth c A H locs cells slots mct mst lm C hr hR hS hl)
theorem q_bipush {n : Int} {v : Int32} (hd : decode M.2.1 pc = .ok (.bipush n, 2)) (hv : (Int8.ofInt n).toInt32 = v) (kk : mW l G M d mc ms (pc + 2) ls (.int v :: st) h Q X) : mW l G M d mc ms pc ls (st) h Q X := by
  intro p e R s m args below meth c A H locs cells slots mct mst lm C hr hR hS hl
  exact lv_bipush C.1 C.2.1 hd hv (kk p e R s m args below meth c A H locs cells slots mct mst lm C hr hR hS hl)
theorem q_sipush {n : Int} {v : Int32} (hd : decode M.2.1 pc = .ok (.sipush n, 3)) (hv : (Int16.ofInt n).toInt32 = v) (kk : mW l G M d mc ms (pc + 3) ls (.int v :: st) h Q X) : mW l G M d mc ms pc ls (st) h Q X := by
  intro p e R s m args below meth c A H locs cells slots mct mst lm C hr hR hS hl
  exact lv_sipush C.1 C.2.1 hd hv (kk p e R s m args below meth c A H locs cells slots mct mst lm C hr hR hS hl)
theorem q_lconst {n : Fin 2} (hd : decode M.2.1 pc = .ok (.lconst n, 1)) (kk : mW l G M d mc ms (pc + 1) ls (.long (Int64.ofNat (n : Nat)) :: st) h Q X) : mW l G M d mc ms pc ls (st) h Q X := by
  intro p e R s m args below meth c A H locs cells slots mct mst lm C hr hR hS hl
  exact lv_lconst C.1 C.2.1 hd rfl (kk p e R s m args below meth c A H locs cells slots mct mst lm C hr hR hS hl)
theorem q_null (hd : decode M.2.1 pc = .ok (.aconst_null, 1)) (kk : mW l G M d mc ms (pc + 1) ls (.null :: st) h Q X) : mW l G M d mc ms pc ls (st) h Q X := by
  intro p e R s m args below meth c A H locs cells slots mct mst lm C hr hR hS hl
  exact lv_null C.1 C.2.1 hd (kk p e R s m args below meth c A H locs cells slots mct mst lm C hr hR hS hl)
theorem q_ldc {ix : Nat} {v : Int32} (hc : Cond.constant M.1.cls ix v ∈ GT) (hd : decode M.2.1 pc = .ok (.ldc ix, 2)) (kk : mW l G M d mc ms (pc + 2) ls (.int v :: st) h Q X) : mW l G M d mc ms pc ls (st) h Q X := by
  intro p e R s m args below meth c A H locs cells slots mct mst lm C hr hR hS hl
  exact lv_ldc C.1 C.2.1 C.2.2.2.2.1 (C.2.2.2.2.2.1 _ hc) hd (kk p e R s m args below meth c A H locs cells slots mct mst lm C hr hR hS hl)
theorem q_ldcw {ix : Nat} {v : Int32} (hc : Cond.constant M.1.cls ix v ∈ GT) (hd : decode M.2.1 pc = .ok (.ldc_w ix, 3)) (kk : mW l G M d mc ms (pc + 3) ls (.int v :: st) h Q X) : mW l G M d mc ms pc ls (st) h Q X := by
  intro p e R s m args below meth c A H locs cells slots mct mst lm C hr hR hS hl
  exact lv_ldcw C.1 C.2.1 C.2.2.2.2.1 (C.2.2.2.2.2.1 _ hc) hd (kk p e R s m args below meth c A H locs cells slots mct mst lm C hr hR hS hl)
theorem q_iload_n {k : Fin 4} {x : Int32} (hd : decode M.2.1 pc = .ok (.iload_n k, 1)) (hi : ls[(k : Nat)]? = some (some (.int x))) (kk : mW l G M d mc ms (pc + 1) ls (.int x :: st) h Q X) : mW l G M d mc ms pc ls (st) h Q X := by
  intro p e R s m args below meth c A H locs cells slots mct mst lm C hr hR hS hl
  exact lv_iload_n C.1 C.2.1 hd rfl (hl.2.2 _ _ hi).1 (kk p e R s m args below meth c A H locs cells slots mct mst lm C hr hR hS hl)
theorem q_iload {i : Nat} {x : Int32} (hd : decode M.2.1 pc = .ok (.iload i, 2)) (hi : ls[i]? = some (some (.int x))) (kk : mW l G M d mc ms (pc + 2) ls (.int x :: st) h Q X) : mW l G M d mc ms pc ls (st) h Q X := by
  intro p e R s m args below meth c A H locs cells slots mct mst lm C hr hR hS hl
  exact lv_iload C.1 C.2.1 hd (hl.2.2 _ _ hi).1 (kk p e R s m args below meth c A H locs cells slots mct mst lm C hr hR hS hl)
theorem q_aload_n {k : Fin 4} {x : Nat} (hd : decode M.2.1 pc = .ok (.aload_n k, 1)) (hi : ls[(k : Nat)]? = some (some (.ref x))) (kk : mW l G M d mc ms (pc + 1) ls (.ref x :: st) h Q X) : mW l G M d mc ms pc ls (st) h Q X := by
  intro p e R s m args below meth c A H locs cells slots mct mst lm C hr hR hS hl
  exact lv_aload_n C.1 C.2.1 hd rfl (hl.2.2 _ _ hi).1 (kk p e R s m args below meth c A H locs cells slots mct mst lm C hr hR hS hl)
theorem q_aload {i : Nat} {x : Nat} (hd : decode M.2.1 pc = .ok (.aload i, 2)) (hi : ls[i]? = some (some (.ref x))) (kk : mW l G M d mc ms (pc + 2) ls (.ref x :: st) h Q X) : mW l G M d mc ms pc ls (st) h Q X := by
  intro p e R s m args below meth c A H locs cells slots mct mst lm C hr hR hS hl
  exact lv_aload C.1 C.2.1 hd (hl.2.2 _ _ hi).1 (kk p e R s m args below meth c A H locs cells slots mct mst lm C hr hR hS hl)
theorem q_aload_nN {k : Fin 4} (hd : decode M.2.1 pc = .ok (.aload_n k, 1)) (hi : ls[(k : Nat)]? = some (some .null)) (kk : mW l G M d mc ms (pc + 1) ls (.null :: st) h Q X) : mW l G M d mc ms pc ls (st) h Q X := by
  intro p e R s m args below meth c A H locs cells slots mct mst lm C hr hR hS hl
  exact lv_aload_nN C.1 C.2.1 hd rfl (hl.2.2 _ _ hi).1 (kk p e R s m args below meth c A H locs cells slots mct mst lm C hr hR hS hl)
theorem q_aloadN {i : Nat} (hd : decode M.2.1 pc = .ok (.aload i, 2)) (hi : ls[i]? = some (some .null)) (kk : mW l G M d mc ms (pc + 2) ls (.null :: st) h Q X) : mW l G M d mc ms pc ls (st) h Q X := by
  intro p e R s m args below meth c A H locs cells slots mct mst lm C hr hR hS hl
  exact lv_aloadN C.1 C.2.1 hd (hl.2.2 _ _ hi).1 (kk p e R s m args below meth c A H locs cells slots mct mst lm C hr hR hS hl)
theorem q_iadd {x y : Int32} (hd : decode M.2.1 pc = .ok (.iadd, 1)) (kk : mW l G M d mc ms (pc + 1) ls (.int (x + y) :: st) h Q X) : mW l G M d mc ms pc ls (.int y :: .int x :: st) h Q X := by
  intro p e R s m args below meth c A H locs cells slots mct mst lm C hr hR hS hl
  exact lv_iadd C.1 C.2.1 hd (kk p e R s m args below meth c A H locs cells slots mct mst lm C hr hR hS hl)
theorem q_isub {x y : Int32} (hd : decode M.2.1 pc = .ok (.isub, 1)) (kk : mW l G M d mc ms (pc + 1) ls (.int (x - y) :: st) h Q X) : mW l G M d mc ms pc ls (.int y :: .int x :: st) h Q X := by
  intro p e R s m args below meth c A H locs cells slots mct mst lm C hr hR hS hl
  exact lv_isub C.1 C.2.1 hd (kk p e R s m args below meth c A H locs cells slots mct mst lm C hr hR hS hl)
theorem q_imul {x y : Int32} (hd : decode M.2.1 pc = .ok (.imul, 1)) (kk : mW l G M d mc ms (pc + 1) ls (.int (x * y) :: st) h Q X) : mW l G M d mc ms pc ls (.int y :: .int x :: st) h Q X := by
  intro p e R s m args below meth c A H locs cells slots mct mst lm C hr hR hS hl
  exact lv_imul C.1 C.2.1 hd (kk p e R s m args below meth c A H locs cells slots mct mst lm C hr hR hS hl)
theorem q_iand {x y : Int32} (hd : decode M.2.1 pc = .ok (.iand, 1)) (kk : mW l G M d mc ms (pc + 1) ls (.int (x &&& y) :: st) h Q X) : mW l G M d mc ms pc ls (.int y :: .int x :: st) h Q X := by
  intro p e R s m args below meth c A H locs cells slots mct mst lm C hr hR hS hl
  exact lv_iand C.1 C.2.1 hd (kk p e R s m args below meth c A H locs cells slots mct mst lm C hr hR hS hl)
theorem q_ior {x y : Int32} (hd : decode M.2.1 pc = .ok (.ior, 1)) (kk : mW l G M d mc ms (pc + 1) ls (.int (x ||| y) :: st) h Q X) : mW l G M d mc ms pc ls (.int y :: .int x :: st) h Q X := by
  intro p e R s m args below meth c A H locs cells slots mct mst lm C hr hR hS hl
  exact lv_ior C.1 C.2.1 hd (kk p e R s m args below meth c A H locs cells slots mct mst lm C hr hR hS hl)
theorem q_ixor {x y : Int32} (hd : decode M.2.1 pc = .ok (.ixor, 1)) (kk : mW l G M d mc ms (pc + 1) ls (.int (x ^^^ y) :: st) h Q X) : mW l G M d mc ms pc ls (.int y :: .int x :: st) h Q X := by
  intro p e R s m args below meth c A H locs cells slots mct mst lm C hr hR hS hl
  exact lv_ixor C.1 C.2.1 hd (kk p e R s m args below meth c A H locs cells slots mct mst lm C hr hR hS hl)
theorem q_ishl {x y : Int32} (hd : decode M.2.1 pc = .ok (.ishl, 1)) (kk : mW l G M d mc ms (pc + 1) ls (.int (x <<< (y &&& 31)) :: st) h Q X) : mW l G M d mc ms pc ls (.int y :: .int x :: st) h Q X := by
  intro p e R s m args below meth c A H locs cells slots mct mst lm C hr hR hS hl
  exact lv_ishl C.1 C.2.1 hd (kk p e R s m args below meth c A H locs cells slots mct mst lm C hr hR hS hl)
theorem q_ishr {x y : Int32} (hd : decode M.2.1 pc = .ok (.ishr, 1)) (kk : mW l G M d mc ms (pc + 1) ls (.int (x >>> (y &&& 31)) :: st) h Q X) : mW l G M d mc ms pc ls (.int y :: .int x :: st) h Q X := by
  intro p e R s m args below meth c A H locs cells slots mct mst lm C hr hR hS hl
  exact lv_ishr C.1 C.2.1 hd (kk p e R s m args below meth c A H locs cells slots mct mst lm C hr hR hS hl)
theorem q_idiv {x y : Int32} (hne : ¬ y = 0) (hd : decode M.2.1 pc = .ok (.idiv, 1)) (kk : mW l G M d mc ms (pc + 1) ls (.int (x / y) :: st) h Q X) : mW l G M d mc ms pc ls (.int y :: .int x :: st) h Q X := by
  intro p e R s m args below meth c A H locs cells slots mct mst lm C hr hR hS hl
  exact lv_idiv C.1 C.2.1 hd hne (kk p e R s m args below meth c A H locs cells slots mct mst lm C hr hR hS hl)
theorem q_irem {x y : Int32} (hne : ¬ y = 0) (hd : decode M.2.1 pc = .ok (.irem, 1)) (kk : mW l G M d mc ms (pc + 1) ls (.int (x - x / y * y) :: st) h Q X) : mW l G M d mc ms pc ls (.int y :: .int x :: st) h Q X := by
  intro p e R s m args below meth c A H locs cells slots mct mst lm C hr hR hS hl
  exact lv_irem C.1 C.2.1 hd hne (kk p e R s m args below meth c A H locs cells slots mct mst lm C hr hR hS hl)
theorem q_i2l {x : Int32} (hd : decode M.2.1 pc = .ok (.i2l, 1)) (kk : mW l G M d mc ms (pc + 1) ls (.long x.toInt64 :: st) h Q X) : mW l G M d mc ms pc ls (.int x :: st) h Q X := by
  intro p e R s m args below meth c A H locs cells slots mct mst lm C hr hR hS hl
  exact lv_i2l C.1 C.2.1 hd rfl (kk p e R s m args below meth c A H locs cells slots mct mst lm C hr hR hS hl)
theorem q_i2c {x : Int32} (hd : decode M.2.1 pc = .ok (.i2c, 1)) (kk : mW l G M d mc ms (pc + 1) ls (.int (x.toUInt32 % 65536).toInt32 :: st) h Q X) : mW l G M d mc ms pc ls (.int x :: st) h Q X := by
  intro p e R s m args below meth c A H locs cells slots mct mst lm C hr hR hS hl
  exact lv_i2c C.1 C.2.1 hd rfl (kk p e R s m args below meth c A H locs cells slots mct mst lm C hr hR hS hl)
theorem q_i2f {x : Int32} (hd : decode M.2.1 pc = .ok (.i2f, 1)) (kk : mW l G M d mc ms (pc + 1) ls (.float (FP.i2f x) :: st) h Q X) : mW l G M d mc ms pc ls (.int x :: st) h Q X := by
  intro p e R s m args below meth c A H locs cells slots mct mst lm C hr hR hS hl
  exact lv_i2f C.1 C.2.1 hd (kk p e R s m args below meth c A H locs cells slots mct mst lm C hr hR hS hl)
theorem q_i2d {x : Int32} (hd : decode M.2.1 pc = .ok (.i2d, 1)) (kk : mW l G M d mc ms (pc + 1) ls (.double (FP.i2d x) :: st) h Q X) : mW l G M d mc ms pc ls (.int x :: st) h Q X := by
  intro p e R s m args below meth c A H locs cells slots mct mst lm C hr hR hS hl
  exact lv_i2d C.1 C.2.1 hd (kk p e R s m args below meth c A H locs cells slots mct mst lm C hr hR hS hl)
theorem q_f2d {x : UInt32} (hne : vf_n64 (FP.f2d x)) (hd : decode M.2.1 pc = .ok (.f2d, 1)) (kk : mW l G M d mc ms (pc + 1) ls (.double (FP.f2d x) :: st) h Q X) : mW l G M d mc ms pc ls (.float x :: st) h Q X := by
  intro p e R s m args below meth c A H locs cells slots mct mst lm C hr hR hS hl
  exact lv_f2d C.1 C.2.1 hd hne (kk p e R s m args below meth c A H locs cells slots mct mst lm C hr hR hS hl)
theorem q_fdiv {x y : UInt32} (hne : vf_n32 (FP.fdiv x y)) (hd : decode M.2.1 pc = .ok (.fdiv, 1)) (kk : mW l G M d mc ms (pc + 1) ls (.float (FP.fdiv x y) :: st) h Q X) : mW l G M d mc ms pc ls (.float y :: .float x :: st) h Q X := by
  intro p e R s m args below meth c A H locs cells slots mct mst lm C hr hR hS hl
  exact lv_fdiv C.1 C.2.1 hd hne (kk p e R s m args below meth c A H locs cells slots mct mst lm C hr hR hS hl)
theorem q_ddiv {x y : UInt64} (hne : vf_n64 (FP.ddiv x y)) (hd : decode M.2.1 pc = .ok (.ddiv, 1)) (kk : mW l G M d mc ms (pc + 1) ls (.double (FP.ddiv x y) :: st) h Q X) : mW l G M d mc ms pc ls (.double y :: .double x :: st) h Q X := by
  intro p e R s m args below meth c A H locs cells slots mct mst lm C hr hR hS hl
  exact lv_ddiv C.1 C.2.1 hd hne (kk p e R s m args below meth c A H locs cells slots mct mst lm C hr hR hS hl)
theorem q_dcmp {x y : UInt64} {op : CmpOp} (hd : decode M.2.1 pc = .ok (.dcmp op, 1)) (kk : mW l G M d mc ms (pc + 1) ls (.int (Op.cmpValue (FP.dcmp x y) op) :: st) h Q X) : mW l G M d mc ms pc ls (.double y :: .double x :: st) h Q X := by
  intro p e R s m args below meth c A H locs cells slots mct mst lm C hr hR hS hl
  exact lv_dcmp C.1 C.2.1 hd (kk p e R s m args below meth c A H locs cells slots mct mst lm C hr hR hS hl)
theorem q_lcmp {x y : Int64} (hd : decode M.2.1 pc = .ok (.lcmp, 1)) (kk : mW l G M d mc ms (pc + 1) ls (.int (lg_cmp x y) :: st) h Q X) : mW l G M d mc ms pc ls (.long y :: .long x :: st) h Q X := by
  intro p e R s m args below meth c A H locs cells slots mct mst lm C hr hR hS hl
  exact W.lcmp C.1 C.2.1 hd (kk p e R s m args below meth c A H locs cells slots mct mst lm C hr hR hS hl)
theorem q_dup {v : Value} (hd : decode M.2.1 pc = .ok (.dup, 1)) (kk : mW l G M d mc ms (pc + 1) ls (v :: v :: st) h Q X) (h1 : v.category = 1 := by rfl) : mW l G M d mc ms pc ls (v :: st) h Q X := by
  intro p e R s m args below meth c A H locs cells slots mct mst lm C hr hR hS hl
  exact lv_dup C.1 C.2.1 hd h1 (kk p e R s m args below meth c A H locs cells slots mct mst lm C hr hR hS hl)
theorem q_dup_x1 {v u : Value} (hd : decode M.2.1 pc = .ok (.dup_x1, 1)) (kk : mW l G M d mc ms (pc + 1) ls (v :: u :: v :: st) h Q X) (h1 : v.category = 1 := by rfl) (h2 : u.category = 1 := by rfl) : mW l G M d mc ms pc ls (v :: u :: st) h Q X := by
  intro p e R s m args below meth c A H locs cells slots mct mst lm C hr hR hS hl
  exact lv_dup_x1 C.1 C.2.1 hd h1 h2 (kk p e R s m args below meth c A H locs cells slots mct mst lm C hr hR hS hl)
theorem q_dup2 {v u : Value} (hd : decode M.2.1 pc = .ok (.dup2, 1)) (kk : mW l G M d mc ms (pc + 1) ls (v :: u :: v :: u :: st) h Q X) (h1 : v.category = 1 := by rfl) (h2 : u.category = 1 := by rfl) : mW l G M d mc ms pc ls (v :: u :: st) h Q X := by
  intro p e R s m args below meth c A H locs cells slots mct mst lm C hr hR hS hl
  exact lv_dup2_11 C.1 C.2.1 hd h1 h2 (kk p e R s m args below meth c A H locs cells slots mct mst lm C hr hR hS hl)
theorem q_pop {v : Value} (hd : decode M.2.1 pc = .ok (.pop, 1)) (kk : mW l G M d mc ms (pc + 1) ls (st) h Q X) (h1 : v.category = 1 := by rfl) : mW l G M d mc ms pc ls (v :: st) h Q X := by
  intro p e R s m args below meth c A H locs cells slots mct mst lm C hr hR hS hl
  exact lv_pop C.1 C.2.1 hd h1 (kk p e R s m args below meth c A H locs cells slots mct mst lm C hr hR hS hl)
theorem q_goto {off : Int} {tgt : Nat} (hd : decode M.2.1 pc = .ok (.goto off, 3)) (ht : (pc : Int) + off = (tgt : Int)) (kk : mW l G M d mc ms tgt ls (st) h Q X) : mW l G M d mc ms pc ls (st) h Q X := by
  intro p e R s m args below meth c A H locs cells slots mct mst lm C hr hR hS hl
  exact lv_goto C.1 C.2.1 hd ht (kk p e R s m args below meth c A H locs cells slots mct mst lm C hr hR hS hl)
theorem q_ifnull {x : Nat} {off : Int} (hd : decode M.2.1 pc = .ok (.ifnull off, 3)) (kk : mW l G M d mc ms (pc + 3) ls (st) h Q X) : mW l G M d mc ms pc ls (.ref x :: st) h Q X := by
  intro p e R s m args below meth c A H locs cells slots mct mst lm C hr hR hS hl
  exact lv_ifnull C.1 C.2.1 hd (kk p e R s m args below meth c A H locs cells slots mct mst lm C hr hR hS hl)
theorem q_ifnullN {off : Int} {tgt : Nat} (hd : decode M.2.1 pc = .ok (.ifnull off, 3)) (ht : (pc : Int) + off = (tgt : Int)) (kk : mW l G M d mc ms tgt ls (st) h Q X) : mW l G M d mc ms pc ls (.null :: st) h Q X := by
  intro p e R s m args below meth c A H locs cells slots mct mst lm C hr hR hS hl
  exact lv_ifnullN C.1 C.2.1 hd ht (kk p e R s m args below meth c A H locs cells slots mct mst lm C hr hR hS hl)
theorem q_ifnonnull {x : Nat} {off : Int} {tgt : Nat} (hd : decode M.2.1 pc = .ok (.ifnonnull off, 3)) (ht : (pc : Int) + off = (tgt : Int)) (kk : mW l G M d mc ms tgt ls (st) h Q X) : mW l G M d mc ms pc ls (.ref x :: st) h Q X := by
  intro p e R s m args below meth c A H locs cells slots mct mst lm C hr hR hS hl
  exact lv_ifnonnull C.1 C.2.1 hd ht (kk p e R s m args below meth c A H locs cells slots mct mst lm C hr hR hS hl)
theorem q_ifnonnullN {off : Int} (hd : decode M.2.1 pc = .ok (.ifnonnull off, 3)) (kk : mW l G M d mc ms (pc + 3) ls (st) h Q X) : mW l G M d mc ms pc ls (.null :: st) h Q X := by
  intro p e R s m args below meth c A H locs cells slots mct mst lm C hr hR hS hl
  exact lv_ifnonnullN C.1 C.2.1 hd (kk p e R s m args below meth c A H locs cells slots mct mst lm C hr hR hS hl)
theorem q_if_eq {x : Int32} {off : Int} {tgt : Nat} (hd : decode M.2.1 pc = .ok (.ifCond .eq off, 3)) (ht : (pc : Int) + off = (tgt : Int)) (kt : x = 0 → mW l G M d mc ms tgt ls st h Q X) (kf : ¬ x = 0 → mW l G M d mc ms (pc + 3) ls st h Q X) : mW l G M d mc ms pc ls (.int x :: st) h Q X := by
  intro p e R s m args below meth c A H locs cells slots mct mst lm C hr hR hS hl
  exact lv_if_eq C.1 C.2.1 hd ht (fun z => kt z p e R s m args below meth c A H locs cells slots mct mst lm C hr hR hS hl) (fun z => kf z p e R s m args below meth c A H locs cells slots mct mst lm C hr hR hS hl)
theorem q_if_ne {x : Int32} {off : Int} {tgt : Nat} (hd : decode M.2.1 pc = .ok (.ifCond .ne off, 3)) (ht : (pc : Int) + off = (tgt : Int)) (kt : x ≠ 0 → mW l G M d mc ms tgt ls st h Q X) (kf : x = 0 → mW l G M d mc ms (pc + 3) ls st h Q X) : mW l G M d mc ms pc ls (.int x :: st) h Q X := by
  intro p e R s m args below meth c A H locs cells slots mct mst lm C hr hR hS hl
  exact lv_if_ne C.1 C.2.1 hd ht (fun z => kt z p e R s m args below meth c A H locs cells slots mct mst lm C hr hR hS hl) (fun z => kf z p e R s m args below meth c A H locs cells slots mct mst lm C hr hR hS hl)
theorem q_if_lt {x : Int32} {off : Int} {tgt : Nat} (hd : decode M.2.1 pc = .ok (.ifCond .lt off, 3)) (ht : (pc : Int) + off = (tgt : Int)) (kt : x < 0 → mW l G M d mc ms tgt ls st h Q X) (kf : ¬ x < 0 → mW l G M d mc ms (pc + 3) ls st h Q X) : mW l G M d mc ms pc ls (.int x :: st) h Q X := by
  intro p e R s m args below meth c A H locs cells slots mct mst lm C hr hR hS hl
  exact lv_if_lt C.1 C.2.1 hd ht (fun z => kt z p e R s m args below meth c A H locs cells slots mct mst lm C hr hR hS hl) (fun z => kf z p e R s m args below meth c A H locs cells slots mct mst lm C hr hR hS hl)
theorem q_if_ge {x : Int32} {off : Int} {tgt : Nat} (hd : decode M.2.1 pc = .ok (.ifCond .ge off, 3)) (ht : (pc : Int) + off = (tgt : Int)) (kt : 0 ≤ x → mW l G M d mc ms tgt ls st h Q X) (kf : ¬ 0 ≤ x → mW l G M d mc ms (pc + 3) ls st h Q X) : mW l G M d mc ms pc ls (.int x :: st) h Q X := by
  intro p e R s m args below meth c A H locs cells slots mct mst lm C hr hR hS hl
  exact lv_if_ge C.1 C.2.1 hd ht (fun z => kt z p e R s m args below meth c A H locs cells slots mct mst lm C hr hR hS hl) (fun z => kf z p e R s m args below meth c A H locs cells slots mct mst lm C hr hR hS hl)
theorem q_if_gt {x : Int32} {off : Int} {tgt : Nat} (hd : decode M.2.1 pc = .ok (.ifCond .gt off, 3)) (ht : (pc : Int) + off = (tgt : Int)) (kt : 0 < x → mW l G M d mc ms tgt ls st h Q X) (kf : ¬ 0 < x → mW l G M d mc ms (pc + 3) ls st h Q X) : mW l G M d mc ms pc ls (.int x :: st) h Q X := by
  intro p e R s m args below meth c A H locs cells slots mct mst lm C hr hR hS hl
  exact lv_if_gt C.1 C.2.1 hd ht (fun z => kt z p e R s m args below meth c A H locs cells slots mct mst lm C hr hR hS hl) (fun z => kf z p e R s m args below meth c A H locs cells slots mct mst lm C hr hR hS hl)
theorem q_if_le {x : Int32} {off : Int} {tgt : Nat} (hd : decode M.2.1 pc = .ok (.ifCond .le off, 3)) (ht : (pc : Int) + off = (tgt : Int)) (kt : x ≤ 0 → mW l G M d mc ms tgt ls st h Q X) (kf : ¬ x ≤ 0 → mW l G M d mc ms (pc + 3) ls st h Q X) : mW l G M d mc ms pc ls (.int x :: st) h Q X := by
  intro p e R s m args below meth c A H locs cells slots mct mst lm C hr hR hS hl
  exact lv_if_le C.1 C.2.1 hd ht (fun z => kt z p e R s m args below meth c A H locs cells slots mct mst lm C hr hR hS hl) (fun z => kf z p e R s m args below meth c A H locs cells slots mct mst lm C hr hR hS hl)
theorem q_icmp_eq {x y : Int32} {off : Int} {tgt : Nat} (hd : decode M.2.1 pc = .ok (.if_icmp .eq off, 3)) (ht : (pc : Int) + off = (tgt : Int)) (kt : x = y → mW l G M d mc ms tgt ls st h Q X) (kf : ¬ x = y → mW l G M d mc ms (pc + 3) ls st h Q X) : mW l G M d mc ms pc ls (.int y :: .int x :: st) h Q X := by
  intro p e R s m args below meth c A H locs cells slots mct mst lm C hr hR hS hl
  exact lv_icmp_eq C.1 C.2.1 hd ht (fun z => kt z p e R s m args below meth c A H locs cells slots mct mst lm C hr hR hS hl) (fun z => kf z p e R s m args below meth c A H locs cells slots mct mst lm C hr hR hS hl)
theorem q_icmp_ne {x y : Int32} {off : Int} {tgt : Nat} (hd : decode M.2.1 pc = .ok (.if_icmp .ne off, 3)) (ht : (pc : Int) + off = (tgt : Int)) (kt : x ≠ y → mW l G M d mc ms tgt ls st h Q X) (kf : x = y → mW l G M d mc ms (pc + 3) ls st h Q X) : mW l G M d mc ms pc ls (.int y :: .int x :: st) h Q X := by
  intro p e R s m args below meth c A H locs cells slots mct mst lm C hr hR hS hl
  exact lv_icmp_ne C.1 C.2.1 hd ht (fun z => kt z p e R s m args below meth c A H locs cells slots mct mst lm C hr hR hS hl) (fun z => kf z p e R s m args below meth c A H locs cells slots mct mst lm C hr hR hS hl)
theorem q_icmp_lt {x y : Int32} {off : Int} {tgt : Nat} (hd : decode M.2.1 pc = .ok (.if_icmp .lt off, 3)) (ht : (pc : Int) + off = (tgt : Int)) (kt : x < y → mW l G M d mc ms tgt ls st h Q X) (kf : ¬ x < y → mW l G M d mc ms (pc + 3) ls st h Q X) : mW l G M d mc ms pc ls (.int y :: .int x :: st) h Q X := by
  intro p e R s m args below meth c A H locs cells slots mct mst lm C hr hR hS hl
  exact lv_icmp_lt C.1 C.2.1 hd ht (fun z => kt z p e R s m args below meth c A H locs cells slots mct mst lm C hr hR hS hl) (fun z => kf z p e R s m args below meth c A H locs cells slots mct mst lm C hr hR hS hl)
theorem q_icmp_ge {x y : Int32} {off : Int} {tgt : Nat} (hd : decode M.2.1 pc = .ok (.if_icmp .ge off, 3)) (ht : (pc : Int) + off = (tgt : Int)) (kt : y ≤ x → mW l G M d mc ms tgt ls st h Q X) (kf : ¬ y ≤ x → mW l G M d mc ms (pc + 3) ls st h Q X) : mW l G M d mc ms pc ls (.int y :: .int x :: st) h Q X := by
  intro p e R s m args below meth c A H locs cells slots mct mst lm C hr hR hS hl
  exact lv_icmp_ge C.1 C.2.1 hd ht (fun z => kt z p e R s m args below meth c A H locs cells slots mct mst lm C hr hR hS hl) (fun z => kf z p e R s m args below meth c A H locs cells slots mct mst lm C hr hR hS hl)
theorem q_icmp_gt {x y : Int32} {off : Int} {tgt : Nat} (hd : decode M.2.1 pc = .ok (.if_icmp .gt off, 3)) (ht : (pc : Int) + off = (tgt : Int)) (kt : y < x → mW l G M d mc ms tgt ls st h Q X) (kf : ¬ y < x → mW l G M d mc ms (pc + 3) ls st h Q X) : mW l G M d mc ms pc ls (.int y :: .int x :: st) h Q X := by
  intro p e R s m args below meth c A H locs cells slots mct mst lm C hr hR hS hl
  exact lv_icmp_gt C.1 C.2.1 hd ht (fun z => kt z p e R s m args below meth c A H locs cells slots mct mst lm C hr hR hS hl) (fun z => kf z p e R s m args below meth c A H locs cells slots mct mst lm C hr hR hS hl)
theorem q_icmp_le {x y : Int32} {off : Int} {tgt : Nat} (hd : decode M.2.1 pc = .ok (.if_icmp .le off, 3)) (ht : (pc : Int) + off = (tgt : Int)) (kt : x ≤ y → mW l G M d mc ms tgt ls st h Q X) (kf : ¬ x ≤ y → mW l G M d mc ms (pc + 3) ls st h Q X) : mW l G M d mc ms pc ls (.int y :: .int x :: st) h Q X := by
  intro p e R s m args below meth c A H locs cells slots mct mst lm C hr hR hS hl
  exact lv_icmp_le C.1 C.2.1 hd ht (fun z => kt z p e R s m args below meth c A H locs cells slots mct mst lm C hr hR hS hl) (fun z => kf z p e R s m args below meth c A H locs cells slots mct mst lm C hr hR hS hl)
def mAs : Nat → List (Option Value) → List (Nat × Value)
  | _, [] => []
  | i, some v :: l => (i, v) :: mAs (i + 1) l
  | i, none :: l => mAs (i + 1) l
theorem mAs_mem : ∀ (l : List (Option Value)) (i j : Nat) (v : Value), l[j]? = some (some v) → (i + j, v) ∈ mAs i l
  | [], i, j, v, hj => by simp at hj
  | some u :: l, i, 0, v, hj => by
    simp at hj
    subst hj
    exact List.mem_cons_self
  | none :: l, i, 0, v, hj => by simp at hj
  | some u :: l, i, j + 1, v, hj => by
    have := mAs_mem l (i + 1) j v (by simpa using hj)
    rw [show i + (j + 1) = i + 1 + j by omega]
    exact List.mem_cons_of_mem _ this
  | none :: l, i, j + 1, v, hj => by
    have := mAs_mem l (i + 1) j v (by simpa using hj)
    rw [show i + (j + 1) = i + 1 + j by omega]
    exact this
theorem mAs_of : ∀ (l : List (Option Value)) (i : Nat) (q : Nat × Value), q ∈ mAs i l → ∃ j, q.1 = i + j ∧ l[j]? = some (some q.2)
  | [], i, q, hq => by simp [mAs] at hq
  | some u :: l, i, q, hq => by
    rcases List.mem_cons.mp hq with rfl | hq
    · exact ⟨0, rfl, rfl⟩
    · obtain ⟨j, e1, e2⟩ := mAs_of l (i + 1) q hq
      exact ⟨j + 1, by omega, by simpa using e2⟩
  | none :: l, i, q, hq => by
    obtain ⟨j, e1, e2⟩ := mAs_of l (i + 1) q hq
    exact ⟨j + 1, by omega, by simpa using e2⟩
theorem mLs_has {lm : Array Slot} {n : Nat} {ls : List (Option Value)} (h : mLs lm n ls) : lv_has lm n (mAs 0 ls) := ⟨h.1, h.2.1, fun q hq => by
  obtain ⟨j, e1, e2⟩ := mAs_of ls 0 q hq
  rw [e1, Nat.zero_add]
  exact (h.2.2 j _ e2).1⟩
theorem mLs_set {lm lm' : Array Slot} {n i : Nat} {ls : List (Option Value)} {v : Value} (h : mLs lm n ls) (hv : v.category = 1) (h' : lv_has lm' n ((i, v) :: (mAs 0 ls).filter (fun q => !(q.1 == i) && !(q.1 + 1 == i && q.2.category == 2)))) : mLs lm' n (ls.set i (some v)) := by
  refine ⟨h'.1, h'.2.1, fun j u hj => ?_⟩
  by_cases hji : j = i
  · subst hji
    have hlt : j < ls.length := by
      rcases Nat.lt_or_ge j ls.length with q | q
      · exact q
      · rw [List.getElem?_eq_none (by simpa using q)] at hj
        cases hj
    rw [List.getElem?_set_self hlt] at hj
    cases hj
    exact ⟨h'.2.2 _ List.mem_cons_self, hv⟩
  · rw [List.getElem?_set_ne (fun q => hji q.symm)] at hj
    have h1 := mAs_mem ls 0 j u hj
    rw [Nat.zero_add] at h1
    have hc := (h.2.2 j u hj).2
    refine ⟨h'.2.2 (j, u) (List.mem_cons_of_mem _ (List.mem_filter.mpr ⟨h1, ?_⟩)), hc⟩
    simp [hji, hc]
theorem q_istore_n {k : Fin 4} {x : Int32} (hd : decode M.2.1 pc = .ok (.istore_n k, 1)) (hi : (k : Nat) < M.2.2.1) (kk : mW l G M d mc ms (pc + 1) (ls.set k (some (.int x))) st h Q X) : mW l G M d mc ms pc ls (.int x :: st) h Q X := by
  intro p e R s m args below meth c A H locs cells slots mct mst lm C hr hR hS hl
  exact lv_istore_n C.1 C.2.1 hd rfl (mLs_has hl) hi rfl (fun lm' h' => kk p e R s m args below meth c A H locs cells slots mct mst lm' C hr hR hS (mLs_set hl rfl h'))
theorem q_istore {i : Nat} {x : Int32} (hd : decode M.2.1 pc = .ok (.istore i, 2)) (hi : i < M.2.2.1) (kk : mW l G M d mc ms (pc + 2) (ls.set i (some (.int x))) st h Q X) : mW l G M d mc ms pc ls (.int x :: st) h Q X := by
  intro p e R s m args below meth c A H locs cells slots mct mst lm C hr hR hS hl
  exact lv_istore C.1 C.2.1 hd (mLs_has hl) hi rfl (fun lm' h' => kk p e R s m args below meth c A H locs cells slots mct mst lm' C hr hR hS (mLs_set hl rfl h'))
theorem q_astore_n {k : Fin 4} {x : Nat} (hd : decode M.2.1 pc = .ok (.astore_n k, 1)) (hi : (k : Nat) < M.2.2.1) (kk : mW l G M d mc ms (pc + 1) (ls.set k (some (.ref x))) st h Q X) : mW l G M d mc ms pc ls (.ref x :: st) h Q X := by
  intro p e R s m args below meth c A H locs cells slots mct mst lm C hr hR hS hl
  exact lv_astore_n C.1 C.2.1 hd rfl (mLs_has hl) hi rfl (fun lm' h' => kk p e R s m args below meth c A H locs cells slots mct mst lm' C hr hR hS (mLs_set hl rfl h'))
theorem q_astore {i : Nat} {x : Nat} (hd : decode M.2.1 pc = .ok (.astore i, 2)) (hi : i < M.2.2.1) (kk : mW l G M d mc ms (pc + 2) (ls.set i (some (.ref x))) st h Q X) : mW l G M d mc ms pc ls (.ref x :: st) h Q X := by
  intro p e R s m args below meth c A H locs cells slots mct mst lm C hr hR hS hl
  exact lv_astore C.1 C.2.1 hd (mLs_has hl) hi rfl (fun lm' h' => kk p e R s m args below meth c A H locs cells slots mct mst lm' C hr hR hS (mLs_set hl rfl h'))
theorem q_astore_nN {k : Fin 4} (hd : decode M.2.1 pc = .ok (.astore_n k, 1)) (hi : (k : Nat) < M.2.2.1) (kk : mW l G M d mc ms (pc + 1) (ls.set k (some .null)) st h Q X) : mW l G M d mc ms pc ls (.null :: st) h Q X := by
  intro p e R s m args below meth c A H locs cells slots mct mst lm C hr hR hS hl
  exact lv_astore_nN C.1 C.2.1 hd rfl (mLs_has hl) hi rfl (fun lm' h' => kk p e R s m args below meth c A H locs cells slots mct mst lm' C hr hR hS (mLs_set hl rfl h'))
theorem q_astoreN {i : Nat} (hd : decode M.2.1 pc = .ok (.astore i, 2)) (hi : i < M.2.2.1) (kk : mW l G M d mc ms (pc + 2) (ls.set i (some .null)) st h Q X) : mW l G M d mc ms pc ls (.null :: st) h Q X := by
  intro p e R s m args below meth c A H locs cells slots mct mst lm C hr hR hS hl
  exact lv_astoreN C.1 C.2.1 hd (mLs_has hl) hi rfl (fun lm' h' => kk p e R s m args below meth c A H locs cells slots mct mst lm' C hr hR hS (mLs_set hl rfl h'))
theorem q_iinc {i : Nat} {n : Int} {x v : Int32} (hd : decode M.2.1 pc = .ok (.iinc i n, 3)) (hi : ls[i]? = some (some (.int x))) (hv : x + Int32.ofInt n = v) (hm : i < M.2.2.1) (kk : mW l G M d mc ms (pc + 3) (ls.set i (some (.int v))) st h Q X) : mW l G M d mc ms pc ls st h Q X := by
  intro p e R s m args below meth c A H locs cells slots mct mst lm C hr hR hS hl
  have hm1 := mAs_mem ls 0 i _ hi
  rw [Nat.zero_add] at hm1
  obtain ⟨k, hk⟩ := List.getElem?_of_mem hm1
  exact lv_iinc C.1 C.2.1 hd (mLs_has hl) hk hv hm rfl (fun lm' h' => kk p e R s m args below meth c A H locs cells slots mct mst lm' C hr hR hS (mLs_set hl rfl h'))
/-- fewer locals known -/
theorem q_fewer {ls' : List (Option Value)} (hw : ∀ (i : Nat) (v : Value), ls'[i]? = some (some v) → ls[i]? = some (some v)) (kk : mW l G M d mc ms pc ls' st h Q X) : mW l G M d mc ms pc ls st h Q X := by
  intro p e R s m args below meth c A H locs cells slots mct mst lm C hr hR hS hl
  exact kk p e R s m args below meth c A H locs cells slots mct mst lm C hr hR hS ⟨hl.1, hl.2.1, fun i v hi => hl.2.2 i v (hw i v hi)⟩
/-- a narrower end -/
theorem q_post {Q' : Option Value → mH → Prop} {X' : String → mH → Prop} (hQ : ∀ v h', Q' v h' → Q v h') (hX : ∀ E h', X' E h' → X E h') (kk : mW l G M d mc ms pc ls st h Q' X') : mW l G M d mc ms pc ls st h Q X := by
  intro p e R s m args below meth c A H locs cells slots mct mst lm C hr hR hS hl
  intro T hT XX
  obtain ⟨t, a1, o, b1, b2, b3⟩ := kk p e R s m args below meth c A H locs cells slots mct mst lm C hr hR hS hl T hT XX
  refine ⟨t, a1, o, b1, b2, ?_⟩
  rcases b3 with ⟨⟨⟨v, h', e1, e2, e3⟩, e4⟩, e5⟩ | ⟨q, e1, E, ce, L, ⟨⟨h', e2, e3⟩, e4⟩, e5⟩
  · exact Or.inl ⟨⟨⟨v, h', e1, hQ _ _ e2, e3⟩, e4⟩, e5⟩
  · exact Or.inr ⟨q, e1, E, ce, L, ⟨⟨h', hX _ _ e2, e3⟩, e4⟩, e5⟩
/-- more room, more frames than are wanted -/
theorem q_room {d' mc' ms' : Nat} (h1 : d' ≤ d) (h2 : mc' ≤ mc) (h3 : ms' ≤ ms) (kk : mW l G M d' mc' ms' pc ls st h Q X) : mW l G M d mc ms pc ls st h Q X := by
  intro p e R s m args below meth c A H locs cells slots mct mst lm C hr hR hS hl
  obtain ⟨a1, a2, a3, a4, a5, a6⟩ := hr
  exact kk p e R s m args below meth c A H locs cells slots mct mst lm C ⟨by omega, by omega, by omega, by omega, a5, a6⟩ hR hS hl

end ROWS
