section
variable {ρ : Type} {j : ρ → Option Value × sm_M} {k : sm_K} {cs sl pc : Nat} {lf lf2 : List (Option Value)} {st : List Value} {M : sm_M} {o o1 o2 : Option ρ}
theorem sd_iconst {z : Int} (v : Int32) (hd : decode k.2.1 pc = .ok (.iconst z, 1)) (hv : Int32.ofInt z = v) (h : sm_S j k cs sl (pc + 1) lf (.int v :: st) M o) : sm_S j k cs sl pc lf st M o := by
  intro r hr n g0 g p l e R s m args below meth c Q hC hx hn hQ H locs ls hM hS hL
  exact lv_iconst hC.1 hC.2.1 hd hv (h r hr n g0 g p l e R s m args below meth c Q hC hx hn hQ H locs ls hM hS hL)
theorem sd_bipush {z : Int} (v : Int32) (hd : decode k.2.1 pc = .ok (.bipush z, 2)) (hv : (Int8.ofInt z).toInt32 = v) (h : sm_S j k cs sl (pc + 2) lf (.int v :: st) M o) : sm_S j k cs sl pc lf st M o := by
  intro r hr n g0 g p l e R s m args below meth c Q hC hx hn hQ H locs ls hM hS hL
  exact lv_bipush hC.1 hC.2.1 hd hv (h r hr n g0 g p l e R s m args below meth c Q hC hx hn hQ H locs ls hM hS hL)
theorem sd_sipush {z : Int} (v : Int32) (hd : decode k.2.1 pc = .ok (.sipush z, 3)) (hv : (Int16.ofInt z).toInt32 = v) (h : sm_S j k cs sl (pc + 3) lf (.int v :: st) M o) : sm_S j k cs sl pc lf st M o := by
  intro r hr n g0 g p l e R s m args below meth c Q hC hx hn hQ H locs ls hM hS hL
  exact lv_sipush hC.1 hC.2.1 hd hv (h r hr n g0 g p l e R s m args below meth c Q hC hx hn hQ H locs ls hM hS hL)
theorem sd_lconst {z : Fin 2} (v : Int64) (hd : decode k.2.1 pc = .ok (.lconst z, 1)) (hv : Int64.ofNat (z : Nat) = v) (h : sm_S j k cs sl (pc + 1) lf (.long v :: st) M o) : sm_S j k cs sl pc lf st M o := by
  intro r hr n g0 g p l e R s m args below meth c Q hC hx hn hQ H locs ls hM hS hL
  exact lv_lconst hC.1 hC.2.1 hd hv (h r hr n g0 g p l e R s m args below meth c Q hC hx hn hQ H locs ls hM hS hL)
theorem sd_ldc {i : Nat} {v : Int32} (hc : Cond.constant k.1.cls i v ∈ sm_tb) (hd : decode k.2.1 pc = .ok (.ldc i, 2)) (h : sm_S j k cs sl (pc + 2) lf (.int v :: st) M o) : sm_S j k cs sl pc lf st M o := by
  intro r hr n g0 g p l e R s m args below meth c Q hC hx hn hQ H locs ls hM hS hL
  exact lv_ldc hC.1 hC.2.1 hC.2.2.2.2.1 (hC.2.2.2.2.2.1 _ hc) hd (h r hr n g0 g p l e R s m args below meth c Q hC hx hn hQ H locs ls hM hS hL)
theorem sd_ldcw {i : Nat} {v : Int32} (hc : Cond.constant k.1.cls i v ∈ sm_tb) (hd : decode k.2.1 pc = .ok (.ldc_w i, 3)) (h : sm_S j k cs sl (pc + 3) lf (.int v :: st) M o) : sm_S j k cs sl pc lf st M o := by
  intro r hr n g0 g p l e R s m args below meth c Q hC hx hn hQ H locs ls hM hS hL
  exact lv_ldcw hC.1 hC.2.1 hC.2.2.2.2.1 (hC.2.2.2.2.2.1 _ hc) hd (h r hr n g0 g p l e R s m args below meth c Q hC hx hn hQ H locs ls hM hS hL)
theorem sd_ldc2 {i : Nat} {v : Int64} (hc : Cond.constantLong k.1.cls i v ∈ sm_tb) (hd : decode k.2.1 pc = .ok (.ldc2_w i, 3)) (h : sm_S j k cs sl (pc + 3) lf (.long v :: st) M o) : sm_S j k cs sl pc lf st M o := by
  intro r hr n g0 g p l e R s m args below meth c Q hC hx hn hQ H locs ls hM hS hL
  exact lv_ldc2 hC.1 hC.2.1 hC.2.2.2.2.1 (hC.2.2.2.2.2.1 _ hc) hd (h r hr n g0 g p l e R s m args below meth c Q hC hx hn hQ H locs ls hM hS hL)
theorem sd_null (hd : decode k.2.1 pc = .ok (.aconst_null, 1)) (h : sm_S j k cs sl (pc + 1) lf (.null :: st) M o) : sm_S j k cs sl pc lf st M o := by
  intro r hr n g0 g p l e R s m args below meth c Q hC hx hn hQ H locs ls hM hS hL
  exact lv_null hC.1 hC.2.1 hd (h r hr n g0 g p l e R s m args below meth c Q hC hx hn hQ H locs ls hM hS hL)
theorem sd_iload_n {z : Fin 4} {x : Int32} (hd : decode k.2.1 pc = .ok (.iload_n z, 1)) (hl : lf[(z : Nat)]? = some (some (.int x))) (h : sm_S j k cs sl (pc + 1) lf (.int x :: st) M o) : sm_S j k cs sl pc lf st M o := by
  intro r hr n g0 g p l e R s m args below meth c Q hC hx hn hQ H locs ls hM hS hL
  exact lv_iload_n hC.1 hC.2.1 hd rfl (hL.2.2 _ _ hl) (h r hr n g0 g p l e R s m args below meth c Q hC hx hn hQ H locs ls hM hS hL)
theorem sd_iload {i : Nat} {x : Int32} (hd : decode k.2.1 pc = .ok (.iload i, 2)) (hl : lf[i]? = some (some (.int x))) (h : sm_S j k cs sl (pc + 2) lf (.int x :: st) M o) : sm_S j k cs sl pc lf st M o := by
  intro r hr n g0 g p l e R s m args below meth c Q hC hx hn hQ H locs ls hM hS hL
  exact lv_iload hC.1 hC.2.1 hd (hL.2.2 _ _ hl) (h r hr n g0 g p l e R s m args below meth c Q hC hx hn hQ H locs ls hM hS hL)
theorem sd_lload_n {z : Fin 4} {x : Int64} (hd : decode k.2.1 pc = .ok (.lload_n z, 1)) (hl : lf[(z : Nat)]? = some (some (.long x))) (h : sm_S j k cs sl (pc + 1) lf (.long x :: st) M o) : sm_S j k cs sl pc lf st M o := by
  intro r hr n g0 g p l e R s m args below meth c Q hC hx hn hQ H locs ls hM hS hL
  exact lv_lload_n hC.1 hC.2.1 hd rfl (hL.2.2 _ _ hl) (h r hr n g0 g p l e R s m args below meth c Q hC hx hn hQ H locs ls hM hS hL)
theorem sd_lload {i : Nat} {x : Int64} (hd : decode k.2.1 pc = .ok (.lload i, 2)) (hl : lf[i]? = some (some (.long x))) (h : sm_S j k cs sl (pc + 2) lf (.long x :: st) M o) : sm_S j k cs sl pc lf st M o := by
  intro r hr n g0 g p l e R s m args below meth c Q hC hx hn hQ H locs ls hM hS hL
  exact lv_lload hC.1 hC.2.1 hd (hL.2.2 _ _ hl) (h r hr n g0 g p l e R s m args below meth c Q hC hx hn hQ H locs ls hM hS hL)
theorem sd_aload_n {z : Fin 4} {x : Nat} (hd : decode k.2.1 pc = .ok (.aload_n z, 1)) (hl : lf[(z : Nat)]? = some (some (.ref x))) (h : sm_S j k cs sl (pc + 1) lf (.ref x :: st) M o) : sm_S j k cs sl pc lf st M o := by
  intro r hr n g0 g p l e R s m args below meth c Q hC hx hn hQ H locs ls hM hS hL
  exact lv_aload_n hC.1 hC.2.1 hd rfl (hL.2.2 _ _ hl) (h r hr n g0 g p l e R s m args below meth c Q hC hx hn hQ H locs ls hM hS hL)
theorem sd_aload {i : Nat} {x : Nat} (hd : decode k.2.1 pc = .ok (.aload i, 2)) (hl : lf[i]? = some (some (.ref x))) (h : sm_S j k cs sl (pc + 2) lf (.ref x :: st) M o) : sm_S j k cs sl pc lf st M o := by
  intro r hr n g0 g p l e R s m args below meth c Q hC hx hn hQ H locs ls hM hS hL
  exact lv_aload hC.1 hC.2.1 hd (hL.2.2 _ _ hl) (h r hr n g0 g p l e R s m args below meth c Q hC hx hn hQ H locs ls hM hS hL)
theorem sd_iadd {x y : Int32} (hd : decode k.2.1 pc = .ok (.iadd, 1)) (h : sm_S j k cs sl (pc + 1) lf (.int (x + y) :: st) M o) : sm_S j k cs sl pc lf (.int y :: .int x :: st) M o := by
  intro r hr n g0 g p l e R s m args below meth c Q hC hx hn hQ H locs ls hM hS hL
  exact lv_iadd hC.1 hC.2.1 hd (h r hr n g0 g p l e R s m args below meth c Q hC hx hn hQ H locs ls hM hS hL)
theorem sd_isub {x y : Int32} (hd : decode k.2.1 pc = .ok (.isub, 1)) (h : sm_S j k cs sl (pc + 1) lf (.int (x - y) :: st) M o) : sm_S j k cs sl pc lf (.int y :: .int x :: st) M o := by
  intro r hr n g0 g p l e R s m args below meth c Q hC hx hn hQ H locs ls hM hS hL
  exact lv_isub hC.1 hC.2.1 hd (h r hr n g0 g p l e R s m args below meth c Q hC hx hn hQ H locs ls hM hS hL)
theorem sd_imul {x y : Int32} (hd : decode k.2.1 pc = .ok (.imul, 1)) (h : sm_S j k cs sl (pc + 1) lf (.int (x * y) :: st) M o) : sm_S j k cs sl pc lf (.int y :: .int x :: st) M o := by
  intro r hr n g0 g p l e R s m args below meth c Q hC hx hn hQ H locs ls hM hS hL
  exact lv_imul hC.1 hC.2.1 hd (h r hr n g0 g p l e R s m args below meth c Q hC hx hn hQ H locs ls hM hS hL)
theorem sd_iand {x y : Int32} (hd : decode k.2.1 pc = .ok (.iand, 1)) (h : sm_S j k cs sl (pc + 1) lf (.int (x &&& y) :: st) M o) : sm_S j k cs sl pc lf (.int y :: .int x :: st) M o := by
  intro r hr n g0 g p l e R s m args below meth c Q hC hx hn hQ H locs ls hM hS hL
  exact lv_iand hC.1 hC.2.1 hd (h r hr n g0 g p l e R s m args below meth c Q hC hx hn hQ H locs ls hM hS hL)
theorem sd_ior {x y : Int32} (hd : decode k.2.1 pc = .ok (.ior, 1)) (h : sm_S j k cs sl (pc + 1) lf (.int (x ||| y) :: st) M o) : sm_S j k cs sl pc lf (.int y :: .int x :: st) M o := by
  intro r hr n g0 g p l e R s m args below meth c Q hC hx hn hQ H locs ls hM hS hL
  exact lv_ior hC.1 hC.2.1 hd (h r hr n g0 g p l e R s m args below meth c Q hC hx hn hQ H locs ls hM hS hL)
theorem sd_ishl {x y : Int32} (hd : decode k.2.1 pc = .ok (.ishl, 1)) (h : sm_S j k cs sl (pc + 1) lf (.int (x <<< (y &&& 31)) :: st) M o) : sm_S j k cs sl pc lf (.int y :: .int x :: st) M o := by
  intro r hr n g0 g p l e R s m args below meth c Q hC hx hn hQ H locs ls hM hS hL
  exact lv_ishl hC.1 hC.2.1 hd (h r hr n g0 g p l e R s m args below meth c Q hC hx hn hQ H locs ls hM hS hL)
theorem sd_ishr {x y : Int32} (hd : decode k.2.1 pc = .ok (.ishr, 1)) (h : sm_S j k cs sl (pc + 1) lf (.int (x >>> (y &&& 31)) :: st) M o) : sm_S j k cs sl pc lf (.int y :: .int x :: st) M o := by
  intro r hr n g0 g p l e R s m args below meth c Q hC hx hn hQ H locs ls hM hS hL
  exact lv_ishr hC.1 hC.2.1 hd (h r hr n g0 g p l e R s m args below meth c Q hC hx hn hQ H locs ls hM hS hL)
def sm_us (x y : Int32) : Int32 := (x.toUInt32 >>> (y.toUInt32 &&& Int32.toUInt32 31)).toInt32
theorem sd_iushr {x y : Int32} (hd : decode k.2.1 pc = .ok (.iushr, 1)) (h : sm_S j k cs sl (pc + 1) lf (.int (sm_us x y) :: st) M o) : sm_S j k cs sl pc lf (.int y :: .int x :: st) M o := by
  intro r hr n g0 g p l e R s m args below meth c Q hC hx hn hQ H locs ls hM hS hL
  exact lv_iushr hC.1 hC.2.1 hd rfl (h r hr n g0 g p l e R s m args below meth c Q hC hx hn hQ H locs ls hM hS hL)
def sm_ir (x y : Int32) : Int32 := x - x / y * y
def sm_lr (x y : Int64) : Int64 := x - x / y * y
theorem sd_idiv {x y : Int32} (hd : decode k.2.1 pc = .ok (.idiv, 1)) (hy : ¬ y = 0) (h : sm_S j k cs sl (pc + 1) lf (.int (x / y) :: st) M o) : sm_S j k cs sl pc lf (.int y :: .int x :: st) M o := by
  intro r hr n g0 g p l e R s m args below meth c Q hC hx hn hQ H locs ls hM hS hL
  exact lv_idiv hC.1 hC.2.1 hd hy (h r hr n g0 g p l e R s m args below meth c Q hC hx hn hQ H locs ls hM hS hL)
theorem sd_irem {x y : Int32} (hd : decode k.2.1 pc = .ok (.irem, 1)) (hy : ¬ y = 0) (h : sm_S j k cs sl (pc + 1) lf (.int (sm_ir x y) :: st) M o) : sm_S j k cs sl pc lf (.int y :: .int x :: st) M o := by
  intro r hr n g0 g p l e R s m args below meth c Q hC hx hn hQ H locs ls hM hS hL
  exact lv_irem hC.1 hC.2.1 hd hy (h r hr n g0 g p l e R s m args below meth c Q hC hx hn hQ H locs ls hM hS hL)
theorem sd_ladd {x y : Int64} (hd : decode k.2.1 pc = .ok (.ladd, 1)) (h : sm_S j k cs sl (pc + 1) lf (.long (x + y) :: st) M o) : sm_S j k cs sl pc lf (.long y :: .long x :: st) M o := by
  intro r hr n g0 g p l e R s m args below meth c Q hC hx hn hQ H locs ls hM hS hL
  exact lv_ladd hC.1 hC.2.1 hd (h r hr n g0 g p l e R s m args below meth c Q hC hx hn hQ H locs ls hM hS hL)
theorem sd_lsub {x y : Int64} (hd : decode k.2.1 pc = .ok (.lsub, 1)) (h : sm_S j k cs sl (pc + 1) lf (.long (x - y) :: st) M o) : sm_S j k cs sl pc lf (.long y :: .long x :: st) M o := by
  intro r hr n g0 g p l e R s m args below meth c Q hC hx hn hQ H locs ls hM hS hL
  exact lv_lsub hC.1 hC.2.1 hd (h r hr n g0 g p l e R s m args below meth c Q hC hx hn hQ H locs ls hM hS hL)
theorem sd_lmul {x y : Int64} (hd : decode k.2.1 pc = .ok (.lmul, 1)) (h : sm_S j k cs sl (pc + 1) lf (.long (x * y) :: st) M o) : sm_S j k cs sl pc lf (.long y :: .long x :: st) M o := by
  intro r hr n g0 g p l e R s m args below meth c Q hC hx hn hQ H locs ls hM hS hL
  exact lv_lmul hC.1 hC.2.1 hd (h r hr n g0 g p l e R s m args below meth c Q hC hx hn hQ H locs ls hM hS hL)
theorem sd_ldiv {x y : Int64} (hd : decode k.2.1 pc = .ok (.ldiv, 1)) (hy : ¬ y = 0) (h : sm_S j k cs sl (pc + 1) lf (.long (x / y) :: st) M o) : sm_S j k cs sl pc lf (.long y :: .long x :: st) M o := by
  intro r hr n g0 g p l e R s m args below meth c Q hC hx hn hQ H locs ls hM hS hL
  exact lv_ldiv hC.1 hC.2.1 hd hy (h r hr n g0 g p l e R s m args below meth c Q hC hx hn hQ H locs ls hM hS hL)
theorem sd_lrem {x y : Int64} (hd : decode k.2.1 pc = .ok (.lrem, 1)) (hy : ¬ y = 0) (h : sm_S j k cs sl (pc + 1) lf (.long (sm_lr x y) :: st) M o) : sm_S j k cs sl pc lf (.long y :: .long x :: st) M o := by
  intro r hr n g0 g p l e R s m args below meth c Q hC hx hn hQ H locs ls hM hS hL
  exact lv_lrem hC.1 hC.2.1 hd hy (h r hr n g0 g p l e R s m args below meth c Q hC hx hn hQ H locs ls hM hS hL)
def sm_ls (x : Int64) (y : Int32) : Int64 := x <<< (y.toInt64 &&& 63)
theorem sd_lshl {x : Int64} {y : Int32} (hd : decode k.2.1 pc = .ok (.lshl, 1)) (h : sm_S j k cs sl (pc + 1) lf (.long (sm_ls x y) :: st) M o) : sm_S j k cs sl pc lf (.int y :: .long x :: st) M o := by
  intro r hr n g0 g p l e R s m args below meth c Q hC hx hn hQ H locs ls hM hS hL
  exact lv_lshl hC.1 hC.2.1 hd rfl (h r hr n g0 g p l e R s m args below meth c Q hC hx hn hQ H locs ls hM hS hL)
theorem sd_ineg {x : Int32} (hd : decode k.2.1 pc = .ok (.ineg, 1)) (h : sm_S j k cs sl (pc + 1) lf (.int (-x) :: st) M o) : sm_S j k cs sl pc lf (.int x :: st) M o := by
  intro r hr n g0 g p l e R s m args below meth c Q hC hx hn hQ H locs ls hM hS hL
  exact lv_ineg hC.1 hC.2.1 hd (h r hr n g0 g p l e R s m args below meth c Q hC hx hn hQ H locs ls hM hS hL)
theorem sd_lneg {x : Int64} (hd : decode k.2.1 pc = .ok (.lneg, 1)) (h : sm_S j k cs sl (pc + 1) lf (.long (-x) :: st) M o) : sm_S j k cs sl pc lf (.long x :: st) M o := by
  intro r hr n g0 g p l e R s m args below meth c Q hC hx hn hQ H locs ls hM hS hL
  exact lv_lneg hC.1 hC.2.1 hd (h r hr n g0 g p l e R s m args below meth c Q hC hx hn hQ H locs ls hM hS hL)
theorem sd_i2l {x : Int32} (hd : decode k.2.1 pc = .ok (.i2l, 1)) (h : sm_S j k cs sl (pc + 1) lf (.long x.toInt64 :: st) M o) : sm_S j k cs sl pc lf (.int x :: st) M o := by
  intro r hr n g0 g p l e R s m args below meth c Q hC hx hn hQ H locs ls hM hS hL
  exact lv_i2l hC.1 hC.2.1 hd rfl (h r hr n g0 g p l e R s m args below meth c Q hC hx hn hQ H locs ls hM hS hL)
theorem sd_l2i {x : Int64} (hd : decode k.2.1 pc = .ok (.l2i, 1)) (h : sm_S j k cs sl (pc + 1) lf (.int x.toInt32 :: st) M o) : sm_S j k cs sl pc lf (.long x :: st) M o := by
  intro r hr n g0 g p l e R s m args below meth c Q hC hx hn hQ H locs ls hM hS hL
  exact lv_l2i hC.1 hC.2.1 hd rfl (h r hr n g0 g p l e R s m args below meth c Q hC hx hn hQ H locs ls hM hS hL)
theorem sd_i2b {x : Int32} (hd : decode k.2.1 pc = .ok (.i2b, 1)) (h : sm_S j k cs sl (pc + 1) lf (.int x.toInt8.toInt32 :: st) M o) : sm_S j k cs sl pc lf (.int x :: st) M o := by
  intro r hr n g0 g p l e R s m args below meth c Q hC hx hn hQ H locs ls hM hS hL
  exact lv_i2b hC.1 hC.2.1 hd rfl (h r hr n g0 g p l e R s m args below meth c Q hC hx hn hQ H locs ls hM hS hL)
theorem sd_dup {v : Value} (hd : decode k.2.1 pc = .ok (.dup, 1)) (hv : v.category = 1) (h : sm_S j k cs sl (pc + 1) lf (v :: v :: st) M o) : sm_S j k cs sl pc lf (v :: st) M o := by
  intro r hr n g0 g p l e R s m args below meth c Q hC hx hn hQ H locs ls hM hS hL
  exact lv_dup hC.1 hC.2.1 hd ((sm_tv_cat g v).trans hv) (h r hr n g0 g p l e R s m args below meth c Q hC hx hn hQ H locs ls hM hS hL)
theorem sd_pop {v : Value} (hd : decode k.2.1 pc = .ok (.pop, 1)) (hv : v.category = 1) (h : sm_S j k cs sl (pc + 1) lf st M o) : sm_S j k cs sl pc lf (v :: st) M o := by
  intro r hr n g0 g p l e R s m args below meth c Q hC hx hn hQ H locs ls hM hS hL
  exact lv_pop hC.1 hC.2.1 hd ((sm_tv_cat g v).trans hv) (h r hr n g0 g p l e R s m args below meth c Q hC hx hn hQ H locs ls hM hS hL)
theorem sd_dup2 {u v : Value} (hd : decode k.2.1 pc = .ok (.dup2, 1)) (hu : u.category = 1) (hv : v.category = 1) (h : sm_S j k cs sl (pc + 1) lf (u :: v :: u :: v :: st) M o) : sm_S j k cs sl pc lf (u :: v :: st) M o := by
  intro r hr n g0 g p l e R s m args below meth c Q hC hx hn hQ H locs ls hM hS hL
  exact lv_dup2_11 hC.1 hC.2.1 hd ((sm_tv_cat g u).trans hu) ((sm_tv_cat g v).trans hv) (h r hr n g0 g p l e R s m args below meth c Q hC hx hn hQ H locs ls hM hS hL)
theorem sd_goto {off : Int} (tgt : Nat) (hd : decode k.2.1 pc = .ok (.goto off, 3)) (ht : (pc : Int) + off = (tgt : Int)) (h : sm_S j k cs sl tgt lf st M o) : sm_S j k cs sl pc lf st M o := by
  intro r hr n g0 g p l e R s m args below meth c Q hC hx hn hQ H locs ls hM hS hL
  exact lv_goto hC.1 hC.2.1 hd ht (h r hr n g0 g p l e R s m args below meth c Q hC hx hn hQ H locs ls hM hS hL)
theorem sd_if_lt {x : Int32} {off : Int} (tgt : Nat) (hd : decode k.2.1 pc = .ok (.ifCond .lt off, 3)) (ht : (pc : Int) + off = (tgt : Int)) (h1 : x < 0 → sm_S j k cs sl tgt lf st M o1) (h2 : ¬ x < 0 → sm_S j k cs sl (pc + 3) lf st M o2) : sm_S j k cs sl pc lf (.int x :: st) M (if x < 0 then o1 else o2) := by
  intro r hr n g0 g p l e R s m args below meth c Q hC hx hn hQ H locs ls hM hS hL
  exact lv_if_lt hC.1 hC.2.1 hd ht (fun q => h1 q r ((if_pos q).symm.trans hr) n g0 g p l e R s m args below meth c Q hC hx hn hQ H locs ls hM hS hL) (fun q => h2 q r ((if_neg q).symm.trans hr) n g0 g p l e R s m args below meth c Q hC hx hn hQ H locs ls hM hS hL)
theorem sd_if_ge {x : Int32} {off : Int} (tgt : Nat) (hd : decode k.2.1 pc = .ok (.ifCond .ge off, 3)) (ht : (pc : Int) + off = (tgt : Int)) (h1 : 0 ≤ x → sm_S j k cs sl tgt lf st M o1) (h2 : ¬ 0 ≤ x → sm_S j k cs sl (pc + 3) lf st M o2) : sm_S j k cs sl pc lf (.int x :: st) M (if 0 ≤ x then o1 else o2) := by
  intro r hr n g0 g p l e R s m args below meth c Q hC hx hn hQ H locs ls hM hS hL
  exact lv_if_ge hC.1 hC.2.1 hd ht (fun q => h1 q r ((if_pos q).symm.trans hr) n g0 g p l e R s m args below meth c Q hC hx hn hQ H locs ls hM hS hL) (fun q => h2 q r ((if_neg q).symm.trans hr) n g0 g p l e R s m args below meth c Q hC hx hn hQ H locs ls hM hS hL)
theorem sd_if_gt {x : Int32} {off : Int} (tgt : Nat) (hd : decode k.2.1 pc = .ok (.ifCond .gt off, 3)) (ht : (pc : Int) + off = (tgt : Int)) (h1 : 0 < x → sm_S j k cs sl tgt lf st M o1) (h2 : ¬ 0 < x → sm_S j k cs sl (pc + 3) lf st M o2) : sm_S j k cs sl pc lf (.int x :: st) M (if 0 < x then o1 else o2) := by
  intro r hr n g0 g p l e R s m args below meth c Q hC hx hn hQ H locs ls hM hS hL
  exact lv_if_gt hC.1 hC.2.1 hd ht (fun q => h1 q r ((if_pos q).symm.trans hr) n g0 g p l e R s m args below meth c Q hC hx hn hQ H locs ls hM hS hL) (fun q => h2 q r ((if_neg q).symm.trans hr) n g0 g p l e R s m args below meth c Q hC hx hn hQ H locs ls hM hS hL)
theorem sd_if_le {x : Int32} {off : Int} (tgt : Nat) (hd : decode k.2.1 pc = .ok (.ifCond .le off, 3)) (ht : (pc : Int) + off = (tgt : Int)) (h1 : x ≤ 0 → sm_S j k cs sl tgt lf st M o1) (h2 : ¬ x ≤ 0 → sm_S j k cs sl (pc + 3) lf st M o2) : sm_S j k cs sl pc lf (.int x :: st) M (if x ≤ 0 then o1 else o2) := by
  intro r hr n g0 g p l e R s m args below meth c Q hC hx hn hQ H locs ls hM hS hL
  exact lv_if_le hC.1 hC.2.1 hd ht (fun q => h1 q r ((if_pos q).symm.trans hr) n g0 g p l e R s m args below meth c Q hC hx hn hQ H locs ls hM hS hL) (fun q => h2 q r ((if_neg q).symm.trans hr) n g0 g p l e R s m args below meth c Q hC hx hn hQ H locs ls hM hS hL)
theorem sd_if_eq {x : Int32} {off : Int} (tgt : Nat) (hd : decode k.2.1 pc = .ok (.ifCond .eq off, 3)) (ht : (pc : Int) + off = (tgt : Int)) (h1 : x = 0 → sm_S j k cs sl tgt lf st M o1) (h2 : ¬ x = 0 → sm_S j k cs sl (pc + 3) lf st M o2) : sm_S j k cs sl pc lf (.int x :: st) M (if x = 0 then o1 else o2) := by
  intro r hr n g0 g p l e R s m args below meth c Q hC hx hn hQ H locs ls hM hS hL
  exact lv_if_eq hC.1 hC.2.1 hd ht (fun q => h1 q r ((if_pos q).symm.trans hr) n g0 g p l e R s m args below meth c Q hC hx hn hQ H locs ls hM hS hL) (fun q => h2 q r ((if_neg q).symm.trans hr) n g0 g p l e R s m args below meth c Q hC hx hn hQ H locs ls hM hS hL)
theorem sd_if_ne {x : Int32} {off : Int} (tgt : Nat) (hd : decode k.2.1 pc = .ok (.ifCond .ne off, 3)) (ht : (pc : Int) + off = (tgt : Int)) (h1 : x = 0 → sm_S j k cs sl (pc + 3) lf st M o1) (h2 : ¬ x = 0 → sm_S j k cs sl tgt lf st M o2) : sm_S j k cs sl pc lf (.int x :: st) M (if x = 0 then o1 else o2) := by
  intro r hr n g0 g p l e R s m args below meth c Q hC hx hn hQ H locs ls hM hS hL
  exact lv_if_ne hC.1 hC.2.1 hd ht (fun q => h2 q r ((if_neg q).symm.trans hr) n g0 g p l e R s m args below meth c Q hC hx hn hQ H locs ls hM hS hL) (fun q => h1 q r ((if_pos q).symm.trans hr) n g0 g p l e R s m args below meth c Q hC hx hn hQ H locs ls hM hS hL)
theorem sd_ic_lt {x y : Int32} {off : Int} (tgt : Nat) (hd : decode k.2.1 pc = .ok (.if_icmp .lt off, 3)) (ht : (pc : Int) + off = (tgt : Int)) (h1 : x < y → sm_S j k cs sl tgt lf st M o1) (h2 : ¬ x < y → sm_S j k cs sl (pc + 3) lf st M o2) : sm_S j k cs sl pc lf (.int y :: .int x :: st) M (if x < y then o1 else o2) := by
  intro r hr n g0 g p l e R s m args below meth c Q hC hx hn hQ H locs ls hM hS hL
  exact lv_icmp_lt hC.1 hC.2.1 hd ht (fun q => h1 q r ((if_pos q).symm.trans hr) n g0 g p l e R s m args below meth c Q hC hx hn hQ H locs ls hM hS hL) (fun q => h2 q r ((if_neg q).symm.trans hr) n g0 g p l e R s m args below meth c Q hC hx hn hQ H locs ls hM hS hL)
theorem sd_ic_ge {x y : Int32} {off : Int} (tgt : Nat) (hd : decode k.2.1 pc = .ok (.if_icmp .ge off, 3)) (ht : (pc : Int) + off = (tgt : Int)) (h1 : y ≤ x → sm_S j k cs sl tgt lf st M o1) (h2 : ¬ y ≤ x → sm_S j k cs sl (pc + 3) lf st M o2) : sm_S j k cs sl pc lf (.int y :: .int x :: st) M (if y ≤ x then o1 else o2) := by
  intro r hr n g0 g p l e R s m args below meth c Q hC hx hn hQ H locs ls hM hS hL
  exact lv_icmp_ge hC.1 hC.2.1 hd ht (fun q => h1 q r ((if_pos q).symm.trans hr) n g0 g p l e R s m args below meth c Q hC hx hn hQ H locs ls hM hS hL) (fun q => h2 q r ((if_neg q).symm.trans hr) n g0 g p l e R s m args below meth c Q hC hx hn hQ H locs ls hM hS hL)
theorem sd_ic_gt {x y : Int32} {off : Int} (tgt : Nat) (hd : decode k.2.1 pc = .ok (.if_icmp .gt off, 3)) (ht : (pc : Int) + off = (tgt : Int)) (h1 : y < x → sm_S j k cs sl tgt lf st M o1) (h2 : ¬ y < x → sm_S j k cs sl (pc + 3) lf st M o2) : sm_S j k cs sl pc lf (.int y :: .int x :: st) M (if y < x then o1 else o2) := by
  intro r hr n g0 g p l e R s m args below meth c Q hC hx hn hQ H locs ls hM hS hL
  exact lv_icmp_gt hC.1 hC.2.1 hd ht (fun q => h1 q r ((if_pos q).symm.trans hr) n g0 g p l e R s m args below meth c Q hC hx hn hQ H locs ls hM hS hL) (fun q => h2 q r ((if_neg q).symm.trans hr) n g0 g p l e R s m args below meth c Q hC hx hn hQ H locs ls hM hS hL)
theorem sd_ic_le {x y : Int32} {off : Int} (tgt : Nat) (hd : decode k.2.1 pc = .ok (.if_icmp .le off, 3)) (ht : (pc : Int) + off = (tgt : Int)) (h1 : x ≤ y → sm_S j k cs sl tgt lf st M o1) (h2 : ¬ x ≤ y → sm_S j k cs sl (pc + 3) lf st M o2) : sm_S j k cs sl pc lf (.int y :: .int x :: st) M (if x ≤ y then o1 else o2) := by
  intro r hr n g0 g p l e R s m args below meth c Q hC hx hn hQ H locs ls hM hS hL
  exact lv_icmp_le hC.1 hC.2.1 hd ht (fun q => h1 q r ((if_pos q).symm.trans hr) n g0 g p l e R s m args below meth c Q hC hx hn hQ H locs ls hM hS hL) (fun q => h2 q r ((if_neg q).symm.trans hr) n g0 g p l e R s m args below meth c Q hC hx hn hQ H locs ls hM hS hL)
theorem sd_ic_eq {x y : Int32} {off : Int} (tgt : Nat) (hd : decode k.2.1 pc = .ok (.if_icmp .eq off, 3)) (ht : (pc : Int) + off = (tgt : Int)) (h1 : x = y → sm_S j k cs sl tgt lf st M o1) (h2 : ¬ x = y → sm_S j k cs sl (pc + 3) lf st M o2) : sm_S j k cs sl pc lf (.int y :: .int x :: st) M (if x = y then o1 else o2) := by
  intro r hr n g0 g p l e R s m args below meth c Q hC hx hn hQ H locs ls hM hS hL
  exact lv_icmp_eq hC.1 hC.2.1 hd ht (fun q => h1 q r ((if_pos q).symm.trans hr) n g0 g p l e R s m args below meth c Q hC hx hn hQ H locs ls hM hS hL) (fun q => h2 q r ((if_neg q).symm.trans hr) n g0 g p l e R s m args below meth c Q hC hx hn hQ H locs ls hM hS hL)
theorem sd_ic_ne {x y : Int32} {off : Int} (tgt : Nat) (hd : decode k.2.1 pc = .ok (.if_icmp .ne off, 3)) (ht : (pc : Int) + off = (tgt : Int)) (h1 : x = y → sm_S j k cs sl (pc + 3) lf st M o1) (h2 : ¬ x = y → sm_S j k cs sl tgt lf st M o2) : sm_S j k cs sl pc lf (.int y :: .int x :: st) M (if x = y then o1 else o2) := by
  intro r hr n g0 g p l e R s m args below meth c Q hC hx hn hQ H locs ls hM hS hL
  exact lv_icmp_ne hC.1 hC.2.1 hd ht (fun q => h2 q r ((if_neg q).symm.trans hr) n g0 g p l e R s m args below meth c Q hC hx hn hQ H locs ls hM hS hL) (fun q => h1 q r ((if_pos q).symm.trans hr) n g0 g p l e R s m args below meth c Q hC hx hn hQ H locs ls hM hS hL)
theorem sd_lc_lt {x y : Int64} {off : Int} (tgt : Nat) (hd0 : decode k.2.1 pc = .ok (.lcmp, 1)) (hd : decode k.2.1 (pc + 1) = .ok (.ifCond .lt off, 3)) (ht : ((pc + 1 : Nat) : Int) + off = (tgt : Int)) (h1 : x < y → sm_S j k cs sl tgt lf st M o1) (h2 : ¬ x < y → sm_S j k cs sl (pc + 4) lf st M o2) : sm_S j k cs sl pc lf (.long y :: .long x :: st) M (if x < y then o1 else o2) := by
  intro r hr n g0 g p l e R s m args below meth c Q hC hx hn hQ H locs ls hM hS hL
  refine W.lcmp hC.1 hC.2.1 hd0 ?_
  exact lv_if_lt hC.1 hC.2.1 hd ht (fun q => h1 ((lg_cmp_lt x y).mp q) r ((if_pos ((lg_cmp_lt x y).mp q)).symm.trans hr) n g0 g p l e R s m args below meth c Q hC hx hn hQ H locs ls hM hS hL) (fun q => h2 (fun z => q ((lg_cmp_lt x y).mpr z)) r ((if_neg (fun z => q ((lg_cmp_lt x y).mpr z))).symm.trans hr) n g0 g p l e R s m args below meth c Q hC hx hn hQ H locs ls hM hS hL)
theorem sd_lc_ge {x y : Int64} {off : Int} (tgt : Nat) (hd0 : decode k.2.1 pc = .ok (.lcmp, 1)) (hd : decode k.2.1 (pc + 1) = .ok (.ifCond .ge off, 3)) (ht : ((pc + 1 : Nat) : Int) + off = (tgt : Int)) (h1 : y ≤ x → sm_S j k cs sl tgt lf st M o1) (h2 : ¬ y ≤ x → sm_S j k cs sl (pc + 4) lf st M o2) : sm_S j k cs sl pc lf (.long y :: .long x :: st) M (if y ≤ x then o1 else o2) := by
  intro r hr n g0 g p l e R s m args below meth c Q hC hx hn hQ H locs ls hM hS hL
  refine W.lcmp hC.1 hC.2.1 hd0 ?_
  exact lv_if_ge hC.1 hC.2.1 hd ht (fun q => h1 ((lg_cmp_ge x y).mp q) r ((if_pos ((lg_cmp_ge x y).mp q)).symm.trans hr) n g0 g p l e R s m args below meth c Q hC hx hn hQ H locs ls hM hS hL) (fun q => h2 (fun z => q ((lg_cmp_ge x y).mpr z)) r ((if_neg (fun z => q ((lg_cmp_ge x y).mpr z))).symm.trans hr) n g0 g p l e R s m args below meth c Q hC hx hn hQ H locs ls hM hS hL)
theorem sd_lc_gt {x y : Int64} {off : Int} (tgt : Nat) (hd0 : decode k.2.1 pc = .ok (.lcmp, 1)) (hd : decode k.2.1 (pc + 1) = .ok (.ifCond .gt off, 3)) (ht : ((pc + 1 : Nat) : Int) + off = (tgt : Int)) (h1 : y < x → sm_S j k cs sl tgt lf st M o1) (h2 : ¬ y < x → sm_S j k cs sl (pc + 4) lf st M o2) : sm_S j k cs sl pc lf (.long y :: .long x :: st) M (if y < x then o1 else o2) := by
  intro r hr n g0 g p l e R s m args below meth c Q hC hx hn hQ H locs ls hM hS hL
  refine W.lcmp hC.1 hC.2.1 hd0 ?_
  exact lv_if_gt hC.1 hC.2.1 hd ht (fun q => h1 ((lg_cmp_gt x y).mp q) r ((if_pos ((lg_cmp_gt x y).mp q)).symm.trans hr) n g0 g p l e R s m args below meth c Q hC hx hn hQ H locs ls hM hS hL) (fun q => h2 (fun z => q ((lg_cmp_gt x y).mpr z)) r ((if_neg (fun z => q ((lg_cmp_gt x y).mpr z))).symm.trans hr) n g0 g p l e R s m args below meth c Q hC hx hn hQ H locs ls hM hS hL)
theorem sd_lc_le {x y : Int64} {off : Int} (tgt : Nat) (hd0 : decode k.2.1 pc = .ok (.lcmp, 1)) (hd : decode k.2.1 (pc + 1) = .ok (.ifCond .le off, 3)) (ht : ((pc + 1 : Nat) : Int) + off = (tgt : Int)) (h1 : x ≤ y → sm_S j k cs sl tgt lf st M o1) (h2 : ¬ x ≤ y → sm_S j k cs sl (pc + 4) lf st M o2) : sm_S j k cs sl pc lf (.long y :: .long x :: st) M (if x ≤ y then o1 else o2) := by
  intro r hr n g0 g p l e R s m args below meth c Q hC hx hn hQ H locs ls hM hS hL
  refine W.lcmp hC.1 hC.2.1 hd0 ?_
  exact lv_if_le hC.1 hC.2.1 hd ht (fun q => h1 ((lg_cmp_le x y).mp q) r ((if_pos ((lg_cmp_le x y).mp q)).symm.trans hr) n g0 g p l e R s m args below meth c Q hC hx hn hQ H locs ls hM hS hL) (fun q => h2 (fun z => q ((lg_cmp_le x y).mpr z)) r ((if_neg (fun z => q ((lg_cmp_le x y).mpr z))).symm.trans hr) n g0 g p l e R s m args below meth c Q hC hx hn hQ H locs ls hM hS hL)
theorem sd_lc_eq {x y : Int64} {off : Int} (tgt : Nat) (hd0 : decode k.2.1 pc = .ok (.lcmp, 1)) (hd : decode k.2.1 (pc + 1) = .ok (.ifCond .eq off, 3)) (ht : ((pc + 1 : Nat) : Int) + off = (tgt : Int)) (h1 : x = y → sm_S j k cs sl tgt lf st M o1) (h2 : ¬ x = y → sm_S j k cs sl (pc + 4) lf st M o2) : sm_S j k cs sl pc lf (.long y :: .long x :: st) M (if x = y then o1 else o2) := by
  intro r hr n g0 g p l e R s m args below meth c Q hC hx hn hQ H locs ls hM hS hL
  refine W.lcmp hC.1 hC.2.1 hd0 ?_
  exact lv_if_eq hC.1 hC.2.1 hd ht (fun q => h1 ((lg_cmp_eq x y).mp q) r ((if_pos ((lg_cmp_eq x y).mp q)).symm.trans hr) n g0 g p l e R s m args below meth c Q hC hx hn hQ H locs ls hM hS hL) (fun q => h2 (fun z => q ((lg_cmp_eq x y).mpr z)) r ((if_neg (fun z => q ((lg_cmp_eq x y).mpr z))).symm.trans hr) n g0 g p l e R s m args below meth c Q hC hx hn hQ H locs ls hM hS hL)
theorem sd_lc_ne {x y : Int64} {off : Int} (tgt : Nat) (hd0 : decode k.2.1 pc = .ok (.lcmp, 1)) (hd : decode k.2.1 (pc + 1) = .ok (.ifCond .ne off, 3)) (ht : ((pc + 1 : Nat) : Int) + off = (tgt : Int)) (h1 : x = y → sm_S j k cs sl (pc + 4) lf st M o1) (h2 : ¬ x = y → sm_S j k cs sl tgt lf st M o2) : sm_S j k cs sl pc lf (.long y :: .long x :: st) M (if x = y then o1 else o2) := by
  intro r hr n g0 g p l e R s m args below meth c Q hC hx hn hQ H locs ls hM hS hL
  refine W.lcmp hC.1 hC.2.1 hd0 ?_
  exact lv_if_ne hC.1 hC.2.1 hd ht (fun q => h2 (fun z => q ((lg_cmp_eq x y).mpr z)) r ((if_neg (fun z => q ((lg_cmp_eq x y).mpr z))).symm.trans hr) n g0 g p l e R s m args below meth c Q hC hx hn hQ H locs ls hM hS hL) (fun q => h1 ((lg_cmp_eq x y).mp q) r ((if_pos ((lg_cmp_eq x y).mp q)).symm.trans hr) n g0 g p l e R s m args below meth c Q hC hx hn hQ H locs ls hM hS hL)
theorem sd_none : sm_S j k cs sl pc lf st M (none : Option ρ) := by
  intro r hr
  cases hr
theorem sd_ite {c : Prop} [Decidable c] (h1 : c → sm_S j k cs sl pc lf st M o1) (h2 : ¬ c → sm_S j k cs sl pc lf st M o2) : sm_S j k cs sl pc lf st M (if c then o1 else o2) := by
  by_cases q : c
  · rw [if_pos q]; exact h1 q
  · rw [if_neg q]; exact h2 q
theorem sd_eq (he : o = o1) (h : sm_S j k cs sl pc lf st M o1) : sm_S j k cs sl pc lf st M o := he ▸ h
/-- fewer locals known -/
def sm_fg : List (Option Value) → List Bool → List (Option Value)
  | [], _ => []
  | l, [] => l
  | x :: l, b :: m => (if b then x else none) :: sm_fg l m
theorem sm_fg_at : ∀ (l : List (Option Value)) (m : List Bool) (i : Nat) (v : Value), (sm_fg l m)[i]? = some (some v) → l[i]? = some (some v)
  | [], _, _, _, h => by simp [sm_fg] at h
  | x :: l, [], i, v, h => h
  | x :: l, b :: m, 0, v, h => by
    cases b
    · simp [sm_fg] at h
    · simpa [sm_fg] using h
  | x :: l, b :: m, i + 1, v, h => by
    simp only [sm_fg, List.getElem?_cons_succ] at h ⊢
    exact sm_fg_at l m i v h
theorem sd_fg (m : List Bool) (he : sm_fg lf m = lf2) (h : sm_S j k cs sl pc lf2 st M o) : sm_S j k cs sl pc lf st M o := by
  intro r hr n g0 g p l e R s m2 args below meth c Q hC hx hn hQ H locs ls hM hS hL
  exact h r hr n g0 g p l e R s m2 args below meth c Q hC hx hn hQ H locs ls hM hS ⟨hL.1, hL.2.1, fun i v hv => hL.2.2 i v (sm_fg_at lf m i v (he ▸ hv))⟩
/-- stores into locals -/
def sm_kl (lf : List (Option Value)) (i : Nat) : List (Option Value) := match i with
  | 0 => lf
  | i + 1 => match lf[i]? with
    | some (some (.long _)) => lf.set i none
    | some (some (.double _)) => lf.set i none
    | _ => lf
def sm_s1 (lf : List (Option Value)) (i : Nat) (v : Value) : List (Option Value) := (sm_kl lf i).set i (some v)
def sm_s2 (lf : List (Option Value)) (i : Nat) (v : Value) : List (Option Value) := ((sm_kl lf i).set i (some v)).set (i + 1) none
def sm_ll (g : sm_G) (lf : List (Option Value)) : List (Nat × Value) := lf.zipIdx.filterMap (fun q => q.1.map (fun v => (q.2, sm_tv g v)))
theorem sm_ll_in {g : sm_G} {lf : List (Option Value)} {i : Nat} {v : Value} (h : lf[i]? = some (some v)) : (i, sm_tv g v) ∈ sm_ll g lf := by
  refine List.mem_filterMap.mpr ⟨(some v, i), ?_, rfl⟩
  rw [List.mem_zipIdx_iff_getElem?]
  exact h
theorem sm_ll_of {g : sm_G} {lf : List (Option Value)} {q : Nat × Value} (h : q ∈ sm_ll g lf) : ∃ v, lf[q.1]? = some (some v) ∧ q.2 = sm_tv g v := by
  obtain ⟨x, hx, he⟩ := List.mem_filterMap.mp h
  rw [List.mem_zipIdx_iff_getElem?] at hx
  obtain ⟨a, b⟩ := x
  cases a with
  | none => simp at he
  | some v => simp at he; subst he; exact ⟨v, hx, rfl⟩
theorem sm_L.lv {g : sm_G} {n : Nat} {lf : List (Option Value)} {ls : Array Slot} (h : sm_L g n lf ls) : lv_has ls n (sm_ll g lf) := by
  refine ⟨h.1, h.2.1, fun q hq => ?_⟩
  obtain ⟨v, h1, h2⟩ := sm_ll_of hq
  rw [h2]
  exact h.2.2 _ _ h1
theorem sm_kl_at {lf : List (Option Value)} {i x : Nat} {v : Value} (h : (sm_kl lf i)[x]? = some (some v)) : lf[x]? = some (some v) ∧ ¬ (x + 1 = i ∧ v.category = 2) := by
  cases i with
  | zero => exact ⟨h, fun q => by omega⟩
  | succ i =>
    unfold sm_kl at h
    by_cases hx : x = i
    · subst hx
      dsimp only at h
      split at h
      · rename_i he
        rw [List.getElem?_set_self (List.getElem?_eq_some_iff.mp he).1] at h
        cases h
      · rename_i he
        rw [List.getElem?_set_self (List.getElem?_eq_some_iff.mp he).1] at h
        cases h
      · rename_i h1 h2
        refine ⟨h, fun q => ?_⟩
        cases v with
        | long z => exact h1 z h
        | double z => exact h2 z h
        | _ => simp [Value.category] at q
    · refine ⟨?_, fun q => hx (by omega)⟩
      dsimp only at h
      split at h
      · rwa [List.getElem?_set_ne (Ne.symm hx)] at h
      · rwa [List.getElem?_set_ne (Ne.symm hx)] at h
      · exact h
theorem sm_s1_ok {g : sm_G} {n i : Nat} {lf : List (Option Value)} {v : Value} {ls' : Array Slot} (h' : lv_has ls' n ((i, sm_tv g v) :: (sm_ll g lf).filter (fun q => !(q.1 == i) && !(q.1 + 1 == i && q.2.category == 2)))) : sm_L g n (sm_s1 lf i v) ls' := by
  refine ⟨h'.1, h'.2.1, fun x u hu => ?_⟩
  unfold sm_s1 at hu
  by_cases e : x = i
  · subst e
    have hl : x < (sm_kl lf x).length := by
      have := (List.getElem?_eq_some_iff.mp hu).1
      rwa [List.length_set] at this
    rw [List.getElem?_set_self hl] at hu
    cases hu
    exact h'.2.2 _ List.mem_cons_self
  · rw [List.getElem?_set_ne (Ne.symm e)] at hu
    obtain ⟨h1, h2⟩ := sm_kl_at hu
    refine h'.2.2 _ (List.mem_cons_of_mem _ (List.mem_filter.mpr ⟨sm_ll_in h1, ?_⟩))
    have h3 : (sm_tv g u).category = u.category := sm_tv_cat g u
    simp only [h3]
    simp [e]
    omega
theorem sm_s2_ok {g : sm_G} {n i : Nat} {lf : List (Option Value)} {v : Value} {ls' : Array Slot} (h' : lv_has ls' n ((i, sm_tv g v) :: (sm_ll g lf).filter (fun q => !(q.1 == i) && (!(q.1 == i + 1) && !(q.1 + 1 == i && q.2.category == 2))))) : sm_L g n (sm_s2 lf i v) ls' := by
  refine ⟨h'.1, h'.2.1, fun x u hu => ?_⟩
  unfold sm_s2 at hu
  by_cases e1 : x = i + 1
  · subst e1
    have hl : i + 1 < ((sm_kl lf i).set i (some v)).length := by
      have := (List.getElem?_eq_some_iff.mp hu).1
      rwa [List.length_set] at this
    rw [List.getElem?_set_self hl] at hu
    cases hu
  · rw [List.getElem?_set_ne (Ne.symm e1)] at hu
    by_cases e : x = i
    · subst e
      have hl : x < (sm_kl lf x).length := by
        have := (List.getElem?_eq_some_iff.mp hu).1
        rwa [List.length_set] at this
      rw [List.getElem?_set_self hl] at hu
      cases hu
      exact h'.2.2 _ List.mem_cons_self
    · rw [List.getElem?_set_ne (Ne.symm e)] at hu
      obtain ⟨h1, h2⟩ := sm_kl_at hu
      refine h'.2.2 _ (List.mem_cons_of_mem _ (List.mem_filter.mpr ⟨sm_ll_in h1, ?_⟩))
      have h3 : (sm_tv g u).category = u.category := sm_tv_cat g u
      simp only [h3]
      simp [e, e1]
      omega
theorem sd_istore_n {z : Fin 4} {x : Int32} (hd : decode k.2.1 pc = .ok (.istore_n z, 1)) (hz : (z : Nat) < k.2.2.1) (he : sm_s1 lf (z : Nat) (.int x) = lf2) (h : sm_S j k cs sl (pc + 1) lf2 st M o) : sm_S j k cs sl pc lf (.int x :: st) M o := by
  intro r hr n g0 g p l e R s m args below meth c Q hC hx hn hQ H locs ls hM hS hL
  exact lv_istore_n hC.1 hC.2.1 hd rfl hL.lv hz rfl (fun ls2 h2 => h r hr n g0 g p l e R s m args below meth c Q hC hx hn hQ H locs ls2 hM hS (he ▸ sm_s1_ok (v := .int x) h2))
theorem sd_istore {i : Nat} {x : Int32} (hd : decode k.2.1 pc = .ok (.istore i, 2)) (hz : i < k.2.2.1) (he : sm_s1 lf i (.int x) = lf2) (h : sm_S j k cs sl (pc + 2) lf2 st M o) : sm_S j k cs sl pc lf (.int x :: st) M o := by
  intro r hr n g0 g p l e R s m args below meth c Q hC hx hn hQ H locs ls hM hS hL
  exact lv_istore hC.1 hC.2.1 hd hL.lv hz rfl (fun ls2 h2 => h r hr n g0 g p l e R s m args below meth c Q hC hx hn hQ H locs ls2 hM hS (he ▸ sm_s1_ok (v := .int x) h2))
theorem sd_astore_n {z : Fin 4} {x : Nat} (hd : decode k.2.1 pc = .ok (.astore_n z, 1)) (hz : (z : Nat) < k.2.2.1) (he : sm_s1 lf (z : Nat) (.ref x) = lf2) (h : sm_S j k cs sl (pc + 1) lf2 st M o) : sm_S j k cs sl pc lf (.ref x :: st) M o := by
  intro r hr n g0 g p l e R s m args below meth c Q hC hx hn hQ H locs ls hM hS hL
  exact lv_astore_n hC.1 hC.2.1 hd rfl hL.lv hz rfl (fun ls2 h2 => h r hr n g0 g p l e R s m args below meth c Q hC hx hn hQ H locs ls2 hM hS (he ▸ sm_s1_ok (v := .ref x) h2))
theorem sd_astore {i : Nat} {x : Nat} (hd : decode k.2.1 pc = .ok (.astore i, 2)) (hz : i < k.2.2.1) (he : sm_s1 lf i (.ref x) = lf2) (h : sm_S j k cs sl (pc + 2) lf2 st M o) : sm_S j k cs sl pc lf (.ref x :: st) M o := by
  intro r hr n g0 g p l e R s m args below meth c Q hC hx hn hQ H locs ls hM hS hL
  exact lv_astore hC.1 hC.2.1 hd hL.lv hz rfl (fun ls2 h2 => h r hr n g0 g p l e R s m args below meth c Q hC hx hn hQ H locs ls2 hM hS (he ▸ sm_s1_ok (v := .ref x) h2))
theorem sd_lstore_n {z : Fin 4} {x : Int64} (hd : decode k.2.1 pc = .ok (.lstore_n z, 1)) (hz : (z : Nat) + 1 < k.2.2.1) (he : sm_s2 lf (z : Nat) (.long x) = lf2) (h : sm_S j k cs sl (pc + 1) lf2 st M o) : sm_S j k cs sl pc lf (.long x :: st) M o := by
  intro r hr n g0 g p l e R s m args below meth c Q hC hx hn hQ H locs ls hM hS hL
  exact lv_lstore_n hC.1 hC.2.1 hd rfl hL.lv hz rfl (fun ls2 h2 => h r hr n g0 g p l e R s m args below meth c Q hC hx hn hQ H locs ls2 hM hS (he ▸ sm_s2_ok (v := .long x) h2))
theorem sd_lstore {i : Nat} {x : Int64} (hd : decode k.2.1 pc = .ok (.lstore i, 2)) (hz : i + 1 < k.2.2.1) (he : sm_s2 lf i (.long x) = lf2) (h : sm_S j k cs sl (pc + 2) lf2 st M o) : sm_S j k cs sl pc lf (.long x :: st) M o := by
  intro r hr n g0 g p l e R s m args below meth c Q hC hx hn hQ H locs ls hM hS hL
  exact lv_lstore hC.1 hC.2.1 hd hL.lv hz rfl (fun ls2 h2 => h r hr n g0 g p l e R s m args below meth c Q hC hx hn hQ H locs ls2 hM hS (he ▸ sm_s2_ok (v := .long x) h2))
theorem sd_iinc {i : Nat} {z : Int} {x cc : Int32} (hd : decode k.2.1 pc = .ok (.iinc i z, 3)) (hz : i < k.2.2.1) (hl : lf[i]? = some (some (.int x))) (hc : Int32.ofInt z = cc) (he : sm_s1 lf i (.int (x + cc)) = lf2) (h : sm_S j k cs sl (pc + 3) lf2 st M o) : sm_S j k cs sl pc lf st M o := by
  intro r hr n g0 g p l e R s m args below meth c Q hC hx hn hQ H locs ls hM hS hL
  obtain ⟨q, hq⟩ := List.getElem?_of_mem (sm_ll_in (g := g) hl)
  exact lv_iinc (v := x + cc) hC.1 hC.2.1 hd hL.lv hq (by rw [hc]) hz rfl (fun ls2 h2 => h r hr n g0 g p l e R s m args below meth c Q hC hx hn hQ H locs ls2 hM hS (he ▸ sm_s1_ok (v := .int (x + cc)) h2))
/-- a name for what is stored -/
def sm_n {α ρ : Type} (x : α) (K : α → Option ρ) : Option ρ := K x
theorem sd_ni {x : Int32} {K : Int32 → Option ρ} (h : ∀ y : Int32, sm_S j k cs sl pc lf (.int y :: st) M (K y)) : sm_S j k cs sl pc lf (.int x :: st) M (sm_n x K) := h x
theorem sd_nl {x : Int64} {K : Int64 → Option ρ} (h : ∀ y : Int64, sm_S j k cs sl pc lf (.long y :: st) M (K y)) : sm_S j k cs sl pc lf (.long x :: st) M (sm_n x K) := h x
theorem sd_swi {dflt lo hi : Int} {offs : Array Int} {len : Nat} {x : Int32} {off : Int} (tgt : Nat) (hd : decode k.2.1 pc = .ok (.tableswitch dflt lo hi offs, len)) (h1 : ¬ x.toInt < lo) (h2 : ¬ hi < x.toInt) (ho : offs[(x.toInt - lo).toNat]? = some off) (ht : (pc : Int) + off = (tgt : Int)) (h : sm_S j k cs sl tgt lf st M o) : sm_S j k cs sl pc lf (.int x :: st) M o := by
  intro r hr n g0 g p l e R s m args below meth c Q hC hx hn hQ H locs ls hM hS hL
  exact lv_tableIn hC.1 hC.2.1 hd h1 h2 ho ht (h r hr n g0 g p l e R s m args below meth c Q hC hx hn hQ H locs ls hM hS hL)
theorem sd_swo {dflt lo hi : Int} {offs : Array Int} {len : Nat} {x : Int32} (tgt : Nat) (hd : decode k.2.1 pc = .ok (.tableswitch dflt lo hi offs, len)) (hh : x.toInt < lo ∨ hi < x.toInt) (ht : (pc : Int) + dflt = (tgt : Int)) (h : sm_S j k cs sl tgt lf st M o) : sm_S j k cs sl pc lf (.int x :: st) M o := by
  intro r hr n g0 g p l e R s m args below meth c Q hC hx hn hQ H locs ls hM hS hL
  exact lv_tableOut hC.1 hC.2.1 hd hh ht (h r hr n g0 g p l e R s m args below meth c Q hC hx hn hQ H locs ls hM hS hL)
end
