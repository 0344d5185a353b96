section
section GRA
variable {E : gE} {d : Nat} {y : gy} {pc : Nat} {lv lv2 : List (Nat × gv)} {st : List gv} {x : gd} {f : gf} {Q : gr → gd → gf → Prop}
theorem T_iconst {n : Int} {v : Int32} (hd : decode y.2.1 pc = .ok (.iconst n, 1)) (hv : Int32.ofInt n = v) (k : T E d y (pc + 1) lv (vi v :: st) x f Q) : T E d y pc lv (st) x f Q :=
  T_step (fun p e R s m args below meth c A H locs cells slots ls ad Q9 C hP hS hl kk => lv_iconst C.1.1 C.1.2.1 hd hv (kk ls hl)) k
theorem T_bipush {n : Int} {v : Int32} (hd : decode y.2.1 pc = .ok (.bipush n, 2)) (hv : (Int8.ofInt n).toInt32 = v) (k : T E d y (pc + 2) lv (vi v :: st) x f Q) : T E d y pc lv (st) x f Q :=
  T_step (fun p e R s m args below meth c A H locs cells slots ls ad Q9 C hP hS hl kk => lv_bipush C.1.1 C.1.2.1 hd hv (kk ls hl)) k
theorem T_sipush {n : Int} {v : Int32} (hd : decode y.2.1 pc = .ok (.sipush n, 3)) (hv : (Int16.ofInt n).toInt32 = v) (k : T E d y (pc + 3) lv (vi v :: st) x f Q) : T E d y pc lv (st) x f Q :=
  T_step (fun p e R s m args below meth c A H locs cells slots ls ad Q9 C hP hS hl kk => lv_sipush C.1.1 C.1.2.1 hd hv (kk ls hl)) k
theorem T_lconst {n : Fin 2} {v : Int64} (hd : decode y.2.1 pc = .ok (.lconst n, 1)) (hv : Int64.ofNat (n : Nat) = v) (k : T E d y (pc + 1) lv (vl v :: st) x f Q) : T E d y pc lv (st) x f Q :=
  T_step (fun p e R s m args below meth c A H locs cells slots ls ad Q9 C hP hS hl kk => lv_lconst C.1.1 C.1.2.1 hd hv (kk ls hl)) k
theorem T_ldc {i : Nat} {v : Int32} (hd : decode y.2.1 pc = .ok (.ldc i, 2)) (hw : Cond.constant y.1.cls i v ∈ W0) (k : T E d y (pc + 2) lv (vi v :: st) x f Q) : T E d y pc lv (st) x f Q :=
  T_step (fun p e R s m args below meth c A H locs cells slots ls ad Q9 C hP hS hl kk => lv_ldc C.1.1 C.1.2.1 C.1.2.2.2.1 (C.1.2.2.2.2 _ hw) hd (kk ls hl)) k
theorem T_ldcw {i : Nat} {v : Int32} (hd : decode y.2.1 pc = .ok (.ldc_w i, 3)) (hw : Cond.constant y.1.cls i v ∈ W0) (k : T E d y (pc + 3) lv (vi v :: st) x f Q) : T E d y pc lv (st) x f Q :=
  T_step (fun p e R s m args below meth c A H locs cells slots ls ad Q9 C hP hS hl kk => lv_ldcw C.1.1 C.1.2.1 C.1.2.2.2.1 (C.1.2.2.2.2 _ hw) hd (kk ls hl)) k
theorem glc_at {ad : Nat → Nat} {lv : List (Nat × gv)} {k i : Nat} {v : gv} (h : lv[k]? = some (i, v)) : (glc ad lv)[k]? = some (i, gcv ad v) := by
  rw [glc, List.getElem?_map, h]; rfl
theorem T_iload_n {n : Fin 4} {i : Nat} {a : Int32} (k9 : Nat) (hd : decode y.2.1 pc = .ok (.iload_n n, 1)) (hi : (n : Nat) = i) (h9 : lv[k9]? = some (i, vi a)) (k : T E d y (pc + 1) lv (vi a :: st) x f Q) : T E d y pc lv (st) x f Q :=
  T_step (fun p e R s m args below meth c A H locs cells slots ls ad Q9 C hP hS hl kk => lv_iload_n C.1.1 C.1.2.1 hd hi (lv_at hl k9 (glc_at h9)) (kk ls hl)) k
theorem T_iload {i : Nat} {a : Int32} (k9 : Nat) (hd : decode y.2.1 pc = .ok (.iload i, 2)) (h9 : lv[k9]? = some (i, vi a)) (k : T E d y (pc + 2) lv (vi a :: st) x f Q) : T E d y pc lv (st) x f Q :=
  T_step (fun p e R s m args below meth c A H locs cells slots ls ad Q9 C hP hS hl kk => lv_iload C.1.1 C.1.2.1 hd (lv_at hl k9 (glc_at h9)) (kk ls hl)) k
theorem T_lload_n {n : Fin 4} {i : Nat} {a : Int64} (k9 : Nat) (hd : decode y.2.1 pc = .ok (.lload_n n, 1)) (hi : (n : Nat) = i) (h9 : lv[k9]? = some (i, vl a)) (k : T E d y (pc + 1) lv (vl a :: st) x f Q) : T E d y pc lv (st) x f Q :=
  T_step (fun p e R s m args below meth c A H locs cells slots ls ad Q9 C hP hS hl kk => lv_lload_n C.1.1 C.1.2.1 hd hi (lv_at hl k9 (glc_at h9)) (kk ls hl)) k
theorem T_aload_n {n : Fin 4} {i : Nat} {a : Nat} (k9 : Nat) (hd : decode y.2.1 pc = .ok (.aload_n n, 1)) (hi : (n : Nat) = i) (h9 : lv[k9]? = some (i, vr a)) (k : T E d y (pc + 1) lv (vr a :: st) x f Q) : T E d y pc lv (st) x f Q :=
  T_step (fun p e R s m args below meth c A H locs cells slots ls ad Q9 C hP hS hl kk => lv_aload_n C.1.1 C.1.2.1 hd hi (lv_at hl k9 (glc_at h9)) (kk ls hl)) k
theorem T_aload {i : Nat} {a : Nat} (k9 : Nat) (hd : decode y.2.1 pc = .ok (.aload i, 2)) (h9 : lv[k9]? = some (i, vr a)) (k : T E d y (pc + 2) lv (vr a :: st) x f Q) : T E d y pc lv (st) x f Q :=
  T_step (fun p e R s m args below meth c A H locs cells slots ls ad Q9 C hP hS hl kk => lv_aload C.1.1 C.1.2.1 hd (lv_at hl k9 (glc_at h9)) (kk ls hl)) k
def gis2 (v : gv) : Bool := match v with
  | .inr (.inl _) => true
  | _ => false
theorem gcv_cat (ad : Nat → Nat) (v : gv) : ((gcv ad v).category == 2) = gis2 v := by
  rcases v with a | a | a
  · rfl
  · rfl
  · cases a <;> rfl
def gst1 (i : Nat) (lv : List (Nat × gv)) : List (Nat × gv) := lv.filter (fun q => !(q.1 == i) && !(q.1 + 1 == i && gis2 q.2))
theorem gst1_c {ad : Nat → Nat} {i : Nat} {v : gv} {lv lv2 : List (Nat × gv)} (h : (i, v) :: gst1 i lv = lv2) : (i, gcv ad v) :: (glc ad lv).filter (fun q => !(q.1 == i) && !(q.1 + 1 == i && q.2.category == 2)) = glc ad lv2 := by
  rw [← h, glc, glc, List.map_cons, gst1, List.filter_map]
  congr 3
  funext q
  simp [gcv_cat]
theorem T_istore_n {n : Fin 4} {i : Nat} {a : Int32} (hd : decode y.2.1 pc = .ok (.istore_n n, 1)) (hi : (n : Nat) = i) (hn : i < y.2.2.1) (h9 : (i, vi a) :: gst1 i lv = lv2) (k : T E d y (pc + 1) lv2 st x f Q) : T E d y pc lv (vi a :: st) x f Q :=
  T_step (fun p e R s m args below meth c A H locs cells slots ls ad Q9 C hP hS hl kk => lv_istore_n C.1.1 C.1.2.1 hd hi hl hn (gst1_c h9) kk) k
theorem T_istore {i : Nat} {a : Int32} (hd : decode y.2.1 pc = .ok (.istore i, 2)) (hn : i < y.2.2.1) (h9 : (i, vi a) :: gst1 i lv = lv2) (k : T E d y (pc + 2) lv2 st x f Q) : T E d y pc lv (vi a :: st) x f Q :=
  T_step (fun p e R s m args below meth c A H locs cells slots ls ad Q9 C hP hS hl kk => lv_istore C.1.1 C.1.2.1 hd hl hn (gst1_c h9) kk) k
theorem T_astore_n {n : Fin 4} {i : Nat} {a : Nat} (hd : decode y.2.1 pc = .ok (.astore_n n, 1)) (hi : (n : Nat) = i) (hn : i < y.2.2.1) (h9 : (i, vr a) :: gst1 i lv = lv2) (k : T E d y (pc + 1) lv2 st x f Q) : T E d y pc lv (vr a :: st) x f Q :=
  T_step (fun p e R s m args below meth c A H locs cells slots ls ad Q9 C hP hS hl kk => lv_astore_n C.1.1 C.1.2.1 hd hi hl hn (gst1_c h9) kk) k
theorem T_iinc {i : Nat} {n : Int} {a v : Int32} (k9 : Nat) (hd : decode y.2.1 pc = .ok (.iinc i n, 3)) (h8 : lv[k9]? = some (i, vi a)) (hv : a + Int32.ofInt n = v) (hn : i < y.2.2.1) (h9 : (i, vi v) :: gst1 i lv = lv2) (k : T E d y (pc + 3) lv2 st x f Q) : T E d y pc lv st x f Q :=
  T_step (fun p e R s m args below meth c A H locs cells slots ls ad Q9 C hP hS hl kk => lv_iinc C.1.1 C.1.2.1 hd hl (glc_at h8) hv hn (gst1_c h9) kk) k
theorem T_iadd {a b : Int32} (hd : decode y.2.1 pc = .ok (.iadd, 1)) (k : T E d y (pc + 1) lv (vi (a + b) :: st) x f Q) : T E d y pc lv (vi b :: vi a :: st) x f Q :=
  T_step (fun p e R s m args below meth c A H locs cells slots ls ad Q9 C hP hS hl kk => lv_iadd C.1.1 C.1.2.1 hd (kk ls hl)) k
theorem T_isub {a b : Int32} (hd : decode y.2.1 pc = .ok (.isub, 1)) (k : T E d y (pc + 1) lv (vi (a - b) :: st) x f Q) : T E d y pc lv (vi b :: vi a :: st) x f Q :=
  T_step (fun p e R s m args below meth c A H locs cells slots ls ad Q9 C hP hS hl kk => lv_isub C.1.1 C.1.2.1 hd (kk ls hl)) k
theorem T_imul {a b : Int32} (hd : decode y.2.1 pc = .ok (.imul, 1)) (k : T E d y (pc + 1) lv (vi (a * b) :: st) x f Q) : T E d y pc lv (vi b :: vi a :: st) x f Q :=
  T_step (fun p e R s m args below meth c A H locs cells slots ls ad Q9 C hP hS hl kk => lv_imul C.1.1 C.1.2.1 hd (kk ls hl)) k
theorem T_iand {a b : Int32} (hd : decode y.2.1 pc = .ok (.iand, 1)) (k : T E d y (pc + 1) lv (vi (a &&& b) :: st) x f Q) : T E d y pc lv (vi b :: vi a :: st) x f Q :=
  T_step (fun p e R s m args below meth c A H locs cells slots ls ad Q9 C hP hS hl kk => lv_iand C.1.1 C.1.2.1 hd (kk ls hl)) k
theorem T_ior {a b : Int32} (hd : decode y.2.1 pc = .ok (.ior, 1)) (k : T E d y (pc + 1) lv (vi (a ||| b) :: st) x f Q) : T E d y pc lv (vi b :: vi a :: st) x f Q :=
  T_step (fun p e R s m args below meth c A H locs cells slots ls ad Q9 C hP hS hl kk => lv_ior C.1.1 C.1.2.1 hd (kk ls hl)) k
theorem T_ixor {a b : Int32} (hd : decode y.2.1 pc = .ok (.ixor, 1)) (k : T E d y (pc + 1) lv (vi (a ^^^ b) :: st) x f Q) : T E d y pc lv (vi b :: vi a :: st) x f Q :=
  T_step (fun p e R s m args below meth c A H locs cells slots ls ad Q9 C hP hS hl kk => lv_ixor C.1.1 C.1.2.1 hd (kk ls hl)) k
theorem T_land {a b : Int64} (hd : decode y.2.1 pc = .ok (.land, 1)) (k : T E d y (pc + 1) lv (vl (a &&& b) :: st) x f Q) : T E d y pc lv (vl b :: vl a :: st) x f Q :=
  T_step (fun p e R s m args below meth c A H locs cells slots ls ad Q9 C hP hS hl kk => lv_land C.1.1 C.1.2.1 hd (kk ls hl)) k
theorem T_lor {a b : Int64} (hd : decode y.2.1 pc = .ok (.lor, 1)) (k : T E d y (pc + 1) lv (vl (a ||| b) :: st) x f Q) : T E d y pc lv (vl b :: vl a :: st) x f Q :=
  T_step (fun p e R s m args below meth c A H locs cells slots ls ad Q9 C hP hS hl kk => lv_lor C.1.1 C.1.2.1 hd (kk ls hl)) k
theorem T_idiv {a b : Int32} (hd : decode y.2.1 pc = .ok (.idiv, 1)) (h0 : ¬ b = 0) (k : T E d y (pc + 1) lv (vi (a / b) :: st) x f Q) : T E d y pc lv (vi b :: vi a :: st) x f Q :=
  T_step (fun p e R s m args below meth c A H locs cells slots ls ad Q9 C hP hS hl kk => lv_idiv C.1.1 C.1.2.1 hd h0 (kk ls hl)) k
theorem T_irem {a b : Int32} (hd : decode y.2.1 pc = .ok (.irem, 1)) (h0 : ¬ b = 0) (k : T E d y (pc + 1) lv (vi (a - a / b * b) :: st) x f Q) : T E d y pc lv (vi b :: vi a :: st) x f Q :=
  T_step (fun p e R s m args below meth c A H locs cells slots ls ad Q9 C hP hS hl kk => lv_irem C.1.1 C.1.2.1 hd h0 (kk ls hl)) k
theorem T_ineg {a : Int32} (hd : decode y.2.1 pc = .ok (.ineg, 1)) (k : T E d y (pc + 1) lv (vi (-a) :: st) x f Q) : T E d y pc lv (vi a :: st) x f Q :=
  T_step (fun p e R s m args below meth c A H locs cells slots ls ad Q9 C hP hS hl kk => lv_ineg C.1.1 C.1.2.1 hd (kk ls hl)) k
theorem T_ishl {a b : Int32} (hd : decode y.2.1 pc = .ok (.ishl, 1)) (k : T E d y (pc + 1) lv (vi (a <<< (b &&& 31)) :: st) x f Q) : T E d y pc lv (vi b :: vi a :: st) x f Q :=
  T_step (fun p e R s m args below meth c A H locs cells slots ls ad Q9 C hP hS hl kk => lv_ishl C.1.1 C.1.2.1 hd (kk ls hl)) k
theorem T_ishr {a b : Int32} (hd : decode y.2.1 pc = .ok (.ishr, 1)) (k : T E d y (pc + 1) lv (vi (a >>> (b &&& 31)) :: st) x f Q) : T E d y pc lv (vi b :: vi a :: st) x f Q :=
  T_step (fun p e R s m args below meth c A H locs cells slots ls ad Q9 C hP hS hl kk => lv_ishr C.1.1 C.1.2.1 hd (kk ls hl)) k
theorem T_iushr {a b : Int32} (hd : decode y.2.1 pc = .ok (.iushr, 1)) (k : T E d y (pc + 1) lv (vi ((a.toUInt32 >>> (b.toUInt32 &&& Int32.toUInt32 31)).toInt32) :: st) x f Q) : T E d y pc lv (vi b :: vi a :: st) x f Q :=
  T_step (fun p e R s m args below meth c A H locs cells slots ls ad Q9 C hP hS hl kk => lv_iushr C.1.1 C.1.2.1 hd rfl (kk ls hl)) k
theorem T_lushr {a : Int64} {b : Int32} (hd : decode y.2.1 pc = .ok (.lushr, 1)) (k : T E d y (pc + 1) lv (vl ((a.toUInt64 >>> (b.toInt64.toUInt64 &&& Int64.toUInt64 63)).toInt64) :: st) x f Q) : T E d y pc lv (vi b :: vl a :: st) x f Q :=
  T_step (fun p e R s m args below meth c A H locs cells slots ls ad Q9 C hP hS hl kk => lv_lushr C.1.1 C.1.2.1 hd rfl (kk ls hl)) k
theorem T_lshl {a : Int64} {b : Int32} (hd : decode y.2.1 pc = .ok (.lshl, 1)) (k : T E d y (pc + 1) lv (vl (a <<< (b.toInt64 &&& 63)) :: st) x f Q) : T E d y pc lv (vi b :: vl a :: st) x f Q :=
  T_step (fun p e R s m args below meth c A H locs cells slots ls ad Q9 C hP hS hl kk => lv_lshl C.1.1 C.1.2.1 hd rfl (kk ls hl)) k
theorem T_lshr {a : Int64} {b : Int32} (hd : decode y.2.1 pc = .ok (.lshr, 1)) (k : T E d y (pc + 1) lv (vl (a >>> (b.toInt64 &&& 63)) :: st) x f Q) : T E d y pc lv (vi b :: vl a :: st) x f Q :=
  T_step (fun p e R s m args below meth c A H locs cells slots ls ad Q9 C hP hS hl kk => lv_lshr C.1.1 C.1.2.1 hd rfl (kk ls hl)) k
theorem T_i2l {a : Int32} (hd : decode y.2.1 pc = .ok (.i2l, 1)) (k : T E d y (pc + 1) lv (vl a.toInt64 :: st) x f Q) : T E d y pc lv (vi a :: st) x f Q :=
  T_step (fun p e R s m args below meth c A H locs cells slots ls ad Q9 C hP hS hl kk => lv_i2l C.1.1 C.1.2.1 hd rfl (kk ls hl)) k
theorem T_l2i {a : Int64} (hd : decode y.2.1 pc = .ok (.l2i, 1)) (k : T E d y (pc + 1) lv (vi a.toInt32 :: st) x f Q) : T E d y pc lv (vl a :: st) x f Q :=
  T_step (fun p e R s m args below meth c A H locs cells slots ls ad Q9 C hP hS hl kk => lv_l2i C.1.1 C.1.2.1 hd rfl (kk ls hl)) k
theorem T_i2b {a : Int32} (hd : decode y.2.1 pc = .ok (.i2b, 1)) (k : T E d y (pc + 1) lv (vi a.toInt8.toInt32 :: st) x f Q) : T E d y pc lv (vi a :: st) x f Q :=
  T_step (fun p e R s m args below meth c A H locs cells slots ls ad Q9 C hP hS hl kk => lv_i2b C.1.1 C.1.2.1 hd rfl (kk ls hl)) k
theorem T_i2c {a : Int32} (hd : decode y.2.1 pc = .ok (.i2c, 1)) (k : T E d y (pc + 1) lv (vi (a.toUInt32 % 65536).toInt32 :: st) x f Q) : T E d y pc lv (vi a :: st) x f Q :=
  T_step (fun p e R s m args below meth c A H locs cells slots ls ad Q9 C hP hS hl kk => lv_i2c C.1.1 C.1.2.1 hd rfl (kk ls hl)) k
theorem T_lcmp {a b : Int64} (hd : decode y.2.1 pc = .ok (.lcmp, 1)) (k : T E d y (pc + 1) lv (vi (lg_cmp a b) :: st) x f Q) : T E d y pc lv (vl b :: vl a :: st) x f Q :=
  T_step (fun p e R s m args below meth c A H locs cells slots ls ad Q9 C hP hS hl kk => W.lcmp C.1.1 C.1.2.1 hd (kk ls hl)) k
theorem gcv_1 {ad : Nat → Nat} {v : gv} (h : gis2 v = false) : (gcv ad v).category = 1 := by
  rcases v with a | a | a
  · rfl
  · cases h
  · cases a <;> rfl
theorem T_dup {v : gv} (hd : decode y.2.1 pc = .ok (.dup, 1)) (h1 : gis2 v = false) (k : T E d y (pc + 1) lv (v :: v :: st) x f Q) : T E d y pc lv (v :: st) x f Q :=
  T_step (fun p e R s m args below meth c A H locs cells slots ls ad Q9 C hP hS hl kk => lv_dup C.1.1 C.1.2.1 hd (gcv_1 h1) (kk ls hl)) k
theorem T_pop {v : gv} (hd : decode y.2.1 pc = .ok (.pop, 1)) (h1 : gis2 v = false) (k : T E d y (pc + 1) lv (st) x f Q) : T E d y pc lv (v :: st) x f Q :=
  T_step (fun p e R s m args below meth c A H locs cells slots ls ad Q9 C hP hS hl kk => lv_pop C.1.1 C.1.2.1 hd (gcv_1 h1) (kk ls hl)) k
theorem T_dup2 {v w : gv} (hd : decode y.2.1 pc = .ok (.dup2, 1)) (h1 : gis2 v = false) (h2 : gis2 w = false) (k : T E d y (pc + 1) lv (v :: w :: v :: w :: st) x f Q) : T E d y pc lv (v :: w :: st) x f Q :=
  T_step (fun p e R s m args below meth c A H locs cells slots ls ad Q9 C hP hS hl kk => lv_dup2_11 C.1.1 C.1.2.1 hd (gcv_1 h1) (gcv_1 h2) (kk ls hl)) k
theorem T_goto {off : Int} (tgt : Nat) (hd : decode y.2.1 pc = .ok (.goto off, 3)) (ht : (pc : Int) + off = (tgt : Int)) (k : T E d y tgt lv st x f Q) : T E d y pc lv st x f Q :=
  T_step (fun p e R s m args below meth c A H locs cells slots ls ad Q9 C hP hS hl kk => lv_goto C.1.1 C.1.2.1 hd ht (kk ls hl)) k
theorem T_if_eq {a : Int32} {off : Int} (tgt : Nat) (hd : decode y.2.1 pc = .ok (.ifCond .eq off, 3)) (ht : (pc : Int) + off = (tgt : Int)) (kt : a = 0 → T E d y tgt lv st x f Q) (kf : ¬ (a = 0) → T E d y (pc + 3) lv st x f Q) : T E d y pc lv (vi a :: st) x f Q := by
  by_cases h : a = 0
  · exact T_step (fun p e R s m args below meth c A H locs cells slots ls ad Q9 C hP hS hl kk => lv_if_eq C.1.1 C.1.2.1 hd ht (fun _ => kk ls hl) (fun n => absurd h n)) (kt h)
  · exact T_step (fun p e R s m args below meth c A H locs cells slots ls ad Q9 C hP hS hl kk => lv_if_eq C.1.1 C.1.2.1 hd ht (fun n => absurd n h) (fun _ => kk ls hl)) (kf h)
theorem T_icmp_eq {a b : Int32} {off : Int} (tgt : Nat) (hd : decode y.2.1 pc = .ok (.if_icmp .eq off, 3)) (ht : (pc : Int) + off = (tgt : Int)) (kt : a = b → T E d y tgt lv st x f Q) (kf : ¬ (a = b) → T E d y (pc + 3) lv st x f Q) : T E d y pc lv (vi b :: vi a :: st) x f Q := by
  by_cases h : a = b
  · exact T_step (fun p e R s m args below meth c A H locs cells slots ls ad Q9 C hP hS hl kk => lv_icmp_eq C.1.1 C.1.2.1 hd ht (fun _ => kk ls hl) (fun n => absurd h n)) (kt h)
  · exact T_step (fun p e R s m args below meth c A H locs cells slots ls ad Q9 C hP hS hl kk => lv_icmp_eq C.1.1 C.1.2.1 hd ht (fun n => absurd n h) (fun _ => kk ls hl)) (kf h)
theorem T_if_ne {a : Int32} {off : Int} (tgt : Nat) (hd : decode y.2.1 pc = .ok (.ifCond .ne off, 3)) (ht : (pc : Int) + off = (tgt : Int)) (kt : ¬ a = 0 → T E d y tgt lv st x f Q) (kf : a = 0 → T E d y (pc + 3) lv st x f Q) : T E d y pc lv (vi a :: st) x f Q := by
  by_cases h : a = 0
  · exact T_step (fun p e R s m args below meth c A H locs cells slots ls ad Q9 C hP hS hl kk => lv_if_ne C.1.1 C.1.2.1 hd ht (fun n => absurd h n) (fun _ => kk ls hl)) (kf h)
  · exact T_step (fun p e R s m args below meth c A H locs cells slots ls ad Q9 C hP hS hl kk => lv_if_ne C.1.1 C.1.2.1 hd ht (fun _ => kk ls hl) (fun n => absurd n h)) (kt h)
theorem T_icmp_ne {a b : Int32} {off : Int} (tgt : Nat) (hd : decode y.2.1 pc = .ok (.if_icmp .ne off, 3)) (ht : (pc : Int) + off = (tgt : Int)) (kt : ¬ a = b → T E d y tgt lv st x f Q) (kf : a = b → T E d y (pc + 3) lv st x f Q) : T E d y pc lv (vi b :: vi a :: st) x f Q := by
  by_cases h : a = b
  · exact T_step (fun p e R s m args below meth c A H locs cells slots ls ad Q9 C hP hS hl kk => lv_icmp_ne C.1.1 C.1.2.1 hd ht (fun n => absurd h n) (fun _ => kk ls hl)) (kf h)
  · exact T_step (fun p e R s m args below meth c A H locs cells slots ls ad Q9 C hP hS hl kk => lv_icmp_ne C.1.1 C.1.2.1 hd ht (fun _ => kk ls hl) (fun n => absurd n h)) (kt h)
theorem T_if_lt {a : Int32} {off : Int} (tgt : Nat) (hd : decode y.2.1 pc = .ok (.ifCond .lt off, 3)) (ht : (pc : Int) + off = (tgt : Int)) (kt : a < 0 → T E d y tgt lv st x f Q) (kf : ¬ (a < 0) → T E d y (pc + 3) lv st x f Q) : T E d y pc lv (vi a :: st) x f Q := by
  by_cases h : a < 0
  · exact T_step (fun p e R s m args below meth c A H locs cells slots ls ad Q9 C hP hS hl kk => lv_if_lt C.1.1 C.1.2.1 hd ht (fun _ => kk ls hl) (fun n => absurd h n)) (kt h)
  · exact T_step (fun p e R s m args below meth c A H locs cells slots ls ad Q9 C hP hS hl kk => lv_if_lt C.1.1 C.1.2.1 hd ht (fun n => absurd n h) (fun _ => kk ls hl)) (kf h)
theorem T_icmp_lt {a b : Int32} {off : Int} (tgt : Nat) (hd : decode y.2.1 pc = .ok (.if_icmp .lt off, 3)) (ht : (pc : Int) + off = (tgt : Int)) (kt : a < b → T E d y tgt lv st x f Q) (kf : ¬ (a < b) → T E d y (pc + 3) lv st x f Q) : T E d y pc lv (vi b :: vi a :: st) x f Q := by
  by_cases h : a < b
  · exact T_step (fun p e R s m args below meth c A H locs cells slots ls ad Q9 C hP hS hl kk => lv_icmp_lt C.1.1 C.1.2.1 hd ht (fun _ => kk ls hl) (fun n => absurd h n)) (kt h)
  · exact T_step (fun p e R s m args below meth c A H locs cells slots ls ad Q9 C hP hS hl kk => lv_icmp_lt C.1.1 C.1.2.1 hd ht (fun n => absurd n h) (fun _ => kk ls hl)) (kf h)
theorem T_if_ge {a : Int32} {off : Int} (tgt : Nat) (hd : decode y.2.1 pc = .ok (.ifCond .ge off, 3)) (ht : (pc : Int) + off = (tgt : Int)) (kt : 0 ≤ a → T E d y tgt lv st x f Q) (kf : ¬ (0 ≤ a) → T E d y (pc + 3) lv st x f Q) : T E d y pc lv (vi a :: st) x f Q := by
  by_cases h : 0 ≤ a
  · exact T_step (fun p e R s m args below meth c A H locs cells slots ls ad Q9 C hP hS hl kk => lv_if_ge C.1.1 C.1.2.1 hd ht (fun _ => kk ls hl) (fun n => absurd h n)) (kt h)
  · exact T_step (fun p e R s m args below meth c A H locs cells slots ls ad Q9 C hP hS hl kk => lv_if_ge C.1.1 C.1.2.1 hd ht (fun n => absurd n h) (fun _ => kk ls hl)) (kf h)
theorem T_icmp_ge {a b : Int32} {off : Int} (tgt : Nat) (hd : decode y.2.1 pc = .ok (.if_icmp .ge off, 3)) (ht : (pc : Int) + off = (tgt : Int)) (kt : b ≤ a → T E d y tgt lv st x f Q) (kf : ¬ (b ≤ a) → T E d y (pc + 3) lv st x f Q) : T E d y pc lv (vi b :: vi a :: st) x f Q := by
  by_cases h : b ≤ a
  · exact T_step (fun p e R s m args below meth c A H locs cells slots ls ad Q9 C hP hS hl kk => lv_icmp_ge C.1.1 C.1.2.1 hd ht (fun _ => kk ls hl) (fun n => absurd h n)) (kt h)
  · exact T_step (fun p e R s m args below meth c A H locs cells slots ls ad Q9 C hP hS hl kk => lv_icmp_ge C.1.1 C.1.2.1 hd ht (fun n => absurd n h) (fun _ => kk ls hl)) (kf h)
theorem T_if_gt {a : Int32} {off : Int} (tgt : Nat) (hd : decode y.2.1 pc = .ok (.ifCond .gt off, 3)) (ht : (pc : Int) + off = (tgt : Int)) (kt : 0 < a → T E d y tgt lv st x f Q) (kf : ¬ (0 < a) → T E d y (pc + 3) lv st x f Q) : T E d y pc lv (vi a :: st) x f Q := by
  by_cases h : 0 < a
  · exact T_step (fun p e R s m args below meth c A H locs cells slots ls ad Q9 C hP hS hl kk => lv_if_gt C.1.1 C.1.2.1 hd ht (fun _ => kk ls hl) (fun n => absurd h n)) (kt h)
  · exact T_step (fun p e R s m args below meth c A H locs cells slots ls ad Q9 C hP hS hl kk => lv_if_gt C.1.1 C.1.2.1 hd ht (fun n => absurd n h) (fun _ => kk ls hl)) (kf h)
theorem T_icmp_gt {a b : Int32} {off : Int} (tgt : Nat) (hd : decode y.2.1 pc = .ok (.if_icmp .gt off, 3)) (ht : (pc : Int) + off = (tgt : Int)) (kt : b < a → T E d y tgt lv st x f Q) (kf : ¬ (b < a) → T E d y (pc + 3) lv st x f Q) : T E d y pc lv (vi b :: vi a :: st) x f Q := by
  by_cases h : b < a
  · exact T_step (fun p e R s m args below meth c A H locs cells slots ls ad Q9 C hP hS hl kk => lv_icmp_gt C.1.1 C.1.2.1 hd ht (fun _ => kk ls hl) (fun n => absurd h n)) (kt h)
  · exact T_step (fun p e R s m args below meth c A H locs cells slots ls ad Q9 C hP hS hl kk => lv_icmp_gt C.1.1 C.1.2.1 hd ht (fun n => absurd n h) (fun _ => kk ls hl)) (kf h)
theorem T_if_le {a : Int32} {off : Int} (tgt : Nat) (hd : decode y.2.1 pc = .ok (.ifCond .le off, 3)) (ht : (pc : Int) + off = (tgt : Int)) (kt : a ≤ 0 → T E d y tgt lv st x f Q) (kf : ¬ (a ≤ 0) → T E d y (pc + 3) lv st x f Q) : T E d y pc lv (vi a :: st) x f Q := by
  by_cases h : a ≤ 0
  · exact T_step (fun p e R s m args below meth c A H locs cells slots ls ad Q9 C hP hS hl kk => lv_if_le C.1.1 C.1.2.1 hd ht (fun _ => kk ls hl) (fun n => absurd h n)) (kt h)
  · exact T_step (fun p e R s m args below meth c A H locs cells slots ls ad Q9 C hP hS hl kk => lv_if_le C.1.1 C.1.2.1 hd ht (fun n => absurd n h) (fun _ => kk ls hl)) (kf h)
theorem T_icmp_le {a b : Int32} {off : Int} (tgt : Nat) (hd : decode y.2.1 pc = .ok (.if_icmp .le off, 3)) (ht : (pc : Int) + off = (tgt : Int)) (kt : a ≤ b → T E d y tgt lv st x f Q) (kf : ¬ (a ≤ b) → T E d y (pc + 3) lv st x f Q) : T E d y pc lv (vi b :: vi a :: st) x f Q := by
  by_cases h : a ≤ b
  · exact T_step (fun p e R s m args below meth c A H locs cells slots ls ad Q9 C hP hS hl kk => lv_icmp_le C.1.1 C.1.2.1 hd ht (fun _ => kk ls hl) (fun n => absurd h n)) (kt h)
  · exact T_step (fun p e R s m args below meth c A H locs cells slots ls ad Q9 C hP hS hl kk => lv_icmp_le C.1.1 C.1.2.1 hd ht (fun n => absurd n h) (fun _ => kk ls hl)) (kf h)
end GRA
end
section
def si (x : gd) (c k : Nat) (v : Int32) : gd := (fun c' => if c' = c then upd (x.1 c) k v else x.1 c', x.2)
def sL (x : gd) (c k : Nat) (v : Int64) : gd := (x.1, fun c' => if c' = c then vp_updL (x.2 c) k v else x.2 c')
theorem gwl_at {E : gE} {x : gd} {f : gf} {ad : Nat → Nat} {c : Nat} (hc : c ∈ f.2.1) : ∃ i : Nat, f.2.1[i]? = some c ∧ (gwl E x f ad)[i]? = some (ad c, gce E x f ad c) := by
  obtain ⟨i, hi⟩ := List.getElem?_of_mem hc
  exact ⟨i, hi, by rw [gwl, List.getElem?_map, hi]; rfl⟩
theorem gce_obj {E : gE} {x : gd} {f : gf} {ad : Nat → Nat} {c ci : Nat} {sl : List Bool} (h : E.2.2.2.1 c = .inl (ci, sl)) : gce E x f ad c = .inr (ci, gfl x f ad c sl) := by
  rw [gce, h]
theorem gce_arr {E : gE} {x : gd} {f : gf} {ad : Nat → Nat} {c n : Nat} {ty : FieldType} (h : E.2.2.2.1 c = .inr (ty, n)) : gce E x f ad c = .inl (E.2.2.1 ty, n, gar x f ad c ty) := by
  rw [gce, h]
theorem gfl_len {x : gd} {f : gf} {ad : Nat → Nat} {c : Nat} {sl : List Bool} : (gfl x f ad c sl).length = sl.length := by
  rw [gfl, List.length_map, List.length_range]
theorem gfl_at {x : gd} {f : gf} {ad : Nat → Nat} {c k : Nat} {sl : List Bool} (hk : k < sl.length) : (gfl x f ad c sl)[k]? = some (if sl.getD k false = true then va_rf ((f.1 c k).map ad) else .int (x.1 c k)) := by
  rw [gfl, List.getElem?_map, List.getElem?_range hk]
  rfl
theorem gfl_int {x : gd} {f : gf} {ad : Nat → Nat} {c k : Nat} {sl : List Bool} (hk : k < sl.length) (hs : sl.getD k false = false) : (gfl x f ad c sl)[k]? = some (.int (x.1 c k)) := by
  rw [gfl_at hk, if_neg (by rw [hs]; decide)]
theorem gfl_ref {x : gd} {f : gf} {ad : Nat → Nat} {c k : Nat} {sl : List Bool} (hk : k < sl.length) (hs : sl.getD k false = true) : (gfl x f ad c sl)[k]? = some (va_rf ((f.1 c k).map ad)) := by
  rw [gfl_at hk, if_pos hs]
theorem gwl_set {α β : Type} {F G : α → β} {L : List α} {i : Nat} {c : α} (hi : L[i]? = some c) (hd : ∀ j : Nat, L[j]? = some c → j = i) (h : ∀ c', c' ≠ c → G c' = F c') : (L.map F).set i (G c) = L.map G := by
  apply List.ext_getElem?
  intro j
  have hlt : i < L.length := (List.getElem?_eq_some_iff.mp hi).1
  by_cases hj : j = i
  · subst hj
    rw [List.getElem?_set_self (by rw [List.length_map]; exact hlt), List.getElem?_map, hi]
    rfl
  · rw [List.getElem?_set_ne (fun e => hj e.symm), List.getElem?_map, List.getElem?_map]
    cases hL : L[j]? with
    | none => rfl
    | some c' =>
      have hne : c' ≠ c := fun e => hj (hd j (by rw [hL, e]))
      show some (F c') = some (G c')
      rw [h c' hne]
theorem gwl_one {E : gE} {x : gd} {f : gf} {ad : Nat → Nat} {A : Nat → Prop} {i c : Nat} (hD : va_D A (gwl E x f ad)) (hi : f.2.1[i]? = some c) : ∀ j : Nat, f.2.1[j]? = some c → j = i := by
  intro j hj
  exact hD.1 j i (ad c, gce E x f ad c) (ad c, gce E x f ad c) (by rw [gwl, List.getElem?_map, hj]; rfl) (by rw [gwl, List.getElem?_map, hi]; rfl) rfl
theorem gce_si {E : gE} {x : gd} {f : gf} {ad : Nat → Nat} {c k c' : Nat} {v : Int32} (h : c' ≠ c) : gce E (si x c k v) f ad c' = gce E x f ad c' := by
  have e : (si x c k v).1 c' = x.1 c' := by show (if c' = c then _ else _) = _; rw [if_neg h]
  have e2 : (si x c k v).2 = x.2 := rfl
  unfold gce gfl gar
  rw [e, e2]
theorem gce_sL {E : gE} {x : gd} {f : gf} {ad : Nat → Nat} {c k c' : Nat} {v : Int64} (h : c' ≠ c) : gce E (sL x c k v) f ad c' = gce E x f ad c' := by
  have e : (sL x c k v).2 c' = x.2 c' := by show (if c' = c then _ else _) = _; rw [if_neg h]
  have e2 : (sL x c k v).1 = x.1 := rfl
  unfold gce gfl gar
  rw [e, e2]
theorem si_c {x : gd} {c k : Nat} {v : Int32} : (si x c k v).1 c = upd (x.1 c) k v := by show (if c = c then _ else _) = _; rw [if_pos rfl]
theorem sL_c {x : gd} {c k : Nat} {v : Int64} : (sL x c k v).2 c = vp_updL (x.2 c) k v := by show (if c = c then _ else _) = _; rw [if_pos rfl]
theorem gfl_si {x : gd} {f : gf} {ad : Nat → Nat} {c k : Nat} {v : Int32} {sl : List Bool} (hk : k < sl.length) (hs : sl.getD k false = false) : gfl (si x c k v) f ad c sl = (gfl x f ad c sl).set k (.int v) := by
  apply List.ext_getElem?
  intro j
  by_cases hj : j = k
  · subst hj
    rw [List.getElem?_set_self (by rw [gfl_len]; exact hk), gfl_int hk hs, si_c, pk_us]
  · rw [List.getElem?_set_ne (fun e => hj e.symm)]
    by_cases hl : j < sl.length
    · rw [gfl_at hl, gfl_at hl, si_c, pk_un hj]
    · rw [List.getElem?_eq_none (by rw [gfl_len]; omega), List.getElem?_eq_none (by rw [gfl_len]; omega)]
/-- what the tables say of a field, as an instruction names it -/
def gFl (own : String) (idx ci k : Nat) (ty : FieldType) (fin : Bool) (N : Nat) : Prop := ∃ (C : String) (U : u_T), vwCl[ci]? = some (C, U, N) ∧ (∀ w ∈ u_ws C U N, w ∈ W0) ∧ k < N ∧ Cond.fieldLink own idx (U k).1 (U k).2.1 (U k).2.2.1 ∈ W0 ∧ parseFieldDescriptor (U k).2.2.1 = some ty ∧ (U k).2.2.2 = fin ∧ (∃ ty0 : Nat → FieldType, ∀ j, j < N → parseFieldDescriptor (U j).2.2.1 = some (ty0 j)) ∧ ∀ a, a < N → ∀ b, b < N → a ≠ b → (U a).2.1 ≠ (U b).2.1
section GRB
variable {E : gE} {d : Nat} {y : gy} {pc : Nat} {lv : List (Nat × gv)} {st : List gv} {x : gd} {f : gf} {Q : gr → gd → gf → Prop}
theorem T_stepX {pc2 : Nat} {st2 : List gv} {x2 : gd}
    (h : ∀ (p : Program) (e : Env) (R : Room) (s : State) (m : MethodId) (args : Array Value) (below : List Frame) (meth : Method) (c : Code) (A : Nat → Prop) (H : Heap) (locs : List Loc) (cells slots : Nat) (ls : Array Slot) (ad : Nat → Nat) (Q9 : State → Prop), gC E d y p R s m args meth c A → gP E x f ad A H → va_S A s.heap H locs → lv_has ls y.2.2.1 (glc ad lv) →
      (∀ (H2 : Heap) (locs2 : List Loc), gP E x2 f ad A H2 → va_S A s.heap H2 locs2 → W p E.1 e R s m args below meth c H2 locs2 cells slots Q9 (F0 m pc2 ls (st2.map (gcv ad)))) → W p E.1 e R s m args below meth c H locs cells slots Q9 (F0 m pc ls (st.map (gcv ad))))
    (k : T E d y pc2 lv st2 x2 f Q) : T E d y pc lv st x f Q := by
  obtain ⟨o, x', f', h1, h2, h3⟩ := k
  refine ⟨o, x', f', h1, h2, ?_⟩
  intro p e R s m args below meth c A H locs cells slots ls ad C hP hS hl hc hs
  exact h p e R s m args below meth c A H locs cells slots ls ad _ C hP hS hl (fun H2 locs2 hP2 hS2 => h3 p e R s m args below meth c A H2 locs2 cells slots ls ad C hP2 hS2 hl hc hs)
theorem T_getI (c k : Nat) {ci N idx : Nat} {sl : List Bool} {ty : FieldType} {fin : Bool} (hd : decode y.2.1 pc = .ok (.getfield idx, 3)) (hf : gFl y.1.cls idx ci k ty fin N) (hK : E.2.2.2.1 c = .inl (ci, sl)) (hc : c ∈ f.2.1) (hk : k < sl.length) (hs : sl.getD k false = false)
    (k9 : T E d y (pc + 3) lv (vi (x.1 c k) :: st) x f Q) : T E d y pc lv (vr c :: st) x f Q :=
  T_step (fun p e R s m args below meth c0 A H locs cells slots ls ad Q9 C hP hS hl kk => by
    obtain ⟨C0, U, h1, h2, h3, h4, -⟩ := hf
    obtain ⟨i, -, hi⟩ := gwl_at (E := E) (x := x) (ad := ad) hc
    rw [gce_obj hK] at hi
    exact va_get (C := C0) (T := U) (N := N) C.1.1 C.1.2.1 C.1.2.2.2.2 h2 C.1.2.2.2.1 C.2.2.2.1.1 hP.1.1 i hi h1 k h3 (C.1.2.2.2.2 _ h4) (fun _ h => h) (gfl_int hk hs) hd (kk ls hl)) k9
theorem T_getR (c k e9 : Nat) {ci N idx : Nat} {sl : List Bool} {ty : FieldType} {fin : Bool} (hd : decode y.2.1 pc = .ok (.getfield idx, 3)) (hf : gFl y.1.cls idx ci k ty fin N) (hK : E.2.2.2.1 c = .inl (ci, sl)) (hc : c ∈ f.2.1) (hk : k < sl.length) (hs : sl.getD k false = true) (hr : f.1 c k = some e9)
    (k9 : T E d y (pc + 3) lv (vr e9 :: st) x f Q) : T E d y pc lv (vr c :: st) x f Q :=
  T_step (fun p e R s m args below meth c0 A H locs cells slots ls ad Q9 C hP hS hl kk => by
    obtain ⟨C0, U, h1, h2, h3, h4, -⟩ := hf
    obtain ⟨i, -, hi⟩ := gwl_at (E := E) (x := x) (ad := ad) hc
    rw [gce_obj hK] at hi
    have hv : (gfl x f ad c sl)[k]? = some (.ref (ad e9)) := by rw [gfl_ref hk hs, hr]; rfl
    exact va_get (C := C0) (T := U) (N := N) C.1.1 C.1.2.1 C.1.2.2.2.2 h2 C.1.2.2.2.1 C.2.2.2.1.1 hP.1.1 i hi h1 k h3 (C.1.2.2.2.2 _ h4) (fun _ h => h) hv hd (kk ls hl)) k9
theorem T_putI (c k : Nat) {ci N idx : Nat} {sl : List Bool} {ty : FieldType} {v : Int32} (hd : decode y.2.1 pc = .ok (.putfield idx, 3)) (hf : gFl y.1.cls idx ci k ty false N) (hK : E.2.2.2.1 c = .inl (ci, sl)) (hc : c ∈ f.2.1) (hk : k < sl.length) (hs : sl.getD k false = false) (hn : narrow ty (.int v) = .int v ∧ fits ty (.int v) = true)
    (k9 : T E d y (pc + 3) lv st (si x c k v) f Q) : T E d y pc lv (vi v :: vr c :: st) x f Q :=
  T_stepX (fun p e R s m args below meth c0 A H locs cells slots ls ad Q9 C hP hS hl kk => by
    obtain ⟨C0, U, h1, h2, h3, h4, h5, h6, ⟨ty0, h7⟩, h8⟩ := hf
    obtain ⟨i, hi0, hi⟩ := gwl_at (E := E) (x := x) (ad := ad) hc
    rw [gce_obj hK] at hi
    have he : (gwl E x f ad).set i (ad c, .inr (ci, (gfl x f ad c sl).set k (.int v))) = gwl E (si x c k v) f ad := by
      rw [← gfl_si hk hs, ← gce_obj (E := E) hK]
      exact gwl_set (G := fun c' => (ad c', gce E (si x c k v) f ad c')) hi0 (gwl_one hP.1.2 hi0) (fun c' hne => by rw [gce_si hne])
    refine va_put (C := C0) (T := U) (N := N) C.1.1 C.1.2.1 C.1.2.2.2.2 h2 ty0 h7 h8 C.1.2.2.2.1 C.2.2.2.1.1 hP.1.1 hP.1.2 hS i hi h1 k h3 (C.1.2.2.2.2 _ h4) (fun _ h => h) h6 h5 hn.1 hn.2 (by rw [gfl_len]; exact hk) hd (fun H2 locs2 hP2 hD2 hS2 => kk H2 locs2 ⟨⟨?_, ?_⟩, hP.2⟩ hS2)
    · rw [← he]; exact hP2
    · rw [← he]; exact hD2) k9
theorem T_iald (c n : Nat) {i : Int32} (hd : decode y.2.1 pc = .ok (.iaload, 1)) (hK : E.2.2.2.1 c = .inr (.int, n)) (hc : c ∈ f.2.1) (hin : vp_in i n) (k9 : T E d y (pc + 1) lv (vi (x.1 c i.toNatClampNeg) :: st) x f Q) : T E d y pc lv (vi i :: vr c :: st) x f Q :=
  T_step (fun p e R s m args below meth c0 A H locs cells slots ls ad Q9 C hP hS hl kk => by
    obtain ⟨q, -, hi⟩ := gwl_at (E := E) (x := x) (ad := ad) hc
    rw [gce_arr hK] at hi
    exact va_iald C.1.1 C.1.2.1 C.2.2.2.1.1 hP.1.1 q 0 hi rfl hin hd (kk ls hl)) k9
theorem T_bald (c n : Nat) {i : Int32} (hd : decode y.2.1 pc = .ok (.baload, 1)) (hK : E.2.2.2.1 c = .inr (.byte, n)) (hc : c ∈ f.2.1) (hin : vp_in i n) (k9 : T E d y (pc + 1) lv (vi (x.1 c i.toNatClampNeg) :: st) x f Q) : T E d y pc lv (vi i :: vr c :: st) x f Q :=
  T_step (fun p e R s m args below meth c0 A H locs cells slots ls ad Q9 C hP hS hl kk => by
    obtain ⟨q, -, hi⟩ := gwl_at (E := E) (x := x) (ad := ad) hc
    rw [gce_arr hK] at hi
    exact va_bald C.1.1 C.1.2.1 C.2.2.2.1.1 hP.1.1 q 1 hi rfl hin hd (kk ls hl)) k9
theorem T_zald (c n : Nat) {i : Int32} (hd : decode y.2.1 pc = .ok (.baload, 1)) (hK : E.2.2.2.1 c = .inr (.boolean, n)) (hc : c ∈ f.2.1) (hin : vp_in i n) (k9 : T E d y (pc + 1) lv (vi (x.1 c i.toNatClampNeg) :: st) x f Q) : T E d y pc lv (vi i :: vr c :: st) x f Q :=
  T_step (fun p e R s m args below meth c0 A H locs cells slots ls ad Q9 C hP hS hl kk => by
    obtain ⟨q, -, hi⟩ := gwl_at (E := E) (x := x) (ad := ad) hc
    rw [gce_arr hK] at hi
    exact va_zald C.1.1 C.1.2.1 C.2.2.2.1.1 hP.1.1 q 2 hi rfl hin hd (kk ls hl)) k9
theorem T_lald (c n : Nat) {i : Int32} (hd : decode y.2.1 pc = .ok (.laload, 1)) (hK : E.2.2.2.1 c = .inr (.long, n)) (hc : c ∈ f.2.1) (hin : vp_in i n) (k9 : T E d y (pc + 1) lv (vl (x.2 c i.toNatClampNeg) :: st) x f Q) : T E d y pc lv (vi i :: vr c :: st) x f Q :=
  T_step (fun p e R s m args below meth c0 A H locs cells slots ls ad Q9 C hP hS hl kk => by
    obtain ⟨q, -, hi⟩ := gwl_at (E := E) (x := x) (ad := ad) hc
    rw [gce_arr hK] at hi
    exact va_lald C.1.1 C.1.2.1 C.2.2.2.1.1 hP.1.1 q 3 hi rfl hin hd (kk ls hl)) k9
theorem gwl_ar {E : gE} {x : gd} {f : gf} {ad : Nat → Nat} {A : Nat → Prop} {i c n k : Nat} {ty : FieldType} {v : Int32} (hD : va_D A (gwl E x f ad)) (hi : f.2.1[i]? = some c) (hK : E.2.2.2.1 c = .inr (ty, n)) (ht : gar (si x c k v) f ad c ty = .inl (upd (x.1 c) k v)) : (gwl E x f ad).set i (ad c, .inl (E.2.2.1 ty, n, .inl (upd (x.1 c) k v))) = gwl E (si x c k v) f ad := by
  rw [← ht, ← gce_arr (E := E) hK]
  exact gwl_set (G := fun c' => (ad c', gce E (si x c k v) f ad c')) hi (gwl_one hD hi) (fun c' hne => by rw [gce_si hne])
theorem T_iast (c n : Nat) {i v : Int32} (hd : decode y.2.1 pc = .ok (.iastore, 1)) (hK : E.2.2.2.1 c = .inr (.int, n)) (hc : c ∈ f.2.1) (hin : vp_in i n) (k9 : T E d y (pc + 1) lv st (si x c i.toNatClampNeg v) f Q) : T E d y pc lv (vi v :: vi i :: vr c :: st) x f Q :=
  T_stepX (fun p e R s m args below meth c0 A H locs cells slots ls ad Q9 C hP hS hl kk => by
    obtain ⟨q, hi0, hi⟩ := gwl_at (E := E) (x := x) (ad := ad) hc
    rw [gce_arr hK] at hi
    have he := gwl_ar (k := i.toNatClampNeg) (v := v) hP.1.2 hi0 hK (by show Sum.inl ((si x c i.toNatClampNeg v).1 c) = _; rw [si_c])
    refine va_iast C.1.1 C.1.2.1 C.2.2.2.1.1 hP.1.1 hP.1.2 hS q 0 hi rfl hin hd (fun H2 locs2 hP2 hD2 hS2 => kk H2 locs2 ⟨⟨?_, ?_⟩, hP.2⟩ hS2)
    · rw [← he]; exact hP2
    · rw [← he]; exact hD2) k9
theorem T_bast (c n : Nat) {i v : Int32} (hd : decode y.2.1 pc = .ok (.bastore, 1)) (hK : E.2.2.2.1 c = .inr (.byte, n)) (hc : c ∈ f.2.1) (hin : vp_in i n) (k9 : T E d y (pc + 1) lv st (si x c i.toNatClampNeg (vp_nar .byte v)) f Q) : T E d y pc lv (vi v :: vi i :: vr c :: st) x f Q :=
  T_stepX (fun p e R s m args below meth c0 A H locs cells slots ls ad Q9 C hP hS hl kk => by
    obtain ⟨q, hi0, hi⟩ := gwl_at (E := E) (x := x) (ad := ad) hc
    rw [gce_arr hK] at hi
    have he := gwl_ar (k := i.toNatClampNeg) (v := vp_nar .byte v) hP.1.2 hi0 hK (by show Sum.inl ((si x c i.toNatClampNeg (vp_nar .byte v)).1 c) = _; rw [si_c])
    refine va_bast C.1.1 C.1.2.1 C.2.2.2.1.1 hP.1.1 hP.1.2 hS q 1 hi rfl hin hd (fun H2 locs2 hP2 hD2 hS2 => kk H2 locs2 ⟨⟨?_, ?_⟩, hP.2⟩ hS2)
    · rw [← he]; exact hP2
    · rw [← he]; exact hD2) k9
theorem T_zast (c n : Nat) {i v : Int32} (hd : decode y.2.1 pc = .ok (.bastore, 1)) (hK : E.2.2.2.1 c = .inr (.boolean, n)) (hc : c ∈ f.2.1) (hin : vp_in i n) (k9 : T E d y (pc + 1) lv st (si x c i.toNatClampNeg (vp_nar .boolean v)) f Q) : T E d y pc lv (vi v :: vi i :: vr c :: st) x f Q :=
  T_stepX (fun p e R s m args below meth c0 A H locs cells slots ls ad Q9 C hP hS hl kk => by
    obtain ⟨q, hi0, hi⟩ := gwl_at (E := E) (x := x) (ad := ad) hc
    rw [gce_arr hK] at hi
    have he := gwl_ar (k := i.toNatClampNeg) (v := vp_nar .boolean v) hP.1.2 hi0 hK (by show Sum.inl ((si x c i.toNatClampNeg (vp_nar .boolean v)).1 c) = _; rw [si_c])
    refine va_zast C.1.1 C.1.2.1 C.2.2.2.1.1 hP.1.1 hP.1.2 hS q 2 hi rfl hin hd (fun H2 locs2 hP2 hD2 hS2 => kk H2 locs2 ⟨⟨?_, ?_⟩, hP.2⟩ hS2)
    · rw [← he]; exact hP2
    · rw [← he]; exact hD2) k9
theorem T_last (c n : Nat) {i : Int32} {v : Int64} (hd : decode y.2.1 pc = .ok (.lastore, 1)) (hK : E.2.2.2.1 c = .inr (.long, n)) (hc : c ∈ f.2.1) (hin : vp_in i n) (k9 : T E d y (pc + 1) lv st (sL x c i.toNatClampNeg v) f Q) : T E d y pc lv (vl v :: vi i :: vr c :: st) x f Q :=
  T_stepX (fun p e R s m args below meth c0 A H locs cells slots ls ad Q9 C hP hS hl kk => by
    obtain ⟨q, hi0, hi⟩ := gwl_at (E := E) (x := x) (ad := ad) hc
    rw [gce_arr hK] at hi
    have he : (gwl E x f ad).set q (ad c, .inl (E.2.2.1 .long, n, .inr (.inl (vp_updL (x.2 c) i.toNatClampNeg v)))) = gwl E (sL x c i.toNatClampNeg v) f ad := by
      have e9 : gce E (sL x c i.toNatClampNeg v) f ad c = .inl (E.2.2.1 .long, n, .inr (.inl (vp_updL (x.2 c) i.toNatClampNeg v))) := by
        rw [gce_arr hK]
        show Sum.inl (_, _, Sum.inr (Sum.inl ((sL x c i.toNatClampNeg v).2 c))) = _
        rw [sL_c]
      rw [← e9]
      exact gwl_set (G := fun c' => (ad c', gce E (sL x c i.toNatClampNeg v) f ad c')) hi0 (gwl_one hP.1.2 hi0) (fun c' hne => by rw [gce_sL hne])
    refine va_last C.1.1 C.1.2.1 C.2.2.2.1.1 hP.1.1 hP.1.2 hS q 3 hi rfl hin hd (fun H2 locs2 hP2 hD2 hS2 => kk H2 locs2 ⟨⟨?_, ?_⟩, hP.2⟩ hS2)
    · rw [← he]; exact hP2
    · rw [← he]; exact hD2) k9
theorem T_alen (c n t0 : Nat) {ty : FieldType} {v : Int32} (hd : decode y.2.1 pc = .ok (.arraylength, 1)) (hK : E.2.2.2.1 c = .inr (ty, n)) (hc : c ∈ f.2.1) (ht : (gtys E)[t0]? = some (E.2.2.1 ty, ty)) (hv : Int32.ofNat n = v) (k9 : T E d y (pc + 1) lv (vi v :: st) x f Q) : T E d y pc lv (vr c :: st) x f Q :=
  T_step (fun p e R s m args below meth c0 A H locs cells slots ls ad Q9 C hP hS hl kk => by
    obtain ⟨q, -, hi⟩ := gwl_at (E := E) (x := x) (ad := ad) hc
    rw [gce_arr hK] at hi
    exact va_alen C.1.1 C.1.2.1 C.2.2.2.1.1 hP.1.1 q t0 hi ht hv hd (kk ls hl)) k9
theorem T_iret {v : Int32} {ty : FieldType} (hd : decode y.2.1 pc = .ok (.ireturn, 1)) (hr : y.2.2.2.1 = some ty) (hn : narrow ty (.int v) = .int v) (hQ : Q (.inl (some (vi v))) x f) : T E d y pc lv [vi v] x f Q := by
  refine ⟨.inl (some (vi v)), x, f, hQ, gle_rf f, ?_⟩
  intro p e R s m args below meth c A H locs cells slots ls ad C hP hS hl hc hs
  rw [Nat.sub_self, Nat.sub_self, Nat.add_zero, Nat.add_zero]
  exact vx_ret (W.zret C.1.1 C.1.2.1 (C.2.1.1.trans hr) hn (fun t ht hW => ⟨ad, gex_rf f ad, ⟨_, rfl, rfl⟩, by rw [ht]; exact hP, hS.F ht⟩) hS.2.2 hd C.2.1.2.1)
theorem T_vret (hd : decode y.2.1 pc = .ok (.return_, 1)) (hr : y.2.2.2.1 = none) (hQ : Q (.inl none) x f) : T E d y pc lv [] x f Q := by
  refine ⟨.inl none, x, f, hQ, gle_rf f, ?_⟩
  intro p e R s m args below meth c A H locs cells slots ls ad C hP hS hl hc hs
  rw [Nat.sub_self, Nat.sub_self, Nat.add_zero, Nat.add_zero]
  exact vx_ret (W.vret C.1.1 C.1.2.1 (C.2.1.1.trans hr) (fun t ht hW => ⟨ad, gex_rf f ad, ⟨_, rfl, rfl⟩, by rw [ht]; exact hP, hS.F ht⟩) hS.2.2 hd C.2.1.2.1)
end GRB
end
section
def gA (f : gf) (ad : Nat → Nat) (sz : Nat) : Nat → Prop := fun q => (∃ c ∈ f.2.1, ad c = q) ∨ sz ≤ q
def gst (E : gE) (x : gd) (f : gf) (ad : Nat → Nat) (sz : Nat) (U : State) : Prop := U.heap.size = sz ∧ gP E x f ad (fun _ => True) U.heap ∧ va_K E.2.1 vwCl (gtys E) U ∧ ev_Z E.2.2.2.2 (gA f ad sz) U U.heap ∧ ev U
theorem gst_blind {E : gE} {x : gd} {f : gf} {ad : Nat → Nat} {sz : Nat} {av : List Value} : FrameBlind (va_Pc av (gst E x f ad sz)) := by
  intro a U g mk q
  obtain ⟨q0, q1, qP, qK, qZ, qE⟩ := q
  exact ⟨q0, q1, qP, va_K.moved (u := U) (U := U.calling g mk a) (Vm.Alike.refl U.vm) qK, ev_Z_same (u := U) (U := U.calling g mk a) rfl qZ, ev_same (u := U) (U := U.calling g mk a) rfl qE⟩
def glv : Nat → List gv → List (Nat × gv)
  | _, [] => []
  | k, v :: r => (k, v) :: glv (if gis2 v = true then k + 2 else k + 1) r
theorem glv_c (ad : Nat → Nat) : ∀ (av : List gv) (k : Nat), lv_args k (av.map (gcv ad)) = glc ad (glv k av) := by
  intro av
  induction av with
  | nil => intro k; rfl
  | cons v r ih =>
    intro k
    show (k, gcv ad v) :: lv_args (if (gcv ad v).category = 2 then k + 2 else k + 1) (r.map (gcv ad)) = (k, gcv ad v) :: glc ad (glv (if gis2 v = true then k + 2 else k + 1) r)
    rw [ih]
    congr 3
    rw [← gcv_cat ad v]
    by_cases h : (gcv ad v).category = 2
    · rw [if_pos h, if_pos (by rw [h]; rfl)]
    · rw [if_neg h, if_neg (by simp [h])]
/-- words that values take -/
def gsz : List gv → Nat
  | [] => 0
  | v :: r => (if gis2 v = true then 2 else 1) + gsz r
theorem gcv_2 {ad : Nat → Nat} {v : gv} (h : gis2 v = true) : (gcv ad v).category = 2 := by
  have e := gcv_cat ad v
  rw [h] at e
  exact beq_iff_eq.mp e
theorem gsz_l (ad : Nat → Nat) : ∀ av : List gv, (lg_sl (av.map (gcv ad))).length = gsz av := by
  intro av
  induction av with
  | nil => rfl
  | cons v r ih =>
    show ((if (gcv ad v).category = 2 then [Slot.val (gcv ad v), Slot.second] else [Slot.val (gcv ad v)]) ++ lg_sl (r.map (gcv ad))).length = (if gis2 v = true then 2 else 1) + gsz r
    rw [List.length_append, ih]
    cases h : gis2 v with
    | true => rw [if_pos (gcv_2 h), if_pos rfl]; rfl
    | false => rw [if_neg (by rw [gcv_1 h]; decide), if_neg (by decide)]; rfl
theorem gsz_c (ad : Nat → Nat) : ∀ av : List gv, ((av.map (gcv ad)).map fun v => v.category).sum = gsz av := by
  intro av
  induction av with
  | nil => rfl
  | cons v r ih =>
    show (gcv ad v).category + ((r.map (gcv ad)).map fun v => v.category).sum = (if gis2 v = true then 2 else 1) + gsz r
    rw [ih]
    cases h : gis2 v with
    | true => rw [gcv_2 h, if_pos rfl]
    | false => rw [gcv_1 h, if_neg (by decide)]
theorem gP_A {E : gE} {x : gd} {f : gf} {ad : Nat → Nat} {H : Heap} {A : Nat → Prop} (sz : Nat) (h : gP E x f ad A H) : gP E x f ad (gA f ad sz) H := by
  refine ⟨⟨h.1.1, h.1.2.1, fun k q hk => ?_⟩, h.2⟩
  rw [gwl, List.getElem?_map] at hk
  cases hL : f.2.1[k]? with
  | none => rw [hL] at hk; cases hk
  | some c =>
    rw [hL] at hk
    cases hk
    exact Or.inl ⟨c, List.mem_of_getElem? hL, rfl⟩
theorem gP_w {E : gE} {x : gd} {f : gf} {ad : Nat → Nat} {H : Heap} {A B : Nat → Prop} (h : gP E x f ad A H) (hAB : ∀ q, A q → B q) : gP E x f ad B H := ⟨⟨h.1.1, h.1.2.1, fun k q hk => hAB _ (h.1.2.2 k q hk)⟩, h.2⟩
theorem gA_in {E : gE} {x : gd} {f : gf} {ad : Nat → Nat} {A : Nat → Prop} {H : Heap} {sz : Nat} (h : gP E x f ad A H) (hA : ∀ q : Nat, sz ≤ q → A q) : ∀ q, gA f ad sz q → A q := by
  intro q hq
  rcases hq with ⟨c, hc, e⟩ | hq
  · obtain ⟨i, -, hi⟩ := gwl_at (E := E) (x := x) (ad := ad) hc
    rw [← e]
    exact h.1.2.2 i _ hi
  · exact hA q hq
theorem gM_of {E : gE} {d : Nat} {y : gy} {av : List gv} {x : gd} {f : gf} {o : gr} {x' : gd} {f' : gf} (hlt : E.1.stackTraces = false) (hy : plainName y.1.cls = true) (hfit : gsz av ≤ y.2.2.1) (h : gW E d y 0 (glv 0 av) [] x f o x' f') (ad : Nat → Nat) (sz : Nat) :
    vx_Met E.1 y.1 (gws y) ({ frames := d, cells := f'.2.2.1 - f.2.2.1, slots := f'.2.2.2 - f.2.2.2, locals := 41 * d }) (va_Pc (av.map (gcv ad)) (gst E x f ad sz)) (gQc E (gA f ad sz) f ad o x' f') (gXC E (gA f ad sz) f ad o x' f') (f'.2.2.1 - f.2.2.1) (f'.2.2.2 - f.2.2.2) (gA f ad sz) := by
  have body : ∀ (p : Program) (e : Env) (s : State) (m : MethodId) (args : Array Value) (below : List Frame) (meth : Method) (c : Code) (s₁ : State), BodyLoose p E.1 y.1 (headSpec (gws y) ({ frames := d, cells := f'.2.2.1 - f.2.2.1, slots := f'.2.2.2 - f.2.2.2, locals := 41 * d })) y.2.1 y.2.2.1 y.2.2.2.1 e s m args below meth c s₁ → c.maxLocals = y.2.2.1 → c.exceptionTable.toList = tableOf y.2.2.2.2 → va_Pc (av.map (gcv ad)) (gst E x f ad sz) args s →
      W p E.1 e (headSpec (gws y) ({ frames := d, cells := f'.2.2.1 - f.2.2.1, slots := f'.2.2.2 - f.2.2.2, locals := 41 * d })).room s m args below meth c s.heap [] 0 0 (vx_MQ below (gQc E (gA f ad sz) f ad o x' f') (gXC E (gA f ad sz) f ad o x' f') args s (f'.2.2.1 - f.2.2.1) (f'.2.2.2 - f.2.2.2) (gA f ad sz)) (entryFrame m args y.2.2.1) := by
    intro p e s m args below meth c s₁ B hml hno hv
    obtain ⟨rfl, hsz, hP, hK, hZ, hE⟩ := hv
    subst hsz
    have hts := atoms_spec (ws := gws y) B.pre
    have hl := lv_entry (av.map (gcv ad)) (n := y.2.2.1) (by rw [gsz_l]; exact hfit)
    rw [glv_c] at hl
    rw [lg_entry_eq]
    have h9 := h p e ({ frames := d, cells := f'.2.2.1 - f.2.2.1, slots := f'.2.2.2 - f.2.2.2, locals := 41 * d }) s m (av.map (gcv ad)).toArray below meth c (gA f ad s.heap.size) s.heap [] 0 0 _ ad
      ⟨⟨B.exec, B.bytes, hml, findClass_of_methodNamed B.named, fun w hw => hts w (List.mem_cons_of_mem _ hw)⟩, ⟨B.returns, B.notSynchronized, hno, (name_of_methodNamed B.named B.method).1⟩, ⟨Nat.le_refl _, Nat.le_refl _⟩, ⟨hK, hE, hZ, hlt⟩, fun q hq => Or.inr hq⟩ (gP_A _ hP) va_S.rf hl (by rw [Nat.zero_add]; exact Nat.le_refl _) (by rw [Nat.zero_add]; exact Nat.le_refl _)
    rw [Nat.zero_add, Nat.zero_add] at h9
    exact h9
  cases hh : y.2.2.2.2 with
  | nil =>
    refine vx_ofW (cc := y.2.1) (maxL := y.2.2.1) (ret := y.2.2.2.1) (ws' := W0) hy (by rw [gws, gcw, hh]) ?_
    intro p e s m args below meth c s₁ B hml hno hv
    refine body p e s m args below meth c s₁ B hml ?_ hv
    rw [hh]
    cases hc : c.exceptionTable.toList with
    | nil => rfl
    | cons a b => exact (hno a (by rw [hc]; exact List.mem_cons_self)).elim
  | cons a b =>
    refine vx_ofWH (cc := y.2.1) (maxL := y.2.2.1) (ret := y.2.2.2.1) (hh := a :: b) (ws' := W0) hy (by rw [gws, gcw, hh]) ?_
    intro p e s m args below meth c s₁ B hml hv
    have hm : Cond.codeWith y.1 y.2.1 y.2.2.1 y.2.2.2.1 (a :: b) ∈ gws y := by rw [gws, gcw, hh]; exact List.mem_cons_self
    exact body p e s m args below meth c s₁ B hml (by rw [hh]; exact vx_table (x := y.1) B (atoms_spec (ws := gws y) B.pre _ hm)) hv
/-- references that are live -/
def gokv (L : List Nat) (v : gv) : Bool := match v with
  | .inr (.inr (some c)) => L.elem c || decide (900 ≤ c ∧ c < 905)
  | _ => true
def gok (L : List Nat) (lv : List (Nat × gv)) (st : List gv) : Bool := lv.all (fun q => gokv L q.2) && st.all (gokv L)
theorem gcv_live {f : gf} {ad ad' : Nat → Nat} (h : gex f ad ad') {v : gv} (hv : gokv f.2.1 v = true) : gcv ad' v = gcv ad v := by
  rcases v with a | a | a
  · rfl
  · rfl
  · cases a with
    | none => rfl
    | some c =>
      show Value.ref _ = Value.ref _
      have hv : (f.2.1.elem c || decide (900 ≤ c ∧ c < 905)) = true := hv
      rw [Bool.or_eq_true] at hv
      rcases hv with hv | hv
      · rw [h.1 c (List.elem_iff.mp hv)]
      · have q := of_decide_eq_true hv
        have e := h.2 (c - 900) (by omega)
        rw [show 900 + (c - 900) = c by omega] at e
        rw [e]
theorem glc_live {f : gf} {ad ad' : Nat → Nat} (h : gex f ad ad') {lv : List (Nat × gv)} (hv : lv.all (fun q => gokv f.2.1 q.2) = true) : glc ad' lv = glc ad lv := by
  apply List.map_congr_left
  intro q hq
  rw [gcv_live h (List.all_eq_true.mp hv q hq)]
theorem gst_live {f : gf} {ad ad' : Nat → Nat} (h : gex f ad ad') {st : List gv} (hv : st.all (gokv f.2.1) = true) : st.map (gcv ad') = st.map (gcv ad) := by
  apply List.map_congr_left
  intro q hq
  rw [gcv_live h (List.all_eq_true.mp hv q hq)]
/-- what goes on behind a call -/
def gthen (E : gE) (d : Nat) (y : gy) (pc : Nat) (lv : List (Nat × gv)) (st : List gv) (Q : gr → gd → gf → Prop) (o : gr) (x : gd) (f : gf) : Prop := match o with
  | .inl v => T E d y pc lv (v.toList ++ st) x f Q
  | .inr X => Q (.inr X) x f
/-- what the tables say of a call of an instance's method, of a static one -/
def gMv (own : String) (idx : Nat) (z : gy) (n : Nat) : Prop := (Cond.methodLink own idx z.1 ∈ W0 ∧ Cond.instanceMethod z.1 ∈ W0 ∧ Cond.selects z.1.cls z.1 z.1 ∈ W0 ∧ Cond.initialized z.1.cls ∈ W0 ∧ gcw z ∈ W0) ∧ (z.1.cls ≠ "java/lang/invoke/MethodHandle" ∧ z.1.cls ≠ "java/lang/invoke/VarHandle" ∧ (parseMethodDescriptor z.1.desc).map (fun d => d.parameters.length) = some n) ∧ plainName z.1.cls = true ∧ z.2.2.1 ≤ 22
def gMs (own : String) (idx : Nat) (z : gy) (n : Nat) : Prop := (Cond.methodLink own idx z.1 ∈ W0 ∧ Cond.static z.1 ∈ W0 ∧ Cond.initialized z.1.cls ∈ W0 ∧ gcw z ∈ W0) ∧ (z.1.cls ≠ "java/lang/invoke/MethodHandle" ∧ z.1.cls ≠ "java/lang/invoke/VarHandle" ∧ (parseMethodDescriptor z.1.desc).map (fun d => d.parameters.length) = some n) ∧ plainName z.1.cls = true ∧ z.2.2.1 ≤ 22
theorem gwsz {z : gy} (h : gcw z ∈ W0) : GoodIn W0 (gws z) := by
  intro w hw
  rcases List.mem_cons.mp hw with e | hw
  · rw [e]; exact W0_good _ h
  · exact W0_good _ hw
theorem vx_MQ_mono {below : List Frame} {Qc Qc' : Array Value → State → Outcome → State → Prop} {XC XC' : String → State → State → Prop} {a : Array Value} {s : State} {mc ms : Nat} {free : Addr → Prop} {t : State} (h : vx_MQ below Qc XC a s mc ms free t) (h1 : ∀ a st o t, Qc a st o t → Qc' a st o t) (h2 : ∀ E st t, XC E st t → XC' E st t) : vx_MQ below Qc' XC' a s mc ms free t := by
  obtain ⟨o, e1, e2, e3⟩ := h
  refine ⟨o, e1, e2, ?_⟩
  rcases e3 with ⟨q1, q2⟩ | ⟨q, q1, E, ce, L, q2, q3⟩
  · exact Or.inl ⟨h1 _ _ _ _ q1, q2⟩
  · exact Or.inr ⟨q, q1, E, ce, L, h2 _ _ _ q2, q3⟩
section GRC
variable {E : gE} {d : Nat} {y : gy} {pc : Nat} {lv : List (Nat × gv)} {st : List gv} {x : gd} {f : gf} {Q : gr → gd → gf → Prop}
/-- a call, once its run is known -/
theorem T_run {z : gy} {d1 : Nat} {As : List gv} {rest : List gv} (hno : ∀ z ∈ tableOf y.2.2.2.2, covers z pc = false) (hlt9 : gok f.2.1 lv rest = true)
    (hrun : ∀ (o : gr) (x1 : gd) (f1 : gf), gle f f1 → gW E d1 z 0 (glv 0 As) [] x f o x1 f1 → ∀ (p : Program) (e : Env) (R : Room) (s : State) (m : MethodId) (args : Array Value) (below : List Frame) (meth : Method) (c : Code) (A : Nat → Prop) (H : Heap) (locs : List Loc) (cells slots : Nat) (ls : Array Slot) (ad : Nat → Nat), gC E d y p R s m args meth c A → gP E x f ad A H → va_S A s.heap H locs → lv_has ls y.2.2.1 (glc ad lv) → cells + (f1.2.2.1 - f.2.2.1) ≤ R.cells → slots + (f1.2.2.2 - f.2.2.2) ≤ R.slots →
      vx_Run p E.1 e R s m args below meth c H locs cells slots (f1.2.2.1 - f.2.2.1) (f1.2.2.2 - f.2.2.2) (F0 m pc ls (st.map (gcv ad))) (rest.map (gcv ad)) (gQc E (gA f ad H.size) f ad o x1 f1 (As.map (gcv ad)).toArray) (gXC E (gA f ad H.size) f ad o x1 f1) (gA f ad H.size))
    (k : T E d1 z 0 (glv 0 As) [] x f (gthen E d y (pc + 3) lv rest Q)) : T E d y pc lv st x f Q := by
  obtain ⟨o1, x1, f1, hk, hle, hw1⟩ := k
  have hlv : lv.all (fun q => gokv f.2.1 q.2) = true := (Bool.and_eq_true _ _ ▸ hlt9).1
  have hrs : rest.all (gokv f.2.1) = true := (Bool.and_eq_true _ _ ▸ hlt9).2
  cases o1 with
  | inl v =>
    obtain ⟨o, x', f', hQ, hle2, hw2⟩ := hk
    refine ⟨o, x', f', hQ, gle_tr hle hle2, ?_⟩
    intro p e R s m args below meth c A H locs cells slots ls ad C hP hS hl hc hs T9 hT X
    have a1 := hle.2.1
    have a2 := hle.2.2
    have b1 := hle2.2.1
    have b2 := hle2.2.2
    rcases hrun _ x1 f1 hle hw1 p e R s m args below meth c A H locs cells slots ls ad C hP hS hl (by omega) (by omega) T9 hT X with ⟨v', st₀, t, T', L, h0, X', hL, e1, e2, ⟨ad1, hex, ⟨v2, ev1, ev2⟩, hP1, hF⟩, stp⟩ | ⟨q, st₀, t, T', L, X0, ce, h0, X', hL, e1, e2, ⟨ad1, hex, hn, -⟩, -⟩
    · cases ev1
      cases ev2
      have hin := gA_in (sz := H.size) hP (fun q hq => C.2.2.2.2 q (Nat.le_trans hS.1 hq))
      obtain ⟨k1, k2, k3⟩ := vx_keep h0 e1 hS (fun q _ h => hin q h) hin hL hF
      have hP2 : gP E x1 f1 ad1 A T'.heap := by rw [e1]; exact gP_w hP1 hin
      have hl2 : lv_has ls y.2.2.1 (glc ad1 lv) := by rw [glc_live hex hlv]; exact hl
      have hw3 := hw2 p e R s m args below meth c A T'.heap (locs ++ L) (cells + (f1.2.2.1 - f.2.2.1)) (slots + (f1.2.2.2 - f.2.2.2)) ls ad1 C hP2 k3 hl2 (by omega) (by omega)
      rw [List.map_append, gst_live hex hrs] at hw3
      have hv : (v.toList).map (gcv ad1) = (v.map (gcv ad1)).toList := by cases v <;> rfl
      rw [hv] at hw3
      rw [show cells + (f1.2.2.1 - f.2.2.1) + (f'.2.2.1 - f1.2.2.1) = cells + (f'.2.2.1 - f.2.2.1) by omega, show slots + (f1.2.2.2 - f.2.2.2) + (f'.2.2.2 - f1.2.2.2) = slots + (f'.2.2.2 - f.2.2.2) by omega] at hw3
      obtain ⟨t2, s1, s2⟩ := hw3 T' rfl X'
      refine ⟨t2, stp t2 s1, vx_MQ_mono s2 (fun _ _ _ _ q => ?_) (fun _ _ _ q => ?_)⟩
      · obtain ⟨ad2, g1, g2⟩ := q; exact ⟨ad2, gex_tr hle hex g1, g2⟩
      · obtain ⟨ad2, g1, g2⟩ := q; exact ⟨ad2, gex_tr hle hex g1, g2⟩
    · cases hn
  | inr X1 =>
    refine ⟨.inr X1, x1, f1, hk, hle, ?_⟩
    intro p e R s m args below meth c A H locs cells slots ls ad C hP hS hl hc hs T9 hT X
    rcases hrun _ x1 f1 hle hw1 p e R s m args below meth c A H locs cells slots ls ad C hP hS hl hc hs T9 hT X with ⟨v', st₀, t, T', L, h0, X', hL, e1, e2, ⟨ad1, hex, ⟨v2, ev1, -⟩, -⟩, -⟩ | ⟨q, st₀, t, T', L, X0, ce, h0, X', hL, e1, e2, ⟨ad1, hex, hn, hP1, hF⟩, hce, hcv, hcl, stp⟩
    · cases ev1
    · cases hn
      have hin := gA_in (sz := H.size) hP (fun q hq => C.2.2.2.2 q (Nat.le_trans hS.1 hq))
      obtain ⟨k1, k2, k3⟩ := vx_keep h0 e1 hS (fun q _ h => hin q h) hin hL hF
      have hP2 : gP E x1 f1 ad1 A T'.heap := by rw [e1]; exact gP_w hP1 hin
      have hw3 := vx_out (p := p) (l := E.1) (e := e) (R := R) (m := m) (args := args) (below := below) (c := c) (cells := cells + (f1.2.2.1 - f.2.2.1)) (slots := slots + (f1.2.2.2 - f.2.2.2)) (free := A) (Qc := gQc E A f ad (.inr X1) x1 f1) (XC := gXC E A f ad (.inr X1) x1 f1) (ls := ls) (rest := rest.map (gcv ad)) (pc := pc) (mc := cells + (f1.2.2.1 - f.2.2.1)) (ms := slots + (f1.2.2.2 - f.2.2.2)) (fun z hz => hno z (by rw [← C.2.1.2.2.1]; exact hz)) C.2.1.2.1 (H := T'.heap) (by rw [e1]; exact hce) hcv hcl (fun t ht _ => ⟨ad1, hex, rfl, by rw [ht]; exact hP2, k3.F ht⟩) k3.2.2 (Nat.le_refl _) (Nat.le_refl _)
      obtain ⟨t2, s1, s2⟩ := hw3 T' rfl X'
      exact ⟨t2, stp.trans s1, s2⟩
theorem gst_in {ad : Nat → Nat} {A : Nat → Prop} {H : Heap} {locs : List Loc} {p : Program} {R : Room} {s U : State} {m : MethodId} {args : Array Value} {meth : Method} {c : Code} (C : gC E d y p R s m args meth c A) (hP : gP E x f ad A H) (hS : va_S A s.heap H locs) (hU : U.heap = H) (hW : s.WarmedH U.vm) : gst E x f ad H.size U := by
  subst hU
  exact ⟨rfl, gP_w hP (fun _ _ => trivial), va_K.moved hW.alike C.2.2.2.1.1, ev_Z_warm hW (ev_Z_down C.2.2.2.1.2.2.1 hS (gA_in hP (fun q hq => C.2.2.2.2 q (Nat.le_trans hS.1 hq)))), ev_warm hW C.2.2.2.1.2.1⟩
theorem T_callV {z : gy} {c ci idx n : Nat} {sl : List Bool} (As rest : List gv) (d1 : Nat) (hst : st = As.reverse ++ vr c :: rest) (hd : decode y.2.1 pc = .ok (.invokevirtual idx, 3)) (hM : gMv y.1.cls idx z n) (hn : As.length = n) (hK : E.2.2.2.1 c = .inl (ci, sl)) (hcl : (vwCl[ci]?).map (fun r => r.1) = some z.1.cls) (hc : c ∈ f.2.1) (hd1 : d1 + 1 ≤ d)
    (hfit : gsz (vr c :: As) ≤ z.2.2.1) (hcat : gsz rest ≤ 8) (hok : gok f.2.1 lv rest = true) (hno : ∀ z ∈ tableOf y.2.2.2.2, covers z pc = false) (k : T E d1 z 0 (glv 0 (vr c :: As)) [] x f (gthen E d y (pc + 3) lv rest Q)) : T E d y pc lv st x f Q := by
  obtain ⟨⟨m1, m2, m3, m4, m5⟩, m6, m7, m8⟩ := hM
  refine T_run (z := z) (d1 := d1) (As := vr c :: As) (rest := rest) hno hok ?_ k
  intro o x1 f1 hle hw p e R s m args below meth c0 A H locs cells slots ls ad C hP hS hl hc1 hs1
  obtain ⟨i, hi0, hi⟩ := gwl_at (E := E) (x := x) (ad := ad) hc
  rw [gce_obj hK] at hi
  have hr9 : ∃ r : vw_C, vwCl[ci]? = some r ∧ r.1 = z.1.cls := by
    cases h9 : vwCl[ci]? with
    | none => rw [h9] at hcl; cases hcl
    | some r => rw [h9] at hcl; exact ⟨r, rfl, Option.some.inj hcl⟩
  obtain ⟨r, hr1, hr2⟩ := hr9
  have hrec := va_recv C.2.2.2.1.1 hP.1.1 hr1 hi
  rw [hr2] at hrec
  have hG : GoodIn W0 (wsV y.1.cls idx z.1.cls z.1 (gws z)) := by
    intro w hw
    rcases List.mem_append.mp hw with h | h
    · refine W0_good w ?_
      simp only [List.mem_cons, List.not_mem_nil, or_false] at h
      rcases h with rfl | rfl | rfl | rfl
      · exact m1
      · exact m2
      · exact m3
      · exact m4
    · exact gwsz m5 w h
  have hroom : 8 + (z.2.2.1 + 11) + 41 * d1 ≤ R.locals := by
    have hq := C.2.2.1.2
    omega
  have hstk : st.map (gcv ad) = (As.map (gcv ad)).reverse ++ Value.ref (ad c) :: rest.map (gcv ad) := by
    rw [hst, List.map_append, List.map_reverse]
    rfl
  cases hz : z.2.2.2.2 with
  | nil =>
    exact vx_runV (As := As.map (gcv ad)) (C := z.1.cls) (b := ad c) (Pc := va_Pc ((vr c :: As).map (gcv ad)) (gst E x f ad H.size)) ⟨C.1.1, C.1.2.1, C.1.2.2.1, C.1.2.2.2.1, C.1.2.2.2.2⟩ (gM_of C.2.2.2.1.2.2.2 m7 hfit hw ad H.size)
      (cwV (bytes := z.2.1) (maxL := z.2.2.1) (ret := z.2.2.2.1) (ws' := W0) n C.1.2.2.2.2 hG (by rw [gws, gcw, hz]) rfl rfl ⟨rfl, m6⟩ ⟨Nat.le_trans hd1 C.2.2.1.1, hroom⟩) ⟨gst_blind, hrec, fun U hU hW => ⟨rfl, gst_in C hP hS hU hW⟩⟩ rfl (by rw [List.length_map]; exact hn) hl.1 hstk (lv_room (by rw [gsz_c]; exact hcat)) hd ⟨hc1, hs1⟩
  | cons a9 b9 =>
    exact vx_runVX (hh := a9 :: b9) (As := As.map (gcv ad)) (C := z.1.cls) (b := ad c) (Pc := va_Pc ((vr c :: As).map (gcv ad)) (gst E x f ad H.size)) ⟨C.1.1, C.1.2.1, C.1.2.2.1, C.1.2.2.2.1, C.1.2.2.2.2⟩ (gM_of C.2.2.2.1.2.2.2 m7 hfit hw ad H.size)
      (vx_cwVW (bytes := z.2.1) (maxL := z.2.2.1) (ret := z.2.2.2.1) (hh := a9 :: b9) (ws' := W0) n C.1.2.2.2.2 hG (by rw [gws, gcw, hz]) rfl rfl ⟨rfl, m6⟩ ⟨Nat.le_trans hd1 C.2.2.1.1, hroom⟩) ⟨gst_blind, hrec, fun U hU hW => ⟨rfl, gst_in C hP hS hU hW⟩⟩ rfl (by rw [List.length_map]; exact hn) hl.1 hstk (lv_room (by rw [gsz_c]; exact hcat)) hd ⟨hc1, hs1⟩
theorem T_callS {z : gy} {idx n : Nat} (As rest : List gv) (d1 : Nat) (hst : st = As.reverse ++ rest) (hd : decode y.2.1 pc = .ok (.invokestatic idx, 3)) (hM : gMs y.1.cls idx z n) (hn : As.length = n) (hd1 : d1 + 1 ≤ d)
    (hfit : gsz As ≤ z.2.2.1) (hcat : gsz rest ≤ 8) (hok : gok f.2.1 lv rest = true) (hno : ∀ z ∈ tableOf y.2.2.2.2, covers z pc = false) (k : T E d1 z 0 (glv 0 As) [] x f (gthen E d y (pc + 3) lv rest Q)) : T E d y pc lv st x f Q := by
  obtain ⟨⟨m1, m2, m4, m5⟩, m6, m7, m8⟩ := hM
  refine T_run (z := z) (d1 := d1) (As := As) (rest := rest) hno hok ?_ k
  intro o x1 f1 hle hw p e R s m args below meth c0 A H locs cells slots ls ad C hP hS hl hc1 hs1
  have hroom : 8 + (z.2.2.1 + 11) + 41 * d1 ≤ R.locals := by
    have hq := C.2.2.1.2
    omega
  have hstk : st.map (gcv ad) = (As.map (gcv ad)).reverse ++ rest.map (gcv ad) := by
    rw [hst, List.map_append, List.map_reverse]
  cases hz : z.2.2.2.2 with
  | nil =>
    exact vx_runS (As := As.map (gcv ad)) (Pc := va_Pc (As.map (gcv ad)) (gst E x f ad H.size)) ⟨C.1.1, C.1.2.1, C.1.2.2.1, C.1.2.2.2.1, C.1.2.2.2.2⟩ (gM_of C.2.2.2.1.2.2.2 m7 hfit hw ad H.size)
      ⟨callB_of (bytes := z.2.1) (maxL := z.2.2.1) (ret := z.2.2.2.1) (ws' := W0) n C.1.2.2.2.2 (gwsz m5) (by rw [gws, gcw, hz]) rfl rfl (C.1.2.2.2.2 _ m4) (C.1.2.2.2.2 _ m1) m6 ⟨Nat.le_trans hd1 C.2.2.1.1, hroom⟩, C.1.2.2.2.2 _ m2⟩ ⟨gst_blind, fun U hU hW => ⟨rfl, gst_in C hP hS hU hW⟩⟩ rfl (by rw [List.length_map]; exact hn) hl.1 hstk (lv_room (by rw [gsz_c]; exact hcat)) hd ⟨hc1, hs1⟩
  | cons a9 b9 =>
    have hG : GoodIn W0 (va_wsS y.1.cls idx z.1 (gws z)) := by
      intro w hw
      rcases List.mem_append.mp hw with h | h
      · refine W0_good w ?_
        simp only [List.mem_cons, List.not_mem_nil, or_false] at h
        rcases h with rfl | rfl | rfl
        · exact m1
        · exact m2
        · exact m4
      · exact gwsz m5 w h
    exact vx_runSX (hh := a9 :: b9) (As := As.map (gcv ad)) (Pc := va_Pc (As.map (gcv ad)) (gst E x f ad H.size)) ⟨C.1.1, C.1.2.1, C.1.2.2.1, C.1.2.2.2.1, C.1.2.2.2.2⟩ (gM_of C.2.2.2.1.2.2.2 m7 hfit hw ad H.size)
      (vx_cwSW (bytes := z.2.1) (maxL := z.2.2.1) (ret := z.2.2.2.1) (hh := a9 :: b9) (ws' := W0) n C.1.2.2.2.2 hG (by rw [gws, gcw, hz]) rfl rfl m6 ⟨Nat.le_trans hd1 C.2.2.1.1, hroom⟩) ⟨gst_blind, fun U hU hW => ⟨rfl, gst_in C hP hS hU hW⟩⟩ rfl (by rw [List.length_map]; exact hn) hl.1 hstk (lv_room (by rw [gsz_c]; exact hcat)) hd ⟨hc1, hs1⟩
end GRC
end
section
def gpick (lv : List (Nat × gv)) (ks : List Nat) : List (Nat × gv) := ks.filterMap (fun k => lv[k]?)
theorem gpick_c (ad : Nat → Nat) (lv : List (Nat × gv)) (ks : List Nat) : lv_pick (glc ad lv) ks = glc ad (gpick lv ks) := by
  rw [lv_pick, glc, gpick, glc, List.map_filterMap]
  congr 1
  funext k
  rw [List.getElem?_map]
/-- a table's way -/
def gtab (dflt lo hi : Int) (offs : Array Int) (v : Int32) : Int := if v.toInt < lo ∨ hi < v.toInt then dflt else offs.toList.getD (v.toInt - lo).toNat dflt
theorem gtab_d {dflt lo hi : Int} {offs : Array Int} {v : Int32} (ks : List Int32) (hks : (List.range offs.toList.length).all (fun j => decide (offs.toList.getD j dflt = dflt) || ks.elem (Int32.ofInt (lo + j))) = true) (hno : ∀ k ∈ ks, ¬ v = k) : gtab dflt lo hi offs v = dflt := by
  unfold gtab
  by_cases h : v.toInt < lo ∨ hi < v.toInt
  · rw [if_pos h]
  · rw [if_neg h]
    by_cases hj : (v.toInt - lo).toNat < offs.toList.length
    · have h1 := List.all_eq_true.mp hks _ (List.mem_range.mpr hj)
      rw [Bool.or_eq_true] at h1
      rcases h1 with h1 | h1
      · exact of_decide_eq_true h1
      · exfalso
        have e : lo + ((v.toInt - lo).toNat : Int) = v.toInt := by omega
        rw [e, Int32.ofInt_toInt] at h1
        exact hno v (List.elem_iff.mp h1) rfl
    · rw [List.getD_eq_getElem?_getD, List.getElem?_eq_none (by omega)]
      rfl
def glk (ps : Array (Int × Int)) (dflt : Int) (v : Int32) : Int := Op.lookupswitch.offset ps.toList dflt v.toInt
theorem gno {v a : Int32} {L : List Int32} (h : ¬ v = a) (t : ∀ k ∈ L, ¬ v = k) : ∀ k ∈ a :: L, ¬ v = k := fun k hk => (List.mem_cons.mp hk).elim (fun e => e ▸ h) (t k)
theorem gno0 {v : Int32} : ∀ k ∈ ([] : List Int32), ¬ v = k := fun _ h => nomatch h
section GRD
variable {E : gE} {d : Nat} {y : gy} {pc : Nat} {lv lv2 : List (Nat × gv)} {st : List gv} {x : gd} {f : gf} {Q : gr → gd → gf → Prop}
theorem T_sub (ks : List Nat) (h : gpick lv ks = lv2) (k : T E d y pc lv2 st x f Q) : T E d y pc lv st x f Q :=
  T_step (fun p e R s m args below meth c A H locs cells slots ls ad Q9 C hP hS hl kk => kk ls (lv_sub hl ks (by rw [gpick_c, h]))) k
theorem T_table {dflt lo hi : Int} {offs : Array Int} {len : Nat} {v : Int32} (off : Int) (tgt : Nat) (hd : decode y.2.1 pc = .ok (.tableswitch dflt lo hi offs, len)) (hsz : ((hi - lo).toNat + 1 = offs.toList.length) ∧ lo ≤ hi) (ho : gtab dflt lo hi offs v = off) (ht : (pc : Int) + off = (tgt : Int)) (k : T E d y tgt lv st x f Q) : T E d y pc lv (vi v :: st) x f Q := by
  by_cases h : v.toInt < lo ∨ hi < v.toInt
  · refine T_step (fun p e R s m args below meth c A H locs cells slots ls ad Q9 C hP hS hl kk => lv_tableOut C.1.1 C.1.2.1 hd h (tgt := tgt) ?_ (kk ls hl)) k
    rw [gtab, if_pos h] at ho
    rw [ho]; exact ht
  · refine T_step (fun p e R s m args below meth c A H locs cells slots ls ad Q9 C hP hS hl kk => lv_tableIn C.1.1 C.1.2.1 hd (fun q => h (Or.inl q)) (fun q => h (Or.inr q)) (off := off) (tgt := tgt) ?_ ht (kk ls hl)) k
    rw [gtab, if_neg h] at ho
    rw [← ho, ← Array.getElem?_toList, List.getD_eq_getElem?_getD]
    have hlt : (v.toInt - lo).toNat < offs.toList.length := by omega
    rw [List.getElem?_eq_getElem hlt]
    rfl
theorem T_lookup {dflt : Int} {ps : Array (Int × Int)} {len : Nat} {v : Int32} (off : Int) (tgt : Nat) (hd : decode y.2.1 pc = .ok (.lookupswitch dflt ps, len)) (hp : (ps.toList.zip (ps.toList.drop 1)).all (fun (a, next) => a.1 < next.1) = true) (ho : glk ps dflt v = off) (ht : (pc : Int) + off = (tgt : Int)) (k : T E d y tgt lv st x f Q) : T E d y pc lv (vi v :: st) x f Q :=
  T_step (fun p e R s m args below meth c A H locs cells slots ls ad Q9 C hP hS hl kk => lv_lookup C.1.1 C.1.2.1 hd hp ho ht (kk ls hl)) k
end GRD
theorem glk_ne {d : Int} {v : Int32} : ∀ (ps : List (Int × Int)), (∀ q ∈ ps, ¬ v.toInt = q.1) → Op.lookupswitch.offset ps d v.toInt = d := by
  intro ps
  induction ps with
  | nil => intro _; rfl
  | cons q r ih =>
    intro h
    have h1 := h q List.mem_cons_self
    have h2 := ih (fun z hz => h z (List.mem_cons_of_mem _ hz))
    obtain ⟨a, o⟩ := q
    rw [Op.lookupswitch.offset_cons, if_neg (fun e => h1 e.symm)]
    exact h2
theorem glk_d {ps : Array (Int × Int)} {dflt : Int} {v : Int32} (ks : List Int32) (hks : ps.toList.all (fun q => ks.elem (Int32.ofInt q.1)) = true) (hno : ∀ k ∈ ks, ¬ v = k) : glk ps dflt v = dflt := by
  refine glk_ne _ (fun q hq e => ?_)
  have h1 := List.all_eq_true.mp hks q hq
  rw [← e, Int32.ofInt_toInt] at h1
  exact hno v (List.elem_iff.mp h1) rfl
/-- decode rows, by their places in a method's list -/
def dck (c : ByteArray) (L : List (Nat × Instr × Nat)) : Bool := L.all (fun q => decide (decode c q.1 = .ok (q.2.1, q.2.2)))
theorem dk {c : ByteArray} {L : List (Nat × Instr × Nat)} (h : dck c L = true) (k : Nat) {pc len : Nat} {i : Instr} (hk : L[k]? = some (pc, i, len)) : decode c pc = .ok (i, len) := of_decide_eq_true (List.all_eq_true.mp h (pc, i, len) (List.mem_of_getElem? hk))
end
