section GRA
variable {E : gE} {d : Nat} {y : gy} {pc : Nat} {lv lv2 : List (Nat × gv)} {st : List gv} {x : gd} {f : gf} {Q : gr → gd → gf → Prop}
theorem T_iconst {n : Int} {v : Int32} (hd : decode y.2.1 pc = .ok (.iconst n, 1)) (hv : Int32.ofInt n = v) (k : T E d y (pc + 1) lv (vi v :: st) x f Q) : T E d y pc lv (st) x f Q :=
  T_step (fun p e R s m args below meth c A H locs cells slots ls ad Q9 C hP hS hl kk => lv_iconst C.1.1 C.1.2.1 hd hv (kk ls hl)) k
theorem T_bipush {n : Int} {v : Int32} (hd : decode y.2.1 pc = .ok (.bipush n, 2)) (hv : (Int8.ofInt n).toInt32 = v) (k : T E d y (pc + 2) lv (vi v :: st) x f Q) : T E d y pc lv (st) x f Q :=
  T_step (fun p e R s m args below meth c A H locs cells slots ls ad Q9 C hP hS hl kk => lv_bipush C.1.1 C.1.2.1 hd hv (kk ls hl)) k
theorem T_sipush {n : Int} {v : Int32} (hd : decode y.2.1 pc = .ok (.sipush n, 3)) (hv : (Int16.ofInt n).toInt32 = v) (k : T E d y (pc + 3) lv (vi v :: st) x f Q) : T E d y pc lv (st) x f Q :=
  T_step (fun p e R s m args below meth c A H locs cells slots ls ad Q9 C hP hS hl kk => lv_sipush C.1.1 C.1.2.1 hd hv (kk ls hl)) k
theorem T_lconst {n : Fin 2} {v : Int64} (hd : decode y.2.1 pc = .ok (.lconst n, 1)) (hv : Int64.ofNat (n : Nat) = v) (k : T E d y (pc + 1) lv (vl v :: st) x f Q) : T E d y pc lv (st) x f Q :=
  T_step (fun p e R s m args below meth c A H locs cells slots ls ad Q9 C hP hS hl kk => lv_lconst C.1.1 C.1.2.1 hd hv (kk ls hl)) k
theorem T_ldc {i : Nat} {v : Int32} (hd : decode y.2.1 pc = .ok (.ldc i, 2)) (hw : Cond.constant y.1.cls i v ∈ W0) (k : T E d y (pc + 2) lv (vi v :: st) x f Q) : T E d y pc lv (st) x f Q :=
  T_step (fun p e R s m args below meth c A H locs cells slots ls ad Q9 C hP hS hl kk => lv_ldc C.1.1 C.1.2.1 C.1.2.2.2.1 (C.1.2.2.2.2 _ hw) hd (kk ls hl)) k
theorem T_ldcw {i : Nat} {v : Int32} (hd : decode y.2.1 pc = .ok (.ldc_w i, 3)) (hw : Cond.constant y.1.cls i v ∈ W0) (k : T E d y (pc + 3) lv (vi v :: st) x f Q) : T E d y pc lv (st) x f Q :=
  T_step (fun p e R s m args below meth c A H locs cells slots ls ad Q9 C hP hS hl kk => lv_ldcw C.1.1 C.1.2.1 C.1.2.2.2.1 (C.1.2.2.2.2 _ hw) hd (kk ls hl)) k
theorem T_ldc2 {i : Nat} {v : Int64} (hd : decode y.2.1 pc = .ok (.ldc2_w i, 3)) (hw : Cond.constantLong y.1.cls i v ∈ W0) (k : T E d y (pc + 3) lv (vl v :: st) x f Q) : T E d y pc lv (st) x f Q :=
  T_step (fun p e R s m args below meth c A H locs cells slots ls ad Q9 C hP hS hl kk => lv_ldc2 C.1.1 C.1.2.1 C.1.2.2.2.1 (C.1.2.2.2.2 _ hw) hd (kk ls hl)) k
theorem glc_at {ad : Nat → Nat} {lv : List (Nat × gv)} {k i : Nat} {v : gv} (h : lv[k]? = some (i, v)) : (glc ad lv)[k]? = some (i, gcv ad v) := by
  rw [glc, List.getElem?_map, h]; rfl
theorem T_iload_n {n : Fin 4} {i : Nat} {a : Int32} (k9 : Nat) (hd : decode y.2.1 pc = .ok (.iload_n n, 1)) (hi : (n : Nat) = i) (h9 : lv[k9]? = some (i, vi a)) (k : T E d y (pc + 1) lv (vi a :: st) x f Q) : T E d y pc lv (st) x f Q :=
  T_step (fun p e R s m args below meth c A H locs cells slots ls ad Q9 C hP hS hl kk => lv_iload_n C.1.1 C.1.2.1 hd hi (lv_at hl k9 (glc_at h9)) (kk ls hl)) k
theorem T_iload {i : Nat} {a : Int32} (k9 : Nat) (hd : decode y.2.1 pc = .ok (.iload i, 2)) (h9 : lv[k9]? = some (i, vi a)) (k : T E d y (pc + 2) lv (vi a :: st) x f Q) : T E d y pc lv (st) x f Q :=
  T_step (fun p e R s m args below meth c A H locs cells slots ls ad Q9 C hP hS hl kk => lv_iload C.1.1 C.1.2.1 hd (lv_at hl k9 (glc_at h9)) (kk ls hl)) k
theorem T_lload_n {n : Fin 4} {i : Nat} {a : Int64} (k9 : Nat) (hd : decode y.2.1 pc = .ok (.lload_n n, 1)) (hi : (n : Nat) = i) (h9 : lv[k9]? = some (i, vl a)) (k : T E d y (pc + 1) lv (vl a :: st) x f Q) : T E d y pc lv (st) x f Q :=
  T_step (fun p e R s m args below meth c A H locs cells slots ls ad Q9 C hP hS hl kk => lv_lload_n C.1.1 C.1.2.1 hd hi (lv_at hl k9 (glc_at h9)) (kk ls hl)) k
theorem T_lload {i : Nat} {a : Int64} (k9 : Nat) (hd : decode y.2.1 pc = .ok (.lload i, 2)) (h9 : lv[k9]? = some (i, vl a)) (k : T E d y (pc + 2) lv (vl a :: st) x f Q) : T E d y pc lv (st) x f Q :=
  T_step (fun p e R s m args below meth c A H locs cells slots ls ad Q9 C hP hS hl kk => lv_lload C.1.1 C.1.2.1 hd (lv_at hl k9 (glc_at h9)) (kk ls hl)) k
theorem T_aload_n {n : Fin 4} {i : Nat} {a : Nat} (k9 : Nat) (hd : decode y.2.1 pc = .ok (.aload_n n, 1)) (hi : (n : Nat) = i) (h9 : lv[k9]? = some (i, vr a)) (k : T E d y (pc + 1) lv (vr a :: st) x f Q) : T E d y pc lv (st) x f Q :=
  T_step (fun p e R s m args below meth c A H locs cells slots ls ad Q9 C hP hS hl kk => lv_aload_n C.1.1 C.1.2.1 hd hi (lv_at hl k9 (glc_at h9)) (kk ls hl)) k
theorem T_aload {i : Nat} {a : Nat} (k9 : Nat) (hd : decode y.2.1 pc = .ok (.aload i, 2)) (h9 : lv[k9]? = some (i, vr a)) (k : T E d y (pc + 2) lv (vr a :: st) x f Q) : T E d y pc lv (st) x f Q :=
  T_step (fun p e R s m args below meth c A H locs cells slots ls ad Q9 C hP hS hl kk => lv_aload C.1.1 C.1.2.1 hd (lv_at hl k9 (glc_at h9)) (kk ls hl)) k
def gis2 (v : gv) : Bool := match v with
  | .inr (.inl _) => true
  | _ => false
theorem gcv_cat (ad : Nat → Nat) (v : gv) : ((gcv ad v).category == 2) = gis2 v := by
  rcases v with a | a | a
  · rfl
  · rfl
  · cases a <;> rfl
def gst1 (i : Nat) (lv : List (Nat × gv)) : List (Nat × gv) := lv.filter (fun q => !(q.1 == i) && !(q.1 + 1 == i && gis2 q.2))
def gst2 (i : Nat) (lv : List (Nat × gv)) : List (Nat × gv) := lv.filter (fun q => !(q.1 == i) && (!(q.1 == i + 1) && !(q.1 + 1 == i && gis2 q.2)))
theorem gst1_c {ad : Nat → Nat} {i : Nat} {v : gv} {lv lv2 : List (Nat × gv)} (h : (i, v) :: gst1 i lv = lv2) : (i, gcv ad v) :: (glc ad lv).filter (fun q => !(q.1 == i) && !(q.1 + 1 == i && q.2.category == 2)) = glc ad lv2 := by
  rw [← h, glc, glc, List.map_cons, gst1, List.filter_map]
  congr 3
  funext q
  simp [gcv_cat]
theorem gst2_c {ad : Nat → Nat} {i : Nat} {v : gv} {lv lv2 : List (Nat × gv)} (h : (i, v) :: gst2 i lv = lv2) : (i, gcv ad v) :: (glc ad lv).filter (fun q => !(q.1 == i) && (!(q.1 == i + 1) && !(q.1 + 1 == i && q.2.category == 2))) = glc ad lv2 := by
  rw [← h, glc, glc, List.map_cons, gst2, List.filter_map]
  congr 3
  funext q
  simp [gcv_cat]
theorem T_istore_n {n : Fin 4} {i : Nat} {a : Int32} (hd : decode y.2.1 pc = .ok (.istore_n n, 1)) (hi : (n : Nat) = i) (hn : i < y.2.2.1) (h9 : (i, vi a) :: gst1 i lv = lv2) (k : T E d y (pc + 1) lv2 st x f Q) : T E d y pc lv (vi a :: st) x f Q :=
  T_step (fun p e R s m args below meth c A H locs cells slots ls ad Q9 C hP hS hl kk => lv_istore_n C.1.1 C.1.2.1 hd hi hl hn (gst1_c h9) kk) k
theorem T_istore {i : Nat} {a : Int32} (hd : decode y.2.1 pc = .ok (.istore i, 2)) (hn : i < y.2.2.1) (h9 : (i, vi a) :: gst1 i lv = lv2) (k : T E d y (pc + 2) lv2 st x f Q) : T E d y pc lv (vi a :: st) x f Q :=
  T_step (fun p e R s m args below meth c A H locs cells slots ls ad Q9 C hP hS hl kk => lv_istore C.1.1 C.1.2.1 hd hl hn (gst1_c h9) kk) k
theorem T_lstore_n {n : Fin 4} {i : Nat} {a : Int64} (hd : decode y.2.1 pc = .ok (.lstore_n n, 1)) (hi : (n : Nat) = i) (hn : i + 1 < y.2.2.1) (h9 : (i, vl a) :: gst2 i lv = lv2) (k : T E d y (pc + 1) lv2 st x f Q) : T E d y pc lv (vl a :: st) x f Q :=
  T_step (fun p e R s m args below meth c A H locs cells slots ls ad Q9 C hP hS hl kk => lv_lstore_n C.1.1 C.1.2.1 hd hi hl hn (gst2_c h9) kk) k
theorem T_lstore {i : Nat} {a : Int64} (hd : decode y.2.1 pc = .ok (.lstore i, 2)) (hn : i + 1 < y.2.2.1) (h9 : (i, vl a) :: gst2 i lv = lv2) (k : T E d y (pc + 2) lv2 st x f Q) : T E d y pc lv (vl a :: st) x f Q :=
  T_step (fun p e R s m args below meth c A H locs cells slots ls ad Q9 C hP hS hl kk => lv_lstore C.1.1 C.1.2.1 hd hl hn (gst2_c h9) kk) k
theorem T_astore_n {n : Fin 4} {i : Nat} {a : Nat} (hd : decode y.2.1 pc = .ok (.astore_n n, 1)) (hi : (n : Nat) = i) (hn : i < y.2.2.1) (h9 : (i, vr a) :: gst1 i lv = lv2) (k : T E d y (pc + 1) lv2 st x f Q) : T E d y pc lv (vr a :: st) x f Q :=
  T_step (fun p e R s m args below meth c A H locs cells slots ls ad Q9 C hP hS hl kk => lv_astore_n C.1.1 C.1.2.1 hd hi hl hn (gst1_c h9) kk) k
theorem T_astore {i : Nat} {a : Nat} (hd : decode y.2.1 pc = .ok (.astore i, 2)) (hn : i < y.2.2.1) (h9 : (i, vr a) :: gst1 i lv = lv2) (k : T E d y (pc + 2) lv2 st x f Q) : T E d y pc lv (vr a :: st) x f Q :=
  T_step (fun p e R s m args below meth c A H locs cells slots ls ad Q9 C hP hS hl kk => lv_astore C.1.1 C.1.2.1 hd hl hn (gst1_c h9) kk) k
theorem T_iinc {i : Nat} {n : Int} {a v : Int32} (k9 : Nat) (hd : decode y.2.1 pc = .ok (.iinc i n, 3)) (h8 : lv[k9]? = some (i, vi a)) (hv : a + Int32.ofInt n = v) (hn : i < y.2.2.1) (h9 : (i, vi v) :: gst1 i lv = lv2) (k : T E d y (pc + 3) lv2 st x f Q) : T E d y pc lv st x f Q :=
  T_step (fun p e R s m args below meth c A H locs cells slots ls ad Q9 C hP hS hl kk => lv_iinc C.1.1 C.1.2.1 hd hl (glc_at h8) hv hn (gst1_c h9) kk) k
theorem T_iadd {a b : Int32} (hd : decode y.2.1 pc = .ok (.iadd, 1)) (k : T E d y (pc + 1) lv (vi (a + b) :: st) x f Q) : T E d y pc lv (vi b :: vi a :: st) x f Q :=
  T_step (fun p e R s m args below meth c A H locs cells slots ls ad Q9 C hP hS hl kk => lv_iadd C.1.1 C.1.2.1 hd (kk ls hl)) k
theorem T_isub {a b : Int32} (hd : decode y.2.1 pc = .ok (.isub, 1)) (k : T E d y (pc + 1) lv (vi (a - b) :: st) x f Q) : T E d y pc lv (vi b :: vi a :: st) x f Q :=
  T_step (fun p e R s m args below meth c A H locs cells slots ls ad Q9 C hP hS hl kk => lv_isub C.1.1 C.1.2.1 hd (kk ls hl)) k
theorem T_imul {a b : Int32} (hd : decode y.2.1 pc = .ok (.imul, 1)) (k : T E d y (pc + 1) lv (vi (a * b) :: st) x f Q) : T E d y pc lv (vi b :: vi a :: st) x f Q :=
  T_step (fun p e R s m args below meth c A H locs cells slots ls ad Q9 C hP hS hl kk => lv_imul C.1.1 C.1.2.1 hd (kk ls hl)) k
theorem T_iand {a b : Int32} (hd : decode y.2.1 pc = .ok (.iand, 1)) (k : T E d y (pc + 1) lv (vi (a &&& b) :: st) x f Q) : T E d y pc lv (vi b :: vi a :: st) x f Q :=
  T_step (fun p e R s m args below meth c A H locs cells slots ls ad Q9 C hP hS hl kk => lv_iand C.1.1 C.1.2.1 hd (kk ls hl)) k
theorem T_ior {a b : Int32} (hd : decode y.2.1 pc = .ok (.ior, 1)) (k : T E d y (pc + 1) lv (vi (a ||| b) :: st) x f Q) : T E d y pc lv (vi b :: vi a :: st) x f Q :=
  T_step (fun p e R s m args below meth c A H locs cells slots ls ad Q9 C hP hS hl kk => lv_ior C.1.1 C.1.2.1 hd (kk ls hl)) k
theorem T_ixor {a b : Int32} (hd : decode y.2.1 pc = .ok (.ixor, 1)) (k : T E d y (pc + 1) lv (vi (a ^^^ b) :: st) x f Q) : T E d y pc lv (vi b :: vi a :: st) x f Q :=
  T_step (fun p e R s m args below meth c A H locs cells slots ls ad Q9 C hP hS hl kk => lv_ixor C.1.1 C.1.2.1 hd (kk ls hl)) k
theorem T_land {a b : Int64} (hd : decode y.2.1 pc = .ok (.land, 1)) (k : T E d y (pc + 1) lv (vl (a &&& b) :: st) x f Q) : T E d y pc lv (vl b :: vl a :: st) x f Q :=
  T_step (fun p e R s m args below meth c A H locs cells slots ls ad Q9 C hP hS hl kk => lv_land C.1.1 C.1.2.1 hd (kk ls hl)) k
theorem T_lor {a b : Int64} (hd : decode y.2.1 pc = .ok (.lor, 1)) (k : T E d y (pc + 1) lv (vl (a ||| b) :: st) x f Q) : T E d y pc lv (vl b :: vl a :: st) x f Q :=
  T_step (fun p e R s m args below meth c A H locs cells slots ls ad Q9 C hP hS hl kk => lv_lor C.1.1 C.1.2.1 hd (kk ls hl)) k
theorem T_idiv {a b : Int32} (hd : decode y.2.1 pc = .ok (.idiv, 1)) (h0 : ¬ b = 0) (k : T E d y (pc + 1) lv (vi (a / b) :: st) x f Q) : T E d y pc lv (vi b :: vi a :: st) x f Q :=
  T_step (fun p e R s m args below meth c A H locs cells slots ls ad Q9 C hP hS hl kk => lv_idiv C.1.1 C.1.2.1 hd h0 (kk ls hl)) k
theorem T_irem {a b : Int32} (hd : decode y.2.1 pc = .ok (.irem, 1)) (h0 : ¬ b = 0) (k : T E d y (pc + 1) lv (vi (a - a / b * b) :: st) x f Q) : T E d y pc lv (vi b :: vi a :: st) x f Q :=
  T_step (fun p e R s m args below meth c A H locs cells slots ls ad Q9 C hP hS hl kk => lv_irem C.1.1 C.1.2.1 hd h0 (kk ls hl)) k
theorem T_ineg {a : Int32} (hd : decode y.2.1 pc = .ok (.ineg, 1)) (k : T E d y (pc + 1) lv (vi (-a) :: st) x f Q) : T E d y pc lv (vi a :: st) x f Q :=
  T_step (fun p e R s m args below meth c A H locs cells slots ls ad Q9 C hP hS hl kk => lv_ineg C.1.1 C.1.2.1 hd (kk ls hl)) k
theorem T_ishl {a b : Int32} (hd : decode y.2.1 pc = .ok (.ishl, 1)) (k : T E d y (pc + 1) lv (vi (a <<< (b &&& 31)) :: st) x f Q) : T E d y pc lv (vi b :: vi a :: st) x f Q :=
  T_step (fun p e R s m args below meth c A H locs cells slots ls ad Q9 C hP hS hl kk => lv_ishl C.1.1 C.1.2.1 hd (kk ls hl)) k
theorem T_ishr {a b : Int32} (hd : decode y.2.1 pc = .ok (.ishr, 1)) (k : T E d y (pc + 1) lv (vi (a >>> (b &&& 31)) :: st) x f Q) : T E d y pc lv (vi b :: vi a :: st) x f Q :=
  T_step (fun p e R s m args below meth c A H locs cells slots ls ad Q9 C hP hS hl kk => lv_ishr C.1.1 C.1.2.1 hd (kk ls hl)) k
theorem T_iushr {a b : Int32} (hd : decode y.2.1 pc = .ok (.iushr, 1)) (k : T E d y (pc + 1) lv (vi ((a.toUInt32 >>> (b.toUInt32 &&& Int32.toUInt32 31)).toInt32) :: st) x f Q) : T E d y pc lv (vi b :: vi a :: st) x f Q :=
  T_step (fun p e R s m args below meth c A H locs cells slots ls ad Q9 C hP hS hl kk => lv_iushr C.1.1 C.1.2.1 hd rfl (kk ls hl)) k
theorem T_lushr {a : Int64} {b : Int32} (hd : decode y.2.1 pc = .ok (.lushr, 1)) (k : T E d y (pc + 1) lv (vl ((a.toUInt64 >>> (b.toInt64.toUInt64 &&& Int64.toUInt64 63)).toInt64) :: st) x f Q) : T E d y pc lv (vi b :: vl a :: st) x f Q :=
  T_step (fun p e R s m args below meth c A H locs cells slots ls ad Q9 C hP hS hl kk => lv_lushr C.1.1 C.1.2.1 hd rfl (kk ls hl)) k
theorem T_lshl {a : Int64} {b : Int32} (hd : decode y.2.1 pc = .ok (.lshl, 1)) (k : T E d y (pc + 1) lv (vl (a <<< (b.toInt64 &&& 63)) :: st) x f Q) : T E d y pc lv (vi b :: vl a :: st) x f Q :=
  T_step (fun p e R s m args below meth c A H locs cells slots ls ad Q9 C hP hS hl kk => lv_lshl C.1.1 C.1.2.1 hd rfl (kk ls hl)) k
theorem T_lshr {a : Int64} {b : Int32} (hd : decode y.2.1 pc = .ok (.lshr, 1)) (k : T E d y (pc + 1) lv (vl (a >>> (b.toInt64 &&& 63)) :: st) x f Q) : T E d y pc lv (vi b :: vl a :: st) x f Q :=
  T_step (fun p e R s m args below meth c A H locs cells slots ls ad Q9 C hP hS hl kk => lv_lshr C.1.1 C.1.2.1 hd rfl (kk ls hl)) k
theorem T_i2l {a : Int32} (hd : decode y.2.1 pc = .ok (.i2l, 1)) (k : T E d y (pc + 1) lv (vl a.toInt64 :: st) x f Q) : T E d y pc lv (vi a :: st) x f Q :=
  T_step (fun p e R s m args below meth c A H locs cells slots ls ad Q9 C hP hS hl kk => lv_i2l C.1.1 C.1.2.1 hd rfl (kk ls hl)) k
theorem T_l2i {a : Int64} (hd : decode y.2.1 pc = .ok (.l2i, 1)) (k : T E d y (pc + 1) lv (vi a.toInt32 :: st) x f Q) : T E d y pc lv (vl a :: st) x f Q :=
  T_step (fun p e R s m args below meth c A H locs cells slots ls ad Q9 C hP hS hl kk => lv_l2i C.1.1 C.1.2.1 hd rfl (kk ls hl)) k
theorem T_i2b {a : Int32} (hd : decode y.2.1 pc = .ok (.i2b, 1)) (k : T E d y (pc + 1) lv (vi a.toInt8.toInt32 :: st) x f Q) : T E d y pc lv (vi a :: st) x f Q :=
  T_step (fun p e R s m args below meth c A H locs cells slots ls ad Q9 C hP hS hl kk => lv_i2b C.1.1 C.1.2.1 hd rfl (kk ls hl)) k
theorem T_i2c {a : Int32} (hd : decode y.2.1 pc = .ok (.i2c, 1)) (k : T E d y (pc + 1) lv (vi (a.toUInt32 % 65536).toInt32 :: st) x f Q) : T E d y pc lv (vi a :: st) x f Q :=
  T_step (fun p e R s m args below meth c A H locs cells slots ls ad Q9 C hP hS hl kk => lv_i2c C.1.1 C.1.2.1 hd rfl (kk ls hl)) k
theorem T_lcmp {a b : Int64} (hd : decode y.2.1 pc = .ok (.lcmp, 1)) (k : T E d y (pc + 1) lv (vi (lg_cmp a b) :: st) x f Q) : T E d y pc lv (vl b :: vl a :: st) x f Q :=
  T_step (fun p e R s m args below meth c A H locs cells slots ls ad Q9 C hP hS hl kk => W.lcmp C.1.1 C.1.2.1 hd (kk ls hl)) k
theorem gcv_1 {ad : Nat → Nat} {v : gv} (h : gis2 v = false) : (gcv ad v).category = 1 := by
  rcases v with a | a | a
  · rfl
  · cases h
  · cases a <;> rfl
theorem T_dup {v : gv} (hd : decode y.2.1 pc = .ok (.dup, 1)) (h1 : gis2 v = false) (k : T E d y (pc + 1) lv (v :: v :: st) x f Q) : T E d y pc lv (v :: st) x f Q :=
  T_step (fun p e R s m args below meth c A H locs cells slots ls ad Q9 C hP hS hl kk => lv_dup C.1.1 C.1.2.1 hd (gcv_1 h1) (kk ls hl)) k
theorem T_pop {v : gv} (hd : decode y.2.1 pc = .ok (.pop, 1)) (h1 : gis2 v = false) (k : T E d y (pc + 1) lv (st) x f Q) : T E d y pc lv (v :: st) x f Q :=
  T_step (fun p e R s m args below meth c A H locs cells slots ls ad Q9 C hP hS hl kk => lv_pop C.1.1 C.1.2.1 hd (gcv_1 h1) (kk ls hl)) k
theorem T_dup_x1 {v w : gv} (hd : decode y.2.1 pc = .ok (.dup_x1, 1)) (h1 : gis2 v = false) (h2 : gis2 w = false) (k : T E d y (pc + 1) lv (v :: w :: v :: st) x f Q) : T E d y pc lv (v :: w :: st) x f Q :=
  T_step (fun p e R s m args below meth c A H locs cells slots ls ad Q9 C hP hS hl kk => lv_dup_x1 C.1.1 C.1.2.1 hd (gcv_1 h1) (gcv_1 h2) (kk ls hl)) k
theorem T_dup2 {v w : gv} (hd : decode y.2.1 pc = .ok (.dup2, 1)) (h1 : gis2 v = false) (h2 : gis2 w = false) (k : T E d y (pc + 1) lv (v :: w :: v :: w :: st) x f Q) : T E d y pc lv (v :: w :: st) x f Q :=
  T_step (fun p e R s m args below meth c A H locs cells slots ls ad Q9 C hP hS hl kk => lv_dup2_11 C.1.1 C.1.2.1 hd (gcv_1 h1) (gcv_1 h2) (kk ls hl)) k
theorem T_goto {off : Int} (tgt : Nat) (hd : decode y.2.1 pc = .ok (.goto off, 3)) (ht : (pc : Int) + off = (tgt : Int)) (k : T E d y tgt lv st x f Q) : T E d y pc lv st x f Q :=
  T_step (fun p e R s m args below meth c A H locs cells slots ls ad Q9 C hP hS hl kk => lv_goto C.1.1 C.1.2.1 hd ht (kk ls hl)) k
theorem T_if_eq {a : Int32} {off : Int} (tgt : Nat) (hd : decode y.2.1 pc = .ok (.ifCond .eq off, 3)) (ht : (pc : Int) + off = (tgt : Int)) (kt : a = 0 → T E d y tgt lv st x f Q) (kf : ¬ (a = 0) → T E d y (pc + 3) lv st x f Q) : T E d y pc lv (vi a :: st) x f Q := by
  by_cases h : a = 0
  · exact T_step (fun p e R s m args below meth c A H locs cells slots ls ad Q9 C hP hS hl kk => lv_if_eq C.1.1 C.1.2.1 hd ht (fun _ => kk ls hl) (fun n => absurd h n)) (kt h)
  · exact T_step (fun p e R s m args below meth c A H locs cells slots ls ad Q9 C hP hS hl kk => lv_if_eq C.1.1 C.1.2.1 hd ht (fun n => absurd n h) (fun _ => kk ls hl)) (kf h)
theorem T_icmp_eq {a b : Int32} {off : Int} (tgt : Nat) (hd : decode y.2.1 pc = .ok (.if_icmp .eq off, 3)) (ht : (pc : Int) + off = (tgt : Int)) (kt : a = b → T E d y tgt lv st x f Q) (kf : ¬ (a = b) → T E d y (pc + 3) lv st x f Q) : T E d y pc lv (vi b :: vi a :: st) x f Q := by
  by_cases h : a = b
  · exact T_step (fun p e R s m args below meth c A H locs cells slots ls ad Q9 C hP hS hl kk => lv_icmp_eq C.1.1 C.1.2.1 hd ht (fun _ => kk ls hl) (fun n => absurd h n)) (kt h)
  · exact T_step (fun p e R s m args below meth c A H locs cells slots ls ad Q9 C hP hS hl kk => lv_icmp_eq C.1.1 C.1.2.1 hd ht (fun n => absurd n h) (fun _ => kk ls hl)) (kf h)
theorem T_if_ne {a : Int32} {off : Int} (tgt : Nat) (hd : decode y.2.1 pc = .ok (.ifCond .ne off, 3)) (ht : (pc : Int) + off = (tgt : Int)) (kt : ¬ a = 0 → T E d y tgt lv st x f Q) (kf : a = 0 → T E d y (pc + 3) lv st x f Q) : T E d y pc lv (vi a :: st) x f Q := by
  by_cases h : a = 0
  · exact T_step (fun p e R s m args below meth c A H locs cells slots ls ad Q9 C hP hS hl kk => lv_if_ne C.1.1 C.1.2.1 hd ht (fun n => absurd h n) (fun _ => kk ls hl)) (kf h)
  · exact T_step (fun p e R s m args below meth c A H locs cells slots ls ad Q9 C hP hS hl kk => lv_if_ne C.1.1 C.1.2.1 hd ht (fun _ => kk ls hl) (fun n => absurd n h)) (kt h)
theorem T_icmp_ne {a b : Int32} {off : Int} (tgt : Nat) (hd : decode y.2.1 pc = .ok (.if_icmp .ne off, 3)) (ht : (pc : Int) + off = (tgt : Int)) (kt : ¬ a = b → T E d y tgt lv st x f Q) (kf : a = b → T E d y (pc + 3) lv st x f Q) : T E d y pc lv (vi b :: vi a :: st) x f Q := by
  by_cases h : a = b
  · exact T_step (fun p e R s m args below meth c A H locs cells slots ls ad Q9 C hP hS hl kk => lv_icmp_ne C.1.1 C.1.2.1 hd ht (fun n => absurd h n) (fun _ => kk ls hl)) (kf h)
  · exact T_step (fun p e R s m args below meth c A H locs cells slots ls ad Q9 C hP hS hl kk => lv_icmp_ne C.1.1 C.1.2.1 hd ht (fun _ => kk ls hl) (fun n => absurd n h)) (kt h)
theorem T_if_lt {a : Int32} {off : Int} (tgt : Nat) (hd : decode y.2.1 pc = .ok (.ifCond .lt off, 3)) (ht : (pc : Int) + off = (tgt : Int)) (kt : a < 0 → T E d y tgt lv st x f Q) (kf : ¬ (a < 0) → T E d y (pc + 3) lv st x f Q) : T E d y pc lv (vi a :: st) x f Q := by
  by_cases h : a < 0
  · exact T_step (fun p e R s m args below meth c A H locs cells slots ls ad Q9 C hP hS hl kk => lv_if_lt C.1.1 C.1.2.1 hd ht (fun _ => kk ls hl) (fun n => absurd h n)) (kt h)
  · exact T_step (fun p e R s m args below meth c A H locs cells slots ls ad Q9 C hP hS hl kk => lv_if_lt C.1.1 C.1.2.1 hd ht (fun n => absurd n h) (fun _ => kk ls hl)) (kf h)
theorem T_icmp_lt {a b : Int32} {off : Int} (tgt : Nat) (hd : decode y.2.1 pc = .ok (.if_icmp .lt off, 3)) (ht : (pc : Int) + off = (tgt : Int)) (kt : a < b → T E d y tgt lv st x f Q) (kf : ¬ (a < b) → T E d y (pc + 3) lv st x f Q) : T E d y pc lv (vi b :: vi a :: st) x f Q := by
  by_cases h : a < b
  · exact T_step (fun p e R s m args below meth c A H locs cells slots ls ad Q9 C hP hS hl kk => lv_icmp_lt C.1.1 C.1.2.1 hd ht (fun _ => kk ls hl) (fun n => absurd h n)) (kt h)
  · exact T_step (fun p e R s m args below meth c A H locs cells slots ls ad Q9 C hP hS hl kk => lv_icmp_lt C.1.1 C.1.2.1 hd ht (fun n => absurd n h) (fun _ => kk ls hl)) (kf h)
theorem T_if_ge {a : Int32} {off : Int} (tgt : Nat) (hd : decode y.2.1 pc = .ok (.ifCond .ge off, 3)) (ht : (pc : Int) + off = (tgt : Int)) (kt : 0 ≤ a → T E d y tgt lv st x f Q) (kf : ¬ (0 ≤ a) → T E d y (pc + 3) lv st x f Q) : T E d y pc lv (vi a :: st) x f Q := by
  by_cases h : 0 ≤ a
  · exact T_step (fun p e R s m args below meth c A H locs cells slots ls ad Q9 C hP hS hl kk => lv_if_ge C.1.1 C.1.2.1 hd ht (fun _ => kk ls hl) (fun n => absurd h n)) (kt h)
  · exact T_step (fun p e R s m args below meth c A H locs cells slots ls ad Q9 C hP hS hl kk => lv_if_ge C.1.1 C.1.2.1 hd ht (fun n => absurd n h) (fun _ => kk ls hl)) (kf h)
theorem T_icmp_ge {a b : Int32} {off : Int} (tgt : Nat) (hd : decode y.2.1 pc = .ok (.if_icmp .ge off, 3)) (ht : (pc : Int) + off = (tgt : Int)) (kt : b ≤ a → T E d y tgt lv st x f Q) (kf : ¬ (b ≤ a) → T E d y (pc + 3) lv st x f Q) : T E d y pc lv (vi b :: vi a :: st) x f Q := by
  by_cases h : b ≤ a
  · exact T_step (fun p e R s m args below meth c A H locs cells slots ls ad Q9 C hP hS hl kk => lv_icmp_ge C.1.1 C.1.2.1 hd ht (fun _ => kk ls hl) (fun n => absurd h n)) (kt h)
  · exact T_step (fun p e R s m args below meth c A H locs cells slots ls ad Q9 C hP hS hl kk => lv_icmp_ge C.1.1 C.1.2.1 hd ht (fun n => absurd n h) (fun _ => kk ls hl)) (kf h)
theorem T_if_gt {a : Int32} {off : Int} (tgt : Nat) (hd : decode y.2.1 pc = .ok (.ifCond .gt off, 3)) (ht : (pc : Int) + off = (tgt : Int)) (kt : 0 < a → T E d y tgt lv st x f Q) (kf : ¬ (0 < a) → T E d y (pc + 3) lv st x f Q) : T E d y pc lv (vi a :: st) x f Q := by
  by_cases h : 0 < a
  · exact T_step (fun p e R s m args below meth c A H locs cells slots ls ad Q9 C hP hS hl kk => lv_if_gt C.1.1 C.1.2.1 hd ht (fun _ => kk ls hl) (fun n => absurd h n)) (kt h)
  · exact T_step (fun p e R s m args below meth c A H locs cells slots ls ad Q9 C hP hS hl kk => lv_if_gt C.1.1 C.1.2.1 hd ht (fun n => absurd n h) (fun _ => kk ls hl)) (kf h)
theorem T_icmp_gt {a b : Int32} {off : Int} (tgt : Nat) (hd : decode y.2.1 pc = .ok (.if_icmp .gt off, 3)) (ht : (pc : Int) + off = (tgt : Int)) (kt : b < a → T E d y tgt lv st x f Q) (kf : ¬ (b < a) → T E d y (pc + 3) lv st x f Q) : T E d y pc lv (vi b :: vi a :: st) x f Q := by
  by_cases h : b < a
  · exact T_step (fun p e R s m args below meth c A H locs cells slots ls ad Q9 C hP hS hl kk => lv_icmp_gt C.1.1 C.1.2.1 hd ht (fun _ => kk ls hl) (fun n => absurd h n)) (kt h)
  · exact T_step (fun p e R s m args below meth c A H locs cells slots ls ad Q9 C hP hS hl kk => lv_icmp_gt C.1.1 C.1.2.1 hd ht (fun n => absurd n h) (fun _ => kk ls hl)) (kf h)
theorem T_if_le {a : Int32} {off : Int} (tgt : Nat) (hd : decode y.2.1 pc = .ok (.ifCond .le off, 3)) (ht : (pc : Int) + off = (tgt : Int)) (kt : a ≤ 0 → T E d y tgt lv st x f Q) (kf : ¬ (a ≤ 0) → T E d y (pc + 3) lv st x f Q) : T E d y pc lv (vi a :: st) x f Q := by
  by_cases h : a ≤ 0
  · exact T_step (fun p e R s m args below meth c A H locs cells slots ls ad Q9 C hP hS hl kk => lv_if_le C.1.1 C.1.2.1 hd ht (fun _ => kk ls hl) (fun n => absurd h n)) (kt h)
  · exact T_step (fun p e R s m args below meth c A H locs cells slots ls ad Q9 C hP hS hl kk => lv_if_le C.1.1 C.1.2.1 hd ht (fun n => absurd n h) (fun _ => kk ls hl)) (kf h)
theorem T_icmp_le {a b : Int32} {off : Int} (tgt : Nat) (hd : decode y.2.1 pc = .ok (.if_icmp .le off, 3)) (ht : (pc : Int) + off = (tgt : Int)) (kt : a ≤ b → T E d y tgt lv st x f Q) (kf : ¬ (a ≤ b) → T E d y (pc + 3) lv st x f Q) : T E d y pc lv (vi b :: vi a :: st) x f Q := by
  by_cases h : a ≤ b
  · exact T_step (fun p e R s m args below meth c A H locs cells slots ls ad Q9 C hP hS hl kk => lv_icmp_le C.1.1 C.1.2.1 hd ht (fun _ => kk ls hl) (fun n => absurd h n)) (kt h)
  · exact T_step (fun p e R s m args below meth c A H locs cells slots ls ad Q9 C hP hS hl kk => lv_icmp_le C.1.1 C.1.2.1 hd ht (fun n => absurd n h) (fun _ => kk ls hl)) (kf h)
end GRA
