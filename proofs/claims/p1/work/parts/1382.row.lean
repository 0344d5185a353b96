theorem kp_t {S T : List Nat} {f g h : List Value} (h1 : kp S f g) (h2 : kp T g h) : kp (T ++ S) f h :=
  ⟨h2.1.trans h1.1, fun j hj => (h2.2 j (fun m => hj (List.mem_append_left _ m))).trans (h1.2 j (fun m => hj (List.mem_append_right _ m)))⟩
theorem mi_pre {α : Type} {xs ys : List α} {k : Nat} {a : α} (h : xs[k]? = some a) : (xs ++ ys)[k]? = some a := by
  rw [List.getElem?_append_left (List.getElem?_eq_some_iff.mp h).1]
  exact h
/-- what a step of the constructor needs and keeps -/
def mi_C (p : Program) (s : State) (m : MethodId) (args : Array Value) (c : Code) (A : Nat → Prop) (ls : Array Slot) (h0 : Nat) (R : Room) : Prop := p.tables.exec = Jvm.exec ∧ c.code = cX12_init ∧ (∀ w ∈ v_c_Model_init, w.before args s = true) ∧ s.vm.findClass RX12 = some m.cls ∧ (∀ q : Nat, s.heap.size ≤ q → A q) ∧ lv_has ls 1 [(0, .ref h0)] ∧ 98 ≤ R.cells ∧ 948697 ≤ R.slots
/-- the heap along the steps -/
def mi_I (D : va_G) (A : Nat → Prop) (s : State) (h0 : Nat) (wk : va_W) (g : List Value) (S : List Nat) (H : Heap) (locs : List Loc) : Prop := ∃ fs : List Value, kp S g fs ∧ va_P D vwCl ((h0, .inr (12, fs)) :: wk) H ∧ va_D A ((h0, .inr (12, fs)) :: wk) ∧ va_S A s.heap H locs
section MI
variable {p : Program} {l : Launch} {e : Env} {R : Room} {s : State} {m : MethodId} {args : Array Value} {below : List Frame} {meth : Method} {c : Code} {Q : State → Prop} {D : va_G} {A : Nat → Prop} {ls : Array Slot} {h0 : Nat} {tys : List (ClassId × FieldType)} {wk : va_W} {g : List Value} {S : List Nat} {H : Heap} {locs : List Loc}
set_option maxRecDepth 100000 in
theorem mi_drop (C9 : mi_C p s m args c A ls h0 R) (hK : va_K D vwCl tys s) (hln : g.length = 139) (hI : mi_I D A s h0 wk g S H locs)
    (pc L k N' idx cells slots : Nat) {n : Int32} {atype : ArrayType} {ty : FieldType} (a0 : vp_A) (hd0 : decode cX12_init pc = .ok (.aload_n 0, 1))
    (hpu : W p l e R s m args below meth c H locs cells slots Q (F0 m (pc + 1 + L) ls [.int n, .ref h0]) → W p l e R s m args below meth c H locs cells slots Q (F0 m (pc + 1) ls [.ref h0]))
    (hty : newarray.typeOf atype = ty) (harr : Cond.arrayClass (newarray.typeOf atype) ∈ v_c_Model_init) (ha : ∀ cA : ClassId, vp_cell cA a0 = arrV cA N' (fun _ => defaultValue ty)) (hn : ¬ n < 0) (hN : n.toNatClampNeg = N') (hby : N' * componentBytes ty ≤ 536870912) (hc : cells + 1 ≤ 98) (hsl : slots + N' ≤ 948697)
    (hd2 : decode cX12_init (pc + 1 + L) = .ok (.newarray atype, 2)) (hk : k < 139) (hlink : Cond.fieldLink RX12 idx (TX12 k).1 (TX12 k).2.1 (TX12 k).2.2.1 ∈ v_c_Model_init) (hfin : (TX12 k).2.2.2 = false) (hpd : parseFieldDescriptor (TX12 k).2.2.1 = some (.array ty))
    (hd3 : decode cX12_init (pc + 1 + L + 2) = .ok (.putfield idx, 3))
    (kk : ∀ (H1 : Heap) (locs1 : List Loc), mi_I D A s h0 wk g (k :: S) H1 locs1 → W p l e R s m args below meth c H1 locs1 (cells + 1) (slots + N') Q (F0 m (pc + 1 + L + 2 + 3) ls [])) : W p l e R s m args below meth c H locs cells slots Q (F0 m pc ls []) := by
  obtain ⟨hx, hb, hts, hown, hA, hl, hR1, hR2⟩ := C9
  obtain ⟨fs, hkp, hP, hD, hS⟩ := hI
  refine lv_aload_n hx hb hd0 rfl (lv_at hl 0 rfl) ?_
  refine hpu ?_
  refine va_newa (N' := N') (a0 := a0) hx hb (hts _ harr) hty hK hP hD hS hA ha hn hN hby (Nat.le_trans hc hR1) (Nat.le_trans hsl hR2) hd2 (fun q cA H hK hP hD hS => ?_)
  refine va_put (D := D) (ci := 12) (v := .ref q) (ty := .array ty) (C := RX12) (T := TX12) (N := 139) hx hb hts i_v_c_Model_init_X12 tyX12 tyX12_ok nmX12 hown hK hP hD hS 0 rfl rfl k hk (hts _ hlink) (fun _ h9 => h9) hfin hpd rfl rfl (kp_lt hkp hln hk) hd3 (fun H locs hP hD hS => ?_)
  have hP : va_P D vwCl (((h0, .inr (12, fs.set k (.ref q))) :: wk) ++ [(q, .inl (cA, a0))]) H := hP
  have hD : va_D A (((h0, .inr (12, fs.set k (.ref q))) :: wk) ++ [(q, .inl (cA, a0))]) := hD
  exact kk H locs ⟨fs.set k (.ref q), kp_s k (.ref q) hkp, fun i x hx => hP i x (mi_pre hx), ⟨fun i j x y hx hy => hD.1 i j x y (mi_pre hx) (mi_pre hy), fun i x hx => hD.2 i x (mi_pre hx)⟩, hS⟩
end MI
