/-! the reader's small steps. now: field 8, bad: 9, badPlace: 10, nodes: 13, nested: 20 -/
def TX (x : gd) : Prop := TK x ∧ (x.1 0 10).toInt ≤ 3000
theorem TK_md {L A : List Nat} {x x' : gd} (h : md L A x x') (h6 : 6 ∉ A) (h8 : 8 ∉ A) (h7 : 7 ∉ A) (q : TK x) : TK x' := by
  intro j hj
  rw [h.2.1 6 (by decide) h6, h.2.1 8 (by decide) h8, h.2.1 7 (by decide) h7]
  exact q j hj
theorem TX_md {L A : List Nat} {x x' : gd} (h : md L A x x') (h10 : 10 ∉ L) (h6 : 6 ∉ A) (h8 : 8 ∉ A) (h7 : 7 ∉ A) (q : TX x) : TX x' := ⟨TK_md h h6 h8 h7 q.1, by rw [h.1 10 h10]; exact q.2⟩
def PN (x : gd) : Prop := 0 ≤ (x.1 0 8).toInt ∧ (x.1 0 8).toInt ≤ 700 ∧ 0 ≤ (x.1 0 9).toInt ∧ TX x
theorem PN_v {x : gd} (h : PN x) : vp_in (x.1 0 8) 710 := by
  rw [vp_in_iff]; have := h.1; have := h.2.1; omega
/-- a small step: it goes on by a token, or has a fault then; with a fault before, nothing is done -/
def SS (x x' : gd) : Prop := md [8, 9, 10] [] x x' ∧ PN x' ∧ (x.1 0 8).toInt ≤ (x'.1 0 8).toInt ∧ (0 < (x.1 0 9).toInt → x' = x) ∧ ((x'.1 0 9).toInt = 0 → (x.1 0 9).toInt = 0)
theorem SS_rf {x : gd} (h : PN x) : SS x x := ⟨md_w (md_rf x) (by decide) (by decide), h, Int.le_refl _, fun _ => rfl, fun q => q⟩
theorem SS_tr {x y z : gd} (a : SS x y) (b : SS y z) : SS x z := by
  refine ⟨md_tr a.1 b.1 rfl rfl, b.2.1, Int.le_trans a.2.2.1 b.2.2.1, fun q => ?_, fun q => a.2.2.2.2 (b.2.2.2.2 q)⟩
  have e := a.2.2.2.1 q
  rw [e] at b
  exact b.2.2.2.1 q
section SPC
variable {G : mG} {d : Nat} {x : gd} {F : Int32 → gd → Prop} {Fv : gd → Prop}
theorem sp_fault (n t : Int32) (hn : 0 < n.toInt) (ht : vp_in t 710) (hp : PN x) (h : ∀ x', SS x x' → 0 < (x'.1 0 9).toInt → x'.1 0 8 = x.1 0 8 → md [9, 10] [] x x' → Fv x') : MT G d z_fault 0 [(0, vr 0), (1, vi n), (2, vi t)] [] x (rv Fv) := by
  have key : ∀ (k : Int32) (y z : gd), (x.1 0 9) = 0 → 0 < k.toInt → y = si x 0 9 k → z = si y 0 10 (y.1 6 t.toNatClampNeg) → rv Fv none z := by
    intro k y z c hk e1 e2
    have m1 := md_f x 9 k
    rw [← e1] at m1
    have m2 := md_f y 10 (y.1 6 t.toNatClampNeg)
    rw [← e2] at m2
    have m3 : md [9, 10] [] x z := md_tr m1 m2 rfl rfl
    have b9 : z.1 0 9 = k := by rw [m2.1 9 (by decide), e1, si_get, if_pos ⟨rfl, rfl⟩]
    have b8 : z.1 0 8 = x.1 0 8 := m3.1 8 (by decide)
    have c0 : (x.1 0 9).toInt = 0 := by rw [c]; rfl
    have tz : TX z := by
      refine ⟨TK_md m3 (by decide) (by decide) (by decide) hp.2.2.2.1, ?_⟩
      rw [e2, si_get, if_pos ⟨rfl, rfl⟩, m1.2.1 6 (by decide) (by decide)]
      have tv := vp_in_iff.mp ht
      have tl : t.toNatClampNeg < 710 := by
        have := t_cl t
        omega
      have := hp.2.2.2.1 t.toNatClampNeg tl
      omega
    refine rv_i (h z ⟨md_w m3 (by decide) (by decide), ⟨by rw [b8]; exact hp.1, by rw [b8]; exact hp.2.1, by rw [b9]; omega, tz⟩, by rw [b8]; exact Int.le_refl _, fun q => ?_, fun q => ?_⟩ (by rw [b9]; exact hk) b8 m3)
    · omega
    · rw [b9] at q; omega
  refine sg_fault_0 _ _ ⟨fun c => ?_, fun c => ⟨ht, fun _ x4 e4 => ⟨ht, fun x6 e6 => key n x4 x6 c hn e4 e6⟩, fun _ x7 e7 => ⟨ht, fun x9 e9 => key 1 x7 x9 c (by decide) e7 e9⟩⟩⟩
  refine rv_i (h x (SS_rf hp) ?_ rfl (md_w (md_rf x) (by decide) (by decide)))
  have k0 : (0 : Int32).toInt = 0 := rfl
  rw [t_eq, k0] at c
  have := hp.2.2.1
  omega
theorem sp_here (hp : PN x) (h : ∀ r : Int32, (0 < (x.1 0 9).toInt → r = 0) → ((x.1 0 9).toInt = 0 → r = x.1 5 (x.1 0 8).toNatClampNeg) → F r x) : MT G d z_here 0 [(0, vr 0)] [] x (ri F) := by
  have k0 : (0 : Int32).toInt = 0 := rfl
  refine sg_here_0 ⟨fun c => ⟨PN_v hp, ri_i (h _ (fun q => ?_) (fun _ => rfl))⟩, fun c => ri_i (h _ (fun _ => rfl) (fun q => ?_))⟩
  · rw [t_le, k0] at c; omega
  · rw [t_le, k0] at c; omega
theorem sp_step (hp : PN x) (h : ∀ x', SS x x' → ((x'.1 0 9).toInt = 0 → (x'.1 0 8).toInt = (x.1 0 8).toInt + 1) → Fv x') : MT G (d + 1) z_step 0 [(0, vr 0)] [] x (rv Fv) := by
  have k0 : (0 : Int32).toInt = 0 := rfl
  have k1 : (1 : Int32).toInt = 1 := rfl
  have k7 : (700 : Int32).toInt = 700 := rfl
  obtain ⟨p1, p2, p3, p4⟩ := id hp
  refine sg_step_0 ⟨fun c => ⟨fun c2 x3 e3 => rv_i ?_, fun c2 => sp_fault _ _ (by decide) (PN_v hp) hp (fun x' hs hb e8 _ => rv_i (h x' hs (fun q => by omega)))⟩, fun c => rv_i (h x (SS_rf hp) (fun q => ?_))⟩
  · have m3 := md_f x 8 (x.1 0 8 + 1)
    rw [← e3] at m3
    rw [t_eq, k7] at c2
    have b8 : (x3.1 0 8).toInt = (x.1 0 8).toInt + 1 := by rw [e3, si_get, if_pos ⟨rfl, rfl⟩, t_add (by omega) (by omega), k1]
    have b9 : x3.1 0 9 = x.1 0 9 := m3.1 9 (by decide)
    rw [t_le, k0] at c
    exact h x3 ⟨md_w m3 (by decide) (by decide), ⟨by omega, by omega, by rw [b9]; exact p3, TX_md m3 (by decide) (by decide) (by decide) (by decide) p4⟩, by omega, fun q => by omega, fun q => by rw [← b9]; exact q⟩ (fun _ => b8)
  · rw [t_le, k0] at c; omega
theorem sp_pass (w : Int32) (hp : PN x) (h : ∀ x', SS x x' → ((x'.1 0 9).toInt = 0 → (x'.1 0 8).toInt = (x.1 0 8).toInt + 1) → Fv x') : MT G (d + 2) z_pass 0 [(0, vr 0), (1, vi w)] [] x (rv Fv) := by
  have k0 : (0 : Int32).toInt = 0 := rfl
  refine sg_pass_0 _ ⟨fun c => ⟨PN_v hp, fun _ => sp_step hp (fun x' hs hb => rv_i (h x' hs hb)), fun _ => sp_fault _ _ (by decide) (PN_v hp) hp (fun x' hs hb _ _ => rv_i (h x' hs (fun q => by omega)))⟩, fun c => rv_i (h x (SS_rf hp) (fun q => ?_))⟩
  rw [t_le, k0] at c; omega
theorem sp_take (w : Int32) (hp : PN x) (h0 : F 0 x) (h1 : ∀ x', (x.1 0 9).toInt = 0 → SS x x' → ((x'.1 0 9).toInt = 0 → (x'.1 0 8).toInt = (x.1 0 8).toInt + 1) → F 1 x') : MT G (d + 2) z_take 0 [(0, vr 0), (1, vi w)] [] x (ri F) := by
  have k0 : (0 : Int32).toInt = 0 := rfl
  refine sg_take_0 _ ⟨fun c => ri_i h0, fun c => ⟨PN_v hp, fun _ => sp_step hp (fun x' hs hb => ri_i (h1 x' ?_ hs hb)), fun _ => ri_i h0⟩⟩
  rw [t_lt, k0] at c
  have := hp.2.2.1
  omega
theorem sp_passName (hp : PN x) (h : ∀ x', SS x x' → ((x'.1 0 9).toInt = 0 → (x'.1 0 8).toInt = (x.1 0 8).toInt + 1) → F (x.1 0 8) x') : MT G (d + 3) z_passName 0 [(0, vr 0)] [] x (ri F) :=
  sg_passName_0 (sp_pass _ hp (fun x' hs hb => ri_i (h x' hs hb)))
theorem sp_strength (k : Int32) (h : ∀ r : Int32, 0 ≤ r.toInt → r.toInt ≤ 5 → F r x) : MT G (d + 1) z_strength 0 [(0, vi k)] [] x (ri F) := by
  refine sg_strength_0 _ ⟨fun _ => ⟨fun _ => sp_in _ _ _ ?_, fun _ => ri_i (h _ (by decide) (by decide))⟩, fun _ => ri_i (h _ (by decide) (by decide))⟩
  (repeat' (first | apply And.intro | with_reducible intro _))
  all_goals exact ri_i (h _ (by decide) (by decide))
theorem sp_beginsE (o : Int32) (hp : PN x) (h : ∀ r : Int32, (r = 0 ∨ r = 1) → F r x) : MT G (d + 1) z_beginsE 0 [(0, vr 0), (1, vi o)] [] x (ri F) := by
  have a20 : ∀ k : Int32, MT G (d + 1) z_beginsE 20 [(0, vr 0), (2, vi k)] [] x (ri F) := by
    intro k
    refine sg_beginsE_20 _ ?_
    (repeat' (first | apply And.intro | with_reducible intro _))
    all_goals first | exact ri_i (h _ (Or.inr rfl)) | exact ri_i (h _ (Or.inl rfl))
  refine sg_beginsE_0 _ (sp_here hp (fun r _ _ => ?_))
  (repeat' (first | apply And.intro | with_reducible intro _))
  all_goals first | exact a20 _ | exact ri_i (h _ (Or.inr rfl))
end SPC
