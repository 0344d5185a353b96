/-! the run's small methods, from memories that are alike -/
theorem t_m1 {a : Int32} (h : 1 ≤ a.toInt) : (a + -1).toInt = a.toInt - 1 ∧ (a + -1).toNatClampNeg = a.toNatClampNeg - 1 := by
  have km : (-1 : Int32).toInt = -1 := rfl
  have r := t_rg a
  have e : (a + -1).toInt = a.toInt - 1 := by rw [t_add (by rw [km]; omega) (by rw [km]; omega), km]; omega
  refine ⟨e, ?_⟩
  rw [t_cl, t_cl, e]
  omega
theorem t_s1 {a : Int32} (h : 1 ≤ a.toInt) : (a - 1).toInt = a.toInt - 1 ∧ (a - 1).toNatClampNeg = a.toNatClampNeg - 1 := by
  have km : (1 : Int32).toInt = 1 := rfl
  have r := t_rg a
  have e : (a - 1).toInt = a.toInt - 1 := by rw [t_sub (by rw [km]; omega) (by rw [km]; omega), km]
  refine ⟨e, ?_⟩
  rw [t_cl, t_cl, e]
  omega
theorem cl_i {a : Int32} (h : 0 ≤ a.toInt) : ((a.toNatClampNeg : Nat) : Int) = a.toInt := by rw [t_cl]; omega
section DSW
variable {d : Nat} {S : gS} {x : gd} {F : Int32 → gd → gS → Prop} {Fv : gd → gS → Prop}
theorem ds_one (v : Int32) (h : ∀ r, F r x S) : MD d z_one 0 [(0, vi v)] [] S x (Di F) := sd_one_0 _ ⟨fun _ => Di_i (h _), fun _ => Di_i (h _)⟩
theorem ds_reckon (o a b : Int32) (h : ∀ r x' S', md [82] [] x x' → ssub S S' → F r x' S') : MD (d + 1) z_reckon 0 [(0, vr 0), (1, vi o), (2, vi a), (3, vi b)] [] S x (Di F) := by
  have hh : ∀ r, F r x S := fun r => h r x S (md_w (md_rf x) (by decide) (by decide)) (ssub_rf S)
  have a1 : ∀ s, MD (d + 1) z_reckon 113 [(0, vr 0)] [vi s] S x (Di F) := fun s => sd_reckon_113 _ (ds_one _ (fun r => Di_i (hh r)))
  have a2 : ∀ s, MD (d + 1) z_reckon 130 [(0, vr 0)] [vi s] S x (Di F) := fun s => sd_reckon_130 _ (ds_one _ (fun r => Di_i (hh r)))
  have a3 : ∀ s, MD (d + 1) z_reckon 144 [(0, vr 0)] [vi s] S x (Di F) := fun s => sd_reckon_144 _ (ds_one _ (fun r => Di_i (hh r)))
  have a4 : ∀ s, MD (d + 1) z_reckon 158 [(0, vr 0)] [vi s] S x (Di F) := fun s => sd_reckon_158 _ (ds_one _ (fun r => Di_i (hh r)))
  have a5 : ∀ s, MD (d + 1) z_reckon 172 [(0, vr 0)] [vi s] S x (Di F) := fun s => sd_reckon_172 _ (ds_one _ (fun r => Di_i (hh r)))
  have a6 : ∀ s, MD (d + 1) z_reckon 186 [(0, vr 0)] [vi s] S x (Di F) := fun s => sd_reckon_186 _ (ds_one _ (fun r => Di_i (hh r)))
  have a7 : ∀ s, MD (d + 1) z_reckon 200 [(0, vr 0)] [vi s] S x (Di F) := fun s => sd_reckon_200 _ (ds_one _ (fun r => Di_i (hh r)))
  have a8 : ∀ s, MD (d + 1) z_reckon 214 [(0, vr 0)] [vi s] S x (Di F) := fun s => sd_reckon_214 _ (ds_one _ (fun r => Di_i (hh r)))
  have fin : ∀ x2 : gd, x2 = si x 0 82 1 → Di F (some (vi 0)) x2 (sadd S 0 82) := fun x2 e => by
    have m := md_f x 82 1
    rw [← e] at m
    exact Di_i (h 0 x2 _ m (ssub_ad S 0 82))
  refine sd_reckon_0 _ _ _ ⟨fun _ => ⟨fun _ => a1 _, fun _ => ⟨fun _ => a1 _, fun _ => a1 _⟩⟩, fun _ => ⟨fun _ => a2 _, fun _ => ⟨fun _ => a2 _, fun _ => a2 _⟩⟩, fun _ => ⟨fun _ => a3 _, fun _ => a3 _⟩, fun _ => ⟨fun _ => a4 _, fun _ => a4 _⟩, fun _ => ⟨fun _ => a5 _, fun _ => a5 _⟩, fun _ => ⟨fun _ => a6 _, fun _ => a6 _⟩, fun _ => ⟨fun _ => a7 _, fun _ => a7 _⟩, fun _ => ⟨fun _ => a8 _, fun _ => a8 _⟩, fun _ => Di_i (hh _), fun _ => Di_i (hh _), fun _ => Di_i (hh _), fun _ => ⟨fun c => ⟨fun _ => ⟨fun _ => ⟨c, Di_i (hh _)⟩, fun _ => Di_i (hh _)⟩, fun _ => ⟨fun _ => ⟨c, Di_i (hh _)⟩, fun _ => Di_i (hh _)⟩⟩, fun _ => fin⟩⟩
theorem ds_worked {o w t : Int32} {l : Int} (hw0 : 0 ≤ w.toInt) (hw : cW x o w.toNatClampNeg l) (hl : l ≤ 6000) (ho : o = 0 → vp_in t 6) (h : ∀ r x' S', md [82] [84] x x' → ssub S S' → S' 0 82 → F r x' S') : MD (d + 2) z_worked 0 [(0, vr 0), (1, vi w), (2, vi t)] [] S x (Di F) := by
  have k0 : (0 : Int32).toInt = 0 := rfl
  have k1 : (1 : Int32).toInt = 1 := rfl
  have km : (-1 : Int32).toInt = -1 := rfl
  have k8 : (8 : Int32).toInt = 8 := rfl
  have c0 : (0 : Int32).toNatClampNeg = 0 := rfl
  have loop : ∀ (k : Nat) (y : gd) (S1 : gS) (l3 l4 : Int32), 0 ≤ l4.toInt → 0 ≤ l3.toInt → cS x o k l4.toNatClampNeg l3.toNatClampNeg 1 → x.1 51 (l4.toNatClampNeg + k) = 0 → ((l4.toNatClampNeg + k : Nat) : Int) < 6000 → l3.toNatClampNeg ≤ 60 → (∀ j : Nat, j < l3.toNatClampNeg → S1 84 j) → S1 0 82 → md [82] [84] x y → ssub S S1 → MD (d + 2) z_worked 10 [(0, vr 0), (2, vi t), (3, vi l3), (4, vi l4)] [] S1 y (Di F) := by
    intro k
    induction k with
    | zero =>
      intro y S1 l3 l4 h4 h3 cs e0 lt b60 sp s82 my ss
      have cs : l3.toNatClampNeg = 1 := cs
      have e51 : y.1 51 = x.1 51 := my.2.1 51 (by decide) (by decide)
      have c4 := t_cl l4
      refine sd_worked_10 _ _ _ ⟨by rw [vp_in_iff]; omega, fun _ => ⟨vp_in_iff.mpr (by decide), sp _ (by rw [c0]; omega), Di_i (h _ _ _ my ss s82)⟩, fun q => ?_⟩
      rw [e51] at q
      exact absurd e0 q
    | succ k ih =>
      intro y S1 l3 l4 h4 h3 cs e0 lt b60 sp s82 my ss
      obtain ⟨n1, cc, cs⟩ := cs
      have e51 : y.1 51 = x.1 51 := my.2.1 51 (by decide) (by decide)
      have e52 : y.1 52 = x.1 52 := my.2.1 52 (by decide) (by decide)
      have c4 := t_cl l4
      have c3 := t_cl l3
      have v4 : vp_in l4 6000 := by rw [vp_in_iff]; omega
      have i4 : (l4 + 1).toInt = l4.toInt + 1 := by rw [t_add (by omega) (by omega), k1]
      have n4 : (l4 + 1).toNatClampNeg = l4.toNatClampNeg + 1 := by have := t_cl (l4 + 1); omega
      have e0' : x.1 51 ((l4 + 1).toNatClampNeg + k) = 0 := by rw [n4, show l4.toNatClampNeg + 1 + k = l4.toNatClampNeg + (k + 1) by omega]; exact e0
      have lt' : (((l4 + 1).toNatClampNeg + k : Nat) : Int) < 6000 := by rw [n4]; omega
      rw [← n4] at cs
      have wne : ¬ x.1 51 l4.toNatClampNeg = 0 := by
        rcases cc with ⟨q | q | ⟨q, _⟩ | ⟨q, _⟩, _⟩ | ⟨q, _⟩ | ⟨q, _⟩ <;> (rw [q]; decide)
      -- a push
      have push : l3.toNatClampNeg < 60 → n1 = l3.toNatClampNeg + 1 → ∀ (v : Int32) (y2 : gd), y2 = si y 84 l3.toNatClampNeg v → MD (d + 2) z_worked 10 [(0, vr 0), (2, vi t), (3, vi (l3 + 1)), (4, vi (l4 + 1))] [] (sadd S1 84 l3.toNatClampNeg) y2 (Di F) := by
        intro hn hn1 v y2 e2
        have i3 : (l3 + 1).toInt = l3.toInt + 1 := by rw [t_add (by omega) (by omega), k1]
        have n3 : (l3 + 1).toNatClampNeg = l3.toNatClampNeg + 1 := by have := t_cl (l3 + 1); omega
        have m2 := md_a y 84 l3.toNatClampNeg v (by decide)
        rw [← e2] at m2
        refine ih y2 _ (l3 + 1) (l4 + 1) (by omega) (by omega) (by rw [n3, ← hn1]; exact cs) e0' lt' (by omega) (fun j hj => ?_) (Or.inr s82) (md_tr my m2 rfl rfl) (ssub_tr ss (ssub_ad _ _ _))
        by_cases q : j = l3.toNatClampNeg
        · exact Or.inl ⟨rfl, q⟩
        · exact Or.inr (sp j (by omega))
      have v3 : l3.toNatClampNeg < 60 → vp_in l3 60 := fun q => by rw [vp_in_iff]; omega
      refine sd_worked_10 _ _ _ ⟨v4, fun q => ?_, fun _ => ⟨v4, v4, ?_⟩⟩
      · rw [e51] at q; exact absurd q wne
      rw [e51, e52]
      rcases cc with ⟨q, hn, hn1⟩ | ⟨q, hn, hn1⟩ | ⟨q, hn, hn1⟩
      · refine ⟨fun _ => ⟨v3 hn, fun y2 e2 => push hn hn1 _ y2 e2⟩, fun c2 => ⟨?_, v3 hn, fun y2 e2 => push hn hn1 _ y2 e2⟩, fun _ => ⟨v3 hn, fun y2 e2 => push hn hn1 _ y2 e2⟩, fun c4' => ⟨?_, v3 hn, fun y2 e2 => push hn hn1 _ y2 e2⟩, fun c5 => ?_, fun c6 => ?_⟩
        · rcases q with q | q | ⟨q, q1, q2, q3⟩ | ⟨q, _⟩
          · rw [c2] at q; exact absurd q (by decide)
          · rw [c2] at q; exact absurd q (by decide)
          · have tv := vp_in_iff.mp (ho q1)
            have m1 : (8 * t).toInt = 8 * t.toInt := by rw [t_mul (by rw [k8]; omega) (by rw [k8]; omega), k8]
            rw [vp_in_iff, t_add (by omega) (by omega), m1]; omega
          · rw [c2] at q; exact absurd q (by decide)
        · rcases q with q | q | ⟨q, _⟩ | ⟨q, q1, q2⟩
          · rw [c4'] at q; exact absurd q (by decide)
          · rw [c4'] at q; exact absurd q (by decide)
          · rw [c4'] at q; exact absurd q (by decide)
          · rw [vp_in_iff]; omega
        · rcases q with q | q | ⟨q, _⟩ | ⟨q, _⟩ <;> (rw [c5] at q; exact absurd q (by decide))
        · rcases q with q | q | ⟨q, _⟩ | ⟨q, _⟩ <;> exact absurd q (c6 _ (by decide))
      · obtain ⟨s3, ns⟩ := t_s1 (a := l3) (by omega)
        obtain ⟨q3, eq3⟩ : ∃ q, q = l3 - 1 := ⟨_, rfl⟩
        rw [← eq3] at s3 ns
        rw [← eq3]
        refine ⟨fun c => ?_, fun c => ?_, fun c => ?_, fun c => ?_, fun c5 => ?_, fun c6 => absurd q (c6 _ (by decide))⟩
        · rw [q] at c; exact absurd c (by decide)
        · rw [q] at c; exact absurd c (by decide)
        · rw [q] at c; exact absurd c (by decide)
        · rw [q] at c; exact absurd c (by decide)
        have vs : vp_in q3 60 := by rw [vp_in_iff]; omega
        have sS : S1 84 q3.toNatClampNeg := sp _ (by omega)
        have set : ∀ (v : Int32) (y2 : gd), y2 = si y 84 q3.toNatClampNeg v → MD (d + 2) z_worked 10 [(0, vr 0), (2, vi t), (3, vi l3), (4, vi (l4 + 1))] [] (sadd S1 84 q3.toNatClampNeg) y2 (Di F) := by
          intro v y2 e2
          have m2 := md_a y 84 q3.toNatClampNeg v (by decide)
          rw [← e2] at m2
          exact ih y2 _ l3 (l4 + 1) (by omega) h3 (by rw [← hn1]; exact cs) e0' lt' b60 (fun j hj => Or.inr (sp j hj)) (Or.inr s82) (md_tr my m2 rfl rfl) (ssub_tr ss (ssub_ad _ _ _))
        exact ⟨fun _ => ⟨vs, sS, vs, fun y2 e2 => set _ y2 e2⟩, fun _ => ⟨vs, sS, fun _ => ⟨vs, fun y2 e2 => set _ y2 e2⟩, fun _ => ⟨vs, fun y2 e2 => set _ y2 e2⟩⟩⟩
      · obtain ⟨m3, nm⟩ := t_m1 (a := l3) (by omega)
        obtain ⟨q3, eq3⟩ : ∃ q, q = l3 + -1 := ⟨_, rfl⟩
        rw [← eq3] at m3 nm
        rw [← eq3]
        obtain ⟨m4, n4'⟩ := t_s1 (a := q3) (by omega)
        obtain ⟨q4, eq4⟩ : ∃ q, q = q3 - 1 := ⟨_, rfl⟩
        rw [← eq4] at m4 n4'
        rw [← eq4]
        refine ⟨fun c => ?_, fun c => ?_, fun c => ?_, fun c => ?_, fun c => ?_, fun _ => ?_⟩
        · rw [q] at c; exact absurd c (by decide)
        · rw [q] at c; exact absurd c (by decide)
        · rw [q] at c; exact absurd c (by decide)
        · rw [q] at c; exact absurd c (by decide)
        · rw [q] at c; exact absurd c (by decide)
        have v1 : vp_in q3 60 := by rw [vp_in_iff]; omega
        have v2 : vp_in q4 60 := by rw [vp_in_iff]; omega
        refine ⟨v2, sp _ (by omega), v1, sp _ (by omega), ds_reckon _ _ _ (fun r y3 S3 m9 ss3 => ⟨v2, fun y4 e4 => ?_⟩)⟩
        have m5 := md_a y3 84 q4.toNatClampNeg r (by decide)
        rw [← e4] at m5
        have mm : md [82] [84] x y4 := md_tr (md_tr (L3 := [82]) (A3 := [84]) my m9 rfl rfl) m5 rfl rfl
        have s4 : ssub S (sadd S3 84 q4.toNatClampNeg) := ssub_tr ss (ssub_tr ss3 (ssub_ad _ _ _))
        have s5 : sadd S3 84 q4.toNatClampNeg 0 82 := Or.inr (ss3 _ _ s82)
        refine ⟨s5, fun _ => ?_, fun _ => Di_i (h _ _ _ mm s4 s5)⟩
        exact ih y4 _ q3 (l4 + 1) (by omega) (by omega) (by rw [nm, show l3.toNatClampNeg - 1 = n1 by omega]; exact cs) e0' lt' (by omega) (fun j hj => Or.inr (ss3 _ _ (sp j (by omega)))) s5 mm s4
  obtain ⟨k, q1, q2, q3⟩ := hw
  refine sd_worked_0 _ _ (fun y e => ?_)
  have m := md_f x 82 0
  rw [← e] at m
  exact loop k y _ 0 w hw0 (by decide) (by rw [c0]; exact q1) q2 (by omega) (by rw [c0]; omega) (fun j hj => by rw [c0] at hj; omega) (Or.inl ⟨rfl, rfl⟩) (md_w m (by decide) (by decide)) (ssub_ad _ _ _)
end DSW
