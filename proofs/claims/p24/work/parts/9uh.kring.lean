section
/-! ring: the shortest ring of locks taken behind each other -/
def wk9 (E : Nat → Nat → Prop) (a : Nat) : Nat → Nat → Prop
  | 0, c => c = a
  | n + 1, c => ∃ b, b < 6 ∧ wk9 E a n b ∧ E b c
/-- come to first behind k steps -/
def fs9 (E : Nat → Nat → Prop) (a k c : Nat) : Prop := wk9 E a k c ∧ ∀ m, 1 ≤ m → m < k → ¬ wk9 E a m c
/-- the shortest ring through a; 0: none -/
def rgF (E : Nat → Nat → Prop) (a k : Nat) : Prop := (k = 0 ∧ ∀ m, 1 ≤ m → m ≤ 6 → ¬ wk9 E a m a) ∨ (1 ≤ k ∧ k ≤ 6 ∧ fs9 E a k a)
def rgS (E : Nat → Nat → Prop) (n k : Nat) : Prop := (k = 0 ∧ ∀ a, a < n → rgF E a 0) ∨ (1 ≤ k ∧ k ≤ 6 ∧ (∃ a, a < n ∧ rgF E a k) ∧ ∀ a, a < n → ∀ j, rgF E a j → j = 0 ∨ k ≤ j)
section PRG
variable {E : Nat → Nat → Prop} {a b c k m n nl s r : Nat}
theorem rgF_u (h : rgF E a k) (g : rgF E a m) : k = m := by
  rcases h with ⟨h1, h2⟩ | ⟨h1, h2, h3, h4⟩
  · rcases g with ⟨g1, -⟩ | ⟨g1, g2, g3, -⟩
    · omega
    · exact absurd g3 (h2 m g1 g2)
  · rcases g with ⟨-, g2⟩ | ⟨g1, g2, g3, g4⟩
    · exact absurd h3 (g2 k h1 h2)
    · rcases Nat.lt_trichotomy k m with z | z | z
      · exact absurd h3 (g4 k h1 z)
      · exact z
      · exact absurd g3 (h4 m g1 z)
theorem rgS_u (h : rgS E n k) (g : rgS E n m) : k = m := by
  rcases h with ⟨h1, h2⟩ | ⟨h1, -, ⟨a, h2, h3⟩, h4⟩
  · rcases g with ⟨g1, -⟩ | ⟨g1, -, ⟨b, g2, g3⟩, -⟩
    · omega
    · have := rgF_u (h2 b g2) g3
      omega
  · rcases g with ⟨g1, g2⟩ | ⟨g1, -, ⟨b, g2, g3⟩, g4⟩
    · have := rgF_u (g2 a h2) h3
      omega
    · have e1 := h4 b g2 m g3
      have e2 := g4 a h2 k h3
      omega
theorem rgS_0 : rgS E 0 0 := Or.inl ⟨rfl, fun a h => absurd h (Nat.not_lt_zero _)⟩
theorem rgS_next (h : rgS E n s) (g : rgF E n r) : (r = 0 → rgS E (n + 1) s) ∧ (¬ r = 0 → s = 0 → rgS E (n + 1) r) ∧ (¬ r = 0 → ¬ s = 0 → s ≤ r → rgS E (n + 1) s) ∧ (¬ r = 0 → ¬ s = 0 → r < s → rgS E (n + 1) r) := by
  have up : ∀ a, a < n + 1 → a < n ∨ a = n := fun a ha => by omega
  have r6 : ¬ r = 0 → 1 ≤ r ∧ r ≤ 6 := fun nr => by
    rcases g with ⟨g1, -⟩ | ⟨g1, g2, -⟩
    · exact absurd g1 nr
    · exact ⟨g1, g2⟩
  refine ⟨fun e => ?_, fun nr e => ?_, fun nr ns hsr => ?_, fun nr ns hrs => ?_⟩
  · rw [e] at g
    rcases h with ⟨h1, h2⟩ | ⟨h1, h6, ⟨a, h2, h3⟩, h4⟩
    · exact Or.inl ⟨h1, fun a ha => by rcases up a ha with z | z; exact h2 a z; rw [z]; exact g⟩
    · refine Or.inr ⟨h1, h6, ⟨a, by omega, h3⟩, fun a ha j hj => ?_⟩
      rcases up a ha with z | z
      · exact h4 a z j hj
      · rw [z] at hj; exact Or.inl (rgF_u hj g)
  · rcases h with ⟨h1, h2⟩ | ⟨h1, -⟩
    · refine Or.inr ⟨(r6 nr).1, (r6 nr).2, ⟨n, by omega, g⟩, fun a ha j hj => ?_⟩
      rcases up a ha with z | z
      · exact Or.inl (rgF_u hj (h2 a z))
      · rw [z] at hj; exact Or.inr (by rw [rgF_u hj g]; exact Nat.le_refl _)
    · omega
  · rcases h with ⟨h1, -⟩ | ⟨h1, h6, ⟨a, h2, h3⟩, h4⟩
    · exact absurd h1 ns
    · refine Or.inr ⟨h1, h6, ⟨a, by omega, h3⟩, fun a ha j hj => ?_⟩
      rcases up a ha with z | z
      · exact h4 a z j hj
      · rw [z] at hj; have := rgF_u hj g; omega
  · rcases h with ⟨h1, -⟩ | ⟨h1, h6, ⟨a, h2, h3⟩, h4⟩
    · exact absurd h1 ns
    · refine Or.inr ⟨(r6 nr).1, (r6 nr).2, ⟨n, by omega, g⟩, fun a ha j hj => ?_⟩
      rcases up a ha with z | z
      · have := h4 a z j hj; omega
      · rw [z] at hj; have := rgF_u hj g; omega
theorem php : ∀ (n k : Nat) (f : Nat → Nat), (∀ i, i < k → f i < n) → (∀ i j, i < k → j < k → f i = f j → i = j) → k ≤ n := by
  intro n
  induction n with
  | zero =>
    intro k f h _
    cases k with
    | zero => exact Nat.le_refl _
    | succ k => exact absurd (h 0 (Nat.succ_pos _)) (Nat.not_lt_zero _)
  | succ n ih =>
    intro k f h1 h2
    cases k with
    | zero => exact Nat.zero_le _
    | succ k =>
      refine Nat.succ_le_succ (ih k (fun i => if f i = n then f k else f i) (fun i hi => ?_) (fun i j hi hj e => ?_))
      · show (if f i = n then f k else f i) < n
        by_cases c : f i = n
        · rw [if_pos c]
          have := h1 k (by omega)
          have : ¬ f k = n := fun z => by have := h2 i k (by omega) (by omega) (c.trans z.symm); omega
          omega
        · rw [if_neg c]
          have := h1 i (by omega)
          omega
      · have e : (if f i = n then f k else f i) = (if f j = n then f k else f j) := e
        by_cases ci : f i = n
        · by_cases cj : f j = n
          · exact h2 i j (by omega) (by omega) (ci.trans cj.symm)
          · rw [if_pos ci, if_neg cj] at e
            have := h2 k j (by omega) (by omega) e
            omega
        · by_cases cj : f j = n
          · rw [if_neg ci, if_pos cj] at e
            have := h2 i k (by omega) (by omega) e
            omega
          · rw [if_neg ci, if_neg cj] at e
            exact h2 i j (by omega) (by omega) e
theorem fs9_u (hk : 1 ≤ k) (hm : 1 ≤ m) (h : fs9 E a k c) (g : fs9 E a m c) : k = m := by
  rcases Nat.lt_trichotomy k m with z | z | z
  · exact absurd h.1 (g.2 k hk z)
  · exact z
  · exact absurd g.1 (h.2 m hm z)
/-- where one comes first behind k steps, one came elsewhere first behind each fewer -/
theorem fs9_pre (hE : ∀ a b, a < 6 → E a b → a < nl ∧ b < nl) : ∀ k c, fs9 E a k c → ∀ m, 1 ≤ m → m ≤ k → ∃ b, b < nl ∧ fs9 E a m b := by
  intro k
  induction k with
  | zero => intro c _ m h1 h2; omega
  | succ k ih =>
    intro c h m h1 h2
    obtain ⟨b, b6, hb, hbc⟩ := h.1
    by_cases e : m = k + 1
    · rw [e]; exact ⟨c, (hE b c b6 hbc).2, h⟩
    · refine ih b ⟨hb, fun j j1 j2 hj => h.2 (j + 1) (by omega) (by omega) ⟨b, b6, hj, hbc⟩⟩ m h1 (by omega)
theorem fs9_le (hE : ∀ a b, a < 6 → E a b → a < nl ∧ b < nl) (h : fs9 E a k c) : k ≤ nl := by
  have f := fs9_pre hE k c h
  obtain ⟨g, hg⟩ : ∃ g : Nat → Nat, ∀ i, i < k → g i < nl ∧ fs9 E a (i + 1) (g i) := by
    refine ⟨fun i => @dite Nat (i < k) (Classical.propDecidable _) (fun z => (f (i + 1) (by omega) (by omega)).choose) (fun _ => 0), fun i hi => ?_⟩
    show (@dite Nat (i < k) (Classical.propDecidable _) (fun z => (f (i + 1) (by omega) (by omega)).choose) (fun _ => 0)) < nl ∧ fs9 E a (i + 1) (@dite Nat (i < k) (Classical.propDecidable _) (fun z => (f (i + 1) (by omega) (by omega)).choose) (fun _ => 0))
    rw [dif_pos hi]
    exact (f (i + 1) (by omega) (by omega)).choose_spec
  refine php nl k g (fun i hi => (hg i hi).1) (fun i j hi hj e => ?_)
  have h1 := (hg i hi).2
  have h2 := (hg j hj).2
  rw [e] at h1
  have := fs9_u (by omega) (by omega) h1 h2
  omega
/-- the first of those that there are -/
theorem wk9_first {P : Nat → Prop} : ∀ n, 1 ≤ n → P n → ∃ k, 1 ≤ k ∧ k ≤ n ∧ P k ∧ ∀ m, 1 ≤ m → m < k → ¬ P m := by
  intro n
  induction n using Nat.strongRecOn with
  | _ n ih =>
    intro h1 h
    by_cases c : ∃ m, 1 ≤ m ∧ m < n ∧ P m
    · obtain ⟨m, m1, m2, m3⟩ := c
      obtain ⟨k, k1, k2, k3⟩ := ih m m2 m1 m3
      exact ⟨k, k1, by omega, k3⟩
    · exact ⟨n, h1, Nat.le_refl _, h, fun m m1 m2 hm => c ⟨m, m1, m2, hm⟩⟩
theorem rgF_none (hE : ∀ a b, a < 6 → E a b → a < nl ∧ b < nl) (h : ∀ m, 1 ≤ m → m ≤ nl → ¬ wk9 E a m a) : rgF E a 0 := by
  refine Or.inl ⟨rfl, fun m m1 m6 hm => ?_⟩
  obtain ⟨k, k1, k2, k3, k4⟩ := wk9_first (P := fun m => wk9 E a m a) m m1 hm
  exact h k k1 (fs9_le hE ⟨k3, k4⟩) k3
/-- locks that there are not close no ring -/
theorem rgS_6 (n6 : nl ≤ 6) (hE : ∀ a b, a < 6 → E a b → a < nl ∧ b < nl) (h : rgS E nl k) : rgS E 6 k := by
  have no : ∀ a, nl ≤ a → rgF E a 0 := fun a ha => Or.inl ⟨rfl, fun m m1 _ hm => by
    cases m with
    | zero => omega
    | succ m =>
      obtain ⟨b, b6, -, hb⟩ := hm
      have := (hE b a b6 hb).2
      omega⟩
  rcases h with ⟨h1, h2⟩ | ⟨h1, h6, ⟨a, h2, h3⟩, h4⟩
  · exact Or.inl ⟨h1, fun a ha => by
      by_cases c : a < nl
      · exact h2 a c
      · exact no a (by omega)⟩
  · refine Or.inr ⟨h1, h6, ⟨a, by omega, h3⟩, fun b hb j hj => ?_⟩
    by_cases c : b < nl
    · exact h4 b c j hj
    · exact Or.inl (rgF_u hj (no b (by omega)))
theorem or_bit (u v j : Int32) : ((u ||| v) >>> j) &&& 1 = 1 ↔ ((u >>> j) &&& 1 = 1 ∨ (v >>> j) &&& 1 = 1) := by
  rw [or_sr]
  rcases t_and1 (u >>> j) with e | e <;> rcases t_and1 (v >>> j) with f | f <;> rw [e, f] <;> decide
end PRG
section KRG
variable {G : kG} {q : kP} {d : Nat} {x : gd} {o : Nat} {F : Int32 → gd → Prop} {E : Nat → Nat → Prop} {A : Nat}
theorem kt_ringFrom3 (hq : kV q) (ho : kiT q o) (hE : ∀ a, a < 6 → ∀ b, b < 6 → ((x.1 (o + 9) a >>> (Int32.ofNat b &&& 31)) &&& 1 = 1 ↔ E a b)) (a : Int32) (ea : a.toInt = A) (hA : A < 6) (h : ∀ r : Int32, ∀ k : Nat, r.toInt = k → rgF E A k → F r x) : KT G q d zk_X10_ringFrom 0 [(0, vr o), (1, vi a)] [] x (ri F) := by
  have k6 : (6 : Int32).toInt = 6 := rfl
  have aI : a = Int32.ofNat A := i32_of ea
  have outer : ∀ (m j : Nat) (l2 l3 : Int32), l3.toInt = ((j + 1 : Nat) : Int) → 6 - j ≤ m → j ≤ 6 → (∀ c, c < 6 → ((l2 >>> (Int32.ofNat c &&& 31)) &&& 1 = 1 ↔ wk9 E A j c)) → (∀ i, 1 ≤ i → i ≤ j → ¬ wk9 E A i A) → KT G q d zk_X10_ringFrom 6 [(0, vr o), (1, vi a), (2, vi l2), (3, vi l3)] [] x (ri F) := by
    intro m
    have fin : ∀ (j : Nat) (l3 : Int32), l3.toInt = ((j + 1 : Nat) : Int) → (∀ i, 1 ≤ i → i ≤ j → ¬ wk9 E A i A) → (6 : Int32) < l3 → ri F (some (vi 0)) x := by
      intro j l3 ej hno c
      rw [t_lt, k6] at c
      exact ri_i (h 0 0 rfl (Or.inl ⟨rfl, fun i i1 i6 => hno i i1 (by omega)⟩))
    induction m with
    | zero =>
      intro j l2 l3 ej hm hj hb hno
      refine kg_X10_ringFrom_6 hq ho _ _ _ ⟨fun c => fin j l3 ej hno c, fun c => ?_⟩
      clear hb hno
      rw [t_lt, k6] at c; omega
    | succ m ih =>
      intro j l2 l3 ej hm hj hb hno
      refine kg_X10_ringFrom_6 hq ho _ _ _ ⟨fun c => fin j l3 ej hno c, fun c => ?_⟩
      rw [t_lt, k6] at c
      have hj6 : j < 6 := by clear hb hno; omega
      have e1 : (l3 + 1).toInt = ((j + 1 + 1 : Nat) : Int) := by clear hb hno; rw [t_add (by show _ ≤ _ + (1 : Int); omega) (by show _ + (1 : Int) ≤ _; omega), ej]; rfl
      have loop : ∀ (n k : Nat) (i l4 : Int32), i.toInt = k → 6 - k ≤ n → k ≤ 6 → (∀ c, c < 6 → ((l4 >>> (Int32.ofNat c &&& 31)) &&& 1 = 1 ↔ ∃ b, b < k ∧ wk9 E A j b ∧ E b c)) → KT G q d zk_X10_ringFrom 18 [(0, vr o), (1, vi a), (2, vi l2), (3, vi l3), (4, vi l4), (5, vi i)] [] x (ri F) := by
        intro n
        have done : ∀ (k : Nat) (i l4 : Int32), i.toInt = k → k ≤ 6 → (∀ c, c < 6 → ((l4 >>> (Int32.ofNat c &&& 31)) &&& 1 = 1 ↔ ∃ b, b < k ∧ wk9 E A j b ∧ E b c)) → (6 : Int32) ≤ i → ((¬ (((l4 >>> (a &&& 31 : Int32)) &&& 1) = (1 : Int32)) → KT G q d zk_X10_ringFrom 6 [(0, vr o), (1, vi a), (2, vi l4), (3, vi (l3 + 1))] [] x (ri F)) ∧ (((l4 >>> (a &&& 31 : Int32)) &&& 1) = (1 : Int32) → ri F (some (vi l3)) x)) := by
          intro k i l4 ei hk hl c6
          rw [t_le, k6] at c6
          have ek : k = 6 := by clear hl hb hno; omega
          rw [ek] at hl
          have hl : ∀ c, c < 6 → ((l4 >>> (Int32.ofNat c &&& 31)) &&& 1 = 1 ↔ wk9 E A (j + 1) c) := hl
          have hA2 := hl A hA
          rw [← aI] at hA2
          refine ⟨fun nb => ih (j + 1) _ _ e1 (by clear hl hb hno; omega) hj6 hl (fun i i1 i2 => ?_), fun yb => ri_i (h l3 (j + 1) ej (Or.inr ⟨by omega, by omega, hA2.mp yb, fun i i1 i2 => hno i i1 (by omega)⟩))⟩
          by_cases e : i = j + 1
          · rw [e]; exact fun z => nb (hA2.mpr z)
          · exact hno i i1 (by omega)
        induction n with
        | zero =>
          intro k i l4 ei hn hk hl
          refine kg_X10_ringFrom_18 hq ho _ _ _ _ _ ⟨fun c => done k i l4 ei hk hl c, fun c => ?_⟩
          clear hl hb hno
          rw [t_le, k6] at c; omega
        | succ n ihn =>
          intro k i l4 ei hn hk hl
          refine kg_X10_ringFrom_18 hq ho _ _ _ _ _ ⟨fun c => done k i l4 ei hk hl c, fun c => ?_⟩
          rw [t_le, k6] at c
          have hk6 : k < 6 := by clear hl hb hno; omega
          have ei1 : (i + 1).toInt = ((k + 1 : Nat) : Int) := by clear hl hb hno; rw [t_add (by show _ ≤ _ + (1 : Int); omega) (by show _ + (1 : Int) ≤ _; omega), ei]; rfl
          have iK : i.toNatClampNeg = k := by rw [t_cl, ei]; rfl
          have hbk := hb k hk6
          rw [← i32_of ei] at hbk
          rw [iK]
          refine ⟨fun nb => ihn (k + 1) _ _ ei1 (by clear hl hb hno; omega) hk6 (fun c hc => ?_), fun yb => ⟨by clear hl hb hno; rw [vp_in_iff]; omega, ihn (k + 1) _ _ ei1 (by clear hl hb hno; omega) hk6 (fun c hc => ?_)⟩⟩
          · rw [hl c hc]
            constructor
            · rintro ⟨b, b1, b2⟩
              exact ⟨b, by omega, b2⟩
            · rintro ⟨b, b1, b2, b3⟩
              by_cases e : b = k
              · rw [e] at b2; exact absurd (hbk.mpr b2) nb
              · exact ⟨b, by omega, b2, b3⟩
          · rw [or_bit, hl c hc, hE k hk6 c hc]
            constructor
            · rintro (⟨b, b1, b2⟩ | z)
              · exact ⟨b, by omega, b2⟩
              · exact ⟨k, by omega, hbk.mp yb, z⟩
            · rintro ⟨b, b1, b2, b3⟩
              by_cases e : b = k
              · rw [e] at b3; exact Or.inr b3
              · exact Or.inl ⟨b, by omega, b2, b3⟩
      refine loop 6 0 _ _ rfl (by omega) (by omega) (fun c hc => ?_)
      rw [km_0 c (by omega)]
      exact ⟨fun z => absurd z (by decide), fun ⟨b, z, _⟩ => absurd z (Nat.not_lt_zero _)⟩
  refine kg_X10_ringFrom_0 hq ho _ (outer 6 0 _ _ rfl (by omega) (by omega) (fun c hc => ?_) (fun i i1 i2 => by omega))
  rw [aI, km_1 A (by omega) c (by omega)]
  show _ ↔ c = A
  by_cases e : c = A
  · rw [if_pos e]; exact ⟨fun _ => e, fun _ => rfl⟩
  · rw [if_neg e]; exact ⟨fun z => absurd z (by decide), fun z => absurd z e⟩
theorem kt_ring3 (hq : kV q) (ho : kiT q o) (hE : ∀ a, a < 6 → ∀ b, b < 6 → ((x.1 (o + 9) a >>> (Int32.ofNat b &&& 31)) &&& 1 = 1 ↔ E a b)) (h : ∀ r : Int32, ∀ k : Nat, r.toInt = k → rgS E 6 k → F r x) : KT G q (d + 1) zk_X10_shortestRing 0 [(0, vr o)] [] x (ri F) := by
  have k6 : (6 : Int32).toInt = 6 := rfl
  have k0 : (0 : Int32).toInt = 0 := rfl
  have loop : ∀ (n k s : Nat) (i l1 : Int32), i.toInt = k → 6 - k ≤ n → k ≤ 6 → l1.toInt = s → rgS E k s → KT G q (d + 1) zk_X10_shortestRing 4 [(0, vr o), (1, vi l1), (2, vi i)] [] x (ri F) := by
    intro n
    have fin : ∀ (k s : Nat) (i l1 : Int32), i.toInt = k → k ≤ 6 → l1.toInt = s → rgS E k s → (6 : Int32) ≤ i → ri F (some (vi l1)) x := by
      intro k s i l1 ei hk es hs c
      rw [t_le, k6] at c
      have ek : k = 6 := by omega
      rw [ek] at hs
      exact ri_i (h l1 s es hs)
    induction n with
    | zero =>
      intro k s i l1 ei hn hk es hs
      refine kg_X10_shortestRing_4 hq ho _ _ ⟨fun c => fin k s i l1 ei hk es hs c, fun c => ?_⟩
      rw [t_le, k6] at c; omega
    | succ n ih =>
      intro k s i l1 ei hn hk es hs
      refine kg_X10_shortestRing_4 hq ho _ _ ⟨fun c => fin k s i l1 ei hk es hs c, fun c => ?_⟩
      rw [t_le, k6] at c
      have hk6 : k < 6 := by omega
      have ei1 : (i + 1).toInt = ((k + 1 : Nat) : Int) := by rw [t_add (by show _ ≤ _ + (1 : Int); omega) (by show _ + (1 : Int) ≤ _; omega), ei]; rfl
      have go : ∀ (l : Int32) (s : Nat), l.toInt = s → rgS E (k + 1) s → KT G q (d + 1) zk_X10_shortestRing 4 [(0, vr o), (1, vi l), (2, vi (i + 1))] [] x (ri F) := fun l s e hs => ih (k + 1) s _ _ ei1 (by omega) hk6 e hs
      refine kt_ringFrom3 hq ho hE _ ei hk6 (fun r t er hr => ?_)
      obtain ⟨n1, n2, n3, n4⟩ := rgS_next hs hr
      refine ⟨fun r0 => go _ s es (n1 (by rw [r0, k0] at er; omega)), fun rn => ?_⟩
      have tn : ¬ t = 0 := fun z => rn (t_eq.mpr (by rw [k0]; omega))
      refine ⟨fun l0 => go _ t er (n2 tn (by rw [l0, k0] at es; omega)), fun ln => ?_⟩
      have sn : ¬ s = 0 := fun z => ln (t_eq.mpr (by rw [k0]; omega))
      refine ⟨fun le => go _ s es (n3 tn sn (by rw [t_le] at le; omega)), fun nle => go _ t er (n4 tn sn (by rw [t_le] at nle; omega))⟩
  exact kg_X10_shortestRing_0 hq ho (loop 6 0 0 _ _ rfl (by omega) (by omega) rfl rgS_0)
end KRG
end
section
/-! ring: the model's search, and both answers -/
/-- a lock's way from l, behind K levels -/
def Rv9 (E : Nat → Nat → Prop) (l : Nat) (u : gd) (c K : Nat) : Prop := (u.1 139 c = 0 ∧ ∀ m, 1 ≤ m → m ≤ K → ¬ wk9 E l m c) ∨ ∃ t : Nat, 1 ≤ t ∧ (u.1 139 c).toInt = t ∧ fs9 E l t c
/-- the same within level k, where the first i are gone through -/
def Rm9 (E : Nat → Nat → Prop) (l : Nat) (u : gd) (c k i : Nat) : Prop := (u.1 139 c = 0 ∧ (∀ m, 1 ≤ m → m < k → ¬ wk9 E l m c) ∧ ∀ a, a < i → fs9 E l (k - 1) a → ¬ E a c) ∨ ∃ t : Nat, 1 ≤ t ∧ (u.1 139 c).toInt = t ∧ fs9 E l t c
section MRG
variable {G : mG} {d D : Nat} {y u u' : gd} {F : Int32 → gd → Prop} {E : Nat → Nat → Prop} {l c k i K nl v : Nat}
theorem Rm_f (e : u'.1 139 c = u.1 139 c) (h : Rm9 E l u c k i) : Rm9 E l u' c k i := by
  unfold Rm9 at h ⊢
  rw [e]; exact h
theorem Rv_m (h : Rv9 E l u c K) : Rm9 E l u c (K + 1) 0 := by
  rcases h with ⟨h1, h2⟩ | h
  · exact Or.inl ⟨h1, fun m m1 m2 => h2 m m1 (by omega), fun a ha => absurd ha (Nat.not_lt_zero _)⟩
  · exact Or.inr h
theorem Rm_v (hE : ∀ a b, a < 6 → E a b → a < nl ∧ b < nl) (h : Rm9 E l u c (K + 1) nl) : Rv9 E l u c (K + 1) := by
  rcases h with ⟨h1, h2, h3⟩ | h
  · refine Or.inl ⟨h1, fun m m1 m2 hm => ?_⟩
    by_cases e : m = K + 1
    · rw [e] at hm
      obtain ⟨b, b6, hb, hbc⟩ := hm
      have bn := (hE b c b6 hbc).1
      refine h3 b bn ⟨hb, fun j j1 j2 hj => ?_⟩ hbc
      exact h2 (j + 1) (by omega) (by omega) ⟨b, b6, hj, hbc⟩
    · exact h2 m m1 (by omega) hm
  · exact Or.inr h
/-- one that is not gone out from -/
theorem Rm_no (hn : ¬ fs9 E l (k - 1) i ∨ ¬ E i c) (h : Rm9 E l u c k i) : Rm9 E l u c k (i + 1) := by
  rcases h with ⟨h1, h2, h3⟩ | h
  · refine Or.inl ⟨h1, h2, fun a ha hf he => ?_⟩
    by_cases e : a = i
    · rw [e] at hf he
      exact hn.elim (fun z => z hf) (fun z => z he)
    · exact h3 a (by omega) hf he
  · exact Or.inr h
/-- which are gone out from -/
theorem Rm_at (hk : 2 ≤ k) (h : Rm9 E l u c k i) : (u.1 139 c).toInt = ((k - 1 : Nat) : Int) ↔ fs9 E l (k - 1) c := by
  have k0 : (0 : Int32).toInt = 0 := rfl
  rcases h with ⟨h1, h2, -⟩ | ⟨t, h1, h2, h3⟩
  · rw [h1, k0]
    exact ⟨fun z => by omega, fun z => absurd z.1 (h2 (k - 1) (by omega) (by omega))⟩
  · rw [h2]
    constructor
    · intro z
      have : t = k - 1 := by omega
      rw [← this]; exact h3
    · intro z
      have := fs9_u h1 (by omega) h3 z
      rw [this]
theorem sp_ring42 (w : Int32) (wv : vp_in w 2) (eW : w.toNatClampNeg = v) (en : (y.1 0 24).toInt = (nl : Nat)) (n6 : nl ≤ 6) (hEm : ∀ a, a < 6 → ∀ b, b < 6 → (¬ y.1 128 (36 * v + 6 * a + b) = 0 ↔ E a b)) (hE : ∀ a b, a < 6 → E a b → a < nl ∧ b < nl) (h : ∀ (u : gd) (r : Int32) (s : Nat), mi [] [139] y u → r.toInt = s → rgS E nl s → F r u) : MT G (D + 1) z_ring 42 [(0, vr 0), (1, vi w), (2, vi 0), (3, vi 0)] [] y (ri F) := by
  have k0 : (0 : Int32).toInt = 0 := rfl
  have k1 : (1 : Int32).toInt = 1 := rfl
  have k6 : (6 : Int32).toInt = 6 := rfl
  have k36 : (36 : Int32).toInt = 36 := rfl
  have wb := vp_in_iff.mp wv
  have cw : w.toInt = v := by rw [t_cl] at eW; omega
  have f24 : ∀ u : gd, mi [] [139] y u → (u.1 0 24).toInt = (nl : Nat) := fun u mu => by rw [mu.1 24 (by decide)]; exact en
  have f128 : ∀ u : gd, mi [] [139] y u → u.1 128 = y.1 128 := fun u mu => mu.2 128 (by decide) (by decide)
  have st : ∀ (u u2 : gd) (j : Nat) (v : Int32), mi [] [139] y u → u2 = si u 139 j v → mi [] [139] y u2 := fun u u2 j v mu e2 => by
    have m := md_a u 139 j v (by decide)
    rw [← e2] at m
    exact mi_tr mu (mi_of m) rfl rfl
  have p42 : ∀ (n L s : Nat) (u : gd) (r l : Int32), mi [] [139] y u → l.toInt = L → L ≤ nl → nl - L ≤ n → r.toInt = s → rgS E L s → MT G (D + 1) z_ring 42 [(0, vr 0), (1, vi w), (2, vi r), (3, vi l)] [] u (ri F) := by
    intro n
    have fin : ∀ (L s : Nat) (u : gd) (r l : Int32), mi [] [139] y u → l.toInt = L → L ≤ nl → r.toInt = s → rgS E L s → u.1 0 24 ≤ l → ri F (some (vi r)) u := by
      intro L s u r l mu el hL er hs c
      rw [t_le, f24 u mu] at c
      have e : L = nl := by omega
      rw [e] at hs
      exact ri_i (h u r s mu er hs)
    induction n with
    | zero =>
      intro L s u r l mu el hL hn er hs
      exact sg_ring_42 _ _ _ ⟨fun c => fin L s u r l mu el hL er hs c, fun c => absurd (t_le.mpr (by rw [f24 u mu]; omega)) c⟩
    | succ n ih =>
      intro L s u r l mu el hL hn er hs
      refine sg_ring_42 _ _ _ ⟨fun c => fin L s u r l mu el hL er hs c, fun c => ?_⟩
      rw [t_le, f24 u mu] at c
      have hL2 : L < nl := by omega
      have lv : vp_in l 6 := by rw [vp_in_iff]; omega
      have lK : l.toNatClampNeg = L := by rw [t_cl, el]; rfl
      have li : (l + 1).toInt = ((L + 1 : Nat) : Int) := by rw [t_add (by omega) (by omega), k1, el]; rfl
      have p79 : ∀ (m K : Nat) (u : gd) (k : Int32), mi [] [139] y u → k.toInt = ((K + 1 : Nat) : Int) → K ≤ nl → nl - K ≤ m → (∀ c, c < nl → Rv9 E L u c K) → MT G (D + 1) z_ring 79 [(0, vr 0), (1, vi w), (2, vi r), (3, vi l), (4, vi k)] [] u (ri F) := by
        have last : ∀ (K : Nat) (u : gd) (k : Int32), mi [] [139] y u → k.toInt = ((K + 1 : Nat) : Int) → K ≤ nl → (∀ c, c < nl → Rv9 E L u c K) → u.1 0 24 < k → vp_in l 6 ∧ (((u.1 139 l.toNatClampNeg) ≤ (0 : Int32) → MT G (D + 1) z_ring 42 [(0, vr 0), (1, vi w), (2, vi r), (3, vi (l + 1))] [] u (ri F)) ∧ (¬ ((u.1 139 l.toNatClampNeg) ≤ (0 : Int32)) → ((r = (0 : Int32) → vp_in l 6 ∧ MT G (D + 1) z_ring 42 [(0, vr 0), (1, vi w), (2, vi (u.1 139 l.toNatClampNeg)), (3, vi (l + 1))] [] u (ri F)) ∧ (¬ (r = (0 : Int32)) → vp_in l 6 ∧ ((r ≤ (u.1 139 l.toNatClampNeg) → MT G (D + 1) z_ring 42 [(0, vr 0), (1, vi w), (2, vi r), (3, vi (l + 1))] [] u (ri F)) ∧ (¬ (r ≤ (u.1 139 l.toNatClampNeg)) → vp_in l 6 ∧ MT G (D + 1) z_ring 42 [(0, vr 0), (1, vi w), (2, vi (u.1 139 l.toNatClampNeg)), (3, vi (l + 1))] [] u (ri F))))))) := by
          intro K u k mu ek hK hv q
          rw [t_lt, f24 u mu] at q
          have eK : K = nl := by clear hv; omega
          have nx : ∀ (r : Int32) (s : Nat), r.toInt = s → rgS E (L + 1) s → MT G (D + 1) z_ring 42 [(0, vr 0), (1, vi w), (2, vi r), (3, vi (l + 1))] [] u (ri F) := fun r s er hs => ih (L + 1) s u r (l + 1) mu li (by clear hv; omega) (by clear hv; omega) er hs
          rw [lK]
          have hvL := hv L hL2
          rw [eK] at hvL
          clear hv
          obtain ⟨t, et, ht⟩ : ∃ t : Nat, (u.1 139 L).toInt = t ∧ rgF E L t := by
            rcases hvL with ⟨a1, a2⟩ | ⟨t, a1, a2, a3⟩
            · exact ⟨0, by rw [a1]; rfl, rgF_none hE a2⟩
            · exact ⟨t, a2, Or.inr ⟨a1, by have := fs9_le hE a3; omega, a3⟩⟩
          obtain ⟨n1, n2, n3, n4⟩ := rgS_next hs ht
          refine ⟨lv, fun le => nx r s er (n1 (by rw [t_le, k0] at le; omega)), fun nle => ?_⟩
          rw [t_le, k0] at nle
          have tn : ¬ t = 0 := by omega
          refine ⟨fun r0 => ⟨lv, nx _ t et (n2 tn (by rw [r0, k0] at er; omega))⟩, fun rn => ⟨lv, ?_⟩⟩
          have sn : ¬ s = 0 := fun z => rn (t_eq.mpr (by rw [k0]; omega))
          exact ⟨fun le => nx r s er (n3 tn sn (by rw [t_le] at le; omega)), fun nle => ⟨lv, nx _ t et (n4 tn sn (by rw [t_le] at nle; omega))⟩⟩
        intro m
        induction m with
        | zero =>
          intro K u k mu ek hK hm hv
          exact sg_ring_79 _ _ _ _ ⟨fun q => last K u k mu ek hK hv q, fun q => absurd (t_lt.mpr (by clear hv; rw [f24 u mu]; omega)) q⟩
        | succ m ihm =>
          intro K u k mu ek hK hm hv
          refine sg_ring_79 _ _ _ _ ⟨fun q => last K u k mu ek hK hv q, fun q => ?_⟩
          rw [t_lt, f24 u mu] at q
          have hK2 : K < nl := by clear hv; omega
          have ki : (k + 1).toInt = ((K + 1 + 1 : Nat) : Int) := by clear hv; rw [t_add (by omega) (by omega), k1, ek]; rfl
          have p91 : ∀ (p I : Nat) (u : gd) (i : Int32), mi [] [139] y u → i.toInt = I → I ≤ nl → nl - I ≤ p → (∀ c, c < nl → Rm9 E L u c (K + 1) I) → MT G (D + 1) z_ring 91 [(0, vr 0), (1, vi w), (2, vi r), (3, vi l), (4, vi k), (5, vi i)] [] u (ri F) := by
            intro p
            have fin91 : ∀ (I : Nat) (u : gd) (i : Int32), mi [] [139] y u → i.toInt = I → I ≤ nl → (∀ c, c < nl → Rm9 E L u c (K + 1) I) → u.1 0 24 ≤ i → MT G (D + 1) z_ring 79 [(0, vr 0), (1, vi w), (2, vi r), (3, vi l), (4, vi (k + 1))] [] u (ri F) := by
              intro I u i mu ei hI hr q
              rw [t_le, f24 u mu] at q
              have eI : I = nl := by clear hr; omega
              refine ihm (K + 1) u (k + 1) mu ki (by clear hr; omega) (by clear hr; omega) (fun c hc => Rm_v hE ?_)
              have := hr c hc
              rw [eI] at this; exact this
            induction p with
            | zero =>
              intro I u i mu ei hI hp hr
              exact sg_ring_91 _ _ _ _ _ ⟨fun q => fin91 I u i mu ei hI hr q, fun q => absurd (t_le.mpr (by clear hr; rw [f24 u mu]; omega)) q⟩
            | succ p ihp =>
              intro I u i mu ei hI hp hr
              refine sg_ring_91 _ _ _ _ _ ⟨fun q => fin91 I u i mu ei hI hr q, fun q2 => ?_⟩
              rw [t_le, f24 u mu] at q2
              have hI2 : I < nl := by clear hr; omega
              have iv : vp_in i 6 := by clear hr; rw [vp_in_iff]; omega
              have iK : i.toNatClampNeg = I := by rw [t_cl, ei]; rfl
              have ii : (i + 1).toInt = ((I + 1 : Nat) : Int) := by clear hr; rw [t_add (by omega) (by omega), k1, ei]; rfl
              have p144 : ∀ (x s J : Nat) (u : gd) (f j : Int32), mi [] [139] y u → j.toInt = J → J ≤ nl → nl - J ≤ s → (¬ f = 0 ↔ fs9 E L K I) → (∀ c, c < J → Rm9 E L u c (K + 1) (I + 1)) → (∀ c, J ≤ c → c < nl → Rm9 E L u c (K + 1) I) → MT G (D + 1) z_ring 144 [(0, vr 0), (1, vi w), (2, vi r), (3, vi l), (4, vi k), (5, vi i), (6, vi f), (7, vi j)] [] u (ri F) := by
                intro _ s
                have fin : ∀ (J : Nat) (u : gd) (f j : Int32), mi [] [139] y u → j.toInt = J → J ≤ nl → (∀ c, c < J → Rm9 E L u c (K + 1) (I + 1)) → (∀ c, J ≤ c → c < nl → Rm9 E L u c (K + 1) (I + 1)) → MT G (D + 1) z_ring 91 [(0, vr 0), (1, vi w), (2, vi r), (3, vi l), (4, vi k), (5, vi (i + 1))] [] u (ri F) := by
                  intro J u f j mu ej hJ h1 h2
                  refine ihp (I + 1) u (i + 1) mu ii hI2 (by clear h1 h2; omega) (fun c hc => ?_)
                  by_cases cc : c < J
                  · exact h1 c cc
                  · exact h2 c (by omega) hc
                induction s with
                | zero =>
                  intro J u f j mu ej hJ hs hf h1 h2
                  exact sg_ring_144 _ _ _ _ _ _ _ ⟨fun q => fin J u f j mu ej hJ h1 (fun c c1 c2 => by clear h1 h2 hf; omega), fun q => absurd (t_le.mpr (by clear h1 h2 hf; rw [f24 u mu]; omega)) q⟩
                | succ s ihs =>
                  intro J u f j mu ej hJ hs hf h1 h2
                  refine sg_ring_144 _ _ _ _ _ _ _ ⟨fun q => fin J u f j mu ej hJ h1 (fun c c1 c2 => by rw [t_le, f24 u mu] at q; clear h1 h2 hf; omega), fun q3 => ⟨fun f0 => fin J u f j mu ej hJ h1 (fun c c1 c2 => Rm_no (Or.inl (fun z => hf.mpr (by rw [Nat.add_sub_cancel] at z; exact z) f0)) (h2 c c1 c2)), fun fn => ?_⟩⟩
                  rw [t_le, f24 u mu] at q3
                  have hJ2 : J < nl := by clear h1 h2 hf; omega
                  have jv : vp_in j 6 := by clear h1 h2 hf; rw [vp_in_iff]; omega
                  have jK : j.toNatClampNeg = J := by rw [t_cl, ej]; rfl
                  have ji : (j + 1).toInt = ((J + 1 : Nat) : Int) := by clear h1 h2 hf; rw [t_add (by omega) (by omega), k1, ej]; rfl
                  have a1 : (36 * w).toInt = 36 * w.toInt := by rw [t_mul (by rw [k36]; omega) (by rw [k36]; omega), k36]
                  have a2 : (6 * i).toInt = 6 * i.toInt := by clear h1 h2 hf; rw [t_mul (by rw [k6]; omega) (by rw [k6]; omega), k6]
                  have a3 : (36 * w + 6 * i).toInt = 36 * w.toInt + 6 * i.toInt := by clear h1 h2 hf; rw [t_add (by omega) (by omega), a1, a2]
                  have a4 : (36 * w + 6 * i + j).toInt = 36 * w.toInt + 6 * i.toInt + j.toInt := by clear h1 h2 hf; rw [t_add (by omega) (by omega), a3]
                  have a5 : (36 * w + 6 * i + j).toNatClampNeg = 36 * v + 6 * I + J := by clear h1 h2 hf; rw [t_cl, a4]; omega
                  have hEm9 := hEm I (by omega) J (by omega)
                  have go : ∀ u', mi [] [139] y u' → (∀ c, ¬ c = J → u'.1 139 c = u.1 139 c) → Rm9 E L u' J (K + 1) (I + 1) → MT G (D + 1) z_ring 144 [(0, vr 0), (1, vi w), (2, vi r), (3, vi l), (4, vi k), (5, vi i), (6, vi f), (7, vi (j + 1))] [] u' (ri F) := fun u' mu' e' hJJ => ihs (J + 1) u' f (j + 1) mu' ji hJ2 (by clear h1 h2 hf; omega) hf (fun c hc => by
                    by_cases cc : c = J
                    · rw [cc]; exact hJJ
                    · exact Rm_f (e' c cc) (h1 c (by omega))) (fun c c1 c2 => Rm_f (e' c (by omega)) (h2 c (by omega) c2))
                  have hJ9 := h2 J (Nat.le_refl _) hJ2
                  have hfs := hf.mp fn
                  rw [a5, f128 u mu, jK]
                  refine ⟨by clear h1 h2 hf; rw [vp_in_iff, a4]; omega, fun z0 => go u mu (fun _ _ => rfl) (Rm_no (Or.inr (fun z => hEm9.mpr z z0)) hJ9), fun zn => ⟨jv, fun nz => go u mu (fun _ _ => rfl) ?_, fun ez => ⟨jv, fun u8 e8 => go u8 (st u u8 _ _ mu e8) (fun c hc => by rw [e8, si_get, if_neg (fun q => hc q.2)]) (Or.inr ⟨K + 1, by omega, by rw [e8, si_get, if_pos ⟨rfl, rfl⟩]; exact ek, ⟨I, by omega, hfs.1, hEm9.mp zn⟩, ?_⟩)⟩⟩⟩
                  · rcases hJ9 with ⟨b1, -⟩ | b
                    · exact absurd b1 nz
                    · exact Or.inr b
                  · rcases hJ9 with ⟨-, b2, -⟩ | ⟨t, b1, b2, -⟩
                    · exact b2
                    · rw [ez, k0] at b2; omega
              have go : ∀ f : Int32, (¬ f = 0 ↔ fs9 E L K I) → MT G (D + 1) z_ring 144 [(0, vr 0), (1, vi w), (2, vi r), (3, vi l), (4, vi k), (5, vi i), (6, vi f), (7, vi 0)] [] u (ri F) := fun f hf => p144 0 nl 0 u f 0 mu rfl (Nat.zero_le _) (by omega) hf (fun c hc => absurd hc (Nat.not_lt_zero _)) (fun c _ hc => hr c hc)
              have n1 : ¬ (1 : Int32) = 0 := by decide
              refine ⟨fun nk => ⟨iv, ?_⟩, fun ek1 => ?_⟩
              · have K1 : 1 ≤ K := by
                  clear hr
                  have : ¬ k.toInt = 1 := fun z => nk (t_eq.mpr (by rw [k1]; exact z))
                  omega
                have km : (k - 1).toInt = (K : Nat) := by clear hr; rw [t_sub (by omega) (by omega), k1, ek]; push_cast; omega
                have hat := Rm_at (by omega) (hr I hI2)
                rw [Nat.add_sub_cancel] at hat
                rw [iK]
                refine ⟨fun ne => go 0 ⟨fun z => absurd rfl z, fun z => absurd (t_eq.mpr (by rw [hat.mpr z, km])) ne⟩, fun e => go 1 ⟨fun _ => hat.mp (by rw [e, km]), fun _ => n1⟩⟩
              · have K0 : K = 0 := by clear hr; rw [ek1, k1] at ek; omega
                have e0 : fs9 E L K I ↔ I = L := by
                  rw [K0]
                  exact ⟨fun z => z.1, fun z => ⟨z, fun m m1 m2 => by omega⟩⟩
                refine ⟨fun ne => go 0 ⟨fun z => absurd rfl z, fun z => absurd (t_eq.mpr (by rw [ei, el, e0.mp z])) ne⟩, fun e => go 1 ⟨fun _ => e0.mpr (by rw [t_eq, ei, el] at e; omega), fun _ => n1⟩⟩
          exact p91 nl 0 u 0 mu rfl (Nat.zero_le _) (by omega) (fun c hc => Rv_m (hv c hc))
      have p53 : ∀ (m I : Nat) (u : gd) (k : Int32), mi [] [139] y u → k.toInt = I → I ≤ nl → nl - I ≤ m → (∀ c, c < I → u.1 139 c = 0) → MT G (D + 1) z_ring 53 [(0, vr 0), (1, vi w), (2, vi r), (3, vi l), (4, vi k)] [] u (ri F) := by
        intro m
        have fin : ∀ (I : Nat) (u : gd) (k : Int32), mi [] [139] y u → k.toInt = I → I ≤ nl → (∀ c, c < I → u.1 139 c = 0) → u.1 0 24 ≤ k → MT G (D + 1) z_ring 79 [(0, vr 0), (1, vi w), (2, vi r), (3, vi l), (4, vi 1)] [] u (ri F) := by
          intro I u k mu ek hI h0 q
          rw [t_le, f24 u mu] at q
          exact p79 nl 0 u 1 mu rfl (Nat.zero_le _) (by omega) (fun c hc => Or.inl ⟨h0 c (by clear h0; omega), fun m m1 m2 => by omega⟩)
        induction m with
        | zero =>
          intro I u k mu ek hI hm h0
          exact sg_ring_53 _ _ _ _ ⟨fun q => fin I u k mu ek hI h0 q, fun q => absurd (t_le.mpr (by clear h0; rw [f24 u mu]; omega)) q⟩
        | succ m ihm =>
          intro I u k mu ek hI hm h0
          refine sg_ring_53 _ _ _ _ ⟨fun q => fin I u k mu ek hI h0 q, fun q => ?_⟩
          rw [t_le, f24 u mu] at q
          have ki : (k + 1).toInt = ((I + 1 : Nat) : Int) := by clear h0; rw [t_add (by omega) (by omega), k1, ek]; rfl
          have kK : k.toNatClampNeg = I := by rw [t_cl, ek]; rfl
          rw [kK]
          refine ⟨by clear h0; rw [vp_in_iff]; omega, fun u3 e3 => ihm (I + 1) u3 (k + 1) (st u u3 _ _ mu e3) ki (by clear h0; omega) (by clear h0; omega) (fun c hc => ?_)⟩
          rw [e3, si_get]
          by_cases cc : c = I
          · rw [if_pos ⟨rfl, cc⟩]
          · rw [if_neg (fun z => cc z.2)]; exact h0 c (by omega)
      exact p53 nl 0 u 0 mu rfl (Nat.zero_le _) (by omega) (fun c hc => absurd hc (Nat.not_lt_zero _))
  exact p42 nl 0 0 y 0 0 ⟨fun _ _ => rfl, fun _ _ _ => rfl⟩ rfl (Nat.zero_le _) (by omega) rfl rgS_0
end MRG
/-- which lock was taken behind which -/
def Ec9 (C : gCo) (nl wn : Nat) (T : gTy) (a b : Nat) : Prop := b < 6 ∧ ((loS C wn nl T T.1.length).2.2.2.2.1 a >>> (Int32.ofNat b &&& 31)) &&& 1 = 1
theorem lo_in {C : gCo} {nl w : Nat} {T : gTy} (hLk : LkN C nl) (n6 : nl ≤ 6) : ∀ k a b, a < 6 → b < 6 → ((loS C w nl T k).2.2.2.2.1 a >>> (Int32.ofNat b &&& 31)) &&& 1 = 1 → a < nl ∧ b < nl := by
  intro k
  induction k with
  | zero =>
    intro a b ha hb h
    have h : ((0 : Int32) >>> (Int32.ofNat b &&& 31)) &&& 1 = 1 := h
    rw [km_0 b (by omega)] at h
    exact absurd h (by decide)
  | succ k ih =>
    intro a b ha hb h
    rw [loS] at h
    cases hp : T.1[k]? with
    | none => rw [hp] at h; exact ih a b ha hb h
    | some p =>
      rw [hp] at h
      have h : (cbT C w nl p.1 a C.2.1.length ((loS C w nl T k).2.2.2.2.1 a) >>> (Int32.ofNat b &&& 31)) &&& 1 = 1 := h
      rcases (cb_bit hb (ob_lt hLk n6) _).mp h with z | ⟨t, -, z1, z2, -, z4, z5⟩
      · exact ih a b ha hb z
      · refine ⟨?_, ?_⟩
        · apply Classical.byContradiction
          intro c
          rw [hd_hi ha nl (by omega)] at z4
          exact absurd z4 (by decide)
        · have w0 : (p.1.2.2 t).2.2.2.1 = 0 := by
            by_cases w0 : (p.1.2.2 t).2.2.2.1 = 0
            · exact w0
            · unfold soM at z2; rw [if_neg w0] at z2; omega
          unfold soM at z2
          rw [if_pos w0] at z2
          cases hs : C.1[(p.1.2.2 t).2.2.1]? with
          | none => unfold stN at z2; rw [hs] at z2; exact absurd z2 (by decide)
          | some st =>
            have e := stN_is hs
            rw [e] at z2
            have := hLk _ st hs (by omega) (by omega)
            rw [z5]
            unfold obM
            rw [e]; exact this
abbrev e1Rg (l1 : Int32) : Prop := ¬ (l1 = 0 ∨ l1 = 1)
def rgV (tr : Nat → Prop) (C : gCo) (nl : Nat) (lm : Nat → Nat) (l1 r : Int32) : Prop := ∃ wn : Nat, (wn = 0 ∨ wn = 1) ∧ l1 = Int32.ofNat wn ∧ ((tr wn ∧ ∃ k : Nat, r.toInt = k ∧ rgS (Ec9 C nl wn (twM C lm wn)) 6 k) ∨ (¬ tr wn ∧ r = 0))
def sRg (C : gCo) (lm : Nat → Nat) (x : gd) (l1 r : Int32) (y : gd) : Prop := rgV (fun v => ¬ x.1 (260 + 20 * v) 0 = 0) C (x.1 60 9).toInt.toNat lm l1 r ∧ KRd x y
def tRg (C : gCo) (lm : Nat → Nat) (wr : Nat) (w : gd) (l1 r : Int32) (w' : gd) : Prop := rgV (fun v => ¬ w.1 119 v = 0) C (w.1 0 24).toInt.toNat lm l1 r ∧ rdM C wr w w'
theorem rgV_eq {tr tr' : Nat → Prop} {C : gCo} {nl nl' : Nat} {lm : Nat → Nat} {l1 r r' : Int32} (e : ∀ v, (v = 0 ∨ v = 1) → (tr v ↔ tr' v)) (en : ∀ v, (v = 0 ∨ v = 1) → tr v → nl = nl') (h : rgV tr C nl lm l1 r) (g : rgV tr' C nl' lm l1 r') : r = r' := by
  obtain ⟨wn, a1, a2, a3⟩ := h
  obtain ⟨wn', b1, b2, b3⟩ := g
  have ew := wn_eq b1 a1 b2 a2
  subst ew
  rcases a3 with ⟨c1, k, c2, c3⟩ | ⟨c1, c2⟩
  · rcases b3 with ⟨d1, k', d2, d3⟩ | ⟨d1, -⟩
    · rw [en _ a1 c1] at c3
      rw [t_eq, c2, d2, rgS_u c3 d3]
    · exact absurd ((e _ a1).mp c1) d1
  · rcases b3 with ⟨d1, -⟩ | ⟨-, d2⟩
    · exact absurd ((e _ a1).mpr d1) c1
    · rw [c2, d2]
section KRC
variable {G : kG} {q : kP} {d : Nat} {x y w w' : gd} {P : Option gv → gd → Prop} {X : String → gd → Prop} {C : gCo} {wr n : Nat} {lm : Nat → Nat}
theorem ja_ring {l1 r9 r : Int32} (h : JH C wr n lm x w) (hH : HOI y q) (k : ansK (e1Rg l1) False (sRg C lm x l1) x r9 y) (m : ansM C wr (e1Rg l1) False (tRg C lm wr w l1) w r w') : JR3 y w' ∧ ansE r9 r y w' :=
  ans_eq h hH Iff.rfl Iff.rfl (fun _ z => z) k m (fun c _ r' s t => ⟨JQ_rd h hH s.2 t.2, rgV_eq (JH_tr h) (fun v v01 tr => by rw [((JH_T h v v01).2 tr).1.1.2.2.2.1]) s.1 t.1⟩)
theorem ka_ring (h : JH C wr n lm x w) (hq : kV q) (hH : HOI x q) (l1 : Int32) (hX1 : e1Rg l1 → X iAE x) (hP : ¬ e1Rg l1 → ¬ False → ∀ r y, HOI y q → sRg C lm x l1 r y → P (some (vi r)) y) : KE G q (d + 7) zk_X11_ring 0 [(0, vr 0), (1, vi l1)] [] x P X := by
  refine kg_X11_ring_0 hq l1 (kf_way hq l1 (fun z => hX1 z) (fun hw => ?_))
  obtain ⟨v, w01, ew, ewn⟩ := w_nat hw
  have hP := hP (fun z => z hw) (fun z => z)
  refine kh_was (w := v) hq hH l1 w01 ew (fun c0 => ⟨fun _ => hP _ x hH ⟨⟨v, w01, ew, Or.inr ⟨fun z => z c0, rfl⟩⟩, KR_rf⟩, fun c => absurd rfl c⟩) (fun e7 ho hz hC nz => ⟨fun c => absurd c (by decide), fun _ => ⟨way_in hw, fun u5 e5 => ⟨260 + 20 * v, by rw [e5, ewn, e7], ho, ?_⟩⟩⟩)
  obtain ⟨-, ⟨-, -, -, -, -, s5, -⟩, -⟩ := (JH_T h v w01).2 nz
  refine kt_ring3 (E := Ec9 C (x.1 60 9).toInt.toNat v (twM C lm v)) hq ho (fun a ha b hb => ?_) (fun r k er hr => hP _ x hH ⟨⟨v, w01, ew, Or.inl ⟨nz, k, er, hr⟩⟩, KR_rf⟩)
  rw [s5 a ha]
  exact ⟨fun z => ⟨hb, z⟩, fun z => z.2⟩
end KRC
section MRC9
variable {G : mG} {d D : Nat} {x w : gd} {F : Int32 → gd → Prop} {C : gCo} {wr n : Nat} {lm : Nat → Nat} {q : kP}
theorem ma_ring (h : JH C wr n lm x w) (hH : HOI x q) (hm : MI w) (l1 : Int32) (hD : 3 ≤ D) (hF : ∀ r w', ansM C wr (e1Rg l1) False (tRg C lm wr w l1) w r w' → F r w') : MT G D z_ring 0 [(0, vr 0), (1, vi l1)] [] w (ri F) := by
  obtain ⟨D, rfl⟩ : ∃ D', D = D' + 1 := ⟨D - 1, by omega⟩
  refine sg_ring_0 _ (fun y e => ?_)
  have hy := z0_s e
  have qy := (MI_0 hy.1 hm).1
  have gy : ∀ c, ¬ c = 0 → y.1 c = w.1 c := fun c hc => hy.1.2 c hc (by simp)
  have y24 : y.1 0 24 = w.1 0 24 := hy.1.1 24 (by decide)
  have p20 : ∀ b : Int32, (b = 0 → vp_in l1 2 ∧ (l1 = 0 ∨ l1 = 1)) → (¬ b = 0 → e1Rg l1) → MT G (D + 1) z_ring 20 [(0, vr 0), (1, vi l1)] [vi b, vr 0] y (ri F) := by
    intro b hb hb2
    refine sg_ring_20 _ _ (sc_refk b 1 hy (by decide) (fun b0 => ⟨fun q => absurd rfl q, fun _ => ⟨(hb b0).1, ?_⟩⟩) (fun nb y' m => ⟨fun _ => ri_i (hF _ y' (an_1 hm (hb2 nb) m)), fun q => absurd q (by decide)⟩))
    obtain ⟨wv, hw⟩ := hb b0
    obtain ⟨v, w01, ew, ewn⟩ := w_nat hw
    rw [ewn, gy 119 (by omega)]
    refine ⟨fun tr => ?_, fun t0 => ri_i (hF _ y (an_3 qy (fun z => z hw) (fun z => z) hy.2 ⟨⟨v, w01, ew, Or.inr ⟨fun z => z t0, rfl⟩⟩, rd_0 hy.1 hm⟩))⟩
    obtain ⟨j, -, -, -, -, -, -, -, y7, -⟩ := (JH_T h v w01).2 (fun z => tr ((JH_T h v w01).1.mp z))
    have h9 := j.1.1
    obtain ⟨-, -, hLk, -, en, n6, -⟩ := JC_C (hH.2.1 h9) j
    have e24 : x.1 60 9 = w.1 0 24 := j.1.2.2.2.1
    rw [e24] at hLk en n6
    have hE : ∀ a b, a < 6 → Ec9 C (w.1 0 24).toInt.toNat v (twM C lm v) a b → a < (w.1 0 24).toInt.toNat ∧ b < (w.1 0 24).toInt.toNat := fun a b ha hz => lo_in hLk n6 _ a b ha hz.1 hz.2
    refine sp_ring42 (E := Ec9 C (w.1 0 24).toInt.toNat v (twM C lm v)) l1 wv ewn (by rw [y24]; exact en) n6 (fun a ha b hb => ?_) hE (fun u r s mu er hs => hF _ u (an_3 (rd_mi (C := C) (wr := wr) mu rfl rfl qy).1.1 (fun z => z hw) (fun z => z) (by rw [mu.1 0 (by decide)]; exact hy.2) ⟨⟨v, w01, ew, Or.inl ⟨tr, s, er, rgS_6 n6 hE hs⟩⟩, rd_tr hy.1 (rd_mi mu rfl rfl qy)⟩))
    rw [gy 128 (by omega), y7 a ha b hb]
    exact ⟨fun z => ⟨hb, z⟩, fun z => z.2⟩
  refine sp_in _ _ _ ⟨fun c => p20 0 (fun _ => w_in (bi_ne.mp c)) (fun z => absurd rfl z), fun c => p20 1 (fun q => absurd q (by decide)) (fun _ hg => bi_eq.mp c ?_)⟩
  rcases hg with e9 | e9 <;> rw [e9]
  · exact ⟨by decide, by decide⟩
  · exact ⟨by decide, by decide⟩
end MRC9
end
