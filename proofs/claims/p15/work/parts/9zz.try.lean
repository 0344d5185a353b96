def wDq9 (x : gd) (m : Int) (V : Int32 → gU → Prop) (i : Nat) (w a b d e : Int32) (M : gU) : Prop :=
  (w = 20 ∧ ∃ N, vRs x b none N ∧ M = [(23, a.toNatClampNeg, 0)] ++ (N ++ [(22, a.toNatClampNeg, i)]) ∧ a.toNatClampNeg = i + 1) ∨
  (w = 21 ∧ a.toNatClampNeg = i ∧ ∃ N, vRs x b (some i) N ∧ M = N ++ [(77, i, 0)]) ∨
  (w = 22 ∧ a.toNatClampNeg = i ∧ ∃ n1 n2 N1 N2, vV x false n1 b N1 ∧ vV x false n2 d N2 ∧ M = [(7, i, 0)] ++ ((N1 ++ [(54, 0, 0)]) ++ ((N2 ++ [(54, 0, 0)]) ++ [(78, i, 0)]))) ∨
  (w = 23 ∧ ∃ n1 N1 N2 N3, vV x false n1 a N1 ∧ wB x m V 3 b N2 ∧ b.toInt < e.toInt ∧ ((d = -1 ∧ N3 = []) ∨ (d.toInt < e.toInt ∧ 0 ≤ d.toInt ∧ ∃ j N4, N3 = [(62, j, 0)] ++ N4 ∧ (wB x m V 4 d N4 ∨ (¬ x.1 15 d.toNatClampNeg = 32 ∧ V d N4 ∧ ∃ N5, N4 = N5 ++ [(63, 0, 0)])))) ∧ M = (N1 ++ [(54, 0, 0)]) ++ ([(60, i, 0)] ++ (N2 ++ (N3 ++ [(63, 0, 0)])))) ∨
  (w = 24 ∧ ∃ n1 N1 N2, vV x false n1 a N1 ∧ wB x m V 1 b N2 ∧ b.toInt < e.toInt ∧ M = (N1 ++ [(54, 0, 0)]) ++ ([(61, i, 0)] ++ N2)) ∨
  (w = 25 ∧ ∃ N2, wB x m V 2 b N2 ∧ b.toInt < e.toInt ∧ M = [(65, i, a.toNatClampNeg)] ++ N2) ∨
  (w = 26 ∧ a = x.1 5 i ∧ ((¬ (a = 33 ∨ a = 25) ∧ M = [(66, i, b.toNatClampNeg)]) ∨ ((a = 33 ∨ a = 25) ∧ M = [(67, i, b.toNatClampNeg)]))) ∨
  (w = 27 ∧ (a = x.1 5 i ∧ (a = 20 ∨ a = 31)) ∧ M = [(68, i, 0)]) ∨
  ((w = 28 ∨ w = 30) ∧ ((w = 28 ∧ x.1 5 i = 13) ∨ (w = 30 ∧ x.1 5 i = 14)) ∧ ∃ n1 N1, vV x false n1 a N1 ∧ M = (N1 ++ [(54, 0, 0)]) ++ [(69, i, 0)]) ∨
  (w = 29 ∧ ∃ n1 N1, vV x false n1 b N1 ∧ M = (N1 ++ [(54, 0, 0)]) ++ [(70, i, a.toNatClampNeg)]) ∨
  (w = 31 ∧ x.1 5 i = 19 ∧ M = [(68, i, 0)])
def wStq9 (x : gd) (m : Int) : Nat → Int32 → gU → Prop
  | 0, _, _ => False
  | k + 1, e, M => (0 ≤ e.toInt ∧ e.toInt < (x.1 0 13).toInt) ∧ ¬ x.1 15 e.toNatClampNeg = 32 ∧ wDq9 x m (wStq9 x m k) (x.1 19 e.toNatClampNeg).toNatClampNeg (x.1 15 e.toNatClampNeg) (x.1 16 e.toNatClampNeg) (x.1 17 e.toNatClampNeg) (x.1 18 e.toNatClampNeg) e M
theorem wD_keepq9 {m m' l : Int} (hm : m' ≤ m) {x x' : gd} (h : NX m l x x') {V V' : Int32 → gU → Prop} (hV : ∀ e M, e.toInt ≤ l → V e M → V' e M) (hat : ∀ e M, V e M → 0 ≤ e.toInt ∧ e.toInt < (x.1 0 13).toInt) {i : Nat} {w a b d e : Int32} {M : gU} (he : e.toInt ≤ l) (q4 : wDq9 x m V i w a b d e M) : wDq9 x' m' V' i w a b d e M := sorry
theorem wS_atq9 {x : gd} {m : Int} {k : Nat} {e : Int32} {M : gU} (q : wStq9 x m k e M) : 0 ≤ e.toInt ∧ e.toInt < (x.1 0 13).toInt := sorry
theorem wS_keepq9 {m m' l : Int} (hm : m' ≤ m) {x x' : gd} (h : NX m l x x') : ∀ (k : Nat) (e : Int32) (M : gU), e.toInt ≤ l → wStq9 x m k e M → wStq9 x' m' k e M := sorry
theorem wS_RPq9 {x x' : gd} {m m' : Int} (hm : m' ≤ m) (h : RP x x') {k : Nat} {e : Int32} {M : gU} (q : wStq9 x m k e M) : wStq9 x' m' k e M := sorry
theorem wB_RPq9 {x x' : gd} {m m' : Int} (hm : m' ≤ m) (h : RP x x') {k z : Nat} {e : Int32} {M : gU} (q : wB x m (wStq9 x m k) z e M) : wB x' m' (wStq9 x' m' k) z e M := sorry
theorem wS_lowq9 {x : gd} {m m' : Int} (hm : m' ≤ m) {k : Nat} {e : Int32} {M : gU} (q : wStq9 x m k e M) : wStq9 x m' k e M := sorry
theorem wB_lowq9 {x : gd} {m m' : Int} (hm : m' ≤ m) {k z : Nat} {e : Int32} {M : gU} (q : wB x m (wStq9 x m k) z e M) : wB x m' (wStq9 x m' k) z e M := sorry
/-- readS at nesting 16 - k, readBlock with its statements there -/
def FSq9 (k : Nat) (x : gd) (r : Int32) (x' : gd) : Prop := ∃ M, FXs x x' (pS (x.1 5) k) M ∧ ((x'.1 0 9).toInt = 0 → wStq9 x' (x.1 0 13).toInt (k + 1) r M)
def FBq9 (k : Nat) (x : gd) (r : Int32) (x' : gd) : Prop := ∀ z, ∃ M, FXs x x' (pBk (pS (x.1 5) k) (x.1 5) z) M ∧ ((x'.1 0 9).toInt = 0 → wB x' (x.1 0 13).toInt (wStq9 x' (x.1 0 13).toInt (k + 1)) z r M)
def SfSq9 (k : Nat) : Prop := ∀ (G : mG) (D : Nat) (x : gd) (F : Int32 → gd → Prop), 4 * k + 20 ≤ D → PreK k 0 x → (x.1 0 9).toInt = 0 → LT x → pbs (x.1 5 (x.1 0 8).toNatClampNeg) → (∀ r x', QS k x r x' → FSq9 k x r x' → F r x') → MT G D z_readS 0 [(0, vr 0)] [] x (ri F)

/-- the row of statements that a block has so far, with what they tell -/
def BLfq9 (k : Nat) (x z : gd) (fi la : Int32) (s c : Nat) (R : gR) : Prop := ((R = [] ∧ la = -1) ∨ ∃ (R' : gR) (q : (Int32 × Nat × Nat) × gU), R = R' ++ [q] ∧ la = q.1.1 ∧ (x.1 0 13).toInt ≤ la.toInt ∧ la.toInt < (z.1 0 13).toInt ∧ z.1 20 la.toNatClampNeg = -1 ∧ ∀ p ∈ R', p.1.1.toInt < q.1.1.toInt) ∧ ln z fi (R.map Prod.fst) ∧ (∀ q ∈ R, vS z (x.1 0 13).toInt (k + 1) q.1.2.1 q.1.2.2 q.1.1 ∧ (x.1 0 13).toInt ≤ q.1.1.toInt ∧ wStq9 z (x.1 0 13).toInt (k + 1) q.1.1 q.2) ∧ sm (fun q => q.2.1) (R.map Prod.fst) ≤ s ∧ sm (fun q => q.2.2) (R.map Prod.fst) ≤ c
theorem sf_readBlockq9 (k : Nat) (ihS : SfSq9 k) {G : mG} {D : Nat} {x : gd} {F : Int32 → gd → Prop} (hD : 4 * k + 21 ≤ D) (hpre : PreK k (-700) x) (hlt : (x.1 0 9).toInt = 0 → LT x) (hF : ∀ r x', QB k x r x' → FBq9 k x r x' → F r x') : MT G D z_readBlock 0 [(0, vr 0)] [] x (ri F) := sorry
section QB
variable {K : Nat → Int32} {f c i : Nat} {L : gU}
end QB
def FOsq9 (k : Nat) (x : gd) (r : Int32) (x' : gd) : Prop := ∃ M, FXs x x' (pS (x.1 5) (k + 1)) M ∧ ((x'.1 0 9).toInt = 0 → wStq9 x' (x.1 0 13).toInt (k + 2) r M)
theorem endFq9 {k : Nat} {x z w : gd} {q a b c t : Int32} {M : gU} (rz : RP x z) (n0 : 0 ≤ (x.1 0 13).toInt) (low : -1000 ≤ cr z) (hw : nE z w q a b c t) (hq : ¬ q = 32) (hd : wDq9 z (x.1 0 13).toInt (wStq9 z (x.1 0 13).toInt (k + 1)) t.toNatClampNeg q a b c (z.1 0 13) M) : wStq9 w (x.1 0 13).toInt (k + 2) (z.1 0 13) M := sorry
theorem sf_readIfq9 (k : Nat) (ihS : SfSq9 k) {G : mG} {D : Nat} {x : gd} {F : Int32 → gd → Prop} (hD : 4 * k + 22 ≤ D) (hpre : PreK k 0 x) (hb : (x.1 0 9).toInt = 0) (hlt : LT x) (hK : x.1 5 (x.1 0 8).toNatClampNeg = 24) (hF : ∀ r x', QO k x r x' → FOsq9 k x r x' → F r x') : MT G D z_readIf 0 [(0, vr 0)] [] x (ri F) := sorry
theorem sf_readOneSq9 (k : Nat) (ihS : SfSq9 k) {G : mG} {D : Nat} {x : gd} {F : Int32 → gd → Prop} (hD : 4 * k + 23 ≤ D) (hpre : PreK k 0 x) (hb : (x.1 0 9).toInt = 0) (hlt : LT x) (hbs : pbs (x.1 5 (x.1 0 8).toNatClampNeg)) (hF : ∀ r x', QO k x r x' → FOsq9 k x r x' → F r x') : MT G D z_readOneS 0 [(0, vr 0)] [] x (ri F) := sorry
theorem sf_readSq9 : ∀ k : Nat, SfSq9 k := sorry
/-- a thread was told -/
def DTq9 (x x' : gd) (M : gU) : Prop := ∃ (l2 r9 id : Int32) (N : gU), md [8, 9, 10, 13, 20, 21, 25, 28] [15, 16, 17, 18, 19, 20, 30, 31, 32, 33, 34, 35, 38, 39] x x' ∧ tAd x x' l2 2 (x.1 0 25) 1 0 (-1) ∧ vp_in l2 710 ∧ (x'.1 0 25).toInt = (x.1 0 25).toInt + 1 ∧ (id = 0 ∨ id = 1) ∧ (∀ j : Nat, x'.1 38 j = if j = (x.1 0 25).toNatClampNeg then vp_nar .boolean id else x.1 38 j) ∧ (∀ j : Nat, x'.1 39 j = if j = (x.1 0 25).toNatClampNeg then r9 else x.1 39 j) ∧ wB x' 0 (wStq9 x' 0 17) 0 r9 N ∧ M = [(34, l2.toNatClampNeg, id.toNatClampNeg)] ++ N
/-- what a definition reads, and what it leaves by that -/
def FDq9 (x x' : gd) : Prop := ∃ M, (∀ L, (nwo x).bind (fun i => pD (x.1 5) (x.1 7) (cn x) i L) = (nwo x').map (fun j => (cn x', j, L ++ M))) ∧ ((x'.1 0 9).toInt = 0 → NN x x' ∧ (DC x x' M ∨ DLk x x' M ∨ DTq9 x x' M ∨ DA x x' M ∨ DF x x' M))
theorem FD_xq9 {x x' : gd} {g : gU → Nat → gD} (h : eqD x x' g) (hb : ¬ (x'.1 0 9).toInt = 0) (h9 : 0 ≤ (x'.1 0 9).toInt) : FDq9 x x' := sorry
theorem sf_readCellq9 {G : mG} {D : Nat} {x : gd} {Fv : gd → Prop} (pn : PN x) (pg : PG x) (hb : (x.1 0 9).toInt = 0) (hK : x.1 5 (x.1 0 8).toNatClampNeg = 34 ∨ x.1 5 (x.1 0 8).toNatClampNeg = 17) (h : ∀ x', QD x x' → FDq9 x x' → Fv x') : MT G (D + 4) z_readCell 0 [(0, vr 0)] [] x (rv Fv) := sorry
section PDF
variable {K V : Nat → Int32} {n : gN} {i : Nat} {L : gU}
end PDF
theorem sf_readDefq9 {G : mG} {D : Nat} {x : gd} {Fv : gd → Prop} (hD : 86 ≤ D) (pn : PN x) (pg : PG x) (hb : (x.1 0 9).toInt = 0) (h : ∀ x', QD x x' → FDq9 x x' → Fv x') : MT G D z_readDef 0 [(0, vr 0)] [] x (rv Fv) := sorry
def PV4q9 (z : gd) (Ds : List gU) : Prop :=
  ((Ds.filterMap (te (z.1 5) (z.1 7))).length = (z.1 0 28).toNatClampNeg ∧ ∀ j q, (Ds.filterMap (te (z.1 5) (z.1 7)))[j]? = some q → tdE z j q) ∧
  ((Ds.filterMap (bN 34)).length = (z.1 0 25).toNatClampNeg ∧ ∀ t N, (Ds.filterMap (bN 34))[t]? = some N → wB z 0 (wStq9 z 0 17) 0 (z.1 39 t) N) ∧
  ((Ds.filterMap (bN 35)).length = (z.1 0 26).toNatClampNeg ∧ ∀ t N, (Ds.filterMap (bN 35))[t]? = some N → ∃ n N', vV z true n (z.1 40 t) N' ∧ N = N' ++ [(54, 0, 0)]) ∧
  ((Ds.filterMap (bN 36)).length = (z.1 0 27).toNatClampNeg ∧ ∀ t N, (Ds.filterMap (bN 36))[t]? = some N → ∃ n N', vV z true n (z.1 41 t) N' ∧ N = N' ++ [(54, 0, 0)])
def PVq9 (z : gd) (Ds : List gU) : Prop := PV4q9 z Ds ∧ ∀ M ∈ Ds, shq M
theorem wS_loq9 {x : gd} {m : Int} : ∀ (k : Nat) (e : Int32) (M : gU), wStq9 x m k e M → lo80 M := sorry
section PVS
variable {z y : gd} {Ds : List gU} {M : gU}
theorem NN_wBq9 (h : NN z y) (h5 : y.1 5 = z.1 5) (h7 : y.1 7 = z.1 7) {v : Nat} {e : Int32} {N : gU} (g : wB z 0 (wStq9 z 0 17) v e N) : wB y 0 (wStq9 y 0 17) v e N := sorry
theorem PV_thq9 (h : (Ds.filterMap (bN 34)).length = (z.1 0 25).toNatClampNeg ∧ ∀ t N, (Ds.filterMap (bN 34))[t]? = some N → wB z 0 (wStq9 z 0 17) 0 (z.1 39 t) N) (nn : NN z y) (h5 : y.1 5 = z.1 5) (h7 : y.1 7 = z.1 7) (h25 : y.1 0 25 = z.1 0 25) (h39 : y.1 39 = z.1 39) (hq : bN 34 M = none) : ((Ds ++ [M]).filterMap (bN 34)).length = (y.1 0 25).toNatClampNeg ∧ ∀ t N, ((Ds ++ [M]).filterMap (bN 34))[t]? = some N → wB y 0 (wStq9 y 0 17) 0 (y.1 39 t) N := sorry
theorem PV4_stepq9 (h : PV4q9 z Ds) (g : GB z) (nn : NN z y) (h5 : y.1 5 = z.1 5) (h7 : y.1 7 = z.1 7) (d : DC z y M ∨ DLk z y M ∨ DTq9 z y M ∨ DA z y M ∨ DF z y M) : PV4q9 y (Ds ++ [M]) := sorry
theorem shq_ofq9 (d : DC z y M ∨ DLk z y M ∨ DTq9 z y M ∨ DA z y M ∨ DF z y M) : shq M := sorry
theorem PV_stepq9 (h : PVq9 z Ds) (g : GB z) (nn : NN z y) (h5 : y.1 5 = z.1 5) (h7 : y.1 7 = z.1 7) (d : DC z y M ∨ DLk z y M ∨ DTq9 z y M ∨ DA z y M ∨ DF z y M) : PVq9 y (Ds ++ [M]) := sorry
theorem PN5_stepq9 (h : PN5 z Ds) (hp : PV4q9 z Ds) (g : GB z) (nn : NN z y) (h5 : y.1 5 = z.1 5) (h7 : y.1 7 = z.1 7) (d : DC z y M ∨ DLk z y M ∨ DTq9 z y M ∨ DA z y M ∨ DF z y M) : PN5 y (Ds ++ [M]) := sorry
end PVS
/-- what reading all definitions does -/
def FAq9 (x z : gd) : Prop := ∃ Ds : List gU, pAl (x.1 5) (x.1 7) 701 (0, 0, 0, 0, 0) 0 [] = (nwo z).map (fun j => (cn z, j, Ds.flatten)) ∧ ((z.1 0 9).toInt = 0 → PVq9 z Ds ∧ PN5 z Ds)
theorem sf_defsq9 {G : mG} {D : Nat} {x : gd} {P : Option gv → gd → Prop} (hD : 87 ≤ D) (pn : PN x) (pg : PG x) (hb : (x.1 0 9).toInt = 0) (h8 : x.1 0 8 = 0) (hc : cn x = (0, 0, 0, 0, 0)) (h28 : x.1 0 28 = 0) (next : ∀ z, mQ x z → PN z → ((z.1 0 9).toInt = 0 → PG z) → FAq9 x z → MT G D z_compile 69 [(0, vr 0)] [] z P) : MT G D z_compile 48 [(0, vr 0)] [] x P := sorry
def lnBq9 (b : Nat → Int32) : Nat → Int32
  | 0 => 1
  | p + 1 => if b p = 10 then lnBq9 b p + 1 else lnBq9 b p
theorem lnB_sq9 {b : Nat → Int32} {p : Nat} (h : ¬ b p = 10) : lnBq9 b (p + 1) = lnBq9 b p := sorry
theorem lnB_tq9 {b : Nat → Int32} {p : Nat} (h : b p = 10) : lnBq9 b (p + 1) = lnBq9 b p + 1 := sorry
theorem lnB_noq9 {b : Nat → Int32} {p : Nat} : ∀ {m : Nat}, (∀ i, i < m → ¬ b (p + i) = 10) → lnBq9 b (p + m) = lnBq9 b p := sorry
theorem lnB_cq9 {b c : Nat → Int32} : ∀ {p : Nat}, (∀ i, i < p → (b i = 10 ↔ c i = 10)) → lnBq9 b p = lnBq9 c p := sorry
/-- the line of a token of the model -/
def LNmq9 (x : gd) (t : Nat) : Int32 := lnBq9 (x.1 2) (x.1 6 t).toNatClampNeg
/-- the line of a statement -/
def lnSq9 (x : gd) (s : Int32) : Int32 := LNmq9 x (x.1 19 s.toNatClampNeg).toNatClampNeg
theorem LNm_eq9 {x y : gd} (e2 : y.1 2 = x.1 2) (e6 : y.1 6 = x.1 6) (t : Nat) : LNmq9 y t = LNmq9 x t := sorry
theorem LNm_mdq9 {L A : List Nat} {x y : gd} (m : md L A x y) (h2 : 2 ∉ A) (h6 : 6 ∉ A) (t : Nat) : LNmq9 y t = LNmq9 x t := sorry
theorem lnS_mdq9 {L A : List Nat} {x y : gd} (m : md L A x y) (h2 : 2 ∉ A) (h6 : 6 ∉ A) (h19 : 19 ∉ A) (s : Int32) : lnSq9 y s = LNmq9 x (x.1 19 s.toNatClampNeg).toNatClampNeg := sorry
/-- mask and line of a step -/
def HMkq9 (z : gd) (n : Nat) (ks : gK) (L : Int32) : Prop := z.1 62 n = kms ks ∧ z.1 63 n = L
theorem HMk_siq9 {z z2 : gd} {n c m : Nat} {v : Int32} {ks : gK} {L : Int32} (e : z2 = si z c m v) (h2 : 62 ≠ c) (h3 : 63 ≠ c) (h : HMkq9 z n ks L) : HMkq9 z2 n ks L := sorry
section LNO
variable {G : mG} {d : Nat} {x : gd} {F : Int32 → gd → Prop}
theorem sf_lineOfq9 (p : Int32) (hp : p.toInt ≤ 3000) (h : F (lnBq9 (x.1 2) p.toNatClampNeg) x) : MT G d z_lineOf 0 [(0, vr 0), (1, vi p)] [] x (ri F) := sorry
end LNO

theorem sf_layStepq9 {G : mG} {d : Nat} {x : gd} {F : Int32 → gd → Prop} {E : gV} (w s : Int32) (hn : vp_in (x.1 0 52) 1500) (ke : KEn x E) (hs : s = -1 ∨ (vp_in s 3000 ∧ vp_in (x.1 19 s.toNatClampNeg) 710)) (tk : TK x) (h : ∀ x' L, sD x x' w → (¬ s = -1 → L = lnSq9 x s) → HMkq9 x' (x.1 0 52).toNatClampNeg E.1 L → F (x.1 0 52) x') : MT G (d + 1) z_layStep 0 [(0, vr 0), (1, vi w), (2, vi s)] [] x (ri F) := sorry
theorem sf_layActq9 {G : mG} {d : Nat} {x : gd} {F : Int32 → gd → Prop} {E : gV} (a b s : Int32) (hn : vp_in (x.1 0 52) 1500) (ke : KEn x E) (hs : s = -1 ∨ (vp_in s 3000 ∧ vp_in (x.1 19 s.toNatClampNeg) 710)) (tk : TK x) (h : ∀ x' L, aD x x' a b → (¬ s = -1 → L = lnSq9 x s) → HMkq9 x' (x.1 0 52).toNatClampNeg E.1 L → F (x.1 0 52) x') : MT G (d + 2) z_layAct 0 [(0, vr 0), (1, vi a), (2, vi b), (3, vi s)] [] x (ri F) := sorry
section MSR
variable (sN : Nat → Nat → Bool) (T : gTd) (V K : Nat → Int32)
def mSq9 (x : gd) (j : Nat) (st : gSt) : Prop := x.1 54 j = mWh st.1 ∧ (st.1 < 16 → x.1 55 j = Int32.ofNat st.1) ∧ x.1 56 j = mOf sN T V st ∧ x.1 57 j = mSz sN T st ∧ mSu sN T V K x st.2.2.1.1 (x.1 58 j) st.2.2.2.2.2.2.1 ∧ mSu sN T V K x st.2.2.1.1 (x.1 59 j) st.2.2.2.2.2.2.2.1 ∧ mSu sN T V K x st.2.2.1.1 (x.1 60 j) st.2.2.2.2.2.2.2.2 ∧ x.1 61 j = mTo st ∧ x.1 62 j = kms st.2.2.1.1 ∧ (st.1 < 16 → x.1 63 j = LNmq9 x st.2.1)
def SRq9 (x : gd) (S : List gSt) : Prop := (x.1 0 52).toInt = S.length ∧ ∀ j st, S[j]? = some st → mSq9 sN T V K x j st
end MSR
section MSL
variable {sN : Nat → Nat → Bool} {T : gTd} {V K : Nat → Int32} {x y z : gd} {S : List gSt} {j n w : Nat} {st : gSt} {E : gV} {M N : gU}
theorem mS_keepq9 (a : LF x y n w) (hj : (j : Int) < (x.1 0 52).toInt) (h : mSq9 sN T V K x j st) : mSq9 sN T V K y j st := sorry
theorem SR_keepq9 (a : LF x y 0 w) (h : SRq9 sN T V K x S) : SRq9 sN T V K y S := sorry
theorem SR_snocq9 {wh so of sz at' e f to Ln : Int32} (h : SRq9 sN T V K x S) (a : LF x y 0 w) (hp : stp y z wh so of sz at' e f to) (hn : (x.1 0 52).toInt ≤ 1499) (hm : HMkq9 z (y.1 0 52).toNatClampNeg st.2.2.1.1 Ln) (hL : st.1 < 16 → Ln = LNmq9 x st.2.1) (h1 : wh = mWh st.1) (h2 : st.1 < 16 → so = Int32.ofNat st.1) (h3 : of = mOf sN T V st) (h4 : sz = mSz sN T st) (h5 : mSu sN T V K y st.2.2.1.1 at' st.2.2.2.2.2.2.1) (h6 : mSu sN T V K y st.2.2.1.1 e st.2.2.2.2.2.2.2.1) (h7 : mSu sN T V K y st.2.2.1.1 f st.2.2.2.2.2.2.2.2) (h8 : to = mTo st) : SRq9 sN T V K z (S ++ [st]) := sorry
/-- a step's target is set -/
theorem SR_toq9 {v : Int32} {i : Nat} (h : SRq9 sN T V K y S) (hz : z = si y 61 i v) (hi : i < S.length) (hs : ∀ st, S[i]? = some st → st.1 = 17 ∨ st.1 = 20) (hv : v.toInt = n) : SRq9 sN T V K z (cTo S i n) := sorry
theorem SR_mdq9 {L A : List Nat} (h : md L A y z) (hL : [49, 52].all (fun k => !L.elem k) = true) (hA : [2, 6, 51, 52, 54, 55, 56, 57, 58, 59, 60, 61, 62, 63].all (fun k => !A.elem k) = true) (q : SRq9 sN T V K y S) : SRq9 sN T V K z S := sorry
/-- laying statements: what becomes of the steps -/
def CQq9 (sN : Nat → Nat → Bool) (T : gTd) (V K : Nat → Int32) (x x' : gd) (E : gV) (M : gU) : Prop := ¬ flt sN T V M E → ¬ E.2.1 = [] → ∀ S k w, SRq9 sN T V K x S → ∃ S', cds sN K M (E, S, k, rg0, w) = (exs M E, S', k, rg0, w) ∧ SRq9 sN T V K x' S' ∧ xtS S S'
/-- a block, but for what its end adds -/
def CBq9 (sN : Nat → Nat → Bool) (T : gTd) (V K : Nat → Int32) (x x' : gd) (E : gV) (z : Nat) (M : gU) : Prop := ¬ flt sN T V M E → ∀ S k w, SRq9 sN T V K x S → ∃ S', cds sN K M (E, S, k, rg0, w) = cCl (exs M E, S', k, rg0, w) z ∧ SRq9 sN T V K x' S' ∧ xtS S S'
/-- a right side; slot: where it goes -/
def RQq9 (sN : Nat → Nat → Bool) (T : gTd) (V K : Nat → Int32) (x x' : gd) (E : gV) (M : gU) (slot : Int32) (tk0 : Nat) : Prop := ¬ flt sN T V M E → ¬ E.2.1 = [] → ∀ S k w tg tk p, tk = tk0 → toL sN E.1 tg = some p → slot.toInt = slP (knw E) p → SRq9 sN T V K x S → ∃ S', cds sN K M (E, S, k, ([], [], 0, false, tg, tk), w) = (E, S', k, rg0, w) ∧ SRq9 sN T V K x' S' ∧ xtS S S'
theorem RQ_mkq9 {wh so of sz at' e f slot Ln : Int32} {tk0 op : Nat} {ob : Option Nat} {ro : Bool} {ix es fs : Option gU} (a : LF x y 0 w) (hp : stp y z wh so of sz at' e f slot) (hn : (x.1 0 52).toInt ≤ 1499) (hm : HMkq9 z (y.1 0 52).toNatClampNeg E.1 Ln) (hL : op < 16 → Ln = LNmq9 x tk0) (h1 : wh = mWh op) (h2 : op < 16 → so = Int32.ofNat op) (h17 : ¬ (op = 17 ∨ op = 20)) (hc : ¬ flt sN T V M E → ¬ E.2.1 = [] → (∀ S k w tg tk p, toL sN E.1 tg = some p → cds sN K M (E, S, k, ([], [], 0, false, tg, tk), w) = (E, S ++ [(op, tk, knw E, some p, ob, ro, ix, es, fs)], k, rg0, w)) ∧ of = mOf sN T V (op, 0, knw E, none, ob, ro, ix, es, fs) ∧ sz = mSz sN T (op, 0, knw E, none, ob, ro, ix, es, fs) ∧ mSu sN T V K y E.1 at' ix ∧ mSu sN T V K y E.1 e es ∧ mSu sN T V K y E.1 f fs) : RQq9 sN T V K x z E M slot tk0 := sorry
theorem CQ_mkq9 {wh so of sz at' e f to Ln : Int32} (a : LF x y 0 w) (hp : stp y z wh so of sz at' e f to) (hn : (x.1 0 52).toInt ≤ 1499) (hm : HMkq9 z (y.1 0 52).toNatClampNeg st.2.2.1.1 Ln) (hL : st.1 < 16 → Ln = LNmq9 x st.2.1) (hM : exs M E = E) (hc : ¬ flt sN T V M E → ¬ E.2.1 = [] → (∀ S k w, cds sN K M (E, S, k, rg0, w) = (E, S ++ [st], k, rg0, w)) ∧ wh = mWh st.1 ∧ (st.1 < 16 → so = Int32.ofNat st.1) ∧ of = mOf sN T V st ∧ sz = mSz sN T st ∧ mSu sN T V K y st.2.2.1.1 at' st.2.2.2.2.2.2.1 ∧ mSu sN T V K y st.2.2.1.1 e st.2.2.2.2.2.2.2.1 ∧ mSu sN T V K y st.2.2.1.1 f st.2.2.2.2.2.2.2.2 ∧ to = mTo st) : CQq9 sN T V K x z E M := sorry
theorem CQ_trq9 (a : CQq9 sN T V K x y E M) (b : CQq9 sN T V K y z (exs M E) N) (h : (exs M E).2.1 = E.2.1) : CQq9 sN T V K x z E (M ++ N) := sorry
end MSL

section LRF
variable {sN : Nat → Nat → Bool} {T : gTd} {V K : Nat → Int32} {E : gV}
theorem s_noq9 {s : Int32} (h : vp_in s 3000) : ¬ s = -1 := sorry
theorem lnS_LFq9 {x y : gd} {n w : Nat} {s : Int32} (f : LF x y n w) : lnSq9 y s = LNmq9 x (x.1 19 s.toNatClampNeg).toNatClampNeg := sorry
theorem sf_layRq9 {G : mG} {D a : Nat} {x : gd} {Fv : gd → Prop} {M0 : gU} (r slot s : Int32) (hD : a + 4 ≤ D) (p : PL x) (v : vR x a r) (vs : vRs x r none M0) (ke : KEn x E) (ct : CT sN T V K x) (s0 : 0 ≤ slot.toInt) (s8 : slot.toInt < 8) (hs : vp_in s 3000) (hs2 : vp_in (x.1 19 s.toNatClampNeg) 710) (hw : (x.1 0 49).toInt + a ≤ 5980) (hn : (x.1 0 52).toInt ≤ 1499) (h : ∀ x', LQ x x' 1 (a + 3) → md pL pA x x' → LX x x' (flt sN T V M0 E) → RQq9 sN T V K x x' E M0 slot (x.1 19 s.toNatClampNeg).toNatClampNeg → Fv x') : MT G D z_layR 0 [(0, vr 0), (1, vi r), (2, vi slot), (3, vi s)] [] x (rv Fv) := sorry
end LRF

section LWF0
end LWF0
section LWF
variable {sN : Nat → Nat → Bool} {T : gTd} {V K : Nat → Int32} {G : mG} {D : Nat} {x : gd} {Fv : gd → Prop}
theorem sf_layWordq9 {wn : Nat} {E : gV} (s : Int32) (ke : KEn x E) (ct : CT sN T V K x) (hwn : ((x.1 16 s.toNatClampNeg = 33 ∨ x.1 16 s.toNatClampNeg = 25) → wn = 2) ∧ (¬ (x.1 16 s.toNatClampNeg = 33 ∨ x.1 16 s.toNatClampNeg = 25) → wn = 1)) (hD : 4 ≤ D) (p : PL x) (hs : vp_in s 3000) (hs2 : vp_in (x.1 19 s.toNatClampNeg) 710) (hb : vp_in (x.1 17 s.toNatClampNeg) 710) (hn : (x.1 0 52).toInt ≤ 1499) (h : ∀ x', LQ x x' 1 0 → md pL pA x x' → LX x x' (mtP sN T wn (x.1 17 s.toNatClampNeg).toNatClampNeg = none) → (¬ mtP sN T wn (x.1 17 s.toNatClampNeg).toNatClampNeg = none → ∀ S i, i = (x.1 19 s.toNatClampNeg).toNatClampNeg → K i = x.1 16 s.toNatClampNeg → SRq9 sN T V K x S → SRq9 sN T V K x' (S ++ [(opW (K i), i, knw E, none, some (x.1 17 s.toNatClampNeg).toNatClampNeg, decide (K i = 40), none, none, none)])) → Fv x') : MT G D z_layWord 0 [(0, vr 0), (1, vi s)] [] x (rv Fv) := sorry
theorem sf_laySetq9 {a : Nat} {E : gV} {N : gU} (s : Int32) (hst : (x.1 16 s.toNatClampNeg).toNatClampNeg = (x.1 19 s.toNatClampNeg).toNatClampNeg) (ct : CT sN T V K x) (ke : KEn x E) (vs : vRs x (x.1 17 s.toNatClampNeg) (some (x.1 16 s.toNatClampNeg).toNatClampNeg) N) (hD : a + 5 ≤ D) (p : PL x) (hs : vp_in s 3000) (hs2 : vp_in (x.1 19 s.toNatClampNeg) 710) (ha : vp_in (x.1 16 s.toNatClampNeg) 710) (v : vR x a (x.1 17 s.toNatClampNeg)) (hw : (x.1 0 49).toInt + a ≤ 5980) (hn : (x.1 0 52).toInt ≤ 1499) (h : ∀ x', LQ x x' 1 (a + 3) → md pL pA x x' → LX x x' (flt sN T V N E) → CQq9 sN T V K x x' E N → Fv x') : MT G D z_laySet 0 [(0, vr 0), (1, vi s)] [] x (rv Fv) := sorry
end LWF

section WDS
variable {x : gd} {m : Int} {V : Int32 → gU → Prop} {i : Nat} {w a b d e : Int32} {M : gU}
theorem wD_20q9 (h : w = 20) (q : wDq9 x m V i w a b d e M) : ∃ N, vRs x b none N ∧ M = [(23, a.toNatClampNeg, 0)] ++ (N ++ [(22, a.toNatClampNeg, i)]) ∧ a.toNatClampNeg = i + 1 := sorry
theorem wD_21q9 (h : w = 21) (q : wDq9 x m V i w a b d e M) : a.toNatClampNeg = i ∧ ∃ N, vRs x b (some i) N ∧ M = N ++ [(77, i, 0)] := sorry
theorem wD_22q9 (h : w = 22) (q : wDq9 x m V i w a b d e M) : a.toNatClampNeg = i ∧ ∃ n1 n2 N1 N2, vV x false n1 b N1 ∧ vV x false n2 d N2 ∧ M = [(7, i, 0)] ++ ((N1 ++ [(54, 0, 0)]) ++ ((N2 ++ [(54, 0, 0)]) ++ [(78, i, 0)])) := sorry
theorem wD_23q9 (h : w = 23) (q : wDq9 x m V i w a b d e M) : ∃ n1 N1 N2 N3, vV x false n1 a N1 ∧ wB x m V 3 b N2 ∧ b.toInt < e.toInt ∧ ((d = -1 ∧ N3 = []) ∨ (d.toInt < e.toInt ∧ 0 ≤ d.toInt ∧ ∃ j N4, N3 = [(62, j, 0)] ++ N4 ∧ (wB x m V 4 d N4 ∨ (¬ x.1 15 d.toNatClampNeg = 32 ∧ V d N4 ∧ ∃ N5, N4 = N5 ++ [(63, 0, 0)])))) ∧ M = (N1 ++ [(54, 0, 0)]) ++ ([(60, i, 0)] ++ (N2 ++ (N3 ++ [(63, 0, 0)]))) := sorry
theorem wD_24q9 (h : w = 24) (q : wDq9 x m V i w a b d e M) : ∃ n1 N1 N2, vV x false n1 a N1 ∧ wB x m V 1 b N2 ∧ b.toInt < e.toInt ∧ M = (N1 ++ [(54, 0, 0)]) ++ ([(61, i, 0)] ++ N2) := sorry
theorem wD_25q9 (h : w = 25) (q : wDq9 x m V i w a b d e M) : ∃ N2, wB x m V 2 b N2 ∧ b.toInt < e.toInt ∧ M = [(65, i, a.toNatClampNeg)] ++ N2 := sorry
theorem wD_26q9 (h : w = 26) (q : wDq9 x m V i w a b d e M) : a = x.1 5 i ∧ ((¬ (a = 33 ∨ a = 25) ∧ M = [(66, i, b.toNatClampNeg)]) ∨ ((a = 33 ∨ a = 25) ∧ M = [(67, i, b.toNatClampNeg)])) := sorry
theorem wD_27q9 (h : w = 27) (q : wDq9 x m V i w a b d e M) : (a = x.1 5 i ∧ (a = 20 ∨ a = 31)) ∧ M = [(68, i, 0)] := sorry
theorem wD_28q9 (h : w = 28 ∨ w = 30) (q : wDq9 x m V i w a b d e M) : ∃ n1 N1, vV x false n1 a N1 ∧ M = (N1 ++ [(54, 0, 0)]) ++ [(69, i, 0)] := sorry
theorem wD_29q9 (h : w = 29) (q : wDq9 x m V i w a b d e M) : ∃ n1 N1, vV x false n1 b N1 ∧ M = (N1 ++ [(54, 0, 0)]) ++ [(70, i, a.toNatClampNeg)] := sorry
theorem wD_31q9 (h : ∀ k ∈ [(20 : Int32), 21, 22, 23, 24, 25, 26, 27, 28, 29, 30], ¬ w = k) (q : wDq9 x m V i w a b d e M) : M = [(68, i, 0)] := sorry
/-- only an if's uses end so -/
theorem wD_63q9 {N : gU} (q : wDq9 x m V i w a b d e (N ++ [(63, 0, 0)])) : w = 23 := sorry
end WDS
theorem wS_envq9 {x : gd} {m : Int} : ∀ (k : Nat) (e : Int32) (M : gU), wStq9 x m k e M → (∀ E, sufE E (exs M E)) ∧ (¬ x.1 15 e.toNatClampNeg = 20 → nl M) := sorry
section XQS
variable {sN : Nat → Nat → Bool} {T : gTd} {V K : Nat → Int32} {x y z : gd} {E : gV} {M N : gU} {b : Int32} {s s' : Nat}
end XQS
def SfLSq9 (sN : Nat → Nat → Bool) (T : gTd) (V K : Nat → Int32) (k : Nat) : Prop := ∀ (G : mG) (D : Nat) (x : gd) (Fv : gd → Prop) (m : Int) (s c : Nat) (e blk : Int32) (M : gU) (E : gV), 2 * k + 710 ≤ D → s ≤ 700 → vS x m k s c e → wStq9 x m k e M → PL x → KS x → XP sN T V K x E → (x.1 15 e.toNatClampNeg = 20 → ∀ p : Nat, p < E.1.length → (x.1 47 p = blk ↔ E.2.1.headD 0 ≤ p)) → blk.toInt ≤ (x.1 0 47).toInt → (x.1 0 47).toInt + s ≤ 5000 → (x.1 0 48).toInt + c ≤ 8 → (x.1 0 49).toInt + 2 * s ≤ 5980 → (x.1 0 52).toInt + s ≤ 1499 → (∀ x', QL x x' s c → XQ sN T V K x x' E M blk s → CQq9 sN T V K x x' E M → Fv x') → MT G D z_layS 0 [(0, vr 0), (1, vi e), (2, vi blk)] [] x (rv Fv)
theorem wS_LFq9 {x y : gd} {n w : Nat} (f : LF x y n w) {m : Int} {k : Nat} {e : Int32} {M : gU} (q : wStq9 x m k e M) : wStq9 y m k e M := sorry
theorem wB_LFq9 {x y : gd} {n w : Nat} (f : LF x y n w) {m : Int} {k z : Nat} {e : Int32} {M : gU} (q : wB x m (wStq9 x m k) z e M) : wB y m (wStq9 y m k) z e M := sorry
theorem sf_layBlockq9 {sN : Nat → Nat → Bool} {T : gTd} {V K : Nat → Int32} (k : Nat) (ih : SfLSq9 sN T V K k) {G : mG} {D : Nat} {x : gd} {Fv : gd → Prop} {m : Int} {s c z0 : Nat} {e : Int32} {M : gU} {E : gV} (hD : 2 * k + 711 ≤ D) (hs : s ≤ 700) (v : vB x m (vS x m k) s c e) (wv : wB x m (wStq9 x m k) z0 e M) (p : PL x) (ks : KS x) (xp : XP sN T V K x E) (hb2 : (x.1 0 47).toInt + s ≤ 5000) (hc : (x.1 0 48).toInt + c ≤ 8) (hw : (x.1 0 49).toInt + 2 * s ≤ 5980) (hn : (x.1 0 52).toInt + s ≤ 1499) (h : ∀ x', QLB x x' s c → (∀ b, XQ sN T V K x x' E M b s) → CBq9 sN T V K x x' E z0 M → Fv x') : MT G D z_layBlock 0 [(0, vr 0), (1, vi e)] [] x (rv Fv) := sorry
section WDT
variable {x : gd} {m : Int} {V : Int32 → gU → Prop} {i : Nat} {w a b d e : Int32} {M : gU}
theorem wD_28aq9 (h : w = 28) (q : wDq9 x m V i w a b d e M) : x.1 5 i = 13 ∧ ∃ n1 N1, vV x false n1 a N1 ∧ M = (N1 ++ [(54, 0, 0)]) ++ [(69, i, 0)] := sorry
theorem wD_28bq9 (h : w = 30) (q : wDq9 x m V i w a b d e M) : x.1 5 i = 14 ∧ ∃ n1 N1, vV x false n1 a N1 ∧ M = (N1 ++ [(54, 0, 0)]) ++ [(69, i, 0)] := sorry
theorem wD_31aq9 (h : ∀ k ∈ [(20 : Int32), 21, 22, 23, 24, 25, 26, 27, 28, 29, 30], ¬ w = k) (q : wDq9 x m V i w a b d e M) : x.1 5 i = 19 ∧ M = [(68, i, 0)] := sorry
end WDT
theorem layF_stepq9 {sN : Nat → Nat → Bool} {T : gTd} {V K : Nat → Int32} (k : Nat) (ih : SfLSq9 sN T V K k) : SfLSq9 sN T V K (k + 1) := sorry
theorem sf_laySq9 {sN : Nat → Nat → Bool} {T : gTd} {V K : Nat → Int32} : ∀ k : Nat, SfLSq9 sN T V K k := sorry
/-- the model's code, as the chunks of the text say it -/
def MCdq9 (sN : Nat → Nat → Bool) (T : gTd) (V K : Nat → Int32) (Ts As Fs : List gU) (x : gd) : Prop := (SRq9 sN T V K x (stTs sN K Ts) ∧ (∀ i N, Ts[i]? = some N → okT sN K (stTs sN K (Ts.take i)) N) ∧ ∀ t : Nat, t < Ts.length → (x.1 64 t).toInt = (stTs sN K (Ts.take t)).length) ∧ (∀ k N, As[k]? = some N → SUm x (x.1 65 k) (nPs sN T V K [] N)) ∧ ∀ k N, Fs[k]? = some N → SUm x (x.1 66 k) (nPs sN T V K [] N)
theorem sf_judgeq9 {G : mG} {D : Nat} {x : gd} {Fv : gd → Prop} {Ds : List gU} (hD : 750 ≤ D) (pn : PN x) (pg : PG x) (wp : (x.1 0 42).toInt ≤ 3000) (pv : PVq9 x Ds) (pn5 : PN5 x Ds) (h47 : x.1 0 47 = 0) (h : ∀ x', md lL jA x x' → WB x' → CP x' → (wr x' ↔ jF (smB x) (x.1 7) (Ds.filterMap (te (x.1 5) (x.1 7))) (Ds.filterMap (bN 34)) (Ds.filterMap (bN 35)) (Ds.filterMap (bN 36))) → (¬ wr x' → MCdq9 (smB x) (Ds.filterMap (te (x.1 5) (x.1 7))) (x.1 7) (x.1 5) (Ds.filterMap (bN 34)) (Ds.filterMap (bN 35)) (Ds.filterMap (bN 36)) x') → Fv x') : MT G D z_judge 0 [(0, vr 0)] [] x (rv Fv) := sorry
theorem wS_cdq9 {x : gd} {m : Int} : ∀ (k : Nat) (e : Int32) (M : gU), wStq9 x m k e M → cd M := sorry
theorem PV_shpq9 {x : gd} {Ds : List gU} (pv : PVq9 x Ds) : ∀ M ∈ Ds, shp M := sorry
def MCoq9 (sN : Nat → Nat → Bool) (V K : Nat → Int32) (L : gU) (x : gd) : Prop :=
  SRq9 sN (L.filterMap (te1 K V)) V K x (cds sN K L cd0).2.1 ∧
  ((x.1 0 25).toInt = (cds sN K L cd0).2.2.2.2.1.length ∧ ∀ (t : Nat) (q : Nat × Nat), (cds sN K L cd0).2.2.2.2.1[t]? = some q → (x.1 64 t).toInt = q.1 ∧ x.1 38 t = Int32.ofNat q.2) ∧
  ((x.1 0 23).toInt = (cel K V L).length ∧ ∀ j q, (cel K V L)[j]? = some q → x.1 36 j = q.1 ∧ x.1 37 j = if q.2 = true then 1 else 0) ∧
  (∀ k N, (clF 35 (cds sN K L cd0).2.2.2.2.2)[k]? = some N → SUm x (x.1 65 k) (nPs sN (L.filterMap (te1 K V)) V K [] N)) ∧
  ∀ k N, (clF 36 (cds sN K L cd0).2.2.2.2.2)[k]? = some N → SUm x (x.1 66 k) (nPs sN (L.filterMap (te1 K V)) V K [] N)
theorem MCo_mdq9 {sN : Nat → Nat → Bool} {V K : Nat → Int32} {L : gU} {x y : gd} {L' A : List Nat} (m : md L' A x y) (hL : [23, 25, 49, 52].all (fun k => !L'.elem k) = true) (hA : [2, 6, 36, 37, 38, 51, 52, 54, 55, 56, 57, 58, 59, 60, 61, 62, 63, 64, 65, 66].all (fun k => !A.elem k) = true) (h : MCoq9 sN V K L x) : MCoq9 sN V K L y := sorry
theorem PV_chkq9 {x : gd} {Ds : List gU} (pv : PVq9 x Ds) : ∀ M ∈ Ds, chk M := sorry
theorem MCo_ofq9 {y x' : gd} {Ds : List gU} {sN : Nat → Nat → Bool} (pv : PVq9 y Ds) (p5 : PN5 y Ds) (e23 : x'.1 0 23 = y.1 0 23) (e25 : x'.1 0 25 = y.1 0 25) (e36 : x'.1 36 = y.1 36) (e37 : x'.1 37 = y.1 37) (e38 : x'.1 38 = y.1 38) (h : MCdq9 sN (Ds.filterMap (te (y.1 5) (y.1 7))) (y.1 7) (y.1 5) (Ds.filterMap (bN 34)) (Ds.filterMap (bN 35)) (Ds.filterMap (bN 36)) x') : MCoq9 sN (y.1 7) (y.1 5) Ds.flatten x' := sorry
def MCfq9 (x x' : gd) : Prop := ∃ (y : gd) (e : Nat), TSq (tby x) (tln x) e (y.1 5) (tP y) (tZ y) (y.1 7) ∧ y.1 2 = x.1 2 ∧ x'.1 2 = x.1 2 ∧ TK y ∧ ((∃ n j L, pAl (y.1 5) (y.1 7) 701 (0, 0, 0, 0, 0) 0 [] = some (n, j, L) ∧ ¬ jFl (smB y) (y.1 5) (y.1 7) L ∧ x'.1 0 66 = 1 ∧ cn x' = n ∧ MCoq9 (smB y) (y.1 7) (y.1 5) L x' ∧ x'.1 6 = y.1 6) ∨ ((∀ n j L, pAl (y.1 5) (y.1 7) 701 (0, 0, 0, 0, 0) 0 [] = some (n, j, L) → jFl (smB y) (y.1 5) (y.1 7) L) ∧ x'.1 0 66 = 0 ∧ z5 x'))
theorem sf_compileq9 {G : mG} {x : gd} {F : Int32 → gd → Prop} {D : Nat} (hD : 760 ≤ D) (g : G0 x) (h : ∀ r x', cG x x' → MCfq9 x x' → F r x') : MT G D z_compile 0 [(0, vr 0)] [] x (ri F) := sorry
abbrev stAq9 : List Nat := [2, 6, 7, 8, 36, 37, 38, 51, 52, 54, 55, 56, 57, 58, 59, 60, 61, 62, 63, 64, 65, 66, 70, 71, 72, 73, 74, 75, 76, 77, 78, 79, 80, 81, 82, 86, 87, 88, 96, 98, 99, 100, 103, 106, 107, 118, 119, 120, 123, 126, 130, 131, 132]
theorem MI_miq9 {L A : List Nat} {z z' : gd} (m : mi L A z z') (hL : stL.all (fun k => !L.elem k) = true) (hA : stAq9.all (fun k => !A.elem k) = true) (q : MI z) : MI z' := by
  have f := fun k hk => m.1 k (all_no hL k hk)
  obtain ⟨q1, q2, q3, q4⟩ := q
  have g119 : z'.1 119 = z.1 119 := m.2 119 (by decide) (all_no hA 119 (by decide))
  refine ⟨G0_mi m (all_sub hL rfl) (all_sub hA rfl) q1, fun h => CP_mi m (all_sub hL rfl) (all_sub hA rfl) (q2 (by rw [f 66 (by decide)] at h; exact h)), fun h => ?_, fun w hw h => ?_⟩
  · rw [f 67 (by decide)] at h
    rw [f 66 (by decide)]
    exact ⟨(q3 h).1, Hist_mi m (all_sub hL rfl) (all_sub hA rfl) (q3 h).2⟩
  · rw [g119] at h
    rw [f 66 (by decide)]
    exact ⟨(q4 w hw h).1, TY_mi m (all_sub hL rfl) (all_sub hA rfl) (q4 w hw h).2⟩
abbrev mfAq9 : List Nat := [2, 36, 37, 38, 51, 52, 54, 55, 56, 57, 58, 59, 60, 61, 62, 63, 64, 65, 66]
theorem mfA_0q9 : ∀ c ∈ mfAq9, c ≠ 0 := by decide
def MFrq9 (z z' : gd) : Prop := (∀ k ∈ mfL, z'.1 0 k = z.1 0 k) ∧ ∀ c ∈ mfAq9, z'.1 c = z.1 c
def PMq9 (z z' : gd) : Prop := MI z' ∧ z'.1 0 2 = z.1 0 2 ∧ MFrq9 z z'
theorem PM_0q9 {z y u : gd} (m : mi [0] [] z y) (p : PMq9 y u) : PMq9 z u := ⟨p.1, by rw [p.2.1, m.1 2 (by decide)], fun k hk => by
  rw [p.2.2.1 k hk]
  refine m.1 k (fun z => ?_)
  rw [List.mem_singleton.mp z] at hk
  exact absurd hk (by decide), fun c hc => (p.2.2.2 c hc).trans (m.2 c (mfA_0q9 c hc) (fun q => nomatch q))⟩
theorem PM_miq9 {L A : List Nat} {z z' : gd} (m : mi L A z z') (hL : stL.all (fun k => !L.elem k) = true) (hA : stAq9.all (fun k => !A.elem k) = true) (q : MI z) : PMq9 z z' := ⟨MI_miq9 m hL hA q, m.1 2 (all_no hL 2 (by decide)), fun k hk => m.1 k (all_no (M := mfL) (all_sub hL rfl) k hk), fun c hc => m.2 c (mfA_0q9 c hc) (all_no (M := mfAq9) (all_sub hA rfl) c hc)⟩
theorem MI_newq9 {L A : List Nat} {z z' : gd} (m : mi L A z z') (hL : [2, 10, 42, 23, 24, 25, 26, 27, 28, 49, 52, 66].all (fun k => !L.elem k) = true) (hA : [2, 6, 7, 8, 36, 37, 38, 51, 52, 54, 55, 56, 57, 58, 59, 60, 61, 62, 63, 64, 65, 66, 118, 119, 120, 123, 126, 130, 131, 132].all (fun k => !A.elem k) = true) (hc : ¬ z.1 0 66 = 0) (hh : Hist z') (q : MI z) : PMq9 z z' := by
  have f := fun k hk => m.1 k (all_no hL k hk)
  obtain ⟨q1, q2, q3, q4⟩ := q
  have g119 : z'.1 119 = z.1 119 := m.2 119 (by decide) (all_no hA 119 (by decide))
  refine ⟨⟨G0_mi m (all_sub hL rfl) (all_sub hA rfl) q1, fun h => CP_mi m (all_sub hL rfl) (all_sub hA rfl) (q2 (by rw [f 66 (by decide)] at h; exact h)), fun h => ⟨by rw [f 66 (by decide)]; exact hc, hh⟩, fun w hw h => ?_⟩, f 2 (by decide), fun k hk => m.1 k (all_no (M := mfL) (all_sub hL rfl) k hk), fun c hc => m.2 c (mfA_0q9 c hc) (all_no (M := mfAq9) (all_sub hA rfl) c hc)⟩
  rw [g119] at h
  rw [f 66 (by decide)]
  exact ⟨(q4 w hw h).1, TY_mi m (all_sub hL rfl) (all_sub hA rfl) (q4 w hw h).2⟩
section FAC
variable {G : mG} {d D : Nat} {x z a : gd} {F : Int32 → gd → Prop} {Fv : gd → Prop}
theorem MI_0q9 {y : gd} (m : mi [0] [] z y) (q : MI z) : PMq9 z y := PM_miq9 m rfl rfl q
theorem sp_beginq9 (q : MI z) (w : Int32) (hD : 7 ≤ D) (h : ∀ r z', PMq9 z z' → F r z') : MT G D z_begin 0 [(0, vr 0), (1, vi w)] [] z (ri F) := by
  obtain ⟨D, rfl⟩ : ∃ D', D = D' + 1 := ⟨D - 1, by omega⟩
  have k0 : (0 : Int32).toInt = 0 := rfl
  have k1 : (1 : Int32).toInt = 1 := rfl
  refine sg_begin_0 _ (fun y e => ?_)
  have hy := z0_s e
  have no : ∀ y', mi [0] [] z y' → ri F (some (vi 0)) y' := fun y' m => ri_i (h 0 y' (MI_0q9 m q))
  have e66 : y.1 0 66 = z.1 0 66 := hy.1.1 66 (by decide)
  have p40 : ¬ z.1 0 66 = 0 → ∀ b : Int32, (b = 0 → w = 0 ∨ w = 1) → MT G (D + 1) z_begin 40 [(0, vr 0), (1, vi w)] [vi b, vr 0] y (ri F) := by
    intro c b hb
    refine sg_begin_40 _ _ (sp_ref b 2 hy (by decide) (fun b0 => ⟨fun _ => ?_, fun q => absurd rfl q⟩) (fun _ y' m => ⟨fun q => absurd q (by decide), fun _ => no y' m⟩))
    have qy := (MI_0q9 hy.1 q).1
    refine sp_startRun (qy.2.1 (by rw [e66]; exact c)) (hb b0) (by omega) (fun z' hh m f67 => ri_i (h _ z' ?_))
    have p := MI_newq9 m rfl rfl (by rw [e66]; exact c) hh qy
    exact PM_0q9 hy.1 p
  have p18 : ∀ b : Int32, (b = 0 → ¬ z.1 0 66 = 0) → MT G (D + 1) z_begin 18 [(0, vr 0), (1, vi w)] [vi b, vr 0] y (ri F) := by
    intro b hb
    refine sg_begin_18 _ _ (sp_ref b 1 hy (by decide) (fun b0 => ⟨fun q => absurd rfl q, fun _ => sp_in _ _ _ ⟨fun c => p40 (hb b0) 0 (fun _ => ?_), fun _ => p40 (hb b0) 1 (fun q => absurd q (by decide))⟩⟩) (fun _ y' m => ⟨fun _ => no y' m, fun q => absurd q (by decide)⟩))
    obtain ⟨c1, c2⟩ := bi_ne.mp c
    rw [t_le, k0] at c1
    rw [t_le, k1] at c2
    rw [t_eq, t_eq, k0, k1]
    omega
  rw [e66]
  exact ⟨fun c => p18 0 (fun _ => c), fun _ => p18 1 (fun q => absurd q (by decide))⟩
theorem sp_choicesq9 (q : MI z) (hD : 3 ≤ D) (h : ∀ r z', PMq9 z z' → F r z') : MT G D z_choices 0 [(0, vr 0)] [] z (ri F) := by
  obtain ⟨D, rfl⟩ : ∃ D', D = D' + 2 := ⟨D - 2, by omega⟩
  refine sg_choices_0 (fun y e => ?_)
  have hy := z0_s e
  exact sp_noRun hy (fun _ => ⟨fun _ => ri_i (h _ y (MI_0q9 hy.1 q)), fun q => absurd rfl q⟩) (fun y' m => ⟨fun q => absurd q (by decide), fun _ => ri_i (h _ y' (MI_0q9 m q))⟩)
theorem sp_goq9 (q : MI z) (i : Int32) (hD : 7 ≤ D) (h : ∀ r z', PMq9 z z' → F r z') : MT G D z_go 0 [(0, vr 0), (1, vi i)] [] z (ri F) := by
  obtain ⟨D, rfl⟩ : ∃ D', D = D' + 2 := ⟨D - 2, by omega⟩
  have k0 : (0 : Int32).toInt = 0 := rfl
  have k1 : (1 : Int32).toInt = 1 := rfl
  have k4 : (400 : Int32).toInt = 400 := rfl
  refine sg_go_0 _ (fun y e => ?_)
  have hy := z0_s e
  have no : ∀ y', mi [0] [] z y' → ri F (some (vi 0)) y' := fun y' m => ri_i (h 0 y' (MI_0q9 m q))
  have qy := (MI_0q9 hy.1 q).1
  refine sp_noRun hy (fun hr => ⟨fun q => absurd rfl q, fun _ => ?_⟩) (fun y' m => ⟨fun _ => no y' m, fun q => absurd q (by decide)⟩)
  obtain ⟨hc, hh⟩ := qy.2.2.1 hr
  have h84 : 0 ≤ (y.1 0 84).toInt ∧ (y.1 0 84).toInt ≤ 84 := by
    obtain ⟨s, n, q1, q2, q3, q4, _⟩ := hh
    have e84 : y.1 0 84 = (s n).1 0 84 := q4 0 84 (Or.inr (Or.inl ⟨rfl, rfl⟩))
    rw [e84]
    exact ⟨(q2 n (Nat.le_refl _)).2.2.2.1, (q2 n (Nat.le_refl _)).2.2.2.2.1⟩
  have h94 : (y.1 0 94).toInt ≤ 400 := by
    obtain ⟨s, n, q1, q2, q3, q4, q5, q6, q7⟩ := hh
    exact q7.2.2.1
  have p55 : ¬ y.1 0 94 = 400 → ∀ b : Int32, (b = 0 → 0 ≤ i.toInt ∧ i.toInt < (y.1 0 84).toInt) → MT G (D + 2) z_go 55 [(0, vr 0), (1, vi i)] [vi b, vr 0] y (ri F) := by
    intro n4 b hb
    refine sg_go_55 _ _ (sp_ref b 2 hy (by decide) (fun b0 => ⟨fun _ => ?_, fun q => absurd rfl q⟩) (fun _ y' m => ⟨fun q => absurd q (by decide), fun _ => no y' m⟩))
    rw [t_eq, k4] at n4
    refine sp_more hh (by omega) i (hb b0).1 (hb b0).2 (by omega) (fun z' hh' m _ => ri_i (h _ z' ?_))
    have p := MI_newq9 m rfl rfl hc hh' qy
    exact PM_0q9 hy.1 p
  have p28 : ∀ b : Int32, (b = 0 → ¬ y.1 0 94 = 400) → MT G (D + 2) z_go 28 [(0, vr 0), (1, vi i)] [vi b, vr 0] y (ri F) := by
    intro b hb
    refine sg_go_28 _ _ (sp_ref b 1 hy (by decide) (fun b0 => ⟨fun q => absurd rfl q, fun _ => sp_in _ _ _ ⟨fun c => p55 (hb b0) 0 (fun _ => ?_), fun _ => p55 (hb b0) 1 (fun q => absurd q (by decide))⟩⟩) (fun _ y' m => ⟨fun _ => no y' m, fun q => absurd q (by decide)⟩))
    obtain ⟨c1, c2⟩ := bi_ne.mp c
    rw [t_le, k0] at c1
    rw [t_le, t_sub (by omega) (by omega), k1] at c2
    omega
  exact ⟨fun c => p28 0 (fun _ => c), fun _ => p28 1 (fun q => absurd q (by decide))⟩
theorem sp_drawq9 (q : MI z) (s n : Int32) (hD : 7 ≤ D) (h : ∀ r z', PMq9 z z' → F r z') : MT G D z_draw 0 [(0, vr 0), (1, vi s), (2, vi n)] [] z (ri F) := by
  obtain ⟨D, rfl⟩ : ∃ D', D = D' + 2 := ⟨D - 2, by omega⟩
  have k0 : (0 : Int32).toInt = 0 := rfl
  have k1 : (1 : Int32).toInt = 1 := rfl
  have k4 : (400 : Int32).toInt = 400 := rfl
  refine sg_draw_0 _ _ (fun y e => ?_)
  have hy := z0_s e
  have no : ∀ y', mi [0] [] z y' → ri F (some (vi 0)) y' := fun y' m => ri_i (h 0 y' (MI_0q9 m q))
  have qy := (MI_0q9 hy.1 q).1
  refine sp_noRun hy (fun hr => ⟨fun q => absurd rfl q, fun _ => ?_⟩) (fun y' m => ⟨fun _ => no y' m, fun q => absurd q (by decide)⟩)
  obtain ⟨hc, hh⟩ := qy.2.2.1 hr
  have loop : ∀ (m : Nat) (u : gd) (v i : Int32), Hist u → mi dL dA y u → 400 - (u.1 0 94).toInt ≤ m → MT G (D + 2) z_draw 43 [(0, vr 0), (2, vi n), (3, vi v), (4, vi i)] [] u (ri F) := by
    intro m
    induction m with
    | zero =>
      intro u v i hu mu hm
      have end' : ri F (some (vi i)) u := ri_i (h _ u (by have p := MI_newq9 mu rfl rfl hc hu qy; exact PM_0q9 hy.1 p))
      exact sg_draw_43 _ _ _ ⟨fun _ => end', fun _ => ⟨fun _ => end', fun _ => ⟨fun _ => end', fun c => absurd (t_le.mpr (by rw [k4]; omega)) c⟩⟩⟩
    | succ m ih =>
      intro u v i hu mu hm
      have end' : ri F (some (vi i)) u := ri_i (h _ u (by have p := MI_newq9 mu rfl rfl hc hu qy; exact PM_0q9 hy.1 p))
      refine sg_draw_43 _ _ _ ⟨fun _ => end', fun _ => ⟨fun _ => end', fun c1 => ⟨fun _ => end', fun c2 => ⟨fun z => c1 (by rw [z]; decide), ?_⟩⟩⟩⟩
      rw [t_le, k0] at c1
      rw [t_le, k4] at c2
      obtain ⟨a1, a2⟩ := t_and ((v * 1103515245 + 12345) >>> (16 &&& 31 : Int32))
      obtain ⟨b1, b2⟩ := t_rem a1 (c := u.1 0 84) (by omega)
      exact sp_more hu (by omega) _ b1 b2 (by omega) (fun u' hu' m' e94 => ih u' _ _ hu' (mi_tr mu m' rfl rfl) (by omega))
  have p29 : ∀ b : Int32, MT G (D + 2) z_draw 29 [(0, vr 0), (1, vi s), (2, vi n)] [vi b, vr 0] y (ri F) := fun b => sg_draw_29 _ _ _ (sp_ref b 2 hy (by decide) (fun _ => ⟨fun _ => loop _ y s 0 hh ⟨fun _ _ => rfl, fun _ _ _ => rfl⟩ (Int.self_le_toNat _), fun q => absurd rfl q⟩) (fun _ y' m => ⟨fun q => absurd q (by decide), fun _ => no y' m⟩))
  exact sp_in _ _ _ ⟨fun _ => p29 0, fun _ => p29 1⟩
theorem sp_againq9 (q : MI z) (n : Int32) (hD : 7 ≤ D) (h : ∀ r z', PMq9 z z' → F r z') : MT G D z_again 0 [(0, vr 0), (1, vi n)] [] z (ri F) := by
  obtain ⟨D, rfl⟩ : ∃ D', D = D' + 2 := ⟨D - 2, by omega⟩
  have k0 : (0 : Int32).toInt = 0 := rfl
  have k1 : (1 : Int32).toInt = 1 := rfl
  refine sg_again_0 _ (fun y e => ?_)
  have hy := z0_s e
  have no : ∀ y', mi [0] [] z y' → ri F (some (vi 0)) y' := fun y' m => ri_i (h 0 y' (MI_0q9 m q))
  have qy := (MI_0q9 hy.1 q).1
  refine sp_noRun hy (fun hr => ⟨fun q => absurd rfl q, fun _ => ?_⟩) (fun y' m => ⟨fun _ => no y' m, fun q => absurd q (by decide)⟩)
  obtain ⟨hc, hh⟩ := qy.2.2.1 hr
  obtain ⟨s, N, q1, q2, q3, q4, q5, q6, q7⟩ := hh
  have q8 := q7.2.2.1
  have loop : n.toInt ≤ (y.1 0 94).toInt → ∀ (m : Nat) (u : gd) (i : Int32), 0 ≤ i.toInt → i.toInt ≤ n.toInt ∨ i.toInt = 0 → n.toInt - i.toInt ≤ m → i.toInt ≤ (N : Int) → eqS (Sm (s i.toNatClampNeg)) (s i.toNatClampNeg) u → HA u → (u.1 0 94).toInt = i.toInt → u.1 96 = y.1 96 → u.1 0 68 = y.1 0 68 → mi (67 :: 68 :: dL) dA y u → MT G (D + 2) z_again 49 [(0, vr 0), (1, vi n), (2, vi i)] [] u (ri F) := by
    intro hn
    have end' : ∀ (u : gd) (i : Int32), 0 ≤ i.toInt → i.toInt ≤ (N : Int) → eqS (Sm (s i.toNatClampNeg)) (s i.toNatClampNeg) u → HA u → (u.1 0 94).toInt = i.toInt → u.1 96 = y.1 96 → u.1 0 68 = y.1 0 68 → mi (67 :: 68 :: dL) dA y u → ri F (some (vi (u.1 0 84))) u := by
      intro u i i0 iN eu hu u94 u96 u68 mu
      have ci := cl_i i0
      have hist : Hist u := ⟨s, i.toNatClampNeg, by omega, fun k hk => q2 k (by omega), by rw [u96]; exact fun k hk => q3 k (by omega), eu, by rw [u68]; exact St_pr (prE_mi (prE_rf y) mu rfl rfl) q5, by unfold wy01; rw [u68]; exact q6, hu⟩
      refine ri_i (h _ u ?_)
      have p := MI_newq9 mu rfl rfl hc hist qy
      exact PM_0q9 hy.1 p
    intro m
    induction m with
    | zero =>
      intro u i i0 i1 hm iN eu hu u94 u96 u68 mu
      exact sg_again_49 _ _ ⟨fun _ => end' u i i0 iN eu hu u94 u96 u68 mu, fun c => absurd (t_le.mpr (by omega)) c⟩
    | succ m ih =>
      intro u i i0 i1 hm iN eu hu u94 u96 u68 mu
      have ci := cl_i i0
      refine sg_again_49 _ _ ⟨fun _ => end' u i i0 iN eu hu u94 u96 u68 mu, fun c => ?_⟩
      rw [t_le] at c
      refine ⟨by rw [vp_in_iff]; omega, ?_⟩
      rw [u96]
      obtain ⟨b1, b2, b3⟩ := q3 i.toNatClampNeg (by omega)
      have ii : (i + 1).toInt = i.toInt + 1 := by rw [t_add (by omega) (by omega), k1]
      have ci1 : (i + 1).toNatClampNeg = i.toNatClampNeg + 1 := by have := cl_i (a := i + 1) (by omega); omega
      refine sp_doChoice (q2 _ (by omega)) _ b1 b2 b3 eu hu (by omega) (by omega) (fun u' eu' hu' df => ?_)
      obtain ⟨mm, e94, e96, e96b⟩ := df
      have cu : (u.1 0 94).toNatClampNeg = i.toNatClampNeg := by have := cl_i (a := u.1 0 94) (by omega); omega
      rw [cu, ← u96] at e96
      rw [cu] at e96b
      refine ih u' (i + 1) (by omega) (Or.inl (by omega)) (by omega) (by omega) (by rw [ci1]; exact eu') hu' (by omega) ?_ (by rw [mm.1 68 (by decide)]; exact u68) (mi_tr mu mm rfl rfl)
      funext j
      by_cases w : j = i.toNatClampNeg
      · rw [w, e96, u96]
      · rw [e96b j w, u96]
  have p30 : ∀ b : Int32, (b = 0 → 0 ≤ n.toInt ∧ n.toInt ≤ (y.1 0 94).toInt) → MT G (D + 2) z_again 30 [(0, vr 0), (1, vi n)] [vi b, vr 0] y (ri F) := by
    intro b hb
    refine sg_again_30 _ _ (sp_ref b 2 hy (by decide) (fun b0 => ⟨fun _ => ?_, fun q => absurd rfl q⟩) (fun _ y' m => ⟨fun q => absurd q (by decide), fun _ => no y' m⟩))
    obtain ⟨n0, n1⟩ := hb b0
    refine q5 G (D + 1) y _ (by omega) (prE_rf y) (fun u eu sf => ?_)
    obtain ⟨mm, f94, hu, f67, f68⟩ := sf
    exact loop n1 n.toInt.toNat u 0 (by decide) (Or.inr rfl) (by rw [k0]; omega) (by rw [k0]; omega) eu hu (by rw [f94]) (mm.2 96 (by decide) (by decide)) f68 (mi_w mm (by decide) (by decide))
  refine sp_in _ _ _ ⟨fun c => p30 0 (fun _ => ?_), fun _ => p30 1 (fun q => absurd q (by decide))⟩
  obtain ⟨c1, c2⟩ := bi_ne.mp c
  rw [t_le, k0] at c1
  rw [t_le] at c2
  exact ⟨c1, c2⟩
theorem sp_fault2q9 (q : MI z) (w : Int32) (h : ∀ r z', PMq9 z z' → F r z') : MT G (D + 1) z_fault_ 0 [(0, vr 0), (1, vi w)] [] z (ri F) := by
  refine sg_fault__0 _ (fun y e => ?_)
  have hy := z0_s e
  have p20 : ∀ b : Int32, MT G (D + 1) z_fault_ 20 [(0, vr 0), (1, vi w)] [vi b, vr 0] y (ri F) := fun b => sg_fault__20 _ _ (sp_ref b 1 hy (by decide) (fun _ => ⟨fun _ => ⟨fun _ => ri_i (h _ y (MI_0q9 hy.1 q)), fun _ => ri_i (h _ y (MI_0q9 hy.1 q))⟩, fun q => absurd rfl q⟩) (fun _ y' m => ⟨fun q => absurd q (by decide), fun _ => ri_i (h _ y' (MI_0q9 m q))⟩))
  exact sp_in _ _ _ ⟨fun _ => p20 0, fun _ => p20 1⟩
theorem sp_countq9 (q : MI z) (w : Int32) (h : ∀ r z', PMq9 z z' → ((¬ (0 ≤ w.toInt ∧ w.toInt ≤ 4) → z'.1 0 0 = 1) ∧ ((0 ≤ w.toInt ∧ w.toInt ≤ 4) → z'.1 0 0 = 0 ∧ cntM z w r)) → F r z') : MT G (D + 1) z_count 0 [(0, vr 0), (1, vi w)] [] z (ri F) := by
  have k0 : (0 : Int32).toInt = 0 := rfl
  have k1 : (1 : Int32).toInt = 1 := rfl
  have k2 : (2 : Int32).toInt = 2 := rfl
  have k3 : (3 : Int32).toInt = 3 := rfl
  have k4 : (4 : Int32).toInt = 4 := rfl
  refine sg_count_0 _ (fun y e => ?_)
  have hy := z0_s e
  have f := fun k (hk : ¬ k = 0) => hy.1.1 k (fun z => hk (List.mem_singleton.mp z))
  have ok : (0 ≤ w.toInt ∧ w.toInt ≤ 4) → ∀ r, cntM z w r → ri F (some (vi r)) y := fun hw r hr => ri_i (h _ y (MI_0q9 hy.1 q) ⟨fun z => absurd hw z, fun _ => ⟨hy.2, hr⟩⟩)
  have p20 : ∀ b : Int32, (b = 0 → 0 ≤ w.toInt ∧ w.toInt ≤ 4) → (¬ b = 0 → ¬ (0 ≤ w.toInt ∧ w.toInt ≤ 4)) → MT G (D + 1) z_count 20 [(0, vr 0), (1, vi w)] [vi b, vr 0] y (ri F) := by
    intro b hb hb2
    refine sg_count_20 _ _ (sp_refuses b 1 hy.2 (by decide) (fun c => ⟨fun _ => ?_, fun q => absurd rfl q⟩) (fun c => ⟨fun q => absurd q (by decide), fun _ => ri_i (h _ _ (MI_0q9 (mi_tr hy.1 (mi_of (md_f y 0 1)) rfl rfl) q) ⟨fun _ => by rw [si_get, if_pos ⟨rfl, rfl⟩], fun z => absurd z (hb2 c)⟩)⟩))
    have hw := hb c
    rw [f 23 (by decide), f 24 (by decide), f 25 (by decide), f 26 (by decide), f 27 (by decide)]
    refine ⟨fun n0 => ⟨fun n1 => ⟨fun n2 => ⟨fun n3 => ok hw _ ?_, fun e3 => ok hw _ (Or.inr (Or.inr (Or.inr (Or.inl ⟨e3, rfl⟩))))⟩, fun e2 => ok hw _ (Or.inr (Or.inr (Or.inl ⟨e2, rfl⟩)))⟩, fun e1 => ok hw _ (Or.inr (Or.inl ⟨e1, rfl⟩))⟩, fun e0 => ok hw _ (Or.inl ⟨e0, rfl⟩)⟩
    refine Or.inr (Or.inr (Or.inr (Or.inr ⟨?_, rfl⟩)))
    rw [t_eq, k0] at n0
    rw [t_eq, k1] at n1
    rw [t_eq, k2] at n2
    rw [t_eq, k3] at n3
    rw [t_eq, k4]
    omega
  refine sp_in _ _ _ ⟨fun c => p20 0 (fun _ => ?_) (fun z => absurd rfl z), fun c => p20 1 (fun z => absurd z (by decide)) (fun _ z => ?_)⟩
  · obtain ⟨c1, c2⟩ := bi_ne.mp c
    rw [t_le, k0] at c1
    rw [t_le, k4] at c2
    exact ⟨c1, c2⟩
  · refine bi_eq.mp c ⟨t_le.mpr ?_, t_le.mpr ?_⟩
    · rw [k0]; exact z.1
    · rw [k4]; exact z.2
end FAC

section RDS
variable {G : mG} {d D : Nat} {x y z a : gd} {F : Int32 → gd → Prop} {Fv : gd → Prop}
theorem sp_runq9 (q : MI z) (w : Int32) (hD : 4 ≤ D) (h : ∀ r z', PMq9 z z' → F r z') : MT G D z_run 0 [(0, vr 0), (1, vi w)] [] z (ri F) := by
  obtain ⟨D, rfl⟩ : ∃ D', D = D' + 3 := ⟨D - 3, by omega⟩
  have k0 : (0 : Int32).toInt = 0 := rfl
  have k1 : (1 : Int32).toInt = 1 := rfl
  refine sg_run_0 _ (fun y e => ?_)
  have hy := z0_s e
  have no : ∀ y', mi [0] [] z y' → ri F (some (vi 0)) y' := fun y' m => ri_i (h 0 y' (MI_0q9 m q))
  have ok : ∀ r, ri F (some (vi r)) y := fun r => ri_i (h r y (MI_0q9 hy.1 q))
  have qy := (MI_0q9 hy.1 q).1
  refine sp_noRun hy (fun hr => ⟨fun q => absurd rfl q, fun _ => ?_⟩) (fun y' m => ⟨fun _ => no y' m, fun q => absurd q (by decide)⟩)
  obtain ⟨cp, ⟨a1, a2, a3, a4, a5⟩, rt⟩ := RS_of qy hr
  have b25 := cp.1.2.2.2.2.2.1
  have av : ∀ i : Int32, 0 ≤ i.toInt → i.toInt < (y.1 0 96).toInt → vp_in i 400 ∧ aA y i.toNatClampNeg := fun i i0 i1 => ⟨by rw [vp_in_iff]; omega, a4 _ (by have := cl_i i0; omega)⟩
  have p125 : ∀ (n : Nat) (s b : Int32), 0 ≤ b.toInt → (y.1 0 96).toInt - b.toInt ≤ n → MT G (D + 3) z_run 125 [(0, vr 0), (2, vi s), (3, vi b)] [] y (ri F) := by
    intro n
    induction n with
    | zero =>
      intro s b b0 hn
      exact sg_run_125 _ _ ⟨fun _ => ok _, fun c => absurd (t_le.mpr (by omega)) c⟩
    | succ n ih =>
      intro s b b0 hn
      refine sg_run_125 _ _ ⟨fun _ => ok _, fun c => ?_⟩
      rw [t_le] at c
      have bi' : (b + 1).toInt = b.toInt + 1 := by rw [t_add (by omega) (by omega), k1]
      have p136 : ∀ (m : Nat) (s i : Int32), 0 ≤ i.toInt → b.toInt - i.toInt ≤ m → MT G (D + 3) z_run 136 [(0, vr 0), (2, vi s), (3, vi b), (4, vi i)] [] y (ri F) := by
        intro m
        induction m with
        | zero =>
          intro s i i0 hm
          exact sg_run_136 _ _ _ ⟨fun _ => ih _ _ (by omega) (by omega), fun c => absurd (t_le.mpr (by omega)) c⟩
        | succ m ihm =>
          intro s i i0 hm
          refine sg_run_136 _ _ _ ⟨fun _ => ih _ _ (by omega) (by omega), fun c2 => ?_⟩
          rw [t_le] at c2
          have ii : (i + 1).toInt = i.toInt + 1 := by rw [t_add (by omega) (by omega), k1]
          exact sp_isRace _ _ (av i i0 (by omega)).1 (av b b0 (by omega)).1 (av i i0 (by omega)).2 (fun r => sp_one _ (fun r2 => ihm _ _ (by omega) (by omega)))
      exact p136 b.toInt.toNat s 0 (by decide) (by rw [k0]; omega)
  have p171 : ∀ (n : Nat) (s b : Int32), 0 ≤ b.toInt → (y.1 0 96).toInt - b.toInt ≤ n → MT G (D + 3) z_run 171 [(0, vr 0), (2, vi s), (3, vi b)] [] y (ri F) := by
    intro n
    induction n with
    | zero =>
      intro s b b0 hn
      exact sg_run_171 _ _ ⟨fun _ => ok _, fun c => absurd (t_le.mpr (by omega)) c⟩
    | succ n ih =>
      intro s b b0 hn
      refine sg_run_171 _ _ ⟨fun _ => ok _, fun c => ?_⟩
      rw [t_le] at c
      have bi' : (b + 1).toInt = b.toInt + 1 := by rw [t_add (by omega) (by omega), k1]
      have p205 : ∀ v : Int32, MT G (D + 3) z_run 205 [(0, vr 0), (3, vi b)] [vi v, vi s] y (ri F) := fun v => sg_run_205 _ _ _ (sp_one _ (fun r => ih _ _ (by omega) (by omega)))
      have bv := (av b b0 (by omega)).1
      exact ⟨bv, fun _ => p205 _, fun _ => ⟨bv, fun _ => p205 _, fun _ => p205 _⟩⟩
  have p220 : ∀ (n : Nat) (s b : Int32), 0 ≤ b.toInt → (y.1 0 25).toInt - b.toInt ≤ n → MT G (D + 3) z_run 220 [(0, vr 0), (2, vi s), (3, vi b)] [] y (ri F) := by
    intro n
    induction n with
    | zero =>
      intro s b b0 hn
      exact sg_run_220 _ _ ⟨fun _ => ok _, fun c => absurd (t_le.mpr (by omega)) c⟩
    | succ n ih =>
      intro s b b0 hn
      refine sg_run_220 _ _ ⟨fun _ => ok _, fun c => ?_⟩
      rw [t_le] at c
      have bi' : (b + 1).toInt = b.toInt + 1 := by rw [t_add (by omega) (by omega), k1]
      exact ⟨by rw [vp_in_iff]; omega, ih _ _ (by omega) (by omega)⟩
  have p111 : ∀ v : Int32, MT G (D + 3) z_run 111 [(0, vr 0)] [vi v] y (ri F) := fun v => sg_run_111 _ (sp_one _ (fun r => ok _))
  have p28 : ∀ b : Int32, MT G (D + 3) z_run 28 [(0, vr 0), (1, vi w)] [vi b, vr 0] y (ri F) := fun b => sg_run_28 _ _ (sp_ref b 2 hy (by decide) (fun _ => ⟨fun _ => ⟨fun _ => ok _, fun _ => ok _, fun _ => ok _, fun _ => ⟨fun _ => p111 _, fun _ => p111 _⟩, fun _ => sp_isStuck b25 (fun r => sp_one _ (fun r => ok _)), fun _ => p125 400 0 0 (by decide) (by rw [k0]; omega), fun _ => p171 400 0 0 (by decide) (by rw [k0]; omega), fun _ => p220 6 0 0 (by decide) (by rw [k0]; omega)⟩, fun q => absurd rfl q⟩) (fun _ y' m => ⟨fun q => absurd q (by decide), fun _ => no y' m⟩))
  exact sp_in _ _ _ ⟨fun _ => p28 _, fun _ => p28 _⟩
theorem sp_cellq9 (q : MI z) (c : Int32) (hD : 3 ≤ D) (h : ∀ r z', PMq9 z z' → F r z') : MT G D z_cell 0 [(0, vr 0), (1, vi c)] [] z (ri F) := by
  obtain ⟨D, rfl⟩ : ∃ D', D = D' + 2 := ⟨D - 2, by omega⟩
  refine sg_cell_0 _ (fun y e => ?_)
  have hy := z0_s e
  have no : ∀ y', mi [0] [] z y' → ri F (some (vi 0)) y' := fun y' m => ri_i (h 0 y' (MI_0q9 m q))
  have ok : ∀ r, ri F (some (vi r)) y := fun r => ri_i (h r y (MI_0q9 hy.1 q))
  have qy := (MI_0q9 hy.1 q).1
  refine sp_noRun hy (fun hr => ⟨fun q => absurd rfl q, fun _ => ?_⟩) (fun y' m => ⟨fun _ => no y' m, fun q => absurd q (by decide)⟩)
  obtain ⟨cp, _, _⟩ := RS_of qy hr
  have g := cp.1
  have p32 : ∀ b : Int32, (b = 0 → 0 ≤ c.toInt ∧ c.toInt < (y.1 0 23).toInt) → MT G (D + 2) z_cell 32 [(0, vr 0), (1, vi c)] [vi b, vr 0] y (ri F) := fun b hb => sg_cell_32 _ _ (sp_ref b 2 hy (by decide) (fun b0 => ⟨fun _ => ⟨by rw [vp_in_iff]; have := hb b0; have := g.2.1; omega, ok _⟩, fun q => absurd rfl q⟩) (fun _ y' m => ⟨fun q => absurd q (by decide), fun _ => no y' m⟩))
  exact sp_in _ _ _ ⟨fun cc => p32 0 (fun _ => in_lt (bi_ne.mp cc) g.1), fun _ => p32 1 (fun q => absurd q (by decide))⟩
theorem sp_seenq9 (q : MI z) (t c : Int32) (hD : 3 ≤ D) (h : ∀ r z', PMq9 z z' → F r z') : MT G D z_seen 0 [(0, vr 0), (1, vi t), (2, vi c)] [] z (ri F) := by
  obtain ⟨D, rfl⟩ : ∃ D', D = D' + 2 := ⟨D - 2, by omega⟩
  refine sg_seen_0 _ _ (fun y e => ?_)
  have hy := z0_s e
  have no : ∀ y', mi [0] [] z y' → ri F (some (vi 0)) y' := fun y' m => ri_i (h 0 y' (MI_0q9 m q))
  have ok : ∀ r, ri F (some (vi r)) y := fun r => ri_i (h r y (MI_0q9 hy.1 q))
  have qy := (MI_0q9 hy.1 q).1
  refine sp_noRun hy (fun hr => ⟨fun q => absurd rfl q, fun _ => ?_⟩) (fun y' m => ⟨fun _ => no y' m, fun q => absurd q (by decide)⟩)
  obtain ⟨cp, _, rt⟩ := RS_of qy hr
  have g := cp.1
  have p46 : ∀ b : Int32, (b = 0 → (0 ≤ t.toInt ∧ t.toInt < (y.1 0 25).toInt) ∧ 0 ≤ c.toInt ∧ c.toInt < (y.1 0 23).toInt) → MT G (D + 2) z_seen 46 [(0, vr 0), (1, vi t), (2, vi c)] [vi b, vr 0] y (ri F) := fun b hb => sg_seen_46 _ _ _ (sp_ref b 2 hy (by decide) (fun b0 => ⟨fun _ => by
    obtain ⟨b1, b2⟩ := hb b0
    have g2 := g.2.1
    have g6 := g.2.2.2.2.2.1
    have tv : vp_in t 6 := by rw [vp_in_iff]; omega
    exact sp_see t c tv (by rw [vp_in_iff]; omega) (rt _ (vt tv)).2.2.2 (fun r => ok r), fun q => absurd rfl q⟩) (fun _ y' m => ⟨fun q => absurd q (by decide), fun _ => no y' m⟩))
  exact sp_in _ _ _ ⟨fun _ => p46 1 (fun q => absurd q (by decide)), fun c1 => sp_in _ _ _ ⟨fun c2 => p46 0 (fun _ => ⟨in_lt (bi_ne.mp c1) g.2.2.2.2.1, in_lt (bi_ne.mp c2) g.1⟩), fun _ => p46 1 (fun q => absurd q (by decide))⟩⟩
theorem sp_lockq9 (q : MI z) (l w : Int32) (hD : 3 ≤ D) (h : ∀ r z', PMq9 z z' → F r z') : MT G D z_lock 0 [(0, vr 0), (1, vi l), (2, vi w)] [] z (ri F) := by
  obtain ⟨D, rfl⟩ : ∃ D', D = D' + 2 := ⟨D - 2, by omega⟩
  have k0 : (0 : Int32).toInt = 0 := rfl
  have k1 : (1 : Int32).toInt = 1 := rfl
  refine sg_lock_0 _ _ (fun y e => ?_)
  have hy := z0_s e
  have no : ∀ y', mi [0] [] z y' → ri F (some (vi 0)) y' := fun y' m => ri_i (h 0 y' (MI_0q9 m q))
  have ok : ∀ r, ri F (some (vi r)) y := fun r => ri_i (h r y (MI_0q9 hy.1 q))
  have qy := (MI_0q9 hy.1 q).1
  refine sp_noRun hy (fun hr => ⟨fun q => absurd rfl q, fun _ => ?_⟩) (fun y' m => ⟨fun _ => no y' m, fun q => absurd q (by decide)⟩)
  obtain ⟨cp, _, rt⟩ := RS_of qy hr
  have g := cp.1
  have g6 := g.2.2.2.2.2.1
  have g24 := g.2.2.2.1
  have p55 : vp_in l 6 → ∀ (n : Nat) (s t : Int32), 0 ≤ t.toInt → (y.1 0 25).toInt - t.toInt ≤ n → MT G (D + 2) z_lock 55 [(0, vr 0), (1, vi l), (2, vi w), (3, vi s), (4, vi t)] [] y (ri F) := by
    intro lv n
    induction n with
    | zero =>
      intro s t t0 hn
      exact sg_lock_55 _ _ _ _ ⟨fun _ => ⟨fun _ => ⟨fun _ => ok _, fun _ => ⟨lv, ok _⟩⟩, fun _ => ⟨lv, ok _⟩⟩, fun c => absurd (t_le.mpr (by omega)) c⟩
    | succ n ih =>
      intro s t t0 hn
      refine sg_lock_55 _ _ _ _ ⟨fun _ => ⟨fun _ => ⟨fun _ => ok _, fun _ => ⟨lv, ok _⟩⟩, fun _ => ⟨lv, ok _⟩⟩, fun c => ?_⟩
      rw [t_le] at c
      have tv : vp_in t 6 := by rw [vp_in_iff]; omega
      have ti : (t + 1).toInt = t.toInt + 1 := by rw [t_add (by omega) (by omega), k1]
      have r := rt _ (vt tv)
      have p97 : ∀ v : Int32, MT G (D + 2) z_lock 97 [(0, vr 0), (1, vi l), (2, vi w), (4, vi t)] [vi v, vi s] y (ri F) := fun v => sg_lock_97 _ _ _ _ _ (sp_one _ (fun r => ih _ _ (by omega) (by omega)))
      exact ⟨tv, fun _ => p97 _, fun _ => ⟨tv, by rw [vp_in_iff]; exact ⟨r.1, r.2.1⟩, fun _ => p97 _, fun _ => p97 _⟩⟩
  have p41 : ∀ b : Int32, (b = 0 → 0 ≤ l.toInt ∧ l.toInt < (y.1 0 24).toInt) → MT G (D + 2) z_lock 41 [(0, vr 0), (1, vi l), (2, vi w)] [vi b, vr 0] y (ri F) := fun b hb => sg_lock_41 _ _ _ (sp_ref b 2 hy (by decide) (fun b0 => ⟨fun _ => p55 (by rw [vp_in_iff]; have := hb b0; omega) 6 0 0 (by decide) (by rw [k0]; omega), fun q => absurd rfl q⟩) (fun _ y' m => ⟨fun q => absurd q (by decide), fun _ => no y' m⟩))
  exact sp_in _ _ _ ⟨fun _ => p41 1 (fun q => absurd q (by decide)), fun c1 => sp_in _ _ _ ⟨fun _ => p41 0 (fun _ => in_lt (bi_ne.mp c1) g.2.2.1), fun _ => p41 1 (fun q => absurd q (by decide))⟩⟩
theorem sp_threadq9 (q : MI z) (t w : Int32) (hD : 3 ≤ D) (h : ∀ r z', PMq9 z z' → F r z') : MT G D z_thread 0 [(0, vr 0), (1, vi t), (2, vi w)] [] z (ri F) := by
  obtain ⟨D, rfl⟩ : ∃ D', D = D' + 2 := ⟨D - 2, by omega⟩
  refine sg_thread_0 _ _ (fun y e => ?_)
  have hy := z0_s e
  have no : ∀ y', mi [0] [] z y' → ri F (some (vi 0)) y' := fun y' m => ri_i (h 0 y' (MI_0q9 m q))
  have ok : ∀ r, ri F (some (vi r)) y := fun r => ri_i (h r y (MI_0q9 hy.1 q))
  have qy := (MI_0q9 hy.1 q).1
  refine sp_noRun hy (fun hr => ⟨fun q => absurd rfl q, fun _ => ?_⟩) (fun y' m => ⟨fun _ => no y' m, fun q => absurd q (by decide)⟩)
  obtain ⟨cp, _, rt⟩ := RS_of qy hr
  have g := cp.1
  have g6 := g.2.2.2.2.2.1
  have p41 : ∀ b : Int32, (b = 0 → 0 ≤ t.toInt ∧ t.toInt < (y.1 0 25).toInt) → MT G (D + 2) z_thread 41 [(0, vr 0), (1, vi t), (2, vi w)] [vi b, vr 0] y (ri F) := by
    intro b hb
    refine sg_thread_41 _ _ _ (sp_ref b 2 hy (by decide) (fun b0 => ⟨fun _ => ?_, fun q => absurd rfl q⟩) (fun _ y' m => ⟨fun q => absurd q (by decide), fun _ => no y' m⟩))
    have tv : vp_in t 6 := by rw [vp_in_iff]; have := hb b0; omega
    have r := rt _ (vt tv)
    have av : vp_in (y.1 74 t.toNatClampNeg) 1500 := by rw [vp_in_iff]; exact ⟨r.1, r.2.1⟩
    exact ⟨fun _ => ⟨fun _ => ⟨fun _ => ⟨fun _ => ⟨tv, fun _ => ok _, fun _ => ⟨tv, av, ok _⟩⟩, fun _ => sp_knownOf t tv av (fun r => sp_ones _ (fun r => ok _))⟩, fun _ => ⟨tv, ok _⟩⟩, fun _ => ⟨tv, ok _⟩⟩, fun _ => ⟨tv, ok _⟩⟩
  exact sp_in _ _ _ ⟨fun _ => p41 1 (fun q => absurd q (by decide)), fun c1 => sp_in _ _ _ ⟨fun _ => p41 0 (fun _ => in_lt (bi_ne.mp c1) g.2.2.2.2.1), fun _ => p41 1 (fun q => absurd q (by decide))⟩⟩
theorem sp_localq9 (q : MI z) (t i : Int32) (hD : 3 ≤ D) (h : ∀ r z', PMq9 z z' → F r z') : MT G D z_local 0 [(0, vr 0), (1, vi t), (2, vi i)] [] z (ri F) := by
  obtain ⟨D, rfl⟩ : ∃ D', D = D' + 2 := ⟨D - 2, by omega⟩
  have k0 : (0 : Int32).toInt = 0 := rfl
  have k1 : (1 : Int32).toInt = 1 := rfl
  have k8 : (8 : Int32).toInt = 8 := rfl
  refine sg_local_0 _ _ (fun y e => ?_)
  have hy := z0_s e
  have no : ∀ y', mi [0] [] z y' → ri F (some (vi 0)) y' := fun y' m => ri_i (h 0 y' (MI_0q9 m q))
  have ok : ∀ r, ri F (some (vi r)) y := fun r => ri_i (h r y (MI_0q9 hy.1 q))
  have qy := (MI_0q9 hy.1 q).1
  refine sp_noRun hy (fun hr => ⟨fun q => absurd rfl q, fun _ => ?_⟩) (fun y' m => ⟨fun _ => no y' m, fun q => absurd q (by decide)⟩)
  obtain ⟨cp, _, rt⟩ := RS_of qy hr
  have g := cp.1
  have g6 := g.2.2.2.2.2.1
  have p53 : vp_in t 6 → ∀ (n : Nat) (m s k : Int32), 0 ≤ k.toInt → 8 - k.toInt ≤ n → MT G (D + 2) z_local 53 [(0, vr 0), (1, vi t), (2, vi i), (3, vi m), (4, vi s), (5, vi k)] [] y (ri F) := by
    intro tv n
    have tb := vp_in_iff.mp tv
    have last : MT G (D + 1) z_refuses 0 [(0, vr 0), (1, vi 1), (2, vi 2)] [] y (ri (fun r3 x2 => ri F (some (vi 0)) x2)) := sp_ref 1 2 hy (by decide) (fun q => absurd q (by decide)) (fun _ y' m => no y' m)
    induction n with
    | zero =>
      intro m s k k0' hn
      exact sg_local_53 _ _ _ _ _ ⟨fun _ => last, fun c => absurd (t_le.mpr (by rw [k8]; omega)) c⟩
    | succ n ih =>
      intro m s k k0' hn
      refine sg_local_53 _ _ _ _ _ ⟨fun _ => last, fun c => ?_⟩
      rw [t_le, k8] at c
      have ki : (k + 1).toInt = k.toInt + 1 := by rw [t_add (by omega) (by omega), k1]
      refine ⟨fun _ => ih _ _ _ (by omega) (by omega), fun _ => ⟨fun _ => ih _ _ _ (by omega) (by omega), fun _ => ⟨?_, ok _⟩⟩⟩
      have m9 : (8 * t).toInt = 8 * t.toInt := by rw [t_mul (by rw [k8]; omega) (by rw [k8]; omega), k8]
      rw [vp_in_iff, t_add (by omega) (by omega), m9]; omega
  have p32 : ∀ b : Int32, (b = 0 → 0 ≤ t.toInt ∧ t.toInt < (y.1 0 25).toInt) → MT G (D + 2) z_local 32 [(0, vr 0), (1, vi t), (2, vi i)] [vi b, vr 0] y (ri F) := by
    intro b hb
    refine sg_local_32 _ _ _ (sp_ref b 2 hy (by decide) (fun b0 => ⟨fun _ => ?_, fun q => absurd rfl q⟩) (fun _ y' m => ⟨fun q => absurd q (by decide), fun _ => no y' m⟩))
    have tv : vp_in t 6 := by rw [vp_in_iff]; have := hb b0; omega
    have r := rt _ (vt tv)
    exact sp_knownOf t tv (by rw [vp_in_iff]; exact ⟨r.1, r.2.1⟩) (fun r => p53 tv 8 r 0 0 (by decide) (by decide))
  exact sp_in _ _ _ ⟨fun c1 => p32 0 (fun _ => in_lt (bi_ne.mp c1) g.2.2.2.2.1), fun _ => p32 1 (fun q => absurd q (by decide))⟩
theorem sp_actq9 (q : MI z) (a w : Int32) (hD : 3 ≤ D) (h : ∀ r z', PMq9 z z' → F r z') : MT G D z_act 0 [(0, vr 0), (1, vi a), (2, vi w)] [] z (ri F) := by
  obtain ⟨D, rfl⟩ : ∃ D', D = D' + 2 := ⟨D - 2, by omega⟩
  refine sg_act_0 _ _ (fun y e => ?_)
  have hy := z0_s e
  have no : ∀ y', mi [0] [] z y' → ri F (some (vi 0)) y' := fun y' m => ri_i (h 0 y' (MI_0q9 m q))
  have ok : ∀ r, ri F (some (vi r)) y := fun r => ri_i (h r y (MI_0q9 hy.1 q))
  have qy := (MI_0q9 hy.1 q).1
  refine sp_noRun hy (fun hr => ⟨fun q => absurd rfl q, fun _ => ?_⟩) (fun y' m => ⟨fun _ => no y' m, fun q => absurd q (by decide)⟩)
  obtain ⟨cp, ⟨a1, a2, a3, _⟩, rt⟩ := RS_of qy hr
  have p41 : ∀ b : Int32, (b = 0 → 0 ≤ a.toInt ∧ a.toInt < (y.1 0 96).toInt) → MT G (D + 2) z_act 41 [(0, vr 0), (1, vi a), (2, vi w)] [vi b, vr 0] y (ri F) := by
    intro b hb
    refine sg_act_41 _ _ _ (sp_ref b 2 hy (by decide) (fun b0 => ⟨fun _ => ?_, fun q => absurd rfl q⟩) (fun _ y' m => ⟨fun q => absurd q (by decide), fun _ => no y' m⟩))
    have av : vp_in a 400 := by rw [vp_in_iff]; have := hb b0; omega
    exact ⟨fun _ => ⟨fun _ => ⟨fun _ => ⟨fun _ => ⟨av, ok _⟩, fun _ => ⟨av, ok _⟩⟩, fun _ => ⟨av, ok _⟩⟩, fun _ => ⟨av, ok _⟩⟩, fun _ => ⟨av, ok _⟩⟩
  exact sp_in _ _ _ ⟨fun _ => p41 1 (fun q => absurd q (by decide)), fun c1 => sp_in _ _ _ ⟨fun _ => p41 0 (fun _ => in_lt (bi_ne.mp c1) a1), fun _ => p41 1 (fun q => absurd q (by decide))⟩⟩
theorem sp_beforeq9 (q : MI z) (a b : Int32) (hD : 3 ≤ D) (h : ∀ r z', PMq9 z z' → F r z') : MT G D z_before 0 [(0, vr 0), (1, vi a), (2, vi b)] [] z (ri F) := by
  obtain ⟨D, rfl⟩ : ∃ D', D = D' + 2 := ⟨D - 2, by omega⟩
  refine sg_before_0 _ _ (fun y e => ?_)
  have hy := z0_s e
  have no : ∀ y', mi [0] [] z y' → ri F (some (vi 0)) y' := fun y' m => ri_i (h 0 y' (MI_0q9 m q))
  have ok : ∀ r, ri F (some (vi r)) y := fun r => ri_i (h r y (MI_0q9 hy.1 q))
  have qy := (MI_0q9 hy.1 q).1
  refine sp_noRun hy (fun hr => ⟨fun q => absurd rfl q, fun _ => ?_⟩) (fun y' m => ⟨fun _ => no y' m, fun q => absurd q (by decide)⟩)
  obtain ⟨cp, ⟨a1, a2, a3, _⟩, rt⟩ := RS_of qy hr
  have p46 : ∀ v : Int32, (v = 0 → (0 ≤ a.toInt ∧ a.toInt < (y.1 0 96).toInt) ∧ 0 ≤ b.toInt ∧ b.toInt < (y.1 0 96).toInt) → MT G (D + 2) z_before 46 [(0, vr 0), (1, vi a), (2, vi b)] [vi v, vr 0] y (ri F) := by
    intro v hv
    refine sg_before_46 _ _ _ (sp_ref v 2 hy (by decide) (fun v0 => ⟨fun q => absurd rfl q, fun _ => ?_⟩) (fun _ y' m => ⟨fun _ => no y' m, fun q => absurd q (by decide)⟩))
    have hh := hv v0
    exact sp_isSooner a b (by rw [vp_in_iff]; omega) (by rw [vp_in_iff]; omega) (fun r => ⟨fun _ => ok _, fun _ => ok _⟩)
  exact sp_in _ _ _ ⟨fun _ => p46 1 (fun q => absurd q (by decide)), fun c1 => sp_in _ _ _ ⟨fun c2 => p46 0 (fun _ => ⟨in_lt (bi_ne.mp c1) a1, in_lt (bi_ne.mp c2) a1⟩), fun _ => p46 1 (fun q => absurd q (by decide))⟩⟩
theorem sp_raceq9 (q : MI z) (i w : Int32) (hD : 4 ≤ D) (h : ∀ r z', PMq9 z z' → F r z') : MT G D z_race 0 [(0, vr 0), (1, vi i), (2, vi w)] [] z (ri F) := by
  obtain ⟨D, rfl⟩ : ∃ D', D = D' + 3 := ⟨D - 3, by omega⟩
  have k0 : (0 : Int32).toInt = 0 := rfl
  have k1 : (1 : Int32).toInt = 1 := rfl
  refine sg_race_0 _ _ (fun y e => ?_)
  have hy := z0_s e
  have no : ∀ y', mi [0] [] z y' → ri F (some (vi 0)) y' := fun y' m => ri_i (h 0 y' (MI_0q9 m q))
  have ok : ∀ r, ri F (some (vi r)) y := fun r => ri_i (h r y (MI_0q9 hy.1 q))
  have qy := (MI_0q9 hy.1 q).1
  refine sp_noRun hy (fun hr => ⟨fun _ => ?_, fun q => absurd rfl q⟩) (fun y' m => ⟨fun q => absurd q (by decide), fun _ => no y' m⟩)
  obtain ⟨cp, ⟨a1, a2, a3, a4, a5⟩, rt⟩ := RS_of qy hr
  have av : ∀ i : Int32, 0 ≤ i.toInt → i.toInt < (y.1 0 96).toInt → vp_in i 400 ∧ aA y i.toNatClampNeg := fun i i0 i1 => ⟨by rw [vp_in_iff]; omega, a4 _ (by have := cl_i i0; omega)⟩
  have p90 : MT G (D + 3) z_race 90 [(0, vr 0)] [] y (ri F) := sg_race_90 (sp_ref 1 2 hy (by decide) (fun q => absurd q (by decide)) (fun _ y' m => no y' m))
  have p19 : ∀ (n : Nat) (s b : Int32), 0 ≤ b.toInt → (y.1 0 96).toInt - b.toInt ≤ n → MT G (D + 3) z_race 19 [(0, vr 0), (1, vi i), (2, vi w), (3, vi s), (4, vi b)] [] y (ri F) := by
    intro n
    induction n with
    | zero =>
      intro s b b0 hn
      exact sg_race_19 _ _ _ _ ⟨fun _ => p90, fun c => absurd (t_le.mpr (by omega)) c⟩
    | succ n ih =>
      intro s b b0 hn
      refine sg_race_19 _ _ _ _ ⟨fun _ => p90, fun c => ?_⟩
      rw [t_le] at c
      have bi' : (b + 1).toInt = b.toInt + 1 := by rw [t_add (by omega) (by omega), k1]
      have p40 : ∀ (m : Nat) (s k : Int32), 0 ≤ k.toInt → b.toInt - k.toInt ≤ m → MT G (D + 3) z_race 40 [(0, vr 0), (1, vi i), (2, vi w), (3, vi s), (4, vi b), (5, vi k)] [] y (ri F) := by
        intro m
        induction m with
        | zero =>
          intro s k k0' hm
          exact sg_race_40 _ _ _ _ _ ⟨fun _ => ih _ _ (by omega) (by omega), fun c => absurd (t_le.mpr (by omega)) c⟩
        | succ m ihm =>
          intro s k k0' hm
          refine sg_race_40 _ _ _ _ _ ⟨fun _ => ih _ _ (by omega) (by omega), fun c2 => ?_⟩
          rw [t_le] at c2
          have ki : (k + 1).toInt = k.toInt + 1 := by rw [t_add (by omega) (by omega), k1]
          exact sp_isRace _ _ (av k k0' (by omega)).1 (av b b0 (by omega)).1 (av k k0' (by omega)).2 (fun r => ⟨fun _ => ihm _ _ (by omega) (by omega), fun _ => ⟨fun _ => ihm _ _ (by omega) (by omega), fun _ => ⟨fun _ => ok _, fun _ => ok _⟩⟩⟩)
      exact sp_in _ _ _ ⟨fun _ => p90, fun _ => p40 b.toInt.toNat s 0 (by decide) (by rw [k0]; omega)⟩
  exact p19 400 0 0 (by decide) (by rw [k0]; omega)
theorem sp_choiceq9 (q : MI z) (i w : Int32) (hD : 4 ≤ D) (h : ∀ r z', PMq9 z z' → F r z') : MT G D z_choice 0 [(0, vr 0), (1, vi i), (2, vi w)] [] z (ri F) := by
  obtain ⟨D, rfl⟩ : ∃ D', D = D' + 2 := ⟨D - 2, by omega⟩
  refine sg_choice_0 _ _ (fun y e => ?_)
  have hy := z0_s e
  have no : ∀ y', mi [0] [] z y' → ri F (some (vi 0)) y' := fun y' m => ri_i (h 0 y' (MI_0q9 m q))
  have ok : ∀ r, ri F (some (vi r)) y := fun r => ri_i (h r y (MI_0q9 hy.1 q))
  have qy := (MI_0q9 hy.1 q).1
  refine sp_noRun hy (fun hr => ⟨fun q => absurd rfl q, fun _ => ?_⟩) (fun y' m => ⟨fun _ => no y' m, fun q => absurd q (by decide)⟩)
  obtain ⟨hc, s, n, q1, q2, q3, q4, q5, q6, q7⟩ := qy.2.2.1 hr
  have av := q2 n (Nat.le_refl _)
  have e84 : y.1 0 84 = (s n).1 0 84 := q4 0 84 (Or.inr (Or.inl ⟨rfl, rfl⟩))
  have c0 := av.2.2.2.1
  have c84 := av.2.2.2.2.1
  have p41 : ∀ b : Int32, (b = 0 → 0 ≤ i.toInt ∧ i.toInt < (y.1 0 84).toInt) → MT G (D + 2) z_choice 41 [(0, vr 0), (1, vi i), (2, vi w)] [vi b, vr 0] y (ri F) := by
    intro b hb
    refine sg_choice_41 _ _ _ (sp_ref b 2 hy (by decide) (fun b0 => ⟨fun _ => ?_, fun q => absurd rfl q⟩) (fun _ y' m => ⟨fun q => absurd q (by decide), fun _ => no y' m⟩))
    have hi := hb b0
    rw [e84] at hi
    have ci := cl_i hi.1
    have iv : vp_in i 200 := by rw [vp_in_iff]; omega
    obtain ⟨u86, u87, u88, ⟨t0, t6⟩, co⟩ := av.2.2.1 i.toNatClampNeg (by omega)
    have e86 := q4 _ _ (Or.inr u86)
    have e87 := q4 _ _ (Or.inr u87)
    rw [e86, e87]
    have tv : vp_in ((s n).1 86 i.toNatClampNeg) 6 := by rw [vp_in_iff]; exact ⟨t0, t6⟩
    have r := (av.1.2 _ (vt tv))
    have a74 : vp_in (y.1 74 ((s n).1 86 i.toNatClampNeg).toNatClampNeg) 1500 := by
      rw [cA q4 (c := 74) (n := 6) (by decide) (vt tv), vp_in_iff]
      exact ⟨r.1.1, r.1.2.1⟩
    refine ⟨iv, iv, fun _ => ⟨fun c => ⟨fun _ => ⟨fun _ => ⟨fun _ => ⟨iv, ok _⟩, fun _ => sp_sortOf _ tv a74 (ok _)⟩, fun _ => ok _⟩, fun _ => ?_⟩, fun c => ⟨fun _ => ok _, fun _ => ⟨fun _ => ⟨fun _ => ok _, fun _ => ⟨?_, ok _⟩⟩, fun _ => ok _⟩⟩⟩, fun _ => ok _⟩
    · have g := co.resolve_right (fun w => by rw [c] at w; exact absurd w.1 (by decide))
      refine sp_lookAt av q4 _ tv g.2.1 (by omega) (fun y' x' e' m' _ _ _ => ri_i (h _ y' ?_))
      have mm := mi_of m'
      have hist : Hist y' := ⟨s, n, by rw [mm.1 94 (by decide)]; exact q1, q2, by rw [mm.2 96 (by decide) (by decide)]; exact q3, e', by rw [mm.1 68 (by decide)]; exact St_pr (prE_mi (prE_rf y) mm rfl rfl) q5, by unfold wy01; rw [mm.1 68 (by decide)]; exact q6, HA_mi mm rfl rfl q7⟩
      have p := MI_newq9 mm rfl rfl hc hist qy
      exact PM_0q9 hy.1 p
    · have g := co.resolve_left (fun w => c w.1)
      have r8 := r.2.2.2.1
      exact (t10 tv (i := (s n).1 87 i.toNatClampNeg) g.1 (by omega)).1
  exact sp_in _ _ _ ⟨fun _ => p41 1 (fun q => absurd q (by decide)), fun c1 => sp_in _ _ _ ⟨fun _ => p41 0 (fun _ => in_lt (bi_ne.mp c1) (by rw [e84]; exact c0)), fun _ => p41 1 (fun q => absurd q (by decide))⟩⟩
end RDS

section TCA
variable {G : mG} {d D : Nat} {x z a : gd} {F : Int32 → gd → Prop} {Fv : gd → Prop}
theorem sp_attemptq9 (q : MI z) (w l : Int32) (hD : 8 ≤ D) (h : ∀ r z', PMq9 z z' → F r z') : MT G D z_attempt 0 [(0, vr 0), (1, vi w), (2, vi l)] [] z (ri F) := by
  obtain ⟨D, rfl⟩ : ∃ D', D = D' + 1 := ⟨D - 1, by omega⟩
  have k0 : (0 : Int32).toInt = 0 := rfl
  have k1 : (1 : Int32).toInt = 1 := rfl
  have k3 : (3000 : Int32).toInt = 3000 := rfl
  have z0' : (0 : Int32).toNatClampNeg = 0 := rfl
  refine sg_attempt_0 _ _ (fun y e => ?_)
  have hy := z0_s e
  have no : ∀ y', mi [0] [] z y' → ri F (some (vi 0)) y' := fun y' m => ri_i (h 0 y' (MI_0q9 m q))
  have qy := (MI_0q9 hy.1 q).1
  have y2 : y.1 0 2 = z.1 0 2 := hy.1.1 2 (by decide)
  have p51 : ¬ y.1 0 66 = 0 → ∀ b : Int32, (b = 0 → (vp_in w 2 ∧ (w = 0 ∨ w = 1)) ∧ 1 ≤ l.toInt ∧ l.toInt ≤ 3000) → MT G (D + 1) z_attempt 51 [(0, vr 0), (1, vi w), (2, vi l)] [vi b, vr 0] y (ri F) := by
    intro hc b hb
    refine sg_attempt_51 _ _ _ (sp_ref b 2 hy (by decide) (fun b0 => ⟨fun _ => ?_, fun q => absurd rfl q⟩) (fun _ y' m => ⟨fun q => absurd q (by decide), fun _ => no y' m⟩))
    obtain ⟨⟨wv, w01⟩, l1, l3⟩ := hb b0
    obtain ⟨W, eW⟩ : ∃ W, W = w.toNatClampNeg := ⟨_, rfl⟩
    have W2 : W < 2 := by rw [eW]; exact vp_lt wv
    have cp := qy.2.1 hc
    -- the trying itself; u: behind the state kept
    have p81 : ∀ u : gd, mi [136] [136] y u → (¬ y.1 0 67 = 0 → ∀ i : Nat, i < 222 → u.1 136 i = pv y i) → MT G (D + 1) z_attempt 81 [(0, vr 0), (1, vi w), (2, vi l), (3, vi (y.1 0 68))] [] u (ri F) := by
      intro u mu ru
      refine sg_attempt_81 _ _ _ (fun u1 e1 => ?_)
      have m1 := md_f u 68 w
      rw [← e1] at m1
      have h1 : u1.1 0 68 = w := by rw [e1, si_get, if_pos ⟨rfl, rfl⟩]
      have myu1 : mi [68, 136] [136] y u1 := mi_tr mu (mi_of m1) rfl rfl
      refine sp_tryAll w l wv (CP_mi myu1 rfl rfl cp) h1 l1 l3 (by omega) (fun A M v hM ti => ⟨wv, fun v4 e4 v5 e5 => ?_⟩)
      rw [← eW] at ti e4
      have m4 := md_a v 119 W (vp_nar .boolean 1) (by decide)
      rw [← e4] at m4
      have m5 := md_f v4 68 (y.1 0 68)
      rw [← e5] at m5
      have h5 : v5.1 0 68 = y.1 0 68 := by rw [e5, si_get, if_pos ⟨rfl, rfl⟩]
      have mv5 : mi [68] [119] v v5 := mi_tr (mi_of m4) (mi_of m5) rfl rfl
      have my5 : mi (68 :: tL) (119 :: 136 :: tA') y v5 := mi_tr (mi_tr (L3 := 68 :: tL) (A3 := 136 :: tA') myu1 ti.1 rfl rfl) mv5 rfl rfl
      have pr5 : prE y v5 := prE_mi (prE_rf y) my5 rfl rfl
      have tyW : TY v5 W := TY_mi mv5 rfl rfl (TY_TI hM ti)
      have ow5 : ow W y v5 := ow_tr (ow_tr (ow_mi myu1 rfl) ti.2.1) (ow_mi mv5 rfl)
      have e119 : ∀ w' : Nat, ¬ w' = W → v5.1 119 w' = y.1 119 w' := fun w' hw' => by
        rw [m5.2.1 119 (by decide) (by decide), e4, si_ne 119 w' hw', ti.1.2 119 (by decide) (by decide), myu1.2 119 (by decide) (by decide)]
      have tys : ∀ w' : Nat, w' < 2 → ¬ v5.1 119 w' = 0 → ¬ v5.1 0 66 = 0 ∧ TY v5 w' := by
        intro w' hw' hn
        refine ⟨by rw [my5.1 66 (by decide)]; exact hc, ?_⟩
        by_cases q9 : w' = W
        · rw [q9]; exact tyW
        · rw [e119 w' q9] at hn
          exact TY_ow hw' q9 ow5 pr5 (qy.2.2.2 w' hw' hn).2
      have g5 : G0 v5 := G0_mi my5 rfl rfl qy.1
      have cp5 : CP v5 := CP_mi my5 rfl rfl cp
      refine ⟨fun n67 => ⟨wv, ri_i (h _ v5 (PM_0q9 hy.1 ⟨⟨g5, fun _ => cp5, fun q9 => absurd n67 q9, tys⟩, my5.1 2 (by decide), fun k hk => my5.1 k (all_no (M := mfL) rfl k hk), fun c hc => my5.2 c (mfA_0q9 c hc) (all_no (M := mfAq9) rfl c hc)⟩))⟩, fun h67 => ?_⟩
      rw [my5.1 67 (by decide)] at h67
      obtain ⟨_, s, n, q1, q2, q3, q4, q5, q6, q7⟩ := qy.2.2.1 h67
      have av := q2 n (Nat.le_refl _)
      have el : eqS (Sl (s n)) (s n) y := eqS_w (Sl_Sm _) q4
      have r136 : ∀ i : Nat, i < 222 → v5.1 136 (0 + i) = pv (s n) i := fun i hi => by
        rw [Nat.zero_add, m5.2.1 136 (by decide) (by decide), m4.2.1 136 (by decide) (by decide), ti.1.2 136 (by decide) (by decide), m1.2.1 136 (by decide) (by decide), ru h67 i hi]
        exact pv_eq el hi
      refine sp_unpack (Or.inr rfl) mk_136 ml_136 0 (by decide) (by decide) (by decide) (fun v8 m8 r8 => ?_)
      rw [z0'] at r8
      have e8 : eqS (Sl (s n)) (s n) v8 := by
        refine un_eq ?_ ?_ (fun t ht => (av.1.2 t ht).2.2.2.1) (fun i hi => by rw [r8 i hi, r136 i hi])
        · exact prE_tr (prE_eqS el) (prE_mi pr5 (mi_of m8) rfl rfl)
        · rw [m8.1 68 (by decide), h5, cF el (by decide)]
      refine MT_up (by omega) (MTv_mono (av.2.2.2.2.2 G v8 e8) (fun v9 g9 => ⟨wv, ri_i (h _ v9 ?_)⟩))
      have m59 : mi [82, 84, 88, 89, 90, 91, 92, 93] [70, 71, 72, 73, 74, 75, 76, 77, 78, 79, 80, 81, 82, 84, 86, 87, 88] v5 v9 := mi_tr (mi_of m8) (mi_of g9.2) rfl rfl
      have my9 : mi (68 :: tL) (119 :: 136 :: tA') y v9 := mi_tr my5 m59 rfl rfl
      have h9 : v9.1 0 68 = y.1 0 68 := by rw [m59.1 68 (by decide)]; exact h5
      have hist : Hist v9 := ⟨s, n, by rw [my9.1 94 (by decide)]; exact q1, q2, by rw [my9.2 96 (by decide) (by decide)]; exact q3, g9.1, by rw [h9]; exact St_pr (prE_mi (prE_rf y) my9 rfl rfl) q5, by unfold wy01; rw [h9]; exact q6, HA_mi my9 rfl rfl q7⟩
      refine PM_0q9 hy.1 ⟨⟨G0_mi my9 rfl rfl qy.1, fun _ => CP_mi my9 rfl rfl cp, fun _ => ⟨by rw [my9.1 66 (by decide)]; exact hc, hist⟩, fun w' hw' hn => ?_⟩, my9.1 2 (by decide), fun k hk => my9.1 k (all_no (M := mfL) rfl k hk), fun c hc => my9.2 c (mfA_0q9 c hc) (all_no (M := mfAq9) rfl c hc)⟩
      rw [m59.2 119 (by decide) (by decide)] at hn
      exact ⟨by rw [my9.1 66 (by decide)]; exact hc, TY_mi m59 rfl rfl (tys w' hw' hn).2⟩
    refine ⟨fun n67 => p81 y ⟨fun _ _ => rfl, fun _ _ _ => rfl⟩ (fun q => absurd n67 q), fun h67 => ?_⟩
    obtain ⟨_, s, n, q1, q2, q3, q4, q5, q6, q7⟩ := qy.2.2.1 h67
    refine sp_pack (Or.inr rfl) mk_136 ml_136 0 (by decide) (by decide) (by decide) (fun t ht => by rw [cA q4 (c := 80) (n := 6) (by decide) ht]; exact ((q2 n (Nat.le_refl _)).1.2 t ht).2.2.2.1) (fun u mu _ ru _ => p81 u (mi_of mu) (fun _ i hi => ?_))
    have := ru i hi
    rw [z0', Nat.zero_add] at this
    exact this
  have p18 : ∀ b : Int32, (b = 0 → ¬ y.1 0 66 = 0) → MT G (D + 1) z_attempt 18 [(0, vr 0), (1, vi w), (2, vi l)] [vi b, vr 0] y (ri F) := by
    intro b hb
    refine sg_attempt_18 _ _ _ (sp_ref b 1 hy (by decide) (fun b0 => ⟨fun q => absurd rfl q, fun _ => sp_in _ _ _ ⟨fun _ => p51 (hb b0) 1 (fun q => absurd q (by decide)), fun c1 => sp_in _ _ _ ⟨fun c2 => p51 (hb b0) 0 (fun _ => ⟨w_in (bi_ne.mp c1), ?_⟩), fun _ => p51 (hb b0) 1 (fun q => absurd q (by decide))⟩⟩⟩) (fun _ y' m => ⟨fun _ => no y' m, fun q => absurd q (by decide)⟩))
    obtain ⟨a1, a2⟩ := bi_ne.mp c2
    rw [t_le, k1] at a1
    rw [t_le, k3] at a2
    exact ⟨a1, a2⟩
  exact ⟨fun c => p18 0 (fun _ => c), fun _ => p18 1 (fun q => absurd q (by decide))⟩
theorem sp_triedq9 (q : MI z) (w v : Int32) (hD : 3 ≤ D) (h : ∀ r z', PMq9 z z' → F r z') : MT G D z_tried 0 [(0, vr 0), (1, vi w), (2, vi v)] [] z (ri F) := by
  obtain ⟨D, rfl⟩ : ∃ D', D = D' + 1 := ⟨D - 1, by omega⟩
  refine sg_tried_0 _ _ (fun y e => ?_)
  have hy := z0_s e
  have no : ∀ y', mi [0] [] z y' → ri F (some (vi 0)) y' := fun y' m => ri_i (h 0 y' (MI_0q9 m q))
  have ok : ∀ r, ri F (some (vi r)) y := fun r => ri_i (h r y (MI_0q9 hy.1 q))
  have p42 : vp_in w 2 → ∀ b : Int32, MT G (D + 1) z_tried 42 [(0, vr 0), (1, vi w), (2, vi v)] [vi b, vr 0] y (ri F) := fun wv b => sg_tried_42 _ _ _ (sp_ref b 2 hy (by decide) (fun _ => ⟨fun q => absurd rfl q, fun _ => ⟨wv, fun _ => ⟨fun _ => ⟨fun _ => ⟨fun _ => ⟨fun _ => ⟨fun _ => ⟨wv, ok _⟩, fun _ => ⟨wv, ok _⟩⟩, fun _ => ⟨wv, ok _⟩⟩, fun _ => ⟨wv, ok _⟩⟩, fun _ => ⟨wv, sp_one _ (fun r => ok r)⟩⟩, fun _ => ⟨wv, ok _⟩⟩, fun _ => ok _⟩⟩) (fun _ y' m => ⟨fun _ => no y' m, fun q => absurd q (by decide)⟩))
  have p20 : ∀ b : Int32, (b = 0 → vp_in w 2) → MT G (D + 1) z_tried 20 [(0, vr 0), (1, vi w), (2, vi v)] [vi b, vr 0] y (ri F) := fun b hb => sg_tried_20 _ _ _ (sp_ref b 1 hy (by decide) (fun b0 => ⟨fun q => absurd rfl q, fun _ => sp_in _ _ _ ⟨fun _ => p42 (hb b0) _, fun _ => p42 (hb b0) _⟩⟩) (fun _ y' m => ⟨fun _ => no y' m, fun q => absurd q (by decide)⟩))
  exact sp_in _ _ _ ⟨fun c => p20 0 (fun _ => (w_in (bi_ne.mp c)).1), fun _ => p20 1 (fun q => absurd q (by decide))⟩
theorem sp_outcomeq9 (q : MI z) (w i c : Int32) (hD : 3 ≤ D) (h : ∀ r z', PMq9 z z' → F r z') : MT G D z_outcome 0 [(0, vr 0), (1, vi w), (2, vi i), (3, vi c)] [] z (ri F) := by
  obtain ⟨D, rfl⟩ : ∃ D', D = D' + 1 := ⟨D - 1, by omega⟩
  refine sg_outcome_0 _ _ _ (fun y e => ?_)
  have hy := z0_s e
  have no : ∀ y', mi [0] [] z y' → ri F (some (vi 0)) y' := fun y' m => ri_i (h 0 y' (MI_0q9 m q))
  have ok : ∀ r, ri F (some (vi r)) y := fun r => ri_i (h r y (MI_0q9 hy.1 q))
  have qy := (MI_0q9 hy.1 q).1
  have p72 : ∀ b : Int32, (b = 0 → vp_in w 2 ∧ (0 ≤ i.toInt ∧ i.toInt < 3000) ∧ 0 ≤ c.toInt ∧ c.toInt < 24) → MT G (D + 1) z_outcome 72 [(0, vr 0), (1, vi w), (2, vi i), (3, vi c)] [vi b, vr 0] y (ri F) := fun b hb => sg_outcome_72 _ _ _ _ (sp_ref b 2 hy (by decide) (fun b0 => ⟨fun _ => ⟨t72 (hb b0).1 (hb b0).2.1.1 (hb b0).2.1.2 (hb b0).2.2.1 (hb b0).2.2.2, ok _⟩, fun q => absurd rfl q⟩) (fun _ y' m => ⟨fun q => absurd q (by decide), fun _ => no y' m⟩))
  have p20 : ∀ b : Int32, (b = 0 → vp_in w 2) → MT G (D + 1) z_outcome 20 [(0, vr 0), (1, vi w), (2, vi i), (3, vi c)] [vi b, vr 0] y (ri F) := by
    intro b hb
    refine sg_outcome_20 _ _ _ _ (sp_ref b 1 hy (by decide) (fun b0 => ⟨fun q => absurd rfl q, fun _ => ?_⟩) (fun _ y' m => ⟨fun _ => no y' m, fun q => absurd q (by decide)⟩))
    have wv := hb b0
    refine ⟨wv, fun _ => p72 1 (fun q => absurd q (by decide)), fun tr => ⟨wv, ?_⟩⟩
    obtain ⟨hc, A, t1, t2, t3, t4, t5, _⟩ := qy.2.2.2 _ (vp_lt wv) tr
    have g := (qy.2.1 hc).1
    refine sp_in _ _ _ ⟨fun _ => p72 1 (fun q => absurd q (by decide)), fun c1 => sp_in _ _ _ ⟨fun c2 => p72 0 (fun _ => ?_), fun _ => p72 1 (fun q => absurd q (by decide))⟩⟩
    have a1 := in_lt (bi_ne.mp c1) t4
    have a2 := in_lt (bi_ne.mp c2) g.1
    have g2 := g.2.1
    exact ⟨wv, ⟨a1.1, by omega⟩, a2.1, by omega⟩
  exact sp_in _ _ _ ⟨fun cc => p20 0 (fun _ => (w_in (bi_ne.mp cc)).1), fun _ => p20 1 (fun q => absurd q (by decide))⟩
theorem sp_findingq9 (q : MI z) (w f : Int32) (hD : 3 ≤ D) (h : ∀ r z', PMq9 z z' → F r z') : MT G D z_finding 0 [(0, vr 0), (1, vi w), (2, vi f)] [] z (ri F) := by
  obtain ⟨D, rfl⟩ : ∃ D', D = D' + 1 := ⟨D - 1, by omega⟩
  refine sg_finding_0 _ _ (fun y e => ?_)
  have hy := z0_s e
  have no : ∀ y', mi [0] [] z y' → ri F (some (vi 0)) y' := fun y' m => ri_i (h 0 y' (MI_0q9 m q))
  have ok : ∀ r, ri F (some (vi r)) y := fun r => ri_i (h r y (MI_0q9 hy.1 q))
  have qy := (MI_0q9 hy.1 q).1
  have p63 : vp_in w 2 → ∀ s : Int32, (s = -1 ∨ (0 ≤ s.toInt ∧ s.toInt < 3000)) → MT G (D + 1) z_finding 63 [(0, vr 0), (1, vi w)] [vi s] y (ri F) := fun wv s hs => sg_finding_63 _ _ ⟨fun ne => ⟨(tmul (k := 3000) (K := 3000) (N := 6000) (n := 3000) rfl wv (hs.resolve_left ne).1 (hs.resolve_left ne).2 (by omega) (by omega) (by omega)).1, ok _⟩, fun _ => ok _⟩
  have p30 : ∀ b : Int32, (b = 0 → vp_in w 2 ∧ 0 ≤ f.toInt ∧ f.toInt < 11) → MT G (D + 1) z_finding 30 [(0, vr 0), (1, vi w), (2, vi f)] [vi b, vr 0] y (ri F) := by
    intro b hb
    refine sg_finding_30 _ _ _ (sp_ref b 1 hy (by decide) (fun b0 => ⟨fun _ => ?_, fun q => absurd rfl q⟩) (fun _ y' m => ⟨fun q => absurd q (by decide), fun _ => no y' m⟩))
    obtain ⟨wv, f0, f1⟩ := hb b0
    obtain ⟨fv, fe⟩ := t11 wv f0 f1
    refine ⟨wv, fun _ => p63 wv _ (Or.inl rfl), fun tr => ⟨fv, p63 wv _ ?_⟩⟩
    obtain ⟨hc, A, t1, t2, t3, t4, t5, t6, t7⟩ := qy.2.2.2 _ (vp_lt wv) tr
    rw [fe]
    exact (t7 f.toNatClampNeg (by have := cl_i f0; omega)).imp id (fun w => by omega)
  exact sp_in _ _ _ ⟨fun _ => p30 1 (fun q => absurd q (by decide)), fun c1 => sp_in _ _ _ ⟨fun c2 => p30 0 (fun _ => ⟨(w_in (bi_ne.mp c1)).1, f_in (bi_ne.mp c2)⟩), fun _ => p30 1 (fun q => absurd q (by decide))⟩⟩
theorem sp_commonq9 (q : MI z) (w c : Int32) (hD : 3 ≤ D) (h : ∀ r z', PMq9 z z' → F r z') : MT G D z_common 0 [(0, vr 0), (1, vi w), (2, vi c)] [] z (ri F) := by
  obtain ⟨D, rfl⟩ : ∃ D', D = D' + 1 := ⟨D - 1, by omega⟩
  have k0 : (0 : Int32).toInt = 0 := rfl
  refine sg_common_0 _ _ (fun y e => ?_)
  have hy := z0_s e
  have no : ∀ y', mi [0] [] z y' → ri F (some (vi 0)) y' := fun y' m => ri_i (h 0 y' (MI_0q9 m q))
  have ok : ∀ r, ri F (some (vi r)) y := fun r => ri_i (h r y (MI_0q9 hy.1 q))
  have qy := (MI_0q9 hy.1 q).1
  have p47 : vp_in w 2 → ∀ b : Int32, (b = 0 → (0 : Int32) ≤ c ∧ c ≤ y.1 0 23 - 1) → MT G (D + 1) z_common 47 [(0, vr 0), (1, vi w), (2, vi c)] [vi b, vr 0] y (ri F) := by
    intro wv b hb
    refine sg_common_47 _ _ _ (sp_ref b 2 hy (by decide) (fun b0 => ⟨fun _ => ⟨wv, fun _ => ok _, fun tr => ⟨?_, ok _⟩⟩, fun q => absurd rfl q⟩) (fun _ y' m => ⟨fun q => absurd q (by decide), fun _ => no y' m⟩))
    obtain ⟨hc, _⟩ := qy.2.2.2 _ (vp_lt wv) tr
    have g := (qy.2.1 hc).1
    have a2 := in_lt (hb b0) g.1
    have g2 := g.2.1
    exact (tmul (k := 24) (K := 24) (N := 48) (n := 24) rfl wv a2.1 (by omega) (by omega) (by omega) (by omega)).1
  have p20 : ∀ b : Int32, (b = 0 → vp_in w 2) → MT G (D + 1) z_common 20 [(0, vr 0), (1, vi w), (2, vi c)] [vi b, vr 0] y (ri F) := fun b hb => sg_common_20 _ _ _ (sp_ref b 1 hy (by decide) (fun b0 => ⟨fun q => absurd rfl q, fun _ => sp_in _ _ _ ⟨fun c2 => p47 (hb b0) 0 (fun _ => bi_ne.mp c2), fun _ => p47 (hb b0) 1 (fun q => absurd q (by decide))⟩⟩) (fun _ y' m => ⟨fun _ => no y' m, fun q => absurd q (by decide)⟩))
  exact sp_in _ _ _ ⟨fun cc => p20 0 (fun _ => (w_in (bi_ne.mp cc)).1), fun _ => p20 1 (fun q => absurd q (by decide))⟩
theorem sp_alikeq9 (q : MI z) (h : ∀ r z', PMq9 z z' → F r z') : MT G d z_alike 0 [(0, vr 0)] [] z (ri F) := by
  have k0 : (0 : Int32).toInt = 0 := rfl
  have k1 : (1 : Int32).toInt = 1 := rfl
  have k24 : (24 : Int32).toInt = 24 := rfl
  have k72 : (72000 : Int32).toInt = 72000 := rfl
  have z0' : (0 : Int32).toNatClampNeg = 0 := rfl
  have v0 : vp_in 0 2 := vp_in_iff.mpr (by decide)
  have v1 : vp_in 1 2 := vp_in_iff.mpr (by decide)
  refine sg_alike_0 (fun y e => ?_)
  have hy := z0_s e
  have ok : ∀ r, ri F (some (vi r)) y := fun r => ri_i (h r y (MI_0q9 hy.1 q))
  have qy := (MI_0q9 hy.1 q).1
  refine ⟨v0, fun _ => ok _, fun tr => ⟨v1, fun _ => ok _, fun _ => ⟨v0, fun _ => ok _, fun _ => ⟨v1, fun _ => ⟨v0, v1, fun _ => ?_, fun _ => ok _⟩, fun _ => ok _⟩⟩⟩⟩
  obtain ⟨hc, A, t1, t2, t3, t4, t5, _⟩ := qy.2.2.2 _ (vp_lt v0) tr
  obtain ⟨O, eO⟩ : ∃ O, O = y.1 123 (0 : Int32).toNatClampNeg := ⟨_, rfl⟩
  rw [← eO] at t4 t5
  have bO : (24 * O).toInt = 24 * O.toInt := by rw [t_mul (by rw [k24]; omega) (by rw [k24]; omega), k24]
  have loop : ∀ (n : Nat) (i : Int32), 0 ≤ i.toInt → 72000 - i.toInt ≤ n → MT G d z_alike 62 [(0, vr 0), (1, vi i)] [] y (ri F) := by
    intro n
    induction n with
    | zero =>
      intro i i0 hn
      refine sg_alike_62 _ ⟨v0, ?_⟩
      rw [← eO]
      exact ⟨fun _ => ok _, fun c => absurd (t_le.mpr (by omega)) c⟩
    | succ n ih =>
      intro i i0 hn
      refine sg_alike_62 _ ⟨v0, ?_⟩
      rw [← eO]
      refine ⟨fun _ => ok _, fun c => ?_⟩
      rw [t_le, bO] at c
      have ii : (i + 1).toInt = i.toInt + 1 := by rw [t_add (by omega) (by omega), k1]
      exact ⟨by rw [vp_in_iff]; omega, by rw [vp_in_iff, t_add (by omega) (by omega), k72]; omega, fun _ => ih _ (by omega) (by omega), fun _ => ok _⟩
  exact loop 72000 0 (by decide) (by decide)
theorem sp_ringq9 (q : MI z) (w : Int32) (hD : 3 ≤ D) (h : ∀ r z', PMq9 z z' → F r z') : MT G D z_ring 0 [(0, vr 0), (1, vi w)] [] z (ri F) := by
  obtain ⟨D, rfl⟩ : ∃ D', D = D' + 1 := ⟨D - 1, by omega⟩
  have k0 : (0 : Int32).toInt = 0 := rfl
  have k1 : (1 : Int32).toInt = 1 := rfl
  have k6 : (6 : Int32).toInt = 6 := rfl
  have k36 : (36 : Int32).toInt = 36 := rfl
  refine sg_ring_0 _ (fun y e => ?_)
  have hy := z0_s e
  have no : ∀ y', mi [0] [] z y' → ri F (some (vi 0)) y' := fun y' m => ri_i (h 0 y' (MI_0q9 m q))
  have qy := (MI_0q9 hy.1 q).1
  have p20 : ∀ b : Int32, (b = 0 → vp_in w 2) → MT G (D + 1) z_ring 20 [(0, vr 0), (1, vi w)] [vi b, vr 0] y (ri F) := by
    intro b hb
    refine sg_ring_20 _ _ (sp_ref b 1 hy (by decide) (fun b0 => ⟨fun q => absurd rfl q, fun _ => ⟨hb b0, fun tr => ?_, fun _ => no y hy.1⟩⟩) (fun _ y' m => ⟨fun _ => no y' m, fun q => absurd q (by decide)⟩))
    have wv := hb b0
    have wb := vp_in_iff.mp wv
    obtain ⟨hc, _⟩ := qy.2.2.2 _ (vp_lt wv) tr
    have g := (qy.2.1 hc).1
    have g6 := g.2.2.2.1
    have g60 := g.2.2.1
    obtain ⟨N, eN⟩ : ∃ N, N = y.1 0 24 := ⟨_, rfl⟩
    rw [← eN] at g6 g60
    have fin : ∀ (u : gd) (r : Int32), mi [] [139] y u → ri F (some (vi r)) u := fun u r mu => ri_i (h r u (by
      have p := PM_miq9 mu rfl rfl qy
      exact PM_0q9 hy.1 p))
    have f24 : ∀ u : gd, mi [] [139] y u → u.1 0 24 = N := fun u mu => by rw [mu.1 24 (by decide), eN]
    have st : ∀ (u u2 : gd) (j : Nat) (v : Int32), mi [] [139] y u → u2 = si u 139 j v → mi [] [139] y u2 := fun u u2 j v mu e2 => by
      have m := md_a u 139 j v (by decide)
      rw [← e2] at m
      exact mi_tr mu (mi_of m) rfl rfl
    have p42 : ∀ (n : Nat) (u : gd) (r l : Int32), mi [] [139] y u → 0 ≤ l.toInt → N.toInt - l.toInt ≤ n → MT G (D + 1) z_ring 42 [(0, vr 0), (1, vi w), (2, vi r), (3, vi l)] [] u (ri F) := by
      intro n
      induction n with
      | zero =>
        intro u r l mu l0 hn
        exact sg_ring_42 _ _ _ ⟨fun _ => fin u r mu, fun c => absurd (t_le.mpr (by rw [f24 u mu]; omega)) c⟩
      | succ n ih =>
        intro u r l mu l0 hn
        refine sg_ring_42 _ _ _ ⟨fun _ => fin u r mu, fun c => ?_⟩
        rw [t_le, f24 u mu] at c
        have lv : vp_in l 6 := by rw [vp_in_iff]; omega
        have li : (l + 1).toInt = l.toInt + 1 := by rw [t_add (by omega) (by omega), k1]
        have p79 : ∀ (m : Nat) (u : gd) (k : Int32), mi [] [139] y u → 1 ≤ k.toInt → N.toInt + 1 - k.toInt ≤ m → MT G (D + 1) z_ring 79 [(0, vr 0), (1, vi w), (2, vi r), (3, vi l), (4, vi k)] [] u (ri F) := by
          have last : ∀ u : gd, mi [] [139] y u → vp_in l 6 ∧ (((u.1 139 l.toNatClampNeg) ≤ (0 : Int32) → MT G (D + 1) z_ring 42 [(0, vr 0), (1, vi w), (2, vi r), (3, vi (l + 1))] [] u (ri F)) ∧ (¬ ((u.1 139 l.toNatClampNeg) ≤ (0 : Int32)) → ((r = (0 : Int32) → vp_in l 6 ∧ MT G (D + 1) z_ring 42 [(0, vr 0), (1, vi w), (2, vi (u.1 139 l.toNatClampNeg)), (3, vi (l + 1))] [] u (ri F)) ∧ (¬ (r = (0 : Int32)) → vp_in l 6 ∧ ((r ≤ (u.1 139 l.toNatClampNeg) → MT G (D + 1) z_ring 42 [(0, vr 0), (1, vi w), (2, vi r), (3, vi (l + 1))] [] u (ri F)) ∧ (¬ (r ≤ (u.1 139 l.toNatClampNeg)) → vp_in l 6 ∧ MT G (D + 1) z_ring 42 [(0, vr 0), (1, vi w), (2, vi (u.1 139 l.toNatClampNeg)), (3, vi (l + 1))] [] u (ri F))))))) := by
            intro u mu
            have nx : ∀ r : Int32, MT G (D + 1) z_ring 42 [(0, vr 0), (1, vi w), (2, vi r), (3, vi (l + 1))] [] u (ri F) := fun r => ih u r (l + 1) mu (by omega) (by omega)
            exact ⟨lv, fun _ => nx _, fun _ => ⟨fun _ => ⟨lv, nx _⟩, fun _ => ⟨lv, fun _ => nx _, fun _ => ⟨lv, nx _⟩⟩⟩⟩
          intro m
          induction m with
          | zero =>
            intro u k mu k1' hm
            exact sg_ring_79 _ _ _ _ ⟨fun _ => last u mu, fun q => absurd (t_lt.mpr (by rw [f24 u mu]; omega)) q⟩
          | succ m ihm =>
            intro u k mu k1' hm
            refine sg_ring_79 _ _ _ _ ⟨fun _ => last u mu, fun q => ?_⟩
            rw [t_lt, f24 u mu] at q
            have ki : (k + 1).toInt = k.toInt + 1 := by rw [t_add (by omega) (by omega), k1]
            have p91 : ∀ (p : Nat) (u : gd) (i : Int32), mi [] [139] y u → 0 ≤ i.toInt → N.toInt - i.toInt ≤ p → MT G (D + 1) z_ring 91 [(0, vr 0), (1, vi w), (2, vi r), (3, vi l), (4, vi k), (5, vi i)] [] u (ri F) := by
              intro p
              induction p with
              | zero =>
                intro u i mu i0 hp
                exact sg_ring_91 _ _ _ _ _ ⟨fun _ => ihm u (k + 1) mu (by omega) (by omega), fun q => absurd (t_le.mpr (by rw [f24 u mu]; omega)) q⟩
              | succ p ihp =>
                intro u i mu i0 hp
                refine sg_ring_91 _ _ _ _ _ ⟨fun _ => ihm u (k + 1) mu (by omega) (by omega), fun q2 => ?_⟩
                rw [t_le, f24 u mu] at q2
                have iv : vp_in i 6 := by rw [vp_in_iff]; omega
                have ii : (i + 1).toInt = i.toInt + 1 := by rw [t_add (by omega) (by omega), k1]
                have p144 : ∀ (s : Nat) (u : gd) (v j : Int32), mi [] [139] y u → 0 ≤ j.toInt → N.toInt - j.toInt ≤ s → MT G (D + 1) z_ring 144 [(0, vr 0), (1, vi w), (2, vi r), (3, vi l), (4, vi k), (5, vi i), (6, vi v), (7, vi j)] [] u (ri F) := by
                  intro s
                  induction s with
                  | zero =>
                    intro u v j mu j0 hs
                    exact sg_ring_144 _ _ _ _ _ _ _ ⟨fun _ => ihp u (i + 1) mu (by omega) (by omega), fun q => absurd (t_le.mpr (by rw [f24 u mu]; omega)) q⟩
                  | succ s ihs =>
                    intro u v j mu j0 hs
                    refine sg_ring_144 _ _ _ _ _ _ _ ⟨fun _ => ihp u (i + 1) mu (by omega) (by omega), fun q3 => ⟨fun _ => ihp u (i + 1) mu (by omega) (by omega), fun _ => ?_⟩⟩
                    rw [t_le, f24 u mu] at q3
                    have jv : vp_in j 6 := by rw [vp_in_iff]; omega
                    have ji : (j + 1).toInt = j.toInt + 1 := by rw [t_add (by omega) (by omega), k1]
                    have a1 : (36 * w).toInt = 36 * w.toInt := by rw [t_mul (by rw [k36]; omega) (by rw [k36]; omega), k36]
                    have a2 : (6 * i).toInt = 6 * i.toInt := by rw [t_mul (by rw [k6]; omega) (by rw [k6]; omega), k6]
                    have a3 : (36 * w + 6 * i).toInt = 36 * w.toInt + 6 * i.toInt := by rw [t_add (by omega) (by omega), a1, a2]
                    refine ⟨by rw [vp_in_iff, t_add (by omega) (by omega), a3]; omega, fun _ => ihs u v (j + 1) mu (by omega) (by omega), fun _ => ⟨jv, fun _ => ihs u v (j + 1) mu (by omega) (by omega), fun _ => ⟨jv, fun u8 e8 => ihs u8 v (j + 1) (st u u8 _ _ mu e8) (by omega) (by omega)⟩⟩⟩
                have go : ∀ v : Int32, MT G (D + 1) z_ring 144 [(0, vr 0), (1, vi w), (2, vi r), (3, vi l), (4, vi k), (5, vi i), (6, vi v), (7, vi 0)] [] u (ri F) := fun v => p144 6 u v 0 mu (by decide) (by rw [k0]; omega)
                exact ⟨fun _ => ⟨iv, fun _ => go _, fun _ => go _⟩, fun _ => ⟨fun _ => go _, fun _ => go _⟩⟩
            exact p91 6 u 0 mu (by decide) (by rw [k0]; omega)
        have p53 : ∀ (m : Nat) (u : gd) (k : Int32), mi [] [139] y u → 0 ≤ k.toInt → N.toInt - k.toInt ≤ m → MT G (D + 1) z_ring 53 [(0, vr 0), (1, vi w), (2, vi r), (3, vi l), (4, vi k)] [] u (ri F) := by
          intro m
          induction m with
          | zero =>
            intro u k mu k0' hm
            exact sg_ring_53 _ _ _ _ ⟨fun _ => p79 6 u 1 mu (by decide) (by rw [k1]; omega), fun q => absurd (t_le.mpr (by rw [f24 u mu]; omega)) q⟩
          | succ m ihm =>
            intro u k mu k0' hm
            refine sg_ring_53 _ _ _ _ ⟨fun _ => p79 6 u 1 mu (by decide) (by rw [k1]; omega), fun q => ?_⟩
            rw [t_le, f24 u mu] at q
            have ki : (k + 1).toInt = k.toInt + 1 := by rw [t_add (by omega) (by omega), k1]
            exact ⟨by rw [vp_in_iff]; omega, fun u3 e3 => ihm u3 (k + 1) (st u u3 _ _ mu e3) (by omega) (by omega)⟩
        exact p53 6 u 0 mu (by decide) (by rw [k0]; omega)
    exact p42 6 y 0 0 ⟨fun _ _ => rfl, fun _ _ _ => rfl⟩ (by decide) (by rw [k0]; omega)
  exact sp_in _ _ _ ⟨fun cc => p20 0 (fun _ => (w_in (bi_ne.mp cc)).1), fun _ => p20 1 (fun q => absurd q (by decide))⟩
end TCA

section TSH
variable {G : mG} {d D : Nat} {x z a : gd} {F : Int32 → gd → Prop} {Fv : gd → Prop}
theorem sp_showq9 (q : MI z) (w f : Int32) (hD : 8 ≤ D) (h : ∀ r z', PMq9 z z' → F r z') : MT G D z_show 0 [(0, vr 0), (1, vi w), (2, vi f)] [] z (ri F) := by
  obtain ⟨D, rfl⟩ : ∃ D', D = D' + 1 := ⟨D - 1, by omega⟩
  have k0 : (0 : Int32).toInt = 0 := rfl
  have k1 : (1 : Int32).toInt = 1 := rfl
  have km1 : (-1 : Int32).toInt = -1 := rfl
  have k4 : (400 : Int32).toInt = 400 := rfl
  refine sg_show_0 _ _ (fun y e => ?_)
  have hy := z0_s e
  have no : ∀ y', mi [0] [] z y' → ri F (some (vi 0)) y' := fun y' m => ri_i (h 0 y' (MI_0q9 m q))
  have qy := (MI_0q9 hy.1 q).1
  have p75 : vp_in w 2 → (w = 0 ∨ w = 1) → ∀ s b : Int32, (b = 0 → ¬ y.1 119 w.toNatClampNeg = 0 ∧ 0 ≤ s.toInt ∧ s.toInt < (y.1 120 w.toNatClampNeg).toInt) → MT G (D + 1) z_show 75 [(0, vr 0), (1, vi w), (3, vi s)] [vi b, vr 0] y (ri F) := by
    intro wv w01 s b hb
    refine sg_show_75 _ _ _ (sp_ref b 2 hy (by decide) (fun b0 => ⟨fun q => absurd rfl q, fun _ => ?_⟩) (fun _ y' m => ⟨fun _ => no y' m, fun q => absurd q (by decide)⟩))
    obtain ⟨tr, s0, s1⟩ := hb b0
    obtain ⟨W, eW⟩ : ∃ W, W = w.toNatClampNeg := ⟨_, rfl⟩
    have wW : w32 W = w := by
      rw [eW]
      rcases w01 with c | c
      · rw [c]; rfl
      · rw [c]; rfl
    obtain ⟨hc, A, t1, t2, t3, t4, t5, t6, t7⟩ := qy.2.2.2 _ (vp_lt wv) tr
    rw [← eW] at t1 t2 t3 t6 s1
    rw [wW] at t1
    have ix : ∀ c : Int32, 0 ≤ c.toInt → c.toInt < (y.1 120 W).toInt → vp_in (3000 * w + c) 6000 ∧ (3000 * w + c).toNatClampNeg = 3000 * W + c.toNatClampNeg := fun c c0 c1 => by
      rw [eW]
      exact tmul (k := 3000) (K := 3000) (N := 6000) (n := 3000) rfl wv c0 (by omega) (by omega) (by omega) (by omega)
    obtain ⟨sv, se⟩ := ix s s0 s1
    obtain ⟨N, eN⟩ : ∃ N, N = y.1 132 (3000 * w + s).toNatClampNeg := ⟨_, rfl⟩
    rw [← eN]
    have cs := cl_i s0
    have N0 : 0 ≤ N.toInt := by
      have := (t6 s.toNatClampNeg (by omega)).2.1
      rw [eN, se]
      exact this
    -- the run gone again
    have loop : N.toInt ≤ 400 → ∀ (av : Nat → gd) (p : Nat → Int32), (∀ k : Nat, (k : Int) ≤ N.toInt → AV (av k)) → (∀ k : Nat, (k : Int) < N.toInt → 0 ≤ (p k).toInt ∧ (p k).toInt < ((av k).1 0 84).toInt ∧ Lk (av k) (p k).toNatClampNeg (av (k + 1))) → av 0 = A 0 → ∀ (m : Nat) (u : gd) (i : Int32), 0 ≤ i.toInt → i.toInt ≤ N.toInt → N.toInt - i.toInt ≤ m → eqS (Sm (av i.toNatClampNeg)) (av i.toNatClampNeg) u → HA u → (u.1 0 94).toInt = i.toInt → (∀ k : Nat, (k : Int) < N.toInt → u.1 138 k = p k) → (∀ k : Nat, (k : Int) < i.toInt → u.1 96 k = p k) → u.1 0 68 = w → mi (67 :: 68 :: dL) (138 :: dA) y u → MT G (D + 1) z_show 186 [(0, vr 0), (4, vi N), (5, vi i)] [] u (ri F) := by
      intro N4 av p q2 q3 q0
      have end' : ∀ (u : gd) (i : Int32), 0 ≤ i.toInt → i.toInt ≤ N.toInt → eqS (Sm (av i.toNatClampNeg)) (av i.toNatClampNeg) u → HA u → (u.1 0 94).toInt = i.toInt → (∀ k : Nat, (k : Int) < i.toInt → u.1 96 k = p k) → u.1 0 68 = w → mi (67 :: 68 :: dL) (138 :: dA) y u → ri F (some (vi (u.1 0 94))) u := by
        intro u i i0 iN eu hu u94 u96 u68 mu
        have ci := cl_i i0
        have hist : Hist u := ⟨av, i.toNatClampNeg, by omega, fun k hk => q2 k (by omega), fun k hk => by rw [u96 k (by omega)]; exact q3 k (by omega), eu, by rw [u68, q0]; exact St_pr (prE_mi (prE_rf y) mu rfl rfl) t1, by unfold wy01; rw [u68]; exact w01, hu⟩
        refine ri_i (h _ u ?_)
        have p := MI_newq9 mu rfl rfl hc hist qy
        exact PM_0q9 hy.1 p
      intro m
      induction m with
      | zero =>
        intro u i i0 i1 hm eu hu u94 u138 u96 u68 mu
        exact sg_show_186 _ _ ⟨fun _ => end' u i i0 i1 eu hu u94 u96 u68 mu, fun c => absurd (t_le.mpr (by omega)) c⟩
      | succ m ih =>
        intro u i i0 i1 hm eu hu u94 u138 u96 u68 mu
        have ci := cl_i i0
        refine sg_show_186 _ _ ⟨fun _ => end' u i i0 i1 eu hu u94 u96 u68 mu, fun c => ?_⟩
        rw [t_le] at c
        refine ⟨by rw [vp_in_iff]; omega, ?_⟩
        rw [u138 _ (by omega)]
        obtain ⟨b1, b2, b3⟩ := q3 i.toNatClampNeg (by omega)
        have ii : (i + 1).toInt = i.toInt + 1 := by rw [t_add (by omega) (by omega), k1]
        have ci1 : (i + 1).toNatClampNeg = i.toNatClampNeg + 1 := by have := cl_i (a := i + 1) (by omega); omega
        refine sp_doChoice (q2 _ (by omega)) _ b1 b2 b3 eu hu (by omega) (by omega) (fun u' eu' hu' df => ?_)
        obtain ⟨mm, e94, e96, e96b⟩ := df
        have cu : (u.1 0 94).toNatClampNeg = i.toNatClampNeg := by have := cl_i (a := u.1 0 94) (by omega); omega
        rw [cu] at e96 e96b
        refine ih u' (i + 1) (by omega) (by omega) (by omega) (by rw [ci1]; exact eu') hu' (by omega) (fun k hk => by rw [mm.2 138 (by decide) (by decide)]; exact u138 k hk) (fun k hk => ?_) (by rw [mm.1 68 (by decide)]; exact u68) (mi_tr mu mm rfl rfl)
        by_cases w : k = i.toNatClampNeg
        · rw [w, e96]
        · rw [e96b k w]; exact u96 k (by omega)
    -- the way back to the first state
    have back : N.toInt ≤ 400 → ∀ (m : Nat) (u : gd) (c i : Int32) (av : Nat → gd), i.toInt + 1 ≤ m → -1 ≤ i.toInt → i.toInt < N.toInt → 0 ≤ c.toInt → c.toInt < (y.1 120 W).toInt → (y.1 132 (3000 * W + c.toNatClampNeg)).toInt = i.toInt + 1 → mi [] [138] y u → (∀ k : Nat, (k : Int) = i.toInt + 1 → av k = A c.toNatClampNeg) → (∀ k : Nat, i.toInt < (k : Int) → (k : Int) ≤ N.toInt → AV (av k)) → (∀ k : Nat, i.toInt < (k : Int) → (k : Int) < N.toInt → 0 ≤ (u.1 138 k).toInt ∧ (u.1 138 k).toInt < ((av k).1 0 84).toInt ∧ Lk (av k) (u.1 138 k).toNatClampNeg (av (k + 1))) → MT G (D + 1) z_show 135 [(0, vr 0), (1, vi w), (3, vi c), (4, vi N), (5, vi i)] [] u (ri F) := by
      intro N4
      have fin : ∀ (u : gd) (c i : Int32) (av : Nat → gd), i.toInt = -1 → 0 ≤ c.toInt → c.toInt < (y.1 120 W).toInt → (y.1 132 (3000 * W + c.toNatClampNeg)).toInt = i.toInt + 1 → mi [] [138] y u → (∀ k : Nat, (k : Int) = i.toInt + 1 → av k = A c.toNatClampNeg) → (∀ k : Nat, i.toInt < (k : Int) → (k : Int) ≤ N.toInt → AV (av k)) → (∀ k : Nat, i.toInt < (k : Int) → (k : Int) < N.toInt → 0 ≤ (u.1 138 k).toInt ∧ (u.1 138 k).toInt < ((av k).1 0 84).toInt ∧ Lk (av k) (u.1 138 k).toNatClampNeg (av (k + 1))) → MT G D z_startRun 0 [(0, vr 0), (1, vi w)] [] u (rv (fun x2 => MT G (D + 1) z_show 186 [(0, vr 0), (4, vi N), (5, vi 0)] [] x2 (ri F))) := by
        intro u c i av hi c0 c1 c2 mu q0 q2 q3
        have cc := cl_i c0
        have cz : c.toNatClampNeg = 0 := by
          by_cases cz : c.toNatClampNeg = 0
          · exact cz
          · obtain ⟨p, p1, p2, p3, _⟩ := (t6 c.toNatClampNeg (by omega)).2.2.2 (by omega)
            have := (t6 p (by omega)).2.1
            omega
        rw [cz] at q0
        refine t1 G D u _ (by omega) (prE_mi (prE_rf y) mu rfl rfl) (fun u' eu sf => ?_)
        obtain ⟨mm, f94, hu, f67, f68⟩ := sf
        have a0 := q0 0 (by omega)
        have g138 : u'.1 138 = u.1 138 := mm.2 138 (by decide) (by decide)
        exact loop N4 av (fun k => u.1 138 k) (fun k hk => q2 k (by omega) hk) (fun k hk => q3 k (by omega) hk) a0 N.toInt.toNat u' 0 (by decide) (by rw [k0]; exact N0) (by rw [k0]; omega) (by show eqS (Sm (av 0)) (av 0) u'; rw [a0]; exact eu) hu (by rw [f94]) (fun k _ => by rw [g138]) (fun k hk => absurd hk (by rw [k0]; omega)) f68 (mi_tr mu mm rfl rfl)
      intro m
      induction m with
      | zero =>
        intro u c i av hm i0 i1 c0 c1 c2 mu q0 q2 q3
        exact sg_show_135 _ _ _ _ ⟨fun _ => fin u c i av (by omega) c0 c1 c2 mu q0 q2 q3, fun cc => absurd (t_lt.mpr (by rw [k0]; omega)) cc⟩
      | succ m ih =>
        intro u c i av hm i0 i1 c0 c1 c2 mu q0 q2 q3
        refine sg_show_135 _ _ _ _ ⟨fun cc => fin u c i av (by rw [t_lt, k0] at cc; omega) c0 c1 c2 mu q0 q2 q3, fun cc => ?_⟩
        rw [t_lt, k0] at cc
        obtain ⟨cv, ce⟩ := ix c c0 c1
        have lv : vp_in i 400 := by rw [vp_in_iff]; omega
        refine ⟨cv, lv, fun v ev => ⟨cv, ?_⟩⟩
        rw [ce] at ev ⊢
        have ccl := cl_i c0
        have ci := cl_i (a := i) (by omega)
        have cp : 0 < c.toNatClampNeg := by
          by_cases cz : c.toNatClampNeg = 0
          · have := (t6 c.toNatClampNeg (by omega)).2.2.1 cz
            omega
          · omega
        obtain ⟨p, p1, p2, p3, p4, p5, p6⟩ := (t6 c.toNatClampNeg (by omega)).2.2.2 cp
        have mv := md_a u 138 i.toNatClampNeg (u.1 131 (3000 * W + c.toNatClampNeg)) (by decide)
        rw [← ev] at mv
        have g130 : v.1 130 = y.1 130 := by rw [mv.2.1 130 (by decide) (by decide), mu.2 130 (by decide) (by decide)]
        have g131 : u.1 131 = y.1 131 := mu.2 131 (by decide) (by decide)
        rw [g131] at ev
        rw [g130]
        obtain ⟨c', ec'⟩ : ∃ c', c' = y.1 130 (3000 * W + c.toNatClampNeg) := ⟨_, rfl⟩
        rw [← ec'] at p2 ⊢
        have cc' : c'.toNatClampNeg = p := by have := cl_i (a := c') (by omega); omega
        obtain ⟨j, ej⟩ : ∃ j, j = i + (-1) := ⟨_, rfl⟩
        have ji : j.toInt = i.toInt - 1 := by rw [ej, t_add (by rw [km1]; omega) (by rw [km1]; omega), km1]; omega
        rw [← ej]
        refine ih v c' j (fun k => if k = i.toNatClampNeg then A p else av k) (by omega) (by omega) (by omega) (by omega) (by omega) (by rw [cc']; omega) (mi_tr mu (mi_of mv) rfl rfl) (fun k hk => ?_) (fun k hk hk2 => ?_) (fun k hk hk2 => ?_)
        · rw [cc']
          show (if k = i.toNatClampNeg then A p else av k) = A p
          rw [if_pos (by omega)]
        · show AV (if k = i.toNatClampNeg then A p else av k)
          by_cases w : k = i.toNatClampNeg
          · rw [if_pos w]; exact (t6 p (by omega)).1
          · rw [if_neg w]; exact q2 k (by omega) hk2
        · show 0 ≤ (v.1 138 k).toInt ∧ (v.1 138 k).toInt < (((if k = i.toNatClampNeg then A p else av k)).1 0 84).toInt ∧ Lk (if k = i.toNatClampNeg then A p else av k) (v.1 138 k).toNatClampNeg (if k + 1 = i.toNatClampNeg then A p else av (k + 1))
          rw [if_neg (show ¬ k + 1 = i.toNatClampNeg by omega)]
          by_cases w : k = i.toNatClampNeg
          · rw [if_pos w, q0 (k + 1) (by omega), ev, si_get, if_pos ⟨rfl, w⟩]
            exact ⟨p4, p5, p6⟩
          · rw [if_neg w, ev, si_ne 138 k w]
            exact q3 k (by omega) hk2
    have p106 : ∀ b : Int32, (b = 0 → N.toInt ≤ 400) → MT G (D + 1) z_show 106 [(0, vr 0), (1, vi w), (3, vi s)] [vi b, vr 0] y (ri F) := by
      intro b hb
      refine sg_show_106 _ _ _ (sp_ref b 2 hy (by decide) (fun b0 => ⟨fun _ => ⟨sv, ?_⟩, fun q => absurd rfl q⟩) (fun _ y' m => ⟨fun q => absurd q (by decide), fun _ => no y' m⟩))
      rw [← eN]
      have N4 := hb b0
      obtain ⟨j, ej⟩ : ∃ j, j = N - 1 := ⟨_, rfl⟩
      have ji : j.toInt = N.toInt - 1 := by rw [ej, t_sub (by rw [k1]; omega) (by rw [k1]; omega), k1]
      rw [← ej]
      refine back N4 (N.toInt.toNat) y s j (fun _ => A s.toNatClampNeg) (by omega) (by omega) (by omega) s0 s1 (by rw [← se, ← eN]; omega) ⟨fun _ _ => rfl, fun _ _ _ => rfl⟩ (fun _ _ => rfl) (fun k _ _ => (t6 _ (by omega)).1) (fun k h1 h2 => by omega)
    exact ⟨sv, fun c => p106 0 (fun _ => by rw [t_le, k4] at c; exact c), fun _ => p106 1 (fun q => absurd q (by decide))⟩
  have p63 : vp_in w 2 → (w = 0 ∨ w = 1) → ∀ s : Int32, (s = -1 ∨ (¬ y.1 119 w.toNatClampNeg = 0 ∧ 0 ≤ s.toInt ∧ s.toInt < (y.1 120 w.toNatClampNeg).toInt)) → MT G (D + 1) z_show 63 [(0, vr 0), (1, vi w)] [vi s] y (ri F) := fun wv w01 s hs => sg_show_63 _ _ ⟨fun ne => p75 wv w01 s 0 (fun _ => hs.resolve_left ne), fun _ => p75 wv w01 s 1 (fun q => absurd q (by decide))⟩
  have p30 : ∀ b : Int32, (b = 0 → (vp_in w 2 ∧ (w = 0 ∨ w = 1)) ∧ 0 ≤ f.toInt ∧ f.toInt < 11) → MT G (D + 1) z_show 30 [(0, vr 0), (1, vi w), (2, vi f)] [vi b, vr 0] y (ri F) := by
    intro b hb
    refine sg_show_30 _ _ _ (sp_ref b 1 hy (by decide) (fun b0 => ⟨fun _ => ?_, fun q => absurd rfl q⟩) (fun _ y' m => ⟨fun q => absurd q (by decide), fun _ => no y' m⟩))
    obtain ⟨⟨wv, w01⟩, f0, f1⟩ := hb b0
    obtain ⟨fv, fe⟩ := t11 wv f0 f1
    refine ⟨wv, fun _ => p63 wv w01 _ (Or.inl rfl), fun tr => ⟨fv, p63 wv w01 _ ?_⟩⟩
    obtain ⟨hc, A, t1, t2, t3, t4, t5, t6, t7⟩ := qy.2.2.2 _ (vp_lt wv) tr
    rw [fe]
    exact (t7 f.toNatClampNeg (by have := cl_i f0; omega)).imp id (fun w => ⟨tr, w⟩)
  exact sp_in _ _ _ ⟨fun _ => p30 1 (fun q => absurd q (by decide)), fun c1 => sp_in _ _ _ ⟨fun c2 => p30 0 (fun _ => ⟨w_in (bi_ne.mp c1), f_in (bi_ne.mp c2)⟩), fun _ => p30 1 (fun q => absurd q (by decide))⟩⟩
end TSH

section LIS
variable {G : mG} {d D : Nat} {x y z a : gd} {F : Int32 → gd → Prop} {Fv : gd → Prop}
theorem MI_oq9 {L A : List Nat} {z z' : gd} (m : mi L A z z') (hL : stL.all (fun k => !L.elem k) = true) (hA : [2, 6, 7, 8, 36, 37, 38, 51, 52, 54, 55, 56, 57, 58, 59, 60, 61, 62, 63, 64, 65, 66, 70, 71, 72, 73, 74, 75, 76, 77, 78, 79, 80, 81, 82, 86, 87, 88, 96, 98, 99, 100, 103, 106, 107, 119, 120, 123, 126, 130, 131, 132].all (fun k => !A.elem k) = true) (o : oA z') (q : MI z) : PMq9 z z' := by
  have f := fun k hk => m.1 k (all_no hL k hk)
  obtain ⟨q1, q2, q3, q4⟩ := q
  have g119 : z'.1 119 = z.1 119 := m.2 119 (by decide) (all_no hA 119 (by decide))
  refine ⟨⟨?_, fun h => CP_mi m (all_sub hL rfl) (all_sub hA rfl) (q2 (by rw [f 66 (by decide)] at h; exact h)), fun h => ?_, fun w hw h => ?_⟩, f 2 (by decide), fun k hk => m.1 k (all_no (M := mfL) (all_sub hL rfl) k hk), fun c hc => m.2 c (mfA_0q9 c hc) (all_no (M := mfAq9) (all_sub hA rfl) c hc)⟩
  · unfold G0
    rw [f 2 (by decide), f 10 (by decide), f 42 (by decide)]
    exact ⟨q1.1, q1.2.1, TK_mi m (all_no hA 6 (by decide)) (all_no hA 8 (by decide)) (all_no hA 7 (by decide)) q1.2.2.1, q1.2.2.2.1, q1.2.2.2.2.1, o⟩
  · rw [f 67 (by decide)] at h
    rw [f 66 (by decide)]
    exact ⟨(q3 h).1, Hist_mi m (all_sub hL rfl) (all_sub hA rfl) (q3 h).2⟩
  · rw [g119] at h
    rw [f 66 (by decide)]
    exact ⟨(q4 w hw h).1, TY_mi m (all_sub hL rfl) (all_sub hA rfl) (q4 w hw h).2⟩
theorem sp_linearq9 (q : MI z) (k : Int32) (hD : 5 ≤ D) (h : ∀ r z', PMq9 z z' → F r z') : MT G D z_linear 0 [(0, vr 0), (1, vi k)] [] z (ri F) := by
  obtain ⟨D, rfl⟩ : ∃ D', D = D' + 2 := ⟨D - 2, by omega⟩
  have k1 : (1 : Int32).toInt = 1 := rfl
  refine sg_linear_0 _ (fun y e => ?_)
  have hy := z0_s e
  have no : ∀ y', mi [0] [] z y' → ri F (some (vi 0)) y' := fun y' m => ri_i (h 0 y' (MI_0q9 m q))
  have qy := (MI_0q9 hy.1 q).1
  refine sp_noRun hy (fun hr => ⟨fun q => absurd rfl q, fun _ => ?_⟩) (fun y' m => ⟨fun _ => no y' m, fun q => absurd q (by decide)⟩)
  obtain ⟨hc, s, n, q1, q2, q3, q4, q5, q6, ha⟩ := qy.2.2.1 hr
  have end' : ∀ (r : Int32) (u : gd), mi [107, 116] [109, 110, 111, 112, 113, 114, 115, 116, 118] y u → oA u → ri F (some (vi r)) u := fun r u m o => ri_i (h r u (by
    have p := MI_oq9 m rfl rfl o qy
    exact PM_0q9 hy.1 p))
  have p57 : ∀ (c : Int32), c.toInt ≤ 400 → ∀ (m : Nat) (u : gd) (i : Int32), mi [107, 116] [109, 110, 111, 112, 113, 114, 115, 116, 118] y u → oA u → 0 ≤ i.toInt → c.toInt + 1 - i.toInt ≤ m → MT G (D + 2) z_linear 57 [(0, vr 0), (1, vi k), (2, vi c), (3, vi i)] [] u (ri F) := by
    intro c c4 m
    induction m with
    | zero =>
      intro u i mu ou i0 hm
      exact sg_linear_57 _ _ _ ⟨fun _ => end' _ u mu ou, fun q => absurd (t_lt.mpr (by omega)) q⟩
    | succ m ih =>
      intro u i mu ou i0 hm
      refine sg_linear_57 _ _ _ ⟨fun _ => end' _ u mu ou, fun q => ?_⟩
      rw [t_lt] at q
      have ii : (i + 1).toInt = i.toInt + 1 := by rw [t_add (by omega) (by omega), k1]
      refine sp_takeCalls (HA_mi mu rfl rfl ha) ou i (fun r v mv ov v0 v1 _ => sp_isLinear k v0 v1 (by omega) (fun r2 w mw => ?_))
      have ow' : oA w := oA_md mw (by decide) ov
      have myw : mi [107, 116] [109, 110, 111, 112, 113, 114, 115, 116, 118] y w := mi_tr (mi_tr (L3 := [107, 116]) (A3 := [109, 110, 111, 112, 113, 114, 115, 116, 118]) mu mv rfl rfl) (mi_of mw) rfl rfl
      exact ⟨fun _ => ih w (i + 1) myw ow' (by omega) (by omega), fun _ => end' _ w myw ow'⟩
  have p27 : ∀ b : Int32, MT G (D + 2) z_linear 27 [(0, vr 0), (1, vi k)] [vi b, vr 0] y (ri F) := by
    intro b
    refine sg_linear_27 _ _ (sp_ref b 2 hy (by decide) (fun _ => ⟨fun _ => ?_, fun q => absurd rfl q⟩) (fun _ y' m => ⟨fun q => absurd q (by decide), fun _ => no y' m⟩))
    refine sp_takeCalls ha qy.1.2.2.2.2.2 1000 (fun r v mv ov v0 v1 r4 => ⟨fun _ => ?_, fun _ => ?_⟩)
    · exact p57 r r4 _ v 1 (mi_w mv (by decide) (by decide)) ov (by decide) (Int.self_le_toNat _)
    · exact end' _ v (mi_w mv (by decide) (by decide)) ov
  exact sp_in _ _ _ ⟨fun _ => p27 0, fun _ => p27 1⟩
end LIS

section KTF
variable {G : kG} {q : kP} {d : Nat} {x : gd} {F : Int32 → gd → Prop} {Fv : gd → Prop}
theorem kf_skipq9 (hq : kV q) (hl : kL x) (h0 : 0 ≤ (x.1 20 8).toInt) (h1 : (x.1 20 8).toInt ≤ (x.1 20 1).toInt) (h : ∀ x', fm (fun c k => c = 20 ∧ (k = 8 ∨ k = 9)) x x' → (x.1 20 8).toInt ≤ (x'.1 20 8).toInt → (x'.1 20 8).toInt ≤ (x.1 20 1).toInt → (x'.1 20 8).toNatClampNeg = lx (kby x) (kln x) (x.1 20 8).toNatClampNeg → (x.1 20 9 = lnBq9 (kby x) (x.1 20 8).toNatClampNeg → x'.1 20 9 = lnBq9 (kby x) (x'.1 20 8).toNatClampNeg) → Fv x') : KT G q (d + 1) zk_X9_skipBlanks 0 [(0, vr 20)] [] x (rv Fv) := sorry
end KTF

theorem LD_10q9 {c : Int32} (h : isLD c) : ¬ c = 10 := sorry
theorem sgk_10q9 {c : Int32} : sgk 10 c = 3 := sorry
/-- no line ends within a token -/
theorem TOK_nlq9 {b : Nat → Int32} {n p m : Nat} {k v : Int32} (h : TOK b n p k m v) (h3 : ¬ k = 3) (h0 : ¬ k = 0) : ∀ i, i < m → ¬ b (p + i) = 10 := sorry
/-- what the class cut: e tokens that go on, and the last -/
def KCUTq9 (b : Nat → Int32) (N : Nat) (x : gd) (e : Nat) : Prop := TSq b N e (kK' x) (kP' x) (kZ' x) (x.1 27) ∧ ((x.1 23 e = 0 ∧ (x.1 20 7).toInt = e) ∨ (¬ x.1 23 e = 0 ∧ (x.1 20 7).toInt = e + 1)) ∧ (∀ j, j ≤ e → x.1 23 j = 2 → x.1 27 j = hsh b (kP' x j) (kZ' x j)) ∧ kT x ∧ (∀ j, j ≤ e → ¬ x.1 23 j = 0 → x.1 25 j = lnBq9 b (kP' x j))
section KCA
variable {G : kG} {q : kP} {d : Nat} {x : gd} {F : Int32 → gd → Prop} {Fv : gd → Prop}
theorem kf_cutq9 (hq : kV q) (hl : kL x) (h : ∀ x' e, fm skC x x' → KCUTq9 (kby x) (kln x) x' e → Fv x') : KT G q (d + 10) zk_X9_cut 0 [(0, vr 20)] [] x (rv Fv) := sorry
end KCA

section KADF
variable {G : kG} {q : kP} {d : Nat} {x x0 y z : gd} {F : Int32 → gd → Prop}
theorem kf_addq9 (hq : kV q) (o l k : Int32) (h0 : 0 ≤ ssm x) (h1 : ssm x < 400) (h : ∀ y, AD x y o l k → vp_in (x.1 80 9) 400 → (y.1 85 (x.1 80 9).toNatClampNeg = -1 ∧ y.1 87 (x.1 80 9).toNatClampNeg = -1 ∧ y.1 88 (x.1 80 9).toNatClampNeg = -1 ∧ y.1 89 (x.1 80 9).toNatClampNeg = -1 ∧ y.1 82 (x.1 80 9).toNatClampNeg = l) → F (x.1 80 9) y) : KT G q d zk_X8_add 0 [(0, vr 80), (1, vi o), (2, vi l), (3, vi k)] [] x (ri F) := sorry
end KADF

/-- the line of the step n is that of the token i -/
def LKdq9 (K : Nat → Int32) (z : gd) (n i : Nat) : Prop := z.1 82 n = z.1 25 i ∧ ¬ K i = 0
/-- one step: op 81, known 83, target 84, object 85, index 87, first 88, second 89 -/
def kSq9 (sN : Nat → Nat → Bool) (V K : Nat → Int32) (x : gd) (P : List (Int32 × Int32)) (j : Nat) (st : gSt) : Prop :=
  x.1 81 j = Int32.ofNat st.1 ∧ (x.1 83 j).toInt = st.2.2.1.1.length ∧
  ((st.1 = 0 ∨ (2 ≤ st.1 ∧ st.1 ≤ 4) ∨ st.1 = 16 ∨ st.1 = 17 ∨ st.1 = 20) → tgI (x.1 84 j) st.2.2.2.1) ∧ (st.1 = 8 → (x.1 84 j = 1 ↔ st.2.2.2.2.2.1 = true)) ∧
  (¬ st.1 = 16 → obI V (x.1 85 j) st.1 st.2.2.2.2.1) ∧
  cSu sN V K P st.2.2.1.1 (x.1 87 j) st.2.2.2.2.2.2.1 ∧ cSu sN V K P st.2.2.1.1 (x.1 88 j) st.2.2.2.2.2.2.2.1 ∧ cSu sN V K P st.2.2.1.1 (x.1 89 j) st.2.2.2.2.2.2.2.2 ∧ ((x.1 81 j).toInt < 16 → LKdq9 K x j st.2.1)
def SRkq9 (sN : Nat → Nat → Bool) (V K : Nat → Int32) (x : gd) (P : List (Int32 × Int32)) (S : List gSt) : Prop := (x.1 80 9).toInt = S.length ∧ ∀ j st, S[j]? = some st → kSq9 sN V K x P j st
def CCpq9 (sN : Nat → Nat → Bool) (V K : Nat → Int32) (x : gd) (c : gCd) (d : Nat × Int32 × List (Int32 × Bool)) (P : List (Int32 × Int32)) : Prop :=
  PR x P ∧ SRkq9 sN V K x P c.2.1 ∧ ((¬ x.1 100 5 = 0 → SKk x (x.1 100 13).toNatClampNeg c.2.2.1) ∧ (x.1 100 5 = 0 → c.2.2.1 = [])) ∧
  ((x.1 60 10).toInt = c.2.2.2.2.1.length ∧ ∀ (t : Nat) (q : Nat × Nat), c.2.2.2.2.1[t]? = some q → (x.1 72 t).toInt = q.1 ∧ x.1 73 t = Int32.ofNat q.2) ∧
  ((x.1 60 6).toInt = d.2.2.length ∧ ∀ j q, d.2.2[j]? = some q → x.1 68 j = q.1 ∧ x.1 69 j = if q.2 = true then 1 else 0) ∧
  ((x.1 60 14).toInt = (clF 35 c.2.2.2.2.2).length ∧ ∀ k N, (clF 35 c.2.2.2.2.2)[k]? = some N → SUc P (x.1 76 k) (sPs sN V K E0v N)) ∧
  ((x.1 60 16).toInt = (clF 36 c.2.2.2.2.2).length ∧ ∀ k N, (clF 36 c.2.2.2.2.2)[k]? = some N → SUc P (x.1 78 k) (sPs sN V K E0v N))
/-- what reading a piece does to the code: from x to y by the events M (no statement is under way before it, none behind it) -/
def CGq9 (sN : Nat → Nat → Bool) (V K : Nat → Int32) (E : gV) (x y : gd) (M : gU) : Prop := ∀ c d P, eqE c.1 E → c.2.2.2.1 = rg0 → CCpq9 sN V K x c d P → CCpq9 sN V K y (cds sN K M c) (ces K V M d) (P ++ tPs sN V K M E) ∧ eqE (cds sN K M c).1 (exs M E) ∧ (cds sN K M c).2.2.2.1 = rg0
/-- the cells on which it rests -/
def ccSq9 (c k : Nat) : Prop := (c = 60 ∧ k ≠ 13) ∨ (61 ≤ c ∧ c < 90) ∨ (c = 100 ∧ (k = 5 ∨ k = 13)) ∨ c = 111 ∨ c = 112 ∨ c = 25
theorem ccS_25q9 {k : Nat} : ccSq9 25 k := sorry
section KCO
variable {sN : Nat → Nat → Bool} {V K : Nat → Int32} {E : gV} {x y z : gd} {M N : gU} {c : gCd} {d : Nat × Int32 × List (Int32 × Bool)} {P Q : List (Int32 × Int32)} {S : List gSt}
theorem kS_monoq9 {j : Nat} {st : gSt} (h : kSq9 sN V K x P j st) (P' : List (Int32 × Int32)) : kSq9 sN V K x (P ++ P') j st := sorry
theorem kS_eqq9 {j : Nat} {st : gSt} (e : ∀ k, 81 ≤ k → k < 90 → y.1 k j = x.1 k j) (e25 : ∀ k, y.1 25 k = x.1 25 k) (h : kSq9 sN V K x P j st) : kSq9 sN V K y P j st := sorry
theorem CCp_eqq9 (e : ∀ c k, ccSq9 c k → y.1 c k = x.1 c k) (h : CCpq9 sN V K x c d P) : CCpq9 sN V K y c d P := sorry
theorem CG_rfq9 : CGq9 sN V K E x x [] := sorry
theorem CG_appq9 (h : CGq9 sN V K E x y M) (g : CGq9 sN V K (exs M E) y z N) : CGq9 sN V K E x z (M ++ N) := sorry
theorem CG_stq9 (h : CGq9 sN V K E x y M) (e : ∀ c k, ccSq9 c k → z.1 c k = y.1 c k) : CGq9 sN V K E x z M := sorry
theorem CG_preq9 (e : ∀ c k, ccSq9 c k → y.1 c k = x.1 c k) (h : CGq9 sN V K E y z M) : CGq9 sN V K E x z M := sorry
/-- one step is added -/
def stKq9 (x y : gd) (o kn tg ob ix e f : Int32) : Prop := (∀ c k, ccSq9 c k → ¬ (81 ≤ c ∧ c ≤ 89 ∧ k = (x.1 80 9).toNatClampNeg) → ¬ (c = 80 ∧ k = 9) → y.1 c k = x.1 c k) ∧ (y.1 80 9).toInt = (x.1 80 9).toInt + 1 ∧ y.1 81 (x.1 80 9).toNatClampNeg = o ∧ y.1 83 (x.1 80 9).toNatClampNeg = kn ∧ y.1 84 (x.1 80 9).toNatClampNeg = tg ∧ y.1 85 (x.1 80 9).toNatClampNeg = ob ∧ y.1 87 (x.1 80 9).toNatClampNeg = ix ∧ y.1 88 (x.1 80 9).toNatClampNeg = e ∧ y.1 89 (x.1 80 9).toNatClampNeg = f
theorem CCp_addq9 {o kn tg ob ix e f : Int32} {st : gSt} {Ec : gV} {k : List Nat} {r r' : gRg} {w : List (Nat × Nat) × List (Nat × gU)} (h : CCpq9 sN V K x (Ec, S, k, r, w) d P) (a : stKq9 x y o kn tg ob ix e f) (h1 : o = Int32.ofNat st.1) (h2 : kn.toInt = st.2.2.1.1.length) (h3 : (st.1 = 0 ∨ (2 ≤ st.1 ∧ st.1 ≤ 4) ∨ st.1 = 16 ∨ st.1 = 17 ∨ st.1 = 20) → tgI tg st.2.2.2.1) (h4 : st.1 = 8 → (tg = 1 ↔ st.2.2.2.2.2.1 = true)) (h5 : ¬ st.1 = 16 → obI V ob st.1 st.2.2.2.2.1) (h6 : cSu sN V K P st.2.2.1.1 ix st.2.2.2.2.2.2.1) (h7 : cSu sN V K P st.2.2.1.1 e st.2.2.2.2.2.2.2.1) (h8 : cSu sN V K P st.2.2.1.1 f st.2.2.2.2.2.2.2.2) (hL : o.toInt < 16 → LKdq9 K y (x.1 80 9).toNatClampNeg st.2.1) : CCpq9 sN V K y (Ec, S ++ [st], k, r', w) d P := sorry
/-- a sum's parts are written, no more -/
theorem CCp_sumq9 {Ec : gV} {k : List Nat} {r r' : gRg} {w : List (Nat × Nat) × List (Nat × gU)} (h : CCpq9 sN V K x (Ec, S, k, r, w) d P) (a : CPl x y Q) (e : ∀ c k, ccSq9 c k → ¬ (c = 60 ∧ k = 3) → ¬ c = 62 → ¬ c = 63 → y.1 c k = x.1 c k) : CCpq9 sN V K y (Ec, S, k, r', w) d (P ++ Q) := sorry
end KCO

section KSMF
variable {G : kG} {q : kP} {d : Nat} {x x0 y z xs : gd} {F : Int32 → gd → Prop} {Fv : gd → Prop} {X : String → gd → Prop} {P : Option gv → gd → Prop} {M : Int} {E : Nat → Prop} {K V : Nat → Int32} {sN : Nat → Nat → Bool} {e : Nat} {Ev : gV} {Ml N : gU}
theorem kd_passq9 (hq : kV q) (hx : 700 ≤ nn x → RX x0 X) (hB : BB x0 x M E) (hR : RIw K V sN e Ev xs x Ml) (k0 : ¬ K (nn x) = 0) (k3 : ¬ K (nn x) = 3) (h : nn x < 700 → ∀ y, BB x0 y M E → nx y = nx x + 1 → GS x y → nn y = nn x + 1 → RIw K V sN e Ev xs y Ml → y.1 42 (nn x) = 0 → (∀ c k, ccSq9 c k → y.1 c k = x.1 c k) → Fv y) : KE G q (d + 7) zk_X7_pass 0 [(0, vr 100)] [] x (rv Fv) X := sorry
theorem kd_needq9 (hq : kV q) (w kw : Int32) (hkw : kc w = kw) (hkn : ¬ kw = -1 ∧ ¬ kw = 0 ∧ ¬ kw = 3) (hw : ¬ w = 0) (hx : ¬ (K (nn x) = kw ∧ nn x < 700) → RX x0 X) (hB : BB x0 x M E) (hR : RIw K V sN e Ev xs x Ml) (h : K (nn x) = kw → nn x < 700 → ∀ y, BB x0 y M E → nx y = nx x + 1 → GS x y → nn y = nn x + 1 → RIw K V sN e Ev xs y Ml → y.1 42 (nn x) = 0 → (∀ c k, ccSq9 c k → y.1 c k = x.1 c k) → Fv y) : KE G q (d + 7) zk_X7_need 0 [(0, vr 100), (1, vi w)] [] x (rv Fv) X := sorry
theorem kd_needForq9 (hq : kV q) (w u kw : Int32) (hkw : kc w = kw) (hkn : ¬ kw = -1 ∧ ¬ kw = 0 ∧ ¬ kw = 3) (hw : ¬ w = 0) (hu : ¬ u = 12) (hx : ¬ (K (nn x) = kw ∧ nn x < 700) → RX x0 X) (hB : BB x0 x M E) (hA : KA K V sN e x) (hn : nn x ≤ e) (h : K (nn x) = kw → nn x < 700 → ∀ y, BB x0 y M E → nx y = nx x + 1 → GS x y → nn y = nn x + 1 → KA K V sN e y → nn y ≤ e → y.1 42 (nn x) = u → tk y (x.1 100 4) → (∀ c k, ccSq9 c k → y.1 c k = x.1 c k) → F (x.1 100 4) y) : KE G q (d + 7) zk_X7_needFor 0 [(0, vr 100), (1, vi w), (2, vi u)] [] x (ri F) X := sorry
end KSMF

section KPC
variable {sN : Nat → Nat → Bool} {V K : Nat → Int32} {Ev : gV} {x y z w : gd} {N : gU} {v : Nat × Nat × Nat} {e i j : Nat} {o ob s tg kn ix e9 f9 : Int32}
/-- nothing was written yet, or one sum -/
def PCdq9 (sN : Nat → Nat → Bool) (V K : Nat → Int32) (Ev : gV) (x y : gd) (s : Int32) (N : gU) : Prop := (N = [] ∧ s = -1 ∧ ∀ c k, ccSq9 c k → y.1 c k = x.1 c k) ∨ ∃ N' y0, N = N' ++ [(54, 0, 0)] ∧ sEv false N' ∧ (∀ c k, ccSq9 c k → y0.1 c k = x.1 c k) ∧ CPl y0 y (sPs sN V K Ev N) ∧ (∀ c k, ccSq9 c k → ¬ (c = 60 ∧ k = 3) → ¬ c = 62 → ¬ c = 63 → y.1 c k = y0.1 c k) ∧ s = y0.1 60 3
theorem CG_plq9 (hE : KV' K e y Ev) (hEv : ¬ Ev.2.1 = []) (hpc : PCdq9 sN V K Ev x y s N) (a : stKq9 y z o (y.1 100 9) (-1) ob (-1) s (-1)) (hv : (v = (68, i, 0) ∧ ob = -1 ∧ N = [] ∧ o = Int32.ofNat (opP (K i))) ∨ (v = (69, i, 0) ∧ ob = -1 ∧ ¬ N = [] ∧ o = Int32.ofNat (opS (K i))) ∨ (v = (70, i, j) ∧ ob = V j ∧ ¬ N = [] ∧ o = 13)) (hl : LKdq9 K z (y.1 80 9).toNatClampNeg i) : CGq9 sN V K Ev x z (N ++ [v]) := sorry
theorem stK_84q9 (a : stKq9 y z o kn tg ob ix e9 f9) {v8 : Int32} (ew : w = si z 84 (y.1 80 9).toNatClampNeg v8) : stKq9 y w o kn v8 ob ix e9 f9 := sorry
/-- take, give, wait, wake, start, join -/
theorem CG_nmq9 (hE : KV' K e y Ev) (fr : ∀ c k, ccSq9 c k → y.1 c k = x.1 c k) (a : stKq9 y z o (y.1 100 9) tg ob (-1) (-1) (-1)) (hv : v = (66, i, j) ∨ v = (67, i, j)) (ho : o = Int32.ofNat (opW (K i))) (hob : ob.toInt = (j : Nat)) (htg : tg = 1 ↔ K i = 40) (hl : LKdq9 K z (y.1 80 9).toNatClampNeg i) : CGq9 sN V K Ev x z [v] := sorry
end KPC

section KPL
variable {G : kG} {q : kP} {d : Nat} {x x0 y z xs : gd} {F : Int32 → gd → Prop} {Fv : gd → Prop} {X : String → gd → Prop} {P : Option gv → gd → Prop} {M : Int} {E : Nat → Prop} {K V : Nat → Int32} {sN : Nat → Nat → Bool} {e : Nat} {Ev : gV} {Ml N : gU}
theorem kd_nameStepq9 (hq : kV q) (hx : ¬ (K (nn x) = 1 ∧ nn x < 700) → RX x0 X) (hA : KA K V sN e x) (hn : nn x ≤ e) (hB : BB x0 x M E) (ha : 2 * ssm x ≤ nx x + 1) (o l : Int32) (ho : 5 ≤ o.toInt) (ho2 : o.toInt ≤ 10) (h : ∀ y, BB x0 y M E → nx y = nx x + 1 → ssm y = ssm x + 1 → om y = om x → sop y (x.1 80 9).toNatClampNeg = o.toInt → vp_in (x.1 80 9) 400 → y.1 60 13 = x.1 60 13 → K (nn x) = 1 → nn x < 700 → nn y = nn x + 1 → KA K V sN e y → nn y ≤ e → La x y → ((o.toInt ≤ 8 ∧ y.1 42 (nn x) = 4) ∨ (9 ≤ o.toInt ∧ y.1 42 (nn x) = 5)) → y.1 100 9 = x.1 100 9 → (∀ k, y.1 109 k = x.1 109 k) → OPe x y → stKq9 x y o (x.1 100 9) (-1) (x.1 100 4) (-1) (-1) (-1) → y.1 82 (x.1 80 9).toNatClampNeg = l → F (x.1 80 9) y) : KE G q (d + 8) zk_X7_nameStep 0 [(0, vr 100), (1, vi o), (2, vi l)] [] x (ri F) X := sorry
theorem kd_plainq9 (hq : kV q) (f c9 : Nat) (L : gU) (hx : (pS1 K f c9 (nn x) L = none ∨ 700 ≤ nn x) → RX x0 X) (hf : (f : Int) + om x = 16) (hA : KA K V sN e x) (hn : nn x ≤ e) (hE : KV' K e x Ev) (hB : BB x0 x M (fun _ => False)) (ha : 2 * ssm x + om x ≤ nx x) (ho : om x ≤ 17) (o l : Int32) (hln : l = x.1 25 (nn x)) (h5 : 5 ≤ o.toInt) (h6 : ¬ o.toInt = 15 ∧ ¬ o.toInt = 16 ∧ ¬ o.toInt = 17 ∧ ¬ o.toInt = 20) (hEv : ¬ Ev.2.1 = []) (hop : o = Int32.ofNat (opQ (K (nn x)))) (hko : (o.toInt ≤ 8 ∧ (K (nn x) = 36 ∨ K (nn x) = 22 ∨ K (nn x) = 38 ∨ K (nn x) = 39 ∨ K (nn x) = 40)) ∨ (9 ≤ o.toInt ∧ o.toInt ≤ 10 ∧ (K (nn x) = 33 ∨ K (nn x) = 25)) ∨ (o = 13 ∧ K (nn x) = 15) ∨ ((o = 14 ∨ o = 18) ∧ (K (nn x) = 13 ∨ K (nn x) = 14)) ∨ ((o = 11 ∨ o = 12 ∨ o = 19) ∧ (K (nn x) = 20 ∨ K (nn x) = 31 ∨ K (nn x) = 19))) (h : ∀ y, BB x0 y M (fun _ => False) → nx x < nx y → om y = om x → 2 * ssm y + om y ≤ nx y → y.1 60 13 = x.1 60 13 → KV' K e y Ev → OPe x y → ∀ N, RIw K V sN e Ev x y N → still N → pS1 K f c9 (nn x) L = some (c9, nn y, L ++ N) → CGq9 sN V K Ev x y N → Fv y) : KE G q (d + 11) zk_X7_plainStatement 0 [(0, vr 100), (1, vi o), (2, vi l)] [] x (rv Fv) X := sorry
end KPL

/-- the events N, from x to y: no step yet, the sums Su written (where, what), a place told -/
def PDq9 (sN : Nat → Nat → Bool) (V K : Nat → Int32) (Ev : gV) (x y : gd) (t : Option Nat) (N : gU) (Su : List (Int32 × gU)) (pl : Nat) (ro : Bool) : Prop := still N ∧ (∀ d, ces K V N d = d) ∧ (∀ q ∈ Su, sEv false q.2) ∧ (∀ (Ec : gV) (S : List gSt) (k : List Nat) (w : List (Nat × Nat) × List (Nat × gU)) (tk : Nat), ¬ Ec.2.1 = [] → cds sN K N (Ec, S, k, rgT t tk, w) = (Ec, S, k, ([], Su.map Prod.snd, pl, ro, t, tkB t tk), w)) ∧ ∀ c d P, eqE c.1 Ev → CCpq9 sN V K x c d P → CCpq9 sN V K y c d (P ++ tPs sN V K N Ev) ∧ ∀ q ∈ Su, SUc (P ++ tPs sN V K N Ev) q.1 (sPs sN V K Ev q.2)
/-- all of it, with its step -/
def CGsq9 (sN : Nat → Nat → Bool) (V K : Nat → Int32) (Ev : gV) (x z : gd) (t : Option Nat) (N : gU) : Prop := ∀ tk c d P, eqE c.1 Ev → c.2.2.2.1 = rgT t tk → LKdq9 K z (x.1 80 9).toNatClampNeg (tkB t tk) → CCpq9 sN V K x c d P → CCpq9 sN V K z (cds sN K N c) (ces K V N d) (P ++ tPs sN V K N Ev) ∧ eqE (cds sN K N c).1 (exs N Ev) ∧ (cds sN K N c).2.2.2.1 = rg0
/-- behind a place: its index's sum, and the sums Q -/
def PDpq9 (sN : Nat → Nat → Bool) (V K : Nat → Int32) (Ev : gV) (x y : gd) (t : Option Nat) (N : gU) (b2 i2 : Int32) (Q : List (Int32 × gU)) : Prop := ∃ pl ro Si, b2.toInt = ((pl : Nat) : Int) ∧ ((ro = false ∧ i2 = -1 ∧ Si = []) ∨ (ro = true ∧ ∃ N1, Si = [(i2, N1)])) ∧ PDq9 sN V K Ev x y t N (Si ++ Q) pl ro
section KPD
variable {sN : Nat → Nat → Bool} {V K : Nat → Int32} {Ev : gV} {x y z w : gd} {N N' : gU} {v : Nat × Nat × Nat} {e i j pl : Nat} {o a b ob b2 i2 f2 e2 ix e9 f9 r : Int32} {t : Option Nat} {Su Q : List (Int32 × gU)} {ro : Bool}
theorem PD_0q9 (fr : ∀ c k, ccSq9 c k → y.1 c k = x.1 c k) (hN : N = pme t ∨ N = pma t) : PDq9 sN V K Ev x y t N [] 0 false := sorry
theorem PD_frq9 (h : PDq9 sN V K Ev x y t N Su pl ro) (fr : ∀ c k, ccSq9 c k → z.1 c k = y.1 c k) : PDq9 sN V K Ev x z t N Su pl ro := sorry
theorem PD_6q9 (h : PDq9 sN V K Ev x y t N Su pl ro) (hEv : ¬ Ev.2.1 = []) : PDq9 sN V K Ev x y t (N ++ [(6, i, 0)]) Su i false := sorry
theorem PD_7q9 (h : PDq9 sN V K Ev x y t N Su pl ro) (hEv : ¬ Ev.2.1 = []) : PDq9 sN V K Ev x y t (N ++ [(7, i, 0)]) Su i true := sorry
/-- one more sum is written -/
theorem PD_xq9 (h : PDq9 sN V K Ev x y t N Su pl ro) (hs : sEv false N') (hp : CPl y z (sPs sN V K Ev (N' ++ [(54, 0, 0)]))) (fr : ∀ c k, ccSq9 c k → ¬ (c = 60 ∧ k = 3) → ¬ c = 62 → ¬ c = 63 → z.1 c k = y.1 c k) (hr : r = y.1 60 3) : PDq9 sN V K Ev x z t (N ++ (N' ++ [(54, 0, 0)])) (Su ++ [(r, N')]) pl ro := sorry
/-- its step's token by tf -/
def CGtq9 (sN : Nat → Nat → Bool) (V K : Nat → Int32) (Ev : gV) (x z : gd) (t : Option Nat) (N : gU) (tf : Nat → Nat) : Prop := ∀ tk c d P, eqE c.1 Ev → c.2.2.2.1 = rgT t tk → LKdq9 K z (x.1 80 9).toNatClampNeg (tf (tkB t tk)) → CCpq9 sN V K x c d P → CCpq9 sN V K z (cds sN K N c) (ces K V N d) (P ++ tPs sN V K N Ev) ∧ eqE (cds sN K N c).1 (exs N Ev) ∧ (cds sN K N c).2.2.2.1 = rg0
theorem PD_endtq9 {op : Nat} {tf : Nat → Nat} {to obj : Option Nat} {fl : Bool} {ixs es fs : Option gU} (h : PDq9 sN V K Ev x y t N Su pl ro) (hEv : ¬ Ev.2.1 = []) (hE : KV' K e y Ev) (ha : stKq9 y z o (y.1 100 9) a ob ix e9 f9) (hcd : ∀ (Ec : gV) S k w tk, eqE Ec Ev → cdV sN K (Ec, S, k, ([], Su.map Prod.snd, pl, ro, t, tk), w) v = (Ec, S ++ [(op, tf tk, knw Ec, to, obj, fl, ixs, es, fs)], k, rg0, w)) (ho : o = Int32.ofNat op) (h8 : ¬ op = 8) (h13 : ¬ op = 13) (hto : (op = 0 ∨ (2 ≤ op ∧ op ≤ 4) ∨ op = 16 ∨ op = 17 ∨ op = 20) → tgI a to) (hob : ¬ op = 16 → tgI ob obj) (hix : inS Su ix ixs) (hes : inS Su e9 es) (hfs : inS Su f9 fs) (hv1 : still [v]) (hv2 : ∀ d, ces K V [v] d = d) (hv3 : tPs sN V K [v] Ev = []) : CGtq9 sN V K Ev x z t (N ++ [v]) tf := sorry
theorem PD_endq9 {op : Nat} {to obj : Option Nat} {fl : Bool} {ixs es fs : Option gU} (h : PDq9 sN V K Ev x y t N Su pl ro) (hEv : ¬ Ev.2.1 = []) (hE : KV' K e y Ev) (ha : stKq9 y z o (y.1 100 9) a ob ix e9 f9) (hcd : ∀ (Ec : gV) S k w tk, eqE Ec Ev → cdV sN K (Ec, S, k, ([], Su.map Prod.snd, pl, ro, t, tk), w) v = (Ec, S ++ [(op, tk, knw Ec, to, obj, fl, ixs, es, fs)], k, rg0, w)) (ho : o = Int32.ofNat op) (h8 : ¬ op = 8) (h13 : ¬ op = 13) (hto : (op = 0 ∨ (2 ≤ op ∧ op ≤ 4) ∨ op = 16 ∨ op = 17 ∨ op = 20) → tgI a to) (hob : ¬ op = 16 → tgI ob obj) (hix : inS Su ix ixs) (hes : inS Su e9 es) (hfs : inS Su f9 fs) (hv1 : still [v]) (hv2 : ∀ d, ces K V [v] d = d) (hv3 : tPs sN V K [v] Ev = []) : CGsq9 sN V K Ev x z t (N ++ [v]) := sorry
/-- reading -/
theorem PD_75q9 (h : PDpq9 sN V K Ev x y t N b2 i2 []) (hEv : ¬ Ev.2.1 = []) (hE : KV' K e y Ev) (hT : TGc sN Ev t a b) (ha : stKq9 y z 0 (y.1 100 9) a b2 i2 (-1) (-1)) : CGsq9 sN V K Ev x z t (N ++ [(75, i, 0)]) := sorry
/-- exchange, add -/
theorem PD_74q9 {N2 : gU} (h : PDpq9 sN V K Ev x y t N b2 i2 [(f2, N2)]) (hEv : ¬ Ev.2.1 = []) (hE : KV' K e y Ev) (hT : TGc sN Ev t a b) (hK : ¬ K i = 16) (ho : o = Int32.ofNat (opX (K i))) (ha : stKq9 y z o (y.1 100 9) a b2 i2 f2 (-1)) : CGsq9 sN V K Ev x z t (N ++ [(74, i, 0)]) := sorry
theorem PD_74cq9 {N2 N3 : gU} (h : PDpq9 sN V K Ev x y t N b2 i2 [(f2, N2), (e2, N3)]) (hEv : ¬ Ev.2.1 = []) (hE : KV' K e y Ev) (hT : TGc sN Ev t a b) (hK : K i = 16) (ha : stKq9 y z 4 (y.1 100 9) a b2 i2 f2 e2) : CGsq9 sN V K Ev x z t (N ++ [(74, i, 0)]) := sorry
theorem PD_seq9 {fl : Bool} (h : PDq9 sN V K Ev x y t N Su pl ro) (hEv : ¬ Ev.2.1 = []) (hE : KV' K e y Ev) (hT : TGc sN Ev t a b) {N2 : gU} (hSu : (f2, N2) ∈ Su) (ha : stKq9 y z (if a = -1 then 1 else 16) (y.1 100 9) a b (-1) f2 (-1)) (hcd : ∀ (Ec : gV) S k w tk, cdV sN K (Ec, S, k, ([], Su.map Prod.snd, pl, ro, t, tk), w) v = cSe sN (Ec, S, k, ([], Su.map Prod.snd, pl, ro, t, tk), w) t tk N2) (hv1 : still [v]) (hv2 : ∀ d, ces K V [v] d = d) (hv3 : tPs sN V K [v] Ev = []) : CGsq9 sN V K Ev x z t (N ++ [v]) := sorry
theorem PD_76q9 {N2 : gU} (h : PDq9 sN V K Ev x y t N [(f2, N2)] pl ro) (hEv : ¬ Ev.2.1 = []) (hE : KV' K e y Ev) (hT : TGc sN Ev t a b) (ha : stKq9 y z (if a = -1 then 1 else 16) (y.1 100 9) a b (-1) f2 (-1)) : CGsq9 sN V K Ev x z t (N ++ [(76, i, 0)]) := sorry
/-- a row's cell is set -/
theorem PD_78q9 {N1 N2 : gU} (h : PDq9 sN V K Ev x y none N [(ix, N1), (f2, N2)] pl true) (hEv : ¬ Ev.2.1 = []) (hE : KV' K e y Ev) (eb : b2.toInt = (pl : Nat)) (ha : stKq9 y z 1 (y.1 100 9) a b2 ix f2 (-1)) (hl : LKdq9 K z (x.1 80 9).toNatClampNeg i) : CGq9 sN V K Ev x z (N ++ [(78, i, 0)]) := sorry
/-- of a cell -/
theorem PD_alq9 (fr : ∀ c k, ccSq9 c k → y.1 c k = x.1 c k) (hE : KV' K e y Ev) (hT : TGc sN Ev t a b) (hk : kfi sN Ev.1 i = none) (hoi : ob.toInt = (i : Nat)) (ha : stKq9 y z 0 (y.1 100 9) a ob (-1) (-1) (-1)) : CGsq9 sN V K Ev x z t [pal t i] := sorry
/-- of a local: a sum -/
theorem PD_alsq9 (h : PDq9 sN V K Ev x y t (pma t ++ ([(3, i, 0)] ++ [(54, 0, 0)])) [(f2, [(3, i, 0)])] 0 false) (hEv : ¬ Ev.2.1 = []) (hE : KV' K e y Ev) (hT : TGc sN Ev t a b) (hk : ¬ kfi sN Ev.1 i = none) (ha : stKq9 y z (if a = -1 then 1 else 16) (y.1 100 9) a b (-1) f2 (-1)) : CGsq9 sN V K Ev x z t [pal t i] := sorry
end KPD
section KPE
variable {G : kG} {q : kP} {d : Nat} {x x0 y z xs : gd} {F : Int32 → gd → Prop} {Fv : gd → Prop} {X : String → gd → Prop} {M : Int} {E : Nat → Prop}
/-- the step is added, with all its fields -/
theorem kf_233q9 (hq : kV q) (hB : BB x0 y M E0) (ha : 2 * ssm y ≤ nx y + 2) (o l a b i2 e1 f1 : Int32) (ho : o = 0 ∨ o = 1 ∨ o = 2 ∨ o = 3 ∨ o = 4 ∨ o = 16) (hb : o.toInt ≤ 4 → PLc y b) (ht : ¬ o = 1 → (0 ≤ a.toInt ∧ a.toInt < M) ∨ BU y) (h : ∀ z, BB x0 z M E0 → nx z = nx y → om z = om y → ssm z = ssm y + 1 → (∀ c k, c < 80 ∨ 89 < c → z.1 c k = y.1 c k) → stKq9 y z o (y.1 100 9) a b i2 f1 e1 → z.1 82 (y.1 80 9).toNatClampNeg = l → Fv z) : KE G q (d + 7) zk_X7_source 233 [(0, vr 100), (1, vi l), (2, vi a), (6, vi b), (7, vi i2), (8, vi e1), (9, vi f1)] [vi o, vr 80] y (rv Fv) X := sorry
end KPE

def SFinq9 (K V : Nat → Int32) (sN : Nat → Nat → Bool) (e : Nat) (Ev : gV) (x : gd) (t : Option Nat) (L : gU) (W : gOp) (y : gd) : Prop := KV' K e y Ev ∧ ∃ N, RIw K V sN e Ev x y N ∧ still N ∧ (∀ t0, t = some t0 → kfi sN Ev.1 t0 = none → HBs sN N Ev t0 6) ∧ W = some (nn y, L ++ N) ∧ CGsq9 sN V K Ev x y t N
/-- all but the step o -/
def SFpq9 (K V : Nat → Int32) (sN : Nat → Nat → Bool) (e : Nat) (Ev : gV) (x : gd) (t : Option Nat) (L : gU) (W : gOp) (o a b2 i2 e2 f2 : Int32) (y : gd) : Prop := KV' K e y Ev ∧ ∃ N, RIw K V sN e Ev x y N ∧ still N ∧ (∀ t0, t = some t0 → kfi sN Ev.1 t0 = none → HBs sN N Ev t0 6) ∧ W = some (nn y, L ++ N) ∧ ∀ z, stKq9 y z o (y.1 100 9) a b2 i2 f2 e2 → CGsq9 sN V K Ev x z t N
/-- before the second sum -/
def S189q9 (K V : Nat → Int32) (sN : Nat → Nat → Bool) (e : Nat) (Ev : gV) (x : gd) (t : Option Nat) (L : gU) (W : gOp) (f : Nat) (o a b2 i2 e2 f2 : Int32) (y : gd) : Prop := (¬ o = 4 ∧ SFpq9 K V sN e Ev x t L W (sOp o a) a b2 i2 e2 f2 y) ∨ (o = 4 ∧ KV' K e y Ev ∧ ∃ N, RIw K V sN e Ev x y N ∧ still N ∧ (∀ t0, t = some t0 → kfi sN Ev.1 t0 = none → HBs sN N Ev t0 6) ∧ W = ((pt K 68 (nn y, L ++ N)).bind (pXq K f)).bind (pan (74, nn x, 0)) ∧ K (nn x) = 16 ∧ ∃ N2, PDpq9 sN V K Ev x y t N b2 i2 [(f2, N2)])
/-- before the first -/
def S174q9 (K V : Nat → Int32) (sN : Nat → Nat → Bool) (e : Nat) (Ev : gV) (x : gd) (t : Option Nat) (L : gU) (W : gOp) (f : Nat) (o a b2 i2 e2 : Int32) (y : gd) : Prop := (o = 0 ∧ SFpq9 K V sN e Ev x t L W (sOp o a) a b2 i2 e2 (-1) y) ∨ (¬ o = 0 ∧ KA K V sN e y ∧ nn y ≤ e ∧ KV' K e y Ev ∧ ∃ L1, (pX K false f (nn y) L1 = none → W = none) ∧ ∀ w N2 r, GS y w → RIw K V sN e Ev y w N2 → still N2 → KV' K e w Ev → pX K false f (nn y) L1 = some (nn w, L1 ++ N2) → CPl y w (sPs sN V K Ev N2) → r = y.1 60 3 → S189q9 K V sN e Ev x t L W f o a b2 i2 e2 r w)
/-- behind the place -/
def S163q9 (K V : Nat → Int32) (sN : Nat → Nat → Bool) (e : Nat) (Ev : gV) (x : gd) (t : Option Nat) (L : gU) (W : gOp) (f : Nat) (o a b2 i2 e2 : Int32) (y : gd) : Prop := (o = 0 ∧ SFpq9 K V sN e Ev x t L W (sOp o a) a b2 i2 e2 (-1) y) ∨ (¬ o = 0 ∧ (o = 4 ↔ K (nn x) = 16) ∧ KV' K e y Ev ∧ ∃ N, RIw K V sN e Ev x y N ∧ still N ∧ (∀ t0, t = some t0 → kfi sN Ev.1 t0 = none → HBs sN N Ev t0 6) ∧ W = ((pt K 68 (nn y, L ++ N)).bind (pXq K f)).bind (fun q => (if K (nn x) = 16 then (pt K 68 q).bind (pXq K f) else some q).bind (pan (74, nn x, 0))) ∧ o = Int32.ofNat (opX (K (nn x))) ∧ e2 = -1 ∧ PDpq9 sN V K Ev x y t N b2 i2 [])
section KSRG
variable {G : kG} {q : kP} {d : Nat} {x x0 y z xs : gd} {F : Int32 → gd → Prop} {Fv : gd → Prop} {X : String → gd → Prop} {P : Option gv → gd → Prop} {M : Int} {E : Nat → Prop} {K V : Nat → Int32} {sN : Nat → Nat → Bool} {e : Nat} {Ev : gV} {Ml N : gU} {t : Option Nat} {L : gU} {W : gOp} {f : Nat}
theorem SF_stq9 {o a b2 i2 e2 f2 : Int32} (h : SFpq9 K V sN e Ev x t L W o a b2 i2 e2 f2 y) (hk : stKq9 y z o (y.1 100 9) a b2 i2 f2 e2) (e4 : z.1 100 4 = y.1 100 4) (eu : ∀ j, z.1 42 j = y.1 42 j) (g : ∀ c k, 20 ≤ c → c < 40 → z.1 c k = y.1 c k) (e9 : z.1 100 9 = y.1 100 9) (e109 : ∀ k, z.1 109 k = y.1 109 k) : SFinq9 K V sN e Ev x t L W z := sorry
theorem GS_suq9 (g : GS y z) : ∀ c k, ccSq9 c k → ¬ (c = 60 ∧ k = 3) → ¬ c = 62 → ¬ c = 63 → z.1 c k = y.1 c k := sorry
/-- a sum that was read -/
theorem PD_xpq9 {N N2 L1 : gU} {Su : List (Int32 × gU)} {pl i j : Nat} {ro : Bool} {r : Int32} (h : PDq9 sN V K Ev x y t N Su pl ro) (hpX : pX K false f i L1 = some (j, L1 ++ N2)) (hp : CPl y z (sPs sN V K Ev N2)) (g : GS y z) (hr : r = y.1 60 3) : ∃ N', N2 = N' ++ [(54, 0, 0)] ∧ PDq9 sN V K Ev x z t (N ++ N2) (Su ++ [(r, N')]) pl ro := sorry
theorem PDp_xpq9 {N N2 L1 : gU} {Q : List (Int32 × gU)} {i j : Nat} {r b2 i2 : Int32} (h : PDpq9 sN V K Ev x y t N b2 i2 Q) (hpX : pX K false f i L1 = some (j, L1 ++ N2)) (hp : CPl y z (sPs sN V K Ev N2)) (g : GS y z) (hr : r = y.1 60 3) : ∃ N', PDpq9 sN V K Ev x z t (N ++ N2) b2 i2 (Q ++ [(r, N')]) := sorry
theorem PDp_frq9 {N : gU} {Q : List (Int32 × gU)} {b2 i2 : Int32} (h : PDpq9 sN V K Ev x y t N b2 i2 Q) (fr : ∀ c k, ccSq9 c k → z.1 c k = y.1 c k) : PDpq9 sN V K Ev x z t N b2 i2 Q := sorry
theorem kd_src174q9 (hq : kV q) (hx : W = none → RX x0 X) (hB : BB x0 x M E0) (hf : (f : Int) + om x = 16) (ha : 2 * ssm x ≤ nx x + 1) (l a b : Int32) (hl : (a = -1 ∧ PLc x b) ∨ (¬ a = -1 ∧ 0 ≤ a.toInt ∧ a.toInt < M)) (hEv : ¬ Ev.2.1 = []) (hTc : TGc sN Ev t a b) (h : ∀ y, BB x0 y M E0 → nx x < nx y → om y = om x → ssm y = ssm x + 1 → (y.1 100 9 = x.1 100 9 ∧ y.1 100 7 = x.1 100 7 ∧ y.1 60 13 = x.1 60 13 ∧ (∀ k, y.1 20 k = x.1 20 k) ∧ OPe x y) → La x y → y.1 82 (x.1 80 9).toNatClampNeg = l → SFinq9 K V sN e Ev x t L W y → Fv y) (D : Int32) (eD : D.toInt = om x + 1) :
    ∀ (y : gd) (o b2 i2 e2 : Int32), S174q9 K V sN e Ev x t L W f o a b2 i2 e2 y → GS x y → BB x0 y M E0 → (o = 0 → nx x < nx y) → (o = 0 ∨ o = 2 ∨ o = 3 ∨ o = 4 ∨ o = 16) → (¬ o = 16 → PLc y b2) → (o = 16 → b2 = b) → (¬ a = -1 ∨ o = 16 ∨ BU y) → KE G q (d + 10) zk_X7_source 174 [(0, vr 100), (1, vi l), (2, vi a), (4, vi D), (5, vi o), (6, vi b2), (7, vi i2), (8, vi e2)] [] y (rv Fv) X := sorry
theorem kd_src163q9 (hq : kV q) (hx : W = none → RX x0 X) (hB : BB x0 x M E0) (hf : (f : Int) + om x = 16) (ha : 2 * ssm x ≤ nx x + 1) (l a b : Int32) (hl : (a = -1 ∧ PLc x b) ∨ (¬ a = -1 ∧ 0 ≤ a.toInt ∧ a.toInt < M)) (hEv : ¬ Ev.2.1 = []) (hTc : TGc sN Ev t a b) (h : ∀ y, BB x0 y M E0 → nx x < nx y → om y = om x → ssm y = ssm x + 1 → (y.1 100 9 = x.1 100 9 ∧ y.1 100 7 = x.1 100 7 ∧ y.1 60 13 = x.1 60 13 ∧ (∀ k, y.1 20 k = x.1 20 k) ∧ OPe x y) → La x y → y.1 82 (x.1 80 9).toNatClampNeg = l → SFinq9 K V sN e Ev x t L W y → Fv y) (D : Int32) (eD : D.toInt = om x + 1) :
    ∀ (y : gd) (o b2 i2 e2 : Int32), S163q9 K V sN e Ev x t L W f o a b2 i2 e2 y → GS x y → BB x0 y M E0 → nx x < nx y → ¬ o = 16 → (o = 0 ∨ o = 2 ∨ o = 3 ∨ o = 4 ∨ o = 16) → PLc y b2 → (¬ a = -1 ∨ o = 16 ∨ BU y) → KE G q (d + 10) zk_X7_source 163 [(0, vr 100), (1, vi l), (2, vi a), (4, vi D), (5, vi o), (6, vi b2), (7, vi i2), (8, vi e2)] [] y (rv Fv) X := sorry
end KSRG

section KPLC
variable {G : kG} {q : kP} {d : Nat} {x x0 y z xs : gd} {F : Int32 → gd → Prop} {Fv : gd → Prop} {X : String → gd → Prop} {P : Option gv → gd → Prop} {M : Int} {E : Nat → Prop} {K V : Nat → Int32} {sN : Nat → Nat → Bool} {e : Nat} {Ev : gV} {Np : gU} {L : gU} {W : gOp} {f : Nat} {kont : Nat × gU → gOp} {tg : Option Nat}
theorem kd_placeq9 (hq : kV q) (hx : W = none → RX x0 X) (hWp : W = (pP K f (nn y) (L ++ Np)).bind kont) (hBy : BB x0 y M E0) (hA : KA K V sN e y) (hn : nn y ≤ e) (hEy : KV' K e y Ev) (D : Int32) (eF : 17 - D.toNatClampNeg = f) (hD1 : 1 ≤ D.toInt) (hD2 : D.toInt ≤ 18) (u s9 i2 : Int32) (hu12 : ¬ u = 12) (h25 : ¬ s9 = 0 ↔ y.1 23 ((y.1 100 4).toNatClampNeg + 1) = 25) (hN : still Np) (hEv : ¬ Ev.2.1 = []) (hi2 : i2 = -1) (hPD : PDq9 sN V K Ev x y tg Np [] 0 false) (h4 : (y.1 100 4).toInt = ((nn y : Nat) : Int))
    (hm6 : s9 = 0 → ∀ z, La y z → nn z = nn y + 1 → KA K V sN e z → nn z ≤ e → z.1 42 (nn y) = u → RIw K V sN e Ev x z (Np ++ [(6, nn y, 0)]))
    (hm7 : ¬ s9 = 0 → ∀ z, La y z → nn z = nn y + 1 → KA K V sN e z → nn z ≤ e → z.1 42 (nn y) = u → RIw K V sN e Ev x z (Np ++ [(7, nn y, 0)]))
    (C : Int32 → Int32 → gd → Prop)
    (hC : ∀ (i9 : Int32) (w : gd) (N3 : gU), BB x0 w M E0 → GS y w → nx y < nx w → w.1 42 (nn y) = u → RIw K V sN e Ev x w (Np ++ N3) → still (Np ++ N3) → KV' K e w Ev → W = kont (nn w, L ++ (Np ++ N3)) → PDpq9 sN V K Ev x w tg (Np ++ N3) (y.1 100 4) i9 [] → C (y.1 100 4) i9 w) :
    KE G q (d + 9) zk_X7_needFor 0 [(0, vr 100), (1, vi 2), (2, vi u)] [] y (ri (fun r4 x3 => ((s9 = (0 : Int32) → C r4 i2 x3) ∧ (¬ (s9 = (0 : Int32)) → KE G q (d + 9) zk_X7_pass 0 [(0, vr 100)] [] x3 (rv (fun x6 => KE G q (d + 9) zk_X7_sum 0 [(0, vr 100), (1, vi D)] [] x6 (ri (fun r8 x7 => KE G q (d + 9) zk_X7_need 0 [(0, vr 100), (1, vi 26)] [] x7 (rv (fun x9 => C r4 r8 x9)) X)) X)) X)))) X := sorry
end KPLC

section KSO4
variable {G : kG} {q : kP} {d : Nat} {x x0 y z xs : gd} {F : Int32 → gd → Prop} {Fv : gd → Prop} {X : String → gd → Prop} {P : Option gv → gd → Prop} {M : Int} {E : Nat → Prop} {K V : Nat → Int32} {sN : Nat → Nat → Bool} {e : Nat} {Ev : gV} {L : gU} {f : Nat} {t : Option Nat} {W : gOp}
theorem kd_srcSq9 (hq : kV q) (hx : W = none → RX x0 X) (eW : W = pR K f t (nn x) L) (hB : BB x0 x M E0) (hf : (f : Int) + om x = 16) (ha : 2 * ssm x ≤ nx x + 1) (l a b : Int32) (hl : (a = -1 ∧ PLc x b) ∨ (¬ a = -1 ∧ 0 ≤ a.toInt ∧ a.toInt < M)) (hEv : ¬ Ev.2.1 = []) (hTc : TGc sN Ev t a b) (hT : TGT sN Ev x t a) (hA : KA K V sN e x) (hn : nn x ≤ e) (hE : KV' K e x Ev) (h : ∀ y, BB x0 y M E0 → nx x < nx y → om y = om x → ssm y = ssm x + 1 → (y.1 100 9 = x.1 100 9 ∧ y.1 100 7 = x.1 100 7 ∧ y.1 60 13 = x.1 60 13 ∧ (∀ k, y.1 20 k = x.1 20 k) ∧ OPe x y) → La x y → y.1 82 (x.1 80 9).toNatClampNeg = l → SFinq9 K V sN e Ev x t L W y → Fv y) (D : Int32) (eD : D.toInt = om x + 1) (i2 e2 : Int32) (hi2 : i2 = -1) (he2 : e2 = -1) (hS : ¬ (K (nn x) = 35 ∨ K (nn x) = 10 ∨ K (nn x) = 16)) (hS2 : K (nn x) = 1 → nn x < 700 → ¬ K (nn x + 1) = 65 ∧ (K (nn x + 1) = 67 → ¬ kfi sN Ev.1 (nn x) = none)) : KE G q (d + 10) zk_X7_source 68 [(0, vr 100), (1, vi l), (2, vi a), (4, vi D), (5, vi (16 : Int32)), (6, vi b), (7, vi i2), (8, vi e2)] [] x (rv Fv) X := sorry
theorem kd_srcXq9 (hq : kV q) (hx : W = none → RX x0 X) (eW : W = pR K f t (nn x) L) (hB : BB x0 x M E0) (hf : (f : Int) + om x = 16) (ha : 2 * ssm x ≤ nx x + 1) (l a b : Int32) (hl : (a = -1 ∧ PLc x b) ∨ (¬ a = -1 ∧ 0 ≤ a.toInt ∧ a.toInt < M)) (hEv : ¬ Ev.2.1 = []) (hTc : TGc sN Ev t a b) (hT : TGT sN Ev x t a) (hA : KA K V sN e x) (hn : nn x ≤ e) (hE : KV' K e x Ev) (h : ∀ y, BB x0 y M E0 → nx x < nx y → om y = om x → ssm y = ssm x + 1 → (y.1 100 9 = x.1 100 9 ∧ y.1 100 7 = x.1 100 7 ∧ y.1 60 13 = x.1 60 13 ∧ (∀ k, y.1 20 k = x.1 20 k) ∧ OPe x y) → La x y → y.1 82 (x.1 80 9).toNatClampNeg = l → SFinq9 K V sN e Ev x t L W y → Fv y) (D : Int32) (eD : D.toInt = om x + 1) (o i2 e2 : Int32) (hi2 : i2 = -1) (he2 : e2 = -1) (hcy : ∀ c k, ccSq9 c k → y.1 c k = x.1 c k) (ho : (o = 2 ∧ K (nn x) = 35) ∨ (o = 3 ∧ K (nn x) = 10) ∨ (o = 4 ∧ K (nn x) = 16)) (gy : GS x y) (hBy : BB x0 y M E0) (hRy : RIw K V sN e Ev x y (pme t)) (eny : nn y = nn x + 1) (c7 : nn x < 700) (hbu : ¬ a = -1 ∨ BU y) : KE G q (d + 10) zk_X7_source 68 [(0, vr 100), (1, vi l), (2, vi a), (4, vi D), (5, vi o), (6, vi b), (7, vi i2), (8, vi e2)] [] y (rv Fv) X := sorry
end KSO4

section KSO5
variable {G : kG} {q : kP} {d : Nat} {x x0 y z xs : gd} {F : Int32 → gd → Prop} {Fv : gd → Prop} {X : String → gd → Prop} {P : Option gv → gd → Prop} {M : Int} {E : Nat → Prop} {K V : Nat → Int32} {sN : Nat → Nat → Bool} {e : Nat} {Ev : gV} {L : gU} {f : Nat} {t : Option Nat} {W : gOp}
theorem kd_srcRq9 (hq : kV q) (hx : W = none → RX x0 X) (eW : W = pR K f t (nn x) L) (hB : BB x0 x M E0) (hf : (f : Int) + om x = 16) (ha : 2 * ssm x ≤ nx x + 1) (l a b : Int32) (hl : (a = -1 ∧ PLc x b) ∨ (¬ a = -1 ∧ 0 ≤ a.toInt ∧ a.toInt < M)) (hEv : ¬ Ev.2.1 = []) (hTc : TGc sN Ev t a b) (hT : TGT sN Ev x t a) (hA : KA K V sN e x) (hn : nn x ≤ e) (hE : KV' K e x Ev) (h : ∀ y, BB x0 y M E0 → nx x < nx y → om y = om x → ssm y = ssm x + 1 → (y.1 100 9 = x.1 100 9 ∧ y.1 100 7 = x.1 100 7 ∧ y.1 60 13 = x.1 60 13 ∧ (∀ k, y.1 20 k = x.1 20 k) ∧ OPe x y) → La x y → y.1 82 (x.1 80 9).toNatClampNeg = l → SFinq9 K V sN e Ev x t L W y → Fv y) (D : Int32) (eD : D.toInt = om x + 1) (i2 e2 : Int32) (hi2 : i2 = -1) (he2 : e2 = -1) (hk1 : K (nn x) = 1) (hk2 : nn x < 700 → K (nn x + 1) = 65 ∨ (K (nn x + 1) = 67 ∧ kfi sN Ev.1 (nn x) = none)) : KE G q (d + 10) zk_X7_source 68 [(0, vr 100), (1, vi l), (2, vi a), (4, vi D), (5, vi (0 : Int32)), (6, vi b), (7, vi i2), (8, vi e2)] [] x (rv Fv) X := sorry
theorem kd_sourceq9 (hq : kV q) (hx : W = none → RX x0 X) (eW : W = pR K f t (nn x) L) (hB : BB x0 x M E0) (hf : (f : Int) + om x = 16) (ha : 2 * ssm x ≤ nx x + 1) (l a b : Int32) (hl : (a = -1 ∧ PLc x b) ∨ (¬ a = -1 ∧ 0 ≤ a.toInt ∧ a.toInt < M)) (hEv : ¬ Ev.2.1 = []) (hTc : TGc sN Ev t a b) (hT : TGT sN Ev x t a) (hA : KA K V sN e x) (hn : nn x ≤ e) (hE : KV' K e x Ev) (h : ∀ y, BB x0 y M E0 → nx x < nx y → om y = om x → ssm y = ssm x + 1 → (y.1 100 9 = x.1 100 9 ∧ y.1 100 7 = x.1 100 7 ∧ y.1 60 13 = x.1 60 13 ∧ (∀ k, y.1 20 k = x.1 20 k) ∧ OPe x y) → La x y → y.1 82 (x.1 80 9).toNatClampNeg = l → SFinq9 K V sN e Ev x t L W y → Fv y) : KE G q (d + 10) zk_X7_source 0 [(0, vr 100), (1, vi l), (2, vi a), (3, vi b)] [] x (rv Fv) X := sorry
end KSO5

section KTG
variable {G : kG} {q : kP} {d : Nat} {x x0 y z xs : gd} {F : Int32 → gd → Prop} {Fv : gd → Prop} {X : String → gd → Prop} {P : Option gv → gd → Prop} {M : Int} {E : Nat → Prop} {K V : Nat → Int32} {sN : Nat → Nat → Bool} {e : Nat} {Ev : gV} {Ml N : gU}
theorem kd_setTargetq9 (hq : kV q) (hx : ¬ ((K (nn x) = 1 ∧ nn x < 700) ∧ K (nn x + 1) = 50 ∧ nn x + 1 < 700) → RX x0 X) (hA : KA K V sN e x) (hn : nn x ≤ e) (hE : KV' K e x Ev) (hB : BB x0 x M E) (hM : (x.1 100 9).toInt ≤ M) (h : ∀ t y, BB x0 y M E → nx y = nx x + 2 → om y = om x → ssm y = ssm x → vp_in t 702 → ((y.1 43 t.toNatClampNeg = -1 ∧ PLc y t) ∨ (¬ y.1 43 t.toNatClampNeg = -1 ∧ 0 ≤ (y.1 43 t.toNatClampNeg).toInt ∧ (y.1 43 t.toNatClampNeg).toInt < M)) → y.1 60 13 = x.1 60 13 → t = x.1 100 4 → ((K (nn x) = 1 ∧ nn x < 700) ∧ K (nn x + 1) = 50 ∧ nn x + 1 < 700) → nn y = nn x + 2 → La x y → KA K V sN e y → nn y ≤ e → KV' K e y Ev → y.1 42 (nn x + 1) = 0 → ((y.1 43 (nn x) = -1 ∧ kfi sN Ev.1 (nn x) = none ∧ y.1 42 (nn x) = 6) ∨ (¬ y.1 43 (nn x) = -1 ∧ ¬ kfi sN Ev.1 (nn x) = none ∧ y.1 42 (nn x) = 0)) → OPe x y → TGc sN Ev (some (nn x)) (y.1 43 (nn x)) t → (∀ c k, ccSq9 c k → y.1 c k = x.1 c k) → F t y) : KE G q (d + 8) zk_X7_setTarget 0 [(0, vr 100)] [] x (ri F) X := sorry
end KTG

section KRW
variable {G : kG} {q : kP} {d : Nat} {x x0 y z xs : gd} {F : Int32 → gd → Prop} {Fv : gd → Prop} {X : String → gd → Prop} {P : Option gv → gd → Prop} {M : Int} {E : Nat → Prop} {K V : Nat → Int32} {sN : Nat → Nat → Bool} {e : Nat} {Ev : gV} {Ml N : gU} {W : gTs}
theorem kd_rowStatementq9 (hq : kV q) (f c9 : Nat) (L : gU) (hx : W = none → RX x0 X) (hx7 : 700 ≤ nn x → RX x0 X) (eW : W = pS1 K f c9 (nn x) L) (hk1 : K (nn x) = 1) (hk65 : nn x < 700 → K (nn x + 1) = 65) (hf : (f : Int) + om x = 16) (hA : KA K V sN e x) (hn : nn x ≤ e) (hE : KV' K e x Ev) (hEv : ¬ Ev.2.1 = []) (hB : BB x0 x M E0) (ha : 2 * ssm x ≤ nx x + 1) (l : Int32) (hln : l = x.1 25 (nn x)) (h : ∀ y, BB x0 y M E0 → nx x + 2 ≤ nx y → om y = om x → ssm y = ssm x + 1 → y.1 60 13 = x.1 60 13 → KV' K e y Ev → La x y → ∀ N, RIw K V sN e Ev x y N → still N → W = pup c9 (78, nn x, 0) (pt K 67 (nn y, L ++ N)) → y.1 100 9 = x.1 100 9 → y.1 100 7 = x.1 100 7 → OPe x y → CGq9 sN V K Ev x y (N ++ [(78, nn x, 0)]) → Fv y) : KE G q (d + 10) zk_X7_rowStatement 0 [(0, vr 100), (1, vi l)] [] x (rv Fv) X := sorry
end KRW

section KLT
variable {G : kG} {q : kP} {d : Nat} {x x0 y z xs : gd} {F : Int32 → gd → Prop} {Fv : gd → Prop} {X : String → gd → Prop} {P : Option gv → gd → Prop} {M : Int} {E : Nat → Prop} {K V : Nat → Int32} {sN : Nat → Nat → Bool} {e : Nat} {Ev : gV} {Ml N : gU}
theorem kd_newLocalq9 (hq : kV q) (hx : (¬ ((K (nn x + 1) = 1 ∧ nn x + 1 < 700) ∧ (x.1 100 7).toInt < 8 ∧ K (nn x + 2) = 50 ∧ nn x + 2 < 700) ∨ 700 ≤ nn x) → RX x0 X) (hk26 : K (nn x) = 26) (hA : KA K V sN e x) (hn : nn x ≤ e) (hE : KV' K e x Ev) (hHd : (x.1 113 ((om x).toNat - 1)).toNatClampNeg = Ev.2.1.headD 0) (hB : BB x0 x M E) (h1 : 1 ≤ om x) (h : ∀ t y, BB x0 y M E → nx y = nx x + 3 → om y = om x → ssm y = ssm x → tk y t → y.1 100 9 = x.1 100 9 → (y.1 100 9).toInt + 1 ≤ (y.1 100 7).toInt → y.1 60 13 = x.1 60 13 → t.toNatClampNeg = nn x + 1 → ((K (nn x + 1) = 1 ∧ nn x + 1 < 700) ∧ (x.1 100 7).toInt < 8 ∧ K (nn x + 2) = 50 ∧ nn x + 2 < 700) → (y.1 100 7).toInt = (x.1 100 7).toInt + 1 → nn y = nn x + 3 → Lb x y → KV' K e y Ev → RIw K V sN e Ev x y [(23, nn x + 1, 0)] → (∀ c k, 111 ≤ c → c ≤ 113 → y.1 c k = x.1 c k) → (∀ c k, ccSq9 c k → y.1 c k = x.1 c k) → F t y) : KE G q (d + 8) zk_X7_newLocal 0 [(0, vr 100)] [] x (ri F) X := sorry
end KLT

/-- a statement is opened -/
def Puq9 (x y : gd) (k s : Int32) : Prop := (∀ c j, ccSq9 c j → ¬ (c = 100 ∧ j = 13) → ¬ ((c = 111 ∨ c = 112) ∧ j = (x.1 100 13).toNatClampNeg) → y.1 c j = x.1 c j) ∧ (y.1 100 13).toNatClampNeg = (x.1 100 13).toNatClampNeg + 1 ∧ y.1 111 (x.1 100 13).toNatClampNeg = k ∧ y.1 112 (x.1 100 13).toNatClampNeg = s ∧ ¬ x.1 100 5 = 0
/-- one with the step t is closed -/
def Poq9 (x y : gd) (t : Nat) : Prop := (∀ c j, ccSq9 c j → ¬ (c = 100 ∧ j = 13) → y.1 c j = x.1 c j) ∧ (y.1 100 13).toNatClampNeg + 1 = (x.1 100 13).toNatClampNeg ∧ ¬ x.1 111 (y.1 100 13).toNatClampNeg = 0 ∧ (x.1 112 (y.1 100 13).toNatClampNeg).toInt = (t : Nat) ∧ ¬ x.1 100 5 = 0
/-- from x, where the innermost statement (step n) is closed already but not in the events, to y by the events N -/
def CGnq9 (sN : Nat → Nat → Bool) (V K : Nat → Int32) (n : Nat) (Ev : gV) (x y : gd) (N : gU) : Prop := ∀ Ec S k w d P, eqE Ec Ev → CCpq9 sN V K x (Ec, S, k, rg0, w) d P → CCpq9 sN V K y (cds sN K N (Ec, S, n :: k, rg0, w)) (ces K V N d) (P ++ tPs sN V K N Ev) ∧ eqE (cds sN K N (Ec, S, n :: k, rg0, w)).1 (exs N Ev) ∧ (cds sN K N (Ec, S, n :: k, rg0, w)).2.2.2.1 = rg0
/-- an if ends, and those around it -/
def CEq9 (sN : Nat → Nat → Bool) (V K : Nat → Int32) (n : Nat) (x y : gd) (N : gU) : Prop := ∀ Ec S k r w d P, CCpq9 sN V K x (Ec, S, k, r, w) d P → ∃ S' k', cds sN K ([(63, 0, 0)] ++ N) (Ec, S, n :: k, r, w) = (Ec, S', k', r, w) ∧ CCpq9 sN V K y (Ec, S', k', r, w) d P
section KCK
variable {sN : Nat → Nat → Bool} {V K : Nat → Int32} {Ev Ec Ec' : gV} {x y z w9 x1 x4 : gd} {M N N' : gU} {e i j n t z9 v9 : Nat} {d : Nat × Int32 × List (Int32 × Bool)} {P : List (Int32 × Int32)} {S : List gSt} {k k' : List Nat} {r r' : gRg} {w : List (Nat × Nat) × List (Nat × gU)} {kk s a b o v : Int32}
theorem CCp_stkq9 (h : CCpq9 sN V K x (Ec, S, k, r, w) d P) (g : ∀ c j, ccSq9 c j → ¬ (c = 100 ∧ (j = 13 ∨ j = 5)) → ¬ c = 111 → ¬ c = 112 → y.1 c j = x.1 c j) (hs : (¬ y.1 100 5 = 0 → SKk y (y.1 100 13).toNatClampNeg k') ∧ (y.1 100 5 = 0 → k' = [])) : CCpq9 sN V K y (Ec', S, k', r', w) d P := sorry
theorem CCp_Eq9 (h : CCpq9 sN V K x (Ec, S, k, r, w) d P) : CCpq9 sN V K x (Ec', S, k, r', w) d P := sorry
theorem CCp_pushq9 (h : CCpq9 sN V K x (Ec, S, k, r, w) d P) (g : Puq9 x y kk s) (hk : ¬ kk = 0) (hs : s.toInt = (j : Nat)) : CCpq9 sN V K y (Ec', S, j :: k, r', w) d P := sorry
theorem CCp_popq9 (h : CCpq9 sN V K x (Ec, S, k, r, w) d P) (g : Poq9 x y t) : ∃ k', k = t :: k' ∧ ∀ Ec' r', CCpq9 sN V K y (Ec', S, k', r', w) d P := sorry
/-- a step's target is set -/
theorem CCp_toq9 (h : CCpq9 sN V K x (Ec, S, k, r, w) d P) (ey : y = si x 84 j v) (hv : v.toInt = (n : Nat)) (h8 : ¬ x.1 81 j = 8) : CCpq9 sN V K y (Ec', cTo S j n, k, r', w) d P := sorry
theorem CCp_smq9 (h : CCpq9 sN V K x (Ec, S, k, r, w) d P) : (x.1 80 9).toInt = (S.length : Nat) := sorry
/-- if, while -/
theorem CG_testq9 {N2 : gU} (h : PDq9 sN V K Ev x y none N [(s, N2)] 0 false) (hEv : ¬ Ev.2.1 = []) (hE : KV' K e y Ev) (a : stKq9 y z 17 (y.1 100 9) (-1) (-1) (-1) s (-1)) (fr : ∀ c k, ccSq9 c k → w9.1 c k = z.1 c k) (p : Puq9 w9 x1 kk (y.1 80 9)) (hk : ¬ kk = 0) (hv : v9 = 60 ∨ v9 = 61) : CGq9 sN V K Ev x x1 (N ++ [(v9, i, 0)] ++ [(20, z9, 0)]) := sorry
/-- a lock's block -/
theorem CG_lockq9 (fr0 : ∀ c k, ccSq9 c k → y.1 c k = x.1 c k) (hE : KV' K e y Ev) (hoi : a.toInt = (j : Nat)) (ha : stKq9 y z 5 (y.1 100 9) b a (-1) (-1) (-1)) (fr : ∀ c k, ccSq9 c k → w9.1 c k = z.1 c k) (p : Puq9 w9 x1 2 (y.1 80 9)) (hl : LKdq9 K z (y.1 80 9).toNatClampNeg i) : CGq9 sN V K Ev x x1 ([(65, i, j)] ++ [(20, 2, 0)]) := sorry
/-- an if ends -/
theorem CE_0q9 (ey : y = si x 84 n (x.1 80 9)) (h8 : ¬ x.1 81 n = 8) : CEq9 sN V K n x y [] := sorry
theorem CE_moreq9 (h : CEq9 sN V K n x y N) (p : Poq9 y z t) (ey : w9 = si z 84 t (z.1 80 9)) (h8 : ¬ z.1 81 t = 8) : CEq9 sN V K n x w9 (N ++ [(63, 0, 0)]) := sorry
theorem CE_nq9 (h : CEq9 sN V K n x y N) (hN : ∀ v ∈ N, v = ((63, 0, 0) : Nat × Nat × Nat)) : CGnq9 sN V K n Ev x y ([(63, 0, 0)] ++ N) := sorry
/-- the end of an if's or else's block -/
theorem CG_21nq9 (fr : ∀ c k, ccSq9 c k → x1.1 c k = x.1 c k) (p : Poq9 x1 x4 t) (hz : z9 = 3 ∨ z9 = 4) (h : CGnq9 sN V K t (exV Ev (21, z9, 0)) x4 y N) : CGq9 sN V K Ev x y ([(21, z9, 0)] ++ N) := sorry
/-- of a while's -/
theorem CG_21wq9 (fr : ∀ c k, ccSq9 c k → x1.1 c k = x.1 c k) (p : Poq9 x1 x4 t) (hE : KV' K e x4 (exV Ev (21, 1, 0))) (hs : s.toInt = (t : Nat)) (a : stKq9 x4 y 20 (x4.1 100 9) s (-1) (-1) (-1) (-1)) (ez : z = si y 84 t (y.1 80 9)) (h8 : ¬ y.1 81 t = 8) : CGq9 sN V K Ev x z [(21, 1, 0)] := sorry
/-- of a lock's -/
theorem CG_21lq9 (fr : ∀ c k, ccSq9 c k → x1.1 c k = x.1 c k) (p : Poq9 x1 x4 t) (hE : KV' K e x4 (exV Ev (21, 2, 0))) (ht : (t : Int) < (x4.1 80 9).toInt) (h5 : x4.1 81 t = 5) (a : stKq9 x4 y 6 (x4.1 100 9) b (x4.1 85 t) (-1) (-1) (-1)) (h82 : y.1 82 (x4.1 80 9).toNatClampNeg = x4.1 82 t) : CGq9 sN V K Ev x y [(21, 2, 0)] := sorry
/-- of a thread's -/
theorem CG_21tq9 (fr : ∀ c k, ccSq9 c k → x1.1 c k = x.1 c k) (f4 : ∀ c j, ccSq9 c j → ¬ (c = 100 ∧ j = 13) → x4.1 c j = x1.1 c j) (h13 : (x1.1 100 13).toNatClampNeg = 1) (h111 : x1.1 111 0 = 0) (h5 : ¬ x1.1 100 5 = 0) (a : stKq9 x4 y 21 0 (-1) (-1) (-1) (-1) (-1)) (fz : ∀ c k, ¬ (c = 100 ∧ k = 5) → z.1 c k = y.1 c k) (z5 : z.1 100 5 = 0) (o4 : (x4.1 100 13).toNatClampNeg = 0) (hE : (exV Ev (21, 0, 0)).1 = []) : CGq9 sN V K Ev x z [(21, 0, 0)] := sorry
/-- else -/
theorem CG_62q9 (hE : KV' K e x Ev) (a : stKq9 x y 20 (x.1 100 9) (-1) (-1) (-1) (-1) (-1)) (ez : z = si y 84 n (y.1 80 9)) (h8 : ¬ y.1 81 n = 8) (fr : ∀ c k, ccSq9 c k → w9.1 c k = z.1 c k) (p : Puq9 w9 x1 kk (x.1 80 9)) (hk : ¬ kk = 0) : CGnq9 sN V K n Ev x x1 [(62, i, 0)] := sorry
theorem CGn_20q9 (h : CGnq9 sN V K n Ev x y [(62, i, 0)]) : CGnq9 sN V K n Ev x y ([(62, i, 0)] ++ [(20, z9, 0)]) := sorry
end KCK

section KOPF
variable {G : kG} {q : kP} {d : Nat} {x x0 y z xs : gd} {F : Int32 → gd → Prop} {Fv : gd → Prop} {X : String → gd → Prop} {P : Option gv → gd → Prop} {M : Int} {E : Nat → Prop} {K V : Nat → Int32} {sN : Nat → Nat → Bool} {e : Nat} {Ev Ev9 : gV} {Ml N : gU}
theorem kd_enterq9 (hq : kV q) (hB : BB x0 x M E) (ho : om x ≤ 17) (hsm : ssm x < 1000) (k s : Int32) (h5 : TIk x ∨ k = 3 ∨ k = 4 ∨ k = 5) (hn : NB x k s) (hE : ∀ i : Nat, (i : Int) < ssm x → E i → (i : Int) = s.toInt → stg x i = -1) (h : ∀ y, BB x0 y M (fun i => (i = 1000000 ∧ k = 5) ∨ (i ≠ 1000000 ∧ E i ∧ ¬ (i : Int) = s.toInt)) → nx y = nx x → ssm y = ssm x → om y = om x + 1 → (∀ c j, c < 100 → y.1 c j = x.1 c j) → y.1 100 4 = x.1 100 4 → fm (fun c j => (c = 100 ∧ j = 13) ∨ (111 ≤ c ∧ c ≤ 113 ∧ j = (x.1 100 13).toNatClampNeg)) x y → y.1 111 (x.1 100 13).toNatClampNeg = k → y.1 113 (x.1 100 13).toNatClampNeg = x.1 100 9 → Puq9 x y k s → Fv y) : KT G q d zk_X7_enter 0 [(0, vr 100), (1, vi k), (2, vi s)] [] x (rv Fv) := sorry
theorem kd_openBlockq9 (hq : kV q) (k s : Int32) (hx : ¬ (K (nn x) = 63 ∧ nn x < 700) → RX x0 X) (hR : RIw K V sN e Ev xs x Ml) (hV : KV' K e x Ev9) {u B : List Nat} {z9 : Nat} (hz : k.toInt = (z9 : Nat)) (hS : SKs x (om x).toNat u B) (hB : BB x0 x M E) (ho : om x ≤ 17) (hsm : ssm x < 1000) (hk5 : ¬ k = 5) (h5 : TIk x ∨ k = 3 ∨ k = 4 ∨ k = 5) (hn : NB x k s) (hE : ∀ i : Nat, (i : Int) < ssm x → E i → i = 1000000 ∨ ((i : Int) = s.toInt ∧ stg x i = -1)) (h : ∀ y, BB x0 y M E0 → nx y = nx x + 1 → ssm y = ssm x → om y = om x + 1 → y.1 60 13 = x.1 60 13 → K (nn x) = 63 → nn x < 700 → nn y = nn x + 1 → Lb x y → RIw K V sN e Ev xs y Ml → KV' K e y Ev9 → SKs y (om y).toNat (z9 :: u) ((x.1 100 9).toNatClampNeg :: B) → y.1 100 7 = x.1 100 7 → (∃ w, (∀ c k, ccSq9 c k → w.1 c k = x.1 c k) ∧ Puq9 w y k s) → Fv y) : KE G q (d + 8) zk_X7_openBlock 0 [(0, vr 100), (1, vi k), (2, vi s)] [] x (rv Fv) X := sorry
end KOPF

section KTF2
variable {G : kG} {q : kP} {d : Nat} {x x0 y z xs : gd} {F : Int32 → gd → Prop} {Fv : gd → Prop} {X : String → gd → Prop} {P : Option gv → gd → Prop} {M : Int} {E : Nat → Prop} {K V : Nat → Int32} {sN : Nat → Nat → Bool} {e : Nat} {Ev : gV} {Ml N : gU} {W : gTs}
theorem kd_testq9 (hq : kV q) (k : Int32) (f c9 z9 v9 : Nat) (L : gU) {u B : List Nat} (hx : W = none → RX x0 X) (eW : W = eX K u c9 (nn x) L) (hf : (f : Int) + om x = 16) (hkz : (k = 1 ∧ K (nn x) = 41 ∧ z9 = 1 ∧ v9 = 61) ∨ (k = 3 ∧ K (nn x) = 24 ∧ z9 = 3 ∧ v9 = 60)) (hA : KA K V sN e x) (hn : nn x ≤ e) (hV : KV' K e x Ev) (hEv : ¬ Ev.2.1 = []) (hS : SKs x (om x).toNat u B) (hB : BB x0 x M E) (hE : ∀ i, E i → i = 1000000) (h1 : 1 ≤ om x) (ho : om x ≤ 16) (ha : 2 * ssm x + om x ≤ nx x) (hk : k = 1 ∨ k = 3) (h5 : TIk x ∨ k = 3) (h : ∀ y, BB x0 y M E0 → nx x < nx y → om y = om x + 1 → 2 * ssm y + om y ≤ nx y → y.1 60 13 = x.1 60 13 → Lb x y → KV' K e y Ev → SKs y (om y).toNat (z9 :: u) (Ev.1.length :: B) → y.1 100 7 = x.1 100 7 → ∀ N, RIw K V sN e Ev x y (N ++ [(20, z9, 0)]) → still N → W = eS K (z9 :: u) c9 (nn y) (L ++ (N ++ [(20, z9, 0)])) → CGq9 sN V K Ev x y (N ++ [(20, z9, 0)]) → Fv y) : KE G q (d + 10) zk_X7_testStatement 0 [(0, vr 100), (1, vi k)] [] x (rv Fv) X := sorry
end KTF2

section KEF
variable {G : kG} {q : kP} {d : Nat} {x x0 y z : gd} {F : Int32 → gd → Prop} {Fv : gd → Prop} {X : String → gd → Prop} {P : Option gv → gd → Prop} {M : Int} {E : Nat → Prop} {sN : Nat → Nat → Bool} {V : Nat → Int32}
theorem kd_endIfq9 (hq : kV q) (K : Nat → Int32) (u B : List Nat) (c9 j9 : Nat) (L : gU) (hS : SKs x (om x).toNat u B) (hB : BB x0 x M E) (s : Int32) {n : Nat} (es : s.toInt = n) (hn : (n : Int) < ssm x) (hsm : ssm x < 400) (hop : sop x n = 17 ∨ sop x n = 20) (hE : ∀ i : Nat, (i : Int) < ssm x → E i → i = n) (h : ∀ y, BB x0 y M E0 → nx y = nx x → ssm y = ssm x → om y ≤ om x → (1 ≤ om x → 1 ≤ om y) → y.1 60 13 = x.1 60 13 → fm (fun c k => c = 84 ∨ (c = 100 ∧ k = 13)) x y → ∀ uy N, SKs y (om y).toNat uy B → n63 N → eS K u c9 j9 L = eS K uy c9 j9 (L ++ N) → CEq9 sN V K n x y N → Fv y) : KT G q d zk_X7_endIf 0 [(0, vr 100), (1, vi s)] [] x (rv Fv) := sorry
end KEF

section KCLF
variable {G : kG} {q : kP} {d : Nat} {x x0 y z xs : gd} {F : Int32 → gd → Prop} {Fv : gd → Prop} {X : String → gd → Prop} {P : Option gv → gd → Prop} {M : Int} {E : Nat → Prop} {K V : Nat → Int32} {sN : Nat → Nat → Bool} {e : Nat} {Ev : gV} {Ml N : gU} {W : gTs}
theorem kd_openElseq9 (hq : kV q) (c9 : Nat) (L : gU) {u : List Nat} (hx : W = none → RX x0 X) (eW : W = eC K 3 u c9 (nn x) L) (hul : (u.length : Int) = om x) (hA : KA K V sN e x) (hn0 : nn x ≤ e) (hN9 : EN K e x u Ev) (hB : BB x0 x M E) (s : Int32) {n : Nat} (es : s.toInt = n) (hn : (n : Int) < ssm x) (h1 : 1 ≤ om x) (ho : om x ≤ 16) (ha : 2 * ssm x + om x ≤ nx x) (hop : sop x n = 17) (hE : ∀ i : Nat, (i : Int) < ssm x → E i → i = n) (hs : x.1 23 (x.1 100 4).toNatClampNeg = 48) (h : ∀ y N u9, (BB x0 y M E0 ∧ W = eS K u9 c9 (nn y) (L ++ N) ∨ (BB x0 y M E1 ∧ y.1 23 (y.1 100 4).toNatClampNeg = 54) ∧ W = eX K u9 c9 (nn y) (L ++ N)) → RIw K V sN e Ev x y N → EN K e y u9 (exs N Ev) → Lb x y → y.1 100 7 = x.1 100 7 → nx x < nx y → ssm y = ssm x + 1 → om y = om x + 1 → 2 * ssm y + om y ≤ nx y + 2 → y.1 60 13 = x.1 60 13 → CGnq9 sN V K n Ev x y N → Fv y) : KE G q (d + 9) zk_X7_openElse 0 [(0, vr 100), (1, vi s)] [] x (rv Fv) X := sorry
theorem kd_endThreadq9 (hq : kV q) (hB : BB x0 x M E) (ho : om x = 0) (hM : M ≤ (x.1 60 13).toInt) (hE : ∀ i : Nat, (i : Int) < ssm x → ¬ E i) (ha : 2 * ssm x + 2 ≤ nx x) (h : ∀ y, OT x0 y → nx y = nx x → fm (fun c k => (81 ≤ c ∧ c ≤ 89 ∧ k = (x.1 80 9).toNatClampNeg) ∨ (c = 80 ∧ k = 9) ∨ (c = 100 ∧ k = 5)) x y → (∃ w, stKq9 x w 21 0 (-1) (-1) (-1) (-1) (-1) ∧ (∀ c k, ¬ (c = 100 ∧ k = 5) → y.1 c k = w.1 c k) ∧ y.1 100 5 = 0) → Fv y) : KT G q (d + 1) zk_X7_endThread 0 [(0, vr 100)] [] x (rv Fv) := sorry
end KCLF

section KCLG
variable {G : kG} {q : kP} {d : Nat} {x x0 y z xs : gd} {F : Int32 → gd → Prop} {Fv : gd → Prop} {X : String → gd → Prop} {P : Option gv → gd → Prop} {M : Int} {E : Nat → Prop} {K V : Nat → Int32} {sN : Nat → Nat → Bool} {e : Nat} {Ev : gV} {Ml N : gU} {W : gTs}
theorem kd_closeBlockq9 (hq : kV q) (c9 : Nat) (L : gU) {u : List Nat} (hx : W = none → RX x0 X) (eW : W = eS K u c9 (nn x) L) (hk64 : K (nn x) = 64) (hA : KA K V sN e x) (hn0 : nn x ≤ e) (hN9 : EN K e x u Ev) (hB : BB x0 x (x.1 60 13).toInt E0) (h1 : 1 ≤ om x) (ho : om x ≤ 17) (ha : 2 * ssm x + om x ≤ nx x) (h : ∀ y N u9, (BB x0 y (y.1 60 13).toInt E0 ∧ W = eS K u9 c9 (nn y) (L ++ N) ∨ (BB x0 y (y.1 60 13).toInt E1 ∧ y.1 23 (y.1 100 4).toNatClampNeg = 54) ∧ W = eX K u9 c9 (nn y) (L ++ N)) → 1 ≤ om y → om y ≤ 17 → 2 * ssm y + om y ≤ nx y → RIw K V sN e Ev x y N → EN K e y u9 (exs N Ev) → Lb x y → y.1 100 7 = x.1 100 7 → nx x < nx y → CGq9 sN V K Ev x y N → Fv y) (hOT : ∀ y N, OT x0 y → RIw K V sN e Ev x y N → (exs N Ev).1 = [] → (exs N Ev).2.1 = [] → Lb x y → W = some (c9, nn y, L ++ N) → nx x < nx y → CGq9 sN V K Ev x y N → Fv y) : KE G q (d + 10) zk_X7_closeBlock 0 [(0, vr 100)] [] x (rv Fv) X := sorry
end KCLG

section KSF
variable {G : kG} {q : kP} {d : Nat} {x x0 y z xs : gd} {F : Int32 → gd → Prop} {Fv : gd → Prop} {X : String → gd → Prop} {P : Option gv → gd → Prop} {M : Int} {E : Nat → Prop} {K V : Nat → Int32} {sN : Nat → Nat → Bool} {e : Nat} {Ev : gV} {Ml N : gU} {W : gTs}
theorem CG_77q9 {i : Nat} : CGq9 sN V K Ev x x [(77, i, 0)] := sorry
theorem CG_someq9 {t0 : Nat} (h : CGsq9 sN V K Ev x y (some t0) N) (hl : LKdq9 K y (x.1 80 9).toNatClampNeg t0) : CGq9 sN V K Ev x y N := sorry
/-- let -/
theorem CG_letq9 {i j : Nat} (fr0 : ∀ c k, ccSq9 c k → y.1 c k = x.1 c k) (h : CGsq9 sN V K Ev y z none N) (hl : LKdq9 K z (y.1 80 9).toNatClampNeg (i - 1)) (hN : still N) (fr : ∀ c k, ccSq9 c k → xs.1 c k = z.1 c k) : CGq9 sN V K Ev x xs ([(23, i, 0)] ++ N ++ [(22, i, j)]) := sorry
theorem kd_statementq9 (hq : kV q) (c9 : Nat) (L : gU) {u : List Nat} (hx : W = none → RX x0 X) (eW : W = eX K u c9 (nn x) L) (hc9 : (x.1 100 7).toInt = (c9 : Nat)) (hA : KA K V sN e x) (hn0 : nn x ≤ e) (hN9 : EN K e x u Ev) (hI : IT x0 x) (h : ∀ y N u9 (c8 : Nat), BB x0 y (y.1 60 13).toInt E0 → 1 ≤ om y → om y ≤ 17 → 2 * ssm y + om y ≤ nx y → RIw K V sN e Ev x y N → EN K e y u9 (exs N Ev) → Lb x y → (y.1 100 7).toInt = (c8 : Nat) → W = eS K u9 c8 (nn y) (L ++ N) → nx x < nx y → CGq9 sN V K Ev x y N → Fv y) : KE G q (d + 12) zk_X7_statement 0 [(0, vr 100)] [] x (rv Fv) X := sorry
end KSF

/-- outside a thread, from x to y by the events M -/
def CGoq9 (sN : Nat → Nat → Bool) (V K : Nat → Int32) (E : gV) (x y : gd) (M : gU) : Prop := ∀ c d P, eqE c.1 E → rgO c.2.2.2.1 → CCpq9 sN V K x c d P → CCpq9 sN V K y (cds sN K M c) (ces K V M d) (P ++ tPs sN V K M E) ∧ eqE (cds sN K M c).1 (exs M E) ∧ rgO (cds sN K M c).2.2.2.1
/-- a thread begins -/
def CGbq9 (sN : Nat → Nat → Bool) (V K : Nat → Int32) (E : gV) (x y : gd) (M : gU) : Prop := ∀ c d P, eqE c.1 E → rgO c.2.2.2.1 → CCpq9 sN V K x c d P → CCpq9 sN V K y (cds sN K M c) (ces K V M d) (P ++ tPs sN V K M E) ∧ eqE (cds sN K M c).1 (exs M E) ∧ (cds sN K M c).2.2.2.1 = rg0
section KCDF
variable {G : kG} {q9 : kP} {dd : Nat} {Fv : gd → Prop}
variable {sN : Nat → Nat → Bool} {V K : Nat → Int32} {Ev Ec Ec' E E' : gV} {x y z w9 : gd} {M N N' : gU} {e i j n t b9 : Nat} {d d' : Nat × Int32 × List (Int32 × Bool)} {P Q : List (Int32 × Int32)} {S : List gSt} {k k' : List Nat} {r r' : gRg} {w w' : List (Nat × Nat) × List (Nat × gU)} {s m v : Int32}
theorem CCp_genq9 (h : CCpq9 sN V K x (Ec, S, k, r, w) d P) (hp : PR y (P ++ Q)) (g : ∀ c j, 80 ≤ c → c < 90 → y.1 c j = x.1 c j) (g25 : ∀ j, y.1 25 j = x.1 25 j) (hs : (¬ y.1 100 5 = 0 → SKk y (y.1 100 13).toNatClampNeg k') ∧ (y.1 100 5 = 0 → k' = [])) (hb : (y.1 60 10).toInt = w'.1.length ∧ ∀ (t : Nat) (q : Nat × Nat), w'.1[t]? = some q → (y.1 72 t).toInt = q.1 ∧ y.1 73 t = Int32.ofNat q.2) (hc : CEl y d'.2.2) (h5 : (y.1 60 14).toInt = (clF 35 w'.2).length ∧ ∀ k N, (clF 35 w'.2)[k]? = some N → SUc (P ++ Q) (y.1 76 k) (sPs sN V K E0v N)) (h6 : (y.1 60 16).toInt = (clF 36 w'.2).length ∧ ∀ k N, (clF 36 w'.2)[k]? = some N → SUc (P ++ Q) (y.1 78 k) (sPs sN V K E0v N)) : CCpq9 sN V K y (Ec', S, k', r', w') d' (P ++ Q) := sorry
/-- cells are told -/
theorem CGo_cellq9 (fr : ∀ c k, ccSq9 c k → ¬ (c = 60 ∧ k = 6) → ¬ c = 68 → ¬ c = 69 → y.1 c k = x.1 c k) (hc : ∀ c, cds sN K N c = c) (ht : tPs sN V K N Ev = []) (hN : still N) (hl : ∀ d, CEl x d.2.2 → CEl y (ces K V N d).2.2) : CGoq9 sN V K Ev x y N := sorry
/-- a lock is told -/
theorem CGo_lockq9 (fr : ∀ c k, ccSq9 c k → ¬ (c = 60 ∧ k = 9) → y.1 c k = x.1 c k) : CGoq9 sN V K Ev x y [(33, i, j)] := sorry
/-- a claim is told -/
theorem CGo_claimq9 {u : Nat} (fr0 : ∀ c k, ccSq9 c k → y.1 c k = x.1 c k) (hE2 : Ev.2.1 = []) (hs : sEv true N') (hp : CPl y z (sPs sN V K Ev (N' ++ [(54, 0, 0)]))) (fr : ∀ c k, ccSq9 c k → ¬ (c = 60 ∧ k = 3) → ¬ c = 62 → ¬ c = 63 → z.1 c k = y.1 c k) (hsr : s = y.1 60 3) (hu : (u = 35 ∧ w9.1 76 (x.1 60 14).toNatClampNeg = s ∧ (w9.1 60 14).toInt = (x.1 60 14).toInt + 1 ∧ ∀ c k, ccSq9 c k → ¬ (c = 60 ∧ k = 14) → ¬ (c = 76 ∧ k = (x.1 60 14).toNatClampNeg) → w9.1 c k = z.1 c k) ∨ (u = 36 ∧ w9.1 78 (x.1 60 16).toNatClampNeg = s ∧ (w9.1 60 16).toInt = (x.1 60 16).toInt + 1 ∧ ∀ c k, ccSq9 c k → ¬ (c = 60 ∧ k = 16) → ¬ (c = 78 ∧ k = (x.1 60 16).toNatClampNeg) → w9.1 c k = z.1 c k)) : CGoq9 sN V K Ev x w9 ([(u, i, 0)] ++ (N' ++ [(54, 0, 0)])) := sorry
/-- a thread begins: its number, whether it is idle, its first step -/
theorem CGb_threadq9 (fr : ∀ c k, ccSq9 c k → ¬ (c = 60 ∧ k = 10) → ¬ (c = 72 ∧ k = (x.1 60 10).toNatClampNeg) → ¬ (c = 73 ∧ k = (x.1 60 10).toNatClampNeg) → ¬ c = 100 → y.1 c k = x.1 c k) (h10 : (y.1 60 10).toInt = (x.1 60 10).toInt + 1) (h72 : y.1 72 (x.1 60 10).toNatClampNeg = x.1 80 9) (h73 : y.1 73 (x.1 60 10).toNatClampNeg = Int32.ofNat b9) (h13 : y.1 100 13 = 0) (x5 : x.1 100 5 = 0) (hE1 : Ev.1 = []) (hE2 : Ev.2.1 = []) (fr2 : ∀ c k, ccSq9 c k → z.1 c k = y.1 c k) (p : Puq9 z w9 0 s) : CGbq9 sN V K Ev x w9 ([(34, i, b9)] ++ [(20, 0, 0)]) := sorry
end KCDF

section KDG
variable {G : kG} {q : kP} {d : Nat} {x x0 y z xs : gd} {F : Int32 → gd → Prop} {Fv : gd → Prop} {X : String → gd → Prop} {P : Option gv → gd → Prop} {K V : Nat → Int32} {sN : Nat → Nat → Bool} {e : Nat} {Ev : gV} {Ml N : gU} {T : gTd} {n : gN}
/-- outside a thread: a token is passed -/
theorem kh_passq9 (hq : kV q) (hx : 700 ≤ nn x → RX x0 X) (hB : OTb x0 x) (hR : RIw K V sN e Ev xs x Ml) (k0 : ¬ K (nn x) = 0) (k3 : ¬ K (nn x) = 3) (h : nn x < 700 → ∀ y, OTb x0 y → nx y = nx x + 1 → GS x y → nn y = nn x + 1 → RIw K V sN e Ev xs y Ml → y.1 42 (nn x) = 0 → (∀ c k, ccSq9 c k → y.1 c k = x.1 c k) → Fv y) : KE G q (d + 7) zk_X7_pass 0 [(0, vr 100)] [] x (rv Fv) X := sorry
theorem kh_needq9 (hq : kV q) (w kw : Int32) (hkw : kc w = kw) (hkn : ¬ kw = -1 ∧ ¬ kw = 0 ∧ ¬ kw = 3) (hw : ¬ w = 0) (hx : ¬ (K (nn x) = kw ∧ nn x < 700) → RX x0 X) (hB : OTb x0 x) (hR : RIw K V sN e Ev xs x Ml) (h : K (nn x) = kw → nn x < 700 → ∀ y, OTb x0 y → nx y = nx x + 1 → GS x y → nn y = nn x + 1 → RIw K V sN e Ev xs y Ml → y.1 42 (nn x) = 0 → (∀ c k, ccSq9 c k → y.1 c k = x.1 c k) → Fv y) : KE G q (d + 7) zk_X7_need 0 [(0, vr 100), (1, vi w)] [] x (rv Fv) X := sorry
theorem kh_needForq9 (hq : kV q) (w u kw : Int32) (hkw : kc w = kw) (hkn : ¬ kw = -1 ∧ ¬ kw = 0 ∧ ¬ kw = 3) (hw : ¬ w = 0) (hu : ¬ u = 12) (hx : ¬ (K (nn x) = kw ∧ nn x < 700) → RX x0 X) (hB : OTb x0 x) (hA : KA K V sN e x) (hn : nn x ≤ e) (h : K (nn x) = kw → nn x < 700 → ∀ y, OTb x0 y → nx y = nx x + 1 → GS x y → nn y = nn x + 1 → KA K V sN e y → nn y ≤ e → y.1 42 (nn x) = u → tk y (x.1 100 4) → (∀ c k, ccSq9 c k → y.1 c k = x.1 c k) → F (x.1 100 4) y) : KE G q (d + 7) zk_X7_needFor 0 [(0, vr 100), (1, vi w), (2, vi u)] [] x (ri F) X := sorry
/-- a cell's start value -/
theorem kh_startValueq9 (hq : kV q) (L : gU) {W : gOp} (hx : W = none → RX x0 X) (eW : W = pCv K (nn x, L)) (hB : OTb x0 x) (hA : KA K V sN e x) (hn : nn x ≤ e) (h : ∀ r y, OTb x0 y → nx x ≤ nx y → GS x y → ∀ N, RIw K V sN e Ev x y N → still N → (∀ v ∈ N, ¬ (31 ≤ v.1 ∧ v.1 ≤ 36)) → W = some (nn y, L ++ N) → ((∀ c, ces K V N c = (c.1, r, c.2.2)) ∧ (∀ c, cds sN K N c = c) ∧ tPs sN V K N Ev = []) → (∀ c k, ccSq9 c k → y.1 c k = x.1 c k) → F r y) : KE G q (d + 8) zk_X7_startValue 0 [(0, vr 100)] [] x (ri F) X := sorry
end KDG

section KDH
variable {G : kG} {q : kP} {d : Nat} {x x0 y z xs : gd} {F : Int32 → gd → Prop} {Fv : gd → Prop} {X : String → gd → Prop} {P : Option gv → gd → Prop} {K V : Nat → Int32} {sN : Nat → Nat → Bool} {e : Nat} {Ev : gV} {Ml N : gU} {T : gTd} {n : gN} {W : gD}
theorem kh_cellDefinitionq9 (hq : kV q) (L : gU) (hx : W = none → RX x0 X) (eW : W = pD K V n (nn x) L) (hk : K (nn x) = 34 ∨ K (nn x) = 17) (hA : KA K V sN e x) (hn0 : nn x ≤ e) (hTb : TBk x T) (hCn : CNk x n) (hI : OT x0 x) (h : ∀ y N n', OT x0 y → nx x < nx y → RIw K V sN e Ev x y N → still N → W = some (n', nn y, L ++ N) → TBk y (T ++ N.filterMap (te1 K V)) → CNk y n' → La x y → CGoq9 sN V K Ev x y N → Fv y) : KE G q (d + 9) zk_X7_cellDefinition 0 [(0, vr 100)] [] x (rv Fv) X := sorry
end KDH

section KDI
variable {G : kG} {q : kP} {d : Nat} {x x0 y z xs : gd} {F : Int32 → gd → Prop} {Fv : gd → Prop} {X : String → gd → Prop} {P : Option gv → gd → Prop} {K V : Nat → Int32} {sN : Nat → Nat → Bool} {e : Nat} {Ev : gV} {Ml N : gU} {T : gTd} {n : gN} {W : gD}
theorem kh_lockDefinitionq9 (hq : kV q) (L : gU) (hx : W = none → RX x0 X) (eW : W = pD K V n (nn x) L) (k27 : K (nn x) = 27) (hA : KA K V sN e x) (hn0 : nn x ≤ e) (hTb : TBk x T) (hCn : CNk x n) (hI : OT x0 x) (h : ∀ y N n', OT x0 y → nx x < nx y → RIw K V sN e Ev x y N → still N → W = some (n', nn y, L ++ N) → TBk y (T ++ N.filterMap (te1 K V)) → CNk y n' → La x y → CGoq9 sN V K Ev x y N → Fv y) : KE G q (d + 8) zk_X7_lockDefinition 0 [(0, vr 100)] [] x (rv Fv) X := sorry
theorem kh_claimq9 (hq : kV q) (L : gU) (hx : W = none → RX x0 X) (eW : W = pD K V n (nn x) L) (hk : K (nn x) = 11 ∨ K (nn x) = 21) (hA : KA K V sN e x) (hn0 : nn x ≤ e) (hTb : TBk x T) (hCn : CNk x n) (hE2 : Ev.2.1 = []) (hI : OT x0 x) (h : ∀ y N n', OT x0 y → nx x < nx y → RIw K V sN e Ev x y N → still N → W = some (n', nn y, L ++ N) → TBk y (T ++ N.filterMap (te1 K V)) → CNk y n' → La x y → CGoq9 sN V K Ev x y N → Fv y) : KE G q (d + 10) zk_X7_claim 0 [(0, vr 100)] [] x (rv Fv) X := sorry
end KDI

section KDJ
variable {G : kG} {q : kP} {d : Nat} {x x0 y z xs : gd} {F : Int32 → gd → Prop} {Fv : gd → Prop} {X : String → gd → Prop} {P : Option gv → gd → Prop} {K V : Nat → Int32} {sN : Nat → Nat → Bool} {e : Nat} {Ev : gV} {Ml N : gU} {T : gTd} {n : gN} {W : gD}
/-- within a thread: what is still to be read -/
def THbq9 (K V : Nat → Int32) (sN : Nat → Nat → Bool) (e : Nat) (Ev : gV) (x y : gd) (L : gU) (T : gTd) (n : gN) (W : gD) : Prop := ∃ (N : gU) (W1 : gTs) (i0 t b : Nat), RIw K V sN e Ev x y N ∧ EN K e y [0] (exs N Ev) ∧ (y.1 100 7).toInt = ((0 : Nat) : Int) ∧ W = W1.bind (fun q => some ((n.1, n.2.1, n.2.2.1 + 1, n.2.2.2), q.2)) ∧ W1 = pBk (pS K 16) K 0 0 i0 (L ++ [(34, t, b)]) ∧ W1 = eS K [0] 0 (nn y) (L ++ N) ∧ TBk y (T ++ [(t, 2, 0, 0)]) ∧ CNk y (n.1, n.2.1, n.2.2.1 + 1, n.2.2.2) ∧ La x y ∧ CGbq9 sN V K Ev x y N
theorem kh_beginThreadq9 (hq : kV q) (L : gU) (hx : W = none → RX x0 X) (eW : W = pD K V n (nn x) L) (hk : K (nn x) = 23 ∨ K (nn x) = 37) (hA : KA K V sN e x) (hn0 : nn x ≤ e) (hTb : TBk x T) (hCn : CNk x n) (hE1 : Ev.1 = []) (hE2 : Ev.2.1 = []) (hI : OT x0 x) (h : ∀ y, BB x0 y (y.1 60 13).toInt E0 → 1 ≤ om y → om y ≤ 17 → 2 * ssm y + om y ≤ nx y → nx x < nx y → THbq9 K V sN e Ev x y L T n W → Fv y) : KE G q (d + 9) zk_X7_beginThread 0 [(0, vr 100)] [] x (rv Fv) X := sorry
theorem kh_definitionq9 (hq : kV q) (L : gU) (hx : W = none → RX x0 X) (eW : W = pD K V n (nn x) L) (hA : KA K V sN e x) (hn0 : nn x ≤ e) (hTb : TBk x T) (hCn : CNk x n) (hE1 : Ev.1 = []) (hE2 : Ev.2.1 = []) (hI : OT x0 x) (h : ∀ y N n', OT x0 y → nx x < nx y → RIw K V sN e Ev x y N → still N → W = some (n', nn y, L ++ N) → TBk y (T ++ N.filterMap (te1 K V)) → CNk y n' → La x y → CGoq9 sN V K Ev x y N → Fv y) (h2 : ∀ y, BB x0 y (y.1 60 13).toInt E0 → 1 ≤ om y → om y ≤ 17 → 2 * ssm y + om y ≤ nx y → nx x < nx y → THbq9 K V sN e Ev x y L T n W → Fv y) : KE G q (d + 11) zk_X7_definition 0 [(0, vr 100)] [] x (rv Fv) X := sorry
end KDJ

section KDK
variable {G : kG} {q : kP} {d : Nat} {x x0 y z xs : gd} {F : Int32 → gd → Prop} {Fv : gd → Prop} {X : String → gd → Prop} {P : Option gv → gd → Prop} {K V : Nat → Int32} {sN : Nat → Nat → Bool} {e : Nat} {Ev : gV} {Ml N : gU} {T : gTd} {n : gN} {W : gD}
/-- outside a thread, L read -/
def RAoq9 (K V : Nat → Int32) (sN : Nat → Nat → Bool) (e : Nat) (x xs y : gd) (W : gD) : Prop := ∃ (L : gU) (n : gN) (m : Nat), OT x y ∧ RIw K V sN e E0v xs y L ∧ (exs L E0v).1 = [] ∧ (exs L E0v).2.1 = [] ∧ TBk y (L.filterMap (te1 K V)) ∧ CNk y n ∧ W = pAl K V m n (nn y) L ∧ 701 ≤ m + nn y ∧ CCpq9 sN V K y (cds sN K L cd0) (ces K V L (0, 0, [])) (tPs sN V K L E0v) ∧ eqE (cds sN K L cd0).1 (exs L E0v) ∧ rgO (cds sN K L cd0).2.2.2.1
/-- within one -/
def RAiq9 (K V : Nat → Int32) (sN : Nat → Nat → Bool) (e : Nat) (x xs y : gd) (W : gD) : Prop := ∃ (L u : _) (c m i0 i1 : Nat) (n : gN) (L0 : gU) (W1 : gTs), (BB x y (y.1 60 13).toInt E0 ∧ W1 = eS K u c (nn y) L ∨ (BB x y (y.1 60 13).toInt E1 ∧ y.1 23 (y.1 100 4).toNatClampNeg = 54) ∧ W1 = eX K u c (nn y) L) ∧ 1 ≤ om y ∧ om y ≤ 17 ∧ 2 * ssm y + om y ≤ nx y ∧ RIw K V sN e E0v xs y L ∧ EN K e y u (exs L E0v) ∧ (y.1 100 7).toInt = (c : Nat) ∧ W1 = pBk (pS K 16) K 0 0 i0 L0 ∧ TBk y (L0.filterMap (te1 K V)) ∧ CNk y n ∧ W = W1.bind (fun q => pAl K V m n q.2.1 q.2.2) ∧ i1 < nn y ∧ 701 ≤ m + 1 + i1 ∧ CCpq9 sN V K y (cds sN K L cd0) (ces K V L (0, 0, [])) (tPs sN V K L E0v) ∧ eqE (cds sN K L cd0).1 (exs L E0v) ∧ (cds sN K L cd0).2.2.2.1 = rg0
theorem kh_readAllq9 (hq : kV q) (hT : kT x) (hA : KA K V sN e x) (hx : W = none → RX x X) (eW : W = pAl K V 701 (0, 0, 0, 0, 0) 0 []) (h : ∀ y n L, OT x y → W = some (n, nn y, L) → K (nn y) = 0 → KA K V sN e y → nn y ≤ e → HAs sN (y.1 42) (nn y) L E0v → (∀ j, j < nn y → ¬ y.1 42 j = 0 → HBs sN L E0v j (y.1 42 j)) → TBk y (L.filterMap (te1 K V)) → CNk y n → CCpq9 sN V K y (cds sN K L cd0) (ces K V L (0, 0, [])) (tPs sN V K L E0v) → Fv y) : KE G q (d + 13) zk_X7_readAll 0 [(0, vr 100)] [] x (rv Fv) X := sorry
end KDK

section CNM
variable {sN : Nat → Nat → Bool} {T : gTd} {V K : Nat → Int32} {w : gd} {L N : gU} {ks : gK} {v : Nat × Nat × Nat} {st : gSt}
theorem MCo_MKq9 (h : MCoq9 sN V K L w) : MK w (codN sN V K L) := by
  obtain ⟨⟨h1, h1'⟩, h2, h3, h4, h5⟩ := h
  refine ⟨⟨by rw [h1]; show _ = (((cds sN K L cd0).2.1.map _).length : Int); rw [List.length_map], fun j st hj => ?_⟩, h2, h3, fun k Q hQ => ?_, fun k Q hQ => ?_⟩
  · have hj : ((cds sN K L cd0).2.1.map (nStp sN (L.filterMap (te1 K V)) V K))[j]? = some st := hj
    rw [List.getElem?_map] at hj
    obtain ⟨s0, g0, e⟩ := Option.map_eq_some_iff.mp hj
    subst e
    obtain ⟨a1, a2, a3, a4, a5, a6, a7, a8, a9, -⟩ := h1' j s0 g0
    exact ⟨a1, a2, a3, a4, mSu_N a5, mSu_N a6, mSu_N a7, by rw [a8]; exact mTo_N, by rw [a9]; exact kms_N⟩
  · have hQ : ((clF 35 (cds sN K L cd0).2.2.2.2.2).map (nQs sN (L.filterMap (te1 K V)) V K []))[k]? = some Q := hQ
    rw [List.getElem?_map] at hQ
    obtain ⟨N, g0, e⟩ := Option.map_eq_some_iff.mp hQ
    subst e
    have a := h4 k N g0
    rw [nPs_N] at a
    exact a
  · have hQ : ((clF 36 (cds sN K L cd0).2.2.2.2.2).map (nQs sN (L.filterMap (te1 K V)) V K []))[k]? = some Q := hQ
    rw [List.getElem?_map] at hQ
    obtain ⟨N, g0, e⟩ := Option.map_eq_some_iff.mp hQ
    subst e
    have a := h5 k N g0
    rw [nPs_N] at a
    exact a
end CNM

/-- before it is linked -/
def LPkq9 (sN : Nat → Nat → Bool) (V K : Nat → Int32) (L : gU) (z : gd) : Prop := CCpq9 sN V K z (cds sN K L cd0) (ces K V L (0, 0, [])) (tPs sN V K L E0v) ∧ TBk z (L.filterMap (te1 K V)) ∧ (∀ j : Nat, (j : Int) < mt z → MNg (fun a b => sN a b = true) (L.filterMap (te1 K V)) (z.1 42) (z.1 43) j ∧ ¬ z.1 42 j = 9) ∧ (∀ j, K j = 2 → z.1 27 j = V j) ∧ (∃ n, HAs sN (z.1 42) n L E0v ∧ (n : Int) ≤ mt z) ∧ (tPs sN V K L E0v).length ≤ 700 ∧ mt z ≤ 701
section KMN
variable {sN : Nat → Nat → Bool} {T : gTd} {V K : Nat → Int32} {x y : gd} {L N : gU} {ks : gK} {v : Nat × Nat × Nat} {P Q : List (Int32 × Int32)} {E : gV} {w t : Nat}
end KMN

section KCK
variable {sN : Nat → Nat → Bool} {V K : Nat → Int32} {x y : gd} {L N : gU}
theorem CK_ofq9 (hS : ∀ a b, sN a b = true → sN b a = true) (hTr : ∀ a b c, sN a b = true → sN b c = true → sN a c = true) (nf : ¬ jFl sN K V L) (srt : (L.filterMap (te1 K V)).Pairwise (fun a b => a.1 < b.1)) (h : LPkq9 sN V K L x) (hw : WC sN K (fun v => v ∈ L) (cds sN K L cd0)) (f : fm (fun c _ => c = 85 ∨ c = 86 ∨ c = 62 ∨ c = 63) x y) (l1 : ∀ j : Nat, (j : Int) < ssm x → LK1 x y j) (l2 : ∀ i : Nat, (i : Int) < (x.1 60 3).toInt → LK2 x y i) : CK y (codN sN V K L) := sorry
end KCK

theorem MK_fq9 {w w' : gd} {C : gCo} (h : MK w C) (fL : ∀ k ∈ mfL, w'.1 0 k = w.1 0 k) (fA : ∀ c ∈ mfAq9, w'.1 c = w.1 c) : MK w' C := by
  have su : ∀ {r : Int32} {P : List (Int32 × Int32)}, SUm w r P → SUm w' r P := fun h => SUm_f h (fL 49 (by decide)) (fA 51 (by decide)) (fA 52 (by decide))
  have ns : ∀ {sl : List Nat} {v : Int32} {o : Option (List gQ)}, mNs w sl v o → mNs w' sl v o := fun {sl v o} h => by
    cases o with
    | none => exact h
    | some Q => exact su h
  obtain ⟨⟨a1, a2⟩, b, c, d, e⟩ := h
  refine ⟨⟨by rw [fL 52 (by decide)]; exact a1, fun j st hj => ?_⟩, by rw [fL 25 (by decide), fA 64 (by decide), fA 38 (by decide)]; exact b, by rw [fL 23 (by decide), fA 36 (by decide), fA 37 (by decide)]; exact c, fun k Q hQ => by rw [fA 65 (by decide)]; exact su (d k Q hQ), fun k Q hQ => by rw [fA 66 (by decide)]; exact su (e k Q hQ)⟩
  obtain ⟨g1, g2, g3, g4, g5, g6, g7, g8, g9⟩ := a2 j st hj
  unfold mN
  rw [fA 54 (by decide), fA 55 (by decide), fA 56 (by decide), fA 57 (by decide), fA 58 (by decide), fA 59 (by decide), fA 60 (by decide), fA 61 (by decide), fA 62 (by decide)]
  exact ⟨g1, g2, g3, g4, ns g5, ns g6, ns g7, g8, g9⟩
theorem MK_mdq9 {w w' : gd} {C : gCo} {L A : List Nat} (m : md L A w w') (hL : mfL.all (fun k => !L.elem k) = true) (hA : mfAq9.all (fun k => !A.elem k) = true) (h : MK w C) : MK w' C := MK_fq9 h (fun k hk => m.1 k (all_no hL k hk)) (fun c hc => m.2.1 c (mfA_0q9 c hc) (all_no hA c hc))
section DFS
variable {d : Nat} {S : gS} {x : gd} {F : Int32 → gd → gS → Prop} {Fv : gd → gS → Prop} {C : gCo} {f : Nat → gTr}
theorem ds_setTailfq9 (cp : CP x) (i4 : ∀ j : Nat, j < 6 → iniT x j) (i3 : ∀ j : Nat, j < 6 → iniL x j) (hK : MK x C) (hN : NC C) (h : ∀ y S1, RI y S1 → (∃ f, FMs C f y) → Fv y S1) : MD 4 z_setFirst 157 [(0, vr 0), (1, vi 0)] [] S x (Dv Fv) := by
  have k0 : (0 : Int32).toInt = 0 := rfl
  have k1 : (1 : Int32).toInt = 1 := rfl
  have b25 := cp.1.2.2.2.2.2.1
  have nT : (x.1 0 25).toInt = C.2.1.length := hK.2.1.1
  have fin : ∀ (y : gd) (S1 : gS) (t : Int32), 0 ≤ t.toInt → RI y S1 → md hL hA x y → (∀ t', t' < 6 → y.1 77 t' = 0) → (∃ f : Nat → gTr, ∀ t' q, t' < t.toNatClampNeg → C.2.1[t']? = some q → fst1 C t' q (f t') ∧ finT y t' (f t')) → (x.1 0 25).toInt ≤ t.toInt → Fv y S1 := by
    intro y S1 t t0 ry my h77 hf hle
    have ct := cl_i t0
    obtain ⟨f, hf⟩ := hf
    refine h y S1 ry ⟨f, fun t' q hq => (hf t' q (by have := gt_lt hq; omega) hq).1, fun t' ht' => (hf t' _ (by omega) (List.getElem?_eq_getElem ht')).2, fun t' ht' => ⟨h77 t' ht', ?_⟩, fun l hl => ?_⟩
    · rw [my.2.1 80 (by decide) (by decide)]; exact (i4 t' ht').2.2.2.2.2.2
    · rw [my.2.1 71 (by decide) (by decide)]; exact (i3 l hl).1
  have ri0 : RI x S := by
    refine ⟨cp, fun t ht => ?_⟩
    obtain ⟨a1, a2, a3, a4, a5, a6, a7⟩ := i4 t ht
    refine ⟨⟨by rw [a2]; decide, by rw [a2]; decide, fun q => by rw [a1] at q; exact absurd q (by decide)⟩, Or.inl a4, by rw [a7]; decide, by rw [a7]; decide, fun k hk => ?_⟩
    rw [a7, k0] at hk; omega
  have loop : ∀ (n : Nat) (y : gd) (S1 : gS) (t : Int32), 0 ≤ t.toInt → (x.1 0 25).toInt - t.toInt ≤ n → y.1 0 25 = x.1 0 25 → RI y S1 → (∀ t' : Nat, t.toInt ≤ (t' : Int) → t' < 6 → y.1 73 t' = 0) → md hL hA x y → (∀ t', t' < 6 → y.1 77 t' = 0) → (∃ f : Nat → gTr, ∀ t' q, t' < t.toNatClampNeg → C.2.1[t']? = some q → fst1 C t' q (f t') ∧ finT y t' (f t')) → MD 4 z_setFirst 157 [(0, vr 0), (1, vi t)] [] S1 y (Dv Fv) := by
    intro n
    induction n with
    | zero =>
      intro y S1 t t0 hn e25 ry h0 my h77 hf
      exact sd_setFirst_157 _ ⟨fun _ => Dv_i (fin y S1 t t0 ry my h77 hf (by omega)), fun c => absurd (t_le.mpr (by rw [e25]; omega)) c⟩
    | succ n ih =>
      intro y S1 t t0 hn e25 ry h0 my h77 hf
      refine sd_setFirst_157 _ ⟨fun c => Dv_i (fin y S1 t t0 ry my h77 hf (by rw [t_le, e25] at c; exact c)), fun c => ?_⟩
      rw [t_le, e25] at c
      have tv : vp_in t 6 := by rw [vp_in_iff]; omega
      have ct := cl_i t0
      have ti : (t + 1).toInt = t.toInt + 1 := by rw [t_add (by omega) (by omega), k1]
      obtain ⟨T, eT⟩ : ∃ T, T = t.toNatClampNeg := ⟨_, rfl⟩
      have tl : T < C.2.1.length := by omega
      obtain ⟨q9, hq9⟩ : ∃ q9, C.2.1[T]? = some q9 := ⟨_, List.getElem?_eq_getElem tl⟩
      have hKy : MK y C := MK_mdq9 my rfl rfl hK
      obtain ⟨k64, k38⟩ := hKy.2.1.2 T q9 hq9
      obtain ⟨⟨st, s1, s2⟩, q1⟩ := hN.2.1 q9 (List.mem_of_getElem? hq9)
      have et1 : (t + 1).toNatClampNeg = T + 1 := by rw [eT, t_cl, t_cl, ti]; omega
      obtain ⟨f, hf⟩ := hf
      have ext : ∀ (u : gd) (r : gTr), (∀ t', t' < T → u.1 73 t' = y.1 73 t' ∧ u.1 74 t' = y.1 74 t') → fst1 C T q9 r → finT u T r → ∃ f : Nat → gTr, ∀ t' q, t' < (t + 1).toNatClampNeg → C.2.1[t']? = some q → fst1 C t' q (f t') ∧ finT u t' (f t') := fun u r eu h1 h2 => by
        refine ⟨fun t' => if t' = T then r else f t', fun t' q ht hq => ?_⟩
        rw [et1] at ht
        by_cases c9 : t' = T
        · rw [c9, hq9] at hq
          cases Option.some.inj hq
          show fst1 C t' q9 (if t' = T then r else f t') ∧ finT u t' (if t' = T then r else f t')
          rw [if_pos c9, c9]
          exact ⟨h1, h2⟩
        · show fst1 C t' q (if t' = T then r else f t') ∧ finT u t' (if t' = T then r else f t')
          rw [if_neg c9]
          obtain ⟨p1, p2⟩ := hf t' q (by omega) hq
          obtain ⟨a, b⟩ := eu t' (by omega)
          refine ⟨p1, ?_⟩
          unfold finT
          rw [a, b]
          exact p2
      refine ⟨tv, fun n0 => ih y S1 (t + 1) (by omega) (by omega) e25 ry (fun t' h1 h2 => h0 t' (by omega) h2) my h77 (ext y (0, 0, 0, fun _ => 0) (fun _ _ => ⟨rfl, rfl⟩) (Or.inl ⟨?_, rfl⟩) ⟨h0 T (by omega) (by omega), fun c => absurd c (by show ¬ 0 = 1; decide), Nat.zero_le _⟩), fun c0 => ⟨tv, fun y5 e5 => ⟨tv, tv, fun y8 e8 => ?_⟩⟩⟩
      · rw [← eT, k38] at n0
        have : ¬ q9.2 = 0 := fun z => n0 (by rw [z]; rfl)
        omega
      have t5 : th t.toNatClampNeg y y5 := by rw [e5]; exact th_si (by decide) _ _
      have t8 : th t.toNatClampNeg y5 y8 := by rw [e8]; exact th_si (by decide) _ _
      have t58 := th_tr t5 t8
      have bg := ry.1.2.1.2.2.2.2.2 t.toNatClampNeg (by have := t_cl (y.1 0 25); rw [e25] at this; rw [e25]; omega)
      have j2 := ry.1.2.1.2.1
      have a74 : y8.1 74 t.toNatClampNeg = y.1 64 t.toNatClampNeg := by rw [e8, si_get, if_pos ⟨rfl, rfl⟩, e5, si_cell (by decide)]
      have a77 : y8.1 77 = y.1 77 := by rw [e8, si_cell (by decide), e5, si_cell (by decide)]
      have a52 : y8.1 0 52 = y.1 0 52 := t58.1.1 52 (by decide)
      have w0 : y.1 77 t.toNatClampNeg = 0 := by
        rcases (ry.2 _ (vt tv)).2.1 with q | ⟨_, q, _⟩
        · exact q
        · rw [h0 _ (by omega) (vt tv)] at q; exact absurd q (by decide)
      have g73 : y8.1 73 t.toNatClampNeg = 1 := by rw [e8, si_cell (by decide), e5, si_get, if_pos ⟨rfl, rfl⟩]
      have n64 : (y.1 64 t.toNatClampNeg).toNatClampNeg = q9.1 := by rw [← eT, t_cl, k64]; rfl
      refine ds_ownf (d := 0) (lv0 := fun _ => 0) t tv (CP_th t58 ry.1) (by rw [a74]; exact ⟨bg.1, by omega⟩) (fun _ => by rw [a74, a52]; exact bg.2) (by rw [a77]; exact w0) (MK_mdq9 t58.1 rfl rfl hKy) hN g73 (by rw [a74, n64]; exact s1) (fun p hp => by rw [s2] at hp; exact absurd hp (Nat.not_lt_zero _)) (fun u S2 tu su ra' w' hfin => ?_)
      have tt := th_tr t58 tu
      refine ih u S2 (t + 1) (by omega) (by omega) (by rw [tt.1.1 25 (by decide)]; exact e25) ⟨CP_th tt ry.1, fun t' ht' => ?_⟩ (fun t' h1 h2 => by rw [tt.2 73 t' (by simp) (by omega)]; exact h0 t' (by omega) h2) (md_tr my tt.1 rfl rfl) (fun t' ht' => ?_) ?_
      rotate_left
      · by_cases q : t' = t.toNatClampNeg
        · rw [q]; exact w'
        · rw [tt.2 77 t' (by simp) q]; exact h77 t' ht'
      · rw [a74, n64] at hfin
        obtain ⟨n9, r, hn9, g1, g2, g3⟩ := hfin
        rw [← eT] at hn9 g1 g2
        refine ext u r (fun t' ht' => ⟨tt.2 73 t' (by simp) (by omega), tt.2 74 t' (by simp) (by omega)⟩) (Or.inr ⟨?_, n9, hn9⟩) ⟨g1, g2, by omega⟩
        intro z1
        rw [← eT, k38, z1] at c0
        exact absurd c0 (by decide)
      by_cases q : t' = t.toNatClampNeg
      · rw [q]; exact ⟨ra', Or.inl w', rl_th tt su (ry.2 _ (vt tv)).2.2⟩
      · exact rT_th tt su q (ry.2 t' ht')
  exact loop 6 x S 0 (by decide) (by rw [k0]; omega) rfl ri0 (fun t' _ h2 => (i4 t' h2).1) (md_w (md_rf x) (by decide) (by decide)) (fun t' ht' => (i4 t' ht').2.2.2.1) ⟨fun _ => (0, 0, 0, fun _ => 0), fun t' q ht' => absurd ht' (Nat.not_lt_zero _)⟩
theorem ds_findChoicesfq9 (ri : RI x S) (hK : MK x C) (hN : NC C) (hS : FMs C f x) (hob : ∀ (s : Nat) (st : gNs), C.1[s]? = some st → st.1 = 10 → st.2.2.2.2.1.toNatClampNeg < C.2.1.length) (h : ∀ y S1, fC x S 84 y S1 → (y.1 0 84).toInt = (chN C f C.2.1.length : Nat) → Fv y S1) : MD (d + 2) z_findChoices 0 [(0, vr 0)] [] S x (Dv Fv) := by
  have k0 : (0 : Int32).toInt = 0 := rfl
  have k1 : (1 : Int32).toInt = 1 := rfl
  have hT := ri.1.1.2.2.2.2.1
  have hT6 := ri.1.1.2.2.2.2.2.1
  have nT : (x.1 0 25).toInt = C.2.1.length := hK.2.1.1
  have p7 : ∀ (n : Nat) (y : gd) (S1 : gS) (t : Int32), 0 ≤ t.toInt → t.toInt ≤ (x.1 0 25).toInt → (x.1 0 25).toInt - t.toInt ≤ n → fC x S (14 * t.toInt) y S1 → (y.1 0 84).toInt = (chN C f t.toNatClampNeg : Nat) → MD (d + 2) z_findChoices 7 [(0, vr 0), (1, vi t)] [] S1 y (Dv Fv) := by
    intro n
    induction n with
    | zero =>
      intro y S1 t t0 t1 hn q hcn
      have tcl := cl_i t0
      have f25 : y.1 0 25 = x.1 0 25 := q.1.1 25 (by decide)
      exact sd_findChoices_7 _ ⟨fun _ => Dv_i (h y S1 (fC_mono (by omega) q) (by rw [show C.2.1.length = t.toNatClampNeg by omega]; exact hcn)), fun c => absurd (t_le.mpr (by rw [f25]; omega)) c⟩
    | succ n ih =>
      intro y S1 t t0 t1 hn q hcn
      have tcl := cl_i t0
      have f25 : y.1 0 25 = x.1 0 25 := q.1.1 25 (by decide)
      refine sd_findChoices_7 _ ⟨fun c => Dv_i (h y S1 (fC_mono (by omega) q) (by rw [t_le, f25] at c; rw [show C.2.1.length = t.toNatClampNeg by omega]; exact hcn)), fun c => ?_⟩
      rw [t_le, f25] at c
      have ec1 : (t + 1).toNatClampNeg = t.toNatClampNeg + 1 := by rw [t_cl, t_cl, t_add (by omega) (by omega), k1]; omega
      have ht : vp_in t 6 := by rw [vp_in_iff]; omega
      have i1 : (t + 1).toInt = t.toInt + 1 := by rw [t_add (by omega) (by omega), k1]
      obtain ⟨L, eL⟩ : ∃ L, L = x.1 80 t.toNatClampNeg := ⟨_, rfl⟩
      have rlx := (ri.2 _ (vt ht)).2.2
      have hL8 := rlx.2.1
      have hL0 := rlx.1
      rw [← eL] at hL8 hL0
      have L0 : L = 0 := by rw [eL]; exact (hS.2.2.1 _ (vt ht)).2
      have q144 : ∀ (y : gd) (S1 : gS), fC x S (14 * t.toInt + 6) y S1 → (y.1 0 84).toInt = (chN C f (t.toNatClampNeg + 1) : Nat) → MD (d + 2) z_findChoices 144 [(0, vr 0), (1, vi t), (2, vi 0)] [] S1 y (Dv Fv) := by
        intro y S1 q hc1
        have f80 : y.1 80 = x.1 80 := q.1.2.1 80 (by decide) (by decide)
        refine sd_findChoices_144 _ _ ⟨ht, ?_⟩
        rw [f80, ← eL, L0]
        exact ⟨fun _ => ih y S1 (t + 1) (by omega) (by omega) (by omega) (fC_mono (by omega) q) (by rw [ec1]; exact hc1), fun c => absurd (by decide) c⟩
      have riy : RI y S1 := RI_md q.1 rfl rfl q.2.1 ri
      have e73 : y.1 73 = x.1 73 := q.1.2.1 73 (by decide) (by decide)
      have e77 : y.1 77 = x.1 77 := q.1.2.1 77 (by decide) (by decide)
      have hKy : MK y C := MK_mdq9 q.1 rfl rfl hK
      have hSy : FMs C f y := by
        obtain ⟨g1, g2, g3, g4⟩ := hS
        have e74 : y.1 74 = x.1 74 := q.1.2.1 74 (by decide) (by decide)
        have e80 : y.1 80 = x.1 80 := q.1.2.1 80 (by decide) (by decide)
        have e71 : y.1 71 = x.1 71 := q.1.2.1 71 (by decide) (by decide)
        unfold FMs finT
        rw [e73, e74, e77, e80, e71]
        exact ⟨g1, g2, g3, g4⟩
      refine ds_hasActf t ht riy hKy hN hSy (by omega) hob (fun nc => ⟨fun _ => q144 y S1 (fC_mono (by omega) q) (by rw [chN, if_neg nc, hcn]; rfl), fun z => absurd rfl z⟩) (fun g1 g2 hcan => ⟨fun z => absurd z (by decide), fun _ => ⟨ht, q.2.2.1, ?_⟩⟩)
      have ho : chO x t (-1) := ⟨by omega, Or.inl ⟨rfl, by rw [← e73]; exact g1, by rw [← e77]; exact g2⟩⟩
      have q127 : MD (d + 2) z_findChoices 127 [(0, vr 0), (1, vi t), (3, vi (y.1 0 84))] [] S1 y (Dv Fv) := by
        refine sd_findChoices_127 _ _ ⟨q.2.2.1, fun n => absurd rfl n, fun e => ?_⟩
        exact ds_choosef t (-1) (-1) (by omega) q ho (fun y' S' q' ey => q144 y' S' (fC_mono (by omega) q') (by rw [chN, if_pos hcan, ey, hcn]; push_cast; rfl))
      obtain ⟨kv, _, _, _⟩ := RI_step riy (vt ht) g1
      obtain ⟨s1, s2, s3⟩ := srt_of riy (vt ht) g1
      refine ds_sortOf t ht kv ⟨fun _ => q127, fun e8 => ⟨kv, fun _ => q127, fun _ => ⟨kv, ?_, fun _ => q127, fun e9 => ?_⟩⟩⟩
      · have o := s2 (Or.inl (by rw [e8]; decide))
        rw [vp_in_iff]; omega
      · exfalso
        have o := s2 (Or.inl (by rw [e8]; decide))
        rw [hSy.2.2.2 _ (by rw [t_cl]; omega)] at e9
        have km : (-1 : Int32).toInt = -1 := rfl
        rw [t_eq, km] at e9
        omega
  refine sd_findChoices_0 (fun y e => ?_)
  have m := md_f x 84 0
  rw [← e] at m
  have e0 : y.1 0 84 = 0 := by rw [e, si_get, if_pos ⟨rfl, rfl⟩]
  refine p7 (x.1 0 25).toInt.toNat y _ 0 (by decide) (by rw [k0]; exact hT) (by rw [k0]; omega) ⟨md_w m (by decide) (by decide), ssub_ad _ _ _, Or.inl ⟨rfl, rfl⟩, by rw [e0]; decide, by rw [e0, k0]; omega, fun i hi => ?_⟩ ?_
  · rw [e0, k0] at hi
    omega
  · rw [e0]; rfl
end DFS
theorem fc_exfq9 {b : gd} {S : gS} {C : gCo} {f : Nat → gTr} (ri : RI b S) (wy : wy01 b) (hK : MK b C) (hN : NC C) (hS : FMs C f b) (hob : ∀ (s : Nat) (st : gNs), C.1[s]? = some st → st.1 = 10 → st.2.2.2.2.1.toNatClampNeg < C.2.1.length) : ∃ a, AV a ∧ fcA b a ∧ md [84] [86, 87, 88] b a ∧ (a.1 0 84).toInt = (chN C f C.2.1.length : Nat) := by
  obtain ⟨o, a, S', ⟨eo, fc, hcn⟩, m, q⟩ := ds_findChoicesfq9 (d := 0) (Fv := fun y S1 => fC b (Sl b) 84 y S1 ∧ (y.1 0 84).toInt = (chN C f C.2.1.length : Nat)) (RI_Sl ri) hK hN hS hob (fun y S1 h h2 => ⟨h, h2⟩)
  obtain ⟨f1, f2, f3, f4, f5, f6⟩ := fc
  have e80 : a.1 80 = b.1 80 := f1.2.1 80 (by decide) (by decide)
  have sl : Sl a = Sl b := by
    funext c j
    unfold Sl
    rw [e80]
  have sm : ssub (Sm a) S' := by
    intro c j h
    rcases h with ⟨h1, h2⟩ | ⟨h1, h2⟩ | h
    · rw [h1, h2]; exact f3
    · obtain ⟨g1, g2, g3, _⟩ := f6 j h2
      rcases h1 with h1 | h1 | h1
      · rw [h1]; exact g1
      · rw [h1]; exact g2
      · rw [h1]; exact g3
    · rw [sl] at h
      exact f2 c j h
  have fa : fcA b a := by
    intro G z e
    refine MT_mono (q G z e) (fun o2 z' w => ?_)
    rw [w.1, eo]
    exact rv_i ⟨eqS_w sm w.2.1, w.2.2⟩
  refine ⟨a, ⟨?_, ?_, ?_, f4, f5, ?_⟩, fa, f1, hcn⟩
  · rw [sl]
    exact RI_md f1 rfl rfl (ssub_rf _) (RI_Sl ri)
  · unfold wy01
    rw [f1.1 68 (by decide)]
    exact wy
  · intro i hi
    obtain ⟨_, _, _, g⟩ := f6 i hi
    exact ⟨Or.inr (Or.inl ⟨Or.inl rfl, hi⟩), Or.inr (Or.inl ⟨Or.inr (Or.inl rfl), hi⟩), Or.inr (Or.inl ⟨Or.inr (Or.inr rfl), hi⟩), g⟩
  · intro G z e
    refine fa G z (fun c j h => ?_)
    rw [← sl] at h
    rw [e c j h]
    -- the core and the late writes are those of b
    rcases h with h | h
    · rcases h with ⟨h1, h2⟩ | ⟨n, h1, h2⟩
      · rw [h1]
        refine f1.1 j (fun w => ?_)
        rw [List.mem_singleton.mp w] at h2
        exact absurd h2 (by decide)
      · have hc : c ≠ 0 ∧ c ∉ [86, 87, 88] := by
          simp at h1
          refine ⟨by omega, ?_⟩
          simp
          omega
        rw [f1.2.1 c hc.1 hc.2]
    · obtain ⟨hc, _⟩ := h
      rw [f1.2.1 c (by omega) (by simp; omega)]
section DSX
variable {x : gd} {C : gCo}
/-- setFirst, from every memory with the program and the way of x -/
theorem first_exfq9 (cp : CP x) (hK : MK x C) (hN : NC C) : ∃ b, RI b (Sl b) ∧ (∃ f, FMs C f b) ∧ MK b C ∧ b.1 0 68 = x.1 0 68 ∧ prE x b ∧ ∀ (G : mG) (D : Nat) (z : gd), 5 ≤ D → prE x z → z.1 0 68 = x.1 0 68 → MT G D z_setFirst 0 [(0, vr 0)] [] z (rv (fun z' => eqS (Sl b) b z' ∧ md rL rA z z')) := by
  have ii := ix_ini x
  obtain ⟨o, b, S', ⟨eo, rb, hfs⟩, m, q⟩ := ds_setTailfq9 (x := ix x) (S := fun _ _ => False) (Fv := fun y S1 => RI y S1 ∧ ∃ f, FMs C f y) (CP_md ii.1 rfl rfl cp) ii.2.2.2.1 ii.2.2.1 (MK_mdq9 ii.1 rfl rfl hK) hN (fun y S1 h h2 => ⟨h, h2⟩)
  refine ⟨b, RI_Sl rb, hfs, MK_mdq9 m rfl rfl (MK_mdq9 ii.1 rfl rfl hK), ?_, ?_, fun G D z hD p w => ?_⟩
  · rw [m.1 68 (by decide), ii.1.1 68 (by decide)]
  · exact prE_mi (prE_mi (prE_rf x) (mi_of ii.1) rfl rfl) (mi_of m) rfl rfl
  · obtain ⟨D, rfl⟩ : ∃ D', D = D' + 1 := ⟨D - 1, by omega⟩
    refine sp_setInit (fun y iy => MT_up (d := 4) (by omega) (MT_mono (q G y (ini_eq p w ii iy)) (fun o2 z' v => ?_)))
    rw [v.1, eo]
    exact rv_i ⟨eqS_w (Sl_in rb) v.2.1, md_tr (md_w iy.1 (L2 := rL) (A2 := rA) (by decide) (by decide)) v.2.2 rfl rfl⟩
theorem start_exfq9 (cp : CP x) (hK : MK x C) (hN : NC C) (hob : ∀ (s : Nat) (st : gNs), C.1[s]? = some st → st.1 = 10 → st.2.2.2.2.1.toNatClampNeg < C.2.1.length) (w : Int32) (hw : w = 0 ∨ w = 1) : ∃ a0, bgM C (a0.1 0 84) ∧ AV a0 ∧ a0.1 0 68 = w ∧ prE x a0 ∧ St x w a0 ∧ ∃ b, md [84] [86, 87, 88] b a0 ∧ ∀ (G : mG) (D : Nat) (z : gd), 5 ≤ D → prE x z → z.1 0 68 = w → MT G D z_setFirst 0 [(0, vr 0)] [] z (rv (fun z' => eqS (Sl b) b z' ∧ md rL rA z z')) := by
  have k0 : (0 : Int32).toInt = 0 := rfl
  have k1 : (1 : Int32).toInt = 1 := rfl
  have k6 : (6 : Int32).toInt = 6 := rfl
  have mw := md_f x 68 w
  obtain ⟨xw, exw⟩ : ∃ xw, xw = si x 0 68 w := ⟨_, rfl⟩
  rw [← exw] at mw
  have ew : xw.1 0 68 = w := by rw [exw, si_get, if_pos ⟨rfl, rfl⟩]
  have pw : prE x xw := prE_mi (prE_rf x) (mi_of mw) rfl rfl
  obtain ⟨b, rb, ⟨f, hfs⟩, hKb, b68, pb, hb⟩ := first_exfq9 (CP_md mw rfl rfl cp) (MK_mdq9 mw rfl rfl hK) hN
  rw [ew] at b68
  obtain ⟨a0, av, fa, ma, hcn⟩ := fc_exfq9 rb (by unfold wy01; rw [b68]; exact hw) hKb hN hfs hob
  refine ⟨a0, ⟨f, hfs.1, hcn⟩, av, by rw [ma.1 68 (by decide), b68], prE_tr pw (prE_mi pb (mi_of ma) rfl rfl), ?_, b, ma, fun G D z hD p hz => hb G D z hD (prE_tr (prE_sy pw) p) (by rw [ew]; exact hz)⟩
  intro G D z Fv hD p hF
  obtain ⟨D, rfl⟩ : ∃ D', D = D' + 1 := ⟨D - 1, by omega⟩
  refine sg_startRun_0 _ (fun z1 e1 z2 e2 z3 e3 z4 e4 => ?_)
  have m1 := md_f z 68 w
  rw [← e1] at m1
  have m2 := md_f z1 67 1
  rw [← e2] at m2
  have m3 := md_f z2 94 0
  rw [← e3] at m3
  have m4 := md_f z3 96 0
  rw [← e4] at m4
  have m14 : md [68, 67, 94, 96] [] z z4 := md_tr (md_tr (L3 := [68, 67, 94]) (A3 := []) (md_tr (L3 := [68, 67]) (A3 := []) m1 m2 rfl rfl) m3 rfl rfl) m4 rfl rfl
  have f68 : z4.1 0 68 = w := by rw [m4.1 68 (by decide), m3.1 68 (by decide), m2.1 68 (by decide), e1, si_get, if_pos ⟨rfl, rfl⟩]
  have f67 : z4.1 0 67 = 1 := by rw [m4.1 67 (by decide), m3.1 67 (by decide), e2, si_get, if_pos ⟨rfl, rfl⟩]
  have f94 : z4.1 0 94 = 0 := by rw [m4.1 94 (by decide), e3, si_get, if_pos ⟨rfl, rfl⟩]
  have f96 : z4.1 0 96 = 0 := by rw [e4, si_get, if_pos ⟨rfl, rfl⟩]
  have loop : ∀ (n : Nat) (y : gd) (t : Int32), 0 ≤ t.toInt → t.toInt ≤ 6 → 6 - t.toInt ≤ n → md [] [106, 107] z4 y → (∀ j : Nat, (j : Int) < t.toInt → y.1 106 j = -1 ∧ y.1 107 j = -1) → MT G (D + 1) z_startRun 22 [(0, vr 0), (2, vi t)] [] y (rv Fv) := by
    have last : ∀ y : gd, md [] [106, 107] z4 y → (∀ j : Nat, j < 6 → y.1 106 j = -1 ∧ y.1 107 j = -1) → MT G D z_setFirst 0 [(0, vr 0)] [] y (rv (fun x2 => MT G D z_findChoices 0 [(0, vr 0)] [] x2 (rv (fun x3 => rv Fv none x3)))) := by
      intro y my hy
      have py : prE xw y := prE_tr (prE_sy pw) (prE_mi (prE_mi p (mi_of m14) rfl rfl) (mi_of my) rfl rfl)
      have wy' : y.1 0 68 = xw.1 0 68 := by rw [my.1 68 (by decide), f68, ew]
      refine MTv_mono (hb G D y (by omega) py wy') (fun u q => MT_up (by omega) (MTv_mono (fa G u q.1) (fun v qv => rv_i (hF v qv.1 ?_))))
      have g : mi [82, 84, 88, 89, 90, 91, 92, 93] rA y v := mi_of (md_rt q.2 qv.2)
      have v94 : v.1 0 94 = 0 := by rw [g.1 94 (by decide), my.1 94 (by decide), f94]
      have v96 : v.1 0 96 = 0 := by rw [g.1 96 (by decide), my.1 96 (by decide), f96]
      refine ⟨mi_tr (mi_tr (L3 := sL') (A3 := sA') (mi_of m14) (mi_of my) rfl rfl) g rfl rfl, v94, ⟨by rw [v96]; decide, by rw [v96, v94]; decide, by rw [v94]; decide, fun j hj => by rw [v96, k0] at hj; omega, fun t ht => ?_⟩, by rw [g.1 67 (by decide), my.1 67 (by decide), f67], by rw [g.1 68 (by decide), my.1 68 (by decide), f68]⟩
      rw [g.2 106 (by decide) (by decide), g.2 107 (by decide) (by decide)]
      exact ⟨Or.inl (hy t ht).1, Or.inl (hy t ht).2⟩
    intro n
    induction n with
    | zero =>
      intro y t t0 t6 hn my hy
      exact sg_startRun_22 _ ⟨fun _ => last y my (fun j hj => hy j (by omega)), fun c => absurd (t_le.mpr (by rw [k6]; omega)) c⟩
    | succ n ih =>
      intro y t t0 t6 hn my hy
      refine sg_startRun_22 _ ⟨fun c => last y my (fun j hj => hy j (by rw [t_le, k6] at c; omega)), fun c => ?_⟩
      rw [t_le, k6] at c
      have tv : vp_in t 6 := by rw [vp_in_iff]; omega
      have ct := cl_i t0
      have ti : (t + 1).toInt = t.toInt + 1 := by rw [t_add (by omega) (by omega), k1]
      refine ⟨tv, fun y5 e5 => ⟨tv, fun y7 e7 => ?_⟩⟩
      have m5 := md_a y 106 t.toNatClampNeg (-1) (by decide)
      rw [← e5] at m5
      have m7 := md_a y5 107 t.toNatClampNeg (-1) (by decide)
      rw [← e7] at m7
      refine ih y7 (t + 1) (by omega) (by omega) (by omega) (md_tr (md_tr (L3 := []) (A3 := [106, 107]) my m5 rfl rfl) m7 rfl rfl) (fun j hj => ?_)
      by_cases q : j = t.toNatClampNeg
      · rw [q]
        exact ⟨by rw [e7, si_cell (by decide), e5, si_get, if_pos ⟨rfl, rfl⟩], by rw [e7, si_get, if_pos ⟨rfl, rfl⟩]⟩
      · rw [e7, si_ne 106 j q, si_ne 107 j q, e5, si_ne 106 j q, si_ne 107 j q]
        exact hy j (by omega)
  exact loop 6 z4 0 (by decide) (by decide) (by decide) (md_w (md_rf _) (by decide) (by decide)) (fun j hj => by rw [k0] at hj; omega)
end DSX
section SPB
variable {G : mG} {D d : Nat} {z : gd} {F : Int32 → gd → Prop} {Fv : gd → Prop}
/-- a run begun -/
theorem sp_startRunfq9 {w : Int32} {C : gCo} (cp : CP z) (hK : MK z C) (hN : NC C) (hob : ∀ (s : Nat) (st : gNs), C.1[s]? = some st → st.1 = 10 → st.2.2.2.2.1.toNatClampNeg < C.2.1.length) (hw : w = 0 ∨ w = 1) (hD : 6 ≤ D) (h : ∀ z', Hist z' → mi sL' sA' z z' → z'.1 0 67 = 1 → bgM C (z'.1 0 84) → Fv z') : MT G D z_startRun 0 [(0, vr 0), (1, vi w)] [] z (rv Fv) := by
  obtain ⟨a0, hbg, av, e68, pa, st, _⟩ := start_exfq9 cp hK hN hob w hw
  refine st G D z Fv hD (prE_rf z) (fun z' e sf => ?_)
  obtain ⟨m, f94, ha, f67, f68⟩ := sf
  refine h z' ⟨fun _ => a0, 0, by rw [f94]; rfl, fun _ _ => av, fun k hk => absurd hk (by omega), e, ?_, ?_, ha⟩ m f67 (by rw [e 0 84 (Or.inr (Or.inl ⟨rfl, rfl⟩))]; exact hbg)
  · rw [f68]
    exact St_pr (prE_mi (prE_rf z) m rfl rfl) st
  · unfold wy01
    rw [f68]; exact hw
theorem sp_beginfq9 {C : gCo} (q : MI z) (w : Int32) (hK : ¬ z.1 0 66 = 0 → MK z C ∧ NC C ∧ ∀ (s : Nat) (st : gNs), C.1[s]? = some st → st.1 = 10 → st.2.2.2.2.1.toNatClampNeg < C.2.1.length) (hD : 7 ≤ D) (h : ∀ r z', PMq9 z z' → (z.1 0 66 = 0 → z'.1 0 0 = 1) → (¬ z.1 0 66 = 0 → ¬ (w = 0 ∨ w = 1) → z'.1 0 0 = 2) → (¬ z.1 0 66 = 0 → (w = 0 ∨ w = 1) → z'.1 0 0 = 0 ∧ bgM C r) → F r z') : MT G D z_begin 0 [(0, vr 0), (1, vi w)] [] z (ri F) := by
  obtain ⟨D, rfl⟩ : ∃ D', D = D' + 1 := ⟨D - 1, by omega⟩
  have k0 : (0 : Int32).toInt = 0 := rfl
  have k1 : (1 : Int32).toInt = 1 := rfl
  refine sg_begin_0 _ (fun y e => ?_)
  have hy := z0_s e
  have no : ∀ k : Int32, (z.1 0 66 = 0 → k = 1) → (¬ z.1 0 66 = 0 → ¬ (w = 0 ∨ w = 1) ∧ k = 2) → ri F (some (vi 0)) (si y 0 0 k) := fun k h9 h8 => ri_i (h 0 _ (MI_0q9 (mi_tr hy.1 (mi_of (md_f y 0 k)) rfl rfl) q) (fun c => by rw [si_get, if_pos ⟨rfl, rfl⟩]; exact h9 c) (fun c _ => by rw [si_get, if_pos ⟨rfl, rfl⟩]; exact (h8 c).2) (fun c c2 => absurd c2 (h8 c).1))
  have e66 : y.1 0 66 = z.1 0 66 := hy.1.1 66 (by decide)
  have p40 : ¬ z.1 0 66 = 0 → ∀ b : Int32, (b = 0 → w = 0 ∨ w = 1) → (¬ b = 0 → ¬ (w = 0 ∨ w = 1)) → MT G (D + 1) z_begin 40 [(0, vr 0), (1, vi w)] [vi b, vr 0] y (ri F) := by
    intro c b hb hb2
    refine sg_begin_40 _ _ (sp_refuses b 2 hy.2 (by decide) (fun b0 => ⟨fun _ => ?_, fun q => absurd rfl q⟩) (fun nb => ⟨fun q => absurd q (by decide), fun _ => no 2 (fun z9 => absurd z9 c) (fun _ => ⟨hb2 nb, rfl⟩)⟩))
    have qy := (MI_0q9 hy.1 q).1
    have hKy : MK y C := MK_fq9 (hK c).1 (fun k hk => hy.1.1 k (fun z9 => by rw [List.mem_singleton.mp z9] at hk; exact absurd hk (by decide))) (fun c9 hc9 => hy.1.2 c9 (mfA_0q9 c9 hc9) (fun z9 => nomatch z9))
    refine sp_startRunfq9 (qy.2.1 (by rw [e66]; exact c)) hKy (hK c).2.1 (hK c).2.2 (hb b0) (by omega) (fun z' hh m f67 hbg => ri_i (h _ z' ?_ (fun z9 => absurd z9 c) (fun _ z9 => absurd (hb b0) z9) (fun _ _ => ⟨by rw [m.1 0 (by decide)]; exact hy.2, hbg⟩)))
    have p := MI_newq9 m rfl rfl (by rw [e66]; exact c) hh qy
    exact PM_0q9 hy.1 p
  have p18 : ∀ b : Int32, (b = 0 → ¬ z.1 0 66 = 0) → (¬ b = 0 → ¬ ¬ z.1 0 66 = 0) → MT G (D + 1) z_begin 18 [(0, vr 0), (1, vi w)] [vi b, vr 0] y (ri F) := by
    intro b hb hb2
    refine sg_begin_18 _ _ (sp_refuses b 1 hy.2 (by decide) (fun b0 => ⟨fun q => absurd rfl q, fun _ => sp_in _ _ _ ⟨fun c => p40 (hb b0) 0 (fun _ => ?_) (fun q => absurd rfl q), fun c => p40 (hb b0) 1 (fun q => absurd q (by decide)) (fun _ z9 => ?_)⟩⟩) (fun nb => ⟨fun _ => no 1 (fun _ => rfl) (fun z9 => absurd z9 (hb2 nb)), fun q => absurd q (by decide)⟩))
    rotate_left
    · refine bi_eq.mp c ⟨t_le.mpr ?_, t_le.mpr ?_⟩
      · rcases z9 with z9 | z9 <;> rw [z9] <;> decide
      · rcases z9 with z9 | z9 <;> rw [z9] <;> decide
    obtain ⟨c1, c2⟩ := bi_ne.mp c
    rw [t_le, k0] at c1
    rw [t_le, k1] at c2
    rw [t_eq, t_eq, k0, k1]
    omega
  rw [e66]
  exact ⟨fun c => p18 0 (fun _ => c) (fun q => absurd rfl q), fun c => p18 1 (fun q => absurd q (by decide)) (fun _ z9 => z9 c)⟩
end SPB

section MTL
variable {C : gCo} {M E : gMa} {x y z : gd} {T t s : Nat} {h : gTq} {lv : Nat → Int32}
theorem MK_th3q9 (h : MK x C) (hz : th3 T x z) : MK z C := MK_mdq9 hz.1 rfl rfl h
end MTL
section DTL
variable {d : Nat} {S : gS} {x y : gd} {F : Int32 → gd → gS → Prop} {Fv : gd → gS → Prop} {C : gCo} {E : gMa}
/-- the end of an act: the thread goes on; then one that was started -/
theorem ds_act695q9 (t c s : Int32) (ht : vp_in t 6) {T K : Nat} (eT : T = t.toNatClampNeg) (cp : CP y) (hK : MK y C) (hN : NC C) (y73 : y.1 73 T = 1) (y74 : (y.1 74 T).toInt = (K : Nat)) (K2 : (K : Int) + 1 < (y.1 0 52).toInt ∧ (y.1 0 52).toInt ≤ 1500) (yq : q0 y T) {lv : Nat → Int32} (hlv : ∀ p, p < (stN C (K + 1)).2.1.length → y.1 76 (8 * T + slN (stN C (K + 1)).2.1 p) = lv p) (mc : MMc y E) (mT : ∀ t' : Nat, t' < 6 → ¬ t' = T → (s = 9 → ¬ t' = c.toNatClampNeg) → mTq y C t' (E.2.2 t')) (e3 : (E.2.2 T).2.2.2.1 = 0) (e4 : (E.2.2 T).2.2.2.2.1 = 0) (e5 : y.1 79 T = (E.2.2 T).2.2.2.2.2.1) (e6 : mLt y T (E.2.2 T).2.2.2.2.2.2.1)
    (hc : s = 9 → vp_in c 6 ∧ ¬ c.toNatClampNeg = T ∧ y.1 73 c.toNatClampNeg = 1 ∧ q0 y c.toNatClampNeg ∧ ∃ (h : gTq) (b : Nat) (lc : Nat → Int32), E.2.2 c.toNatClampNeg = thN C c.toNatClampNeg h b lc ∧ (y.1 74 c.toNatClampNeg).toInt = (b : Nat) ∧ b < C.1.length ∧ (∀ p, p < (stN C b).2.1.length → y.1 76 (8 * c.toNatClampNeg + slN (stN C b).2.1 p) = lc p) ∧ h.2.2.2.1 = 0 ∧ h.2.2.2.2.1 = 0 ∧ y.1 79 c.toNatClampNeg = h.2.2.2.2.2.1 ∧ mLt y c.toNatClampNeg h.2.2.2.2.2.2.1)
    (rt : ∀ t' : Nat, t' < 6 → ¬ t' = T → (s = 9 → ¬ t' = c.toNatClampNeg) → rT y S t') (rlT : rl y S T) (rlc : s = 9 → rl y S c.toNatClampNeg)
    (h : ∀ x' S', RI x' S' → ssub S S' → md hL hA y x' → MM1 x' C (upT E T (thN C T (E.2.2 T) (K + 1) lv)) → Fv x' S') : MD (d + 4) z_doAct 695 [(0, vr 0), (1, vi t), (4, vi s), (5, vi c)] [] S y (Dv Fv) := by
  have k1 : (1 : Int32).toInt = 1 := rfl
  have T6 : T < 6 := by rw [eT]; exact vt ht
  have l52 : (y.1 0 52).toInt = C.1.length := hK.1.1
  refine sd_doAct_695 _ _ _ ⟨ht, ht, fun y3' e3' => ?_⟩
  rw [← eT] at e3'
  have ki : (y.1 74 T + 1).toInt = (K + 1 : Nat) := by
    rw [t_add (by omega) (by omega), k1, y74]; omega
  have kc : (y.1 74 T + 1).toNatClampNeg = K + 1 := by rw [t_cl, ki]; rfl
  have t3 : th3 T y y3' := by rw [e3']; exact th3_si (by decide) _ _
  have a3 : y3'.1 74 T = y.1 74 T + 1 := by rw [e3', si_get, if_pos ⟨rfl, rfl⟩]
  have b73 : y3'.1 73 = y.1 73 := by rw [e3', si_cell (by decide)]
  have b76 : y3'.1 76 = y.1 76 := by rw [e3', si_cell (by decide)]
  have b52 : y3'.1 0 52 = y.1 0 52 := by rw [e3', si_cell (by decide)]
  have bq : q0 y3' T := by rw [e3']; exact q0_si (by decide) yq
  obtain ⟨st1, hst1⟩ : ∃ st1, C.1[K + 1]? = some st1 := ⟨_, List.getElem?_eq_getElem (by omega)⟩
  rw [stN_is hst1] at hlv
  refine ds_own3 t ht (CP_th (th3_th t3) cp) (by rw [← eT, a3, ki]; omega) (fun _ => by rw [← eT, a3, b52, ki]; omega) (by rw [← eT]; exact bq) (MK_th3q9 hK t3) hN (by rw [← eT, b73]; exact y73) (st0 := st1) (lv0 := lv) (by rw [← eT, a3, kc]; exact hst1) (fun p hp => by rw [← eT, b76]; exact hlv p hp) (fun z S2 tz sz raz w9 z78 ow => ?_)
  rw [← eT] at tz raz w9 z78 ow
  rw [a3, kc] at ow
  have ty : th3 T y z := th3_tr t3 tz
  have rtz : ∀ t' : Nat, t' < 6 → (s = 9 → ¬ t' = c.toNatClampNeg) → rT z S2 t' := by
    intro t' ht' hc'
    by_cases q : t' = T
    · rw [q]; exact ⟨raz, Or.inl w9, rl_th (th3_th ty) sz rlT⟩
    · exact rT_th (th3_th ty) sz q (rt t' ht' q hc')
  have mz : mTq z C T (thN C T (E.2.2 T) (K + 1) lv) := mTq_own ow w9 z78 e3 e4 (by rw [ty.1.2.1 79 (by decide) (by decide)]; exact e5) (mLt_eq e6 (ty.1.2.1 80 (by decide) (by decide)) (ty.1.2.1 81 (by decide) (by decide)) (ty.1.2.1 82 (by decide) (by decide)))
  have mo : ∀ t' : Nat, t' < 6 → ¬ t' = T → (s = 9 → ¬ t' = c.toNatClampNeg) → mTq z C t' (E.2.2 t') := fun t' ht' ne hc' => mTq_th hN ty ne (mT t' ht' ne hc')
  refine ⟨fun n9 => Dv_i (h z S2 ⟨CP_th (th3_th ty) cp, fun t' ht' => rtz t' ht' (fun q => absurd q n9)⟩ sz ty.1 ⟨(MMc_th mc ty).1, (MMc_th mc ty).2, fun t' ht' => ?_⟩), fun e9 => ?_⟩
  · show mTq z C t' (upf E.2.2 T _ t')
    by_cases q : t' = T
    · rw [q, upf_eq]; exact mz
    · rw [upf_ne q]; exact mo t' ht' q (fun z => absurd z n9)
  obtain ⟨c1, c2, c3, c4, hh, b, lc, g1, g2, g3, g4, g5, g6, g7, g8⟩ := hc e9
  obtain ⟨N, eN⟩ : ∃ N, N = c.toNatClampNeg := ⟨_, rfl⟩
  rw [← eN] at c2 c3 c4 g1 g2 g4 g7 g8
  have N6 : N < 6 := by rw [eN]; exact vt c1
  have f := fun q hq => ty.2.1 q N hq c2
  obtain ⟨stb, hstb⟩ : ∃ stb, C.1[b]? = some stb := ⟨_, List.getElem?_eq_getElem g3⟩
  have es := stN_is hstb
  have z74 : z.1 74 N = y.1 74 N := f 74 (by omega)
  have bc : (z.1 74 N).toNatClampNeg = b := by rw [z74, t_cl, g2]; rfl
  refine ds_own3 c c1 (CP_th (th3_th ty) cp) (by rw [← eN, z74, g2]; omega) (fun _ => by rw [← eN, z74, g2, ty.1.1 52 (by decide)]; omega) (by rw [← eN]; unfold q0; rw [f 77 (by omega), f 78 (by omega), f 75 (by omega)]; exact c4) (MK_th3q9 hK ty) hN (by rw [← eN, f 73 (by omega)]; exact c3) (st0 := stb) (lv0 := lc) (by rw [← eN, bc]; exact hstb) (fun p hp => ?_) (fun u S3 tu su rau wu u78 ou => ?_)
  · have hp' : p < (stN C b).2.1.length := by rw [es]; exact hp
    have k8 := kn_8 hN b _ (slN_mem hp')
    have g4' := g4 p hp'
    rw [es] at k8 g4'
    rw [← eN, ty.2.2 _ (by omega)]
    exact g4'
  rw [← eN] at tu rau wu u78 ou
  rw [bc] at ou
  refine Dv_i (h u S3 ⟨CP_th (th3_th tu) (CP_th (th3_th ty) cp), fun t' ht' => ?_⟩ (ssub_tr sz su) (md_tr ty.1 tu.1 rfl rfl) ⟨(MMc_th (MMc_th mc ty) tu).1, (MMc_th (MMc_th mc ty) tu).2, fun t' ht' => ?_⟩)
  · by_cases q : t' = N
    · rw [q]; exact ⟨rau, Or.inl wu, rl_th (th3_th tu) su (rl_th (th3_th ty) sz (by rw [eN]; exact rlc e9))⟩
    · exact rT_th (th3_th tu) su q (rtz t' ht' (fun _ => by rw [← eN]; exact q))
  · show mTq u C t' (upf E.2.2 T _ t')
    by_cases q : t' = T
    · rw [q, upf_eq]
      exact mTq_th hN tu (fun z => c2 z.symm) mz
    · rw [upf_ne q]
      by_cases q2 : t' = N
      · rw [q2, g1]
        exact mTq_own ou wu u78 g5 g6 (by rw [tu.1.2.1 79 (by decide) (by decide), ty.1.2.1 79 (by decide) (by decide)]; exact g7) (mLt_eq g8 (by rw [tu.1.2.1 80 (by decide) (by decide), ty.1.2.1 80 (by decide) (by decide)]) (by rw [tu.1.2.1 81 (by decide) (by decide), ty.1.2.1 81 (by decide) (by decide)]) (by rw [tu.1.2.1 82 (by decide) (by decide), ty.1.2.1 82 (by decide) (by decide)]))
      · exact mTq_th hN tu q2 (mo t' ht' q (fun _ => by rw [← eN]; exact q2))
end DTL

section DAC
variable {d : Nat} {S : gS} {x y : gd} {F : Int32 → gd → gS → Prop} {Fv : gd → gS → Prop} {C : gCo} {E : gMa}
theorem ds_act667q9 (t k c s v : Int32) (ht : vp_in t 6) {T K : Nat} (eT : T = t.toNatClampNeg) (eK : k.toInt = (K : Nat)) (cp : CP y) (hK : MK y C) (hN : NC C) (hX : NXc C) {st : gNs} (hst : C.1[K]? = some st) (o16 : st.1 < 16) (K2 : (K : Int) + 1 < (y.1 0 52).toInt ∧ (y.1 0 52).toInt ≤ 1500) (mc : MMc y E) (mT : ∀ t' : Nat, t' < 6 → (s = 9 → ¬ t' = c.toNatClampNeg) → mTq y C t' (E.2.2 t')) (cT : s = 9 → ¬ c.toNatClampNeg = T) (e0 : (E.2.2 T).1 = 1) (e1 : (E.2.2 T).2.1 = 0) (e2 : (E.2.2 T).2.2.1 = K) (e3 : (E.2.2 T).2.2.2.1 = 0) (e4 : (E.2.2 T).2.2.2.2.1 = 0)
    (hc : s = 9 → vp_in c 6 ∧ y.1 73 c.toNatClampNeg = 1 ∧ q0 y c.toNatClampNeg ∧ ∃ (h : gTq) (b : Nat) (lc : Nat → Int32), E.2.2 c.toNatClampNeg = thN C c.toNatClampNeg h b lc ∧ (y.1 74 c.toNatClampNeg).toInt = (b : Nat) ∧ b < C.1.length ∧ (∀ p, p < (stN C b).2.1.length → y.1 76 (8 * c.toNatClampNeg + slN (stN C b).2.1 p) = lc p) ∧ h.2.2.2.1 = 0 ∧ h.2.2.2.2.1 = 0 ∧ y.1 79 c.toNatClampNeg = h.2.2.2.2.2.1 ∧ mLt y c.toNatClampNeg h.2.2.2.2.2.2.1)
    (rt : ∀ t' : Nat, t' < 6 → (s = 9 → ¬ t' = c.toNatClampNeg) → rT y S t') (rlc : s = 9 → rl y S c.toNatClampNeg)
    (h : ∀ x' S', RI x' S' → ssub S S' → md hL hA y x' → MM1 x' C (upT E T (thN C T (E.2.2 T) (K + 1) (toV st (E.2.2 T).2.2.2.2.2.2.2 v))) → Fv x' S') : MD (d + 4) z_doAct 667 [(0, vr 0), (1, vi t), (3, vi k), (4, vi s), (5, vi c), (6, vi v)] [] S y (Dv Fv) := by
  have k8 : (8 : Int32).toInt = 8 := rfl
  have tv := vp_in_iff.mp ht
  have T6 : T < 6 := by rw [eT]; exact vt ht
  have tTi : t.toInt = (T : Nat) := by rw [eT, t_cl]; omega
  have kK : k.toNatClampNeg = K := by rw [t_cl, eK]; rfl
  have kv : vp_in k 1500 := by rw [vp_in_iff]; omega
  have cT' : s = 9 → ¬ T = c.toNatClampNeg := fun z q => cT z q.symm
  obtain ⟨a1, a2, a3, a4, a5, a6, a7, a8, a9, b1, b2⟩ := mT T T6 cT'
  rw [e0] at a1
  rw [e1] at a3
  rw [e2] at a4
  rw [e3] at a5
  rw [e4] at a7
  rw [e0, e2] at b1
  have b1 := b1 (Or.inl rfl)
  rw [stN_is hst] at b1
  have ns := hN.1 _ st hst
  obtain ⟨-, -, -, -, -, -, -, g61, -⟩ := hK.1.2 _ st hst
  obtain ⟨-, -, -, -, nx6, -⟩ := hX _ st hst
  obtain ⟨st1, hst1, hsf⟩ := ns.2.1 (by omega)
  have es1 := stN_is hst1
  have fin : ∀ z : gd, th3 T y z → z.1 73 = y.1 73 → z.1 74 = y.1 74 → z.1 75 = y.1 75 → z.1 77 = y.1 77 → z.1 78 = y.1 78 → (∀ p, p < (aftN st).length → z.1 76 (8 * T + slN (aftN st) p) = toV st (E.2.2 T).2.2.2.2.2.2.2 v p) → MD (d + 4) z_doAct 695 [(0, vr 0), (1, vi t), (4, vi s), (5, vi c)] [] S z (Dv Fv) := by
    intro z tz f73 f74 f75 f77 f78 hl
    have f := fun q (h0 : q ≠ 0) hq => tz.1.2.1 q h0 hq
    have f52 : z.1 0 52 = y.1 0 52 := tz.1.1 52 (by decide)
    have lt : ∀ {n : Nat} {l : List (Nat × Int32)}, mLt y n l → mLt z n l := fun q => mLt_eq q (f 80 (by decide) (by decide)) (f 81 (by decide) (by decide)) (f 82 (by decide) (by decide))
    refine ds_act695q9 t c s ht eT (CP_th (th3_th tz) cp) (MK_th3q9 hK tz) hN (by rw [f73]; exact a1) (by rw [f74]; exact a4) (by rw [f52]; exact K2) (by unfold q0; rw [f77, f78, f75]; exact ⟨a5, a7, a3⟩) (fun p hp => ?_) (MMc_th mc tz) (fun t' ht' ne hc' => mTq_th hN tz ne (mT t' ht' hc')) e3 e4 (by rw [f 79 (by decide) (by decide)]; exact a8) (lt a9) (fun e9 => ?_) (fun t' ht' ne hc' => rT_th (th3_th tz) (ssub_rf _) ne (rt t' ht' hc')) (rl_th (th3_th tz) (ssub_rf _) (rt T T6 cT').2.2) (fun e9 => rl_th (th3_th tz) (ssub_rf _) (rlc e9)) (fun x' S' r ss m mm => h x' S' r ss (md_tr tz.1 m rfl rfl) mm)
    · rw [es1] at hp ⊢
      rw [slN_suf hsf hp]
      exact hl p (by have := hsf.length_le; omega)
    · obtain ⟨c1, c3, c4, hh, b, lc, g1, g2, g3, g4, g5, g6, g7, g8⟩ := hc e9
      refine ⟨c1, cT e9, by rw [f73]; exact c3, by unfold q0; rw [f77, f78, f75]; exact c4, hh, b, lc, g1, by rw [f74]; exact g2, g3, fun p hp => ?_, g5, g6, by rw [f 79 (by decide) (by decide)]; exact g7, lt g8⟩
      have q8 := kn_8 hN b _ (slN_mem hp)
      have cne := cT e9
      rw [tz.2.2 _ (by omega)]
      exact g4 p hp
  rw [← kK] at g61
  refine sd_doAct_667 _ _ _ _ _ ⟨kv, ?_⟩
  rw [g61]
  cases hto : st.2.2.2.1 with
  | none =>
    have em : mNt st = -1 := by unfold mNt; rw [hto]
    have ea : aftN st = st.2.1 := if_neg (fun z => by rw [hto] at z; exact nomatch z.2)
    rw [em]
    refine ⟨fun _ => fin y (th3_rf T y) rfl rfl rfl rfl rfl (fun p hp => ?_), fun ne => absurd rfl ne⟩
    rw [ea] at hp ⊢
    unfold toV
    rw [hto]
    exact b1 p hp
  | some p =>
    have o4 : st.1 = 0 ∨ (2 ≤ st.1 ∧ st.1 ≤ 4) := Classical.byContradiction (fun n4 => by
      rw [nx6 (by omega)] at hto
      exact nomatch hto)
    obtain ⟨apw, ap8, app, ap61, apj⟩ := aft_slot hN hst o4 hto
    have sl8 := ap8 _ (slN_mem app)
    have eo : (Int32.ofNat (slN (aftN st) p)).toInt = (slN (aftN st) p : Nat) := Int32.toInt_ofNat_of_lt (by omega)
    have m8 : (8 * t).toInt = 8 * t.toInt := by rw [t_mul (by rw [k8]; omega) (by rw [k8]; omega), k8]
    have ei : (8 * t + Int32.ofNat (slN (aftN st) p)).toInt = 8 * t.toInt + (slN (aftN st) p : Nat) := by rw [t_add (by omega) (by omega), m8, eo]
    have ei' : (8 * t + Int32.ofNat (slN (aftN st) p)).toNatClampNeg = 8 * T + slN (aftN st) p := by rw [t_cl, ei, tTi]; omega
    rw [ap61]
    refine ⟨fun q => ?_, fun ne => ⟨kv, by rw [vp_in_iff, ei]; omega, fun z ez => ?_⟩⟩
    · rw [t_eq, eo, show (-1 : Int32).toInt = -1 from rfl] at q
      omega
    · rw [ei'] at ez
      have tz : th3 T y z := by rw [ez]; exact th3_76 (by omega) _ _
      refine fin z tz (by rw [ez, si_cell (by decide)]) (by rw [ez, si_cell (by decide)]) (by rw [ez, si_cell (by decide)]) (by rw [ez, si_cell (by decide)]) (by rw [ez, si_cell (by decide)]) (fun j hj => ?_)
      unfold toV
      rw [hto, ez, si_get]
      show _ = fup _ p v j
      unfold fup
      by_cases c9 : j = p
      · rw [c9, if_pos ⟨rfl, rfl⟩, if_pos rfl]
      · obtain ⟨j1', j2'⟩ := apj j hj c9
        rw [if_neg (fun z => c9 (slN_inj apw hj app (by have := z.2; omega))), if_neg c9, j2']
        exact b1 j j1'
end DAC

section DDA
variable {d : Nat} {S : gS} {x : gd} {F : Int32 → gd → gS → Prop} {Fv : gd → gS → Prop} {C : gCo} {M : gMa}
set_option maxHeartbeats 1000000 in
theorem ds_doAct3q9 (t w : Int32) (ht : vp_in t 6) (ri : RI x S) (h1 : x.1 73 t.toNatClampNeg = 1) (hw : ¬ x.1 77 t.toNatClampNeg = 1) (hK : MK x C) (hN : NC C) (hX : NXc C) (hM : MM1 x C M) (hW : WM M) {wa : Nat} (wy : x.1 0 68 = Int32.ofNat wa) (w01 : wa = 0 ∨ wa = 1) {wk : Option Nat} (hwk : (wk = none ∧ w = -1) ∨ ∃ o : Nat, wk = some o ∧ o < 6 ∧ w = Int32.ofNat o) (h : ∀ x' S', RI x' S' → ssub S S' → acS S' → acP (srt x t.toNatClampNeg) x' → MM1 x' C (acM C wa M t.toNatClampNeg wk) → Fv x' S') : MD (d + 4) z_doAct 0 [(0, vr 0), (1, vi t), (2, vi w)] [] S x (Dv Fv) := by
  have k0 : (0 : Int32).toInt = 0 := rfl
  have k1 : (1 : Int32).toInt = 1 := rfl
  have k8 : (8 : Int32).toInt = 8 := rfl
  have tv := vp_in_iff.mp ht
  obtain ⟨kv, kn, so', av⟩ := RI_step ri (vt ht) h1
  obtain ⟨s1, s2, s3⟩ := srt_of ri (vt ht) h1
  obtain ⟨T, eT⟩ : ∃ T, T = t.toNatClampNeg := ⟨_, rfl⟩
  have T6 : T < 6 := by rw [eT]; exact vt ht
  have tT : t = Int32.ofNat T := i32_of (by rw [eT, t_cl]; omega)
  have lk0 := fun (d' : Nat) (Fv' : gd → gS → Prop) => ds_look3 (d := d') (Fv := Fv') (M := M) (w := wa) t ht ri h1 hw hK hN hX hM wy w01
  rw [← eT] at kv kn av s1 s2 s3 h1 hw h lk0
  obtain ⟨k, ek⟩ : ∃ k, k = x.1 74 T := ⟨_, rfl⟩
  rw [← ek] at kv kn av s1 s2 s3
  obtain ⟨s, es⟩ : ∃ s, s = srt x T := ⟨_, rfl⟩
  rw [← es] at s1 s2 s3 h
  have kb := vp_in_iff.mp kv
  have j2' := ri.1.2.1.2.1
  obtain ⟨m73, l73, m75, m74, m77, l77, m78, m79, mlt, mlv⟩ := hM.2.2 T T6
  rw [← ek] at m74
  -- the step
  have l52 : (x.1 0 52).toInt = C.1.length := hK.1.1
  obtain ⟨K, eKd⟩ : ∃ K, K = (M.2.2 T).2.2.1 := ⟨_, rfl⟩
  rw [← eKd] at m74
  have kst : k.toNatClampNeg = K := by rw [t_cl, m74]; rfl
  obtain ⟨st, hst⟩ : ∃ st, C.1[K]? = some st := ⟨_, List.getElem?_eq_getElem (by omega)⟩
  have esN := stN_is hst
  obtain ⟨g54, g55, g56, g57, g58, g59, g60, -, -⟩ := hK.1.2 _ st hst
  have ns := hN.1 _ st hst
  rw [← kst] at g54 g55 g56
  have o16 : st.1 < 16 := by
    have a := ((ri.2 T T6).1.2.2 h1).2
    rw [← ek, g54] at a
    exact (mWh_i st.1 ns.1.1).1.mp a
  have g55 := g55 o16
  have sta1 : (M.2.2 T).1 = 1 := by
    have : Int32.ofNat (M.2.2 T).1 = 1 := by rw [← m73]; exact h1
    rcases (show (M.2.2 T).1 = 0 ∨ (M.2.2 T).1 = 1 ∨ (M.2.2 T).1 = 2 ∨ (M.2.2 T).1 = 3 by omega) with e | e | e | e <;> rw [e] at this ⊢ <;> first | rfl | exact absurd this (by decide)
  obtain ⟨b2, b1, b0⟩ := wai_2 _ (show (M.2.2 T).2.2.2.1 < 3 by omega)
  rw [← m77] at b2 b1 b0
  obtain ⟨o, eo⟩ : ∃ o, o = soM C (M.2.2 T) := ⟨_, rfl⟩
  have sO : s = Int32.ofNat o ∧ o < 16 ∧ (o = 15 → ¬ (M.2.2 T).2.2.2.1 = 0) ∧ (¬ o = 15 → (M.2.2 T).2.2.2.1 = 0 ∧ o = st.1) := by
    rw [eo, es]
    unfold soM srt
    rw [← eKd, esN]
    by_cases c2 : x.1 77 T = 2
    · rw [if_pos c2, if_neg (by have := b2.mp c2; omega)]
      exact ⟨rfl, by omega, fun _ => by have := b2.mp c2; omega, fun z => absurd rfl z⟩
    · have w0 : (M.2.2 T).2.2.2.1 = 0 := by
        have a1 : ¬ (M.2.2 T).2.2.2.1 = 2 := fun z => c2 (b2.mpr z)
        have a2 : ¬ (M.2.2 T).2.2.2.1 = 1 := fun z => hw (b1.mpr z)
        omega
      rw [if_neg c2, if_pos w0, ← ek]
      exact ⟨g55, o16, fun z => absurd z ns.1.2, fun _ => ⟨w0, rfl⟩⟩
  obtain ⟨sI, o15, oR, oN⟩ := sO
  have sE : ∀ n : Nat, n < 16 → (s = Int32.ofNat n ↔ o = n) := fun n hn => by
    rw [t_eq, sI, op_16 o o15, op_16 n hn]; omega
  have num0 : (M.2.2 T).2.1 = 0 := (hW T T6).1 (by rw [sta1]; decide)
  obtain ⟨L, eL⟩ : ∃ L, L = lkM C wa M T := ⟨_, rfl⟩
  have L9 : L.1 ≤ 9 := by rw [eL]; exact lkM_le
  let Y : gd → gS → Prop := fun y S1 => ssub S S1 ∧ acS S1 ∧ acP s y ∧ y.1 0 52 = x.1 0 52
  have go3 : ∀ (z : gd) (S2 : gS) (c v : Int32) (E : gMa), ¬ s = 9 → Y z S2 → RI z S2 → MK z C → MMc z E → (∀ t' : Nat, t' < 6 → mTq z C t' (E.2.2 t')) → (E.2.2 T).1 = 1 → (E.2.2 T).2.1 = 0 → (E.2.2 T).2.2.1 = K → (E.2.2 T).2.2.2.1 = 0 → (E.2.2 T).2.2.2.2.1 = 0 → (E.2.2 T).2.2.2.2.2.2.2 = (M.2.2 T).2.2.2.2.2.2.2 → L.1 = 0 → ¬ o = 7 → efM C wa M T o L.2.1.toNatClampNeg L.2.2.1 L.2.2.2 wk = (E, v) → MD (d + 4) z_doAct 667 [(0, vr 0), (1, vi t), (3, vi k), (4, vi s), (5, vi c), (6, vi v)] [] S2 z (Dv Fv) := by
    intro z S2 c v E n9 hy rz kz mc mT e0 e1 e2 e3 e4 e7 L0 n7 he
    obtain ⟨y1, y2, y3, y4⟩ := hy
    have ha := acM_is (wk := wk) (E := E) (v := v) (by rw [← eL]; exact L0) (by rw [← eo]; exact n7) (by rw [← eo, ← eL]; exact he)
    rw [← eKd, esN, ← e7] at ha
    refine ds_act667q9 t k c s v ht eT m74 rz.1 kz hN hX hst o16 (by rw [y4]; omega) mc (fun t' ht' _ => mT t' ht') (fun q => absurd q n9) e0 e1 e2 e3 e4 (fun q => absurd q n9) (fun t' ht' _ => rz.2 t' ht') (fun q => absurd q n9) (fun x' S' r ss m mm => h x' S' r (ssub_tr y1 ss) (acS_up ss y2) ?_ (by rw [ha]; exact mm))
    unfold acP
    rw [m.1 88 (by decide), m.1 89 (by decide)]
    exact y3
  refine sd_doAct_0 _ _ ⟨ht, ds_sortOf t ht (by rw [← eT, ← ek]; exact kv) ?_⟩
  rw [← eT, ← es, ← ek]
  refine lk0 d _ (fun x4 S4 m4 ss4 lk4 lp lq y5 e5 y6 e6 => ?_)
  unfold lkP at lp
  rw [← es, ← ek] at lp
  rw [← eL] at lq
  obtain ⟨lp1, lp2, lp3⟩ := lp
  have m5 := md_f x4 92 0
  rw [← e5] at m5
  have m6 := md_f y5 93 0
  rw [← e6] at m6
  have m46 : md [92, 93] [] x4 y6 := md_tr m5 m6 rfl rfl
  have m06 : md [82, 88, 89, 90, 91, 92, 93] [84] x y6 := md_tr m4 m46 rfl rfl
  have f88 : y6.1 0 88 = x4.1 0 88 := m46.1 88 (by decide)
  have f89 : y6.1 0 89 = x4.1 0 89 := m46.1 89 (by decide)
  obtain ⟨q89, q88, q9⟩ := lq
  rw [← f88] at lp1 lp2 lp3 q88
  rw [← f89] at lp3 q89
  rw [← m46.1 90 (by decide), ← m46.1 91 (by decide)] at q9
  have ss6 : ssub S4 (sadd (sadd S4 0 92) 0 93) := ssub_tr (ssub_ad _ _ _) (ssub_ad _ _ _)
  obtain ⟨S6, eS6⟩ : ∃ S6, S6 = sadd (sadd S4 0 92) 0 93 := ⟨_, rfl⟩
  have n92 : S6 0 92 := by rw [eS6]; exact Or.inr (Or.inl ⟨rfl, rfl⟩)
  have n93 : S6 0 93 := by rw [eS6]; exact Or.inl ⟨rfl, rfl⟩
  rw [← eS6] at ss6 ⊢
  have lk6 := lkS_up ss6 lk4
  have r6 : RI y6 S6 := RI_md m06 rfl rfl (ssub_tr ss4 ss6) ri
  have M6 : MM1 y6 C M := MM1_md m06 rfl hM
  have K6 : MK y6 C := MK_mdq9 m06 rfl rfl hK
  have mc6 : MMc y6 M := ⟨M6.1, M6.2.1⟩
  have ac6 : acP s y6 := fun q => ⟨(lp3 q).1, fun e9 => by
    have o := s2 (Or.inl (by rw [e9]; decide))
    rw [lp2 (Or.inl (by rw [e9]; decide))]
    exact ⟨o.1, o.2.1⟩⟩
  have g6 := fun q (h0 : q ≠ 0) hq => m06.2.1 q h0 hq
  have hy6 : Y y6 S6 := ⟨ssub_tr ss4 ss6, ⟨lk6.1, lk6.2.1, n92, n93⟩, ac6, m06.1 52 (by decide)⟩
  refine ⟨lk6.2.1, fun cf => ⟨lk6.1, ?_⟩, fun cf => ⟨lk6.2.1, ?_⟩⟩
  rotate_left
  · -- it fails
    have L0 : ¬ L.1 = 0 := fun z => cf (by rw [q89, z]; decide)
    have w0 : (M.2.2 T).2.2.2.1 = 0 := Classical.byContradiction (fun n0 => L0 (by rw [eL, lkM_15 n0]))
    have ha := acM_F (wk := wk) (by rw [← eL]; exact L0)
    rw [← eL] at ha
    refine ds_actF (d := d + 2) t _ ht eT r6 K6 hN M6 hW (by rw [g6 73 (by decide) (by decide)]; exact h1) w0 q89 (fun u S1 ru su mu mm => Dv_i (h u S1 ru (ssub_tr hy6.1 su) (acS_up su hy6.2.1) ?_ (by rw [ha]; exact mm)))
    unfold acP
    rw [mu.1 88 (by decide), mu.1 89 (by decide)]
    exact ac6
  -- it does not fail
  rw [t_le, k0] at cf
  have L0 : L.1 = 0 := by
    rw [q89, op_16 _ (by omega)] at cf
    omega
  obtain ⟨q90, q91⟩ := q9 L0
  obtain ⟨c, ec⟩ : ∃ c, c = y6.1 0 88 := ⟨_, rfl⟩
  rw [← ec] at lp2 lp3 q88 ⊢
  obtain ⟨lpa, lp9, lpw⟩ := lp3 cf
  have c24 : 0 ≤ s.toInt ∧ s.toInt ≤ 4 → vp_in c 24 := fun q => by rw [vp_in_iff]; exact lpa q
  have c6 : (5 ≤ s.toInt ∧ s.toInt ≤ 10) ∨ s = 15 → vp_in c 6 := fun q => by
    have o := s2 q
    rw [lp2 q, vp_in_iff]; omega
  -- what leaves the threads alone
  have easy : ∀ (n : Nat), o = n → ¬ n = 9 → ¬ n = 15 → ¬ n = 7 → ∀ (z : gd) (S2 : gS) (v : Int32) (E : gMa), md [82, 90, 91, 92, 93] [70, 71, 72, 84] y6 z → ssub S6 S2 → MMc z E → E.2.2 = M.2.2 → efM C wa M T n L.2.1.toNatClampNeg L.2.2.1 L.2.2.2 wk = (E, v) → MD (d + 4) z_doAct 667 [(0, vr 0), (1, vi t), (3, vi k), (4, vi s), (5, vi c), (6, vi v)] [] S2 z (Dv Fv) := by
    intro n en n9 n15 n7 z S2 v E m ss mc hE he
    have w0 := (oN (by omega)).1
    refine go3 z S2 c v E (fun q => n9 (by have := (sE 9 (by omega)).mp q; omega)) ⟨ssub_tr hy6.1 ss, acS_up ss hy6.2.1, by unfold acP; rw [m.1 88 (by decide), m.1 89 (by decide)]; exact ac6, by rw [m.1 52 (by decide)]; exact hy6.2.2.2⟩ (RI_md m rfl rfl ss r6) (MK_mdq9 m rfl rfl K6) mc (fun t' ht' => by rw [hE]; exact mTq_md m rfl (M6.2.2 t' ht')) (by rw [hE]; exact sta1) (by rw [hE]; exact num0) (by rw [hE]; exact eKd.symm) (by rw [hE]; exact w0) (by rw [hE]; exact (hW T T6).2.1 w0) (by rw [hE]) L0 (by omega) (by rw [en]; exact he)
  refine ⟨fun e => ?_, fun e => ⟨lk6.2.2.1, fun z16 e16 => ?_⟩, fun e => ?_, fun e => ?_, fun e => ?_, fun e => ?_, fun e => ?_, fun e => ?_, fun e => ?_, fun e => ?_, fun e => ?_, fun no => ?_⟩
  · -- read
    have cv := c24 (by rw [e]; decide)
    refine ds_see3 t c ht cv (by rw [← eT]; exact (r6.2 T T6).2.2) (l := (M.2.2 T).2.2.2.2.2.2.1) (by rw [← eT]; exact (M6.2.2 T T6).2.2.2.2.2.2.2.2.1) (fun z ez => ?_)
    have ev : seL (M.2.2 T).2.2.2.2.2.2.1 c.toNatClampNeg (y6.1 70 c.toNatClampNeg) = seM M T L.2.1.toNatClampNeg := by
      rw [mc6.1 _ (vp_lt cv), q88]; rfl
    rw [ev] at ez ⊢
    have mz := md_f y6 92 (seM M T L.2.1.toNatClampNeg)
    rw [← ez] at mz
    exact easy 0 ((sE 0 (by omega)).mp e) (by decide) (by decide) (by decide) z _ _ M (md_w mz (by decide) (by decide)) (ssub_ad _ _ _) (MMc_eq mc6 (mz.2.1 70 (by decide) (by decide)) (mz.2.1 71 (by decide) (by decide)) (mz.2.1 72 (by decide) (by decide))) rfl ef_0
  · -- write
    have cv := c24 (by rw [e]; decide)
    have cr' := lpa (by rw [e]; decide)
    have o1 := (sE 1 (by omega)).mp e
    obtain ⟨w0, os⟩ := oN (by omega)
    have hq6 := M6.2.2 T T6
    have m16 := md_f y6 93 (y6.1 0 90)
    rw [← e16] at m16
    have h68 : z16.1 0 68 = Int32.ofNat wa := by rw [m16.1 68 (by decide), m06.1 68 (by decide)]; exact wy
    have h37 : z16.1 37 = x.1 37 := by rw [m16.2.1 37 (by decide) (by decide), g6 37 (by decide) (by decide)]
    have h80 : z16.1 80 = x.1 80 := by rw [m16.2.1 80 (by decide) (by decide), g6 80 (by decide) (by decide)]
    have e90 : z16.1 0 90 = L.2.2.1 := by rw [m16.1 90 (by decide)]; exact q90
    have cl : c.toNatClampNeg < C.2.2.1.length := by
      obtain ⟨p1, p2⟩ := lkM_pl (C := C) (w := wa) w0 (by rw [← eL]; exact L0)
      rw [← eL] at p2
      rw [q88, p2]
      refine lkI_in hX (st := st) (by rw [← eKd]; exact hst) (by omega) ?_ p1
      have l23 : (x.1 0 23).toInt = C.2.2.1.length := hK.2.2.1.1
      have := Int32.toInt_lt (x.1 0 23)
      omega
    have su : x.1 37 c.toNatClampNeg = if suM C c.toNatClampNeg = true then 1 else 0 := by
      obtain ⟨q, hq⟩ : ∃ q, C.2.2.1[c.toNatClampNeg]? = some q := ⟨_, List.getElem?_eq_getElem cl⟩
      rw [(hK.2.2.1.2 _ q hq).2]
      unfold suM
      rw [hq]
    have put : (wa = 0 ∨ suM C c.toNatClampNeg = true) → ∀ z : gd, z = si z16 70 c.toNatClampNeg (z16.1 0 90) → MD (d + 4) z_doAct 667 [(0, vr 0), (1, vi t), (3, vi k), (4, vi s), (5, vi c), (6, vi 0)] [] (sadd S6 0 93) z (Dv Fv) := fun hs z ez => by
      rw [e90] at ez
      have mz := md_a z16 70 c.toNatClampNeg L.2.2.1 (by decide)
      rw [← ez] at mz
      have mm : md [82, 90, 91, 92, 93] [70, 71, 72, 84] y6 z := md_w (md_tr (L3 := [93]) (A3 := [70]) m16 mz rfl rfl) (by decide) (by decide)
      exact easy 1 o1 (by decide) (by decide) (by decide) z _ 0 (upC M c.toNatClampNeg L.2.2.1) mm (ssub_ad _ _ _) (MMc_C mc6 (fun j => by rw [ez, si_at rfl, m16.2.1 70 (by decide) (by decide)]) (by rw [mz.2.1 71 (by decide) (by decide), m16.2.1 71 (by decide) (by decide)]) (by rw [mz.2.1 72 (by decide) (by decide), m16.2.1 72 (by decide) (by decide)])) rfl (by rw [← q88, ef_1, if_pos hs])
    rw [h68, h37, h80]
    refine ⟨fun c0 => ⟨Or.inr lk6.2.2.1, cv, put (Or.inl (w01.resolve_right (fun z => by rw [z] at c0; exact absurd c0 (by decide))))⟩, fun nw => ⟨cv, fun ns9 => ⟨ht, ?_⟩, fun n0 => ⟨Or.inr lk6.2.2.1, cv, put (Or.inr (Classical.byContradiction (fun z => n0 (by rw [su, if_neg z]))))⟩⟩⟩
    have w1 : wa = 1 := w01.resolve_left (fun z => nw (by rw [z]; rfl))
    have su0 : ¬ (wa = 0 ∨ suM C c.toNatClampNeg = true) := fun z => z.elim (fun z => by omega) (fun z => by rw [su, if_pos z] at ns9; exact absurd ns9 (by decide))
    have n8 := lpw e (by rw [wy, w1]; rfl) ns9
    obtain ⟨N, eN⟩ : ∃ N, N = x.1 80 T := ⟨_, rfl⟩
    have rlx := (ri.2 T T6).2.2
    have N0 := rlx.1
    have N8 := rlx.2.1
    obtain ⟨ll1, ll2⟩ := hq6.2.2.2.2.2.2.2.2.1
    rw [g6 80 (by decide) (by decide), ← eN] at ll1
    rw [← eN] at N0 N8 n8 ⊢
    have Nl : N.toInt < 8 := by
      rw [t_eq, k8] at n8
      omega
    obtain ⟨iv, ie⟩ := t10 ht (i := N) N0 (by omega)
    rw [← eT, show N.toNatClampNeg = (M.2.2 T).2.2.2.2.2.2.1.length by rw [t_cl, ll1]; rfl] at ie
    refine ⟨iv, fun z25 e25 => ⟨ht, ?_⟩⟩
    have i80 : z25.1 80 T = N := by rw [e25, si_cell (by decide), h80, eN]
    rw [i80]
    refine ⟨Or.inr (Or.inr lk6.2.2.1), iv, fun z29 e29 => ⟨ht, ht, fun z32 e32 => ?_⟩⟩
    have j80 : z29.1 80 T = N := by rw [e29, si_cell (by decide), i80]
    rw [j80] at e32
    have z25e : z25.1 0 90 = L.2.2.1 := by rw [e25, si_cell (by decide)]; exact e90
    rw [z25e] at e29
    have a2 : RI z16 (sadd S6 0 93) := RI_md (md_w m16 (L2 := [82, 90, 91, 92, 93]) (A2 := [70, 71, 72, 75, 76, 78, 79, 84]) (by decide) (by decide)) rfl rfl (ssub_ad _ _ _) r6
    have m25 := md_a z16 81 (10 * t + N).toNatClampNeg c (by decide)
    rw [← e25] at m25
    have m29 := md_a z25 82 (10 * t + N).toNatClampNeg L.2.2.1 (by decide)
    rw [← e29] at m29
    have m32 := md_a z29 80 T (N + 1) (by decide)
    rw [← e32] at m32
    have mm : md [] [80, 81, 82] z16 z32 := md_tr (md_tr (L3 := []) (A3 := [81, 82]) m25 m29 rfl rfl) m32 rfl rfl
    have my : md [93] [80, 81, 82] y6 z32 := md_tr m16 mm rfl rfl
    have f := fun q (h0 : q ≠ 0) hq => my.2.1 q h0 hq
    obtain ⟨S9, eS9⟩ : ∃ S9, S9 = sadd (sadd (sadd S6 0 93) 81 (10 * t + N).toNatClampNeg) 82 (10 * t + N).toNatClampNeg := ⟨_, rfl⟩
    rw [← eS9]
    have ss9 : ssub (sadd S6 0 93) S9 := by rw [eS9]; exact ssub_tr (ssub_ad _ _ _) (ssub_ad _ _ _)
    have gm := fun q (h0 : q ≠ 0) hq => mm.2.1 q h0 hq
    have Ni : (N + 1).toInt = N.toInt + 1 := by rw [t_add (by omega) (by omega), k1]
    have r32 : RI z32 S9 := by
      refine ⟨CP_md mm rfl rfl a2.1, fun t' ht' => ?_⟩
      obtain ⟨q1, q2, q3⟩ := a2.2 t' ht'
      refine ⟨?_, ?_, ?_⟩
      · unfold ra
        rw [gm 73 (by decide) (by decide), gm 74 (by decide) (by decide), gm 54 (by decide) (by decide), mm.1 52 (by decide)]
        exact q1
      · unfold rw'
        rw [gm 73 (by decide) (by decide), gm 74 (by decide) (by decide), gm 55 (by decide) (by decide), gm 77 (by decide) (by decide)]
        exact q2
      · have q4 := rl_81 q3 e25 cr'.1 cr'.2
        have ent : ∀ kk : Nat, (kk : Int) < (z16.1 80 t').toInt → S9 81 (10 * t' + kk) ∧ S9 82 (10 * t' + kk) ∧ 0 ≤ (z32.1 81 (10 * t' + kk)).toInt ∧ (z32.1 81 (10 * t' + kk)).toInt < 24 := by
          intro kk hk
          have z80 : z25.1 80 t' = z16.1 80 t' := by rw [e25, si_cell (by decide)]
          obtain ⟨b1, b2, b3⟩ := q4.2.2 kk (by rw [z80]; exact hk)
          have z81 : z32.1 81 = z25.1 81 := by rw [e32, si_cell (by decide), e29, si_cell (by decide)]
          rw [z81, eS9]
          exact ⟨Or.inr b1, Or.inr b2, b3⟩
        by_cases q : t' = T
        · have z80 : z32.1 80 t' = N + 1 := by rw [q, e32, si_get, if_pos ⟨rfl, rfl⟩]
          refine ⟨by rw [z80]; omega, by rw [z80]; omega, fun kk hk => ?_⟩
          rw [z80, Ni] at hk
          have b80 : z16.1 80 t' = N := by rw [h80, q, eN]
          by_cases q9 : (kk : Int) < N.toInt
          · exact ent kk (by rw [b80]; exact q9)
          · have ek9 : 10 * t' + kk = (10 * t + N).toNatClampNeg := by
              rw [ie, q]; omega
            have z81 : z32.1 81 (10 * t' + kk) = c := by rw [e32, si_cell (by decide), e29, si_cell (by decide), e25, si_get, if_pos ⟨rfl, ek9⟩]
            rw [z81, eS9]
            exact ⟨Or.inr (Or.inl ⟨rfl, ek9⟩), Or.inl ⟨rfl, ek9⟩, cr'⟩
        · have z80 : z32.1 80 t' = z16.1 80 t' := by rw [e32, si_ne 80 t' q, e29, si_cell (by decide), e25, si_cell (by decide)]
          unfold rl
          rw [z80]
          exact ⟨q3.1, q3.2.1, ent⟩
    have mlx : ∀ t' : Nat, t' < 6 → ¬ t' = T → ∀ j q, (M.2.2 t').2.2.2.2.2.2.1[j]? = some q → z32.1 81 (10 * t' + j) = y6.1 81 (10 * t' + j) ∧ z32.1 82 (10 * t' + j) = y6.1 82 (10 * t' + j) := fun t' ht' ne j q hj => by
      have b := (M6.2.2 t' ht').2.2.2.2.2.2.2.2.1.1
      have b8 := (r6.2 t' ht').2.2.2.1
      have := gt_lt hj
      have b9 : 10 * t' + j ≠ (10 * t + N).toNatClampNeg := by rw [ie]; omega
      rw [e32, si_cell (by decide), si_cell (by decide), e29, si_cell (by decide), si_ne 82 _ b9, e25, si_ne 81 _ b9, si_cell (by decide), m16.2.1 81 (by decide) (by decide), m16.2.1 82 (by decide) (by decide)]
      exact ⟨rfl, rfl⟩
    refine go3 z32 S9 c 0 (upT M T ((M.2.2 T).1, (M.2.2 T).2.1, (M.2.2 T).2.2.1, (M.2.2 T).2.2.2.1, (M.2.2 T).2.2.2.2.1, (M.2.2 T).2.2.2.2.2.1, (M.2.2 T).2.2.2.2.2.2.1 ++ [(c.toNatClampNeg, L.2.2.1)], (M.2.2 T).2.2.2.2.2.2.2)) (fun q => by have := (sE 9 (by omega)).mp q; omega) ⟨ssub_tr hy6.1 (ssub_tr (ssub_ad _ _ _) ss9), acS_up ss9 (acS_up (ssub_ad _ _ _) hy6.2.1), by unfold acP; rw [my.1 88 (by decide), my.1 89 (by decide)]; exact ac6, by rw [my.1 52 (by decide)]; exact hy6.2.2.2⟩ r32 (MK_mdq9 my rfl rfl K6) (MMc_eq mc6 (f 70 (by decide) (by decide)) (f 71 (by decide) (by decide)) (f 72 (by decide) (by decide))) (fun t' ht' => ?_) (by show (upf M.2.2 T _ T).1 = 1; rw [upf_eq]; exact sta1) (by show (upf M.2.2 T _ T).2.1 = 0; rw [upf_eq]; exact num0) (by show (upf M.2.2 T _ T).2.2.1 = K; rw [upf_eq]; exact eKd.symm) (by show (upf M.2.2 T _ T).2.2.2.1 = 0; rw [upf_eq]; exact w0) (by show (upf M.2.2 T _ T).2.2.2.2.1 = 0; rw [upf_eq]; exact (hW T T6).2.1 w0) (by show (upf M.2.2 T _ T).2.2.2.2.2.2.2 = _; rw [upf_eq]) L0 (by omega) (by rw [o1, ← q88, ef_1, if_neg su0])
    show mTq z32 C t' (upf M.2.2 T _ t')
    have pre : ∀ hh : gTq, mTq y6 C t' (M.2.2 t') → mLt z32 t' hh.2.2.2.2.2.2.1 → (hh.1, hh.2.1, hh.2.2.1, hh.2.2.2.1, hh.2.2.2.2.1, hh.2.2.2.2.2.1, (M.2.2 t').2.2.2.2.2.2.1, hh.2.2.2.2.2.2.2) = M.2.2 t' → mTq z32 C t' hh := fun hh q ql eh => by
      rw [← eh] at q
      obtain ⟨a1, a2, a3, a4, a5, a6, a7, a8, -, b1⟩ := q
      refine ⟨by rw [f 73 (by decide) (by decide)]; exact a1, a2, by rw [f 75 (by decide) (by decide)]; exact a3, by rw [f 74 (by decide) (by decide)]; exact a4, by rw [f 77 (by decide) (by decide)]; exact a5, a6, by rw [f 78 (by decide) (by decide)]; exact a7, by rw [f 79 (by decide) (by decide)]; exact a8, ql, ?_⟩
      unfold mLv at b1 ⊢
      rw [f 76 (by decide) (by decide)]; exact b1
    by_cases q : t' = T
    · rw [q, upf_eq]
      rw [q] at pre
      refine pre _ hq6 ⟨?_, fun j qq hj => ?_⟩ rfl
      · show (z32.1 80 T).toInt = (((M.2.2 T).2.2.2.2.2.2.1 ++ [(c.toNatClampNeg, L.2.2.1)]).length : Nat)
        rw [e32, si_get, if_pos ⟨rfl, rfl⟩, Ni, ll1, List.length_append]
        rfl
      · have hj : ((M.2.2 T).2.2.2.2.2.2.1 ++ [(c.toNatClampNeg, L.2.2.1)])[j]? = some qq := hj
        have e81 : z32.1 81 (10 * T + j) = if 10 * T + j = (10 * t + N).toNatClampNeg then c else y6.1 81 (10 * T + j) := by rw [e32, si_cell (by decide), e29, si_cell (by decide), e25, si_at rfl, m16.2.1 81 (by decide) (by decide)]
        have e82 : z32.1 82 (10 * T + j) = if 10 * T + j = (10 * t + N).toNatClampNeg then L.2.2.1 else y6.1 82 (10 * T + j) := by rw [e32, si_cell (by decide), e29, si_at rfl, e25, si_cell (by decide), m16.2.1 82 (by decide) (by decide)]
        rw [e81, e82, ie]
        by_cases cj : j < (M.2.2 T).2.2.2.2.2.2.1.length
        · rw [List.getElem?_append_left cj] at hj
          rw [if_neg (by omega), if_neg (by omega)]
          exact ll2 j qq hj
        · rw [List.getElem?_append_right (by omega)] at hj
          have jl := gt_lt hj
          have jl : j - (M.2.2 T).2.2.2.2.2.2.1.length < 1 := jl
          have j0 : j - (M.2.2 T).2.2.2.2.2.2.1.length = 0 := by omega
          rw [j0] at hj
          have hj := Option.some.inj hj
          rw [if_pos (by omega), if_pos (by omega), ← hj]
          exact ⟨i32_of (by show c.toInt = (c.toNatClampNeg : Nat); rw [t_cl]; omega), rfl, by show c.toNatClampNeg < 24; rw [t_cl]; omega⟩
    · rw [upf_ne q]
      refine pre _ (M6.2.2 t' ht') ⟨?_, fun j qq hj => ?_⟩ rfl
      · rw [e32, si_ne 80 t' q, e29, si_cell (by decide), e25, si_cell (by decide), m16.2.1 80 (by decide) (by decide)]
        exact (M6.2.2 t' ht').2.2.2.2.2.2.2.2.1.1
      · obtain ⟨c1, c2⟩ := mlx t' ht' q j qq hj
        rw [c1, c2]
        exact (M6.2.2 t' ht').2.2.2.2.2.2.2.2.1.2 j qq hj
  · -- swap, add, cas
    have s24 : 0 ≤ s.toInt ∧ s.toInt ≤ 4 := by rcases e with e | e | e <;> (rw [e]; decide)
    have oo : o = 2 ∨ o = 3 ∨ o = 4 := e.imp (sE 2 (by omega)).mp (Or.imp (sE 3 (by omega)).mp (sE 4 (by omega)).mp)
    have cv := c24 s24
    refine ⟨cv, fun z38 e38 => ⟨cv, Or.inr lk6.2.2.1, ?_⟩⟩
    have m38 := md_f y6 92 (y6.1 70 c.toNatClampNeg)
    rw [← e38] at m38
    have c70 : z38.1 70 c.toNatClampNeg = M.1 c.toNatClampNeg := by rw [m38.2.1 70 (by decide) (by decide)]; exact mc6.1 _ (vp_lt cv)
    have e90 : z38.1 0 90 = L.2.2.1 := by rw [m38.1 90 (by decide)]; exact q90
    have e91 : z38.1 0 91 = L.2.2.2 := by rw [m38.1 91 (by decide)]; exact q91
    have fin : ∀ (u v : Int32) (z z2 : gd), z = si z38 70 c.toNatClampNeg u → z2 = si z 0 93 (z.1 70 c.toNatClampNeg) → efM C wa M T o c.toNatClampNeg L.2.2.1 L.2.2.2 wk = (upC M c.toNatClampNeg u, v) → MD (d + 4) z_doAct 667 [(0, vr 0), (1, vi t), (3, vi k), (4, vi s), (5, vi c), (6, vi v)] [] (sadd (sadd S6 0 92) 0 93) z2 (Dv Fv) := by
      intro u v z z2 ez ez2 he
      have mz := md_a z38 70 c.toNatClampNeg u (by decide)
      rw [← ez] at mz
      have mz2 := md_f z 93 (z.1 70 c.toNatClampNeg)
      rw [← ez2] at mz2
      have mm : md [82, 90, 91, 92, 93] [70, 71, 72, 84] y6 z2 := md_w (md_tr (L3 := [92, 93]) (A3 := [70]) m38 (md_tr (L3 := [93]) (A3 := [70]) mz mz2 rfl rfl) rfl rfl) (by decide) (by decide)
      exact easy o rfl (by omega) (by omega) (by omega) z2 _ v (upC M c.toNatClampNeg u) mm (ssub_tr (ssub_ad _ _ _) (ssub_ad _ _ _)) (MMc_C mc6 (fun j => by rw [mz2.2.1 70 (by decide) (by decide), ez, si_at rfl, m38.2.1 70 (by decide) (by decide)]) (by rw [mz2.2.1 71 (by decide) (by decide), mz.2.1 71 (by decide) (by decide), m38.2.1 71 (by decide) (by decide)]) (by rw [mz2.2.1 72 (by decide) (by decide), mz.2.1 72 (by decide) (by decide), m38.2.1 72 (by decide) (by decide)])) rfl (by rw [← q88]; exact he)
    have p301 : ∀ (b v : Int32), ((b = 0 ∧ ¬ M.1 c.toNatClampNeg = L.2.2.1) ∨ (b = 1 ∧ M.1 c.toNatClampNeg = L.2.2.1)) → (¬ o = 4 → v = M.1 c.toNatClampNeg) → (o = 4 → v = if M.1 c.toNatClampNeg = L.2.2.1 then 1 else 0) → MD (d + 4) z_doAct 301 [(0, vr 0), (1, vi t), (3, vi k), (4, vi s), (5, vi c), (7, vi b)] [vi v] (sadd S6 0 92) z38 (Dv Fv) := by
      intro b v hb v1 v4
      refine sd_doAct_301 _ _ _ _ _ _ ⟨fun n2 => ⟨fun n3 => ⟨fun b0 => ⟨cv, cv, fun z ez => ⟨cv, fun z2 ez2 => fin (M.1 c.toNatClampNeg) v z z2 (by rw [ez, c70]) ez2 ?_⟩⟩, fun nb => ⟨Or.inr lk6.2.2.2, cv, fun z ez => ⟨cv, fun z2 ez2 => fin L.2.2.2 v z z2 (by rw [ez, e91]) ez2 ?_⟩⟩⟩, fun e3 => ⟨cv, Or.inr lk6.2.2.1, cv, fun z ez => ⟨cv, fun z2 ez2 => fin (M.1 c.toNatClampNeg + L.2.2.1) v z z2 (by rw [ez, c70, e90]) ez2 ?_⟩⟩⟩, fun e2 => ⟨Or.inr lk6.2.2.1, cv, fun z ez => ⟨cv, fun z2 ez2 => fin L.2.2.1 v z z2 (by rw [ez, e90]) ez2 ?_⟩⟩⟩
      · have o4 : o = 4 := (oo.resolve_left (fun q => n2 ((sE 2 (by omega)).mpr q))).resolve_left (fun q => n3 ((sE 3 (by omega)).mpr q))
        have ne : ¬ M.1 c.toNatClampNeg = L.2.2.1 := hb.elim (fun q => q.2) (fun q => absurd (q.1.symm.trans b0) (by decide))
        have v4 := v4 o4
        rw [if_neg ne] at v4
        rw [o4, ef_4, if_neg ne, if_neg ne, v4]
      · have o4 : o = 4 := (oo.resolve_left (fun q => n2 ((sE 2 (by omega)).mpr q))).resolve_left (fun q => n3 ((sE 3 (by omega)).mpr q))
        have ye : M.1 c.toNatClampNeg = L.2.2.1 := hb.elim (fun q => absurd q.1 nb) (fun q => q.2)
        have v4 := v4 o4
        rw [if_pos ye] at v4
        rw [o4, ef_4, if_pos ye, if_pos ye, v4]
      · have o3 := (sE 3 (by omega)).mp e3
        rw [v1 (by omega), o3, ef_3]
      · have o2 := (sE 2 (by omega)).mp e2
        rw [v1 (by omega), o2, ef_2]
    have p278 : ∀ b : Int32, ((b = 0 ∧ ¬ M.1 c.toNatClampNeg = L.2.2.1) ∨ (b = 1 ∧ M.1 c.toNatClampNeg = L.2.2.1)) → MD (d + 4) z_doAct 278 [(0, vr 0), (1, vi t), (3, vi k), (4, vi s), (5, vi c)] [vi b] (sadd S6 0 92) z38 (Dv Fv) := fun b hb => sd_doAct_278 _ _ _ _ _ ⟨fun n4 => ⟨cv, p301 b _ hb (fun _ => c70) (fun q => absurd ((sE 4 (by omega)).mpr q) n4)⟩, fun e4 => ds_one3 _ (p301 b _ hb (fun q => absurd ((sE 4 (by omega)).mp e4) q) (fun _ => by
      rcases hb with ⟨h1, h2⟩ | ⟨h1, h2⟩
      · rw [if_pos h1, if_neg h2]
      · rw [if_neg (by rw [h1]; decide), if_pos h2]))⟩
    rw [c70, e90]
    exact ⟨fun ne => p278 0 (Or.inl ⟨rfl, ne⟩), fun ye => p278 1 (Or.inr ⟨rfl, ye⟩)⟩
  · -- take
    have cv := c6 (Or.inl (by rw [e]; decide))
    refine ⟨cv, fun z ez => ⟨cv, cv, fun z2 ez2 => ?_⟩⟩
    have mz := md_a y6 71 c.toNatClampNeg t (by decide)
    rw [← ez] at mz
    have mz2 := md_a z 72 c.toNatClampNeg (z.1 72 c.toNatClampNeg + 1) (by decide)
    rw [← ez2] at mz2
    have z72 : z.1 72 = y6.1 72 := mz.2.1 72 (by decide) (by decide)
    have h72 := (mc6.2 _ (vp_lt cv)).2.2
    refine easy 5 ((sE 5 (by omega)).mp e) (by decide) (by decide) (by decide) z2 _ 0 (upL M c.toNatClampNeg (T + 1, (M.2.1 c.toNatClampNeg).2 + 1)) (md_tr mz mz2 rfl rfl) (ssub_rf _) (MMc_L mc6 (by rw [mz2.2.1 70 (by decide) (by decide), mz.2.1 70 (by decide) (by decide)]) (a := t) (fun j => by rw [mz2.2.1 71 (by decide) (by decide), ez, si_at rfl]) (fun j => by rw [ez2, si_at rfl, z72, h72]) ?_ (by omega)) rfl (by rw [← q88]; exact ef_5)
    rw [tT]
    exact ((hol_t (T + 1) (by omega) T T6).mpr rfl).symm
  · -- taken again
    have cv := c6 (Or.inr e)
    have oo := (sE 15 (by omega)).mp e
    have hq6 := M6.2.2 T T6
    refine ⟨cv, fun z ez => ⟨ht, cv, fun z2 ez2 => ⟨ht, fun z3 ez3 => ⟨ht, fun z4 ez4 => ?_⟩⟩⟩⟩
    skip
    have mz := md_a y6 71 c.toNatClampNeg t (by decide)
    rw [← ez] at mz
    have mz2 := md_a z 72 c.toNatClampNeg (z.1 78 T) (by decide)
    rw [← ez2] at mz2
    have ma : md [] [71, 72] y6 z2 := md_tr mz mz2 rfl rfl
    have a2 : RI z2 S6 := RI_md (md_w ma (L2 := [82, 90, 91, 92, 93]) (A2 := [70, 71, 72, 75, 76, 78, 79, 84]) (by decide) (by decide)) rfl rfl (ssub_rf _) r6
    have t24 : th3 T z2 z4 := th3_tr (y := z3) (by rw [ez3]; exact th3_si (by decide) _ _) (by rw [ez4]; exact th3_si (by decide) _ _)
    have mb : md [] [77, 78] z2 z4 := by
      have b3 := md_a z2 77 T 0 (by decide)
      rw [← ez3] at b3
      have b4 := md_a z3 78 T 0 (by decide)
      rw [← ez4] at b4
      exact md_tr b3 b4 rfl rfl
    have mm : md [] [71, 72, 77, 78] y6 z4 := md_tr ma mb rfl rfl
    have f := fun q (h0 : q ≠ 0) hq => mm.2.1 q h0 hq
    have w4 : z4.1 77 T = 0 := by rw [ez4, si_cell (by decide), ez3, si_get, if_pos ⟨rfl, rfl⟩]
    have w8 : z4.1 78 T = 0 := by rw [ez4, si_get, if_pos ⟨rfl, rfl⟩]
    have h78 : z.1 78 T = (M.2.2 T).2.2.2.2.1 := by rw [mz.2.1 78 (by decide) (by decide)]; exact hq6.2.2.2.2.2.2.1
    have c73 : z4.1 73 = z2.1 73 := mb.2.1 73 (by decide) (by decide)
    have c74 : z4.1 74 = z2.1 74 := mb.2.1 74 (by decide) (by decide)
    refine go3 z4 S6 c 0 (upT (upL M c.toNatClampNeg (T + 1, (M.2.2 T).2.2.2.2.1)) T ((M.2.2 T).1, (M.2.2 T).2.1, (M.2.2 T).2.2.1, 0, 0, (M.2.2 T).2.2.2.2.2)) (fun q => by have := (sE 9 (by omega)).mp q; omega) ⟨hy6.1, hy6.2.1, by unfold acP; rw [mm.1 88 (by decide), mm.1 89 (by decide)]; exact ac6, by rw [mm.1 52 (by decide)]; exact hy6.2.2.2⟩ ⟨CP_th (th3_th t24) a2.1, fun t' ht' => ?_⟩ (MK_mdq9 mm rfl rfl K6) ?_ (fun t' ht' => ?_) (by show (upf M.2.2 T _ T).1 = 1; rw [upf_eq]; exact sta1) (by show (upf M.2.2 T _ T).2.1 = 0; rw [upf_eq]; exact num0) (by show (upf M.2.2 T _ T).2.2.1 = K; rw [upf_eq]; exact eKd.symm) (by show (upf M.2.2 T _ T).2.2.2.1 = 0; rw [upf_eq]) (by show (upf M.2.2 T _ T).2.2.2.2.1 = 0; rw [upf_eq]) (by show (upf M.2.2 T _ T).2.2.2.2.2.2.2 = _; rw [upf_eq]) L0 (by omega) (by rw [oo, ← q88]; exact ef_15)
    · by_cases q : t' = T
      · rw [q]
        obtain ⟨q1, q2, q3⟩ := a2.2 T T6
        refine ⟨?_, Or.inl w4, rl_th (th3_th t24) (ssub_rf _) q3⟩
        unfold ra
        rw [c73, c74, t24.1.1 52 (by decide), t24.1.2.1 54 (by decide) (by decide)]
        exact q1
      · exact rT_th (th3_th t24) (ssub_rf _) q (a2.2 t' ht')
    · have q := MMc_L (M := M) (z := z4) (c := c.toNatClampNeg) (n := T + 1) (a := t) (b := (M.2.2 T).2.2.2.2.1) mc6 (f 70 (by decide) (by decide)) (fun j => by rw [mb.2.1 71 (by decide) (by decide), mz2.2.1 71 (by decide) (by decide), ez, si_at rfl]) (fun j => by rw [mb.2.1 72 (by decide) (by decide), ez2, si_at rfl, h78, mz.2.1 72 (by decide) (by decide)]) (by rw [tT]; exact ((hol_t (T + 1) (by omega) T T6).mpr rfl).symm) (by omega)
      exact q
    · show mTq z4 C t' (upf M.2.2 T _ t')
      by_cases q : t' = T
      · rw [q, upf_eq]
        exact mTq_w hq6 (fun c9 h9 => by rw [f c9 (by omega) (by simp; omega)]) (f 76 (by decide) (by decide)) (f 81 (by decide) (by decide)) (f 82 (by decide) (by decide)) w4 (by omega) w8 (by rw [f 79 (by decide) (by decide)]; exact hq6.2.2.2.2.2.2.2.1)
      · rw [upf_ne q]
        exact mTq_th hN t24 q (mTq_md ma rfl (M6.2.2 t' ht'))
  · -- give
    have cv := c6 (Or.inl (by rw [e]; decide))
    have h72 := (mc6.2 _ (vp_lt cv)).2.2
    refine ⟨cv, cv, fun z ez => ⟨cv, fun n0 => ⟨cv, fun z2 ez2 => ?_⟩, fun e0 => ⟨cv, fun z2 ez2 => ?_⟩⟩⟩
    · have mz := md_a y6 72 c.toNatClampNeg (y6.1 72 c.toNatClampNeg - 1) (by decide)
      rw [← ez] at mz
      have mz2 := md_a z 71 c.toNatClampNeg t (by decide)
      rw [← ez2] at mz2
      have z71 : z.1 71 = y6.1 71 := mz.2.1 71 (by decide) (by decide)
      rw [ez, si_get, if_pos ⟨rfl, rfl⟩, h72] at n0
      have he := ef_6 (C := C) (M := M) (w := wa) (t := T) (c := c.toNatClampNeg) (e := L.2.2.1) (f := L.2.2.2) (wk := wk)
      rw [if_neg n0] at he
      refine easy 6 ((sE 6 (by omega)).mp e) (by decide) (by decide) (by decide) z2 _ 0 (upL M c.toNatClampNeg (T + 1, (M.2.1 c.toNatClampNeg).2 - 1)) (md_tr mz mz2 rfl rfl) (ssub_rf _) (MMc_L mc6 (by rw [mz2.2.1 70 (by decide) (by decide), mz.2.1 70 (by decide) (by decide)]) (a := t) (fun j => by rw [ez2, si_at rfl, z71]) (fun j => by rw [mz2.2.1 72 (by decide) (by decide), ez, si_at rfl, h72]) ?_ (by omega)) rfl (by rw [← q88]; exact he)
      rw [tT]
      exact ((hol_t (T + 1) (by omega) T T6).mpr rfl).symm
    · have mz := md_a y6 72 c.toNatClampNeg (y6.1 72 c.toNatClampNeg - 1) (by decide)
      rw [← ez] at mz
      have mz2 := md_a z 71 c.toNatClampNeg (-1) (by decide)
      rw [← ez2] at mz2
      have z71 : z.1 71 = y6.1 71 := mz.2.1 71 (by decide) (by decide)
      rw [ez, si_get, if_pos ⟨rfl, rfl⟩, h72] at e0
      have he := ef_6 (C := C) (M := M) (w := wa) (t := T) (c := c.toNatClampNeg) (e := L.2.2.1) (f := L.2.2.2) (wk := wk)
      rw [if_pos e0] at he
      exact easy 6 ((sE 6 (by omega)).mp e) (by decide) (by decide) (by decide) z2 _ 0 (upL M c.toNatClampNeg (0, (M.2.1 c.toNatClampNeg).2 - 1)) (md_tr mz mz2 rfl rfl) (ssub_rf _) (MMc_L mc6 (by rw [mz2.2.1 70 (by decide) (by decide), mz.2.1 70 (by decide) (by decide)]) (a := -1) (fun j => by rw [ez2, si_at rfl, z71]) (fun j => by rw [mz2.2.1 72 (by decide) (by decide), ez, si_at rfl, h72]) rfl (by omega)) rfl (by rw [← q88]; exact he)
  · -- wait
    have cv := c6 (Or.inl (by rw [e]; decide))
    have oo := (sE 7 (by omega)).mp e
    obtain ⟨w0, os⟩ := oN (by omega)
    have hq6 := M6.2.2 T T6
    refine ⟨cv, ht, fun z ez => ⟨cv, fun z2 ez2 => ⟨cv, fun z3 ez3 => ⟨ht, fun z4 ez4 => ?_⟩⟩⟩⟩
    have mz := md_a y6 78 T (y6.1 72 c.toNatClampNeg) (by decide)
    rw [← ez] at mz
    have mz2 := md_a z 72 c.toNatClampNeg 0 (by decide)
    rw [← ez2] at mz2
    have mz3 := md_a z2 71 c.toNatClampNeg (-1) (by decide)
    rw [← ez3] at mz3
    have mz4 := md_a z3 77 T 1 (by decide)
    rw [← ez4] at mz4
    have ma : md [] [71, 72, 78] y6 z3 := md_tr (md_tr (L3 := []) (A3 := [72, 78]) mz mz2 rfl rfl) mz3 rfl rfl
    have mm : md [] [71, 72, 77, 78] y6 z4 := md_tr ma mz4 rfl rfl
    have mx : md [82, 88, 89, 90, 91, 92, 93] [71, 72, 77, 78, 84] x z4 := md_tr m06 mm rfl rfl
    have f := fun q (h0 : q ≠ 0) hq => mm.2.1 q h0 hq
    have a2 : RI z3 S6 := RI_md (md_w ma (L2 := [82, 90, 91, 92, 93]) (A2 := [70, 71, 72, 75, 76, 78, 79, 84]) (by decide) (by decide)) rfl rfl (ssub_rf _) r6
    have t4 : th3 T z3 z4 := by rw [ez4]; exact th3_si (by decide) _ _
    have w4 : z4.1 77 T = 1 := by rw [ez4, si_get, if_pos ⟨rfl, rfl⟩]
    have w8 : z4.1 78 T = (M.2.1 c.toNatClampNeg).2 := by rw [ez4, si_cell (by decide), ez3, si_cell (by decide), ez2, si_cell (by decide), ez, si_get, if_pos ⟨rfl, rfl⟩]; exact (mc6.2 _ (vp_lt cv)).2.2
    have c73 : z4.1 73 = z3.1 73 := mz4.2.1 73 (by decide) (by decide)
    have c74 : z4.1 74 = z3.1 74 := mz4.2.1 74 (by decide) (by decide)
    have ha := acM_7 (wk := wk) (by rw [← eL]; exact L0) (by rw [← eo]; exact oo)
    rw [← eL, ← q88, ef_7] at ha
    have mL := MMc_L (M := M) (z := z4) (c := c.toNatClampNeg) (n := 0) (a := -1) (b := 0) mc6 (f 70 (by decide) (by decide)) (fun j => by rw [mz4.2.1 71 (by decide) (by decide), ez3, si_at rfl, mz2.2.1 71 (by decide) (by decide), mz.2.1 71 (by decide) (by decide)]) (fun j => by rw [mz4.2.1 72 (by decide) (by decide), mz3.2.1 72 (by decide) (by decide), ez2, si_at rfl, mz.2.1 72 (by decide) (by decide)]) rfl (by omega)
    refine Dv_i (h z4 S6 ⟨CP_th (th3_th t4) a2.1, fun t' ht' => ?_⟩ hy6.1 hy6.2.1 (by unfold acP; rw [mm.1 88 (by decide), mm.1 89 (by decide)]; exact ac6) ?_)
    rotate_left
    · rw [ha]
      refine ⟨mL.1, mL.2, fun t' ht' => ?_⟩
      show mTq z4 C t' (upf M.2.2 T _ t')
      by_cases q : t' = T
      · rw [q, upf_eq]
        exact mTq_w hq6 (fun c9 h9 => by rw [f c9 (by omega) (by simp; omega)]) (f 76 (by decide) (by decide)) (f 81 (by decide) (by decide)) (f 82 (by decide) (by decide)) w4 (by omega) w8 (by rw [f 79 (by decide) (by decide)]; exact hq6.2.2.2.2.2.2.2.1)
      · rw [upf_ne q]
        refine mTq_eq (M6.2.2 t' ht') (fun c9 h9 => ?_) (f 76 (by decide) (by decide)) (f 81 (by decide) (by decide)) (f 82 (by decide) (by decide))
        rw [ez4, si_ne c9 t' q, ez3, si_cell (by omega), ez2, si_cell (by omega), ez, si_ne c9 t' q]
    · by_cases q : t' = T
      · rw [q]
        obtain ⟨q1, q2, q3⟩ := a2.2 T T6
        refine ⟨?_, Or.inr ⟨Or.inl w4, by rw [f 73 (by decide) (by decide), g6 73 (by decide) (by decide)]; exact h1, ?_⟩, rl_th (th3_th t4) (ssub_rf _) q3⟩
        · unfold ra
          rw [c73, c74, t4.1.1 52 (by decide), t4.1.2.1 54 (by decide) (by decide)]
          exact q1
        · rw [mx.2.1 55 (by decide) (by decide), mx.2.1 74 (by decide) (by decide), ← ek, g55, ← os, oo]; rfl
      · exact rT_th (th3_th t4) (ssub_rf _) q (a2.2 t' ht')
  · -- wake
    have cv := c6 (Or.inl (by rw [e]; decide))
    have o8 := (sE 8 (by omega)).mp e
    obtain ⟨w0, os⟩ := oN (by omega)
    have cb := vp_in_iff.mp cv
    refine ds_wake3 t w k c s r6 K6 hN hX M6 m74 (by omega) eKd.symm hst (by omega) ⟨cb.1, cb.2⟩ (by rw [g6 77 (by decide) (by decide), m77, w0]; rfl) hwk (fun z rz mz z77 mt => ?_)
    have wT : wkT C M T c.toNatClampNeg wk T = M.2.2 T := if_neg (fun z9 => by rw [w0] at z9; exact absurd z9.2.1 (by decide))
    exact go3 z S6 c 0 (M.1, M.2.1, wkT C M T c.toNatClampNeg wk) (fun q => by have := (sE 9 (by omega)).mp q; omega) ⟨hy6.1, hy6.2.1, by unfold acP; rw [mz.1 88 (by decide), mz.1 89 (by decide)]; exact ac6, by rw [mz.1 52 (by decide)]; exact hy6.2.2.2⟩ rz (MK_mdq9 mz rfl rfl K6) (MMc_eq mc6 (mz.2.1 70 (by decide) (by decide)) (mz.2.1 71 (by decide) (by decide)) (mz.2.1 72 (by decide) (by decide))) mt (by show (wkT C M T c.toNatClampNeg wk T).1 = 1; rw [wT]; exact sta1) (by show (wkT C M T c.toNatClampNeg wk T).2.1 = 0; rw [wT]; exact num0) (by show (wkT C M T c.toNatClampNeg wk T).2.2.1 = K; rw [wT]; exact eKd.symm) (by show (wkT C M T c.toNatClampNeg wk T).2.2.2.1 = 0; rw [wT]; exact w0) (by show (wkT C M T c.toNatClampNeg wk T).2.2.2.2.1 = 0; rw [wT]; exact (hW T T6).2.1 w0) (by show (wkT C M T c.toNatClampNeg wk T).2.2.2.2.2.2.2 = _; rw [wT]) L0 (by omega) (by rw [o8, ← q88]; exact ef_8)
  · -- start
    have cv := c6 (Or.inl (by rw [e]; decide))
    have o9 := (sE 9 (by omega)).mp e
    obtain ⟨w0, os⟩ := oN (by omega)
    refine ⟨cv, fun z ez => ⟨cv, cv, fun z2 ez2 => ?_⟩⟩
    have st0 := lp9 e
    have ct := s3 e
    rw [← lp2 (Or.inl (by rw [e]; decide))] at st0 ct
    obtain ⟨N, eN⟩ : ∃ N, N = c.toNatClampNeg := ⟨_, rfl⟩
    rw [← eN] at st0 ez ez2
    have N6 : N < 6 := by rw [eN]; exact vt cv
    have cT : ¬ N = T := fun q => by rw [q, h1] at st0; exact absurd st0 (by decide)
    have cb := vp_in_iff.mp cv
    have cc := cl_i cb.1
    rw [← eN] at cc
    have tz : th3 N y6 z := by rw [ez]; exact th3_si (by decide) _ _
    have tz2 : th3 N z z2 := by rw [ez2]; exact th3_si (by decide) _ _
    have t2 := th3_tr tz tz2
    have f := fun q (h0 : q ≠ 0) hq => t2.1.2.1 q h0 hq
    have l25 : (x.1 0 25).toInt = C.2.1.length := hK.2.1.1
    obtain ⟨qq, hqq⟩ : ∃ qq, C.2.1[N]? = some qq := ⟨_, List.getElem?_eq_getElem (by omega)⟩
    obtain ⟨hb1, -⟩ := hK.2.1.2 _ qq hqq
    obtain ⟨⟨stb, hstb, kn0⟩, -⟩ := hN.2.1 qq (List.mem_of_getElem? hqq)
    have e64 : z.1 64 = x.1 64 := by rw [ez, si_cell (by decide), g6 64 (by decide) (by decide)]
    have ea : z2.1 74 N = x.1 64 N := by rw [ez2, si_get, if_pos ⟨rfl, rfl⟩, e64]
    have z73 : z2.1 73 N = 1 := by rw [ez2, si_cell (by decide), ez, si_get, if_pos ⟨rfl, rfl⟩]
    have oth : ∀ c9, ¬ c9 = 73 → ¬ c9 = 74 → z2.1 c9 = y6.1 c9 := fun c9 n1 n2 => by rw [ez2, si_cell n2, ez, si_cell n1]
    have hqN := M6.2.2 N N6
    have s0N : (M.2.2 N).1 = 0 := by
      have a := hqN.1
      rw [g6 73 (by decide) (by decide), st0] at a
      exact (sta_0 _ (by have := hqN.2.1; omega)).mp a.symm
    obtain ⟨wn1, wn2, wn3⟩ := hW N N6
    have nm := wn1 (by rw [s0N]; decide)
    have wt := wn3 (by rw [s0N]; decide)
    have of := wn2 wt
    obtain ⟨E, eE⟩ : ∃ E, E = upT M N (thN C N (M.2.2 N) qq.1 (M.2.2 N).2.2.2.2.2.2.2) := ⟨_, rfl⟩
    have ha := acM_is (E := E) (v := 0) (wk := wk) (by rw [← eL]; exact L0) (by rw [← eo]; omega) (by rw [← eo, ← eL, o9, ← q88, ← eN, eE]; exact ef_9 hqq)
    have ET : E.2.2 T = M.2.2 T := by rw [eE]; exact upf_ne (fun q => cT q.symm)
    have EN : E.2.2 N = thN C N (M.2.2 N) qq.1 (M.2.2 N).2.2.2.2.2.2.2 := by rw [eE]; exact upf_eq
    have Eo : ∀ t', ¬ t' = N → E.2.2 t' = M.2.2 t' := fun t' q => by rw [eE]; exact upf_ne q
    have mc2 : MMc z2 E := by rw [eE]; exact MMc_th mc6 t2
    have e7 : (E.2.2 T).2.2.2.2.2.2.2 = (M.2.2 T).2.2.2.2.2.2.2 := by rw [ET]
    rw [← eKd, esN, ← e7] at ha
    refine ds_act667q9 t k c s 0 ht eT m74 (E := E) (CP_th (th3_th t2) r6.1) (MK_th3q9 K6 t2) hN hX hst o16 (by rw [t2.1.1 52 (by decide), hy6.2.2.2]; omega) mc2 (fun t' ht' hc' => ?_) (fun _ => by rw [← eN]; exact cT) (by rw [ET]; exact sta1) (by rw [ET]; exact num0) (by rw [ET]; exact eKd.symm) (by rw [ET]; exact w0) (by rw [ET]; exact (hW T T6).2.1 w0) (fun _ => ?_) (fun t' ht' hc' => rT_th (th3_th t2) (ssub_rf _) (by rw [eN]; exact hc' e) (r6.2 t' ht')) (fun _ => by rw [← eN]; exact rl_th (th3_th t2) (ssub_rf _) (r6.2 N N6).2.2) (fun x' S' r ss m mm => h x' S' r (ssub_tr hy6.1 ss) (acS_up ss hy6.2.1) ?_ (by rw [ha]; exact mm))
    · have q : ¬ t' = N := by rw [eN]; exact hc' e
      rw [Eo t' q]
      exact mTq_th hN t2 q (M6.2.2 t' ht')
    · rw [← eN]
      refine ⟨cv, z73, ?_, M.2.2 N, qq.1, (M.2.2 N).2.2.2.2.2.2.2, EN, by rw [ea]; exact hb1, gt_lt hstb, fun p hp => ?_, wt, of, by rw [oth 79 (by decide) (by decide)]; exact hqN.2.2.2.2.2.2.2.1, mLt_eq hqN.2.2.2.2.2.2.2.2.1 (oth 80 (by decide) (by decide)) (oth 81 (by decide) (by decide)) (oth 82 (by decide) (by decide))⟩
      · unfold q0
        rw [oth 77 (by decide) (by decide), oth 78 (by decide) (by decide), oth 75 (by decide) (by decide), hqN.2.2.2.2.1, hqN.2.2.2.2.2.2.1, hqN.2.2.1, wt, of, nm]
        exact ⟨rfl, rfl, rfl⟩
      · rw [stN_is hstb, kn0] at hp
        exact absurd hp (Nat.not_lt_zero _)
    · unfold acP
      rw [m.1 88 (by decide), m.1 89 (by decide), t2.1.1 88 (by decide), t2.1.1 89 (by decide)]
      exact ac6
  · -- call
    have o13 := (sE 13 (by omega)).mp e
    obtain ⟨w0, os⟩ := oN (by omega)
    have hq6 := M6.2.2 T T6
    refine ⟨ht, fun z ez => ⟨lk6.2.2.1, fun z2 ez2 => ?_⟩⟩
    skip
    have mz := md_a y6 79 T c (by decide)
    rw [← ez] at mz
    have mz2 := md_f z 93 (z.1 0 90)
    rw [← ez2] at mz2
    have mm : md [93] [79] y6 z2 := md_tr mz mz2 rfl rfl
    have f := fun q (h0 : q ≠ 0) hq => mm.2.1 q h0 hq
    have e79 : z2.1 79 T = c := by rw [mz2.2.1 79 (by decide) (by decide), ez, si_get, if_pos ⟨rfl, rfl⟩]
    have cob : c = (stN C (M.2.2 T).2.2.1).2.2.2.2.1 := by
      obtain ⟨p1, p2⟩ := lkM_pl (C := C) (w := wa) w0 (by rw [← eL]; exact L0)
      rw [← eL] at p2
      rw [q88, p2, lkI_n]
      rw [← eKd, esN]
      cases ei : st.2.2.2.2.2.2.2.1 with
      | none => rfl
      | some Q => have := (hX _ st hst).1 (by rw [ei]; exact fun z => nomatch z); omega
    refine go3 z2 _ c 0 (upT M T ((M.2.2 T).1, (M.2.2 T).2.1, (M.2.2 T).2.2.1, (M.2.2 T).2.2.2.1, (M.2.2 T).2.2.2.2.1, (stN C (M.2.2 T).2.2.1).2.2.2.2.1, (M.2.2 T).2.2.2.2.2.2)) (fun q => by have := (sE 9 (by omega)).mp q; omega) ⟨ssub_tr hy6.1 (ssub_ad _ _ _), acS_up (ssub_ad _ _ _) hy6.2.1, by unfold acP; rw [mm.1 88 (by decide), mm.1 89 (by decide)]; exact ac6, by rw [mm.1 52 (by decide)]; exact hy6.2.2.2⟩ (RI_md mm rfl rfl (ssub_ad _ _ _) r6) (MK_mdq9 mm rfl rfl K6) (MMc_eq mc6 (f 70 (by decide) (by decide)) (f 71 (by decide) (by decide)) (f 72 (by decide) (by decide))) (fun t' ht' => ?_) (by show (upf M.2.2 T _ T).1 = 1; rw [upf_eq]; exact sta1) (by show (upf M.2.2 T _ T).2.1 = 0; rw [upf_eq]; exact num0) (by show (upf M.2.2 T _ T).2.2.1 = K; rw [upf_eq]; exact eKd.symm) (by show (upf M.2.2 T _ T).2.2.2.1 = 0; rw [upf_eq]; exact w0) (by show (upf M.2.2 T _ T).2.2.2.2.1 = 0; rw [upf_eq]; exact (hW T T6).2.1 w0) (by show (upf M.2.2 T _ T).2.2.2.2.2.2.2 = _; rw [upf_eq]) L0 (by omega) (by rw [o13]; exact ef_13)
    show mTq z2 C t' (upf M.2.2 T _ t')
    by_cases q : t' = T
    · rw [q, upf_eq]
      exact mTq_w hq6 (fun c9 h9 => by rw [f c9 (by omega) (by simp; omega)]) (f 76 (by decide) (by decide)) (f 81 (by decide) (by decide)) (f 82 (by decide) (by decide)) (by rw [f 77 (by decide) (by decide)]; exact hq6.2.2.2.2.1) hq6.2.2.2.2.2.1 (by rw [f 78 (by decide) (by decide)]; exact hq6.2.2.2.2.2.2.1) (by rw [e79]; exact cob)
    · rw [upf_ne q]
      refine mTq_eq (M6.2.2 t' ht') (fun c9 h9 => ?_) (f 76 (by decide) (by decide)) (f 81 (by decide) (by decide)) (f 82 (by decide) (by decide))
      rcases h9 with h9 | h9 | h9 | h9 | h9 | h9 | h9
      all_goals first | (rw [h9, mz2.2.1 79 (by decide) (by decide), ez, si_ne 79 t' q]) | (rw [f c9 (by omega) (by simp; omega)])
  · -- back
    have o13 := (sE 14 (by omega)).mp e
    obtain ⟨w0, os⟩ := oN (by omega)
    have hq6 := M6.2.2 T T6
    refine ⟨ht, fun z ez => ⟨lk6.2.2.1, fun z2 ez2 => ?_⟩⟩
    skip
    have mz := md_a y6 79 T (-1) (by decide)
    rw [← ez] at mz
    have mz2 := md_f z 93 (z.1 0 90)
    rw [← ez2] at mz2
    have mm : md [93] [79] y6 z2 := md_tr mz mz2 rfl rfl
    have f := fun q (h0 : q ≠ 0) hq => mm.2.1 q h0 hq
    have e79 : z2.1 79 T = (-1) := by rw [mz2.2.1 79 (by decide) (by decide), ez, si_get, if_pos ⟨rfl, rfl⟩]
    refine go3 z2 _ c 0 (upT M T ((M.2.2 T).1, (M.2.2 T).2.1, (M.2.2 T).2.2.1, (M.2.2 T).2.2.2.1, (M.2.2 T).2.2.2.2.1, -1, (M.2.2 T).2.2.2.2.2.2)) (fun q => by have := (sE 9 (by omega)).mp q; omega) ⟨ssub_tr hy6.1 (ssub_ad _ _ _), acS_up (ssub_ad _ _ _) hy6.2.1, by unfold acP; rw [mm.1 88 (by decide), mm.1 89 (by decide)]; exact ac6, by rw [mm.1 52 (by decide)]; exact hy6.2.2.2⟩ (RI_md mm rfl rfl (ssub_ad _ _ _) r6) (MK_mdq9 mm rfl rfl K6) (MMc_eq mc6 (f 70 (by decide) (by decide)) (f 71 (by decide) (by decide)) (f 72 (by decide) (by decide))) (fun t' ht' => ?_) (by show (upf M.2.2 T _ T).1 = 1; rw [upf_eq]; exact sta1) (by show (upf M.2.2 T _ T).2.1 = 0; rw [upf_eq]; exact num0) (by show (upf M.2.2 T _ T).2.2.1 = K; rw [upf_eq]; exact eKd.symm) (by show (upf M.2.2 T _ T).2.2.2.1 = 0; rw [upf_eq]; exact w0) (by show (upf M.2.2 T _ T).2.2.2.2.1 = 0; rw [upf_eq]; exact (hW T T6).2.1 w0) (by show (upf M.2.2 T _ T).2.2.2.2.2.2.2 = _; rw [upf_eq]) L0 (by omega) (by rw [o13]; exact ef_14)
    show mTq z2 C t' (upf M.2.2 T _ t')
    by_cases q : t' = T
    · rw [q, upf_eq]
      exact mTq_w hq6 (fun c9 h9 => by rw [f c9 (by omega) (by simp; omega)]) (f 76 (by decide) (by decide)) (f 81 (by decide) (by decide)) (f 82 (by decide) (by decide)) (by rw [f 77 (by decide) (by decide)]; exact hq6.2.2.2.2.1) hq6.2.2.2.2.2.1 (by rw [f 78 (by decide) (by decide)]; exact hq6.2.2.2.2.2.2.1) e79
    · rw [upf_ne q]
      refine mTq_eq (M6.2.2 t' ht') (fun c9 h9 => ?_) (f 76 (by decide) (by decide)) (f 81 (by decide) (by decide)) (f 82 (by decide) (by decide))
      rcases h9 with h9 | h9 | h9 | h9 | h9 | h9 | h9
      all_goals first | (rw [h9, mz2.2.1 79 (by decide) (by decide), ez, si_ne 79 t' q]) | (rw [f c9 (by omega) (by simp; omega)])
  · -- join, fence, pause
    have n := fun (j : Nat) (hj : j < 16) (hm : Int32.ofNat j ∈ [(0 : Int32), (1 : Int32), (2 : Int32), (3 : Int32), (4 : Int32), (5 : Int32), (15 : Int32), (6 : Int32), (7 : Int32), (8 : Int32), (9 : Int32), (13 : Int32), (14 : Int32)]) => fun z : o = j => no _ hm ((sE j hj).mpr z)
    have n0 : ¬ o = 0 := n 0 (by omega) (by decide)
    have n1 : ¬ o = 1 := n 1 (by omega) (by decide)
    have n2 : ¬ o = 2 := n 2 (by omega) (by decide)
    have n3 : ¬ o = 3 := n 3 (by omega) (by decide)
    have n4 : ¬ o = 4 := n 4 (by omega) (by decide)
    have n5 : ¬ o = 5 := n 5 (by omega) (by decide)
    have n6 : ¬ o = 6 := n 6 (by omega) (by decide)
    have n7 : ¬ o = 7 := n 7 (by omega) (by decide)
    have n8 : ¬ o = 8 := n 8 (by omega) (by decide)
    have n9 : ¬ o = 9 := n 9 (by omega) (by decide)
    have n13 : ¬ o = 13 := n 13 (by omega) (by decide)
    have n14 : ¬ o = 14 := n 14 (by omega) (by decide)
    have n15 : ¬ o = 15 := n 15 (by omega) (by decide)
    exact easy o rfl n9 n15 n7 y6 S6 0 M (md_w (md_rf y6) (by decide) (by decide)) (ssub_rf _) mc6 rfl (ef_o (by omega))
end DDA

section DS3
variable {d : Nat} {S : gS} {x : gd} {F : Int32 → gd → gS → Prop} {Fv : gd → gS → Prop} {C : gCo}
theorem ds_setTail3q9 (cp : CP x) (i4 : ∀ j : Nat, j < 6 → iniT x j) (i3 : ∀ j : Nat, j < 6 → iniL x j) (i2 : ∀ j : Nat, j < 24 → x.1 70 j = (fsM C).1 j) (i5 : ∀ j : Nat, j < 48 → x.1 76 j = 0) (hK : MK x C) (hN : NC C) (h : ∀ y S1, RI y S1 → MM1 y C (fsM C) → Fv y S1) : MD 4 z_setFirst 157 [(0, vr 0), (1, vi 0)] [] S x (Dv Fv) := by
  have k0 : (0 : Int32).toInt = 0 := rfl
  have k1 : (1 : Int32).toInt = 1 := rfl
  have b25 := cp.1.2.2.2.2.2.1
  have nT : (x.1 0 25).toInt = C.2.1.length := hK.2.1.1
  have fin : ∀ (y : gd) (S1 : gS) (t : Int32), 0 ≤ t.toInt → RI y S1 → md hL hA x y → (∀ t' : Nat, t' < 6 → mTq y C t' (if (t' : Int) < t.toInt then (fsM C).2.2 t' else th0)) → (x.1 0 25).toInt ≤ t.toInt → Fv y S1 := by
    intro y S1 t t0 ry my hf hle
    refine h y S1 ry ⟨fun c hc => by rw [my.2.1 70 (by decide) (by decide)]; exact i2 c hc, fun l hl => ?_, fun t' ht' => ?_⟩
    · rw [my.2.1 71 (by decide) (by decide), my.2.1 72 (by decide) (by decide), (i3 l hl).1, (i3 l hl).2]
      exact ⟨rfl, Nat.zero_le _, rfl⟩
    · have q := hf t' ht'
      by_cases c : (t' : Int) < t.toInt
      · rw [if_pos c] at q; exact q
      · rw [if_neg c] at q
        rw [fs_out (by omega)]; exact q
  have ri0 : RI x S := by
    refine ⟨cp, fun t ht => ?_⟩
    obtain ⟨a1, a2, a3, a4, a5, a6, a7⟩ := i4 t ht
    refine ⟨⟨by rw [a2]; decide, by rw [a2]; decide, fun q => by rw [a1] at q; exact absurd q (by decide)⟩, Or.inl a4, by rw [a7]; decide, by rw [a7]; decide, fun k hk => ?_⟩
    rw [a7, k0] at hk; omega
  have loop : ∀ (n : Nat) (y : gd) (S1 : gS) (t : Int32), 0 ≤ t.toInt → (x.1 0 25).toInt - t.toInt ≤ n → y.1 0 25 = x.1 0 25 → RI y S1 → md hL hA x y → (∀ t' : Nat, t' < 6 → mTq y C t' (if (t' : Int) < t.toInt then (fsM C).2.2 t' else th0)) → MD 4 z_setFirst 157 [(0, vr 0), (1, vi t)] [] S1 y (Dv Fv) := by
    intro n
    induction n with
    | zero =>
      intro y S1 t t0 hn e25 ry my hf
      exact sd_setFirst_157 _ ⟨fun _ => Dv_i (fin y S1 t t0 ry my hf (by omega)), fun c => absurd (t_le.mpr (by rw [e25]; omega)) c⟩
    | succ n ih =>
      intro y S1 t t0 hn e25 ry my hf
      refine sd_setFirst_157 _ ⟨fun c => Dv_i (fin y S1 t t0 ry my hf (by rw [t_le, e25] at c; exact c)), fun c => ?_⟩
      rw [t_le, e25] at c
      have tv : vp_in t 6 := by rw [vp_in_iff]; omega
      have ct := cl_i t0
      have ti : (t + 1).toInt = t.toInt + 1 := by rw [t_add (by omega) (by omega), k1]
      obtain ⟨T, eT⟩ : ∃ T, T = t.toNatClampNeg := ⟨_, rfl⟩
      rw [← eT] at ct
      have T6 : T < 6 := by omega
      have tl : T < C.2.1.length := by omega
      obtain ⟨q9, hq9⟩ : ∃ q9, C.2.1[T]? = some q9 := ⟨_, List.getElem?_eq_getElem tl⟩
      have hKy : MK y C := MK_mdq9 my rfl rfl hK
      obtain ⟨k64, k38⟩ := hKy.2.1.2 T q9 hq9
      obtain ⟨⟨st, s1, s2⟩, q1⟩ := hN.2.1 q9 (List.mem_of_getElem? hq9)
      have mT := hf T T6
      rw [if_neg (by omega)] at mT
      have ext : ∀ (u : gd), mTq u C T ((fsM C).2.2 T) → (∀ t' : Nat, t' < 6 → ¬ t' = T → ∀ hh, mTq y C t' hh → mTq u C t' hh) → ∀ t' : Nat, t' < 6 → mTq u C t' (if (t' : Int) < (t + 1).toInt then (fsM C).2.2 t' else th0) := fun u hu ho t' ht' => by
        by_cases c9 : t' = T
        · rw [c9, if_pos (by omega)]; exact hu
        · have q := ho t' ht' c9 _ (hf t' ht')
          by_cases c8 : (t' : Int) < t.toInt
          · rw [if_pos c8] at q
            rw [if_pos (by omega)]; exact q
          · rw [if_neg c8] at q
            rw [if_neg (by omega)]; exact q
      refine ⟨tv, fun n0 => ih y S1 (t + 1) (by omega) (by omega) e25 ry my (ext y ?_ (fun _ _ _ _ q => q)), fun c0 => ⟨tv, fun y5 e5 => ⟨tv, tv, fun y8 e8 => ?_⟩⟩⟩
      · rw [← eT, k38] at n0
        have : ¬ q9.2 = 0 := fun z => n0 (by rw [z]; rfl)
        rw [fs_idle hq9 (by omega)]; exact mT
      rw [← eT] at c0 e5 e8
      have ni : ¬ q9.2 = 1 := fun z => by
        rw [k38, z] at c0
        exact absurd c0 (by decide)
      have t5 : th3 T y y5 := by rw [e5]; exact th3_si (by decide) _ _
      have t8 : th3 T y5 y8 := by rw [e8]; exact th3_si (by decide) _ _
      have t58 := th3_tr t5 t8
      have bg := ry.1.2.1.2.2.2.2.2 T (by have := t_cl (y.1 0 25); rw [e25] at this; rw [e25]; omega)
      have j2 := ry.1.2.1.2.1
      have a74 : y8.1 74 T = y.1 64 T := by rw [e8, si_get, if_pos ⟨rfl, rfl⟩, e5, si_cell (by decide)]
      have oth : ∀ c9, ¬ c9 = 73 → ¬ c9 = 74 → y8.1 c9 = y.1 c9 := fun c9 n1 n2 => by rw [e8, si_cell n2, e5, si_cell n1]
      have a52 : y8.1 0 52 = y.1 0 52 := t58.1.1 52 (by decide)
      have g73 : y8.1 73 T = 1 := by rw [e8, si_cell (by decide), e5, si_get, if_pos ⟨rfl, rfl⟩]
      have n64 : (y.1 64 T).toNatClampNeg = q9.1 := by rw [t_cl, k64]; rfl
      have hq : q0 y8 T := by
        unfold q0
        rw [oth 77 (by decide) (by decide), oth 78 (by decide) (by decide), oth 75 (by decide) (by decide)]
        exact ⟨mT.2.2.2.2.1, mT.2.2.2.2.2.2.1, mT.2.2.1⟩
      refine ds_own3 (d := 0) (lv0 := fun _ => 0) t tv (CP_th (th3_th t58) ry.1) (by rw [← eT, a74]; exact ⟨bg.1, by omega⟩) (fun _ => by rw [← eT, a74, a52]; exact bg.2) (by rw [← eT]; exact hq) (MK_th3q9 hKy t58) hN (by rw [← eT]; exact g73) (by rw [← eT, a74, n64]; exact s1) (fun p hp => by rw [s2] at hp; exact absurd hp (Nat.not_lt_zero _)) (fun u S2 tu su ra' w' u78 ow => ?_)
      rw [← eT] at tu ra' w' u78 ow
      rw [a74, n64] at ow
      have tt := th3_tr t58 tu
      have f := fun q (h0 : q ≠ 0) hq => tt.1.2.1 q h0 hq
      refine ih u S2 (t + 1) (by omega) (by omega) (by rw [tt.1.1 25 (by decide)]; exact e25) ⟨CP_th (th3_th tt) ry.1, fun t' ht' => ?_⟩ (md_tr my tt.1 rfl rfl) (ext u ?_ (fun t' ht' ne hh q => mTq_th hN tt ne q))
      · by_cases q : t' = T
        · rw [q]; exact ⟨ra', Or.inl w', rl_th (th3_th tt) su (ry.2 T T6).2.2⟩
        · exact rT_th (th3_th tt) su q (ry.2 t' ht')
      · rw [fs_go hq9 ni]
        exact mTq_own ow w' u78 rfl rfl (by rw [f 79 (by decide) (by decide)]; exact mT.2.2.2.2.2.2.2.1) (mLt_eq mT.2.2.2.2.2.2.2.2.1 (f 80 (by decide) (by decide)) (f 81 (by decide) (by decide)) (f 82 (by decide) (by decide)))
  refine loop 6 x S 0 (by decide) (by rw [k0]; omega) rfl ri0 (md_w (md_rf x) (by decide) (by decide)) (fun t' ht' => ?_)
  rw [if_neg (by rw [k0]; omega)]
  obtain ⟨a1, a2, a3, a4, a5, a6, a7⟩ := i4 t' ht'
  refine ⟨a1, Nat.zero_le _, a3, by rw [a2]; rfl, a4, Nat.zero_le _, a5, a6, ⟨by rw [a7]; rfl, fun j q hj => nomatch hj⟩, fun c => ?_, fun k hk _ => i5 _ (by omega)⟩
  have c : 0 = 1 ∨ 0 = 3 := c
  omega
end DS3

section DF3
variable {d : Nat} {S : gS} {x : gd} {F : Int32 → gd → gS → Prop} {Fv : gd → gS → Prop} {C : gCo} {M : gMa}
set_option maxHeartbeats 1000000 in
theorem ds_find3q9 (ri : RI x S) (hK : MK x C) (hN : NC C) (hX : NXc C) (hM : MM1 x C M) {wa : Nat} (wy : x.1 0 68 = Int32.ofNat wa) (w01 : wa = 0 ∨ wa = 1) (hlt : wa = 0 → ∀ t', t' < 6 → (M.2.2 t').2.2.2.2.2.2.1 = []) (h : ∀ y S1, fC x S 84 y S1 → chE y (chM C wa M) → Fv y S1) : MD (d + 2) z_findChoices 0 [(0, vr 0)] [] S x (Dv Fv) := by
  have k0 : (0 : Int32).toInt = 0 := rfl
  have k1 : (1 : Int32).toInt = 1 := rfl
  have hT := ri.1.1.2.2.2.2.1
  have nT : (x.1 0 25).toInt = C.2.1.length := hK.2.1.1
  have hT6 := ri.1.1.2.2.2.2.2.1
  have p7 : ∀ (n : Nat) (y : gd) (S1 : gS) (t : Int32), 0 ≤ t.toInt → t.toInt ≤ (x.1 0 25).toInt → (x.1 0 25).toInt - t.toInt ≤ n → fC x S (14 * t.toInt) y S1 → chE y (prM C wa M t.toInt.toNat) → MD (d + 2) z_findChoices 7 [(0, vr 0), (1, vi t)] [] S1 y (Dv Fv) := by
    intro n
    induction n with
    | zero =>
      intro y S1 t t0 t1 hn q hl
      have f25 : y.1 0 25 = x.1 0 25 := q.1.1 25 (by decide)
      exact sd_findChoices_7 _ ⟨fun _ => Dv_i (h y S1 (fC_mono (by omega) q) (by rw [show t.toInt.toNat = C.2.1.length by omega] at hl; exact hl)), fun c => absurd (t_le.mpr (by rw [f25]; omega)) c⟩
    | succ n ih =>
      intro y S1 t t0 t1 hn q hl
      have f25 : y.1 0 25 = x.1 0 25 := q.1.1 25 (by decide)
      refine sd_findChoices_7 _ ⟨fun c => Dv_i (h y S1 (fC_mono (by omega) q) (by rw [t_le, f25] at c; rw [show t.toInt.toNat = C.2.1.length by omega] at hl; exact hl)), fun c => ?_⟩
      rw [t_le, f25] at c
      have ht : vp_in t 6 := by rw [vp_in_iff]; omega
      have i1 : (t + 1).toInt = t.toInt + 1 := by rw [t_add (by omega) (by omega), k1]
      obtain ⟨L, eL⟩ : ∃ L, L = x.1 80 t.toNatClampNeg := ⟨_, rfl⟩
      have rlx := (ri.2 _ (vt ht)).2.2
      have hL8 := rlx.2.1
      have hL0 := rlx.1
      rw [← eL] at hL8 hL0
      obtain ⟨T, eT⟩ : ∃ T, T = t.toNatClampNeg := ⟨_, rfl⟩
      have tTn : t.toInt.toNat = T := by rw [eT, t_cl]
      have tTI : t = Int32.ofNat T := i32_of (by rw [eT, t_cl]; omega)
      have T6 : T < 6 := by omega
      have t1n : (t + 1).toInt.toNat = T + 1 := by omega
      rw [tTn] at hl
      obtain ⟨l, el⟩ : ∃ l, l = (M.2.2 T).2.2.2.2.2.2.1 := ⟨_, rfl⟩
      have mlt := (hM.2.2 T T6).2.2.2.2.2.2.2.2.1
      rw [← el] at mlt
      have lL : L.toInt = (l.length : Nat) := by rw [eL, ← eT]; exact mlt.1
      have nxt : ∀ (y : gd) (S1 : gS), fC x S (14 * t.toInt + 14) y S1 → chE y ((prM C wa M T ++ acT C wa M T) ++ ((List.range l.length).filter (ltP l)).map (fun i => (T, some i, none))) → MD (d + 2) z_findChoices 7 [(0, vr 0), (1, vi (t + 1))] [] S1 y (Dv Fv) := fun y S1 q hc => ih y S1 (t + 1) (by omega) (by omega) (by omega) (fC_mono (by omega) q) (by rw [t1n, prM_s, ← List.append_assoc, ← el]; exact hc)
      -- late writes
      have p144 : ∀ (m : Nat) (y : gd) (S1 : gS) (i : Int32), 0 ≤ i.toInt → i.toInt ≤ L.toInt → L.toInt - i.toInt ≤ m → fC x S (14 * t.toInt + 6 + i.toInt) y S1 → chE y ((prM C wa M T ++ acT C wa M T) ++ ((List.range i.toInt.toNat).filter (ltP l)).map (fun i => (T, some i, none))) → MD (d + 2) z_findChoices 144 [(0, vr 0), (1, vi t), (2, vi i)] [] S1 y (Dv Fv) := by
        intro m
        induction m with
        | zero =>
          intro y S1 i i0 i1' hm q hc
          have f80 : y.1 80 = x.1 80 := q.1.2.1 80 (by decide) (by decide)
          refine sd_findChoices_144 _ _ ⟨ht, ?_⟩
          rw [f80, ← eL]
          exact ⟨fun _ => nxt y S1 (fC_mono (by omega) q) (by rw [show i.toInt.toNat = l.length by omega] at hc; exact hc), fun c => absurd (t_le.mpr (by omega)) c⟩
        | succ m ihm =>
          intro y S1 i i0 i1' hm q hc
          have f80 : y.1 80 = x.1 80 := q.1.2.1 80 (by decide) (by decide)
          refine sd_findChoices_144 _ _ ⟨ht, ?_⟩
          rw [f80, ← eL]
          refine ⟨fun c2 => nxt y S1 (fC_mono (by omega) q) (by rw [t_le] at c2; rw [show i.toInt.toNat = l.length by omega] at hc; exact hc), fun c2 => ?_⟩
          rw [t_le] at c2
          have ii : (i + 1).toInt = i.toInt + 1 := by rw [t_add (by omega) (by omega), k1]
          have riy : RI y S1 := RI_md q.1 rfl rfl q.2.1 ri
          have ry := (riy.2 _ (vt ht)).2.2
          have e80 : y.1 80 t.toNatClampNeg = L := by rw [f80, eL]
          have f81 : y.1 81 = x.1 81 := q.1.2.1 81 (by decide) (by decide)
          have hiL : i.toInt.toNat < l.length := by omega
          obtain ⟨qi, hqi⟩ : ∃ qi, l[i.toInt.toNat]? = some qi := ⟨_, List.getElem?_eq_getElem hiL⟩
          have rs : List.range (i + 1).toInt.toNat = List.range i.toInt.toNat ++ [i.toInt.toNat] := by rw [show (i + 1).toInt.toNat = i.toInt.toNat + 1 by omega, List.range_succ]
          have rno : ltP l i.toInt.toNat = false → ((List.range (i + 1).toInt.toNat).filter (ltP l)).map (fun i => ((T, some i, none) : gCh)) = ((List.range i.toInt.toNat).filter (ltP l)).map (fun i => (T, some i, none)) := fun z => by
            rw [rs]; exact fl_no z
          have ryes : ltP l i.toInt.toNat = true → ((List.range (i + 1).toInt.toNat).filter (ltP l)).map (fun i => ((T, some i, none) : gCh)) = ((List.range i.toInt.toNat).filter (ltP l)).map (fun i => (T, some i, none)) ++ [(T, some i.toInt.toNat, none)] := fun z => by
            rw [rs]; exact fl_yes z
          have cel : ∀ jj : Int32, 0 ≤ jj.toInt → jj.toInt < L.toInt → ∀ q', l[jj.toInt.toNat]? = some q' → y.1 81 (10 * t + jj).toNatClampNeg = Int32.ofNat q'.1 ∧ q'.1 < 24 := fun jj j0 j1 q' hq' => by
            obtain ⟨b1, b2, b3⟩ := mlt.2 _ q' hq'
            rw [f81, (t10 ht j0 (by omega)).2, t_cl jj, ← eT]
            exact ⟨b1, b3⟩
          have lj : ∀ (j : Nat) (may jj : Int32), 0 ≤ jj.toInt → i.toInt - jj.toInt ≤ j → (¬ may = 0 ↔ ∀ j' q', j' < jj.toInt.toNat → l[j']? = some q' → ¬ q'.1 = qi.1) → jj.toInt ≤ i.toInt → MD (d + 2) z_findChoices 159 [(0, vr 0), (1, vi t), (2, vi i), (3, vi may), (4, vi jj)] [] S1 y (Dv Fv) := by
            have last : ∀ may : Int32, (¬ may = 0 ↔ ltP l i.toInt.toNat = true) → ((may = (0 : Int32) → MD (d + 2) z_findChoices 144 [(0, vr 0), (1, vi t), (2, vi (i + 1))] [] S1 y (Dv Fv)) ∧ (¬ (may = (0 : Int32)) → MD (d + 1) z_choose 0 [(0, vr 0), (1, vi t), (2, vi i), (3, vi (-1))] [] S1 y (Dv (fun x3 S3 => MD (d + 2) z_findChoices 144 [(0, vr 0), (1, vi t), (2, vi (i + 1))] [] S3 x3 (Dv Fv))))) := by
              intro may hmay
              refine ⟨fun c0 => ihm y S1 (i + 1) (by omega) (by omega) (by omega) (fC_mono (by omega) q) (by rw [rno (Bool.eq_false_iff.mpr (fun z => hmay.mpr z c0))]; exact hc), fun c0 => ds_choose3 (q0' := (T, some i.toInt.toNat, none)) t i (-1) (by omega) q ⟨by omega, Or.inr ⟨i0, by rw [← eL]; omega⟩⟩ hc ⟨tTI, i32_of (by omega), rfl⟩ (fun y' S' q' hc' => ihm y' S' (i + 1) (by omega) (by omega) (by omega) (fC_mono (by omega) q') (by rw [ryes (hmay.mp c0), ← List.append_assoc]; exact hc'))⟩
            intro j
            induction j with
            | zero =>
              intro may jj j0 hj hmj hji
              exact sd_findChoices_159 _ _ _ _ ⟨fun _ => last may (by rw [ltP_iff hqi, ← show jj.toInt.toNat = i.toInt.toNat by omega]; exact hmj), fun c => absurd (t_le.mpr (by omega)) c⟩
            | succ j ihj =>
              intro may jj j0 hj hmj hji
              refine sd_findChoices_159 _ _ _ _ ⟨fun c3 => last may (by rw [t_le] at c3; rw [ltP_iff hqi, ← show jj.toInt.toNat = i.toInt.toNat by omega]; exact hmj), fun c3 => ?_⟩
              rw [t_le] at c3
              have jn : (jj + 1).toInt = jj.toInt + 1 := by rw [t_add (by omega) (by omega), k1]
              obtain ⟨a1, a2, _, _⟩ := rl_at ht ry (i := jj) j0 (by rw [e80]; omega)
              obtain ⟨b1, b2, _, _⟩ := rl_at ht ry (i := i) i0 (by rw [e80]; omega)
              have hjl : jj.toInt.toNat < l.length := by omega
              obtain ⟨qj, hqj⟩ : ∃ qj, l[jj.toInt.toNat]? = some qj := ⟨_, List.getElem?_eq_getElem hjl⟩
              obtain ⟨ej, lj24⟩ := cel jj j0 (by omega) qj hqj
              obtain ⟨ei, li24⟩ := cel i i0 (by omega) qi hqi
              have jn' : (jj + 1).toInt.toNat = jj.toInt.toNat + 1 := by omega
              have eqc : Int32.ofNat qj.1 = Int32.ofNat qi.1 ↔ qj.1 = qi.1 := by
                have e9 : (Int32.ofNat qj.1).toInt = (qj.1 : Nat) := Int32.toInt_ofNat_of_lt (by omega)
                have e8 : (Int32.ofNat qi.1).toInt = (qi.1 : Nat) := Int32.toInt_ofNat_of_lt (by omega)
                rw [t_eq, e9, e8]; omega
              rw [ej, ei]
              refine ⟨fun c0 => ihj _ _ (by omega) (by omega) ⟨fun z => absurd rfl z, fun z => absurd c0 (hmj.mpr (fun j' q' hj' => z j' q' (by omega)))⟩ (by omega), fun c0 => ⟨a1, a2, b1, b2, fun e0 => ihj _ _ (by omega) (by omega) ⟨fun z => absurd rfl z, fun z => absurd (eqc.mp e0) (z _ qj (by omega) hqj)⟩ (by omega), fun n0 => ihj _ _ (by omega) (by omega) ⟨fun _ j' q' hj' hq' => ?_, fun _ => by decide⟩ (by omega)⟩⟩
              by_cases c9 : j' = jj.toInt.toNat
              · rw [c9, hqj] at hq'
                rw [← Option.some.inj hq']
                exact fun z => n0 (eqc.mpr z)
              · exact hmj.mp c0 j' q' (by omega) hq'
          exact lj i.toInt.toNat 1 0 (by decide) (by rw [k0]; omega) ⟨fun _ j' q' hj' => absurd hj' (by rw [k0]; exact Nat.not_lt_zero _), fun _ => by decide⟩ (by rw [k0]; exact i0)
      have q144 : ∀ (y : gd) (S1 : gS), fC x S (14 * t.toInt + 6) y S1 → chE y (prM C wa M T ++ acT C wa M T) → MD (d + 2) z_findChoices 144 [(0, vr 0), (1, vi t), (2, vi 0)] [] S1 y (Dv Fv) := fun y S1 q hc => p144 L.toInt.toNat y S1 0 (by decide) (by rw [k0]; exact hL0) (by rw [k0]; omega) (fC_mono (by rw [k0]; omega) q) (by rw [k0]; simp; exact hc)
      have riy : RI y S1 := RI_md q.1 rfl rfl q.2.1 ri
      have e73 : y.1 73 = x.1 73 := q.1.2.1 73 (by decide) (by decide)
      have e77 : y.1 77 = x.1 77 := q.1.2.1 77 (by decide) (by decide)
      have My : MM1 y C M := MM1_md q.1 rfl hM
      have Ky : MK y C := MK_mdq9 q.1 rfl rfl hK
      refine ds_hasAct3 (M := M) t ht riy Ky hN hX My (wa := wa) (by rw [q.1.1 68 (by decide)]; exact wy) w01 hlt (fun nc => ⟨fun _ => q144 y S1 (fC_mono (by omega) q) (by rw [← eT] at nc; unfold acT; rw [if_neg nc, List.append_nil]; exact hl), fun z => absurd rfl z⟩) (fun g1 g2 can => ⟨fun z => absurd z (by decide), fun _ => ⟨ht, q.2.2.1, ?_⟩⟩)
      rw [← eT] at can g1 g2
      have ho : chO x t (-1) := ⟨by omega, Or.inl ⟨rfl, by rw [← eT, ← e73]; exact g1, by rw [← eT, ← e77]; exact g2⟩⟩
      have p127 : ∀ (z : gd) (S2 : gS), fC x S (14 * t.toInt + 6) z S2 → ∀ V : List Nat, chE z (prM C wa M T ++ V.map (fun o => (T, none, some o))) → (V = [] → acT C wa M T = [(T, none, none)]) → (¬ V = [] → acT C wa M T = V.map (fun o => (T, none, some o))) → MD (d + 2) z_findChoices 127 [(0, vr 0), (1, vi t), (3, vi (y.1 0 84))] [] S2 z (Dv Fv) := by
        intro z S2 qz V hV V0 V1
        have lenV : (z.1 0 84).toInt = (y.1 0 84).toInt + V.length := by rw [hV.1, hl.1, List.length_append, List.length_map]; omega
        refine sd_findChoices_127 _ _ ⟨qz.2.2.1, fun ne => q144 z S2 qz (by rw [V1 (fun z9 => ne (t_eq.mpr (by rw [lenV, z9]; simp)))]; exact hV), fun e => ?_⟩
        have Vn : V = [] := List.eq_nil_of_length_eq_zero (by rw [e] at lenV; omega)
        rw [Vn] at hV
        have hV : chE z (prM C wa M T) := by simpa using hV
        have qz2 : fC x S (14 * t.toInt) z S2 := ⟨qz.1, qz.2.1, qz.2.2.1, qz.2.2.2.1, by rw [e]; exact q.2.2.2.2.1, qz.2.2.2.2.2⟩
        exact ds_choose3 (q0' := (T, none, none)) t (-1) (-1) (by omega) qz2 ho hV ⟨tTI, rfl, rfl⟩ (fun y' S' q' hc' => q144 y' S' (fC_mono (by omega) q') (by rw [V0 Vn]; exact hc'))
      have q127 : ¬ (soM C (M.2.2 T) = 8 ∧ (stN C (M.2.2 T).2.2.1).2.2.2.2.2.2.1 = false ∧ (M.2.1 (obM C (M.2.2 T).2.2.1)).1 = T + 1 ∧ ¬ waM C M (obM C (M.2.2 T).2.2.1) = []) → MD (d + 2) z_findChoices 127 [(0, vr 0), (1, vi t), (3, vi (y.1 0 84))] [] S1 y (Dv Fv) := fun n => p127 y S1 (fC_mono (by omega) q) [] (by simpa using hl) (fun _ => by unfold acT; rw [if_pos can, if_neg n]) (fun z => absurd rfl z)
      obtain ⟨kv, kn, _, _⟩ := RI_step riy T6 g1
      obtain ⟨s1, s2, s3⟩ := srt_of riy T6 g1
      obtain ⟨K, eK⟩ : ∃ K, K = (M.2.2 T).2.2.1 := ⟨_, rfl⟩
      obtain ⟨m73, l73, m75, m74, m77, l77, -⟩ := My.2.2 T T6
      rw [← eK] at m74
      have kK : (y.1 74 T).toNatClampNeg = K := by rw [t_cl, m74]; rfl
      have l52 : (y.1 0 52).toInt = C.1.length := Ky.1.1
      obtain ⟨st, hst⟩ : ∃ st, C.1[K]? = some st := ⟨_, List.getElem?_eq_getElem (by omega)⟩
      have esN := stN_is hst
      obtain ⟨k54, k55, k56, k57, -⟩ := Ky.1.2 _ st hst
      have ns := hN.1 _ st hst
      have o16 : st.1 < 16 := by
        have a := ((riy.2 T T6).1.2.2 g1).2
        rw [kK, k54] at a
        exact (mWh_i st.1 ns.1.1).1.mp a
      obtain ⟨w2, w1', w0'⟩ := wai_2 _ (show (M.2.2 T).2.2.2.1 < 3 by omega)
      rw [← m77] at w2 w1' w0'
      have so8 : srt y T = 8 ↔ soM C (M.2.2 T) = 8 := by
        unfold srt soM
        rw [← eK, esN]
        by_cases c9 : y.1 77 T = 2
        · rw [if_pos c9, if_neg (by have := w2.mp c9; omega)]; decide
        · have z0 : (M.2.2 T).2.2.2.1 = 0 := by
            have a1 : ¬ (M.2.2 T).2.2.2.1 = 2 := fun z => c9 (w2.mpr z)
            have a2 : ¬ (M.2.2 T).2.2.2.1 = 1 := fun z => g2 (w1'.mpr z)
            omega
          rw [if_neg c9, if_pos z0, kK, k55 o16, t_eq, op_16 _ o16, show (8 : Int32).toInt = 8 from rfl]; omega
      rw [← eT]
      refine ds_sortOf t ht (by rw [← eT]; exact kv) ?_
      rw [← eT]
      have st8 : soM C (M.2.2 T) = 8 → st.1 = 8 := fun z => by
        unfold soM at z
        rw [← eK, esN] at z
        by_cases c9 : (M.2.2 T).2.2.2.1 = 0
        · rw [if_pos c9] at z; exact z
        · rw [if_neg c9] at z; exact absurd z (by decide)
      rw [kK, k56, k57]
      obtain ⟨-, -, -, nx4, -⟩ := hX _ st hst
      have flg : st.1 = 8 → (st.2.2.2.2.2.1 = 0 ↔ st.2.2.2.2.2.2.1 = false) := fun z => by
        rw [nx4 z]
        cases st.2.2.2.2.2.2.1 with
        | true => exact ⟨fun z => absurd z (by decide), fun z => nomatch z⟩
        | false => exact ⟨fun _ => rfl, fun _ => rfl⟩
      have obK : obM C (M.2.2 T).2.2.1 = st.2.2.2.2.1.toNatClampNeg := by unfold obM; rw [← eK, esN]
      rw [obK, ← eK, esN] at q127
      refine ⟨fun n8 => q127 (fun z => n8 (so8.mpr z.1)), fun e8 => ⟨kv, fun nf => q127 (fun z => nf ((flg (st8 (so8.mp e8))).mpr z.2.1)), fun f0 => ⟨kv, ?_, ?_⟩⟩⟩
      · have o := s2 (Or.inl (by rw [e8]; decide))
        rw [kK, k56] at o
        rw [vp_in_iff]; omega
      have ob6 := s2 (Or.inl (by rw [e8]; decide))
      rw [kK, k56] at ob6
      have B6 : st.2.2.2.2.1.toNatClampNeg < 6 := by rw [t_cl]; omega
      obtain ⟨e71, l71, -⟩ := My.2.1 _ B6
      have ht1 := hol_t _ (show (M.2.1 st.2.2.2.2.1.toNatClampNeg).1 < 7 by omega) T T6
      rw [← e71, ← tTI] at ht1
      refine ⟨fun nh => q127 (fun z => nh (ht1.mpr z.2.2.1)), fun yh => ?_⟩
      · -- those that it may wake
        have enW : ∀ (z : gd) (S2 : gS), fC x S (14 * t.toInt + 6) z S2 → chE z (prM C wa M T ++ ((List.range C.2.1.length).filter (waP C M st.2.2.2.2.1.toNatClampNeg)).map (fun o => (T, none, some o))) → MD (d + 2) z_findChoices 127 [(0, vr 0), (1, vi t), (3, vi (y.1 0 84))] [] S2 z (Dv Fv) := fun z S2 qz hc => by
          have wm : waM C M st.2.2.2.2.1.toNatClampNeg = (List.range C.2.1.length).filter (waP C M st.2.2.2.2.1.toNatClampNeg) := rfl
          rw [← wm] at hc
          refine p127 z S2 qz _ hc (fun V0 => ?_) (fun V1 => ?_)
          · unfold acT
            rw [if_pos can, obK, if_neg (fun z9 => z9.2.2.2 V0)]
          · unfold acT
            rw [if_pos can, obK, ← eK, esN, if_pos ⟨so8.mp e8, (flg (st8 (so8.mp e8))).mp f0, ht1.mp yh, V1⟩]
        have p72 : ∀ (m : Nat) (z : gd) (S2 : gS) (o : Int32), 0 ≤ o.toInt → o.toInt ≤ (x.1 0 25).toInt → (x.1 0 25).toInt - o.toInt ≤ m → fC x S (14 * t.toInt + o.toInt) z S2 → chE z (prM C wa M T ++ ((List.range o.toInt.toNat).filter (waP C M st.2.2.2.2.1.toNatClampNeg)).map (fun o => (T, none, some o))) → MD (d + 2) z_findChoices 72 [(0, vr 0), (1, vi t), (2, vi (y.1 74 T)), (3, vi (y.1 0 84)), (4, vi o)] [] S2 z (Dv Fv) := by
          intro m
          induction m with
          | zero =>
            intro z S2 o o0 o1 hm qz hc
            have g25 : z.1 0 25 = x.1 0 25 := qz.1.1 25 (by decide)
            exact sd_findChoices_72 _ _ _ _ ⟨fun _ => enW z S2 (fC_mono (by omega) qz) (by rw [show o.toInt.toNat = C.2.1.length by omega] at hc; exact hc), fun c => absurd (t_le.mpr (by rw [g25]; omega)) c⟩
          | succ m ihm =>
            intro z S2 o o0 o1 hm qz hc
            have g25 : z.1 0 25 = x.1 0 25 := qz.1.1 25 (by decide)
            refine sd_findChoices_72 _ _ _ _ ⟨fun c2 => enW z S2 (fC_mono (by omega) qz) (by rw [t_le, g25] at c2; rw [show o.toInt.toNat = C.2.1.length by omega] at hc; exact hc), fun c2 => ?_⟩
            rw [t_le, g25] at c2
            have ov : vp_in o 6 := by rw [vp_in_iff]; omega
            have oi : (o + 1).toInt = o.toInt + 1 := by rw [t_add (by omega) (by omega), k1]
            have riz : RI z S2 := RI_md qz.1 rfl rfl qz.2.1 ri
            have raz := (riz.2 _ (vt ov)).1
            obtain ⟨O, eO⟩ : ∃ O, O = o.toNatClampNeg := ⟨_, rfl⟩
            have oO : o.toInt.toNat = O := by rw [eO, t_cl]
            have oI : o = Int32.ofNat O := i32_of (by omega)
            have O6 : O < 6 := by omega
            have rs : List.range (o + 1).toInt.toNat = List.range o.toInt.toNat ++ [O] := by rw [show (o + 1).toInt.toNat = o.toInt.toNat + 1 by omega, List.range_succ, oO]
            have rno : waP C M st.2.2.2.2.1.toNatClampNeg O = false → ((List.range (o + 1).toInt.toNat).filter (waP C M st.2.2.2.2.1.toNatClampNeg)).map (fun o => ((T, none, some o) : gCh)) = ((List.range o.toInt.toNat).filter (waP C M st.2.2.2.2.1.toNatClampNeg)).map (fun o => (T, none, some o)) := fun z => by
              rw [rs, List.filter_append]
              simp [z]
            have ryes : waP C M st.2.2.2.2.1.toNatClampNeg O = true → ((List.range (o + 1).toInt.toNat).filter (waP C M st.2.2.2.2.1.toNatClampNeg)).map (fun o => ((T, none, some o) : gCh)) = ((List.range o.toInt.toNat).filter (waP C M st.2.2.2.2.1.toNatClampNeg)).map (fun o => (T, none, some o)) ++ [(T, none, some O)] := fun z => by
              rw [rs, List.filter_append]
              simp [z]
            have nx : ∀ (z' : gd) (S' : gS), fC x S (14 * t.toInt + o.toInt + 1) z' S' → chE z' (prM C wa M T ++ ((List.range (o + 1).toInt.toNat).filter (waP C M st.2.2.2.2.1.toNatClampNeg)).map (fun o => (T, none, some o))) → MD (d + 2) z_findChoices 72 [(0, vr 0), (1, vi t), (2, vi (y.1 74 T)), (3, vi (y.1 0 84)), (4, vi (o + 1))] [] S' z' (Dv Fv) := fun z' S' q' hc' => ihm z' S' (o + 1) (by omega) (by omega) (by omega) (fC_mono (by omega) q') hc'
            have Mz : MM1 z C M := MM1_md qz.1 rfl hM
            have Kz : MK z C := MK_mdq9 qz.1 rfl rfl hK
            obtain ⟨n73, nl73, -, n74, n77, nl77, -⟩ := Mz.2.2 O O6
            obtain ⟨-, b1, -⟩ := wai_2 _ (show (M.2.2 O).2.2.2.1 < 3 by omega)
            rw [← n77] at b1
            rw [← eO]
            have nof : ¬ ((M.2.2 O).2.2.2.1 = 1 ∧ obM C (M.2.2 O).2.2.1 = st.2.2.2.2.1.toNatClampNeg) → waP C M st.2.2.2.2.1.toNatClampNeg O = false := fun n9 => by
              cases e9 : waP C M st.2.2.2.2.1.toNatClampNeg O with
              | false => rfl
              | true =>
                unfold waP at e9
                simp at e9
                exact absurd e9 n9
            have kz56 : z.1 56 (y.1 74 T).toNatClampNeg = st.2.2.2.2.1 := by rw [kK]; exact (Kz.1.2 _ st hst).2.2.1
            rw [kz56]
            refine ⟨ov, fun n1 => nx z S2 (fC_mono (by omega) qz) (by rw [rno (nof (fun z9 => n1 (b1.mpr z9.1)))]; exact hc), fun w1 => ⟨ov, by rw [← eO] at raz; rw [vp_in_iff]; exact ⟨raz.1, raz.2.1⟩, kv, ?_⟩⟩
            have g1z : z.1 73 O = 1 := by
              rcases (riz.2 O O6).2.1 with z9 | ⟨-, z9, -⟩
              · rw [w1] at z9; exact absurd z9 (by decide)
              · exact z9
            have g5z : z.1 55 (z.1 74 O).toNatClampNeg = 7 := by
              rcases (riz.2 O O6).2.1 with z9 | ⟨-, -, z9⟩
              · rw [w1] at z9; exact absurd z9 (by decide)
              · exact z9
            have avz := (RI_step riz O6 g1z).2.2.2
            rw [g5z] at avz
            have ob : z.1 56 (z.1 74 O).toNatClampNeg = st.2.2.2.2.1 ↔ obM C (M.2.2 O).2.2.1 = st.2.2.2.2.1.toNatClampNeg := by
              have lo : 0 ≤ (z.1 56 (z.1 74 O).toNatClampNeg).toInt := by
                rcases avz.2 with z9 | z9 | z9
                · exact z9.2.2.1
                · exact z9.2.2.1
                · exact absurd z9.1 (by decide)
              have l52z : (z.1 0 52).toInt = C.1.length := Kz.1.1
              have kl : (M.2.2 O).2.2.1 < C.1.length := by
                have := (RI_step riz O6 g1z).2.1
                omega
              obtain ⟨so, hso⟩ : ∃ so, C.1[(M.2.2 O).2.2.1]? = some so := ⟨_, List.getElem?_eq_getElem kl⟩
              obtain ⟨-, -, g56, -⟩ := Kz.1.2 _ so hso
              have ec : (z.1 74 O).toNatClampNeg = (M.2.2 O).2.2.1 := by rw [t_cl, n74]; rfl
              rw [ec, g56] at lo ⊢
              unfold obM
              rw [stN_is hso, t_cl, t_cl, t_eq]
              omega
            refine ⟨fun n9 => nx z S2 (fC_mono (by omega) qz) (by rw [rno (nof (fun z9 => n9 (ob.mpr z9.2)))]; exact hc), fun e9 => ds_choose3 (q0' := (T, none, some O)) t (-1) o (by omega) qz ho hc ⟨tTI, rfl, oI⟩ (fun y' S' q' hc' => nx y' S' q' (by rw [ryes (by unfold waP; simp; exact ⟨b1.mp w1, ob.mp e9⟩), ← List.append_assoc]; exact hc'))⟩
        exact p72 (x.1 0 25).toInt.toNat y S1 0 (by decide) (by rw [k0]; omega) (by rw [k0]; omega) (fC_mono (by rw [k0]; omega) q) (by rw [k0]; simpa using hl)
  refine sd_findChoices_0 (fun y e => ?_)
  have m := md_f x 84 0
  rw [← e] at m
  have e0 : y.1 0 84 = 0 := by rw [e, si_get, if_pos ⟨rfl, rfl⟩]
  refine p7 (x.1 0 25).toInt.toNat y _ 0 (by decide) (by rw [k0]; exact hT) (by rw [k0]; omega) ⟨md_w m (by decide) (by decide), ssub_ad _ _ _, Or.inl ⟨rfl, rfl⟩, by rw [e0]; decide, by rw [e0, k0]; omega, fun i hi => ?_⟩ ⟨by rw [e0]; rfl, fun i q hi => nomatch hi⟩
  rw [e0, k0] at hi
  omega
end DF3

theorem fc_exMq9 {b : gd} {S : gS} {C : gCo} {M : gMa} {w : Nat} (ri : RI b S) (wy : wy01 b) (hK : MK b C) (hN : NC C) (hX : NXc C) (hM : MM1 b C M) (wyw : b.1 0 68 = Int32.ofNat w) (w01 : w = 0 ∨ w = 1) (hlt : w = 0 → ∀ t', t' < 6 → (M.2.2 t').2.2.2.2.2.2.1 = []) : ∃ a, AV a ∧ fcA b a ∧ md [84] [86, 87, 88] b a ∧ chE a (chM C w M) := by
  obtain ⟨o, a, S', ⟨eo, fc, hcn⟩, m, q⟩ := ds_find3q9 (d := 0) (Fv := fun y S1 => fC b (Sl b) 84 y S1 ∧ chE y (chM C w M)) (RI_Sl ri) hK hN hX hM wyw w01 hlt (fun y S1 h h2 => ⟨h, h2⟩)
  obtain ⟨f1, f2, f3, f4, f5, f6⟩ := fc
  have e80 : a.1 80 = b.1 80 := f1.2.1 80 (by decide) (by decide)
  have sl : Sl a = Sl b := by
    funext c j
    unfold Sl
    rw [e80]
  have sm : ssub (Sm a) S' := by
    intro c j h
    rcases h with ⟨h1, h2⟩ | ⟨h1, h2⟩ | h
    · rw [h1, h2]; exact f3
    · obtain ⟨g1, g2, g3, _⟩ := f6 j h2
      rcases h1 with h1 | h1 | h1
      · rw [h1]; exact g1
      · rw [h1]; exact g2
      · rw [h1]; exact g3
    · rw [sl] at h
      exact f2 c j h
  have fa : fcA b a := by
    intro G z e
    refine MT_mono (q G z e) (fun o2 z' w => ?_)
    rw [w.1, eo]
    exact rv_i ⟨eqS_w sm w.2.1, w.2.2⟩
  refine ⟨a, ⟨?_, ?_, ?_, f4, f5, ?_⟩, fa, f1, hcn⟩
  · rw [sl]
    exact RI_md f1 rfl rfl (ssub_rf _) (RI_Sl ri)
  · unfold wy01
    rw [f1.1 68 (by decide)]
    exact wy
  · intro i hi
    obtain ⟨_, _, _, g⟩ := f6 i hi
    exact ⟨Or.inr (Or.inl ⟨Or.inl rfl, hi⟩), Or.inr (Or.inl ⟨Or.inr (Or.inl rfl), hi⟩), Or.inr (Or.inl ⟨Or.inr (Or.inr rfl), hi⟩), g⟩
  · intro G z e
    refine fa G z (fun c j h => ?_)
    rw [← sl] at h
    rw [e c j h]
    -- the core and the late writes are those of b
    rcases h with h | h
    · rcases h with ⟨h1, h2⟩ | ⟨n, h1, h2⟩
      · rw [h1]
        refine f1.1 j (fun w => ?_)
        rw [List.mem_singleton.mp w] at h2
        exact absurd h2 (by decide)
      · have hc : c ≠ 0 ∧ c ∉ [86, 87, 88] := by
          simp at h1
          refine ⟨by omega, ?_⟩
          simp
          omega
        rw [f1.2.1 c hc.1 hc.2]
    · obtain ⟨hc, _⟩ := h
      rw [f1.2.1 c (by omega) (by simp; omega)]
theorem lk_exMq9 {C : gCo} {w i : Nat} {M : gMa} {a : gd} {ch : gCh} (gc : GC C) (w01 : w = 0 ∨ w = 1) (h : AM C w M a) (hch : (chM C w M)[i]? = some ch) : ∃ a', AM C w (doM C w M ch) a' ∧ Lk a i a' := by
  obtain ⟨hN, hX, l6⟩ := gc
  obtain ⟨⟨ri, wy, chv, c0, c84, fa⟩, hK, hM, hI, w68, hE⟩ := h
  have hi : (i : Int) < (a.1 0 84).toInt := by have := gt_lt hch; rw [hE.1]; omega
  obtain ⟨_, _, _, ⟨t0, t6⟩, co⟩ := chv i hi
  have tv : vp_in (a.1 86 i) 6 := by rw [vp_in_iff]; exact ⟨t0, t6⟩
  obtain ⟨e86, e87, e88⟩ := hE.2 i ch hch
  have cm := List.mem_of_getElem? hch
  obtain ⟨i1, i2, i3⟩ := ch_in cm
  have hI' := MIv_do hX l6 hI cm
  have ct : (a.1 86 i).toNatClampNeg = ch.1 := by
    rw [e86, t_cl, Int32.toInt_ofNat_of_lt (by omega)]; rfl
  have st : ∃ b, RI b (Sl b) ∧ wy01 b ∧ MK b C ∧ MM1 b C (doM C w M ch) ∧ b.1 0 68 = Int32.ofNat w ∧ Tr a i b := by
    by_cases c : a.1 87 i = -1
    · have g := co.resolve_right (fun z => by rw [c] at z; exact absurd z.1 (by decide))
      have cn : ch.2.1 = none := by
        cases h9 : ch.2.1 with
        | none => rfl
        | some j =>
          have j8 : j < 9 := by
            have := i3 j h9
            have q := (ri.2 ch.1 (by omega)).2.2.2.1
            have := (hM.2.2 ch.1 (by omega)).2.2.2.2.2.2.2.2.1.1
            omega
          rw [h9] at e87
          rw [e87] at c
          have c : Int32.ofNat j = -1 := c
          have : ∀ n, n < 9 → ¬ Int32.ofNat n = -1 := by decide +kernel
          exact absurd c (this j j8)
      have dE : doM C w M ch = acM C w M ch.1 ch.2.2 := by unfold doM; rw [cn]
      obtain ⟨o, b, S', ⟨eo, rb, ss, as', ap, mb⟩, m, q⟩ := ds_doAct3q9 (d := 0) (wk := ch.2.2) (Fv := fun y S1 => RI y S1 ∧ ssub (Sl a) S1 ∧ acS S1 ∧ acP (srt a (a.1 86 i).toNatClampNeg) y ∧ MM1 y C (acM C w M (a.1 86 i).toNatClampNeg ch.2.2)) (a.1 86 i) (a.1 88 i) tv ri g.2.1 g.2.2 hK hN hX hM (WMw_WM hI.1) w68 w01 (by
        cases h9 : ch.2.2 with
        | none => rw [h9] at e88; exact Or.inl ⟨rfl, e88⟩
        | some k =>
          rw [h9] at e88
          have k6 := (i2 cn).2.2 k h9
          unfold waM at k6
          have := List.mem_range.mp (List.mem_filter.mp k6).1
          exact Or.inr ⟨k, rfl, by omega, e88⟩) (fun y S1 h1 h2 h3 h4 h5 => ⟨h1, h2, h3, h4, h5⟩)
      rw [ct] at mb
      refine ⟨b, RI_Sl rb, by unfold wy01; rw [m.1 68 (by decide)]; exact wy, MK_mdq9 m rfl rfl hK, by rw [dE]; exact mb, by rw [m.1 68 (by decide)]; exact w68, fun _ G z e => MT_mono (q G z e) (fun o2 z' w => ?_), fun n => absurd c n⟩
      rw [w.1, eo]
      refine rv_i ⟨eqS_w (Sl_in rb) w.2.1, w.2.2, ?_⟩
      unfold acP
      rw [w.2.1 0 88 (Or.inr as'.1), w.2.1 0 89 (Or.inr as'.2.1)]
      exact ap
    · have g := co.resolve_left (fun z => c z.1)
      obtain ⟨j, hj⟩ : ∃ j, ch.2.1 = some j := by
        cases h9 : ch.2.1 with
        | none => rw [h9] at e87; exact absurd e87 c
        | some j => exact ⟨j, rfl⟩
      rw [hj] at e87
      have e87 : a.1 87 i = Int32.ofNat j := e87
      have dE : doM C w M ch = laM M ch.1 j := by unfold doM; rw [hj]
      have j8 : j < 9 := by
        have := i3 j hj
        have q := (ri.2 ch.1 (by omega)).2.2.2.1
        have := (hM.2.2 ch.1 (by omega)).2.2.2.2.2.2.2.2.1.1
        omega
      have ej : (a.1 87 i).toInt.toNat = j := by rw [e87, Int32.toInt_ofNat_of_lt (by omega)]; rfl
      obtain ⟨o, b, S', ⟨eo, rb, ss, mb, mm⟩, m, q⟩ := ds_doLate3 (d := 4) (C := C) (M := M) (Fv := fun y S1 => RI y S1 ∧ ssub (Sl a) S1 ∧ md [] [70, 80, 81, 82] a y ∧ MM1 y C (laM M (a.1 86 i).toNatClampNeg (a.1 87 i).toInt.toNat)) (a.1 86 i) (a.1 87 i) tv ri g.1 g.2 hM (fun y S1 h1 h2 h3 h4 => ⟨h1, h2, h3, h4⟩)
      rw [ct, ej] at mm
      refine ⟨b, RI_Sl rb, by unfold wy01; rw [m.1 68 (by decide)]; exact wy, MK_mdq9 m rfl rfl hK, by rw [dE]; exact mm, by rw [m.1 68 (by decide)]; exact w68, fun n => absurd n c, fun _ G z e => MT_mono (q G z e) (fun o2 z' w => ?_)⟩
      rw [w.1, eo]
      exact rv_i ⟨eqS_w (Sl_in rb) w.2.1, w.2.2⟩
  obtain ⟨b, h1, h2, hKb, hMb, wb, h3⟩ := st
  obtain ⟨a', g1, g2, g3, g4⟩ := fc_exMq9 h1 h2 hKb hN hX hMb wb w01 (fun z t ht => (hI'.1 t ht).2.2.2 z)
  exact ⟨a', ⟨g1, MK_mdq9 g3 rfl rfl hKb, MM1_md g3 rfl hMb, hI', by rw [g3.1 68 (by decide)]; exact wb, g4⟩, b, h3, g2⟩
section DSY
variable {x : gd} {C : gCo}
theorem first_exMq9 (cp : CP x) (hK : MK x C) (hN : NC C) : ∃ b, RI b (Sl b) ∧ MM1 b C (fsM C) ∧ MK b C ∧ b.1 0 68 = x.1 0 68 ∧ prE x b ∧ ∀ (G : mG) (D : Nat) (z : gd), 5 ≤ D → prE x z → z.1 0 68 = x.1 0 68 → MT G D z_setFirst 0 [(0, vr 0)] [] z (rv (fun z' => eqS (Sl b) b z' ∧ md rL rA z z')) := by
  have ii := ix_ini x
  have i2 : ∀ j : Nat, j < 24 → (ix x).1 70 j = (fsM C).1 j := fun j hj => by
    have e : (ix x).1 70 j = if (j : Int) < (x.1 0 23).toInt then x.1 36 j else 0 := ii.2.1 j hj
    rw [e]
    have l23 : (x.1 0 23).toInt = C.2.2.1.length := hK.2.2.1.1
    show _ = (match C.2.2.1[j]? with | some q => q.1 | none => 0)
    cases hq : C.2.2.1[j]? with
    | some q => rw [if_pos (by have := gt_lt hq; omega)]; exact (hK.2.2.1.2 j q hq).1
    | none => rw [if_neg (by have := List.getElem?_eq_none_iff.mp hq; omega)]
  obtain ⟨o, b, S', ⟨eo, rb, hfs⟩, m, q⟩ := ds_setTail3q9 (x := ix x) (S := fun _ _ => False) (Fv := fun y S1 => RI y S1 ∧ MM1 y C (fsM C)) (CP_md ii.1 rfl rfl cp) ii.2.2.2.1 ii.2.2.1 i2 ii.2.2.2.2 (MK_mdq9 ii.1 rfl rfl hK) hN (fun y S1 h h2 => ⟨h, h2⟩)
  refine ⟨b, RI_Sl rb, hfs, MK_mdq9 m rfl rfl (MK_mdq9 ii.1 rfl rfl hK), ?_, ?_, fun G D z hD p w => ?_⟩
  · rw [m.1 68 (by decide), ii.1.1 68 (by decide)]
  · exact prE_mi (prE_mi (prE_rf x) (mi_of ii.1) rfl rfl) (mi_of m) rfl rfl
  · obtain ⟨D, rfl⟩ : ∃ D', D = D' + 1 := ⟨D - 1, by omega⟩
    refine sp_setInit (fun y iy => MT_up (d := 4) (by omega) (MT_mono (q G y (ini_eq p w ii iy)) (fun o2 z' v => ?_)))
    rw [v.1, eo]
    exact rv_i ⟨eqS_w (Sl_in rb) v.2.1, md_tr (md_w iy.1 (L2 := rL) (A2 := rA) (by decide) (by decide)) v.2.2 rfl rfl⟩
theorem start_exMq9 (cp : CP x) (hK : MK x C) (hN : NC C) (hX : NXc C) {wn : Nat} (w01 : wn = 0 ∨ wn = 1) (w : Int32) (ew0 : w = Int32.ofNat wn) (hw : w = 0 ∨ w = 1) : ∃ a0, AM C wn (fsM C) a0 ∧ AV a0 ∧ a0.1 0 68 = w ∧ prE x a0 ∧ St x w a0 ∧ ∃ b, md [84] [86, 87, 88] b a0 ∧ ∀ (G : mG) (D : Nat) (z : gd), 5 ≤ D → prE x z → z.1 0 68 = w → MT G D z_setFirst 0 [(0, vr 0)] [] z (rv (fun z' => eqS (Sl b) b z' ∧ md rL rA z z')) := by
  have k0 : (0 : Int32).toInt = 0 := rfl
  have k1 : (1 : Int32).toInt = 1 := rfl
  have k6 : (6 : Int32).toInt = 6 := rfl
  have mw := md_f x 68 w
  obtain ⟨xw, exw⟩ : ∃ xw, xw = si x 0 68 w := ⟨_, rfl⟩
  rw [← exw] at mw
  have ew : xw.1 0 68 = w := by rw [exw, si_get, if_pos ⟨rfl, rfl⟩]
  have pw : prE x xw := prE_mi (prE_rf x) (mi_of mw) rfl rfl
  obtain ⟨b, rb, hfs, hKb, b68, pb, hb⟩ := first_exMq9 (CP_md mw rfl rfl cp) (MK_mdq9 mw rfl rfl hK) hN
  rw [ew] at b68
  obtain ⟨a0, av, fa, ma, hcn⟩ := fc_exMq9 rb (by unfold wy01; rw [b68]; exact hw) hKb hN hX hfs (by rw [b68, ew0]) w01 (fun z t ht => (WMw_fs t ht).2.2.2 z)
  refine ⟨a0, ⟨av, MK_mdq9 ma rfl rfl hKb, MM1_md ma rfl hfs, MIv_fs, by rw [ma.1 68 (by decide), b68, ew0], hcn⟩, av, by rw [ma.1 68 (by decide), b68], prE_tr pw (prE_mi pb (mi_of ma) rfl rfl), ?_, b, ma, fun G D z hD p hz => hb G D z hD (prE_tr (prE_sy pw) p) (by rw [ew]; exact hz)⟩
  intro G D z Fv hD p hF
  obtain ⟨D, rfl⟩ : ∃ D', D = D' + 1 := ⟨D - 1, by omega⟩
  refine sg_startRun_0 _ (fun z1 e1 z2 e2 z3 e3 z4 e4 => ?_)
  have m1 := md_f z 68 w
  rw [← e1] at m1
  have m2 := md_f z1 67 1
  rw [← e2] at m2
  have m3 := md_f z2 94 0
  rw [← e3] at m3
  have m4 := md_f z3 96 0
  rw [← e4] at m4
  have m14 : md [68, 67, 94, 96] [] z z4 := md_tr (md_tr (L3 := [68, 67, 94]) (A3 := []) (md_tr (L3 := [68, 67]) (A3 := []) m1 m2 rfl rfl) m3 rfl rfl) m4 rfl rfl
  have f68 : z4.1 0 68 = w := by rw [m4.1 68 (by decide), m3.1 68 (by decide), m2.1 68 (by decide), e1, si_get, if_pos ⟨rfl, rfl⟩]
  have f67 : z4.1 0 67 = 1 := by rw [m4.1 67 (by decide), m3.1 67 (by decide), e2, si_get, if_pos ⟨rfl, rfl⟩]
  have f94 : z4.1 0 94 = 0 := by rw [m4.1 94 (by decide), e3, si_get, if_pos ⟨rfl, rfl⟩]
  have f96 : z4.1 0 96 = 0 := by rw [e4, si_get, if_pos ⟨rfl, rfl⟩]
  have loop : ∀ (n : Nat) (y : gd) (t : Int32), 0 ≤ t.toInt → t.toInt ≤ 6 → 6 - t.toInt ≤ n → md [] [106, 107] z4 y → (∀ j : Nat, (j : Int) < t.toInt → y.1 106 j = -1 ∧ y.1 107 j = -1) → MT G (D + 1) z_startRun 22 [(0, vr 0), (2, vi t)] [] y (rv Fv) := by
    have last : ∀ y : gd, md [] [106, 107] z4 y → (∀ j : Nat, j < 6 → y.1 106 j = -1 ∧ y.1 107 j = -1) → MT G D z_setFirst 0 [(0, vr 0)] [] y (rv (fun x2 => MT G D z_findChoices 0 [(0, vr 0)] [] x2 (rv (fun x3 => rv Fv none x3)))) := by
      intro y my hy
      have py : prE xw y := prE_tr (prE_sy pw) (prE_mi (prE_mi p (mi_of m14) rfl rfl) (mi_of my) rfl rfl)
      have wy' : y.1 0 68 = xw.1 0 68 := by rw [my.1 68 (by decide), f68, ew]
      refine MTv_mono (hb G D y (by omega) py wy') (fun u q => MT_up (by omega) (MTv_mono (fa G u q.1) (fun v qv => rv_i (hF v qv.1 ?_))))
      have g : mi [82, 84, 88, 89, 90, 91, 92, 93] rA y v := mi_of (md_rt q.2 qv.2)
      have v94 : v.1 0 94 = 0 := by rw [g.1 94 (by decide), my.1 94 (by decide), f94]
      have v96 : v.1 0 96 = 0 := by rw [g.1 96 (by decide), my.1 96 (by decide), f96]
      refine ⟨mi_tr (mi_tr (L3 := sL') (A3 := sA') (mi_of m14) (mi_of my) rfl rfl) g rfl rfl, v94, ⟨by rw [v96]; decide, by rw [v96, v94]; decide, by rw [v94]; decide, fun j hj => by rw [v96, k0] at hj; omega, fun t ht => ?_⟩, by rw [g.1 67 (by decide), my.1 67 (by decide), f67], by rw [g.1 68 (by decide), my.1 68 (by decide), f68]⟩
      rw [g.2 106 (by decide) (by decide), g.2 107 (by decide) (by decide)]
      exact ⟨Or.inl (hy t ht).1, Or.inl (hy t ht).2⟩
    intro n
    induction n with
    | zero =>
      intro y t t0 t6 hn my hy
      exact sg_startRun_22 _ ⟨fun _ => last y my (fun j hj => hy j (by omega)), fun c => absurd (t_le.mpr (by rw [k6]; omega)) c⟩
    | succ n ih =>
      intro y t t0 t6 hn my hy
      refine sg_startRun_22 _ ⟨fun c => last y my (fun j hj => hy j (by rw [t_le, k6] at c; omega)), fun c => ?_⟩
      rw [t_le, k6] at c
      have tv : vp_in t 6 := by rw [vp_in_iff]; omega
      have ct := cl_i t0
      have ti : (t + 1).toInt = t.toInt + 1 := by rw [t_add (by omega) (by omega), k1]
      refine ⟨tv, fun y5 e5 => ⟨tv, fun y7 e7 => ?_⟩⟩
      have m5 := md_a y 106 t.toNatClampNeg (-1) (by decide)
      rw [← e5] at m5
      have m7 := md_a y5 107 t.toNatClampNeg (-1) (by decide)
      rw [← e7] at m7
      refine ih y7 (t + 1) (by omega) (by omega) (by omega) (md_tr (md_tr (L3 := []) (A3 := [106, 107]) my m5 rfl rfl) m7 rfl rfl) (fun j hj => ?_)
      by_cases q : j = t.toNatClampNeg
      · rw [q]
        exact ⟨by rw [e7, si_cell (by decide), e5, si_get, if_pos ⟨rfl, rfl⟩], by rw [e7, si_get, if_pos ⟨rfl, rfl⟩]⟩
      · rw [e7, si_ne 106 j q, si_ne 107 j q, e5, si_ne 106 j q, si_ne 107 j q]
        exact hy j (by omega)
  exact loop 6 z4 0 (by decide) (by decide) (by decide) (md_w (md_rf _) (by decide) (by decide)) (fun j hj => by rw [k0] at hj; omega)
end DSY

section MRU
variable {G : mG} {d D : Nat} {x z a : gd} {F : Int32 → gd → Prop} {Fv : gd → Prop} {C : gCo} {w : Nat}
/-- a choice more -/
theorem sc_moreq9 (gc : GC C) (hh : HistC C w z) (hd : (z.1 0 94).toInt < 400) (i : Int32) (i0 : 0 ≤ i.toInt) (i1 : i.toInt < (z.1 0 84).toInt) (hD : 6 ≤ D) (h : ∀ z', HistC C w z' → dF z z' i → Fv z') : MT G D z_doChoice 0 [(0, vr 0), (1, vi i)] [] z (rv Fv) := by
  obtain ⟨s, n, q1, q2, q3, q4, q5, q6, q7⟩ := hh
  have e84 : z.1 0 84 = (s n).1 0 84 := q4 0 84 (Or.inr (Or.inl ⟨rfl, rfl⟩))
  rw [e84] at i1
  have ci := cl_i i0
  have am := q2 n (Nat.le_refl _)
  have en := AM_n am
  have hil : i.toNatClampNeg < (chM C w (runM C w (c96 z) n)).length := by omega
  obtain ⟨ch, hch⟩ : ∃ ch, (chM C w (runM C w (c96 z) n))[i.toNatClampNeg]? = some ch := ⟨_, List.getElem?_eq_getElem hil⟩
  obtain ⟨a', av', lk⟩ := lk_exMq9 gc q6.1 am hch
  refine sp_doChoice am.1 i i0 i1 lk q4 q7 hd hD (fun z' e' ha' df => h z' ?_ df)
  obtain ⟨m, d94, d96, d96b⟩ := df
  have cn : (z.1 0 94).toNatClampNeg = n := by have := cl_i (a := z.1 0 94) (by omega); omega
  rw [cn] at d96 d96b
  have f68 : z'.1 0 68 = z.1 0 68 := m.1 68 (by decide)
  have cE : ∀ k, k < n → c96 z' k = c96 z k := fun k hk => by unfold c96; rw [d96b k (by omega)]
  have cN : c96 z' n = i.toNatClampNeg := by unfold c96; rw [d96]
  have rE : ∀ k, k ≤ n → runM C w (c96 z') k = runM C w (c96 z) k := fun k hk => runM_cg (fun j hj => cE j (by omega))
  have rN : runM C w (c96 z') (n + 1) = doM C w (runM C w (c96 z) n) ch := by
    rw [runM_s (c := c96 z') (k := n) (ch := ch) (by rw [rE n (Nat.le_refl _), cN]; exact hch), rE n (Nat.le_refl _)]
  refine ⟨fun k => if k = n + 1 then a' else s k, n + 1, by omega, fun k hk => ?_, fun k hk => ?_, ?_, ?_, by rw [f68]; exact q6, ha'⟩
  · by_cases c : k = n + 1
    · simp only [if_pos c]; rw [c, rN]; exact av'
    · simp only [if_neg c]; rw [rE k (by omega)]; exact q2 k (by omega)
  · by_cases c : k = n
    · rw [c, d96, cN, rE n (Nat.le_refl _)]
      simp only [if_neg (show ¬ n = n + 1 by omega), if_pos]
      exact ⟨i0, hil, lk⟩
    · rw [d96b k c, cE k (by omega), rE k (by omega)]
      simp only [if_neg (show ¬ k = n + 1 by omega), if_neg (show ¬ k + 1 = n + 1 by omega)]
      exact q3 k (by omega)
  · simp only [if_pos]
    exact e'
  · simp only [if_neg (show ¬ 0 = n + 1 by omega)]
    rw [f68]
    exact St_pr (prE_mi (prE_rf z) m rfl rfl) q5
/-- a run begun -/
theorem sc_startRunq9 (gc : GC C) (cp : CP z) (hK : MK z C) (w01 : w = 0 ∨ w = 1) (hD : 6 ≤ D) (h : ∀ z', HistC C w z' → sF (Int32.ofNat w) z z' → Fv z') : MT G D z_startRun 0 [(0, vr 0), (1, vi (Int32.ofNat w))] [] z (rv Fv) := by
  have hw : Int32.ofNat w = 0 ∨ Int32.ofNat w = 1 := by
    rcases w01 with e | e <;> rw [e]
    · exact Or.inl rfl
    · exact Or.inr rfl
  obtain ⟨a0, am, av, e68, pa, st, _⟩ := start_exMq9 cp hK gc.1 gc.2.1 w01 _ rfl hw
  refine st G D z Fv hD (prE_rf z) (fun z' e sf => h z' ?_ sf)
  obtain ⟨m, f94, ha, f67, f68⟩ := sf
  refine ⟨fun _ => a0, 0, by rw [f94]; rfl, fun k hk => ?_, fun k hk => absurd hk (Nat.not_lt_zero _), e, ?_, ⟨w01, f68⟩, ha⟩
  · have : k = 0 := by omega
    rw [this]; exact am
  · rw [f68]
    exact St_pr (prE_mi (prE_rf z) m rfl rfl) st
end MRU

section MFC
variable {G : mG} {d D : Nat} {x z a : gd} {F : Int32 → gd → Prop} {Fv : gd → Prop} {C : gCo} {w : Nat}
theorem PM_rfq9 {z' : gd} (q : MI z) (h : rfM z z') : PMq9 z z' := MI_0q9 h.1 q
theorem PM_runq9 {z' : gd} (q : MI z) (hc : ¬ z.1 0 66 = 0) (m : mi rnL rnA z z') (hh : Hist z') : PMq9 z z' := MI_newq9 m rfl rfl hc hh q
theorem sc_beginq9 (q : MI z) (l : Int32) (gc : ¬ z.1 0 66 = 0 → MK z C ∧ GC C) (hD : 7 ≤ D) (h0 : ¬ (¬ z.1 0 66 = 0 ∧ (l = 0 ∨ l = 1)) → ∀ z', rfM z z' → F 0 z') (h1 : ∀ (w : Nat) z', ¬ z.1 0 66 = 0 → l = Int32.ofNat w → HistC C w z' → mi rnL rnA z z' → z'.1 0 0 = 0 → z'.1 0 67 = 1 → z'.1 0 94 = 0 → F (z'.1 0 84) z') : MT G D z_begin 0 [(0, vr 0), (1, vi l)] [] z (ri F) := by
  obtain ⟨D, rfl⟩ : ∃ D', D = D' + 1 := ⟨D - 1, by omega⟩
  have k0 : (0 : Int32).toInt = 0 := rfl
  have k1 : (1 : Int32).toInt = 1 := rfl
  refine sg_begin_0 _ (fun y e => ?_)
  have hy := z0_s e
  have e66 : y.1 0 66 = z.1 0 66 := hy.1.1 66 (by decide)
  have p40 : ¬ z.1 0 66 = 0 → ∀ b : Int32, (b = 0 → l = 0 ∨ l = 1) → (¬ b = 0 → ¬ (l = 0 ∨ l = 1)) → MT G (D + 1) z_begin 40 [(0, vr 0), (1, vi l)] [vi b, vr 0] y (ri F) := by
    intro c b hb hb2
    refine sg_begin_40 _ _ (sc_ref b 2 hy (by decide) (fun b0 => ⟨fun _ => ?_, fun q => absurd rfl q⟩) (fun nb y' m => ⟨fun q => absurd q (by decide), fun _ => ri_i (h0 (fun z9 => hb2 nb z9.2) y' m)⟩))
    have qy := (MI_0q9 hy.1 q).1
    obtain ⟨hK, gC⟩ := gc c
    have hKy : MK y C := MK_fq9 hK (fun k hk => hy.1.1 k (fun z9 => by rw [List.mem_singleton.mp z9] at hk; exact absurd hk (by decide))) (fun c9 hc9 => hy.1.2 c9 (mfA_0q9 c9 hc9) (by simp))
    obtain ⟨w, w01, ew⟩ : ∃ w : Nat, (w = 0 ∨ w = 1) ∧ l = Int32.ofNat w := by
      rcases hb b0 with e | e
      · exact ⟨0, Or.inl rfl, e⟩
      · exact ⟨1, Or.inr rfl, e⟩
    rw [ew]
    refine sc_startRunq9 gC (qy.2.1 (by rw [e66]; exact c)) hKy w01 (by omega) (fun z' hh sf => ri_i ?_)
    obtain ⟨m, f94, ha, f67, f68⟩ := sf
    exact h1 w z' c ew hh (mi_tr hy.1 m rfl rfl) (by rw [m.1 0 (by decide)]; exact hy.2) f67 f94
  have p18 : ∀ b : Int32, (b = 0 → ¬ z.1 0 66 = 0) → (¬ b = 0 → ¬ ¬ z.1 0 66 = 0) → MT G (D + 1) z_begin 18 [(0, vr 0), (1, vi l)] [vi b, vr 0] y (ri F) := by
    intro b hb hb2
    refine sg_begin_18 _ _ (sc_ref b 1 hy (by decide) (fun b0 => ⟨fun q => absurd rfl q, fun _ => sp_in _ _ _ ⟨fun c => p40 (hb b0) 0 (fun _ => ?_) (fun z => absurd rfl z), fun c => p40 (hb b0) 1 (fun q => absurd q (by decide)) (fun _ z => ?_)⟩⟩) (fun nb y' m => ⟨fun _ => ri_i (h0 (fun z9 => hb2 nb z9.1) y' m), fun q => absurd q (by decide)⟩))
    · obtain ⟨c1, c2⟩ := bi_ne.mp c
      rw [t_le, k0] at c1
      rw [t_le, k1] at c2
      rw [t_eq, t_eq, k0, k1]
      omega
    · refine bi_eq.mp c ?_
      rcases z with z | z <;> rw [z] <;> decide
  rw [e66]
  exact ⟨fun c => p18 0 (fun _ => c) (fun z => absurd rfl z), fun c => p18 1 (fun q => absurd q (by decide)) (fun _ z => z c)⟩
theorem sc_goq9 (q : MI z) (gc : GC C) (hH : ¬ z.1 0 67 = 0 → ∃ w, HistC C w z) (i : Int32) (hD : 7 ≤ D) (h0 : ¬ (¬ z.1 0 67 = 0 ∧ (z.1 0 94).toInt < 400 ∧ 0 ≤ i.toInt ∧ i.toInt < (z.1 0 84).toInt) → ∀ z', rfM z z' → F 0 z') (h1 : ∀ (w : Nat) z', ¬ z.1 0 67 = 0 → (z.1 0 94).toInt < 400 → 0 ≤ i.toInt → i.toInt < (z.1 0 84).toInt → HistC C w z → HistC C w z' → mi rnL rnA z z' → z'.1 0 0 = 0 → z'.1 0 67 = z.1 0 67 → (z'.1 0 94).toInt = (z.1 0 94).toInt + 1 → c96 z' (z.1 0 94).toInt.toNat = i.toNatClampNeg → rwE (c96 z') (c96 z) (z.1 0 94).toInt.toNat → F (z'.1 0 84) z') : MT G D z_go 0 [(0, vr 0), (1, vi i)] [] z (ri F) := by
  obtain ⟨D, rfl⟩ : ∃ D', D = D' + 2 := ⟨D - 2, by omega⟩
  have k0 : (0 : Int32).toInt = 0 := rfl
  have k1 : (1 : Int32).toInt = 1 := rfl
  have k4 : (400 : Int32).toInt = 400 := rfl
  refine sg_go_0 _ (fun y e => ?_)
  have hy := z0_s e
  have e67 : y.1 0 67 = z.1 0 67 := hy.1.1 67 (by decide)
  have e84 : y.1 0 84 = z.1 0 84 := hy.1.1 84 (by decide)
  have e94 : y.1 0 94 = z.1 0 94 := hy.1.1 94 (by decide)
  have e96 : y.1 96 = z.1 96 := hy.1.2 96 (by decide) (by simp)
  refine sc_noRun hy (fun hr => ⟨fun q => absurd rfl q, fun _ => ?_⟩) (fun c y' m => ⟨fun _ => ri_i (h0 (fun z9 => z9.1 (by rw [← e67]; exact c)) y' m), fun q => absurd q (by decide)⟩)
  rw [e67] at hr
  obtain ⟨w, hh⟩ := hH hr
  obtain ⟨b1, b2, b3⟩ := HistC_b hh
  have hhy := HistC_0 hy.1 hh
  have p55 : ¬ y.1 0 94 = 400 → ∀ b : Int32, (b = 0 → 0 ≤ i.toInt ∧ i.toInt < (y.1 0 84).toInt) → (¬ b = 0 → ¬ (0 ≤ i.toInt ∧ i.toInt < (y.1 0 84).toInt)) → MT G (D + 2) z_go 55 [(0, vr 0), (1, vi i)] [vi b, vr 0] y (ri F) := by
    intro n4 b hb hb2
    refine sg_go_55 _ _ (sc_ref b 2 hy (by decide) (fun b0 => ⟨fun _ => ?_, fun q => absurd rfl q⟩) (fun nb y' m => ⟨fun q => absurd q (by decide), fun _ => ri_i (h0 (fun z9 => hb2 nb (by rw [e84]; exact z9.2.2)) y' m)⟩))
    rw [t_eq, k4, e94] at n4
    obtain ⟨g1, g2⟩ := hb b0
    refine sc_moreq9 gc hhy (by rw [e94]; omega) i g1 g2 (by omega) (fun z' hh' df => ri_i ?_)
    obtain ⟨m, d94, d96, d96b⟩ := df
    rw [e94] at d94 d96 d96b
    refine h1 w z' hr (by omega) g1 (by rw [← e84]; exact g2) hh hh' (mi_tr hy.1 m rfl rfl) (by rw [m.1 0 (by decide)]; exact hy.2) (by rw [m.1 67 (by decide)]; exact e67) d94 ?_ (fun k hk => ?_)
    · show (z'.1 96 _).toNatClampNeg = _
      rw [t_cl] at d96
      rw [d96]
    · show (z'.1 96 k).toNatClampNeg = (z.1 96 k).toNatClampNeg
      rw [d96b k (by rw [t_cl]; omega), e96]
  have p28 : ∀ b : Int32, (b = 0 → ¬ y.1 0 94 = 400) → (¬ b = 0 → y.1 0 94 = 400) → MT G (D + 2) z_go 28 [(0, vr 0), (1, vi i)] [vi b, vr 0] y (ri F) := by
    intro b hb hb2
    refine sg_go_28 _ _ (sc_ref b 1 hy (by decide) (fun b0 => ⟨fun q => absurd rfl q, fun _ => sp_in _ _ _ ⟨fun c => p55 (hb b0) 0 (fun _ => ?_) (fun z => absurd rfl z), fun c => p55 (hb b0) 1 (fun q => absurd q (by decide)) (fun _ z9 => ?_)⟩⟩) (fun nb y' m => ⟨fun _ => ri_i (h0 (fun z9 => ?_) y' m), fun q => absurd q (by decide)⟩))
    · obtain ⟨c1, c2⟩ := bi_ne.mp c
      rw [t_le, k0] at c1
      rw [t_le, t_sub (by rw [e84]; omega) (by rw [e84]; omega), k1] at c2
      omega
    · refine bi_eq.mp c ⟨t_le.mpr (by rw [k0]; exact z9.1), t_le.mpr ?_⟩
      rw [t_sub (by rw [e84]; omega) (by rw [e84]; omega), k1]
      omega
    · have := hb2 nb
      rw [e94] at this
      rw [this, k4] at z9
      omega
  exact ⟨fun c => p28 0 (fun _ => c) (fun z => absurd rfl z), fun c => p28 1 (fun q => absurd q (by decide)) (fun _ => c)⟩
theorem sc_drawq9 (q : MI z) (gc : GC C) (hH : ¬ z.1 0 67 = 0 → ∃ w, HistC C w z) (s n : Int32) (hD : 7 ≤ D) (h0 : ¬ (¬ z.1 0 67 = 0 ∧ 0 ≤ n.toInt ∧ n.toInt ≤ 400) → ∀ z', rfM z z' → F 0 z') (h1 : ∀ (w : Nat) r z', ¬ z.1 0 67 = 0 → 0 ≤ n.toInt → n.toInt ≤ 400 → HistC C w z → HistC C w z' → mi rnL rnA z z' → z'.1 0 0 = 0 → z'.1 0 67 = z.1 0 67 → (z'.1 0 94).toInt = ((drS C w n.toInt.toNat s (c96 z) (z.1 0 94).toInt.toNat).2 : Nat) → rwE (c96 z') (drS C w n.toInt.toNat s (c96 z) (z.1 0 94).toInt.toNat).1 (drS C w n.toInt.toNat s (c96 z) (z.1 0 94).toInt.toNat).2 → F r z') : MT G D z_draw 0 [(0, vr 0), (1, vi s), (2, vi n)] [] z (ri F) := by
  obtain ⟨D, rfl⟩ : ∃ D', D = D' + 2 := ⟨D - 2, by omega⟩
  have k0 : (0 : Int32).toInt = 0 := rfl
  have k1 : (1 : Int32).toInt = 1 := rfl
  have k4 : (400 : Int32).toInt = 400 := rfl
  refine sg_draw_0 _ _ (fun y e => ?_)
  have hy := z0_s e
  have e67 : y.1 0 67 = z.1 0 67 := hy.1.1 67 (by decide)
  have e94 : y.1 0 94 = z.1 0 94 := hy.1.1 94 (by decide)
  have e96 : y.1 96 = z.1 96 := hy.1.2 96 (by decide) (by simp)
  refine sc_noRun hy (fun hr => ⟨fun q => absurd rfl q, fun _ => ?_⟩) (fun c y' m => ⟨fun _ => ri_i (h0 (fun z9 => z9.1 (by rw [← e67]; exact c)) y' m), fun q => absurd q (by decide)⟩)
  rw [e67] at hr
  obtain ⟨w, hh⟩ := hH hr
  have hhy := HistC_0 hy.1 hh
  have cy : c96 y = c96 z := by unfold c96; rw [e96]
  obtain ⟨R, eR⟩ : ∃ R, R = drS C w n.toInt.toNat s (c96 z) (z.1 0 94).toInt.toNat := ⟨_, rfl⟩
  have loop : 0 ≤ n.toInt → n.toInt ≤ 400 → ∀ (m : Nat) (u : gd) (v i : Int32) (c : Nat → Nat) (k : Nat), HistC C w u → mi dL dA y u → 0 ≤ i.toInt → i.toInt + m = n.toInt → (u.1 0 94).toInt = (k : Nat) → rwE (c96 u) c k → drS C w m v c k = R → MT G (D + 2) z_draw 43 [(0, vr 0), (2, vi n), (3, vi v), (4, vi i)] [] u (ri F) := by
    intro n0 n4
    have end' : ∀ (u : gd) (i : Int32) (c : Nat → Nat) (k : Nat), HistC C w u → mi dL dA y u → (u.1 0 94).toInt = (k : Nat) → rwE (c96 u) c k → (c, k) = R → ri F (some (vi i)) u := fun u i c k hu mu h94 hc hR => ri_i (by
      have e1 : c = R.1 := by rw [← hR]
      have e2 : k = R.2 := by rw [← hR]
      refine h1 w i u hr n0 n4 hh hu (mi_tr hy.1 mu rfl rfl) (by rw [mu.1 0 (by decide)]; exact hy.2) (by rw [mu.1 67 (by decide)]; exact e67) (by rw [← eR, ← e2]; exact h94) ?_
      rw [← eR, ← e2, ← e1]; exact hc)
    intro m
    induction m with
    | zero =>
      intro u v i c k hu mu i0 hm h94 hc hR
      exact sg_draw_43 _ _ _ ⟨fun _ => end' u i c k hu mu h94 hc hR, fun c9 => absurd (t_le.mpr (by omega)) c9⟩
    | succ m ih =>
      intro u v i c k hu mu i0 hm h94 hc hR
      have rE : runM C w (c96 u) k = runM C w c k := runM_cg hc
      have e84 := HistC_n hu
      have ek : (u.1 0 94).toInt.toNat = k := by rw [h94]; rfl
      rw [ek, rE] at e84
      obtain ⟨b1, b2, b3⟩ := HistC_b hu
      rw [drS] at hR
      refine sg_draw_43 _ _ _ ⟨fun c9 => ?_, fun _ => ⟨fun c9 => ?_, fun c1 => ⟨fun c9 => ?_, fun c2 => ⟨fun z9 => c1 (by rw [z9]; decide), ?_⟩⟩⟩⟩
      · rw [t_le] at c9; exfalso; push_cast at hm; omega
      · rw [t_le, k0] at c9
        rw [if_pos (Or.inl (by omega))] at hR
        exact end' u i c k hu mu h94 hc hR
      · rw [t_le, k4] at c9
        rw [if_pos (Or.inr (by omega))] at hR
        exact end' u i c k hu mu h94 hc hR
      · rw [t_le, k0] at c1
        rw [t_le, k4] at c2
        rw [if_neg (by omega)] at hR
        obtain ⟨V, eV⟩ : ∃ V, V = v * 1103515245 + 12345 := ⟨_, rfl⟩
        rw [← eV]
        have hv : drV v = V := by rw [eV]; unfold drV; rfl
        rw [hv] at hR
        clear hv eV
        obtain ⟨a1, a2⟩ := t_and (V >>> (16 &&& 31 : Int32))
        have er := t_rem2 a1 (c := u.1 0 84) (by omega)
        obtain ⟨g1, g2⟩ := t_rem a1 (c := u.1 0 84) (by omega)
        have l84 : (u.1 0 84).toInt.toNat = (chM C w (runM C w c k)).length := by rw [e84]; rfl
        have hd : (V >>> (16 &&& 31 : Int32) &&& 32767).toNatClampNeg % (u.1 0 84).toInt.toNat = drI V (chM C w (runM C w c k)).length := by rw [l84]; unfold drI; rfl
        rw [hd] at er
        clear hd
        refine sc_moreq9 gc hu (by omega) _ g1 g2 (by omega) (fun u' hu' df => ?_)
        obtain ⟨mm, d94, d96, d96b⟩ := df
        have ii : (i + 1).toInt = i.toInt + 1 := by rw [t_add (by omega) (by omega), k1]
        refine ih u' _ _ _ (k + 1) hu' (mi_tr mu mm rfl rfl) (by omega) (by push_cast at hm; omega) (by rw [d94, h94]; push_cast; rfl) (fun j hj => ?_) hR
        have ck : (u.1 0 94).toNatClampNeg = k := by rw [t_cl]; exact ek
        rw [ck] at d96 d96b
        show (u'.1 96 j).toNatClampNeg = upf c k _ j
        by_cases cj : j = k
        · rw [cj, upf_eq, d96, t_cl, er]; rfl
        · rw [upf_ne cj, d96b j cj]; exact hc j (by omega)
  have p29 : ∀ b : Int32, (b = 0 → 0 ≤ n.toInt ∧ n.toInt ≤ 400) → (¬ b = 0 → ¬ (0 ≤ n.toInt ∧ n.toInt ≤ 400)) → MT G (D + 2) z_draw 29 [(0, vr 0), (1, vi s), (2, vi n)] [vi b, vr 0] y (ri F) := fun b hb hb2 => by
    obtain ⟨b1, b2, b3⟩ := HistC_b hh
    exact sg_draw_29 _ _ _ (sc_ref b 2 hy (by decide) (fun b0 => ⟨fun _ => loop (hb b0).1 (hb b0).2 n.toInt.toNat y s 0 (c96 z) (z.1 0 94).toInt.toNat hhy ⟨fun _ _ => rfl, fun _ _ _ => rfl⟩ (by decide) (by have := (hb b0).1; rw [k0]; omega) (by rw [e94]; omega) (fun j _ => by rw [cy]) eR.symm, fun q => absurd rfl q⟩) (fun nb y' m => ⟨fun q => absurd q (by decide), fun _ => ri_i (h0 (fun z9 => hb2 nb z9.2) y' m)⟩))
  refine sp_in _ _ _ ⟨fun c => p29 0 (fun _ => ?_) (fun z => absurd rfl z), fun c => p29 1 (fun q => absurd q (by decide)) (fun _ z9 => ?_)⟩
  · obtain ⟨c1, c2⟩ := bi_ne.mp c
    rw [t_le, k0] at c1
    rw [t_le, k4] at c2
    exact ⟨c1, c2⟩
  · exact bi_eq.mp c ⟨t_le.mpr (by rw [k0]; exact z9.1), t_le.mpr (by rw [k4]; exact z9.2)⟩
end MFC

theorem st_exMq9 {C : gCo} {w i : Nat} {M : gMa} {a : gd} {ch : gCh} (gc : GC C) (w01 : w = 0 ∨ w = 1) (h : AM C w M a) (hch : (chM C w M)[i]? = some ch) : ∃ b a', RI b (Sl b) ∧ wy01 b ∧ MM1 b C (doM C w M ch) ∧ Tr a i b ∧ AM C w (doM C w M ch) a' ∧ fcA b a' ∧ md [84] [86, 87, 88] b a' := by
  obtain ⟨hN, hX, l6⟩ := gc
  obtain ⟨⟨ri, wy, chv, c0, c84, fa⟩, hK, hM, hI, w68, hE⟩ := h
  have hi : (i : Int) < (a.1 0 84).toInt := by have := gt_lt hch; rw [hE.1]; omega
  obtain ⟨_, _, _, ⟨t0, t6⟩, co⟩ := chv i hi
  have tv : vp_in (a.1 86 i) 6 := by rw [vp_in_iff]; exact ⟨t0, t6⟩
  obtain ⟨e86, e87, e88⟩ := hE.2 i ch hch
  have cm := List.mem_of_getElem? hch
  obtain ⟨i1, i2, i3⟩ := ch_in cm
  have hI' := MIv_do hX l6 hI cm
  have ct : (a.1 86 i).toNatClampNeg = ch.1 := by
    rw [e86, t_cl, Int32.toInt_ofNat_of_lt (by omega)]; rfl
  have st : ∃ b, RI b (Sl b) ∧ wy01 b ∧ MK b C ∧ MM1 b C (doM C w M ch) ∧ b.1 0 68 = Int32.ofNat w ∧ Tr a i b := by
    by_cases c : a.1 87 i = -1
    · have g := co.resolve_right (fun z => by rw [c] at z; exact absurd z.1 (by decide))
      have cn : ch.2.1 = none := by
        cases h9 : ch.2.1 with
        | none => rfl
        | some j =>
          have j8 : j < 9 := by
            have := i3 j h9
            have q := (ri.2 ch.1 (by omega)).2.2.2.1
            have := (hM.2.2 ch.1 (by omega)).2.2.2.2.2.2.2.2.1.1
            omega
          rw [h9] at e87
          rw [e87] at c
          have c : Int32.ofNat j = -1 := c
          have : ∀ n, n < 9 → ¬ Int32.ofNat n = -1 := by decide +kernel
          exact absurd c (this j j8)
      have dE : doM C w M ch = acM C w M ch.1 ch.2.2 := by unfold doM; rw [cn]
      obtain ⟨o, b, S', ⟨eo, rb, ss, as', ap, mb⟩, m, q⟩ := ds_doAct3q9 (d := 0) (wk := ch.2.2) (Fv := fun y S1 => RI y S1 ∧ ssub (Sl a) S1 ∧ acS S1 ∧ acP (srt a (a.1 86 i).toNatClampNeg) y ∧ MM1 y C (acM C w M (a.1 86 i).toNatClampNeg ch.2.2)) (a.1 86 i) (a.1 88 i) tv ri g.2.1 g.2.2 hK hN hX hM (WMw_WM hI.1) w68 w01 (by
        cases h9 : ch.2.2 with
        | none => rw [h9] at e88; exact Or.inl ⟨rfl, e88⟩
        | some k =>
          rw [h9] at e88
          have k6 := (i2 cn).2.2 k h9
          unfold waM at k6
          have := List.mem_range.mp (List.mem_filter.mp k6).1
          exact Or.inr ⟨k, rfl, by omega, e88⟩) (fun y S1 h1 h2 h3 h4 h5 => ⟨h1, h2, h3, h4, h5⟩)
      rw [ct] at mb
      refine ⟨b, RI_Sl rb, by unfold wy01; rw [m.1 68 (by decide)]; exact wy, MK_mdq9 m rfl rfl hK, by rw [dE]; exact mb, by rw [m.1 68 (by decide)]; exact w68, fun _ G z e => MT_mono (q G z e) (fun o2 z' w => ?_), fun n => absurd c n⟩
      rw [w.1, eo]
      refine rv_i ⟨eqS_w (Sl_in rb) w.2.1, w.2.2, ?_⟩
      unfold acP
      rw [w.2.1 0 88 (Or.inr as'.1), w.2.1 0 89 (Or.inr as'.2.1)]
      exact ap
    · have g := co.resolve_left (fun z => c z.1)
      obtain ⟨j, hj⟩ : ∃ j, ch.2.1 = some j := by
        cases h9 : ch.2.1 with
        | none => rw [h9] at e87; exact absurd e87 c
        | some j => exact ⟨j, rfl⟩
      rw [hj] at e87
      have e87 : a.1 87 i = Int32.ofNat j := e87
      have dE : doM C w M ch = laM M ch.1 j := by unfold doM; rw [hj]
      have j8 : j < 9 := by
        have := i3 j hj
        have q := (ri.2 ch.1 (by omega)).2.2.2.1
        have := (hM.2.2 ch.1 (by omega)).2.2.2.2.2.2.2.2.1.1
        omega
      have ej : (a.1 87 i).toInt.toNat = j := by rw [e87, Int32.toInt_ofNat_of_lt (by omega)]; rfl
      obtain ⟨o, b, S', ⟨eo, rb, ss, mb, mm⟩, m, q⟩ := ds_doLate3 (d := 4) (C := C) (M := M) (Fv := fun y S1 => RI y S1 ∧ ssub (Sl a) S1 ∧ md [] [70, 80, 81, 82] a y ∧ MM1 y C (laM M (a.1 86 i).toNatClampNeg (a.1 87 i).toInt.toNat)) (a.1 86 i) (a.1 87 i) tv ri g.1 g.2 hM (fun y S1 h1 h2 h3 h4 => ⟨h1, h2, h3, h4⟩)
      rw [ct, ej] at mm
      refine ⟨b, RI_Sl rb, by unfold wy01; rw [m.1 68 (by decide)]; exact wy, MK_mdq9 m rfl rfl hK, by rw [dE]; exact mm, by rw [m.1 68 (by decide)]; exact w68, fun n => absurd n c, fun _ G z e => MT_mono (q G z e) (fun o2 z' w => ?_)⟩
      rw [w.1, eo]
      exact rv_i ⟨eqS_w (Sl_in rb) w.2.1, w.2.2⟩
  obtain ⟨b, h1, h2, hKb, hMb, wb, h3⟩ := st
  obtain ⟨a', g1, g2, g3, g4⟩ := fc_exMq9 h1 h2 hKb hN hX hMb wb w01 (fun z t ht => (hI'.1 t ht).2.2.2 z)
  exact ⟨b, a', h1, h2, hMb, h3, ⟨g1, MK_mdq9 g3 rfl rfl hKb, MM1_md g3 rfl hMb, hI', by rw [g3.1 68 (by decide)]; exact wb, g4⟩, g2, g3⟩

section TRY3
variable {G : mG} {d D : Nat} {x z a : gd} {F : Int32 → gd → Prop} {Fv : gd → Prop} {C : gCo} {nl wn lim : Nat}
theorem sp_tryAll3q9 (gc : GC C) (hq2 : NCq C) (hLk : LkN C nl) (n6 : nl ≤ 6) (l24 : C.2.2.1.length ≤ 24) (w01n : wn = 0 ∨ wn = 1) (w l : Int32) (ewn : w = Int32.ofNat wn) (wv : vp_in w 2) (cp : CP z) (hKz : MK z C) (l26 : (z.1 0 26).toInt = (C.2.2.2.1.length : Nat)) (l27 : (z.1 0 27).toInt = (C.2.2.2.2.length : Nat)) (hw : z.1 0 68 = w) (el : l.toInt = (lim : Nat)) (l1 : 1 ≤ l.toInt) (l3 : l.toInt ≤ 3000) (hD : 7 ≤ D) (h : ∀ (A : Nat → gd) (y : gd), (tryM C wn lim).1.length ≤ 3000 → TI z w.toNatClampNeg A (tryM C wn lim).1.length y → TJ C nl wn A w.toNatClampNeg (tryM C wn lim) y → Fv y) : MT G D z_tryAll 0 [(0, vr 0), (1, vi w), (2, vi l)] [] z (rv Fv) := by
  obtain ⟨D, rfl⟩ : ∃ D', D = D' + 2 := ⟨D - 2, by omega⟩
  have hN := gc.1
  have hX := gc.2.1
  have l6 := gc.2.2
  have b1n : vp_nar .boolean 1 = 1 := by decide
  have k0 : (0 : Int32).toInt = 0 := rfl
  have k1 : (1 : Int32).toInt = 1 := rfl
  have k24 : (240 : Int32).toInt = 240 := rfl
  have k40 : (4096 : Int32).toInt = 4096 := rfl
  have k3 : (3000 : Int32).toInt = 3000 := rfl
  have nb1 : ¬ vp_nar .boolean 1 = 0 := by decide
  obtain ⟨W, eW⟩ : ∃ W, W = w.toNatClampNeg := ⟨_, rfl⟩
  have W2 : W < 2 := by rw [eW]; exact vp_lt wv
  have wb := vp_in_iff.mp wv
  have cw := cl_i wb.1
  rw [← eW] at h cw
  have e32 : w32 W = w := by
    unfold w32
    by_cases q : W = 0
    · rw [if_pos q]; exact t_eq.mpr (by rw [k0]; omega)
    · rw [if_neg q]; exact t_eq.mpr (by rw [k1]; omega)
  have w01 : w = 0 ∨ w = 1 := by rw [← e32]; exact w32_01 W
  obtain ⟨a0, am0, av0, e68, pa0, st0, b0, mb0, first⟩ := start_exMq9 cp hKz hN hX w01n w ewn w01
  -- a row unpacked
  have unp : ∀ (A : Nat → gd) (M f : Nat) (y : gd) (i : Int32) (Fq : gd → Prop), M ≤ 3000 → f < M → i.toInt = f → TI z W A M y → (∀ y', TI z W A M y' → md [] uA y y' → eqS (Sl (A f)) (A f) y' → Fq y') → MT G (D + 1) z_unpack 0 [(0, vr 0), (1, vr 133), (2, vi (240 * i))] [] y (rv Fq) := by
    intro A M f y i Fq hM hf hi q hq
    have b1 : (240 * i).toInt = 240 * i.toInt := by rw [t_mul (by rw [k24]; omega) (by rw [k24]; omega), k24]
    have cb : (240 * i).toNatClampNeg = 240 * f := by have := cl_i (a := 240 * i) (by omega); omega
    refine sp_unpack (Or.inl rfl) mk_133 ml_133 (240 * i) (by omega) (by omega) (by omega) (fun y' m' r' => ?_)
    rw [cb] at r'
    have q' := TI_mi q (mi_of m') rfl rfl rfl
    obtain ⟨p1, p2⟩ := q.2.2.2.2.2.2.2.2 f hf
    have rr := (q.2.2.2.2.2.2.1 f hf).2
    have av := (q.2.2.2.2.2.2.1 f hf).1.1
    refine hq y' q' m' (un_eq ?_ ?_ (fun t ht => ((av.1).2 t ht).2.2.2.1) (fun k hk => by rw [r' k hk, rr k hk]))
    · exact prE_tr (prE_sy p1) (prE_mi (prE_rf z) q'.1 rfl rfl)
    · rw [q'.1.1 68 (by decide), p2]
  have p320 : ∀ (A : Nat → gd) (T : gTy) (y : gd), T = tryM C wn lim → T.1.length ≤ 3000 → TI z W A T.1.length y → TJ C nl wn A W T y → MT G (D + 2) z_tryAll 320 [(0, vr 0), (1, vi w)] [] y (rv Fv) := by
    intro A T y eT hM q qj
    subst eT
    exact sg_tryAll_320 _ (sp_sortOutcomes w wv (by rw [← eW]; exact q.2.2.2.1) (by rw [← eW]; have := q.2.2.2.2.1; omega) (fun y' m' => rv_i (h A y' hM (TI_mi q (mi_of m') rfl rfl rfl) (TJ_mi (mi_of m') rfl qj))))
  have p75 : ∀ (n : Nat) (A : Nat → gd) (T : gTy) (y : gd) (f : Int32), 0 ≤ f.toInt → f.toInt ≤ 3000 → 3000 - f.toInt ≤ n → 1 ≤ T.1.length → (T.1.length : Int) ≤ l.toInt → TI z W A T.1.length y → TJ C nl wn A W T y → (y.1 121 W = 0 → hcR y T.1.length) → bfS C wn lim (3001 - f.toNatClampNeg) f.toNatClampNeg T = tryM C wn lim → MT G (D + 2) z_tryAll 75 [(0, vr 0), (1, vi w), (2, vi l), (4, vi f)] [] y (rv Fv) := by
    intro n
    induction n with
    | zero =>
      intro A T y f f0 f3 hn M1 Ml q qj hs hb
      obtain ⟨M, eM⟩ : ∃ M, M = T.1.length := ⟨_, rfl⟩
      have e120 := q.2.2.1
      have cf0 := cl_i f0
      rw [← eM] at e120 M1 Ml
      refine sg_tryAll_75 _ _ _ ⟨wv, ?_⟩
      rw [← eW, e120]
      exact ⟨fun _ => p320 A T y ((bfS_end (List.getElem?_eq_none (by omega))).symm.trans hb) (by omega) q qj, fun c => absurd (t_le.mpr (by rw [ofN (by omega)]; omega)) c⟩
    | succ n ih =>
      intro A T y f f0 f3 hn M1 Ml q qj hs hb
      obtain ⟨M, eM⟩ : ∃ M, M = T.1.length := ⟨_, rfl⟩
      have e120 := q.2.2.1
      have cf0 := cl_i f0
      rw [← eM] at e120 M1 Ml
      refine sg_tryAll_75 _ _ _ ⟨wv, ?_⟩
      rw [← eW, e120]
      refine ⟨fun c => p320 A T y ((bfS_end (List.getElem?_eq_none (by rw [t_le, ofN (by omega)] at c; omega))).symm.trans hb) (by omega) q qj, fun c => ⟨wv, fun np => p320 A T y ((bfS_p ?_ _ _).symm.trans hb) (by omega) q qj, fun np => ?_⟩⟩
      · apply Classical.byContradiction
        intro c9
        have := qj.2.2.1
        rw [if_neg c9] at this
        exact np this
      rw [t_le, ofN (by omega)] at c
      have hs := hs np
      have cf := cl_i f0
      obtain ⟨fn, efn⟩ : ∃ fn, fn = f.toNatClampNeg := ⟨_, rfl⟩
      rw [← efn] at cf hb
      have fM : fn < T.1.length := by omega
      obtain ⟨p, hp⟩ : ∃ p, T.1[fn]? = some p := ⟨_, List.getElem?_eq_getElem fM⟩
      rw [show 3001 - fn = (3000 - fn) + 1 by omega, bfS_go hp] at hb
      obtain ⟨amf, mcf, nbf⟩ := qj.1 fn p hp
      have fi : (f + 1).toInt = f.toInt + 1 := by rw [t_add (by omega) (by omega), k1]
      have fi1 : (f + 1).toNatClampNeg = fn + 1 := by have := cl_i (a := f + 1) (by omega); omega
      refine unp A T.1.length fn y f _ (by omega) fM (by omega) q (fun y5 q5 m5 eq5 => ?_)
      have avf := (q5.2.2.2.2.2.2.1 fn (by omega)).1.1
      refine MT_up (by omega) (MTv_mono (avf.2.2.2.2.2 G y5 eq5) (fun y6 g6 => ?_))
      have q6 := TI_mi q5 (mi_of g6.2) rfl rfl rfl
      have e84 : y6.1 0 84 = (A fn).1 0 84 := g6.1 0 84 (Or.inr (Or.inl ⟨rfl, rfl⟩))
      have hs6 := hcR_mi (mi_of g6.2) rfl (hcR_mi (mi_of m5) rfl hs)
      have qj6 := TJ_mi (mi_of g6.2) rfl (TJ_mi (mi_of m5) rfl qj)
      have c84 := avf.2.2.2.2.1
      have c840 := avf.2.2.2.1
      obtain ⟨C84, eC⟩ : ∃ C, C = (A fn).1 0 84 := ⟨_, rfl⟩
      have eL := AM_n amf
      rw [e84, ← eC]
      rw [← eC] at c84 c840 eL
      -- the choices of this state
      have p122 : ∀ (m : Nat) (A2 : Nat → gd) (u : gd) (i : Int32), 0 ≤ i.toInt → i.toInt ≤ C84.toInt → C84.toInt - i.toInt ≤ m → ((onS C wn lim fn p.1 i.toNatClampNeg T).1.length : Int) ≤ l.toInt → A2 fn = A fn → TI z W A2 (onS C wn lim fn p.1 i.toNatClampNeg T).1.length u → TJ C nl wn A2 W (onS C wn lim fn p.1 i.toNatClampNeg T) u → (u.1 121 W = 0 → hcR u (onS C wn lim fn p.1 i.toNatClampNeg T).1.length) → MT G (D + 2) z_tryAll 122 [(0, vr 0), (1, vi w), (2, vi l), (4, vi f), (5, vi C84), (6, vi i)] [] u (rv Fv) := by
        intro m
        induction m with
        | zero =>
          intro A2 u i i0 iC hm ml ea qu quj hu
          have ci := cl_i i0
          have pre := (onS_pre (C := C) (w := wn) (lim := lim) (M := p.1) fM fn i.toNatClampNeg).2
          exact sg_tryAll_122 _ _ _ _ _ ⟨fun _ => ih A2 _ u (f + 1) (by omega) (by omega) (by omega) (by omega) ml qu quj hu (by rw [fi1, show 3001 - (fn + 1) = 3000 - fn by omega, show i.toNatClampNeg = (chM C wn p.1).length by omega]; exact hb), fun c => absurd (t_le.mpr (by omega)) c⟩
        | succ m ihm =>
          intro A2 u i i0 iC hm ml ea qu quj hu
          have ci := cl_i i0
          obtain ⟨j, ej⟩ : ∃ j, j = i.toNatClampNeg := ⟨_, rfl⟩
          obtain ⟨pr1, pre⟩ := onS_pre (C := C) (w := wn) (lim := lim) (M := p.1) fM fn j
          rw [← ej] at ml qu quj hu ci
          obtain ⟨T2, eT2⟩ : ∃ T2, T2 = onS C wn lim fn p.1 j T := ⟨_, rfl⟩
          rw [← eT2] at pr1 pre ml qu quj hu
          have nxt : onS C wn lim fn p.1 (chM C wn p.1).length T = T2 → MT G (D + 2) z_tryAll 75 [(0, vr 0), (1, vi w), (2, vi l), (4, vi (f + 1))] [] u (rv Fv) := fun e9 => ih A2 T2 u (f + 1) (by omega) (by omega) (by omega) (by omega) ml qu quj hu (by rw [fi1, show 3001 - (fn + 1) = 3000 - fn by omega, ← e9]; exact hb)
          refine sg_tryAll_122 _ _ _ _ _ ⟨fun c => nxt (by rw [t_le] at c; rw [eT2, show j = (chM C wn p.1).length by omega]), fun c => ⟨wv, ?_⟩⟩
          rw [t_le] at c
          rw [← eW]
          have e121u := quj.2.2.1
          refine ⟨fun np => nxt (by
            have pt : (onS C wn lim fn p.1 j T).2 = true := by
              apply Classical.byContradiction
              intro c9
              rw [← eT2] at c9
              rw [if_neg c9] at e121u
              exact np e121u
            rw [eT2]
            exact onS_stop pt _ (by omega)), fun np => ?_⟩
          have hu := hu np
          have pf : ¬ (onS C wn lim fn p.1 j T).2 = true := fun z9 => by
            rw [← eT2] at z9
            rw [if_pos z9] at e121u
            rw [e121u] at np
            exact absurd np (by decide)
          have jl : j < (chM C wn p.1).length := by omega
          obtain ⟨ch, hch⟩ : ∃ ch, (chM C wn p.1)[j]? = some ch := ⟨_, List.getElem?_eq_getElem jl⟩
          have hgo := onS_go (lim := lim) (k := fn) pf hch
          rw [← eT2] at hgo
          obtain ⟨M2, eM2⟩ : ∃ M2, M2 = T2.1.length := ⟨_, rfl⟩
          have fm : fn < M2 := by omega
          have m1 : 1 ≤ M2 := by omega
          rw [← eM2] at ml qu hu
          have iv : vp_in i 200 := by rw [vp_in_iff]; omega
          have ii : (i + 1).toInt = i.toInt + 1 := by rw [t_add (by omega) (by omega), k1]
          have ii1 : (i + 1).toNatClampNeg = j + 1 := by have := cl_i (a := i + 1) (by omega); omega
          refine unp A2 M2 fn u f _ (by omega) fm (by omega) qu (fun u4 q4 m4' eq4 => ?_)
          rw [ea] at eq4
          refine MT_up (by omega) (MTv_mono (avf.2.2.2.2.2 G u4 eq4) (fun u5 g5 => ?_))
          have q5' := TI_mi q4 (mi_of g5.2) rfl rfl rfl
          have hu5 := hcR_mi (mi_of g5.2) rfl (hcR_mi (mi_of m4') rfl hu)
          have quj5 := TJ_mi (mi_of g5.2) rfl (TJ_mi (mi_of m4') rfl quj)
          have p5' : u5.1 121 W = 0 := by rw [g5.2.2.1 121 (by decide) (by decide), m4'.2.1 121 (by decide) (by decide)]; exact np
          have lt84 : ((i.toNatClampNeg : Nat) : Int) < ((A fn).1 0 84).toInt := by rw [← eC]; omega
          obtain ⟨b, a', rb, wyb, mmb, trb, am', fb, mb⟩ := st_exMq9 gc w01n amf (i := i.toNatClampNeg) (by rw [← ej]; exact hch)
          have av' := am'.1
          have cmem := List.mem_of_getElem? hch
          have lbI : (C.2.2.1.length : Int) < 2147483648 := by omega
          have mc' : MCn C nl (doM C wn p.1 ch) := MCn_do hN hX hLk lbI l6 mcf amf.2.2.2.1 cmem
          have nb' : NBm (doM C wn p.1 ch) := NBm_do nbf
          obtain ⟨u86, u87, u88, _, _⟩ := avf.2.2.1 i.toNatClampNeg lt84
          have e86 := g5.1 _ _ (Or.inr u86)
          have e87 := g5.1 _ _ (Or.inr u87)
          have e88 := g5.1 _ _ (Or.inr u88)
          have el5 : eqS (Sl (A fn)) (A fn) u5 := eqS_w (Sl_Sm _) g5.1
          rw [e86, e87, e88]
          -- the state come to: is it new?
          have p206 : ∀ v : gd, eqS (Sl b) b v → md rL rA u5 v → MT G (D + 2) z_tryAll 206 [(0, vr 0), (1, vi w), (2, vi l), (4, vi f), (5, vi C84), (6, vi i)] [] v (rv Fv) := by
            intro v ev mv
            have qv := TI_mi q5' (mi_of mv) rfl rfl rfl
            have hv := hcR_mi (mi_of mv) rfl hu5
            have qvj := TJ_mi (mi_of mv) rfl quj5
            have pv0 : v.1 121 W = 0 := by rw [mv.2.1 121 (by decide) (by decide)]; exact p5'
            have kept : ∀ s, s < T2.1.length → ((∀ k, k < 222 → v.1 133 (240 * s + k) = pv b k) ↔ ∃ p9, T2.1[s]? = some p9 ∧ p9.1 = doM C wn p.1 ch) := fun s hs9 => row_kept hN l24 l6 n6 (A := A2) (fun s p9 h9 => ⟨(qvj.1 s p9 h9).1.2.2.1, (qvj.1 s p9 h9).2⟩) (fun s hs8 => (qv.2.2.2.2.2.2.1 s (by omega)).2) mmb mc' nb' (fun t ht => (rb.2 t ht).2.2.2.1) hs9
            have e120 := qv.2.2.1
            have oM := ofN (M := M2) (by omega)
            refine sg_tryAll_206 _ _ _ _ _ (sp_seek3 w wv (m := M2) (by rw [← eW, e120, oM]) (by omega) hv.1 hv.2 (fun t ht => by rw [cA ev (c := 80) (n := 6) (by decide) ht]; exact (rb.2 t ht).2.2.2.1) (fun r v1 mv1 lo alt => ⟨wv, ?_⟩))
            rw [← eW, e120] at alt
            have cM : (Int32.ofNat M2).toNatClampNeg = M2 := by have := cl_i (a := Int32.ofNat M2) (by omega); omega
            have mv1' : mi [136] [133, 134, 135] v v1 := mi_of mv1
            have qv1j := TJ_mi mv1' rfl qvj
            have e120' : v1.1 120 W = Int32.ofNat M2 := by rw [mv1.2.1 120 (by decide) (by decide), e120]
            have e121' : v1.1 121 W = 0 := by rw [mv1.2.1 121 (by decide) (by decide)]; exact pv0
            -- the rows before stay
            have qv1 : TI z W A2 M2 v1 := by
              obtain ⟨t1, t2, t3, t4, t5, t6, t7, t8, t9⟩ := qv
              have g := fun k (h0 : k ≠ 0) hk => mv1.2.1 k h0 hk
              refine ⟨mi_tr t1 (mi_of mv1) rfl rfl, ow_tr t2 (ow_mi (mi_of mv1) rfl), e120', by rw [g 123 (by decide) (by decide)]; exact t4, by rw [g 123 (by decide) (by decide)]; exact t5, ?_, fun s hs2 => ⟨?_, fun k hk => ?_⟩, t8, t9⟩
              · unfold fnd
                rw [g 126 (by decide) (by decide)]
                exact t6
              · have r9 := (t7 s hs2).1
                unfold TN at r9 ⊢
                rw [g 130 (by decide) (by decide), g 131 (by decide) (by decide), g 132 (by decide) (by decide)]
                exact r9
              · rw [lo _ (by omega)]
                exact (t7 s hs2).2 k hk
            rw [← eW, e120']
            have nx : ∀ (A3 : Nat → gd) (T3 : gTy) (u : gd), adS lim fn j T2 (doM C wn p.1 ch) = T3 → (T3.1.length : Int) ≤ l.toInt → A3 fn = A fn → TI z W A3 T3.1.length u → TJ C nl wn A3 W T3 u → (u.1 121 W = 0 → hcR u T3.1.length) → MT G (D + 2) z_tryAll 122 [(0, vr 0), (1, vi w), (2, vi l), (4, vi f), (5, vi C84), (6, vi (i + 1))] [] u (rv Fv) := fun A3 T3 u eT3 h2 h4 h5 h5j h6 => by
              have e9 : onS C wn lim fn p.1 (i + 1).toNatClampNeg T = T3 := by rw [ii1, hgo]; exact eT3
              exact ihm A3 u (i + 1) (by omega) (by omega) (by omega) (by rw [e9]; exact h2) h4 (by rw [e9]; exact h5) (by rw [e9]; exact h5j) (by rw [e9]; exact h6)
            rcases alt with ⟨er, row, hsn, hcn, hno⟩ | ⟨s9, r0, r1, hso, hco, hyes⟩
            rotate_left
            · have old : ∃ q ∈ T2.1, q.1 = doM C wn p.1 ch := kept_old kept (s := s9) (by omega) (fun k hk => by rw [hyes k hk]; exact pv_eq ev hk)
              refine ⟨fun _ => nx A2 T2 v1 (adS_old old) (by rw [← eM2]; exact ml) ea (by rw [← eM2]; exact qv1) qv1j (fun _ => by rw [← eM2]; exact ⟨hso, hco⟩), fun er => ?_⟩
              rw [er, oM] at r1
              omega
            have new : ¬ ∃ q ∈ T2.1, q.1 = doM C wn p.1 ch := kept_new kept (fun s hs9 h9 => hno s (by omega) (fun k hk => by rw [h9 k hk]; exact (pv_eq ev hk).symm))
            refine ⟨fun ne => absurd er ne, fun _ => ⟨fun nl' => ?_, fun el' => ⟨wv, fun v18 e18 => ?_⟩⟩⟩
            rotate_left
            · -- the limit
              have m18 := md_a v1 121 W (vp_nar .boolean 1) (by decide)
              rw [← e18] at m18
              have e121n : v18.1 121 W = 1 := by rw [e18, si_get, if_pos ⟨rfl, rfl⟩]; exact b1n
              have full : lim ≤ T2.1.length := by
                rw [er] at el'
                have := t_eq.mp el'
                rw [oM] at this
                omega
              obtain ⟨g1, g2, g3, g4⟩ := qv1j
              refine nx A2 (T2.1, true) v18 (adS_full new full) (by show (T2.1.length : Int) ≤ _; rw [← eM2]; exact ml) ea (by show TI z W A2 T2.1.length v18; rw [← eM2]; exact TI_mi qv1 (mi_of m18) rfl rfl rfl) ⟨g1, ?_, ?_, ?_⟩ (fun q9 => ?_)
              · rw [m18.2.1 126 (by decide) (by decide)]; exact FN3_T (T := T2) (fun _ _ => rfl) g2
              · exact e121n
              · rw [m18.2.1 130 (by decide) (by decide), m18.2.1 131 (by decide) (by decide)]; exact g4
              · rw [e121n] at q9
                exact absurd q9 (by decide)
            -- a new state
            have Ml' : (M2 : Int) < l.toInt := by
              by_cases q9 : (M2 : Int) = l.toInt
              · exact absurd (by rw [er]; exact t_eq.mpr (by rw [oM]; exact q9)) nl'
              · omega
            have rv2 := tmul (k := 3000) (K := 3000) (N := 6000) (n := 3000) (i := r) rfl wv (by rw [er, oM]; omega) (by rw [er, oM]; omega) (by omega) (by omega) (by omega)
            have fv2 := tmul (k := 3000) (K := 3000) (N := 6000) (n := 3000) (i := f) rfl wv f0 (by omega) (by omega) (by omega) (by omega)
            rw [← eW, ← efn] at fv2
            rw [← eW, er, cM] at rv2
            rw [er, rv2.2, fv2.2]
            refine ⟨rv2.1, fun v7 e7 => ⟨rv2.1, fun v9 e9 => ⟨fv2.1, rv2.1, fun v12 e12 => ⟨wv, wv, fun v15 e15 => ?_⟩⟩⟩⟩
            have m7 := md_a v1 130 (3000 * W + M2) f (by decide)
            rw [← e7] at m7
            have m9 := md_a v7 131 (3000 * W + M2) i (by decide)
            rw [← e9] at m9
            have m12 := md_a v9 132 (3000 * W + M2) (v9.1 132 (3000 * W + fn) + 1) (by decide)
            rw [← e12] at m12
            have f120 : v12.1 120 W = Int32.ofNat M2 := by rw [m12.2.1 120 (by decide) (by decide), m9.2.1 120 (by decide) (by decide), m7.2.1 120 (by decide) (by decide), e120']
            rw [f120] at e15
            have m15 := md_a v12 120 W (Int32.ofNat M2 + 1) (by decide)
            rw [← e15] at m15
            have MM : md [] [120, 130, 131, 132] v1 v15 := md_tr (md_tr (L3 := []) (A3 := [130, 131, 132]) (md_tr (L3 := []) (A3 := [130, 131]) m7 m9 rfl rfl) m12 rfl rfl) m15 rfl rfl
            have o12 : ow W v1 v15 := by
              refine ow_tr (y := v12) (ow_tr (y := v9) (ow_tr (y := v7) ?_ ?_) ?_) ?_
              · rw [e7]; exact ow_si W2 (Or.inr (Or.inr ⟨Or.inl rfl, M2, by omega, rfl⟩))
              · rw [e9]; exact ow_si W2 (Or.inr (Or.inr ⟨Or.inr (Or.inl rfl), M2, by omega, rfl⟩))
              · rw [e12]; exact ow_si W2 (Or.inr (Or.inr ⟨Or.inr (Or.inr rfl), M2, by omega, rfl⟩))
              · rw [e15]; exact ow_si W2 (Or.inl ⟨Or.inl rfl, rfl⟩)
            have g120 : v15.1 120 W = Int32.ofNat (M2 + 1) := by
              rw [e15, si_get, if_pos ⟨rfl, rfl⟩]
              refine t_eq.mpr ?_
              rw [t_add (by omega) (by omega), oM, k1, ofN (by omega)]; omega
            have h130 : ∀ s : Nat, ¬ s = M2 → v15.1 130 (3000 * W + s) = v1.1 130 (3000 * W + s) := fun s hs2 => by rw [e15, si_cell (by decide), e12, si_cell (by decide), e9, si_cell (by decide), e7, si_ne 130 _ (by omega)]
            have h131 : ∀ s : Nat, ¬ s = M2 → v15.1 131 (3000 * W + s) = v1.1 131 (3000 * W + s) := fun s hs2 => by rw [e15, si_cell (by decide), e12, si_cell (by decide), e9, si_ne 131 _ (by omega), e7, si_cell (by decide)]
            have h132 : ∀ s : Nat, ¬ s = M2 → v15.1 132 (3000 * W + s) = v1.1 132 (3000 * W + s) := fun s hs2 => by rw [e15, si_cell (by decide), e12, si_ne 132 _ (by omega), e9, si_cell (by decide), e7, si_cell (by decide)]
            have i130 : v15.1 130 (3000 * W + M2) = f := by rw [e15, si_cell (by decide), e12, si_cell (by decide), e9, si_cell (by decide), e7, si_get, if_pos ⟨rfl, rfl⟩]
            have i131 : v15.1 131 (3000 * W + M2) = i := by rw [e15, si_cell (by decide), e12, si_cell (by decide), e9, si_get, if_pos ⟨rfl, rfl⟩]
            have i132 : v15.1 132 (3000 * W + M2) = v1.1 132 (3000 * W + fn) + 1 := by rw [e15, si_cell (by decide), e12, si_get, if_pos ⟨rfl, rfl⟩, e9, si_cell (by decide), e7, si_cell (by decide)]
            have j133 : v15.1 133 = v1.1 133 := MM.2.1 133 (by decide) (by decide)
            obtain ⟨A3, eA3⟩ : ∃ A3 : Nat → gd, A3 = fun s => if s = M2 then a' else A2 s := ⟨_, rfl⟩
            have A3n : ∀ s : Nat, ¬ s = M2 → A3 s = A2 s := fun s hs2 => by rw [eA3]; simp only [if_neg hs2]
            have A3m : A3 M2 = a' := by rw [eA3]; simp only [if_pos]
            have eva : eqS (Sl a') a' v := sl_sw mb ev
            -- the chain of far stays small
            have farb : ∀ s : Nat, s < M2 → 0 ≤ (v1.1 132 (3000 * W + s)).toInt ∧ (v1.1 132 (3000 * W + s)).toInt ≤ s := by
              intro s
              induction s using Nat.strongRecOn with
              | ind s ihs =>
                intro hs2
                obtain ⟨_, t2, t3, t4⟩ := (qv1.2.2.2.2.2.2.1 s hs2).1
                refine ⟨t2, ?_⟩
                by_cases q9 : s = 0
                · have := t3 q9; omega
                · obtain ⟨p, p1, p2, p3, _⟩ := t4 (by omega)
                  have := (ihs p p1 (by omega)).2
                  omega
            have ff := farb fn fm
            have j132 : (v15.1 132 (3000 * W + M2)).toInt = (v1.1 132 (3000 * W + fn)).toInt + 1 := by rw [i132, t_add (by omega) (by omega), k1]
            have q15 : TI z W A3 (M2 + 1) v15 := by
              obtain ⟨t1, t2, t3, t4, t5, t6, t7, t8, t9⟩ := qv1
              refine ⟨mi_tr t1 (mi_of MM) rfl rfl, ow_tr t2 o12, g120, by rw [MM.2.1 123 (by decide) (by decide)]; exact t4, by rw [MM.2.1 123 (by decide) (by decide)]; omega, ?_, fun s hs2 => ?_, ?_, fun s hs2 => ?_⟩
              · unfold fnd at t6 ⊢
                rw [MM.2.1 126 (by decide) (by decide)]
                exact fun g hg => (t6 g hg).imp id (fun w => by omega)
              · by_cases q9 : s = M2
                · rw [q9]
                  refine ⟨⟨by rw [A3m]; exact av', by omega, fun z9 => by omega, fun _ => ⟨fn, fm, by rw [i130]; omega, ?_, by rw [i131]; exact i0, ?_, ?_⟩⟩, fun k hk => ?_⟩
                  · rw [h132 fn (by omega)]; exact j132
                  · rw [i131, A3n fn (by omega), ea, ← eC]; omega
                  · rw [i131, A3n fn (by omega), ea, A3m]; exact ⟨b, trb, fb⟩
                  · rw [A3m, j133, row k hk]; exact pv_eq eva hk
                · obtain ⟨⟨u1, u2, u3, u4⟩, u5'⟩ := t7 s (by omega)
                  refine ⟨⟨by rw [A3n s q9]; exact u1, by rw [h132 s q9]; exact u2, by rw [h132 s q9]; exact u3, fun z9 => ?_⟩, fun k hk => by rw [A3n s q9, j133]; exact u5' k hk⟩
                  obtain ⟨p, p1, p2, p3, p4, p5, p6⟩ := u4 z9
                  refine ⟨p, p1, by rw [h130 s q9]; exact p2, by rw [h132 s q9, h132 p (by omega)]; exact p3, by rw [h131 s q9]; exact p4, by rw [h131 s q9, A3n p (by omega)]; exact p5, by rw [h131 s q9, A3n p (by omega), A3n s q9]; exact p6⟩
              · rw [A3n 0 (by omega)]; exact t8
              · by_cases q9 : s = M2
                · rw [q9, A3m]
                  have pz : prE z v := prE_mi (prE_rf z) qv.1 rfl rfl
                  have pav : prE a' v := prE_eqS eva
                  refine ⟨prE_tr pz (prE_sy pav), ?_⟩
                  rw [← cF eva (k := 68) (by decide), qv.1.1 68 (by decide)]
                · rw [A3n s q9]; exact t9 s (by omega)
            have e15s : eqS (Sl a') a' v15 := eqS_mi eva (mi_tr (L3 := [136]) (A3 := [133, 134, 135, 120, 130, 131, 132]) (mi_of mv1) (mi_of MM) rfl rfl) rfl rfl (Sl_Sm a')
            have o15 := q15.2.2.2.1
            have o15b : (v15.1 123 W).toInt ≤ M2 := by rw [MM.2.1 123 (by decide) (by decide)]; exact qv1.2.2.2.2.1
            have pa' : prE z a' := by have := (q15.2.2.2.2.2.2.2.2 M2 (by omega)).1; rw [A3m] at this; exact this
            refine sp_look3 hN hX hq2 w01n w (Int32.ofNat M2) wv am' (by rw [pa'.1 26 (by decide)]; exact l26) (by rw [pa'.1 27 (by decide)]; exact l27) e15s (by omega) (M := ((M2 + 1 : Nat) : Int)) (by omega) (by rw [← eW]; exact q15.2.2.2.2.2.1) (by rw [← eW]; exact o15) (by rw [← eW]; omega) (by omega) (fun v16 k16 fa16 => ?_)
            rw [← eW] at k16 fa16
            obtain ⟨n1, n2, n3, n4, n5, n6⟩ := k16
            have g := fun k (h0 : k ≠ 0) hk => n1.2 k h0 hk
            have hl3 : ((T2.1 ++ [(doM C wn p.1 ch, fn, j)], T2.2) : gTy).1.length = M2 + 1 := by
              show (T2.1 ++ _).length = _
              rw [List.length_append, List.length_singleton, ← eM2]
            refine nx A3 (T2.1 ++ [(doM C wn p.1 ch, fn, j)], T2.2) v16 (adS_new new (by omega)) (by rw [hl3]; omega) (by rw [A3n fn (by omega)]; exact ea) ?_ ?_ (fun _ => ?_)
            rotate_left
            · refine TJ_ad (y' := v15) (v := Int32.ofNat M2) qv1j (fun s hs9 => A3n s (by omega)) (by rw [← eM2, A3m]; exact am') mc' nb' ?_ (MM.2.1 126 (by decide) (by decide)) (fun s hs9 => ?_) (fun s hs9 => ?_) ?_ ?_ (by rw [oM, eM2]) fa16
              · rw [g 121 (by decide) (by decide), MM.2.1 121 (by decide) (by decide)]
              · rw [g 130 (by decide) (by decide)]; exact h130 s (by omega)
              · rw [g 131 (by decide) (by decide)]; exact h131 s (by omega)
              · rw [← eM2, g 130 (by decide) (by decide), i130]; omega
              · rw [← eM2, g 131 (by decide) (by decide), i131]; omega
            rotate_left
            · rw [hl3]
              obtain ⟨t1, t2, t3, t4, t5, t6, t7, t8, t9⟩ := q15
              refine ⟨mi_tr t1 n1 rfl rfl, ow_tr t2 n3, by rw [g 120 (by decide) (by decide)]; exact t3, n5, by omega, n4, fun s hs2 => ?_, t8, t9⟩
              have r9 := t7 s hs2
              unfold TR TN at r9 ⊢
              rw [g 130 (by decide) (by decide), g 131 (by decide) (by decide), g 132 (by decide) (by decide), g 133 (by decide) (by decide)]
              exact r9
            · rw [hl3]
              refine hcR_f (y := v1) ?_ ?_ (fun s k _ _ => ?_) ⟨by push_cast; exact hsn, hcn⟩
              · rw [g 134 (by decide) (by decide), MM.2.1 134 (by decide) (by decide)]
              · rw [g 135 (by decide) (by decide), MM.2.1 135 (by decide) (by decide)]
              · rw [g 133 (by decide) (by decide), j133]
          refine ⟨iv, fun cl => ⟨iv, iv, ?_⟩, fun cl => ⟨iv, iv, ?_⟩⟩
          · exact MT_up (by omega) (MTv_mono (trb.1 cl G u5 el5) (fun v q9 => p206 v q9.1 q9.2.1))
          · exact MT_up (by omega) (MTv_mono (trb.2 cl G u5 el5) (fun v q9 => p206 v q9.1 q9.2))
      have z00 : (0 : Int32).toNatClampNeg = 0 := rfl
      exact p122 84 A y6 0 (by decide) (by rw [k0]; omega) (by rw [k0]; omega) (by rw [z00]; show (T.1.length : Int) ≤ _; rw [← eM]; exact Ml) rfl (by rw [z00]; exact q6) (by rw [z00]; exact qj6) (fun _ => by rw [z00]; exact hs6)
  -- the beginning
  refine sg_tryAll_0 _ _ (sp_forgetTrying w wv (fun y1 m1 o1 n120 n121 n123 nf => ?_))
  rw [← eW] at o1 n120 n121 n123 nf
  have loop : ∀ (n : Nat) (y : gd) (i : Int32), 0 ≤ i.toInt → i.toInt ≤ 4096 → 4096 - i.toInt ≤ n → md [] [135] y1 y → (∀ k : Nat, (k : Int) < i.toInt → y.1 135 k = -1) → MT G (D + 2) z_tryAll 7 [(0, vr 0), (1, vi w), (2, vi l), (3, vi i)] [] y (rv Fv) := by
    have last : ∀ y : gd, md [] [135] y1 y → (∀ k : Nat, k < 4096 → y.1 135 k = -1) → MT G (D + 1) z_setFirst 0 [(0, vr 0)] [] y (rv (fun x2 => MT G (D + 1) z_seek 0 [(0, vr 0), (1, vi w)] [] x2 (ri (fun r4 x3 => vp_in w 2 ∧ (∀ x6 : gd, x6 = si x3 120 (w : Int32).toNatClampNeg 1 → vp_in (3000 * w) 6000 ∧ (∀ x8 : gd, x8 = si x6 130 (3000 * w : Int32).toNatClampNeg (-1) → vp_in (3000 * w) 6000 ∧ (∀ x10 : gd, x10 = si x8 132 (3000 * w : Int32).toNatClampNeg 0 → MT G (D + 1) z_look 0 [(0, vr 0), (1, vi w), (2, vi 0)] [] x10 (rv (fun x11 => MT G (D + 2) z_tryAll 75 [(0, vr 0), (1, vi w), (2, vi l), (4, vi 0)] [] x11 (rv Fv))))))))))  := by
      intro y my hh
      have mzy : mi [] [120, 121, 122, 123, 124, 125, 126, 127, 128, 135] z y := mi_tr (mi_of m1) (mi_of my) rfl rfl
      have py : prE z y := prE_mi (prE_rf z) mzy rfl rfl
      have wy' : y.1 0 68 = w := by rw [mzy.1 68 (by decide)]; exact hw
      refine MTv_mono (first G (D + 1) y (by omega) py wy') (fun y2 g2 => ?_)
      have e2 : eqS (Sl a0) a0 y2 := sl_sw mb0 g2.1
      have y120 : y2.1 120 W = 0 := by rw [g2.2.2.1 120 (by decide) (by decide), my.2.1 120 (by decide) (by decide)]; exact n120
      have y121 : y2.1 121 W = 0 := by rw [g2.2.2.1 121 (by decide) (by decide), my.2.1 121 (by decide) (by decide)]; exact n121
      have y123 : y2.1 123 W = 0 := by rw [g2.2.2.1 123 (by decide) (by decide), my.2.1 123 (by decide) (by decide)]; exact n123
      have y126 : ∀ f : Nat, f < 11 → y2.1 126 (11 * W + f) = -1 := fun f hf => by rw [g2.2.2.1 126 (by decide) (by decide), my.2.1 126 (by decide) (by decide)]; exact nf f hf
      have y135 : y2.1 135 = y.1 135 := g2.2.2.1 135 (by decide) (by decide)
      refine sp_seek3 w wv (m := 0) (by rw [← eW, y120]; rfl) (by omega) ⟨fun k hk => Or.inl (by rw [y135]; exact hh k hk), fun s hs2 => by omega⟩ (fun s hs2 => absurd hs2 (Nat.not_lt_zero _)) (fun t ht => by rw [cA e2 (c := 80) (n := 6) (by decide) ht]; exact (av0.1.2 t ht).2.2.2.1) (fun r y3 m3 lo alt => ⟨wv, fun y6 e6 => ?_⟩)
      rcases alt with ⟨er, row, hsn, hcn, -⟩ | ⟨s9, r0, _⟩
      rotate_left
      · exact absurd r0 (Nat.not_lt_zero _)
      have bw : (3000 * w).toInt = 3000 * w.toInt := by rw [t_mul (by rw [k3]; omega) (by rw [k3]; omega), k3]
      have bv : vp_in (3000 * w) 6000 := by rw [vp_in_iff]; omega
      have cb : (3000 * w).toNatClampNeg = 3000 * W + 0 := by have := cl_i (a := 3000 * w) (by omega); omega
      rw [cb]
      rw [← eW] at e6
      refine ⟨bv, fun y8 e8 => ⟨bv, fun y10 e10 => ?_⟩⟩
      have m6 := md_a y3 120 W 1 (by decide)
      rw [← e6] at m6
      have m8 := md_a y6 130 (3000 * W + 0) (-1) (by decide)
      rw [← e8] at m8
      have m10 := md_a y8 132 (3000 * W + 0) 0 (by decide)
      rw [← e10] at m10
      have MM : md [] [120, 130, 132] y3 y10 := md_tr (md_tr (L3 := []) (A3 := [120, 130]) m6 m8 rfl rfl) m10 rfl rfl
      have o310 : ow W y3 y10 := by
        refine ow_tr (y := y8) (ow_tr (y := y6) ?_ ?_) ?_
        · rw [e6]; exact ow_si W2 (Or.inl ⟨Or.inl rfl, rfl⟩)
        · rw [e8]; exact ow_si W2 (Or.inr (Or.inr ⟨Or.inl rfl, 0, by omega, rfl⟩))
        · rw [e10]; exact ow_si W2 (Or.inr (Or.inr ⟨Or.inr (Or.inr rfl), 0, by omega, rfl⟩))
      have oz3 : ow W z y3 := ow_tr (ow_tr (ow_tr o1 (ow_mi (mi_of my) rfl)) (ow_mi (mi_of g2.2) rfl)) (ow_mi (mi_of m3) rfl)
      have mz10 : mi tL tA' z y10 := mi_tr (mi_tr (L3 := tL) (A3 := tA') (mi_tr (L3 := tL) (A3 := tA') mzy (mi_of g2.2) rfl rfl) (mi_of m3) rfl rfl) (mi_of MM) rfl rfl
      have h132 : y10.1 132 (3000 * W + 0) = 0 := by rw [e10, si_get, if_pos ⟨rfl, rfl⟩]
      have h120 : y10.1 120 W = Int32.ofNat 1 := by rw [m10.2.1 120 (by decide) (by decide), m8.2.1 120 (by decide) (by decide), e6, si_get, if_pos ⟨rfl, rfl⟩]; rfl
      have h123 : y10.1 123 W = 0 := by rw [MM.2.1 123 (by decide) (by decide), m3.2.1 123 (by decide) (by decide)]; exact y123
      have h126 : fnd y10 W 1 := fun f hf => Or.inl (by rw [MM.2.1 126 (by decide) (by decide), m3.2.1 126 (by decide) (by decide)]; exact y126 f hf)
      have q10 : TI z W (fun _ => a0) 1 y10 := by
        refine ⟨mz10, ow_tr oz3 o310, h120, by rw [h123]; decide, by rw [h123]; decide, h126, fun s hs2 => ⟨⟨av0, ?_, fun _ => ?_, fun z9 => by omega⟩, fun k hk => ?_⟩, by rw [e32]; exact st0, fun s hs2 => ⟨pa0, by rw [hw]; exact e68⟩⟩
        · rw [show s = 0 by omega, h132]; decide
        · rw [show s = 0 by omega, h132]; rfl
        · rw [show s = 0 by omega, MM.2.1 133 (by decide) (by decide)]
          exact (row k hk).trans (pv_eq e2 hk)
      have e10s : eqS (Sl a0) a0 y10 := eqS_mi e2 (mi_tr (L3 := [136]) (A3 := [133, 134, 135, 120, 130, 132]) (mi_of m3) (mi_of MM) rfl rfl) rfl rfl (Sl_Sm a0)
      refine sp_look3 hN hX hq2 w01n w 0 wv am0 (by rw [pa0.1 26 (by decide)]; exact l26) (by rw [pa0.1 27 (by decide)]; exact l27) e10s (by decide) (M := 1) (by decide) (by rw [← eW]; exact h126) (by rw [← eW, h123]; decide) (by rw [← eW, h123]; decide) (by omega) (fun y11 k11 fa11 => ?_)
      rw [← eW] at k11 fa11
      obtain ⟨n1, n2, n3, n4, n5, n6⟩ := k11
      rw [h123, k0] at n6
      have g := fun k (h0 : k ≠ 0) hk => n1.2 k h0 hk
      have e121e : y11.1 121 W = 0 := by rw [g 121 (by decide) (by decide), MM.2.1 121 (by decide) (by decide), m3.2.1 121 (by decide) (by decide)]; exact y121
      have y126' : ∀ f : Nat, f < 11 → y10.1 126 (11 * W + f) = -1 := fun f hf => by rw [MM.2.1 126 (by decide) (by decide), m3.2.1 126 (by decide) (by decide)]; exact y126 f hf
      have one : ∀ (s : Nat) (p : gMa × Nat × Nat), (([(fsM C, 0, 0)], false) : gTy).1[s]? = some p → s = 0 ∧ p = (fsM C, 0, 0) := fun s p hp => by
        cases s with
        | zero => exact ⟨rfl, (Option.some.inj hp).symm⟩
        | succ s => exact nomatch hp
      refine p75 3000 (fun _ => a0) ([(fsM C, 0, 0)], false) y11 0 (by decide) (by decide) (by decide) (Nat.le_refl 1) (by show ((1 : Nat) : Int) ≤ _; omega) ?_ ⟨fun s p hp => ?_, ?_, e121e, fun s p hp s0 => ?_⟩ (fun _ => ?_) rfl
      rotate_left
      · rw [(one s p hp).2]; exact ⟨am0, MCn_fs, NBm_fs⟩
      · exact FN3_next (k := 0) (x7 := fun f => y10.1 126 (11 * W + f)) (p := (fsM C, 0, 0)) rfl rfl (fun f hf => Or.inl ⟨y126' f hf, fun s p hs => absurd hs (Nat.not_lt_zero _)⟩) fa11
      · rw [(one s p hp).1] at s0; exact absurd s0 (Nat.lt_irrefl _)
      rotate_left
      · obtain ⟨t1, t2, t3, t4, t5, t6, t7, t8, t9⟩ := q10
        refine ⟨mi_tr t1 n1 rfl rfl, ow_tr t2 n3, by rw [g 120 (by decide) (by decide)]; exact t3, n5, by show _ ≤ ((1 : Nat) : Int); omega, n4, fun s hs2 => ?_, t8, t9⟩
        have r9 := t7 s hs2
        unfold TR TN at r9 ⊢
        rw [g 130 (by decide) (by decide), g 131 (by decide) (by decide), g 132 (by decide) (by decide), g 133 (by decide) (by decide)]
        exact r9
      · refine hcR_f (y := y3) ?_ ?_ (fun s k _ _ => ?_) ⟨hsn, hcn⟩
        · rw [g 134 (by decide) (by decide), MM.2.1 134 (by decide) (by decide)]
        · rw [g 135 (by decide) (by decide), MM.2.1 135 (by decide) (by decide)]
        · rw [g 133 (by decide) (by decide), MM.2.1 133 (by decide) (by decide)]
    intro n
    induction n with
    | zero =>
      intro y i i0 i1 hn my hh
      exact sg_tryAll_7 _ _ _ ⟨fun _ => last y my (fun k hk => hh k (by omega)), fun c => absurd (t_le.mpr (by rw [k40]; omega)) c⟩
    | succ n ih =>
      intro y i i0 i1 hn my hh
      refine sg_tryAll_7 _ _ _ ⟨fun c => last y my (fun k hk => hh k (by rw [t_le, k40] at c; omega)), fun c => ?_⟩
      rw [t_le, k40] at c
      have ci := cl_i i0
      have ii : (i + 1).toInt = i.toInt + 1 := by rw [t_add (by omega) (by omega), k1]
      refine ⟨by rw [vp_in_iff]; omega, fun y13 e13 => ?_⟩
      have m13 := md_a y 135 i.toNatClampNeg (-1) (by decide)
      rw [← e13] at m13
      refine ih y13 (i + 1) (by omega) (by omega) (by omega) (md_tr my m13 rfl rfl) (fun k hk => ?_)
      rw [e13, si_get]
      by_cases q : (135 : Nat) = 135 ∧ k = i.toNatClampNeg
      · rw [if_pos q]
      · rw [if_neg q]; exact hh k (by omega)
  exact loop 4096 y1 0 (by decide) (by decide) (by decide) (md_w (md_rf y1) (by decide) (by decide)) (fun k hk => by rw [k0] at hk; omega)
end TRY3

section TYC
variable {C : gCo} {wn nl : Nat} {z y : gd} {T : gTy}
theorem MK_miq9 {w w' : gd} {C : gCo} {L A : List Nat} (m : mi L A w w') (hL : mfL.all (fun k => !L.elem k) = true) (hA : mfAq9.all (fun k => !A.elem k) = true) (h : MK w C) : MK w' C := MK_fq9 h (fun k hk => m.1 k (all_no hL k hk)) (fun c hc => m.2 c (mfA_0q9 c hc) (all_no hA c hc))
end TYC
section RFK
variable {G : mG} {d D : Nat} {z : gd} {F : Int32 → gd → Prop}
end RFK
section TSW
variable {G : mG} {d D : Nat} {x z a : gd} {F : Int32 → gd → Prop} {Fv : gd → Prop} {C : gCo}
theorem sc_showq9 {Tw : Nat → gTy} (q : MI z) (gc : GC C) (hK : ¬ z.1 0 66 = 0 → MK z C) (w f : Int32) (hT : ∀ wn, (wn = 0 ∨ wn = 1) → ¬ z.1 119 wn = 0 → TYc C wn z (Tw wn) ∧ TW C wn (Tw wn)) (hD : 8 ≤ D) (h01 : ¬ ((w = 0 ∨ w = 1) ∧ 0 ≤ f.toInt ∧ f.toInt < 11) → ∀ z', rfK 1 z z' → F 0 z') (h02 : ((w = 0 ∨ w = 1) ∧ 0 ≤ f.toInt ∧ f.toInt < 11) → ¬ shG C Tw z w f → ∀ z', rfK 2 z z' → F 0 z') (h1 : ∀ (wn s : Nat) z', (wn = 0 ∨ wn = 1) → w = Int32.ofNat wn → 0 ≤ f.toInt → f.toInt < 11 → ¬ z.1 119 wn = 0 → fsF C wn (Tw wn) f.toInt.toNat s → (pth (Tw wn) s).length ≤ 400 → HistC C wn z' → mi (0 :: 67 :: 68 :: dL) (138 :: dA) z z' → z'.1 0 0 = 0 → z'.1 0 67 = 1 → (z'.1 0 94).toInt = ((pth (Tw wn) s).length : Nat) → (∀ k v, (pth (Tw wn) s)[k]? = some v → c96 z' k = v) → F (z'.1 0 94) z') : MT G D z_show 0 [(0, vr 0), (1, vi w), (2, vi f)] [] z (ri F) := by
  obtain ⟨D, rfl⟩ : ∃ D', D = D' + 1 := ⟨D - 1, by omega⟩
  have k0 : (0 : Int32).toInt = 0 := rfl
  have k1 : (1 : Int32).toInt = 1 := rfl
  have km1 : (-1 : Int32).toInt = -1 := rfl
  have k4 : (400 : Int32).toInt = 400 := rfl
  refine sg_show_0 _ _ (fun y e => ?_)
  have hy := z0_s e
  have no : ∀ wn : Nat, (wn = 0 ∨ wn = 1) → w = Int32.ofNat wn → 0 ≤ f.toInt → f.toInt < 11 → ¬ shG C Tw z w f → ∀ y', rfK 2 z y' → ri F (some (vi 0)) y' := fun wn w01 ew f0 f1 hn y' m => ri_i (h02 ⟨by rcases w01 with e9 | e9 <;> rw [ew, e9]; exact Or.inl rfl; exact Or.inr rfl, f0, f1⟩ hn y' m)
  have qy := (MI_0q9 hy.1 q).1
  have g119 : y.1 119 = z.1 119 := hy.1.2 119 (by decide) (by simp)
  have p75 : ∀ wn : Nat, (wn = 0 ∨ wn = 1) → w = Int32.ofNat wn → vp_in w 2 → 0 ≤ f.toInt → f.toInt < 11 → ∀ s b : Int32, (b = 0 → ¬ y.1 119 wn = 0 ∧ ∃ S : Nat, s.toInt = (S : Nat) ∧ fsF C wn (Tw wn) f.toInt.toNat S) → (¬ b = 0 → ¬ shG C Tw z w f) → MT G (D + 1) z_show 75 [(0, vr 0), (1, vi w), (3, vi s)] [vi b, vr 0] y (ri F) := by
    intro wn w01 ew wv f0 f1 s b hb hb2
    refine sg_show_75 _ _ _ (sc_refk b 2 hy (by decide) (fun b0 => ⟨fun q => absurd rfl q, fun _ => ?_⟩) (fun nb y' m => ⟨fun _ => no wn w01 ew f0 f1 (hb2 nb) y' m, fun q => absurd q (by decide)⟩))
    obtain ⟨tr, S, es, hfs⟩ := hb b0
    obtain ⟨W, eW⟩ : ∃ W, W = w.toNatClampNeg := ⟨_, rfl⟩
    have eWn : W = wn := by rw [eW, ew]; rcases w01 with e9 | e9 <;> rw [e9] <;> rfl
    have tz : ¬ z.1 119 wn = 0 := by rw [← g119]; exact tr
    obtain ⟨tyz, hTW⟩ := hT wn w01 tz
    obtain ⟨T, eT⟩ : ∃ T, T = Tw wn := ⟨_, rfl⟩
    have h1 := fun z' => h1 wn S z' w01 ew f0 f1 tz hfs
    rw [← eT] at tyz hTW hfs h1
    have ty : TYc C wn y T := TYc_mi hy.1 rfl tyz
    obtain ⟨p9, hp9, -⟩ := id hfs
    have hc : ¬ y.1 0 66 = 0 := (qy.2.2.2 wn (by omega) tr).1
    have cp := qy.2.1 hc
    have hKz := hK (by rw [← hy.1.1 66 (by decide)]; exact hc)
    have b3 := ty.2.1
    have sS := gt_lt hp9
    have ix : ∀ (c : Int32) (c' : Nat), c.toInt = (c' : Nat) → c' < T.1.length → vp_in (3000 * w + c) 6000 ∧ (3000 * w + c).toNatClampNeg = 3000 * wn + c' := fun c c' ec c1 => by
      have := tmul (k := 3000) (K := 3000) (N := 6000) (n := 3000) (i := c) rfl wv (by omega) (by omega) (by omega) (by omega) (by omega)
      have cc := t_cl c
      rw [← eW, eWn] at this
      rw [show c.toNatClampNeg = c' by omega] at this
      exact this
    obtain ⟨sv, se⟩ := ix s S es sS
    have dS := TYc_d hTW ty S S p9 (Nat.le_refl _) hp9
    obtain ⟨N, eN⟩ : ∃ N, N = y.1 132 (3000 * w + s).toNatClampNeg := ⟨_, rfl⟩
    have dN : N.toInt = ((pth T S).length : Nat) := by rw [eN, se]; exact dS
    rw [← eN]
    -- the run gone again
    have loop : (pth T S).length ≤ 400 → ∀ (m : Nat) (u : gd) (k : Nat) (i : Int32), i.toInt = (k : Nat) → k ≤ (pth T S).length → (pth T S).length - k ≤ m → HistC C wn u → (u.1 0 94).toInt = (k : Nat) → (∀ j v, (pth T S)[j]? = some v → (u.1 138 j).toInt = (v : Nat)) → (∀ j v, j < k → (pth T S)[j]? = some v → c96 u j = v) → u.1 0 67 = 1 → mi (67 :: 68 :: dL) (138 :: dA) y u → MT G (D + 1) z_show 186 [(0, vr 0), (4, vi N), (5, vi i)] [] u (ri F) := by
      intro N4
      have end' : ∀ (u : gd) (k : Nat), k = (pth T S).length → HistC C wn u → (u.1 0 94).toInt = (k : Nat) → (∀ j v, j < k → (pth T S)[j]? = some v → c96 u j = v) → u.1 0 67 = 1 → mi (67 :: 68 :: dL) (138 :: dA) y u → ri F (some (vi (u.1 0 94))) u := fun u k ek hu u94 u96 u67 mu => ri_i (h1 u N4 hu (mi_tr hy.1 mu rfl rfl) (by rw [mu.1 0 (by decide)]; exact hy.2) u67 (by rw [u94, ek]) (fun j v hj => u96 j v (by rw [ek]; exact gt_lt hj) hj))
      intro m
      induction m with
      | zero =>
        intro u k i ei hk hm hu u94 u138 u96 u67 mu
        exact sg_show_186 _ _ ⟨fun _ => end' u k (by omega) hu u94 u96 u67 mu, fun c => absurd (t_le.mpr (by omega)) c⟩
      | succ m ih =>
        intro u k i ei hk hm hu u94 u138 u96 u67 mu
        refine sg_show_186 _ _ ⟨fun c => end' u k (by rw [t_le] at c; omega) hu u94 u96 u67 mu, fun c => ?_⟩
        rw [t_le] at c
        have kl : k < (pth T S).length := by omega
        have ci : i.toNatClampNeg = k := by rw [t_cl, ei]; rfl
        refine ⟨by rw [vp_in_iff]; omega, ?_⟩
        rw [ci]
        have hg := List.getElem?_eq_getElem kl
        obtain ⟨v, ev⟩ : ∃ v, v = (pth T S)[k] := ⟨_, rfl⟩
        rw [← ev] at hg
        have e138 := u138 k v hg
        -- the choice is one of those that there are
        obtain ⟨c9, hc9⟩ : ∃ c9 : Nat → Nat, ∀ j v, (pth T S)[j]? = some v → c9 j = v := ⟨fun j => ((pth T S)[j]?).getD 0, fun j v hj => congrArg (fun z : Option Nat => z.getD 0) hj⟩
        obtain ⟨-, r2⟩ := pth_run hTW S S p9 (Nat.le_refl _) hp9 c9 hc9
        have rE : runM C wn c9 k = runM C wn (c96 u) k := runM_cg (fun j hj => by
          have hgj := List.getElem?_eq_getElem (show j < (pth T S).length by omega)
          rw [hc9 j _ hgj, u96 j _ hj hgj])
        have lt := r2 k kl
        rw [hc9 k v hg, rE] at lt
        have e84 := HistC_n hu
        have ek : (u.1 0 94).toInt.toNat = k := by rw [u94]; rfl
        rw [ek] at e84
        have ii : (i + 1).toInt = ((k + 1 : Nat) : Int) := by rw [t_add (by omega) (by omega), k1, ei]; rfl
        refine sc_moreq9 gc hu (by omega) _ (by omega) (by omega) (by omega) (fun u' hu' df => ?_)
        obtain ⟨mm, e94, e96, e96b⟩ := df
        have cu : (u.1 0 94).toNatClampNeg = k := by rw [t_cl]; exact ek
        rw [cu] at e96 e96b
        refine ih u' (k + 1) (i + 1) ii kl (by omega) hu' (by rw [e94, u94]; push_cast; rfl) (fun j v hj => by rw [mm.2 138 (by decide) (by decide)]; exact u138 j v hj) (fun j v9 hj hv => ?_) (by rw [mm.1 67 (by decide)]; exact u67) (mi_tr mu mm rfl rfl)
        show (u'.1 96 j).toNatClampNeg = v9
        by_cases cj : j = k
        · rw [cj, e96, t_cl]
          rw [cj, hg] at hv
          have hv := Option.some.inj hv
          rw [e138, hv]; rfl
        · rw [e96b j cj]
          exact u96 j v9 (by omega) hv
    -- the way back to the first state
    have back : (pth T S).length ≤ 400 → ∀ (n : Nat) (u : gd) (c i : Int32) (U : Nat) (pU : gMa × Nat × Nat) (r : List Nat), i.toInt = (n : Int) - 1 → c.toInt = (U : Nat) → T.1[U]? = some pU → (pth T U).length = n → pth T S = pth T U ++ r → mi [] [138] y u → (∀ j v, r[j]? = some v → (u.1 138 (n + j)).toInt = (v : Nat)) → MT G (D + 1) z_show 135 [(0, vr 0), (1, vi w), (3, vi c), (4, vi N), (5, vi i)] [] u (ri F) := by
      intro N4 n
      induction n with
      | zero =>
        intro u c i U pU r ei ec hU hl hr mu hu
        have e0 : pth T U = [] := List.eq_nil_of_length_eq_zero hl
        rw [e0, List.nil_append] at hr
        refine sg_show_135 _ _ _ _ ⟨fun _ => ?_, fun cc => absurd (t_lt.mpr (by rw [k0]; omega)) cc⟩
        rw [ew]
        refine sc_startRunq9 gc (CP_mi mu rfl rfl cp) (MK_miq9 mu rfl rfl (MK_miq9 hy.1 rfl rfl hKz)) w01 (by omega) (fun u' hh sf => ?_)
        obtain ⟨mm, f94, -, f67, f68⟩ := sf
        refine loop N4 (pth T S).length u' 0 0 rfl (Nat.zero_le _) (by omega) hh (by rw [f94]; rfl) (fun j v hj => ?_) (fun j v hj => absurd hj (Nat.not_lt_zero _)) f67 (mi_tr mu mm rfl rfl)
        rw [mm.2 138 (by decide) (by decide)]
        rw [hr] at hj
        have := hu j v hj
        rw [Nat.zero_add] at this
        exact this
      | succ n ih =>
        intro u c i U pU r ei ec hU hl hr mu hu
        have hlen : (pth T S).length = (n + 1) + r.length := by rw [hr, List.length_append, hl]
        have U0 : 0 < U := by
          apply Classical.byContradiction
          intro c9
          rw [show U = 0 by omega, pth_0] at hl
          cases hl
        have UL := gt_lt hU
        obtain ⟨a2, a3, a4⟩ := (ty.2.2.2 U pU hU).2 U0
        obtain ⟨hlt, p', ch, g1, g2, g3⟩ := (hTW U pU hU).2 U0
        have ps := pth_s hTW U0 hU
        push_cast at ei
        refine sg_show_135 _ _ _ _ ⟨fun cc => ?_, fun cc => ?_⟩
        · rw [t_lt, k0] at cc; exfalso; omega
        obtain ⟨cv, ce⟩ := ix c U ec UL
        have ci : i.toNatClampNeg = n := by rw [t_cl, ei]; omega
        have lv : vp_in i 400 := by rw [vp_in_iff]; omega
        refine ⟨cv, lv, fun v ev => ⟨cv, ?_⟩⟩
        rw [ce, ci] at ev
        rw [ce]
        have mv := md_a u 138 n (u.1 131 (3000 * wn + U)) (by decide)
        rw [← ev] at mv
        have g130 : v.1 130 = y.1 130 := by rw [mv.2.1 130 (by decide) (by decide), mu.2 130 (by decide) (by decide)]
        have g131 : u.1 131 = y.1 131 := mu.2 131 (by decide) (by decide)
        rw [g131] at ev
        rw [g130]
        obtain ⟨j9, ej⟩ : ∃ j, j = i + (-1) := ⟨_, rfl⟩
        have ji : j9.toInt = (n : Int) - 1 := by rw [ej, t_add (by rw [km1]; omega) (by rw [km1]; omega), km1]; omega
        rw [← ej]
        clear ej
        have hl' : (pth T pU.2.1).length = n := by rw [ps, List.length_append, List.length_singleton] at hl; omega
        refine ih v _ j9 pU.2.1 p' (pU.2.2 :: r) ji a2 g1 hl' (by rw [hr, ps, List.append_assoc]; rfl) (mi_tr mu (mi_of mv) rfl rfl) (fun j v9 hj => ?_)
        cases j with
        | zero =>
          have hj : pU.2.2 = v9 := Option.some.inj hj
          rw [Nat.add_zero, ev, si_get, if_pos ⟨rfl, rfl⟩, ← hj]
          exact a3
        | succ j =>
          have hj : r[j]? = some v9 := hj
          have := hu j v9 hj
          rw [ev, si_ne 138 _ (by omega), show n + (j + 1) = n + 1 + j by omega]
          exact this
    have p106 : ∀ b : Int32, (b = 0 → (pth T S).length ≤ 400) → (¬ b = 0 → ¬ (pth T S).length ≤ 400) → MT G (D + 1) z_show 106 [(0, vr 0), (1, vi w), (3, vi s)] [vi b, vr 0] y (ri F) := by
      intro b hb hb2
      refine sg_show_106 _ _ _ (sc_refk b 2 hy (by decide) (fun b0 => ⟨fun _ => ⟨sv, ?_⟩, fun q => absurd rfl q⟩) (fun nb y' m => ⟨fun q => absurd q (by decide), fun _ => no wn w01 ew f0 f1 (fun hg => hb2 nb ?_) y' m⟩))
      · rw [← eN]
        have N4 := hb b0
        obtain ⟨j, ej⟩ : ∃ j, j = N - 1 := ⟨_, rfl⟩
        have ji : j.toInt = ((pth T S).length : Int) - 1 := by rw [ej, t_sub (by rw [k1]; omega) (by rw [k1]; omega), k1, dN]
        rw [← ej]
        exact back N4 (pth T S).length y s j S p9 [] ji es hp9 rfl (List.append_nil _).symm ⟨fun _ _ => rfl, fun _ _ _ => rfl⟩ (fun j v hj => nomatch hj)
      · obtain ⟨wn', s', a1, a2, -, -, -, a6, a7⟩ := hg
        have e1 := wn_eq a1 w01 a2 ew
        rw [e1, ← eT] at a6 a7
        rw [fsF_u hfs a6]; exact a7
    exact ⟨sv, fun c => p106 0 (fun _ => by rw [t_le, k4] at c; omega) (fun z => absurd rfl z), fun c => p106 1 (fun q => absurd q (by decide)) (fun _ z9 => c (t_le.mpr (by rw [k4]; omega)))⟩
  have p63 : ∀ wn : Nat, (wn = 0 ∨ wn = 1) → w = Int32.ofNat wn → vp_in w 2 → 0 ≤ f.toInt → f.toInt < 11 → ∀ s : Int32, (s = -1 → ¬ shG C Tw z w f) → (¬ s = -1 → ¬ y.1 119 wn = 0 ∧ ∃ S : Nat, s.toInt = (S : Nat) ∧ fsF C wn (Tw wn) f.toInt.toNat S) → MT G (D + 1) z_show 63 [(0, vr 0), (1, vi w)] [vi s] y (ri F) := fun wn w01 ew wv f0 f1 s hs hs2 => sg_show_63 _ _ ⟨fun ne => p75 wn w01 ew wv f0 f1 s 0 (fun _ => hs2 ne) (fun z => absurd rfl z), fun e9 => p75 wn w01 ew wv f0 f1 s 1 (fun q => absurd q (by decide)) (fun _ => hs e9)⟩
  have p30 : ∀ b : Int32, (b = 0 → (vp_in w 2 ∧ (w = 0 ∨ w = 1)) ∧ 0 ≤ f.toInt ∧ f.toInt < 11) → (¬ b = 0 → ¬ ((w = 0 ∨ w = 1) ∧ 0 ≤ f.toInt ∧ f.toInt < 11)) → MT G (D + 1) z_show 30 [(0, vr 0), (1, vi w), (2, vi f)] [vi b, vr 0] y (ri F) := by
    intro b hb hb2
    refine sg_show_30 _ _ _ (sc_refk b 1 hy (by decide) (fun b0 => ⟨fun _ => ?_, fun q => absurd rfl q⟩) (fun nb y' m => ⟨fun q => absurd q (by decide), fun _ => ri_i (h01 (hb2 nb) y' m)⟩))
    obtain ⟨⟨wv, hw⟩, f0, f1⟩ := hb b0
    obtain ⟨wn, w01, ew, ewn⟩ := w_nat hw
    obtain ⟨fv, fe⟩ := t11 wv f0 f1
    rw [ewn]
    refine ⟨wv, fun t0 => p63 wn w01 ew wv f0 f1 _ (fun _ hg => ?_) (fun z => absurd rfl z), fun tr => ⟨fv, p63 wn w01 ew wv f0 f1 _ (fun e1 hg => ?_) (fun ne => ⟨tr, ?_⟩)⟩⟩
    · obtain ⟨wn', s', a1, a2, -, -, a5, -⟩ := hg
      rw [wn_eq a1 w01 a2 ew, ← g119] at a5
      exact a5 t0
    · rw [fe, ewn] at e1
      obtain ⟨wn', s', a1, a2, -, -, -, ⟨p9, c1, c2, -⟩, -⟩ := hg
      have e2 := wn_eq a1 w01 a2 ew
      rw [e2] at c1 c2
      have ty : TYc C wn y (Tw wn) := TYc_mi hy.1 rfl (hT wn w01 (by rw [← g119]; exact tr)).1
      have cf := t_cl f
      rcases ty.2.2.1 f.toInt.toNat (by omega) with ⟨-, g2⟩ | ⟨s9, p8, -, g2, -⟩
      · exact g2 s' p9 (gt_lt c1) c1 c2
      · have g2 : (y.1 126 (11 * wn + f.toNatClampNeg)).toInt = (s9 : Nat) := g2
        rw [e1, km1] at g2; omega
    · rw [fe, ewn] at ne ⊢
      have ty : TYc C wn y (Tw wn) := TYc_mi hy.1 rfl (hT wn w01 (by rw [← g119]; exact tr)).1
      rcases ty.2.2.1 f.toInt.toNat (by omega) with ⟨g1, -⟩ | ⟨s9, p8, g1, g2, g3, g4, g5⟩
      · exact absurd g1 ne
      · exact ⟨s9, g2, p8, g3, g4, g5⟩
  refine sp_in _ _ _ ⟨fun c1 => p30 1 (fun q => absurd q (by decide)) (fun _ hg => ?_), fun c1 => sp_in _ _ _ ⟨fun c2 => p30 0 (fun _ => ⟨w_in (bi_ne.mp c1), f_in (bi_ne.mp c2)⟩) (fun z => absurd rfl z), fun c2 => p30 1 (fun q => absurd q (by decide)) (fun _ hg => ?_)⟩⟩
  · refine bi_eq.mp c1 ?_
    rcases hg.1 with e9 | e9 <;> rw [e9]
    · exact ⟨by decide, by decide⟩
    · exact ⟨by decide, by decide⟩
  · refine bi_eq.mp c2 ⟨t_le.mpr (by rw [k0]; exact hg.2.1), t_le.mpr ?_⟩
    have k10 : (10 : Int32).toInt = 10 := rfl
    have := hg.2.2
    rw [k10]; omega
end TSW

section TAT
variable {G : mG} {d D : Nat} {x z a : gd} {F : Int32 → gd → Prop} {Fv : gd → Prop} {C : gCo} {nl wr : Nat}
theorem sc_attemptq9 (q : MI z) (gc : GC C) (hK : ¬ z.1 0 66 = 0 → MK z C ∧ NCq C ∧ LkN C nl ∧ nl ≤ 6 ∧ C.2.2.1.length ≤ 24 ∧ (z.1 0 26).toInt = (C.2.2.2.1.length : Nat) ∧ (z.1 0 27).toInt = (C.2.2.2.2.length : Nat)) (hH : ¬ z.1 0 67 = 0 → HistC C wr z) (w l : Int32) (hD : 8 ≤ D) (h01 : z.1 0 66 = 0 → ∀ z', rfK 1 z z' → F 0 z') (h02 : ¬ z.1 0 66 = 0 → ¬ ((w = 0 ∨ w = 1) ∧ 1 ≤ l.toInt ∧ l.toInt ≤ 3000) → ∀ z', rfK 2 z z' → F 0 z') (h1 : ∀ (wn lim : Nat) z', (wn = 0 ∨ wn = 1) → w = Int32.ofNat wn → l.toInt = (lim : Nat) → 1 ≤ lim → lim ≤ 3000 → ¬ z.1 0 66 = 0 → PMq9 z z' → z'.1 0 0 = 0 → (z'.1 0 67 = z.1 0 67 ∧ z'.1 0 94 = z.1 0 94 ∧ z'.1 96 = z.1 96 ∧ (¬ z.1 0 67 = 0 → HistC C wr z')) → TYc C wn z' (tryM C wn lim) → ¬ z'.1 119 wn = 0 → (∀ w', ¬ w' = wn → z'.1 119 w' = z.1 119 w') → ow wn z z' → F (z'.1 120 w.toNatClampNeg) z') : MT G D z_attempt 0 [(0, vr 0), (1, vi w), (2, vi l)] [] z (ri F) := by
  obtain ⟨D, rfl⟩ : ∃ D', D = D' + 1 := ⟨D - 1, by omega⟩
  have k0 : (0 : Int32).toInt = 0 := rfl
  have k1 : (1 : Int32).toInt = 1 := rfl
  have k3 : (3000 : Int32).toInt = 3000 := rfl
  have z0' : (0 : Int32).toNatClampNeg = 0 := rfl
  refine sg_attempt_0 _ _ (fun y e => ?_)
  have hy := z0_s e
  have b1n : ¬ vp_nar .boolean 1 = 0 := by decide
  have y66 : y.1 0 66 = z.1 0 66 := hy.1.1 66 (by decide)
  have y67 : y.1 0 67 = z.1 0 67 := hy.1.1 67 (by decide)
  have hHy : ¬ y.1 0 67 = 0 → HistC C wr y := fun h9 => HistC_0 hy.1 (hH (by rw [← y67]; exact h9))
  have qy := (MI_0q9 hy.1 q).1
  have y2 : y.1 0 2 = z.1 0 2 := hy.1.1 2 (by decide)
  have p51 : ¬ y.1 0 66 = 0 → ∀ b : Int32, (b = 0 → (vp_in w 2 ∧ (w = 0 ∨ w = 1)) ∧ 1 ≤ l.toInt ∧ l.toInt ≤ 3000) → (¬ b = 0 → ¬ ((w = 0 ∨ w = 1) ∧ 1 ≤ l.toInt ∧ l.toInt ≤ 3000)) → MT G (D + 1) z_attempt 51 [(0, vr 0), (1, vi w), (2, vi l)] [vi b, vr 0] y (ri F) := by
    intro hc b hb hb2
    refine sg_attempt_51 _ _ _ (sc_refk b 2 hy (by decide) (fun b0 => ⟨fun _ => ?_, fun q => absurd rfl q⟩) (fun nb y' m => ⟨fun q => absurd q (by decide), fun _ => ri_i (h02 (by rw [← y66]; exact hc) (hb2 nb) y' m)⟩))
    obtain ⟨⟨wv, w01⟩, l1, l3⟩ := hb b0
    obtain ⟨wn, w01n, ew, ewn⟩ := w_nat w01
    obtain ⟨lim, elm⟩ : ∃ lim : Nat, l.toInt = lim := ⟨l.toInt.toNat, by omega⟩
    have hcz : ¬ z.1 0 66 = 0 := by rw [← y66]; exact hc
    obtain ⟨hKz, hq2, hLk, n6, l24, l26, l27⟩ := hK hcz
    have h1 := fun z' => h1 wn lim z' w01n ew elm (by omega) (by omega) hcz
    obtain ⟨W, eW⟩ : ∃ W, W = w.toNatClampNeg := ⟨_, rfl⟩
    have W2 : W < 2 := by rw [eW]; exact vp_lt wv
    have eWn : W = wn := by rw [eW]; exact ewn
    have cp := qy.2.1 hc
    -- the trying itself; u: behind the state kept
    have p81 : ∀ u : gd, mi [136] [136] y u → (¬ y.1 0 67 = 0 → ∀ i : Nat, i < 222 → u.1 136 i = pv y i) → MT G (D + 1) z_attempt 81 [(0, vr 0), (1, vi w), (2, vi l), (3, vi (y.1 0 68))] [] u (ri F) := by
      intro u mu ru
      refine sg_attempt_81 _ _ _ (fun u1 e1 => ?_)
      have m1 := md_f u 68 w
      rw [← e1] at m1
      have h168 : u1.1 0 68 = w := by rw [e1, si_get, if_pos ⟨rfl, rfl⟩]
      have myu1 : mi [68, 136] [136] y u1 := mi_tr mu (mi_of m1) rfl rfl
      refine sp_tryAll3q9 gc hq2 hLk n6 l24 w01n w l ew wv (CP_mi myu1 rfl rfl cp) (MK_miq9 myu1 rfl rfl (MK_miq9 hy.1 rfl rfl hKz)) (by rw [myu1.1 26 (by decide), hy.1.1 26 (by decide)]; exact l26) (by rw [myu1.1 27 (by decide), hy.1.1 27 (by decide)]; exact l27) h168 elm l1 l3 (by omega) (fun A v hM ti tj => ⟨wv, fun v4 e4 v5 e5 => ?_⟩)
      rw [← eW] at ti tj e4
      obtain ⟨M, eM⟩ : ∃ M, M = (tryM C wn lim).1.length := ⟨_, rfl⟩
      have tyc0 : TYc C wn v (tryM C wn lim) := by rw [eWn] at ti tj; exact TYc_of hM ti tj
      rw [← eM] at hM ti
      have m4 := md_a v 119 W (vp_nar .boolean 1) (by decide)
      rw [← e4] at m4
      have m5 := md_f v4 68 (y.1 0 68)
      rw [← e5] at m5
      have h5 : v5.1 0 68 = y.1 0 68 := by rw [e5, si_get, if_pos ⟨rfl, rfl⟩]
      have mv5 : mi [68] [119] v v5 := mi_tr (mi_of m4) (mi_of m5) rfl rfl
      have my5 : mi (68 :: tL) (119 :: 136 :: tA') y v5 := mi_tr (mi_tr (L3 := 68 :: tL) (A3 := 136 :: tA') myu1 ti.1 rfl rfl) mv5 rfl rfl
      have pr5 : prE y v5 := prE_mi (prE_rf y) my5 rfl rfl
      have tyW : TY v5 W := TY_mi mv5 rfl rfl (TY_TI hM ti)
      have tyc5 : TYc C wn v5 (tryM C wn lim) := TYc_mi mv5 rfl tyc0
      have e119w : ¬ v5.1 119 wn = 0 := by rw [m5.2.1 119 (by decide) (by decide), e4, ← eWn, si_get, if_pos ⟨rfl, rfl⟩]; exact b1n
      have g119 : y.1 119 = z.1 119 := hy.1.2 119 (by decide) (by simp)
      have v0 : v5.1 0 0 = 0 := by rw [my5.1 0 (by decide)]; exact hy.2
      have owz : ow wn z y := ow_mi hy.1 rfl
      have ow5 : ow W y v5 := ow_tr (ow_tr (ow_mi myu1 rfl) ti.2.1) (ow_mi mv5 rfl)
      have e119 : ∀ w' : Nat, ¬ w' = W → v5.1 119 w' = y.1 119 w' := fun w' hw' => by
        rw [m5.2.1 119 (by decide) (by decide), e4, si_ne 119 w' hw', ti.1.2 119 (by decide) (by decide), myu1.2 119 (by decide) (by decide)]
      have tys : ∀ w' : Nat, w' < 2 → ¬ v5.1 119 w' = 0 → ¬ v5.1 0 66 = 0 ∧ TY v5 w' := by
        intro w' hw' hn
        refine ⟨by rw [my5.1 66 (by decide)]; exact hc, ?_⟩
        by_cases q9 : w' = W
        · rw [q9]; exact tyW
        · rw [e119 w' q9] at hn
          exact TY_ow hw' q9 ow5 pr5 (qy.2.2.2 w' hw' hn).2
      have g5 : G0 v5 := G0_mi my5 rfl rfl qy.1
      have cp5 : CP v5 := CP_mi my5 rfl rfl cp
      have o119 : ∀ w', ¬ w' = wn → v5.1 119 w' = z.1 119 w' := fun w' hw' => by rw [← g119]; exact e119 w' (by rw [eWn]; exact hw')
      have owy : ow wn z v5 := ow_tr owz (by rw [← eWn]; exact ow5)
      refine ⟨fun n67 => ⟨wv, ri_i (h1 v5 (PM_0q9 hy.1 ⟨⟨g5, fun _ => cp5, fun q9 => absurd n67 q9, tys⟩, my5.1 2 (by decide), fun k hk => my5.1 k (all_no (M := mfL) rfl k hk), fun c hc => my5.2 c (mfA_0q9 c hc) (all_no (M := mfAq9) rfl c hc)⟩) v0 ⟨by rw [my5.1 67 (by decide)]; exact y67, by rw [my5.1 94 (by decide)]; exact hy.1.1 94 (by decide), by rw [my5.2 96 (by decide) (by decide)]; exact hy.1.2 96 (by decide) (by simp), fun h9 => absurd (show z.1 0 67 = 0 by rw [← y67, ← my5.1 67 (by decide)]; exact n67) h9⟩ tyc5 e119w o119 owy)⟩, fun h67 => ?_⟩
      rw [my5.1 67 (by decide)] at h67
      obtain ⟨s, n, q1, q2, q3, q4, q5, q6, q7⟩ := hHy h67
      have av := (q2 n (Nat.le_refl _)).1
      have el : eqS (Sl (s n)) (s n) y := eqS_w (Sl_Sm _) q4
      have r136 : ∀ i : Nat, i < 222 → v5.1 136 (0 + i) = pv (s n) i := fun i hi => by
        rw [Nat.zero_add, m5.2.1 136 (by decide) (by decide), m4.2.1 136 (by decide) (by decide), ti.1.2 136 (by decide) (by decide), m1.2.1 136 (by decide) (by decide), ru h67 i hi]
        exact pv_eq el hi
      refine sp_unpack (Or.inr rfl) mk_136 ml_136 0 (by decide) (by decide) (by decide) (fun v8 m8 r8 => ?_)
      rw [z0'] at r8
      have e8 : eqS (Sl (s n)) (s n) v8 := by
        refine un_eq ?_ ?_ (fun t ht => (av.1.2 t ht).2.2.2.1) (fun i hi => by rw [r8 i hi, r136 i hi])
        · exact prE_tr (prE_eqS el) (prE_mi pr5 (mi_of m8) rfl rfl)
        · rw [m8.1 68 (by decide), h5, cF el (by decide)]
      refine MT_up (by omega) (MTv_mono (av.2.2.2.2.2 G v8 e8) (fun v9 g9 => ⟨wv, ri_i ?_⟩))
      have m59 : mi [82, 84, 88, 89, 90, 91, 92, 93] [70, 71, 72, 73, 74, 75, 76, 77, 78, 79, 80, 81, 82, 84, 86, 87, 88] v5 v9 := mi_tr (mi_of m8) (mi_of g9.2) rfl rfl
      have my9 : mi (68 :: tL) (119 :: 136 :: tA') y v9 := mi_tr my5 m59 rfl rfl
      have h9 : v9.1 0 68 = y.1 0 68 := by rw [m59.1 68 (by decide)]; exact h5
      have c9 : c96 v9 = c96 y := by unfold c96; rw [my9.2 96 (by decide) (by decide)]
      have histc : HistC C wr v9 := ⟨s, n, by rw [my9.1 94 (by decide)]; exact q1, by rw [c9]; exact q2, by rw [c9, my9.2 96 (by decide) (by decide)]; exact q3, g9.1, by rw [h9]; exact St_pr (prE_mi (prE_rf y) my9 rfl rfl) q5, by rw [h9]; exact q6, HA_mi my9 rfl rfl q7⟩
      have hist : Hist v9 := HistC_H histc
      refine h1 v9 (PM_0q9 hy.1 ⟨⟨G0_mi my9 rfl rfl qy.1, fun _ => CP_mi my9 rfl rfl cp, fun _ => ⟨by rw [my9.1 66 (by decide)]; exact hc, hist⟩, fun w' hw' hn => ?_⟩, my9.1 2 (by decide), fun k hk => my9.1 k (all_no (M := mfL) rfl k hk), fun c hc => my9.2 c (mfA_0q9 c hc) (all_no (M := mfAq9) rfl c hc)⟩) (by rw [m59.1 0 (by decide)]; exact v0) ⟨by rw [my9.1 67 (by decide)]; exact y67, by rw [my9.1 94 (by decide)]; exact hy.1.1 94 (by decide), by rw [my9.2 96 (by decide) (by decide)]; exact hy.1.2 96 (by decide) (by simp), fun _ => histc⟩ (TYc_mi m59 rfl tyc5) (by rw [m59.2 119 (by decide) (by decide)]; exact e119w) (fun w' hw' => by rw [m59.2 119 (by decide) (by decide)]; exact o119 w' hw') (ow_tr owy (ow_mi m59 rfl))
      rw [m59.2 119 (by decide) (by decide)] at hn
      exact ⟨by rw [my9.1 66 (by decide)]; exact hc, TY_mi m59 rfl rfl (tys w' hw' hn).2⟩
    refine ⟨fun n67 => p81 y ⟨fun _ _ => rfl, fun _ _ _ => rfl⟩ (fun q => absurd n67 q), fun h67 => ?_⟩
    obtain ⟨s, n, q1, q2, q3, q4, q5, q6, q7⟩ := hHy h67
    refine sp_pack (Or.inr rfl) mk_136 ml_136 0 (by decide) (by decide) (by decide) (fun t ht => by rw [cA q4 (c := 80) (n := 6) (by decide) ht]; exact ((q2 n (Nat.le_refl _)).1.1.2 t ht).2.2.2.1) (fun u mu _ ru _ => p81 u (mi_of mu) (fun _ i hi => ?_))
    have := ru i hi
    rw [z0', Nat.zero_add] at this
    exact this
  have p18 : ∀ b : Int32, (b = 0 → ¬ y.1 0 66 = 0) → (¬ b = 0 → y.1 0 66 = 0) → MT G (D + 1) z_attempt 18 [(0, vr 0), (1, vi w), (2, vi l)] [vi b, vr 0] y (ri F) := by
    intro b hb hb9
    refine sg_attempt_18 _ _ _ (sc_refk b 1 hy (by decide) (fun b0 => ⟨fun q => absurd rfl q, fun _ => sp_in _ _ _ ⟨fun c1 => p51 (hb b0) 1 (fun q => absurd q (by decide)) (fun _ z9 => ?_), fun c1 => sp_in _ _ _ ⟨fun c2 => p51 (hb b0) 0 (fun _ => ⟨w_in (bi_ne.mp c1), ?_⟩) (fun z9 => absurd rfl z9), fun c2 => p51 (hb b0) 1 (fun q => absurd q (by decide)) (fun _ z9 => ?_)⟩⟩⟩) (fun nb y' m => ⟨fun _ => ri_i (h01 (by rw [← y66]; exact hb9 nb) y' m), fun q => absurd q (by decide)⟩))
    · refine bi_eq.mp c1 ?_
      rcases z9.1 with e9 | e9 <;> rw [e9]
      · exact ⟨by decide, by decide⟩
      · exact ⟨by decide, by decide⟩
    rotate_left
    · exact bi_eq.mp c2 ⟨t_le.mpr (by rw [k1]; exact z9.2.1), t_le.mpr (by rw [k3]; exact z9.2.2)⟩
    obtain ⟨a1, a2⟩ := bi_ne.mp c2
    rw [t_le, k1] at a1
    rw [t_le, k3] at a2
    exact ⟨a1, a2⟩
  exact ⟨fun c => p18 0 (fun _ => c) (fun z9 => absurd rfl z9), fun c => p18 1 (fun q => absurd q (by decide)) (fun _ => c)⟩
end TAT

def rdMq9 (C : gCo) (wr : Nat) (z z' : gd) : Prop := PMq9 z z' ∧ (z'.1 0 67 = z.1 0 67 ∧ z'.1 0 94 = z.1 0 94 ∧ z'.1 96 = z.1 96) ∧ z'.1 119 = z.1 119 ∧ (HistC C wr z → HistC C wr z') ∧ ∀ w T, TYc C w z T → TYc C w z' T
section RDM
variable {C : gCo} {wr : Nat} {z y u : gd}
theorem rd_miq9 {L A : List Nat} (m : mi L A z y) (hL : stL.all (fun k => !L.elem k) = true) (hA : stAq9.all (fun k => !A.elem k) = true) (q : MI z) : rdMq9 C wr z y := ⟨PM_miq9 m hL hA q, ⟨m.1 67 (all_no hL 67 (by decide)), m.1 94 (all_no hL 94 (by decide)), m.2 96 (by decide) (all_no hA 96 (by decide))⟩, m.2 119 (by decide) (all_no hA 119 (by decide)), fun h => HistC_mi m (all_sub hL rfl) (all_sub hA rfl) h, fun w T h => TYc_mi m (all_sub hA rfl) h⟩
theorem rd_0q9 (m : mi [0] [] z y) (q : MI z) : rdMq9 C wr z y := rd_miq9 m rfl rfl q
theorem rd_oq9 {L A : List Nat} (m : mi L A z y) (hL : stL.all (fun k => !L.elem k) = true) (hA : [2, 6, 7, 8, 36, 37, 38, 51, 52, 54, 55, 56, 57, 58, 59, 60, 61, 62, 63, 64, 65, 66, 70, 71, 72, 73, 74, 75, 76, 77, 78, 79, 80, 81, 82, 86, 87, 88, 96, 98, 99, 100, 103, 106, 107, 119, 120, 123, 126, 130, 131, 132].all (fun k => !A.elem k) = true) (o : oA y) (q : MI z) : rdMq9 C wr z y := ⟨MI_oq9 m hL hA o q, ⟨m.1 67 (all_no hL 67 (by decide)), m.1 94 (all_no hL 94 (by decide)), m.2 96 (by decide) (all_no hA 96 (by decide))⟩, m.2 119 (by decide) (all_no hA 119 (by decide)), fun h => HistC_mi m (all_sub hL rfl) (all_sub hA rfl) h, fun w T h => TYc_mi m (all_sub hA rfl) h⟩
theorem rd_trq9 (m : mi [0] [] z y) (p : rdMq9 C wr y u) : rdMq9 C wr z u := by
  obtain ⟨p1, ⟨p2, p3, p4⟩, p5, p6, p7⟩ := p
  refine ⟨PM_0q9 m p1, ⟨?_, ?_, ?_⟩, ?_, fun h => p6 (HistC_0 m h), fun w T h => p7 w T (TYc_mi m rfl h)⟩
  · rw [p2, m.1 67 (by decide)]
  · rw [p3, m.1 94 (by decide)]
  · rw [p4, m.2 96 (by decide) (by simp)]
  · rw [p5, m.2 119 (by decide) (by simp)]
end RDM
section RDX
variable {G : mG} {d D : Nat} {x z a : gd} {F : Int32 → gd → Prop} {Fv : gd → Prop} {C : gCo} {wr : Nat}
theorem sr_fault2q9 (q : MI z) (w : Int32) (h : ∀ r z', rdMq9 C wr z z' → F r z') : MT G (D + 1) z_fault_ 0 [(0, vr 0), (1, vi w)] [] z (ri F) := by
  refine sg_fault__0 _ (fun y e => ?_)
  have hy := z0_s e
  have p20 : ∀ b : Int32, MT G (D + 1) z_fault_ 20 [(0, vr 0), (1, vi w)] [vi b, vr 0] y (ri F) := fun b => sg_fault__20 _ _ (sp_ref b 1 hy (by decide) (fun _ => ⟨fun _ => ⟨fun _ => ri_i (h _ y (rd_0q9 hy.1 q)), fun _ => ri_i (h _ y (rd_0q9 hy.1 q))⟩, fun q => absurd rfl q⟩) (fun _ y' m => ⟨fun q => absurd q (by decide), fun _ => ri_i (h _ y' (rd_0q9 m q))⟩))
  exact sp_in _ _ _ ⟨fun _ => p20 0, fun _ => p20 1⟩
theorem sr_countq9 (q : MI z) (w : Int32) (h : ∀ r z', rdMq9 C wr z z' → ((¬ (0 ≤ w.toInt ∧ w.toInt ≤ 4) → z'.1 0 0 = 1) ∧ ((0 ≤ w.toInt ∧ w.toInt ≤ 4) → z'.1 0 0 = 0 ∧ cntM z w r)) → F r z') : MT G (D + 1) z_count 0 [(0, vr 0), (1, vi w)] [] z (ri F) := by
  have k0 : (0 : Int32).toInt = 0 := rfl
  have k1 : (1 : Int32).toInt = 1 := rfl
  have k2 : (2 : Int32).toInt = 2 := rfl
  have k3 : (3 : Int32).toInt = 3 := rfl
  have k4 : (4 : Int32).toInt = 4 := rfl
  refine sg_count_0 _ (fun y e => ?_)
  have hy := z0_s e
  have f := fun k (hk : ¬ k = 0) => hy.1.1 k (fun z => hk (List.mem_singleton.mp z))
  have ok : (0 ≤ w.toInt ∧ w.toInt ≤ 4) → ∀ r, cntM z w r → ri F (some (vi r)) y := fun hw r hr => ri_i (h _ y (rd_0q9 hy.1 q) ⟨fun z => absurd hw z, fun _ => ⟨hy.2, hr⟩⟩)
  have p20 : ∀ b : Int32, (b = 0 → 0 ≤ w.toInt ∧ w.toInt ≤ 4) → (¬ b = 0 → ¬ (0 ≤ w.toInt ∧ w.toInt ≤ 4)) → MT G (D + 1) z_count 20 [(0, vr 0), (1, vi w)] [vi b, vr 0] y (ri F) := by
    intro b hb hb2
    refine sg_count_20 _ _ (sp_refuses b 1 hy.2 (by decide) (fun c => ⟨fun _ => ?_, fun q => absurd rfl q⟩) (fun c => ⟨fun q => absurd q (by decide), fun _ => ri_i (h _ _ (rd_0q9 (mi_tr hy.1 (mi_of (md_f y 0 1)) rfl rfl) q) ⟨fun _ => by rw [si_get, if_pos ⟨rfl, rfl⟩], fun z => absurd z (hb2 c)⟩)⟩))
    have hw := hb c
    rw [f 23 (by decide), f 24 (by decide), f 25 (by decide), f 26 (by decide), f 27 (by decide)]
    refine ⟨fun n0 => ⟨fun n1 => ⟨fun n2 => ⟨fun n3 => ok hw _ ?_, fun e3 => ok hw _ (Or.inr (Or.inr (Or.inr (Or.inl ⟨e3, rfl⟩))))⟩, fun e2 => ok hw _ (Or.inr (Or.inr (Or.inl ⟨e2, rfl⟩)))⟩, fun e1 => ok hw _ (Or.inr (Or.inl ⟨e1, rfl⟩))⟩, fun e0 => ok hw _ (Or.inl ⟨e0, rfl⟩)⟩
    refine Or.inr (Or.inr (Or.inr (Or.inr ⟨?_, rfl⟩)))
    rw [t_eq, k0] at n0
    rw [t_eq, k1] at n1
    rw [t_eq, k2] at n2
    rw [t_eq, k3] at n3
    rw [t_eq, k4]
    omega
  refine sp_in _ _ _ ⟨fun c => p20 0 (fun _ => ?_) (fun z => absurd rfl z), fun c => p20 1 (fun z => absurd z (by decide)) (fun _ z => ?_)⟩
  · obtain ⟨c1, c2⟩ := bi_ne.mp c
    rw [t_le, k0] at c1
    rw [t_le, k4] at c2
    exact ⟨c1, c2⟩
  · refine bi_eq.mp c ⟨t_le.mpr ?_, t_le.mpr ?_⟩
    · rw [k0]; exact z.1
    · rw [k4]; exact z.2
theorem sr_runq9 (q : MI z) (w : Int32) (hD : 4 ≤ D) (h : ∀ r z', rdMq9 C wr z z' → F r z') : MT G D z_run 0 [(0, vr 0), (1, vi w)] [] z (ri F) := by
  obtain ⟨D, rfl⟩ : ∃ D', D = D' + 3 := ⟨D - 3, by omega⟩
  have k0 : (0 : Int32).toInt = 0 := rfl
  have k1 : (1 : Int32).toInt = 1 := rfl
  refine sg_run_0 _ (fun y e => ?_)
  have hy := z0_s e
  have no : ∀ y', mi [0] [] z y' → ri F (some (vi 0)) y' := fun y' m => ri_i (h 0 y' (rd_0q9 m q))
  have ok : ∀ r, ri F (some (vi r)) y := fun r => ri_i (h r y (rd_0q9 hy.1 q))
  have qy := (MI_0q9 hy.1 q).1
  refine sp_noRun hy (fun hr => ⟨fun q => absurd rfl q, fun _ => ?_⟩) (fun y' m => ⟨fun _ => no y' m, fun q => absurd q (by decide)⟩)
  obtain ⟨cp, ⟨a1, a2, a3, a4, a5⟩, rt⟩ := RS_of qy hr
  have b25 := cp.1.2.2.2.2.2.1
  have av : ∀ i : Int32, 0 ≤ i.toInt → i.toInt < (y.1 0 96).toInt → vp_in i 400 ∧ aA y i.toNatClampNeg := fun i i0 i1 => ⟨by rw [vp_in_iff]; omega, a4 _ (by have := cl_i i0; omega)⟩
  have p125 : ∀ (n : Nat) (s b : Int32), 0 ≤ b.toInt → (y.1 0 96).toInt - b.toInt ≤ n → MT G (D + 3) z_run 125 [(0, vr 0), (2, vi s), (3, vi b)] [] y (ri F) := by
    intro n
    induction n with
    | zero =>
      intro s b b0 hn
      exact sg_run_125 _ _ ⟨fun _ => ok _, fun c => absurd (t_le.mpr (by omega)) c⟩
    | succ n ih =>
      intro s b b0 hn
      refine sg_run_125 _ _ ⟨fun _ => ok _, fun c => ?_⟩
      rw [t_le] at c
      have bi' : (b + 1).toInt = b.toInt + 1 := by rw [t_add (by omega) (by omega), k1]
      have p136 : ∀ (m : Nat) (s i : Int32), 0 ≤ i.toInt → b.toInt - i.toInt ≤ m → MT G (D + 3) z_run 136 [(0, vr 0), (2, vi s), (3, vi b), (4, vi i)] [] y (ri F) := by
        intro m
        induction m with
        | zero =>
          intro s i i0 hm
          exact sg_run_136 _ _ _ ⟨fun _ => ih _ _ (by omega) (by omega), fun c => absurd (t_le.mpr (by omega)) c⟩
        | succ m ihm =>
          intro s i i0 hm
          refine sg_run_136 _ _ _ ⟨fun _ => ih _ _ (by omega) (by omega), fun c2 => ?_⟩
          rw [t_le] at c2
          have ii : (i + 1).toInt = i.toInt + 1 := by rw [t_add (by omega) (by omega), k1]
          exact sp_isRace _ _ (av i i0 (by omega)).1 (av b b0 (by omega)).1 (av i i0 (by omega)).2 (fun r => sp_one _ (fun r2 => ihm _ _ (by omega) (by omega)))
      exact p136 b.toInt.toNat s 0 (by decide) (by rw [k0]; omega)
  have p171 : ∀ (n : Nat) (s b : Int32), 0 ≤ b.toInt → (y.1 0 96).toInt - b.toInt ≤ n → MT G (D + 3) z_run 171 [(0, vr 0), (2, vi s), (3, vi b)] [] y (ri F) := by
    intro n
    induction n with
    | zero =>
      intro s b b0 hn
      exact sg_run_171 _ _ ⟨fun _ => ok _, fun c => absurd (t_le.mpr (by omega)) c⟩
    | succ n ih =>
      intro s b b0 hn
      refine sg_run_171 _ _ ⟨fun _ => ok _, fun c => ?_⟩
      rw [t_le] at c
      have bi' : (b + 1).toInt = b.toInt + 1 := by rw [t_add (by omega) (by omega), k1]
      have p205 : ∀ v : Int32, MT G (D + 3) z_run 205 [(0, vr 0), (3, vi b)] [vi v, vi s] y (ri F) := fun v => sg_run_205 _ _ _ (sp_one _ (fun r => ih _ _ (by omega) (by omega)))
      have bv := (av b b0 (by omega)).1
      exact ⟨bv, fun _ => p205 _, fun _ => ⟨bv, fun _ => p205 _, fun _ => p205 _⟩⟩
  have p220 : ∀ (n : Nat) (s b : Int32), 0 ≤ b.toInt → (y.1 0 25).toInt - b.toInt ≤ n → MT G (D + 3) z_run 220 [(0, vr 0), (2, vi s), (3, vi b)] [] y (ri F) := by
    intro n
    induction n with
    | zero =>
      intro s b b0 hn
      exact sg_run_220 _ _ ⟨fun _ => ok _, fun c => absurd (t_le.mpr (by omega)) c⟩
    | succ n ih =>
      intro s b b0 hn
      refine sg_run_220 _ _ ⟨fun _ => ok _, fun c => ?_⟩
      rw [t_le] at c
      have bi' : (b + 1).toInt = b.toInt + 1 := by rw [t_add (by omega) (by omega), k1]
      exact ⟨by rw [vp_in_iff]; omega, ih _ _ (by omega) (by omega)⟩
  have p111 : ∀ v : Int32, MT G (D + 3) z_run 111 [(0, vr 0)] [vi v] y (ri F) := fun v => sg_run_111 _ (sp_one _ (fun r => ok _))
  have p28 : ∀ b : Int32, MT G (D + 3) z_run 28 [(0, vr 0), (1, vi w)] [vi b, vr 0] y (ri F) := fun b => sg_run_28 _ _ (sp_ref b 2 hy (by decide) (fun _ => ⟨fun _ => ⟨fun _ => ok _, fun _ => ok _, fun _ => ok _, fun _ => ⟨fun _ => p111 _, fun _ => p111 _⟩, fun _ => sp_isStuck b25 (fun r => sp_one _ (fun r => ok _)), fun _ => p125 400 0 0 (by decide) (by rw [k0]; omega), fun _ => p171 400 0 0 (by decide) (by rw [k0]; omega), fun _ => p220 6 0 0 (by decide) (by rw [k0]; omega)⟩, fun q => absurd rfl q⟩) (fun _ y' m => ⟨fun q => absurd q (by decide), fun _ => no y' m⟩))
  exact sp_in _ _ _ ⟨fun _ => p28 _, fun _ => p28 _⟩
theorem sr_cellq9 (q : MI z) (c : Int32) (hD : 3 ≤ D) (h : ∀ r z', rdMq9 C wr z z' → F r z') : MT G D z_cell 0 [(0, vr 0), (1, vi c)] [] z (ri F) := by
  obtain ⟨D, rfl⟩ : ∃ D', D = D' + 2 := ⟨D - 2, by omega⟩
  refine sg_cell_0 _ (fun y e => ?_)
  have hy := z0_s e
  have no : ∀ y', mi [0] [] z y' → ri F (some (vi 0)) y' := fun y' m => ri_i (h 0 y' (rd_0q9 m q))
  have ok : ∀ r, ri F (some (vi r)) y := fun r => ri_i (h r y (rd_0q9 hy.1 q))
  have qy := (MI_0q9 hy.1 q).1
  refine sp_noRun hy (fun hr => ⟨fun q => absurd rfl q, fun _ => ?_⟩) (fun y' m => ⟨fun _ => no y' m, fun q => absurd q (by decide)⟩)
  obtain ⟨cp, _, _⟩ := RS_of qy hr
  have g := cp.1
  have p32 : ∀ b : Int32, (b = 0 → 0 ≤ c.toInt ∧ c.toInt < (y.1 0 23).toInt) → MT G (D + 2) z_cell 32 [(0, vr 0), (1, vi c)] [vi b, vr 0] y (ri F) := fun b hb => sg_cell_32 _ _ (sp_ref b 2 hy (by decide) (fun b0 => ⟨fun _ => ⟨by rw [vp_in_iff]; have := hb b0; have := g.2.1; omega, ok _⟩, fun q => absurd rfl q⟩) (fun _ y' m => ⟨fun q => absurd q (by decide), fun _ => no y' m⟩))
  exact sp_in _ _ _ ⟨fun cc => p32 0 (fun _ => in_lt (bi_ne.mp cc) g.1), fun _ => p32 1 (fun q => absurd q (by decide))⟩
theorem sr_seenq9 (q : MI z) (t c : Int32) (hD : 3 ≤ D) (h : ∀ r z', rdMq9 C wr z z' → F r z') : MT G D z_seen 0 [(0, vr 0), (1, vi t), (2, vi c)] [] z (ri F) := by
  obtain ⟨D, rfl⟩ : ∃ D', D = D' + 2 := ⟨D - 2, by omega⟩
  refine sg_seen_0 _ _ (fun y e => ?_)
  have hy := z0_s e
  have no : ∀ y', mi [0] [] z y' → ri F (some (vi 0)) y' := fun y' m => ri_i (h 0 y' (rd_0q9 m q))
  have ok : ∀ r, ri F (some (vi r)) y := fun r => ri_i (h r y (rd_0q9 hy.1 q))
  have qy := (MI_0q9 hy.1 q).1
  refine sp_noRun hy (fun hr => ⟨fun q => absurd rfl q, fun _ => ?_⟩) (fun y' m => ⟨fun _ => no y' m, fun q => absurd q (by decide)⟩)
  obtain ⟨cp, _, rt⟩ := RS_of qy hr
  have g := cp.1
  have p46 : ∀ b : Int32, (b = 0 → (0 ≤ t.toInt ∧ t.toInt < (y.1 0 25).toInt) ∧ 0 ≤ c.toInt ∧ c.toInt < (y.1 0 23).toInt) → MT G (D + 2) z_seen 46 [(0, vr 0), (1, vi t), (2, vi c)] [vi b, vr 0] y (ri F) := fun b hb => sg_seen_46 _ _ _ (sp_ref b 2 hy (by decide) (fun b0 => ⟨fun _ => by
    obtain ⟨b1, b2⟩ := hb b0
    have g2 := g.2.1
    have g6 := g.2.2.2.2.2.1
    have tv : vp_in t 6 := by rw [vp_in_iff]; omega
    exact sp_see t c tv (by rw [vp_in_iff]; omega) (rt _ (vt tv)).2.2.2 (fun r => ok r), fun q => absurd rfl q⟩) (fun _ y' m => ⟨fun q => absurd q (by decide), fun _ => no y' m⟩))
  exact sp_in _ _ _ ⟨fun _ => p46 1 (fun q => absurd q (by decide)), fun c1 => sp_in _ _ _ ⟨fun c2 => p46 0 (fun _ => ⟨in_lt (bi_ne.mp c1) g.2.2.2.2.1, in_lt (bi_ne.mp c2) g.1⟩), fun _ => p46 1 (fun q => absurd q (by decide))⟩⟩
theorem sr_lockq9 (q : MI z) (l w : Int32) (hD : 3 ≤ D) (h : ∀ r z', rdMq9 C wr z z' → F r z') : MT G D z_lock 0 [(0, vr 0), (1, vi l), (2, vi w)] [] z (ri F) := by
  obtain ⟨D, rfl⟩ : ∃ D', D = D' + 2 := ⟨D - 2, by omega⟩
  have k0 : (0 : Int32).toInt = 0 := rfl
  have k1 : (1 : Int32).toInt = 1 := rfl
  refine sg_lock_0 _ _ (fun y e => ?_)
  have hy := z0_s e
  have no : ∀ y', mi [0] [] z y' → ri F (some (vi 0)) y' := fun y' m => ri_i (h 0 y' (rd_0q9 m q))
  have ok : ∀ r, ri F (some (vi r)) y := fun r => ri_i (h r y (rd_0q9 hy.1 q))
  have qy := (MI_0q9 hy.1 q).1
  refine sp_noRun hy (fun hr => ⟨fun q => absurd rfl q, fun _ => ?_⟩) (fun y' m => ⟨fun _ => no y' m, fun q => absurd q (by decide)⟩)
  obtain ⟨cp, _, rt⟩ := RS_of qy hr
  have g := cp.1
  have g6 := g.2.2.2.2.2.1
  have g24 := g.2.2.2.1
  have p55 : vp_in l 6 → ∀ (n : Nat) (s t : Int32), 0 ≤ t.toInt → (y.1 0 25).toInt - t.toInt ≤ n → MT G (D + 2) z_lock 55 [(0, vr 0), (1, vi l), (2, vi w), (3, vi s), (4, vi t)] [] y (ri F) := by
    intro lv n
    induction n with
    | zero =>
      intro s t t0 hn
      exact sg_lock_55 _ _ _ _ ⟨fun _ => ⟨fun _ => ⟨fun _ => ok _, fun _ => ⟨lv, ok _⟩⟩, fun _ => ⟨lv, ok _⟩⟩, fun c => absurd (t_le.mpr (by omega)) c⟩
    | succ n ih =>
      intro s t t0 hn
      refine sg_lock_55 _ _ _ _ ⟨fun _ => ⟨fun _ => ⟨fun _ => ok _, fun _ => ⟨lv, ok _⟩⟩, fun _ => ⟨lv, ok _⟩⟩, fun c => ?_⟩
      rw [t_le] at c
      have tv : vp_in t 6 := by rw [vp_in_iff]; omega
      have ti : (t + 1).toInt = t.toInt + 1 := by rw [t_add (by omega) (by omega), k1]
      have r := rt _ (vt tv)
      have p97 : ∀ v : Int32, MT G (D + 2) z_lock 97 [(0, vr 0), (1, vi l), (2, vi w), (4, vi t)] [vi v, vi s] y (ri F) := fun v => sg_lock_97 _ _ _ _ _ (sp_one _ (fun r => ih _ _ (by omega) (by omega)))
      exact ⟨tv, fun _ => p97 _, fun _ => ⟨tv, by rw [vp_in_iff]; exact ⟨r.1, r.2.1⟩, fun _ => p97 _, fun _ => p97 _⟩⟩
  have p41 : ∀ b : Int32, (b = 0 → 0 ≤ l.toInt ∧ l.toInt < (y.1 0 24).toInt) → MT G (D + 2) z_lock 41 [(0, vr 0), (1, vi l), (2, vi w)] [vi b, vr 0] y (ri F) := fun b hb => sg_lock_41 _ _ _ (sp_ref b 2 hy (by decide) (fun b0 => ⟨fun _ => p55 (by rw [vp_in_iff]; have := hb b0; omega) 6 0 0 (by decide) (by rw [k0]; omega), fun q => absurd rfl q⟩) (fun _ y' m => ⟨fun q => absurd q (by decide), fun _ => no y' m⟩))
  exact sp_in _ _ _ ⟨fun _ => p41 1 (fun q => absurd q (by decide)), fun c1 => sp_in _ _ _ ⟨fun _ => p41 0 (fun _ => in_lt (bi_ne.mp c1) g.2.2.1), fun _ => p41 1 (fun q => absurd q (by decide))⟩⟩
theorem sr_threadq9 (q : MI z) (t w : Int32) (hD : 3 ≤ D) (h : ∀ r z', rdMq9 C wr z z' → F r z') : MT G D z_thread 0 [(0, vr 0), (1, vi t), (2, vi w)] [] z (ri F) := by
  obtain ⟨D, rfl⟩ : ∃ D', D = D' + 2 := ⟨D - 2, by omega⟩
  refine sg_thread_0 _ _ (fun y e => ?_)
  have hy := z0_s e
  have no : ∀ y', mi [0] [] z y' → ri F (some (vi 0)) y' := fun y' m => ri_i (h 0 y' (rd_0q9 m q))
  have ok : ∀ r, ri F (some (vi r)) y := fun r => ri_i (h r y (rd_0q9 hy.1 q))
  have qy := (MI_0q9 hy.1 q).1
  refine sp_noRun hy (fun hr => ⟨fun q => absurd rfl q, fun _ => ?_⟩) (fun y' m => ⟨fun _ => no y' m, fun q => absurd q (by decide)⟩)
  obtain ⟨cp, _, rt⟩ := RS_of qy hr
  have g := cp.1
  have g6 := g.2.2.2.2.2.1
  have p41 : ∀ b : Int32, (b = 0 → 0 ≤ t.toInt ∧ t.toInt < (y.1 0 25).toInt) → MT G (D + 2) z_thread 41 [(0, vr 0), (1, vi t), (2, vi w)] [vi b, vr 0] y (ri F) := by
    intro b hb
    refine sg_thread_41 _ _ _ (sp_ref b 2 hy (by decide) (fun b0 => ⟨fun _ => ?_, fun q => absurd rfl q⟩) (fun _ y' m => ⟨fun q => absurd q (by decide), fun _ => no y' m⟩))
    have tv : vp_in t 6 := by rw [vp_in_iff]; have := hb b0; omega
    have r := rt _ (vt tv)
    have av : vp_in (y.1 74 t.toNatClampNeg) 1500 := by rw [vp_in_iff]; exact ⟨r.1, r.2.1⟩
    exact ⟨fun _ => ⟨fun _ => ⟨fun _ => ⟨fun _ => ⟨tv, fun _ => ok _, fun _ => ⟨tv, av, ok _⟩⟩, fun _ => sp_knownOf t tv av (fun r => sp_ones _ (fun r => ok _))⟩, fun _ => ⟨tv, ok _⟩⟩, fun _ => ⟨tv, ok _⟩⟩, fun _ => ⟨tv, ok _⟩⟩
  exact sp_in _ _ _ ⟨fun _ => p41 1 (fun q => absurd q (by decide)), fun c1 => sp_in _ _ _ ⟨fun _ => p41 0 (fun _ => in_lt (bi_ne.mp c1) g.2.2.2.2.1), fun _ => p41 1 (fun q => absurd q (by decide))⟩⟩
theorem sr_localq9 (q : MI z) (t i : Int32) (hD : 3 ≤ D) (h : ∀ r z', rdMq9 C wr z z' → F r z') : MT G D z_local 0 [(0, vr 0), (1, vi t), (2, vi i)] [] z (ri F) := by
  obtain ⟨D, rfl⟩ : ∃ D', D = D' + 2 := ⟨D - 2, by omega⟩
  have k0 : (0 : Int32).toInt = 0 := rfl
  have k1 : (1 : Int32).toInt = 1 := rfl
  have k8 : (8 : Int32).toInt = 8 := rfl
  refine sg_local_0 _ _ (fun y e => ?_)
  have hy := z0_s e
  have no : ∀ y', mi [0] [] z y' → ri F (some (vi 0)) y' := fun y' m => ri_i (h 0 y' (rd_0q9 m q))
  have ok : ∀ r, ri F (some (vi r)) y := fun r => ri_i (h r y (rd_0q9 hy.1 q))
  have qy := (MI_0q9 hy.1 q).1
  refine sp_noRun hy (fun hr => ⟨fun q => absurd rfl q, fun _ => ?_⟩) (fun y' m => ⟨fun _ => no y' m, fun q => absurd q (by decide)⟩)
  obtain ⟨cp, _, rt⟩ := RS_of qy hr
  have g := cp.1
  have g6 := g.2.2.2.2.2.1
  have p53 : vp_in t 6 → ∀ (n : Nat) (m s k : Int32), 0 ≤ k.toInt → 8 - k.toInt ≤ n → MT G (D + 2) z_local 53 [(0, vr 0), (1, vi t), (2, vi i), (3, vi m), (4, vi s), (5, vi k)] [] y (ri F) := by
    intro tv n
    have tb := vp_in_iff.mp tv
    have last : MT G (D + 1) z_refuses 0 [(0, vr 0), (1, vi 1), (2, vi 2)] [] y (ri (fun r3 x2 => ri F (some (vi 0)) x2)) := sp_ref 1 2 hy (by decide) (fun q => absurd q (by decide)) (fun _ y' m => no y' m)
    induction n with
    | zero =>
      intro m s k k0' hn
      exact sg_local_53 _ _ _ _ _ ⟨fun _ => last, fun c => absurd (t_le.mpr (by rw [k8]; omega)) c⟩
    | succ n ih =>
      intro m s k k0' hn
      refine sg_local_53 _ _ _ _ _ ⟨fun _ => last, fun c => ?_⟩
      rw [t_le, k8] at c
      have ki : (k + 1).toInt = k.toInt + 1 := by rw [t_add (by omega) (by omega), k1]
      refine ⟨fun _ => ih _ _ _ (by omega) (by omega), fun _ => ⟨fun _ => ih _ _ _ (by omega) (by omega), fun _ => ⟨?_, ok _⟩⟩⟩
      have m9 : (8 * t).toInt = 8 * t.toInt := by rw [t_mul (by rw [k8]; omega) (by rw [k8]; omega), k8]
      rw [vp_in_iff, t_add (by omega) (by omega), m9]; omega
  have p32 : ∀ b : Int32, (b = 0 → 0 ≤ t.toInt ∧ t.toInt < (y.1 0 25).toInt) → MT G (D + 2) z_local 32 [(0, vr 0), (1, vi t), (2, vi i)] [vi b, vr 0] y (ri F) := by
    intro b hb
    refine sg_local_32 _ _ _ (sp_ref b 2 hy (by decide) (fun b0 => ⟨fun _ => ?_, fun q => absurd rfl q⟩) (fun _ y' m => ⟨fun q => absurd q (by decide), fun _ => no y' m⟩))
    have tv : vp_in t 6 := by rw [vp_in_iff]; have := hb b0; omega
    have r := rt _ (vt tv)
    exact sp_knownOf t tv (by rw [vp_in_iff]; exact ⟨r.1, r.2.1⟩) (fun r => p53 tv 8 r 0 0 (by decide) (by decide))
  exact sp_in _ _ _ ⟨fun c1 => p32 0 (fun _ => in_lt (bi_ne.mp c1) g.2.2.2.2.1), fun _ => p32 1 (fun q => absurd q (by decide))⟩
theorem sr_actq9 (q : MI z) (a w : Int32) (hD : 3 ≤ D) (h : ∀ r z', rdMq9 C wr z z' → F r z') : MT G D z_act 0 [(0, vr 0), (1, vi a), (2, vi w)] [] z (ri F) := by
  obtain ⟨D, rfl⟩ : ∃ D', D = D' + 2 := ⟨D - 2, by omega⟩
  refine sg_act_0 _ _ (fun y e => ?_)
  have hy := z0_s e
  have no : ∀ y', mi [0] [] z y' → ri F (some (vi 0)) y' := fun y' m => ri_i (h 0 y' (rd_0q9 m q))
  have ok : ∀ r, ri F (some (vi r)) y := fun r => ri_i (h r y (rd_0q9 hy.1 q))
  have qy := (MI_0q9 hy.1 q).1
  refine sp_noRun hy (fun hr => ⟨fun q => absurd rfl q, fun _ => ?_⟩) (fun y' m => ⟨fun _ => no y' m, fun q => absurd q (by decide)⟩)
  obtain ⟨cp, ⟨a1, a2, a3, _⟩, rt⟩ := RS_of qy hr
  have p41 : ∀ b : Int32, (b = 0 → 0 ≤ a.toInt ∧ a.toInt < (y.1 0 96).toInt) → MT G (D + 2) z_act 41 [(0, vr 0), (1, vi a), (2, vi w)] [vi b, vr 0] y (ri F) := by
    intro b hb
    refine sg_act_41 _ _ _ (sp_ref b 2 hy (by decide) (fun b0 => ⟨fun _ => ?_, fun q => absurd rfl q⟩) (fun _ y' m => ⟨fun q => absurd q (by decide), fun _ => no y' m⟩))
    have av : vp_in a 400 := by rw [vp_in_iff]; have := hb b0; omega
    exact ⟨fun _ => ⟨fun _ => ⟨fun _ => ⟨fun _ => ⟨av, ok _⟩, fun _ => ⟨av, ok _⟩⟩, fun _ => ⟨av, ok _⟩⟩, fun _ => ⟨av, ok _⟩⟩, fun _ => ⟨av, ok _⟩⟩
  exact sp_in _ _ _ ⟨fun _ => p41 1 (fun q => absurd q (by decide)), fun c1 => sp_in _ _ _ ⟨fun _ => p41 0 (fun _ => in_lt (bi_ne.mp c1) a1), fun _ => p41 1 (fun q => absurd q (by decide))⟩⟩
theorem sr_beforeq9 (q : MI z) (a b : Int32) (hD : 3 ≤ D) (h : ∀ r z', rdMq9 C wr z z' → F r z') : MT G D z_before 0 [(0, vr 0), (1, vi a), (2, vi b)] [] z (ri F) := by
  obtain ⟨D, rfl⟩ : ∃ D', D = D' + 2 := ⟨D - 2, by omega⟩
  refine sg_before_0 _ _ (fun y e => ?_)
  have hy := z0_s e
  have no : ∀ y', mi [0] [] z y' → ri F (some (vi 0)) y' := fun y' m => ri_i (h 0 y' (rd_0q9 m q))
  have ok : ∀ r, ri F (some (vi r)) y := fun r => ri_i (h r y (rd_0q9 hy.1 q))
  have qy := (MI_0q9 hy.1 q).1
  refine sp_noRun hy (fun hr => ⟨fun q => absurd rfl q, fun _ => ?_⟩) (fun y' m => ⟨fun _ => no y' m, fun q => absurd q (by decide)⟩)
  obtain ⟨cp, ⟨a1, a2, a3, _⟩, rt⟩ := RS_of qy hr
  have p46 : ∀ v : Int32, (v = 0 → (0 ≤ a.toInt ∧ a.toInt < (y.1 0 96).toInt) ∧ 0 ≤ b.toInt ∧ b.toInt < (y.1 0 96).toInt) → MT G (D + 2) z_before 46 [(0, vr 0), (1, vi a), (2, vi b)] [vi v, vr 0] y (ri F) := by
    intro v hv
    refine sg_before_46 _ _ _ (sp_ref v 2 hy (by decide) (fun v0 => ⟨fun q => absurd rfl q, fun _ => ?_⟩) (fun _ y' m => ⟨fun _ => no y' m, fun q => absurd q (by decide)⟩))
    have hh := hv v0
    exact sp_isSooner a b (by rw [vp_in_iff]; omega) (by rw [vp_in_iff]; omega) (fun r => ⟨fun _ => ok _, fun _ => ok _⟩)
  exact sp_in _ _ _ ⟨fun _ => p46 1 (fun q => absurd q (by decide)), fun c1 => sp_in _ _ _ ⟨fun c2 => p46 0 (fun _ => ⟨in_lt (bi_ne.mp c1) a1, in_lt (bi_ne.mp c2) a1⟩), fun _ => p46 1 (fun q => absurd q (by decide))⟩⟩
theorem sr_raceq9 (q : MI z) (i w : Int32) (hD : 4 ≤ D) (h : ∀ r z', rdMq9 C wr z z' → F r z') : MT G D z_race 0 [(0, vr 0), (1, vi i), (2, vi w)] [] z (ri F) := by
  obtain ⟨D, rfl⟩ : ∃ D', D = D' + 3 := ⟨D - 3, by omega⟩
  have k0 : (0 : Int32).toInt = 0 := rfl
  have k1 : (1 : Int32).toInt = 1 := rfl
  refine sg_race_0 _ _ (fun y e => ?_)
  have hy := z0_s e
  have no : ∀ y', mi [0] [] z y' → ri F (some (vi 0)) y' := fun y' m => ri_i (h 0 y' (rd_0q9 m q))
  have ok : ∀ r, ri F (some (vi r)) y := fun r => ri_i (h r y (rd_0q9 hy.1 q))
  have qy := (MI_0q9 hy.1 q).1
  refine sp_noRun hy (fun hr => ⟨fun _ => ?_, fun q => absurd rfl q⟩) (fun y' m => ⟨fun q => absurd q (by decide), fun _ => no y' m⟩)
  obtain ⟨cp, ⟨a1, a2, a3, a4, a5⟩, rt⟩ := RS_of qy hr
  have av : ∀ i : Int32, 0 ≤ i.toInt → i.toInt < (y.1 0 96).toInt → vp_in i 400 ∧ aA y i.toNatClampNeg := fun i i0 i1 => ⟨by rw [vp_in_iff]; omega, a4 _ (by have := cl_i i0; omega)⟩
  have p90 : MT G (D + 3) z_race 90 [(0, vr 0)] [] y (ri F) := sg_race_90 (sp_ref 1 2 hy (by decide) (fun q => absurd q (by decide)) (fun _ y' m => no y' m))
  have p19 : ∀ (n : Nat) (s b : Int32), 0 ≤ b.toInt → (y.1 0 96).toInt - b.toInt ≤ n → MT G (D + 3) z_race 19 [(0, vr 0), (1, vi i), (2, vi w), (3, vi s), (4, vi b)] [] y (ri F) := by
    intro n
    induction n with
    | zero =>
      intro s b b0 hn
      exact sg_race_19 _ _ _ _ ⟨fun _ => p90, fun c => absurd (t_le.mpr (by omega)) c⟩
    | succ n ih =>
      intro s b b0 hn
      refine sg_race_19 _ _ _ _ ⟨fun _ => p90, fun c => ?_⟩
      rw [t_le] at c
      have bi' : (b + 1).toInt = b.toInt + 1 := by rw [t_add (by omega) (by omega), k1]
      have p40 : ∀ (m : Nat) (s k : Int32), 0 ≤ k.toInt → b.toInt - k.toInt ≤ m → MT G (D + 3) z_race 40 [(0, vr 0), (1, vi i), (2, vi w), (3, vi s), (4, vi b), (5, vi k)] [] y (ri F) := by
        intro m
        induction m with
        | zero =>
          intro s k k0' hm
          exact sg_race_40 _ _ _ _ _ ⟨fun _ => ih _ _ (by omega) (by omega), fun c => absurd (t_le.mpr (by omega)) c⟩
        | succ m ihm =>
          intro s k k0' hm
          refine sg_race_40 _ _ _ _ _ ⟨fun _ => ih _ _ (by omega) (by omega), fun c2 => ?_⟩
          rw [t_le] at c2
          have ki : (k + 1).toInt = k.toInt + 1 := by rw [t_add (by omega) (by omega), k1]
          exact sp_isRace _ _ (av k k0' (by omega)).1 (av b b0 (by omega)).1 (av k k0' (by omega)).2 (fun r => ⟨fun _ => ihm _ _ (by omega) (by omega), fun _ => ⟨fun _ => ihm _ _ (by omega) (by omega), fun _ => ⟨fun _ => ok _, fun _ => ok _⟩⟩⟩)
      exact sp_in _ _ _ ⟨fun _ => p90, fun _ => p40 b.toInt.toNat s 0 (by decide) (by rw [k0]; omega)⟩
  exact p19 400 0 0 (by decide) (by rw [k0]; omega)
theorem sr_choiceq9 (q : MI z) (hH : ¬ z.1 0 67 = 0 → HistC C wr z) (i w : Int32) (hD : 4 ≤ D) (h : ∀ r z', rdMq9 C wr z z' → F r z') : MT G D z_choice 0 [(0, vr 0), (1, vi i), (2, vi w)] [] z (ri F) := by
  obtain ⟨D, rfl⟩ : ∃ D', D = D' + 2 := ⟨D - 2, by omega⟩
  refine sg_choice_0 _ _ (fun y e => ?_)
  have hy := z0_s e
  have no : ∀ y', mi [0] [] z y' → ri F (some (vi 0)) y' := fun y' m => ri_i (h 0 y' (rd_0q9 m q))
  have ok : ∀ r, ri F (some (vi r)) y := fun r => ri_i (h r y (rd_0q9 hy.1 q))
  have qy := (MI_0q9 hy.1 q).1
  refine sp_noRun hy (fun hr => ⟨fun q => absurd rfl q, fun _ => ?_⟩) (fun y' m => ⟨fun _ => no y' m, fun q => absurd q (by decide)⟩)
  have hc := (qy.2.2.1 hr).1
  have hhy := HistC_0 hy.1 (hH (by rw [← hy.1.1 67 (by decide)]; exact hr))
  obtain ⟨s, n, q1, q2, q3, q4, q5, q6, q7⟩ := hhy
  have av := (q2 n (Nat.le_refl _)).1
  have e84 : y.1 0 84 = (s n).1 0 84 := q4 0 84 (Or.inr (Or.inl ⟨rfl, rfl⟩))
  have c0 := av.2.2.2.1
  have c84 := av.2.2.2.2.1
  have p41 : ∀ b : Int32, (b = 0 → 0 ≤ i.toInt ∧ i.toInt < (y.1 0 84).toInt) → MT G (D + 2) z_choice 41 [(0, vr 0), (1, vi i), (2, vi w)] [vi b, vr 0] y (ri F) := by
    intro b hb
    refine sg_choice_41 _ _ _ (sp_ref b 2 hy (by decide) (fun b0 => ⟨fun _ => ?_, fun q => absurd rfl q⟩) (fun _ y' m => ⟨fun q => absurd q (by decide), fun _ => no y' m⟩))
    have hi := hb b0
    rw [e84] at hi
    have ci := cl_i hi.1
    have iv : vp_in i 200 := by rw [vp_in_iff]; omega
    obtain ⟨u86, u87, u88, ⟨t0, t6⟩, co⟩ := av.2.2.1 i.toNatClampNeg (by omega)
    have e86 := q4 _ _ (Or.inr u86)
    have e87 := q4 _ _ (Or.inr u87)
    rw [e86, e87]
    have tv : vp_in ((s n).1 86 i.toNatClampNeg) 6 := by rw [vp_in_iff]; exact ⟨t0, t6⟩
    have r := (av.1.2 _ (vt tv))
    have a74 : vp_in (y.1 74 ((s n).1 86 i.toNatClampNeg).toNatClampNeg) 1500 := by
      rw [cA q4 (c := 74) (n := 6) (by decide) (vt tv), vp_in_iff]
      exact ⟨r.1.1, r.1.2.1⟩
    refine ⟨iv, iv, fun _ => ⟨fun c => ⟨fun _ => ⟨fun _ => ⟨fun _ => ⟨iv, ok _⟩, fun _ => sp_sortOf _ tv a74 (ok _)⟩, fun _ => ok _⟩, fun _ => ?_⟩, fun c => ⟨fun _ => ok _, fun _ => ⟨fun _ => ⟨fun _ => ok _, fun _ => ⟨?_, ok _⟩⟩, fun _ => ok _⟩⟩⟩, fun _ => ok _⟩
    · have g := co.resolve_right (fun w => by rw [c] at w; exact absurd w.1 (by decide))
      refine sp_lookAt av q4 _ tv g.2.1 (by omega) (fun y' x' e' m' _ _ _ => ri_i (h _ y' ?_))
      have mm := mi_of m'
      have cy : c96 y' = c96 y := by unfold c96; rw [mm.2 96 (by decide) (by decide)]
      have histc : HistC C wr y' := ⟨s, n, by rw [mm.1 94 (by decide)]; exact q1, by rw [cy]; exact q2, by rw [cy, mm.2 96 (by decide) (by decide)]; exact q3, e', by rw [mm.1 68 (by decide)]; exact St_pr (prE_mi (prE_rf y) mm rfl rfl) q5, by rw [mm.1 68 (by decide)]; exact q6, HA_mi mm rfl rfl q7⟩
      have p := MI_newq9 mm rfl rfl hc (HistC_H histc) qy
      exact rd_trq9 hy.1 ⟨p, ⟨mm.1 67 (by decide), mm.1 94 (by decide), mm.2 96 (by decide) (by decide)⟩, mm.2 119 (by decide) (by decide), fun _ => histc, fun w T h => TYc_mi mm rfl h⟩
    · have g := co.resolve_left (fun w => c w.1)
      have r8 := r.2.2.2.1
      exact (t10 tv (i := (s n).1 87 i.toNatClampNeg) g.1 (by omega)).1
  exact sp_in _ _ _ ⟨fun _ => p41 1 (fun q => absurd q (by decide)), fun c1 => sp_in _ _ _ ⟨fun _ => p41 0 (fun _ => in_lt (bi_ne.mp c1) (by rw [e84]; exact c0)), fun _ => p41 1 (fun q => absurd q (by decide))⟩⟩
theorem sr_triedq9 (q : MI z) (w v : Int32) (hD : 3 ≤ D) (h : ∀ r z', rdMq9 C wr z z' → F r z') : MT G D z_tried 0 [(0, vr 0), (1, vi w), (2, vi v)] [] z (ri F) := by
  obtain ⟨D, rfl⟩ : ∃ D', D = D' + 1 := ⟨D - 1, by omega⟩
  refine sg_tried_0 _ _ (fun y e => ?_)
  have hy := z0_s e
  have no : ∀ y', mi [0] [] z y' → ri F (some (vi 0)) y' := fun y' m => ri_i (h 0 y' (rd_0q9 m q))
  have ok : ∀ r, ri F (some (vi r)) y := fun r => ri_i (h r y (rd_0q9 hy.1 q))
  have p42 : vp_in w 2 → ∀ b : Int32, MT G (D + 1) z_tried 42 [(0, vr 0), (1, vi w), (2, vi v)] [vi b, vr 0] y (ri F) := fun wv b => sg_tried_42 _ _ _ (sp_ref b 2 hy (by decide) (fun _ => ⟨fun q => absurd rfl q, fun _ => ⟨wv, fun _ => ⟨fun _ => ⟨fun _ => ⟨fun _ => ⟨fun _ => ⟨fun _ => ⟨wv, ok _⟩, fun _ => ⟨wv, ok _⟩⟩, fun _ => ⟨wv, ok _⟩⟩, fun _ => ⟨wv, ok _⟩⟩, fun _ => ⟨wv, sp_one _ (fun r => ok r)⟩⟩, fun _ => ⟨wv, ok _⟩⟩, fun _ => ok _⟩⟩) (fun _ y' m => ⟨fun _ => no y' m, fun q => absurd q (by decide)⟩))
  have p20 : ∀ b : Int32, (b = 0 → vp_in w 2) → MT G (D + 1) z_tried 20 [(0, vr 0), (1, vi w), (2, vi v)] [vi b, vr 0] y (ri F) := fun b hb => sg_tried_20 _ _ _ (sp_ref b 1 hy (by decide) (fun b0 => ⟨fun q => absurd rfl q, fun _ => sp_in _ _ _ ⟨fun _ => p42 (hb b0) _, fun _ => p42 (hb b0) _⟩⟩) (fun _ y' m => ⟨fun _ => no y' m, fun q => absurd q (by decide)⟩))
  exact sp_in _ _ _ ⟨fun c => p20 0 (fun _ => (w_in (bi_ne.mp c)).1), fun _ => p20 1 (fun q => absurd q (by decide))⟩
theorem sr_outcomeq9 (q : MI z) (w i c : Int32) (hD : 3 ≤ D) (h : ∀ r z', rdMq9 C wr z z' → F r z') : MT G D z_outcome 0 [(0, vr 0), (1, vi w), (2, vi i), (3, vi c)] [] z (ri F) := by
  obtain ⟨D, rfl⟩ : ∃ D', D = D' + 1 := ⟨D - 1, by omega⟩
  refine sg_outcome_0 _ _ _ (fun y e => ?_)
  have hy := z0_s e
  have no : ∀ y', mi [0] [] z y' → ri F (some (vi 0)) y' := fun y' m => ri_i (h 0 y' (rd_0q9 m q))
  have ok : ∀ r, ri F (some (vi r)) y := fun r => ri_i (h r y (rd_0q9 hy.1 q))
  have qy := (MI_0q9 hy.1 q).1
  have p72 : ∀ b : Int32, (b = 0 → vp_in w 2 ∧ (0 ≤ i.toInt ∧ i.toInt < 3000) ∧ 0 ≤ c.toInt ∧ c.toInt < 24) → MT G (D + 1) z_outcome 72 [(0, vr 0), (1, vi w), (2, vi i), (3, vi c)] [vi b, vr 0] y (ri F) := fun b hb => sg_outcome_72 _ _ _ _ (sp_ref b 2 hy (by decide) (fun b0 => ⟨fun _ => ⟨t72 (hb b0).1 (hb b0).2.1.1 (hb b0).2.1.2 (hb b0).2.2.1 (hb b0).2.2.2, ok _⟩, fun q => absurd rfl q⟩) (fun _ y' m => ⟨fun q => absurd q (by decide), fun _ => no y' m⟩))
  have p20 : ∀ b : Int32, (b = 0 → vp_in w 2) → MT G (D + 1) z_outcome 20 [(0, vr 0), (1, vi w), (2, vi i), (3, vi c)] [vi b, vr 0] y (ri F) := by
    intro b hb
    refine sg_outcome_20 _ _ _ _ (sp_ref b 1 hy (by decide) (fun b0 => ⟨fun q => absurd rfl q, fun _ => ?_⟩) (fun _ y' m => ⟨fun _ => no y' m, fun q => absurd q (by decide)⟩))
    have wv := hb b0
    refine ⟨wv, fun _ => p72 1 (fun q => absurd q (by decide)), fun tr => ⟨wv, ?_⟩⟩
    obtain ⟨hc, A, t1, t2, t3, t4, t5, _⟩ := qy.2.2.2 _ (vp_lt wv) tr
    have g := (qy.2.1 hc).1
    refine sp_in _ _ _ ⟨fun _ => p72 1 (fun q => absurd q (by decide)), fun c1 => sp_in _ _ _ ⟨fun c2 => p72 0 (fun _ => ?_), fun _ => p72 1 (fun q => absurd q (by decide))⟩⟩
    have a1 := in_lt (bi_ne.mp c1) t4
    have a2 := in_lt (bi_ne.mp c2) g.1
    have g2 := g.2.1
    exact ⟨wv, ⟨a1.1, by omega⟩, a2.1, by omega⟩
  exact sp_in _ _ _ ⟨fun cc => p20 0 (fun _ => (w_in (bi_ne.mp cc)).1), fun _ => p20 1 (fun q => absurd q (by decide))⟩
theorem sr_findingq9 (q : MI z) (w f : Int32) (hD : 3 ≤ D) (h : ∀ r z', rdMq9 C wr z z' → F r z') : MT G D z_finding 0 [(0, vr 0), (1, vi w), (2, vi f)] [] z (ri F) := by
  obtain ⟨D, rfl⟩ : ∃ D', D = D' + 1 := ⟨D - 1, by omega⟩
  refine sg_finding_0 _ _ (fun y e => ?_)
  have hy := z0_s e
  have no : ∀ y', mi [0] [] z y' → ri F (some (vi 0)) y' := fun y' m => ri_i (h 0 y' (rd_0q9 m q))
  have ok : ∀ r, ri F (some (vi r)) y := fun r => ri_i (h r y (rd_0q9 hy.1 q))
  have qy := (MI_0q9 hy.1 q).1
  have p63 : vp_in w 2 → ∀ s : Int32, (s = -1 ∨ (0 ≤ s.toInt ∧ s.toInt < 3000)) → MT G (D + 1) z_finding 63 [(0, vr 0), (1, vi w)] [vi s] y (ri F) := fun wv s hs => sg_finding_63 _ _ ⟨fun ne => ⟨(tmul (k := 3000) (K := 3000) (N := 6000) (n := 3000) rfl wv (hs.resolve_left ne).1 (hs.resolve_left ne).2 (by omega) (by omega) (by omega)).1, ok _⟩, fun _ => ok _⟩
  have p30 : ∀ b : Int32, (b = 0 → vp_in w 2 ∧ 0 ≤ f.toInt ∧ f.toInt < 11) → MT G (D + 1) z_finding 30 [(0, vr 0), (1, vi w), (2, vi f)] [vi b, vr 0] y (ri F) := by
    intro b hb
    refine sg_finding_30 _ _ _ (sp_ref b 1 hy (by decide) (fun b0 => ⟨fun _ => ?_, fun q => absurd rfl q⟩) (fun _ y' m => ⟨fun q => absurd q (by decide), fun _ => no y' m⟩))
    obtain ⟨wv, f0, f1⟩ := hb b0
    obtain ⟨fv, fe⟩ := t11 wv f0 f1
    refine ⟨wv, fun _ => p63 wv _ (Or.inl rfl), fun tr => ⟨fv, p63 wv _ ?_⟩⟩
    obtain ⟨hc, A, t1, t2, t3, t4, t5, t6, t7⟩ := qy.2.2.2 _ (vp_lt wv) tr
    rw [fe]
    exact (t7 f.toNatClampNeg (by have := cl_i f0; omega)).imp id (fun w => by omega)
  exact sp_in _ _ _ ⟨fun _ => p30 1 (fun q => absurd q (by decide)), fun c1 => sp_in _ _ _ ⟨fun c2 => p30 0 (fun _ => ⟨(w_in (bi_ne.mp c1)).1, f_in (bi_ne.mp c2)⟩), fun _ => p30 1 (fun q => absurd q (by decide))⟩⟩
theorem sr_commonq9 (q : MI z) (w c : Int32) (hD : 3 ≤ D) (h : ∀ r z', rdMq9 C wr z z' → F r z') : MT G D z_common 0 [(0, vr 0), (1, vi w), (2, vi c)] [] z (ri F) := by
  obtain ⟨D, rfl⟩ : ∃ D', D = D' + 1 := ⟨D - 1, by omega⟩
  have k0 : (0 : Int32).toInt = 0 := rfl
  refine sg_common_0 _ _ (fun y e => ?_)
  have hy := z0_s e
  have no : ∀ y', mi [0] [] z y' → ri F (some (vi 0)) y' := fun y' m => ri_i (h 0 y' (rd_0q9 m q))
  have ok : ∀ r, ri F (some (vi r)) y := fun r => ri_i (h r y (rd_0q9 hy.1 q))
  have qy := (MI_0q9 hy.1 q).1
  have p47 : vp_in w 2 → ∀ b : Int32, (b = 0 → (0 : Int32) ≤ c ∧ c ≤ y.1 0 23 - 1) → MT G (D + 1) z_common 47 [(0, vr 0), (1, vi w), (2, vi c)] [vi b, vr 0] y (ri F) := by
    intro wv b hb
    refine sg_common_47 _ _ _ (sp_ref b 2 hy (by decide) (fun b0 => ⟨fun _ => ⟨wv, fun _ => ok _, fun tr => ⟨?_, ok _⟩⟩, fun q => absurd rfl q⟩) (fun _ y' m => ⟨fun q => absurd q (by decide), fun _ => no y' m⟩))
    obtain ⟨hc, _⟩ := qy.2.2.2 _ (vp_lt wv) tr
    have g := (qy.2.1 hc).1
    have a2 := in_lt (hb b0) g.1
    have g2 := g.2.1
    exact (tmul (k := 24) (K := 24) (N := 48) (n := 24) rfl wv a2.1 (by omega) (by omega) (by omega) (by omega)).1
  have p20 : ∀ b : Int32, (b = 0 → vp_in w 2) → MT G (D + 1) z_common 20 [(0, vr 0), (1, vi w), (2, vi c)] [vi b, vr 0] y (ri F) := fun b hb => sg_common_20 _ _ _ (sp_ref b 1 hy (by decide) (fun b0 => ⟨fun q => absurd rfl q, fun _ => sp_in _ _ _ ⟨fun c2 => p47 (hb b0) 0 (fun _ => bi_ne.mp c2), fun _ => p47 (hb b0) 1 (fun q => absurd q (by decide))⟩⟩) (fun _ y' m => ⟨fun _ => no y' m, fun q => absurd q (by decide)⟩))
  exact sp_in _ _ _ ⟨fun cc => p20 0 (fun _ => (w_in (bi_ne.mp cc)).1), fun _ => p20 1 (fun q => absurd q (by decide))⟩
theorem sr_alikeq9 (q : MI z) (h : ∀ r z', rdMq9 C wr z z' → F r z') : MT G d z_alike 0 [(0, vr 0)] [] z (ri F) := by
  have k0 : (0 : Int32).toInt = 0 := rfl
  have k1 : (1 : Int32).toInt = 1 := rfl
  have k24 : (24 : Int32).toInt = 24 := rfl
  have k72 : (72000 : Int32).toInt = 72000 := rfl
  have z0' : (0 : Int32).toNatClampNeg = 0 := rfl
  have v0 : vp_in 0 2 := vp_in_iff.mpr (by decide)
  have v1 : vp_in 1 2 := vp_in_iff.mpr (by decide)
  refine sg_alike_0 (fun y e => ?_)
  have hy := z0_s e
  have ok : ∀ r, ri F (some (vi r)) y := fun r => ri_i (h r y (rd_0q9 hy.1 q))
  have qy := (MI_0q9 hy.1 q).1
  refine ⟨v0, fun _ => ok _, fun tr => ⟨v1, fun _ => ok _, fun _ => ⟨v0, fun _ => ok _, fun _ => ⟨v1, fun _ => ⟨v0, v1, fun _ => ?_, fun _ => ok _⟩, fun _ => ok _⟩⟩⟩⟩
  obtain ⟨hc, A, t1, t2, t3, t4, t5, _⟩ := qy.2.2.2 _ (vp_lt v0) tr
  obtain ⟨O, eO⟩ : ∃ O, O = y.1 123 (0 : Int32).toNatClampNeg := ⟨_, rfl⟩
  rw [← eO] at t4 t5
  have bO : (24 * O).toInt = 24 * O.toInt := by rw [t_mul (by rw [k24]; omega) (by rw [k24]; omega), k24]
  have loop : ∀ (n : Nat) (i : Int32), 0 ≤ i.toInt → 72000 - i.toInt ≤ n → MT G d z_alike 62 [(0, vr 0), (1, vi i)] [] y (ri F) := by
    intro n
    induction n with
    | zero =>
      intro i i0 hn
      refine sg_alike_62 _ ⟨v0, ?_⟩
      rw [← eO]
      exact ⟨fun _ => ok _, fun c => absurd (t_le.mpr (by omega)) c⟩
    | succ n ih =>
      intro i i0 hn
      refine sg_alike_62 _ ⟨v0, ?_⟩
      rw [← eO]
      refine ⟨fun _ => ok _, fun c => ?_⟩
      rw [t_le, bO] at c
      have ii : (i + 1).toInt = i.toInt + 1 := by rw [t_add (by omega) (by omega), k1]
      exact ⟨by rw [vp_in_iff]; omega, by rw [vp_in_iff, t_add (by omega) (by omega), k72]; omega, fun _ => ih _ (by omega) (by omega), fun _ => ok _⟩
  exact loop 72000 0 (by decide) (by decide)
theorem sr_ringq9 (q : MI z) (w : Int32) (hD : 3 ≤ D) (h : ∀ r z', rdMq9 C wr z z' → F r z') : MT G D z_ring 0 [(0, vr 0), (1, vi w)] [] z (ri F) := by
  obtain ⟨D, rfl⟩ : ∃ D', D = D' + 1 := ⟨D - 1, by omega⟩
  have k0 : (0 : Int32).toInt = 0 := rfl
  have k1 : (1 : Int32).toInt = 1 := rfl
  have k6 : (6 : Int32).toInt = 6 := rfl
  have k36 : (36 : Int32).toInt = 36 := rfl
  refine sg_ring_0 _ (fun y e => ?_)
  have hy := z0_s e
  have no : ∀ y', mi [0] [] z y' → ri F (some (vi 0)) y' := fun y' m => ri_i (h 0 y' (rd_0q9 m q))
  have qy := (MI_0q9 hy.1 q).1
  have p20 : ∀ b : Int32, (b = 0 → vp_in w 2) → MT G (D + 1) z_ring 20 [(0, vr 0), (1, vi w)] [vi b, vr 0] y (ri F) := by
    intro b hb
    refine sg_ring_20 _ _ (sp_ref b 1 hy (by decide) (fun b0 => ⟨fun q => absurd rfl q, fun _ => ⟨hb b0, fun tr => ?_, fun _ => no y hy.1⟩⟩) (fun _ y' m => ⟨fun _ => no y' m, fun q => absurd q (by decide)⟩))
    have wv := hb b0
    have wb := vp_in_iff.mp wv
    obtain ⟨hc, _⟩ := qy.2.2.2 _ (vp_lt wv) tr
    have g := (qy.2.1 hc).1
    have g6 := g.2.2.2.1
    have g60 := g.2.2.1
    obtain ⟨N, eN⟩ : ∃ N, N = y.1 0 24 := ⟨_, rfl⟩
    rw [← eN] at g6 g60
    have fin : ∀ (u : gd) (r : Int32), mi [] [139] y u → ri F (some (vi r)) u := fun u r mu => ri_i (h r u (by
      have p := rd_miq9 (C := C) (wr := wr) mu rfl rfl qy
      exact rd_trq9 hy.1 p))
    have f24 : ∀ u : gd, mi [] [139] y u → u.1 0 24 = N := fun u mu => by rw [mu.1 24 (by decide), eN]
    have st : ∀ (u u2 : gd) (j : Nat) (v : Int32), mi [] [139] y u → u2 = si u 139 j v → mi [] [139] y u2 := fun u u2 j v mu e2 => by
      have m := md_a u 139 j v (by decide)
      rw [← e2] at m
      exact mi_tr mu (mi_of m) rfl rfl
    have p42 : ∀ (n : Nat) (u : gd) (r l : Int32), mi [] [139] y u → 0 ≤ l.toInt → N.toInt - l.toInt ≤ n → MT G (D + 1) z_ring 42 [(0, vr 0), (1, vi w), (2, vi r), (3, vi l)] [] u (ri F) := by
      intro n
      induction n with
      | zero =>
        intro u r l mu l0 hn
        exact sg_ring_42 _ _ _ ⟨fun _ => fin u r mu, fun c => absurd (t_le.mpr (by rw [f24 u mu]; omega)) c⟩
      | succ n ih =>
        intro u r l mu l0 hn
        refine sg_ring_42 _ _ _ ⟨fun _ => fin u r mu, fun c => ?_⟩
        rw [t_le, f24 u mu] at c
        have lv : vp_in l 6 := by rw [vp_in_iff]; omega
        have li : (l + 1).toInt = l.toInt + 1 := by rw [t_add (by omega) (by omega), k1]
        have p79 : ∀ (m : Nat) (u : gd) (k : Int32), mi [] [139] y u → 1 ≤ k.toInt → N.toInt + 1 - k.toInt ≤ m → MT G (D + 1) z_ring 79 [(0, vr 0), (1, vi w), (2, vi r), (3, vi l), (4, vi k)] [] u (ri F) := by
          have last : ∀ u : gd, mi [] [139] y u → vp_in l 6 ∧ (((u.1 139 l.toNatClampNeg) ≤ (0 : Int32) → MT G (D + 1) z_ring 42 [(0, vr 0), (1, vi w), (2, vi r), (3, vi (l + 1))] [] u (ri F)) ∧ (¬ ((u.1 139 l.toNatClampNeg) ≤ (0 : Int32)) → ((r = (0 : Int32) → vp_in l 6 ∧ MT G (D + 1) z_ring 42 [(0, vr 0), (1, vi w), (2, vi (u.1 139 l.toNatClampNeg)), (3, vi (l + 1))] [] u (ri F)) ∧ (¬ (r = (0 : Int32)) → vp_in l 6 ∧ ((r ≤ (u.1 139 l.toNatClampNeg) → MT G (D + 1) z_ring 42 [(0, vr 0), (1, vi w), (2, vi r), (3, vi (l + 1))] [] u (ri F)) ∧ (¬ (r ≤ (u.1 139 l.toNatClampNeg)) → vp_in l 6 ∧ MT G (D + 1) z_ring 42 [(0, vr 0), (1, vi w), (2, vi (u.1 139 l.toNatClampNeg)), (3, vi (l + 1))] [] u (ri F))))))) := by
            intro u mu
            have nx : ∀ r : Int32, MT G (D + 1) z_ring 42 [(0, vr 0), (1, vi w), (2, vi r), (3, vi (l + 1))] [] u (ri F) := fun r => ih u r (l + 1) mu (by omega) (by omega)
            exact ⟨lv, fun _ => nx _, fun _ => ⟨fun _ => ⟨lv, nx _⟩, fun _ => ⟨lv, fun _ => nx _, fun _ => ⟨lv, nx _⟩⟩⟩⟩
          intro m
          induction m with
          | zero =>
            intro u k mu k1' hm
            exact sg_ring_79 _ _ _ _ ⟨fun _ => last u mu, fun q => absurd (t_lt.mpr (by rw [f24 u mu]; omega)) q⟩
          | succ m ihm =>
            intro u k mu k1' hm
            refine sg_ring_79 _ _ _ _ ⟨fun _ => last u mu, fun q => ?_⟩
            rw [t_lt, f24 u mu] at q
            have ki : (k + 1).toInt = k.toInt + 1 := by rw [t_add (by omega) (by omega), k1]
            have p91 : ∀ (p : Nat) (u : gd) (i : Int32), mi [] [139] y u → 0 ≤ i.toInt → N.toInt - i.toInt ≤ p → MT G (D + 1) z_ring 91 [(0, vr 0), (1, vi w), (2, vi r), (3, vi l), (4, vi k), (5, vi i)] [] u (ri F) := by
              intro p
              induction p with
              | zero =>
                intro u i mu i0 hp
                exact sg_ring_91 _ _ _ _ _ ⟨fun _ => ihm u (k + 1) mu (by omega) (by omega), fun q => absurd (t_le.mpr (by rw [f24 u mu]; omega)) q⟩
              | succ p ihp =>
                intro u i mu i0 hp
                refine sg_ring_91 _ _ _ _ _ ⟨fun _ => ihm u (k + 1) mu (by omega) (by omega), fun q2 => ?_⟩
                rw [t_le, f24 u mu] at q2
                have iv : vp_in i 6 := by rw [vp_in_iff]; omega
                have ii : (i + 1).toInt = i.toInt + 1 := by rw [t_add (by omega) (by omega), k1]
                have p144 : ∀ (s : Nat) (u : gd) (v j : Int32), mi [] [139] y u → 0 ≤ j.toInt → N.toInt - j.toInt ≤ s → MT G (D + 1) z_ring 144 [(0, vr 0), (1, vi w), (2, vi r), (3, vi l), (4, vi k), (5, vi i), (6, vi v), (7, vi j)] [] u (ri F) := by
                  intro s
                  induction s with
                  | zero =>
                    intro u v j mu j0 hs
                    exact sg_ring_144 _ _ _ _ _ _ _ ⟨fun _ => ihp u (i + 1) mu (by omega) (by omega), fun q => absurd (t_le.mpr (by rw [f24 u mu]; omega)) q⟩
                  | succ s ihs =>
                    intro u v j mu j0 hs
                    refine sg_ring_144 _ _ _ _ _ _ _ ⟨fun _ => ihp u (i + 1) mu (by omega) (by omega), fun q3 => ⟨fun _ => ihp u (i + 1) mu (by omega) (by omega), fun _ => ?_⟩⟩
                    rw [t_le, f24 u mu] at q3
                    have jv : vp_in j 6 := by rw [vp_in_iff]; omega
                    have ji : (j + 1).toInt = j.toInt + 1 := by rw [t_add (by omega) (by omega), k1]
                    have a1 : (36 * w).toInt = 36 * w.toInt := by rw [t_mul (by rw [k36]; omega) (by rw [k36]; omega), k36]
                    have a2 : (6 * i).toInt = 6 * i.toInt := by rw [t_mul (by rw [k6]; omega) (by rw [k6]; omega), k6]
                    have a3 : (36 * w + 6 * i).toInt = 36 * w.toInt + 6 * i.toInt := by rw [t_add (by omega) (by omega), a1, a2]
                    refine ⟨by rw [vp_in_iff, t_add (by omega) (by omega), a3]; omega, fun _ => ihs u v (j + 1) mu (by omega) (by omega), fun _ => ⟨jv, fun _ => ihs u v (j + 1) mu (by omega) (by omega), fun _ => ⟨jv, fun u8 e8 => ihs u8 v (j + 1) (st u u8 _ _ mu e8) (by omega) (by omega)⟩⟩⟩
                have go : ∀ v : Int32, MT G (D + 1) z_ring 144 [(0, vr 0), (1, vi w), (2, vi r), (3, vi l), (4, vi k), (5, vi i), (6, vi v), (7, vi 0)] [] u (ri F) := fun v => p144 6 u v 0 mu (by decide) (by rw [k0]; omega)
                exact ⟨fun _ => ⟨iv, fun _ => go _, fun _ => go _⟩, fun _ => ⟨fun _ => go _, fun _ => go _⟩⟩
            exact p91 6 u 0 mu (by decide) (by rw [k0]; omega)
        have p53 : ∀ (m : Nat) (u : gd) (k : Int32), mi [] [139] y u → 0 ≤ k.toInt → N.toInt - k.toInt ≤ m → MT G (D + 1) z_ring 53 [(0, vr 0), (1, vi w), (2, vi r), (3, vi l), (4, vi k)] [] u (ri F) := by
          intro m
          induction m with
          | zero =>
            intro u k mu k0' hm
            exact sg_ring_53 _ _ _ _ ⟨fun _ => p79 6 u 1 mu (by decide) (by rw [k1]; omega), fun q => absurd (t_le.mpr (by rw [f24 u mu]; omega)) q⟩
          | succ m ihm =>
            intro u k mu k0' hm
            refine sg_ring_53 _ _ _ _ ⟨fun _ => p79 6 u 1 mu (by decide) (by rw [k1]; omega), fun q => ?_⟩
            rw [t_le, f24 u mu] at q
            have ki : (k + 1).toInt = k.toInt + 1 := by rw [t_add (by omega) (by omega), k1]
            exact ⟨by rw [vp_in_iff]; omega, fun u3 e3 => ihm u3 (k + 1) (st u u3 _ _ mu e3) (by omega) (by omega)⟩
        exact p53 6 u 0 mu (by decide) (by rw [k0]; omega)
    exact p42 6 y 0 0 ⟨fun _ _ => rfl, fun _ _ _ => rfl⟩ (by decide) (by rw [k0]; omega)
  exact sp_in _ _ _ ⟨fun cc => p20 0 (fun _ => (w_in (bi_ne.mp cc)).1), fun _ => p20 1 (fun q => absurd q (by decide))⟩
theorem sr_linearq9 (q : MI z) (k : Int32) (hD : 5 ≤ D) (h : ∀ r z', rdMq9 C wr z z' → F r z') : MT G D z_linear 0 [(0, vr 0), (1, vi k)] [] z (ri F) := by
  obtain ⟨D, rfl⟩ : ∃ D', D = D' + 2 := ⟨D - 2, by omega⟩
  have k1 : (1 : Int32).toInt = 1 := rfl
  refine sg_linear_0 _ (fun y e => ?_)
  have hy := z0_s e
  have no : ∀ y', mi [0] [] z y' → ri F (some (vi 0)) y' := fun y' m => ri_i (h 0 y' (rd_0q9 m q))
  have qy := (MI_0q9 hy.1 q).1
  refine sp_noRun hy (fun hr => ⟨fun q => absurd rfl q, fun _ => ?_⟩) (fun y' m => ⟨fun _ => no y' m, fun q => absurd q (by decide)⟩)
  obtain ⟨hc, s, n, q1, q2, q3, q4, q5, q6, ha⟩ := qy.2.2.1 hr
  have end' : ∀ (r : Int32) (u : gd), mi [107, 116] [109, 110, 111, 112, 113, 114, 115, 116, 118] y u → oA u → ri F (some (vi r)) u := fun r u m o => ri_i (h r u (by
    have p := rd_oq9 (C := C) (wr := wr) m rfl rfl o qy
    exact rd_trq9 hy.1 p))
  have p57 : ∀ (c : Int32), c.toInt ≤ 400 → ∀ (m : Nat) (u : gd) (i : Int32), mi [107, 116] [109, 110, 111, 112, 113, 114, 115, 116, 118] y u → oA u → 0 ≤ i.toInt → c.toInt + 1 - i.toInt ≤ m → MT G (D + 2) z_linear 57 [(0, vr 0), (1, vi k), (2, vi c), (3, vi i)] [] u (ri F) := by
    intro c c4 m
    induction m with
    | zero =>
      intro u i mu ou i0 hm
      exact sg_linear_57 _ _ _ ⟨fun _ => end' _ u mu ou, fun q => absurd (t_lt.mpr (by omega)) q⟩
    | succ m ih =>
      intro u i mu ou i0 hm
      refine sg_linear_57 _ _ _ ⟨fun _ => end' _ u mu ou, fun q => ?_⟩
      rw [t_lt] at q
      have ii : (i + 1).toInt = i.toInt + 1 := by rw [t_add (by omega) (by omega), k1]
      refine sp_takeCalls (HA_mi mu rfl rfl ha) ou i (fun r v mv ov v0 v1 _ => sp_isLinear k v0 v1 (by omega) (fun r2 w mw => ?_))
      have ow' : oA w := oA_md mw (by decide) ov
      have myw : mi [107, 116] [109, 110, 111, 112, 113, 114, 115, 116, 118] y w := mi_tr (mi_tr (L3 := [107, 116]) (A3 := [109, 110, 111, 112, 113, 114, 115, 116, 118]) mu mv rfl rfl) (mi_of mw) rfl rfl
      exact ⟨fun _ => ih w (i + 1) myw ow' (by omega) (by omega), fun _ => end' _ w myw ow'⟩
  have p27 : ∀ b : Int32, MT G (D + 2) z_linear 27 [(0, vr 0), (1, vi k)] [vi b, vr 0] y (ri F) := by
    intro b
    refine sg_linear_27 _ _ (sp_ref b 2 hy (by decide) (fun _ => ⟨fun _ => ?_, fun q => absurd rfl q⟩) (fun _ y' m => ⟨fun q => absurd q (by decide), fun _ => no y' m⟩))
    refine sp_takeCalls ha qy.1.2.2.2.2.2 1000 (fun r v mv ov v0 v1 r4 => ⟨fun _ => ?_, fun _ => ?_⟩)
    · exact p57 r r4 _ v 1 (mi_w mv (by decide) (by decide)) ov (by decide) (Int.self_le_toNat _)
    · exact end' _ v (mi_w mv (by decide) (by decide)) ov
  exact sp_in _ _ _ ⟨fun _ => p27 0, fun _ => p27 1⟩
end RDX

section MFK
variable {G : mG} {d D : Nat} {x z a : gd} {F : Int32 → gd → Prop} {Fv : gd → Prop} {C : gCo} {w : Nat}
theorem sk_beginq9 (q : MI z) (l : Int32) (gc : ¬ z.1 0 66 = 0 → MK z C ∧ GC C) (hD : 7 ≤ D) (h01 : z.1 0 66 = 0 → ∀ z', rfK 1 z z' → F 0 z') (h02 : ¬ z.1 0 66 = 0 → ¬ (l = 0 ∨ l = 1) → ∀ z', rfK 2 z z' → F 0 z') (h1 : ∀ (w : Nat) z', ¬ z.1 0 66 = 0 → l = Int32.ofNat w → HistC C w z' → mi rnL rnA z z' → z'.1 0 0 = 0 → z'.1 0 67 = 1 → z'.1 0 94 = 0 → F (z'.1 0 84) z') : MT G D z_begin 0 [(0, vr 0), (1, vi l)] [] z (ri F) := by
  obtain ⟨D, rfl⟩ : ∃ D', D = D' + 1 := ⟨D - 1, by omega⟩
  have k0 : (0 : Int32).toInt = 0 := rfl
  have k1 : (1 : Int32).toInt = 1 := rfl
  refine sg_begin_0 _ (fun y e => ?_)
  have hy := z0_s e
  have e66 : y.1 0 66 = z.1 0 66 := hy.1.1 66 (by decide)
  have p40 : ¬ z.1 0 66 = 0 → ∀ b : Int32, (b = 0 → l = 0 ∨ l = 1) → (¬ b = 0 → ¬ (l = 0 ∨ l = 1)) → MT G (D + 1) z_begin 40 [(0, vr 0), (1, vi l)] [vi b, vr 0] y (ri F) := by
    intro c b hb hb2
    refine sg_begin_40 _ _ (sc_refk b 2 hy (by decide) (fun b0 => ⟨fun _ => ?_, fun q => absurd rfl q⟩) (fun nb y' m => ⟨fun q => absurd q (by decide), fun _ => ri_i (h02 c (hb2 nb) y' m)⟩))
    have qy := (MI_0q9 hy.1 q).1
    obtain ⟨hK, gC⟩ := gc c
    have hKy : MK y C := MK_fq9 hK (fun k hk => hy.1.1 k (fun z9 => by rw [List.mem_singleton.mp z9] at hk; exact absurd hk (by decide))) (fun c9 hc9 => hy.1.2 c9 (mfA_0q9 c9 hc9) (by simp))
    obtain ⟨w, w01, ew⟩ : ∃ w : Nat, (w = 0 ∨ w = 1) ∧ l = Int32.ofNat w := by
      rcases hb b0 with e | e
      · exact ⟨0, Or.inl rfl, e⟩
      · exact ⟨1, Or.inr rfl, e⟩
    rw [ew]
    refine sc_startRunq9 gC (qy.2.1 (by rw [e66]; exact c)) hKy w01 (by omega) (fun z' hh sf => ri_i ?_)
    obtain ⟨m, f94, ha, f67, f68⟩ := sf
    exact h1 w z' c ew hh (mi_tr hy.1 m rfl rfl) (by rw [m.1 0 (by decide)]; exact hy.2) f67 f94
  have p18 : ∀ b : Int32, (b = 0 → ¬ z.1 0 66 = 0) → (¬ b = 0 → ¬ ¬ z.1 0 66 = 0) → MT G (D + 1) z_begin 18 [(0, vr 0), (1, vi l)] [vi b, vr 0] y (ri F) := by
    intro b hb hb2
    refine sg_begin_18 _ _ (sc_refk b 1 hy (by decide) (fun b0 => ⟨fun q => absurd rfl q, fun _ => sp_in _ _ _ ⟨fun c => p40 (hb b0) 0 (fun _ => ?_) (fun z => absurd rfl z), fun c => p40 (hb b0) 1 (fun q => absurd q (by decide)) (fun _ z => ?_)⟩⟩) (fun nb y' m => ⟨fun _ => ri_i (h01 (Classical.not_not.mp (hb2 nb)) y' m), fun q => absurd q (by decide)⟩))
    · obtain ⟨c1, c2⟩ := bi_ne.mp c
      rw [t_le, k0] at c1
      rw [t_le, k1] at c2
      rw [t_eq, t_eq, k0, k1]
      omega
    · refine bi_eq.mp c ?_
      rcases z with z | z <;> rw [z] <;> decide
  rw [e66]
  exact ⟨fun c => p18 0 (fun _ => c) (fun z => absurd rfl z), fun c => p18 1 (fun q => absurd q (by decide)) (fun _ z => z c)⟩
theorem sk_goq9 (q : MI z) (gc : GC C) (hH : ¬ z.1 0 67 = 0 → ∃ w, HistC C w z) (i : Int32) (hD : 7 ≤ D) (h01 : ¬ (¬ z.1 0 67 = 0 ∧ (z.1 0 94).toInt < 400) → ∀ z', rfK 1 z z' → F 0 z') (h02 : (¬ z.1 0 67 = 0 ∧ (z.1 0 94).toInt < 400) → ¬ (0 ≤ i.toInt ∧ i.toInt < (z.1 0 84).toInt) → ∀ z', rfK 2 z z' → F 0 z') (h1 : ∀ (w : Nat) z', ¬ z.1 0 67 = 0 → (z.1 0 94).toInt < 400 → 0 ≤ i.toInt → i.toInt < (z.1 0 84).toInt → HistC C w z → HistC C w z' → mi rnL rnA z z' → z'.1 0 0 = 0 → z'.1 0 67 = z.1 0 67 → (z'.1 0 94).toInt = (z.1 0 94).toInt + 1 → c96 z' (z.1 0 94).toInt.toNat = i.toNatClampNeg → rwE (c96 z') (c96 z) (z.1 0 94).toInt.toNat → F (z'.1 0 84) z') : MT G D z_go 0 [(0, vr 0), (1, vi i)] [] z (ri F) := by
  obtain ⟨D, rfl⟩ : ∃ D', D = D' + 2 := ⟨D - 2, by omega⟩
  have k0 : (0 : Int32).toInt = 0 := rfl
  have k1 : (1 : Int32).toInt = 1 := rfl
  have k4 : (400 : Int32).toInt = 400 := rfl
  refine sg_go_0 _ (fun y e => ?_)
  have hy := z0_s e
  have e67 : y.1 0 67 = z.1 0 67 := hy.1.1 67 (by decide)
  have e84 : y.1 0 84 = z.1 0 84 := hy.1.1 84 (by decide)
  have e94 : y.1 0 94 = z.1 0 94 := hy.1.1 94 (by decide)
  have e96 : y.1 96 = z.1 96 := hy.1.2 96 (by decide) (by simp)
  refine sc_noRunk hy (fun hr => ⟨fun q => absurd rfl q, fun _ => ?_⟩) (fun c y' m => ⟨fun _ => ri_i (h01 (fun z9 => z9.1 (by rw [← e67]; exact c)) y' m), fun q => absurd q (by decide)⟩)
  rw [e67] at hr
  obtain ⟨w, hh⟩ := hH hr
  obtain ⟨b1, b2, b3⟩ := HistC_b hh
  have hhy := HistC_0 hy.1 hh
  have p55 : ¬ y.1 0 94 = 400 → ∀ b : Int32, (b = 0 → 0 ≤ i.toInt ∧ i.toInt < (y.1 0 84).toInt) → (¬ b = 0 → ¬ (0 ≤ i.toInt ∧ i.toInt < (y.1 0 84).toInt)) → MT G (D + 2) z_go 55 [(0, vr 0), (1, vi i)] [vi b, vr 0] y (ri F) := by
    intro n4 b hb hb2
    refine sg_go_55 _ _ (sc_refk b 2 hy (by decide) (fun b0 => ⟨fun _ => ?_, fun q => absurd rfl q⟩) (fun nb y' m => ⟨fun q => absurd q (by decide), fun _ => ri_i (h02 ⟨hr, by have n5 := n4; rw [t_eq, k4, e94] at n5; omega⟩ (fun z9 => hb2 nb (by rw [e84]; exact z9)) y' m)⟩))
    rw [t_eq, k4, e94] at n4
    obtain ⟨g1, g2⟩ := hb b0
    refine sc_moreq9 gc hhy (by rw [e94]; omega) i g1 g2 (by omega) (fun z' hh' df => ri_i ?_)
    obtain ⟨m, d94, d96, d96b⟩ := df
    rw [e94] at d94 d96 d96b
    refine h1 w z' hr (by omega) g1 (by rw [← e84]; exact g2) hh hh' (mi_tr hy.1 m rfl rfl) (by rw [m.1 0 (by decide)]; exact hy.2) (by rw [m.1 67 (by decide)]; exact e67) d94 ?_ (fun k hk => ?_)
    · show (z'.1 96 _).toNatClampNeg = _
      rw [t_cl] at d96
      rw [d96]
    · show (z'.1 96 k).toNatClampNeg = (z.1 96 k).toNatClampNeg
      rw [d96b k (by rw [t_cl]; omega), e96]
  have p28 : ∀ b : Int32, (b = 0 → ¬ y.1 0 94 = 400) → (¬ b = 0 → y.1 0 94 = 400) → MT G (D + 2) z_go 28 [(0, vr 0), (1, vi i)] [vi b, vr 0] y (ri F) := by
    intro b hb hb2
    refine sg_go_28 _ _ (sc_refk b 1 hy (by decide) (fun b0 => ⟨fun q => absurd rfl q, fun _ => sp_in _ _ _ ⟨fun c => p55 (hb b0) 0 (fun _ => ?_) (fun z => absurd rfl z), fun c => p55 (hb b0) 1 (fun q => absurd q (by decide)) (fun _ z9 => ?_)⟩⟩) (fun nb y' m => ⟨fun _ => ri_i (h01 (fun z9 => ?_) y' m), fun q => absurd q (by decide)⟩))
    · obtain ⟨c1, c2⟩ := bi_ne.mp c
      rw [t_le, k0] at c1
      rw [t_le, t_sub (by rw [e84]; omega) (by rw [e84]; omega), k1] at c2
      omega
    · refine bi_eq.mp c ⟨t_le.mpr (by rw [k0]; exact z9.1), t_le.mpr ?_⟩
      rw [t_sub (by rw [e84]; omega) (by rw [e84]; omega), k1]
      omega
    · have := hb2 nb
      rw [e94] at this
      rw [this, k4] at z9
      omega
  exact ⟨fun c => p28 0 (fun _ => c) (fun z => absurd rfl z), fun c => p28 1 (fun q => absurd q (by decide)) (fun _ => c)⟩
theorem sk_drawq9 (q : MI z) (gc : GC C) (hH : ¬ z.1 0 67 = 0 → ∃ w, HistC C w z) (s n : Int32) (hD : 7 ≤ D) (h01 : z.1 0 67 = 0 → ∀ z', rfK 1 z z' → F 0 z') (h02 : ¬ z.1 0 67 = 0 → ¬ (0 ≤ n.toInt ∧ n.toInt ≤ 400) → ∀ z', rfK 2 z z' → F 0 z') (h1 : ∀ (w : Nat) r z', ¬ z.1 0 67 = 0 → 0 ≤ n.toInt → n.toInt ≤ 400 → HistC C w z → HistC C w z' → mi rnL rnA z z' → z'.1 0 0 = 0 → z'.1 0 67 = z.1 0 67 → (z'.1 0 94).toInt = ((drS C w n.toInt.toNat s (c96 z) (z.1 0 94).toInt.toNat).2 : Nat) → rwE (c96 z') (drS C w n.toInt.toNat s (c96 z) (z.1 0 94).toInt.toNat).1 (drS C w n.toInt.toNat s (c96 z) (z.1 0 94).toInt.toNat).2 → r.toInt = ((drS C w n.toInt.toNat s (c96 z) (z.1 0 94).toInt.toNat).2 : Int) - (z.1 0 94).toInt → F r z') : MT G D z_draw 0 [(0, vr 0), (1, vi s), (2, vi n)] [] z (ri F) := by
  obtain ⟨D, rfl⟩ : ∃ D', D = D' + 2 := ⟨D - 2, by omega⟩
  have k0 : (0 : Int32).toInt = 0 := rfl
  have k1 : (1 : Int32).toInt = 1 := rfl
  have k4 : (400 : Int32).toInt = 400 := rfl
  refine sg_draw_0 _ _ (fun y e => ?_)
  have hy := z0_s e
  have e67 : y.1 0 67 = z.1 0 67 := hy.1.1 67 (by decide)
  have e94 : y.1 0 94 = z.1 0 94 := hy.1.1 94 (by decide)
  have e96 : y.1 96 = z.1 96 := hy.1.2 96 (by decide) (by simp)
  refine sc_noRunk hy (fun hr => ⟨fun q => absurd rfl q, fun _ => ?_⟩) (fun c y' m => ⟨fun _ => ri_i (h01 (by rw [← e67]; exact c) y' m), fun q => absurd q (by decide)⟩)
  rw [e67] at hr
  obtain ⟨w, hh⟩ := hH hr
  have hhy := HistC_0 hy.1 hh
  have cy : c96 y = c96 z := by unfold c96; rw [e96]
  obtain ⟨R, eR⟩ : ∃ R, R = drS C w n.toInt.toNat s (c96 z) (z.1 0 94).toInt.toNat := ⟨_, rfl⟩
  have loop : 0 ≤ n.toInt → n.toInt ≤ 400 → ∀ (m : Nat) (u : gd) (v i : Int32) (c : Nat → Nat) (k : Nat), HistC C w u → mi dL dA y u → 0 ≤ i.toInt → i.toInt + m = n.toInt → (u.1 0 94).toInt = (k : Nat) → (k : Int) = (z.1 0 94).toInt + i.toInt → rwE (c96 u) c k → drS C w m v c k = R → MT G (D + 2) z_draw 43 [(0, vr 0), (2, vi n), (3, vi v), (4, vi i)] [] u (ri F) := by
    intro n0 n4
    have end' : ∀ (u : gd) (i : Int32) (c : Nat → Nat) (k : Nat), HistC C w u → mi dL dA y u → (u.1 0 94).toInt = (k : Nat) → (k : Int) = (z.1 0 94).toInt + i.toInt → rwE (c96 u) c k → (c, k) = R → ri F (some (vi i)) u := fun u i c k hu mu h94 hk9 hc hR => ri_i (by
      have e1 : c = R.1 := by rw [← hR]
      have e2 : k = R.2 := by rw [← hR]
      refine h1 w i u hr n0 n4 hh hu (mi_tr hy.1 mu rfl rfl) (by rw [mu.1 0 (by decide)]; exact hy.2) (by rw [mu.1 67 (by decide)]; exact e67) (by rw [← eR, ← e2]; exact h94) ?_ (by rw [← eR, ← e2]; omega)
      rw [← eR, ← e2, ← e1]; exact hc)
    intro m
    induction m with
    | zero =>
      intro u v i c k hu mu i0 hm h94 hk9 hc hR
      exact sg_draw_43 _ _ _ ⟨fun _ => end' u i c k hu mu h94 hk9 hc hR, fun c9 => absurd (t_le.mpr (by omega)) c9⟩
    | succ m ih =>
      intro u v i c k hu mu i0 hm h94 hk9 hc hR
      have rE : runM C w (c96 u) k = runM C w c k := runM_cg hc
      have e84 := HistC_n hu
      have ek : (u.1 0 94).toInt.toNat = k := by rw [h94]; rfl
      rw [ek, rE] at e84
      obtain ⟨b1, b2, b3⟩ := HistC_b hu
      rw [drS] at hR
      refine sg_draw_43 _ _ _ ⟨fun c9 => ?_, fun _ => ⟨fun c9 => ?_, fun c1 => ⟨fun c9 => ?_, fun c2 => ⟨fun z9 => c1 (by rw [z9]; decide), ?_⟩⟩⟩⟩
      · rw [t_le] at c9; exfalso; push_cast at hm; omega
      · rw [t_le, k0] at c9
        rw [if_pos (Or.inl (by omega))] at hR
        exact end' u i c k hu mu h94 hk9 hc hR
      · rw [t_le, k4] at c9
        rw [if_pos (Or.inr (by omega))] at hR
        exact end' u i c k hu mu h94 hk9 hc hR
      · rw [t_le, k0] at c1
        rw [t_le, k4] at c2
        rw [if_neg (by omega)] at hR
        obtain ⟨V, eV⟩ : ∃ V, V = v * 1103515245 + 12345 := ⟨_, rfl⟩
        rw [← eV]
        have hv : drV v = V := by rw [eV]; unfold drV; rfl
        rw [hv] at hR
        clear hv eV
        obtain ⟨a1, a2⟩ := t_and (V >>> (16 &&& 31 : Int32))
        have er := t_rem2 a1 (c := u.1 0 84) (by omega)
        obtain ⟨g1, g2⟩ := t_rem a1 (c := u.1 0 84) (by omega)
        have l84 : (u.1 0 84).toInt.toNat = (chM C w (runM C w c k)).length := by rw [e84]; rfl
        have hd : (V >>> (16 &&& 31 : Int32) &&& 32767).toNatClampNeg % (u.1 0 84).toInt.toNat = drI V (chM C w (runM C w c k)).length := by rw [l84]; unfold drI; rfl
        rw [hd] at er
        clear hd
        refine sc_moreq9 gc hu (by omega) _ g1 g2 (by omega) (fun u' hu' df => ?_)
        obtain ⟨mm, d94, d96, d96b⟩ := df
        have ii : (i + 1).toInt = i.toInt + 1 := by rw [t_add (by omega) (by omega), k1]
        refine ih u' _ _ _ (k + 1) hu' (mi_tr mu mm rfl rfl) (by omega) (by push_cast at hm; omega) (by rw [d94, h94]; push_cast; rfl) (by push_cast; omega) (fun j hj => ?_) hR
        have ck : (u.1 0 94).toNatClampNeg = k := by rw [t_cl]; exact ek
        rw [ck] at d96 d96b
        show (u'.1 96 j).toNatClampNeg = upf c k _ j
        by_cases cj : j = k
        · rw [cj, upf_eq, d96, t_cl, er]; rfl
        · rw [upf_ne cj, d96b j cj]; exact hc j (by omega)
  have p29 : ∀ b : Int32, (b = 0 → 0 ≤ n.toInt ∧ n.toInt ≤ 400) → (¬ b = 0 → ¬ (0 ≤ n.toInt ∧ n.toInt ≤ 400)) → MT G (D + 2) z_draw 29 [(0, vr 0), (1, vi s), (2, vi n)] [vi b, vr 0] y (ri F) := fun b hb hb2 => by
    obtain ⟨b1, b2, b3⟩ := HistC_b hh
    exact sg_draw_29 _ _ _ (sc_refk b 2 hy (by decide) (fun b0 => ⟨fun _ => loop (hb b0).1 (hb b0).2 n.toInt.toNat y s 0 (c96 z) (z.1 0 94).toInt.toNat hhy ⟨fun _ _ => rfl, fun _ _ _ => rfl⟩ (by decide) (by have := (hb b0).1; rw [k0]; omega) (by rw [e94]; omega) (by rw [k0]; omega) (fun j _ => by rw [cy]) eR.symm, fun q => absurd rfl q⟩) (fun nb y' m => ⟨fun q => absurd q (by decide), fun _ => ri_i (h02 hr (hb2 nb) y' m)⟩))
  refine sp_in _ _ _ ⟨fun c => p29 0 (fun _ => ?_) (fun z => absurd rfl z), fun c => p29 1 (fun q => absurd q (by decide)) (fun _ z9 => ?_)⟩
  · obtain ⟨c1, c2⟩ := bi_ne.mp c
    rw [t_le, k0] at c1
    rw [t_le, k4] at c2
    exact ⟨c1, c2⟩
  · exact bi_eq.mp c ⟨t_le.mpr (by rw [k0]; exact z9.1), t_le.mpr (by rw [k4]; exact z9.2)⟩
end MFK
section KDW
variable {G : kG} {q : kP} {d : Nat} {x y z : gd} {F : Int32 → gd → Prop} {Fv : gd → Prop} {P : Option gv → gd → Prop} {X : String → gd → Prop} {C : gCo} {w n : Nat} {c c' : Nat → Nat}
end KDW

section KBG
variable {G : kG} {q q0 q1 : kP} {d : Nat} {x x0 y z : gd} {o : Nat} {P : Option gv → gd → kP → Prop} {X : String → gd → kP → Prop}
theorem KA_ctq9 {b : Nat → Int32} {N e : Nat} (h : KCUTq9 b N x e) : KA (ctK x e) (ctV x e) (smkB x) e x := by
  obtain ⟨⟨t0, t1, t2, t3, t4, t5⟩, -⟩ := h
  have ck : ∀ j, j ≤ e → ctK x e j = kc (x.1 23 j) := fun j hj => by unfold ctK; rw [if_pos hj]
  refine ⟨fun j hj => (ck j hj).symm, fun j hj k2 => ?_, fun a b _ _ _ _ => smkB_is.symm, t0, ?_⟩
  · rw [ck j hj] at k2
    unfold ctV
    rw [if_pos ⟨hj, k2⟩]
  · rw [ck e (Nat.le_refl _)]; exact t5
/-- lines of the steps, by tokens -/
def LScq9 (z : gd) (e : Nat) (L : gU) (y : gd) : Prop := ∀ (j : Nat) (st : gSt), (cds (smkB z) (ctK z e) L cd0).2.1[j]? = some st → (y.1 81 j).toInt < 16 → y.1 82 j = z.1 25 st.2.1 ∧ ¬ ctK z e st.2.1 = 0
/-- compiled, and how many of each, and the code in numbers: as the text says -/
def CCfq9 (x y : gd) : Prop := ∃ (z : gd) (e : Nat), KCUTq9 (kby x) (kln x) z e ∧ (∀ k, z.1 21 k = x.1 21 k) ∧ (∀ k, y.1 21 k = x.1 21 k) ∧ ((∃ n j L, pAl (ctK z e) (ctV z e) 701 (0, 0, 0, 0, 0) 0 [] = some (n, j, L) ∧ ¬ jFl (smkB z) (ctK z e) (ctV z e) L ∧ ¬ y.1 0 9 = 0 ∧ CNk y n ∧ CK y (codN (smkB z) (ctV z e) (ctK z e) L) ∧ LScq9 z e L y) ∨ ((∀ n j L, pAl (ctK z e) (ctV z e) 701 (0, 0, 0, 0, 0) 0 [] = some (n, j, L) → jFl (smkB z) (ctK z e) (ctV z e) L) ∧ y.1 0 9 = 0))
theorem LPk_fq9 {sN : Nat → Nat → Bool} {V K : Nat → Int32} {L : gU} (f : fm (fun c _ => c = 0) y z) (h : LPkq9 sN V K L y) : LPkq9 sN V K L z := by
  obtain ⟨h1, h2, h3, h4, ⟨n, h5, h6⟩, h7, h8⟩ := h
  have e42 : z.1 42 = y.1 42 := by funext k; exact f 42 k (by omega)
  have e43 : z.1 43 = y.1 43 := by funext k; exact f 43 k (by omega)
  have em : mt z = mt y := by unfold mt; rw [f 20 7 (by omega)]
  refine ⟨CCp_eqq9 (fun c k q => f c k (by unfold ccSq9 at q; omega)) h1, TBk_f h2 (fun c k q => f c k (by omega)), fun j hj => ?_, fun j hj => by rw [f 27 j (by omega)]; exact h4 j hj, ⟨n, by rw [e42]; exact h5, by rw [em]; exact h6⟩, h7, by rw [em]; exact h8⟩
  rw [e42, e43]
  exact h3 j (by rw [← em]; exact hj)
/-- while compiled is not yet said, l telling the fault; when it is said -/
def CCvq9 (x y : gd) (l : Int32) : Prop := ∃ (z : gd) (e : Nat), KCUTq9 (kby x) (kln x) z e ∧ (∀ k, z.1 21 k = x.1 21 k) ∧ ((∀ k, y.1 21 k = x.1 21 k) ∧ ∀ k, y.1 25 k = z.1 25 k) ∧ ((∃ n j L, pAl (ctK z e) (ctV z e) 701 (0, 0, 0, 0, 0) 0 [] = some (n, j, L) ∧ ¬ jFl (smkB z) (ctK z e) (ctV z e) L ∧ l = 0 ∧ CNk y n ∧ LPkq9 (smkB z) (ctV z e) (ctK z e) L y) ∨ ((∀ n j L, pAl (ctK z e) (ctV z e) 701 (0, 0, 0, 0, 0) 0 [] = some (n, j, L) → jFl (smkB z) (ctK z e) (ctV z e) L) ∧ ¬ l = 0))
/-- before it is linked -/
def CCzq9 (x y : gd) : Prop := ∃ (z : gd) (e : Nat), KCUTq9 (kby x) (kln x) z e ∧ (∀ k, z.1 21 k = x.1 21 k) ∧ ((∀ k, y.1 21 k = x.1 21 k) ∧ ∀ k, y.1 25 k = z.1 25 k) ∧ ((∃ n j L, pAl (ctK z e) (ctV z e) 701 (0, 0, 0, 0, 0) 0 [] = some (n, j, L) ∧ ¬ jFl (smkB z) (ctK z e) (ctV z e) L ∧ ¬ y.1 0 9 = 0 ∧ CNk y n ∧ LPkq9 (smkB z) (ctV z e) (ctK z e) L y) ∨ ((∀ n j L, pAl (ctK z e) (ctV z e) 701 (0, 0, 0, 0, 0) 0 [] = some (n, j, L) → jFl (smkB z) (ctK z e) (ctV z e) L) ∧ y.1 0 9 = 0))
theorem CCz_fq9 (h : CCzq9 x y) (h9 : y.1 0 9 = 0) : CCfq9 x y := by
  obtain ⟨a, e, h1, h2, h3, h4⟩ := h
  exact ⟨a, e, h1, h2, h3.1, h4.elim (fun ⟨n, j, L, g1, g2, g3, g4⟩ => absurd h9 g3) Or.inr⟩
theorem CCz_lkq9 (h : CCzq9 x y) (h9 : ¬ y.1 0 9 = 0) (f : fm (fun c _ => c = 85 ∨ c = 86 ∨ c = 62 ∨ c = 63) y z) (l1 : ∀ j : Nat, (j : Int) < ssm y → LK1 y z j) (l2 : ∀ i : Nat, (i : Int) < (y.1 60 3).toInt → LK2 y z i) : CCfq9 x z := by
  obtain ⟨a, e, h1, h2, h3, h4⟩ := h
  refine ⟨a, e, h1, h2, fun k => by rw [f 21 k (by omega)]; exact h3.1 k, ?_⟩
  rw [f 0 9 (by omega)]
  rcases h4 with ⟨n, j, L, g1, g2, g3, g4, g5⟩ | ⟨-, g⟩
  · obtain ⟨N9, eN, -, srt, -, -⟩ := pAl_dT 701 _ _ _ _ g1
    have eN : L = N9 := eN
    rw [← eN] at srt
    exact Or.inl ⟨n, j, L, g1, g2, g3, CNk_k g4 (fun k hk => f _ _ (by omega)), CK_ofq9 (fun a b z => smkB_is.mpr (smk_s (smkB_is.mp z))) (fun a b c z1 z2 => smkB_is.mpr (smk_t (smkB_is.mp z1) (smkB_is.mp z2))) g2 srt g5 (cod_ok g1 g2) f l1 l2, fun j9 st hj ho => by
      have q := (g5.1.2.1.2 j9 st hj).2.2.2.2.2.2.2.2 (by rw [← f 81 j9 (by omega)]; exact ho)
      exact ⟨by rw [f 82 j9 (by omega), q.1]; exact h3.2 _, q.2⟩⟩
  · exact absurd g h9
theorem CCz_stq9 (f : fm (fun c k => c = 0 ∧ ¬ k = 9) y z) (h : CCzq9 x y) : CCzq9 x z := by
  obtain ⟨a, e, h1, h2, h3, h4⟩ := h
  refine ⟨a, e, h1, h2, ⟨fun k => by rw [f 21 k (by omega)]; exact h3.1 k, fun k => by rw [f 25 k (by omega)]; exact h3.2 k⟩, ?_⟩
  rw [f 0 9 (by omega)]
  exact h4.imp (fun ⟨n, j, L, g1, g2, g3, g4, g5⟩ => ⟨n, j, L, g1, g2, g3, CNk_k g4 (fun k hk => f _ _ (by omega)), LPk_fq9 (fm_w f (fun c k q => q.1)) g5⟩) id
theorem CCv_zq9 {l : Int32} (f : fm (fun c k => c = 0 ∧ k = 9) y z) (h9 : z.1 0 9 = 0 ↔ ¬ l = 0) (h : CCvq9 x y l) : CCzq9 x z := by
  obtain ⟨a, e, h1, h2, h3, h4⟩ := h
  refine ⟨a, e, h1, h2, ⟨fun k => by rw [f 21 k (by omega)]; exact h3.1 k, fun k => by rw [f 25 k (by omega)]; exact h3.2 k⟩, ?_⟩
  exact h4.imp (fun ⟨n, j, L, g1, g2, g3, g4, g5⟩ => ⟨n, j, L, g1, g2, fun z0 => h9.mp z0 g3, CNk_k g4 (fun k hk => f _ _ (by omega)), LPk_fq9 (fm_w f (fun c k q => q.1)) g5⟩) (fun ⟨g1, g2⟩ => ⟨g1, h9.mpr g2⟩)
theorem kz_compileq9 (hu : kU q) (hH : HOI x q) (hP : ∀ r y q1, (q1 = q ∨ q1 = kTh q) → kU q1 → HOI y q1 → y.1 20 1 = x.1 20 1 → CCfq9 x y → P (some (vi r)) y q1) : KM G q (d + 14) zk_X11_compile 0 [(0, vr 0)] [] x P X := by
  have hfin : ∀ (r : Int32) (y : gd) (q1 : kP), (q1 = q ∨ q1 = kTh q) → Bs x q y → (¬ y.1 0 9 = 0 → CO y) → CCfq9 x y → P (some (vi r)) y q1 := by
    intro r y q1 h1 hB hC hcf
    obtain ⟨b1, b2, b3, ⟨b4, b5⟩, b6⟩ := hB
    have hh : HOI y q := HOI_z b1 b2 hC b3 b4 hH b5
    rcases h1 with e | e
    · subst e; exact hP r y _ (Or.inl rfl) hu hh b6 hcf
    · subst e; exact hP r y _ (Or.inr rfl) (kTh_U hu) (HOI_th hh) b6 hcf
  have p116 : ∀ (q1 : kP) (y : gd) (l1 s0 : Int32), (q1 = q ∨ q1 = kTh q) → kU q1 → Bs x q y → (¬ y.1 0 9 = 0 → LPre y) → CCzq9 x y → KM G q1 (d + 14) zk_X11_compile 116 [(0, vr 0), (1, vi l1)] [vi s0, vr 0] y P X := by
    intro q1 y l1 s0 h1 hu1 hB hL hZ
    refine kg_X11_compile_116 (d := d + 13) hu1 l1 s0 (fun x1 e1 => ?_)
    have f1 : fm (fun c k => c = 0 ∧ k = 12) y x1 := by rw [e1]; exact fm_si (fm_rf _ _) ⟨rfl, rfl⟩
    have hB1 : Bs x q x1 := Bs_st (fm_w f1 (fun c k q => by omega)) hB
    have e9 : x1.1 0 9 = y.1 0 9 := f1 _ _ (by omega)
    refine ⟨fun c => ?_, fun c => hfin _ x1 q1 h1 hB1 (fun e => absurd c e) (CCz_fq9 (CCz_stq9 (fm_w f1 (fun c k q => by omega)) hZ) c)⟩
    have c9 := c
    rw [e9] at c
    obtain ⟨a, b, o1, o2, o3⟩ := LPre_0 (fm_w f1 (fun c k q => q.1)) (hL c)
    refine kf_link hu1.1 (OT_j o2 o1) o3 (fun w hC fw lk1 lk2 => ?_)
    exact hfin _ w q1 h1 (Bs_st (fm_w fw (fun c k q => by omega)) hB1) (fun _ => hC) (CCz_lkq9 (CCz_stq9 (fm_w f1 (fun c k q => by omega)) hZ) c9 fw lk1 lk2)
  have p92 : ∀ (q1 : kP) (y : gd) (l1 l2 s0 : Int32), (q1 = q ∨ q1 = kTh q) → kU q1 → Bs x q y → (¬ y.1 0 9 = 0 → LPre y) → (y.1 0 9 = 0 → vp_in l2 702) → CCzq9 x y → KM G q1 (d + 14) zk_X11_compile 92 [(0, vr 0), (1, vi l1), (2, vi l2)] [vi s0, vr 0] y P X := by
    intro q1 y l1 l2 s0 h1 hu1 hB hL hv hZ
    refine kg_X11_compile_92 (d := d + 13) hu1 l1 l2 s0 (fun x1 e1 => ?_)
    have f1 : fm (fun c k => c = 0 ∧ k = 11) y x1 := by rw [e1]; exact fm_si (fm_rf _ _) ⟨rfl, rfl⟩
    have hB1 : Bs x q x1 := Bs_st (fm_w f1 (fun c k q => by omega)) hB
    have e9 : x1.1 0 9 = y.1 0 9 := f1 _ _ (by omega)
    have hL1 : ¬ x1.1 0 9 = 0 → LPre x1 := fun c => LPre_0 (fm_w f1 (fun c k q => q.1)) (hL (by rw [← e9]; exact c))
    have hZ1 := CCz_stq9 (fm_w f1 (fun c k q => by omega)) hZ
    exact ⟨fun c => ⟨hv (by rw [← e9]; exact c), p116 q1 x1 l1 _ h1 hu1 hB1 hL1 hZ1⟩, fun c => p116 q1 x1 l1 _ h1 hu1 hB1 hL1 hZ1⟩
  have p58 : ∀ (q1 : kP) (y : gd) (l1 l2 : Int32), (q1 = q ∨ q1 = kTh q) → kU q1 → Bs x q y → (l1 = 0 → LPre y) → (¬ l1 = 0 → vp_in l2 702) → CCvq9 x y l1 → KM G q1 (d + 14) zk_X11_compile 58 [(0, vr 0), (1, vi l1), (2, vi l2)] [] y P X := by
    intro q1 y l1 l2 h1 hu1 hB hL hv hZ
    have p68 : ∀ s0 : Int32, gbool s0 → (s0 = 0 ↔ ¬ l1 = 0) → (¬ s0 = 0 → LPre y) → (s0 = 0 → vp_in l2 702) → KM G q1 (d + 14) zk_X11_compile 68 [(0, vr 0), (1, vi l1), (2, vi l2)] [vi s0, vr 0] y P X := by
      intro s0 g hs9 hL0 hv0
      refine kg_X11_compile_68 (d := d + 13) hu1 l1 l2 s0 ⟨g, fun x1 e1 => ?_⟩
      have f1 : fm (fun c k => c = 0 ∧ k = 9) y x1 := by rw [e1]; exact fm_si (fm_rf _ _) ⟨rfl, rfl⟩
      have hB1 : Bs x q x1 := Bs_st (fm_w f1 (fun c k q => by omega)) hB
      have e9 : x1.1 0 9 = s0 := by rw [e1, si_get, if_pos ⟨rfl, rfl⟩]
      have hL1 : ¬ x1.1 0 9 = 0 → LPre x1 := fun c => LPre_0 (fm_w f1 (fun c k q => q.1)) (hL0 (by rw [← e9]; exact c))
      have hv1 : x1.1 0 9 = 0 → vp_in l2 702 := fun c => hv0 (by rw [← e9]; exact c)
      have hZ1 : CCzq9 x x1 := CCv_zq9 f1 (by rw [e9]; exact hs9) hZ
      exact ⟨fun c => ⟨hv1 c, p92 q1 x1 l1 l2 _ h1 hu1 hB1 hL1 hv1 hZ1⟩, fun c => p92 q1 x1 l1 l2 _ h1 hu1 hB1 hL1 hv1 hZ1⟩
    refine kg_X11_compile_58 (d := d + 13) hu1 l1 l2 ⟨fun c => p68 0 gbool_0 ⟨fun _ => c, fun _ => rfl⟩ (fun e => absurd rfl e) (fun _ => hv c), fun c => p68 1 gbool_1 ⟨fun e => absurd e (by decide), fun e => absurd c e⟩ (fun _ => hL c) (fun e => absurd e (by decide))⟩
  refine kg_X11_compile_0 (d := d + 13) hu (kz_forget hu.1 (fun x1 f1 e9 e10 hz hf => ?_))
  have hB1 : Bs x q x1 := by
    have e20 : x1.1 20 1 = x.1 20 1 := f1 _ _ (by unfold sFo; omega)
    refine ⟨fm_w f1 (fun c k => fo_cm), ?_, e10, ⟨hz, hf⟩, e20⟩
    have := hH.1
    unfold kL at this ⊢; rw [e20]; exact this
  have e21 : ∀ k, x1.1 21 k = x.1 21 k := fun k => f1 _ _ (by unfold sFo; omega)
  have eb : kby x1 = kby x := by funext p; unfold kby; rw [e21]
  have el1 : kln x1 = kln x := by unfold kln; rw [hB1.2.2.2.2]
  refine kf_cutq9 (d := d + 3) hu.1 hB1.2.1 (fun x2 e f2 hK => ?_)
  rw [eb, el1] at hK
  have hT2 : kT x2 := hK.2.2.2.1
  have hB2 : Bs x q x2 := Bs_st (fm_w f2 (fun c k q => by unfold skC at q; omega)) hB1
  have z21 : ∀ k, x2.1 21 k = x.1 21 k := fun k => by rw [f2 21 k (by unfold skC; omega)]; exact e21 k
  have hKA := KA_ctq9 hK
  obtain ⟨W, eW⟩ : ∃ W, W = pAl (ctK x2 e) (ctV x2 e) 701 (0, 0, 0, 0, 0) 0 [] := ⟨_, rfl⟩
  refine kh_readAllq9 (d := d) hu.1 hT2 hKA (fun no y fy vy hn => ⟨rfl, ?_⟩) eW (fun y n L hOT hW hk0 hAy hny hHA hHB hTb hCn hCc => ?_)
  · have hBy : Bs x q y := Bs_st (fm_w fy (fun c k q => by unfold sR at q; omega)) hB2
    refine kg_X11_compile_42 (d := d + 13) (kTh_U hu) (kg_X7_tokenHere_0 (kTh_U hu).1 (ri_i ?_))
    refine p58 (kTh q) y _ _ (Or.inr rfl) (kTh_U hu) hBy (fun e => absurd e hn) (fun _ => vy) ⟨x2, e, hK, z21, ⟨fun k => by rw [fy 21 k (by unfold sR; omega)]; exact z21 k, fun k => fy 25 k (by unfold sR; omega)⟩, Or.inr ⟨fun n j L e2 => ?_, hn⟩⟩
    rw [← eW, no] at e2
    exact absurd e2 (by simp)
  · have hBy : Bs x q y := Bs_st (fm_w hOT.2.2.2.2.2.1 (fun c k q => by unfold sR at q; omega)) hB2
    have hkT : kT y := hOT.1.1.1
    have hnx : 0 ≤ nx y := hOT.1.1.2.1
    have hnm : nx y ≤ mt y := hOT.1.1.2.2.2
    have hUS : US y := hOT.1.2.1
    have hFR := hOT.2.1
    have cy := nn_is hnx
    have hmt : (y.1 20 7).toInt ≤ 701 := by
      obtain ⟨-, n, hn, hn2, -⟩ := hkT
      omega
    have y21 : ∀ k, y.1 21 k = x.1 21 k := fun k => by rw [hOT.2.2.2.2.2.1 21 k (by unfold sR; omega)]; exact z21 k
    rw [eW] at hW
    obtain ⟨N9, eN, hok, srt, hbd, -⟩ := pAl_dT 701 _ _ _ _ hW
    have eN : L = N9 := eN
    rw [← eN] at hok srt hbd
    have hT1 : ∀ q ∈ L.filterMap (te1 (ctK x2 e) (ctV x2 e)), ctK x2 e q.1 = 1 ∧ q.1 < nn y := fun q hq => by
      obtain ⟨v, hv, ev⟩ := te_mem hq
      obtain ⟨g1, g2, -⟩ := te_is ev
      refine ⟨?_, (hbd q hq).2⟩
      rw [g2]
      exact (hok v hv).1 (by rcases g1 with g | g | g | g <;> rw [g] <;> decide)
    have hcf := CF_is (sN := smkB x2) (R := smk y) (Vx := y.1 27) (U := y.1 42) (fun a b z => smkB_is.mpr (smk_s (smkB_is.mp z))) (fun a b c z1 z2 => smkB_is.mpr (smk_t (smkB_is.mp z1) (smkB_is.mp z2))) rfl srt hok hT1 (fun a b ha hb ka kb => hAy.2.2.1 a b (by omega) (by omega) ka kb) (fun j hj k2 => hAy.2.1 j (by omega) k2) hHA hHB
    have lt9 : ∀ j : Nat, (j : Int) < (y.1 20 7).toInt → ¬ y.1 42 j = 0 → j < nn y := fun j hj h0 => by
      by_cases c : (j : Int) < nx y
      · omega
      · by_cases heq : (j : Int) = nx y
        · unfold FR at hFR
          have ej : (y.1 100 4).toNatClampNeg = j := by rw [t_cl]; show (nx y).toNat = j; omega
          rw [ej] at hFR
          exact absurd hFR h0
        · exact absurd (hUS.1 j (by omega) (by omega)) h0
    have hmy : mt y = (y.1 20 7).toInt := rfl
    refine kf_judge (d := d + 9) hu.1 hkT hOT.2.2.1.2.1 hTb (fun q hq => ?_) (fun j hj h0 => ?_) (fun j hj h12 => ?_) (fun r z fz hr0 hr1 hr2 hr3 => ?_)
    · obtain ⟨v, -, ev⟩ := te_mem hq
      exact te_srt ev
    · obtain ⟨v, E', hb⟩ := HBs_ex (hHB j (lt9 j hj h0) h0)
      exact HB_u hb
    · have hlt := lt9 j hj (by rw [h12]; decide)
      exact hUS.2 j (by omega) h12
    · have hBz : Bs x q z := Bs_st (fm_w fz (fun c k q => by omega)) hBy
      have emt : mt z = mt y := by unfold mt; rw [fz 20 7 (by omega)]
      have key : r = 0 ↔ ¬ jFl (smkB x2) (ctK x2 e) (ctV x2 e) L := by
        rw [hr2, ← hcf]
        refine ⟨fun g ⟨j, h1, h2⟩ => g ⟨j, by omega, h2⟩, fun g ⟨j, h1, h2⟩ => g ⟨j, lt9 j h1 (CF_n0 h2), h2⟩⟩
      refine p58 q z r _ (Or.inl rfl) hu hBz (fun e => ⟨x2, y, hOT, fm_w fz (fun c k q => by omega), fun j hj => hr0 e j (by rw [emt] at hj; exact hj)⟩) (fun e => ?_) ⟨x2, e, hK, z21, ⟨fun k => by rw [fz 21 k (by omega)]; exact y21 k, fun k => by rw [fz 25 k (by omega)]; exact hOT.2.2.2.2.2.1 25 k (by unfold sR; omega)⟩, ?_⟩
      · have ht := hr1 e
        unfold tk at ht
        obtain ⟨-, n, hn, hn2, -⟩ := hkT
        rw [vp_in_iff]; omega
      · by_cases c0 : r = 0
        · refine Or.inl ⟨n, nn y, L, hW, key.mp c0, c0, CNk_k hCn (fun k hk => fz _ _ (by omega)), CCp_eqq9 (fun c k q => fz c k (by unfold ccSq9 at q; omega)) hCc, TBk_j hTb fz, fun j hj => ?_, fun j hj => ?_, ⟨nn y, ?_, ?_⟩, ?_, by rw [emt]; exact hmt⟩
          · have e42 : z.1 42 = y.1 42 := by funext k; exact fz 42 k (by omega)
            have hj' : (j : Int) < (y.1 20 7).toInt := by rw [emt] at hj; exact hj
            refine ⟨?_, fun z9 => ?_⟩
            · have sm : smk y = smk x2 := smk_e (fun c k q1 q2 => hOT.2.2.2.2.2.1 c k (by unfold sR; omega))
              have er : (fun a b => smkB x2 a b = true) = smk y := by
                funext a b
                rw [sm]
                exact propext smkB_is
              rw [er, e42]
              exact hr3 c0 j hj'
            · have := (hr0 c0 j hj').1
              rw [z9] at this
              revert this
              decide
          · have le : j ≤ e := by
              by_cases cc : j ≤ e
              · exact cc
              · unfold ctK at hj
                rw [if_neg cc] at hj
                exact absurd hj (by decide)
            rw [fz 27 j (by omega)]
            exact hAy.2.1 j le hj
          · have e42 : z.1 42 = y.1 42 := by funext k; exact fz 42 k (by omega)
            rw [e42]; exact hHA
          · rw [emt]; omega
          · have a := tPs_800 (sN := smkB x2) (E := E0v) hW
            have b := hAy.2.2.2.1
            omega
        · refine Or.inr ⟨fun n' j' L' e2 => ?_, c0⟩
          rw [hW] at e2
          have e3 : L = L' := congrArg (fun q : gN × Nat × gU => q.2.2) (Option.some.inj e2)
          rw [← e3]
          exact Classical.byContradiction (fun z => c0 (key.mpr z))
end KBG

section JNT
variable {b b' : Nat → Int32} {n e : Nat} {K V : Nat → Int32} {P Z : Nat → Nat} {x y z w m w' : gd}
/-- bytes; and the lines of the steps are alike -/
def LJxq9 (x w : gd) : Prop := (∀ p, p < (x.1 20 1).toNatClampNeg → (x.1 21 p = 10 ↔ x.1 21 p &&& 255 = 10)) ∧ (¬ x.1 0 9 = 0 → ∀ j : Nat, (j : Int) < (x.1 80 9).toInt → (x.1 81 j).toInt < 16 → x.1 82 j = w.1 63 j)
theorem LJx_kq9 (h : LJxq9 x w) (k : KF x y) (p : PMq9 w w') : LJxq9 y w' := by
  obtain ⟨k1, k2, k3, k4⟩ := k
  obtain ⟨-, p1, p2, p3⟩ := p
  refine ⟨fun q hq => by rw [k3]; exact h.1 q (by rw [← k1]; exact hq), fun h9 j hj ho => ?_⟩
  rw [k2] at h9
  rw [k4 80 9 (by omega)] at hj
  rw [k4 81 j (by omega)] at ho
  rw [k4 82 j (by omega), p3 63 (by decide)]
  exact h.2 h9 j hj ho
theorem TOK_ltq9 {b : Nat → Int32} {n p m : Nat} {k v : Int32} (h : TOK b n p k m v) (h0 : ¬ k = 0) : p < n := by
  rcases h with ⟨-, h⟩ | ⟨h, -⟩ | ⟨h, -⟩ | ⟨h, -⟩
  · exact absurd h h0
  · exact h
  · exact h
  · exact h
/-- the same text -/
def TXsq9 (x w : gd) : Prop := x.1 20 1 = w.1 0 2 ∧ (∀ p, p < (x.1 20 1).toNatClampNeg → x.1 21 p = w.1 2 p) ∧ LJxq9 x w
/-- what the law's loop keeps: the same text, compiled alike, the same counts -/
def JRq9 (x w : gd) : Prop := TXsq9 x w ∧ ((x.1 0 9 = 0 ∧ w.1 0 66 = 0 ∧ z5 w) ∨ (¬ x.1 0 9 = 0 ∧ w.1 0 66 = 1 ∧ x.1 60 6 = w.1 0 23 ∧ x.1 60 9 = w.1 0 24 ∧ x.1 60 10 = w.1 0 25 ∧ x.1 60 14 = w.1 0 26 ∧ x.1 60 16 = w.1 0 27 ∧ ∃ C, CK x C ∧ MK w C ∧ gdC C))
theorem JR_keepq9 (h : JRq9 x w) (k : KF x y) (p : PMq9 w w') : JRq9 y w' := by
  obtain ⟨⟨h1, h2, h4⟩, h3⟩ := h
  have h5 := LJx_kq9 h4 k p
  obtain ⟨k1, k2, k3, k4⟩ := k
  obtain ⟨-, p1, p2, p3⟩ := p
  refine ⟨⟨by rw [k1, p1]; exact h1, fun q hq => by rw [k3, p3 2 (by decide)]; exact h2 q (by rw [← k1]; exact hq), h5⟩, ?_⟩
  unfold z5 at h3 ⊢
  rw [k2, k4 60 6 (by omega), k4 60 9 (by omega), k4 60 10 (by omega), k4 60 14 (by omega), k4 60 16 (by omega), p2 23 (by decide), p2 24 (by decide), p2 25 (by decide), p2 26 (by decide), p2 27 (by decide), p2 66 (by decide)]
  rcases h3 with h3 | ⟨a1, a2, a3, a4, a5, a6, a7, C, c1, c2, c3⟩
  · exact Or.inl h3
  · exact Or.inr ⟨a1, a2, a3, a4, a5, a6, a7, C, CK_f c1 k4, MK_fq9 c2 p2 p3, c3⟩
/-- the code, if there is one -/
theorem JR_Cq9 (h : JRq9 x w) : ∃ C : gCo, (¬ x.1 0 9 = 0 → CK x C ∧ NC C) ∧ (¬ x.1 0 9 = 0 → MK w C) := by
  obtain ⟨-, h | ⟨-, -, -, -, -, -, -, C, c1, c2, c3⟩⟩ := h
  · exact ⟨([], [], [], [], []), fun z => absurd h.1 z, fun z => absurd h.1 z⟩
  · exact ⟨C, fun _ => ⟨c1, c3.1⟩, fun _ => c2⟩
theorem JR_9q9 (h : JRq9 x w) : x.1 0 9 = 0 ↔ w.1 0 66 = 0 := by
  obtain ⟨-, h | h⟩ := h
  · exact ⟨fun _ => h.2.1, fun _ => h.1⟩
  · exact ⟨fun z => absurd z h.1, fun z => absurd (z.symm.trans h.2.1) (by decide)⟩
theorem JR_cntq9 (h : JRq9 x w) {l r r' : Int32} (hr : cntK x l r) (hr' : cntM w l r') : r = r' := by
  obtain ⟨-, h | ⟨h, -, h0, h1, h2, h3, h4, -⟩⟩ := h
  · obtain ⟨h9, -, z0, z1, z2, z3, z4⟩ := h
    rcases hr with ⟨-, hr⟩ | ⟨c, -⟩
    · rw [hr]
      rcases hr' with ⟨-, g⟩ | ⟨-, g⟩ | ⟨-, g⟩ | ⟨-, g⟩ | ⟨-, g⟩
      · rw [g, z0]
      · rw [g, z1]
      · rw [g, z2]
      · rw [g, z3]
      · rw [g, z4]
    · exact absurd h9 c
  · rcases hr with ⟨c, -⟩ | ⟨-, hr⟩
    · exact absurd c h
    · rcases hr with ⟨e, hr⟩ | ⟨e, hr⟩ | ⟨e, hr⟩ | ⟨e, hr⟩ | ⟨e, hr⟩ <;> rcases hr' with ⟨e', g⟩ | ⟨e', g⟩ | ⟨e', g⟩ | ⟨e', g⟩ | ⟨e', g⟩ <;> first | (rw [hr, g]; assumption) | (rw [e] at e'; exact absurd e' (by decide))
theorem JR_compq9 (hT : TXsq9 x w) (hC : CCfq9 x y) (e20 : y.1 20 1 = x.1 20 1) (hM : MCfq9 w w') (e02 : w'.1 0 2 = w.1 0 2) (hcp : ¬ w'.1 0 66 = 0 → CP w') : JRq9 y w' := by
  obtain ⟨z, e, hK, z21, y21, hc⟩ := hC
  obtain ⟨m, e', ts, m2, w2, htk, hm⟩ := hM
  obtain ⟨t1, t2, t3⟩ := hT
  have en : kln x = tln w := by unfold kln tln; rw [t1]
  have eb : ∀ p, p < tln w → kby x p = tby w p := fun p hp => by
    unfold kby tby
    rw [t2 p (by rw [← en] at hp; exact hp)]
  obtain ⟨hts, hmany, hhash, hkT, hln⟩ := hK
  have hts0 := hts
  rw [en] at hts
  obtain ⟨ee, hu⟩ := TSq_u (TSq_c eb hts) ts
  rw [← ee] at ts
  obtain ⟨-, -, -, q4, q5, q6⟩ := hts
  have e700 := ts.1
  have ck : ∀ j, j ≤ e → ctK z e j = kc (z.1 23 j) := fun j hj => by unfold ctK; rw [if_pos hj]
  have kk : ∀ j, j ≤ e → m.1 5 j = ctK z e j := fun j hj => by rw [ck j hj]; exact (hu j hj).2.1.symm
  have aGG : aG (m.1 5) (ctK z e) e := by
    refine ⟨kk, fun j hj h7 h0 h3 => ?_⟩
    by_cases c : j = e
    · rw [c, kk e (Nat.le_refl _), ck e (Nat.le_refl _)] at h0 h3
      rcases q6 with g | g | g
      · exact absurd g h0
      · exact absurd g h3
      · omega
    · omega
  have hV : ∀ j, j ≤ e → m.1 5 j = 2 → m.1 7 j = ctV z e j := fun j hj k2 => by
    have k2' : kc (z.1 23 j) = 2 := by rw [← ck j hj, ← kk j hj]; exact k2
    unfold ctV
    rw [if_pos ⟨hj, k2'⟩]
    exact ((hu j hj).2.2.2 k2').symm
  have epA := (pAl_c aGG hV 701 (0, 0, 0, 0, 0) 0 [] (Nat.zero_le _)).1
  have le1 : ∀ j, ctK z e j = 1 ∨ ctK z e j = 2 → j ≤ e := fun j hj => by
    by_cases c : j ≤ e
    · exact c
    · unfold ctK at hj
      rw [if_neg c] at hj
      rcases hj with g | g <;> exact absurd g (by decide)
  -- names alike
  have hs : ∀ a c, gdN (ctK z e) a → gdN (ctK z e) c → smB m a c = smkB z a c := by
    intro a c ha hc9
    have ha : ctK z e a = 1 := ha
    have hc9 : ctK z e c = 1 := hc9
    have la := le1 a (Or.inl ha)
    have lc := le1 c (Or.inl hc9)
    have ka : kc (z.1 23 a) = 1 := by rw [← ck a la]; exact ha
    have kc' : kc (z.1 23 c) = 1 := by rw [← ck c lc]; exact hc9
    obtain ⟨pa, -, za, -⟩ := hu a la
    obtain ⟨pc, -, zc, -⟩ := hu c lc
    have za := za (by show ¬ kc (z.1 23 a) = 3; rw [ka]; decide) (by show ¬ kc (z.1 23 a) = 0; rw [ka]; decide)
    have zc := zc (by show ¬ kc (z.1 23 c) = 3; rw [kc']; decide) (by show ¬ kc (z.1 23 c) = 0; rw [kc']; decide)
    have ba := q4 a la
    have bc := q4 c lc
    have ba : TOK (kby x) (tln w) (kP' z a) (kc (z.1 23 a)) (kZ' z a) (z.1 27 a) := ba
    have bc : TOK (kby x) (tln w) (kP' z c) (kc (z.1 23 c)) (kZ' z c) (z.1 27 c) := bc
    rw [ka] at ba
    rw [kc'] at bc
    have ba := TOK_1 ba
    have bc := TOK_1 bc
    have na : z.1 23 a = 2 := kc_i (c := 2) (by rw [ka]; decide) (by decide)
    have nc : z.1 23 c = 2 := kc_i (c := 2) (by rw [kc']; decide) (by decide)
    have many : ∀ j, j ≤ e → z.1 23 j = 2 → (j : Int) < (z.1 20 7).toInt := fun j hj h2 => by
      rcases hmany with ⟨g1, g2⟩ | ⟨g1, g2⟩
      · by_cases c : j = e
        · rw [c, g1] at h2
          exact absurd h2 (by decide)
        · omega
      · omega
    obtain ⟨-, N, eN, hN, hw, -⟩ := hkT
    have wa := (hw a (by have := many a la na; omega)).1
    have wc := (hw c (by have := many c lc nc; omega)).1
    have ta := htk a (by omega)
    have tc := htk c (by omega)
    have ua := t_cl (z.1 26 a)
    have uc := t_cl (z.1 26 c)
    have va := t_cl (m.1 8 a)
    have vc := t_cl (m.1 8 c)
    have za : (z.1 26 a).toNatClampNeg = (m.1 8 a).toNatClampNeg := za
    have zc : (z.1 26 c).toNatClampNeg = (m.1 8 c).toNatClampNeg := zc
    have pa : (z.1 24 a).toNatClampNeg = (m.1 6 a).toNatClampNeg := pa
    have pc : (z.1 24 c).toNatClampNeg = (m.1 6 c).toNatClampNeg := pc
    have ba : (z.1 24 a).toNatClampNeg + (z.1 26 a).toNatClampNeg ≤ tln w := ba
    have bc : (z.1 24 c).toNatClampNeg + (z.1 26 c).toNatClampNeg ≤ tln w := bc
    have sz : z.1 26 a = z.1 26 c ↔ m.1 8 a = m.1 8 c := by
      rw [t_eq, t_eq]; omega
    have by' : ∀ p, p < tln w → z.1 21 p = m.1 2 p := fun p hp => by rw [z21, m2]; exact t2 p (by rw [← en] at hp; exact hp)
    have key : smx m a c ↔ smk z a c := by
      unfold smx smk
      constructor
      · rintro ⟨g1, g2⟩
        have s1 := sz.mpr g1
        have g2' : ∀ i, i < (z.1 26 a).toNatClampNeg → z.1 21 ((z.1 24 a).toNatClampNeg + i) = z.1 21 ((z.1 24 c).toNatClampNeg + i) := fun i hi => by
          rw [by' _ (by omega), by' _ (by rw [s1] at hi; omega), pa, pc]
          exact g2 i (by omega)
        refine ⟨?_, s1, g2'⟩
        rw [hhash a la na, hhash c lc nc]
        have ez : kZ' z a = kZ' z c := by show (z.1 26 a).toNatClampNeg = (z.1 26 c).toNatClampNeg; rw [s1]
        rw [← ez]
        exact hsh_c (fun i hi => by unfold kby; rw [← z21, ← z21]; exact congrArg (· &&& 255) (g2' i hi))
      · rintro ⟨-, g1, g2⟩
        refine ⟨sz.mp g1, fun i hi => ?_⟩
        rw [← pa, ← pc, ← by' _ (by omega), ← by' _ (by rw [g1] at za; omega)]
        exact g2 i (by omega)
    have kb : smB m a c = true ↔ smkB z a c = true := by rw [smB_is, smkB_is]; exact key
    cases h1 : smB m a c <;> cases h2 : smkB z a c
    · rfl
    · exact absurd (kb.mpr h2) (by rw [h1]; decide)
    · exact absurd (kb.mp h1) (by rw [h2]; decide)
    · rfl
  have hjf : ∀ n j L, pAl (ctK z e) (ctV z e) 701 (0, 0, 0, 0, 0) 0 [] = some (n, j, L) → (jFl (smB m) (m.1 5) (m.1 7) L ↔ jFl (smkB z) (ctK z e) (ctV z e) L) := fun n j L hp => by
    obtain ⟨N, eN, hN⟩ := pAl_oZ 701 _ _ _ _ hp
    have eN : L = N := eN
    rw [← eN] at hN
    exact jFl_c (fun j hj => kk j (le1 j hj)) hs (fun j hj => hV j (le1 j (Or.inr hj)) (by rw [kk j (le1 j (Or.inr hj))]; exact hj)) hN
  have htx : (¬ y.1 0 9 = 0 → ∀ j : Nat, (j : Int) < (y.1 80 9).toInt → (y.1 81 j).toInt < 16 → y.1 82 j = w'.1 63 j) → TXsq9 y w' := fun lj => ⟨by rw [e20, e02]; exact t1, fun p hp => by rw [y21, w2]; exact t2 p (by rw [← e20]; exact hp), fun p hp => by rw [y21]; exact t3.1 p (by rw [← e20]; exact hp), lj⟩
  rw [epA] at hm
  rcases hc with ⟨n, j, L, c1, c2, c3, c4, c5, c6⟩ | ⟨c1, c2⟩
  · rcases hm with ⟨n', j', L', m1, m3, m4, m5, m6, m7⟩ | ⟨m1, -⟩
    · rw [c1] at m1
      have en' : n = n' := congrArg (fun q : gN × Nat × gU => q.1) (Option.some.inj m1)
      have eL' : L = L' := congrArg (fun q : gN × Nat × gU => q.2.2) (Option.some.inj m1)
      rw [← eL'] at m6
      have hw := cod_ok c1 c2
      have hz0 : ∀ j, ¬ ctK z e j = 0 → j ≤ e := fun j hj => by
        by_cases cj : j ≤ e
        · exact cj
        · unfold ctK at hj
          rw [if_neg cj] at hj
          exact absurd rfl hj
      have ecd : cds (smB m) (m.1 5) L cd0 = cds (smkB z) (ctK z e) L cd0 := by
        obtain ⟨N, eN, hN⟩ := pAl_oZ 701 _ _ _ _ c1
        have eN : L = N := eN
        rw [← eN] at hN
        obtain ⟨N2, eN2, hN2⟩ := pAl_oY 701 _ _ _ _ c1
        have eN2 : L = N2 := eN2
        rw [← eN2] at hN2
        exact (cds_c (c := cd0) hs (fun j hj => kk j (hz0 j hj)) (fun v hv => ⟨hN v hv, hN2 v hv⟩) ⟨fun k hk => (by cases hk), fun a z => (by cases z), fun st hst => by cases hst⟩).1
      have lns : ∀ j : Nat, (j : Int) < (y.1 80 9).toInt → (y.1 81 j).toInt < 16 → y.1 82 j = w'.1 63 j := by
        intro j9 hj9 ho9
        have e9 : (y.1 80 9).toInt = ((codN (smkB z) (ctV z e) (ctK z e) L).1.length : Nat) := c5.1.1
        have e8 : (codN (smkB z) (ctV z e) (ctK z e) L).1.length = (cds (smkB z) (ctK z e) L cd0).2.1.length := List.length_map _
        obtain ⟨st, hst⟩ : ∃ st, (cds (smkB z) (ctK z e) L cd0).2.1[j9]? = some st := ⟨_, List.getElem?_eq_getElem (by omega)⟩
        obtain ⟨q1, q2⟩ := c6 j9 st hst ho9
        have hns : (codN (smkB z) (ctV z e) (ctK z e) L).1[j9]? = some (nStp (smkB z) (L.filterMap (te1 (ctK z e) (ctV z e))) (ctV z e) (ctK z e) st) := by
          show ((cds (smkB z) (ctK z e) L cd0).2.1.map _)[j9]? = _
          rw [List.getElem?_map, hst]
          rfl
        have n22 : st.1 < 22 := ((NC_of hw).1 j9 _ hns).1.1
        have k81 : y.1 81 j9 = Int32.ofNat st.1 := (c5.1.2 j9 _ hns).1
        have o16 : st.1 < 16 := by
          rw [k81, Int32.toInt_ofNat_of_lt (by omega)] at ho9
          omega
        have le := hz0 _ q2
        have e63 := (m6.1.2 j9 st (by rw [ecd]; exact hst)).2.2.2.2.2.2.2.2.2 o16
        have kc0 : ¬ kc (z.1 23 st.2.1) = 0 := by rw [← ck _ le]; exact q2
        have z0 : ¬ z.1 23 st.2.1 = 0 := fun q => kc0 (by rw [q]; decide)
        have lt9 : kP' z st.2.1 < tln w := TOK_ltq9 (q4 _ le) kc0
        have eP : kP' z st.2.1 = tP m st.2.1 := (hu _ le).1
        rw [q1, hln _ le z0, e63]
        unfold LNmq9
        rw [w2, m7]
        show _ = lnBq9 (w.1 2) (tP m st.2.1)
        rw [← eP]
        refine lnB_cq9 (fun i hi => ?_)
        have hi2 : i < (x.1 20 1).toNatClampNeg := by
          have : kln x = (x.1 20 1).toNatClampNeg := rfl
          omega
        unfold kby
        rw [← t2 i hi2]
        exact (t3.1 i hi2).symm
      have ec : codN (smB m) (m.1 7) (m.1 5) L = codN (smkB z) (ctV z e) (ctK z e) L := by
        obtain ⟨N, eN, hN⟩ := pAl_oZ 701 _ _ _ _ c1
        have eN : L = N := eN
        rw [← eN] at hN
        obtain ⟨N2, eN2, hN2⟩ := pAl_oY 701 _ _ _ _ c1
        have eN2 : L = N2 := eN2
        rw [← eN2] at hN2
        refine codN_c hs (fun j hj => ?_) (fun j hj => ?_) (fun v hv => ⟨hN v hv, hN2 v hv⟩) hw
        · by_cases cj : j ≤ e
          · exact kk j cj
          · unfold ctK at hj
            rw [if_neg cj] at hj
            exact absurd rfl hj
        · have lj := le1 j (Or.inr hj)
          exact hV j lj (by rw [kk j lj]; exact hj)
      have mk := MCo_MKq9 m6
      rw [ec] at mk
      obtain ⟨⟨g1, g1', g2, -, g3, -, g4, -, g5, -⟩, -⟩ := hcp (by rw [m4]; decide)
      have l24 : (cel (ctK z e) (ctV z e) L).length ≤ 24 := by
        have e9 : (w'.1 0 23).toInt = ((cel (ctK z e) (ctV z e) L).length : Nat) := mk.2.2.1.1
        omega
      obtain ⟨n1, n2, n3, n4, n5⟩ := c4
      rw [← en'] at m5
      refine ⟨htx (fun _ => lns), Or.inr ⟨c3, m4, clq n1 (congrArg (fun q : gN => q.1) m5) g1, clq n2 (congrArg (fun q : gN => q.2.1) m5) g2, clq n3 (congrArg (fun q : gN => q.2.2.1) m5) g3, clq n4 (congrArg (fun q : gN => q.2.2.2.1) m5) g4, clq n5 (congrArg (fun q : gN => q.2.2.2.2) m5) g5, _, c5, mk, NC_of hw, NX2_of hw, NX3_of (pAl_cP 701 _ _ _ _ celP_0 c1) l24 hw, NCu_of c1 c2 l24⟩⟩
    · exact absurd ((hjf n j L c1).mp (m1 n j L c1)) c2
  · rcases hm with ⟨n', j', L', m1, m3, m4, m5, -⟩ | ⟨-, m4, m5⟩
    · exact absurd ((hjf n' j' L' m1).mpr (c1 n' j' L' m1)) m3
    · exact ⟨htx (fun z => absurd c2 z), Or.inl ⟨c2, m4, m5⟩⟩
end JNT

section BYT
variable {x y w w' : gd}
theorem nar_10q9 (u : Int8) : vp_nar .byte u.toInt32 = 10 ↔ vp_nar .byte u.toInt32 &&& 255 = 10 := by
  have key : ∀ n : Fin 256, (vp_nar .byte (Int8.ofBitVec (BitVec.ofFin (w := 8) n)).toInt32 = 10 ↔ vp_nar .byte (Int8.ofBitVec (BitVec.ofFin (w := 8) n)).toInt32 &&& 255 = 10) := by decide +kernel
  exact key u.toBitVec.toFin
theorem FBk_10q9 {l : Int64} {j : Nat} : FBk l j = 10 ↔ FBk l j &&& 255 = 10 := nar_10q9 _
theorem JR_feedq9 (h : JRq9 x w) {n : Int32} {l : Int64} (hn : 1 ≤ n.toInt ∧ n.toInt ≤ 8 ∧ (x.1 20 1).toInt + n.toInt ≤ 3000) (hL : 0 ≤ (x.1 20 1).toInt) (e1 : (y.1 20 1).toInt = (x.1 20 1).toInt + n.toInt) (e9 : y.1 0 9 = 0) (fb : FBc x l n.toInt.toNat y) (e2 : w'.1 0 2 = w.1 0 2 + n) (fm' : FBm w l n.toNatClampNeg w') (e66 : w'.1 0 66 = 0) (hz : z5 w') : JRq9 y w' := by
  obtain ⟨⟨t1, t2, t3⟩, -⟩ := h
  have u1 := t_cl (x.1 20 1)
  have u2 := t_cl (y.1 20 1)
  have u3 := t_cl n
  refine ⟨⟨?_, fun p hp => ?_, fun p hp => ?_, fun z => absurd e9 z⟩, Or.inl ⟨e9, e66, hz⟩⟩
  · rw [t_eq, e1, e2, ← t1, t_add (by omega) (by omega)]
  · have t1' : (x.1 20 1).toNatClampNeg = (w.1 0 2).toNatClampNeg := by rw [t1]
    by_cases c : p < (x.1 20 1).toNatClampNeg
    · rw [fb.1 p c, fm'.1 p (by omega)]
      exact t2 p c
    · obtain ⟨j, ej⟩ : ∃ j, p = (x.1 20 1).toNatClampNeg + j := ⟨p - (x.1 20 1).toNatClampNeg, by omega⟩
      have hj : j < n.toInt.toNat := by omega
      rw [ej, fb.2 j hj, t1', fm'.2 j (by omega)]
      exact FB_same (by omega)
  · by_cases c : p < (x.1 20 1).toNatClampNeg
    · rw [fb.1 p c]; exact t3.1 p c
    · obtain ⟨j, ej⟩ : ∃ j, p = (x.1 20 1).toNatClampNeg + j := ⟨p - (x.1 20 1).toNatClampNeg, by omega⟩
      have hj : j < n.toInt.toNat := by omega
      rw [ej, fb.2 j hj]
      exact FBk_10q9
theorem JR_wipeq9 (e1 : y.1 20 1 = 0) (e9 : y.1 0 9 = 0) (e2 : w'.1 0 2 = 0) (e66 : w'.1 0 66 = 0) (hz : z5 w') : JRq9 y w' := by
  refine ⟨⟨by rw [e1, e2], fun p hp => ?_, fun p hp => ?_, fun z => absurd e9 z⟩, Or.inl ⟨e9, e66, hz⟩⟩
  all_goals
    rw [e1] at hp
    exact absurd hp (Nat.not_lt_zero _)
theorem JR_xq9 {x1 : gd} (e : x1.1 = x.1) (h : JRq9 x w) : JRq9 x1 w := by
  have k : ∀ {C : gCo}, CK x C → CK x1 C := fun h => CK_f h (fun c k _ => by rw [e])
  unfold JRq9 TXsq9 LJxq9 at h ⊢
  rw [e]
  obtain ⟨h1, h2⟩ := h
  refine ⟨h1, h2.imp id (fun ⟨a1, a2, a3, a4, a5, a6, a7, C, c1, c2, c3⟩ => ⟨a1, a2, a3, a4, a5, a6, a7, C, k c1, c2, c3⟩)⟩
end BYT

section KRX
variable {x y z : gd} {q : kP} {C : gCo} {w n o : Nat} {c : Nat → Nat} {T : gTy}
end KRX
section KFR8
variable {G : kG} {q q0 q1 : kP} {d : Nat} {x x0 y z : gd} {o : Nat} {F : Int32 → gd → Prop} {Fv : gd → Prop} {P : Option gv → gd → Prop} {X : String → gd → Prop}
end KFR8
section KFR9
variable {G : kG} {q q0 q1 : kP} {d : Nat} {x x0 y z : gd} {o : Nat} {P : Option gv → gd → kP → Prop} {X : String → gd → kP → Prop}
theorem kr_compileq9 (hu : kU q) (hH : HOI x q) (hP : ∀ r y q1, (q1 = q ∨ q1 = kTh q) → kU q1 → HOI y q1 → y.1 20 1 = x.1 20 1 → CCfq9 x y → ZR y → P (some (vi r)) y q1) : KM G q (d + 14) zk_X11_compile 0 [(0, vr 0)] [] x P X := by
  have hfin : ∀ (r : Int32) (y : gd) (q1 : kP), (q1 = q ∨ q1 = kTh q) → Bs x q y → (¬ y.1 0 9 = 0 → CO y) → CCfq9 x y → P (some (vi r)) y q1 := by
    intro r y q1 h1 hB hC hcf
    obtain ⟨b1, b2, b3, ⟨b4, b5⟩, b6⟩ := hB
    have hh : HOI y q := HOI_z b1 b2 hC b3 b4 hH b5
    rcases h1 with e | e
    · subst e; exact hP r y _ (Or.inl rfl) hu hh b6 hcf (ZR_of b3 b4 hh)
    · subst e; exact hP r y _ (Or.inr rfl) (kTh_U hu) (HOI_th hh) b6 hcf (ZR_of b3 b4 hh)
  have p116 : ∀ (q1 : kP) (y : gd) (l1 s0 : Int32), (q1 = q ∨ q1 = kTh q) → kU q1 → Bs x q y → (¬ y.1 0 9 = 0 → LPre y) → CCzq9 x y → KM G q1 (d + 14) zk_X11_compile 116 [(0, vr 0), (1, vi l1)] [vi s0, vr 0] y P X := by
    intro q1 y l1 s0 h1 hu1 hB hL hZ
    refine kg_X11_compile_116 (d := d + 13) hu1 l1 s0 (fun x1 e1 => ?_)
    have f1 : fm (fun c k => c = 0 ∧ k = 12) y x1 := by rw [e1]; exact fm_si (fm_rf _ _) ⟨rfl, rfl⟩
    have hB1 : Bs x q x1 := Bs_st (fm_w f1 (fun c k q => by omega)) hB
    have e9 : x1.1 0 9 = y.1 0 9 := f1 _ _ (by omega)
    refine ⟨fun c => ?_, fun c => hfin _ x1 q1 h1 hB1 (fun e => absurd c e) (CCz_fq9 (CCz_stq9 (fm_w f1 (fun c k q => by omega)) hZ) c)⟩
    have c9 := c
    rw [e9] at c
    obtain ⟨a, b, o1, o2, o3⟩ := LPre_0 (fm_w f1 (fun c k q => q.1)) (hL c)
    refine kf_link hu1.1 (OT_j o2 o1) o3 (fun w hC fw lk1 lk2 => ?_)
    exact hfin _ w q1 h1 (Bs_st (fm_w fw (fun c k q => by omega)) hB1) (fun _ => hC) (CCz_lkq9 (CCz_stq9 (fm_w f1 (fun c k q => by omega)) hZ) c9 fw lk1 lk2)
  have p92 : ∀ (q1 : kP) (y : gd) (l1 l2 s0 : Int32), (q1 = q ∨ q1 = kTh q) → kU q1 → Bs x q y → (¬ y.1 0 9 = 0 → LPre y) → (y.1 0 9 = 0 → vp_in l2 702) → CCzq9 x y → KM G q1 (d + 14) zk_X11_compile 92 [(0, vr 0), (1, vi l1), (2, vi l2)] [vi s0, vr 0] y P X := by
    intro q1 y l1 l2 s0 h1 hu1 hB hL hv hZ
    refine kg_X11_compile_92 (d := d + 13) hu1 l1 l2 s0 (fun x1 e1 => ?_)
    have f1 : fm (fun c k => c = 0 ∧ k = 11) y x1 := by rw [e1]; exact fm_si (fm_rf _ _) ⟨rfl, rfl⟩
    have hB1 : Bs x q x1 := Bs_st (fm_w f1 (fun c k q => by omega)) hB
    have e9 : x1.1 0 9 = y.1 0 9 := f1 _ _ (by omega)
    have hL1 : ¬ x1.1 0 9 = 0 → LPre x1 := fun c => LPre_0 (fm_w f1 (fun c k q => q.1)) (hL (by rw [← e9]; exact c))
    have hZ1 := CCz_stq9 (fm_w f1 (fun c k q => by omega)) hZ
    exact ⟨fun c => ⟨hv (by rw [← e9]; exact c), p116 q1 x1 l1 _ h1 hu1 hB1 hL1 hZ1⟩, fun c => p116 q1 x1 l1 _ h1 hu1 hB1 hL1 hZ1⟩
  have p58 : ∀ (q1 : kP) (y : gd) (l1 l2 : Int32), (q1 = q ∨ q1 = kTh q) → kU q1 → Bs x q y → (l1 = 0 → LPre y) → (¬ l1 = 0 → vp_in l2 702) → CCvq9 x y l1 → KM G q1 (d + 14) zk_X11_compile 58 [(0, vr 0), (1, vi l1), (2, vi l2)] [] y P X := by
    intro q1 y l1 l2 h1 hu1 hB hL hv hZ
    have p68 : ∀ s0 : Int32, gbool s0 → (s0 = 0 ↔ ¬ l1 = 0) → (¬ s0 = 0 → LPre y) → (s0 = 0 → vp_in l2 702) → KM G q1 (d + 14) zk_X11_compile 68 [(0, vr 0), (1, vi l1), (2, vi l2)] [vi s0, vr 0] y P X := by
      intro s0 g hs9 hL0 hv0
      refine kg_X11_compile_68 (d := d + 13) hu1 l1 l2 s0 ⟨g, fun x1 e1 => ?_⟩
      have f1 : fm (fun c k => c = 0 ∧ k = 9) y x1 := by rw [e1]; exact fm_si (fm_rf _ _) ⟨rfl, rfl⟩
      have hB1 : Bs x q x1 := Bs_st (fm_w f1 (fun c k q => by omega)) hB
      have e9 : x1.1 0 9 = s0 := by rw [e1, si_get, if_pos ⟨rfl, rfl⟩]
      have hL1 : ¬ x1.1 0 9 = 0 → LPre x1 := fun c => LPre_0 (fm_w f1 (fun c k q => q.1)) (hL0 (by rw [← e9]; exact c))
      have hv1 : x1.1 0 9 = 0 → vp_in l2 702 := fun c => hv0 (by rw [← e9]; exact c)
      have hZ1 : CCzq9 x x1 := CCv_zq9 f1 (by rw [e9]; exact hs9) hZ
      exact ⟨fun c => ⟨hv1 c, p92 q1 x1 l1 l2 _ h1 hu1 hB1 hL1 hv1 hZ1⟩, fun c => p92 q1 x1 l1 l2 _ h1 hu1 hB1 hL1 hv1 hZ1⟩
    refine kg_X11_compile_58 (d := d + 13) hu1 l1 l2 ⟨fun c => p68 0 gbool_0 ⟨fun _ => c, fun _ => rfl⟩ (fun e => absurd rfl e) (fun _ => hv c), fun c => p68 1 gbool_1 ⟨fun e => absurd e (by decide), fun e => absurd c e⟩ (fun _ => hL c) (fun e => absurd e (by decide))⟩
  refine kg_X11_compile_0 (d := d + 13) hu (kz_forget hu.1 (fun x1 f1 e9 e10 hz hf => ?_))
  have hB1 : Bs x q x1 := by
    have e20 : x1.1 20 1 = x.1 20 1 := f1 _ _ (by unfold sFo; omega)
    refine ⟨fm_w f1 (fun c k => fo_cm), ?_, e10, ⟨hz, hf⟩, e20⟩
    have := hH.1
    unfold kL at this ⊢; rw [e20]; exact this
  have e21 : ∀ k, x1.1 21 k = x.1 21 k := fun k => f1 _ _ (by unfold sFo; omega)
  have eb : kby x1 = kby x := by funext p; unfold kby; rw [e21]
  have el1 : kln x1 = kln x := by unfold kln; rw [hB1.2.2.2.2]
  refine kf_cutq9 (d := d + 3) hu.1 hB1.2.1 (fun x2 e f2 hK => ?_)
  rw [eb, el1] at hK
  have hT2 : kT x2 := hK.2.2.2.1
  have hB2 : Bs x q x2 := Bs_st (fm_w f2 (fun c k q => by unfold skC at q; omega)) hB1
  have z21 : ∀ k, x2.1 21 k = x.1 21 k := fun k => by rw [f2 21 k (by unfold skC; omega)]; exact e21 k
  have hKA := KA_ctq9 hK
  obtain ⟨W, eW⟩ : ∃ W, W = pAl (ctK x2 e) (ctV x2 e) 701 (0, 0, 0, 0, 0) 0 [] := ⟨_, rfl⟩
  refine kh_readAllq9 (d := d) hu.1 hT2 hKA (fun no y fy vy hn => ⟨rfl, ?_⟩) eW (fun y n L hOT hW hk0 hAy hny hHA hHB hTb hCn hCc => ?_)
  · have hBy : Bs x q y := Bs_st (fm_w fy (fun c k q => by unfold sR at q; omega)) hB2
    refine kg_X11_compile_42 (d := d + 13) (kTh_U hu) (kg_X7_tokenHere_0 (kTh_U hu).1 (ri_i ?_))
    refine p58 (kTh q) y _ _ (Or.inr rfl) (kTh_U hu) hBy (fun e => absurd e hn) (fun _ => vy) ⟨x2, e, hK, z21, ⟨fun k => by rw [fy 21 k (by unfold sR; omega)]; exact z21 k, fun k => fy 25 k (by unfold sR; omega)⟩, Or.inr ⟨fun n j L e2 => ?_, hn⟩⟩
    rw [← eW, no] at e2
    exact absurd e2 (by simp)
  · have hBy : Bs x q y := Bs_st (fm_w hOT.2.2.2.2.2.1 (fun c k q => by unfold sR at q; omega)) hB2
    have hkT : kT y := hOT.1.1.1
    have hnx : 0 ≤ nx y := hOT.1.1.2.1
    have hnm : nx y ≤ mt y := hOT.1.1.2.2.2
    have hUS : US y := hOT.1.2.1
    have hFR := hOT.2.1
    have cy := nn_is hnx
    have hmt : (y.1 20 7).toInt ≤ 701 := by
      obtain ⟨-, n, hn, hn2, -⟩ := hkT
      omega
    have y21 : ∀ k, y.1 21 k = x.1 21 k := fun k => by rw [hOT.2.2.2.2.2.1 21 k (by unfold sR; omega)]; exact z21 k
    rw [eW] at hW
    obtain ⟨N9, eN, hok, srt, hbd, -⟩ := pAl_dT 701 _ _ _ _ hW
    have eN : L = N9 := eN
    rw [← eN] at hok srt hbd
    have hT1 : ∀ q ∈ L.filterMap (te1 (ctK x2 e) (ctV x2 e)), ctK x2 e q.1 = 1 ∧ q.1 < nn y := fun q hq => by
      obtain ⟨v, hv, ev⟩ := te_mem hq
      obtain ⟨g1, g2, -⟩ := te_is ev
      refine ⟨?_, (hbd q hq).2⟩
      rw [g2]
      exact (hok v hv).1 (by rcases g1 with g | g | g | g <;> rw [g] <;> decide)
    have hcf := CF_is (sN := smkB x2) (R := smk y) (Vx := y.1 27) (U := y.1 42) (fun a b z => smkB_is.mpr (smk_s (smkB_is.mp z))) (fun a b c z1 z2 => smkB_is.mpr (smk_t (smkB_is.mp z1) (smkB_is.mp z2))) rfl srt hok hT1 (fun a b ha hb ka kb => hAy.2.2.1 a b (by omega) (by omega) ka kb) (fun j hj k2 => hAy.2.1 j (by omega) k2) hHA hHB
    have lt9 : ∀ j : Nat, (j : Int) < (y.1 20 7).toInt → ¬ y.1 42 j = 0 → j < nn y := fun j hj h0 => by
      by_cases c : (j : Int) < nx y
      · omega
      · by_cases heq : (j : Int) = nx y
        · unfold FR at hFR
          have ej : (y.1 100 4).toNatClampNeg = j := by rw [t_cl]; show (nx y).toNat = j; omega
          rw [ej] at hFR
          exact absurd hFR h0
        · exact absurd (hUS.1 j (by omega) (by omega)) h0
    have hmy : mt y = (y.1 20 7).toInt := rfl
    refine kf_judge (d := d + 9) hu.1 hkT hOT.2.2.1.2.1 hTb (fun q hq => ?_) (fun j hj h0 => ?_) (fun j hj h12 => ?_) (fun r z fz hr0 hr1 hr2 hr3 => ?_)
    · obtain ⟨v, -, ev⟩ := te_mem hq
      exact te_srt ev
    · obtain ⟨v, E', hb⟩ := HBs_ex (hHB j (lt9 j hj h0) h0)
      exact HB_u hb
    · have hlt := lt9 j hj (by rw [h12]; decide)
      exact hUS.2 j (by omega) h12
    · have hBz : Bs x q z := Bs_st (fm_w fz (fun c k q => by omega)) hBy
      have emt : mt z = mt y := by unfold mt; rw [fz 20 7 (by omega)]
      have key : r = 0 ↔ ¬ jFl (smkB x2) (ctK x2 e) (ctV x2 e) L := by
        rw [hr2, ← hcf]
        refine ⟨fun g ⟨j, h1, h2⟩ => g ⟨j, by omega, h2⟩, fun g ⟨j, h1, h2⟩ => g ⟨j, lt9 j h1 (CF_n0 h2), h2⟩⟩
      refine p58 q z r _ (Or.inl rfl) hu hBz (fun e => ⟨x2, y, hOT, fm_w fz (fun c k q => by omega), fun j hj => hr0 e j (by rw [emt] at hj; exact hj)⟩) (fun e => ?_) ⟨x2, e, hK, z21, ⟨fun k => by rw [fz 21 k (by omega)]; exact y21 k, fun k => by rw [fz 25 k (by omega)]; exact hOT.2.2.2.2.2.1 25 k (by unfold sR; omega)⟩, ?_⟩
      · have ht := hr1 e
        unfold tk at ht
        obtain ⟨-, n, hn, hn2, -⟩ := hkT
        rw [vp_in_iff]; omega
      · by_cases c0 : r = 0
        · refine Or.inl ⟨n, nn y, L, hW, key.mp c0, c0, CNk_k hCn (fun k hk => fz _ _ (by omega)), CCp_eqq9 (fun c k q => fz c k (by unfold ccSq9 at q; omega)) hCc, TBk_j hTb fz, fun j hj => ?_, fun j hj => ?_, ⟨nn y, ?_, ?_⟩, ?_, by rw [emt]; exact hmt⟩
          · have e42 : z.1 42 = y.1 42 := by funext k; exact fz 42 k (by omega)
            have hj' : (j : Int) < (y.1 20 7).toInt := by rw [emt] at hj; exact hj
            refine ⟨?_, fun z9 => ?_⟩
            · have sm : smk y = smk x2 := smk_e (fun c k q1 q2 => hOT.2.2.2.2.2.1 c k (by unfold sR; omega))
              have er : (fun a b => smkB x2 a b = true) = smk y := by
                funext a b
                rw [sm]
                exact propext smkB_is
              rw [er, e42]
              exact hr3 c0 j hj'
            · have := (hr0 c0 j hj').1
              rw [z9] at this
              revert this
              decide
          · have le : j ≤ e := by
              by_cases cc : j ≤ e
              · exact cc
              · unfold ctK at hj
                rw [if_neg cc] at hj
                exact absurd hj (by decide)
            rw [fz 27 j (by omega)]
            exact hAy.2.1 j le hj
          · have e42 : z.1 42 = y.1 42 := by funext k; exact fz 42 k (by omega)
            rw [e42]; exact hHA
          · rw [emt]; omega
          · have a := tPs_800 (sN := smkB x2) (E := E0v) hW
            have b := hAy.2.2.2.1
            omega
        · refine Or.inr ⟨fun n' j' L' e2 => ?_, c0⟩
          rw [hW] at e2
          have e3 : L = L' := congrArg (fun q : gN × Nat × gU => q.2.2) (Option.some.inj e2)
          rw [← e3]
          exact Classical.byContradiction (fun z => c0 (key.mpr z))
end KFR9

def JHq9 (C : gCo) (wr n : Nat) (lm : Nat → Nat) (x w : gd) : Prop := TXsq9 x w ∧ (((x.1 0 9 = 0 ∧ w.1 0 66 = 0 ∧ z5 w) ∧ ZR x ∧ ZM w ∧ C = ([], [], [], [], [])) ∨ (JC C x w ∧ RNw C wr n x w ∧ TRw C lm x w))
def JR3q9 (x w : gd) : Prop := ∃ (C : gCo) (wr n : Nat) (lm : Nat → Nat), JHq9 C wr n lm x w
section JN3
variable {C : gCo} {wr n : Nat} {lm : Nat → Nat} {x y w w' : gd} {q : kP} {l l1 l2 : Int32}
theorem JH_gcq9 (h : JHq9 C wr n lm x w) (hH : HOI x q) : GC C ∧ NX3 C := by
  obtain ⟨-, ⟨-, -, -, e⟩ | ⟨j, -, -⟩⟩ := h
  · rw [e]; exact ⟨GC_0, NX3_0⟩
  · have := JC_C (hH.2.1 j.1.1) j
    exact ⟨this.1, this.2.1⟩
theorem JH_9q9 (h : JHq9 C wr n lm x w) : x.1 0 9 = 0 ↔ w.1 0 66 = 0 := by
  obtain ⟨-, ⟨a, -⟩ | ⟨j, -⟩⟩ := h
  · exact ⟨fun _ => a.2.1, fun _ => a.1⟩
  · exact ⟨fun z => absurd z j.1.1, fun z => absurd (z.symm.trans j.1.2.1) (by decide)⟩
theorem JH_10q9 (h : JHq9 C wr n lm x w) : x.1 0 10 = 0 ↔ w.1 0 67 = 0 := by
  obtain ⟨-, ⟨-, z, m, -⟩ | ⟨-, r, -⟩⟩ := h
  · exact ⟨fun _ => m.1, fun _ => z.1⟩
  · rcases r with ⟨a, b⟩ | ⟨a, b, -⟩
    · exact ⟨fun _ => b, fun _ => a⟩
    · exact ⟨fun z => absurd z a, fun z => absurd z b⟩
theorem JH_Kq9 (h : JHq9 C wr n lm x w) (h9 : ¬ x.1 0 9 = 0) : JC C x w := by
  obtain ⟨-, ⟨a, -⟩ | ⟨j, -⟩⟩ := h
  · exact absurd a.1 h9
  · exact j
theorem JH_Rq9 (h : JHq9 C wr n lm x w) (h10 : ¬ x.1 0 10 = 0) : JC C x w ∧ KRun C wr n (c96 w) x ∧ HistC C wr w ∧ (w.1 0 94).toInt = (n : Nat) := by
  obtain ⟨-, ⟨-, z, -⟩ | ⟨j, r, -⟩⟩ := h
  · exact absurd z.1 h10
  · rcases r with ⟨a, -⟩ | ⟨-, -, r⟩
    · exact absurd a h10
    · exact ⟨j, r⟩
/-- as many choices -/
theorem JH_84q9 (h : JHq9 C wr n lm x w) (h10 : ¬ x.1 0 10 = 0) : x.1 120 13 = w.1 0 84 := by
  obtain ⟨-, r, hh, e94⟩ := JH_Rq9 h h10
  have e1 : (x.1 120 13).toInt = ((chM C wr (runM C wr (c96 w) n)).length : Nat) := r.2.1.2.2.1
  have e2 := HistC_n hh
  have en : (w.1 0 94).toInt.toNat = n := by rw [e94]; rfl
  rw [en] at e2
  rw [t_eq, e1, e2]
theorem JH_Tq9 (h : JHq9 C wr n lm x w) : ∀ wn, (wn = 0 ∨ wn = 1) → (x.1 (260 + 20 * wn) 0 = 0 ↔ w.1 119 wn = 0) ∧ (¬ x.1 (260 + 20 * wn) 0 = 0 → JC C x w ∧ TR3 C wn x (260 + 20 * wn) (tryM C wn (lm wn)) ∧ TYc C wn w (tryM C wn (lm wn))) := by
  intro wn w01
  obtain ⟨-, ⟨-, z, m, -⟩ | ⟨j, -, t⟩⟩ := h
  · have e1 := z.2 (260 + 20 * wn) (by omega)
    have e2 : w.1 119 wn = 0 := by rcases w01 with e | e <;> rw [e]; exact m.2.1; exact m.2.2
    exact ⟨⟨fun _ => e2, fun _ => e1⟩, fun z9 => absurd e1 z9⟩
  · rcases t wn w01 with ⟨a, b⟩ | ⟨a, b, c⟩
    · exact ⟨⟨fun _ => b, fun _ => a⟩, fun z9 => absurd a z9⟩
    · exact ⟨⟨fun z9 => absurd z9 a, fun z9 => absurd z9 b⟩, fun _ => ⟨j, c⟩⟩
theorem TXs_kq9 (h : TXsq9 x w) (k : KF x y) (p : PMq9 w w') : TXsq9 y w' := by
  obtain ⟨h1, h2, h4⟩ := h
  have h5 := LJx_kq9 h4 k p
  obtain ⟨k1, k2, k3, k4⟩ := k
  obtain ⟨-, p1, p2, p3⟩ := p
  exact ⟨by rw [k1, p1]; exact h1, fun q hq => by rw [k3, p3 2 (by decide)]; exact h2 q (by rw [← k1]; exact hq), h5⟩
theorem JC_kq9 (h : JC C x w) (k : KF x y) (p : PMq9 w w') : JC C y w' := by
  obtain ⟨k1, k2, k3, k4⟩ := k
  obtain ⟨-, p1, p2, p3⟩ := p
  obtain ⟨a, c1, c2, c3⟩ := h
  refine ⟨?_, CK_f c1 k4, MK_fq9 c2 p2 p3, c3⟩
  rw [k2, k4 60 6 (by omega), k4 60 9 (by omega), k4 60 10 (by omega), k4 60 14 (by omega), k4 60 16 (by omega), p2 23 (by decide), p2 24 (by decide), p2 25 (by decide), p2 26 (by decide), p2 27 (by decide), p2 66 (by decide)]
  exact a
theorem z5_kq9 (h : z5 w) (p : PMq9 w w') : z5 w' := by
  obtain ⟨-, p1, p2, p3⟩ := p
  unfold z5 at h ⊢
  rw [p2 23 (by decide), p2 24 (by decide), p2 25 (by decide), p2 26 (by decide), p2 27 (by decide)]
  exact h
/-- calls that only look -/
theorem JQ_rdq9 (h : JHq9 C wr n lm x w) (hH : HOI y q) (k : KRd x y) (m : rdMq9 C wr w w') : JR3q9 y w' := by
  have g : ∀ c k, ¬ sRd c k → y.1 c k = x.1 c k := k
  have kf := KR_KF k
  obtain ⟨p, ⟨m67, m94, m96⟩, m119, mh, mt⟩ := m
  have e10 : y.1 0 10 = x.1 0 10 := g _ _ (by unfold sRd; omega)
  have eo : ∀ o, (o = 260 ∨ o = 280) → y.1 o 0 = x.1 o 0 := fun o hO => g _ _ (by unfold sRd; omega)
  have ec : c96 w' = c96 w := by unfold c96; rw [m96]
  refine ⟨C, wr, n, lm, TXs_kq9 h.1 kf p, ?_⟩
  rcases h.2 with ⟨⟨a1, a2, a3⟩, z, m, e⟩ | ⟨j, r, t⟩
  · refine Or.inl ⟨⟨by rw [kf.2.1]; exact a1, ?_, z5_kq9 a3 p⟩, ⟨by rw [e10]; exact z.1, fun o hO => by rw [eo o hO]; exact z.2 o hO⟩, ⟨by rw [m67]; exact m.1, by rw [m119]; exact m.2.1, by rw [m119]; exact m.2.2⟩, e⟩
    rw [p.2.2.1 66 (by decide)]; exact a2
  · refine Or.inr ⟨JC_kq9 j kf p, ?_, fun wn w01 => ?_⟩
    · rcases r with ⟨r1, r2⟩ | ⟨r1, r2, r3, r4, r5⟩
      · exact Or.inl ⟨by rw [e10]; exact r1, by rw [m67]; exact r2⟩
      · have y10 : ¬ y.1 0 10 = 0 := by rw [e10]; exact r1
        exact Or.inr ⟨y10, by rw [m67]; exact r2, by rw [ec]; exact KRun_rd k j.2.1 (hH.2.2.1 y10) r3, mh r4, by rw [m94]; exact r5⟩
    · rcases t wn w01 with ⟨t1, t2⟩ | ⟨t1, t2, t3, t4⟩
      · exact Or.inl ⟨by rw [eo _ (by omega)]; exact t1, by rw [m119]; exact t2⟩
      · exact Or.inr ⟨by rw [eo _ (by omega)]; exact t1, by rw [m119]; exact t2, TR3_rd (by omega) k t3, mt wn _ t4⟩
/-- calls that make a run, or do choices -/
theorem JQ_runq9 {wr' n' : Nat} (h : JHq9 C wr n lm x w) (h9 : ¬ x.1 0 9 = 0) (f : fm sRn x y) (p : PMq9 w w') (e119 : w'.1 119 = w.1 119) (ty : ∀ wn T, TYc C wn w T → TYc C wn w' T) (r : KRun C wr' n' (c96 w') y) (h10 : ¬ y.1 0 10 = 0) (hh : HistC C wr' w') (h67 : ¬ w'.1 0 67 = 0) (h94 : (w'.1 0 94).toInt = (n' : Nat)) : JR3q9 y w' := by
  have kf := rn_20 f
  have eo : ∀ o, (o = 260 ∨ o = 280) → y.1 o 0 = x.1 o 0 := fun o hO => f _ _ (by unfold sRn; omega)
  refine ⟨C, wr', n', lm, TXs_kq9 h.1 kf p, Or.inr ?_⟩
  rcases h.2 with ⟨⟨a1, -⟩, -⟩ | ⟨j, -, t⟩
  · exact absurd a1 h9
  · refine ⟨JC_kq9 j kf p, Or.inr ⟨h10, h67, r, hh, h94⟩, fun wn w01 => ?_⟩
    rcases t wn w01 with ⟨t1, t2⟩ | ⟨t1, t2, t3, t4⟩
    · exact Or.inl ⟨by rw [eo _ (by omega)]; exact t1, by rw [e119]; exact t2⟩
    · exact Or.inr ⟨by rw [eo _ (by omega)]; exact t1, by rw [e119]; exact t2, TR3_rn (by omega) f t3, ty wn _ t4⟩
/-- what the model's calls leave: refused, or a run -/
def rnMq9 (C : gCo) (wr n : Nat) (w w' : gd) : Prop := PMq9 w w' ∧ w'.1 119 = w.1 119 ∧ (∀ wn T, TYc C wn w T → TYc C wn w' T) ∧ HistC C wr w' ∧ ¬ w'.1 0 67 = 0 ∧ (w'.1 0 94).toInt = (n : Nat)
theorem rnM_ofq9 {L A : List Nat} {wr' n' : Nat} (m : mi L A w w') (hA : [119, 120, 126, 130, 131, 132].all (fun k => !A.elem k) = true) (p : PMq9 w w') (hh : HistC C wr' w') (h67 : ¬ w'.1 0 67 = 0) (h94 : (w'.1 0 94).toInt = (n' : Nat)) : rnMq9 C wr' n' w w' := ⟨p, m.2 119 (by decide) (all_no hA 119 (by decide)), fun wn T h => TYc_mi m (all_sub hA rfl) h, hh, h67, h94⟩
def ansMq9 (C : gCo) (wr : Nat) (E1 E2 : Prop) (S : Int32 → gd → Prop) (w : gd) (r : Int32) (w' : gd) : Prop := MI w' ∧ ((E1 ∧ w'.1 0 0 = 1 ∧ rdMq9 C wr w w') ∨ (E2 ∧ w'.1 0 0 = 2 ∧ rdMq9 C wr w w') ∨ (¬ E1 ∧ ¬ E2 ∧ w'.1 0 0 = 0 ∧ S r w'))
theorem ans_eqq9 {E1 E2 E1' E2' : Prop} {S S' : Int32 → gd → Prop} {r9 r : Int32} (h : JHq9 C wr n lm x w) (hH : HOI y q) (e1 : E1 ↔ E1') (e2 : E2 ↔ E2') (e3 : E1 → ¬ E2) (k : ansK E1 E2 S x r9 y) (m : ansMq9 C wr E1' E2' S' w r w') (js : ¬ E1 → ¬ E2 → ∀ r', S r' y → S' r w' → JR3q9 y w' ∧ r' = r) : JR3q9 y w' ∧ ansE r9 r y w' := by
  obtain ⟨-, m⟩ := m
  rcases k with ⟨k1, k2, k3⟩ | ⟨k1, k2, k3⟩ | ⟨k1, k2, k3, r', k4, k5⟩
  · rcases m with ⟨m1, m2, m3⟩ | ⟨m1, m2, m3⟩ | ⟨m1, m2, m3, m4⟩
    · exact ⟨JQ_rdq9 h hH k3 m3, Or.inr ⟨by rw [k2]; decide, by rw [m2, k2]⟩⟩
    · exact absurd (e2.mpr m1) (e3 k1)
    · exact absurd (e1.mp k1) m1
  · rcases m with ⟨m1, m2, m3⟩ | ⟨m1, m2, m3⟩ | ⟨m1, m2, m3, m4⟩
    · exact absurd k1 (e3 (e1.mpr m1))
    · exact ⟨JQ_rdq9 h hH k3 m3, Or.inr ⟨by rw [k2]; decide, by rw [m2, k2]⟩⟩
    · exact absurd (e2.mp k1) m2
  · rcases m with ⟨m1, m2, m3⟩ | ⟨m1, m2, m3⟩ | ⟨m1, m2, m3, m4⟩
    · exact absurd (e1.mpr m1) k1
    · exact absurd (e2.mpr m1) k2
    · obtain ⟨j1, j2⟩ := js k1 k2 r' k5 m4
      exact ⟨j1, Or.inl ⟨k3, m3, by rw [k4, j2]⟩⟩
theorem JR3_84q9 (h : JR3q9 y w') (h10 : ¬ y.1 0 10 = 0) : y.1 120 13 = w'.1 0 84 := by
  obtain ⟨C, wr, n, lm, h⟩ := h
  exact JH_84q9 h h10
theorem JR3_94q9 (h : JR3q9 y w') (h10 : ¬ y.1 0 10 = 0) : y.1 160 2 = w'.1 0 94 := by
  obtain ⟨C, wr, n, lm, h⟩ := h
  obtain ⟨-, r, -, e⟩ := JH_Rq9 h h10
  rw [t_eq, e]
  exact r.2.2.2.1
def tChq9 (C : gCo) (wr : Nat) (w : gd) (r : Int32) (w' : gd) : Prop := r = w.1 0 84 ∧ rdMq9 C wr w w'
theorem ja_choicesq9 {r9 r : Int32} (h : JHq9 C wr n lm x w) (hH : HOI y q) (k : ansK (e1Ch x) False (sCh x) x r9 y) (m : ansMq9 C wr (f1Ch w) False (tChq9 C wr w) w r w') : JR3q9 y w' ∧ ansE r9 r y w' :=
  ans_eqq9 h hH (JH_10q9 h) Iff.rfl (fun _ z => z) k m (fun c _ r' s t => ⟨JQ_rdq9 h hH s.2 t.2, by rw [s.1, t.1, JH_84q9 h c]⟩)
def tBgq9 (C : gCo) (w : gd) (l r : Int32) (w' : gd) : Prop := r = w'.1 0 84 ∧ ∃ wn : Nat, (wn = 0 ∨ wn = 1) ∧ l = Int32.ofNat wn ∧ rnMq9 C wn 0 w w'
theorem ja_beginq9 {r9 r : Int32} (h : JHq9 C wr n lm x w) (hH : HOI y q) (k : ansK (e1Bg x) (e2Bg x l) (sBg C x l) x r9 y) (m : ansMq9 C wr (f1Bg w) (f2Bg w l) (tBgq9 C w l) w r w') : JR3q9 y w' ∧ ansE r9 r y w' := by
  have e9 := JH_9q9 h
  refine ans_eqq9 h hH e9 ⟨fun z => ⟨fun a => z.1 (e9.mpr a), z.2⟩, fun z => ⟨fun a => z.1 (e9.mp a), z.2⟩⟩ (fun a z => z.1 a) k m (fun c _ r' s t => ?_)
  obtain ⟨s1, wn, k2, k3, k4, k5, k6⟩ := s
  obtain ⟨t1, wn', m2, m3, m4⟩ := t
  have e := wn_eq m2 k2 m3 k3
  subst e
  obtain ⟨p, e119, ty, hh, h67, h94⟩ := m4
  have y10 : ¬ y.1 0 10 = 0 := by rw [k6]; decide
  have j := JQ_runq9 h c k4 p e119 ty (k5 _) y10 hh h67 h94
  exact ⟨j, by rw [s1, t1, JR3_84q9 j y10]⟩
def tGoq9 (C : gCo) (wr n : Nat) (w : gd) (l r : Int32) (w' : gd) : Prop := r = w'.1 0 84 ∧ rnMq9 C wr (n + 1) w w' ∧ c96 w' n = l.toNatClampNeg ∧ rwE (c96 w') (c96 w) n
theorem ja_goq9 {r9 r : Int32} (h : JHq9 C wr n lm x w) (hH : HOI y q) (k : ansK (e1Go n x) (e2Go n x l) (sGo C wr n (c96 w) x l) x r9 y) (m : ansMq9 C wr (f1Go w) (f2Go w l) (tGoq9 C wr n w l) w r w') : JR3q9 y w' ∧ ansE r9 r y w' := by
  have co : okGo n x ↔ okGm w := by
    by_cases c : x.1 0 10 = 0
    · exact ⟨fun z => absurd c z.1, fun z => absurd ((JH_10q9 h).mp c) z.1⟩
    · have e94 := (JH_Rq9 h c).2.2.2
      have c' : ¬ w.1 0 67 = 0 := fun z => c ((JH_10q9 h).mpr z)
      exact ⟨fun z => ⟨c', by have := z.2; omega⟩, fun z => ⟨c, by have := z.2; omega⟩⟩
  refine ans_eqq9 h hH ⟨fun a b => a (co.mpr b), fun a b => a (co.mp b)⟩ ⟨fun z => ⟨co.mp z.1, by rw [← JH_84q9 h z.1.1]; exact z.2⟩, fun z => ⟨co.mpr z.1, by rw [JH_84q9 h (co.mpr z.1).1]; exact z.2⟩⟩ (fun a z => a z.1) k m (fun c _ r' s t => ?_)
  have c := Classical.not_not.mp c
  obtain ⟨s1, k2, k3, k4⟩ := s
  obtain ⟨t1, m2, m3, m4⟩ := t
  obtain ⟨p, e119, ty, hh, h67, h94⟩ := m2
  have y10 : ¬ y.1 0 10 = 0 := by rw [k4]; exact c.1
  have j := JQ_runq9 h (JH_Rq9 h c.1).1.1.1 k2 p e119 ty (KRun_cg (fun j hj => by
    by_cases cj : j = n
    · rw [cj, upf_eq, m3]
    · rw [upf_ne cj, m4 j (by omega)]) k3) y10 hh h67 h94
  exact ⟨j, by rw [s1, t1, JR3_84q9 j y10]⟩
def tDrq9 (C : gCo) (wr n : Nat) (w : gd) (l1 l2 r : Int32) (w' : gd) : Prop := r.toInt = ((drS C wr l2.toInt.toNat l1 (c96 w) n).2 : Int) - n ∧ rnMq9 C wr (drS C wr l2.toInt.toNat l1 (c96 w) n).2 w w' ∧ rwE (c96 w') (drS C wr l2.toInt.toNat l1 (c96 w) n).1 (drS C wr l2.toInt.toNat l1 (c96 w) n).2
theorem ja_drawq9 {r9 r : Int32} (h : JHq9 C wr n lm x w) (hH : HOI y q) (k : ansK (e1Ch x) (e2Dr x l2) (sDr C wr n (c96 w) x l1 l2) x r9 y) (m : ansMq9 C wr (f1Ch w) (f2Dr w l2) (tDrq9 C wr n w l1 l2) w r w') : JR3q9 y w' ∧ ansE r9 r y w' := by
  have e9 := JH_10q9 h
  refine ans_eqq9 h hH e9 ⟨fun z => ⟨fun a => z.1 (e9.mpr a), z.2⟩, fun z => ⟨fun a => z.1 (e9.mp a), z.2⟩⟩ (fun a z => z.1 a) k m (fun c _ r' s t => ?_)
  obtain ⟨s1, k2, k3, k4⟩ := s
  obtain ⟨t1, m2, m3⟩ := t
  obtain ⟨p, e119, ty, hh, h67, h94⟩ := m2
  exact ⟨JQ_runq9 h (JH_Rq9 h c).1.1.1 k2 p e119 ty (KRun_cg (fun j hj => (m3 j hj).symm) k3) (by rw [k4]; exact c) hh h67 h94, by rw [t_eq, s1, t1]⟩
def tAgq9 (C : gCo) (wr : Nat) (w : gd) (l r : Int32) (w' : gd) : Prop := r = w'.1 0 84 ∧ rnMq9 C wr l.toInt.toNat w w' ∧ c96 w' = c96 w
theorem ja_againq9 {r9 r : Int32} (h : JHq9 C wr n lm x w) (hH : HOI y q) (k : ansK (e1Ch x) (e2Ag n x l) (sAg C wr (c96 w) x l) x r9 y) (m : ansMq9 C wr (f1Ch w) (f2Ag w l) (tAgq9 C wr w l) w r w') : JR3q9 y w' ∧ ansE r9 r y w' := by
  have e9 := JH_10q9 h
  refine ans_eqq9 h hH e9 ⟨fun z => ⟨fun a => z.1 (e9.mpr a), by rw [(JH_Rq9 h z.1).2.2.2]; exact z.2⟩, fun z => ⟨fun a => z.1 (e9.mp a), by rw [← (JH_Rq9 h (fun a => z.1 (e9.mp a))).2.2.2]; exact z.2⟩⟩ (fun a z => z.1 a) k m (fun c _ r' s t => ?_)
  obtain ⟨s1, k2, k3, k4⟩ := s
  obtain ⟨t1, m2, m3⟩ := t
  obtain ⟨p, e119, ty, hh, h67, h94⟩ := m2
  have y10 : ¬ y.1 0 10 = 0 := by rw [k4]; decide
  have j := JQ_runq9 h (JH_Rq9 h c).1.1.1 k2 p e119 ty (by rw [m3]; exact k3) y10 hh h67 h94
  exact ⟨j, by rw [s1, t1, JR3_84q9 j y10]⟩
def tShq9 (C : gCo) (lm : Nat → Nat) (w : gd) (l1 l2 r : Int32) (w' : gd) : Prop := r = w'.1 0 94 ∧ ∃ wn s : Nat, ((wn = 0 ∨ wn = 1) ∧ l1 = Int32.ofNat wn ∧ ¬ w.1 119 wn = 0 ∧ fsF C wn (twM C lm wn) l2.toInt.toNat s) ∧ rnMq9 C wn (pth (twM C lm wn) s).length w w' ∧ ∀ k v, (pth (twM C lm wn) s)[k]? = some v → c96 w' k = v
theorem ja_showq9 {r9 r : Int32} (h : JHq9 C wr n lm x w) (hH : HOI y q) (k : ansK (e1Sh l1 l2) (e2Sh C lm x l1 l2) (sSh C lm x l1 l2) x r9 y) (m : ansMq9 C wr (e1Sh l1 l2) (f2Sh C lm w l1 l2) (tShq9 C lm w l1 l2) w r w') : JR3q9 y w' ∧ ansE r9 r y w' := by
  have tt := JH_Tq9 h
  have co : shK C (twM C lm) x l1 l2 ↔ shG C (twM C lm) w l1 l2 := ⟨fun ⟨wn, s, a1, a2, a3, a4, a5, a6⟩ => ⟨wn, s, a1, a2, a3, a4, fun z => a5 ((tt wn a1).1.mpr z), a6⟩, fun ⟨wn, s, a1, a2, a3, a4, a5, a6⟩ => ⟨wn, s, a1, a2, a3, a4, fun z => a5 ((tt wn a1).1.mp z), a6⟩⟩
  refine ans_eqq9 h hH Iff.rfl ⟨fun z => ⟨z.1, fun a => z.2 (co.mpr a)⟩, fun z => ⟨z.1, fun a => z.2 (co.mp a)⟩⟩ (fun a z => a z.1) k m (fun c _ r' s t => ?_)
  obtain ⟨s1, wn, s, ⟨a1, a2, a5, a6⟩, k2, k3, k4⟩ := s
  obtain ⟨t1, wn', s', ⟨b1, b2, b5, b6⟩, m2, m3⟩ := t
  have e := wn_eq b1 a1 b2 a2
  subst e
  have e2 := fsF_u b6 a6
  subst e2
  obtain ⟨p, e119, ty, hh, h67, h94⟩ := m2
  have y10 : ¬ y.1 0 10 = 0 := by rw [k4]; decide
  have j := JQ_runq9 h ((tt _ a1).2 a5).1.1.1 k2 p e119 ty (k3 _ m3) y10 hh h67 h94
  exact ⟨j, by rw [s1, t1, JR3_94q9 j y10]⟩
def tAqq9 (C : gCo) (wr : Nat) (w : gd) (l1 l2 r : Int32) (w' : gd) : Prop := ∃ wn lim : Nat, ((wn = 0 ∨ wn = 1) ∧ l1 = Int32.ofNat wn ∧ l2.toInt = (lim : Nat)) ∧ r = w'.1 120 wn ∧ PMq9 w w' ∧ (w'.1 0 67 = w.1 0 67 ∧ w'.1 0 94 = w.1 0 94 ∧ w'.1 96 = w.1 96 ∧ (¬ w.1 0 67 = 0 → HistC C wr w')) ∧ TYc C wn w' (tryM C wn lim) ∧ ¬ w'.1 119 wn = 0 ∧ (∀ v, ¬ v = wn → w'.1 119 v = w.1 119 v) ∧ ow wn w w'
theorem ja_attemptq9 {r9 r : Int32} (h : JHq9 C wr n lm x w) (hH : HOI y q) (k : ansK (e1Bg x) (e2At x l1 l2) (sAq C x l1 l2) x r9 y) (m : ansMq9 C wr (f1Bg w) (f2At w l1 l2) (tAqq9 C wr w l1 l2) w r w') : JR3q9 y w' ∧ ansE r9 r y w' := by
  have e9 := JH_9q9 h
  refine ans_eqq9 h hH e9 ⟨fun z => ⟨fun a => z.1 (e9.mpr a), z.2⟩, fun z => ⟨fun a => z.1 (e9.mp a), z.2⟩⟩ (fun a z => z.1 a) k m (fun c _ r' s t => ?_)
  obtain ⟨wn, lim, ⟨a1, a2, a3⟩, s1, k2, k3, k4⟩ := s
  obtain ⟨wn', lim', ⟨b1, b2, b3⟩, t1, p, ⟨m67, m94, m96, mh⟩, mt, mf, mo, ow9⟩ := t
  have e := wn_eq b1 a1 b2 a2
  subst e
  have e2 : lim' = lim := by omega
  subst e2
  have ec : c96 w' = c96 w := by unfold c96; rw [m96]
  have e10 : y.1 0 10 = x.1 0 10 := k3 _ _ (by unfold sAt; omega)
  refine ⟨⟨C, wr, n, upf lm wn' lim', TXs_kq9 h.1 k2 p, Or.inr ?_⟩, by rw [s1, t1, t_eq, k4.1.1, mt.1]⟩
  rcases h.2 with ⟨⟨c1, -⟩, -⟩ | ⟨j, r, t⟩
  · exact absurd c1 c
  · refine ⟨JC_kq9 j k2 p, ?_, fun v v01 => ?_⟩
    · rcases r with ⟨r1, r2⟩ | ⟨r1, r2, r3, r4, r5⟩
      · exact Or.inl ⟨by rw [e10]; exact r1, by rw [m67]; exact r2⟩
      · exact Or.inr ⟨by rw [e10]; exact r1, by rw [m67]; exact r2, by rw [ec]; exact KRun_at (by omega) j.2.1 k3 r3, mh r2, by rw [m94]; exact r5⟩
    · by_cases cv : v = wn'
      · rw [cv, upf_eq]
        refine Or.inr ⟨fun z9 => ?_, mf, k4, mt⟩
        have e9 := k4.1.1
        rw [z9] at e9
        have k0 : (0 : Int32).toInt = 0 := rfl
        have := tryM_1 (C := C) (w := wn') (lim := lim')
        omega
      · rw [upf_ne cv]
        have eo : y.1 (260 + 20 * v) 0 = x.1 (260 + 20 * v) 0 := k3 _ _ (by unfold sAt; omega)
        rcases t v v01 with ⟨t1, t2⟩ | ⟨t1, t2, t3, t4⟩
        · exact Or.inl ⟨by rw [eo]; exact t1, by rw [mo v cv]; exact t2⟩
        · exact Or.inr ⟨by rw [eo]; exact t1, by rw [mo v cv]; exact t2, TR3_at (by omega) (by omega) (by omega) k3 t3, TYc_ow TW_try (by omega) cv ow9 t4⟩
/-- calls that forget -/
theorem JR3_zq9 (h : JRq9 x w) (z : ZR x) (m : ZM w) : JR3q9 x w := by
  obtain ⟨h1, h2⟩ := h
  rcases h2 with h2 | ⟨a1, a2, a3, a4, a5, a6, a7, C, c1, c2, c3⟩
  · exact ⟨_, 0, 0, fun _ => 0, h1, Or.inl ⟨h2, z, m, rfl⟩⟩
  · refine ⟨C, 0, 0, fun _ => 0, h1, Or.inr ⟨⟨⟨a1, a2, a3, a4, a5, a6, a7⟩, c1, c2, c3⟩, Or.inl ⟨z.1, m.1⟩, fun wn w01 => Or.inl ⟨z.2 _ (by omega), ?_⟩⟩⟩
    rcases w01 with e | e <;> rw [e]
    · exact m.2.1
    · exact m.2.2
theorem JH_Jq9 (h : JHq9 C wr n lm x w) : JRq9 x w := by
  obtain ⟨h1, h2⟩ := h
  refine ⟨h1, ?_⟩
  rcases h2 with ⟨a, -⟩ | ⟨⟨a, b⟩, -⟩
  · exact Or.inl a
  · obtain ⟨a1, a2, a3, a4, a5, a6, a7⟩ := a
    exact Or.inr ⟨a1, a2, a3, a4, a5, a6, a7, C, b⟩
theorem JR3_xq9 {x1 : gd} (e : x1.1 = x.1) (h : JR3q9 x w) : JR3q9 x1 w := by
  obtain ⟨C, wr, n, lm, h⟩ := h
  obtain ⟨x1a, x1b⟩ := x1
  have e : x1a = x.1 := e
  subst e
  exact ⟨C, wr, n, lm, h⟩
end JN3

section SMC
variable {G : mG} {d D : Nat} {x w : gd} {F : Int32 → gd → Prop} {C : gCo} {wr n : Nat} {lm : Nat → Nat} {q : kP}
theorem JH_Mq9 (h : JHq9 C wr n lm x w) (h67 : ¬ w.1 0 67 = 0) : ¬ w.1 0 66 = 0 ∧ HistC C wr w ∧ (w.1 0 94).toInt = (n : Nat) := by
  have r := JH_Rq9 h (fun z => h67 ((JH_10q9 h).mp z))
  exact ⟨fun z => r.1.1.1 ((JH_9q9 h).mpr z), r.2.2⟩
theorem an_1q9 {E1 E2 : Prop} {S : Int32 → gd → Prop} {w' : gd} {r : Int32} (hm : MI w) (e : E1) (m : rfK 1 w w') : ansMq9 C wr E1 E2 S w r w' := ⟨(MI_0q9 m.1 hm).1, Or.inl ⟨e, m.2, rd_0q9 m.1 hm⟩⟩
theorem an_2q9 {E1 E2 : Prop} {S : Int32 → gd → Prop} {w' : gd} {r : Int32} (hm : MI w) (e : E2) (m : rfK 2 w w') : ansMq9 C wr E1 E2 S w r w' := ⟨(MI_0q9 m.1 hm).1, Or.inr (Or.inl ⟨e, m.2, rd_0q9 m.1 hm⟩)⟩
theorem an_3q9 {E1 E2 : Prop} {S : Int32 → gd → Prop} {w' : gd} {r : Int32} (p : MI w') (e1 : ¬ E1) (e2 : ¬ E2) (e0 : w'.1 0 0 = 0) (s : S r w') : ansMq9 C wr E1 E2 S w r w' := ⟨p, Or.inr (Or.inr ⟨e1, e2, e0, s⟩)⟩
theorem ma_choicesq9 (hm : MI w) (hD : 3 ≤ D) (hF : ∀ r w', ansMq9 C wr (f1Ch w) False (tChq9 C wr w) w r w' → F r w') : MT G D z_choices 0 [(0, vr 0)] [] w (ri F) := by
  obtain ⟨D, rfl⟩ : ∃ D', D = D' + 2 := ⟨D - 2, by omega⟩
  refine sg_choices_0 (fun y e => ?_)
  have hy := z0_s e
  have e67 : y.1 0 67 = w.1 0 67 := hy.1.1 67 (by decide)
  have e84 : y.1 0 84 = w.1 0 84 := hy.1.1 84 (by decide)
  exact sc_noRunk hy (fun c => ⟨fun _ => ri_i (hF _ y (an_3q9 (MI_0q9 hy.1 hm).1 (show ¬ w.1 0 67 = 0 by rw [← e67]; exact c) (fun z => z) hy.2 ⟨e84, rd_0q9 hy.1 hm⟩)), fun q => absurd rfl q⟩) (fun c y' m => ⟨fun q => absurd q (by decide), fun _ => ri_i (hF _ y' (an_1q9 hm (show w.1 0 67 = 0 by rw [← e67]; exact c) m))⟩)
theorem ma_beginq9 (h : JHq9 C wr n lm x w) (hH : HOI x q) (hm : MI w) (l : Int32) (hD : 7 ≤ D) (hF : ∀ r w', ansMq9 C wr (f1Bg w) (f2Bg w l) (tBgq9 C w l) w r w' → F r w') : MT G D z_begin 0 [(0, vr 0), (1, vi l)] [] w (ri F) :=
  sk_beginq9 hm l (fun h9 => ⟨(JH_Kq9 h (fun z => h9 ((JH_9q9 h).mp z))).2.2.1, (JH_gcq9 h hH).1⟩) hD (fun e w' m => hF _ w' (an_1q9 hm e m)) (fun e1 e2 w' m => hF _ w' (an_2q9 hm ⟨e1, e2⟩ m)) (fun wn w' hc ew hh m e0 e67 e94 => by
    have p := PM_runq9 hm hc m (HistC_H hh)
    exact hF _ w' (an_3q9 p.1 hc (fun z => z.2 (w_01 (HistC_w hh) ew)) e0 ⟨rfl, wn, HistC_w hh, ew, rnM_ofq9 m rfl p hh (by rw [e67]; decide) (by rw [e94]; rfl)⟩))
theorem ma_goq9 (h : JHq9 C wr n lm x w) (hH : HOI x q) (hm : MI w) (l : Int32) (hD : 7 ≤ D) (hF : ∀ r w', ansMq9 C wr (f1Go w) (f2Go w l) (tGoq9 C wr n w l) w r w' → F r w') : MT G D z_go 0 [(0, vr 0), (1, vi l)] [] w (ri F) :=
  sk_goq9 hm (JH_gcq9 h hH).1 (fun h67 => ⟨wr, (JH_Mq9 h h67).2.1⟩) l hD (fun e w' m => hF _ w' (an_1q9 hm e m)) (fun e1 e2 w' m => hF _ w' (an_2q9 hm ⟨e1, e2⟩ m)) (fun w9 w' h67 h4 l0 l1 hw hh m e0 e67 e94 ec rw' => by
    obtain ⟨hc, hh0, en⟩ := JH_Mq9 h h67
    have e9 := JH_wr hh0 hw
    subst e9
    have p := PM_runq9 hm hc m (HistC_H hh)
    have et : (w.1 0 94).toInt.toNat = n := by rw [en]; rfl
    rw [et] at ec rw'
    exact hF _ w' (an_3q9 p.1 (fun z => z ⟨h67, h4⟩) (fun z => z.2 ⟨l0, l1⟩) e0 ⟨rfl, rnM_ofq9 m rfl p hh (by rw [e67]; exact h67) (by rw [e94, en]; push_cast; rfl), ec, rw'⟩))
theorem ma_drawq9 (h : JHq9 C wr n lm x w) (hH : HOI x q) (hm : MI w) (l1 l2 : Int32) (hD : 7 ≤ D) (hF : ∀ r w', ansMq9 C wr (f1Ch w) (f2Dr w l2) (tDrq9 C wr n w l1 l2) w r w' → F r w') : MT G D z_draw 0 [(0, vr 0), (1, vi l1), (2, vi l2)] [] w (ri F) :=
  sk_drawq9 hm (JH_gcq9 h hH).1 (fun h67 => ⟨wr, (JH_Mq9 h h67).2.1⟩) l1 l2 hD (fun e w' m => hF _ w' (an_1q9 hm e m)) (fun e1 e2 w' m => hF _ w' (an_2q9 hm ⟨e1, e2⟩ m)) (fun w9 r w' h67 n0 n4 hw hh m e0 e67 e94 rw' er => by
    obtain ⟨hc, hh0, en⟩ := JH_Mq9 h h67
    have e9 := JH_wr hh0 hw
    subst e9
    have p := PM_runq9 hm hc m (HistC_H hh)
    have et : (w.1 0 94).toInt.toNat = n := by rw [en]; rfl
    rw [et] at e94 rw' er
    exact hF _ w' (an_3q9 p.1 h67 (fun z => z.2 ⟨n0, n4⟩) e0 ⟨by rw [er, en], rnM_ofq9 m rfl p hh (by rw [e67]; exact h67) e94, rw'⟩))
theorem ma_againq9 (h : JHq9 C wr n lm x w) (hm : MI w) (l : Int32) (hD : 7 ≤ D) (hF : ∀ r w', ansMq9 C wr (f1Ch w) (f2Ag w l) (tAgq9 C wr w l) w r w' → F r w') : MT G D z_again 0 [(0, vr 0), (1, vi l)] [] w (ri F) :=
  sk_again hm (fun h67 => ⟨wr, (JH_Mq9 h h67).2.1⟩) l hD (fun e w' m => hF _ w' (an_1q9 hm e m)) (fun e1 e2 w' m => hF _ w' (an_2q9 hm ⟨e1, e2⟩ m)) (fun w9 w' h67 n0 n4 hw hh m e0 e67 e94 ec => by
    obtain ⟨hc, hh0, en⟩ := JH_Mq9 h h67
    have e9 := JH_wr hh0 hw
    subst e9
    have p := PM_runq9 hm hc m (HistC_H hh)
    exact hF _ w' (an_3q9 p.1 h67 (fun z => z.2 ⟨n0, n4⟩) e0 ⟨rfl, rnM_ofq9 m rfl p hh (by rw [e67]; decide) (by rw [e94]; omega), ec⟩))
theorem ma_showq9 (h : JHq9 C wr n lm x w) (hH : HOI x q) (hm : MI w) (l1 l2 : Int32) (hD : 8 ≤ D) (hF : ∀ r w', ansMq9 C wr (e1Sh l1 l2) (f2Sh C lm w l1 l2) (tShq9 C lm w l1 l2) w r w' → F r w') : MT G D z_show 0 [(0, vr 0), (1, vi l1), (2, vi l2)] [] w (ri F) :=
  sc_showq9 (Tw := twM C lm) hm (JH_gcq9 h hH).1 (fun h9 => (JH_Kq9 h (fun z => h9 ((JH_9q9 h).mp z))).2.2.1) l1 l2 (fun v v01 hv => ⟨((JH_Tq9 h v v01).2 (fun z => hv ((JH_Tq9 h v v01).1.mp z))).2.2, TW_try⟩) hD (fun e w' m => hF _ w' (an_1q9 hm e m)) (fun e1 e2 w' m => hF _ w' (an_2q9 hm ⟨e1, e2⟩ m)) (fun v s w' v01 ev f0 f1 hv hfs l4 hh m e0 e67 e94 hp => by
    have hc : ¬ w.1 0 66 = 0 := (hm.2.2.2 v (by omega) hv).1
    have p := MI_newq9 m rfl rfl hc (HistC_H hh) hm
    exact hF _ w' (an_3q9 p.1 (fun z => z ⟨w_01 v01 ev, f0, f1⟩) (fun z => z.2 ⟨v, s, v01, ev, f0, f1, hv, hfs, l4⟩) e0 ⟨rfl, v, s, ⟨v01, ev, hv, hfs⟩, rnM_ofq9 m rfl p hh (by rw [e67]; decide) e94, hp⟩))
theorem ma_attemptq9 (h : JHq9 C wr n lm x w) (hH : HOI x q) (hm : MI w) (l1 l2 : Int32) (hD : 8 ≤ D) (hF : ∀ r w', ansMq9 C wr (f1Bg w) (f2At w l1 l2) (tAqq9 C wr w l1 l2) w r w' → F r w') : MT G D z_attempt 0 [(0, vr 0), (1, vi l1), (2, vi l2)] [] w (ri F) :=
  sc_attemptq9 (nl := (x.1 60 9).toInt.toNat) (wr := wr) hm (JH_gcq9 h hH).1 (fun h9 => by
    have h9x : ¬ x.1 0 9 = 0 := fun z => h9 ((JH_9q9 h).mp z)
    have j := JH_Kq9 h h9x
    obtain ⟨-, -, a3, a4, -, a6, a7, a8, a9⟩ := JC_C (hH.2.1 h9x) j
    exact ⟨j.2.2.1, a4, a3, a6, a7, a8, a9⟩) (fun h67 => (JH_Mq9 h h67).2.1) l1 l2 hD (fun e w' m => hF _ w' (an_1q9 hm e m)) (fun e1 e2 w' m => hF _ w' (an_2q9 hm ⟨e1, e2⟩ m)) (fun wn lim w' w01 ew el b1 b3 hc p e0 hr ty h119 ho how => by
    have e9 : l1.toNatClampNeg = wn := by rcases w01 with e | e <;> rw [ew, e] <;> rfl
    exact hF _ w' (an_3q9 p.1 hc (fun z => z.2 ⟨w_01 w01 ew, by omega, by omega⟩) e0 ⟨wn, lim, ⟨w01, ew, el⟩, by rw [e9], p, hr, ty, h119, ho, how⟩))
end SMC
section KQC
variable {G : kG} {q : kP} {d : Nat} {x w : gd} {P : Option gv → gd → Prop} {X : String → gd → Prop} {C : gCo} {wr n : Nat} {lm : Nat → Nat}
theorem ka_beginq9 (h : JHq9 C wr n lm x w) (hq : kV q) (hH : HOI x q) (l1 : Int32) (hX1 : e1Bg x → X iSE x) (hX2 : e2Bg x l1 → X iAE x) (hP : ¬ e1Bg x → ¬ e2Bg x l1 → ∀ r y, HOI y q → sBg C x l1 r y → P (some (vi r)) y) : KE G q (d + 7) zk_X11_begin 0 [(0, vr 0), (1, vi l1)] [] x P X :=
  kh_beginP (C := C) hq hH l1 (fun h9 => ⟨(JH_Kq9 h h9).2.1, (JH_gcq9 h hH).1⟩) hX1 (fun a hn => hX2 ⟨a, hn⟩) (fun wn y h9 ew hy f hr h10 => hP h9 (fun z => z.2 (w_01 (hr (fun _ => 0)).2.2.1.1 ew)) _ y hy ⟨rfl, wn, (hr (fun _ => 0)).2.2.1.1, ew, f, hr, h10⟩)
theorem ka_goq9 (h : JHq9 C wr n lm x w) (hq : kV q) (hH : HOI x q) (l1 : Int32) (hX1 : e1Go n x → X iSE x) (hX2 : e2Go n x l1 → X iOE x) (hP : ¬ e1Go n x → ¬ e2Go n x l1 → ∀ r y, HOI y q → sGo C wr n (c96 w) x l1 r y → P (some (vi r)) y) : KE G q (d + 7) zk_X11_go 0 [(0, vr 0), (1, vi l1)] [] x P X :=
  kh_go hq hH (fun h10 => ⟨(JH_Rq9 h h10).1.2.1, JH_gcq9 h hH⟩) (fun h10 => (JH_Rq9 h h10).2.1) l1 hX1 (fun a b hn => hX2 ⟨⟨a, b⟩, hn⟩) (fun y h10 n4 l0 l9 hy f hr e10 => hP (fun z => z ⟨h10, n4⟩) (fun z => z.2 ⟨l0, l9⟩) _ y hy ⟨rfl, f, hr, e10⟩)
theorem ka_drawq9 (h : JHq9 C wr n lm x w) (hq : kV q) (hH : HOI x q) (l1 l2 : Int32) (hX1 : e1Ch x → X iSE x) (hX2 : e2Dr x l2 → X iAE x) (hP : ¬ e1Ch x → ¬ e2Dr x l2 → ∀ r y, HOI y q → sDr C wr n (c96 w) x l1 l2 r y → P (some (vi r)) y) : KE G q (d + 7) zk_X11_draw 0 [(0, vr 0), (1, vi l1), (2, vi l2)] [] x P X :=
  kk_draw hq hH (fun h10 => ⟨(JH_Rq9 h h10).1.2.1, JH_gcq9 h hH⟩) (fun h10 => (JH_Rq9 h h10).2.1) l1 l2 hX1 (fun a hn => hX2 ⟨a, hn⟩) (fun r y h10 l0 l4 hy f hr e10 er => hP h10 (fun z => z.2 ⟨l0, l4⟩) r y hy ⟨er, f, hr, e10⟩)
theorem ka_againq9 (h : JHq9 C wr n lm x w) (hq : kV q) (hH : HOI x q) (l1 : Int32) (hX1 : e1Ch x → X iSE x) (hX2 : e2Ag n x l1 → X iAE x) (hP : ¬ e1Ch x → ¬ e2Ag n x l1 → ∀ r y, HOI y q → sAg C wr (c96 w) x l1 r y → P (some (vi r)) y) : KE G q (d + 7) zk_X11_again 0 [(0, vr 0), (1, vi l1)] [] x P X :=
  kh_again hq hH (fun h10 => ⟨(JH_Rq9 h h10).1.2.1, JH_gcq9 h hH⟩) (fun h10 => (JH_Rq9 h h10).2.1) l1 hX1 (fun a hn => hX2 ⟨a, hn⟩) (fun y h10 l0 l4 hy f hr e10 => hP h10 (fun z => z.2 ⟨l0, l4⟩) _ y hy ⟨rfl, f, hr, e10⟩)
theorem ka_showq9 (h : JHq9 C wr n lm x w) (hq : kV q) (hH : HOI x q) (l1 l2 : Int32) (hX1 : e1Sh l1 l2 → X iAE x) (hX2 : e2Sh C lm x l1 l2 → X iSE x) (hP : ¬ e1Sh l1 l2 → ¬ e2Sh C lm x l1 l2 → ∀ r y, HOI y q → sSh C lm x l1 l2 r y → P (some (vi r)) y) : KE G q (d + 7) zk_X11_show 0 [(0, vr 0), (1, vi l1), (2, vi l2)] [] x P X :=
  kh_show (C := C) (Tw := twM C lm) hq hH l1 l2 (fun v v01 hv => ⟨⟨((JH_Tq9 h v v01).2 hv).1.2.1, JH_gcq9 h hH⟩, ((JH_Tq9 h v v01).2 hv).2.1, TW_try⟩) hX1 (fun v v01 ev f0 f1 hor => hX2 ⟨⟨w_01 v01 ev, f0, f1⟩, fun ⟨wn, s, a1, a2, a3, a4, a5, a6, a7⟩ => by
    have e := wn_eq a1 v01 a2 ev
    subst e
    rcases hor with z | ⟨-, z⟩
    · exact a5 z
    · have := z s a6
      omega⟩) (fun v s y v01 ev f0 f1 nz hfs l4 hy f hr h10 => by
    obtain ⟨c9, hc9⟩ : ∃ c9 : Nat → Nat, ∀ k v', (pth (twM C lm v) s)[k]? = some v' → c9 k = v' := ⟨fun k => ((pth (twM C lm v) s)[k]?).getD 0, fun k v' hk => congrArg (fun z : Option Nat => z.getD 0) hk⟩
    have e2 := (hr c9 hc9).2.2.2.1
    have er : Int32.ofNat (pth (twM C lm v) s).length = y.1 160 2 := (i32_of e2).symm
    exact hP (fun z => z ⟨w_01 v01 ev, f0, f1⟩) (fun z => z.2 ⟨v, s, v01, ev, f0, f1, nz, hfs, l4⟩) _ y hy ⟨er, v, s, ⟨v01, ev, nz, hfs⟩, f, hr, h10⟩)
end KQC
section KQM
variable {G : kG} {q : kP} {d : Nat} {x w : gd} {P : Option gv → gd → kP → Prop} {X : String → gd → kP → Prop} {C : gCo} {wr n : Nat} {lm : Nat → Nat}
theorem ka_attemptq9 (h : JHq9 C wr n lm x w) (hu : kU q) (hH : HOI x q) (l1 l2 : Int32) (hX1 : e1Bg x → X iSE x q) (hX2 : e2At x l1 l2 → X iAE x q) (hP : ¬ e1Bg x → ¬ e2At x l1 l2 → ∀ r y q1, kU q1 → kle q q1 → HOI y q1 → sAq C x l1 l2 r y → P (some (vi r)) y q1) : KM G q (d + 7) zk_X11_attempt 0 [(0, vr 0), (1, vi l1), (2, vi l2)] [] x P X :=
  kh_attempt (C := C) (nl := (x.1 60 9).toInt.toNat) hu hH l1 l2 (fun h9 => by
    have j := JH_Kq9 h h9
    obtain ⟨a1, a2, a3, a4, a5, -⟩ := JC_C (hH.2.1 h9) j
    exact ⟨j.2.1, a1.1, a1.2.1, a2, a3, a4, a5⟩) hX1 (fun a hn => hX2 ⟨a, hn⟩) (fun wn lim y q1 w01 ew el b1 b3 h9 hu1 hl1 hy kf f tr => hP h9 (fun z => z.2 ⟨w_01 w01 ew, by omega, by omega⟩) _ y q1 hu1 hl1 hy ⟨wn, lim, ⟨w01, ew, el⟩, rfl, kf, f, tr⟩)
end KQM

section RST
variable {G : mG} {d D : Nat} {x z w a : gd} {F : Int32 → gd → Prop} {C : gCo} {M : gMa} {wr n : Nat} {lm : Nat → Nat} {q : kP}
def tCeq9 (C : gCo) (wr n : Nat) (w : gd) (l r : Int32) (w' : gd) : Prop := r = (runM C wr (c96 w) n).1 l.toInt.toNat ∧ rdMq9 C wr w w'
def tSeq9 (C : gCo) (wr n : Nat) (w : gd) (l1 l2 r : Int32) (w' : gd) : Prop := r = seM (runM C wr (c96 w) n) l1.toInt.toNat l2.toInt.toNat ∧ rdMq9 C wr w w'
theorem ma_cellq9 (h : JHq9 C wr n lm x w) (hH : HOI x q) (hm : MI w) (l : Int32) (hD : 3 ≤ D) (hF : ∀ r w', ansMq9 C wr (f1Ch w) (f2Ce w l) (tCeq9 C wr n w l) w r w' → F r w') : MT G D z_cell 0 [(0, vr 0), (1, vi l)] [] w (ri F) := by
  obtain ⟨D, rfl⟩ : ∃ D', D = D' + 2 := ⟨D - 2, by omega⟩
  refine sg_cell_0 _ (fun y e => ?_)
  have hy := z0_s e
  have e67 : y.1 0 67 = w.1 0 67 := hy.1.1 67 (by decide)
  have e23 : y.1 0 23 = w.1 0 23 := hy.1.1 23 (by decide)
  have e70 : y.1 70 = w.1 70 := hy.1.2 70 (by decide) (by simp)
  have qy := (MI_0q9 hy.1 hm).1
  refine sc_noRunk hy (fun hr => ⟨fun q => absurd rfl q, fun _ => ?_⟩) (fun c y' m => ⟨fun _ => ri_i (hF _ y' (an_1q9 hm (show w.1 0 67 = 0 by rw [← e67]; exact c) m)), fun q => absurd q (by decide)⟩)
  obtain ⟨cp, _, _⟩ := RS_of qy hr
  have g := cp.1
  rw [e67] at hr
  obtain ⟨hc, hh, e94⟩ := JH_Mq9 h hr
  have mm := (HistC_MM (JH_gcq9 h hH).1.1 hh e94).1
  have p32 : ∀ b : Int32, (b = 0 → 0 ≤ l.toInt ∧ l.toInt < (y.1 0 23).toInt) → (¬ b = 0 → ¬ (0 ≤ l.toInt ∧ l.toInt < (y.1 0 23).toInt)) → MT G (D + 2) z_cell 32 [(0, vr 0), (1, vi l)] [vi b, vr 0] y (ri F) := fun b hb hb2 => sg_cell_32 _ _ (sc_refk b 2 hy (by decide) (fun b0 => ⟨fun _ => ⟨by rw [vp_in_iff]; have := hb b0; have := g.2.1; omega, ri_i (hF _ y (an_3q9 qy hr (fun z => z.2 (by rw [← e23]; exact hb b0)) hy.2 ⟨by
    rw [e70, t_cl]
    exact mm.1 _ (by have := hb b0; have := g.2.1; omega), rd_0q9 hy.1 hm⟩))⟩, fun q => absurd rfl q⟩) (fun nb y' m => ⟨fun q => absurd q (by decide), fun _ => ri_i (hF _ y' (an_2q9 hm ⟨hr, by rw [← e23]; exact hb2 nb⟩ m))⟩))
  exact sp_in _ _ _ ⟨fun cc => p32 0 (fun _ => in_lt (bi_ne.mp cc) g.1) (fun z => absurd rfl z), fun cc => p32 1 (fun q => absurd q (by decide)) (fun _ => in_ge (bi_eq.mp cc) g.1)⟩
theorem ma_seenq9 (h : JHq9 C wr n lm x w) (hH : HOI x q) (hm : MI w) (t c : Int32) (hD : 3 ≤ D) (hF : ∀ r w', ansMq9 C wr (f1Ch w) (f2Se w t c) (tSeq9 C wr n w t c) w r w' → F r w') : MT G D z_seen 0 [(0, vr 0), (1, vi t), (2, vi c)] [] w (ri F) := by
  obtain ⟨D, rfl⟩ : ∃ D', D = D' + 2 := ⟨D - 2, by omega⟩
  refine sg_seen_0 _ _ (fun y e => ?_)
  have hy := z0_s e
  have e67 : y.1 0 67 = w.1 0 67 := hy.1.1 67 (by decide)
  have e23 : y.1 0 23 = w.1 0 23 := hy.1.1 23 (by decide)
  have e25 : y.1 0 25 = w.1 0 25 := hy.1.1 25 (by decide)
  have qy := (MI_0q9 hy.1 hm).1
  refine sc_noRunk hy (fun hr => ⟨fun q => absurd rfl q, fun _ => ?_⟩) (fun c y' m => ⟨fun _ => ri_i (hF _ y' (an_1q9 hm (show w.1 0 67 = 0 by rw [← e67]; exact c) m)), fun q => absurd q (by decide)⟩)
  obtain ⟨cp, _, _⟩ := RS_of qy hr
  have g := cp.1
  rw [e67] at hr
  obtain ⟨hc, hh, e94⟩ := JH_Mq9 h hr
  obtain ⟨mm, m8⟩ := HistC_MM (JH_gcq9 h hH).1.1 (HistC_0 hy.1 hh) (n := n) (by rw [hy.1.1 94 (by decide)]; exact e94)
  have cy : c96 y = c96 w := by unfold c96; rw [hy.1.2 96 (by decide) (by simp)]
  rw [cy] at mm
  have p46 : ∀ b : Int32, (b = 0 → (0 ≤ t.toInt ∧ t.toInt < (y.1 0 25).toInt) ∧ 0 ≤ c.toInt ∧ c.toInt < (y.1 0 23).toInt) → (¬ b = 0 → ¬ ((0 ≤ t.toInt ∧ t.toInt < (y.1 0 25).toInt) ∧ 0 ≤ c.toInt ∧ c.toInt < (y.1 0 23).toInt)) → MT G (D + 2) z_seen 46 [(0, vr 0), (1, vi t), (2, vi c)] [vi b, vr 0] y (ri F) := fun b hb hb2 => sg_seen_46 _ _ _ (sc_refk b 2 hy (by decide) (fun b0 => ⟨fun _ => by
    obtain ⟨b1, b2⟩ := hb b0
    have g2 := g.2.1
    have g6 := g.2.2.2.2.2.1
    have tv : vp_in t 6 := by rw [vp_in_iff]; omega
    have tq := mm.2.2 _ (vt tv)
    refine sp_see3 t c tv (by rw [vp_in_iff]; omega) (m8 _ (vt tv)) tq.2.2.2.2.2.2.2.2.1 (ri_i (hF _ y (an_3q9 qy hr (fun z => z.2 (by rw [← e23, ← e25]; exact hb b0)) hy.2 ⟨?_, rd_0q9 hy.1 hm⟩)))
    unfold seM
    rw [mm.1 c.toNatClampNeg (by have := t_cl c; omega), t_cl, t_cl], fun q => absurd rfl q⟩) (fun nb y' m => ⟨fun q => absurd q (by decide), fun _ => ri_i (hF _ y' (an_2q9 hm ⟨hr, by rw [← e23, ← e25]; exact hb2 nb⟩ m))⟩))
  exact sp_in _ _ _ ⟨fun c1 => p46 1 (fun q => absurd q (by decide)) (fun _ z => in_ge (bi_eq.mp c1) g.2.2.2.2.1 z.1), fun c1 => sp_in _ _ _ ⟨fun c2 => p46 0 (fun _ => ⟨in_lt (bi_ne.mp c1) g.2.2.2.2.1, in_lt (bi_ne.mp c2) g.1⟩) (fun z => absurd rfl z), fun c2 => p46 1 (fun q => absurd q (by decide)) (fun _ z => in_ge (bi_eq.mp c2) g.1 z.2)⟩⟩
end RST
section KRS
variable {G : kG} {q : kP} {d : Nat} {x y w w' : gd} {P : Option gv → gd → Prop} {X : String → gd → Prop} {C : gCo} {wr n : Nat} {lm : Nat → Nat}
theorem ka_cellq9 (h : JHq9 C wr n lm x w) (hq : kV q) (hH : HOI x q) (l1 : Int32) (hX1 : e1Ch x → X iSE x) (hX2 : e2Ce x l1 → X iOE x) (hP : ¬ e1Ch x → ¬ e2Ce x l1 → ∀ r y, HOI y q → sCe C wr n (c96 w) x l1 r y → P (some (vi r)) y) : KE G q (d + 7) zk_X11_cell 0 [(0, vr 0), (1, vi l1)] [] x P X :=
  kg_X11_cell_0 hq l1 (kh_run hq hH hX1 (fun h10 hR => kh_ix hq l1 _ (fun hn => hX2 ⟨h10, hn⟩) (fun l0 l9 => ⟨by have := hR.1.1.1.1; rw [vp_in_iff]; omega, hP h10 (fun z => z.2 ⟨l0, l9⟩) _ x hH ⟨by
    have g := (JH_Rq9 h h10).2.1.2.1.1.1.1 l1.toInt.toNat (by omega)
    rw [t_cl]
    exact g, KR_rf⟩⟩)))
theorem ka_seenq9 (h : JHq9 C wr n lm x w) (hq : kV q) (hH : HOI x q) (l1 l2 : Int32) (hX1 : e1Ch x → X iSE x) (hX2 : e2Se x l1 l2 → X iOE x) (hP : ¬ e1Ch x → ¬ e2Se x l1 l2 → ∀ r y, HOI y q → sSe C wr n (c96 w) x l1 l2 r y → P (some (vi r)) y) : KE G q (d + 7) zk_X11_seen 0 [(0, vr 0), (1, vi l1), (2, vi l2)] [] x P X := by
  refine kg_X11_seen_0 hq l1 l2 (kh_run hq hH hX1 (fun h10 hR => kh_ix hq l1 _ (fun hn => hX2 ⟨h10, fun z => hn z.1⟩) (fun l0 l9 => kh_ix hq l2 _ (fun hn => hX2 ⟨h10, fun z => hn z.2⟩) (fun g0 g9 => ?_))))
  obtain ⟨j, r, -, -⟩ := JH_Rq9 h h10
  have e10 : (x.1 60 10).toInt = (C.2.1.length : Nat) := j.2.1.2.1.1
  exact kh_seenBy hq (Or.inl rfl) hR.1 j.2.1 r.2.1.1 l1 l2 (T := l1.toInt.toNat) (c' := l2.toInt.toNat) (by omega) (by omega) (by omega) (by omega) (hP h10 (fun z => z.2 ⟨⟨l0, l9⟩, g0, g9⟩) _ x hH ⟨rfl, KR_rf⟩)
theorem ja_cellq9 {l r9 r : Int32} (h : JHq9 C wr n lm x w) (hH : HOI y q) (k : ansK (e1Ch x) (e2Ce x l) (sCe C wr n (c96 w) x l) x r9 y) (m : ansMq9 C wr (f1Ch w) (f2Ce w l) (tCeq9 C wr n w l) w r w') : JR3q9 y w' ∧ ansE r9 r y w' := by
  have e9 := JH_10q9 h
  refine ans_eqq9 h hH e9 ⟨fun z => ⟨fun a => z.1 (e9.mpr a), by rw [← (JH_Rq9 h z.1).1.1.2.2.1]; exact z.2⟩, fun z => ⟨fun a => z.1 (e9.mp a), by rw [(JH_Rq9 h (fun a => z.1 (e9.mp a))).1.1.2.2.1]; exact z.2⟩⟩ (fun a z => z.1 a) k m (fun c _ r' s t => ⟨JQ_rdq9 h hH s.2 t.2, s.1.trans t.1.symm⟩)
theorem ja_seenq9 {l1 l2 r9 r : Int32} (h : JHq9 C wr n lm x w) (hH : HOI y q) (k : ansK (e1Ch x) (e2Se x l1 l2) (sSe C wr n (c96 w) x l1 l2) x r9 y) (m : ansMq9 C wr (f1Ch w) (f2Se w l1 l2) (tSeq9 C wr n w l1 l2) w r w') : JR3q9 y w' ∧ ansE r9 r y w' := by
  have e9 := JH_10q9 h
  refine ans_eqq9 h hH e9 ⟨fun z => ⟨fun a => z.1 (e9.mpr a), by rw [← (JH_Rq9 h z.1).1.1.2.2.1, ← (JH_Rq9 h z.1).1.1.2.2.2.2.1]; exact z.2⟩, fun z => ⟨fun a => z.1 (e9.mp a), by rw [(JH_Rq9 h (fun a => z.1 (e9.mp a))).1.1.2.2.1, (JH_Rq9 h (fun a => z.1 (e9.mp a))).1.1.2.2.2.2.1]; exact z.2⟩⟩ (fun a z => z.1 a) k m (fun c _ r' s t => ⟨JQ_rdq9 h hH s.2 t.2, s.1.trans t.1.symm⟩)
end KRS

def tFiq9 (C : gCo) (lm : Nat → Nat) (wr : Nat) (w : gd) (l1 l2 r : Int32) (w' : gd) : Prop := fdV (fun v => ¬ w.1 119 v = 0) C lm l1 l2 r ∧ rdMq9 C wr w w'
section KFI
variable {G : kG} {q : kP} {d : Nat} {x y w w' : gd} {P : Option gv → gd → Prop} {X : String → gd → Prop} {C : gCo} {wr n : Nat} {lm : Nat → Nat}
theorem ja_findingq9 {l1 l2 r9 r : Int32} (h : JHq9 C wr n lm x w) (hH : HOI y q) (k : ansK (e1Sh l1 l2) False (sFi C lm x l1 l2) x r9 y) (m : ansMq9 C wr (e1Sh l1 l2) False (tFiq9 C lm wr w l1 l2) w r w') : JR3q9 y w' ∧ ansE r9 r y w' :=
  ans_eqq9 h hH Iff.rfl Iff.rfl (fun _ z => z) k m (fun c _ r' s t => ⟨JQ_rdq9 h hH s.2 t.2, fdV_eq (fun v v01 => ⟨fun a b => a ((JH_Tq9 h v v01).1.mpr b), fun a b => a ((JH_Tq9 h v v01).1.mp b)⟩) s.1 t.1⟩)
theorem ka_findingq9 (h : JHq9 C wr n lm x w) (hq : kV q) (hH : HOI x q) (l1 l2 : Int32) (hX1 : e1Sh l1 l2 → X iAE x) (hP : ¬ e1Sh l1 l2 → ¬ False → ∀ r y, HOI y q → sFi C lm x l1 l2 r y → P (some (vi r)) y) : KE G q (d + 7) zk_X11_finding 0 [(0, vr 0), (1, vi l1), (2, vi l2)] [] x P X := by
  refine kg_X11_finding_0 hq l1 l2 (kf_way hq l1 (fun z => hX1 (fun z2 => z z2.1)) (fun hw => kh_fnd hq l2 (fun z => hX1 (fun z2 => z z2.2)) (fun f0 f11 => ?_)))
  obtain ⟨v, w01, ew, ewn⟩ := w_nat hw
  have ok : ¬ e1Sh l1 l2 := fun z => z ⟨hw, f0, f11⟩
  have hP := hP ok (fun z => z)
  refine kg_X11_firstState_0 hq l1 l2 (kh_was (w := v) hq hH l1 w01 ew (fun c0 => ⟨fun _ => ?_, fun c => absurd rfl c⟩) (fun e7 ho hz hC nz => ⟨fun c => absurd c (by decide), fun _ => ⟨way_in hw, fun u5 e5 => ⟨260 + 20 * v, by rw [e5, ewn, e7], ho, by rw [vp_in_iff]; omega, ?_⟩⟩⟩))
  · exact ri_i ⟨fun c => absurd rfl c, fun _ => hP _ x hH ⟨⟨v, w01, ew, Or.inr ⟨fun s t => absurd c0 t, rfl⟩⟩, KR_rf⟩⟩
  obtain ⟨-, ⟨⟨t0, -⟩, hPA, hFN⟩, -⟩ := (JH_Tq9 h v w01).2 nz
  have F2 : l2.toNatClampNeg = l2.toInt.toNat := rfl
  have b3 := hz.1.2
  rw [F2]
  rcases hFN l2.toInt.toNat (by omega) with ⟨g1, g2⟩ | ⟨s, p, g1, g2, g3, g4, g5⟩
  · rw [g1]
    refine ri_i ⟨fun c => absurd rfl c, fun _ => hP _ x hH ⟨⟨v, w01, ew, Or.inr ⟨fun s _ hs => ?_, rfl⟩⟩, KR_rf⟩⟩
    obtain ⟨p, a1, a2, -⟩ := hs
    exact g2 s p (gt_lt a1) a1 a2
  · obtain ⟨r, er⟩ : ∃ r, r = x.1 (260 + 20 * v + 7) l2.toInt.toNat := ⟨_, rfl⟩
    rw [← er] at g2 ⊢
    have rS : r.toNatClampNeg = s := by rw [t_cl, g2]; rfl
    have sl := gt_lt g3
    refine ri_i ⟨fun c => ⟨way_in hw, fun u7 e => ⟨260 + 20 * v, by rw [e, ewn, e7], ho, by rw [vp_in_iff]; omega, ?_⟩⟩, fun c => ?_⟩
    · rw [rS]
      exact hP _ x hH ⟨⟨v, w01, ew, Or.inl ⟨s, nz, ⟨p, g3, g4, g5⟩, PA_d TW_try hPA s s p (Nat.le_refl _) g3⟩⟩, KR_rf⟩
    · rw [c, tm1] at g2; omega
end KFI
section MFI
variable {G : mG} {d D : Nat} {x w : gd} {F : Int32 → gd → Prop} {C : gCo} {wr n : Nat} {lm : Nat → Nat} {q : kP}
theorem ma_findingq9 (h : JHq9 C wr n lm x w) (hH : HOI x q) (hm : MI w) (l1 l2 : Int32) (hD : 3 ≤ D) (hF : ∀ r w', ansMq9 C wr (e1Sh l1 l2) False (tFiq9 C lm wr w l1 l2) w r w' → F r w') : MT G D z_finding 0 [(0, vr 0), (1, vi l1), (2, vi l2)] [] w (ri F) := by
  obtain ⟨D, rfl⟩ : ∃ D', D = D' + 1 := ⟨D - 1, by omega⟩
  have km1 : (-1 : Int32).toInt = -1 := rfl
  refine sg_finding_0 _ _ (fun y e => ?_)
  have hy := z0_s e
  have qy := (MI_0q9 hy.1 hm).1
  have g119 : y.1 119 = w.1 119 := hy.1.2 119 (by decide) (by simp)
  have p63 : ∀ v : Nat, (v = 0 ∨ v = 1) → l1 = Int32.ofNat v → vp_in l1 2 → 0 ≤ l2.toInt → l2.toInt < 11 → ∀ s : Int32, (s = -1 → ∀ S, ¬ w.1 119 v = 0 → ¬ fsF C v (twM C lm v) l2.toInt.toNat S) → (¬ s = -1 → ¬ w.1 119 v = 0 ∧ ∃ S : Nat, s.toInt = (S : Nat) ∧ fsF C v (twM C lm v) l2.toInt.toNat S) → MT G (D + 1) z_finding 63 [(0, vr 0), (1, vi l1)] [vi s] y (ri F) := by
    intro v w01 ew wv f0 f1 s h1 h2
    have ok : ¬ e1Sh l1 l2 := fun z => z ⟨w_01 w01 ew, f0, f1⟩
    refine sg_finding_63 _ _ ⟨fun ne => ?_, fun e1 => ri_i (hF _ y (an_3q9 qy ok (fun z => z) hy.2 ⟨⟨v, w01, ew, Or.inr ⟨h1 e1, rfl⟩⟩, rd_0q9 hy.1 hm⟩))⟩
    obtain ⟨tr, S, es, hfs⟩ := h2 ne
    have tyw := ((JH_Tq9 h v w01).2 (fun z => tr ((JH_Tq9 h v w01).1.mp z))).2.2
    have ty : TYc C v y (twM C lm v) := TYc_mi hy.1 rfl tyw
    obtain ⟨p9, hp9, -⟩ := id hfs
    have sS := gt_lt hp9
    have b3 := ty.2.1
    have tm := tmul (k := 3000) (K := 3000) (N := 6000) (n := 3000) (i := s) rfl wv (by omega) (by omega) (by omega) (by omega) (by omega)
    have e9 : l1.toNatClampNeg = v := by rcases w01 with e | e <;> rw [ew, e] <;> rfl
    have cs : s.toNatClampNeg = S := by rw [t_cl, es]; rfl
    refine ⟨tm.1, ri_i (hF _ y (an_3q9 qy ok (fun z => z) hy.2 ⟨⟨v, w01, ew, Or.inl ⟨S, tr, hfs, ?_⟩⟩, rd_0q9 hy.1 hm⟩))⟩
    rw [tm.2, e9, cs]
    exact TYc_d TW_try ty S S p9 (Nat.le_refl _) hp9
  have p30 : ∀ b : Int32, (b = 0 → (vp_in l1 2 ∧ (l1 = 0 ∨ l1 = 1)) ∧ 0 ≤ l2.toInt ∧ l2.toInt < 11) → (¬ b = 0 → e1Sh l1 l2) → MT G (D + 1) z_finding 30 [(0, vr 0), (1, vi l1), (2, vi l2)] [vi b, vr 0] y (ri F) := by
    intro b hb hb2
    refine sg_finding_30 _ _ _ (sc_refk b 1 hy (by decide) (fun b0 => ⟨fun _ => ?_, fun q => absurd rfl q⟩) (fun nb y' m => ⟨fun q => absurd q (by decide), fun _ => ri_i (hF _ y' (an_1q9 hm (hb2 nb) m))⟩))
    obtain ⟨⟨wv, hw⟩, f0, f1⟩ := hb b0
    obtain ⟨v, w01, ew, ewn⟩ := w_nat hw
    obtain ⟨fv, fe⟩ := t11 wv f0 f1
    rw [ewn, g119]
    refine ⟨wv, fun t0 => p63 v w01 ew wv f0 f1 _ (fun _ S t => absurd t0 t) (fun z => absurd rfl z), fun tr => ⟨fv, ?_⟩⟩
    have tyw := ((JH_Tq9 h v w01).2 (fun z => tr ((JH_Tq9 h v w01).1.mp z))).2.2
    have ty : TYc C v y (twM C lm v) := TYc_mi hy.1 rfl tyw
    have cf : l2.toNatClampNeg = l2.toInt.toNat := rfl
    rw [fe, ewn, cf]
    refine p63 v w01 ew wv f0 f1 _ (fun e1 S _ hS => ?_) (fun ne => ⟨tr, ?_⟩)
    · rcases ty.2.2.1 l2.toInt.toNat (by omega) with ⟨-, g2⟩ | ⟨s9, p8, -, g2, -⟩
      · obtain ⟨p, a1, a2, -⟩ := hS
        exact g2 S p (gt_lt a1) a1 a2
      · have g2 : (y.1 126 (11 * v + l2.toInt.toNat)).toInt = (s9 : Nat) := g2
        rw [e1, km1] at g2; omega
    · rcases ty.2.2.1 l2.toInt.toNat (by omega) with ⟨g1, -⟩ | ⟨s9, p8, g1, g2, g3, g4, g5⟩
      · exact absurd g1 ne
      · exact ⟨s9, g2, p8, g3, g4, g5⟩
  refine sp_in _ _ _ ⟨fun c1 => p30 1 (fun q => absurd q (by decide)) (fun _ hg => ?_), fun c1 => sp_in _ _ _ ⟨fun c2 => p30 0 (fun _ => ⟨w_in (bi_ne.mp c1), f_in (bi_ne.mp c2)⟩) (fun z => absurd rfl z), fun c2 => p30 1 (fun q => absurd q (by decide)) (fun _ hg => ?_)⟩⟩
  · refine bi_eq.mp c1 ?_
    rcases hg.1 with e9 | e9 <;> rw [e9]
    · exact ⟨by decide, by decide⟩
    · exact ⟨by decide, by decide⟩
  · have k0 : (0 : Int32).toInt = 0 := rfl
    have k10 : (10 : Int32).toInt = 10 := rfl
    refine bi_eq.mp c2 ⟨t_le.mpr (by rw [k0]; exact hg.2.1), t_le.mpr ?_⟩
    have := hg.2.2
    rw [k10]; omega
end MFI

section LOC
variable {sl r : List Nat} {a k : Nat}
end LOC
def tLoq9 (C : gCo) (wr n : Nat) (w : gd) (l1 l2 r : Int32) (w' : gd) : Prop := r = ((runM C wr (c96 w) n).2.2 l1.toInt.toNat).2.2.2.2.2.2.2 l2.toInt.toNat ∧ rdMq9 C wr w w'
section KLO
variable {G : kG} {q : kP} {d : Nat} {x y w w' : gd} {P : Option gv → gd → Prop} {X : String → gd → Prop} {C : gCo} {wr n : Nat} {lm : Nat → Nat}
/-- a thread stands at a step that there is -/
theorem JH_stq9 (h : JHq9 C wr n lm x w) (hH : HOI x q) (h10 : ¬ x.1 0 10 = 0) {t : Nat} (ht : (t : Int) < (x.1 60 10).toInt) : ∃ st, C.1[((runM C wr (c96 w) n).2.2 t).2.2.1]? = some st ∧ stN C ((runM C wr (c96 w) n).2.2 t).2.2.1 = st := by
  obtain ⟨j, r, -, -⟩ := JH_Rq9 h h10
  have hR := hH.2.2.1 h10
  have ta := (hR.1.2.2 t ht).1.1
  have e10 : (x.1 60 10).toInt = (C.2.1.length : Nat) := j.2.1.2.1.1
  have kq := r.2.1.1.2 t (by omega)
  have e2 := kq.2.2.1
  have el : (x.1 80 9).toInt = (C.1.length : Nat) := j.2.1.1.1
  have ss : ssm x = (x.1 80 9).toInt := rfl
  have hl : ((runM C wr (c96 w) n).2.2 t).2.2.1 < C.1.length := by omega
  have hg := List.getElem?_eq_getElem hl
  exact ⟨_, hg, by unfold stN; rw [hg]; rfl⟩
theorem ka_localq9 (h : JHq9 C wr n lm x w) (hq : kV q) (hH : HOI x q) (l1 l2 : Int32) (hX1 : e1Ch x → X iSE x) (hX2 : e2Lo C wr n (c96 w) x l1 l2 → X iOE x) (hP : ¬ e1Ch x → ¬ e2Lo C wr n (c96 w) x l1 l2 → ∀ r y, HOI y q → sLo C wr n (c96 w) x l1 l2 r y → P (some (vi r)) y) : KE G q (d + 7) zk_X11_local 0 [(0, vr 0), (1, vi l1), (2, vi l2)] [] x P X := by
  have hm : kiM q 120 := Or.inl rfl
  have k8 : (8 : Int32).toInt = 8 := rfl
  refine kg_X11_local_0 hq l1 l2 (kh_run hq hH hX1 (fun h10 hR => kh_ix hq l1 _ (fun hn => hX2 ⟨h10, fun z => hn z.1⟩) (fun l0 l9 => ?_)))
  have hT : ((l1.toInt.toNat : Nat) : Int) < (x.1 60 10).toInt := by omega
  have eT : l1.toInt = ((l1.toInt.toNat : Nat) : Int) := by omega
  have hT6 := MM_6 hR.1.1 hT
  have hA := (hR.1.2.2 _ hT).1
  obtain ⟨st, hs, es⟩ := JH_stq9 h hH h10 hT
  obtain ⟨j, r, -, -⟩ := JH_Rq9 h h10
  have e10 : (x.1 60 10).toInt = (C.2.1.length : Nat) := j.2.1.2.1.1
  obtain ⟨H, eH⟩ : ∃ H, H = (runM C wr (c96 w) n).2.2 l1.toInt.toNat := ⟨_, rfl⟩
  have kq := r.2.1.1.2 l1.toInt.toNat (by omega)
  rw [← eH] at kq hs es
  obtain ⟨⟨q0, q0'⟩, -, q2, -, -, -, -, qv, ql⟩ := kq
  have e83 : (x.1 83 H.2.2.1).toInt = (st.2.1.length : Nat) := (j.2.1.1.2 _ st hs).2.1
  have s13 : (rg x 120 l1.toInt.toNat 0 = 1 ∨ rg x 120 l1.toInt.toNat 0 = 3) ↔ (H.1 = 1 ∨ H.1 = 3) := by
    rw [q0]
    exact or_congr (st_4 _ (by omega) 1 (by decide)) (st_4 _ (by omega) 3 (by decide))
  refine kh_known hq hm hR.1.1 hR.1.2.1 l1 eT hT6 hA (fun r9 r0 r8 a1 a2 => ?_)
  have er : r9.toInt = (knL C H : Nat) := by
    unfold knL
    by_cases c : H.1 = 1 ∨ H.1 = 3
    · have e2 : (rg x 120 l1.toInt.toNat 2).toInt.toNat = H.2.2.1 := by rw [q2]; rfl
      rw [a1 (s13.mpr c), if_pos c, es, e2]; exact e83
    · rw [a2 (fun z => c (s13.mp z)), if_neg c]; rfl
  have inq : inL (x.1 60 10).toInt (fun t => knL C ((runM C wr (c96 w) n).2.2 t)) l1 l2 ↔ ((0 ≤ l1.toInt ∧ l1.toInt < (x.1 60 10).toInt) ∧ 0 ≤ l2.toInt ∧ l2.toInt < (knL C H : Nat)) := by
    rw [eH]
  refine kh_ix hq l2 r9 (fun hn => hX2 ⟨h10, fun z => hn ?_⟩) (fun g0 g9 => ?_)
  · have := (inq.mp z).2
    rw [er]; exact this
  rw [er] at g9
  have c13 : H.1 = 1 ∨ H.1 = 3 := by
    apply Classical.byContradiction
    intro c
    unfold knL at g9
    rw [if_neg c] at g9
    omega
  have gl : l2.toInt < (st.2.1.length : Nat) := by
    unfold knL at g9
    rw [if_pos c13, es] at g9
    exact g9
  have g13 := ql c13
  rw [es] at g13
  refine kp_get hq hm hR.1.1 hR.1.2.1 l1 (8 + l2) (K := 8 + l2.toInt.toNat) eT ?_ hT6 (by omega) (hP h10 (fun z => z.2 (inq.mpr ⟨⟨l0, l9⟩, g0, g9⟩)) _ x hH ⟨?_, KR_rf⟩)
  · rw [t_add (by rw [k8]; omega) (by rw [k8]; omega), k8]; omega
  · rw [← eH]
    exact qv l2.toInt.toNat (by omega)
theorem ja_localq9 {l1 l2 r9 r : Int32} (h : JHq9 C wr n lm x w) (hH : HOI y q) (k : ansK (e1Ch x) (e2Lo C wr n (c96 w) x l1 l2) (sLo C wr n (c96 w) x l1 l2) x r9 y) (m : ansMq9 C wr (f1Ch w) (f2Lo C wr n w l1 l2) (tLoq9 C wr n w l1 l2) w r w') : JR3q9 y w' ∧ ansE r9 r y w' := by
  have e9 := JH_10q9 h
  refine ans_eqq9 h hH e9 ⟨fun z => ⟨fun a => z.1 (e9.mpr a), by rw [← (JH_Rq9 h z.1).1.1.2.2.2.2.1]; exact z.2⟩, fun z => ⟨fun a => z.1 (e9.mp a), by rw [(JH_Rq9 h (fun a => z.1 (e9.mp a))).1.1.2.2.2.2.1]; exact z.2⟩⟩ (fun a z => z.1 a) k m (fun c _ r' s t => ⟨JQ_rdq9 h hH s.2 t.2, s.1.trans t.1.symm⟩)
end KLO
section MLO
variable {G : mG} {d D : Nat} {x w : gd} {F : Int32 → gd → Prop} {C : gCo} {wr n : Nat} {lm : Nat → Nat} {q : kP}
theorem ma_localq9 (h : JHq9 C wr n lm x w) (hH : HOI x q) (hm : MI w) (t i : Int32) (hD : 3 ≤ D) (hF : ∀ r w', ansMq9 C wr (f1Ch w) (f2Lo C wr n w t i) (tLoq9 C wr n w t i) w r w' → F r w') : MT G D z_local 0 [(0, vr 0), (1, vi t), (2, vi i)] [] w (ri F) := by
  obtain ⟨D, rfl⟩ : ∃ D', D = D' + 2 := ⟨D - 2, by omega⟩
  have k0 : (0 : Int32).toInt = 0 := rfl
  have k1 : (1 : Int32).toInt = 1 := rfl
  have k8 : (8 : Int32).toInt = 8 := rfl
  refine sg_local_0 _ _ (fun y e => ?_)
  have hy := z0_s e
  have e67 : y.1 0 67 = w.1 0 67 := hy.1.1 67 (by decide)
  have e25 : y.1 0 25 = w.1 0 25 := hy.1.1 25 (by decide)
  have qy := (MI_0q9 hy.1 hm).1
  refine sc_noRunk hy (fun hr => ⟨fun q => absurd rfl q, fun _ => ?_⟩) (fun c y' m => ⟨fun _ => ri_i (hF _ y' (an_1q9 hm (show w.1 0 67 = 0 by rw [← e67]; exact c) m)), fun q => absurd q (by decide)⟩)
  obtain ⟨cp, _, rt⟩ := RS_of qy hr
  have g := cp.1
  have g6 := g.2.2.2.2.2.1
  rw [e67] at hr
  have h10 : ¬ x.1 0 10 = 0 := fun z => hr ((JH_10q9 h).mp z)
  obtain ⟨hc, hh, e94⟩ := JH_Mq9 h hr
  have gc := (JH_gcq9 h hH).1
  obtain ⟨mm, m8⟩ := HistC_MM gc.1 (HistC_0 hy.1 hh) (n := n) (by rw [hy.1.1 94 (by decide)]; exact e94)
  have cy : c96 y = c96 w := by unfold c96; rw [hy.1.2 96 (by decide) (by simp)]
  rw [cy] at mm
  have hKy : MK y C := MK_miq9 hy.1 rfl rfl (JH_Rq9 h h10).1.2.2.1
  have jn : x.1 60 10 = w.1 0 25 := (JH_Rq9 h h10).1.1.2.2.2.2.1
  -- the locals of a thread that there is
  have main : 0 ≤ t.toInt → t.toInt < (y.1 0 25).toInt → MT G (D + 1) z_knownOf 0 [(0, vr 0), (1, vi t)] [] y (ri (fun r4 x3 => MT G (D + 2) z_local 53 [(0, vr 0), (1, vi t), (2, vi i), (3, vi r4), (4, vi 0), (5, vi 0)] [] x3 (ri F))) := by
    intro t0 t1
    have tv : vp_in t 6 := by rw [vp_in_iff]; omega
    have ct := t_cl t
    have t6 : t.toInt.toNat < 6 := by omega
    obtain ⟨H, eH⟩ : ∃ H, H = (runM C wr (c96 w) n).2.2 t.toInt.toNat := ⟨_, rfl⟩
    obtain ⟨st, hs, es⟩ := JH_stq9 h hH h10 (t := t.toInt.toNat) (by rw [jn, ← e25]; omega)
    have tq := mm.2.2 t.toInt.toNat t6
    rw [← eH] at hs es tq
    obtain ⟨q0, q0', -, q2, -, -, -, -, -, q7, -⟩ := tq
    obtain ⟨np, nl, n8⟩ := (gc.1.1 _ st hs).2.2.2.2.1
    have s8 : ∀ s ∈ st.2.1, s < 8 := fun s hs9 => by have := nl s hs9; omega
    have e62 : y.1 62 H.2.2.1 = kmN st.2.1 := (hKy.1.2 _ st hs).2.2.2.2.2.2.2.2
    have inq : inL (w.1 0 25).toInt (fun t => knL C ((runM C wr (c96 w) n).2.2 t)) t i ↔ ((0 ≤ t.toInt ∧ t.toInt < (w.1 0 25).toInt) ∧ 0 ≤ i.toInt ∧ i.toInt < (knL C H : Nat)) := by
      rw [eH]
    -- over the slots
    obtain ⟨sl, esl⟩ : ∃ sl : List Nat, sl = (if H.1 = 1 ∨ H.1 = 3 then st.2.1 else []) := ⟨_, rfl⟩
    have slp : sl.Pairwise (fun a b => b < a) := by rw [esl]; split; exact np; exact List.Pairwise.nil
    have sl8 : ∀ s ∈ sl, s < 8 := by rw [esl]; split; exact s8; exact fun s hs9 => nomatch hs9
    have kl : knL C H = sl.length := by
      unfold knL
      rw [esl, es]
      split
      · rfl
      · rfl
    have loop : ∀ (m k : Nat) (s : Int32), 8 - k ≤ m → k ≤ 8 → s.toInt = (lowc sl k : Nat) → ¬ (0 ≤ i.toInt ∧ i.toInt < (lowc sl k : Nat)) → MT G (D + 2) z_local 53 [(0, vr 0), (1, vi t), (2, vi i), (3, vi (kmN sl)), (4, vi s), (5, vi (Int32.ofNat k))] [] y (ri F) := by
      intro m
      have last : ∀ k : Nat, k = 8 → ¬ (0 ≤ i.toInt ∧ i.toInt < (lowc sl k : Nat)) → MT G (D + 1) z_refuses 0 [(0, vr 0), (1, vi 1), (2, vi 2)] [] y (ri (fun r3 x2 => ri F (some (vi 0)) x2)) := fun k ek hn => sc_refk 1 2 hy (by decide) (fun q => absurd q (by decide)) (fun _ y' m => ri_i (hF _ y' (an_2q9 hm ⟨hr, fun z => hn (by
        rw [ek, lowc_8 sl8, ← kl]
        exact (inq.mp z).2)⟩ m)))
      have ok : ∀ k, k ≤ 8 → (Int32.ofNat k).toInt = (k : Nat) := fun k hk => Int32.toInt_ofNat_of_lt (by omega)
      induction m with
      | zero =>
        intro k s hk hk8 hs9 hn
        exact sg_local_53 _ _ _ _ _ ⟨fun _ => last k (by omega) hn, fun c => absurd (t_le.mpr (by rw [k8, ok k hk8]; omega)) c⟩
      | succ m ih =>
        intro k s hk hk8 hs9 hn
        refine sg_local_53 _ _ _ _ _ ⟨fun c => last k (by rw [t_le, k8, ok k hk8] at c; omega) hn, fun c => ?_⟩
        rw [t_le, k8, ok k hk8] at c
        have kl8 : k < 8 := by omega
        have e1 : Int32.ofNat k + 1 = Int32.ofNat (k + 1) := by
          rw [t_eq, t_add (by rw [ok k hk8]; omega) (by rw [ok k hk8]; omega), ok k hk8, ok (k + 1) (by omega), k1]
          push_cast; rfl
        have lb : lowc sl k ≤ 8 := by
          unfold lowc
          have h1 := List.length_filter_le (fun s => decide (s < k)) sl
          have h2 : sl.length ≤ 8 := by rw [← lowc_8 sl8]; exact lowc_le slp 8
          omega
        have bit := km_bit sl8 k kl8
        rw [e1, bit]
        have step := lowc_s slp k
        by_cases ck : k ∈ sl
        · rw [if_pos ck] at step ⊢
          refine ⟨fun z => absurd rfl z, fun _ => ⟨fun ne => ih (k + 1) (s + 1) (by omega) (by omega) ?_ ?_, fun eq => ⟨?_, ?_⟩⟩⟩
          · rw [t_add (by rw [k1]; omega) (by rw [k1]; omega), k1, hs9, step]; push_cast; rfl
          · intro z
            rw [step] at z
            have : i.toInt = (lowc sl k : Nat) := by
              have := z.2
              push_cast at this
              omega
            exact ne (t_eq.mpr (by rw [hs9, this]))
          · have m9 : (8 * t).toInt = 8 * t.toInt := by rw [t_mul (by rw [k8]; omega) (by rw [k8]; omega), k8]
            rw [vp_in_iff, t_add (by rw [ok k hk8]; omega) (by rw [ok k hk8]; omega), m9, ok k hk8]; omega
          · obtain ⟨i1, i2⟩ := lowc_in slp ck
            have ei : i.toInt = (lowc sl k : Nat) := by rw [← eq]; exact hs9
            have m9 : (8 * t).toInt = 8 * t.toInt := by rw [t_mul (by rw [k8]; omega) (by rw [k8]; omega), k8]
            have m10 : (8 * t + Int32.ofNat k).toNatClampNeg = 8 * t.toInt.toNat + k := by
              rw [t_cl, t_add (by rw [ok k hk8]; omega) (by rw [ok k hk8]; omega), m9, ok k hk8]; omega
            have c13 : H.1 = 1 ∨ H.1 = 3 := by
              apply Classical.byContradiction
              intro z
              rw [esl, if_neg z] at ck
              cases ck
            have eS : sl = st.2.1 := by rw [esl, if_pos c13]
            refine ri_i (hF _ y (an_3q9 qy hr (fun z => z.2 (inq.mpr ⟨⟨t0, by rw [← e25]; exact t1⟩, by omega, by rw [kl]; omega⟩)) hy.2 ⟨?_, rd_0q9 hy.1 hm⟩))
            rw [m10, ← eH]
            have v := q7 c13 i.toInt.toNat (by rw [es, ← eS]; omega)
            rw [es, ← eS, show i.toInt.toNat = lowc sl k by omega, i2] at v
            rw [v, show i.toInt.toNat = lowc sl k by omega]
        · rw [if_neg ck] at step ⊢
          refine ⟨fun _ => ih (k + 1) s (by omega) (by omega) (by rw [hs9, step]; rfl) (by rw [step]; exact hn), fun z => absurd z (by decide)⟩
    have fin := loop 8 0 0 (by omega) (by omega) (by rw [lowc_0]; rfl) (by rw [lowc_0]; intro z; have := z.2; omega)
    have v74 : vp_in (y.1 74 t.toNatClampNeg) 1500 := by rw [vp_in_iff]; exact ⟨(rt _ (vt tv)).1, (rt _ (vt tv)).2.1⟩
    have e74 : (y.1 74 t.toNatClampNeg).toNatClampNeg = H.2.2.1 := by rw [ct, t_cl, q2]; rfl
    have e73 : y.1 73 t.toNatClampNeg = Int32.ofNat H.1 := by rw [ct]; exact q0
    have s4 := fun b hb => st_4 H.1 (by omega) b hb
    refine sg_knownOf_0 _ ⟨tv, fun c => ⟨tv, v74, ri_i ?_⟩, fun c => ⟨tv, fun c3 => ri_i ?_, fun c3 => ⟨tv, v74, ri_i ?_⟩⟩⟩
    · rw [e73] at c
      have c1 : H.1 = 1 := (s4 1 (by decide)).mp c
      rw [e74, e62]
      rw [esl, if_pos (Or.inl c1)] at fin
      exact fin
    · rw [e73] at c c3
      rw [esl, if_neg (fun z => by
        rcases z with z | z
        · exact c ((s4 1 (by decide)).mpr z)
        · exact c3 ((s4 3 (by decide)).mpr z))] at fin
      exact fin
    · rw [e73] at c3
      have c1 : H.1 = 3 := (s4 3 (by decide)).mp c3
      rw [e74, e62]
      rw [esl, if_pos (Or.inr c1)] at fin
      exact fin
  have p32 : ∀ b : Int32, (b = 0 → 0 ≤ t.toInt ∧ t.toInt < (y.1 0 25).toInt) → (¬ b = 0 → ¬ (0 ≤ t.toInt ∧ t.toInt < (y.1 0 25).toInt)) → MT G (D + 2) z_local 32 [(0, vr 0), (1, vi t), (2, vi i)] [vi b, vr 0] y (ri F) := by
    intro b hb hb2
    exact sg_local_32 _ _ _ (sc_refk b 2 hy (by decide) (fun b0 => ⟨fun _ => main (hb b0).1 (hb b0).2, fun q => absurd rfl q⟩) (fun nb y' m => ⟨fun q => absurd q (by decide), fun _ => ri_i (hF _ y' (an_2q9 hm ⟨hr, fun z => hb2 nb (by rw [e25]; exact z.1)⟩ m))⟩))
  exact sp_in _ _ _ ⟨fun c1 => p32 0 (fun _ => in_lt (bi_ne.mp c1) g.2.2.2.2.1) (fun z => absurd rfl z), fun c1 => p32 1 (fun q => absurd q (by decide)) (fun _ => in_ge (bi_eq.mp c1) g.2.2.2.2.1)⟩
end MLO

def tCiq9 (C : gCo) (wr n : Nat) (w : gd) (l1 l2 r : Int32) (w' : gd) : Prop := chR C wr n (c96 w) l1 l2 r ∧ rdMq9 C wr w w'
section PCH
variable {C : gCo} {w T : Nat} {M : gMa} {ch : gCh}
end PCH
section KCI
variable {G : kG} {q : kP} {d : Nat} {x y w w' : gd} {Fv : gd → Prop} {P : Option gv → gd → Prop} {X : String → gd → Prop} {C : gCo} {wr n : Nat} {lm : Nat → Nat}
theorem ka_choiceq9 (h : JHq9 C wr n lm x w) (hq : kV q) (hH : HOI x q) (l1 l2 : Int32) (hX1 : e1Ch x → X iSE x) (hX2 : e2Ci x l1 l2 → X iOE x) (hP : ¬ e1Ch x → ¬ e2Ci x l1 l2 → ∀ r y, HOI y q → sCi C wr n (c96 w) x l1 l2 r y → P (some (vi r)) y) : KE G q (d + 7) zk_X11_choice 0 [(0, vr 0), (1, vi l1), (2, vi l2)] [] x P X := by
  have hm : kiM q 120 := Or.inl rfl
  have k5 : (5 : Int32).toInt = 5 := rfl
  refine kg_X11_choice_0 hq l1 l2 (kh_run hq hH hX1 (fun h10 hR => kh_ix hq l1 _ (fun hn => hX2 ⟨h10, fun z => hn z.1⟩) (fun l0 l9 => kh_what hq l2 5 (fun hn => hX2 ⟨h10, fun z => hn (by rw [k5]; exact z.2)⟩) (fun g0 g9 => ?_))))
  rw [k5] at g9
  obtain ⟨j, r, -, -⟩ := JH_Rq9 h h10
  have gc := JH_gcq9 h hH
  obtain ⟨M, eM⟩ : ∃ M, M = runM C wr (c96 w) n := ⟨_, rfl⟩
  have hP := hP h10 (fun z => z.2 ⟨⟨l0, l9⟩, g0, g9⟩)
  unfold sCi chR at hP
  rw [← eM] at hP
  obtain ⟨-, ⟨r2, r3, r4⟩, -⟩ := r
  rw [← eM] at r2 r3 r4
  have len := r4.1
  have len : (x.1 120 13).toInt = ((chM C wr M).length : Nat) := len
  have hl : l1.toInt.toNat < (chM C wr M).length := by omega
  obtain ⟨ch, hch⟩ : ∃ ch, (chM C wr M)[l1.toInt.toNat]? = some ch := ⟨_, List.getElem?_eq_getElem hl⟩
  have kc := r4.2 _ _ hch
  have cm := List.mem_of_getElem? hch
  obtain ⟨i1, i2, i3⟩ := ch_in cm
  have b84 := hR.2.1.1
  have v84 : vp_in l1 84 := by rw [vp_in_iff]; omega
  have e131 : x.1 131 l1.toInt.toNat = Int32.ofNat ch.1 := kc.1
  have e133 : x.1 133 l1.toInt.toNat = opI ch.2.2 := kch_4 kc
  have e132n : ch.2.1 = none → x.1 132 l1.toInt.toNat = -1 := kc.2.1
  have e132s : ∀ j, ch.2.1 = some j → x.1 132 l1.toInt.toNat = Int32.ofNat j := kc.2.2.1
  have e10 : (x.1 60 10).toInt = (C.2.1.length : Nat) := j.2.1.2.1.1
  have hT6 := MM_6 hR.1.1 (t := ch.1) (by omega)
  have hA := (hR.1.2.2 ch.1 (by omega)).1
  have gT := r2.2 ch.1 i1
  have eT : (x.1 131 l1.toInt.toNat).toInt = (ch.1 : Nat) := by rw [e131]; exact Int32.toInt_ofNat_of_lt (by omega)
  have q7 := gT.2.2.2.2.2.2.1
  have lt8 := hA.2.1
  have late : ∀ jj, ch.2.1 = some jj → jj < 8 ∧ ¬ x.1 132 l1.toInt.toNat = -1 ∧ (x.1 132 l1.toInt.toNat).toInt = (jj : Nat) := fun jj hj => by
    have h8 := i3 jj hj
    have : jj < 8 := by omega
    have e9 := e132s jj hj
    have e8 : (Int32.ofNat jj).toInt = (jj : Nat) := Int32.toInt_ofNat_of_lt (by omega)
    refine ⟨this, fun z => ?_, by rw [e9]; exact e8⟩
    rw [e9] at z
    rw [z, tm1] at e8
    omega
  have nn : ¬ x.1 132 l1.toInt.toNat = -1 ↔ ¬ ch.2.1 = none := ⟨fun a b => a (e132n b), fun a => by
    cases hc : ch.2.1 with
    | none => exact absurd hc a
    | some jj => exact (late jj hc).2.1⟩
  have here : ∀ r, r = chVal C wr M ch l2 → P (some (vi r)) x := fun r er => hP r x hH ⟨⟨ch, hch, er⟩, KR_rf⟩
  have n1 : ∀ {a b : Int32}, ¬ a = b → l2 = a → ¬ l2 = b := fun h e z => h (e.symm.trans z)
  rw [t_cl]
  refine ⟨v84, v84, fun c => here _ ?_, fun c => ⟨fun z => here _ ?_, fun z => here _ ?_⟩, fun c => ⟨fun z => here _ ?_, fun z => ?_⟩, fun c => ⟨fun z => ?_, fun z => ?_⟩, fun c => ⟨v84, here _ ?_⟩⟩
  · unfold chVal; rw [if_pos c]; exact e131
  · unfold chVal; rw [if_neg (n1 (by decide) c), if_pos c, if_neg (nn.mp z)]
  · unfold chVal; rw [if_neg (n1 (by decide) c), if_pos c, if_pos (Classical.not_not.mp (fun a => nn.mpr a z))]
  · unfold chVal; rw [if_neg (n1 (by decide) c), if_neg (n1 (by decide) c), if_pos c, if_neg (nn.mp z)]
  · have cn : ch.2.1 = none := Classical.not_not.mp (fun a => nn.mpr a z)
    have ev : chVal C wr M ch l2 = Int32.ofNat (soM C (M.2.2 ch.1)) := by unfold chVal; rw [if_neg (n1 (by decide) c), if_neg (n1 (by decide) c), if_pos c, if_pos cn]
    obtain ⟨st, s1, s2, s3, s4, s5, kn, ns⟩ := kst_at hR.1 j.2.1 gc.1.1 i1 gT
    have w3 := kst_w3 hR.1 j.2.1 gc.1.1 i1 gT
    refine kp_sortOf hq hm hR.1.1 hR.1.2.1 _ eT hT6 hA (fun c3 => here _ ?_) (fun c3 => here _ ?_)
    · rw [ev, s3]
      unfold soM
      rw [if_pos (w3.mp c3), s2]
      exact kn.1
    · rw [ev]
      unfold soM
      rw [if_neg (fun z9 => c3 (w3.mpr z9))]
      rfl
  · obtain ⟨jj, hj⟩ : ∃ jj, ch.2.1 = some jj := by
      cases hc : ch.2.1 with
      | none => exact absurd hc (nn.mp z)
      | some jj => exact ⟨jj, rfl⟩
    obtain ⟨j8, -, ej⟩ := late jj hj
    have h8 := i3 jj hj
    have hg := List.getElem?_eq_getElem h8
    have qq := (q7.2 jj _ hg).1
    refine kp_lateCell hq hm hR.1.1 hR.1.2.1 _ _ eT hT6 ej j8 (here _ ?_)
    unfold chVal
    rw [if_neg (n1 (by decide) c), if_neg (n1 (by decide) c), if_neg (n1 (by decide) c), if_pos c, if_neg (nn.mp z), hj]
    show _ = Int32.ofNat (((M.2.2 ch.1).2.2.2.2.2.2.1[jj]?).getD (0, 0)).1
    rw [hg]
    exact i32_of qq
  · have cn : ch.2.1 = none := Classical.not_not.mp (fun a => nn.mpr a z)
    have ev : chVal C wr M ch l2 = (lkM C wr M ch.1).2.1 := by unfold chVal; rw [if_neg (n1 (by decide) c), if_neg (n1 (by decide) c), if_neg (n1 (by decide) c), if_pos c, if_pos cn]
    obtain ⟨st, s1, s2, s3, s4, s5, kn, ns⟩ := kst_at hR.1 j.2.1 gc.1.1 i1 gT
    have u1 := (i2 cn).1
    have tg := (hR.1.2.2 ch.1 (by omega)).2 (by rw [gT.1.1, u1]; rfl)
    rw [s3] at tg
    have o16 : st.1 < 16 := by have := tg.1; omega
    refine kh_objectOf hq hm hR.1 j.2.1 gc.1.1 r2 _ eT i1 u1 (fun r9 y9 fy a1 a2 => ?_)
    have fk : KRd x y9 := fm_w fy (fun c k q => by unfold sLk at q; unfold sRd; omega)
    refine hP r9 y9 (HOI_run (fm_w fy (fun c k => rn_Lk)) (RUN_Lk fy hR) hH) ⟨⟨ch, hch, ?_⟩, fk⟩
    rw [ev]
    by_cases so : soM C (M.2.2 ch.1) ≤ 4
    · have w0 : (M.2.2 ch.1).2.2.2.1 = 0 := by
        apply Classical.byContradiction
        intro z9
        unfold soM at so
        rw [if_neg z9] at so
        omega
      rw [lkM_0 w0]
      rcases a1 so with ⟨-, b2, -⟩ | ⟨b1, b2⟩
      · exact b2
      · rw [b2, lkI_m1 b1]
    · have r9e : r9 = st.2.2.2.2.1 := by
        rcases a2 so with b | b
        · rw [b, s2]
        · rw [s2] at b; omega
      by_cases w0 : (M.2.2 ch.1).2.2.2.1 = 0
      · have ix : st.2.2.2.2.2.2.2.1 = none := by
          apply Classical.byContradiction
          intro z9
          have := (gc.1.2.1 _ st s1).1 z9
          unfold soM at so
          rw [if_pos w0, s2] at so
          omega
        rw [lkM_0 w0, lkI_no (by rw [s2]; exact ix), s2]; exact r9e
      · rw [lkM_w w0, s2]; exact r9e
  · unfold chVal
    rw [if_neg (c 0 (by decide)), if_neg (c 1 (by decide)), if_neg (c 2 (by decide)), if_neg (c 3 (by decide))]
    exact e133
theorem ja_choiceq9 {l1 l2 r9 r : Int32} (h : JHq9 C wr n lm x w) (hH : HOI y q) (k : ansK (e1Ch x) (e2Ci x l1 l2) (sCi C wr n (c96 w) x l1 l2) x r9 y) (m : ansMq9 C wr (f1Ch w) (f2Ci w l1 l2) (tCiq9 C wr n w l1 l2) w r w') : JR3q9 y w' ∧ ansE r9 r y w' := by
  have e9 := JH_10q9 h
  refine ans_eqq9 h hH e9 ⟨fun z => ⟨fun a => z.1 (e9.mpr a), by rw [← JH_84q9 h z.1]; exact z.2⟩, fun z => ⟨fun a => z.1 (e9.mp a), by rw [JH_84q9 h (fun a => z.1 (e9.mp a))]; exact z.2⟩⟩ (fun a z => z.1 a) k m (fun c _ r' s t => ⟨JQ_rdq9 h hH s.2 t.2, chR_eq s.1 t.1⟩)
end KCI
section MCI
variable {G : mG} {d D : Nat} {x w : gd} {F : Int32 → gd → Prop} {C : gCo} {wr n : Nat} {lm : Nat → Nat} {q : kP}
theorem ma_choiceq9 (h : JHq9 C wr n lm x w) (hH : HOI x q) (hm : MI w) (i k : Int32) (hD : 4 ≤ D) (hF : ∀ r w', ansMq9 C wr (f1Ch w) (f2Ci w i k) (tCiq9 C wr n w i k) w r w' → F r w') : MT G D z_choice 0 [(0, vr 0), (1, vi i), (2, vi k)] [] w (ri F) := by
  obtain ⟨D, rfl⟩ : ∃ D', D = D' + 2 := ⟨D - 2, by omega⟩
  have k0 : (0 : Int32).toInt = 0 := rfl
  refine sg_choice_0 _ _ (fun y e => ?_)
  have hy := z0_s e
  have e67 : y.1 0 67 = w.1 0 67 := hy.1.1 67 (by decide)
  have qy := (MI_0q9 hy.1 hm).1
  refine sc_noRunk hy (fun hr => ⟨fun q => absurd rfl q, fun _ => ?_⟩) (fun c y' m => ⟨fun _ => ri_i (hF _ y' (an_1q9 hm (show w.1 0 67 = 0 by rw [← e67]; exact c) m)), fun q => absurd q (by decide)⟩)
  have hc := (qy.2.2.1 hr).1
  rw [e67] at hr
  obtain ⟨-, hh, e94⟩ := JH_Mq9 h hr
  have gc := (JH_gcq9 h hH).1
  have w01 := HistC_w hh
  have e84w : y.1 0 84 = w.1 0 84 := hy.1.1 84 (by decide)
  obtain ⟨s, n', q1, q2, q3, q4, q5, q6, q7⟩ := HistC_0 hy.1 hh
  have cy : c96 y = c96 w := by unfold c96; rw [hy.1.2 96 (by decide) (by simp)]
  have en : n' = n := by rw [hy.1.1 94 (by decide), e94] at q1; omega
  subst en
  have am := q2 n' (Nat.le_refl _)
  rw [cy] at am
  obtain ⟨M, eM⟩ : ∃ M, M = runM C wr (c96 w) n' := ⟨_, rfl⟩
  rw [← eM] at am
  have hF := hF
  unfold tCiq9 chR at hF
  rw [← eM] at hF
  have av := am.1
  have e84 : y.1 0 84 = (s n').1 0 84 := q4 0 84 (Or.inr (Or.inl ⟨rfl, rfl⟩))
  have c0 := av.2.2.2.1
  have c84 := av.2.2.2.2.1
  have len := AM_n am
  have p41 : ∀ b : Int32, (b = 0 → inCh (y.1 0 84).toInt i k) → (¬ b = 0 → ¬ inCh (y.1 0 84).toInt i k) → MT G (D + 2) z_choice 41 [(0, vr 0), (1, vi i), (2, vi k)] [vi b, vr 0] y (ri F) := by
    intro b hb hb2
    refine sg_choice_41 _ _ _ (sc_refk b 2 hy (by decide) (fun b0 => ⟨fun _ => ?_, fun q => absurd rfl q⟩) (fun nb y' m => ⟨fun q => absurd q (by decide), fun _ => ri_i (hF _ y' (an_2q9 hm ⟨hr, by rw [← e84w]; exact hb2 nb⟩ m))⟩))
    have hin := hb b0
    have nE2 : ¬ f2Ci w i k := fun z => z.2 (by rw [← e84w]; exact hin)
    obtain ⟨hi, hk⟩ := hin
    rw [e84] at hi
    have ci := cl_i hi.1
    have iv : vp_in i 200 := by rw [vp_in_iff]; omega
    have hl : i.toInt.toNat < (chM C wr M).length := by omega
    obtain ⟨ch, hch⟩ : ∃ ch, (chM C wr M)[i.toInt.toNat]? = some ch := ⟨_, List.getElem?_eq_getElem hl⟩
    have cm := List.mem_of_getElem? hch
    obtain ⟨j1, j2, j3⟩ := ch_in cm
    obtain ⟨m86, m87, m88⟩ := am.2.2.2.2.2.2 _ _ hch
    obtain ⟨u86, u87, u88, ⟨t0, t6⟩, co⟩ := av.2.2.1 i.toNatClampNeg (by omega)
    have e86 := q4 _ _ (Or.inr u86)
    have e87 := q4 _ _ (Or.inr u87)
    have e88 := q4 _ _ (Or.inr u88)
    rw [t_cl] at e86 e87 e88
    rw [m86] at e86
    rw [m87] at e87
    rw [m88] at e88
    have lt6 : ch.1 < 6 := by have := gc.2.2; omega
    have e6 : (Int32.ofNat ch.1).toInt = (ch.1 : Nat) := Int32.toInt_ofNat_of_lt (by omega)
    have tv : vp_in (Int32.ofNat ch.1) 6 := by rw [vp_in_iff]; omega
    have ct : (Int32.ofNat ch.1).toNatClampNeg = ch.1 := by rw [t_cl, e6]; rfl
    have rr := (av.1.2 ch.1 lt6)
    have a74 : vp_in (y.1 74 (Int32.ofNat ch.1).toNatClampNeg) 1500 := by
      rw [ct, cA q4 (c := 74) (n := 6) (by decide) lt6, vp_in_iff]
      exact ⟨rr.1.1, rr.1.2.1⟩
    have lq := (am.2.2.1.2.2 ch.1 lt6).2.2.2.2.2.2.2.2.1
    have op8 : ∀ jj, jj < 9 → ¬ Int32.ofNat jj = -1 := by decide +kernel
    have lt9 : ∀ jj, ch.2.1 = some jj → jj < 8 := fun jj hj => by
      have := j3 jj hj
      have := lq.1
      have := rr.2.2.2.1
      omega
    have nn : y.1 87 i.toInt.toNat = -1 ↔ ch.2.1 = none := by
      rw [e87]
      cases hcc : ch.2.1 with
      | none => exact ⟨fun _ => rfl, fun _ => rfl⟩
      | some jj => exact ⟨fun z => absurd z (op8 jj (by have := lt9 jj hcc; omega)), fun z => nomatch z⟩
    have ok : ∀ r, r = chVal C wr M ch k → ri F (some (vi r)) y := fun r er => ri_i (hF _ y (an_3q9 qy hr nE2 hy.2 ⟨⟨ch, hch, er⟩, rd_0q9 hy.1 hm⟩))
    have n1 : ∀ {a b : Int32}, ¬ a = b → k = a → ¬ k = b := fun h e z => h (e.symm.trans z)
    rw [t_cl]
    refine ⟨iv, iv, fun n0 => ⟨fun c => ?_, fun c => ?_⟩, fun z0' => ok _ ?_⟩
    · have cn := nn.mp c
      refine ⟨fun n3 => ⟨fun n1' => ⟨fun n2 => ⟨iv, ok _ ?_⟩, fun e2 => ?_⟩, fun e1 => ok _ ?_⟩, fun e3 => ?_⟩
      · unfold chVal; rw [if_neg n0, if_neg n1', if_neg n2, if_neg n3]; exact e88
      · have u1 := (j2 cn).1
        have h1 : (s n').1 73 ch.1 = 1 := by rw [(am.2.2.1.2.2 ch.1 lt6).1, u1]; rfl
        have h2 : ¬ (s n').1 77 ch.1 = 1 := fun z => (j2 cn).2.1 (by
          have e77 := (am.2.2.1.2.2 ch.1 lt6).2.2.2.2.1
          have l77 := (am.2.2.1.2.2 ch.1 lt6).2.2.2.2.2.1
          rw [e77] at z
          exact (wai_2 _ (by omega)).2.1.mp z)
        rw [e86]
        refine sp_sortOf _ tv a74 ?_
        rw [ct, srt_eq (eqS_w (Sl_Sm _) q4) av.1 lt6, (srt_so gc.1 am lt6 h1 h2).1]
        exact ok _ (by unfold chVal; rw [if_neg n0, if_neg (n1 (by decide) e2), if_pos e2, if_pos cn])
      · unfold chVal; rw [if_neg n0, if_pos e1, if_pos cn]
      · have u1 := (j2 cn).1
        have h1 : (s n').1 73 ch.1 = 1 := by rw [(am.2.2.1.2.2 ch.1 lt6).1, u1]; rfl
        have h2 : ¬ (s n').1 77 ch.1 = 1 := fun z => (j2 cn).2.1 (by
          have e77 := (am.2.2.1.2.2 ch.1 lt6).2.2.2.2.1
          have l77 := (am.2.2.1.2.2 ch.1 lt6).2.2.2.2.2.1
          rw [e77] at z
          exact (wai_2 _ (by omega)).2.1.mp z)
        rw [e86]
        refine sp_lookAt3 gc.1 gc.2.1 w01 am q4 _ tv (by rw [ct]; exact h1) (by rw [ct]; exact h2) (by omega) (fun y' x' e' m' _ _ _ _ v88 => ri_i (hF _ y' ?_))
        rw [ct] at v88
        have mm := mi_of m'
        have cy' : c96 y' = c96 y := by unfold c96; rw [mm.2 96 (by decide) (by decide)]
        have histc : HistC C wr y' := ⟨s, n', by rw [mm.1 94 (by decide)]; exact q1, by rw [cy']; exact q2, by rw [cy', mm.2 96 (by decide) (by decide)]; exact q3, e', by rw [mm.1 68 (by decide)]; exact St_pr (prE_mi (prE_rf y) mm rfl rfl) q5, by rw [mm.1 68 (by decide)]; exact q6, HA_mi mm rfl rfl q7⟩
        have p := MI_newq9 mm rfl rfl hc (HistC_H histc) qy
        refine an_3q9 p.1 hr nE2 (by rw [mm.1 0 (by decide)]; exact hy.2) ⟨⟨ch, hch, ?_⟩, rd_trq9 hy.1 ⟨p, ⟨mm.1 67 (by decide), mm.1 94 (by decide), mm.2 96 (by decide) (by decide)⟩, mm.2 119 (by decide) (by decide), fun _ => histc, fun w T h => TYc_mi mm rfl h⟩⟩
        rw [v88]
        unfold chVal
        rw [if_neg n0, if_neg (n1 (by decide) e3), if_neg (n1 (by decide) e3), if_pos e3, if_pos cn]
    · have cs : ¬ ch.2.1 = none := fun z => c (nn.mpr z)
      obtain ⟨jj, hj⟩ : ∃ jj, ch.2.1 = some jj := by
        cases hcc : ch.2.1 with
        | none => exact absurd hcc cs
        | some jj => exact ⟨jj, rfl⟩
      have h8 := lt9 jj hj
      have ej : y.1 87 i.toInt.toNat = Int32.ofNat jj := by rw [e87, hj]; rfl
      have ejj : (Int32.ofNat jj).toInt = (jj : Nat) := Int32.toInt_ofNat_of_lt (by omega)
      refine ⟨fun e1 => ok _ ?_, fun n1' => ⟨fun n2 => ⟨fun n3 => ok _ ?_, fun e3 => ?_⟩, fun e2 => ok _ ?_⟩⟩
      · unfold chVal; rw [if_neg n0, if_pos e1, if_neg cs]
      · unfold chVal; rw [if_neg n0, if_neg n1', if_neg n2, if_neg n3, ch_lt cm cs]; rfl
      · rw [e86, ej]
        obtain ⟨ta, tb⟩ := t10 tv (i := Int32.ofNat jj) (by omega) (by omega)
        refine ⟨ta, ok _ ?_⟩
        rw [tb, ct, t_cl, ejj]
        have hg := List.getElem?_eq_getElem (j3 jj hj)
        have b1 := (lq.2 jj _ hg).1
        have ey : y.1 81 (10 * ch.1 + jj) = (s n').1 81 (10 * ch.1 + jj) := q4 81 _ (Or.inr (Or.inr (Or.inr ⟨Or.inl rfl, ch.1, jj, lt6, by rw [lq.1]; have := j3 jj hj; omega, rfl⟩)))
        unfold chVal
        rw [if_neg n0, if_neg n1', if_neg n2, if_pos e3, if_neg cs, hj]
        show y.1 81 (10 * ch.1 + ((jj : Nat) : Int).toNat) = Int32.ofNat (((M.2.2 ch.1).2.2.2.2.2.2.1[jj]?).getD (0, 0)).1
        rw [hg, Int.toNat_natCast, ey]
        exact b1
      · unfold chVal; rw [if_neg n0, if_neg n1', if_pos e2, if_neg cs]
    · unfold chVal; rw [if_pos z0', e86]
  refine sp_in _ _ _ ⟨fun c1 => p41 1 (fun q => absurd q (by decide)) (fun _ z => in_ge (bi_eq.mp c1) (by rw [e84]; exact c0) z.1), fun c1 => sp_in _ _ _ ⟨fun c2 => p41 0 (fun _ => ⟨in_lt (bi_ne.mp c1) (by rw [e84]; exact c0), ?_⟩) (fun z => absurd rfl z), fun c2 => p41 1 (fun q => absurd q (by decide)) (fun _ z => ?_)⟩⟩
  · obtain ⟨a1, a2⟩ := bi_ne.mp c2
    have k4 : (4 : Int32).toInt = 4 := rfl
    rw [t_le, k0] at a1
    rw [t_le, k4] at a2
    omega
  · have k4 : (4 : Int32).toInt = 4 := rfl
    have := z.2
    exact bi_eq.mp c2 ⟨t_le.mpr (by rw [k0]; exact z.2.1), t_le.mpr (by rw [k4]; omega)⟩
end MCI

abbrev inTq9 (nt : Int) (l1 l2 : Int32) : Prop := (0 ≤ l1.toInt ∧ l1.toInt < nt) ∧ 0 ≤ l2.toInt ∧ l2.toInt < 5
abbrev e2Thq9 (x : gd) (l1 l2 : Int32) : Prop := ¬ x.1 0 10 = 0 ∧ ¬ inTq9 (x.1 60 10).toInt l1 l2
abbrev f2Thq9 (w : gd) (l1 l2 : Int32) : Prop := ¬ w.1 0 67 = 0 ∧ ¬ inTq9 (w.1 0 25).toInt l1 l2
/-- what is asked of a thread; ln: the lines of the steps -/
def thAq9 (C : gCo) (H : gTq) (ln : Nat → Int32) (i r : Int32) : Prop := (i.toInt = 0 → r = Int32.ofNat H.1) ∧ (i.toInt = 1 → r = Int32.ofNat H.2.1) ∧ (i.toInt = 2 → r.toInt = (H.2.2.2.2.2.2.1.length : Nat)) ∧ (i.toInt = 3 → r.toInt = (knL C H : Nat)) ∧ (i.toInt = 4 → (H.1 = 1 → r = ln H.2.2.1) ∧ (¬ H.1 = 1 → r = 0))
def sThq9 (C : gCo) (wr n : Nat) (c : Nat → Nat) (x : gd) (l1 l2 r : Int32) (y : gd) : Prop := (thAq9 C ((runM C wr c n).2.2 l1.toInt.toNat) (x.1 82) l2 r ∧ (((runM C wr c n).2.2 l1.toInt.toNat).1 = 1 → ((((runM C wr c n).2.2 l1.toInt.toNat).2.2.1 : Nat) : Int) < (x.1 80 9).toInt ∧ (x.1 81 ((runM C wr c n).2.2 l1.toInt.toNat).2.2.1).toInt < 16)) ∧ (0 ≤ l2.toInt ∧ l2.toInt < 5) ∧ KRd x y
def tThq9 (C : gCo) (wr n : Nat) (w : gd) (l1 l2 r : Int32) (w' : gd) : Prop := thAq9 C ((runM C wr (c96 w) n).2.2 l1.toInt.toNat) (w.1 63) l2 r ∧ rdMq9 C wr w w'
theorem thA_eqq9 {C : gCo} {H : gTq} {f g : Nat → Int32} {i r r' : Int32} (h : thAq9 C H f i r) (h' : thAq9 C H g i r') (hi : 0 ≤ i.toInt ∧ i.toInt < 5) (e : H.1 = 1 → f H.2.2.1 = g H.2.2.1) : r = r' := by
  obtain ⟨a0, a1, a2, a3, a4⟩ := h
  obtain ⟨b0, b1, b2, b3, b4⟩ := h'
  have c : i.toInt = 0 ∨ i.toInt = 1 ∨ i.toInt = 2 ∨ i.toInt = 3 ∨ i.toInt = 4 := by omega
  rcases c with c | c | c | c | c
  · rw [a0 c, b0 c]
  · rw [a1 c, b1 c]
  · rw [t_eq, a2 c, b2 c]
  · rw [t_eq, a3 c, b3 c]
  · by_cases q : H.1 = 1
    · rw [(a4 c).1 q, (b4 c).1 q, e q]
    · rw [(a4 c).2 q, (b4 c).2 q]
theorem kn_1q9 : ∀ s, s < 8 → ∀ k, k < 24 → (((1 : Int32) <<< (Int32.ofNat s &&& 31)) >>> (Int32.ofNat k &&& 31)) &&& 1 = if k = s then 1 else 0 := by decide +kernel
theorem kn_0q9 : ∀ k, k < 24 → ((0 : Int32) >>> (Int32.ofNat k &&& 31)) &&& 1 = 0 := by decide +kernel
theorem kn_bitq9 : ∀ {sl : List Nat}, (∀ s ∈ sl, s < 8) → ∀ k, k < 24 → (kmN sl >>> (Int32.ofNat k &&& 31)) &&& 1 = if k ∈ sl then 1 else 0 := by
  intro sl
  induction sl with
  | nil => intro _ k hk; rw [if_neg (by simp)]; exact kn_0q9 k hk
  | cons s r ih =>
    intro h k hk
    rw [kmN, or_sr, ih (fun s hs => h s (List.mem_cons_of_mem _ hs)) k hk, kn_1q9 s (h s List.mem_cons_self) k hk]
    by_cases c1 : k = s
    · rw [if_pos c1, if_pos (show k ∈ s :: r by rw [c1]; exact List.mem_cons_self)]
      by_cases c2 : k ∈ r
      · rw [if_pos c2]; decide
      · rw [if_neg c2]; decide
    · rw [if_neg c1]
      by_cases c2 : k ∈ r
      · rw [if_pos c2, if_pos (List.mem_cons_of_mem _ c2)]; decide
      · rw [if_neg c2, if_neg (fun z => (List.mem_cons.mp z).elim c1 c2)]; decide
section KTH
variable {G : kG} {q : kP} {d : Nat} {x y w w' : gd} {P : Option gv → gd → Prop} {X : String → gd → Prop} {C : gCo} {wr n : Nat} {lm : Nat → Nat}
theorem ka_threadq9 (h : JHq9 C wr n lm x w) (hq : kV q) (hH : HOI x q) (l1 l2 : Int32) (hX1 : e1Ch x → X iSE x) (hX2 : e2Thq9 x l1 l2 → X iOE x) (hP : ¬ e1Ch x → ¬ e2Thq9 x l1 l2 → ∀ r y, HOI y q → sThq9 C wr n (c96 w) x l1 l2 r y → P (some (vi r)) y) : KE G q (d + 7) zk_X11_thread 0 [(0, vr 0), (1, vi l1), (2, vi l2)] [] x P X := by
  have hm : kiM q 120 := Or.inl rfl
  have k5 : (5 : Int32).toInt = 5 := rfl
  refine kg_X11_thread_0 hq l1 l2 (kh_run hq hH hX1 (fun h10 hR => kh_ix hq l1 _ (fun hn => hX2 ⟨h10, fun z => hn z.1⟩) (fun l0 l9 => kh_what hq l2 5 (fun hn => hX2 ⟨h10, fun z => hn (by rw [k5]; exact z.2)⟩) (fun g0 g9 => ?_))))
  rw [k5] at g9
  have hT : ((l1.toInt.toNat : Nat) : Int) < (x.1 60 10).toInt := by omega
  have eT : l1.toInt = ((l1.toInt.toNat : Nat) : Int) := by omega
  have hT6 := MM_6 hR.1.1 hT
  obtain ⟨hA, hG⟩ := hR.1.2.2 _ hT
  obtain ⟨st, hs, es⟩ := JH_stq9 h hH h10 hT
  obtain ⟨j, r, -, -⟩ := JH_Rq9 h h10
  have e10 : (x.1 60 10).toInt = (C.2.1.length : Nat) := j.2.1.2.1.1
  obtain ⟨H, eH⟩ : ∃ H, H = (runM C wr (c96 w) n).2.2 l1.toInt.toNat := ⟨_, rfl⟩
  have kq := r.2.1.1.2 l1.toInt.toNat (by omega)
  rw [← eH] at kq hs es
  obtain ⟨⟨q0, q0'⟩, q1, q2, -, -, -, ⟨q7, -⟩, -, -⟩ := kq
  have e83 : (x.1 83 H.2.2.1).toInt = (st.2.1.length : Nat) := (j.2.1.1.2 _ st hs).2.1
  have e2 : (rg x 120 l1.toInt.toNat 2).toInt.toNat = H.2.2.1 := by rw [q2]; rfl
  have s1 : rg x 120 l1.toInt.toNat 0 = 1 ↔ H.1 = 1 := by
    rw [q0]
    exact st_4 _ (by omega) 1 (by decide)
  have s13 : (rg x 120 l1.toInt.toNat 0 = 1 ∨ rg x 120 l1.toInt.toNat 0 = 3) ↔ (H.1 = 1 ∨ H.1 = 3) := by
    rw [q0]
    exact or_congr (st_4 _ (by omega) 1 (by decide)) (st_4 _ (by omega) 3 (by decide))
  have fin : ∀ r : Int32, thAq9 C H (x.1 82) l2 r → P (some (vi r)) x := fun r9 hr => by
    refine hP h10 (fun z => z.2 ⟨⟨l0, l9⟩, g0, g9⟩) r9 x hH ⟨⟨?_, ?_⟩, ⟨g0, g9⟩, KR_rf⟩
    · rw [← eH]; exact hr
    · rw [← eH]
      intro c1
      have a := (hG (s1.mpr c1)).1
      have b := hA.1
      rw [e2] at a
      rw [q2] at b
      exact ⟨b.2, a⟩
  have k0 : (0 : Int32).toInt = 0 := rfl
  have k1 : (1 : Int32).toInt = 1 := rfl
  have k2 : (2 : Int32).toInt = 2 := rfl
  have k3 : (3 : Int32).toInt = 3 := rfl
  refine ⟨fun c => ?_, fun c => ?_, fun c => ?_, fun c => ?_, fun c => ?_⟩
  · refine kp_get hq hm hR.1.1 hR.1.2.1 l1 0 (K := 0) eT rfl hT6 (by omega) (fin _ ?_)
    unfold thAq9
    rw [c, k0]
    exact ⟨fun _ => q0, fun z => absurd z (by decide), fun z => absurd z (by decide), fun z => absurd z (by decide), fun z => absurd z (by decide)⟩
  · refine kp_get hq hm hR.1.1 hR.1.2.1 l1 1 (K := 1) eT rfl hT6 (by omega) (fin _ ?_)
    unfold thAq9
    rw [c, k1]
    exact ⟨fun z => absurd z (by decide), fun _ => q1, fun z => absurd z (by decide), fun z => absurd z (by decide), fun z => absurd z (by decide)⟩
  · refine kp_get hq hm hR.1.1 hR.1.2.1 l1 7 (K := 7) eT rfl hT6 (by omega) (fin _ ?_)
    unfold thAq9
    rw [c, k2]
    exact ⟨fun z => absurd z (by decide), fun z => absurd z (by decide), fun _ => q7, fun z => absurd z (by decide), fun z => absurd z (by decide)⟩
  · refine kh_known hq hm hR.1.1 hR.1.2.1 l1 eT hT6 hA (fun r9 r0 r8 a1 a2 => fin r9 ?_)
    unfold thAq9
    rw [c, k3]
    refine ⟨fun z => absurd z (by decide), fun z => absurd z (by decide), fun z => absurd z (by decide), fun _ => ?_, fun z => absurd z (by decide)⟩
    unfold knL
    by_cases c : H.1 = 1 ∨ H.1 = 3
    · rw [a1 (s13.mpr c), if_pos c, es, e2]; exact e83
    · rw [a2 (fun z => c (s13.mp z)), if_neg c]; rfl
  · have c4 : l2.toInt = 4 := by
      have n0 := c 0 (by decide)
      have n1 := c 1 (by decide)
      have n2 := c 2 (by decide)
      have n3 := c 3 (by decide)
      rw [t_eq] at n0 n1 n2 n3
      omega
    have ok : ∀ r9 : Int32, (H.1 = 1 → r9 = x.1 82 H.2.2.1) → (¬ H.1 = 1 → r9 = 0) → P (some (vi r9)) x := fun r9 u1 u2 => fin r9 ⟨fun z => by omega, fun z => by omega, fun z => by omega, fun z => by omega, fun _ => ⟨u1, u2⟩⟩
    refine kg_X5_lineOf_0 hq hm l1 (kp_isGoing hq hm hR.1.1 hR.1.2.1 l1 eT hT6 (fun g => ⟨fun z => absurd z (by decide), fun _ => ?_⟩) (fun g => ⟨fun _ => ok 0 (fun z => absurd (s1.mpr z) g) (fun _ => rfl), fun z => absurd rfl z⟩))
    refine kp_get hq hm hR.1.1 hR.1.2.1 l1 2 (K := 2) eT rfl hT6 (by omega) ⟨(MM_st hR.1.1 hA).1, ok _ (fun _ => ?_) (fun z => absurd (s1.mp g) z)⟩
    rw [(MM_st hR.1.1 hA).2.1, e2]
theorem ja_threadq9 {l1 l2 r9 r : Int32} (h : JHq9 C wr n lm x w) (hH : HOI y q) (k : ansK (e1Ch x) (e2Thq9 x l1 l2) (sThq9 C wr n (c96 w) x l1 l2) x r9 y) (m : ansMq9 C wr (f1Ch w) (f2Thq9 w l1 l2) (tThq9 C wr n w l1 l2) w r w') : JR3q9 y w' ∧ ansE r9 r y w' := by
  have e9 := JH_10q9 h
  refine ans_eqq9 h hH e9 ⟨fun z => ⟨fun a => z.1 (e9.mpr a), by rw [← (JH_Rq9 h z.1).1.1.2.2.2.2.1]; exact z.2⟩, fun z => ⟨fun a => z.1 (e9.mp a), by rw [(JH_Rq9 h (fun a => z.1 (e9.mp a))).1.1.2.2.2.2.1]; exact z.2⟩⟩ (fun a z => z.1 a) k m (fun c _ r' s t => ⟨JQ_rdq9 h hH s.2.2 t.2, ?_⟩)
  have n9 : ¬ x.1 0 9 = 0 := (JH_Rq9 h c).1.1.1
  exact thA_eqq9 s.1.1 t.1 s.2.1 (fun z => h.1.2.2.2 n9 _ (s.1.2 z).1 (s.1.2 z).2)
end KTH
section MTH
variable {G : mG} {d D : Nat} {x w : gd} {F : Int32 → gd → Prop} {C : gCo} {wr n : Nat} {lm : Nat → Nat} {q : kP}
theorem sf_onesq9 {sl : List Nat} (slp : sl.Pairwise (fun a b => b < a)) (sl8 : ∀ s ∈ sl, s < 8) (h : F (Int32.ofNat sl.length) x) : MT G d z_ones 0 [(0, vi (kmN sl))] [] x (ri F) := by
  have k1 : (1 : Int32).toInt = 1 := rfl
  have k24 : (24 : Int32).toInt = 24 := rfl
  have l8 : sl.length ≤ 8 := by rw [← lowc_8 sl8]; exact lowc_le slp 8
  have ok : ∀ k, k ≤ 24 → (Int32.ofNat k).toInt = (k : Nat) := fun k hk => Int32.toInt_ofNat_of_lt (by omega)
  have top : ∀ k, 8 ≤ k → lowc sl k = sl.length := fun k hk => by
    unfold lowc
    rw [List.filter_eq_self.mpr (fun b hb => by have := sl8 b hb; simpa using (show b < k by omega))]
  have le : ∀ k, lowc sl k ≤ 8 := fun k => Nat.le_trans (List.length_filter_le _ _) l8
  have loop : ∀ (m k : Nat) (s : Int32), 24 - k ≤ m → k ≤ 24 → s.toInt = (lowc sl k : Nat) → MT G d z_ones 4 [(0, vi (kmN sl)), (1, vi s), (2, vi (Int32.ofNat k))] [] x (ri F) := by
    intro m
    have last : ∀ (k : Nat) (s : Int32), k = 24 → s.toInt = (lowc sl k : Nat) → ri F (some (vi s)) x := fun k s ek hs => ri_i (by
      have e : s = Int32.ofNat sl.length := by rw [t_eq, hs, ek, top 24 (by decide), ok _ (by omega)]
      rw [e]; exact h)
    induction m with
    | zero =>
      intro k s hk hk8 hs
      exact sg_ones_4 _ _ _ ⟨fun _ => last k s (by omega) hs, fun c => absurd (t_le.mpr (by rw [k24, ok k hk8]; omega)) c⟩
    | succ m ih =>
      intro k s hk hk8 hs
      refine sg_ones_4 _ _ _ ⟨fun c => last k s (by rw [t_le, k24, ok k hk8] at c; omega) hs, fun c => ?_⟩
      rw [t_le, k24, ok k hk8] at c
      have e1 : Int32.ofNat k + 1 = Int32.ofNat (k + 1) := by
        rw [t_eq, t_add (by rw [ok k hk8]; omega) (by rw [ok k hk8]; omega), ok k hk8, ok (k + 1) (by omega), k1]
        push_cast; rfl
      have bit := kn_bitq9 sl8 k (by omega)
      have step := lowc_s slp k
      have lk := le k
      rw [e1, bit]
      refine ih (k + 1) _ (by omega) (by omega) ?_
      by_cases ck : k ∈ sl
      · rw [if_pos ck] at step ⊢
        rw [t_add (by rw [k1]; omega) (by rw [k1]; omega), k1, hs, step]; push_cast; rfl
      · rw [if_neg ck] at step ⊢
        have k0 : (0 : Int32).toInt = 0 := rfl
        rw [t_add (by rw [k0]; omega) (by rw [k0]; omega), k0, hs, step]; push_cast; rfl
  exact sg_ones_0 _ (loop 24 0 0 (by omega) (by omega) (by rw [lowc_0]; rfl))
theorem ma_threadq9 (h : JHq9 C wr n lm x w) (hH : HOI x q) (hm : MI w) (t i : Int32) (hD : 3 ≤ D) (hF : ∀ r w', ansMq9 C wr (f1Ch w) (f2Thq9 w t i) (tThq9 C wr n w t i) w r w' → F r w') : MT G D z_thread 0 [(0, vr 0), (1, vi t), (2, vi i)] [] w (ri F) := by
  obtain ⟨D, rfl⟩ : ∃ D', D = D' + 2 := ⟨D - 2, by omega⟩
  have k0 : (0 : Int32).toInt = 0 := rfl
  have k1 : (1 : Int32).toInt = 1 := rfl
  have k2 : (2 : Int32).toInt = 2 := rfl
  have k3 : (3 : Int32).toInt = 3 := rfl
  have k4 : (4 : Int32).toInt = 4 := rfl
  refine sg_thread_0 _ _ (fun y e => ?_)
  have hy := z0_s e
  have e67 : y.1 0 67 = w.1 0 67 := hy.1.1 67 (by decide)
  have e25 : y.1 0 25 = w.1 0 25 := hy.1.1 25 (by decide)
  have e63 : y.1 63 = w.1 63 := hy.1.2 63 (by decide) (by simp)
  have qy := (MI_0q9 hy.1 hm).1
  refine sc_noRunk hy (fun hr => ⟨fun q => absurd rfl q, fun _ => ?_⟩) (fun c y' m => ⟨fun _ => ri_i (hF _ y' (an_1q9 hm (show w.1 0 67 = 0 by rw [← e67]; exact c) m)), fun q => absurd q (by decide)⟩)
  obtain ⟨cp, _, rt⟩ := RS_of qy hr
  have g := cp.1
  have g6 := g.2.2.2.2.2.1
  rw [e67] at hr
  have h10 : ¬ x.1 0 10 = 0 := fun z => hr ((JH_10q9 h).mp z)
  obtain ⟨hc, hh, e94⟩ := JH_Mq9 h hr
  have gc := (JH_gcq9 h hH).1
  obtain ⟨mm, m8⟩ := HistC_MM gc.1 (HistC_0 hy.1 hh) (n := n) (by rw [hy.1.1 94 (by decide)]; exact e94)
  have cy : c96 y = c96 w := by unfold c96; rw [hy.1.2 96 (by decide) (by simp)]
  rw [cy] at mm
  have hKy : MK y C := MK_miq9 hy.1 rfl rfl (JH_Rq9 h h10).1.2.2.1
  have jn : x.1 60 10 = w.1 0 25 := (JH_Rq9 h h10).1.1.2.2.2.2.1
  have p41 : ∀ b : Int32, (b = 0 → (0 ≤ t.toInt ∧ t.toInt < (y.1 0 25).toInt) ∧ 0 ≤ i.toInt ∧ i.toInt < 5) → (¬ b = 0 → ¬ ((0 ≤ t.toInt ∧ t.toInt < (y.1 0 25).toInt) ∧ 0 ≤ i.toInt ∧ i.toInt < 5)) → MT G (D + 2) z_thread 41 [(0, vr 0), (1, vi t), (2, vi i)] [vi b, vr 0] y (ri F) := by
    intro b hb hb2
    refine sg_thread_41 _ _ _ (sc_refk b 2 hy (by decide) (fun b0 => ⟨fun _ => ?_, fun q => absurd rfl q⟩) (fun nb y' m => ⟨fun q => absurd q (by decide), fun _ => ri_i (hF _ y' (an_2q9 hm ⟨hr, fun z => hb2 nb (by rw [e25]; exact z)⟩ m))⟩))
    obtain ⟨⟨t0, t1⟩, i0, i5⟩ := hb b0
    have tv : vp_in t 6 := by rw [vp_in_iff]; omega
    have ct := t_cl t
    have t6 : t.toInt.toNat < 6 := by omega
    obtain ⟨H, eH⟩ : ∃ H, H = (runM C wr (c96 w) n).2.2 t.toInt.toNat := ⟨_, rfl⟩
    obtain ⟨st, hs, es⟩ := JH_stq9 h hH h10 (t := t.toInt.toNat) (by rw [jn, ← e25]; omega)
    have tq := mm.2.2 t.toInt.toNat t6
    rw [← eH] at hs es tq
    obtain ⟨q0, q0', q1, q2, -, -, -, -, ⟨q7, -⟩, -⟩ := tq
    obtain ⟨np, nl, n8⟩ := (gc.1.1 _ st hs).2.2.2.2.1
    have s8 : ∀ s ∈ st.2.1, s < 8 := fun s hs9 => by have := nl s hs9; omega
    have e62 : y.1 62 H.2.2.1 = kmN st.2.1 := (hKy.1.2 _ st hs).2.2.2.2.2.2.2.2
    have v74 : vp_in (y.1 74 t.toNatClampNeg) 1500 := by rw [vp_in_iff]; exact ⟨(rt _ (vt tv)).1, (rt _ (vt tv)).2.1⟩
    have e74 : (y.1 74 t.toNatClampNeg).toNatClampNeg = H.2.2.1 := by rw [ct, t_cl, q2]; rfl
    have e73 : y.1 73 t.toNatClampNeg = Int32.ofNat H.1 := by rw [ct]; exact q0
    have s4 := fun b hb => st_4 H.1 (by omega) b hb
    have fin : ∀ r : Int32, thAq9 C H (w.1 63) i r → ri F (some (vi r)) y := fun r hr9 => ri_i (hF _ y (an_3q9 qy hr (fun z => z.2 ⟨⟨t0, by rw [← e25]; exact t1⟩, i0, i5⟩) hy.2 ⟨by rw [← eH]; exact hr9, rd_0q9 hy.1 hm⟩))
    refine ⟨fun c0 => ⟨fun c1 => ⟨fun c2 => ⟨fun c3 => ⟨tv, fun g => ?_, fun g => ⟨tv, v74, ?_⟩⟩, fun c3 => ?_⟩, fun c2 => ⟨tv, fin _ ?_⟩⟩, fun c1 => ⟨tv, fin _ ?_⟩⟩, fun c0 => ⟨tv, fin _ ?_⟩⟩
    · rw [t_eq] at c0 c1 c2 c3
      rw [e73] at g
      exact fin 0 ⟨fun z => by omega, fun z => by omega, fun z => by omega, fun z => by omega, fun _ => ⟨fun z => absurd ((s4 1 (by decide)).mpr z) g, fun _ => rfl⟩⟩
    · rw [t_eq] at c0 c1 c2 c3
      rw [e73] at g
      refine fin _ ⟨fun z => by omega, fun z => by omega, fun z => by omega, fun z => by omega, fun _ => ⟨fun _ => by rw [e63, e74], fun z => absurd ((s4 1 (by decide)).mp g) z⟩⟩
    · -- known
      have i3 : i.toInt = 3 := by rw [c3]; exact k3
      have go : ∀ sl : List Nat, sl = (if H.1 = 1 ∨ H.1 = 3 then st.2.1 else []) → MT G (D + 1) z_ones 0 [(0, vi (kmN sl))] [] y (ri (fun r15 x14 => ri F (some (vi r15)) x14)) := fun sl esl => by
        refine sf_onesq9 (by rw [esl]; split; exact np; exact List.Pairwise.nil) (by rw [esl]; split; exact s8; exact fun s hs9 => nomatch hs9) (fin _ ⟨fun z => by omega, fun z => by omega, fun z => by omega, fun _ => ?_, fun z => by omega⟩)
        have kl : knL C H = sl.length := by
          unfold knL
          rw [esl, es]
          split
          · rfl
          · rfl
        have l8 : sl.length ≤ 8 := by
          rw [esl]
          split
          · rw [← lowc_8 s8]; exact lowc_le np 8
          · exact Nat.zero_le _
        rw [kl]
        exact Int32.toInt_ofNat_of_lt (by omega)
      refine sg_knownOf_0 _ ⟨tv, fun c => ⟨tv, v74, ri_i ?_⟩, fun c => ⟨tv, fun c3 => ri_i ?_, fun c3 => ⟨tv, v74, ri_i ?_⟩⟩⟩
      · rw [e73] at c
        have c1 : H.1 = 1 := (s4 1 (by decide)).mp c
        rw [e74, e62]
        exact go _ (by rw [if_pos (Or.inl c1)])
      · rw [e73] at c c3
        exact go [] (by rw [if_neg (fun z => by
          rcases z with z | z
          · exact c ((s4 1 (by decide)).mpr z)
          · exact c3 ((s4 3 (by decide)).mpr z))])
      · rw [e73] at c3
        have c1 : H.1 = 3 := (s4 3 (by decide)).mp c3
        rw [e74, e62]
        exact go _ (by rw [if_pos (Or.inr c1)])
    · have i2 : i.toInt = 2 := by rw [c2]; exact k2
      exact ⟨fun z => by omega, fun z => by omega, fun _ => by rw [ct]; exact q7, fun z => by omega, fun z => by omega⟩
    · have i1 : i.toInt = 1 := by rw [c1]; exact k1
      exact ⟨fun z => by omega, fun _ => by rw [ct]; exact q1, fun z => by omega, fun z => by omega, fun z => by omega⟩
    · have i00 : i.toInt = 0 := by rw [c0]; exact k0
      exact ⟨fun _ => by rw [ct]; exact q0, fun z => by omega, fun z => by omega, fun z => by omega, fun z => by omega⟩
  exact sp_in _ _ _ ⟨fun c1 => p41 1 (fun q => absurd q (by decide)) (fun _ z => (in_ge (bi_eq.mp c1) g.2.2.2.2.1) z.1), fun c1 => sp_in _ _ _ ⟨fun c2 => p41 0 (fun _ => ⟨in_lt (bi_ne.mp c1) g.2.2.2.2.1, ?_⟩) (fun z => absurd rfl z), fun c2 => p41 1 (fun q => absurd q (by decide)) (fun _ z => ?_)⟩⟩
  · have := bi_ne.mp c2
    rw [t_le, t_le, k0, k4] at this
    omega
  · have := bi_eq.mp c2
    rw [t_le, t_le, k0, k4] at this
    omega
end MTH

