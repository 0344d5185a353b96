/-! the premises of the claim, read off -/
def fA : Cond → List Cond → List Cond
  | .and a b, k => fA a (fA b k)
  | c, k => c :: k
theorem fA_eq : ∀ (c : Cond) (k : List Cond), flatC c ++ k = fA c k
  | .and a b, k => by rw [flatC, fA, List.append_assoc, fA_eq b k, fA_eq a]
  | c, k => by cases c <;> first | rfl | (rename_i a b; rw [flatC, fA, List.append_assoc, fA_eq b k, fA_eq a])
theorem fA_mem {c d : Cond} (h : d ∈ fA c []) : d ∈ flatC c := by rw [← fA_eq, List.append_nil] at h; exact h
theorem fA_at {c d : Cond} (i : Nat) (h : (fA c [])[i]? = some d) : d ∈ flatC c := fA_mem (List.mem_of_getElem? h)
theorem st_txt {args : Array Value} {s : State} {own : String} {k : Nat} {t : String} (h1 : (Cond.stringRef own k t).before args s = true) (h2 : (Cond.exactly (Term.string own k) "java/lang/String").before args s = true) : ∃ a : Nat, vk_R own k t a s := by
  obtain ⟨b', cB, cellB, kB, hb, -⟩ := Cond.exactly_spec h2
  exact ⟨b', vk_R.of h1 hb⟩
theorem nx_X11_72 {args : Array Value} {s : State} (hs : ∀ c ∈ flatC (Jvm.Cond.and given_1 narrow_1), c.before args s = true) : (Cond.exactly (Term.string "ScheduleHouse" 72) "java/lang/String").before args s = true := hs _ (fA_at 308 (by decide +kernel))
theorem nx_X11_80 {args : Array Value} {s : State} (hs : ∀ c ∈ flatC (Jvm.Cond.and given_1 narrow_1), c.before args s = true) : (Cond.exactly (Term.string "ScheduleHouse" 80) "java/lang/String").before args s = true := hs _ (fA_at 329 (by decide +kernel))
theorem nx_X7_104 {args : Array Value} {s : State} (hs : ∀ c ∈ flatC (Jvm.Cond.and given_1 narrow_1), c.before args s = true) : (Cond.exactly (Term.string "ScheduleHouse$Reader" 104) "java/lang/String").before args s = true := hs _ (fA_at 284 (by decide +kernel))
theorem nx_X11_129 {args : Array Value} {s : State} (hs : ∀ c ∈ flatC (Jvm.Cond.and given_1 narrow_1), c.before args s = true) : (Cond.exactly (Term.string "ScheduleHouse" 129) "java/lang/String").before args s = true := hs _ (fA_at 356 (by decide +kernel))
theorem nx_X11_189 {args : Array Value} {s : State} (hs : ∀ c ∈ flatC (Jvm.Cond.and given_1 narrow_1), c.before args s = true) : (Cond.exactly (Term.string "ScheduleHouse" 189) "java/lang/String").before args s = true := hs _ (fA_at 481 (by decide +kernel))
theorem nx_X11_195 {args : Array Value} {s : State} (hs : ∀ c ∈ flatC (Jvm.Cond.and given_1 narrow_1), c.before args s = true) : (Cond.exactly (Term.string "ScheduleHouse" 195) "java/lang/String").before args s = true := hs _ (fA_at 515 (by decide +kernel))
theorem nx_X11_198 {args : Array Value} {s : State} (hs : ∀ c ∈ flatC (Jvm.Cond.and given_1 narrow_1), c.before args s = true) : (Cond.exactly (Term.string "ScheduleHouse" 198) "java/lang/String").before args s = true := hs _ (fA_at 546 (by decide +kernel))
theorem nx_X11_276 {args : Array Value} {s : State} (hs : ∀ c ∈ flatC (Jvm.Cond.and given_1 narrow_1), c.before args s = true) : (Cond.exactly (Term.string "ScheduleHouse" 276) "java/lang/String").before args s = true := hs _ (fA_at 593 (by decide +kernel))
theorem nx_X11_292 {args : Array Value} {s : State} (hs : ∀ c ∈ flatC (Jvm.Cond.and given_1 narrow_1), c.before args s = true) : (Cond.exactly (Term.string "ScheduleHouse" 292) "java/lang/String").before args s = true := hs _ (fA_at 626 (by decide +kernel))
theorem nx_X11_340 {args : Array Value} {s : State} (hs : ∀ c ∈ flatC (Jvm.Cond.and given_1 narrow_1), c.before args s = true) : (Cond.exactly (Term.string "ScheduleHouse" 340) "java/lang/String").before args s = true := hs _ (fA_at 665 (by decide +kernel))
theorem nx_X11_342 {args : Array Value} {s : State} (hs : ∀ c ∈ flatC (Jvm.Cond.and given_1 narrow_1), c.before args s = true) : (Cond.exactly (Term.string "ScheduleHouse" 342) "java/lang/String").before args s = true := hs _ (fA_at 698 (by decide +kernel))
theorem nx_X11_384 {args : Array Value} {s : State} (hs : ∀ c ∈ flatC (Jvm.Cond.and given_1 narrow_1), c.before args s = true) : (Cond.exactly (Term.string "ScheduleHouse" 384) "java/lang/String").before args s = true := hs _ (fA_at 376 (by decide +kernel))
theorem nx_X11_386 {args : Array Value} {s : State} (hs : ∀ c ∈ flatC (Jvm.Cond.and given_1 narrow_1), c.before args s = true) : (Cond.exactly (Term.string "ScheduleHouse" 386) "java/lang/String").before args s = true := hs _ (fA_at 425 (by decide +kernel))
theorem nx_X11_388 {args : Array Value} {s : State} (hs : ∀ c ∈ flatC (Jvm.Cond.and given_1 narrow_1), c.before args s = true) : (Cond.exactly (Term.string "ScheduleHouse" 388) "java/lang/String").before args s = true := hs _ (fA_at 404 (by decide +kernel))
theorem nx_X11_390 {args : Array Value} {s : State} (hs : ∀ c ∈ flatC (Jvm.Cond.and given_1 narrow_1), c.before args s = true) : (Cond.exactly (Term.string "ScheduleHouse" 390) "java/lang/String").before args s = true := hs _ (fA_at 451 (by decide +kernel))
theorem nn_0 {args : Array Value} {s : State} (hs : ∀ c ∈ flatC (Jvm.Cond.and given_1 narrow_1), c.before args s = true) : (Cond.not (.castable iAE iSE)).before args s = true := hs _ (fA_at 21 (by decide +kernel))
theorem nn_1 {args : Array Value} {s : State} (hs : ∀ c ∈ flatC (Jvm.Cond.and given_1 narrow_1), c.before args s = true) : (Cond.not (.castable iOE iSE)).before args s = true := hs _ (fA_at 22 (by decide +kernel))
theorem nn_2 {args : Array Value} {s : State} (hs : ∀ c ∈ flatC (Jvm.Cond.and given_1 narrow_1), c.before args s = true) : (Cond.not (.castable iOE iAE)).before args s = true := hs _ (fA_at 37 (by decide +kernel))
theorem nn_3 {args : Array Value} {s : State} (hs : ∀ c ∈ flatC (Jvm.Cond.and given_1 narrow_1), c.before args s = true) : (Cond.not (.castable iSE iAE)).before args s = true := hs _ (fA_at 36 (by decide +kernel))
theorem nn_4 {args : Array Value} {s : State} (hs : ∀ c ∈ flatC (Jvm.Cond.and given_1 narrow_1), c.before args s = true) : (Cond.not (.castable iSE iOE)).before args s = true := hs _ (fA_at 52 (by decide +kernel))
theorem nn_5 {args : Array Value} {s : State} (hs : ∀ c ∈ flatC (Jvm.Cond.and given_1 narrow_1), c.before args s = true) : (Cond.not (.castable iAE iOE)).before args s = true := hs _ (fA_at 51 (by decide +kernel))
theorem nz_UNASSIGNED_STACK {args : Array Value} {s : State} (hs : ∀ c ∈ flatC (Jvm.Cond.and given_1 narrow_1), c.before args s = true) : (Cond.isRef (.static Bundle.tN "UNASSIGNED_STACK" Bundle.steD)).before args s = true := hs _ (fA_at 9 (by decide +kernel))
theorem nz_SUPPRESSED_SENTINEL {args : Array Value} {s : State} (hs : ∀ c ∈ flatC (Jvm.Cond.and given_1 narrow_1), c.before args s = true) : (Cond.isRef (.static Bundle.tN "SUPPRESSED_SENTINEL" Bundle.listD)).before args s = true := hs _ (fA_at 10 (by decide +kernel))
theorem nz_CS {args : Array Value} {s : State} (hs : ∀ c ∈ flatC (Jvm.Cond.and given_1 narrow_1), c.before args s = true) : (Cond.eq (.static "java/lang/String" "COMPACT_STRINGS" "Z") (.int 1)).before args s = true := hs _ (fA_at 4 (by decide +kernel))
theorem nz_FM {args : Array Value} {s : State} (hs : ∀ c ∈ flatC (Jvm.Cond.and given_1 narrow_1), c.before args s = true) : (Cond.isRef (.static "jdk/internal/util/Preconditions" "SIOOBE_FORMATTER" "Ljava/util/function/BiFunction;")).before args s = true := hs _ (fA_at 5 (by decide +kernel))
def tmS (i : Nat) : Term := if i = 0 then (Term.string "ScheduleHouse$Tokens" 79) else (Term.string "ScheduleHouseModel" 326)
theorem sx_0 {args : Array Value} {s : State} (hs : ∀ c ∈ flatC (Jvm.Cond.and given_1 narrow_1), c.before args s = true) : (Cond.exactly (Term.string "ScheduleHouse$Tokens" 79) "java/lang/String").before args s = true := hs _ (fA_at 56 (by decide +kernel))
theorem sc_0 {args : Array Value} {s : State} (hs : ∀ c ∈ flatC (Jvm.Cond.and given_1 narrow_1), c.before args s = true) : (Cond.eq (.field (Term.string "ScheduleHouse$Tokens" 79) "java/lang/String" "coder" "B") (.int 0)).before args s = true := hs _ (fA_at 57 (by decide +kernel))
theorem sb_0 {args : Array Value} {s : State} (hs : ∀ c ∈ flatC (Jvm.Cond.and given_1 narrow_1), c.before args s = true) : (Cond.arrayOf (.field (Term.string "ScheduleHouse$Tokens" 79) "java/lang/String" "value" "[B") .byte).before args s = true := hs _ (fA_at 58 (by decide +kernel))
theorem sl_0 {args : Array Value} {s : State} (hs : ∀ c ∈ flatC (Jvm.Cond.and given_1 narrow_1), c.before args s = true) : (Cond.eq (.length (.field (Term.string "ScheduleHouse$Tokens" 79) "java/lang/String" "value" "[B")) (.int 224)).before args s = true := hs _ (fA_at 59 (by decide +kernel))
set_option maxRecDepth 100000 in
theorem sk_0 : ((fA (Jvm.Cond.and given_1 narrow_1) []).drop 60).take 224 = (List.range 224).map (fun j => Cond.eq (.elem (.field (Term.string "ScheduleHouse$Tokens" 79) "java/lang/String" "value" "[B") (.int (Int32.ofNat j))) (.int ((es_byt.getD 0 []).getD j 0))) := by decide +kernel
theorem se_0 (j : Nat) (hj : j < 224) : (Cond.eq (.elem (.field (Term.string "ScheduleHouse$Tokens" 79) "java/lang/String" "value" "[B") (.int (Int32.ofNat j))) (.int ((es_byt.getD 0 []).getD j 0))) ∈ flatC (Jvm.Cond.and given_1 narrow_1) := fA_mem (List.mem_of_mem_drop (List.mem_of_mem_take (sk_0 ▸ List.mem_map.mpr ⟨j, List.mem_range.mpr hj, rfl⟩)))
theorem sx_1 {args : Array Value} {s : State} (hs : ∀ c ∈ flatC (Jvm.Cond.and given_1 narrow_1), c.before args s = true) : (Cond.exactly (Term.string "ScheduleHouseModel" 326) "java/lang/String").before args s = true := hs _ (fA_at 749 (by decide +kernel))
theorem sc_1 {args : Array Value} {s : State} (hs : ∀ c ∈ flatC (Jvm.Cond.and given_1 narrow_1), c.before args s = true) : (Cond.eq (.field (Term.string "ScheduleHouseModel" 326) "java/lang/String" "coder" "B") (.int 0)).before args s = true := hs _ (fA_at 750 (by decide +kernel))
theorem sb_1 {args : Array Value} {s : State} (hs : ∀ c ∈ flatC (Jvm.Cond.and given_1 narrow_1), c.before args s = true) : (Cond.arrayOf (.field (Term.string "ScheduleHouseModel" 326) "java/lang/String" "value" "[B") .byte).before args s = true := hs _ (fA_at 751 (by decide +kernel))
theorem sl_1 {args : Array Value} {s : State} (hs : ∀ c ∈ flatC (Jvm.Cond.and given_1 narrow_1), c.before args s = true) : (Cond.eq (.length (.field (Term.string "ScheduleHouseModel" 326) "java/lang/String" "value" "[B")) (.int 165)).before args s = true := hs _ (fA_at 752 (by decide +kernel))
set_option maxRecDepth 100000 in
theorem sk_1 : ((fA (Jvm.Cond.and given_1 narrow_1) []).drop 753).take 165 = (List.range 165).map (fun j => Cond.eq (.elem (.field (Term.string "ScheduleHouseModel" 326) "java/lang/String" "value" "[B") (.int (Int32.ofNat j))) (.int ((es_byt.getD 1 []).getD j 0))) := by decide +kernel
theorem se_1 (j : Nat) (hj : j < 165) : (Cond.eq (.elem (.field (Term.string "ScheduleHouseModel" 326) "java/lang/String" "value" "[B") (.int (Int32.ofNat j))) (.int ((es_byt.getD 1 []).getD j 0))) ∈ flatC (Jvm.Cond.and given_1 narrow_1) := fA_mem (List.mem_of_mem_drop (List.mem_of_mem_take (sk_1 ▸ List.mem_map.mpr ⟨j, List.mem_range.mpr hj, rfl⟩)))
theorem sn_01 {args : Array Value} {s : State} (hs : ∀ c ∈ flatC (Jvm.Cond.and given_1 narrow_1), c.before args s = true) : (Cond.not (Cond.eq (Term.string "ScheduleHouse$Tokens" 79) (Term.string "ScheduleHouseModel" 326))).before args s = true ∨ (Cond.not (Cond.eq (Term.string "ScheduleHouseModel" 326) (Term.string "ScheduleHouse$Tokens" 79))).before args s = true := Or.inl (hs _ (fA_at 918 (by decide +kernel)))
theorem st_S {args : Array Value} {s : State} (hs : ∀ c ∈ flatC (Jvm.Cond.and given_1 narrow_1), c.before args s = true) : ∃ adK adV : Nat → Nat, vk_S 2 es_len es_byt adK adV (fun q : Nat => s.heap.size ≤ q) s s.heap ∧ ∀ i : Nat, i < 2 → (tmS i).eval args s none [] s = some (.ref (adK i)) := by
  refine vk_Sof (tm := tmS) (fun i hi => ?_) (fun i hi => by
    have : i = 0 ∨ i = 1 := by omega
    rcases this with rfl | rfl
    · exact sx_0 hs
    · exact sx_1 hs) (fun i hi => by
    have : i = 0 ∨ i = 1 := by omega
    rcases this with rfl | rfl
    · exact sc_0 hs
    · exact sc_1 hs) (fun i hi => by
    have : i = 0 ∨ i = 1 := by omega
    rcases this with rfl | rfl
    · exact sb_0 hs
    · exact sb_1 hs) (fun i hi => ?_) (fun i hi j hj => ?_) (fun i j hi hj hne => ?_) (fun a h => Nat.not_le.mpr h)
  · have : i = 0 ∨ i = 1 := by omega
    rcases this with rfl | rfl
    · rw [es_l0]; decide
    · rw [es_l1]; decide
  · have : i = 0 ∨ i = 1 := by omega
    rcases this with rfl | rfl
    · rw [es_l0]; exact sl_0 hs
    · rw [es_l1]; exact sl_1 hs
  · have : i = 0 ∨ i = 1 := by omega
    rcases this with rfl | rfl
    · rw [es_l0] at hj; exact hs _ (se_0 j hj)
    · rw [es_l1] at hj; exact hs _ (se_1 j hj)
  · have h1 : i = 0 ∨ i = 1 := by omega
    have h2 : j = 0 ∨ j = 1 := by omega
    rcases h1 with rfl | rfl <;> rcases h2 with rfl | rfl
    · exact absurd rfl hne
    · exact sn_01 hs
    · exact (sn_01 hs).symm
    · exact absurd rfl hne
