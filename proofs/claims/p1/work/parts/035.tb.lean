abbrev iSE : String := "java/lang/IllegalStateException"
abbrev iAE : String := "java/lang/IllegalArgumentException"
abbrev iOE : String := "java/lang/IndexOutOfBoundsException"
abbrev up2 : List String := ["java/lang/RuntimeException", "java/lang/Exception"]
theorem tb_c {w : Cond} {B L : List Cond} (h : w ∈ L) (t : ∀ x ∈ B, x ∈ L) : ∀ x ∈ w :: B, x ∈ L := fun x hx => (List.mem_cons.mp hx).elim (fun e => e ▸ h) (t x)
theorem tb_a {A B L : List Cond} (a : ∀ x ∈ A, x ∈ L) (b : ∀ x ∈ B, x ∈ L) : ∀ x ∈ A ++ B, x ∈ L := fun x hx => (List.mem_append.mp hx).elim (a x) (b x)
theorem tb_n {L : List Cond} : ∀ x ∈ ([] : List Cond), x ∈ L := fun _ h => nomatch h
theorem tx_X11_191 : ∀ w ∈ (vx_atS RX11 191 iSE up2).filter goodWord, w ∈ lw_tbl := by decide +kernel
theorem tx_X11_74 : ∀ w ∈ (vx_atS RX11 74 iAE up2).filter goodWord, w ∈ lw_tbl := by decide +kernel
theorem tx_X11_131 : ∀ w ∈ (vx_atS RX11 131 iOE up2).filter goodWord, w ∈ lw_tbl := by decide +kernel
theorem tw_wsX00 : ∀ w ∈ wsX00, w ∈ lw_tbl := by decide +kernel
theorem tw_wsX10 : ∀ w ∈ wsX10, w ∈ lw_tbl := by decide +kernel
theorem tw_wsX40 : ∀ w ∈ wsX40, w ∈ lw_tbl := by decide +kernel
theorem tw_wsX50 : ∀ w ∈ wsX50, w ∈ lw_tbl := by decide +kernel
theorem tw_wsX60 : ∀ w ∈ wsX60, w ∈ lw_tbl := by decide +kernel
theorem tw_wsX70 : ∀ w ∈ wsX70, w ∈ lw_tbl := by decide +kernel
theorem tw_wsX80 : ∀ w ∈ wsX80, w ∈ lw_tbl := by decide +kernel
theorem tw_wsX90 : ∀ w ∈ wsX90, w ∈ lw_tbl := by decide +kernel
theorem tw_wsX110 : ∀ w ∈ wsX110, w ∈ lw_tbl := by decide +kernel
