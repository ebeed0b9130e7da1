def strTm : Nat → Term := fun i => [Term.string "WidowsFund$Tape" 34, Term.string "WidowsFund$Tape" 60, Term.string "WidowsFund$Tape" 66, Term.string "WidowsFund$Tape" 119, Term.string "WidowsFund$Tape" 81, Term.string "WidowsFund$Tape" 83, Term.string "WidowsFundModel" 243, Term.string "WidowsFundModel" 245, Term.string "WidowsFundModel" 247, Term.string "WidowsFundModel" 249, Term.string "WidowsFundModel" 251, Term.string "WidowsFundModel" 253, Term.string "WidowsFundModel" 255, Term.string "WidowsFundModel" 257, Term.string "WidowsFundModel" 259, Term.string "WidowsFundModel" 263, Term.string "WidowsFundModel" 265, Term.string "WidowsFundModel" 267, Term.string "WidowsFundModel" 269, Term.string "WidowsFundModel" 271].getD i (Term.string "" 0)
theorem vk_S.congr {N : Nat} {len : List Nat} {byt : List (List Int32)} {k k' v v' : Nat → Nat} {A : Nat → Prop} {U : State} {H : Heap} (h : vk_S N len byt k v A U H) (h1 : ∀ i, i < N → k' i = k i) (h2 : ∀ i, i < N → v' i = v i) : vk_S N len byt k' v' A U H := by
  refine ⟨fun i hi => ?_, fun i j hi hj e => h.2 i j hi hj (by rw [← h1 i hi, ← h1 j hj]; exact e)⟩
  rw [h1 i hi, h2 i hi]
  exact h.1 i hi
section SB
variable {args : Array Value} {s : State}
theorem sb_ex (hs : ∀ c ∈ flatC (Jvm.Cond.and given_1 narrow_1), c.before args s = true) : ∀ i : Nat, i < 20 → (Cond.exactly (strTm i) "java/lang/String").before args s = true := by
  intro i hi
  rcases i with _ | i
  · exact hs (Cond.exactly (Term.string "WidowsFund$Tape" 34) "java/lang/String") (by decide +kernel)
  rcases i with _ | i
  · exact hs (Cond.exactly (Term.string "WidowsFund$Tape" 60) "java/lang/String") (by decide +kernel)
  rcases i with _ | i
  · exact hs (Cond.exactly (Term.string "WidowsFund$Tape" 66) "java/lang/String") (by decide +kernel)
  rcases i with _ | i
  · exact hs (Cond.exactly (Term.string "WidowsFund$Tape" 119) "java/lang/String") (by decide +kernel)
  rcases i with _ | i
  · exact hs (Cond.exactly (Term.string "WidowsFund$Tape" 81) "java/lang/String") (by decide +kernel)
  rcases i with _ | i
  · exact hs (Cond.exactly (Term.string "WidowsFund$Tape" 83) "java/lang/String") (by decide +kernel)
  rcases i with _ | i
  · exact hs (Cond.exactly (Term.string "WidowsFundModel" 243) "java/lang/String") (by decide +kernel)
  rcases i with _ | i
  · exact hs (Cond.exactly (Term.string "WidowsFundModel" 245) "java/lang/String") (by decide +kernel)
  rcases i with _ | i
  · exact hs (Cond.exactly (Term.string "WidowsFundModel" 247) "java/lang/String") (by decide +kernel)
  rcases i with _ | i
  · exact hs (Cond.exactly (Term.string "WidowsFundModel" 249) "java/lang/String") (by decide +kernel)
  rcases i with _ | i
  · exact hs (Cond.exactly (Term.string "WidowsFundModel" 251) "java/lang/String") (by decide +kernel)
  rcases i with _ | i
  · exact hs (Cond.exactly (Term.string "WidowsFundModel" 253) "java/lang/String") (by decide +kernel)
  rcases i with _ | i
  · exact hs (Cond.exactly (Term.string "WidowsFundModel" 255) "java/lang/String") (by decide +kernel)
  rcases i with _ | i
  · exact hs (Cond.exactly (Term.string "WidowsFundModel" 257) "java/lang/String") (by decide +kernel)
  rcases i with _ | i
  · exact hs (Cond.exactly (Term.string "WidowsFundModel" 259) "java/lang/String") (by decide +kernel)
  rcases i with _ | i
  · exact hs (Cond.exactly (Term.string "WidowsFundModel" 263) "java/lang/String") (by decide +kernel)
  rcases i with _ | i
  · exact hs (Cond.exactly (Term.string "WidowsFundModel" 265) "java/lang/String") (by decide +kernel)
  rcases i with _ | i
  · exact hs (Cond.exactly (Term.string "WidowsFundModel" 267) "java/lang/String") (by decide +kernel)
  rcases i with _ | i
  · exact hs (Cond.exactly (Term.string "WidowsFundModel" 269) "java/lang/String") (by decide +kernel)
  rcases i with _ | i
  · exact hs (Cond.exactly (Term.string "WidowsFundModel" 271) "java/lang/String") (by decide +kernel)
  omega
theorem sb_co (hs : ∀ c ∈ flatC (Jvm.Cond.and given_1 narrow_1), c.before args s = true) : ∀ i : Nat, i < 20 → (Cond.eq (.field (strTm i) "java/lang/String" "coder" "B") (.int 0)).before args s = true := by
  intro i hi
  rcases i with _ | i
  · exact hs (Cond.eq (.field (Term.string "WidowsFund$Tape" 34) "java/lang/String" "coder" "B") (.int 0)) (by decide +kernel)
  rcases i with _ | i
  · exact hs (Cond.eq (.field (Term.string "WidowsFund$Tape" 60) "java/lang/String" "coder" "B") (.int 0)) (by decide +kernel)
  rcases i with _ | i
  · exact hs (Cond.eq (.field (Term.string "WidowsFund$Tape" 66) "java/lang/String" "coder" "B") (.int 0)) (by decide +kernel)
  rcases i with _ | i
  · exact hs (Cond.eq (.field (Term.string "WidowsFund$Tape" 119) "java/lang/String" "coder" "B") (.int 0)) (by decide +kernel)
  rcases i with _ | i
  · exact hs (Cond.eq (.field (Term.string "WidowsFund$Tape" 81) "java/lang/String" "coder" "B") (.int 0)) (by decide +kernel)
  rcases i with _ | i
  · exact hs (Cond.eq (.field (Term.string "WidowsFund$Tape" 83) "java/lang/String" "coder" "B") (.int 0)) (by decide +kernel)
  rcases i with _ | i
  · exact hs (Cond.eq (.field (Term.string "WidowsFundModel" 243) "java/lang/String" "coder" "B") (.int 0)) (by decide +kernel)
  rcases i with _ | i
  · exact hs (Cond.eq (.field (Term.string "WidowsFundModel" 245) "java/lang/String" "coder" "B") (.int 0)) (by decide +kernel)
  rcases i with _ | i
  · exact hs (Cond.eq (.field (Term.string "WidowsFundModel" 247) "java/lang/String" "coder" "B") (.int 0)) (by decide +kernel)
  rcases i with _ | i
  · exact hs (Cond.eq (.field (Term.string "WidowsFundModel" 249) "java/lang/String" "coder" "B") (.int 0)) (by decide +kernel)
  rcases i with _ | i
  · exact hs (Cond.eq (.field (Term.string "WidowsFundModel" 251) "java/lang/String" "coder" "B") (.int 0)) (by decide +kernel)
  rcases i with _ | i
  · exact hs (Cond.eq (.field (Term.string "WidowsFundModel" 253) "java/lang/String" "coder" "B") (.int 0)) (by decide +kernel)
  rcases i with _ | i
  · exact hs (Cond.eq (.field (Term.string "WidowsFundModel" 255) "java/lang/String" "coder" "B") (.int 0)) (by decide +kernel)
  rcases i with _ | i
  · exact hs (Cond.eq (.field (Term.string "WidowsFundModel" 257) "java/lang/String" "coder" "B") (.int 0)) (by decide +kernel)
  rcases i with _ | i
  · exact hs (Cond.eq (.field (Term.string "WidowsFundModel" 259) "java/lang/String" "coder" "B") (.int 0)) (by decide +kernel)
  rcases i with _ | i
  · exact hs (Cond.eq (.field (Term.string "WidowsFundModel" 263) "java/lang/String" "coder" "B") (.int 0)) (by decide +kernel)
  rcases i with _ | i
  · exact hs (Cond.eq (.field (Term.string "WidowsFundModel" 265) "java/lang/String" "coder" "B") (.int 0)) (by decide +kernel)
  rcases i with _ | i
  · exact hs (Cond.eq (.field (Term.string "WidowsFundModel" 267) "java/lang/String" "coder" "B") (.int 0)) (by decide +kernel)
  rcases i with _ | i
  · exact hs (Cond.eq (.field (Term.string "WidowsFundModel" 269) "java/lang/String" "coder" "B") (.int 0)) (by decide +kernel)
  rcases i with _ | i
  · exact hs (Cond.eq (.field (Term.string "WidowsFundModel" 271) "java/lang/String" "coder" "B") (.int 0)) (by decide +kernel)
  omega
theorem sb_ar (hs : ∀ c ∈ flatC (Jvm.Cond.and given_1 narrow_1), c.before args s = true) : ∀ i : Nat, i < 20 → (Cond.arrayOf (.field (strTm i) "java/lang/String" "value" "[B") .byte).before args s = true := by
  intro i hi
  rcases i with _ | i
  · exact hs (Cond.arrayOf (.field (Term.string "WidowsFund$Tape" 34) "java/lang/String" "value" "[B") .byte) (by decide +kernel)
  rcases i with _ | i
  · exact hs (Cond.arrayOf (.field (Term.string "WidowsFund$Tape" 60) "java/lang/String" "value" "[B") .byte) (by decide +kernel)
  rcases i with _ | i
  · exact hs (Cond.arrayOf (.field (Term.string "WidowsFund$Tape" 66) "java/lang/String" "value" "[B") .byte) (by decide +kernel)
  rcases i with _ | i
  · exact hs (Cond.arrayOf (.field (Term.string "WidowsFund$Tape" 119) "java/lang/String" "value" "[B") .byte) (by decide +kernel)
  rcases i with _ | i
  · exact hs (Cond.arrayOf (.field (Term.string "WidowsFund$Tape" 81) "java/lang/String" "value" "[B") .byte) (by decide +kernel)
  rcases i with _ | i
  · exact hs (Cond.arrayOf (.field (Term.string "WidowsFund$Tape" 83) "java/lang/String" "value" "[B") .byte) (by decide +kernel)
  rcases i with _ | i
  · exact hs (Cond.arrayOf (.field (Term.string "WidowsFundModel" 243) "java/lang/String" "value" "[B") .byte) (by decide +kernel)
  rcases i with _ | i
  · exact hs (Cond.arrayOf (.field (Term.string "WidowsFundModel" 245) "java/lang/String" "value" "[B") .byte) (by decide +kernel)
  rcases i with _ | i
  · exact hs (Cond.arrayOf (.field (Term.string "WidowsFundModel" 247) "java/lang/String" "value" "[B") .byte) (by decide +kernel)
  rcases i with _ | i
  · exact hs (Cond.arrayOf (.field (Term.string "WidowsFundModel" 249) "java/lang/String" "value" "[B") .byte) (by decide +kernel)
  rcases i with _ | i
  · exact hs (Cond.arrayOf (.field (Term.string "WidowsFundModel" 251) "java/lang/String" "value" "[B") .byte) (by decide +kernel)
  rcases i with _ | i
  · exact hs (Cond.arrayOf (.field (Term.string "WidowsFundModel" 253) "java/lang/String" "value" "[B") .byte) (by decide +kernel)
  rcases i with _ | i
  · exact hs (Cond.arrayOf (.field (Term.string "WidowsFundModel" 255) "java/lang/String" "value" "[B") .byte) (by decide +kernel)
  rcases i with _ | i
  · exact hs (Cond.arrayOf (.field (Term.string "WidowsFundModel" 257) "java/lang/String" "value" "[B") .byte) (by decide +kernel)
  rcases i with _ | i
  · exact hs (Cond.arrayOf (.field (Term.string "WidowsFundModel" 259) "java/lang/String" "value" "[B") .byte) (by decide +kernel)
  rcases i with _ | i
  · exact hs (Cond.arrayOf (.field (Term.string "WidowsFundModel" 263) "java/lang/String" "value" "[B") .byte) (by decide +kernel)
  rcases i with _ | i
  · exact hs (Cond.arrayOf (.field (Term.string "WidowsFundModel" 265) "java/lang/String" "value" "[B") .byte) (by decide +kernel)
  rcases i with _ | i
  · exact hs (Cond.arrayOf (.field (Term.string "WidowsFundModel" 267) "java/lang/String" "value" "[B") .byte) (by decide +kernel)
  rcases i with _ | i
  · exact hs (Cond.arrayOf (.field (Term.string "WidowsFundModel" 269) "java/lang/String" "value" "[B") .byte) (by decide +kernel)
  rcases i with _ | i
  · exact hs (Cond.arrayOf (.field (Term.string "WidowsFundModel" 271) "java/lang/String" "value" "[B") .byte) (by decide +kernel)
  omega
theorem sb_le (hs : ∀ c ∈ flatC (Jvm.Cond.and given_1 narrow_1), c.before args s = true) : ∀ i : Nat, i < 20 → (Cond.eq (.length (.field (strTm i) "java/lang/String" "value" "[B")) (.int (Int32.ofNat (strLen.getD i 0)))).before args s = true := by
  intro i hi
  rcases i with _ | i
  · exact hs (Cond.eq (.length (.field (Term.string "WidowsFund$Tape" 34) "java/lang/String" "value" "[B")) (.int 6)) (by decide +kernel)
  rcases i with _ | i
  · exact hs (Cond.eq (.length (.field (Term.string "WidowsFund$Tape" 60) "java/lang/String" "value" "[B")) (.int 44)) (by decide +kernel)
  rcases i with _ | i
  · exact hs (Cond.eq (.length (.field (Term.string "WidowsFund$Tape" 66) "java/lang/String" "value" "[B")) (.int 1)) (by decide +kernel)
  rcases i with _ | i
  · exact hs (Cond.eq (.length (.field (Term.string "WidowsFund$Tape" 119) "java/lang/String" "value" "[B")) (.int 26)) (by decide +kernel)
  rcases i with _ | i
  · exact hs (Cond.eq (.length (.field (Term.string "WidowsFund$Tape" 81) "java/lang/String" "value" "[B")) (.int 4)) (by decide +kernel)
  rcases i with _ | i
  · exact hs (Cond.eq (.length (.field (Term.string "WidowsFund$Tape" 83) "java/lang/String" "value" "[B")) (.int 5)) (by decide +kernel)
  rcases i with _ | i
  · exact hs (Cond.eq (.length (.field (Term.string "WidowsFundModel" 243) "java/lang/String" "value" "[B")) (.int 3)) (by decide +kernel)
  rcases i with _ | i
  · exact hs (Cond.eq (.length (.field (Term.string "WidowsFundModel" 245) "java/lang/String" "value" "[B")) (.int 4)) (by decide +kernel)
  rcases i with _ | i
  · exact hs (Cond.eq (.length (.field (Term.string "WidowsFundModel" 247) "java/lang/String" "value" "[B")) (.int 3)) (by decide +kernel)
  rcases i with _ | i
  · exact hs (Cond.eq (.length (.field (Term.string "WidowsFundModel" 249) "java/lang/String" "value" "[B")) (.int 3)) (by decide +kernel)
  rcases i with _ | i
  · exact hs (Cond.eq (.length (.field (Term.string "WidowsFundModel" 251) "java/lang/String" "value" "[B")) (.int 6)) (by decide +kernel)
  rcases i with _ | i
  · exact hs (Cond.eq (.length (.field (Term.string "WidowsFundModel" 253) "java/lang/String" "value" "[B")) (.int 4)) (by decide +kernel)
  rcases i with _ | i
  · exact hs (Cond.eq (.length (.field (Term.string "WidowsFundModel" 255) "java/lang/String" "value" "[B")) (.int 5)) (by decide +kernel)
  rcases i with _ | i
  · exact hs (Cond.eq (.length (.field (Term.string "WidowsFundModel" 257) "java/lang/String" "value" "[B")) (.int 3)) (by decide +kernel)
  rcases i with _ | i
  · exact hs (Cond.eq (.length (.field (Term.string "WidowsFundModel" 259) "java/lang/String" "value" "[B")) (.int 4)) (by decide +kernel)
  rcases i with _ | i
  · exact hs (Cond.eq (.length (.field (Term.string "WidowsFundModel" 263) "java/lang/String" "value" "[B")) (.int 4)) (by decide +kernel)
  rcases i with _ | i
  · exact hs (Cond.eq (.length (.field (Term.string "WidowsFundModel" 265) "java/lang/String" "value" "[B")) (.int 5)) (by decide +kernel)
  rcases i with _ | i
  · exact hs (Cond.eq (.length (.field (Term.string "WidowsFundModel" 267) "java/lang/String" "value" "[B")) (.int 3)) (by decide +kernel)
  rcases i with _ | i
  · exact hs (Cond.eq (.length (.field (Term.string "WidowsFundModel" 269) "java/lang/String" "value" "[B")) (.int 5)) (by decide +kernel)
  rcases i with _ | i
  · exact hs (Cond.eq (.length (.field (Term.string "WidowsFundModel" 271) "java/lang/String" "value" "[B")) (.int 4)) (by decide +kernel)
  omega
theorem sb_el (hs : ∀ c ∈ flatC (Jvm.Cond.and given_1 narrow_1), c.before args s = true) : ∀ i : Nat, i < 20 → ∀ j : Nat, j < strLen.getD i 0 → (Cond.eq (.elem (.field (strTm i) "java/lang/String" "value" "[B") (.int (Int32.ofNat j))) (.int ((strByt.getD i []).getD j 0))).before args s = true := by
  intro i hi
  rcases i with _ | i
  · intro j hj
    have hj : j < 6 := hj
    rcases j with _ | j
    · exact hs (Cond.eq (.elem (.field (Term.string "WidowsFund$Tape" 34) "java/lang/String" "value" "[B") (.int 0)) (.int 98)) (by decide +kernel)
    rcases j with _ | j
    · exact hs (Cond.eq (.elem (.field (Term.string "WidowsFund$Tape" 34) "java/lang/String" "value" "[B") (.int 1)) (.int 101)) (by decide +kernel)
    rcases j with _ | j
    · exact hs (Cond.eq (.elem (.field (Term.string "WidowsFund$Tape" 34) "java/lang/String" "value" "[B") (.int 2)) (.int 103)) (by decide +kernel)
    rcases j with _ | j
    · exact hs (Cond.eq (.elem (.field (Term.string "WidowsFund$Tape" 34) "java/lang/String" "value" "[B") (.int 3)) (.int 117)) (by decide +kernel)
    rcases j with _ | j
    · exact hs (Cond.eq (.elem (.field (Term.string "WidowsFund$Tape" 34) "java/lang/String" "value" "[B") (.int 4)) (.int 110)) (by decide +kernel)
    rcases j with _ | j
    · exact hs (Cond.eq (.elem (.field (Term.string "WidowsFund$Tape" 34) "java/lang/String" "value" "[B") (.int 5)) (.int 59)) (by decide +kernel)
    omega
  rcases i with _ | i
  · intro j hj
    have hj : j < 44 := hj
    rcases j with _ | j
    · exact hs (Cond.eq (.elem (.field (Term.string "WidowsFund$Tape" 60) "java/lang/String" "value" "[B") (.int 0)) (.int 100)) (by decide +kernel)
    rcases j with _ | j
    · exact hs (Cond.eq (.elem (.field (Term.string "WidowsFund$Tape" 60) "java/lang/String" "value" "[B") (.int 1)) (.int 117)) (by decide +kernel)
    rcases j with _ | j
    · exact hs (Cond.eq (.elem (.field (Term.string "WidowsFund$Tape" 60) "java/lang/String" "value" "[B") (.int 2)) (.int 101)) (by decide +kernel)
    rcases j with _ | j
    · exact hs (Cond.eq (.elem (.field (Term.string "WidowsFund$Tape" 60) "java/lang/String" "value" "[B") (.int 3)) (.int 32)) (by decide +kernel)
    rcases j with _ | j
    · exact hs (Cond.eq (.elem (.field (Term.string "WidowsFund$Tape" 60) "java/lang/String" "value" "[B") (.int 4)) (.int 114)) (by decide +kernel)
    rcases j with _ | j
    · exact hs (Cond.eq (.elem (.field (Term.string "WidowsFund$Tape" 60) "java/lang/String" "value" "[B") (.int 5)) (.int 101)) (by decide +kernel)
    rcases j with _ | j
    · exact hs (Cond.eq (.elem (.field (Term.string "WidowsFund$Tape" 60) "java/lang/String" "value" "[B") (.int 6)) (.int 110)) (by decide +kernel)
    rcases j with _ | j
    · exact hs (Cond.eq (.elem (.field (Term.string "WidowsFund$Tape" 60) "java/lang/String" "value" "[B") (.int 7)) (.int 116)) (by decide +kernel)
    rcases j with _ | j
    · exact hs (Cond.eq (.elem (.field (Term.string "WidowsFund$Tape" 60) "java/lang/String" "value" "[B") (.int 8)) (.int 32)) (by decide +kernel)
    rcases j with _ | j
    · exact hs (Cond.eq (.elem (.field (Term.string "WidowsFund$Tape" 60) "java/lang/String" "value" "[B") (.int 9)) (.int 115)) (by decide +kernel)
    rcases j with _ | j
    · exact hs (Cond.eq (.elem (.field (Term.string "WidowsFund$Tape" 60) "java/lang/String" "value" "[B") (.int 10)) (.int 117)) (by decide +kernel)
    rcases j with _ | j
    · exact hs (Cond.eq (.elem (.field (Term.string "WidowsFund$Tape" 60) "java/lang/String" "value" "[B") (.int 11)) (.int 109)) (by decide +kernel)
    rcases j with _ | j
    · exact hs (Cond.eq (.elem (.field (Term.string "WidowsFund$Tape" 60) "java/lang/String" "value" "[B") (.int 12)) (.int 32)) (by decide +kernel)
    rcases j with _ | j
    · exact hs (Cond.eq (.elem (.field (Term.string "WidowsFund$Tape" 60) "java/lang/String" "value" "[B") (.int 13)) (.int 116)) (by decide +kernel)
    rcases j with _ | j
    · exact hs (Cond.eq (.elem (.field (Term.string "WidowsFund$Tape" 60) "java/lang/String" "value" "[B") (.int 14)) (.int 97)) (by decide +kernel)
    rcases j with _ | j
    · exact hs (Cond.eq (.elem (.field (Term.string "WidowsFund$Tape" 60) "java/lang/String" "value" "[B") (.int 15)) (.int 120)) (by decide +kernel)
    rcases j with _ | j
    · exact hs (Cond.eq (.elem (.field (Term.string "WidowsFund$Tape" 60) "java/lang/String" "value" "[B") (.int 16)) (.int 32)) (by decide +kernel)
    rcases j with _ | j
    · exact hs (Cond.eq (.elem (.field (Term.string "WidowsFund$Tape" 60) "java/lang/String" "value" "[B") (.int 17)) (.int 118)) (by decide +kernel)
    rcases j with _ | j
    · exact hs (Cond.eq (.elem (.field (Term.string "WidowsFund$Tape" 60) "java/lang/String" "value" "[B") (.int 18)) (.int 97)) (by decide +kernel)
    rcases j with _ | j
    · exact hs (Cond.eq (.elem (.field (Term.string "WidowsFund$Tape" 60) "java/lang/String" "value" "[B") (.int 19)) (.int 99)) (by decide +kernel)
    rcases j with _ | j
    · exact hs (Cond.eq (.elem (.field (Term.string "WidowsFund$Tape" 60) "java/lang/String" "value" "[B") (.int 20)) (.int 97)) (by decide +kernel)
    rcases j with _ | j
    · exact hs (Cond.eq (.elem (.field (Term.string "WidowsFund$Tape" 60) "java/lang/String" "value" "[B") (.int 21)) (.int 110)) (by decide +kernel)
    rcases j with _ | j
    · exact hs (Cond.eq (.elem (.field (Term.string "WidowsFund$Tape" 60) "java/lang/String" "value" "[B") (.int 22)) (.int 116)) (by decide +kernel)
    rcases j with _ | j
    · exact hs (Cond.eq (.elem (.field (Term.string "WidowsFund$Tape" 60) "java/lang/String" "value" "[B") (.int 23)) (.int 32)) (by decide +kernel)
    rcases j with _ | j
    · exact hs (Cond.eq (.elem (.field (Term.string "WidowsFund$Tape" 60) "java/lang/String" "value" "[B") (.int 24)) (.int 102)) (by decide +kernel)
    rcases j with _ | j
    · exact hs (Cond.eq (.elem (.field (Term.string "WidowsFund$Tape" 60) "java/lang/String" "value" "[B") (.int 25)) (.int 105)) (by decide +kernel)
    rcases j with _ | j
    · exact hs (Cond.eq (.elem (.field (Term.string "WidowsFund$Tape" 60) "java/lang/String" "value" "[B") (.int 26)) (.int 110)) (by decide +kernel)
    rcases j with _ | j
    · exact hs (Cond.eq (.elem (.field (Term.string "WidowsFund$Tape" 60) "java/lang/String" "value" "[B") (.int 27)) (.int 101)) (by decide +kernel)
    rcases j with _ | j
    · exact hs (Cond.eq (.elem (.field (Term.string "WidowsFund$Tape" 60) "java/lang/String" "value" "[B") (.int 28)) (.int 32)) (by decide +kernel)
    rcases j with _ | j
    · exact hs (Cond.eq (.elem (.field (Term.string "WidowsFund$Tape" 60) "java/lang/String" "value" "[B") (.int 29)) (.int 107)) (by decide +kernel)
    rcases j with _ | j
    · exact hs (Cond.eq (.elem (.field (Term.string "WidowsFund$Tape" 60) "java/lang/String" "value" "[B") (.int 30)) (.int 101)) (by decide +kernel)
    rcases j with _ | j
    · exact hs (Cond.eq (.elem (.field (Term.string "WidowsFund$Tape" 60) "java/lang/String" "value" "[B") (.int 31)) (.int 101)) (by decide +kernel)
    rcases j with _ | j
    · exact hs (Cond.eq (.elem (.field (Term.string "WidowsFund$Tape" 60) "java/lang/String" "value" "[B") (.int 32)) (.int 112)) (by decide +kernel)
    rcases j with _ | j
    · exact hs (Cond.eq (.elem (.field (Term.string "WidowsFund$Tape" 60) "java/lang/String" "value" "[B") (.int 33)) (.int 115)) (by decide +kernel)
    rcases j with _ | j
    · exact hs (Cond.eq (.elem (.field (Term.string "WidowsFund$Tape" 60) "java/lang/String" "value" "[B") (.int 34)) (.int 32)) (by decide +kernel)
    rcases j with _ | j
    · exact hs (Cond.eq (.elem (.field (Term.string "WidowsFund$Tape" 60) "java/lang/String" "value" "[B") (.int 35)) (.int 97)) (by decide +kernel)
    rcases j with _ | j
    · exact hs (Cond.eq (.elem (.field (Term.string "WidowsFund$Tape" 60) "java/lang/String" "value" "[B") (.int 36)) (.int 103)) (by decide +kernel)
    rcases j with _ | j
    · exact hs (Cond.eq (.elem (.field (Term.string "WidowsFund$Tape" 60) "java/lang/String" "value" "[B") (.int 37)) (.int 101)) (by decide +kernel)
    rcases j with _ | j
    · exact hs (Cond.eq (.elem (.field (Term.string "WidowsFund$Tape" 60) "java/lang/String" "value" "[B") (.int 38)) (.int 32)) (by decide +kernel)
    rcases j with _ | j
    · exact hs (Cond.eq (.elem (.field (Term.string "WidowsFund$Tape" 60) "java/lang/String" "value" "[B") (.int 39)) (.int 108)) (by decide +kernel)
    rcases j with _ | j
    · exact hs (Cond.eq (.elem (.field (Term.string "WidowsFund$Tape" 60) "java/lang/String" "value" "[B") (.int 40)) (.int 97)) (by decide +kernel)
    rcases j with _ | j
    · exact hs (Cond.eq (.elem (.field (Term.string "WidowsFund$Tape" 60) "java/lang/String" "value" "[B") (.int 41)) (.int 116)) (by decide +kernel)
    rcases j with _ | j
    · exact hs (Cond.eq (.elem (.field (Term.string "WidowsFund$Tape" 60) "java/lang/String" "value" "[B") (.int 42)) (.int 101)) (by decide +kernel)
    rcases j with _ | j
    · exact hs (Cond.eq (.elem (.field (Term.string "WidowsFund$Tape" 60) "java/lang/String" "value" "[B") (.int 43)) (.int 32)) (by decide +kernel)
    omega
  rcases i with _ | i
  · intro j hj
    have hj : j < 1 := hj
    rcases j with _ | j
    · exact hs (Cond.eq (.elem (.field (Term.string "WidowsFund$Tape" 66) "java/lang/String" "value" "[B") (.int 0)) (.int 61)) (by decide +kernel)
    omega
  rcases i with _ | i
  · intro j hj
    have hj : j < 26 := hj
    rcases j with _ | j
    · exact hs (Cond.eq (.elem (.field (Term.string "WidowsFund$Tape" 119) "java/lang/String" "value" "[B") (.int 0)) (.int 114)) (by decide +kernel)
    rcases j with _ | j
    · exact hs (Cond.eq (.elem (.field (Term.string "WidowsFund$Tape" 119) "java/lang/String" "value" "[B") (.int 1)) (.int 97)) (by decide +kernel)
    rcases j with _ | j
    · exact hs (Cond.eq (.elem (.field (Term.string "WidowsFund$Tape" 119) "java/lang/String" "value" "[B") (.int 2)) (.int 116)) (by decide +kernel)
    rcases j with _ | j
    · exact hs (Cond.eq (.elem (.field (Term.string "WidowsFund$Tape" 119) "java/lang/String" "value" "[B") (.int 3)) (.int 101)) (by decide +kernel)
    rcases j with _ | j
    · exact hs (Cond.eq (.elem (.field (Term.string "WidowsFund$Tape" 119) "java/lang/String" "value" "[B") (.int 4)) (.int 32)) (by decide +kernel)
    rcases j with _ | j
    · exact hs (Cond.eq (.elem (.field (Term.string "WidowsFund$Tape" 119) "java/lang/String" "value" "[B") (.int 5)) (.int 121)) (by decide +kernel)
    rcases j with _ | j
    · exact hs (Cond.eq (.elem (.field (Term.string "WidowsFund$Tape" 119) "java/lang/String" "value" "[B") (.int 6)) (.int 101)) (by decide +kernel)
    rcases j with _ | j
    · exact hs (Cond.eq (.elem (.field (Term.string "WidowsFund$Tape" 119) "java/lang/String" "value" "[B") (.int 7)) (.int 97)) (by decide +kernel)
    rcases j with _ | j
    · exact hs (Cond.eq (.elem (.field (Term.string "WidowsFund$Tape" 119) "java/lang/String" "value" "[B") (.int 8)) (.int 114)) (by decide +kernel)
    rcases j with _ | j
    · exact hs (Cond.eq (.elem (.field (Term.string "WidowsFund$Tape" 119) "java/lang/String" "value" "[B") (.int 9)) (.int 115)) (by decide +kernel)
    rcases j with _ | j
    · exact hs (Cond.eq (.elem (.field (Term.string "WidowsFund$Tape" 119) "java/lang/String" "value" "[B") (.int 10)) (.int 32)) (by decide +kernel)
    rcases j with _ | j
    · exact hs (Cond.eq (.elem (.field (Term.string "WidowsFund$Tape" 119) "java/lang/String" "value" "[B") (.int 11)) (.int 111)) (by decide +kernel)
    rcases j with _ | j
    · exact hs (Cond.eq (.elem (.field (Term.string "WidowsFund$Tape" 119) "java/lang/String" "value" "[B") (.int 12)) (.int 108)) (by decide +kernel)
    rcases j with _ | j
    · exact hs (Cond.eq (.elem (.field (Term.string "WidowsFund$Tape" 119) "java/lang/String" "value" "[B") (.int 13)) (.int 100)) (by decide +kernel)
    rcases j with _ | j
    · exact hs (Cond.eq (.elem (.field (Term.string "WidowsFund$Tape" 119) "java/lang/String" "value" "[B") (.int 14)) (.int 32)) (by decide +kernel)
    rcases j with _ | j
    · exact hs (Cond.eq (.elem (.field (Term.string "WidowsFund$Tape" 119) "java/lang/String" "value" "[B") (.int 15)) (.int 119)) (by decide +kernel)
    rcases j with _ | j
    · exact hs (Cond.eq (.elem (.field (Term.string "WidowsFund$Tape" 119) "java/lang/String" "value" "[B") (.int 16)) (.int 105)) (by decide +kernel)
    rcases j with _ | j
    · exact hs (Cond.eq (.elem (.field (Term.string "WidowsFund$Tape" 119) "java/lang/String" "value" "[B") (.int 17)) (.int 118)) (by decide +kernel)
    rcases j with _ | j
    · exact hs (Cond.eq (.elem (.field (Term.string "WidowsFund$Tape" 119) "java/lang/String" "value" "[B") (.int 18)) (.int 101)) (by decide +kernel)
    rcases j with _ | j
    · exact hs (Cond.eq (.elem (.field (Term.string "WidowsFund$Tape" 119) "java/lang/String" "value" "[B") (.int 19)) (.int 115)) (by decide +kernel)
    rcases j with _ | j
    · exact hs (Cond.eq (.elem (.field (Term.string "WidowsFund$Tape" 119) "java/lang/String" "value" "[B") (.int 20)) (.int 32)) (by decide +kernel)
    rcases j with _ | j
    · exact hs (Cond.eq (.elem (.field (Term.string "WidowsFund$Tape" 119) "java/lang/String" "value" "[B") (.int 21)) (.int 121)) (by decide +kernel)
    rcases j with _ | j
    · exact hs (Cond.eq (.elem (.field (Term.string "WidowsFund$Tape" 119) "java/lang/String" "value" "[B") (.int 22)) (.int 101)) (by decide +kernel)
    rcases j with _ | j
    · exact hs (Cond.eq (.elem (.field (Term.string "WidowsFund$Tape" 119) "java/lang/String" "value" "[B") (.int 23)) (.int 97)) (by decide +kernel)
    rcases j with _ | j
    · exact hs (Cond.eq (.elem (.field (Term.string "WidowsFund$Tape" 119) "java/lang/String" "value" "[B") (.int 24)) (.int 114)) (by decide +kernel)
    rcases j with _ | j
    · exact hs (Cond.eq (.elem (.field (Term.string "WidowsFund$Tape" 119) "java/lang/String" "value" "[B") (.int 25)) (.int 32)) (by decide +kernel)
    omega
  rcases i with _ | i
  · intro j hj
    have hj : j < 4 := hj
    rcases j with _ | j
    · exact hs (Cond.eq (.elem (.field (Term.string "WidowsFund$Tape" 81) "java/lang/String" "value" "[B") (.int 0)) (.int 32)) (by decide +kernel)
    rcases j with _ | j
    · exact hs (Cond.eq (.elem (.field (Term.string "WidowsFund$Tape" 81) "java/lang/String" "value" "[B") (.int 1)) (.int 105)) (by decide +kernel)
    rcases j with _ | j
    · exact hs (Cond.eq (.elem (.field (Term.string "WidowsFund$Tape" 81) "java/lang/String" "value" "[B") (.int 2)) (.int 102)) (by decide +kernel)
    rcases j with _ | j
    · exact hs (Cond.eq (.elem (.field (Term.string "WidowsFund$Tape" 81) "java/lang/String" "value" "[B") (.int 3)) (.int 32)) (by decide +kernel)
    omega
  rcases i with _ | i
  · intro j hj
    have hj : j < 5 := hj
    rcases j with _ | j
    · exact hs (Cond.eq (.elem (.field (Term.string "WidowsFund$Tape" 83) "java/lang/String" "value" "[B") (.int 0)) (.int 32)) (by decide +kernel)
    rcases j with _ | j
    · exact hs (Cond.eq (.elem (.field (Term.string "WidowsFund$Tape" 83) "java/lang/String" "value" "[B") (.int 1)) (.int 97)) (by decide +kernel)
    rcases j with _ | j
    · exact hs (Cond.eq (.elem (.field (Term.string "WidowsFund$Tape" 83) "java/lang/String" "value" "[B") (.int 2)) (.int 110)) (by decide +kernel)
    rcases j with _ | j
    · exact hs (Cond.eq (.elem (.field (Term.string "WidowsFund$Tape" 83) "java/lang/String" "value" "[B") (.int 3)) (.int 100)) (by decide +kernel)
    rcases j with _ | j
    · exact hs (Cond.eq (.elem (.field (Term.string "WidowsFund$Tape" 83) "java/lang/String" "value" "[B") (.int 4)) (.int 32)) (by decide +kernel)
    omega
  rcases i with _ | i
  · intro j hj
    have hj : j < 3 := hj
    rcases j with _ | j
    · exact hs (Cond.eq (.elem (.field (Term.string "WidowsFundModel" 243) "java/lang/String" "value" "[B") (.int 0)) (.int 100)) (by decide +kernel)
    rcases j with _ | j
    · exact hs (Cond.eq (.elem (.field (Term.string "WidowsFundModel" 243) "java/lang/String" "value" "[B") (.int 1)) (.int 117)) (by decide +kernel)
    rcases j with _ | j
    · exact hs (Cond.eq (.elem (.field (Term.string "WidowsFundModel" 243) "java/lang/String" "value" "[B") (.int 2)) (.int 101)) (by decide +kernel)
    omega
  rcases i with _ | i
  · intro j hj
    have hj : j < 4 := hj
    rcases j with _ | j
    · exact hs (Cond.eq (.elem (.field (Term.string "WidowsFundModel" 245) "java/lang/String" "value" "[B") (.int 0)) (.int 114)) (by decide +kernel)
    rcases j with _ | j
    · exact hs (Cond.eq (.elem (.field (Term.string "WidowsFundModel" 245) "java/lang/String" "value" "[B") (.int 1)) (.int 101)) (by decide +kernel)
    rcases j with _ | j
    · exact hs (Cond.eq (.elem (.field (Term.string "WidowsFundModel" 245) "java/lang/String" "value" "[B") (.int 2)) (.int 110)) (by decide +kernel)
    rcases j with _ | j
    · exact hs (Cond.eq (.elem (.field (Term.string "WidowsFundModel" 245) "java/lang/String" "value" "[B") (.int 3)) (.int 116)) (by decide +kernel)
    omega
  rcases i with _ | i
  · intro j hj
    have hj : j < 3 := hj
    rcases j with _ | j
    · exact hs (Cond.eq (.elem (.field (Term.string "WidowsFundModel" 247) "java/lang/String" "value" "[B") (.int 0)) (.int 115)) (by decide +kernel)
    rcases j with _ | j
    · exact hs (Cond.eq (.elem (.field (Term.string "WidowsFundModel" 247) "java/lang/String" "value" "[B") (.int 1)) (.int 117)) (by decide +kernel)
    rcases j with _ | j
    · exact hs (Cond.eq (.elem (.field (Term.string "WidowsFundModel" 247) "java/lang/String" "value" "[B") (.int 2)) (.int 109)) (by decide +kernel)
    omega
  rcases i with _ | i
  · intro j hj
    have hj : j < 3 := hj
    rcases j with _ | j
    · exact hs (Cond.eq (.elem (.field (Term.string "WidowsFundModel" 249) "java/lang/String" "value" "[B") (.int 0)) (.int 116)) (by decide +kernel)
    rcases j with _ | j
    · exact hs (Cond.eq (.elem (.field (Term.string "WidowsFundModel" 249) "java/lang/String" "value" "[B") (.int 1)) (.int 97)) (by decide +kernel)
    rcases j with _ | j
    · exact hs (Cond.eq (.elem (.field (Term.string "WidowsFundModel" 249) "java/lang/String" "value" "[B") (.int 2)) (.int 120)) (by decide +kernel)
    omega
  rcases i with _ | i
  · intro j hj
    have hj : j < 6 := hj
    rcases j with _ | j
    · exact hs (Cond.eq (.elem (.field (Term.string "WidowsFundModel" 251) "java/lang/String" "value" "[B") (.int 0)) (.int 118)) (by decide +kernel)
    rcases j with _ | j
    · exact hs (Cond.eq (.elem (.field (Term.string "WidowsFundModel" 251) "java/lang/String" "value" "[B") (.int 1)) (.int 97)) (by decide +kernel)
    rcases j with _ | j
    · exact hs (Cond.eq (.elem (.field (Term.string "WidowsFundModel" 251) "java/lang/String" "value" "[B") (.int 2)) (.int 99)) (by decide +kernel)
    rcases j with _ | j
    · exact hs (Cond.eq (.elem (.field (Term.string "WidowsFundModel" 251) "java/lang/String" "value" "[B") (.int 3)) (.int 97)) (by decide +kernel)
    rcases j with _ | j
    · exact hs (Cond.eq (.elem (.field (Term.string "WidowsFundModel" 251) "java/lang/String" "value" "[B") (.int 4)) (.int 110)) (by decide +kernel)
    rcases j with _ | j
    · exact hs (Cond.eq (.elem (.field (Term.string "WidowsFundModel" 251) "java/lang/String" "value" "[B") (.int 5)) (.int 116)) (by decide +kernel)
    omega
  rcases i with _ | i
  · intro j hj
    have hj : j < 4 := hj
    rcases j with _ | j
    · exact hs (Cond.eq (.elem (.field (Term.string "WidowsFundModel" 253) "java/lang/String" "value" "[B") (.int 0)) (.int 102)) (by decide +kernel)
    rcases j with _ | j
    · exact hs (Cond.eq (.elem (.field (Term.string "WidowsFundModel" 253) "java/lang/String" "value" "[B") (.int 1)) (.int 105)) (by decide +kernel)
    rcases j with _ | j
    · exact hs (Cond.eq (.elem (.field (Term.string "WidowsFundModel" 253) "java/lang/String" "value" "[B") (.int 2)) (.int 110)) (by decide +kernel)
    rcases j with _ | j
    · exact hs (Cond.eq (.elem (.field (Term.string "WidowsFundModel" 253) "java/lang/String" "value" "[B") (.int 3)) (.int 101)) (by decide +kernel)
    omega
  rcases i with _ | i
  · intro j hj
    have hj : j < 5 := hj
    rcases j with _ | j
    · exact hs (Cond.eq (.elem (.field (Term.string "WidowsFundModel" 255) "java/lang/String" "value" "[B") (.int 0)) (.int 107)) (by decide +kernel)
    rcases j with _ | j
    · exact hs (Cond.eq (.elem (.field (Term.string "WidowsFundModel" 255) "java/lang/String" "value" "[B") (.int 1)) (.int 101)) (by decide +kernel)
    rcases j with _ | j
    · exact hs (Cond.eq (.elem (.field (Term.string "WidowsFundModel" 255) "java/lang/String" "value" "[B") (.int 2)) (.int 101)) (by decide +kernel)
    rcases j with _ | j
    · exact hs (Cond.eq (.elem (.field (Term.string "WidowsFundModel" 255) "java/lang/String" "value" "[B") (.int 3)) (.int 112)) (by decide +kernel)
    rcases j with _ | j
    · exact hs (Cond.eq (.elem (.field (Term.string "WidowsFundModel" 255) "java/lang/String" "value" "[B") (.int 4)) (.int 115)) (by decide +kernel)
    omega
  rcases i with _ | i
  · intro j hj
    have hj : j < 3 := hj
    rcases j with _ | j
    · exact hs (Cond.eq (.elem (.field (Term.string "WidowsFundModel" 257) "java/lang/String" "value" "[B") (.int 0)) (.int 97)) (by decide +kernel)
    rcases j with _ | j
    · exact hs (Cond.eq (.elem (.field (Term.string "WidowsFundModel" 257) "java/lang/String" "value" "[B") (.int 1)) (.int 103)) (by decide +kernel)
    rcases j with _ | j
    · exact hs (Cond.eq (.elem (.field (Term.string "WidowsFundModel" 257) "java/lang/String" "value" "[B") (.int 2)) (.int 101)) (by decide +kernel)
    omega
  rcases i with _ | i
  · intro j hj
    have hj : j < 4 := hj
    rcases j with _ | j
    · exact hs (Cond.eq (.elem (.field (Term.string "WidowsFundModel" 259) "java/lang/String" "value" "[B") (.int 0)) (.int 108)) (by decide +kernel)
    rcases j with _ | j
    · exact hs (Cond.eq (.elem (.field (Term.string "WidowsFundModel" 259) "java/lang/String" "value" "[B") (.int 1)) (.int 97)) (by decide +kernel)
    rcases j with _ | j
    · exact hs (Cond.eq (.elem (.field (Term.string "WidowsFundModel" 259) "java/lang/String" "value" "[B") (.int 2)) (.int 116)) (by decide +kernel)
    rcases j with _ | j
    · exact hs (Cond.eq (.elem (.field (Term.string "WidowsFundModel" 259) "java/lang/String" "value" "[B") (.int 3)) (.int 101)) (by decide +kernel)
    omega
  rcases i with _ | i
  · intro j hj
    have hj : j < 4 := hj
    rcases j with _ | j
    · exact hs (Cond.eq (.elem (.field (Term.string "WidowsFundModel" 263) "java/lang/String" "value" "[B") (.int 0)) (.int 114)) (by decide +kernel)
    rcases j with _ | j
    · exact hs (Cond.eq (.elem (.field (Term.string "WidowsFundModel" 263) "java/lang/String" "value" "[B") (.int 1)) (.int 97)) (by decide +kernel)
    rcases j with _ | j
    · exact hs (Cond.eq (.elem (.field (Term.string "WidowsFundModel" 263) "java/lang/String" "value" "[B") (.int 2)) (.int 116)) (by decide +kernel)
    rcases j with _ | j
    · exact hs (Cond.eq (.elem (.field (Term.string "WidowsFundModel" 263) "java/lang/String" "value" "[B") (.int 3)) (.int 101)) (by decide +kernel)
    omega
  rcases i with _ | i
  · intro j hj
    have hj : j < 5 := hj
    rcases j with _ | j
    · exact hs (Cond.eq (.elem (.field (Term.string "WidowsFundModel" 265) "java/lang/String" "value" "[B") (.int 0)) (.int 121)) (by decide +kernel)
    rcases j with _ | j
    · exact hs (Cond.eq (.elem (.field (Term.string "WidowsFundModel" 265) "java/lang/String" "value" "[B") (.int 1)) (.int 101)) (by decide +kernel)
    rcases j with _ | j
    · exact hs (Cond.eq (.elem (.field (Term.string "WidowsFundModel" 265) "java/lang/String" "value" "[B") (.int 2)) (.int 97)) (by decide +kernel)
    rcases j with _ | j
    · exact hs (Cond.eq (.elem (.field (Term.string "WidowsFundModel" 265) "java/lang/String" "value" "[B") (.int 3)) (.int 114)) (by decide +kernel)
    rcases j with _ | j
    · exact hs (Cond.eq (.elem (.field (Term.string "WidowsFundModel" 265) "java/lang/String" "value" "[B") (.int 4)) (.int 115)) (by decide +kernel)
    omega
  rcases i with _ | i
  · intro j hj
    have hj : j < 3 := hj
    rcases j with _ | j
    · exact hs (Cond.eq (.elem (.field (Term.string "WidowsFundModel" 267) "java/lang/String" "value" "[B") (.int 0)) (.int 111)) (by decide +kernel)
    rcases j with _ | j
    · exact hs (Cond.eq (.elem (.field (Term.string "WidowsFundModel" 267) "java/lang/String" "value" "[B") (.int 1)) (.int 108)) (by decide +kernel)
    rcases j with _ | j
    · exact hs (Cond.eq (.elem (.field (Term.string "WidowsFundModel" 267) "java/lang/String" "value" "[B") (.int 2)) (.int 100)) (by decide +kernel)
    omega
  rcases i with _ | i
  · intro j hj
    have hj : j < 5 := hj
    rcases j with _ | j
    · exact hs (Cond.eq (.elem (.field (Term.string "WidowsFundModel" 269) "java/lang/String" "value" "[B") (.int 0)) (.int 119)) (by decide +kernel)
    rcases j with _ | j
    · exact hs (Cond.eq (.elem (.field (Term.string "WidowsFundModel" 269) "java/lang/String" "value" "[B") (.int 1)) (.int 105)) (by decide +kernel)
    rcases j with _ | j
    · exact hs (Cond.eq (.elem (.field (Term.string "WidowsFundModel" 269) "java/lang/String" "value" "[B") (.int 2)) (.int 118)) (by decide +kernel)
    rcases j with _ | j
    · exact hs (Cond.eq (.elem (.field (Term.string "WidowsFundModel" 269) "java/lang/String" "value" "[B") (.int 3)) (.int 101)) (by decide +kernel)
    rcases j with _ | j
    · exact hs (Cond.eq (.elem (.field (Term.string "WidowsFundModel" 269) "java/lang/String" "value" "[B") (.int 4)) (.int 115)) (by decide +kernel)
    omega
  rcases i with _ | i
  · intro j hj
    have hj : j < 4 := hj
    rcases j with _ | j
    · exact hs (Cond.eq (.elem (.field (Term.string "WidowsFundModel" 271) "java/lang/String" "value" "[B") (.int 0)) (.int 121)) (by decide +kernel)
    rcases j with _ | j
    · exact hs (Cond.eq (.elem (.field (Term.string "WidowsFundModel" 271) "java/lang/String" "value" "[B") (.int 1)) (.int 101)) (by decide +kernel)
    rcases j with _ | j
    · exact hs (Cond.eq (.elem (.field (Term.string "WidowsFundModel" 271) "java/lang/String" "value" "[B") (.int 2)) (.int 97)) (by decide +kernel)
    rcases j with _ | j
    · exact hs (Cond.eq (.elem (.field (Term.string "WidowsFundModel" 271) "java/lang/String" "value" "[B") (.int 3)) (.int 114)) (by decide +kernel)
    omega
  omega
theorem sb_ne0 (hs : ∀ c ∈ flatC (Jvm.Cond.and given_1 narrow_1), c.before args s = true) : ∀ i : Nat, i < 20 → 0 ≠ i → (Cond.not (Cond.eq (strTm 0) (strTm i))).before args s = true ∨ (Cond.not (Cond.eq (strTm i) (strTm 0))).before args s = true := by
  intro i hi hij
  rcases i with _ | i
  · exact absurd rfl hij
  rcases i with _ | i
  · exact Or.inl (hs (Cond.not (Cond.eq (Term.string "WidowsFund$Tape" 34) (Term.string "WidowsFund$Tape" 60))) (by decide +kernel))
  rcases i with _ | i
  · exact Or.inl (hs (Cond.not (Cond.eq (Term.string "WidowsFund$Tape" 34) (Term.string "WidowsFund$Tape" 66))) (by decide +kernel))
  rcases i with _ | i
  · exact Or.inl (hs (Cond.not (Cond.eq (Term.string "WidowsFund$Tape" 34) (Term.string "WidowsFund$Tape" 119))) (by decide +kernel))
  rcases i with _ | i
  · exact Or.inl (hs (Cond.not (Cond.eq (Term.string "WidowsFund$Tape" 34) (Term.string "WidowsFund$Tape" 81))) (by decide +kernel))
  rcases i with _ | i
  · exact Or.inl (hs (Cond.not (Cond.eq (Term.string "WidowsFund$Tape" 34) (Term.string "WidowsFund$Tape" 83))) (by decide +kernel))
  rcases i with _ | i
  · exact Or.inl (hs (Cond.not (Cond.eq (Term.string "WidowsFund$Tape" 34) (Term.string "WidowsFundModel" 243))) (by decide +kernel))
  rcases i with _ | i
  · exact Or.inl (hs (Cond.not (Cond.eq (Term.string "WidowsFund$Tape" 34) (Term.string "WidowsFundModel" 245))) (by decide +kernel))
  rcases i with _ | i
  · exact Or.inl (hs (Cond.not (Cond.eq (Term.string "WidowsFund$Tape" 34) (Term.string "WidowsFundModel" 247))) (by decide +kernel))
  rcases i with _ | i
  · exact Or.inl (hs (Cond.not (Cond.eq (Term.string "WidowsFund$Tape" 34) (Term.string "WidowsFundModel" 249))) (by decide +kernel))
  rcases i with _ | i
  · exact Or.inl (hs (Cond.not (Cond.eq (Term.string "WidowsFund$Tape" 34) (Term.string "WidowsFundModel" 251))) (by decide +kernel))
  rcases i with _ | i
  · exact Or.inl (hs (Cond.not (Cond.eq (Term.string "WidowsFund$Tape" 34) (Term.string "WidowsFundModel" 253))) (by decide +kernel))
  rcases i with _ | i
  · exact Or.inl (hs (Cond.not (Cond.eq (Term.string "WidowsFund$Tape" 34) (Term.string "WidowsFundModel" 255))) (by decide +kernel))
  rcases i with _ | i
  · exact Or.inl (hs (Cond.not (Cond.eq (Term.string "WidowsFund$Tape" 34) (Term.string "WidowsFundModel" 257))) (by decide +kernel))
  rcases i with _ | i
  · exact Or.inl (hs (Cond.not (Cond.eq (Term.string "WidowsFund$Tape" 34) (Term.string "WidowsFundModel" 259))) (by decide +kernel))
  rcases i with _ | i
  · exact Or.inl (hs (Cond.not (Cond.eq (Term.string "WidowsFund$Tape" 34) (Term.string "WidowsFundModel" 263))) (by decide +kernel))
  rcases i with _ | i
  · exact Or.inl (hs (Cond.not (Cond.eq (Term.string "WidowsFund$Tape" 34) (Term.string "WidowsFundModel" 265))) (by decide +kernel))
  rcases i with _ | i
  · exact Or.inl (hs (Cond.not (Cond.eq (Term.string "WidowsFund$Tape" 34) (Term.string "WidowsFundModel" 267))) (by decide +kernel))
  rcases i with _ | i
  · exact Or.inl (hs (Cond.not (Cond.eq (Term.string "WidowsFund$Tape" 34) (Term.string "WidowsFundModel" 269))) (by decide +kernel))
  rcases i with _ | i
  · exact Or.inl (hs (Cond.not (Cond.eq (Term.string "WidowsFund$Tape" 34) (Term.string "WidowsFundModel" 271))) (by decide +kernel))
  omega
theorem sb_ne1 (hs : ∀ c ∈ flatC (Jvm.Cond.and given_1 narrow_1), c.before args s = true) : ∀ i : Nat, i < 20 → 1 ≠ i → (Cond.not (Cond.eq (strTm 1) (strTm i))).before args s = true ∨ (Cond.not (Cond.eq (strTm i) (strTm 1))).before args s = true := by
  intro i hi hij
  rcases i with _ | i
  · exact Or.inr (hs (Cond.not (Cond.eq (Term.string "WidowsFund$Tape" 34) (Term.string "WidowsFund$Tape" 60))) (by decide +kernel))
  rcases i with _ | i
  · exact absurd rfl hij
  rcases i with _ | i
  · exact Or.inl (hs (Cond.not (Cond.eq (Term.string "WidowsFund$Tape" 60) (Term.string "WidowsFund$Tape" 66))) (by decide +kernel))
  rcases i with _ | i
  · exact Or.inl (hs (Cond.not (Cond.eq (Term.string "WidowsFund$Tape" 60) (Term.string "WidowsFund$Tape" 119))) (by decide +kernel))
  rcases i with _ | i
  · exact Or.inl (hs (Cond.not (Cond.eq (Term.string "WidowsFund$Tape" 60) (Term.string "WidowsFund$Tape" 81))) (by decide +kernel))
  rcases i with _ | i
  · exact Or.inl (hs (Cond.not (Cond.eq (Term.string "WidowsFund$Tape" 60) (Term.string "WidowsFund$Tape" 83))) (by decide +kernel))
  rcases i with _ | i
  · exact Or.inl (hs (Cond.not (Cond.eq (Term.string "WidowsFund$Tape" 60) (Term.string "WidowsFundModel" 243))) (by decide +kernel))
  rcases i with _ | i
  · exact Or.inl (hs (Cond.not (Cond.eq (Term.string "WidowsFund$Tape" 60) (Term.string "WidowsFundModel" 245))) (by decide +kernel))
  rcases i with _ | i
  · exact Or.inl (hs (Cond.not (Cond.eq (Term.string "WidowsFund$Tape" 60) (Term.string "WidowsFundModel" 247))) (by decide +kernel))
  rcases i with _ | i
  · exact Or.inl (hs (Cond.not (Cond.eq (Term.string "WidowsFund$Tape" 60) (Term.string "WidowsFundModel" 249))) (by decide +kernel))
  rcases i with _ | i
  · exact Or.inl (hs (Cond.not (Cond.eq (Term.string "WidowsFund$Tape" 60) (Term.string "WidowsFundModel" 251))) (by decide +kernel))
  rcases i with _ | i
  · exact Or.inl (hs (Cond.not (Cond.eq (Term.string "WidowsFund$Tape" 60) (Term.string "WidowsFundModel" 253))) (by decide +kernel))
  rcases i with _ | i
  · exact Or.inl (hs (Cond.not (Cond.eq (Term.string "WidowsFund$Tape" 60) (Term.string "WidowsFundModel" 255))) (by decide +kernel))
  rcases i with _ | i
  · exact Or.inl (hs (Cond.not (Cond.eq (Term.string "WidowsFund$Tape" 60) (Term.string "WidowsFundModel" 257))) (by decide +kernel))
  rcases i with _ | i
  · exact Or.inl (hs (Cond.not (Cond.eq (Term.string "WidowsFund$Tape" 60) (Term.string "WidowsFundModel" 259))) (by decide +kernel))
  rcases i with _ | i
  · exact Or.inl (hs (Cond.not (Cond.eq (Term.string "WidowsFund$Tape" 60) (Term.string "WidowsFundModel" 263))) (by decide +kernel))
  rcases i with _ | i
  · exact Or.inl (hs (Cond.not (Cond.eq (Term.string "WidowsFund$Tape" 60) (Term.string "WidowsFundModel" 265))) (by decide +kernel))
  rcases i with _ | i
  · exact Or.inl (hs (Cond.not (Cond.eq (Term.string "WidowsFund$Tape" 60) (Term.string "WidowsFundModel" 267))) (by decide +kernel))
  rcases i with _ | i
  · exact Or.inl (hs (Cond.not (Cond.eq (Term.string "WidowsFund$Tape" 60) (Term.string "WidowsFundModel" 269))) (by decide +kernel))
  rcases i with _ | i
  · exact Or.inl (hs (Cond.not (Cond.eq (Term.string "WidowsFund$Tape" 60) (Term.string "WidowsFundModel" 271))) (by decide +kernel))
  omega
theorem sb_ne2 (hs : ∀ c ∈ flatC (Jvm.Cond.and given_1 narrow_1), c.before args s = true) : ∀ i : Nat, i < 20 → 2 ≠ i → (Cond.not (Cond.eq (strTm 2) (strTm i))).before args s = true ∨ (Cond.not (Cond.eq (strTm i) (strTm 2))).before args s = true := by
  intro i hi hij
  rcases i with _ | i
  · exact Or.inr (hs (Cond.not (Cond.eq (Term.string "WidowsFund$Tape" 34) (Term.string "WidowsFund$Tape" 66))) (by decide +kernel))
  rcases i with _ | i
  · exact Or.inr (hs (Cond.not (Cond.eq (Term.string "WidowsFund$Tape" 60) (Term.string "WidowsFund$Tape" 66))) (by decide +kernel))
  rcases i with _ | i
  · exact absurd rfl hij
  rcases i with _ | i
  · exact Or.inl (hs (Cond.not (Cond.eq (Term.string "WidowsFund$Tape" 66) (Term.string "WidowsFund$Tape" 119))) (by decide +kernel))
  rcases i with _ | i
  · exact Or.inl (hs (Cond.not (Cond.eq (Term.string "WidowsFund$Tape" 66) (Term.string "WidowsFund$Tape" 81))) (by decide +kernel))
  rcases i with _ | i
  · exact Or.inl (hs (Cond.not (Cond.eq (Term.string "WidowsFund$Tape" 66) (Term.string "WidowsFund$Tape" 83))) (by decide +kernel))
  rcases i with _ | i
  · exact Or.inl (hs (Cond.not (Cond.eq (Term.string "WidowsFund$Tape" 66) (Term.string "WidowsFundModel" 243))) (by decide +kernel))
  rcases i with _ | i
  · exact Or.inl (hs (Cond.not (Cond.eq (Term.string "WidowsFund$Tape" 66) (Term.string "WidowsFundModel" 245))) (by decide +kernel))
  rcases i with _ | i
  · exact Or.inl (hs (Cond.not (Cond.eq (Term.string "WidowsFund$Tape" 66) (Term.string "WidowsFundModel" 247))) (by decide +kernel))
  rcases i with _ | i
  · exact Or.inl (hs (Cond.not (Cond.eq (Term.string "WidowsFund$Tape" 66) (Term.string "WidowsFundModel" 249))) (by decide +kernel))
  rcases i with _ | i
  · exact Or.inl (hs (Cond.not (Cond.eq (Term.string "WidowsFund$Tape" 66) (Term.string "WidowsFundModel" 251))) (by decide +kernel))
  rcases i with _ | i
  · exact Or.inl (hs (Cond.not (Cond.eq (Term.string "WidowsFund$Tape" 66) (Term.string "WidowsFundModel" 253))) (by decide +kernel))
  rcases i with _ | i
  · exact Or.inl (hs (Cond.not (Cond.eq (Term.string "WidowsFund$Tape" 66) (Term.string "WidowsFundModel" 255))) (by decide +kernel))
  rcases i with _ | i
  · exact Or.inl (hs (Cond.not (Cond.eq (Term.string "WidowsFund$Tape" 66) (Term.string "WidowsFundModel" 257))) (by decide +kernel))
  rcases i with _ | i
  · exact Or.inl (hs (Cond.not (Cond.eq (Term.string "WidowsFund$Tape" 66) (Term.string "WidowsFundModel" 259))) (by decide +kernel))
  rcases i with _ | i
  · exact Or.inl (hs (Cond.not (Cond.eq (Term.string "WidowsFund$Tape" 66) (Term.string "WidowsFundModel" 263))) (by decide +kernel))
  rcases i with _ | i
  · exact Or.inl (hs (Cond.not (Cond.eq (Term.string "WidowsFund$Tape" 66) (Term.string "WidowsFundModel" 265))) (by decide +kernel))
  rcases i with _ | i
  · exact Or.inl (hs (Cond.not (Cond.eq (Term.string "WidowsFund$Tape" 66) (Term.string "WidowsFundModel" 267))) (by decide +kernel))
  rcases i with _ | i
  · exact Or.inl (hs (Cond.not (Cond.eq (Term.string "WidowsFund$Tape" 66) (Term.string "WidowsFundModel" 269))) (by decide +kernel))
  rcases i with _ | i
  · exact Or.inl (hs (Cond.not (Cond.eq (Term.string "WidowsFund$Tape" 66) (Term.string "WidowsFundModel" 271))) (by decide +kernel))
  omega
theorem sb_ne3 (hs : ∀ c ∈ flatC (Jvm.Cond.and given_1 narrow_1), c.before args s = true) : ∀ i : Nat, i < 20 → 3 ≠ i → (Cond.not (Cond.eq (strTm 3) (strTm i))).before args s = true ∨ (Cond.not (Cond.eq (strTm i) (strTm 3))).before args s = true := by
  intro i hi hij
  rcases i with _ | i
  · exact Or.inr (hs (Cond.not (Cond.eq (Term.string "WidowsFund$Tape" 34) (Term.string "WidowsFund$Tape" 119))) (by decide +kernel))
  rcases i with _ | i
  · exact Or.inr (hs (Cond.not (Cond.eq (Term.string "WidowsFund$Tape" 60) (Term.string "WidowsFund$Tape" 119))) (by decide +kernel))
  rcases i with _ | i
  · exact Or.inr (hs (Cond.not (Cond.eq (Term.string "WidowsFund$Tape" 66) (Term.string "WidowsFund$Tape" 119))) (by decide +kernel))
  rcases i with _ | i
  · exact absurd rfl hij
  rcases i with _ | i
  · exact Or.inl (hs (Cond.not (Cond.eq (Term.string "WidowsFund$Tape" 119) (Term.string "WidowsFund$Tape" 81))) (by decide +kernel))
  rcases i with _ | i
  · exact Or.inl (hs (Cond.not (Cond.eq (Term.string "WidowsFund$Tape" 119) (Term.string "WidowsFund$Tape" 83))) (by decide +kernel))
  rcases i with _ | i
  · exact Or.inl (hs (Cond.not (Cond.eq (Term.string "WidowsFund$Tape" 119) (Term.string "WidowsFundModel" 243))) (by decide +kernel))
  rcases i with _ | i
  · exact Or.inl (hs (Cond.not (Cond.eq (Term.string "WidowsFund$Tape" 119) (Term.string "WidowsFundModel" 245))) (by decide +kernel))
  rcases i with _ | i
  · exact Or.inl (hs (Cond.not (Cond.eq (Term.string "WidowsFund$Tape" 119) (Term.string "WidowsFundModel" 247))) (by decide +kernel))
  rcases i with _ | i
  · exact Or.inl (hs (Cond.not (Cond.eq (Term.string "WidowsFund$Tape" 119) (Term.string "WidowsFundModel" 249))) (by decide +kernel))
  rcases i with _ | i
  · exact Or.inl (hs (Cond.not (Cond.eq (Term.string "WidowsFund$Tape" 119) (Term.string "WidowsFundModel" 251))) (by decide +kernel))
  rcases i with _ | i
  · exact Or.inl (hs (Cond.not (Cond.eq (Term.string "WidowsFund$Tape" 119) (Term.string "WidowsFundModel" 253))) (by decide +kernel))
  rcases i with _ | i
  · exact Or.inl (hs (Cond.not (Cond.eq (Term.string "WidowsFund$Tape" 119) (Term.string "WidowsFundModel" 255))) (by decide +kernel))
  rcases i with _ | i
  · exact Or.inl (hs (Cond.not (Cond.eq (Term.string "WidowsFund$Tape" 119) (Term.string "WidowsFundModel" 257))) (by decide +kernel))
  rcases i with _ | i
  · exact Or.inl (hs (Cond.not (Cond.eq (Term.string "WidowsFund$Tape" 119) (Term.string "WidowsFundModel" 259))) (by decide +kernel))
  rcases i with _ | i
  · exact Or.inl (hs (Cond.not (Cond.eq (Term.string "WidowsFund$Tape" 119) (Term.string "WidowsFundModel" 263))) (by decide +kernel))
  rcases i with _ | i
  · exact Or.inl (hs (Cond.not (Cond.eq (Term.string "WidowsFund$Tape" 119) (Term.string "WidowsFundModel" 265))) (by decide +kernel))
  rcases i with _ | i
  · exact Or.inl (hs (Cond.not (Cond.eq (Term.string "WidowsFund$Tape" 119) (Term.string "WidowsFundModel" 267))) (by decide +kernel))
  rcases i with _ | i
  · exact Or.inl (hs (Cond.not (Cond.eq (Term.string "WidowsFund$Tape" 119) (Term.string "WidowsFundModel" 269))) (by decide +kernel))
  rcases i with _ | i
  · exact Or.inl (hs (Cond.not (Cond.eq (Term.string "WidowsFund$Tape" 119) (Term.string "WidowsFundModel" 271))) (by decide +kernel))
  omega
theorem sb_ne4 (hs : ∀ c ∈ flatC (Jvm.Cond.and given_1 narrow_1), c.before args s = true) : ∀ i : Nat, i < 20 → 4 ≠ i → (Cond.not (Cond.eq (strTm 4) (strTm i))).before args s = true ∨ (Cond.not (Cond.eq (strTm i) (strTm 4))).before args s = true := by
  intro i hi hij
  rcases i with _ | i
  · exact Or.inr (hs (Cond.not (Cond.eq (Term.string "WidowsFund$Tape" 34) (Term.string "WidowsFund$Tape" 81))) (by decide +kernel))
  rcases i with _ | i
  · exact Or.inr (hs (Cond.not (Cond.eq (Term.string "WidowsFund$Tape" 60) (Term.string "WidowsFund$Tape" 81))) (by decide +kernel))
  rcases i with _ | i
  · exact Or.inr (hs (Cond.not (Cond.eq (Term.string "WidowsFund$Tape" 66) (Term.string "WidowsFund$Tape" 81))) (by decide +kernel))
  rcases i with _ | i
  · exact Or.inr (hs (Cond.not (Cond.eq (Term.string "WidowsFund$Tape" 119) (Term.string "WidowsFund$Tape" 81))) (by decide +kernel))
  rcases i with _ | i
  · exact absurd rfl hij
  rcases i with _ | i
  · exact Or.inl (hs (Cond.not (Cond.eq (Term.string "WidowsFund$Tape" 81) (Term.string "WidowsFund$Tape" 83))) (by decide +kernel))
  rcases i with _ | i
  · exact Or.inl (hs (Cond.not (Cond.eq (Term.string "WidowsFund$Tape" 81) (Term.string "WidowsFundModel" 243))) (by decide +kernel))
  rcases i with _ | i
  · exact Or.inl (hs (Cond.not (Cond.eq (Term.string "WidowsFund$Tape" 81) (Term.string "WidowsFundModel" 245))) (by decide +kernel))
  rcases i with _ | i
  · exact Or.inl (hs (Cond.not (Cond.eq (Term.string "WidowsFund$Tape" 81) (Term.string "WidowsFundModel" 247))) (by decide +kernel))
  rcases i with _ | i
  · exact Or.inl (hs (Cond.not (Cond.eq (Term.string "WidowsFund$Tape" 81) (Term.string "WidowsFundModel" 249))) (by decide +kernel))
  rcases i with _ | i
  · exact Or.inl (hs (Cond.not (Cond.eq (Term.string "WidowsFund$Tape" 81) (Term.string "WidowsFundModel" 251))) (by decide +kernel))
  rcases i with _ | i
  · exact Or.inl (hs (Cond.not (Cond.eq (Term.string "WidowsFund$Tape" 81) (Term.string "WidowsFundModel" 253))) (by decide +kernel))
  rcases i with _ | i
  · exact Or.inl (hs (Cond.not (Cond.eq (Term.string "WidowsFund$Tape" 81) (Term.string "WidowsFundModel" 255))) (by decide +kernel))
  rcases i with _ | i
  · exact Or.inl (hs (Cond.not (Cond.eq (Term.string "WidowsFund$Tape" 81) (Term.string "WidowsFundModel" 257))) (by decide +kernel))
  rcases i with _ | i
  · exact Or.inl (hs (Cond.not (Cond.eq (Term.string "WidowsFund$Tape" 81) (Term.string "WidowsFundModel" 259))) (by decide +kernel))
  rcases i with _ | i
  · exact Or.inl (hs (Cond.not (Cond.eq (Term.string "WidowsFund$Tape" 81) (Term.string "WidowsFundModel" 263))) (by decide +kernel))
  rcases i with _ | i
  · exact Or.inl (hs (Cond.not (Cond.eq (Term.string "WidowsFund$Tape" 81) (Term.string "WidowsFundModel" 265))) (by decide +kernel))
  rcases i with _ | i
  · exact Or.inl (hs (Cond.not (Cond.eq (Term.string "WidowsFund$Tape" 81) (Term.string "WidowsFundModel" 267))) (by decide +kernel))
  rcases i with _ | i
  · exact Or.inl (hs (Cond.not (Cond.eq (Term.string "WidowsFund$Tape" 81) (Term.string "WidowsFundModel" 269))) (by decide +kernel))
  rcases i with _ | i
  · exact Or.inl (hs (Cond.not (Cond.eq (Term.string "WidowsFund$Tape" 81) (Term.string "WidowsFundModel" 271))) (by decide +kernel))
  omega
theorem sb_ne5 (hs : ∀ c ∈ flatC (Jvm.Cond.and given_1 narrow_1), c.before args s = true) : ∀ i : Nat, i < 20 → 5 ≠ i → (Cond.not (Cond.eq (strTm 5) (strTm i))).before args s = true ∨ (Cond.not (Cond.eq (strTm i) (strTm 5))).before args s = true := by
  intro i hi hij
  rcases i with _ | i
  · exact Or.inr (hs (Cond.not (Cond.eq (Term.string "WidowsFund$Tape" 34) (Term.string "WidowsFund$Tape" 83))) (by decide +kernel))
  rcases i with _ | i
  · exact Or.inr (hs (Cond.not (Cond.eq (Term.string "WidowsFund$Tape" 60) (Term.string "WidowsFund$Tape" 83))) (by decide +kernel))
  rcases i with _ | i
  · exact Or.inr (hs (Cond.not (Cond.eq (Term.string "WidowsFund$Tape" 66) (Term.string "WidowsFund$Tape" 83))) (by decide +kernel))
  rcases i with _ | i
  · exact Or.inr (hs (Cond.not (Cond.eq (Term.string "WidowsFund$Tape" 119) (Term.string "WidowsFund$Tape" 83))) (by decide +kernel))
  rcases i with _ | i
  · exact Or.inr (hs (Cond.not (Cond.eq (Term.string "WidowsFund$Tape" 81) (Term.string "WidowsFund$Tape" 83))) (by decide +kernel))
  rcases i with _ | i
  · exact absurd rfl hij
  rcases i with _ | i
  · exact Or.inl (hs (Cond.not (Cond.eq (Term.string "WidowsFund$Tape" 83) (Term.string "WidowsFundModel" 243))) (by decide +kernel))
  rcases i with _ | i
  · exact Or.inl (hs (Cond.not (Cond.eq (Term.string "WidowsFund$Tape" 83) (Term.string "WidowsFundModel" 245))) (by decide +kernel))
  rcases i with _ | i
  · exact Or.inl (hs (Cond.not (Cond.eq (Term.string "WidowsFund$Tape" 83) (Term.string "WidowsFundModel" 247))) (by decide +kernel))
  rcases i with _ | i
  · exact Or.inl (hs (Cond.not (Cond.eq (Term.string "WidowsFund$Tape" 83) (Term.string "WidowsFundModel" 249))) (by decide +kernel))
  rcases i with _ | i
  · exact Or.inl (hs (Cond.not (Cond.eq (Term.string "WidowsFund$Tape" 83) (Term.string "WidowsFundModel" 251))) (by decide +kernel))
  rcases i with _ | i
  · exact Or.inl (hs (Cond.not (Cond.eq (Term.string "WidowsFund$Tape" 83) (Term.string "WidowsFundModel" 253))) (by decide +kernel))
  rcases i with _ | i
  · exact Or.inl (hs (Cond.not (Cond.eq (Term.string "WidowsFund$Tape" 83) (Term.string "WidowsFundModel" 255))) (by decide +kernel))
  rcases i with _ | i
  · exact Or.inl (hs (Cond.not (Cond.eq (Term.string "WidowsFund$Tape" 83) (Term.string "WidowsFundModel" 257))) (by decide +kernel))
  rcases i with _ | i
  · exact Or.inl (hs (Cond.not (Cond.eq (Term.string "WidowsFund$Tape" 83) (Term.string "WidowsFundModel" 259))) (by decide +kernel))
  rcases i with _ | i
  · exact Or.inl (hs (Cond.not (Cond.eq (Term.string "WidowsFund$Tape" 83) (Term.string "WidowsFundModel" 263))) (by decide +kernel))
  rcases i with _ | i
  · exact Or.inl (hs (Cond.not (Cond.eq (Term.string "WidowsFund$Tape" 83) (Term.string "WidowsFundModel" 265))) (by decide +kernel))
  rcases i with _ | i
  · exact Or.inl (hs (Cond.not (Cond.eq (Term.string "WidowsFund$Tape" 83) (Term.string "WidowsFundModel" 267))) (by decide +kernel))
  rcases i with _ | i
  · exact Or.inl (hs (Cond.not (Cond.eq (Term.string "WidowsFund$Tape" 83) (Term.string "WidowsFundModel" 269))) (by decide +kernel))
  rcases i with _ | i
  · exact Or.inl (hs (Cond.not (Cond.eq (Term.string "WidowsFund$Tape" 83) (Term.string "WidowsFundModel" 271))) (by decide +kernel))
  omega
theorem sb_ne6 (hs : ∀ c ∈ flatC (Jvm.Cond.and given_1 narrow_1), c.before args s = true) : ∀ i : Nat, i < 20 → 6 ≠ i → (Cond.not (Cond.eq (strTm 6) (strTm i))).before args s = true ∨ (Cond.not (Cond.eq (strTm i) (strTm 6))).before args s = true := by
  intro i hi hij
  rcases i with _ | i
  · exact Or.inr (hs (Cond.not (Cond.eq (Term.string "WidowsFund$Tape" 34) (Term.string "WidowsFundModel" 243))) (by decide +kernel))
  rcases i with _ | i
  · exact Or.inr (hs (Cond.not (Cond.eq (Term.string "WidowsFund$Tape" 60) (Term.string "WidowsFundModel" 243))) (by decide +kernel))
  rcases i with _ | i
  · exact Or.inr (hs (Cond.not (Cond.eq (Term.string "WidowsFund$Tape" 66) (Term.string "WidowsFundModel" 243))) (by decide +kernel))
  rcases i with _ | i
  · exact Or.inr (hs (Cond.not (Cond.eq (Term.string "WidowsFund$Tape" 119) (Term.string "WidowsFundModel" 243))) (by decide +kernel))
  rcases i with _ | i
  · exact Or.inr (hs (Cond.not (Cond.eq (Term.string "WidowsFund$Tape" 81) (Term.string "WidowsFundModel" 243))) (by decide +kernel))
  rcases i with _ | i
  · exact Or.inr (hs (Cond.not (Cond.eq (Term.string "WidowsFund$Tape" 83) (Term.string "WidowsFundModel" 243))) (by decide +kernel))
  rcases i with _ | i
  · exact absurd rfl hij
  rcases i with _ | i
  · exact Or.inl (hs (Cond.not (Cond.eq (Term.string "WidowsFundModel" 243) (Term.string "WidowsFundModel" 245))) (by decide +kernel))
  rcases i with _ | i
  · exact Or.inl (hs (Cond.not (Cond.eq (Term.string "WidowsFundModel" 243) (Term.string "WidowsFundModel" 247))) (by decide +kernel))
  rcases i with _ | i
  · exact Or.inl (hs (Cond.not (Cond.eq (Term.string "WidowsFundModel" 243) (Term.string "WidowsFundModel" 249))) (by decide +kernel))
  rcases i with _ | i
  · exact Or.inl (hs (Cond.not (Cond.eq (Term.string "WidowsFundModel" 243) (Term.string "WidowsFundModel" 251))) (by decide +kernel))
  rcases i with _ | i
  · exact Or.inl (hs (Cond.not (Cond.eq (Term.string "WidowsFundModel" 243) (Term.string "WidowsFundModel" 253))) (by decide +kernel))
  rcases i with _ | i
  · exact Or.inl (hs (Cond.not (Cond.eq (Term.string "WidowsFundModel" 243) (Term.string "WidowsFundModel" 255))) (by decide +kernel))
  rcases i with _ | i
  · exact Or.inl (hs (Cond.not (Cond.eq (Term.string "WidowsFundModel" 243) (Term.string "WidowsFundModel" 257))) (by decide +kernel))
  rcases i with _ | i
  · exact Or.inl (hs (Cond.not (Cond.eq (Term.string "WidowsFundModel" 243) (Term.string "WidowsFundModel" 259))) (by decide +kernel))
  rcases i with _ | i
  · exact Or.inl (hs (Cond.not (Cond.eq (Term.string "WidowsFundModel" 243) (Term.string "WidowsFundModel" 263))) (by decide +kernel))
  rcases i with _ | i
  · exact Or.inl (hs (Cond.not (Cond.eq (Term.string "WidowsFundModel" 243) (Term.string "WidowsFundModel" 265))) (by decide +kernel))
  rcases i with _ | i
  · exact Or.inl (hs (Cond.not (Cond.eq (Term.string "WidowsFundModel" 243) (Term.string "WidowsFundModel" 267))) (by decide +kernel))
  rcases i with _ | i
  · exact Or.inl (hs (Cond.not (Cond.eq (Term.string "WidowsFundModel" 243) (Term.string "WidowsFundModel" 269))) (by decide +kernel))
  rcases i with _ | i
  · exact Or.inl (hs (Cond.not (Cond.eq (Term.string "WidowsFundModel" 243) (Term.string "WidowsFundModel" 271))) (by decide +kernel))
  omega
theorem sb_ne7 (hs : ∀ c ∈ flatC (Jvm.Cond.and given_1 narrow_1), c.before args s = true) : ∀ i : Nat, i < 20 → 7 ≠ i → (Cond.not (Cond.eq (strTm 7) (strTm i))).before args s = true ∨ (Cond.not (Cond.eq (strTm i) (strTm 7))).before args s = true := by
  intro i hi hij
  rcases i with _ | i
  · exact Or.inr (hs (Cond.not (Cond.eq (Term.string "WidowsFund$Tape" 34) (Term.string "WidowsFundModel" 245))) (by decide +kernel))
  rcases i with _ | i
  · exact Or.inr (hs (Cond.not (Cond.eq (Term.string "WidowsFund$Tape" 60) (Term.string "WidowsFundModel" 245))) (by decide +kernel))
  rcases i with _ | i
  · exact Or.inr (hs (Cond.not (Cond.eq (Term.string "WidowsFund$Tape" 66) (Term.string "WidowsFundModel" 245))) (by decide +kernel))
  rcases i with _ | i
  · exact Or.inr (hs (Cond.not (Cond.eq (Term.string "WidowsFund$Tape" 119) (Term.string "WidowsFundModel" 245))) (by decide +kernel))
  rcases i with _ | i
  · exact Or.inr (hs (Cond.not (Cond.eq (Term.string "WidowsFund$Tape" 81) (Term.string "WidowsFundModel" 245))) (by decide +kernel))
  rcases i with _ | i
  · exact Or.inr (hs (Cond.not (Cond.eq (Term.string "WidowsFund$Tape" 83) (Term.string "WidowsFundModel" 245))) (by decide +kernel))
  rcases i with _ | i
  · exact Or.inr (hs (Cond.not (Cond.eq (Term.string "WidowsFundModel" 243) (Term.string "WidowsFundModel" 245))) (by decide +kernel))
  rcases i with _ | i
  · exact absurd rfl hij
  rcases i with _ | i
  · exact Or.inl (hs (Cond.not (Cond.eq (Term.string "WidowsFundModel" 245) (Term.string "WidowsFundModel" 247))) (by decide +kernel))
  rcases i with _ | i
  · exact Or.inl (hs (Cond.not (Cond.eq (Term.string "WidowsFundModel" 245) (Term.string "WidowsFundModel" 249))) (by decide +kernel))
  rcases i with _ | i
  · exact Or.inl (hs (Cond.not (Cond.eq (Term.string "WidowsFundModel" 245) (Term.string "WidowsFundModel" 251))) (by decide +kernel))
  rcases i with _ | i
  · exact Or.inl (hs (Cond.not (Cond.eq (Term.string "WidowsFundModel" 245) (Term.string "WidowsFundModel" 253))) (by decide +kernel))
  rcases i with _ | i
  · exact Or.inl (hs (Cond.not (Cond.eq (Term.string "WidowsFundModel" 245) (Term.string "WidowsFundModel" 255))) (by decide +kernel))
  rcases i with _ | i
  · exact Or.inl (hs (Cond.not (Cond.eq (Term.string "WidowsFundModel" 245) (Term.string "WidowsFundModel" 257))) (by decide +kernel))
  rcases i with _ | i
  · exact Or.inl (hs (Cond.not (Cond.eq (Term.string "WidowsFundModel" 245) (Term.string "WidowsFundModel" 259))) (by decide +kernel))
  rcases i with _ | i
  · exact Or.inl (hs (Cond.not (Cond.eq (Term.string "WidowsFundModel" 245) (Term.string "WidowsFundModel" 263))) (by decide +kernel))
  rcases i with _ | i
  · exact Or.inl (hs (Cond.not (Cond.eq (Term.string "WidowsFundModel" 245) (Term.string "WidowsFundModel" 265))) (by decide +kernel))
  rcases i with _ | i
  · exact Or.inl (hs (Cond.not (Cond.eq (Term.string "WidowsFundModel" 245) (Term.string "WidowsFundModel" 267))) (by decide +kernel))
  rcases i with _ | i
  · exact Or.inl (hs (Cond.not (Cond.eq (Term.string "WidowsFundModel" 245) (Term.string "WidowsFundModel" 269))) (by decide +kernel))
  rcases i with _ | i
  · exact Or.inl (hs (Cond.not (Cond.eq (Term.string "WidowsFundModel" 245) (Term.string "WidowsFundModel" 271))) (by decide +kernel))
  omega
theorem sb_ne8 (hs : ∀ c ∈ flatC (Jvm.Cond.and given_1 narrow_1), c.before args s = true) : ∀ i : Nat, i < 20 → 8 ≠ i → (Cond.not (Cond.eq (strTm 8) (strTm i))).before args s = true ∨ (Cond.not (Cond.eq (strTm i) (strTm 8))).before args s = true := by
  intro i hi hij
  rcases i with _ | i
  · exact Or.inr (hs (Cond.not (Cond.eq (Term.string "WidowsFund$Tape" 34) (Term.string "WidowsFundModel" 247))) (by decide +kernel))
  rcases i with _ | i
  · exact Or.inr (hs (Cond.not (Cond.eq (Term.string "WidowsFund$Tape" 60) (Term.string "WidowsFundModel" 247))) (by decide +kernel))
  rcases i with _ | i
  · exact Or.inr (hs (Cond.not (Cond.eq (Term.string "WidowsFund$Tape" 66) (Term.string "WidowsFundModel" 247))) (by decide +kernel))
  rcases i with _ | i
  · exact Or.inr (hs (Cond.not (Cond.eq (Term.string "WidowsFund$Tape" 119) (Term.string "WidowsFundModel" 247))) (by decide +kernel))
  rcases i with _ | i
  · exact Or.inr (hs (Cond.not (Cond.eq (Term.string "WidowsFund$Tape" 81) (Term.string "WidowsFundModel" 247))) (by decide +kernel))
  rcases i with _ | i
  · exact Or.inr (hs (Cond.not (Cond.eq (Term.string "WidowsFund$Tape" 83) (Term.string "WidowsFundModel" 247))) (by decide +kernel))
  rcases i with _ | i
  · exact Or.inr (hs (Cond.not (Cond.eq (Term.string "WidowsFundModel" 243) (Term.string "WidowsFundModel" 247))) (by decide +kernel))
  rcases i with _ | i
  · exact Or.inr (hs (Cond.not (Cond.eq (Term.string "WidowsFundModel" 245) (Term.string "WidowsFundModel" 247))) (by decide +kernel))
  rcases i with _ | i
  · exact absurd rfl hij
  rcases i with _ | i
  · exact Or.inl (hs (Cond.not (Cond.eq (Term.string "WidowsFundModel" 247) (Term.string "WidowsFundModel" 249))) (by decide +kernel))
  rcases i with _ | i
  · exact Or.inl (hs (Cond.not (Cond.eq (Term.string "WidowsFundModel" 247) (Term.string "WidowsFundModel" 251))) (by decide +kernel))
  rcases i with _ | i
  · exact Or.inl (hs (Cond.not (Cond.eq (Term.string "WidowsFundModel" 247) (Term.string "WidowsFundModel" 253))) (by decide +kernel))
  rcases i with _ | i
  · exact Or.inl (hs (Cond.not (Cond.eq (Term.string "WidowsFundModel" 247) (Term.string "WidowsFundModel" 255))) (by decide +kernel))
  rcases i with _ | i
  · exact Or.inl (hs (Cond.not (Cond.eq (Term.string "WidowsFundModel" 247) (Term.string "WidowsFundModel" 257))) (by decide +kernel))
  rcases i with _ | i
  · exact Or.inl (hs (Cond.not (Cond.eq (Term.string "WidowsFundModel" 247) (Term.string "WidowsFundModel" 259))) (by decide +kernel))
  rcases i with _ | i
  · exact Or.inl (hs (Cond.not (Cond.eq (Term.string "WidowsFundModel" 247) (Term.string "WidowsFundModel" 263))) (by decide +kernel))
  rcases i with _ | i
  · exact Or.inl (hs (Cond.not (Cond.eq (Term.string "WidowsFundModel" 247) (Term.string "WidowsFundModel" 265))) (by decide +kernel))
  rcases i with _ | i
  · exact Or.inl (hs (Cond.not (Cond.eq (Term.string "WidowsFundModel" 247) (Term.string "WidowsFundModel" 267))) (by decide +kernel))
  rcases i with _ | i
  · exact Or.inl (hs (Cond.not (Cond.eq (Term.string "WidowsFundModel" 247) (Term.string "WidowsFundModel" 269))) (by decide +kernel))
  rcases i with _ | i
  · exact Or.inl (hs (Cond.not (Cond.eq (Term.string "WidowsFundModel" 247) (Term.string "WidowsFundModel" 271))) (by decide +kernel))
  omega
theorem sb_ne9 (hs : ∀ c ∈ flatC (Jvm.Cond.and given_1 narrow_1), c.before args s = true) : ∀ i : Nat, i < 20 → 9 ≠ i → (Cond.not (Cond.eq (strTm 9) (strTm i))).before args s = true ∨ (Cond.not (Cond.eq (strTm i) (strTm 9))).before args s = true := by
  intro i hi hij
  rcases i with _ | i
  · exact Or.inr (hs (Cond.not (Cond.eq (Term.string "WidowsFund$Tape" 34) (Term.string "WidowsFundModel" 249))) (by decide +kernel))
  rcases i with _ | i
  · exact Or.inr (hs (Cond.not (Cond.eq (Term.string "WidowsFund$Tape" 60) (Term.string "WidowsFundModel" 249))) (by decide +kernel))
  rcases i with _ | i
  · exact Or.inr (hs (Cond.not (Cond.eq (Term.string "WidowsFund$Tape" 66) (Term.string "WidowsFundModel" 249))) (by decide +kernel))
  rcases i with _ | i
  · exact Or.inr (hs (Cond.not (Cond.eq (Term.string "WidowsFund$Tape" 119) (Term.string "WidowsFundModel" 249))) (by decide +kernel))
  rcases i with _ | i
  · exact Or.inr (hs (Cond.not (Cond.eq (Term.string "WidowsFund$Tape" 81) (Term.string "WidowsFundModel" 249))) (by decide +kernel))
  rcases i with _ | i
  · exact Or.inr (hs (Cond.not (Cond.eq (Term.string "WidowsFund$Tape" 83) (Term.string "WidowsFundModel" 249))) (by decide +kernel))
  rcases i with _ | i
  · exact Or.inr (hs (Cond.not (Cond.eq (Term.string "WidowsFundModel" 243) (Term.string "WidowsFundModel" 249))) (by decide +kernel))
  rcases i with _ | i
  · exact Or.inr (hs (Cond.not (Cond.eq (Term.string "WidowsFundModel" 245) (Term.string "WidowsFundModel" 249))) (by decide +kernel))
  rcases i with _ | i
  · exact Or.inr (hs (Cond.not (Cond.eq (Term.string "WidowsFundModel" 247) (Term.string "WidowsFundModel" 249))) (by decide +kernel))
  rcases i with _ | i
  · exact absurd rfl hij
  rcases i with _ | i
  · exact Or.inl (hs (Cond.not (Cond.eq (Term.string "WidowsFundModel" 249) (Term.string "WidowsFundModel" 251))) (by decide +kernel))
  rcases i with _ | i
  · exact Or.inl (hs (Cond.not (Cond.eq (Term.string "WidowsFundModel" 249) (Term.string "WidowsFundModel" 253))) (by decide +kernel))
  rcases i with _ | i
  · exact Or.inl (hs (Cond.not (Cond.eq (Term.string "WidowsFundModel" 249) (Term.string "WidowsFundModel" 255))) (by decide +kernel))
  rcases i with _ | i
  · exact Or.inl (hs (Cond.not (Cond.eq (Term.string "WidowsFundModel" 249) (Term.string "WidowsFundModel" 257))) (by decide +kernel))
  rcases i with _ | i
  · exact Or.inl (hs (Cond.not (Cond.eq (Term.string "WidowsFundModel" 249) (Term.string "WidowsFundModel" 259))) (by decide +kernel))
  rcases i with _ | i
  · exact Or.inl (hs (Cond.not (Cond.eq (Term.string "WidowsFundModel" 249) (Term.string "WidowsFundModel" 263))) (by decide +kernel))
  rcases i with _ | i
  · exact Or.inl (hs (Cond.not (Cond.eq (Term.string "WidowsFundModel" 249) (Term.string "WidowsFundModel" 265))) (by decide +kernel))
  rcases i with _ | i
  · exact Or.inl (hs (Cond.not (Cond.eq (Term.string "WidowsFundModel" 249) (Term.string "WidowsFundModel" 267))) (by decide +kernel))
  rcases i with _ | i
  · exact Or.inl (hs (Cond.not (Cond.eq (Term.string "WidowsFundModel" 249) (Term.string "WidowsFundModel" 269))) (by decide +kernel))
  rcases i with _ | i
  · exact Or.inl (hs (Cond.not (Cond.eq (Term.string "WidowsFundModel" 249) (Term.string "WidowsFundModel" 271))) (by decide +kernel))
  omega
theorem sb_ne10 (hs : ∀ c ∈ flatC (Jvm.Cond.and given_1 narrow_1), c.before args s = true) : ∀ i : Nat, i < 20 → 10 ≠ i → (Cond.not (Cond.eq (strTm 10) (strTm i))).before args s = true ∨ (Cond.not (Cond.eq (strTm i) (strTm 10))).before args s = true := by
  intro i hi hij
  rcases i with _ | i
  · exact Or.inr (hs (Cond.not (Cond.eq (Term.string "WidowsFund$Tape" 34) (Term.string "WidowsFundModel" 251))) (by decide +kernel))
  rcases i with _ | i
  · exact Or.inr (hs (Cond.not (Cond.eq (Term.string "WidowsFund$Tape" 60) (Term.string "WidowsFundModel" 251))) (by decide +kernel))
  rcases i with _ | i
  · exact Or.inr (hs (Cond.not (Cond.eq (Term.string "WidowsFund$Tape" 66) (Term.string "WidowsFundModel" 251))) (by decide +kernel))
  rcases i with _ | i
  · exact Or.inr (hs (Cond.not (Cond.eq (Term.string "WidowsFund$Tape" 119) (Term.string "WidowsFundModel" 251))) (by decide +kernel))
  rcases i with _ | i
  · exact Or.inr (hs (Cond.not (Cond.eq (Term.string "WidowsFund$Tape" 81) (Term.string "WidowsFundModel" 251))) (by decide +kernel))
  rcases i with _ | i
  · exact Or.inr (hs (Cond.not (Cond.eq (Term.string "WidowsFund$Tape" 83) (Term.string "WidowsFundModel" 251))) (by decide +kernel))
  rcases i with _ | i
  · exact Or.inr (hs (Cond.not (Cond.eq (Term.string "WidowsFundModel" 243) (Term.string "WidowsFundModel" 251))) (by decide +kernel))
  rcases i with _ | i
  · exact Or.inr (hs (Cond.not (Cond.eq (Term.string "WidowsFundModel" 245) (Term.string "WidowsFundModel" 251))) (by decide +kernel))
  rcases i with _ | i
  · exact Or.inr (hs (Cond.not (Cond.eq (Term.string "WidowsFundModel" 247) (Term.string "WidowsFundModel" 251))) (by decide +kernel))
  rcases i with _ | i
  · exact Or.inr (hs (Cond.not (Cond.eq (Term.string "WidowsFundModel" 249) (Term.string "WidowsFundModel" 251))) (by decide +kernel))
  rcases i with _ | i
  · exact absurd rfl hij
  rcases i with _ | i
  · exact Or.inl (hs (Cond.not (Cond.eq (Term.string "WidowsFundModel" 251) (Term.string "WidowsFundModel" 253))) (by decide +kernel))
  rcases i with _ | i
  · exact Or.inl (hs (Cond.not (Cond.eq (Term.string "WidowsFundModel" 251) (Term.string "WidowsFundModel" 255))) (by decide +kernel))
  rcases i with _ | i
  · exact Or.inl (hs (Cond.not (Cond.eq (Term.string "WidowsFundModel" 251) (Term.string "WidowsFundModel" 257))) (by decide +kernel))
  rcases i with _ | i
  · exact Or.inl (hs (Cond.not (Cond.eq (Term.string "WidowsFundModel" 251) (Term.string "WidowsFundModel" 259))) (by decide +kernel))
  rcases i with _ | i
  · exact Or.inl (hs (Cond.not (Cond.eq (Term.string "WidowsFundModel" 251) (Term.string "WidowsFundModel" 263))) (by decide +kernel))
  rcases i with _ | i
  · exact Or.inl (hs (Cond.not (Cond.eq (Term.string "WidowsFundModel" 251) (Term.string "WidowsFundModel" 265))) (by decide +kernel))
  rcases i with _ | i
  · exact Or.inl (hs (Cond.not (Cond.eq (Term.string "WidowsFundModel" 251) (Term.string "WidowsFundModel" 267))) (by decide +kernel))
  rcases i with _ | i
  · exact Or.inl (hs (Cond.not (Cond.eq (Term.string "WidowsFundModel" 251) (Term.string "WidowsFundModel" 269))) (by decide +kernel))
  rcases i with _ | i
  · exact Or.inl (hs (Cond.not (Cond.eq (Term.string "WidowsFundModel" 251) (Term.string "WidowsFundModel" 271))) (by decide +kernel))
  omega
theorem sb_ne11 (hs : ∀ c ∈ flatC (Jvm.Cond.and given_1 narrow_1), c.before args s = true) : ∀ i : Nat, i < 20 → 11 ≠ i → (Cond.not (Cond.eq (strTm 11) (strTm i))).before args s = true ∨ (Cond.not (Cond.eq (strTm i) (strTm 11))).before args s = true := by
  intro i hi hij
  rcases i with _ | i
  · exact Or.inr (hs (Cond.not (Cond.eq (Term.string "WidowsFund$Tape" 34) (Term.string "WidowsFundModel" 253))) (by decide +kernel))
  rcases i with _ | i
  · exact Or.inr (hs (Cond.not (Cond.eq (Term.string "WidowsFund$Tape" 60) (Term.string "WidowsFundModel" 253))) (by decide +kernel))
  rcases i with _ | i
  · exact Or.inr (hs (Cond.not (Cond.eq (Term.string "WidowsFund$Tape" 66) (Term.string "WidowsFundModel" 253))) (by decide +kernel))
  rcases i with _ | i
  · exact Or.inr (hs (Cond.not (Cond.eq (Term.string "WidowsFund$Tape" 119) (Term.string "WidowsFundModel" 253))) (by decide +kernel))
  rcases i with _ | i
  · exact Or.inr (hs (Cond.not (Cond.eq (Term.string "WidowsFund$Tape" 81) (Term.string "WidowsFundModel" 253))) (by decide +kernel))
  rcases i with _ | i
  · exact Or.inr (hs (Cond.not (Cond.eq (Term.string "WidowsFund$Tape" 83) (Term.string "WidowsFundModel" 253))) (by decide +kernel))
  rcases i with _ | i
  · exact Or.inr (hs (Cond.not (Cond.eq (Term.string "WidowsFundModel" 243) (Term.string "WidowsFundModel" 253))) (by decide +kernel))
  rcases i with _ | i
  · exact Or.inr (hs (Cond.not (Cond.eq (Term.string "WidowsFundModel" 245) (Term.string "WidowsFundModel" 253))) (by decide +kernel))
  rcases i with _ | i
  · exact Or.inr (hs (Cond.not (Cond.eq (Term.string "WidowsFundModel" 247) (Term.string "WidowsFundModel" 253))) (by decide +kernel))
  rcases i with _ | i
  · exact Or.inr (hs (Cond.not (Cond.eq (Term.string "WidowsFundModel" 249) (Term.string "WidowsFundModel" 253))) (by decide +kernel))
  rcases i with _ | i
  · exact Or.inr (hs (Cond.not (Cond.eq (Term.string "WidowsFundModel" 251) (Term.string "WidowsFundModel" 253))) (by decide +kernel))
  rcases i with _ | i
  · exact absurd rfl hij
  rcases i with _ | i
  · exact Or.inl (hs (Cond.not (Cond.eq (Term.string "WidowsFundModel" 253) (Term.string "WidowsFundModel" 255))) (by decide +kernel))
  rcases i with _ | i
  · exact Or.inl (hs (Cond.not (Cond.eq (Term.string "WidowsFundModel" 253) (Term.string "WidowsFundModel" 257))) (by decide +kernel))
  rcases i with _ | i
  · exact Or.inl (hs (Cond.not (Cond.eq (Term.string "WidowsFundModel" 253) (Term.string "WidowsFundModel" 259))) (by decide +kernel))
  rcases i with _ | i
  · exact Or.inl (hs (Cond.not (Cond.eq (Term.string "WidowsFundModel" 253) (Term.string "WidowsFundModel" 263))) (by decide +kernel))
  rcases i with _ | i
  · exact Or.inl (hs (Cond.not (Cond.eq (Term.string "WidowsFundModel" 253) (Term.string "WidowsFundModel" 265))) (by decide +kernel))
  rcases i with _ | i
  · exact Or.inl (hs (Cond.not (Cond.eq (Term.string "WidowsFundModel" 253) (Term.string "WidowsFundModel" 267))) (by decide +kernel))
  rcases i with _ | i
  · exact Or.inl (hs (Cond.not (Cond.eq (Term.string "WidowsFundModel" 253) (Term.string "WidowsFundModel" 269))) (by decide +kernel))
  rcases i with _ | i
  · exact Or.inl (hs (Cond.not (Cond.eq (Term.string "WidowsFundModel" 253) (Term.string "WidowsFundModel" 271))) (by decide +kernel))
  omega
theorem sb_ne12 (hs : ∀ c ∈ flatC (Jvm.Cond.and given_1 narrow_1), c.before args s = true) : ∀ i : Nat, i < 20 → 12 ≠ i → (Cond.not (Cond.eq (strTm 12) (strTm i))).before args s = true ∨ (Cond.not (Cond.eq (strTm i) (strTm 12))).before args s = true := by
  intro i hi hij
  rcases i with _ | i
  · exact Or.inr (hs (Cond.not (Cond.eq (Term.string "WidowsFund$Tape" 34) (Term.string "WidowsFundModel" 255))) (by decide +kernel))
  rcases i with _ | i
  · exact Or.inr (hs (Cond.not (Cond.eq (Term.string "WidowsFund$Tape" 60) (Term.string "WidowsFundModel" 255))) (by decide +kernel))
  rcases i with _ | i
  · exact Or.inr (hs (Cond.not (Cond.eq (Term.string "WidowsFund$Tape" 66) (Term.string "WidowsFundModel" 255))) (by decide +kernel))
  rcases i with _ | i
  · exact Or.inr (hs (Cond.not (Cond.eq (Term.string "WidowsFund$Tape" 119) (Term.string "WidowsFundModel" 255))) (by decide +kernel))
  rcases i with _ | i
  · exact Or.inr (hs (Cond.not (Cond.eq (Term.string "WidowsFund$Tape" 81) (Term.string "WidowsFundModel" 255))) (by decide +kernel))
  rcases i with _ | i
  · exact Or.inr (hs (Cond.not (Cond.eq (Term.string "WidowsFund$Tape" 83) (Term.string "WidowsFundModel" 255))) (by decide +kernel))
  rcases i with _ | i
  · exact Or.inr (hs (Cond.not (Cond.eq (Term.string "WidowsFundModel" 243) (Term.string "WidowsFundModel" 255))) (by decide +kernel))
  rcases i with _ | i
  · exact Or.inr (hs (Cond.not (Cond.eq (Term.string "WidowsFundModel" 245) (Term.string "WidowsFundModel" 255))) (by decide +kernel))
  rcases i with _ | i
  · exact Or.inr (hs (Cond.not (Cond.eq (Term.string "WidowsFundModel" 247) (Term.string "WidowsFundModel" 255))) (by decide +kernel))
  rcases i with _ | i
  · exact Or.inr (hs (Cond.not (Cond.eq (Term.string "WidowsFundModel" 249) (Term.string "WidowsFundModel" 255))) (by decide +kernel))
  rcases i with _ | i
  · exact Or.inr (hs (Cond.not (Cond.eq (Term.string "WidowsFundModel" 251) (Term.string "WidowsFundModel" 255))) (by decide +kernel))
  rcases i with _ | i
  · exact Or.inr (hs (Cond.not (Cond.eq (Term.string "WidowsFundModel" 253) (Term.string "WidowsFundModel" 255))) (by decide +kernel))
  rcases i with _ | i
  · exact absurd rfl hij
  rcases i with _ | i
  · exact Or.inl (hs (Cond.not (Cond.eq (Term.string "WidowsFundModel" 255) (Term.string "WidowsFundModel" 257))) (by decide +kernel))
  rcases i with _ | i
  · exact Or.inl (hs (Cond.not (Cond.eq (Term.string "WidowsFundModel" 255) (Term.string "WidowsFundModel" 259))) (by decide +kernel))
  rcases i with _ | i
  · exact Or.inl (hs (Cond.not (Cond.eq (Term.string "WidowsFundModel" 255) (Term.string "WidowsFundModel" 263))) (by decide +kernel))
  rcases i with _ | i
  · exact Or.inl (hs (Cond.not (Cond.eq (Term.string "WidowsFundModel" 255) (Term.string "WidowsFundModel" 265))) (by decide +kernel))
  rcases i with _ | i
  · exact Or.inl (hs (Cond.not (Cond.eq (Term.string "WidowsFundModel" 255) (Term.string "WidowsFundModel" 267))) (by decide +kernel))
  rcases i with _ | i
  · exact Or.inl (hs (Cond.not (Cond.eq (Term.string "WidowsFundModel" 255) (Term.string "WidowsFundModel" 269))) (by decide +kernel))
  rcases i with _ | i
  · exact Or.inl (hs (Cond.not (Cond.eq (Term.string "WidowsFundModel" 255) (Term.string "WidowsFundModel" 271))) (by decide +kernel))
  omega
theorem sb_ne13 (hs : ∀ c ∈ flatC (Jvm.Cond.and given_1 narrow_1), c.before args s = true) : ∀ i : Nat, i < 20 → 13 ≠ i → (Cond.not (Cond.eq (strTm 13) (strTm i))).before args s = true ∨ (Cond.not (Cond.eq (strTm i) (strTm 13))).before args s = true := by
  intro i hi hij
  rcases i with _ | i
  · exact Or.inr (hs (Cond.not (Cond.eq (Term.string "WidowsFund$Tape" 34) (Term.string "WidowsFundModel" 257))) (by decide +kernel))
  rcases i with _ | i
  · exact Or.inr (hs (Cond.not (Cond.eq (Term.string "WidowsFund$Tape" 60) (Term.string "WidowsFundModel" 257))) (by decide +kernel))
  rcases i with _ | i
  · exact Or.inr (hs (Cond.not (Cond.eq (Term.string "WidowsFund$Tape" 66) (Term.string "WidowsFundModel" 257))) (by decide +kernel))
  rcases i with _ | i
  · exact Or.inr (hs (Cond.not (Cond.eq (Term.string "WidowsFund$Tape" 119) (Term.string "WidowsFundModel" 257))) (by decide +kernel))
  rcases i with _ | i
  · exact Or.inr (hs (Cond.not (Cond.eq (Term.string "WidowsFund$Tape" 81) (Term.string "WidowsFundModel" 257))) (by decide +kernel))
  rcases i with _ | i
  · exact Or.inr (hs (Cond.not (Cond.eq (Term.string "WidowsFund$Tape" 83) (Term.string "WidowsFundModel" 257))) (by decide +kernel))
  rcases i with _ | i
  · exact Or.inr (hs (Cond.not (Cond.eq (Term.string "WidowsFundModel" 243) (Term.string "WidowsFundModel" 257))) (by decide +kernel))
  rcases i with _ | i
  · exact Or.inr (hs (Cond.not (Cond.eq (Term.string "WidowsFundModel" 245) (Term.string "WidowsFundModel" 257))) (by decide +kernel))
  rcases i with _ | i
  · exact Or.inr (hs (Cond.not (Cond.eq (Term.string "WidowsFundModel" 247) (Term.string "WidowsFundModel" 257))) (by decide +kernel))
  rcases i with _ | i
  · exact Or.inr (hs (Cond.not (Cond.eq (Term.string "WidowsFundModel" 249) (Term.string "WidowsFundModel" 257))) (by decide +kernel))
  rcases i with _ | i
  · exact Or.inr (hs (Cond.not (Cond.eq (Term.string "WidowsFundModel" 251) (Term.string "WidowsFundModel" 257))) (by decide +kernel))
  rcases i with _ | i
  · exact Or.inr (hs (Cond.not (Cond.eq (Term.string "WidowsFundModel" 253) (Term.string "WidowsFundModel" 257))) (by decide +kernel))
  rcases i with _ | i
  · exact Or.inr (hs (Cond.not (Cond.eq (Term.string "WidowsFundModel" 255) (Term.string "WidowsFundModel" 257))) (by decide +kernel))
  rcases i with _ | i
  · exact absurd rfl hij
  rcases i with _ | i
  · exact Or.inl (hs (Cond.not (Cond.eq (Term.string "WidowsFundModel" 257) (Term.string "WidowsFundModel" 259))) (by decide +kernel))
  rcases i with _ | i
  · exact Or.inl (hs (Cond.not (Cond.eq (Term.string "WidowsFundModel" 257) (Term.string "WidowsFundModel" 263))) (by decide +kernel))
  rcases i with _ | i
  · exact Or.inl (hs (Cond.not (Cond.eq (Term.string "WidowsFundModel" 257) (Term.string "WidowsFundModel" 265))) (by decide +kernel))
  rcases i with _ | i
  · exact Or.inl (hs (Cond.not (Cond.eq (Term.string "WidowsFundModel" 257) (Term.string "WidowsFundModel" 267))) (by decide +kernel))
  rcases i with _ | i
  · exact Or.inl (hs (Cond.not (Cond.eq (Term.string "WidowsFundModel" 257) (Term.string "WidowsFundModel" 269))) (by decide +kernel))
  rcases i with _ | i
  · exact Or.inl (hs (Cond.not (Cond.eq (Term.string "WidowsFundModel" 257) (Term.string "WidowsFundModel" 271))) (by decide +kernel))
  omega
theorem sb_ne14 (hs : ∀ c ∈ flatC (Jvm.Cond.and given_1 narrow_1), c.before args s = true) : ∀ i : Nat, i < 20 → 14 ≠ i → (Cond.not (Cond.eq (strTm 14) (strTm i))).before args s = true ∨ (Cond.not (Cond.eq (strTm i) (strTm 14))).before args s = true := by
  intro i hi hij
  rcases i with _ | i
  · exact Or.inr (hs (Cond.not (Cond.eq (Term.string "WidowsFund$Tape" 34) (Term.string "WidowsFundModel" 259))) (by decide +kernel))
  rcases i with _ | i
  · exact Or.inr (hs (Cond.not (Cond.eq (Term.string "WidowsFund$Tape" 60) (Term.string "WidowsFundModel" 259))) (by decide +kernel))
  rcases i with _ | i
  · exact Or.inr (hs (Cond.not (Cond.eq (Term.string "WidowsFund$Tape" 66) (Term.string "WidowsFundModel" 259))) (by decide +kernel))
  rcases i with _ | i
  · exact Or.inr (hs (Cond.not (Cond.eq (Term.string "WidowsFund$Tape" 119) (Term.string "WidowsFundModel" 259))) (by decide +kernel))
  rcases i with _ | i
  · exact Or.inr (hs (Cond.not (Cond.eq (Term.string "WidowsFund$Tape" 81) (Term.string "WidowsFundModel" 259))) (by decide +kernel))
  rcases i with _ | i
  · exact Or.inr (hs (Cond.not (Cond.eq (Term.string "WidowsFund$Tape" 83) (Term.string "WidowsFundModel" 259))) (by decide +kernel))
  rcases i with _ | i
  · exact Or.inr (hs (Cond.not (Cond.eq (Term.string "WidowsFundModel" 243) (Term.string "WidowsFundModel" 259))) (by decide +kernel))
  rcases i with _ | i
  · exact Or.inr (hs (Cond.not (Cond.eq (Term.string "WidowsFundModel" 245) (Term.string "WidowsFundModel" 259))) (by decide +kernel))
  rcases i with _ | i
  · exact Or.inr (hs (Cond.not (Cond.eq (Term.string "WidowsFundModel" 247) (Term.string "WidowsFundModel" 259))) (by decide +kernel))
  rcases i with _ | i
  · exact Or.inr (hs (Cond.not (Cond.eq (Term.string "WidowsFundModel" 249) (Term.string "WidowsFundModel" 259))) (by decide +kernel))
  rcases i with _ | i
  · exact Or.inr (hs (Cond.not (Cond.eq (Term.string "WidowsFundModel" 251) (Term.string "WidowsFundModel" 259))) (by decide +kernel))
  rcases i with _ | i
  · exact Or.inr (hs (Cond.not (Cond.eq (Term.string "WidowsFundModel" 253) (Term.string "WidowsFundModel" 259))) (by decide +kernel))
  rcases i with _ | i
  · exact Or.inr (hs (Cond.not (Cond.eq (Term.string "WidowsFundModel" 255) (Term.string "WidowsFundModel" 259))) (by decide +kernel))
  rcases i with _ | i
  · exact Or.inr (hs (Cond.not (Cond.eq (Term.string "WidowsFundModel" 257) (Term.string "WidowsFundModel" 259))) (by decide +kernel))
  rcases i with _ | i
  · exact absurd rfl hij
  rcases i with _ | i
  · exact Or.inl (hs (Cond.not (Cond.eq (Term.string "WidowsFundModel" 259) (Term.string "WidowsFundModel" 263))) (by decide +kernel))
  rcases i with _ | i
  · exact Or.inl (hs (Cond.not (Cond.eq (Term.string "WidowsFundModel" 259) (Term.string "WidowsFundModel" 265))) (by decide +kernel))
  rcases i with _ | i
  · exact Or.inl (hs (Cond.not (Cond.eq (Term.string "WidowsFundModel" 259) (Term.string "WidowsFundModel" 267))) (by decide +kernel))
  rcases i with _ | i
  · exact Or.inl (hs (Cond.not (Cond.eq (Term.string "WidowsFundModel" 259) (Term.string "WidowsFundModel" 269))) (by decide +kernel))
  rcases i with _ | i
  · exact Or.inl (hs (Cond.not (Cond.eq (Term.string "WidowsFundModel" 259) (Term.string "WidowsFundModel" 271))) (by decide +kernel))
  omega
theorem sb_ne15 (hs : ∀ c ∈ flatC (Jvm.Cond.and given_1 narrow_1), c.before args s = true) : ∀ i : Nat, i < 20 → 15 ≠ i → (Cond.not (Cond.eq (strTm 15) (strTm i))).before args s = true ∨ (Cond.not (Cond.eq (strTm i) (strTm 15))).before args s = true := by
  intro i hi hij
  rcases i with _ | i
  · exact Or.inr (hs (Cond.not (Cond.eq (Term.string "WidowsFund$Tape" 34) (Term.string "WidowsFundModel" 263))) (by decide +kernel))
  rcases i with _ | i
  · exact Or.inr (hs (Cond.not (Cond.eq (Term.string "WidowsFund$Tape" 60) (Term.string "WidowsFundModel" 263))) (by decide +kernel))
  rcases i with _ | i
  · exact Or.inr (hs (Cond.not (Cond.eq (Term.string "WidowsFund$Tape" 66) (Term.string "WidowsFundModel" 263))) (by decide +kernel))
  rcases i with _ | i
  · exact Or.inr (hs (Cond.not (Cond.eq (Term.string "WidowsFund$Tape" 119) (Term.string "WidowsFundModel" 263))) (by decide +kernel))
  rcases i with _ | i
  · exact Or.inr (hs (Cond.not (Cond.eq (Term.string "WidowsFund$Tape" 81) (Term.string "WidowsFundModel" 263))) (by decide +kernel))
  rcases i with _ | i
  · exact Or.inr (hs (Cond.not (Cond.eq (Term.string "WidowsFund$Tape" 83) (Term.string "WidowsFundModel" 263))) (by decide +kernel))
  rcases i with _ | i
  · exact Or.inr (hs (Cond.not (Cond.eq (Term.string "WidowsFundModel" 243) (Term.string "WidowsFundModel" 263))) (by decide +kernel))
  rcases i with _ | i
  · exact Or.inr (hs (Cond.not (Cond.eq (Term.string "WidowsFundModel" 245) (Term.string "WidowsFundModel" 263))) (by decide +kernel))
  rcases i with _ | i
  · exact Or.inr (hs (Cond.not (Cond.eq (Term.string "WidowsFundModel" 247) (Term.string "WidowsFundModel" 263))) (by decide +kernel))
  rcases i with _ | i
  · exact Or.inr (hs (Cond.not (Cond.eq (Term.string "WidowsFundModel" 249) (Term.string "WidowsFundModel" 263))) (by decide +kernel))
  rcases i with _ | i
  · exact Or.inr (hs (Cond.not (Cond.eq (Term.string "WidowsFundModel" 251) (Term.string "WidowsFundModel" 263))) (by decide +kernel))
  rcases i with _ | i
  · exact Or.inr (hs (Cond.not (Cond.eq (Term.string "WidowsFundModel" 253) (Term.string "WidowsFundModel" 263))) (by decide +kernel))
  rcases i with _ | i
  · exact Or.inr (hs (Cond.not (Cond.eq (Term.string "WidowsFundModel" 255) (Term.string "WidowsFundModel" 263))) (by decide +kernel))
  rcases i with _ | i
  · exact Or.inr (hs (Cond.not (Cond.eq (Term.string "WidowsFundModel" 257) (Term.string "WidowsFundModel" 263))) (by decide +kernel))
  rcases i with _ | i
  · exact Or.inr (hs (Cond.not (Cond.eq (Term.string "WidowsFundModel" 259) (Term.string "WidowsFundModel" 263))) (by decide +kernel))
  rcases i with _ | i
  · exact absurd rfl hij
  rcases i with _ | i
  · exact Or.inl (hs (Cond.not (Cond.eq (Term.string "WidowsFundModel" 263) (Term.string "WidowsFundModel" 265))) (by decide +kernel))
  rcases i with _ | i
  · exact Or.inl (hs (Cond.not (Cond.eq (Term.string "WidowsFundModel" 263) (Term.string "WidowsFundModel" 267))) (by decide +kernel))
  rcases i with _ | i
  · exact Or.inl (hs (Cond.not (Cond.eq (Term.string "WidowsFundModel" 263) (Term.string "WidowsFundModel" 269))) (by decide +kernel))
  rcases i with _ | i
  · exact Or.inl (hs (Cond.not (Cond.eq (Term.string "WidowsFundModel" 263) (Term.string "WidowsFundModel" 271))) (by decide +kernel))
  omega
theorem sb_ne16 (hs : ∀ c ∈ flatC (Jvm.Cond.and given_1 narrow_1), c.before args s = true) : ∀ i : Nat, i < 20 → 16 ≠ i → (Cond.not (Cond.eq (strTm 16) (strTm i))).before args s = true ∨ (Cond.not (Cond.eq (strTm i) (strTm 16))).before args s = true := by
  intro i hi hij
  rcases i with _ | i
  · exact Or.inr (hs (Cond.not (Cond.eq (Term.string "WidowsFund$Tape" 34) (Term.string "WidowsFundModel" 265))) (by decide +kernel))
  rcases i with _ | i
  · exact Or.inr (hs (Cond.not (Cond.eq (Term.string "WidowsFund$Tape" 60) (Term.string "WidowsFundModel" 265))) (by decide +kernel))
  rcases i with _ | i
  · exact Or.inr (hs (Cond.not (Cond.eq (Term.string "WidowsFund$Tape" 66) (Term.string "WidowsFundModel" 265))) (by decide +kernel))
  rcases i with _ | i
  · exact Or.inr (hs (Cond.not (Cond.eq (Term.string "WidowsFund$Tape" 119) (Term.string "WidowsFundModel" 265))) (by decide +kernel))
  rcases i with _ | i
  · exact Or.inr (hs (Cond.not (Cond.eq (Term.string "WidowsFund$Tape" 81) (Term.string "WidowsFundModel" 265))) (by decide +kernel))
  rcases i with _ | i
  · exact Or.inr (hs (Cond.not (Cond.eq (Term.string "WidowsFund$Tape" 83) (Term.string "WidowsFundModel" 265))) (by decide +kernel))
  rcases i with _ | i
  · exact Or.inr (hs (Cond.not (Cond.eq (Term.string "WidowsFundModel" 243) (Term.string "WidowsFundModel" 265))) (by decide +kernel))
  rcases i with _ | i
  · exact Or.inr (hs (Cond.not (Cond.eq (Term.string "WidowsFundModel" 245) (Term.string "WidowsFundModel" 265))) (by decide +kernel))
  rcases i with _ | i
  · exact Or.inr (hs (Cond.not (Cond.eq (Term.string "WidowsFundModel" 247) (Term.string "WidowsFundModel" 265))) (by decide +kernel))
  rcases i with _ | i
  · exact Or.inr (hs (Cond.not (Cond.eq (Term.string "WidowsFundModel" 249) (Term.string "WidowsFundModel" 265))) (by decide +kernel))
  rcases i with _ | i
  · exact Or.inr (hs (Cond.not (Cond.eq (Term.string "WidowsFundModel" 251) (Term.string "WidowsFundModel" 265))) (by decide +kernel))
  rcases i with _ | i
  · exact Or.inr (hs (Cond.not (Cond.eq (Term.string "WidowsFundModel" 253) (Term.string "WidowsFundModel" 265))) (by decide +kernel))
  rcases i with _ | i
  · exact Or.inr (hs (Cond.not (Cond.eq (Term.string "WidowsFundModel" 255) (Term.string "WidowsFundModel" 265))) (by decide +kernel))
  rcases i with _ | i
  · exact Or.inr (hs (Cond.not (Cond.eq (Term.string "WidowsFundModel" 257) (Term.string "WidowsFundModel" 265))) (by decide +kernel))
  rcases i with _ | i
  · exact Or.inr (hs (Cond.not (Cond.eq (Term.string "WidowsFundModel" 259) (Term.string "WidowsFundModel" 265))) (by decide +kernel))
  rcases i with _ | i
  · exact Or.inr (hs (Cond.not (Cond.eq (Term.string "WidowsFundModel" 263) (Term.string "WidowsFundModel" 265))) (by decide +kernel))
  rcases i with _ | i
  · exact absurd rfl hij
  rcases i with _ | i
  · exact Or.inl (hs (Cond.not (Cond.eq (Term.string "WidowsFundModel" 265) (Term.string "WidowsFundModel" 267))) (by decide +kernel))
  rcases i with _ | i
  · exact Or.inl (hs (Cond.not (Cond.eq (Term.string "WidowsFundModel" 265) (Term.string "WidowsFundModel" 269))) (by decide +kernel))
  rcases i with _ | i
  · exact Or.inl (hs (Cond.not (Cond.eq (Term.string "WidowsFundModel" 265) (Term.string "WidowsFundModel" 271))) (by decide +kernel))
  omega
theorem sb_ne17 (hs : ∀ c ∈ flatC (Jvm.Cond.and given_1 narrow_1), c.before args s = true) : ∀ i : Nat, i < 20 → 17 ≠ i → (Cond.not (Cond.eq (strTm 17) (strTm i))).before args s = true ∨ (Cond.not (Cond.eq (strTm i) (strTm 17))).before args s = true := by
  intro i hi hij
  rcases i with _ | i
  · exact Or.inr (hs (Cond.not (Cond.eq (Term.string "WidowsFund$Tape" 34) (Term.string "WidowsFundModel" 267))) (by decide +kernel))
  rcases i with _ | i
  · exact Or.inr (hs (Cond.not (Cond.eq (Term.string "WidowsFund$Tape" 60) (Term.string "WidowsFundModel" 267))) (by decide +kernel))
  rcases i with _ | i
  · exact Or.inr (hs (Cond.not (Cond.eq (Term.string "WidowsFund$Tape" 66) (Term.string "WidowsFundModel" 267))) (by decide +kernel))
  rcases i with _ | i
  · exact Or.inr (hs (Cond.not (Cond.eq (Term.string "WidowsFund$Tape" 119) (Term.string "WidowsFundModel" 267))) (by decide +kernel))
  rcases i with _ | i
  · exact Or.inr (hs (Cond.not (Cond.eq (Term.string "WidowsFund$Tape" 81) (Term.string "WidowsFundModel" 267))) (by decide +kernel))
  rcases i with _ | i
  · exact Or.inr (hs (Cond.not (Cond.eq (Term.string "WidowsFund$Tape" 83) (Term.string "WidowsFundModel" 267))) (by decide +kernel))
  rcases i with _ | i
  · exact Or.inr (hs (Cond.not (Cond.eq (Term.string "WidowsFundModel" 243) (Term.string "WidowsFundModel" 267))) (by decide +kernel))
  rcases i with _ | i
  · exact Or.inr (hs (Cond.not (Cond.eq (Term.string "WidowsFundModel" 245) (Term.string "WidowsFundModel" 267))) (by decide +kernel))
  rcases i with _ | i
  · exact Or.inr (hs (Cond.not (Cond.eq (Term.string "WidowsFundModel" 247) (Term.string "WidowsFundModel" 267))) (by decide +kernel))
  rcases i with _ | i
  · exact Or.inr (hs (Cond.not (Cond.eq (Term.string "WidowsFundModel" 249) (Term.string "WidowsFundModel" 267))) (by decide +kernel))
  rcases i with _ | i
  · exact Or.inr (hs (Cond.not (Cond.eq (Term.string "WidowsFundModel" 251) (Term.string "WidowsFundModel" 267))) (by decide +kernel))
  rcases i with _ | i
  · exact Or.inr (hs (Cond.not (Cond.eq (Term.string "WidowsFundModel" 253) (Term.string "WidowsFundModel" 267))) (by decide +kernel))
  rcases i with _ | i
  · exact Or.inr (hs (Cond.not (Cond.eq (Term.string "WidowsFundModel" 255) (Term.string "WidowsFundModel" 267))) (by decide +kernel))
  rcases i with _ | i
  · exact Or.inr (hs (Cond.not (Cond.eq (Term.string "WidowsFundModel" 257) (Term.string "WidowsFundModel" 267))) (by decide +kernel))
  rcases i with _ | i
  · exact Or.inr (hs (Cond.not (Cond.eq (Term.string "WidowsFundModel" 259) (Term.string "WidowsFundModel" 267))) (by decide +kernel))
  rcases i with _ | i
  · exact Or.inr (hs (Cond.not (Cond.eq (Term.string "WidowsFundModel" 263) (Term.string "WidowsFundModel" 267))) (by decide +kernel))
  rcases i with _ | i
  · exact Or.inr (hs (Cond.not (Cond.eq (Term.string "WidowsFundModel" 265) (Term.string "WidowsFundModel" 267))) (by decide +kernel))
  rcases i with _ | i
  · exact absurd rfl hij
  rcases i with _ | i
  · exact Or.inl (hs (Cond.not (Cond.eq (Term.string "WidowsFundModel" 267) (Term.string "WidowsFundModel" 269))) (by decide +kernel))
  rcases i with _ | i
  · exact Or.inl (hs (Cond.not (Cond.eq (Term.string "WidowsFundModel" 267) (Term.string "WidowsFundModel" 271))) (by decide +kernel))
  omega
theorem sb_ne18 (hs : ∀ c ∈ flatC (Jvm.Cond.and given_1 narrow_1), c.before args s = true) : ∀ i : Nat, i < 20 → 18 ≠ i → (Cond.not (Cond.eq (strTm 18) (strTm i))).before args s = true ∨ (Cond.not (Cond.eq (strTm i) (strTm 18))).before args s = true := by
  intro i hi hij
  rcases i with _ | i
  · exact Or.inr (hs (Cond.not (Cond.eq (Term.string "WidowsFund$Tape" 34) (Term.string "WidowsFundModel" 269))) (by decide +kernel))
  rcases i with _ | i
  · exact Or.inr (hs (Cond.not (Cond.eq (Term.string "WidowsFund$Tape" 60) (Term.string "WidowsFundModel" 269))) (by decide +kernel))
  rcases i with _ | i
  · exact Or.inr (hs (Cond.not (Cond.eq (Term.string "WidowsFund$Tape" 66) (Term.string "WidowsFundModel" 269))) (by decide +kernel))
  rcases i with _ | i
  · exact Or.inr (hs (Cond.not (Cond.eq (Term.string "WidowsFund$Tape" 119) (Term.string "WidowsFundModel" 269))) (by decide +kernel))
  rcases i with _ | i
  · exact Or.inr (hs (Cond.not (Cond.eq (Term.string "WidowsFund$Tape" 81) (Term.string "WidowsFundModel" 269))) (by decide +kernel))
  rcases i with _ | i
  · exact Or.inr (hs (Cond.not (Cond.eq (Term.string "WidowsFund$Tape" 83) (Term.string "WidowsFundModel" 269))) (by decide +kernel))
  rcases i with _ | i
  · exact Or.inr (hs (Cond.not (Cond.eq (Term.string "WidowsFundModel" 243) (Term.string "WidowsFundModel" 269))) (by decide +kernel))
  rcases i with _ | i
  · exact Or.inr (hs (Cond.not (Cond.eq (Term.string "WidowsFundModel" 245) (Term.string "WidowsFundModel" 269))) (by decide +kernel))
  rcases i with _ | i
  · exact Or.inr (hs (Cond.not (Cond.eq (Term.string "WidowsFundModel" 247) (Term.string "WidowsFundModel" 269))) (by decide +kernel))
  rcases i with _ | i
  · exact Or.inr (hs (Cond.not (Cond.eq (Term.string "WidowsFundModel" 249) (Term.string "WidowsFundModel" 269))) (by decide +kernel))
  rcases i with _ | i
  · exact Or.inr (hs (Cond.not (Cond.eq (Term.string "WidowsFundModel" 251) (Term.string "WidowsFundModel" 269))) (by decide +kernel))
  rcases i with _ | i
  · exact Or.inr (hs (Cond.not (Cond.eq (Term.string "WidowsFundModel" 253) (Term.string "WidowsFundModel" 269))) (by decide +kernel))
  rcases i with _ | i
  · exact Or.inr (hs (Cond.not (Cond.eq (Term.string "WidowsFundModel" 255) (Term.string "WidowsFundModel" 269))) (by decide +kernel))
  rcases i with _ | i
  · exact Or.inr (hs (Cond.not (Cond.eq (Term.string "WidowsFundModel" 257) (Term.string "WidowsFundModel" 269))) (by decide +kernel))
  rcases i with _ | i
  · exact Or.inr (hs (Cond.not (Cond.eq (Term.string "WidowsFundModel" 259) (Term.string "WidowsFundModel" 269))) (by decide +kernel))
  rcases i with _ | i
  · exact Or.inr (hs (Cond.not (Cond.eq (Term.string "WidowsFundModel" 263) (Term.string "WidowsFundModel" 269))) (by decide +kernel))
  rcases i with _ | i
  · exact Or.inr (hs (Cond.not (Cond.eq (Term.string "WidowsFundModel" 265) (Term.string "WidowsFundModel" 269))) (by decide +kernel))
  rcases i with _ | i
  · exact Or.inr (hs (Cond.not (Cond.eq (Term.string "WidowsFundModel" 267) (Term.string "WidowsFundModel" 269))) (by decide +kernel))
  rcases i with _ | i
  · exact absurd rfl hij
  rcases i with _ | i
  · exact Or.inl (hs (Cond.not (Cond.eq (Term.string "WidowsFundModel" 269) (Term.string "WidowsFundModel" 271))) (by decide +kernel))
  omega
theorem sb_ne19 (hs : ∀ c ∈ flatC (Jvm.Cond.and given_1 narrow_1), c.before args s = true) : ∀ i : Nat, i < 20 → 19 ≠ i → (Cond.not (Cond.eq (strTm 19) (strTm i))).before args s = true ∨ (Cond.not (Cond.eq (strTm i) (strTm 19))).before args s = true := by
  intro i hi hij
  rcases i with _ | i
  · exact Or.inr (hs (Cond.not (Cond.eq (Term.string "WidowsFund$Tape" 34) (Term.string "WidowsFundModel" 271))) (by decide +kernel))
  rcases i with _ | i
  · exact Or.inr (hs (Cond.not (Cond.eq (Term.string "WidowsFund$Tape" 60) (Term.string "WidowsFundModel" 271))) (by decide +kernel))
  rcases i with _ | i
  · exact Or.inr (hs (Cond.not (Cond.eq (Term.string "WidowsFund$Tape" 66) (Term.string "WidowsFundModel" 271))) (by decide +kernel))
  rcases i with _ | i
  · exact Or.inr (hs (Cond.not (Cond.eq (Term.string "WidowsFund$Tape" 119) (Term.string "WidowsFundModel" 271))) (by decide +kernel))
  rcases i with _ | i
  · exact Or.inr (hs (Cond.not (Cond.eq (Term.string "WidowsFund$Tape" 81) (Term.string "WidowsFundModel" 271))) (by decide +kernel))
  rcases i with _ | i
  · exact Or.inr (hs (Cond.not (Cond.eq (Term.string "WidowsFund$Tape" 83) (Term.string "WidowsFundModel" 271))) (by decide +kernel))
  rcases i with _ | i
  · exact Or.inr (hs (Cond.not (Cond.eq (Term.string "WidowsFundModel" 243) (Term.string "WidowsFundModel" 271))) (by decide +kernel))
  rcases i with _ | i
  · exact Or.inr (hs (Cond.not (Cond.eq (Term.string "WidowsFundModel" 245) (Term.string "WidowsFundModel" 271))) (by decide +kernel))
  rcases i with _ | i
  · exact Or.inr (hs (Cond.not (Cond.eq (Term.string "WidowsFundModel" 247) (Term.string "WidowsFundModel" 271))) (by decide +kernel))
  rcases i with _ | i
  · exact Or.inr (hs (Cond.not (Cond.eq (Term.string "WidowsFundModel" 249) (Term.string "WidowsFundModel" 271))) (by decide +kernel))
  rcases i with _ | i
  · exact Or.inr (hs (Cond.not (Cond.eq (Term.string "WidowsFundModel" 251) (Term.string "WidowsFundModel" 271))) (by decide +kernel))
  rcases i with _ | i
  · exact Or.inr (hs (Cond.not (Cond.eq (Term.string "WidowsFundModel" 253) (Term.string "WidowsFundModel" 271))) (by decide +kernel))
  rcases i with _ | i
  · exact Or.inr (hs (Cond.not (Cond.eq (Term.string "WidowsFundModel" 255) (Term.string "WidowsFundModel" 271))) (by decide +kernel))
  rcases i with _ | i
  · exact Or.inr (hs (Cond.not (Cond.eq (Term.string "WidowsFundModel" 257) (Term.string "WidowsFundModel" 271))) (by decide +kernel))
  rcases i with _ | i
  · exact Or.inr (hs (Cond.not (Cond.eq (Term.string "WidowsFundModel" 259) (Term.string "WidowsFundModel" 271))) (by decide +kernel))
  rcases i with _ | i
  · exact Or.inr (hs (Cond.not (Cond.eq (Term.string "WidowsFundModel" 263) (Term.string "WidowsFundModel" 271))) (by decide +kernel))
  rcases i with _ | i
  · exact Or.inr (hs (Cond.not (Cond.eq (Term.string "WidowsFundModel" 265) (Term.string "WidowsFundModel" 271))) (by decide +kernel))
  rcases i with _ | i
  · exact Or.inr (hs (Cond.not (Cond.eq (Term.string "WidowsFundModel" 267) (Term.string "WidowsFundModel" 271))) (by decide +kernel))
  rcases i with _ | i
  · exact Or.inr (hs (Cond.not (Cond.eq (Term.string "WidowsFundModel" 269) (Term.string "WidowsFundModel" 271))) (by decide +kernel))
  rcases i with _ | i
  · exact absurd rfl hij
  omega
theorem sb_ne (hs : ∀ c ∈ flatC (Jvm.Cond.and given_1 narrow_1), c.before args s = true) : ∀ i j : Nat, i < 20 → j < 20 → i ≠ j → (Cond.not (Cond.eq (strTm i) (strTm j))).before args s = true ∨ (Cond.not (Cond.eq (strTm j) (strTm i))).before args s = true := by
  intro i j hi hj hij
  rcases i with _ | i
  · exact sb_ne0 hs j hj hij
  rcases i with _ | i
  · exact sb_ne1 hs j hj hij
  rcases i with _ | i
  · exact sb_ne2 hs j hj hij
  rcases i with _ | i
  · exact sb_ne3 hs j hj hij
  rcases i with _ | i
  · exact sb_ne4 hs j hj hij
  rcases i with _ | i
  · exact sb_ne5 hs j hj hij
  rcases i with _ | i
  · exact sb_ne6 hs j hj hij
  rcases i with _ | i
  · exact sb_ne7 hs j hj hij
  rcases i with _ | i
  · exact sb_ne8 hs j hj hij
  rcases i with _ | i
  · exact sb_ne9 hs j hj hij
  rcases i with _ | i
  · exact sb_ne10 hs j hj hij
  rcases i with _ | i
  · exact sb_ne11 hs j hj hij
  rcases i with _ | i
  · exact sb_ne12 hs j hj hij
  rcases i with _ | i
  · exact sb_ne13 hs j hj hij
  rcases i with _ | i
  · exact sb_ne14 hs j hj hij
  rcases i with _ | i
  · exact sb_ne15 hs j hj hij
  rcases i with _ | i
  · exact sb_ne16 hs j hj hij
  rcases i with _ | i
  · exact sb_ne17 hs j hj hij
  rcases i with _ | i
  · exact sb_ne18 hs j hj hij
  rcases i with _ | i
  · exact sb_ne19 hs j hj hij
  omega
theorem sb_arr {ty : FieldType} (h : (Cond.arrayClass ty).before args s = true) (hty : ty = .int ∨ ty = .boolean ∨ ty = .long) : ∃ c, ArrOfT s c ty ∧ va_RA s c ty := by
  obtain ⟨c, k, comp, h1, h2, h3⟩ := Cond.arrayClass_spec h
  refine ⟨c, fun N z => ⟨(fun k h => by cases h), k, h2, comp, h3⟩, ?_⟩
  rcases hty with rfl | rfl | rfl <;> exact h1
theorem sb_arrq (h : (Cond.arrayOver (.object "WidowsFund$Act")).before args s = true) : ∃ c, ArrOfT s c (.object "WidowsFund$Act") ∧ va_RA s c (.object "WidowsFund$Act") := by
  obtain ⟨comp, c, k, h1, h2, h3, h4, h5⟩ := Cond.arrayOver_spec h
  exact ⟨c, fun N z => ⟨(fun k h => by cases h), k, h3, comp, h4⟩, k, comp, h3, h4, h1, h5⟩
theorem sb_cls (hts : ∀ w ∈ lw_tbl, w.before args s = true) : ∃ (dC : Nat → ClassId) (dI : Nat → Nat → Nat), ∀ (k : Nat) (q : vw_C), zcl[k]? = some q → u_Kn s q.1 q.2.1 q.2.2 (dC k) (dI k) := by
  obtain ⟨cX0, iX0, kX0⟩ := u_known (ws := GW) (s := s) (args := args) (C := RX0) (T := TX0) (N := 10) (n := 10) (fun w hw => hts w (List.mem_filter.mp hw).1) inX0 (hts (Cond.instantiable RX0 10) (List.mem_of_getElem? (i := 687) (by decide +kernel)))
  obtain ⟨cX1, iX1, kX1⟩ := u_known (ws := GW) (s := s) (args := args) (C := RX1) (T := TX1) (N := 16) (n := 16) (fun w hw => hts w (List.mem_filter.mp hw).1) inX1 (hts (Cond.instantiable RX1 16) (List.mem_of_getElem? (i := 120) (by decide +kernel)))
  obtain ⟨cX2, iX2, kX2⟩ := u_known (ws := GW) (s := s) (args := args) (C := RX2) (T := TX2) (N := 8) (n := 8) (fun w hw => hts w (List.mem_filter.mp hw).1) inX2 (hts (Cond.instantiable RX2 8) (List.mem_of_getElem? (i := 376) (by decide +kernel)))
  obtain ⟨cX3, iX3, kX3⟩ := u_known (ws := GW) (s := s) (args := args) (C := RX3) (T := TX3) (N := 10) (n := 10) (fun w hw => hts w (List.mem_filter.mp hw).1) inX3 (hts (Cond.instantiable RX3 10) (List.mem_of_getElem? (i := 258) (by decide +kernel)))
  obtain ⟨cX4, iX4, kX4⟩ := u_known (ws := GW) (s := s) (args := args) (C := RX4) (T := TX4) (N := 5) (n := 5) (fun w hw => hts w (List.mem_filter.mp hw).1) inX4 (hts (Cond.instantiable RX4 5) (List.mem_of_getElem? (i := 207) (by decide +kernel)))
  obtain ⟨cX5, iX5, kX5⟩ := u_known (ws := GW) (s := s) (args := args) (C := RX5) (T := TX5) (N := 6) (n := 6) (fun w hw => hts w (List.mem_filter.mp hw).1) inX5 (hts (Cond.instantiable RX5 6) (List.mem_of_getElem? (i := 300) (by decide +kernel)))
  obtain ⟨cX6, iX6, kX6⟩ := u_known (ws := GW) (s := s) (args := args) (C := RX6) (T := TX6) (N := 2) (n := 2) (fun w hw => hts w (List.mem_filter.mp hw).1) inX6 (hts (Cond.instantiable RX6 2) (List.mem_of_getElem? (i := 327) (by decide +kernel)))
  obtain ⟨cX7, iX7, kX7⟩ := u_known (ws := GW) (s := s) (args := args) (C := RX7) (T := TX7) (N := 5) (n := 5) (fun w hw => hts w (List.mem_filter.mp hw).1) inX7 (hts (Cond.instantiable RX7 5) (List.mem_of_getElem? (i := 235) (by decide +kernel)))
  obtain ⟨cX8, iX8, kX8⟩ := u_known (ws := GW) (s := s) (args := args) (C := RX8) (T := TX8) (N := 1) (n := 1) (fun w hw => hts w (List.mem_filter.mp hw).1) inX8 (hts (Cond.instantiable RX8 1) (List.mem_of_getElem? (i := 410) (by decide +kernel)))
  obtain ⟨cX9, iX9, kX9⟩ := u_known (ws := GW) (s := s) (args := args) (C := RX9) (T := TX9) (N := 8) (n := 8) (fun w hw => hts w (List.mem_filter.mp hw).1) inX9 (hts (Cond.instantiable RX9 8) (List.mem_of_getElem? (i := 342) (by decide +kernel)))
  obtain ⟨cX10, iX10, kX10⟩ := u_known (ws := GW) (s := s) (args := args) (C := RX10) (T := TX10) (N := 9) (n := 9) (fun w hw => hts w (List.mem_filter.mp hw).1) inX10 (hts (Cond.instantiable RX10 9) (List.mem_of_getElem? (i := 112) (by decide +kernel)))
  obtain ⟨cX11, iX11, kX11⟩ := u_known (ws := GW) (s := s) (args := args) (C := RX11) (T := TX11) (N := 52) (n := 52) (fun w hw => hts w (List.mem_filter.mp hw).1) inX11 (hts (Cond.instantiable RX11 52) (List.mem_of_getElem? (i := 1217) (by decide +kernel)))
  refine ⟨fun k => if k = 0 then cX0 else if k = 1 then cX1 else if k = 2 then cX2 else if k = 3 then cX3 else if k = 4 then cX4 else if k = 5 then cX5 else if k = 6 then cX6 else if k = 7 then cX7 else if k = 8 then cX8 else if k = 9 then cX9 else if k = 10 then cX10 else cX11, fun k => if k = 0 then iX0 else if k = 1 then iX1 else if k = 2 then iX2 else if k = 3 then iX3 else if k = 4 then iX4 else if k = 5 then iX5 else if k = 6 then iX6 else if k = 7 then iX7 else if k = 8 then iX8 else if k = 9 then iX9 else if k = 10 then iX10 else iX11, ?_⟩
  intro k q hq
  rcases k with _ | k
  · cases hq; exact kX0
  rcases k with _ | k
  · cases hq; exact kX1
  rcases k with _ | k
  · cases hq; exact kX2
  rcases k with _ | k
  · cases hq; exact kX3
  rcases k with _ | k
  · cases hq; exact kX4
  rcases k with _ | k
  · cases hq; exact kX5
  rcases k with _ | k
  · cases hq; exact kX6
  rcases k with _ | k
  · cases hq; exact kX7
  rcases k with _ | k
  · cases hq; exact kX8
  rcases k with _ | k
  · cases hq; exact kX9
  rcases k with _ | k
  · cases hq; exact kX10
  rcases k with _ | k
  · cases hq; exact kX11
  simp [zcl] at hq
theorem sb_typ (hts : ∀ w ∈ lw_tbl, w.before args s = true) : ∃ cid : Nat → ClassId, ∀ (k : Nat) (q : ClassId × FieldType), ([(cid 0, .int), (cid 1, .boolean), (cid 2, .long), (cid 3, .object "WidowsFund$Act")] : List (ClassId × FieldType))[k]? = some q → ArrOfT s q.1 q.2 ∧ va_RA s q.1 q.2 := by
  obtain ⟨c0, h0⟩ := sb_arr (hts (Cond.arrayClass .int) (List.mem_of_getElem? (i := 205) (by decide +kernel))) (Or.inl rfl)
  obtain ⟨c1, h1⟩ := sb_arr (hts (Cond.arrayClass .boolean) (List.mem_of_getElem? (i := 408) (by decide +kernel))) (Or.inr (Or.inl rfl))
  obtain ⟨c2, h2⟩ := sb_arr (hts (Cond.arrayClass .long) (List.mem_of_getElem? (i := 420) (by decide +kernel))) (Or.inr (Or.inr rfl))
  obtain ⟨c3, h3⟩ := sb_arrq (hts (Cond.arrayOver (.object "WidowsFund$Act")) (List.mem_of_getElem? (i := 264) (by decide +kernel)))
  refine ⟨fun k => if k = 0 then c0 else if k = 1 then c1 else if k = 2 then c2 else c3, ?_⟩
  intro k q hq
  rcases k with _ | k
  · cases hq; exact h0
  rcases k with _ | k
  · cases hq; exact h1
  rcases k with _ | k
  · cases hq; exact h2
  rcases k with _ | k
  · cases hq; exact h3
  simp at hq
def adS (kS vS : Nat → Nat) (ka si : Nat) : Nat → Nat := fun k => if k < 2000000 then kS (k - 1000000) else if k < 3000000 then ka else if k < 4000000 then vS (k - 3000000) else si
set_option maxRecDepth 100000 in
theorem sb_amb (l : Launch) (hts : ∀ w ∈ lw_tbl, w.before args s = true) (hs : ∀ c ∈ flatC (Jvm.Cond.and given_1 narrow_1), c.before args s = true) : ∃ (z : ZZ) (ad : Nat → Nat), z.1 = l ∧ z.2.2.2.1 = s.heap.size ∧ Amb z ad s := by
  obtain ⟨dC, dI, hK1⟩ := sb_cls hts
  obtain ⟨cid, hK2⟩ := sb_typ hts
  have hA : ∀ a : Nat, a < s.heap.size → ¬ (fun q : Nat => s.heap.size ≤ q) a := fun a h g => absurd h (Nat.not_lt.mpr g)
  obtain ⟨kS, vS, hS, hev⟩ := vk_Sof (args := args) (s := s) (N := 20) (tm := strTm) (len := strLen) (byt := strByt) (A := fun q => s.heap.size ≤ q) (fun i hi => Nat.lt_trans (str_len i hi) (by decide)) (sb_ex hs) (sb_co hs) (sb_ar hs) (sb_le hs) (sb_el hs) (fun i j hi hj h => sb_ne hs i j hi hj h) hA
  obtain ⟨ka, hka, hT⟩ := va_Tof (args := args) (s := s) (tm := .static "WidowsFund" "KIND_ABOVE" "[I") (ty := .int) (N := 7) (f := fun j => .int (kab j)) (A := fun q => s.heap.size ≤ q) (by decide) (hs (Cond.arrayOf (.static "WidowsFund" "KIND_ABOVE" "[I") .int) (by decide +kernel)) (va_eqt (hs (Cond.eq (.length (.static "WidowsFund" "KIND_ABOVE" "[I")) (.int 7)) (by decide +kernel))) (by
    intro i hi
    rcases i with _ | i
    · exact va_eqt (hs (Cond.eq (.elem (.static "WidowsFund" "KIND_ABOVE" "[I") (.int 0)) (.int (-1))) (by decide +kernel))
    rcases i with _ | i
    · exact va_eqt (hs (Cond.eq (.elem (.static "WidowsFund" "KIND_ABOVE" "[I") (.int 1)) (.int 0)) (by decide +kernel))
    rcases i with _ | i
    · exact va_eqt (hs (Cond.eq (.elem (.static "WidowsFund" "KIND_ABOVE" "[I") (.int 2)) (.int 1)) (by decide +kernel))
    rcases i with _ | i
    · exact va_eqt (hs (Cond.eq (.elem (.static "WidowsFund" "KIND_ABOVE" "[I") (.int 3)) (.int 2)) (by decide +kernel))
    rcases i with _ | i
    · exact va_eqt (hs (Cond.eq (.elem (.static "WidowsFund" "KIND_ABOVE" "[I") (.int 4)) (.int 0)) (by decide +kernel))
    rcases i with _ | i
    · exact va_eqt (hs (Cond.eq (.elem (.static "WidowsFund" "KIND_ABOVE" "[I") (.int 5)) (.int 0)) (by decide +kernel))
    rcases i with _ | i
    · exact va_eqt (hs (Cond.eq (.elem (.static "WidowsFund" "KIND_ABOVE" "[I") (.int 6)) (.int 1)) (by decide +kernel))
    omega) hA
  have hZ := va_Zof (args := args) (hts (Cond.laysStatic "WidowsFund" "KIND_ABOVE" "[I") (List.mem_of_getElem? (i := 670) (by decide +kernel))) (hts (Cond.initialized "WidowsFund") (List.mem_of_getElem? (i := 92) (by decide +kernel))) hka hA
  have hC := va_Zof (args := args) (v := .int 1) (hts (Cond.laysStatic "java/lang/String" "COMPACT_STRINGS" "Z") (List.mem_of_getElem? (i := 770) (by decide +kernel))) (hts (Cond.initialized "java/lang/String") (List.mem_of_getElem? (i := 105) (by decide +kernel))) (va_eqt (hs (Cond.eq (.static "java/lang/String" "COMPACT_STRINGS" "Z") (.int 1)) (by decide +kernel))) hA
  have hQ := va_Zqof (args := args) (hts (Cond.laysStatic "jdk/internal/util/Preconditions" "SIOOBE_FORMATTER" "Ljava/util/function/BiFunction;") (List.mem_of_getElem? (i := 786) (by decide +kernel))) (hts (Cond.initialized "jdk/internal/util/Preconditions") (List.mem_of_getElem? (i := 107) (by decide +kernel))) (hs (Cond.isRef (.static "jdk/internal/util/Preconditions" "SIOOBE_FORMATTER" "Ljava/util/function/BiFunction;")) (by decide +kernel)) hA
  have hNF : NF s := ⟨va_AO.of (hts (Cond.arrayOver (.object "WidowsFund$Act")) (List.mem_of_getElem? (i := 264) (by decide +kernel))), va_Nw.of rfl (hts (Cond.methodLinkNest RX10 13 yX1_init RX10) (List.mem_of_getElem? (i := 121) (by decide +kernel))), va_Nw.of rfl (hts (Cond.methodLinkNest RX10 29 yX7_init RX10) (List.mem_of_getElem? (i := 236) (by decide +kernel))), va_Nw.of rfl (hts (Cond.methodLinkNest RX10 43 yX5_init RX10) (List.mem_of_getElem? (i := 301) (by decide +kernel))), va_Nw.of rfl (hts (Cond.methodLinkNest RX10 73 yX8_init RX10) (List.mem_of_getElem? (i := 411) (by decide +kernel))), va_Nw.of rfl (hts (Cond.methodLinkNest RX3 35 yX0_init RX10) (List.mem_of_getElem? (i := 688) (by decide +kernel)))⟩
  obtain ⟨si, hQ⟩ : ∃ si : Nat, va_Z "jdk/internal/util/Preconditions" "SIOOBE_FORMATTER" "Ljava/util/function/BiFunction;" .null (fun q => s.heap.size ≤ q) s s.heap ∨ va_Z "jdk/internal/util/Preconditions" "SIOOBE_FORMATTER" "Ljava/util/function/BiFunction;" (.ref si) (fun q => s.heap.size ≤ q) s s.heap := by
    rcases hQ with h | ⟨t, h⟩
    · exact ⟨0, Or.inl h⟩
    · exact ⟨t, Or.inr h⟩
  have ek : ∀ i, i < 20 → adS kS vS ka si (1000000 + i) = kS i := fun i hi => by unfold adS; rw [if_pos (by omega), Nat.add_sub_cancel_left]
  have ev : ∀ i, i < 20 → adS kS vS ka si (3000000 + i) = vS i := fun i hi => by unfold adS; rw [if_neg (by omega), if_neg (by omega), if_pos (by omega), Nat.add_sub_cancel_left]
  have e2 : adS kS vS ka si 2000000 = ka := by unfold adS; rw [if_neg (by omega), if_pos (by omega)]
  have e4 : adS kS vS ka si 4000000 = si := by unfold adS; rw [if_neg (by omega), if_neg (by omega), if_neg (by omega)]
  refine ⟨(l, (dC, dI), cid, s.heap.size, fun _ => 0), adS kS vS ka si, rfl, rfl, ⟨hK1, hK2⟩, Nat.le_refl _, hS.congr ek ev, ?_, by rw [e2]; exact hZ, by rw [e2]; exact hT, hC, by rw [e4]; exact hQ, hNF⟩
  have hall : ∀ q ∈ strTab, vk_R q.1 q.2.1 q.2.2.1 (kS q.2.2.2) s := List.forall_mem_cons.mpr ⟨vk_R.of (hts (Cond.stringRef "WidowsFund$Tape" 34 "begun;") (List.mem_of_getElem? (i := 756) (by decide +kernel))) (hev 0 (by decide)), List.forall_mem_cons.mpr ⟨vk_R.of (hts (Cond.stringRef "WidowsFund$Tape" 60 "due rent sum tax vacant fine keeps age late ") (List.mem_of_getElem? (i := 813) (by decide +kernel))) (hev 1 (by decide)), List.forall_mem_cons.mpr ⟨vk_R.of (hts (Cond.stringRef "WidowsFund$Tape" 66 "=") (List.mem_of_getElem? (i := 822) (by decide +kernel))) (hev 2 (by decide)), List.forall_mem_cons.mpr ⟨vk_R.of (hts (Cond.stringRef "WidowsFund$Tape" 119 "rate years old wives year ") (List.mem_of_getElem? (i := 846) (by decide +kernel))) (hev 3 (by decide)), List.forall_mem_cons.mpr ⟨vk_R.of (hts (Cond.stringRef "WidowsFund$Tape" 81 " if ") (List.mem_of_getElem? (i := 854) (by decide +kernel))) (hev 4 (by decide)), List.forall_mem_cons.mpr ⟨vk_R.of (hts (Cond.stringRef "WidowsFund$Tape" 83 " and ") (List.mem_of_getElem? (i := 855) (by decide +kernel))) (hev 5 (by decide)), List.forall_mem_cons.mpr ⟨vk_R.of (hts (Cond.stringRef "WidowsFundModel" 243 "due") (List.mem_of_getElem? (i := 1571) (by decide +kernel))) (hev 6 (by decide)), List.forall_mem_cons.mpr ⟨vk_R.of (hts (Cond.stringRef "WidowsFundModel" 245 "rent") (List.mem_of_getElem? (i := 1572) (by decide +kernel))) (hev 7 (by decide)), List.forall_mem_cons.mpr ⟨vk_R.of (hts (Cond.stringRef "WidowsFundModel" 247 "sum") (List.mem_of_getElem? (i := 1573) (by decide +kernel))) (hev 8 (by decide)), List.forall_mem_cons.mpr ⟨vk_R.of (hts (Cond.stringRef "WidowsFundModel" 249 "tax") (List.mem_of_getElem? (i := 1574) (by decide +kernel))) (hev 9 (by decide)), List.forall_mem_cons.mpr ⟨vk_R.of (hts (Cond.stringRef "WidowsFundModel" 251 "vacant") (List.mem_of_getElem? (i := 1575) (by decide +kernel))) (hev 10 (by decide)), List.forall_mem_cons.mpr ⟨vk_R.of (hts (Cond.stringRef "WidowsFundModel" 253 "fine") (List.mem_of_getElem? (i := 1576) (by decide +kernel))) (hev 11 (by decide)), List.forall_mem_cons.mpr ⟨vk_R.of (hts (Cond.stringRef "WidowsFundModel" 255 "keeps") (List.mem_of_getElem? (i := 1577) (by decide +kernel))) (hev 12 (by decide)), List.forall_mem_cons.mpr ⟨vk_R.of (hts (Cond.stringRef "WidowsFundModel" 257 "age") (List.mem_of_getElem? (i := 1578) (by decide +kernel))) (hev 13 (by decide)), List.forall_mem_cons.mpr ⟨vk_R.of (hts (Cond.stringRef "WidowsFundModel" 259 "late") (List.mem_of_getElem? (i := 1579) (by decide +kernel))) (hev 14 (by decide)), List.forall_mem_cons.mpr ⟨vk_R.of (hts (Cond.stringRef "WidowsFundModel" 261 "begun;") (List.mem_of_getElem? (i := 1580) (by decide +kernel))) (va_eqR (hs (Cond.eq (Term.string "WidowsFund$Tape" 34) (Term.string "WidowsFundModel" 261)) (by decide +kernel)) (hev 0 (by decide))), List.forall_mem_cons.mpr ⟨vk_R.of (hts (Cond.stringRef "WidowsFundModel" 263 "rate") (List.mem_of_getElem? (i := 1581) (by decide +kernel))) (hev 15 (by decide)), List.forall_mem_cons.mpr ⟨vk_R.of (hts (Cond.stringRef "WidowsFundModel" 265 "years") (List.mem_of_getElem? (i := 1582) (by decide +kernel))) (hev 16 (by decide)), List.forall_mem_cons.mpr ⟨vk_R.of (hts (Cond.stringRef "WidowsFundModel" 267 "old") (List.mem_of_getElem? (i := 1583) (by decide +kernel))) (hev 17 (by decide)), List.forall_mem_cons.mpr ⟨vk_R.of (hts (Cond.stringRef "WidowsFundModel" 269 "wives") (List.mem_of_getElem? (i := 1584) (by decide +kernel))) (hev 18 (by decide)), List.forall_mem_cons.mpr ⟨vk_R.of (hts (Cond.stringRef "WidowsFundModel" 271 "year") (List.mem_of_getElem? (i := 1585) (by decide +kernel))) (hev 19 (by decide)), List.forall_mem_cons.mpr ⟨vk_R.of (hts (Cond.stringRef "WidowsFundModel" 311 " and ") (List.mem_of_getElem? (i := 1588) (by decide +kernel))) (va_eqR (hs (Cond.eq (Term.string "WidowsFund$Tape" 83) (Term.string "WidowsFundModel" 311)) (by decide +kernel)) (hev 5 (by decide))), List.forall_mem_cons.mpr ⟨vk_R.of (hts (Cond.stringRef "WidowsFundModel" 317 " if ") (List.mem_of_getElem? (i := 1633) (by decide +kernel))) (va_eqR (hs (Cond.eq (Term.string "WidowsFund$Tape" 81) (Term.string "WidowsFundModel" 317)) (by decide +kernel)) (hev 4 (by decide))), fun _ h => absurd h List.not_mem_nil⟩⟩⟩⟩⟩⟩⟩⟩⟩⟩⟩⟩⟩⟩⟩⟩⟩⟩⟩⟩⟩⟩⟩
  have hlt : ∀ q ∈ strTab, q.2.2.2 < 20 := by decide
  intro q hq
  rw [ek _ (hlt q hq)]
  exact hall q hq
end SB
