/-! all 48 calls; the invariant at the start -/
theorem stepOK : StepOK (InvA ActI) := ⟨st0 ActI_stb, st1 ActI_stb, st2 ActI_stb, st3 ActI_stb, st4 ActI_stb, st5 ActI_stb, st6 ActI_stb, st7 ActI_stb, st8 ActI_stb, st9 ActI_stb, st10 ActI_stb, st11, st12 ActI_stb, st13, st14 ActI_stb, st15, st16, st17, st18, st19, st20, st21, st22, st23, st24, st25, st26 ActI_stb, st27, st28 ActI_stb, st29 ActI_stb, st30 ActI_stb, st31 ActI_stb, st32 ActI_stb, st33 ActI_stb, st34 ActI_stb, st35 ActI_stb, st36 ActI_stb, st37, st38 ActI_stb, st39 ActI_stb, st40, st41 ActI_stb, st42, st43, st44 ActI_stb, st45, st46, st47 ActI_stb fun _ _ h => ActI_count h⟩
theorem tab0_in : ∀ a, a < 100 → 0 ≤ (tab0 a).toInt ∧ (tab0 a).toInt ≤ 1000 := by decide +kernel
theorem inv0 : InvA ActI s0 t0 := by
  refine ⟨0, 0, [], ?_, ?_, ?_, 0, fun _ => 0, [], by decide, rfl, ?_, ?_, ?_, ?_, ?_, ?_, ?_⟩
  · exact ⟨by decide, rfl, rfl, rfl, rfl, rfl, rfl, fun p hp => absurd hp (Nat.not_lt_zero _)⟩
  · refine ⟨by decide, rfl, rfl, rfl, rfl, rfl, rfl, rfl, fun i hi => absurd hi (Nat.not_lt_zero _), fun i hi => absurd hi (Nat.not_lt_zero _), by decide, rfl, fun k hk => absurd hk (Nat.not_lt_zero _), List.nodup_nil, List.Pairwise.nil, fun e => ⟨fun h => absurd h (by simp), fun h => absurd h.1 (Nat.not_lt_zero _)⟩, ⟨0, Nat.le_refl _, rfl, rfl, fun _ i hi => absurd hi (Nat.not_lt_zero _)⟩, ⟨by decide, by decide⟩, rfl⟩
  · refine ⟨⟨0, by decide, rfl, rfl⟩, rfl, fun i => ⟨by show (0 : Int) ≤ (0 : Int32).toInt; decide, by show (0 : Int32).toInt ≤ 255; decide⟩, ⟨⟨by decide, by decide⟩, rfl⟩, ⟨0, by decide, rfl, rfl, rfl, rfl, rfl, rfl, fun l hl => absurd hl (Nat.not_lt_zero _)⟩, ⟨rfl, fun a ha => tab0_in a ha, by decide +kernel⟩, ⟨⟨by decide, by decide⟩, rfl⟩, ⟨0, by decide, rfl, rfl⟩, rfl, rfl, rfl, fun r hr => ⟨0, by decide, rfl, fun k hk => absurd hk (Nat.not_lt_zero _)⟩, ⟨0, by decide, rfl, rfl, fun k hk => absurd hk (Nat.not_lt_zero _)⟩, rfl, rfl, rfl, ?_, rfl, rfl⟩
    decide +kernel
  · exact ⟨by decide, rfl, fun a ha => absurd ha (Nat.not_lt_zero _), rfl, fun k hk => absurd hk (Nat.not_lt_zero _), List.nodup_nil, List.Pairwise.nil, fun a => ⟨fun h => absurd h (by simp), fun h => absurd h (Nat.not_lt_zero _)⟩, fun a ha => absurd ha (Nat.not_lt_zero _)⟩
  · exact fun a _ ha => absurd ha (Nat.not_lt_zero _)
  · intro s hs; cases hs
  · exact fun _ _ _ => rfl
  · intro i a ha; cases ha
  · exact Nat.zero_le _
  · exact fun _ => Nat.le_refl _
