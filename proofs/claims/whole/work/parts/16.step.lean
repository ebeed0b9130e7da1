/-- W_seat -/
def St0 (Inv : MS → XS → Prop) : Prop := ∀ (σ : MS) (τ : XS) (xs : Nat → Int32) (i : Nat), Inv σ τ → ∃ r : Int32, ∃ σ1 : MS, ∃ τ1 : XS, W_seat τ (xs (i + 1)) = some (r, τ1) ∧ M_seat σ (xs (i + 1)) = some (r, σ1) ∧ Inv σ1 τ1
/-- W_person -/
def St1 (Inv : MS → XS → Prop) : Prop := ∀ (σ : MS) (τ : XS) (xs : Nat → Int32) (i : Nat), Inv σ τ → ∃ r : Int32, ∃ σ1 : MS, ∃ τ1 : XS, W_person τ (xs (i + 1)) (xs (i + 2)) (xs (i + 3)) (xs (i + 4)) = some (r, τ1) ∧ M_person σ (xs (i + 1)) (xs (i + 2)) (xs (i + 3)) (xs (i + 4)) = some (r, σ1) ∧ Inv σ1 τ1
/-- W_birth -/
def St2 (Inv : MS → XS → Prop) : Prop := ∀ (σ : MS) (τ : XS) (xs : Nat → Int32) (i : Nat), Inv σ τ → ∃ r : Int32, W_birth τ (xs (i + 1)) (xs (i + 2)) = some r ∧ M_birth σ (xs (i + 1)) (xs (i + 2)) = some r ∧ Inv σ τ
/-- W_wed -/
def St3 (Inv : MS → XS → Prop) : Prop := ∀ (σ : MS) (τ : XS) (xs : Nat → Int32) (i : Nat), Inv σ τ → ∃ r : Int32, ∃ σ1 : MS, ∃ τ1 : XS, W_wed τ (xs (i + 1)) (xs (i + 2)) (xs (i + 3)) = some (r, τ1) ∧ M_wed σ (xs (i + 1)) (xs (i + 2)) (xs (i + 3)) = some (r, σ1) ∧ Inv σ1 τ1
/-- W_death -/
def St4 (Inv : MS → XS → Prop) : Prop := ∀ (σ : MS) (τ : XS) (xs : Nat → Int32) (i : Nat), Inv σ τ → ∃ r : Int32, ∃ σ1 : MS, ∃ τ1 : XS, W_death τ (xs (i + 1)) (xs (i + 2)) = some (r, τ1) ∧ M_death σ (xs (i + 1)) (xs (i + 2)) = some (r, σ1) ∧ Inv σ1 τ1
/-- W_member -/
def St5 (Inv : MS → XS → Prop) : Prop := ∀ (σ : MS) (τ : XS) (xs : Nat → Int32) (i : Nat), Inv σ τ → ∃ r : Int32, ∃ σ1 : MS, ∃ τ1 : XS, W_member τ (xs (i + 1)) (xs (i + 2)) (xs (i + 3)) (xs (i + 4)) = some (r, τ1) ∧ M_member σ (xs (i + 1)) (xs (i + 2)) (xs (i + 3)) (xs (i + 4)) = some (r, σ1) ∧ Inv σ1 τ1
/-- W_rate -/
def St6 (Inv : MS → XS → Prop) : Prop := ∀ (σ : MS) (τ : XS) (xs : Nat → Int32) (i : Nat), Inv σ τ → ∃ r : Int32, ∃ σ1 : MS, ∃ τ1 : XS, W_rate τ (xs (i + 1)) (xs (i + 2)) (xs (i + 3)) = some (r, τ1) ∧ M_rate σ (xs (i + 1)) (xs (i + 2)) (xs (i + 3)) = some (r, σ1) ∧ Inv σ1 τ1
/-- W_gone -/
def St7 (Inv : MS → XS → Prop) : Prop := ∀ (σ : MS) (τ : XS) (xs : Nat → Int32) (i : Nat), Inv σ τ → ∃ r : Int32, ∃ σ1 : MS, ∃ τ1 : XS, W_gone τ (xs (i + 1)) (if xs (i + 2) = 0 then 0 else 1) (xs (i + 3)) = some (r, τ1) ∧ M_gone σ (xs (i + 1)) (if xs (i + 2) = 0 then 0 else 1) (xs (i + 3)) = some (r, σ1) ∧ Inv σ1 τ1
/-- W_pay -/
def St8 (Inv : MS → XS → Prop) : Prop := ∀ (σ : MS) (τ : XS) (xs : Nat → Int32) (i : Nat), Inv σ τ → ∃ r : Int32, ∃ σ1 : MS, ∃ τ1 : XS, W_pay τ (xs (i + 1)) (xs (i + 2)) (xs (i + 3)) = some (r, τ1) ∧ M_pay σ (xs (i + 1)) (xs (i + 2)) (xs (i + 3)) = some (r, σ1) ∧ Inv σ1 τ1
/-- W_strike -/
def St9 (Inv : MS → XS → Prop) : Prop := ∀ (σ : MS) (τ : XS) (xs : Nat → Int32) (i : Nat), Inv σ τ → ∃ r : Int32, ∃ σ1 : MS, ∃ τ1 : XS, W_strike τ (xs (i + 1)) = some (r, τ1) ∧ M_strike σ (xs (i + 1)) = some (r, σ1) ∧ Inv σ1 τ1
/-- W_known -/
def St10 (Inv : MS → XS → Prop) : Prop := ∀ (σ : MS) (τ : XS) (xs : Nat → Int32) (i : Nat), Inv σ τ → ∃ r : Int32, W_known τ (xs (i + 1)) (xs (i + 2)) = some r ∧ M_known σ (xs (i + 1)) (xs (i + 2)) = some r ∧ Inv σ τ
/-- W_as -/
def St11 (Inv : MS → XS → Prop) : Prop := ∀ (σ : MS) (τ : XS) (xs : Nat → Int32) (i : Nat), Inv σ τ → ∃ r : Int32, ∃ σ1 : MS, ∃ τ1 : XS, W_as τ (xs (i + 1)) (xs (i + 2)) (xs (i + 3)) = some (r, τ1) ∧ M_as σ (xs (i + 1)) (xs (i + 2)) (xs (i + 3)) = some (r, σ1) ∧ Inv σ1 τ1
/-- W_live -/
def St12 (Inv : MS → XS → Prop) : Prop := ∀ (σ : MS) (τ : XS) (xs : Nat → Int32) (i : Nat), Inv σ τ → ∃ r : Int32, ∃ σ1 : MS, ∃ τ1 : XS, W_live τ (xs (i + 1)) (xs (i + 2)) (xs (i + 3)) (xs (i + 4)) = some (r, τ1) ∧ M_live σ (xs (i + 1)) (xs (i + 2)) (xs (i + 3)) (xs (i + 4)) = some (r, σ1) ∧ Inv σ1 τ1
/-- W_part -/
def St13 (Inv : MS → XS → Prop) : Prop := ∀ (σ : MS) (τ : XS) (xs : Nat → Int32) (i : Nat), Inv σ τ → ∃ r : Int32, ∃ σ1 : MS, ∃ τ1 : XS, W_part τ (xs (i + 1)) (xs (i + 2)) (xs (i + 3)) (xs (i + 4)) = some (r, τ1) ∧ M_part σ (xs (i + 1)) (xs (i + 2)) (xs (i + 3)) (xs (i + 4)) = some (r, σ1) ∧ Inv σ1 τ1
/-- W_feed -/
def St14 (Inv : MS → XS → Prop) : Prop := ∀ (σ : MS) (τ : XS) (xs : Nat → Int32) (i : Nat), Inv σ τ → ∃ r : Int32, ∃ σ1 : MS, ∃ τ1 : XS, W_feed τ ((((xs (i + 1))).toInt64 <<< ((32 : Int32).toInt64 &&& 63)) ||| (((xs (i + 2))).toInt64 &&& (4294967295))) (xs (i + 3)) = some (r, τ1) ∧ M_feed σ ((((xs (i + 1))).toInt64 <<< ((32 : Int32).toInt64 &&& 63)) ||| (((xs (i + 2))).toInt64 &&& (4294967295))) (xs (i + 3)) = some (r, σ1) ∧ Inv σ1 τ1
/-- W_text -/
def St15 (Inv : MS → XS → Prop) : Prop := ∀ (σ : MS) (τ : XS) (xs : Nat → Int32) (i : Nat), Inv σ τ → ∃ r : Int32, ∃ σ1 : MS, ∃ τ1 : XS, W_text τ (xs (i + 1)) = some (r, τ1) ∧ M_text σ (xs (i + 1)) = some (r, σ1) ∧ Inv σ1 τ1
/-- W_force -/
def St16 (Inv : MS → XS → Prop) : Prop := ∀ (σ : MS) (τ : XS) (xs : Nat → Int32) (i : Nat), Inv σ τ → ∃ r : Int32, W_force τ (xs (i + 1)) (xs (i + 2)) = some r ∧ M_force σ (xs (i + 1)) (xs (i + 2)) = some r ∧ Inv σ τ
/-- W_out -/
def St17 (Inv : MS → XS → Prop) : Prop := ∀ (σ : MS) (τ : XS) (xs : Nat → Int32) (i : Nat), Inv σ τ → ∃ r : Int32, ∃ σ1 : MS, ∃ τ1 : XS, W_out τ (xs (i + 1)) (xs (i + 2)) (xs (i + 3)) = some (r, τ1) ∧ M_out σ (xs (i + 1)) (xs (i + 2)) (xs (i + 3)) = some (r, σ1) ∧ Inv σ1 τ1
/-- W_rule -/
def St18 (Inv : MS → XS → Prop) : Prop := ∀ (σ : MS) (τ : XS) (xs : Nat → Int32) (i : Nat), Inv σ τ → ∃ r : Int32, ∃ σ1 : MS, ∃ τ1 : XS, W_rule τ (xs (i + 1)) (xs (i + 2)) (xs (i + 3)) (xs (i + 4)) = some (r, τ1) ∧ M_rule σ (xs (i + 1)) (xs (i + 2)) (xs (i + 3)) (xs (i + 4)) = some (r, σ1) ∧ Inv σ1 τ1
/-- W_why -/
def St19 (Inv : MS → XS → Prop) : Prop := ∀ (σ : MS) (τ : XS) (xs : Nat → Int32) (i : Nat), Inv σ τ → ∃ r : Int32, ∃ σ1 : MS, ∃ τ1 : XS, W_why τ (xs (i + 1)) (xs (i + 2)) (xs (i + 3)) (xs (i + 4)) = some (r, τ1) ∧ M_why σ (xs (i + 1)) (xs (i + 2)) (xs (i + 3)) (xs (i + 4)) = some (r, σ1) ∧ Inv σ1 τ1
/-- W_quarrel -/
def St20 (Inv : MS → XS → Prop) : Prop := ∀ (σ : MS) (τ : XS) (xs : Nat → Int32) (i : Nat), Inv σ τ → ∃ r : Int32, ∃ σ1 : MS, ∃ τ1 : XS, W_quarrel τ (xs (i + 1)) (xs (i + 2)) (xs (i + 3)) (xs (i + 4)) = some (r, τ1) ∧ M_quarrel σ (xs (i + 1)) (xs (i + 2)) (xs (i + 3)) (xs (i + 4)) = some (r, σ1) ∧ Inv σ1 τ1
/-- W_owe -/
def St21 (Inv : MS → XS → Prop) : Prop := ∀ (σ : MS) (τ : XS) (xs : Nat → Int32) (i : Nat), Inv σ τ → ∃ r : Int64, ∃ σ1 : MS, ∃ τ1 : XS, W_owe τ (xs (i + 1)) (xs (i + 2)) (xs (i + 3)) (xs (i + 4)) = some (r, τ1) ∧ M_owe σ (xs (i + 1)) (xs (i + 2)) (xs (i + 3)) (xs (i + 4)) = some (r, σ1) ∧ Inv σ1 τ1
/-- W_vacant -/
def St22 (Inv : MS → XS → Prop) : Prop := ∀ (σ : MS) (τ : XS) (xs : Nat → Int32) (i : Nat), Inv σ τ → ∃ r : Int64, ∃ σ1 : MS, ∃ τ1 : XS, W_vacant τ (xs (i + 1)) (xs (i + 2)) = some (r, τ1) ∧ M_vacant σ (xs (i + 1)) (xs (i + 2)) = some (r, σ1) ∧ Inv σ1 τ1
/-- W_rent -/
def St23 (Inv : MS → XS → Prop) : Prop := ∀ (σ : MS) (τ : XS) (xs : Nat → Int32) (i : Nat), Inv σ τ → ∃ r : Int64, ∃ σ1 : MS, ∃ τ1 : XS, W_rent τ (xs (i + 1)) (xs (i + 2)) (xs (i + 3)) = some (r, τ1) ∧ M_rent σ (xs (i + 1)) (xs (i + 2)) (xs (i + 3)) = some (r, σ1) ∧ Inv σ1 τ1
/-- W_widow -/
def St24 (Inv : MS → XS → Prop) : Prop := ∀ (σ : MS) (τ : XS) (xs : Nat → Int32) (i : Nat), Inv σ τ → ∃ r : Int64, ∃ σ1 : MS, ∃ τ1 : XS, W_widow τ (xs (i + 1)) (xs (i + 2)) (xs (i + 3)) = some (r, τ1) ∧ M_widow σ (xs (i + 1)) (xs (i + 2)) (xs (i + 3)) = some (r, σ1) ∧ Inv σ1 τ1
/-- W_sum -/
def St25 (Inv : MS → XS → Prop) : Prop := ∀ (σ : MS) (τ : XS) (xs : Nat → Int32) (i : Nat), Inv σ τ → ∃ r : Int64, ∃ σ1 : MS, ∃ τ1 : XS, W_sum τ (xs (i + 1)) (xs (i + 2)) (xs (i + 3)) = some (r, τ1) ∧ M_sum σ (xs (i + 1)) (xs (i + 2)) (xs (i + 3)) = some (r, σ1) ∧ Inv σ1 τ1
/-- W_begin -/
def St26 (Inv : MS → XS → Prop) : Prop := ∀ (σ : MS) (τ : XS) (xs : Nat → Int32) (i : Nat), Inv σ τ → ∃ r : Int32, ∃ σ1 : MS, ∃ τ1 : XS, W_begin τ (xs (i + 1)) = some (r, τ1) ∧ M_begin σ (xs (i + 1)) = some (r, σ1) ∧ Inv σ1 τ1
/-- W_chest -/
def St27 (Inv : MS → XS → Prop) : Prop := ∀ (σ : MS) (τ : XS) (xs : Nat → Int32) (i : Nat), Inv σ τ → ∃ r : Int64, ∃ σ1 : MS, ∃ τ1 : XS, W_chest τ (xs (i + 1)) (xs (i + 2)) = some (r, τ1) ∧ M_chest σ (xs (i + 1)) (xs (i + 2)) = some (r, σ1) ∧ Inv σ1 τ1
/-- W_loan -/
def St28 (Inv : MS → XS → Prop) : Prop := ∀ (σ : MS) (τ : XS) (xs : Nat → Int32) (i : Nat), Inv σ τ → ∃ r : Int32, ∃ σ1 : MS, ∃ τ1 : XS, W_loan τ (xs (i + 1)) (xs (i + 2)) (xs (i + 3)) (xs (i + 4)) = some (r, τ1) ∧ M_loan σ (xs (i + 1)) (xs (i + 2)) (xs (i + 3)) (xs (i + 4)) = some (r, σ1) ∧ Inv σ1 τ1
/-- W_bad -/
def St29 (Inv : MS → XS → Prop) : Prop := ∀ (σ : MS) (τ : XS) (xs : Nat → Int32) (i : Nat), Inv σ τ → ∃ r : Int32, ∃ σ1 : MS, ∃ τ1 : XS, W_bad τ (xs (i + 1)) (xs (i + 2)) = some (r, τ1) ∧ M_bad σ (xs (i + 1)) (xs (i + 2)) = some (r, σ1) ∧ Inv σ1 τ1
/-- W_due -/
def St30 (Inv : MS → XS → Prop) : Prop := ∀ (σ : MS) (τ : XS) (xs : Nat → Int32) (i : Nat), Inv σ τ → ∃ r : Int64, W_due τ (xs (i + 1)) (xs (i + 2)) = some r ∧ M_due σ (xs (i + 1)) (xs (i + 2)) = some r ∧ Inv σ τ
/-- W_table -/
def St31 (Inv : MS → XS → Prop) : Prop := ∀ (σ : MS) (τ : XS) (xs : Nat → Int32) (i : Nat), Inv σ τ → ∃ r : Int32, ∃ σ1 : MS, ∃ τ1 : XS, W_table τ (xs (i + 1)) (xs (i + 2)) = some (r, τ1) ∧ M_table σ (xs (i + 1)) (xs (i + 2)) = some (r, σ1) ∧ Inv σ1 τ1
/-- W_own -/
def St32 (Inv : MS → XS → Prop) : Prop := ∀ (σ : MS) (τ : XS) (xs : Nat → Int32) (i : Nat), Inv σ τ → ∃ r : Int32, ∃ σ1 : MS, ∃ τ1 : XS, W_own τ (xs (i + 1)) (xs (i + 2)) (xs (i + 3)) (xs (i + 4)) = some (r, τ1) ∧ M_own σ (xs (i + 1)) (xs (i + 2)) (xs (i + 3)) (xs (i + 4)) = some (r, σ1) ∧ Inv σ1 τ1
/-- W_alive -/
def St33 (Inv : MS → XS → Prop) : Prop := ∀ (σ : MS) (τ : XS) (xs : Nat → Int32) (i : Nat), Inv σ τ → ∃ r : Int32, W_alive τ (xs (i + 1)) (xs (i + 2)) = some r ∧ M_alive σ (xs (i + 1)) (xs (i + 2)) = some r ∧ Inv σ τ
/-- W_expect -/
def St34 (Inv : MS → XS → Prop) : Prop := ∀ (σ : MS) (τ : XS) (xs : Nat → Int32) (i : Nat), Inv σ τ → ∃ r : Int32, W_expect τ (xs (i + 1)) = some r ∧ M_expect σ (xs (i + 1)) = some r ∧ Inv σ τ
/-- W_interest -/
def St35 (Inv : MS → XS → Prop) : Prop := ∀ (σ : MS) (τ : XS) (xs : Nat → Int32) (i : Nat), Inv σ τ → ∃ r : Int32, ∃ σ1 : MS, ∃ τ1 : XS, W_interest τ (xs (i + 1)) = some (r, τ1) ∧ M_interest σ (xs (i + 1)) = some (r, σ1) ∧ Inv σ1 τ1
/-- W_worth -/
def St36 (Inv : MS → XS → Prop) : Prop := ∀ (σ : MS) (τ : XS) (xs : Nat → Int32) (i : Nat), Inv σ τ → ∃ r : Int64, W_worth τ (xs (i + 1)) (xs (i + 2)) = some r ∧ M_worth σ (xs (i + 1)) (xs (i + 2)) = some r ∧ Inv σ τ
/-- W_value -/
def St37 (Inv : MS → XS → Prop) : Prop := ∀ (σ : MS) (τ : XS) (xs : Nat → Int32) (i : Nat), Inv σ τ → ∃ r : Int64, ∃ σ1 : MS, ∃ τ1 : XS, W_value τ (xs (i + 1)) (xs (i + 2)) = some (r, τ1) ∧ M_value σ (xs (i + 1)) (xs (i + 2)) = some (r, σ1) ∧ Inv σ1 τ1
/-- W_row -/
def St38 (Inv : MS → XS → Prop) : Prop := ∀ (σ : MS) (τ : XS) (xs : Nat → Int32) (i : Nat), Inv σ τ → ∃ r : Int32, ∃ σ1 : MS, ∃ τ1 : XS, W_row τ = some (r, τ1) ∧ M_row σ = some (r, σ1) ∧ Inv σ1 τ1
/-- W_rows -/
def St39 (Inv : MS → XS → Prop) : Prop := ∀ (σ : MS) (τ : XS) (xs : Nat → Int32) (i : Nat), Inv σ τ → ∃ r : Int32, ∃ σ1 : MS, ∃ τ1 : XS, W_rows τ (xs (i + 1)) (xs (i + 2)) (xs (i + 3)) = some (r, τ1) ∧ M_rows σ (xs (i + 1)) (xs (i + 2)) (xs (i + 3)) = some (r, σ1) ∧ Inv σ1 τ1
/-- W_shortBy -/
def St40 (Inv : MS → XS → Prop) : Prop := ∀ (σ : MS) (τ : XS) (xs : Nat → Int32) (i : Nat), Inv σ τ → ∃ r : Int32, ∃ σ1 : MS, ∃ τ1 : XS, W_shortBy τ (xs (i + 1)) (xs (i + 2)) (xs (i + 3)) = some (r, τ1) ∧ M_shortBy σ (xs (i + 1)) (xs (i + 2)) (xs (i + 3)) = some (r, σ1) ∧ Inv σ1 τ1
/-- W_step -/
def St41 (Inv : MS → XS → Prop) : Prop := ∀ (σ : MS) (τ : XS) (xs : Nat → Int32) (i : Nat), Inv σ τ → ∃ r : Int32, ∃ σ1 : MS, ∃ τ1 : XS, W_step τ (xs (i + 1)) (xs (i + 2)) = some (r, τ1) ∧ M_step σ (xs (i + 1)) (xs (i + 2)) = some (r, σ1) ∧ Inv σ1 τ1
/-- W_plan -/
def St42 (Inv : MS → XS → Prop) : Prop := ∀ (σ : MS) (τ : XS) (xs : Nat → Int32) (i : Nat), Inv σ τ → ∃ r : Int32, ∃ σ1 : MS, ∃ τ1 : XS, W_plan τ (xs (i + 1)) (xs (i + 2)) (xs (i + 3)) = some (r, τ1) ∧ M_plan σ (xs (i + 1)) (xs (i + 2)) (xs (i + 3)) = some (r, σ1) ∧ Inv σ1 τ1
/-- W_tried -/
def St43 (Inv : MS → XS → Prop) : Prop := ∀ (σ : MS) (τ : XS) (xs : Nat → Int32) (i : Nat), Inv σ τ → ∃ r : Int64, ∃ σ1 : MS, ∃ τ1 : XS, W_tried τ (xs (i + 1)) (xs (i + 2)) = some (r, τ1) ∧ M_tried σ (xs (i + 1)) (xs (i + 2)) = some (r, σ1) ∧ Inv σ1 τ1
/-- W_told -/
def St44 (Inv : MS → XS → Prop) : Prop := ∀ (σ : MS) (τ : XS) (xs : Nat → Int32) (i : Nat), Inv σ τ → ∃ r : Int64, ∃ σ1 : MS, ∃ τ1 : XS, W_told τ (xs (i + 1)) (xs (i + 2)) ((((xs (i + 3))).toInt64 <<< ((32 : Int32).toInt64 &&& 63)) ||| (((xs (i + 4))).toInt64 &&& (4294967295))) = some (r, τ1) ∧ M_told σ (xs (i + 1)) (xs (i + 2)) ((((xs (i + 3))).toInt64 <<< ((32 : Int32).toInt64 &&& 63)) ||| (((xs (i + 4))).toInt64 &&& (4294967295))) = some (r, σ1) ∧ Inv σ1 τ1
/-- W_check -/
def St45 (Inv : MS → XS → Prop) : Prop := ∀ (σ : MS) (τ : XS) (xs : Nat → Int32) (i : Nat), Inv σ τ → ∃ r : Int32, ∃ σ1 : MS, ∃ τ1 : XS, W_check τ (xs (i + 1)) (xs (i + 2)) = some (r, τ1) ∧ M_check σ (xs (i + 1)) (xs (i + 2)) = some (r, σ1) ∧ Inv σ1 τ1
/-- W_judge -/
def St46 (Inv : MS → XS → Prop) : Prop := ∀ (σ : MS) (τ : XS) (xs : Nat → Int32) (i : Nat), Inv σ τ → ∃ r : Int32, ∃ σ1 : MS, ∃ τ1 : XS, W_judge τ (xs (i + 1)) (xs (i + 2)) = some (r, τ1) ∧ M_judge σ (xs (i + 1)) (xs (i + 2)) = some (r, σ1) ∧ Inv σ1 τ1
/-- W_count -/
def St47 (Inv : MS → XS → Prop) : Prop := ∀ (σ : MS) (τ : XS) (xs : Nat → Int32) (i : Nat), Inv σ τ → ∃ r : Int32, W_count τ (xs (i + 1)) = some r ∧ M_count σ (xs (i + 1)) = some r ∧ Inv σ τ
def StepOK (Inv : MS → XS → Prop) : Prop := St0 Inv ∧ St1 Inv ∧ St2 Inv ∧ St3 Inv ∧ St4 Inv ∧ St5 Inv ∧ St6 Inv ∧ St7 Inv ∧ St8 Inv ∧ St9 Inv ∧ St10 Inv ∧ St11 Inv ∧ St12 Inv ∧ St13 Inv ∧ St14 Inv ∧ St15 Inv ∧ St16 Inv ∧ St17 Inv ∧ St18 Inv ∧ St19 Inv ∧ St20 Inv ∧ St21 Inv ∧ St22 Inv ∧ St23 Inv ∧ St24 Inv ∧ St25 Inv ∧ St26 Inv ∧ St27 Inv ∧ St28 Inv ∧ St29 Inv ∧ St30 Inv ∧ St31 Inv ∧ St32 Inv ∧ St33 Inv ∧ St34 Inv ∧ St35 Inv ∧ St36 Inv ∧ St37 Inv ∧ St38 Inv ∧ St39 Inv ∧ St40 Inv ∧ St41 Inv ∧ St42 Inv ∧ St43 Inv ∧ St44 Inv ∧ St45 Inv ∧ St46 Inv ∧ St47 Inv
theorem dL_law_18 : decode code 18 = .ok (.iload_n 3, 1) := by decide +kernel
theorem dL_law_19 : decode code 19 = .ok (.aload_n 0, 1) := by decide +kernel
theorem dL_law_20 : decode code 20 = .ok (.arraylength, 1) := by decide +kernel
theorem dL_law_21 : decode code 21 = .ok (.iconst 5, 1) := by decide +kernel
theorem dL_law_22 : decode code 22 = .ok (.isub, 1) := by decide +kernel
theorem dL_law_23 : decode code 23 = .ok (.if_icmp .gt 2134, 3) := by decide +kernel
theorem dL_law_26 : decode code 26 = .ok (.aload_n 0, 1) := by decide +kernel
theorem dL_law_27 : decode code 27 = .ok (.iload_n 3, 1) := by decide +kernel
theorem dL_law_28 : decode code 28 = .ok (.iaload, 1) := by decide +kernel
theorem dL_law_29 : decode code 29 = .ok (.bipush 63, 2) := by decide +kernel
theorem dL_law_31 : decode code 31 = .ok (.iand, 1) := by decide +kernel
theorem dL_law_32 : decode code 32 = .ok (.tableswitch 2119 0 47 #[208, 231, 284, 317, 360, 393, 446, 489, 548, 591, 614, 647, 690, 743, 796, 859, 882, 915, 958, 1011, 1064, 1117, 1171, 1205, 1249, 1293, 1337, 1360, 1394, 1447, 1480, 1514, 1547, 1600, 1633, 1656, 1679, 1713, 1747, 1760, 1803, 1846, 1879, 1922, 1956, 2030, 2063, 2096], 208) := by decide +kernel
theorem dL_law_2151 : decode code 2151 = .ok (.iinc 3 5, 3) := by decide +kernel
theorem dL_law_2154 : decode code 2154 = .ok (.goto (-2136), 3) := by decide +kernel
theorem dL_law_2157 : decode code 2157 = .ok (.iconst 1, 1) := by decide +kernel
theorem dL_law_2158 : decode code 2158 = .ok (.ireturn, 1) := by decide +kernel
theorem bm32 {x : Int} (h1 : -2147483648 ≤ x) (h2 : x < 2147483648) : x.bmod (2 ^ 32) = x := Int.bmod_eq_of_le (by omega) (by omega)
section LOOP
variable {z : ZZ} {x : XX} {Q : State → Prop} {b L x0 m0 : Nat} {xs : Nat → Int32}
theorem al_widen {nL k n k' n' pc : Nat} {lv : List (Nat × Value)} {st : List Value} {ws : va_W} (hk : k ≤ k') (hn : n ≤ n') (kk : AL z x nL Q k' n' pc lv st ws) : AL z x nL Q k n pc lv st ws := fun H locs ls hP hD hS hl => W.widen hk hn (kk H locs ls hP hD hS hl)
set_option maxRecDepth 100000 in
theorem law_loop {Inv : MS → XS → Prop} (hI : StepOK Inv) (hR : x.2.2.1 = room_1) (hX : SX z x b L xs) (hend : ∀ (k n : Nat) (lv : List (Nat × Value)) (ws : va_W), k ≤ 600000 → n ≤ 7302250 → AL z x 4 Q k n 2157 lv [] ws) : ∀ (f i k n : Nat) (σ : MS) (τ : XS) (ad : Nat → Nat), L ≤ i + 5 * f → i ≤ 2600 → k + 7 * f ≤ 600000 → n + 250 * f ≤ 7302250 → Inv σ τ → CX z ad x code RL 4 ret → ad 36 = x0 → ad 0 = m0 → AL z x 4 Q k n 18 [(3, .int (Int32.ofNat i)), (1, .ref x0), (2, .ref m0), (0, .ref b)] [] (wX z σ ad τ) := by
  intro f
  induction f with
  | zero =>
    intro i k n σ τ ad hL hi hk hn hinv hC hx0 hm0
    have h4 := hX.2.2.2
    refine al_iload_n (j := 0) hC rfl rfl dL_law_18 ?_
    refine al_aload_n (j := 3) hC rfl rfl dL_law_19 ?_
    refine al_slen hC hX dL_law_20 ?_
    refine al_iconst (v := 5) hC rfl dL_law_21 ?_
    refine al_isub hC dL_law_22 ?_
    refine al_icmp_gt (tgt := 2157) hC dL_law_23 rfl (fun _ => hend _ _ _ _ (by omega) (by omega)) (fun g => absurd ?_ g)
    rw [Int32.lt_iff_toInt_lt, Int32.toInt_sub, ofn_int (show L < 100000 by omega), ofn_int (show i < 100000 by omega), show (5 : Int32).toInt = 5 from rfl, bm32 (by omega) (by omega)]
    show ((L : Int) - 5) < (i : Int)
    omega
  | succ f ih =>
    intro i k n σ τ ad hL hi hk hn hinv hC hx0 hm0
    have h4 := hX.2.2.2
    refine al_iload_n (j := 0) hC rfl rfl dL_law_18 ?_
    refine al_aload_n (j := 3) hC rfl rfl dL_law_19 ?_
    refine al_slen hC hX dL_law_20 ?_
    refine al_iconst (v := 5) hC rfl dL_law_21 ?_
    refine al_isub hC dL_law_22 ?_
    refine al_icmp_gt (tgt := 2157) hC dL_law_23 rfl (fun _ => hend _ _ _ _ (by omega) (by omega)) (fun g => ?_)
    have hi5 : i + 4 < L := by
      rw [Int32.lt_iff_toInt_lt, Int32.toInt_sub, ofn_int (show L < 100000 by omega), ofn_int (show i < 100000 by omega), show (5 : Int32).toInt = 5 from rfl, bm32 (by omega) (by omega)] at g
      have g2 : ¬ ((L : Int) - 5) < (i : Int) := g
      omega
    have next : ∀ (k' n' : Nat) (σ1 : MS) (τ1 : XS) (ad1 : Nat → Nat), k' ≤ k + 7 → n' ≤ n + 250 → Inv σ1 τ1 → exL ad ad1 → AL z x 4 Q k' n' 2151 [(3, .int (Int32.ofNat i)), (1, .ref x0), (2, .ref m0), (0, .ref b)] [] (wX z σ1 ad1 τ1) := by
      intro k' n' σ1 τ1 ad1 hk' hn' hinv1 hE
      have hC1 := hC.ad (ad' := ad1) fun k hk => hE k (Or.inr hk)
      refine al_iinc (j := 0) (v := Int32.ofNat i + 5) (lv' := [(3, .int (Int32.ofNat i + 5)), (1, .ref x0), (2, .ref m0), (0, .ref b)]) hC1 dL_law_2151 rfl rfl (by decide) rfl ?_
      refine al_goto (tgt := 18) hC1 dL_law_2154 rfl ?_
      refine al_widen (k' := k + 7) (n' := n + 250) hk' hn' ?_
      rw [show Int32.ofNat i + 5 = Int32.ofNat (i + 5) from (Int32.ofNat_add i 5).symm]
      exact ih (i + 5) (k + 7) (n + 250) σ1 τ1 ad1 (by omega) (by omega) (by omega) (by omega) hinv1 hC1 ((hE 36 (Or.inl (by decide))).trans hx0) ((hE 0 (Or.inl (by decide))).trans hm0)
    refine al_aload_n (j := 3) hC rfl rfl dL_law_26 ?_
    refine al_iload_n (j := 0) hC rfl rfl dL_law_27 ?_
    refine al_sld (j := i) hC hX rfl (by omega) dL_law_28 ?_
    refine al_bipush (v := 63) hC rfl dL_law_29 ?_
    refine al_iand hC dL_law_31 ?_
    refine al_sw (off := 208) (tgt := 240) (v := 0) hC 0 dL_law_32 rfl rfl (by decide) (by decide) swp0 (fun _ => ?_) (fun hp0 => ?_)
    · obtain ⟨r, σ1, τ1, hW, hM, hinv1⟩ := hI.1 σ τ xs i hinv
      exact law_c0 hC hR hX hx0 hm0 hi5 ⟨by omega, by omega⟩ hW hM (fun ad2 hE => next _ _ _ _ ad2 (by omega) (by omega) hinv1 hE)
    refine al_sw (off := 231) (tgt := 263) (v := 1) hC 1 dL_law_32 rfl rfl (by decide) (by decide) hp0 (fun _ => ?_) (fun hp1 => ?_)
    · obtain ⟨r, σ1, τ1, hW, hM, hinv1⟩ := hI.2.1 σ τ xs i hinv
      exact law_c1 hC hR hX hx0 hm0 hi5 ⟨by omega, by omega⟩ hW hM (fun ad2 hE => next _ _ _ _ ad2 (by omega) (by omega) hinv1 hE)
    refine al_sw (off := 284) (tgt := 316) (v := 2) hC 2 dL_law_32 rfl rfl (by decide) (by decide) hp1 (fun _ => ?_) (fun hp2 => ?_)
    · obtain ⟨r, hW, hM, hinv1⟩ := hI.2.2.1 σ τ xs i hinv
      exact law_c2 hC hR hX hx0 hm0 hi5 ⟨by omega, by omega⟩ rfl rfl hW hM (fun ad2 hE => next _ _ _ _ ad2 (by omega) (by omega) hinv1 hE)
    refine al_sw (off := 317) (tgt := 349) (v := 3) hC 3 dL_law_32 rfl rfl (by decide) (by decide) hp2 (fun _ => ?_) (fun hp3 => ?_)
    · obtain ⟨r, σ1, τ1, hW, hM, hinv1⟩ := hI.2.2.2.1 σ τ xs i hinv
      exact law_c3 hC hR hX hx0 hm0 hi5 ⟨by omega, by omega⟩ hW hM (fun ad2 hE => next _ _ _ _ ad2 (by omega) (by omega) hinv1 hE)
    refine al_sw (off := 360) (tgt := 392) (v := 4) hC 4 dL_law_32 rfl rfl (by decide) (by decide) hp3 (fun _ => ?_) (fun hp4 => ?_)
    · obtain ⟨r, σ1, τ1, hW, hM, hinv1⟩ := hI.2.2.2.2.1 σ τ xs i hinv
      exact law_c4 hC hR hX hx0 hm0 hi5 ⟨by omega, by omega⟩ hW hM (fun ad2 hE => next _ _ _ _ ad2 (by omega) (by omega) hinv1 hE)
    refine al_sw (off := 393) (tgt := 425) (v := 5) hC 5 dL_law_32 rfl rfl (by decide) (by decide) hp4 (fun _ => ?_) (fun hp5 => ?_)
    · obtain ⟨r, σ1, τ1, hW, hM, hinv1⟩ := hI.2.2.2.2.2.1 σ τ xs i hinv
      exact law_c5 hC hR hX hx0 hm0 hi5 ⟨by omega, by omega⟩ hW hM (fun ad2 hE => next _ _ _ _ ad2 (by omega) (by omega) hinv1 hE)
    refine al_sw (off := 446) (tgt := 478) (v := 6) hC 6 dL_law_32 rfl rfl (by decide) (by decide) hp5 (fun _ => ?_) (fun hp6 => ?_)
    · obtain ⟨r, σ1, τ1, hW, hM, hinv1⟩ := hI.2.2.2.2.2.2.1 σ τ xs i hinv
      exact law_c6 hC hR hX hx0 hm0 hi5 ⟨by omega, by omega⟩ hW hM (fun ad2 hE => next _ _ _ _ ad2 (by omega) (by omega) hinv1 hE)
    refine al_sw (off := 489) (tgt := 521) (v := 7) hC 7 dL_law_32 rfl rfl (by decide) (by decide) hp6 (fun _ => ?_) (fun hp7 => ?_)
    · obtain ⟨r, σ1, τ1, hW, hM, hinv1⟩ := hI.2.2.2.2.2.2.2.1 σ τ xs i hinv
      exact law_c7 hC hR hX hx0 hm0 hi5 ⟨by omega, by omega⟩ hW hM (fun ad2 hE => next _ _ _ _ ad2 (by omega) (by omega) hinv1 hE)
    refine al_sw (off := 548) (tgt := 580) (v := 8) hC 8 dL_law_32 rfl rfl (by decide) (by decide) hp7 (fun _ => ?_) (fun hp8 => ?_)
    · obtain ⟨r, σ1, τ1, hW, hM, hinv1⟩ := hI.2.2.2.2.2.2.2.2.1 σ τ xs i hinv
      exact law_c8 hC hR hX hx0 hm0 hi5 ⟨by omega, by omega⟩ hW hM (fun ad2 hE => next _ _ _ _ ad2 (by omega) (by omega) hinv1 hE)
    refine al_sw (off := 591) (tgt := 623) (v := 9) hC 9 dL_law_32 rfl rfl (by decide) (by decide) hp8 (fun _ => ?_) (fun hp9 => ?_)
    · obtain ⟨r, σ1, τ1, hW, hM, hinv1⟩ := hI.2.2.2.2.2.2.2.2.2.1 σ τ xs i hinv
      exact law_c9 hC hR hX hx0 hm0 hi5 ⟨by omega, by omega⟩ hW hM (fun ad2 hE => next _ _ _ _ ad2 (by omega) (by omega) hinv1 hE)
    refine al_sw (off := 614) (tgt := 646) (v := 10) hC 10 dL_law_32 rfl rfl (by decide) (by decide) hp9 (fun _ => ?_) (fun hp10 => ?_)
    · obtain ⟨r, hW, hM, hinv1⟩ := hI.2.2.2.2.2.2.2.2.2.2.1 σ τ xs i hinv
      exact law_c10 hC hR hX hx0 hm0 hi5 ⟨by omega, by omega⟩ rfl rfl hW hM (fun ad2 hE => next _ _ _ _ ad2 (by omega) (by omega) hinv1 hE)
    refine al_sw (off := 647) (tgt := 679) (v := 11) hC 11 dL_law_32 rfl rfl (by decide) (by decide) hp10 (fun _ => ?_) (fun hp11 => ?_)
    · obtain ⟨r, σ1, τ1, hW, hM, hinv1⟩ := hI.2.2.2.2.2.2.2.2.2.2.2.1 σ τ xs i hinv
      exact law_c11 hC hR hX hx0 hm0 hi5 ⟨by omega, by omega⟩ hW hM (fun ad2 hE => next _ _ _ _ ad2 (by omega) (by omega) hinv1 hE)
    refine al_sw (off := 690) (tgt := 722) (v := 12) hC 12 dL_law_32 rfl rfl (by decide) (by decide) hp11 (fun _ => ?_) (fun hp12 => ?_)
    · obtain ⟨r, σ1, τ1, hW, hM, hinv1⟩ := hI.2.2.2.2.2.2.2.2.2.2.2.2.1 σ τ xs i hinv
      exact law_c12 hC hR hX hx0 hm0 hi5 ⟨by omega, by omega⟩ hW hM (fun ad2 hE => next _ _ _ _ ad2 (by omega) (by omega) hinv1 hE)
    refine al_sw (off := 743) (tgt := 775) (v := 13) hC 13 dL_law_32 rfl rfl (by decide) (by decide) hp12 (fun _ => ?_) (fun hp13 => ?_)
    · obtain ⟨r, σ1, τ1, hW, hM, hinv1⟩ := hI.2.2.2.2.2.2.2.2.2.2.2.2.2.1 σ τ xs i hinv
      exact law_c13 hC hR hX hx0 hm0 hi5 ⟨by omega, by omega⟩ hW hM (fun ad2 hE => next _ _ _ _ ad2 (by omega) (by omega) hinv1 hE)
    refine al_sw (off := 796) (tgt := 828) (v := 14) hC 14 dL_law_32 rfl rfl (by decide) (by decide) hp13 (fun _ => ?_) (fun hp14 => ?_)
    · obtain ⟨r, σ1, τ1, hW, hM, hinv1⟩ := hI.2.2.2.2.2.2.2.2.2.2.2.2.2.2.1 σ τ xs i hinv
      exact law_c14 hC hR hX hx0 hm0 hi5 ⟨by omega, by omega⟩ hW hM (fun ad2 hE => next _ _ _ _ ad2 (by omega) (by omega) hinv1 hE)
    refine al_sw (off := 859) (tgt := 891) (v := 15) hC 15 dL_law_32 rfl rfl (by decide) (by decide) hp14 (fun _ => ?_) (fun hp15 => ?_)
    · obtain ⟨r, σ1, τ1, hW, hM, hinv1⟩ := hI.2.2.2.2.2.2.2.2.2.2.2.2.2.2.2.1 σ τ xs i hinv
      exact law_c15 hC hR hX hx0 hm0 hi5 ⟨by omega, by omega⟩ hW hM (fun ad2 hE => next _ _ _ _ ad2 (by omega) (by omega) hinv1 hE)
    refine al_sw (off := 882) (tgt := 914) (v := 16) hC 16 dL_law_32 rfl rfl (by decide) (by decide) hp15 (fun _ => ?_) (fun hp16 => ?_)
    · obtain ⟨r, hW, hM, hinv1⟩ := hI.2.2.2.2.2.2.2.2.2.2.2.2.2.2.2.2.1 σ τ xs i hinv
      exact law_c16 hC hR hX hx0 hm0 hi5 ⟨by omega, by omega⟩ rfl rfl hW hM (fun ad2 hE => next _ _ _ _ ad2 (by omega) (by omega) hinv1 hE)
    refine al_sw (off := 915) (tgt := 947) (v := 17) hC 17 dL_law_32 rfl rfl (by decide) (by decide) hp16 (fun _ => ?_) (fun hp17 => ?_)
    · obtain ⟨r, σ1, τ1, hW, hM, hinv1⟩ := hI.2.2.2.2.2.2.2.2.2.2.2.2.2.2.2.2.2.1 σ τ xs i hinv
      exact law_c17 hC hR hX hx0 hm0 hi5 ⟨by omega, by omega⟩ hW hM (fun ad2 hE => next _ _ _ _ ad2 (by omega) (by omega) hinv1 hE)
    refine al_sw (off := 958) (tgt := 990) (v := 18) hC 18 dL_law_32 rfl rfl (by decide) (by decide) hp17 (fun _ => ?_) (fun hp18 => ?_)
    · obtain ⟨r, σ1, τ1, hW, hM, hinv1⟩ := hI.2.2.2.2.2.2.2.2.2.2.2.2.2.2.2.2.2.2.1 σ τ xs i hinv
      exact law_c18 hC hR hX hx0 hm0 hi5 ⟨by omega, by omega⟩ hW hM (fun ad2 hE => next _ _ _ _ ad2 (by omega) (by omega) hinv1 hE)
    refine al_sw (off := 1011) (tgt := 1043) (v := 19) hC 19 dL_law_32 rfl rfl (by decide) (by decide) hp18 (fun _ => ?_) (fun hp19 => ?_)
    · obtain ⟨r, σ1, τ1, hW, hM, hinv1⟩ := hI.2.2.2.2.2.2.2.2.2.2.2.2.2.2.2.2.2.2.2.1 σ τ xs i hinv
      exact law_c19 hC hR hX hx0 hm0 hi5 ⟨by omega, by omega⟩ hW hM (fun ad2 hE => next _ _ _ _ ad2 (by omega) (by omega) hinv1 hE)
    refine al_sw (off := 1064) (tgt := 1096) (v := 20) hC 20 dL_law_32 rfl rfl (by decide) (by decide) hp19 (fun _ => ?_) (fun hp20 => ?_)
    · obtain ⟨r, σ1, τ1, hW, hM, hinv1⟩ := hI.2.2.2.2.2.2.2.2.2.2.2.2.2.2.2.2.2.2.2.2.1 σ τ xs i hinv
      exact law_c20 hC hR hX hx0 hm0 hi5 ⟨by omega, by omega⟩ hW hM (fun ad2 hE => next _ _ _ _ ad2 (by omega) (by omega) hinv1 hE)
    refine al_sw (off := 1117) (tgt := 1149) (v := 21) hC 21 dL_law_32 rfl rfl (by decide) (by decide) hp20 (fun _ => ?_) (fun hp21 => ?_)
    · obtain ⟨r, σ1, τ1, hW, hM, hinv1⟩ := hI.2.2.2.2.2.2.2.2.2.2.2.2.2.2.2.2.2.2.2.2.2.1 σ τ xs i hinv
      exact law_c21 hC hR hX hx0 hm0 hi5 ⟨by omega, by omega⟩ hW hM (fun ad2 hE => next _ _ _ _ ad2 (by omega) (by omega) hinv1 hE)
    refine al_sw (off := 1171) (tgt := 1203) (v := 22) hC 22 dL_law_32 rfl rfl (by decide) (by decide) hp21 (fun _ => ?_) (fun hp22 => ?_)
    · obtain ⟨r, σ1, τ1, hW, hM, hinv1⟩ := hI.2.2.2.2.2.2.2.2.2.2.2.2.2.2.2.2.2.2.2.2.2.2.1 σ τ xs i hinv
      exact law_c22 hC hR hX hx0 hm0 hi5 ⟨by omega, by omega⟩ hW hM (fun ad2 hE => next _ _ _ _ ad2 (by omega) (by omega) hinv1 hE)
    refine al_sw (off := 1205) (tgt := 1237) (v := 23) hC 23 dL_law_32 rfl rfl (by decide) (by decide) hp22 (fun _ => ?_) (fun hp23 => ?_)
    · obtain ⟨r, σ1, τ1, hW, hM, hinv1⟩ := hI.2.2.2.2.2.2.2.2.2.2.2.2.2.2.2.2.2.2.2.2.2.2.2.1 σ τ xs i hinv
      exact law_c23 hC hR hX hx0 hm0 hi5 ⟨by omega, by omega⟩ hW hM (fun ad2 hE => next _ _ _ _ ad2 (by omega) (by omega) hinv1 hE)
    refine al_sw (off := 1249) (tgt := 1281) (v := 24) hC 24 dL_law_32 rfl rfl (by decide) (by decide) hp23 (fun _ => ?_) (fun hp24 => ?_)
    · obtain ⟨r, σ1, τ1, hW, hM, hinv1⟩ := hI.2.2.2.2.2.2.2.2.2.2.2.2.2.2.2.2.2.2.2.2.2.2.2.2.1 σ τ xs i hinv
      exact law_c24 hC hR hX hx0 hm0 hi5 ⟨by omega, by omega⟩ hW hM (fun ad2 hE => next _ _ _ _ ad2 (by omega) (by omega) hinv1 hE)
    refine al_sw (off := 1293) (tgt := 1325) (v := 25) hC 25 dL_law_32 rfl rfl (by decide) (by decide) hp24 (fun _ => ?_) (fun hp25 => ?_)
    · obtain ⟨r, σ1, τ1, hW, hM, hinv1⟩ := hI.2.2.2.2.2.2.2.2.2.2.2.2.2.2.2.2.2.2.2.2.2.2.2.2.2.1 σ τ xs i hinv
      exact law_c25 hC hR hX hx0 hm0 hi5 ⟨by omega, by omega⟩ hW hM (fun ad2 hE => next _ _ _ _ ad2 (by omega) (by omega) hinv1 hE)
    refine al_sw (off := 1337) (tgt := 1369) (v := 26) hC 26 dL_law_32 rfl rfl (by decide) (by decide) hp25 (fun _ => ?_) (fun hp26 => ?_)
    · obtain ⟨r, σ1, τ1, hW, hM, hinv1⟩ := hI.2.2.2.2.2.2.2.2.2.2.2.2.2.2.2.2.2.2.2.2.2.2.2.2.2.2.1 σ τ xs i hinv
      exact law_c26 hC hR hX hx0 hm0 hi5 ⟨by omega, by omega⟩ hW hM (fun ad2 hE => next _ _ _ _ ad2 (by omega) (by omega) hinv1 hE)
    refine al_sw (off := 1360) (tgt := 1392) (v := 27) hC 27 dL_law_32 rfl rfl (by decide) (by decide) hp26 (fun _ => ?_) (fun hp27 => ?_)
    · obtain ⟨r, σ1, τ1, hW, hM, hinv1⟩ := hI.2.2.2.2.2.2.2.2.2.2.2.2.2.2.2.2.2.2.2.2.2.2.2.2.2.2.2.1 σ τ xs i hinv
      exact law_c27 hC hR hX hx0 hm0 hi5 ⟨by omega, by omega⟩ hW hM (fun ad2 hE => next _ _ _ _ ad2 (by omega) (by omega) hinv1 hE)
    refine al_sw (off := 1394) (tgt := 1426) (v := 28) hC 28 dL_law_32 rfl rfl (by decide) (by decide) hp27 (fun _ => ?_) (fun hp28 => ?_)
    · obtain ⟨r, σ1, τ1, hW, hM, hinv1⟩ := hI.2.2.2.2.2.2.2.2.2.2.2.2.2.2.2.2.2.2.2.2.2.2.2.2.2.2.2.2.1 σ τ xs i hinv
      exact law_c28 hC hR hX hx0 hm0 hi5 ⟨by omega, by omega⟩ hW hM (fun ad2 hE => next _ _ _ _ ad2 (by omega) (by omega) hinv1 hE)
    refine al_sw (off := 1447) (tgt := 1479) (v := 29) hC 29 dL_law_32 rfl rfl (by decide) (by decide) hp28 (fun _ => ?_) (fun hp29 => ?_)
    · obtain ⟨r, σ1, τ1, hW, hM, hinv1⟩ := hI.2.2.2.2.2.2.2.2.2.2.2.2.2.2.2.2.2.2.2.2.2.2.2.2.2.2.2.2.2.1 σ τ xs i hinv
      exact law_c29 hC hR hX hx0 hm0 hi5 ⟨by omega, by omega⟩ hW hM (fun ad2 hE => next _ _ _ _ ad2 (by omega) (by omega) hinv1 hE)
    refine al_sw (off := 1480) (tgt := 1512) (v := 30) hC 30 dL_law_32 rfl rfl (by decide) (by decide) hp29 (fun _ => ?_) (fun hp30 => ?_)
    · obtain ⟨r, hW, hM, hinv1⟩ := hI.2.2.2.2.2.2.2.2.2.2.2.2.2.2.2.2.2.2.2.2.2.2.2.2.2.2.2.2.2.2.1 σ τ xs i hinv
      exact law_c30 hC hR hX hx0 hm0 hi5 ⟨by omega, by omega⟩ rfl rfl hW hM (fun ad2 hE => next _ _ _ _ ad2 (by omega) (by omega) hinv1 hE)
    refine al_sw (off := 1514) (tgt := 1546) (v := 31) hC 31 dL_law_32 rfl rfl (by decide) (by decide) hp30 (fun _ => ?_) (fun hp31 => ?_)
    · obtain ⟨r, σ1, τ1, hW, hM, hinv1⟩ := hI.2.2.2.2.2.2.2.2.2.2.2.2.2.2.2.2.2.2.2.2.2.2.2.2.2.2.2.2.2.2.2.1 σ τ xs i hinv
      exact law_c31 hC hR hX hx0 hm0 hi5 ⟨by omega, by omega⟩ hW hM (fun ad2 hE => next _ _ _ _ ad2 (by omega) (by omega) hinv1 hE)
    refine al_sw (off := 1547) (tgt := 1579) (v := 32) hC 32 dL_law_32 rfl rfl (by decide) (by decide) hp31 (fun _ => ?_) (fun hp32 => ?_)
    · obtain ⟨r, σ1, τ1, hW, hM, hinv1⟩ := hI.2.2.2.2.2.2.2.2.2.2.2.2.2.2.2.2.2.2.2.2.2.2.2.2.2.2.2.2.2.2.2.2.1 σ τ xs i hinv
      exact law_c32 hC hR hX hx0 hm0 hi5 ⟨by omega, by omega⟩ hW hM (fun ad2 hE => next _ _ _ _ ad2 (by omega) (by omega) hinv1 hE)
    refine al_sw (off := 1600) (tgt := 1632) (v := 33) hC 33 dL_law_32 rfl rfl (by decide) (by decide) hp32 (fun _ => ?_) (fun hp33 => ?_)
    · obtain ⟨r, hW, hM, hinv1⟩ := hI.2.2.2.2.2.2.2.2.2.2.2.2.2.2.2.2.2.2.2.2.2.2.2.2.2.2.2.2.2.2.2.2.2.1 σ τ xs i hinv
      exact law_c33 hC hR hX hx0 hm0 hi5 ⟨by omega, by omega⟩ rfl rfl hW hM (fun ad2 hE => next _ _ _ _ ad2 (by omega) (by omega) hinv1 hE)
    refine al_sw (off := 1633) (tgt := 1665) (v := 34) hC 34 dL_law_32 rfl rfl (by decide) (by decide) hp33 (fun _ => ?_) (fun hp34 => ?_)
    · obtain ⟨r, hW, hM, hinv1⟩ := hI.2.2.2.2.2.2.2.2.2.2.2.2.2.2.2.2.2.2.2.2.2.2.2.2.2.2.2.2.2.2.2.2.2.2.1 σ τ xs i hinv
      exact law_c34 hC hR hX hx0 hm0 hi5 ⟨by omega, by omega⟩ rfl rfl hW hM (fun ad2 hE => next _ _ _ _ ad2 (by omega) (by omega) hinv1 hE)
    refine al_sw (off := 1656) (tgt := 1688) (v := 35) hC 35 dL_law_32 rfl rfl (by decide) (by decide) hp34 (fun _ => ?_) (fun hp35 => ?_)
    · obtain ⟨r, σ1, τ1, hW, hM, hinv1⟩ := hI.2.2.2.2.2.2.2.2.2.2.2.2.2.2.2.2.2.2.2.2.2.2.2.2.2.2.2.2.2.2.2.2.2.2.2.1 σ τ xs i hinv
      exact law_c35 hC hR hX hx0 hm0 hi5 ⟨by omega, by omega⟩ hW hM (fun ad2 hE => next _ _ _ _ ad2 (by omega) (by omega) hinv1 hE)
    refine al_sw (off := 1679) (tgt := 1711) (v := 36) hC 36 dL_law_32 rfl rfl (by decide) (by decide) hp35 (fun _ => ?_) (fun hp36 => ?_)
    · obtain ⟨r, hW, hM, hinv1⟩ := hI.2.2.2.2.2.2.2.2.2.2.2.2.2.2.2.2.2.2.2.2.2.2.2.2.2.2.2.2.2.2.2.2.2.2.2.2.1 σ τ xs i hinv
      exact law_c36 hC hR hX hx0 hm0 hi5 ⟨by omega, by omega⟩ rfl rfl hW hM (fun ad2 hE => next _ _ _ _ ad2 (by omega) (by omega) hinv1 hE)
    refine al_sw (off := 1713) (tgt := 1745) (v := 37) hC 37 dL_law_32 rfl rfl (by decide) (by decide) hp36 (fun _ => ?_) (fun hp37 => ?_)
    · obtain ⟨r, σ1, τ1, hW, hM, hinv1⟩ := hI.2.2.2.2.2.2.2.2.2.2.2.2.2.2.2.2.2.2.2.2.2.2.2.2.2.2.2.2.2.2.2.2.2.2.2.2.2.1 σ τ xs i hinv
      exact law_c37 hC hR hX hx0 hm0 hi5 ⟨by omega, by omega⟩ hW hM (fun ad2 hE => next _ _ _ _ ad2 (by omega) (by omega) hinv1 hE)
    refine al_sw (off := 1747) (tgt := 1779) (v := 38) hC 38 dL_law_32 rfl rfl (by decide) (by decide) hp37 (fun _ => ?_) (fun hp38 => ?_)
    · obtain ⟨r, σ1, τ1, hW, hM, hinv1⟩ := hI.2.2.2.2.2.2.2.2.2.2.2.2.2.2.2.2.2.2.2.2.2.2.2.2.2.2.2.2.2.2.2.2.2.2.2.2.2.2.1 σ τ xs i hinv
      exact law_c38 hC hR hX hx0 hm0 hi5 ⟨by omega, by omega⟩ hW hM (fun ad2 hE => next _ _ _ _ ad2 (by omega) (by omega) hinv1 hE)
    refine al_sw (off := 1760) (tgt := 1792) (v := 39) hC 39 dL_law_32 rfl rfl (by decide) (by decide) hp38 (fun _ => ?_) (fun hp39 => ?_)
    · obtain ⟨r, σ1, τ1, hW, hM, hinv1⟩ := hI.2.2.2.2.2.2.2.2.2.2.2.2.2.2.2.2.2.2.2.2.2.2.2.2.2.2.2.2.2.2.2.2.2.2.2.2.2.2.2.1 σ τ xs i hinv
      exact law_c39 hC hR hX hx0 hm0 hi5 ⟨by omega, by omega⟩ hW hM (fun ad2 hE => next _ _ _ _ ad2 (by omega) (by omega) hinv1 hE)
    refine al_sw (off := 1803) (tgt := 1835) (v := 40) hC 40 dL_law_32 rfl rfl (by decide) (by decide) hp39 (fun _ => ?_) (fun hp40 => ?_)
    · obtain ⟨r, σ1, τ1, hW, hM, hinv1⟩ := hI.2.2.2.2.2.2.2.2.2.2.2.2.2.2.2.2.2.2.2.2.2.2.2.2.2.2.2.2.2.2.2.2.2.2.2.2.2.2.2.2.1 σ τ xs i hinv
      exact law_c40 hC hR hX hx0 hm0 hi5 ⟨by omega, by omega⟩ hW hM (fun ad2 hE => next _ _ _ _ ad2 (by omega) (by omega) hinv1 hE)
    refine al_sw (off := 1846) (tgt := 1878) (v := 41) hC 41 dL_law_32 rfl rfl (by decide) (by decide) hp40 (fun _ => ?_) (fun hp41 => ?_)
    · obtain ⟨r, σ1, τ1, hW, hM, hinv1⟩ := hI.2.2.2.2.2.2.2.2.2.2.2.2.2.2.2.2.2.2.2.2.2.2.2.2.2.2.2.2.2.2.2.2.2.2.2.2.2.2.2.2.2.1 σ τ xs i hinv
      exact law_c41 hC hR hX hx0 hm0 hi5 ⟨by omega, by omega⟩ hW hM (fun ad2 hE => next _ _ _ _ ad2 (by omega) (by omega) hinv1 hE)
    refine al_sw (off := 1879) (tgt := 1911) (v := 42) hC 42 dL_law_32 rfl rfl (by decide) (by decide) hp41 (fun _ => ?_) (fun hp42 => ?_)
    · obtain ⟨r, σ1, τ1, hW, hM, hinv1⟩ := hI.2.2.2.2.2.2.2.2.2.2.2.2.2.2.2.2.2.2.2.2.2.2.2.2.2.2.2.2.2.2.2.2.2.2.2.2.2.2.2.2.2.2.1 σ τ xs i hinv
      exact law_c42 hC hR hX hx0 hm0 hi5 ⟨by omega, by omega⟩ hW hM (fun ad2 hE => next _ _ _ _ ad2 (by omega) (by omega) hinv1 hE)
    refine al_sw (off := 1922) (tgt := 1954) (v := 43) hC 43 dL_law_32 rfl rfl (by decide) (by decide) hp42 (fun _ => ?_) (fun hp43 => ?_)
    · obtain ⟨r, σ1, τ1, hW, hM, hinv1⟩ := hI.2.2.2.2.2.2.2.2.2.2.2.2.2.2.2.2.2.2.2.2.2.2.2.2.2.2.2.2.2.2.2.2.2.2.2.2.2.2.2.2.2.2.2.1 σ τ xs i hinv
      exact law_c43 hC hR hX hx0 hm0 hi5 ⟨by omega, by omega⟩ hW hM (fun ad2 hE => next _ _ _ _ ad2 (by omega) (by omega) hinv1 hE)
    refine al_sw (off := 1956) (tgt := 1988) (v := 44) hC 44 dL_law_32 rfl rfl (by decide) (by decide) hp43 (fun _ => ?_) (fun hp44 => ?_)
    · obtain ⟨r, σ1, τ1, hW, hM, hinv1⟩ := hI.2.2.2.2.2.2.2.2.2.2.2.2.2.2.2.2.2.2.2.2.2.2.2.2.2.2.2.2.2.2.2.2.2.2.2.2.2.2.2.2.2.2.2.2.1 σ τ xs i hinv
      exact law_c44 hC hR hX hx0 hm0 hi5 ⟨by omega, by omega⟩ hW hM (fun ad2 hE => next _ _ _ _ ad2 (by omega) (by omega) hinv1 hE)
    refine al_sw (off := 2030) (tgt := 2062) (v := 45) hC 45 dL_law_32 rfl rfl (by decide) (by decide) hp44 (fun _ => ?_) (fun hp45 => ?_)
    · obtain ⟨r, σ1, τ1, hW, hM, hinv1⟩ := hI.2.2.2.2.2.2.2.2.2.2.2.2.2.2.2.2.2.2.2.2.2.2.2.2.2.2.2.2.2.2.2.2.2.2.2.2.2.2.2.2.2.2.2.2.2.1 σ τ xs i hinv
      exact law_c45 hC hR hX hx0 hm0 hi5 ⟨by omega, by omega⟩ hW hM (fun ad2 hE => next _ _ _ _ ad2 (by omega) (by omega) hinv1 hE)
    refine al_sw (off := 2063) (tgt := 2095) (v := 46) hC 46 dL_law_32 rfl rfl (by decide) (by decide) hp45 (fun _ => ?_) (fun hp46 => ?_)
    · obtain ⟨r, σ1, τ1, hW, hM, hinv1⟩ := hI.2.2.2.2.2.2.2.2.2.2.2.2.2.2.2.2.2.2.2.2.2.2.2.2.2.2.2.2.2.2.2.2.2.2.2.2.2.2.2.2.2.2.2.2.2.2.1 σ τ xs i hinv
      exact law_c46 hC hR hX hx0 hm0 hi5 ⟨by omega, by omega⟩ hW hM (fun ad2 hE => next _ _ _ _ ad2 (by omega) (by omega) hinv1 hE)
    refine al_sw (off := 2096) (tgt := 2128) (v := 47) hC 47 dL_law_32 rfl rfl (by decide) (by decide) hp46 (fun _ => ?_) (fun hp47 => ?_)
    · obtain ⟨r, hW, hM, hinv1⟩ := hI.2.2.2.2.2.2.2.2.2.2.2.2.2.2.2.2.2.2.2.2.2.2.2.2.2.2.2.2.2.2.2.2.2.2.2.2.2.2.2.2.2.2.2.2.2.2.2 σ τ xs i hinv
      exact law_c47 hC hR hX hx0 hm0 hi5 ⟨by omega, by omega⟩ rfl rfl hW hM (fun ad2 hE => next _ _ _ _ ad2 (by omega) (by omega) hinv1 hE)
    refine al_swd (tgt := 2151) hC 48 dL_law_32 rfl (by decide) hp47 ?_
    exact next _ _ _ _ ad (by omega) (by omega) hinv (fun _ _ => rfl)
end LOOP
