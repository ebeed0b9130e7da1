
abbrev ZZ : Type := Launch × va_G × (Nat → ClassId) × Nat × (Nat → Nat)
abbrev XX : Type := Program × Env × Room × State × MethodId × Array Value × List Frame × Method × Code
def cv (ad : Nat → Nat) : Value → Value
  | .ref k => .ref (ad k)
  | v => v
def zA (z : ZZ) : Nat → Prop := fun q => z.2.2.2.1 ≤ q
def zty (z : ZZ) : List (ClassId × FieldType) := [(z.2.2.1 0, .int), (z.2.2.1 1, .boolean), (z.2.2.1 2, .long), (z.2.2.1 3, .object "WidowsFund$Act")]
abbrev zcl : List vw_C := [(RX0, TX0, 10), (RX1, TX1, 16), (RX2, TX2, 8), (RX3, TX3, 10), (RX4, TX4, 5), (RX5, TX5, 6), (RX6, TX6, 2), (RX7, TX7, 5), (RX8, TX8, 1), (RX9, TX9, 8), (RX10, TX10, 9), (RX11, TX11, 52)]
def GW : List Cond := lw_tbl.filter goodWord
theorem gw_of (i : Nat) {w : Cond} (h : lw_tbl[i]? = some w) (hg : goodWord w = true) : w ∈ GW := List.mem_filter.mpr ⟨List.mem_of_getElem? h, hg⟩
theorem gw_t1 (i : Nat) {w : Cond} (h : tables_1_1[i]? = some w) (hg : goodWord w = true) : w ∈ GW := by
  have h0 := List.mem_of_getElem? h
  exact List.mem_filter.mpr ⟨List.mem_append_right _ (List.mem_append_left _ h0), hg⟩
theorem gw_t2 (i : Nat) {w : Cond} (h : tables_1_2[i]? = some w) (hg : goodWord w = true) : w ∈ GW := by
  have h0 := List.mem_of_getElem? h
  exact List.mem_filter.mpr ⟨List.mem_append_right _ (List.mem_append_right _ (List.mem_append_left _ h0)), hg⟩
theorem gw_t3 (i : Nat) {w : Cond} (h : tables_1_3[i]? = some w) (hg : goodWord w = true) : w ∈ GW := by
  have h0 := List.mem_of_getElem? h
  exact List.mem_filter.mpr ⟨List.mem_append_right _ (List.mem_append_right _ (List.mem_append_right _ (List.mem_append_left _ h0))), hg⟩
theorem gw_t4 (i : Nat) {w : Cond} (h : tables_1_4[i]? = some w) (hg : goodWord w = true) : w ∈ GW := by
  have h0 := List.mem_of_getElem? h
  exact List.mem_filter.mpr ⟨List.mem_append_right _ (List.mem_append_right _ (List.mem_append_right _ (List.mem_append_right _ (List.mem_append_left _ h0)))), hg⟩
theorem gw_t5 (i : Nat) {w : Cond} (h : tables_1_5[i]? = some w) (hg : goodWord w = true) : w ∈ GW := by
  have h0 := List.mem_of_getElem? h
  exact List.mem_filter.mpr ⟨List.mem_append_right _ (List.mem_append_right _ (List.mem_append_right _ (List.mem_append_right _ (List.mem_append_right _ (List.mem_append_left _ h0))))), hg⟩
theorem gw_t6 (i : Nat) {w : Cond} (h : tables_1_6[i]? = some w) (hg : goodWord w = true) : w ∈ GW := by
  have h0 := List.mem_of_getElem? h
  exact List.mem_filter.mpr ⟨List.mem_append_right _ (List.mem_append_right _ (List.mem_append_right _ (List.mem_append_right _ (List.mem_append_right _ (List.mem_append_right _ (List.mem_append_left _ h0)))))), hg⟩
theorem gw_t7 (i : Nat) {w : Cond} (h : tables_1_7[i]? = some w) (hg : goodWord w = true) : w ∈ GW := by
  have h0 := List.mem_of_getElem? h
  exact List.mem_filter.mpr ⟨List.mem_append_right _ (List.mem_append_right _ (List.mem_append_right _ (List.mem_append_right _ (List.mem_append_right _ (List.mem_append_right _ (List.mem_append_right _ (List.mem_append_left _ h0))))))), hg⟩
theorem gw_t8 (i : Nat) {w : Cond} (h : tables_1_8[i]? = some w) (hg : goodWord w = true) : w ∈ GW := by
  have h0 := List.mem_of_getElem? h
  exact List.mem_filter.mpr ⟨List.mem_append_right _ (List.mem_append_right _ (List.mem_append_right _ (List.mem_append_right _ (List.mem_append_right _ (List.mem_append_right _ (List.mem_append_right _ (List.mem_append_right _ (h0)))))))), hg⟩
theorem gw_good {w : Cond} (h : w ∈ GW) : goodWord w = true := (List.mem_filter.mp h).2
def strTab : List (String × Nat × String × Nat) := [("WidowsFund$Tape", 34, "begun;", 0), ("WidowsFund$Tape", 60, "due rent sum tax vacant fine keeps age late ", 1), ("WidowsFund$Tape", 66, "=", 2), ("WidowsFund$Tape", 119, "rate years old wives year ", 3), ("WidowsFund$Tape", 81, " if ", 4), ("WidowsFund$Tape", 83, " and ", 5), ("WidowsFundModel", 243, "due", 6), ("WidowsFundModel", 245, "rent", 7), ("WidowsFundModel", 247, "sum", 8), ("WidowsFundModel", 249, "tax", 9), ("WidowsFundModel", 251, "vacant", 10), ("WidowsFundModel", 253, "fine", 11), ("WidowsFundModel", 255, "keeps", 12), ("WidowsFundModel", 257, "age", 13), ("WidowsFundModel", 259, "late", 14), ("WidowsFundModel", 261, "begun;", 0), ("WidowsFundModel", 263, "rate", 15), ("WidowsFundModel", 265, "years", 16), ("WidowsFundModel", 267, "old", 17), ("WidowsFundModel", 269, "wives", 18), ("WidowsFundModel", 271, "year", 19), ("WidowsFundModel", 311, " and ", 5), ("WidowsFundModel", 317, " if ", 4)]
def strLen : List Nat := [6, 44, 1, 26, 4, 5, 3, 4, 3, 3, 6, 4, 5, 3, 4, 4, 5, 3, 5, 4]
def strByt : List (List Int32) := [[98, 101, 103, 117, 110, 59], [100, 117, 101, 32, 114, 101, 110, 116, 32, 115, 117, 109, 32, 116, 97, 120, 32, 118, 97, 99, 97, 110, 116, 32, 102, 105, 110, 101, 32, 107, 101, 101, 112, 115, 32, 97, 103, 101, 32, 108, 97, 116, 101, 32], [61], [114, 97, 116, 101, 32, 121, 101, 97, 114, 115, 32, 111, 108, 100, 32, 119, 105, 118, 101, 115, 32, 121, 101, 97, 114, 32], [32, 105, 102, 32], [32, 97, 110, 100, 32], [100, 117, 101], [114, 101, 110, 116], [115, 117, 109], [116, 97, 120], [118, 97, 99, 97, 110, 116], [102, 105, 110, 101], [107, 101, 101, 112, 115], [97, 103, 101], [108, 97, 116, 101], [114, 97, 116, 101], [121, 101, 97, 114, 115], [111, 108, 100], [119, 105, 118, 101, 115], [121, 101, 97, 114]]
def kab : Nat → Int32 := fun j => ([-1, 0, 1, 2, 0, 0, 1] : List Int32).getD j 0
/-- words on private constructors of nest mates, and on the row of acts: kept as facts of the state -/
def NF (U : State) : Prop := va_AO "WidowsFund$Act" U ∧ va_Nw (.methodLinkNest RX10 13 yX1_init RX10) U ∧ va_Nw (.methodLinkNest RX10 29 yX7_init RX10) U ∧ va_Nw (.methodLinkNest RX10 43 yX5_init RX10) U ∧ va_Nw (.methodLinkNest RX10 73 yX8_init RX10) U ∧ va_Nw (.methodLinkNest RX3 35 yX0_init RX10) U
theorem NF.step {s U : State} (hW : s.WarmedH U.vm) (h : NF s) : NF U := ⟨h.1.moved hW.alike, h.2.1.warmM hW, h.2.2.1.warmM hW, h.2.2.2.1.warmM hW, h.2.2.2.2.1.warmM hW, h.2.2.2.2.2.warmM hW⟩
theorem NF.same {u U : State} (hv : U.vm = u.vm) (h : NF u) : NF U := ⟨h.1.moved (by rw [hv]; exact Vm.Alike.refl _), va_Nw.same rfl hv.symm h.2.1, va_Nw.same rfl hv.symm h.2.2.1, va_Nw.same rfl hv.symm h.2.2.2.1, va_Nw.same rfl hv.symm h.2.2.2.2.1, va_Nw.same rfl hv.symm h.2.2.2.2.2⟩
def Strs (z : ZZ) (ad : Nat → Nat) (U : State) (H : Heap) : Prop := vk_S 20 strLen strByt (fun k => ad (1000000 + k)) (fun k => ad (3000000 + k)) (zA z) U H ∧ (∀ q ∈ strTab, vk_R q.1 q.2.1 q.2.2.1 (ad (1000000 + q.2.2.2)) U) ∧ va_Z RX10 "KIND_ABOVE" "[I" (.ref (ad 2000000)) (zA z) U H ∧ va_T .int (ad 2000000) 7 (fun j => .int (kab j)) (zA z) U H ∧ va_Z "java/lang/String" "COMPACT_STRINGS" "Z" (.int 1) (zA z) U H ∧ (va_Z "jdk/internal/util/Preconditions" "SIOOBE_FORMATTER" "Ljava/util/function/BiFunction;" .null (zA z) U H ∨ va_Z "jdk/internal/util/Preconditions" "SIOOBE_FORMATTER" "Ljava/util/function/BiFunction;" (.ref (ad 4000000)) (zA z) U H) ∧ NF U
def Amb (z : ZZ) (ad : Nat → Nat) (U : State) : Prop := va_K z.2.1 zcl (zty z) U ∧ z.2.2.2.1 ≤ U.heap.size ∧ Strs z ad U U.heap
theorem Amb.step {z : ZZ} {ad : Nat → Nat} {s U : State} {H : Heap} {locs : List Loc} (h : Amb z ad s) (hW : s.WarmedH U.vm) (hH : U.heap = H) (hS : va_S (zA z) s.heap H locs) : Amb z ad U := by
  obtain ⟨h1, h2, h3, h4, h5, h6, h7, h8, h9⟩ := h
  subst hH
  refine ⟨va_K.moved hW.alike h1, Nat.le_trans h2 hS.1, ?_, ?_, ?_, ?_, ?_, ?_, h9.step hW⟩
  · exact vk_S.moved hW.alike (h3.kept hS.2.1)
  · exact fun q hq => vk_R.warm hW (h4 q hq)
  · exact va_Z.moved hW.alike (h5.kept hS.2.1)
  · exact va_T.moved hW.alike (h6.kept hS.2.1)
  · exact va_Z.moved hW.alike (h7.kept hS.2.1)
  · rcases h8 with h8 | h8
    · exact Or.inl (va_Z.moved hW.alike (h8.kept hS.2.1))
    · exact Or.inr (va_Z.moved hW.alike (h8.kept hS.2.1))
theorem Amb.same {z : ZZ} {ad : Nat → Nat} {U V : State} (h : Amb z ad U) (hv : V.vm = U.vm) (hH : V.heap = U.heap) : Amb z ad V := by
  obtain ⟨h1, h2, h3, h4, h5, h6, h7, h8, h9⟩ := h
  have hA : U.vm.Alike V.vm := by rw [hv]; exact Vm.Alike.refl _
  refine ⟨va_K.moved hA h1, by rw [hH]; exact h2, ?_, ?_, ?_, ?_, ?_, ?_, h9.same hv⟩
  · rw [hH]; exact vk_S.moved hA h3
  · exact fun q hq => vk_R.same hv (h4 q hq)
  · rw [hH]; exact va_Z.moved hA h5
  · rw [hH]; exact va_T.moved hA h6
  · rw [hH]; exact va_Z.moved hA h7
  · rw [hH]
    rcases h8 with h8 | h8
    · exact Or.inl (va_Z.moved hA h8)
    · exact Or.inr (va_Z.moved hA h8)
theorem Amb.ad {z : ZZ} {ad ad' : Nat → Nat} {U : State} (h : Amb z ad U) (he : ∀ k, 1000000 ≤ k → ad' k = ad k) : Amb z ad' U := by
  obtain ⟨h1, h2, h3, h4, h5, h6, h7, h8, h9⟩ := h
  refine ⟨h1, h2, ?_, ?_, ?_, ?_, h7, ?_, h9⟩
  · have e : (fun k => ad' (1000000 + k)) = (fun k => ad (1000000 + k)) := funext fun k => he _ (Nat.le_add_right _ _)
    have e2 : (fun k => ad' (3000000 + k)) = (fun k => ad (3000000 + k)) := funext fun k => he _ (Nat.le_trans (Nat.le_of_ble_eq_true rfl) (Nat.le_add_right _ _))
    rw [e, e2]; exact h3
  · intro q hq; rw [he _ (Nat.le_add_right _ _)]; exact h4 q hq
  · rw [he 2000000 (Nat.le_of_ble_eq_true rfl)]; exact h5
  · rw [he 2000000 (Nat.le_of_ble_eq_true rfl)]; exact h6
  · rw [he 4000000 (Nat.le_of_ble_eq_true rfl)]; exact h8
/-- what holds of a method's start -/
def CX (z : ZZ) (ad : Nat → Nat) (x : XX) (cc : ByteArray) (own : String) (nL : Nat) (ret : Option FieldType) : Prop :=
  x.1.tables.exec = Jvm.exec ∧ x.2.2.2.2.2.2.2.2.code = cc ∧ x.2.2.2.2.2.2.2.1.sig.returnType = ret ∧ x.2.2.2.2.2.2.2.2.maxLocals = nL ∧ x.2.2.2.1.vm.findClass own = some x.2.2.2.2.1.cls ∧ (∀ w ∈ GW, w.before x.2.2.2.2.2.1 x.2.2.2.1 = true) ∧ x.2.2.2.2.2.2.2.1.locks = false ∧ Amb z ad x.2.2.2.1
section FR
variable {S ρ : Type}
/-- how a method ends: its answer, the world behind it, what stayed -/
def QA (z : ZZ) (w : (Nat → Nat) → S → va_W) (ra : ρ → Option Value) (F : (Nat → Nat) → Prop) (r : ρ) (σ : S) : Array Value → State → Outcome → State → Prop := fun _ st o t =>
  (∃ ad', F ad' ∧ o = .returned ((ra r).map (cv ad')) ∧ va_P z.2.1 zcl (w ad' σ) t.heap ∧ va_D (zA z) (w ad' σ)) ∧ va_F (zA z) st t
def PB (z : ZZ) (w : (Nat → Nat) → S → va_W) (ad : Nat → Nat) (σ : S) (U : State) : Prop := Amb z ad U ∧ va_P z.2.1 zcl (w ad σ) U.heap ∧ va_D (zA z) (w ad σ)
def rmk (h c n : Nat) : Room := { frames := h, cells := c, slots := n, locals := 64 * h }
/-- a method's contract: where d is an answer, the method gives it -/
def Ct (z : ZZ) (w : (Nat → Nat) → S → va_W) (ra : ρ → Option Value) (E : (Nat → Nat) → (Nat → Nat) → Prop) (y : MethodName) (cc : ByteArray) (maxL : Nat) (ret : Option FieldType) (h mc ms : Nat) (As : List Value) (σ : S) (d : Option (ρ × S)) : Prop :=
  ∀ r σ', d = some (r, σ') → ∀ ad, Met z.1 y (.code y cc maxL ret :: GW) (rmk h mc ms) (va_Pc (As.map (cv ad)) (PB z w ad σ)) (QA z w ra (E ad) r σ') mc ms (zA z)
/-- from here on the method comes to d's answer, if d is one -/
def AT (z : ZZ) (x : XX) (nL : Nat) (w : (Nat → Nat) → S → va_W) (ra : ρ → Option Value) (F : (Nat → Nat) → Prop) (mc ms k n : Nat) (ad : Nat → Nat) (pc : Nat) (lv : List (Nat × Value)) (st : List Value) (σ : S) (d : Option (ρ × S)) : Prop :=
  ∀ r σ', d = some (r, σ') → ∀ (H : Heap) (locs : List Loc) (ls : Array Slot), va_P z.2.1 zcl (w ad σ) H → va_D (zA z) (w ad σ) → va_S (zA z) x.2.2.2.1.heap H locs → lv_has ls nL (lv.map fun q => (q.1, cv ad q.2)) →
    W x.1 z.1 x.2.1 x.2.2.1 x.2.2.2.1 x.2.2.2.2.1 x.2.2.2.2.2.1 x.2.2.2.2.2.2.1 x.2.2.2.2.2.2.2.1 x.2.2.2.2.2.2.2.2 H locs k n (MQ x.2.2.2.2.2.2.1 (QA z w ra F r σ') x.2.2.2.2.2.1 x.2.2.2.1 mc ms (zA z)) (F0 x.2.2.2.2.1 pc ls (st.map (cv ad)))
theorem cv_cat (ad : Nat → Nat) (v : Value) : (cv ad v).category = v.category := by cases v <;> rfl
theorem lv_args_cv (ad : Nat → Nat) : ∀ (As : List Value) (i : Nat), lv_args i (As.map (cv ad)) = (lv_args i As).map (fun q => (q.1, cv ad q.2)) := by
  intro As
  induction As with
  | nil => intro i; rfl
  | cons v vs ih => intro i; simp only [List.map_cons, lv_args, cv_cat, ih]
theorem lg_sl_cv (ad : Nat → Nat) : ∀ (As : List Value), (lg_sl (As.map (cv ad))).length = (lg_sl As).length := by
  intro As
  induction As with
  | nil => rfl
  | cons v vs ih =>
    have e : ∀ u : Value, (if u.category = 2 then [Slot.val u, Slot.second] else [Slot.val u]).length = if u.category = 2 then 2 else 1 := fun u => by split <;> rfl
    simp only [lg_sl, List.map_cons, List.flatMap_cons, List.length_append, e, cv_cat] at ih ⊢
    rw [ih]
    congr 1
    split <;> rfl
/-- a contract out of the walk of the body -/
theorem Ct.of {z : ZZ} {w : (Nat → Nat) → S → va_W} {ra : ρ → Option Value} {E : (Nat → Nat) → (Nat → Nat) → Prop} {y : MethodName} {cc : ByteArray} {maxL : Nat} {ret : Option FieldType} {h mc ms : Nat} {As : List Value} {σ : S} {d : Option (ρ × S)} (hy : plainName y.cls = true) (hn : (lg_sl As).length ≤ maxL)
    (body : ∀ (ad : Nat → Nat) (x : XX), CX z ad x cc y.cls maxL ret → x.2.2.1 = rmk h mc ms → (y.name = "<init>" → x.2.2.2.2.2.2.2.1.name = "<init>") → AT z x maxL w ra (E ad) mc ms 0 0 ad 0 (lv_args 0 As) [] σ d) : Ct z w ra E y cc maxL ret h mc ms As σ d := by
  intro r σ' hd ad
  refine Met.ofW (cc := cc) (maxL := maxL) (ret := ret) hy rfl ?_
  intro p e s m args below meth c s₁ B hml hv
  obtain ⟨rfl, hAmb, hP, hD⟩ := hv
  have hts := atoms_spec (ws := .code y cc maxL ret :: GW) B.pre
  have hown : s.vm.findClass y.cls = some m.cls := findClass_of_methodNamed B.named
  have hx := body ad (p, e, rmk h mc ms, s, m, (As.map (cv ad)).toArray, below, meth, c) ⟨B.exec, B.bytes, B.returns, hml, hown, fun w hw => hts w (List.mem_cons_of_mem _ hw), B.notSynchronized, hAmb⟩ rfl (fun hi => by rw [← hi]; exact (name_of_methodNamed B.named B.method).1)
  have hl := lv_entry (As.map (cv ad)) (n := maxL) (by rw [lg_sl_cv]; exact hn)
  rw [lg_entry_eq]
  rw [lv_args_cv] at hl
  exact hx r σ' hd s.heap [] _ hP hD va_S.rf hl
end FR


section AR
variable {S ρ : Type} {z : ZZ} {x : XX} {nL : Nat} {w : (Nat → Nat) → S → va_W} {ra : ρ → Option Value} {F : (Nat → Nat) → Prop} {mc ms k n : Nat} {ad : Nat → Nat} {pc : Nat} {lv : List (Nat × Value)} {st : List Value} {σ : S} {d d1 d2 : Option (ρ × S)} {cc : ByteArray} {own : String} {ret : Option FieldType}
theorem at_lk {ls : Array Slot} (hl : lv_has ls nL (lv.map fun q => (q.1, cv ad q.2))) {j i : Nat} {v : Value} (h : lv[j]? = some (i, v)) : ls[i]? = some (.val (cv ad v)) := lv_at hl j (by rw [List.getElem?_map, h]; rfl)
theorem at_none : AT z x nL w ra F mc ms k n ad pc lv st σ none := fun _ _ h => by cases h
theorem pick_cv : ∀ (ks : List Nat), lv_pick (lv.map fun q => (q.1, cv ad q.2)) ks = (lv_pick lv ks).map fun q => (q.1, cv ad q.2) := by
  intro ks
  induction ks with
  | nil => rfl
  | cons a as ih =>
    simp only [lv_pick, List.filterMap_cons, List.getElem?_map] at ih ⊢
    cases lv[a]? with
    | none => simpa using ih
    | some q => simp only [Option.map_some, List.map_cons]; rw [ih]
/-- fewer locals -/
theorem at_drop {lv' : List (Nat × Value)} (ks : List Nat) (h : lv_pick lv ks = lv') (kk : AT z x nL w ra F mc ms k n ad pc lv' st σ d) : AT z x nL w ra F mc ms k n ad pc lv st σ d := by
  intro r σ' hd H locs ls hP hD hS hl
  exact kk r σ' hd H locs ls hP hD hS (lv_sub hl ks (by rw [pick_cv, h]))

theorem at_iload (hC : CX z ad x cc own nL ret) {j i : Nat} {a : Int32} (hv : lv[j]? = some (i, .int a)) (hd : decode cc pc = .ok (.iload i, 2)) (kk : AT z x nL w ra F mc ms k n ad (pc + 2) lv (.int a :: st) σ d) : AT z x nL w ra F mc ms k n ad pc lv st σ d := by
  intro r σ' hd' H locs ls hP hD hS hl
  exact lv_iload hC.1 hC.2.1 hd (at_lk hl hv) (kk r σ' hd' H locs ls hP hD hS hl)
theorem at_iload_n (hC : CX z ad x cc own nL ret) {j i : Nat} {i4 : Fin 4} {a : Int32} (hi : (i4 : Nat) = i) (hv : lv[j]? = some (i, .int a)) (hd : decode cc pc = .ok (.iload_n i4, 1)) (kk : AT z x nL w ra F mc ms k n ad (pc + 1) lv (.int a :: st) σ d) : AT z x nL w ra F mc ms k n ad pc lv st σ d := by
  intro r σ' hd' H locs ls hP hD hS hl
  exact lv_iload_n hC.1 hC.2.1 hd hi (at_lk hl hv) (kk r σ' hd' H locs ls hP hD hS hl)
theorem at_lload (hC : CX z ad x cc own nL ret) {j i : Nat} {a : Int64} (hv : lv[j]? = some (i, .long a)) (hd : decode cc pc = .ok (.lload i, 2)) (kk : AT z x nL w ra F mc ms k n ad (pc + 2) lv (.long a :: st) σ d) : AT z x nL w ra F mc ms k n ad pc lv st σ d := by
  intro r σ' hd' H locs ls hP hD hS hl
  exact lv_lload hC.1 hC.2.1 hd (at_lk hl hv) (kk r σ' hd' H locs ls hP hD hS hl)
theorem at_lload_n (hC : CX z ad x cc own nL ret) {j i : Nat} {i4 : Fin 4} {a : Int64} (hi : (i4 : Nat) = i) (hv : lv[j]? = some (i, .long a)) (hd : decode cc pc = .ok (.lload_n i4, 1)) (kk : AT z x nL w ra F mc ms k n ad (pc + 1) lv (.long a :: st) σ d) : AT z x nL w ra F mc ms k n ad pc lv st σ d := by
  intro r σ' hd' H locs ls hP hD hS hl
  exact lv_lload_n hC.1 hC.2.1 hd hi (at_lk hl hv) (kk r σ' hd' H locs ls hP hD hS hl)
theorem at_aload (hC : CX z ad x cc own nL ret) {j i a : Nat} (hv : lv[j]? = some (i, .ref a)) (hd : decode cc pc = .ok (.aload i, 2)) (kk : AT z x nL w ra F mc ms k n ad (pc + 2) lv (.ref a :: st) σ d) : AT z x nL w ra F mc ms k n ad pc lv st σ d := by
  intro r σ' hd' H locs ls hP hD hS hl
  exact lv_aload hC.1 hC.2.1 hd (at_lk hl hv) (kk r σ' hd' H locs ls hP hD hS hl)
theorem at_aload_n (hC : CX z ad x cc own nL ret) {j i a : Nat} {i4 : Fin 4} (hi : (i4 : Nat) = i) (hv : lv[j]? = some (i, .ref a)) (hd : decode cc pc = .ok (.aload_n i4, 1)) (kk : AT z x nL w ra F mc ms k n ad (pc + 1) lv (.ref a :: st) σ d) : AT z x nL w ra F mc ms k n ad pc lv st σ d := by
  intro r σ' hd' H locs ls hP hD hS hl
  exact lv_aload_n hC.1 hC.2.1 hd hi (at_lk hl hv) (kk r σ' hd' H locs ls hP hD hS hl)
theorem at_iconst (hC : CX z ad x cc own nL ret) {c : Int} {v : Int32} (hv : Int32.ofInt c = v) (hd : decode cc pc = .ok (.iconst c, 1)) (kk : AT z x nL w ra F mc ms k n ad (pc + 1) lv (.int v :: st) σ d) : AT z x nL w ra F mc ms k n ad pc lv st σ d := by
  intro r σ' hd' H locs ls hP hD hS hl
  exact lv_iconst hC.1 hC.2.1 hd hv (kk r σ' hd' H locs ls hP hD hS hl)
theorem at_bipush (hC : CX z ad x cc own nL ret) {c : Int} {v : Int32} (hv : (Int8.ofInt c).toInt32 = v) (hd : decode cc pc = .ok (.bipush c, 2)) (kk : AT z x nL w ra F mc ms k n ad (pc + 2) lv (.int v :: st) σ d) : AT z x nL w ra F mc ms k n ad pc lv st σ d := by
  intro r σ' hd' H locs ls hP hD hS hl
  exact lv_bipush hC.1 hC.2.1 hd hv (kk r σ' hd' H locs ls hP hD hS hl)
theorem at_sipush (hC : CX z ad x cc own nL ret) {c : Int} {v : Int32} (hv : (Int16.ofInt c).toInt32 = v) (hd : decode cc pc = .ok (.sipush c, 3)) (kk : AT z x nL w ra F mc ms k n ad (pc + 3) lv (.int v :: st) σ d) : AT z x nL w ra F mc ms k n ad pc lv st σ d := by
  intro r σ' hd' H locs ls hP hD hS hl
  exact lv_sipush hC.1 hC.2.1 hd hv (kk r σ' hd' H locs ls hP hD hS hl)
theorem at_lconst (hC : CX z ad x cc own nL ret) {c : Fin 2} {v : Int64} (hv : Int64.ofNat (c : Nat) = v) (hd : decode cc pc = .ok (.lconst c, 1)) (kk : AT z x nL w ra F mc ms k n ad (pc + 1) lv (.long v :: st) σ d) : AT z x nL w ra F mc ms k n ad pc lv st σ d := by
  intro r σ' hd' H locs ls hP hD hS hl
  exact lv_lconst hC.1 hC.2.1 hd hv (kk r σ' hd' H locs ls hP hD hS hl)
theorem at_null (hC : CX z ad x cc own nL ret)  (hd : decode cc pc = .ok (.aconst_null, 1)) (kk : AT z x nL w ra F mc ms k n ad (pc + 1) lv (.null :: st) σ d) : AT z x nL w ra F mc ms k n ad pc lv st σ d := by
  intro r σ' hd' H locs ls hP hD hS hl
  exact lv_null hC.1 hC.2.1 hd (kk r σ' hd' H locs ls hP hD hS hl)
theorem at_ldc (hC : CX z ad x cc own nL ret) {i : Nat} {v : Int32} (hw : Cond.constant own i v ∈ GW) (hd : decode cc pc = .ok (.ldc i, 2)) (kk : AT z x nL w ra F mc ms k n ad (pc + 2) lv (.int v :: st) σ d) : AT z x nL w ra F mc ms k n ad pc lv st σ d := by
  intro r σ' hd' H locs ls hP hD hS hl
  exact lv_ldc hC.1 hC.2.1 hC.2.2.2.2.1 (hC.2.2.2.2.2.1 _ hw) hd (kk r σ' hd' H locs ls hP hD hS hl)
theorem at_ldcw (hC : CX z ad x cc own nL ret) {i : Nat} {v : Int32} (hw : Cond.constant own i v ∈ GW) (hd : decode cc pc = .ok (.ldc_w i, 3)) (kk : AT z x nL w ra F mc ms k n ad (pc + 3) lv (.int v :: st) σ d) : AT z x nL w ra F mc ms k n ad pc lv st σ d := by
  intro r σ' hd' H locs ls hP hD hS hl
  exact lv_ldcw hC.1 hC.2.1 hC.2.2.2.2.1 (hC.2.2.2.2.2.1 _ hw) hd (kk r σ' hd' H locs ls hP hD hS hl)
theorem at_ldc2 (hC : CX z ad x cc own nL ret) {i : Nat} {v : Int64} (hw : Cond.constantLong own i v ∈ GW) (hd : decode cc pc = .ok (.ldc2_w i, 3)) (kk : AT z x nL w ra F mc ms k n ad (pc + 3) lv (.long v :: st) σ d) : AT z x nL w ra F mc ms k n ad pc lv st σ d := by
  intro r σ' hd' H locs ls hP hD hS hl
  exact lv_ldc2 hC.1 hC.2.1 hC.2.2.2.2.1 (hC.2.2.2.2.2.1 _ hw) hd (kk r σ' hd' H locs ls hP hD hS hl)
theorem at_iadd (hC : CX z ad x cc own nL ret) {a b : Int32} (hd : decode cc pc = .ok (.iadd, 1)) (kk : AT z x nL w ra F mc ms k n ad (pc + 1) lv (.int (a + b) :: st) σ d) : AT z x nL w ra F mc ms k n ad pc lv (.int b :: .int a :: st) σ d := by
  intro r σ' hd' H locs ls hP hD hS hl
  exact lv_iadd hC.1 hC.2.1 hd (kk r σ' hd' H locs ls hP hD hS hl)
theorem at_isub (hC : CX z ad x cc own nL ret) {a b : Int32} (hd : decode cc pc = .ok (.isub, 1)) (kk : AT z x nL w ra F mc ms k n ad (pc + 1) lv (.int (a - b) :: st) σ d) : AT z x nL w ra F mc ms k n ad pc lv (.int b :: .int a :: st) σ d := by
  intro r σ' hd' H locs ls hP hD hS hl
  exact lv_isub hC.1 hC.2.1 hd (kk r σ' hd' H locs ls hP hD hS hl)
theorem at_imul (hC : CX z ad x cc own nL ret) {a b : Int32} (hd : decode cc pc = .ok (.imul, 1)) (kk : AT z x nL w ra F mc ms k n ad (pc + 1) lv (.int (a * b) :: st) σ d) : AT z x nL w ra F mc ms k n ad pc lv (.int b :: .int a :: st) σ d := by
  intro r σ' hd' H locs ls hP hD hS hl
  exact lv_imul hC.1 hC.2.1 hd (kk r σ' hd' H locs ls hP hD hS hl)
theorem at_iand (hC : CX z ad x cc own nL ret) {a b : Int32} (hd : decode cc pc = .ok (.iand, 1)) (kk : AT z x nL w ra F mc ms k n ad (pc + 1) lv (.int (a &&& b) :: st) σ d) : AT z x nL w ra F mc ms k n ad pc lv (.int b :: .int a :: st) σ d := by
  intro r σ' hd' H locs ls hP hD hS hl
  exact lv_iand hC.1 hC.2.1 hd (kk r σ' hd' H locs ls hP hD hS hl)
theorem at_ior (hC : CX z ad x cc own nL ret) {a b : Int32} (hd : decode cc pc = .ok (.ior, 1)) (kk : AT z x nL w ra F mc ms k n ad (pc + 1) lv (.int (a ||| b) :: st) σ d) : AT z x nL w ra F mc ms k n ad pc lv (.int b :: .int a :: st) σ d := by
  intro r σ' hd' H locs ls hP hD hS hl
  exact lv_ior hC.1 hC.2.1 hd (kk r σ' hd' H locs ls hP hD hS hl)
theorem at_ishl (hC : CX z ad x cc own nL ret) {a b : Int32} (hd : decode cc pc = .ok (.ishl, 1)) (kk : AT z x nL w ra F mc ms k n ad (pc + 1) lv (.int (a <<< (b &&& 31)) :: st) σ d) : AT z x nL w ra F mc ms k n ad pc lv (.int b :: .int a :: st) σ d := by
  intro r σ' hd' H locs ls hP hD hS hl
  exact lv_ishl hC.1 hC.2.1 hd (kk r σ' hd' H locs ls hP hD hS hl)
theorem at_ishr (hC : CX z ad x cc own nL ret) {a b : Int32} (hd : decode cc pc = .ok (.ishr, 1)) (kk : AT z x nL w ra F mc ms k n ad (pc + 1) lv (.int (a >>> (b &&& 31)) :: st) σ d) : AT z x nL w ra F mc ms k n ad pc lv (.int b :: .int a :: st) σ d := by
  intro r σ' hd' H locs ls hP hD hS hl
  exact lv_ishr hC.1 hC.2.1 hd (kk r σ' hd' H locs ls hP hD hS hl)
theorem at_ladd (hC : CX z ad x cc own nL ret) {a b : Int64} (hd : decode cc pc = .ok (.ladd, 1)) (kk : AT z x nL w ra F mc ms k n ad (pc + 1) lv (.long (a + b) :: st) σ d) : AT z x nL w ra F mc ms k n ad pc lv (.long b :: .long a :: st) σ d := by
  intro r σ' hd' H locs ls hP hD hS hl
  exact lv_ladd hC.1 hC.2.1 hd (kk r σ' hd' H locs ls hP hD hS hl)
theorem at_lsub (hC : CX z ad x cc own nL ret) {a b : Int64} (hd : decode cc pc = .ok (.lsub, 1)) (kk : AT z x nL w ra F mc ms k n ad (pc + 1) lv (.long (a - b) :: st) σ d) : AT z x nL w ra F mc ms k n ad pc lv (.long b :: .long a :: st) σ d := by
  intro r σ' hd' H locs ls hP hD hS hl
  exact lv_lsub hC.1 hC.2.1 hd (kk r σ' hd' H locs ls hP hD hS hl)
theorem at_lmul (hC : CX z ad x cc own nL ret) {a b : Int64} (hd : decode cc pc = .ok (.lmul, 1)) (kk : AT z x nL w ra F mc ms k n ad (pc + 1) lv (.long (a * b) :: st) σ d) : AT z x nL w ra F mc ms k n ad pc lv (.long b :: .long a :: st) σ d := by
  intro r σ' hd' H locs ls hP hD hS hl
  exact lv_lmul hC.1 hC.2.1 hd (kk r σ' hd' H locs ls hP hD hS hl)
theorem at_land (hC : CX z ad x cc own nL ret) {a b : Int64} (hd : decode cc pc = .ok (.land, 1)) (kk : AT z x nL w ra F mc ms k n ad (pc + 1) lv (.long (a &&& b) :: st) σ d) : AT z x nL w ra F mc ms k n ad pc lv (.long b :: .long a :: st) σ d := by
  intro r σ' hd' H locs ls hP hD hS hl
  exact lv_land hC.1 hC.2.1 hd (kk r σ' hd' H locs ls hP hD hS hl)
theorem at_lor (hC : CX z ad x cc own nL ret) {a b : Int64} (hd : decode cc pc = .ok (.lor, 1)) (kk : AT z x nL w ra F mc ms k n ad (pc + 1) lv (.long (a ||| b) :: st) σ d) : AT z x nL w ra F mc ms k n ad pc lv (.long b :: .long a :: st) σ d := by
  intro r σ' hd' H locs ls hP hD hS hl
  exact lv_lor hC.1 hC.2.1 hd (kk r σ' hd' H locs ls hP hD hS hl)
theorem at_idiv (hC : CX z ad x cc own nL ret) {a b : Int32} (hne : ¬ b = 0) (hd : decode cc pc = .ok (.idiv, 1)) (kk : AT z x nL w ra F mc ms k n ad (pc + 1) lv (.int (a / b) :: st) σ d) : AT z x nL w ra F mc ms k n ad pc lv (.int b :: .int a :: st) σ d := by
  intro r σ' hd' H locs ls hP hD hS hl
  exact lv_idiv hC.1 hC.2.1 hd hne (kk r σ' hd' H locs ls hP hD hS hl)
theorem at_irem (hC : CX z ad x cc own nL ret) {a b : Int32} (hne : ¬ b = 0) (hd : decode cc pc = .ok (.irem, 1)) (kk : AT z x nL w ra F mc ms k n ad (pc + 1) lv (.int (a - a / b * b) :: st) σ d) : AT z x nL w ra F mc ms k n ad pc lv (.int b :: .int a :: st) σ d := by
  intro r σ' hd' H locs ls hP hD hS hl
  exact lv_irem hC.1 hC.2.1 hd hne (kk r σ' hd' H locs ls hP hD hS hl)
theorem at_ldiv (hC : CX z ad x cc own nL ret) {a b : Int64} (hne : ¬ b = 0) (hd : decode cc pc = .ok (.ldiv, 1)) (kk : AT z x nL w ra F mc ms k n ad (pc + 1) lv (.long (a / b) :: st) σ d) : AT z x nL w ra F mc ms k n ad pc lv (.long b :: .long a :: st) σ d := by
  intro r σ' hd' H locs ls hP hD hS hl
  exact lv_ldiv hC.1 hC.2.1 hd hne (kk r σ' hd' H locs ls hP hD hS hl)
theorem at_lrem (hC : CX z ad x cc own nL ret) {a b : Int64} (hne : ¬ b = 0) (hd : decode cc pc = .ok (.lrem, 1)) (kk : AT z x nL w ra F mc ms k n ad (pc + 1) lv (.long (a - a / b * b) :: st) σ d) : AT z x nL w ra F mc ms k n ad pc lv (.long b :: .long a :: st) σ d := by
  intro r σ' hd' H locs ls hP hD hS hl
  exact lv_lrem hC.1 hC.2.1 hd hne (kk r σ' hd' H locs ls hP hD hS hl)
theorem at_ineg (hC : CX z ad x cc own nL ret) {a : Int32} (hd : decode cc pc = .ok (.ineg, 1)) (kk : AT z x nL w ra F mc ms k n ad (pc + 1) lv (.int (-a) :: st) σ d) : AT z x nL w ra F mc ms k n ad pc lv (.int a :: st) σ d := by
  intro r σ' hd' H locs ls hP hD hS hl
  exact lv_ineg hC.1 hC.2.1 hd (kk r σ' hd' H locs ls hP hD hS hl)
theorem at_i2l (hC : CX z ad x cc own nL ret) {a : Int32} (hd : decode cc pc = .ok (.i2l, 1)) (kk : AT z x nL w ra F mc ms k n ad (pc + 1) lv (.long a.toInt64 :: st) σ d) : AT z x nL w ra F mc ms k n ad pc lv (.int a :: st) σ d := by
  intro r σ' hd' H locs ls hP hD hS hl
  exact lv_i2l hC.1 hC.2.1 hd rfl (kk r σ' hd' H locs ls hP hD hS hl)
theorem at_l2i (hC : CX z ad x cc own nL ret) {a : Int64} (hd : decode cc pc = .ok (.l2i, 1)) (kk : AT z x nL w ra F mc ms k n ad (pc + 1) lv (.int a.toInt32 :: st) σ d) : AT z x nL w ra F mc ms k n ad pc lv (.long a :: st) σ d := by
  intro r σ' hd' H locs ls hP hD hS hl
  exact lv_l2i hC.1 hC.2.1 hd rfl (kk r σ' hd' H locs ls hP hD hS hl)
theorem at_lshl (hC : CX z ad x cc own nL ret) {a : Int64} {b : Int32} (hd : decode cc pc = .ok (.lshl, 1)) (kk : AT z x nL w ra F mc ms k n ad (pc + 1) lv (.long (a <<< (b.toInt64 &&& 63)) :: st) σ d) : AT z x nL w ra F mc ms k n ad pc lv (.int b :: .long a :: st) σ d := by
  intro r σ' hd' H locs ls hP hD hS hl
  exact lv_lshl hC.1 hC.2.1 hd rfl (kk r σ' hd' H locs ls hP hD hS hl)
theorem at_lshr (hC : CX z ad x cc own nL ret) {a : Int64} {b : Int32} (hd : decode cc pc = .ok (.lshr, 1)) (kk : AT z x nL w ra F mc ms k n ad (pc + 1) lv (.long (a >>> (b.toInt64 &&& 63)) :: st) σ d) : AT z x nL w ra F mc ms k n ad pc lv (.int b :: .long a :: st) σ d := by
  intro r σ' hd' H locs ls hP hD hS hl
  exact lv_lshr hC.1 hC.2.1 hd rfl (kk r σ' hd' H locs ls hP hD hS hl)
theorem at_lushr (hC : CX z ad x cc own nL ret) {a : Int64} {b : Int32} (hd : decode cc pc = .ok (.lushr, 1)) (kk : AT z x nL w ra F mc ms k n ad (pc + 1) lv (.long ((a.toUInt64 >>> (b.toInt64.toUInt64 &&& Int64.toUInt64 63)).toInt64) :: st) σ d) : AT z x nL w ra F mc ms k n ad pc lv (.int b :: .long a :: st) σ d := by
  intro r σ' hd' H locs ls hP hD hS hl
  exact lv_lushr hC.1 hC.2.1 hd rfl (kk r σ' hd' H locs ls hP hD hS hl)
theorem at_dup (hC : CX z ad x cc own nL ret) {va : Value} (ha : va.category = 1) (hd : decode cc pc = .ok (.dup, 1)) (kk : AT z x nL w ra F mc ms k n ad (pc + 1) lv (va :: va :: st) σ d) : AT z x nL w ra F mc ms k n ad pc lv (va :: st) σ d := by
  intro r σ' hd' H locs ls hP hD hS hl
  exact lv_dup hC.1 hC.2.1 hd (by rw [cv_cat]; exact ha) (kk r σ' hd' H locs ls hP hD hS hl)
theorem at_dup_x1 (hC : CX z ad x cc own nL ret) {va vb : Value} (ha : va.category = 1) (hb : vb.category = 1) (hd : decode cc pc = .ok (.dup_x1, 1)) (kk : AT z x nL w ra F mc ms k n ad (pc + 1) lv (va :: vb :: va :: st) σ d) : AT z x nL w ra F mc ms k n ad pc lv (va :: vb :: st) σ d := by
  intro r σ' hd' H locs ls hP hD hS hl
  exact lv_dup_x1 hC.1 hC.2.1 hd (by rw [cv_cat]; exact ha) (by rw [cv_cat]; exact hb) (kk r σ' hd' H locs ls hP hD hS hl)
theorem at_dup_x2 (hC : CX z ad x cc own nL ret) {va vb vd : Value} (ha : va.category = 1) (hb : vb.category = 1) (hv : vd.category = 1) (hd : decode cc pc = .ok (.dup_x2, 1)) (kk : AT z x nL w ra F mc ms k n ad (pc + 1) lv (va :: vb :: vd :: va :: st) σ d) : AT z x nL w ra F mc ms k n ad pc lv (va :: vb :: vd :: st) σ d := by
  intro r σ' hd' H locs ls hP hD hS hl
  exact lv_dup_x2 hC.1 hC.2.1 hd (by rw [cv_cat]; exact ha) (by rw [cv_cat]; exact hb) (by rw [cv_cat]; exact hv) (kk r σ' hd' H locs ls hP hD hS hl)
theorem at_pop (hC : CX z ad x cc own nL ret) {va : Value} (ha : va.category = 1) (hd : decode cc pc = .ok (.pop, 1)) (kk : AT z x nL w ra F mc ms k n ad (pc + 1) lv st σ d) : AT z x nL w ra F mc ms k n ad pc lv (va :: st) σ d := by
  intro r σ' hd' H locs ls hP hD hS hl
  exact lv_pop hC.1 hC.2.1 hd (by rw [cv_cat]; exact ha) (kk r σ' hd' H locs ls hP hD hS hl)
theorem at_fi {i : Nat} {v : Value} {lv' : List (Nat × Value)} (h : (i, v) :: lv.filter (fun q => !(q.1 == i) && !(q.1 + 1 == i && q.2.category == 2)) = lv') : (i, cv ad v) :: (lv.map fun q => (q.1, cv ad q.2)).filter (fun q => !(q.1 == i) && !(q.1 + 1 == i && q.2.category == 2)) = lv'.map fun q => (q.1, cv ad q.2) := by
  subst h
  simp only [List.map_cons, List.filter_map]
  congr 2
  apply List.filter_congr
  intro q _
  simp only [Function.comp, cv_cat]
theorem at_fl {i : Nat} {v : Value} {lv' : List (Nat × Value)} (h : (i, v) :: lv.filter (fun q => !(q.1 == i) && (!(q.1 == i + 1) && !(q.1 + 1 == i && q.2.category == 2))) = lv') : (i, cv ad v) :: (lv.map fun q => (q.1, cv ad q.2)).filter (fun q => !(q.1 == i) && (!(q.1 == i + 1) && !(q.1 + 1 == i && q.2.category == 2))) = lv'.map fun q => (q.1, cv ad q.2) := by
  subst h
  simp only [List.map_cons, List.filter_map]
  congr 2
  apply List.filter_congr
  intro q _
  simp only [Function.comp, cv_cat]
theorem at_istore (hC : CX z ad x cc own nL ret) {i : Nat} {a : Int32} {lv' : List (Nat × Value)} (hd : decode cc pc = .ok (.istore i, 2)) (hn : i < nL) (hv : (i, Value.int a) :: lv.filter (fun q => !(q.1 == i) && !(q.1 + 1 == i && q.2.category == 2)) = lv') (kk : AT z x nL w ra F mc ms k n ad (pc + 2) lv' st σ d) : AT z x nL w ra F mc ms k n ad pc lv (.int a :: st) σ d := by
  intro r σ' hd' H locs ls hP hD hS hl
  exact lv_istore hC.1 hC.2.1 hd hl hn (at_fi hv) (fun ls' hl' => kk r σ' hd' H locs ls' hP hD hS hl')
theorem at_istore_n (hC : CX z ad x cc own nL ret) {i : Nat} {i4 : Fin 4} (hi : (i4 : Nat) = i) {a : Int32} {lv' : List (Nat × Value)} (hd : decode cc pc = .ok (.istore_n i4, 1)) (hn : i < nL) (hv : (i, Value.int a) :: lv.filter (fun q => !(q.1 == i) && !(q.1 + 1 == i && q.2.category == 2)) = lv') (kk : AT z x nL w ra F mc ms k n ad (pc + 1) lv' st σ d) : AT z x nL w ra F mc ms k n ad pc lv (.int a :: st) σ d := by
  intro r σ' hd' H locs ls hP hD hS hl
  exact lv_istore_n hC.1 hC.2.1 hd hi hl hn (at_fi hv) (fun ls' hl' => kk r σ' hd' H locs ls' hP hD hS hl')
theorem at_lstore (hC : CX z ad x cc own nL ret) {i : Nat} {a : Int64} {lv' : List (Nat × Value)} (hd : decode cc pc = .ok (.lstore i, 2)) (hn : i + 1 < nL) (hv : (i, Value.long a) :: lv.filter (fun q => !(q.1 == i) && (!(q.1 == i + 1) && !(q.1 + 1 == i && q.2.category == 2))) = lv') (kk : AT z x nL w ra F mc ms k n ad (pc + 2) lv' st σ d) : AT z x nL w ra F mc ms k n ad pc lv (.long a :: st) σ d := by
  intro r σ' hd' H locs ls hP hD hS hl
  exact lv_lstore hC.1 hC.2.1 hd hl hn (at_fl hv) (fun ls' hl' => kk r σ' hd' H locs ls' hP hD hS hl')
theorem at_lstore_n (hC : CX z ad x cc own nL ret) {i : Nat} {i4 : Fin 4} (hi : (i4 : Nat) = i) {a : Int64} {lv' : List (Nat × Value)} (hd : decode cc pc = .ok (.lstore_n i4, 1)) (hn : i + 1 < nL) (hv : (i, Value.long a) :: lv.filter (fun q => !(q.1 == i) && (!(q.1 == i + 1) && !(q.1 + 1 == i && q.2.category == 2))) = lv') (kk : AT z x nL w ra F mc ms k n ad (pc + 1) lv' st σ d) : AT z x nL w ra F mc ms k n ad pc lv (.long a :: st) σ d := by
  intro r σ' hd' H locs ls hP hD hS hl
  exact lv_lstore_n hC.1 hC.2.1 hd hi hl hn (at_fl hv) (fun ls' hl' => kk r σ' hd' H locs ls' hP hD hS hl')
theorem at_astore (hC : CX z ad x cc own nL ret) {i a : Nat} {lv' : List (Nat × Value)} (hd : decode cc pc = .ok (.astore i, 2)) (hn : i < nL) (hv : (i, Value.ref a) :: lv.filter (fun q => !(q.1 == i) && !(q.1 + 1 == i && q.2.category == 2)) = lv') (kk : AT z x nL w ra F mc ms k n ad (pc + 2) lv' st σ d) : AT z x nL w ra F mc ms k n ad pc lv (.ref a :: st) σ d := by
  intro r σ' hd' H locs ls hP hD hS hl
  exact lv_astore hC.1 hC.2.1 hd hl hn (at_fi (v := .ref a) hv) (fun ls' hl' => kk r σ' hd' H locs ls' hP hD hS hl')
theorem at_astore_n (hC : CX z ad x cc own nL ret) {i : Nat} {i4 : Fin 4} (hi : (i4 : Nat) = i) {a : Nat} {lv' : List (Nat × Value)} (hd : decode cc pc = .ok (.astore_n i4, 1)) (hn : i < nL) (hv : (i, Value.ref a) :: lv.filter (fun q => !(q.1 == i) && !(q.1 + 1 == i && q.2.category == 2)) = lv') (kk : AT z x nL w ra F mc ms k n ad (pc + 1) lv' st σ d) : AT z x nL w ra F mc ms k n ad pc lv (.ref a :: st) σ d := by
  intro r σ' hd' H locs ls hP hD hS hl
  exact lv_astore_n hC.1 hC.2.1 hd hi hl hn (at_fi (v := .ref a) hv) (fun ls' hl' => kk r σ' hd' H locs ls' hP hD hS hl')
theorem at_iinc (hC : CX z ad x cc own nL ret) {i j : Nat} {c : Int} {a v : Int32} {lv' : List (Nat × Value)} (hd : decode cc pc = .ok (.iinc i c, 3)) (hj : lv[j]? = some (i, .int a)) (ha : a + Int32.ofInt c = v) (hn : i < nL) (hv : (i, Value.int v) :: lv.filter (fun q => !(q.1 == i) && !(q.1 + 1 == i && q.2.category == 2)) = lv') (kk : AT z x nL w ra F mc ms k n ad (pc + 3) lv' st σ d) : AT z x nL w ra F mc ms k n ad pc lv st σ d := by
  intro r σ' hd' H locs ls hP hD hS hl
  exact lv_iinc hC.1 hC.2.1 hd hl (k := j) (by rw [List.getElem?_map, hj]; rfl) ha hn (at_fi hv) (fun ls' hl' => kk r σ' hd' H locs ls' hP hD hS hl')
theorem at_goto (hC : CX z ad x cc own nL ret) {off : Int} {tgt : Nat} (hd : decode cc pc = .ok (.goto off, 3)) (ht : (pc : Int) + off = (tgt : Int)) (kk : AT z x nL w ra F mc ms k n ad tgt lv st σ d) : AT z x nL w ra F mc ms k n ad pc lv st σ d := by
  intro r σ' hd' H locs ls hP hD hS hl
  exact lv_goto hC.1 hC.2.1 hd ht (kk r σ' hd' H locs ls hP hD hS hl)
theorem at_icmp_ne (hC : CX z ad x cc own nL ret) {a b : Int32} {off : Int} {tgt : Nat} (hd : decode cc pc = .ok (.if_icmp .ne off, 3)) (ht : (pc : Int) + off = (tgt : Int)) (kt : ¬ (a = b) → AT z x nL w ra F mc ms k n ad tgt lv st σ d1) (kf : a = b → AT z x nL w ra F mc ms k n ad (pc + 3) lv st σ d2) : AT z x nL w ra F mc ms k n ad pc lv (.int b :: .int a :: st) σ (if a = b then d2 else d1) := by
  intro r σ' hd' H locs ls hP hD hS hl
  refine lv_icmp_ne hC.1 hC.2.1 hd ht (fun h => ?_) (fun h => ?_)
  · rw [if_neg h] at hd'; exact kt h r σ' hd' H locs ls hP hD hS hl
  · rw [if_pos h] at hd'; exact kf h r σ' hd' H locs ls hP hD hS hl
theorem at_if_ne (hC : CX z ad x cc own nL ret) {a : Int32} {off : Int} {tgt : Nat} (hd : decode cc pc = .ok (.ifCond .ne off, 3)) (ht : (pc : Int) + off = (tgt : Int)) (kt : ¬ (a = 0) → AT z x nL w ra F mc ms k n ad tgt lv st σ d1) (kf : a = 0 → AT z x nL w ra F mc ms k n ad (pc + 3) lv st σ d2) : AT z x nL w ra F mc ms k n ad pc lv (.int a :: st) σ (if a = 0 then d2 else d1) := by
  intro r σ' hd' H locs ls hP hD hS hl
  refine lv_if_ne hC.1 hC.2.1 hd ht (fun h => ?_) (fun h => ?_)
  · rw [if_neg h] at hd'; exact kt h r σ' hd' H locs ls hP hD hS hl
  · rw [if_pos h] at hd'; exact kf h r σ' hd' H locs ls hP hD hS hl
theorem at_icmp_eq (hC : CX z ad x cc own nL ret) {a b : Int32} {off : Int} {tgt : Nat} (hd : decode cc pc = .ok (.if_icmp .eq off, 3)) (ht : (pc : Int) + off = (tgt : Int)) (kt : a = b → AT z x nL w ra F mc ms k n ad tgt lv st σ d1) (kf : ¬ (a = b) → AT z x nL w ra F mc ms k n ad (pc + 3) lv st σ d2) : AT z x nL w ra F mc ms k n ad pc lv (.int b :: .int a :: st) σ (if a = b then d1 else d2) := by
  intro r σ' hd' H locs ls hP hD hS hl
  refine lv_icmp_eq hC.1 hC.2.1 hd ht (fun h => ?_) (fun h => ?_)
  · rw [if_pos h] at hd'; exact kt h r σ' hd' H locs ls hP hD hS hl
  · rw [if_neg h] at hd'; exact kf h r σ' hd' H locs ls hP hD hS hl
theorem at_if_eq (hC : CX z ad x cc own nL ret) {a : Int32} {off : Int} {tgt : Nat} (hd : decode cc pc = .ok (.ifCond .eq off, 3)) (ht : (pc : Int) + off = (tgt : Int)) (kt : a = 0 → AT z x nL w ra F mc ms k n ad tgt lv st σ d1) (kf : ¬ (a = 0) → AT z x nL w ra F mc ms k n ad (pc + 3) lv st σ d2) : AT z x nL w ra F mc ms k n ad pc lv (.int a :: st) σ (if a = 0 then d1 else d2) := by
  intro r σ' hd' H locs ls hP hD hS hl
  refine lv_if_eq hC.1 hC.2.1 hd ht (fun h => ?_) (fun h => ?_)
  · rw [if_pos h] at hd'; exact kt h r σ' hd' H locs ls hP hD hS hl
  · rw [if_neg h] at hd'; exact kf h r σ' hd' H locs ls hP hD hS hl
theorem at_icmp_lt (hC : CX z ad x cc own nL ret) {a b : Int32} {off : Int} {tgt : Nat} (hd : decode cc pc = .ok (.if_icmp .lt off, 3)) (ht : (pc : Int) + off = (tgt : Int)) (kt : a < b → AT z x nL w ra F mc ms k n ad tgt lv st σ d1) (kf : ¬ (a < b) → AT z x nL w ra F mc ms k n ad (pc + 3) lv st σ d2) : AT z x nL w ra F mc ms k n ad pc lv (.int b :: .int a :: st) σ (if a < b then d1 else d2) := by
  intro r σ' hd' H locs ls hP hD hS hl
  refine lv_icmp_lt hC.1 hC.2.1 hd ht (fun h => ?_) (fun h => ?_)
  · rw [if_pos h] at hd'; exact kt h r σ' hd' H locs ls hP hD hS hl
  · rw [if_neg h] at hd'; exact kf h r σ' hd' H locs ls hP hD hS hl
theorem at_if_lt (hC : CX z ad x cc own nL ret) {a : Int32} {off : Int} {tgt : Nat} (hd : decode cc pc = .ok (.ifCond .lt off, 3)) (ht : (pc : Int) + off = (tgt : Int)) (kt : a < 0 → AT z x nL w ra F mc ms k n ad tgt lv st σ d1) (kf : ¬ (a < 0) → AT z x nL w ra F mc ms k n ad (pc + 3) lv st σ d2) : AT z x nL w ra F mc ms k n ad pc lv (.int a :: st) σ (if a < 0 then d1 else d2) := by
  intro r σ' hd' H locs ls hP hD hS hl
  refine lv_if_lt hC.1 hC.2.1 hd ht (fun h => ?_) (fun h => ?_)
  · rw [if_pos h] at hd'; exact kt h r σ' hd' H locs ls hP hD hS hl
  · rw [if_neg h] at hd'; exact kf h r σ' hd' H locs ls hP hD hS hl
theorem at_icmp_ge (hC : CX z ad x cc own nL ret) {a b : Int32} {off : Int} {tgt : Nat} (hd : decode cc pc = .ok (.if_icmp .ge off, 3)) (ht : (pc : Int) + off = (tgt : Int)) (kt : b ≤ a → AT z x nL w ra F mc ms k n ad tgt lv st σ d1) (kf : ¬ (b ≤ a) → AT z x nL w ra F mc ms k n ad (pc + 3) lv st σ d2) : AT z x nL w ra F mc ms k n ad pc lv (.int b :: .int a :: st) σ (if b ≤ a then d1 else d2) := by
  intro r σ' hd' H locs ls hP hD hS hl
  refine lv_icmp_ge hC.1 hC.2.1 hd ht (fun h => ?_) (fun h => ?_)
  · rw [if_pos h] at hd'; exact kt h r σ' hd' H locs ls hP hD hS hl
  · rw [if_neg h] at hd'; exact kf h r σ' hd' H locs ls hP hD hS hl
theorem at_if_ge (hC : CX z ad x cc own nL ret) {a : Int32} {off : Int} {tgt : Nat} (hd : decode cc pc = .ok (.ifCond .ge off, 3)) (ht : (pc : Int) + off = (tgt : Int)) (kt : 0 ≤ a → AT z x nL w ra F mc ms k n ad tgt lv st σ d1) (kf : ¬ (0 ≤ a) → AT z x nL w ra F mc ms k n ad (pc + 3) lv st σ d2) : AT z x nL w ra F mc ms k n ad pc lv (.int a :: st) σ (if 0 ≤ a then d1 else d2) := by
  intro r σ' hd' H locs ls hP hD hS hl
  refine lv_if_ge hC.1 hC.2.1 hd ht (fun h => ?_) (fun h => ?_)
  · rw [if_pos h] at hd'; exact kt h r σ' hd' H locs ls hP hD hS hl
  · rw [if_neg h] at hd'; exact kf h r σ' hd' H locs ls hP hD hS hl
theorem at_icmp_gt (hC : CX z ad x cc own nL ret) {a b : Int32} {off : Int} {tgt : Nat} (hd : decode cc pc = .ok (.if_icmp .gt off, 3)) (ht : (pc : Int) + off = (tgt : Int)) (kt : b < a → AT z x nL w ra F mc ms k n ad tgt lv st σ d1) (kf : ¬ (b < a) → AT z x nL w ra F mc ms k n ad (pc + 3) lv st σ d2) : AT z x nL w ra F mc ms k n ad pc lv (.int b :: .int a :: st) σ (if b < a then d1 else d2) := by
  intro r σ' hd' H locs ls hP hD hS hl
  refine lv_icmp_gt hC.1 hC.2.1 hd ht (fun h => ?_) (fun h => ?_)
  · rw [if_pos h] at hd'; exact kt h r σ' hd' H locs ls hP hD hS hl
  · rw [if_neg h] at hd'; exact kf h r σ' hd' H locs ls hP hD hS hl
theorem at_if_gt (hC : CX z ad x cc own nL ret) {a : Int32} {off : Int} {tgt : Nat} (hd : decode cc pc = .ok (.ifCond .gt off, 3)) (ht : (pc : Int) + off = (tgt : Int)) (kt : 0 < a → AT z x nL w ra F mc ms k n ad tgt lv st σ d1) (kf : ¬ (0 < a) → AT z x nL w ra F mc ms k n ad (pc + 3) lv st σ d2) : AT z x nL w ra F mc ms k n ad pc lv (.int a :: st) σ (if 0 < a then d1 else d2) := by
  intro r σ' hd' H locs ls hP hD hS hl
  refine lv_if_gt hC.1 hC.2.1 hd ht (fun h => ?_) (fun h => ?_)
  · rw [if_pos h] at hd'; exact kt h r σ' hd' H locs ls hP hD hS hl
  · rw [if_neg h] at hd'; exact kf h r σ' hd' H locs ls hP hD hS hl
theorem at_icmp_le (hC : CX z ad x cc own nL ret) {a b : Int32} {off : Int} {tgt : Nat} (hd : decode cc pc = .ok (.if_icmp .le off, 3)) (ht : (pc : Int) + off = (tgt : Int)) (kt : a ≤ b → AT z x nL w ra F mc ms k n ad tgt lv st σ d1) (kf : ¬ (a ≤ b) → AT z x nL w ra F mc ms k n ad (pc + 3) lv st σ d2) : AT z x nL w ra F mc ms k n ad pc lv (.int b :: .int a :: st) σ (if a ≤ b then d1 else d2) := by
  intro r σ' hd' H locs ls hP hD hS hl
  refine lv_icmp_le hC.1 hC.2.1 hd ht (fun h => ?_) (fun h => ?_)
  · rw [if_pos h] at hd'; exact kt h r σ' hd' H locs ls hP hD hS hl
  · rw [if_neg h] at hd'; exact kf h r σ' hd' H locs ls hP hD hS hl
theorem at_if_le (hC : CX z ad x cc own nL ret) {a : Int32} {off : Int} {tgt : Nat} (hd : decode cc pc = .ok (.ifCond .le off, 3)) (ht : (pc : Int) + off = (tgt : Int)) (kt : a ≤ 0 → AT z x nL w ra F mc ms k n ad tgt lv st σ d1) (kf : ¬ (a ≤ 0) → AT z x nL w ra F mc ms k n ad (pc + 3) lv st σ d2) : AT z x nL w ra F mc ms k n ad pc lv (.int a :: st) σ (if a ≤ 0 then d1 else d2) := by
  intro r σ' hd' H locs ls hP hD hS hl
  refine lv_if_le hC.1 hC.2.1 hd ht (fun h => ?_) (fun h => ?_)
  · rw [if_pos h] at hd'; exact kt h r σ' hd' H locs ls hP hD hS hl
  · rw [if_neg h] at hd'; exact kf h r σ' hd' H locs ls hP hD hS hl
end AR
