theorem dX3_spareAct_0 : decode cX3_spareAct 0 = .ok (.aload_n 0, 1) := by decide +kernel
theorem dX3_spareAct_1 : decode cX3_spareAct 1 = .ok (.getfield 31, 3) := by decide +kernel
theorem dX3_spareAct_4 : decode cX3_spareAct 4 = .ok (.ifnonnull 14, 3) := by decide +kernel
theorem dX3_spareAct_7 : decode cX3_spareAct 7 = .ok (.aload_n 0, 1) := by decide +kernel
theorem dX3_spareAct_8 : decode cX3_spareAct 8 = .ok (.new 9, 3) := by decide +kernel
theorem dX3_spareAct_11 : decode cX3_spareAct 11 = .ok (.dup, 1) := by decide +kernel
theorem dX3_spareAct_12 : decode cX3_spareAct 12 = .ok (.invokespecial 35, 3) := by decide +kernel
theorem dX3_spareAct_15 : decode cX3_spareAct 15 = .ok (.putfield 31, 3) := by decide +kernel
theorem dX3_spareAct_18 : decode cX3_spareAct 18 = .ok (.aload_n 0, 1) := by decide +kernel
theorem dX3_spareAct_19 : decode cX3_spareAct 19 = .ok (.getfield 31, 3) := by decide +kernel
theorem dX3_spareAct_22 : decode cX3_spareAct 22 = .ok (.areturn, 1) := by decide +kernel
theorem cln_X3_9 : Cond.classLink RX3 9 RX0 ∈ GW ∧ Cond.instantiable RX0 10 ∈ GW ∧ Cond.initialized RX0 ∈ GW := ⟨gw_t1 172 (by decide +kernel) (by decide +kernel), gw_t3 116 (by decide +kernel) (by decide +kernel), gw_t1 18 (by decide +kernel) (by decide +kernel)⟩
theorem lki_X3_35 : Cond.instanceMethod yX0_init ∈ GW ∧ .initialized yX0_init.cls ∈ GW ∧ .code yX0_init cX0_init 1 none ∈ GW ∧ yX0_init.name = "<init>" ∧ (yX0_init.cls ≠ "java/lang/invoke/MethodHandle" ∧ yX0_init.cls ≠ "java/lang/invoke/VarHandle") ∧ (parseMethodDescriptor yX0_init.desc).map (fun d => d.parameters.length) = some 0 := ⟨gw_t3 118 (by decide +kernel) (by decide +kernel), gw_t1 18 (by decide +kernel) (by decide +kernel), gw_t3 119 (by decide +kernel) (by decide +kernel), rfl, ⟨by decide +kernel, by decide +kernel⟩, by decide +kernel⟩
theorem dfs_X0 : ∀ j, j < 10 → defaultValue (tyX0 j) = vp_V [.int 0, .int 0, .int 0, .null, .null, .null, .null, .null, .null, .int 0] j := by
  intro j hj
  rcases j with _ | j
  · rfl
  rcases j with _ | j
  · rfl
  rcases j with _ | j
  · rfl
  rcases j with _ | j
  · rfl
  rcases j with _ | j
  · rfl
  rcases j with _ | j
  · rfl
  rcases j with _ | j
  · rfl
  rcases j with _ | j
  · rfl
  rcases j with _ | j
  · rfl
  rcases j with _ | j
  · rfl
  · omega
def extE (N : Nat) (a b : Nat → Nat) : Prop := ∀ k, (k < 80 + 7 * N ∨ 1000000 ≤ k) → b k = a k
theorem extE_rfl {N : Nat} {a : Nat → Nat} : extE N a a := fun _ _ => rfl
def oldV (v : Value) : Bool := match v with
  | .ref k => Nat.blt k 80 || Nat.ble 1000000 k
  | _ => true
theorem cv_old {N : Nat} {a b : Nat → Nat} (h : extE N a b) {v : Value} (hv : oldV v = true) : cv b v = cv a v := by
  cases v
  case ref k =>
    show Value.ref (b k) = Value.ref (a k)
    rw [h k]
    rcases Bool.or_eq_true _ _ ▸ hv with g | g
    · have := Nat.blt_eq.mp g; omega
    · exact Or.inr (Nat.le_of_ble_eq_true g)
  all_goals rfl
theorem CX.ad {z : ZZ} {ad ad' : Nat → Nat} {x : XX} {cc : ByteArray} {own : String} {nL : Nat} {ret : Option FieldType} (hC : CX z ad x cc own nL ret) (h : ∀ k, 1000000 ≤ k → ad' k = ad k) : CX z ad' x cc own nL ret := ⟨hC.1, hC.2.1, hC.2.2.1, hC.2.2.2.1, hC.2.2.2.2.1, hC.2.2.2.2.2.1, hC.2.2.2.2.2.2.1, hC.2.2.2.2.2.2.2.ad h⟩
/-- the addresses once a new act lies at q, its rows at nw -/
def adN (ad : Nat → Nat) (N q : Nat) (nw : Nat → Nat) : Nat → Nat := fun k => if k = 80 + 7 * N then q else if 80 + 7 * N < k ∧ k < 80 + 7 * N + 7 then nw (k - (80 + 7 * N + 1)) else ad k
theorem adN_ext {ad : Nat → Nat} {N q : Nat} {nw : Nat → Nat} (hN : N < 1000) : extE N ad (adN ad N q nw) := by
  intro k hk
  unfold adN
  rw [if_neg (by omega), if_neg (by omega)]
theorem adN_0 {ad : Nat → Nat} {N q : Nat} {nw : Nat → Nat} : adN ad N q nw (80 + 7 * N) = q := by unfold adN; rw [if_pos rfl]
theorem adN_i {ad : Nat → Nat} {N q : Nat} {nw : Nat → Nat} {i : Nat} (hi : i < 6) : adN ad N q nw (80 + 7 * N + (i + 1)) = nw i := by
  unfold adN
  rw [if_neg (by omega), if_pos (by omega)]
  congr 1; omega
def zAct : (Nat → Int32) × (Nat → Nat → Int32) := (fun _ => 0, fun _ _ => 0)
theorem cT_ext {z : ZZ} {ad ad' : Nat → Nat} {N a : Nat} (h : extE N ad ad') (ha : a < N) (q : (Nat → Int32) × (Nat → Nat → Int32)) : cT z ad' (80 + 7 * a) q = cT z ad (80 + 7 * a) q := by
  have e : ∀ i, i < 7 → ad' (80 + 7 * a + i) = ad (80 + 7 * a + i) := fun i hi => h _ (Or.inl (by omega))
  have e0 : ad' (80 + 7 * a) = ad (80 + 7 * a) := h _ (Or.inl (by omega))
  simp only [cT, fsX0, e0, e 1 (by decide), e 2 (by decide), e 3 (by decide), e 4 (by decide), e 5 (by decide), e 6 (by decide)]
theorem cM_ext {z : ZZ} {ad ad' : Nat → Nat} {N : Nat} {σ : MS} (h : extE N ad ad') : cM z ad' σ = cM z ad σ := by
  have e : ∀ k, k < 80 → ad' k = ad k := fun k hk => h k (Or.inl (by omega))
  simp only [cM, fsX11, e 0 (by decide), e 1 (by decide), e 2 (by decide), e 3 (by decide), e 4 (by decide), e 5 (by decide), e 6 (by decide), e 7 (by decide), e 8 (by decide), e 9 (by decide), e 10 (by decide), e 11 (by decide), e 12 (by decide), e 13 (by decide), e 14 (by decide), e 15 (by decide), e 16 (by decide), e 17 (by decide), e 18 (by decide), e 19 (by decide), e 20 (by decide), e 21 (by decide), e 22 (by decide), e 23 (by decide), e 24 (by decide), e 25 (by decide), e 26 (by decide), e 27 (by decide), e 28 (by decide), e 29 (by decide), e 30 (by decide), e 31 (by decide), e 32 (by decide), e 33 (by decide), e 34 (by decide), e 35 (by decide)]
theorem row_ext {ad ad' : Nat → Nat} {N : Nat} {f : Nat → Option Nat} (h : extE N ad ad') (hf : ∀ i a, f i = some a → a < N) : (fun i => (f i).map (fun a => ad' (80 + 7 * a))) = (fun i => (f i).map (fun a => ad (80 + 7 * a))) := by
  funext i
  cases e : f i with
  | none => rfl
  | some a => simp only [Option.map_some]; rw [h _ (Or.inl (by have := hf i a e; omega))]
theorem cX_new {z : ZZ} {ad ad' : Nat → Nat} {τ : XS} (h : extE (nA τ) ad ad') (hr : okR τ) : cX z ad' (newA τ) = (cX z ad τ).set 21 (ad 57, .inr (3, (fsX3 ad τ).set 4 (.ref (ad' (80 + 7 * nA τ))))) := by
  have e : ∀ k, k < 80 → ad' k = ad k := fun k hk => h k (Or.inl (by omega))
  have hrow := row_ext (f := τ.2.2.2.2.1) h hr
  show [_, _, _, _, _, _, _, _, _, _, _, _, _, _, _, _, _, _, _, _, _, _, _, _, _, _, _, _, _, _, _, _, _, _, _, _, _, _, _, _, _, _, _, _] = _
  simp only [newA, hrow, fsX10, fsX1, fsX4, fsX7, fsX3, fsX5, fsX6, fsX9, fsX2, fsX8, cX, Option.map_some, va_rf, List.set_cons_succ, List.set_cons_zero, e 36 (by decide), e 37 (by decide), e 38 (by decide), e 39 (by decide), e 40 (by decide), e 41 (by decide), e 42 (by decide), e 43 (by decide), e 44 (by decide), e 45 (by decide), e 46 (by decide), e 47 (by decide), e 48 (by decide), e 49 (by decide), e 50 (by decide), e 51 (by decide), e 52 (by decide), e 53 (by decide), e 54 (by decide), e 55 (by decide), e 56 (by decide), e 57 (by decide), e 58 (by decide), e 59 (by decide), e 60 (by decide), e 61 (by decide), e 62 (by decide), e 63 (by decide), e 64 (by decide), e 65 (by decide), e 66 (by decide), e 67 (by decide), e 68 (by decide), e 69 (by decide), e 70 (by decide), e 71 (by decide), e 72 (by decide), e 73 (by decide), e 74 (by decide), e 75 (by decide), e 76 (by decide), e 77 (by decide), e 78 (by decide), e 79 (by decide)]
  rfl
theorem wX_new {z : ZZ} {ad : Nat → Nat} {σ : MS} {τ : XS} {q : Nat} {nw : Nat → Nat} (hN : nA τ < 1000) (hr : okR τ) : (wX z σ ad τ).set 57 (ad 57, .inr (3, (fsX3 ad τ).set 4 (.ref q))) ++ [(q, .inr (0, [.int 0, .int 0, .int 0, .ref (nw 0), .ref (nw 1), .ref (nw 2), .ref (nw 3), .ref (nw 4), .ref (nw 5), .int 0])), (nw 0, .inl (z.2.2.1 0, 8, .inl (fun _ => 0))), (nw 1, .inl (z.2.2.1 0, 8, .inl (fun _ => 0))), (nw 2, .inl (z.2.2.1 0, 8, .inl (fun _ => 0))), (nw 3, .inl (z.2.2.1 0, 8, .inl (fun _ => 0))), (nw 4, .inl (z.2.2.1 0, 8, .inl (fun _ => 0))), (nw 5, .inl (z.2.2.1 0, 200, .inl (fun _ => 0)))] = wX z σ (adN ad (nA τ) q nw) (newA τ) := by
  have h := adN_ext (ad := ad) (N := nA τ) (q := q) (nw := nw) hN
  show (cM z ad σ ++ (cX z ad τ ++ cA z ad τ)).set 57 _ ++ _ = cM z _ σ ++ (cX z _ (newA τ) ++ cA z _ (newA τ))
  rw [List.set_append_right _ _ (by show 36 ≤ 57; omega), List.set_append_left _ _ (by show 57 - 36 < 44; omega), cM_ext h, cX_new h hr, adN_0, List.append_assoc, List.append_assoc]
  show cM z ad σ ++ ((cX z ad τ).set 21 _ ++ (cA z ad τ ++ _)) = _
  congr 2
  show (List.range (nA τ)).flatMap (fun a => cT z ad (80 + 7 * a) (τ.2.2.2.2.2.2 a)) ++ _ = (List.range (nA τ + 1)).flatMap (fun a => cT z (adN ad (nA τ) q nw) (80 + 7 * a) (va_up τ.2.2.2.2.2.2 (nA τ) (fun _ => 0, fun _ _ => 0) a))
  rw [List.range_succ, List.flatMap_append, List.flatMap_singleton, va_up_self, fm_congr (g' := fun a => cT z (adN ad (nA τ) q nw) (80 + 7 * a) (va_up τ.2.2.2.2.2.2 (nA τ) (fun _ => 0, fun _ _ => 0) a)) (nA τ) (fun b hb => by rw [cT_ext h hb, va_up_ne _ _ (by omega)])]
  congr 1
  simp only [cT, fsX0, adN_0, adN_i (i := 0) (by decide), adN_i (i := 1) (by decide), adN_i (i := 2) (by decide), adN_i (i := 3) (by decide), adN_i (i := 4) (by decide), adN_i (i := 5) (by decide)]
section EXT
variable {z : ZZ} {x : XX} {nL : Nat} {Q : State → Prop} {k n : Nat} {ad : Nat → Nat} {pc : Nat} {lv : List (Nat × Value)} {st : List Value} {ws b l : va_W} {cc : ByteArray} {own : String} {ret : Option FieldType} {h mc ms : Nat}
theorem al_getW (hC : CX z ad x cc own nL ret) {C : String} {T : u_T} {N ci idx j a : Nat} {fs : List Value} {v : Value} (i : Nat) (hd : decode cc pc = .ok (.getfield idx, 3)) (hin : ∀ w ∈ u_ws C T N, w ∈ GW) (he : ws[i]? = some (a, .inr (ci, fs))) (hc : zcl[ci]? = some (C, T, N)) (hj : j < N) (hlk : Cond.fieldLink own idx C (T j).2.1 (T j).2.2.1 ∈ GW) (hCT : (T j).1 = C) (hv : fs[j]? = some v) (kk : AL z x nL Q k n (pc + 3) lv (v :: st) ws) : AL z x nL Q k n pc lv (.ref a :: st) ws := by
  intro H locs ls hP hD hS hl
  exact va_get hC.1 hC.2.1 hC.2.2.2.2.2.1 hin hC.2.2.2.2.1 hC.2.2.2.2.2.2.2.1 hP i he hc j hj (hC.2.2.2.2.2.1 _ hlk) (fun y h => by rw [← hCT]; exact h) hv hd (kk H locs ls hP hD hS hl)
theorem al_putW (hC : CX z ad x cc own nL ret) {C : String} {T : u_T} {N ci idx j a : Nat} {fs : List Value} {v : Value} {ty : FieldType} {ty0 : Nat → FieldType} (i : Nat) (hd : decode cc pc = .ok (.putfield idx, 3)) (hin : ∀ w ∈ u_ws C T N, w ∈ GW) (hty : ∀ k, k < N → parseFieldDescriptor (T k).2.2.1 = some (ty0 k)) (hnm : ∀ a, a < N → ∀ b, b < N → a ≠ b → (T a).2.1 ≠ (T b).2.1) (he : ws[i]? = some (a, .inr (ci, fs))) (hc : zcl[ci]? = some (C, T, N)) (hj : j < N) (hlk : Cond.fieldLink own idx C (T j).2.1 (T j).2.2.1 ∈ GW) (hCT : (T j).1 = C) (hfin : (T j).2.2.2 = false) (hpd : parseFieldDescriptor (T j).2.2.1 = some ty) (hn : narrow ty v = v) (hfit : fits ty v = true) (hl0 : j < fs.length) (kk : AL z x nL Q k n (pc + 3) lv st (ws.set i (a, .inr (ci, fs.set j v)))) : AL z x nL Q k n pc lv (v :: .ref a :: st) ws := by
  intro H locs ls hP hD hS hl
  exact va_put hC.1 hC.2.1 hC.2.2.2.2.2.1 hin ty0 hty hnm hC.2.2.2.2.1 hC.2.2.2.2.2.2.2.1 hP hD hS i he hc j hj (hC.2.2.2.2.2.1 _ hlk) (fun y h => by rw [← hCT]; exact h) hfin hpd hn hfit hl0 hd (fun H1 locs1 hP1 hD1 hS1 => kk H1 locs1 ls hP1 hD1 hS1 hl)
theorem al_ifnonnull (hC : CX z ad x cc own nL ret) {a : Nat} {off : Int} {tgt : Nat} (hd : decode cc pc = .ok (.ifnonnull off, 3)) (ht : (pc : Int) + off = (tgt : Int)) (kk : AL z x nL Q k n tgt lv st ws) : AL z x nL Q k n pc lv (.ref a :: st) ws := by
  intro H locs ls hP hD hS hl
  exact lv_ifnonnull hC.1 hC.2.1 hd ht (kk H locs ls hP hD hS hl)
theorem al_ifnonnullN (hC : CX z ad x cc own nL ret) {off : Int} (hd : decode cc pc = .ok (.ifnonnull off, 3)) (kk : AL z x nL Q k n (pc + 3) lv st ws) : AL z x nL Q k n pc lv (.null :: st) ws := by
  intro H locs ls hP hD hS hl
  exact lv_ifnonnullN hC.1 hC.2.1 hd (kk H locs ls hP hD hS hl)
end EXT
theorem c_Lw_spareAct {z : ZZ} {σ : MS} (τ : XS) : Ct z (wX z σ) rR (extE (nA τ)) yX3_spareAct cX3_spareAct 1 (some (.object "WidowsFund$Act")) 6 7 250 [.ref 57] τ (Lw_spareAct τ) := by
  refine Ct.of (by decide) (Nat.le_of_ble_eq_true rfl) (fun ad x hC hR _ => ?_)
  have hR := RM.of hR
  intro r σ' hd' H locs ls hP hD hS hl
  have hl : lv_has ls 1 [(0, .ref (ad 57))] := hl
  unfold Lw_spareAct at hd'
  have ret : ∀ (k n q : Nat) (ad' : Nat → Nat) (τ' : XS) (ws : va_W), k ≤ 7 → n ≤ 250 → extE (nA τ) ad ad' → ws = wX z σ ad' τ' → ws[57]? = some (ad 57, .inr (3, (fsX3 ad τ).set 4 (.ref q))) → (∀ a, r = some a → ad' (80 + 7 * a) = q) → (∃ a, r = some a) → σ' = τ' → AL z x 1 (MQ x.2.2.2.2.2.2.1 (QA z (wX z σ) rR (extE (nA τ) ad) r σ') x.2.2.2.2.2.1 x.2.2.2.1 7 250 (zA z)) k n 18 [(0, .ref (ad 57))] [] ws := by
    intro k n q ad' τ' ws hk hn hE hw hq hr hra hs
    refine al_aload_n (j := 0) hC rfl rfl dX3_spareAct_18 ?_
    refine al_getW (v := .ref q) (C := RX3) (T := TX3) (N := 10) (ci := 3) (j := 4) hC 57 dX3_spareAct_19 inX3 hq rfl (by decide) lf_X3_31 rfl rfl ?_
    intro H locs ls hP hD hS hl
    subst hs
    obtain ⟨a, rfl⟩ := hra
    refine W.widen hk hn ?_
    exact W.aret hC.1 hC.2.1 hC.2.2.1 (Or.inl ⟨"WidowsFund$Act", rfl⟩) (Or.inr ⟨q, rfl⟩) (fun t ht hW => ⟨⟨ad', hE, by show Outcome.returned (some (Value.ref q)) = Outcome.returned (some (Value.ref (ad' (80 + 7 * a)))); rw [hr a rfl], by rw [ht, ← hw]; exact hP, by rw [← hw]; exact hD⟩, hS.F ht⟩) hS.2.2 dX3_spareAct_22 hC.2.2.2.2.2.2.1
  cases hsp : τ.2.2.2.2.2.1 with
  | some a =>
    rw [hsp] at hd'
    cases hd'
    have e57 : (wX z σ ad τ)[57]? = some (ad 57, .inr (3, (fsX3 ad τ).set 4 (.ref (ad (80 + 7 * a))))) := by
      rw [cl_57]
      simp only [fsX3, hsp, Option.map_some, va_rf, List.set_cons_succ, List.set_cons_zero]
    refine (show AL z x 1 _ 0 0 0 [(0, .ref (ad 57))] [] (wX z σ ad τ) from ?_) H locs ls hP hD hS hl
    refine al_aload_n (j := 0) hC rfl rfl dX3_spareAct_0 ?_
    refine al_getW (v := .ref (ad (80 + 7 * a))) (C := RX3) (T := TX3) (N := 10) (ci := 3) (j := 4) hC 57 dX3_spareAct_1 inX3 e57 rfl (by decide) lf_X3_31 rfl rfl ?_
    refine al_ifnonnull (tgt := 18) hC dX3_spareAct_4 rfl ?_
    exact ret 0 0 (ad (80 + 7 * a)) ad τ _ (Nat.zero_le _) (Nat.zero_le _) extE_rfl rfl e57 (fun b hb => by cases hb; rfl) ⟨a, rfl⟩ rfl
  | none =>
    rw [hsp] at hd'
    by_cases ok : okR τ ∧ nA τ < 1000
    case neg => simp only [if_neg ok] at hd'; cases hd'
    simp only [if_pos ok] at hd'
    cases hd'
    obtain ⟨ok, hN⟩ := ok
    have hfs : fsX3 ad τ = [.ref (ad 37), .ref (ad 58), .int (τ.1 302), .ref (ad 59), .null, .ref (ad 60), .ref (ad 61), .int (τ.1 307), .int (τ.1 308), .int (τ.1 309)] := by
      simp only [fsX3, hsp, Option.map_none, va_rf]
    refine (show AL z x 1 _ 0 0 0 [(0, .ref (ad 57))] [] (wX z σ ad τ ++ []) from ?_) H locs ls (by rw [List.append_nil]; exact hP) (by rw [List.append_nil]; exact hD) hS hl
    have h57 : 57 < (wX z σ ad τ).length := (List.getElem?_eq_some_iff.mp (cl_57 (z := z) (σ := σ) (ad := ad) (τ := τ))).1
    have g57 : ∀ l : va_W, (wX z σ ad τ ++ l)[57]? = some (ad 57, .inr (3, fsX3 ad τ)) := fun l => by rw [List.getElem?_append_left h57]; exact cl_57
    refine al_aload_n (j := 0) hC rfl rfl dX3_spareAct_0 ?_
    refine al_getW (v := .null) (C := RX3) (T := TX3) (N := 10) (ci := 3) (j := 4) hC 57 dX3_spareAct_1 inX3 (g57 []) rfl (by decide) lf_X3_31 rfl (by rw [hfs]; rfl) ?_
    refine al_ifnonnullN hC dX3_spareAct_4 ?_
    refine al_aload_n (j := 0) hC rfl rfl dX3_spareAct_7 ?_
    refine al_new (l := []) (fs := [.int 0, .int 0, .int 0, .null, .null, .null, .null, .null, .null, .int 0]) (ci := 0) hC hR tyX0 inX0 tyX0_ok cln_X3_9 rfl dfs_X0 ⟨Nat.le_of_ble_eq_true rfl, Nat.le_of_ble_eq_true rfl⟩ dX3_spareAct_8 (fun q => ?_)
    refine al_dup hC rfl dX3_spareAct_11 ?_
    refine al_callIN (As := []) (rest := [.ref q, .ref (ad 57)]) (l := [(q, .inr (0, [.int 0, .int 0, .int 0, .null, .null, .null, .null, .null, .null, .int 0]))]) (l0 := []) hC hR (CXnf hC).2.2.2.2.2 lki_X3_35 (c_X0_init (ws := wX z σ ad τ ++ []) q) dX3_spareAct_12 rfl rfl rfl ⟨by decide, by decide⟩ (Nat.le_of_ble_eq_true rfl) ⟨Nat.le_of_ble_eq_true rfl, Nat.le_of_ble_eq_true rfl⟩ (fun nw => ?_)
    refine al_putW (C := RX3) (T := TX3) (N := 10) (ci := 3) (j := 4) (ty := .object "WidowsFund$Act") (ty0 := tyX3) hC 57 dX3_spareAct_15 inX3 tyX3_ok nmX3 (g57 _) rfl (by decide) lf_X3_31 rfl rfl (by decide +kernel) rfl rfl (by rw [hfs]; exact Nat.le_of_ble_eq_true rfl) ?_
    rw [List.set_append_left _ _ h57]
    refine ret 7 250 q (adN ad (nA τ) q nw) (newA τ) _ (Nat.le_refl _) (Nat.le_refl _) (adN_ext hN) (wX_new hN ok) ?_ (fun b hb => by cases hb; exact adN_0) ⟨_, rfl⟩ rfl
    rw [List.getElem?_append_left (by rw [List.length_set]; exact h57), List.getElem?_set_self h57]
section EXC
variable {S ρ : Type} {z : ZZ} {x : XX} {nL : Nat} {w : (Nat → Nat) → S → va_W} {ra : ρ → Option Value} {F : (Nat → Nat) → Prop} {mc ms k n : Nat} {ad : Nat → Nat} {pc : Nat} {lv : List (Nat × Value)} {st : List Value} {σ σ1 : S} {cc : ByteArray} {own : String} {ret : Option FieldType}
theorem at_callX (hC : CX z ad x cc own nL ret) {h mcR msR : Nat} (hR : x.2.2.1 = rmk h mcR msR) {N : Nat} {y : MethodName} {cc' : ByteArray} {maxL' : Nat} {ret' : Option FieldType} {h' mc' ms' idx na q : Nat} {As rest : List Value} {f : Option (Option Nat × S)} {kd : Option Nat → S → Option (ρ × S)} (lk : LkV own idx y cc' maxL' ret' na) (hM : Ct z w rR (extE N) y cc' maxL' ret' h' mc' ms' (.ref q :: As) σ f) (hd : decode cc pc = .ok (.invokevirtual idx, 3)) (hrec : ∃ ci fs r, zcl[ci]? = some r ∧ r.1 = y.cls ∧ (w ad σ)[q]? = some (ad q, .inr (ci, fs))) (hn : As.length = na) (hst : st = As.reverse ++ .ref q :: rest) (hh : h' + 1 ≤ h ∧ maxL' ≤ 45) (hW : (rest.map fun v => v.category).sum ≤ 8) (hk : k + mc' ≤ mcR ∧ n + ms' ≤ msR) (holdR : ∀ v ∈ rest, oldV v = true) (holdL : ∀ v ∈ lv, oldV v.2 = true) (kk : ∀ (ad' : Nat → Nat), extE N ad ad' → CX z ad' x cc own nL ret → ∀ r σ1, f = some (r, σ1) → AT z x nL w ra F mc ms (k + mc') (n + ms') ad' (pc + 3) lv (vr r :: rest) σ1 (kd r σ1)) : AT z x nL w ra F mc ms k n ad pc lv st σ (f.bind (pq kd)) := by
  intro r σ' hd' H locs ls hP hD hS hl
  cases hf : f with
  | none => rw [hf] at hd'; cases hd'
  | some p0 =>
    obtain ⟨r0, σ1⟩ := p0
    rw [hf] at hd'
    subst hst
    have hcw := (hC.2.2.2.2.2.1)
    have hroom : (rmk h' mc' ms').frames + 1 ≤ x.2.2.1.frames ∧ 8 + (maxL' + 11) + (rmk h' mc' ms').locals ≤ x.2.2.1.locals := by
      rw [hR]; simp only [rmk]; omega
    have hcs : k + mc' ≤ x.2.2.1.cells ∧ n + ms' ≤ x.2.2.1.slots := by
      rw [hR]; exact hk
    obtain ⟨ci, fs, rc, hrc1, hrc2, hrc3⟩ := hrec
    refine callQ (σ1 := σ1) (va_runV (As := As.map (cv ad)) (rest := rest.map (cv ad)) (C := y.cls) (b := ad q) ⟨hC.1, hC.2.1, hC.2.2.2.1, hC.2.2.2.2.1, hcw⟩ (hM r0 σ1 hf ad) (cwV na hcw (gi_cons lk.1 (gi_cons lk.2.1 (gi_cons lk.2.2.1 (gi_cons lk.2.2.2.1 (gi_cons lk.2.2.2.2.1 gi_self))))) rfl rfl rfl ⟨rfl, lk.2.2.2.2.2.1.1, lk.2.2.2.2.2.1.2, lk.2.2.2.2.2.2⟩ hroom) ⟨blind_PB, ?_, fun U hU hW => ⟨rfl, hC.2.2.2.2.2.2.2.step hW hU hS, by rw [hU]; exact hP, hD⟩⟩ rfl (by rw [List.length_map]; exact hn) hl.1 (by simp [cv, List.map_reverse]) (lv_room (by rw [List.map_map]; simpa [Function.comp_def, cv_cat] using hW)) hd hcs) hS (fun ad' H1 locs1 hE hP1 hD1 hS1 => ?_)
    · rw [← hrc2]; exact va_recv hC.2.2.2.2.2.2.2.1 hP hrc1 hrc3
    · have eR : rest.map (cv ad) = rest.map (cv ad') := List.map_congr_left fun v hv => (cv_old hE (holdR v hv)).symm
      have eL : (lv.map fun q => (q.1, cv ad q.2)) = lv.map fun q => (q.1, cv ad' q.2) := List.map_congr_left fun v hv => by rw [cv_old hE (holdL v hv)]
      rw [eL] at hl
      have := kk ad' hE (hC.ad fun k hk => hE k (Or.inr hk)) r0 σ1 hf r σ' hd' H1 locs1 ls hP1 hD1 hS1 hl
      rw [eR]
      cases r0 <;> exact this
end EXC
theorem lk_spare_P : True := trivial
theorem dX10_text_0 : decode cX10_text 0 = .ok (.iload_n 1, 1) := by decide +kernel
theorem dX10_text_1 : decode cX10_text 1 = .ok (.invokestatic 93, 3) := by decide +kernel
theorem dX10_text_4 : decode cX10_text 4 = .ok (.ifCond .ne 6, 3) := by decide +kernel
theorem dX10_text_7 : decode cX10_text 7 = .ok (.bipush (-2), 2) := by decide +kernel
theorem dX10_text_9 : decode cX10_text 9 = .ok (.ireturn, 1) := by decide +kernel
theorem dX10_text_10 : decode cX10_text 10 = .ok (.aload_n 0, 1) := by decide +kernel
theorem dX10_text_11 : decode cX10_text 11 = .ok (.getfield 37, 3) := by decide +kernel
theorem dX10_text_14 : decode cX10_text 14 = .ok (.getfield 205, 3) := by decide +kernel
theorem dX10_text_17 : decode cX10_text 17 = .ok (.bipush 8, 2) := by decide +kernel
theorem dX10_text_19 : decode cX10_text 19 = .ok (.if_icmp .lt 6, 3) := by decide +kernel
theorem dX10_text_22 : decode cX10_text 22 = .ok (.bipush (-4), 2) := by decide +kernel
theorem dX10_text_24 : decode cX10_text 24 = .ok (.ireturn, 1) := by decide +kernel
theorem dX10_text_25 : decode cX10_text 25 = .ok (.aload_n 0, 1) := by decide +kernel
theorem dX10_text_26 : decode cX10_text 26 = .ok (.getfield 37, 3) := by decide +kernel
theorem dX10_text_29 : decode cX10_text 29 = .ok (.invokevirtual 208, 3) := by decide +kernel
theorem dX10_text_32 : decode cX10_text 32 = .ok (.astore_n 2, 1) := by decide +kernel
theorem dX10_text_33 : decode cX10_text 33 = .ok (.aload_n 0, 1) := by decide +kernel
theorem dX10_text_34 : decode cX10_text 34 = .ok (.getfield 30, 3) := by decide +kernel
theorem dX10_text_37 : decode cX10_text 37 = .ok (.aload_n 2, 1) := by decide +kernel
theorem dX10_text_38 : decode cX10_text 38 = .ok (.invokevirtual 212, 3) := by decide +kernel
theorem dX10_text_41 : decode cX10_text 41 = .ok (.istore_n 3, 1) := by decide +kernel
theorem dX10_text_42 : decode cX10_text 42 = .ok (.aload_n 0, 1) := by decide +kernel
theorem dX10_text_43 : decode cX10_text 43 = .ok (.getfield 30, 3) := by decide +kernel
theorem dX10_text_46 : decode cX10_text 46 = .ok (.iconst 0, 1) := by decide +kernel
theorem dX10_text_47 : decode cX10_text 47 = .ok (.putfield 199, 3) := by decide +kernel
theorem dX10_text_50 : decode cX10_text 50 = .ok (.iload_n 3, 1) := by decide +kernel
theorem dX10_text_51 : decode cX10_text 51 = .ok (.ifCond .lt 8, 3) := by decide +kernel
theorem dX10_text_54 : decode cX10_text 54 = .ok (.bipush (-10), 2) := by decide +kernel
theorem dX10_text_56 : decode cX10_text 56 = .ok (.iload_n 3, 1) := by decide +kernel
theorem dX10_text_57 : decode cX10_text 57 = .ok (.isub, 1) := by decide +kernel
theorem dX10_text_58 : decode cX10_text 58 = .ok (.ireturn, 1) := by decide +kernel
theorem dX10_text_59 : decode cX10_text 59 = .ok (.aload_n 0, 1) := by decide +kernel
theorem dX10_text_60 : decode cX10_text 60 = .ok (.getfield 37, 3) := by decide +kernel
theorem dX10_text_63 : decode cX10_text 63 = .ok (.aload_n 2, 1) := by decide +kernel
theorem dX10_text_64 : decode cX10_text 64 = .ok (.iload_n 1, 1) := by decide +kernel
theorem dX10_text_65 : decode cX10_text 65 = .ok (.invokevirtual 216, 3) := by decide +kernel
theorem dX10_text_68 : decode cX10_text 68 = .ok (.aload_n 0, 1) := by decide +kernel
theorem dX10_text_69 : decode cX10_text 69 = .ok (.getfield 37, 3) := by decide +kernel
theorem dX10_text_72 : decode cX10_text 72 = .ok (.aconst_null, 1) := by decide +kernel
theorem dX10_text_73 : decode cX10_text 73 = .ok (.putfield 220, 3) := by decide +kernel
theorem dX10_text_76 : decode cX10_text 76 = .ok (.aload_n 0, 1) := by decide +kernel
theorem dX10_text_77 : decode cX10_text 77 = .ok (.getfield 37, 3) := by decide +kernel
theorem dX10_text_80 : decode cX10_text 80 = .ok (.getfield 205, 3) := by decide +kernel
theorem dX10_text_83 : decode cX10_text 83 = .ok (.iconst 1, 1) := by decide +kernel
theorem dX10_text_84 : decode cX10_text 84 = .ok (.isub, 1) := by decide +kernel
theorem dX10_text_85 : decode cX10_text 85 = .ok (.ireturn, 1) := by decide +kernel
section GX
variable {z : ZZ} {x : XX} {ad : Nat → Nat} {σ : MS}
set_option maxRecDepth 100000 in
theorem c_W_text (τ : XS) (p0 : Int32) : Ct z (wX z σ) rI (extE (nA τ)) yX10_text cX10_text 4 (some .int) 11 7 250 [.ref 36, .int p0] τ (W_text τ p0) := by
  refine Ct.of (by decide) (Nat.le_of_ble_eq_true rfl) (fun ad x hC hR _ => ?_)
  show AT z x 4 (wX z σ) rI (extE (nA τ) ad) 7 250 0 0 ad 0 [(0, .ref 36), (1, .int p0)] [] τ (W_text τ p0)
  unfold W_text
  refine at_iload_n (j := 1) hC rfl rfl dX10_text_0 ?_
  refine at_callSpI hC hR lk_X10_93 (c_W_isDay τ p0) dX10_text_1 rfl rfl ⟨by decide, by decide⟩ (Nat.le_of_ble_eq_true rfl) ⟨by decide, by decide⟩ (fun r1 _ => ?_)
  refine at_if_ne (tgt := 10) hC dX10_text_4 rfl (fun _ => ?_) (fun _ => ?_)
  · refine at_aload_n (j := 0) hC rfl rfl dX10_text_10 ?_
    refine gf_X10_37 hC dX10_text_11 ?_
    refine gf_X10_205 hC dX10_text_14 ?_
    refine at_bipush hC bi_8 dX10_text_17 ?_
    refine at_icmp_lt (tgt := 25) hC dX10_text_19 rfl (fun _ => ?_) (fun _ => ?_)
    · refine at_aload_n (j := 0) hC rfl rfl dX10_text_25 ?_
      refine gf_X10_37 hC dX10_text_26 ?_
      refine at_callX (As := []) (rest := []) (f := Lw_spareAct τ) hC hR lk_X10_208 (c_Lw_spareAct τ) dX10_text_29 recX3 rfl rfl ⟨by decide, by decide⟩ (Nat.le_of_ble_eq_true rfl) ⟨Nat.le_of_ble_eq_true rfl, Nat.le_of_ble_eq_true rfl⟩ (by simp [oldV]) (by simp [oldV]) (fun ad1 hE1 hC r2 r2s _ => ?_)
      refine at_astore_nV (lv' := [(2, vr r2), (0, .ref 36), (1, .int p0)]) hC rfl dX10_text_32 (by decide) rfl ?_
      refine at_aload_n (j := 1) hC rfl rfl dX10_text_33 ?_
      refine gf_X10_30 hC dX10_text_34 ?_
      refine at_aload_nV (j := 0) hC rfl rfl dX10_text_37 ?_
      refine at_callVI hC hR lk_X10_212 (c_Tp_readAct r2s r2) dX10_text_38 recX7 rfl rfl ⟨by decide, by decide⟩ (Nat.le_of_ble_eq_true rfl) ⟨by decide, by decide⟩ (fun r3 r3s _ => ?_)
      refine at_istore_n (lv' := [(3, .int r3), (2, vr r2), (0, .ref 36), (1, .int p0)]) hC rfl dX10_text_41 (by decide) (by cases r2 <;> rfl) ?_
      refine at_aload_n (j := 2) hC rfl rfl dX10_text_42 ?_
      refine gf_X10_30 hC dX10_text_43 ?_
      refine at_iconst hC ic_0 dX10_text_46 ?_
      refine pf_X10_199 hC dX10_text_47 ?_
      refine at_iload_n (j := 0) hC rfl rfl dX10_text_50 ?_
      refine at_if_lt (tgt := 59) hC dX10_text_51 rfl (fun _ => ?_) (fun _ => ?_)
      · refine at_aload_n (j := 2) hC rfl rfl dX10_text_59 ?_
        refine gf_X10_37 hC dX10_text_60 ?_
        refine at_aload_nV (j := 1) hC rfl rfl dX10_text_63 ?_
        refine at_iload_n (j := 3) hC rfl rfl dX10_text_64 ?_
        refine at_callVU hC hR lk_X10_216 (c_Lw_addAct (xI r3s 701 0) r2 p0) dX10_text_65 recX3 rfl rfl ⟨by decide, by decide⟩ (Nat.le_of_ble_eq_true rfl) ⟨by decide, by decide⟩ (fun r4 r4s _ => ?_)
        refine at_aload_n (j := 2) hC rfl rfl dX10_text_68 ?_
        refine gf_X10_37 hC dX10_text_69 ?_
        refine at_nullO hC dX10_text_72 ?_
        refine pf_X10_220 hC dX10_text_73 ?_
        refine at_aload_n (j := 2) hC rfl rfl dX10_text_76 ?_
        refine gf_X10_37 hC dX10_text_77 ?_
        refine gf_X10_205 hC dX10_text_80 ?_
        refine at_iconst hC ic_1 dX10_text_83 ?_
        refine at_isub hC dX10_text_84 ?_
        exact at_iret (F := extE (nA τ) ad) (ra := rI) hC dX10_text_85 hE1 (by decide) (by decide) rfl
      · refine at_bipush hC bi_m10 dX10_text_54 ?_
        refine at_iload_n (j := 0) hC rfl rfl dX10_text_56 ?_
        refine at_isub hC dX10_text_57 ?_
        exact at_iret (F := extE (nA τ) ad) (ra := rI) hC dX10_text_58 hE1 (by decide) (by decide) rfl
    · refine at_bipush hC bi_m4 dX10_text_22 ?_
      exact at_iret (F := extE (nA τ) ad) (ra := rI) hC dX10_text_24 extE_rfl (by decide) (by decide) rfl
  · refine at_bipush hC bi_m2 dX10_text_7 ?_
    exact at_iret (F := extE (nA τ) ad) (ra := rI) hC dX10_text_9 extE_rfl (by decide) (by decide) rfl
end GX
theorem dX10_tried_0 : decode cX10_tried 0 = .ok (.iload_n 2, 1) := by decide +kernel
theorem dX10_tried_1 : decode cX10_tried 1 = .ok (.invokestatic 271, 3) := by decide +kernel
theorem dX10_tried_4 : decode cX10_tried 4 = .ok (.ifCond .eq 10, 3) := by decide +kernel
theorem dX10_tried_7 : decode cX10_tried 7 = .ok (.iload_n 1, 1) := by decide +kernel
theorem dX10_tried_8 : decode cX10_tried 8 = .ok (.invokestatic 93, 3) := by decide +kernel
theorem dX10_tried_11 : decode cX10_tried 11 = .ok (.ifCond .ne 7, 3) := by decide +kernel
theorem dX10_tried_14 : decode cX10_tried 14 = .ok (.ldc2_w 274, 3) := by decide +kernel
theorem dX10_tried_17 : decode cX10_tried 17 = .ok (.lreturn, 1) := by decide +kernel
theorem dX10_tried_18 : decode cX10_tried 18 = .ok (.aload_n 0, 1) := by decide +kernel
theorem dX10_tried_19 : decode cX10_tried 19 = .ok (.getfield 37, 3) := by decide +kernel
theorem dX10_tried_22 : decode cX10_tried 22 = .ok (.invokevirtual 208, 3) := by decide +kernel
theorem dX10_tried_25 : decode cX10_tried 25 = .ok (.astore_n 3, 1) := by decide +kernel
theorem dX10_tried_26 : decode cX10_tried 26 = .ok (.aload_n 0, 1) := by decide +kernel
theorem dX10_tried_27 : decode cX10_tried 27 = .ok (.getfield 30, 3) := by decide +kernel
theorem dX10_tried_30 : decode cX10_tried 30 = .ok (.aload_n 3, 1) := by decide +kernel
theorem dX10_tried_31 : decode cX10_tried 31 = .ok (.invokevirtual 212, 3) := by decide +kernel
theorem dX10_tried_34 : decode cX10_tried 34 = .ok (.istore 4, 2) := by decide +kernel
theorem dX10_tried_36 : decode cX10_tried 36 = .ok (.aload_n 0, 1) := by decide +kernel
theorem dX10_tried_37 : decode cX10_tried 37 = .ok (.getfield 30, 3) := by decide +kernel
theorem dX10_tried_40 : decode cX10_tried 40 = .ok (.iconst 0, 1) := by decide +kernel
theorem dX10_tried_41 : decode cX10_tried 41 = .ok (.putfield 199, 3) := by decide +kernel
theorem dX10_tried_44 : decode cX10_tried 44 = .ok (.iload 4, 2) := by decide +kernel
theorem dX10_tried_46 : decode cX10_tried 46 = .ok (.ifCond .lt 7, 3) := by decide +kernel
theorem dX10_tried_49 : decode cX10_tried 49 = .ok (.ldc2_w 384, 3) := by decide +kernel
theorem dX10_tried_52 : decode cX10_tried 52 = .ok (.lreturn, 1) := by decide +kernel
theorem dX10_tried_53 : decode cX10_tried 53 = .ok (.aload_n 0, 1) := by decide +kernel
theorem dX10_tried_54 : decode cX10_tried 54 = .ok (.getfield 37, 3) := by decide +kernel
theorem dX10_tried_57 : decode cX10_tried 57 = .ok (.aload_n 3, 1) := by decide +kernel
theorem dX10_tried_58 : decode cX10_tried 58 = .ok (.iload_n 1, 1) := by decide +kernel
theorem dX10_tried_59 : decode cX10_tried 59 = .ok (.invokevirtual 216, 3) := by decide +kernel
theorem dX10_tried_62 : decode cX10_tried 62 = .ok (.aload_n 0, 1) := by decide +kernel
theorem dX10_tried_63 : decode cX10_tried 63 = .ok (.getfield 67, 3) := by decide +kernel
theorem dX10_tried_66 : decode cX10_tried 66 = .ok (.iconst (-1), 1) := by decide +kernel
theorem dX10_tried_67 : decode cX10_tried 67 = .ok (.invokevirtual 174, 3) := by decide +kernel
theorem dX10_tried_70 : decode cX10_tried 70 = .ok (.aload_n 0, 1) := by decide +kernel
theorem dX10_tried_71 : decode cX10_tried 71 = .ok (.getfield 67, 3) := by decide +kernel
theorem dX10_tried_74 : decode cX10_tried 74 = .ok (.iload_n 2, 1) := by decide +kernel
theorem dX10_tried_75 : decode cX10_tried 75 = .ok (.invokevirtual 306, 3) := by decide +kernel
theorem dX10_tried_78 : decode cX10_tried 78 = .ok (.lstore 5, 2) := by decide +kernel
theorem dX10_tried_80 : decode cX10_tried 80 = .ok (.aload_n 0, 1) := by decide +kernel
theorem dX10_tried_81 : decode cX10_tried 81 = .ok (.getfield 37, 3) := by decide +kernel
theorem dX10_tried_84 : decode cX10_tried 84 = .ok (.invokevirtual 386, 3) := by decide +kernel
theorem dX10_tried_87 : decode cX10_tried 87 = .ok (.lload 5, 2) := by decide +kernel
theorem dX10_tried_89 : decode cX10_tried 89 = .ok (.lreturn, 1) := by decide +kernel
section GX
variable {z : ZZ} {x : XX} {ad : Nat → Nat} {σ : MS}
set_option maxRecDepth 100000 in
theorem c_W_tried (τ : XS) (p0 : Int32) (p1 : Int32) : Ct z (wX z σ) rJ (extE (nA τ)) yX10_tried cX10_tried 7 (some .long) 11 7 250 [.ref 36, .int p0, .int p1] τ (W_tried τ p0 p1) := by
  refine Ct.of (by decide) (Nat.le_of_ble_eq_true rfl) (fun ad x hC hR _ => ?_)
  show AT z x 7 (wX z σ) rJ (extE (nA τ) ad) 7 250 0 0 ad 0 [(0, .ref 36), (1, .int p0), (2, .int p1)] [] τ (W_tried τ p0 p1)
  unfold W_tried
  refine at_iload_n (j := 2) hC rfl rfl dX10_tried_0 ?_
  refine at_callSpI hC hR lk_X10_271 (c_W_isYear τ p1) dX10_tried_1 rfl rfl ⟨by decide, by decide⟩ (Nat.le_of_ble_eq_true rfl) ⟨by decide, by decide⟩ (fun r1 _ => ?_)
  refine at_if_eq (tgt := 14) hC dX10_tried_4 rfl (fun _ => ?_) (fun _ => ?_)
  · refine at_ldc2 hC kl_X10_274 dX10_tried_14 ?_
    exact at_lret (F := extE (nA τ) ad) (ra := rJ) hC dX10_tried_17 extE_rfl (by decide) (by decide) rfl
  · refine at_iload_n (j := 1) hC rfl rfl dX10_tried_7 ?_
    refine at_callSpI hC hR lk_X10_93 (c_W_isDay τ p0) dX10_tried_8 rfl rfl ⟨by decide, by decide⟩ (Nat.le_of_ble_eq_true rfl) ⟨by decide, by decide⟩ (fun r2 _ => ?_)
    refine at_if_ne (tgt := 18) hC dX10_tried_11 rfl (fun _ => ?_) (fun _ => ?_)
    · refine at_aload_n (j := 0) hC rfl rfl dX10_tried_18 ?_
      refine gf_X10_37 hC dX10_tried_19 ?_
      refine at_callX (As := []) (rest := []) (f := Lw_spareAct τ) hC hR lk_X10_208 (c_Lw_spareAct τ) dX10_tried_22 recX3 rfl rfl ⟨by decide, by decide⟩ (Nat.le_of_ble_eq_true rfl) ⟨Nat.le_of_ble_eq_true rfl, Nat.le_of_ble_eq_true rfl⟩ (by simp [oldV]) (by simp [oldV]) (fun ad1 hE1 hC r3 r3s _ => ?_)
      refine at_astore_nV (lv' := [(3, vr r3), (0, .ref 36), (1, .int p0), (2, .int p1)]) hC rfl dX10_tried_25 (by decide) rfl ?_
      refine at_aload_n (j := 1) hC rfl rfl dX10_tried_26 ?_
      refine gf_X10_30 hC dX10_tried_27 ?_
      refine at_aload_nV (j := 0) hC rfl rfl dX10_tried_30 ?_
      refine at_callVI hC hR lk_X10_212 (c_Tp_readAct r3s r3) dX10_tried_31 recX7 rfl rfl ⟨by decide, by decide⟩ (Nat.le_of_ble_eq_true rfl) ⟨by decide, by decide⟩ (fun r4 r4s _ => ?_)
      refine at_istore (lv' := [(4, .int r4), (3, vr r3), (0, .ref 36), (1, .int p0), (2, .int p1)]) hC dX10_tried_34 (by decide) (by cases r3 <;> rfl) ?_
      refine at_aload_n (j := 2) hC rfl rfl dX10_tried_36 ?_
      refine gf_X10_30 hC dX10_tried_37 ?_
      refine at_iconst hC ic_0 dX10_tried_40 ?_
      refine pf_X10_199 hC dX10_tried_41 ?_
      refine at_iload (j := 0) hC rfl dX10_tried_44 ?_
      refine at_if_lt (tgt := 53) hC dX10_tried_46 rfl (fun _ => ?_) (fun _ => ?_)
      · refine at_aload_n (j := 2) hC rfl rfl dX10_tried_53 ?_
        refine gf_X10_37 hC dX10_tried_54 ?_
        refine at_aload_nV (j := 1) hC rfl rfl dX10_tried_57 ?_
        refine at_iload_n (j := 3) hC rfl rfl dX10_tried_58 ?_
        refine at_callVU hC hR lk_X10_216 (c_Lw_addAct (xI r4s 701 0) r3 p0) dX10_tried_59 recX3 rfl rfl ⟨by decide, by decide⟩ (Nat.le_of_ble_eq_true rfl) ⟨by decide, by decide⟩ (fun r5 r5s _ => ?_)
        refine at_aload_n (j := 2) hC rfl rfl dX10_tried_62 ?_
        refine gf_X10_67 hC dX10_tried_63 ?_
        refine at_iconst hC ic_m1 dX10_tried_66 ?_
        refine at_callVU hC hR lk_X10_174 (c_Cn_look r5s (-1)) dX10_tried_67 recX2 rfl rfl ⟨by decide, by decide⟩ (Nat.le_of_ble_eq_true rfl) ⟨by decide, by decide⟩ (fun r6 r6s _ => ?_)
        refine at_aload_n (j := 2) hC rfl rfl dX10_tried_70 ?_
        refine gf_X10_67 hC dX10_tried_71 ?_
        refine at_iload_n (j := 4) hC rfl rfl dX10_tried_74 ?_
        refine at_callVJ hC hR lk_X10_306 (c_Cn_chestBehind r6s p1) dX10_tried_75 recX2 rfl rfl ⟨by decide, by decide⟩ (Nat.le_of_ble_eq_true rfl) ⟨by decide, by decide⟩ (fun r7 r7s _ => ?_)
        refine at_lstore (lv' := [(5, .long r7), (4, .int r4), (3, vr r3), (0, .ref 36), (1, .int p0), (2, .int p1)]) hC dX10_tried_78 (by decide) rfl ?_
        refine at_aload_n (j := 3) hC rfl rfl dX10_tried_80 ?_
        refine gf_X10_37 hC dX10_tried_81 ?_
        refine at_callVU hC hR lk_X10_386 (c_Lw_dropLastAct r7s) dX10_tried_84 recX3 rfl rfl ⟨by decide, by decide⟩ (Nat.le_of_ble_eq_true rfl) ⟨by decide, by decide⟩ (fun r8 r8s _ => ?_)
        refine at_lload (j := 0) hC rfl dX10_tried_87 ?_
        exact at_lret (F := extE (nA τ) ad) (ra := rJ) hC dX10_tried_89 hE1 (by decide) (by decide) rfl
      · refine at_ldc2 hC kl_X10_384 dX10_tried_49 ?_
        exact at_lret (F := extE (nA τ) ad) (ra := rJ) hC dX10_tried_52 hE1 (by decide) (by decide) rfl
    · refine at_ldc2 hC kl_X10_274 dX10_tried_14 ?_
      exact at_lret (F := extE (nA τ) ad) (ra := rJ) hC dX10_tried_17 extE_rfl (by decide) (by decide) rfl
end GX
