theorem va_RA.inj {U : State} {c c' : ClassId} {ty : FieldType} (h : va_RA U c ty) (h' : va_RA U c' ty) : c = c' := by
  cases ty
  case object C =>
    obtain ⟨_, _, _, _, _, h1⟩ := h
    obtain ⟨_, _, _, _, _, h2⟩ := h'
    exact Option.some.inj (h1.symm.trans h2)
  all_goals exact Option.some.inj (Eq.trans (Eq.symm h) h')
theorem zty_eq {z : ZZ} {U : State} {cA : ClassId} {t : Nat} {ty : FieldType} (hK : va_K z.2.1 zcl (zty z ++ [(cA, ty)]) U) (ht : (zty z)[t]? = some (z.2.2.1 t, ty)) : cA = z.2.2.1 t := by
  have h1 := (hK.2 4 (cA, ty) rfl).2
  have h2 := (hK.2 t (z.2.2.1 t, ty) (by rw [List.getElem?_append_left (List.getElem?_eq_some_iff.mp ht).1]; exact ht)).2
  exact va_RA.inj h1 h2
def AL (z : ZZ) (x : XX) (nL : Nat) (Q : State → Prop) (k n : Nat) (pc : Nat) (lv : List (Nat × Value)) (st : List Value) (ws : va_W) : Prop :=
  ∀ (H : Heap) (locs : List Loc) (ls : Array Slot), va_P z.2.1 zcl ws H → va_D (zA z) ws → va_S (zA z) x.2.2.2.1.heap H locs → lv_has ls nL lv → W x.1 z.1 x.2.1 x.2.2.1 x.2.2.2.1 x.2.2.2.2.1 x.2.2.2.2.2.1 x.2.2.2.2.2.2.1 x.2.2.2.2.2.2.2.1 x.2.2.2.2.2.2.2.2 H locs k n Q (F0 x.2.2.2.2.1 pc ls st)
def CtI (z : ZZ) (y : MethodName) (cc : ByteArray) (maxL : Nat) (h mc ms : Nat) (As : List Value) (ws pre : va_W) (post : (Nat → Nat) → va_W) : Prop :=
  ∀ ad, Met z.1 y (.code y cc maxL none :: GW) (rmk h mc ms) (va_Pc As (fun U => Amb z ad U ∧ va_P z.2.1 zcl (ws ++ pre) U.heap ∧ va_D (zA z) (ws ++ pre))) (QA z (fun nw (_ : Unit) => ws ++ post nw) (fun _ : Unit => none) (fun _ => True) () ()) mc ms (zA z)
def QI (z : ZZ) (x : XX) (ws : va_W) (post : (Nat → Nat) → va_W) (mc ms : Nat) : State → Prop := MQ x.2.2.2.2.2.2.1 (QA z (fun nw (_ : Unit) => ws ++ post nw) (fun _ : Unit => none) (fun _ => True) () ()) x.2.2.2.2.2.1 x.2.2.2.1 mc ms (zA z)
def RM (x : XX) (h mc ms : Nat) : Prop := h ≤ x.2.2.1.frames ∧ 64 * h ≤ x.2.2.1.locals ∧ mc ≤ x.2.2.1.cells ∧ ms ≤ x.2.2.1.slots
theorem RM.of {x : XX} {h mc ms : Nat} (hR : x.2.2.1 = rmk h mc ms) : RM x h mc ms := by
  rw [RM, hR]; exact ⟨Nat.le_refl _, Nat.le_refl _, Nat.le_refl _, Nat.le_refl _⟩
theorem CtI.of {z : ZZ} {y : MethodName} {cc : ByteArray} {maxL h mc ms : Nat} {As : List Value} {ws pre : va_W} {post : (Nat → Nat) → va_W} (hy : plainName y.cls = true) (hi : y.name = "<init>") (hn : (lg_sl As).length ≤ maxL)
    (body : ∀ (ad : Nat → Nat) (x : XX), CX z ad x cc y.cls maxL none → RM x h mc ms → x.2.2.2.2.2.2.2.1.name = "<init>" → AL z x maxL (QI z x ws post mc ms) 0 0 0 (lv_args 0 As) [] (ws ++ pre)) : CtI z y cc maxL h mc ms As ws pre post := by
  intro ad
  refine Met.ofW (cc := cc) (maxL := maxL) (ret := none) hy rfl ?_
  intro p e s m args below meth c s₁ B hml hv
  obtain ⟨rfl, hAmb, hP, hD⟩ := hv
  have hts := atoms_spec (ws := .code y cc maxL none :: GW) B.pre
  have hown : s.vm.findClass y.cls = some m.cls := findClass_of_methodNamed B.named
  have hx := body ad (p, e, rmk h mc ms, s, m, As.toArray, below, meth, c) ⟨B.exec, B.bytes, B.returns, hml, hown, fun w hw => hts w (List.mem_cons_of_mem _ hw), B.notSynchronized, hAmb⟩ (RM.of rfl) (by rw [← hi]; exact (name_of_methodNamed B.named B.method).1)
  have hl := lv_entry As (n := maxL) hn
  rw [lg_entry_eq]
  exact hx s.heap [] _ hP hD va_S.rf hl
theorem getA {b l : va_W} {i : Nat} {e : Nat × va_E} (h : l[i]? = some e) : (b ++ l)[b.length + i]? = some e := by
  rw [List.getElem?_append_right (Nat.le_add_right _ _), Nat.add_sub_cancel_left]; exact h
theorem setA {b l : va_W} {i : Nat} {e : Nat × va_E} : (b ++ l).set (b.length + i) e = b ++ l.set i e := by
  rw [List.set_append_right _ _ (Nat.le_add_right _ _), Nat.add_sub_cancel_left]
section ALR
variable {z : ZZ} {x : XX} {nL : Nat} {Q : State → Prop} {k n : Nat} {ad : Nat → Nat} {pc : Nat} {lv : List (Nat × Value)} {st : List Value} {ws b l : va_W} {cc : ByteArray} {own : String} {ret : Option FieldType} {h mc ms : Nat}
theorem al_aload_n (hC : CX z ad x cc own nL ret) {j i a : Nat} {i4 : Fin 4} (hi : (i4 : Nat) = i) (hv : lv[j]? = some (i, .ref a)) (hd : decode cc pc = .ok (.aload_n i4, 1)) (kk : AL z x nL Q k n (pc + 1) lv (.ref a :: st) ws) : AL z x nL Q k n pc lv st ws := by
  intro H locs ls hP hD hS hl
  exact lv_aload_n hC.1 hC.2.1 hd hi (lv_at hl j hv) (kk H locs ls hP hD hS hl)
theorem al_aload (hC : CX z ad x cc own nL ret) {j i a : Nat} (hv : lv[j]? = some (i, .ref a)) (hd : decode cc pc = .ok (.aload i, 2)) (kk : AL z x nL Q k n (pc + 2) lv (.ref a :: st) ws) : AL z x nL Q k n pc lv st ws := by
  intro H locs ls hP hD hS hl
  exact lv_aload hC.1 hC.2.1 hd (lv_at hl j hv) (kk H locs ls hP hD hS hl)
theorem al_iload_n (hC : CX z ad x cc own nL ret) {j i : Nat} {a : Int32} {i4 : Fin 4} (hi : (i4 : Nat) = i) (hv : lv[j]? = some (i, .int a)) (hd : decode cc pc = .ok (.iload_n i4, 1)) (kk : AL z x nL Q k n (pc + 1) lv (.int a :: st) ws) : AL z x nL Q k n pc lv st ws := by
  intro H locs ls hP hD hS hl
  exact lv_iload_n hC.1 hC.2.1 hd hi (lv_at hl j hv) (kk H locs ls hP hD hS hl)
theorem al_iconst (hC : CX z ad x cc own nL ret) {c : Int} {v : Int32} (hv : Int32.ofInt c = v) (hd : decode cc pc = .ok (.iconst c, 1)) (kk : AL z x nL Q k n (pc + 1) lv (.int v :: st) ws) : AL z x nL Q k n pc lv st ws := by
  intro H locs ls hP hD hS hl
  exact lv_iconst hC.1 hC.2.1 hd hv (kk H locs ls hP hD hS hl)
theorem al_bipush (hC : CX z ad x cc own nL ret) {c : Int} {v : Int32} (hv : (Int8.ofInt c).toInt32 = v) (hd : decode cc pc = .ok (.bipush c, 2)) (kk : AL z x nL Q k n (pc + 2) lv (.int v :: st) ws) : AL z x nL Q k n pc lv st ws := by
  intro H locs ls hP hD hS hl
  exact lv_bipush hC.1 hC.2.1 hd hv (kk H locs ls hP hD hS hl)
theorem al_sipush (hC : CX z ad x cc own nL ret) {c : Int} {v : Int32} (hv : (Int16.ofInt c).toInt32 = v) (hd : decode cc pc = .ok (.sipush c, 3)) (kk : AL z x nL Q k n (pc + 3) lv (.int v :: st) ws) : AL z x nL Q k n pc lv st ws := by
  intro H locs ls hP hD hS hl
  exact lv_sipush hC.1 hC.2.1 hd hv (kk H locs ls hP hD hS hl)
theorem al_iadd (hC : CX z ad x cc own nL ret) {a c : Int32} (hd : decode cc pc = .ok (.iadd, 1)) (kk : AL z x nL Q k n (pc + 1) lv (.int (a + c) :: st) ws) : AL z x nL Q k n pc lv (.int c :: .int a :: st) ws := by
  intro H locs ls hP hD hS hl
  exact lv_iadd hC.1 hC.2.1 hd (kk H locs ls hP hD hS hl)
theorem al_dup (hC : CX z ad x cc own nL ret) {va : Value} (ha : va.category = 1) (hd : decode cc pc = .ok (.dup, 1)) (kk : AL z x nL Q k n (pc + 1) lv (va :: va :: st) ws) : AL z x nL Q k n pc lv (va :: st) ws := by
  intro H locs ls hP hD hS hl
  exact lv_dup hC.1 hC.2.1 hd ha (kk H locs ls hP hD hS hl)
theorem al_istore_n (hC : CX z ad x cc own nL ret) {i : Nat} {i4 : Fin 4} (hi : (i4 : Nat) = i) {a : Int32} {lv' : List (Nat × Value)} (hd : decode cc pc = .ok (.istore_n i4, 1)) (hn : i < nL) (hv : (i, Value.int a) :: lv.filter (fun q => !(q.1 == i) && !(q.1 + 1 == i && q.2.category == 2)) = lv') (kk : AL z x nL Q k n (pc + 1) lv' st ws) : AL z x nL Q k n pc lv (.int a :: st) ws := by
  intro H locs ls hP hD hS hl
  exact lv_istore_n hC.1 hC.2.1 hd hi hl hn hv (fun ls' hl' => kk H locs ls' hP hD hS hl')
theorem al_iinc (hC : CX z ad x cc own nL ret) {i j : Nat} {c : Int} {a v : Int32} {lv' : List (Nat × Value)} (hd : decode cc pc = .ok (.iinc i c, 3)) (hj : lv[j]? = some (i, .int a)) (ha : a + Int32.ofInt c = v) (hn : i < nL) (hv : (i, Value.int v) :: lv.filter (fun q => !(q.1 == i) && !(q.1 + 1 == i && q.2.category == 2)) = lv') (kk : AL z x nL Q k n (pc + 3) lv' st ws) : AL z x nL Q k n pc lv st ws := by
  intro H locs ls hP hD hS hl
  exact lv_iinc hC.1 hC.2.1 hd hl (k := j) hj ha hn hv (fun ls' hl' => kk H locs ls' hP hD hS hl')
theorem al_goto (hC : CX z ad x cc own nL ret) {off : Int} {tgt : Nat} (hd : decode cc pc = .ok (.goto off, 3)) (ht : (pc : Int) + off = (tgt : Int)) (kk : AL z x nL Q k n tgt lv st ws) : AL z x nL Q k n pc lv st ws := by
  intro H locs ls hP hD hS hl
  exact lv_goto hC.1 hC.2.1 hd ht (kk H locs ls hP hD hS hl)
theorem al_icmp_ge (hC : CX z ad x cc own nL ret) {a c : Int32} {off : Int} {tgt : Nat} (hd : decode cc pc = .ok (.if_icmp .ge off, 3)) (ht : (pc : Int) + off = (tgt : Int)) (kt : c ≤ a → AL z x nL Q k n tgt lv st ws) (kf : ¬ c ≤ a → AL z x nL Q k n (pc + 3) lv st ws) : AL z x nL Q k n pc lv (.int c :: .int a :: st) ws := by
  intro H locs ls hP hD hS hl
  exact lv_icmp_ge hC.1 hC.2.1 hd ht (fun g => kt g H locs ls hP hD hS hl) (fun g => kf g H locs ls hP hD hS hl)
theorem al_drop {lv' : List (Nat × Value)} (ks : List Nat) (hp : lv_pick lv ks = lv') (kk : AL z x nL Q k n pc lv' st ws) : AL z x nL Q k n pc lv st ws := by
  intro H locs ls hP hD hS hl
  exact kk H locs ls hP hD hS (lv_sub hl ks hp)
theorem al_obj (hC : CX z ad x cc own nL ret) (hR : RM x h mc ms) {idx a : Nat} (hw : .methodLink own idx Lib.objectInit ∈ GW ∧ .instanceMethod Lib.objectInit ∈ GW ∧ .code Lib.objectInit ⟨#[0xb1]⟩ 1 none ∈ GW) (hd : decode cc pc = .ok (.invokespecial idx, 3)) (hh : 1 ≤ h) (hW : (st.map fun v => v.category).sum ≤ 8) (kk : AL z x nL Q k n (pc + 3) lv st ws) : AL z x nL Q k n pc lv (.ref a :: st) ws := by
  intro H locs ls hP hD hS hl
  have hcw := hC.2.2.2.2.2.1
  exact W.objInit hC.1 hC.2.1 hC.2.2.2.2.1 (hcw _ hw.1) (hcw _ hw.2.1) (hcw _ hw.2.2) (g := F0 x.2.2.2.2.1 pc ls (.ref a :: st)) rfl (by rw [hC.2.2.2.1]; exact hl.1) rfl hd (Nat.le_trans hh hR.1) (by have := hR.2.1; show 2 * 0 + _ + 12 ≤ _; omega) (kk H locs ls hP hD hS hl)
theorem al_newa (hC : CX z ad x cc own nL ret) (hR : RM x h mc ms) (t : Nat) {atype : ArrayType} {ty : FieldType} {v : Int32} {N : Nat} {a0 : vp_A} (harr : Cond.arrayClass (newarray.typeOf atype) ∈ GW) (hty : newarray.typeOf atype = ty) (ht : (zty z)[t]? = some (z.2.2.1 t, ty)) (ha : ∀ cA : ClassId, vp_cell cA a0 = arrV cA N (fun _ => defaultValue ty)) (hv : ¬ v < 0) (hN : v.toNatClampNeg = N) (hb : N * componentBytes ty ≤ 536870912) (hk : k + 1 ≤ mc ∧ n + N ≤ ms) (hd : decode cc pc = .ok (.newarray atype, 2)) (kk : ∀ q, AL z x nL Q (k + 1) (n + N) (pc + 2) lv (.ref q :: st) (b ++ (l ++ [(q, .inl (z.2.2.1 t, a0))]))) : AL z x nL Q k n pc lv (.int v :: st) (b ++ l) := by
  intro H locs ls hP hD hS hl
  have hcw := hC.2.2.2.2.2.1
  refine va_newa (atype := atype) hC.1 hC.2.1 (hcw _ harr) hty hC.2.2.2.2.2.2.2.1 hP hD hS (fun q hq => Nat.le_trans hC.2.2.2.2.2.2.2.2.1 hq) ha hv hN hb (Nat.le_trans hk.1 hR.2.2.1) (Nat.le_trans hk.2 hR.2.2.2) hd (fun q cA H1 hK hP1 hD1 hS1 => ?_)
  have e := zty_eq hK ht
  subst e
  rw [List.append_assoc] at hP1 hD1
  exact kk q H1 locs ls hP1 hD1 hS1 hl
theorem al_newq (hC : CX z ad x cc own nL ret) (hR : RM x h mc ms) {idx : Nat} {v : Int32} {N : Nat} (hcl : Cond.classLink own idx "WidowsFund$Act" ∈ GW) (hv : ¬ v < 0) (hN : v.toNatClampNeg = N) (hb : N * 4 ≤ 536870912) (hk : k + 1 ≤ mc ∧ n + N ≤ ms) (hd : decode cc pc = .ok (.anewarray idx, 3)) (kk : ∀ q, AL z x nL Q (k + 1) (n + N) (pc + 3) lv (.ref q :: st) (b ++ (l ++ [(q, .inl (z.2.2.1 3, N, .inr (.inr (.inr (.inr (fun _ => none))))))]))) : AL z x nL Q k n pc lv (.int v :: st) (b ++ l) := by
  intro H locs ls hP hD hS hl
  have hcw := hC.2.2.2.2.2.1
  refine va_newq hC.1 hC.2.1 hC.2.2.2.2.1 (hcw _ hcl) (CXnf hC).1 hC.2.2.2.2.2.2.2.1 hP hD hS (fun q hq => Nat.le_trans hC.2.2.2.2.2.2.2.2.1 hq) hv hN hb (Nat.le_trans hk.1 hR.2.2.1) (Nat.le_trans hk.2 hR.2.2.2) hd (fun q cA H1 hK hP1 hD1 hS1 => ?_)
  have e := zty_eq (t := 3) hK rfl
  subst e
  rw [List.append_assoc] at hP1 hD1
  exact kk q H1 locs ls hP1 hD1 hS1 hl
theorem al_putF (hC : CX z ad x cc own nL ret) (hni : x.2.2.2.2.2.2.2.1.name = "<init>") {C : String} {T : u_T} {N ci idx j a : Nat} {fs : List Value} {v : Value} {ty : FieldType} {ty0 : Nat → FieldType} (i : Nat) (hd : decode cc pc = .ok (.putfield idx, 3)) (hin : ∀ w ∈ u_ws C T N, w ∈ GW) (hty : ∀ k, k < N → parseFieldDescriptor (T k).2.2.1 = some (ty0 k)) (hnm : ∀ a, a < N → ∀ b, b < N → a ≠ b → (T a).2.1 ≠ (T b).2.1) (he : l[i]? = some (a, .inr (ci, fs))) (hc : zcl[ci]? = some (C, T, N)) (hj : j < N) (hlk : Cond.fieldLink own idx C (T j).2.1 (T j).2.2.1 ∈ GW) (hCT : (T j).1 = C) (hCO : C = own) (hfin : (T j).2.2.2 = true) (hpd : parseFieldDescriptor (T j).2.2.1 = some ty) (hn : narrow ty v = v) (hfit : fits ty v = true) (hl0 : j < fs.length) (kk : AL z x nL Q k n (pc + 3) lv st (b ++ l.set i (a, .inr (ci, fs.set j v)))) : AL z x nL Q k n pc lv (v :: .ref a :: st) (b ++ l) := by
  intro H locs ls hP hD hS hl
  refine va_putF hC.1 hC.2.1 hC.2.2.2.2.2.1 hin ty0 hty hnm hC.2.2.2.2.1 hC.2.2.2.2.2.2.2.1 hP hD hS (b.length + i) (getA he) hc j hj (hC.2.2.2.2.2.1 _ hlk) (fun y h => by rw [← hCT]; exact h) hfin hni (by rw [hCT, hCO]) hpd hn hfit hl0 hd (fun H1 locs1 hP1 hD1 hS1 => ?_)
  rw [setA] at hP1 hD1
  exact kk H1 locs1 ls hP1 hD1 hS1 hl
theorem al_put (hC : CX z ad x cc own nL ret) {C : String} {T : u_T} {N ci idx j a : Nat} {fs : List Value} {v : Value} {ty : FieldType} {ty0 : Nat → FieldType} (i : Nat) (hd : decode cc pc = .ok (.putfield idx, 3)) (hin : ∀ w ∈ u_ws C T N, w ∈ GW) (hty : ∀ k, k < N → parseFieldDescriptor (T k).2.2.1 = some (ty0 k)) (hnm : ∀ a, a < N → ∀ b, b < N → a ≠ b → (T a).2.1 ≠ (T b).2.1) (he : l[i]? = some (a, .inr (ci, fs))) (hc : zcl[ci]? = some (C, T, N)) (hj : j < N) (hlk : Cond.fieldLink own idx C (T j).2.1 (T j).2.2.1 ∈ GW) (hCT : (T j).1 = C) (hfin : (T j).2.2.2 = false) (hpd : parseFieldDescriptor (T j).2.2.1 = some ty) (hn : narrow ty v = v) (hfit : fits ty v = true) (hl0 : j < fs.length) (kk : AL z x nL Q k n (pc + 3) lv st (b ++ l.set i (a, .inr (ci, fs.set j v)))) : AL z x nL Q k n pc lv (v :: .ref a :: st) (b ++ l) := by
  intro H locs ls hP hD hS hl
  refine va_put hC.1 hC.2.1 hC.2.2.2.2.2.1 hin ty0 hty hnm hC.2.2.2.2.1 hC.2.2.2.2.2.2.2.1 hP hD hS (b.length + i) (getA he) hc j hj (hC.2.2.2.2.2.1 _ hlk) (fun y h => by rw [← hCT]; exact h) hfin hpd hn hfit hl0 hd (fun H1 locs1 hP1 hD1 hS1 => ?_)
  rw [setA] at hP1 hD1
  exact kk H1 locs1 ls hP1 hD1 hS1 hl
theorem al_get (hC : CX z ad x cc own nL ret) {C : String} {T : u_T} {N ci idx j a : Nat} {fs : List Value} {v : Value} (i : Nat) (hd : decode cc pc = .ok (.getfield idx, 3)) (hin : ∀ w ∈ u_ws C T N, w ∈ GW) (he : l[i]? = some (a, .inr (ci, fs))) (hc : zcl[ci]? = some (C, T, N)) (hj : j < N) (hlk : Cond.fieldLink own idx C (T j).2.1 (T j).2.2.1 ∈ GW) (hCT : (T j).1 = C) (hv : fs[j]? = some v) (kk : AL z x nL Q k n (pc + 3) lv (v :: st) (b ++ l)) : AL z x nL Q k n pc lv (.ref a :: st) (b ++ l) := by
  intro H locs ls hP hD hS hl
  exact va_get hC.1 hC.2.1 hC.2.2.2.2.2.1 hin hC.2.2.2.2.1 hC.2.2.2.2.2.2.2.1 hP (b.length + i) (getA he) hc j hj (hC.2.2.2.2.2.1 _ hlk) (fun y h => by rw [← hCT]; exact h) hv hd (kk H locs ls hP hD hS hl)
theorem al_iast (hC : CX z ad x cc own nL ret) {ix v : Int32} {f : Nat → Int32} {N a : Nat} (i : Nat) (hd : decode cc pc = .ok (.iastore, 1)) (ha : l[i]? = some (a, .inl (z.2.2.1 0, N, .inl f))) (hx : vp_in ix N) (kk : AL z x nL Q k n (pc + 1) lv st (b ++ l.set i (a, .inl (z.2.2.1 0, N, .inl (upd f ix.toNatClampNeg v))))) : AL z x nL Q k n pc lv (.int v :: .int ix :: .ref a :: st) (b ++ l) := by
  intro H locs ls hP hD hS hl
  refine va_iast hC.1 hC.2.1 hC.2.2.2.2.2.2.2.1 hP hD hS (b.length + i) 0 (getA ha) rfl hx hd (fun H1 locs1 hP1 hD1 hS1 => ?_)
  rw [setA] at hP1 hD1
  exact kk H1 locs1 ls hP1 hD1 hS1 hl
theorem al_new (hC : CX z ad x cc own nL ret) (hR : RM x h mc ms) {C : String} {T : u_T} {N ci idx : Nat} {fs : List Value} (ty : Nat → FieldType) (hin : ∀ w ∈ u_ws C T N, w ∈ GW) (hty : ∀ k, k < N → parseFieldDescriptor (T k).2.2.1 = some (ty k)) (hcl : Cond.classLink own idx C ∈ GW ∧ Cond.instantiable C N ∈ GW ∧ Cond.initialized C ∈ GW) (hc : zcl[ci]? = some (C, T, N)) (hfs : ∀ j, j < N → defaultValue (ty j) = vp_V fs j) (hk : k + 1 ≤ mc ∧ n + N ≤ ms) (hd : decode cc pc = .ok (.new idx, 3)) (kk : ∀ q, AL z x nL Q (k + 1) (n + N) (pc + 3) lv (.ref q :: st) (b ++ (l ++ [(q, .inr (ci, fs))]))) : AL z x nL Q k n pc lv st (b ++ l) := by
  intro H locs ls hP hD hS hl
  have hcw := hC.2.2.2.2.2.1
  refine va_new hC.1 hC.2.1 hcw hin ty hty hC.2.2.2.2.1 (hcw _ hcl.1) (hcw _ hcl.2.1) (hcw _ hcl.2.2) hC.2.2.2.2.2.2.2.1 hP hD hS (fun q hq => Nat.le_trans hC.2.2.2.2.2.2.2.2.1 hq) hc hfs (Nat.le_trans hk.1 hR.2.2.1) (Nat.le_trans hk.2 hR.2.2.2) hd (fun q H1 hP1 hD1 hS1 => ?_)
  rw [List.append_assoc] at hP1 hD1
  exact kk q H1 locs ls hP1 hD1 hS1 hl
theorem al_callI (hC : CX z ad x cc own nL ret) (hR : RM x h mc ms) {y : MethodName} {cc' : ByteArray} {maxL' h' mc' ms' idx na a : Nat} {As rest : List Value} {l0 pre : va_W} {post : (Nat → Nat) → va_W} (lk : .methodLink own idx y ∈ GW ∧ .instanceMethod y ∈ GW ∧ .initialized y.cls ∈ GW ∧ .code y cc' maxL' none ∈ GW ∧ y.name = "<init>" ∧ (y.cls ≠ "java/lang/invoke/MethodHandle" ∧ y.cls ≠ "java/lang/invoke/VarHandle") ∧ (parseMethodDescriptor y.desc).map (fun d => d.parameters.length) = some na) (hM : CtI z y cc' maxL' h' mc' ms' (.ref a :: As) (b ++ l0) pre post) (hd : decode cc pc = .ok (.invokespecial idx, 3)) (hn : As.length = na) (hst : st = As.reverse ++ .ref a :: rest) (hw : l = l0 ++ pre) (hh : h' + 1 ≤ h ∧ maxL' ≤ 45) (hW : (rest.map fun v => v.category).sum ≤ 8) (hk : k + mc' ≤ mc ∧ n + ms' ≤ ms) (kk : ∀ nw, AL z x nL Q (k + mc') (n + ms') (pc + 3) lv rest (b ++ (l0 ++ post nw))) : AL z x nL Q k n pc lv st (b ++ l) := by
  intro H locs ls hP hD hS hl
  subst hst hw
  have hcw := hC.2.2.2.2.2.1
  have hroom : (rmk h' mc' ms').frames + 1 ≤ x.2.2.1.frames ∧ 8 + (maxL' + 11) + (rmk h' mc' ms').locals ≤ x.2.2.1.locals := by
    have h1 := hR.1; have h2 := hR.2.1
    simp only [rmk]; omega
  have hcs : k + mc' ≤ x.2.2.1.cells ∧ n + ms' ≤ x.2.2.1.slots := ⟨Nat.le_trans hk.1 hR.2.2.1, Nat.le_trans hk.2 hR.2.2.2⟩
  rw [← List.append_assoc] at hP hD
  refine callQ (σ1 := ()) (va_runI (As := As) (rest := rest) ⟨hC.1, hC.2.1, hC.2.2.2.1, hC.2.2.2.2.1, hcw⟩ (hM ad) (cwI na hcw (gi_cons lk.2.2.2.1 gi_self) rfl rfl rfl (hcw _ lk.2.2.1) (hcw _ lk.1) (hcw _ lk.2.1) lk.2.2.2.2.1 ⟨lk.2.2.2.2.2.1.1, lk.2.2.2.2.2.1.2, lk.2.2.2.2.2.2⟩ hroom) ⟨fun a U g mk q => ⟨q.1, q.2.1.same rfl rfl, q.2.2.1, q.2.2.2⟩, fun U hU hW => ⟨rfl, hC.2.2.2.2.2.2.2.step hW hU hS, by rw [hU]; exact hP, hD⟩⟩ rfl hn hl.1 rfl (lv_room hW) hd hcs) hS (fun nw H1 locs1 hE hP1 hD1 hS1 => ?_)
  rw [List.append_assoc] at hP1 hD1
  exact kk nw H1 locs1 ls hP1 hD1 hS1 hl
theorem al_callIN (hC : CX z ad x cc own nL ret) (hR : RM x h mc ms) {y : MethodName} {cc' : ByteArray} {maxL' h' mc' ms' idx na a : Nat} {As rest : List Value} {l0 pre : va_W} {post : (Nat → Nat) → va_W} (lkn : va_Nw (.methodLinkNest own idx y RX10) x.2.2.2.1) (lk : .instanceMethod y ∈ GW ∧ .initialized y.cls ∈ GW ∧ .code y cc' maxL' none ∈ GW ∧ y.name = "<init>" ∧ (y.cls ≠ "java/lang/invoke/MethodHandle" ∧ y.cls ≠ "java/lang/invoke/VarHandle") ∧ (parseMethodDescriptor y.desc).map (fun d => d.parameters.length) = some na) (hM : CtI z y cc' maxL' h' mc' ms' (.ref a :: As) (b ++ l0) pre post) (hd : decode cc pc = .ok (.invokespecial idx, 3)) (hn : As.length = na) (hst : st = As.reverse ++ .ref a :: rest) (hw : l = l0 ++ pre) (hh : h' + 1 ≤ h ∧ maxL' ≤ 45) (hW : (rest.map fun v => v.category).sum ≤ 8) (hk : k + mc' ≤ mc ∧ n + ms' ≤ ms) (kk : ∀ nw, AL z x nL Q (k + mc') (n + ms') (pc + 3) lv rest (b ++ (l0 ++ post nw))) : AL z x nL Q k n pc lv st (b ++ l) := by
  intro H locs ls hP hD hS hl
  subst hst hw
  have hcw := hC.2.2.2.2.2.1
  have hroom : (rmk h' mc' ms').frames + 1 ≤ x.2.2.1.frames ∧ 8 + (maxL' + 11) + (rmk h' mc' ms').locals ≤ x.2.2.1.locals := by
    have h1 := hR.1; have h2 := hR.2.1
    simp only [rmk]; omega
  have hcs : k + mc' ≤ x.2.2.1.cells ∧ n + ms' ≤ x.2.2.1.slots := ⟨Nat.le_trans hk.1 hR.2.2.1, Nat.le_trans hk.2 hR.2.2.2⟩
  rw [← List.append_assoc] at hP hD
  refine callQ (σ1 := ()) (va_runIN (As := As) (rest := rest) ⟨hC.1, hC.2.1, hC.2.2.2.1, hC.2.2.2.2.1, hcw⟩ (hM ad) ⟨va_cnB na hcw (gi_cons lk.2.2.1 gi_self) rfl rfl rfl lkn (hcw _ lk.2.1) ⟨lk.2.2.2.2.1.1, lk.2.2.2.2.1.2, lk.2.2.2.2.2⟩ hroom, lk.2.2.2.1, hcw _ lk.1⟩ ⟨fun a U g mk q => ⟨q.1, q.2.1.same rfl rfl, q.2.2.1, q.2.2.2⟩, fun U hU hW => ⟨rfl, hC.2.2.2.2.2.2.2.step hW hU hS, by rw [hU]; exact hP, hD⟩⟩ rfl hn hl.1 rfl (lv_room hW) hd hcs) hS (fun nw H1 locs1 hE hP1 hD1 hS1 => ?_)
  rw [List.append_assoc] at hP1 hD1
  exact kk nw H1 locs1 ls hP1 hD1 hS1 hl
theorem al_ret (hC : CX z ad x cc own nL none) {post : (Nat → Nat) → va_W} (nw : Nat → Nat) (hw : l = post nw) (hd : decode cc pc = .ok (.return_, 1)) (hk : k ≤ mc ∧ n ≤ ms) : AL z x nL (QI z x b post mc ms) k n pc lv [] (b ++ l) := by
  intro H locs ls hP hD hS hl
  subst hw
  refine W.widen hk.1 hk.2 ?_
  exact W.vret hC.1 hC.2.1 hC.2.2.1 (fun t ht hW => ⟨⟨nw, trivial, rfl, by rw [ht]; exact hP, hD⟩, hS.F ht⟩) hS.2.2 hd hC.2.2.2.2.2.2.1
end ALR
def tabF : Nat → (Nat → Int32)
  | 0 => fun _ => 0
  | m + 1 => upd (tabF m) m (10 + Int32.ofNat m)
def tab0 : Nat → Int32 := upd (tabF 99) 99 1000
theorem gA_int : Cond.arrayClass (newarray.typeOf .int) ∈ GW := gw_t1 114 (by decide +kernel) (by decide +kernel)
theorem gA_boolean : Cond.arrayClass (newarray.typeOf .boolean) ∈ GW := gw_t2 77 (by decide +kernel) (by decide +kernel)
theorem gA_long : Cond.arrayClass (newarray.typeOf .long) ∈ GW := gw_t2 89 (by decide +kernel) (by decide +kernel)
theorem dX0_init_0 : decode cX0_init 0 = .ok (.aload_n 0, 1) := by decide +kernel
theorem dX0_init_1 : decode cX0_init 1 = .ok (.invokespecial 3, 3) := by decide +kernel
theorem dX0_init_4 : decode cX0_init 4 = .ok (.aload_n 0, 1) := by decide +kernel
theorem dX0_init_5 : decode cX0_init 5 = .ok (.bipush 8, 2) := by decide +kernel
theorem dX0_init_7 : decode cX0_init 7 = .ok (.newarray .int, 2) := by decide +kernel
theorem dX0_init_9 : decode cX0_init 9 = .ok (.putfield 9, 3) := by decide +kernel
theorem dX0_init_12 : decode cX0_init 12 = .ok (.aload_n 0, 1) := by decide +kernel
theorem dX0_init_13 : decode cX0_init 13 = .ok (.bipush 8, 2) := by decide +kernel
theorem dX0_init_15 : decode cX0_init 15 = .ok (.newarray .int, 2) := by decide +kernel
theorem dX0_init_17 : decode cX0_init 17 = .ok (.putfield 15, 3) := by decide +kernel
theorem dX0_init_20 : decode cX0_init 20 = .ok (.aload_n 0, 1) := by decide +kernel
theorem dX0_init_21 : decode cX0_init 21 = .ok (.bipush 8, 2) := by decide +kernel
theorem dX0_init_23 : decode cX0_init 23 = .ok (.newarray .int, 2) := by decide +kernel
theorem dX0_init_25 : decode cX0_init 25 = .ok (.putfield 18, 3) := by decide +kernel
theorem dX0_init_28 : decode cX0_init 28 = .ok (.aload_n 0, 1) := by decide +kernel
theorem dX0_init_29 : decode cX0_init 29 = .ok (.bipush 8, 2) := by decide +kernel
theorem dX0_init_31 : decode cX0_init 31 = .ok (.newarray .int, 2) := by decide +kernel
theorem dX0_init_33 : decode cX0_init 33 = .ok (.putfield 21, 3) := by decide +kernel
theorem dX0_init_36 : decode cX0_init 36 = .ok (.aload_n 0, 1) := by decide +kernel
theorem dX0_init_37 : decode cX0_init 37 = .ok (.bipush 8, 2) := by decide +kernel
theorem dX0_init_39 : decode cX0_init 39 = .ok (.newarray .int, 2) := by decide +kernel
theorem dX0_init_41 : decode cX0_init 41 = .ok (.putfield 24, 3) := by decide +kernel
theorem dX0_init_44 : decode cX0_init 44 = .ok (.aload_n 0, 1) := by decide +kernel
theorem dX0_init_45 : decode cX0_init 45 = .ok (.sipush 200, 3) := by decide +kernel
theorem dX0_init_48 : decode cX0_init 48 = .ok (.newarray .int, 2) := by decide +kernel
theorem dX0_init_50 : decode cX0_init 50 = .ok (.putfield 27, 3) := by decide +kernel
theorem dX0_init_53 : decode cX0_init 53 = .ok (.return_, 1) := by decide +kernel
theorem lko_X0_3 : Cond.methodLink RX0 3 Lib.objectInit ∈ GW ∧ .instanceMethod Lib.objectInit ∈ GW ∧ .code Lib.objectInit ⟨#[0xb1]⟩ 1 none ∈ GW := ⟨gw_t3 120 (by decide +kernel) (by decide +kernel), gw_t1 26 (by decide +kernel) (by decide +kernel), gw_t1 27 (by decide +kernel) (by decide +kernel)⟩
theorem lf_X0_9 : Cond.fieldLink RX0 9 RX0 (TX0 3).2.1 (TX0 3).2.2.1 ∈ GW := gw_t3 131 (by decide +kernel) (by decide +kernel)
theorem lf_X0_15 : Cond.fieldLink RX0 15 RX0 (TX0 4).2.1 (TX0 4).2.2.1 ∈ GW := gw_t3 135 (by decide +kernel) (by decide +kernel)
theorem lf_X0_18 : Cond.fieldLink RX0 18 RX0 (TX0 5).2.1 (TX0 5).2.2.1 ∈ GW := gw_t3 138 (by decide +kernel) (by decide +kernel)
theorem lf_X0_21 : Cond.fieldLink RX0 21 RX0 (TX0 6).2.1 (TX0 6).2.2.1 ∈ GW := gw_t3 141 (by decide +kernel) (by decide +kernel)
set_option maxRecDepth 100000 in
theorem c_X0_init {z : ZZ} {ws : va_W} (h0 : Nat) : CtI z yX0_init cX0_init 1 1 6 240 [.ref h0] ws [(h0, .inr (0, [.int 0, .int 0, .int 0, .null, .null, .null, .null, .null, .null, .int 0]))] (fun nw => [(h0, .inr (0, [.int 0, .int 0, .int 0, .ref (nw 0), .ref (nw 1), .ref (nw 2), .ref (nw 3), .ref (nw 4), .ref (nw 5), .int 0])), ((nw 0), .inl (z.2.2.1 0, 8, .inl (fun _ => 0))), ((nw 1), .inl (z.2.2.1 0, 8, .inl (fun _ => 0))), ((nw 2), .inl (z.2.2.1 0, 8, .inl (fun _ => 0))), ((nw 3), .inl (z.2.2.1 0, 8, .inl (fun _ => 0))), ((nw 4), .inl (z.2.2.1 0, 8, .inl (fun _ => 0))), ((nw 5), .inl (z.2.2.1 0, 200, .inl (fun _ => 0)))]) := by
  refine CtI.of (by decide) rfl (Nat.le_of_ble_eq_true rfl) (fun ad x hC hR hni => ?_)
  show AL z x 1 _ 0 0 0 [(0, .ref h0)] [] (ws ++ [(h0, .inr (0, [.int 0, .int 0, .int 0, .null, .null, .null, .null, .null, .null, .int 0]))])
  refine al_aload_n (j := 0) hC rfl rfl dX0_init_0 ?_
  refine al_obj hC hR lko_X0_3 dX0_init_1 (by decide) (Nat.le_of_ble_eq_true rfl) ?_
  refine al_aload_n (j := 0) hC rfl rfl dX0_init_4 ?_
  refine al_bipush hC bi_8 dX0_init_5 ?_
  refine al_newa (b := ws) (k := 0) (n := 0) (v := 8) (l := [(h0, .inr (0, [.int 0, .int 0, .int 0, .null, .null, .null, .null, .null, .null, .int 0]))]) (a0 := (8, .inl (fun _ => 0))) (ty := .int) hC hR 0 gA_int rfl rfl (fun _ => rfl) (by decide) (by decide) (Nat.le_of_ble_eq_true rfl) ⟨Nat.le_of_ble_eq_true rfl, Nat.le_of_ble_eq_true rfl⟩ dX0_init_7 (fun q1 => ?_)
  show AL z x 1 _ 1 8 9 [(0, .ref h0)] [.ref q1, .ref h0] (ws ++ [(h0, .inr (0, [.int 0, .int 0, .int 0, .null, .null, .null, .null, .null, .null, .int 0])), (q1, .inl (z.2.2.1 0, 8, .inl (fun _ => 0)))])
  refine al_putF (b := ws) (v := .ref q1) (l := [(h0, .inr (0, [.int 0, .int 0, .int 0, .null, .null, .null, .null, .null, .null, .int 0])), (q1, .inl (z.2.2.1 0, 8, .inl (fun _ => 0)))]) (C := RX0) (T := TX0) (N := 10) (ci := 0) (j := 3) (ty := (.array .int)) (ty0 := tyX0) hC hni 0 dX0_init_9 inX0 tyX0_ok nmX0 rfl rfl (by decide) lf_X0_9 rfl rfl rfl (by decide +kernel) rfl rfl (Nat.le_of_ble_eq_true rfl) ?_
  show AL z x 1 _ 1 8 12 [(0, .ref h0)] [] (ws ++ [(h0, .inr (0, [.int 0, .int 0, .int 0, .ref q1, .null, .null, .null, .null, .null, .int 0])), (q1, .inl (z.2.2.1 0, 8, .inl (fun _ => 0)))])
  refine al_aload_n (j := 0) hC rfl rfl dX0_init_12 ?_
  refine al_bipush hC bi_8 dX0_init_13 ?_
  refine al_newa (b := ws) (k := 1) (n := 8) (v := 8) (l := [(h0, .inr (0, [.int 0, .int 0, .int 0, .ref q1, .null, .null, .null, .null, .null, .int 0])), (q1, .inl (z.2.2.1 0, 8, .inl (fun _ => 0)))]) (a0 := (8, .inl (fun _ => 0))) (ty := .int) hC hR 0 gA_int rfl rfl (fun _ => rfl) (by decide) (by decide) (Nat.le_of_ble_eq_true rfl) ⟨Nat.le_of_ble_eq_true rfl, Nat.le_of_ble_eq_true rfl⟩ dX0_init_15 (fun q2 => ?_)
  show AL z x 1 _ 2 16 17 [(0, .ref h0)] [.ref q2, .ref h0] (ws ++ [(h0, .inr (0, [.int 0, .int 0, .int 0, .ref q1, .null, .null, .null, .null, .null, .int 0])), (q1, .inl (z.2.2.1 0, 8, .inl (fun _ => 0))), (q2, .inl (z.2.2.1 0, 8, .inl (fun _ => 0)))])
  refine al_putF (b := ws) (v := .ref q2) (l := [(h0, .inr (0, [.int 0, .int 0, .int 0, .ref q1, .null, .null, .null, .null, .null, .int 0])), (q1, .inl (z.2.2.1 0, 8, .inl (fun _ => 0))), (q2, .inl (z.2.2.1 0, 8, .inl (fun _ => 0)))]) (C := RX0) (T := TX0) (N := 10) (ci := 0) (j := 4) (ty := (.array .int)) (ty0 := tyX0) hC hni 0 dX0_init_17 inX0 tyX0_ok nmX0 rfl rfl (by decide) lf_X0_15 rfl rfl rfl (by decide +kernel) rfl rfl (Nat.le_of_ble_eq_true rfl) ?_
  show AL z x 1 _ 2 16 20 [(0, .ref h0)] [] (ws ++ [(h0, .inr (0, [.int 0, .int 0, .int 0, .ref q1, .ref q2, .null, .null, .null, .null, .int 0])), (q1, .inl (z.2.2.1 0, 8, .inl (fun _ => 0))), (q2, .inl (z.2.2.1 0, 8, .inl (fun _ => 0)))])
  refine al_aload_n (j := 0) hC rfl rfl dX0_init_20 ?_
  refine al_bipush hC bi_8 dX0_init_21 ?_
  refine al_newa (b := ws) (k := 2) (n := 16) (v := 8) (l := [(h0, .inr (0, [.int 0, .int 0, .int 0, .ref q1, .ref q2, .null, .null, .null, .null, .int 0])), (q1, .inl (z.2.2.1 0, 8, .inl (fun _ => 0))), (q2, .inl (z.2.2.1 0, 8, .inl (fun _ => 0)))]) (a0 := (8, .inl (fun _ => 0))) (ty := .int) hC hR 0 gA_int rfl rfl (fun _ => rfl) (by decide) (by decide) (Nat.le_of_ble_eq_true rfl) ⟨Nat.le_of_ble_eq_true rfl, Nat.le_of_ble_eq_true rfl⟩ dX0_init_23 (fun q3 => ?_)
  show AL z x 1 _ 3 24 25 [(0, .ref h0)] [.ref q3, .ref h0] (ws ++ [(h0, .inr (0, [.int 0, .int 0, .int 0, .ref q1, .ref q2, .null, .null, .null, .null, .int 0])), (q1, .inl (z.2.2.1 0, 8, .inl (fun _ => 0))), (q2, .inl (z.2.2.1 0, 8, .inl (fun _ => 0))), (q3, .inl (z.2.2.1 0, 8, .inl (fun _ => 0)))])
  refine al_putF (b := ws) (v := .ref q3) (l := [(h0, .inr (0, [.int 0, .int 0, .int 0, .ref q1, .ref q2, .null, .null, .null, .null, .int 0])), (q1, .inl (z.2.2.1 0, 8, .inl (fun _ => 0))), (q2, .inl (z.2.2.1 0, 8, .inl (fun _ => 0))), (q3, .inl (z.2.2.1 0, 8, .inl (fun _ => 0)))]) (C := RX0) (T := TX0) (N := 10) (ci := 0) (j := 5) (ty := (.array .int)) (ty0 := tyX0) hC hni 0 dX0_init_25 inX0 tyX0_ok nmX0 rfl rfl (by decide) lf_X0_18 rfl rfl rfl (by decide +kernel) rfl rfl (Nat.le_of_ble_eq_true rfl) ?_
  show AL z x 1 _ 3 24 28 [(0, .ref h0)] [] (ws ++ [(h0, .inr (0, [.int 0, .int 0, .int 0, .ref q1, .ref q2, .ref q3, .null, .null, .null, .int 0])), (q1, .inl (z.2.2.1 0, 8, .inl (fun _ => 0))), (q2, .inl (z.2.2.1 0, 8, .inl (fun _ => 0))), (q3, .inl (z.2.2.1 0, 8, .inl (fun _ => 0)))])
  refine al_aload_n (j := 0) hC rfl rfl dX0_init_28 ?_
  refine al_bipush hC bi_8 dX0_init_29 ?_
  refine al_newa (b := ws) (k := 3) (n := 24) (v := 8) (l := [(h0, .inr (0, [.int 0, .int 0, .int 0, .ref q1, .ref q2, .ref q3, .null, .null, .null, .int 0])), (q1, .inl (z.2.2.1 0, 8, .inl (fun _ => 0))), (q2, .inl (z.2.2.1 0, 8, .inl (fun _ => 0))), (q3, .inl (z.2.2.1 0, 8, .inl (fun _ => 0)))]) (a0 := (8, .inl (fun _ => 0))) (ty := .int) hC hR 0 gA_int rfl rfl (fun _ => rfl) (by decide) (by decide) (Nat.le_of_ble_eq_true rfl) ⟨Nat.le_of_ble_eq_true rfl, Nat.le_of_ble_eq_true rfl⟩ dX0_init_31 (fun q4 => ?_)
  show AL z x 1 _ 4 32 33 [(0, .ref h0)] [.ref q4, .ref h0] (ws ++ [(h0, .inr (0, [.int 0, .int 0, .int 0, .ref q1, .ref q2, .ref q3, .null, .null, .null, .int 0])), (q1, .inl (z.2.2.1 0, 8, .inl (fun _ => 0))), (q2, .inl (z.2.2.1 0, 8, .inl (fun _ => 0))), (q3, .inl (z.2.2.1 0, 8, .inl (fun _ => 0))), (q4, .inl (z.2.2.1 0, 8, .inl (fun _ => 0)))])
  refine al_putF (b := ws) (v := .ref q4) (l := [(h0, .inr (0, [.int 0, .int 0, .int 0, .ref q1, .ref q2, .ref q3, .null, .null, .null, .int 0])), (q1, .inl (z.2.2.1 0, 8, .inl (fun _ => 0))), (q2, .inl (z.2.2.1 0, 8, .inl (fun _ => 0))), (q3, .inl (z.2.2.1 0, 8, .inl (fun _ => 0))), (q4, .inl (z.2.2.1 0, 8, .inl (fun _ => 0)))]) (C := RX0) (T := TX0) (N := 10) (ci := 0) (j := 6) (ty := (.array .int)) (ty0 := tyX0) hC hni 0 dX0_init_33 inX0 tyX0_ok nmX0 rfl rfl (by decide) lf_X0_21 rfl rfl rfl (by decide +kernel) rfl rfl (Nat.le_of_ble_eq_true rfl) ?_
  show AL z x 1 _ 4 32 36 [(0, .ref h0)] [] (ws ++ [(h0, .inr (0, [.int 0, .int 0, .int 0, .ref q1, .ref q2, .ref q3, .ref q4, .null, .null, .int 0])), (q1, .inl (z.2.2.1 0, 8, .inl (fun _ => 0))), (q2, .inl (z.2.2.1 0, 8, .inl (fun _ => 0))), (q3, .inl (z.2.2.1 0, 8, .inl (fun _ => 0))), (q4, .inl (z.2.2.1 0, 8, .inl (fun _ => 0)))])
  refine al_aload_n (j := 0) hC rfl rfl dX0_init_36 ?_
  refine al_bipush hC bi_8 dX0_init_37 ?_
  refine al_newa (b := ws) (k := 4) (n := 32) (v := 8) (l := [(h0, .inr (0, [.int 0, .int 0, .int 0, .ref q1, .ref q2, .ref q3, .ref q4, .null, .null, .int 0])), (q1, .inl (z.2.2.1 0, 8, .inl (fun _ => 0))), (q2, .inl (z.2.2.1 0, 8, .inl (fun _ => 0))), (q3, .inl (z.2.2.1 0, 8, .inl (fun _ => 0))), (q4, .inl (z.2.2.1 0, 8, .inl (fun _ => 0)))]) (a0 := (8, .inl (fun _ => 0))) (ty := .int) hC hR 0 gA_int rfl rfl (fun _ => rfl) (by decide) (by decide) (Nat.le_of_ble_eq_true rfl) ⟨Nat.le_of_ble_eq_true rfl, Nat.le_of_ble_eq_true rfl⟩ dX0_init_39 (fun q5 => ?_)
  show AL z x 1 _ 5 40 41 [(0, .ref h0)] [.ref q5, .ref h0] (ws ++ [(h0, .inr (0, [.int 0, .int 0, .int 0, .ref q1, .ref q2, .ref q3, .ref q4, .null, .null, .int 0])), (q1, .inl (z.2.2.1 0, 8, .inl (fun _ => 0))), (q2, .inl (z.2.2.1 0, 8, .inl (fun _ => 0))), (q3, .inl (z.2.2.1 0, 8, .inl (fun _ => 0))), (q4, .inl (z.2.2.1 0, 8, .inl (fun _ => 0))), (q5, .inl (z.2.2.1 0, 8, .inl (fun _ => 0)))])
  refine al_putF (b := ws) (v := .ref q5) (l := [(h0, .inr (0, [.int 0, .int 0, .int 0, .ref q1, .ref q2, .ref q3, .ref q4, .null, .null, .int 0])), (q1, .inl (z.2.2.1 0, 8, .inl (fun _ => 0))), (q2, .inl (z.2.2.1 0, 8, .inl (fun _ => 0))), (q3, .inl (z.2.2.1 0, 8, .inl (fun _ => 0))), (q4, .inl (z.2.2.1 0, 8, .inl (fun _ => 0))), (q5, .inl (z.2.2.1 0, 8, .inl (fun _ => 0)))]) (C := RX0) (T := TX0) (N := 10) (ci := 0) (j := 7) (ty := (.array .int)) (ty0 := tyX0) hC hni 0 dX0_init_41 inX0 tyX0_ok nmX0 rfl rfl (by decide) lf_X0_24 rfl rfl rfl (by decide +kernel) rfl rfl (Nat.le_of_ble_eq_true rfl) ?_
  show AL z x 1 _ 5 40 44 [(0, .ref h0)] [] (ws ++ [(h0, .inr (0, [.int 0, .int 0, .int 0, .ref q1, .ref q2, .ref q3, .ref q4, .ref q5, .null, .int 0])), (q1, .inl (z.2.2.1 0, 8, .inl (fun _ => 0))), (q2, .inl (z.2.2.1 0, 8, .inl (fun _ => 0))), (q3, .inl (z.2.2.1 0, 8, .inl (fun _ => 0))), (q4, .inl (z.2.2.1 0, 8, .inl (fun _ => 0))), (q5, .inl (z.2.2.1 0, 8, .inl (fun _ => 0)))])
  refine al_aload_n (j := 0) hC rfl rfl dX0_init_44 ?_
  refine al_sipush hC si_200 dX0_init_45 ?_
  refine al_newa (b := ws) (k := 5) (n := 40) (v := 200) (l := [(h0, .inr (0, [.int 0, .int 0, .int 0, .ref q1, .ref q2, .ref q3, .ref q4, .ref q5, .null, .int 0])), (q1, .inl (z.2.2.1 0, 8, .inl (fun _ => 0))), (q2, .inl (z.2.2.1 0, 8, .inl (fun _ => 0))), (q3, .inl (z.2.2.1 0, 8, .inl (fun _ => 0))), (q4, .inl (z.2.2.1 0, 8, .inl (fun _ => 0))), (q5, .inl (z.2.2.1 0, 8, .inl (fun _ => 0)))]) (a0 := (200, .inl (fun _ => 0))) (ty := .int) hC hR 0 gA_int rfl rfl (fun _ => rfl) (by decide) (by decide) (Nat.le_of_ble_eq_true rfl) ⟨Nat.le_of_ble_eq_true rfl, Nat.le_of_ble_eq_true rfl⟩ dX0_init_48 (fun q6 => ?_)
  show AL z x 1 _ 6 240 50 [(0, .ref h0)] [.ref q6, .ref h0] (ws ++ [(h0, .inr (0, [.int 0, .int 0, .int 0, .ref q1, .ref q2, .ref q3, .ref q4, .ref q5, .null, .int 0])), (q1, .inl (z.2.2.1 0, 8, .inl (fun _ => 0))), (q2, .inl (z.2.2.1 0, 8, .inl (fun _ => 0))), (q3, .inl (z.2.2.1 0, 8, .inl (fun _ => 0))), (q4, .inl (z.2.2.1 0, 8, .inl (fun _ => 0))), (q5, .inl (z.2.2.1 0, 8, .inl (fun _ => 0))), (q6, .inl (z.2.2.1 0, 200, .inl (fun _ => 0)))])
  refine al_putF (b := ws) (v := .ref q6) (l := [(h0, .inr (0, [.int 0, .int 0, .int 0, .ref q1, .ref q2, .ref q3, .ref q4, .ref q5, .null, .int 0])), (q1, .inl (z.2.2.1 0, 8, .inl (fun _ => 0))), (q2, .inl (z.2.2.1 0, 8, .inl (fun _ => 0))), (q3, .inl (z.2.2.1 0, 8, .inl (fun _ => 0))), (q4, .inl (z.2.2.1 0, 8, .inl (fun _ => 0))), (q5, .inl (z.2.2.1 0, 8, .inl (fun _ => 0))), (q6, .inl (z.2.2.1 0, 200, .inl (fun _ => 0)))]) (C := RX0) (T := TX0) (N := 10) (ci := 0) (j := 8) (ty := (.array .int)) (ty0 := tyX0) hC hni 0 dX0_init_50 inX0 tyX0_ok nmX0 rfl rfl (by decide) lf_X0_27 rfl rfl rfl (by decide +kernel) rfl rfl (Nat.le_of_ble_eq_true rfl) ?_
  show AL z x 1 _ 6 240 53 [(0, .ref h0)] [] (ws ++ [(h0, .inr (0, [.int 0, .int 0, .int 0, .ref q1, .ref q2, .ref q3, .ref q4, .ref q5, .ref q6, .int 0])), (q1, .inl (z.2.2.1 0, 8, .inl (fun _ => 0))), (q2, .inl (z.2.2.1 0, 8, .inl (fun _ => 0))), (q3, .inl (z.2.2.1 0, 8, .inl (fun _ => 0))), (q4, .inl (z.2.2.1 0, 8, .inl (fun _ => 0))), (q5, .inl (z.2.2.1 0, 8, .inl (fun _ => 0))), (q6, .inl (z.2.2.1 0, 200, .inl (fun _ => 0)))])
  exact al_ret (b := ws) (k := 6) (n := 240) (mc := 6) (ms := 240) (post := fun nw => [(h0, .inr (0, [.int 0, .int 0, .int 0, .ref (nw 0), .ref (nw 1), .ref (nw 2), .ref (nw 3), .ref (nw 4), .ref (nw 5), .int 0])), ((nw 0), .inl (z.2.2.1 0, 8, .inl (fun _ => 0))), ((nw 1), .inl (z.2.2.1 0, 8, .inl (fun _ => 0))), ((nw 2), .inl (z.2.2.1 0, 8, .inl (fun _ => 0))), ((nw 3), .inl (z.2.2.1 0, 8, .inl (fun _ => 0))), ((nw 4), .inl (z.2.2.1 0, 8, .inl (fun _ => 0))), ((nw 5), .inl (z.2.2.1 0, 200, .inl (fun _ => 0)))]) (l := [(h0, .inr (0, [.int 0, .int 0, .int 0, .ref q1, .ref q2, .ref q3, .ref q4, .ref q5, .ref q6, .int 0])), (q1, .inl (z.2.2.1 0, 8, .inl (fun _ => 0))), (q2, .inl (z.2.2.1 0, 8, .inl (fun _ => 0))), (q3, .inl (z.2.2.1 0, 8, .inl (fun _ => 0))), (q4, .inl (z.2.2.1 0, 8, .inl (fun _ => 0))), (q5, .inl (z.2.2.1 0, 8, .inl (fun _ => 0))), (q6, .inl (z.2.2.1 0, 200, .inl (fun _ => 0)))]) hC (fun k => (q1 :: q2 :: q3 :: q4 :: q5 :: q6 :: [] : List Nat).getD k 0) rfl dX0_init_53 ⟨Nat.le_of_ble_eq_true rfl, Nat.le_of_ble_eq_true rfl⟩
theorem dX1_init_0 : decode cX1_init 0 = .ok (.aload_n 0, 1) := by decide +kernel
theorem dX1_init_1 : decode cX1_init 1 = .ok (.invokespecial 3, 3) := by decide +kernel
theorem dX1_init_4 : decode cX1_init 4 = .ok (.aload_n 0, 1) := by decide +kernel
theorem dX1_init_5 : decode cX1_init 5 = .ok (.bipush 24, 2) := by decide +kernel
theorem dX1_init_7 : decode cX1_init 7 = .ok (.newarray .int, 2) := by decide +kernel
theorem dX1_init_9 : decode cX1_init 9 = .ok (.putfield 9, 3) := by decide +kernel
theorem dX1_init_12 : decode cX1_init 12 = .ok (.aload_n 0, 1) := by decide +kernel
theorem dX1_init_13 : decode cX1_init 13 = .ok (.bipush 24, 2) := by decide +kernel
theorem dX1_init_15 : decode cX1_init 15 = .ok (.newarray .int, 2) := by decide +kernel
theorem dX1_init_17 : decode cX1_init 17 = .ok (.putfield 15, 3) := by decide +kernel
theorem dX1_init_20 : decode cX1_init 20 = .ok (.aload_n 0, 1) := by decide +kernel
theorem dX1_init_21 : decode cX1_init 21 = .ok (.bipush 24, 2) := by decide +kernel
theorem dX1_init_23 : decode cX1_init 23 = .ok (.newarray .int, 2) := by decide +kernel
theorem dX1_init_25 : decode cX1_init 25 = .ok (.putfield 18, 3) := by decide +kernel
theorem dX1_init_28 : decode cX1_init 28 = .ok (.aload_n 0, 1) := by decide +kernel
theorem dX1_init_29 : decode cX1_init 29 = .ok (.bipush 24, 2) := by decide +kernel
theorem dX1_init_31 : decode cX1_init 31 = .ok (.newarray .int, 2) := by decide +kernel
theorem dX1_init_33 : decode cX1_init 33 = .ok (.putfield 21, 3) := by decide +kernel
theorem dX1_init_36 : decode cX1_init 36 = .ok (.aload_n 0, 1) := by decide +kernel
theorem dX1_init_37 : decode cX1_init 37 = .ok (.sipush 200, 3) := by decide +kernel
theorem dX1_init_40 : decode cX1_init 40 = .ok (.newarray .int, 2) := by decide +kernel
theorem dX1_init_42 : decode cX1_init 42 = .ok (.putfield 24, 3) := by decide +kernel
theorem dX1_init_45 : decode cX1_init 45 = .ok (.aload_n 0, 1) := by decide +kernel
theorem dX1_init_46 : decode cX1_init 46 = .ok (.sipush 200, 3) := by decide +kernel
theorem dX1_init_49 : decode cX1_init 49 = .ok (.newarray .int, 2) := by decide +kernel
theorem dX1_init_51 : decode cX1_init 51 = .ok (.putfield 27, 3) := by decide +kernel
theorem dX1_init_54 : decode cX1_init 54 = .ok (.aload_n 0, 1) := by decide +kernel
theorem dX1_init_55 : decode cX1_init 55 = .ok (.sipush 200, 3) := by decide +kernel
theorem dX1_init_58 : decode cX1_init 58 = .ok (.newarray .int, 2) := by decide +kernel
theorem dX1_init_60 : decode cX1_init 60 = .ok (.putfield 30, 3) := by decide +kernel
theorem dX1_init_63 : decode cX1_init 63 = .ok (.aload_n 0, 1) := by decide +kernel
theorem dX1_init_64 : decode cX1_init 64 = .ok (.sipush 200, 3) := by decide +kernel
theorem dX1_init_67 : decode cX1_init 67 = .ok (.newarray .int, 2) := by decide +kernel
theorem dX1_init_69 : decode cX1_init 69 = .ok (.putfield 33, 3) := by decide +kernel
theorem dX1_init_72 : decode cX1_init 72 = .ok (.aload_n 0, 1) := by decide +kernel
theorem dX1_init_73 : decode cX1_init 73 = .ok (.sipush 200, 3) := by decide +kernel
theorem dX1_init_76 : decode cX1_init 76 = .ok (.newarray .int, 2) := by decide +kernel
theorem dX1_init_78 : decode cX1_init 78 = .ok (.putfield 36, 3) := by decide +kernel
theorem dX1_init_81 : decode cX1_init 81 = .ok (.aload_n 0, 1) := by decide +kernel
theorem dX1_init_82 : decode cX1_init 82 = .ok (.sipush 200, 3) := by decide +kernel
theorem dX1_init_85 : decode cX1_init 85 = .ok (.newarray .int, 2) := by decide +kernel
theorem dX1_init_87 : decode cX1_init 87 = .ok (.putfield 39, 3) := by decide +kernel
theorem dX1_init_90 : decode cX1_init 90 = .ok (.aload_n 0, 1) := by decide +kernel
theorem dX1_init_91 : decode cX1_init 91 = .ok (.sipush 200, 3) := by decide +kernel
theorem dX1_init_94 : decode cX1_init 94 = .ok (.newarray .int, 2) := by decide +kernel
theorem dX1_init_96 : decode cX1_init 96 = .ok (.putfield 42, 3) := by decide +kernel
theorem dX1_init_99 : decode cX1_init 99 = .ok (.return_, 1) := by decide +kernel
theorem lko_X1_3 : Cond.methodLink RX1 3 Lib.objectInit ∈ GW ∧ .instanceMethod Lib.objectInit ∈ GW ∧ .code Lib.objectInit ⟨#[0xb1]⟩ 1 none ∈ GW := ⟨gw_t1 33 (by decide +kernel) (by decide +kernel), gw_t1 26 (by decide +kernel) (by decide +kernel), gw_t1 27 (by decide +kernel) (by decide +kernel)⟩
set_option maxRecDepth 100000 in
theorem c_X1_init {z : ZZ} {ws : va_W} (h0 : Nat) : CtI z yX1_init cX1_init 1 1 11 1496 [.ref h0] ws [(h0, .inr (1, [.null, .null, .null, .null, .int 0, .int 0, .int 0, .null, .null, .null, .null, .null, .null, .int 0, .null, .int 0]))] (fun nw => [(h0, .inr (1, [.ref (nw 0), .ref (nw 1), .ref (nw 2), .ref (nw 3), .int 0, .int 0, .int 0, .ref (nw 4), .ref (nw 5), .ref (nw 6), .ref (nw 7), .ref (nw 8), .ref (nw 9), .int 0, .ref (nw 10), .int 0])), ((nw 0), .inl (z.2.2.1 0, 24, .inl (fun _ => 0))), ((nw 1), .inl (z.2.2.1 0, 24, .inl (fun _ => 0))), ((nw 2), .inl (z.2.2.1 0, 24, .inl (fun _ => 0))), ((nw 3), .inl (z.2.2.1 0, 24, .inl (fun _ => 0))), ((nw 4), .inl (z.2.2.1 0, 200, .inl (fun _ => 0))), ((nw 5), .inl (z.2.2.1 0, 200, .inl (fun _ => 0))), ((nw 6), .inl (z.2.2.1 0, 200, .inl (fun _ => 0))), ((nw 7), .inl (z.2.2.1 0, 200, .inl (fun _ => 0))), ((nw 8), .inl (z.2.2.1 0, 200, .inl (fun _ => 0))), ((nw 9), .inl (z.2.2.1 0, 200, .inl (fun _ => 0))), ((nw 10), .inl (z.2.2.1 0, 200, .inl (fun _ => 0)))]) := by
  refine CtI.of (by decide) rfl (Nat.le_of_ble_eq_true rfl) (fun ad x hC hR hni => ?_)
  show AL z x 1 _ 0 0 0 [(0, .ref h0)] [] (ws ++ [(h0, .inr (1, [.null, .null, .null, .null, .int 0, .int 0, .int 0, .null, .null, .null, .null, .null, .null, .int 0, .null, .int 0]))])
  refine al_aload_n (j := 0) hC rfl rfl dX1_init_0 ?_
  refine al_obj hC hR lko_X1_3 dX1_init_1 (by decide) (Nat.le_of_ble_eq_true rfl) ?_
  refine al_aload_n (j := 0) hC rfl rfl dX1_init_4 ?_
  refine al_bipush hC bi_24 dX1_init_5 ?_
  refine al_newa (b := ws) (k := 0) (n := 0) (v := 24) (l := [(h0, .inr (1, [.null, .null, .null, .null, .int 0, .int 0, .int 0, .null, .null, .null, .null, .null, .null, .int 0, .null, .int 0]))]) (a0 := (24, .inl (fun _ => 0))) (ty := .int) hC hR 0 gA_int rfl rfl (fun _ => rfl) (by decide) (by decide) (Nat.le_of_ble_eq_true rfl) ⟨Nat.le_of_ble_eq_true rfl, Nat.le_of_ble_eq_true rfl⟩ dX1_init_7 (fun q1 => ?_)
  show AL z x 1 _ 1 24 9 [(0, .ref h0)] [.ref q1, .ref h0] (ws ++ [(h0, .inr (1, [.null, .null, .null, .null, .int 0, .int 0, .int 0, .null, .null, .null, .null, .null, .null, .int 0, .null, .int 0])), (q1, .inl (z.2.2.1 0, 24, .inl (fun _ => 0)))])
  refine al_putF (b := ws) (v := .ref q1) (l := [(h0, .inr (1, [.null, .null, .null, .null, .int 0, .int 0, .int 0, .null, .null, .null, .null, .null, .null, .int 0, .null, .int 0])), (q1, .inl (z.2.2.1 0, 24, .inl (fun _ => 0)))]) (C := RX1) (T := TX1) (N := 16) (ci := 1) (j := 0) (ty := (.array .int)) (ty0 := tyX1) hC hni 0 dX1_init_9 inX1 tyX1_ok nmX1 rfl rfl (by decide) lf_X1_9 rfl rfl rfl (by decide +kernel) rfl rfl (Nat.le_of_ble_eq_true rfl) ?_
  show AL z x 1 _ 1 24 12 [(0, .ref h0)] [] (ws ++ [(h0, .inr (1, [.ref q1, .null, .null, .null, .int 0, .int 0, .int 0, .null, .null, .null, .null, .null, .null, .int 0, .null, .int 0])), (q1, .inl (z.2.2.1 0, 24, .inl (fun _ => 0)))])
  refine al_aload_n (j := 0) hC rfl rfl dX1_init_12 ?_
  refine al_bipush hC bi_24 dX1_init_13 ?_
  refine al_newa (b := ws) (k := 1) (n := 24) (v := 24) (l := [(h0, .inr (1, [.ref q1, .null, .null, .null, .int 0, .int 0, .int 0, .null, .null, .null, .null, .null, .null, .int 0, .null, .int 0])), (q1, .inl (z.2.2.1 0, 24, .inl (fun _ => 0)))]) (a0 := (24, .inl (fun _ => 0))) (ty := .int) hC hR 0 gA_int rfl rfl (fun _ => rfl) (by decide) (by decide) (Nat.le_of_ble_eq_true rfl) ⟨Nat.le_of_ble_eq_true rfl, Nat.le_of_ble_eq_true rfl⟩ dX1_init_15 (fun q2 => ?_)
  show AL z x 1 _ 2 48 17 [(0, .ref h0)] [.ref q2, .ref h0] (ws ++ [(h0, .inr (1, [.ref q1, .null, .null, .null, .int 0, .int 0, .int 0, .null, .null, .null, .null, .null, .null, .int 0, .null, .int 0])), (q1, .inl (z.2.2.1 0, 24, .inl (fun _ => 0))), (q2, .inl (z.2.2.1 0, 24, .inl (fun _ => 0)))])
  refine al_putF (b := ws) (v := .ref q2) (l := [(h0, .inr (1, [.ref q1, .null, .null, .null, .int 0, .int 0, .int 0, .null, .null, .null, .null, .null, .null, .int 0, .null, .int 0])), (q1, .inl (z.2.2.1 0, 24, .inl (fun _ => 0))), (q2, .inl (z.2.2.1 0, 24, .inl (fun _ => 0)))]) (C := RX1) (T := TX1) (N := 16) (ci := 1) (j := 1) (ty := (.array .int)) (ty0 := tyX1) hC hni 0 dX1_init_17 inX1 tyX1_ok nmX1 rfl rfl (by decide) lf_X1_15 rfl rfl rfl (by decide +kernel) rfl rfl (Nat.le_of_ble_eq_true rfl) ?_
  show AL z x 1 _ 2 48 20 [(0, .ref h0)] [] (ws ++ [(h0, .inr (1, [.ref q1, .ref q2, .null, .null, .int 0, .int 0, .int 0, .null, .null, .null, .null, .null, .null, .int 0, .null, .int 0])), (q1, .inl (z.2.2.1 0, 24, .inl (fun _ => 0))), (q2, .inl (z.2.2.1 0, 24, .inl (fun _ => 0)))])
  refine al_aload_n (j := 0) hC rfl rfl dX1_init_20 ?_
  refine al_bipush hC bi_24 dX1_init_21 ?_
  refine al_newa (b := ws) (k := 2) (n := 48) (v := 24) (l := [(h0, .inr (1, [.ref q1, .ref q2, .null, .null, .int 0, .int 0, .int 0, .null, .null, .null, .null, .null, .null, .int 0, .null, .int 0])), (q1, .inl (z.2.2.1 0, 24, .inl (fun _ => 0))), (q2, .inl (z.2.2.1 0, 24, .inl (fun _ => 0)))]) (a0 := (24, .inl (fun _ => 0))) (ty := .int) hC hR 0 gA_int rfl rfl (fun _ => rfl) (by decide) (by decide) (Nat.le_of_ble_eq_true rfl) ⟨Nat.le_of_ble_eq_true rfl, Nat.le_of_ble_eq_true rfl⟩ dX1_init_23 (fun q3 => ?_)
  show AL z x 1 _ 3 72 25 [(0, .ref h0)] [.ref q3, .ref h0] (ws ++ [(h0, .inr (1, [.ref q1, .ref q2, .null, .null, .int 0, .int 0, .int 0, .null, .null, .null, .null, .null, .null, .int 0, .null, .int 0])), (q1, .inl (z.2.2.1 0, 24, .inl (fun _ => 0))), (q2, .inl (z.2.2.1 0, 24, .inl (fun _ => 0))), (q3, .inl (z.2.2.1 0, 24, .inl (fun _ => 0)))])
  refine al_putF (b := ws) (v := .ref q3) (l := [(h0, .inr (1, [.ref q1, .ref q2, .null, .null, .int 0, .int 0, .int 0, .null, .null, .null, .null, .null, .null, .int 0, .null, .int 0])), (q1, .inl (z.2.2.1 0, 24, .inl (fun _ => 0))), (q2, .inl (z.2.2.1 0, 24, .inl (fun _ => 0))), (q3, .inl (z.2.2.1 0, 24, .inl (fun _ => 0)))]) (C := RX1) (T := TX1) (N := 16) (ci := 1) (j := 2) (ty := (.array .int)) (ty0 := tyX1) hC hni 0 dX1_init_25 inX1 tyX1_ok nmX1 rfl rfl (by decide) lf_X1_18 rfl rfl rfl (by decide +kernel) rfl rfl (Nat.le_of_ble_eq_true rfl) ?_
  show AL z x 1 _ 3 72 28 [(0, .ref h0)] [] (ws ++ [(h0, .inr (1, [.ref q1, .ref q2, .ref q3, .null, .int 0, .int 0, .int 0, .null, .null, .null, .null, .null, .null, .int 0, .null, .int 0])), (q1, .inl (z.2.2.1 0, 24, .inl (fun _ => 0))), (q2, .inl (z.2.2.1 0, 24, .inl (fun _ => 0))), (q3, .inl (z.2.2.1 0, 24, .inl (fun _ => 0)))])
  refine al_aload_n (j := 0) hC rfl rfl dX1_init_28 ?_
  refine al_bipush hC bi_24 dX1_init_29 ?_
  refine al_newa (b := ws) (k := 3) (n := 72) (v := 24) (l := [(h0, .inr (1, [.ref q1, .ref q2, .ref q3, .null, .int 0, .int 0, .int 0, .null, .null, .null, .null, .null, .null, .int 0, .null, .int 0])), (q1, .inl (z.2.2.1 0, 24, .inl (fun _ => 0))), (q2, .inl (z.2.2.1 0, 24, .inl (fun _ => 0))), (q3, .inl (z.2.2.1 0, 24, .inl (fun _ => 0)))]) (a0 := (24, .inl (fun _ => 0))) (ty := .int) hC hR 0 gA_int rfl rfl (fun _ => rfl) (by decide) (by decide) (Nat.le_of_ble_eq_true rfl) ⟨Nat.le_of_ble_eq_true rfl, Nat.le_of_ble_eq_true rfl⟩ dX1_init_31 (fun q4 => ?_)
  show AL z x 1 _ 4 96 33 [(0, .ref h0)] [.ref q4, .ref h0] (ws ++ [(h0, .inr (1, [.ref q1, .ref q2, .ref q3, .null, .int 0, .int 0, .int 0, .null, .null, .null, .null, .null, .null, .int 0, .null, .int 0])), (q1, .inl (z.2.2.1 0, 24, .inl (fun _ => 0))), (q2, .inl (z.2.2.1 0, 24, .inl (fun _ => 0))), (q3, .inl (z.2.2.1 0, 24, .inl (fun _ => 0))), (q4, .inl (z.2.2.1 0, 24, .inl (fun _ => 0)))])
  refine al_putF (b := ws) (v := .ref q4) (l := [(h0, .inr (1, [.ref q1, .ref q2, .ref q3, .null, .int 0, .int 0, .int 0, .null, .null, .null, .null, .null, .null, .int 0, .null, .int 0])), (q1, .inl (z.2.2.1 0, 24, .inl (fun _ => 0))), (q2, .inl (z.2.2.1 0, 24, .inl (fun _ => 0))), (q3, .inl (z.2.2.1 0, 24, .inl (fun _ => 0))), (q4, .inl (z.2.2.1 0, 24, .inl (fun _ => 0)))]) (C := RX1) (T := TX1) (N := 16) (ci := 1) (j := 3) (ty := (.array .int)) (ty0 := tyX1) hC hni 0 dX1_init_33 inX1 tyX1_ok nmX1 rfl rfl (by decide) lf_X1_21 rfl rfl rfl (by decide +kernel) rfl rfl (Nat.le_of_ble_eq_true rfl) ?_
  show AL z x 1 _ 4 96 36 [(0, .ref h0)] [] (ws ++ [(h0, .inr (1, [.ref q1, .ref q2, .ref q3, .ref q4, .int 0, .int 0, .int 0, .null, .null, .null, .null, .null, .null, .int 0, .null, .int 0])), (q1, .inl (z.2.2.1 0, 24, .inl (fun _ => 0))), (q2, .inl (z.2.2.1 0, 24, .inl (fun _ => 0))), (q3, .inl (z.2.2.1 0, 24, .inl (fun _ => 0))), (q4, .inl (z.2.2.1 0, 24, .inl (fun _ => 0)))])
  refine al_aload_n (j := 0) hC rfl rfl dX1_init_36 ?_
  refine al_sipush hC si_200 dX1_init_37 ?_
  refine al_newa (b := ws) (k := 4) (n := 96) (v := 200) (l := [(h0, .inr (1, [.ref q1, .ref q2, .ref q3, .ref q4, .int 0, .int 0, .int 0, .null, .null, .null, .null, .null, .null, .int 0, .null, .int 0])), (q1, .inl (z.2.2.1 0, 24, .inl (fun _ => 0))), (q2, .inl (z.2.2.1 0, 24, .inl (fun _ => 0))), (q3, .inl (z.2.2.1 0, 24, .inl (fun _ => 0))), (q4, .inl (z.2.2.1 0, 24, .inl (fun _ => 0)))]) (a0 := (200, .inl (fun _ => 0))) (ty := .int) hC hR 0 gA_int rfl rfl (fun _ => rfl) (by decide) (by decide) (Nat.le_of_ble_eq_true rfl) ⟨Nat.le_of_ble_eq_true rfl, Nat.le_of_ble_eq_true rfl⟩ dX1_init_40 (fun q5 => ?_)
  show AL z x 1 _ 5 296 42 [(0, .ref h0)] [.ref q5, .ref h0] (ws ++ [(h0, .inr (1, [.ref q1, .ref q2, .ref q3, .ref q4, .int 0, .int 0, .int 0, .null, .null, .null, .null, .null, .null, .int 0, .null, .int 0])), (q1, .inl (z.2.2.1 0, 24, .inl (fun _ => 0))), (q2, .inl (z.2.2.1 0, 24, .inl (fun _ => 0))), (q3, .inl (z.2.2.1 0, 24, .inl (fun _ => 0))), (q4, .inl (z.2.2.1 0, 24, .inl (fun _ => 0))), (q5, .inl (z.2.2.1 0, 200, .inl (fun _ => 0)))])
  refine al_putF (b := ws) (v := .ref q5) (l := [(h0, .inr (1, [.ref q1, .ref q2, .ref q3, .ref q4, .int 0, .int 0, .int 0, .null, .null, .null, .null, .null, .null, .int 0, .null, .int 0])), (q1, .inl (z.2.2.1 0, 24, .inl (fun _ => 0))), (q2, .inl (z.2.2.1 0, 24, .inl (fun _ => 0))), (q3, .inl (z.2.2.1 0, 24, .inl (fun _ => 0))), (q4, .inl (z.2.2.1 0, 24, .inl (fun _ => 0))), (q5, .inl (z.2.2.1 0, 200, .inl (fun _ => 0)))]) (C := RX1) (T := TX1) (N := 16) (ci := 1) (j := 7) (ty := (.array .int)) (ty0 := tyX1) hC hni 0 dX1_init_42 inX1 tyX1_ok nmX1 rfl rfl (by decide) lf_X1_24 rfl rfl rfl (by decide +kernel) rfl rfl (Nat.le_of_ble_eq_true rfl) ?_
  show AL z x 1 _ 5 296 45 [(0, .ref h0)] [] (ws ++ [(h0, .inr (1, [.ref q1, .ref q2, .ref q3, .ref q4, .int 0, .int 0, .int 0, .ref q5, .null, .null, .null, .null, .null, .int 0, .null, .int 0])), (q1, .inl (z.2.2.1 0, 24, .inl (fun _ => 0))), (q2, .inl (z.2.2.1 0, 24, .inl (fun _ => 0))), (q3, .inl (z.2.2.1 0, 24, .inl (fun _ => 0))), (q4, .inl (z.2.2.1 0, 24, .inl (fun _ => 0))), (q5, .inl (z.2.2.1 0, 200, .inl (fun _ => 0)))])
  refine al_aload_n (j := 0) hC rfl rfl dX1_init_45 ?_
  refine al_sipush hC si_200 dX1_init_46 ?_
  refine al_newa (b := ws) (k := 5) (n := 296) (v := 200) (l := [(h0, .inr (1, [.ref q1, .ref q2, .ref q3, .ref q4, .int 0, .int 0, .int 0, .ref q5, .null, .null, .null, .null, .null, .int 0, .null, .int 0])), (q1, .inl (z.2.2.1 0, 24, .inl (fun _ => 0))), (q2, .inl (z.2.2.1 0, 24, .inl (fun _ => 0))), (q3, .inl (z.2.2.1 0, 24, .inl (fun _ => 0))), (q4, .inl (z.2.2.1 0, 24, .inl (fun _ => 0))), (q5, .inl (z.2.2.1 0, 200, .inl (fun _ => 0)))]) (a0 := (200, .inl (fun _ => 0))) (ty := .int) hC hR 0 gA_int rfl rfl (fun _ => rfl) (by decide) (by decide) (Nat.le_of_ble_eq_true rfl) ⟨Nat.le_of_ble_eq_true rfl, Nat.le_of_ble_eq_true rfl⟩ dX1_init_49 (fun q6 => ?_)
  show AL z x 1 _ 6 496 51 [(0, .ref h0)] [.ref q6, .ref h0] (ws ++ [(h0, .inr (1, [.ref q1, .ref q2, .ref q3, .ref q4, .int 0, .int 0, .int 0, .ref q5, .null, .null, .null, .null, .null, .int 0, .null, .int 0])), (q1, .inl (z.2.2.1 0, 24, .inl (fun _ => 0))), (q2, .inl (z.2.2.1 0, 24, .inl (fun _ => 0))), (q3, .inl (z.2.2.1 0, 24, .inl (fun _ => 0))), (q4, .inl (z.2.2.1 0, 24, .inl (fun _ => 0))), (q5, .inl (z.2.2.1 0, 200, .inl (fun _ => 0))), (q6, .inl (z.2.2.1 0, 200, .inl (fun _ => 0)))])
  refine al_putF (b := ws) (v := .ref q6) (l := [(h0, .inr (1, [.ref q1, .ref q2, .ref q3, .ref q4, .int 0, .int 0, .int 0, .ref q5, .null, .null, .null, .null, .null, .int 0, .null, .int 0])), (q1, .inl (z.2.2.1 0, 24, .inl (fun _ => 0))), (q2, .inl (z.2.2.1 0, 24, .inl (fun _ => 0))), (q3, .inl (z.2.2.1 0, 24, .inl (fun _ => 0))), (q4, .inl (z.2.2.1 0, 24, .inl (fun _ => 0))), (q5, .inl (z.2.2.1 0, 200, .inl (fun _ => 0))), (q6, .inl (z.2.2.1 0, 200, .inl (fun _ => 0)))]) (C := RX1) (T := TX1) (N := 16) (ci := 1) (j := 8) (ty := (.array .int)) (ty0 := tyX1) hC hni 0 dX1_init_51 inX1 tyX1_ok nmX1 rfl rfl (by decide) lf_X1_27 rfl rfl rfl (by decide +kernel) rfl rfl (Nat.le_of_ble_eq_true rfl) ?_
  show AL z x 1 _ 6 496 54 [(0, .ref h0)] [] (ws ++ [(h0, .inr (1, [.ref q1, .ref q2, .ref q3, .ref q4, .int 0, .int 0, .int 0, .ref q5, .ref q6, .null, .null, .null, .null, .int 0, .null, .int 0])), (q1, .inl (z.2.2.1 0, 24, .inl (fun _ => 0))), (q2, .inl (z.2.2.1 0, 24, .inl (fun _ => 0))), (q3, .inl (z.2.2.1 0, 24, .inl (fun _ => 0))), (q4, .inl (z.2.2.1 0, 24, .inl (fun _ => 0))), (q5, .inl (z.2.2.1 0, 200, .inl (fun _ => 0))), (q6, .inl (z.2.2.1 0, 200, .inl (fun _ => 0)))])
  refine al_aload_n (j := 0) hC rfl rfl dX1_init_54 ?_
  refine al_sipush hC si_200 dX1_init_55 ?_
  refine al_newa (b := ws) (k := 6) (n := 496) (v := 200) (l := [(h0, .inr (1, [.ref q1, .ref q2, .ref q3, .ref q4, .int 0, .int 0, .int 0, .ref q5, .ref q6, .null, .null, .null, .null, .int 0, .null, .int 0])), (q1, .inl (z.2.2.1 0, 24, .inl (fun _ => 0))), (q2, .inl (z.2.2.1 0, 24, .inl (fun _ => 0))), (q3, .inl (z.2.2.1 0, 24, .inl (fun _ => 0))), (q4, .inl (z.2.2.1 0, 24, .inl (fun _ => 0))), (q5, .inl (z.2.2.1 0, 200, .inl (fun _ => 0))), (q6, .inl (z.2.2.1 0, 200, .inl (fun _ => 0)))]) (a0 := (200, .inl (fun _ => 0))) (ty := .int) hC hR 0 gA_int rfl rfl (fun _ => rfl) (by decide) (by decide) (Nat.le_of_ble_eq_true rfl) ⟨Nat.le_of_ble_eq_true rfl, Nat.le_of_ble_eq_true rfl⟩ dX1_init_58 (fun q7 => ?_)
  show AL z x 1 _ 7 696 60 [(0, .ref h0)] [.ref q7, .ref h0] (ws ++ [(h0, .inr (1, [.ref q1, .ref q2, .ref q3, .ref q4, .int 0, .int 0, .int 0, .ref q5, .ref q6, .null, .null, .null, .null, .int 0, .null, .int 0])), (q1, .inl (z.2.2.1 0, 24, .inl (fun _ => 0))), (q2, .inl (z.2.2.1 0, 24, .inl (fun _ => 0))), (q3, .inl (z.2.2.1 0, 24, .inl (fun _ => 0))), (q4, .inl (z.2.2.1 0, 24, .inl (fun _ => 0))), (q5, .inl (z.2.2.1 0, 200, .inl (fun _ => 0))), (q6, .inl (z.2.2.1 0, 200, .inl (fun _ => 0))), (q7, .inl (z.2.2.1 0, 200, .inl (fun _ => 0)))])
  refine al_putF (b := ws) (v := .ref q7) (l := [(h0, .inr (1, [.ref q1, .ref q2, .ref q3, .ref q4, .int 0, .int 0, .int 0, .ref q5, .ref q6, .null, .null, .null, .null, .int 0, .null, .int 0])), (q1, .inl (z.2.2.1 0, 24, .inl (fun _ => 0))), (q2, .inl (z.2.2.1 0, 24, .inl (fun _ => 0))), (q3, .inl (z.2.2.1 0, 24, .inl (fun _ => 0))), (q4, .inl (z.2.2.1 0, 24, .inl (fun _ => 0))), (q5, .inl (z.2.2.1 0, 200, .inl (fun _ => 0))), (q6, .inl (z.2.2.1 0, 200, .inl (fun _ => 0))), (q7, .inl (z.2.2.1 0, 200, .inl (fun _ => 0)))]) (C := RX1) (T := TX1) (N := 16) (ci := 1) (j := 9) (ty := (.array .int)) (ty0 := tyX1) hC hni 0 dX1_init_60 inX1 tyX1_ok nmX1 rfl rfl (by decide) lf_X1_30 rfl rfl rfl (by decide +kernel) rfl rfl (Nat.le_of_ble_eq_true rfl) ?_
  show AL z x 1 _ 7 696 63 [(0, .ref h0)] [] (ws ++ [(h0, .inr (1, [.ref q1, .ref q2, .ref q3, .ref q4, .int 0, .int 0, .int 0, .ref q5, .ref q6, .ref q7, .null, .null, .null, .int 0, .null, .int 0])), (q1, .inl (z.2.2.1 0, 24, .inl (fun _ => 0))), (q2, .inl (z.2.2.1 0, 24, .inl (fun _ => 0))), (q3, .inl (z.2.2.1 0, 24, .inl (fun _ => 0))), (q4, .inl (z.2.2.1 0, 24, .inl (fun _ => 0))), (q5, .inl (z.2.2.1 0, 200, .inl (fun _ => 0))), (q6, .inl (z.2.2.1 0, 200, .inl (fun _ => 0))), (q7, .inl (z.2.2.1 0, 200, .inl (fun _ => 0)))])
  refine al_aload_n (j := 0) hC rfl rfl dX1_init_63 ?_
  refine al_sipush hC si_200 dX1_init_64 ?_
  refine al_newa (b := ws) (k := 7) (n := 696) (v := 200) (l := [(h0, .inr (1, [.ref q1, .ref q2, .ref q3, .ref q4, .int 0, .int 0, .int 0, .ref q5, .ref q6, .ref q7, .null, .null, .null, .int 0, .null, .int 0])), (q1, .inl (z.2.2.1 0, 24, .inl (fun _ => 0))), (q2, .inl (z.2.2.1 0, 24, .inl (fun _ => 0))), (q3, .inl (z.2.2.1 0, 24, .inl (fun _ => 0))), (q4, .inl (z.2.2.1 0, 24, .inl (fun _ => 0))), (q5, .inl (z.2.2.1 0, 200, .inl (fun _ => 0))), (q6, .inl (z.2.2.1 0, 200, .inl (fun _ => 0))), (q7, .inl (z.2.2.1 0, 200, .inl (fun _ => 0)))]) (a0 := (200, .inl (fun _ => 0))) (ty := .int) hC hR 0 gA_int rfl rfl (fun _ => rfl) (by decide) (by decide) (Nat.le_of_ble_eq_true rfl) ⟨Nat.le_of_ble_eq_true rfl, Nat.le_of_ble_eq_true rfl⟩ dX1_init_67 (fun q8 => ?_)
  show AL z x 1 _ 8 896 69 [(0, .ref h0)] [.ref q8, .ref h0] (ws ++ [(h0, .inr (1, [.ref q1, .ref q2, .ref q3, .ref q4, .int 0, .int 0, .int 0, .ref q5, .ref q6, .ref q7, .null, .null, .null, .int 0, .null, .int 0])), (q1, .inl (z.2.2.1 0, 24, .inl (fun _ => 0))), (q2, .inl (z.2.2.1 0, 24, .inl (fun _ => 0))), (q3, .inl (z.2.2.1 0, 24, .inl (fun _ => 0))), (q4, .inl (z.2.2.1 0, 24, .inl (fun _ => 0))), (q5, .inl (z.2.2.1 0, 200, .inl (fun _ => 0))), (q6, .inl (z.2.2.1 0, 200, .inl (fun _ => 0))), (q7, .inl (z.2.2.1 0, 200, .inl (fun _ => 0))), (q8, .inl (z.2.2.1 0, 200, .inl (fun _ => 0)))])
  refine al_putF (b := ws) (v := .ref q8) (l := [(h0, .inr (1, [.ref q1, .ref q2, .ref q3, .ref q4, .int 0, .int 0, .int 0, .ref q5, .ref q6, .ref q7, .null, .null, .null, .int 0, .null, .int 0])), (q1, .inl (z.2.2.1 0, 24, .inl (fun _ => 0))), (q2, .inl (z.2.2.1 0, 24, .inl (fun _ => 0))), (q3, .inl (z.2.2.1 0, 24, .inl (fun _ => 0))), (q4, .inl (z.2.2.1 0, 24, .inl (fun _ => 0))), (q5, .inl (z.2.2.1 0, 200, .inl (fun _ => 0))), (q6, .inl (z.2.2.1 0, 200, .inl (fun _ => 0))), (q7, .inl (z.2.2.1 0, 200, .inl (fun _ => 0))), (q8, .inl (z.2.2.1 0, 200, .inl (fun _ => 0)))]) (C := RX1) (T := TX1) (N := 16) (ci := 1) (j := 10) (ty := (.array .int)) (ty0 := tyX1) hC hni 0 dX1_init_69 inX1 tyX1_ok nmX1 rfl rfl (by decide) lf_X1_33 rfl rfl rfl (by decide +kernel) rfl rfl (Nat.le_of_ble_eq_true rfl) ?_
  show AL z x 1 _ 8 896 72 [(0, .ref h0)] [] (ws ++ [(h0, .inr (1, [.ref q1, .ref q2, .ref q3, .ref q4, .int 0, .int 0, .int 0, .ref q5, .ref q6, .ref q7, .ref q8, .null, .null, .int 0, .null, .int 0])), (q1, .inl (z.2.2.1 0, 24, .inl (fun _ => 0))), (q2, .inl (z.2.2.1 0, 24, .inl (fun _ => 0))), (q3, .inl (z.2.2.1 0, 24, .inl (fun _ => 0))), (q4, .inl (z.2.2.1 0, 24, .inl (fun _ => 0))), (q5, .inl (z.2.2.1 0, 200, .inl (fun _ => 0))), (q6, .inl (z.2.2.1 0, 200, .inl (fun _ => 0))), (q7, .inl (z.2.2.1 0, 200, .inl (fun _ => 0))), (q8, .inl (z.2.2.1 0, 200, .inl (fun _ => 0)))])
  refine al_aload_n (j := 0) hC rfl rfl dX1_init_72 ?_
  refine al_sipush hC si_200 dX1_init_73 ?_
  refine al_newa (b := ws) (k := 8) (n := 896) (v := 200) (l := [(h0, .inr (1, [.ref q1, .ref q2, .ref q3, .ref q4, .int 0, .int 0, .int 0, .ref q5, .ref q6, .ref q7, .ref q8, .null, .null, .int 0, .null, .int 0])), (q1, .inl (z.2.2.1 0, 24, .inl (fun _ => 0))), (q2, .inl (z.2.2.1 0, 24, .inl (fun _ => 0))), (q3, .inl (z.2.2.1 0, 24, .inl (fun _ => 0))), (q4, .inl (z.2.2.1 0, 24, .inl (fun _ => 0))), (q5, .inl (z.2.2.1 0, 200, .inl (fun _ => 0))), (q6, .inl (z.2.2.1 0, 200, .inl (fun _ => 0))), (q7, .inl (z.2.2.1 0, 200, .inl (fun _ => 0))), (q8, .inl (z.2.2.1 0, 200, .inl (fun _ => 0)))]) (a0 := (200, .inl (fun _ => 0))) (ty := .int) hC hR 0 gA_int rfl rfl (fun _ => rfl) (by decide) (by decide) (Nat.le_of_ble_eq_true rfl) ⟨Nat.le_of_ble_eq_true rfl, Nat.le_of_ble_eq_true rfl⟩ dX1_init_76 (fun q9 => ?_)
  show AL z x 1 _ 9 1096 78 [(0, .ref h0)] [.ref q9, .ref h0] (ws ++ [(h0, .inr (1, [.ref q1, .ref q2, .ref q3, .ref q4, .int 0, .int 0, .int 0, .ref q5, .ref q6, .ref q7, .ref q8, .null, .null, .int 0, .null, .int 0])), (q1, .inl (z.2.2.1 0, 24, .inl (fun _ => 0))), (q2, .inl (z.2.2.1 0, 24, .inl (fun _ => 0))), (q3, .inl (z.2.2.1 0, 24, .inl (fun _ => 0))), (q4, .inl (z.2.2.1 0, 24, .inl (fun _ => 0))), (q5, .inl (z.2.2.1 0, 200, .inl (fun _ => 0))), (q6, .inl (z.2.2.1 0, 200, .inl (fun _ => 0))), (q7, .inl (z.2.2.1 0, 200, .inl (fun _ => 0))), (q8, .inl (z.2.2.1 0, 200, .inl (fun _ => 0))), (q9, .inl (z.2.2.1 0, 200, .inl (fun _ => 0)))])
  refine al_putF (b := ws) (v := .ref q9) (l := [(h0, .inr (1, [.ref q1, .ref q2, .ref q3, .ref q4, .int 0, .int 0, .int 0, .ref q5, .ref q6, .ref q7, .ref q8, .null, .null, .int 0, .null, .int 0])), (q1, .inl (z.2.2.1 0, 24, .inl (fun _ => 0))), (q2, .inl (z.2.2.1 0, 24, .inl (fun _ => 0))), (q3, .inl (z.2.2.1 0, 24, .inl (fun _ => 0))), (q4, .inl (z.2.2.1 0, 24, .inl (fun _ => 0))), (q5, .inl (z.2.2.1 0, 200, .inl (fun _ => 0))), (q6, .inl (z.2.2.1 0, 200, .inl (fun _ => 0))), (q7, .inl (z.2.2.1 0, 200, .inl (fun _ => 0))), (q8, .inl (z.2.2.1 0, 200, .inl (fun _ => 0))), (q9, .inl (z.2.2.1 0, 200, .inl (fun _ => 0)))]) (C := RX1) (T := TX1) (N := 16) (ci := 1) (j := 11) (ty := (.array .int)) (ty0 := tyX1) hC hni 0 dX1_init_78 inX1 tyX1_ok nmX1 rfl rfl (by decide) lf_X1_36 rfl rfl rfl (by decide +kernel) rfl rfl (Nat.le_of_ble_eq_true rfl) ?_
  show AL z x 1 _ 9 1096 81 [(0, .ref h0)] [] (ws ++ [(h0, .inr (1, [.ref q1, .ref q2, .ref q3, .ref q4, .int 0, .int 0, .int 0, .ref q5, .ref q6, .ref q7, .ref q8, .ref q9, .null, .int 0, .null, .int 0])), (q1, .inl (z.2.2.1 0, 24, .inl (fun _ => 0))), (q2, .inl (z.2.2.1 0, 24, .inl (fun _ => 0))), (q3, .inl (z.2.2.1 0, 24, .inl (fun _ => 0))), (q4, .inl (z.2.2.1 0, 24, .inl (fun _ => 0))), (q5, .inl (z.2.2.1 0, 200, .inl (fun _ => 0))), (q6, .inl (z.2.2.1 0, 200, .inl (fun _ => 0))), (q7, .inl (z.2.2.1 0, 200, .inl (fun _ => 0))), (q8, .inl (z.2.2.1 0, 200, .inl (fun _ => 0))), (q9, .inl (z.2.2.1 0, 200, .inl (fun _ => 0)))])
  refine al_aload_n (j := 0) hC rfl rfl dX1_init_81 ?_
  refine al_sipush hC si_200 dX1_init_82 ?_
  refine al_newa (b := ws) (k := 9) (n := 1096) (v := 200) (l := [(h0, .inr (1, [.ref q1, .ref q2, .ref q3, .ref q4, .int 0, .int 0, .int 0, .ref q5, .ref q6, .ref q7, .ref q8, .ref q9, .null, .int 0, .null, .int 0])), (q1, .inl (z.2.2.1 0, 24, .inl (fun _ => 0))), (q2, .inl (z.2.2.1 0, 24, .inl (fun _ => 0))), (q3, .inl (z.2.2.1 0, 24, .inl (fun _ => 0))), (q4, .inl (z.2.2.1 0, 24, .inl (fun _ => 0))), (q5, .inl (z.2.2.1 0, 200, .inl (fun _ => 0))), (q6, .inl (z.2.2.1 0, 200, .inl (fun _ => 0))), (q7, .inl (z.2.2.1 0, 200, .inl (fun _ => 0))), (q8, .inl (z.2.2.1 0, 200, .inl (fun _ => 0))), (q9, .inl (z.2.2.1 0, 200, .inl (fun _ => 0)))]) (a0 := (200, .inl (fun _ => 0))) (ty := .int) hC hR 0 gA_int rfl rfl (fun _ => rfl) (by decide) (by decide) (Nat.le_of_ble_eq_true rfl) ⟨Nat.le_of_ble_eq_true rfl, Nat.le_of_ble_eq_true rfl⟩ dX1_init_85 (fun q10 => ?_)
  show AL z x 1 _ 10 1296 87 [(0, .ref h0)] [.ref q10, .ref h0] (ws ++ [(h0, .inr (1, [.ref q1, .ref q2, .ref q3, .ref q4, .int 0, .int 0, .int 0, .ref q5, .ref q6, .ref q7, .ref q8, .ref q9, .null, .int 0, .null, .int 0])), (q1, .inl (z.2.2.1 0, 24, .inl (fun _ => 0))), (q2, .inl (z.2.2.1 0, 24, .inl (fun _ => 0))), (q3, .inl (z.2.2.1 0, 24, .inl (fun _ => 0))), (q4, .inl (z.2.2.1 0, 24, .inl (fun _ => 0))), (q5, .inl (z.2.2.1 0, 200, .inl (fun _ => 0))), (q6, .inl (z.2.2.1 0, 200, .inl (fun _ => 0))), (q7, .inl (z.2.2.1 0, 200, .inl (fun _ => 0))), (q8, .inl (z.2.2.1 0, 200, .inl (fun _ => 0))), (q9, .inl (z.2.2.1 0, 200, .inl (fun _ => 0))), (q10, .inl (z.2.2.1 0, 200, .inl (fun _ => 0)))])
  refine al_putF (b := ws) (v := .ref q10) (l := [(h0, .inr (1, [.ref q1, .ref q2, .ref q3, .ref q4, .int 0, .int 0, .int 0, .ref q5, .ref q6, .ref q7, .ref q8, .ref q9, .null, .int 0, .null, .int 0])), (q1, .inl (z.2.2.1 0, 24, .inl (fun _ => 0))), (q2, .inl (z.2.2.1 0, 24, .inl (fun _ => 0))), (q3, .inl (z.2.2.1 0, 24, .inl (fun _ => 0))), (q4, .inl (z.2.2.1 0, 24, .inl (fun _ => 0))), (q5, .inl (z.2.2.1 0, 200, .inl (fun _ => 0))), (q6, .inl (z.2.2.1 0, 200, .inl (fun _ => 0))), (q7, .inl (z.2.2.1 0, 200, .inl (fun _ => 0))), (q8, .inl (z.2.2.1 0, 200, .inl (fun _ => 0))), (q9, .inl (z.2.2.1 0, 200, .inl (fun _ => 0))), (q10, .inl (z.2.2.1 0, 200, .inl (fun _ => 0)))]) (C := RX1) (T := TX1) (N := 16) (ci := 1) (j := 12) (ty := (.array .int)) (ty0 := tyX1) hC hni 0 dX1_init_87 inX1 tyX1_ok nmX1 rfl rfl (by decide) lf_X1_39 rfl rfl rfl (by decide +kernel) rfl rfl (Nat.le_of_ble_eq_true rfl) ?_
  show AL z x 1 _ 10 1296 90 [(0, .ref h0)] [] (ws ++ [(h0, .inr (1, [.ref q1, .ref q2, .ref q3, .ref q4, .int 0, .int 0, .int 0, .ref q5, .ref q6, .ref q7, .ref q8, .ref q9, .ref q10, .int 0, .null, .int 0])), (q1, .inl (z.2.2.1 0, 24, .inl (fun _ => 0))), (q2, .inl (z.2.2.1 0, 24, .inl (fun _ => 0))), (q3, .inl (z.2.2.1 0, 24, .inl (fun _ => 0))), (q4, .inl (z.2.2.1 0, 24, .inl (fun _ => 0))), (q5, .inl (z.2.2.1 0, 200, .inl (fun _ => 0))), (q6, .inl (z.2.2.1 0, 200, .inl (fun _ => 0))), (q7, .inl (z.2.2.1 0, 200, .inl (fun _ => 0))), (q8, .inl (z.2.2.1 0, 200, .inl (fun _ => 0))), (q9, .inl (z.2.2.1 0, 200, .inl (fun _ => 0))), (q10, .inl (z.2.2.1 0, 200, .inl (fun _ => 0)))])
  refine al_aload_n (j := 0) hC rfl rfl dX1_init_90 ?_
  refine al_sipush hC si_200 dX1_init_91 ?_
  refine al_newa (b := ws) (k := 10) (n := 1296) (v := 200) (l := [(h0, .inr (1, [.ref q1, .ref q2, .ref q3, .ref q4, .int 0, .int 0, .int 0, .ref q5, .ref q6, .ref q7, .ref q8, .ref q9, .ref q10, .int 0, .null, .int 0])), (q1, .inl (z.2.2.1 0, 24, .inl (fun _ => 0))), (q2, .inl (z.2.2.1 0, 24, .inl (fun _ => 0))), (q3, .inl (z.2.2.1 0, 24, .inl (fun _ => 0))), (q4, .inl (z.2.2.1 0, 24, .inl (fun _ => 0))), (q5, .inl (z.2.2.1 0, 200, .inl (fun _ => 0))), (q6, .inl (z.2.2.1 0, 200, .inl (fun _ => 0))), (q7, .inl (z.2.2.1 0, 200, .inl (fun _ => 0))), (q8, .inl (z.2.2.1 0, 200, .inl (fun _ => 0))), (q9, .inl (z.2.2.1 0, 200, .inl (fun _ => 0))), (q10, .inl (z.2.2.1 0, 200, .inl (fun _ => 0)))]) (a0 := (200, .inl (fun _ => 0))) (ty := .int) hC hR 0 gA_int rfl rfl (fun _ => rfl) (by decide) (by decide) (Nat.le_of_ble_eq_true rfl) ⟨Nat.le_of_ble_eq_true rfl, Nat.le_of_ble_eq_true rfl⟩ dX1_init_94 (fun q11 => ?_)
  show AL z x 1 _ 11 1496 96 [(0, .ref h0)] [.ref q11, .ref h0] (ws ++ [(h0, .inr (1, [.ref q1, .ref q2, .ref q3, .ref q4, .int 0, .int 0, .int 0, .ref q5, .ref q6, .ref q7, .ref q8, .ref q9, .ref q10, .int 0, .null, .int 0])), (q1, .inl (z.2.2.1 0, 24, .inl (fun _ => 0))), (q2, .inl (z.2.2.1 0, 24, .inl (fun _ => 0))), (q3, .inl (z.2.2.1 0, 24, .inl (fun _ => 0))), (q4, .inl (z.2.2.1 0, 24, .inl (fun _ => 0))), (q5, .inl (z.2.2.1 0, 200, .inl (fun _ => 0))), (q6, .inl (z.2.2.1 0, 200, .inl (fun _ => 0))), (q7, .inl (z.2.2.1 0, 200, .inl (fun _ => 0))), (q8, .inl (z.2.2.1 0, 200, .inl (fun _ => 0))), (q9, .inl (z.2.2.1 0, 200, .inl (fun _ => 0))), (q10, .inl (z.2.2.1 0, 200, .inl (fun _ => 0))), (q11, .inl (z.2.2.1 0, 200, .inl (fun _ => 0)))])
  refine al_putF (b := ws) (v := .ref q11) (l := [(h0, .inr (1, [.ref q1, .ref q2, .ref q3, .ref q4, .int 0, .int 0, .int 0, .ref q5, .ref q6, .ref q7, .ref q8, .ref q9, .ref q10, .int 0, .null, .int 0])), (q1, .inl (z.2.2.1 0, 24, .inl (fun _ => 0))), (q2, .inl (z.2.2.1 0, 24, .inl (fun _ => 0))), (q3, .inl (z.2.2.1 0, 24, .inl (fun _ => 0))), (q4, .inl (z.2.2.1 0, 24, .inl (fun _ => 0))), (q5, .inl (z.2.2.1 0, 200, .inl (fun _ => 0))), (q6, .inl (z.2.2.1 0, 200, .inl (fun _ => 0))), (q7, .inl (z.2.2.1 0, 200, .inl (fun _ => 0))), (q8, .inl (z.2.2.1 0, 200, .inl (fun _ => 0))), (q9, .inl (z.2.2.1 0, 200, .inl (fun _ => 0))), (q10, .inl (z.2.2.1 0, 200, .inl (fun _ => 0))), (q11, .inl (z.2.2.1 0, 200, .inl (fun _ => 0)))]) (C := RX1) (T := TX1) (N := 16) (ci := 1) (j := 14) (ty := (.array .int)) (ty0 := tyX1) hC hni 0 dX1_init_96 inX1 tyX1_ok nmX1 rfl rfl (by decide) lf_X1_42 rfl rfl rfl (by decide +kernel) rfl rfl (Nat.le_of_ble_eq_true rfl) ?_
  show AL z x 1 _ 11 1496 99 [(0, .ref h0)] [] (ws ++ [(h0, .inr (1, [.ref q1, .ref q2, .ref q3, .ref q4, .int 0, .int 0, .int 0, .ref q5, .ref q6, .ref q7, .ref q8, .ref q9, .ref q10, .int 0, .ref q11, .int 0])), (q1, .inl (z.2.2.1 0, 24, .inl (fun _ => 0))), (q2, .inl (z.2.2.1 0, 24, .inl (fun _ => 0))), (q3, .inl (z.2.2.1 0, 24, .inl (fun _ => 0))), (q4, .inl (z.2.2.1 0, 24, .inl (fun _ => 0))), (q5, .inl (z.2.2.1 0, 200, .inl (fun _ => 0))), (q6, .inl (z.2.2.1 0, 200, .inl (fun _ => 0))), (q7, .inl (z.2.2.1 0, 200, .inl (fun _ => 0))), (q8, .inl (z.2.2.1 0, 200, .inl (fun _ => 0))), (q9, .inl (z.2.2.1 0, 200, .inl (fun _ => 0))), (q10, .inl (z.2.2.1 0, 200, .inl (fun _ => 0))), (q11, .inl (z.2.2.1 0, 200, .inl (fun _ => 0)))])
  exact al_ret (b := ws) (k := 11) (n := 1496) (mc := 11) (ms := 1496) (post := fun nw => [(h0, .inr (1, [.ref (nw 0), .ref (nw 1), .ref (nw 2), .ref (nw 3), .int 0, .int 0, .int 0, .ref (nw 4), .ref (nw 5), .ref (nw 6), .ref (nw 7), .ref (nw 8), .ref (nw 9), .int 0, .ref (nw 10), .int 0])), ((nw 0), .inl (z.2.2.1 0, 24, .inl (fun _ => 0))), ((nw 1), .inl (z.2.2.1 0, 24, .inl (fun _ => 0))), ((nw 2), .inl (z.2.2.1 0, 24, .inl (fun _ => 0))), ((nw 3), .inl (z.2.2.1 0, 24, .inl (fun _ => 0))), ((nw 4), .inl (z.2.2.1 0, 200, .inl (fun _ => 0))), ((nw 5), .inl (z.2.2.1 0, 200, .inl (fun _ => 0))), ((nw 6), .inl (z.2.2.1 0, 200, .inl (fun _ => 0))), ((nw 7), .inl (z.2.2.1 0, 200, .inl (fun _ => 0))), ((nw 8), .inl (z.2.2.1 0, 200, .inl (fun _ => 0))), ((nw 9), .inl (z.2.2.1 0, 200, .inl (fun _ => 0))), ((nw 10), .inl (z.2.2.1 0, 200, .inl (fun _ => 0)))]) (l := [(h0, .inr (1, [.ref q1, .ref q2, .ref q3, .ref q4, .int 0, .int 0, .int 0, .ref q5, .ref q6, .ref q7, .ref q8, .ref q9, .ref q10, .int 0, .ref q11, .int 0])), (q1, .inl (z.2.2.1 0, 24, .inl (fun _ => 0))), (q2, .inl (z.2.2.1 0, 24, .inl (fun _ => 0))), (q3, .inl (z.2.2.1 0, 24, .inl (fun _ => 0))), (q4, .inl (z.2.2.1 0, 24, .inl (fun _ => 0))), (q5, .inl (z.2.2.1 0, 200, .inl (fun _ => 0))), (q6, .inl (z.2.2.1 0, 200, .inl (fun _ => 0))), (q7, .inl (z.2.2.1 0, 200, .inl (fun _ => 0))), (q8, .inl (z.2.2.1 0, 200, .inl (fun _ => 0))), (q9, .inl (z.2.2.1 0, 200, .inl (fun _ => 0))), (q10, .inl (z.2.2.1 0, 200, .inl (fun _ => 0))), (q11, .inl (z.2.2.1 0, 200, .inl (fun _ => 0)))]) hC (fun k => (q1 :: q2 :: q3 :: q4 :: q5 :: q6 :: q7 :: q8 :: q9 :: q10 :: q11 :: [] : List Nat).getD k 0) rfl dX1_init_99 ⟨Nat.le_of_ble_eq_true rfl, Nat.le_of_ble_eq_true rfl⟩
theorem dX4_init_0 : decode cX4_init 0 = .ok (.aload_n 0, 1) := by decide +kernel
theorem dX4_init_1 : decode cX4_init 1 = .ok (.invokespecial 3, 3) := by decide +kernel
theorem dX4_init_4 : decode cX4_init 4 = .ok (.aload_n 0, 1) := by decide +kernel
theorem dX4_init_5 : decode cX4_init 5 = .ok (.bipush 24, 2) := by decide +kernel
theorem dX4_init_7 : decode cX4_init 7 = .ok (.newarray .int, 2) := by decide +kernel
theorem dX4_init_9 : decode cX4_init 9 = .ok (.putfield 9, 3) := by decide +kernel
theorem dX4_init_12 : decode cX4_init 12 = .ok (.aload_n 0, 1) := by decide +kernel
theorem dX4_init_13 : decode cX4_init 13 = .ok (.bipush 24, 2) := by decide +kernel
theorem dX4_init_15 : decode cX4_init 15 = .ok (.newarray .int, 2) := by decide +kernel
theorem dX4_init_17 : decode cX4_init 17 = .ok (.putfield 15, 3) := by decide +kernel
theorem dX4_init_20 : decode cX4_init 20 = .ok (.aload_n 0, 1) := by decide +kernel
theorem dX4_init_21 : decode cX4_init 21 = .ok (.bipush 24, 2) := by decide +kernel
theorem dX4_init_23 : decode cX4_init 23 = .ok (.newarray .int, 2) := by decide +kernel
theorem dX4_init_25 : decode cX4_init 25 = .ok (.putfield 18, 3) := by decide +kernel
theorem dX4_init_28 : decode cX4_init 28 = .ok (.aload_n 0, 1) := by decide +kernel
theorem dX4_init_29 : decode cX4_init 29 = .ok (.sipush 400, 3) := by decide +kernel
theorem dX4_init_32 : decode cX4_init 32 = .ok (.newarray .int, 2) := by decide +kernel
theorem dX4_init_34 : decode cX4_init 34 = .ok (.putfield 21, 3) := by decide +kernel
theorem dX4_init_37 : decode cX4_init 37 = .ok (.aload_n 0, 1) := by decide +kernel
theorem dX4_init_38 : decode cX4_init 38 = .ok (.aload_n 1, 1) := by decide +kernel
theorem dX4_init_39 : decode cX4_init 39 = .ok (.putfield 24, 3) := by decide +kernel
theorem dX4_init_42 : decode cX4_init 42 = .ok (.return_, 1) := by decide +kernel
theorem lko_X4_3 : Cond.methodLink RX4 3 Lib.objectInit ∈ GW ∧ .instanceMethod Lib.objectInit ∈ GW ∧ .code Lib.objectInit ⟨#[0xb1]⟩ 1 none ∈ GW := ⟨gw_t1 120 (by decide +kernel) (by decide +kernel), gw_t1 26 (by decide +kernel) (by decide +kernel), gw_t1 27 (by decide +kernel) (by decide +kernel)⟩
theorem si_400 : (Int16.ofInt (400)).toInt32 = (400 : Int32) := by decide
set_option maxRecDepth 100000 in
theorem c_X4_init {z : ZZ} {ws : va_W} (h0 p0 : Nat) : CtI z yX4_init cX4_init 2 1 4 472 [.ref h0, .ref p0] ws [(h0, .inr (4, [.null, .null, .null, .null, .null]))] (fun nw => [(h0, .inr (4, [.ref p0, .ref (nw 0), .ref (nw 1), .ref (nw 2), .ref (nw 3)])), ((nw 0), .inl (z.2.2.1 0, 24, .inl (fun _ => 0))), ((nw 1), .inl (z.2.2.1 0, 24, .inl (fun _ => 0))), ((nw 2), .inl (z.2.2.1 0, 24, .inl (fun _ => 0))), ((nw 3), .inl (z.2.2.1 0, 400, .inl (fun _ => 0)))]) := by
  refine CtI.of (by decide) rfl (Nat.le_of_ble_eq_true rfl) (fun ad x hC hR hni => ?_)
  show AL z x 2 _ 0 0 0 [(0, .ref h0), (1, .ref p0)] [] (ws ++ [(h0, .inr (4, [.null, .null, .null, .null, .null]))])
  refine al_aload_n (j := 0) hC rfl rfl dX4_init_0 ?_
  refine al_obj hC hR lko_X4_3 dX4_init_1 (by decide) (Nat.le_of_ble_eq_true rfl) ?_
  refine al_aload_n (j := 0) hC rfl rfl dX4_init_4 ?_
  refine al_bipush hC bi_24 dX4_init_5 ?_
  refine al_newa (b := ws) (k := 0) (n := 0) (v := 24) (l := [(h0, .inr (4, [.null, .null, .null, .null, .null]))]) (a0 := (24, .inl (fun _ => 0))) (ty := .int) hC hR 0 gA_int rfl rfl (fun _ => rfl) (by decide) (by decide) (Nat.le_of_ble_eq_true rfl) ⟨Nat.le_of_ble_eq_true rfl, Nat.le_of_ble_eq_true rfl⟩ dX4_init_7 (fun q1 => ?_)
  show AL z x 2 _ 1 24 9 [(0, .ref h0), (1, .ref p0)] [.ref q1, .ref h0] (ws ++ [(h0, .inr (4, [.null, .null, .null, .null, .null])), (q1, .inl (z.2.2.1 0, 24, .inl (fun _ => 0)))])
  refine al_putF (b := ws) (v := .ref q1) (l := [(h0, .inr (4, [.null, .null, .null, .null, .null])), (q1, .inl (z.2.2.1 0, 24, .inl (fun _ => 0)))]) (C := RX4) (T := TX4) (N := 5) (ci := 4) (j := 1) (ty := (.array .int)) (ty0 := tyX4) hC hni 0 dX4_init_9 inX4 tyX4_ok nmX4 rfl rfl (by decide) lf_X4_9 rfl rfl rfl (by decide +kernel) rfl rfl (Nat.le_of_ble_eq_true rfl) ?_
  show AL z x 2 _ 1 24 12 [(0, .ref h0), (1, .ref p0)] [] (ws ++ [(h0, .inr (4, [.null, .ref q1, .null, .null, .null])), (q1, .inl (z.2.2.1 0, 24, .inl (fun _ => 0)))])
  refine al_aload_n (j := 0) hC rfl rfl dX4_init_12 ?_
  refine al_bipush hC bi_24 dX4_init_13 ?_
  refine al_newa (b := ws) (k := 1) (n := 24) (v := 24) (l := [(h0, .inr (4, [.null, .ref q1, .null, .null, .null])), (q1, .inl (z.2.2.1 0, 24, .inl (fun _ => 0)))]) (a0 := (24, .inl (fun _ => 0))) (ty := .int) hC hR 0 gA_int rfl rfl (fun _ => rfl) (by decide) (by decide) (Nat.le_of_ble_eq_true rfl) ⟨Nat.le_of_ble_eq_true rfl, Nat.le_of_ble_eq_true rfl⟩ dX4_init_15 (fun q2 => ?_)
  show AL z x 2 _ 2 48 17 [(0, .ref h0), (1, .ref p0)] [.ref q2, .ref h0] (ws ++ [(h0, .inr (4, [.null, .ref q1, .null, .null, .null])), (q1, .inl (z.2.2.1 0, 24, .inl (fun _ => 0))), (q2, .inl (z.2.2.1 0, 24, .inl (fun _ => 0)))])
  refine al_putF (b := ws) (v := .ref q2) (l := [(h0, .inr (4, [.null, .ref q1, .null, .null, .null])), (q1, .inl (z.2.2.1 0, 24, .inl (fun _ => 0))), (q2, .inl (z.2.2.1 0, 24, .inl (fun _ => 0)))]) (C := RX4) (T := TX4) (N := 5) (ci := 4) (j := 2) (ty := (.array .int)) (ty0 := tyX4) hC hni 0 dX4_init_17 inX4 tyX4_ok nmX4 rfl rfl (by decide) lf_X4_15 rfl rfl rfl (by decide +kernel) rfl rfl (Nat.le_of_ble_eq_true rfl) ?_
  show AL z x 2 _ 2 48 20 [(0, .ref h0), (1, .ref p0)] [] (ws ++ [(h0, .inr (4, [.null, .ref q1, .ref q2, .null, .null])), (q1, .inl (z.2.2.1 0, 24, .inl (fun _ => 0))), (q2, .inl (z.2.2.1 0, 24, .inl (fun _ => 0)))])
  refine al_aload_n (j := 0) hC rfl rfl dX4_init_20 ?_
  refine al_bipush hC bi_24 dX4_init_21 ?_
  refine al_newa (b := ws) (k := 2) (n := 48) (v := 24) (l := [(h0, .inr (4, [.null, .ref q1, .ref q2, .null, .null])), (q1, .inl (z.2.2.1 0, 24, .inl (fun _ => 0))), (q2, .inl (z.2.2.1 0, 24, .inl (fun _ => 0)))]) (a0 := (24, .inl (fun _ => 0))) (ty := .int) hC hR 0 gA_int rfl rfl (fun _ => rfl) (by decide) (by decide) (Nat.le_of_ble_eq_true rfl) ⟨Nat.le_of_ble_eq_true rfl, Nat.le_of_ble_eq_true rfl⟩ dX4_init_23 (fun q3 => ?_)
  show AL z x 2 _ 3 72 25 [(0, .ref h0), (1, .ref p0)] [.ref q3, .ref h0] (ws ++ [(h0, .inr (4, [.null, .ref q1, .ref q2, .null, .null])), (q1, .inl (z.2.2.1 0, 24, .inl (fun _ => 0))), (q2, .inl (z.2.2.1 0, 24, .inl (fun _ => 0))), (q3, .inl (z.2.2.1 0, 24, .inl (fun _ => 0)))])
  refine al_putF (b := ws) (v := .ref q3) (l := [(h0, .inr (4, [.null, .ref q1, .ref q2, .null, .null])), (q1, .inl (z.2.2.1 0, 24, .inl (fun _ => 0))), (q2, .inl (z.2.2.1 0, 24, .inl (fun _ => 0))), (q3, .inl (z.2.2.1 0, 24, .inl (fun _ => 0)))]) (C := RX4) (T := TX4) (N := 5) (ci := 4) (j := 3) (ty := (.array .int)) (ty0 := tyX4) hC hni 0 dX4_init_25 inX4 tyX4_ok nmX4 rfl rfl (by decide) lf_X4_18 rfl rfl rfl (by decide +kernel) rfl rfl (Nat.le_of_ble_eq_true rfl) ?_
  show AL z x 2 _ 3 72 28 [(0, .ref h0), (1, .ref p0)] [] (ws ++ [(h0, .inr (4, [.null, .ref q1, .ref q2, .ref q3, .null])), (q1, .inl (z.2.2.1 0, 24, .inl (fun _ => 0))), (q2, .inl (z.2.2.1 0, 24, .inl (fun _ => 0))), (q3, .inl (z.2.2.1 0, 24, .inl (fun _ => 0)))])
  refine al_aload_n (j := 0) hC rfl rfl dX4_init_28 ?_
  refine al_sipush hC si_400 dX4_init_29 ?_
  refine al_newa (b := ws) (k := 3) (n := 72) (v := 400) (l := [(h0, .inr (4, [.null, .ref q1, .ref q2, .ref q3, .null])), (q1, .inl (z.2.2.1 0, 24, .inl (fun _ => 0))), (q2, .inl (z.2.2.1 0, 24, .inl (fun _ => 0))), (q3, .inl (z.2.2.1 0, 24, .inl (fun _ => 0)))]) (a0 := (400, .inl (fun _ => 0))) (ty := .int) hC hR 0 gA_int rfl rfl (fun _ => rfl) (by decide) (by decide) (Nat.le_of_ble_eq_true rfl) ⟨Nat.le_of_ble_eq_true rfl, Nat.le_of_ble_eq_true rfl⟩ dX4_init_32 (fun q4 => ?_)
  show AL z x 2 _ 4 472 34 [(0, .ref h0), (1, .ref p0)] [.ref q4, .ref h0] (ws ++ [(h0, .inr (4, [.null, .ref q1, .ref q2, .ref q3, .null])), (q1, .inl (z.2.2.1 0, 24, .inl (fun _ => 0))), (q2, .inl (z.2.2.1 0, 24, .inl (fun _ => 0))), (q3, .inl (z.2.2.1 0, 24, .inl (fun _ => 0))), (q4, .inl (z.2.2.1 0, 400, .inl (fun _ => 0)))])
  refine al_putF (b := ws) (v := .ref q4) (l := [(h0, .inr (4, [.null, .ref q1, .ref q2, .ref q3, .null])), (q1, .inl (z.2.2.1 0, 24, .inl (fun _ => 0))), (q2, .inl (z.2.2.1 0, 24, .inl (fun _ => 0))), (q3, .inl (z.2.2.1 0, 24, .inl (fun _ => 0))), (q4, .inl (z.2.2.1 0, 400, .inl (fun _ => 0)))]) (C := RX4) (T := TX4) (N := 5) (ci := 4) (j := 4) (ty := (.array .int)) (ty0 := tyX4) hC hni 0 dX4_init_34 inX4 tyX4_ok nmX4 rfl rfl (by decide) lf_X4_21 rfl rfl rfl (by decide +kernel) rfl rfl (Nat.le_of_ble_eq_true rfl) ?_
  show AL z x 2 _ 4 472 37 [(0, .ref h0), (1, .ref p0)] [] (ws ++ [(h0, .inr (4, [.null, .ref q1, .ref q2, .ref q3, .ref q4])), (q1, .inl (z.2.2.1 0, 24, .inl (fun _ => 0))), (q2, .inl (z.2.2.1 0, 24, .inl (fun _ => 0))), (q3, .inl (z.2.2.1 0, 24, .inl (fun _ => 0))), (q4, .inl (z.2.2.1 0, 400, .inl (fun _ => 0)))])
  refine al_aload_n (j := 0) hC rfl rfl dX4_init_37 ?_
  refine al_aload_n (j := 1) hC rfl rfl dX4_init_38 ?_
  refine al_putF (b := ws) (v := .ref p0) (l := [(h0, .inr (4, [.null, .ref q1, .ref q2, .ref q3, .ref q4])), (q1, .inl (z.2.2.1 0, 24, .inl (fun _ => 0))), (q2, .inl (z.2.2.1 0, 24, .inl (fun _ => 0))), (q3, .inl (z.2.2.1 0, 24, .inl (fun _ => 0))), (q4, .inl (z.2.2.1 0, 400, .inl (fun _ => 0)))]) (C := RX4) (T := TX4) (N := 5) (ci := 4) (j := 0) (ty := (.object "WidowsFund$Book")) (ty0 := tyX4) hC hni 0 dX4_init_39 inX4 tyX4_ok nmX4 rfl rfl (by decide) lf_X4_24 rfl rfl rfl (by decide +kernel) rfl rfl (Nat.le_of_ble_eq_true rfl) ?_
  show AL z x 2 _ 4 472 42 [(0, .ref h0), (1, .ref p0)] [] (ws ++ [(h0, .inr (4, [.ref p0, .ref q1, .ref q2, .ref q3, .ref q4])), (q1, .inl (z.2.2.1 0, 24, .inl (fun _ => 0))), (q2, .inl (z.2.2.1 0, 24, .inl (fun _ => 0))), (q3, .inl (z.2.2.1 0, 24, .inl (fun _ => 0))), (q4, .inl (z.2.2.1 0, 400, .inl (fun _ => 0)))])
  exact al_ret (b := ws) (k := 4) (n := 472) (mc := 4) (ms := 472) (post := fun nw => [(h0, .inr (4, [.ref p0, .ref (nw 0), .ref (nw 1), .ref (nw 2), .ref (nw 3)])), ((nw 0), .inl (z.2.2.1 0, 24, .inl (fun _ => 0))), ((nw 1), .inl (z.2.2.1 0, 24, .inl (fun _ => 0))), ((nw 2), .inl (z.2.2.1 0, 24, .inl (fun _ => 0))), ((nw 3), .inl (z.2.2.1 0, 400, .inl (fun _ => 0)))]) (l := [(h0, .inr (4, [.ref p0, .ref q1, .ref q2, .ref q3, .ref q4])), (q1, .inl (z.2.2.1 0, 24, .inl (fun _ => 0))), (q2, .inl (z.2.2.1 0, 24, .inl (fun _ => 0))), (q3, .inl (z.2.2.1 0, 24, .inl (fun _ => 0))), (q4, .inl (z.2.2.1 0, 400, .inl (fun _ => 0)))]) hC (fun k => (q1 :: q2 :: q3 :: q4 :: [] : List Nat).getD k 0) rfl dX4_init_42 ⟨Nat.le_of_ble_eq_true rfl, Nat.le_of_ble_eq_true rfl⟩
theorem dX7_init_0 : decode cX7_init 0 = .ok (.aload_n 0, 1) := by decide +kernel
theorem dX7_init_1 : decode cX7_init 1 = .ok (.invokespecial 3, 3) := by decide +kernel
theorem dX7_init_4 : decode cX7_init 4 = .ok (.aload_n 0, 1) := by decide +kernel
theorem dX7_init_5 : decode cX7_init 5 = .ok (.sipush 200, 3) := by decide +kernel
theorem dX7_init_8 : decode cX7_init 8 = .ok (.newarray .int, 2) := by decide +kernel
theorem dX7_init_10 : decode cX7_init 10 = .ok (.putfield 9, 3) := by decide +kernel
theorem dX7_init_13 : decode cX7_init 13 = .ok (.aload_n 0, 1) := by decide +kernel
theorem dX7_init_14 : decode cX7_init 14 = .ok (.sipush 200, 3) := by decide +kernel
theorem dX7_init_17 : decode cX7_init 17 = .ok (.newarray .int, 2) := by decide +kernel
theorem dX7_init_19 : decode cX7_init 19 = .ok (.putfield 15, 3) := by decide +kernel
theorem dX7_init_22 : decode cX7_init 22 = .ok (.return_, 1) := by decide +kernel
theorem lko_X7_3 : Cond.methodLink RX7 3 Lib.objectInit ∈ GW ∧ .instanceMethod Lib.objectInit ∈ GW ∧ .code Lib.objectInit ⟨#[0xb1]⟩ 1 none ∈ GW := ⟨gw_t1 148 (by decide +kernel) (by decide +kernel), gw_t1 26 (by decide +kernel) (by decide +kernel), gw_t1 27 (by decide +kernel) (by decide +kernel)⟩
set_option maxRecDepth 100000 in
theorem c_X7_init {z : ZZ} {ws : va_W} (h0 : Nat) : CtI z yX7_init cX7_init 1 1 2 400 [.ref h0] ws [(h0, .inr (7, [.null, .int 0, .int 0, .null, .int 0]))] (fun nw => [(h0, .inr (7, [.ref (nw 0), .int 0, .int 0, .ref (nw 1), .int 0])), ((nw 0), .inl (z.2.2.1 0, 200, .inl (fun _ => 0))), ((nw 1), .inl (z.2.2.1 0, 200, .inl (fun _ => 0)))]) := by
  refine CtI.of (by decide) rfl (Nat.le_of_ble_eq_true rfl) (fun ad x hC hR hni => ?_)
  show AL z x 1 _ 0 0 0 [(0, .ref h0)] [] (ws ++ [(h0, .inr (7, [.null, .int 0, .int 0, .null, .int 0]))])
  refine al_aload_n (j := 0) hC rfl rfl dX7_init_0 ?_
  refine al_obj hC hR lko_X7_3 dX7_init_1 (by decide) (Nat.le_of_ble_eq_true rfl) ?_
  refine al_aload_n (j := 0) hC rfl rfl dX7_init_4 ?_
  refine al_sipush hC si_200 dX7_init_5 ?_
  refine al_newa (b := ws) (k := 0) (n := 0) (v := 200) (l := [(h0, .inr (7, [.null, .int 0, .int 0, .null, .int 0]))]) (a0 := (200, .inl (fun _ => 0))) (ty := .int) hC hR 0 gA_int rfl rfl (fun _ => rfl) (by decide) (by decide) (Nat.le_of_ble_eq_true rfl) ⟨Nat.le_of_ble_eq_true rfl, Nat.le_of_ble_eq_true rfl⟩ dX7_init_8 (fun q1 => ?_)
  show AL z x 1 _ 1 200 10 [(0, .ref h0)] [.ref q1, .ref h0] (ws ++ [(h0, .inr (7, [.null, .int 0, .int 0, .null, .int 0])), (q1, .inl (z.2.2.1 0, 200, .inl (fun _ => 0)))])
  refine al_putF (b := ws) (v := .ref q1) (l := [(h0, .inr (7, [.null, .int 0, .int 0, .null, .int 0])), (q1, .inl (z.2.2.1 0, 200, .inl (fun _ => 0)))]) (C := RX7) (T := TX7) (N := 5) (ci := 7) (j := 0) (ty := (.array .int)) (ty0 := tyX7) hC hni 0 dX7_init_10 inX7 tyX7_ok nmX7 rfl rfl (by decide) lf_X7_9 rfl rfl rfl (by decide +kernel) rfl rfl (Nat.le_of_ble_eq_true rfl) ?_
  show AL z x 1 _ 1 200 13 [(0, .ref h0)] [] (ws ++ [(h0, .inr (7, [.ref q1, .int 0, .int 0, .null, .int 0])), (q1, .inl (z.2.2.1 0, 200, .inl (fun _ => 0)))])
  refine al_aload_n (j := 0) hC rfl rfl dX7_init_13 ?_
  refine al_sipush hC si_200 dX7_init_14 ?_
  refine al_newa (b := ws) (k := 1) (n := 200) (v := 200) (l := [(h0, .inr (7, [.ref q1, .int 0, .int 0, .null, .int 0])), (q1, .inl (z.2.2.1 0, 200, .inl (fun _ => 0)))]) (a0 := (200, .inl (fun _ => 0))) (ty := .int) hC hR 0 gA_int rfl rfl (fun _ => rfl) (by decide) (by decide) (Nat.le_of_ble_eq_true rfl) ⟨Nat.le_of_ble_eq_true rfl, Nat.le_of_ble_eq_true rfl⟩ dX7_init_17 (fun q2 => ?_)
  show AL z x 1 _ 2 400 19 [(0, .ref h0)] [.ref q2, .ref h0] (ws ++ [(h0, .inr (7, [.ref q1, .int 0, .int 0, .null, .int 0])), (q1, .inl (z.2.2.1 0, 200, .inl (fun _ => 0))), (q2, .inl (z.2.2.1 0, 200, .inl (fun _ => 0)))])
  refine al_putF (b := ws) (v := .ref q2) (l := [(h0, .inr (7, [.ref q1, .int 0, .int 0, .null, .int 0])), (q1, .inl (z.2.2.1 0, 200, .inl (fun _ => 0))), (q2, .inl (z.2.2.1 0, 200, .inl (fun _ => 0)))]) (C := RX7) (T := TX7) (N := 5) (ci := 7) (j := 3) (ty := (.array .int)) (ty0 := tyX7) hC hni 0 dX7_init_19 inX7 tyX7_ok nmX7 rfl rfl (by decide) lf_X7_15 rfl rfl rfl (by decide +kernel) rfl rfl (Nat.le_of_ble_eq_true rfl) ?_
  show AL z x 1 _ 2 400 22 [(0, .ref h0)] [] (ws ++ [(h0, .inr (7, [.ref q1, .int 0, .int 0, .ref q2, .int 0])), (q1, .inl (z.2.2.1 0, 200, .inl (fun _ => 0))), (q2, .inl (z.2.2.1 0, 200, .inl (fun _ => 0)))])
  exact al_ret (b := ws) (k := 2) (n := 400) (mc := 2) (ms := 400) (post := fun nw => [(h0, .inr (7, [.ref (nw 0), .int 0, .int 0, .ref (nw 1), .int 0])), ((nw 0), .inl (z.2.2.1 0, 200, .inl (fun _ => 0))), ((nw 1), .inl (z.2.2.1 0, 200, .inl (fun _ => 0)))]) (l := [(h0, .inr (7, [.ref q1, .int 0, .int 0, .ref q2, .int 0])), (q1, .inl (z.2.2.1 0, 200, .inl (fun _ => 0))), (q2, .inl (z.2.2.1 0, 200, .inl (fun _ => 0)))]) hC (fun k => (q1 :: q2 :: [] : List Nat).getD k 0) rfl dX7_init_22 ⟨Nat.le_of_ble_eq_true rfl, Nat.le_of_ble_eq_true rfl⟩
theorem dX3_init_0 : decode cX3_init 0 = .ok (.aload_n 0, 1) := by decide +kernel
theorem dX3_init_1 : decode cX3_init 1 = .ok (.invokespecial 3, 3) := by decide +kernel
theorem dX3_init_4 : decode cX3_init 4 = .ok (.aload_n 0, 1) := by decide +kernel
theorem dX3_init_5 : decode cX3_init 5 = .ok (.bipush 9, 2) := by decide +kernel
theorem dX3_init_7 : decode cX3_init 7 = .ok (.anewarray 9, 3) := by decide +kernel
theorem dX3_init_10 : decode cX3_init 10 = .ok (.putfield 11, 3) := by decide +kernel
theorem dX3_init_13 : decode cX3_init 13 = .ok (.aload_n 0, 1) := by decide +kernel
theorem dX3_init_14 : decode cX3_init 14 = .ok (.bipush 9, 2) := by decide +kernel
theorem dX3_init_16 : decode cX3_init 16 = .ok (.newarray .int, 2) := by decide +kernel
theorem dX3_init_18 : decode cX3_init 18 = .ok (.putfield 17, 3) := by decide +kernel
theorem dX3_init_21 : decode cX3_init 21 = .ok (.aload_n 0, 1) := by decide +kernel
theorem dX3_init_22 : decode cX3_init 22 = .ok (.iconst 5, 1) := by decide +kernel
theorem dX3_init_23 : decode cX3_init 23 = .ok (.newarray .int, 2) := by decide +kernel
theorem dX3_init_25 : decode cX3_init 25 = .ok (.putfield 21, 3) := by decide +kernel
theorem dX3_init_28 : decode cX3_init 28 = .ok (.aload_n 0, 1) := by decide +kernel
theorem dX3_init_29 : decode cX3_init 29 = .ok (.sipush 200, 3) := by decide +kernel
theorem dX3_init_32 : decode cX3_init 32 = .ok (.newarray .int, 2) := by decide +kernel
theorem dX3_init_34 : decode cX3_init 34 = .ok (.putfield 24, 3) := by decide +kernel
theorem dX3_init_37 : decode cX3_init 37 = .ok (.aload_n 0, 1) := by decide +kernel
theorem dX3_init_38 : decode cX3_init 38 = .ok (.aload_n 1, 1) := by decide +kernel
theorem dX3_init_39 : decode cX3_init 39 = .ok (.putfield 27, 3) := by decide +kernel
theorem dX3_init_42 : decode cX3_init 42 = .ok (.return_, 1) := by decide +kernel
theorem lko_X3_3 : Cond.methodLink RX3 3 Lib.objectInit ∈ GW ∧ .instanceMethod Lib.objectInit ∈ GW ∧ .code Lib.objectInit ⟨#[0xb1]⟩ 1 none ∈ GW := ⟨gw_t1 171 (by decide +kernel) (by decide +kernel), gw_t1 26 (by decide +kernel) (by decide +kernel), gw_t1 27 (by decide +kernel) (by decide +kernel)⟩
theorem clk_X3_9 : Cond.classLink RX3 9 "WidowsFund$Act" ∈ GW := gw_t1 172 (by decide +kernel) (by decide +kernel)
set_option maxRecDepth 100000 in
theorem c_X3_init {z : ZZ} {ws : va_W} (h0 p0 : Nat) : CtI z yX3_init cX3_init 2 1 4 223 [.ref h0, .ref p0] ws [(h0, .inr (3, [.null, .null, .int 0, .null, .null, .null, .null, .int 0, .int 0, .int 0]))] (fun nw => [(h0, .inr (3, [.ref p0, .ref (nw 0), .int 0, .ref (nw 1), .null, .ref (nw 2), .ref (nw 3), .int 0, .int 0, .int 0])), ((nw 0), .inl (z.2.2.1 3, 9, .inr (.inr (.inr (.inr (fun _ => none)))))), ((nw 1), .inl (z.2.2.1 0, 9, .inl (fun _ => 0))), ((nw 2), .inl (z.2.2.1 0, 5, .inl (fun _ => 0))), ((nw 3), .inl (z.2.2.1 0, 200, .inl (fun _ => 0)))]) := by
  refine CtI.of (by decide) rfl (Nat.le_of_ble_eq_true rfl) (fun ad x hC hR hni => ?_)
  show AL z x 2 _ 0 0 0 [(0, .ref h0), (1, .ref p0)] [] (ws ++ [(h0, .inr (3, [.null, .null, .int 0, .null, .null, .null, .null, .int 0, .int 0, .int 0]))])
  refine al_aload_n (j := 0) hC rfl rfl dX3_init_0 ?_
  refine al_obj hC hR lko_X3_3 dX3_init_1 (by decide) (Nat.le_of_ble_eq_true rfl) ?_
  refine al_aload_n (j := 0) hC rfl rfl dX3_init_4 ?_
  refine al_bipush hC bi_9 dX3_init_5 ?_
  refine al_newq (b := ws) (k := 0) (n := 0) (v := 9) (l := [(h0, .inr (3, [.null, .null, .int 0, .null, .null, .null, .null, .int 0, .int 0, .int 0]))]) (N := 9) hC hR clk_X3_9 (by decide) (by decide) (Nat.le_of_ble_eq_true rfl) ⟨Nat.le_of_ble_eq_true rfl, Nat.le_of_ble_eq_true rfl⟩ dX3_init_7 (fun q1 => ?_)
  show AL z x 2 _ 1 9 10 [(0, .ref h0), (1, .ref p0)] [.ref q1, .ref h0] (ws ++ [(h0, .inr (3, [.null, .null, .int 0, .null, .null, .null, .null, .int 0, .int 0, .int 0])), (q1, .inl (z.2.2.1 3, 9, .inr (.inr (.inr (.inr (fun _ => none))))))])
  refine al_putF (b := ws) (v := .ref q1) (l := [(h0, .inr (3, [.null, .null, .int 0, .null, .null, .null, .null, .int 0, .int 0, .int 0])), (q1, .inl (z.2.2.1 3, 9, .inr (.inr (.inr (.inr (fun _ => none))))))]) (C := RX3) (T := TX3) (N := 10) (ci := 3) (j := 1) (ty := (.array (.object "WidowsFund$Act"))) (ty0 := tyX3) hC hni 0 dX3_init_10 inX3 tyX3_ok nmX3 rfl rfl (by decide) lf_X3_11 rfl rfl rfl (by decide +kernel) rfl rfl (Nat.le_of_ble_eq_true rfl) ?_
  show AL z x 2 _ 1 9 13 [(0, .ref h0), (1, .ref p0)] [] (ws ++ [(h0, .inr (3, [.null, .ref q1, .int 0, .null, .null, .null, .null, .int 0, .int 0, .int 0])), (q1, .inl (z.2.2.1 3, 9, .inr (.inr (.inr (.inr (fun _ => none))))))])
  refine al_aload_n (j := 0) hC rfl rfl dX3_init_13 ?_
  refine al_bipush hC bi_9 dX3_init_14 ?_
  refine al_newa (b := ws) (k := 1) (n := 9) (v := 9) (l := [(h0, .inr (3, [.null, .ref q1, .int 0, .null, .null, .null, .null, .int 0, .int 0, .int 0])), (q1, .inl (z.2.2.1 3, 9, .inr (.inr (.inr (.inr (fun _ => none))))))]) (a0 := (9, .inl (fun _ => 0))) (ty := .int) hC hR 0 gA_int rfl rfl (fun _ => rfl) (by decide) (by decide) (Nat.le_of_ble_eq_true rfl) ⟨Nat.le_of_ble_eq_true rfl, Nat.le_of_ble_eq_true rfl⟩ dX3_init_16 (fun q2 => ?_)
  show AL z x 2 _ 2 18 18 [(0, .ref h0), (1, .ref p0)] [.ref q2, .ref h0] (ws ++ [(h0, .inr (3, [.null, .ref q1, .int 0, .null, .null, .null, .null, .int 0, .int 0, .int 0])), (q1, .inl (z.2.2.1 3, 9, .inr (.inr (.inr (.inr (fun _ => none)))))), (q2, .inl (z.2.2.1 0, 9, .inl (fun _ => 0)))])
  refine al_putF (b := ws) (v := .ref q2) (l := [(h0, .inr (3, [.null, .ref q1, .int 0, .null, .null, .null, .null, .int 0, .int 0, .int 0])), (q1, .inl (z.2.2.1 3, 9, .inr (.inr (.inr (.inr (fun _ => none)))))), (q2, .inl (z.2.2.1 0, 9, .inl (fun _ => 0)))]) (C := RX3) (T := TX3) (N := 10) (ci := 3) (j := 3) (ty := (.array .int)) (ty0 := tyX3) hC hni 0 dX3_init_18 inX3 tyX3_ok nmX3 rfl rfl (by decide) lf_X3_17 rfl rfl rfl (by decide +kernel) rfl rfl (Nat.le_of_ble_eq_true rfl) ?_
  show AL z x 2 _ 2 18 21 [(0, .ref h0), (1, .ref p0)] [] (ws ++ [(h0, .inr (3, [.null, .ref q1, .int 0, .ref q2, .null, .null, .null, .int 0, .int 0, .int 0])), (q1, .inl (z.2.2.1 3, 9, .inr (.inr (.inr (.inr (fun _ => none)))))), (q2, .inl (z.2.2.1 0, 9, .inl (fun _ => 0)))])
  refine al_aload_n (j := 0) hC rfl rfl dX3_init_21 ?_
  refine al_iconst hC ic_5 dX3_init_22 ?_
  refine al_newa (b := ws) (k := 2) (n := 18) (v := 5) (l := [(h0, .inr (3, [.null, .ref q1, .int 0, .ref q2, .null, .null, .null, .int 0, .int 0, .int 0])), (q1, .inl (z.2.2.1 3, 9, .inr (.inr (.inr (.inr (fun _ => none)))))), (q2, .inl (z.2.2.1 0, 9, .inl (fun _ => 0)))]) (a0 := (5, .inl (fun _ => 0))) (ty := .int) hC hR 0 gA_int rfl rfl (fun _ => rfl) (by decide) (by decide) (Nat.le_of_ble_eq_true rfl) ⟨Nat.le_of_ble_eq_true rfl, Nat.le_of_ble_eq_true rfl⟩ dX3_init_23 (fun q3 => ?_)
  show AL z x 2 _ 3 23 25 [(0, .ref h0), (1, .ref p0)] [.ref q3, .ref h0] (ws ++ [(h0, .inr (3, [.null, .ref q1, .int 0, .ref q2, .null, .null, .null, .int 0, .int 0, .int 0])), (q1, .inl (z.2.2.1 3, 9, .inr (.inr (.inr (.inr (fun _ => none)))))), (q2, .inl (z.2.2.1 0, 9, .inl (fun _ => 0))), (q3, .inl (z.2.2.1 0, 5, .inl (fun _ => 0)))])
  refine al_putF (b := ws) (v := .ref q3) (l := [(h0, .inr (3, [.null, .ref q1, .int 0, .ref q2, .null, .null, .null, .int 0, .int 0, .int 0])), (q1, .inl (z.2.2.1 3, 9, .inr (.inr (.inr (.inr (fun _ => none)))))), (q2, .inl (z.2.2.1 0, 9, .inl (fun _ => 0))), (q3, .inl (z.2.2.1 0, 5, .inl (fun _ => 0)))]) (C := RX3) (T := TX3) (N := 10) (ci := 3) (j := 5) (ty := (.array .int)) (ty0 := tyX3) hC hni 0 dX3_init_25 inX3 tyX3_ok nmX3 rfl rfl (by decide) lf_X3_21 rfl rfl rfl (by decide +kernel) rfl rfl (Nat.le_of_ble_eq_true rfl) ?_
  show AL z x 2 _ 3 23 28 [(0, .ref h0), (1, .ref p0)] [] (ws ++ [(h0, .inr (3, [.null, .ref q1, .int 0, .ref q2, .null, .ref q3, .null, .int 0, .int 0, .int 0])), (q1, .inl (z.2.2.1 3, 9, .inr (.inr (.inr (.inr (fun _ => none)))))), (q2, .inl (z.2.2.1 0, 9, .inl (fun _ => 0))), (q3, .inl (z.2.2.1 0, 5, .inl (fun _ => 0)))])
  refine al_aload_n (j := 0) hC rfl rfl dX3_init_28 ?_
  refine al_sipush hC si_200 dX3_init_29 ?_
  refine al_newa (b := ws) (k := 3) (n := 23) (v := 200) (l := [(h0, .inr (3, [.null, .ref q1, .int 0, .ref q2, .null, .ref q3, .null, .int 0, .int 0, .int 0])), (q1, .inl (z.2.2.1 3, 9, .inr (.inr (.inr (.inr (fun _ => none)))))), (q2, .inl (z.2.2.1 0, 9, .inl (fun _ => 0))), (q3, .inl (z.2.2.1 0, 5, .inl (fun _ => 0)))]) (a0 := (200, .inl (fun _ => 0))) (ty := .int) hC hR 0 gA_int rfl rfl (fun _ => rfl) (by decide) (by decide) (Nat.le_of_ble_eq_true rfl) ⟨Nat.le_of_ble_eq_true rfl, Nat.le_of_ble_eq_true rfl⟩ dX3_init_32 (fun q4 => ?_)
  show AL z x 2 _ 4 223 34 [(0, .ref h0), (1, .ref p0)] [.ref q4, .ref h0] (ws ++ [(h0, .inr (3, [.null, .ref q1, .int 0, .ref q2, .null, .ref q3, .null, .int 0, .int 0, .int 0])), (q1, .inl (z.2.2.1 3, 9, .inr (.inr (.inr (.inr (fun _ => none)))))), (q2, .inl (z.2.2.1 0, 9, .inl (fun _ => 0))), (q3, .inl (z.2.2.1 0, 5, .inl (fun _ => 0))), (q4, .inl (z.2.2.1 0, 200, .inl (fun _ => 0)))])
  refine al_putF (b := ws) (v := .ref q4) (l := [(h0, .inr (3, [.null, .ref q1, .int 0, .ref q2, .null, .ref q3, .null, .int 0, .int 0, .int 0])), (q1, .inl (z.2.2.1 3, 9, .inr (.inr (.inr (.inr (fun _ => none)))))), (q2, .inl (z.2.2.1 0, 9, .inl (fun _ => 0))), (q3, .inl (z.2.2.1 0, 5, .inl (fun _ => 0))), (q4, .inl (z.2.2.1 0, 200, .inl (fun _ => 0)))]) (C := RX3) (T := TX3) (N := 10) (ci := 3) (j := 6) (ty := (.array .int)) (ty0 := tyX3) hC hni 0 dX3_init_34 inX3 tyX3_ok nmX3 rfl rfl (by decide) lf_X3_24 rfl rfl rfl (by decide +kernel) rfl rfl (Nat.le_of_ble_eq_true rfl) ?_
  show AL z x 2 _ 4 223 37 [(0, .ref h0), (1, .ref p0)] [] (ws ++ [(h0, .inr (3, [.null, .ref q1, .int 0, .ref q2, .null, .ref q3, .ref q4, .int 0, .int 0, .int 0])), (q1, .inl (z.2.2.1 3, 9, .inr (.inr (.inr (.inr (fun _ => none)))))), (q2, .inl (z.2.2.1 0, 9, .inl (fun _ => 0))), (q3, .inl (z.2.2.1 0, 5, .inl (fun _ => 0))), (q4, .inl (z.2.2.1 0, 200, .inl (fun _ => 0)))])
  refine al_aload_n (j := 0) hC rfl rfl dX3_init_37 ?_
  refine al_aload_n (j := 1) hC rfl rfl dX3_init_38 ?_
  refine al_putF (b := ws) (v := .ref p0) (l := [(h0, .inr (3, [.null, .ref q1, .int 0, .ref q2, .null, .ref q3, .ref q4, .int 0, .int 0, .int 0])), (q1, .inl (z.2.2.1 3, 9, .inr (.inr (.inr (.inr (fun _ => none)))))), (q2, .inl (z.2.2.1 0, 9, .inl (fun _ => 0))), (q3, .inl (z.2.2.1 0, 5, .inl (fun _ => 0))), (q4, .inl (z.2.2.1 0, 200, .inl (fun _ => 0)))]) (C := RX3) (T := TX3) (N := 10) (ci := 3) (j := 0) (ty := (.object "WidowsFund$Book")) (ty0 := tyX3) hC hni 0 dX3_init_39 inX3 tyX3_ok nmX3 rfl rfl (by decide) lf_X3_27 rfl rfl rfl (by decide +kernel) rfl rfl (Nat.le_of_ble_eq_true rfl) ?_
  show AL z x 2 _ 4 223 42 [(0, .ref h0), (1, .ref p0)] [] (ws ++ [(h0, .inr (3, [.ref p0, .ref q1, .int 0, .ref q2, .null, .ref q3, .ref q4, .int 0, .int 0, .int 0])), (q1, .inl (z.2.2.1 3, 9, .inr (.inr (.inr (.inr (fun _ => none)))))), (q2, .inl (z.2.2.1 0, 9, .inl (fun _ => 0))), (q3, .inl (z.2.2.1 0, 5, .inl (fun _ => 0))), (q4, .inl (z.2.2.1 0, 200, .inl (fun _ => 0)))])
  exact al_ret (b := ws) (k := 4) (n := 223) (mc := 4) (ms := 223) (post := fun nw => [(h0, .inr (3, [.ref p0, .ref (nw 0), .int 0, .ref (nw 1), .null, .ref (nw 2), .ref (nw 3), .int 0, .int 0, .int 0])), ((nw 0), .inl (z.2.2.1 3, 9, .inr (.inr (.inr (.inr (fun _ => none)))))), ((nw 1), .inl (z.2.2.1 0, 9, .inl (fun _ => 0))), ((nw 2), .inl (z.2.2.1 0, 5, .inl (fun _ => 0))), ((nw 3), .inl (z.2.2.1 0, 200, .inl (fun _ => 0)))]) (l := [(h0, .inr (3, [.ref p0, .ref q1, .int 0, .ref q2, .null, .ref q3, .ref q4, .int 0, .int 0, .int 0])), (q1, .inl (z.2.2.1 3, 9, .inr (.inr (.inr (.inr (fun _ => none)))))), (q2, .inl (z.2.2.1 0, 9, .inl (fun _ => 0))), (q3, .inl (z.2.2.1 0, 5, .inl (fun _ => 0))), (q4, .inl (z.2.2.1 0, 200, .inl (fun _ => 0)))]) hC (fun k => (q1 :: q2 :: q3 :: q4 :: [] : List Nat).getD k 0) rfl dX3_init_42 ⟨Nat.le_of_ble_eq_true rfl, Nat.le_of_ble_eq_true rfl⟩
theorem dX5_init_0 : decode cX5_init 0 = .ok (.aload_n 0, 1) := by decide +kernel
theorem dX5_init_1 : decode cX5_init 1 = .ok (.invokespecial 3, 3) := by decide +kernel
theorem dX5_init_4 : decode cX5_init 4 = .ok (.aload_n 0, 1) := by decide +kernel
theorem dX5_init_5 : decode cX5_init 5 = .ok (.bipush 12, 2) := by decide +kernel
theorem dX5_init_7 : decode cX5_init 7 = .ok (.newarray .int, 2) := by decide +kernel
theorem dX5_init_9 : decode cX5_init 9 = .ok (.putfield 9, 3) := by decide +kernel
theorem dX5_init_12 : decode cX5_init 12 = .ok (.aload_n 0, 1) := by decide +kernel
theorem dX5_init_13 : decode cX5_init 13 = .ok (.bipush 12, 2) := by decide +kernel
theorem dX5_init_15 : decode cX5_init 15 = .ok (.newarray .int, 2) := by decide +kernel
theorem dX5_init_17 : decode cX5_init 17 = .ok (.putfield 15, 3) := by decide +kernel
theorem dX5_init_20 : decode cX5_init 20 = .ok (.aload_n 0, 1) := by decide +kernel
theorem dX5_init_21 : decode cX5_init 21 = .ok (.bipush 12, 2) := by decide +kernel
theorem dX5_init_23 : decode cX5_init 23 = .ok (.newarray .int, 2) := by decide +kernel
theorem dX5_init_25 : decode cX5_init 25 = .ok (.putfield 18, 3) := by decide +kernel
theorem dX5_init_28 : decode cX5_init 28 = .ok (.aload_n 0, 1) := by decide +kernel
theorem dX5_init_29 : decode cX5_init 29 = .ok (.bipush 12, 2) := by decide +kernel
theorem dX5_init_31 : decode cX5_init 31 = .ok (.newarray .int, 2) := by decide +kernel
theorem dX5_init_33 : decode cX5_init 33 = .ok (.putfield 21, 3) := by decide +kernel
theorem dX5_init_36 : decode cX5_init 36 = .ok (.aload_n 0, 1) := by decide +kernel
theorem dX5_init_37 : decode cX5_init 37 = .ok (.bipush 12, 2) := by decide +kernel
theorem dX5_init_39 : decode cX5_init 39 = .ok (.newarray .int, 2) := by decide +kernel
theorem dX5_init_41 : decode cX5_init 41 = .ok (.putfield 24, 3) := by decide +kernel
theorem dX5_init_44 : decode cX5_init 44 = .ok (.return_, 1) := by decide +kernel
theorem lko_X5_3 : Cond.methodLink RX5 3 Lib.objectInit ∈ GW ∧ .instanceMethod Lib.objectInit ∈ GW ∧ .code Lib.objectInit ⟨#[0xb1]⟩ 1 none ∈ GW := ⟨gw_t1 213 (by decide +kernel) (by decide +kernel), gw_t1 26 (by decide +kernel) (by decide +kernel), gw_t1 27 (by decide +kernel) (by decide +kernel)⟩
set_option maxRecDepth 100000 in
theorem c_X5_init {z : ZZ} {ws : va_W} (h0 : Nat) : CtI z yX5_init cX5_init 1 1 5 60 [.ref h0] ws [(h0, .inr (5, [.int 0, .null, .null, .null, .null, .null]))] (fun nw => [(h0, .inr (5, [.int 0, .ref (nw 0), .ref (nw 1), .ref (nw 2), .ref (nw 3), .ref (nw 4)])), ((nw 0), .inl (z.2.2.1 0, 12, .inl (fun _ => 0))), ((nw 1), .inl (z.2.2.1 0, 12, .inl (fun _ => 0))), ((nw 2), .inl (z.2.2.1 0, 12, .inl (fun _ => 0))), ((nw 3), .inl (z.2.2.1 0, 12, .inl (fun _ => 0))), ((nw 4), .inl (z.2.2.1 0, 12, .inl (fun _ => 0)))]) := by
  refine CtI.of (by decide) rfl (Nat.le_of_ble_eq_true rfl) (fun ad x hC hR hni => ?_)
  show AL z x 1 _ 0 0 0 [(0, .ref h0)] [] (ws ++ [(h0, .inr (5, [.int 0, .null, .null, .null, .null, .null]))])
  refine al_aload_n (j := 0) hC rfl rfl dX5_init_0 ?_
  refine al_obj hC hR lko_X5_3 dX5_init_1 (by decide) (Nat.le_of_ble_eq_true rfl) ?_
  refine al_aload_n (j := 0) hC rfl rfl dX5_init_4 ?_
  refine al_bipush hC bi_12 dX5_init_5 ?_
  refine al_newa (b := ws) (k := 0) (n := 0) (v := 12) (l := [(h0, .inr (5, [.int 0, .null, .null, .null, .null, .null]))]) (a0 := (12, .inl (fun _ => 0))) (ty := .int) hC hR 0 gA_int rfl rfl (fun _ => rfl) (by decide) (by decide) (Nat.le_of_ble_eq_true rfl) ⟨Nat.le_of_ble_eq_true rfl, Nat.le_of_ble_eq_true rfl⟩ dX5_init_7 (fun q1 => ?_)
  show AL z x 1 _ 1 12 9 [(0, .ref h0)] [.ref q1, .ref h0] (ws ++ [(h0, .inr (5, [.int 0, .null, .null, .null, .null, .null])), (q1, .inl (z.2.2.1 0, 12, .inl (fun _ => 0)))])
  refine al_putF (b := ws) (v := .ref q1) (l := [(h0, .inr (5, [.int 0, .null, .null, .null, .null, .null])), (q1, .inl (z.2.2.1 0, 12, .inl (fun _ => 0)))]) (C := RX5) (T := TX5) (N := 6) (ci := 5) (j := 1) (ty := (.array .int)) (ty0 := tyX5) hC hni 0 dX5_init_9 inX5 tyX5_ok nmX5 rfl rfl (by decide) lf_X5_9 rfl rfl rfl (by decide +kernel) rfl rfl (Nat.le_of_ble_eq_true rfl) ?_
  show AL z x 1 _ 1 12 12 [(0, .ref h0)] [] (ws ++ [(h0, .inr (5, [.int 0, .ref q1, .null, .null, .null, .null])), (q1, .inl (z.2.2.1 0, 12, .inl (fun _ => 0)))])
  refine al_aload_n (j := 0) hC rfl rfl dX5_init_12 ?_
  refine al_bipush hC bi_12 dX5_init_13 ?_
  refine al_newa (b := ws) (k := 1) (n := 12) (v := 12) (l := [(h0, .inr (5, [.int 0, .ref q1, .null, .null, .null, .null])), (q1, .inl (z.2.2.1 0, 12, .inl (fun _ => 0)))]) (a0 := (12, .inl (fun _ => 0))) (ty := .int) hC hR 0 gA_int rfl rfl (fun _ => rfl) (by decide) (by decide) (Nat.le_of_ble_eq_true rfl) ⟨Nat.le_of_ble_eq_true rfl, Nat.le_of_ble_eq_true rfl⟩ dX5_init_15 (fun q2 => ?_)
  show AL z x 1 _ 2 24 17 [(0, .ref h0)] [.ref q2, .ref h0] (ws ++ [(h0, .inr (5, [.int 0, .ref q1, .null, .null, .null, .null])), (q1, .inl (z.2.2.1 0, 12, .inl (fun _ => 0))), (q2, .inl (z.2.2.1 0, 12, .inl (fun _ => 0)))])
  refine al_putF (b := ws) (v := .ref q2) (l := [(h0, .inr (5, [.int 0, .ref q1, .null, .null, .null, .null])), (q1, .inl (z.2.2.1 0, 12, .inl (fun _ => 0))), (q2, .inl (z.2.2.1 0, 12, .inl (fun _ => 0)))]) (C := RX5) (T := TX5) (N := 6) (ci := 5) (j := 2) (ty := (.array .int)) (ty0 := tyX5) hC hni 0 dX5_init_17 inX5 tyX5_ok nmX5 rfl rfl (by decide) lf_X5_15 rfl rfl rfl (by decide +kernel) rfl rfl (Nat.le_of_ble_eq_true rfl) ?_
  show AL z x 1 _ 2 24 20 [(0, .ref h0)] [] (ws ++ [(h0, .inr (5, [.int 0, .ref q1, .ref q2, .null, .null, .null])), (q1, .inl (z.2.2.1 0, 12, .inl (fun _ => 0))), (q2, .inl (z.2.2.1 0, 12, .inl (fun _ => 0)))])
  refine al_aload_n (j := 0) hC rfl rfl dX5_init_20 ?_
  refine al_bipush hC bi_12 dX5_init_21 ?_
  refine al_newa (b := ws) (k := 2) (n := 24) (v := 12) (l := [(h0, .inr (5, [.int 0, .ref q1, .ref q2, .null, .null, .null])), (q1, .inl (z.2.2.1 0, 12, .inl (fun _ => 0))), (q2, .inl (z.2.2.1 0, 12, .inl (fun _ => 0)))]) (a0 := (12, .inl (fun _ => 0))) (ty := .int) hC hR 0 gA_int rfl rfl (fun _ => rfl) (by decide) (by decide) (Nat.le_of_ble_eq_true rfl) ⟨Nat.le_of_ble_eq_true rfl, Nat.le_of_ble_eq_true rfl⟩ dX5_init_23 (fun q3 => ?_)
  show AL z x 1 _ 3 36 25 [(0, .ref h0)] [.ref q3, .ref h0] (ws ++ [(h0, .inr (5, [.int 0, .ref q1, .ref q2, .null, .null, .null])), (q1, .inl (z.2.2.1 0, 12, .inl (fun _ => 0))), (q2, .inl (z.2.2.1 0, 12, .inl (fun _ => 0))), (q3, .inl (z.2.2.1 0, 12, .inl (fun _ => 0)))])
  refine al_putF (b := ws) (v := .ref q3) (l := [(h0, .inr (5, [.int 0, .ref q1, .ref q2, .null, .null, .null])), (q1, .inl (z.2.2.1 0, 12, .inl (fun _ => 0))), (q2, .inl (z.2.2.1 0, 12, .inl (fun _ => 0))), (q3, .inl (z.2.2.1 0, 12, .inl (fun _ => 0)))]) (C := RX5) (T := TX5) (N := 6) (ci := 5) (j := 3) (ty := (.array .int)) (ty0 := tyX5) hC hni 0 dX5_init_25 inX5 tyX5_ok nmX5 rfl rfl (by decide) lf_X5_18 rfl rfl rfl (by decide +kernel) rfl rfl (Nat.le_of_ble_eq_true rfl) ?_
  show AL z x 1 _ 3 36 28 [(0, .ref h0)] [] (ws ++ [(h0, .inr (5, [.int 0, .ref q1, .ref q2, .ref q3, .null, .null])), (q1, .inl (z.2.2.1 0, 12, .inl (fun _ => 0))), (q2, .inl (z.2.2.1 0, 12, .inl (fun _ => 0))), (q3, .inl (z.2.2.1 0, 12, .inl (fun _ => 0)))])
  refine al_aload_n (j := 0) hC rfl rfl dX5_init_28 ?_
  refine al_bipush hC bi_12 dX5_init_29 ?_
  refine al_newa (b := ws) (k := 3) (n := 36) (v := 12) (l := [(h0, .inr (5, [.int 0, .ref q1, .ref q2, .ref q3, .null, .null])), (q1, .inl (z.2.2.1 0, 12, .inl (fun _ => 0))), (q2, .inl (z.2.2.1 0, 12, .inl (fun _ => 0))), (q3, .inl (z.2.2.1 0, 12, .inl (fun _ => 0)))]) (a0 := (12, .inl (fun _ => 0))) (ty := .int) hC hR 0 gA_int rfl rfl (fun _ => rfl) (by decide) (by decide) (Nat.le_of_ble_eq_true rfl) ⟨Nat.le_of_ble_eq_true rfl, Nat.le_of_ble_eq_true rfl⟩ dX5_init_31 (fun q4 => ?_)
  show AL z x 1 _ 4 48 33 [(0, .ref h0)] [.ref q4, .ref h0] (ws ++ [(h0, .inr (5, [.int 0, .ref q1, .ref q2, .ref q3, .null, .null])), (q1, .inl (z.2.2.1 0, 12, .inl (fun _ => 0))), (q2, .inl (z.2.2.1 0, 12, .inl (fun _ => 0))), (q3, .inl (z.2.2.1 0, 12, .inl (fun _ => 0))), (q4, .inl (z.2.2.1 0, 12, .inl (fun _ => 0)))])
  refine al_putF (b := ws) (v := .ref q4) (l := [(h0, .inr (5, [.int 0, .ref q1, .ref q2, .ref q3, .null, .null])), (q1, .inl (z.2.2.1 0, 12, .inl (fun _ => 0))), (q2, .inl (z.2.2.1 0, 12, .inl (fun _ => 0))), (q3, .inl (z.2.2.1 0, 12, .inl (fun _ => 0))), (q4, .inl (z.2.2.1 0, 12, .inl (fun _ => 0)))]) (C := RX5) (T := TX5) (N := 6) (ci := 5) (j := 4) (ty := (.array .int)) (ty0 := tyX5) hC hni 0 dX5_init_33 inX5 tyX5_ok nmX5 rfl rfl (by decide) lf_X5_21 rfl rfl rfl (by decide +kernel) rfl rfl (Nat.le_of_ble_eq_true rfl) ?_
  show AL z x 1 _ 4 48 36 [(0, .ref h0)] [] (ws ++ [(h0, .inr (5, [.int 0, .ref q1, .ref q2, .ref q3, .ref q4, .null])), (q1, .inl (z.2.2.1 0, 12, .inl (fun _ => 0))), (q2, .inl (z.2.2.1 0, 12, .inl (fun _ => 0))), (q3, .inl (z.2.2.1 0, 12, .inl (fun _ => 0))), (q4, .inl (z.2.2.1 0, 12, .inl (fun _ => 0)))])
  refine al_aload_n (j := 0) hC rfl rfl dX5_init_36 ?_
  refine al_bipush hC bi_12 dX5_init_37 ?_
  refine al_newa (b := ws) (k := 4) (n := 48) (v := 12) (l := [(h0, .inr (5, [.int 0, .ref q1, .ref q2, .ref q3, .ref q4, .null])), (q1, .inl (z.2.2.1 0, 12, .inl (fun _ => 0))), (q2, .inl (z.2.2.1 0, 12, .inl (fun _ => 0))), (q3, .inl (z.2.2.1 0, 12, .inl (fun _ => 0))), (q4, .inl (z.2.2.1 0, 12, .inl (fun _ => 0)))]) (a0 := (12, .inl (fun _ => 0))) (ty := .int) hC hR 0 gA_int rfl rfl (fun _ => rfl) (by decide) (by decide) (Nat.le_of_ble_eq_true rfl) ⟨Nat.le_of_ble_eq_true rfl, Nat.le_of_ble_eq_true rfl⟩ dX5_init_39 (fun q5 => ?_)
  show AL z x 1 _ 5 60 41 [(0, .ref h0)] [.ref q5, .ref h0] (ws ++ [(h0, .inr (5, [.int 0, .ref q1, .ref q2, .ref q3, .ref q4, .null])), (q1, .inl (z.2.2.1 0, 12, .inl (fun _ => 0))), (q2, .inl (z.2.2.1 0, 12, .inl (fun _ => 0))), (q3, .inl (z.2.2.1 0, 12, .inl (fun _ => 0))), (q4, .inl (z.2.2.1 0, 12, .inl (fun _ => 0))), (q5, .inl (z.2.2.1 0, 12, .inl (fun _ => 0)))])
  refine al_putF (b := ws) (v := .ref q5) (l := [(h0, .inr (5, [.int 0, .ref q1, .ref q2, .ref q3, .ref q4, .null])), (q1, .inl (z.2.2.1 0, 12, .inl (fun _ => 0))), (q2, .inl (z.2.2.1 0, 12, .inl (fun _ => 0))), (q3, .inl (z.2.2.1 0, 12, .inl (fun _ => 0))), (q4, .inl (z.2.2.1 0, 12, .inl (fun _ => 0))), (q5, .inl (z.2.2.1 0, 12, .inl (fun _ => 0)))]) (C := RX5) (T := TX5) (N := 6) (ci := 5) (j := 5) (ty := (.array .int)) (ty0 := tyX5) hC hni 0 dX5_init_41 inX5 tyX5_ok nmX5 rfl rfl (by decide) lf_X5_24 rfl rfl rfl (by decide +kernel) rfl rfl (Nat.le_of_ble_eq_true rfl) ?_
  show AL z x 1 _ 5 60 44 [(0, .ref h0)] [] (ws ++ [(h0, .inr (5, [.int 0, .ref q1, .ref q2, .ref q3, .ref q4, .ref q5])), (q1, .inl (z.2.2.1 0, 12, .inl (fun _ => 0))), (q2, .inl (z.2.2.1 0, 12, .inl (fun _ => 0))), (q3, .inl (z.2.2.1 0, 12, .inl (fun _ => 0))), (q4, .inl (z.2.2.1 0, 12, .inl (fun _ => 0))), (q5, .inl (z.2.2.1 0, 12, .inl (fun _ => 0)))])
  exact al_ret (b := ws) (k := 5) (n := 60) (mc := 5) (ms := 60) (post := fun nw => [(h0, .inr (5, [.int 0, .ref (nw 0), .ref (nw 1), .ref (nw 2), .ref (nw 3), .ref (nw 4)])), ((nw 0), .inl (z.2.2.1 0, 12, .inl (fun _ => 0))), ((nw 1), .inl (z.2.2.1 0, 12, .inl (fun _ => 0))), ((nw 2), .inl (z.2.2.1 0, 12, .inl (fun _ => 0))), ((nw 3), .inl (z.2.2.1 0, 12, .inl (fun _ => 0))), ((nw 4), .inl (z.2.2.1 0, 12, .inl (fun _ => 0)))]) (l := [(h0, .inr (5, [.int 0, .ref q1, .ref q2, .ref q3, .ref q4, .ref q5])), (q1, .inl (z.2.2.1 0, 12, .inl (fun _ => 0))), (q2, .inl (z.2.2.1 0, 12, .inl (fun _ => 0))), (q3, .inl (z.2.2.1 0, 12, .inl (fun _ => 0))), (q4, .inl (z.2.2.1 0, 12, .inl (fun _ => 0))), (q5, .inl (z.2.2.1 0, 12, .inl (fun _ => 0)))]) hC (fun k => (q1 :: q2 :: q3 :: q4 :: q5 :: [] : List Nat).getD k 0) rfl dX5_init_44 ⟨Nat.le_of_ble_eq_true rfl, Nat.le_of_ble_eq_true rfl⟩
theorem dX6_init_0 : decode cX6_init 0 = .ok (.aload_n 0, 1) := by decide +kernel
theorem dX6_init_1 : decode cX6_init 1 = .ok (.invokespecial 3, 3) := by decide +kernel
theorem dX6_init_4 : decode cX6_init 4 = .ok (.aload_n 0, 1) := by decide +kernel
theorem dX6_init_5 : decode cX6_init 5 = .ok (.bipush 100, 2) := by decide +kernel
theorem dX6_init_7 : decode cX6_init 7 = .ok (.newarray .int, 2) := by decide +kernel
theorem dX6_init_9 : decode cX6_init 9 = .ok (.putfield 9, 3) := by decide +kernel
theorem dX6_init_12 : decode cX6_init 12 = .ok (.aload_n 0, 1) := by decide +kernel
theorem dX6_init_13 : decode cX6_init 13 = .ok (.iconst 4, 1) := by decide +kernel
theorem dX6_init_14 : decode cX6_init 14 = .ok (.putfield 15, 3) := by decide +kernel
theorem dX6_init_17 : decode cX6_init 17 = .ok (.iconst 0, 1) := by decide +kernel
theorem dX6_init_18 : decode cX6_init 18 = .ok (.istore_n 1, 1) := by decide +kernel
theorem dX6_init_19 : decode cX6_init 19 = .ok (.iload_n 1, 1) := by decide +kernel
theorem dX6_init_20 : decode cX6_init 20 = .ok (.bipush 99, 2) := by decide +kernel
theorem dX6_init_22 : decode cX6_init 22 = .ok (.if_icmp .ge 19, 3) := by decide +kernel
theorem dX6_init_25 : decode cX6_init 25 = .ok (.aload_n 0, 1) := by decide +kernel
theorem dX6_init_26 : decode cX6_init 26 = .ok (.getfield 9, 3) := by decide +kernel
theorem dX6_init_29 : decode cX6_init 29 = .ok (.iload_n 1, 1) := by decide +kernel
theorem dX6_init_30 : decode cX6_init 30 = .ok (.bipush 10, 2) := by decide +kernel
theorem dX6_init_32 : decode cX6_init 32 = .ok (.iload_n 1, 1) := by decide +kernel
theorem dX6_init_33 : decode cX6_init 33 = .ok (.iadd, 1) := by decide +kernel
theorem dX6_init_34 : decode cX6_init 34 = .ok (.iastore, 1) := by decide +kernel
theorem dX6_init_35 : decode cX6_init 35 = .ok (.iinc 1 1, 3) := by decide +kernel
theorem dX6_init_38 : decode cX6_init 38 = .ok (.goto (-19), 3) := by decide +kernel
theorem dX6_init_41 : decode cX6_init 41 = .ok (.aload_n 0, 1) := by decide +kernel
theorem dX6_init_42 : decode cX6_init 42 = .ok (.getfield 9, 3) := by decide +kernel
theorem dX6_init_45 : decode cX6_init 45 = .ok (.bipush 99, 2) := by decide +kernel
theorem dX6_init_47 : decode cX6_init 47 = .ok (.sipush 1000, 3) := by decide +kernel
theorem dX6_init_50 : decode cX6_init 50 = .ok (.iastore, 1) := by decide +kernel
theorem dX6_init_51 : decode cX6_init 51 = .ok (.return_, 1) := by decide +kernel
theorem lko_X6_3 : Cond.methodLink RX6 3 Lib.objectInit ∈ GW ∧ .instanceMethod Lib.objectInit ∈ GW ∧ .code Lib.objectInit ⟨#[0xb1]⟩ 1 none ∈ GW := ⟨gw_t2 0 (by decide +kernel) (by decide +kernel), gw_t1 26 (by decide +kernel) (by decide +kernel), gw_t1 27 (by decide +kernel) (by decide +kernel)⟩
set_option maxRecDepth 100000 in
theorem c_X6_init {z : ZZ} {ws : va_W} (h0 : Nat) : CtI z yX6_init cX6_init 2 1 1 100 [.ref h0] ws [(h0, .inr (6, [.null, .int 0]))] (fun nw => [(h0, .inr (6, [.ref (nw 0), .int 4])), ((nw 0), .inl (z.2.2.1 0, 100, .inl (tab0)))]) := by
  refine CtI.of (by decide) rfl (Nat.le_of_ble_eq_true rfl) (fun ad x hC hR hni => ?_)
  show AL z x 2 _ 0 0 0 [(0, .ref h0)] [] (ws ++ [(h0, .inr (6, [.null, .int 0]))])
  refine al_aload_n (j := 0) hC rfl rfl dX6_init_0 ?_
  refine al_obj hC hR lko_X6_3 dX6_init_1 (by decide) (Nat.le_of_ble_eq_true rfl) ?_
  refine al_aload_n (j := 0) hC rfl rfl dX6_init_4 ?_
  refine al_bipush hC bi_100 dX6_init_5 ?_
  refine al_newa (b := ws) (k := 0) (n := 0) (v := 100) (l := [(h0, .inr (6, [.null, .int 0]))]) (a0 := (100, .inl (fun _ => 0))) (ty := .int) hC hR 0 gA_int rfl rfl (fun _ => rfl) (by decide) (by decide) (Nat.le_of_ble_eq_true rfl) ⟨Nat.le_of_ble_eq_true rfl, Nat.le_of_ble_eq_true rfl⟩ dX6_init_7 (fun q1 => ?_)
  show AL z x 2 _ 1 100 9 [(0, .ref h0)] [.ref q1, .ref h0] (ws ++ [(h0, .inr (6, [.null, .int 0])), (q1, .inl (z.2.2.1 0, 100, .inl (fun _ => 0)))])
  refine al_putF (b := ws) (v := .ref q1) (l := [(h0, .inr (6, [.null, .int 0])), (q1, .inl (z.2.2.1 0, 100, .inl (fun _ => 0)))]) (C := RX6) (T := TX6) (N := 2) (ci := 6) (j := 0) (ty := (.array .int)) (ty0 := tyX6) hC hni 0 dX6_init_9 inX6 tyX6_ok nmX6 rfl rfl (by decide) lf_X6_9 rfl rfl rfl (by decide +kernel) rfl rfl (Nat.le_of_ble_eq_true rfl) ?_
  show AL z x 2 _ 1 100 12 [(0, .ref h0)] [] (ws ++ [(h0, .inr (6, [.ref q1, .int 0])), (q1, .inl (z.2.2.1 0, 100, .inl (fun _ => 0)))])
  refine al_aload_n (j := 0) hC rfl rfl dX6_init_12 ?_
  refine al_iconst hC ic_4 dX6_init_13 ?_
  refine al_put (b := ws) (v := .int 4) (l := [(h0, .inr (6, [.ref q1, .int 0])), (q1, .inl (z.2.2.1 0, 100, .inl (fun _ => 0)))]) (C := RX6) (T := TX6) (N := 2) (ci := 6) (j := 1) (ty := .int) (ty0 := tyX6) hC 0 dX6_init_14 inX6 tyX6_ok nmX6 rfl rfl (by decide) lf_X6_15 rfl rfl (by decide +kernel) rfl rfl (Nat.le_of_ble_eq_true rfl) ?_
  show AL z x 2 _ 1 100 17 [(0, .ref h0)] [] (ws ++ [(h0, .inr (6, [.ref q1, .int 4])), (q1, .inl (z.2.2.1 0, 100, .inl (fun _ => 0)))])
  refine al_iconst hC ic_0 dX6_init_17 ?_
  refine al_istore_n (lv' := [(1, .int 0), (0, .ref h0)]) hC rfl dX6_init_18 (by decide) rfl ?_
  have key : ∀ (r i : Nat), i + r = 99 → AL z x 2 (QI z x ws (fun nw => [(h0, .inr (6, [.ref (nw 0), .int 4])), ((nw 0), .inl (z.2.2.1 0, 100, .inl (tab0)))]) 1 100) 1 100 19 [(1, .int (Int32.ofNat i)), (0, .ref h0)] [] (ws ++ [(h0, .inr (6, [.ref q1, .int 4])), (q1, .inl (z.2.2.1 0, 100, .inl (tabF i)))]) := by
    intro r
    induction r with
    | zero =>
      intro i hi
      have hi : i = 99 := by omega
      subst hi
      refine al_iload_n (j := 0) hC rfl rfl dX6_init_19 ?_
      refine al_bipush hC bi_99 dX6_init_20 ?_
      refine al_icmp_ge (tgt := 41) hC dX6_init_22 rfl (fun _ => ?_) (fun g => absurd (by decide) g)
      refine al_aload_n (j := 1) hC rfl rfl dX6_init_41 ?_
      refine al_get (v := .ref q1) (C := RX6) (T := TX6) (N := 2) (ci := 6) (j := 0) (l := [(h0, .inr (6, [.ref q1, .int 4])), (q1, .inl (z.2.2.1 0, 100, .inl (tabF 99)))]) hC 0 dX6_init_42 inX6 rfl rfl (by decide) lf_X6_9 rfl rfl ?_
      refine al_bipush hC bi_99 dX6_init_45 ?_
      refine al_sipush hC si_1000 dX6_init_47 ?_
      refine al_iast (b := ws) (ix := 99) (v := 1000) (l := [(h0, .inr (6, [.ref q1, .int 4])), (q1, .inl (z.2.2.1 0, 100, .inl (tabF 99)))]) hC 1 dX6_init_50 rfl (by unfold vp_in; decide) ?_
      exact al_ret (b := ws) (k := 1) (n := 100) (mc := 1) (ms := 100) (post := fun nw => [(h0, .inr (6, [.ref (nw 0), .int 4])), ((nw 0), .inl (z.2.2.1 0, 100, .inl (tab0)))]) (l := [(h0, .inr (6, [.ref q1, .int 4])), (q1, .inl (z.2.2.1 0, 100, .inl (tab0)))]) hC (fun k => (q1 :: [] : List Nat).getD k 0) rfl dX6_init_51 ⟨Nat.le_of_ble_eq_true rfl, Nat.le_of_ble_eq_true rfl⟩
    | succ r ih =>
      intro i hi
      have e1 : (Int32.ofNat i).toInt = (i : Int) := Int32.toInt_ofNat_of_lt (by omega)
      have hcl : (Int32.ofNat i).toNatClampNeg = i := by show (Int32.ofNat i).toInt.toNat = i; rw [e1]; rfl
      have hlt : ¬ (99 : Int32) ≤ Int32.ofNat i := by rw [Int32.not_le, Int32.lt_iff_toInt_lt, e1]; show (i : Int) < 99; omega
      have hin : vp_in (Int32.ofNat i) 100 := by
        rintro (g | g)
        · rw [Int32.lt_iff_toInt_lt, e1] at g; have g2 : ((i : Nat) : Int) < 0 := g; omega
        · rw [hcl] at g; omega
      refine al_iload_n (j := 0) hC rfl rfl dX6_init_19 ?_
      refine al_bipush hC bi_99 dX6_init_20 ?_
      refine al_icmp_ge (tgt := 41) hC dX6_init_22 rfl (fun g => absurd g hlt) (fun _ => ?_)
      refine al_aload_n (j := 1) hC rfl rfl dX6_init_25 ?_
      refine al_get (v := .ref q1) (C := RX6) (T := TX6) (N := 2) (ci := 6) (j := 0) (l := [(h0, .inr (6, [.ref q1, .int 4])), (q1, .inl (z.2.2.1 0, 100, .inl (tabF i)))]) hC 0 dX6_init_26 inX6 rfl rfl (by decide) lf_X6_9 rfl rfl ?_
      refine al_iload_n (j := 0) hC rfl rfl dX6_init_29 ?_
      refine al_bipush hC bi_10 dX6_init_30 ?_
      refine al_iload_n (j := 0) hC rfl rfl dX6_init_32 ?_
      refine al_iadd hC dX6_init_33 ?_
      refine al_iast (b := ws) (ix := Int32.ofNat i) (v := 10 + Int32.ofNat i) (l := [(h0, .inr (6, [.ref q1, .int 4])), (q1, .inl (z.2.2.1 0, 100, .inl (tabF i)))]) hC 1 dX6_init_34 rfl hin ?_
      refine al_iinc (j := 0) (v := Int32.ofNat i + 1) (lv' := [(1, .int (Int32.ofNat i + 1)), (0, .ref h0)]) hC dX6_init_35 rfl rfl (by decide) rfl ?_
      refine al_goto (tgt := 19) hC dX6_init_38 rfl ?_
      rw [hcl, show Int32.ofNat i + 1 = Int32.ofNat (i + 1) from (Int32.ofNat_add i 1).symm]
      exact ih (i + 1) (by omega)
  refine al_drop (lv' := [(1, .int (Int32.ofNat 0)), (0, .ref h0)]) [0, 1] rfl ?_
  exact key 99 0 (by omega)
theorem dX9_init_0 : decode cX9_init 0 = .ok (.aload_n 0, 1) := by decide +kernel
theorem dX9_init_1 : decode cX9_init 1 = .ok (.invokespecial 3, 3) := by decide +kernel
theorem dX9_init_4 : decode cX9_init 4 = .ok (.aload_n 0, 1) := by decide +kernel
theorem dX9_init_5 : decode cX9_init 5 = .ok (.iconst 4, 1) := by decide +kernel
theorem dX9_init_6 : decode cX9_init 6 = .ok (.newarray .int, 2) := by decide +kernel
theorem dX9_init_8 : decode cX9_init 8 = .ok (.putfield 9, 3) := by decide +kernel
theorem dX9_init_11 : decode cX9_init 11 = .ok (.aload_n 0, 1) := by decide +kernel
theorem dX9_init_12 : decode cX9_init 12 = .ok (.bipush 32, 2) := by decide +kernel
theorem dX9_init_14 : decode cX9_init 14 = .ok (.newarray .int, 2) := by decide +kernel
theorem dX9_init_16 : decode cX9_init 16 = .ok (.putfield 15, 3) := by decide +kernel
theorem dX9_init_19 : decode cX9_init 19 = .ok (.aload_n 0, 1) := by decide +kernel
theorem dX9_init_20 : decode cX9_init 20 = .ok (.bipush 32, 2) := by decide +kernel
theorem dX9_init_22 : decode cX9_init 22 = .ok (.newarray .int, 2) := by decide +kernel
theorem dX9_init_24 : decode cX9_init 24 = .ok (.putfield 18, 3) := by decide +kernel
theorem dX9_init_27 : decode cX9_init 27 = .ok (.aload_n 0, 1) := by decide +kernel
theorem dX9_init_28 : decode cX9_init 28 = .ok (.iconst 4, 1) := by decide +kernel
theorem dX9_init_29 : decode cX9_init 29 = .ok (.newarray .int, 2) := by decide +kernel
theorem dX9_init_31 : decode cX9_init 31 = .ok (.putfield 21, 3) := by decide +kernel
theorem dX9_init_34 : decode cX9_init 34 = .ok (.aload_n 0, 1) := by decide +kernel
theorem dX9_init_35 : decode cX9_init 35 = .ok (.iconst 4, 1) := by decide +kernel
theorem dX9_init_36 : decode cX9_init 36 = .ok (.newarray .int, 2) := by decide +kernel
theorem dX9_init_38 : decode cX9_init 38 = .ok (.putfield 24, 3) := by decide +kernel
theorem dX9_init_41 : decode cX9_init 41 = .ok (.aload_n 0, 1) := by decide +kernel
theorem dX9_init_42 : decode cX9_init 42 = .ok (.aload_n 1, 1) := by decide +kernel
theorem dX9_init_43 : decode cX9_init 43 = .ok (.putfield 27, 3) := by decide +kernel
theorem dX9_init_46 : decode cX9_init 46 = .ok (.return_, 1) := by decide +kernel
theorem lko_X9_3 : Cond.methodLink RX9 3 Lib.objectInit ∈ GW ∧ .instanceMethod Lib.objectInit ∈ GW ∧ .code Lib.objectInit ⟨#[0xb1]⟩ 1 none ∈ GW := ⟨gw_t2 15 (by decide +kernel) (by decide +kernel), gw_t1 26 (by decide +kernel) (by decide +kernel), gw_t1 27 (by decide +kernel) (by decide +kernel)⟩
theorem lf_X9_27 : Cond.fieldLink RX9 27 RX9 (TX9 0).2.1 (TX9 0).2.2.1 ∈ GW := gw_t2 16 (by decide +kernel) (by decide +kernel)
set_option maxRecDepth 100000 in
theorem c_X9_init {z : ZZ} {ws : va_W} (h0 p0 : Nat) : CtI z yX9_init cX9_init 2 1 5 76 [.ref h0, .ref p0] ws [(h0, .inr (9, [.null, .int 0, .null, .null, .null, .int 0, .null, .null]))] (fun nw => [(h0, .inr (9, [.ref p0, .int 0, .ref (nw 0), .ref (nw 1), .ref (nw 2), .int 0, .ref (nw 3), .ref (nw 4)])), ((nw 0), .inl (z.2.2.1 0, 4, .inl (fun _ => 0))), ((nw 1), .inl (z.2.2.1 0, 32, .inl (fun _ => 0))), ((nw 2), .inl (z.2.2.1 0, 32, .inl (fun _ => 0))), ((nw 3), .inl (z.2.2.1 0, 4, .inl (fun _ => 0))), ((nw 4), .inl (z.2.2.1 0, 4, .inl (fun _ => 0)))]) := by
  refine CtI.of (by decide) rfl (Nat.le_of_ble_eq_true rfl) (fun ad x hC hR hni => ?_)
  show AL z x 2 _ 0 0 0 [(0, .ref h0), (1, .ref p0)] [] (ws ++ [(h0, .inr (9, [.null, .int 0, .null, .null, .null, .int 0, .null, .null]))])
  refine al_aload_n (j := 0) hC rfl rfl dX9_init_0 ?_
  refine al_obj hC hR lko_X9_3 dX9_init_1 (by decide) (Nat.le_of_ble_eq_true rfl) ?_
  refine al_aload_n (j := 0) hC rfl rfl dX9_init_4 ?_
  refine al_iconst hC ic_4 dX9_init_5 ?_
  refine al_newa (b := ws) (k := 0) (n := 0) (v := 4) (l := [(h0, .inr (9, [.null, .int 0, .null, .null, .null, .int 0, .null, .null]))]) (a0 := (4, .inl (fun _ => 0))) (ty := .int) hC hR 0 gA_int rfl rfl (fun _ => rfl) (by decide) (by decide) (Nat.le_of_ble_eq_true rfl) ⟨Nat.le_of_ble_eq_true rfl, Nat.le_of_ble_eq_true rfl⟩ dX9_init_6 (fun q1 => ?_)
  show AL z x 2 _ 1 4 8 [(0, .ref h0), (1, .ref p0)] [.ref q1, .ref h0] (ws ++ [(h0, .inr (9, [.null, .int 0, .null, .null, .null, .int 0, .null, .null])), (q1, .inl (z.2.2.1 0, 4, .inl (fun _ => 0)))])
  refine al_putF (b := ws) (v := .ref q1) (l := [(h0, .inr (9, [.null, .int 0, .null, .null, .null, .int 0, .null, .null])), (q1, .inl (z.2.2.1 0, 4, .inl (fun _ => 0)))]) (C := RX9) (T := TX9) (N := 8) (ci := 9) (j := 2) (ty := (.array .int)) (ty0 := tyX9) hC hni 0 dX9_init_8 inX9 tyX9_ok nmX9 rfl rfl (by decide) lf_X9_9 rfl rfl rfl (by decide +kernel) rfl rfl (Nat.le_of_ble_eq_true rfl) ?_
  show AL z x 2 _ 1 4 11 [(0, .ref h0), (1, .ref p0)] [] (ws ++ [(h0, .inr (9, [.null, .int 0, .ref q1, .null, .null, .int 0, .null, .null])), (q1, .inl (z.2.2.1 0, 4, .inl (fun _ => 0)))])
  refine al_aload_n (j := 0) hC rfl rfl dX9_init_11 ?_
  refine al_bipush hC bi_32 dX9_init_12 ?_
  refine al_newa (b := ws) (k := 1) (n := 4) (v := 32) (l := [(h0, .inr (9, [.null, .int 0, .ref q1, .null, .null, .int 0, .null, .null])), (q1, .inl (z.2.2.1 0, 4, .inl (fun _ => 0)))]) (a0 := (32, .inl (fun _ => 0))) (ty := .int) hC hR 0 gA_int rfl rfl (fun _ => rfl) (by decide) (by decide) (Nat.le_of_ble_eq_true rfl) ⟨Nat.le_of_ble_eq_true rfl, Nat.le_of_ble_eq_true rfl⟩ dX9_init_14 (fun q2 => ?_)
  show AL z x 2 _ 2 36 16 [(0, .ref h0), (1, .ref p0)] [.ref q2, .ref h0] (ws ++ [(h0, .inr (9, [.null, .int 0, .ref q1, .null, .null, .int 0, .null, .null])), (q1, .inl (z.2.2.1 0, 4, .inl (fun _ => 0))), (q2, .inl (z.2.2.1 0, 32, .inl (fun _ => 0)))])
  refine al_putF (b := ws) (v := .ref q2) (l := [(h0, .inr (9, [.null, .int 0, .ref q1, .null, .null, .int 0, .null, .null])), (q1, .inl (z.2.2.1 0, 4, .inl (fun _ => 0))), (q2, .inl (z.2.2.1 0, 32, .inl (fun _ => 0)))]) (C := RX9) (T := TX9) (N := 8) (ci := 9) (j := 3) (ty := (.array .int)) (ty0 := tyX9) hC hni 0 dX9_init_16 inX9 tyX9_ok nmX9 rfl rfl (by decide) lf_X9_15 rfl rfl rfl (by decide +kernel) rfl rfl (Nat.le_of_ble_eq_true rfl) ?_
  show AL z x 2 _ 2 36 19 [(0, .ref h0), (1, .ref p0)] [] (ws ++ [(h0, .inr (9, [.null, .int 0, .ref q1, .ref q2, .null, .int 0, .null, .null])), (q1, .inl (z.2.2.1 0, 4, .inl (fun _ => 0))), (q2, .inl (z.2.2.1 0, 32, .inl (fun _ => 0)))])
  refine al_aload_n (j := 0) hC rfl rfl dX9_init_19 ?_
  refine al_bipush hC bi_32 dX9_init_20 ?_
  refine al_newa (b := ws) (k := 2) (n := 36) (v := 32) (l := [(h0, .inr (9, [.null, .int 0, .ref q1, .ref q2, .null, .int 0, .null, .null])), (q1, .inl (z.2.2.1 0, 4, .inl (fun _ => 0))), (q2, .inl (z.2.2.1 0, 32, .inl (fun _ => 0)))]) (a0 := (32, .inl (fun _ => 0))) (ty := .int) hC hR 0 gA_int rfl rfl (fun _ => rfl) (by decide) (by decide) (Nat.le_of_ble_eq_true rfl) ⟨Nat.le_of_ble_eq_true rfl, Nat.le_of_ble_eq_true rfl⟩ dX9_init_22 (fun q3 => ?_)
  show AL z x 2 _ 3 68 24 [(0, .ref h0), (1, .ref p0)] [.ref q3, .ref h0] (ws ++ [(h0, .inr (9, [.null, .int 0, .ref q1, .ref q2, .null, .int 0, .null, .null])), (q1, .inl (z.2.2.1 0, 4, .inl (fun _ => 0))), (q2, .inl (z.2.2.1 0, 32, .inl (fun _ => 0))), (q3, .inl (z.2.2.1 0, 32, .inl (fun _ => 0)))])
  refine al_putF (b := ws) (v := .ref q3) (l := [(h0, .inr (9, [.null, .int 0, .ref q1, .ref q2, .null, .int 0, .null, .null])), (q1, .inl (z.2.2.1 0, 4, .inl (fun _ => 0))), (q2, .inl (z.2.2.1 0, 32, .inl (fun _ => 0))), (q3, .inl (z.2.2.1 0, 32, .inl (fun _ => 0)))]) (C := RX9) (T := TX9) (N := 8) (ci := 9) (j := 4) (ty := (.array .int)) (ty0 := tyX9) hC hni 0 dX9_init_24 inX9 tyX9_ok nmX9 rfl rfl (by decide) lf_X9_18 rfl rfl rfl (by decide +kernel) rfl rfl (Nat.le_of_ble_eq_true rfl) ?_
  show AL z x 2 _ 3 68 27 [(0, .ref h0), (1, .ref p0)] [] (ws ++ [(h0, .inr (9, [.null, .int 0, .ref q1, .ref q2, .ref q3, .int 0, .null, .null])), (q1, .inl (z.2.2.1 0, 4, .inl (fun _ => 0))), (q2, .inl (z.2.2.1 0, 32, .inl (fun _ => 0))), (q3, .inl (z.2.2.1 0, 32, .inl (fun _ => 0)))])
  refine al_aload_n (j := 0) hC rfl rfl dX9_init_27 ?_
  refine al_iconst hC ic_4 dX9_init_28 ?_
  refine al_newa (b := ws) (k := 3) (n := 68) (v := 4) (l := [(h0, .inr (9, [.null, .int 0, .ref q1, .ref q2, .ref q3, .int 0, .null, .null])), (q1, .inl (z.2.2.1 0, 4, .inl (fun _ => 0))), (q2, .inl (z.2.2.1 0, 32, .inl (fun _ => 0))), (q3, .inl (z.2.2.1 0, 32, .inl (fun _ => 0)))]) (a0 := (4, .inl (fun _ => 0))) (ty := .int) hC hR 0 gA_int rfl rfl (fun _ => rfl) (by decide) (by decide) (Nat.le_of_ble_eq_true rfl) ⟨Nat.le_of_ble_eq_true rfl, Nat.le_of_ble_eq_true rfl⟩ dX9_init_29 (fun q4 => ?_)
  show AL z x 2 _ 4 72 31 [(0, .ref h0), (1, .ref p0)] [.ref q4, .ref h0] (ws ++ [(h0, .inr (9, [.null, .int 0, .ref q1, .ref q2, .ref q3, .int 0, .null, .null])), (q1, .inl (z.2.2.1 0, 4, .inl (fun _ => 0))), (q2, .inl (z.2.2.1 0, 32, .inl (fun _ => 0))), (q3, .inl (z.2.2.1 0, 32, .inl (fun _ => 0))), (q4, .inl (z.2.2.1 0, 4, .inl (fun _ => 0)))])
  refine al_putF (b := ws) (v := .ref q4) (l := [(h0, .inr (9, [.null, .int 0, .ref q1, .ref q2, .ref q3, .int 0, .null, .null])), (q1, .inl (z.2.2.1 0, 4, .inl (fun _ => 0))), (q2, .inl (z.2.2.1 0, 32, .inl (fun _ => 0))), (q3, .inl (z.2.2.1 0, 32, .inl (fun _ => 0))), (q4, .inl (z.2.2.1 0, 4, .inl (fun _ => 0)))]) (C := RX9) (T := TX9) (N := 8) (ci := 9) (j := 6) (ty := (.array .int)) (ty0 := tyX9) hC hni 0 dX9_init_31 inX9 tyX9_ok nmX9 rfl rfl (by decide) lf_X9_21 rfl rfl rfl (by decide +kernel) rfl rfl (Nat.le_of_ble_eq_true rfl) ?_
  show AL z x 2 _ 4 72 34 [(0, .ref h0), (1, .ref p0)] [] (ws ++ [(h0, .inr (9, [.null, .int 0, .ref q1, .ref q2, .ref q3, .int 0, .ref q4, .null])), (q1, .inl (z.2.2.1 0, 4, .inl (fun _ => 0))), (q2, .inl (z.2.2.1 0, 32, .inl (fun _ => 0))), (q3, .inl (z.2.2.1 0, 32, .inl (fun _ => 0))), (q4, .inl (z.2.2.1 0, 4, .inl (fun _ => 0)))])
  refine al_aload_n (j := 0) hC rfl rfl dX9_init_34 ?_
  refine al_iconst hC ic_4 dX9_init_35 ?_
  refine al_newa (b := ws) (k := 4) (n := 72) (v := 4) (l := [(h0, .inr (9, [.null, .int 0, .ref q1, .ref q2, .ref q3, .int 0, .ref q4, .null])), (q1, .inl (z.2.2.1 0, 4, .inl (fun _ => 0))), (q2, .inl (z.2.2.1 0, 32, .inl (fun _ => 0))), (q3, .inl (z.2.2.1 0, 32, .inl (fun _ => 0))), (q4, .inl (z.2.2.1 0, 4, .inl (fun _ => 0)))]) (a0 := (4, .inl (fun _ => 0))) (ty := .int) hC hR 0 gA_int rfl rfl (fun _ => rfl) (by decide) (by decide) (Nat.le_of_ble_eq_true rfl) ⟨Nat.le_of_ble_eq_true rfl, Nat.le_of_ble_eq_true rfl⟩ dX9_init_36 (fun q5 => ?_)
  show AL z x 2 _ 5 76 38 [(0, .ref h0), (1, .ref p0)] [.ref q5, .ref h0] (ws ++ [(h0, .inr (9, [.null, .int 0, .ref q1, .ref q2, .ref q3, .int 0, .ref q4, .null])), (q1, .inl (z.2.2.1 0, 4, .inl (fun _ => 0))), (q2, .inl (z.2.2.1 0, 32, .inl (fun _ => 0))), (q3, .inl (z.2.2.1 0, 32, .inl (fun _ => 0))), (q4, .inl (z.2.2.1 0, 4, .inl (fun _ => 0))), (q5, .inl (z.2.2.1 0, 4, .inl (fun _ => 0)))])
  refine al_putF (b := ws) (v := .ref q5) (l := [(h0, .inr (9, [.null, .int 0, .ref q1, .ref q2, .ref q3, .int 0, .ref q4, .null])), (q1, .inl (z.2.2.1 0, 4, .inl (fun _ => 0))), (q2, .inl (z.2.2.1 0, 32, .inl (fun _ => 0))), (q3, .inl (z.2.2.1 0, 32, .inl (fun _ => 0))), (q4, .inl (z.2.2.1 0, 4, .inl (fun _ => 0))), (q5, .inl (z.2.2.1 0, 4, .inl (fun _ => 0)))]) (C := RX9) (T := TX9) (N := 8) (ci := 9) (j := 7) (ty := (.array .int)) (ty0 := tyX9) hC hni 0 dX9_init_38 inX9 tyX9_ok nmX9 rfl rfl (by decide) lf_X9_24 rfl rfl rfl (by decide +kernel) rfl rfl (Nat.le_of_ble_eq_true rfl) ?_
  show AL z x 2 _ 5 76 41 [(0, .ref h0), (1, .ref p0)] [] (ws ++ [(h0, .inr (9, [.null, .int 0, .ref q1, .ref q2, .ref q3, .int 0, .ref q4, .ref q5])), (q1, .inl (z.2.2.1 0, 4, .inl (fun _ => 0))), (q2, .inl (z.2.2.1 0, 32, .inl (fun _ => 0))), (q3, .inl (z.2.2.1 0, 32, .inl (fun _ => 0))), (q4, .inl (z.2.2.1 0, 4, .inl (fun _ => 0))), (q5, .inl (z.2.2.1 0, 4, .inl (fun _ => 0)))])
  refine al_aload_n (j := 0) hC rfl rfl dX9_init_41 ?_
  refine al_aload_n (j := 1) hC rfl rfl dX9_init_42 ?_
  refine al_putF (b := ws) (v := .ref p0) (l := [(h0, .inr (9, [.null, .int 0, .ref q1, .ref q2, .ref q3, .int 0, .ref q4, .ref q5])), (q1, .inl (z.2.2.1 0, 4, .inl (fun _ => 0))), (q2, .inl (z.2.2.1 0, 32, .inl (fun _ => 0))), (q3, .inl (z.2.2.1 0, 32, .inl (fun _ => 0))), (q4, .inl (z.2.2.1 0, 4, .inl (fun _ => 0))), (q5, .inl (z.2.2.1 0, 4, .inl (fun _ => 0)))]) (C := RX9) (T := TX9) (N := 8) (ci := 9) (j := 0) (ty := (.object "WidowsFund$Book")) (ty0 := tyX9) hC hni 0 dX9_init_43 inX9 tyX9_ok nmX9 rfl rfl (by decide) lf_X9_27 rfl rfl rfl (by decide +kernel) rfl rfl (Nat.le_of_ble_eq_true rfl) ?_
  show AL z x 2 _ 5 76 46 [(0, .ref h0), (1, .ref p0)] [] (ws ++ [(h0, .inr (9, [.ref p0, .int 0, .ref q1, .ref q2, .ref q3, .int 0, .ref q4, .ref q5])), (q1, .inl (z.2.2.1 0, 4, .inl (fun _ => 0))), (q2, .inl (z.2.2.1 0, 32, .inl (fun _ => 0))), (q3, .inl (z.2.2.1 0, 32, .inl (fun _ => 0))), (q4, .inl (z.2.2.1 0, 4, .inl (fun _ => 0))), (q5, .inl (z.2.2.1 0, 4, .inl (fun _ => 0)))])
  exact al_ret (b := ws) (k := 5) (n := 76) (mc := 5) (ms := 76) (post := fun nw => [(h0, .inr (9, [.ref p0, .int 0, .ref (nw 0), .ref (nw 1), .ref (nw 2), .int 0, .ref (nw 3), .ref (nw 4)])), ((nw 0), .inl (z.2.2.1 0, 4, .inl (fun _ => 0))), ((nw 1), .inl (z.2.2.1 0, 32, .inl (fun _ => 0))), ((nw 2), .inl (z.2.2.1 0, 32, .inl (fun _ => 0))), ((nw 3), .inl (z.2.2.1 0, 4, .inl (fun _ => 0))), ((nw 4), .inl (z.2.2.1 0, 4, .inl (fun _ => 0)))]) (l := [(h0, .inr (9, [.ref p0, .int 0, .ref q1, .ref q2, .ref q3, .int 0, .ref q4, .ref q5])), (q1, .inl (z.2.2.1 0, 4, .inl (fun _ => 0))), (q2, .inl (z.2.2.1 0, 32, .inl (fun _ => 0))), (q3, .inl (z.2.2.1 0, 32, .inl (fun _ => 0))), (q4, .inl (z.2.2.1 0, 4, .inl (fun _ => 0))), (q5, .inl (z.2.2.1 0, 4, .inl (fun _ => 0)))]) hC (fun k => (q1 :: q2 :: q3 :: q4 :: q5 :: [] : List Nat).getD k 0) rfl dX9_init_46 ⟨Nat.le_of_ble_eq_true rfl, Nat.le_of_ble_eq_true rfl⟩
theorem dX2_init_0 : decode cX2_init 0 = .ok (.aload_n 0, 1) := by decide +kernel
theorem dX2_init_1 : decode cX2_init 1 = .ok (.invokespecial 3, 3) := by decide +kernel
theorem dX2_init_4 : decode cX2_init 4 = .ok (.aload_n 0, 1) := by decide +kernel
theorem dX2_init_5 : decode cX2_init 5 = .ok (.bipush 24, 2) := by decide +kernel
theorem dX2_init_7 : decode cX2_init 7 = .ok (.newarray .boolean, 2) := by decide +kernel
theorem dX2_init_9 : decode cX2_init 9 = .ok (.putfield 9, 3) := by decide +kernel
theorem dX2_init_12 : decode cX2_init 12 = .ok (.aload_n 0, 1) := by decide +kernel
theorem dX2_init_13 : decode cX2_init 13 = .ok (.aload_n 1, 1) := by decide +kernel
theorem dX2_init_14 : decode cX2_init 14 = .ok (.putfield 15, 3) := by decide +kernel
theorem dX2_init_17 : decode cX2_init 17 = .ok (.aload_n 0, 1) := by decide +kernel
theorem dX2_init_18 : decode cX2_init 18 = .ok (.aload_n 2, 1) := by decide +kernel
theorem dX2_init_19 : decode cX2_init 19 = .ok (.putfield 19, 3) := by decide +kernel
theorem dX2_init_22 : decode cX2_init 22 = .ok (.aload_n 0, 1) := by decide +kernel
theorem dX2_init_23 : decode cX2_init 23 = .ok (.aload_n 3, 1) := by decide +kernel
theorem dX2_init_24 : decode cX2_init 24 = .ok (.putfield 23, 3) := by decide +kernel
theorem dX2_init_27 : decode cX2_init 27 = .ok (.aload_n 0, 1) := by decide +kernel
theorem dX2_init_28 : decode cX2_init 28 = .ok (.aload 4, 2) := by decide +kernel
theorem dX2_init_30 : decode cX2_init 30 = .ok (.putfield 27, 3) := by decide +kernel
theorem dX2_init_33 : decode cX2_init 33 = .ok (.aload_n 0, 1) := by decide +kernel
theorem dX2_init_34 : decode cX2_init 34 = .ok (.aload 5, 2) := by decide +kernel
theorem dX2_init_36 : decode cX2_init 36 = .ok (.putfield 31, 3) := by decide +kernel
theorem dX2_init_39 : decode cX2_init 39 = .ok (.return_, 1) := by decide +kernel
theorem lko_X2_3 : Cond.methodLink RX2 3 Lib.objectInit ∈ GW ∧ .instanceMethod Lib.objectInit ∈ GW ∧ .code Lib.objectInit ⟨#[0xb1]⟩ 1 none ∈ GW := ⟨gw_t2 49 (by decide +kernel) (by decide +kernel), gw_t1 26 (by decide +kernel) (by decide +kernel), gw_t1 27 (by decide +kernel) (by decide +kernel)⟩
set_option maxRecDepth 100000 in
theorem c_X2_init {z : ZZ} {ws : va_W} (h0 p0 p1 p2 p3 p4 : Nat) : CtI z yX2_init cX2_init 6 1 1 24 [.ref h0, .ref p0, .ref p1, .ref p2, .ref p3, .ref p4] ws [(h0, .inr (2, [.null, .null, .null, .null, .null, .int 0, .null, .int 0]))] (fun nw => [(h0, .inr (2, [.ref p0, .ref p1, .ref p2, .ref p3, .ref p4, .int 0, .ref (nw 0), .int 0])), ((nw 0), .inl (z.2.2.1 1, 24, .inl (fun _ => 0)))]) := by
  refine CtI.of (by decide) rfl (Nat.le_of_ble_eq_true rfl) (fun ad x hC hR hni => ?_)
  show AL z x 6 _ 0 0 0 [(0, .ref h0), (1, .ref p0), (2, .ref p1), (3, .ref p2), (4, .ref p3), (5, .ref p4)] [] (ws ++ [(h0, .inr (2, [.null, .null, .null, .null, .null, .int 0, .null, .int 0]))])
  refine al_aload_n (j := 0) hC rfl rfl dX2_init_0 ?_
  refine al_obj hC hR lko_X2_3 dX2_init_1 (by decide) (Nat.le_of_ble_eq_true rfl) ?_
  refine al_aload_n (j := 0) hC rfl rfl dX2_init_4 ?_
  refine al_bipush hC bi_24 dX2_init_5 ?_
  refine al_newa (b := ws) (k := 0) (n := 0) (v := 24) (l := [(h0, .inr (2, [.null, .null, .null, .null, .null, .int 0, .null, .int 0]))]) (a0 := (24, .inl (fun _ => 0))) (ty := .boolean) hC hR 1 gA_boolean rfl rfl (fun _ => rfl) (by decide) (by decide) (Nat.le_of_ble_eq_true rfl) ⟨Nat.le_of_ble_eq_true rfl, Nat.le_of_ble_eq_true rfl⟩ dX2_init_7 (fun q1 => ?_)
  show AL z x 6 _ 1 24 9 [(0, .ref h0), (1, .ref p0), (2, .ref p1), (3, .ref p2), (4, .ref p3), (5, .ref p4)] [.ref q1, .ref h0] (ws ++ [(h0, .inr (2, [.null, .null, .null, .null, .null, .int 0, .null, .int 0])), (q1, .inl (z.2.2.1 1, 24, .inl (fun _ => 0)))])
  refine al_putF (b := ws) (v := .ref q1) (l := [(h0, .inr (2, [.null, .null, .null, .null, .null, .int 0, .null, .int 0])), (q1, .inl (z.2.2.1 1, 24, .inl (fun _ => 0)))]) (C := RX2) (T := TX2) (N := 8) (ci := 2) (j := 6) (ty := (.array .boolean)) (ty0 := tyX2) hC hni 0 dX2_init_9 inX2 tyX2_ok nmX2 rfl rfl (by decide) lf_X2_9 rfl rfl rfl (by decide +kernel) rfl rfl (Nat.le_of_ble_eq_true rfl) ?_
  show AL z x 6 _ 1 24 12 [(0, .ref h0), (1, .ref p0), (2, .ref p1), (3, .ref p2), (4, .ref p3), (5, .ref p4)] [] (ws ++ [(h0, .inr (2, [.null, .null, .null, .null, .null, .int 0, .ref q1, .int 0])), (q1, .inl (z.2.2.1 1, 24, .inl (fun _ => 0)))])
  refine al_aload_n (j := 0) hC rfl rfl dX2_init_12 ?_
  refine al_aload_n (j := 1) hC rfl rfl dX2_init_13 ?_
  refine al_putF (b := ws) (v := .ref p0) (l := [(h0, .inr (2, [.null, .null, .null, .null, .null, .int 0, .ref q1, .int 0])), (q1, .inl (z.2.2.1 1, 24, .inl (fun _ => 0)))]) (C := RX2) (T := TX2) (N := 8) (ci := 2) (j := 0) (ty := (.object "WidowsFund$Book")) (ty0 := tyX2) hC hni 0 dX2_init_14 inX2 tyX2_ok nmX2 rfl rfl (by decide) lf_X2_15 rfl rfl rfl (by decide +kernel) rfl rfl (Nat.le_of_ble_eq_true rfl) ?_
  show AL z x 6 _ 1 24 17 [(0, .ref h0), (1, .ref p0), (2, .ref p1), (3, .ref p2), (4, .ref p3), (5, .ref p4)] [] (ws ++ [(h0, .inr (2, [.ref p0, .null, .null, .null, .null, .int 0, .ref q1, .int 0])), (q1, .inl (z.2.2.1 1, 24, .inl (fun _ => 0)))])
  refine al_aload_n (j := 0) hC rfl rfl dX2_init_17 ?_
  refine al_aload_n (j := 2) hC rfl rfl dX2_init_18 ?_
  refine al_putF (b := ws) (v := .ref p1) (l := [(h0, .inr (2, [.ref p0, .null, .null, .null, .null, .int 0, .ref q1, .int 0])), (q1, .inl (z.2.2.1 1, 24, .inl (fun _ => 0)))]) (C := RX2) (T := TX2) (N := 8) (ci := 2) (j := 1) (ty := (.object "WidowsFund$Lives")) (ty0 := tyX2) hC hni 0 dX2_init_19 inX2 tyX2_ok nmX2 rfl rfl (by decide) lf_X2_19 rfl rfl rfl (by decide +kernel) rfl rfl (Nat.le_of_ble_eq_true rfl) ?_
  show AL z x 6 _ 1 24 22 [(0, .ref h0), (1, .ref p0), (2, .ref p1), (3, .ref p2), (4, .ref p3), (5, .ref p4)] [] (ws ++ [(h0, .inr (2, [.ref p0, .ref p1, .null, .null, .null, .int 0, .ref q1, .int 0])), (q1, .inl (z.2.2.1 1, 24, .inl (fun _ => 0)))])
  refine al_aload_n (j := 0) hC rfl rfl dX2_init_22 ?_
  refine al_aload_n (j := 3) hC rfl rfl dX2_init_23 ?_
  refine al_putF (b := ws) (v := .ref p2) (l := [(h0, .inr (2, [.ref p0, .ref p1, .null, .null, .null, .int 0, .ref q1, .int 0])), (q1, .inl (z.2.2.1 1, 24, .inl (fun _ => 0)))]) (C := RX2) (T := TX2) (N := 8) (ci := 2) (j := 2) (ty := (.object "WidowsFund$Laws")) (ty0 := tyX2) hC hni 0 dX2_init_24 inX2 tyX2_ok nmX2 rfl rfl (by decide) lf_X2_23 rfl rfl rfl (by decide +kernel) rfl rfl (Nat.le_of_ble_eq_true rfl) ?_
  show AL z x 6 _ 1 24 27 [(0, .ref h0), (1, .ref p0), (2, .ref p1), (3, .ref p2), (4, .ref p3), (5, .ref p4)] [] (ws ++ [(h0, .inr (2, [.ref p0, .ref p1, .ref p2, .null, .null, .int 0, .ref q1, .int 0])), (q1, .inl (z.2.2.1 1, 24, .inl (fun _ => 0)))])
  refine al_aload_n (j := 0) hC rfl rfl dX2_init_27 ?_
  refine al_aload (j := 4) hC rfl dX2_init_28 ?_
  refine al_putF (b := ws) (v := .ref p3) (l := [(h0, .inr (2, [.ref p0, .ref p1, .ref p2, .null, .null, .int 0, .ref q1, .int 0])), (q1, .inl (z.2.2.1 1, 24, .inl (fun _ => 0)))]) (C := RX2) (T := TX2) (N := 8) (ci := 2) (j := 3) (ty := (.object "WidowsFund$Loans")) (ty0 := tyX2) hC hni 0 dX2_init_30 inX2 tyX2_ok nmX2 rfl rfl (by decide) lf_X2_27 rfl rfl rfl (by decide +kernel) rfl rfl (Nat.le_of_ble_eq_true rfl) ?_
  show AL z x 6 _ 1 24 33 [(0, .ref h0), (1, .ref p0), (2, .ref p1), (3, .ref p2), (4, .ref p3), (5, .ref p4)] [] (ws ++ [(h0, .inr (2, [.ref p0, .ref p1, .ref p2, .ref p3, .null, .int 0, .ref q1, .int 0])), (q1, .inl (z.2.2.1 1, 24, .inl (fun _ => 0)))])
  refine al_aload_n (j := 0) hC rfl rfl dX2_init_33 ?_
  refine al_aload (j := 5) hC rfl dX2_init_34 ?_
  refine al_putF (b := ws) (v := .ref p4) (l := [(h0, .inr (2, [.ref p0, .ref p1, .ref p2, .ref p3, .null, .int 0, .ref q1, .int 0])), (q1, .inl (z.2.2.1 1, 24, .inl (fun _ => 0)))]) (C := RX2) (T := TX2) (N := 8) (ci := 2) (j := 4) (ty := (.object "WidowsFund$Trials")) (ty0 := tyX2) hC hni 0 dX2_init_36 inX2 tyX2_ok nmX2 rfl rfl (by decide) lf_X2_31 rfl rfl rfl (by decide +kernel) rfl rfl (Nat.le_of_ble_eq_true rfl) ?_
  show AL z x 6 _ 1 24 39 [(0, .ref h0), (1, .ref p0), (2, .ref p1), (3, .ref p2), (4, .ref p3), (5, .ref p4)] [] (ws ++ [(h0, .inr (2, [.ref p0, .ref p1, .ref p2, .ref p3, .ref p4, .int 0, .ref q1, .int 0])), (q1, .inl (z.2.2.1 1, 24, .inl (fun _ => 0)))])
  exact al_ret (b := ws) (k := 1) (n := 24) (mc := 1) (ms := 24) (post := fun nw => [(h0, .inr (2, [.ref p0, .ref p1, .ref p2, .ref p3, .ref p4, .int 0, .ref (nw 0), .int 0])), ((nw 0), .inl (z.2.2.1 1, 24, .inl (fun _ => 0)))]) (l := [(h0, .inr (2, [.ref p0, .ref p1, .ref p2, .ref p3, .ref p4, .int 0, .ref q1, .int 0])), (q1, .inl (z.2.2.1 1, 24, .inl (fun _ => 0)))]) hC (fun k => (q1 :: [] : List Nat).getD k 0) rfl dX2_init_39 ⟨Nat.le_of_ble_eq_true rfl, Nat.le_of_ble_eq_true rfl⟩
theorem dX8_init_0 : decode cX8_init 0 = .ok (.aload_n 0, 1) := by decide +kernel
theorem dX8_init_1 : decode cX8_init 1 = .ok (.invokespecial 3, 3) := by decide +kernel
theorem dX8_init_4 : decode cX8_init 4 = .ok (.aload_n 0, 1) := by decide +kernel
theorem dX8_init_5 : decode cX8_init 5 = .ok (.bipush 73, 2) := by decide +kernel
theorem dX8_init_7 : decode cX8_init 7 = .ok (.newarray .long, 2) := by decide +kernel
theorem dX8_init_9 : decode cX8_init 9 = .ok (.putfield 11, 3) := by decide +kernel
theorem dX8_init_12 : decode cX8_init 12 = .ok (.return_, 1) := by decide +kernel
theorem lko_X8_3 : Cond.methodLink RX8 3 Lib.objectInit ∈ GW ∧ .instanceMethod Lib.objectInit ∈ GW ∧ .code Lib.objectInit ⟨#[0xb1]⟩ 1 none ∈ GW := ⟨gw_t2 83 (by decide +kernel) (by decide +kernel), gw_t1 26 (by decide +kernel) (by decide +kernel), gw_t1 27 (by decide +kernel) (by decide +kernel)⟩
theorem bi_73 : (Int8.ofInt (73)).toInt32 = (73 : Int32) := by decide
set_option maxRecDepth 100000 in
theorem c_X8_init {z : ZZ} {ws : va_W} (h0 : Nat) : CtI z yX8_init cX8_init 1 1 1 73 [.ref h0] ws [(h0, .inr (8, [.null]))] (fun nw => [(h0, .inr (8, [.ref (nw 0)])), ((nw 0), .inl (z.2.2.1 2, 73, .inr (.inl (fun _ => 0))))]) := by
  refine CtI.of (by decide) rfl (Nat.le_of_ble_eq_true rfl) (fun ad x hC hR hni => ?_)
  show AL z x 1 _ 0 0 0 [(0, .ref h0)] [] (ws ++ [(h0, .inr (8, [.null]))])
  refine al_aload_n (j := 0) hC rfl rfl dX8_init_0 ?_
  refine al_obj hC hR lko_X8_3 dX8_init_1 (by decide) (Nat.le_of_ble_eq_true rfl) ?_
  refine al_aload_n (j := 0) hC rfl rfl dX8_init_4 ?_
  refine al_bipush hC bi_73 dX8_init_5 ?_
  refine al_newa (b := ws) (k := 0) (n := 0) (v := 73) (l := [(h0, .inr (8, [.null]))]) (a0 := (73, .inr (.inl (fun _ => 0)))) (ty := .long) hC hR 2 gA_long rfl rfl (fun _ => rfl) (by decide) (by decide) (Nat.le_of_ble_eq_true rfl) ⟨Nat.le_of_ble_eq_true rfl, Nat.le_of_ble_eq_true rfl⟩ dX8_init_7 (fun q1 => ?_)
  show AL z x 1 _ 1 73 9 [(0, .ref h0)] [.ref q1, .ref h0] (ws ++ [(h0, .inr (8, [.null])), (q1, .inl (z.2.2.1 2, 73, .inr (.inl (fun _ => 0))))])
  refine al_putF (b := ws) (v := .ref q1) (l := [(h0, .inr (8, [.null])), (q1, .inl (z.2.2.1 2, 73, .inr (.inl (fun _ => 0))))]) (C := RX8) (T := TX8) (N := 1) (ci := 8) (j := 0) (ty := (.array .long)) (ty0 := tyX8) hC hni 0 dX8_init_9 inX8 tyX8_ok nmX8 rfl rfl (by decide) lf_X8_11 rfl rfl rfl (by decide +kernel) rfl rfl (Nat.le_of_ble_eq_true rfl) ?_
  show AL z x 1 _ 1 73 12 [(0, .ref h0)] [] (ws ++ [(h0, .inr (8, [.ref q1])), (q1, .inl (z.2.2.1 2, 73, .inr (.inl (fun _ => 0))))])
  exact al_ret (b := ws) (k := 1) (n := 73) (mc := 1) (ms := 73) (post := fun nw => [(h0, .inr (8, [.ref (nw 0)])), ((nw 0), .inl (z.2.2.1 2, 73, .inr (.inl (fun _ => 0))))]) (l := [(h0, .inr (8, [.ref q1])), (q1, .inl (z.2.2.1 2, 73, .inr (.inl (fun _ => 0))))]) hC (fun k => (q1 :: [] : List Nat).getD k 0) rfl dX8_init_12 ⟨Nat.le_of_ble_eq_true rfl, Nat.le_of_ble_eq_true rfl⟩
