-- ===== end of PART A; then your names; then what follows =====
/-! THE CLAIM OUT OF ONE WALK OF THE LAW'S BODY. Your part is whole_start (and what it stands on); all else here is the same for every law, but numbers. -/
def R_law : String := "WidowsFundLaw"
def lw_P (b : Addr) (xs : List Int32) (args : Array Value) (s : State) : Prop := args = #[.ref b] ∧ s.IntsAt b xs ∧ xs.length ≤ 2560 ∧ (Jvm.Cond.and given_1 narrow_1).before args s = true
def lw_Q (_ : Array Value) (s : State) (o : Outcome) (t : State) : Prop := o = .returned (some (.int 1)) ∧ Framed s o t [] 600000 7302250
def lw_Z (below : List Frame) (a : Array Value) (s : State) : State → Prop := fun t => ∃ o, t.status = .running ∧ Ended t below o ∧ lw_Q a s o t
/-- the law's own end, with 1 on the stack, nothing written that was there before, its room as the claim has it -/
theorem lw_ret {p : Program} {l : Launch} {e : Env} {s : State} {m : MethodId} {below : List Frame} {meth : Method} {c : Code} {b : Nat} (hx : p.tables.exec = Jvm.exec) (hb : c.code = code) (hr : meth.sig.returnType = ret) (hlocks : meth.locks = false) {pc : Nat} {H : Heap} {ls : Array Slot} (hdg : decode code pc = .ok (.ireturn, 1)) : W p l e room_1 s m #[Value.ref b] below meth c H [] 600000 7302250 (lw_Z below #[Value.ref b] s) (F0 m pc ls [.int 1]) := by
  intro T hT X
  obtain ⟨fs, hret, hrun, hended, hW, hframe⟩ := X.leave (v := some (.int 1)) (hlocks := hlocks) (fun h => by rw [hr] at h; cases h)
  have hmeth' : T.vm.method? m = some meth := X.method'
  refine ⟨T.setFrames fs, ?_, .returned (some (.int 1)), hrun, hended, rfl, ⟨_, rfl⟩, hW, hframe⟩
  jvm_step X.here [X.here.top, hx, hb, hdg, hmeth', hr, ret, narrow_b1]
  (try refine ⟨rfl, ?_⟩); (try refine ⟨rfl, ?_⟩)
  first | (intro acts; rw [hret _ acts rfl rfl rfl]) | rw [hret _ _ rfl rfl rfl]
  exact Steps.refl _
/-- what holds at the law's entry: the machine, the code, the tables' words (any of lw_tbl by 'hts w (by decide +kernel)'), the script of L ints xs at the cell b, what the Statement gives of the start (any of its parts by flat_of_before) -/
def lw_At (p : Program) (s : State) (m : MethodId) (meth : Method) (c : Code) (b L : Nat) (xs : Nat → Int32) : Prop :=
  p.tables.exec = Jvm.exec ∧ c.code = code ∧ meth.sig.returnType = ret ∧ c.maxLocals = 4 ∧ s.vm.findClass R_law = some m.cls ∧ (∀ w ∈ lw_tbl, w.before #[Value.ref b] s = true) ∧ va_X b L xs s s.heap ∧ b < s.heap.size ∧ meth.locks = false ∧ (Jvm.Cond.and given_1 narrow_1).before #[Value.ref b] s = true

def s0 : MS := (fun j => if j = 34 then 4 else 0, fun j => if j = 33 then tab0 else if j = 51 then upd (upd (upd (upd (fun _ => 0) (0 : Int32).toNatClampNeg 100) (1 : Int32).toNatClampNeg 100) (2 : Int32).toNatClampNeg 100) (3 : Int32).toNatClampNeg 100 else fun _ => 0, fun _ => 0)
def t0 : XS := (fun j => if j = 601 then 4 else 0, fun j => if j = 600 then tab0 else fun _ => 0, fun _ => 0, 0, fun _ => none, none, fun _ => (fun _ => 0, fun _ _ => 0))
def adL (ad : Nat → Nat) (q1 q2 : Nat) (n1 n2 : Nat → Nat) : Nat → Nat := fun k => if k = 0 then q2 else if k < 36 then n2 (k - 1) else if k = 36 then q1 else if k < 80 then n1 (k - 37) else ad k
theorem dL_law_0 : decode code 0 = .ok (.new 7, 3) := by decide +kernel
theorem dL_law_3 : decode code 3 = .ok (.dup, 1) := by decide +kernel
theorem dL_law_4 : decode code 4 = .ok (.invokespecial 9, 3) := by decide +kernel
theorem dL_law_7 : decode code 7 = .ok (.astore_n 1, 1) := by decide +kernel
theorem dL_law_8 : decode code 8 = .ok (.new 10, 3) := by decide +kernel
theorem dL_law_11 : decode code 11 = .ok (.dup, 1) := by decide +kernel
theorem dL_law_12 : decode code 12 = .ok (.invokespecial 12, 3) := by decide +kernel
theorem dL_law_15 : decode code 15 = .ok (.astore_n 2, 1) := by decide +kernel
theorem dL_law_16 : decode code 16 = .ok (.iconst 0, 1) := by decide +kernel
theorem dL_law_17 : decode code 17 = .ok (.istore_n 3, 1) := by decide +kernel
theorem cln_L_7 : Cond.classLink RL 7 RX10 ∈ GW ∧ Cond.instantiable RX10 9 ∈ GW ∧ Cond.initialized RX10 ∈ GW := ⟨gw_t1 20 (by decide +kernel) (by decide +kernel), gw_t1 21 (by decide +kernel) (by decide +kernel), gw_t1 1 (by decide +kernel) (by decide +kernel)⟩
theorem dfs_L_7 : ∀ j, j < 9 → defaultValue (tyX10 j) = vp_V [.null, .null, .null, .null, .null, .null, .null, .null, .null] j := by
  intro j hj
  rcases j with _ | j
  · rfl
  rcases j with _ | j
  · rfl
  rcases j with _ | j
  · rfl
  rcases j with _ | j
  · rfl
  rcases j with _ | j
  · rfl
  rcases j with _ | j
  · rfl
  rcases j with _ | j
  · rfl
  rcases j with _ | j
  · rfl
  rcases j with _ | j
  · rfl
  · omega
theorem cln_L_10 : Cond.classLink RL 10 RX11 ∈ GW ∧ Cond.instantiable RX11 52 ∈ GW ∧ Cond.initialized RX11 ∈ GW := ⟨gw_t5 165 (by decide +kernel) (by decide +kernel), gw_t5 166 (by decide +kernel) (by decide +kernel), gw_t1 11 (by decide +kernel) (by decide +kernel)⟩
theorem dfs_L_10 : ∀ j, j < 52 → defaultValue (tyX11 j) = vp_V [.int 0, .int 0, .null, .null, .null, .null, .int 0, .int 0, .null, .null, .null, .null, .null, .int 0, .null, .int 0, .int 0, .null, .null, .null, .null, .null, .null, .null, .null, .null, .int 0, .int 0, .null, .null, .null, .null, .null, .null, .int 0, .int 0, .null, .null, .null, .int 0, .null, .null, .null, .null, .null, .int 0, .int 0, .int 0, .int 0, .null, .int 0, .null] j := by
  intro j hj
  rcases j with _ | j
  · rfl
  rcases j with _ | j
  · rfl
  rcases j with _ | j
  · rfl
  rcases j with _ | j
  · rfl
  rcases j with _ | j
  · rfl
  rcases j with _ | j
  · rfl
  rcases j with _ | j
  · rfl
  rcases j with _ | j
  · rfl
  rcases j with _ | j
  · rfl
  rcases j with _ | j
  · rfl
  rcases j with _ | j
  · rfl
  rcases j with _ | j
  · rfl
  rcases j with _ | j
  · rfl
  rcases j with _ | j
  · rfl
  rcases j with _ | j
  · rfl
  rcases j with _ | j
  · rfl
  rcases j with _ | j
  · rfl
  rcases j with _ | j
  · rfl
  rcases j with _ | j
  · rfl
  rcases j with _ | j
  · rfl
  rcases j with _ | j
  · rfl
  rcases j with _ | j
  · rfl
  rcases j with _ | j
  · rfl
  rcases j with _ | j
  · rfl
  rcases j with _ | j
  · rfl
  rcases j with _ | j
  · rfl
  rcases j with _ | j
  · rfl
  rcases j with _ | j
  · rfl
  rcases j with _ | j
  · rfl
  rcases j with _ | j
  · rfl
  rcases j with _ | j
  · rfl
  rcases j with _ | j
  · rfl
  rcases j with _ | j
  · rfl
  rcases j with _ | j
  · rfl
  rcases j with _ | j
  · rfl
  rcases j with _ | j
  · rfl
  rcases j with _ | j
  · rfl
  rcases j with _ | j
  · rfl
  rcases j with _ | j
  · rfl
  rcases j with _ | j
  · rfl
  rcases j with _ | j
  · rfl
  rcases j with _ | j
  · rfl
  rcases j with _ | j
  · rfl
  rcases j with _ | j
  · rfl
  rcases j with _ | j
  · rfl
  rcases j with _ | j
  · rfl
  rcases j with _ | j
  · rfl
  rcases j with _ | j
  · rfl
  rcases j with _ | j
  · rfl
  rcases j with _ | j
  · rfl
  rcases j with _ | j
  · rfl
  rcases j with _ | j
  · rfl
  · omega
theorem lki_L_9 : Cond.methodLink RL 9 yX10_init ∈ GW ∧ .instanceMethod yX10_init ∈ GW ∧ .initialized yX10_init.cls ∈ GW ∧ .code yX10_init cX10_init 1 none ∈ GW ∧ yX10_init.name = "<init>" ∧ (yX10_init.cls ≠ "java/lang/invoke/MethodHandle" ∧ yX10_init.cls ≠ "java/lang/invoke/VarHandle") ∧ (parseMethodDescriptor yX10_init.desc).map (fun d => d.parameters.length) = some 0 := ⟨gw_t1 22 (by decide +kernel) (by decide +kernel), gw_t1 23 (by decide +kernel) (by decide +kernel), gw_t1 1 (by decide +kernel) (by decide +kernel), gw_t1 24 (by decide +kernel) (by decide +kernel), rfl, ⟨by decide +kernel, by decide +kernel⟩, by decide +kernel⟩
theorem lki_L_12 : Cond.methodLink RL 12 yX11_init ∈ GW ∧ .instanceMethod yX11_init ∈ GW ∧ .initialized yX11_init.cls ∈ GW ∧ .code yX11_init cX11_init 2 none ∈ GW ∧ yX11_init.name = "<init>" ∧ (yX11_init.cls ≠ "java/lang/invoke/MethodHandle" ∧ yX11_init.cls ≠ "java/lang/invoke/VarHandle") ∧ (parseMethodDescriptor yX11_init.desc).map (fun d => d.parameters.length) = some 0 := ⟨gw_t5 167 (by decide +kernel) (by decide +kernel), gw_t5 168 (by decide +kernel) (by decide +kernel), gw_t1 11 (by decide +kernel) (by decide +kernel), gw_t5 169 (by decide +kernel) (by decide +kernel), rfl, ⟨by decide +kernel, by decide +kernel⟩, by decide +kernel⟩
section WST
variable {z : ZZ} {x : XX} {nL : Nat} {Q : State → Prop} {k n : Nat} {ad : Nat → Nat} {pc : Nat} {lv : List (Nat × Value)} {st : List Value} {ws ws' : va_W} {cc : ByteArray} {own : String} {ret : Option FieldType}
theorem al_astore_n (hC : CX z ad x cc own nL ret) {i : Nat} {i4 : Fin 4} (hi : (i4 : Nat) = i) {a : Nat} {lv' : List (Nat × Value)} (hd : decode cc pc = .ok (.astore_n i4, 1)) (hn : i < nL) (hv : (i, Value.ref a) :: lv.filter (fun q => !(q.1 == i) && !(q.1 + 1 == i && q.2.category == 2)) = lv') (kk : AL z x nL Q k n (pc + 1) lv' st ws) : AL z x nL Q k n pc lv (.ref a :: st) ws := by
  intro H locs ls hP hD hS hl
  exact lv_astore_n hC.1 hC.2.1 hd hi hl hn hv (fun ls' hl' => kk H locs ls' hP hD hS hl')
theorem al_perm (is : List Nat) (h1 : is.filterMap (fun i => ws[i]?) = ws') (h2 : va_nd is = true) (h3 : is.map (fun i => ws[i]?) = ws'.map some) (kk : AL z x nL Q k n pc lv st ws') : AL z x nL Q k n pc lv st ws := by
  intro H locs ls hP hD hS hl
  exact kk H locs ls (hP.sub is h1) (hD.sub is h2 h3) hS hl
set_option maxRecDepth 100000 in
theorem w_start (q1 q2 : Nat) (n1 n2 : Nat → Nat) : ([44, 45, 46, 47, 48, 49, 50, 51, 52, 53, 54, 55, 56, 57, 58, 59, 60, 61, 62, 63, 64, 65, 66, 67, 68, 69, 70, 71, 72, 73, 74, 75, 76, 77, 78, 79, 0, 1, 2, 3, 4, 5, 6, 7, 8, 9, 10, 11, 12, 13, 14, 15, 16, 17, 18, 19, 20, 21, 22, 23, 24, 25, 26, 27, 28, 29, 30, 31, 32, 33, 34, 35, 36, 37, 38, 39, 40, 41, 42, 43] : List Nat).map (fun i => ([(q1, .inr (10, [.ref (n1 0), .ref (n1 12), .ref (n1 17), .ref (n1 20), .ref (n1 25), .ref (n1 31), .ref (n1 33), .ref (n1 39), .ref (n1 41)])), ((n1 0), .inr (1, [.ref (n1 1), .ref (n1 2), .ref (n1 3), .ref (n1 4), .int 0, .int 0, .int 0, .ref (n1 5), .ref (n1 6), .ref (n1 7), .ref (n1 8), .ref (n1 9), .ref (n1 10), .int 0, .ref (n1 11), .int 0])), ((n1 1), .inl (z.2.2.1 0, 24, .inl (fun _ => 0))), ((n1 2), .inl (z.2.2.1 0, 24, .inl (fun _ => 0))), ((n1 3), .inl (z.2.2.1 0, 24, .inl (fun _ => 0))), ((n1 4), .inl (z.2.2.1 0, 24, .inl (fun _ => 0))), ((n1 5), .inl (z.2.2.1 0, 200, .inl (fun _ => 0))), ((n1 6), .inl (z.2.2.1 0, 200, .inl (fun _ => 0))), ((n1 7), .inl (z.2.2.1 0, 200, .inl (fun _ => 0))), ((n1 8), .inl (z.2.2.1 0, 200, .inl (fun _ => 0))), ((n1 9), .inl (z.2.2.1 0, 200, .inl (fun _ => 0))), ((n1 10), .inl (z.2.2.1 0, 200, .inl (fun _ => 0))), ((n1 11), .inl (z.2.2.1 0, 200, .inl (fun _ => 0))), ((n1 12), .inr (4, [.ref (n1 0), .ref (n1 13), .ref (n1 14), .ref (n1 15), .ref (n1 16)])), ((n1 13), .inl (z.2.2.1 0, 24, .inl (fun _ => 0))), ((n1 14), .inl (z.2.2.1 0, 24, .inl (fun _ => 0))), ((n1 15), .inl (z.2.2.1 0, 24, .inl (fun _ => 0))), ((n1 16), .inl (z.2.2.1 0, 400, .inl (fun _ => 0))), ((n1 17), .inr (7, [.ref (n1 18), .int 0, .int 0, .ref (n1 19), .int 0])), ((n1 18), .inl (z.2.2.1 0, 200, .inl (fun _ => 0))), ((n1 19), .inl (z.2.2.1 0, 200, .inl (fun _ => 0))), ((n1 20), .inr (3, [.ref (n1 0), .ref (n1 21), .int 0, .ref (n1 22), .null, .ref (n1 23), .ref (n1 24), .int 0, .int 0, .int 0])), ((n1 21), .inl (z.2.2.1 3, 9, .inr (.inr (.inr (.inr (fun _ => none)))))), ((n1 22), .inl (z.2.2.1 0, 9, .inl (fun _ => 0))), ((n1 23), .inl (z.2.2.1 0, 5, .inl (fun _ => 0))), ((n1 24), .inl (z.2.2.1 0, 200, .inl (fun _ => 0))), ((n1 25), .inr (5, [.int 0, .ref (n1 26), .ref (n1 27), .ref (n1 28), .ref (n1 29), .ref (n1 30)])), ((n1 26), .inl (z.2.2.1 0, 12, .inl (fun _ => 0))), ((n1 27), .inl (z.2.2.1 0, 12, .inl (fun _ => 0))), ((n1 28), .inl (z.2.2.1 0, 12, .inl (fun _ => 0))), ((n1 29), .inl (z.2.2.1 0, 12, .inl (fun _ => 0))), ((n1 30), .inl (z.2.2.1 0, 12, .inl (fun _ => 0))), ((n1 31), .inr (6, [.ref (n1 32), .int 4])), ((n1 32), .inl (z.2.2.1 0, 100, .inl (tab0))), ((n1 33), .inr (9, [.ref (n1 0), .int 0, .ref (n1 34), .ref (n1 35), .ref (n1 36), .int 0, .ref (n1 37), .ref (n1 38)])), ((n1 34), .inl (z.2.2.1 0, 4, .inl (fun _ => 0))), ((n1 35), .inl (z.2.2.1 0, 32, .inl (fun _ => 0))), ((n1 36), .inl (z.2.2.1 0, 32, .inl (fun _ => 0))), ((n1 37), .inl (z.2.2.1 0, 4, .inl (fun _ => 0))), ((n1 38), .inl (z.2.2.1 0, 4, .inl (fun _ => 0))), ((n1 39), .inr (2, [.ref (n1 0), .ref (n1 12), .ref (n1 20), .ref (n1 25), .ref (n1 33), .int 0, .ref (n1 40), .int 0])), ((n1 40), .inl (z.2.2.1 1, 24, .inl (fun _ => 0))), ((n1 41), .inr (8, [.ref (n1 42)])), ((n1 42), .inl (z.2.2.1 2, 73, .inr (.inl (fun _ => 0)))), (q2, .inr (11, [.int 0, .int 0, .ref (n2 0), .ref (n2 1), .ref (n2 2), .ref (n2 3), .int 0, .int 0, .ref (n2 4), .ref (n2 5), .ref (n2 6), .ref (n2 7), .ref (n2 8), .int 0, .ref (n2 9), .int 0, .int 0, .ref (n2 10), .ref (n2 11), .ref (n2 12), .ref (n2 13), .ref (n2 14), .ref (n2 15), .ref (n2 16), .ref (n2 17), .ref (n2 18), .int 0, .int 0, .ref (n2 19), .ref (n2 20), .ref (n2 21), .ref (n2 22), .ref (n2 23), .ref (n2 24), .int 4, .int 0, .ref (n2 25), .ref (n2 26), .ref (n2 27), .int 0, .ref (n2 28), .ref (n2 29), .ref (n2 30), .ref (n2 31), .ref (n2 32), .int 0, .int 0, .int 0, .int 0, .ref (n2 33), .int 0, .ref (n2 34)])), ((n2 0), .inl (z.2.2.1 0, 24, .inl (fun _ => 0))), ((n2 1), .inl (z.2.2.1 0, 24, .inl (fun _ => 0))), ((n2 2), .inl (z.2.2.1 0, 24, .inl (fun _ => 0))), ((n2 3), .inl (z.2.2.1 0, 24, .inl (fun _ => 0))), ((n2 4), .inl (z.2.2.1 0, 200, .inl (fun _ => 0))), ((n2 5), .inl (z.2.2.1 0, 200, .inl (fun _ => 0))), ((n2 6), .inl (z.2.2.1 0, 200, .inl (fun _ => 0))), ((n2 7), .inl (z.2.2.1 0, 200, .inl (fun _ => 0))), ((n2 8), .inl (z.2.2.1 0, 200, .inl (fun _ => 0))), ((n2 9), .inl (z.2.2.1 0, 200, .inl (fun _ => 0))), ((n2 10), .inl (z.2.2.1 0, 9, .inl (fun _ => 0))), ((n2 11), .inl (z.2.2.1 0, 9, .inl (fun _ => 0))), ((n2 12), .inl (z.2.2.1 1, 9, .inl (fun _ => 0))), ((n2 13), .inl (z.2.2.1 0, 72, .inl (fun _ => 0))), ((n2 14), .inl (z.2.2.1 0, 72, .inl (fun _ => 0))), ((n2 15), .inl (z.2.2.1 0, 1800, .inl (fun _ => 0))), ((n2 16), .inl (z.2.2.1 0, 72, .inl (fun _ => 0))), ((n2 17), .inl (z.2.2.1 0, 72, .inl (fun _ => 0))), ((n2 18), .inl (z.2.2.1 0, 9, .inl (fun _ => 0))), ((n2 19), .inl (z.2.2.1 0, 12, .inl (fun _ => 0))), ((n2 20), .inl (z.2.2.1 0, 12, .inl (fun _ => 0))), ((n2 21), .inl (z.2.2.1 0, 12, .inl (fun _ => 0))), ((n2 22), .inl (z.2.2.1 0, 12, .inl (fun _ => 0))), ((n2 23), .inl (z.2.2.1 0, 12, .inl (fun _ => 0))), ((n2 24), .inl (z.2.2.1 0, 100, .inl (tab0))), ((n2 25), .inl (z.2.2.1 0, 4, .inl (fun _ => 0))), ((n2 26), .inl (z.2.2.1 0, 32, .inl (fun _ => 0))), ((n2 27), .inl (z.2.2.1 0, 32, .inl (fun _ => 0))), ((n2 28), .inl (z.2.2.1 0, 4, .inl (fun _ => 0))), ((n2 29), .inl (z.2.2.1 0, 4, .inl (fun _ => 0))), ((n2 30), .inl (z.2.2.1 2, 73, .inr (.inl (fun _ => 0)))), ((n2 31), .inl (z.2.2.1 1, 200, .inl (fun _ => 0))), ((n2 32), .inl (z.2.2.1 0, 24, .inl (fun _ => 0))), ((n2 33), .inl (z.2.2.1 0, 5, .inl (fun _ => 0))), ((n2 34), .inl (z.2.2.1 0, 4, .inl (upd (upd (upd (upd (fun _ => 0) (0 : Int32).toNatClampNeg 100) (1 : Int32).toNatClampNeg 100) (2 : Int32).toNatClampNeg 100) (3 : Int32).toNatClampNeg 100)))] : va_W)[i]?) = (wX z s0 (adL ad q1 q2 n1 n2) t0).map some := rfl
theorem fm_some {α β : Type} {l : List α} {f : α → Option β} {l' : List β} (h : l.map f = l'.map some) : l.filterMap f = l' := by
  induction l generalizing l' with
  | nil => cases l' with
    | nil => rfl
    | cons b bs => cases h
  | cons a as ih =>
    cases l' with
    | nil => cases h
    | cons b bs =>
      simp only [List.map_cons, List.cons.injEq] at h
      rw [List.filterMap_cons, h.1]
      show b :: _ = b :: _
      rw [ih h.2]
end WST
set_option maxHeartbeats 4000000 in
set_option maxRecDepth 100000 in
theorem whole_start_of {Inv : MS → XS → Prop} (hI : StepOK Inv) (h0 : Inv s0 t0) {p : Program} {e : Env} {s : State} {m : MethodId} {below : List Frame} {meth : Method} {c : Code} (l : Launch) {b L : Nat} {xs : Nat → Int32} (hL : L ≤ 2560) (C0 : lw_At p s m meth c b L xs) : W p l e room_1 s m #[Value.ref b] below meth c s.heap [] 0 0 (lw_Z below #[Value.ref b] s) (entryFrame m ([Value.ref b] : List Value).toArray 4) := by
  obtain ⟨hx, hb, hr, hml, hown, hts, hX, hbl, hlocks, hgv⟩ := id C0
  obtain ⟨⟨zl, zr⟩, ad, hz1, hz2, hAmb⟩ := sb_amb l hts (flat_of_before _ hgv)
  have hz1 : zl = l := hz1
  subst hz1
  have hC : CX (zl, zr) ad (p, e, room_1, s, m, #[Value.ref b], below, meth, c) code RL 4 ret := ⟨hx, hb, hr, hml, hown, fun w hw => hts w (List.mem_filter.mp hw).1, hlocks, hAmb⟩
  have hR : RM (p, e, room_1, s, m, #[Value.ref b], below, meth, c) 1000 600000 7302250 := ⟨Nat.le_of_ble_eq_true rfl, Nat.le_of_ble_eq_true rfl, Nat.le_of_ble_eq_true rfl, Nat.le_of_ble_eq_true rfl⟩
  have hSX : SX (zl, zr) (p, e, room_1, s, m, #[Value.ref b], below, meth, c) b L xs := ⟨hX, hbl, by show ¬ zr.2.2.1 ≤ b; rw [show zr.2.2.1 = s.heap.size from hz2]; exact Nat.not_le.mpr hbl, hL⟩
  have hl := lv_entry ([.ref b]) (n := 4) (Nat.le_of_ble_eq_true rfl)
  rw [lg_entry_eq]
  generalize (lg_sl ([.ref b]) ++ List.replicate (4 - (lg_sl ([.ref b])).length) Slot.unset).toArray = ls at hl ⊢
  refine (show AL (zl, zr) (p, e, room_1, s, m, #[Value.ref b], below, meth, c) 4 (lw_Z below #[Value.ref b] s) 0 0 0 [(0, .ref b)] [] ([] ++ []) from ?_) s.heap [] ls (fun k q h => by simp at h) ⟨fun i j p q h => by simp at h, fun k q h => by simp at h⟩ va_S.rf hl
  refine al_new (b := []) (k := 0) (n := 0) (l := []) (fs := [.null, .null, .null, .null, .null, .null, .null, .null, .null]) (ci := 10) hC hR tyX10 inX10 tyX10_ok cln_L_7 rfl dfs_L_7 ⟨Nat.le_of_ble_eq_true rfl, Nat.le_of_ble_eq_true rfl⟩ dL_law_0 (fun q1 => ?_)
  refine al_dup hC rfl dL_law_3 ?_
  refine al_callI (b := []) (k := 1) (n := 9) (l := [(q1, .inr (10, [.null, .null, .null, .null, .null, .null, .null, .null, .null]))]) (l0 := []) (As := []) (rest := [.ref q1]) hC hR lki_L_9 (c_X10_init (ws := [] ++ []) q1) dL_law_4 rfl rfl rfl ⟨by decide, by decide⟩ (Nat.le_of_ble_eq_true rfl) ⟨Nat.le_of_ble_eq_true rfl, Nat.le_of_ble_eq_true rfl⟩ (fun n1 => ?_)
  show AL (zl, zr) (p, e, room_1, s, m, #[Value.ref b], below, meth, c) 4 (lw_Z below #[Value.ref b] s) 44 2994 7 [(0, .ref b)] [.ref q1] ([] ++ [(q1, .inr (10, [.ref (n1 0), .ref (n1 12), .ref (n1 17), .ref (n1 20), .ref (n1 25), .ref (n1 31), .ref (n1 33), .ref (n1 39), .ref (n1 41)])), ((n1 0), .inr (1, [.ref (n1 1), .ref (n1 2), .ref (n1 3), .ref (n1 4), .int 0, .int 0, .int 0, .ref (n1 5), .ref (n1 6), .ref (n1 7), .ref (n1 8), .ref (n1 9), .ref (n1 10), .int 0, .ref (n1 11), .int 0])), ((n1 1), .inl ((zl, zr).2.2.1 0, 24, .inl (fun _ => 0))), ((n1 2), .inl ((zl, zr).2.2.1 0, 24, .inl (fun _ => 0))), ((n1 3), .inl ((zl, zr).2.2.1 0, 24, .inl (fun _ => 0))), ((n1 4), .inl ((zl, zr).2.2.1 0, 24, .inl (fun _ => 0))), ((n1 5), .inl ((zl, zr).2.2.1 0, 200, .inl (fun _ => 0))), ((n1 6), .inl ((zl, zr).2.2.1 0, 200, .inl (fun _ => 0))), ((n1 7), .inl ((zl, zr).2.2.1 0, 200, .inl (fun _ => 0))), ((n1 8), .inl ((zl, zr).2.2.1 0, 200, .inl (fun _ => 0))), ((n1 9), .inl ((zl, zr).2.2.1 0, 200, .inl (fun _ => 0))), ((n1 10), .inl ((zl, zr).2.2.1 0, 200, .inl (fun _ => 0))), ((n1 11), .inl ((zl, zr).2.2.1 0, 200, .inl (fun _ => 0))), ((n1 12), .inr (4, [.ref (n1 0), .ref (n1 13), .ref (n1 14), .ref (n1 15), .ref (n1 16)])), ((n1 13), .inl ((zl, zr).2.2.1 0, 24, .inl (fun _ => 0))), ((n1 14), .inl ((zl, zr).2.2.1 0, 24, .inl (fun _ => 0))), ((n1 15), .inl ((zl, zr).2.2.1 0, 24, .inl (fun _ => 0))), ((n1 16), .inl ((zl, zr).2.2.1 0, 400, .inl (fun _ => 0))), ((n1 17), .inr (7, [.ref (n1 18), .int 0, .int 0, .ref (n1 19), .int 0])), ((n1 18), .inl ((zl, zr).2.2.1 0, 200, .inl (fun _ => 0))), ((n1 19), .inl ((zl, zr).2.2.1 0, 200, .inl (fun _ => 0))), ((n1 20), .inr (3, [.ref (n1 0), .ref (n1 21), .int 0, .ref (n1 22), .null, .ref (n1 23), .ref (n1 24), .int 0, .int 0, .int 0])), ((n1 21), .inl ((zl, zr).2.2.1 3, 9, .inr (.inr (.inr (.inr (fun _ => none)))))), ((n1 22), .inl ((zl, zr).2.2.1 0, 9, .inl (fun _ => 0))), ((n1 23), .inl ((zl, zr).2.2.1 0, 5, .inl (fun _ => 0))), ((n1 24), .inl ((zl, zr).2.2.1 0, 200, .inl (fun _ => 0))), ((n1 25), .inr (5, [.int 0, .ref (n1 26), .ref (n1 27), .ref (n1 28), .ref (n1 29), .ref (n1 30)])), ((n1 26), .inl ((zl, zr).2.2.1 0, 12, .inl (fun _ => 0))), ((n1 27), .inl ((zl, zr).2.2.1 0, 12, .inl (fun _ => 0))), ((n1 28), .inl ((zl, zr).2.2.1 0, 12, .inl (fun _ => 0))), ((n1 29), .inl ((zl, zr).2.2.1 0, 12, .inl (fun _ => 0))), ((n1 30), .inl ((zl, zr).2.2.1 0, 12, .inl (fun _ => 0))), ((n1 31), .inr (6, [.ref (n1 32), .int 4])), ((n1 32), .inl ((zl, zr).2.2.1 0, 100, .inl (tab0))), ((n1 33), .inr (9, [.ref (n1 0), .int 0, .ref (n1 34), .ref (n1 35), .ref (n1 36), .int 0, .ref (n1 37), .ref (n1 38)])), ((n1 34), .inl ((zl, zr).2.2.1 0, 4, .inl (fun _ => 0))), ((n1 35), .inl ((zl, zr).2.2.1 0, 32, .inl (fun _ => 0))), ((n1 36), .inl ((zl, zr).2.2.1 0, 32, .inl (fun _ => 0))), ((n1 37), .inl ((zl, zr).2.2.1 0, 4, .inl (fun _ => 0))), ((n1 38), .inl ((zl, zr).2.2.1 0, 4, .inl (fun _ => 0))), ((n1 39), .inr (2, [.ref (n1 0), .ref (n1 12), .ref (n1 20), .ref (n1 25), .ref (n1 33), .int 0, .ref (n1 40), .int 0])), ((n1 40), .inl ((zl, zr).2.2.1 1, 24, .inl (fun _ => 0))), ((n1 41), .inr (8, [.ref (n1 42)])), ((n1 42), .inl ((zl, zr).2.2.1 2, 73, .inr (.inl (fun _ => 0))))])
  refine al_astore_n (lv' := [(1, .ref q1), (0, .ref b)]) hC rfl dL_law_7 (by decide) rfl ?_
  refine al_new (b := []) (k := 44) (n := 2994) (l := [(q1, .inr (10, [.ref (n1 0), .ref (n1 12), .ref (n1 17), .ref (n1 20), .ref (n1 25), .ref (n1 31), .ref (n1 33), .ref (n1 39), .ref (n1 41)])), ((n1 0), .inr (1, [.ref (n1 1), .ref (n1 2), .ref (n1 3), .ref (n1 4), .int 0, .int 0, .int 0, .ref (n1 5), .ref (n1 6), .ref (n1 7), .ref (n1 8), .ref (n1 9), .ref (n1 10), .int 0, .ref (n1 11), .int 0])), ((n1 1), .inl ((zl, zr).2.2.1 0, 24, .inl (fun _ => 0))), ((n1 2), .inl ((zl, zr).2.2.1 0, 24, .inl (fun _ => 0))), ((n1 3), .inl ((zl, zr).2.2.1 0, 24, .inl (fun _ => 0))), ((n1 4), .inl ((zl, zr).2.2.1 0, 24, .inl (fun _ => 0))), ((n1 5), .inl ((zl, zr).2.2.1 0, 200, .inl (fun _ => 0))), ((n1 6), .inl ((zl, zr).2.2.1 0, 200, .inl (fun _ => 0))), ((n1 7), .inl ((zl, zr).2.2.1 0, 200, .inl (fun _ => 0))), ((n1 8), .inl ((zl, zr).2.2.1 0, 200, .inl (fun _ => 0))), ((n1 9), .inl ((zl, zr).2.2.1 0, 200, .inl (fun _ => 0))), ((n1 10), .inl ((zl, zr).2.2.1 0, 200, .inl (fun _ => 0))), ((n1 11), .inl ((zl, zr).2.2.1 0, 200, .inl (fun _ => 0))), ((n1 12), .inr (4, [.ref (n1 0), .ref (n1 13), .ref (n1 14), .ref (n1 15), .ref (n1 16)])), ((n1 13), .inl ((zl, zr).2.2.1 0, 24, .inl (fun _ => 0))), ((n1 14), .inl ((zl, zr).2.2.1 0, 24, .inl (fun _ => 0))), ((n1 15), .inl ((zl, zr).2.2.1 0, 24, .inl (fun _ => 0))), ((n1 16), .inl ((zl, zr).2.2.1 0, 400, .inl (fun _ => 0))), ((n1 17), .inr (7, [.ref (n1 18), .int 0, .int 0, .ref (n1 19), .int 0])), ((n1 18), .inl ((zl, zr).2.2.1 0, 200, .inl (fun _ => 0))), ((n1 19), .inl ((zl, zr).2.2.1 0, 200, .inl (fun _ => 0))), ((n1 20), .inr (3, [.ref (n1 0), .ref (n1 21), .int 0, .ref (n1 22), .null, .ref (n1 23), .ref (n1 24), .int 0, .int 0, .int 0])), ((n1 21), .inl ((zl, zr).2.2.1 3, 9, .inr (.inr (.inr (.inr (fun _ => none)))))), ((n1 22), .inl ((zl, zr).2.2.1 0, 9, .inl (fun _ => 0))), ((n1 23), .inl ((zl, zr).2.2.1 0, 5, .inl (fun _ => 0))), ((n1 24), .inl ((zl, zr).2.2.1 0, 200, .inl (fun _ => 0))), ((n1 25), .inr (5, [.int 0, .ref (n1 26), .ref (n1 27), .ref (n1 28), .ref (n1 29), .ref (n1 30)])), ((n1 26), .inl ((zl, zr).2.2.1 0, 12, .inl (fun _ => 0))), ((n1 27), .inl ((zl, zr).2.2.1 0, 12, .inl (fun _ => 0))), ((n1 28), .inl ((zl, zr).2.2.1 0, 12, .inl (fun _ => 0))), ((n1 29), .inl ((zl, zr).2.2.1 0, 12, .inl (fun _ => 0))), ((n1 30), .inl ((zl, zr).2.2.1 0, 12, .inl (fun _ => 0))), ((n1 31), .inr (6, [.ref (n1 32), .int 4])), ((n1 32), .inl ((zl, zr).2.2.1 0, 100, .inl (tab0))), ((n1 33), .inr (9, [.ref (n1 0), .int 0, .ref (n1 34), .ref (n1 35), .ref (n1 36), .int 0, .ref (n1 37), .ref (n1 38)])), ((n1 34), .inl ((zl, zr).2.2.1 0, 4, .inl (fun _ => 0))), ((n1 35), .inl ((zl, zr).2.2.1 0, 32, .inl (fun _ => 0))), ((n1 36), .inl ((zl, zr).2.2.1 0, 32, .inl (fun _ => 0))), ((n1 37), .inl ((zl, zr).2.2.1 0, 4, .inl (fun _ => 0))), ((n1 38), .inl ((zl, zr).2.2.1 0, 4, .inl (fun _ => 0))), ((n1 39), .inr (2, [.ref (n1 0), .ref (n1 12), .ref (n1 20), .ref (n1 25), .ref (n1 33), .int 0, .ref (n1 40), .int 0])), ((n1 40), .inl ((zl, zr).2.2.1 1, 24, .inl (fun _ => 0))), ((n1 41), .inr (8, [.ref (n1 42)])), ((n1 42), .inl ((zl, zr).2.2.1 2, 73, .inr (.inl (fun _ => 0))))]) (fs := [.int 0, .int 0, .null, .null, .null, .null, .int 0, .int 0, .null, .null, .null, .null, .null, .int 0, .null, .int 0, .int 0, .null, .null, .null, .null, .null, .null, .null, .null, .null, .int 0, .int 0, .null, .null, .null, .null, .null, .null, .int 0, .int 0, .null, .null, .null, .int 0, .null, .null, .null, .null, .null, .int 0, .int 0, .int 0, .int 0, .null, .int 0, .null]) (ci := 11) hC hR tyX11 inX11 tyX11_ok cln_L_10 rfl dfs_L_10 ⟨Nat.le_of_ble_eq_true rfl, Nat.le_of_ble_eq_true rfl⟩ dL_law_8 (fun q2 => ?_)
  refine al_dup hC rfl dL_law_11 ?_
  refine al_callI (b := []) (k := 45) (n := 3046) (l0 := [(q1, .inr (10, [.ref (n1 0), .ref (n1 12), .ref (n1 17), .ref (n1 20), .ref (n1 25), .ref (n1 31), .ref (n1 33), .ref (n1 39), .ref (n1 41)])), ((n1 0), .inr (1, [.ref (n1 1), .ref (n1 2), .ref (n1 3), .ref (n1 4), .int 0, .int 0, .int 0, .ref (n1 5), .ref (n1 6), .ref (n1 7), .ref (n1 8), .ref (n1 9), .ref (n1 10), .int 0, .ref (n1 11), .int 0])), ((n1 1), .inl ((zl, zr).2.2.1 0, 24, .inl (fun _ => 0))), ((n1 2), .inl ((zl, zr).2.2.1 0, 24, .inl (fun _ => 0))), ((n1 3), .inl ((zl, zr).2.2.1 0, 24, .inl (fun _ => 0))), ((n1 4), .inl ((zl, zr).2.2.1 0, 24, .inl (fun _ => 0))), ((n1 5), .inl ((zl, zr).2.2.1 0, 200, .inl (fun _ => 0))), ((n1 6), .inl ((zl, zr).2.2.1 0, 200, .inl (fun _ => 0))), ((n1 7), .inl ((zl, zr).2.2.1 0, 200, .inl (fun _ => 0))), ((n1 8), .inl ((zl, zr).2.2.1 0, 200, .inl (fun _ => 0))), ((n1 9), .inl ((zl, zr).2.2.1 0, 200, .inl (fun _ => 0))), ((n1 10), .inl ((zl, zr).2.2.1 0, 200, .inl (fun _ => 0))), ((n1 11), .inl ((zl, zr).2.2.1 0, 200, .inl (fun _ => 0))), ((n1 12), .inr (4, [.ref (n1 0), .ref (n1 13), .ref (n1 14), .ref (n1 15), .ref (n1 16)])), ((n1 13), .inl ((zl, zr).2.2.1 0, 24, .inl (fun _ => 0))), ((n1 14), .inl ((zl, zr).2.2.1 0, 24, .inl (fun _ => 0))), ((n1 15), .inl ((zl, zr).2.2.1 0, 24, .inl (fun _ => 0))), ((n1 16), .inl ((zl, zr).2.2.1 0, 400, .inl (fun _ => 0))), ((n1 17), .inr (7, [.ref (n1 18), .int 0, .int 0, .ref (n1 19), .int 0])), ((n1 18), .inl ((zl, zr).2.2.1 0, 200, .inl (fun _ => 0))), ((n1 19), .inl ((zl, zr).2.2.1 0, 200, .inl (fun _ => 0))), ((n1 20), .inr (3, [.ref (n1 0), .ref (n1 21), .int 0, .ref (n1 22), .null, .ref (n1 23), .ref (n1 24), .int 0, .int 0, .int 0])), ((n1 21), .inl ((zl, zr).2.2.1 3, 9, .inr (.inr (.inr (.inr (fun _ => none)))))), ((n1 22), .inl ((zl, zr).2.2.1 0, 9, .inl (fun _ => 0))), ((n1 23), .inl ((zl, zr).2.2.1 0, 5, .inl (fun _ => 0))), ((n1 24), .inl ((zl, zr).2.2.1 0, 200, .inl (fun _ => 0))), ((n1 25), .inr (5, [.int 0, .ref (n1 26), .ref (n1 27), .ref (n1 28), .ref (n1 29), .ref (n1 30)])), ((n1 26), .inl ((zl, zr).2.2.1 0, 12, .inl (fun _ => 0))), ((n1 27), .inl ((zl, zr).2.2.1 0, 12, .inl (fun _ => 0))), ((n1 28), .inl ((zl, zr).2.2.1 0, 12, .inl (fun _ => 0))), ((n1 29), .inl ((zl, zr).2.2.1 0, 12, .inl (fun _ => 0))), ((n1 30), .inl ((zl, zr).2.2.1 0, 12, .inl (fun _ => 0))), ((n1 31), .inr (6, [.ref (n1 32), .int 4])), ((n1 32), .inl ((zl, zr).2.2.1 0, 100, .inl (tab0))), ((n1 33), .inr (9, [.ref (n1 0), .int 0, .ref (n1 34), .ref (n1 35), .ref (n1 36), .int 0, .ref (n1 37), .ref (n1 38)])), ((n1 34), .inl ((zl, zr).2.2.1 0, 4, .inl (fun _ => 0))), ((n1 35), .inl ((zl, zr).2.2.1 0, 32, .inl (fun _ => 0))), ((n1 36), .inl ((zl, zr).2.2.1 0, 32, .inl (fun _ => 0))), ((n1 37), .inl ((zl, zr).2.2.1 0, 4, .inl (fun _ => 0))), ((n1 38), .inl ((zl, zr).2.2.1 0, 4, .inl (fun _ => 0))), ((n1 39), .inr (2, [.ref (n1 0), .ref (n1 12), .ref (n1 20), .ref (n1 25), .ref (n1 33), .int 0, .ref (n1 40), .int 0])), ((n1 40), .inl ((zl, zr).2.2.1 1, 24, .inl (fun _ => 0))), ((n1 41), .inr (8, [.ref (n1 42)])), ((n1 42), .inl ((zl, zr).2.2.1 2, 73, .inr (.inl (fun _ => 0))))]) (As := []) (rest := [.ref q2]) hC hR lki_L_12 (c_X11_init (ws := [] ++ [(q1, .inr (10, [.ref (n1 0), .ref (n1 12), .ref (n1 17), .ref (n1 20), .ref (n1 25), .ref (n1 31), .ref (n1 33), .ref (n1 39), .ref (n1 41)])), ((n1 0), .inr (1, [.ref (n1 1), .ref (n1 2), .ref (n1 3), .ref (n1 4), .int 0, .int 0, .int 0, .ref (n1 5), .ref (n1 6), .ref (n1 7), .ref (n1 8), .ref (n1 9), .ref (n1 10), .int 0, .ref (n1 11), .int 0])), ((n1 1), .inl ((zl, zr).2.2.1 0, 24, .inl (fun _ => 0))), ((n1 2), .inl ((zl, zr).2.2.1 0, 24, .inl (fun _ => 0))), ((n1 3), .inl ((zl, zr).2.2.1 0, 24, .inl (fun _ => 0))), ((n1 4), .inl ((zl, zr).2.2.1 0, 24, .inl (fun _ => 0))), ((n1 5), .inl ((zl, zr).2.2.1 0, 200, .inl (fun _ => 0))), ((n1 6), .inl ((zl, zr).2.2.1 0, 200, .inl (fun _ => 0))), ((n1 7), .inl ((zl, zr).2.2.1 0, 200, .inl (fun _ => 0))), ((n1 8), .inl ((zl, zr).2.2.1 0, 200, .inl (fun _ => 0))), ((n1 9), .inl ((zl, zr).2.2.1 0, 200, .inl (fun _ => 0))), ((n1 10), .inl ((zl, zr).2.2.1 0, 200, .inl (fun _ => 0))), ((n1 11), .inl ((zl, zr).2.2.1 0, 200, .inl (fun _ => 0))), ((n1 12), .inr (4, [.ref (n1 0), .ref (n1 13), .ref (n1 14), .ref (n1 15), .ref (n1 16)])), ((n1 13), .inl ((zl, zr).2.2.1 0, 24, .inl (fun _ => 0))), ((n1 14), .inl ((zl, zr).2.2.1 0, 24, .inl (fun _ => 0))), ((n1 15), .inl ((zl, zr).2.2.1 0, 24, .inl (fun _ => 0))), ((n1 16), .inl ((zl, zr).2.2.1 0, 400, .inl (fun _ => 0))), ((n1 17), .inr (7, [.ref (n1 18), .int 0, .int 0, .ref (n1 19), .int 0])), ((n1 18), .inl ((zl, zr).2.2.1 0, 200, .inl (fun _ => 0))), ((n1 19), .inl ((zl, zr).2.2.1 0, 200, .inl (fun _ => 0))), ((n1 20), .inr (3, [.ref (n1 0), .ref (n1 21), .int 0, .ref (n1 22), .null, .ref (n1 23), .ref (n1 24), .int 0, .int 0, .int 0])), ((n1 21), .inl ((zl, zr).2.2.1 3, 9, .inr (.inr (.inr (.inr (fun _ => none)))))), ((n1 22), .inl ((zl, zr).2.2.1 0, 9, .inl (fun _ => 0))), ((n1 23), .inl ((zl, zr).2.2.1 0, 5, .inl (fun _ => 0))), ((n1 24), .inl ((zl, zr).2.2.1 0, 200, .inl (fun _ => 0))), ((n1 25), .inr (5, [.int 0, .ref (n1 26), .ref (n1 27), .ref (n1 28), .ref (n1 29), .ref (n1 30)])), ((n1 26), .inl ((zl, zr).2.2.1 0, 12, .inl (fun _ => 0))), ((n1 27), .inl ((zl, zr).2.2.1 0, 12, .inl (fun _ => 0))), ((n1 28), .inl ((zl, zr).2.2.1 0, 12, .inl (fun _ => 0))), ((n1 29), .inl ((zl, zr).2.2.1 0, 12, .inl (fun _ => 0))), ((n1 30), .inl ((zl, zr).2.2.1 0, 12, .inl (fun _ => 0))), ((n1 31), .inr (6, [.ref (n1 32), .int 4])), ((n1 32), .inl ((zl, zr).2.2.1 0, 100, .inl (tab0))), ((n1 33), .inr (9, [.ref (n1 0), .int 0, .ref (n1 34), .ref (n1 35), .ref (n1 36), .int 0, .ref (n1 37), .ref (n1 38)])), ((n1 34), .inl ((zl, zr).2.2.1 0, 4, .inl (fun _ => 0))), ((n1 35), .inl ((zl, zr).2.2.1 0, 32, .inl (fun _ => 0))), ((n1 36), .inl ((zl, zr).2.2.1 0, 32, .inl (fun _ => 0))), ((n1 37), .inl ((zl, zr).2.2.1 0, 4, .inl (fun _ => 0))), ((n1 38), .inl ((zl, zr).2.2.1 0, 4, .inl (fun _ => 0))), ((n1 39), .inr (2, [.ref (n1 0), .ref (n1 12), .ref (n1 20), .ref (n1 25), .ref (n1 33), .int 0, .ref (n1 40), .int 0])), ((n1 40), .inl ((zl, zr).2.2.1 1, 24, .inl (fun _ => 0))), ((n1 41), .inr (8, [.ref (n1 42)])), ((n1 42), .inl ((zl, zr).2.2.1 2, 73, .inr (.inl (fun _ => 0))))]) q2) dL_law_12 rfl rfl rfl ⟨by decide, by decide⟩ (Nat.le_of_ble_eq_true rfl) ⟨Nat.le_of_ble_eq_true rfl, Nat.le_of_ble_eq_true rfl⟩ (fun n2 => ?_)
  refine al_perm [44, 45, 46, 47, 48, 49, 50, 51, 52, 53, 54, 55, 56, 57, 58, 59, 60, 61, 62, 63, 64, 65, 66, 67, 68, 69, 70, 71, 72, 73, 74, 75, 76, 77, 78, 79, 0, 1, 2, 3, 4, 5, 6, 7, 8, 9, 10, 11, 12, 13, 14, 15, 16, 17, 18, 19, 20, 21, 22, 23, 24, 25, 26, 27, 28, 29, 30, 31, 32, 33, 34, 35, 36, 37, 38, 39, 40, 41, 42, 43] (fm_some (w_start (z := (zl, zr)) (ad := ad) q1 q2 n1 n2)) (by decide) (w_start (z := (zl, zr)) (ad := ad) q1 q2 n1 n2) ?_
  have hC := hC.ad (ad' := adL ad q1 q2 n1 n2) (fun k hk => by unfold adL; rw [if_neg (by omega), if_neg (by omega), if_neg (by omega), if_neg (by omega)])
  refine al_astore_n (lv' := [(2, .ref q2), (1, .ref q1), (0, .ref b)]) hC rfl dL_law_15 (by decide) rfl ?_
  refine al_iconst (v := 0) hC rfl dL_law_16 ?_
  refine al_istore_n (lv' := [(3, .int 0), (2, .ref q2), (1, .ref q1), (0, .ref b)]) hC rfl dL_law_17 (by decide) rfl ?_
  refine al_drop (lv' := [(3, .int (Int32.ofNat 0)), (1, .ref q1), (2, .ref q2), (0, .ref b)]) [0, 2, 1, 3] rfl ?_
  refine law_loop hI rfl hSX ?_ 512 0 80 7008 s0 t0 (adL ad q1 q2 n1 n2) (by omega) (by omega) (by omega) (by omega) h0 hC rfl rfl
  intro k n lv ws hk hn H locs ls hP hD hS hl
  refine lv_iconst (v := 1) hx hb dL_law_2157 (by decide) ?_
  refine va_forget (fun q hq => by have := hS.2.2 q hq; rw [← hz2]; exact this) ?_
  refine W.widen (k := 600000) (n := 7302250) hk hn ?_
  exact lw_ret hx hb hr hlocks dL_law_2158
