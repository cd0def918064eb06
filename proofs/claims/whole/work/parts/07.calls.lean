section AXC
variable {g : AxG} {l : Launch} {R : Room} {M : AxM} {Q : AxQ} {k n : Nat} {S : AxS} {pc : Nat} {env : List (Nat × Value)} {st : List Value}
-- ends
theorem aw_iret {mc ms : Nat} {v r : Int32} {S' : AxS} (hd : decode M.2.1 pc = .ok (.ireturn, 1)) (hr : M.2.2.2.1 = some .int) (hk : k ≤ mc) (hn : n ≤ ms) (h : some (v, S) = some (r, S')) : AW g l R M (axMQ g mc ms (.inl (some (.int r)), S')) k n S pc env [.int v] := by
  cases h
  intro p e s m args below meth c H locs ls C hR hS hl
  refine W.widen hk hn ?_
  exact vx_ret (W.iret (v := v) C.1 C.2.1 (C.2.2.1.trans hr) (fun t ht hW => ⟨_, _, rfl, rfl, by rw [ht]; exact hR, hS.F ht⟩) hS.2.2 hd C.2.2.2.2.2.2.2.1)
def ax_rz {α : Type} (v : Int32) (K : Option α) : Option α := if v = 0 ∨ v = 1 then K else none
theorem ax_nz {v : Int32} (h : v = 0 ∨ v = 1) : narrow .boolean (.int v) = .int v := by rcases h with rfl | rfl <;> rfl
theorem aw_zret {mc ms : Nat} {v r : Int32} {S' : AxS} (hd : decode M.2.1 pc = .ok (.ireturn, 1)) (hr : M.2.2.2.1 = some .boolean) (hk : k ≤ mc) (hn : n ≤ ms) (h : ax_rz v (some (v, S)) = some (r, S')) : AW g l R M (axMQ g mc ms (.inl (some (.int r)), S')) k n S pc env [.int v] := by
  unfold ax_rz at h
  split at h
  · rename_i hz
    cases h
    intro p e s m args below meth c H locs ls C hR hS hl
    refine W.widen hk hn ?_
    exact vx_ret (W.zret (v := v) C.1 C.2.1 (C.2.2.1.trans hr) (ax_nz hz) (fun t ht hW => ⟨_, _, rfl, rfl, by rw [ht]; exact hR, hS.F ht⟩) hS.2.2 hd C.2.2.2.2.2.2.2.1)
  · cases h
theorem aw_lret {mc ms : Nat} {v r : Int64} {S' : AxS} (hd : decode M.2.1 pc = .ok (.lreturn, 1)) (hr : M.2.2.2.1 = some .long) (hk : k ≤ mc) (hn : n ≤ ms) (h : some (v, S) = some (r, S')) : AW g l R M (axMQ g mc ms (.inl (some (.long r)), S')) k n S pc env [.long v] := by
  cases h
  intro p e s m args below meth c H locs ls C hR hS hl
  refine W.widen hk hn ?_
  exact vx_ret (W.lret (v := v) C.1 C.2.1 (C.2.2.1.trans hr) (fun t ht hW => ⟨_, _, rfl, rfl, by rw [ht]; exact hR, hS.F ht⟩) hS.2.2 hd C.2.2.2.2.2.2.2.1)
theorem aw_vret {mc ms : Nat} {S' : AxS} (hd : decode M.2.1 pc = .ok (.return_, 1)) (hr : M.2.2.2.1 = none) (hk : k ≤ mc) (hn : n ≤ ms) (h : some S = some S') : AW g l R M (axMQ g mc ms (.inl none, S')) k n S pc env [] := by
  cases h
  intro p e s m args below meth c H locs ls C hR hS hl
  refine W.widen hk hn ?_
  exact vx_ret (W.vret C.1 C.2.1 (C.2.2.1.trans hr) (fun t ht hW => ⟨_, _, rfl, rfl, by rw [ht]; exact hR, hS.F ht⟩) hS.2.2 hd C.2.2.2.2.2.2.2.1)
-- calls
def AxCall (g : AxG) (l : Launch) (R : Room) (M : AxM) (k n : Nat) (S : AxS) (pc : Nat) (env : List (Nat × Value)) (st rest : List Value) (o : AxO) (mc ms : Nat) : Prop :=
  ∀ (p : Program) (e : Env) (s : State) (m : MethodId) (args : Array Value) (below : List Frame) (meth : Method) (c : Code) (H : Heap) (locs : List Loc) (ls : Array Slot),
    AxC g l M p s m args meth c → axRel g S H → va_S (axF g) s.heap H locs → lv_has ls M.2.2.1 env → vx_Run p l e R s m args below meth c H locs k n mc ms (F0 m pc ls st) rest (axQc g o #[]) (axXC g o) (axF g)
theorem axPc_blind (av : List Value) (S : AxS) : FrameBlind (axPc g av S) := fun a U gf mk h => by
  obtain ⟨h1, h2, h3⟩ := h
  exact ⟨h1, h2, axK.same (u := U) (U := U.calling gf mk a) rfl h3⟩
theorem axQc_any {o : AxO} {a b : Array Value} : axQc g o a = axQc g o b := rfl
theorem ax_goodws {y : MethodName} {cc : ByteArray} {maxL : Nat} {ret : Option FieldType} (hc : Cond.code y cc maxL ret ∈ ax_tbl) : GoodIn ax_tbl (axWs y cc maxL ret) := fun w hw => ax_good w ((List.mem_cons.mp hw).elim (fun e => by rw [e]; exact hc) id)
theorem ax_goodwss {y : MethodName} {cc : ByteArray} {maxL : Nat} {ret : Option FieldType} {ws : List Cond} (hc : Cond.code y cc maxL ret ∈ ax_tbl) (hws : ∀ w ∈ ws, w ∈ ax_tbl) : GoodIn ax_tbl (ws ++ axWs y cc maxL ret) := fun w hw => (List.mem_append.mp hw).elim (fun h => ax_good w (hws w h)) (fun h => ax_goodws hc w h)
/-- an instance method that the class of the receiver itself has -/
theorem aw_runV {ci : Nat} {C0 : String} {T : u_T} {N : Nat} {y : MethodName} {cc : ByteArray} {maxL d mc ms idx np a : Nat} {ret : Option FieldType} {As rest : List Value} {o : AxO} (hM : AxMet g l y cc maxL ret d mc ms (.ref a :: As) S o) (hc : AxCls ci C0 T N) (hL : axL S a = some (0, ci)) (hcode : Cond.code y cc maxL ret ∈ ax_tbl)
    (h1 : Cond.methodLink M.1 idx y ∈ ax_tbl) (h2 : Cond.instanceMethod y ∈ ax_tbl) (h3 : Cond.selects C0 y y ∈ ax_tbl) (h4 : Cond.initialized C0 ∈ ax_tbl) (hd2 : y.cls = C0 ∧ y.cls ≠ "java/lang/invoke/MethodHandle" ∧ y.cls ≠ "java/lang/invoke/VarHandle" ∧ (parseMethodDescriptor y.desc).map (fun d => d.parameters.length) = some np) (hn : As.length = np)
    (hRm : d + 1 ≤ R.frames ∧ 8 + (maxL + 11) + 80 * d ≤ R.locals) (hf : k + mc ≤ R.cells ∧ n + ms ≤ R.slots) (hst : (rest.map fun v => v.category).sum ≤ 8) (hs : st = As.reverse ++ .ref a :: rest) (hd : decode M.2.1 pc = .ok (.invokevirtual idx, 3)) : AxCall g l R M k n S pc env st rest o mc ms := by
  intro p e s m args below meth c H locs ls C hR hS hl
  obtain ⟨r, g1, cell, q1, q2, q3, -⟩ := (hR.1 a _ hL).2
  refine vx_runV (C := C0) ⟨C.1, C.2.1, C.2.2.2.1, C.2.2.2.2.1, C.2.2.2.2.2.1⟩ hM (cwV np C.2.2.2.2.2.1 (ax_goodwss hcode (by
    intro w hw
    simp only [List.mem_cons, List.not_mem_nil, or_false] at hw
    rcases hw with rfl | rfl | rfl | rfl
    · exact h1
    · exact h2
    · exact h3
    · exact h4)) rfl rfl rfl hd2 hRm) ⟨axPc_blind _ _, ⟨cell, q1, by rw [q3]; rfl, ?_⟩, fun U hU hW => ⟨rfl, by rw [hU]; exact hR, axK.warm hW C.2.2.2.2.2.2.1⟩⟩ rfl hn hl.1 hs (lv_room hst) hd hf
  rw [q2]
  exact ((C.2.2.2.2.2.2.1.1.1 ci _ hc.1).2).1
theorem aw_runVN {ci : Nat} {C0 host : String} {T : u_T} {N : Nat} {y : MethodName} {cc : ByteArray} {maxL d mc ms idx np a : Nat} {ret : Option FieldType} {As rest : List Value} {o : AxO} (hM : AxMet g l y cc maxL ret d mc ms (.ref a :: As) S o) (hc : AxCls ci C0 T N) (hL : axL S a = some (0, ci)) (hcode : Cond.code y cc maxL ret ∈ ax_tbl)
    (h1 : Cond.methodLinkNest M.1 idx y host ∈ lw_tbl) (h2 : Cond.instanceMethod y ∈ ax_tbl) (h3 : Cond.selects C0 y y ∈ ax_tbl) (h4 : Cond.initialized y.cls ∈ ax_tbl) (hd2 : y.cls ≠ "java/lang/invoke/MethodHandle" ∧ y.cls ≠ "java/lang/invoke/VarHandle" ∧ (parseMethodDescriptor y.desc).map (fun d => d.parameters.length) = some np) (hn : As.length = np)
    (hRm : d + 1 ≤ R.frames ∧ 8 + (maxL + 11) + 80 * d ≤ R.locals) (hf : k + mc ≤ R.cells ∧ n + ms ≤ R.slots) (hst : (rest.map fun v => v.category).sum ≤ 8) (hs : st = As.reverse ++ .ref a :: rest) (hd : decode M.2.1 pc = .ok (.invokevirtual idx, 3)) : AxCall g l R M k n S pc env st rest o mc ms := by
  intro p e s m args below meth c H locs ls C hR hS hl
  obtain ⟨r, g1, cell, q1, q2, q3, -⟩ := (hR.1 a _ hL).2
  have hts := C.2.2.2.2.2.1
  refine vx_runVN (C := C0) ⟨C.1, C.2.1, C.2.2.2.1, C.2.2.2.2.1, hts⟩ hM ⟨va_cnB np hts (ax_goodws hcode) rfl rfl rfl (C.2.2.2.2.2.2.1.2.1 _ h1 rfl) (hts _ h4) hd2 hRm, hts _ h2, hts _ h3⟩ ⟨axPc_blind _ _, ⟨cell, q1, by rw [q3]; rfl, ?_⟩, fun U hU hW => ⟨rfl, by rw [hU]; exact hR, axK.warm hW C.2.2.2.2.2.2.1⟩⟩ rfl hn hl.1 hs (lv_room hst) hd hf
  rw [q2]
  exact ((C.2.2.2.2.2.2.1.1.1 ci _ hc.1).2).1
theorem aw_runS {y : MethodName} {cc : ByteArray} {maxL d mc ms idx np : Nat} {ret : Option FieldType} {As rest : List Value} {o : AxO} (hM : AxMet g l y cc maxL ret d mc ms As S o) (hcode : Cond.code y cc maxL ret ∈ ax_tbl)
    (h1 : Cond.methodLink M.1 idx y ∈ ax_tbl) (h2 : Cond.static y ∈ ax_tbl) (h4 : Cond.initialized y.cls ∈ ax_tbl) (hd2 : y.cls ≠ "java/lang/invoke/MethodHandle" ∧ y.cls ≠ "java/lang/invoke/VarHandle" ∧ (parseMethodDescriptor y.desc).map (fun d => d.parameters.length) = some np) (hn : As.length = np)
    (hRm : d + 1 ≤ R.frames ∧ 8 + (maxL + 11) + 80 * d ≤ R.locals) (hf : k + mc ≤ R.cells ∧ n + ms ≤ R.slots) (hst : (rest.map fun v => v.category).sum ≤ 8) (hs : st = As.reverse ++ rest) (hd : decode M.2.1 pc = .ok (.invokestatic idx, 3)) : AxCall g l R M k n S pc env st rest o mc ms := by
  intro p e s m args below meth c H locs ls C hR hS hl
  have hts := C.2.2.2.2.2.1
  exact vx_runS (As := As) ⟨C.1, C.2.1, C.2.2.2.1, C.2.2.2.2.1, hts⟩ hM (va_cwS np hts (ax_goodwss hcode (by
    intro w hw
    simp only [List.mem_cons, List.not_mem_nil, or_false] at hw
    rcases hw with rfl | rfl | rfl
    · exact h1
    · exact h2
    · exact h4)) rfl rfl rfl hd2 hRm) ⟨axPc_blind _ _, fun U hU hW => ⟨rfl, by rw [hU]; exact hR, axK.warm hW C.2.2.2.2.2.2.1⟩⟩ rfl hn hl.1 hs (lv_room hst) hd hf
theorem aw_runSN {host : String} {y : MethodName} {cc : ByteArray} {maxL d mc ms idx np : Nat} {ret : Option FieldType} {As rest : List Value} {o : AxO} (hM : AxMet g l y cc maxL ret d mc ms As S o) (hcode : Cond.code y cc maxL ret ∈ ax_tbl)
    (h1 : Cond.methodLinkNest M.1 idx y host ∈ lw_tbl) (h2 : Cond.static y ∈ ax_tbl) (h4 : Cond.initialized y.cls ∈ ax_tbl) (hd2 : y.cls ≠ "java/lang/invoke/MethodHandle" ∧ y.cls ≠ "java/lang/invoke/VarHandle" ∧ (parseMethodDescriptor y.desc).map (fun d => d.parameters.length) = some np) (hn : As.length = np)
    (hRm : d + 1 ≤ R.frames ∧ 8 + (maxL + 11) + 80 * d ≤ R.locals) (hf : k + mc ≤ R.cells ∧ n + ms ≤ R.slots) (hst : (rest.map fun v => v.category).sum ≤ 8) (hs : st = As.reverse ++ rest) (hd : decode M.2.1 pc = .ok (.invokestatic idx, 3)) : AxCall g l R M k n S pc env st rest o mc ms := by
  intro p e s m args below meth c H locs ls C hR hS hl
  have hts := C.2.2.2.2.2.1
  exact vx_runSN (As := As) ⟨C.1, C.2.1, C.2.2.2.1, C.2.2.2.2.1, hts⟩ hM ⟨va_cnB np hts (ax_goodws hcode) rfl rfl rfl (C.2.2.2.2.2.2.1.2.1 _ h1 rfl) (hts _ h4) hd2 hRm, hts _ h2, trivial⟩ ⟨axPc_blind _ _, fun U hU hW => ⟨rfl, by rw [hU]; exact hR, axK.warm hW C.2.2.2.2.2.2.1⟩⟩ rfl hn hl.1 hs (lv_room hst) hd hf
theorem aw_runI {y : MethodName} {cc : ByteArray} {maxL d mc ms idx np a : Nat} {As rest : List Value} {o : AxO} (hM : AxMet g l y cc maxL none d mc ms (.ref a :: As) S o) (hcode : Cond.code y cc maxL none ∈ ax_tbl)
    (h1 : Cond.methodLink M.1 idx y ∈ ax_tbl) (h2 : Cond.instanceMethod y ∈ ax_tbl) (h4 : Cond.initialized y.cls ∈ ax_tbl) (hy1 : y.name = "<init>") (hd2 : y.cls ≠ "java/lang/invoke/MethodHandle" ∧ y.cls ≠ "java/lang/invoke/VarHandle" ∧ (parseMethodDescriptor y.desc).map (fun d => d.parameters.length) = some np) (hn : As.length = np)
    (hRm : d + 1 ≤ R.frames ∧ 8 + (maxL + 11) + 80 * d ≤ R.locals) (hf : k + mc ≤ R.cells ∧ n + ms ≤ R.slots) (hst : (rest.map fun v => v.category).sum ≤ 8) (hs : st = As.reverse ++ .ref a :: rest) (hd : decode M.2.1 pc = .ok (.invokespecial idx, 3)) : AxCall g l R M k n S pc env st rest o mc ms := by
  intro p e s m args below meth c H locs ls C hR hS hl
  have hts := C.2.2.2.2.2.1
  exact vx_runI ⟨C.1, C.2.1, C.2.2.2.1, C.2.2.2.2.1, hts⟩ hM (cwI np hts (ax_goodws hcode) rfl rfl rfl (hts _ h4) (hts _ h1) (hts _ h2) hy1 hd2 hRm) ⟨axPc_blind _ _, fun U hU hW => ⟨rfl, by rw [hU]; exact hR, axK.warm hW C.2.2.2.2.2.2.1⟩⟩ rfl hn hl.1 hs (lv_room hst) hd hf
theorem aw_runIN {host : String} {y : MethodName} {cc : ByteArray} {maxL d mc ms idx np a : Nat} {As rest : List Value} {o : AxO} (hM : AxMet g l y cc maxL none d mc ms (.ref a :: As) S o) (hcode : Cond.code y cc maxL none ∈ ax_tbl)
    (h1 : Cond.methodLinkNest M.1 idx y host ∈ lw_tbl) (h2 : Cond.instanceMethod y ∈ ax_tbl) (h4 : Cond.initialized y.cls ∈ ax_tbl) (hy1 : y.name = "<init>") (hd2 : y.cls ≠ "java/lang/invoke/MethodHandle" ∧ y.cls ≠ "java/lang/invoke/VarHandle" ∧ (parseMethodDescriptor y.desc).map (fun d => d.parameters.length) = some np) (hn : As.length = np)
    (hRm : d + 1 ≤ R.frames ∧ 8 + (maxL + 11) + 80 * d ≤ R.locals) (hf : k + mc ≤ R.cells ∧ n + ms ≤ R.slots) (hst : (rest.map fun v => v.category).sum ≤ 8) (hs : st = As.reverse ++ .ref a :: rest) (hd : decode M.2.1 pc = .ok (.invokespecial idx, 3)) : AxCall g l R M k n S pc env st rest o mc ms := by
  intro p e s m args below meth c H locs ls C hR hS hl
  have hts := C.2.2.2.2.2.1
  exact vx_runIN ⟨C.1, C.2.1, C.2.2.2.1, C.2.2.2.2.1, hts⟩ hM ⟨va_cnB np hts (ax_goodws hcode) rfl rfl rfl (C.2.2.2.2.2.2.1.2.1 _ h1 rfl) (hts _ h4) hd2 hRm, hy1, hts _ h2⟩ ⟨axPc_blind _ _, fun U hU hW => ⟨rfl, by rw [hU]; exact hR, axK.warm hW C.2.2.2.2.2.2.1⟩⟩ rfl hn hl.1 hs (lv_room hst) hd hf
-- behind a call
theorem aw_done {mc ms : Nat} {v : Option Value} {S' : AxS} {rest : List Value} (hc : AxCall g l R M k n S pc env st rest (.inl v, S') mc ms) (kk : AW g l R M Q (k + mc) (n + ms) S' (pc + 3) env (v.toList ++ rest)) : AW g l R M Q k n S pc env st := by
  intro p e s m args below meth c H locs ls C hR hS hl T hT X
  rcases hc p e s m args below meth c H locs ls C hR hS hl T hT X with ⟨v1, st₀, t, T', L, h0, X', hL, e1, e2, ⟨v2, S2, ho, hv, hR2, hF⟩, stp⟩ | ⟨q, st₀, t, T', L, E, ce, h0, X', hL, e1, e2, ⟨S2, ho, -⟩, -⟩
  · cases hv
    cases ho
    obtain ⟨k1, k2, k3⟩ := vx_keep h0 e1 hS (fun _ _ h => h) (fun _ h => h) hL hF
    obtain ⟨t2, a1, b1⟩ := kk p e s m args below meth c T'.heap (locs ++ L) ls C (by rw [e1]; exact hR2) k3 hl T' rfl X'
    exact ⟨t2, stp t2 a1, b1⟩
  · cases ho
theorem aw_doneI {α β : Type} {F : Option (Int32 × AxS)} {K : Int32 × AxS → Option β} {res : β} {mc ms : Nat} {rest : List Value} (h : F.bind K = some res) (hc : ∀ r S', F = some (r, S') → AxCall g l R M k n S pc env st rest (.inl (some (.int r)), S') mc ms) (kk : ∀ r S', K (r, S') = some res → AW g l R M Q (k + mc) (n + ms) S' (pc + 3) env (.int r :: rest)) : AW g l R M Q k n S pc env st := by
  cases hF : F with
  | none => rw [hF] at h; cases h
  | some u =>
    obtain ⟨r, S'⟩ := u
    rw [hF] at h
    exact aw_done (hc r S' hF) (kk r S' h)
theorem aw_doneL {β : Type} {F : Option (Int64 × AxS)} {K : Int64 × AxS → Option β} {res : β} {mc ms : Nat} {rest : List Value} (h : F.bind K = some res) (hc : ∀ r S', F = some (r, S') → AxCall g l R M k n S pc env st rest (.inl (some (.long r)), S') mc ms) (kk : ∀ r S', K (r, S') = some res → AW g l R M Q (k + mc) (n + ms) S' (pc + 3) env (.long r :: rest)) : AW g l R M Q k n S pc env st := by
  cases hF : F with
  | none => rw [hF] at h; cases h
  | some u =>
    obtain ⟨r, S'⟩ := u
    rw [hF] at h
    exact aw_done (hc r S' hF) (kk r S' h)
theorem aw_doneV {β : Type} {F : Option AxS} {K : AxS → Option β} {res : β} {mc ms : Nat} {rest : List Value} (h : F.bind K = some res) (hc : ∀ S', F = some S' → AxCall g l R M k n S pc env st rest (.inl none, S') mc ms) (kk : ∀ S', K S' = some res → AW g l R M Q (k + mc) (n + ms) S' (pc + 3) env rest) : AW g l R M Q k n S pc env st := by
  cases hF : F with
  | none => rw [hF] at h; cases h
  | some S' =>
    rw [hF] at h
    exact aw_done (hc S' hF) (kk S' h)
/-- the callee has thrown; there is no handler here -/
theorem aw_thru {mc ms mc' ms' : Nat} {E : String} {S' : AxS} {rest : List Value} (hc : AxCall g l R M k n S pc env st rest (.inr E, S') mc ms) (hh : M.2.2.2.2.2 = []) (h1 : k + mc ≤ mc') (h2 : n + ms ≤ ms') : AW g l R M (axMQ g mc' ms' (.inr E, S')) k n S pc env st := by
  intro p e s m args below meth c H locs ls C hR hS hl T hT X
  rcases hc p e s m args below meth c H locs ls C hR hS hl T hT X with ⟨v1, st₀, t, T', L, h0, X', hL, e1, e2, ⟨v2, S2, ho, -⟩, stp⟩ | ⟨q, st₀, t, T', L, E2, ce, h0, X', hL, e1, e2, ⟨S2, ho, hR2, hF⟩, hce, hcv, hcl, stp⟩
  · cases ho
  · cases ho
    obtain ⟨k1, k2, k3⟩ := vx_keep h0 e1 hS (fun _ _ h => h) (fun _ h => h) hL hF
    obtain ⟨t2, a1, b1⟩ := vx_out (Qc := axQc g (.inr E, S')) (XC := axXC g (.inr E, S')) (free := axF g) (H := T'.heap) (rest := rest) (ls := ls) (pc := pc) (mc := mc') (ms := ms') (fun x hx => by rw [C.2.2.2.2.2.2.2.2.2.2.1, hh] at hx; cases hx) C.2.2.2.2.2.2.2.1 (by rw [e1]; exact hce) hcv hcl (fun t9 ht9 _ => ⟨_, rfl, by rw [ht9, e1]; exact hR2, k3.F ht9⟩) k3.2.2 h1 h2 T' rfl X'
    exact ⟨t2, stp.trans a1, b1⟩
end AXC
