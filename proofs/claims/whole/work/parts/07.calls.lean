section AXC
variable {g : AxG} {l : Launch} {R : Room} {M : AxM} {Q : AxQ} {k n : Nat} {S : AxS} {pc : Nat} {env : List (Nat × Value)} {st : List Value}
-- ends
theorem aw_iret {mc ms : Nat} {v r : Int32} {S' : AxS} (hd : decode M.2.1 pc = .ok (.ireturn, 1)) (hr : M.2.2.2.1 = some .int) (hk : k ≤ mc) (hn : n ≤ ms) (h : some (v, S) = some (r, S')) : AW g l R M (axMQ g mc ms (.inl (some (.int r)), S')) k n S pc env [.int v] := by
  cases h
  intro p e s m args below meth c H locs ls C hR hS hl
  refine W.widen hk hn ?_
  exact vx_ret (W.iret (v := v) C.1 C.2.1 (C.2.2.1.trans hr) (fun t ht hW => ⟨_, _, rfl, rfl, by rw [ht]; exact hR, hS.F ht⟩) hS.2.2 hd C.2.2.2.2.2.2.2.1)
def ax_rz {α : Type} (v : Int32) (K : Option α) : Option α := if v = 0 ∨ v = 1 then K else none
theorem ax_nz {v : Int32} (h : v = 0 ∨ v = 1) : narrow .boolean (.int v) = .int v := by rcases h with rfl | rfl <;> rfl
theorem aw_zret {mc ms : Nat} {v r : Int32} {S' : AxS} (hd : decode M.2.1 pc = .ok (.ireturn, 1)) (hr : M.2.2.2.1 = some .boolean) (hk : k ≤ mc) (hn : n ≤ ms) (h : ax_rz v (some (v, S)) = some (r, S')) : AW g l R M (axMQ g mc ms (.inl (some (.int r)), S')) k n S pc env [.int v] := by
  unfold ax_rz at h
  split at h
  · rename_i hz
    cases h
    intro p e s m args below meth c H locs ls C hR hS hl
    refine W.widen hk hn ?_
    exact vx_ret (W.zret (v := v) C.1 C.2.1 (C.2.2.1.trans hr) (ax_nz hz) (fun t ht hW => ⟨_, _, rfl, rfl, by rw [ht]; exact hR, hS.F ht⟩) hS.2.2 hd C.2.2.2.2.2.2.2.1)
  · cases h
theorem aw_lret {mc ms : Nat} {v r : Int64} {S' : AxS} (hd : decode M.2.1 pc = .ok (.lreturn, 1)) (hr : M.2.2.2.1 = some .long) (hk : k ≤ mc) (hn : n ≤ ms) (h : some (v, S) = some (r, S')) : AW g l R M (axMQ g mc ms (.inl (some (.long r)), S')) k n S pc env [.long v] := by
  cases h
  intro p e s m args below meth c H locs ls C hR hS hl
  refine W.widen hk hn ?_
  exact vx_ret (W.lret (v := v) C.1 C.2.1 (C.2.2.1.trans hr) (fun t ht hW => ⟨_, _, rfl, rfl, by rw [ht]; exact hR, hS.F ht⟩) hS.2.2 hd C.2.2.2.2.2.2.2.1)
theorem aw_vret {mc ms : Nat} {S' : AxS} (hd : decode M.2.1 pc = .ok (.return_, 1)) (hr : M.2.2.2.1 = none) (hk : k ≤ mc) (hn : n ≤ ms) (h : some S = some S') : AW g l R M (axMQ g mc ms (.inl none, S')) k n S pc env [] := by
  cases h
  intro p e s m args below meth c H locs ls C hR hS hl
  refine W.widen hk hn ?_
  exact vx_ret (W.vret C.1 C.2.1 (C.2.2.1.trans hr) (fun t ht hW => ⟨_, _, rfl, rfl, by rw [ht]; exact hR, hS.F ht⟩) hS.2.2 hd C.2.2.2.2.2.2.2.1)
-- calls
def AxCall (g : AxG) (l : Launch) (R : Room) (M : AxM) (k n : Nat) (S : AxS) (pc : Nat) (env : List (Nat × Value)) (st rest : List Value) (o : AxO) (mc ms : Nat) : Prop :=
  ∀ (p : Program) (e : Env) (s : State) (m : MethodId) (args : Array Value) (below : List Frame) (meth : Method) (c : Code) (H : Heap) (locs : List Loc) (ls : Array Slot),
    AxC g l M p s m args meth c → axRel g S H → va_S (axF g) s.heap H locs → lv_has ls M.2.2.1 env → vx_Run p l e R s m args below meth c H locs k n mc ms (F0 m pc ls st) rest (axQc g o #[]) (axXC g o) (axF g)
theorem axPc_blind (av : List Value) (S : AxS) : FrameBlind (axPc g av S) := fun a U gf mk h => by
  obtain ⟨h1, h2, h3⟩ := h
  exact ⟨h1, h2, axK.same (u := U) (U := U.calling gf mk a) rfl h3⟩
theorem axQc_any {o : AxO} {a b : Array Value} : axQc g o a = axQc g o b := rfl
theorem ax_goodws {y : MethodName} {cc : ByteArray} {maxL : Nat} {ret : Option FieldType} (hc : Cond.code y cc maxL ret ∈ ax_tbl) : GoodIn ax_tbl (axWs y cc maxL ret) := fun w hw => ax_good w ((List.mem_cons.mp hw).elim (fun e => by rw [e]; exact hc) id)
theorem ax_goodwss {y : MethodName} {cc : ByteArray} {maxL : Nat} {ret : Option FieldType} {ws : List Cond} (hc : Cond.code y cc maxL ret ∈ ax_tbl) (hws : ∀ w ∈ ws, w ∈ ax_tbl) : GoodIn ax_tbl (ws ++ axWs y cc maxL ret) := fun w hw => (List.mem_append.mp hw).elim (fun h => ax_good w (hws w h)) (fun h => ax_goodws hc w h)
/-- an instance method that the class of the receiver itself has -/
theorem aw_runV {ci : Nat} {C0 : String} {T : u_T} {N : Nat} {y : MethodName} {cc : ByteArray} {maxL d mc ms idx np a : Nat} {ret : Option FieldType} {As rest : List Value} {o : AxO} (hM : AxMet g l y cc maxL ret d mc ms (.ref a :: As) S o) (hc : AxCls ci C0 T N) (hL : axL S a = some (0, ci)) (hcode : Cond.code y cc maxL ret ∈ ax_tbl)
    (h1 : Cond.methodLink M.1 idx y ∈ ax_tbl) (h2 : Cond.instanceMethod y ∈ ax_tbl) (h3 : Cond.selects C0 y y ∈ ax_tbl) (h4 : Cond.initialized C0 ∈ ax_tbl) (hd2 : y.cls = C0 ∧ y.cls ≠ "java/lang/invoke/MethodHandle" ∧ y.cls ≠ "java/lang/invoke/VarHandle" ∧ (parseMethodDescriptor y.desc).map (fun d => d.parameters.length) = some np) (hn : As.length = np)
    (hRm : d + 1 ≤ R.frames ∧ 8 + (maxL + 11) + 80 * d ≤ R.locals) (hf : k + mc ≤ R.cells ∧ n + ms ≤ R.slots) (hst : (rest.map fun v => v.category).sum ≤ 8) (hs : st = As.reverse ++ .ref a :: rest) (hd : decode M.2.1 pc = .ok (.invokevirtual idx, 3)) : AxCall g l R M k n S pc env st rest o mc ms := by
  intro p e s m args below meth c H locs ls C hR hS hl
  obtain ⟨r, g1, cell, q1, q2, q3, -⟩ := (hR.1 a _ hL).2
  refine vx_runV (C := C0) ⟨C.1, C.2.1, C.2.2.2.1, C.2.2.2.2.1, C.2.2.2.2.2.1⟩ hM (cwV np C.2.2.2.2.2.1 (ax_goodwss hcode (by
    intro w hw
    simp only [List.mem_cons, List.not_mem_nil, or_false] at hw
    rcases hw with rfl | rfl | rfl | rfl
    · exact h1
    · exact h2
    · exact h3
    · exact h4)) rfl rfl rfl hd2 hRm) ⟨axPc_blind _ _, ⟨cell, q1, by rw [q3]; rfl, ?_⟩, fun U hU hW => ⟨rfl, by rw [hU]; exact hR, axK.warm hW C.2.2.2.2.2.2.1⟩⟩ rfl hn hl.1 hs (lv_room hst) hd hf
  rw [q2]
  exact ((C.2.2.2.2.2.2.1.1.1 ci _ hc.1).2).1
theorem aw_runVN {ci : Nat} {C0 host : String} {T : u_T} {N : Nat} {y : MethodName} {cc : ByteArray} {maxL d mc ms idx np a : Nat} {ret : Option FieldType} {As rest : List Value} {o : AxO} (hM : AxMet g l y cc maxL ret d mc ms (.ref a :: As) S o) (hc : AxCls ci C0 T N) (hL : axL S a = some (0, ci)) (hcode : Cond.code y cc maxL ret ∈ ax_tbl)
    (h1 : Cond.methodLinkNest M.1 idx y host ∈ lw_tbl) (h2 : Cond.instanceMethod y ∈ ax_tbl) (h3 : Cond.selects C0 y y ∈ ax_tbl) (h4 : Cond.initialized y.cls ∈ ax_tbl) (hd2 : y.cls ≠ "java/lang/invoke/MethodHandle" ∧ y.cls ≠ "java/lang/invoke/VarHandle" ∧ (parseMethodDescriptor y.desc).map (fun d => d.parameters.length) = some np) (hn : As.length = np)
    (hRm : d + 1 ≤ R.frames ∧ 8 + (maxL + 11) + 80 * d ≤ R.locals) (hf : k + mc ≤ R.cells ∧ n + ms ≤ R.slots) (hst : (rest.map fun v => v.category).sum ≤ 8) (hs : st = As.reverse ++ .ref a :: rest) (hd : decode M.2.1 pc = .ok (.invokevirtual idx, 3)) : AxCall g l R M k n S pc env st rest o mc ms := by
  intro p e s m args below meth c H locs ls C hR hS hl
  obtain ⟨r, g1, cell, q1, q2, q3, -⟩ := (hR.1 a _ hL).2
  have hts := C.2.2.2.2.2.1
  refine vx_runVN (C := C0) ⟨C.1, C.2.1, C.2.2.2.1, C.2.2.2.2.1, hts⟩ hM ⟨va_cnB np hts (ax_goodws hcode) rfl rfl rfl (C.2.2.2.2.2.2.1.2.1 _ h1 rfl) (hts _ h4) hd2 hRm, hts _ h2, hts _ h3⟩ ⟨axPc_blind _ _, ⟨cell, q1, by rw [q3]; rfl, ?_⟩, fun U hU hW => ⟨rfl, by rw [hU]; exact hR, axK.warm hW C.2.2.2.2.2.2.1⟩⟩ rfl hn hl.1 hs (lv_room hst) hd hf
  rw [q2]
  exact ((C.2.2.2.2.2.2.1.1.1 ci _ hc.1).2).1
theorem aw_runS {y : MethodName} {cc : ByteArray} {maxL d mc ms idx np : Nat} {ret : Option FieldType} {As rest : List Value} {o : AxO} (hM : AxMet g l y cc maxL ret d mc ms As S o) (hcode : Cond.code y cc maxL ret ∈ ax_tbl)
    (h1 : Cond.methodLink M.1 idx y ∈ ax_tbl) (h2 : Cond.static y ∈ ax_tbl) (h4 : Cond.initialized y.cls ∈ ax_tbl) (hd2 : y.cls ≠ "java/lang/invoke/MethodHandle" ∧ y.cls ≠ "java/lang/invoke/VarHandle" ∧ (parseMethodDescriptor y.desc).map (fun d => d.parameters.length) = some np) (hn : As.length = np)
    (hRm : d + 1 ≤ R.frames ∧ 8 + (maxL + 11) + 80 * d ≤ R.locals) (hf : k + mc ≤ R.cells ∧ n + ms ≤ R.slots) (hst : (rest.map fun v => v.category).sum ≤ 8) (hs : st = As.reverse ++ rest) (hd : decode M.2.1 pc = .ok (.invokestatic idx, 3)) : AxCall g l R M k n S pc env st rest o mc ms := by
  intro p e s m args below meth c H locs ls C hR hS hl
  have hts := C.2.2.2.2.2.1
  exact vx_runS (As := As) ⟨C.1, C.2.1, C.2.2.2.1, C.2.2.2.2.1, hts⟩ hM (va_cwS np hts (ax_goodwss hcode (by
    intro w hw
    simp only [List.mem_cons, List.not_mem_nil, or_false] at hw
    rcases hw with rfl | rfl | rfl
    · exact h1
    · exact h2
    · exact h4)) rfl rfl rfl hd2 hRm) ⟨axPc_blind _ _, fun U hU hW => ⟨rfl, by rw [hU]; exact hR, axK.warm hW C.2.2.2.2.2.2.1⟩⟩ rfl hn hl.1 hs (lv_room hst) hd hf
theorem aw_runSN {host : String} {y : MethodName} {cc : ByteArray} {maxL d mc ms idx np : Nat} {ret : Option FieldType} {As rest : List Value} {o : AxO} (hM : AxMet g l y cc maxL ret d mc ms As S o) (hcode : Cond.code y cc maxL ret ∈ ax_tbl)
    (h1 : Cond.methodLinkNest M.1 idx y host ∈ lw_tbl) (h2 : Cond.static y ∈ ax_tbl) (h4 : Cond.initialized y.cls ∈ ax_tbl) (hd2 : y.cls ≠ "java/lang/invoke/MethodHandle" ∧ y.cls ≠ "java/lang/invoke/VarHandle" ∧ (parseMethodDescriptor y.desc).map (fun d => d.parameters.length) = some np) (hn : As.length = np)
    (hRm : d + 1 ≤ R.frames ∧ 8 + (maxL + 11) + 80 * d ≤ R.locals) (hf : k + mc ≤ R.cells ∧ n + ms ≤ R.slots) (hst : (rest.map fun v => v.category).sum ≤ 8) (hs : st = As.reverse ++ rest) (hd : decode M.2.1 pc = .ok (.invokestatic idx, 3)) : AxCall g l R M k n S pc env st rest o mc ms := by
  intro p e s m args below meth c H locs ls C hR hS hl
  have hts := C.2.2.2.2.2.1
  exact vx_runSN (As := As) ⟨C.1, C.2.1, C.2.2.2.1, C.2.2.2.2.1, hts⟩ hM ⟨va_cnB np hts (ax_goodws hcode) rfl rfl rfl (C.2.2.2.2.2.2.1.2.1 _ h1 rfl) (hts _ h4) hd2 hRm, hts _ h2, trivial⟩ ⟨axPc_blind _ _, fun U hU hW => ⟨rfl, by rw [hU]; exact hR, axK.warm hW C.2.2.2.2.2.2.1⟩⟩ rfl hn hl.1 hs (lv_room hst) hd hf
theorem aw_runI {y : MethodName} {cc : ByteArray} {maxL d mc ms idx np a : Nat} {As rest : List Value} {o : AxO} (hM : AxMet g l y cc maxL none d mc ms (.ref a :: As) S o) (hcode : Cond.code y cc maxL none ∈ ax_tbl)
    (h1 : Cond.methodLink M.1 idx y ∈ ax_tbl) (h2 : Cond.instanceMethod y ∈ ax_tbl) (h4 : Cond.initialized y.cls ∈ ax_tbl) (hy1 : y.name = "<init>") (hd2 : y.cls ≠ "java/lang/invoke/MethodHandle" ∧ y.cls ≠ "java/lang/invoke/VarHandle" ∧ (parseMethodDescriptor y.desc).map (fun d => d.parameters.length) = some np) (hn : As.length = np)
    (hRm : d + 1 ≤ R.frames ∧ 8 + (maxL + 11) + 80 * d ≤ R.locals) (hf : k + mc ≤ R.cells ∧ n + ms ≤ R.slots) (hst : (rest.map fun v => v.category).sum ≤ 8) (hs : st = As.reverse ++ .ref a :: rest) (hd : decode M.2.1 pc = .ok (.invokespecial idx, 3)) : AxCall g l R M k n S pc env st rest o mc ms := by
  intro p e s m args below meth c H locs ls C hR hS hl
  have hts := C.2.2.2.2.2.1
  exact vx_runI ⟨C.1, C.2.1, C.2.2.2.1, C.2.2.2.2.1, hts⟩ hM (cwI np hts (ax_goodws hcode) rfl rfl rfl (hts _ h4) (hts _ h1) (hts _ h2) hy1 hd2 hRm) ⟨axPc_blind _ _, fun U hU hW => ⟨rfl, by rw [hU]; exact hR, axK.warm hW C.2.2.2.2.2.2.1⟩⟩ rfl hn hl.1 hs (lv_room hst) hd hf
theorem aw_runIN {host : String} {y : MethodName} {cc : ByteArray} {maxL d mc ms idx np a : Nat} {As rest : List Value} {o : AxO} (hM : AxMet g l y cc maxL none d mc ms (.ref a :: As) S o) (hcode : Cond.code y cc maxL none ∈ ax_tbl)
    (h1 : Cond.methodLinkNest M.1 idx y host ∈ lw_tbl) (h2 : Cond.instanceMethod y ∈ ax_tbl) (h4 : Cond.initialized y.cls ∈ ax_tbl) (hy1 : y.name = "<init>") (hd2 : y.cls ≠ "java/lang/invoke/MethodHandle" ∧ y.cls ≠ "java/lang/invoke/VarHandle" ∧ (parseMethodDescriptor y.desc).map (fun d => d.parameters.length) = some np) (hn : As.length = np)
    (hRm : d + 1 ≤ R.frames ∧ 8 + (maxL + 11) + 80 * d ≤ R.locals) (hf : k + mc ≤ R.cells ∧ n + ms ≤ R.slots) (hst : (rest.map fun v => v.category).sum ≤ 8) (hs : st = As.reverse ++ .ref a :: rest) (hd : decode M.2.1 pc = .ok (.invokespecial idx, 3)) : AxCall g l R M k n S pc env st rest o mc ms := by
  intro p e s m args below meth c H locs ls C hR hS hl
  have hts := C.2.2.2.2.2.1
  exact vx_runIN ⟨C.1, C.2.1, C.2.2.2.1, C.2.2.2.2.1, hts⟩ hM ⟨va_cnB np hts (ax_goodws hcode) rfl rfl rfl (C.2.2.2.2.2.2.1.2.1 _ h1 rfl) (hts _ h4) hd2 hRm, hy1, hts _ h2⟩ ⟨axPc_blind _ _, fun U hU hW => ⟨rfl, by rw [hU]; exact hR, axK.warm hW C.2.2.2.2.2.2.1⟩⟩ rfl hn hl.1 hs (lv_room hst) hd hf
-- behind a call
theorem aw_done {mc ms : Nat} {v : Option Value} {S' : AxS} {rest : List Value} (hc : AxCall g l R M k n S pc env st rest (.inl v, S') mc ms) (kk : AW g l R M Q (k + mc) (n + ms) S' (pc + 3) env (v.toList ++ rest)) : AW g l R M Q k n S pc env st := by
  intro p e s m args below meth c H locs ls C hR hS hl T hT X
  rcases hc p e s m args below meth c H locs ls C hR hS hl T hT X with ⟨v1, st₀, t, T', L, h0, X', hL, e1, e2, ⟨v2, S2, ho, hv, hR2, hF⟩, stp⟩ | ⟨q, st₀, t, T', L, E, ce, h0, X', hL, e1, e2, ⟨S2, ho, -⟩, -⟩
  · cases hv
    cases ho
    obtain ⟨k1, k2, k3⟩ := vx_keep h0 e1 hS (fun _ _ h => h) (fun _ h => h) hL hF
    obtain ⟨t2, a1, b1⟩ := kk p e s m args below meth c T'.heap (locs ++ L) ls C (by rw [e1]; exact hR2) k3 hl T' rfl X'
    exact ⟨t2, stp t2 a1, b1⟩
  · cases ho
def axB {α β : Type} (F : Option (α × AxS)) (K : α → AxS → Option β) : Option β := match F with
  | some (r, S) => K r S
  | none => none
def axBV {β : Type} (F : Option AxS) (K : AxS → Option β) : Option β := match F with
  | some S => K S
  | none => none
/-- what comes of a call that may throw: an answer, or the name of the class of what is thrown -/
abbrev AxT (α : Type) : Type := Sum α String × AxS
def axBT {α β : Type} (F : Option (AxT α)) (K : α → AxS → Option (AxT β)) : Option (AxT β) := match F with
  | some (.inl r, S) => K r S
  | some (.inr E, S) => some (.inr E, S)
  | none => none
def axOI : AxT Int32 → AxO
  | (.inl v, S) => (.inl (some (.int v)), S)
  | (.inr E, S) => (.inr E, S)
def axOL : AxT Int64 → AxO
  | (.inl v, S) => (.inl (some (.long v)), S)
  | (.inr E, S) => (.inr E, S)
def axOV : AxT Unit → AxO
  | (.inl _, S) => (.inl none, S)
  | (.inr E, S) => (.inr E, S)
/-- cells that are made: one where it throws -/
def axCs (o : AxO) : Nat := match o.1 with
  | .inl _ => 0
  | .inr _ => 1
def ax_is {α : Type} (S : AxS) (a ci : Nat) (K : Option α) : Option α := if axL S a = some (0, ci) then K else none
theorem ax_is_spec {α : Type} {S : AxS} {a ci : Nat} {K : Option α} {res : α} (h : ax_is S a ci K = some res) : axL S a = some (0, ci) ∧ K = some res := by
  unfold ax_is at h
  split at h
  · rename_i hL; exact ⟨hL, h⟩
  · cases h
theorem aw_doneI {β : Type} {F : Option (Int32 × AxS)} {K : Int32 → AxS → Option β} {res : β} {mc ms : Nat} {rest : List Value} (h : axB F K = some res) (hc : ∀ r S', F = some (r, S') → AxCall g l R M k n S pc env st rest (.inl (some (.int r)), S') mc ms) (kk : ∀ r S', K r S' = some res → AW g l R M Q (k + mc) (n + ms) S' (pc + 3) env (.int r :: rest)) : AW g l R M Q k n S pc env st := by
  match F, h, hc with
  | some (r, S'), h, hc => exact aw_done (hc r S' rfl) (kk r S' h)
theorem aw_doneL {β : Type} {F : Option (Int64 × AxS)} {K : Int64 → AxS → Option β} {res : β} {mc ms : Nat} {rest : List Value} (h : axB F K = some res) (hc : ∀ r S', F = some (r, S') → AxCall g l R M k n S pc env st rest (.inl (some (.long r)), S') mc ms) (kk : ∀ r S', K r S' = some res → AW g l R M Q (k + mc) (n + ms) S' (pc + 3) env (.long r :: rest)) : AW g l R M Q k n S pc env st := by
  match F, h, hc with
  | some (r, S'), h, hc => exact aw_done (hc r S' rfl) (kk r S' h)
theorem aw_doneV {β : Type} {F : Option AxS} {K : AxS → Option β} {res : β} {mc ms : Nat} {rest : List Value} (h : axBV F K = some res) (hc : ∀ S', F = some S' → AxCall g l R M k n S pc env st rest (.inl none, S') mc ms) (kk : ∀ S', K S' = some res → AW g l R M Q (k + mc) (n + ms) S' (pc + 3) env rest) : AW g l R M Q k n S pc env st := by
  match F, h, hc with
  | some S', h, hc => exact aw_done (hc S' rfl) (kk S' h)
/-- the callee has thrown; there is no handler here -/
theorem aw_thru {mc ms mc' ms' : Nat} {E : String} {S' : AxS} {rest : List Value} (hc : AxCall g l R M k n S pc env st rest (.inr E, S') mc ms) (hh : M.2.2.2.2.2 = []) (h1 : k + mc ≤ mc') (h2 : n + ms ≤ ms') : AW g l R M (axMQ g mc' ms' (.inr E, S')) k n S pc env st := by
  intro p e s m args below meth c H locs ls C hR hS hl T hT X
  rcases hc p e s m args below meth c H locs ls C hR hS hl T hT X with ⟨v1, st₀, t, T', L, h0, X', hL, e1, e2, ⟨v2, S2, ho, -⟩, stp⟩ | ⟨q, st₀, t, T', L, E2, ce, h0, X', hL, e1, e2, ⟨S2, ho, hR2, hF⟩, hce, hcv, hcl, stp⟩
  · cases ho
  · cases ho
    obtain ⟨k1, k2, k3⟩ := vx_keep h0 e1 hS (fun _ _ h => h) (fun _ h => h) hL hF
    obtain ⟨t2, a1, b1⟩ := vx_out (Qc := axQc g (.inr E, S')) (XC := axXC g (.inr E, S')) (free := axF g) (H := T'.heap) (rest := rest) (ls := ls) (pc := pc) (mc := mc') (ms := ms') (fun x hx => by rw [C.2.2.2.2.2.2.2.2.2.2.1, hh] at hx; cases hx) C.2.2.2.2.2.2.2.1 (by rw [e1]; exact hce) hcv hcl (fun t9 ht9 _ => ⟨_, rfl, by rw [ht9, e1]; exact hR2, k3.F ht9⟩) k3.2.2 h1 h2 T' rfl X'
    exact ⟨t2, stp.trans a1, b1⟩
/-- a callee that may throw, in a method without handlers: what is thrown goes on -/
theorem aw_thI {β : Type} {F : Option (AxT Int32)} {K : Int32 → AxS → Option (AxT β)} {res : AxT β} {ob : AxT β → AxO} {rest : List Value} (hob : ∀ E S', ob (.inr E, S') = (.inr E, S')) (hh : M.2.2.2.2.2 = []) (h : axBT F K = some res) (hc : ∀ u, F = some u → (∀ E S', u = (.inr E, S') → res = (.inr E, S')) → AxCall g l R M 0 0 S pc env st rest (axOI u) (axCs (axOI u)) (6 * axCs (axOI u))) (kk : ∀ r S', K r S' = some res → AW g l R M (axMQ g (axCs (ob res)) (6 * axCs (ob res)) (ob res)) 0 0 S' (pc + 3) env (.int r :: rest)) : AW g l R M (axMQ g (axCs (ob res)) (6 * axCs (ob res)) (ob res)) 0 0 S pc env st := by
  match F, h, hc with
  | some (.inl r, S'), h, hc => exact aw_done (hc _ rfl (fun E S' h => by cases h)) (kk r S' h)
  | some (.inr E, S'), h, hc =>
    have hr : (Sum.inr E, S') = res := Option.some.inj h
    subst hr
    have hcc := hc _ rfl (fun E2 S2 e => by cases e; rfl)
    rw [hob]
    exact aw_thru hcc hh (Nat.le_refl _) (Nat.le_refl _)
theorem aw_thL {β : Type} {F : Option (AxT Int64)} {K : Int64 → AxS → Option (AxT β)} {res : AxT β} {ob : AxT β → AxO} {rest : List Value} (hob : ∀ E S', ob (.inr E, S') = (.inr E, S')) (hh : M.2.2.2.2.2 = []) (h : axBT F K = some res) (hc : ∀ u, F = some u → (∀ E S', u = (.inr E, S') → res = (.inr E, S')) → AxCall g l R M 0 0 S pc env st rest (axOL u) (axCs (axOL u)) (6 * axCs (axOL u))) (kk : ∀ r S', K r S' = some res → AW g l R M (axMQ g (axCs (ob res)) (6 * axCs (ob res)) (ob res)) 0 0 S' (pc + 3) env (.long r :: rest)) : AW g l R M (axMQ g (axCs (ob res)) (6 * axCs (ob res)) (ob res)) 0 0 S pc env st := by
  match F, h, hc with
  | some (.inl r, S'), h, hc => exact aw_done (hc _ rfl (fun E S' h => by cases h)) (kk r S' h)
  | some (.inr E, S'), h, hc =>
    have hr : (Sum.inr E, S') = res := Option.some.inj h
    subst hr
    have hcc := hc _ rfl (fun E2 S2 e => by cases e; rfl)
    rw [hob]
    exact aw_thru hcc hh (Nat.le_refl _) (Nat.le_refl _)
theorem aw_thV {β : Type} {F : Option (AxT Unit)} {K : Unit → AxS → Option (AxT β)} {res : AxT β} {ob : AxT β → AxO} {rest : List Value} (hob : ∀ E S', ob (.inr E, S') = (.inr E, S')) (hh : M.2.2.2.2.2 = []) (h : axBT F K = some res) (hc : ∀ u, F = some u → (∀ E S', u = (.inr E, S') → res = (.inr E, S')) → AxCall g l R M 0 0 S pc env st rest (axOV u) (axCs (axOV u)) (6 * axCs (axOV u))) (kk : ∀ S', K () S' = some res → AW g l R M (axMQ g (axCs (ob res)) (6 * axCs (ob res)) (ob res)) 0 0 S' (pc + 3) env rest) : AW g l R M (axMQ g (axCs (ob res)) (6 * axCs (ob res)) (ob res)) 0 0 S pc env st := by
  match F, h, hc with
  | some (.inl r, S'), h, hc => exact aw_done (hc _ rfl (fun E S' h => by cases h)) (kk S' h)
  | some (.inr E, S'), h, hc =>
    have hr : (Sum.inr E, S') = res := Option.some.inj h
    subst hr
    have hcc := hc _ rfl (fun E2 S2 e => by cases e; rfl)
    rw [hob]
    exact aw_thru hcc hh (Nat.le_refl _) (Nat.le_refl _)
-- ends of methods that may throw
theorem aw_iretT {v : Int32} {res : AxT Int32} (hd : decode M.2.1 pc = .ok (.ireturn, 1)) (hr : M.2.2.2.1 = some .int) (h : some (.inl v, S) = some res) : AW g l R M (axMQ g (axCs (axOI res)) (6 * axCs (axOI res)) (axOI res)) 0 0 S pc env [.int v] := by
  cases h
  exact aw_iret hd hr (Nat.le_refl _) (Nat.le_refl _) rfl
theorem aw_lretT {v : Int64} {res : AxT Int64} (hd : decode M.2.1 pc = .ok (.lreturn, 1)) (hr : M.2.2.2.1 = some .long) (h : some (.inl v, S) = some res) : AW g l R M (axMQ g (axCs (axOL res)) (6 * axCs (axOL res)) (axOL res)) 0 0 S pc env [.long v] := by
  cases h
  exact aw_lret hd hr (Nat.le_refl _) (Nat.le_refl _) rfl
theorem aw_vretT {res : AxT Unit} (hd : decode M.2.1 pc = .ok (.return_, 1)) (hr : M.2.2.2.1 = none) (h : some (.inl (), S) = some res) : AW g l R M (axMQ g (axCs (axOV res)) (6 * axCs (axOV res)) (axOV res)) 0 0 S pc env [] := by
  cases h
  exact aw_vret hd hr (Nat.le_refl _) (Nat.le_refl _) rfl
theorem ax_hfI {β : Type} {u : AxT Int32} {res : AxT β} {ob : AxT β → AxO} {D : Nat} (hob : ∀ E S', ob (.inr E, S') = (.inr E, S')) (hu : ∀ E S', u = (.inr E, S') → res = (.inr E, S')) : 0 + axCs (axOI u) ≤ (axRm D (axCs (ob res)) (6 * axCs (ob res))).cells ∧ 0 + 6 * axCs (axOI u) ≤ (axRm D (axCs (ob res)) (6 * axCs (ob res))).slots := by
  obtain ⟨v | E, S'⟩ := u
  · exact ⟨Nat.zero_le _, Nat.zero_le _⟩
  · rw [hu E S' rfl, hob]
    exact ⟨Nat.le_refl _, Nat.le_refl _⟩
theorem ax_hfL {β : Type} {u : AxT Int64} {res : AxT β} {ob : AxT β → AxO} {D : Nat} (hob : ∀ E S', ob (.inr E, S') = (.inr E, S')) (hu : ∀ E S', u = (.inr E, S') → res = (.inr E, S')) : 0 + axCs (axOL u) ≤ (axRm D (axCs (ob res)) (6 * axCs (ob res))).cells ∧ 0 + 6 * axCs (axOL u) ≤ (axRm D (axCs (ob res)) (6 * axCs (ob res))).slots := by
  obtain ⟨v | E, S'⟩ := u
  · exact ⟨Nat.zero_le _, Nat.zero_le _⟩
  · rw [hu E S' rfl, hob]
    exact ⟨Nat.le_refl _, Nat.le_refl _⟩
theorem ax_hfV {β : Type} {u : AxT Unit} {res : AxT β} {ob : AxT β → AxO} {D : Nat} (hob : ∀ E S', ob (.inr E, S') = (.inr E, S')) (hu : ∀ E S', u = (.inr E, S') → res = (.inr E, S')) : 0 + axCs (axOV u) ≤ (axRm D (axCs (ob res)) (6 * axCs (ob res))).cells ∧ 0 + 6 * axCs (axOV u) ≤ (axRm D (axCs (ob res)) (6 * axCs (ob res))).slots := by
  obtain ⟨v | E, S'⟩ := u
  · exact ⟨Nat.zero_le _, Nat.zero_le _⟩
  · rw [hu E S' rfl, hob]
    exact ⟨Nat.le_refl _, Nat.le_refl _⟩
theorem axAt.far {S S' : AxS} {a : Nat} {sh : Nat × Nat} {H H1 : Heap} (h : axAt g S a sh H) (ht : 6 ≤ sh.1) : axAt g S' a sh H1 := by
  obtain ⟨t, num⟩ := sh
  match t, ht with
  | 0, ht => exact absurd (show 6 ≤ 0 from ht) (by decide)
  | 1, ht => exact absurd (show 6 ≤ 1 from ht) (by decide)
  | 2, ht => exact absurd (show 6 ≤ 2 from ht) (by decide)
  | t + 3, ht =>
    have ht : 6 ≤ t + 3 := ht
    have h : (if 3 ≤ t then _ else _) := h
    rw [if_pos (by omega)] at h
    show (if 3 ≤ t then _ else _)
    rw [if_pos (by omega)]
    exact h
theorem axAt.lt {S : AxS} {a : Nat} {sh : Nat × Nat} {H : Heap} (h : axAt g S a sh H) (ht : sh.1 < 6) : a < H.size := by
  obtain ⟨t, num⟩ := sh
  match t, ht with
  | 0, _ =>
    obtain ⟨r, -, cell, h2, -⟩ := h
    exact (Array.getElem?_eq_some_iff.mp h2).1
  | 1, _ => exact (Array.getElem?_eq_some_iff.mp h).1
  | 2, _ => exact (Array.getElem?_eq_some_iff.mp h).1
  | t + 3, ht =>
    have ht : t + 3 < 6 := ht
    have h : (if 3 ≤ t then _ else _) := h
    rw [if_neg (by omega)] at h
    exact (Array.getElem?_eq_some_iff.mp h).1
/-- the heap has grown: what was there is as it was -/
theorem axRel.grow {S : AxS} {H H1 : Heap} (h : axRel g S H) (hz : H.size ≤ H1.size) (hq : ∀ q : Nat, q < H.size → H1[q]? = H[q]?) : axRel g (axS0 S) H1 := by
  obtain ⟨h1, h2, h3, h4, h5, h6⟩ := h
  refine ⟨fun a sh ha => ?_, fun q hqb => ?_, Nat.le_trans h3 hz, h4, fun m (hm : none = some m) => (by cases hm), h6⟩
  · obtain ⟨g1, g2⟩ := h1 a sh ha
    refine ⟨g1, ?_⟩
    by_cases ht : sh.1 < 6
    · exact axAt.kept g2 (hq a (g2.lt ht)) (fun _ => rfl) (fun _ => rfl) (fun _ => rfl)
    · exact g2.far (by omega)
  · rw [hq q (Nat.lt_of_lt_of_le hqb h3)]
    exact h2 q hqb
theorem aw_throwSW {D : Nat} {cls tx : String} {names : List String} {ik is ic j : Nat} {res : AxT Unit} (hl0 : l.stackTraces = false) (hcls : Bundle.fit cls = true) (hnames : ∀ n ∈ names, Bundle.fit n = true) (hk : Cond.classLink M.1 ik cls ∈ ax_tbl) (hini : Cond.initialized cls ∈ ax_tbl) (hstr : ax_strs[j]? = some (M.1, is, tx))
    (hg : ∀ w ∈ (vx_atS M.1 ic cls names).filter goodWord, w ∈ ax_tbl) (hb : ∀ w ∈ (vx_atS M.1 ic cls names).filter (fun w => !goodWord w), w ∈ lw_tbl.filter ax_nw) (hot : ∀ w ∈ Cond.classLink M.1 ik cls :: Cond.initialized cls :: vx_atS M.1 ic cls names, vx_ot w = true)
    (d0 : decode M.2.1 pc = .ok (.new ik, 3)) (d3 : decode M.2.1 (pc + 3) = .ok (.dup, 1)) (d4 : decode M.2.1 (pc + 4) = .ok (.ldc_w is, 3)) (d7 : decode M.2.1 (pc + 7) = .ok (.invokespecial ic, 3)) (d10 : decode M.2.1 (pc + 10) = .ok (.athrow, 1))
    (hh : M.2.2.2.2.2 = []) (hfr : names.length + 3 < D) (hst : st = []) (h : some (.inr cls, axS0 S) = some res) : AW g l (axRm D (axCs (axOV res)) (6 * axCs (axOV res))) M (axMQ g (axCs (axOV res)) (6 * axCs (axOV res)) (axOV res)) 0 0 S pc env st := by
  cases h
  subst hst
  intro p e s m args below meth c H locs ls C hR hS hl
  have hK := C.2.2.2.2.2.2.1
  have hts := C.2.2.2.2.2.1
  have hzq : ∀ n d, vx_Zq Bundle.tN n d (axF g) s g.2.2.2.1 → vx_Zq Bundle.tN n d (axF g) s s.heap := fun n d h9 => h9.kept (fun a ha hna => C.2.2.2.2.2.2.2.2.2.2.2.1 a (by have := C.2.2.2.2.2.2.2.2.2.2.2.2; omega))
  refine vx_throwSW (A := axF g) (sa := axTx S j) (text := tx) (names := names) C.1 C.2.1 hl0 C.2.2.2.2.1 hcls hnames (hts _ hk) (hts _ hini) (by unfold axTx; rw [hR.2.2.2.2.2]; exact hK.2.2.1 _ _ hstr) (vx_hat (B := lw_tbl.filter ax_nw) (fun w hw => hts w (hg w hw)) hb (fun w hw => ?_)) hot (hzq _ _ hK.2.2.2.1.1) (hzq _ _ hK.2.2.2.1.2) hS (hl.1.trans C.2.2.2.1.symm) d0 d3 d4 d7 d10 (fun x hx => by rw [C.2.2.2.2.2.2.2.2.2.2.1, hh] at hx; cases hx) hfr ?_ (Nat.le_refl _) (Nat.le_refl _) C.2.2.2.2.2.2.2.1 (fun t hvm hz hq => ⟨_, rfl, hR.grow hz hq, ?_⟩) hS.2.2 (Nat.le_refl _) (Nat.le_refl _)
  · obtain ⟨hw1, hw2⟩ := List.mem_filter.mp hw
    have hnw := hK.2.1 w hw1 hw2
    refine va_Nw.use ?_ hnw
    unfold ax_nw at hw2
    split at hw2
    · rfl
    · rfl
    · rfl
    · cases hw2
  · show _ ≤ 80 * D
    simp only [List.map_nil, List.sum_nil]
    omega
  · exact ⟨Nat.le_trans hS.1 hz, fun q h1 h2 => by rw [hq q (Nat.lt_of_lt_of_le h1 hS.1)]; exact hS.2.1 q h1 h2⟩
theorem ax_rm {d D maxL mc ms : Nat} (h1 : d + 1 ≤ D) (h2 : Nat.ble maxL 61 = true) : d + 1 ≤ (axRm D mc ms).frames ∧ 8 + (maxL + 11) + 80 * d ≤ (axRm D mc ms).locals := by
  have h2 : maxL ≤ 61 := Nat.le_of_ble_eq_true h2
  refine ⟨h1, ?_⟩
  show 8 + (maxL + 11) + 80 * d ≤ 80 * D
  omega
theorem ax_hf0 {D mc ms : Nat} : 0 + 0 ≤ (axRm D mc ms).cells ∧ 0 + 0 ≤ (axRm D mc ms).slots := ⟨Nat.zero_le _, Nat.zero_le _⟩
end AXC
