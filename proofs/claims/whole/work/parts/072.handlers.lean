/-! methods with a table of handlers: their contract, their call, what is thrown in them and caught -/
section AXHD
variable {g : AxG} {l : Launch} {R : Room} {M : AxM} {Q : AxQ} {k n : Nat} {S : AxS} {pc : Nat} {env : List (Nat × Value)} {st : List Value}
def axWsH (y : MethodName) (cc : ByteArray) (maxL : Nat) (ret : Option FieldType) (hh : List (Nat × Nat × Nat × Nat)) : List Cond := .codeWith y cc maxL ret hh :: ax_tbl
def AxMetH (g : AxG) (l : Launch) (y : MethodName) (cc : ByteArray) (maxL : Nat) (ret : Option FieldType) (hh : List (Nat × Nat × Nat × Nat)) (d mc ms : Nat) (av : List Value) (S : AxS) (o : AxO) : Prop :=
  vx_Met l y (axWsH y cc maxL ret hh) (axRm d mc ms) (axPc g av S) (axQc g o) (axXC g o) mc ms (axF g)
theorem ax_metH {y : MethodName} {cc : ByteArray} {maxL : Nat} {ret : Option FieldType} {hh : List (Nat × Nat × Nat × Nat)} {d mc ms : Nat} {av : List Value} {o : AxO} {own : String} (hy : plainName y.cls = true) (hown : y.cls = own) (hlen : Nat.ble (lg_sl av).length maxL = true)
    (kk : AW g l (axRm d mc ms) (own, cc, maxL, ret, false, hh) (axMQ g mc ms o) 0 0 S 0 (lv_args 0 av) []) : AxMetH g l y cc maxL ret hh d mc ms av S o := by
  subst hown
  refine vx_ofWH (cc := cc) (maxL := maxL) (ret := ret) hy rfl ?_
  intro p e s m args below meth c s₁ B hml hv
  obtain ⟨rfl, hR, hK⟩ := hv
  have hts : ∀ w ∈ axWsH y cc maxL ret hh, w.before av.toArray s = true := atoms_spec (ws := axWsH y cc maxL ret hh) B.pre
  have hl := lv_entry av (n := maxL) (Nat.le_of_ble_eq_true hlen)
  rw [lg_entry_eq]
  exact kk p e s m av.toArray below meth c s.heap [] _ ⟨B.exec, B.bytes, B.returns, hml, findClass_of_methodNamed B.named, fun w hw => hts w (List.mem_cons_of_mem _ hw), hK, B.notSynchronized, hR.2.2.1, fun (hi : false = true) => (by cases hi), vx_table (x := y) (y := y) (bytes := cc) (maxL' := maxL) (ret' := ret) (hh := hh) B (hts _ List.mem_cons_self), hR.2.1, hR.2.2.2.1⟩ hR va_S.rf hl
theorem aw_runSH {y : MethodName} {cc : ByteArray} {hh : List (Nat × Nat × Nat × Nat)} {maxL d mc ms idx np : Nat} {ret : Option FieldType} {As rest : List Value} {o : AxO} (hM : AxMetH g l y cc maxL ret hh d mc ms As S o) (hcode : Cond.codeWith y cc maxL ret hh ∈ ax_tbl)
    (h1 : Cond.methodLink M.1 idx y ∈ ax_tbl) (h2 : Cond.static y ∈ ax_tbl) (h4 : Cond.initialized y.cls ∈ ax_tbl) (hd2 : y.cls ≠ "java/lang/invoke/MethodHandle" ∧ y.cls ≠ "java/lang/invoke/VarHandle" ∧ (parseMethodDescriptor y.desc).map (fun d => d.parameters.length) = some np) (hn : As.length = np)
    (hRm : d + 1 ≤ R.frames ∧ 8 + (maxL + 11) + 80 * d ≤ R.locals) (hf : k + mc ≤ R.cells ∧ n + ms ≤ R.slots) (hst : (rest.map fun v => v.category).sum ≤ 8) (hs : st = As.reverse ++ rest) (hd : decode M.2.1 pc = .ok (.invokestatic idx, 3)) : AxCall g l R M k n S pc env st rest o mc ms := by
  intro p e s m args below meth c H locs ls C hR hS hl
  have hts := C.2.2.2.2.2.1
  have hG : GoodIn ax_tbl (axWsH y cc maxL ret hh) := fun w hw => ax_good w ((List.mem_cons.mp hw).elim (fun e => by rw [e]; exact hcode) id)
  refine vx_runSX (As := As) ⟨C.1, C.2.1, C.2.2.2.1, C.2.2.2.2.1, hts⟩ hM (vx_cwSW np hts (fun w hw => ?_) rfl rfl rfl hd2 hRm) ⟨axPc_blind _ _, fun U hU hW => ⟨rfl, by rw [hU]; exact hR, axK.warm hW C.2.2.2.2.2.2.1⟩⟩ rfl hn hl.1 hs (lv_room hst) hd hf
  unfold va_wsS at hw
  rcases List.mem_append.mp hw with h | h
  · simp only [List.mem_cons, List.not_mem_nil, or_false] at h
    rcases h with rfl | rfl | rfl
    · exact ax_good _ h1
    · exact ax_good _ h2
    · exact ax_good _ h4
  · exact hG w h
/-- an object of class E is thrown over this method's frame -/
def AWX (g : AxG) (l : Launch) (R : Room) (M : AxM) (Q : AxQ) (k n : Nat) (S : AxS) (pc : Nat) (env : List (Nat × Value)) (E : String) : Prop :=
  ∀ (p : Program) (e : Env) (s : State) (m : MethodId) (args : Array Value) (below : List Frame) (meth : Method) (c : Code) (H : Heap) (locs : List Loc) (ls : Array Slot) (rest : List Value) (q : Addr) (ce : Cell),
    AxC g l M p s m args meth c → axRel g S H → va_S (axF g) s.heap H locs → lv_has ls M.2.2.1 env → H[q]? = some ce → ce.vm = .none → s.vm.findClass E = some ce.cls → vx_W p l e R s m args below meth c H locs k n (Q below args s) (F0 m pc ls rest) q
theorem aw_caught {E name : String} (pre : List ExceptionTableEntry) (x : ExceptionTableEntry) (suf : List ExceptionTableEntry) (hsplit : tableOf M.2.2.2.2.2 = pre ++ x :: suf)
    (hpass : ∀ z ∈ pre, z.catchType ≠ 0 ∧ Cond.classLink M.1 z.catchType "java/util/NoSuchElementException" ∈ ax_tbl ∧ E = "java/lang/IllegalArgumentException") (hx : covers x pc = true) (h0 : x.catchType ≠ 0) (hlink : Cond.classLink M.1 x.catchType name ∈ ax_tbl) (hcast : Cond.castable E name ∈ lw_tbl)
    (kk : ∀ q : Nat, AW g l R M Q k n S x.handlerPc env [.ref q]) : AWX g l R M Q k n S pc env E := by
  intro p e s m args below meth c H locs ls rest q ce C hR hS hl hq hv hcl
  have hts := C.2.2.2.2.2.1
  refine vx_catch C.2.2.2.2.1 pre x suf (C.2.2.2.2.2.2.2.2.2.2.1.trans hsplit) (fun z hz => ?_) hx h0 (hts _ hlink) (va_Nw.use rfl (C.2.2.2.2.2.2.1.2.1 _ hcast rfl)) hq hv hcl (kk q p e s m args below meth c H locs ls C hR hS hl)
  obtain ⟨z1, z2, z3⟩ := hpass z hz
  rw [z3]
  exact Or.inr ⟨z1, _, hts _ z2, C.2.2.2.2.2.2.1.2.2.2.2.2.2.2.2.2.1⟩
def axBC {α β : Type} (F : Option (AxT α)) (K : α → AxS → Option β) (X : String → AxS → Option β) : Option β := match F with
  | some (.inl r, S) => K r S
  | some (.inr E, S) => X E S
  | none => none
theorem aw_tryI {β : Type} {F : Option (AxT Int32)} {K : Int32 → AxS → Option β} {X : String → AxS → Option β} {res : β} {rest : List Value} (h : axBC F K X = some res) (hc : ∀ u, F = some u → AxCall g l R M k n S pc env st rest (axOI u) (axCs (axOI u)) (6 * axCs (axOI u))) (kk : ∀ r S', K r S' = some res → AW g l R M Q k n S' (pc + 3) env (.int r :: rest)) (kx : ∀ E S', X E S' = some res → AWX g l R M Q (k + 1) (n + 6) S' pc env E) : AW g l R M Q k n S pc env st := by
  match F, h, hc with
  | some (.inl r, S'), h, hc => exact aw_done (hc _ rfl) (kk r S' h)
  | some (.inr E, S'), h, hc =>
    have hcc := hc _ rfl
    have kx := kx E S' h
    intro p e s m args below meth c H locs ls C hR hS hl T hT X
    rcases hcc p e s m args below meth c H locs ls C hR hS hl T hT X with ⟨v1, st₀, t, T', L, h0, X', hL, e1, e2, ⟨v2, S2, ho, -⟩, stp⟩ | ⟨q, st₀, t, T', L, E2, ce, h0, X', hL, e1, e2, ⟨S2, ho, hR2, hF⟩, hce, hcv, hcl, stp⟩
    · cases ho
    · cases ho
      obtain ⟨k1, k2, k3⟩ := vx_keep h0 e1 hS (fun _ _ h => h) (fun _ h => h) hL hF
      obtain ⟨t2, a1, b1⟩ := kx p e s m args below meth c T'.heap (locs ++ L) ls rest q ce C (by rw [e1]; exact hR2) k3 hl (by rw [e1]; exact hce) hcv hcl T' rfl X'
      exact ⟨t2, stp.trans a1, b1⟩
theorem aw_tryL {β : Type} {F : Option (AxT Int64)} {K : Int64 → AxS → Option β} {X : String → AxS → Option β} {res : β} {rest : List Value} (h : axBC F K X = some res) (hc : ∀ u, F = some u → AxCall g l R M k n S pc env st rest (axOL u) (axCs (axOL u)) (6 * axCs (axOL u))) (kk : ∀ r S', K r S' = some res → AW g l R M Q k n S' (pc + 3) env (.long r :: rest)) (kx : ∀ E S', X E S' = some res → AWX g l R M Q (k + 1) (n + 6) S' pc env E) : AW g l R M Q k n S pc env st := by
  match F, h, hc with
  | some (.inl r, S'), h, hc => exact aw_done (hc _ rfl) (kk r S' h)
  | some (.inr E, S'), h, hc =>
    have hcc := hc _ rfl
    have kx := kx E S' h
    intro p e s m args below meth c H locs ls C hR hS hl T hT X
    rcases hcc p e s m args below meth c H locs ls C hR hS hl T hT X with ⟨v1, st₀, t, T', L, h0, X', hL, e1, e2, ⟨v2, S2, ho, -⟩, stp⟩ | ⟨q, st₀, t, T', L, E2, ce, h0, X', hL, e1, e2, ⟨S2, ho, hR2, hF⟩, hce, hcv, hcl, stp⟩
    · cases ho
    · cases ho
      obtain ⟨k1, k2, k3⟩ := vx_keep h0 e1 hS (fun _ _ h => h) (fun _ h => h) hL hF
      obtain ⟨t2, a1, b1⟩ := kx p e s m args below meth c T'.heap (locs ++ L) ls rest q ce C (by rw [e1]; exact hR2) k3 hl (by rw [e1]; exact hce) hcv hcl T' rfl X'
      exact ⟨t2, stp.trans a1, b1⟩
theorem ax_hfX {o : AxO} {D : Nat} : 0 + axCs o ≤ (axRm D 1 6).cells ∧ 0 + 6 * axCs o ≤ (axRm D 1 6).slots := by
  obtain ⟨v | E, S'⟩ := o
  · exact ⟨Nat.zero_le _, Nat.zero_le _⟩
  · exact ⟨Nat.le_refl _, Nat.le_refl _⟩
end AXHD
