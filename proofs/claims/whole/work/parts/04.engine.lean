/-! THE ENGINE: one world for all methods. A content S says what every cell holds (ints, references, longs), by address and place, and of which shape it is; a method's run is a function of contents. The JVM's state is seen only here: behind this part all is about functions of contents. -/
/-- next address where known, and the addresses of the texts; shapes (tag, number): 0 an object of class number n, 1 an int array of n places, 2 a long array, 3 an array of int arrays, 4 of Images, 5 of States, 6 the text number n; ints; references; longs -/
abbrev AxS : Type := (Option Nat × (Nat → Nat)) × (Nat → Option (Nat × Nat)) × (Nat → Nat → Int32) × (Nat → Nat → Option Nat) × (Nat → Nat → Int64)
def axL (S : AxS) (a : Nat) : Option (Nat × Nat) := S.2.1 a
def axI (S : AxS) (a k : Nat) : Int32 := S.2.2.1 a k
def axP (S : AxS) (a k : Nat) : Option Nat := S.2.2.2.1 a k
def axJ (S : AxS) (a k : Nat) : Int64 := S.2.2.2.2 a k
def ax2 {α : Type} (f : Nat → Nat → α) (a k : Nat) (v : α) : Nat → Nat → α := fun b j => if b = a then (if j = k then v else f b j) else f b j
def axSI (S : AxS) (a k : Nat) (v : Int32) : AxS := (S.1, S.2.1, ax2 S.2.2.1 a k v, S.2.2.2)
def axSP (S : AxS) (a k : Nat) (v : Option Nat) : AxS := (S.1, S.2.1, S.2.2.1, ax2 S.2.2.2.1 a k v, S.2.2.2.2)
def axSJ (S : AxS) (a k : Nat) (v : Int64) : AxS := (S.1, S.2.1, S.2.2.1, S.2.2.2.1, ax2 S.2.2.2.2 a k v)
def axS0 (S : AxS) : AxS := ((none, S.1.2), S.2)
def axTx (S : AxS) (i : Nat) : Nat := S.1.2 i
/-- a field's type, by class number and place -/
def axFT (ci k : Nat) : FieldType := match ci with
  | 0 => tyX0 k
  | 1 => tyX1 k
  | 2 => tyX2 k
  | 3 => tyX3 k
  | 4 => tyX4 k
  | 5 => tyX5 k
  | 6 => tyX6 k
  | 7 => tyX7 k
  | 8 => tyX8 k
  | 9 => tyX9 k
  | _ => tyX10 k
def axFr (ci k : Nat) : Bool := match axFT ci k with
  | .int => false
  | .boolean => false
  | _ => true
def axFv (S : AxS) (ci a k : Nat) : Value := if axFr ci k = true then va_rf (axP S a k) else .int (axI S a k)
/-- classes' numbers, array classes' numbers, first address of ours, the heap as it was, the texts' addresses, the script: where, how long, what; where the texts have their bytes -/
abbrev AxG : Type := va_G × (Nat → ClassId) × Nat × Heap × (Nat → Nat) × (Nat × Nat × (Nat → Int32) × (Nat → Nat))
/-- the texts: class, entry, text -/
def ax_strs : List (String × Nat × String) := [("OwedBell", 370, "an argument that is none such"), ("OwedBell$Facts", 90, "owe"), ("OwedBell$Facts", 95, "rate"), ("OwedBell$Facts", 96, "chest"), ("OwedBell$Facts", 97, "harvest"), ("OwedBell$Facts", 99, "village"), ("OwedBell$Facts", 101, "cell"), ("OwedBell$Facts", 103, "monk"), ("OwedBell$Facts", 105, "heir"), ("OwedBell$Law", 73, "least"), ("OwedBell$Law", 79, "most"), ("OwedBell$Law", 88, "asks"), ("OwedBell$Law", 90, "paid"), ("OwedBell$Law", 92, "night"), ("OwedBell$Law", 94, "quiet"), ("OwedBell$Law", 96, "wax"), ("OwedBell$Law", 98, "storm"), ("OwedBell$Law", 100, "chest"), ("OwedBell$Steps", 79, "pay"), ("OwedBell$Steps", 85, "alms"), ("OwedBell$Steps", 87, "wax"), ("OwedBell$Steps", 89, "receipt"), ("OwedBell$Steps", 91, "swap"), ("OwedBell$Steps", 93, "night"), ("OwedBell$Steps", 95, "again"), ("OwedBell", 377, "there is no such one")]
def ax_byt : List (List Int32) := [[97, 110, 32, 97, 114, 103, 117, 109, 101, 110, 116, 32, 116, 104, 97, 116, 32, 105, 115, 32, 110, 111, 110, 101, 32, 115, 117, 99, 104], [111, 119, 101], [114, 97, 116, 101], [99, 104, 101, 115, 116], [104, 97, 114, 118, 101, 115, 116], [118, 105, 108, 108, 97, 103, 101], [99, 101, 108, 108], [109, 111, 110, 107], [104, 101, 105, 114], [108, 101, 97, 115, 116], [109, 111, 115, 116], [97, 115, 107, 115], [112, 97, 105, 100], [110, 105, 103, 104, 116], [113, 117, 105, 101, 116], [119, 97, 120], [115, 116, 111, 114, 109], [99, 104, 101, 115, 116], [112, 97, 121], [97, 108, 109, 115], [119, 97, 120], [114, 101, 99, 101, 105, 112, 116], [115, 119, 97, 112], [110, 105, 103, 104, 116], [97, 103, 97, 105, 110], [116, 104, 101, 114, 101, 32, 105, 115, 32, 110, 111, 32, 115, 117, 99, 104, 32, 111, 110, 101]]
def ax_txt (i : Nat) : List Int32 := ax_byt.getD i []
def axAt (g : AxG) (S : AxS) (a : Nat) (sh : Nat × Nat) (H : Heap) : Prop := match sh.1 with
  | 0 => ∃ r, vwCl[sh.2]? = some r ∧ t_OB a (g.1.1 sh.2) r.2.2 (g.1.2 sh.2) H (axFv S sh.2 a)
  | 1 => H[a]? = some (arrV (g.2.1 1) sh.2 (fun j => .int (axI S a j)))
  | 2 => H[a]? = some (arrV (g.2.1 2) sh.2 (fun j => .long (axJ S a j)))
  | k + 3 => if 3 ≤ k then a = g.2.2.2.2.1 sh.2 ∧ sh.2 < 26 else H[a]? = some (arrV (g.2.1 (k + 3)) sh.2 (fun j => va_rf (axP S a j)))
def axF (g : AxG) : Nat → Prop := fun q => g.2.2.1 ≤ q
def axRel (g : AxG) (S : AxS) (H : Heap) : Prop :=
  (∀ a sh, axL S a = some sh → (sh.1 < 6 → g.2.2.1 ≤ a) ∧ axAt g S a sh H) ∧ (∀ q, q < g.2.2.1 → H[q]? = g.2.2.2.1[q]?) ∧ g.2.2.1 ≤ H.size ∧ g.2.2.2.1.size = g.2.2.1 ∧ (∀ n, S.1.1 = some n → H.size = n) ∧ S.1.2 = g.2.2.2.2.1
/-- the words that a method may use: the good ones of the tables -/
def ax_tbl : List Cond := lw_tbl.filter goodWord
theorem ax_in {w : Cond} {i : Nat} (h : lw_tbl[i]? = some w) (hg : goodWord w = true) : w ∈ ax_tbl := List.mem_filter.mpr ⟨List.mem_of_getElem? h, hg⟩
theorem ax_good : ∀ w ∈ ax_tbl, w ∈ ax_tbl ∧ ((w.onTables && w.keeps) = true ∨ ∃ ty, w = .arrayClass ty) := fun w h => ⟨h, good_of_word (List.mem_filter.mp h).2⟩
/-- the tables' words of nest mates and castings -/
def ax_nw (w : Cond) : Bool := match w with
  | .methodLinkNest _ _ _ _ => true
  | .castable _ _ => true
  | .declares _ => true
  | _ => false
def ax_ow (w : Cond) : Bool := match w with
  | .arrayOver _ => true
  | _ => false
theorem ax_ow_alike {u U : State} (hA : u.vm.Alike U.vm) {w : Cond} (hn : ax_ow w = true) (h : w.before #[] u = true) : w.before #[] U = true := by
  unfold ax_ow at hn
  split at hn
  · rename_i t
    have h9 : (Cond.arrayOver t).before #[] (u.setVm U.vm) = true := (Cond.arrayOver_setVmC (args := #[]) hA t).trans h
    exact h9
  · cases hn
def ax_tys (g : AxG) : List (ClassId × FieldType) := [(g.2.1 1, .int), (g.2.1 2, .long), (g.2.1 3, .array .int), (g.2.1 4, .object "OwedBell$Image"), (g.2.1 5, .object "OwedBell$State")]
/-- text i: an object of String, its bytes in a byte array; it was there before us -/
def axTxt (g : AxG) (U : State) (i : Nat) : Prop := va_O "java/lang/String" (g.2.2.2.2.1 i) (axF g) U g.2.2.2.1 ∧ va_OF "java/lang/String" "coder" "B" (.int 0) (g.2.2.2.2.1 i) (axF g) U g.2.2.2.1 ∧ va_OF "java/lang/String" "value" "[B" (.ref (g.2.2.2.2.2.2.2.2 i)) (g.2.2.2.2.1 i) (axF g) U g.2.2.2.1 ∧ va_T .byte (g.2.2.2.2.2.2.2.2 i) (ax_txt i).length (fun j => .int ((ax_txt i).getD j 0)) (axF g) U g.2.2.2.1
theorem axTxt.moved {g : AxG} {u U : State} {i : Nat} (hvm : u.vm.Alike U.vm) (h : axTxt g u i) : axTxt g U i := by
  obtain ⟨h1, h2, h3, h4⟩ := h
  exact ⟨va_O.moved hvm h1, va_OF.moved hvm h2, va_OF.moved hvm h3, va_T.moved hvm h4⟩
def axK (g : AxG) (U : State) : Prop :=
  va_K g.1 vwCl (ax_tys g) U ∧ (∀ w ∈ lw_tbl, ax_nw w = true → va_Nw w U) ∧ (∀ i q, ax_strs[i]? = some q → vk_R q.1 q.2.1 q.2.2 (g.2.2.2.2.1 i) U) ∧
  (vx_Zq Bundle.tN "UNASSIGNED_STACK" Bundle.steD (axF g) U g.2.2.2.1 ∧ vx_Zq Bundle.tN "SUPPRESSED_SENTINEL" Bundle.listD (axF g) U g.2.2.2.1) ∧
  (∀ i, i < 26 → axTxt g U i) ∧ va_Z "java/lang/String" "COMPACT_STRINGS" "Z" (.int 1) (axF g) U g.2.2.2.1 ∧ va_Zq "jdk/internal/util/Preconditions" "SIOOBE_FORMATTER" "Ljava/util/function/BiFunction;" (axF g) U g.2.2.2.1 ∧
  va_X g.2.2.2.2.2.1 g.2.2.2.2.2.2.1 g.2.2.2.2.2.2.2.1 U g.2.2.2.1 ∧ g.2.2.2.2.2.1 < g.2.2.1 ∧ va_Nc "java/lang/IllegalArgumentException" "java/util/NoSuchElementException" U ∧ ∀ w ∈ lw_tbl, ax_ow w = true → w.before #[] U = true
theorem axK.warm {g : AxG} {s U : State} (hW : s.WarmedH U.vm) (h : axK g s) : axK g U := by
  obtain ⟨h1, h2, h3, ⟨h4, h5⟩, h6, h7, h8, h9, h10, h11, h12⟩ := h
  refine ⟨va_K.moved hW.alike h1, fun w hw hn => ?_, fun i q hq => vk_R.warm hW (h3 i q hq), ⟨vx_Zq.moved hW.alike h4, vx_Zq.moved hW.alike h5⟩, fun i hi => (h6 i hi).moved hW.alike, va_Z.moved hW.alike h7, va_Zq.moved hW.alike h8, va_X.moved hW.alike h9, h10, va_Nc.moved hW.alike h11, fun w hw hn => ax_ow_alike hW.alike hn (h12 w hw hn)⟩
  have h := h2 w hw hn
  unfold ax_nw at hn
  split at hn
  · exact va_Nw.warmM hW h
  · exact va_Nw.warmC hW h
  · exact va_Nw.warmD hW h
  · cases hn
theorem axK.same {g : AxG} {u U : State} (hv : U.vm = u.vm) (h : axK g u) : axK g U := by
  have hA : u.vm.Alike U.vm := by rw [hv]; exact Vm.Alike.refl _
  obtain ⟨h1, h2, h3, ⟨h4, h5⟩, h6, h7, h8, h9, h10, h11, h12⟩ := h
  refine ⟨va_K.moved hA h1, fun w hw hn => ?_, fun i q hq => vk_R.same hv (h3 i q hq), ⟨vx_Zq.moved hA h4, vx_Zq.moved hA h5⟩, fun i hi => (h6 i hi).moved hA, va_Z.moved hA h7, va_Zq.moved hA h8, va_X.moved hA h9, h10, va_Nc.moved hA h11, fun w hw hn => ax_ow_alike hA hn (h12 w hw hn)⟩
  have h := h2 w hw hn
  have ho : w.onTables = true := by
    unfold ax_nw at hn
    split at hn
    · rfl
    · rfl
    · rfl
    · cases hn
  exact va_Nw.same ho hv.symm h
/-- a method: its class, its bytes, how many locals, what it returns, whether it makes an object, its table of handlers -/
abbrev AxM : Type := String × ByteArray × Nat × Option FieldType × Bool × List (Nat × Nat × Nat × Nat)
def AxC (g : AxG) (l : Launch) (M : AxM) (p : Program) (s : State) (m : MethodId) (args : Array Value) (meth : Method) (c : Code) : Prop :=
  p.tables.exec = Jvm.exec ∧ c.code = M.2.1 ∧ meth.sig.returnType = M.2.2.2.1 ∧ c.maxLocals = M.2.2.1 ∧ s.vm.findClass M.1 = some m.cls ∧ (∀ w ∈ ax_tbl, w.before args s = true) ∧ axK g s ∧ meth.locks = false ∧ g.2.2.1 ≤ s.heap.size ∧ (M.2.2.2.2.1 = true → meth.name = "<init>") ∧ c.exceptionTable.toList = tableOf M.2.2.2.2.2 ∧ (∀ q, q < g.2.2.1 → s.heap[q]? = g.2.2.2.1[q]?) ∧ g.2.2.2.1.size = g.2.2.1
abbrev AxQ : Type := List Frame → Array Value → State → State → Prop
/-- the machine, in this method at pc with these locals and operands, over a heap that holds S, comes to its end Q -/
def AW (g : AxG) (l : Launch) (R : Room) (M : AxM) (Q : AxQ) (k n : Nat) (S : AxS) (pc : Nat) (env : List (Nat × Value)) (st : List Value) : Prop :=
  ∀ (p : Program) (e : Env) (s : State) (m : MethodId) (args : Array Value) (below : List Frame) (meth : Method) (c : Code) (H : Heap) (locs : List Loc) (ls : Array Slot),
    AxC g l M p s m args meth c → axRel g S H → va_S (axF g) s.heap H locs → lv_has ls M.2.2.1 env → W p l e R s m args below meth c H locs k n (Q below args s) (F0 m pc ls st)
/-- how a call ends: it returns, or throws an object of a class of that name; and the content then -/
abbrev AxO : Type := Sum (Option Value) String × AxS
def axPc (g : AxG) (av : List Value) (S : AxS) : Array Value → State → Prop := va_Pc av (fun U => axRel g S U.heap ∧ axK g U)
def axQc (g : AxG) (o : AxO) : Array Value → State → Outcome → State → Prop := fun _ st oc t => ∃ v S, o = (.inl v, S) ∧ oc = .returned v ∧ axRel g S t.heap ∧ va_F (axF g) st t
def axXC (g : AxG) (o : AxO) : String → State → State → Prop := fun E st t => ∃ S, o = (.inr E, S) ∧ axRel g S t.heap ∧ va_F (axF g) st t
def axRm (d mc ms : Nat) : Room := { frames := d, cells := mc, slots := ms, locals := 80 * d }
def axWs (y : MethodName) (cc : ByteArray) (maxL : Nat) (ret : Option FieldType) : List Cond := .code y cc maxL ret :: ax_tbl
/-- a method's contract: from content S with these arguments it ends as o says, with at most mc cells of ms places made, in d frames -/
def AxMet (g : AxG) (l : Launch) (y : MethodName) (cc : ByteArray) (maxL : Nat) (ret : Option FieldType) (d mc ms : Nat) (av : List Value) (S : AxS) (o : AxO) : Prop :=
  vx_Met l y (axWs y cc maxL ret) (axRm d mc ms) (axPc g av S) (axQc g o) (axXC g o) mc ms (axF g)
def axMQ (g : AxG) (mc ms : Nat) (o : AxO) : AxQ := fun below args s => vx_MQ below (axQc g o) (axXC g o) args s mc ms (axF g)
theorem ax_ofW {l : Launch} {y : MethodName} {ws ws' : List Cond} {rm : Room} {Pc : Array Value → State → Prop} {Qc : Array Value → State → Outcome → State → Prop} {XC : String → State → State → Prop} {mc ms : Nat} {free : Addr → Prop} {cc : ByteArray} {maxL : Nat} {ret : Option FieldType}
    (hy : plainFor y = true) (hw : ws = Cond.code y cc maxL ret :: ws')
    (body : ∀ p e s m args below meth c s₁, BodyLoose p l y (headSpec ws rm) cc maxL ret e s m args below meth c s₁ → c.maxLocals = maxL → (∀ x ∈ c.exceptionTable.toList, False) → Pc args s →
      W p l e (headSpec ws rm).room s m args below meth c s.heap [] 0 0 (vx_MQ below Qc XC args s mc ms free) (entryFrame m args maxL)) : vx_Met l y ws rm Pc Qc XC mc ms free := by
  refine MetFree.of_bodySF (code := cc) (maxLocals := maxL) (ret := ret) hy ?_ ?_
  · intro args s m h hn
    obtain ⟨meth, c, h1, h2, h3, h4, h5, h6, -, -⟩ := Cond.code_spec hn (atoms_spec (ws := ws) h _ (by rw [hw]; exact List.mem_cons_self))
    exact ⟨meth, c, h1, h2, h3, h4, h5, h6⟩
  · intro p e s m args below meth c s₁ B hml hP _
    have hh0 : s₁.heap = s.heap := by rw [B.state]; rfl
    have ht : ∀ x ∈ c.exceptionTable.toList, False := by
      obtain ⟨meth9, c9, h1, h2, -, -, -, -, h7, -⟩ := Cond.code_spec B.named (atoms_spec (ws := ws) B.pre _ (by rw [hw]; exact List.mem_cons_self))
      cases Option.some.inj (h1.symm.trans B.method)
      cases Option.some.inj (h2.symm.trans (Stand.of_body B).code)
      intro x hx
      rw [Array.isEmpty_iff.mp h7] at hx
      cases hx
    obtain ⟨t, a1, o, b1, b2, b3⟩ := body p e s m args below meth c s₁ B hml ht hP s₁ hh0 (Stand.of_body B)
    exact ⟨t, o, a1, b1, b2, b3⟩
theorem ax_met {g : AxG} {l : Launch} {y : MethodName} {cc : ByteArray} {maxL : Nat} {ret : Option FieldType} {d mc ms : Nat} {av : List Value} {S : AxS} {o : AxO} {own : String} {ini : Bool} (hy : plainFor y = true) (hown : y.cls = own) (hini : (ini = true → y.name = "<init>")) (hlen : Nat.ble (lg_sl av).length maxL = true)
    (k : AW g l (axRm d mc ms) (own, cc, maxL, ret, ini, []) (axMQ g mc ms o) 0 0 S 0 (lv_args 0 av) []) : AxMet g l y cc maxL ret d mc ms av S o := by
  subst hown
  refine ax_ofW (cc := cc) (maxL := maxL) (ret := ret) hy rfl ?_
  intro p e s m args below meth c s₁ B hml ht hv
  obtain ⟨rfl, hR, hK⟩ := hv
  have hts : ∀ w ∈ axWs y cc maxL ret, w.before av.toArray s = true := atoms_spec (ws := axWs y cc maxL ret) B.pre
  have hl := lv_entry av (n := maxL) (Nat.le_of_ble_eq_true hlen)
  rw [lg_entry_eq]
  refine k p e s m av.toArray below meth c s.heap [] _ ⟨B.exec, B.bytes, B.returns, hml, findClass_of_methodNamed B.named, fun w hw => hts w (List.mem_cons_of_mem _ hw), hK, B.notSynchronized, hR.2.2.1, fun hi => ?_, ?_, hR.2.1, hR.2.2.2.1⟩ hR va_S.rf hl
  · rw [← hini hi]; exact (name_of_methodNamed B.named B.method).1
  · cases h9 : c.exceptionTable.toList with
    | nil => rfl
    | cons x t => exact absurd (ht x (by rw [h9]; exact List.mem_cons_self)) id
