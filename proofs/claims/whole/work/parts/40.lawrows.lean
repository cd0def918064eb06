/-! rows of the law's own body: the script, its end -/
section AXLW
variable {g : AxG} {l : Launch} {R : Room} {M : AxM} {Q : AxQ} {k n : Nat} {S : AxS} {pc : Nat} {env : List (Nat × Value)} {st : List Value}
def ax_sld {α : Type} (L : Nat) (xs : Nat → Int32) (i : Int32) (K : Int32 → Option α) : Option α := if i < 0 ∨ L ≤ i.toNatClampNeg then none else K (xs i.toNatClampNeg)
theorem aw_sld {α : Type} {res : α} {K : Int32 → Option α} {b L : Nat} {xs : Nat → Int32} {i : Int32} (hsc : g.2.2.2.2.2.1 = b ∧ g.2.2.2.2.2.2.1 = L ∧ g.2.2.2.2.2.2.2.1 = xs) (hd : decode M.2.1 pc = .ok (.iaload, 1)) (h : ax_sld L xs i K = some res) (kk : ∀ x, K x = some res → AW g l R M Q k n S (pc + 1) env (.int x :: st)) : AW g l R M Q k n S pc env (.int i :: .ref b :: st) := by
  unfold ax_sld at h
  split at h
  · cases h
  · rename_i hin
    intro p e s m args below meth c H locs ls C hR hS hl
    obtain ⟨e1, e2, e3⟩ := hsc
    subst e1
    subst e2
    subst e3
    obtain ⟨scr, h1, h2, h3, h4, h5⟩ := C.2.2.2.2.2.2.1.2.2.2.2.2.2.2.1
    have hbl := C.2.2.2.2.2.2.1.2.2.2.2.2.2.2.2.1
    have hlt : i.toNatClampNeg < g.2.2.2.2.2.2.1 := Nat.not_le.mp fun q => hin (Or.inr q)
    exact W.iald (v := .int (g.2.2.2.2.2.2.2.1 i.toNatClampNeg)) C.1 C.2.1 (by rw [hR.2.1 _ hbl]; exact h1) h2 h3 (by rw [h4]; exact hin) (h5 _ hlt) rfl rfl hd (kk _ h p e s m args below meth c H locs ls C hR hS hl)
theorem aw_slen {b L : Nat} {xs : Nat → Int32} (hsc : g.2.2.2.2.2.1 = b ∧ g.2.2.2.2.2.2.1 = L ∧ g.2.2.2.2.2.2.2.1 = xs) (hd : decode M.2.1 pc = .ok (.arraylength, 1)) (kk : AW g l R M Q k n S (pc + 1) env (.int (Int32.ofNat L) :: st)) : AW g l R M Q k n S pc env (.ref b :: st) := by
  intro p e s m args below meth c H locs ls C hR hS hl
  obtain ⟨e1, e2, e3⟩ := hsc
  subst e1
  subst e2
  obtain ⟨scr, h1, h2, h3, h4, h5⟩ := C.2.2.2.2.2.2.1.2.2.2.2.2.2.2.1
  have hbl := C.2.2.2.2.2.2.1.2.2.2.2.2.2.2.2.1
  exact W.alen (n := Int32.ofNat g.2.2.2.2.2.2.1) C.1 C.2.1 (by rw [hR.2.1 _ hbl]; exact h1) h2 (by rw [h4] <;> rfl) rfl rfl hd (kk p e s m args below meth c H locs ls C hR hS hl)
/-- the law's end, where the heap at its entry is the one that g names -/
def axLQ (g : AxG) : AxQ := fun below _ s t => s.heap.size ≤ g.2.2.1 → ∃ o, t.status = .running ∧ Ended t below o ∧ (o = .returned (some (.int 1)) ∧ Framed s o t [] 601024 7293034)
theorem ax_lawend {p : Program} {l : Launch} {e : Env} {s : State} {m : MethodId} {args : Array Value} {below : List Frame} {meth : Method} {c : Code} (hx : p.tables.exec = Jvm.exec) (hb : c.code = code) (hr : meth.sig.returnType = ret) (hlocks : meth.locks = false) {pc : Nat} {H : Heap} {ls : Array Slot} (hdg : decode code pc = .ok (.ireturn, 1)) : W p l e room_1 s m args below meth c H [] 601024 7293034 (fun t => ∃ o, t.status = .running ∧ Ended t below o ∧ (o = .returned (some (.int 1)) ∧ Framed s o t [] 601024 7293034)) (F0 m pc ls [.int 1]) := by
  intro T hT X
  obtain ⟨fs, hret, hrun, hended, hW, hframe⟩ := X.leave (v := some (.int 1)) (hlocks := hlocks) (fun h => by rw [hr] at h; cases h)
  have hmeth' : T.vm.method? m = some meth := X.method'
  refine ⟨T.setFrames fs, ?_, .returned (some (.int 1)), hrun, hended, rfl, ⟨_, rfl⟩, hW, hframe⟩
  jvm_step X.here [X.here.top, hx, hb, hdg, hmeth', hr, ret, narrow_b1]
  (try refine ⟨rfl, ?_⟩); (try refine ⟨rfl, ?_⟩)
  first | (intro acts; rw [hret _ acts rfl rfl rfl]) | rw [hret _ _ rfl rfl rfl]
  exact Steps.refl _
theorem aw_lawret {v : Int32} {S' : AxS} (hM : M.2.1 = code) (hr : M.2.2.2.1 = ret) (hd : decode M.2.1 pc = .ok (.ireturn, 1)) (hk : k ≤ 601024) (hn : n ≤ 7293034) (h : some (v, S) = some (1, S')) : AW g l room_1 M (axLQ g) k n S pc env [.int v] := by
  cases h
  intro p e s m args below meth c H locs ls C hR hS hl
  by_cases hz : s.heap.size ≤ g.2.2.1
  · refine va_forget (fun q hq => Nat.le_trans hz (hS.2.2 q hq)) ?_
    refine W.widen hk hn ?_
    intro T hT X
    obtain ⟨t, a1, b1⟩ := ax_lawend (l := l) (e := e) (args := args) (H := H) (ls := ls) C.1 (C.2.1.trans hM) (C.2.2.1.trans hr) C.2.2.2.2.2.2.2.1 (by rw [← hM]; exact hd) T hT X
    exact ⟨t, a1, fun _ => b1⟩
  · intro T hT X
    exact ⟨_, Steps.refl _, fun h9 => absurd h9 hz⟩
theorem ax_rmL {d maxL : Nat} (h1 : Nat.ble (d + 1) 2048 = true) (h2 : Nat.ble (8 + (maxL + 11) + 80 * d) 84000 = true) : d + 1 ≤ room_1.frames ∧ 8 + (maxL + 11) + 80 * d ≤ room_1.locals := ⟨Nat.le_of_ble_eq_true h1, Nat.le_of_ble_eq_true h2⟩
end AXLW
theorem ax_hfk {k mc K n ms N D : Nat} (h1 : k + mc ≤ K) (h2 : n + ms ≤ N) : k + mc ≤ (axRm D K N).cells ∧ n + ms ≤ (axRm D K N).slots := ⟨h1, h2⟩
theorem ax_hfLw {k mc n ms : Nat} (h1 : k + mc ≤ 601024) (h2 : n + ms ≤ 7293034) : k + mc ≤ room_1.cells ∧ n + ms ≤ room_1.slots := ⟨h1, h2⟩
