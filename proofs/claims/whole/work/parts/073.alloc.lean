/-! what makes cells: new, newarray, anewarray, multianewarray; aastore; Object() -/
section AXAL
variable {g : AxG} {l : Launch} {R : Room} {M : AxM} {Q : AxQ} {k n : Nat} {S : AxS} {pc : Nat} {env : List (Nat × Value)} {st : List Value}
/-- a new cell at q, of this shape, with nothing in it -/
def axAdd (S : AxS) (q : Nat) (sh : Nat × Nat) : AxS := ((some (q + 1), S.1.2), (fun b => if b = q then some sh else S.2.1 b), (fun b j => if b = q then 0 else S.2.2.1 b j), (fun b j => if b = q then none else S.2.2.2.1 b j), (fun b j => if b = q then 0 else S.2.2.2.2 b j))
/-- N rows of K ints, and the array that holds them -/
def axAddM (S : AxS) (q N K : Nat) : AxS := ((some (q + 1 + N), S.1.2), (fun b => if b = q then some (3, N) else if q < b ∧ b ≤ q + N then some (1, K) else S.2.1 b), (fun b j => if q ≤ b ∧ b ≤ q + N then 0 else S.2.2.1 b j), (fun b j => if b = q then (if j < N then some (q + 1 + j) else none) else if q < b ∧ b ≤ q + N then none else S.2.2.2.1 b j), (fun b j => if q ≤ b ∧ b ≤ q + N then 0 else S.2.2.2.2 b j))
def ax_new {α : Type} (S : AxS) (sh : Nat × Nat) (K : Nat → AxS → Option α) : Option α := match S.1.1 with
  | some q => K q (axAdd S q sh)
  | none => none
def ax_newM {α : Type} (S : AxS) (N0 K0 : Nat) (K : Nat → AxS → Option α) : Option α := match S.1.1 with
  | some q => K q (axAddM S q N0 K0)
  | none => none
def ax_str {α : Type} (S : AxS) (a : Nat) (i : Int32) (b tag ci : Nat) (K : AxS → Option α) : Option α := match axL S a with
  | some (t, len) => if t = tag ∧ ¬ (i < 0 ∨ len ≤ i.toNatClampNeg) ∧ axL S b = some (0, ci) then K (axSP S a i.toNatClampNeg (some b)) else none
  | none => none
theorem axRel.add {sh : Nat × Nat} {H H1 : Heap} (h : axRel g S H) (hz : H1.size = H.size + 1) (hq : ∀ q : Nat, q < H.size → H1[q]? = H[q]?) (hat : axAt g (axAdd S H.size sh) H.size sh H1) : axRel g (axAdd S H.size sh) H1 := by
  obtain ⟨h1, h2, h3, h4, h5, h6⟩ := h
  refine ⟨fun a sa ha => ?_, fun q hqb => ?_, by omega, h4, fun m (hm : some (H.size + 1) = some m) => by rw [hz]; exact Option.some.inj hm, h6⟩
  · by_cases e : a = H.size
    · subst e
      have ha : (if H.size = H.size then some sh else S.2.1 H.size) = some sa := ha
      rw [if_pos rfl] at ha
      cases ha
      exact ⟨fun _ => h3, hat⟩
    · have ha : (if a = H.size then some sh else S.2.1 a) = some sa := ha
      rw [if_neg e] at ha
      obtain ⟨g1, g2⟩ := h1 a sa ha
      refine ⟨g1, ?_⟩
      by_cases ht : sa.1 < 6
      · exact axAt.kept g2 (hq a (g2.lt ht)) (fun j => if_neg e) (fun j => if_neg e) (fun j => if_neg e)
      · exact g2.far (by omega)
  · rw [hq q (by omega)]
    exact h2 q hqb
theorem aw_objInit {idx a : Nat} {D mc ms : Nat} (h1 : Cond.methodLink M.1 idx Lib.objectInit ∈ ax_tbl) (h2 : Cond.instanceMethod Lib.objectInit ∈ ax_tbl) (h3 : Cond.code Lib.objectInit ⟨#[0xb1]⟩ 1 none ∈ ax_tbl) (hD : Nat.blt 0 D = true) (hd : decode M.2.1 pc = .ok (.invokespecial idx, 3)) (hs : st = []) (kk : AW g l (axRm D mc ms) M Q k n S (pc + 3) env st) : AW g l (axRm D mc ms) M Q k n S pc env (.ref a :: st) := by
  subst hs
  have hD : 0 < D := Nat.le_of_ble_eq_true hD
  intro p e s m args below meth c H locs ls C hR hS hl
  have hts := C.2.2.2.2.2.1
  refine W.objInit C.1 C.2.1 C.2.2.2.2.1 (hts _ h1) (hts _ h2) (hts _ h3) rfl (hl.1.trans C.2.2.2.1.symm) rfl hd hD ?_ (kk p e s m args below meth c H locs ls C hR hS hl)
  show _ ≤ 80 * D
  simp only [List.map_nil, List.sum_nil, JFrame.monitorRoom]
  simp
  omega
theorem aw_new {α : Type} {res : α} {K : Nat → AxS → Option α} {ci : Nat} {C0 : String} {T : u_T} {N idx : Nat} (hc : AxCls ci C0 T N) (hdf : ∀ j, j < N → defaultValue (axFT ci j) = (if axFr ci j = true then .null else .int 0)) (h1 : Cond.classLink M.1 idx C0 ∈ ax_tbl) (h2 : Cond.instantiable C0 N ∈ ax_tbl) (h3 : Cond.initialized C0 ∈ ax_tbl) (hd : decode M.2.1 pc = .ok (.new idx, 3)) (hk : k + 1 ≤ R.cells) (hn : n + N ≤ R.slots) (h : ax_new S (0, ci) K = some res) (kk : ∀ q S', K q S' = some res → AW g l R M Q (k + 1) (n + N) S' (pc + 3) env (.ref q :: st)) : AW g l R M Q k n S pc env st := by
  unfold ax_new at h
  split at h
  · rename_i q hq0
    intro p e s m args below meth c H locs ls C hR hS hl
    have hts := C.2.2.2.2.2.1
    have hKn := C.2.2.2.2.2.2.1.1.1 ci _ hc.1
    have hsz : H.size = q := hR.2.2.2.2.1 q hq0
    subst hsz
    refine W.newcK C.1 C.2.1 C.2.2.2.2.1 (hts _ h1) (hts _ h2) (hts _ h3) rfl hd hk hn hKn.2.1 rfl fun H1 kC hkC e1 z1 o1 => ?_
    refine kk _ _ h p e s m args below meth c H1 locs ls C (hR.add z1 o1 ⟨_, hc.1, (u_born (axFT ci) hts hc.2.1 hKn hkC e1 hc.2.2.1).to (fun j hj => ?_)⟩) ⟨Nat.le_trans hS.1 (by omega), fun x h1 h2 => (o1 x (Nat.lt_of_lt_of_le h1 hS.1)).trans (hS.2.1 x h1 h2), hS.2.2⟩ hl
    show defaultValue (axFT ci j) = axFv (axAdd S H.size (0, ci)) ci H.size j
    rw [hdf j hj]
    unfold axFv
    split
    · show Value.null = va_rf (if H.size = H.size then none else _)
      rw [if_pos rfl]
      rfl
    · show Value.int 0 = .int (if H.size = H.size then 0 else _)
      rw [if_pos rfl]
  · cases h
theorem aw_newI {α : Type} {res : α} {K : Nat → AxS → Option α} {i : Int32} {N : Nat} (h1 : Cond.arrayClass .int ∈ ax_tbl) (hd : decode M.2.1 pc = .ok (.newarray .int, 2)) (hn0 : ¬ i < 0) (hN : i.toNatClampNeg = N) (hb : Nat.ble (N * 4) 536870912 = true) (hk : k + 1 ≤ R.cells) (hn : n + N ≤ R.slots) (h : ax_new S (1, N) K = some res) (kk : ∀ q S', K q S' = some res → AW g l R M Q (k + 1) (n + N) S' (pc + 2) env (.ref q :: st)) : AW g l R M Q k n S pc env (.int i :: st) := by
  unfold ax_new at h
  split at h
  · rename_i q hq0
    intro p e s m args below meth c H locs ls C hR hS hl
    have hts := C.2.2.2.2.2.1
    have hsz : H.size = q := hR.2.2.2.2.1 q hq0
    subst hsz
    refine va_newaK (atype := .int) C.1 C.2.1 (hts _ h1) rfl hd rfl hn0 hN (Nat.le_of_ble_eq_true hb) hk hn rfl fun H1 cA e1 z1 o1 hAr hNm => ?_
    have hcA : cA = g.2.1 1 := Option.some.inj (hNm.symm.trans (C.2.2.2.2.2.2.1.1.2 0 _ rfl).2)
    subst hcA
    refine kk _ _ h p e s m args below meth c H1 locs ls C (hR.add z1 o1 ?_) ⟨Nat.le_trans hS.1 (by omega), fun x h1 h2 => (o1 x (Nat.lt_of_lt_of_le h1 hS.1)).trans (hS.2.1 x h1 h2), hS.2.2⟩ hl
    show H1[H.size]? = some (arrV (g.2.1 1) N (fun j => .int (if H.size = H.size then 0 else _)))
    rw [e1]
    simp only [if_pos]
    rfl
  · cases h
theorem aw_newJ {α : Type} {res : α} {K : Nat → AxS → Option α} {i : Int32} {N : Nat} (h1 : Cond.arrayClass .long ∈ ax_tbl) (hd : decode M.2.1 pc = .ok (.newarray .long, 2)) (hn0 : ¬ i < 0) (hN : i.toNatClampNeg = N) (hb : Nat.ble (N * 8) 536870912 = true) (hk : k + 1 ≤ R.cells) (hn : n + N ≤ R.slots) (h : ax_new S (2, N) K = some res) (kk : ∀ q S', K q S' = some res → AW g l R M Q (k + 1) (n + N) S' (pc + 2) env (.ref q :: st)) : AW g l R M Q k n S pc env (.int i :: st) := by
  unfold ax_new at h
  split at h
  · rename_i q hq0
    intro p e s m args below meth c H locs ls C hR hS hl
    have hts := C.2.2.2.2.2.1
    have hsz : H.size = q := hR.2.2.2.2.1 q hq0
    subst hsz
    refine va_newaK (atype := .long) C.1 C.2.1 (hts _ h1) rfl hd rfl hn0 hN (Nat.le_of_ble_eq_true hb) hk hn rfl fun H1 cA e1 z1 o1 hAr hNm => ?_
    have hcA : cA = g.2.1 2 := Option.some.inj (hNm.symm.trans (C.2.2.2.2.2.2.1.1.2 1 _ rfl).2)
    subst hcA
    refine kk _ _ h p e s m args below meth c H1 locs ls C (hR.add z1 o1 ?_) ⟨Nat.le_trans hS.1 (by omega), fun x h1 h2 => (o1 x (Nat.lt_of_lt_of_le h1 hS.1)).trans (hS.2.1 x h1 h2), hS.2.2⟩ hl
    show H1[H.size]? = some (arrV (g.2.1 2) N (fun j => .long (if H.size = H.size then 0 else _)))
    rw [e1]
    simp only [if_pos]
    rfl
  · cases h
theorem aw_newR {α : Type} {res : α} {K : Nat → AxS → Option α} {i : Int32} {N t idx : Nat} {C0 : String} (ht : (ax_tys g)[t + 2]? = some (g.2.1 (t + 3), .object C0)) (ht2 : ¬ 3 ≤ t) (h1 : Cond.classLink M.1 idx C0 ∈ ax_tbl) (h2 : Cond.arrayOver (.object C0) ∈ lw_tbl) (hd : decode M.2.1 pc = .ok (.anewarray idx, 3)) (hn0 : ¬ i < 0) (hN : i.toNatClampNeg = N) (hb : Nat.ble (N * 4) 536870912 = true) (hk : k + 1 ≤ R.cells) (hn : n + N ≤ R.slots) (h : ax_new S (t + 3, N) K = some res) (kk : ∀ q S', K q S' = some res → AW g l R M Q (k + 1) (n + N) S' (pc + 3) env (.ref q :: st)) : AW g l R M Q k n S pc env (.int i :: st) := by
  unfold ax_new at h
  split at h
  · rename_i q hq0
    intro p e s m args below meth c H locs ls C hR hS hl
    have hts := C.2.2.2.2.2.1
    have hsz : H.size = q := hR.2.2.2.2.1 q hq0
    subst hsz
    subst hN
    refine W.anew C.1 C.2.1 C.2.2.2.2.1 (hts _ h1) (C.2.2.2.2.2.2.1.2.2.2.2.2.2.2.2.2.2 _ h2 rfl) rfl hd rfl hn0 (Nat.le_of_ble_eq_true hb) hk hn fun cA kA comp f1 f2 f3 f4 => ?_
    obtain ⟨kA2, comp2, -, -, -, f5⟩ := (C.2.2.2.2.2.2.1.1.2 _ _ ht).2
    have hcA : cA = g.2.1 (t + 3) := Option.some.inj (f1.symm.trans f5)
    subst hcA
    generalize hH1 : H.push ({ cls := g.2.1 (t + 3), slots := Array.replicate i.toNatClampNeg .null, vm := .none } : Cell) = H1
    have z1 : H1.size = H.size + 1 := by rw [← hH1, Array.size_push]
    have e1 : H1[H.size]? = some (arrV (g.2.1 (t + 3)) i.toNatClampNeg (fun _ => .null)) := by rw [← hH1, Array.getElem?_push_size, ← arrV_new]
    have o1 : ∀ q : Nat, q < H.size → H1[q]? = H[q]? := fun q hq => by rw [← hH1, Array.getElem?_push, if_neg (Nat.ne_of_lt hq)]
    refine kk _ _ h p e s m args below meth c H1 locs ls C (hR.add z1 o1 ?_) ⟨Nat.le_trans hS.1 (by omega), fun x h1 h2 => (o1 x (Nat.lt_of_lt_of_le h1 hS.1)).trans (hS.2.1 x h1 h2), hS.2.2⟩ hl
    show if 3 ≤ t then _ else H1[H.size]? = some (arrV (g.2.1 (t + 3)) i.toNatClampNeg (fun j => va_rf (if H.size = H.size then none else _)))
    rw [if_neg ht2, e1]
    simp only [if_pos]
    rfl
  · cases h
theorem aw_aast {α : Type} {res : α} {K : AxS → Option α} {a b t ci : Nat} {i : Int32} {C0 : String} {T : u_T} {N : Nat} (hc : AxCls ci C0 T N) (ht : (ax_tys g)[t + 2]? = some (g.2.1 (t + 3), .object C0)) (ht2 : ¬ 3 ≤ t) (hd : decode M.2.1 pc = .ok (.aastore, 1)) (h : ax_str S a i b (t + 3) ci K = some res) (kk : ∀ S', K S' = some res → AW g l R M Q k n S' (pc + 1) env st) : AW g l R M Q k n S pc env (.ref b :: .int i :: .ref a :: st) := by
  unfold ax_str at h
  split at h
  · rename_i t0 len hL
    split at h
    · rename_i hcnd
      obtain ⟨rfl, hin, hb⟩ := hcnd
      intro p e s m args below meth c H locs ls C hR hS hl
      have hK := C.2.2.2.2.2.2.1.1
      have hat : H[a]? = some (arrV (g.2.1 (t + 3)) len (fun j => va_rf (axP S a j))) := by
        have h9 : (if 3 ≤ t then _ else _) := (hR.1 a _ hL).2
        rw [if_neg ht2] at h9
        exact h9
      have hlt : i.toNatClampNeg < len := Nat.not_le.mp fun q => hin (Or.inr q)
      have h0 : ¬ i < 0 := fun q => hin (Or.inl q)
      obtain ⟨r, g1, cellV, q1, q2, q3, -⟩ := (hR.1 b _ hb).2
      have hcls := (hK.1 ci _ hc.1).2
      obtain ⟨kA, comp, k1, k2, k3, -⟩ := (hK.2 _ _ ht).2
      have hcomp : comp = g.1.1 ci := Option.some.inj (k3.symm.trans hcls.1)
      subst hcomp
      obtain ⟨kC, hkC, -⟩ := hcls.2
      refine W.aast C.1 C.2.1 hat (fun q h => by cases h) (fun h => by cases h) k1 k2 rfl hkC ⟨h0, by rw [arrV_size]; exact hlt⟩ q1 (fun q h => by rw [q3] at h; cases h) (by rw [q2]; exact hkC) (by rw [q2]; exact va_assign hcls) rfl rfl hd fun H1 e1 z oq => ?_
      have h6 : t + 3 < 6 := by omega
      refine kk _ h p e s m args below meth c H1 _ ls C (hR.put hL h6 z oq ?_ rfl (fun _ => rfl) (fun _ _ _ => rfl) (fun b hb j => ax2_ne hb) (fun _ _ _ => rfl)) (hS.put z oq ((hR.1 a _ hL).1 h6)) hl
      show if 3 ≤ t then _ else H1[a]? = some (arrV _ _ _)
      rw [if_neg ht2, e1, arrV_store]
      congr 2
      funext q
      show updV _ _ _ q = va_rf (ax2 _ a _ (some b) a q)
      rw [ax2_at]
      unfold updV
      split <;> rfl
    · cases h
  · cases h
theorem axRel.addM {N K : Nat} {H H1 : Heap} (h : axRel g S H) (hz : H1.size = H.size + 1 + N) (hq : ∀ q : Nat, q < H.size → H1[q]? = H[q]?) (ho : H1[H.size]? = some (arrV (g.2.1 3) N (fun j => va_rf (if j < N then some (H.size + 1 + j) else none)))) (hr : ∀ j, j < N → H1[H.size + 1 + j]? = some (arrV (g.2.1 1) K (fun _ => .int 0))) : axRel g (axAddM S H.size N K) H1 := by
  obtain ⟨h1, h2, h3, h4, h5, h6⟩ := h
  refine ⟨fun a sa ha => ?_, fun q hqb => ?_, by omega, h4, fun m (hm : some (H.size + 1 + N) = some m) => by rw [hz]; exact Option.some.inj hm, h6⟩
  · have ha : (if a = H.size then some (3, N) else if H.size < a ∧ a ≤ H.size + N then some (1, K) else S.2.1 a) = some sa := ha
    by_cases e : a = H.size
    · rw [if_pos e] at ha
      cases ha
      subst e
      refine ⟨fun _ => h3, ?_⟩
      show (if 3 ≤ 0 then (H.size = g.2.2.2.2.1 N ∧ N < 26) else H1[H.size]? = some (arrV (g.2.1 3) N (fun j => va_rf (if H.size = H.size then (if j < N then some (H.size + 1 + j) else none) else (if H.size < H.size ∧ H.size ≤ H.size + N then none else S.2.2.2.1 H.size j)))))
      rw [if_neg (by decide), ho]
      simp only [if_pos]
    · rw [if_neg e] at ha
      by_cases e2 : H.size < a ∧ a ≤ H.size + N
      · rw [if_pos e2] at ha
        cases ha
        refine ⟨fun _ => by omega, ?_⟩
        have := hr (a - (H.size + 1)) (by omega)
        rw [show H.size + 1 + (a - (H.size + 1)) = a by omega] at this
        show H1[a]? = some (arrV (g.2.1 1) K (fun j => .int (if H.size ≤ a ∧ a ≤ H.size + N then 0 else _)))
        rw [this]
        exact congrArg some (congrArg (arrV (g.2.1 1) K) (funext fun j => by rw [if_pos (show H.size ≤ a ∧ a ≤ H.size + N from ⟨by omega, e2.2⟩)]))
      · rw [if_neg e2] at ha
        obtain ⟨g1, g2⟩ := h1 a sa ha
        refine ⟨g1, ?_⟩
        by_cases ht : sa.1 < 6
        · have hlt := g2.lt ht
          have n1 : ¬ (H.size ≤ a ∧ a ≤ H.size + N) := by omega
          exact axAt.kept g2 (hq a hlt) (fun j => if_neg n1) (fun j => by show (if a = H.size then _ else if H.size < a ∧ a ≤ H.size + N then none else _) = _; rw [if_neg e, if_neg e2]; rfl) (fun j => if_neg n1)
        · exact g2.far (by omega)
  · rw [hq q (by omega)]
    exact h2 q hqb
theorem ax_outer (c : ClassId) (N h0 : Nat) : ∀ i : Nat, Jvm.Free.Multi.outerC c N h0 i = arrV c N (fun j => va_rf (if j < i then some (h0 + 1 + j) else none))
  | 0 => by
    show ({ cls := c, slots := Array.replicate N .null, vm := .none } : Cell) = _
    rw [arrV_new]
    refine congrArg (arrV c N) (funext fun j => ?_)
    simp [va_rf]
  | i + 1 => by
    show (Jvm.Free.Multi.outerC c N h0 i).setSlot i (.ref (h0 + 1 + i)) = _
    rw [ax_outer c N h0 i, arrV_store]
    refine congrArg (arrV c N) (funext fun j => ?_)
    by_cases e : j = i
    · subst e
      simp [updV, va_rf]
    · by_cases h : j < i
      · simp [updV, e, h, Nat.lt_succ_of_lt h]
      · simp [updV, e, h, show ¬ j < i + 1 by omega]
theorem aw_newM {α : Type} {res : α} {K : Nat → AxS → Option α} {i j : Int32} {N0 K0 idx : Nat} (h1 : Cond.classLink M.1 idx "[[I" ∈ ax_tbl) (h2 : Cond.arrayOver (.array .int) ∈ lw_tbl) (h3 : Cond.arrayClass .int ∈ ax_tbl) (hd : decode M.2.1 pc = .ok (.multianewarray idx 2, 4)) (hi0 : ¬ i < 0) (hj0 : ¬ j < 0) (hN : i.toNatClampNeg = N0) (hM : j.toNatClampNeg = K0) (hb1 : Nat.ble (N0 * 4) 536870912 = true) (hb2 : Nat.ble (K0 * 4) 536870912 = true) (hk : k + (1 + N0) ≤ R.cells) (hn : n + (N0 + N0 * K0) ≤ R.slots) (h : ax_newM S N0 K0 K = some res) (kk : ∀ q S', K q S' = some res → AW g l R M Q (k + 1 + N0) (n + N0 + N0 * K0) S' (pc + 4) env (.ref q :: st)) : AW g l R M Q k n S pc env (.int j :: .int i :: st) := by
  unfold ax_newM at h
  split at h
  · rename_i q hq0
    intro p e s m args below meth c H locs ls C hR hS hl T hT X
    have hts := C.2.2.2.2.2.1
    have hsz : H.size = q := hR.2.2.2.2.1 q hq0
    subst hsz
    subst hN
    subst hM
    have hb2' : j.toNatClampNeg * 4 ≤ 536870912 := Nat.le_of_ble_eq_true hb2
    obtain ⟨vm₁, cA, comp, -, fA, fC, hO, -, X', step⟩ := X.multianewarray2F C.1 C.2.2.2.2.1 (ty := .int) (hts _ h1) (C.2.2.2.2.2.2.1.2.2.2.2.2.2.2.2.2.2 _ h2 rfl) (hts _ h3) (g := F0 m pc ls (.int j :: .int i :: st)) rfl (by rw [C.2.1]; exact hd) rfl hi0 hj0 (Nat.le_of_ble_eq_true hb1) hb2' (by omega) rfl rfl hk hn
    have hK := C.2.2.2.2.2.2.1.1
    have ec : comp = g.2.1 1 := Option.some.inj (fC.symm.trans (hK.2 0 _ rfl).2)
    have ea : cA = g.2.1 3 := Option.some.inj (fA.symm.trans (hK.2 2 _ rfl).2)
    subst ec
    subst ea
    have hTh : (T.setVm vm₁).heap = H := hT
    generalize hF : Jvm.Free.Multi.fill (T.setVm vm₁) (g.2.1 3) (g.2.1 1) i.toNatClampNeg j.toNatClampNeg (defaultValue .int) i.toNatClampNeg = F at X' step
    obtain ⟨f1, f2, -, -⟩ := Jvm.Free.Multi.fill_facts (T.setVm vm₁) (g.2.1 3) (g.2.1 1) i.toNatClampNeg j.toNatClampNeg (defaultValue .int) i.toNatClampNeg
    rw [hF, hTh] at f1 f2
    have hold : ∀ x : Nat, x < H.size → F.heap[x]? = H[x]? := fun x hx => by
      have := Jvm.Free.Multi.fill_old (T.setVm vm₁) (g.2.1 3) (g.2.1 1) i.toNatClampNeg j.toNatClampNeg (defaultValue .int) (a := x) (by rw [hTh]; exact hx) i.toNatClampNeg
      rw [hF, hTh] at this
      exact this
    have hrow : ∀ x : Nat, x < i.toNatClampNeg → F.heap[H.size + 1 + x]? = some (arrV (g.2.1 1) j.toNatClampNeg (fun _ => .int 0)) := fun x hx => by
      have := Jvm.Free.Multi.fill_inner (T.setVm vm₁) (g.2.1 3) (g.2.1 1) i.toNatClampNeg j.toNatClampNeg (defaultValue .int) i.toNatClampNeg x hx
      rw [hF, hTh] at this
      rw [this, ← arrV_new]
      rfl
    have hsz1 : F.heap.size = H.size + 1 + i.toNatClampNeg := by omega
    obtain ⟨t2, a1, b1⟩ := kk _ _ h p e s m args below meth c F.heap locs ls C (hR.addM hsz1 hold (by rw [f2, ax_outer]) hrow) ⟨Nat.le_trans hS.1 (by omega), fun x h1 h2 => (hold x (Nat.lt_of_lt_of_le h1 hS.1)).trans (hS.2.1 x h1 h2), hS.2.2⟩ hl F rfl X'
    refine ⟨t2, step t2 ?_, b1⟩
    rw [hT]
    exact a1
  · cases h
end AXAL
