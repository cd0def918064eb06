section AXH
variable {g : AxG} {l : Launch} {R : Room} {M : AxM} {Q : AxQ} {k n : Nat} {S : AxS} {pc : Nat} {env : List (Nat × Value)} {st : List Value}
theorem aw_case {α : Type} {A B : Option α} {res : α} (v : Int32) {x : Int32} (h : (if x = v then A else B) = some res) (k1 : A = some res → AW g l R M Q k n S pc env (.int v :: st)) (k2 : ¬ x = v → B = some res → AW g l R M Q k n S pc env (.int x :: st)) : AW g l R M Q k n S pc env (.int x :: st) := by
  by_cases hc : x = v
  · rw [if_pos hc] at h
    rw [hc]
    exact k1 h
  · rw [if_neg hc] at h
    exact k2 hc h
theorem aw_tswIn (tgt : Nat) {dflt lo hi : Int} {offs : Array Int} {len : Nat} {x : Int32} {off : Int} (hd : decode M.2.1 pc = .ok (.tableswitch dflt lo hi offs, len)) (h1 : ¬ x.toInt < lo) (h2 : ¬ hi < x.toInt) (ho : offs[(x.toInt - lo).toNat]? = some off) (ht : (pc : Int) + off = (tgt : Int)) (kk : AW g l R M Q k n S tgt env st) : AW g l R M Q k n S pc env (.int x :: st) := fun p e s m args below meth c H locs ls C hR hS hl => lv_tableIn C.1 C.2.1 hd h1 h2 ho ht (kk p e s m args below meth c H locs ls C hR hS hl)
theorem aw_tswOut (tgt : Nat) {dflt lo hi : Int} {offs : Array Int} {len : Nat} {x : Int32} (hd : decode M.2.1 pc = .ok (.tableswitch dflt lo hi offs, len)) (h1 : x.toInt < lo ∨ hi < x.toInt) (ht : (pc : Int) + dflt = (tgt : Int)) (kk : AW g l R M Q k n S tgt env st) : AW g l R M Q k n S pc env (.int x :: st) := fun p e s m args below meth c H locs ls C hR hS hl => lv_tableOut C.1 C.2.1 hd h1 ht (kk p e s m args below meth c H locs ls C hR hS hl)
theorem aw_lsw (tgt : Nat) {dflt : Int} {ps : Array (Int × Int)} {len : Nat} {x : Int32} {off : Int} (hd : decode M.2.1 pc = .ok (.lookupswitch dflt ps, len)) (hp : (ps.toList.zip (ps.toList.drop 1)).all (fun (a, next) => a.1 < next.1) = true) (ho : Op.lookupswitch.offset ps.toList dflt x.toInt = off) (ht : (pc : Int) + off = (tgt : Int)) (kk : AW g l R M Q k n S tgt env st) : AW g l R M Q k n S pc env (.int x :: st) := fun p e s m args below meth c H locs ls C hR hS hl => lv_lookup C.1 C.2.1 hd hp ho ht (kk p e s m args below meth c H locs ls C hR hS hl)
theorem ax_i32ne {x v : Int32} {i : Int} (h : ¬ x = v) (hv : v.toInt = i) : x.toInt ≠ i := fun e => h (Int32.toInt_inj.mp (e.trans hv.symm))
-- the content's shape: what a change at one place leaves
theorem axSI_L (S : AxS) (a j : Nat) (v : Int32) (b : Nat) : axL (axSI S a j v) b = axL S b := rfl
theorem ax2_ne {α : Type} {f : Nat → Nat → α} {a j b i : Nat} {v : α} (h : b ≠ a) : ax2 f a j v b i = f b i := by simp [ax2, h]
theorem ax2_at {α : Type} {f : Nat → Nat → α} {a j i : Nat} {v : α} : ax2 f a j v a i = if i = j then v else f a i := by simp [ax2]
theorem axAt.kept {S S' : AxS} {a : Nat} {sh : Nat × Nat} {H H1 : Heap} (h : axAt g S a sh H) (hq : H1[a]? = H[a]?) (hI : ∀ j, axI S' a j = axI S a j) (hP : ∀ j, axP S' a j = axP S a j) (hJ : ∀ j, axJ S' a j = axJ S a j) : axAt g S' a sh H1 := by
  obtain ⟨t, num⟩ := sh
  have hf : ∀ ci j, axFv S' ci a j = axFv S ci a j := fun ci j => by unfold axFv; rw [hI, hP]
  match t with
  | 0 =>
    obtain ⟨r, h1, h2⟩ := h
    exact ⟨r, h1, (h2.kept hq).to (fun j _ => (hf _ j).symm)⟩
  | 1 =>
    show H1[a]? = _
    rw [hq, show (fun j => Value.int (axI S' a j)) = (fun j => Value.int (axI S a j)) from funext fun j => by rw [hI]]
    exact h
  | 2 =>
    show H1[a]? = _
    rw [hq, show (fun j => Value.long (axJ S' a j)) = (fun j => Value.long (axJ S a j)) from funext fun j => by rw [hJ]]
    exact h
  | t + 3 =>
    show if 3 ≤ t then _ else H1[a]? = _
    rw [hq, show (fun j => va_rf (axP S' a j)) = (fun j => va_rf (axP S a j)) from funext fun j => by rw [hP]]
    exact h
/-- one place of one cell is written: the world behind it -/
theorem axRel.put {S S' : AxS} {a : Nat} {sh : Nat × Nat} {H H1 : Heap} (h : axRel g S H) (ha : axL S a = some sh) (ht : sh.1 < 6) (hz : H1.size = H.size) (hq : ∀ q : Nat, q ≠ a → H1[q]? = H[q]?) (hat : axAt g S' a sh H1) (hn : S'.1 = S.1) (hL : ∀ b, axL S' b = axL S b)
    (hI : ∀ b, b ≠ a → ∀ j, axI S' b j = axI S b j) (hP : ∀ b, b ≠ a → ∀ j, axP S' b j = axP S b j) (hJ : ∀ b, b ≠ a → ∀ j, axJ S' b j = axJ S b j) : axRel g S' H1 := by
  obtain ⟨h1, h2, h3, h4, h5, h6⟩ := h
  refine ⟨fun b sb hb => ?_, fun q hqb => ?_, by rw [hz]; exact h3, h4, fun m hm => ?_, by rw [hn]; exact h6⟩
  · rw [hL] at hb
    obtain ⟨g1, g2⟩ := h1 b sb hb
    refine ⟨g1, ?_⟩
    by_cases e : b = a
    · subst e
      cases hb.symm.trans ha
      exact hat
    · exact axAt.kept g2 (hq b e) (hI b e) (hP b e) (hJ b e)
  · rw [hq q (fun e => ?_)]
    · exact h2 q hqb
    · have := (h1 a sh ha).1 ht
      omega
  · rw [hz]
    exact h5 m (by rw [← hn]; exact hm)
/-- a class's fields in the tables -/
def AxCls (ci : Nat) (C : String) (T : u_T) (N : Nat) : Prop := vwCl[ci]? = some (C, T, N) ∧ (∀ w ∈ u_ws C T N, w ∈ ax_tbl) ∧ (∀ j, j < N → parseFieldDescriptor (T j).2.2.1 = some (axFT ci j)) ∧ ∀ a, a < N → ∀ b, b < N → a ≠ b → (T a).2.1 ≠ (T b).2.1
def ax_gi {α : Type} (S : AxS) (a ci kf : Nat) (K : Int32 → Option α) : Option α := if axL S a = some (0, ci) then K (axI S a kf) else none
def ax_gr {α : Type} (S : AxS) (a ci kf : Nat) (K : Nat → Option α) : Option α := if axL S a = some (0, ci) then (match axP S a kf with | some b => K b | none => none) else none
def ax_pi {α : Type} (S : AxS) (a ci kf : Nat) (v : Int32) (K : AxS → Option α) : Option α := if axL S a = some (0, ci) then K (axSI S a kf v) else none
def ax_pr {α : Type} (S : AxS) (a ci kf : Nat) (b : Nat) (K : AxS → Option α) : Option α := if axL S a = some (0, ci) then K (axSP S a kf (some b)) else none
theorem aw_getV {ci : Nat} {C0 : String} {T : u_T} {N idx a : Nat} {v : Value} (hc : AxCls ci C0 T N) (kf : Nat) (hk : Nat.blt kf N = true) (hw : Cond.fieldLink M.1 idx (T kf).1 (T kf).2.1 (T kf).2.2.1 ∈ ax_tbl) (hd : decode M.2.1 pc = .ok (.getfield idx, 3)) (hL : axL S a = some (0, ci)) (hv : axFv S ci a kf = v) (kk : AW g l R M Q k n S (pc + 3) env (v :: st)) : AW g l R M Q k n S pc env (.ref a :: st) := by
  have hk : kf < N := Nat.le_of_ble_eq_true hk
  intro p e s m args below meth c H locs ls C hR hS hl
  obtain ⟨r, g1, g2⟩ := (hR.1 a _ hL).2
  have hr : r = (C0, T, N) := Option.some.inj (g1.symm.trans hc.1)
  subst hr
  obtain ⟨cell, q1, q2, q3, q4⟩ := g2
  obtain ⟨hS1, hfc, kC, hkC, hkind⟩ := C.2.2.2.2.2.2.1.1.1 ci _ hc.1
  obtain ⟨cf, kf1, fi, f, hi, hsl⟩ := hS1 kf hk
  refine W.getf C.1 C.2.1 C.2.2.2.2.1 (C.2.2.2.2.2.1 _ hw) hi (u_facts hfc hkC (u_lays C.2.2.2.2.2.1 hc.2.1 hk) hi).1 q1 (by rw [q3]; exact fun h => by cases h) (v := v) ?_ rfl rfl hd (kk p e s m args below meth c H locs ls C hR hS hl)
  rw [hsl, q4 kf hk, hv]
theorem aw_getI {α : Type} {res : α} {K : Int32 → Option α} {ci : Nat} {C0 : String} {T : u_T} {N idx a : Nat} (hc : AxCls ci C0 T N) (kf : Nat) (hk : Nat.blt kf N = true) (hr : axFr ci kf = false) (hw : Cond.fieldLink M.1 idx (T kf).1 (T kf).2.1 (T kf).2.2.1 ∈ ax_tbl) (hd : decode M.2.1 pc = .ok (.getfield idx, 3)) (h : ax_gi S a ci kf K = some res) (kk : ∀ x, K x = some res → AW g l R M Q k n S (pc + 3) env (.int x :: st)) : AW g l R M Q k n S pc env (.ref a :: st) := by
  unfold ax_gi at h
  by_cases hL : axL S a = some (0, ci)
  · rw [if_pos hL] at h
    exact aw_getV hc kf hk hw hd hL (by unfold axFv; rw [hr]; rfl) (kk _ h)
  · rw [if_neg hL] at h; cases h
theorem aw_getR {α : Type} {res : α} {K : Nat → Option α} {ci : Nat} {C0 : String} {T : u_T} {N idx a : Nat} (hc : AxCls ci C0 T N) (kf : Nat) (hk : Nat.blt kf N = true) (hr : axFr ci kf = true) (hw : Cond.fieldLink M.1 idx (T kf).1 (T kf).2.1 (T kf).2.2.1 ∈ ax_tbl) (hd : decode M.2.1 pc = .ok (.getfield idx, 3)) (h : ax_gr S a ci kf K = some res) (kk : ∀ x, K x = some res → AW g l R M Q k n S (pc + 3) env (.ref x :: st)) : AW g l R M Q k n S pc env (.ref a :: st) := by
  unfold ax_gr at h
  by_cases hL : axL S a = some (0, ci)
  · rw [if_pos hL] at h
    cases hp : axP S a kf with
    | none => rw [hp] at h; cases h
    | some b =>
      rw [hp] at h
      exact aw_getV hc kf hk hw hd hL (v := .ref b) (by unfold axFv; rw [hr, hp]; rfl) (kk b h)
  · rw [if_neg hL] at h; cases h
theorem aw_putV {ci : Nat} {C0 : String} {T : u_T} {N idx a : Nat} {v : Value} {S' : AxS} (hc : AxCls ci C0 T N) (kf : Nat) (hk : Nat.blt kf N = true) (hw : Cond.fieldLink M.1 idx (T kf).1 (T kf).2.1 (T kf).2.2.1 ∈ ax_tbl) (hfin : (T kf).2.2.2 = false ∨ ((T kf).2.2.2 = true ∧ M.2.2.2.2.1 = true ∧ (T kf).1 = M.1)) (hn : narrow (axFT ci kf) v = v) (hft : fits (axFT ci kf) v = true) (hd : decode M.2.1 pc = .ok (.putfield idx, 3)) (hL : axL S a = some (0, ci))
    (e0 : S'.1 = S.1) (eL : ∀ b, axL S' b = axL S b) (eI : ∀ b, b ≠ a → ∀ j, axI S' b j = axI S b j) (eP : ∀ b, b ≠ a → ∀ j, axP S' b j = axP S b j) (eJ : ∀ b, b ≠ a → ∀ j, axJ S' b j = axJ S b j) (ev : ∀ j, axFv S' ci a j = updV (axFv S ci a) kf v j) (kk : AW g l R M Q k n S' (pc + 3) env st) : AW g l R M Q k n S pc env (v :: .ref a :: st) := by
  have hk : kf < N := Nat.le_of_ble_eq_true hk
  intro p e s m args below meth c H locs ls C hR hS hl
  have hts := C.2.2.2.2.2.1
  have hb0 := (hR.1 a _ hL).1 (Nat.le_of_ble_eq_true rfl)
  have hap := va_apart (own := M.1) hts hc.2.1 (axFT ci) hc.2.2.1 hc.2.2.2 C.2.2.2.2.2.2.1.1 hc.1
  obtain ⟨r, g1, g2⟩ := (hR.1 a _ hL).2
  have hr : r = (C0, T, N) := Option.some.inj (g1.symm.trans hc.1)
  subst hr
  obtain ⟨cell, q1, q2, q3, q4⟩ := g2
  obtain ⟨hS1, hfc, kC, hkC, hkind⟩ := C.2.2.2.2.2.2.1.1.1 ci _ hc.1
  obtain ⟨cf, kf1, fi, f, hi, hsl⟩ := hS1 kf hk
  have hst := (u_facts hfc hkC (u_lays hts hc.2.1 hk) hi).1
  have hlay := hts _ (hc.2.1 _ (u_in_lay hk))
  have done : ∀ H' : Heap, H'[a]? = some (cell.setSlot f.slot v) → H'.size = H.size → (∀ q, q ≠ a → H'[q]? = H[q]?) → W p l e R s m args below meth c H' (locs ++ [⟨a, f.slot⟩]) k n (Q below args s) (F0 m (pc + 3) ls st) := by
    intro H' e1 e2 e3
    rw [hsl] at e1 ⊢
    refine kk p e s m args below meth c H' _ ls C (hR.put hL (Nat.le_of_ble_eq_true rfl) e2 e3 ⟨_, hc.1, t_OB.to (V := updV (axFv S ci a) kf v) ⟨_, e1, q2, q3, t_set q4 hap hk v⟩ (fun j _ => (ev j).symm)⟩ e0 eL eI eP eJ) (hS.put e2 e3 hb0) hl
  unfold u_lay at hlay
  rcases hfin with hfin | ⟨hfin, hini, hdecl⟩
  · rw [if_neg (by rw [hfin]; decide)] at hlay
    have h6 := u_store hfc hkC hkind hlay hi (hc.2.2.1 kf hk) hn hft
    exact W.putK C.1 C.2.1 (f := f) ⟨C.2.2.2.2.1, hts _ hw, ⟨_, _, _, hi⟩, hst⟩ (by rw [q2]; exact h6) q1 q3 (by rw [hsl]; exact k2_hasslot (q4 kf hk)) rfl rfl hd done
  · rw [if_pos hfin] at hlay
    have hcf : m.cls = cf := by
      obtain ⟨_, _, c', _, _, _, -, -, hf', -, -, -, hown2, -⟩ := Cond.laysFinal_spec hlay
      have e1 : c' = cf := by have := hi.symm.trans hf'; simp at this; exact this.1.symm
      rw [hdecl] at hown2
      rw [← e1]; exact Option.some.inj (C.2.2.2.2.1.symm.trans hown2)
    have h6 := u_fits hfc hkC hkind (Or.inr hlay) hi (hc.2.2.1 kf hk) hn hft
    exact W.putFinK C.1 C.2.1 C.2.2.2.2.1 (hts _ hw) hi hst hcf (C.2.2.2.2.2.2.2.2.2.1 hini) (by rw [q2]; exact h6) q1 q3 (by rw [hsl]; exact k2_hasslot (q4 kf hk)) rfl rfl hd done
theorem axFv_SI {S : AxS} {ci a kf : Nat} {v : Int32} (hr : axFr ci kf = false) (j : Nat) : axFv (axSI S a kf v) ci a j = updV (axFv S ci a) kf (.int v) j := by
  unfold axFv updV
  by_cases e : j = kf
  · subst e
    rw [hr, if_pos rfl]
    show Value.int (ax2 _ a j v a j) = _
    rw [ax2_at, if_pos rfl]
  · rw [if_neg e]
    show (if axFr ci j = true then va_rf (axP S a j) else .int (ax2 _ a kf v a j)) = _
    rw [ax2_at, if_neg e]
    rfl
theorem axFv_SP {S : AxS} {ci a kf b : Nat} (hr : axFr ci kf = true) (j : Nat) : axFv (axSP S a kf (some b)) ci a j = updV (axFv S ci a) kf (.ref b) j := by
  unfold axFv updV
  by_cases e : j = kf
  · subst e
    rw [hr, if_pos rfl, if_pos rfl]
    show va_rf (ax2 _ a j (some b) a j) = _
    rw [ax2_at, if_pos rfl]
    rfl
  · rw [if_neg e]
    show (if axFr ci j = true then va_rf (ax2 _ a kf (some b) a j) else .int (axI S a j)) = _
    rw [ax2_at, if_neg e]
    rfl
theorem aw_putI {α : Type} {res : α} {K : AxS → Option α} {ci : Nat} {C0 : String} {T : u_T} {N idx a : Nat} {v : Int32} (hc : AxCls ci C0 T N) (kf : Nat) (hk : Nat.blt kf N = true) (hr : axFr ci kf = false) (hw : Cond.fieldLink M.1 idx (T kf).1 (T kf).2.1 (T kf).2.2.1 ∈ ax_tbl) (hfin : (T kf).2.2.2 = false) (hn : narrow (axFT ci kf) (.int v) = .int v) (hft : fits (axFT ci kf) (.int v) = true) (hd : decode M.2.1 pc = .ok (.putfield idx, 3)) (h : ax_pi S a ci kf v K = some res) (kk : ∀ S', K S' = some res → AW g l R M Q k n S' (pc + 3) env st) : AW g l R M Q k n S pc env (.int v :: .ref a :: st) := by
  unfold ax_pi at h
  by_cases hL : axL S a = some (0, ci)
  · rw [if_pos hL] at h
    exact aw_putV (S' := axSI S a kf v) hc kf hk hw (Or.inl hfin) hn hft hd hL rfl (fun _ => rfl) (fun b hb j => ax2_ne hb) (fun _ _ _ => rfl) (fun _ _ _ => rfl) (axFv_SI hr) (kk _ h)
  · rw [if_neg hL] at h; cases h
theorem aw_putR {α : Type} {res : α} {K : AxS → Option α} {ci : Nat} {C0 : String} {T : u_T} {N idx a v : Nat} (hc : AxCls ci C0 T N) (kf : Nat) (hk : Nat.blt kf N = true) (hr : axFr ci kf = true) (hw : Cond.fieldLink M.1 idx (T kf).1 (T kf).2.1 (T kf).2.2.1 ∈ ax_tbl) (hfin : (T kf).2.2.2 = false ∨ ((T kf).2.2.2 = true ∧ M.2.2.2.2.1 = true ∧ (T kf).1 = M.1)) (hn : narrow (axFT ci kf) (.ref v) = .ref v) (hft : fits (axFT ci kf) (.ref v) = true) (hd : decode M.2.1 pc = .ok (.putfield idx, 3)) (h : ax_pr S a ci kf v K = some res) (kk : ∀ S', K S' = some res → AW g l R M Q k n S' (pc + 3) env st) : AW g l R M Q k n S pc env (.ref v :: .ref a :: st) := by
  unfold ax_pr at h
  by_cases hL : axL S a = some (0, ci)
  · rw [if_pos hL] at h
    exact aw_putV (S' := axSP S a kf (some v)) hc kf hk hw hfin hn hft hd hL rfl (fun _ => rfl) (fun _ _ _ => rfl) (fun b hb j => ax2_ne hb) (fun _ _ _ => rfl) (axFv_SP hr) (kk _ h)
  · rw [if_neg hL] at h; cases h
-- arrays
def ax_ld {α : Type} (S : AxS) (a : Nat) (i : Int32) (K : Int32 → Option α) : Option α := match axL S a with
  | some (1, len) => if i < 0 ∨ len ≤ i.toNatClampNeg then none else K (axI S a i.toNatClampNeg)
  | _ => none
def ax_ldl {α : Type} (S : AxS) (a : Nat) (i : Int32) (K : Int64 → Option α) : Option α := match axL S a with
  | some (2, len) => if i < 0 ∨ len ≤ i.toNatClampNeg then none else K (axJ S a i.toNatClampNeg)
  | _ => none
def ax_ldr {α : Type} (S : AxS) (a : Nat) (i : Int32) (K : Nat → Option α) : Option α := match axL S a with
  | some (t + 3, len) => if i < 0 ∨ len ≤ i.toNatClampNeg ∨ 5 < t + 3 then none else (match axP S a i.toNatClampNeg with | some b => K b | none => none)
  | _ => none
def ax_st {α : Type} (S : AxS) (a : Nat) (i : Int32) (v : Int32) (K : AxS → Option α) : Option α := match axL S a with
  | some (1, len) => if i < 0 ∨ len ≤ i.toNatClampNeg then none else K (axSI S a i.toNatClampNeg v)
  | _ => none
def ax_stl {α : Type} (S : AxS) (a : Nat) (i : Int32) (v : Int64) (K : AxS → Option α) : Option α := match axL S a with
  | some (2, len) => if i < 0 ∨ len ≤ i.toNatClampNeg then none else K (axSJ S a i.toNatClampNeg v)
  | _ => none
def ax_len {α : Type} (S : AxS) (a : Nat) (K : Int32 → Option α) : Option α := match axL S a with
  | some (0, _) => none
  | some (t + 1, len) => if 5 < t + 1 then none else K (Int32.ofNat len)
  | none => none
theorem aw_iald {α : Type} {res : α} {K : Int32 → Option α} {a : Nat} {i : Int32} (hd : decode M.2.1 pc = .ok (.iaload, 1)) (h : ax_ld S a i K = some res) (kk : ∀ x, K x = some res → AW g l R M Q k n S (pc + 1) env (.int x :: st)) : AW g l R M Q k n S pc env (.int i :: .ref a :: st) := by
  unfold ax_ld at h
  split at h
  · rename_i len hL
    split at h
    · cases h
    · rename_i hin
      intro p e s m args below meth c H locs ls C hR hS hl
      have hat : H[a]? = some (arrV (g.2.1 1) len (fun j => .int (axI S a j))) := (hR.1 a _ hL).2
      have hlt : i.toNatClampNeg < len := Nat.not_le.mp fun q => hin (Or.inr q)
      exact W.iald (v := .int (axI S a i.toNatClampNeg)) C.1 C.2.1 hat ((C.2.2.2.2.2.2.1.1.2 0 _ rfl).1 len _) (fun q => by cases q) (by rw [arrV_size]; exact hin) (by rw [arrV_read _ _ hlt]) rfl rfl hd (kk _ h p e s m args below meth c H locs ls C hR hS hl)
  · cases h
theorem aw_lald {α : Type} {res : α} {K : Int64 → Option α} {a : Nat} {i : Int32} (hd : decode M.2.1 pc = .ok (.laload, 1)) (h : ax_ldl S a i K = some res) (kk : ∀ x, K x = some res → AW g l R M Q k n S (pc + 1) env (.long x :: st)) : AW g l R M Q k n S pc env (.int i :: .ref a :: st) := by
  unfold ax_ldl at h
  split at h
  · rename_i len hL
    split at h
    · cases h
    · rename_i hin
      intro p e s m args below meth c H locs ls C hR hS hl
      have hat : H[a]? = some (arrV (g.2.1 2) len (fun j => .long (axJ S a j))) := (hR.1 a _ hL).2
      have hlt : i.toNatClampNeg < len := Nat.not_le.mp fun q => hin (Or.inr q)
      exact W.lald (v := .long (axJ S a i.toNatClampNeg)) C.1 C.2.1 hat ((C.2.2.2.2.2.2.1.1.2 1 _ rfl).1 len _) (fun q => by cases q) (by rw [arrV_size]; exact hin) (by rw [arrV_read _ _ hlt]) rfl rfl hd (kk _ h p e s m args below meth c H locs ls C hR hS hl)
  · cases h
theorem ax_arr {s : State} {t : Nat} (hK : va_K g.1 vwCl (ax_tys g) s) (ht : ¬ 5 < t + 3) : ∃ ty, ty.isReference = true ∧ ArrOfT s (g.2.1 (t + 3)) ty := by
  match t with
  | 0 => exact ⟨_, rfl, (hK.2 2 _ rfl).1⟩
  | 1 => exact ⟨_, rfl, (hK.2 3 _ rfl).1⟩
  | 2 => exact ⟨_, rfl, (hK.2 4 _ rfl).1⟩
  | t + 3 => omega
theorem aw_aald {α : Type} {res : α} {K : Nat → Option α} {a : Nat} {i : Int32} (hd : decode M.2.1 pc = .ok (.aaload, 1)) (h : ax_ldr S a i K = some res) (kk : ∀ x, K x = some res → AW g l R M Q k n S (pc + 1) env (.ref x :: st)) : AW g l R M Q k n S pc env (.int i :: .ref a :: st) := by
  unfold ax_ldr at h
  split at h
  · rename_i t len hL
    split at h
    · cases h
    · rename_i hin
      cases hp : axP S a i.toNatClampNeg with
      | none => rw [hp] at h; cases h
      | some b =>
        rw [hp] at h
        intro p e s m args below meth c H locs ls C hR hS hl
        have hat : H[a]? = some (arrV (g.2.1 (t + 3)) len (fun j => va_rf (axP S a j))) := by
          have h9 : (if 3 ≤ t then _ else _) := (hR.1 a _ hL).2
          rw [if_neg (fun q => hin (Or.inr (Or.inr (by omega))))] at h9
          exact h9
        have hlt : i.toNatClampNeg < len := Nat.not_le.mp fun q => hin (Or.inr (Or.inl q))
        obtain ⟨ty, hty, hA⟩ := ax_arr C.2.2.2.2.2.2.1.1 (fun q => hin (Or.inr (Or.inr q)))
        exact W.aald (v := .ref b) C.1 C.2.1 hat (hA len _) hty (fun q => by cases q) (by rw [arrV_size]; exact fun q => hin (q.elim Or.inl (fun q => Or.inr (Or.inl q)))) (by rw [arrV_read _ _ hlt, hp]; rfl) rfl rfl hd (kk _ h p e s m args below meth c H locs ls C hR hS hl)
  · cases h
theorem aw_iast {α : Type} {res : α} {K : AxS → Option α} {a : Nat} {i v : Int32} (hd : decode M.2.1 pc = .ok (.iastore, 1)) (h : ax_st S a i v K = some res) (kk : ∀ S', K S' = some res → AW g l R M Q k n S' (pc + 1) env st) : AW g l R M Q k n S pc env (.int v :: .int i :: .ref a :: st) := by
  unfold ax_st at h
  split at h
  · rename_i len hL
    split at h
    · cases h
    · rename_i hin
      intro p e s m args below meth c H locs ls C hR hS hl
      have hat : H[a]? = some (arrV (g.2.1 1) len (fun j => .int (axI S a j))) := (hR.1 a _ hL).2
      refine W.iast C.1 C.2.1 hat ((C.2.2.2.2.2.2.1.1.2 0 _ rfl).1 len _) (fun q => by cases q) (by rw [arrV_size]; exact hin) rfl rfl hd fun H1 e1 z oq => ?_
      refine kk _ h p e s m args below meth c H1 _ ls C (hR.put hL (Nat.le_of_ble_eq_true rfl) z oq ?_ rfl (fun _ => rfl) (fun b hb j => ax2_ne hb) (fun _ _ _ => rfl) (fun _ _ _ => rfl)) (hS.put z oq ((hR.1 a _ hL).1 (Nat.le_of_ble_eq_true rfl))) hl
      show H1[a]? = some (arrV _ _ _)
      rw [e1, arrV_store]
      congr 2
      funext q
      show updV _ _ _ q = Value.int (ax2 _ a _ v a q)
      rw [ax2_at]
      unfold updV
      split <;> rfl
  · cases h
theorem aw_last {α : Type} {res : α} {K : AxS → Option α} {a : Nat} {i : Int32} {v : Int64} (hd : decode M.2.1 pc = .ok (.lastore, 1)) (h : ax_stl S a i v K = some res) (kk : ∀ S', K S' = some res → AW g l R M Q k n S' (pc + 1) env st) : AW g l R M Q k n S pc env (.long v :: .int i :: .ref a :: st) := by
  unfold ax_stl at h
  split at h
  · rename_i len hL
    split at h
    · cases h
    · rename_i hin
      intro p e s m args below meth c H locs ls C hR hS hl
      have hat : H[a]? = some (arrV (g.2.1 2) len (fun j => .long (axJ S a j))) := (hR.1 a _ hL).2
      refine W.last C.1 C.2.1 hat ((C.2.2.2.2.2.2.1.1.2 1 _ rfl).1 len _) (fun q => by cases q) (by rw [arrV_size]; exact hin) rfl rfl hd fun H1 e1 z oq => ?_
      refine kk _ h p e s m args below meth c H1 _ ls C (hR.put hL (Nat.le_of_ble_eq_true rfl) z oq ?_ rfl (fun _ => rfl) (fun _ _ _ => rfl) (fun _ _ _ => rfl) (fun b hb j => ax2_ne hb)) (hS.put z oq ((hR.1 a _ hL).1 (Nat.le_of_ble_eq_true rfl))) hl
      show H1[a]? = some (arrV _ _ _)
      rw [e1, arrV_store]
      congr 2
      funext q
      show updV _ _ _ q = Value.long (ax2 _ a _ v a q)
      rw [ax2_at]
      unfold updV
      split <;> rfl
  · cases h
theorem aw_alen {α : Type} {res : α} {K : Int32 → Option α} {a : Nat} (hd : decode M.2.1 pc = .ok (.arraylength, 1)) (h : ax_len S a K = some res) (kk : ∀ x, K x = some res → AW g l R M Q k n S (pc + 1) env (.int x :: st)) : AW g l R M Q k n S pc env (.ref a :: st) := by
  unfold ax_len at h
  split at h
  · cases h
  · rename_i t len hL
    split at h
    · cases h
    · rename_i ht
      intro p e s m args below meth c H locs ls C hR hS hl
      have hat := (hR.1 a _ hL).2
      have hK := C.2.2.2.2.2.2.1.1
      have kk := kk _ h p e s m args below meth c H locs ls C hR hS hl
      match t, hat, ht with
      | 0, hat, _ => exact W.alen (n := Int32.ofNat len) C.1 C.2.1 hat ((hK.2 0 _ rfl).1 len _) (by rw [arrV_size] <;> rfl) rfl rfl hd kk
      | 1, hat, _ => exact W.alen (n := Int32.ofNat len) C.1 C.2.1 hat ((hK.2 1 _ rfl).1 len _) (by rw [arrV_size] <;> rfl) rfl rfl hd kk
      | t + 2, hat, ht =>
        obtain ⟨ty, -, hA⟩ := ax_arr (t := t) hK ht
        have hat : (if 3 ≤ t then _ else _) := hat
        rw [if_neg (fun q => ht (by omega))] at hat
        exact W.alen (n := Int32.ofNat len) C.1 C.2.1 hat (hA len _) (by rw [arrV_size] <;> rfl) rfl rfl hd kk
  · cases h
end AXH
