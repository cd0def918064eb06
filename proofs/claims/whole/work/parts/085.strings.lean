/-! texts: String.length() and String.charAt(int) on the constants of the class files (Latin-1, there before us) -/
section AXS
variable {g : AxG} {l : Launch} {R : Room} {M : AxM} {Q : AxQ} {k n : Nat} {S : AxS} {pc : Nat} {env : List (Nat × Value)} {st : List Value}
theorem ax_txL {a i : Nat} {H : Heap} (hR : axRel g S H) (hL : axL S a = some (6, i)) : a = g.2.2.2.2.1 i ∧ i < 26 := (hR.1 a _ hL).2
theorem ax_hb {p : Program} {s : State} {m : MethodId} {args : Array Value} {meth : Method} {c : Code} (C : AxC g l M p s m args meth c) : ∀ a : Nat, a < g.2.2.2.1.size → ¬ axF g a → s.heap[a]? = g.2.2.2.1[a]? := fun a ha _ => C.2.2.2.2.2.2.2.2.2.2.2.1 a (by have := C.2.2.2.2.2.2.2.2.2.2.2.2; omega)
theorem aw_getsC {idx : Nat} (hw : Cond.fieldLink M.1 idx "java/lang/String" "COMPACT_STRINGS" "Z" ∈ ax_tbl) (hd : decode M.2.1 pc = .ok (.getstatic idx, 3)) (kk : AW g l R M Q k n S (pc + 3) env (.int 1 :: st)) : AW g l R M Q k n S pc env st := fun p e s m args below meth c H locs ls C hR hS hl => va_gets C.1 C.2.1 ((C.2.2.2.2.2.2.1.2.2.2.2.2.1).kept (ax_hb C)) hS C.2.2.2.2.1 (C.2.2.2.2.2.1 _ hw) (fun _ h => h) hd (kk p e s m args below meth c H locs ls C hR hS hl)
theorem aw_getsP {idx : Nat} (hw : Cond.fieldLink M.1 idx "jdk/internal/util/Preconditions" "SIOOBE_FORMATTER" "Ljava/util/function/BiFunction;" ∈ ax_tbl) (hd : decode M.2.1 pc = .ok (.getstatic idx, 3)) (kk : ∀ r : Option Nat, AW g l R M Q k n S (pc + 3) env (va_rf r :: st)) : AW g l R M Q k n S pc env st := by
  intro p e s m args below meth c H locs ls C hR hS hl
  rcases (C.2.2.2.2.2.2.1.2.2.2.2.2.2.1).kept (ax_hb C) with h | ⟨t, h⟩
  · exact va_gets C.1 C.2.1 h hS C.2.2.2.2.1 (C.2.2.2.2.2.1 _ hw) (fun _ h => h) hd (kk none p e s m args below meth c H locs ls C hR hS hl)
  · exact va_gets C.1 C.2.1 h hS C.2.2.2.2.1 (C.2.2.2.2.2.1 _ hw) (fun _ h => h) hd (kk (some t) p e s m args below meth c H locs ls C hR hS hl)
theorem aw_getTc {a i idx : Nat} (hw : Cond.fieldLink M.1 idx "java/lang/String" "coder" "B" ∈ ax_tbl) (hd : decode M.2.1 pc = .ok (.getfield idx, 3)) (hL : axL S a = some (6, i)) (kk : AW g l R M Q k n S (pc + 3) env (.int 0 :: st)) : AW g l R M Q k n S pc env (.ref a :: st) := by
  intro p e s m args below meth c H locs ls C hR hS hl
  obtain ⟨rfl, hi⟩ := ax_txL hR hL
  obtain ⟨-, h2, -, -⟩ := C.2.2.2.2.2.2.1.2.2.2.2.1 i hi
  exact vk_getf C.1 C.2.1 (h2.kept (ax_hb C)) hS C.2.2.2.2.1 (C.2.2.2.2.2.1 _ hw) (fun _ h => h) hd (kk p e s m args below meth c H locs ls C hR hS hl)
theorem aw_getTv {a i idx : Nat} (hw : Cond.fieldLink M.1 idx "java/lang/String" "value" "[B" ∈ ax_tbl) (hd : decode M.2.1 pc = .ok (.getfield idx, 3)) (hL : axL S a = some (6, i)) (kk : i < 26 → AW g l R M Q k n S (pc + 3) env (.ref (g.2.2.2.2.2.2.2.2 i) :: st)) : AW g l R M Q k n S pc env (.ref a :: st) := by
  intro p e s m args below meth c H locs ls C hR hS hl
  obtain ⟨rfl, hi⟩ := ax_txL hR hL
  obtain ⟨-, -, h3, -⟩ := C.2.2.2.2.2.2.1.2.2.2.2.1 i hi
  exact vk_getf C.1 C.2.1 (h3.kept (ax_hb C)) hS C.2.2.2.2.1 (C.2.2.2.2.2.1 _ hw) (fun _ h => h) hd (kk hi p e s m args below meth c H locs ls C hR hS hl)
theorem aw_lenT {i : Nat} (hi : i < 26) (hd : decode M.2.1 pc = .ok (.arraylength, 1)) (kk : AW g l R M Q k n S (pc + 1) env (.int (Int32.ofNat (ax_txt i).length) :: st)) : AW g l R M Q k n S pc env (.ref (g.2.2.2.2.2.2.2.2 i) :: st) := by
  intro p e s m args below meth c H locs ls C hR hS hl
  obtain ⟨-, -, -, h4⟩ := C.2.2.2.2.2.2.1.2.2.2.2.1 i hi
  exact va_tlen C.1 C.2.1 (h4.kept (ax_hb C)) hS rfl hd (kk p e s m args below meth c H locs ls C hR hS hl)
theorem aw_ldT {i : Nat} {j : Int32} (hi : i < 26) (hin : ¬ (j < 0 ∨ (ax_txt i).length ≤ j.toNatClampNeg)) (hd : decode M.2.1 pc = .ok (.baload, 1)) (kk : AW g l R M Q k n S (pc + 1) env (.int ((ax_txt i).getD j.toNatClampNeg 0) :: st)) : AW g l R M Q k n S pc env (.int j :: .ref (g.2.2.2.2.2.2.2.2 i) :: st) := by
  intro p e s m args below meth c H locs ls C hR hS hl
  obtain ⟨-, -, -, h4⟩ := C.2.2.2.2.2.2.1.2.2.2.2.1 i hi
  exact va_tb C.1 C.2.1 (h4.kept (ax_hb C)) hS hin rfl hd (kk p e s m args below meth c H locs ls C hR hS hl)
theorem aw_i2c {x : Int32} (hd : decode M.2.1 pc = .ok (.i2c, 1)) (kk : AW g l R M Q k n S (pc + 1) env (.int (x.toUInt32 % 65536).toInt32 :: st)) : AW g l R M Q k n S pc env (.int x :: st) := fun p e s m args below meth c H locs ls C hR hS hl => lv_i2c C.1 C.2.1 hd rfl (kk p e s m args below meth c H locs ls C hR hS hl)
theorem aw_nret {mc ms : Nat} {v : Int32} {ty : FieldType} (hd : decode M.2.1 pc = .ok (.ireturn, 1)) (hr : M.2.2.2.1 = some ty) (hnn : narrow ty (.int v) = .int v) (hk : k ≤ mc) (hn : n ≤ ms) : AW g l R M (axMQ g mc ms (.inl (some (.int v)), S)) k n S pc env [.int v] := by
  intro p e s m args below meth c H locs ls C hR hS hl
  refine W.widen hk hn ?_
  exact vx_ret (W.zret (v := v) C.1 C.2.1 (C.2.2.1.trans hr) hnn (fun t ht hW => ⟨_, _, rfl, rfl, by rw [ht]; exact hR, hS.F ht⟩) hS.2.2 hd C.2.2.2.2.2.2.2.1)
theorem aw_vret0 {mc ms : Nat} (hd : decode M.2.1 pc = .ok (.return_, 1)) (hr : M.2.2.2.1 = none) (hk : k ≤ mc) (hn : n ≤ ms) : AW g l R M (axMQ g mc ms (.inl none, S)) k n S pc env [] := aw_vret hd hr hk hn rfl
/-- a call on a text -/
theorem aw_runT {y : MethodName} {cc : ByteArray} {maxL d mc ms idx np a i : Nat} {ret : Option FieldType} {As rest : List Value} {o : AxO} (hM : AxMet g l y cc maxL ret d mc ms (.ref a :: As) S o) (hL : axL S a = some (6, i)) (hcode : Cond.code y cc maxL ret ∈ ax_tbl)
    (h1 : Cond.methodLink M.1 idx y ∈ ax_tbl) (h2 : Cond.instanceMethod y ∈ ax_tbl) (h3 : Cond.selects "java/lang/String" y y ∈ ax_tbl) (h4 : Cond.initialized "java/lang/String" ∈ ax_tbl) (hd2 : y.cls = "java/lang/String" ∧ y.cls ≠ "java/lang/invoke/MethodHandle" ∧ y.cls ≠ "java/lang/invoke/VarHandle" ∧ (parseMethodDescriptor y.desc).map (fun d => d.parameters.length) = some np) (hn : As.length = np)
    (hRm : d + 1 ≤ R.frames ∧ 8 + (maxL + 11) + 80 * d ≤ R.locals) (hf : k + mc ≤ R.cells ∧ n + ms ≤ R.slots) (hst : (rest.map fun v => v.category).sum ≤ 8) (hs : st = As.reverse ++ .ref a :: rest) (hd : decode M.2.1 pc = .ok (.invokevirtual idx, 3)) : AxCall g l R M k n S pc env st rest o mc ms := by
  intro p e s m args below meth c H locs ls C hR hS hl
  obtain ⟨ha, hi⟩ := ax_txL hR hL
  obtain ⟨hO, -, -, -⟩ := C.2.2.2.2.2.2.1.2.2.2.2.1 i hi
  obtain ⟨cell, q1, q2, q3, -⟩ := (hO.kept (ax_hb C)).kept hS.2.1
  rw [← ha] at q1
  exact vx_runV (C := "java/lang/String") ⟨C.1, C.2.1, C.2.2.2.1, C.2.2.2.2.1, C.2.2.2.2.2.1⟩ hM (cwV np C.2.2.2.2.2.1 (ax_goodwss hcode (by
    intro w hw
    simp only [List.mem_cons, List.not_mem_nil, or_false] at hw
    rcases hw with rfl | rfl | rfl | rfl
    · exact h1
    · exact h2
    · exact h3
    · exact h4)) rfl rfl rfl hd2 hRm) ⟨axPc_blind _ _, ⟨cell, q1, q2, q3⟩, fun U hU hW => ⟨rfl, by rw [hU]; exact hR, axK.warm hW C.2.2.2.2.2.2.1⟩⟩ rfl hn hl.1 hs (lv_room hst) hd hf
end AXS

theorem dJ0_coder_7d493_0 : decode cJ0_coder_7d493 0 = .ok (.getstatic 38, 3) := by decide +kernel
theorem dJ0_coder_7d493_3 : decode cJ0_coder_7d493 3 = .ok (.ifCond .eq 10, 3) := by decide +kernel
theorem dJ0_coder_7d493_6 : decode cJ0_coder_7d493 6 = .ok (.aload_n 0, 1) := by decide +kernel
theorem dJ0_coder_7d493_7 : decode cJ0_coder_7d493 7 = .ok (.getfield 15, 3) := by decide +kernel
theorem dJ0_coder_7d493_10 : decode cJ0_coder_7d493 10 = .ok (.goto 4, 3) := by decide +kernel
theorem dJ0_coder_7d493_13 : decode cJ0_coder_7d493 13 = .ok (.iconst 1, 1) := by decide +kernel
theorem dJ0_coder_7d493_14 : decode cJ0_coder_7d493 14 = .ok (.ireturn, 1) := by decide +kernel
abbrev mt_J0_coder_7d493 : AxM := (RJ0, cJ0_coder_7d493, 1, (some .byte), false, [])
theorem pd_J0_coder_7d493 : yJ0_coder_7d493.cls = RJ0 ∧ yJ0_coder_7d493.cls ≠ "java/lang/invoke/MethodHandle" ∧ yJ0_coder_7d493.cls ≠ "java/lang/invoke/VarHandle" ∧ (parseMethodDescriptor yJ0_coder_7d493.desc).map (fun d => d.parameters.length) = some 0 := ⟨rfl, by decide +kernel, by decide +kernel, by decide +kernel⟩
theorem dJ0_isLatin1_aae02_0 : decode cJ0_isLatin1_aae02 0 = .ok (.getstatic 38, 3) := by decide +kernel
theorem dJ0_isLatin1_aae02_3 : decode cJ0_isLatin1_aae02 3 = .ok (.ifCond .eq 14, 3) := by decide +kernel
theorem dJ0_isLatin1_aae02_6 : decode cJ0_isLatin1_aae02 6 = .ok (.aload_n 0, 1) := by decide +kernel
theorem dJ0_isLatin1_aae02_7 : decode cJ0_isLatin1_aae02 7 = .ok (.getfield 15, 3) := by decide +kernel
theorem dJ0_isLatin1_aae02_10 : decode cJ0_isLatin1_aae02 10 = .ok (.ifCond .ne 7, 3) := by decide +kernel
theorem dJ0_isLatin1_aae02_13 : decode cJ0_isLatin1_aae02 13 = .ok (.iconst 1, 1) := by decide +kernel
theorem dJ0_isLatin1_aae02_14 : decode cJ0_isLatin1_aae02 14 = .ok (.goto 4, 3) := by decide +kernel
theorem dJ0_isLatin1_aae02_17 : decode cJ0_isLatin1_aae02 17 = .ok (.iconst 0, 1) := by decide +kernel
theorem dJ0_isLatin1_aae02_18 : decode cJ0_isLatin1_aae02 18 = .ok (.ireturn, 1) := by decide +kernel
abbrev mt_J0_isLatin1_aae02 : AxM := (RJ0, cJ0_isLatin1_aae02, 1, (some .boolean), false, [])
theorem pd_J0_isLatin1_aae02 : yJ0_isLatin1_aae02.cls = RJ0 ∧ yJ0_isLatin1_aae02.cls ≠ "java/lang/invoke/MethodHandle" ∧ yJ0_isLatin1_aae02.cls ≠ "java/lang/invoke/VarHandle" ∧ (parseMethodDescriptor yJ0_isLatin1_aae02.desc).map (fun d => d.parameters.length) = some 0 := ⟨rfl, by decide +kernel, by decide +kernel, by decide +kernel⟩
theorem dJ0_length_8abf5_0 : decode cJ0_length_8abf5 0 = .ok (.aload_n 0, 1) := by decide +kernel
theorem dJ0_length_8abf5_1 : decode cJ0_length_8abf5 1 = .ok (.getfield 9, 3) := by decide +kernel
theorem dJ0_length_8abf5_4 : decode cJ0_length_8abf5 4 = .ok (.arraylength, 1) := by decide +kernel
theorem dJ0_length_8abf5_5 : decode cJ0_length_8abf5 5 = .ok (.aload_n 0, 1) := by decide +kernel
theorem dJ0_length_8abf5_6 : decode cJ0_length_8abf5 6 = .ok (.invokevirtual 335, 3) := by decide +kernel
theorem dJ0_length_8abf5_9 : decode cJ0_length_8abf5 9 = .ok (.ishr, 1) := by decide +kernel
theorem dJ0_length_8abf5_10 : decode cJ0_length_8abf5 10 = .ok (.ireturn, 1) := by decide +kernel
abbrev mt_J0_length_8abf5 : AxM := (RJ0, cJ0_length_8abf5, 1, (some .int), false, [])
theorem pd_J0_length_8abf5 : yJ0_length_8abf5.cls = RJ0 ∧ yJ0_length_8abf5.cls ≠ "java/lang/invoke/MethodHandle" ∧ yJ0_length_8abf5.cls ≠ "java/lang/invoke/VarHandle" ∧ (parseMethodDescriptor yJ0_length_8abf5.desc).map (fun d => d.parameters.length) = some 0 := ⟨rfl, by decide +kernel, by decide +kernel, by decide +kernel⟩
theorem dJ0_checkIndex_df160_0 : decode cJ0_checkIndex_df160 0 = .ok (.iload_n 0, 1) := by decide +kernel
theorem dJ0_checkIndex_df160_1 : decode cJ0_checkIndex_df160 1 = .ok (.iload_n 1, 1) := by decide +kernel
theorem dJ0_checkIndex_df160_2 : decode cJ0_checkIndex_df160 2 = .ok (.getstatic 1053, 3) := by decide +kernel
theorem dJ0_checkIndex_df160_5 : decode cJ0_checkIndex_df160 5 = .ok (.invokestatic 1059, 3) := by decide +kernel
theorem dJ0_checkIndex_df160_8 : decode cJ0_checkIndex_df160 8 = .ok (.pop, 1) := by decide +kernel
theorem dJ0_checkIndex_df160_9 : decode cJ0_checkIndex_df160 9 = .ok (.return_, 1) := by decide +kernel
abbrev mt_J0_checkIndex_df160 : AxM := (RJ0, cJ0_checkIndex_df160, 2, none, false, [])
theorem pd_J0_checkIndex_df160 : yJ0_checkIndex_df160.cls = RJ0 ∧ yJ0_checkIndex_df160.cls ≠ "java/lang/invoke/MethodHandle" ∧ yJ0_checkIndex_df160.cls ≠ "java/lang/invoke/VarHandle" ∧ (parseMethodDescriptor yJ0_checkIndex_df160.desc).map (fun d => d.parameters.length) = some 2 := ⟨rfl, by decide +kernel, by decide +kernel, by decide +kernel⟩
theorem dJ0_charAt_5068e_0 : decode cJ0_charAt_5068e 0 = .ok (.aload_n 0, 1) := by decide +kernel
theorem dJ0_charAt_5068e_1 : decode cJ0_charAt_5068e 1 = .ok (.invokevirtual 492, 3) := by decide +kernel
theorem dJ0_charAt_5068e_4 : decode cJ0_charAt_5068e 4 = .ok (.ifCond .eq 12, 3) := by decide +kernel
theorem dJ0_charAt_5068e_7 : decode cJ0_charAt_5068e 7 = .ok (.aload_n 0, 1) := by decide +kernel
theorem dJ0_charAt_5068e_8 : decode cJ0_charAt_5068e 8 = .ok (.getfield 9, 3) := by decide +kernel
theorem dJ0_charAt_5068e_11 : decode cJ0_charAt_5068e 11 = .ok (.iload_n 1, 1) := by decide +kernel
theorem dJ0_charAt_5068e_12 : decode cJ0_charAt_5068e 12 = .ok (.invokestatic 495, 3) := by decide +kernel
theorem dJ0_charAt_5068e_15 : decode cJ0_charAt_5068e 15 = .ok (.ireturn, 1) := by decide +kernel
theorem dJ0_charAt_5068e_16 : decode cJ0_charAt_5068e 16 = .ok (.aload_n 0, 1) := by decide +kernel
theorem dJ0_charAt_5068e_17 : decode cJ0_charAt_5068e 17 = .ok (.getfield 9, 3) := by decide +kernel
theorem dJ0_charAt_5068e_20 : decode cJ0_charAt_5068e 20 = .ok (.iload_n 1, 1) := by decide +kernel
theorem dJ0_charAt_5068e_21 : decode cJ0_charAt_5068e 21 = .ok (.invokestatic 498, 3) := by decide +kernel
theorem dJ0_charAt_5068e_24 : decode cJ0_charAt_5068e 24 = .ok (.ireturn, 1) := by decide +kernel
abbrev mt_J0_charAt_5068e : AxM := (RJ0, cJ0_charAt_5068e, 2, (some .char), false, [])
theorem pd_J0_charAt_5068e : yJ0_charAt_5068e.cls = RJ0 ∧ yJ0_charAt_5068e.cls ≠ "java/lang/invoke/MethodHandle" ∧ yJ0_charAt_5068e.cls ≠ "java/lang/invoke/VarHandle" ∧ (parseMethodDescriptor yJ0_charAt_5068e.desc).map (fun d => d.parameters.length) = some 1 := ⟨rfl, by decide +kernel, by decide +kernel, by decide +kernel⟩
theorem dJ1_charAt_3b067_0 : decode cJ1_charAt_3b067 0 = .ok (.iload_n 1, 1) := by decide +kernel
theorem dJ1_charAt_3b067_1 : decode cJ1_charAt_3b067 1 = .ok (.aload_n 0, 1) := by decide +kernel
theorem dJ1_charAt_3b067_2 : decode cJ1_charAt_3b067 2 = .ok (.arraylength, 1) := by decide +kernel
theorem dJ1_charAt_3b067_3 : decode cJ1_charAt_3b067 3 = .ok (.invokestatic 9, 3) := by decide +kernel
theorem dJ1_charAt_3b067_6 : decode cJ1_charAt_3b067 6 = .ok (.aload_n 0, 1) := by decide +kernel
theorem dJ1_charAt_3b067_7 : decode cJ1_charAt_3b067 7 = .ok (.iload_n 1, 1) := by decide +kernel
theorem dJ1_charAt_3b067_8 : decode cJ1_charAt_3b067 8 = .ok (.baload, 1) := by decide +kernel
theorem dJ1_charAt_3b067_9 : decode cJ1_charAt_3b067 9 = .ok (.sipush 255, 3) := by decide +kernel
theorem dJ1_charAt_3b067_12 : decode cJ1_charAt_3b067 12 = .ok (.iand, 1) := by decide +kernel
theorem dJ1_charAt_3b067_13 : decode cJ1_charAt_3b067 13 = .ok (.i2c, 1) := by decide +kernel
theorem dJ1_charAt_3b067_14 : decode cJ1_charAt_3b067 14 = .ok (.ireturn, 1) := by decide +kernel
abbrev mt_J1_charAt_3b067 : AxM := (RJ1, cJ1_charAt_3b067, 2, (some .char), false, [])
theorem pd_J1_charAt_3b067 : yJ1_charAt_3b067.cls = RJ1 ∧ yJ1_charAt_3b067.cls ≠ "java/lang/invoke/MethodHandle" ∧ yJ1_charAt_3b067.cls ≠ "java/lang/invoke/VarHandle" ∧ (parseMethodDescriptor yJ1_charAt_3b067.desc).map (fun d => d.parameters.length) = some 2 := ⟨rfl, by decide +kernel, by decide +kernel, by decide +kernel⟩
theorem dJ3_checkIndex_8e157_0 : decode cJ3_checkIndex_8e157 0 = .ok (.iload_n 0, 1) := by decide +kernel
theorem dJ3_checkIndex_8e157_1 : decode cJ3_checkIndex_8e157 1 = .ok (.ifCond .lt 8, 3) := by decide +kernel
theorem dJ3_checkIndex_8e157_4 : decode cJ3_checkIndex_8e157 4 = .ok (.iload_n 0, 1) := by decide +kernel
theorem dJ3_checkIndex_8e157_5 : decode cJ3_checkIndex_8e157 5 = .ok (.iload_n 1, 1) := by decide +kernel
theorem dJ3_checkIndex_8e157_6 : decode cJ3_checkIndex_8e157 6 = .ok (.if_icmp .lt 10, 3) := by decide +kernel
theorem dJ3_checkIndex_8e157_9 : decode cJ3_checkIndex_8e157 9 = .ok (.aload_n 2, 1) := by decide +kernel
theorem dJ3_checkIndex_8e157_10 : decode cJ3_checkIndex_8e157 10 = .ok (.iload_n 0, 1) := by decide +kernel
theorem dJ3_checkIndex_8e157_11 : decode cJ3_checkIndex_8e157 11 = .ok (.iload_n 1, 1) := by decide +kernel
theorem dJ3_checkIndex_8e157_12 : decode cJ3_checkIndex_8e157 12 = .ok (.invokestatic 95, 3) := by decide +kernel
theorem dJ3_checkIndex_8e157_15 : decode cJ3_checkIndex_8e157 15 = .ok (.athrow, 1) := by decide +kernel
theorem dJ3_checkIndex_8e157_16 : decode cJ3_checkIndex_8e157 16 = .ok (.iload_n 0, 1) := by decide +kernel
theorem dJ3_checkIndex_8e157_17 : decode cJ3_checkIndex_8e157 17 = .ok (.ireturn, 1) := by decide +kernel
abbrev mt_J3_checkIndex_8e157 : AxM := (RJ3, cJ3_checkIndex_8e157, 3, (some .int), false, [])
theorem pd_J3_checkIndex_8e157 : yJ3_checkIndex_8e157.cls = RJ3 ∧ yJ3_checkIndex_8e157.cls ≠ "java/lang/invoke/MethodHandle" ∧ yJ3_checkIndex_8e157.cls ≠ "java/lang/invoke/VarHandle" ∧ (parseMethodDescriptor yJ3_checkIndex_8e157.desc).map (fun d => d.parameters.length) = some 3 := ⟨rfl, by decide +kernel, by decide +kernel, by decide +kernel⟩
theorem wf_38 : Cond.fieldLink RJ0 38 "java/lang/String" "COMPACT_STRINGS" "Z" ∈ ax_tbl := ax_t (ax_b3 (List.mem_of_getElem? (i := 144) rfl)) rfl
theorem wf_15 : Cond.fieldLink RJ0 15 "java/lang/String" "coder" "B" ∈ ax_tbl := ax_t (ax_b8 (List.mem_of_getElem? (i := 90) rfl)) rfl
theorem wf_9 : Cond.fieldLink RJ0 9 "java/lang/String" "value" "[B" ∈ ax_tbl := ax_t (ax_b8 (List.mem_of_getElem? (i := 89) rfl)) rfl
theorem wf_1053 : Cond.fieldLink RJ0 1053 "jdk/internal/util/Preconditions" "SIOOBE_FORMATTER" "Ljava/util/function/BiFunction;" ∈ ax_tbl := ax_t (ax_b3 (List.mem_of_getElem? (i := 160) rfl)) rfl
theorem L1_J0_coder_7d493 {g : AxG} {l : Launch} {a i : Nat} {S : AxS} (hL : axL S a = some (6, i)) : AxMet g l yJ0_coder_7d493 cJ0_coder_7d493 1 (some .byte) 0 0 0 [.ref a] S (.inl (some (.int 0)), S) := by
  refine ax_met (own := RJ0) (ini := false) (by decide +kernel) rfl (fun h => nomatch h) rfl ?_
  show AW g l (axRm 0 0 0) mt_J0_coder_7d493 (axMQ g 0 0 (.inl (some (.int 0)), S)) 0 0 S 0 [(0, .ref a)] []
  refine aw_getsC wf_38 dJ0_coder_7d493_0 ?_
  refine aw_if_eq (α := Unit) (A := none) (B := some ()) (res := ()) 13 dJ0_coder_7d493_3 (by decide) rfl (fun h => nomatch h) (fun _ => ?_)
  refine aw_aload_n 0 dJ0_coder_7d493_6 rfl rfl ?_
  refine aw_getTc wf_15 dJ0_coder_7d493_7 hL ?_
  refine aw_goto 14 dJ0_coder_7d493_10 (by decide) ?_
  exact aw_nret dJ0_coder_7d493_14 rfl rfl (Nat.le_refl _) (Nat.le_refl _)
theorem L1_J0_isLatin1_aae02 {g : AxG} {l : Launch} {a i : Nat} {S : AxS} (hL : axL S a = some (6, i)) : AxMet g l yJ0_isLatin1_aae02 cJ0_isLatin1_aae02 1 (some .boolean) 0 0 0 [.ref a] S (.inl (some (.int 1)), S) := by
  refine ax_met (own := RJ0) (ini := false) (by decide +kernel) rfl (fun h => nomatch h) rfl ?_
  show AW g l (axRm 0 0 0) mt_J0_isLatin1_aae02 (axMQ g 0 0 (.inl (some (.int 1)), S)) 0 0 S 0 [(0, .ref a)] []
  refine aw_getsC wf_38 dJ0_isLatin1_aae02_0 ?_
  refine aw_if_eq (α := Unit) (A := none) (B := some ()) (res := ()) 17 dJ0_isLatin1_aae02_3 (by decide) rfl (fun h => nomatch h) (fun _ => ?_)
  refine aw_aload_n 0 dJ0_isLatin1_aae02_6 rfl rfl ?_
  refine aw_getTc wf_15 dJ0_isLatin1_aae02_7 hL ?_
  refine aw_if_ne (α := Unit) (A := none) (B := some ()) (res := ()) 17 dJ0_isLatin1_aae02_10 (by decide) rfl (fun h => nomatch h) (fun _ => ?_)
  refine aw_iconst 1 dJ0_isLatin1_aae02_13 rfl ?_
  refine aw_goto 18 dJ0_isLatin1_aae02_14 (by decide) ?_
  exact aw_nret dJ0_isLatin1_aae02_18 rfl rfl (Nat.le_refl _) (Nat.le_refl _)
def F_J0_length_8abf5 (N : Nat) (a : Nat) (S : AxS) : Option (Int32 × AxS) := match axL S a with
  | some (6, i) => some (Int32.ofNat (ax_txt i).length >>> ((0 : Int32) &&& 31), S)
  | _ => none
theorem Fl_spec {N a : Nat} {S : AxS} {r : Int32 × AxS} (h : F_J0_length_8abf5 N a S = some r) : ∃ i, axL S a = some (6, i) ∧ r = (Int32.ofNat (ax_txt i).length >>> ((0 : Int32) &&& 31), S) := by
  unfold F_J0_length_8abf5 at h
  split at h
  · rename_i i hL
    exact ⟨i, hL, (Option.some.inj h).symm⟩
  · cases h
theorem L1_J0_length_8abf5 {g : AxG} {l : Launch} (N : Nat) {v0 : Nat} {S : AxS} {r9 : Int32} {S9 : AxS} (h : F_J0_length_8abf5 N v0 S = some (r9, S9)) : AxMet g l yJ0_length_8abf5 cJ0_length_8abf5 1 (some .int) 1 0 0 [.ref v0] S (.inl (some (.int r9)), S9) := by
  obtain ⟨i, hL, e⟩ := Fl_spec h
  cases e
  refine ax_met (own := RJ0) (ini := false) (by decide +kernel) rfl (fun h => nomatch h) rfl ?_
  show AW g l (axRm 1 0 0) mt_J0_length_8abf5 _ 0 0 S 0 [(0, .ref v0)] []
  refine aw_aload_n 0 dJ0_length_8abf5_0 rfl rfl ?_
  refine aw_getTv wf_9 dJ0_length_8abf5_1 hL (fun hi => ?_)
  refine aw_lenT hi dJ0_length_8abf5_4 ?_
  refine aw_aload_n 0 dJ0_length_8abf5_5 rfl rfl ?_
  refine aw_done (v := some (.int 0)) (S' := S) (rest := [.int (Int32.ofNat (ax_txt i).length)]) (aw_runT (As := []) (rest := [.int (Int32.ofNat (ax_txt i).length)]) (L1_J0_coder_7d493 hL) hL wd_709 wd_706 wd_707 wd_708 wd_102 pd_J0_coder_7d493 rfl (ax_rm (by omega) rfl) ax_hf0 (Nat.le_of_ble_eq_true rfl) rfl dJ0_length_8abf5_6) ?_
  refine aw_ishr dJ0_length_8abf5_9 ?_
  exact aw_iret dJ0_length_8abf5_10 rfl (Nat.le_refl _) (Nat.le_refl _) rfl
theorem L1_J3_checkIndex_8e157n {g : AxG} {l : Launch} {i n : Int32 } {S : AxS} (h1 : ¬ i < 0) (h2 : i < n) : AxMet g l yJ3_checkIndex_8e157 cJ3_checkIndex_8e157 3 (some .int) 0 0 0 [.int i, .int n, .null] S (.inl (some (.int i)), S) := by
  refine ax_met (own := RJ3) (ini := false) (by decide +kernel) rfl (fun h => nomatch h) rfl ?_
  show AW g l (axRm 0 0 0) mt_J3_checkIndex_8e157 _ 0 0 S 0 [(0, .int i), (1, .int n), (2, .null)] []
  refine aw_iload_n 0 dJ3_checkIndex_8e157_0 rfl rfl ?_
  refine aw_if_lt (α := Unit) (A := none) (B := some ()) (res := ()) 9 dJ3_checkIndex_8e157_1 (by decide) (if_neg h1) (fun h => nomatch h) (fun _ => ?_)
  refine aw_iload_n 0 dJ3_checkIndex_8e157_4 rfl rfl ?_
  refine aw_iload_n 1 dJ3_checkIndex_8e157_5 rfl rfl ?_
  refine aw_icmp_lt (α := Unit) (A := some ()) (B := none) (res := ()) 16 dJ3_checkIndex_8e157_6 (by decide) (if_pos h2) (fun _ => ?_) (fun h => nomatch h)
  refine aw_iload_n 0 dJ3_checkIndex_8e157_16 rfl rfl ?_
  exact aw_iret dJ3_checkIndex_8e157_17 rfl (Nat.le_refl _) (Nat.le_refl _) rfl
theorem L1_J3_checkIndex_8e157r {g : AxG} {l : Launch} {i n : Int32} {t : Nat} {S : AxS} (h1 : ¬ i < 0) (h2 : i < n) : AxMet g l yJ3_checkIndex_8e157 cJ3_checkIndex_8e157 3 (some .int) 0 0 0 [.int i, .int n, .ref t] S (.inl (some (.int i)), S) := by
  refine ax_met (own := RJ3) (ini := false) (by decide +kernel) rfl (fun h => nomatch h) rfl ?_
  show AW g l (axRm 0 0 0) mt_J3_checkIndex_8e157 _ 0 0 S 0 [(0, .int i), (1, .int n), (2, .ref t)] []
  refine aw_iload_n 0 dJ3_checkIndex_8e157_0 rfl rfl ?_
  refine aw_if_lt (α := Unit) (A := none) (B := some ()) (res := ()) 9 dJ3_checkIndex_8e157_1 (by decide) (if_neg h1) (fun h => nomatch h) (fun _ => ?_)
  refine aw_iload_n 0 dJ3_checkIndex_8e157_4 rfl rfl ?_
  refine aw_iload_n 1 dJ3_checkIndex_8e157_5 rfl rfl ?_
  refine aw_icmp_lt (α := Unit) (A := some ()) (B := none) (res := ()) 16 dJ3_checkIndex_8e157_6 (by decide) (if_pos h2) (fun _ => ?_) (fun h => nomatch h)
  refine aw_iload_n 0 dJ3_checkIndex_8e157_16 rfl rfl ?_
  exact aw_iret dJ3_checkIndex_8e157_17 rfl (Nat.le_refl _) (Nat.le_refl _) rfl
theorem L1_J3_checkIndex_8e157 {g : AxG} {l : Launch} {i n : Int32} (r : Option Nat) {S : AxS} (h1 : ¬ i < 0) (h2 : i < n) : AxMet g l yJ3_checkIndex_8e157 cJ3_checkIndex_8e157 3 (some .int) 0 0 0 [.int i, .int n, va_rf r] S (.inl (some (.int i)), S) := match r with
  | none => L1_J3_checkIndex_8e157n h1 h2
  | some _ => L1_J3_checkIndex_8e157r h1 h2
theorem va_rf1 (r : Option Nat) : (va_rf r).category = 1 := by cases r <;> rfl
theorem L1_J0_checkIndex_df160 {g : AxG} {l : Launch} {i n : Int32} {S : AxS} (h1 : ¬ i < 0) (h2 : i < n) : AxMet g l yJ0_checkIndex_df160 cJ0_checkIndex_df160 2 none 1 0 0 [.int i, .int n] S (.inl none, S) := by
  refine ax_met (own := RJ0) (ini := false) (by decide +kernel) rfl (fun h => nomatch h) rfl ?_
  show AW g l (axRm 1 0 0) mt_J0_checkIndex_df160 _ 0 0 S 0 [(0, .int i), (1, .int n)] []
  refine aw_iload_n 0 dJ0_checkIndex_df160_0 rfl rfl ?_
  refine aw_iload_n 1 dJ0_checkIndex_df160_1 rfl rfl ?_
  refine aw_getsP wf_1053 dJ0_checkIndex_df160_2 (fun r => ?_)
  refine aw_done (v := some (.int i)) (S' := S) (rest := []) (aw_runS (As := [.int i, .int n, va_rf r]) (rest := []) (L1_J3_checkIndex_8e157 r h1 h2) wd_730 wd_728 wd_729 wd_104 pd_J3_checkIndex_8e157.2 rfl (ax_rm (by omega) rfl) ax_hf0 (Nat.le_of_ble_eq_true rfl) rfl dJ0_checkIndex_df160_5) ?_
  refine aw_pop rfl dJ0_checkIndex_df160_8 ?_
  exact aw_vret0 dJ0_checkIndex_df160_9 rfl (Nat.le_refl _) (Nat.le_refl _)
theorem ax_chr : ∀ i, i < 26 → ∀ j, j < (ax_txt i).length → ((((ax_txt i).getD j 0) &&& 255).toUInt32 % 65536).toInt32 = (ax_txt i).getD j 0 := by decide +kernel
theorem ax_tln : ∀ i, i < 26 → (ax_txt i).length < 100 := by decide +kernel
theorem ax_chn : ∀ i, i < 26 → ∀ j, j < (ax_txt i).length → narrow .char (.int ((ax_txt i).getD j 0)) = .int ((ax_txt i).getD j 0) := by decide +kernel
theorem L1_J1_charAt_3b067 {g : AxG} {l : Launch} {i : Nat} {j : Int32} {S : AxS} (hi : i < 26) (hin : ¬ (j < 0 ∨ (ax_txt i).length ≤ j.toNatClampNeg)) : AxMet g l yJ1_charAt_3b067 cJ1_charAt_3b067 2 (some .char) 2 0 0 [.ref (g.2.2.2.2.2.2.2.2 i), .int j] S (.inl (some (.int ((ax_txt i).getD j.toNatClampNeg 0))), S) := by
  have hj : j.toNatClampNeg < (ax_txt i).length := Nat.not_le.mp fun q => hin (Or.inr q)
  have h0 : ¬ j < 0 := fun q => hin (Or.inl q)
  have hlt : j < Int32.ofNat (ax_txt i).length := by
    have h9 := ax_tln i hi
    rw [Int32.lt_iff_toInt_lt]
    have e1 : (Int32.ofNat (ax_txt i).length).toInt = ((ax_txt i).length : Int) := nI_toInt (by omega)
    rw [e1]
    have e2 : j.toInt = (j.toNatClampNeg : Int) := by
      have hz : (0 : Int) ≤ j.toInt := by
        have := Int32.not_lt.mp h0
        simpa using Int32.le_iff_toInt_le.mp this
      show j.toInt = ((j.toInt.toNat : Nat) : Int)
      omega
    omega
  refine ax_met (own := RJ1) (ini := false) (by decide +kernel) rfl (fun h => nomatch h) rfl ?_
  show AW g l (axRm 2 0 0) mt_J1_charAt_3b067 _ 0 0 S 0 [(0, .ref (g.2.2.2.2.2.2.2.2 i)), (1, .int j)] []
  refine aw_iload_n 1 dJ1_charAt_3b067_0 rfl rfl ?_
  refine aw_aload_n 0 dJ1_charAt_3b067_1 rfl rfl ?_
  refine aw_lenT hi dJ1_charAt_3b067_2 ?_
  refine aw_done (v := none) (S' := S) (rest := []) (aw_runS (As := [.int j, .int (Int32.ofNat (ax_txt i).length)]) (rest := []) (L1_J0_checkIndex_df160 h0 hlt) wd_725 wd_723 wd_724 wd_102 pd_J0_checkIndex_df160.2 rfl (ax_rm (by omega) rfl) ax_hf0 (Nat.le_of_ble_eq_true rfl) rfl dJ1_charAt_3b067_3) ?_
  refine aw_aload_n 0 dJ1_charAt_3b067_6 rfl rfl ?_
  refine aw_iload_n 1 dJ1_charAt_3b067_7 rfl rfl ?_
  refine aw_ldT hi hin dJ1_charAt_3b067_8 ?_
  refine aw_sipush 255 dJ1_charAt_3b067_9 (by decide) ?_
  refine aw_iand dJ1_charAt_3b067_12 ?_
  refine aw_i2c dJ1_charAt_3b067_13 ?_
  rw [ax_chr i hi _ hj]
  exact aw_nret dJ1_charAt_3b067_14 rfl (ax_chn i hi _ hj) (Nat.le_refl _) (Nat.le_refl _)
def F_J0_charAt_5068e (N : Nat) (a : Nat) (j : Int32) (S : AxS) : Option (Int32 × AxS) := match axL S a with
  | some (6, i) => if j < 0 ∨ (ax_txt i).length ≤ j.toNatClampNeg then none else some ((ax_txt i).getD j.toNatClampNeg 0, S)
  | _ => none
theorem Fc_spec {N a : Nat} {j : Int32} {S : AxS} {r : Int32 × AxS} (h : F_J0_charAt_5068e N a j S = some r) : ∃ i, axL S a = some (6, i) ∧ ¬ (j < 0 ∨ (ax_txt i).length ≤ j.toNatClampNeg) ∧ r = ((ax_txt i).getD j.toNatClampNeg 0, S) := by
  unfold F_J0_charAt_5068e at h
  split at h
  · rename_i i hL
    split at h
    · cases h
    · rename_i hin
      exact ⟨i, hL, hin, (Option.some.inj h).symm⟩
  · cases h
theorem L1_J0_charAt_5068e {g : AxG} {l : Launch} (N : Nat) {v0 : Nat} {v1 : Int32} {S : AxS} {r9 : Int32} {S9 : AxS} (h : F_J0_charAt_5068e N v0 v1 S = some (r9, S9)) : AxMet g l yJ0_charAt_5068e cJ0_charAt_5068e 2 (some .char) 3 0 0 [.ref v0, .int v1] S (.inl (some (.int r9)), S9) := by
  obtain ⟨i, hL, hin, e⟩ := Fc_spec h
  cases e
  refine ax_met (own := RJ0) (ini := false) (by decide +kernel) rfl (fun h => nomatch h) rfl ?_
  show AW g l (axRm 3 0 0) mt_J0_charAt_5068e _ 0 0 S 0 [(0, .ref v0), (1, .int v1)] []
  refine aw_aload_n 0 dJ0_charAt_5068e_0 rfl rfl ?_
  refine aw_done (v := some (.int 1)) (S' := S) (rest := []) (aw_runT (As := []) (rest := []) (L1_J0_isLatin1_aae02 hL) hL wd_719 wd_716 wd_717 wd_718 wd_102 pd_J0_isLatin1_aae02 rfl (ax_rm (by omega) rfl) ax_hf0 (Nat.le_of_ble_eq_true rfl) rfl dJ0_charAt_5068e_1) ?_
  refine aw_if_eq (α := Unit) (A := none) (B := some ()) (res := ()) 16 dJ0_charAt_5068e_4 (by decide) rfl (fun h => nomatch h) (fun _ => ?_)
  refine aw_aload_n 0 dJ0_charAt_5068e_7 rfl rfl ?_
  refine aw_getTv wf_9 dJ0_charAt_5068e_8 hL (fun hi => ?_)
  refine aw_iload_n 1 dJ0_charAt_5068e_11 rfl rfl ?_
  refine aw_done (v := some (.int ((ax_txt i).getD v1.toNatClampNeg 0))) (S' := S) (rest := []) (aw_runS (As := [.ref (g.2.2.2.2.2.2.2.2 i), .int v1]) (rest := []) (L1_J1_charAt_3b067 hi hin) wd_722 wd_720 wd_721 wd_103 pd_J1_charAt_3b067.2 rfl (ax_rm (by omega) rfl) ax_hf0 (Nat.le_of_ble_eq_true rfl) rfl dJ0_charAt_5068e_12) ?_
  exact aw_nret dJ0_charAt_5068e_15 rfl (ax_chn i hi _ (Nat.not_le.mp fun q => hin (Or.inr q))) (Nat.le_refl _) (Nat.le_refl _)
