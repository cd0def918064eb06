def nw_l : List Cond := flatC (Jvm.Cond.and given_1 narrow_1)
theorem nx_0 : Cond.exactly (Term.string "OwedBell" 370) "java/lang/String" ∈ nw_l := List.mem_of_getElem? (i := 35) rfl
theorem nc_0 : Cond.eq (.field (Term.string "OwedBell" 370) "java/lang/String" "coder" "B") (.int 0) ∈ nw_l := List.mem_of_getElem? (i := 36) rfl
theorem na_0 : Cond.arrayOf (Term.field (Term.string "OwedBell" 370) "java/lang/String" "value" "[B") .byte ∈ nw_l := List.mem_of_getElem? (i := 37) rfl
theorem nl_0 : Cond.eq (.length (Term.field (Term.string "OwedBell" 370) "java/lang/String" "value" "[B")) (.int (Int32.ofNat 29)) ∈ nw_l := List.mem_of_getElem? (i := 38) rfl
theorem ne_0 : ∀ j, j < 29 → Cond.eq (.elem (Term.field (Term.string "OwedBell" 370) "java/lang/String" "value" "[B") (.int (Int32.ofNat j))) (.int ((ax_txt 0).getD j 0)) ∈ nw_l
  | 0, _ => List.mem_of_getElem? (i := 39) rfl
  | 1, _ => List.mem_of_getElem? (i := 40) rfl
  | 2, _ => List.mem_of_getElem? (i := 41) rfl
  | 3, _ => List.mem_of_getElem? (i := 42) rfl
  | 4, _ => List.mem_of_getElem? (i := 43) rfl
  | 5, _ => List.mem_of_getElem? (i := 44) rfl
  | 6, _ => List.mem_of_getElem? (i := 45) rfl
  | 7, _ => List.mem_of_getElem? (i := 46) rfl
  | 8, _ => List.mem_of_getElem? (i := 47) rfl
  | 9, _ => List.mem_of_getElem? (i := 48) rfl
  | 10, _ => List.mem_of_getElem? (i := 49) rfl
  | 11, _ => List.mem_of_getElem? (i := 50) rfl
  | 12, _ => List.mem_of_getElem? (i := 51) rfl
  | 13, _ => List.mem_of_getElem? (i := 52) rfl
  | 14, _ => List.mem_of_getElem? (i := 53) rfl
  | 15, _ => List.mem_of_getElem? (i := 54) rfl
  | 16, _ => List.mem_of_getElem? (i := 55) rfl
  | 17, _ => List.mem_of_getElem? (i := 56) rfl
  | 18, _ => List.mem_of_getElem? (i := 57) rfl
  | 19, _ => List.mem_of_getElem? (i := 58) rfl
  | 20, _ => List.mem_of_getElem? (i := 59) rfl
  | 21, _ => List.mem_of_getElem? (i := 60) rfl
  | 22, _ => List.mem_of_getElem? (i := 61) rfl
  | 23, _ => List.mem_of_getElem? (i := 62) rfl
  | 24, _ => List.mem_of_getElem? (i := 63) rfl
  | 25, _ => List.mem_of_getElem? (i := 64) rfl
  | 26, _ => List.mem_of_getElem? (i := 65) rfl
  | 27, _ => List.mem_of_getElem? (i := 66) rfl
  | 28, _ => List.mem_of_getElem? (i := 67) rfl
  | k + 29, h => absurd h (by omega)
theorem ns_0 : Cond.stringRef "OwedBell" 370 "an argument that is none such" ∈ lw_tbl := ax_b3 (List.mem_of_getElem? (i := 79) rfl)
theorem nx_1 : Cond.exactly (Term.string "OwedBell$Facts" 90) "java/lang/String" ∈ nw_l := List.mem_of_getElem? (i := 68) rfl
theorem nc_1 : Cond.eq (.field (Term.string "OwedBell$Facts" 90) "java/lang/String" "coder" "B") (.int 0) ∈ nw_l := List.mem_of_getElem? (i := 69) rfl
theorem na_1 : Cond.arrayOf (Term.field (Term.string "OwedBell$Facts" 90) "java/lang/String" "value" "[B") .byte ∈ nw_l := List.mem_of_getElem? (i := 70) rfl
theorem nl_1 : Cond.eq (.length (Term.field (Term.string "OwedBell$Facts" 90) "java/lang/String" "value" "[B")) (.int (Int32.ofNat 3)) ∈ nw_l := List.mem_of_getElem? (i := 71) rfl
theorem ne_1 : ∀ j, j < 3 → Cond.eq (.elem (Term.field (Term.string "OwedBell$Facts" 90) "java/lang/String" "value" "[B") (.int (Int32.ofNat j))) (.int ((ax_txt 1).getD j 0)) ∈ nw_l
  | 0, _ => List.mem_of_getElem? (i := 72) rfl
  | 1, _ => List.mem_of_getElem? (i := 73) rfl
  | 2, _ => List.mem_of_getElem? (i := 74) rfl
  | k + 3, h => absurd h (by omega)
theorem ns_1 : Cond.stringRef "OwedBell$Facts" 90 "owe" ∈ lw_tbl := ax_b3 (List.mem_of_getElem? (i := 131) rfl)
theorem nx_2 : Cond.exactly (Term.string "OwedBell$Facts" 95) "java/lang/String" ∈ nw_l := List.mem_of_getElem? (i := 75) rfl
theorem nc_2 : Cond.eq (.field (Term.string "OwedBell$Facts" 95) "java/lang/String" "coder" "B") (.int 0) ∈ nw_l := List.mem_of_getElem? (i := 76) rfl
theorem na_2 : Cond.arrayOf (Term.field (Term.string "OwedBell$Facts" 95) "java/lang/String" "value" "[B") .byte ∈ nw_l := List.mem_of_getElem? (i := 77) rfl
theorem nl_2 : Cond.eq (.length (Term.field (Term.string "OwedBell$Facts" 95) "java/lang/String" "value" "[B")) (.int (Int32.ofNat 4)) ∈ nw_l := List.mem_of_getElem? (i := 78) rfl
theorem ne_2 : ∀ j, j < 4 → Cond.eq (.elem (Term.field (Term.string "OwedBell$Facts" 95) "java/lang/String" "value" "[B") (.int (Int32.ofNat j))) (.int ((ax_txt 2).getD j 0)) ∈ nw_l
  | 0, _ => List.mem_of_getElem? (i := 79) rfl
  | 1, _ => List.mem_of_getElem? (i := 80) rfl
  | 2, _ => List.mem_of_getElem? (i := 81) rfl
  | 3, _ => List.mem_of_getElem? (i := 82) rfl
  | k + 4, h => absurd h (by omega)
theorem ns_2 : Cond.stringRef "OwedBell$Facts" 95 "rate" ∈ lw_tbl := ax_b3 (List.mem_of_getElem? (i := 184) rfl)
theorem nx_3 : Cond.exactly (Term.string "OwedBell$Facts" 96) "java/lang/String" ∈ nw_l := List.mem_of_getElem? (i := 83) rfl
theorem nc_3 : Cond.eq (.field (Term.string "OwedBell$Facts" 96) "java/lang/String" "coder" "B") (.int 0) ∈ nw_l := List.mem_of_getElem? (i := 84) rfl
theorem na_3 : Cond.arrayOf (Term.field (Term.string "OwedBell$Facts" 96) "java/lang/String" "value" "[B") .byte ∈ nw_l := List.mem_of_getElem? (i := 85) rfl
theorem nl_3 : Cond.eq (.length (Term.field (Term.string "OwedBell$Facts" 96) "java/lang/String" "value" "[B")) (.int (Int32.ofNat 5)) ∈ nw_l := List.mem_of_getElem? (i := 86) rfl
theorem ne_3 : ∀ j, j < 5 → Cond.eq (.elem (Term.field (Term.string "OwedBell$Facts" 96) "java/lang/String" "value" "[B") (.int (Int32.ofNat j))) (.int ((ax_txt 3).getD j 0)) ∈ nw_l
  | 0, _ => List.mem_of_getElem? (i := 87) rfl
  | 1, _ => List.mem_of_getElem? (i := 88) rfl
  | 2, _ => List.mem_of_getElem? (i := 89) rfl
  | 3, _ => List.mem_of_getElem? (i := 90) rfl
  | 4, _ => List.mem_of_getElem? (i := 91) rfl
  | k + 5, h => absurd h (by omega)
theorem ns_3 : Cond.stringRef "OwedBell$Facts" 96 "chest" ∈ lw_tbl := ax_b3 (List.mem_of_getElem? (i := 185) rfl)
theorem nx_4 : Cond.exactly (Term.string "OwedBell$Facts" 97) "java/lang/String" ∈ nw_l := List.mem_of_getElem? (i := 92) rfl
theorem nc_4 : Cond.eq (.field (Term.string "OwedBell$Facts" 97) "java/lang/String" "coder" "B") (.int 0) ∈ nw_l := List.mem_of_getElem? (i := 93) rfl
theorem na_4 : Cond.arrayOf (Term.field (Term.string "OwedBell$Facts" 97) "java/lang/String" "value" "[B") .byte ∈ nw_l := List.mem_of_getElem? (i := 94) rfl
theorem nl_4 : Cond.eq (.length (Term.field (Term.string "OwedBell$Facts" 97) "java/lang/String" "value" "[B")) (.int (Int32.ofNat 7)) ∈ nw_l := List.mem_of_getElem? (i := 95) rfl
theorem ne_4 : ∀ j, j < 7 → Cond.eq (.elem (Term.field (Term.string "OwedBell$Facts" 97) "java/lang/String" "value" "[B") (.int (Int32.ofNat j))) (.int ((ax_txt 4).getD j 0)) ∈ nw_l
  | 0, _ => List.mem_of_getElem? (i := 96) rfl
  | 1, _ => List.mem_of_getElem? (i := 97) rfl
  | 2, _ => List.mem_of_getElem? (i := 98) rfl
  | 3, _ => List.mem_of_getElem? (i := 99) rfl
  | 4, _ => List.mem_of_getElem? (i := 100) rfl
  | 5, _ => List.mem_of_getElem? (i := 101) rfl
  | 6, _ => List.mem_of_getElem? (i := 102) rfl
  | k + 7, h => absurd h (by omega)
theorem ns_4 : Cond.stringRef "OwedBell$Facts" 97 "harvest" ∈ lw_tbl := ax_b3 (List.mem_of_getElem? (i := 186) rfl)
theorem nx_5 : Cond.exactly (Term.string "OwedBell$Facts" 99) "java/lang/String" ∈ nw_l := List.mem_of_getElem? (i := 103) rfl
theorem nc_5 : Cond.eq (.field (Term.string "OwedBell$Facts" 99) "java/lang/String" "coder" "B") (.int 0) ∈ nw_l := List.mem_of_getElem? (i := 104) rfl
theorem na_5 : Cond.arrayOf (Term.field (Term.string "OwedBell$Facts" 99) "java/lang/String" "value" "[B") .byte ∈ nw_l := List.mem_of_getElem? (i := 105) rfl
theorem nl_5 : Cond.eq (.length (Term.field (Term.string "OwedBell$Facts" 99) "java/lang/String" "value" "[B")) (.int (Int32.ofNat 7)) ∈ nw_l := List.mem_of_getElem? (i := 106) rfl
theorem ne_5 : ∀ j, j < 7 → Cond.eq (.elem (Term.field (Term.string "OwedBell$Facts" 99) "java/lang/String" "value" "[B") (.int (Int32.ofNat j))) (.int ((ax_txt 5).getD j 0)) ∈ nw_l
  | 0, _ => List.mem_of_getElem? (i := 107) rfl
  | 1, _ => List.mem_of_getElem? (i := 108) rfl
  | 2, _ => List.mem_of_getElem? (i := 109) rfl
  | 3, _ => List.mem_of_getElem? (i := 110) rfl
  | 4, _ => List.mem_of_getElem? (i := 111) rfl
  | 5, _ => List.mem_of_getElem? (i := 112) rfl
  | 6, _ => List.mem_of_getElem? (i := 113) rfl
  | k + 7, h => absurd h (by omega)
theorem ns_5 : Cond.stringRef "OwedBell$Facts" 99 "village" ∈ lw_tbl := ax_b3 (List.mem_of_getElem? (i := 187) rfl)
theorem nx_6 : Cond.exactly (Term.string "OwedBell$Facts" 101) "java/lang/String" ∈ nw_l := List.mem_of_getElem? (i := 114) rfl
theorem nc_6 : Cond.eq (.field (Term.string "OwedBell$Facts" 101) "java/lang/String" "coder" "B") (.int 0) ∈ nw_l := List.mem_of_getElem? (i := 115) rfl
theorem na_6 : Cond.arrayOf (Term.field (Term.string "OwedBell$Facts" 101) "java/lang/String" "value" "[B") .byte ∈ nw_l := List.mem_of_getElem? (i := 116) rfl
theorem nl_6 : Cond.eq (.length (Term.field (Term.string "OwedBell$Facts" 101) "java/lang/String" "value" "[B")) (.int (Int32.ofNat 4)) ∈ nw_l := List.mem_of_getElem? (i := 117) rfl
theorem ne_6 : ∀ j, j < 4 → Cond.eq (.elem (Term.field (Term.string "OwedBell$Facts" 101) "java/lang/String" "value" "[B") (.int (Int32.ofNat j))) (.int ((ax_txt 6).getD j 0)) ∈ nw_l
  | 0, _ => List.mem_of_getElem? (i := 118) rfl
  | 1, _ => List.mem_of_getElem? (i := 119) rfl
  | 2, _ => List.mem_of_getElem? (i := 120) rfl
  | 3, _ => List.mem_of_getElem? (i := 121) rfl
  | k + 4, h => absurd h (by omega)
theorem ns_6 : Cond.stringRef "OwedBell$Facts" 101 "cell" ∈ lw_tbl := ax_b3 (List.mem_of_getElem? (i := 188) rfl)
theorem nx_7 : Cond.exactly (Term.string "OwedBell$Facts" 103) "java/lang/String" ∈ nw_l := List.mem_of_getElem? (i := 122) rfl
theorem nc_7 : Cond.eq (.field (Term.string "OwedBell$Facts" 103) "java/lang/String" "coder" "B") (.int 0) ∈ nw_l := List.mem_of_getElem? (i := 123) rfl
theorem na_7 : Cond.arrayOf (Term.field (Term.string "OwedBell$Facts" 103) "java/lang/String" "value" "[B") .byte ∈ nw_l := List.mem_of_getElem? (i := 124) rfl
theorem nl_7 : Cond.eq (.length (Term.field (Term.string "OwedBell$Facts" 103) "java/lang/String" "value" "[B")) (.int (Int32.ofNat 4)) ∈ nw_l := List.mem_of_getElem? (i := 125) rfl
theorem ne_7 : ∀ j, j < 4 → Cond.eq (.elem (Term.field (Term.string "OwedBell$Facts" 103) "java/lang/String" "value" "[B") (.int (Int32.ofNat j))) (.int ((ax_txt 7).getD j 0)) ∈ nw_l
  | 0, _ => List.mem_of_getElem? (i := 126) rfl
  | 1, _ => List.mem_of_getElem? (i := 127) rfl
  | 2, _ => List.mem_of_getElem? (i := 128) rfl
  | 3, _ => List.mem_of_getElem? (i := 129) rfl
  | k + 4, h => absurd h (by omega)
theorem ns_7 : Cond.stringRef "OwedBell$Facts" 103 "monk" ∈ lw_tbl := ax_b3 (List.mem_of_getElem? (i := 189) rfl)
theorem nx_8 : Cond.exactly (Term.string "OwedBell$Facts" 105) "java/lang/String" ∈ nw_l := List.mem_of_getElem? (i := 130) rfl
theorem nc_8 : Cond.eq (.field (Term.string "OwedBell$Facts" 105) "java/lang/String" "coder" "B") (.int 0) ∈ nw_l := List.mem_of_getElem? (i := 131) rfl
theorem na_8 : Cond.arrayOf (Term.field (Term.string "OwedBell$Facts" 105) "java/lang/String" "value" "[B") .byte ∈ nw_l := List.mem_of_getElem? (i := 132) rfl
theorem nl_8 : Cond.eq (.length (Term.field (Term.string "OwedBell$Facts" 105) "java/lang/String" "value" "[B")) (.int (Int32.ofNat 4)) ∈ nw_l := List.mem_of_getElem? (i := 133) rfl
theorem ne_8 : ∀ j, j < 4 → Cond.eq (.elem (Term.field (Term.string "OwedBell$Facts" 105) "java/lang/String" "value" "[B") (.int (Int32.ofNat j))) (.int ((ax_txt 8).getD j 0)) ∈ nw_l
  | 0, _ => List.mem_of_getElem? (i := 134) rfl
  | 1, _ => List.mem_of_getElem? (i := 135) rfl
  | 2, _ => List.mem_of_getElem? (i := 136) rfl
  | 3, _ => List.mem_of_getElem? (i := 137) rfl
  | k + 4, h => absurd h (by omega)
theorem ns_8 : Cond.stringRef "OwedBell$Facts" 105 "heir" ∈ lw_tbl := ax_b3 (List.mem_of_getElem? (i := 190) rfl)
theorem nx_9 : Cond.exactly (Term.string "OwedBell$Law" 73) "java/lang/String" ∈ nw_l := List.mem_of_getElem? (i := 138) rfl
theorem nc_9 : Cond.eq (.field (Term.string "OwedBell$Law" 73) "java/lang/String" "coder" "B") (.int 0) ∈ nw_l := List.mem_of_getElem? (i := 139) rfl
theorem na_9 : Cond.arrayOf (Term.field (Term.string "OwedBell$Law" 73) "java/lang/String" "value" "[B") .byte ∈ nw_l := List.mem_of_getElem? (i := 140) rfl
theorem nl_9 : Cond.eq (.length (Term.field (Term.string "OwedBell$Law" 73) "java/lang/String" "value" "[B")) (.int (Int32.ofNat 5)) ∈ nw_l := List.mem_of_getElem? (i := 141) rfl
theorem ne_9 : ∀ j, j < 5 → Cond.eq (.elem (Term.field (Term.string "OwedBell$Law" 73) "java/lang/String" "value" "[B") (.int (Int32.ofNat j))) (.int ((ax_txt 9).getD j 0)) ∈ nw_l
  | 0, _ => List.mem_of_getElem? (i := 142) rfl
  | 1, _ => List.mem_of_getElem? (i := 143) rfl
  | 2, _ => List.mem_of_getElem? (i := 144) rfl
  | 3, _ => List.mem_of_getElem? (i := 145) rfl
  | 4, _ => List.mem_of_getElem? (i := 146) rfl
  | k + 5, h => absurd h (by omega)
theorem ns_9 : Cond.stringRef "OwedBell$Law" 73 "least" ∈ lw_tbl := ax_b4 (List.mem_of_getElem? (i := 7) rfl)
theorem nx_10 : Cond.exactly (Term.string "OwedBell$Law" 79) "java/lang/String" ∈ nw_l := List.mem_of_getElem? (i := 147) rfl
theorem nc_10 : Cond.eq (.field (Term.string "OwedBell$Law" 79) "java/lang/String" "coder" "B") (.int 0) ∈ nw_l := List.mem_of_getElem? (i := 148) rfl
theorem na_10 : Cond.arrayOf (Term.field (Term.string "OwedBell$Law" 79) "java/lang/String" "value" "[B") .byte ∈ nw_l := List.mem_of_getElem? (i := 149) rfl
theorem nl_10 : Cond.eq (.length (Term.field (Term.string "OwedBell$Law" 79) "java/lang/String" "value" "[B")) (.int (Int32.ofNat 4)) ∈ nw_l := List.mem_of_getElem? (i := 150) rfl
theorem ne_10 : ∀ j, j < 4 → Cond.eq (.elem (Term.field (Term.string "OwedBell$Law" 79) "java/lang/String" "value" "[B") (.int (Int32.ofNat j))) (.int ((ax_txt 10).getD j 0)) ∈ nw_l
  | 0, _ => List.mem_of_getElem? (i := 151) rfl
  | 1, _ => List.mem_of_getElem? (i := 152) rfl
  | 2, _ => List.mem_of_getElem? (i := 153) rfl
  | 3, _ => List.mem_of_getElem? (i := 154) rfl
  | k + 4, h => absurd h (by omega)
theorem ns_10 : Cond.stringRef "OwedBell$Law" 79 "most" ∈ lw_tbl := ax_b4 (List.mem_of_getElem? (i := 9) rfl)
theorem nx_11 : Cond.exactly (Term.string "OwedBell$Law" 88) "java/lang/String" ∈ nw_l := List.mem_of_getElem? (i := 155) rfl
theorem nc_11 : Cond.eq (.field (Term.string "OwedBell$Law" 88) "java/lang/String" "coder" "B") (.int 0) ∈ nw_l := List.mem_of_getElem? (i := 156) rfl
theorem na_11 : Cond.arrayOf (Term.field (Term.string "OwedBell$Law" 88) "java/lang/String" "value" "[B") .byte ∈ nw_l := List.mem_of_getElem? (i := 157) rfl
theorem nl_11 : Cond.eq (.length (Term.field (Term.string "OwedBell$Law" 88) "java/lang/String" "value" "[B")) (.int (Int32.ofNat 4)) ∈ nw_l := List.mem_of_getElem? (i := 158) rfl
theorem ne_11 : ∀ j, j < 4 → Cond.eq (.elem (Term.field (Term.string "OwedBell$Law" 88) "java/lang/String" "value" "[B") (.int (Int32.ofNat j))) (.int ((ax_txt 11).getD j 0)) ∈ nw_l
  | 0, _ => List.mem_of_getElem? (i := 159) rfl
  | 1, _ => List.mem_of_getElem? (i := 160) rfl
  | 2, _ => List.mem_of_getElem? (i := 161) rfl
  | 3, _ => List.mem_of_getElem? (i := 162) rfl
  | k + 4, h => absurd h (by omega)
theorem ns_11 : Cond.stringRef "OwedBell$Law" 88 "asks" ∈ lw_tbl := ax_b4 (List.mem_of_getElem? (i := 13) rfl)
theorem nx_12 : Cond.exactly (Term.string "OwedBell$Law" 90) "java/lang/String" ∈ nw_l := List.mem_of_getElem? (i := 163) rfl
theorem nc_12 : Cond.eq (.field (Term.string "OwedBell$Law" 90) "java/lang/String" "coder" "B") (.int 0) ∈ nw_l := List.mem_of_getElem? (i := 164) rfl
theorem na_12 : Cond.arrayOf (Term.field (Term.string "OwedBell$Law" 90) "java/lang/String" "value" "[B") .byte ∈ nw_l := List.mem_of_getElem? (i := 165) rfl
theorem nl_12 : Cond.eq (.length (Term.field (Term.string "OwedBell$Law" 90) "java/lang/String" "value" "[B")) (.int (Int32.ofNat 4)) ∈ nw_l := List.mem_of_getElem? (i := 166) rfl
theorem ne_12 : ∀ j, j < 4 → Cond.eq (.elem (Term.field (Term.string "OwedBell$Law" 90) "java/lang/String" "value" "[B") (.int (Int32.ofNat j))) (.int ((ax_txt 12).getD j 0)) ∈ nw_l
  | 0, _ => List.mem_of_getElem? (i := 167) rfl
  | 1, _ => List.mem_of_getElem? (i := 168) rfl
  | 2, _ => List.mem_of_getElem? (i := 169) rfl
  | 3, _ => List.mem_of_getElem? (i := 170) rfl
  | k + 4, h => absurd h (by omega)
theorem ns_12 : Cond.stringRef "OwedBell$Law" 90 "paid" ∈ lw_tbl := ax_b4 (List.mem_of_getElem? (i := 14) rfl)
theorem nx_13 : Cond.exactly (Term.string "OwedBell$Law" 92) "java/lang/String" ∈ nw_l := List.mem_of_getElem? (i := 171) rfl
theorem nc_13 : Cond.eq (.field (Term.string "OwedBell$Law" 92) "java/lang/String" "coder" "B") (.int 0) ∈ nw_l := List.mem_of_getElem? (i := 172) rfl
theorem na_13 : Cond.arrayOf (Term.field (Term.string "OwedBell$Law" 92) "java/lang/String" "value" "[B") .byte ∈ nw_l := List.mem_of_getElem? (i := 173) rfl
theorem nl_13 : Cond.eq (.length (Term.field (Term.string "OwedBell$Law" 92) "java/lang/String" "value" "[B")) (.int (Int32.ofNat 5)) ∈ nw_l := List.mem_of_getElem? (i := 174) rfl
theorem ne_13 : ∀ j, j < 5 → Cond.eq (.elem (Term.field (Term.string "OwedBell$Law" 92) "java/lang/String" "value" "[B") (.int (Int32.ofNat j))) (.int ((ax_txt 13).getD j 0)) ∈ nw_l
  | 0, _ => List.mem_of_getElem? (i := 175) rfl
  | 1, _ => List.mem_of_getElem? (i := 176) rfl
  | 2, _ => List.mem_of_getElem? (i := 177) rfl
  | 3, _ => List.mem_of_getElem? (i := 178) rfl
  | 4, _ => List.mem_of_getElem? (i := 179) rfl
  | k + 5, h => absurd h (by omega)
theorem ns_13 : Cond.stringRef "OwedBell$Law" 92 "night" ∈ lw_tbl := ax_b4 (List.mem_of_getElem? (i := 15) rfl)
theorem nx_14 : Cond.exactly (Term.string "OwedBell$Law" 94) "java/lang/String" ∈ nw_l := List.mem_of_getElem? (i := 180) rfl
theorem nc_14 : Cond.eq (.field (Term.string "OwedBell$Law" 94) "java/lang/String" "coder" "B") (.int 0) ∈ nw_l := List.mem_of_getElem? (i := 181) rfl
theorem na_14 : Cond.arrayOf (Term.field (Term.string "OwedBell$Law" 94) "java/lang/String" "value" "[B") .byte ∈ nw_l := List.mem_of_getElem? (i := 182) rfl
theorem nl_14 : Cond.eq (.length (Term.field (Term.string "OwedBell$Law" 94) "java/lang/String" "value" "[B")) (.int (Int32.ofNat 5)) ∈ nw_l := List.mem_of_getElem? (i := 183) rfl
theorem ne_14 : ∀ j, j < 5 → Cond.eq (.elem (Term.field (Term.string "OwedBell$Law" 94) "java/lang/String" "value" "[B") (.int (Int32.ofNat j))) (.int ((ax_txt 14).getD j 0)) ∈ nw_l
  | 0, _ => List.mem_of_getElem? (i := 184) rfl
  | 1, _ => List.mem_of_getElem? (i := 185) rfl
  | 2, _ => List.mem_of_getElem? (i := 186) rfl
  | 3, _ => List.mem_of_getElem? (i := 187) rfl
  | 4, _ => List.mem_of_getElem? (i := 188) rfl
  | k + 5, h => absurd h (by omega)
theorem ns_14 : Cond.stringRef "OwedBell$Law" 94 "quiet" ∈ lw_tbl := ax_b4 (List.mem_of_getElem? (i := 16) rfl)
theorem nx_15 : Cond.exactly (Term.string "OwedBell$Law" 96) "java/lang/String" ∈ nw_l := List.mem_of_getElem? (i := 189) rfl
theorem nc_15 : Cond.eq (.field (Term.string "OwedBell$Law" 96) "java/lang/String" "coder" "B") (.int 0) ∈ nw_l := List.mem_of_getElem? (i := 190) rfl
theorem na_15 : Cond.arrayOf (Term.field (Term.string "OwedBell$Law" 96) "java/lang/String" "value" "[B") .byte ∈ nw_l := List.mem_of_getElem? (i := 191) rfl
theorem nl_15 : Cond.eq (.length (Term.field (Term.string "OwedBell$Law" 96) "java/lang/String" "value" "[B")) (.int (Int32.ofNat 3)) ∈ nw_l := List.mem_of_getElem? (i := 192) rfl
theorem ne_15 : ∀ j, j < 3 → Cond.eq (.elem (Term.field (Term.string "OwedBell$Law" 96) "java/lang/String" "value" "[B") (.int (Int32.ofNat j))) (.int ((ax_txt 15).getD j 0)) ∈ nw_l
  | 0, _ => List.mem_of_getElem? (i := 193) rfl
  | 1, _ => List.mem_of_getElem? (i := 194) rfl
  | 2, _ => List.mem_of_getElem? (i := 195) rfl
  | k + 3, h => absurd h (by omega)
theorem ns_15 : Cond.stringRef "OwedBell$Law" 96 "wax" ∈ lw_tbl := ax_b4 (List.mem_of_getElem? (i := 17) rfl)
theorem nx_16 : Cond.exactly (Term.string "OwedBell$Law" 98) "java/lang/String" ∈ nw_l := List.mem_of_getElem? (i := 196) rfl
theorem nc_16 : Cond.eq (.field (Term.string "OwedBell$Law" 98) "java/lang/String" "coder" "B") (.int 0) ∈ nw_l := List.mem_of_getElem? (i := 197) rfl
theorem na_16 : Cond.arrayOf (Term.field (Term.string "OwedBell$Law" 98) "java/lang/String" "value" "[B") .byte ∈ nw_l := List.mem_of_getElem? (i := 198) rfl
theorem nl_16 : Cond.eq (.length (Term.field (Term.string "OwedBell$Law" 98) "java/lang/String" "value" "[B")) (.int (Int32.ofNat 5)) ∈ nw_l := List.mem_of_getElem? (i := 199) rfl
theorem ne_16 : ∀ j, j < 5 → Cond.eq (.elem (Term.field (Term.string "OwedBell$Law" 98) "java/lang/String" "value" "[B") (.int (Int32.ofNat j))) (.int ((ax_txt 16).getD j 0)) ∈ nw_l
  | 0, _ => List.mem_of_getElem? (i := 200) rfl
  | 1, _ => List.mem_of_getElem? (i := 201) rfl
  | 2, _ => List.mem_of_getElem? (i := 202) rfl
  | 3, _ => List.mem_of_getElem? (i := 203) rfl
  | 4, _ => List.mem_of_getElem? (i := 204) rfl
  | k + 5, h => absurd h (by omega)
theorem ns_16 : Cond.stringRef "OwedBell$Law" 98 "storm" ∈ lw_tbl := ax_b4 (List.mem_of_getElem? (i := 18) rfl)
theorem nx_17 : Cond.exactly (Term.string "OwedBell$Law" 100) "java/lang/String" ∈ nw_l := List.mem_of_getElem? (i := 205) rfl
theorem nc_17 : Cond.eq (.field (Term.string "OwedBell$Law" 100) "java/lang/String" "coder" "B") (.int 0) ∈ nw_l := List.mem_of_getElem? (i := 206) rfl
theorem na_17 : Cond.arrayOf (Term.field (Term.string "OwedBell$Law" 100) "java/lang/String" "value" "[B") .byte ∈ nw_l := List.mem_of_getElem? (i := 207) rfl
theorem nl_17 : Cond.eq (.length (Term.field (Term.string "OwedBell$Law" 100) "java/lang/String" "value" "[B")) (.int (Int32.ofNat 5)) ∈ nw_l := List.mem_of_getElem? (i := 208) rfl
theorem ne_17 : ∀ j, j < 5 → Cond.eq (.elem (Term.field (Term.string "OwedBell$Law" 100) "java/lang/String" "value" "[B") (.int (Int32.ofNat j))) (.int ((ax_txt 17).getD j 0)) ∈ nw_l
  | 0, _ => List.mem_of_getElem? (i := 209) rfl
  | 1, _ => List.mem_of_getElem? (i := 210) rfl
  | 2, _ => List.mem_of_getElem? (i := 211) rfl
  | 3, _ => List.mem_of_getElem? (i := 212) rfl
  | 4, _ => List.mem_of_getElem? (i := 213) rfl
  | k + 5, h => absurd h (by omega)
theorem ns_17 : Cond.stringRef "OwedBell$Law" 100 "chest" ∈ lw_tbl := ax_b4 (List.mem_of_getElem? (i := 19) rfl)
theorem nx_18 : Cond.exactly (Term.string "OwedBell$Steps" 79) "java/lang/String" ∈ nw_l := List.mem_of_getElem? (i := 215) rfl
theorem nc_18 : Cond.eq (.field (Term.string "OwedBell$Steps" 79) "java/lang/String" "coder" "B") (.int 0) ∈ nw_l := List.mem_of_getElem? (i := 216) rfl
theorem na_18 : Cond.arrayOf (Term.field (Term.string "OwedBell$Steps" 79) "java/lang/String" "value" "[B") .byte ∈ nw_l := List.mem_of_getElem? (i := 217) rfl
theorem nl_18 : Cond.eq (.length (Term.field (Term.string "OwedBell$Steps" 79) "java/lang/String" "value" "[B")) (.int (Int32.ofNat 3)) ∈ nw_l := List.mem_of_getElem? (i := 218) rfl
theorem ne_18 : ∀ j, j < 3 → Cond.eq (.elem (Term.field (Term.string "OwedBell$Steps" 79) "java/lang/String" "value" "[B") (.int (Int32.ofNat j))) (.int ((ax_txt 18).getD j 0)) ∈ nw_l
  | 0, _ => List.mem_of_getElem? (i := 219) rfl
  | 1, _ => List.mem_of_getElem? (i := 220) rfl
  | 2, _ => List.mem_of_getElem? (i := 221) rfl
  | k + 3, h => absurd h (by omega)
theorem ns_18 : Cond.stringRef "OwedBell$Steps" 79 "pay" ∈ lw_tbl := ax_b4 (List.mem_of_getElem? (i := 44) rfl)
theorem nx_19 : Cond.exactly (Term.string "OwedBell$Steps" 85) "java/lang/String" ∈ nw_l := List.mem_of_getElem? (i := 222) rfl
theorem nc_19 : Cond.eq (.field (Term.string "OwedBell$Steps" 85) "java/lang/String" "coder" "B") (.int 0) ∈ nw_l := List.mem_of_getElem? (i := 223) rfl
theorem na_19 : Cond.arrayOf (Term.field (Term.string "OwedBell$Steps" 85) "java/lang/String" "value" "[B") .byte ∈ nw_l := List.mem_of_getElem? (i := 224) rfl
theorem nl_19 : Cond.eq (.length (Term.field (Term.string "OwedBell$Steps" 85) "java/lang/String" "value" "[B")) (.int (Int32.ofNat 4)) ∈ nw_l := List.mem_of_getElem? (i := 225) rfl
theorem ne_19 : ∀ j, j < 4 → Cond.eq (.elem (Term.field (Term.string "OwedBell$Steps" 85) "java/lang/String" "value" "[B") (.int (Int32.ofNat j))) (.int ((ax_txt 19).getD j 0)) ∈ nw_l
  | 0, _ => List.mem_of_getElem? (i := 226) rfl
  | 1, _ => List.mem_of_getElem? (i := 227) rfl
  | 2, _ => List.mem_of_getElem? (i := 228) rfl
  | 3, _ => List.mem_of_getElem? (i := 229) rfl
  | k + 4, h => absurd h (by omega)
theorem ns_19 : Cond.stringRef "OwedBell$Steps" 85 "alms" ∈ lw_tbl := ax_b4 (List.mem_of_getElem? (i := 46) rfl)
theorem nx_20 : Cond.exactly (Term.string "OwedBell$Steps" 87) "java/lang/String" ∈ nw_l := List.mem_of_getElem? (i := 230) rfl
theorem nc_20 : Cond.eq (.field (Term.string "OwedBell$Steps" 87) "java/lang/String" "coder" "B") (.int 0) ∈ nw_l := List.mem_of_getElem? (i := 231) rfl
theorem na_20 : Cond.arrayOf (Term.field (Term.string "OwedBell$Steps" 87) "java/lang/String" "value" "[B") .byte ∈ nw_l := List.mem_of_getElem? (i := 232) rfl
theorem nl_20 : Cond.eq (.length (Term.field (Term.string "OwedBell$Steps" 87) "java/lang/String" "value" "[B")) (.int (Int32.ofNat 3)) ∈ nw_l := List.mem_of_getElem? (i := 233) rfl
theorem ne_20 : ∀ j, j < 3 → Cond.eq (.elem (Term.field (Term.string "OwedBell$Steps" 87) "java/lang/String" "value" "[B") (.int (Int32.ofNat j))) (.int ((ax_txt 20).getD j 0)) ∈ nw_l
  | 0, _ => List.mem_of_getElem? (i := 234) rfl
  | 1, _ => List.mem_of_getElem? (i := 235) rfl
  | 2, _ => List.mem_of_getElem? (i := 236) rfl
  | k + 3, h => absurd h (by omega)
theorem ns_20 : Cond.stringRef "OwedBell$Steps" 87 "wax" ∈ lw_tbl := ax_b4 (List.mem_of_getElem? (i := 47) rfl)
theorem nx_21 : Cond.exactly (Term.string "OwedBell$Steps" 89) "java/lang/String" ∈ nw_l := List.mem_of_getElem? (i := 238) rfl
theorem nc_21 : Cond.eq (.field (Term.string "OwedBell$Steps" 89) "java/lang/String" "coder" "B") (.int 0) ∈ nw_l := List.mem_of_getElem? (i := 239) rfl
theorem na_21 : Cond.arrayOf (Term.field (Term.string "OwedBell$Steps" 89) "java/lang/String" "value" "[B") .byte ∈ nw_l := List.mem_of_getElem? (i := 240) rfl
theorem nl_21 : Cond.eq (.length (Term.field (Term.string "OwedBell$Steps" 89) "java/lang/String" "value" "[B")) (.int (Int32.ofNat 7)) ∈ nw_l := List.mem_of_getElem? (i := 241) rfl
theorem ne_21 : ∀ j, j < 7 → Cond.eq (.elem (Term.field (Term.string "OwedBell$Steps" 89) "java/lang/String" "value" "[B") (.int (Int32.ofNat j))) (.int ((ax_txt 21).getD j 0)) ∈ nw_l
  | 0, _ => List.mem_of_getElem? (i := 242) rfl
  | 1, _ => List.mem_of_getElem? (i := 243) rfl
  | 2, _ => List.mem_of_getElem? (i := 244) rfl
  | 3, _ => List.mem_of_getElem? (i := 245) rfl
  | 4, _ => List.mem_of_getElem? (i := 246) rfl
  | 5, _ => List.mem_of_getElem? (i := 247) rfl
  | 6, _ => List.mem_of_getElem? (i := 248) rfl
  | k + 7, h => absurd h (by omega)
theorem ns_21 : Cond.stringRef "OwedBell$Steps" 89 "receipt" ∈ lw_tbl := ax_b4 (List.mem_of_getElem? (i := 48) rfl)
theorem nx_22 : Cond.exactly (Term.string "OwedBell$Steps" 91) "java/lang/String" ∈ nw_l := List.mem_of_getElem? (i := 249) rfl
theorem nc_22 : Cond.eq (.field (Term.string "OwedBell$Steps" 91) "java/lang/String" "coder" "B") (.int 0) ∈ nw_l := List.mem_of_getElem? (i := 250) rfl
theorem na_22 : Cond.arrayOf (Term.field (Term.string "OwedBell$Steps" 91) "java/lang/String" "value" "[B") .byte ∈ nw_l := List.mem_of_getElem? (i := 251) rfl
theorem nl_22 : Cond.eq (.length (Term.field (Term.string "OwedBell$Steps" 91) "java/lang/String" "value" "[B")) (.int (Int32.ofNat 4)) ∈ nw_l := List.mem_of_getElem? (i := 252) rfl
theorem ne_22 : ∀ j, j < 4 → Cond.eq (.elem (Term.field (Term.string "OwedBell$Steps" 91) "java/lang/String" "value" "[B") (.int (Int32.ofNat j))) (.int ((ax_txt 22).getD j 0)) ∈ nw_l
  | 0, _ => List.mem_of_getElem? (i := 253) rfl
  | 1, _ => List.mem_of_getElem? (i := 254) rfl
  | 2, _ => List.mem_of_getElem? (i := 255) rfl
  | 3, _ => List.mem_of_getElem? (i := 256) rfl
  | k + 4, h => absurd h (by omega)
theorem ns_22 : Cond.stringRef "OwedBell$Steps" 91 "swap" ∈ lw_tbl := ax_b4 (List.mem_of_getElem? (i := 49) rfl)
theorem nx_23 : Cond.exactly (Term.string "OwedBell$Steps" 93) "java/lang/String" ∈ nw_l := List.mem_of_getElem? (i := 257) rfl
theorem nc_23 : Cond.eq (.field (Term.string "OwedBell$Steps" 93) "java/lang/String" "coder" "B") (.int 0) ∈ nw_l := List.mem_of_getElem? (i := 258) rfl
theorem na_23 : Cond.arrayOf (Term.field (Term.string "OwedBell$Steps" 93) "java/lang/String" "value" "[B") .byte ∈ nw_l := List.mem_of_getElem? (i := 259) rfl
theorem nl_23 : Cond.eq (.length (Term.field (Term.string "OwedBell$Steps" 93) "java/lang/String" "value" "[B")) (.int (Int32.ofNat 5)) ∈ nw_l := List.mem_of_getElem? (i := 260) rfl
theorem ne_23 : ∀ j, j < 5 → Cond.eq (.elem (Term.field (Term.string "OwedBell$Steps" 93) "java/lang/String" "value" "[B") (.int (Int32.ofNat j))) (.int ((ax_txt 23).getD j 0)) ∈ nw_l
  | 0, _ => List.mem_of_getElem? (i := 261) rfl
  | 1, _ => List.mem_of_getElem? (i := 262) rfl
  | 2, _ => List.mem_of_getElem? (i := 263) rfl
  | 3, _ => List.mem_of_getElem? (i := 264) rfl
  | 4, _ => List.mem_of_getElem? (i := 265) rfl
  | k + 5, h => absurd h (by omega)
theorem ns_23 : Cond.stringRef "OwedBell$Steps" 93 "night" ∈ lw_tbl := ax_b4 (List.mem_of_getElem? (i := 50) rfl)
theorem nx_24 : Cond.exactly (Term.string "OwedBell$Steps" 95) "java/lang/String" ∈ nw_l := List.mem_of_getElem? (i := 267) rfl
theorem nc_24 : Cond.eq (.field (Term.string "OwedBell$Steps" 95) "java/lang/String" "coder" "B") (.int 0) ∈ nw_l := List.mem_of_getElem? (i := 268) rfl
theorem na_24 : Cond.arrayOf (Term.field (Term.string "OwedBell$Steps" 95) "java/lang/String" "value" "[B") .byte ∈ nw_l := List.mem_of_getElem? (i := 269) rfl
theorem nl_24 : Cond.eq (.length (Term.field (Term.string "OwedBell$Steps" 95) "java/lang/String" "value" "[B")) (.int (Int32.ofNat 5)) ∈ nw_l := List.mem_of_getElem? (i := 270) rfl
theorem ne_24 : ∀ j, j < 5 → Cond.eq (.elem (Term.field (Term.string "OwedBell$Steps" 95) "java/lang/String" "value" "[B") (.int (Int32.ofNat j))) (.int ((ax_txt 24).getD j 0)) ∈ nw_l
  | 0, _ => List.mem_of_getElem? (i := 271) rfl
  | 1, _ => List.mem_of_getElem? (i := 272) rfl
  | 2, _ => List.mem_of_getElem? (i := 273) rfl
  | 3, _ => List.mem_of_getElem? (i := 274) rfl
  | 4, _ => List.mem_of_getElem? (i := 275) rfl
  | k + 5, h => absurd h (by omega)
theorem ns_24 : Cond.stringRef "OwedBell$Steps" 95 "again" ∈ lw_tbl := ax_b4 (List.mem_of_getElem? (i := 51) rfl)
theorem nx_25 : Cond.exactly (Term.string "OwedBell" 377) "java/lang/String" ∈ nw_l := List.mem_of_getElem? (i := 276) rfl
theorem nc_25 : Cond.eq (.field (Term.string "OwedBell" 377) "java/lang/String" "coder" "B") (.int 0) ∈ nw_l := List.mem_of_getElem? (i := 277) rfl
theorem na_25 : Cond.arrayOf (Term.field (Term.string "OwedBell" 377) "java/lang/String" "value" "[B") .byte ∈ nw_l := List.mem_of_getElem? (i := 278) rfl
theorem nl_25 : Cond.eq (.length (Term.field (Term.string "OwedBell" 377) "java/lang/String" "value" "[B")) (.int (Int32.ofNat 20)) ∈ nw_l := List.mem_of_getElem? (i := 279) rfl
theorem ne_25 : ∀ j, j < 20 → Cond.eq (.elem (Term.field (Term.string "OwedBell" 377) "java/lang/String" "value" "[B") (.int (Int32.ofNat j))) (.int ((ax_txt 25).getD j 0)) ∈ nw_l
  | 0, _ => List.mem_of_getElem? (i := 280) rfl
  | 1, _ => List.mem_of_getElem? (i := 281) rfl
  | 2, _ => List.mem_of_getElem? (i := 282) rfl
  | 3, _ => List.mem_of_getElem? (i := 283) rfl
  | 4, _ => List.mem_of_getElem? (i := 284) rfl
  | 5, _ => List.mem_of_getElem? (i := 285) rfl
  | 6, _ => List.mem_of_getElem? (i := 286) rfl
  | 7, _ => List.mem_of_getElem? (i := 287) rfl
  | 8, _ => List.mem_of_getElem? (i := 288) rfl
  | 9, _ => List.mem_of_getElem? (i := 289) rfl
  | 10, _ => List.mem_of_getElem? (i := 290) rfl
  | 11, _ => List.mem_of_getElem? (i := 291) rfl
  | 12, _ => List.mem_of_getElem? (i := 292) rfl
  | 13, _ => List.mem_of_getElem? (i := 293) rfl
  | 14, _ => List.mem_of_getElem? (i := 294) rfl
  | 15, _ => List.mem_of_getElem? (i := 295) rfl
  | 16, _ => List.mem_of_getElem? (i := 296) rfl
  | 17, _ => List.mem_of_getElem? (i := 297) rfl
  | 18, _ => List.mem_of_getElem? (i := 298) rfl
  | 19, _ => List.mem_of_getElem? (i := 299) rfl
  | k + 20, h => absurd h (by omega)
theorem ns_25 : Cond.stringRef "OwedBell" 377 "there is no such one" ∈ lw_tbl := ax_b4 (List.mem_of_getElem? (i := 179) rfl)
theorem ax_text {s : State} {args : Array Value} {A : Nat → Prop} {own tx : String} {k n i : Nat} (hs : ∀ w ∈ nw_l, w.before args s = true) (hts : ∀ w ∈ lw_tbl, w.before args s = true) (hn : n = (ax_txt i).length) (h31 : n < 2 ^ 31) (hA : ∀ a : Nat, a < s.heap.size → ¬ A a)
    (h1 : Cond.exactly (Term.string own k) "java/lang/String" ∈ nw_l) (h2 : Cond.eq (.field (Term.string own k) "java/lang/String" "coder" "B") (.int 0) ∈ nw_l) (h3 : Cond.arrayOf (.field (Term.string own k) "java/lang/String" "value" "[B") .byte ∈ nw_l) (h4 : Cond.eq (.length (.field (Term.string own k) "java/lang/String" "value" "[B")) (.int (Int32.ofNat n)) ∈ nw_l)
    (h5 : ∀ j, j < n → Cond.eq (.elem (.field (Term.string own k) "java/lang/String" "value" "[B") (.int (Int32.ofNat j))) (.int ((ax_txt i).getD j 0)) ∈ nw_l) (h6 : Cond.stringRef own k tx ∈ lw_tbl) :
    ∃ x : Nat × Nat, vk_R own k tx x.1 s ∧ va_O "java/lang/String" x.1 A s s.heap ∧ va_OF "java/lang/String" "coder" "B" (.int 0) x.1 A s s.heap ∧ va_OF "java/lang/String" "value" "[B" (.ref x.2) x.1 A s s.heap ∧ va_T .byte x.2 (ax_txt i).length (fun j => .int ((ax_txt i).getD j 0)) A s s.heap := by
  obtain ⟨adK, adV, hS, he⟩ := vk_Sof (s := s) (args := args) (N := 1) (tm := fun _ => Term.string own k) (len := [n]) (byt := [ax_txt i]) (A := A) (fun j hj => by
      have : j = 0 := by omega
      subst this
      exact h31) (fun j hj => hs _ h1) (fun j hj => hs _ h2) (fun j hj => hs _ h3) (fun j hj => by
      have : j = 0 := by omega
      subst this
      exact hs _ h4) (fun j hj => by
      have : j = 0 := by omega
      subst this
      exact fun m hm => hs _ (h5 m hm)) (fun a b ha hb hne => absurd (by omega) hne) hA
  obtain ⟨g1, g2, g3, g4⟩ := hS.1 0 (by omega)
  refine ⟨(adK 0, adV 0), vk_R.of (hts _ h6) (he 0 (by omega)), g1, g2, g3, ?_⟩
  rw [← hn]
  exact g4
theorem ax_texts {s : State} {args : Array Value} {A : Nat → Prop} (hs : ∀ w ∈ nw_l, w.before args s = true) (hts : ∀ w ∈ lw_tbl, w.before args s = true) (hA : ∀ a : Nat, a < s.heap.size → ¬ A a) : ∀ i : Nat, ∃ x : Nat × Nat, (∀ q, ax_strs[i]? = some q → vk_R q.1 q.2.1 q.2.2 x.1 s) ∧ (i < 26 → va_O "java/lang/String" x.1 A s s.heap ∧ va_OF "java/lang/String" "coder" "B" (.int 0) x.1 A s s.heap ∧ va_OF "java/lang/String" "value" "[B" (.ref x.2) x.1 A s s.heap ∧ va_T .byte x.2 (ax_txt i).length (fun j => .int ((ax_txt i).getD j 0)) A s s.heap)
  | 0 => by
    obtain ⟨x, g1, g2⟩ := ax_text (i := 0) hs hts rfl (by decide) hA nx_0 nc_0 na_0 nl_0 ne_0 ns_0
    exact ⟨x, fun q hq => by cases hq; exact g1, fun _ => g2⟩
  | 1 => by
    obtain ⟨x, g1, g2⟩ := ax_text (i := 1) hs hts rfl (by decide) hA nx_1 nc_1 na_1 nl_1 ne_1 ns_1
    exact ⟨x, fun q hq => by cases hq; exact g1, fun _ => g2⟩
  | 2 => by
    obtain ⟨x, g1, g2⟩ := ax_text (i := 2) hs hts rfl (by decide) hA nx_2 nc_2 na_2 nl_2 ne_2 ns_2
    exact ⟨x, fun q hq => by cases hq; exact g1, fun _ => g2⟩
  | 3 => by
    obtain ⟨x, g1, g2⟩ := ax_text (i := 3) hs hts rfl (by decide) hA nx_3 nc_3 na_3 nl_3 ne_3 ns_3
    exact ⟨x, fun q hq => by cases hq; exact g1, fun _ => g2⟩
  | 4 => by
    obtain ⟨x, g1, g2⟩ := ax_text (i := 4) hs hts rfl (by decide) hA nx_4 nc_4 na_4 nl_4 ne_4 ns_4
    exact ⟨x, fun q hq => by cases hq; exact g1, fun _ => g2⟩
  | 5 => by
    obtain ⟨x, g1, g2⟩ := ax_text (i := 5) hs hts rfl (by decide) hA nx_5 nc_5 na_5 nl_5 ne_5 ns_5
    exact ⟨x, fun q hq => by cases hq; exact g1, fun _ => g2⟩
  | 6 => by
    obtain ⟨x, g1, g2⟩ := ax_text (i := 6) hs hts rfl (by decide) hA nx_6 nc_6 na_6 nl_6 ne_6 ns_6
    exact ⟨x, fun q hq => by cases hq; exact g1, fun _ => g2⟩
  | 7 => by
    obtain ⟨x, g1, g2⟩ := ax_text (i := 7) hs hts rfl (by decide) hA nx_7 nc_7 na_7 nl_7 ne_7 ns_7
    exact ⟨x, fun q hq => by cases hq; exact g1, fun _ => g2⟩
  | 8 => by
    obtain ⟨x, g1, g2⟩ := ax_text (i := 8) hs hts rfl (by decide) hA nx_8 nc_8 na_8 nl_8 ne_8 ns_8
    exact ⟨x, fun q hq => by cases hq; exact g1, fun _ => g2⟩
  | 9 => by
    obtain ⟨x, g1, g2⟩ := ax_text (i := 9) hs hts rfl (by decide) hA nx_9 nc_9 na_9 nl_9 ne_9 ns_9
    exact ⟨x, fun q hq => by cases hq; exact g1, fun _ => g2⟩
  | 10 => by
    obtain ⟨x, g1, g2⟩ := ax_text (i := 10) hs hts rfl (by decide) hA nx_10 nc_10 na_10 nl_10 ne_10 ns_10
    exact ⟨x, fun q hq => by cases hq; exact g1, fun _ => g2⟩
  | 11 => by
    obtain ⟨x, g1, g2⟩ := ax_text (i := 11) hs hts rfl (by decide) hA nx_11 nc_11 na_11 nl_11 ne_11 ns_11
    exact ⟨x, fun q hq => by cases hq; exact g1, fun _ => g2⟩
  | 12 => by
    obtain ⟨x, g1, g2⟩ := ax_text (i := 12) hs hts rfl (by decide) hA nx_12 nc_12 na_12 nl_12 ne_12 ns_12
    exact ⟨x, fun q hq => by cases hq; exact g1, fun _ => g2⟩
  | 13 => by
    obtain ⟨x, g1, g2⟩ := ax_text (i := 13) hs hts rfl (by decide) hA nx_13 nc_13 na_13 nl_13 ne_13 ns_13
    exact ⟨x, fun q hq => by cases hq; exact g1, fun _ => g2⟩
  | 14 => by
    obtain ⟨x, g1, g2⟩ := ax_text (i := 14) hs hts rfl (by decide) hA nx_14 nc_14 na_14 nl_14 ne_14 ns_14
    exact ⟨x, fun q hq => by cases hq; exact g1, fun _ => g2⟩
  | 15 => by
    obtain ⟨x, g1, g2⟩ := ax_text (i := 15) hs hts rfl (by decide) hA nx_15 nc_15 na_15 nl_15 ne_15 ns_15
    exact ⟨x, fun q hq => by cases hq; exact g1, fun _ => g2⟩
  | 16 => by
    obtain ⟨x, g1, g2⟩ := ax_text (i := 16) hs hts rfl (by decide) hA nx_16 nc_16 na_16 nl_16 ne_16 ns_16
    exact ⟨x, fun q hq => by cases hq; exact g1, fun _ => g2⟩
  | 17 => by
    obtain ⟨x, g1, g2⟩ := ax_text (i := 17) hs hts rfl (by decide) hA nx_17 nc_17 na_17 nl_17 ne_17 ns_17
    exact ⟨x, fun q hq => by cases hq; exact g1, fun _ => g2⟩
  | 18 => by
    obtain ⟨x, g1, g2⟩ := ax_text (i := 18) hs hts rfl (by decide) hA nx_18 nc_18 na_18 nl_18 ne_18 ns_18
    exact ⟨x, fun q hq => by cases hq; exact g1, fun _ => g2⟩
  | 19 => by
    obtain ⟨x, g1, g2⟩ := ax_text (i := 19) hs hts rfl (by decide) hA nx_19 nc_19 na_19 nl_19 ne_19 ns_19
    exact ⟨x, fun q hq => by cases hq; exact g1, fun _ => g2⟩
  | 20 => by
    obtain ⟨x, g1, g2⟩ := ax_text (i := 20) hs hts rfl (by decide) hA nx_20 nc_20 na_20 nl_20 ne_20 ns_20
    exact ⟨x, fun q hq => by cases hq; exact g1, fun _ => g2⟩
  | 21 => by
    obtain ⟨x, g1, g2⟩ := ax_text (i := 21) hs hts rfl (by decide) hA nx_21 nc_21 na_21 nl_21 ne_21 ns_21
    exact ⟨x, fun q hq => by cases hq; exact g1, fun _ => g2⟩
  | 22 => by
    obtain ⟨x, g1, g2⟩ := ax_text (i := 22) hs hts rfl (by decide) hA nx_22 nc_22 na_22 nl_22 ne_22 ns_22
    exact ⟨x, fun q hq => by cases hq; exact g1, fun _ => g2⟩
  | 23 => by
    obtain ⟨x, g1, g2⟩ := ax_text (i := 23) hs hts rfl (by decide) hA nx_23 nc_23 na_23 nl_23 ne_23 ns_23
    exact ⟨x, fun q hq => by cases hq; exact g1, fun _ => g2⟩
  | 24 => by
    obtain ⟨x, g1, g2⟩ := ax_text (i := 24) hs hts rfl (by decide) hA nx_24 nc_24 na_24 nl_24 ne_24 ns_24
    exact ⟨x, fun q hq => by cases hq; exact g1, fun _ => g2⟩
  | 25 => by
    obtain ⟨x, g1, g2⟩ := ax_text (i := 25) hs hts rfl (by decide) hA nx_25 nc_25 na_25 nl_25 ne_25 ns_25
    exact ⟨x, fun q hq => by cases hq; exact g1, fun _ => g2⟩
  | n + 26 => ⟨(0, 0), fun q hq => (by cases hq), fun h => absurd h (by omega)⟩
theorem ax_kn {args : Array Value} {s : State} (hts : ∀ w ∈ ax_tbl, w.before args s = true) : ∃ D : va_G, ∀ (c : Nat) (q : vw_C), vwCl[c]? = some q → u_Kn s q.1 q.2.1 q.2.2 (D.1 c) (D.2 c) := by
  have h1 : ∀ {ci n : Nat} {C0 : String} {T : u_T} {N : Nat}, AxCls ci C0 T N → Cond.instantiable C0 n ∈ ax_tbl → ∃ x : ClassId × (Nat → Nat), ∀ q, vwCl[ci]? = some q → u_Kn s q.1 q.2.1 q.2.2 x.1 x.2 := by
    intro ci n C0 T N hc hi
    obtain ⟨cC, iS, h⟩ := u_known hts hc.2.1 (hts _ hi)
    exact ⟨(cC, iS), fun q hq => by rw [hc.1] at hq; cases hq; exact h⟩
  have h0 : ∀ c : Nat, ∃ x : ClassId × (Nat → Nat), ∀ q, vwCl[c]? = some q → u_Kn s q.1 q.2.1 q.2.2 x.1 x.2 := fun c => match c with
    | 0 => h1 axc0 wd_242
    | 1 => h1 axc1 wd_162
    | 2 => h1 axc2 wd_369
    | 3 => h1 axc3 wd_411
    | 4 => h1 axc4 wd_223
    | 5 => h1 axc5 wd_287
    | 6 => h1 axc6 wd_258
    | 7 => h1 axc7 wd_118
    | 8 => h1 axc8 wd_350
    | 9 => h1 axc9 wd_110
    | 10 => h1 axc10 wd_1264
    | n + 11 => ⟨(0, fun _ => 0), fun q hq => by cases hq⟩
  obtain ⟨f, hf⟩ := Classical.axiomOfChoice h0
  exact ⟨(fun c => (f c).1, fun c => (f c).2), fun c q hq => hf c q hq⟩
theorem ax_same {s : State} {A : Nat → Prop} {H : Heap} {x y : Nat × Nat} {t u : List Int32} (hx : va_OF "java/lang/String" "value" "[B" (.ref x.2) x.1 A s H) (hx2 : va_T .byte x.2 t.length (fun j => .int (t.getD j 0)) A s H) (hy : va_OF "java/lang/String" "value" "[B" (.ref y.2) y.1 A s H) (hy2 : va_T .byte y.2 u.length (fun j => .int (u.getD j 0)) A s H) (e : x.1 = y.1) (ht : t.length < 2 ^ 31) (hu : u.length < 2 ^ 31) : t = u := by
  obtain ⟨cf, k, i, f, cell, q1, q2, q3, q4, q5, q6⟩ := hx
  obtain ⟨cf', k', i', f', cell', r1, r2, r3, r4, r5, r6⟩ := hy
  have h1 := Option.some.inj (q1.symm.trans r1)
  have hf : f = f' := congrArg (fun z => z.2.2.2) h1
  subst hf
  rw [e] at q3
  have hc : cell = cell' := Option.some.inj (q3.symm.trans r3)
  subst hc
  have hv : Value.ref x.2 = Value.ref y.2 := Option.some.inj (q5.symm.trans r5)
  have hv2 : x.2 = y.2 := by injection hv
  rw [hv2] at hx2
  obtain ⟨ce, a1, a2, a3, a4, a5, a6, a7⟩ := hx2
  obtain ⟨ce', b1, b2, b3, b4, b5, b6, b7⟩ := hy2
  have hce : ce = ce' := Option.some.inj (a1.symm.trans b1)
  subst hce
  have hn : Int32.ofNat t.length = Int32.ofNat u.length := a5.symm.trans b5
  have hl : t.length = u.length := by
    have h9 := congrArg Int32.toInt hn
    rw [Int32.toInt_ofNat_of_lt ht, Int32.toInt_ofNat_of_lt hu] at h9
    omega
  refine List.ext_getElem hl (fun j h1 h2 => ?_)
  have h9 : Value.int (t.getD j 0) = Value.int (u.getD j 0) := Option.some.inj ((a6 j h1).symm.trans (b6 j h2))
  have h10 : t.getD j 0 = u.getD j 0 := by injection h9
  simpa [List.getD, List.getElem?_eq_getElem h1, List.getElem?_eq_getElem h2] using h10
theorem ax_len31 : ∀ i, (ax_txt i).length < 2 ^ 31
  | 0 => by decide
  | 1 => by decide
  | 2 => by decide
  | 3 => by decide
  | 4 => by decide
  | 5 => by decide
  | 6 => by decide
  | 7 => by decide
  | 8 => by decide
  | 9 => by decide
  | 10 => by decide
  | 11 => by decide
  | 12 => by decide
  | 13 => by decide
  | 14 => by decide
  | 15 => by decide
  | 16 => by decide
  | 17 => by decide
  | 18 => by decide
  | 19 => by decide
  | 20 => by decide
  | 21 => by decide
  | 22 => by decide
  | 23 => by decide
  | 24 => by decide
  | 25 => by decide
  | n + 26 => by show ([] : List Int32).length < 2 ^ 31; decide
/-- at the law's entry: a world in which its run is told, and what is so there -/
theorem ax_start {p : Program} {s : State} {m : MethodId} {meth : Method} {c : Code} {b L : Nat} {xs : Nat → Int32} (h1 : p.tables.exec = Jvm.exec) (h2 : c.code = code) (h3 : meth.sig.returnType = ret) (h4 : c.maxLocals = 8) (h5 : s.vm.findClass RL = some m.cls) (hts : ∀ w ∈ lw_tbl, w.before #[Value.ref b] s = true) (hX : va_X b L xs s s.heap) (hb : b < s.heap.size) (hlk : meth.locks = false) (hg : (Jvm.Cond.and given_1 narrow_1).before #[Value.ref b] s = true) (hex : c.exceptionTable.toList = []) (l : Launch) :
    ∃ g : AxG, (g.2.2.2.2.2.1 = b ∧ g.2.2.2.2.2.2.1 = L ∧ g.2.2.2.2.2.2.2.1 = xs) ∧ g.2.2.1 = s.heap.size ∧ AxC g l mt_L_law_ p s m #[Value.ref b] meth c ∧ ∃ sh0 : Nat → Option (Nat × Nat), axRel g ((some s.heap.size, g.2.2.2.2.1), sh0, (fun _ _ => 0), (fun _ _ => none), (fun _ _ => 0)) s.heap ∧ ∀ i, i < 26 → g.2.2.2.2.1 i < s.heap.size ∧ ∃ j, sh0 (g.2.2.2.2.1 i) = some (6, j) ∧ ax_txt j = ax_txt i := by
  have hs : ∀ w ∈ nw_l, w.before #[Value.ref b] s = true := flat_of_before _ hg
  have hta : ∀ w ∈ ax_tbl, w.before #[Value.ref b] s = true := fun w hw => hts w (List.mem_filter.mp hw).1
  have hA : ∀ a : Nat, a < s.heap.size → ¬ s.heap.size ≤ a := fun a h => by omega
  obtain ⟨D, hD⟩ := ax_kn hta
  obtain ⟨tx, htx⟩ := Classical.axiomOfChoice (ax_texts (A := fun q => s.heap.size ≤ q) hs hts hA)
  obtain ⟨A1, k1, p1, a1, a2, a3⟩ := Cond.arrayClass_spec (hta _ wd_160)
  obtain ⟨A2, k2, p2, b1, b2, b3⟩ := Cond.arrayClass_spec (hta _ wd_1433)
  obtain ⟨p3, A3, k3, c0, c1, c2, c3⟩ := Cond.arrayOver_specA (hts _ wd_375)
  obtain ⟨p4, A4, k4, d0, -, d1, d2, d3⟩ := Cond.arrayOver_spec (hts _ wd_367)
  obtain ⟨p5, A5, k5, e0, -, e1, e2, e3⟩ := Cond.arrayOver_spec (hts _ wd_356)
  let g : AxG := (D, (fun i => match i with
    | 1 => A1
    | 2 => A2
    | 3 => A3
    | 4 => A4
    | _ => A5), s.heap.size, s.heap, (fun i => (tx i).1), (b, L, xs, fun i => (tx i).2))
  have hK : axK g s := by
    refine ⟨⟨hD, fun k q hk => ?_⟩, fun w hw hn => ?_, fun i q hq => (htx i).1 q hq, ⟨?_, ?_⟩, fun i hi => (htx i).2 hi, ?_, ?_, hX, hb, ?_⟩
    · match k, hk with
      | 0, hk => cases hk; exact ⟨fun n z => ⟨fun k h => (by cases h), k1, a2, p1, a3⟩, a1⟩
      | 1, hk => cases hk; exact ⟨fun n z => ⟨fun k h => (by cases h), k2, b2, p2, b3⟩, b1⟩
      | 2, hk => cases hk; exact ⟨fun n z => ⟨fun k h => (by cases h), k3, c1, p3, c2⟩, c3⟩
      | 3, hk => cases hk; exact ⟨fun n z => ⟨fun k h => (by cases h), k4, d1, p4, d2⟩, k4, p4, d1, d2, d0, d3⟩
      | 4, hk => cases hk; exact ⟨fun n z => ⟨fun k h => (by cases h), k5, e1, p5, e2⟩, k5, p5, e1, e2, e0, e3⟩
      | n + 5, hk => cases hk
    · have ho : w.onTables = true := by
        unfold ax_nw at hn
        split at hn
        · rfl
        · rfl
        · rfl
        · cases hn
      exact va_Nw.of ho (hts w hw)
    · exact vx_Zqof (hts _ (ax_b3 (List.mem_of_getElem? (i := 66) rfl))) (hts _ (ax_b1 (List.mem_of_getElem? (i := 12) rfl))) (hs _ (List.mem_of_getElem? (i := 4) rfl)) hA
    · exact vx_Zqof (hts _ (ax_b3 (List.mem_of_getElem? (i := 68) rfl))) (hts _ (ax_b1 (List.mem_of_getElem? (i := 12) rfl))) (hs _ (List.mem_of_getElem? (i := 5) rfl)) hA
    · exact va_Zof (hts _ (ax_b3 (List.mem_of_getElem? (i := 145) rfl))) (hts _ (ax_b1 (List.mem_of_getElem? (i := 16) rfl))) (va_eqt (hs _ (List.mem_of_getElem? (i := 6) rfl))) hA
    · exact va_Zqof (hts _ (ax_b3 (List.mem_of_getElem? (i := 161) rfl))) (hts _ (ax_b1 (List.mem_of_getElem? (i := 18) rfl))) (hs _ (List.mem_of_getElem? (i := 7) rfl)) hA
    · exact ⟨va_Nc.of (hs _ (List.mem_of_getElem? (i := 34) rfl)), fun w hw hn => by
        have h9 := hts w hw
        unfold ax_ow at hn
        split at hn
        · exact h9
        · cases hn⟩
  have hsh : ∀ a : Nat, ∃ o : Option (Nat × Nat), (∀ sh, o = some sh → ∃ j, j < 26 ∧ sh = (6, j) ∧ a = (tx j).1) ∧ ∀ i, i < 26 → (tx i).1 = a → ∃ j, j < 26 ∧ o = some (6, j) ∧ a = (tx j).1 := by
    intro a
    by_cases h : ∃ j, j < 26 ∧ a = (tx j).1
    · obtain ⟨j, hj, e⟩ := h
      exact ⟨some (6, j), fun sh h9 => ⟨j, hj, (Option.some.inj h9).symm, e⟩, fun i hi e9 => ⟨j, hj, rfl, e⟩⟩
    · exact ⟨none, fun sh h9 => (by cases h9), fun i hi e9 => absurd ⟨i, hi, e9.symm⟩ h⟩
  obtain ⟨sh0, hsh0⟩ := Classical.axiomOfChoice hsh
  refine ⟨g, ⟨rfl, rfl, rfl⟩, rfl, ⟨h1, h2, h3, h4, h5, hta, hK, hlk, Nat.le_refl _, fun h => (by cases h), hex, fun q _ => rfl, rfl⟩, sh0, ⟨fun a sh h => ?_, fun q _ => rfl, Nat.le_refl _, rfl, fun n hn => Option.some.inj hn, rfl⟩, fun i hi => ?_⟩
  · obtain ⟨j, hj, e, e2⟩ := (hsh0 a).1 sh h
    subst e
    exact ⟨fun h6 => absurd h6 (Nat.lt_irrefl 6), (by have h9 : (a = (tx j).1 ∧ j < 26) := ⟨e2, hj⟩; exact h9)⟩
  · obtain ⟨cell, hc, -⟩ := ((htx i).2 hi).1
    obtain ⟨j, hj, e, e2⟩ := (hsh0 (tx i).1).2 i hi rfl
    refine ⟨(Array.getElem?_eq_some_iff.mp hc).1, j, e, ?_⟩
    obtain ⟨-, -, f1, f2⟩ := (htx i).2 hi
    obtain ⟨-, -, f3, f4⟩ := (htx j).2 hj
    exact ax_same f3 f4 f1 f2 e2.symm (ax_len31 j) (ax_len31 i)
