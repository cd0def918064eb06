def F_L_abbey (N : Nat) (v0 : Nat) (v1 : Int32) (v2 : Nat) (S : AxS) : Option (Int32 × AxS) :=
  ax_is S v0 9 <| axBC (F_X9_abbey N v0 v1 S) (fun x3 T2 => ax_stl T2 v2 0 (Int32.toInt64 x3) fun T4 => some (0, T4)) (fun E9 T2 => if E9 = "java/lang/IllegalArgumentException" then (some (1, T2)) else (none))

def F_L_law (N : Nat) (v0 : Nat) (v1 : Int32) (v2 : Nat) (S : AxS) : Option (Int32 × AxS) :=
  ax_is S v0 9 <| axBC (F_X9_law N v0 v1 S) (fun x3 T2 => ax_stl T2 v2 0 (Int32.toInt64 x3) fun T4 => some (0, T4)) (fun E9 T2 => if E9 = "java/lang/IllegalArgumentException" then (some (1, T2)) else (none))

def F_L_work (N : Nat) (v0 : Nat) (v1 : Int32) (v2 : Nat) (S : AxS) : Option (Int32 × AxS) :=
  ax_is S v0 9 <| axBC (F_X9_work N v0 v1 S) (fun x3 T2 => ax_stl T2 v2 0 (Int32.toInt64 x3) fun T4 => some (0, T4)) (fun E9 T2 => if E9 = "java/lang/IllegalArgumentException" then (some (1, T2)) else (none))

def F_L_book (N : Nat) (v0 : Nat) (v1 : Int32) (v2 : Nat) (S : AxS) : Option (Int32 × AxS) :=
  ax_is S v0 9 <| axBC (F_X9_book N v0 v1 S) (fun x3 T2 => ax_stl T2 v2 0 (Int32.toInt64 x3) fun T4 => some (0, T4)) (fun E9 T2 => if E9 = "java/lang/IllegalArgumentException" then (some (1, T2)) else (none))

def F_L_told (N : Nat) (v0 : Nat) (v1 : Int32) (v2 : Nat) (S : AxS) : Option (Int32 × AxS) :=
  ax_is S v0 9 <| axBC (F_X9_told N v0 v1 S) (fun x3 T2 => ax_stl T2 v2 0 (Int32.toInt64 x3) fun T4 => some (0, T4)) (fun E9 T2 => if E9 = "java/lang/IllegalArgumentException" then (some (1, T2)) else (none))

def F_L_many (N : Nat) (v0 : Nat) (v1 : Int32) (v2 : Nat) (S : AxS) : Option (Int32 × AxS) :=
  ax_is S v0 9 <| axBC (F_X9_many N v0 v1 S) (fun x3 T2 => ax_stl T2 v2 0 (Int32.toInt64 x3) fun T4 => some (0, T4)) (fun E9 T2 => if E9 = "java/lang/IllegalArgumentException" then (some (1, T2)) else (none))

def F_L_monk (N : Nat) (v0 : Nat) (v1 : Int32) (v2 : Int32) (v3 : Nat) (S : AxS) : Option (Int32 × AxS) :=
  ax_is S v0 9 <| axBC (F_X9_monk N v0 v1 v2 S) (fun x3 T2 => ax_stl T2 v3 0 (Int32.toInt64 x3) fun T4 => some (0, T4)) (fun E9 T2 => if E9 = "java/util/NoSuchElementException" then (some (1, T2)) else (if E9 = "java/lang/IllegalArgumentException" then (some (2, T2)) else (none)))

def F_L_village (N : Nat) (v0 : Nat) (v1 : Int32) (v2 : Int32) (v3 : Nat) (S : AxS) : Option (Int32 × AxS) :=
  ax_is S v0 9 <| axBC (F_X9_village N v0 v1 v2 S) (fun x3 T2 => ax_stl T2 v3 0 (Int32.toInt64 x3) fun T4 => some (0, T4)) (fun E9 T2 => if E9 = "java/util/NoSuchElementException" then (some (1, T2)) else (if E9 = "java/lang/IllegalArgumentException" then (some (2, T2)) else (none)))

def F_L_cell (N : Nat) (v0 : Nat) (v1 : Int32) (v2 : Nat) (S : AxS) : Option (Int32 × AxS) :=
  ax_is S v0 9 <| axBC (F_X9_cell N v0 v1 S) (fun x3 T2 => ax_stl T2 v2 0 (Int32.toInt64 x3) fun T4 => some (0, T4)) (fun E9 T2 => if E9 = "java/util/NoSuchElementException" then (some (1, T2)) else (none))

def F_L_heir (N : Nat) (v0 : Nat) (v1 : Int32) (v2 : Nat) (S : AxS) : Option (Int32 × AxS) :=
  ax_is S v0 9 <| axBC (F_X9_heir N v0 v1 S) (fun x3 T2 => ax_stl T2 v2 0 (Int32.toInt64 x3) fun T4 => some (0, T4)) (fun E9 T2 => if E9 = "java/util/NoSuchElementException" then (some (1, T2)) else (none))

def F_L_would (N : Nat) (v0 : Nat) (v1 : Int32) (v2 : Int32) (v3 : Int32) (v4 : Int32) (v5 : Int32) (v6 : Int32) (v7 : Int32) (v8 : Nat) (S : AxS) : Option (Int32 × AxS) :=
  ax_is S v0 9 <| axBC (F_X9_would N v0 v1 v2 v3 v4 v5 v6 v7 S) (fun x3 T2 => ax_stl T2 v8 0 (Int32.toInt64 x3) fun T4 => some (0, T4)) (fun E9 T2 => if E9 = "java/lang/IllegalArgumentException" then (some (1, T2)) else (none))

def F_L_noise (N : Nat) (v0 : Nat) (v1 : Int32) (v2 : Int32) (v3 : Nat) (S : AxS) : Option (Int32 × AxS) :=
  ax_is S v0 9 <| axBC (F_X9_noise N v0 v1 v2 S) (fun x3 T2 => ax_stl T2 v3 0 (Int32.toInt64 x3) fun T4 => some (0, T4)) (fun E9 T2 => if E9 = "java/util/NoSuchElementException" then (some (1, T2)) else (if E9 = "java/lang/IllegalArgumentException" then (some (2, T2)) else (none)))

def F_L_ahead (N : Nat) (v0 : Nat) (v1 : Int32) (v2 : Int32) (v3 : Nat) (S : AxS) : Option (Int32 × AxS) :=
  ax_is S v0 9 <| axBC (F_X9_ahead N v0 v1 v2 S) (fun x3 T2 => ax_stl T2 v3 0 (Int32.toInt64 x3) fun T4 => some (0, T4)) (fun E9 T2 => if E9 = "java/lang/IllegalArgumentException" then (some (1, T2)) else (none))

def F_L_loudest (N : Nat) (v0 : Nat) (v1 : Int32) (v2 : Nat) (S : AxS) : Option (Int32 × AxS) :=
  ax_is S v0 9 <| axBC (F_X9_loudest N v0 v1 S) (fun x3 T2 => ax_stl T2 v2 0 (Int32.toInt64 x3) fun T4 => some (0, T4)) (fun E9 T2 => if E9 = "java/lang/IllegalArgumentException" then (some (1, T2)) else (none))

def F_L_hush (N : Nat) (v0 : Nat) (v1 : Int32) (v2 : Nat) (S : AxS) : Option (Int32 × AxS) :=
  ax_is S v0 9 <| axBC (F_X9_hush N v0 v1 S) (fun x3 T2 => ax_stl T2 v2 0 (Int32.toInt64 x3) fun T4 => some (0, T4)) (fun E9 T2 => if E9 = "java/lang/IllegalArgumentException" then (some (1, T2)) else (none))

def F_L_plan (N : Nat) (v0 : Nat) (v1 : Int32) (v2 : Int32) (v3 : Int32) (v4 : Int32) (v5 : Nat) (S : AxS) : Option (Int32 × AxS) :=
  ax_is S v0 9 <| axBC (F_X9_plan N v0 v1 v2 v3 v4 S) (fun x3 T2 => ax_stl T2 v5 0 (Int32.toInt64 x3) fun T4 => some (0, T4)) (fun E9 T2 => if E9 = "java/lang/IllegalArgumentException" then (some (1, T2)) else (none))

def F_L_fits (N : Nat) (v0 : Nat) (v1 : Int32) (v2 : Nat) (S : AxS) : Option (Int32 × AxS) :=
  ax_is S v0 9 <| axBC (F_X9_fits N v0 v1 S) (fun x3 T2 => ax_stl T2 v2 0 (Int32.toInt64 x3) fun T4 => some (0, T4)) (fun E9 T2 => if E9 = "java/lang/IllegalArgumentException" then (some (1, T2)) else (none))

def F_L_count (N : Nat) (v0 : Nat) (v1 : Int32) (v2 : Nat) (S : AxS) : Option (Int32 × AxS) :=
  ax_is S v0 9 <| axBC (F_X9_count N v0 v1 S) (fun x3 T2 => ax_stl T2 v2 0 (Int32.toInt64 x3) fun T4 => some (0, T4)) (fun E9 T2 => if E9 = "java/lang/IllegalArgumentException" then (some (1, T2)) else (none))

def F_L_mistaken (N : Nat) (v0 : Nat) (v1 : Int32) (v2 : Int32) (v3 : Int32) (v4 : Int32) (v5 : Int32) (v6 : Int32) (v7 : Nat) (S : AxS) : Option (Int32 × AxS) :=
  ax_is S v0 9 <| axBC (F_X9_mistaken N v0 v1 v2 v3 v4 v5 v6 S) (fun x3 T2 => ax_stl T2 v7 0 x3 fun T4 => some (0, T4)) (fun E9 T2 => if E9 = "java/lang/IllegalArgumentException" then (some (1, T2)) else (none))

def F_L_best (N : Nat) (v0 : Nat) (v1 : Int32) (v2 : Int32) (v3 : Int32) (v4 : Nat) (S : AxS) : Option (Int32 × AxS) :=
  ax_is S v0 9 <| axBC (F_X9_best N v0 v1 v2 v3 S) (fun x3 T2 => ax_stl T2 v4 0 (Int32.toInt64 x3) fun T4 => some (0, T4)) (fun E9 T2 => if E9 = "java/lang/IllegalArgumentException" then (some (1, T2)) else (none))

def F_L_beds (N : Nat) (v0 : Nat) (v1 : Int32) (v2 : Nat) (S : AxS) : Option (Int32 × AxS) :=
  ax_is S v0 9 <| axBC (F_X9_beds N v0 v1 S) (fun x3 T2 => ax_stl T2 v2 0 (Int32.toInt64 x3) fun T4 => some (0, T4)) (fun E9 T2 => if E9 = "java/lang/IllegalArgumentException" then (some (1, T2)) else (none))

def F_L_bed (N : Nat) (v0 : Nat) (v1 : Int32) (v2 : Int32) (v3 : Nat) (S : AxS) : Option (Int32 × AxS) :=
  ax_is S v0 9 <| axBC (F_X9_bed N v0 v1 v2 S) (fun x3 T2 => ax_stl T2 v3 0 (Int32.toInt64 x3) fun T4 => some (0, T4)) (fun E9 T2 => if E9 = "java/util/NoSuchElementException" then (some (1, T2)) else (if E9 = "java/lang/IllegalArgumentException" then (some (2, T2)) else (none)))

def F_L_watch (N : Nat) (v0 : Nat) (v1 : Int32) (v2 : Int32) (v3 : Nat) (S : AxS) : Option (Int32 × AxS) :=
  ax_is S v0 9 <| axBC (F_X9_watch N v0 v1 v2 S) (fun x3 T2 => ax_stl T2 v3 0 (Int32.toInt64 x3) fun T4 => some (0, T4)) (fun E9 T2 => if E9 = "java/util/NoSuchElementException" then (some (1, T2)) else (if E9 = "java/lang/IllegalArgumentException" then (some (2, T2)) else (none)))

def F_L_heirs (N : Nat) (v0 : Nat) (v1 : Int32) (v2 : Int32) (v3 : Nat) (S : AxS) : Option (Int32 × AxS) :=
  ax_is S v0 9 <| axBC (F_X9_heirs N v0 v1 v2 S) (fun x3 T2 => ax_stl T2 v3 0 (Int32.toInt64 x3) fun T4 => some (0, T4)) (fun E9 T2 => if E9 = "java/lang/IllegalArgumentException" then (some (1, T2)) else (none))

def F_L_sleepers (N : Nat) (v0 : Nat) (v1 : Int32) (v2 : Nat) (S : AxS) : Option (Int32 × AxS) :=
  ax_is S v0 9 <| axBC (F_X9_sleepers N v0 v1 S) (fun x3 T2 => ax_stl T2 v2 0 (Int32.toInt64 x3) fun T4 => some (0, T4)) (fun E9 T2 => if E9 = "java/lang/IllegalArgumentException" then (some (1, T2)) else (none))

def F_L_grows (N : Nat) (v0 : Nat) (v1 : Int32) (v2 : Nat) (S : AxS) : Option (Int32 × AxS) :=
  ax_is S v0 9 <| axBC (F_X9_grows N v0 v1 S) (fun x3 T2 => ax_stl T2 v2 0 (Int32.toInt64 x3) fun T4 => some (0, T4)) (fun E9 T2 => if E9 = "java/lang/IllegalArgumentException" then (some (1, T2)) else (none))

def F_L_bears (N : Nat) (v0 : Nat) (v1 : Int32) (v2 : Int32) (v3 : Nat) (S : AxS) : Option (Int32 × AxS) :=
  ax_is S v0 9 <| axBC (F_X9_bears N v0 v1 v2 S) (fun x3 T2 => ax_stl T2 v3 0 (Int32.toInt64 x3) fun T4 => some (0, T4)) (fun E9 T2 => if E9 = "java/util/NoSuchElementException" then (some (1, T2)) else (none))

def F_L_level (N : Nat) (v0 : Nat) (v1 : Int32) (v2 : Nat) (S : AxS) : Option (Int32 × AxS) :=
  ax_is S v0 9 <| axBC (F_X9_level N v0 v1 S) (fun x3 T2 => ax_stl T2 v2 0 (Int32.toInt64 x3) fun T4 => some (0, T4)) (fun E9 T2 => if E9 = "java/lang/IllegalArgumentException" then (some (1, T2)) else (none))

def F_L_years (N : Nat) (v0 : Nat) (v1 : Int32) (v2 : Int32) (v3 : Int32) (v4 : Int32) (v5 : Int32) (v6 : Int32) (v7 : Nat) (S : AxS) : Option (Int32 × AxS) :=
  ax_is S v0 9 <| axBC (F_X9_years N v0 v1 v2 v3 v4 v5 v6 S) (fun x3 T2 => ax_stl T2 v7 0 (Int32.toInt64 x3) fun T4 => some (0, T4)) (fun E9 T2 => if E9 = "java/lang/IllegalArgumentException" then (some (1, T2)) else (none))

def F_L_span (N : Nat) (v0 : Nat) (v1 : Int32) (v2 : Int32) (v3 : Int32) (v4 : Int32) (v5 : Int32) (v6 : Int32) (v7 : Int32) (v8 : Nat) (S : AxS) : Option (Int32 × AxS) :=
  ax_is S v0 9 <| axBC (F_X9_span N v0 v1 v2 v3 v4 v5 v6 v7 S) (fun x3 T2 => ax_stl T2 v8 0 (Int32.toInt64 x3) fun T4 => some (0, T4)) (fun E9 T2 => if E9 = "java/lang/IllegalArgumentException" then (some (1, T2)) else (none))
