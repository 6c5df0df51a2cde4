section
variable {G : o_G} {own : String} {cc : ByteArray} {ret : Option FieldType} {nL kd : Nat} {En : o_X → Prop} {k' : Nat} {σ : o_S} {pc : Nat} {L : List (Nat × Value)} {st : List Value}
set_option maxRecDepth 20000 in
theorem oi_X0 : ∀ w ∈ u_ws RX0 TX0 9, w ∈ o_WS := by decide +kernel
set_option maxRecDepth 20000 in
theorem oi_X1 : ∀ w ∈ u_ws RX1 TX1 13, w ∈ o_WS := by decide +kernel
set_option maxRecDepth 20000 in
theorem oi_X2 : ∀ w ∈ u_ws RX2 TX2 2, w ∈ o_WS := by decide +kernel
set_option maxRecDepth 20000 in
theorem oi_X3 : ∀ w ∈ u_ws RX3 TX3 2, w ∈ o_WS := by decide +kernel
set_option maxRecDepth 20000 in
theorem oi_X4 : ∀ w ∈ u_ws RX4 TX4 2, w ∈ o_WS := by decide +kernel
set_option maxRecDepth 20000 in
theorem oi_X5 : ∀ w ∈ u_ws RX5 TX5 3, w ∈ o_WS := by decide +kernel
set_option maxRecDepth 20000 in
theorem oi_X6 : ∀ w ∈ u_ws RX6 TX6 7, w ∈ o_WS := by decide +kernel
set_option maxRecDepth 20000 in
theorem oi_X7 : ∀ w ∈ u_ws RX7 TX7 32, w ∈ o_WS := by decide +kernel
theorem zg_X6_text {i : Nat} (hw : Cond.fieldLink own i "OffsideParser" "text" "LOffsideParser$Row;" ∈ o_WS) (hd : decode cc pc = .ok (.getfield i, 3)) (k : o_Z G own cc ret nL kd En k' σ (pc + 3) L (.ref (g_ad G 7) :: st)) : o_Z G own cc ret nL kd En k' σ pc L (.ref (g_ad G 0) :: st) :=
  ⟨k.1, fun X C E H locs ls cells slots hP hS hl h1 h2 => by
    obtain ⟨ra, gf, hr, hp, hq⟩ := id hP
    exact va_get (D := g_D G) (ci := 6) (C := RX6) (T := TX6) (N := 7) C.1 C.2.1 C.2.2.2.2.2.1 oi_X6 C.2.2.2.2.1 C.2.2.2.2.2.2.2.1.1 hp 0 rfl rfl 0 (by decide) (C.2.2.2.2.2.1 _ hw) (fun _ h => h) rfl hd (k.2 X C E H locs ls cells slots hP hS hl h1 h2)⟩
theorem zg_X6_unpacked {i : Nat} (hw : Cond.fieldLink own i "OffsideParser" "unpacked" "LOffsideParser$Row;" ∈ o_WS) (hd : decode cc pc = .ok (.getfield i, 3)) (k : o_Z G own cc ret nL kd En k' σ (pc + 3) L (.ref (g_ad G 8) :: st)) : o_Z G own cc ret nL kd En k' σ pc L (.ref (g_ad G 0) :: st) :=
  ⟨k.1, fun X C E H locs ls cells slots hP hS hl h1 h2 => by
    obtain ⟨ra, gf, hr, hp, hq⟩ := id hP
    exact va_get (D := g_D G) (ci := 6) (C := RX6) (T := TX6) (N := 7) C.1 C.2.1 C.2.2.2.2.2.1 oi_X6 C.2.2.2.2.1 C.2.2.2.2.2.2.2.1.1 hp 0 rfl rfl 1 (by decide) (C.2.2.2.2.2.1 _ hw) (fun _ h => h) rfl hd (k.2 X C E H locs ls cells slots hP hS hl h1 h2)⟩
theorem zg_X6_repairs {i : Nat} (hw : Cond.fieldLink own i "OffsideParser" "repairs" "LOffsideParser$Repairs;" ∈ o_WS) (hd : decode cc pc = .ok (.getfield i, 3)) (k : o_Z G own cc ret nL kd En k' σ (pc + 3) L (.ref (g_ad G 1) :: st)) : o_Z G own cc ret nL kd En k' σ pc L (.ref (g_ad G 0) :: st) :=
  ⟨k.1, fun X C E H locs ls cells slots hP hS hl h1 h2 => by
    obtain ⟨ra, gf, hr, hp, hq⟩ := id hP
    exact va_get (D := g_D G) (ci := 6) (C := RX6) (T := TX6) (N := 7) C.1 C.2.1 C.2.2.2.2.2.1 oi_X6 C.2.2.2.2.1 C.2.2.2.2.2.2.2.1.1 hp 0 rfl rfl 2 (by decide) (C.2.2.2.2.2.1 _ hw) (fun _ h => h) rfl hd (k.2 X C E H locs ls cells slots hP hS hl h1 h2)⟩
theorem zg_X6_tree {i : Nat} (hw : Cond.fieldLink own i "OffsideParser" "tree" "LOffsideParser$Tree;" ∈ o_WS) (hd : decode cc pc = .ok (.getfield i, 3)) (k : o_Z G own cc ret nL kd En k' σ (pc + 3) L (.ref (g_ad G 2) :: st)) : o_Z G own cc ret nL kd En k' σ pc L (.ref (g_ad G 0) :: st) :=
  ⟨k.1, fun X C E H locs ls cells slots hP hS hl h1 h2 => by
    obtain ⟨ra, gf, hr, hp, hq⟩ := id hP
    exact va_get (D := g_D G) (ci := 6) (C := RX6) (T := TX6) (N := 7) C.1 C.2.1 C.2.2.2.2.2.1 oi_X6 C.2.2.2.2.1 C.2.2.2.2.2.2.2.1.1 hp 0 rfl rfl 3 (by decide) (C.2.2.2.2.2.1 _ hw) (fun _ h => h) rfl hd (k.2 X C E H locs ls cells slots hP hS hl h1 h2)⟩
theorem zg_X6_lexer {i : Nat} (hw : Cond.fieldLink own i "OffsideParser" "lexer" "LOffsideParser$Lexer;" ∈ o_WS) (hd : decode cc pc = .ok (.getfield i, 3)) (k : o_Z G own cc ret nL kd En k' σ (pc + 3) L (.ref (g_ad G 3) :: st)) : o_Z G own cc ret nL kd En k' σ pc L (.ref (g_ad G 0) :: st) :=
  ⟨k.1, fun X C E H locs ls cells slots hP hS hl h1 h2 => by
    obtain ⟨ra, gf, hr, hp, hq⟩ := id hP
    exact va_get (D := g_D G) (ci := 6) (C := RX6) (T := TX6) (N := 7) C.1 C.2.1 C.2.2.2.2.2.1 oi_X6 C.2.2.2.2.1 C.2.2.2.2.2.2.2.1.1 hp 0 rfl rfl 4 (by decide) (C.2.2.2.2.2.1 _ hw) (fun _ h => h) rfl hd (k.2 X C E H locs ls cells slots hP hS hl h1 h2)⟩
theorem zg_X6_builder {i : Nat} (hw : Cond.fieldLink own i "OffsideParser" "builder" "LOffsideParser$Builder;" ∈ o_WS) (hd : decode cc pc = .ok (.getfield i, 3)) (k : o_Z G own cc ret nL kd En k' σ (pc + 3) L (.ref (g_ad G 4) :: st)) : o_Z G own cc ret nL kd En k' σ pc L (.ref (g_ad G 0) :: st) :=
  ⟨k.1, fun X C E H locs ls cells slots hP hS hl h1 h2 => by
    obtain ⟨ra, gf, hr, hp, hq⟩ := id hP
    exact va_get (D := g_D G) (ci := 6) (C := RX6) (T := TX6) (N := 7) C.1 C.2.1 C.2.2.2.2.2.1 oi_X6 C.2.2.2.2.1 C.2.2.2.2.2.2.2.1.1 hp 0 rfl rfl 5 (by decide) (C.2.2.2.2.2.1 _ hw) (fun _ h => h) rfl hd (k.2 X C E H locs ls cells slots hP hS hl h1 h2)⟩
theorem zg_X6_printer {i : Nat} (hw : Cond.fieldLink own i "OffsideParser" "printer" "LOffsideParser$Printer;" ∈ o_WS) (hd : decode cc pc = .ok (.getfield i, 3)) (k : o_Z G own cc ret nL kd En k' σ (pc + 3) L (.ref (g_ad G 5) :: st)) : o_Z G own cc ret nL kd En k' σ pc L (.ref (g_ad G 0) :: st) :=
  ⟨k.1, fun X C E H locs ls cells slots hP hS hl h1 h2 => by
    obtain ⟨ra, gf, hr, hp, hq⟩ := id hP
    exact va_get (D := g_D G) (ci := 6) (C := RX6) (T := TX6) (N := 7) C.1 C.2.1 C.2.2.2.2.2.1 oi_X6 C.2.2.2.2.1 C.2.2.2.2.2.2.2.1.1 hp 0 rfl rfl 6 (by decide) (C.2.2.2.2.2.1 _ hw) (fun _ h => h) rfl hd (k.2 X C E H locs ls cells slots hP hS hl h1 h2)⟩
theorem zg_X3_cells {i : Nat} (hw : Cond.fieldLink own i "OffsideParser$Repairs" "cells" "LOffsideParser$Row;" ∈ o_WS) (hd : decode cc pc = .ok (.getfield i, 3)) (k : o_Z G own cc ret nL kd En k' σ (pc + 3) L (.ref (g_ad G 9) :: st)) : o_Z G own cc ret nL kd En k' σ pc L (.ref (g_ad G 1) :: st) :=
  ⟨k.1, fun X C E H locs ls cells slots hP hS hl h1 h2 => by
    obtain ⟨ra, gf, hr, hp, hq⟩ := id hP
    exact va_get (D := g_D G) (ci := 3) (C := RX3) (T := TX3) (N := 2) C.1 C.2.1 C.2.2.2.2.2.1 oi_X3 C.2.2.2.2.1 C.2.2.2.2.2.2.2.1.1 hp 1 rfl rfl 0 (by decide) (C.2.2.2.2.2.1 _ hw) (fun _ h => h) rfl hd (k.2 X C E H locs ls cells slots hP hS hl h1 h2)⟩
theorem zg_X3_count {i : Nat} (hw : Cond.fieldLink own i "OffsideParser$Repairs" "count" "I" ∈ o_WS) (hd : decode cc pc = .ok (.getfield i, 3)) (k : o_Z G own cc ret nL kd En k' σ (pc + 3) L (.int (o_F σ 0) :: st)) : o_Z G own cc ret nL kd En k' σ pc L (.ref (g_ad G 1) :: st) :=
  ⟨k.1, fun X C E H locs ls cells slots hP hS hl h1 h2 => by
    obtain ⟨ra, gf, hr, hp, hq⟩ := id hP
    exact va_get (D := g_D G) (ci := 3) (C := RX3) (T := TX3) (N := 2) C.1 C.2.1 C.2.2.2.2.2.1 oi_X3 C.2.2.2.2.1 C.2.2.2.2.2.2.2.1.1 hp 1 rfl rfl 1 (by decide) (C.2.2.2.2.2.1 _ hw) (fun _ h => h) rfl hd (k.2 X C E H locs ls cells slots hP hS hl h1 h2)⟩
theorem zp_X3_count {i : Nat} {v : Int32} (hw : Cond.fieldLink own i "OffsideParser$Repairs" "count" "I" ∈ o_WS) (hd : decode cc pc = .ok (.putfield i, 3)) (k : o_Z G own cc ret nL kd En k' (o_setF σ 0 v) (pc + 3) L st) : o_Z G own cc ret nL kd En k' σ pc L (.int v :: .ref (g_ad G 1) :: st) :=
  ⟨k.1, fun X C E H locs ls cells slots hP hS hl h1 h2 => by
    obtain ⟨ra, gf, hr, hp, hq⟩ := hP
    exact va_put (D := g_D G) (ci := 3) (v := .int v) (ty := .int) (C := RX3) (T := TX3) (N := 2) C.1 C.2.1 C.2.2.2.2.2.1 oi_X3 tyX3 tyX3_ok nmX3 C.2.2.2.2.1 C.2.2.2.2.2.2.2.1.1 hp hq hS 1 rfl rfl 1 (by decide) (C.2.2.2.2.2.1 _ hw) (fun _ h => h) rfl (by decide +kernel) rfl rfl (Nat.le_of_ble_eq_true rfl) hd (fun H1 locs1 a b c => k.2 X C E H1 locs1 ls cells slots ⟨ra, gf, hr, a, b⟩ c hl h1 h2)⟩
theorem zg_X5_cells {i : Nat} (hw : Cond.fieldLink own i "OffsideParser$Tree" "cells" "LOffsideParser$Row;" ∈ o_WS) (hd : decode cc pc = .ok (.getfield i, 3)) (k : o_Z G own cc ret nL kd En k' σ (pc + 3) L (.ref (g_ad G 10) :: st)) : o_Z G own cc ret nL kd En k' σ pc L (.ref (g_ad G 2) :: st) :=
  ⟨k.1, fun X C E H locs ls cells slots hP hS hl h1 h2 => by
    obtain ⟨ra, gf, hr, hp, hq⟩ := id hP
    exact va_get (D := g_D G) (ci := 5) (C := RX5) (T := TX5) (N := 3) C.1 C.2.1 C.2.2.2.2.2.1 oi_X5 C.2.2.2.2.1 C.2.2.2.2.2.2.2.1.1 hp 2 rfl rfl 0 (by decide) (C.2.2.2.2.2.1 _ hw) (fun _ h => h) rfl hd (k.2 X C E H locs ls cells slots hP hS hl h1 h2)⟩
theorem zg_X5_letters {i : Nat} (hw : Cond.fieldLink own i "OffsideParser$Tree" "letters" "LOffsideParser$Row;" ∈ o_WS) (hd : decode cc pc = .ok (.getfield i, 3)) (k : o_Z G own cc ret nL kd En k' σ (pc + 3) L (.ref (g_ad G 11) :: st)) : o_Z G own cc ret nL kd En k' σ pc L (.ref (g_ad G 2) :: st) :=
  ⟨k.1, fun X C E H locs ls cells slots hP hS hl h1 h2 => by
    obtain ⟨ra, gf, hr, hp, hq⟩ := id hP
    exact va_get (D := g_D G) (ci := 5) (C := RX5) (T := TX5) (N := 3) C.1 C.2.1 C.2.2.2.2.2.1 oi_X5 C.2.2.2.2.1 C.2.2.2.2.2.2.2.1.1 hp 2 rfl rfl 1 (by decide) (C.2.2.2.2.2.1 _ hw) (fun _ h => h) rfl hd (k.2 X C E H locs ls cells slots hP hS hl h1 h2)⟩
theorem zg_X5_count {i : Nat} (hw : Cond.fieldLink own i "OffsideParser$Tree" "count" "I" ∈ o_WS) (hd : decode cc pc = .ok (.getfield i, 3)) (k : o_Z G own cc ret nL kd En k' σ (pc + 3) L (.int (o_F σ 1) :: st)) : o_Z G own cc ret nL kd En k' σ pc L (.ref (g_ad G 2) :: st) :=
  ⟨k.1, fun X C E H locs ls cells slots hP hS hl h1 h2 => by
    obtain ⟨ra, gf, hr, hp, hq⟩ := id hP
    exact va_get (D := g_D G) (ci := 5) (C := RX5) (T := TX5) (N := 3) C.1 C.2.1 C.2.2.2.2.2.1 oi_X5 C.2.2.2.2.1 C.2.2.2.2.2.2.2.1.1 hp 2 rfl rfl 2 (by decide) (C.2.2.2.2.2.1 _ hw) (fun _ h => h) rfl hd (k.2 X C E H locs ls cells slots hP hS hl h1 h2)⟩
theorem zp_X5_count {i : Nat} {v : Int32} (hw : Cond.fieldLink own i "OffsideParser$Tree" "count" "I" ∈ o_WS) (hd : decode cc pc = .ok (.putfield i, 3)) (k : o_Z G own cc ret nL kd En k' (o_setF σ 1 v) (pc + 3) L st) : o_Z G own cc ret nL kd En k' σ pc L (.int v :: .ref (g_ad G 2) :: st) :=
  ⟨k.1, fun X C E H locs ls cells slots hP hS hl h1 h2 => by
    obtain ⟨ra, gf, hr, hp, hq⟩ := hP
    exact va_put (D := g_D G) (ci := 5) (v := .int v) (ty := .int) (C := RX5) (T := TX5) (N := 3) C.1 C.2.1 C.2.2.2.2.2.1 oi_X5 tyX5 tyX5_ok nmX5 C.2.2.2.2.1 C.2.2.2.2.2.2.2.1.1 hp hq hS 2 rfl rfl 2 (by decide) (C.2.2.2.2.2.1 _ hw) (fun _ h => h) rfl (by decide +kernel) rfl rfl (Nat.le_of_ble_eq_true rfl) hd (fun H1 locs1 a b c => k.2 X C E H1 locs1 ls cells slots ⟨ra, gf, hr, a, b⟩ c hl h1 h2)⟩
theorem zg_X1_text {i : Nat} (hw : Cond.fieldLink own i "OffsideParser$Lexer" "text" "LOffsideParser$Row;" ∈ o_WS) (hd : decode cc pc = .ok (.getfield i, 3)) (k : o_Z G own cc ret nL kd En k' σ (pc + 3) L (.ref (g_ad G 7) :: st)) : o_Z G own cc ret nL kd En k' σ pc L (.ref (g_ad G 3) :: st) :=
  ⟨k.1, fun X C E H locs ls cells slots hP hS hl h1 h2 => by
    obtain ⟨ra, gf, hr, hp, hq⟩ := id hP
    exact va_get (D := g_D G) (ci := 1) (C := RX1) (T := TX1) (N := 13) C.1 C.2.1 C.2.2.2.2.2.1 oi_X1 C.2.2.2.2.1 C.2.2.2.2.2.2.2.1.1 hp 3 rfl rfl 0 (by decide) (C.2.2.2.2.2.1 _ hw) (fun _ h => h) rfl hd (k.2 X C E H locs ls cells slots hP hS hl h1 h2)⟩
theorem zg_X1_repairs {i : Nat} (hw : Cond.fieldLink own i "OffsideParser$Lexer" "repairs" "LOffsideParser$Repairs;" ∈ o_WS) (hd : decode cc pc = .ok (.getfield i, 3)) (k : o_Z G own cc ret nL kd En k' σ (pc + 3) L (.ref (g_ad G 1) :: st)) : o_Z G own cc ret nL kd En k' σ pc L (.ref (g_ad G 3) :: st) :=
  ⟨k.1, fun X C E H locs ls cells slots hP hS hl h1 h2 => by
    obtain ⟨ra, gf, hr, hp, hq⟩ := id hP
    exact va_get (D := g_D G) (ci := 1) (C := RX1) (T := TX1) (N := 13) C.1 C.2.1 C.2.2.2.2.2.1 oi_X1 C.2.2.2.2.1 C.2.2.2.2.2.2.2.1.1 hp 3 rfl rfl 1 (by decide) (C.2.2.2.2.2.1 _ hw) (fun _ h => h) rfl hd (k.2 X C E H locs ls cells slots hP hS hl h1 h2)⟩
theorem zg_X1_position {i : Nat} (hw : Cond.fieldLink own i "OffsideParser$Lexer" "position" "I" ∈ o_WS) (hd : decode cc pc = .ok (.getfield i, 3)) (k : o_Z G own cc ret nL kd En k' σ (pc + 3) L (.int (o_F σ 2) :: st)) : o_Z G own cc ret nL kd En k' σ pc L (.ref (g_ad G 3) :: st) :=
  ⟨k.1, fun X C E H locs ls cells slots hP hS hl h1 h2 => by
    obtain ⟨ra, gf, hr, hp, hq⟩ := id hP
    exact va_get (D := g_D G) (ci := 1) (C := RX1) (T := TX1) (N := 13) C.1 C.2.1 C.2.2.2.2.2.1 oi_X1 C.2.2.2.2.1 C.2.2.2.2.2.2.2.1.1 hp 3 rfl rfl 2 (by decide) (C.2.2.2.2.2.1 _ hw) (fun _ h => h) rfl hd (k.2 X C E H locs ls cells slots hP hS hl h1 h2)⟩
theorem zn_X1_position {i : Nat} {host : String} (hw : (own, i, "OffsideParser$Lexer", "position", "I", host) ∈ o_nestF) (hd : decode cc pc = .ok (.getfield i, 3)) (k : o_Z G own cc ret nL kd En k' σ (pc + 3) L (.int (o_F σ 2) :: st)) : o_Z G own cc ret nL kd En k' σ pc L (.ref (g_ad G 3) :: st) :=
  ⟨k.1, fun X C E H locs ls cells slots hP hS hl h1 h2 => by
    obtain ⟨ra, gf, hr, hp, hq⟩ := id hP
    exact va_getN (D := g_D G) (ci := 1) (C := RX1) (T := TX1) (N := 13) C.1 C.2.1 C.2.2.2.2.2.1 oi_X1 C.2.2.2.2.1 C.2.2.2.2.2.2.2.1.1 hp 3 rfl rfl 2 (by decide) (va_Nw.use rfl (C.2.2.2.2.2.2.2.1.2.2.2.1 _ hw)) (fun _ h => h) rfl hd (k.2 X C E H locs ls cells slots hP hS hl h1 h2)⟩
theorem zp_X1_position {i : Nat} {v : Int32} (hw : Cond.fieldLink own i "OffsideParser$Lexer" "position" "I" ∈ o_WS) (hd : decode cc pc = .ok (.putfield i, 3)) (k : o_Z G own cc ret nL kd En k' (o_setF σ 2 v) (pc + 3) L st) : o_Z G own cc ret nL kd En k' σ pc L (.int v :: .ref (g_ad G 3) :: st) :=
  ⟨k.1, fun X C E H locs ls cells slots hP hS hl h1 h2 => by
    obtain ⟨ra, gf, hr, hp, hq⟩ := hP
    exact va_put (D := g_D G) (ci := 1) (v := .int v) (ty := .int) (C := RX1) (T := TX1) (N := 13) C.1 C.2.1 C.2.2.2.2.2.1 oi_X1 tyX1 tyX1_ok nmX1 C.2.2.2.2.1 C.2.2.2.2.2.2.2.1.1 hp hq hS 3 rfl rfl 2 (by decide) (C.2.2.2.2.2.1 _ hw) (fun _ h => h) rfl (by decide +kernel) rfl rfl (Nat.le_of_ble_eq_true rfl) hd (fun H1 locs1 a b c => k.2 X C E H1 locs1 ls cells slots ⟨ra, gf, hr, a, b⟩ c hl h1 h2)⟩
theorem zg_X1_lineNumber {i : Nat} (hw : Cond.fieldLink own i "OffsideParser$Lexer" "lineNumber" "I" ∈ o_WS) (hd : decode cc pc = .ok (.getfield i, 3)) (k : o_Z G own cc ret nL kd En k' σ (pc + 3) L (.int (o_F σ 3) :: st)) : o_Z G own cc ret nL kd En k' σ pc L (.ref (g_ad G 3) :: st) :=
  ⟨k.1, fun X C E H locs ls cells slots hP hS hl h1 h2 => by
    obtain ⟨ra, gf, hr, hp, hq⟩ := id hP
    exact va_get (D := g_D G) (ci := 1) (C := RX1) (T := TX1) (N := 13) C.1 C.2.1 C.2.2.2.2.2.1 oi_X1 C.2.2.2.2.1 C.2.2.2.2.2.2.2.1.1 hp 3 rfl rfl 3 (by decide) (C.2.2.2.2.2.1 _ hw) (fun _ h => h) rfl hd (k.2 X C E H locs ls cells slots hP hS hl h1 h2)⟩
theorem zp_X1_lineNumber {i : Nat} {v : Int32} (hw : Cond.fieldLink own i "OffsideParser$Lexer" "lineNumber" "I" ∈ o_WS) (hd : decode cc pc = .ok (.putfield i, 3)) (k : o_Z G own cc ret nL kd En k' (o_setF σ 3 v) (pc + 3) L st) : o_Z G own cc ret nL kd En k' σ pc L (.int v :: .ref (g_ad G 3) :: st) :=
  ⟨k.1, fun X C E H locs ls cells slots hP hS hl h1 h2 => by
    obtain ⟨ra, gf, hr, hp, hq⟩ := hP
    exact va_put (D := g_D G) (ci := 1) (v := .int v) (ty := .int) (C := RX1) (T := TX1) (N := 13) C.1 C.2.1 C.2.2.2.2.2.1 oi_X1 tyX1 tyX1_ok nmX1 C.2.2.2.2.1 C.2.2.2.2.2.2.2.1.1 hp hq hS 3 rfl rfl 3 (by decide) (C.2.2.2.2.2.1 _ hw) (fun _ h => h) rfl (by decide +kernel) rfl rfl (Nat.le_of_ble_eq_true rfl) hd (fun H1 locs1 a b c => k.2 X C E H1 locs1 ls cells slots ⟨ra, gf, hr, a, b⟩ c hl h1 h2)⟩
theorem zg_X1_lineStart {i : Nat} (hw : Cond.fieldLink own i "OffsideParser$Lexer" "lineStart" "I" ∈ o_WS) (hd : decode cc pc = .ok (.getfield i, 3)) (k : o_Z G own cc ret nL kd En k' σ (pc + 3) L (.int (o_F σ 4) :: st)) : o_Z G own cc ret nL kd En k' σ pc L (.ref (g_ad G 3) :: st) :=
  ⟨k.1, fun X C E H locs ls cells slots hP hS hl h1 h2 => by
    obtain ⟨ra, gf, hr, hp, hq⟩ := id hP
    exact va_get (D := g_D G) (ci := 1) (C := RX1) (T := TX1) (N := 13) C.1 C.2.1 C.2.2.2.2.2.1 oi_X1 C.2.2.2.2.1 C.2.2.2.2.2.2.2.1.1 hp 3 rfl rfl 4 (by decide) (C.2.2.2.2.2.1 _ hw) (fun _ h => h) rfl hd (k.2 X C E H locs ls cells slots hP hS hl h1 h2)⟩
theorem zp_X1_lineStart {i : Nat} {v : Int32} (hw : Cond.fieldLink own i "OffsideParser$Lexer" "lineStart" "I" ∈ o_WS) (hd : decode cc pc = .ok (.putfield i, 3)) (k : o_Z G own cc ret nL kd En k' (o_setF σ 4 v) (pc + 3) L st) : o_Z G own cc ret nL kd En k' σ pc L (.int v :: .ref (g_ad G 3) :: st) :=
  ⟨k.1, fun X C E H locs ls cells slots hP hS hl h1 h2 => by
    obtain ⟨ra, gf, hr, hp, hq⟩ := hP
    exact va_put (D := g_D G) (ci := 1) (v := .int v) (ty := .int) (C := RX1) (T := TX1) (N := 13) C.1 C.2.1 C.2.2.2.2.2.1 oi_X1 tyX1 tyX1_ok nmX1 C.2.2.2.2.1 C.2.2.2.2.2.2.2.1.1 hp hq hS 3 rfl rfl 4 (by decide) (C.2.2.2.2.2.1 _ hw) (fun _ h => h) rfl (by decide +kernel) rfl rfl (Nat.le_of_ble_eq_true rfl) hd (fun H1 locs1 a b c => k.2 X C E H1 locs1 ls cells slots ⟨ra, gf, hr, a, b⟩ c hl h1 h2)⟩
theorem zg_X1_inComment {i : Nat} (hw : Cond.fieldLink own i "OffsideParser$Lexer" "inComment" "Z" ∈ o_WS) (hd : decode cc pc = .ok (.getfield i, 3)) (k : o_Z G own cc ret nL kd En k' σ (pc + 3) L (.int (o_F σ 5) :: st)) : o_Z G own cc ret nL kd En k' σ pc L (.ref (g_ad G 3) :: st) :=
  ⟨k.1, fun X C E H locs ls cells slots hP hS hl h1 h2 => by
    obtain ⟨ra, gf, hr, hp, hq⟩ := id hP
    exact va_get (D := g_D G) (ci := 1) (C := RX1) (T := TX1) (N := 13) C.1 C.2.1 C.2.2.2.2.2.1 oi_X1 C.2.2.2.2.1 C.2.2.2.2.2.2.2.1.1 hp 3 rfl rfl 5 (by decide) (C.2.2.2.2.2.1 _ hw) (fun _ h => h) rfl hd (k.2 X C E H locs ls cells slots hP hS hl h1 h2)⟩
theorem zp_X1_inComment {i : Nat} {v : Int32} (hb : v = 0 ∨ v = 1) (hw : Cond.fieldLink own i "OffsideParser$Lexer" "inComment" "Z" ∈ o_WS) (hd : decode cc pc = .ok (.putfield i, 3)) (k : o_Z G own cc ret nL kd En k' (o_setF σ 5 v) (pc + 3) L st) : o_Z G own cc ret nL kd En k' σ pc L (.int v :: .ref (g_ad G 3) :: st) :=
  ⟨k.1, fun X C E H locs ls cells slots hP hS hl h1 h2 => by
    obtain ⟨ra, gf, hr, hp, hq⟩ := hP
    exact va_put (D := g_D G) (ci := 1) (v := .int v) (ty := .boolean) (C := RX1) (T := TX1) (N := 13) C.1 C.2.1 C.2.2.2.2.2.1 oi_X1 tyX1 tyX1_ok nmX1 C.2.2.2.2.1 C.2.2.2.2.2.2.2.1.1 hp hq hS 3 rfl rfl 5 (by decide) (C.2.2.2.2.2.1 _ hw) (fun _ h => h) rfl (by decide +kernel) (by rcases hb with rfl | rfl <;> rfl) (by rcases hb with rfl | rfl <;> rfl) (Nat.le_of_ble_eq_true rfl) hd (fun H1 locs1 a b c => k.2 X C E H1 locs1 ls cells slots ⟨ra, gf, hr, a, b⟩ c hl h1 h2)⟩
theorem zg_X1_joinsNextLine {i : Nat} (hw : Cond.fieldLink own i "OffsideParser$Lexer" "joinsNextLine" "Z" ∈ o_WS) (hd : decode cc pc = .ok (.getfield i, 3)) (k : o_Z G own cc ret nL kd En k' σ (pc + 3) L (.int (o_F σ 6) :: st)) : o_Z G own cc ret nL kd En k' σ pc L (.ref (g_ad G 3) :: st) :=
  ⟨k.1, fun X C E H locs ls cells slots hP hS hl h1 h2 => by
    obtain ⟨ra, gf, hr, hp, hq⟩ := id hP
    exact va_get (D := g_D G) (ci := 1) (C := RX1) (T := TX1) (N := 13) C.1 C.2.1 C.2.2.2.2.2.1 oi_X1 C.2.2.2.2.1 C.2.2.2.2.2.2.2.1.1 hp 3 rfl rfl 6 (by decide) (C.2.2.2.2.2.1 _ hw) (fun _ h => h) rfl hd (k.2 X C E H locs ls cells slots hP hS hl h1 h2)⟩
theorem zp_X1_joinsNextLine {i : Nat} {v : Int32} (hb : v = 0 ∨ v = 1) (hw : Cond.fieldLink own i "OffsideParser$Lexer" "joinsNextLine" "Z" ∈ o_WS) (hd : decode cc pc = .ok (.putfield i, 3)) (k : o_Z G own cc ret nL kd En k' (o_setF σ 6 v) (pc + 3) L st) : o_Z G own cc ret nL kd En k' σ pc L (.int v :: .ref (g_ad G 3) :: st) :=
  ⟨k.1, fun X C E H locs ls cells slots hP hS hl h1 h2 => by
    obtain ⟨ra, gf, hr, hp, hq⟩ := hP
    exact va_put (D := g_D G) (ci := 1) (v := .int v) (ty := .boolean) (C := RX1) (T := TX1) (N := 13) C.1 C.2.1 C.2.2.2.2.2.1 oi_X1 tyX1 tyX1_ok nmX1 C.2.2.2.2.1 C.2.2.2.2.2.2.2.1.1 hp hq hS 3 rfl rfl 6 (by decide) (C.2.2.2.2.2.1 _ hw) (fun _ h => h) rfl (by decide +kernel) (by rcases hb with rfl | rfl <;> rfl) (by rcases hb with rfl | rfl <;> rfl) (Nat.le_of_ble_eq_true rfl) hd (fun H1 locs1 a b c => k.2 X C E H1 locs1 ls cells slots ⟨ra, gf, hr, a, b⟩ c hl h1 h2)⟩
theorem zg_X1_firstIsGone {i : Nat} (hw : Cond.fieldLink own i "OffsideParser$Lexer" "firstIsGone" "Z" ∈ o_WS) (hd : decode cc pc = .ok (.getfield i, 3)) (k : o_Z G own cc ret nL kd En k' σ (pc + 3) L (.int (o_F σ 7) :: st)) : o_Z G own cc ret nL kd En k' σ pc L (.ref (g_ad G 3) :: st) :=
  ⟨k.1, fun X C E H locs ls cells slots hP hS hl h1 h2 => by
    obtain ⟨ra, gf, hr, hp, hq⟩ := id hP
    exact va_get (D := g_D G) (ci := 1) (C := RX1) (T := TX1) (N := 13) C.1 C.2.1 C.2.2.2.2.2.1 oi_X1 C.2.2.2.2.1 C.2.2.2.2.2.2.2.1.1 hp 3 rfl rfl 7 (by decide) (C.2.2.2.2.2.1 _ hw) (fun _ h => h) rfl hd (k.2 X C E H locs ls cells slots hP hS hl h1 h2)⟩
theorem zp_X1_firstIsGone {i : Nat} {v : Int32} (hb : v = 0 ∨ v = 1) (hw : Cond.fieldLink own i "OffsideParser$Lexer" "firstIsGone" "Z" ∈ o_WS) (hd : decode cc pc = .ok (.putfield i, 3)) (k : o_Z G own cc ret nL kd En k' (o_setF σ 7 v) (pc + 3) L st) : o_Z G own cc ret nL kd En k' σ pc L (.int v :: .ref (g_ad G 3) :: st) :=
  ⟨k.1, fun X C E H locs ls cells slots hP hS hl h1 h2 => by
    obtain ⟨ra, gf, hr, hp, hq⟩ := hP
    exact va_put (D := g_D G) (ci := 1) (v := .int v) (ty := .boolean) (C := RX1) (T := TX1) (N := 13) C.1 C.2.1 C.2.2.2.2.2.1 oi_X1 tyX1 tyX1_ok nmX1 C.2.2.2.2.1 C.2.2.2.2.2.2.2.1.1 hp hq hS 3 rfl rfl 7 (by decide) (C.2.2.2.2.2.1 _ hw) (fun _ h => h) rfl (by decide +kernel) (by rcases hb with rfl | rfl <;> rfl) (by rcases hb with rfl | rfl <;> rfl) (Nat.le_of_ble_eq_true rfl) hd (fun H1 locs1 a b c => k.2 X C E H1 locs1 ls cells slots ⟨ra, gf, hr, a, b⟩ c hl h1 h2)⟩
theorem zg_X1_token {i : Nat} (hw : Cond.fieldLink own i "OffsideParser$Lexer" "token" "I" ∈ o_WS) (hd : decode cc pc = .ok (.getfield i, 3)) (k : o_Z G own cc ret nL kd En k' σ (pc + 3) L (.int (o_F σ 8) :: st)) : o_Z G own cc ret nL kd En k' σ pc L (.ref (g_ad G 3) :: st) :=
  ⟨k.1, fun X C E H locs ls cells slots hP hS hl h1 h2 => by
    obtain ⟨ra, gf, hr, hp, hq⟩ := id hP
    exact va_get (D := g_D G) (ci := 1) (C := RX1) (T := TX1) (N := 13) C.1 C.2.1 C.2.2.2.2.2.1 oi_X1 C.2.2.2.2.1 C.2.2.2.2.2.2.2.1.1 hp 3 rfl rfl 8 (by decide) (C.2.2.2.2.2.1 _ hw) (fun _ h => h) rfl hd (k.2 X C E H locs ls cells slots hP hS hl h1 h2)⟩
theorem zn_X1_token {i : Nat} {host : String} (hw : (own, i, "OffsideParser$Lexer", "token", "I", host) ∈ o_nestF) (hd : decode cc pc = .ok (.getfield i, 3)) (k : o_Z G own cc ret nL kd En k' σ (pc + 3) L (.int (o_F σ 8) :: st)) : o_Z G own cc ret nL kd En k' σ pc L (.ref (g_ad G 3) :: st) :=
  ⟨k.1, fun X C E H locs ls cells slots hP hS hl h1 h2 => by
    obtain ⟨ra, gf, hr, hp, hq⟩ := id hP
    exact va_getN (D := g_D G) (ci := 1) (C := RX1) (T := TX1) (N := 13) C.1 C.2.1 C.2.2.2.2.2.1 oi_X1 C.2.2.2.2.1 C.2.2.2.2.2.2.2.1.1 hp 3 rfl rfl 8 (by decide) (va_Nw.use rfl (C.2.2.2.2.2.2.2.1.2.2.2.1 _ hw)) (fun _ h => h) rfl hd (k.2 X C E H locs ls cells slots hP hS hl h1 h2)⟩
theorem zp_X1_token {i : Nat} {v : Int32} (hw : Cond.fieldLink own i "OffsideParser$Lexer" "token" "I" ∈ o_WS) (hd : decode cc pc = .ok (.putfield i, 3)) (k : o_Z G own cc ret nL kd En k' (o_setF σ 8 v) (pc + 3) L st) : o_Z G own cc ret nL kd En k' σ pc L (.int v :: .ref (g_ad G 3) :: st) :=
  ⟨k.1, fun X C E H locs ls cells slots hP hS hl h1 h2 => by
    obtain ⟨ra, gf, hr, hp, hq⟩ := hP
    exact va_put (D := g_D G) (ci := 1) (v := .int v) (ty := .int) (C := RX1) (T := TX1) (N := 13) C.1 C.2.1 C.2.2.2.2.2.1 oi_X1 tyX1 tyX1_ok nmX1 C.2.2.2.2.1 C.2.2.2.2.2.2.2.1.1 hp hq hS 3 rfl rfl 8 (by decide) (C.2.2.2.2.2.1 _ hw) (fun _ h => h) rfl (by decide +kernel) rfl rfl (Nat.le_of_ble_eq_true rfl) hd (fun H1 locs1 a b c => k.2 X C E H1 locs1 ls cells slots ⟨ra, gf, hr, a, b⟩ c hl h1 h2)⟩
theorem zg_X1_start {i : Nat} (hw : Cond.fieldLink own i "OffsideParser$Lexer" "start" "I" ∈ o_WS) (hd : decode cc pc = .ok (.getfield i, 3)) (k : o_Z G own cc ret nL kd En k' σ (pc + 3) L (.int (o_F σ 9) :: st)) : o_Z G own cc ret nL kd En k' σ pc L (.ref (g_ad G 3) :: st) :=
  ⟨k.1, fun X C E H locs ls cells slots hP hS hl h1 h2 => by
    obtain ⟨ra, gf, hr, hp, hq⟩ := id hP
    exact va_get (D := g_D G) (ci := 1) (C := RX1) (T := TX1) (N := 13) C.1 C.2.1 C.2.2.2.2.2.1 oi_X1 C.2.2.2.2.1 C.2.2.2.2.2.2.2.1.1 hp 3 rfl rfl 9 (by decide) (C.2.2.2.2.2.1 _ hw) (fun _ h => h) rfl hd (k.2 X C E H locs ls cells slots hP hS hl h1 h2)⟩
theorem zn_X1_start {i : Nat} {host : String} (hw : (own, i, "OffsideParser$Lexer", "start", "I", host) ∈ o_nestF) (hd : decode cc pc = .ok (.getfield i, 3)) (k : o_Z G own cc ret nL kd En k' σ (pc + 3) L (.int (o_F σ 9) :: st)) : o_Z G own cc ret nL kd En k' σ pc L (.ref (g_ad G 3) :: st) :=
  ⟨k.1, fun X C E H locs ls cells slots hP hS hl h1 h2 => by
    obtain ⟨ra, gf, hr, hp, hq⟩ := id hP
    exact va_getN (D := g_D G) (ci := 1) (C := RX1) (T := TX1) (N := 13) C.1 C.2.1 C.2.2.2.2.2.1 oi_X1 C.2.2.2.2.1 C.2.2.2.2.2.2.2.1.1 hp 3 rfl rfl 9 (by decide) (va_Nw.use rfl (C.2.2.2.2.2.2.2.1.2.2.2.1 _ hw)) (fun _ h => h) rfl hd (k.2 X C E H locs ls cells slots hP hS hl h1 h2)⟩
theorem zp_X1_start {i : Nat} {v : Int32} (hw : Cond.fieldLink own i "OffsideParser$Lexer" "start" "I" ∈ o_WS) (hd : decode cc pc = .ok (.putfield i, 3)) (k : o_Z G own cc ret nL kd En k' (o_setF σ 9 v) (pc + 3) L st) : o_Z G own cc ret nL kd En k' σ pc L (.int v :: .ref (g_ad G 3) :: st) :=
  ⟨k.1, fun X C E H locs ls cells slots hP hS hl h1 h2 => by
    obtain ⟨ra, gf, hr, hp, hq⟩ := hP
    exact va_put (D := g_D G) (ci := 1) (v := .int v) (ty := .int) (C := RX1) (T := TX1) (N := 13) C.1 C.2.1 C.2.2.2.2.2.1 oi_X1 tyX1 tyX1_ok nmX1 C.2.2.2.2.1 C.2.2.2.2.2.2.2.1.1 hp hq hS 3 rfl rfl 9 (by decide) (C.2.2.2.2.2.1 _ hw) (fun _ h => h) rfl (by decide +kernel) rfl rfl (Nat.le_of_ble_eq_true rfl) hd (fun H1 locs1 a b c => k.2 X C E H1 locs1 ls cells slots ⟨ra, gf, hr, a, b⟩ c hl h1 h2)⟩
theorem zg_X1_atLine {i : Nat} (hw : Cond.fieldLink own i "OffsideParser$Lexer" "atLine" "I" ∈ o_WS) (hd : decode cc pc = .ok (.getfield i, 3)) (k : o_Z G own cc ret nL kd En k' σ (pc + 3) L (.int (o_F σ 10) :: st)) : o_Z G own cc ret nL kd En k' σ pc L (.ref (g_ad G 3) :: st) :=
  ⟨k.1, fun X C E H locs ls cells slots hP hS hl h1 h2 => by
    obtain ⟨ra, gf, hr, hp, hq⟩ := id hP
    exact va_get (D := g_D G) (ci := 1) (C := RX1) (T := TX1) (N := 13) C.1 C.2.1 C.2.2.2.2.2.1 oi_X1 C.2.2.2.2.1 C.2.2.2.2.2.2.2.1.1 hp 3 rfl rfl 10 (by decide) (C.2.2.2.2.2.1 _ hw) (fun _ h => h) rfl hd (k.2 X C E H locs ls cells slots hP hS hl h1 h2)⟩
theorem zn_X1_atLine {i : Nat} {host : String} (hw : (own, i, "OffsideParser$Lexer", "atLine", "I", host) ∈ o_nestF) (hd : decode cc pc = .ok (.getfield i, 3)) (k : o_Z G own cc ret nL kd En k' σ (pc + 3) L (.int (o_F σ 10) :: st)) : o_Z G own cc ret nL kd En k' σ pc L (.ref (g_ad G 3) :: st) :=
  ⟨k.1, fun X C E H locs ls cells slots hP hS hl h1 h2 => by
    obtain ⟨ra, gf, hr, hp, hq⟩ := id hP
    exact va_getN (D := g_D G) (ci := 1) (C := RX1) (T := TX1) (N := 13) C.1 C.2.1 C.2.2.2.2.2.1 oi_X1 C.2.2.2.2.1 C.2.2.2.2.2.2.2.1.1 hp 3 rfl rfl 10 (by decide) (va_Nw.use rfl (C.2.2.2.2.2.2.2.1.2.2.2.1 _ hw)) (fun _ h => h) rfl hd (k.2 X C E H locs ls cells slots hP hS hl h1 h2)⟩
theorem zp_X1_atLine {i : Nat} {v : Int32} (hw : Cond.fieldLink own i "OffsideParser$Lexer" "atLine" "I" ∈ o_WS) (hd : decode cc pc = .ok (.putfield i, 3)) (k : o_Z G own cc ret nL kd En k' (o_setF σ 10 v) (pc + 3) L st) : o_Z G own cc ret nL kd En k' σ pc L (.int v :: .ref (g_ad G 3) :: st) :=
  ⟨k.1, fun X C E H locs ls cells slots hP hS hl h1 h2 => by
    obtain ⟨ra, gf, hr, hp, hq⟩ := hP
    exact va_put (D := g_D G) (ci := 1) (v := .int v) (ty := .int) (C := RX1) (T := TX1) (N := 13) C.1 C.2.1 C.2.2.2.2.2.1 oi_X1 tyX1 tyX1_ok nmX1 C.2.2.2.2.1 C.2.2.2.2.2.2.2.1.1 hp hq hS 3 rfl rfl 10 (by decide) (C.2.2.2.2.2.1 _ hw) (fun _ h => h) rfl (by decide +kernel) rfl rfl (Nat.le_of_ble_eq_true rfl) hd (fun H1 locs1 a b c => k.2 X C E H1 locs1 ls cells slots ⟨ra, gf, hr, a, b⟩ c hl h1 h2)⟩
theorem zg_X1_atColumn {i : Nat} (hw : Cond.fieldLink own i "OffsideParser$Lexer" "atColumn" "I" ∈ o_WS) (hd : decode cc pc = .ok (.getfield i, 3)) (k : o_Z G own cc ret nL kd En k' σ (pc + 3) L (.int (o_F σ 11) :: st)) : o_Z G own cc ret nL kd En k' σ pc L (.ref (g_ad G 3) :: st) :=
  ⟨k.1, fun X C E H locs ls cells slots hP hS hl h1 h2 => by
    obtain ⟨ra, gf, hr, hp, hq⟩ := id hP
    exact va_get (D := g_D G) (ci := 1) (C := RX1) (T := TX1) (N := 13) C.1 C.2.1 C.2.2.2.2.2.1 oi_X1 C.2.2.2.2.1 C.2.2.2.2.2.2.2.1.1 hp 3 rfl rfl 11 (by decide) (C.2.2.2.2.2.1 _ hw) (fun _ h => h) rfl hd (k.2 X C E H locs ls cells slots hP hS hl h1 h2)⟩
theorem zn_X1_atColumn {i : Nat} {host : String} (hw : (own, i, "OffsideParser$Lexer", "atColumn", "I", host) ∈ o_nestF) (hd : decode cc pc = .ok (.getfield i, 3)) (k : o_Z G own cc ret nL kd En k' σ (pc + 3) L (.int (o_F σ 11) :: st)) : o_Z G own cc ret nL kd En k' σ pc L (.ref (g_ad G 3) :: st) :=
  ⟨k.1, fun X C E H locs ls cells slots hP hS hl h1 h2 => by
    obtain ⟨ra, gf, hr, hp, hq⟩ := id hP
    exact va_getN (D := g_D G) (ci := 1) (C := RX1) (T := TX1) (N := 13) C.1 C.2.1 C.2.2.2.2.2.1 oi_X1 C.2.2.2.2.1 C.2.2.2.2.2.2.2.1.1 hp 3 rfl rfl 11 (by decide) (va_Nw.use rfl (C.2.2.2.2.2.2.2.1.2.2.2.1 _ hw)) (fun _ h => h) rfl hd (k.2 X C E H locs ls cells slots hP hS hl h1 h2)⟩
theorem zp_X1_atColumn {i : Nat} {v : Int32} (hw : Cond.fieldLink own i "OffsideParser$Lexer" "atColumn" "I" ∈ o_WS) (hd : decode cc pc = .ok (.putfield i, 3)) (k : o_Z G own cc ret nL kd En k' (o_setF σ 11 v) (pc + 3) L st) : o_Z G own cc ret nL kd En k' σ pc L (.int v :: .ref (g_ad G 3) :: st) :=
  ⟨k.1, fun X C E H locs ls cells slots hP hS hl h1 h2 => by
    obtain ⟨ra, gf, hr, hp, hq⟩ := hP
    exact va_put (D := g_D G) (ci := 1) (v := .int v) (ty := .int) (C := RX1) (T := TX1) (N := 13) C.1 C.2.1 C.2.2.2.2.2.1 oi_X1 tyX1 tyX1_ok nmX1 C.2.2.2.2.1 C.2.2.2.2.2.2.2.1.1 hp hq hS 3 rfl rfl 11 (by decide) (C.2.2.2.2.2.1 _ hw) (fun _ h => h) rfl (by decide +kernel) rfl rfl (Nat.le_of_ble_eq_true rfl) hd (fun H1 locs1 a b c => k.2 X C E H1 locs1 ls cells slots ⟨ra, gf, hr, a, b⟩ c hl h1 h2)⟩
theorem zg_X1_isFirst {i : Nat} (hw : Cond.fieldLink own i "OffsideParser$Lexer" "isFirst" "Z" ∈ o_WS) (hd : decode cc pc = .ok (.getfield i, 3)) (k : o_Z G own cc ret nL kd En k' σ (pc + 3) L (.int (o_F σ 12) :: st)) : o_Z G own cc ret nL kd En k' σ pc L (.ref (g_ad G 3) :: st) :=
  ⟨k.1, fun X C E H locs ls cells slots hP hS hl h1 h2 => by
    obtain ⟨ra, gf, hr, hp, hq⟩ := id hP
    exact va_get (D := g_D G) (ci := 1) (C := RX1) (T := TX1) (N := 13) C.1 C.2.1 C.2.2.2.2.2.1 oi_X1 C.2.2.2.2.1 C.2.2.2.2.2.2.2.1.1 hp 3 rfl rfl 12 (by decide) (C.2.2.2.2.2.1 _ hw) (fun _ h => h) rfl hd (k.2 X C E H locs ls cells slots hP hS hl h1 h2)⟩
theorem zn_X1_isFirst {i : Nat} {host : String} (hw : (own, i, "OffsideParser$Lexer", "isFirst", "Z", host) ∈ o_nestF) (hd : decode cc pc = .ok (.getfield i, 3)) (k : o_Z G own cc ret nL kd En k' σ (pc + 3) L (.int (o_F σ 12) :: st)) : o_Z G own cc ret nL kd En k' σ pc L (.ref (g_ad G 3) :: st) :=
  ⟨k.1, fun X C E H locs ls cells slots hP hS hl h1 h2 => by
    obtain ⟨ra, gf, hr, hp, hq⟩ := id hP
    exact va_getN (D := g_D G) (ci := 1) (C := RX1) (T := TX1) (N := 13) C.1 C.2.1 C.2.2.2.2.2.1 oi_X1 C.2.2.2.2.1 C.2.2.2.2.2.2.2.1.1 hp 3 rfl rfl 12 (by decide) (va_Nw.use rfl (C.2.2.2.2.2.2.2.1.2.2.2.1 _ hw)) (fun _ h => h) rfl hd (k.2 X C E H locs ls cells slots hP hS hl h1 h2)⟩
theorem zp_X1_isFirst {i : Nat} {v : Int32} (hb : v = 0 ∨ v = 1) (hw : Cond.fieldLink own i "OffsideParser$Lexer" "isFirst" "Z" ∈ o_WS) (hd : decode cc pc = .ok (.putfield i, 3)) (k : o_Z G own cc ret nL kd En k' (o_setF σ 12 v) (pc + 3) L st) : o_Z G own cc ret nL kd En k' σ pc L (.int v :: .ref (g_ad G 3) :: st) :=
  ⟨k.1, fun X C E H locs ls cells slots hP hS hl h1 h2 => by
    obtain ⟨ra, gf, hr, hp, hq⟩ := hP
    exact va_put (D := g_D G) (ci := 1) (v := .int v) (ty := .boolean) (C := RX1) (T := TX1) (N := 13) C.1 C.2.1 C.2.2.2.2.2.1 oi_X1 tyX1 tyX1_ok nmX1 C.2.2.2.2.1 C.2.2.2.2.2.2.2.1.1 hp hq hS 3 rfl rfl 12 (by decide) (C.2.2.2.2.2.1 _ hw) (fun _ h => h) rfl (by decide +kernel) (by rcases hb with rfl | rfl <;> rfl) (by rcases hb with rfl | rfl <;> rfl) (Nat.le_of_ble_eq_true rfl) hd (fun H1 locs1 a b c => k.2 X C E H1 locs1 ls cells slots ⟨ra, gf, hr, a, b⟩ c hl h1 h2)⟩
theorem zg_X0_text {i : Nat} (hw : Cond.fieldLink own i "OffsideParser$Builder" "text" "LOffsideParser$Row;" ∈ o_WS) (hd : decode cc pc = .ok (.getfield i, 3)) (k : o_Z G own cc ret nL kd En k' σ (pc + 3) L (.ref (g_ad G 7) :: st)) : o_Z G own cc ret nL kd En k' σ pc L (.ref (g_ad G 4) :: st) :=
  ⟨k.1, fun X C E H locs ls cells slots hP hS hl h1 h2 => by
    obtain ⟨ra, gf, hr, hp, hq⟩ := id hP
    exact va_get (D := g_D G) (ci := 0) (C := RX0) (T := TX0) (N := 9) C.1 C.2.1 C.2.2.2.2.2.1 oi_X0 C.2.2.2.2.1 C.2.2.2.2.2.2.2.1.1 hp 4 rfl rfl 0 (by decide) (C.2.2.2.2.2.1 _ hw) (fun _ h => h) rfl hd (k.2 X C E H locs ls cells slots hP hS hl h1 h2)⟩
theorem zg_X0_lexer {i : Nat} (hw : Cond.fieldLink own i "OffsideParser$Builder" "lexer" "LOffsideParser$Lexer;" ∈ o_WS) (hd : decode cc pc = .ok (.getfield i, 3)) (k : o_Z G own cc ret nL kd En k' σ (pc + 3) L (.ref (g_ad G 3) :: st)) : o_Z G own cc ret nL kd En k' σ pc L (.ref (g_ad G 4) :: st) :=
  ⟨k.1, fun X C E H locs ls cells slots hP hS hl h1 h2 => by
    obtain ⟨ra, gf, hr, hp, hq⟩ := id hP
    exact va_get (D := g_D G) (ci := 0) (C := RX0) (T := TX0) (N := 9) C.1 C.2.1 C.2.2.2.2.2.1 oi_X0 C.2.2.2.2.1 C.2.2.2.2.2.2.2.1.1 hp 4 rfl rfl 1 (by decide) (C.2.2.2.2.2.1 _ hw) (fun _ h => h) rfl hd (k.2 X C E H locs ls cells slots hP hS hl h1 h2)⟩
theorem zg_X0_tree {i : Nat} (hw : Cond.fieldLink own i "OffsideParser$Builder" "tree" "LOffsideParser$Tree;" ∈ o_WS) (hd : decode cc pc = .ok (.getfield i, 3)) (k : o_Z G own cc ret nL kd En k' σ (pc + 3) L (.ref (g_ad G 2) :: st)) : o_Z G own cc ret nL kd En k' σ pc L (.ref (g_ad G 4) :: st) :=
  ⟨k.1, fun X C E H locs ls cells slots hP hS hl h1 h2 => by
    obtain ⟨ra, gf, hr, hp, hq⟩ := id hP
    exact va_get (D := g_D G) (ci := 0) (C := RX0) (T := TX0) (N := 9) C.1 C.2.1 C.2.2.2.2.2.1 oi_X0 C.2.2.2.2.1 C.2.2.2.2.2.2.2.1.1 hp 4 rfl rfl 2 (by decide) (C.2.2.2.2.2.1 _ hw) (fun _ h => h) rfl hd (k.2 X C E H locs ls cells slots hP hS hl h1 h2)⟩
theorem zg_X0_repairs {i : Nat} (hw : Cond.fieldLink own i "OffsideParser$Builder" "repairs" "LOffsideParser$Repairs;" ∈ o_WS) (hd : decode cc pc = .ok (.getfield i, 3)) (k : o_Z G own cc ret nL kd En k' σ (pc + 3) L (.ref (g_ad G 1) :: st)) : o_Z G own cc ret nL kd En k' σ pc L (.ref (g_ad G 4) :: st) :=
  ⟨k.1, fun X C E H locs ls cells slots hP hS hl h1 h2 => by
    obtain ⟨ra, gf, hr, hp, hq⟩ := id hP
    exact va_get (D := g_D G) (ci := 0) (C := RX0) (T := TX0) (N := 9) C.1 C.2.1 C.2.2.2.2.2.1 oi_X0 C.2.2.2.2.1 C.2.2.2.2.2.2.2.1.1 hp 4 rfl rfl 3 (by decide) (C.2.2.2.2.2.1 _ hw) (fun _ h => h) rfl hd (k.2 X C E H locs ls cells slots hP hS hl h1 h2)⟩
theorem zg_X0_openNodes {i : Nat} (hw : Cond.fieldLink own i "OffsideParser$Builder" "openNodes" "LOffsideParser$Row;" ∈ o_WS) (hd : decode cc pc = .ok (.getfield i, 3)) (k : o_Z G own cc ret nL kd En k' σ (pc + 3) L (.ref (g_ad G 12) :: st)) : o_Z G own cc ret nL kd En k' σ pc L (.ref (g_ad G 4) :: st) :=
  ⟨k.1, fun X C E H locs ls cells slots hP hS hl h1 h2 => by
    obtain ⟨ra, gf, hr, hp, hq⟩ := id hP
    exact va_get (D := g_D G) (ci := 0) (C := RX0) (T := TX0) (N := 9) C.1 C.2.1 C.2.2.2.2.2.1 oi_X0 C.2.2.2.2.1 C.2.2.2.2.2.2.2.1.1 hp 4 rfl rfl 4 (by decide) (C.2.2.2.2.2.1 _ hw) (fun _ h => h) rfl hd (k.2 X C E H locs ls cells slots hP hS hl h1 h2)⟩
theorem zg_X0_openColumns {i : Nat} (hw : Cond.fieldLink own i "OffsideParser$Builder" "openColumns" "LOffsideParser$Row;" ∈ o_WS) (hd : decode cc pc = .ok (.getfield i, 3)) (k : o_Z G own cc ret nL kd En k' σ (pc + 3) L (.ref (g_ad G 13) :: st)) : o_Z G own cc ret nL kd En k' σ pc L (.ref (g_ad G 4) :: st) :=
  ⟨k.1, fun X C E H locs ls cells slots hP hS hl h1 h2 => by
    obtain ⟨ra, gf, hr, hp, hq⟩ := id hP
    exact va_get (D := g_D G) (ci := 0) (C := RX0) (T := TX0) (N := 9) C.1 C.2.1 C.2.2.2.2.2.1 oi_X0 C.2.2.2.2.1 C.2.2.2.2.2.2.2.1.1 hp 4 rfl rfl 5 (by decide) (C.2.2.2.2.2.1 _ hw) (fun _ h => h) rfl hd (k.2 X C E H locs ls cells slots hP hS hl h1 h2)⟩
theorem zg_X0_currentItems {i : Nat} (hw : Cond.fieldLink own i "OffsideParser$Builder" "currentItems" "LOffsideParser$Row;" ∈ o_WS) (hd : decode cc pc = .ok (.getfield i, 3)) (k : o_Z G own cc ret nL kd En k' σ (pc + 3) L (.ref (g_ad G 14) :: st)) : o_Z G own cc ret nL kd En k' σ pc L (.ref (g_ad G 4) :: st) :=
  ⟨k.1, fun X C E H locs ls cells slots hP hS hl h1 h2 => by
    obtain ⟨ra, gf, hr, hp, hq⟩ := id hP
    exact va_get (D := g_D G) (ci := 0) (C := RX0) (T := TX0) (N := 9) C.1 C.2.1 C.2.2.2.2.2.1 oi_X0 C.2.2.2.2.1 C.2.2.2.2.2.2.2.1.1 hp 4 rfl rfl 6 (by decide) (C.2.2.2.2.2.1 _ hw) (fun _ h => h) rfl hd (k.2 X C E H locs ls cells slots hP hS hl h1 h2)⟩
theorem zg_X0_hasBegun {i : Nat} (hw : Cond.fieldLink own i "OffsideParser$Builder" "hasBegun" "Z" ∈ o_WS) (hd : decode cc pc = .ok (.getfield i, 3)) (k : o_Z G own cc ret nL kd En k' σ (pc + 3) L (.int (o_F σ 13) :: st)) : o_Z G own cc ret nL kd En k' σ pc L (.ref (g_ad G 4) :: st) :=
  ⟨k.1, fun X C E H locs ls cells slots hP hS hl h1 h2 => by
    obtain ⟨ra, gf, hr, hp, hq⟩ := id hP
    exact va_get (D := g_D G) (ci := 0) (C := RX0) (T := TX0) (N := 9) C.1 C.2.1 C.2.2.2.2.2.1 oi_X0 C.2.2.2.2.1 C.2.2.2.2.2.2.2.1.1 hp 4 rfl rfl 7 (by decide) (C.2.2.2.2.2.1 _ hw) (fun _ h => h) rfl hd (k.2 X C E H locs ls cells slots hP hS hl h1 h2)⟩
theorem zp_X0_hasBegun {i : Nat} {v : Int32} (hb : v = 0 ∨ v = 1) (hw : Cond.fieldLink own i "OffsideParser$Builder" "hasBegun" "Z" ∈ o_WS) (hd : decode cc pc = .ok (.putfield i, 3)) (k : o_Z G own cc ret nL kd En k' (o_setF σ 13 v) (pc + 3) L st) : o_Z G own cc ret nL kd En k' σ pc L (.int v :: .ref (g_ad G 4) :: st) :=
  ⟨k.1, fun X C E H locs ls cells slots hP hS hl h1 h2 => by
    obtain ⟨ra, gf, hr, hp, hq⟩ := hP
    exact va_put (D := g_D G) (ci := 0) (v := .int v) (ty := .boolean) (C := RX0) (T := TX0) (N := 9) C.1 C.2.1 C.2.2.2.2.2.1 oi_X0 tyX0 tyX0_ok nmX0 C.2.2.2.2.1 C.2.2.2.2.2.2.2.1.1 hp hq hS 4 rfl rfl 7 (by decide) (C.2.2.2.2.2.1 _ hw) (fun _ h => h) rfl (by decide +kernel) (by rcases hb with rfl | rfl <;> rfl) (by rcases hb with rfl | rfl <;> rfl) (Nat.le_of_ble_eq_true rfl) hd (fun H1 locs1 a b c => k.2 X C E H1 locs1 ls cells slots ⟨ra, gf, hr, a, b⟩ c hl h1 h2)⟩
theorem zg_X0_colonBefore {i : Nat} (hw : Cond.fieldLink own i "OffsideParser$Builder" "colonBefore" "Z" ∈ o_WS) (hd : decode cc pc = .ok (.getfield i, 3)) (k : o_Z G own cc ret nL kd En k' σ (pc + 3) L (.int (o_F σ 14) :: st)) : o_Z G own cc ret nL kd En k' σ pc L (.ref (g_ad G 4) :: st) :=
  ⟨k.1, fun X C E H locs ls cells slots hP hS hl h1 h2 => by
    obtain ⟨ra, gf, hr, hp, hq⟩ := id hP
    exact va_get (D := g_D G) (ci := 0) (C := RX0) (T := TX0) (N := 9) C.1 C.2.1 C.2.2.2.2.2.1 oi_X0 C.2.2.2.2.1 C.2.2.2.2.2.2.2.1.1 hp 4 rfl rfl 8 (by decide) (C.2.2.2.2.2.1 _ hw) (fun _ h => h) rfl hd (k.2 X C E H locs ls cells slots hP hS hl h1 h2)⟩
theorem zp_X0_colonBefore {i : Nat} {v : Int32} (hb : v = 0 ∨ v = 1) (hw : Cond.fieldLink own i "OffsideParser$Builder" "colonBefore" "Z" ∈ o_WS) (hd : decode cc pc = .ok (.putfield i, 3)) (k : o_Z G own cc ret nL kd En k' (o_setF σ 14 v) (pc + 3) L st) : o_Z G own cc ret nL kd En k' σ pc L (.int v :: .ref (g_ad G 4) :: st) :=
  ⟨k.1, fun X C E H locs ls cells slots hP hS hl h1 h2 => by
    obtain ⟨ra, gf, hr, hp, hq⟩ := hP
    exact va_put (D := g_D G) (ci := 0) (v := .int v) (ty := .boolean) (C := RX0) (T := TX0) (N := 9) C.1 C.2.1 C.2.2.2.2.2.1 oi_X0 tyX0 tyX0_ok nmX0 C.2.2.2.2.1 C.2.2.2.2.2.2.2.1.1 hp hq hS 4 rfl rfl 8 (by decide) (C.2.2.2.2.2.1 _ hw) (fun _ h => h) rfl (by decide +kernel) (by rcases hb with rfl | rfl <;> rfl) (by rcases hb with rfl | rfl <;> rfl) (Nat.le_of_ble_eq_true rfl) hd (fun H1 locs1 a b c => k.2 X C E H1 locs1 ls cells slots ⟨ra, gf, hr, a, b⟩ c hl h1 h2)⟩
theorem zg_X2_tree {i : Nat} (hw : Cond.fieldLink own i "OffsideParser$Printer" "tree" "LOffsideParser$Tree;" ∈ o_WS) (hd : decode cc pc = .ok (.getfield i, 3)) (k : o_Z G own cc ret nL kd En k' σ (pc + 3) L (.ref (g_ad G 2) :: st)) : o_Z G own cc ret nL kd En k' σ pc L (.ref (g_ad G 5) :: st) :=
  ⟨k.1, fun X C E H locs ls cells slots hP hS hl h1 h2 => by
    obtain ⟨ra, gf, hr, hp, hq⟩ := id hP
    exact va_get (D := g_D G) (ci := 2) (C := RX2) (T := TX2) (N := 2) C.1 C.2.1 C.2.2.2.2.2.1 oi_X2 C.2.2.2.2.1 C.2.2.2.2.2.2.2.1.1 hp 5 rfl rfl 0 (by decide) (C.2.2.2.2.2.1 _ hw) (fun _ h => h) rfl hd (k.2 X C E H locs ls cells slots hP hS hl h1 h2)⟩
theorem zg_X2_out {i : Nat} (hw : Cond.fieldLink own i "OffsideParser$Printer" "out" "LOffsideParser$Row;" ∈ o_WS) (hd : decode cc pc = .ok (.getfield i, 3)) (k : o_Z G own cc ret nL kd En k' σ (pc + 3) L (.ref (g_ad G 15) :: st)) : o_Z G own cc ret nL kd En k' σ pc L (.ref (g_ad G 5) :: st) :=
  ⟨k.1, fun X C E H locs ls cells slots hP hS hl h1 h2 => by
    obtain ⟨ra, gf, hr, hp, hq⟩ := id hP
    exact va_get (D := g_D G) (ci := 2) (C := RX2) (T := TX2) (N := 2) C.1 C.2.1 C.2.2.2.2.2.1 oi_X2 C.2.2.2.2.1 C.2.2.2.2.2.2.2.1.1 hp 5 rfl rfl 1 (by decide) (C.2.2.2.2.2.1 _ hw) (fun _ h => h) rfl hd (k.2 X C E H locs ls cells slots hP hS hl h1 h2)⟩
theorem zg_X7_thrown {i : Nat} (hw : Cond.fieldLink own i "OffsideParserModel" "thrown" "I" ∈ o_WS) (hd : decode cc pc = .ok (.getfield i, 3)) (k : o_Z (o_up G) own cc ret nL kd En k' σ (pc + 3) L (.int (o_F σ 15) :: st)) : o_Z (o_up G) own cc ret nL kd En k' σ pc L (.ref (g_ad G 6) :: st) :=
  ⟨k.1, fun X C E H locs ls cells slots hP hS hl h1 h2 => by
    obtain ⟨ra, gf, hr, hp, hq⟩ := id hP
    exact va_get (D := g_D G) (ci := 7) (C := RX7) (T := TX7) (N := 32) C.1 C.2.1 C.2.2.2.2.2.1 oi_X7 C.2.2.2.2.1 C.2.2.2.2.2.2.2.1.1 hp 24 rfl rfl 0 (by decide) (C.2.2.2.2.2.1 _ hw) (fun _ h => h) rfl hd (k.2 X C E H locs ls cells slots hP hS hl h1 h2)⟩
theorem zp_X7_thrown {i : Nat} {v : Int32} (hw : Cond.fieldLink own i "OffsideParserModel" "thrown" "I" ∈ o_WS) (hd : decode cc pc = .ok (.putfield i, 3)) (k : o_Z (o_up G) own cc ret nL kd En k' (o_setF σ 15 v) (pc + 3) L st) : o_Z (o_up G) own cc ret nL kd En k' σ pc L (.int v :: .ref (g_ad G 6) :: st) :=
  ⟨k.1, fun X C E H locs ls cells slots hP hS hl h1 h2 => by
    obtain ⟨ra, gf, hr, hp, hq⟩ := hP
    exact va_put (D := g_D G) (ci := 7) (v := .int v) (ty := .int) (C := RX7) (T := TX7) (N := 32) C.1 C.2.1 C.2.2.2.2.2.1 oi_X7 tyX7 tyX7_ok nmX7 C.2.2.2.2.1 C.2.2.2.2.2.2.2.1.1 hp hq hS 24 rfl rfl 0 (by decide) (C.2.2.2.2.2.1 _ hw) (fun _ h => h) rfl (by decide +kernel) rfl rfl (Nat.le_of_ble_eq_true rfl) hd (fun H1 locs1 a b c => k.2 X C E H1 locs1 ls cells slots ⟨ra, gf, hr, a, b⟩ c hl h1 h2)⟩
theorem zg_X7_text {i : Nat} (hw : Cond.fieldLink own i "OffsideParserModel" "text" "[I" ∈ o_WS) (hd : decode cc pc = .ok (.getfield i, 3)) (k : o_Z (o_up G) own cc ret nL kd En k' σ (pc + 3) L (.ref (g_ad G 25) :: st)) : o_Z (o_up G) own cc ret nL kd En k' σ pc L (.ref (g_ad G 6) :: st) :=
  ⟨k.1, fun X C E H locs ls cells slots hP hS hl h1 h2 => by
    obtain ⟨ra, gf, hr, hp, hq⟩ := id hP
    exact va_get (D := g_D G) (ci := 7) (C := RX7) (T := TX7) (N := 32) C.1 C.2.1 C.2.2.2.2.2.1 oi_X7 C.2.2.2.2.1 C.2.2.2.2.2.2.2.1.1 hp 24 rfl rfl 1 (by decide) (C.2.2.2.2.2.1 _ hw) (fun _ h => h) rfl hd (k.2 X C E H locs ls cells slots hP hS hl h1 h2)⟩
theorem zg_X7_size {i : Nat} (hw : Cond.fieldLink own i "OffsideParserModel" "size" "I" ∈ o_WS) (hd : decode cc pc = .ok (.getfield i, 3)) (k : o_Z (o_up G) own cc ret nL kd En k' σ (pc + 3) L (.int (o_F σ 16) :: st)) : o_Z (o_up G) own cc ret nL kd En k' σ pc L (.ref (g_ad G 6) :: st) :=
  ⟨k.1, fun X C E H locs ls cells slots hP hS hl h1 h2 => by
    obtain ⟨ra, gf, hr, hp, hq⟩ := id hP
    exact va_get (D := g_D G) (ci := 7) (C := RX7) (T := TX7) (N := 32) C.1 C.2.1 C.2.2.2.2.2.1 oi_X7 C.2.2.2.2.1 C.2.2.2.2.2.2.2.1.1 hp 24 rfl rfl 2 (by decide) (C.2.2.2.2.2.1 _ hw) (fun _ h => h) rfl hd (k.2 X C E H locs ls cells slots hP hS hl h1 h2)⟩
theorem zp_X7_size {i : Nat} {v : Int32} (hw : Cond.fieldLink own i "OffsideParserModel" "size" "I" ∈ o_WS) (hd : decode cc pc = .ok (.putfield i, 3)) (k : o_Z (o_up G) own cc ret nL kd En k' (o_setF σ 16 v) (pc + 3) L st) : o_Z (o_up G) own cc ret nL kd En k' σ pc L (.int v :: .ref (g_ad G 6) :: st) :=
  ⟨k.1, fun X C E H locs ls cells slots hP hS hl h1 h2 => by
    obtain ⟨ra, gf, hr, hp, hq⟩ := hP
    exact va_put (D := g_D G) (ci := 7) (v := .int v) (ty := .int) (C := RX7) (T := TX7) (N := 32) C.1 C.2.1 C.2.2.2.2.2.1 oi_X7 tyX7 tyX7_ok nmX7 C.2.2.2.2.1 C.2.2.2.2.2.2.2.1.1 hp hq hS 24 rfl rfl 2 (by decide) (C.2.2.2.2.2.1 _ hw) (fun _ h => h) rfl (by decide +kernel) rfl rfl (Nat.le_of_ble_eq_true rfl) hd (fun H1 locs1 a b c => k.2 X C E H1 locs1 ls cells slots ⟨ra, gf, hr, a, b⟩ c hl h1 h2)⟩
theorem zg_X7_made {i : Nat} (hw : Cond.fieldLink own i "OffsideParserModel" "made" "I" ∈ o_WS) (hd : decode cc pc = .ok (.getfield i, 3)) (k : o_Z (o_up G) own cc ret nL kd En k' σ (pc + 3) L (.int (o_F σ 17) :: st)) : o_Z (o_up G) own cc ret nL kd En k' σ pc L (.ref (g_ad G 6) :: st) :=
  ⟨k.1, fun X C E H locs ls cells slots hP hS hl h1 h2 => by
    obtain ⟨ra, gf, hr, hp, hq⟩ := id hP
    exact va_get (D := g_D G) (ci := 7) (C := RX7) (T := TX7) (N := 32) C.1 C.2.1 C.2.2.2.2.2.1 oi_X7 C.2.2.2.2.1 C.2.2.2.2.2.2.2.1.1 hp 24 rfl rfl 3 (by decide) (C.2.2.2.2.2.1 _ hw) (fun _ h => h) rfl hd (k.2 X C E H locs ls cells slots hP hS hl h1 h2)⟩
theorem zp_X7_made {i : Nat} {v : Int32} (hw : Cond.fieldLink own i "OffsideParserModel" "made" "I" ∈ o_WS) (hd : decode cc pc = .ok (.putfield i, 3)) (k : o_Z (o_up G) own cc ret nL kd En k' (o_setF σ 17 v) (pc + 3) L st) : o_Z (o_up G) own cc ret nL kd En k' σ pc L (.int v :: .ref (g_ad G 6) :: st) :=
  ⟨k.1, fun X C E H locs ls cells slots hP hS hl h1 h2 => by
    obtain ⟨ra, gf, hr, hp, hq⟩ := hP
    exact va_put (D := g_D G) (ci := 7) (v := .int v) (ty := .int) (C := RX7) (T := TX7) (N := 32) C.1 C.2.1 C.2.2.2.2.2.1 oi_X7 tyX7 tyX7_ok nmX7 C.2.2.2.2.1 C.2.2.2.2.2.2.2.1.1 hp hq hS 24 rfl rfl 3 (by decide) (C.2.2.2.2.2.1 _ hw) (fun _ h => h) rfl (by decide +kernel) rfl rfl (Nat.le_of_ble_eq_true rfl) hd (fun H1 locs1 a b c => k.2 X C E H1 locs1 ls cells slots ⟨ra, gf, hr, a, b⟩ c hl h1 h2)⟩
theorem zg_X7_kinds {i : Nat} (hw : Cond.fieldLink own i "OffsideParserModel" "kinds" "[I" ∈ o_WS) (hd : decode cc pc = .ok (.getfield i, 3)) (k : o_Z (o_up G) own cc ret nL kd En k' σ (pc + 3) L (.ref (g_ad G 26) :: st)) : o_Z (o_up G) own cc ret nL kd En k' σ pc L (.ref (g_ad G 6) :: st) :=
  ⟨k.1, fun X C E H locs ls cells slots hP hS hl h1 h2 => by
    obtain ⟨ra, gf, hr, hp, hq⟩ := id hP
    exact va_get (D := g_D G) (ci := 7) (C := RX7) (T := TX7) (N := 32) C.1 C.2.1 C.2.2.2.2.2.1 oi_X7 C.2.2.2.2.1 C.2.2.2.2.2.2.2.1.1 hp 24 rfl rfl 4 (by decide) (C.2.2.2.2.2.1 _ hw) (fun _ h => h) rfl hd (k.2 X C E H locs ls cells slots hP hS hl h1 h2)⟩
theorem zg_X7_parents {i : Nat} (hw : Cond.fieldLink own i "OffsideParserModel" "parents" "[I" ∈ o_WS) (hd : decode cc pc = .ok (.getfield i, 3)) (k : o_Z (o_up G) own cc ret nL kd En k' σ (pc + 3) L (.ref (g_ad G 27) :: st)) : o_Z (o_up G) own cc ret nL kd En k' σ pc L (.ref (g_ad G 6) :: st) :=
  ⟨k.1, fun X C E H locs ls cells slots hP hS hl h1 h2 => by
    obtain ⟨ra, gf, hr, hp, hq⟩ := id hP
    exact va_get (D := g_D G) (ci := 7) (C := RX7) (T := TX7) (N := 32) C.1 C.2.1 C.2.2.2.2.2.1 oi_X7 C.2.2.2.2.1 C.2.2.2.2.2.2.2.1.1 hp 24 rfl rfl 5 (by decide) (C.2.2.2.2.2.1 _ hw) (fun _ h => h) rfl hd (k.2 X C E H locs ls cells slots hP hS hl h1 h2)⟩
theorem zg_X7_firsts {i : Nat} (hw : Cond.fieldLink own i "OffsideParserModel" "firsts" "[I" ∈ o_WS) (hd : decode cc pc = .ok (.getfield i, 3)) (k : o_Z (o_up G) own cc ret nL kd En k' σ (pc + 3) L (.ref (g_ad G 28) :: st)) : o_Z (o_up G) own cc ret nL kd En k' σ pc L (.ref (g_ad G 6) :: st) :=
  ⟨k.1, fun X C E H locs ls cells slots hP hS hl h1 h2 => by
    obtain ⟨ra, gf, hr, hp, hq⟩ := id hP
    exact va_get (D := g_D G) (ci := 7) (C := RX7) (T := TX7) (N := 32) C.1 C.2.1 C.2.2.2.2.2.1 oi_X7 C.2.2.2.2.1 C.2.2.2.2.2.2.2.1.1 hp 24 rfl rfl 6 (by decide) (C.2.2.2.2.2.1 _ hw) (fun _ h => h) rfl hd (k.2 X C E H locs ls cells slots hP hS hl h1 h2)⟩
theorem zg_X7_nexts {i : Nat} (hw : Cond.fieldLink own i "OffsideParserModel" "nexts" "[I" ∈ o_WS) (hd : decode cc pc = .ok (.getfield i, 3)) (k : o_Z (o_up G) own cc ret nL kd En k' σ (pc + 3) L (.ref (g_ad G 29) :: st)) : o_Z (o_up G) own cc ret nL kd En k' σ pc L (.ref (g_ad G 6) :: st) :=
  ⟨k.1, fun X C E H locs ls cells slots hP hS hl h1 h2 => by
    obtain ⟨ra, gf, hr, hp, hq⟩ := id hP
    exact va_get (D := g_D G) (ci := 7) (C := RX7) (T := TX7) (N := 32) C.1 C.2.1 C.2.2.2.2.2.1 oi_X7 C.2.2.2.2.1 C.2.2.2.2.2.2.2.1.1 hp 24 rfl rfl 7 (by decide) (C.2.2.2.2.2.1 _ hw) (fun _ h => h) rfl hd (k.2 X C E H locs ls cells slots hP hS hl h1 h2)⟩
theorem zg_X7_lines {i : Nat} (hw : Cond.fieldLink own i "OffsideParserModel" "lines" "[I" ∈ o_WS) (hd : decode cc pc = .ok (.getfield i, 3)) (k : o_Z (o_up G) own cc ret nL kd En k' σ (pc + 3) L (.ref (g_ad G 30) :: st)) : o_Z (o_up G) own cc ret nL kd En k' σ pc L (.ref (g_ad G 6) :: st) :=
  ⟨k.1, fun X C E H locs ls cells slots hP hS hl h1 h2 => by
    obtain ⟨ra, gf, hr, hp, hq⟩ := id hP
    exact va_get (D := g_D G) (ci := 7) (C := RX7) (T := TX7) (N := 32) C.1 C.2.1 C.2.2.2.2.2.1 oi_X7 C.2.2.2.2.1 C.2.2.2.2.2.2.2.1.1 hp 24 rfl rfl 8 (by decide) (C.2.2.2.2.2.1 _ hw) (fun _ h => h) rfl hd (k.2 X C E H locs ls cells slots hP hS hl h1 h2)⟩
theorem zg_X7_columns {i : Nat} (hw : Cond.fieldLink own i "OffsideParserModel" "columns" "[I" ∈ o_WS) (hd : decode cc pc = .ok (.getfield i, 3)) (k : o_Z (o_up G) own cc ret nL kd En k' σ (pc + 3) L (.ref (g_ad G 31) :: st)) : o_Z (o_up G) own cc ret nL kd En k' σ pc L (.ref (g_ad G 6) :: st) :=
  ⟨k.1, fun X C E H locs ls cells slots hP hS hl h1 h2 => by
    obtain ⟨ra, gf, hr, hp, hq⟩ := id hP
    exact va_get (D := g_D G) (ci := 7) (C := RX7) (T := TX7) (N := 32) C.1 C.2.1 C.2.2.2.2.2.1 oi_X7 C.2.2.2.2.1 C.2.2.2.2.2.2.2.1.1 hp 24 rfl rfl 9 (by decide) (C.2.2.2.2.2.1 _ hw) (fun _ h => h) rfl hd (k.2 X C E H locs ls cells slots hP hS hl h1 h2)⟩
theorem zg_X7_values {i : Nat} (hw : Cond.fieldLink own i "OffsideParserModel" "values" "[I" ∈ o_WS) (hd : decode cc pc = .ok (.getfield i, 3)) (k : o_Z (o_up G) own cc ret nL kd En k' σ (pc + 3) L (.ref (g_ad G 32) :: st)) : o_Z (o_up G) own cc ret nL kd En k' σ pc L (.ref (g_ad G 6) :: st) :=
  ⟨k.1, fun X C E H locs ls cells slots hP hS hl h1 h2 => by
    obtain ⟨ra, gf, hr, hp, hq⟩ := id hP
    exact va_get (D := g_D G) (ci := 7) (C := RX7) (T := TX7) (N := 32) C.1 C.2.1 C.2.2.2.2.2.1 oi_X7 C.2.2.2.2.1 C.2.2.2.2.2.2.2.1.1 hp 24 rfl rfl 10 (by decide) (C.2.2.2.2.2.1 _ hw) (fun _ h => h) rfl hd (k.2 X C E H locs ls cells slots hP hS hl h1 h2)⟩
theorem zg_X7_starts {i : Nat} (hw : Cond.fieldLink own i "OffsideParserModel" "starts" "[I" ∈ o_WS) (hd : decode cc pc = .ok (.getfield i, 3)) (k : o_Z (o_up G) own cc ret nL kd En k' σ (pc + 3) L (.ref (g_ad G 33) :: st)) : o_Z (o_up G) own cc ret nL kd En k' σ pc L (.ref (g_ad G 6) :: st) :=
  ⟨k.1, fun X C E H locs ls cells slots hP hS hl h1 h2 => by
    obtain ⟨ra, gf, hr, hp, hq⟩ := id hP
    exact va_get (D := g_D G) (ci := 7) (C := RX7) (T := TX7) (N := 32) C.1 C.2.1 C.2.2.2.2.2.1 oi_X7 C.2.2.2.2.1 C.2.2.2.2.2.2.2.1.1 hp 24 rfl rfl 11 (by decide) (C.2.2.2.2.2.1 _ hw) (fun _ h => h) rfl hd (k.2 X C E H locs ls cells slots hP hS hl h1 h2)⟩
theorem zg_X7_letters {i : Nat} (hw : Cond.fieldLink own i "OffsideParserModel" "letters" "[I" ∈ o_WS) (hd : decode cc pc = .ok (.getfield i, 3)) (k : o_Z (o_up G) own cc ret nL kd En k' σ (pc + 3) L (.ref (g_ad G 34) :: st)) : o_Z (o_up G) own cc ret nL kd En k' σ pc L (.ref (g_ad G 6) :: st) :=
  ⟨k.1, fun X C E H locs ls cells slots hP hS hl h1 h2 => by
    obtain ⟨ra, gf, hr, hp, hq⟩ := id hP
    exact va_get (D := g_D G) (ci := 7) (C := RX7) (T := TX7) (N := 32) C.1 C.2.1 C.2.2.2.2.2.1 oi_X7 C.2.2.2.2.1 C.2.2.2.2.2.2.2.1.1 hp 24 rfl rfl 12 (by decide) (C.2.2.2.2.2.1 _ hw) (fun _ h => h) rfl hd (k.2 X C E H locs ls cells slots hP hS hl h1 h2)⟩
theorem zg_X7_nodes {i : Nat} (hw : Cond.fieldLink own i "OffsideParserModel" "nodes" "I" ∈ o_WS) (hd : decode cc pc = .ok (.getfield i, 3)) (k : o_Z (o_up G) own cc ret nL kd En k' σ (pc + 3) L (.int (o_F σ 18) :: st)) : o_Z (o_up G) own cc ret nL kd En k' σ pc L (.ref (g_ad G 6) :: st) :=
  ⟨k.1, fun X C E H locs ls cells slots hP hS hl h1 h2 => by
    obtain ⟨ra, gf, hr, hp, hq⟩ := id hP
    exact va_get (D := g_D G) (ci := 7) (C := RX7) (T := TX7) (N := 32) C.1 C.2.1 C.2.2.2.2.2.1 oi_X7 C.2.2.2.2.1 C.2.2.2.2.2.2.2.1.1 hp 24 rfl rfl 13 (by decide) (C.2.2.2.2.2.1 _ hw) (fun _ h => h) rfl hd (k.2 X C E H locs ls cells slots hP hS hl h1 h2)⟩
theorem zp_X7_nodes {i : Nat} {v : Int32} (hw : Cond.fieldLink own i "OffsideParserModel" "nodes" "I" ∈ o_WS) (hd : decode cc pc = .ok (.putfield i, 3)) (k : o_Z (o_up G) own cc ret nL kd En k' (o_setF σ 18 v) (pc + 3) L st) : o_Z (o_up G) own cc ret nL kd En k' σ pc L (.int v :: .ref (g_ad G 6) :: st) :=
  ⟨k.1, fun X C E H locs ls cells slots hP hS hl h1 h2 => by
    obtain ⟨ra, gf, hr, hp, hq⟩ := hP
    exact va_put (D := g_D G) (ci := 7) (v := .int v) (ty := .int) (C := RX7) (T := TX7) (N := 32) C.1 C.2.1 C.2.2.2.2.2.1 oi_X7 tyX7 tyX7_ok nmX7 C.2.2.2.2.1 C.2.2.2.2.2.2.2.1.1 hp hq hS 24 rfl rfl 13 (by decide) (C.2.2.2.2.2.1 _ hw) (fun _ h => h) rfl (by decide +kernel) rfl rfl (Nat.le_of_ble_eq_true rfl) hd (fun H1 locs1 a b c => k.2 X C E H1 locs1 ls cells slots ⟨ra, gf, hr, a, b⟩ c hl h1 h2)⟩
theorem zg_X7_idOf {i : Nat} (hw : Cond.fieldLink own i "OffsideParserModel" "idOf" "[I" ∈ o_WS) (hd : decode cc pc = .ok (.getfield i, 3)) (k : o_Z (o_up G) own cc ret nL kd En k' σ (pc + 3) L (.ref (g_ad G 35) :: st)) : o_Z (o_up G) own cc ret nL kd En k' σ pc L (.ref (g_ad G 6) :: st) :=
  ⟨k.1, fun X C E H locs ls cells slots hP hS hl h1 h2 => by
    obtain ⟨ra, gf, hr, hp, hq⟩ := id hP
    exact va_get (D := g_D G) (ci := 7) (C := RX7) (T := TX7) (N := 32) C.1 C.2.1 C.2.2.2.2.2.1 oi_X7 C.2.2.2.2.1 C.2.2.2.2.2.2.2.1.1 hp 24 rfl rfl 14 (by decide) (C.2.2.2.2.2.1 _ hw) (fun _ h => h) rfl hd (k.2 X C E H locs ls cells slots hP hS hl h1 h2)⟩
theorem zg_X7_numberOf {i : Nat} (hw : Cond.fieldLink own i "OffsideParserModel" "numberOf" "[I" ∈ o_WS) (hd : decode cc pc = .ok (.getfield i, 3)) (k : o_Z (o_up G) own cc ret nL kd En k' σ (pc + 3) L (.ref (g_ad G 36) :: st)) : o_Z (o_up G) own cc ret nL kd En k' σ pc L (.ref (g_ad G 6) :: st) :=
  ⟨k.1, fun X C E H locs ls cells slots hP hS hl h1 h2 => by
    obtain ⟨ra, gf, hr, hp, hq⟩ := id hP
    exact va_get (D := g_D G) (ci := 7) (C := RX7) (T := TX7) (N := 32) C.1 C.2.1 C.2.2.2.2.2.1 oi_X7 C.2.2.2.2.1 C.2.2.2.2.2.2.2.1.1 hp 24 rfl rfl 15 (by decide) (C.2.2.2.2.2.1 _ hw) (fun _ h => h) rfl hd (k.2 X C E H locs ls cells slots hP hS hl h1 h2)⟩
theorem zg_X7_repairs {i : Nat} (hw : Cond.fieldLink own i "OffsideParserModel" "repairs" "I" ∈ o_WS) (hd : decode cc pc = .ok (.getfield i, 3)) (k : o_Z (o_up G) own cc ret nL kd En k' σ (pc + 3) L (.int (o_F σ 19) :: st)) : o_Z (o_up G) own cc ret nL kd En k' σ pc L (.ref (g_ad G 6) :: st) :=
  ⟨k.1, fun X C E H locs ls cells slots hP hS hl h1 h2 => by
    obtain ⟨ra, gf, hr, hp, hq⟩ := id hP
    exact va_get (D := g_D G) (ci := 7) (C := RX7) (T := TX7) (N := 32) C.1 C.2.1 C.2.2.2.2.2.1 oi_X7 C.2.2.2.2.1 C.2.2.2.2.2.2.2.1.1 hp 24 rfl rfl 16 (by decide) (C.2.2.2.2.2.1 _ hw) (fun _ h => h) rfl hd (k.2 X C E H locs ls cells slots hP hS hl h1 h2)⟩
theorem zp_X7_repairs {i : Nat} {v : Int32} (hw : Cond.fieldLink own i "OffsideParserModel" "repairs" "I" ∈ o_WS) (hd : decode cc pc = .ok (.putfield i, 3)) (k : o_Z (o_up G) own cc ret nL kd En k' (o_setF σ 19 v) (pc + 3) L st) : o_Z (o_up G) own cc ret nL kd En k' σ pc L (.int v :: .ref (g_ad G 6) :: st) :=
  ⟨k.1, fun X C E H locs ls cells slots hP hS hl h1 h2 => by
    obtain ⟨ra, gf, hr, hp, hq⟩ := hP
    exact va_put (D := g_D G) (ci := 7) (v := .int v) (ty := .int) (C := RX7) (T := TX7) (N := 32) C.1 C.2.1 C.2.2.2.2.2.1 oi_X7 tyX7 tyX7_ok nmX7 C.2.2.2.2.1 C.2.2.2.2.2.2.2.1.1 hp hq hS 24 rfl rfl 16 (by decide) (C.2.2.2.2.2.1 _ hw) (fun _ h => h) rfl (by decide +kernel) rfl rfl (Nat.le_of_ble_eq_true rfl) hd (fun H1 locs1 a b c => k.2 X C E H1 locs1 ls cells slots ⟨ra, gf, hr, a, b⟩ c hl h1 h2)⟩
theorem zg_X7_repairParts {i : Nat} (hw : Cond.fieldLink own i "OffsideParserModel" "repairParts" "[I" ∈ o_WS) (hd : decode cc pc = .ok (.getfield i, 3)) (k : o_Z (o_up G) own cc ret nL kd En k' σ (pc + 3) L (.ref (g_ad G 37) :: st)) : o_Z (o_up G) own cc ret nL kd En k' σ pc L (.ref (g_ad G 6) :: st) :=
  ⟨k.1, fun X C E H locs ls cells slots hP hS hl h1 h2 => by
    obtain ⟨ra, gf, hr, hp, hq⟩ := id hP
    exact va_get (D := g_D G) (ci := 7) (C := RX7) (T := TX7) (N := 32) C.1 C.2.1 C.2.2.2.2.2.1 oi_X7 C.2.2.2.2.1 C.2.2.2.2.2.2.2.1.1 hp 24 rfl rfl 17 (by decide) (C.2.2.2.2.2.1 _ hw) (fun _ h => h) rfl hd (k.2 X C E H locs ls cells slots hP hS hl h1 h2)⟩
theorem zg_X7_output {i : Nat} (hw : Cond.fieldLink own i "OffsideParserModel" "output" "[I" ∈ o_WS) (hd : decode cc pc = .ok (.getfield i, 3)) (k : o_Z (o_up G) own cc ret nL kd En k' σ (pc + 3) L (.ref (g_ad G 38) :: st)) : o_Z (o_up G) own cc ret nL kd En k' σ pc L (.ref (g_ad G 6) :: st) :=
  ⟨k.1, fun X C E H locs ls cells slots hP hS hl h1 h2 => by
    obtain ⟨ra, gf, hr, hp, hq⟩ := id hP
    exact va_get (D := g_D G) (ci := 7) (C := RX7) (T := TX7) (N := 32) C.1 C.2.1 C.2.2.2.2.2.1 oi_X7 C.2.2.2.2.1 C.2.2.2.2.2.2.2.1.1 hp 24 rfl rfl 18 (by decide) (C.2.2.2.2.2.1 _ hw) (fun _ h => h) rfl hd (k.2 X C E H locs ls cells slots hP hS hl h1 h2)⟩
theorem zg_X7_written {i : Nat} (hw : Cond.fieldLink own i "OffsideParserModel" "written" "I" ∈ o_WS) (hd : decode cc pc = .ok (.getfield i, 3)) (k : o_Z (o_up G) own cc ret nL kd En k' σ (pc + 3) L (.int (o_F σ 20) :: st)) : o_Z (o_up G) own cc ret nL kd En k' σ pc L (.ref (g_ad G 6) :: st) :=
  ⟨k.1, fun X C E H locs ls cells slots hP hS hl h1 h2 => by
    obtain ⟨ra, gf, hr, hp, hq⟩ := id hP
    exact va_get (D := g_D G) (ci := 7) (C := RX7) (T := TX7) (N := 32) C.1 C.2.1 C.2.2.2.2.2.1 oi_X7 C.2.2.2.2.1 C.2.2.2.2.2.2.2.1.1 hp 24 rfl rfl 19 (by decide) (C.2.2.2.2.2.1 _ hw) (fun _ h => h) rfl hd (k.2 X C E H locs ls cells slots hP hS hl h1 h2)⟩
theorem zp_X7_written {i : Nat} {v : Int32} (hw : Cond.fieldLink own i "OffsideParserModel" "written" "I" ∈ o_WS) (hd : decode cc pc = .ok (.putfield i, 3)) (k : o_Z (o_up G) own cc ret nL kd En k' (o_setF σ 20 v) (pc + 3) L st) : o_Z (o_up G) own cc ret nL kd En k' σ pc L (.int v :: .ref (g_ad G 6) :: st) :=
  ⟨k.1, fun X C E H locs ls cells slots hP hS hl h1 h2 => by
    obtain ⟨ra, gf, hr, hp, hq⟩ := hP
    exact va_put (D := g_D G) (ci := 7) (v := .int v) (ty := .int) (C := RX7) (T := TX7) (N := 32) C.1 C.2.1 C.2.2.2.2.2.1 oi_X7 tyX7 tyX7_ok nmX7 C.2.2.2.2.1 C.2.2.2.2.2.2.2.1.1 hp hq hS 24 rfl rfl 19 (by decide) (C.2.2.2.2.2.1 _ hw) (fun _ h => h) rfl (by decide +kernel) rfl rfl (Nat.le_of_ble_eq_true rfl) hd (fun H1 locs1 a b c => k.2 X C E H1 locs1 ls cells slots ⟨ra, gf, hr, a, b⟩ c hl h1 h2)⟩
theorem zg_X7_fed {i : Nat} (hw : Cond.fieldLink own i "OffsideParserModel" "fed" "[I" ∈ o_WS) (hd : decode cc pc = .ok (.getfield i, 3)) (k : o_Z (o_up G) own cc ret nL kd En k' σ (pc + 3) L (.ref (g_ad G 39) :: st)) : o_Z (o_up G) own cc ret nL kd En k' σ pc L (.ref (g_ad G 6) :: st) :=
  ⟨k.1, fun X C E H locs ls cells slots hP hS hl h1 h2 => by
    obtain ⟨ra, gf, hr, hp, hq⟩ := id hP
    exact va_get (D := g_D G) (ci := 7) (C := RX7) (T := TX7) (N := 32) C.1 C.2.1 C.2.2.2.2.2.1 oi_X7 C.2.2.2.2.1 C.2.2.2.2.2.2.2.1.1 hp 24 rfl rfl 20 (by decide) (C.2.2.2.2.2.1 _ hw) (fun _ h => h) rfl hd (k.2 X C E H locs ls cells slots hP hS hl h1 h2)⟩
theorem zg_X7_open {i : Nat} (hw : Cond.fieldLink own i "OffsideParserModel" "open" "I" ∈ o_WS) (hd : decode cc pc = .ok (.getfield i, 3)) (k : o_Z (o_up G) own cc ret nL kd En k' σ (pc + 3) L (.int (o_F σ 21) :: st)) : o_Z (o_up G) own cc ret nL kd En k' σ pc L (.ref (g_ad G 6) :: st) :=
  ⟨k.1, fun X C E H locs ls cells slots hP hS hl h1 h2 => by
    obtain ⟨ra, gf, hr, hp, hq⟩ := id hP
    exact va_get (D := g_D G) (ci := 7) (C := RX7) (T := TX7) (N := 32) C.1 C.2.1 C.2.2.2.2.2.1 oi_X7 C.2.2.2.2.1 C.2.2.2.2.2.2.2.1.1 hp 24 rfl rfl 21 (by decide) (C.2.2.2.2.2.1 _ hw) (fun _ h => h) rfl hd (k.2 X C E H locs ls cells slots hP hS hl h1 h2)⟩
theorem zp_X7_open {i : Nat} {v : Int32} (hw : Cond.fieldLink own i "OffsideParserModel" "open" "I" ∈ o_WS) (hd : decode cc pc = .ok (.putfield i, 3)) (k : o_Z (o_up G) own cc ret nL kd En k' (o_setF σ 21 v) (pc + 3) L st) : o_Z (o_up G) own cc ret nL kd En k' σ pc L (.int v :: .ref (g_ad G 6) :: st) :=
  ⟨k.1, fun X C E H locs ls cells slots hP hS hl h1 h2 => by
    obtain ⟨ra, gf, hr, hp, hq⟩ := hP
    exact va_put (D := g_D G) (ci := 7) (v := .int v) (ty := .int) (C := RX7) (T := TX7) (N := 32) C.1 C.2.1 C.2.2.2.2.2.1 oi_X7 tyX7 tyX7_ok nmX7 C.2.2.2.2.1 C.2.2.2.2.2.2.2.1.1 hp hq hS 24 rfl rfl 21 (by decide) (C.2.2.2.2.2.1 _ hw) (fun _ h => h) rfl (by decide +kernel) rfl rfl (Nat.le_of_ble_eq_true rfl) hd (fun H1 locs1 a b c => k.2 X C E H1 locs1 ls cells slots ⟨ra, gf, hr, a, b⟩ c hl h1 h2)⟩
theorem zg_X7_openIds {i : Nat} (hw : Cond.fieldLink own i "OffsideParserModel" "openIds" "[I" ∈ o_WS) (hd : decode cc pc = .ok (.getfield i, 3)) (k : o_Z (o_up G) own cc ret nL kd En k' σ (pc + 3) L (.ref (g_ad G 40) :: st)) : o_Z (o_up G) own cc ret nL kd En k' σ pc L (.ref (g_ad G 6) :: st) :=
  ⟨k.1, fun X C E H locs ls cells slots hP hS hl h1 h2 => by
    obtain ⟨ra, gf, hr, hp, hq⟩ := id hP
    exact va_get (D := g_D G) (ci := 7) (C := RX7) (T := TX7) (N := 32) C.1 C.2.1 C.2.2.2.2.2.1 oi_X7 C.2.2.2.2.1 C.2.2.2.2.2.2.2.1.1 hp 24 rfl rfl 22 (by decide) (C.2.2.2.2.2.1 _ hw) (fun _ h => h) rfl hd (k.2 X C E H locs ls cells slots hP hS hl h1 h2)⟩
theorem zg_X7_openColumns {i : Nat} (hw : Cond.fieldLink own i "OffsideParserModel" "openColumns" "[I" ∈ o_WS) (hd : decode cc pc = .ok (.getfield i, 3)) (k : o_Z (o_up G) own cc ret nL kd En k' σ (pc + 3) L (.ref (g_ad G 41) :: st)) : o_Z (o_up G) own cc ret nL kd En k' σ pc L (.ref (g_ad G 6) :: st) :=
  ⟨k.1, fun X C E H locs ls cells slots hP hS hl h1 h2 => by
    obtain ⟨ra, gf, hr, hp, hq⟩ := id hP
    exact va_get (D := g_D G) (ci := 7) (C := RX7) (T := TX7) (N := 32) C.1 C.2.1 C.2.2.2.2.2.1 oi_X7 C.2.2.2.2.1 C.2.2.2.2.2.2.2.1.1 hp 24 rfl rfl 23 (by decide) (C.2.2.2.2.2.1 _ hw) (fun _ h => h) rfl hd (k.2 X C E H locs ls cells slots hP hS hl h1 h2)⟩
theorem zg_X7_items {i : Nat} (hw : Cond.fieldLink own i "OffsideParserModel" "items" "[I" ∈ o_WS) (hd : decode cc pc = .ok (.getfield i, 3)) (k : o_Z (o_up G) own cc ret nL kd En k' σ (pc + 3) L (.ref (g_ad G 42) :: st)) : o_Z (o_up G) own cc ret nL kd En k' σ pc L (.ref (g_ad G 6) :: st) :=
  ⟨k.1, fun X C E H locs ls cells slots hP hS hl h1 h2 => by
    obtain ⟨ra, gf, hr, hp, hq⟩ := id hP
    exact va_get (D := g_D G) (ci := 7) (C := RX7) (T := TX7) (N := 32) C.1 C.2.1 C.2.2.2.2.2.1 oi_X7 C.2.2.2.2.1 C.2.2.2.2.2.2.2.1.1 hp 24 rfl rfl 24 (by decide) (C.2.2.2.2.2.1 _ hw) (fun _ h => h) rfl hd (k.2 X C E H locs ls cells slots hP hS hl h1 h2)⟩
theorem zg_X7_hasColon {i : Nat} (hw : Cond.fieldLink own i "OffsideParserModel" "hasColon" "Z" ∈ o_WS) (hd : decode cc pc = .ok (.getfield i, 3)) (k : o_Z (o_up G) own cc ret nL kd En k' σ (pc + 3) L (.int (o_F σ 22) :: st)) : o_Z (o_up G) own cc ret nL kd En k' σ pc L (.ref (g_ad G 6) :: st) :=
  ⟨k.1, fun X C E H locs ls cells slots hP hS hl h1 h2 => by
    obtain ⟨ra, gf, hr, hp, hq⟩ := id hP
    exact va_get (D := g_D G) (ci := 7) (C := RX7) (T := TX7) (N := 32) C.1 C.2.1 C.2.2.2.2.2.1 oi_X7 C.2.2.2.2.1 C.2.2.2.2.2.2.2.1.1 hp 24 rfl rfl 25 (by decide) (C.2.2.2.2.2.1 _ hw) (fun _ h => h) rfl hd (k.2 X C E H locs ls cells slots hP hS hl h1 h2)⟩
theorem zp_X7_hasColon {i : Nat} {v : Int32} (hb : v = 0 ∨ v = 1) (hw : Cond.fieldLink own i "OffsideParserModel" "hasColon" "Z" ∈ o_WS) (hd : decode cc pc = .ok (.putfield i, 3)) (k : o_Z (o_up G) own cc ret nL kd En k' (o_setF σ 22 v) (pc + 3) L st) : o_Z (o_up G) own cc ret nL kd En k' σ pc L (.int v :: .ref (g_ad G 6) :: st) :=
  ⟨k.1, fun X C E H locs ls cells slots hP hS hl h1 h2 => by
    obtain ⟨ra, gf, hr, hp, hq⟩ := hP
    exact va_put (D := g_D G) (ci := 7) (v := .int v) (ty := .boolean) (C := RX7) (T := TX7) (N := 32) C.1 C.2.1 C.2.2.2.2.2.1 oi_X7 tyX7 tyX7_ok nmX7 C.2.2.2.2.1 C.2.2.2.2.2.2.2.1.1 hp hq hS 24 rfl rfl 25 (by decide) (C.2.2.2.2.2.1 _ hw) (fun _ h => h) rfl (by decide +kernel) (by rcases hb with rfl | rfl <;> rfl) (by rcases hb with rfl | rfl <;> rfl) (Nat.le_of_ble_eq_true rfl) hd (fun H1 locs1 a b c => k.2 X C E H1 locs1 ls cells slots ⟨ra, gf, hr, a, b⟩ c hl h1 h2)⟩
theorem zg_X7_token {i : Nat} (hw : Cond.fieldLink own i "OffsideParserModel" "token" "I" ∈ o_WS) (hd : decode cc pc = .ok (.getfield i, 3)) (k : o_Z (o_up G) own cc ret nL kd En k' σ (pc + 3) L (.int (o_F σ 23) :: st)) : o_Z (o_up G) own cc ret nL kd En k' σ pc L (.ref (g_ad G 6) :: st) :=
  ⟨k.1, fun X C E H locs ls cells slots hP hS hl h1 h2 => by
    obtain ⟨ra, gf, hr, hp, hq⟩ := id hP
    exact va_get (D := g_D G) (ci := 7) (C := RX7) (T := TX7) (N := 32) C.1 C.2.1 C.2.2.2.2.2.1 oi_X7 C.2.2.2.2.1 C.2.2.2.2.2.2.2.1.1 hp 24 rfl rfl 26 (by decide) (C.2.2.2.2.2.1 _ hw) (fun _ h => h) rfl hd (k.2 X C E H locs ls cells slots hP hS hl h1 h2)⟩
theorem zp_X7_token {i : Nat} {v : Int32} (hw : Cond.fieldLink own i "OffsideParserModel" "token" "I" ∈ o_WS) (hd : decode cc pc = .ok (.putfield i, 3)) (k : o_Z (o_up G) own cc ret nL kd En k' (o_setF σ 23 v) (pc + 3) L st) : o_Z (o_up G) own cc ret nL kd En k' σ pc L (.int v :: .ref (g_ad G 6) :: st) :=
  ⟨k.1, fun X C E H locs ls cells slots hP hS hl h1 h2 => by
    obtain ⟨ra, gf, hr, hp, hq⟩ := hP
    exact va_put (D := g_D G) (ci := 7) (v := .int v) (ty := .int) (C := RX7) (T := TX7) (N := 32) C.1 C.2.1 C.2.2.2.2.2.1 oi_X7 tyX7 tyX7_ok nmX7 C.2.2.2.2.1 C.2.2.2.2.2.2.2.1.1 hp hq hS 24 rfl rfl 26 (by decide) (C.2.2.2.2.2.1 _ hw) (fun _ h => h) rfl (by decide +kernel) rfl rfl (Nat.le_of_ble_eq_true rfl) hd (fun H1 locs1 a b c => k.2 X C E H1 locs1 ls cells slots ⟨ra, gf, hr, a, b⟩ c hl h1 h2)⟩
theorem zg_X7_start {i : Nat} (hw : Cond.fieldLink own i "OffsideParserModel" "start" "I" ∈ o_WS) (hd : decode cc pc = .ok (.getfield i, 3)) (k : o_Z (o_up G) own cc ret nL kd En k' σ (pc + 3) L (.int (o_F σ 24) :: st)) : o_Z (o_up G) own cc ret nL kd En k' σ pc L (.ref (g_ad G 6) :: st) :=
  ⟨k.1, fun X C E H locs ls cells slots hP hS hl h1 h2 => by
    obtain ⟨ra, gf, hr, hp, hq⟩ := id hP
    exact va_get (D := g_D G) (ci := 7) (C := RX7) (T := TX7) (N := 32) C.1 C.2.1 C.2.2.2.2.2.1 oi_X7 C.2.2.2.2.1 C.2.2.2.2.2.2.2.1.1 hp 24 rfl rfl 27 (by decide) (C.2.2.2.2.2.1 _ hw) (fun _ h => h) rfl hd (k.2 X C E H locs ls cells slots hP hS hl h1 h2)⟩
theorem zp_X7_start {i : Nat} {v : Int32} (hw : Cond.fieldLink own i "OffsideParserModel" "start" "I" ∈ o_WS) (hd : decode cc pc = .ok (.putfield i, 3)) (k : o_Z (o_up G) own cc ret nL kd En k' (o_setF σ 24 v) (pc + 3) L st) : o_Z (o_up G) own cc ret nL kd En k' σ pc L (.int v :: .ref (g_ad G 6) :: st) :=
  ⟨k.1, fun X C E H locs ls cells slots hP hS hl h1 h2 => by
    obtain ⟨ra, gf, hr, hp, hq⟩ := hP
    exact va_put (D := g_D G) (ci := 7) (v := .int v) (ty := .int) (C := RX7) (T := TX7) (N := 32) C.1 C.2.1 C.2.2.2.2.2.1 oi_X7 tyX7 tyX7_ok nmX7 C.2.2.2.2.1 C.2.2.2.2.2.2.2.1.1 hp hq hS 24 rfl rfl 27 (by decide) (C.2.2.2.2.2.1 _ hw) (fun _ h => h) rfl (by decide +kernel) rfl rfl (Nat.le_of_ble_eq_true rfl) hd (fun H1 locs1 a b c => k.2 X C E H1 locs1 ls cells slots ⟨ra, gf, hr, a, b⟩ c hl h1 h2)⟩
theorem zg_X7_end {i : Nat} (hw : Cond.fieldLink own i "OffsideParserModel" "end" "I" ∈ o_WS) (hd : decode cc pc = .ok (.getfield i, 3)) (k : o_Z (o_up G) own cc ret nL kd En k' σ (pc + 3) L (.int (o_F σ 25) :: st)) : o_Z (o_up G) own cc ret nL kd En k' σ pc L (.ref (g_ad G 6) :: st) :=
  ⟨k.1, fun X C E H locs ls cells slots hP hS hl h1 h2 => by
    obtain ⟨ra, gf, hr, hp, hq⟩ := id hP
    exact va_get (D := g_D G) (ci := 7) (C := RX7) (T := TX7) (N := 32) C.1 C.2.1 C.2.2.2.2.2.1 oi_X7 C.2.2.2.2.1 C.2.2.2.2.2.2.2.1.1 hp 24 rfl rfl 28 (by decide) (C.2.2.2.2.2.1 _ hw) (fun _ h => h) rfl hd (k.2 X C E H locs ls cells slots hP hS hl h1 h2)⟩
theorem zp_X7_end {i : Nat} {v : Int32} (hw : Cond.fieldLink own i "OffsideParserModel" "end" "I" ∈ o_WS) (hd : decode cc pc = .ok (.putfield i, 3)) (k : o_Z (o_up G) own cc ret nL kd En k' (o_setF σ 25 v) (pc + 3) L st) : o_Z (o_up G) own cc ret nL kd En k' σ pc L (.int v :: .ref (g_ad G 6) :: st) :=
  ⟨k.1, fun X C E H locs ls cells slots hP hS hl h1 h2 => by
    obtain ⟨ra, gf, hr, hp, hq⟩ := hP
    exact va_put (D := g_D G) (ci := 7) (v := .int v) (ty := .int) (C := RX7) (T := TX7) (N := 32) C.1 C.2.1 C.2.2.2.2.2.1 oi_X7 tyX7 tyX7_ok nmX7 C.2.2.2.2.1 C.2.2.2.2.2.2.2.1.1 hp hq hS 24 rfl rfl 28 (by decide) (C.2.2.2.2.2.1 _ hw) (fun _ h => h) rfl (by decide +kernel) rfl rfl (Nat.le_of_ble_eq_true rfl) hd (fun H1 locs1 a b c => k.2 X C E H1 locs1 ls cells slots ⟨ra, gf, hr, a, b⟩ c hl h1 h2)⟩
theorem zg_X7_line {i : Nat} (hw : Cond.fieldLink own i "OffsideParserModel" "line" "I" ∈ o_WS) (hd : decode cc pc = .ok (.getfield i, 3)) (k : o_Z (o_up G) own cc ret nL kd En k' σ (pc + 3) L (.int (o_F σ 26) :: st)) : o_Z (o_up G) own cc ret nL kd En k' σ pc L (.ref (g_ad G 6) :: st) :=
  ⟨k.1, fun X C E H locs ls cells slots hP hS hl h1 h2 => by
    obtain ⟨ra, gf, hr, hp, hq⟩ := id hP
    exact va_get (D := g_D G) (ci := 7) (C := RX7) (T := TX7) (N := 32) C.1 C.2.1 C.2.2.2.2.2.1 oi_X7 C.2.2.2.2.1 C.2.2.2.2.2.2.2.1.1 hp 24 rfl rfl 29 (by decide) (C.2.2.2.2.2.1 _ hw) (fun _ h => h) rfl hd (k.2 X C E H locs ls cells slots hP hS hl h1 h2)⟩
theorem zp_X7_line {i : Nat} {v : Int32} (hw : Cond.fieldLink own i "OffsideParserModel" "line" "I" ∈ o_WS) (hd : decode cc pc = .ok (.putfield i, 3)) (k : o_Z (o_up G) own cc ret nL kd En k' (o_setF σ 26 v) (pc + 3) L st) : o_Z (o_up G) own cc ret nL kd En k' σ pc L (.int v :: .ref (g_ad G 6) :: st) :=
  ⟨k.1, fun X C E H locs ls cells slots hP hS hl h1 h2 => by
    obtain ⟨ra, gf, hr, hp, hq⟩ := hP
    exact va_put (D := g_D G) (ci := 7) (v := .int v) (ty := .int) (C := RX7) (T := TX7) (N := 32) C.1 C.2.1 C.2.2.2.2.2.1 oi_X7 tyX7 tyX7_ok nmX7 C.2.2.2.2.1 C.2.2.2.2.2.2.2.1.1 hp hq hS 24 rfl rfl 29 (by decide) (C.2.2.2.2.2.1 _ hw) (fun _ h => h) rfl (by decide +kernel) rfl rfl (Nat.le_of_ble_eq_true rfl) hd (fun H1 locs1 a b c => k.2 X C E H1 locs1 ls cells slots ⟨ra, gf, hr, a, b⟩ c hl h1 h2)⟩
theorem zg_X7_column {i : Nat} (hw : Cond.fieldLink own i "OffsideParserModel" "column" "I" ∈ o_WS) (hd : decode cc pc = .ok (.getfield i, 3)) (k : o_Z (o_up G) own cc ret nL kd En k' σ (pc + 3) L (.int (o_F σ 27) :: st)) : o_Z (o_up G) own cc ret nL kd En k' σ pc L (.ref (g_ad G 6) :: st) :=
  ⟨k.1, fun X C E H locs ls cells slots hP hS hl h1 h2 => by
    obtain ⟨ra, gf, hr, hp, hq⟩ := id hP
    exact va_get (D := g_D G) (ci := 7) (C := RX7) (T := TX7) (N := 32) C.1 C.2.1 C.2.2.2.2.2.1 oi_X7 C.2.2.2.2.1 C.2.2.2.2.2.2.2.1.1 hp 24 rfl rfl 30 (by decide) (C.2.2.2.2.2.1 _ hw) (fun _ h => h) rfl hd (k.2 X C E H locs ls cells slots hP hS hl h1 h2)⟩
theorem zp_X7_column {i : Nat} {v : Int32} (hw : Cond.fieldLink own i "OffsideParserModel" "column" "I" ∈ o_WS) (hd : decode cc pc = .ok (.putfield i, 3)) (k : o_Z (o_up G) own cc ret nL kd En k' (o_setF σ 27 v) (pc + 3) L st) : o_Z (o_up G) own cc ret nL kd En k' σ pc L (.int v :: .ref (g_ad G 6) :: st) :=
  ⟨k.1, fun X C E H locs ls cells slots hP hS hl h1 h2 => by
    obtain ⟨ra, gf, hr, hp, hq⟩ := hP
    exact va_put (D := g_D G) (ci := 7) (v := .int v) (ty := .int) (C := RX7) (T := TX7) (N := 32) C.1 C.2.1 C.2.2.2.2.2.1 oi_X7 tyX7 tyX7_ok nmX7 C.2.2.2.2.1 C.2.2.2.2.2.2.2.1.1 hp hq hS 24 rfl rfl 30 (by decide) (C.2.2.2.2.2.1 _ hw) (fun _ h => h) rfl (by decide +kernel) rfl rfl (Nat.le_of_ble_eq_true rfl) hd (fun H1 locs1 a b c => k.2 X C E H1 locs1 ls cells slots ⟨ra, gf, hr, a, b⟩ c hl h1 h2)⟩
theorem zg_X7_isFirst {i : Nat} (hw : Cond.fieldLink own i "OffsideParserModel" "isFirst" "Z" ∈ o_WS) (hd : decode cc pc = .ok (.getfield i, 3)) (k : o_Z (o_up G) own cc ret nL kd En k' σ (pc + 3) L (.int (o_F σ 28) :: st)) : o_Z (o_up G) own cc ret nL kd En k' σ pc L (.ref (g_ad G 6) :: st) :=
  ⟨k.1, fun X C E H locs ls cells slots hP hS hl h1 h2 => by
    obtain ⟨ra, gf, hr, hp, hq⟩ := id hP
    exact va_get (D := g_D G) (ci := 7) (C := RX7) (T := TX7) (N := 32) C.1 C.2.1 C.2.2.2.2.2.1 oi_X7 C.2.2.2.2.1 C.2.2.2.2.2.2.2.1.1 hp 24 rfl rfl 31 (by decide) (C.2.2.2.2.2.1 _ hw) (fun _ h => h) rfl hd (k.2 X C E H locs ls cells slots hP hS hl h1 h2)⟩
theorem zp_X7_isFirst {i : Nat} {v : Int32} (hb : v = 0 ∨ v = 1) (hw : Cond.fieldLink own i "OffsideParserModel" "isFirst" "Z" ∈ o_WS) (hd : decode cc pc = .ok (.putfield i, 3)) (k : o_Z (o_up G) own cc ret nL kd En k' (o_setF σ 28 v) (pc + 3) L st) : o_Z (o_up G) own cc ret nL kd En k' σ pc L (.int v :: .ref (g_ad G 6) :: st) :=
  ⟨k.1, fun X C E H locs ls cells slots hP hS hl h1 h2 => by
    obtain ⟨ra, gf, hr, hp, hq⟩ := hP
    exact va_put (D := g_D G) (ci := 7) (v := .int v) (ty := .boolean) (C := RX7) (T := TX7) (N := 32) C.1 C.2.1 C.2.2.2.2.2.1 oi_X7 tyX7 tyX7_ok nmX7 C.2.2.2.2.1 C.2.2.2.2.2.2.2.1.1 hp hq hS 24 rfl rfl 31 (by decide) (C.2.2.2.2.2.1 _ hw) (fun _ h => h) rfl (by decide +kernel) (by rcases hb with rfl | rfl <;> rfl) (by rcases hb with rfl | rfl <;> rfl) (Nat.le_of_ble_eq_true rfl) hd (fun H1 locs1 a b c => k.2 X C E H1 locs1 ls cells slots ⟨ra, gf, hr, a, b⟩ c hl h1 h2)⟩
theorem za_text {i : Int32} (hin : ¬ (i < 0 ∨ 600 ≤ i.toNatClampNeg)) (hd : decode cc pc = .ok (.iaload, 1)) (k : o_Z (o_up G) own cc ret nL kd En k' σ (pc + 1) L (.int (o_A σ 0 i.toNatClampNeg) :: st)) : o_Z (o_up G) own cc ret nL kd En k' σ pc L (.int i :: .ref (g_ad G 25) :: st) :=
  ⟨k.1, fun X C E H locs ls cells slots hP hS hl h1 h2 => by
    obtain ⟨ra, gf, hr, hp, hq⟩ := id hP
    exact va_iald C.1 C.2.1 C.2.2.2.2.2.2.2.1.1 hp 25 0 rfl rfl hin hd (k.2 X C E H locs ls cells slots hP hS hl h1 h2)⟩
theorem zs_text {i v : Int32} (hin : ¬ (i < 0 ∨ 600 ≤ i.toNatClampNeg)) (hd : decode cc pc = .ok (.iastore, 1)) (k : o_Z (o_up G) own cc ret nL kd En k' (o_setA σ 0 i.toNatClampNeg v) (pc + 1) L st) : o_Z (o_up G) own cc ret nL kd En k' σ pc L (.int v :: .int i :: .ref (g_ad G 25) :: st) :=
  ⟨k.1, fun X C E H locs ls cells slots hP hS hl h1 h2 => by
    obtain ⟨ra, gf, hr, hp, hq⟩ := hP
    exact va_iast C.1 C.2.1 C.2.2.2.2.2.2.2.1.1 hp hq hS 25 0 rfl rfl hin hd (fun H1 locs1 a b c => k.2 X C E H1 locs1 ls cells slots ⟨ra, gf, hr, a, b⟩ c hl h1 h2)⟩
theorem za_kinds {i : Int32} (hin : ¬ (i < 0 ∨ 1500 ≤ i.toNatClampNeg)) (hd : decode cc pc = .ok (.iaload, 1)) (k : o_Z (o_up G) own cc ret nL kd En k' σ (pc + 1) L (.int (o_A σ 1 i.toNatClampNeg) :: st)) : o_Z (o_up G) own cc ret nL kd En k' σ pc L (.int i :: .ref (g_ad G 26) :: st) :=
  ⟨k.1, fun X C E H locs ls cells slots hP hS hl h1 h2 => by
    obtain ⟨ra, gf, hr, hp, hq⟩ := id hP
    exact va_iald C.1 C.2.1 C.2.2.2.2.2.2.2.1.1 hp 26 0 rfl rfl hin hd (k.2 X C E H locs ls cells slots hP hS hl h1 h2)⟩
theorem zs_kinds {i v : Int32} (hin : ¬ (i < 0 ∨ 1500 ≤ i.toNatClampNeg)) (hd : decode cc pc = .ok (.iastore, 1)) (k : o_Z (o_up G) own cc ret nL kd En k' (o_setA σ 1 i.toNatClampNeg v) (pc + 1) L st) : o_Z (o_up G) own cc ret nL kd En k' σ pc L (.int v :: .int i :: .ref (g_ad G 26) :: st) :=
  ⟨k.1, fun X C E H locs ls cells slots hP hS hl h1 h2 => by
    obtain ⟨ra, gf, hr, hp, hq⟩ := hP
    exact va_iast C.1 C.2.1 C.2.2.2.2.2.2.2.1.1 hp hq hS 26 0 rfl rfl hin hd (fun H1 locs1 a b c => k.2 X C E H1 locs1 ls cells slots ⟨ra, gf, hr, a, b⟩ c hl h1 h2)⟩
theorem za_parents {i : Int32} (hin : ¬ (i < 0 ∨ 1500 ≤ i.toNatClampNeg)) (hd : decode cc pc = .ok (.iaload, 1)) (k : o_Z (o_up G) own cc ret nL kd En k' σ (pc + 1) L (.int (o_A σ 2 i.toNatClampNeg) :: st)) : o_Z (o_up G) own cc ret nL kd En k' σ pc L (.int i :: .ref (g_ad G 27) :: st) :=
  ⟨k.1, fun X C E H locs ls cells slots hP hS hl h1 h2 => by
    obtain ⟨ra, gf, hr, hp, hq⟩ := id hP
    exact va_iald C.1 C.2.1 C.2.2.2.2.2.2.2.1.1 hp 27 0 rfl rfl hin hd (k.2 X C E H locs ls cells slots hP hS hl h1 h2)⟩
theorem zs_parents {i v : Int32} (hin : ¬ (i < 0 ∨ 1500 ≤ i.toNatClampNeg)) (hd : decode cc pc = .ok (.iastore, 1)) (k : o_Z (o_up G) own cc ret nL kd En k' (o_setA σ 2 i.toNatClampNeg v) (pc + 1) L st) : o_Z (o_up G) own cc ret nL kd En k' σ pc L (.int v :: .int i :: .ref (g_ad G 27) :: st) :=
  ⟨k.1, fun X C E H locs ls cells slots hP hS hl h1 h2 => by
    obtain ⟨ra, gf, hr, hp, hq⟩ := hP
    exact va_iast C.1 C.2.1 C.2.2.2.2.2.2.2.1.1 hp hq hS 27 0 rfl rfl hin hd (fun H1 locs1 a b c => k.2 X C E H1 locs1 ls cells slots ⟨ra, gf, hr, a, b⟩ c hl h1 h2)⟩
theorem za_firsts {i : Int32} (hin : ¬ (i < 0 ∨ 1500 ≤ i.toNatClampNeg)) (hd : decode cc pc = .ok (.iaload, 1)) (k : o_Z (o_up G) own cc ret nL kd En k' σ (pc + 1) L (.int (o_A σ 3 i.toNatClampNeg) :: st)) : o_Z (o_up G) own cc ret nL kd En k' σ pc L (.int i :: .ref (g_ad G 28) :: st) :=
  ⟨k.1, fun X C E H locs ls cells slots hP hS hl h1 h2 => by
    obtain ⟨ra, gf, hr, hp, hq⟩ := id hP
    exact va_iald C.1 C.2.1 C.2.2.2.2.2.2.2.1.1 hp 28 0 rfl rfl hin hd (k.2 X C E H locs ls cells slots hP hS hl h1 h2)⟩
theorem zs_firsts {i v : Int32} (hin : ¬ (i < 0 ∨ 1500 ≤ i.toNatClampNeg)) (hd : decode cc pc = .ok (.iastore, 1)) (k : o_Z (o_up G) own cc ret nL kd En k' (o_setA σ 3 i.toNatClampNeg v) (pc + 1) L st) : o_Z (o_up G) own cc ret nL kd En k' σ pc L (.int v :: .int i :: .ref (g_ad G 28) :: st) :=
  ⟨k.1, fun X C E H locs ls cells slots hP hS hl h1 h2 => by
    obtain ⟨ra, gf, hr, hp, hq⟩ := hP
    exact va_iast C.1 C.2.1 C.2.2.2.2.2.2.2.1.1 hp hq hS 28 0 rfl rfl hin hd (fun H1 locs1 a b c => k.2 X C E H1 locs1 ls cells slots ⟨ra, gf, hr, a, b⟩ c hl h1 h2)⟩
theorem za_nexts {i : Int32} (hin : ¬ (i < 0 ∨ 1500 ≤ i.toNatClampNeg)) (hd : decode cc pc = .ok (.iaload, 1)) (k : o_Z (o_up G) own cc ret nL kd En k' σ (pc + 1) L (.int (o_A σ 4 i.toNatClampNeg) :: st)) : o_Z (o_up G) own cc ret nL kd En k' σ pc L (.int i :: .ref (g_ad G 29) :: st) :=
  ⟨k.1, fun X C E H locs ls cells slots hP hS hl h1 h2 => by
    obtain ⟨ra, gf, hr, hp, hq⟩ := id hP
    exact va_iald C.1 C.2.1 C.2.2.2.2.2.2.2.1.1 hp 29 0 rfl rfl hin hd (k.2 X C E H locs ls cells slots hP hS hl h1 h2)⟩
theorem zs_nexts {i v : Int32} (hin : ¬ (i < 0 ∨ 1500 ≤ i.toNatClampNeg)) (hd : decode cc pc = .ok (.iastore, 1)) (k : o_Z (o_up G) own cc ret nL kd En k' (o_setA σ 4 i.toNatClampNeg v) (pc + 1) L st) : o_Z (o_up G) own cc ret nL kd En k' σ pc L (.int v :: .int i :: .ref (g_ad G 29) :: st) :=
  ⟨k.1, fun X C E H locs ls cells slots hP hS hl h1 h2 => by
    obtain ⟨ra, gf, hr, hp, hq⟩ := hP
    exact va_iast C.1 C.2.1 C.2.2.2.2.2.2.2.1.1 hp hq hS 29 0 rfl rfl hin hd (fun H1 locs1 a b c => k.2 X C E H1 locs1 ls cells slots ⟨ra, gf, hr, a, b⟩ c hl h1 h2)⟩
theorem za_lines {i : Int32} (hin : ¬ (i < 0 ∨ 1500 ≤ i.toNatClampNeg)) (hd : decode cc pc = .ok (.iaload, 1)) (k : o_Z (o_up G) own cc ret nL kd En k' σ (pc + 1) L (.int (o_A σ 5 i.toNatClampNeg) :: st)) : o_Z (o_up G) own cc ret nL kd En k' σ pc L (.int i :: .ref (g_ad G 30) :: st) :=
  ⟨k.1, fun X C E H locs ls cells slots hP hS hl h1 h2 => by
    obtain ⟨ra, gf, hr, hp, hq⟩ := id hP
    exact va_iald C.1 C.2.1 C.2.2.2.2.2.2.2.1.1 hp 30 0 rfl rfl hin hd (k.2 X C E H locs ls cells slots hP hS hl h1 h2)⟩
theorem zs_lines {i v : Int32} (hin : ¬ (i < 0 ∨ 1500 ≤ i.toNatClampNeg)) (hd : decode cc pc = .ok (.iastore, 1)) (k : o_Z (o_up G) own cc ret nL kd En k' (o_setA σ 5 i.toNatClampNeg v) (pc + 1) L st) : o_Z (o_up G) own cc ret nL kd En k' σ pc L (.int v :: .int i :: .ref (g_ad G 30) :: st) :=
  ⟨k.1, fun X C E H locs ls cells slots hP hS hl h1 h2 => by
    obtain ⟨ra, gf, hr, hp, hq⟩ := hP
    exact va_iast C.1 C.2.1 C.2.2.2.2.2.2.2.1.1 hp hq hS 30 0 rfl rfl hin hd (fun H1 locs1 a b c => k.2 X C E H1 locs1 ls cells slots ⟨ra, gf, hr, a, b⟩ c hl h1 h2)⟩
theorem za_columns {i : Int32} (hin : ¬ (i < 0 ∨ 1500 ≤ i.toNatClampNeg)) (hd : decode cc pc = .ok (.iaload, 1)) (k : o_Z (o_up G) own cc ret nL kd En k' σ (pc + 1) L (.int (o_A σ 6 i.toNatClampNeg) :: st)) : o_Z (o_up G) own cc ret nL kd En k' σ pc L (.int i :: .ref (g_ad G 31) :: st) :=
  ⟨k.1, fun X C E H locs ls cells slots hP hS hl h1 h2 => by
    obtain ⟨ra, gf, hr, hp, hq⟩ := id hP
    exact va_iald C.1 C.2.1 C.2.2.2.2.2.2.2.1.1 hp 31 0 rfl rfl hin hd (k.2 X C E H locs ls cells slots hP hS hl h1 h2)⟩
theorem zs_columns {i v : Int32} (hin : ¬ (i < 0 ∨ 1500 ≤ i.toNatClampNeg)) (hd : decode cc pc = .ok (.iastore, 1)) (k : o_Z (o_up G) own cc ret nL kd En k' (o_setA σ 6 i.toNatClampNeg v) (pc + 1) L st) : o_Z (o_up G) own cc ret nL kd En k' σ pc L (.int v :: .int i :: .ref (g_ad G 31) :: st) :=
  ⟨k.1, fun X C E H locs ls cells slots hP hS hl h1 h2 => by
    obtain ⟨ra, gf, hr, hp, hq⟩ := hP
    exact va_iast C.1 C.2.1 C.2.2.2.2.2.2.2.1.1 hp hq hS 31 0 rfl rfl hin hd (fun H1 locs1 a b c => k.2 X C E H1 locs1 ls cells slots ⟨ra, gf, hr, a, b⟩ c hl h1 h2)⟩
theorem za_values {i : Int32} (hin : ¬ (i < 0 ∨ 1500 ≤ i.toNatClampNeg)) (hd : decode cc pc = .ok (.iaload, 1)) (k : o_Z (o_up G) own cc ret nL kd En k' σ (pc + 1) L (.int (o_A σ 7 i.toNatClampNeg) :: st)) : o_Z (o_up G) own cc ret nL kd En k' σ pc L (.int i :: .ref (g_ad G 32) :: st) :=
  ⟨k.1, fun X C E H locs ls cells slots hP hS hl h1 h2 => by
    obtain ⟨ra, gf, hr, hp, hq⟩ := id hP
    exact va_iald C.1 C.2.1 C.2.2.2.2.2.2.2.1.1 hp 32 0 rfl rfl hin hd (k.2 X C E H locs ls cells slots hP hS hl h1 h2)⟩
theorem zs_values {i v : Int32} (hin : ¬ (i < 0 ∨ 1500 ≤ i.toNatClampNeg)) (hd : decode cc pc = .ok (.iastore, 1)) (k : o_Z (o_up G) own cc ret nL kd En k' (o_setA σ 7 i.toNatClampNeg v) (pc + 1) L st) : o_Z (o_up G) own cc ret nL kd En k' σ pc L (.int v :: .int i :: .ref (g_ad G 32) :: st) :=
  ⟨k.1, fun X C E H locs ls cells slots hP hS hl h1 h2 => by
    obtain ⟨ra, gf, hr, hp, hq⟩ := hP
    exact va_iast C.1 C.2.1 C.2.2.2.2.2.2.2.1.1 hp hq hS 32 0 rfl rfl hin hd (fun H1 locs1 a b c => k.2 X C E H1 locs1 ls cells slots ⟨ra, gf, hr, a, b⟩ c hl h1 h2)⟩
theorem za_starts {i : Int32} (hin : ¬ (i < 0 ∨ 1500 ≤ i.toNatClampNeg)) (hd : decode cc pc = .ok (.iaload, 1)) (k : o_Z (o_up G) own cc ret nL kd En k' σ (pc + 1) L (.int (o_A σ 8 i.toNatClampNeg) :: st)) : o_Z (o_up G) own cc ret nL kd En k' σ pc L (.int i :: .ref (g_ad G 33) :: st) :=
  ⟨k.1, fun X C E H locs ls cells slots hP hS hl h1 h2 => by
    obtain ⟨ra, gf, hr, hp, hq⟩ := id hP
    exact va_iald C.1 C.2.1 C.2.2.2.2.2.2.2.1.1 hp 33 0 rfl rfl hin hd (k.2 X C E H locs ls cells slots hP hS hl h1 h2)⟩
theorem zs_starts {i v : Int32} (hin : ¬ (i < 0 ∨ 1500 ≤ i.toNatClampNeg)) (hd : decode cc pc = .ok (.iastore, 1)) (k : o_Z (o_up G) own cc ret nL kd En k' (o_setA σ 8 i.toNatClampNeg v) (pc + 1) L st) : o_Z (o_up G) own cc ret nL kd En k' σ pc L (.int v :: .int i :: .ref (g_ad G 33) :: st) :=
  ⟨k.1, fun X C E H locs ls cells slots hP hS hl h1 h2 => by
    obtain ⟨ra, gf, hr, hp, hq⟩ := hP
    exact va_iast C.1 C.2.1 C.2.2.2.2.2.2.2.1.1 hp hq hS 33 0 rfl rfl hin hd (fun H1 locs1 a b c => k.2 X C E H1 locs1 ls cells slots ⟨ra, gf, hr, a, b⟩ c hl h1 h2)⟩
theorem za_letters {i : Int32} (hin : ¬ (i < 0 ∨ 12600 ≤ i.toNatClampNeg)) (hd : decode cc pc = .ok (.iaload, 1)) (k : o_Z (o_up G) own cc ret nL kd En k' σ (pc + 1) L (.int (o_A σ 9 i.toNatClampNeg) :: st)) : o_Z (o_up G) own cc ret nL kd En k' σ pc L (.int i :: .ref (g_ad G 34) :: st) :=
  ⟨k.1, fun X C E H locs ls cells slots hP hS hl h1 h2 => by
    obtain ⟨ra, gf, hr, hp, hq⟩ := id hP
    exact va_iald C.1 C.2.1 C.2.2.2.2.2.2.2.1.1 hp 34 0 rfl rfl hin hd (k.2 X C E H locs ls cells slots hP hS hl h1 h2)⟩
theorem zs_letters {i v : Int32} (hin : ¬ (i < 0 ∨ 12600 ≤ i.toNatClampNeg)) (hd : decode cc pc = .ok (.iastore, 1)) (k : o_Z (o_up G) own cc ret nL kd En k' (o_setA σ 9 i.toNatClampNeg v) (pc + 1) L st) : o_Z (o_up G) own cc ret nL kd En k' σ pc L (.int v :: .int i :: .ref (g_ad G 34) :: st) :=
  ⟨k.1, fun X C E H locs ls cells slots hP hS hl h1 h2 => by
    obtain ⟨ra, gf, hr, hp, hq⟩ := hP
    exact va_iast C.1 C.2.1 C.2.2.2.2.2.2.2.1.1 hp hq hS 34 0 rfl rfl hin hd (fun H1 locs1 a b c => k.2 X C E H1 locs1 ls cells slots ⟨ra, gf, hr, a, b⟩ c hl h1 h2)⟩
theorem za_idOf {i : Int32} (hin : ¬ (i < 0 ∨ 1500 ≤ i.toNatClampNeg)) (hd : decode cc pc = .ok (.iaload, 1)) (k : o_Z (o_up G) own cc ret nL kd En k' σ (pc + 1) L (.int (o_A σ 10 i.toNatClampNeg) :: st)) : o_Z (o_up G) own cc ret nL kd En k' σ pc L (.int i :: .ref (g_ad G 35) :: st) :=
  ⟨k.1, fun X C E H locs ls cells slots hP hS hl h1 h2 => by
    obtain ⟨ra, gf, hr, hp, hq⟩ := id hP
    exact va_iald C.1 C.2.1 C.2.2.2.2.2.2.2.1.1 hp 35 0 rfl rfl hin hd (k.2 X C E H locs ls cells slots hP hS hl h1 h2)⟩
theorem zs_idOf {i v : Int32} (hin : ¬ (i < 0 ∨ 1500 ≤ i.toNatClampNeg)) (hd : decode cc pc = .ok (.iastore, 1)) (k : o_Z (o_up G) own cc ret nL kd En k' (o_setA σ 10 i.toNatClampNeg v) (pc + 1) L st) : o_Z (o_up G) own cc ret nL kd En k' σ pc L (.int v :: .int i :: .ref (g_ad G 35) :: st) :=
  ⟨k.1, fun X C E H locs ls cells slots hP hS hl h1 h2 => by
    obtain ⟨ra, gf, hr, hp, hq⟩ := hP
    exact va_iast C.1 C.2.1 C.2.2.2.2.2.2.2.1.1 hp hq hS 35 0 rfl rfl hin hd (fun H1 locs1 a b c => k.2 X C E H1 locs1 ls cells slots ⟨ra, gf, hr, a, b⟩ c hl h1 h2)⟩
theorem za_numberOf {i : Int32} (hin : ¬ (i < 0 ∨ 1500 ≤ i.toNatClampNeg)) (hd : decode cc pc = .ok (.iaload, 1)) (k : o_Z (o_up G) own cc ret nL kd En k' σ (pc + 1) L (.int (o_A σ 11 i.toNatClampNeg) :: st)) : o_Z (o_up G) own cc ret nL kd En k' σ pc L (.int i :: .ref (g_ad G 36) :: st) :=
  ⟨k.1, fun X C E H locs ls cells slots hP hS hl h1 h2 => by
    obtain ⟨ra, gf, hr, hp, hq⟩ := id hP
    exact va_iald C.1 C.2.1 C.2.2.2.2.2.2.2.1.1 hp 36 0 rfl rfl hin hd (k.2 X C E H locs ls cells slots hP hS hl h1 h2)⟩
theorem zs_numberOf {i v : Int32} (hin : ¬ (i < 0 ∨ 1500 ≤ i.toNatClampNeg)) (hd : decode cc pc = .ok (.iastore, 1)) (k : o_Z (o_up G) own cc ret nL kd En k' (o_setA σ 11 i.toNatClampNeg v) (pc + 1) L st) : o_Z (o_up G) own cc ret nL kd En k' σ pc L (.int v :: .int i :: .ref (g_ad G 36) :: st) :=
  ⟨k.1, fun X C E H locs ls cells slots hP hS hl h1 h2 => by
    obtain ⟨ra, gf, hr, hp, hq⟩ := hP
    exact va_iast C.1 C.2.1 C.2.2.2.2.2.2.2.1.1 hp hq hS 36 0 rfl rfl hin hd (fun H1 locs1 a b c => k.2 X C E H1 locs1 ls cells slots ⟨ra, gf, hr, a, b⟩ c hl h1 h2)⟩
theorem za_repairParts {i : Int32} (hin : ¬ (i < 0 ∨ 3900 ≤ i.toNatClampNeg)) (hd : decode cc pc = .ok (.iaload, 1)) (k : o_Z (o_up G) own cc ret nL kd En k' σ (pc + 1) L (.int (o_A σ 12 i.toNatClampNeg) :: st)) : o_Z (o_up G) own cc ret nL kd En k' σ pc L (.int i :: .ref (g_ad G 37) :: st) :=
  ⟨k.1, fun X C E H locs ls cells slots hP hS hl h1 h2 => by
    obtain ⟨ra, gf, hr, hp, hq⟩ := id hP
    exact va_iald C.1 C.2.1 C.2.2.2.2.2.2.2.1.1 hp 37 0 rfl rfl hin hd (k.2 X C E H locs ls cells slots hP hS hl h1 h2)⟩
theorem zs_repairParts {i v : Int32} (hin : ¬ (i < 0 ∨ 3900 ≤ i.toNatClampNeg)) (hd : decode cc pc = .ok (.iastore, 1)) (k : o_Z (o_up G) own cc ret nL kd En k' (o_setA σ 12 i.toNatClampNeg v) (pc + 1) L st) : o_Z (o_up G) own cc ret nL kd En k' σ pc L (.int v :: .int i :: .ref (g_ad G 37) :: st) :=
  ⟨k.1, fun X C E H locs ls cells slots hP hS hl h1 h2 => by
    obtain ⟨ra, gf, hr, hp, hq⟩ := hP
    exact va_iast C.1 C.2.1 C.2.2.2.2.2.2.2.1.1 hp hq hS 37 0 rfl rfl hin hd (fun H1 locs1 a b c => k.2 X C E H1 locs1 ls cells slots ⟨ra, gf, hr, a, b⟩ c hl h1 h2)⟩
theorem za_output {i : Int32} (hin : ¬ (i < 0 ∨ 60000 ≤ i.toNatClampNeg)) (hd : decode cc pc = .ok (.iaload, 1)) (k : o_Z (o_up G) own cc ret nL kd En k' σ (pc + 1) L (.int (o_A σ 13 i.toNatClampNeg) :: st)) : o_Z (o_up G) own cc ret nL kd En k' σ pc L (.int i :: .ref (g_ad G 38) :: st) :=
  ⟨k.1, fun X C E H locs ls cells slots hP hS hl h1 h2 => by
    obtain ⟨ra, gf, hr, hp, hq⟩ := id hP
    exact va_iald C.1 C.2.1 C.2.2.2.2.2.2.2.1.1 hp 38 0 rfl rfl hin hd (k.2 X C E H locs ls cells slots hP hS hl h1 h2)⟩
theorem zs_output {i v : Int32} (hin : ¬ (i < 0 ∨ 60000 ≤ i.toNatClampNeg)) (hd : decode cc pc = .ok (.iastore, 1)) (k : o_Z (o_up G) own cc ret nL kd En k' (o_setA σ 13 i.toNatClampNeg v) (pc + 1) L st) : o_Z (o_up G) own cc ret nL kd En k' σ pc L (.int v :: .int i :: .ref (g_ad G 38) :: st) :=
  ⟨k.1, fun X C E H locs ls cells slots hP hS hl h1 h2 => by
    obtain ⟨ra, gf, hr, hp, hq⟩ := hP
    exact va_iast C.1 C.2.1 C.2.2.2.2.2.2.2.1.1 hp hq hS 38 0 rfl rfl hin hd (fun H1 locs1 a b c => k.2 X C E H1 locs1 ls cells slots ⟨ra, gf, hr, a, b⟩ c hl h1 h2)⟩
theorem za_fed {i : Int32} (hin : ¬ (i < 0 ∨ 8 ≤ i.toNatClampNeg)) (hd : decode cc pc = .ok (.iaload, 1)) (k : o_Z (o_up G) own cc ret nL kd En k' σ (pc + 1) L (.int (o_A σ 14 i.toNatClampNeg) :: st)) : o_Z (o_up G) own cc ret nL kd En k' σ pc L (.int i :: .ref (g_ad G 39) :: st) :=
  ⟨k.1, fun X C E H locs ls cells slots hP hS hl h1 h2 => by
    obtain ⟨ra, gf, hr, hp, hq⟩ := id hP
    exact va_iald C.1 C.2.1 C.2.2.2.2.2.2.2.1.1 hp 39 0 rfl rfl hin hd (k.2 X C E H locs ls cells slots hP hS hl h1 h2)⟩
theorem zs_fed {i v : Int32} (hin : ¬ (i < 0 ∨ 8 ≤ i.toNatClampNeg)) (hd : decode cc pc = .ok (.iastore, 1)) (k : o_Z (o_up G) own cc ret nL kd En k' (o_setA σ 14 i.toNatClampNeg v) (pc + 1) L st) : o_Z (o_up G) own cc ret nL kd En k' σ pc L (.int v :: .int i :: .ref (g_ad G 39) :: st) :=
  ⟨k.1, fun X C E H locs ls cells slots hP hS hl h1 h2 => by
    obtain ⟨ra, gf, hr, hp, hq⟩ := hP
    exact va_iast C.1 C.2.1 C.2.2.2.2.2.2.2.1.1 hp hq hS 39 0 rfl rfl hin hd (fun H1 locs1 a b c => k.2 X C E H1 locs1 ls cells slots ⟨ra, gf, hr, a, b⟩ c hl h1 h2)⟩
theorem za_openIds {i : Int32} (hin : ¬ (i < 0 ∨ 32 ≤ i.toNatClampNeg)) (hd : decode cc pc = .ok (.iaload, 1)) (k : o_Z (o_up G) own cc ret nL kd En k' σ (pc + 1) L (.int (o_A σ 15 i.toNatClampNeg) :: st)) : o_Z (o_up G) own cc ret nL kd En k' σ pc L (.int i :: .ref (g_ad G 40) :: st) :=
  ⟨k.1, fun X C E H locs ls cells slots hP hS hl h1 h2 => by
    obtain ⟨ra, gf, hr, hp, hq⟩ := id hP
    exact va_iald C.1 C.2.1 C.2.2.2.2.2.2.2.1.1 hp 40 0 rfl rfl hin hd (k.2 X C E H locs ls cells slots hP hS hl h1 h2)⟩
theorem zs_openIds {i v : Int32} (hin : ¬ (i < 0 ∨ 32 ≤ i.toNatClampNeg)) (hd : decode cc pc = .ok (.iastore, 1)) (k : o_Z (o_up G) own cc ret nL kd En k' (o_setA σ 15 i.toNatClampNeg v) (pc + 1) L st) : o_Z (o_up G) own cc ret nL kd En k' σ pc L (.int v :: .int i :: .ref (g_ad G 40) :: st) :=
  ⟨k.1, fun X C E H locs ls cells slots hP hS hl h1 h2 => by
    obtain ⟨ra, gf, hr, hp, hq⟩ := hP
    exact va_iast C.1 C.2.1 C.2.2.2.2.2.2.2.1.1 hp hq hS 40 0 rfl rfl hin hd (fun H1 locs1 a b c => k.2 X C E H1 locs1 ls cells slots ⟨ra, gf, hr, a, b⟩ c hl h1 h2)⟩
theorem za_openColumns {i : Int32} (hin : ¬ (i < 0 ∨ 32 ≤ i.toNatClampNeg)) (hd : decode cc pc = .ok (.iaload, 1)) (k : o_Z (o_up G) own cc ret nL kd En k' σ (pc + 1) L (.int (o_A σ 16 i.toNatClampNeg) :: st)) : o_Z (o_up G) own cc ret nL kd En k' σ pc L (.int i :: .ref (g_ad G 41) :: st) :=
  ⟨k.1, fun X C E H locs ls cells slots hP hS hl h1 h2 => by
    obtain ⟨ra, gf, hr, hp, hq⟩ := id hP
    exact va_iald C.1 C.2.1 C.2.2.2.2.2.2.2.1.1 hp 41 0 rfl rfl hin hd (k.2 X C E H locs ls cells slots hP hS hl h1 h2)⟩
theorem zs_openColumns {i v : Int32} (hin : ¬ (i < 0 ∨ 32 ≤ i.toNatClampNeg)) (hd : decode cc pc = .ok (.iastore, 1)) (k : o_Z (o_up G) own cc ret nL kd En k' (o_setA σ 16 i.toNatClampNeg v) (pc + 1) L st) : o_Z (o_up G) own cc ret nL kd En k' σ pc L (.int v :: .int i :: .ref (g_ad G 41) :: st) :=
  ⟨k.1, fun X C E H locs ls cells slots hP hS hl h1 h2 => by
    obtain ⟨ra, gf, hr, hp, hq⟩ := hP
    exact va_iast C.1 C.2.1 C.2.2.2.2.2.2.2.1.1 hp hq hS 41 0 rfl rfl hin hd (fun H1 locs1 a b c => k.2 X C E H1 locs1 ls cells slots ⟨ra, gf, hr, a, b⟩ c hl h1 h2)⟩
theorem za_items {i : Int32} (hin : ¬ (i < 0 ∨ 32 ≤ i.toNatClampNeg)) (hd : decode cc pc = .ok (.iaload, 1)) (k : o_Z (o_up G) own cc ret nL kd En k' σ (pc + 1) L (.int (o_A σ 17 i.toNatClampNeg) :: st)) : o_Z (o_up G) own cc ret nL kd En k' σ pc L (.int i :: .ref (g_ad G 42) :: st) :=
  ⟨k.1, fun X C E H locs ls cells slots hP hS hl h1 h2 => by
    obtain ⟨ra, gf, hr, hp, hq⟩ := id hP
    exact va_iald C.1 C.2.1 C.2.2.2.2.2.2.2.1.1 hp 42 0 rfl rfl hin hd (k.2 X C E H locs ls cells slots hP hS hl h1 h2)⟩
theorem zs_items {i v : Int32} (hin : ¬ (i < 0 ∨ 32 ≤ i.toNatClampNeg)) (hd : decode cc pc = .ok (.iastore, 1)) (k : o_Z (o_up G) own cc ret nL kd En k' (o_setA σ 17 i.toNatClampNeg v) (pc + 1) L st) : o_Z (o_up G) own cc ret nL kd En k' σ pc L (.int v :: .int i :: .ref (g_ad G 42) :: st) :=
  ⟨k.1, fun X C E H locs ls cells slots hP hS hl h1 h2 => by
    obtain ⟨ra, gf, hr, hp, hq⟩ := hP
    exact va_iast C.1 C.2.1 C.2.2.2.2.2.2.2.1.1 hp hq hS 42 0 rfl rfl hin hd (fun H1 locs1 a b c => k.2 X C E H1 locs1 ls cells slots ⟨ra, gf, hr, a, b⟩ c hl h1 h2)⟩
theorem za_outL {i : Int32} (hin : ¬ (i < 0 ∨ 1 ≤ i.toNatClampNeg)) (hd : decode cc pc = .ok (.laload, 1)) (k : o_Z (o_up (o_ou G)) own cc ret nL kd En k' σ (pc + 1) L (.long (o_O σ i.toNatClampNeg) :: st)) : o_Z (o_up (o_ou G)) own cc ret nL kd En k' σ pc L (.int i :: .ref (g_ad G 43) :: st) :=
  ⟨k.1, fun X C E H locs ls cells slots hP hS hl h1 h2 => by
    obtain ⟨ra, gf, hr, hp, hq⟩ := id hP
    exact va_lald C.1 C.2.1 C.2.2.2.2.2.2.2.1.1 hp 43 1 rfl rfl hin hd (k.2 X C E H locs ls cells slots hP hS hl h1 h2)⟩
theorem zs_outL {i : Int32} {v : Int64} (hin : ¬ (i < 0 ∨ 1 ≤ i.toNatClampNeg)) (hd : decode cc pc = .ok (.lastore, 1)) (k : o_Z (o_up (o_ou G)) own cc ret nL kd En k' (o_setO σ i.toNatClampNeg v) (pc + 1) L st) : o_Z (o_up (o_ou G)) own cc ret nL kd En k' σ pc L (.long v :: .int i :: .ref (g_ad G 43) :: st) :=
  ⟨k.1, fun X C E H locs ls cells slots hP hS hl h1 h2 => by
    obtain ⟨ra, gf, hr, hp, hq⟩ := hP
    exact va_last C.1 C.2.1 C.2.2.2.2.2.2.2.1.1 hp hq hS 43 1 rfl rfl hin hd (fun H1 locs1 a b c => k.2 X C E H1 locs1 ls cells slots ⟨ra, gf, hr, a, b⟩ c hl h1 h2)⟩
end
