def f_L_feed (N : Nat) (p1 : Int64) (s : o_S) : Option (Int32 × o_S) :=
  o_bx (f_X6_feed N p1 s) (fun e s => if e = 1 then some (1, s) else if e = 2 then some (2, s) else none) fun v s => o_do (o_setO s 0 (Int32.toInt64 v)) fun s => some ((0 : Int32), s)
def f_L_trim (N : Nat) (p1 : Int32) (s : o_S) : Option (Int32 × o_S) :=
  o_bx (f_X6_trim N p1 s) (fun e s => if e = 1 then some (1, s) else none) fun v s => o_do (o_setO s 0 (Int32.toInt64 v)) fun s => some ((0 : Int32), s)
def f_L_repair (N : Nat) (p1 : Int32) (p2 : Int32) (s : o_S) : Option (Int32 × o_S) :=
  o_bx (f_X6_repair N p1 p2 s) (fun e s => if e = 3 then some (1, s) else none) fun v s => o_do (o_setO s 0 (Int32.toInt64 v)) fun s => some ((0 : Int32), s)
def f_L_kind (N : Nat) (p1 : Int32) (s : o_S) : Option (Int32 × o_S) :=
  o_bx (f_X6_kind N p1 s) (fun e s => if e = 3 then some (1, s) else none) fun v s => o_do (o_setO s 0 (Int32.toInt64 v)) fun s => some ((0 : Int32), s)
def f_L_parent (N : Nat) (p1 : Int32) (s : o_S) : Option (Int32 × o_S) :=
  o_bx (f_X6_parent N p1 s) (fun e s => if e = 3 then some (1, s) else none) fun v s => o_do (o_setO s 0 (Int32.toInt64 v)) fun s => some ((0 : Int32), s)
def f_L_childCount (N : Nat) (p1 : Int32) (s : o_S) : Option (Int32 × o_S) :=
  o_bx (f_X6_childCount N p1 s) (fun e s => if e = 3 then some (1, s) else none) fun v s => o_do (o_setO s 0 (Int32.toInt64 v)) fun s => some ((0 : Int32), s)
def f_L_child (N : Nat) (p1 : Int32) (p2 : Int32) (s : o_S) : Option (Int32 × o_S) :=
  o_bx (f_X6_child N p1 p2 s) (fun e s => if e = 3 then some (1, s) else none) fun v s => o_do (o_setO s 0 (Int32.toInt64 v)) fun s => some ((0 : Int32), s)
def f_L_line (N : Nat) (p1 : Int32) (s : o_S) : Option (Int32 × o_S) :=
  o_bx (f_X6_line N p1 s) (fun e s => if e = 3 then some (1, s) else none) fun v s => o_do (o_setO s 0 (Int32.toInt64 v)) fun s => some ((0 : Int32), s)
def f_L_column (N : Nat) (p1 : Int32) (s : o_S) : Option (Int32 × o_S) :=
  o_bx (f_X6_column N p1 s) (fun e s => if e = 3 then some (1, s) else none) fun v s => o_do (o_setO s 0 (Int32.toInt64 v)) fun s => some ((0 : Int32), s)
def f_L_value (N : Nat) (p1 : Int32) (s : o_S) : Option (Int32 × o_S) :=
  o_bx (f_X6_value N p1 s) (fun e s => if e = 3 then some (1, s) else none) fun v s => o_do (o_setO s 0 (Int32.toInt64 v)) fun s => some ((0 : Int32), s)
def f_L_letter (N : Nat) (p1 : Int32) (p2 : Int32) (s : o_S) : Option (Int32 × o_S) :=
  o_bx (f_X6_letter N p1 p2 s) (fun e s => if e = 3 then some (1, s) else none) fun v s => o_do (o_setO s 0 (Int32.toInt64 v)) fun s => some ((0 : Int32), s)
def f_L_depth (N : Nat) (p1 : Int32) (s : o_S) : Option (Int32 × o_S) :=
  o_bx (f_X6_depth N p1 s) (fun e s => if e = 3 then some (1, s) else none) fun v s => o_do (o_setO s 0 (Int32.toInt64 v)) fun s => some ((0 : Int32), s)
def f_L_remove (N : Nat) (p1 : Int32) (s : o_S) : Option (Int32 × o_S) :=
  o_bx (f_X6_remove N p1 s) (fun e s => if e = 3 then some (1, s) else if e = 1 then some (2, s) else none) fun v s => o_do (o_setO s 0 (Int32.toInt64 v)) fun s => some ((0 : Int32), s)
def f_L_move (N : Nat) (p1 : Int32) (p2 : Int32) (p3 : Int32) (s : o_S) : Option (Int32 × o_S) :=
  o_bx (f_X6_move N p1 p2 p3 s) (fun e s => if e = 3 then some (1, s) else if e = 1 then some (2, s) else none) fun v s => o_do (o_setO s 0 (Int32.toInt64 v)) fun s => some ((0 : Int32), s)
def f_L_rename (N : Nat) (p1 : Int32) (p2 : Int64) (s : o_S) : Option (Int32 × o_S) :=
  o_bx (f_X6_rename N p1 p2 s) (fun e s => if e = 3 then some (1, s) else if e = 1 then some (2, s) else none) fun v s => o_do (o_setO s 0 (Int32.toInt64 v)) fun s => some ((0 : Int32), s)
def f_L_written (N : Nat) (p1 : Int32) (s : o_S) : Option (Int32 × o_S) :=
  o_bx (f_X6_written N p1 s) (fun e s => if e = 3 then some (1, s) else none) fun v s => o_do (o_setO s 0 (Int32.toInt64 v)) fun s => some ((0 : Int32), s)
