/-! THE SYSTEM'S STATE: int fields (by number), the reference's arrays, the nine rows (room, contents), the law's long, a count of what was made -/
abbrev o_S : Type := (Nat → Int32) × (Nat → Nat → Int32) × (Nat → Nat × List Int32) × (Nat → Int64) × Nat
def o_F (σ : o_S) (k : Nat) : Int32 := σ.1 k
def o_A (σ : o_S) (a i : Nat) : Int32 := σ.2.1 a i
def o_R (σ : o_S) (r : Nat) : List Int32 := (σ.2.2.1 r).2
def o_cap (σ : o_S) (r : Nat) : Nat := (σ.2.2.1 r).1
def o_O (σ : o_S) (i : Nat) : Int64 := σ.2.2.2.1 i
def o_k (σ : o_S) : Nat := σ.2.2.2.2
def o_setF (σ : o_S) (k : Nat) (v : Int32) : o_S := (upd σ.1 k v, σ.2)
def o_setA (σ : o_S) (a i : Nat) (v : Int32) : o_S := (σ.1, (fun b => if b = a then upd (σ.2.1 b) i v else σ.2.1 b), σ.2.2)
def o_setR (σ : o_S) (r cap : Nat) (xs : List Int32) : o_S := (σ.1, σ.2.1, (fun q => if q = r then (cap, xs) else σ.2.2.1 q), σ.2.2.2)
def o_setO (σ : o_S) (i : Nat) (v : Int64) : o_S := (σ.1, σ.2.1, σ.2.2.1, vp_updL σ.2.2.2.1 i v, σ.2.2.2.2)
def o_addK (σ : o_S) (n : Nat) : o_S := (σ.1, σ.2.1, σ.2.2.1, σ.2.2.2.1, σ.2.2.2.2 + n)
/-! WHAT IS FIXED IN A RUN: the launch, the classes' numbers, the two array classes, the objects' addresses, the heap's size at the start -/
abbrev o_G : Type := Launch × (Nat → ClassId) × (Nat → Nat → Nat) × ClassId × ClassId × (Nat → Nat) × Nat × Nat
abbrev g_l (G : o_G) : Launch := G.1
abbrev g_D (G : o_G) : va_G := (G.2.1, G.2.2.1)
abbrev g_I (G : o_G) : ClassId := G.2.2.2.1
abbrev g_J (G : o_G) : ClassId := G.2.2.2.2.1
def g_ad (G : o_G) (k : Nat) : Nat := G.2.2.2.2.2.1 k
def g_n0 (G : o_G) : Nat := G.2.2.2.2.2.2.1
/-- how many of the cells that come behind the class's own are there: 0 before the reference is made, 19 with it, 20 with the law's array -/
def g_u (G : o_G) : Nat := G.2.2.2.2.2.2.2
def o_ou (G : o_G) : o_G := (G.1, G.2.1, G.2.2.1, G.2.2.2.1, G.2.2.2.2.1, G.2.2.2.2.2.1, G.2.2.2.2.2.2.1, G.2.2.2.2.2.2.2 + 1)
def o_up (G : o_G) : o_G := (G.1, G.2.1, G.2.2.1, G.2.2.2.1, G.2.2.2.2.1, G.2.2.2.2.2.1, G.2.2.2.2.2.2.1, G.2.2.2.2.2.2.2 + 19)
def g_A (G : o_G) : Nat → Prop := fun q => g_n0 G ≤ q
abbrev o_cl : List vw_C := [(RX0, TX0, 9), (RX1, TX1, 13), (RX2, TX2, 2), (RX3, TX3, 2), (RX4, TX4, 2), (RX5, TX5, 3), (RX6, TX6, 7), (RX7, TX7, 32)]
abbrev o_ty (G : o_G) : List (ClassId × FieldType) := [(g_I G, .int), (g_J G, .long)]
/-- the cells behind the class: the reference with its arrays, the law's array -/
def o_WM (G : o_G) (σ : o_S) : va_W :=
  [(g_ad G 6, .inr (7, [.int (o_F σ 15), .ref (g_ad G 25), .int (o_F σ 16), .int (o_F σ 17), .ref (g_ad G 26), .ref (g_ad G 27), .ref (g_ad G 28), .ref (g_ad G 29), .ref (g_ad G 30), .ref (g_ad G 31), .ref (g_ad G 32), .ref (g_ad G 33), .ref (g_ad G 34), .int (o_F σ 18), .ref (g_ad G 35), .ref (g_ad G 36), .int (o_F σ 19), .ref (g_ad G 37), .ref (g_ad G 38), .int (o_F σ 20), .ref (g_ad G 39), .int (o_F σ 21), .ref (g_ad G 40), .ref (g_ad G 41), .ref (g_ad G 42), .int (o_F σ 22), .int (o_F σ 23), .int (o_F σ 24), .int (o_F σ 25), .int (o_F σ 26), .int (o_F σ 27), .int (o_F σ 28)])),
   (g_ad G 25, .inl (g_I G, 600, .inl (o_A σ 0))),
   (g_ad G 26, .inl (g_I G, 1500, .inl (o_A σ 1))),
   (g_ad G 27, .inl (g_I G, 1500, .inl (o_A σ 2))),
   (g_ad G 28, .inl (g_I G, 1500, .inl (o_A σ 3))),
   (g_ad G 29, .inl (g_I G, 1500, .inl (o_A σ 4))),
   (g_ad G 30, .inl (g_I G, 1500, .inl (o_A σ 5))),
   (g_ad G 31, .inl (g_I G, 1500, .inl (o_A σ 6))),
   (g_ad G 32, .inl (g_I G, 1500, .inl (o_A σ 7))),
   (g_ad G 33, .inl (g_I G, 1500, .inl (o_A σ 8))),
   (g_ad G 34, .inl (g_I G, 12600, .inl (o_A σ 9))),
   (g_ad G 35, .inl (g_I G, 1500, .inl (o_A σ 10))),
   (g_ad G 36, .inl (g_I G, 1500, .inl (o_A σ 11))),
   (g_ad G 37, .inl (g_I G, 3900, .inl (o_A σ 12))),
   (g_ad G 38, .inl (g_I G, 60000, .inl (o_A σ 13))),
   (g_ad G 39, .inl (g_I G, 8, .inl (o_A σ 14))),
   (g_ad G 40, .inl (g_I G, 32, .inl (o_A σ 15))),
   (g_ad G 41, .inl (g_I G, 32, .inl (o_A σ 16))),
   (g_ad G 42, .inl (g_I G, 32, .inl (o_A σ 17))),
   (g_ad G 43, .inl (g_J G, 1, .inr (.inl (o_O σ))))]
/-- the cells: objects, rows, their arrays; and those behind them -/
def o_W (G : o_G) (ra : Nat → Nat) (gf : Nat → Nat → Int32) (σ : o_S) : va_W :=
  [(g_ad G 0, .inr (6, [.ref (g_ad G 7), .ref (g_ad G 8), .ref (g_ad G 1), .ref (g_ad G 2), .ref (g_ad G 3), .ref (g_ad G 4), .ref (g_ad G 5)])),
   (g_ad G 1, .inr (3, [.ref (g_ad G 9), .int (o_F σ 0)])),
   (g_ad G 2, .inr (5, [.ref (g_ad G 10), .ref (g_ad G 11), .int (o_F σ 1)])),
   (g_ad G 3, .inr (1, [.ref (g_ad G 7), .ref (g_ad G 1), .int (o_F σ 2), .int (o_F σ 3), .int (o_F σ 4), .int (o_F σ 5), .int (o_F σ 6), .int (o_F σ 7), .int (o_F σ 8), .int (o_F σ 9), .int (o_F σ 10), .int (o_F σ 11), .int (o_F σ 12)])),
   (g_ad G 4, .inr (0, [.ref (g_ad G 7), .ref (g_ad G 3), .ref (g_ad G 2), .ref (g_ad G 1), .ref (g_ad G 12), .ref (g_ad G 13), .ref (g_ad G 14), .int (o_F σ 13), .int (o_F σ 14)])),
   (g_ad G 5, .inr (2, [.ref (g_ad G 2), .ref (g_ad G 15)])),
   (g_ad G 7, .inr (4, [.ref (ra 0), .int (nI (o_R σ 0).length)])),
   (g_ad G 8, .inr (4, [.ref (ra 1), .int (nI (o_R σ 1).length)])),
   (g_ad G 9, .inr (4, [.ref (ra 2), .int (nI (o_R σ 2).length)])),
   (g_ad G 10, .inr (4, [.ref (ra 3), .int (nI (o_R σ 3).length)])),
   (g_ad G 11, .inr (4, [.ref (ra 4), .int (nI (o_R σ 4).length)])),
   (g_ad G 12, .inr (4, [.ref (ra 5), .int (nI (o_R σ 5).length)])),
   (g_ad G 13, .inr (4, [.ref (ra 6), .int (nI (o_R σ 6).length)])),
   (g_ad G 14, .inr (4, [.ref (ra 7), .int (nI (o_R σ 7).length)])),
   (g_ad G 15, .inr (4, [.ref (ra 8), .int (nI (o_R σ 8).length)])),
   (ra 0, .inl (g_I G, o_cap σ 0, .inl (gf 0))),
   (ra 1, .inl (g_I G, o_cap σ 1, .inl (gf 1))),
   (ra 2, .inl (g_I G, o_cap σ 2, .inl (gf 2))),
   (ra 3, .inl (g_I G, o_cap σ 3, .inl (gf 3))),
   (ra 4, .inl (g_I G, o_cap σ 4, .inl (gf 4))),
   (ra 5, .inl (g_I G, o_cap σ 5, .inl (gf 5))),
   (ra 6, .inl (g_I G, o_cap σ 6, .inl (gf 6))),
   (ra 7, .inl (g_I G, o_cap σ 7, .inl (gf 7))),
   (ra 8, .inl (g_I G, o_cap σ 8, .inl (gf 8)))] ++ (o_WM G σ).take (g_u G)
/-- the rows' arrays hold the rows -/
def o_RW (gf : Nat → Nat → Int32) (σ : o_S) : Prop := ∀ r, r < 9 → (o_R σ r).length ≤ o_cap σ r ∧ 64 ≤ o_cap σ r ∧ o_cap σ r ≤ 131072 ∧ ∀ i v, (o_R σ r)[i]? = some v → gf r i = v
def o_H (G : o_G) (σ : o_S) (H : Heap) : Prop := ∃ (ra : Nat → Nat) (gf : Nat → Nat → Int32), o_RW gf σ ∧ va_P (g_D G) o_cl (o_W G ra gf σ) H ∧ va_D (g_A G) (o_W G ra gf σ)
def o_nestF : List (String × Nat × String × String × String × String) := [("OffsideParser$Builder", 142, "OffsideParser$Lexer", "position", "I", "OffsideParser"), ("OffsideParser$Builder", 80, "OffsideParser$Lexer", "token", "I", "OffsideParser"), ("OffsideParser$Builder", 139, "OffsideParser$Lexer", "start", "I", "OffsideParser"), ("OffsideParser$Builder", 106, "OffsideParser$Lexer", "atLine", "I", "OffsideParser"), ("OffsideParser$Builder", 54, "OffsideParser$Lexer", "atColumn", "I", "OffsideParser"), ("OffsideParser$Builder", 115, "OffsideParser$Lexer", "isFirst", "Z", "OffsideParser")]
def o_nestM : List (String × Nat × MethodName × String) := [("OffsideParser", 9, yX4_init, "OffsideParser"), ("OffsideParser", 21, yX3_init, "OffsideParser"), ("OffsideParser$Repairs", 9, yX4_init, "OffsideParser"), ("OffsideParser", 28, yX5_init, "OffsideParser"), ("OffsideParser$Tree", 11, yX4_init, "OffsideParser"), ("OffsideParser$Builder", 11, yX4_init, "OffsideParser"), ("OffsideParser$Printer", 11, yX4_init, "OffsideParser"), ("OffsideParser$Lexer", 85, yX6_isLetter, "OffsideParser"), ("OffsideParser$Lexer", 88, yX6_isDigit, "OffsideParser"), ("OffsideParser", 193, yX2_printLines, "OffsideParser")]
def o_strs : List (String × Nat × String) := [("OffsideParser", 81, "a byte that no text may have"), ("OffsideParser", 88, "the text would be too long"), ("OffsideParser", 95, "not a length within the text"), ("OffsideParser", 117, "no such repair"), ("OffsideParser", 213, "no such node"), ("OffsideParser", 137, "no such child"), ("OffsideParser", 153, "only an item can be removed"), ("OffsideParser", 158, "only an item can be moved, and only to a block"), ("OffsideParser", 163, "the block is in the item"), ("OffsideParser", 171, "too many blocks and groups in one another"), ("OffsideParser", 177, "no such index in the block"), ("OffsideParser", 186, "only a word can be renamed, and only to a word"), ("OffsideParser", 201, "nothing is written there")]
def o_ncs : List (String × String) := [("java/lang/IllegalStateException", "java/lang/IllegalArgumentException"), ("java/lang/IllegalArgumentException", "java/lang/IndexOutOfBoundsException")]
def o_casts : List (String × String) := [("java/lang/IllegalArgumentException", "java/lang/IllegalArgumentException"), ("java/lang/IllegalStateException", "java/lang/IllegalStateException"), ("java/lang/IndexOutOfBoundsException", "java/lang/IndexOutOfBoundsException")]
def o_decls : List MethodName := [⟨"java/lang/RuntimeException", "<init>", "()V"⟩, ⟨"java/lang/RuntimeException", "<init>", "(Ljava/lang/String;)V"⟩, ⟨"java/lang/Exception", "<init>", "()V"⟩, ⟨"java/lang/Exception", "<init>", "(Ljava/lang/String;)V"⟩, ⟨"java/lang/Throwable", "<init>", "()V"⟩, ⟨"java/lang/Throwable", "<init>", "(Ljava/lang/String;)V"⟩]
theorem o_GoodIn {w : Cond} (h : w ∈ o_WS) : GoodIn o_WS (w :: o_WS) := fun v hv => by
  have h1 : v ∈ o_WS := (List.mem_cons.mp hv).elim (fun e => e ▸ h) id
  exact ⟨h1, good_of_word (List.mem_filter.mp h1).2⟩
/-- what holds of a machine's state at every call -/
def o_SF (G : o_G) (U : State) : Prop := va_K (g_D G) o_cl (o_ty G) U ∧ vx_Zq Bundle.tN "UNASSIGNED_STACK" Bundle.steD (g_A G) U U.heap ∧ vx_Zq Bundle.tN "SUPPRESSED_SENTINEL" Bundle.listD (g_A G) U U.heap ∧ (∀ q ∈ o_nestF, va_Nw (.fieldLinkNest q.1 q.2.1 q.2.2.1 q.2.2.2.1 q.2.2.2.2.1 q.2.2.2.2.2) U) ∧ (∀ q ∈ o_nestM, va_Nw (.methodLinkNest q.1 q.2.1 q.2.2.1 q.2.2.2) U) ∧ (∀ q ∈ o_strs, ∃ sa, vk_R q.1 q.2.1 q.2.2 sa U) ∧ (∀ q ∈ o_ncs, va_Nc q.1 q.2 U) ∧ g_n0 G ≤ U.heap.size ∧ (g_l G).stackTraces = false ∧ (∀ q ∈ o_casts, va_Nw (.castable q.1 q.2) U) ∧ (∀ q ∈ o_decls, va_Nw (.declares q) U)
theorem o_SF.moved {G : o_G} {s U : State} {H : Heap} {locs : List Loc} (h : o_SF G s) (hW : s.WarmedH U.vm) (hU : U.heap = H) (hS : va_S (g_A G) s.heap H locs) : o_SF G U := by
  obtain ⟨h1, h2, h3, h4, h5, h6, h7, h8, h9, h10, h11⟩ := h
  have hk : ∀ a : Nat, a < s.heap.size → ¬ g_A G a → U.heap[a]? = s.heap[a]? := fun a ha hn => by rw [hU]; exact hS.2.1 a ha hn
  exact ⟨va_K.moved hW.alike h1, (vx_Zq.moved hW.alike h2).kept hk, (vx_Zq.moved hW.alike h3).kept hk, fun q hq => va_Nw.warmF hW (h4 q hq), fun q hq => va_Nw.warmM hW (h5 q hq), fun q hq => by obtain ⟨sa, hs⟩ := h6 q hq; exact ⟨sa, hs.warm hW⟩, fun q hq => (h7 q hq).moved hW.alike, by rw [hU]; exact Nat.le_trans h8 hS.1, h9, fun q hq => va_Nw.warmC hW (h10 q hq), fun q hq => va_Nw.warmD hW (h11 q hq)⟩
theorem o_SF.calling {G : o_G} {U : State} (g : JFrame) (mk : MethodId) (a : Array Value) (h : o_SF G U) : o_SF G (U.calling g mk a) := by
  obtain ⟨h1, h2, h3, h4, h5, h6, h7, h8, h9, h10, h11⟩ := h
  exact ⟨va_K.moved (u := U) (U := U.calling g mk a) (Vm.Alike.refl U.vm) h1, vx_Zq.moved (u := U) (U := U.calling g mk a) (Vm.Alike.refl U.vm) h2, vx_Zq.moved (u := U) (U := U.calling g mk a) (Vm.Alike.refl U.vm) h3, fun q hq => va_Nw.same rfl (u := U) (U := U.calling g mk a) rfl (h4 q hq), fun q hq => va_Nw.same rfl (u := U) (U := U.calling g mk a) rfl (h5 q hq), fun q hq => by obtain ⟨sa, hs⟩ := h6 q hq; exact ⟨sa, vk_R.same (u := U) (U := U.calling g mk a) rfl hs⟩, fun q hq => va_Nc.moved (u := U) (U := U.calling g mk a) (Vm.Alike.refl U.vm) (h7 q hq), h8, h9, fun q hq => va_Nw.same rfl (u := U) (U := U.calling g mk a) rfl (h10 q hq), fun q hq => va_Nw.same rfl (u := U) (U := U.calling g mk a) rfl (h11 q hq)⟩
/-- a contract's start -/
def o_P (G : o_G) (σ : o_S) (U : State) : Prop := o_SF G U ∧ o_H G σ U.heap
theorem o_blind (G : o_G) (σ : o_S) (av : List Value) : FrameBlind (va_Pc av (o_P G σ)) := fun a U g mk q => ⟨q.1, q.2.1.calling g mk a, q.2.2⟩
/-- a contract's end: it returns v, the state is σ' -/
def o_QR (G : o_G) (v : Option Value) (σ' : o_S) : Array Value → State → Outcome → State → Prop := fun _ st oc t => oc = .returned v ∧ o_H G σ' t.heap ∧ va_F (g_A G) st t
def o_RM (d n : Nat) : Room := { frames := d, cells := n, slots := 2 * n, locals := 40 * d }
/-- a method's contract, with k frames below it -/
def o_Ev (G : o_G) (y : MethodName) (cc : ByteArray) (nL : Nat) (ret : Option FieldType) (k : Nat) (av : List Value) (σ : o_S) (v : Option Value) (σ' : o_S) : Prop :=
  o_k σ ≤ o_k σ' ∧ ∀ d, k ≤ d → Met (g_l G) y (Cond.code y cc nL ret :: o_WS) (o_RM d (o_k σ' - o_k σ)) (va_Pc av (o_P G σ)) (o_QR G v σ') (o_k σ' - o_k σ) (2 * (o_k σ' - o_k σ)) (g_A G)
/-! INSIDE A METHOD: what is fixed there, and 'the machine goes well from here' -/
abbrev o_X : Type := Program × Env × Room × State × MethodId × Array Value × List Frame × Method × Code × (State → Prop)
abbrev x_p (X : o_X) : Program := X.1
abbrev x_e (X : o_X) : Env := X.2.1
abbrev x_R (X : o_X) : Room := X.2.2.1
abbrev x_s (X : o_X) : State := X.2.2.2.1
abbrev x_m (X : o_X) : MethodId := X.2.2.2.2.1
abbrev x_a (X : o_X) : Array Value := X.2.2.2.2.2.1
abbrev x_b (X : o_X) : List Frame := X.2.2.2.2.2.2.1
abbrev x_me (X : o_X) : Method := X.2.2.2.2.2.2.2.1
abbrev x_c (X : o_X) : Code := X.2.2.2.2.2.2.2.2.1
abbrev x_Q (X : o_X) : State → Prop := X.2.2.2.2.2.2.2.2.2
def o_C (G : o_G) (X : o_X) (own : String) (cc : ByteArray) (ret : Option FieldType) (nL kd : Nat) : Prop :=
  (x_p X).tables.exec = Jvm.exec ∧ (x_c X).code = cc ∧ (x_me X).sig.returnType = ret ∧ (x_c X).maxLocals = nL ∧ (x_s X).vm.findClass own = some (x_m X).cls ∧ (∀ w ∈ o_WS, w.before (x_a X) (x_s X) = true) ∧ (x_me X).locks = false ∧ o_SF G (x_s X) ∧ kd ≤ (x_R X).frames ∧ 40 * (x_R X).frames ≤ (x_R X).locals
abbrev o_Wf (G : o_G) (X : o_X) (H : Heap) (locs : List Loc) (cells slots pc : Nat) (ls : Array Slot) (st : List Value) : Prop :=
  W (x_p X) (g_l G) (x_e X) (x_R X) (x_s X) (x_m X) (x_a X) (x_b X) (x_me X) (x_c X) H locs cells slots (x_Q X) (F0 (x_m X) pc ls st)
/-- from this place of the method, with this state, the machine comes to the end En; k' is what will have been made by then -/
def o_Z (G : o_G) (own : String) (cc : ByteArray) (ret : Option FieldType) (nL kd : Nat) (En : o_X → Prop) (k' : Nat) (σ : o_S) (pc : Nat) (L : List (Nat × Value)) (st : List Value) : Prop :=
  o_k σ ≤ k' ∧ ∀ X : o_X, o_C G X own cc ret nL kd → En X → ∀ (H : Heap) (locs : List Loc) (ls : Array Slot) (cells slots : Nat), o_H G σ H → va_S (g_A G) (x_s X).heap H locs → lv_has ls nL L → cells + (k' - o_k σ) ≤ (x_R X).cells → slots + 2 * (k' - o_k σ) ≤ (x_R X).slots → o_Wf G X H locs cells slots pc ls st
/-- what the method's end must be -/
def o_E (G : o_G) (v : Option Value) (σ' : o_S) (X : o_X) : Prop := x_Q X = MQ (x_b X) (o_QR G v σ') (x_a X) (x_s X) (x_R X).cells (x_R X).slots (g_A G)
section
variable {G : o_G} {own : String} {cc : ByteArray} {ret : Option FieldType} {nL kd : Nat} {En : o_X → Prop} {k' : Nat} {σ : o_S} {pc : Nat} {L : List (Nat × Value)} {st : List Value}
theorem o_Z.step {pc' : Nat} {st' : List Value} (k : o_Z G own cc ret nL kd En k' σ pc' L st') (h : ∀ X : o_X, o_C G X own cc ret nL kd → ∀ (H : Heap) (locs : List Loc) (ls : Array Slot) (cells slots : Nat), lv_has ls nL L → o_Wf G X H locs cells slots pc' ls st' → o_Wf G X H locs cells slots pc ls st) : o_Z G own cc ret nL kd En k' σ pc L st :=
  ⟨k.1, fun X C E H locs ls cells slots hP hS hl h1 h2 => h X C H locs ls cells slots hl (k.2 X C E H locs ls cells slots hP hS hl h1 h2)⟩
theorem o_Z.sub {L' : List (Nat × Value)} (ks : List Nat) (hL : lv_pick L ks = L') (k : o_Z G own cc ret nL kd En k' σ pc L' st) : o_Z G own cc ret nL kd En k' σ pc L st :=
  ⟨k.1, fun X C E H locs ls cells slots hP hS hl h1 h2 => k.2 X C E H locs ls cells slots hP hS (lv_sub hl ks hL) h1 h2⟩
theorem z_iconst {n : Int} {v : Int32} (hd : decode cc pc = .ok (.iconst n, 1)) (hv : Int32.ofInt n = v) (k : o_Z G own cc ret nL kd En k' σ (pc + 1) L (.int v :: st)) : o_Z G own cc ret nL kd En k' σ pc L st := k.step fun _ C _ _ _ _ _ _ => lv_iconst C.1 C.2.1 hd hv
theorem z_bipush {n : Int} {v : Int32} (hd : decode cc pc = .ok (.bipush n, 2)) (hv : (Int8.ofInt n).toInt32 = v) (k : o_Z G own cc ret nL kd En k' σ (pc + 2) L (.int v :: st)) : o_Z G own cc ret nL kd En k' σ pc L st := k.step fun _ C _ _ _ _ _ _ => lv_bipush C.1 C.2.1 hd hv
theorem z_sipush {n : Int} {v : Int32} (hd : decode cc pc = .ok (.sipush n, 3)) (hv : (Int16.ofInt n).toInt32 = v) (k : o_Z G own cc ret nL kd En k' σ (pc + 3) L (.int v :: st)) : o_Z G own cc ret nL kd En k' σ pc L st := k.step fun _ C _ _ _ _ _ _ => lv_sipush C.1 C.2.1 hd hv
theorem z_ldc {i : Nat} {v : Int32} (hw : Cond.constant own i v ∈ o_WS) (hd : decode cc pc = .ok (.ldc i, 2)) (k : o_Z G own cc ret nL kd En k' σ (pc + 2) L (.int v :: st)) : o_Z G own cc ret nL kd En k' σ pc L st := k.step fun _ C _ _ _ _ _ _ => lv_ldc C.1 C.2.1 C.2.2.2.2.1 (C.2.2.2.2.2.1 _ hw) hd
theorem z_ldc2 {i : Nat} {v : Int64} (hw : Cond.constantLong own i v ∈ o_WS) (hd : decode cc pc = .ok (.ldc2_w i, 3)) (k : o_Z G own cc ret nL kd En k' σ (pc + 3) L (.long v :: st)) : o_Z G own cc ret nL kd En k' σ pc L st := k.step fun _ C _ _ _ _ _ _ => lv_ldc2 C.1 C.2.1 C.2.2.2.2.1 (C.2.2.2.2.2.1 _ hw) hd
theorem z_iload_n {n : Fin 4} {x : Int32} (hd : decode cc pc = .ok (.iload_n n, 1)) (q : Nat) (hq : L[q]? = some ((n : Nat), .int x)) (k : o_Z G own cc ret nL kd En k' σ (pc + 1) L (.int x :: st)) : o_Z G own cc ret nL kd En k' σ pc L st := k.step fun _ C _ _ _ _ _ hl => lv_iload_n C.1 C.2.1 hd rfl (lv_at hl q hq)
theorem z_iload {n : Nat} {x : Int32} (hd : decode cc pc = .ok (.iload n, 2)) (q : Nat) (hq : L[q]? = some (n, .int x)) (k : o_Z G own cc ret nL kd En k' σ (pc + 2) L (.int x :: st)) : o_Z G own cc ret nL kd En k' σ pc L st := k.step fun _ C _ _ _ _ _ hl => lv_iload C.1 C.2.1 hd (lv_at hl q hq)
theorem z_lload_n {n : Fin 4} {x : Int64} (hd : decode cc pc = .ok (.lload_n n, 1)) (q : Nat) (hq : L[q]? = some ((n : Nat), .long x)) (k : o_Z G own cc ret nL kd En k' σ (pc + 1) L (.long x :: st)) : o_Z G own cc ret nL kd En k' σ pc L st := k.step fun _ C _ _ _ _ _ hl => lv_lload_n C.1 C.2.1 hd rfl (lv_at hl q hq)
theorem z_lload {n : Nat} {x : Int64} (hd : decode cc pc = .ok (.lload n, 2)) (q : Nat) (hq : L[q]? = some (n, .long x)) (k : o_Z G own cc ret nL kd En k' σ (pc + 2) L (.long x :: st)) : o_Z G own cc ret nL kd En k' σ pc L st := k.step fun _ C _ _ _ _ _ hl => lv_lload C.1 C.2.1 hd (lv_at hl q hq)
theorem z_aload_n {n : Fin 4} {x : Nat} (hd : decode cc pc = .ok (.aload_n n, 1)) (q : Nat) (hq : L[q]? = some ((n : Nat), .ref x)) (k : o_Z G own cc ret nL kd En k' σ (pc + 1) L (.ref x :: st)) : o_Z G own cc ret nL kd En k' σ pc L st := k.step fun _ C _ _ _ _ _ hl => lv_aload_n C.1 C.2.1 hd rfl (lv_at hl q hq)
theorem z_aload {n : Nat} {x : Nat} (hd : decode cc pc = .ok (.aload n, 2)) (q : Nat) (hq : L[q]? = some (n, .ref x)) (k : o_Z G own cc ret nL kd En k' σ (pc + 2) L (.ref x :: st)) : o_Z G own cc ret nL kd En k' σ pc L st := k.step fun _ C _ _ _ _ _ hl => lv_aload C.1 C.2.1 hd (lv_at hl q hq)
theorem z_istore_n {n : Fin 4} {x : Int32} {L' : List (Nat × Value)} (hd : decode cc pc = .ok (.istore_n n, 1)) (hn : (n : Nat) < nL) (hL : ((n : Nat), Value.int x) :: L.filter (fun q => !(q.1 == (n : Nat)) && !(q.1 + 1 == (n : Nat) && q.2.category == 2)) = L') (k : o_Z G own cc ret nL kd En k' σ (pc + 1) L' st) : o_Z G own cc ret nL kd En k' σ pc L (.int x :: st) :=
  ⟨k.1, fun X C E H locs ls cells slots hP hS hl h1 h2 => lv_istore_n C.1 C.2.1 hd rfl hl hn hL fun ls' hl' => k.2 X C E H locs ls' cells slots hP hS hl' h1 h2⟩
theorem z_istore {n : Nat} {x : Int32} {L' : List (Nat × Value)} (hd : decode cc pc = .ok (.istore n, 2)) (hn : n < nL) (hL : (n, Value.int x) :: L.filter (fun q => !(q.1 == n) && !(q.1 + 1 == n && q.2.category == 2)) = L') (k : o_Z G own cc ret nL kd En k' σ (pc + 2) L' st) : o_Z G own cc ret nL kd En k' σ pc L (.int x :: st) :=
  ⟨k.1, fun X C E H locs ls cells slots hP hS hl h1 h2 => lv_istore C.1 C.2.1 hd hl hn hL fun ls' hl' => k.2 X C E H locs ls' cells slots hP hS hl' h1 h2⟩
theorem z_lstore_n {n : Fin 4} {x : Int64} {L' : List (Nat × Value)} (hd : decode cc pc = .ok (.lstore_n n, 1)) (hn : (n : Nat) + 1 < nL) (hL : ((n : Nat), Value.long x) :: L.filter (fun q => !(q.1 == (n : Nat)) && (!(q.1 == (n : Nat) + 1) && !(q.1 + 1 == (n : Nat) && q.2.category == 2))) = L') (k : o_Z G own cc ret nL kd En k' σ (pc + 1) L' st) : o_Z G own cc ret nL kd En k' σ pc L (.long x :: st) :=
  ⟨k.1, fun X C E H locs ls cells slots hP hS hl h1 h2 => lv_lstore_n C.1 C.2.1 hd rfl hl hn hL fun ls' hl' => k.2 X C E H locs ls' cells slots hP hS hl' h1 h2⟩
theorem z_astore_n {n : Fin 4} {x : Nat} {L' : List (Nat × Value)} (hd : decode cc pc = .ok (.astore_n n, 1)) (hn : (n : Nat) < nL) (hL : ((n : Nat), Value.ref x) :: L.filter (fun q => !(q.1 == (n : Nat)) && !(q.1 + 1 == (n : Nat) && q.2.category == 2)) = L') (k : o_Z G own cc ret nL kd En k' σ (pc + 1) L' st) : o_Z G own cc ret nL kd En k' σ pc L (.ref x :: st) :=
  ⟨k.1, fun X C E H locs ls cells slots hP hS hl h1 h2 => lv_astore_n C.1 C.2.1 hd rfl hl hn hL fun ls' hl' => k.2 X C E H locs ls' cells slots hP hS hl' h1 h2⟩
theorem z_astore {n : Nat} {x : Nat} {L' : List (Nat × Value)} (hd : decode cc pc = .ok (.astore n, 2)) (hn : n < nL) (hL : (n, Value.ref x) :: L.filter (fun q => !(q.1 == n) && !(q.1 + 1 == n && q.2.category == 2)) = L') (k : o_Z G own cc ret nL kd En k' σ (pc + 2) L' st) : o_Z G own cc ret nL kd En k' σ pc L (.ref x :: st) :=
  ⟨k.1, fun X C E H locs ls cells slots hP hS hl h1 h2 => lv_astore C.1 C.2.1 hd hl hn hL fun ls' hl' => k.2 X C E H locs ls' cells slots hP hS hl' h1 h2⟩
theorem z_iinc {i : Nat} {n : Int} {x v : Int32} {L' : List (Nat × Value)} (hd : decode cc pc = .ok (.iinc i n, 3)) (q : Nat) (hq : L[q]? = some (i, .int x)) (hv : x + Int32.ofInt n = v) (hn : i < nL) (hL : (i, Value.int v) :: L.filter (fun q => !(q.1 == i) && !(q.1 + 1 == i && q.2.category == 2)) = L') (k : o_Z G own cc ret nL kd En k' σ (pc + 3) L' st) : o_Z G own cc ret nL kd En k' σ pc L st :=
  ⟨k.1, fun X C E H locs ls cells slots hP hS hl h1 h2 => lv_iinc C.1 C.2.1 hd hl hq hv hn hL fun ls' hl' => k.2 X C E H locs ls' cells slots hP hS hl' h1 h2⟩
theorem z_iadd {x y : Int32} (hd : decode cc pc = .ok (.iadd, 1)) (k : o_Z G own cc ret nL kd En k' σ (pc + 1) L (.int (x + y) :: st)) : o_Z G own cc ret nL kd En k' σ pc L (.int y :: .int x :: st) := k.step fun _ C _ _ _ _ _ _ => lv_iadd C.1 C.2.1 hd
theorem z_isub {x y : Int32} (hd : decode cc pc = .ok (.isub, 1)) (k : o_Z G own cc ret nL kd En k' σ (pc + 1) L (.int (x - y) :: st)) : o_Z G own cc ret nL kd En k' σ pc L (.int y :: .int x :: st) := k.step fun _ C _ _ _ _ _ _ => lv_isub C.1 C.2.1 hd
theorem z_imul {x y : Int32} (hd : decode cc pc = .ok (.imul, 1)) (k : o_Z G own cc ret nL kd En k' σ (pc + 1) L (.int (x * y) :: st)) : o_Z G own cc ret nL kd En k' σ pc L (.int y :: .int x :: st) := k.step fun _ C _ _ _ _ _ _ => lv_imul C.1 C.2.1 hd
theorem z_iand {x y : Int32} (hd : decode cc pc = .ok (.iand, 1)) (k : o_Z G own cc ret nL kd En k' σ (pc + 1) L (.int (x &&& y) :: st)) : o_Z G own cc ret nL kd En k' σ pc L (.int y :: .int x :: st) := k.step fun _ C _ _ _ _ _ _ => lv_iand C.1 C.2.1 hd
theorem z_idiv {x y : Int32} (hne : ¬ y = 0) (hd : decode cc pc = .ok (.idiv, 1)) (k : o_Z G own cc ret nL kd En k' σ (pc + 1) L (.int (x / y) :: st)) : o_Z G own cc ret nL kd En k' σ pc L (.int y :: .int x :: st) := k.step fun _ C _ _ _ _ _ _ => lv_idiv C.1 C.2.1 hd hne
theorem z_irem {x y : Int32} (hne : ¬ y = 0) (hd : decode cc pc = .ok (.irem, 1)) (k : o_Z G own cc ret nL kd En k' σ (pc + 1) L (.int (x - x / y * y) :: st)) : o_Z G own cc ret nL kd En k' σ pc L (.int y :: .int x :: st) := k.step fun _ C _ _ _ _ _ _ => lv_irem C.1 C.2.1 hd hne
theorem z_ladd {x y : Int64} (hd : decode cc pc = .ok (.ladd, 1)) (k : o_Z G own cc ret nL kd En k' σ (pc + 1) L (.long (x + y) :: st)) : o_Z G own cc ret nL kd En k' σ pc L (.long y :: .long x :: st) := k.step fun _ C _ _ _ _ _ _ => lv_ladd C.1 C.2.1 hd
theorem z_lsub {x y : Int64} (hd : decode cc pc = .ok (.lsub, 1)) (k : o_Z G own cc ret nL kd En k' σ (pc + 1) L (.long (x - y) :: st)) : o_Z G own cc ret nL kd En k' σ pc L (.long y :: .long x :: st) := k.step fun _ C _ _ _ _ _ _ => lv_lsub C.1 C.2.1 hd
theorem z_lmul {x y : Int64} (hd : decode cc pc = .ok (.lmul, 1)) (k : o_Z G own cc ret nL kd En k' σ (pc + 1) L (.long (x * y) :: st)) : o_Z G own cc ret nL kd En k' σ pc L (.long y :: .long x :: st) := k.step fun _ C _ _ _ _ _ _ => lv_lmul C.1 C.2.1 hd
theorem z_land {x y : Int64} (hd : decode cc pc = .ok (.land, 1)) (k : o_Z G own cc ret nL kd En k' σ (pc + 1) L (.long (x &&& y) :: st)) : o_Z G own cc ret nL kd En k' σ pc L (.long y :: .long x :: st) := k.step fun _ C _ _ _ _ _ _ => lv_land C.1 C.2.1 hd
theorem z_lor {x y : Int64} (hd : decode cc pc = .ok (.lor, 1)) (k : o_Z G own cc ret nL kd En k' σ (pc + 1) L (.long (x ||| y) :: st)) : o_Z G own cc ret nL kd En k' σ pc L (.long y :: .long x :: st) := k.step fun _ C _ _ _ _ _ _ => lv_lor C.1 C.2.1 hd
theorem z_lrem {x y : Int64} (hne : ¬ y = 0) (hd : decode cc pc = .ok (.lrem, 1)) (k : o_Z G own cc ret nL kd En k' σ (pc + 1) L (.long (x - x / y * y) :: st)) : o_Z G own cc ret nL kd En k' σ pc L (.long y :: .long x :: st) := k.step fun _ C _ _ _ _ _ _ => lv_lrem C.1 C.2.1 hd hne
theorem z_i2l {x : Int32} (hd : decode cc pc = .ok (.i2l, 1)) (k : o_Z G own cc ret nL kd En k' σ (pc + 1) L (.long x.toInt64 :: st)) : o_Z G own cc ret nL kd En k' σ pc L (.int x :: st) := k.step fun _ C _ _ _ _ _ _ => lv_i2l C.1 C.2.1 hd rfl
theorem z_l2i {x : Int64} (hd : decode cc pc = .ok (.l2i, 1)) (k : o_Z G own cc ret nL kd En k' σ (pc + 1) L (.int x.toInt32 :: st)) : o_Z G own cc ret nL kd En k' σ pc L (.long x :: st) := k.step fun _ C _ _ _ _ _ _ => lv_l2i C.1 C.2.1 hd rfl
theorem z_lushr {x : Int64} {y : Int32} (hd : decode cc pc = .ok (.lushr, 1)) (k : o_Z G own cc ret nL kd En k' σ (pc + 1) L (.long (x.toUInt64 >>> (y.toInt64.toUInt64 &&& Int64.toUInt64 63)).toInt64 :: st)) : o_Z G own cc ret nL kd En k' σ pc L (.int y :: .long x :: st) := k.step fun _ C _ _ _ _ _ _ => lv_lushr C.1 C.2.1 hd rfl
theorem z_lshl {x : Int64} {y : Int32} (hd : decode cc pc = .ok (.lshl, 1)) (k : o_Z G own cc ret nL kd En k' σ (pc + 1) L (.long (x <<< (y.toInt64 &&& 63)) :: st)) : o_Z G own cc ret nL kd En k' σ pc L (.int y :: .long x :: st) := k.step fun _ C _ _ _ _ _ _ => lv_lshl C.1 C.2.1 hd rfl
theorem z_lshr {x : Int64} {y : Int32} (hd : decode cc pc = .ok (.lshr, 1)) (k : o_Z G own cc ret nL kd En k' σ (pc + 1) L (.long (x >>> (y.toInt64 &&& 63)) :: st)) : o_Z G own cc ret nL kd En k' σ pc L (.int y :: .long x :: st) := k.step fun _ C _ _ _ _ _ _ => lv_lshr C.1 C.2.1 hd rfl
theorem z_lcmp {x y : Int64} (hd : decode cc pc = .ok (.lcmp, 1)) (k : o_Z G own cc ret nL kd En k' σ (pc + 1) L (.int (lg_cmp x y) :: st)) : o_Z G own cc ret nL kd En k' σ pc L (.long y :: .long x :: st) := k.step fun _ C _ _ _ _ _ _ => W.lcmp C.1 C.2.1 hd
theorem z_lconst {n : Fin 2} {v : Int64} (hd : decode cc pc = .ok (.lconst n, 1)) (hv : Int64.ofNat (n : Nat) = v) (k : o_Z G own cc ret nL kd En k' σ (pc + 1) L (.long v :: st)) : o_Z G own cc ret nL kd En k' σ pc L st := k.step fun _ C _ _ _ _ _ _ => lv_lconst C.1 C.2.1 hd hv
theorem z_dup {v : Value} (hd : decode cc pc = .ok (.dup, 1)) (hv : v.category = 1) (k : o_Z G own cc ret nL kd En k' σ (pc + 1) L (v :: v :: st)) : o_Z G own cc ret nL kd En k' σ pc L (v :: st) := k.step fun _ C _ _ _ _ _ _ => lv_dup C.1 C.2.1 hd hv
theorem z_pop {v : Value} (hd : decode cc pc = .ok (.pop, 1)) (hv : v.category = 1) (k : o_Z G own cc ret nL kd En k' σ (pc + 1) L st) : o_Z G own cc ret nL kd En k' σ pc L (v :: st) := k.step fun _ C _ _ _ _ _ _ => lv_pop C.1 C.2.1 hd hv
theorem z_goto {off : Int} {tgt : Nat} (hd : decode cc pc = .ok (.goto off, 3)) (ht : (pc : Int) + off = (tgt : Int)) (k : o_Z G own cc ret nL kd En k' σ tgt L st) : o_Z G own cc ret nL kd En k' σ pc L st := k.step fun _ C _ _ _ _ _ _ => lv_goto C.1 C.2.1 hd ht
theorem z_if_eq {x : Int32} {off : Int} {tgt : Nat} (hd : decode cc pc = .ok (.ifCond .eq off, 3)) (ht : (pc : Int) + off = (tgt : Int)) (kt : x = 0 → o_Z G own cc ret nL kd En k' σ tgt L st) (kf : ¬ x = 0 → o_Z G own cc ret nL kd En k' σ (pc + 3) L st) : o_Z G own cc ret nL kd En k' σ pc L (.int x :: st) :=
  ⟨by by_cases h : x = 0; exact (kt h).1; exact (kf h).1, fun X C E H locs ls cells slots hP hS hl h1 h2 => lv_if_eq C.1 C.2.1 hd ht (fun h => (kt h).2 X C E H locs ls cells slots hP hS hl h1 h2) (fun h => (kf h).2 X C E H locs ls cells slots hP hS hl h1 h2)⟩
theorem z_if_ne {x : Int32} {off : Int} {tgt : Nat} (hd : decode cc pc = .ok (.ifCond .ne off, 3)) (ht : (pc : Int) + off = (tgt : Int)) (kt : ¬ x = 0 → o_Z G own cc ret nL kd En k' σ tgt L st) (kf : x = 0 → o_Z G own cc ret nL kd En k' σ (pc + 3) L st) : o_Z G own cc ret nL kd En k' σ pc L (.int x :: st) :=
  ⟨by by_cases h : x = 0; exact (kf h).1; exact (kt h).1, fun X C E H locs ls cells slots hP hS hl h1 h2 => lv_if_ne C.1 C.2.1 hd ht (fun h => (kt h).2 X C E H locs ls cells slots hP hS hl h1 h2) (fun h => (kf h).2 X C E H locs ls cells slots hP hS hl h1 h2)⟩
theorem z_if_lt {x : Int32} {off : Int} {tgt : Nat} (hd : decode cc pc = .ok (.ifCond .lt off, 3)) (ht : (pc : Int) + off = (tgt : Int)) (kt : x < 0 → o_Z G own cc ret nL kd En k' σ tgt L st) (kf : ¬ x < 0 → o_Z G own cc ret nL kd En k' σ (pc + 3) L st) : o_Z G own cc ret nL kd En k' σ pc L (.int x :: st) :=
  ⟨by by_cases h : x < 0; exact (kt h).1; exact (kf h).1, fun X C E H locs ls cells slots hP hS hl h1 h2 => lv_if_lt C.1 C.2.1 hd ht (fun h => (kt h).2 X C E H locs ls cells slots hP hS hl h1 h2) (fun h => (kf h).2 X C E H locs ls cells slots hP hS hl h1 h2)⟩
theorem z_if_ge {x : Int32} {off : Int} {tgt : Nat} (hd : decode cc pc = .ok (.ifCond .ge off, 3)) (ht : (pc : Int) + off = (tgt : Int)) (kt : 0 ≤ x → o_Z G own cc ret nL kd En k' σ tgt L st) (kf : ¬ 0 ≤ x → o_Z G own cc ret nL kd En k' σ (pc + 3) L st) : o_Z G own cc ret nL kd En k' σ pc L (.int x :: st) :=
  ⟨by by_cases h : 0 ≤ x; exact (kt h).1; exact (kf h).1, fun X C E H locs ls cells slots hP hS hl h1 h2 => lv_if_ge C.1 C.2.1 hd ht (fun h => (kt h).2 X C E H locs ls cells slots hP hS hl h1 h2) (fun h => (kf h).2 X C E H locs ls cells slots hP hS hl h1 h2)⟩
theorem z_if_gt {x : Int32} {off : Int} {tgt : Nat} (hd : decode cc pc = .ok (.ifCond .gt off, 3)) (ht : (pc : Int) + off = (tgt : Int)) (kt : 0 < x → o_Z G own cc ret nL kd En k' σ tgt L st) (kf : ¬ 0 < x → o_Z G own cc ret nL kd En k' σ (pc + 3) L st) : o_Z G own cc ret nL kd En k' σ pc L (.int x :: st) :=
  ⟨by by_cases h : 0 < x; exact (kt h).1; exact (kf h).1, fun X C E H locs ls cells slots hP hS hl h1 h2 => lv_if_gt C.1 C.2.1 hd ht (fun h => (kt h).2 X C E H locs ls cells slots hP hS hl h1 h2) (fun h => (kf h).2 X C E H locs ls cells slots hP hS hl h1 h2)⟩
theorem z_if_le {x : Int32} {off : Int} {tgt : Nat} (hd : decode cc pc = .ok (.ifCond .le off, 3)) (ht : (pc : Int) + off = (tgt : Int)) (kt : x ≤ 0 → o_Z G own cc ret nL kd En k' σ tgt L st) (kf : ¬ x ≤ 0 → o_Z G own cc ret nL kd En k' σ (pc + 3) L st) : o_Z G own cc ret nL kd En k' σ pc L (.int x :: st) :=
  ⟨by by_cases h : x ≤ 0; exact (kt h).1; exact (kf h).1, fun X C E H locs ls cells slots hP hS hl h1 h2 => lv_if_le C.1 C.2.1 hd ht (fun h => (kt h).2 X C E H locs ls cells slots hP hS hl h1 h2) (fun h => (kf h).2 X C E H locs ls cells slots hP hS hl h1 h2)⟩
theorem z_icmp_eq {x y : Int32} {off : Int} {tgt : Nat} (hd : decode cc pc = .ok (.if_icmp .eq off, 3)) (ht : (pc : Int) + off = (tgt : Int)) (kt : x = y → o_Z G own cc ret nL kd En k' σ tgt L st) (kf : ¬ x = y → o_Z G own cc ret nL kd En k' σ (pc + 3) L st) : o_Z G own cc ret nL kd En k' σ pc L (.int y :: .int x :: st) :=
  ⟨by by_cases h : x = y; exact (kt h).1; exact (kf h).1, fun X C E H locs ls cells slots hP hS hl h1 h2 => lv_icmp_eq C.1 C.2.1 hd ht (fun h => (kt h).2 X C E H locs ls cells slots hP hS hl h1 h2) (fun h => (kf h).2 X C E H locs ls cells slots hP hS hl h1 h2)⟩
theorem z_icmp_ne {x y : Int32} {off : Int} {tgt : Nat} (hd : decode cc pc = .ok (.if_icmp .ne off, 3)) (ht : (pc : Int) + off = (tgt : Int)) (kt : ¬ x = y → o_Z G own cc ret nL kd En k' σ tgt L st) (kf : x = y → o_Z G own cc ret nL kd En k' σ (pc + 3) L st) : o_Z G own cc ret nL kd En k' σ pc L (.int y :: .int x :: st) :=
  ⟨by by_cases h : x = y; exact (kf h).1; exact (kt h).1, fun X C E H locs ls cells slots hP hS hl h1 h2 => lv_icmp_ne C.1 C.2.1 hd ht (fun h => (kt h).2 X C E H locs ls cells slots hP hS hl h1 h2) (fun h => (kf h).2 X C E H locs ls cells slots hP hS hl h1 h2)⟩
theorem z_icmp_lt {x y : Int32} {off : Int} {tgt : Nat} (hd : decode cc pc = .ok (.if_icmp .lt off, 3)) (ht : (pc : Int) + off = (tgt : Int)) (kt : x < y → o_Z G own cc ret nL kd En k' σ tgt L st) (kf : ¬ x < y → o_Z G own cc ret nL kd En k' σ (pc + 3) L st) : o_Z G own cc ret nL kd En k' σ pc L (.int y :: .int x :: st) :=
  ⟨by by_cases h : x < y; exact (kt h).1; exact (kf h).1, fun X C E H locs ls cells slots hP hS hl h1 h2 => lv_icmp_lt C.1 C.2.1 hd ht (fun h => (kt h).2 X C E H locs ls cells slots hP hS hl h1 h2) (fun h => (kf h).2 X C E H locs ls cells slots hP hS hl h1 h2)⟩
theorem z_icmp_ge {x y : Int32} {off : Int} {tgt : Nat} (hd : decode cc pc = .ok (.if_icmp .ge off, 3)) (ht : (pc : Int) + off = (tgt : Int)) (kt : y ≤ x → o_Z G own cc ret nL kd En k' σ tgt L st) (kf : ¬ y ≤ x → o_Z G own cc ret nL kd En k' σ (pc + 3) L st) : o_Z G own cc ret nL kd En k' σ pc L (.int y :: .int x :: st) :=
  ⟨by by_cases h : y ≤ x; exact (kt h).1; exact (kf h).1, fun X C E H locs ls cells slots hP hS hl h1 h2 => lv_icmp_ge C.1 C.2.1 hd ht (fun h => (kt h).2 X C E H locs ls cells slots hP hS hl h1 h2) (fun h => (kf h).2 X C E H locs ls cells slots hP hS hl h1 h2)⟩
theorem z_icmp_gt {x y : Int32} {off : Int} {tgt : Nat} (hd : decode cc pc = .ok (.if_icmp .gt off, 3)) (ht : (pc : Int) + off = (tgt : Int)) (kt : y < x → o_Z G own cc ret nL kd En k' σ tgt L st) (kf : ¬ y < x → o_Z G own cc ret nL kd En k' σ (pc + 3) L st) : o_Z G own cc ret nL kd En k' σ pc L (.int y :: .int x :: st) :=
  ⟨by by_cases h : y < x; exact (kt h).1; exact (kf h).1, fun X C E H locs ls cells slots hP hS hl h1 h2 => lv_icmp_gt C.1 C.2.1 hd ht (fun h => (kt h).2 X C E H locs ls cells slots hP hS hl h1 h2) (fun h => (kf h).2 X C E H locs ls cells slots hP hS hl h1 h2)⟩
theorem z_icmp_le {x y : Int32} {off : Int} {tgt : Nat} (hd : decode cc pc = .ok (.if_icmp .le off, 3)) (ht : (pc : Int) + off = (tgt : Int)) (kt : x ≤ y → o_Z G own cc ret nL kd En k' σ tgt L st) (kf : ¬ x ≤ y → o_Z G own cc ret nL kd En k' σ (pc + 3) L st) : o_Z G own cc ret nL kd En k' σ pc L (.int y :: .int x :: st) :=
  ⟨by by_cases h : x ≤ y; exact (kt h).1; exact (kf h).1, fun X C E H locs ls cells slots hP hS hl h1 h2 => lv_icmp_le C.1 C.2.1 hd ht (fun h => (kt h).2 X C E H locs ls cells slots hP hS hl h1 h2) (fun h => (kf h).2 X C E H locs ls cells slots hP hS hl h1 h2)⟩

end
