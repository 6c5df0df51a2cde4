theorem oa_oi : Cond.instanceMethod Lib.objectInit ∈ o_WS := o_mem (List.mem_of_getElem? (i := 93) (by decide +kernel)) rfl
theorem oa_oc : Cond.code Lib.objectInit ⟨#[0xb1]⟩ 1 none ∈ o_WS := o_mem (List.mem_of_getElem? (i := 94) (by decide +kernel)) rfl
/-! CONSTRUCTORS: walked over an explicit world of cells -/
def o_PW (G : o_G) (ws : va_W) (U : State) : Prop := o_SF G U ∧ va_P (g_D G) o_cl ws U.heap ∧ va_D (g_A G) ws
def o_QC (G : o_G) (Pp : va_W → Prop) : Array Value → State → Outcome → State → Prop := fun _ st oc t => oc = .returned none ∧ (∃ ws', Pp ws' ∧ va_P (g_D G) o_cl ws' t.heap ∧ va_D (g_A G) ws') ∧ va_F (g_A G) st t
def o_RC (d mc ms : Nat) : Room := { frames := d, cells := mc, slots := ms, locals := 40 * d }
def o_EC (G : o_G) (Qc : Array Value → State → Outcome → State → Prop) (mc ms : Nat) (X : o_X) : Prop := x_Q X = MQ (x_b X) Qc (x_a X) (x_s X) mc ms (g_A G) ∧ (x_me X).name = "<init>" ∧ (x_R X).cells = mc ∧ (x_R X).slots = ms
/-- a constructor's contract -/
def o_EvC (G : o_G) (y : MethodName) (cc : ByteArray) (nL k : Nat) (av : List Value) (Pc : State → Prop) (Qc : Array Value → State → Outcome → State → Prop) (mc ms : Nat) : Prop :=
  ∀ d, k ≤ d → Met (g_l G) y (Cond.code y cc nL none :: o_WS) (o_RC d mc ms) (va_Pc av Pc) Qc mc ms (g_A G)
def o_V (G : o_G) (own : String) (cc : ByteArray) (ret : Option FieldType) (nL kd : Nat) (En : o_X → Prop) (mc ms : Nat) (ws : va_W) (c n pc : Nat) (L : List (Nat × Value)) (st : List Value) : Prop :=
  ∀ X : o_X, o_C G X own cc ret nL kd → En X → mc ≤ (x_R X).cells → ms ≤ (x_R X).slots → ∀ (H : Heap) (locs : List Loc) (ls : Array Slot), va_P (g_D G) o_cl ws H → va_D (g_A G) ws → va_S (g_A G) (x_s X).heap H locs → lv_has ls nL L → o_Wf G X H locs c n pc ls st
section
variable {G : o_G} {own : String} {cc : ByteArray} {ret : Option FieldType} {nL kd : Nat} {En : o_X → Prop} {mc ms : Nat} {ws : va_W} {c n pc : Nat} {L : List (Nat × Value)} {st : List Value}
theorem o_EvC.mk {y : MethodName} {av : List Value} {Qc : Array Value → State → Outcome → State → Prop} (hy : plainName y.cls = true) (hi : y.name = "<init>") (hlen : (lg_sl av).length ≤ nL) (hZ : o_V G y.cls cc none nL kd (o_EC G Qc mc ms) mc ms ws 0 0 0 (lv_args 0 av) []) : o_EvC G y cc nL kd av (o_PW G ws) Qc mc ms := by
  intro d hd
  refine Met.ofW (cc := cc) (maxL := nL) (ret := none) hy rfl ?_
  intro p e s m args below meth c s₁ B hml hv
  obtain ⟨rfl, hSF, hP, hD⟩ := hv
  have hts := atoms_spec (ws := Cond.code y cc nL none :: o_WS) B.pre
  have hin : meth.name = "<init>" := (name_of_methodNamed B.named B.method).1.trans hi
  rw [lg_entry_eq]
  exact hZ (p, e, o_RC d mc ms, s, m, av.toArray, below, meth, c, MQ below Qc av.toArray s mc ms (g_A G)) ⟨B.exec, B.bytes, B.returns, hml, findClass_of_methodNamed B.named, fun w h => hts w (List.mem_cons_of_mem _ h), B.notSynchronized, hSF, hd, Nat.le_refl _⟩ ⟨rfl, hin, rfl, rfl⟩ (Nat.le_refl _) (Nat.le_refl _) s.heap [] _ hP hD va_S.rf (lv_entry av hlen)
theorem o_V.step {pc' : Nat} {st' : List Value} (k : o_V G own cc ret nL kd En mc ms ws c n pc' L st') (h : ∀ X : o_X, o_C G X own cc ret nL kd → ∀ (H : Heap) (locs : List Loc) (ls : Array Slot), lv_has ls nL L → o_Wf G X H locs c n pc' ls st' → o_Wf G X H locs c n pc ls st) : o_V G own cc ret nL kd En mc ms ws c n pc L st :=
  fun X C E r1 r2 H locs ls hP hD hS hl => h X C H locs ls hl (k X C E r1 r2 H locs ls hP hD hS hl)
theorem v_aload_n {m : Fin 4} {x : Nat} (hd : decode cc pc = .ok (.aload_n m, 1)) (q : Nat) (hq : L[q]? = some ((m : Nat), .ref x)) (k : o_V G own cc ret nL kd En mc ms ws c n (pc + 1) L (.ref x :: st)) : o_V G own cc ret nL kd En mc ms ws c n pc L st := k.step fun _ C _ _ _ hl => lv_aload_n C.1 C.2.1 hd rfl (lv_at hl q hq)
theorem v_aload {m : Nat} {x : Nat} (hd : decode cc pc = .ok (.aload m, 2)) (q : Nat) (hq : L[q]? = some (m, .ref x)) (k : o_V G own cc ret nL kd En mc ms ws c n (pc + 2) L (.ref x :: st)) : o_V G own cc ret nL kd En mc ms ws c n pc L st := k.step fun _ C _ _ _ hl => lv_aload C.1 C.2.1 hd (lv_at hl q hq)
theorem v_iconst {m : Int} {v : Int32} (hd : decode cc pc = .ok (.iconst m, 1)) (hv : Int32.ofInt m = v) (k : o_V G own cc ret nL kd En mc ms ws c n (pc + 1) L (.int v :: st)) : o_V G own cc ret nL kd En mc ms ws c n pc L st := k.step fun _ C _ _ _ _ => lv_iconst C.1 C.2.1 hd hv
theorem v_bipush {m : Int} {v : Int32} (hd : decode cc pc = .ok (.bipush m, 2)) (hv : (Int8.ofInt m).toInt32 = v) (k : o_V G own cc ret nL kd En mc ms ws c n (pc + 2) L (.int v :: st)) : o_V G own cc ret nL kd En mc ms ws c n pc L st := k.step fun _ C _ _ _ _ => lv_bipush C.1 C.2.1 hd hv
theorem v_sipush {m : Int} {v : Int32} (hd : decode cc pc = .ok (.sipush m, 3)) (hv : (Int16.ofInt m).toInt32 = v) (k : o_V G own cc ret nL kd En mc ms ws c n (pc + 3) L (.int v :: st)) : o_V G own cc ret nL kd En mc ms ws c n pc L st := k.step fun _ C _ _ _ _ => lv_sipush C.1 C.2.1 hd hv
theorem v_ldc {i : Nat} {v : Int32} (hw : Cond.constant own i v ∈ o_WS) (hd : decode cc pc = .ok (.ldc i, 2)) (k : o_V G own cc ret nL kd En mc ms ws c n (pc + 2) L (.int v :: st)) : o_V G own cc ret nL kd En mc ms ws c n pc L st := k.step fun _ C _ _ _ _ => lv_ldc C.1 C.2.1 C.2.2.2.2.1 (C.2.2.2.2.2.1 _ hw) hd
theorem v_dup {v : Value} (hd : decode cc pc = .ok (.dup, 1)) (hv : v.category = 1) (k : o_V G own cc ret nL kd En mc ms ws c n (pc + 1) L (v :: v :: st)) : o_V G own cc ret nL kd En mc ms ws c n pc L (v :: st) := k.step fun _ C _ _ _ _ => lv_dup C.1 C.2.1 hd hv
theorem v_astore_n {m : Fin 4} {x : Nat} {L' : List (Nat × Value)} (hd : decode cc pc = .ok (.astore_n m, 1)) (hn : (m : Nat) < nL) (hL : ((m : Nat), Value.ref x) :: L.filter (fun q => !(q.1 == (m : Nat)) && !(q.1 + 1 == (m : Nat) && q.2.category == 2)) = L') (k : o_V G own cc ret nL kd En mc ms ws c n (pc + 1) L' st) : o_V G own cc ret nL kd En mc ms ws c n pc L (.ref x :: st) :=
  fun X C E r1 r2 H locs ls hP hD hS hl => lv_astore_n C.1 C.2.1 hd rfl hl hn hL fun ls' hl' => k X C E r1 r2 H locs ls' hP hD hS hl'
theorem v_objInit {i : Nat} {a : Nat} (hkd : 1 ≤ kd) (hw : Cond.methodLink own i ⟨"java/lang/Object", "<init>", "()V"⟩ ∈ o_WS) (hro : (st.map fun v => v.category).sum ≤ 8) (hd : decode cc pc = .ok (.invokespecial i, 3)) (k : o_V G own cc ret nL kd En mc ms ws c n (pc + 3) L st) : o_V G own cc ret nL kd En mc ms ws c n pc L (.ref a :: st) :=
  fun X C E r1 r2 H locs ls hP hD hS hl => by
    obtain ⟨hx, hb, hr, hmx, hown, hts, hlk, hSF, hfr, hlo⟩ := id C
    refine W.objInit hx hb hown (hts _ hw) (hts _ oa_oi) (hts _ oa_oc) rfl (by rw [hmx]; exact hl.1) rfl hd (by omega) ?_ (k X C E r1 r2 H locs ls hP hD hS hl)
    show 2 * 0 + _ + 12 ≤ _
    omega
theorem v_get {ci N q0 i a f : Nat} {C0 : String} {T : u_T} {fs : List Value} {v : Value} (hoi : ∀ w ∈ u_ws C0 T N, w ∈ o_WS) (hc : o_cl[ci]? = some (C0, T, N)) (hk : f < N) (hw : Cond.fieldLink own i (T f).1 (T f).2.1 (T f).2.2.1 ∈ o_WS) (he : ws[q0]? = some (a, .inr (ci, fs))) (hv : fs[f]? = some v) (hd : decode cc pc = .ok (.getfield i, 3)) (k : o_V G own cc ret nL kd En mc ms ws c n (pc + 3) L (v :: st)) : o_V G own cc ret nL kd En mc ms ws c n pc L (.ref a :: st) :=
  fun X C E r1 r2 H locs ls hP hD hS hl => va_get C.1 C.2.1 C.2.2.2.2.2.1 hoi C.2.2.2.2.1 C.2.2.2.2.2.2.2.1.1 hP q0 he hc f hk (C.2.2.2.2.2.1 _ hw) (fun _ h => h) hv hd (k X C E r1 r2 H locs ls hP hD hS hl)
theorem v_put {ci N q0 i a f : Nat} {C0 : String} {T : u_T} {ty0 : Nat → FieldType} {fs : List Value} {v : Value} {ty : FieldType} {ws' : va_W} (hoi : ∀ w ∈ u_ws C0 T N, w ∈ o_WS) (hty : ∀ k, k < N → parseFieldDescriptor (T k).2.2.1 = some (ty0 k)) (hnm : ∀ a, a < N → ∀ b, b < N → a ≠ b → (T a).2.1 ≠ (T b).2.1) (hc : o_cl[ci]? = some (C0, T, N)) (hk : f < N) (hw : Cond.fieldLink own i (T f).1 (T f).2.1 (T f).2.2.1 ∈ o_WS) (hfin : (T f).2.2.2 = false) (hpd : parseFieldDescriptor (T f).2.2.1 = some ty) (hn : narrow ty v = v) (hfit : fits ty v = true)
    (he : ws[q0]? = some (a, .inr (ci, fs))) (hl : f < fs.length) (hws : ws.set q0 (a, .inr (ci, fs.set f v)) = ws') (hd : decode cc pc = .ok (.putfield i, 3)) (k : o_V G own cc ret nL kd En mc ms ws' c n (pc + 3) L st) : o_V G own cc ret nL kd En mc ms ws c n pc L (v :: .ref a :: st) :=
  fun X C E r1 r2 H locs ls hP hD hS hl' => va_put C.1 C.2.1 C.2.2.2.2.2.1 hoi ty0 hty hnm C.2.2.2.2.1 C.2.2.2.2.2.2.2.1.1 hP hD hS q0 he hc f hk (C.2.2.2.2.2.1 _ hw) (fun _ h => h) hfin hpd hn hfit hl hd (fun H1 locs1 a b z => k X C E r1 r2 H1 locs1 ls (hws ▸ a) (hws ▸ b) z hl')
theorem v_putF {ci N q0 i a f : Nat} {C0 : String} {T : u_T} {ty0 : Nat → FieldType} {fs : List Value} {v : Value} {ty : FieldType} {ws' : va_W} (hEi : ∀ X, En X → (x_me X).name = "<init>") (hoi : ∀ w ∈ u_ws C0 T N, w ∈ o_WS) (hty : ∀ k, k < N → parseFieldDescriptor (T k).2.2.1 = some (ty0 k)) (hnm : ∀ a, a < N → ∀ b, b < N → a ≠ b → (T a).2.1 ≠ (T b).2.1) (hc : o_cl[ci]? = some (C0, T, N)) (hk : f < N) (hw : Cond.fieldLink own i (T f).1 (T f).2.1 (T f).2.2.1 ∈ o_WS) (hfin : (T f).2.2.2 = true) (hdecl : (T f).1 = own) (hpd : parseFieldDescriptor (T f).2.2.1 = some ty) (hn : narrow ty v = v) (hfit : fits ty v = true)
    (he : ws[q0]? = some (a, .inr (ci, fs))) (hl : f < fs.length) (hws : ws.set q0 (a, .inr (ci, fs.set f v)) = ws') (hd : decode cc pc = .ok (.putfield i, 3)) (k : o_V G own cc ret nL kd En mc ms ws' c n (pc + 3) L st) : o_V G own cc ret nL kd En mc ms ws c n pc L (v :: .ref a :: st) :=
  fun X C E r1 r2 H locs ls hP hD hS hl' => va_putF C.1 C.2.1 C.2.2.2.2.2.1 hoi ty0 hty hnm C.2.2.2.2.1 C.2.2.2.2.2.2.2.1.1 hP hD hS q0 he hc f hk (C.2.2.2.2.2.1 _ hw) (fun _ h => h) hfin (hEi X E) hdecl hpd hn hfit hl hd (fun H1 locs1 a b z => k X C E r1 r2 H1 locs1 ls (hws ▸ a) (hws ▸ b) z hl')
theorem v_new {ci N i : Nat} {C0 : String} {T : u_T} {ty0 : Nat → FieldType} {fs : List Value} (hoi : ∀ w ∈ u_ws C0 T N, w ∈ o_WS) (hty : ∀ k, k < N → parseFieldDescriptor (T k).2.2.1 = some (ty0 k)) (hc : o_cl[ci]? = some (C0, T, N)) (hkl : Cond.classLink own i C0 ∈ o_WS) (hib : Cond.instantiable C0 N ∈ o_WS) (hin : Cond.initialized C0 ∈ o_WS) (hfs : ∀ j, j < N → defaultValue (ty0 j) = vp_V fs j) (h1 : c + 1 ≤ mc) (h2 : n + N ≤ ms) (hd : decode cc pc = .ok (.new i, 3)) (k : ∀ q : Nat, o_V G own cc ret nL kd En mc ms (ws ++ [(q, .inr (ci, fs))]) (c + 1) (n + N) (pc + 3) L (.ref q :: st)) : o_V G own cc ret nL kd En mc ms ws c n pc L st :=
  fun X C E r1 r2 H locs ls hP hD hS hl => by
    obtain ⟨hx, hb, hr, hmx, hown, hts, hlk, hSF, hfr, hlo⟩ := id C
    exact va_new hx hb hts hoi ty0 hty hown (hts _ hkl) (hts _ hib) (hts _ hin) hSF.1 hP hD hS (fun q h => Nat.le_trans hSF.2.2.2.2.2.2.2.1 h) hc hfs (Nat.le_trans h1 r1) (Nat.le_trans h2 r2) hd (fun q H1 a b z => k q X C E r1 r2 H1 locs ls a b z hl)
theorem v_newa {N : Nat} {v : Int32} (hv : v = nI N) (hN : N ≤ 100000) (h1 : c + 1 ≤ mc) (h2 : n + N ≤ ms) (hd : decode cc pc = .ok (.newarray .int, 2)) (k : ∀ q : Nat, o_V G own cc ret nL kd En mc ms (ws ++ [(q, .inl (g_I G, N, .inl (fun _ => 0)))]) (c + 1) (n + N) (pc + 2) L (.ref q :: st)) : o_V G own cc ret nL kd En mc ms ws c n pc L (.int v :: st) :=
  fun X C E r1 r2 H locs ls hP hD hS hl => by
    obtain ⟨hx, hb, hr, hmx, hown, hts, hlk, hSF, hfr, hlo⟩ := id C
    subst hv
    refine va_newa (atype := .int) (ty := .int) (N' := N) (a0 := (N, .inl (fun _ => 0))) hx hb (hts _ oa_I) rfl hSF.1 hP hD hS (fun q h => Nat.le_trans hSF.2.2.2.2.2.2.2.1 h) (fun cA => rfl) (nI_pos (by omega)) (nI_clamp (by omega)) (by show N * 4 ≤ _; omega) (Nat.le_trans h1 r1) (Nat.le_trans h2 r2) hd (fun q cA H1 hK1 a b z => ?_)
    have ec : cA = g_I G := by
      have z1 : (x_s X).vm.findClass ("[" ++ FieldType.int.toString) = some cA := (hK1.2 2 _ rfl).2
      have z2 : (x_s X).vm.findClass ("[" ++ FieldType.int.toString) = some (g_I G) := (hK1.2 0 _ rfl).2
      exact Option.some.inj (z1.symm.trans z2)
    subst ec
    exact k q X C E r1 r2 H1 locs ls a b z hl
theorem v_newaL (h1 : c + 1 ≤ mc) (h2 : n + 1 ≤ ms) (hd : decode cc pc = .ok (.newarray .long, 2)) (k : ∀ q : Nat, o_V G own cc ret nL kd En mc ms (ws ++ [(q, .inl (g_J G, 1, .inr (.inl (fun _ => 0))))]) (c + 1) (n + 1) (pc + 2) L (.ref q :: st)) : o_V G own cc ret nL kd En mc ms ws c n pc L (.int 1 :: st) :=
  fun X C E r1 r2 H locs ls hP hD hS hl => by
    obtain ⟨hx, hb, hr, hmx, hown, hts, hlk, hSF, hfr, hlo⟩ := id C
    refine va_newa (atype := .long) (ty := .long) (N' := 1) (a0 := (1, .inr (.inl (fun _ => 0)))) hx hb (hts _ oa_J) rfl hSF.1 hP hD hS (fun q h => Nat.le_trans hSF.2.2.2.2.2.2.2.1 h) (fun cA => rfl) (by decide) (by decide) (by decide) (Nat.le_trans h1 r1) (Nat.le_trans h2 r2) hd (fun q cA H1 hK1 a b z => ?_)
    have ec : cA = g_J G := by
      have z1 : (x_s X).vm.findClass ("[" ++ FieldType.long.toString) = some cA := (hK1.2 2 _ rfl).2
      have z2 : (x_s X).vm.findClass ("[" ++ FieldType.long.toString) = some (g_J G) := (hK1.2 1 _ rfl).2
      exact Option.some.inj (z1.symm.trans z2)
    subst ec
    exact k q X C E r1 r2 H1 locs ls a b z hl
/-- a constructor that can be called -/
def o_MC (y : MethodName) (cy : ByteArray) (nY : Nat) (m : Nat) : Prop :=
  Cond.instanceMethod y ∈ o_WS ∧ Cond.initialized y.cls ∈ o_WS ∧ Cond.code y cy nY none ∈ o_WS ∧ nY ≤ 21 ∧ y.name = "<init>" ∧ (y.cls ≠ "java/lang/invoke/MethodHandle" ∧ y.cls ≠ "java/lang/invoke/VarHandle" ∧ (parseMethodDescriptor y.desc).map (fun d => d.parameters.length) = some m)
/-- a call of a constructor: its own world is this one; what it leaves is Qc's -/
theorem o_afterC {X : o_X} {H : Heap} {locs : List Loc} {ls : Array Slot} {mY sY : Nat} {rest : List Value} {a : Array Value} {Qc : Array Value → State → Outcome → State → Prop} (hS : va_S (g_A G) (x_s X).heap H locs)
    (hr : va_Run (x_p X) (g_l G) (x_e X) (x_R X) (x_s X) (x_m X) (x_a X) (x_b X) (x_me X) (x_c X) H locs c n mY sY (F0 (x_m X) pc ls st) rest (Qc a) (g_A G))
    (hQ : ∀ st₀ oc t, Qc a st₀ oc t → oc = .returned none ∧ va_F (g_A G) st₀ t)
    (k : ∀ (t : State) (st₀ : State) (H1 : Heap) (locs1 : List Loc), t.heap = H1 → Qc a st₀ (.returned none) t → va_S (g_A G) (x_s X).heap H1 locs1 → o_Wf G X H1 locs1 (c + mY) (n + sY) (pc + 3) ls rest) : o_Wf G X H locs c n pc ls st := by
  intro T hT Xs
  obtain ⟨v', st₀, t, T', Lc, h0, X', hL, e1, e2, hq, go⟩ := hr T hT Xs
  obtain ⟨hv, hF⟩ := hQ _ _ _ hq
  cases hv
  have hS' := (vx_keep h0 e1 hS (fun _ _ h => h) (fun _ h => h) hL hF).2.2
  obtain ⟨t2, a1, b1⟩ := k t st₀ T'.heap (locs ++ Lc) e1.symm hq hS' T' rfl X'
  exact ⟨t2, go t2 a1, b1⟩
theorem v_callI {y : MethodName} {cy : ByteArray} {nY kY m i b mY sY : Nat} {As rest : List Value} {Pp : va_W → Prop} (hE : o_EvC G y cy nY kY (.ref b :: As) (o_PW G ws) (o_QC G Pp) mY sY) (hk : kY + 1 ≤ kd) (hM : o_MC y cy nY m) (hml : Cond.methodLink own i y ∈ o_WS) (hn : As.length = m) (hst : st = As.reverse ++ .ref b :: rest) (hro : (rest.map fun v => v.category).sum ≤ 8) (h1 : c + mY ≤ mc) (h2 : n + sY ≤ ms) (hd : decode cc pc = .ok (.invokespecial i, 3))
    (k : ∀ ws', Pp ws' → o_V G own cc ret nL kd En mc ms ws' (c + mY) (n + sY) (pc + 3) L rest) : o_V G own cc ret nL kd En mc ms ws c n pc L st :=
  fun X C E r1 r2 H locs ls hP hD hS hl => by
    obtain ⟨hx, hb, hr, hmx, hown, hts, hlk, hSF, hfr, hlo⟩ := id C
    obtain ⟨m1, m3, m4, m5, m7, m6⟩ := hM
    refine o_afterC hS (va_runI (As := As) (rest := rest) (b := b) (n := m) ⟨hx, hb, hmx, hown, hts⟩ (hE ((x_R X).frames - 1) (by omega)) (cwI m hts (o_GoodIn m4) rfl rfl rfl (hts _ m3) (hts _ hml) (hts _ m1) m7 m6 ⟨?_, ?_⟩) ⟨fun a U g mk q => ⟨q.1, q.2.1.calling g mk a, q.2.2⟩, fun U hU hW => ⟨rfl, hSF.moved hW hU hS, by rw [hU]; exact hP, hD⟩⟩ rfl hn hl.1 hst (lv_room hro) hd ⟨Nat.le_trans h1 r1, Nat.le_trans h2 r2⟩) (fun _ _ _ q => ⟨q.1, q.2.2⟩) (fun t st₀ H1 locs1 ht hq hS' => ?_)
    · show (x_R X).frames - 1 + 1 ≤ _; omega
    · show 8 + (nY + 11) + 40 * ((x_R X).frames - 1) ≤ _; omega
    · obtain ⟨-, ⟨ws', hp, ha, hb'⟩, -⟩ := hq
      exact k ws' hp X C E r1 r2 H1 locs1 ls (ht ▸ ha) hb' hS' hl
theorem v_callIN {y : MethodName} {cy : ByteArray} {nY kY m i b mY sY : Nat} {host : String} {As rest : List Value} {Pp : va_W → Prop} (hE : o_EvC G y cy nY kY (.ref b :: As) (o_PW G ws) (o_QC G Pp) mY sY) (hk : kY + 1 ≤ kd) (hM : o_MC y cy nY m) (hml : (own, i, y, host) ∈ o_nestM) (hn : As.length = m) (hst : st = As.reverse ++ .ref b :: rest) (hro : (rest.map fun v => v.category).sum ≤ 8) (h1 : c + mY ≤ mc) (h2 : n + sY ≤ ms) (hd : decode cc pc = .ok (.invokespecial i, 3))
    (k : ∀ ws', Pp ws' → o_V G own cc ret nL kd En mc ms ws' (c + mY) (n + sY) (pc + 3) L rest) : o_V G own cc ret nL kd En mc ms ws c n pc L st :=
  fun X C E r1 r2 H locs ls hP hD hS hl => by
    obtain ⟨hx, hb, hr, hmx, hown, hts, hlk, hSF, hfr, hlo⟩ := id C
    obtain ⟨m1, m3, m4, m5, m7, m6⟩ := hM
    refine o_afterC hS (va_runIN (As := As) (rest := rest) (b := b) (n := m) ⟨hx, hb, hmx, hown, hts⟩ (hE ((x_R X).frames - 1) (by omega)) ⟨va_cnB m hts (o_GoodIn m4) rfl rfl rfl (hSF.2.2.2.2.1 _ hml) (hts _ m3) m6 ⟨?_, ?_⟩, m7, hts _ m1⟩ ⟨fun a U g mk q => ⟨q.1, q.2.1.calling g mk a, q.2.2⟩, fun U hU hW => ⟨rfl, hSF.moved hW hU hS, by rw [hU]; exact hP, hD⟩⟩ rfl hn hl.1 hst (lv_room hro) hd ⟨Nat.le_trans h1 r1, Nat.le_trans h2 r2⟩) (fun _ _ _ q => ⟨q.1, q.2.2⟩) (fun t st₀ H1 locs1 ht hq hS' => ?_)
    · show (x_R X).frames - 1 + 1 ≤ _; omega
    · show 8 + (nY + 11) + 40 * ((x_R X).frames - 1) ≤ _; omega
    · obtain ⟨-, ⟨ws', hp, ha, hb'⟩, -⟩ := hq
      exact k ws' hp X C E r1 r2 H1 locs1 ls (ht ▸ ha) hb' hS' hl
theorem v_ret {Pp : va_W → Prop} (hr : ret = none) (hE : En = o_EC G (o_QC G Pp) c n) (hp : Pp ws) (hd : decode cc pc = .ok (.return_, 1)) : o_V G own cc ret nL kd En mc ms ws c n pc L [] := by
  subst hr hE
  intro X C E r1 r2 H locs ls hP hD hS hl
  have e : x_Q X = _ := E.1
  show W _ _ _ _ _ _ _ _ _ _ _ _ _ _ (x_Q X) _
  rw [e]
  exact W.vret C.1 C.2.1 C.2.2.1 (fun t ht hW => ⟨rfl, ⟨ws, hp, by rw [ht]; exact hP, hD⟩, hS.F ht⟩) hS.2.2 hd C.2.2.2.2.2.2.1
end
/-- Row(): the row's array is new -/
theorem c_row {G : o_G} {ws : va_W} {i h0 : Nat} (hi : ws[i]? = some (h0, .inr (4, [.null, .int 0]))) : o_EvC G yX4_init cX4_init 1 1 [.ref h0] (o_PW G ws) (o_QC G (fun ws' => ∃ q, ws' = ws.set i (h0, .inr (4, [.ref q, .int 0])) ++ [(q, .inl (g_I G, 64, .inl (fun _ => 0)))])) 1 64 := by
  refine o_EvC.mk rfl rfl (Nat.le_of_ble_eq_true rfl) ?_
  refine v_aload_n dX4_init_0 0 rfl ?_
  refine v_objInit (by decide) ml_X4_3 (Nat.le_of_ble_eq_true rfl) dX4_init_1 ?_
  refine v_aload_n dX4_init_4 0 rfl ?_
  refine v_bipush (v := 64) dX4_init_5 (by decide) ?_
  refine v_newa (N := 64) (by decide) (by decide) (by decide) (by decide) dX4_init_7 (fun q => ?_)
  have hlt := (List.getElem?_eq_some_iff.mp hi).1
  have hi1 : (ws ++ ([(q, .inl (g_I G, 64, .inl (fun _ => 0)))] : va_W))[i]? = some (h0, .inr (4, [.null, .int 0])) := by rw [List.getElem?_append_left hlt]; exact hi
  refine v_put (ci := 4) (C0 := RX4) (T := TX4) (N := 2) (ty0 := tyX4) (f := 0) (ty := .array .int) oi_X4 tyX4_ok nmX4 rfl (by decide) fl_X4_11 rfl (by decide +kernel) rfl rfl hi1 (Nat.le_of_ble_eq_true rfl) (List.set_append_left _ _ hlt) dX4_init_9 ?_
  refine v_aload_n dX4_init_12 0 rfl ?_
  refine v_iconst (v := 0) dX4_init_13 (by decide) ?_
  have hlt2 : i < (ws.set i (h0, .inr (4, [.ref q, .int 0]))).length := by rw [List.length_set]; exact hlt
  have hi2 : (ws.set i (h0, .inr (4, [.ref q, .int 0])) ++ ([(q, .inl (g_I G, 64, .inl (fun _ => 0)))] : va_W))[i]? = some (h0, .inr (4, [.ref q, .int 0])) := by rw [List.getElem?_append_left hlt2, List.getElem?_set_self hlt]
  refine v_put (ci := 4) (C0 := RX4) (T := TX4) (N := 2) (ty0 := tyX4) (f := 1) (ty := .int) oi_X4 tyX4_ok nmX4 rfl (by decide) fl_X4_15 rfl (by decide +kernel) rfl rfl hi2 (Nat.le_of_ble_eq_true rfl) (o_set_self hi2) dX4_init_14 ?_
  exact v_ret rfl rfl ⟨q, rfl⟩ dX4_init_17
def o_Gd (G : o_G) (ad : Nat → Nat) (u : Nat) : o_G := (G.1, G.2.1, G.2.2.1, G.2.2.2.1, G.2.2.2.2.1, ad, G.2.2.2.2.2.2.1, u)
section
variable {G G2 : o_G} {own : String} {cc : ByteArray} {ret : Option FieldType} {nL kd : Nat} {En : o_X → Prop} {mc ms : Nat} {ws : va_W} {c n pc k' : Nat} {σ : o_S} {L : List (Nat × Value)} {st : List Value}
/-- from an explicit world to the system's state -/
theorem v_toZ (hC : ∀ X, o_C G X own cc ret nL kd → o_C G2 X own cc ret nL kd) (hl : g_l G2 = g_l G) (hA : g_A G2 = g_A G) (hH : ∀ H, va_P (g_D G) o_cl ws H → va_D (g_A G) ws → o_H G2 σ H) (hZ : o_Z G2 own cc ret nL kd En k' σ pc L st) (h1 : c + (k' - o_k σ) ≤ mc) (h2 : n + 2 * (k' - o_k σ) ≤ ms) : o_V G own cc ret nL kd En mc ms ws c n pc L st := by
  intro X C E r1 r2 H locs ls hP hD hS hl'
  have := hZ.2 X (hC X C) E H locs ls c n (hH H hP hD) (hA ▸ hS) hl' (Nat.le_trans h1 r1) (Nat.le_trans h2 r2)
  unfold o_Wf at this ⊢
  rw [hl] at this
  exact this
theorem zc_vret {Qc : Array Value → State → Outcome → State → Prop} (hA : g_A G2 = g_A G) (hr : ret = none) (hE : En = o_EC G Qc mc ms) (hk : k' = o_k σ) (hQ : ∀ (a : Array Value) (s t : State), o_H G2 σ t.heap → va_F (g_A G) s t → Qc a s (.returned none) t) (hd : decode cc pc = .ok (.return_, 1)) : o_Z G2 own cc ret nL kd En k' σ pc L [] := by
  subst hr hE hk
  refine ⟨Nat.le_refl _, fun X C E H locs ls cells slots hP hS hl h1 h2 => ?_⟩
  obtain ⟨e, -, e1, e2⟩ := E
  show W _ _ _ _ _ _ _ _ _ _ _ _ _ _ (x_Q X) _
  rw [e]
  rw [hA] at hS
  exact W.widen (Nat.le_trans (Nat.le_add_right _ _) (e1 ▸ h1)) (Nat.le_trans (Nat.le_add_right _ _) (e2 ▸ h2)) (W.vret C.1 C.2.1 C.2.2.1 (fun t ht hW => hQ _ _ _ (by rw [ht]; exact hP) (hS.F ht)) hS.2.2 hd C.2.2.2.2.2.2.1)
end
/-- the state of a new object -/
def o_s0 : o_S := (fun k => if k = 8 then -1 else 0, fun _ _ => 0, fun _ => (64, []), fun _ => 0, 0)
/-- the reference's part of it, new -/
def o_zM (σ : o_S) : o_S := (fun k => if 15 ≤ k then 0 else σ.1 k, fun _ _ => 0, σ.2.2)
def o_zO (σ : o_S) : o_S := (σ.1, σ.2.1, σ.2.2.1, fun _ => 0, σ.2.2.2.2)
def o_Q6 (G : o_G) (h0 : Nat) (σ1 : o_S) : Array Value → State → Outcome → State → Prop := fun _ st oc t => oc = .returned none ∧ (∃ ad : Nat → Nat, ad 0 = h0 ∧ o_H (o_Gd G ad 0) σ1 t.heap) ∧ va_F (g_A G) st t
def o_Q7 (G : o_G) (ad : Nat → Nat) (q : Nat) (σ1 : o_S) : Array Value → State → Outcome → State → Prop := fun _ st oc t => oc = .returned none ∧ (∃ ad2 : Nat → Nat, ad2 0 = ad 0 ∧ ad2 6 = q ∧ o_H (o_up (o_Gd G ad2 0)) σ1 t.heap) ∧ va_F (g_A G) st t
theorem o_D_sub {A : Nat → Prop} {ws ws' : va_W} (h : va_D A ws) (is : List Nat) (hn : va_nd is = true) (hs : is.map (fun i => ws[i]?) = ws'.map some) : va_D A ws' := h.sub is hn hs
