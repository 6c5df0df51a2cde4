/-! SMALL WORDS OF THE PRINTED FUNCTIONS, AND THEIR ROWS -/
def o_do {α β : Type} (a : α) (f : α → Option β) : Option β := f a
theorem o_dd {α β : Type} {a : α} {f : α → Option β} {r : β} (h : o_do a f = some r) : f a = some r := h
def o_bi {α β : Type} (a : Option (α × o_S)) (f : α → o_S → Option β) : Option β := a.bind fun q => f q.1 q.2
theorem o_bdi {α β : Type} {a : Option (α × o_S)} {f : α → o_S → Option β} {r : β} (h : o_bi a f = some r) : ∃ v s, a = some (v, s) ∧ f v s = some r := by
  obtain ⟨⟨v, s⟩, h1, h2⟩ := o_bd h
  exact ⟨v, s, h1, h2⟩
def o_bv {β : Type} (a : Option o_S) (f : o_S → Option β) : Option β := a.bind f
theorem o_bdv {β : Type} {a : Option o_S} {f : o_S → Option β} {r : β} (h : o_bv a f = some r) : ∃ s, a = some s ∧ f s = some r := o_bd h
def o_bx {α β : Type} (a : Option ((Nat ⊕ α) × o_S)) (fe : Nat → o_S → Option β) (f : α → o_S → Option β) : Option β := a.bind fun q => match q.1 with
  | .inl e => fe e q.2
  | .inr v => f v q.2
theorem o_bdx {α β : Type} {a : Option ((Nat ⊕ α) × o_S)} {fe : Nat → o_S → Option β} {f : α → o_S → Option β} {r : β} (h : o_bx a fe f = some r) : (∃ e s, a = some (.inl e, s) ∧ fe e s = some r) ∨ (∃ v s, a = some (.inr v, s) ∧ f v s = some r) := by
  obtain ⟨⟨o, s⟩, h1, h2⟩ := o_bd h
  cases o with
  | inl e => exact Or.inl ⟨e, s, h1, h2⟩
  | inr v => exact Or.inr ⟨v, s, h1, h2⟩
section
variable {G : o_G} {own : String} {cc : ByteArray} {ret : Option FieldType} {nL kd : Nat} {En : o_X → Prop} {k' : Nat} {σ : o_S} {pc : Nat} {L : List (Nat × Value)} {st : List Value}
theorem z_callVi {y : MethodName} {cy : ByteArray} {nY kY n i b : Nat} {rY : Option FieldType} {As rest : List Value} {σ1 : o_S} {v : Int32}
    (hE : o_Ev G y cy nY rY kY (.ref b :: As) σ (some (.int v)) σ1) (hk : kY + 1 ≤ kd) (hM : o_MI y cy nY rY n) (hml : Cond.methodLink own i y ∈ o_WS) (hn : As.length = n) (hst : st = As.reverse ++ .ref b :: rest) (hro : (rest.map fun v => v.category).sum ≤ 8) (hrv : o_RV G b y.cls) (hd : decode cc pc = .ok (.invokevirtual i, 3))
    (k : o_Z G own cc ret nL kd En k' σ1 (pc + 3) L (.int v :: rest)) : o_Z G own cc ret nL kd En k' σ pc L st := z_callV hE hk hM hml hn hst hro hrv hd k
theorem z_callVl {y : MethodName} {cy : ByteArray} {nY kY n i b : Nat} {rY : Option FieldType} {As rest : List Value} {σ1 : o_S} {v : Int64}
    (hE : o_Ev G y cy nY rY kY (.ref b :: As) σ (some (.long v)) σ1) (hk : kY + 1 ≤ kd) (hM : o_MI y cy nY rY n) (hml : Cond.methodLink own i y ∈ o_WS) (hn : As.length = n) (hst : st = As.reverse ++ .ref b :: rest) (hro : (rest.map fun v => v.category).sum ≤ 8) (hrv : o_RV G b y.cls) (hd : decode cc pc = .ok (.invokevirtual i, 3))
    (k : o_Z G own cc ret nL kd En k' σ1 (pc + 3) L (.long v :: rest)) : o_Z G own cc ret nL kd En k' σ pc L st := z_callV hE hk hM hml hn hst hro hrv hd k
theorem z_callVv {y : MethodName} {cy : ByteArray} {nY kY n i b : Nat} {rY : Option FieldType} {As rest : List Value} {σ1 : o_S}
    (hE : o_Ev G y cy nY rY kY (.ref b :: As) σ none σ1) (hk : kY + 1 ≤ kd) (hM : o_MI y cy nY rY n) (hml : Cond.methodLink own i y ∈ o_WS) (hn : As.length = n) (hst : st = As.reverse ++ .ref b :: rest) (hro : (rest.map fun v => v.category).sum ≤ 8) (hrv : o_RV G b y.cls) (hd : decode cc pc = .ok (.invokevirtual i, 3))
    (k : o_Z G own cc ret nL kd En k' σ1 (pc + 3) L rest) : o_Z G own cc ret nL kd En k' σ pc L st := z_callV hE hk hM hml hn hst hro hrv hd k
theorem z_callSi {y : MethodName} {cy : ByteArray} {nY kY n i : Nat} {rY : Option FieldType} {As rest : List Value} {σ1 : o_S} {v : Int32}
    (hE : o_Ev G y cy nY rY kY As σ (some (.int v)) σ1) (hk : kY + 1 ≤ kd) (hM : o_MS y cy nY rY n) (hml : Cond.methodLink own i y ∈ o_WS) (hn : As.length = n) (hst : st = As.reverse ++ rest) (hro : (rest.map fun v => v.category).sum ≤ 8) (hd : decode cc pc = .ok (.invokestatic i, 3))
    (k : o_Z G own cc ret nL kd En k' σ1 (pc + 3) L (.int v :: rest)) : o_Z G own cc ret nL kd En k' σ pc L st := z_callS hE hk hM hml hn hst hro hd k
theorem z_callSl {y : MethodName} {cy : ByteArray} {nY kY n i : Nat} {rY : Option FieldType} {As rest : List Value} {σ1 : o_S} {v : Int64}
    (hE : o_Ev G y cy nY rY kY As σ (some (.long v)) σ1) (hk : kY + 1 ≤ kd) (hM : o_MS y cy nY rY n) (hml : Cond.methodLink own i y ∈ o_WS) (hn : As.length = n) (hst : st = As.reverse ++ rest) (hro : (rest.map fun v => v.category).sum ≤ 8) (hd : decode cc pc = .ok (.invokestatic i, 3))
    (k : o_Z G own cc ret nL kd En k' σ1 (pc + 3) L (.long v :: rest)) : o_Z G own cc ret nL kd En k' σ pc L st := z_callS hE hk hM hml hn hst hro hd k
theorem z_callSNi {y : MethodName} {cy : ByteArray} {nY kY n i : Nat} {host : String} {rY : Option FieldType} {As rest : List Value} {σ1 : o_S} {v : Int32}
    (hE : o_Ev G y cy nY rY kY As σ (some (.int v)) σ1) (hk : kY + 1 ≤ kd) (hM : o_MS y cy nY rY n) (hml : (own, i, y, host) ∈ o_nestM) (hn : As.length = n) (hst : st = As.reverse ++ rest) (hro : (rest.map fun v => v.category).sum ≤ 8) (hd : decode cc pc = .ok (.invokestatic i, 3))
    (k : o_Z G own cc ret nL kd En k' σ1 (pc + 3) L (.int v :: rest)) : o_Z G own cc ret nL kd En k' σ pc L st := z_callSN hE hk hM hml hn hst hro hd k
theorem z_callVNv {y : MethodName} {cy : ByteArray} {nY kY n i b : Nat} {host : String} {rY : Option FieldType} {As rest : List Value} {σ1 : o_S}
    (hE : o_Ev G y cy nY rY kY (.ref b :: As) σ none σ1) (hk : kY + 1 ≤ kd) (hM : o_MI y cy nY rY n) (hml : (own, i, y, host) ∈ o_nestM) (hn : As.length = n) (hst : st = As.reverse ++ .ref b :: rest) (hro : (rest.map fun v => v.category).sum ≤ 8) (hrv : o_RV G b y.cls) (hd : decode cc pc = .ok (.invokevirtual i, 3))
    (k : o_Z G own cc ret nL kd En k' σ1 (pc + 3) L rest) : o_Z G own cc ret nL kd En k' σ pc L st := by
  refine ⟨Nat.le_trans hE.1 k.1, fun X C E H locs ls cells slots hP hS hl h1 h2 => ?_⟩
  obtain ⟨hx, hb, hr, hmx, hown, hts, hlk, hSF, hfr, hlo⟩ := id C
  obtain ⟨m1, m2, m3, m4, m5, m6⟩ := hM
  have q1 := hE.1
  have q2 := k.1
  refine o_after (v := none) C E hl hS (va_runVN (As := As) (rest := rest) (b := b) (C := y.cls) (n := n) ⟨hx, hb, hmx, hown, hts⟩ (hE.2 ((x_R X).frames - 1) (by omega)) ⟨va_cnB n hts (o_GoodIn m4) rfl rfl rfl (hSF.2.2.2.2.1 _ hml) (hts _ m3) m6 ⟨?_, ?_⟩, hts _ m1, hts _ m2⟩ ⟨o_blind G σ _, hrv.cell hSF hP, fun U hU hW => ⟨rfl, hSF.moved hW hU hS, by rw [hU]; exact hP⟩⟩ rfl hn hl.1 hst (lv_room hro) hd ⟨?_, ?_⟩) k ?_ ?_
  · show (x_R X).frames - 1 + 1 ≤ _; omega
  · show 8 + (nY + 11) + 40 * ((x_R X).frames - 1) ≤ _; omega
  · omega
  · omega
  · omega
  · omega
theorem z_mmax {i : Nat} {x y : Int32} (hkd : 1 ≤ kd) (hml : Cond.methodLink own i yJ9_max_7cf53 ∈ o_WS) (hro : (st.map fun v => v.category).sum ≤ 8) (hd : decode cc pc = .ok (.invokestatic i, 3)) (k : o_Z G own cc ret nL kd En k' σ (pc + 3) L (.int (if x < y then y else x) :: st)) : o_Z G own cc ret nL kd En k' σ pc L (.int y :: .int x :: st) :=
  ⟨k.1, fun X C E H locs ls cells slots hP hS hl h1 h2 => by
    obtain ⟨hx, hb, hr, hmx, hown, hts, hlk, hSF, hfr, hlo⟩ := id C
    exact va_mmax hx hb (hmx.trans hl.1.symm) hown (hts _ hml) (hts _ sm_J9_max_7cf53) (hts _ in_J9) (hts _ co_J9_max_7cf53) (by omega) (by omega) (by omega) (by omega) hd (k.2 X C E H locs ls cells slots hP hS hl h1 h2)⟩
theorem z_lookup {dflt : Int} {ps : Array (Int × Int)} {len : Nat} {x : Int32} {off : Int} {tgt : Nat} (hd : decode cc pc = .ok (.lookupswitch dflt ps, len)) (hp : (ps.toList.zip (ps.toList.drop 1)).all (fun (a, next) => a.1 < next.1) = true) (ho : Op.lookupswitch.offset ps.toList dflt x.toInt = off) (ht : (pc : Int) + off = (tgt : Int)) (k : o_Z G own cc ret nL kd En k' σ tgt L st) : o_Z G own cc ret nL kd En k' σ pc L (.int x :: st) := k.step fun _ C _ _ _ _ _ _ => lv_lookup C.1 C.2.1 hd hp ho ht
theorem z_tableIn {dflt lo hi : Int} {offs : Array Int} {len : Nat} {x : Int32} {off : Int} {tgt : Nat} (hd : decode cc pc = .ok (.tableswitch dflt lo hi offs, len)) (h1 : ¬ x.toInt < lo) (h2 : ¬ hi < x.toInt) (ho : offs[(x.toInt - lo).toNat]? = some off) (ht : (pc : Int) + off = (tgt : Int)) (k : o_Z G own cc ret nL kd En k' σ tgt L st) : o_Z G own cc ret nL kd En k' σ pc L (.int x :: st) := k.step fun _ C _ _ _ _ _ _ => lv_tableIn C.1 C.2.1 hd h1 h2 ho ht
theorem z_tableOut {dflt lo hi : Int} {offs : Array Int} {len : Nat} {x : Int32} {tgt : Nat} (hd : decode cc pc = .ok (.tableswitch dflt lo hi offs, len)) (h : x.toInt < lo ∨ hi < x.toInt) (ht : (pc : Int) + dflt = (tgt : Int)) (k : o_Z G own cc ret nL kd En k' σ tgt L st) : o_Z G own cc ret nL kd En k' σ pc L (.int x :: st) := k.step fun _ C _ _ _ _ _ _ => lv_tableOut C.1 C.2.1 hd h ht
theorem o_tsw {x : Int32} (h2 : ¬ x = 2) (h3 : ¬ x = 3) (h4 : ¬ x = 4) : x.toInt < 2 ∨ 4 < x.toInt := by
  have e2 : x.toInt ≠ 2 := fun e => h2 (Int32.toInt_inj.mp (e.trans (by decide)))
  have e3 : x.toInt ≠ 3 := fun e => h3 (Int32.toInt_inj.mp (e.trans (by decide)))
  have e4 : x.toInt ≠ 4 := fun e => h4 (Int32.toInt_inj.mp (e.trans (by decide)))
  omega
end
