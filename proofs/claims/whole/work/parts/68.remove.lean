/-! REMOVE -/
theorem ni_7 (i : Nat) : nI i * (7 : Int32) = nI (7 * i) := by
  rw [show (7 : Int32) = nI 7 from rfl, pk_mul, Nat.mul_comm]
theorem gs_num {e : Nat} {s t : o_S} (h : GS e s) (hE : E_num s t) : GS e t := by
  obtain ⟨h1, h2, h3, -⟩ := hE
  obtain ⟨a, b⟩ := h
  have hp : o_psi t = o_psi s := by unfold o_psi; rw [h2]
  exact ⟨fun r hr => by rw [h1, h2]; exact a r hr, by rw [h3, hp]; exact b⟩
section
variable {N e n i : Nat} {s : o_S} {T : List Int32} {kd lv dp : Nat → Nat} {w : Nat → List Int32} {ids : Nat → Nat}
/-- the class takes a node and all that is in it out -/
theorem er_ (hN : 20000 ≤ N) (hG : GS e s) (h : CT s n kd lv dp w) (hi : i < n) : ∃ t, f_X5_erase N (nI i) s = some t ∧ GS e t ∧ o_A t = o_A s ∧ o_O t = o_O s ∧ (∀ k, k ≠ 1 → o_F t k = o_F s k) ∧ o_F t 1 = nI (n - (aft lv n i - i)) ∧ (∀ q, q ≠ 3 → o_R t q = o_R s q) ∧ (o_R t 3).length = 7 * (n - (aft lv n i - i)) ∧ ∀ k f, k < n - (aft lv n i - i) → f < 7 → tg t k f = tg s (rg i (aft lv n i - i) k) f := by
  obtain ⟨c1, c2, c3, -⟩ := id h
  obtain ⟨a1, a2, -, -⟩ := aft_spec (lv := lv) hi
  obtain ⟨t, t1, t2, t3, t4, t5, t6, t7, t8⟩ := turn_ (N := N) (r := 3) (a := 7 * i) (b := 7 * aft lv n i) (c := 7 * n) (s := s) (by decide) hN (by omega) (by omega) (by omega) (by omega)
  have l3 : (o_R (o_setF t 1 (nI (n - (aft lv n i - i)))) 3).length = 7 * n := by rw [sF_R, t7, c1]
  obtain ⟨c, hc, rfl⟩ := cut_in (s := o_setF t 1 (nI (n - (aft lv n i - i)))) (r := 3) (i := 7 * (n - (aft lv n i - i))) (by omega) (by omega)
  have hcap := ((t2 e hG).F 1 (nI (n - (aft lv n i - i)))).1 3 (by decide)
  refine ⟨o_setR (o_setF t 1 (nI (n - (aft lv n i - i)))) 3 (o_cap (o_setF t 1 (nI (n - (aft lv n i - i)))) 3) ((o_R (o_setF t 1 (nI (n - (aft lv n i - i)))) 3).take (7 * (n - (aft lv n i - i)))), ?_, GS.set ((t2 e hG).F 1 _) (by decide) (by rw [List.length_take]; omega), t4, t5, fun k hk => ?_, ?_, fun q hq => ?_, ?_, fun k f hk hf => ?_⟩
  · unfold f_X5_erase
    rw [ct_after h (by omega) hi, bi_s, c2, ni_7, ni_7, ni_7, t1, bv_s, do_e, t3, c2, ni_sub (by omega), ni_sub (by omega), do_e, sF_F, if_pos rfl, ni_7, hc]
  · rw [sR_F, sF_F, if_neg hk, t3]
  · rw [sR_F, sF_F, if_pos rfl]
  · rw [sR_R, if_neg hq, sF_R, t6 q hq]
  · rw [sR_R, if_pos rfl, List.length_take, l3]; omega
  · unfold tg
    rw [sR_R, if_pos rfl, List.getD_eq_getElem?_getD, List.getElem?_take, if_pos (by omega), ← List.getD_eq_getElem?_getD, sF_R, t8]
    by_cases q : k < i
    · rw [if_neg (by omega), if_neg (by omega), rg_lt q]
    · rw [if_pos (by omega), rg_ge (by omega)]; congr 1; omega
end
theorem rem_sm {n i : Nat} {kd lv : Nat → Nat} {w : Nat → List Int32} (hi : i < n) : sm (fun k => if kd (rg i (aft lv n i - i) k) = 2 then (w (rg i (aft lv n i - i) k)).length - 8 else 0) (n - (aft lv n i - i)) 0 ≤ sm (fun i => if kd i = 2 then (w i).length - 8 else 0) n 0 := by
  obtain ⟨a1, a2, -, -⟩ := aft_spec (lv := lv) hi
  have e1 := sm_add (fun k => if kd (rg i (aft lv n i - i) k) = 2 then (w (rg i (aft lv n i - i) k)).length - 8 else 0) i (n - aft lv n i) 0
  rw [show i + (n - aft lv n i) = n - (aft lv n i - i) by omega] at e1
  have e2 := sm_add (fun i => if kd i = 2 then (w i).length - 8 else 0) i (n - i) 0
  have e3 := sm_add (fun i => if kd i = 2 then (w i).length - 8 else 0) (aft lv n i - i) (n - aft lv n i) (0 + i)
  rw [show i + (n - i) = n by omega] at e2
  rw [show aft lv n i - i + (n - aft lv n i) = n - i by omega] at e3
  have f1 := sm_sh (f := fun k => if kd (rg i (aft lv n i - i) k) = 2 then (w (rg i (aft lv n i - i) k)).length - 8 else 0) (g := fun i => if kd i = 2 then (w i).length - 8 else 0) i 0 0 (fun j hj => by show (if kd (rg i _ (0 + j)) = 2 then _ else _) = _; rw [Nat.zero_add, rg_lt hj])
  have f2 := sm_sh (f := fun k => if kd (rg i (aft lv n i - i) k) = 2 then (w (rg i (aft lv n i - i) k)).length - 8 else 0) (g := fun i => if kd i = 2 then (w i).length - 8 else 0) (n - aft lv n i) (0 + i) (0 + i + (aft lv n i - i)) (fun j hj => by
    show (if kd (rg i _ (0 + i + j)) = 2 then _ else _) = _
    rw [rg_ge (show i ≤ 0 + i + j by omega), show 0 + i + j + (aft lv n i - i) = 0 + i + (aft lv n i - i) + j by omega])
  omega
theorem l_remove {N e : Nat} {s : o_S} (hN : 20000 ≤ N) (hI : Inv e s) (p : Int32) : PX (f_L_remove N p s) (fun t => f_X7_remove N p t) e := by
  obtain ⟨hG, T, n, kd, lv, dp, w, ids, hv⟩ := id hI
  have hn := hv.nn
  rcases nodeP n (by omega) p with hp | ⟨i, hi, rfl⟩
  · refine PX.bad (k := 1) (v := 0) hI ?_ ?_ (by decide)
    · unfold f_L_remove f_X6_remove; rw [chk_bad hv.f1 hp]; rfl
    · unfold f_X7_remove; rw [do_e, isn_bad (s := o_setF (o_addK s 3) 15 0) (n := n) hv.f18 hp, bi_s, if_pos rfl, fail_]; rfl
  · have hk4 := (hv.ct.2.2.2.2.1 i hi).2.1
    by_cases hk : kd i = 1
    · have hT := hv.ti
      have hW := hv.wl
      have h0 : 0 < i := by
        rcases Nat.eq_zero_or_pos i with z | z
        · rw [z, hT.2.1] at hk; exact absurd hk (by decide)
        · exact z
      obtain ⟨a1, a2, -, -⟩ := aft_spec (lv := lv) hi
      obtain ⟨u, u1, u2, u3, u4, u5, u6, u7, u8, u9⟩ := er_ (N := N) (e := e) hN hG hv.ct hi
      have h2 : LK n lv ids (o_setF (o_setO u 0 (Int32.toInt64 (nI (n - (aft lv n i - i))))) 15 0) := hv.lk.congr (by rw [sF_A, sO_A, u3]) (by rw [sF_A, sO_A, u3]) (by rw [sF_A, sO_A, u3])
      obtain ⟨t, t1, t2⟩ := tk_ (N := N) h2 hW (by omega) h0 hi
      have hL := tk_lk h2 hW h0 hi t2
      obtain ⟨v, v1, v2, v3, v4⟩ := num_ (N := N) (rem_wl hW h0 hi) (by omega) (by show ids (rg i _ 0) = 0; rw [rg_lt h0]; exact hv.rm.2.2.1) hL
      have tA : ∀ a, a ≠ 3 → a ≠ 4 → o_A t a = o_A (o_setF (o_setO u 0 (Int32.toInt64 (nI (n - (aft lv n i - i))))) 15 0) a := by
        intro a ha3 ha4
        rcases t2 with ⟨-, rfl⟩ | ⟨-, q, -, -, -, rfl⟩ <;> (funext x; rw [sA_A, if_neg (by assumption)])
      have tF : o_F t = o_F (o_setF (o_setO u 0 (Int32.toInt64 (nI (n - (aft lv n i - i))))) 15 0) := by rcases t2 with ⟨-, rfl⟩ | ⟨-, q, -, -, -, rfl⟩ <;> rfl
      have tR : o_R t = o_R u := by rcases t2 with ⟨-, rfl⟩ | ⟨-, q, -, -, -, rfl⟩ <;> rfl
      have tO : o_O t = o_O (o_setO u 0 (Int32.toInt64 (nI (n - (aft lv n i - i))))) := by rcases t2 with ⟨-, rfl⟩ | ⟨-, q, -, -, -, rfl⟩ <;> rfl
      have tG : GS (e + 1) t := by
        rcases t2 with ⟨-, rfl⟩ | ⟨-, q, -, -, -, rfl⟩ <;> exact (((u2.up (by omega)).O _ _).F _ _).A _ _ _
      have hlt : ∀ k, k < n - (aft lv n i - i) → rg i (aft lv n i - i) k < n := fun k hk => by unfold rg; split <;> omega
      refine ⟨0, o_setO u 0 (Int32.toInt64 (nI (n - (aft lv n i - i)))), nI (n - (aft lv n i - i)), v, ?_, ?_, ?_, fun _ => ?_, gs_num tG v2, T, _, _, _, _, _, _, re_iv (g := rg i (aft lv n i - i)) hv ?_ ?_ v3 ?_ ?_ ?_ ?_ ?_ (rem_ti hT h0 hi hk) (hL.congr (v2.2.2.2.2.2 2 (by decide) (by decide)) (v2.2.2.2.2.2 3 (by decide) (by decide)) (v2.2.2.2.2.2 4 (by decide) (by decide))) (rg_lt h0) hlt ?_ v4 (by omega) ?_⟩
      · unfold f_L_remove f_X6_remove f_X5_size
        rw [chk_ok hv.f1 (by omega) hi, bx_r, show (1 : Int32) = nI 1 from rfl, ct_is hv.ct hi 1 (by decide), bi_s, if_pos hk, if_neg (by decide), u1, bv_s, bi_s, u6]; rfl
      · show f_X7_remove N (nI i) _ = _
        have e10 : o_A (o_setF (o_setO u 0 (Int32.toInt64 (nI (n - (aft lv n i - i))))) 15 0) 10 i = nI (ids i) := by rw [sF_A, sO_A, u3]; exact hv.no hi
        have e1 : o_A (o_setF (o_setO u 0 (Int32.toInt64 (nI (n - (aft lv n i - i))))) 15 0) 1 (ids i) = nI (kd i) := by rw [sF_A, sO_A, u3]; exact hv.kk hi
        unfold f_X7_remove f_X7_isItem
        rw [do_e, isn_ok (s := o_setF (o_setO u 0 (Int32.toInt64 (nI (n - (aft lv n i - i))))) 15 0) (n := n) (by rw [sF_F, if_neg (by decide), sO_F, u5 18 (by decide)]; exact hv.f18) (by omega) hi, bi_s, if_neg (by decide), ld_ (show i < 1500 by omega) (by decide), e10, ld_ (hv.id hi) (by decide), e1, hk, if_pos (show nI 1 = (1 : Int32) from rfl), bi_s, if_neg (by decide), ld_ (show i < 1500 by omega) (by decide), e10, t1, bv_s, v1, bv_s, v3]
      · rw [v2.2.2.2.2.1 15 (by decide), tF, sF_F, if_pos rfl]
      · rw [v2.2.2.2.1, tO, sO_O, if_pos rfl]
      · intro k k15 k1 k18; rw [v2.2.2.2.2.1 k k18, tF, sF_F, if_neg k15, sO_F, u5 k k1]
      · rw [v2.2.2.2.2.1 1 (by decide), tF, sF_F, if_neg (by decide), sO_F, u6]
      · intro q q1 q3; rw [v2.1, tR, u7 q q3]
      · rw [v2.1, tR, u8]
      · intro k f hk hf _ _
        have : tg v k f = tg u k f := by unfold tg; rw [v2.1, tR]
        rw [this, u9 k f hk hf]
      · intro k hk
        have ht : ∀ f, tg v k f = tg u k f := fun f => by unfold tg; rw [v2.1, tR]
        obtain ⟨-, -, g1, g2, g3, g4⟩ := hv.ct.2.2.2.2.1 _ (hlt k hk)
        rw [ht, ht, u9 k 1 hk (by decide), u9 k 2 hk (by decide)]
        exact ⟨g1, g2, g3, g4⟩
      · intro a h14 h2 h3 h4 h10 h11
        rw [v2.2.2.2.2.2 a h10 h11, tA a h3 h4, sF_A, sO_A, u3]
      · intro k j hk hj; unfold rg; split <;> split <;> omega
      · exact rem_sm hi
    · refine PX.bad (k := 2) (v := 0) hI ?_ ?_ (by decide)
      · unfold f_L_remove f_X6_remove; rw [chk_ok hv.f1 (by omega) hi, bx_r, show (1 : Int32) = nI 1 from rfl, ct_is hv.ct hi 1 (by decide), bi_s, if_neg hk]; rfl
      · have hb := ((lo_K s 3).tr (lo_F15 _ 0)).iv hv
        unfold f_X7_remove f_X7_isItem
        rw [do_e, isn_ok hb.f18 (by omega) hi, bi_s, if_neg (by decide), ld_ (show i < 1500 by omega) (by decide), hb.no hi, ld_ (hb.id hi) (by decide), hb.kk hi, if_lit 1 1 rfl (by omega) (by decide), if_neg hk, bi_s, if_pos rfl, fail_]; rfl
