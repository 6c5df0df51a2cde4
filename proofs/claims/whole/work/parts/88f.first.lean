/-! THE FIRST STATE -/
theorem gs_0 : GS 0 o_s0 := ⟨fun r hr => ⟨Nat.zero_le _, by show 64 ≤ 64; decide, by have := o_M_le r; show 64 ≤ _; omega⟩, by show 0 + 576 ≤ 64 + 64 + 64 + 64 + 64 + 64 + 64 + 64 + 64 + 3 * 0; decide⟩
theorem first_ {N : Nat} (hN : 2000 ≤ N) : ∃ σ1 σ2 σ3, f_X5_startAgain N o_s0 = some σ1 ∧ o_k σ1 = 0 ∧ f_X7_begin N (o_zM σ1) = some σ2 ∧ f_X7_number N σ2 = some σ3 ∧ o_k σ3 = o_k σ1 ∧ Inv 0 (o_zO σ3) := by
  obtain ⟨σ1, a1, a2, a3, a4, a5, a6, a7, a8, a9, a10⟩ := xstart (N := N) gs_0
  obtain ⟨σ2, b1, b2, b3, b4, b5, b6, b7, b8, b9, b10, b11, b12, b13, b14, b15⟩ := rbeg (N := N) (o_zM σ1)
  have hW : WL 1 (fun _ => 0) := ⟨by decide, by decide, rfl, fun k hk => by omega⟩
  have i0 : ∀ i, i < 1 → i = 0 := fun i hi => by omega
  have ha : aft (fun _ => 0) 1 0 = 1 := aft_uniq (by decide) (by decide) (by decide) (fun k k1 k2 => by omega) (fun z => by omega)
  have hL : LK 1 (fun _ => 0) (fun i => i) σ2 := by
    refine ⟨fun i hi => by show i < 1500; omega, fun i j hi hj _ => by omega, fun i hi => ?_, fun i hi => ?_, fun i hi => ?_⟩
    · rw [i0 i hi, if_pos rfl]; exact b9
    · rw [i0 i hi, if_neg (by omega)]; exact b10
    · rw [i0 i hi, if_neg (fun z => by rw [ha] at z; omega)]; exact b11
  obtain ⟨σ3, c1, c2, c3, c4⟩ := num_ (N := N) hW hN rfl hL
  obtain ⟨d1, d2, d3, d4, d5, d6⟩ := id c2
  have hk : o_k σ3 = o_k σ1 := by rw [d3, b3]; rfl
  have R : o_R (o_zO σ3) = o_R σ1 := by show o_R σ3 = _; rw [d1, b2.1]; rfl
  have A : ∀ a, a ≠ 10 → a ≠ 11 → o_A (o_zO σ3) a = o_A σ2 a := fun a h1 h2 => d6 a h1 h2
  have F : ∀ f, f ≠ 18 → o_F (o_zO σ3) f = o_F σ2 f := fun f h1 => d5 f h1
  have F1 : ∀ f, f < 15 → o_F (o_zO σ3) f = o_F σ1 f := fun f h1 => by
    rw [F f (by omega), b5 f (by omega) (by omega)]
    show (if 15 ≤ f then 0 else o_F σ1 f) = _
    rw [if_neg (by omega)]
  have hGz : GS 0 (o_zM σ1) := a2
  have hG3 : GS 0 σ3 := gs_num (b2.2.2 0 hGz) c2
  have tg0 : ∀ f, f < 7 → tg (o_zO σ3) 0 f = 0 := fun f hf => by
    unfold tg; rw [R, a9]
    rcases (show f = 0 ∨ f = 1 ∨ f = 2 ∨ f = 3 ∨ f = 4 ∨ f = 5 ∨ f = 6 by omega) with rfl | rfl | rfl | rfl | rfl | rfl | rfl <;> rfl
  have RS : ∀ q, q ≠ 3 → q ≠ 4 → o_R (o_zO σ3) q = [] := fun q h3 h4 => by rw [R, a6 q h3 h4]; rfl
  refine ⟨σ1, σ2, σ3, a1, by rw [a3]; rfl, b1, c1, hk, hG3, [], 1, fun _ => 0, fun _ => 0, fun _ => 0, fun _ => [], fun i => i, ⟨RS 0 (by decide) (by decide), by decide, ?_, fun j hj => absurd hj (Nat.not_lt_zero _)⟩, ⟨by rw [R, a9]; rfl, by rw [F1 1 (by decide), a8]; rfl, by decide, by rw [R, a10]; decide, fun i hi => ?_, fun i hi hk => absurd (show 0 = 2 from hk) (by decide)⟩, ⟨hW, rfl, rfl, fun i h0 hi => by omega, fun i hi hk => absurd (show 0 = 1 from hk) (by decide), fun i _ _ => Nat.zero_le _⟩, ⟨c3, hL.congr (A 2 (by decide) (by decide)) (A 3 (by decide) (by decide)) (A 4 (by decide) (by decide)), rfl, c4, fun i hi => ?_, fun i hi hk => absurd (show 0 = 2 from hk) (by decide)⟩, ⟨0, by decide, ?_, by rw [RS 2 (by decide) (by decide)]; rfl, ?_, fun j hj => by omega⟩, ⟨?_, by rw [RS 8 (by decide) (by decide)]; decide, fun j hj => by rw [RS 8 (by decide) (by decide)] at hj; exact absurd hj (Nat.not_lt_zero _)⟩, ⟨fun _ => 0, fun i hi hk => absurd (show 0 = 2 from hk) (by decide), fun i j hi hj hk => absurd (show 0 = 2 from hk) (by decide)⟩, ⟨by decide, fun i hi hk => absurd (show 0 = 3 from hk) (by decide), ?_⟩⟩
  · rw [F 16 (by decide), b5 16 (by decide) (by decide)]; rfl
  · rw [i0 i hi, tg0 0 (by decide), tg0 1 (by decide), tg0 2 (by decide)]; exact ⟨rfl, by decide, rfl, by decide, rfl, by decide⟩
  · rw [i0 i hi, A 1 (by decide) (by decide), A 5 (by decide) (by decide), A 6 (by decide) (by decide), A 7 (by decide) (by decide), b8, b12, b13, b14, tg0 3 (by decide), tg0 4 (by decide), tg0 5 (by decide)]; exact ⟨rfl, rfl, rfl, rfl⟩
  · rw [F1 0 (by decide), a7 0 (by decide)]; rfl
  · rw [F 19 (by decide), b7]; rfl
  · rw [F 20 (by decide), b5 20 (by decide) (by decide), RS 8 (by decide) (by decide)]; rfl
  · unfold sm sm; exact Nat.zero_le _
