/-- a new object -/
def s0 : zS := (0, fun _ => 0, fun _ => 0, fun _ => 0, fun _ _ => 0, fun _ => 0, none, fun _ => 0)
theorem s0_ok : SOK s0 := ⟨by decide, fun i (hi : i < 0) => absurd hi (Nat.not_lt_zero i), fun m (h : none = some m) => nomatch h⟩
set_option maxHeartbeats 4000000 in
set_option maxRecDepth 100000 in
theorem k_X4_init (l : Launch) (G : zG) (ad : Nat → Nat) (w : Nat → va_E) (hli : lin ad) (h0 : w 0 = eO 2 [.null, .int (nI 0), .null, .null, .null, .null, .null, .int (nI 0), .null]) :
    Cz l G yX4_init cdX4_init 5 91 3459 1 92 ad w [.ref (ad 0)] (fun w' => XOK G ad w' s0) := by
  refine ent_z (cc := cX4_init) (maxL := 2) (ret := none) (by decide +kernel) rfl (Nat.le_of_ble_eq_true rfl) ?_
  intro p e s m args below meth c A B hE hr hlk hin hA hs0 H locs ls hW hl
  have hx := B.1
  have hb := B.2.1
  have hl : lv_has ls 2 [(0, .ref (ad (0)))] := hl
  refine lv_aload_n hx hb dX4_init_0 rfl (lv_at hl 0 rfl) ?_
  refine z_obj B hl.1 hw_14 dX4_init_1 ⟨by decide, by decide⟩ (Nat.le_of_ble_eq_true rfl) ?_
  refine lv_aload_n hx hb dX4_init_4 rfl (lv_at hl 0 rfl) ?_
  refine lv_bipush (v := nI 16) hx hb dX4_init_5 (by decide) ?_
  refine z_newF B hE hA hW hli (by omega) (cells := 0) (slots := 0) (by have h1 := hli 1; have h2 := hli 1; omega) (N := 16) hw_17 (by decide) (cells' := 1) (slots' := 16) rfl rfl ⟨by decide, by decide⟩ dX4_init_7 (fun H hW => ?_)
  obtain ⟨w_1, hW, u_1, o_1⟩ : ∃ w9 : Nat → va_E, Wo G A s.heap (2) ad w9 H locs ∧ w9 (1) = eF G 16 (fun _ => none) ∧ ∀ j, j ≠ 1 → w9 j = w j := ⟨_, hW, up_s, fun j hj => up_n hj⟩
  have x0_1 := (o_1 (0) (by decide)).trans h0
  refine z_putF B hW (0) (by omega) x0_1 rfl inX4 tyX4 tyX4_ok nmX4 0 (by decide) hw_115 rfl rfl hin rfl (v := .ref (ad (1))) rfl rfl (Nat.le_of_ble_eq_true rfl) dX4_init_10 (fun H locs hW => ?_)
  obtain ⟨w_2, hW, u_2, o_2⟩ : ∃ w9 : Nat → va_E, Wo G A s.heap (2) ad w9 H locs ∧ w9 (0) = eO 2 [.ref (ad (1)), .int (nI (0)), .null, .null, .null, .null, .null, .int (nI (0)), .null] ∧ ∀ j, j ≠ 0 → w9 j = w_1 j := ⟨_, hW, up_s, fun j hj => up_n hj⟩
  have x1_2 := (o_2 (1) (by decide)).trans u_1
  refine lv_aload_n hx hb dX4_init_13 rfl (lv_at hl 0 rfl) ?_
  refine z_newO B hA hW hli (hW.lo hli (by omega)) (cells := 1) (slots := 16) (by have h1 := hli 1; have h2 := hli 2; omega) inX0 tyX0 tyX0_ok hw_19 hw_20 hw_2 (ci := 0) rfl (fs := [.null, .null, .null, .null, .null, .null, .null, .int (nI 0)]) (fun j hj => by rcases (show j = 0 ∨ j = 1 ∨ j = 2 ∨ j = 3 ∨ j = 4 ∨ j = 5 ∨ j = 6 ∨ j = 7 by omega) with rfl | rfl | rfl | rfl | rfl | rfl | rfl | rfl <;> rfl) (cells' := 1+1) (slots' := 16+8) rfl rfl ⟨by decide, by decide⟩ dX4_init_14 (fun H hW => ?_)
  obtain ⟨w_3, hW, u_3, o_3⟩ : ∃ w9 : Nat → va_E, Wo G A s.heap (3) ad w9 H locs ∧ w9 (2) = eO 0 [.null, .null, .null, .null, .null, .null, .null, .int (nI 0)] ∧ ∀ j, j ≠ 2 → w9 j = w_2 j := ⟨_, hW, up_s, fun j hj => up_n hj⟩
  have x0_3 := (o_3 (0) (by decide)).trans u_2
  have x1_3 := (o_3 (1) (by decide)).trans x1_2
  refine lv_dup hx hb dX4_init_17 rfl ?_
  refine call_Iz B hE hA hW hli (by decide) (cells := 2) (slots := 24) (by have h1 := hli 1; have h2 := hli 3; omega) (k_X0_init l G ad w_3 hli u_3) rfl hw_23 hw_2 hw_22 rfl ⟨by decide, by decide, by decide +kernel⟩ hw_21 ⟨by decide, by decide⟩ (cells' := 54) (slots' := 2462) rfl rfl ⟨by decide, by decide⟩ hl.1 rfl (Nat.le_of_ble_eq_true rfl) dX4_init_18 (fun wB H locs hp hW => ?_)
  obtain ⟨hB_0, oB⟩ := hp
  have x0_4 := (oB (0) (by decide)).trans x0_3
  have x1_4 := (oB (1) (by decide)).trans x1_3
  refine z_putF B hW (0) (by omega) x0_4 rfl inX4 tyX4 tyX4_ok nmX4 2 (by decide) hw_117 rfl rfl hin rfl (v := .ref (ad (2))) rfl rfl (Nat.le_of_ble_eq_true rfl) dX4_init_21 (fun H locs hW => ?_)
  obtain ⟨w_5, hW, u_5, o_5⟩ : ∃ w9 : Nat → va_E, Wo G A s.heap (55) ad w9 H locs ∧ w9 (0) = eO 2 [.ref (ad (1)), .int (nI (0)), .ref (ad (2)), .null, .null, .null, .null, .int (nI (0)), .null] ∧ ∀ j, j ≠ 0 → w9 j = wB j := ⟨_, hW, up_s, fun j hj => up_n hj⟩
  have x1_5 := (o_5 (1) (by decide)).trans x1_4
  have hB_5 := hB_0.keep (fun j q1 q2 => o_5 j (by omega))
  refine lv_aload_n hx hb dX4_init_24 rfl (lv_at hl 0 rfl) ?_
  refine lv_iconst (v := nI 4) hx hb dX4_init_25 (by decide) ?_
  refine z_newL B hA hW hli (by omega) (cells := 54) (slots := 2462) (by have h1 := hli 1; have h2 := hli 55; omega) (N := 4) (by decide) (cells' := 55) (slots' := 2466) rfl rfl ⟨by decide, by decide⟩ dX4_init_26 (fun H hW => ?_)
  obtain ⟨w_6, hW, u_6, o_6⟩ : ∃ w9 : Nat → va_E, Wo G A s.heap (56) ad w9 H locs ∧ w9 (55) = eL G 4 (fun _ => lN 0) ∧ ∀ j, j ≠ 55 → w9 j = w_5 j := ⟨_, hW, up_s, fun j hj => up_n hj⟩
  have x0_6 := (o_6 (0) (by decide)).trans u_5
  have x1_6 := (o_6 (1) (by decide)).trans x1_5
  have hB_6 := hB_5.keep (fun j q1 q2 => o_6 j (by omega))
  refine z_putF B hW (0) (by omega) x0_6 rfl inX4 tyX4 tyX4_ok nmX4 3 (by decide) hw_118 rfl rfl hin rfl (v := .ref (ad (55))) rfl rfl (Nat.le_of_ble_eq_true rfl) dX4_init_28 (fun H locs hW => ?_)
  obtain ⟨w_7, hW, u_7, o_7⟩ : ∃ w9 : Nat → va_E, Wo G A s.heap (56) ad w9 H locs ∧ w9 (0) = eO 2 [.ref (ad (1)), .int (nI (0)), .ref (ad (2)), .ref (ad (55)), .null, .null, .null, .int (nI (0)), .null] ∧ ∀ j, j ≠ 0 → w9 j = w_6 j := ⟨_, hW, up_s, fun j hj => up_n hj⟩
  have x1_7 := (o_7 (1) (by decide)).trans x1_6
  have x55_7 := (o_7 (55) (by decide)).trans u_6
  have hB_7 := hB_6.keep (fun j q1 q2 => o_7 j (by omega))
  refine lv_aload_n hx hb dX4_init_31 rfl (lv_at hl 0 rfl) ?_
  refine lv_iconst (v := nI 4) hx hb dX4_init_32 (by decide) ?_
  refine z_newL B hA hW hli (by omega) (cells := 55) (slots := 2466) (by have h1 := hli 1; have h2 := hli 56; omega) (N := 4) (by decide) (cells' := 56) (slots' := 2470) rfl rfl ⟨by decide, by decide⟩ dX4_init_33 (fun H hW => ?_)
  obtain ⟨w_8, hW, u_8, o_8⟩ : ∃ w9 : Nat → va_E, Wo G A s.heap (57) ad w9 H locs ∧ w9 (56) = eL G 4 (fun _ => lN 0) ∧ ∀ j, j ≠ 56 → w9 j = w_7 j := ⟨_, hW, up_s, fun j hj => up_n hj⟩
  have x0_8 := (o_8 (0) (by decide)).trans u_7
  have x1_8 := (o_8 (1) (by decide)).trans x1_7
  have x55_8 := (o_8 (55) (by decide)).trans x55_7
  have hB_8 := hB_7.keep (fun j q1 q2 => o_8 j (by omega))
  refine z_putF B hW (0) (by omega) x0_8 rfl inX4 tyX4 tyX4_ok nmX4 4 (by decide) hw_119 rfl rfl hin rfl (v := .ref (ad (56))) rfl rfl (Nat.le_of_ble_eq_true rfl) dX4_init_35 (fun H locs hW => ?_)
  obtain ⟨w_9, hW, u_9, o_9⟩ : ∃ w9 : Nat → va_E, Wo G A s.heap (57) ad w9 H locs ∧ w9 (0) = eO 2 [.ref (ad (1)), .int (nI (0)), .ref (ad (2)), .ref (ad (55)), .ref (ad (56)), .null, .null, .int (nI (0)), .null] ∧ ∀ j, j ≠ 0 → w9 j = w_8 j := ⟨_, hW, up_s, fun j hj => up_n hj⟩
  have x1_9 := (o_9 (1) (by decide)).trans x1_8
  have x55_9 := (o_9 (55) (by decide)).trans x55_8
  have x56_9 := (o_9 (56) (by decide)).trans u_8
  have hB_9 := hB_8.keep (fun j q1 q2 => o_9 j (by omega))
  refine lv_aload_n hx hb dX4_init_38 rfl (lv_at hl 0 rfl) ?_
  refine lv_bipush (v := nI 100) hx hb dX4_init_39 (by decide) ?_
  refine z_newI B hA hW hli (by omega) (cells := 56) (slots := 2470) (by have h1 := hli 1; have h2 := hli 57; omega) (N := 100) (by decide) (cells' := 57) (slots' := 2570) rfl rfl ⟨by decide, by decide⟩ dX4_init_41 (fun H hW => ?_)
  obtain ⟨w_10, hW, u_10, o_10⟩ : ∃ w9 : Nat → va_E, Wo G A s.heap (58) ad w9 H locs ∧ w9 (57) = eI G 100 (fun _ => nI 0) ∧ ∀ j, j ≠ 57 → w9 j = w_9 j := ⟨_, hW, up_s, fun j hj => up_n hj⟩
  have x0_10 := (o_10 (0) (by decide)).trans u_9
  have x1_10 := (o_10 (1) (by decide)).trans x1_9
  have x55_10 := (o_10 (55) (by decide)).trans x55_9
  have x56_10 := (o_10 (56) (by decide)).trans x56_9
  have hB_10 := hB_9.keep (fun j q1 q2 => o_10 j (by omega))
  refine z_putF B hW (0) (by omega) x0_10 rfl inX4 tyX4 tyX4_ok nmX4 5 (by decide) hw_120 rfl rfl hin rfl (v := .ref (ad (57))) rfl rfl (Nat.le_of_ble_eq_true rfl) dX4_init_43 (fun H locs hW => ?_)
  obtain ⟨w_11, hW, u_11, o_11⟩ : ∃ w9 : Nat → va_E, Wo G A s.heap (58) ad w9 H locs ∧ w9 (0) = eO 2 [.ref (ad (1)), .int (nI (0)), .ref (ad (2)), .ref (ad (55)), .ref (ad (56)), .ref (ad (57)), .null, .int (nI (0)), .null] ∧ ∀ j, j ≠ 0 → w9 j = w_10 j := ⟨_, hW, up_s, fun j hj => up_n hj⟩
  have x1_11 := (o_11 (1) (by decide)).trans x1_10
  have x55_11 := (o_11 (55) (by decide)).trans x55_10
  have x56_11 := (o_11 (56) (by decide)).trans x56_10
  have x57_11 := (o_11 (57) (by decide)).trans u_10
  have hB_11 := hB_10.keep (fun j q1 q2 => o_11 j (by omega))
  refine lv_aload_n hx hb dX4_init_46 rfl (lv_at hl 0 rfl) ?_
  refine lv_bipush (v := nI 48) hx hb dX4_init_47 (by decide) ?_
  refine z_newL B hA hW hli (by omega) (cells := 57) (slots := 2570) (by have h1 := hli 1; have h2 := hli 58; omega) (N := 48) (by decide) (cells' := 58) (slots' := 2618) rfl rfl ⟨by decide, by decide⟩ dX4_init_49 (fun H hW => ?_)
  obtain ⟨w_12, hW, u_12, o_12⟩ : ∃ w9 : Nat → va_E, Wo G A s.heap (59) ad w9 H locs ∧ w9 (58) = eL G 48 (fun _ => lN 0) ∧ ∀ j, j ≠ 58 → w9 j = w_11 j := ⟨_, hW, up_s, fun j hj => up_n hj⟩
  have x0_12 := (o_12 (0) (by decide)).trans u_11
  have x1_12 := (o_12 (1) (by decide)).trans x1_11
  have x55_12 := (o_12 (55) (by decide)).trans x55_11
  have x56_12 := (o_12 (56) (by decide)).trans x56_11
  have x57_12 := (o_12 (57) (by decide)).trans x57_11
  have hB_12 := hB_11.keep (fun j q1 q2 => o_12 j (by omega))
  refine z_putF B hW (0) (by omega) x0_12 rfl inX4 tyX4 tyX4_ok nmX4 6 (by decide) hw_121 rfl rfl hin rfl (v := .ref (ad (58))) rfl rfl (Nat.le_of_ble_eq_true rfl) dX4_init_51 (fun H locs hW => ?_)
  obtain ⟨w_13, hW, u_13, o_13⟩ : ∃ w9 : Nat → va_E, Wo G A s.heap (59) ad w9 H locs ∧ w9 (0) = eO 2 [.ref (ad (1)), .int (nI (0)), .ref (ad (2)), .ref (ad (55)), .ref (ad (56)), .ref (ad (57)), .ref (ad (58)), .int (nI (0)), .null] ∧ ∀ j, j ≠ 0 → w9 j = w_12 j := ⟨_, hW, up_s, fun j hj => up_n hj⟩
  have x1_13 := (o_13 (1) (by decide)).trans x1_12
  have x55_13 := (o_13 (55) (by decide)).trans x55_12
  have x56_13 := (o_13 (56) (by decide)).trans x56_12
  have x57_13 := (o_13 (57) (by decide)).trans x57_12
  have x58_13 := (o_13 (58) (by decide)).trans u_12
  have hB_13 := hB_12.keep (fun j q1 q2 => o_13 j (by omega))
  refine lv_aload_n hx hb dX4_init_54 rfl (lv_at hl 0 rfl) ?_
  refine lv_iconst (v := -1) hx hb dX4_init_55 (by decide) ?_
  refine z_put B hW (0) (by omega) u_13 rfl inX4 tyX4 tyX4_ok nmX4 7 (by decide) hw_122 rfl rfl (v := .int (-1)) rfl rfl (Nat.le_of_ble_eq_true rfl) dX4_init_56 (fun H locs hW => ?_)
  obtain ⟨w_14, hW, u_14, o_14⟩ : ∃ w9 : Nat → va_E, Wo G A s.heap (59) ad w9 H locs ∧ w9 (0) = eO 2 [.ref (ad (1)), .int (nI (0)), .ref (ad (2)), .ref (ad (55)), .ref (ad (56)), .ref (ad (57)), .ref (ad (58)), .int (-1), .null] ∧ ∀ j, j ≠ 0 → w9 j = w_13 j := ⟨_, hW, up_s, fun j hj => up_n hj⟩
  have x1_14 := (o_14 (1) (by decide)).trans x1_13
  have x55_14 := (o_14 (55) (by decide)).trans x55_13
  have x56_14 := (o_14 (56) (by decide)).trans x56_13
  have x57_14 := (o_14 (57) (by decide)).trans x57_13
  have x58_14 := (o_14 (58) (by decide)).trans x58_13
  have hB_14 := hB_13.keep (fun j q1 q2 => o_14 j (by omega))
  refine lv_aload_n hx hb dX4_init_59 rfl (lv_at hl 0 rfl) ?_
  refine lv_bipush (v := nI 9) hx hb dX4_init_60 (by decide) ?_
  refine z_newI B hA hW hli (by omega) (cells := 58) (slots := 2618) (by have h1 := hli 1; have h2 := hli 59; omega) (N := 9) (by decide) (cells' := 59) (slots' := 2627) rfl rfl ⟨by decide, by decide⟩ dX4_init_62 (fun H hW => ?_)
  obtain ⟨w_15, hW, u_15, o_15⟩ : ∃ w9 : Nat → va_E, Wo G A s.heap (60) ad w9 H locs ∧ w9 (59) = eI G 9 (fun _ => nI 0) ∧ ∀ j, j ≠ 59 → w9 j = w_14 j := ⟨_, hW, up_s, fun j hj => up_n hj⟩
  have x0_15 := (o_15 (0) (by decide)).trans u_14
  have x1_15 := (o_15 (1) (by decide)).trans x1_14
  have x55_15 := (o_15 (55) (by decide)).trans x55_14
  have x56_15 := (o_15 (56) (by decide)).trans x56_14
  have x57_15 := (o_15 (57) (by decide)).trans x57_14
  have x58_15 := (o_15 (58) (by decide)).trans x58_14
  have hB_15 := hB_14.keep (fun j q1 q2 => o_15 j (by omega))
  refine z_putF B hW (0) (by omega) x0_15 rfl inX4 tyX4 tyX4_ok nmX4 8 (by decide) hw_123 rfl rfl hin rfl (v := .ref (ad (59))) rfl rfl (Nat.le_of_ble_eq_true rfl) dX4_init_64 (fun H locs hW => ?_)
  obtain ⟨w_16, hW, u_16, o_16⟩ : ∃ w9 : Nat → va_E, Wo G A s.heap (60) ad w9 H locs ∧ w9 (0) = eO 2 [.ref (ad (1)), .int (nI (0)), .ref (ad (2)), .ref (ad (55)), .ref (ad (56)), .ref (ad (57)), .ref (ad (58)), .int (-1), .ref (ad (59))] ∧ ∀ j, j ≠ 0 → w9 j = w_15 j := ⟨_, hW, up_s, fun j hj => up_n hj⟩
  have x1_16 := (o_16 (1) (by decide)).trans x1_15
  have x55_16 := (o_16 (55) (by decide)).trans x55_15
  have x56_16 := (o_16 (56) (by decide)).trans x56_15
  have x57_16 := (o_16 (57) (by decide)).trans x57_15
  have x58_16 := (o_16 (58) (by decide)).trans x58_15
  have x59_16 := (o_16 (59) (by decide)).trans u_15
  have hB_16 := hB_15.keep (fun j q1 q2 => o_16 j (by omega))
  refine lv_iconst (v := nI 0) hx hb dX4_init_67 (by decide) ?_
  refine lv_istore_n (lv' := [(1, .int (nI (0))), (0, .ref (ad (0)))]) hx hb dX4_init_68 rfl hl (by decide) rfl (fun ls hl => ?_)
  refine z_up (Wg := fun (Hc : Heap × Nat × Nat) locs ls => W p l e (rz 5 91 3459) s m args below meth c Hc.1 locs Hc.2.1 Hc.2.2 _ (F0 m 69 ls [])) (I := fun r Hc locs ls => ∃ (wq : Nat → va_E) (f1 : Nat → Option Nat), Hc.2.1 = 59 + 2 * r ∧ Hc.2.2 = 2627 + 52 * r ∧ Wo G A s.heap (60 + 2 * r) ad wq Hc.1 locs ∧ lv_has ls 2 [(1, .int (nI r)), (0, .ref (ad 0))] ∧ (∀ j, j < 60 → j ≠ 1 → wq j = w_16 j) ∧ wq 1 = eF G 16 f1 ∧ (∀ i, i < r → f1 i = some (ad (60 + 2 * i))) ∧ (∀ i, i < r → wq (60 + 2 * i) = eO 1 [.ref (ad (61 + 2 * i)), .int (nI 0), .int (nI 0), .int (nI 0)] ∧ wq (61 + 2 * i) = eL G 48 (fun _ => lN 0))) (a := 0) (b := 16) (by decide) ?_ ?_ (H, 59, 2627) locs ls ⟨w_16, _, rfl, rfl, hW, hl, fun _ _ _ => rfl, x1_16, fun i q => by omega, fun i q => by omega⟩
  · rintro r - hr16 ih ⟨H, c9, s9⟩ locs ls ⟨wq, f1, hc9, hs9, hW, hl, i1, i2, i3, i4⟩
    have hc9 : c9 = 59 + 2 * r := hc9
    have hs9 : s9 = 2627 + 52 * r := hs9
    subst hc9
    subst hs9
    show W p l e (rz 5 91 3459) s m args below meth c H locs (59 + 2 * r) (2627 + 52 * r) _ (F0 m 69 ls [])
    have hW : Wo G A s.heap (60 + 2 * r) ad wq H locs := hW
    have x0 : wq 0 = eO 2 [.ref (ad (1)), .int (nI (0)), .ref (ad (2)), .ref (ad (55)), .ref (ad (56)), .ref (ad (57)), .ref (ad (58)), .int (-1), .ref (ad (59))] := (i1 0 (by decide) (by decide)).trans u_16
    refine lv_iload_n hx hb dX4_init_69 rfl (lv_at hl 0 rfl) ?_
    refine lv_bipush (v := nI 16) hx hb dX4_init_70 (by decide) ?_
    refine n_icmp_ge (tgt := 94) hx hb (by omega) (by omega) dX4_init_72 (by decide) (fun hc => ?_) (fun hc => ?_)
    · omega
    · refine lv_aload_n hx hb dX4_init_75 rfl (lv_at hl 1 rfl) ?_
      refine z_get B hW (0) (by omega) x0 rfl inX4 0 (by decide) hw_115 rfl (v := .ref (ad (1))) rfl dX4_init_76 ?_
      refine lv_iload_n hx hb dX4_init_79 rfl (lv_at hl 0 rfl) ?_
      have e1 := hli 1
      have e2 := hli (60 + 2 * r)
      have e3 := hli (60 + 2 * r + 1)
      refine z_newO B hA hW hli (hW.lo hli (by omega)) (by omega) inX1 tyX1 tyX1_ok hw_17 hw_95 hw_7 (ci := 1) rfl (fs := [.null, .int (nI 0), .int (nI 0), .int (nI 0)]) (fun j hj => by rcases (show j = 0 ∨ j = 1 ∨ j = 2 ∨ j = 3 by omega) with rfl | rfl | rfl | rfl <;> rfl) (cells' := 59 + 2 * r + 1) (slots' := 2627 + 52 * r + 4) rfl rfl ⟨by show _ ≤ 91; omega, by show _ ≤ 3459; omega⟩ dX4_init_80 (fun H hW => ?_)
      obtain ⟨wr, hW, ur, orr⟩ : ∃ w9 : Nat → va_E, Wo G A s.heap (60 + 2 * r + 1) ad w9 H locs ∧ w9 (60 + 2 * r) = eO 1 [.null, .int (nI 0), .int (nI 0), .int (nI 0)] ∧ ∀ j, j ≠ 60 + 2 * r → w9 j = wq j := ⟨_, hW, up_s, fun j hj => up_n hj⟩
      refine lv_dup hx hb dX4_init_83 rfl ?_
      refine call_INz B hE hA hW hli (by omega) (by omega) (k_X1_init l G (60 + 2 * r + 1) ad wr hli (60 + 2 * r) (by omega) ur) ⟨by decide, by decide⟩ (cells' := 59 + 2 * r + 1 + 1) (slots' := 2627 + 52 * r + 4 + 48) rfl rfl ⟨by show _ ≤ 91; omega, by show _ ≤ 3459; omega⟩ hl.1 rfl (Nat.le_of_ble_eq_true rfl) dX4_init_84 (fun wt H locs hp hW => ?_)
      obtain ⟨p1, p2, p3⟩ := hp
      have y1 : wt 1 = eF G 16 f1 := (p1 1 (by omega) (by omega)).trans ((orr 1 (by omega)).trans i2)
      refine z_astF B hW 1 (by omega) y1 (60 + 2 * r) (by omega) p2 r (by omega) (by decide) dX4_init_87 (fun H locs hW => ?_)
      refine lv_iinc (v := (nI (r + 1))) (lv' := [(1, .int (nI (r + 1))), (0, .ref (ad (0)))]) hx hb dX4_init_88 hl (k := 0) rfl (iinc1 _) (by decide) rfl (fun ls hl => ?_)
      refine lv_goto (tgt := 69) hx hb dX4_init_91 (by decide) ?_
      refine ih (H, 59 + 2 * r + 1 + 1, 2627 + 52 * r + 4 + 48) locs ls ⟨_, _, by show 59 + 2 * r + 1 + 1 = _; omega, by show 2627 + 52 * r + 4 + 48 = _; omega, hW, hl, fun j q1 q2 => ?_, up_s, fun i q => ?_, fun i q => ?_⟩
      · rw [up_n q2, p1 j (by omega) (by omega), orr j (by omega)]; exact i1 j q1 q2
      · by_cases e : i = r
        · subst e; rw [up_s]
        · rw [up_n e]; exact i3 i (by omega)
      · by_cases e : i = r
        · subst e
          exact ⟨by rw [up_n (by omega), p2, show 60 + 2 * i + 1 = 61 + 2 * i by omega], by rw [up_n (by omega), show 61 + 2 * i = 60 + 2 * i + 1 by omega]; exact p3⟩
        · rw [up_n (by omega), up_n (by omega), p1 _ (by omega) (by omega), p1 _ (by omega) (by omega), orr _ (by omega), orr _ (by omega)]
          exact i4 i (by omega)
  · rintro ⟨H, c9, s9⟩ locs ls ⟨wq, f1, hc9, hs9, hW, hl, i1, i2, i3, i4⟩
    have hc9 : c9 = 59 + 2 * 16 := hc9
    have hs9 : s9 = 2627 + 52 * 16 := hs9
    subst hc9
    subst hs9
    show W p l e (rz 5 91 3459) s m args below meth c H locs (59 + 2 * 16) (2627 + 52 * 16) _ (F0 m 69 ls [])
    have hW : Wo G A s.heap (60 + 2 * 16) ad wq H locs := hW
    refine lv_iload_n hx hb dX4_init_69 rfl (lv_at hl 0 rfl) ?_
    refine lv_bipush (v := nI 16) hx hb dX4_init_70 (by decide) ?_
    refine n_icmp_ge (tgt := 94) hx hb (by omega) (by omega) dX4_init_72 (by decide) (fun hc => ?_) (fun hc => ?_)
    · refine ret_zv B hr hlk hW ⟨⟨0, hB_16.keep (fun j q1 q2 => i1 j (by omega) (by omega))⟩, (i1 0 (by decide) (by decide)).trans u_16, ⟨f1, i2, i3⟩, ⟨_, (i1 55 (by decide) (by decide)).trans x55_16⟩, ⟨_, (i1 56 (by decide) (by decide)).trans x56_16⟩, ⟨_, (i1 57 (by decide) (by decide)).trans x57_16⟩, ⟨_, (i1 58 (by decide) (by decide)).trans x58_16, fun i (q : i < 0) => absurd q (Nat.not_lt_zero i)⟩, ⟨_, (i1 59 (by decide) (by decide)).trans x59_16, fun i _ _ => rfl⟩, fun i hi => ⟨_, _, _, _, (i4 i hi).1, (i4 i hi).2, fun (q : i < 0) => absurd q (Nat.not_lt_zero i)⟩⟩ (by decide) (by decide) dX4_init_94
    · omega
