set_option maxHeartbeats 4000000 in
set_option maxRecDepth 100000 in
theorem k_X5_init (l : Launch) (G : zG) (ad : Nat → Nat) (w : Nat → va_E) (hli : lin ad) (h0 : w 92 = eO 3 [.null, .null, .null, .null, .int (nI (0)), .null, .null, .null, .null, .null, .null, .null, .null, .null, .null, .null, .null, .null, .null, .int (nI (0))]) :
    Cz l G yX5_init cdX5_init 5 18 1509 93 111 ad w [.ref (ad 92)] (fun w' => MOK G ad w' s0 ∧ ∀ j, j < 92 → w' j = w j) := by
  refine ent_z (cc := cX5_init) (maxL := 4) (ret := none) (by decide +kernel) rfl (Nat.le_of_ble_eq_true rfl) ?_
  intro p e s m args below meth c A B hE hr hlk hin hA hs0 H locs ls hW hl
  have hx := B.1
  have hb := B.2.1
  have hl : lv_has ls 4 [(0, .ref (ad (92)))] := hl
  refine lv_aload_n hx hb dX5_init_0 rfl (lv_at hl 0 rfl) ?_
  refine z_obj B hl.1 hw_364 dX5_init_1 ⟨by decide, by decide⟩ (Nat.le_of_ble_eq_true rfl) ?_
  have oo_0 : ∀ j, j < 92 → w j = w j := fun _ _ => rfl
  refine lv_aload_n hx hb dX5_init_4 rfl (lv_at hl 0 rfl) ?_
  refine lv_sipush (v := nI 768) hx hb dX5_init_5 (by decide) ?_
  refine z_newL B hA hW hli (by omega) (cells := 0) (slots := 0) (by have h1 := hli 93; have h2 := hli 93; omega) (N := 768) (by decide) (cells' := 1) (slots' := 768) rfl rfl ⟨by decide, by decide⟩ dX5_init_8 (fun H hW => ?_)
  obtain ⟨w_1, hW, u_1, o_1⟩ : ∃ w9 : Nat → va_E, Wo G A s.heap (94) ad w9 H locs ∧ w9 (93) = eL G 768 (fun _ => lN 0) ∧ ∀ j, j ≠ 93 → w9 j = w j := ⟨_, hW, up_s, fun j hj => up_n hj⟩
  have x92_1 := (o_1 (92) (by decide)).trans h0
  have oo_1 : ∀ j, j < 92 → w_1 j = w j := fun j q => (o_1 j (by omega)).trans (oo_0 j q)
  refine z_putF B hW (92) (by omega) x92_1 rfl inX5 tyX5 tyX5_ok nmX5 0 (by decide) hw_375 rfl rfl hin rfl (v := .ref (ad (93))) rfl rfl (Nat.le_of_ble_eq_true rfl) dX5_init_10 (fun H locs hW => ?_)
  obtain ⟨w_2, hW, u_2, o_2⟩ : ∃ w9 : Nat → va_E, Wo G A s.heap (94) ad w9 H locs ∧ w9 (92) = eO 3 [.ref (ad (93)), .null, .null, .null, .int (nI (0)), .null, .null, .null, .null, .null, .null, .null, .null, .null, .null, .null, .null, .null, .null, .int (nI (0))] ∧ ∀ j, j ≠ 92 → w9 j = w_1 j := ⟨_, hW, up_s, fun j hj => up_n hj⟩
  have x93_2 := (o_2 (93) (by decide)).trans u_1
  have oo_2 : ∀ j, j < 92 → w_2 j = w j := fun j q => (o_2 j (by omega)).trans (oo_1 j q)
  refine lv_aload_n hx hb dX5_init_13 rfl (lv_at hl 0 rfl) ?_
  refine lv_bipush (v := nI 16) hx hb dX5_init_14 (by decide) ?_
  refine z_newI B hA hW hli (by omega) (cells := 1) (slots := 768) (by have h1 := hli 93; have h2 := hli 94; omega) (N := 16) (by decide) (cells' := 2) (slots' := 784) rfl rfl ⟨by decide, by decide⟩ dX5_init_16 (fun H hW => ?_)
  obtain ⟨w_3, hW, u_3, o_3⟩ : ∃ w9 : Nat → va_E, Wo G A s.heap (95) ad w9 H locs ∧ w9 (94) = eI G 16 (fun _ => nI 0) ∧ ∀ j, j ≠ 94 → w9 j = w_2 j := ⟨_, hW, up_s, fun j hj => up_n hj⟩
  have x92_3 := (o_3 (92) (by decide)).trans u_2
  have x93_3 := (o_3 (93) (by decide)).trans x93_2
  have oo_3 : ∀ j, j < 92 → w_3 j = w j := fun j q => (o_3 j (by omega)).trans (oo_2 j q)
  refine z_putF B hW (92) (by omega) x92_3 rfl inX5 tyX5 tyX5_ok nmX5 1 (by decide) hw_376 rfl rfl hin rfl (v := .ref (ad (94))) rfl rfl (Nat.le_of_ble_eq_true rfl) dX5_init_18 (fun H locs hW => ?_)
  obtain ⟨w_4, hW, u_4, o_4⟩ : ∃ w9 : Nat → va_E, Wo G A s.heap (95) ad w9 H locs ∧ w9 (92) = eO 3 [.ref (ad (93)), .ref (ad (94)), .null, .null, .int (nI (0)), .null, .null, .null, .null, .null, .null, .null, .null, .null, .null, .null, .null, .null, .null, .int (nI (0))] ∧ ∀ j, j ≠ 92 → w9 j = w_3 j := ⟨_, hW, up_s, fun j hj => up_n hj⟩
  have x93_4 := (o_4 (93) (by decide)).trans x93_3
  have x94_4 := (o_4 (94) (by decide)).trans u_3
  have oo_4 : ∀ j, j < 92 → w_4 j = w j := fun j q => (o_4 j (by omega)).trans (oo_3 j q)
  refine lv_aload_n hx hb dX5_init_21 rfl (lv_at hl 0 rfl) ?_
  refine lv_bipush (v := nI 16) hx hb dX5_init_22 (by decide) ?_
  refine z_newI B hA hW hli (by omega) (cells := 2) (slots := 784) (by have h1 := hli 93; have h2 := hli 95; omega) (N := 16) (by decide) (cells' := 3) (slots' := 800) rfl rfl ⟨by decide, by decide⟩ dX5_init_24 (fun H hW => ?_)
  obtain ⟨w_5, hW, u_5, o_5⟩ : ∃ w9 : Nat → va_E, Wo G A s.heap (96) ad w9 H locs ∧ w9 (95) = eI G 16 (fun _ => nI 0) ∧ ∀ j, j ≠ 95 → w9 j = w_4 j := ⟨_, hW, up_s, fun j hj => up_n hj⟩
  have x92_5 := (o_5 (92) (by decide)).trans u_4
  have x93_5 := (o_5 (93) (by decide)).trans x93_4
  have x94_5 := (o_5 (94) (by decide)).trans x94_4
  have oo_5 : ∀ j, j < 92 → w_5 j = w j := fun j q => (o_5 j (by omega)).trans (oo_4 j q)
  refine z_putF B hW (92) (by omega) x92_5 rfl inX5 tyX5 tyX5_ok nmX5 2 (by decide) hw_377 rfl rfl hin rfl (v := .ref (ad (95))) rfl rfl (Nat.le_of_ble_eq_true rfl) dX5_init_26 (fun H locs hW => ?_)
  obtain ⟨w_6, hW, u_6, o_6⟩ : ∃ w9 : Nat → va_E, Wo G A s.heap (96) ad w9 H locs ∧ w9 (92) = eO 3 [.ref (ad (93)), .ref (ad (94)), .ref (ad (95)), .null, .int (nI (0)), .null, .null, .null, .null, .null, .null, .null, .null, .null, .null, .null, .null, .null, .null, .int (nI (0))] ∧ ∀ j, j ≠ 92 → w9 j = w_5 j := ⟨_, hW, up_s, fun j hj => up_n hj⟩
  have x93_6 := (o_6 (93) (by decide)).trans x93_5
  have x94_6 := (o_6 (94) (by decide)).trans x94_5
  have x95_6 := (o_6 (95) (by decide)).trans u_5
  have oo_6 : ∀ j, j < 92 → w_6 j = w j := fun j q => (o_6 j (by omega)).trans (oo_5 j q)
  refine lv_aload_n hx hb dX5_init_29 rfl (lv_at hl 0 rfl) ?_
  refine lv_bipush (v := nI 16) hx hb dX5_init_30 (by decide) ?_
  refine z_newI B hA hW hli (by omega) (cells := 3) (slots := 800) (by have h1 := hli 93; have h2 := hli 96; omega) (N := 16) (by decide) (cells' := 4) (slots' := 816) rfl rfl ⟨by decide, by decide⟩ dX5_init_32 (fun H hW => ?_)
  obtain ⟨w_7, hW, u_7, o_7⟩ : ∃ w9 : Nat → va_E, Wo G A s.heap (97) ad w9 H locs ∧ w9 (96) = eI G 16 (fun _ => nI 0) ∧ ∀ j, j ≠ 96 → w9 j = w_6 j := ⟨_, hW, up_s, fun j hj => up_n hj⟩
  have x92_7 := (o_7 (92) (by decide)).trans u_6
  have x93_7 := (o_7 (93) (by decide)).trans x93_6
  have x94_7 := (o_7 (94) (by decide)).trans x94_6
  have x95_7 := (o_7 (95) (by decide)).trans x95_6
  have oo_7 : ∀ j, j < 92 → w_7 j = w j := fun j q => (o_7 j (by omega)).trans (oo_6 j q)
  refine z_putF B hW (92) (by omega) x92_7 rfl inX5 tyX5 tyX5_ok nmX5 3 (by decide) hw_378 rfl rfl hin rfl (v := .ref (ad (96))) rfl rfl (Nat.le_of_ble_eq_true rfl) dX5_init_34 (fun H locs hW => ?_)
  obtain ⟨w_8, hW, u_8, o_8⟩ : ∃ w9 : Nat → va_E, Wo G A s.heap (97) ad w9 H locs ∧ w9 (92) = eO 3 [.ref (ad (93)), .ref (ad (94)), .ref (ad (95)), .ref (ad (96)), .int (nI (0)), .null, .null, .null, .null, .null, .null, .null, .null, .null, .null, .null, .null, .null, .null, .int (nI (0))] ∧ ∀ j, j ≠ 92 → w9 j = w_7 j := ⟨_, hW, up_s, fun j hj => up_n hj⟩
  have x93_8 := (o_8 (93) (by decide)).trans x93_7
  have x94_8 := (o_8 (94) (by decide)).trans x94_7
  have x95_8 := (o_8 (95) (by decide)).trans x95_7
  have x96_8 := (o_8 (96) (by decide)).trans u_7
  have oo_8 : ∀ j, j < 92 → w_8 j = w j := fun j q => (o_8 j (by omega)).trans (oo_7 j q)
  refine lv_aload_n hx hb dX5_init_37 rfl (lv_at hl 0 rfl) ?_
  refine lv_bipush (v := nI 9) hx hb dX5_init_38 (by decide) ?_
  refine z_newI B hA hW hli (by omega) (cells := 4) (slots := 816) (by have h1 := hli 93; have h2 := hli 97; omega) (N := 9) (by decide) (cells' := 5) (slots' := 825) rfl rfl ⟨by decide, by decide⟩ dX5_init_40 (fun H hW => ?_)
  obtain ⟨w_9, hW, u_9, o_9⟩ : ∃ w9 : Nat → va_E, Wo G A s.heap (98) ad w9 H locs ∧ w9 (97) = eI G 9 (fun _ => nI 0) ∧ ∀ j, j ≠ 97 → w9 j = w_8 j := ⟨_, hW, up_s, fun j hj => up_n hj⟩
  have x92_9 := (o_9 (92) (by decide)).trans u_8
  have x93_9 := (o_9 (93) (by decide)).trans x93_8
  have x94_9 := (o_9 (94) (by decide)).trans x94_8
  have x95_9 := (o_9 (95) (by decide)).trans x95_8
  have x96_9 := (o_9 (96) (by decide)).trans x96_8
  have oo_9 : ∀ j, j < 92 → w_9 j = w j := fun j q => (o_9 j (by omega)).trans (oo_8 j q)
  refine z_putF B hW (92) (by omega) x92_9 rfl inX5 tyX5 tyX5_ok nmX5 5 (by decide) hw_380 rfl rfl hin rfl (v := .ref (ad (97))) rfl rfl (Nat.le_of_ble_eq_true rfl) dX5_init_42 (fun H locs hW => ?_)
  obtain ⟨w_10, hW, u_10, o_10⟩ : ∃ w9 : Nat → va_E, Wo G A s.heap (98) ad w9 H locs ∧ w9 (92) = eO 3 [.ref (ad (93)), .ref (ad (94)), .ref (ad (95)), .ref (ad (96)), .int (nI (0)), .ref (ad (97)), .null, .null, .null, .null, .null, .null, .null, .null, .null, .null, .null, .null, .null, .int (nI (0))] ∧ ∀ j, j ≠ 92 → w9 j = w_9 j := ⟨_, hW, up_s, fun j hj => up_n hj⟩
  have x93_10 := (o_10 (93) (by decide)).trans x93_9
  have x94_10 := (o_10 (94) (by decide)).trans x94_9
  have x95_10 := (o_10 (95) (by decide)).trans x95_9
  have x96_10 := (o_10 (96) (by decide)).trans x96_9
  have x97_10 := (o_10 (97) (by decide)).trans u_9
  have oo_10 : ∀ j, j < 92 → w_10 j = w j := fun j q => (o_10 j (by omega)).trans (oo_9 j q)
  refine lv_aload_n hx hb dX5_init_45 rfl (lv_at hl 0 rfl) ?_
  refine lv_bipush (v := nI 48) hx hb dX5_init_46 (by decide) ?_
  refine z_newL B hA hW hli (by omega) (cells := 5) (slots := 825) (by have h1 := hli 93; have h2 := hli 98; omega) (N := 48) (by decide) (cells' := 6) (slots' := 873) rfl rfl ⟨by decide, by decide⟩ dX5_init_48 (fun H hW => ?_)
  obtain ⟨w_11, hW, u_11, o_11⟩ : ∃ w9 : Nat → va_E, Wo G A s.heap (99) ad w9 H locs ∧ w9 (98) = eL G 48 (fun _ => lN 0) ∧ ∀ j, j ≠ 98 → w9 j = w_10 j := ⟨_, hW, up_s, fun j hj => up_n hj⟩
  have x92_11 := (o_11 (92) (by decide)).trans u_10
  have x93_11 := (o_11 (93) (by decide)).trans x93_10
  have x94_11 := (o_11 (94) (by decide)).trans x94_10
  have x95_11 := (o_11 (95) (by decide)).trans x95_10
  have x96_11 := (o_11 (96) (by decide)).trans x96_10
  have x97_11 := (o_11 (97) (by decide)).trans x97_10
  have oo_11 : ∀ j, j < 92 → w_11 j = w j := fun j q => (o_11 j (by omega)).trans (oo_10 j q)
  refine z_putF B hW (92) (by omega) x92_11 rfl inX5 tyX5 tyX5_ok nmX5 6 (by decide) hw_381 rfl rfl hin rfl (v := .ref (ad (98))) rfl rfl (Nat.le_of_ble_eq_true rfl) dX5_init_50 (fun H locs hW => ?_)
  obtain ⟨w_12, hW, u_12, o_12⟩ : ∃ w9 : Nat → va_E, Wo G A s.heap (99) ad w9 H locs ∧ w9 (92) = eO 3 [.ref (ad (93)), .ref (ad (94)), .ref (ad (95)), .ref (ad (96)), .int (nI (0)), .ref (ad (97)), .ref (ad (98)), .null, .null, .null, .null, .null, .null, .null, .null, .null, .null, .null, .null, .int (nI (0))] ∧ ∀ j, j ≠ 92 → w9 j = w_11 j := ⟨_, hW, up_s, fun j hj => up_n hj⟩
  have x93_12 := (o_12 (93) (by decide)).trans x93_11
  have x94_12 := (o_12 (94) (by decide)).trans x94_11
  have x95_12 := (o_12 (95) (by decide)).trans x95_11
  have x96_12 := (o_12 (96) (by decide)).trans x96_11
  have x97_12 := (o_12 (97) (by decide)).trans x97_11
  have x98_12 := (o_12 (98) (by decide)).trans u_11
  have oo_12 : ∀ j, j < 92 → w_12 j = w j := fun j q => (o_12 j (by omega)).trans (oo_11 j q)
  refine lv_aload_n hx hb dX5_init_53 rfl (lv_at hl 0 rfl) ?_
  refine lv_bipush (v := nI 48) hx hb dX5_init_54 (by decide) ?_
  refine z_newL B hA hW hli (by omega) (cells := 6) (slots := 873) (by have h1 := hli 93; have h2 := hli 99; omega) (N := 48) (by decide) (cells' := 7) (slots' := 921) rfl rfl ⟨by decide, by decide⟩ dX5_init_56 (fun H hW => ?_)
  obtain ⟨w_13, hW, u_13, o_13⟩ : ∃ w9 : Nat → va_E, Wo G A s.heap (100) ad w9 H locs ∧ w9 (99) = eL G 48 (fun _ => lN 0) ∧ ∀ j, j ≠ 99 → w9 j = w_12 j := ⟨_, hW, up_s, fun j hj => up_n hj⟩
  have x92_13 := (o_13 (92) (by decide)).trans u_12
  have x93_13 := (o_13 (93) (by decide)).trans x93_12
  have x94_13 := (o_13 (94) (by decide)).trans x94_12
  have x95_13 := (o_13 (95) (by decide)).trans x95_12
  have x96_13 := (o_13 (96) (by decide)).trans x96_12
  have x97_13 := (o_13 (97) (by decide)).trans x97_12
  have x98_13 := (o_13 (98) (by decide)).trans x98_12
  have oo_13 : ∀ j, j < 92 → w_13 j = w j := fun j q => (o_13 j (by omega)).trans (oo_12 j q)
  refine z_putF B hW (92) (by omega) x92_13 rfl inX5 tyX5 tyX5_ok nmX5 7 (by decide) hw_382 rfl rfl hin rfl (v := .ref (ad (99))) rfl rfl (Nat.le_of_ble_eq_true rfl) dX5_init_58 (fun H locs hW => ?_)
  obtain ⟨w_14, hW, u_14, o_14⟩ : ∃ w9 : Nat → va_E, Wo G A s.heap (100) ad w9 H locs ∧ w9 (92) = eO 3 [.ref (ad (93)), .ref (ad (94)), .ref (ad (95)), .ref (ad (96)), .int (nI (0)), .ref (ad (97)), .ref (ad (98)), .ref (ad (99)), .null, .null, .null, .null, .null, .null, .null, .null, .null, .null, .null, .int (nI (0))] ∧ ∀ j, j ≠ 92 → w9 j = w_13 j := ⟨_, hW, up_s, fun j hj => up_n hj⟩
  have x93_14 := (o_14 (93) (by decide)).trans x93_13
  have x94_14 := (o_14 (94) (by decide)).trans x94_13
  have x95_14 := (o_14 (95) (by decide)).trans x95_13
  have x96_14 := (o_14 (96) (by decide)).trans x96_13
  have x97_14 := (o_14 (97) (by decide)).trans x97_13
  have x98_14 := (o_14 (98) (by decide)).trans x98_13
  have x99_14 := (o_14 (99) (by decide)).trans u_13
  have oo_14 : ∀ j, j < 92 → w_14 j = w j := fun j q => (o_14 j (by omega)).trans (oo_13 j q)
  refine lv_aload_n hx hb dX5_init_61 rfl (lv_at hl 0 rfl) ?_
  refine lv_bipush (v := nI 48) hx hb dX5_init_62 (by decide) ?_
  refine z_newL B hA hW hli (by omega) (cells := 7) (slots := 921) (by have h1 := hli 93; have h2 := hli 100; omega) (N := 48) (by decide) (cells' := 8) (slots' := 969) rfl rfl ⟨by decide, by decide⟩ dX5_init_64 (fun H hW => ?_)
  obtain ⟨w_15, hW, u_15, o_15⟩ : ∃ w9 : Nat → va_E, Wo G A s.heap (101) ad w9 H locs ∧ w9 (100) = eL G 48 (fun _ => lN 0) ∧ ∀ j, j ≠ 100 → w9 j = w_14 j := ⟨_, hW, up_s, fun j hj => up_n hj⟩
  have x92_15 := (o_15 (92) (by decide)).trans u_14
  have x93_15 := (o_15 (93) (by decide)).trans x93_14
  have x94_15 := (o_15 (94) (by decide)).trans x94_14
  have x95_15 := (o_15 (95) (by decide)).trans x95_14
  have x96_15 := (o_15 (96) (by decide)).trans x96_14
  have x97_15 := (o_15 (97) (by decide)).trans x97_14
  have x98_15 := (o_15 (98) (by decide)).trans x98_14
  have x99_15 := (o_15 (99) (by decide)).trans x99_14
  have oo_15 : ∀ j, j < 92 → w_15 j = w j := fun j q => (o_15 j (by omega)).trans (oo_14 j q)
  refine z_putF B hW (92) (by omega) x92_15 rfl inX5 tyX5 tyX5_ok nmX5 8 (by decide) hw_383 rfl rfl hin rfl (v := .ref (ad (100))) rfl rfl (Nat.le_of_ble_eq_true rfl) dX5_init_66 (fun H locs hW => ?_)
  obtain ⟨w_16, hW, u_16, o_16⟩ : ∃ w9 : Nat → va_E, Wo G A s.heap (101) ad w9 H locs ∧ w9 (92) = eO 3 [.ref (ad (93)), .ref (ad (94)), .ref (ad (95)), .ref (ad (96)), .int (nI (0)), .ref (ad (97)), .ref (ad (98)), .ref (ad (99)), .ref (ad (100)), .null, .null, .null, .null, .null, .null, .null, .null, .null, .null, .int (nI (0))] ∧ ∀ j, j ≠ 92 → w9 j = w_15 j := ⟨_, hW, up_s, fun j hj => up_n hj⟩
  have x93_16 := (o_16 (93) (by decide)).trans x93_15
  have x94_16 := (o_16 (94) (by decide)).trans x94_15
  have x95_16 := (o_16 (95) (by decide)).trans x95_15
  have x96_16 := (o_16 (96) (by decide)).trans x96_15
  have x97_16 := (o_16 (97) (by decide)).trans x97_15
  have x98_16 := (o_16 (98) (by decide)).trans x98_15
  have x99_16 := (o_16 (99) (by decide)).trans x99_15
  have x100_16 := (o_16 (100) (by decide)).trans u_15
  have oo_16 : ∀ j, j < 92 → w_16 j = w j := fun j q => (o_16 j (by omega)).trans (oo_15 j q)
  refine lv_aload_n hx hb dX5_init_69 rfl (lv_at hl 0 rfl) ?_
  refine lv_bipush (v := nI 48) hx hb dX5_init_70 (by decide) ?_
  refine z_newL B hA hW hli (by omega) (cells := 8) (slots := 969) (by have h1 := hli 93; have h2 := hli 101; omega) (N := 48) (by decide) (cells' := 9) (slots' := 1017) rfl rfl ⟨by decide, by decide⟩ dX5_init_72 (fun H hW => ?_)
  obtain ⟨w_17, hW, u_17, o_17⟩ : ∃ w9 : Nat → va_E, Wo G A s.heap (102) ad w9 H locs ∧ w9 (101) = eL G 48 (fun _ => lN 0) ∧ ∀ j, j ≠ 101 → w9 j = w_16 j := ⟨_, hW, up_s, fun j hj => up_n hj⟩
  have x92_17 := (o_17 (92) (by decide)).trans u_16
  have x93_17 := (o_17 (93) (by decide)).trans x93_16
  have x94_17 := (o_17 (94) (by decide)).trans x94_16
  have x95_17 := (o_17 (95) (by decide)).trans x95_16
  have x96_17 := (o_17 (96) (by decide)).trans x96_16
  have x97_17 := (o_17 (97) (by decide)).trans x97_16
  have x98_17 := (o_17 (98) (by decide)).trans x98_16
  have x99_17 := (o_17 (99) (by decide)).trans x99_16
  have x100_17 := (o_17 (100) (by decide)).trans x100_16
  have oo_17 : ∀ j, j < 92 → w_17 j = w j := fun j q => (o_17 j (by omega)).trans (oo_16 j q)
  refine z_putF B hW (92) (by omega) x92_17 rfl inX5 tyX5 tyX5_ok nmX5 9 (by decide) hw_384 rfl rfl hin rfl (v := .ref (ad (101))) rfl rfl (Nat.le_of_ble_eq_true rfl) dX5_init_74 (fun H locs hW => ?_)
  obtain ⟨w_18, hW, u_18, o_18⟩ : ∃ w9 : Nat → va_E, Wo G A s.heap (102) ad w9 H locs ∧ w9 (92) = eO 3 [.ref (ad (93)), .ref (ad (94)), .ref (ad (95)), .ref (ad (96)), .int (nI (0)), .ref (ad (97)), .ref (ad (98)), .ref (ad (99)), .ref (ad (100)), .ref (ad (101)), .null, .null, .null, .null, .null, .null, .null, .null, .null, .int (nI (0))] ∧ ∀ j, j ≠ 92 → w9 j = w_17 j := ⟨_, hW, up_s, fun j hj => up_n hj⟩
  have x93_18 := (o_18 (93) (by decide)).trans x93_17
  have x94_18 := (o_18 (94) (by decide)).trans x94_17
  have x95_18 := (o_18 (95) (by decide)).trans x95_17
  have x96_18 := (o_18 (96) (by decide)).trans x96_17
  have x97_18 := (o_18 (97) (by decide)).trans x97_17
  have x98_18 := (o_18 (98) (by decide)).trans x98_17
  have x99_18 := (o_18 (99) (by decide)).trans x99_17
  have x100_18 := (o_18 (100) (by decide)).trans x100_17
  have x101_18 := (o_18 (101) (by decide)).trans u_17
  have oo_18 : ∀ j, j < 92 → w_18 j = w j := fun j q => (o_18 j (by omega)).trans (oo_17 j q)
  refine lv_aload_n hx hb dX5_init_77 rfl (lv_at hl 0 rfl) ?_
  refine lv_bipush (v := nI 48) hx hb dX5_init_78 (by decide) ?_
  refine z_newL B hA hW hli (by omega) (cells := 9) (slots := 1017) (by have h1 := hli 93; have h2 := hli 102; omega) (N := 48) (by decide) (cells' := 10) (slots' := 1065) rfl rfl ⟨by decide, by decide⟩ dX5_init_80 (fun H hW => ?_)
  obtain ⟨w_19, hW, u_19, o_19⟩ : ∃ w9 : Nat → va_E, Wo G A s.heap (103) ad w9 H locs ∧ w9 (102) = eL G 48 (fun _ => lN 0) ∧ ∀ j, j ≠ 102 → w9 j = w_18 j := ⟨_, hW, up_s, fun j hj => up_n hj⟩
  have x92_19 := (o_19 (92) (by decide)).trans u_18
  have x93_19 := (o_19 (93) (by decide)).trans x93_18
  have x94_19 := (o_19 (94) (by decide)).trans x94_18
  have x95_19 := (o_19 (95) (by decide)).trans x95_18
  have x96_19 := (o_19 (96) (by decide)).trans x96_18
  have x97_19 := (o_19 (97) (by decide)).trans x97_18
  have x98_19 := (o_19 (98) (by decide)).trans x98_18
  have x99_19 := (o_19 (99) (by decide)).trans x99_18
  have x100_19 := (o_19 (100) (by decide)).trans x100_18
  have x101_19 := (o_19 (101) (by decide)).trans x101_18
  have oo_19 : ∀ j, j < 92 → w_19 j = w j := fun j q => (o_19 j (by omega)).trans (oo_18 j q)
  refine z_putF B hW (92) (by omega) x92_19 rfl inX5 tyX5 tyX5_ok nmX5 10 (by decide) hw_385 rfl rfl hin rfl (v := .ref (ad (102))) rfl rfl (Nat.le_of_ble_eq_true rfl) dX5_init_82 (fun H locs hW => ?_)
  obtain ⟨w_20, hW, u_20, o_20⟩ : ∃ w9 : Nat → va_E, Wo G A s.heap (103) ad w9 H locs ∧ w9 (92) = eO 3 [.ref (ad (93)), .ref (ad (94)), .ref (ad (95)), .ref (ad (96)), .int (nI (0)), .ref (ad (97)), .ref (ad (98)), .ref (ad (99)), .ref (ad (100)), .ref (ad (101)), .ref (ad (102)), .null, .null, .null, .null, .null, .null, .null, .null, .int (nI (0))] ∧ ∀ j, j ≠ 92 → w9 j = w_19 j := ⟨_, hW, up_s, fun j hj => up_n hj⟩
  have x93_20 := (o_20 (93) (by decide)).trans x93_19
  have x94_20 := (o_20 (94) (by decide)).trans x94_19
  have x95_20 := (o_20 (95) (by decide)).trans x95_19
  have x96_20 := (o_20 (96) (by decide)).trans x96_19
  have x97_20 := (o_20 (97) (by decide)).trans x97_19
  have x98_20 := (o_20 (98) (by decide)).trans x98_19
  have x99_20 := (o_20 (99) (by decide)).trans x99_19
  have x100_20 := (o_20 (100) (by decide)).trans x100_19
  have x101_20 := (o_20 (101) (by decide)).trans x101_19
  have x102_20 := (o_20 (102) (by decide)).trans u_19
  have oo_20 : ∀ j, j < 92 → w_20 j = w j := fun j q => (o_20 j (by omega)).trans (oo_19 j q)
  refine lv_aload_n hx hb dX5_init_85 rfl (lv_at hl 0 rfl) ?_
  refine lv_bipush (v := nI 48) hx hb dX5_init_86 (by decide) ?_
  refine z_newL B hA hW hli (by omega) (cells := 10) (slots := 1065) (by have h1 := hli 93; have h2 := hli 103; omega) (N := 48) (by decide) (cells' := 11) (slots' := 1113) rfl rfl ⟨by decide, by decide⟩ dX5_init_88 (fun H hW => ?_)
  obtain ⟨w_21, hW, u_21, o_21⟩ : ∃ w9 : Nat → va_E, Wo G A s.heap (104) ad w9 H locs ∧ w9 (103) = eL G 48 (fun _ => lN 0) ∧ ∀ j, j ≠ 103 → w9 j = w_20 j := ⟨_, hW, up_s, fun j hj => up_n hj⟩
  have x92_21 := (o_21 (92) (by decide)).trans u_20
  have x93_21 := (o_21 (93) (by decide)).trans x93_20
  have x94_21 := (o_21 (94) (by decide)).trans x94_20
  have x95_21 := (o_21 (95) (by decide)).trans x95_20
  have x96_21 := (o_21 (96) (by decide)).trans x96_20
  have x97_21 := (o_21 (97) (by decide)).trans x97_20
  have x98_21 := (o_21 (98) (by decide)).trans x98_20
  have x99_21 := (o_21 (99) (by decide)).trans x99_20
  have x100_21 := (o_21 (100) (by decide)).trans x100_20
  have x101_21 := (o_21 (101) (by decide)).trans x101_20
  have x102_21 := (o_21 (102) (by decide)).trans x102_20
  have oo_21 : ∀ j, j < 92 → w_21 j = w j := fun j q => (o_21 j (by omega)).trans (oo_20 j q)
  refine z_putF B hW (92) (by omega) x92_21 rfl inX5 tyX5 tyX5_ok nmX5 11 (by decide) hw_386 rfl rfl hin rfl (v := .ref (ad (103))) rfl rfl (Nat.le_of_ble_eq_true rfl) dX5_init_90 (fun H locs hW => ?_)
  obtain ⟨w_22, hW, u_22, o_22⟩ : ∃ w9 : Nat → va_E, Wo G A s.heap (104) ad w9 H locs ∧ w9 (92) = eO 3 [.ref (ad (93)), .ref (ad (94)), .ref (ad (95)), .ref (ad (96)), .int (nI (0)), .ref (ad (97)), .ref (ad (98)), .ref (ad (99)), .ref (ad (100)), .ref (ad (101)), .ref (ad (102)), .ref (ad (103)), .null, .null, .null, .null, .null, .null, .null, .int (nI (0))] ∧ ∀ j, j ≠ 92 → w9 j = w_21 j := ⟨_, hW, up_s, fun j hj => up_n hj⟩
  have x93_22 := (o_22 (93) (by decide)).trans x93_21
  have x94_22 := (o_22 (94) (by decide)).trans x94_21
  have x95_22 := (o_22 (95) (by decide)).trans x95_21
  have x96_22 := (o_22 (96) (by decide)).trans x96_21
  have x97_22 := (o_22 (97) (by decide)).trans x97_21
  have x98_22 := (o_22 (98) (by decide)).trans x98_21
  have x99_22 := (o_22 (99) (by decide)).trans x99_21
  have x100_22 := (o_22 (100) (by decide)).trans x100_21
  have x101_22 := (o_22 (101) (by decide)).trans x101_21
  have x102_22 := (o_22 (102) (by decide)).trans x102_21
  have x103_22 := (o_22 (103) (by decide)).trans u_21
  have oo_22 : ∀ j, j < 92 → w_22 j = w j := fun j q => (o_22 j (by omega)).trans (oo_21 j q)
  refine lv_aload_n hx hb dX5_init_93 rfl (lv_at hl 0 rfl) ?_
  refine lv_bipush (v := nI 48) hx hb dX5_init_94 (by decide) ?_
  refine z_newL B hA hW hli (by omega) (cells := 11) (slots := 1113) (by have h1 := hli 93; have h2 := hli 104; omega) (N := 48) (by decide) (cells' := 12) (slots' := 1161) rfl rfl ⟨by decide, by decide⟩ dX5_init_96 (fun H hW => ?_)
  obtain ⟨w_23, hW, u_23, o_23⟩ : ∃ w9 : Nat → va_E, Wo G A s.heap (105) ad w9 H locs ∧ w9 (104) = eL G 48 (fun _ => lN 0) ∧ ∀ j, j ≠ 104 → w9 j = w_22 j := ⟨_, hW, up_s, fun j hj => up_n hj⟩
  have x92_23 := (o_23 (92) (by decide)).trans u_22
  have x93_23 := (o_23 (93) (by decide)).trans x93_22
  have x94_23 := (o_23 (94) (by decide)).trans x94_22
  have x95_23 := (o_23 (95) (by decide)).trans x95_22
  have x96_23 := (o_23 (96) (by decide)).trans x96_22
  have x97_23 := (o_23 (97) (by decide)).trans x97_22
  have x98_23 := (o_23 (98) (by decide)).trans x98_22
  have x99_23 := (o_23 (99) (by decide)).trans x99_22
  have x100_23 := (o_23 (100) (by decide)).trans x100_22
  have x101_23 := (o_23 (101) (by decide)).trans x101_22
  have x102_23 := (o_23 (102) (by decide)).trans x102_22
  have x103_23 := (o_23 (103) (by decide)).trans x103_22
  have oo_23 : ∀ j, j < 92 → w_23 j = w j := fun j q => (o_23 j (by omega)).trans (oo_22 j q)
  refine z_putF B hW (92) (by omega) x92_23 rfl inX5 tyX5 tyX5_ok nmX5 12 (by decide) hw_387 rfl rfl hin rfl (v := .ref (ad (104))) rfl rfl (Nat.le_of_ble_eq_true rfl) dX5_init_98 (fun H locs hW => ?_)
  obtain ⟨w_24, hW, u_24, o_24⟩ : ∃ w9 : Nat → va_E, Wo G A s.heap (105) ad w9 H locs ∧ w9 (92) = eO 3 [.ref (ad (93)), .ref (ad (94)), .ref (ad (95)), .ref (ad (96)), .int (nI (0)), .ref (ad (97)), .ref (ad (98)), .ref (ad (99)), .ref (ad (100)), .ref (ad (101)), .ref (ad (102)), .ref (ad (103)), .ref (ad (104)), .null, .null, .null, .null, .null, .null, .int (nI (0))] ∧ ∀ j, j ≠ 92 → w9 j = w_23 j := ⟨_, hW, up_s, fun j hj => up_n hj⟩
  have x93_24 := (o_24 (93) (by decide)).trans x93_23
  have x94_24 := (o_24 (94) (by decide)).trans x94_23
  have x95_24 := (o_24 (95) (by decide)).trans x95_23
  have x96_24 := (o_24 (96) (by decide)).trans x96_23
  have x97_24 := (o_24 (97) (by decide)).trans x97_23
  have x98_24 := (o_24 (98) (by decide)).trans x98_23
  have x99_24 := (o_24 (99) (by decide)).trans x99_23
  have x100_24 := (o_24 (100) (by decide)).trans x100_23
  have x101_24 := (o_24 (101) (by decide)).trans x101_23
  have x102_24 := (o_24 (102) (by decide)).trans x102_23
  have x103_24 := (o_24 (103) (by decide)).trans x103_23
  have x104_24 := (o_24 (104) (by decide)).trans u_23
  have oo_24 : ∀ j, j < 92 → w_24 j = w j := fun j q => (o_24 j (by omega)).trans (oo_23 j q)
  refine lv_aload_n hx hb dX5_init_101 rfl (lv_at hl 0 rfl) ?_
  refine lv_iconst (v := nI 4) hx hb dX5_init_102 (by decide) ?_
  refine z_newL B hA hW hli (by omega) (cells := 12) (slots := 1161) (by have h1 := hli 93; have h2 := hli 105; omega) (N := 4) (by decide) (cells' := 13) (slots' := 1165) rfl rfl ⟨by decide, by decide⟩ dX5_init_103 (fun H hW => ?_)
  obtain ⟨w_25, hW, u_25, o_25⟩ : ∃ w9 : Nat → va_E, Wo G A s.heap (106) ad w9 H locs ∧ w9 (105) = eL G 4 (fun _ => lN 0) ∧ ∀ j, j ≠ 105 → w9 j = w_24 j := ⟨_, hW, up_s, fun j hj => up_n hj⟩
  have x92_25 := (o_25 (92) (by decide)).trans u_24
  have x93_25 := (o_25 (93) (by decide)).trans x93_24
  have x94_25 := (o_25 (94) (by decide)).trans x94_24
  have x95_25 := (o_25 (95) (by decide)).trans x95_24
  have x96_25 := (o_25 (96) (by decide)).trans x96_24
  have x97_25 := (o_25 (97) (by decide)).trans x97_24
  have x98_25 := (o_25 (98) (by decide)).trans x98_24
  have x99_25 := (o_25 (99) (by decide)).trans x99_24
  have x100_25 := (o_25 (100) (by decide)).trans x100_24
  have x101_25 := (o_25 (101) (by decide)).trans x101_24
  have x102_25 := (o_25 (102) (by decide)).trans x102_24
  have x103_25 := (o_25 (103) (by decide)).trans x103_24
  have x104_25 := (o_25 (104) (by decide)).trans x104_24
  have oo_25 : ∀ j, j < 92 → w_25 j = w j := fun j q => (o_25 j (by omega)).trans (oo_24 j q)
  refine z_putF B hW (92) (by omega) x92_25 rfl inX5 tyX5 tyX5_ok nmX5 13 (by decide) hw_388 rfl rfl hin rfl (v := .ref (ad (105))) rfl rfl (Nat.le_of_ble_eq_true rfl) dX5_init_105 (fun H locs hW => ?_)
  obtain ⟨w_26, hW, u_26, o_26⟩ : ∃ w9 : Nat → va_E, Wo G A s.heap (106) ad w9 H locs ∧ w9 (92) = eO 3 [.ref (ad (93)), .ref (ad (94)), .ref (ad (95)), .ref (ad (96)), .int (nI (0)), .ref (ad (97)), .ref (ad (98)), .ref (ad (99)), .ref (ad (100)), .ref (ad (101)), .ref (ad (102)), .ref (ad (103)), .ref (ad (104)), .ref (ad (105)), .null, .null, .null, .null, .null, .int (nI (0))] ∧ ∀ j, j ≠ 92 → w9 j = w_25 j := ⟨_, hW, up_s, fun j hj => up_n hj⟩
  have x93_26 := (o_26 (93) (by decide)).trans x93_25
  have x94_26 := (o_26 (94) (by decide)).trans x94_25
  have x95_26 := (o_26 (95) (by decide)).trans x95_25
  have x96_26 := (o_26 (96) (by decide)).trans x96_25
  have x97_26 := (o_26 (97) (by decide)).trans x97_25
  have x98_26 := (o_26 (98) (by decide)).trans x98_25
  have x99_26 := (o_26 (99) (by decide)).trans x99_25
  have x100_26 := (o_26 (100) (by decide)).trans x100_25
  have x101_26 := (o_26 (101) (by decide)).trans x101_25
  have x102_26 := (o_26 (102) (by decide)).trans x102_25
  have x103_26 := (o_26 (103) (by decide)).trans x103_25
  have x104_26 := (o_26 (104) (by decide)).trans x104_25
  have x105_26 := (o_26 (105) (by decide)).trans u_25
  have oo_26 : ∀ j, j < 92 → w_26 j = w j := fun j q => (o_26 j (by omega)).trans (oo_25 j q)
  refine lv_aload_n hx hb dX5_init_108 rfl (lv_at hl 0 rfl) ?_
  refine lv_bipush (v := nI 48) hx hb dX5_init_109 (by decide) ?_
  refine z_newL B hA hW hli (by omega) (cells := 13) (slots := 1165) (by have h1 := hli 93; have h2 := hli 106; omega) (N := 48) (by decide) (cells' := 14) (slots' := 1213) rfl rfl ⟨by decide, by decide⟩ dX5_init_111 (fun H hW => ?_)
  obtain ⟨w_27, hW, u_27, o_27⟩ : ∃ w9 : Nat → va_E, Wo G A s.heap (107) ad w9 H locs ∧ w9 (106) = eL G 48 (fun _ => lN 0) ∧ ∀ j, j ≠ 106 → w9 j = w_26 j := ⟨_, hW, up_s, fun j hj => up_n hj⟩
  have x92_27 := (o_27 (92) (by decide)).trans u_26
  have x93_27 := (o_27 (93) (by decide)).trans x93_26
  have x94_27 := (o_27 (94) (by decide)).trans x94_26
  have x95_27 := (o_27 (95) (by decide)).trans x95_26
  have x96_27 := (o_27 (96) (by decide)).trans x96_26
  have x97_27 := (o_27 (97) (by decide)).trans x97_26
  have x98_27 := (o_27 (98) (by decide)).trans x98_26
  have x99_27 := (o_27 (99) (by decide)).trans x99_26
  have x100_27 := (o_27 (100) (by decide)).trans x100_26
  have x101_27 := (o_27 (101) (by decide)).trans x101_26
  have x102_27 := (o_27 (102) (by decide)).trans x102_26
  have x103_27 := (o_27 (103) (by decide)).trans x103_26
  have x104_27 := (o_27 (104) (by decide)).trans x104_26
  have x105_27 := (o_27 (105) (by decide)).trans x105_26
  have oo_27 : ∀ j, j < 92 → w_27 j = w j := fun j q => (o_27 j (by omega)).trans (oo_26 j q)
  refine z_putF B hW (92) (by omega) x92_27 rfl inX5 tyX5 tyX5_ok nmX5 14 (by decide) hw_389 rfl rfl hin rfl (v := .ref (ad (106))) rfl rfl (Nat.le_of_ble_eq_true rfl) dX5_init_113 (fun H locs hW => ?_)
  obtain ⟨w_28, hW, u_28, o_28⟩ : ∃ w9 : Nat → va_E, Wo G A s.heap (107) ad w9 H locs ∧ w9 (92) = eO 3 [.ref (ad (93)), .ref (ad (94)), .ref (ad (95)), .ref (ad (96)), .int (nI (0)), .ref (ad (97)), .ref (ad (98)), .ref (ad (99)), .ref (ad (100)), .ref (ad (101)), .ref (ad (102)), .ref (ad (103)), .ref (ad (104)), .ref (ad (105)), .ref (ad (106)), .null, .null, .null, .null, .int (nI (0))] ∧ ∀ j, j ≠ 92 → w9 j = w_27 j := ⟨_, hW, up_s, fun j hj => up_n hj⟩
  have x93_28 := (o_28 (93) (by decide)).trans x93_27
  have x94_28 := (o_28 (94) (by decide)).trans x94_27
  have x95_28 := (o_28 (95) (by decide)).trans x95_27
  have x96_28 := (o_28 (96) (by decide)).trans x96_27
  have x97_28 := (o_28 (97) (by decide)).trans x97_27
  have x98_28 := (o_28 (98) (by decide)).trans x98_27
  have x99_28 := (o_28 (99) (by decide)).trans x99_27
  have x100_28 := (o_28 (100) (by decide)).trans x100_27
  have x101_28 := (o_28 (101) (by decide)).trans x101_27
  have x102_28 := (o_28 (102) (by decide)).trans x102_27
  have x103_28 := (o_28 (103) (by decide)).trans x103_27
  have x104_28 := (o_28 (104) (by decide)).trans x104_27
  have x105_28 := (o_28 (105) (by decide)).trans x105_27
  have x106_28 := (o_28 (106) (by decide)).trans u_27
  have oo_28 : ∀ j, j < 92 → w_28 j = w j := fun j q => (o_28 j (by omega)).trans (oo_27 j q)
  refine lv_aload_n hx hb dX5_init_116 rfl (lv_at hl 0 rfl) ?_
  refine lv_bipush (v := nI 100) hx hb dX5_init_117 (by decide) ?_
  refine z_newL B hA hW hli (by omega) (cells := 14) (slots := 1213) (by have h1 := hli 93; have h2 := hli 107; omega) (N := 100) (by decide) (cells' := 15) (slots' := 1313) rfl rfl ⟨by decide, by decide⟩ dX5_init_119 (fun H hW => ?_)
  obtain ⟨w_29, hW, u_29, o_29⟩ : ∃ w9 : Nat → va_E, Wo G A s.heap (108) ad w9 H locs ∧ w9 (107) = eL G 100 (fun _ => lN 0) ∧ ∀ j, j ≠ 107 → w9 j = w_28 j := ⟨_, hW, up_s, fun j hj => up_n hj⟩
  have x92_29 := (o_29 (92) (by decide)).trans u_28
  have x93_29 := (o_29 (93) (by decide)).trans x93_28
  have x94_29 := (o_29 (94) (by decide)).trans x94_28
  have x95_29 := (o_29 (95) (by decide)).trans x95_28
  have x96_29 := (o_29 (96) (by decide)).trans x96_28
  have x97_29 := (o_29 (97) (by decide)).trans x97_28
  have x98_29 := (o_29 (98) (by decide)).trans x98_28
  have x99_29 := (o_29 (99) (by decide)).trans x99_28
  have x100_29 := (o_29 (100) (by decide)).trans x100_28
  have x101_29 := (o_29 (101) (by decide)).trans x101_28
  have x102_29 := (o_29 (102) (by decide)).trans x102_28
  have x103_29 := (o_29 (103) (by decide)).trans x103_28
  have x104_29 := (o_29 (104) (by decide)).trans x104_28
  have x105_29 := (o_29 (105) (by decide)).trans x105_28
  have x106_29 := (o_29 (106) (by decide)).trans x106_28
  have oo_29 : ∀ j, j < 92 → w_29 j = w j := fun j q => (o_29 j (by omega)).trans (oo_28 j q)
  refine z_putF B hW (92) (by omega) x92_29 rfl inX5 tyX5 tyX5_ok nmX5 15 (by decide) hw_390 rfl rfl hin rfl (v := .ref (ad (107))) rfl rfl (Nat.le_of_ble_eq_true rfl) dX5_init_121 (fun H locs hW => ?_)
  obtain ⟨w_30, hW, u_30, o_30⟩ : ∃ w9 : Nat → va_E, Wo G A s.heap (108) ad w9 H locs ∧ w9 (92) = eO 3 [.ref (ad (93)), .ref (ad (94)), .ref (ad (95)), .ref (ad (96)), .int (nI (0)), .ref (ad (97)), .ref (ad (98)), .ref (ad (99)), .ref (ad (100)), .ref (ad (101)), .ref (ad (102)), .ref (ad (103)), .ref (ad (104)), .ref (ad (105)), .ref (ad (106)), .ref (ad (107)), .null, .null, .null, .int (nI (0))] ∧ ∀ j, j ≠ 92 → w9 j = w_29 j := ⟨_, hW, up_s, fun j hj => up_n hj⟩
  have x93_30 := (o_30 (93) (by decide)).trans x93_29
  have x94_30 := (o_30 (94) (by decide)).trans x94_29
  have x95_30 := (o_30 (95) (by decide)).trans x95_29
  have x96_30 := (o_30 (96) (by decide)).trans x96_29
  have x97_30 := (o_30 (97) (by decide)).trans x97_29
  have x98_30 := (o_30 (98) (by decide)).trans x98_29
  have x99_30 := (o_30 (99) (by decide)).trans x99_29
  have x100_30 := (o_30 (100) (by decide)).trans x100_29
  have x101_30 := (o_30 (101) (by decide)).trans x101_29
  have x102_30 := (o_30 (102) (by decide)).trans x102_29
  have x103_30 := (o_30 (103) (by decide)).trans x103_29
  have x104_30 := (o_30 (104) (by decide)).trans x104_29
  have x105_30 := (o_30 (105) (by decide)).trans x105_29
  have x106_30 := (o_30 (106) (by decide)).trans x106_29
  have x107_30 := (o_30 (107) (by decide)).trans u_29
  have oo_30 : ∀ j, j < 92 → w_30 j = w j := fun j q => (o_30 j (by omega)).trans (oo_29 j q)
  refine lv_aload_n hx hb dX5_init_124 rfl (lv_at hl 0 rfl) ?_
  refine lv_bipush (v := nI 100) hx hb dX5_init_125 (by decide) ?_
  refine z_newL B hA hW hli (by omega) (cells := 15) (slots := 1313) (by have h1 := hli 93; have h2 := hli 108; omega) (N := 100) (by decide) (cells' := 16) (slots' := 1413) rfl rfl ⟨by decide, by decide⟩ dX5_init_127 (fun H hW => ?_)
  obtain ⟨w_31, hW, u_31, o_31⟩ : ∃ w9 : Nat → va_E, Wo G A s.heap (109) ad w9 H locs ∧ w9 (108) = eL G 100 (fun _ => lN 0) ∧ ∀ j, j ≠ 108 → w9 j = w_30 j := ⟨_, hW, up_s, fun j hj => up_n hj⟩
  have x92_31 := (o_31 (92) (by decide)).trans u_30
  have x93_31 := (o_31 (93) (by decide)).trans x93_30
  have x94_31 := (o_31 (94) (by decide)).trans x94_30
  have x95_31 := (o_31 (95) (by decide)).trans x95_30
  have x96_31 := (o_31 (96) (by decide)).trans x96_30
  have x97_31 := (o_31 (97) (by decide)).trans x97_30
  have x98_31 := (o_31 (98) (by decide)).trans x98_30
  have x99_31 := (o_31 (99) (by decide)).trans x99_30
  have x100_31 := (o_31 (100) (by decide)).trans x100_30
  have x101_31 := (o_31 (101) (by decide)).trans x101_30
  have x102_31 := (o_31 (102) (by decide)).trans x102_30
  have x103_31 := (o_31 (103) (by decide)).trans x103_30
  have x104_31 := (o_31 (104) (by decide)).trans x104_30
  have x105_31 := (o_31 (105) (by decide)).trans x105_30
  have x106_31 := (o_31 (106) (by decide)).trans x106_30
  have x107_31 := (o_31 (107) (by decide)).trans x107_30
  have oo_31 : ∀ j, j < 92 → w_31 j = w j := fun j q => (o_31 j (by omega)).trans (oo_30 j q)
  refine z_putF B hW (92) (by omega) x92_31 rfl inX5 tyX5 tyX5_ok nmX5 16 (by decide) hw_391 rfl rfl hin rfl (v := .ref (ad (108))) rfl rfl (Nat.le_of_ble_eq_true rfl) dX5_init_129 (fun H locs hW => ?_)
  obtain ⟨w_32, hW, u_32, o_32⟩ : ∃ w9 : Nat → va_E, Wo G A s.heap (109) ad w9 H locs ∧ w9 (92) = eO 3 [.ref (ad (93)), .ref (ad (94)), .ref (ad (95)), .ref (ad (96)), .int (nI (0)), .ref (ad (97)), .ref (ad (98)), .ref (ad (99)), .ref (ad (100)), .ref (ad (101)), .ref (ad (102)), .ref (ad (103)), .ref (ad (104)), .ref (ad (105)), .ref (ad (106)), .ref (ad (107)), .ref (ad (108)), .null, .null, .int (nI (0))] ∧ ∀ j, j ≠ 92 → w9 j = w_31 j := ⟨_, hW, up_s, fun j hj => up_n hj⟩
  have x93_32 := (o_32 (93) (by decide)).trans x93_31
  have x94_32 := (o_32 (94) (by decide)).trans x94_31
  have x95_32 := (o_32 (95) (by decide)).trans x95_31
  have x96_32 := (o_32 (96) (by decide)).trans x96_31
  have x97_32 := (o_32 (97) (by decide)).trans x97_31
  have x98_32 := (o_32 (98) (by decide)).trans x98_31
  have x99_32 := (o_32 (99) (by decide)).trans x99_31
  have x100_32 := (o_32 (100) (by decide)).trans x100_31
  have x101_32 := (o_32 (101) (by decide)).trans x101_31
  have x102_32 := (o_32 (102) (by decide)).trans x102_31
  have x103_32 := (o_32 (103) (by decide)).trans x103_31
  have x104_32 := (o_32 (104) (by decide)).trans x104_31
  have x105_32 := (o_32 (105) (by decide)).trans x105_31
  have x106_32 := (o_32 (106) (by decide)).trans x106_31
  have x107_32 := (o_32 (107) (by decide)).trans x107_31
  have x108_32 := (o_32 (108) (by decide)).trans u_31
  have oo_32 : ∀ j, j < 92 → w_32 j = w j := fun j q => (o_32 j (by omega)).trans (oo_31 j q)
  refine lv_aload_n hx hb dX5_init_132 rfl (lv_at hl 0 rfl) ?_
  refine lv_bipush (v := nI 48) hx hb dX5_init_133 (by decide) ?_
  refine z_newI B hA hW hli (by omega) (cells := 16) (slots := 1413) (by have h1 := hli 93; have h2 := hli 109; omega) (N := 48) (by decide) (cells' := 17) (slots' := 1461) rfl rfl ⟨by decide, by decide⟩ dX5_init_135 (fun H hW => ?_)
  obtain ⟨w_33, hW, u_33, o_33⟩ : ∃ w9 : Nat → va_E, Wo G A s.heap (110) ad w9 H locs ∧ w9 (109) = eI G 48 (fun _ => nI 0) ∧ ∀ j, j ≠ 109 → w9 j = w_32 j := ⟨_, hW, up_s, fun j hj => up_n hj⟩
  have x92_33 := (o_33 (92) (by decide)).trans u_32
  have x93_33 := (o_33 (93) (by decide)).trans x93_32
  have x94_33 := (o_33 (94) (by decide)).trans x94_32
  have x95_33 := (o_33 (95) (by decide)).trans x95_32
  have x96_33 := (o_33 (96) (by decide)).trans x96_32
  have x97_33 := (o_33 (97) (by decide)).trans x97_32
  have x98_33 := (o_33 (98) (by decide)).trans x98_32
  have x99_33 := (o_33 (99) (by decide)).trans x99_32
  have x100_33 := (o_33 (100) (by decide)).trans x100_32
  have x101_33 := (o_33 (101) (by decide)).trans x101_32
  have x102_33 := (o_33 (102) (by decide)).trans x102_32
  have x103_33 := (o_33 (103) (by decide)).trans x103_32
  have x104_33 := (o_33 (104) (by decide)).trans x104_32
  have x105_33 := (o_33 (105) (by decide)).trans x105_32
  have x106_33 := (o_33 (106) (by decide)).trans x106_32
  have x107_33 := (o_33 (107) (by decide)).trans x107_32
  have x108_33 := (o_33 (108) (by decide)).trans x108_32
  have oo_33 : ∀ j, j < 92 → w_33 j = w j := fun j q => (o_33 j (by omega)).trans (oo_32 j q)
  refine z_putF B hW (92) (by omega) x92_33 rfl inX5 tyX5 tyX5_ok nmX5 17 (by decide) hw_392 rfl rfl hin rfl (v := .ref (ad (109))) rfl rfl (Nat.le_of_ble_eq_true rfl) dX5_init_137 (fun H locs hW => ?_)
  obtain ⟨w_34, hW, u_34, o_34⟩ : ∃ w9 : Nat → va_E, Wo G A s.heap (110) ad w9 H locs ∧ w9 (92) = eO 3 [.ref (ad (93)), .ref (ad (94)), .ref (ad (95)), .ref (ad (96)), .int (nI (0)), .ref (ad (97)), .ref (ad (98)), .ref (ad (99)), .ref (ad (100)), .ref (ad (101)), .ref (ad (102)), .ref (ad (103)), .ref (ad (104)), .ref (ad (105)), .ref (ad (106)), .ref (ad (107)), .ref (ad (108)), .ref (ad (109)), .null, .int (nI (0))] ∧ ∀ j, j ≠ 92 → w9 j = w_33 j := ⟨_, hW, up_s, fun j hj => up_n hj⟩
  have x93_34 := (o_34 (93) (by decide)).trans x93_33
  have x94_34 := (o_34 (94) (by decide)).trans x94_33
  have x95_34 := (o_34 (95) (by decide)).trans x95_33
  have x96_34 := (o_34 (96) (by decide)).trans x96_33
  have x97_34 := (o_34 (97) (by decide)).trans x97_33
  have x98_34 := (o_34 (98) (by decide)).trans x98_33
  have x99_34 := (o_34 (99) (by decide)).trans x99_33
  have x100_34 := (o_34 (100) (by decide)).trans x100_33
  have x101_34 := (o_34 (101) (by decide)).trans x101_33
  have x102_34 := (o_34 (102) (by decide)).trans x102_33
  have x103_34 := (o_34 (103) (by decide)).trans x103_33
  have x104_34 := (o_34 (104) (by decide)).trans x104_33
  have x105_34 := (o_34 (105) (by decide)).trans x105_33
  have x106_34 := (o_34 (106) (by decide)).trans x106_33
  have x107_34 := (o_34 (107) (by decide)).trans x107_33
  have x108_34 := (o_34 (108) (by decide)).trans x108_33
  have x109_34 := (o_34 (109) (by decide)).trans u_33
  have oo_34 : ∀ j, j < 92 → w_34 j = w j := fun j q => (o_34 j (by omega)).trans (oo_33 j q)
  refine lv_aload_n hx hb dX5_init_140 rfl (lv_at hl 0 rfl) ?_
  refine lv_bipush (v := nI 48) hx hb dX5_init_141 (by decide) ?_
  refine z_newI B hA hW hli (by omega) (cells := 17) (slots := 1461) (by have h1 := hli 93; have h2 := hli 110; omega) (N := 48) (by decide) (cells' := 18) (slots' := 1509) rfl rfl ⟨by decide, by decide⟩ dX5_init_143 (fun H hW => ?_)
  obtain ⟨w_35, hW, u_35, o_35⟩ : ∃ w9 : Nat → va_E, Wo G A s.heap (111) ad w9 H locs ∧ w9 (110) = eI G 48 (fun _ => nI 0) ∧ ∀ j, j ≠ 110 → w9 j = w_34 j := ⟨_, hW, up_s, fun j hj => up_n hj⟩
  have x92_35 := (o_35 (92) (by decide)).trans u_34
  have x93_35 := (o_35 (93) (by decide)).trans x93_34
  have x94_35 := (o_35 (94) (by decide)).trans x94_34
  have x95_35 := (o_35 (95) (by decide)).trans x95_34
  have x96_35 := (o_35 (96) (by decide)).trans x96_34
  have x97_35 := (o_35 (97) (by decide)).trans x97_34
  have x98_35 := (o_35 (98) (by decide)).trans x98_34
  have x99_35 := (o_35 (99) (by decide)).trans x99_34
  have x100_35 := (o_35 (100) (by decide)).trans x100_34
  have x101_35 := (o_35 (101) (by decide)).trans x101_34
  have x102_35 := (o_35 (102) (by decide)).trans x102_34
  have x103_35 := (o_35 (103) (by decide)).trans x103_34
  have x104_35 := (o_35 (104) (by decide)).trans x104_34
  have x105_35 := (o_35 (105) (by decide)).trans x105_34
  have x106_35 := (o_35 (106) (by decide)).trans x106_34
  have x107_35 := (o_35 (107) (by decide)).trans x107_34
  have x108_35 := (o_35 (108) (by decide)).trans x108_34
  have x109_35 := (o_35 (109) (by decide)).trans x109_34
  have oo_35 : ∀ j, j < 92 → w_35 j = w j := fun j q => (o_35 j (by omega)).trans (oo_34 j q)
  refine z_putF B hW (92) (by omega) x92_35 rfl inX5 tyX5 tyX5_ok nmX5 18 (by decide) hw_393 rfl rfl hin rfl (v := .ref (ad (110))) rfl rfl (Nat.le_of_ble_eq_true rfl) dX5_init_145 (fun H locs hW => ?_)
  obtain ⟨w_36, hW, u_36, o_36⟩ : ∃ w9 : Nat → va_E, Wo G A s.heap (111) ad w9 H locs ∧ w9 (92) = eO 3 [.ref (ad (93)), .ref (ad (94)), .ref (ad (95)), .ref (ad (96)), .int (nI (0)), .ref (ad (97)), .ref (ad (98)), .ref (ad (99)), .ref (ad (100)), .ref (ad (101)), .ref (ad (102)), .ref (ad (103)), .ref (ad (104)), .ref (ad (105)), .ref (ad (106)), .ref (ad (107)), .ref (ad (108)), .ref (ad (109)), .ref (ad (110)), .int (nI (0))] ∧ ∀ j, j ≠ 92 → w9 j = w_35 j := ⟨_, hW, up_s, fun j hj => up_n hj⟩
  have x93_36 := (o_36 (93) (by decide)).trans x93_35
  have x94_36 := (o_36 (94) (by decide)).trans x94_35
  have x95_36 := (o_36 (95) (by decide)).trans x95_35
  have x96_36 := (o_36 (96) (by decide)).trans x96_35
  have x97_36 := (o_36 (97) (by decide)).trans x97_35
  have x98_36 := (o_36 (98) (by decide)).trans x98_35
  have x99_36 := (o_36 (99) (by decide)).trans x99_35
  have x100_36 := (o_36 (100) (by decide)).trans x100_35
  have x101_36 := (o_36 (101) (by decide)).trans x101_35
  have x102_36 := (o_36 (102) (by decide)).trans x102_35
  have x103_36 := (o_36 (103) (by decide)).trans x103_35
  have x104_36 := (o_36 (104) (by decide)).trans x104_35
  have x105_36 := (o_36 (105) (by decide)).trans x105_35
  have x106_36 := (o_36 (106) (by decide)).trans x106_35
  have x107_36 := (o_36 (107) (by decide)).trans x107_35
  have x108_36 := (o_36 (108) (by decide)).trans x108_35
  have x109_36 := (o_36 (109) (by decide)).trans x109_35
  have x110_36 := (o_36 (110) (by decide)).trans u_35
  have oo_36 : ∀ j, j < 92 → w_36 j = w j := fun j q => (o_36 j (by omega)).trans (oo_35 j q)
  refine lv_aload_n hx hb dX5_init_148 rfl (lv_at hl 0 rfl) ?_
  refine lv_iconst (v := -1) hx hb dX5_init_149 (by decide) ?_
  refine z_put B hW (92) (by omega) u_36 rfl inX5 tyX5 tyX5_ok nmX5 19 (by decide) hw_394 rfl rfl (v := .int (-1)) rfl rfl (Nat.le_of_ble_eq_true rfl) dX5_init_150 (fun H locs hW => ?_)
  obtain ⟨w_37, hW, u_37, o_37⟩ : ∃ w9 : Nat → va_E, Wo G A s.heap (111) ad w9 H locs ∧ w9 (92) = eO 3 [.ref (ad (93)), .ref (ad (94)), .ref (ad (95)), .ref (ad (96)), .int (nI (0)), .ref (ad (97)), .ref (ad (98)), .ref (ad (99)), .ref (ad (100)), .ref (ad (101)), .ref (ad (102)), .ref (ad (103)), .ref (ad (104)), .ref (ad (105)), .ref (ad (106)), .ref (ad (107)), .ref (ad (108)), .ref (ad (109)), .ref (ad (110)), .int (-1)] ∧ ∀ j, j ≠ 92 → w9 j = w_36 j := ⟨_, hW, up_s, fun j hj => up_n hj⟩
  have x93_37 := (o_37 (93) (by decide)).trans x93_36
  have x94_37 := (o_37 (94) (by decide)).trans x94_36
  have x95_37 := (o_37 (95) (by decide)).trans x95_36
  have x96_37 := (o_37 (96) (by decide)).trans x96_36
  have x97_37 := (o_37 (97) (by decide)).trans x97_36
  have x98_37 := (o_37 (98) (by decide)).trans x98_36
  have x99_37 := (o_37 (99) (by decide)).trans x99_36
  have x100_37 := (o_37 (100) (by decide)).trans x100_36
  have x101_37 := (o_37 (101) (by decide)).trans x101_36
  have x102_37 := (o_37 (102) (by decide)).trans x102_36
  have x103_37 := (o_37 (103) (by decide)).trans x103_36
  have x104_37 := (o_37 (104) (by decide)).trans x104_36
  have x105_37 := (o_37 (105) (by decide)).trans x105_36
  have x106_37 := (o_37 (106) (by decide)).trans x106_36
  have x107_37 := (o_37 (107) (by decide)).trans x107_36
  have x108_37 := (o_37 (108) (by decide)).trans x108_36
  have x109_37 := (o_37 (109) (by decide)).trans x109_36
  have x110_37 := (o_37 (110) (by decide)).trans x110_36
  have oo_37 : ∀ j, j < 92 → w_37 j = w j := fun j q => (o_37 j (by omega)).trans (oo_36 j q)
  refine lv_aload_n hx hb dX5_init_153 rfl (lv_at hl 0 rfl) ?_
  refine z_get B hW (92) (by omega) u_37 rfl inX5 6 (by decide) hw_381 rfl (v := .ref (ad (98))) rfl dX5_init_154 ?_
  refine lv_iconst (v := nI 2) hx hb dX5_init_157 (by decide) ?_
  refine n_ldc2 B hw_365 (x := lN 999979) (by decide) dX5_init_158 ?_
  refine call_sv B hA hW (k_M_fillSums l G 111 ad w_37 98 2 999979 (by decide) (by decide) (by decide) (by decide) ⟨_, x98_37⟩) mf_X5_fillSums hw_366 rfl ⟨⟨rfl, rfl⟩, by decide, by decide⟩ ⟨by decide, by decide⟩ hl.1 rfl (Nat.le_of_ble_eq_true rfl) dX5_init_161 (fun w_38 H locs hp hW => ?_)
  obtain ⟨o_38, g_38, u_38, l_38⟩ := hp
  have x92_38 := (o_38 (92) (by decide)).trans u_37
  have x93_38 := (o_38 (93) (by decide)).trans x93_37
  have x94_38 := (o_38 (94) (by decide)).trans x94_37
  have x95_38 := (o_38 (95) (by decide)).trans x95_37
  have x96_38 := (o_38 (96) (by decide)).trans x96_37
  have x97_38 := (o_38 (97) (by decide)).trans x97_37
  have x99_38 := (o_38 (99) (by decide)).trans x99_37
  have x100_38 := (o_38 (100) (by decide)).trans x100_37
  have x101_38 := (o_38 (101) (by decide)).trans x101_37
  have x102_38 := (o_38 (102) (by decide)).trans x102_37
  have x103_38 := (o_38 (103) (by decide)).trans x103_37
  have x104_38 := (o_38 (104) (by decide)).trans x104_37
  have x105_38 := (o_38 (105) (by decide)).trans x105_37
  have x106_38 := (o_38 (106) (by decide)).trans x106_37
  have x107_38 := (o_38 (107) (by decide)).trans x107_37
  have x108_38 := (o_38 (108) (by decide)).trans x108_37
  have x109_38 := (o_38 (109) (by decide)).trans x109_37
  have x110_38 := (o_38 (110) (by decide)).trans x110_37
  have oo_38 : ∀ j, j < 92 → w_38 j = w j := fun j q => (o_38 j (by omega)).trans (oo_37 j q)
  refine lv_aload_n hx hb dX5_init_164 rfl (lv_at hl 0 rfl) ?_
  refine z_get B hW (92) (by omega) x92_38 rfl inX5 7 (by decide) hw_382 rfl (v := .ref (ad (99))) rfl dX5_init_165 ?_
  refine lv_iconst (v := nI 4) hx hb dX5_init_168 (by decide) ?_
  refine n_ldc2 B hw_373 (x := lN 240) (by decide) dX5_init_169 ?_
  refine call_sv B hA hW (k_M_fillSums l G 111 ad w_38 99 4 240 (by decide) (by decide) (by decide) (by decide) ⟨_, x99_38⟩) mf_X5_fillSums hw_366 rfl ⟨⟨rfl, rfl⟩, by decide, by decide⟩ ⟨by decide, by decide⟩ hl.1 rfl (Nat.le_of_ble_eq_true rfl) dX5_init_172 (fun w_39 H locs hp hW => ?_)
  obtain ⟨o_39, g_39, u_39, l_39⟩ := hp
  have x92_39 := (o_39 (92) (by decide)).trans x92_38
  have x93_39 := (o_39 (93) (by decide)).trans x93_38
  have x94_39 := (o_39 (94) (by decide)).trans x94_38
  have x95_39 := (o_39 (95) (by decide)).trans x95_38
  have x96_39 := (o_39 (96) (by decide)).trans x96_38
  have x97_39 := (o_39 (97) (by decide)).trans x97_38
  have x98_39 := (o_39 (98) (by decide)).trans u_38
  have x100_39 := (o_39 (100) (by decide)).trans x100_38
  have x101_39 := (o_39 (101) (by decide)).trans x101_38
  have x102_39 := (o_39 (102) (by decide)).trans x102_38
  have x103_39 := (o_39 (103) (by decide)).trans x103_38
  have x104_39 := (o_39 (104) (by decide)).trans x104_38
  have x105_39 := (o_39 (105) (by decide)).trans x105_38
  have x106_39 := (o_39 (106) (by decide)).trans x106_38
  have x107_39 := (o_39 (107) (by decide)).trans x107_38
  have x108_39 := (o_39 (108) (by decide)).trans x108_38
  have x109_39 := (o_39 (109) (by decide)).trans x109_38
  have x110_39 := (o_39 (110) (by decide)).trans x110_38
  have oo_39 : ∀ j, j < 92 → w_39 j = w j := fun j q => (o_39 j (by omega)).trans (oo_38 j q)
  refine lv_aload_n hx hb dX5_init_175 rfl (lv_at hl 0 rfl) ?_
  refine z_get B hW (92) (by omega) x92_39 rfl inX5 8 (by decide) hw_383 rfl (v := .ref (ad (100))) rfl dX5_init_176 ?_
  refine lv_bipush (v := nI 6) hx hb dX5_init_179 (by decide) ?_
  refine n_ldc2 B hw_374 (x := lN 999499) (by decide) dX5_init_181 ?_
  refine call_sv B hA hW (k_M_fillSums l G 111 ad w_39 100 6 999499 (by decide) (by decide) (by decide) (by decide) ⟨_, x100_39⟩) mf_X5_fillSums hw_366 rfl ⟨⟨rfl, rfl⟩, by decide, by decide⟩ ⟨by decide, by decide⟩ hl.1 rfl (Nat.le_of_ble_eq_true rfl) dX5_init_184 (fun w_40 H locs hp hW => ?_)
  obtain ⟨o_40, g_40, u_40, l_40⟩ := hp
  have x92_40 := (o_40 (92) (by decide)).trans x92_39
  have x93_40 := (o_40 (93) (by decide)).trans x93_39
  have x94_40 := (o_40 (94) (by decide)).trans x94_39
  have x95_40 := (o_40 (95) (by decide)).trans x95_39
  have x96_40 := (o_40 (96) (by decide)).trans x96_39
  have x97_40 := (o_40 (97) (by decide)).trans x97_39
  have x98_40 := (o_40 (98) (by decide)).trans x98_39
  have x99_40 := (o_40 (99) (by decide)).trans u_39
  have x101_40 := (o_40 (101) (by decide)).trans x101_39
  have x102_40 := (o_40 (102) (by decide)).trans x102_39
  have x103_40 := (o_40 (103) (by decide)).trans x103_39
  have x104_40 := (o_40 (104) (by decide)).trans x104_39
  have x105_40 := (o_40 (105) (by decide)).trans x105_39
  have x106_40 := (o_40 (106) (by decide)).trans x106_39
  have x107_40 := (o_40 (107) (by decide)).trans x107_39
  have x108_40 := (o_40 (108) (by decide)).trans x108_39
  have x109_40 := (o_40 (109) (by decide)).trans x109_39
  have x110_40 := (o_40 (110) (by decide)).trans x110_39
  have oo_40 : ∀ j, j < 92 → w_40 j = w j := fun j q => (o_40 j (by omega)).trans (oo_39 j q)
  refine lv_iconst (v := nI 0) hx hb dX5_init_187 (by decide) ?_
  refine lv_istore_n (lv' := [(1, .int (nI (0))), (0, .ref (ad (92)))]) hx hb dX5_init_188 rfl hl (by decide) rfl (fun ls hl => ?_)
  refine z_up (Wg := fun H locs ls => W p l e (rz 5 18 1509) s m args below meth c H locs 18 1509 _ (F0 m 189 ls [])) (I := fun k H locs ls => ∃ (w2 : Nat → va_E) (f : Nat → Int64), Wo G A s.heap 111 ad w2 H locs ∧ lv_has ls 4 [(1, .int (nI k)), (0, .ref (ad 92))] ∧ (∀ j, j ≠ 101 → w2 j = w_40 j) ∧ w2 101 = eL G 48 f ∧ (∀ i, i < k → f i = lN (qS i))) (a := 0) (b := 48) (by decide) ?_ ?_ H locs ls ⟨w_40, _, hW, hl, fun _ _ => rfl, x101_40, fun i q => by omega⟩
  · rintro k - hk ih H locs ls ⟨w2, f, hW, hl, i1, i2, i3⟩
    have x92 : w2 92 = eO 3 [.ref (ad (93)), .ref (ad (94)), .ref (ad (95)), .ref (ad (96)), .int (nI (0)), .ref (ad (97)), .ref (ad (98)), .ref (ad (99)), .ref (ad (100)), .ref (ad (101)), .ref (ad (102)), .ref (ad (103)), .ref (ad (104)), .ref (ad (105)), .ref (ad (106)), .ref (ad (107)), .ref (ad (108)), .ref (ad (109)), .ref (ad (110)), .int (-1)] := (i1 92 (by decide)).trans x92_40
    refine lv_iload_n hx hb dX5_init_189 rfl (lv_at hl 0 rfl) ?_
    refine lv_bipush (v := nI 48) hx hb dX5_init_190 (by decide) ?_
    refine n_icmp_ge (tgt := 217) hx hb (by omega) (by omega) dX5_init_192 (by decide) (fun hc => ?_) (fun hc => ?_)
    · omega
    · refine lv_aload_n hx hb dX5_init_195 rfl (lv_at hl 1 rfl) ?_
      refine z_get B hW (92) (by omega) x92 rfl inX5 9 (by decide) hw_384 rfl (v := .ref (ad (101))) rfl dX5_init_196 ?_
      refine lv_iload_n hx hb dX5_init_199 rfl (lv_at hl 0 rfl) ?_
      refine lv_iload_n hx hb dX5_init_200 rfl (lv_at hl 0 rfl) ?_
      refine lv_iconst (v := nI 1) hx hb dX5_init_201 (by decide) ?_
      refine n_icmp_ne (tgt := 209) hx hb (by omega) (by omega) dX5_init_202 (by decide) (fun hd => ?_) (fun hd => ?_)
      · refine lv_lconst (v := lN 0) hx hb dX5_init_209 (by decide) ?_
        refine z_last B hW (101) (by omega) i2 (k) (by omega) (by decide) dX5_init_210 (fun H locs hW => ?_)
        refine lv_iinc (v := (nI (k + 1))) (lv' := [(1, .int (nI (k + 1))), (0, .ref (ad (92)))]) hx hb dX5_init_211 hl (k := 0) rfl (iinc1 _) (by decide) rfl (fun ls hl => ?_)
        refine lv_goto (tgt := 189) hx hb dX5_init_214 (by decide) ?_
        refine ih H locs ls ⟨_, _, hW, hl, fun j hj => by rw [up_n hj]; exact i1 j hj, up_s, fun i hi => ?_⟩
        by_cases q : i = k
        · subst q; rw [pk_uLs]; simp [qS, hd]
        · rw [pk_uLn q]; exact i3 i (by omega)
      · refine lv_lconst (v := lN 1) hx hb dX5_init_205 (by decide) ?_
        refine lv_goto (tgt := 210) hx hb dX5_init_206 (by decide) ?_
        refine z_last B hW (101) (by omega) i2 (k) (by omega) (by decide) dX5_init_210 (fun H locs hW => ?_)
        refine lv_iinc (v := (nI (k + 1))) (lv' := [(1, .int (nI (k + 1))), (0, .ref (ad (92)))]) hx hb dX5_init_211 hl (k := 0) rfl (iinc1 _) (by decide) rfl (fun ls hl => ?_)
        refine lv_goto (tgt := 189) hx hb dX5_init_214 (by decide) ?_
        refine ih H locs ls ⟨_, _, hW, hl, fun j hj => by rw [up_n hj]; exact i1 j hj, up_s, fun i hi => ?_⟩
        by_cases q : i = k
        · subst q; rw [pk_uLs]; simp [qS, hd]
        · rw [pk_uLn q]; exact i3 i (by omega)
  · rintro H locs ls ⟨w2, f, hW, hl, i1, i2, i3⟩
    refine lv_iload_n hx hb dX5_init_189 rfl (lv_at hl 0 rfl) ?_
    refine lv_bipush (v := nI 48) hx hb dX5_init_190 (by decide) ?_
    refine n_icmp_ge (tgt := 217) hx hb (by omega) (by omega) dX5_init_192 (by decide) (fun hc => ?_) (fun hc => ?_)
    · refine lv_iconst (v := nI 1) hx hb dX5_init_217 (by decide) ?_
      refine lv_istore_n (lv' := [(1, .int (nI (1))), (0, .ref (ad (92)))]) hx hb dX5_init_218 rfl hl (by decide) rfl (fun ls hl => ?_)
      refine z_up (Wg := fun H locs ls => W p l e (rz 5 18 1509) s m args below meth c H locs 18 1509 _ (F0 m 219 ls [])) (I := fun r H locs ls => ∃ (w2 : Nat → va_E), Wo G A s.heap 111 ad w2 H locs ∧ lv_has ls 4 [(1, .int (nI (r + 1))), (0, .ref (ad 92))] ∧ (∀ j, j ≠ 101 → w2 j = w_40 j) ∧ isL G w2 101 48 (prS r 0)) (a := 0) (b := 47) (by decide) ?_ ?_ H locs ls ⟨w2, hW, lv_sub hl [0, 1] rfl, i1, f, i2, by rw [prS_00]; exact i3⟩
      · rintro r - hr47 ih H locs ls ⟨w2, hW, hl, i1, i2⟩
        refine lv_iload_n hx hb dX5_init_219 rfl (lv_at hl 0 rfl) ?_
        refine lv_bipush (v := nI 48) hx hb dX5_init_220 (by decide) ?_
        refine n_icmp_ge (tgt := 288) hx hb (by omega) (by omega) dX5_init_222 (by decide) (fun hc => ?_) (fun hc => ?_)
        · omega
        · refine lv_iconst (v := nI 0) hx hb dX5_init_225 (by decide) ?_
          refine lv_istore_n (lv' := [(2, .int (nI (0))), (1, .int (nI (r + 1))), (0, .ref (ad (92)))]) hx hb dX5_init_226 rfl hl (by decide) rfl (fun ls hl => ?_)
          refine z_up (Wg := fun H locs ls => W p l e (rz 5 18 1509) s m args below meth c H locs 18 1509 _ (F0 m 227 ls [])) (I := fun t H locs ls => ∃ (w2 : Nat → va_E), Wo G A s.heap 111 ad w2 H locs ∧ lv_has ls 4 [(2, .int (nI t)), (1, .int (nI (r + 1))), (0, .ref (ad 92))] ∧ (∀ j, j ≠ 101 → w2 j = w_40 j) ∧ isL G w2 101 48 (prS r t)) (a := 0) (b := 24) (by decide) ?_ ?_ H locs ls ⟨w2, hW, hl, i1, i2⟩
          · rintro t - ht24 ih2 H locs ls ⟨w2, hW, hl, i1, f, i2, i3⟩
            refine lv_iload_n hx hb dX5_init_227 rfl (lv_at hl 0 rfl) ?_
            refine lv_bipush (v := nI 24) hx hb dX5_init_228 (by decide) ?_
            refine n_icmp_ge (tgt := 282) hx hb (by omega) (by omega) dX5_init_230 (by decide) (fun hc => ?_) (fun hc => ?_)
            · omega
            · refine lv_bipush (v := nI 47) hx hb dX5_init_233 (by decide) ?_
              refine lv_istore_n (lv' := [(3, .int (nI (47))), (2, .int (nI (t))), (1, .int (nI (r + 1))), (0, .ref (ad (92)))]) hx hb dX5_init_235 rfl hl (by decide) rfl (fun ls hl => ?_)
              refine z_dn (Wg := fun H locs ls => W p l e (rz 5 18 1509) s m args below meth c H locs 18 1509 _ (F0 m 236 ls [])) (I := fun u H locs ls => ∃ (w3 : Nat → va_E) (f3 : Nat → Int64), u ≤ 47 - r ∧ Wo G A s.heap 111 ad w3 H locs ∧ lv_has ls 4 [(3, .int (nI (r + u))), (2, .int (nI t)), (1, .int (nI (r + 1))), (0, .ref (ad 92))] ∧ (∀ j, j ≠ 101 → w3 j = w_40 j) ∧ w3 101 = eL G 48 f3 ∧ (∀ j, j ≤ r + u → j < 48 → f3 j = lN (prS r t j)) ∧ (∀ j, r + u < j → j < 48 → f3 j = lN (mulS (prS r t) (uS (r + 1)) j))) ?_ ?_ (47 - r) H locs ls ⟨w2, f, Nat.le_refl _, hW, (by rw [show r + (47 - r) = 47 by omega]; exact hl), i1, i2, fun j _ hj => i3 j hj, fun j q1 q2 => by omega⟩
              · rintro H locs ls ⟨w3, f3, -, hW, hl, g1, g2, g3, g4⟩
                refine lv_iload_n hx hb dX5_init_236 rfl (lv_at hl 0 rfl) ?_
                refine lv_iload_n hx hb dX5_init_237 rfl (lv_at hl 2 rfl) ?_
                refine n_icmp_lt (tgt := 276) hx hb (by omega) (by omega) dX5_init_238 (by decide) (fun hc => ?_) (fun hc => ?_)
                · refine lv_iinc (v := (nI (t + 1))) (lv' := [(2, .int (nI (t + 1))), (3, .int (nI (r + 0))), (1, .int (nI (r + 1))), (0, .ref (ad (92)))]) hx hb dX5_init_276 hl (k := 1) rfl (iinc1 _) (by decide) rfl (fun ls hl => ?_)
                  refine lv_goto (tgt := 227) hx hb dX5_init_279 (by decide) ?_
                  refine ih2 H locs ls ⟨w3, hW, lv_sub hl [0, 2, 3] rfl, g1, f3, g2, fun j hj => ?_⟩
                  rw [prS_t]
                  by_cases q : j ≤ r
                  · rw [g3 j q hj, mul_uS0 (by omega) (red_prS r t j)]
                  · exact g4 j (by omega) hj
                · omega
              · rintro u ih3 H locs ls ⟨w3, f3, hu, hW, hl, g1, g2, g3, g4⟩
                have q1 := red_prS r t (r + (u + 1))
                have q2 := red_prS r t (r + (u + 1) - (r + 1))
                have x92 : w3 92 = eO 3 [.ref (ad (93)), .ref (ad (94)), .ref (ad (95)), .ref (ad (96)), .int (nI (0)), .ref (ad (97)), .ref (ad (98)), .ref (ad (99)), .ref (ad (100)), .ref (ad (101)), .ref (ad (102)), .ref (ad (103)), .ref (ad (104)), .ref (ad (105)), .ref (ad (106)), .ref (ad (107)), .ref (ad (108)), .ref (ad (109)), .ref (ad (110)), .int (-1)] := (g1 92 (by decide)).trans x92_40
                refine lv_iload_n hx hb dX5_init_236 rfl (lv_at hl 0 rfl) ?_
                refine lv_iload_n hx hb dX5_init_237 rfl (lv_at hl 2 rfl) ?_
                refine n_icmp_lt (tgt := 276) hx hb (by omega) (by omega) dX5_init_238 (by decide) (fun hc => ?_) (fun hc => ?_)
                · omega
                · refine lv_aload_n hx hb dX5_init_241 rfl (lv_at hl 3 rfl) ?_
                  refine z_get B hW (92) (by omega) x92 rfl inX5 9 (by decide) hw_384 rfl (v := .ref (ad (101))) rfl dX5_init_242 ?_
                  refine lv_iload_n hx hb dX5_init_245 rfl (lv_at hl 0 rfl) ?_
                  refine lv_aload_n hx hb dX5_init_246 rfl (lv_at hl 3 rfl) ?_
                  refine z_get B hW (92) (by omega) x92 rfl inX5 9 (by decide) hw_384 rfl (v := .ref (ad (101))) rfl dX5_init_247 ?_
                  refine lv_iload_n hx hb dX5_init_250 rfl (lv_at hl 0 rfl) ?_
                  refine z_lald B hW (101) (by omega) g2 (r + (u + 1)) (by omega) (by decide) (v := (lN (prS r t (r + (u + 1))))) (g3 _ (by omega) (by omega)) dX5_init_251 ?_
                  refine n_ldc2 B hw_372 (x := lN 1000003) (by decide) dX5_init_252 ?_
                  refine n_ladd hx hb dX5_init_255 ?_
                  refine lv_aload_n hx hb dX5_init_256 rfl (lv_at hl 3 rfl) ?_
                  refine z_get B hW (92) (by omega) x92 rfl inX5 9 (by decide) hw_384 rfl (v := .ref (ad (101))) rfl dX5_init_257 ?_
                  refine lv_iload_n hx hb dX5_init_260 rfl (lv_at hl 0 rfl) ?_
                  refine lv_iload_n hx hb dX5_init_261 rfl (lv_at hl 2 rfl) ?_
                  refine n_isub hx hb (by omega) dX5_init_262 ?_
                  refine z_lald B hW (101) (by omega) g2 ((r + (u + 1)) - (r + 1)) (by omega) (by decide) (v := (lN (prS r t ((r + (u + 1)) - (r + 1))))) (g3 _ (by omega) (by omega)) dX5_init_263 ?_
                  refine n_lsub hx hb (by omega) dX5_init_264 ?_
                  refine n_ldc2 B hw_372 (x := lN 1000003) (by decide) dX5_init_265 ?_
                  refine n_lrem hx hb (by omega) (by omega) (by omega) dX5_init_268 ?_
                  refine topl (y := (lN (mulS (prS r t) (uS (r + 1)) (r + (u + 1))))) (by rw [rem_u q2, ← mul_uS (Nat.succ_pos r) (show r + 1 ≤ r + (u + 1) by omega)]) ?_
                  refine z_last B hW (101) (by omega) g2 (r + (u + 1)) (by omega) (by decide) dX5_init_269 (fun H locs hW => ?_)
                  refine lv_iinc (v := (nI (r + u))) (lv' := [(3, .int (nI (r + u))), (2, .int (nI (t))), (1, .int (nI (r + 1))), (0, .ref (ad (92)))]) hx hb dX5_init_270 hl (k := 0) rfl ((im1 _).trans (nI_pred _)) (by decide) rfl (fun ls hl => ?_)
                  refine lv_goto (tgt := 236) hx hb dX5_init_273 (by decide) ?_
                  refine ih3 H locs ls ⟨_, _, by omega, hW, hl, fun j hj => by rw [up_n hj]; exact g1 j hj, up_s, fun j q1 q2 => ?_, fun j q1 q2 => ?_⟩
                  · rw [pk_uLn (by omega)]; exact g3 j (by omega) q2
                  · by_cases q : j = r + (u + 1)
                    · subst q; rw [pk_uLs]
                    · rw [pk_uLn q]; exact g4 j (by omega) q2
          · rintro H locs ls ⟨w2, hW, hl, i1, i2⟩
            refine lv_iload_n hx hb dX5_init_227 rfl (lv_at hl 0 rfl) ?_
            refine lv_bipush (v := nI 24) hx hb dX5_init_228 (by decide) ?_
            refine n_icmp_ge (tgt := 282) hx hb (by omega) (by omega) dX5_init_230 (by decide) (fun hc => ?_) (fun hc => ?_)
            · refine lv_iinc (v := (nI (r + 1 + 1))) (lv' := [(1, .int (nI (r + 1 + 1))), (2, .int (nI (24))), (0, .ref (ad (92)))]) hx hb dX5_init_282 hl (k := 1) rfl (iinc1 _) (by decide) rfl (fun ls hl => ?_)
              refine lv_goto (tgt := 219) hx hb dX5_init_285 (by decide) ?_
              exact ih H locs ls ⟨w2, hW, lv_sub hl [0, 2] rfl, i1, by rw [← prS_r]; exact i2⟩
            · omega
      · rintro H locs ls ⟨w2, hW, hl, i1, i2⟩
        rw [prS_end] at i2
        refine lv_iload_n hx hb dX5_init_219 rfl (lv_at hl 0 rfl) ?_
        refine lv_bipush (v := nI 48) hx hb dX5_init_220 (by decide) ?_
        refine n_icmp_ge (tgt := 288) hx hb (by omega) (by omega) dX5_init_222 (by decide) (fun hc => ?_) (fun hc => ?_)
        · exact ret_zv B hr hlk hW ⟨⟨(i1 92 (by decide)).trans x92_40, ⟨_, (i1 93 (by decide)).trans x93_40, fun i (q : i < 0) => absurd q (Nat.not_lt_zero i)⟩, ⟨_, (i1 94 (by decide)).trans x94_40, fun i (q : i < 0) => absurd q (Nat.not_lt_zero i)⟩, ⟨_, (i1 95 (by decide)).trans x95_40, fun i (q : i < 0) => absurd q (Nat.not_lt_zero i)⟩, ⟨_, (i1 96 (by decide)).trans x96_40, fun i (q : i < 0) => absurd q (Nat.not_lt_zero i)⟩, ⟨_, (i1 97 (by decide)).trans x97_40, fun i _ _ => rfl⟩, ⟨_, (i1 98 (by decide)).trans x98_40, l_38⟩, ⟨_, (i1 99 (by decide)).trans x99_40, l_39⟩, ⟨_, (i1 100 (by decide)).trans u_40, l_40⟩, i2, ⟨_, (i1 102 (by decide)).trans x102_40⟩, ⟨_, (i1 103 (by decide)).trans x103_40⟩, ⟨_, (i1 104 (by decide)).trans x104_40⟩, ⟨_, (i1 105 (by decide)).trans x105_40⟩, ⟨_, (i1 106 (by decide)).trans x106_40⟩, ⟨_, (i1 107 (by decide)).trans x107_40⟩, ⟨_, (i1 108 (by decide)).trans x108_40⟩, ⟨_, (i1 109 (by decide)).trans x109_40, fun i (q : i < 0) => absurd q (Nat.not_lt_zero i)⟩, ⟨_, (i1 110 (by decide)).trans x110_40⟩⟩, fun j q => (i1 j (by omega)).trans (oo_40 j q)⟩ (by decide) (by decide) dX5_init_288
        · omega
    · omega
