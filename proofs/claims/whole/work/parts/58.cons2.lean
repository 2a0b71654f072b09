set_option maxHeartbeats 4000000 in
set_option maxRecDepth 100000 in
theorem k_X0_init (l : Launch) (G : zG) (ad : Nat → Nat) (w : Nat → va_E) (hli : lin ad) (h2 : w 2 = eO 0 [.null, .null, .null, .null, .null, .null, .null, .int (nI 0)]) :
    Cz l G yX0_init cdX0_init 4 52 2438 3 55 ad w [.ref (ad 2)] (fun w' => BOK G ad w' 0 0 ∧ ∀ j, j < 2 → w' j = w j) := by
  refine ent_z (cc := cX0_init) (maxL := 3) (ret := none) (by decide +kernel) rfl (Nat.le_of_ble_eq_true rfl) ?_
  intro p e s m args below meth c A B hE hr hlk hin hA hs0 H locs ls hW hl
  have hx := B.1
  have hb := B.2.1
  have hl : lv_has ls 3 [(0, .ref (ad (2)))] := hl
  refine lv_aload_n hx hb dX0_init_0 rfl (lv_at hl 0 rfl) ?_
  refine z_obj B hl.1 hw_24 dX0_init_1 ⟨by decide, by decide⟩ (Nat.le_of_ble_eq_true rfl) ?_
  refine lv_aload_n hx hb dX0_init_4 rfl (lv_at hl 0 rfl) ?_
  refine lv_bipush (v := nI 48) hx hb dX0_init_5 (by decide) ?_
  refine z_newL B hA hW hli (by omega) (cells := 0) (slots := 0) (by have h1 := hli 3; have h2 := hli 3; omega) (N := 48) (by decide) (cells' := 1) (slots' := 48) rfl rfl ⟨by decide, by decide⟩ dX0_init_7 (fun H hW => ?_)
  obtain ⟨w_1, hW, u_1, o_1⟩ : ∃ w9 : Nat → va_E, Wo G A s.heap (4) ad w9 H locs ∧ w9 (3) = eL G 48 (fun _ => lN 0) ∧ ∀ j, j ≠ 3 → w9 j = w j := ⟨_, hW, up_s, fun j hj => up_n hj⟩
  have x2_1 := (o_1 (2) (by decide)).trans h2
  have x0_1 := (o_1 (0) (by decide)).trans (rfl : w 0 = w 0)
  have x1_1 := (o_1 (1) (by decide)).trans (rfl : w 1 = w 1)
  refine z_putF B hW (2) (by omega) x2_1 rfl inX0 tyX0 tyX0_ok nmX0 0 (by decide) hw_63 rfl rfl hin rfl (v := .ref (ad (3))) rfl rfl (Nat.le_of_ble_eq_true rfl) dX0_init_9 (fun H locs hW => ?_)
  obtain ⟨w_2, hW, u_2, o_2⟩ : ∃ w9 : Nat → va_E, Wo G A s.heap (4) ad w9 H locs ∧ w9 (2) = eO 0 [.ref (ad (3)), .null, .null, .null, .null, .null, .null, .int (nI (0))] ∧ ∀ j, j ≠ 2 → w9 j = w_1 j := ⟨_, hW, up_s, fun j hj => up_n hj⟩
  have x0_2 := (o_2 (0) (by decide)).trans x0_1
  have x1_2 := (o_2 (1) (by decide)).trans x1_1
  have x3_2 := (o_2 (3) (by decide)).trans u_1
  refine lv_aload_n hx hb dX0_init_12 rfl (lv_at hl 0 rfl) ?_
  refine lv_bipush (v := nI 48) hx hb dX0_init_13 (by decide) ?_
  refine z_newL B hA hW hli (by omega) (cells := 1) (slots := 48) (by have h1 := hli 3; have h2 := hli 4; omega) (N := 48) (by decide) (cells' := 2) (slots' := 96) rfl rfl ⟨by decide, by decide⟩ dX0_init_15 (fun H hW => ?_)
  obtain ⟨w_3, hW, u_3, o_3⟩ : ∃ w9 : Nat → va_E, Wo G A s.heap (5) ad w9 H locs ∧ w9 (4) = eL G 48 (fun _ => lN 0) ∧ ∀ j, j ≠ 4 → w9 j = w_2 j := ⟨_, hW, up_s, fun j hj => up_n hj⟩
  have x2_3 := (o_3 (2) (by decide)).trans u_2
  have x0_3 := (o_3 (0) (by decide)).trans x0_2
  have x1_3 := (o_3 (1) (by decide)).trans x1_2
  have x3_3 := (o_3 (3) (by decide)).trans x3_2
  refine z_putF B hW (2) (by omega) x2_3 rfl inX0 tyX0 tyX0_ok nmX0 1 (by decide) hw_65 rfl rfl hin rfl (v := .ref (ad (4))) rfl rfl (Nat.le_of_ble_eq_true rfl) dX0_init_17 (fun H locs hW => ?_)
  obtain ⟨w_4, hW, u_4, o_4⟩ : ∃ w9 : Nat → va_E, Wo G A s.heap (5) ad w9 H locs ∧ w9 (2) = eO 0 [.ref (ad (3)), .ref (ad (4)), .null, .null, .null, .null, .null, .int (nI (0))] ∧ ∀ j, j ≠ 2 → w9 j = w_3 j := ⟨_, hW, up_s, fun j hj => up_n hj⟩
  have x0_4 := (o_4 (0) (by decide)).trans x0_3
  have x1_4 := (o_4 (1) (by decide)).trans x1_3
  have x3_4 := (o_4 (3) (by decide)).trans x3_3
  have x4_4 := (o_4 (4) (by decide)).trans u_3
  refine lv_aload_n hx hb dX0_init_20 rfl (lv_at hl 0 rfl) ?_
  refine lv_bipush (v := nI 48) hx hb dX0_init_21 (by decide) ?_
  refine z_newL B hA hW hli (by omega) (cells := 2) (slots := 96) (by have h1 := hli 3; have h2 := hli 5; omega) (N := 48) (by decide) (cells' := 3) (slots' := 144) rfl rfl ⟨by decide, by decide⟩ dX0_init_23 (fun H hW => ?_)
  obtain ⟨w_5, hW, u_5, o_5⟩ : ∃ w9 : Nat → va_E, Wo G A s.heap (6) ad w9 H locs ∧ w9 (5) = eL G 48 (fun _ => lN 0) ∧ ∀ j, j ≠ 5 → w9 j = w_4 j := ⟨_, hW, up_s, fun j hj => up_n hj⟩
  have x2_5 := (o_5 (2) (by decide)).trans u_4
  have x0_5 := (o_5 (0) (by decide)).trans x0_4
  have x1_5 := (o_5 (1) (by decide)).trans x1_4
  have x3_5 := (o_5 (3) (by decide)).trans x3_4
  have x4_5 := (o_5 (4) (by decide)).trans x4_4
  refine z_putF B hW (2) (by omega) x2_5 rfl inX0 tyX0 tyX0_ok nmX0 2 (by decide) hw_67 rfl rfl hin rfl (v := .ref (ad (5))) rfl rfl (Nat.le_of_ble_eq_true rfl) dX0_init_25 (fun H locs hW => ?_)
  obtain ⟨w_6, hW, u_6, o_6⟩ : ∃ w9 : Nat → va_E, Wo G A s.heap (6) ad w9 H locs ∧ w9 (2) = eO 0 [.ref (ad (3)), .ref (ad (4)), .ref (ad (5)), .null, .null, .null, .null, .int (nI (0))] ∧ ∀ j, j ≠ 2 → w9 j = w_5 j := ⟨_, hW, up_s, fun j hj => up_n hj⟩
  have x0_6 := (o_6 (0) (by decide)).trans x0_5
  have x1_6 := (o_6 (1) (by decide)).trans x1_5
  have x3_6 := (o_6 (3) (by decide)).trans x3_5
  have x4_6 := (o_6 (4) (by decide)).trans x4_5
  have x5_6 := (o_6 (5) (by decide)).trans u_5
  refine lv_aload_n hx hb dX0_init_28 rfl (lv_at hl 0 rfl) ?_
  refine lv_bipush (v := nI 48) hx hb dX0_init_29 (by decide) ?_
  refine z_newL B hA hW hli (by omega) (cells := 3) (slots := 144) (by have h1 := hli 3; have h2 := hli 6; omega) (N := 48) (by decide) (cells' := 4) (slots' := 192) rfl rfl ⟨by decide, by decide⟩ dX0_init_31 (fun H hW => ?_)
  obtain ⟨w_7, hW, u_7, o_7⟩ : ∃ w9 : Nat → va_E, Wo G A s.heap (7) ad w9 H locs ∧ w9 (6) = eL G 48 (fun _ => lN 0) ∧ ∀ j, j ≠ 6 → w9 j = w_6 j := ⟨_, hW, up_s, fun j hj => up_n hj⟩
  have x2_7 := (o_7 (2) (by decide)).trans u_6
  have x0_7 := (o_7 (0) (by decide)).trans x0_6
  have x1_7 := (o_7 (1) (by decide)).trans x1_6
  have x3_7 := (o_7 (3) (by decide)).trans x3_6
  have x4_7 := (o_7 (4) (by decide)).trans x4_6
  have x5_7 := (o_7 (5) (by decide)).trans x5_6
  refine z_putF B hW (2) (by omega) x2_7 rfl inX0 tyX0 tyX0_ok nmX0 3 (by decide) hw_68 rfl rfl hin rfl (v := .ref (ad (6))) rfl rfl (Nat.le_of_ble_eq_true rfl) dX0_init_33 (fun H locs hW => ?_)
  obtain ⟨w_8, hW, u_8, o_8⟩ : ∃ w9 : Nat → va_E, Wo G A s.heap (7) ad w9 H locs ∧ w9 (2) = eO 0 [.ref (ad (3)), .ref (ad (4)), .ref (ad (5)), .ref (ad (6)), .null, .null, .null, .int (nI (0))] ∧ ∀ j, j ≠ 2 → w9 j = w_7 j := ⟨_, hW, up_s, fun j hj => up_n hj⟩
  have x0_8 := (o_8 (0) (by decide)).trans x0_7
  have x1_8 := (o_8 (1) (by decide)).trans x1_7
  have x3_8 := (o_8 (3) (by decide)).trans x3_7
  have x4_8 := (o_8 (4) (by decide)).trans x4_7
  have x5_8 := (o_8 (5) (by decide)).trans x5_7
  have x6_8 := (o_8 (6) (by decide)).trans u_7
  refine lv_aload_n hx hb dX0_init_36 rfl (lv_at hl 0 rfl) ?_
  refine lv_bipush (v := nI 21) hx hb dX0_init_37 (by decide) ?_
  refine z_newI B hA hW hli (by omega) (cells := 4) (slots := 192) (by have h1 := hli 3; have h2 := hli 7; omega) (N := 21) (by decide) (cells' := 5) (slots' := 213) rfl rfl ⟨by decide, by decide⟩ dX0_init_39 (fun H hW => ?_)
  obtain ⟨w_9, hW, u_9, o_9⟩ : ∃ w9 : Nat → va_E, Wo G A s.heap (8) ad w9 H locs ∧ w9 (7) = eI G 21 (fun _ => nI 0) ∧ ∀ j, j ≠ 7 → w9 j = w_8 j := ⟨_, hW, up_s, fun j hj => up_n hj⟩
  have x2_9 := (o_9 (2) (by decide)).trans u_8
  have x0_9 := (o_9 (0) (by decide)).trans x0_8
  have x1_9 := (o_9 (1) (by decide)).trans x1_8
  have x3_9 := (o_9 (3) (by decide)).trans x3_8
  have x4_9 := (o_9 (4) (by decide)).trans x4_8
  have x5_9 := (o_9 (5) (by decide)).trans x5_8
  have x6_9 := (o_9 (6) (by decide)).trans x6_8
  refine z_putF B hW (2) (by omega) x2_9 rfl inX0 tyX0 tyX0_ok nmX0 4 (by decide) hw_69 rfl rfl hin rfl (v := .ref (ad (7))) rfl rfl (Nat.le_of_ble_eq_true rfl) dX0_init_41 (fun H locs hW => ?_)
  obtain ⟨w_10, hW, u_10, o_10⟩ : ∃ w9 : Nat → va_E, Wo G A s.heap (8) ad w9 H locs ∧ w9 (2) = eO 0 [.ref (ad (3)), .ref (ad (4)), .ref (ad (5)), .ref (ad (6)), .ref (ad (7)), .null, .null, .int (nI (0))] ∧ ∀ j, j ≠ 2 → w9 j = w_9 j := ⟨_, hW, up_s, fun j hj => up_n hj⟩
  have x0_10 := (o_10 (0) (by decide)).trans x0_9
  have x1_10 := (o_10 (1) (by decide)).trans x1_9
  have x3_10 := (o_10 (3) (by decide)).trans x3_9
  have x4_10 := (o_10 (4) (by decide)).trans x4_9
  have x5_10 := (o_10 (5) (by decide)).trans x5_9
  have x6_10 := (o_10 (6) (by decide)).trans x6_9
  have x7_10 := (o_10 (7) (by decide)).trans u_9
  refine lv_aload_n hx hb dX0_init_44 rfl (lv_at hl 0 rfl) ?_
  refine lv_bipush (v := nI 21) hx hb dX0_init_45 (by decide) ?_
  refine z_newI B hA hW hli (by omega) (cells := 5) (slots := 213) (by have h1 := hli 3; have h2 := hli 8; omega) (N := 21) (by decide) (cells' := 6) (slots' := 234) rfl rfl ⟨by decide, by decide⟩ dX0_init_47 (fun H hW => ?_)
  obtain ⟨w_11, hW, u_11, o_11⟩ : ∃ w9 : Nat → va_E, Wo G A s.heap (9) ad w9 H locs ∧ w9 (8) = eI G 21 (fun _ => nI 0) ∧ ∀ j, j ≠ 8 → w9 j = w_10 j := ⟨_, hW, up_s, fun j hj => up_n hj⟩
  have x2_11 := (o_11 (2) (by decide)).trans u_10
  have x0_11 := (o_11 (0) (by decide)).trans x0_10
  have x1_11 := (o_11 (1) (by decide)).trans x1_10
  have x3_11 := (o_11 (3) (by decide)).trans x3_10
  have x4_11 := (o_11 (4) (by decide)).trans x4_10
  have x5_11 := (o_11 (5) (by decide)).trans x5_10
  have x6_11 := (o_11 (6) (by decide)).trans x6_10
  have x7_11 := (o_11 (7) (by decide)).trans x7_10
  refine z_putF B hW (2) (by omega) x2_11 rfl inX0 tyX0 tyX0_ok nmX0 5 (by decide) hw_70 rfl rfl hin rfl (v := .ref (ad (8))) rfl rfl (Nat.le_of_ble_eq_true rfl) dX0_init_49 (fun H locs hW => ?_)
  obtain ⟨w_12, hW, u_12, o_12⟩ : ∃ w9 : Nat → va_E, Wo G A s.heap (9) ad w9 H locs ∧ w9 (2) = eO 0 [.ref (ad (3)), .ref (ad (4)), .ref (ad (5)), .ref (ad (6)), .ref (ad (7)), .ref (ad (8)), .null, .int (nI (0))] ∧ ∀ j, j ≠ 2 → w9 j = w_11 j := ⟨_, hW, up_s, fun j hj => up_n hj⟩
  have x0_12 := (o_12 (0) (by decide)).trans x0_11
  have x1_12 := (o_12 (1) (by decide)).trans x1_11
  have x3_12 := (o_12 (3) (by decide)).trans x3_11
  have x4_12 := (o_12 (4) (by decide)).trans x4_11
  have x5_12 := (o_12 (5) (by decide)).trans x5_11
  have x6_12 := (o_12 (6) (by decide)).trans x6_11
  have x7_12 := (o_12 (7) (by decide)).trans x7_11
  have x8_12 := (o_12 (8) (by decide)).trans u_11
  refine n_ldc2 B hw_25 (x := lZ (-24)) (by decide) dX0_init_52 ?_
  refine call_sl B hA hW (k_rest l G 9 ad w_12 (-24) (by decide) (by decide)) mf_X2_rest hw_26 rfl ⟨⟨rfl, rfl⟩, by decide, by decide⟩ ⟨by decide, by decide⟩ hl.1 rfl (Nat.le_of_ble_eq_true rfl) dX0_init_55 (fun r9 w9 H locs hp hW => ?_)
  obtain ⟨e1, e2⟩ := hp
  rw [e1] at hW
  rw [show zm (-24) = 999979 by decide] at e2
  subst e2
  refine lv_iconst (v := nI 1) hx hb dX0_init_58 (by decide) ?_
  refine lv_aload_n hx hb dX0_init_59 rfl (lv_at hl 0 rfl) ?_
  refine z_get B hW (2) (by omega) u_12 rfl inX0 0 (by decide) hw_63 rfl (v := .ref (ad (3))) rfl dX0_init_60 ?_
  refine call_sv B hA hW (k_putSums l G 9 ad w_12 3 999979 1 (by decide) (by decide) (by decide) ⟨_, x3_12⟩) mf_X3_putSums hw_33 rfl ⟨⟨rfl, rfl⟩, by decide, by decide⟩ ⟨by decide, by decide⟩ hl.1 rfl (Nat.le_of_ble_eq_true rfl) dX0_init_63 (fun w_13 H locs hp hW => ?_)
  obtain ⟨o_13, g_13, u_13, l_13⟩ := hp
  have x2_13 := (o_13 (2) (by decide)).trans u_12
  have x0_13 := (o_13 (0) (by decide)).trans x0_12
  have x1_13 := (o_13 (1) (by decide)).trans x1_12
  have x4_13 := (o_13 (4) (by decide)).trans x4_12
  have x5_13 := (o_13 (5) (by decide)).trans x5_12
  have x6_13 := (o_13 (6) (by decide)).trans x6_12
  have x7_13 := (o_13 (7) (by decide)).trans x7_12
  have x8_13 := (o_13 (8) (by decide)).trans x8_12
  refine n_ldc2 B hw_43 (x := lN 240) (by decide) dX0_init_66 ?_
  refine lv_iconst (v := nI 3) hx hb dX0_init_69 (by decide) ?_
  refine lv_aload_n hx hb dX0_init_70 rfl (lv_at hl 0 rfl) ?_
  refine z_get B hW (2) (by omega) x2_13 rfl inX0 2 (by decide) hw_67 rfl (v := .ref (ad (5))) rfl dX0_init_71 ?_
  refine call_sv B hA hW (k_putSums l G 9 ad w_13 5 240 3 (by decide) (by decide) (by decide) ⟨_, x5_13⟩) mf_X3_putSums hw_33 rfl ⟨⟨rfl, rfl⟩, by decide, by decide⟩ ⟨by decide, by decide⟩ hl.1 rfl (Nat.le_of_ble_eq_true rfl) dX0_init_74 (fun w_14 H locs hp hW => ?_)
  obtain ⟨o_14, g_14, u_14, l_14⟩ := hp
  have x2_14 := (o_14 (2) (by decide)).trans x2_13
  have x0_14 := (o_14 (0) (by decide)).trans x0_13
  have x1_14 := (o_14 (1) (by decide)).trans x1_13
  have x3_14 := (o_14 (3) (by decide)).trans u_13
  have x4_14 := (o_14 (4) (by decide)).trans x4_13
  have x6_14 := (o_14 (6) (by decide)).trans x6_13
  have x7_14 := (o_14 (7) (by decide)).trans x7_13
  have x8_14 := (o_14 (8) (by decide)).trans x8_13
  refine n_ldc2 B hw_44 (x := lZ (-504)) (by decide) dX0_init_77 ?_
  refine call_sl B hA hW (k_rest l G 9 ad w_14 (-504) (by decide) (by decide)) mf_X2_rest hw_26 rfl ⟨⟨rfl, rfl⟩, by decide, by decide⟩ ⟨by decide, by decide⟩ hl.1 rfl (Nat.le_of_ble_eq_true rfl) dX0_init_80 (fun r9 w9 H locs hp hW => ?_)
  obtain ⟨e1, e2⟩ := hp
  rw [e1] at hW
  rw [show zm (-504) = 999499 by decide] at e2
  subst e2
  refine lv_iconst (v := nI 5) hx hb dX0_init_83 (by decide) ?_
  refine lv_aload_n hx hb dX0_init_84 rfl (lv_at hl 0 rfl) ?_
  refine z_get B hW (2) (by omega) x2_14 rfl inX0 3 (by decide) hw_68 rfl (v := .ref (ad (6))) rfl dX0_init_85 ?_
  refine call_sv B hA hW (k_putSums l G 9 ad w_14 6 999499 5 (by decide) (by decide) (by decide) ⟨_, x6_14⟩) mf_X3_putSums hw_33 rfl ⟨⟨rfl, rfl⟩, by decide, by decide⟩ ⟨by decide, by decide⟩ hl.1 rfl (Nat.le_of_ble_eq_true rfl) dX0_init_88 (fun w_15 H locs hp hW => ?_)
  obtain ⟨o_15, g_15, u_15, l_15⟩ := hp
  have x2_15 := (o_15 (2) (by decide)).trans x2_14
  have x0_15 := (o_15 (0) (by decide)).trans x0_14
  have x1_15 := (o_15 (1) (by decide)).trans x1_14
  have x3_15 := (o_15 (3) (by decide)).trans x3_14
  have x4_15 := (o_15 (4) (by decide)).trans x4_14
  have x5_15 := (o_15 (5) (by decide)).trans u_14
  have x7_15 := (o_15 (7) (by decide)).trans x7_14
  have x8_15 := (o_15 (8) (by decide)).trans x8_14
  refine lv_aload_n hx hb dX0_init_91 rfl (lv_at hl 0 rfl) ?_
  refine z_get B hW (2) (by omega) x2_15 rfl inX0 1 (by decide) hw_65 rfl (v := .ref (ad (4))) rfl dX0_init_92 ?_
  refine call_sz B hE hA hW hli (by omega) (cells := 6) (slots := 234) (by have h1 := hli 3; have h2 := hli 9; omega) (k_putD l G 9 ad w_15 hli 4 (by decide) ⟨_, x4_15⟩) mf_X3_putD hw_45 rfl ⟨by decide, by decide⟩ (cells' := 7) (slots' := 282) rfl rfl ⟨by decide, by decide⟩ hl.1 rfl (Nat.le_of_ble_eq_true rfl) dX0_init_95 (fun wp H locs hp hW => ?_)
  obtain ⟨o_16, g_16, u_16, l_16⟩ := hp
  have x2_16 := (o_16 (2) (by decide) (by decide)).trans x2_15
  have x0_16 := (o_16 (0) (by decide) (by decide)).trans x0_15
  have x1_16 := (o_16 (1) (by decide) (by decide)).trans x1_15
  have x3_16 := (o_16 (3) (by decide) (by decide)).trans x3_15
  have x5_16 := (o_16 (5) (by decide) (by decide)).trans x5_15
  have x6_16 := (o_16 (6) (by decide) (by decide)).trans u_15
  have x7_16 := (o_16 (7) (by decide) (by decide)).trans x7_15
  have x8_16 := (o_16 (8) (by decide) (by decide)).trans x8_15
  refine lv_iconst (v := nI 0) hx hb dX0_init_98 (by decide) ?_
  refine lv_istore_n (lv' := [(1, .int (nI (0))), (0, .ref (ad (2)))]) hx hb dX0_init_99 rfl hl (by decide) rfl (fun ls hl => ?_)
  refine lv_iconst (v := nI 0) hx hb dX0_init_100 (by decide) ?_
  refine lv_istore_n (lv' := [(2, .int (nI (0))), (1, .int (nI (0))), (0, .ref (ad (2)))]) hx hb dX0_init_101 rfl hl (by decide) rfl (fun ls hl => ?_)
  refine z_up (Wg := fun H locs ls => W p l e (rz 4 52 2438) s m args below meth c H locs 7 282 _ (F0 m 102 ls [])) (I := fun r H locs ls => ∃ (wq : Nat → va_E) (f7 f8 : Nat → Int32), Wo G A s.heap 10 ad wq H locs ∧ lv_has ls 3 [(2, .int (nI r)), (1, .int (nI (allT.getD r 0))), (0, .ref (ad 2))] ∧ (∀ j, j ≠ 7 → j ≠ 8 → wq j = wp j) ∧ wq 7 = eI G 21 f7 ∧ wq 8 = eI G 21 f8 ∧ (∀ h, h < r → f7 h = nI (szT.getD h 0)) ∧ (∀ h, h < r → f8 h = nI (fsT.getD h 0))) (a := 0) (b := 21) (by decide) ?_ ?_ H locs ls ⟨wp, _, _, hW, hl, fun _ _ _ => rfl, x7_16, x8_16, fun h q => by omega, fun h q => by omega⟩
  · rintro r - hr21 ih H locs ls ⟨wq, f7, f8, hW, hl, i1, i2, i3, i4, i5⟩
    obtain ⟨a1, a2, a3⟩ := all_step r hr21
    have x2 : wq 2 = eO 0 [.ref (ad 3), .ref (ad 4), .ref (ad 5), .ref (ad 6), .ref (ad 7), .ref (ad 8), .null, .int (nI 0)] := (i1 2 (by decide) (by decide)).trans x2_16
    refine lv_iload_n hx hb dX0_init_102 rfl (lv_at hl 0 rfl) ?_
    refine lv_aload_n hx hb dX0_init_103 rfl (lv_at hl 2 rfl) ?_
    refine z_get B hW (2) (by omega) x2 rfl inX0 4 (by decide) hw_69 rfl (v := .ref (ad (7))) rfl dX0_init_104 ?_
    refine z_alen B hW (7) (by omega) 0 i2 rfl dX0_init_107 ?_
    refine n_icmp_ge (tgt := 145) hx hb (by omega) (by omega) dX0_init_108 (by decide) (fun hc => ?_) (fun hc => ?_)
    · omega
    · refine lv_aload_n hx hb dX0_init_111 rfl (lv_at hl 2 rfl) ?_
      refine z_get B hW (2) (by omega) x2 rfl inX0 5 (by decide) hw_70 rfl (v := .ref (ad (8))) rfl dX0_init_112 ?_
      refine lv_iload_n hx hb dX0_init_115 rfl (lv_at hl 0 rfl) ?_
      refine lv_iload_n hx hb dX0_init_116 rfl (lv_at hl 1 rfl) ?_
      refine z_iast B hW (8) (by omega) i3 (r) (by omega) (by decide) dX0_init_117 (fun H locs hW => ?_)
      have x2b : va_up wq 8 (eI G 21 (upd f8 r (nI (allT.getD r 0)))) 2 = eO 0 [.ref (ad 3), .ref (ad 4), .ref (ad 5), .ref (ad 6), .ref (ad 7), .ref (ad 8), .null, .int (nI 0)] := (up_n (by decide)).trans x2
      have i2b : va_up wq 8 (eI G 21 (upd f8 r (nI (allT.getD r 0)))) 7 = eI G 21 f7 := (up_n (by decide)).trans i2
      refine lv_aload_n hx hb dX0_init_118 rfl (lv_at hl 2 rfl) ?_
      refine z_get B hW (2) (by omega) x2b rfl inX0 4 (by decide) hw_69 rfl (v := .ref (ad (7))) rfl dX0_init_119 ?_
      refine lv_iload_n hx hb dX0_init_122 rfl (lv_at hl 0 rfl) ?_
      refine lv_iconst (v := nI 2) hx hb dX0_init_123 (by decide) ?_
      refine lv_iload_n hx hb dX0_init_124 rfl (lv_at hl 0 rfl) ?_
      refine n_imul hx hb dX0_init_125 ?_
      refine call_si B hA hW (k_countSize l G 10 ad _ (2 * r) (by omega) (by omega)) mf_X0_countSize hw_58 rfl ⟨⟨rfl, rfl⟩, by decide, by decide⟩ ⟨by decide, by decide⟩ hl.1 rfl (Nat.le_of_ble_eq_true rfl) dX0_init_126 (fun r9 w9 H locs hp hW => ?_)
      obtain ⟨e1, e2⟩ := hp
      rw [e1] at hW
      rw [a3] at e2
      subst e2
      refine z_iast B hW (7) (by omega) i2b (r) (by omega) (by decide) dX0_init_129 (fun H locs hW => ?_)
      obtain ⟨wr, hW, ur, orr⟩ : ∃ w8 : Nat → va_E, Wo G A s.heap 10 ad w8 H locs ∧ w8 7 = eI G 21 (upd f7 r (nI (szT.getD r 0))) ∧ ∀ j, j ≠ 7 → w8 j = va_up wq 8 (eI G 21 (upd f8 r (nI (allT.getD r 0)))) j := ⟨_, hW, up_s, fun j hj => up_n hj⟩
      have x2c := (orr 2 (by decide)).trans x2b
      have x8c := (orr 8 (by decide)).trans up_s
      refine lv_iload_n hx hb dX0_init_130 rfl (lv_at hl 1 rfl) ?_
      refine lv_aload_n hx hb dX0_init_131 rfl (lv_at hl 2 rfl) ?_
      refine z_get B hW (2) (by omega) x2c rfl inX0 4 (by decide) hw_69 rfl (v := .ref (ad (7))) rfl dX0_init_132 ?_
      refine lv_iload_n hx hb dX0_init_135 rfl (lv_at hl 0 rfl) ?_
      refine z_iald B hW (7) (by omega) ur (r) (by omega) (by decide) (v := (nI (szT.getD r 0))) (by rw [pk_us]) dX0_init_136 ?_
      refine n_iadd hx hb dX0_init_137 ?_
      refine topi (y := (nI (allT.getD (r + 1) 0))) (by rw [a1]) ?_
      refine lv_istore_n (lv' := [(1, .int (nI (allT.getD (r + 1) 0))), (2, .int (nI (r))), (0, .ref (ad (2)))]) hx hb dX0_init_138 rfl hl (by decide) rfl (fun ls hl => ?_)
      refine lv_iinc (v := (nI (r + 1))) (lv' := [(2, .int (nI (r + 1))), (1, .int (nI (allT.getD (r + 1) 0))), (0, .ref (ad (2)))]) hx hb dX0_init_139 hl (k := 1) rfl (iinc1 _) (by decide) rfl (fun ls hl => ?_)
      refine lv_goto (tgt := 102) hx hb dX0_init_142 (by decide) ?_
      refine ih H locs ls ⟨wr, _, _, hW, lv_sub hl [0, 1, 2] rfl, fun j q1 q2 => (orr j q1).trans ((up_n q2).trans (i1 j q1 q2)), ur, x8c, fun h q => ?_, fun h q => ?_⟩
      · by_cases e : h = r
        · subst e; rw [pk_us]
        · rw [pk_un e]; exact i4 h (by omega)
      · by_cases e : h = r
        · subst e; rw [pk_us, a2]
        · rw [pk_un e]; exact i5 h (by omega)
  · rintro H locs ls ⟨wq, f7, f8, hW, hl, i1, i2, i3, i4, i5⟩
    have x2 : wq 2 = eO 0 [.ref (ad 3), .ref (ad 4), .ref (ad 5), .ref (ad 6), .ref (ad 7), .ref (ad 8), .null, .int (nI 0)] := (i1 2 (by decide) (by decide)).trans x2_16
    refine lv_iload_n hx hb dX0_init_102 rfl (lv_at hl 0 rfl) ?_
    refine lv_aload_n hx hb dX0_init_103 rfl (lv_at hl 2 rfl) ?_
    refine z_get B hW (2) (by omega) x2 rfl inX0 4 (by decide) hw_69 rfl (v := .ref (ad (7))) rfl dX0_init_104 ?_
    refine z_alen B hW (7) (by omega) 0 i2 rfl dX0_init_107 ?_
    refine n_icmp_ge (tgt := 145) hx hb (by omega) (by omega) dX0_init_108 (by decide) (fun hc => ?_) (fun hc => ?_)
    · refine lv_aload_n hx hb dX0_init_145 rfl (lv_at hl 2 rfl) ?_
      refine lv_iload_n hx hb dX0_init_146 rfl (lv_at hl 1 rfl) ?_
      refine topi (y := (nI (44))) rfl ?_
      refine lv_bipush (v := nI 48) hx hb dX0_init_147 (by decide) ?_
      refine z_mna B hE hA hW hli (by decide) (cells := 7) (slots := 282) (by have h1 := hli 3; have h2 := hli 10; omega) (N := 44) (K := 48) hw_61 (by decide) (by decide) (cells' := 52) (slots' := 2438) rfl rfl ⟨by decide, by decide⟩ dX0_init_149 (fun H hW => ?_)
      obtain ⟨wt, hW, t0, t10, t11⟩ : ∃ w8 : Nat → va_E, Wo G A s.heap 55 ad w8 H locs ∧ (∀ j, j < 10 → w8 j = wq j) ∧ w8 10 = eR G 44 (fun i => if i < 44 then some (ad (10 + 1 + i)) else none) ∧ ∀ i, i < 44 → w8 (11 + i) = eL G 48 (fun _ => lN 0) := ⟨_, hW, fun j hj => if_pos hj, rfl, fun i hi => (by show (if 11 + i < 10 then _ else if 11 + i = 10 then _ else _) = _; rw [if_neg (by omega), if_neg (by omega)])⟩
      have x2t := (t0 2 (by decide)).trans x2
      refine z_putF B hW (2) (by omega) x2t rfl inX0 tyX0 tyX0_ok nmX0 6 (by decide) hw_71 rfl rfl hin rfl (v := .ref (ad (10))) rfl rfl (Nat.le_of_ble_eq_true rfl) dX0_init_153 (fun H locs hW => ?_)
      refine ret_zv B hr hlk hW ⟨⟨up_s, ⟨_, (by rw [up_n (by decide), t0 3 (by decide), i1 3 (by decide) (by decide)]; exact x3_16), l_13⟩, ⟨_, (by rw [up_n (by decide), t0 4 (by decide), i1 4 (by decide) (by decide)]; exact u_16), l_16⟩, ⟨_, (by rw [up_n (by decide), t0 5 (by decide), i1 5 (by decide) (by decide)]; exact x5_16), l_14⟩, ⟨_, (by rw [up_n (by decide), t0 6 (by decide), i1 6 (by decide) (by decide)]; exact x6_16), l_15⟩, ⟨f7, (by rw [up_n (by decide), t0 7 (by decide)]; exact i2), i4⟩, ⟨f8, (by rw [up_n (by decide), t0 8 (by decide)]; exact i3), i5⟩, ⟨_, (up_n (by decide)).trans t10, fun i hi => ?_⟩, fun i hi => ⟨_, (up_n (by omega)).trans (t11 i hi)⟩, rfl, by decide, fun k i q1 => absurd q1 (Nat.not_lt_zero k)⟩, fun j hj => ?_⟩ (by decide) (by decide) dX0_init_156
      · show (if i < 44 then some (ad (10 + 1 + i)) else none) = _
        rw [if_pos hi]
      · rw [up_n (by omega), t0 j (by omega), i1 j (by omega) (by omega)]
        have q : j = 0 ∨ j = 1 := by omega
        rcases q with rfl | rfl
        · exact x0_16
        · exact x1_16
    · omega
