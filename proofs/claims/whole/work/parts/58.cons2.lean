set_option maxHeartbeats 4000000 in
set_option maxRecDepth 100000 in
theorem k_X0_init (l : Launch) (G : zG) (ad : Nat → Nat) (w : Nat → va_E) (hli : lin ad) (h2 : w 2 = eO 0 [.null, .null, .null, .null, .null, .null, .null, .int (nI 0)]) :
    Cz l G yX0_init cdX0_init 4 52 2438 3 55 ad w [.ref (ad 2)] (fun w' => BOK G ad w' 0 0 ∧ ∀ j, j < 2 → w' j = w j) := by
  refine ent_z (cc := cX0_init) (maxL := 3) (ret := none) (by decide +kernel) rfl (Nat.le_of_ble_eq_true rfl) ?_
  intro p e s m args below meth c A B hE hr hlk hin hA hs0 H locs ls hW hl
  have hx := B.1
  have hb := B.2.1
  have hl : lv_has ls 3 [(0, .ref (ad (2)))] := hl
  refine lv_aload_n hx hb dX0_init_0 rfl (lv_at hl 0 rfl) ?_
  refine z_obj B hl.1 hw_24 dX0_init_1 ⟨by decide, by decide⟩ (Nat.le_of_ble_eq_true rfl) ?_
  refine lv_aload_n hx hb dX0_init_4 rfl (lv_at hl 0 rfl) ?_
  refine n_ldc2 B hw_25 (x := lZ (-24)) (by decide) dX0_init_5 ?_
  refine call_sl B hA hW (k_rest l G 3 ad w (-24) (by decide) (by decide)) mf_X2_rest hw_26 rfl ⟨⟨rfl, rfl⟩, by decide, by decide⟩ ⟨by decide, by decide⟩ hl.1 rfl (Nat.le_of_ble_eq_true rfl) dX0_init_8 (fun r9 w9 H locs hp hW => ?_)
  obtain ⟨e1, e2⟩ := hp
  rw [e1] at hW
  rw [show zm (-24) = 999979 by decide] at e2
  subst e2
  refine lv_iconst (v := nI 1) hx hb dX0_init_11 (by decide) ?_
  refine call_szr B hE hA hW hli (by decide) (cells := 0) (slots := 0) (by have h1 := hli 3; have h2 := hli 3; omega) (k_newSums l G 3 ad w hli (by decide) 999979 1 (by decide) (by decide)) mf_X3_newSums hw_33 rfl ⟨by decide, by decide⟩ (cells' := 1) (slots' := 48) rfl rfl ⟨by decide, by decide⟩ hl.1 rfl (Nat.le_of_ble_eq_true rfl) dX0_init_12 (fun q_1 w_1 H locs hp hW => ?_)
  obtain ⟨rfl, o_1, g_1, u_1, l_1⟩ := hp
  have hW : Wo G A s.heap 4 ad w_1 H locs := hW
  have x2_1 := (o_1 (2) (by decide)).trans h2
  have x0_1 := (o_1 (0) (by decide)).trans (rfl : w 0 = w 0)
  have x1_1 := (o_1 (1) (by decide)).trans (rfl : w 1 = w 1)
  refine z_putF B hW (2) (by omega) x2_1 rfl inX0 tyX0 tyX0_ok nmX0 0 (by decide) hw_66 rfl rfl hin rfl (v := .ref (ad (3))) rfl rfl (Nat.le_of_ble_eq_true rfl) dX0_init_15 (fun H locs hW => ?_)
  obtain ⟨w_2, hW, u_2, o_2⟩ : ∃ w9 : Nat → va_E, Wo G A s.heap (4) ad w9 H locs ∧ w9 (2) = eO 0 [.ref (ad (3)), .null, .null, .null, .null, .null, .null, .int (nI (0))] ∧ ∀ j, j ≠ 2 → w9 j = w_1 j := ⟨_, hW, up_s, fun j hj => up_n hj⟩
  have x0_2 := (o_2 (0) (by decide)).trans x0_1
  have x1_2 := (o_2 (1) (by decide)).trans x1_1
  have x3_2 := (o_2 (3) (by decide)).trans u_1
  refine lv_aload_n hx hb dX0_init_18 rfl (lv_at hl 0 rfl) ?_
  refine call_szr B hE hA hW hli (by decide) (cells := 1) (slots := 48) (by have h1 := hli 3; have h2 := hli 4; omega) (k_newD l G 4 ad w_2 hli (by decide)) mf_X3_newD hw_46 rfl ⟨by decide, by decide⟩ (cells' := 3) (slots' := 144) rfl rfl ⟨by decide, by decide⟩ hl.1 rfl (Nat.le_of_ble_eq_true rfl) dX0_init_19 (fun q_3 w_3 H locs hp hW => ?_)
  obtain ⟨rfl, o_3, g_3, u_3, l_3⟩ := hp
  have hW : Wo G A s.heap 6 ad w_3 H locs := hW
  have x2_3 := (o_3 (2) (by decide)).trans u_2
  have x0_3 := (o_3 (0) (by decide)).trans x0_2
  have x1_3 := (o_3 (1) (by decide)).trans x1_2
  have x3_3 := (o_3 (3) (by decide)).trans x3_2
  refine z_putF B hW (2) (by omega) x2_3 rfl inX0 tyX0 tyX0_ok nmX0 1 (by decide) hw_68 rfl rfl hin rfl (v := .ref (ad (5))) rfl rfl (Nat.le_of_ble_eq_true rfl) dX0_init_22 (fun H locs hW => ?_)
  obtain ⟨w_4, hW, u_4, o_4⟩ : ∃ w9 : Nat → va_E, Wo G A s.heap (6) ad w9 H locs ∧ w9 (2) = eO 0 [.ref (ad (3)), .ref (ad (5)), .null, .null, .null, .null, .null, .int (nI (0))] ∧ ∀ j, j ≠ 2 → w9 j = w_3 j := ⟨_, hW, up_s, fun j hj => up_n hj⟩
  have x0_4 := (o_4 (0) (by decide)).trans x0_3
  have x1_4 := (o_4 (1) (by decide)).trans x1_3
  have x3_4 := (o_4 (3) (by decide)).trans x3_3
  have x5_4 := (o_4 (5) (by decide)).trans u_3
  refine lv_aload_n hx hb dX0_init_25 rfl (lv_at hl 0 rfl) ?_
  refine n_ldc2 B hw_59 (x := lN 240) (by decide) dX0_init_26 ?_
  refine lv_iconst (v := nI 3) hx hb dX0_init_29 (by decide) ?_
  refine call_szr B hE hA hW hli (by decide) (cells := 3) (slots := 144) (by have h1 := hli 3; have h2 := hli 6; omega) (k_newSums l G 6 ad w_4 hli (by decide) 240 3 (by decide) (by decide)) mf_X3_newSums hw_33 rfl ⟨by decide, by decide⟩ (cells' := 4) (slots' := 192) rfl rfl ⟨by decide, by decide⟩ hl.1 rfl (Nat.le_of_ble_eq_true rfl) dX0_init_30 (fun q_5 w_5 H locs hp hW => ?_)
  obtain ⟨rfl, o_5, g_5, u_5, l_5⟩ := hp
  have hW : Wo G A s.heap 7 ad w_5 H locs := hW
  have x2_5 := (o_5 (2) (by decide)).trans u_4
  have x0_5 := (o_5 (0) (by decide)).trans x0_4
  have x1_5 := (o_5 (1) (by decide)).trans x1_4
  have x3_5 := (o_5 (3) (by decide)).trans x3_4
  have x5_5 := (o_5 (5) (by decide)).trans x5_4
  refine z_putF B hW (2) (by omega) x2_5 rfl inX0 tyX0 tyX0_ok nmX0 2 (by decide) hw_70 rfl rfl hin rfl (v := .ref (ad (6))) rfl rfl (Nat.le_of_ble_eq_true rfl) dX0_init_33 (fun H locs hW => ?_)
  obtain ⟨w_6, hW, u_6, o_6⟩ : ∃ w9 : Nat → va_E, Wo G A s.heap (7) ad w9 H locs ∧ w9 (2) = eO 0 [.ref (ad (3)), .ref (ad (5)), .ref (ad (6)), .null, .null, .null, .null, .int (nI (0))] ∧ ∀ j, j ≠ 2 → w9 j = w_5 j := ⟨_, hW, up_s, fun j hj => up_n hj⟩
  have x0_6 := (o_6 (0) (by decide)).trans x0_5
  have x1_6 := (o_6 (1) (by decide)).trans x1_5
  have x3_6 := (o_6 (3) (by decide)).trans x3_5
  have x5_6 := (o_6 (5) (by decide)).trans x5_5
  have x6_6 := (o_6 (6) (by decide)).trans u_5
  refine lv_aload_n hx hb dX0_init_36 rfl (lv_at hl 0 rfl) ?_
  refine n_ldc2 B hw_60 (x := lZ (-504)) (by decide) dX0_init_37 ?_
  refine call_sl B hA hW (k_rest l G 7 ad w_6 (-504) (by decide) (by decide)) mf_X2_rest hw_26 rfl ⟨⟨rfl, rfl⟩, by decide, by decide⟩ ⟨by decide, by decide⟩ hl.1 rfl (Nat.le_of_ble_eq_true rfl) dX0_init_40 (fun r9 w9 H locs hp hW => ?_)
  obtain ⟨e1, e2⟩ := hp
  rw [e1] at hW
  rw [show zm (-504) = 999499 by decide] at e2
  subst e2
  refine lv_iconst (v := nI 5) hx hb dX0_init_43 (by decide) ?_
  refine call_szr B hE hA hW hli (by decide) (cells := 4) (slots := 192) (by have h1 := hli 3; have h2 := hli 7; omega) (k_newSums l G 7 ad w_6 hli (by decide) 999499 5 (by decide) (by decide)) mf_X3_newSums hw_33 rfl ⟨by decide, by decide⟩ (cells' := 5) (slots' := 240) rfl rfl ⟨by decide, by decide⟩ hl.1 rfl (Nat.le_of_ble_eq_true rfl) dX0_init_44 (fun q_7 w_7 H locs hp hW => ?_)
  obtain ⟨rfl, o_7, g_7, u_7, l_7⟩ := hp
  have hW : Wo G A s.heap 8 ad w_7 H locs := hW
  have x2_7 := (o_7 (2) (by decide)).trans u_6
  have x0_7 := (o_7 (0) (by decide)).trans x0_6
  have x1_7 := (o_7 (1) (by decide)).trans x1_6
  have x3_7 := (o_7 (3) (by decide)).trans x3_6
  have x5_7 := (o_7 (5) (by decide)).trans x5_6
  have x6_7 := (o_7 (6) (by decide)).trans x6_6
  refine z_putF B hW (2) (by omega) x2_7 rfl inX0 tyX0 tyX0_ok nmX0 3 (by decide) hw_71 rfl rfl hin rfl (v := .ref (ad (7))) rfl rfl (Nat.le_of_ble_eq_true rfl) dX0_init_47 (fun H locs hW => ?_)
  obtain ⟨w_8, hW, u_8, o_8⟩ : ∃ w9 : Nat → va_E, Wo G A s.heap (8) ad w9 H locs ∧ w9 (2) = eO 0 [.ref (ad (3)), .ref (ad (5)), .ref (ad (6)), .ref (ad (7)), .null, .null, .null, .int (nI (0))] ∧ ∀ j, j ≠ 2 → w9 j = w_7 j := ⟨_, hW, up_s, fun j hj => up_n hj⟩
  have x0_8 := (o_8 (0) (by decide)).trans x0_7
  have x1_8 := (o_8 (1) (by decide)).trans x1_7
  have x3_8 := (o_8 (3) (by decide)).trans x3_7
  have x5_8 := (o_8 (5) (by decide)).trans x5_7
  have x6_8 := (o_8 (6) (by decide)).trans x6_7
  have x7_8 := (o_8 (7) (by decide)).trans u_7
  refine lv_aload_n hx hb dX0_init_50 rfl (lv_at hl 0 rfl) ?_
  refine lv_bipush (v := nI 21) hx hb dX0_init_51 (by decide) ?_
  refine z_newI B hA hW hli (by omega) (cells := 5) (slots := 240) (by have h1 := hli 3; have h2 := hli 8; omega) (N := 21) (by decide) (cells' := 6) (slots' := 261) rfl rfl ⟨by decide, by decide⟩ dX0_init_53 (fun H hW => ?_)
  obtain ⟨w_9, hW, u_9, o_9⟩ : ∃ w9 : Nat → va_E, Wo G A s.heap (9) ad w9 H locs ∧ w9 (8) = eI G 21 (fun _ => nI 0) ∧ ∀ j, j ≠ 8 → w9 j = w_8 j := ⟨_, hW, up_s, fun j hj => up_n hj⟩
  have x2_9 := (o_9 (2) (by decide)).trans u_8
  have x0_9 := (o_9 (0) (by decide)).trans x0_8
  have x1_9 := (o_9 (1) (by decide)).trans x1_8
  have x3_9 := (o_9 (3) (by decide)).trans x3_8
  have x5_9 := (o_9 (5) (by decide)).trans x5_8
  have x6_9 := (o_9 (6) (by decide)).trans x6_8
  have x7_9 := (o_9 (7) (by decide)).trans x7_8
  refine z_putF B hW (2) (by omega) x2_9 rfl inX0 tyX0 tyX0_ok nmX0 4 (by decide) hw_72 rfl rfl hin rfl (v := .ref (ad (8))) rfl rfl (Nat.le_of_ble_eq_true rfl) dX0_init_55 (fun H locs hW => ?_)
  obtain ⟨w_10, hW, u_10, o_10⟩ : ∃ w9 : Nat → va_E, Wo G A s.heap (9) ad w9 H locs ∧ w9 (2) = eO 0 [.ref (ad (3)), .ref (ad (5)), .ref (ad (6)), .ref (ad (7)), .ref (ad (8)), .null, .null, .int (nI (0))] ∧ ∀ j, j ≠ 2 → w9 j = w_9 j := ⟨_, hW, up_s, fun j hj => up_n hj⟩
  have x0_10 := (o_10 (0) (by decide)).trans x0_9
  have x1_10 := (o_10 (1) (by decide)).trans x1_9
  have x3_10 := (o_10 (3) (by decide)).trans x3_9
  have x5_10 := (o_10 (5) (by decide)).trans x5_9
  have x6_10 := (o_10 (6) (by decide)).trans x6_9
  have x7_10 := (o_10 (7) (by decide)).trans x7_9
  have x8_10 := (o_10 (8) (by decide)).trans u_9
  refine lv_aload_n hx hb dX0_init_58 rfl (lv_at hl 0 rfl) ?_
  refine lv_bipush (v := nI 21) hx hb dX0_init_59 (by decide) ?_
  refine z_newI B hA hW hli (by omega) (cells := 6) (slots := 261) (by have h1 := hli 3; have h2 := hli 9; omega) (N := 21) (by decide) (cells' := 7) (slots' := 282) rfl rfl ⟨by decide, by decide⟩ dX0_init_61 (fun H hW => ?_)
  obtain ⟨w_11, hW, u_11, o_11⟩ : ∃ w9 : Nat → va_E, Wo G A s.heap (10) ad w9 H locs ∧ w9 (9) = eI G 21 (fun _ => nI 0) ∧ ∀ j, j ≠ 9 → w9 j = w_10 j := ⟨_, hW, up_s, fun j hj => up_n hj⟩
  have x2_11 := (o_11 (2) (by decide)).trans u_10
  have x0_11 := (o_11 (0) (by decide)).trans x0_10
  have x1_11 := (o_11 (1) (by decide)).trans x1_10
  have x3_11 := (o_11 (3) (by decide)).trans x3_10
  have x5_11 := (o_11 (5) (by decide)).trans x5_10
  have x6_11 := (o_11 (6) (by decide)).trans x6_10
  have x7_11 := (o_11 (7) (by decide)).trans x7_10
  have x8_11 := (o_11 (8) (by decide)).trans x8_10
  refine z_putF B hW (2) (by omega) x2_11 rfl inX0 tyX0 tyX0_ok nmX0 5 (by decide) hw_73 rfl rfl hin rfl (v := .ref (ad (9))) rfl rfl (Nat.le_of_ble_eq_true rfl) dX0_init_63 (fun H locs hW => ?_)
  obtain ⟨w_12, hW, u_12, o_12⟩ : ∃ w9 : Nat → va_E, Wo G A s.heap (10) ad w9 H locs ∧ w9 (2) = eO 0 [.ref (ad (3)), .ref (ad (5)), .ref (ad (6)), .ref (ad (7)), .ref (ad (8)), .ref (ad (9)), .null, .int (nI (0))] ∧ ∀ j, j ≠ 2 → w9 j = w_11 j := ⟨_, hW, up_s, fun j hj => up_n hj⟩
  have x0_12 := (o_12 (0) (by decide)).trans x0_11
  have x1_12 := (o_12 (1) (by decide)).trans x1_11
  have x3_12 := (o_12 (3) (by decide)).trans x3_11
  have x5_12 := (o_12 (5) (by decide)).trans x5_11
  have x6_12 := (o_12 (6) (by decide)).trans x6_11
  have x7_12 := (o_12 (7) (by decide)).trans x7_11
  have x8_12 := (o_12 (8) (by decide)).trans x8_11
  have x9_12 := (o_12 (9) (by decide)).trans u_11
  refine lv_iconst (v := nI 0) hx hb dX0_init_66 (by decide) ?_
  refine lv_istore_n (lv' := [(1, .int (nI (0))), (0, .ref (ad (2)))]) hx hb dX0_init_67 rfl hl (by decide) rfl (fun ls hl => ?_)
  refine lv_iconst (v := nI 0) hx hb dX0_init_68 (by decide) ?_
  refine lv_istore_n (lv' := [(2, .int (nI (0))), (1, .int (nI (0))), (0, .ref (ad (2)))]) hx hb dX0_init_69 rfl hl (by decide) rfl (fun ls hl => ?_)
  refine z_up (Wg := fun H locs ls => W p l e (rz 4 52 2438) s m args below meth c H locs 7 282 _ (F0 m 70 ls [])) (I := fun r H locs ls => ∃ (wq : Nat → va_E) (f8 f9 : Nat → Int32), Wo G A s.heap 10 ad wq H locs ∧ lv_has ls 3 [(2, .int (nI r)), (1, .int (nI (allT.getD r 0))), (0, .ref (ad 2))] ∧ (∀ j, j ≠ 8 → j ≠ 9 → wq j = w_12 j) ∧ wq 8 = eI G 21 f8 ∧ wq 9 = eI G 21 f9 ∧ (∀ h, h < r → f8 h = nI (szT.getD h 0)) ∧ (∀ h, h < r → f9 h = nI (fsT.getD h 0))) (a := 0) (b := 21) (by decide) ?_ ?_ H locs ls ⟨w_12, _, _, hW, hl, fun _ _ _ => rfl, x8_12, x9_12, fun h q => by omega, fun h q => by omega⟩
  · rintro r - hr21 ih H locs ls ⟨wq, f8, f9, hW, hl, i1, i2, i3, i4, i5⟩
    obtain ⟨a1, a2, a3⟩ := all_step r hr21
    have x2 : wq 2 = eO 0 [.ref (ad 3), .ref (ad 5), .ref (ad 6), .ref (ad 7), .ref (ad 8), .ref (ad 9), .null, .int (nI 0)] := (i1 2 (by decide) (by decide)).trans u_12
    refine lv_iload_n hx hb dX0_init_70 rfl (lv_at hl 0 rfl) ?_
    refine lv_aload_n hx hb dX0_init_71 rfl (lv_at hl 2 rfl) ?_
    refine z_get B hW (2) (by omega) x2 rfl inX0 4 (by decide) hw_72 rfl (v := .ref (ad (8))) rfl dX0_init_72 ?_
    refine z_alen B hW (8) (by omega) 0 i2 rfl dX0_init_75 ?_
    refine n_icmp_ge (tgt := 113) hx hb (by omega) (by omega) dX0_init_76 (by decide) (fun hc => ?_) (fun hc => ?_)
    · omega
    · refine lv_aload_n hx hb dX0_init_79 rfl (lv_at hl 2 rfl) ?_
      refine z_get B hW (2) (by omega) x2 rfl inX0 5 (by decide) hw_73 rfl (v := .ref (ad (9))) rfl dX0_init_80 ?_
      refine lv_iload_n hx hb dX0_init_83 rfl (lv_at hl 0 rfl) ?_
      refine lv_iload_n hx hb dX0_init_84 rfl (lv_at hl 1 rfl) ?_
      refine z_iast B hW (9) (by omega) i3 (r) (by omega) (by decide) dX0_init_85 (fun H locs hW => ?_)
      have x2b : va_up wq 9 (eI G 21 (upd f9 r (nI (allT.getD r 0)))) 2 = eO 0 [.ref (ad 3), .ref (ad 5), .ref (ad 6), .ref (ad 7), .ref (ad 8), .ref (ad 9), .null, .int (nI 0)] := (up_n (by decide)).trans x2
      have i2b : va_up wq 9 (eI G 21 (upd f9 r (nI (allT.getD r 0)))) 8 = eI G 21 f8 := (up_n (by decide)).trans i2
      refine lv_aload_n hx hb dX0_init_86 rfl (lv_at hl 2 rfl) ?_
      refine z_get B hW (2) (by omega) x2b rfl inX0 4 (by decide) hw_72 rfl (v := .ref (ad (8))) rfl dX0_init_87 ?_
      refine lv_iload_n hx hb dX0_init_90 rfl (lv_at hl 0 rfl) ?_
      refine lv_iconst (v := nI 2) hx hb dX0_init_91 (by decide) ?_
      refine lv_iload_n hx hb dX0_init_92 rfl (lv_at hl 0 rfl) ?_
      refine n_imul hx hb dX0_init_93 ?_
      refine call_si B hA hW (k_countSize l G 10 ad _ (2 * r) (by omega) (by omega)) mf_X0_countSize hw_61 rfl ⟨⟨rfl, rfl⟩, by decide, by decide⟩ ⟨by decide, by decide⟩ hl.1 rfl (Nat.le_of_ble_eq_true rfl) dX0_init_94 (fun r9 w9 H locs hp hW => ?_)
      obtain ⟨e1, e2⟩ := hp
      rw [e1] at hW
      rw [a3] at e2
      subst e2
      refine z_iast B hW (8) (by omega) i2b (r) (by omega) (by decide) dX0_init_97 (fun H locs hW => ?_)
      obtain ⟨wr, hW, ur, orr⟩ : ∃ w8 : Nat → va_E, Wo G A s.heap 10 ad w8 H locs ∧ w8 8 = eI G 21 (upd f8 r (nI (szT.getD r 0))) ∧ ∀ j, j ≠ 8 → w8 j = va_up wq 9 (eI G 21 (upd f9 r (nI (allT.getD r 0)))) j := ⟨_, hW, up_s, fun j hj => up_n hj⟩
      have x2c := (orr 2 (by decide)).trans x2b
      have x8c := (orr 9 (by decide)).trans up_s
      refine lv_iload_n hx hb dX0_init_98 rfl (lv_at hl 1 rfl) ?_
      refine lv_aload_n hx hb dX0_init_99 rfl (lv_at hl 2 rfl) ?_
      refine z_get B hW (2) (by omega) x2c rfl inX0 4 (by decide) hw_72 rfl (v := .ref (ad (8))) rfl dX0_init_100 ?_
      refine lv_iload_n hx hb dX0_init_103 rfl (lv_at hl 0 rfl) ?_
      refine z_iald B hW (8) (by omega) ur (r) (by omega) (by decide) (v := (nI (szT.getD r 0))) (by rw [pk_us]) dX0_init_104 ?_
      refine n_iadd hx hb dX0_init_105 ?_
      refine topi (y := (nI (allT.getD (r + 1) 0))) (by rw [a1]) ?_
      refine lv_istore_n (lv' := [(1, .int (nI (allT.getD (r + 1) 0))), (2, .int (nI (r))), (0, .ref (ad (2)))]) hx hb dX0_init_106 rfl hl (by decide) rfl (fun ls hl => ?_)
      refine lv_iinc (v := (nI (r + 1))) (lv' := [(2, .int (nI (r + 1))), (1, .int (nI (allT.getD (r + 1) 0))), (0, .ref (ad (2)))]) hx hb dX0_init_107 hl (k := 1) rfl (iinc1 _) (by decide) rfl (fun ls hl => ?_)
      refine lv_goto (tgt := 70) hx hb dX0_init_110 (by decide) ?_
      refine ih H locs ls ⟨wr, _, _, hW, lv_sub hl [0, 1, 2] rfl, fun j q1 q2 => (orr j q1).trans ((up_n q2).trans (i1 j q1 q2)), ur, x8c, fun h q => ?_, fun h q => ?_⟩
      · by_cases e : h = r
        · subst e; rw [pk_us]
        · rw [pk_un e]; exact i4 h (by omega)
      · by_cases e : h = r
        · subst e; rw [pk_us, a2]
        · rw [pk_un e]; exact i5 h (by omega)
  · rintro H locs ls ⟨wq, f8, f9, hW, hl, i1, i2, i3, i4, i5⟩
    have x2 : wq 2 = eO 0 [.ref (ad 3), .ref (ad 5), .ref (ad 6), .ref (ad 7), .ref (ad 8), .ref (ad 9), .null, .int (nI 0)] := (i1 2 (by decide) (by decide)).trans u_12
    refine lv_iload_n hx hb dX0_init_70 rfl (lv_at hl 0 rfl) ?_
    refine lv_aload_n hx hb dX0_init_71 rfl (lv_at hl 2 rfl) ?_
    refine z_get B hW (2) (by omega) x2 rfl inX0 4 (by decide) hw_72 rfl (v := .ref (ad (8))) rfl dX0_init_72 ?_
    refine z_alen B hW (8) (by omega) 0 i2 rfl dX0_init_75 ?_
    refine n_icmp_ge (tgt := 113) hx hb (by omega) (by omega) dX0_init_76 (by decide) (fun hc => ?_) (fun hc => ?_)
    · refine lv_aload_n hx hb dX0_init_113 rfl (lv_at hl 2 rfl) ?_
      refine lv_iload_n hx hb dX0_init_114 rfl (lv_at hl 1 rfl) ?_
      refine topi (y := (nI (44))) rfl ?_
      refine lv_bipush (v := nI 48) hx hb dX0_init_115 (by decide) ?_
      refine z_mna B hE hA hW hli (by decide) (cells := 7) (slots := 282) (by have h1 := hli 3; have h2 := hli 10; omega) (N := 44) (K := 48) hw_64 (by decide) (by decide) (cells' := 52) (slots' := 2438) rfl rfl ⟨by decide, by decide⟩ dX0_init_117 (fun H hW => ?_)
      obtain ⟨wt, hW, t0, t10, t11⟩ : ∃ w8 : Nat → va_E, Wo G A s.heap 55 ad w8 H locs ∧ (∀ j, j < 10 → w8 j = wq j) ∧ w8 10 = eR G 44 (fun i => if i < 44 then some (ad (10 + 1 + i)) else none) ∧ ∀ i, i < 44 → w8 (11 + i) = eL G 48 (fun _ => lN 0) := ⟨_, hW, fun j hj => if_pos hj, rfl, fun i hi => (by show (if 11 + i < 10 then _ else if 11 + i = 10 then _ else _) = _; rw [if_neg (by omega), if_neg (by omega)])⟩
      have x2t := (t0 2 (by decide)).trans x2
      refine z_putF B hW (2) (by omega) x2t rfl inX0 tyX0 tyX0_ok nmX0 6 (by decide) hw_74 rfl rfl hin rfl (v := .ref (ad (10))) rfl rfl (Nat.le_of_ble_eq_true rfl) dX0_init_121 (fun H locs hW => ?_)
      refine ret_zv B hr hlk hW ⟨⟨up_s, ⟨_, (by rw [up_n (by decide), t0 3 (by decide), i1 3 (by decide) (by decide)]; exact x3_12), l_1⟩, ⟨_, (by rw [up_n (by decide), t0 5 (by decide), i1 5 (by decide) (by decide)]; exact x5_12), l_3⟩, ⟨_, (by rw [up_n (by decide), t0 6 (by decide), i1 6 (by decide) (by decide)]; exact x6_12), l_5⟩, ⟨_, (by rw [up_n (by decide), t0 7 (by decide), i1 7 (by decide) (by decide)]; exact x7_12), l_7⟩, ⟨f8, (by rw [up_n (by decide), t0 8 (by decide)]; exact i2), i4⟩, ⟨f9, (by rw [up_n (by decide), t0 9 (by decide)]; exact i3), i5⟩, ⟨_, (up_n (by decide)).trans t10, fun i hi => ?_⟩, fun i hi => ⟨_, (up_n (by omega)).trans (t11 i hi)⟩, rfl, by decide, fun k i q1 => absurd q1 (Nat.not_lt_zero k)⟩, fun j hj => ?_⟩ (by decide) (by decide) dX0_init_124
      · show (if i < 44 then some (ad (10 + 1 + i)) else none) = _
        rw [if_pos hi]
      · rw [up_n (by omega), t0 j (by omega), i1 j (by omega) (by omega)]
        have q : j = 0 ∨ j = 1 := by omega
        rcases q with rfl | rfl
        · exact x0_12
        · exact x1_12
    · omega
