set_option maxHeartbeats 4000000 in
set_option maxRecDepth 100000 in
theorem k_M_raised (l : Launch) (G : zG) (n : Nat) (ad : Nat → Nat) (w : Nat → va_E) (a e9 : Nat) (ha : a < 1000003) (he : e9 < 2 ^ 31) :
    Cl l G yX5_raised cdX5_raised (zr 0) n ad w [.long (lN a), .int (nI e9)] (fun r w' => w' = w ∧ r = lN (a ^ e9 % 1000003)) := by
  refine ent_l (cc := cX5_raised) (maxL := 6) (ret := (some .long)) (by decide +kernel) rfl (Nat.le_of_ble_eq_true rfl) ?_
  intro p e s m args below meth c A B hr hlk hA H locs ls hW hl
  have hx := B.1
  have hb := B.2.1
  have hl : lv_has ls 6 [(0, .long (lN (a))), (2, .int (nI (e9)))] := hl
  refine lv_lconst (v := lN 1) hx hb dX5_raised_0 (by decide) ?_
  refine lv_lstore_n (lv' := [(3, .long (lN (1))), (0, .long (lN (a))), (2, .int (nI (e9)))]) hx hb dX5_raised_1 rfl hl (by decide) rfl (fun ls hl => ?_)
  refine lv_iconst (v := nI 0) hx hb dX5_raised_2 (by decide) ?_
  refine lv_istore (lv' := [(5, .int (nI (0))), (3, .long (lN (1))), (0, .long (lN (a))), (2, .int (nI (e9)))]) hx hb dX5_raised_3 hl (by decide) rfl (fun ls hl => ?_)
  refine z_up1 (Wg := fun ls => W p l e (zr 0) s m args below meth c H locs 0 0 _ (F0 m 5 ls [])) (I := fun k ls => lv_has ls 6 [(5, .int (nI k)), (3, .long (lN (a ^ k % 1000003))), (0, .long (lN a)), (2, .int (nI e9))]) (a := 0) (b := e9) (Nat.zero_le _) ?_ ?_ ls hl
  · rintro k - hk ih ls hl
    have hml := mul_lt (Nat.mod_lt (a ^ k) (show 0 < 1000003 by decide)) ha
    refine lv_iload hx hb dX5_raised_5 (lv_at hl 0 rfl) ?_
    refine lv_iload_n hx hb dX5_raised_7 rfl (lv_at hl 3 rfl) ?_
    refine n_icmp_ge (tgt := 25) hx hb (by omega) (by omega) dX5_raised_8 (by decide) (fun hc => ?_) (fun hc => ?_)
    · omega
    · refine lv_lload_n hx hb dX5_raised_11 rfl (lv_at hl 1 rfl) ?_
      refine lv_lload_n hx hb dX5_raised_12 rfl (lv_at hl 2 rfl) ?_
      refine n_lmul hx hb dX5_raised_13 ?_
      refine n_ldc2 B hw_372 (x := lN 1000003) (by decide) dX5_raised_14 ?_
      refine n_lrem hx hb (by omega) (by omega) (by omega) dX5_raised_17 ?_
      refine topl (y := (lN (a ^ (k + 1) % 1000003))) (by rw [pw_sc rfl]) ?_
      refine lv_lstore_n (lv' := [(3, .long (lN (a ^ (k + 1) % 1000003))), (5, .int (nI (k))), (0, .long (lN (a))), (2, .int (nI (e9)))]) hx hb dX5_raised_18 rfl hl (by decide) rfl (fun ls hl => ?_)
      refine lv_iinc (v := (nI (k + 1))) (lv' := [(5, .int (nI (k + 1))), (3, .long (lN (a ^ (k + 1) % 1000003))), (0, .long (lN (a))), (2, .int (nI (e9)))]) hx hb dX5_raised_19 hl (k := 1) rfl (iinc1 _) (by decide) rfl (fun ls hl => ?_)
      refine lv_goto (tgt := 5) hx hb dX5_raised_22 (by decide) ?_
      exact ih ls hl
  · rintro ls hl
    refine lv_iload hx hb dX5_raised_5 (lv_at hl 0 rfl) ?_
    refine lv_iload_n hx hb dX5_raised_7 rfl (lv_at hl 3 rfl) ?_
    refine n_icmp_ge (tgt := 25) hx hb (by omega) (by omega) dX5_raised_8 (by decide) (fun hc => ?_) (fun hc => ?_)
    · refine lv_lload_n hx hb dX5_raised_25 rfl (lv_at hl 1 rfl) ?_
      exact ret_l B hr hlk hW ⟨rfl, rfl⟩ dX5_raised_26
    · omega
set_option maxHeartbeats 4000000 in
set_option maxRecDepth 100000 in
theorem k_M_inverse (l : Launch) (G : zG) (n : Nat) (ad : Nat → Nat) (w : Nat → va_E) (a : Nat) (ha : a < 1000003) :
    Cl l G yX5_inverse cdX5_inverse (zr 0) n ad w [.long (lN a)] (fun r w' => w' = w ∧ r = lN (invM a)) := by
  refine ent_l (cc := cX5_inverse) (maxL := 8) (ret := (some .long)) (by decide +kernel) rfl (Nat.le_of_ble_eq_true rfl) ?_
  intro p e s m args below meth c A B hr hlk hA H locs ls hW hl
  have hx := B.1
  have hb := B.2.1
  have hl : lv_has ls 8 [(0, .long (lN (a)))] := hl
  refine lv_lconst (v := lN 1) hx hb dX5_inverse_0 (by decide) ?_
  refine lv_lstore_n (lv' := [(2, .long (lN (1))), (0, .long (lN (a)))]) hx hb dX5_inverse_1 rfl hl (by decide) rfl (fun ls hl => ?_)
  refine lv_lload_n hx hb dX5_inverse_2 rfl (lv_at hl 1 rfl) ?_
  refine n_ldc2 B hw_372 (x := lN 1000003) (by decide) dX5_inverse_3 ?_
  refine n_lrem hx hb (by omega) (by omega) (by omega) dX5_inverse_6 ?_
  refine topl (y := (lN (a))) (by rw [Nat.mod_eq_of_lt ha]) ?_
  refine lv_lstore (lv' := [(4, .long (lN (a))), (2, .long (lN (1))), (0, .long (lN (a)))]) hx hb dX5_inverse_7 hl (by decide) rfl (fun ls hl => ?_)
  refine n_ldc2 B hw_447 (x := lN 1000001) (by decide) dX5_inverse_9 ?_
  refine lv_lstore (lv' := [(6, .long (lN (1000001))), (4, .long (lN (a))), (2, .long (lN (1))), (0, .long (lN (a)))]) hx hb dX5_inverse_12 hl (by decide) rfl (fun ls hl => ?_)
  have key : ∀ (e9 pp bb : Nat) (ls : Array Slot), e9 ≤ 1000001 → pp < 1000003 → bb < 1000003 → pp * bb ^ e9 % 1000003 = invM a → lv_has ls 8 [(6, .long (lN e9)), (4, .long (lN bb)), (2, .long (lN pp)), (0, .long (lN a))] → W p l e (zr 0) s m args below meth c H locs 0 0 (MQ below (va_Ql (fun r w' => w' = w ∧ r = lN (invM a)) (Kp G n ad A) A) args s 0 0 A) (F0 m 14 ls []) := by
    intro e9
    induction e9 using Nat.strongRecOn with
    | ind e9 ih =>
      intro pp bb ls he hpp hbb hinv hl
      refine lv_lload hx hb dX5_inverse_14 (lv_at hl 0 rfl) ?_
      refine lv_lconst (v := lN 0) hx hb dX5_inverse_16 (by decide) ?_
      refine lc_le (tgt := 63) hx hb dX5_inverse_17 dX5_inverse_18 (by decide) (fun hc => ?_) (fun hc => ?_)
      · have h0 : e9 = 0 := by have := (pk_lLE (a := e9) (b := 0) (by omega) (by omega)).mp hc; omega
        have hpe : pp = invM a := by rw [h0, Nat.pow_zero, Nat.mul_one, Nat.mod_eq_of_lt hpp] at hinv; exact hinv
        refine lv_lload_n hx hb dX5_inverse_63 rfl (lv_at hl 2 rfl) ?_
        exact ret_l B hr hlk hW ⟨rfl, by rw [hpe]⟩ dX5_inverse_64
      · have h0 : 0 < e9 := (pk_lLT (a := 0) (b := e9) (by omega) (by omega)).mp hc
        have hm1 := mul_lt hpp hbb
        have hm2 := mul_lt hbb hbb
        refine lv_lload hx hb dX5_inverse_21 (lv_at hl 0 rfl) ?_
        refine n_ldc2 B hw_448 (x := lN 2) (by decide) dX5_inverse_23 ?_
        refine n_lrem hx hb (by omega) (by omega) (by omega) dX5_inverse_26 ?_
        refine lv_lconst (v := lN 1) hx hb dX5_inverse_27 (by decide) ?_
        refine lc_ne (tgt := 41) hx hb dX5_inverse_28 dX5_inverse_29 (by decide) (fun hd => ?_) (fun hd => ?_)
        · have hev : e9 % 2 = 0 := by have : ¬ e9 % 2 = 1 := fun q => hd (by rw [q]); omega
          refine lv_lload hx hb dX5_inverse_41 (lv_at hl 1 rfl) ?_
          refine lv_lload hx hb dX5_inverse_43 (lv_at hl 1 rfl) ?_
          refine n_lmul hx hb dX5_inverse_45 ?_
          refine n_ldc2 B hw_372 (x := lN 1000003) (by decide) dX5_inverse_46 ?_
          refine n_lrem hx hb (by omega) (by omega) (by omega) dX5_inverse_49 ?_
          refine lv_lstore (lv' := [(4, .long (lN ((bb * bb) % 1000003))), (6, .long (lN (e9))), (2, .long (lN (pp))), (0, .long (lN (a)))]) hx hb dX5_inverse_50 hl (by decide) rfl (fun ls hl => ?_)
          refine lv_lload hx hb dX5_inverse_52 (lv_at hl 1 rfl) ?_
          refine n_ldc2 B hw_448 (x := lN 2) (by decide) dX5_inverse_54 ?_
          refine n_ldiv hx hb (by omega) (by omega) (by omega) dX5_inverse_57 ?_
          refine lv_lstore (lv' := [(6, .long (lN (e9 / 2))), (4, .long (lN ((bb * bb) % 1000003))), (2, .long (lN (pp))), (0, .long (lN (a)))]) hx hb dX5_inverse_58 hl (by decide) rfl (fun ls hl => ?_)
          refine lv_goto (tgt := 14) hx hb dX5_inverse_60 (by decide) ?_
          exact ih (e9 / 2) (by omega) pp (bb * bb % 1000003) ls (by omega) hpp (Nat.mod_lt _ (by decide)) (by rw [inv_even hev]; exact hinv) (lv_sub hl [0, 1, 2, 3] rfl)
        · have hod : e9 % 2 = 1 := (pk_lEQ (by omega) (by omega)).mp hd
          refine lv_lload_n hx hb dX5_inverse_32 rfl (lv_at hl 2 rfl) ?_
          refine lv_lload hx hb dX5_inverse_33 (lv_at hl 1 rfl) ?_
          refine n_lmul hx hb dX5_inverse_35 ?_
          refine n_ldc2 B hw_372 (x := lN 1000003) (by decide) dX5_inverse_36 ?_
          refine n_lrem hx hb (by omega) (by omega) (by omega) dX5_inverse_39 ?_
          refine lv_lstore_n (lv' := [(2, .long (lN ((pp * bb) % 1000003))), (6, .long (lN (e9))), (4, .long (lN (bb))), (0, .long (lN (a)))]) hx hb dX5_inverse_40 rfl hl (by decide) rfl (fun ls hl => ?_)
          refine lv_lload hx hb dX5_inverse_41 (lv_at hl 2 rfl) ?_
          refine lv_lload hx hb dX5_inverse_43 (lv_at hl 2 rfl) ?_
          refine n_lmul hx hb dX5_inverse_45 ?_
          refine n_ldc2 B hw_372 (x := lN 1000003) (by decide) dX5_inverse_46 ?_
          refine n_lrem hx hb (by omega) (by omega) (by omega) dX5_inverse_49 ?_
          refine lv_lstore (lv' := [(4, .long (lN ((bb * bb) % 1000003))), (2, .long (lN ((pp * bb) % 1000003))), (6, .long (lN (e9))), (0, .long (lN (a)))]) hx hb dX5_inverse_50 hl (by decide) rfl (fun ls hl => ?_)
          refine lv_lload hx hb dX5_inverse_52 (lv_at hl 2 rfl) ?_
          refine n_ldc2 B hw_448 (x := lN 2) (by decide) dX5_inverse_54 ?_
          refine n_ldiv hx hb (by omega) (by omega) (by omega) dX5_inverse_57 ?_
          refine lv_lstore (lv' := [(6, .long (lN (e9 / 2))), (4, .long (lN ((bb * bb) % 1000003))), (2, .long (lN ((pp * bb) % 1000003))), (0, .long (lN (a)))]) hx hb dX5_inverse_58 hl (by decide) rfl (fun ls hl => ?_)
          refine lv_goto (tgt := 14) hx hb dX5_inverse_60 (by decide) ?_
          exact ih (e9 / 2) (by omega) (pp * bb % 1000003) (bb * bb % 1000003) ls (by omega) (Nat.mod_lt _ (by decide)) (Nat.mod_lt _ (by decide)) (by rw [inv_odd hod]; exact hinv) (lv_sub hl [0, 1, 2, 3] rfl)
  exact key 1000001 1 a ls (Nat.le_refl _) (by decide) ha (by rw [Nat.one_mul]; rfl) (lv_sub hl [0, 1, 2, 3] rfl)
set_option maxHeartbeats 4000000 in
set_option maxRecDepth 100000 in
theorem k_M_fillSums (l : Launch) (G : zG) (n : Nat) (ad : Nat → Nat) (w : Nat → va_E) (kt k c9 : Nat) (hkt : kt < n) (hk1 : 1 ≤ k) (hk2 : k ≤ 40) (hc9 : c9 < 1000003) (hr0 : ∃ f, w kt = eL G 48 f) :
    Cv l G yX5_fillSums cdX5_fillSums (zr 1) n ad w [.ref (ad kt), .int (nI k), .long (lN c9)] (fun w' => (∀ j, j ≠ kt → w' j = w j) ∧ isL G w' kt 48 (sumsS c9 (k - 1))) := by
  obtain ⟨fr, er⟩ := hr0
  refine ent_v (cc := cX5_fillSums) (maxL := 8) (ret := none) (by decide +kernel) rfl (Nat.le_of_ble_eq_true rfl) ?_
  intro p e s m args below meth c A B hr hlk hA H locs ls hW hl
  have hx := B.1
  have hb := B.2.1
  have hl : lv_has ls 8 [(0, .ref (ad (kt))), (1, .int (nI (k))), (2, .long (lN (c9)))] := hl
  refine lv_aload_n hx hb dX5_fillSums_0 rfl (lv_at hl 0 rfl) ?_
  refine lv_iconst (v := nI 0) hx hb dX5_fillSums_1 (by decide) ?_
  refine lv_lconst (v := lN 1) hx hb dX5_fillSums_2 (by decide) ?_
  refine z_last B hW (kt) (by omega) er (0) (by omega) (by decide) dX5_fillSums_3 (fun H locs hW => ?_)
  refine lv_iconst (v := nI 1) hx hb dX5_fillSums_4 (by decide) ?_
  refine lv_istore (lv' := [(4, .int (nI (1))), (0, .ref (ad (kt))), (1, .int (nI (k))), (2, .long (lN (c9)))]) hx hb dX5_fillSums_5 hl (by decide) rfl (fun ls hl => ?_)
  refine z_up (Wg := fun H locs ls => W p l e (zr 1) s m args below meth c H locs 0 0 _ (F0 m 7 ls [])) (I := fun i H locs ls => ∃ (w2 : Nat → va_E) (f : Nat → Int64), Wo G A s.heap n ad w2 H locs ∧ lv_has ls 8 [(4, .int (nI i)), (0, .ref (ad kt)), (1, .int (nI k)), (2, .long (lN c9))] ∧ (∀ j, j ≠ kt → w2 j = w j) ∧ w2 kt = eL G 48 f ∧ (∀ j, j < i → f j = lN (sumsS c9 (k - 1) j))) (a := 1) (b := 48) (by decide) ?_ ?_ H locs ls ⟨_, _, hW, hl, fun j hj => up_n hj, up_s, fun j h => by rw [show j = 0 by omega, pk_uLs]; rfl⟩
  · rintro i hi1 hi ih H locs ls ⟨w2, f, hW, hl, h1, h2, h3⟩
    refine lv_iload hx hb dX5_fillSums_7 (lv_at hl 0 rfl) ?_
    refine lv_bipush (v := nI 48) hx hb dX5_fillSums_9 (by decide) ?_
    refine n_icmp_ge (tgt := 81) hx hb (by omega) (by omega) dX5_fillSums_11 (by decide) (fun hc => ?_) (fun hc => ?_)
    · omega
    · refine lv_lconst (v := lN 0) hx hb dX5_fillSums_14 (by decide) ?_
      refine lv_lstore (lv' := [(5, .long (lN (0))), (4, .int (nI (i))), (0, .ref (ad (kt))), (1, .int (nI (k))), (2, .long (lN (c9)))]) hx hb dX5_fillSums_15 hl (by decide) rfl (fun ls hl => ?_)
      refine lv_iconst (v := nI 1) hx hb dX5_fillSums_17 (by decide) ?_
      refine lv_istore (lv' := [(7, .int (nI (1))), (5, .long (lN (0))), (4, .int (nI (i))), (0, .ref (ad (kt))), (1, .int (nI (k))), (2, .long (lN (c9)))]) hx hb dX5_fillSums_18 hl (by decide) rfl (fun ls hl => ?_)
      refine z_up (Wg := fun H locs ls => W p l e (zr 1) s m args below meth c H locs 0 0 _ (F0 m 20 ls [])) (I := fun d H locs ls => Wo G A s.heap n ad w2 H locs ∧ lv_has ls 8 [(7, .int (nI d)), (5, .long (lN (dvM (k - 1) i (d - 1)))), (4, .int (nI i)), (0, .ref (ad kt)), (1, .int (nI k)), (2, .long (lN c9))]) (a := 1) (b := i + 1) (by omega) ?_ ?_ H locs ls ⟨hW, hl⟩
      · rintro d hd1 hd ih2 H locs ls ⟨hW, hl⟩
        obtain ⟨d2, hd2⟩ : ∃ d2, d = d2 + 1 := ⟨d - 1, by omega⟩
        have hdv : dvM (k - 1) i (d + 1 - 1) = dvM (k - 1) i (d - 1) + (if i % d = 0 then d ^ (k - 1) % 1000003 else 0) := by rw [hd2]; rfl
        refine lv_iload hx hb dX5_fillSums_20 (lv_at hl 0 rfl) ?_
        refine lv_iload hx hb dX5_fillSums_22 (lv_at hl 2 rfl) ?_
        refine n_icmp_gt (tgt := 59) hx hb (by omega) (by omega) dX5_fillSums_24 (by decide) (fun hc => ?_) (fun hc => ?_)
        · omega
        · refine lv_lload hx hb dX5_fillSums_27 (lv_at hl 1 rfl) ?_
          refine lv_iload hx hb dX5_fillSums_29 (lv_at hl 2 rfl) ?_
          refine lv_iload hx hb dX5_fillSums_31 (lv_at hl 0 rfl) ?_
          refine n_irem hx hb (by omega) (by omega) (by omega) dX5_fillSums_33 ?_
          have hrl := Nat.mod_lt i (show 0 < d by omega)
          refine n_if_ne (tgt := 49) hx hb (by omega) dX5_fillSums_34 (by decide) (fun hg => ?_) (fun hg => ?_)
          · refine lv_lconst (v := lN 0) hx hb dX5_fillSums_49 (by decide) ?_
            refine n_ladd hx hb dX5_fillSums_50 ?_
            refine topl (y := (lN (dvM (k - 1) i (d + 1 - 1)))) (by rw [hdv, if_neg hg]) ?_
            refine lv_lstore (lv' := [(5, .long (lN (dvM (k - 1) i (d + 1 - 1)))), (7, .int (nI (d))), (4, .int (nI (i))), (0, .ref (ad (kt))), (1, .int (nI (k))), (2, .long (lN (c9)))]) hx hb dX5_fillSums_51 hl (by decide) rfl (fun ls hl => ?_)
            refine lv_iinc (v := (nI (d + 1))) (lv' := [(7, .int (nI (d + 1))), (5, .long (lN (dvM (k - 1) i (d + 1 - 1)))), (4, .int (nI (i))), (0, .ref (ad (kt))), (1, .int (nI (k))), (2, .long (lN (c9)))]) hx hb dX5_fillSums_53 hl (k := 1) rfl (iinc1 _) (by decide) rfl (fun ls hl => ?_)
            refine lv_goto (tgt := 20) hx hb dX5_fillSums_56 (by decide) ?_
            exact ih2 H locs ls ⟨hW, lv_sub hl [0, 1, 2, 3, 4, 5] rfl⟩
          · refine lv_iload hx hb dX5_fillSums_37 (lv_at hl 0 rfl) ?_
            refine n_i2l hx hb (by omega) dX5_fillSums_39 ?_
            refine lv_iload_n hx hb dX5_fillSums_40 rfl (lv_at hl 4 rfl) ?_
            refine lv_iconst (v := nI 1) hx hb dX5_fillSums_41 (by decide) ?_
            refine n_isub hx hb (by omega) dX5_fillSums_42 ?_
            refine call_sl B hA hW (k_M_raised l G n ad w2 d (k - 1) (by omega) (by omega)) mf_X5_raised hw_369 rfl ⟨⟨rfl, rfl⟩, by decide, by decide⟩ ⟨Nat.zero_le _, Nat.zero_le _⟩ hl.1 rfl (Nat.le_of_ble_eq_true rfl) dX5_fillSums_43 (fun r w9 H locs hp hW => ?_)
            obtain ⟨e1, e2⟩ := hp
            rw [e1] at hW
            subst e2
            refine lv_goto (tgt := 50) hx hb dX5_fillSums_46 (by decide) ?_
            refine n_ladd hx hb dX5_fillSums_50 ?_
            refine topl (y := (lN (dvM (k - 1) i (d + 1 - 1)))) (by rw [hdv, if_pos hg]) ?_
            refine lv_lstore (lv' := [(5, .long (lN (dvM (k - 1) i (d + 1 - 1)))), (7, .int (nI (d))), (4, .int (nI (i))), (0, .ref (ad (kt))), (1, .int (nI (k))), (2, .long (lN (c9)))]) hx hb dX5_fillSums_51 hl (by decide) rfl (fun ls hl => ?_)
            refine lv_iinc (v := (nI (d + 1))) (lv' := [(7, .int (nI (d + 1))), (5, .long (lN (dvM (k - 1) i (d + 1 - 1)))), (4, .int (nI (i))), (0, .ref (ad (kt))), (1, .int (nI (k))), (2, .long (lN (c9)))]) hx hb dX5_fillSums_53 hl (k := 1) rfl (iinc1 _) (by decide) rfl (fun ls hl => ?_)
            refine lv_goto (tgt := 20) hx hb dX5_fillSums_56 (by decide) ?_
            exact ih2 H locs ls ⟨hW, lv_sub hl [0, 1, 2, 3, 4, 5] rfl⟩
      · rintro H locs ls ⟨hW, hl⟩
        rw [Nat.add_sub_cancel] at hl
        have hle := dvM_le (k - 1) i i
        have hml := mul_lt (Nat.mod_lt (dvM (k - 1) i i) (show 0 < 1000003 by decide)) hc9
        refine lv_iload hx hb dX5_fillSums_20 (lv_at hl 0 rfl) ?_
        refine lv_iload hx hb dX5_fillSums_22 (lv_at hl 2 rfl) ?_
        refine n_icmp_gt (tgt := 59) hx hb (by omega) (by omega) dX5_fillSums_24 (by decide) (fun hc => ?_) (fun hc => ?_)
        · refine lv_aload_n hx hb dX5_fillSums_59 rfl (lv_at hl 3 rfl) ?_
          refine lv_iload hx hb dX5_fillSums_60 (lv_at hl 2 rfl) ?_
          refine lv_lload hx hb dX5_fillSums_62 (lv_at hl 1 rfl) ?_
          refine n_ldc2 B hw_372 (x := lN 1000003) (by decide) dX5_fillSums_64 ?_
          refine n_lrem hx hb (by omega) (by omega) (by omega) dX5_fillSums_67 ?_
          refine lv_lload_n hx hb dX5_fillSums_68 rfl (lv_at hl 5 rfl) ?_
          refine n_lmul hx hb dX5_fillSums_69 ?_
          refine n_ldc2 B hw_372 (x := lN 1000003) (by decide) dX5_fillSums_70 ?_
          refine n_lrem hx hb (by omega) (by omega) (by omega) dX5_fillSums_73 ?_
          refine topl (y := (lN (sumsS c9 (k - 1) i))) (by rw [dvM_sums (by omega)]) ?_
          refine z_last B hW (kt) (by omega) h2 (i) (by omega) (by decide) dX5_fillSums_74 (fun H locs hW => ?_)
          refine lv_iinc (v := (nI (i + 1))) (lv' := [(4, .int (nI (i + 1))), (7, .int (nI (i + 1))), (5, .long (lN (dvM (k - 1) i i))), (0, .ref (ad (kt))), (1, .int (nI (k))), (2, .long (lN (c9)))]) hx hb dX5_fillSums_75 hl (k := 2) rfl (iinc1 _) (by decide) rfl (fun ls hl => ?_)
          refine lv_goto (tgt := 7) hx hb dX5_fillSums_78 (by decide) ?_
          refine ih H locs ls ⟨_, _, hW, lv_sub hl [0, 3, 4, 5] rfl, fun j hj => by rw [up_n hj]; exact h1 j hj, up_s, fun j hj => ?_⟩
          by_cases q : j = i
          · rw [q, pk_uLs]
          · rw [pk_uLn q]; exact h3 j (by omega)
        · omega
  · rintro H locs ls ⟨w2, f, hW, hl, h1, h2, h3⟩
    refine lv_iload hx hb dX5_fillSums_7 (lv_at hl 0 rfl) ?_
    refine lv_bipush (v := nI 48) hx hb dX5_fillSums_9 (by decide) ?_
    refine n_icmp_ge (tgt := 81) hx hb (by omega) (by omega) dX5_fillSums_11 (by decide) (fun hc => ?_) (fun hc => ?_)
    · exact ret_v B hr hlk hW ⟨h1, f, h2, h3⟩ dX5_fillSums_81
    · omega
set_option maxHeartbeats 4000000 in
set_option maxRecDepth 100000 in
theorem k_M_isIn (l : Launch) (G : zG) (n : Nat) (ad : Nat → Nat) (w : Nat → va_E) (v a b : Int) (h1 : -4611686018427387904 ≤ v) (h2 : v ≤ 4611686018427387904) (h3 : -4611686018427387904 ≤ a) (h4 : a ≤ 4611686018427387904) (h5 : -4611686018427387904 ≤ b) (h6 : b ≤ 4611686018427387904) :
    Ci l G yX5_isIn cdX5_isIn (zr 0) n ad w [.long (lZ v), .long (lZ a), .long (lZ b)] (fun r w' => w' = w ∧ ((a ≤ v ∧ v ≤ b ∧ r = nI 1) ∨ (¬ (a ≤ v ∧ v ≤ b) ∧ r = nI 0))) := by
  have iv := lZ_toInt (z := v) (by omega) (by omega)
  have ia := lZ_toInt (z := a) (by omega) (by omega)
  have ib := lZ_toInt (z := b) (by omega) (by omega)
  refine ent_i (cc := cX5_isIn) (maxL := 6) (ret := (some .boolean)) (by decide +kernel) rfl (Nat.le_of_ble_eq_true rfl) ?_
  intro p e s m args below meth c A B hr hlk hA H locs ls hW hl
  have hx := B.1
  have hb := B.2.1
  have hl : lv_has ls 6 [(0, .long (lZ (v))), (2, .long (lZ (a))), (4, .long (lZ (b)))] := hl
  refine lv_lload_n hx hb dX5_isIn_0 rfl (lv_at hl 0 rfl) ?_
  refine lv_lload_n hx hb dX5_isIn_1 rfl (lv_at hl 1 rfl) ?_
  refine lc_lt (tgt := 17) hx hb dX5_isIn_2 dX5_isIn_3 (by decide) (fun hc => ?_) (fun hc => ?_)
  · refine lv_iconst (v := nI 0) hx hb dX5_isIn_17 (by decide) ?_
    exact ret_z B hr hlk hW rfl ⟨rfl, Or.inr ⟨by rw [Int64.lt_iff_toInt_lt, iv, ia] at hc; omega, rfl⟩⟩ dX5_isIn_18
  · rw [Int64.le_iff_toInt_le, iv, ia] at hc
    refine lv_lload_n hx hb dX5_isIn_6 rfl (lv_at hl 0 rfl) ?_
    refine lv_lload hx hb dX5_isIn_7 (lv_at hl 2 rfl) ?_
    refine lc_gt (tgt := 17) hx hb dX5_isIn_9 dX5_isIn_10 (by decide) (fun hd => ?_) (fun hd => ?_)
    · refine lv_iconst (v := nI 0) hx hb dX5_isIn_17 (by decide) ?_
      exact ret_z B hr hlk hW rfl ⟨rfl, Or.inr ⟨by rw [Int64.lt_iff_toInt_lt, iv, ib] at hd; omega, rfl⟩⟩ dX5_isIn_18
    · refine lv_iconst (v := nI 1) hx hb dX5_isIn_13 (by decide) ?_
      refine lv_goto (tgt := 18) hx hb dX5_isIn_14 (by decide) ?_
      exact ret_z B hr hlk hW rfl ⟨rfl, Or.inl ⟨hc, by rw [Int64.le_iff_toInt_le, iv, ib] at hd; exact hd, rfl⟩⟩ dX5_isIn_18
set_option maxHeartbeats 4000000 in
set_option maxRecDepth 100000 in
theorem k_M_isRest (l : Launch) (G : zG) (n : Nat) (ad : Nat → Nat) (w : Nat → va_E) (z : Int) (h1 : -2147483648 ≤ z) (h2 : z < 2147483648) :
    Ci l G yX5_isRest cdX5_isRest (zr 0) n ad w [.int (iZ z)] (fun r w' => w' = w ∧ ((0 ≤ z ∧ z ≠ 2 ∧ r = nI 1) ∨ (¬ (0 ≤ z ∧ z ≠ 2) ∧ r = nI 0))) := by
  have iz := iZ_toInt h1 h2
  refine ent_i (cc := cX5_isRest) (maxL := 1) (ret := (some .boolean)) (by decide +kernel) rfl (Nat.le_of_ble_eq_true rfl) ?_
  intro p e s m args below meth c A B hr hlk hA H locs ls hW hl
  have hx := B.1
  have hb := B.2.1
  have hl : lv_has ls 1 [(0, .int (iZ (z)))] := hl
  refine lv_iload_n hx hb dX5_isRest_0 rfl (lv_at hl 0 rfl) ?_
  refine lv_if_lt (tgt := 13) hx hb dX5_isRest_1 (by decide) (fun hc => ?_) (fun hc => ?_)
  · refine lv_iconst (v := nI 0) hx hb dX5_isRest_13 (by decide) ?_
    exact ret_z B hr hlk hW rfl ⟨rfl, Or.inr ⟨fun q => by rw [Int32.lt_iff_toInt_lt, iz] at hc; exact absurd q.1 (Int.not_le.mpr hc), rfl⟩⟩ dX5_isRest_14
  · have hz0 : 0 ≤ z := by have := Int32.not_lt.mp hc; rw [Int32.le_iff_toInt_le, iz] at this; exact this
    refine lv_iload_n hx hb dX5_isRest_4 rfl (lv_at hl 0 rfl) ?_
    refine lv_iconst (v := nI 2) hx hb dX5_isRest_5 (by decide) ?_
    refine lv_icmp_eq (tgt := 13) hx hb dX5_isRest_6 (by decide) (fun hd => ?_) (fun hd => ?_)
    · refine lv_iconst (v := nI 0) hx hb dX5_isRest_13 (by decide) ?_
      exact ret_z B hr hlk hW rfl ⟨rfl, Or.inr ⟨fun q => q.2 (by have := congrArg Int32.toInt hd; rw [iz] at this; exact this), rfl⟩⟩ dX5_isRest_14
    · refine lv_iconst (v := nI 1) hx hb dX5_isRest_9 (by decide) ?_
      refine lv_goto (tgt := 14) hx hb dX5_isRest_10 (by decide) ?_
      exact ret_z B hr hlk hW rfl ⟨rfl, Or.inl ⟨hz0, fun q => hd (by rw [q]; rfl), rfl⟩⟩ dX5_isRest_14
set_option maxHeartbeats 4000000 in
set_option maxRecDepth 100000 in
theorem k_M_sizeOf (l : Launch) (G : zG) (n : Nat) (ad : Nat → Nat) (w : Nat → va_E) (k : Nat) (hk : k ≤ 40) (hk2 : k % 2 = 0) :
    Ci l G yX5_sizeOf cdX5_sizeOf (zr 1) n ad w [.int (nI k)] (fun r w' => w' = w ∧ r = nI (zs k)) := by
  have hzl := zs_le k hk
  refine ent_i (cc := cX5_sizeOf) (maxL := 2) (ret := (some .int)) (by decide +kernel) rfl (Nat.le_of_ble_eq_true rfl) ?_
  intro p e s m args below meth c A B hr hlk hA H locs ls hW hl
  have hx := B.1
  have hb := B.2.1
  have hl : lv_has ls 2 [(0, .int (nI (k)))] := hl
  refine lv_iconst (v := nI 0) hx hb dX5_sizeOf_0 (by decide) ?_
  refine lv_istore_n (lv' := [(1, .int (nI (0))), (0, .int (nI (k)))]) hx hb dX5_sizeOf_1 rfl hl (by decide) rfl (fun ls hl => ?_)
  refine z_up (Wg := fun H locs ls => W p l e (zr 1) s m args below meth c H locs 0 0 _ (F0 m 2 ls [])) (I := fun i H locs ls => Wo G A s.heap n ad w H locs ∧ lv_has ls 2 [(1, .int (nI i)), (0, .int (nI k))]) (a := 0) (b := zs k) (Nat.zero_le _) ?_ ?_ H locs ls ⟨hW, hl⟩
  · rintro i - hi ih H locs ls ⟨hW, hl⟩
    have h12 := zs_i12 k hk hk2 i hi
    refine lv_iload_n hx hb dX5_sizeOf_2 rfl (lv_at hl 1 rfl) ?_
    refine lv_bipush (v := nI 12) hx hb dX5_sizeOf_3 (by decide) ?_
    refine lv_iload_n hx hb dX5_sizeOf_5 rfl (lv_at hl 0 rfl) ?_
    refine n_imul hx hb dX5_sizeOf_6 ?_
    refine lv_isub hx hb dX5_sizeOf_7 ?_
    refine topi (y := (iZ ((k : Int) - 12 * (i : Nat)))) (by rw [nI_Z, nI_Z, iZ_sub]; congr 1) ?_
    refine call_si B hA hW (k_M_isRest l G n ad w ((k : Int) - 12 * (i : Nat)) (by omega) (by omega)) mf_X5_isRest hw_516 rfl ⟨⟨rfl, rfl⟩, by decide, by decide⟩ ⟨Nat.zero_le _, Nat.zero_le _⟩ hl.1 rfl (Nat.le_of_ble_eq_true rfl) dX5_sizeOf_8 (fun r w9 H locs hp hW => ?_)
    obtain ⟨e1, hp⟩ := hp
    rw [e1] at hW
    rcases hp with ⟨-, -, rfl⟩ | ⟨q, -⟩
    · refine n_if_eq (tgt := 20) hx hb (by omega) dX5_sizeOf_11 (by decide) (fun hz => ?_) (fun hz => ?_)
      · exact absurd hz (by decide)
      · refine lv_iinc (v := (nI (i + 1))) (lv' := [(1, .int (nI (i + 1))), (0, .int (nI (k)))]) hx hb dX5_sizeOf_14 hl (k := 0) rfl (iinc1 _) (by decide) rfl (fun ls hl => ?_)
        refine lv_goto (tgt := 2) hx hb dX5_sizeOf_17 (by decide) ?_
        exact ih H locs ls ⟨hW, hl⟩
    · exact absurd (show 0 ≤ (k : Int) - 12 * (i : Nat) ∧ (k : Int) - 12 * (i : Nat) ≠ 2 by omega) q
  · rintro H locs ls ⟨hW, hl⟩
    have hst := zs_stop k hk hk2
    refine lv_iload_n hx hb dX5_sizeOf_2 rfl (lv_at hl 1 rfl) ?_
    refine lv_bipush (v := nI 12) hx hb dX5_sizeOf_3 (by decide) ?_
    refine lv_iload_n hx hb dX5_sizeOf_5 rfl (lv_at hl 0 rfl) ?_
    refine n_imul hx hb dX5_sizeOf_6 ?_
    refine lv_isub hx hb dX5_sizeOf_7 ?_
    refine topi (y := (iZ ((k : Int) - 12 * (zs k : Nat)))) (by rw [nI_Z, nI_Z, iZ_sub]; congr 1) ?_
    refine call_si B hA hW (k_M_isRest l G n ad w ((k : Int) - 12 * (zs k : Nat)) (by omega) (by omega)) mf_X5_isRest hw_516 rfl ⟨⟨rfl, rfl⟩, by decide, by decide⟩ ⟨Nat.zero_le _, Nat.zero_le _⟩ hl.1 rfl (Nat.le_of_ble_eq_true rfl) dX5_sizeOf_8 (fun r w9 H locs hp hW => ?_)
    obtain ⟨e1, hp⟩ := hp
    rw [e1] at hW
    rcases hp with ⟨q1, q2, -⟩ | ⟨-, rfl⟩
    · omega
    · refine n_if_eq (tgt := 20) hx hb (by omega) dX5_sizeOf_11 (by decide) (fun hz => ?_) (fun hz => ?_)
      · refine lv_iload_n hx hb dX5_sizeOf_20 rfl (lv_at hl 0 rfl) ?_
        exact ret_i B hr hlk hW ⟨rfl, rfl⟩ dX5_sizeOf_21
      · exact absurd rfl hz
set_option maxHeartbeats 4000000 in
set_option maxRecDepth 100000 in
theorem k_M_isWeight (l : Launch) (G : zG) (n : Nat) (ad : Nat → Nat) (w : Nat → va_E) (x : Int32) :
    Ci l G yX5_isWeight cdX5_isWeight (zr 1) n ad w [.int x] (fun r w' => w' = w ∧ ((∃ k, k ≤ 40 ∧ k % 2 = 0 ∧ x = nI k ∧ r = nI 1) ∨ ((¬ ∃ k, k ≤ 40 ∧ k % 2 = 0 ∧ x = nI k) ∧ r = nI 0))) := by
  have hxr := rngI x
  refine ent_i (cc := cX5_isWeight) (maxL := 1) (ret := (some .boolean)) (by decide +kernel) rfl (Nat.le_of_ble_eq_true rfl) ?_
  intro p e s m args below meth c A B hr hlk hA H locs ls hW hl
  have hx := B.1
  have hb := B.2.1
  have hl : lv_has ls 1 [(0, .int (x))] := hl
  refine lv_iload_n hx hb dX5_isWeight_0 rfl (lv_at hl 0 rfl) ?_
  refine r_i2l hx hb dX5_isWeight_1 ?_
  refine lv_lconst (v := lZ 0) hx hb dX5_isWeight_2 (by decide) ?_
  refine n_ldc2 B hw_545 (x := lZ (40)) (by decide) dX5_isWeight_3 ?_
  refine call_si B hA hW (k_M_isIn l G n ad w x.toInt 0 40 (by omega) (by omega) (by omega) (by omega) (by omega) (by omega)) mf_X5_isIn hw_462 rfl ⟨⟨rfl, rfl⟩, by decide, by decide⟩ ⟨Nat.zero_le _, Nat.zero_le _⟩ hl.1 rfl (Nat.le_of_ble_eq_true rfl) dX5_isWeight_6 (fun r w9 H locs hp hW => ?_)
  obtain ⟨e1, hp⟩ := hp
  rw [e1] at hW
  rcases hp with ⟨q1, q2, rfl⟩ | ⟨q, rfl⟩
  · obtain ⟨j, hj, rfl⟩ := nI_of (x := x) (fun z => by rw [Int32.lt_iff_toInt_lt] at z; exact absurd q1 (Int.not_le.mpr z))
    rw [nI_toInt hj] at q2
    refine n_if_eq (tgt := 22) hx hb (by omega) dX5_isWeight_9 (by decide) (fun hz => ?_) (fun hz => ?_)
    · exact absurd hz (by decide)
    · refine lv_iload_n hx hb dX5_isWeight_12 rfl (lv_at hl 0 rfl) ?_
      refine lv_iconst (v := nI 2) hx hb dX5_isWeight_13 (by decide) ?_
      refine n_irem hx hb (by omega) (by omega) (by omega) dX5_isWeight_14 ?_
      refine n_if_ne (tgt := 22) hx hb (by omega) dX5_isWeight_15 (by decide) (fun he => ?_) (fun he => ?_)
      · refine lv_iconst (v := nI 0) hx hb dX5_isWeight_22 (by decide) ?_
        exact ret_z B hr hlk hW rfl ⟨rfl, Or.inr ⟨fun ⟨i, z1, z3, z2⟩ => by have := (nI_eq hj (by omega)).mp z2; omega, rfl⟩⟩ dX5_isWeight_23
      · refine lv_iconst (v := nI 1) hx hb dX5_isWeight_18 (by decide) ?_
        refine lv_goto (tgt := 23) hx hb dX5_isWeight_19 (by decide) ?_
        exact ret_z B hr hlk hW rfl ⟨rfl, Or.inl ⟨j, by omega, he, rfl, rfl⟩⟩ dX5_isWeight_23
  · refine n_if_eq (tgt := 22) hx hb (by omega) dX5_isWeight_9 (by decide) (fun hz => ?_) (fun hz => ?_)
    · refine lv_iconst (v := nI 0) hx hb dX5_isWeight_22 (by decide) ?_
      exact ret_z B hr hlk hW rfl ⟨rfl, Or.inr ⟨fun ⟨i, z1, z3, z2⟩ => q (by rw [z2, nI_toInt (by omega)]; omega), rfl⟩⟩ dX5_isWeight_23
    · exact absurd rfl hz
set_option maxHeartbeats 4000000 in
set_option maxRecDepth 100000 in
theorem k_M_rest (l : Launch) (G : zG) (n : Nat) (ad : Nat → Nat) (w : Nat → va_E) (x : Int32) :
    Cl l G yX5_rest cdX5_rest (zr 0) n ad w [.int x] (fun r w' => w' = w ∧ r = lN (zm x.toInt)) := by
  have hxr := rngI x
  have hal := fm_all x.toInt
  have hrz := rst_zm (z := x.toInt) (by omega) (by omega)
  refine ent_l (cc := cX5_rest) (maxL := 1) (ret := (some .long)) (by decide +kernel) rfl (Nat.le_of_ble_eq_true rfl) ?_
  intro p e s m args below meth c A B hr hlk hA H locs ls hW hl
  have hx := B.1
  have hb := B.2.1
  have hl : lv_has ls 1 [(0, .int (x))] := hl
  refine lv_iload_n hx hb dX5_rest_0 rfl (lv_at hl 0 rfl) ?_
  refine r_i2l hx hb dX5_rest_1 ?_
  refine n_ldc2 B hw_372 (x := lN 1000003) (by decide) dX5_rest_2 ?_
  refine lv_lrem hx hb dX5_rest_5 (by decide) ?_
  refine topl (y := (lZ (x.toInt.tmod 1000003))) (lZ_rem (by omega) (by omega) (by decide) (by decide)) ?_
  refine n_ldc2 B hw_372 (x := lZ (1000003)) (by decide) dX5_rest_6 ?_
  refine z_ladd hx hb dX5_rest_9 ?_
  refine topl (y := (lN ((x.toInt.tmod 1000003 + 1000003).toNat))) hrz.1 ?_
  refine n_ldc2 B hw_372 (x := lN 1000003) (by decide) dX5_rest_10 ?_
  refine n_lrem hx hb (by omega) (by omega) (by omega) dX5_rest_13 ?_
  exact ret_l B hr hlk hW ⟨rfl, by rw [hrz.2]⟩ dX5_rest_14
set_option maxHeartbeats 4000000 in
set_option maxRecDepth 100000 in
theorem k_M_multiplies (l : Launch) (G : zG) (n : Nat) (ad : Nat → Nat) (w : Nat → va_E) (h9 r9 : Int32) (e92 : w 92 = mO ad h9 r9) (hn : 111 ≤ n) (ka kb : Nat) (a b : Nat → Nat) (hka : ka < n) (hkb : kb < n) (hne : ka ≠ kb) (ha : isL G w ka 48 a) (hb0 : isL G w kb 48 b) (ra : sM a) (rb : sM b) :
    Cv l G yX5_multiplies cdX5_multiplies (zr 0) n ad w [.ref (ad 92), .ref (ad ka), .ref (ad kb)] (fun w' => (∀ j, j ≠ ka → w' j = w j) ∧ isL G w' ka 48 (mulS a b)) := by
  obtain ⟨fa, ea, va⟩ := ha
  obtain ⟨fb, eb, vb⟩ := hb0
  refine ent_v (cc := cX5_multiplies) (maxL := 7) (ret := none) (by decide +kernel) rfl (Nat.le_of_ble_eq_true rfl) ?_
  intro p e s m args below meth c A B hr hlk hA H locs ls hW hl
  have hx := B.1
  have hb := B.2.1
  have hl : lv_has ls 7 [(0, .ref (ad (92))), (1, .ref (ad (ka))), (2, .ref (ad (kb)))] := hl
  refine lv_bipush (v := nI 47) hx hb dX5_multiplies_0 (by decide) ?_
  refine lv_istore_n (lv' := [(3, .int (nI (47))), (0, .ref (ad (92))), (1, .ref (ad (ka))), (2, .ref (ad (kb)))]) hx hb dX5_multiplies_2 rfl hl (by decide) rfl (fun ls hl => ?_)
  refine z_dn (Wg := fun H locs ls => W p l e (zr 0) s m args below meth c H locs 0 0 _ (F0 m 3 ls [])) (I := fun k H locs ls => ∃ (w2 : Nat → va_E) (f : Nat → Int64), Wo G A s.heap n ad w2 H locs ∧ lv_has ls 7 [(3, .int (nI k - 1)), (0, .ref (ad 92)), (1, .ref (ad ka)), (2, .ref (ad kb))] ∧ k ≤ 48 ∧ (∀ j, j ≠ ka → w2 j = w j) ∧ w2 ka = eL G 48 f ∧ (∀ i, k ≤ i → i < 48 → f i = lN (mulS a b i)) ∧ (∀ i, i < k → f i = lN (a i))) ?_ ?_ 48 H locs ls ⟨w, fa, hW, (by rw [show nI 48 - 1 = nI 47 by decide]; exact hl), by omega, fun _ _ => rfl, ea, fun i h1 h2 => by omega, va⟩
  · rintro H locs ls ⟨w2, f, hW, hl, hk, h1, h2, h3, h4⟩
    refine lv_iload_n hx hb dX5_multiplies_3 rfl (lv_at hl 0 rfl) ?_
    refine lv_if_lt (tgt := 56) hx hb dX5_multiplies_4 (by decide) (fun hc => ?_) (fun hc => ?_)
    · exact ret_v B hr hlk hW ⟨h1, f, h2, fun i hi => h3 i (by omega) hi⟩ dX5_multiplies_56
    · exact absurd (by decide) hc
  · rintro k ih H locs ls ⟨w2, f, hW, hl, hk, h1, h2, h3, h4⟩
    rw [nI_pred] at hl
    have eb2 := (h1 kb (Ne.symm hne)).trans eb
    refine lv_iload_n hx hb dX5_multiplies_3 rfl (lv_at hl 0 rfl) ?_
    refine n_if_lt (tgt := 56) hx hb (by omega) dX5_multiplies_4 (by decide) ?_
    refine lv_lconst (v := lN 0) hx hb dX5_multiplies_7 (by decide) ?_
    refine lv_lstore (lv' := [(4, .long (lN (0))), (3, .int (nI (k))), (0, .ref (ad (92))), (1, .ref (ad (ka))), (2, .ref (ad (kb)))]) hx hb dX5_multiplies_8 hl (by decide) rfl (fun ls hl => ?_)
    refine lv_iconst (v := nI 0) hx hb dX5_multiplies_10 (by decide) ?_
    refine lv_istore (lv' := [(6, .int (nI (0))), (4, .long (lN (0))), (3, .int (nI (k))), (0, .ref (ad (92))), (1, .ref (ad (ka))), (2, .ref (ad (kb)))]) hx hb dX5_multiplies_11 hl (by decide) rfl (fun ls hl => ?_)
    refine z_up1 (Wg := fun ls => W p l e (zr 0) s m args below meth c H locs 0 0 _ (F0 m 13 ls [])) (I := fun i ls => lv_has ls 7 [(6, .int (nI i)), (4, .long (lN (cv a b k i % 1000003))), (3, .int (nI k)), (0, .ref (ad 92)), (1, .ref (ad ka)), (2, .ref (ad kb))]) (a := 0) (b := k + 1) (by omega) ?_ ?_ ls hl
    · intro i _ hi ih2 ls hl
      have hm := mul_lt (ra i (by omega)) (rb (k - i) (by omega))
      have hm2 := Nat.mod_lt (cv a b k i) (show 0 < 1000003 by decide)
      refine lv_iload hx hb dX5_multiplies_13 (lv_at hl 0 rfl) ?_
      refine lv_iload_n hx hb dX5_multiplies_15 rfl (lv_at hl 2 rfl) ?_
      refine n_icmp_gt (tgt := 45) hx hb (by omega) (by omega) dX5_multiplies_16 (by decide) (fun hc => ?_) (fun hc => ?_)
      · omega
      · refine lv_lload hx hb dX5_multiplies_19 (lv_at hl 1 rfl) ?_
        refine lv_aload_n hx hb dX5_multiplies_21 rfl (lv_at hl 4 rfl) ?_
        refine lv_iload hx hb dX5_multiplies_22 (lv_at hl 0 rfl) ?_
        refine z_lald B hW (ka) (by omega) h2 (i) (by omega) (by decide) (v := (lN (a (i)))) (h4 _ (by omega)) dX5_multiplies_24 ?_
        refine lv_aload_n hx hb dX5_multiplies_25 rfl (lv_at hl 5 rfl) ?_
        refine lv_iload_n hx hb dX5_multiplies_26 rfl (lv_at hl 2 rfl) ?_
        refine lv_iload hx hb dX5_multiplies_27 (lv_at hl 0 rfl) ?_
        refine n_isub hx hb (by omega) dX5_multiplies_29 ?_
        refine z_lald B hW (kb) (by omega) eb2 (k - i) (by omega) (by decide) (v := (lN (b (k - i)))) (vb _ (by omega)) dX5_multiplies_30 ?_
        refine n_lmul hx hb dX5_multiplies_31 ?_
        refine n_ladd hx hb dX5_multiplies_32 ?_
        refine n_ldc2 B hw_372 (x := lN 1000003) (by decide) dX5_multiplies_33 ?_
        refine n_lrem hx hb (by omega) (by omega) (by omega) dX5_multiplies_36 ?_
        refine topl (y := (lN (cv a b k (i + 1) % 1000003))) (by rw [cv_mod]) ?_
        refine lv_lstore (lv' := [(4, .long (lN (cv a b k (i + 1) % 1000003))), (6, .int (nI (i))), (3, .int (nI (k))), (0, .ref (ad (92))), (1, .ref (ad (ka))), (2, .ref (ad (kb)))]) hx hb dX5_multiplies_37 hl (by decide) rfl (fun ls hl => ?_)
        refine lv_iinc (v := (nI (i + 1))) (lv' := [(6, .int (nI (i + 1))), (4, .long (lN (cv a b k (i + 1) % 1000003))), (3, .int (nI (k))), (0, .ref (ad (92))), (1, .ref (ad (ka))), (2, .ref (ad (kb)))]) hx hb dX5_multiplies_39 hl (k := 1) rfl (iinc1 _) (by decide) rfl (fun ls hl => ?_)
        refine lv_goto (tgt := 13) hx hb dX5_multiplies_42 (by decide) ?_
        exact ih2 ls (lv_sub hl [0, 1, 2, 3, 4, 5] rfl)
    · intro ls hl
      refine lv_iload hx hb dX5_multiplies_13 (lv_at hl 0 rfl) ?_
      refine lv_iload_n hx hb dX5_multiplies_15 rfl (lv_at hl 2 rfl) ?_
      refine n_icmp_gt (tgt := 45) hx hb (by omega) (by omega) dX5_multiplies_16 (by decide) (fun hc => ?_) (fun hc => ?_)
      · refine lv_aload_n hx hb dX5_multiplies_45 rfl (lv_at hl 4 rfl) ?_
        refine lv_iload_n hx hb dX5_multiplies_46 rfl (lv_at hl 2 rfl) ?_
        refine lv_lload hx hb dX5_multiplies_47 (lv_at hl 1 rfl) ?_
        refine z_last B hW (ka) (by omega) h2 (k) (by omega) (by decide) dX5_multiplies_49 (fun H locs hW => ?_)
        refine lv_iinc (v := (nI (k) - 1)) (lv' := [(3, .int (nI (k) - 1)), (6, .int (nI (k + 1))), (4, .long (lN (cv a b k (k + 1) % 1000003))), (0, .ref (ad (92))), (1, .ref (ad (ka))), (2, .ref (ad (kb)))]) hx hb dX5_multiplies_50 hl (k := 2) rfl (im1 _) (by decide) rfl (fun ls hl => ?_)
        refine lv_goto (tgt := 3) hx hb dX5_multiplies_53 (by decide) ?_
        refine ih H locs ls ⟨_, _, hW, lv_sub hl [0, 3, 4, 5] rfl, by omega, fun j hj => by rw [up_n hj]; exact h1 j hj, up_s, fun i h5 h6 => ?_, fun i h5 => ?_⟩
        · by_cases q : i = k
          · subst q; exact pk_uLs
          · rw [pk_uLn q]; exact h3 i (by omega) h6
        · rw [pk_uLn (by omega)]; exact h4 i (by omega)
      · omega
set_option maxHeartbeats 4000000 in
set_option maxRecDepth 100000 in
theorem k_M_takes (l : Launch) (G : zG) (n : Nat) (ad : Nat → Nat) (w : Nat → va_E) (h9 r9 : Int32) (e92 : w 92 = mO ad h9 r9) (hn : 111 ≤ n) (kt i9 : Nat) (a : Nat → Nat) (ff : Nat → Int64) (e93 : w 93 = eL G 768 ff) (vf : ∀ q, q < 48 → ff (48 * i9 + q) = lN (a q)) (hi9 : i9 < 16) (hkt : kt < n) (n1 : kt ≠ 92) (n2 : kt ≠ 93) (hr0 : ∃ f, w kt = eL G 48 f) :
    Cv l G yX5_takes cdX5_takes (zr 0) n ad w [.ref (ad 92), .ref (ad kt), .int (nI i9)] (fun w' => (∀ j, j ≠ kt → w' j = w j) ∧ isL G w' kt 48 a) := by
  obtain ⟨fr, er⟩ := hr0
  refine ent_v (cc := cX5_takes) (maxL := 4) (ret := none) (by decide +kernel) rfl (Nat.le_of_ble_eq_true rfl) ?_
  intro p e s m args below meth c A B hr hlk hA H locs ls hW hl
  have hx := B.1
  have hb := B.2.1
  have hl : lv_has ls 4 [(0, .ref (ad (92))), (1, .ref (ad (kt))), (2, .int (nI (i9)))] := hl
  refine lv_iconst (v := nI 0) hx hb dX5_takes_0 (by decide) ?_
  refine lv_istore_n (lv' := [(3, .int (nI (0))), (0, .ref (ad (92))), (1, .ref (ad (kt))), (2, .int (nI (i9)))]) hx hb dX5_takes_1 rfl hl (by decide) rfl (fun ls hl => ?_)
  refine z_up (Wg := fun H locs ls => W p l e (zr 0) s m args below meth c H locs 0 0 _ (F0 m 2 ls [])) (I := fun q H locs ls => ∃ (w2 : Nat → va_E) (f : Nat → Int64), Wo G A s.heap n ad w2 H locs ∧ lv_has ls 4 [(3, .int (nI q)), (0, .ref (ad 92)), (1, .ref (ad kt)), (2, .int (nI i9))] ∧ (∀ j, j ≠ kt → w2 j = w j) ∧ w2 kt = eL G 48 f ∧ (∀ j, j < q → f j = lN (a j))) (a := 0) (b := 48) (Nat.zero_le _) ?_ ?_ H locs ls ⟨w, fr, hW, hl, fun _ _ => rfl, er, fun j h => by omega⟩
  · rintro q - hq ih H locs ls ⟨w2, f, hW, hl, h1, h2, h3⟩
    have e92b := (h1 92 (Ne.symm n1)).trans e92
    have e93b := (h1 93 (Ne.symm n2)).trans e93
    refine lv_iload_n hx hb dX5_takes_2 rfl (lv_at hl 0 rfl) ?_
    refine lv_bipush (v := nI 48) hx hb dX5_takes_3 (by decide) ?_
    refine n_icmp_ge (tgt := 28) hx hb (by omega) (by omega) dX5_takes_5 (by decide) (fun hc => ?_) (fun hc => ?_)
    · omega
    · refine lv_aload_n hx hb dX5_takes_8 rfl (lv_at hl 2 rfl) ?_
      refine lv_iload_n hx hb dX5_takes_9 rfl (lv_at hl 0 rfl) ?_
      refine lv_aload_n hx hb dX5_takes_10 rfl (lv_at hl 1 rfl) ?_
      refine z_get B hW (92) (by omega) e92b rfl inX5 0 (by decide) hw_375 rfl (v := .ref (ad (93))) rfl dX5_takes_11 ?_
      refine lv_bipush (v := nI 48) hx hb dX5_takes_14 (by decide) ?_
      refine lv_iload_n hx hb dX5_takes_16 rfl (lv_at hl 3 rfl) ?_
      refine n_imul hx hb dX5_takes_17 ?_
      refine lv_iload_n hx hb dX5_takes_18 rfl (lv_at hl 0 rfl) ?_
      refine n_iadd hx hb dX5_takes_19 ?_
      refine z_lald B hW (93) (by omega) e93b ((48 * i9) + q) (by omega) (by decide) (v := (lN (a q))) (vf _ hq) dX5_takes_20 ?_
      refine z_last B hW (kt) (by omega) h2 (q) (by omega) (by decide) dX5_takes_21 (fun H locs hW => ?_)
      refine lv_iinc (v := (nI (q + 1))) (lv' := [(3, .int (nI (q + 1))), (0, .ref (ad (92))), (1, .ref (ad (kt))), (2, .int (nI (i9)))]) hx hb dX5_takes_22 hl (k := 0) rfl (iinc1 _) (by decide) rfl (fun ls hl => ?_)
      refine lv_goto (tgt := 2) hx hb dX5_takes_25 (by decide) ?_
      refine ih H locs ls ⟨_, _, hW, lv_sub hl [0, 1, 2, 3] rfl, fun j hj => by rw [up_n hj]; exact h1 j hj, up_s, fun j hj => ?_⟩
      by_cases z : j = q
      · rw [z, pk_uLs]
      · rw [pk_uLn z]; exact h3 j (by omega)
  · rintro H locs ls ⟨w2, f, hW, hl, h1, h2, h3⟩
    refine lv_iload_n hx hb dX5_takes_2 rfl (lv_at hl 0 rfl) ?_
    refine lv_bipush (v := nI 48) hx hb dX5_takes_3 (by decide) ?_
    refine n_icmp_ge (tgt := 28) hx hb (by omega) (by omega) dX5_takes_5 (by decide) (fun hc => ?_) (fun hc => ?_)
    · exact ret_v B hr hlk hW ⟨h1, f, h2, h3⟩ dX5_takes_28
    · omega
