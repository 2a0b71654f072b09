set_option maxHeartbeats 4000000 in
set_option maxRecDepth 100000 in
theorem k_putOne (l : Launch) (G : zG) (n : Nat) (ad : Nat → Nat) (w : Nat → va_E) (kr : Nat) (hkr : kr < n) (hr0 : ∃ f, w kr = eL G 48 f) :
    Cv l G yX3_putOne cdX3_putOne (zr 0) n ad w [.ref (ad kr)] (fun w' => (∀ j, j ≠ kr → w' j = w j) ∧ isL G w' kr 48 oneS) := by
  obtain ⟨fr, er⟩ := hr0
  refine ent_v (cc := cX3_putOne) (maxL := 2) (ret := none) (by decide +kernel) rfl (Nat.le_of_ble_eq_true rfl) ?_
  intro p e s m args below meth c A B hr hlk hA H locs ls hW hl
  have hx := B.1
  have hb := B.2.1
  have hl : lv_has ls 2 [(0, .ref (ad (kr)))] := hl
  refine lv_iconst (v := nI 0) hx hb dX3_putOne_0 (by decide) ?_
  refine lv_istore_n (lv' := [(1, .int (nI (0))), (0, .ref (ad (kr)))]) hx hb dX3_putOne_1 rfl hl (by decide) rfl (fun ls hl => ?_)
  refine z_up (Wg := fun H locs ls => W p l e (zr 0) s m args below meth c H locs 0 0 _ (F0 m 2 ls [])) (I := fun k H locs ls => ∃ (w2 : Nat → va_E) (f : Nat → Int64), Wo G A s.heap n ad w2 H locs ∧ lv_has ls 2 [(1, .int (nI k)), (0, .ref (ad kr))] ∧ (∀ j, j ≠ kr → w2 j = w j) ∧ w2 kr = eL G 48 f ∧ (∀ i, i < k → f i = lN (oneS i))) (a := 0) (b := 48) (by omega) ?_ ?_ H locs ls ⟨w, fr, hW, hl, fun _ _ => rfl, er, fun i h => by omega⟩
  · rintro k - hk ih H locs ls ⟨w2, f, hW, hl, h1, h2, h3⟩
    refine lv_iload_n hx hb dX3_putOne_2 rfl (lv_at hl 0 rfl) ?_
    refine lv_bipush (v := nI 48) hx hb dX3_putOne_3 (by decide) ?_
    refine n_icmp_ge (tgt := 26) hx hb (by omega) (by omega) dX3_putOne_5 (by decide) (fun hc => ?_) (fun hc => ?_)
    · omega
    · refine lv_aload_n hx hb dX3_putOne_8 rfl (lv_at hl 1 rfl) ?_
      refine lv_iload_n hx hb dX3_putOne_9 rfl (lv_at hl 0 rfl) ?_
      refine lv_iload_n hx hb dX3_putOne_10 rfl (lv_at hl 0 rfl) ?_
      refine n_if_ne (tgt := 18) hx hb (by omega) dX3_putOne_11 (by decide) (fun hd => ?_) (fun hd => ?_)
      · refine lv_lconst (v := lN 0) hx hb dX3_putOne_18 (by decide) ?_
        refine z_last B hW (kr) (by omega) h2 (k) (by omega) (by decide) dX3_putOne_19 (fun H locs hW => ?_)
        refine lv_iinc (v := (nI (k + 1))) (lv' := [(1, .int (nI (k + 1))), (0, .ref (ad (kr)))]) hx hb dX3_putOne_20 hl (k := 0) rfl (iinc1 _) (by decide) rfl (fun ls hl => ?_)
        refine lv_goto (tgt := 2) hx hb dX3_putOne_23 (by decide) ?_
        refine ih H locs ls ⟨_, _, hW, hl, fun j hj => by rw [up_n hj]; exact h1 j hj, up_s, fun i hi => ?_⟩
        by_cases q : i = k
        · subst q; rw [pk_uLs]; simp [oneS, hd]
        · rw [pk_uLn q]; exact h3 i (by omega)
      · refine lv_lconst (v := lN 1) hx hb dX3_putOne_14 (by decide) ?_
        refine lv_goto (tgt := 19) hx hb dX3_putOne_15 (by decide) ?_
        refine z_last B hW (kr) (by omega) h2 (k) (by omega) (by decide) dX3_putOne_19 (fun H locs hW => ?_)
        refine lv_iinc (v := (nI (k + 1))) (lv' := [(1, .int (nI (k + 1))), (0, .ref (ad (kr)))]) hx hb dX3_putOne_20 hl (k := 0) rfl (iinc1 _) (by decide) rfl (fun ls hl => ?_)
        refine lv_goto (tgt := 2) hx hb dX3_putOne_23 (by decide) ?_
        refine ih H locs ls ⟨_, _, hW, hl, fun j hj => by rw [up_n hj]; exact h1 j hj, up_s, fun i hi => ?_⟩
        by_cases q : i = k
        · subst q; rw [pk_uLs]; simp [oneS, hd]
        · rw [pk_uLn q]; exact h3 i (by omega)
  · rintro H locs ls ⟨w2, f, hW, hl, h1, h2, h3⟩
    refine lv_iload_n hx hb dX3_putOne_2 rfl (lv_at hl 0 rfl) ?_
    refine lv_bipush (v := nI 48) hx hb dX3_putOne_3 (by decide) ?_
    refine n_icmp_ge (tgt := 26) hx hb (by omega) (by omega) dX3_putOne_5 (by decide) (fun hc => ?_) (fun hc => ?_)
    · exact ret_v B hr hlk hW ⟨h1, f, h2, h3⟩ dX3_putOne_26
    · omega
set_option maxHeartbeats 4000000 in
set_option maxRecDepth 100000 in
theorem k_raise (l : Launch) (G : zG) (n : Nat) (ad : Nat → Nat) (w : Nat → va_E) (ka kr e9 : Nat) (a : Nat → Nat) (hka : ka < n) (hkr : kr < n) (hne : ka ≠ kr) (he : e9 < 32) (ha : isL G w ka 48 a) (ra : red a) (hr0 : ∃ f, w kr = eL G 48 f) :
    Cv l G yX3_raise cdX3_raise (zr 1) n ad w [.ref (ad ka), .int (nI e9), .ref (ad kr)] (fun w' => (∀ j, j ≠ kr → w' j = w j) ∧ isL G w' kr 48 (powS a e9)) := by
  refine ent_v (cc := cX3_raise) (maxL := 4) (ret := none) (by decide +kernel) rfl (Nat.le_of_ble_eq_true rfl) ?_
  intro p e s m args below meth c A B hr hlk hA H locs ls hW hl
  have hx := B.1
  have hb := B.2.1
  have hl : lv_has ls 4 [(0, .ref (ad (ka))), (1, .int (nI (e9))), (2, .ref (ad (kr)))] := hl
  refine lv_aload_n hx hb dX3_raise_0 rfl (lv_at hl 2 rfl) ?_
  refine call_sv B hA hW (k_putOne l G n ad w kr hkr hr0) mf_X3_putOne hw_39 rfl ⟨⟨rfl, rfl⟩, by decide, by decide⟩ ⟨Nat.zero_le _, Nat.zero_le _⟩ hl.1 rfl (Nat.le_of_ble_eq_true rfl) dX3_raise_1 (fun w2 H locs hp hW => ?_)
  obtain ⟨h1, h2⟩ := hp
  refine lv_iconst (v := nI 4) hx hb dX3_raise_4 (by decide) ?_
  refine lv_istore_n (lv' := [(3, .int (nI (4))), (0, .ref (ad (ka))), (1, .int (nI (e9))), (2, .ref (ad (kr)))]) hx hb dX3_raise_5 rfl hl (by decide) rfl (fun ls hl => ?_)
  refine z_dn (Wg := fun H locs ls => W p l e (zr 1) s m args below meth c H locs 0 0 _ (F0 m 6 ls [])) (I := fun k H locs ls => k ≤ 5 ∧ ∃ w2 : Nat → va_E, Wo G A s.heap n ad w2 H locs ∧ lv_has ls 4 [(3, .int (nI k - 1)), (0, .ref (ad ka)), (1, .int (nI e9)), (2, .ref (ad kr))] ∧ (∀ j, j ≠ kr → w2 j = w j) ∧ isL G w2 kr 48 (powS a (e9 / 2 ^ k))) ?_ ?_ 5 H locs ls ⟨by omega, w2, hW, (by rw [show nI 5 - 1 = nI 4 by decide]; exact hl), h1, (by rw [Nat.div_eq_of_lt he]; exact h2)⟩
  · rintro H locs ls ⟨-, w2, hW, hl, h1, h2⟩
    rw [show e9 / 2 ^ 0 = e9 by simp] at h2
    refine lv_iload_n hx hb dX3_raise_6 rfl (lv_at hl 0 rfl) ?_
    refine lv_if_lt (tgt := 37) hx hb dX3_raise_7 (by decide) (fun hc => ?_) (fun hc => ?_)
    · exact ret_v B hr hlk hW ⟨h1, h2⟩ dX3_raise_37
    · exact absurd (by decide) hc
  · rintro k ih H locs ls ⟨hk, w2, hW, hl, h1, h2⟩
    rw [nI_pred] at hl
    have hbs := bit_step e9 k
    generalize e9 / 2 ^ (k + 1) = q at hbs h2
    refine lv_iload_n hx hb dX3_raise_6 rfl (lv_at hl 0 rfl) ?_
    refine n_if_lt (tgt := 37) hx hb (by omega) dX3_raise_7 (by decide) ?_
    refine lv_aload_n hx hb dX3_raise_10 rfl (lv_at hl 3 rfl) ?_
    refine lv_aload_n hx hb dX3_raise_11 rfl (lv_at hl 3 rfl) ?_
    refine lv_aload_n hx hb dX3_raise_12 rfl (lv_at hl 3 rfl) ?_
    have h2f : ∃ f, w2 kr = eL G 48 f := ⟨_, h2.choose_spec.1⟩
    refine call_sv B hA hW (k_X3_multiply l G n ad w2 kr kr kr (powS a q) (powS a q) hkr hkr hkr h2 h2 h2f (red_pow a q).s (red_pow a q).s) mf_X3_multiply hw_53 rfl ⟨⟨rfl, rfl⟩, by decide, by decide⟩ ⟨Nat.zero_le _, Nat.zero_le _⟩ hl.1 rfl (Nat.le_of_ble_eq_true rfl) dX3_raise_13 (fun w3 H locs hp hW => ?_)
    obtain ⟨h3, h4⟩ := hp
    rw [← powS_add, ← Nat.two_mul] at h4
    refine lv_iload_n hx hb dX3_raise_16 rfl (lv_at hl 2 rfl) ?_
    refine lv_iload_n hx hb dX3_raise_17 rfl (lv_at hl 0 rfl) ?_
    refine lv_ishr hx hb dX3_raise_18 ?_
    refine lv_iconst (v := nI 1) hx hb dX3_raise_19 (by decide) ?_
    refine lv_iand hx hb dX3_raise_20 ?_
    refine topi (y := (nI (e9 / 2 ^ k % 2))) (shr_bit (by omega) (by omega)) ?_
    refine lv_iconst (v := nI 1) hx hb dX3_raise_21 (by decide) ?_
    have hr2 := Nat.mod_lt (e9 / 2 ^ k) (show 0 < 2 by decide)
    refine n_icmp_ne (tgt := 31) hx hb (by omega) (by omega) dX3_raise_22 (by decide) (fun hc => ?_) (fun hc => ?_)
    · have h0 : e9 / 2 ^ k % 2 = 0 := by omega
      refine lv_iinc (v := (nI (k) - 1)) (lv' := [(3, .int (nI (k) - 1)), (0, .ref (ad (ka))), (1, .int (nI (e9))), (2, .ref (ad (kr)))]) hx hb dX3_raise_31 hl (k := 0) rfl (im1 _) (by decide) rfl (fun ls hl => ?_)
      refine lv_goto (tgt := 6) hx hb dX3_raise_34 (by decide) ?_
      exact ih H locs ls ⟨by omega, w3, hW, lv_sub hl [0, 1, 2, 3] rfl, fun j hj => by rw [h3 j hj, h1 j hj], by rw [hbs, h0, Nat.add_zero]; exact h4⟩
    · have h4f : ∃ f, w3 kr = eL G 48 f := ⟨_, h4.choose_spec.1⟩
      have ha3 : isL G w3 ka 48 a := by unfold isL; rw [h3 ka hne, h1 ka hne]; exact ha
      refine lv_aload_n hx hb dX3_raise_25 rfl (lv_at hl 3 rfl) ?_
      refine lv_aload_n hx hb dX3_raise_26 rfl (lv_at hl 1 rfl) ?_
      refine lv_aload_n hx hb dX3_raise_27 rfl (lv_at hl 3 rfl) ?_
      refine call_sv B hA hW (k_X3_multiply l G n ad w3 kr ka kr (powS a (2 * q)) a hkr hka hkr h4 ha3 h4f (red_pow a (2 * q)).s ra.s) mf_X3_multiply hw_53 rfl ⟨⟨rfl, rfl⟩, by decide, by decide⟩ ⟨Nat.zero_le _, Nat.zero_le _⟩ hl.1 rfl (Nat.le_of_ble_eq_true rfl) dX3_raise_28 (fun w4 H locs hp hW => ?_)
      obtain ⟨h5, h6⟩ := hp
      refine lv_iinc (v := (nI (k) - 1)) (lv' := [(3, .int (nI (k) - 1)), (0, .ref (ad (ka))), (1, .int (nI (e9))), (2, .ref (ad (kr)))]) hx hb dX3_raise_31 hl (k := 0) rfl (im1 _) (by decide) rfl (fun ls hl => ?_)
      refine lv_goto (tgt := 6) hx hb dX3_raise_34 (by decide) ?_
      exact ih H locs ls ⟨by omega, w4, hW, lv_sub hl [0, 1, 2, 3] rfl, fun j hj => by rw [h5 j hj, h3 j hj, h1 j hj], by rw [hbs, hc]; exact h6⟩
set_option maxHeartbeats 4000000 in
set_option maxRecDepth 100000 in
theorem k_putSums (l : Launch) (G : zG) (n : Nat) (ad : Nat → Nat) (w : Nat → va_E) (kr c9 e9 : Nat) (hkr : kr < n) (hc9 : c9 < 1000003) (he : e9 < 2 ^ 31) (hr0 : ∃ f, w kr = eL G 48 f) :
    Cv l G yX3_putSums cdX3_putSums (zr 1) n ad w [.long (lN c9), .int (nI e9), .ref (ad kr)] (fun w' => (∀ j, j ≠ kr → w' j = w j) ∧ isL G w' kr 48 (sumsS c9 e9)) := by
  refine ent_v (cc := cX3_putSums) (maxL := 8) (ret := none) (by decide +kernel) rfl (Nat.le_of_ble_eq_true rfl) ?_
  intro p e s m args below meth c A B hr hlk hA H locs ls hW hl
  have hx := B.1
  have hb := B.2.1
  have hl : lv_has ls 8 [(0, .long (lN (c9))), (2, .int (nI (e9))), (3, .ref (ad (kr)))] := hl
  refine lv_aload_n hx hb dX3_putSums_0 rfl (lv_at hl 2 rfl) ?_
  refine call_sv B hA hW (k_putOne l G n ad w kr hkr hr0) mf_X3_putOne hw_39 rfl ⟨⟨rfl, rfl⟩, by decide, by decide⟩ ⟨Nat.zero_le _, Nat.zero_le _⟩ hl.1 rfl (Nat.le_of_ble_eq_true rfl) dX3_putSums_1 (fun w2 H locs hp hW => ?_)
  obtain ⟨h1, f2, h2, h3⟩ := hp
  refine lv_iconst (v := nI 1) hx hb dX3_putSums_4 (by decide) ?_
  refine lv_istore (lv' := [(4, .int (nI (1))), (0, .long (lN (c9))), (2, .int (nI (e9))), (3, .ref (ad (kr)))]) hx hb dX3_putSums_5 hl (by decide) rfl (fun ls hl => ?_)
  refine z_up (Wg := fun H locs ls => W p l e (zr 1) s m args below meth c H locs 0 0 _ (F0 m 7 ls [])) (I := fun d H locs ls => ∃ (w2 : Nat → va_E) (f : Nat → Int64), Wo G A s.heap n ad w2 H locs ∧ lv_has ls 8 [(4, .int (nI d)), (0, .long (lN c9)), (2, .int (nI e9)), (3, .ref (ad kr))] ∧ (∀ j, j ≠ kr → w2 j = w j) ∧ w2 kr = eL G 48 f ∧ f 0 = lN 1 ∧ (∀ i, 0 < i → i < 48 → f i = lN (dvC c9 e9 i (d - 1) % 1000003))) (a := 1) (b := 48) (by omega) ?_ ?_ H locs ls ⟨w2, f2, hW, hl, h1, h2, h3 0 (by omega), fun i q1 q2 => by rw [h3 i q2]; simp [oneS, dvC, show i ≠ 0 by omega]⟩
  · rintro d hd1 hd ih H locs ls ⟨w2, f, hW, hl, h1, h2, h3, h4⟩
    refine lv_iload hx hb dX3_putSums_7 (lv_at hl 0 rfl) ?_
    refine lv_bipush (v := nI 48) hx hb dX3_putSums_9 (by decide) ?_
    refine n_icmp_ge (tgt := 71) hx hb (by omega) (by omega) dX3_putSums_11 (by decide) (fun hc => ?_) (fun hc => ?_)
    · omega
    · refine lv_lload_n hx hb dX3_putSums_14 rfl (lv_at hl 1 rfl) ?_
      refine lv_iload hx hb dX3_putSums_15 (lv_at hl 0 rfl) ?_
      refine n_i2l hx hb (by omega) dX3_putSums_17 ?_
      refine lv_iload_n hx hb dX3_putSums_18 rfl (lv_at hl 2 rfl) ?_
      refine call_sl B hA hW (k_raised l G n ad w2 d e9 (by omega) he) mf_X2_raised hw_42 rfl ⟨⟨rfl, rfl⟩, by decide, by decide⟩ ⟨Nat.zero_le _, Nat.zero_le _⟩ hl.1 rfl (Nat.le_of_ble_eq_true rfl) dX3_putSums_19 (fun r w3 H locs hp hW => ?_)
      obtain ⟨e1, e2⟩ := hp
      rw [e1] at hW
      subst e2
      have hml := mul_lt hc9 (Nat.mod_lt (d ^ e9) (show 0 < 1000003 by decide))
      refine n_lmul hx hb dX3_putSums_22 ?_
      refine n_ldc2 B hw_45 (x := lN 1000003) (by decide) dX3_putSums_23 ?_
      refine n_lrem hx hb (by omega) (by omega) (by omega) dX3_putSums_26 ?_
      obtain ⟨sh, hsh⟩ : ∃ sh, sh = c9 * (d ^ e9 % 1000003) % 1000003 := ⟨_, rfl⟩
      have hshl : sh < 1000003 := by rw [hsh]; exact Nat.mod_lt _ (by decide)
      refine topl (y := (lN (sh))) (by rw [hsh]) ?_
      refine lv_lstore (lv' := [(5, .long (lN (sh))), (4, .int (nI (d))), (0, .long (lN (c9))), (2, .int (nI (e9))), (3, .ref (ad (kr)))]) hx hb dX3_putSums_27 hl (by decide) rfl (fun ls hl => ?_)
      refine lv_iload hx hb dX3_putSums_29 (lv_at hl 1 rfl) ?_
      refine lv_istore (lv' := [(7, .int (nI (d))), (5, .long (lN (sh))), (4, .int (nI (d))), (0, .long (lN (c9))), (2, .int (nI (e9))), (3, .ref (ad (kr)))]) hx hb dX3_putSums_31 hl (by decide) rfl (fun ls hl => ?_)
      refine z_up (Wg := fun H locs ls => W p l e (zr 1) s m args below meth c H locs 0 0 _ (F0 m 33 ls [])) (I := fun j H locs ls => ∃ (w3 : Nat → va_E) (g : Nat → Int64), Wo G A s.heap n ad w3 H locs ∧ lv_has ls 8 [(7, .int (nI (d * j))), (5, .long (lN sh)), (4, .int (nI d)), (0, .long (lN c9)), (2, .int (nI e9)), (3, .ref (ad kr))] ∧ (∀ i, i ≠ kr → w3 i = w i) ∧ w3 kr = eL G 48 g ∧ g 0 = lN 1 ∧ (∀ i, 0 < i → i < 48 → g i = if i < d * j ∧ i % d = 0 then lN ((dvC c9 e9 i (d - 1) + sh) % 1000003) else f i)) (a := 1) (b := 47 / d + 1) (Nat.le_add_left 1 _) ?_ ?_ H locs ls ⟨w2, f, hW, (by rw [Nat.mul_one]; exact hl), h1, h2, h3, fun i q1 q2 => by rw [if_neg]; rintro ⟨q3, q4⟩; rw [Nat.mul_one] at q3; rw [Nat.mod_eq_of_lt q3] at q4; omega⟩
      · rintro j hj1 hj ih2 H locs ls ⟨w3, g, hW, hl, g1, g2, g3, g4⟩
        have hjd : d * j < 48 := by
          have q := Nat.mul_le_mul_left d (show j ≤ 47 / d by omega)
          have q2 := Nat.mul_div_le 47 d
          omega
        have hjp : 0 < d * j := Nat.mul_pos (by omega) (by omega)
        have hgj : g (d * j) = lN (dvC c9 e9 (d * j) (d - 1) % 1000003) := by rw [g4 _ hjp hjd, if_neg (by omega), h4 _ hjp hjd]
        have hdl := Nat.mod_lt (dvC c9 e9 (d * j) (d - 1)) (show 0 < 1000003 by decide)
        refine lv_iload hx hb dX3_putSums_33 (lv_at hl 0 rfl) ?_
        refine lv_bipush (v := nI 48) hx hb dX3_putSums_35 (by decide) ?_
        refine n_icmp_ge (tgt := 65) hx hb (by omega) (by omega) dX3_putSums_37 (by decide) (fun hc => ?_) (fun hc => ?_)
        · omega
        · refine lv_aload_n hx hb dX3_putSums_40 rfl (lv_at hl 5 rfl) ?_
          refine lv_iload hx hb dX3_putSums_41 (lv_at hl 0 rfl) ?_
          refine lv_aload_n hx hb dX3_putSums_43 rfl (lv_at hl 5 rfl) ?_
          refine lv_iload hx hb dX3_putSums_44 (lv_at hl 0 rfl) ?_
          refine z_lald B hW (kr) (by omega) g2 (d * j) (by omega) (by decide) (v := (lN (dvC c9 e9 (d * j) (d - 1) % 1000003))) hgj dX3_putSums_46 ?_
          refine lv_lload hx hb dX3_putSums_47 (lv_at hl 1 rfl) ?_
          refine n_ladd hx hb dX3_putSums_49 ?_
          refine n_ldc2 B hw_45 (x := lN 1000003) (by decide) dX3_putSums_50 ?_
          refine n_lrem hx hb (by omega) (by omega) (by omega) dX3_putSums_53 ?_
          refine z_last B hW (kr) (by omega) g2 (d * j) (by omega) (by decide) dX3_putSums_54 (fun H locs hW => ?_)
          refine lv_iload hx hb dX3_putSums_55 (lv_at hl 0 rfl) ?_
          refine lv_iload hx hb dX3_putSums_57 (lv_at hl 2 rfl) ?_
          refine n_iadd hx hb dX3_putSums_59 ?_
          refine topi (y := (nI (d * (j + 1)))) (by rw [Nat.mul_add, Nat.mul_one]) ?_
          refine lv_istore (lv' := [(7, .int (nI (d * (j + 1)))), (5, .long (lN (sh))), (4, .int (nI (d))), (0, .long (lN (c9))), (2, .int (nI (e9))), (3, .ref (ad (kr)))]) hx hb dX3_putSums_60 hl (by decide) rfl (fun ls hl => ?_)
          refine lv_goto (tgt := 33) hx hb dX3_putSums_62 (by decide) ?_
          refine ih2 H locs ls ⟨_, _, hW, lv_sub hl [0, 1, 2, 3, 4, 5] rfl, fun i hi => by rw [up_n hi]; exact g1 i hi, up_s, by rw [pk_uLn (by omega)]; exact g3, fun i q1 q2 => ?_⟩
          by_cases q : i = d * j
          · subst q
            rw [pk_uLs, if_pos ⟨by rw [Nat.mul_add]; omega, Nat.mul_mod_right d j⟩, Nat.add_mod, Nat.mod_mod, ← Nat.add_mod]
          · rw [pk_uLn q, g4 i q1 q2]
            have hiff : (i < d * (j + 1) ∧ i % d = 0) ↔ (i < d * j ∧ i % d = 0) := by
              constructor
              · rintro ⟨a1, a2⟩
                refine ⟨?_, a2⟩
                have a3 : i = d * (i / d) := by have := Nat.div_add_mod i d; omega
                rw [a3] at a1
                have a4 : i / d < j + 1 := Nat.lt_of_mul_lt_mul_left a1
                have a5 : i / d ≠ j := fun z => q (by rw [a3, z])
                rw [a3]
                exact Nat.mul_lt_mul_of_pos_left (by omega) (by omega)
              · rintro ⟨a1, a2⟩
                exact ⟨by rw [Nat.mul_add]; omega, a2⟩
            by_cases z : i < d * j ∧ i % d = 0
            · rw [if_pos z, if_pos (hiff.mpr z)]
            · rw [if_neg z, if_neg (fun y => z (hiff.mp y))]
      · rintro H locs ls ⟨w3, g, hW, hl, g1, g2, g3, g4⟩
        have hbig : 48 ≤ d * (47 / d + 1) := by
          have := Nat.lt_mul_div_succ 47 (show 0 < d by omega)
          omega
        have hsm : d * (47 / d + 1) < 2 ^ 31 := by
          have q2 := Nat.mul_div_le 47 d
          rw [Nat.mul_add]
          omega
        refine lv_iload hx hb dX3_putSums_33 (lv_at hl 0 rfl) ?_
        refine lv_bipush (v := nI 48) hx hb dX3_putSums_35 (by decide) ?_
        refine n_icmp_ge (tgt := 65) hx hb (by omega) (by omega) dX3_putSums_37 (by decide) (fun hc => ?_) (fun hc => ?_)
        · refine lv_iinc (v := (nI (d + 1))) (lv' := [(4, .int (nI (d + 1))), (7, .int (nI (d * (47 / d + 1)))), (5, .long (lN (sh))), (0, .long (lN (c9))), (2, .int (nI (e9))), (3, .ref (ad (kr)))]) hx hb dX3_putSums_65 hl (k := 2) rfl (iinc1 _) (by decide) rfl (fun ls hl => ?_)
          refine lv_goto (tgt := 7) hx hb dX3_putSums_68 (by decide) ?_
          refine ih H locs ls ⟨w3, g, hW, lv_sub hl [0, 3, 4, 5] rfl, g1, g2, g3, fun i q1 q2 => ?_⟩
          rw [g4 i q1 q2]
          obtain ⟨d2, rfl⟩ : ∃ d2, d = d2 + 1 := ⟨d - 1, by omega⟩
          simp only [Nat.add_sub_cancel]
          have hdv : dvC c9 e9 i (d2 + 1) = dvC c9 e9 i d2 + (if i % (d2 + 1) = 0 then c9 * ((d2 + 1) ^ e9 % 1000003) % 1000003 else 0) := rfl
          rw [hdv]
          by_cases z : i % (d2 + 1) = 0
          · rw [if_pos ⟨by omega, z⟩, if_pos z, hsh]
          · rw [if_neg (fun y => z y.2), h4 i q1 q2, if_neg z, Nat.add_zero]
            rfl
        · omega
  · rintro H locs ls ⟨w2, f, hW, hl, h1, h2, h3, h4⟩
    refine lv_iload hx hb dX3_putSums_7 (lv_at hl 0 rfl) ?_
    refine lv_bipush (v := nI 48) hx hb dX3_putSums_9 (by decide) ?_
    refine n_icmp_ge (tgt := 71) hx hb (by omega) (by omega) dX3_putSums_11 (by decide) (fun hc => ?_) (fun hc => ?_)
    · refine ret_v B hr hlk hW ⟨h1, f, h2, fun i hi => ?_⟩ dX3_putSums_71
      unfold sumsS
      by_cases q : i = 0
      · subst q; rw [if_pos rfl]; exact h3
      · rw [if_neg q, h4 i (by omega) hi, ← dvC_eq, dvC_more c9 e9 (by omega) (48 - 1) (by omega)]
    · omega
set_option maxHeartbeats 4000000 in
set_option maxRecDepth 100000 in
theorem k_leastPlace (l : Launch) (G : zG) (n : Nat) (ad : Nat → Nat) (w : Nat → va_E) (ka : Nat) (a : Nat → Nat) (hka : ka < n) (ha : isL G w ka 48 a) (ra : sM a) :
    Ci l G yX3_leastPlace cdX3_leastPlace (zr 0) n ad w [.ref (ad ka)] (fun r w' => w' = w ∧ lstR a r) := by
  obtain ⟨fa, ea, va⟩ := ha
  refine ent_i (cc := cX3_leastPlace) (maxL := 2) (ret := (some .int)) (by decide +kernel) rfl (Nat.le_of_ble_eq_true rfl) ?_
  intro p e s m args below meth c A B hr hlk hA H locs ls hW hl
  have hx := B.1
  have hb := B.2.1
  have hl : lv_has ls 2 [(0, .ref (ad (ka)))] := hl
  refine lv_iconst (v := nI 0) hx hb dX3_leastPlace_0 (by decide) ?_
  refine lv_istore_n (lv' := [(1, .int (nI (0))), (0, .ref (ad (ka)))]) hx hb dX3_leastPlace_1 rfl hl (by decide) rfl (fun ls hl => ?_)
  refine z_up1 (Wg := fun ls => W p l e (zr 0) s m args below meth c H locs 0 0 _ (F0 m 2 ls [])) (I := fun k ls => lv_has ls 2 [(1, .int (nI k)), (0, .ref (ad ka))] ∧ ∀ i, i < k → a i = 0) (a := 0) (b := 48) (by omega) ?_ ?_ ls ⟨hl, fun i h => by omega⟩
  · rintro k - hk ih ls ⟨hl, h1⟩
    refine lv_iload_n hx hb dX3_leastPlace_2 rfl (lv_at hl 0 rfl) ?_
    refine lv_bipush (v := nI 48) hx hb dX3_leastPlace_3 (by decide) ?_
    refine n_icmp_ge (tgt := 24) hx hb (by omega) (by omega) dX3_leastPlace_5 (by decide) (fun hc => ?_) (fun hc => ?_)
    · omega
    · refine lv_aload_n hx hb dX3_leastPlace_8 rfl (lv_at hl 1 rfl) ?_
      refine lv_iload_n hx hb dX3_leastPlace_9 rfl (lv_at hl 0 rfl) ?_
      refine z_lald B hW (ka) (by omega) ea (k) (by omega) (by decide) (v := (lN (a (k)))) (va _ (by omega)) dX3_leastPlace_10 ?_
      refine lv_lconst (v := lN 0) hx hb dX3_leastPlace_11 (by decide) ?_
      refine lc_eq (tgt := 18) hx hb dX3_leastPlace_12 dX3_leastPlace_13 (by decide) (fun hd => ?_) (fun hd => ?_)
      · have h0 : a k = 0 := (lN_inj (ra k hk) (by decide)).mp hd
        refine lv_iinc (v := (nI (k + 1))) (lv' := [(1, .int (nI (k + 1))), (0, .ref (ad (ka)))]) hx hb dX3_leastPlace_18 hl (k := 0) rfl (iinc1 _) (by decide) rfl (fun ls hl => ?_)
        refine lv_goto (tgt := 2) hx hb dX3_leastPlace_21 (by decide) ?_
        exact ih ls ⟨hl, fun i hi => by
          by_cases q : i = k
          · rw [q]; exact h0
          · exact h1 i (by omega)⟩
      · have h0 : a k ≠ 0 := fun q => hd (by rw [q])
        refine lv_iload_n hx hb dX3_leastPlace_16 rfl (lv_at hl 0 rfl) ?_
        exact ret_i B hr hlk hW ⟨rfl, Or.inr ⟨k, rfl, hk, h0, h1⟩⟩ dX3_leastPlace_17
  · rintro ls ⟨hl, h1⟩
    refine lv_iload_n hx hb dX3_leastPlace_2 rfl (lv_at hl 0 rfl) ?_
    refine lv_bipush (v := nI 48) hx hb dX3_leastPlace_3 (by decide) ?_
    refine n_icmp_ge (tgt := 24) hx hb (by omega) (by omega) dX3_leastPlace_5 (by decide) (fun hc => ?_) (fun hc => ?_)
    · refine lv_iconst (v := -1) hx hb dX3_leastPlace_24 (by decide) ?_
      exact ret_i B hr hlk hW ⟨rfl, Or.inl ⟨rfl, h1⟩⟩ dX3_leastPlace_25
    · omega
set_option maxHeartbeats 4000000 in
set_option maxRecDepth 100000 in
theorem k_firstUnlike (l : Launch) (G : zG) (n : Nat) (ad : Nat → Nat) (w : Nat → va_E) (ka kb : Nat) (a b : Nat → Nat) (hka : ka < n) (hkb : kb < n) (ha : isL G w ka 48 a) (hb0 : isL G w kb 48 b) (ra : sM a) (rb : sM b) :
    Ci l G yX3_firstUnlike cdX3_firstUnlike (zr 0) n ad w [.ref (ad ka), .ref (ad kb)] (fun r w' => w' = w ∧ unlR a b r) := by
  obtain ⟨fa, ea, va⟩ := ha
  obtain ⟨fb, eb, vb⟩ := hb0
  refine ent_i (cc := cX3_firstUnlike) (maxL := 3) (ret := (some .int)) (by decide +kernel) rfl (Nat.le_of_ble_eq_true rfl) ?_
  intro p e s m args below meth c A B hr hlk hA H locs ls hW hl
  have hx := B.1
  have hb := B.2.1
  have hl : lv_has ls 3 [(0, .ref (ad (ka))), (1, .ref (ad (kb)))] := hl
  refine lv_iconst (v := nI 0) hx hb dX3_firstUnlike_0 (by decide) ?_
  refine lv_istore_n (lv' := [(2, .int (nI (0))), (0, .ref (ad (ka))), (1, .ref (ad (kb)))]) hx hb dX3_firstUnlike_1 rfl hl (by decide) rfl (fun ls hl => ?_)
  refine z_up1 (Wg := fun ls => W p l e (zr 0) s m args below meth c H locs 0 0 _ (F0 m 2 ls [])) (I := fun k ls => lv_has ls 3 [(2, .int (nI k)), (0, .ref (ad ka)), (1, .ref (ad kb))] ∧ ∀ i, i < k → a i = b i) (a := 0) (b := 48) (by omega) ?_ ?_ ls ⟨hl, fun i h => by omega⟩
  · rintro k - hk ih ls ⟨hl, h1⟩
    refine lv_iload_n hx hb dX3_firstUnlike_2 rfl (lv_at hl 0 rfl) ?_
    refine lv_bipush (v := nI 48) hx hb dX3_firstUnlike_3 (by decide) ?_
    refine n_icmp_ge (tgt := 26) hx hb (by omega) (by omega) dX3_firstUnlike_5 (by decide) (fun hc => ?_) (fun hc => ?_)
    · omega
    · refine lv_aload_n hx hb dX3_firstUnlike_8 rfl (lv_at hl 1 rfl) ?_
      refine lv_iload_n hx hb dX3_firstUnlike_9 rfl (lv_at hl 0 rfl) ?_
      refine z_lald B hW (ka) (by omega) ea (k) (by omega) (by decide) (v := (lN (a (k)))) (va _ (by omega)) dX3_firstUnlike_10 ?_
      refine lv_aload_n hx hb dX3_firstUnlike_11 rfl (lv_at hl 2 rfl) ?_
      refine lv_iload_n hx hb dX3_firstUnlike_12 rfl (lv_at hl 0 rfl) ?_
      refine z_lald B hW (kb) (by omega) eb (k) (by omega) (by decide) (v := (lN (b (k)))) (vb _ (by omega)) dX3_firstUnlike_13 ?_
      refine lc_eq (tgt := 20) hx hb dX3_firstUnlike_14 dX3_firstUnlike_15 (by decide) (fun hd => ?_) (fun hd => ?_)
      · have h0 : a k = b k := (lN_inj (ra k hk) (rb k hk)).mp hd
        refine lv_iinc (v := (nI (k + 1))) (lv' := [(2, .int (nI (k + 1))), (0, .ref (ad (ka))), (1, .ref (ad (kb)))]) hx hb dX3_firstUnlike_20 hl (k := 0) rfl (iinc1 _) (by decide) rfl (fun ls hl => ?_)
        refine lv_goto (tgt := 2) hx hb dX3_firstUnlike_23 (by decide) ?_
        exact ih ls ⟨hl, fun i hi => by
          by_cases q : i = k
          · rw [q]; exact h0
          · exact h1 i (by omega)⟩
      · have h0 : a k ≠ b k := fun q => hd (by rw [q])
        refine lv_iload_n hx hb dX3_firstUnlike_18 rfl (lv_at hl 0 rfl) ?_
        exact ret_i B hr hlk hW ⟨rfl, Or.inr ⟨k, rfl, hk, h0, h1⟩⟩ dX3_firstUnlike_19
  · rintro ls ⟨hl, h1⟩
    refine lv_iload_n hx hb dX3_firstUnlike_2 rfl (lv_at hl 0 rfl) ?_
    refine lv_bipush (v := nI 48) hx hb dX3_firstUnlike_3 (by decide) ?_
    refine n_icmp_ge (tgt := 26) hx hb (by omega) (by omega) dX3_firstUnlike_5 (by decide) (fun hc => ?_) (fun hc => ?_)
    · refine lv_iconst (v := -1) hx hb dX3_firstUnlike_26 (by decide) ?_
      exact ret_i B hr hlk hW ⟨rfl, Or.inl ⟨rfl, h1⟩⟩ dX3_firstUnlike_27
    · omega
