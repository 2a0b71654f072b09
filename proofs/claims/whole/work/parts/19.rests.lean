set_option maxHeartbeats 4000000 in
set_option maxRecDepth 100000 in
theorem k_floorMod (l : Launch) (G : zG) (n : Nat) (ad : Nat → Nat) (w : Nat → va_E) (z : Int) (h1 : -4611686018427387904 ≤ z) (h2 : z ≤ 4611686018427387904) :
    Cl l G yJ9_floorMod_f86c9 cdJ9_floorMod_f86c9 (zr 0) n ad w [.long (lZ z), .long (lN 1000003)] (fun r w' => w' = w ∧ r = lN (zm z)) := by
  refine ent_lF (cc := cJ9_floorMod_f86c9) (maxL := 6) (ret := (some .long)) (by decide +kernel) rfl (Nat.le_of_ble_eq_true rfl) ?_
  intro p e s m args below meth c A B hr hlk hA H locs ls hW hl
  have hx := B.1
  have hb := B.2.1
  have hl : lv_has ls 6 [(0, .long (lZ (z))), (2, .long (lN (1000003)))] := hl
  have hnn := fm_nn z
  have hall := fm_all z
  refine lv_lload_n hx hb dJ9_floorMod_f86c9_0 rfl (lv_at hl 0 rfl) ?_
  refine lv_lload_n hx hb dJ9_floorMod_f86c9_1 rfl (lv_at hl 1 rfl) ?_
  refine lv_lrem hx hb dJ9_floorMod_f86c9_2 (by decide) ?_
  refine topl (y := (lZ (z.tmod 1000003))) (lZ_rem h1 h2 (by decide) (by decide)) ?_
  refine lv_lstore (lv' := [(4, .long (lZ (z.tmod 1000003))), (0, .long (lZ (z))), (2, .long (lN (1000003)))]) hx hb dJ9_floorMod_f86c9_3 hl (by decide) rfl (fun ls hl => ?_)
  refine lv_lload_n hx hb dJ9_floorMod_f86c9_5 rfl (lv_at hl 1 rfl) ?_
  refine lv_lload_n hx hb dJ9_floorMod_f86c9_6 rfl (lv_at hl 2 rfl) ?_
  refine lv_lxor hx hb dJ9_floorMod_f86c9_7 ?_
  refine lv_lconst (v := lN 0) hx hb dJ9_floorMod_f86c9_8 (by decide) ?_
  refine lc_ge (tgt := 25) hx hb dJ9_floorMod_f86c9_9 dJ9_floorMod_f86c9_10 (by decide) (fun hc => ?_) (fun hc => ?_)
  · have hz : 0 ≤ z := by
      rcases Int.lt_or_le z 0 with q | q
      · have q2 := (xor_neg (lZ z) (lN 1000003) (by decide)).mpr ((lZ_neg h1 h2).mpr q)
        rw [Int64.lt_iff_toInt_lt] at q2
        rw [Int64.le_iff_toInt_le] at hc
        exact absurd hc (Int.not_le.mpr q2)
      · exact q
    refine lv_lload hx hb dJ9_floorMod_f86c9_25 (lv_at hl 0 rfl) ?_
    exact ret_l B hr hlk hW ⟨rfl, by rw [fm_pos hz, lZ_zm]⟩ dJ9_floorMod_f86c9_27
  · have hz : z < 0 := (lZ_neg h1 h2).mp ((xor_neg (lZ z) (lN 1000003) (by decide)).mp hc)
    have hng := fm_neg hz
    refine lv_lload hx hb dJ9_floorMod_f86c9_13 (lv_at hl 0 rfl) ?_
    refine lv_lconst (v := lN 0) hx hb dJ9_floorMod_f86c9_15 (by decide) ?_
    refine lc_eq (tgt := 25) hx hb dJ9_floorMod_f86c9_16 dJ9_floorMod_f86c9_17 (by decide) (fun hd => ?_) (fun hd => ?_)
    · have h0 : z.tmod 1000003 = 0 := (lZ_eq0 (by omega) (by omega)).mp hd
      refine lv_lload hx hb dJ9_floorMod_f86c9_25 (lv_at hl 0 rfl) ?_
      exact ret_l B hr hlk hW ⟨rfl, by rw [h0, ← hng.1 h0, lZ_zm]⟩ dJ9_floorMod_f86c9_27
    · have h0 : ¬ z.tmod 1000003 = 0 := fun q => hd ((lZ_eq0 (by omega) (by omega)).mpr q)
      refine lv_lload hx hb dJ9_floorMod_f86c9_20 (lv_at hl 0 rfl) ?_
      refine lv_lload_n hx hb dJ9_floorMod_f86c9_22 rfl (lv_at hl 2 rfl) ?_
      refine topl (y := (lZ (1000003))) (by decide) ?_
      refine z_ladd hx hb dJ9_floorMod_f86c9_23 ?_
      exact ret_l B hr hlk hW ⟨rfl, by rw [hng.2 h0, lZ_zm]⟩ dJ9_floorMod_f86c9_24
set_option maxHeartbeats 4000000 in
set_option maxRecDepth 100000 in
theorem k_rest (l : Launch) (G : zG) (n : Nat) (ad : Nat → Nat) (w : Nat → va_E) (z : Int) (h1 : -4611686018427387904 ≤ z) (h2 : z ≤ 4611686018427387904) :
    Cl l G yX2_rest cdX2_rest (zr 1) n ad w [.long (lZ z)] (fun r w' => w' = w ∧ r = lN (zm z)) := by
  refine ent_l (cc := cX2_rest) (maxL := 2) (ret := (some .long)) (by decide +kernel) rfl (Nat.le_of_ble_eq_true rfl) ?_
  intro p e s m args below meth c A B hr hlk hA H locs ls hW hl
  have hx := B.1
  have hb := B.2.1
  have hl : lv_has ls 2 [(0, .long (lZ (z)))] := hl
  refine lv_lload_n hx hb dX2_rest_0 rfl (lv_at hl 0 rfl) ?_
  refine n_ldc2 B hw_29 (x := lN 1000003) (by decide) dX2_rest_1 ?_
  refine call_sl B hA hW (k_floorMod l G n ad w z h1 h2) mf_J9_floorMod_f86c9 hw_30 rfl ⟨⟨rfl, rfl⟩, by decide, by decide⟩ ⟨Nat.zero_le _, Nat.zero_le _⟩ hl.1 rfl (Nat.le_of_ble_eq_true rfl) dX2_rest_4 (fun r w2 H locs hp hW => ?_)
  obtain ⟨e1, e2⟩ := hp
  rw [e1] at hW
  subst e2
  exact ret_l B hr hlk hW ⟨rfl, rfl⟩ dX2_rest_7
set_option maxHeartbeats 4000000 in
set_option maxRecDepth 100000 in
theorem k_raised (l : Launch) (G : zG) (n : Nat) (ad : Nat → Nat) (w : Nat → va_E) (a e9 : Nat) (ha : a < 1000003) (he : e9 < 2 ^ 31) :
    Cl l G yX2_raised cdX2_raised (zr 0) n ad w [.long (lN a), .int (nI e9)] (fun r w' => w' = w ∧ r = lN (a ^ e9 % 1000003)) := by
  refine ent_l (cc := cX2_raised) (maxL := 6) (ret := (some .long)) (by decide +kernel) rfl (Nat.le_of_ble_eq_true rfl) ?_
  intro p e s m args below meth c A B hr hlk hA H locs ls hW hl
  have hx := B.1
  have hb := B.2.1
  have hl : lv_has ls 6 [(0, .long (lN (a))), (2, .int (nI (e9)))] := hl
  refine lv_lconst (v := lN 1) hx hb dX2_raised_0 (by decide) ?_
  refine lv_lstore_n (lv' := [(3, .long (lN (1))), (0, .long (lN (a))), (2, .int (nI (e9)))]) hx hb dX2_raised_1 rfl hl (by decide) rfl (fun ls hl => ?_)
  refine lv_bipush (v := nI 30) hx hb dX2_raised_2 (by decide) ?_
  refine lv_istore (lv' := [(5, .int (nI (30))), (3, .long (lN (1))), (0, .long (lN (a))), (2, .int (nI (e9)))]) hx hb dX2_raised_4 hl (by decide) rfl (fun ls hl => ?_)
  refine z_dn1 (Wg := fun ls => W p l e (zr 0) s m args below meth c H locs 0 0 _ (F0 m 6 ls [])) (I := fun k ls => k ≤ 31 ∧ lv_has ls 6 [(5, .int (nI k - 1)), (3, .long (lN (a ^ (e9 / 2 ^ k) % 1000003))), (0, .long (lN a)), (2, .int (nI e9))]) ?_ ?_ 31 ls ⟨by omega, by rw [show nI 31 - 1 = nI 30 by decide, Nat.div_eq_of_lt he]; exact hl⟩
  · rintro ls ⟨-, hl⟩
    rw [show e9 / 2 ^ 0 = e9 by simp] at hl
    refine lv_iload hx hb dX2_raised_6 (lv_at hl 0 rfl) ?_
    refine lv_if_lt (tgt := 43) hx hb dX2_raised_8 (by decide) (fun hc => ?_) (fun hc => ?_)
    · refine lv_lload_n hx hb dX2_raised_43 rfl (lv_at hl 1 rfl) ?_
      exact ret_l B hr hlk hW ⟨rfl, rfl⟩ dX2_raised_44
    · exact absurd (by decide) hc
  · rintro k ih ls ⟨hk, hl⟩
    rw [nI_pred] at hl
    generalize hq : e9 / 2 ^ (k + 1) = q at hl
    have hbs := bit_step e9 k
    rw [hq] at hbs
    have hml := Nat.mod_lt (a ^ q) (show 0 < 1000003 by decide)
    obtain ⟨x, hx9⟩ : ∃ x, x = a ^ q % 1000003 := ⟨_, rfl⟩
    rw [← hx9] at hl hml
    have hxx := mul_lt hml hml
    have hsq := pw_sq hx9
    refine lv_iload hx hb dX2_raised_6 (lv_at hl 0 rfl) ?_
    refine n_if_lt (tgt := 43) hx hb (by omega) dX2_raised_8 (by decide) ?_
    refine lv_lload_n hx hb dX2_raised_11 rfl (lv_at hl 1 rfl) ?_
    refine lv_lload_n hx hb dX2_raised_12 rfl (lv_at hl 1 rfl) ?_
    refine n_lmul hx hb dX2_raised_13 ?_
    refine n_ldc2 B hw_29 (x := lN 1000003) (by decide) dX2_raised_14 ?_
    refine n_lrem hx hb (by omega) (by omega) (by omega) dX2_raised_17 ?_
    obtain ⟨y, hy9⟩ : ∃ y, y = x * x % 1000003 := ⟨_, rfl⟩
    rw [← hy9] at hsq
    refine topl (y := (lN (y))) (by rw [hy9]) ?_
    refine lv_lstore_n (lv' := [(3, .long (lN (y))), (5, .int (nI (k))), (0, .long (lN (a))), (2, .int (nI (e9)))]) hx hb dX2_raised_18 rfl hl (by decide) rfl (fun ls hl => ?_)
    refine lv_iload_n hx hb dX2_raised_19 rfl (lv_at hl 3 rfl) ?_
    refine lv_iload hx hb dX2_raised_20 (lv_at hl 1 rfl) ?_
    refine lv_ishr hx hb dX2_raised_22 ?_
    refine lv_iconst (v := nI 1) hx hb dX2_raised_23 (by decide) ?_
    refine lv_iand hx hb dX2_raised_24 ?_
    refine topi (y := (nI (e9 / 2 ^ k % 2))) (shr_bit he (by omega)) ?_
    refine lv_iconst (v := nI 1) hx hb dX2_raised_25 (by decide) ?_
    have hr2 := Nat.mod_lt (e9 / 2 ^ k) (show 0 < 2 by decide)
    refine n_icmp_ne (tgt := 37) hx hb (by omega) (by omega) dX2_raised_26 (by decide) (fun hc => ?_) (fun hc => ?_)
    · have h0 : e9 / 2 ^ k % 2 = 0 := by omega
      refine lv_iinc (v := (nI (k) - 1)) (lv' := [(5, .int (nI (k) - 1)), (3, .long (lN (y))), (0, .long (lN (a))), (2, .int (nI (e9)))]) hx hb dX2_raised_37 hl (k := 1) rfl (im1 _) (by decide) rfl (fun ls hl => ?_)
      refine lv_goto (tgt := 6) hx hb dX2_raised_40 (by decide) ?_
      exact ih ls ⟨by omega, by rw [hbs, h0, Nat.add_zero, ← hsq]; exact lv_sub hl [0, 1, 2, 3] rfl⟩
    · have hyl : y < 1000003 := by rw [hy9]; exact Nat.mod_lt _ (by decide)
      have hya := mul_lt hyl ha
      refine lv_lload_n hx hb dX2_raised_29 rfl (lv_at hl 0 rfl) ?_
      refine lv_lload_n hx hb dX2_raised_30 rfl (lv_at hl 2 rfl) ?_
      refine n_lmul hx hb dX2_raised_31 ?_
      refine n_ldc2 B hw_29 (x := lN 1000003) (by decide) dX2_raised_32 ?_
      refine n_lrem hx hb (by omega) (by omega) (by omega) dX2_raised_35 ?_
      refine lv_lstore_n (lv' := [(3, .long (lN ((y * a) % 1000003))), (5, .int (nI (k))), (0, .long (lN (a))), (2, .int (nI (e9)))]) hx hb dX2_raised_36 rfl hl (by decide) rfl (fun ls hl => ?_)
      refine lv_iinc (v := (nI (k) - 1)) (lv' := [(5, .int (nI (k) - 1)), (3, .long (lN ((y * a) % 1000003))), (0, .long (lN (a))), (2, .int (nI (e9)))]) hx hb dX2_raised_37 hl (k := 1) rfl (im1 _) (by decide) rfl (fun ls hl => ?_)
      refine lv_goto (tgt := 6) hx hb dX2_raised_40 (by decide) ?_
      exact ih ls ⟨by omega, by rw [hbs, hc, ← pw_sc hsq]; exact lv_sub hl [0, 1, 2, 3] rfl⟩
set_option maxHeartbeats 4000000 in
set_option maxRecDepth 100000 in
theorem k_quotient (l : Launch) (G : zG) (n : Nat) (ad : Nat → Nat) (w : Nat → va_E) (x y : Int) (h1 : -4611686018427387904 ≤ x) (h2 : x ≤ 4611686018427387904) (h3 : -4611686018427387904 ≤ y) (h4 : y ≤ 4611686018427387904) :
    Cl l G yX2_quotient cdX2_quotient (zr 2) n ad w [.long (lZ x), .long (lZ y)] (fun r w' => w' = w ∧ r = lN (zm x * (zm y ^ 1000001 % 1000003) % 1000003)) := by
  refine ent_l (cc := cX2_quotient) (maxL := 4) (ret := (some .long)) (by decide +kernel) rfl (Nat.le_of_ble_eq_true rfl) ?_
  intro p e s m args below meth c A B hr hlk hA H locs ls hW hl
  have hx := B.1
  have hb := B.2.1
  have hl : lv_has ls 4 [(0, .long (lZ (x))), (2, .long (lZ (y)))] := hl
  refine lv_lload_n hx hb dX2_quotient_0 rfl (lv_at hl 0 rfl) ?_
  refine call_sl B hA hW (k_rest l G n ad w x h1 h2) mf_X2_rest hw_170 rfl ⟨⟨rfl, rfl⟩, by decide, by decide⟩ ⟨Nat.zero_le _, Nat.zero_le _⟩ hl.1 rfl (Nat.le_of_ble_eq_true rfl) dX2_quotient_1 (fun r w2 H locs hp hW => ?_)
  obtain ⟨e1, e2⟩ := hp
  rw [e1] at hW
  subst e2
  refine lv_lload_n hx hb dX2_quotient_4 rfl (lv_at hl 1 rfl) ?_
  refine call_sl B hA hW (k_rest l G n ad w y h3 h4) mf_X2_rest hw_170 rfl ⟨⟨rfl, rfl⟩, by decide, by decide⟩ ⟨Nat.zero_le _, Nat.zero_le _⟩ hl.1 rfl (Nat.le_of_ble_eq_true rfl) dX2_quotient_5 (fun r w3 H locs hp hW => ?_)
  obtain ⟨e1, e2⟩ := hp
  rw [e1] at hW
  subst e2
  refine n_ldc B hw_171 (x := nI 1000001) (by decide) dX2_quotient_8 ?_
  refine call_sl B hA hW (k_raised l G n ad w (zm y) 1000001 (zm_lt y) (by decide)) mf_X2_raised hw_172 rfl ⟨⟨rfl, rfl⟩, by decide, by decide⟩ ⟨Nat.zero_le _, Nat.zero_le _⟩ hl.1 rfl (Nat.le_of_ble_eq_true rfl) dX2_quotient_10 (fun r w4 H locs hp hW => ?_)
  obtain ⟨e1, e2⟩ := hp
  rw [e1] at hW
  subst e2
  have hq1 := mul_lt (zm_lt x) (Nat.mod_lt (zm y ^ 1000001) (show 0 < 1000003 by decide))
  refine n_lmul hx hb dX2_quotient_13 ?_
  refine n_ldc2 B hw_29 (x := lN 1000003) (by decide) dX2_quotient_14 ?_
  refine n_lrem hx hb (by omega) (by omega) (by omega) dX2_quotient_17 ?_
  exact ret_l B hr hlk hW ⟨rfl, rfl⟩ dX2_quotient_18
