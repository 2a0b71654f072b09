set_option maxHeartbeats 4000000 in
set_option maxRecDepth 100000 in
theorem k_ratio (l : Launch) (G : zG) (n : Nat) (ad : Nat → Nat) (w : Nat → va_E) (kb ka z : Nat) (a b : Nat → Nat) (hkb : kb < n) (hka : ka < n) (hz : z ≤ 4) (fb : Nat → Int64) (eb : w kb = eL G 4 fb) (vb : ∀ i, i < z → fb i = lN (b i)) (rb : ∀ i, i < z → b i < 1000003) (ha : isL G w ka 48 a) (ra : sM a) :
    Ci l G yX3_ratio cdX3_ratio (zr 3) n ad w [.ref (ad kb), .ref (ad ka), .int (nI z)] (fun r w' => w' = w ∧ ratR b a z r) := by
  obtain ⟨fa, ea, va⟩ := id ha
  refine ent_i (cc := cX3_ratio) (maxL := 7) (ret := (some .int)) (by decide +kernel) rfl (Nat.le_of_ble_eq_true rfl) ?_
  intro p e s m args below meth c A B hr hlk hA H locs ls hW hl
  have hx := B.1
  have hb := B.2.1
  have hl : lv_has ls 7 [(0, .ref (ad (kb))), (1, .ref (ad (ka))), (2, .int (nI (z)))] := hl
  refine lv_aload_n hx hb dX3_ratio_0 rfl (lv_at hl 1 rfl) ?_
  refine call_si B hA hW (k_leastPlace l G n ad w ka a hka ha ra) mf_X3_leastPlace hw_313 rfl ⟨⟨rfl, rfl⟩, by decide, by decide⟩ ⟨Nat.zero_le _, Nat.zero_le _⟩ hl.1 rfl (Nat.le_of_ble_eq_true rfl) dX3_ratio_1 (fun r w9 H locs hp hW => ?_)
  obtain ⟨e1, hr9⟩ := hp
  rw [e1] at hW
  rcases hr9 with ⟨rfl, hall⟩ | ⟨j, rfl, hj⟩
  · refine lv_istore_n (lv' := [(3, .int (-1)), (0, .ref (ad (kb))), (1, .ref (ad (ka))), (2, .int (nI (z)))]) hx hb dX3_ratio_4 rfl hl (by decide) rfl (fun ls hl => ?_)
    refine lv_iload_n hx hb dX3_ratio_5 rfl (lv_at hl 0 rfl) ?_
    refine lv_iconst (v := -1) hx hb dX3_ratio_6 (by decide) ?_
    refine lv_icmp_eq (tgt := 15) hx hb dX3_ratio_7 (by decide) (fun hc => ?_) (fun hc => ?_)
    · refine lv_iconst (v := -1) hx hb dX3_ratio_15 (by decide) ?_
      exact ret_i B hr hlk hW ⟨rfl, Or.inr ⟨rfl, Or.inl hall⟩⟩ dX3_ratio_16
    · exact absurd rfl hc
  · obtain ⟨hj48, hj0, hjl⟩ := id hj
    refine lv_istore_n (lv' := [(3, .int (nI (j))), (0, .ref (ad (kb))), (1, .ref (ad (ka))), (2, .int (nI (z)))]) hx hb dX3_ratio_4 rfl hl (by decide) rfl (fun ls hl => ?_)
    refine lv_iload_n hx hb dX3_ratio_5 rfl (lv_at hl 0 rfl) ?_
    refine lv_iconst (v := -1) hx hb dX3_ratio_6 (by decide) ?_
    refine lv_icmp_eq (tgt := 15) hx hb dX3_ratio_7 (by decide) (fun hc => ?_) (fun hc => ?_)
    · exact absurd hc (nI_m1 (by omega))
    · refine lv_iload_n hx hb dX3_ratio_10 rfl (lv_at hl 0 rfl) ?_
      refine lv_iload_n hx hb dX3_ratio_11 rfl (lv_at hl 3 rfl) ?_
      refine n_icmp_lt (tgt := 17) hx hb (by omega) (by omega) dX3_ratio_12 (by decide) (fun hd => ?_) (fun hd => ?_)
      · refine lv_aload_n hx hb dX3_ratio_17 rfl (lv_at hl 1 rfl) ?_
        refine lv_iload_n hx hb dX3_ratio_18 rfl (lv_at hl 0 rfl) ?_
        refine z_lald B hW (kb) (by omega) eb (j) (by omega) (by decide) (v := (lZ ((b (j) : Nat)))) (by rw [vb _ (by omega), lN_Z]) dX3_ratio_19 ?_
        refine lv_aload_n hx hb dX3_ratio_20 rfl (lv_at hl 2 rfl) ?_
        refine lv_iload_n hx hb dX3_ratio_21 rfl (lv_at hl 0 rfl) ?_
        refine z_lald B hW (ka) (by omega) ea (j) (by omega) (by decide) (v := (lZ ((a (j) : Nat)))) (by rw [va _ (by omega), lN_Z]) dX3_ratio_22 ?_
        have raj := ra j hj48
        have rbj := rb j hd
        refine call_sl B hA hW (k_quotient l G n ad w (b j : Nat) (a j : Nat) (by omega) (by omega) (by omega) (by omega)) mf_X2_quotient hw_314 rfl ⟨⟨rfl, rfl⟩, by decide, by decide⟩ ⟨Nat.zero_le _, Nat.zero_le _⟩ hl.1 rfl (Nat.le_of_ble_eq_true rfl) dX3_ratio_23 (fun r w9 H locs hp hW => ?_)
        obtain ⟨e1, e2⟩ := hp
        rw [e1] at hW
        subst e2
        obtain ⟨L, hL⟩ : ∃ L, L = b j * invM (a j) % 1000003 := ⟨_, rfl⟩
        have hLl : L < 1000003 := by rw [hL]; exact Nat.mod_lt _ (by decide)
        refine topl (y := (lN (L))) (by rw [hL, zm_nat, zm_nat, Nat.mod_eq_of_lt raj, Nat.mod_eq_of_lt rbj]; rfl) ?_
        refine lv_lstore (lv' := [(4, .long (lN (L))), (3, .int (nI (j))), (0, .ref (ad (kb))), (1, .ref (ad (ka))), (2, .int (nI (z)))]) hx hb dX3_ratio_26 hl (by decide) rfl (fun ls hl => ?_)
        refine lv_iconst (v := nI 0) hx hb dX3_ratio_28 (by decide) ?_
        refine lv_istore (lv' := [(6, .int (nI (0))), (4, .long (lN (L))), (3, .int (nI (j))), (0, .ref (ad (kb))), (1, .ref (ad (ka))), (2, .int (nI (z)))]) hx hb dX3_ratio_29 hl (by decide) rfl (fun ls hl => ?_)
        refine z_up1 (Wg := fun ls => W p l e (zr 3) s m args below meth c H locs 0 0 _ (F0 m 31 ls [])) (I := fun i ls => lv_has ls 7 [(6, .int (nI i)), (4, .long (lN L)), (3, .int (nI j)), (0, .ref (ad kb)), (1, .ref (ad ka)), (2, .int (nI z))] ∧ ∀ i', i' < i → b i' = L * a i' % 1000003) (a := 0) (b := z) (Nat.zero_le _) ?_ ?_ ls ⟨hl, fun i' h => by omega⟩
        · rintro i - hi ih ls ⟨hl, h1⟩
          refine lv_iload hx hb dX3_ratio_31 (lv_at hl 0 rfl) ?_
          refine lv_iload_n hx hb dX3_ratio_33 rfl (lv_at hl 5 rfl) ?_
          refine n_icmp_ge (tgt := 64) hx hb (by omega) (by omega) dX3_ratio_34 (by decide) (fun hc => ?_) (fun hc => ?_)
          · omega
          · have hll := mul_lt hLl (ra i (by omega))
            refine lv_aload_n hx hb dX3_ratio_37 rfl (lv_at hl 3 rfl) ?_
            refine lv_iload hx hb dX3_ratio_38 (lv_at hl 0 rfl) ?_
            refine z_lald B hW (kb) (by omega) eb (i) (by omega) (by decide) (v := (lN (b (i)))) (vb _ (by omega)) dX3_ratio_40 ?_
            refine lv_lload hx hb dX3_ratio_41 (lv_at hl 1 rfl) ?_
            refine lv_aload_n hx hb dX3_ratio_43 rfl (lv_at hl 4 rfl) ?_
            refine lv_iload hx hb dX3_ratio_44 (lv_at hl 0 rfl) ?_
            refine z_lald B hW (ka) (by omega) ea (i) (by omega) (by decide) (v := (lN (a (i)))) (va _ (by omega)) dX3_ratio_46 ?_
            refine n_lmul hx hb dX3_ratio_47 ?_
            refine n_ldc2 B hw_45 (x := lN 1000003) (by decide) dX3_ratio_48 ?_
            refine n_lrem hx hb (by omega) (by omega) (by omega) dX3_ratio_51 ?_
            refine lc_eq (tgt := 58) hx hb dX3_ratio_52 dX3_ratio_53 (by decide) (fun he => ?_) (fun he => ?_)
            · have h0 : b i = L * a i % 1000003 := (lN_inj (rb i hi) (Nat.mod_lt _ (by decide))).mp he
              refine lv_iinc (v := (nI (i + 1))) (lv' := [(6, .int (nI (i + 1))), (4, .long (lN (L))), (3, .int (nI (j))), (0, .ref (ad (kb))), (1, .ref (ad (ka))), (2, .int (nI (z)))]) hx hb dX3_ratio_58 hl (k := 0) rfl (iinc1 _) (by decide) rfl (fun ls hl => ?_)
              refine lv_goto (tgt := 31) hx hb dX3_ratio_61 (by decide) ?_
              exact ih ls ⟨hl, fun i' hi' => by
                by_cases q : i' = i
                · rw [q]; exact h0
                · exact h1 i' (by omega)⟩
            · refine lv_iconst (v := -1) hx hb dX3_ratio_56 (by decide) ?_
              exact ret_i B hr hlk hW ⟨rfl, Or.inr ⟨rfl, Or.inr ⟨j, hj, Or.inr ⟨i, hi, fun q => he (by rw [q, hL])⟩⟩⟩⟩ dX3_ratio_57
        · rintro ls ⟨hl, h1⟩
          refine lv_iload hx hb dX3_ratio_31 (lv_at hl 0 rfl) ?_
          refine lv_iload_n hx hb dX3_ratio_33 rfl (lv_at hl 5 rfl) ?_
          refine n_icmp_ge (tgt := 64) hx hb (by omega) (by omega) dX3_ratio_34 (by decide) (fun hc => ?_) (fun hc => ?_)
          · refine lv_lload hx hb dX3_ratio_64 (lv_at hl 1 rfl) ?_
            refine n_l2i hx hb dX3_ratio_66 ?_
            exact ret_i B hr hlk hW ⟨rfl, Or.inl ⟨j, hj, hd, by rw [hL], fun i hi => by rw [← hL]; exact h1 i hi⟩⟩ dX3_ratio_67
          · omega
      · refine lv_iconst (v := -1) hx hb dX3_ratio_15 (by decide) ?_
        exact ret_i B hr hlk hW ⟨rfl, Or.inr ⟨rfl, Or.inr ⟨j, hj, Or.inl hd⟩⟩⟩ dX3_ratio_16
set_option maxHeartbeats 4000000 in
set_option maxRecDepth 100000 in
theorem k_putBracket (l : Launch) (G : zG) (n : Nat) (ad : Nat → Nat) (w : Nat → va_E) (kf kg af ag kr wf wg : Nat) (x1 x2 y1 y2 : Int32) (a b : Nat → Nat) (hkf : kf < n) (hkg : kg < n) (haf : af < n) (hag : ag < n) (hkr : kr < n) (hwf : wf ≤ 40) (hwg : wg ≤ 40) (ef : w kf = eO 1 [.ref (ad af), .int (nI wf), .int x1, .int x2]) (eg : w kg = eO 1 [.ref (ad ag), .int (nI wg), .int y1, .int y2]) (ha : isL G w af 48 a) (hb0 : isL G w ag 48 b) (ra : sM a) (rb : sM b) (hr0 : ∃ f, w kr = eL G 48 f) (n1 : af ≠ kr) (n2 : ag ≠ kr) (n3 : kf ≠ kr) (n4 : kg ≠ kr) :
    Cv l G yX1_putBracket cdX1_putBracket (zr 2) n ad w [.ref (ad kf), .ref (ad kg), .ref (ad kr)] (fun w' => (∀ j, j ≠ kr → w' j = w j) ∧ isL G w' kr 48 (brS wf wg a b)) := by
  obtain ⟨fr, er⟩ := hr0
  obtain ⟨fa, ea, va⟩ := ha
  obtain ⟨fb, eb, vb⟩ := hb0
  refine ent_v (cc := cX1_putBracket) (maxL := 8) (ret := none) (by decide +kernel) rfl (Nat.le_of_ble_eq_true rfl) ?_
  intro p e s m args below meth c A B hr hlk hA H locs ls hW hl
  have hx := B.1
  have hb := B.2.1
  have hl : lv_has ls 8 [(0, .ref (ad (kf))), (1, .ref (ad (kg))), (2, .ref (ad (kr)))] := hl
  refine lv_iconst (v := nI 0) hx hb dX1_putBracket_0 (by decide) ?_
  refine lv_istore_n (lv' := [(3, .int (nI (0))), (0, .ref (ad (kf))), (1, .ref (ad (kg))), (2, .ref (ad (kr)))]) hx hb dX1_putBracket_1 rfl hl (by decide) rfl (fun ls hl => ?_)
  refine z_up (Wg := fun H locs ls => W p l e (zr 2) s m args below meth c H locs 0 0 _ (F0 m 2 ls [])) (I := fun i H locs ls => ∃ (w2 : Nat → va_E) (f : Nat → Int64), Wo G A s.heap n ad w2 H locs ∧ lv_has ls 8 [(3, .int (nI i)), (0, .ref (ad kf)), (1, .ref (ad kg)), (2, .ref (ad kr))] ∧ (∀ j, j ≠ kr → w2 j = w j) ∧ w2 kr = eL G 48 f ∧ (∀ j, j < i → f j = lN (brS wf wg a b j))) (a := 0) (b := 48) (Nat.zero_le _) ?_ ?_ H locs ls ⟨w, fr, hW, hl, fun _ _ => rfl, er, fun j h => by omega⟩
  · rintro i - hi ih H locs ls ⟨w2, f, hW, hl, h1, h2, h3⟩
    have ef2 := (h1 kf n3).trans ef
    have eg2 := (h1 kg n4).trans eg
    have ea2 := (h1 af n1).trans ea
    have eb2 := (h1 ag n2).trans eb
    refine lv_iload_n hx hb dX1_putBracket_2 rfl (lv_at hl 0 rfl) ?_
    refine lv_bipush (v := nI 48) hx hb dX1_putBracket_3 (by decide) ?_
    refine n_icmp_ge (tgt := 87) hx hb (by omega) (by omega) dX1_putBracket_5 (by decide) (fun hc => ?_) (fun hc => ?_)
    · omega
    · refine lv_lconst (v := lZ 0) hx hb dX1_putBracket_8 (by decide) ?_
      refine lv_lstore (lv' := [(4, .long (lZ (0))), (3, .int (nI (i))), (0, .ref (ad (kf))), (1, .ref (ad (kg))), (2, .ref (ad (kr)))]) hx hb dX1_putBracket_9 hl (by decide) rfl (fun ls hl => ?_)
      refine lv_iconst (v := nI 0) hx hb dX1_putBracket_11 (by decide) ?_
      refine lv_istore (lv' := [(6, .int (nI (0))), (4, .long (lZ (0))), (3, .int (nI (i))), (0, .ref (ad (kf))), (1, .ref (ad (kg))), (2, .ref (ad (kr)))]) hx hb dX1_putBracket_12 hl (by decide) rfl (fun ls hl => ?_)
      refine z_up1 (Wg := fun ls => W p l e (zr 2) s m args below meth c H locs 0 0 _ (F0 m 14 ls [])) (I := fun t ls => lv_has ls 8 [(6, .int (nI t)), (4, .long (lZ (brZ wf wg a b i t))), (3, .int (nI i)), (0, .ref (ad kf)), (1, .ref (ad kg)), (2, .ref (ad kr))]) (a := 0) (b := i + 1) (Nat.zero_le _) ?_ ?_ ls hl
      · rintro t - ht ih2 ls hl
        have hm1 := mul_lt (ra t (by omega)) (rb (i - t) (by omega))
        have hm2 : wf * (i - t) ≤ 40 * 47 := Nat.mul_le_mul hwf (by omega)
        have hm3 : wg * t ≤ 40 * 47 := Nat.mul_le_mul hwg (by omega)
        refine lv_iload hx hb dX1_putBracket_14 (lv_at hl 0 rfl) ?_
        refine lv_iload_n hx hb dX1_putBracket_16 rfl (lv_at hl 2 rfl) ?_
        refine n_icmp_gt (tgt := 73) hx hb (by omega) (by omega) dX1_putBracket_17 (by decide) (fun hc => ?_) (fun hc => ?_)
        · omega
        · refine lv_iload_n hx hb dX1_putBracket_20 rfl (lv_at hl 2 rfl) ?_
          refine lv_iload hx hb dX1_putBracket_21 (lv_at hl 0 rfl) ?_
          refine n_isub hx hb (by omega) dX1_putBracket_23 ?_
          refine lv_istore (lv' := [(7, .int (nI (i - t))), (6, .int (nI (t))), (4, .long (lZ (brZ wf wg a b i t))), (3, .int (nI (i))), (0, .ref (ad (kf))), (1, .ref (ad (kg))), (2, .ref (ad (kr)))]) hx hb dX1_putBracket_24 hl (by decide) rfl (fun ls hl => ?_)
          refine lv_lload hx hb dX1_putBracket_26 (lv_at hl 2 rfl) ?_
          refine lv_aload_n hx hb dX1_putBracket_28 rfl (lv_at hl 4 rfl) ?_
          refine z_get B hW (kf) (by omega) ef2 rfl inX1 0 (by decide) hw_100 rfl (v := .ref (ad (af))) rfl dX1_putBracket_29 ?_
          refine lv_iload hx hb dX1_putBracket_32 (lv_at hl 1 rfl) ?_
          refine z_lald B hW (af) (by omega) ea2 (t) (by omega) (by decide) (v := (lN (a (t)))) (va _ (by omega)) dX1_putBracket_34 ?_
          refine lv_aload_n hx hb dX1_putBracket_35 rfl (lv_at hl 5 rfl) ?_
          refine z_get B hW (kg) (by omega) eg2 rfl inX1 0 (by decide) hw_100 rfl (v := .ref (ad (ag))) rfl dX1_putBracket_36 ?_
          refine lv_iload hx hb dX1_putBracket_39 (lv_at hl 0 rfl) ?_
          refine z_lald B hW (ag) (by omega) eb2 (i - t) (by omega) (by decide) (v := (lN (b (i - t)))) (vb _ (by omega)) dX1_putBracket_41 ?_
          refine n_lmul hx hb dX1_putBracket_42 ?_
          refine n_ldc2 B hw_217 (x := lN 1000003) (by decide) dX1_putBracket_43 ?_
          refine n_lrem hx hb (by omega) (by omega) (by omega) dX1_putBracket_46 ?_
          refine topl (y := (lZ (((a t * b (i - t) % 1000003 : Nat) : Int)))) (lN_Z _) ?_
          refine lv_aload_n hx hb dX1_putBracket_47 rfl (lv_at hl 4 rfl) ?_
          refine z_get B hW (kf) (by omega) ef2 rfl inX1 1 (by decide) hw_102 rfl (v := .int (nI (wf))) rfl dX1_putBracket_48 ?_
          refine lv_iload hx hb dX1_putBracket_51 (lv_at hl 0 rfl) ?_
          refine n_imul hx hb dX1_putBracket_53 ?_
          refine topi (y := (iZ (((wf * (i - t) : Nat) : Int)))) (nI_Z _) ?_
          refine lv_aload_n hx hb dX1_putBracket_54 rfl (lv_at hl 5 rfl) ?_
          refine z_get B hW (kg) (by omega) eg2 rfl inX1 1 (by decide) hw_102 rfl (v := .int (nI (wg))) rfl dX1_putBracket_55 ?_
          refine lv_iload hx hb dX1_putBracket_58 (lv_at hl 1 rfl) ?_
          refine n_imul hx hb dX1_putBracket_60 ?_
          refine topi (y := (iZ (((wg * t : Nat) : Int)))) (nI_Z _) ?_
          refine z_isub hx hb dX1_putBracket_61 ?_
          refine z_i2l hx hb (by omega) (by omega) dX1_putBracket_62 ?_
          refine z_lmul hx hb dX1_putBracket_63 ?_
          refine z_ladd hx hb dX1_putBracket_64 ?_
          refine lv_lstore (lv' := [(4, .long (lZ ((brZ wf wg a b i t) + (((a t * b (i - t) % 1000003 : Nat) : Int) * (((wf * (i - t) : Nat) : Int) - ((wg * t : Nat) : Int)))))), (7, .int (nI (i - t))), (6, .int (nI (t))), (3, .int (nI (i))), (0, .ref (ad (kf))), (1, .ref (ad (kg))), (2, .ref (ad (kr)))]) hx hb dX1_putBracket_65 hl (by decide) rfl (fun ls hl => ?_)
          refine lv_iinc (v := (nI (t + 1))) (lv' := [(6, .int (nI (t + 1))), (4, .long (lZ ((brZ wf wg a b i t) + (((a t * b (i - t) % 1000003 : Nat) : Int) * (((wf * (i - t) : Nat) : Int) - ((wg * t : Nat) : Int)))))), (7, .int (nI (i - t))), (3, .int (nI (i))), (0, .ref (ad (kf))), (1, .ref (ad (kg))), (2, .ref (ad (kr)))]) hx hb dX1_putBracket_67 hl (k := 2) rfl (iinc1 _) (by decide) rfl (fun ls hl => ?_)
          refine lv_goto (tgt := 14) hx hb dX1_putBracket_70 (by decide) ?_
          exact ih2 ls (lv_sub hl [0, 1, 3, 4, 5, 6] rfl)
      · rintro ls hl
        have hle := brZ_le (a := a) (b := b) hwf hwg hi (i + 1) (Nat.le_refl _)
        refine lv_iload hx hb dX1_putBracket_14 (lv_at hl 0 rfl) ?_
        refine lv_iload_n hx hb dX1_putBracket_16 rfl (lv_at hl 2 rfl) ?_
        refine n_icmp_gt (tgt := 73) hx hb (by omega) (by omega) dX1_putBracket_17 (by decide) (fun hc => ?_) (fun hc => ?_)
        · refine lv_aload_n hx hb dX1_putBracket_73 rfl (lv_at hl 5 rfl) ?_
          refine lv_iload_n hx hb dX1_putBracket_74 rfl (lv_at hl 2 rfl) ?_
          refine lv_lload hx hb dX1_putBracket_75 (lv_at hl 1 rfl) ?_
          refine call_sl B hA hW (k_rest l G n ad w2 (brZ wf wg a b i (i + 1)) (by omega) (by omega)) mf_X2_rest hw_218 rfl ⟨⟨rfl, rfl⟩, by decide, by decide⟩ ⟨Nat.zero_le _, Nat.zero_le _⟩ hl.1 rfl (Nat.le_of_ble_eq_true rfl) dX1_putBracket_77 (fun r w9 H locs hp hW => ?_)
          obtain ⟨e1, e2⟩ := hp
          rw [e1] at hW
          subst e2
          refine z_last B hW (kr) (by omega) h2 (i) (by omega) (by decide) dX1_putBracket_80 (fun H locs hW => ?_)
          rw [brZ_zm (by omega)] at hW
          refine lv_iinc (v := (nI (i + 1))) (lv' := [(3, .int (nI (i + 1))), (6, .int (nI (i + 1))), (4, .long (lZ (brZ wf wg a b i (i + 1)))), (0, .ref (ad (kf))), (1, .ref (ad (kg))), (2, .ref (ad (kr)))]) hx hb dX1_putBracket_81 hl (k := 2) rfl (iinc1 _) (by decide) rfl (fun ls hl => ?_)
          refine lv_goto (tgt := 2) hx hb dX1_putBracket_84 (by decide) ?_
          refine ih H locs ls ⟨_, _, hW, lv_sub hl [0, 3, 4, 5] rfl, fun j hj => by rw [up_n hj]; exact h1 j hj, up_s, fun j hj => ?_⟩
          by_cases q : j = i
          · rw [q, pk_uLs]
          · rw [pk_uLn q]; exact h3 j (by omega)
        · omega
  · rintro H locs ls ⟨w2, f, hW, hl, h1, h2, h3⟩
    refine lv_iload_n hx hb dX1_putBracket_2 rfl (lv_at hl 0 rfl) ?_
    refine lv_bipush (v := nI 48) hx hb dX1_putBracket_3 (by decide) ?_
    refine n_icmp_ge (tgt := 87) hx hb (by omega) (by omega) dX1_putBracket_5 (by decide) (fun hc => ?_) (fun hc => ?_)
    · exact ret_v B hr hlk hW ⟨h1, f, h2, h3⟩ dX1_putBracket_87
    · omega
