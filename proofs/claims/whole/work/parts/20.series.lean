set_option maxHeartbeats 4000000 in
set_option maxRecDepth 100000 in
theorem k_X3_multiply (l : Launch) (G : zG) (n : Nat) (ad : Nat → Nat) (w : Nat → va_E) (ka kb kr : Nat) (a b : Nat → Nat) (hka : ka < n) (hkb : kb < n) (hkr : kr < n) (ha : isL G w ka 48 a) (hb : isL G w kb 48 b) (hr : ∃ f, w kr = eL G 48 f) (ra : sM a) (rb : sM b) :
    Cv l G yX3_multiply cdX3_multiply (zr 0) n ad w [.ref (ad ka), .ref (ad kb), .ref (ad kr)] (fun w' => (∀ j, j ≠ kr → w' j = w j) ∧ isL G w' kr 48 (mulS a b)) := by
  obtain ⟨fa, ea, va⟩ := ha
  obtain ⟨fb, eb, vb⟩ := hb
  obtain ⟨fr, er⟩ := hr
  refine ent_v (cc := cX3_multiply) (maxL := 7) (ret := none) (by decide +kernel) rfl (Nat.le_of_ble_eq_true rfl) ?_
  intro p e s m args below meth c A B hr hlk hA H locs ls hW hl
  have hx := B.1
  have hb := B.2.1
  have hl : lv_has ls 7 [(0, .ref (ad (ka))), (1, .ref (ad (kb))), (2, .ref (ad (kr)))] := hl
  refine lv_bipush (v := nI 47) hx hb dX3_multiply_0 (by decide) ?_
  refine lv_istore_n (lv' := [(3, .int (nI (47))), (0, .ref (ad (ka))), (1, .ref (ad (kb))), (2, .ref (ad (kr)))]) hx hb dX3_multiply_2 rfl hl (by decide) rfl (fun ls hl => ?_)
  refine z_dn (Wg := fun H locs ls => W p l e (zr 0) s m args below meth c H locs 0 0 _ (F0 m 3 ls [])) (I := fun k H locs ls => ∃ (w2 : Nat → va_E) (f : Nat → Int64), Wo G A s.heap n ad w2 H locs ∧ lv_has ls 7 [(3, .int (nI k - 1)), (0, .ref (ad ka)), (1, .ref (ad kb)), (2, .ref (ad kr))] ∧ k ≤ 48 ∧ (∀ j, j ≠ kr → w2 j = w j) ∧ w2 kr = eL G 48 f ∧ (∀ i, k ≤ i → i < 48 → f i = lN (mulS a b i)) ∧ (∀ i, i < k → f i = fr i)) ?_ ?_ 48 H locs ls ⟨w, fr, hW, (by rw [show nI 48 - 1 = nI 47 by decide]; exact hl), by omega, fun _ _ => rfl, er, fun i h1 h2 => by omega, fun _ _ => rfl⟩
  · rintro H locs ls ⟨w2, f, hW, hl, hk, h1, h2, h3, h4⟩
    refine lv_iload_n hx hb dX3_multiply_3 rfl (lv_at hl 0 rfl) ?_
    refine lv_if_lt (tgt := 56) hx hb dX3_multiply_4 (by decide) (fun hc => ?_) (fun hc => ?_)
    · exact ret_v B hr hlk hW ⟨h1, f, h2, fun i hi => h3 i (by omega) hi⟩ dX3_multiply_56
    · exact absurd (by decide) hc
  · rintro k ih H locs ls ⟨w2, f, hW, hl, hk, h1, h2, h3, h4⟩
    rw [nI_pred] at hl
    obtain ⟨ga, ea2, va2⟩ := rd_alias ea er h1 h2 h4
    obtain ⟨gb, eb2, vb2⟩ := rd_alias eb er h1 h2 h4
    refine lv_iload_n hx hb dX3_multiply_3 rfl (lv_at hl 0 rfl) ?_
    refine n_if_lt (tgt := 56) hx hb (by omega) dX3_multiply_4 (by decide) ?_
    refine lv_lconst (v := lN 0) hx hb dX3_multiply_7 (by decide) ?_
    refine lv_lstore (lv' := [(4, .long (lN (0))), (3, .int (nI (k))), (0, .ref (ad (ka))), (1, .ref (ad (kb))), (2, .ref (ad (kr)))]) hx hb dX3_multiply_8 hl (by decide) rfl (fun ls hl => ?_)
    refine lv_iconst (v := nI 0) hx hb dX3_multiply_10 (by decide) ?_
    refine lv_istore (lv' := [(6, .int (nI (0))), (4, .long (lN (0))), (3, .int (nI (k))), (0, .ref (ad (ka))), (1, .ref (ad (kb))), (2, .ref (ad (kr)))]) hx hb dX3_multiply_11 hl (by decide) rfl (fun ls hl => ?_)
    refine z_up1 (Wg := fun ls => W p l e (zr 0) s m args below meth c H locs 0 0 _ (F0 m 13 ls [])) (I := fun i ls => lv_has ls 7 [(6, .int (nI i)), (4, .long (lN (cv a b k i))), (3, .int (nI k)), (0, .ref (ad ka)), (1, .ref (ad kb)), (2, .ref (ad kr))]) (a := 0) (b := k + 1) (by omega) ?_ ?_ ls hl
    · intro i _ hi ih2 ls hl
      refine lv_iload hx hb dX3_multiply_13 (lv_at hl 0 rfl) ?_
      refine lv_iload_n hx hb dX3_multiply_15 rfl (lv_at hl 2 rfl) ?_
      refine n_icmp_gt (tgt := 41) hx hb (by omega) (by omega) dX3_multiply_16 (by decide) (fun hc => ?_) (fun hc => ?_)
      · omega
      · refine lv_lload hx hb dX3_multiply_19 (lv_at hl 1 rfl) ?_
        refine lv_aload_n hx hb dX3_multiply_21 rfl (lv_at hl 3 rfl) ?_
        refine lv_iload hx hb dX3_multiply_22 (lv_at hl 0 rfl) ?_
        refine z_lald B hW (ka) (by omega) ea2 (i) (by omega) (by decide) (v := (lN (a (i)))) (by rw [va2 _ (by omega), va _ (by omega)]) dX3_multiply_24 ?_
        refine lv_aload_n hx hb dX3_multiply_25 rfl (lv_at hl 4 rfl) ?_
        refine lv_iload_n hx hb dX3_multiply_26 rfl (lv_at hl 2 rfl) ?_
        refine lv_iload hx hb dX3_multiply_27 (lv_at hl 0 rfl) ?_
        refine n_isub hx hb (by omega) dX3_multiply_29 ?_
        refine z_lald B hW (kb) (by omega) eb2 (k - i) (by omega) (by decide) (v := (lN (b (k - i)))) (by rw [vb2 _ (by omega), vb _ (by omega)]) dX3_multiply_30 ?_
        refine n_lmul hx hb dX3_multiply_31 ?_
        refine n_ladd hx hb dX3_multiply_32 ?_
        refine lv_lstore (lv' := [(4, .long (lN ((cv a b k i) + ((a (i)) * (b (k - i)))))), (6, .int (nI (i))), (3, .int (nI (k))), (0, .ref (ad (ka))), (1, .ref (ad (kb))), (2, .ref (ad (kr)))]) hx hb dX3_multiply_33 hl (by decide) rfl (fun ls hl => ?_)
        refine lv_iinc (v := (nI (i + 1))) (lv' := [(6, .int (nI (i + 1))), (4, .long (lN ((cv a b k i) + ((a (i)) * (b (k - i)))))), (3, .int (nI (k))), (0, .ref (ad (ka))), (1, .ref (ad (kb))), (2, .ref (ad (kr)))]) hx hb dX3_multiply_35 hl (k := 1) rfl (iinc1 _) (by decide) rfl (fun ls hl => ?_)
        refine lv_goto (tgt := 13) hx hb dX3_multiply_38 (by decide) ?_
        exact ih2 ls (lv_sub hl [0, 1, 2, 3, 4, 5] rfl)
    · intro ls hl
      refine lv_iload hx hb dX3_multiply_13 (lv_at hl 0 rfl) ?_
      refine lv_iload_n hx hb dX3_multiply_15 rfl (lv_at hl 2 rfl) ?_
      refine n_icmp_gt (tgt := 41) hx hb (by omega) (by omega) dX3_multiply_16 (by decide) (fun hc => ?_) (fun hc => ?_)
      · have hcv := cv_lt ra rb (n := k) (by omega) (k + 1) (by omega)
        refine lv_aload_n hx hb dX3_multiply_41 rfl (lv_at hl 5 rfl) ?_
        refine lv_iload_n hx hb dX3_multiply_42 rfl (lv_at hl 2 rfl) ?_
        refine lv_lload hx hb dX3_multiply_43 (lv_at hl 1 rfl) ?_
        refine n_ldc2 B hw_45 (x := lN 1000003) (by decide) dX3_multiply_45 ?_
        refine n_lrem hx hb (by omega) (by omega) (by omega) dX3_multiply_48 ?_
        refine z_last B hW (kr) (by omega) h2 (k) (by omega) (by decide) dX3_multiply_49 (fun H locs hW => ?_)
        refine lv_iinc (v := (nI (k) - 1)) (lv' := [(3, .int (nI (k) - 1)), (6, .int (nI (k + 1))), (4, .long (lN (cv a b k (k + 1)))), (0, .ref (ad (ka))), (1, .ref (ad (kb))), (2, .ref (ad (kr)))]) hx hb dX3_multiply_50 hl (k := 2) rfl (im1 _) (by decide) rfl (fun ls hl => ?_)
        refine lv_goto (tgt := 3) hx hb dX3_multiply_53 (by decide) ?_
        refine ih H locs ls ⟨_, _, hW, lv_sub hl [0, 3, 4, 5] rfl, by omega, fun j hj => by rw [up_n hj]; exact h1 j hj, up_s, fun i h5 h6 => ?_, fun i h5 => ?_⟩
        · by_cases e : i = k
          · subst e; exact pk_uLs
          · rw [pk_uLn e]; exact h3 i (by omega) h6
        · rw [pk_uLn (by omega)]; exact h4 i (by omega)
      · omega
