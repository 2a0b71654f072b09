set_option maxHeartbeats 4000000 in
set_option maxRecDepth 100000 in
theorem k_X1_init (l : Launch) (G : zG) (n : Nat) (ad : Nat → Nat) (w : Nat → va_E) (hli : lin ad) (k : Nat) (hk : k < n) (h0 : w k = eO 1 [.null, .int (nI 0), .int (nI 0), .int (nI 0)]) :
    Cz l G yX1_init cdX1_init 1 1 48 n (n + 1) ad w [.ref (ad k)] (fun w' => (∀ j, j < n → j ≠ k → w' j = w j) ∧ w' k = eO 1 [.ref (ad n), .int (nI 0), .int (nI 0), .int (nI 0)] ∧ w' n = eL G 48 (fun _ => lN 0)) := by
  refine ent_z (cc := cX1_init) (maxL := 1) (ret := none) (by decide +kernel) rfl (Nat.le_of_ble_eq_true rfl) ?_
  intro p e s m args below meth c A B hE hr hlk hin hA hs0 H locs ls hW hl
  have hx := B.1
  have hb := B.2.1
  have hl : lv_has ls 1 [(0, .ref (ad (k)))] := hl
  refine lv_aload_n hx hb dX1_init_0 rfl (lv_at hl 0 rfl) ?_
  refine z_obj B hl.1 hw_99 dX1_init_1 ⟨by decide, by decide⟩ (Nat.le_of_ble_eq_true rfl) ?_
  refine lv_aload_n hx hb dX1_init_4 rfl (lv_at hl 0 rfl) ?_
  refine lv_bipush (v := nI 48) hx hb dX1_init_5 (by decide) ?_
  refine z_newL B hA hW hli (by omega) (cells := 0) (slots := 0) hs0 (N := 48) (by decide) (cells' := 1) (slots' := 48) rfl rfl ⟨by decide, by decide⟩ dX1_init_7 (fun H hW => ?_)
  have h1 : va_up w n (eL G 48 (fun _ => lN 0)) k = eO 1 [.null, .int (nI 0), .int (nI 0), .int (nI 0)] := (up_n (by omega)).trans h0
  refine z_putF B hW (k) (by omega) h1 rfl inX1 tyX1 tyX1_ok nmX1 0 (by decide) hw_100 rfl rfl hin rfl (v := .ref (ad (n))) rfl rfl (Nat.le_of_ble_eq_true rfl) dX1_init_9 (fun H locs hW => ?_)
  exact ret_zv B hr hlk hW ⟨fun j h2 h3 => by rw [up_n h3, up_n (by omega)], up_s, by rw [up_n (by omega), up_s]⟩ (by decide) (by decide) dX1_init_12
set_option maxHeartbeats 4000000 in
set_option maxRecDepth 100000 in
theorem k_newSums (l : Launch) (G : zG) (n : Nat) (ad : Nat → Nat) (w : Nat → va_E) (hli : lin ad) (hn0 : 0 < n) (c9 e9 : Nat) (hc9 : c9 < 1000003) (he : e9 < 2 ^ 31) :
    Czr l G yX3_newSums cdX3_newSums 2 1 48 n (n + 1) ad w [.long (lN c9), .int (nI e9)] (fun q w' => q = ad n ∧ (∀ j, j < n → w' j = w j) ∧ isL G w' n 48 (sumsS c9 e9)) := by
  refine ent_zr (cc := cX3_newSums) (maxL := 4) (ret := (some (.array .long))) (by decide +kernel) rfl (Nat.le_of_ble_eq_true rfl) ?_
  intro p e s m args below meth c A B hE hr hlk hin hA hs0 H locs ls hW hl
  have hx := B.1
  have hb := B.2.1
  have hl : lv_has ls 4 [(0, .long (lN (c9))), (2, .int (nI (e9)))] := hl
  refine lv_bipush (v := nI 48) hx hb dX3_newSums_0 (by decide) ?_
  refine z_newL B hA hW hli hn0 (cells := 0) (slots := 0) hs0 (N := 48) (by decide) (cells' := 1) (slots' := 48) rfl rfl ⟨by decide, by decide⟩ dX3_newSums_2 (fun H hW => ?_)
  obtain ⟨wa, hW, ua, oa⟩ : ∃ w9 : Nat → va_E, Wo G A s.heap (n + 1) ad w9 H locs ∧ w9 n = eL G 48 (fun _ => lN 0) ∧ ∀ j, j ≠ n → w9 j = w j := ⟨_, hW, up_s, fun j hj => up_n hj⟩
  refine lv_astore_n (lv' := [(3, .ref (ad (n))), (0, .long (lN (c9))), (2, .int (nI (e9)))]) hx hb dX3_newSums_4 rfl hl (by decide) rfl (fun ls hl => ?_)
  refine lv_lload_n hx hb dX3_newSums_5 rfl (lv_at hl 1 rfl) ?_
  refine lv_iload_n hx hb dX3_newSums_6 rfl (lv_at hl 2 rfl) ?_
  refine lv_aload_n hx hb dX3_newSums_7 rfl (lv_at hl 0 rfl) ?_
  refine call_sv B hA hW (k_putSums l G (n + 1) ad wa n c9 e9 (by omega) hc9 he ⟨_, ua⟩) mf_X3_putSums hw_36 rfl ⟨⟨rfl, rfl⟩, by decide, by decide⟩ ⟨by decide, by decide⟩ hl.1 rfl (Nat.le_of_ble_eq_true rfl) dX3_newSums_8 (fun wb H locs hp hW => ?_)
  obtain ⟨ob, lb⟩ := hp
  refine lv_aload_n hx hb dX3_newSums_11 rfl (lv_at hl 0 rfl) ?_
  exact ret_zr (post := fun q w' => q = ad n ∧ (∀ j, j < n → w' j = w j) ∧ isL G w' n 48 (sumsS c9 e9)) B hr (Or.inr ⟨_, rfl⟩) hlk hW ⟨rfl, fun j hj => (ob j (by omega)).trans (oa j (by omega)), lb⟩ (by decide) (by decide) dX3_newSums_12
set_option maxHeartbeats 4000000 in
set_option maxRecDepth 100000 in
theorem k_newD (l : Launch) (G : zG) (n : Nat) (ad : Nat → Nat) (w : Nat → va_E) (hli : lin ad) (hn0 : 0 < n) :
    Czr l G yX3_newD cdX3_newD 3 2 96 n (n + 1 + 1) ad w [] (fun q w' => q = ad (n + 1) ∧ (∀ j, j < n → w' j = w j) ∧ isL G w' (n + 1) 48 dS) := by
  refine ent_zr (cc := cX3_newD) (maxL := 3) (ret := (some (.array .long))) (by decide +kernel) rfl (Nat.le_of_ble_eq_true rfl) ?_
  intro p e s m args below meth c A B hE hr hlk hin hA hs0 H locs ls hW hl
  have hx := B.1
  have hb := B.2.1
  have hl : lv_has ls 3 [] := hl
  refine lv_bipush (v := nI 48) hx hb dX3_newD_0 (by decide) ?_
  refine z_newL B hA hW hli hn0 (cells := 0) (slots := 0) hs0 (N := 48) (by decide) (cells' := 1) (slots' := 48) rfl rfl ⟨by decide, by decide⟩ dX3_newD_2 (fun H hW => ?_)
  obtain ⟨wa, hW, ua, oa⟩ : ∃ w9 : Nat → va_E, Wo G A s.heap (n + 1) ad w9 H locs ∧ w9 n = eL G 48 (fun _ => lN 0) ∧ ∀ j, j ≠ n → w9 j = w j := ⟨_, hW, up_s, fun j hj => up_n hj⟩
  refine lv_astore_n (lv' := [(0, .ref (ad (n)))]) hx hb dX3_newD_4 rfl hl (by decide) rfl (fun ls hl => ?_)
  refine lv_aload_n hx hb dX3_newD_5 rfl (lv_at hl 0 rfl) ?_
  refine call_sv B hA hW (k_putOne l G (n + 1) ad wa n (by omega) ⟨_, ua⟩) mf_X3_putOne hw_39 rfl ⟨⟨rfl, rfl⟩, by decide, by decide⟩ ⟨by decide, by decide⟩ hl.1 rfl (Nat.le_of_ble_eq_true rfl) dX3_newD_6 (fun wb H locs hp hW => ?_)
  obtain ⟨ob, lb⟩ := hp
  refine lv_iconst (v := nI 1) hx hb dX3_newD_9 (by decide) ?_
  refine lv_istore_n (lv' := [(1, .int (nI (1))), (0, .ref (ad (n)))]) hx hb dX3_newD_10 rfl hl (by decide) rfl (fun ls hl => ?_)
  refine z_up (Wg := fun H locs ls => W p l e (rz 3 2 96) s m args below meth c H locs 1 48 _ (F0 m 11 ls [])) (I := fun r H locs ls => ∃ (w2 : Nat → va_E), Wo G A s.heap (n + 1) ad w2 H locs ∧ lv_has ls 3 [(1, .int (nI (r + 1))), (0, .ref (ad n))] ∧ (∀ j, j ≠ n → w2 j = w j) ∧ isL G w2 n 48 (oncS r)) (a := 0) (b := 47) (by omega) ?_ ?_ H locs ls ⟨wb, hW, hl, fun j hj => (ob j hj).trans (oa j hj), lb⟩
  · rintro r - hr47 ih H locs ls ⟨w2, hW, hl, h1, f, h2, h3⟩
    refine lv_iload_n hx hb dX3_newD_11 rfl (lv_at hl 0 rfl) ?_
    refine lv_bipush (v := nI 48) hx hb dX3_newD_12 (by decide) ?_
    refine n_icmp_ge (tgt := 52) hx hb (by omega) (by omega) dX3_newD_14 (by decide) (fun hc => ?_) (fun hc => ?_)
    · omega
    · refine lv_bipush (v := nI 47) hx hb dX3_newD_17 (by decide) ?_
      refine lv_istore_n (lv' := [(2, .int (nI (47))), (1, .int (nI (r + 1))), (0, .ref (ad (n)))]) hx hb dX3_newD_19 rfl hl (by decide) rfl (fun ls hl => ?_)
      refine z_dn (Wg := fun H locs ls => W p l e (rz 3 2 96) s m args below meth c H locs 1 48 _ (F0 m 20 ls [])) (I := fun t H locs ls => ∃ (w3 : Nat → va_E) (f3 : Nat → Int64), t ≤ 47 - r ∧ Wo G A s.heap (n + 1) ad w3 H locs ∧ lv_has ls 3 [(2, .int (nI (r + t))), (1, .int (nI (r + 1))), (0, .ref (ad n))] ∧ (∀ j, j ≠ n → w3 j = w j) ∧ w3 n = eL G 48 f3 ∧ (∀ j, j ≤ r + t → j < 48 → f3 j = lN (oncS r j)) ∧ (∀ j, r + t < j → j < 48 → f3 j = lN (mulS (oncS r) (uS (r + 1)) j))) ?_ ?_ (47 - r) H locs ls ⟨w2, f, Nat.le_refl _, hW, (by rw [show r + (47 - r) = 47 by omega]; exact hl), h1, h2, fun j _ hj => h3 j hj, fun j q1 q2 => by omega⟩
      · rintro H locs ls ⟨w3, f3, -, hW, hl, g1, g2, g3, g4⟩
        refine lv_iload_n hx hb dX3_newD_20 rfl (lv_at hl 0 rfl) ?_
        refine lv_iload_n hx hb dX3_newD_21 rfl (lv_at hl 1 rfl) ?_
        refine n_icmp_lt (tgt := 46) hx hb (by omega) (by omega) dX3_newD_22 (by decide) (fun hc => ?_) (fun hc => ?_)
        · refine lv_iinc (v := (nI (r + 1 + 1))) (lv' := [(1, .int (nI (r + 1 + 1))), (2, .int (nI (r + 0))), (0, .ref (ad (n)))]) hx hb dX3_newD_46 hl (k := 1) rfl (iinc1 _) (by decide) rfl (fun ls hl => ?_)
          refine lv_goto (tgt := 11) hx hb dX3_newD_49 (by decide) ?_
          refine ih H locs ls ⟨w3, hW, ?_, g1, f3, g2, fun j hj => ?_⟩
          · exact lv_sub hl [0, 2] rfl
          · show f3 j = lN (mulS (oncS r) (uS (r + 1)) j)
            by_cases q : j ≤ r
            · rw [g3 j q hj, mul_uS0 (by omega) (red_onc r j)]
            · exact g4 j (by omega) hj
        · omega
      · rintro t ih2 H locs ls ⟨w3, f3, ht, hW, hl, g1, g2, g3, g4⟩
        refine lv_iload_n hx hb dX3_newD_20 rfl (lv_at hl 0 rfl) ?_
        refine lv_iload_n hx hb dX3_newD_21 rfl (lv_at hl 1 rfl) ?_
        refine n_icmp_lt (tgt := 46) hx hb (by omega) (by omega) dX3_newD_22 (by decide) (fun hc => ?_) (fun hc => ?_)
        · omega
        · refine lv_aload_n hx hb dX3_newD_25 rfl (lv_at hl 2 rfl) ?_
          refine lv_iload_n hx hb dX3_newD_26 rfl (lv_at hl 0 rfl) ?_
          refine lv_aload_n hx hb dX3_newD_27 rfl (lv_at hl 2 rfl) ?_
          refine lv_iload_n hx hb dX3_newD_28 rfl (lv_at hl 0 rfl) ?_
          refine z_lald B hW (n) (by omega) g2 (r + (t + 1)) (by omega) (by decide) (v := (lZ (((oncS r (r + (t + 1)) : Nat) : Int)))) (by rw [g3 _ (by omega) (by omega), lN_Z]) dX3_newD_29 ?_
          refine lv_aload_n hx hb dX3_newD_30 rfl (lv_at hl 2 rfl) ?_
          refine lv_iload_n hx hb dX3_newD_31 rfl (lv_at hl 0 rfl) ?_
          refine lv_iload_n hx hb dX3_newD_32 rfl (lv_at hl 1 rfl) ?_
          refine n_isub hx hb (by omega) dX3_newD_33 ?_
          refine z_lald B hW (n) (by omega) g2 ((r + (t + 1)) - (r + 1)) (by omega) (by decide) (v := (lZ (((oncS r ((r + (t + 1)) - (r + 1)) : Nat) : Int)))) (by rw [g3 _ (by omega) (by omega), lN_Z]) dX3_newD_34 ?_
          refine z_lsub hx hb dX3_newD_35 ?_
          have q1 := red_onc r (r + (t + 1))
          have q2 := red_onc r (r + (t + 1) - (r + 1))
          refine call_sl B hA hW (k_rest l G (n + 1) ad w3 (((oncS r (r + (t + 1)) : Nat) : Int) - ((oncS r (r + (t + 1) - (r + 1)) : Nat) : Int)) (by omega) (by omega)) mf_X2_rest hw_49 rfl ⟨⟨rfl, rfl⟩, by decide, by decide⟩ ⟨by decide, by decide⟩ hl.1 rfl (Nat.le_of_ble_eq_true rfl) dX3_newD_36 (fun r9 w9 H locs hp hW => ?_)
          obtain ⟨e1, e2⟩ := hp
          rw [e1] at hW
          subst e2
          rw [zm_u, ← mul_uS (Nat.succ_pos r) (show r + 1 ≤ r + (t + 1) by omega)]
          refine z_last B hW (n) (by omega) g2 (r + (t + 1)) (by omega) (by decide) dX3_newD_39 (fun H locs hW => ?_)
          refine lv_iinc (v := (nI (r + t))) (lv' := [(2, .int (nI (r + t))), (1, .int (nI (r + 1))), (0, .ref (ad (n)))]) hx hb dX3_newD_40 hl (k := 0) rfl ((im1 _).trans (nI_pred _)) (by decide) rfl (fun ls hl => ?_)
          refine lv_goto (tgt := 20) hx hb dX3_newD_43 (by decide) ?_
          refine ih2 H locs ls ⟨_, _, by omega, hW, hl, fun j hj => by rw [up_n hj]; exact g1 j hj, up_s, fun j q1 q2 => ?_, fun j q1 q2 => ?_⟩
          · rw [pk_uLn (by omega)]; exact g3 j (by omega) q2
          · by_cases q : j = r + (t + 1)
            · subst q; rw [pk_uLs]
            · rw [pk_uLn q]; exact g4 j (by omega) q2
  · rintro H locs ls ⟨w2, hW, hl, h1, h2⟩
    refine lv_iload_n hx hb dX3_newD_11 rfl (lv_at hl 0 rfl) ?_
    refine lv_bipush (v := nI 48) hx hb dX3_newD_12 (by decide) ?_
    refine n_icmp_ge (tgt := 52) hx hb (by omega) (by omega) dX3_newD_14 (by decide) (fun hc => ?_) (fun hc => ?_)
    · refine lv_bipush (v := nI 48) hx hb dX3_newD_52 (by decide) ?_
      refine z_newL B hA hW hli (by omega) (cells := 1) (slots := 48) (by have q1 := hli n; have q2 := hli (n + 1); omega) (N := 48) (by decide) (cells' := 2) (slots' := 96) rfl rfl ⟨by decide, by decide⟩ dX3_newD_54 (fun H hW => ?_)
      obtain ⟨wd, hW, ud, od⟩ : ∃ w9 : Nat → va_E, Wo G A s.heap (n + 1 + 1) ad w9 H locs ∧ w9 (n + 1) = eL G 48 (fun _ => lN 0) ∧ ∀ j, j ≠ n + 1 → w9 j = w2 j := ⟨_, hW, up_s, fun j hj => up_n hj⟩
      refine lv_astore_n (lv' := [(1, .ref (ad (n + 1))), (0, .ref (ad (n)))]) hx hb dX3_newD_56 rfl hl (by decide) rfl (fun ls hl => ?_)
      refine lv_aload_n hx hb dX3_newD_57 rfl (lv_at hl 1 rfl) ?_
      refine lv_bipush (v := nI 24) hx hb dX3_newD_58 (by decide) ?_
      refine lv_aload_n hx hb dX3_newD_60 rfl (lv_at hl 0 rfl) ?_
      have h2d : isL G wd n 48 (oncS 47) := isL_of h2 (od n (by omega))
      refine call_sv B hA hW (k_raise l G (n + 1 + 1) ad wd n (n + 1) 24 (oncS 47) (by omega) (by omega) (by omega) (by decide) h2d (red_onc 47) ⟨_, ud⟩) mf_X3_raise hw_50 rfl ⟨⟨rfl, rfl⟩, by decide, by decide⟩ ⟨by decide, by decide⟩ hl.1 rfl (Nat.le_of_ble_eq_true rfl) dX3_newD_61 (fun w3 H locs hp hW => ?_)
      obtain ⟨o3, f3, e3, v3⟩ := hp
      refine lv_aload_n hx hb dX3_newD_64 rfl (lv_at hl 0 rfl) ?_
      refine lv_iconst (v := nI 0) hx hb dX3_newD_65 (by decide) ?_
      refine lv_aload_n hx hb dX3_newD_66 rfl (lv_at hl 0 rfl) ?_
      refine lv_iconst (v := nI 1) hx hb dX3_newD_67 (by decide) ?_
      refine lv_bipush (v := nI 47) hx hb dX3_newD_68 (by decide) ?_
      refine z_copyl B hW hl.1 hw_56 hw_58 hw_57 hw_6 (n + 1) (n + 1) (by omega) (by omega) e3 e3 0 1 47 (by decide) (by decide) (by decide) (by decide) (by decide) (by decide) dX3_newD_70 (fun H locs hW => ?_)
      have e4 : va_up w3 (n + 1) (eL G 48 (va_cpy f3 f3 0 1 47)) (n + 1) = _ := up_s
      refine lv_aload_n hx hb dX3_newD_73 rfl (lv_at hl 0 rfl) ?_
      refine lv_iconst (v := nI 0) hx hb dX3_newD_74 (by decide) ?_
      refine lv_lconst (v := lN 0) hx hb dX3_newD_75 (by decide) ?_
      refine z_last B hW (n + 1) (by omega) e4 (0) (by omega) (by decide) dX3_newD_76 (fun H locs hW => ?_)
      refine lv_aload_n hx hb dX3_newD_77 rfl (lv_at hl 0 rfl) ?_
      refine ret_zr (post := fun q w' => q = ad (n + 1) ∧ (∀ j, j < n → w' j = w j) ∧ isL G w' (n + 1) 48 dS) B hr (Or.inr ⟨_, rfl⟩) hlk hW ⟨rfl, fun j q1 => by rw [up_n (by omega), up_n (by omega), o3 j (by omega), od j (by omega), h1 j (by omega)], _, up_s, fun j hj => ?_⟩ (by decide) (by decide) dX3_newD_78
      by_cases q : j = 0
      · subst q
        rw [pk_uLs]
        show lN 0 = lN (mulS qS (powS (oncS 47) 24) 0)
        rw [mul_qS0]
      · rw [pk_uLn q]
        obtain ⟨i, rfl⟩ : ∃ i, j = i + 1 := ⟨j - 1, by omega⟩
        show va_cpy f3 f3 0 1 47 (i + 1) = lN (mulS qS (powS (oncS 47) 24) (i + 1))
        rw [mul_qS (red_pow _ _ _)]
        unfold va_cpy
        rw [if_pos (by omega), show 0 + (i + 1 - 1) = i by omega]
        exact v3 i (by omega)
    · omega
