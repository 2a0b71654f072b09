theorem and31 (x : Int32) : ∃ j, j < 32 ∧ x &&& nI 31 = nI j := by
  refine ⟨(x.toBitVec &&& (nI 31).toBitVec).toNat, ?_, ?_⟩
  · rw [BitVec.toNat_and, show (nI 31).toBitVec.toNat = 31 by decide]
    exact Nat.lt_of_le_of_lt Nat.and_le_right (by decide)
  · apply Int32.toBitVec_inj.mp
    rw [Int32.toBitVec_and]
    show _ = (Int32.ofNat (x.toBitVec &&& (nI 31).toBitVec).toNat).toBitVec
    simp
set_option maxHeartbeats 4000000 in
set_option maxRecDepth 100000 in
/-- from the entry, for every script of at most 2560 ints, the law comes to its end with true -/
theorem whole_start {p : Program} {e : Env} {s : State} {m : MethodId} {below : List Frame} {meth : Method} {c : Code} (l : Launch) {b L : Nat} {xs : Nat → Int32} (hL : L ≤ 2560) (C0 : lw_At p s m meth c b L xs) : W p l e room_1 s m #[Value.ref b] below meth c s.heap [] 0 0 (lw_Z below #[Value.ref b] s) (entryFrame m ([Value.ref b] : List Value).toArray 4) := by
  obtain ⟨hx, hb, hr, hml, hown, hts, hS, hbl, hlk, hgv⟩ := C0
  have hgd : ∀ q ∈ lw_gd, q.before #[Value.ref b] s = true := fun q h => hts q (lw_gt h)
  have hE : EX s := ⟨va_AO.of (hts _ hx_18), (hts _ hx_65 : (Cond.arrayOver (.array .long)).before #[Value.ref b] s = true), va_Nw.of rfl (hts _ hx_96)⟩
  obtain ⟨G, hK⟩ := zG_ex hgd hE
  have B : Bs G p s m #[Value.ref b] c cL_law 4 RL := ⟨hx, hb, hml, hown, hgd, hK⟩
  obtain ⟨A, hAd⟩ : ∃ A : Nat → Prop, A = fun q => s.heap.size ≤ q := ⟨_, rfl⟩
  have hA : ∀ q, s.heap.size ≤ q → A q := by rw [hAd]; exact fun q h => h
  have hAr : ∀ q, A q → s.heap.size ≤ q := by rw [hAd]; exact fun q h => h
  have hbA : ¬ A b := fun h => Nat.not_le.mpr hbl (hAr b h)
  obtain ⟨τ, hT⟩ := Tb_ex (A := A) hts (hgd _ hw_1) hgv (fun a h h2 => Nat.not_le.mpr h (hAr a h2))
  obtain ⟨ad, had⟩ : ∃ ad : Nat → Nat, ∀ k, ad k = s.heap.size + k := ⟨fun k => s.heap.size + k, fun _ => rfl⟩
  have hli : lin ad := fun k => by rw [had k, had 0, Nat.add_zero]
  obtain ⟨w, -⟩ : ∃ w : Nat → va_E, True := ⟨fun _ => eO 0 [], trivial⟩
  have hW : Wo G A s.heap 0 ad w s.heap [] := ⟨fun k x h => (by simp [pw] at h), ⟨fun i j x y h => (by simp [pw] at h), fun k x h => (by simp [pw] at h)⟩, va_S.rf⟩
  have hl := lv_entry ([.ref b] : List Value) (n := 4) (Nat.le_of_ble_eq_true rfl)
  rw [lg_entry_eq]
  generalize (lg_sl ([.ref b]) ++ List.replicate (4 - (lg_sl ([.ref b])).length) Slot.unset).toArray = ls at hl ⊢
  have hl : lv_has ls 4 [(0, .ref b)] := hl
  refine z_newO B hA hW hli (by rw [had 0]; exact Nat.le_refl _) (cells := 0) (slots := 0) (by have h1 := had 0; omega) inX4 tyX4 tyX4_ok hw_9 hw_10 hw_1 (ci := 2) rfl (fs := [.null, .int (nI 0), .null, .null, .null, .null, .null, .int (nI 0), .null]) (fun j hj => by rcases (show j = 0 ∨ j = 1 ∨ j = 2 ∨ j = 3 ∨ j = 4 ∨ j = 5 ∨ j = 6 ∨ j = 7 ∨ j = 8 by omega) with rfl | rfl | rfl | rfl | rfl | rfl | rfl | rfl | rfl <;> rfl) (cells' := 1) (slots' := 9) rfl rfl ⟨by decide, by decide⟩ dL_law_0 (fun H hW => ?_)
  obtain ⟨w1, hW, u1⟩ : ∃ w9 : Nat → va_E, Wo G A s.heap 1 ad w9 H [] ∧ w9 0 = eO 2 [.null, .int (nI 0), .null, .null, .null, .null, .null, .int (nI 0), .null] := ⟨_, hW, up_s⟩
  refine lv_dup hx hb dL_law_3 rfl ?_
  refine call_Iz B hE hA hW hli (by decide) (cells := 1) (slots := 9) (by have h1 := had 1; omega) (k_X4_init l G ad w1 hli u1) rfl hw_13 hw_1 hw_12 rfl ⟨by decide, by decide, by decide +kernel⟩ hw_11 ⟨by decide, by decide⟩ (cells' := 92) (slots' := 3468) rfl rfl ⟨by decide, by decide⟩ hl.1 rfl (Nat.le_of_ble_eq_true rfl) dL_law_4 (fun w2 H locs hX hW => ?_)
  refine lv_astore_n (lv' := [(1, .ref (ad (0))), (0, .ref (b))]) hx hb dL_law_7 rfl hl (by decide) rfl (fun ls hl => ?_)
  refine z_newO B hA hW hli (hW.lo hli (by decide)) (cells := 92) (slots := 3468) (by have h1 := had 92; omega) inX5 tyX5 tyX5_ok hw_359 hw_360 hw_8 (ci := 3) rfl (fs := [.null, .null, .null, .null, .int (nI (0)), .null, .null, .null, .null, .null, .null, .null, .null, .null, .null, .null, .null, .null, .null, .int (nI (0))]) (fun j hj => by rcases (show j = 0 ∨ j = 1 ∨ j = 2 ∨ j = 3 ∨ j = 4 ∨ j = 5 ∨ j = 6 ∨ j = 7 ∨ j = 8 ∨ j = 9 ∨ j = 10 ∨ j = 11 ∨ j = 12 ∨ j = 13 ∨ j = 14 ∨ j = 15 ∨ j = 16 ∨ j = 17 ∨ j = 18 ∨ j = 19 by omega) with rfl | rfl | rfl | rfl | rfl | rfl | rfl | rfl | rfl | rfl | rfl | rfl | rfl | rfl | rfl | rfl | rfl | rfl | rfl | rfl <;> rfl) (cells' := 93) (slots' := 3488) rfl rfl ⟨by decide, by decide⟩ dL_law_8 (fun H hW => ?_)
  obtain ⟨w3, hW, u3, o3⟩ : ∃ w9 : Nat → va_E, Wo G A s.heap 93 ad w9 H locs ∧ w9 92 = eO 3 [.null, .null, .null, .null, .int (nI (0)), .null, .null, .null, .null, .null, .null, .null, .null, .null, .null, .null, .null, .null, .null, .int (nI (0))] ∧ ∀ j, j ≠ 92 → w9 j = w2 j := ⟨_, hW, up_s, fun j hj => up_n hj⟩
  have hX := hX.keep (fun j hj => o3 j (by omega))
  refine lv_dup hx hb dL_law_11 rfl ?_
  refine call_Iz B hE hA hW hli (by decide) (cells := 93) (slots := 3488) (by have h1 := had 93; omega) (k_X5_init l G ad w3 hli u3) rfl hw_363 hw_8 hw_362 rfl ⟨by decide, by decide, by decide +kernel⟩ hw_361 ⟨by decide, by decide⟩ (cells' := 111) (slots' := 4997) rfl rfl ⟨by decide, by decide⟩ hl.1 rfl (Nat.le_of_ble_eq_true rfl) dL_law_12 (fun w4 H locs hp hW => ?_)
  obtain ⟨hM, o4⟩ := hp
  have hX := hX.keep o4
  refine lv_astore_n (lv' := [(2, .ref (ad (92))), (1, .ref (ad (0))), (0, .ref (b))]) hx hb dL_law_15 rfl hl (by decide) rfl (fun ls hl => ?_)
  refine lv_iconst (v := nI 0) hx hb dL_law_16 (by decide) ?_
  refine lv_istore_n (lv' := [(3, .int (nI (0))), (2, .ref (ad (92))), (1, .ref (ad (0))), (0, .ref (b))]) hx hb dL_law_17 rfl hl (by decide) rfl (fun ls hl => ?_)
  refine z_up (Wg := fun H locs ls => W p l e room_1 s m #[Value.ref b] below meth c H locs 111 4997 _ (F0 m 18 ls [])) (I := fun t H locs ls => ∃ (wq : Nat → va_E) (σ : zS), Wo G A s.heap 111 ad wq H locs ∧ lv_has ls 4 [(3, .int (nI (5 * t))), (2, .ref (ad 92)), (1, .ref (ad 0)), (0, .ref b)] ∧ XOK G ad wq σ ∧ MOK G ad wq σ ∧ SOK σ) (a := 0) (b := L / 5) (Nat.zero_le _) ?_ ?_ H locs ls ⟨w4, s0, hW, hl, hX, hM, s0_ok⟩
  · rintro t - ht ih H locs ls ⟨wq, σ, hW, hl, hX, hM, hs⟩
    have h5 : 5 * t + 5 ≤ L := by omega
    refine lv_iload_n hx hb dL_law_18 rfl (lv_at hl 0 rfl) ?_
    refine lv_aload_n hx hb dL_law_19 rfl (lv_at hl 3 rfl) ?_
    refine va_slen hx hb hS hbl hbA hW.2.2 dL_law_20 ?_
    refine lv_iconst (v := nI 5) hx hb dL_law_21 (by decide) ?_
    refine n_isub hx hb (by omega) dL_law_22 ?_
    refine n_icmp_gt (tgt := 1006) hx hb (by omega) (by omega) dL_law_23 (by decide) (fun hc => ?_) (fun hc => ?_)
    · omega
    · have hk : ∀ (w' : Nat → va_E) (σ' : zS) (H : Heap) (locs : List Loc), Wo G A s.heap 111 ad w' H locs → XOK G ad w' σ' → MOK G ad w' σ' → SOK σ' → W p l e room_1 s m #[Value.ref b] below meth c H locs 111 4997 (lw_Z below #[Value.ref b] s) (F0 m 1000 ls []) := by
        intro w' σ' H locs hW hX hM hs
        refine lv_iinc (v := (nI (5 * t + 5))) (lv' := [(3, .int (nI (5 * t + 5))), (2, .ref (ad (92))), (1, .ref (ad (0))), (0, .ref (b))]) hx hb dL_law_1000 hl (k := 0) rfl (iincN 5 _) (by decide) rfl (fun ls hl => ?_)
        refine lv_goto (tgt := 18) hx hb dL_law_1003 (by decide) ?_
        exact ih H locs ls ⟨w', σ', hW, hl, hX, hM, hs⟩
      refine lv_aload_n hx hb dL_law_26 rfl (lv_at hl 3 rfl) ?_
      refine lv_iload_n hx hb dL_law_27 rfl (lv_at hl 0 rfl) ?_
      refine z_scr B hS hbl hbA hL hW (5 * t) (by omega) dL_law_28 ?_
      refine lv_bipush (v := nI 31) hx hb dL_law_29 (by decide) ?_
      refine lv_iand hx hb dL_law_31 ?_
      obtain ⟨j, hj, he⟩ := and31 (xs (5 * t))
      refine topi (y := nI j) he ?_
      rcases (show j = 0 ∨ j = 1 ∨ j = 2 ∨ j = 3 ∨ j = 4 ∨ j = 5 ∨ j = 6 ∨ j = 7 ∨ j = 8 ∨ j = 9 ∨ j = 10 ∨ j = 11 ∨ j = 12 ∨ j = 13 ∨ j = 14 ∨ j = 15 ∨ j = 16 ∨ j = 17 ∨ j = 18 ∨ j = 19 ∨ j = 20 ∨ j = 21 ∨ j = 22 ∨ j = 23 ∨ j = 24 ∨ j = 25 ∨ j = 26 ∨ j = 27 ∨ j = 28 ∨ j = 29 ∨ j = 30 ∨ j = 31 by omega) with rfl | rfl | rfl | rfl | rfl | rfl | rfl | rfl | rfl | rfl | rfl | rfl | rfl | rfl | rfl | rfl | rfl | rfl | rfl | rfl | rfl | rfl | rfl | rfl | rfl | rfl | rfl | rfl | rfl | rfl | rfl | rfl
      · refine lv_tableIn (tgt := 160) (off := 128) hx hb dL_law_32 (by decide) (by decide) (by decide) (by decide) ?_
        exact lc_sums B hA hT hS hbl hbA hL h5 hW hl hX hM hs hk
      · refine lv_tableIn (tgt := 183) (off := 151) hx hb dL_law_32 (by decide) (by decide) (by decide) (by decide) ?_
        exact lc_product B hA hT hS hbl hbA hL h5 hW hl hX hM hs hk
      · refine lv_tableIn (tgt := 206) (off := 174) hx hb dL_law_32 (by decide) (by decide) (by decide) (by decide) ?_
        exact lc_add B hA hT hS hbl hbA hL h5 hW hl hX hM hs hk
      · refine lv_tableIn (tgt := 259) (off := 227) hx hb dL_law_32 (by decide) (by decide) (by decide) (by decide) ?_
        exact lc_times B hA hT hS hbl hbA hL h5 hW hl hX hM hs hk
      · refine lv_tableIn (tgt := 292) (off := 260) hx hb dL_law_32 (by decide) (by decide) (by decide) (by decide) ?_
        exact lc_power B hA hT hS hbl hbA hL h5 hW hl hX hM hs hk
      · refine lv_tableIn (tgt := 325) (off := 293) hx hb dL_law_32 (by decide) (by decide) (by decide) (by decide) ?_
        exact lc_slope B hA hT hS hbl hbA hL h5 hW hl hX hM hs hk
      · refine lv_tableIn (tgt := 348) (off := 316) hx hb dL_law_32 (by decide) (by decide) (by decide) (by decide) ?_
        exact lc_bracket B hA hT hS hbl hbA hL h5 hW hl hX hM hs hk
      · refine lv_tableIn (tgt := 381) (off := 349) hx hb dL_law_32 (by decide) (by decide) (by decide) (by decide) ?_
        exact lc_over B hA hT hS hbl hbA hL h5 hW hl hX hM hs hk
      · refine lv_tableIn (tgt := 404) (off := 372) hx hb dL_law_32 (by decide) (by decide) (by decide) (by decide) ?_
        exact lc_prime B hA hT hS hbl hbA hL h5 hW hl hX hM hs hk
      · refine lv_tableIn (tgt := 437) (off := 405) hx hb dL_law_32 (by decide) (by decide) (by decide) (by decide) ?_
        exact lc_basis B hA hT hS hbl hbA hL h5 hW hl hX hM hs hk
      · refine lv_tableIn (tgt := 470) (off := 438) hx hb dL_law_32 (by decide) (by decide) (by decide) (by decide) ?_
        exact lc_drop B hA hT hS hbl hbA hL h5 hW hl hX hM hs hk
      · refine lv_tableIn (tgt := 483) (off := 451) hx hb dL_law_32 (by decide) (by decide) (by decide) (by decide) ?_
        exact lc_look B hA hT hS hbl hbA hL h5 hW hl hX hM hs hk
      · refine lv_tableIn (tgt := 516) (off := 484) hx hb dL_law_32 (by decide) (by decide) (by decide) (by decide) ?_
        exact lc_at B hA hT hS hbl hbA hL h5 hW hl hX hM hs hk
      · refine lv_tableIn (tgt := 549) (off := 517) hx hb dL_law_32 (by decide) (by decide) (by decide) (by decide) ?_
        exact lc_part B hA hT hS hbl hbA hL h5 hW hl hX hM hs hk
      · refine lv_tableIn (tgt := 582) (off := 550) hx hb dL_law_32 (by decide) (by decide) (by decide) (by decide) ?_
        exact lc_same B hA hT hS hbl hbA hL h5 hW hl hX hM hs hk
      · refine lv_tableIn (tgt := 615) (off := 583) hx hb dL_law_32 (by decide) (by decide) (by decide) (by decide) ?_
        exact lc_apart B hA hT hS hbl hbA hL h5 hW hl hX hM hs hk
      · refine lv_tableIn (tgt := 648) (off := 616) hx hb dL_law_32 (by decide) (by decide) (by decide) (by decide) ?_
        exact lc_size B hA hT hS hbl hbA hL h5 hW hl hX hM hs hk
      · refine lv_tableIn (tgt := 671) (off := 639) hx hb dL_law_32 (by decide) (by decide) (by decide) (by decide) ?_
        exact lc_own B hA hT hS hbl hbA hL h5 hW hl hX hM hs hk
      · refine lv_tableIn (tgt := 704) (off := 672) hx hb dL_law_32 (by decide) (by decide) (by decide) (by decide) ?_
        exact lc_trace B hA hT hS hbl hbA hL h5 hW hl hX hM hs hk
      · refine lv_tableIn (tgt := 763) (off := 731) hx hb dL_law_32 (by decide) (by decide) (by decide) (by decide) ?_
        exact lc_squares B hA hT hS hbl hbA hL h5 hW hl hX hM hs hk
      · refine lv_tableIn (tgt := 796) (off := 764) hx hb dL_law_32 (by decide) (by decide) (by decide) (by decide) ?_
        exact lc_count B hA hT hS hbl hbA hL h5 hW hl hX hM hs hk
      · refine lv_tableIn (tgt := 809) (off := 777) hx hb dL_law_32 (by decide) (by decide) (by decide) (by decide) ?_
        exact lc_lay B hA hT hS hbl hbA hL h5 hW hl hX hM hs hk
      · refine lv_tableIn (tgt := 842) (off := 810) hx hb dL_law_32 (by decide) (by decide) (by decide) (by decide) ?_
        exact lc_tell B hA hT hS hbl hbA hL h5 hW hl hX hM hs hk
      · refine lv_tableIn (tgt := 875) (off := 843) hx hb dL_law_32 (by decide) (by decide) (by decide) (by decide) ?_
        exact lc_give B hA hT hS hbl hbA hL h5 hW hl hX hM hs hk
      · refine lv_tableIn (tgt := 898) (off := 866) hx hb dL_law_32 (by decide) (by decide) (by decide) (by decide) ?_
        exact lc_tear B hA hT hS hbl hbA hL h5 hW hl hX hM hs hk
      · refine lv_tableIn (tgt := 911) (off := 879) hx hb dL_law_32 (by decide) (by decide) (by decide) (by decide) ?_
        exact lc_row B hA hT hS hbl hbA hL h5 hW hl hX hM hs hk
      · refine lv_tableIn (tgt := 934) (off := 902) hx hb dL_law_32 (by decide) (by decide) (by decide) (by decide) ?_
        exact lc_copy B hA hT hS hbl hbA hL h5 hW hl hX hM hs hk
      · refine lv_tableIn (tgt := 977) (off := 945) hx hb dL_law_32 (by decide) (by decide) (by decide) (by decide) ?_
        exact lc_status B hA hT hS hbl hbA hL h5 hW hl hX hM hs hk
      · refine lv_tableOut (tgt := 1000) hx hb dL_law_32 (Or.inr (by decide)) (by decide) ?_
        exact hk wq σ H locs hW hX hM hs
      · refine lv_tableOut (tgt := 1000) hx hb dL_law_32 (Or.inr (by decide)) (by decide) ?_
        exact hk wq σ H locs hW hX hM hs
      · refine lv_tableOut (tgt := 1000) hx hb dL_law_32 (Or.inr (by decide)) (by decide) ?_
        exact hk wq σ H locs hW hX hM hs
      · refine lv_tableOut (tgt := 1000) hx hb dL_law_32 (Or.inr (by decide)) (by decide) ?_
        exact hk wq σ H locs hW hX hM hs
  · rintro H locs ls ⟨wq, σ, hW, hl, hX, hM, hs⟩
    refine lv_iload_n hx hb dL_law_18 rfl (lv_at hl 0 rfl) ?_
    refine lv_aload_n hx hb dL_law_19 rfl (lv_at hl 3 rfl) ?_
    refine va_slen hx hb hS hbl hbA hW.2.2 dL_law_20 ?_
    refine lv_iconst (v := nI 5) hx hb dL_law_21 (by decide) ?_
    rcases Nat.lt_or_ge L 5 with h5 | h5
    · refine lv_isub hx hb dL_law_22 ?_
      refine lv_icmp_gt (tgt := 1006) hx hb dL_law_23 (by decide) (fun hc => ?_) (fun hc => ?_)
      · refine lv_iconst (v := 1) hx hb dL_law_1006 (by decide) ?_
        refine W.widen (k := 600000) (n := 7302250) (by decide) (by decide) ?_
        refine va_forget (fun q hq => hAr _ (hW.2.2.2.2 q hq)) ?_
        exact lw_ret hx hb hr hlk dL_law_1007
      · refine absurd ?_ hc
        rcases (show L = 0 ∨ L = 1 ∨ L = 2 ∨ L = 3 ∨ L = 4 by omega) with rfl | rfl | rfl | rfl | rfl <;> decide
    · refine n_isub hx hb (by omega) dL_law_22 ?_
      refine n_icmp_gt (tgt := 1006) hx hb (by omega) (by omega) dL_law_23 (by decide) (fun hc => ?_) (fun hc => ?_)
      · refine lv_iconst (v := 1) hx hb dL_law_1006 (by decide) ?_
        refine W.widen (k := 600000) (n := 7302250) (by decide) (by decide) ?_
        refine va_forget (fun q hq => hAr _ (hW.2.2.2.2 q hq)) ?_
        exact lw_ret hx hb hr hlk dL_law_1007
      · omega
