set_option maxHeartbeats 4000000 in
set_option maxRecDepth 100000 in
theorem k_X5_count (l : Launch) (G : zG) (n : Nat) (ad : Nat → Nat) (w : Nat → va_E) (hn : 111 ≤ n) (σ : zS) (hM : MOK G ad w σ) (hs : SOK σ)  :
    Ci l G yX5_count cdX5_count (zr 5) n ad w [.ref (ad (92))] (postM G ad w (st_count σ)) := by
  obtain ⟨m92, ⟨f93, m93, v93⟩, ⟨f94, m94, v94⟩, ⟨f95, m95, v95⟩, ⟨f96, m96, v96⟩, ⟨f97, m97, v97⟩, mE2, mE4, mE6, mD, m102, m103, m104, m105, m106, m107, m108, ⟨f109, m109, v109⟩, m110⟩ := id hM
  have hsh := hs.1
  refine ent_i (cc := cX5_count) (maxL := 1) (ret := (some .int)) (by decide +kernel) rfl (Nat.le_of_ble_eq_true rfl) ?_
  intro p e s m args below meth c A B hr hlk hA H locs ls hW hl
  have hx := B.1
  have hb := B.2.1
  have hl : lv_has ls 1 [(0, .ref (ad (92)))] := hl
  refine lv_aload_n hx hb dX5_count_0 rfl (lv_at hl 0 rfl) ?_
  refine z_get B hW (92) (by omega) m92 rfl inX5 4 (by decide) hw_379 rfl (v := .int (nI (sH σ))) rfl dX5_count_1 ?_
  exact ret_i B hr hlk hW ⟨rfl, hM, fun _ _ => rfl⟩ dX5_count_4
set_option maxHeartbeats 4000000 in
set_option maxRecDepth 100000 in
theorem k_X5_drop (l : Launch) (G : zG) (n : Nat) (ad : Nat → Nat) (w : Nat → va_E) (hn : 111 ≤ n) (σ : zS) (hM : MOK G ad w σ) (hs : SOK σ)  :
    Ci l G yX5_drop cdX5_drop (zr 5) n ad w [.ref (ad (92))] (postM G ad w (st_drop σ)) := by
  obtain ⟨m92, ⟨f93, m93, v93⟩, ⟨f94, m94, v94⟩, ⟨f95, m95, v95⟩, ⟨f96, m96, v96⟩, ⟨f97, m97, v97⟩, mE2, mE4, mE6, mD, m102, m103, m104, m105, m106, m107, m108, ⟨f109, m109, v109⟩, m110⟩ := id hM
  have hsh := hs.1
  refine ent_i (cc := cX5_drop) (maxL := 1) (ret := (some .int)) (by decide +kernel) rfl (Nat.le_of_ble_eq_true rfl) ?_
  intro p e s m args below meth c A B hr hlk hA H locs ls hW hl
  have hx := B.1
  have hb := B.2.1
  have hl : lv_has ls 1 [(0, .ref (ad (92)))] := hl
  refine lv_aload_n hx hb dX5_drop_0 rfl (lv_at hl 0 rfl) ?_
  refine z_get B hW (92) (by omega) m92 rfl inX5 4 (by decide) hw_379 rfl (v := .int (nI (sH σ))) rfl dX5_drop_1 ?_
  refine n_if_ne (tgt := 14) hx hb (by omega) dX5_drop_4 (by decide) (fun hc => ?_) (fun hc => ?_)
  · have hS : st_drop σ = (nI (sH σ - 1), sH σ - 1, sW σ, sK σ, sT σ, sE σ, sF σ, sR σ, sV σ) := by unfold st_drop; rw [if_neg hc]
    rw [hS]
    refine lv_aload_n hx hb dX5_drop_14 rfl (lv_at hl 0 rfl) ?_
    refine lv_dup hx hb dX5_drop_15 rfl ?_
    refine z_get B hW (92) (by omega) m92 rfl inX5 4 (by decide) hw_379 rfl (v := .int (nI (sH σ))) rfl dX5_drop_16 ?_
    refine lv_iconst (v := nI 1) hx hb dX5_drop_19 (by decide) ?_
    refine n_isub hx hb (by omega) dX5_drop_20 ?_
    refine z_put B hW (92) (by omega) m92 rfl inX5 tyX5 tyX5_ok nmX5 4 (by decide) hw_379 rfl rfl (v := .int (nI ((sH σ) - 1))) rfl rfl (Nat.le_of_ble_eq_true rfl) dX5_drop_21 (fun H locs hW => ?_)
    obtain ⟨w6, hw6⟩ : ∃ w6, w6 = va_up w 92 (mO ad (nI (sH σ - 1)) (rlI (sR σ))) := ⟨_, rfl⟩
    have hW : Wo G A s.heap n ad w6 H locs := by rw [hw6]; exact hW
    have K : ∀ j, j ≠ 92 → w6 j = w j := fun j hj => by rw [hw6, up_n hj]
    have e92f : w6 92 = mO ad (nI (sH σ - 1)) (rlI (sR σ)) := by rw [hw6, up_s]
    refine lv_aload_n hx hb dX5_drop_24 rfl (lv_at hl 0 rfl) ?_
    refine z_get B hW (92) (by omega) e92f rfl inX5 4 (by decide) hw_379 rfl (v := .int (nI (sH σ - 1))) rfl dX5_drop_25 ?_
    refine ret_i B hr hlk hW ⟨rfl, ?_, fun j hj => K j (by omega)⟩ dX5_drop_28
    refine ⟨e92f, ⟨f93, (K 93 (by decide)).trans m93, fun i hi => v93 i (by have hi : i < sH σ - 1 := hi; omega)⟩, ⟨f94, (K 94 (by decide)).trans m94, fun i hi => v94 i (by have hi : i < sH σ - 1 := hi; omega)⟩, ⟨f95, (K 95 (by decide)).trans m95, fun i hi => v95 i (by have hi : i < sH σ - 1 := hi; omega)⟩, ⟨f96, (K 96 (by decide)).trans m96, fun i hi => v96 i (by have hi : i < sH σ - 1 := hi; omega)⟩, ⟨f97, (K 97 (by decide)).trans m97, v97⟩, isL_of mE2 (K 98 (by decide)), isL_of mE4 (K 99 (by decide)), isL_of mE6 (K 100 (by decide)), isL_of mD (K 101 (by decide)), by rw [K 102 (by decide)]; exact m102, by rw [K 103 (by decide)]; exact m103, by rw [K 104 (by decide)]; exact m104, by rw [K 105 (by decide)]; exact m105, by rw [K 106 (by decide)]; exact m106, by rw [K 107 (by decide)]; exact m107, by rw [K 108 (by decide)]; exact m108, ⟨f109, (K 109 (by decide)).trans m109, v109⟩, by rw [K 110 (by decide)]; exact m110⟩
  · refine lv_aload_n hx hb dX5_drop_7 rfl (lv_at hl 0 rfl) ?_
    refine lv_bipush (v := -2) hx hb dX5_drop_8 (by decide) ?_
    refine call_vi B hA hW (92) (by omega) m92 (r := _) rfl rfl (k_M_no l G n ad w hn σ hM (-2) 2 (by decide) (by decide) (by decide)) mf_X5_no hw_449 rfl ⟨⟨rfl, rfl⟩, by decide, by decide⟩ ⟨Nat.zero_le _, Nat.zero_le _⟩ hl.1 rfl (Nat.le_of_ble_eq_true rfl) dX5_drop_10 (fun r w9 H locs hp hW => ?_)
    exact ret_i B hr hlk hW (by rw [show st_drop σ = ref σ 2 by unfold st_drop; rw [if_pos hc]]; exact hp) dX5_drop_13
set_option maxHeartbeats 4000000 in
set_option maxRecDepth 100000 in
theorem k_X5_size (l : Launch) (G : zG) (n : Nat) (ad : Nat → Nat) (w : Nat → va_E) (hn : 111 ≤ n) (σ : zS) (hM : MOK G ad w σ) (hs : SOK σ) (x : Int32) :
    Ci l G yX5_size cdX5_size (zr 5) n ad w [.ref (ad (92)), .int (x)] (postM G ad w (st_size σ x)) := by
  obtain ⟨m92, ⟨f93, m93, v93⟩, ⟨f94, m94, v94⟩, ⟨f95, m95, v95⟩, ⟨f96, m96, v96⟩, ⟨f97, m97, v97⟩, mE2, mE4, mE6, mD, m102, m103, m104, m105, m106, m107, m108, ⟨f109, m109, v109⟩, m110⟩ := id hM
  have hsh := hs.1
  refine ent_i (cc := cX5_size) (maxL := 2) (ret := (some .int)) (by decide +kernel) rfl (Nat.le_of_ble_eq_true rfl) ?_
  intro p e s m args below meth c A B hr hlk hA H locs ls hW hl
  have hx := B.1
  have hb := B.2.1
  have hl : lv_has ls 2 [(0, .ref (ad (92))), (1, .int (x))] := hl
  refine lv_iload_n hx hb dX5_size_0 rfl (lv_at hl 1 rfl) ?_
  refine call_si B hA hW (k_M_isWeight l G n ad w x) mf_X5_isWeight hw_542 rfl ⟨⟨rfl, rfl⟩, by decide, by decide⟩ ⟨Nat.zero_le _, Nat.zero_le _⟩ hl.1 rfl (Nat.le_of_ble_eq_true rfl) dX5_size_1 (fun r w9 H locs hp hW => ?_)
  obtain ⟨e1, hp⟩ := hp
  rw [e1] at hW
  rcases hp with ⟨k, hk, hk2, rfl, rfl⟩ | ⟨hnf, rfl⟩
  · refine n_if_eq (tgt := 14) hx hb (by omega) dX5_size_4 (by decide) (fun hz => ?_) (fun hz => ?_)
    · exact absurd hz (by decide)
    · refine lv_iload_n hx hb dX5_size_7 rfl (lv_at hl 1 rfl) ?_
      refine call_si B hA hW (k_M_sizeOf l G n ad w k hk hk2) mf_X5_sizeOf hw_513 rfl ⟨⟨rfl, rfl⟩, by decide, by decide⟩ ⟨Nat.zero_le _, Nat.zero_le _⟩ hl.1 rfl (Nat.le_of_ble_eq_true rfl) dX5_size_8 (fun r w9 H locs hp hW => ?_)
      obtain ⟨e1, e2⟩ := hp
      rw [e1] at hW
      subst e2
      refine lv_goto (tgt := 20) hx hb dX5_size_11 (by decide) ?_
      exact ret_i B hr hlk hW (by rw [show st_size σ (nI k) = (nI (zs k), σ) by unfold st_size; rw [cif_t ⟨k, hk, hk2, rfl⟩, cN_nI (by omega)]]; exact ⟨rfl, hM, fun _ _ => rfl⟩) dX5_size_20
  · refine n_if_eq (tgt := 14) hx hb (by omega) dX5_size_4 (by decide) (fun hz => ?_) (fun hz => ?_)
    · refine lv_aload_n hx hb dX5_size_14 rfl (lv_at hl 0 rfl) ?_
      refine lv_bipush (v := -7) hx hb dX5_size_15 (by decide) ?_
      refine call_vi B hA hW (92) (by omega) m92 (r := _) rfl rfl (k_M_no l G n ad w hn σ hM (-7) 7 (by decide) (by decide) (by decide)) mf_X5_no hw_449 rfl ⟨⟨rfl, rfl⟩, by decide, by decide⟩ ⟨Nat.zero_le _, Nat.zero_le _⟩ hl.1 rfl (Nat.le_of_ble_eq_true rfl) dX5_size_17 (fun r w9 H locs hp hW => ?_)
      exact ret_i B hr hlk hW (by rw [show st_size σ x = ref σ 7 by unfold st_size; rw [cif_f (P := isW x) hnf]]; exact hp) dX5_size_20
    · exact absurd rfl hz
set_option maxHeartbeats 4000000 in
set_option maxRecDepth 100000 in
theorem k_X5_times (l : Launch) (G : zG) (n : Nat) (ad : Nat → Nat) (w : Nat → va_E) (hn : 111 ≤ n) (σ : zS) (hM : MOK G ad w σ) (hs : SOK σ) (f g : Int32) :
    Ci l G yX5_times cdX5_times (zr 5) n ad w [.ref (ad (92)), .int (f), .int (g)] (postM G ad w (st_times σ f g)) := by
  obtain ⟨m92, ⟨f93, m93, v93⟩, ⟨f94, m94, v94⟩, ⟨f95, m95, v95⟩, ⟨f96, m96, v96⟩, ⟨f97, m97, v97⟩, mE2, mE4, mE6, mD, m102, m103, m104, m105, m106, m107, m108, ⟨f109, m109, v109⟩, m110⟩ := id hM
  have hsh := hs.1
  refine ent_i (cc := cX5_times) (maxL := 3) (ret := (some .int)) (by decide +kernel) rfl (Nat.le_of_ble_eq_true rfl) ?_
  intro p e s m args below meth c A B hr hlk hA H locs ls hW hl
  have hx := B.1
  have hb := B.2.1
  have hl : lv_has ls 3 [(0, .ref (ad (92))), (1, .int (f)), (2, .int (g))] := hl
  refine lv_aload_n hx hb dX5_times_0 rfl (lv_at hl 0 rfl) ?_
  refine lv_iload_n hx hb dX5_times_1 rfl (lv_at hl 1 rfl) ?_
  refine call_vi B hA hW (92) (by omega) m92 (r := _) rfl rfl (k_M_isForm l G n ad w hn σ hM hs f) mf_X5_isForm hw_473 rfl ⟨⟨rfl, rfl⟩, by decide, by decide⟩ ⟨Nat.zero_le _, Nat.zero_le _⟩ hl.1 rfl (Nat.le_of_ble_eq_true rfl) dX5_times_2 (fun r w9 H locs hp hW => ?_)
  obtain ⟨e1, hp⟩ := hp
  rw [e1] at hW
  rcases hp with ⟨i, hi, rfl, rfl⟩ | ⟨hnf, rfl⟩
  · obtain ⟨w40_i, w2_i, k4_i, t40_i, r_i, s_i⟩ := hs.2.1 i hi
    have h16_i : i < 16 := by omega
    refine n_if_eq (tgt := 16) hx hb (by omega) dX5_times_5 (by decide) (fun hz => ?_) (fun hz => ?_)
    · exact absurd hz (by decide)
    · refine lv_aload_n hx hb dX5_times_8 rfl (lv_at hl 0 rfl) ?_
      refine lv_iload_n hx hb dX5_times_9 rfl (lv_at hl 2 rfl) ?_
      refine call_vi B hA hW (92) (by omega) m92 (r := _) rfl rfl (k_M_isForm l G n ad w hn σ hM hs g) mf_X5_isForm hw_473 rfl ⟨⟨rfl, rfl⟩, by decide, by decide⟩ ⟨Nat.zero_le _, Nat.zero_le _⟩ hl.1 rfl (Nat.le_of_ble_eq_true rfl) dX5_times_10 (fun r w9 H locs hp hW => ?_)
      obtain ⟨e1, hp⟩ := hp
      rw [e1] at hW
      rcases hp with ⟨j, hj, rfl, rfl⟩ | ⟨hnf, rfl⟩
      · obtain ⟨w40_j, w2_j, k4_j, t40_j, r_j, s_j⟩ := hs.2.1 j hj
        have h16_j : j < 16 := by omega
        refine n_if_ne (tgt := 23) hx hb (by omega) dX5_times_13 (by decide) (fun hz => ?_) (fun hz => ?_)
        · have hS : st_times σ (nI i) (nI j) = comeO σ (sW σ i + sW σ j) (mulS (sE σ i) (sE σ j)) := by
            unfold st_times
            rw [cif_t ⟨⟨i, hi, rfl⟩, ⟨j, hj, rfl⟩⟩, cN_nI (by omega), cN_nI (by omega)]
          rw [hS]
          refine lv_aload_n hx hb dX5_times_23 rfl (lv_at hl 0 rfl) ?_
          refine lv_aload_n hx hb dX5_times_24 rfl (lv_at hl 0 rfl) ?_
          refine z_get B hW (92) (by omega) m92 rfl inX5 10 (by decide) hw_385 rfl (v := .ref (ad (102))) rfl dX5_times_25 ?_
          refine lv_iload_n hx hb dX5_times_28 rfl (lv_at hl 1 rfl) ?_
          obtain ⟨g93_2, d93_2, u93_2⟩ := hM.ser (i := i) (by omega)
          refine call_vv B hA hW (92) (by omega) m92 (r := _) rfl rfl (k_M_takes l G n ad w (nI (sH σ)) (rlI (sR σ)) hM.1 hn 102 i (sE σ i) g93_2 d93_2 u93_2 (by omega) (by omega) (by decide) (by decide) hM.2.2.2.2.2.2.2.2.2.2.1) mf_X5_takes hw_488 rfl ⟨⟨rfl, rfl⟩, by decide, by decide⟩ ⟨Nat.zero_le _, Nat.zero_le _⟩ hl.1 rfl (Nat.le_of_ble_eq_true rfl) dX5_times_29 (fun w2 H locs hp hW => ?_)
          obtain ⟨fr2, L2⟩ := hp
          have hM2 : MOK G ad w2 σ := hM.s48 (k := 102) (by decide) ⟨_, L2.choose_spec.1⟩ fr2
          obtain ⟨m92_2, ⟨f93_2, m93_2, v93_2⟩, ⟨f94_2, m94_2, v94_2⟩, ⟨f95_2, m95_2, v95_2⟩, ⟨f96_2, m96_2, v96_2⟩, ⟨f97_2, m97_2, v97_2⟩, mE2_2, mE4_2, mE6_2, mD_2, m102_2, m103_2, m104_2, m105_2, m106_2, m107_2, m108_2, ⟨f109_2, m109_2, v109_2⟩, m110_2⟩ := id hM2
          refine lv_aload_n hx hb dX5_times_32 rfl (lv_at hl 0 rfl) ?_
          refine lv_aload_n hx hb dX5_times_33 rfl (lv_at hl 0 rfl) ?_
          refine z_get B hW (92) (by omega) m92_2 rfl inX5 11 (by decide) hw_386 rfl (v := .ref (ad (103))) rfl dX5_times_34 ?_
          refine lv_iload_n hx hb dX5_times_37 rfl (lv_at hl 2 rfl) ?_
          obtain ⟨g93_3, d93_3, u93_3⟩ := hM2.ser (i := j) (by omega)
          refine call_vv B hA hW (92) (by omega) m92_2 (r := _) rfl rfl (k_M_takes l G n ad w2 (nI (sH σ)) (rlI (sR σ)) hM2.1 hn 103 j (sE σ j) g93_3 d93_3 u93_3 (by omega) (by omega) (by decide) (by decide) hM2.2.2.2.2.2.2.2.2.2.2.2.1) mf_X5_takes hw_488 rfl ⟨⟨rfl, rfl⟩, by decide, by decide⟩ ⟨Nat.zero_le _, Nat.zero_le _⟩ hl.1 rfl (Nat.le_of_ble_eq_true rfl) dX5_times_38 (fun w3 H locs hp hW => ?_)
          obtain ⟨fr3, L3⟩ := hp
          have hM3 : MOK G ad w3 σ := hM2.s48 (k := 103) (by decide) ⟨_, L3.choose_spec.1⟩ fr3
          obtain ⟨m92_3, ⟨f93_3, m93_3, v93_3⟩, ⟨f94_3, m94_3, v94_3⟩, ⟨f95_3, m95_3, v95_3⟩, ⟨f96_3, m96_3, v96_3⟩, ⟨f97_3, m97_3, v97_3⟩, mE2_3, mE4_3, mE6_3, mD_3, m102_3, m103_3, m104_3, m105_3, m106_3, m107_3, m108_3, ⟨f109_3, m109_3, v109_3⟩, m110_3⟩ := id hM3
          refine lv_aload_n hx hb dX5_times_41 rfl (lv_at hl 0 rfl) ?_
          refine lv_aload_n hx hb dX5_times_42 rfl (lv_at hl 0 rfl) ?_
          refine z_get B hW (92) (by omega) m92_3 rfl inX5 10 (by decide) hw_385 rfl (v := .ref (ad (102))) rfl dX5_times_43 ?_
          refine lv_aload_n hx hb dX5_times_46 rfl (lv_at hl 0 rfl) ?_
          refine z_get B hW (92) (by omega) m92_3 rfl inX5 11 (by decide) hw_386 rfl (v := .ref (ad (103))) rfl dX5_times_47 ?_
          refine call_vv B hA hW (92) (by omega) m92_3 (r := _) rfl rfl (k_M_multiplies l G n ad w3 (nI (sH σ)) (rlI (sR σ)) hM3.1 hn 102 103 (sE σ i) (sE σ j) (by omega) (by omega) (by decide) (isL_of L2 (fr3 102 (by decide))) L3 r_i.s r_j.s) mf_X5_multiplies hw_465 rfl ⟨⟨rfl, rfl⟩, by decide, by decide⟩ ⟨Nat.zero_le _, Nat.zero_le _⟩ hl.1 rfl (Nat.le_of_ble_eq_true rfl) dX5_times_50 (fun w4 H locs hp hW => ?_)
          obtain ⟨fr4, L4⟩ := hp
          have hM4 : MOK G ad w4 σ := hM3.s48 (k := 102) (by decide) ⟨_, L4.choose_spec.1⟩ fr4
          obtain ⟨m92_4, ⟨f93_4, m93_4, v93_4⟩, ⟨f94_4, m94_4, v94_4⟩, ⟨f95_4, m95_4, v95_4⟩, ⟨f96_4, m96_4, v96_4⟩, ⟨f97_4, m97_4, v97_4⟩, mE2_4, mE4_4, mE6_4, mD_4, m102_4, m103_4, m104_4, m105_4, m106_4, m107_4, m108_4, ⟨f109_4, m109_4, v109_4⟩, m110_4⟩ := id hM4
          refine lv_aload_n hx hb dX5_times_53 rfl (lv_at hl 0 rfl) ?_
          refine lv_aload_n hx hb dX5_times_54 rfl (lv_at hl 0 rfl) ?_
          refine z_get B hW (92) (by omega) m92_4 rfl inX5 2 (by decide) hw_377 rfl (v := .ref (ad (95))) rfl dX5_times_55 ?_
          refine lv_iload_n hx hb dX5_times_58 rfl (lv_at hl 1 rfl) ?_
          refine z_iald B hW (95) (by omega) m95_4 (i) (by omega) (by decide) (v := (nI (sW σ (i)))) (v95_4 _ (by omega)) dX5_times_59 ?_
          refine lv_aload_n hx hb dX5_times_60 rfl (lv_at hl 0 rfl) ?_
          refine z_get B hW (92) (by omega) m92_4 rfl inX5 2 (by decide) hw_377 rfl (v := .ref (ad (95))) rfl dX5_times_61 ?_
          refine lv_iload_n hx hb dX5_times_64 rfl (lv_at hl 2 rfl) ?_
          refine z_iald B hW (95) (by omega) m95_4 (j) (by omega) (by decide) (v := (nI (sW σ (j)))) (v95_4 _ (by omega)) dX5_times_65 ?_
          refine n_iadd hx hb dX5_times_66 ?_
          refine call_vi B hA hW (92) (by omega) m92_4 (r := _) rfl rfl (k_M_made l G n ad w4 hn σ hM4 hs (sW σ i + sW σ j) (by omega) (mulS (sE σ i) (sE σ j)) L4 (mulS_lt _ _ _)) mf_X5_made hw_480 rfl ⟨⟨rfl, rfl⟩, by decide, by decide⟩ ⟨Nat.zero_le _, Nat.zero_le _⟩ hl.1 rfl (Nat.le_of_ble_eq_true rfl) dX5_times_67 (fun r w9 H locs hp9 hW => ?_)
          exact ret_i B hr hlk hW ⟨hp9.1, hp9.2.1, fun j hj => (hp9.2.2 j hj).trans (((fr4 j (by omega)).trans (fr3 j (by omega))).trans (fr2 j (by omega)))⟩ dX5_times_70
        · exact absurd hz (by decide)
      · refine n_if_ne (tgt := 23) hx hb (by omega) dX5_times_13 (by decide) (fun hz => ?_) (fun hz => ?_)
        · exact absurd rfl hz
        · refine lv_aload_n hx hb dX5_times_16 rfl (lv_at hl 0 rfl) ?_
          refine lv_bipush (v := -3) hx hb dX5_times_17 (by decide) ?_
          refine call_vi B hA hW (92) (by omega) m92 (r := _) rfl rfl (k_M_no l G n ad w hn σ hM (-3) 3 (by decide) (by decide) (by decide)) mf_X5_no hw_449 rfl ⟨⟨rfl, rfl⟩, by decide, by decide⟩ ⟨Nat.zero_le _, Nat.zero_le _⟩ hl.1 rfl (Nat.le_of_ble_eq_true rfl) dX5_times_19 (fun r w9 H locs hp hW => ?_)
          exact ret_i B hr hlk hW (by rw [show st_times σ (nI i) g = ref σ 3 by unfold st_times; rw [cif_f (fun q => hnf q.2)]]; exact hp) dX5_times_22
  · refine n_if_eq (tgt := 16) hx hb (by omega) dX5_times_5 (by decide) (fun hz => ?_) (fun hz => ?_)
    · refine lv_aload_n hx hb dX5_times_16 rfl (lv_at hl 0 rfl) ?_
      refine lv_bipush (v := -3) hx hb dX5_times_17 (by decide) ?_
      refine call_vi B hA hW (92) (by omega) m92 (r := _) rfl rfl (k_M_no l G n ad w hn σ hM (-3) 3 (by decide) (by decide) (by decide)) mf_X5_no hw_449 rfl ⟨⟨rfl, rfl⟩, by decide, by decide⟩ ⟨Nat.zero_le _, Nat.zero_le _⟩ hl.1 rfl (Nat.le_of_ble_eq_true rfl) dX5_times_19 (fun r w9 H locs hp hW => ?_)
      exact ret_i B hr hlk hW (by rw [show st_times σ f g = ref σ 3 by unfold st_times; rw [cif_f (fun q => hnf q.1)]]; exact hp) dX5_times_22
    · exact absurd rfl hz
set_option maxHeartbeats 4000000 in
set_option maxRecDepth 100000 in
theorem k_X5_power (l : Launch) (G : zG) (n : Nat) (ad : Nat → Nat) (w : Nat → va_E) (hn : 111 ≤ n) (σ : zS) (hM : MOK G ad w σ) (hs : SOK σ) (f x : Int32) :
    Ci l G yX5_power cdX5_power (zr 5) n ad w [.ref (ad (92)), .int (f), .int (x)] (postM G ad w (st_power σ f x)) := by
  obtain ⟨m92, ⟨f93, m93, v93⟩, ⟨f94, m94, v94⟩, ⟨f95, m95, v95⟩, ⟨f96, m96, v96⟩, ⟨f97, m97, v97⟩, mE2, mE4, mE6, mD, m102, m103, m104, m105, m106, m107, m108, ⟨f109, m109, v109⟩, m110⟩ := id hM
  have hsh := hs.1
  refine ent_i (cc := cX5_power) (maxL := 4) (ret := (some .int)) (by decide +kernel) rfl (Nat.le_of_ble_eq_true rfl) ?_
  intro p e s m args below meth c A B hr hlk hA H locs ls hW hl
  have hx := B.1
  have hb := B.2.1
  have hl : lv_has ls 4 [(0, .ref (ad (92))), (1, .int (f)), (2, .int (x))] := hl
  refine lv_aload_n hx hb dX5_power_0 rfl (lv_at hl 0 rfl) ?_
  refine lv_iload_n hx hb dX5_power_1 rfl (lv_at hl 1 rfl) ?_
  refine call_vi B hA hW (92) (by omega) m92 (r := _) rfl rfl (k_M_isForm l G n ad w hn σ hM hs f) mf_X5_isForm hw_473 rfl ⟨⟨rfl, rfl⟩, by decide, by decide⟩ ⟨Nat.zero_le _, Nat.zero_le _⟩ hl.1 rfl (Nat.le_of_ble_eq_true rfl) dX5_power_2 (fun r w9 H locs hp hW => ?_)
  obtain ⟨e1, hp⟩ := hp
  rw [e1] at hW
  rcases hp with ⟨i, hi, rfl, rfl⟩ | ⟨hnf, rfl⟩
  · obtain ⟨w40_i, w2_i, k4_i, t40_i, r_i, s_i⟩ := hs.2.1 i hi
    have h16_i : i < 16 := by omega
    refine n_if_ne (tgt := 15) hx hb (by omega) dX5_power_5 (by decide) (fun hz => ?_) (fun hz => ?_)
    · refine lv_iload_n hx hb dX5_power_15 rfl (lv_at hl 2 rfl) ?_
      refine lv_if_ge (tgt := 26) hx hb dX5_power_16 (by decide) (fun hc => ?_) (fun hc => ?_)
      · have hnl : ¬ x < 0 := Int32.not_lt.mpr hc
        obtain ⟨e9, he9, rfl⟩ := nI_of hnl
        refine lv_iload_n hx hb dX5_power_26 rfl (lv_at hl 2 rfl) ?_
        refine lv_bipush (v := nI 20) hx hb dX5_power_27 (by decide) ?_
        refine n_icmp_le (tgt := 39) hx hb (by omega) (by omega) dX5_power_29 (by decide) (fun hd => ?_) (fun hd => ?_)
        · have hS : st_power σ (nI i) (nI e9) = comeO σ (sW σ i * e9) (powS (sE σ i) e9) := by
            unfold st_power
            rw [cif_t ⟨i, hi, rfl⟩, cif_f hnl, cN_nI he9, cif_f (by omega), cN_nI (by omega)]
          rw [hS]
          have hmu : sW σ i * e9 ≤ 40 * 20 := Nat.mul_le_mul w40_i hd
          refine lv_aload_n hx hb dX5_power_39 rfl (lv_at hl 0 rfl) ?_
          refine lv_aload_n hx hb dX5_power_40 rfl (lv_at hl 0 rfl) ?_
          refine z_get B hW (92) (by omega) m92 rfl inX5 11 (by decide) hw_386 rfl (v := .ref (ad (103))) rfl dX5_power_41 ?_
          refine lv_iload_n hx hb dX5_power_44 rfl (lv_at hl 1 rfl) ?_
          obtain ⟨g93_5, d93_5, u93_5⟩ := hM.ser (i := i) (by omega)
          refine call_vv B hA hW (92) (by omega) m92 (r := _) rfl rfl (k_M_takes l G n ad w (nI (sH σ)) (rlI (sR σ)) hM.1 hn 103 i (sE σ i) g93_5 d93_5 u93_5 (by omega) (by omega) (by decide) (by decide) hM.2.2.2.2.2.2.2.2.2.2.2.1) mf_X5_takes hw_488 rfl ⟨⟨rfl, rfl⟩, by decide, by decide⟩ ⟨Nat.zero_le _, Nat.zero_le _⟩ hl.1 rfl (Nat.le_of_ble_eq_true rfl) dX5_power_45 (fun w5 H locs hp hW => ?_)
          obtain ⟨fr5, L5⟩ := hp
          have hM5 : MOK G ad w5 σ := hM.s48 (k := 103) (by decide) ⟨_, L5.choose_spec.1⟩ fr5
          obtain ⟨m92_5, ⟨f93_5, m93_5, v93_5⟩, ⟨f94_5, m94_5, v94_5⟩, ⟨f95_5, m95_5, v95_5⟩, ⟨f96_5, m96_5, v96_5⟩, ⟨f97_5, m97_5, v97_5⟩, mE2_5, mE4_5, mE6_5, mD_5, m102_5, m103_5, m104_5, m105_5, m106_5, m107_5, m108_5, ⟨f109_5, m109_5, v109_5⟩, m110_5⟩ := id hM5
          refine lv_iconst (v := nI 0) hx hb dX5_power_48 (by decide) ?_
          refine lv_istore_n (lv' := [(3, .int (nI (0))), (0, .ref (ad (92))), (1, .int (nI (i))), (2, .int (nI (e9)))]) hx hb dX5_power_49 rfl hl (by decide) rfl (fun ls hl => ?_)
          obtain ⟨f0, x0⟩ := hM5.2.2.2.2.2.2.2.2.2.2.1
          refine z_up (Wg := fun H locs ls => W p l e (zr 5) s m args below meth c H locs 0 0 _ (F0 m 50 ls [])) (I := fun q H locs ls => ∃ (w2 : Nat → va_E) (f : Nat → Int64), Wo G A s.heap n ad w2 H locs ∧ lv_has ls 4 [(3, .int (nI q)), (0, .ref (ad (92))), (1, .int (nI (i))), (2, .int (nI (e9)))] ∧ (∀ j, j ≠ 102 → w2 j = w5 j) ∧ w2 102 = eL G 48 f ∧ (∀ j, j < q → f j = lN (oneS j))) (a := 0) (b := 48) (Nat.zero_le _) ?_ ?_ H locs ls ⟨w5, f0, hW, hl, fun _ _ => rfl, x0, fun j h => by omega⟩
          · rintro q - hq ih H locs ls ⟨w2, f, hW, hl, h1, h2, h3⟩
            have e92b := (h1 92 (by decide)).trans hM5.1
            refine lv_iload_n hx hb dX5_power_50 rfl (lv_at hl 0 rfl) ?_
            refine lv_bipush (v := nI 48) hx hb dX5_power_51 (by decide) ?_
            refine n_icmp_ge (tgt := 77) hx hb (by omega) (by omega) dX5_power_53 (by decide) (fun hc2 => ?_) (fun hc2 => ?_)
            · omega
            · refine lv_aload_n hx hb dX5_power_56 rfl (lv_at hl 1 rfl) ?_
              refine z_get B hW (92) (by omega) e92b rfl inX5 10 (by decide) hw_385 rfl (v := .ref (ad (102))) rfl dX5_power_57 ?_
              refine lv_iload_n hx hb dX5_power_60 rfl (lv_at hl 0 rfl) ?_
              refine lv_iload_n hx hb dX5_power_61 rfl (lv_at hl 0 rfl) ?_
              refine n_if_ne (tgt := 69) hx hb (by omega) dX5_power_62 (by decide) (fun hd => ?_) (fun hd => ?_)
              · refine lv_lconst (v := lN 0) hx hb dX5_power_69 (by decide) ?_
                refine z_last B hW (102) (by omega) h2 (q) (by omega) (by decide) dX5_power_70 (fun H locs hW => ?_)
                refine lv_iinc (v := (nI (q + 1))) (lv' := [(3, .int (nI (q + 1))), (0, .ref (ad (92))), (1, .int (nI (i))), (2, .int (nI (e9)))]) hx hb dX5_power_71 hl (k := 0) rfl (iinc1 _) (by decide) rfl (fun ls hl => ?_)
                refine lv_goto (tgt := 50) hx hb dX5_power_74 (by decide) ?_
                refine ih H locs ls ⟨_, _, hW, hl, fun j hj => by rw [up_n hj]; exact h1 j hj, up_s, fun j hj => ?_⟩
                by_cases z : j = q
                · subst z; rw [pk_uLs]; simp [oneS, hd]
                · rw [pk_uLn z]; exact h3 j (by omega)
              · refine lv_lconst (v := lN 1) hx hb dX5_power_65 (by decide) ?_
                refine lv_goto (tgt := 70) hx hb dX5_power_66 (by decide) ?_
                refine z_last B hW (102) (by omega) h2 (q) (by omega) (by decide) dX5_power_70 (fun H locs hW => ?_)
                refine lv_iinc (v := (nI (q + 1))) (lv' := [(3, .int (nI (q + 1))), (0, .ref (ad (92))), (1, .int (nI (i))), (2, .int (nI (e9)))]) hx hb dX5_power_71 hl (k := 0) rfl (iinc1 _) (by decide) rfl (fun ls hl => ?_)
                refine lv_goto (tgt := 50) hx hb dX5_power_74 (by decide) ?_
                refine ih H locs ls ⟨_, _, hW, hl, fun j hj => by rw [up_n hj]; exact h1 j hj, up_s, fun j hj => ?_⟩
                by_cases z : j = q
                · subst z; rw [pk_uLs]; simp [oneS, hd]
                · rw [pk_uLn z]; exact h3 j (by omega)
          · rintro H locs ls ⟨w2, f, hW, hl, h1, h2, h3⟩
            have hMo : MOK G ad w2 σ := hM5.s48 (k := 102) (by decide) ⟨f, h2⟩ h1
            have Lo : isL G w2 102 48 oneS := ⟨f, h2, h3⟩
            refine lv_iload_n hx hb dX5_power_50 rfl (lv_at hl 0 rfl) ?_
            refine lv_bipush (v := nI 48) hx hb dX5_power_51 (by decide) ?_
            refine n_icmp_ge (tgt := 77) hx hb (by omega) (by omega) dX5_power_53 (by decide) (fun hc2 => ?_) (fun hc2 => ?_)
            · refine lv_iconst (v := nI 0) hx hb dX5_power_77 (by decide) ?_
              refine lv_istore_n (lv' := [(3, .int (nI (0))), (0, .ref (ad (92))), (1, .int (nI (i))), (2, .int (nI (e9)))]) hx hb dX5_power_78 rfl hl (by decide) rfl (fun ls hl => ?_)
              refine z_up (Wg := fun H locs ls => W p l e (zr 5) s m args below meth c H locs 0 0 _ (F0 m 79 ls [])) (I := fun q H locs ls => ∃ w3 : Nat → va_E, Wo G A s.heap n ad w3 H locs ∧ lv_has ls 4 [(3, .int (nI q)), (0, .ref (ad (92))), (1, .int (nI (i))), (2, .int (nI (e9)))] ∧ (∀ j, j ≠ 102 → w3 j = w2 j) ∧ MOK G ad w3 σ ∧ isL G w3 102 48 (powS (sE σ i) q)) (a := 0) (b := e9) (Nat.zero_le _) ?_ ?_ H locs ls ⟨w2, hW, hl, fun _ _ => rfl, hMo, Lo⟩
              · rintro q - hq ih H locs ls ⟨w3, hW, hl, c1, c2, c3⟩
                refine lv_iload_n hx hb dX5_power_79 rfl (lv_at hl 0 rfl) ?_
                refine lv_iload_n hx hb dX5_power_80 rfl (lv_at hl 3 rfl) ?_
                refine n_icmp_ge (tgt := 102) hx hb (by omega) (by omega) dX5_power_81 (by decide) (fun hc2 => ?_) (fun hc2 => ?_)
                · omega
                · refine lv_aload_n hx hb dX5_power_84 rfl (lv_at hl 1 rfl) ?_
                  refine lv_aload_n hx hb dX5_power_85 rfl (lv_at hl 1 rfl) ?_
                  refine z_get B hW (92) (by omega) c2.1 rfl inX5 10 (by decide) hw_385 rfl (v := .ref (ad (102))) rfl dX5_power_86 ?_
                  refine lv_aload_n hx hb dX5_power_89 rfl (lv_at hl 1 rfl) ?_
                  refine z_get B hW (92) (by omega) c2.1 rfl inX5 11 (by decide) hw_386 rfl (v := .ref (ad (103))) rfl dX5_power_90 ?_
                  refine call_vv B hA hW (92) (by omega) c2.1 (r := _) rfl rfl (k_M_multiplies l G n ad w3 (nI (sH σ)) (rlI (sR σ)) c2.1 hn 102 103 (powS (sE σ i) q) (sE σ i) (by omega) (by omega) (by decide) c3 (isL_of L5 ((c1 103 (by decide)).trans (h1 103 (by decide)))) (red_pow _ _).s r_i.s) mf_X5_multiplies hw_465 rfl ⟨⟨rfl, rfl⟩, by decide, by decide⟩ ⟨Nat.zero_le _, Nat.zero_le _⟩ hl.1 rfl (Nat.le_of_ble_eq_true rfl) dX5_power_93 (fun w4 H locs hp hW => ?_)
                  refine lv_iinc (v := (nI (q + 1))) (lv' := [(3, .int (nI (q + 1))), (0, .ref (ad (92))), (1, .int (nI (i))), (2, .int (nI (e9)))]) hx hb dX5_power_96 hl (k := 0) rfl (iinc1 _) (by decide) rfl (fun ls hl => ?_)
                  refine lv_goto (tgt := 79) hx hb dX5_power_99 (by decide) ?_
                  exact ih H locs ls ⟨w4, hW, hl, fun j hj => (hp.1 j hj).trans (c1 j hj), c2.s48 (k := 102) (by decide) ⟨_, hp.2.choose_spec.1⟩ hp.1, hp.2⟩
              · rintro H locs ls ⟨w3, hW, hl, c1, c2, c3⟩
                refine lv_iload_n hx hb dX5_power_79 rfl (lv_at hl 0 rfl) ?_
                refine lv_iload_n hx hb dX5_power_80 rfl (lv_at hl 3 rfl) ?_
                refine n_icmp_ge (tgt := 102) hx hb (by omega) (by omega) dX5_power_81 (by decide) (fun hc2 => ?_) (fun hc2 => ?_)
                · obtain ⟨-, -, -, ⟨f95c, m95c, v95c⟩, -⟩ := id c2
                  refine lv_aload_n hx hb dX5_power_102 rfl (lv_at hl 1 rfl) ?_
                  refine lv_iload_n hx hb dX5_power_103 rfl (lv_at hl 3 rfl) ?_
                  refine lv_aload_n hx hb dX5_power_104 rfl (lv_at hl 1 rfl) ?_
                  refine z_get B hW (92) (by omega) c2.1 rfl inX5 2 (by decide) hw_377 rfl (v := .ref (ad (95))) rfl dX5_power_105 ?_
                  refine lv_iload_n hx hb dX5_power_108 rfl (lv_at hl 2 rfl) ?_
                  refine z_iald B hW (95) (by omega) m95c (i) (by omega) (by decide) (v := (nI (sW σ (i)))) (v95c _ (by omega)) dX5_power_109 ?_
                  refine n_imul hx hb dX5_power_110 ?_
                  refine topi (y := (nI (sW σ i * e9))) (by rw [Nat.mul_comm]) ?_
                  refine call_vi B hA hW (92) (by omega) c2.1 (r := _) rfl rfl (k_M_made l G n ad w3 hn σ c2 hs (sW σ i * e9) (by omega) (powS (sE σ i) e9) c3 (red_pow _ _ _)) mf_X5_made hw_480 rfl ⟨⟨rfl, rfl⟩, by decide, by decide⟩ ⟨Nat.zero_le _, Nat.zero_le _⟩ hl.1 rfl (Nat.le_of_ble_eq_true rfl) dX5_power_111 (fun r w9 H locs hp9 hW => ?_)
                  exact ret_i B hr hlk hW ⟨hp9.1, hp9.2.1, fun j hj => (hp9.2.2 j hj).trans (((c1 j (by omega)).trans (h1 j (by omega))).trans (fr5 j (by omega)))⟩ dX5_power_114
                · omega
            · omega
        · refine lv_aload_n hx hb dX5_power_32 rfl (lv_at hl 0 rfl) ?_
          refine lv_bipush (v := -7) hx hb dX5_power_33 (by decide) ?_
          refine call_vi B hA hW (92) (by omega) m92 (r := _) rfl rfl (k_M_no l G n ad w hn σ hM (-7) 7 (by decide) (by decide) (by decide)) mf_X5_no hw_449 rfl ⟨⟨rfl, rfl⟩, by decide, by decide⟩ ⟨Nat.zero_le _, Nat.zero_le _⟩ hl.1 rfl (Nat.le_of_ble_eq_true rfl) dX5_power_35 (fun r w9 H locs hp hW => ?_)
          exact ret_i B hr hlk hW (by rw [show st_power σ (nI i) (nI e9) = ref σ 7 by unfold st_power; rw [cif_t ⟨i, hi, rfl⟩, cif_f hnl, cN_nI he9, cif_t (by omega)]]; exact hp) dX5_power_38
      · refine lv_aload_n hx hb dX5_power_19 rfl (lv_at hl 0 rfl) ?_
        refine lv_bipush (v := -4) hx hb dX5_power_20 (by decide) ?_
        refine call_vi B hA hW (92) (by omega) m92 (r := _) rfl rfl (k_M_no l G n ad w hn σ hM (-4) 4 (by decide) (by decide) (by decide)) mf_X5_no hw_449 rfl ⟨⟨rfl, rfl⟩, by decide, by decide⟩ ⟨Nat.zero_le _, Nat.zero_le _⟩ hl.1 rfl (Nat.le_of_ble_eq_true rfl) dX5_power_22 (fun r w9 H locs hp hW => ?_)
        exact ret_i B hr hlk hW (by rw [show st_power σ (nI i) x = ref σ 4 by unfold st_power; rw [cif_t ⟨i, hi, rfl⟩, cif_t (Int32.not_le.mp hc)]]; exact hp) dX5_power_25
    · exact absurd hz (by decide)
  · refine n_if_ne (tgt := 15) hx hb (by omega) dX5_power_5 (by decide) (fun hz => ?_) (fun hz => ?_)
    · exact absurd rfl hz
    · refine lv_aload_n hx hb dX5_power_8 rfl (lv_at hl 0 rfl) ?_
      refine lv_bipush (v := -3) hx hb dX5_power_9 (by decide) ?_
      refine call_vi B hA hW (92) (by omega) m92 (r := _) rfl rfl (k_M_no l G n ad w hn σ hM (-3) 3 (by decide) (by decide) (by decide)) mf_X5_no hw_449 rfl ⟨⟨rfl, rfl⟩, by decide, by decide⟩ ⟨Nat.zero_le _, Nat.zero_le _⟩ hl.1 rfl (Nat.le_of_ble_eq_true rfl) dX5_power_11 (fun r w9 H locs hp hW => ?_)
      exact ret_i B hr hlk hW (by rw [show st_power σ f x = ref σ 3 by unfold st_power; rw [cif_f hnf]]; exact hp) dX5_power_14
set_option maxHeartbeats 4000000 in
set_option maxRecDepth 100000 in
theorem k_X5_product (l : Launch) (G : zG) (n : Nat) (ad : Nat → Nat) (w : Nat → va_E) (hn : 111 ≤ n) (σ : zS) (hM : MOK G ad w σ) (hs : SOK σ) (x : Int32) :
    Ci l G yX5_product cdX5_product (zr 5) n ad w [.ref (ad (92)), .int (x)] (postM G ad w (st_product σ x)) := by
  obtain ⟨m92, ⟨f93, m93, v93⟩, ⟨f94, m94, v94⟩, ⟨f95, m95, v95⟩, ⟨f96, m96, v96⟩, ⟨f97, m97, v97⟩, mE2, mE4, mE6, mD, m102, m103, m104, m105, m106, m107, m108, ⟨f109, m109, v109⟩, m110⟩ := id hM
  have hsh := hs.1
  refine ent_i (cc := cX5_product) (maxL := 3) (ret := (some .int)) (by decide +kernel) rfl (Nat.le_of_ble_eq_true rfl) ?_
  intro p e s m args below meth c A B hr hlk hA H locs ls hW hl
  have hx := B.1
  have hb := B.2.1
  have hl : lv_has ls 3 [(0, .ref (ad (92))), (1, .int (x))] := hl
  have hxr := rngI x
  refine lv_iload_n hx hb dX5_product_0 rfl (lv_at hl 1 rfl) ?_
  refine r_i2l hx hb dX5_product_1 ?_
  refine lv_lconst (v := lZ 1) hx hb dX5_product_2 (by decide) ?_
  refine n_ldc2 B hw_461 (x := lZ (3)) (by decide) dX5_product_3 ?_
  refine call_si B hA hW (k_M_isIn l G n ad w x.toInt 1 3 (by omega) (by omega) (by omega) (by omega) (by omega) (by omega)) mf_X5_isIn hw_462 rfl ⟨⟨rfl, rfl⟩, by decide, by decide⟩ ⟨Nat.zero_le _, Nat.zero_le _⟩ hl.1 rfl (Nat.le_of_ble_eq_true rfl) dX5_product_6 (fun r w9 H locs hp hW => ?_)
  obtain ⟨e1, hp⟩ := hp
  rw [e1] at hW
  rcases hp with ⟨q1, q2, rfl⟩ | ⟨hnin, rfl⟩
  · refine n_if_ne (tgt := 19) hx hb (by omega) dX5_product_9 (by decide) (fun hz => ?_) (fun hz => ?_)
    · obtain ⟨e9, he9, rfl⟩ := nI_of (x := x) (fun z => by rw [Int32.lt_iff_toInt_lt] at z; have e0 : (0 : Int32).toInt = 0 := rfl; omega)
      rw [nI_toInt he9] at q1 q2
      have hS : st_product σ (nI e9) = come σ (12 * e9) 2 e9 (powS dS e9) := by
        unfold st_product
        rw [cif_t ⟨e9, by omega, by omega, rfl⟩, cN_nI he9]
      rw [hS]
      refine lv_iconst (v := nI 0) hx hb dX5_product_19 (by decide) ?_
      refine lv_istore_n (lv' := [(2, .int (nI (0))), (0, .ref (ad (92))), (1, .int (nI (e9)))]) hx hb dX5_product_20 rfl hl (by decide) rfl (fun ls hl => ?_)
      obtain ⟨f0, x0⟩ := hM.2.2.2.2.2.2.2.2.2.2.1
      refine z_up (Wg := fun H locs ls => W p l e (zr 5) s m args below meth c H locs 0 0 _ (F0 m 21 ls [])) (I := fun q H locs ls => ∃ (w2 : Nat → va_E) (f : Nat → Int64), Wo G A s.heap n ad w2 H locs ∧ lv_has ls 3 [(2, .int (nI q)), (0, .ref (ad (92))), (1, .int (nI (e9)))] ∧ (∀ j, j ≠ 102 → w2 j = w j) ∧ w2 102 = eL G 48 f ∧ (∀ j, j < q → f j = lN (oneS j))) (a := 0) (b := 48) (Nat.zero_le _) ?_ ?_ H locs ls ⟨w, f0, hW, hl, fun _ _ => rfl, x0, fun j h => by omega⟩
      · rintro q - hq ih H locs ls ⟨w2, f, hW, hl, h1, h2, h3⟩
        have e92b := (h1 92 (by decide)).trans hM.1
        refine lv_iload_n hx hb dX5_product_21 rfl (lv_at hl 0 rfl) ?_
        refine lv_bipush (v := nI 48) hx hb dX5_product_22 (by decide) ?_
        refine n_icmp_ge (tgt := 48) hx hb (by omega) (by omega) dX5_product_24 (by decide) (fun hc2 => ?_) (fun hc2 => ?_)
        · omega
        · refine lv_aload_n hx hb dX5_product_27 rfl (lv_at hl 1 rfl) ?_
          refine z_get B hW (92) (by omega) e92b rfl inX5 10 (by decide) hw_385 rfl (v := .ref (ad (102))) rfl dX5_product_28 ?_
          refine lv_iload_n hx hb dX5_product_31 rfl (lv_at hl 0 rfl) ?_
          refine lv_iload_n hx hb dX5_product_32 rfl (lv_at hl 0 rfl) ?_
          refine n_if_ne (tgt := 40) hx hb (by omega) dX5_product_33 (by decide) (fun hd => ?_) (fun hd => ?_)
          · refine lv_lconst (v := lN 0) hx hb dX5_product_40 (by decide) ?_
            refine z_last B hW (102) (by omega) h2 (q) (by omega) (by decide) dX5_product_41 (fun H locs hW => ?_)
            refine lv_iinc (v := (nI (q + 1))) (lv' := [(2, .int (nI (q + 1))), (0, .ref (ad (92))), (1, .int (nI (e9)))]) hx hb dX5_product_42 hl (k := 0) rfl (iinc1 _) (by decide) rfl (fun ls hl => ?_)
            refine lv_goto (tgt := 21) hx hb dX5_product_45 (by decide) ?_
            refine ih H locs ls ⟨_, _, hW, hl, fun j hj => by rw [up_n hj]; exact h1 j hj, up_s, fun j hj => ?_⟩
            by_cases z : j = q
            · subst z; rw [pk_uLs]; simp [oneS, hd]
            · rw [pk_uLn z]; exact h3 j (by omega)
          · refine lv_lconst (v := lN 1) hx hb dX5_product_36 (by decide) ?_
            refine lv_goto (tgt := 41) hx hb dX5_product_37 (by decide) ?_
            refine z_last B hW (102) (by omega) h2 (q) (by omega) (by decide) dX5_product_41 (fun H locs hW => ?_)
            refine lv_iinc (v := (nI (q + 1))) (lv' := [(2, .int (nI (q + 1))), (0, .ref (ad (92))), (1, .int (nI (e9)))]) hx hb dX5_product_42 hl (k := 0) rfl (iinc1 _) (by decide) rfl (fun ls hl => ?_)
            refine lv_goto (tgt := 21) hx hb dX5_product_45 (by decide) ?_
            refine ih H locs ls ⟨_, _, hW, hl, fun j hj => by rw [up_n hj]; exact h1 j hj, up_s, fun j hj => ?_⟩
            by_cases z : j = q
            · subst z; rw [pk_uLs]; simp [oneS, hd]
            · rw [pk_uLn z]; exact h3 j (by omega)
      · rintro H locs ls ⟨w2, f, hW, hl, h1, h2, h3⟩
        have hMo : MOK G ad w2 σ := hM.s48 (k := 102) (by decide) ⟨f, h2⟩ h1
        have Lo : isL G w2 102 48 oneS := ⟨f, h2, h3⟩
        refine lv_iload_n hx hb dX5_product_21 rfl (lv_at hl 0 rfl) ?_
        refine lv_bipush (v := nI 48) hx hb dX5_product_22 (by decide) ?_
        refine n_icmp_ge (tgt := 48) hx hb (by omega) (by omega) dX5_product_24 (by decide) (fun hc2 => ?_) (fun hc2 => ?_)
        · refine lv_iconst (v := nI 0) hx hb dX5_product_48 (by decide) ?_
          refine lv_istore_n (lv' := [(2, .int (nI (0))), (0, .ref (ad (92))), (1, .int (nI (e9)))]) hx hb dX5_product_49 rfl hl (by decide) rfl (fun ls hl => ?_)
          refine z_up (Wg := fun H locs ls => W p l e (zr 5) s m args below meth c H locs 0 0 _ (F0 m 50 ls [])) (I := fun q H locs ls => ∃ w3 : Nat → va_E, Wo G A s.heap n ad w3 H locs ∧ lv_has ls 3 [(2, .int (nI q)), (0, .ref (ad (92))), (1, .int (nI (e9)))] ∧ (∀ j, j ≠ 102 → w3 j = w2 j) ∧ MOK G ad w3 σ ∧ isL G w3 102 48 (powS dS q)) (a := 0) (b := e9) (Nat.zero_le _) ?_ ?_ H locs ls ⟨w2, hW, hl, fun _ _ => rfl, hMo, Lo⟩
          · rintro q - hq ih H locs ls ⟨w3, hW, hl, c1, c2, c3⟩
            refine lv_iload_n hx hb dX5_product_50 rfl (lv_at hl 0 rfl) ?_
            refine lv_iload_n hx hb dX5_product_51 rfl (lv_at hl 2 rfl) ?_
            refine n_icmp_ge (tgt := 73) hx hb (by omega) (by omega) dX5_product_52 (by decide) (fun hc2 => ?_) (fun hc2 => ?_)
            · omega
            · refine lv_aload_n hx hb dX5_product_55 rfl (lv_at hl 1 rfl) ?_
              refine lv_aload_n hx hb dX5_product_56 rfl (lv_at hl 1 rfl) ?_
              refine z_get B hW (92) (by omega) c2.1 rfl inX5 10 (by decide) hw_385 rfl (v := .ref (ad (102))) rfl dX5_product_57 ?_
              refine lv_aload_n hx hb dX5_product_60 rfl (lv_at hl 1 rfl) ?_
              refine z_get B hW (92) (by omega) c2.1 rfl inX5 9 (by decide) hw_384 rfl (v := .ref (ad (101))) rfl dX5_product_61 ?_
              refine call_vv B hA hW (92) (by omega) c2.1 (r := _) rfl rfl (k_M_multiplies l G n ad w3 (nI (sH σ)) (rlI (sR σ)) c2.1 hn 102 101 (powS dS q) dS (by omega) (by omega) (by decide) c3 (isL_of mD ((c1 101 (by decide)).trans (h1 101 (by decide)))) (red_pow _ _).s (red_mul _ _).s) mf_X5_multiplies hw_465 rfl ⟨⟨rfl, rfl⟩, by decide, by decide⟩ ⟨Nat.zero_le _, Nat.zero_le _⟩ hl.1 rfl (Nat.le_of_ble_eq_true rfl) dX5_product_64 (fun w4 H locs hp hW => ?_)
              refine lv_iinc (v := (nI (q + 1))) (lv' := [(2, .int (nI (q + 1))), (0, .ref (ad (92))), (1, .int (nI (e9)))]) hx hb dX5_product_67 hl (k := 0) rfl (iinc1 _) (by decide) rfl (fun ls hl => ?_)
              refine lv_goto (tgt := 50) hx hb dX5_product_70 (by decide) ?_
              exact ih H locs ls ⟨w4, hW, hl, fun j hj => (hp.1 j hj).trans (c1 j hj), c2.s48 (k := 102) (by decide) ⟨_, hp.2.choose_spec.1⟩ hp.1, hp.2⟩
          · rintro H locs ls ⟨w3, hW, hl, c1, c2, c3⟩
            refine lv_iload_n hx hb dX5_product_50 rfl (lv_at hl 0 rfl) ?_
            refine lv_iload_n hx hb dX5_product_51 rfl (lv_at hl 2 rfl) ?_
            refine n_icmp_ge (tgt := 73) hx hb (by omega) (by omega) dX5_product_52 (by decide) (fun hc2 => ?_) (fun hc2 => ?_)
            · refine lv_aload_n hx hb dX5_product_73 rfl (lv_at hl 1 rfl) ?_
              refine lv_bipush (v := nI 12) hx hb dX5_product_74 (by decide) ?_
              refine lv_iload_n hx hb dX5_product_76 rfl (lv_at hl 2 rfl) ?_
              refine n_imul hx hb dX5_product_77 ?_
              refine lv_iconst (v := nI 2) hx hb dX5_product_78 (by decide) ?_
              refine lv_iload_n hx hb dX5_product_79 rfl (lv_at hl 2 rfl) ?_
              refine call_vi B hA hW (92) (by omega) c2.1 (r := _) rfl rfl (k_M_comes l G n ad w3 hn σ c2 hs (12 * e9) 2 e9 (by omega) (powS dS e9) c3) mf_X5_comes hw_453 rfl ⟨⟨rfl, rfl⟩, by decide, by decide⟩ ⟨Nat.zero_le _, Nat.zero_le _⟩ hl.1 rfl (Nat.le_of_ble_eq_true rfl) dX5_product_80 (fun r w9 H locs hp9 hW => ?_)
              exact ret_i B hr hlk hW ⟨hp9.1, hp9.2.1, fun j hj => (hp9.2.2 j hj).trans ((c1 j (by omega)).trans (h1 j (by omega)))⟩ dX5_product_83
            · omega
        · omega
    · exact absurd hz (by decide)
  · refine n_if_ne (tgt := 19) hx hb (by omega) dX5_product_9 (by decide) (fun hz => ?_) (fun hz => ?_)
    · exact absurd rfl hz
    · refine lv_aload_n hx hb dX5_product_12 rfl (lv_at hl 0 rfl) ?_
      refine lv_bipush (v := -7) hx hb dX5_product_13 (by decide) ?_
      refine call_vi B hA hW (92) (by omega) m92 (r := _) rfl rfl (k_M_no l G n ad w hn σ hM (-7) 7 (by decide) (by decide) (by decide)) mf_X5_no hw_449 rfl ⟨⟨rfl, rfl⟩, by decide, by decide⟩ ⟨Nat.zero_le _, Nat.zero_le _⟩ hl.1 rfl (Nat.le_of_ble_eq_true rfl) dX5_product_15 (fun r w9 H locs hp hW => ?_)
      exact ret_i B hr hlk hW (by rw [show st_product σ x = ref σ 7 by unfold st_product; rw [cif_f (fun ⟨e9, z1, z2, z3⟩ => hnin (by rw [z3, nI_toInt (by omega)]; omega))]]; exact hp) dX5_product_18
set_option maxHeartbeats 4000000 in
set_option maxRecDepth 100000 in
theorem k_X5_slope (l : Launch) (G : zG) (n : Nat) (ad : Nat → Nat) (w : Nat → va_E) (hn : 111 ≤ n) (σ : zS) (hM : MOK G ad w σ) (hs : SOK σ) (f : Int32) :
    Ci l G yX5_slope cdX5_slope (zr 5) n ad w [.ref (ad (92)), .int (f)] (postM G ad w (st_slope σ f)) := by
  obtain ⟨m92, ⟨f93, m93, v93⟩, ⟨f94, m94, v94⟩, ⟨f95, m95, v95⟩, ⟨f96, m96, v96⟩, ⟨f97, m97, v97⟩, mE2, mE4, mE6, mD, m102, m103, m104, m105, m106, m107, m108, ⟨f109, m109, v109⟩, m110⟩ := id hM
  have hsh := hs.1
  refine ent_i (cc := cX5_slope) (maxL := 5) (ret := (some .int)) (by decide +kernel) rfl (Nat.le_of_ble_eq_true rfl) ?_
  intro p e s m args below meth c A B hr hlk hA H locs ls hW hl
  have hx := B.1
  have hb := B.2.1
  have hl : lv_has ls 5 [(0, .ref (ad (92))), (1, .int (f))] := hl
  refine lv_aload_n hx hb dX5_slope_0 rfl (lv_at hl 0 rfl) ?_
  refine lv_iload_n hx hb dX5_slope_1 rfl (lv_at hl 1 rfl) ?_
  refine call_vi B hA hW (92) (by omega) m92 (r := _) rfl rfl (k_M_isForm l G n ad w hn σ hM hs f) mf_X5_isForm hw_473 rfl ⟨⟨rfl, rfl⟩, by decide, by decide⟩ ⟨Nat.zero_le _, Nat.zero_le _⟩ hl.1 rfl (Nat.le_of_ble_eq_true rfl) dX5_slope_2 (fun r w9 H locs hp hW => ?_)
  obtain ⟨e1, hp⟩ := hp
  rw [e1] at hW
  rcases hp with ⟨i, hi, rfl, rfl⟩ | ⟨hnf, rfl⟩
  · obtain ⟨w40_i, w2_i, k4_i, t40_i, r_i, s_i⟩ := hs.2.1 i hi
    have h16_i : i < 16 := by omega
    refine n_if_ne (tgt := 15) hx hb (by omega) dX5_slope_5 (by decide) (fun hz => ?_) (fun hz => ?_)
    · have hS : st_slope σ (nI i) = comeO σ (sW σ i + 2) (slpS (sW σ i) (sE σ i)) := by
        unfold st_slope
        rw [cif_t ⟨i, hi, rfl⟩, cN_nI (by omega)]
      rw [hS]
      refine lv_aload_n hx hb dX5_slope_15 rfl (lv_at hl 0 rfl) ?_
      refine lv_aload_n hx hb dX5_slope_16 rfl (lv_at hl 0 rfl) ?_
      refine z_get B hW (92) (by omega) m92 rfl inX5 10 (by decide) hw_385 rfl (v := .ref (ad (102))) rfl dX5_slope_17 ?_
      refine lv_iload_n hx hb dX5_slope_20 rfl (lv_at hl 1 rfl) ?_
      obtain ⟨g93_5, d93_5, u93_5⟩ := hM.ser (i := i) (by omega)
      refine call_vv B hA hW (92) (by omega) m92 (r := _) rfl rfl (k_M_takes l G n ad w (nI (sH σ)) (rlI (sR σ)) hM.1 hn 102 i (sE σ i) g93_5 d93_5 u93_5 (by omega) (by omega) (by decide) (by decide) hM.2.2.2.2.2.2.2.2.2.2.1) mf_X5_takes hw_488 rfl ⟨⟨rfl, rfl⟩, by decide, by decide⟩ ⟨Nat.zero_le _, Nat.zero_le _⟩ hl.1 rfl (Nat.le_of_ble_eq_true rfl) dX5_slope_21 (fun w5 H locs hp hW => ?_)
      obtain ⟨fr5, L5⟩ := hp
      have hM5 : MOK G ad w5 σ := hM.s48 (k := 102) (by decide) ⟨_, L5.choose_spec.1⟩ fr5
      obtain ⟨m92_5, ⟨f93_5, m93_5, v93_5⟩, ⟨f94_5, m94_5, v94_5⟩, ⟨f95_5, m95_5, v95_5⟩, ⟨f96_5, m96_5, v96_5⟩, ⟨f97_5, m97_5, v97_5⟩, mE2_5, mE4_5, mE6_5, mD_5, m102_5, m103_5, m104_5, m105_5, m106_5, m107_5, m108_5, ⟨f109_5, m109_5, v109_5⟩, m110_5⟩ := id hM5
      refine lv_aload_n hx hb dX5_slope_24 rfl (lv_at hl 0 rfl) ?_
      refine lv_aload_n hx hb dX5_slope_25 rfl (lv_at hl 0 rfl) ?_
      refine z_get B hW (92) (by omega) m92_5 rfl inX5 10 (by decide) hw_385 rfl (v := .ref (ad (102))) rfl dX5_slope_26 ?_
      refine lv_aload_n hx hb dX5_slope_29 rfl (lv_at hl 0 rfl) ?_
      refine z_get B hW (92) (by omega) m92_5 rfl inX5 6 (by decide) hw_381 rfl (v := .ref (ad (98))) rfl dX5_slope_30 ?_
      refine call_vv B hA hW (92) (by omega) m92_5 (r := _) rfl rfl (k_M_multiplies l G n ad w5 (nI (sH σ)) (rlI (sR σ)) hM5.1 hn 102 98 (sE σ i) (e2S) (by omega) (by omega) (by decide) L5 mE2_5 r_i.s (red_sums _ _).s) mf_X5_multiplies hw_465 rfl ⟨⟨rfl, rfl⟩, by decide, by decide⟩ ⟨Nat.zero_le _, Nat.zero_le _⟩ hl.1 rfl (Nat.le_of_ble_eq_true rfl) dX5_slope_33 (fun w6 H locs hp hW => ?_)
      obtain ⟨fr6, L6⟩ := hp
      have hM6 : MOK G ad w6 σ := hM5.s48 (k := 102) (by decide) ⟨_, L6.choose_spec.1⟩ fr6
      obtain ⟨m92_6, ⟨f93_6, m93_6, v93_6⟩, ⟨f94_6, m94_6, v94_6⟩, ⟨f95_6, m95_6, v95_6⟩, ⟨f96_6, m96_6, v96_6⟩, ⟨f97_6, m97_6, v97_6⟩, mE2_6, mE4_6, mE6_6, mD_6, m102_6, m103_6, m104_6, m105_6, m106_6, m107_6, m108_6, ⟨f109_6, m109_6, v109_6⟩, m110_6⟩ := id hM6
      refine lv_aload_n hx hb dX5_slope_36 rfl (lv_at hl 0 rfl) ?_
      refine z_get B hW (92) (by omega) m92_6 rfl inX5 2 (by decide) hw_377 rfl (v := .ref (ad (95))) rfl dX5_slope_37 ?_
      refine lv_iload_n hx hb dX5_slope_40 rfl (lv_at hl 1 rfl) ?_
      refine z_iald B hW (95) (by omega) m95_6 (i) (by omega) (by decide) (v := (nI (sW σ (i)))) (v95_6 _ (by omega)) dX5_slope_41 ?_
      refine n_i2l hx hb (by omega) dX5_slope_42 ?_
      refine n_ldc2 B hw_500 (x := lN 12) (by decide) dX5_slope_43 ?_
      refine call_sl B hA hW (k_M_inverse l G n ad w6 12 (by decide)) mf_X5_inverse hw_444 rfl ⟨⟨rfl, rfl⟩, by decide, by decide⟩ ⟨Nat.zero_le _, Nat.zero_le _⟩ hl.1 rfl (Nat.le_of_ble_eq_true rfl) dX5_slope_46 (fun r w9 H locs hp hW => ?_)
      obtain ⟨e1, e2⟩ := hp
      rw [e1] at hW
      subst e2
      have hmi : sW σ i * invM 12 ≤ 40 * 1000003 := Nat.mul_le_mul w40_i (Nat.le_of_lt (invM_lt 12))
      refine n_lmul hx hb dX5_slope_49 ?_
      refine n_ldc2 B hw_372 (x := lN 1000003) (by decide) dX5_slope_50 ?_
      refine n_lrem hx hb (by omega) (by omega) (by omega) dX5_slope_53 ?_
      obtain ⟨sh, hsh⟩ : ∃ sh, sh = sW σ i * invM 12 % 1000003 := ⟨_, rfl⟩
      have hshl : sh < 1000003 := by rw [hsh]; exact Nat.mod_lt _ (by decide)
      refine topl (y := (lN (sh))) (by rw [hsh]) ?_
      refine lv_lstore_n (lv' := [(2, .long (lN (sh))), (0, .ref (ad (92))), (1, .int (nI (i)))]) hx hb dX5_slope_54 rfl hl (by decide) rfl (fun ls hl => ?_)
      refine lv_iconst (v := nI 0) hx hb dX5_slope_55 (by decide) ?_
      refine lv_istore (lv' := [(4, .int (nI (0))), (2, .long (lN (sh))), (0, .ref (ad (92))), (1, .int (nI (i)))]) hx hb dX5_slope_56 hl (by decide) rfl (fun ls hl => ?_)
      obtain ⟨f0, x0, y0⟩ := L6
      refine z_up (Wg := fun H locs ls => W p l e (zr 5) s m args below meth c H locs 0 0 _ (F0 m 58 ls [])) (I := fun q H locs ls => ∃ (w2 : Nat → va_E) (f : Nat → Int64), Wo G A s.heap n ad w2 H locs ∧ lv_has ls 5 [(4, .int (nI q)), (2, .long (lN (sh))), (0, .ref (ad (92))), (1, .int (nI (i)))] ∧ (∀ j, j ≠ 102 → w2 j = w6 j) ∧ w2 102 = eL G 48 f ∧ (∀ j, j < q → f j = lN (slpS (sW σ i) (sE σ i) j)) ∧ (∀ j, q ≤ j → j < 48 → f j = lN (mulS (sE σ i) e2S j))) (a := 0) (b := 48) (Nat.zero_le _) ?_ ?_ H locs ls ⟨w6, f0, hW, hl, fun _ _ => rfl, x0, fun j h => by omega, fun j _ hj => y0 j hj⟩
      · rintro q - hq ih H locs ls ⟨w2, f, hW, hl, h1, h2, h3, h4⟩
        have e92b := (h1 92 (by decide)).trans hM6.1
        have e93b := (h1 93 (by decide)).trans m93_6
        have ri := r_i q
        have hm1 : (1000003 - sh) * mulS (sE σ i) e2S q ≤ 1000003 * 1000003 := Nat.mul_le_mul (Nat.sub_le _ _) (Nat.le_of_lt (mulS_lt _ _ _))
        have hm2 : q * sE σ i q ≤ 47 * 1000003 := Nat.mul_le_mul (by omega) (by omega)
        refine lv_iload hx hb dX5_slope_58 (lv_at hl 0 rfl) ?_
        refine lv_bipush (v := nI 48) hx hb dX5_slope_60 (by decide) ?_
        refine n_icmp_ge (tgt := 112) hx hb (by omega) (by omega) dX5_slope_62 (by decide) (fun hc2 => ?_) (fun hc2 => ?_)
        · omega
        · refine lv_aload_n hx hb dX5_slope_65 rfl (lv_at hl 2 rfl) ?_
          refine z_get B hW (92) (by omega) e92b rfl inX5 10 (by decide) hw_385 rfl (v := .ref (ad (102))) rfl dX5_slope_66 ?_
          refine lv_iload hx hb dX5_slope_69 (lv_at hl 0 rfl) ?_
          refine lv_iload hx hb dX5_slope_71 (lv_at hl 0 rfl) ?_
          refine n_i2l hx hb (by omega) dX5_slope_73 ?_
          refine lv_aload_n hx hb dX5_slope_74 rfl (lv_at hl 2 rfl) ?_
          refine z_get B hW (92) (by omega) e92b rfl inX5 0 (by decide) hw_375 rfl (v := .ref (ad (93))) rfl dX5_slope_75 ?_
          refine lv_bipush (v := nI 48) hx hb dX5_slope_78 (by decide) ?_
          refine lv_iload_n hx hb dX5_slope_80 rfl (lv_at hl 3 rfl) ?_
          refine n_imul hx hb dX5_slope_81 ?_
          refine lv_iload hx hb dX5_slope_82 (lv_at hl 0 rfl) ?_
          refine n_iadd hx hb dX5_slope_84 ?_
          refine z_lald B hW (93) (by omega) e93b ((48 * i) + q) (by omega) (by decide) (v := (lN (sE σ i q))) (v93_6 _ hi _ hq) dX5_slope_85 ?_
          refine n_lmul hx hb dX5_slope_86 ?_
          refine n_ldc2 B hw_372 (x := lN 1000003) (by decide) dX5_slope_87 ?_
          refine lv_lload_n hx hb dX5_slope_90 rfl (lv_at hl 1 rfl) ?_
          refine n_lsub hx hb (by omega) dX5_slope_91 ?_
          refine lv_aload_n hx hb dX5_slope_92 rfl (lv_at hl 2 rfl) ?_
          refine z_get B hW (92) (by omega) e92b rfl inX5 10 (by decide) hw_385 rfl (v := .ref (ad (102))) rfl dX5_slope_93 ?_
          refine lv_iload hx hb dX5_slope_96 (lv_at hl 0 rfl) ?_
          refine z_lald B hW (102) (by omega) h2 (q) (by omega) (by decide) (v := (lN (mulS (sE σ i) e2S q))) (h4 _ (Nat.le_refl _) hq) dX5_slope_98 ?_
          refine n_lmul hx hb dX5_slope_99 ?_
          refine n_ladd hx hb dX5_slope_100 ?_
          refine n_ldc2 B hw_372 (x := lN 1000003) (by decide) dX5_slope_101 ?_
          refine n_lrem hx hb (by omega) (by omega) (by omega) dX5_slope_104 ?_
          refine topl (y := (lN (slpS (sW σ i) (sE σ i) q))) (by rw [← slp_eq, hsh]) ?_
          refine z_last B hW (102) (by omega) h2 (q) (by omega) (by decide) dX5_slope_105 (fun H locs hW => ?_)
          refine lv_iinc (v := (nI (q + 1))) (lv' := [(4, .int (nI (q + 1))), (2, .long (lN (sh))), (0, .ref (ad (92))), (1, .int (nI (i)))]) hx hb dX5_slope_106 hl (k := 0) rfl (iinc1 _) (by decide) rfl (fun ls hl => ?_)
          refine lv_goto (tgt := 58) hx hb dX5_slope_109 (by decide) ?_
          refine ih H locs ls ⟨_, _, hW, hl, fun j hj => by rw [up_n hj]; exact h1 j hj, up_s, fun j hj => ?_, fun j hj1 hj2 => ?_⟩
          · by_cases z : j = q
            · rw [z, pk_uLs]
            · rw [pk_uLn z]; exact h3 j (by omega)
          · rw [pk_uLn (by omega)]; exact h4 j (by omega) hj2
      · rintro H locs ls ⟨w2, f, hW, hl, h1, h2, h3, -⟩
        have hMo : MOK G ad w2 σ := hM6.s48 (k := 102) (by decide) ⟨f, h2⟩ h1
        obtain ⟨-, -, -, ⟨f95o, m95o, v95o⟩, -⟩ := id hMo
        refine lv_iload hx hb dX5_slope_58 (lv_at hl 0 rfl) ?_
        refine lv_bipush (v := nI 48) hx hb dX5_slope_60 (by decide) ?_
        refine n_icmp_ge (tgt := 112) hx hb (by omega) (by omega) dX5_slope_62 (by decide) (fun hc2 => ?_) (fun hc2 => ?_)
        · refine lv_aload_n hx hb dX5_slope_112 rfl (lv_at hl 2 rfl) ?_
          refine lv_aload_n hx hb dX5_slope_113 rfl (lv_at hl 2 rfl) ?_
          refine z_get B hW (92) (by omega) hMo.1 rfl inX5 2 (by decide) hw_377 rfl (v := .ref (ad (95))) rfl dX5_slope_114 ?_
          refine lv_iload_n hx hb dX5_slope_117 rfl (lv_at hl 3 rfl) ?_
          refine z_iald B hW (95) (by omega) m95o (i) (by omega) (by decide) (v := (nI (sW σ (i)))) (v95o _ (by omega)) dX5_slope_118 ?_
          refine lv_iconst (v := nI 2) hx hb dX5_slope_119 (by decide) ?_
          refine n_iadd hx hb dX5_slope_120 ?_
          refine call_vi B hA hW (92) (by omega) hMo.1 (r := _) rfl rfl (k_M_made l G n ad w2 hn σ hMo hs (sW σ i + 2) (by omega) (slpS (sW σ i) (sE σ i)) ⟨f, h2, h3⟩ (zm_lt _)) mf_X5_made hw_480 rfl ⟨⟨rfl, rfl⟩, by decide, by decide⟩ ⟨Nat.zero_le _, Nat.zero_le _⟩ hl.1 rfl (Nat.le_of_ble_eq_true rfl) dX5_slope_121 (fun r w9 H locs hp9 hW => ?_)
          exact ret_i B hr hlk hW ⟨hp9.1, hp9.2.1, fun j hj => (hp9.2.2 j hj).trans (((h1 j (by omega)).trans (fr6 j (by omega))).trans (fr5 j (by omega)))⟩ dX5_slope_124
        · omega
    · exact absurd hz (by decide)
  · refine n_if_ne (tgt := 15) hx hb (by omega) dX5_slope_5 (by decide) (fun hz => ?_) (fun hz => ?_)
    · exact absurd rfl hz
    · refine lv_aload_n hx hb dX5_slope_8 rfl (lv_at hl 0 rfl) ?_
      refine lv_bipush (v := -3) hx hb dX5_slope_9 (by decide) ?_
      refine call_vi B hA hW (92) (by omega) m92 (r := _) rfl rfl (k_M_no l G n ad w hn σ hM (-3) 3 (by decide) (by decide) (by decide)) mf_X5_no hw_449 rfl ⟨⟨rfl, rfl⟩, by decide, by decide⟩ ⟨Nat.zero_le _, Nat.zero_le _⟩ hl.1 rfl (Nat.le_of_ble_eq_true rfl) dX5_slope_11 (fun r w9 H locs hp hW => ?_)
      exact ret_i B hr hlk hW (by rw [show st_slope σ f = ref σ 3 by unfold st_slope; rw [cif_f hnf]]; exact hp) dX5_slope_14
set_option maxHeartbeats 4000000 in
set_option maxRecDepth 100000 in
theorem k_X5_add (l : Launch) (G : zG) (n : Nat) (ad : Nat → Nat) (w : Nat → va_E) (hn : 111 ≤ n) (σ : zS) (hM : MOK G ad w σ) (hs : SOK σ) (f x g y : Int32) :
    Ci l G yX5_add cdX5_add (zr 5) n ad w [.ref (ad (92)), .int (f), .int (x), .int (g), .int (y)] (postM G ad w (st_add σ f x g y)) := by
  obtain ⟨m92, ⟨f93, m93, v93⟩, ⟨f94, m94, v94⟩, ⟨f95, m95, v95⟩, ⟨f96, m96, v96⟩, ⟨f97, m97, v97⟩, mE2, mE4, mE6, mD, m102, m103, m104, m105, m106, m107, m108, ⟨f109, m109, v109⟩, m110⟩ := id hM
  have hsh := hs.1
  refine ent_i (cc := cX5_add) (maxL := 6) (ret := (some .int)) (by decide +kernel) rfl (Nat.le_of_ble_eq_true rfl) ?_
  intro p e s m args below meth c A B hr hlk hA H locs ls hW hl
  have hx := B.1
  have hb := B.2.1
  have hl : lv_has ls 6 [(0, .ref (ad (92))), (1, .int (f)), (2, .int (x)), (3, .int (g)), (4, .int (y))] := hl
  refine lv_aload_n hx hb dX5_add_0 rfl (lv_at hl 0 rfl) ?_
  refine lv_iload_n hx hb dX5_add_1 rfl (lv_at hl 1 rfl) ?_
  refine call_vi B hA hW (92) (by omega) m92 (r := _) rfl rfl (k_M_isForm l G n ad w hn σ hM hs f) mf_X5_isForm hw_473 rfl ⟨⟨rfl, rfl⟩, by decide, by decide⟩ ⟨Nat.zero_le _, Nat.zero_le _⟩ hl.1 rfl (Nat.le_of_ble_eq_true rfl) dX5_add_2 (fun r w9 H locs hp hW => ?_)
  obtain ⟨e1, hp⟩ := hp
  rw [e1] at hW
  rcases hp with ⟨i, hi, rfl, rfl⟩ | ⟨hnf, rfl⟩
  · obtain ⟨w40_i, w2_i, k4_i, t40_i, r_i, s_i⟩ := hs.2.1 i hi
    have h16_i : i < 16 := by omega
    refine n_if_eq (tgt := 16) hx hb (by omega) dX5_add_5 (by decide) (fun hz => ?_) (fun hz => ?_)
    · exact absurd hz (by decide)
    · refine lv_aload_n hx hb dX5_add_8 rfl (lv_at hl 0 rfl) ?_
      refine lv_iload_n hx hb dX5_add_9 rfl (lv_at hl 3 rfl) ?_
      refine call_vi B hA hW (92) (by omega) m92 (r := _) rfl rfl (k_M_isForm l G n ad w hn σ hM hs g) mf_X5_isForm hw_473 rfl ⟨⟨rfl, rfl⟩, by decide, by decide⟩ ⟨Nat.zero_le _, Nat.zero_le _⟩ hl.1 rfl (Nat.le_of_ble_eq_true rfl) dX5_add_10 (fun r w9 H locs hp hW => ?_)
      obtain ⟨e1, hp⟩ := hp
      rw [e1] at hW
      rcases hp with ⟨j, hj, rfl, rfl⟩ | ⟨hnf, rfl⟩
      · obtain ⟨w40_j, w2_j, k4_j, t40_j, r_j, s_j⟩ := hs.2.1 j hj
        have h16_j : j < 16 := by omega
        refine n_if_ne (tgt := 23) hx hb (by omega) dX5_add_13 (by decide) (fun hz => ?_) (fun hz => ?_)
        · have hS : st_add σ (nI i) x (nI j) y = cif (sW σ i = sW σ j) (comeO σ (sW σ i) (addS x y (sE σ i) (sE σ j))) (ref σ 7) := by
            unfold st_add
            rw [cif_t ⟨⟨i, hi, rfl⟩, ⟨j, hj, rfl⟩⟩, cN_nI (by omega), cN_nI (by omega)]
          rw [hS]
          refine lv_aload_n hx hb dX5_add_23 rfl (lv_at hl 0 rfl) ?_
          refine z_get B hW (92) (by omega) m92 rfl inX5 2 (by decide) hw_377 rfl (v := .ref (ad (95))) rfl dX5_add_24 ?_
          refine lv_iload_n hx hb dX5_add_27 rfl (lv_at hl 1 rfl) ?_
          refine z_iald B hW (95) (by omega) m95 (i) (by omega) (by decide) (v := (nI (sW σ (i)))) (v95 _ (by omega)) dX5_add_28 ?_
          refine lv_aload_n hx hb dX5_add_29 rfl (lv_at hl 0 rfl) ?_
          refine z_get B hW (92) (by omega) m92 rfl inX5 2 (by decide) hw_377 rfl (v := .ref (ad (95))) rfl dX5_add_30 ?_
          refine lv_iload_n hx hb dX5_add_33 rfl (lv_at hl 3 rfl) ?_
          refine z_iald B hW (95) (by omega) m95 (j) (by omega) (by decide) (v := (nI (sW σ (j)))) (v95 _ (by omega)) dX5_add_34 ?_
          refine n_icmp_eq (tgt := 45) hx hb (by omega) (by omega) dX5_add_35 (by decide) (fun hd => ?_) (fun hd => ?_)
          · rw [cif_t hd]
            refine lv_iconst (v := nI 0) hx hb dX5_add_45 (by decide) ?_
            refine lv_istore (lv' := [(5, .int (nI (0))), (0, .ref (ad (92))), (1, .int (nI (i))), (2, .int (x)), (3, .int (nI (j))), (4, .int (y))]) hx hb dX5_add_46 hl (by decide) rfl (fun ls hl => ?_)
            obtain ⟨f0, x0⟩ := hM.2.2.2.2.2.2.2.2.2.2.1
            refine z_up (Wg := fun H locs ls => W p l e (zr 5) s m args below meth c H locs 0 0 _ (F0 m 48 ls [])) (I := fun q H locs ls => ∃ (w2 : Nat → va_E) (f : Nat → Int64), Wo G A s.heap n ad w2 H locs ∧ lv_has ls 6 [(5, .int (nI q)), (0, .ref (ad (92))), (1, .int (nI (i))), (2, .int (x)), (3, .int (nI (j))), (4, .int (y))] ∧ (∀ j, j ≠ 102 → w2 j = w j) ∧ w2 102 = eL G 48 f ∧ (∀ j', j' < q → f j' = lN (addS x y (sE σ i) (sE σ j) j'))) (a := 0) (b := 48) (Nat.zero_le _) ?_ ?_ H locs ls ⟨w, f0, hW, hl, fun _ _ => rfl, x0, fun j h => by omega⟩
            · rintro q - hq ih H locs ls ⟨w2, f, hW, hl, h1, h2, h3⟩
              have e92b := (h1 92 (by decide)).trans hM.1
              have e93b := (h1 93 (by decide)).trans m93
              have hm1 := mul_lt (zm_lt x.toInt) (r_i q)
              have hm2 := mul_lt (zm_lt y.toInt) (r_j q)
              refine lv_iload hx hb dX5_add_48 (lv_at hl 0 rfl) ?_
              refine lv_bipush (v := nI 48) hx hb dX5_add_50 (by decide) ?_
              refine n_icmp_ge (tgt := 108) hx hb (by omega) (by omega) dX5_add_52 (by decide) (fun hc2 => ?_) (fun hc2 => ?_)
              · omega
              · refine lv_aload_n hx hb dX5_add_55 rfl (lv_at hl 1 rfl) ?_
                refine z_get B hW (92) (by omega) e92b rfl inX5 10 (by decide) hw_385 rfl (v := .ref (ad (102))) rfl dX5_add_56 ?_
                refine lv_iload hx hb dX5_add_59 (lv_at hl 0 rfl) ?_
                refine lv_iload_n hx hb dX5_add_61 rfl (lv_at hl 3 rfl) ?_
                refine call_sl B hA hW (k_M_rest l G n ad w2 x) mf_X5_rest hw_477 rfl ⟨⟨rfl, rfl⟩, by decide, by decide⟩ ⟨Nat.zero_le _, Nat.zero_le _⟩ hl.1 rfl (Nat.le_of_ble_eq_true rfl) dX5_add_62 (fun r w9 H locs hp hW => ?_)
                obtain ⟨e1, e2⟩ := hp
                rw [e1] at hW
                subst e2
                refine lv_aload_n hx hb dX5_add_65 rfl (lv_at hl 1 rfl) ?_
                refine z_get B hW (92) (by omega) e92b rfl inX5 0 (by decide) hw_375 rfl (v := .ref (ad (93))) rfl dX5_add_66 ?_
                refine lv_bipush (v := nI 48) hx hb dX5_add_69 (by decide) ?_
                refine lv_iload_n hx hb dX5_add_71 rfl (lv_at hl 2 rfl) ?_
                refine n_imul hx hb dX5_add_72 ?_
                refine lv_iload hx hb dX5_add_73 (lv_at hl 0 rfl) ?_
                refine n_iadd hx hb dX5_add_75 ?_
                refine z_lald B hW (93) (by omega) e93b ((48 * i) + q) (by omega) (by decide) (v := (lN (sE σ i q))) (v93 _ hi _ hq) dX5_add_76 ?_
                refine n_lmul hx hb dX5_add_77 ?_
                refine lv_iload hx hb dX5_add_78 (lv_at hl 5 rfl) ?_
                refine call_sl B hA hW (k_M_rest l G n ad w2 y) mf_X5_rest hw_477 rfl ⟨⟨rfl, rfl⟩, by decide, by decide⟩ ⟨Nat.zero_le _, Nat.zero_le _⟩ hl.1 rfl (Nat.le_of_ble_eq_true rfl) dX5_add_80 (fun r w9 H locs hp hW => ?_)
                obtain ⟨e1, e2⟩ := hp
                rw [e1] at hW
                subst e2
                refine lv_aload_n hx hb dX5_add_83 rfl (lv_at hl 1 rfl) ?_
                refine z_get B hW (92) (by omega) e92b rfl inX5 0 (by decide) hw_375 rfl (v := .ref (ad (93))) rfl dX5_add_84 ?_
                refine lv_bipush (v := nI 48) hx hb dX5_add_87 (by decide) ?_
                refine lv_iload_n hx hb dX5_add_89 rfl (lv_at hl 4 rfl) ?_
                refine n_imul hx hb dX5_add_90 ?_
                refine lv_iload hx hb dX5_add_91 (lv_at hl 0 rfl) ?_
                refine n_iadd hx hb dX5_add_93 ?_
                refine z_lald B hW (93) (by omega) e93b ((48 * j) + q) (by omega) (by decide) (v := (lN (sE σ j q))) (v93 _ hj _ hq) dX5_add_94 ?_
                refine n_lmul hx hb dX5_add_95 ?_
                refine n_ladd hx hb dX5_add_96 ?_
                refine n_ldc2 B hw_372 (x := lN 1000003) (by decide) dX5_add_97 ?_
                refine n_lrem hx hb (by omega) (by omega) (by omega) dX5_add_100 ?_
                refine topl (y := (lN (addS x y (sE σ i) (sE σ j) q))) (by rw [add_eq]) ?_
                refine z_last B hW (102) (by omega) h2 (q) (by omega) (by decide) dX5_add_101 (fun H locs hW => ?_)
                refine lv_iinc (v := (nI (q + 1))) (lv' := [(5, .int (nI (q + 1))), (0, .ref (ad (92))), (1, .int (nI (i))), (2, .int (x)), (3, .int (nI (j))), (4, .int (y))]) hx hb dX5_add_102 hl (k := 0) rfl (iinc1 _) (by decide) rfl (fun ls hl => ?_)
                refine lv_goto (tgt := 48) hx hb dX5_add_105 (by decide) ?_
                refine ih H locs ls ⟨_, _, hW, hl, fun j hj => by rw [up_n hj]; exact h1 j hj, up_s, fun j' hj' => ?_⟩
                · by_cases z : j' = q
                  · rw [z, pk_uLs]
                  · rw [pk_uLn z]; exact h3 j' (by omega)
            · rintro H locs ls ⟨w2, f, hW, hl, h1, h2, h3⟩
              have hMo : MOK G ad w2 σ := hM.s48 (k := 102) (by decide) ⟨f, h2⟩ h1
              obtain ⟨-, -, -, ⟨f95o, m95o, v95o⟩, -⟩ := id hMo
              refine lv_iload hx hb dX5_add_48 (lv_at hl 0 rfl) ?_
              refine lv_bipush (v := nI 48) hx hb dX5_add_50 (by decide) ?_
              refine n_icmp_ge (tgt := 108) hx hb (by omega) (by omega) dX5_add_52 (by decide) (fun hc2 => ?_) (fun hc2 => ?_)
              · refine lv_aload_n hx hb dX5_add_108 rfl (lv_at hl 1 rfl) ?_
                refine lv_aload_n hx hb dX5_add_109 rfl (lv_at hl 1 rfl) ?_
                refine z_get B hW (92) (by omega) hMo.1 rfl inX5 2 (by decide) hw_377 rfl (v := .ref (ad (95))) rfl dX5_add_110 ?_
                refine lv_iload_n hx hb dX5_add_113 rfl (lv_at hl 2 rfl) ?_
                refine z_iald B hW (95) (by omega) m95o (i) (by omega) (by decide) (v := (nI (sW σ (i)))) (v95o _ (by omega)) dX5_add_114 ?_
                refine call_vi B hA hW (92) (by omega) hMo.1 (r := _) rfl rfl (k_M_made l G n ad w2 hn σ hMo hs (sW σ i) (by omega) (addS x y (sE σ i) (sE σ j)) ⟨f, h2, h3⟩ (zm_lt _)) mf_X5_made hw_480 rfl ⟨⟨rfl, rfl⟩, by decide, by decide⟩ ⟨Nat.zero_le _, Nat.zero_le _⟩ hl.1 rfl (Nat.le_of_ble_eq_true rfl) dX5_add_115 (fun r w9 H locs hp9 hW => ?_)
                exact ret_i B hr hlk hW ⟨hp9.1, hp9.2.1, fun j hj => (hp9.2.2 j hj).trans (h1 j (by omega))⟩ dX5_add_118
              · omega
          · refine lv_aload_n hx hb dX5_add_38 rfl (lv_at hl 0 rfl) ?_
            refine lv_bipush (v := -7) hx hb dX5_add_39 (by decide) ?_
            refine call_vi B hA hW (92) (by omega) m92 (r := _) rfl rfl (k_M_no l G n ad w hn σ hM (-7) 7 (by decide) (by decide) (by decide)) mf_X5_no hw_449 rfl ⟨⟨rfl, rfl⟩, by decide, by decide⟩ ⟨Nat.zero_le _, Nat.zero_le _⟩ hl.1 rfl (Nat.le_of_ble_eq_true rfl) dX5_add_41 (fun r w9 H locs hp hW => ?_)
            exact ret_i B hr hlk hW (by rw [cif_f hd]; exact hp) dX5_add_44
        · exact absurd hz (by decide)
      · refine n_if_ne (tgt := 23) hx hb (by omega) dX5_add_13 (by decide) (fun hz => ?_) (fun hz => ?_)
        · exact absurd rfl hz
        · refine lv_aload_n hx hb dX5_add_16 rfl (lv_at hl 0 rfl) ?_
          refine lv_bipush (v := -3) hx hb dX5_add_17 (by decide) ?_
          refine call_vi B hA hW (92) (by omega) m92 (r := _) rfl rfl (k_M_no l G n ad w hn σ hM (-3) 3 (by decide) (by decide) (by decide)) mf_X5_no hw_449 rfl ⟨⟨rfl, rfl⟩, by decide, by decide⟩ ⟨Nat.zero_le _, Nat.zero_le _⟩ hl.1 rfl (Nat.le_of_ble_eq_true rfl) dX5_add_19 (fun r w9 H locs hp hW => ?_)
          exact ret_i B hr hlk hW (by rw [show st_add σ (nI i) x g y = ref σ 3 by unfold st_add; rw [cif_f (fun q => hnf q.2)]]; exact hp) dX5_add_22
  · refine n_if_eq (tgt := 16) hx hb (by omega) dX5_add_5 (by decide) (fun hz => ?_) (fun hz => ?_)
    · refine lv_aload_n hx hb dX5_add_16 rfl (lv_at hl 0 rfl) ?_
      refine lv_bipush (v := -3) hx hb dX5_add_17 (by decide) ?_
      refine call_vi B hA hW (92) (by omega) m92 (r := _) rfl rfl (k_M_no l G n ad w hn σ hM (-3) 3 (by decide) (by decide) (by decide)) mf_X5_no hw_449 rfl ⟨⟨rfl, rfl⟩, by decide, by decide⟩ ⟨Nat.zero_le _, Nat.zero_le _⟩ hl.1 rfl (Nat.le_of_ble_eq_true rfl) dX5_add_19 (fun r w9 H locs hp hW => ?_)
      exact ret_i B hr hlk hW (by rw [show st_add σ f x g y = ref σ 3 by unfold st_add; rw [cif_f (fun q => hnf q.1)]]; exact hp) dX5_add_22
    · exact absurd rfl hz
