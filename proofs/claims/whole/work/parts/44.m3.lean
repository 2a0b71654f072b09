set_option maxHeartbeats 4000000 in
set_option maxRecDepth 100000 in
theorem k_M_no (l : Launch) (G : zG) (n : Nat) (ad : Nat → Nat) (w : Nat → va_E) (hn : 111 ≤ n) (σ : zS) (hM : MOK G ad w σ) (x : Int32) (c9 : Nat) (h3 : -x = nI c9) (h4 : 2 ≤ c9) (h5 : c9 < 9) :
    Ci l G yX5_no cdX5_no (zr 0) n ad w [.ref (ad 92), .int x] (postM G ad w (ref σ c9)) := by
  obtain ⟨m92, ⟨f93, m93, v93⟩, ⟨f94, m94, v94⟩, ⟨f95, m95, v95⟩, ⟨f96, m96, v96⟩, ⟨f97, m97, v97⟩, mE2, mE4, mE6, mD, m102, m103, m104, m105, m106, m107, m108, ⟨f109, m109, v109⟩, m110⟩ := id hM
  have hxc : x = -(nI c9) := by rw [← h3]; simp
  obtain ⟨y, hy⟩ : ∃ y, y = sF σ c9 := ⟨_, rfl⟩
  refine ent_i (cc := cX5_no) (maxL := 2) (ret := (some .int)) (by decide +kernel) rfl (Nat.le_of_ble_eq_true rfl) ?_
  intro p e s m args below meth c A B hr hlk hA H locs ls hW hl
  have hx := B.1
  have hb := B.2.1
  have hl : lv_has ls 2 [(0, .ref (ad (92))), (1, .int (x))] := hl
  refine lv_aload_n hx hb dX5_no_0 rfl (lv_at hl 0 rfl) ?_
  refine z_get B hW (92) (by omega) m92 rfl inX5 5 (by decide) hw_380 rfl (v := .ref (ad (97))) rfl dX5_no_1 ?_
  refine lv_iload_n hx hb dX5_no_4 rfl (lv_at hl 1 rfl) ?_
  refine lv_ineg hx hb dX5_no_5 ?_
  refine topi (y := (nI (c9))) h3 ?_
  refine lv_dup2_11 hx hb dX5_no_6 rfl rfl ?_
  refine z_iald B hW (97) (by omega) m97 (c9) (by omega) (by decide) (v := (y)) (by rw [v97 _ h4 h5, hy]) dX5_no_7 ?_
  refine lv_iconst (v := nI 1) hx hb dX5_no_8 (by decide) ?_
  refine lv_iadd hx hb dX5_no_9 ?_
  refine z_iast B hW (97) (by omega) m97 (c9) (by omega) (by decide) dX5_no_10 (fun H locs hW => ?_)
  refine lv_iload_n hx hb dX5_no_11 rfl (lv_at hl 1 rfl) ?_
  refine ret_i B hr hlk hW ⟨hxc, ?_, fun j hj => up_n (by omega)⟩ dX5_no_12
  refine ⟨(up_n (by decide)).trans m92, ⟨f93, (up_n (by decide)).trans m93, v93⟩, ⟨f94, (up_n (by decide)).trans m94, v94⟩, ⟨f95, (up_n (by decide)).trans m95, v95⟩, ⟨f96, (up_n (by decide)).trans m96, v96⟩, ⟨_, up_s, fun i q1 q2 => ?_⟩, isL_of mE2 (up_n (by decide)), isL_of mE4 (up_n (by decide)), isL_of mE6 (up_n (by decide)), isL_of mD (up_n (by decide)), by rw [up_n (by decide)]; exact m102, by rw [up_n (by decide)]; exact m103, by rw [up_n (by decide)]; exact m104, by rw [up_n (by decide)]; exact m105, by rw [up_n (by decide)]; exact m106, by rw [up_n (by decide)]; exact m107, by rw [up_n (by decide)]; exact m108, ⟨f109, (up_n (by decide)).trans m109, v109⟩, by rw [up_n (by decide)]; exact m110⟩
  show upd f97 c9 (y + nI 1) i = upd (sF σ) c9 (sF σ c9 + 1) i
  by_cases q : i = c9
  · subst q; rw [pk_us, pk_us, hy]; rfl
  · rw [pk_un q, pk_un q]; exact v97 i q1 q2
set_option maxHeartbeats 4000000 in
set_option maxRecDepth 100000 in
theorem k_M_isForm (l : Launch) (G : zG) (n : Nat) (ad : Nat → Nat) (w : Nat → va_E) (hn : 111 ≤ n) (σ : zS) (hM : MOK G ad w σ) (hs : SOK σ) (x : Int32) :
    Ci l G yX5_isForm cdX5_isForm (zr 0) n ad w [.ref (ad 92), .int x] (fun r w' => w' = w ∧ ((∃ j, j < sH σ ∧ x = nI j ∧ r = nI 1) ∨ (¬ isF (sH σ) x ∧ r = nI 0))) := by
  obtain ⟨m92, ⟨f93, m93, v93⟩, ⟨f94, m94, v94⟩, ⟨f95, m95, v95⟩, ⟨f96, m96, v96⟩, ⟨f97, m97, v97⟩, mE2, mE4, mE6, mD, m102, m103, m104, m105, m106, m107, m108, ⟨f109, m109, v109⟩, m110⟩ := id hM
  have hsh := hs.1
  refine ent_i (cc := cX5_isForm) (maxL := 2) (ret := (some .boolean)) (by decide +kernel) rfl (Nat.le_of_ble_eq_true rfl) ?_
  intro p e s m args below meth c A B hr hlk hA H locs ls hW hl
  have hx := B.1
  have hb := B.2.1
  have hl : lv_has ls 2 [(0, .ref (ad (92))), (1, .int (x))] := hl
  refine lv_iload_n hx hb dX5_isForm_0 rfl (lv_at hl 1 rfl) ?_
  refine lv_if_lt (tgt := 16) hx hb dX5_isForm_1 (by decide) (fun hc => ?_) (fun hc => ?_)
  · refine lv_iconst (v := nI 0) hx hb dX5_isForm_16 (by decide) ?_
    exact ret_z B hr hlk hW rfl ⟨rfl, Or.inr ⟨fun ⟨j, q1, q2⟩ => nI_pos (by omega) (q2 ▸ hc), rfl⟩⟩ dX5_isForm_17
  · obtain ⟨j, hj, rfl⟩ := nI_of hc
    refine lv_iload_n hx hb dX5_isForm_4 rfl (lv_at hl 1 rfl) ?_
    refine lv_aload_n hx hb dX5_isForm_5 rfl (lv_at hl 0 rfl) ?_
    refine z_get B hW (92) (by omega) m92 rfl inX5 4 (by decide) hw_379 rfl (v := .int (nI (sH σ))) rfl dX5_isForm_6 ?_
    refine n_icmp_ge (tgt := 16) hx hb (by omega) (by omega) dX5_isForm_9 (by decide) (fun hd => ?_) (fun hd => ?_)
    · refine lv_iconst (v := nI 0) hx hb dX5_isForm_16 (by decide) ?_
      exact ret_z B hr hlk hW rfl ⟨rfl, Or.inr ⟨fun ⟨i, q1, q2⟩ => by have := (nI_eq hj (by omega)).mp q2; omega, rfl⟩⟩ dX5_isForm_17
    · refine lv_iconst (v := nI 1) hx hb dX5_isForm_12 (by decide) ?_
      refine lv_goto (tgt := 17) hx hb dX5_isForm_13 (by decide) ?_
      exact ret_z B hr hlk hW rfl ⟨rfl, Or.inl ⟨j, hd, rfl, rfl⟩⟩ dX5_isForm_17
set_option maxHeartbeats 4000000 in
set_option maxRecDepth 100000 in
theorem k_M_comes (l : Launch) (G : zG) (n : Nat) (ad : Nat → Nat) (w : Nat → va_E) (hn : 111 ≤ n) (σ : zS) (hM : MOK G ad w σ) (hs : SOK σ) (k kd td : Nat) (hk : k < 2 ^ 31) (a : Nat → Nat) (ha : isL G w 102 48 a) :
    Ci l G yX5_comes cdX5_comes (zr 1) n ad w [.ref (ad 92), .int (nI k), .int (nI kd), .int (nI td)] (postM G ad w (come σ k kd td a)) := by
  obtain ⟨m92, ⟨f93, m93, v93⟩, ⟨f94, m94, v94⟩, ⟨f95, m95, v95⟩, ⟨f96, m96, v96⟩, ⟨f97, m97, v97⟩, mE2, mE4, mE6, mD, m102, m103, m104, m105, m106, m107, m108, ⟨f109, m109, v109⟩, m110⟩ := id hM
  have hsh := hs.1
  obtain ⟨fa, ea, va⟩ := ha
  refine ent_i (cc := cX5_comes) (maxL := 5) (ret := (some .int)) (by decide +kernel) rfl (Nat.le_of_ble_eq_true rfl) ?_
  intro p e s m args below meth c A B hr hlk hA H locs ls hW hl
  have hx := B.1
  have hb := B.2.1
  have hl : lv_has ls 5 [(0, .ref (ad (92))), (1, .int (nI (k))), (2, .int (nI (kd))), (3, .int (nI (td)))] := hl
  refine lv_iload_n hx hb dX5_comes_0 rfl (lv_at hl 1 rfl) ?_
  refine lv_bipush (v := nI 40) hx hb dX5_comes_1 (by decide) ?_
  refine n_icmp_gt (tgt := 15) hx hb (by omega) (by omega) dX5_comes_3 (by decide) (fun hc => ?_) (fun hc => ?_)
  · refine lv_aload_n hx hb dX5_comes_15 rfl (lv_at hl 0 rfl) ?_
    refine lv_bipush (v := -8) hx hb dX5_comes_16 (by decide) ?_
    refine call_vi B hA hW (92) (by omega) m92 (r := _) rfl rfl (k_M_no l G n ad w hn σ hM (-8) 8 (by decide) (by decide) (by decide)) mf_X5_no hw_449 rfl ⟨⟨rfl, rfl⟩, by decide, by decide⟩ ⟨Nat.zero_le _, Nat.zero_le _⟩ hl.1 rfl (Nat.le_of_ble_eq_true rfl) dX5_comes_18 (fun r w9 H locs hp hW => ?_)
    exact ret_i B hr hlk hW (by rw [come_full (by omega)]; exact hp) dX5_comes_21
  · refine lv_aload_n hx hb dX5_comes_6 rfl (lv_at hl 0 rfl) ?_
    refine z_get B hW (92) (by omega) m92 rfl inX5 4 (by decide) hw_379 rfl (v := .int (nI (sH σ))) rfl dX5_comes_7 ?_
    refine lv_bipush (v := nI 16) hx hb dX5_comes_10 (by decide) ?_
    refine n_icmp_ne (tgt := 22) hx hb (by omega) (by omega) dX5_comes_12 (by decide) (fun hd => ?_) (fun hd => ?_)
    · rw [come_ok (show sH σ < 16 by omega) hc]
      refine lv_iconst (v := nI 0) hx hb dX5_comes_22 (by decide) ?_
      refine lv_istore (lv' := [(4, .int (nI (0))), (0, .ref (ad (92))), (1, .int (nI (k))), (2, .int (nI (kd))), (3, .int (nI (td)))]) hx hb dX5_comes_23 hl (by decide) rfl (fun ls hl => ?_)
      refine z_up (Wg := fun H locs ls => W p l e (zr 1) s m args below meth c H locs 0 0 _ (F0 m 25 ls [])) (I := fun q H locs ls => ∃ (w2 : Nat → va_E) (f : Nat → Int64), Wo G A s.heap n ad w2 H locs ∧ lv_has ls 5 [(4, .int (nI q)), (0, .ref (ad 92)), (1, .int (nI k)), (2, .int (nI kd)), (3, .int (nI td))] ∧ (∀ j, j ≠ 93 → w2 j = w j) ∧ w2 93 = eL G 768 f ∧ (∀ j, j < q → f (48 * sH σ + j) = lN (a j)) ∧ (∀ j, j < 48 * sH σ → f j = f93 j)) (a := 0) (b := 48) (Nat.zero_le _) ?_ ?_ H locs ls ⟨w, f93, hW, hl, fun _ _ => rfl, m93, fun j h => by omega, fun _ _ => rfl⟩
      · rintro q - hq ih H locs ls ⟨w2, f, hW, hl, h1, h2, h3, h4⟩
        have e92b := (h1 92 (by decide)).trans m92
        have e102b := (h1 102 (by decide)).trans ea
        refine lv_iload hx hb dX5_comes_25 (lv_at hl 0 rfl) ?_
        refine lv_bipush (v := nI 48) hx hb dX5_comes_27 (by decide) ?_
        refine n_icmp_ge (tgt := 60) hx hb (by omega) (by omega) dX5_comes_29 (by decide) (fun hd2 => ?_) (fun hd2 => ?_)
        · omega
        · refine lv_aload_n hx hb dX5_comes_32 rfl (lv_at hl 1 rfl) ?_
          refine z_get B hW (92) (by omega) e92b rfl inX5 0 (by decide) hw_375 rfl (v := .ref (ad (93))) rfl dX5_comes_33 ?_
          refine lv_bipush (v := nI 48) hx hb dX5_comes_36 (by decide) ?_
          refine lv_aload_n hx hb dX5_comes_38 rfl (lv_at hl 1 rfl) ?_
          refine z_get B hW (92) (by omega) e92b rfl inX5 4 (by decide) hw_379 rfl (v := .int (nI (sH σ))) rfl dX5_comes_39 ?_
          refine n_imul hx hb dX5_comes_42 ?_
          refine lv_iload hx hb dX5_comes_43 (lv_at hl 0 rfl) ?_
          refine n_iadd hx hb dX5_comes_45 ?_
          refine lv_aload_n hx hb dX5_comes_46 rfl (lv_at hl 1 rfl) ?_
          refine z_get B hW (92) (by omega) e92b rfl inX5 10 (by decide) hw_385 rfl (v := .ref (ad (102))) rfl dX5_comes_47 ?_
          refine lv_iload hx hb dX5_comes_50 (lv_at hl 0 rfl) ?_
          refine z_lald B hW (102) (by omega) e102b (q) (by omega) (by decide) (v := (lN (a q))) (va _ hq) dX5_comes_52 ?_
          refine z_last B hW (93) (by omega) h2 ((48 * (sH σ)) + q) (by omega) (by decide) dX5_comes_53 (fun H locs hW => ?_)
          refine lv_iinc (v := (nI (q + 1))) (lv' := [(4, .int (nI (q + 1))), (0, .ref (ad (92))), (1, .int (nI (k))), (2, .int (nI (kd))), (3, .int (nI (td)))]) hx hb dX5_comes_54 hl (k := 0) rfl (iinc1 _) (by decide) rfl (fun ls hl => ?_)
          refine lv_goto (tgt := 25) hx hb dX5_comes_57 (by decide) ?_
          refine ih H locs ls ⟨_, _, hW, hl, fun j hj => by rw [up_n hj]; exact h1 j hj, up_s, fun j hj => ?_, fun j hj => ?_⟩
          · by_cases z : j = q
            · rw [z, pk_uLs]
            · rw [pk_uLn (by omega)]; exact h3 j (by omega)
          · rw [pk_uLn (by omega)]; exact h4 j hj
      · rintro H locs ls ⟨w2, f, hW, hl, h1, h2, h3, h4⟩
        have e92b := (h1 92 (by decide)).trans m92
        have e95b := (h1 95 (by decide)).trans m95
        refine lv_iload hx hb dX5_comes_25 (lv_at hl 0 rfl) ?_
        refine lv_bipush (v := nI 48) hx hb dX5_comes_27 (by decide) ?_
        refine n_icmp_ge (tgt := 60) hx hb (by omega) (by omega) dX5_comes_29 (by decide) (fun hd2 => ?_) (fun hd2 => ?_)
        · refine lv_aload_n hx hb dX5_comes_60 rfl (lv_at hl 1 rfl) ?_
          refine z_get B hW (92) (by omega) e92b rfl inX5 2 (by decide) hw_377 rfl (v := .ref (ad (95))) rfl dX5_comes_61 ?_
          refine lv_aload_n hx hb dX5_comes_64 rfl (lv_at hl 1 rfl) ?_
          refine z_get B hW (92) (by omega) e92b rfl inX5 4 (by decide) hw_379 rfl (v := .int (nI (sH σ))) rfl dX5_comes_65 ?_
          refine lv_iload_n hx hb dX5_comes_68 rfl (lv_at hl 2 rfl) ?_
          refine z_iast B hW (95) (by omega) e95b (sH σ) (by omega) (by decide) dX5_comes_69 (fun H locs hW => ?_)
          obtain ⟨w3, hw3⟩ : ∃ w3, w3 = va_up w2 95 (eI G 16 (upd f95 (sH σ) (nI k))) := ⟨_, rfl⟩
          rw [← hw3] at hW
          have k3 : ∀ j, j ≠ 95 → w3 j = w2 j := fun j hj => by rw [hw3, up_n hj]
          have e95c : w3 95 = eI G 16 (upd f95 (sH σ) (nI k)) := by rw [hw3, up_s]
          have e92c := (k3 92 (by decide)).trans e92b
          have e94c := ((k3 94 (by decide)).trans (h1 94 (by decide))).trans m94
          refine lv_aload_n hx hb dX5_comes_70 rfl (lv_at hl 1 rfl) ?_
          refine z_get B hW (92) (by omega) e92c rfl inX5 1 (by decide) hw_376 rfl (v := .ref (ad (94))) rfl dX5_comes_71 ?_
          refine lv_aload_n hx hb dX5_comes_74 rfl (lv_at hl 1 rfl) ?_
          refine z_get B hW (92) (by omega) e92c rfl inX5 4 (by decide) hw_379 rfl (v := .int (nI (sH σ))) rfl dX5_comes_75 ?_
          refine lv_iload_n hx hb dX5_comes_78 rfl (lv_at hl 3 rfl) ?_
          refine z_iast B hW (94) (by omega) e94c (sH σ) (by omega) (by decide) dX5_comes_79 (fun H locs hW => ?_)
          obtain ⟨w4, hw4⟩ : ∃ w4, w4 = va_up w3 94 (eI G 16 (upd f94 (sH σ) (nI kd))) := ⟨_, rfl⟩
          rw [← hw4] at hW
          have k4 : ∀ j, j ≠ 94 → w4 j = w3 j := fun j hj => by rw [hw4, up_n hj]
          have e94d : w4 94 = eI G 16 (upd f94 (sH σ) (nI kd)) := by rw [hw4, up_s]
          have e92d := (k4 92 (by decide)).trans e92c
          have e96d := (((k4 96 (by decide)).trans (k3 96 (by decide))).trans (h1 96 (by decide))).trans m96
          refine lv_aload_n hx hb dX5_comes_80 rfl (lv_at hl 1 rfl) ?_
          refine z_get B hW (92) (by omega) e92d rfl inX5 3 (by decide) hw_378 rfl (v := .ref (ad (96))) rfl dX5_comes_81 ?_
          refine lv_aload_n hx hb dX5_comes_84 rfl (lv_at hl 1 rfl) ?_
          refine z_get B hW (92) (by omega) e92d rfl inX5 4 (by decide) hw_379 rfl (v := .int (nI (sH σ))) rfl dX5_comes_85 ?_
          refine lv_iload_n hx hb dX5_comes_88 rfl (lv_at hl 4 rfl) ?_
          refine z_iast B hW (96) (by omega) e96d (sH σ) (by omega) (by decide) dX5_comes_89 (fun H locs hW => ?_)
          obtain ⟨w5, hw5⟩ : ∃ w5, w5 = va_up w4 96 (eI G 16 (upd f96 (sH σ) (nI td))) := ⟨_, rfl⟩
          rw [← hw5] at hW
          have k5 : ∀ j, j ≠ 96 → w5 j = w4 j := fun j hj => by rw [hw5, up_n hj]
          have e96e : w5 96 = eI G 16 (upd f96 (sH σ) (nI td)) := by rw [hw5, up_s]
          have e92e := (k5 92 (by decide)).trans e92d
          refine lv_aload_n hx hb dX5_comes_90 rfl (lv_at hl 1 rfl) ?_
          refine lv_dup hx hb dX5_comes_91 rfl ?_
          refine z_get B hW (92) (by omega) e92e rfl inX5 4 (by decide) hw_379 rfl (v := .int (nI (sH σ))) rfl dX5_comes_92 ?_
          refine lv_iconst (v := nI 1) hx hb dX5_comes_95 (by decide) ?_
          refine n_iadd hx hb dX5_comes_96 ?_
          refine z_put B hW (92) (by omega) e92e rfl inX5 tyX5 tyX5_ok nmX5 4 (by decide) hw_379 rfl rfl (v := .int (nI ((sH σ) + 1))) rfl rfl (Nat.le_of_ble_eq_true rfl) dX5_comes_97 (fun H locs hW => ?_)
          obtain ⟨w6, hw6⟩ : ∃ w6, w6 = va_up w5 92 (mO ad (nI (sH σ + 1)) (rlI (sR σ))) := ⟨_, rfl⟩
          have hW : Wo G A s.heap n ad w6 H locs := by rw [hw6]; exact hW
          have k6 : ∀ j, j ≠ 92 → w6 j = w5 j := fun j hj => by rw [hw6, up_n hj]
          have e92f : w6 92 = mO ad (nI (sH σ + 1)) (rlI (sR σ)) := by rw [hw6, up_s]
          refine lv_aload_n hx hb dX5_comes_100 rfl (lv_at hl 1 rfl) ?_
          refine z_get B hW (92) (by omega) e92f rfl inX5 4 (by decide) hw_379 rfl (v := .int (nI (sH σ + 1))) rfl dX5_comes_101 ?_
          refine lv_iconst (v := nI 1) hx hb dX5_comes_104 (by decide) ?_
          refine n_isub hx hb (by omega) dX5_comes_105 ?_
          have kk : ∀ j, j ≠ 92 → j ≠ 93 → j ≠ 94 → j ≠ 95 → j ≠ 96 → w6 j = w j := fun j q1 q2 q3 q4 q5 => by rw [k6 j q1, k5 j q5, k4 j q3, k3 j q4, h1 j q2]
          refine ret_i B hr hlk hW ⟨rfl, ?_, fun j hj => kk j (by omega) (by omega) (by omega) (by omega) (by omega)⟩ dX5_comes_106
          have g93 : w6 93 = eL G 768 f := by rw [k6 93 (by decide), k5 93 (by decide), k4 93 (by decide), k3 93 (by decide)]; exact h2
          have g94 : w6 94 = eI G 16 (upd f94 (sH σ) (nI kd)) := by rw [k6 94 (by decide), k5 94 (by decide)]; exact e94d
          have g95 : w6 95 = eI G 16 (upd f95 (sH σ) (nI k)) := by rw [k6 95 (by decide), k5 95 (by decide), k4 95 (by decide)]; exact e95c
          have g96 : w6 96 = eI G 16 (upd f96 (sH σ) (nI td)) := by rw [k6 96 (by decide)]; exact e96e
          have K : ∀ j, 97 ≤ j → w6 j = w j := fun j hj => kk j (by omega) (by omega) (by omega) (by omega) (by omega)
          have U : ∀ (g : Nat → Nat) (x : Nat) (fI : Nat → Int32), (∀ i, i < sH σ → fI i = nI (g i)) → ∀ i, i < sH σ + 1 → upd fI (sH σ) (nI x) i = nI (va_up g (sH σ) x i) := fun g x fI hg i hi => by
            by_cases z : i = sH σ
            · rw [z, pk_us, up_s]
            · rw [pk_un z, up_n z]; exact hg i (by omega)
          refine ⟨e92f, ⟨f, g93, fun i hi j hj => ?_⟩, ⟨_, g94, U _ _ _ v94⟩, ⟨_, g95, U _ _ _ v95⟩, ⟨_, g96, U _ _ _ v96⟩, ⟨f97, (K 97 (by decide)).trans m97, v97⟩, isL_of mE2 (K 98 (by decide)), isL_of mE4 (K 99 (by decide)), isL_of mE6 (K 100 (by decide)), isL_of mD (K 101 (by decide)), by rw [K 102 (by decide)]; exact m102, by rw [K 103 (by decide)]; exact m103, by rw [K 104 (by decide)]; exact m104, by rw [K 105 (by decide)]; exact m105, by rw [K 106 (by decide)]; exact m106, by rw [K 107 (by decide)]; exact m107, by rw [K 108 (by decide)]; exact m108, ⟨f109, (K 109 (by decide)).trans m109, v109⟩, by rw [K 110 (by decide)]; exact m110⟩
          have hi : i < sH σ + 1 := hi
          show _ = lN (va_up (sE σ) (sH σ) a i j)
          by_cases z : i = sH σ
          · rw [z, up_s]; exact h3 j hj
          · rw [up_n z, h4 _ (by omega)]; exact v93 i (by omega) j hj
        · omega
    · refine lv_aload_n hx hb dX5_comes_15 rfl (lv_at hl 0 rfl) ?_
      refine lv_bipush (v := -8) hx hb dX5_comes_16 (by decide) ?_
      refine call_vi B hA hW (92) (by omega) m92 (r := _) rfl rfl (k_M_no l G n ad w hn σ hM (-8) 8 (by decide) (by decide) (by decide)) mf_X5_no hw_449 rfl ⟨⟨rfl, rfl⟩, by decide, by decide⟩ ⟨Nat.zero_le _, Nat.zero_le _⟩ hl.1 rfl (Nat.le_of_ble_eq_true rfl) dX5_comes_18 (fun r w9 H locs hp hW => ?_)
      exact ret_i B hr hlk hW (by rw [come_full (by omega)]; exact hp) dX5_comes_21
set_option maxHeartbeats 4000000 in
set_option maxRecDepth 100000 in
theorem k_M_made (l : Launch) (G : zG) (n : Nat) (ad : Nat → Nat) (w : Nat → va_E) (hn : 111 ≤ n) (σ : zS) (hM : MOK G ad w σ) (hs : SOK σ) (k : Nat) (hk : k < 2 ^ 31) (a : Nat → Nat) (ha : isL G w 102 48 a) (ra : a 0 < 1000003) :
    Ci l G yX5_made cdX5_made (zr 2) n ad w [.ref (ad 92), .int (nI k)] (postM G ad w (comeO σ k a)) := by
  obtain ⟨m92, ⟨f93, m93, v93⟩, ⟨f94, m94, v94⟩, ⟨f95, m95, v95⟩, ⟨f96, m96, v96⟩, ⟨f97, m97, v97⟩, mE2, mE4, mE6, mD, m102, m103, m104, m105, m106, m107, m108, ⟨f109, m109, v109⟩, m110⟩ := id hM
  obtain ⟨fa, ea, va⟩ := id ha
  refine ent_i (cc := cX5_made) (maxL := 2) (ret := (some .int)) (by decide +kernel) rfl (Nat.le_of_ble_eq_true rfl) ?_
  intro p e s m args below meth c A B hr hlk hA H locs ls hW hl
  have hx := B.1
  have hb := B.2.1
  have hl : lv_has ls 2 [(0, .ref (ad (92))), (1, .int (nI (k)))] := hl
  refine lv_aload_n hx hb dX5_made_0 rfl (lv_at hl 0 rfl) ?_
  refine lv_iload_n hx hb dX5_made_1 rfl (lv_at hl 1 rfl) ?_
  refine lv_iload_n hx hb dX5_made_2 rfl (lv_at hl 1 rfl) ?_
  refine n_if_ne (tgt := 10) hx hb (by omega) dX5_made_3 (by decide) (fun hc => ?_) (fun hc => ?_)
  · refine lv_aload_n hx hb dX5_made_10 rfl (lv_at hl 0 rfl) ?_
    refine z_get B hW (92) (by omega) m92 rfl inX5 10 (by decide) hw_385 rfl (v := .ref (ad (102))) rfl dX5_made_11 ?_
    refine lv_iconst (v := nI 0) hx hb dX5_made_14 (by decide) ?_
    refine z_lald B hW (102) (by omega) ea (0) (by omega) (by decide) (v := (lN (a 0))) (va 0 (by decide)) dX5_made_15 ?_
    refine lv_lconst (v := lN 0) hx hb dX5_made_16 (by decide) ?_
    refine lc_ne (tgt := 25) hx hb dX5_made_17 dX5_made_18 (by decide) (fun hd => ?_) (fun hd => ?_)
    · have hkd : knd k a = 0 := by unfold knd; rw [if_neg hc, if_neg (fun q => hd (by rw [q]))]
      refine lv_iconst (v := nI 0) hx hb dX5_made_25 (by decide) ?_
      refine topi (y := (nI (knd k a))) (by rw [hkd]) ?_
      refine lv_iconst (v := nI 0) hx hb dX5_made_26 (by decide) ?_
      refine call_vi B hA hW (92) (by omega) m92 (r := _) rfl rfl (k_M_comes l G n ad w hn σ hM hs k (knd k a) 0 hk a ha) mf_X5_comes hw_453 rfl ⟨⟨rfl, rfl⟩, by decide, by decide⟩ ⟨Nat.zero_le _, Nat.zero_le _⟩ hl.1 rfl (Nat.le_of_ble_eq_true rfl) dX5_made_27 (fun r w9 H locs hp hW => ?_)
      exact ret_i B hr hlk hW hp dX5_made_30
    · have hkd : knd k a = 4 := by unfold knd; rw [if_neg hc, if_pos ((lN_inj ra (by decide)).mp hd)]
      refine lv_iconst (v := nI 4) hx hb dX5_made_21 (by decide) ?_
      refine lv_goto (tgt := 26) hx hb dX5_made_22 (by decide) ?_
      refine topi (y := (nI (knd k a))) (by rw [hkd]) ?_
      refine lv_iconst (v := nI 0) hx hb dX5_made_26 (by decide) ?_
      refine call_vi B hA hW (92) (by omega) m92 (r := _) rfl rfl (k_M_comes l G n ad w hn σ hM hs k (knd k a) 0 hk a ha) mf_X5_comes hw_453 rfl ⟨⟨rfl, rfl⟩, by decide, by decide⟩ ⟨Nat.zero_le _, Nat.zero_le _⟩ hl.1 rfl (Nat.le_of_ble_eq_true rfl) dX5_made_27 (fun r w9 H locs hp hW => ?_)
      exact ret_i B hr hlk hW hp dX5_made_30
  · have hkd : knd k a = 3 := by unfold knd; rw [if_pos hc]
    refine lv_iconst (v := nI 3) hx hb dX5_made_6 (by decide) ?_
    refine lv_goto (tgt := 26) hx hb dX5_made_7 (by decide) ?_
    refine topi (y := (nI (knd k a))) (by rw [hkd]) ?_
    refine lv_iconst (v := nI 0) hx hb dX5_made_26 (by decide) ?_
    refine call_vi B hA hW (92) (by omega) m92 (r := _) rfl rfl (k_M_comes l G n ad w hn σ hM hs k (knd k a) 0 hk a ha) mf_X5_comes hw_453 rfl ⟨⟨rfl, rfl⟩, by decide, by decide⟩ ⟨Nat.zero_le _, Nat.zero_le _⟩ hl.1 rfl (Nat.le_of_ble_eq_true rfl) dX5_made_27 (fun r w9 H locs hp hW => ?_)
    exact ret_i B hr hlk hW hp dX5_made_30
set_option maxHeartbeats 4000000 in
set_option maxRecDepth 100000 in
theorem k_M_leastOf (l : Launch) (G : zG) (n : Nat) (ad : Nat → Nat) (w : Nat → va_E) (hn : 111 ≤ n) (σ : zS) (hM : MOK G ad w σ) (hs : SOK σ) (i : Nat) (hi : i < sH σ) :
    Ci l G yX5_leastOf cdX5_leastOf (zr 0) n ad w [.ref (ad 92), .int (nI i)] (fun r w' => w' = w ∧ lstR (sE σ i) r) := by
  obtain ⟨m92, ⟨f93, m93, v93⟩, ⟨f94, m94, v94⟩, ⟨f95, m95, v95⟩, ⟨f96, m96, v96⟩, ⟨f97, m97, v97⟩, mE2, mE4, mE6, mD, m102, m103, m104, m105, m106, m107, m108, ⟨f109, m109, v109⟩, m110⟩ := id hM
  have hsh := hs.1
  obtain ⟨-, -, -, -, ra, -⟩ := hs.2.1 i hi
  refine ent_i (cc := cX5_leastOf) (maxL := 3) (ret := (some .int)) (by decide +kernel) rfl (Nat.le_of_ble_eq_true rfl) ?_
  intro p e s m args below meth c A B hr hlk hA H locs ls hW hl
  have hx := B.1
  have hb := B.2.1
  have hl : lv_has ls 3 [(0, .ref (ad (92))), (1, .int (nI (i)))] := hl
  refine lv_iconst (v := nI 0) hx hb dX5_leastOf_0 (by decide) ?_
  refine lv_istore_n (lv' := [(2, .int (nI (0))), (0, .ref (ad (92))), (1, .int (nI (i)))]) hx hb dX5_leastOf_1 rfl hl (by decide) rfl (fun ls hl => ?_)
  have hrest : ∀ (q : Nat) (ls : Array Slot), q ≤ 48 → (q < 48 → sE σ i q ≠ 0) → (∀ j, j < q → sE σ i j = 0) → lv_has ls 3 [(2, .int (nI q)), (0, .ref (ad 92)), (1, .int (nI i))] → W p l e (zr 0) s m args below meth c H locs 0 0 (MQ below (va_Qi (fun r w' => w' = w ∧ lstR (sE σ i) r) (Kp G n ad A) A) args s 0 0 A) (F0 m 30 ls []) := by
    intro q ls hq h1 h2 hl
    refine lv_iload_n hx hb dX5_leastOf_30 rfl (lv_at hl 0 rfl) ?_
    refine lv_bipush (v := nI 48) hx hb dX5_leastOf_31 (by decide) ?_
    refine n_icmp_ge (tgt := 40) hx hb (by omega) (by omega) dX5_leastOf_33 (by decide) (fun hc => ?_) (fun hc => ?_)
    · refine lv_iconst (v := -1) hx hb dX5_leastOf_40 (by decide) ?_
      exact ret_i B hr hlk hW ⟨rfl, Or.inl ⟨rfl, fun j hj => h2 j (by omega)⟩⟩ dX5_leastOf_41
    · refine lv_iload_n hx hb dX5_leastOf_36 rfl (lv_at hl 0 rfl) ?_
      refine lv_goto (tgt := 41) hx hb dX5_leastOf_37 (by decide) ?_
      exact ret_i B hr hlk hW ⟨rfl, Or.inr ⟨q, rfl, hc, h1 hc, h2⟩⟩ dX5_leastOf_41
  refine z_up1 (Wg := fun ls => W p l e (zr 0) s m args below meth c H locs 0 0 _ (F0 m 2 ls [])) (I := fun q ls => lv_has ls 3 [(2, .int (nI q)), (0, .ref (ad 92)), (1, .int (nI i))] ∧ ∀ j, j < q → sE σ i j = 0) (a := 0) (b := 48) (Nat.zero_le _) ?_ ?_ ls ⟨hl, fun j h => by omega⟩
  · rintro q - hq ih ls ⟨hl, h1⟩
    refine lv_iload_n hx hb dX5_leastOf_2 rfl (lv_at hl 0 rfl) ?_
    refine lv_bipush (v := nI 48) hx hb dX5_leastOf_3 (by decide) ?_
    refine n_icmp_ge (tgt := 30) hx hb (by omega) (by omega) dX5_leastOf_5 (by decide) (fun hc => ?_) (fun hc => ?_)
    · omega
    · refine lv_aload_n hx hb dX5_leastOf_8 rfl (lv_at hl 1 rfl) ?_
      refine z_get B hW (92) (by omega) m92 rfl inX5 0 (by decide) hw_375 rfl (v := .ref (ad (93))) rfl dX5_leastOf_9 ?_
      refine lv_bipush (v := nI 48) hx hb dX5_leastOf_12 (by decide) ?_
      refine lv_iload_n hx hb dX5_leastOf_14 rfl (lv_at hl 2 rfl) ?_
      refine n_imul hx hb dX5_leastOf_15 ?_
      refine lv_iload_n hx hb dX5_leastOf_16 rfl (lv_at hl 0 rfl) ?_
      refine n_iadd hx hb dX5_leastOf_17 ?_
      refine z_lald B hW (93) (by omega) m93 ((48 * i) + q) (by omega) (by decide) (v := (lN (sE σ i q))) (v93 _ hi _ hq) dX5_leastOf_18 ?_
      refine lv_lconst (v := lN 0) hx hb dX5_leastOf_19 (by decide) ?_
      refine lc_ne (tgt := 30) hx hb dX5_leastOf_20 dX5_leastOf_21 (by decide) (fun hd => ?_) (fun hd => ?_)
      · exact hrest q ls (by omega) (fun _ z => hd (by rw [z])) h1 hl
      · have h0 : sE σ i q = 0 := (lN_inj (ra q) (by decide)).mp hd
        refine lv_iinc (v := (nI (q + 1))) (lv' := [(2, .int (nI (q + 1))), (0, .ref (ad (92))), (1, .int (nI (i)))]) hx hb dX5_leastOf_24 hl (k := 0) rfl (iinc1 _) (by decide) rfl (fun ls hl => ?_)
        refine lv_goto (tgt := 2) hx hb dX5_leastOf_27 (by decide) ?_
        exact ih ls ⟨hl, fun j hj => by
          by_cases z : j = q
          · rw [z]; exact h0
          · exact h1 j (by omega)⟩
  · rintro ls ⟨hl, h1⟩
    refine lv_iload_n hx hb dX5_leastOf_2 rfl (lv_at hl 0 rfl) ?_
    refine lv_bipush (v := nI 48) hx hb dX5_leastOf_3 (by decide) ?_
    refine n_icmp_ge (tgt := 30) hx hb (by omega) (by omega) dX5_leastOf_5 (by decide) (fun hc => ?_) (fun hc => ?_)
    · exact hrest 48 ls (by omega) (fun z => by omega) h1 hl
    · omega
set_option maxHeartbeats 4000000 in
set_option maxRecDepth 100000 in
theorem k_M_firstApart (l : Launch) (G : zG) (n : Nat) (ad : Nat → Nat) (w : Nat → va_E) (hn : 111 ≤ n) (σ : zS) (hM : MOK G ad w σ) (hs : SOK σ) (i k : Nat) (hi : i < sH σ) (hk : k < sH σ) :
    Ci l G yX5_firstApart cdX5_firstApart (zr 0) n ad w [.ref (ad 92), .int (nI i), .int (nI k)] (fun r w' => w' = w ∧ unlR (sE σ i) (sE σ k) r) := by
  obtain ⟨m92, ⟨f93, m93, v93⟩, ⟨f94, m94, v94⟩, ⟨f95, m95, v95⟩, ⟨f96, m96, v96⟩, ⟨f97, m97, v97⟩, mE2, mE4, mE6, mD, m102, m103, m104, m105, m106, m107, m108, ⟨f109, m109, v109⟩, m110⟩ := id hM
  have hsh := hs.1
  obtain ⟨-, -, -, -, ra, -⟩ := hs.2.1 i hi
  obtain ⟨-, -, -, -, rb, -⟩ := hs.2.1 k hk
  refine ent_i (cc := cX5_firstApart) (maxL := 4) (ret := (some .int)) (by decide +kernel) rfl (Nat.le_of_ble_eq_true rfl) ?_
  intro p e s m args below meth c A B hr hlk hA H locs ls hW hl
  have hx := B.1
  have hb := B.2.1
  have hl : lv_has ls 4 [(0, .ref (ad (92))), (1, .int (nI (i))), (2, .int (nI (k)))] := hl
  refine lv_iconst (v := nI 0) hx hb dX5_firstApart_0 (by decide) ?_
  refine lv_istore_n (lv' := [(3, .int (nI (0))), (0, .ref (ad (92))), (1, .int (nI (i))), (2, .int (nI (k)))]) hx hb dX5_firstApart_1 rfl hl (by decide) rfl (fun ls hl => ?_)
  have hrest : ∀ (q : Nat) (ls : Array Slot), q ≤ 48 → (q < 48 → sE σ i q ≠ sE σ k q) → (∀ j, j < q → sE σ i j = sE σ k j) → lv_has ls 4 [(3, .int (nI q)), (0, .ref (ad 92)), (1, .int (nI i)), (2, .int (nI k))] → W p l e (zr 0) s m args below meth c H locs 0 0 (MQ below (va_Qi (fun r w' => w' = w ∧ unlR (sE σ i) (sE σ k) r) (Kp G n ad A) A) args s 0 0 A) (F0 m 40 ls []) := by
    intro q ls hq h1 h2 hl
    refine lv_iload_n hx hb dX5_firstApart_40 rfl (lv_at hl 0 rfl) ?_
    refine lv_bipush (v := nI 48) hx hb dX5_firstApart_41 (by decide) ?_
    refine n_icmp_ge (tgt := 50) hx hb (by omega) (by omega) dX5_firstApart_43 (by decide) (fun hc => ?_) (fun hc => ?_)
    · refine lv_iconst (v := -1) hx hb dX5_firstApart_50 (by decide) ?_
      exact ret_i B hr hlk hW ⟨rfl, Or.inl ⟨rfl, fun j hj => h2 j (by omega)⟩⟩ dX5_firstApart_51
    · refine lv_iload_n hx hb dX5_firstApart_46 rfl (lv_at hl 0 rfl) ?_
      refine lv_goto (tgt := 51) hx hb dX5_firstApart_47 (by decide) ?_
      exact ret_i B hr hlk hW ⟨rfl, Or.inr ⟨q, rfl, hc, h1 hc, h2⟩⟩ dX5_firstApart_51
  refine z_up1 (Wg := fun ls => W p l e (zr 0) s m args below meth c H locs 0 0 _ (F0 m 2 ls [])) (I := fun q ls => lv_has ls 4 [(3, .int (nI q)), (0, .ref (ad 92)), (1, .int (nI i)), (2, .int (nI k))] ∧ ∀ j, j < q → sE σ i j = sE σ k j) (a := 0) (b := 48) (Nat.zero_le _) ?_ ?_ ls ⟨hl, fun j h => by omega⟩
  · rintro q - hq ih ls ⟨hl, h1⟩
    refine lv_iload_n hx hb dX5_firstApart_2 rfl (lv_at hl 0 rfl) ?_
    refine lv_bipush (v := nI 48) hx hb dX5_firstApart_3 (by decide) ?_
    refine n_icmp_ge (tgt := 40) hx hb (by omega) (by omega) dX5_firstApart_5 (by decide) (fun hc => ?_) (fun hc => ?_)
    · omega
    · refine lv_aload_n hx hb dX5_firstApart_8 rfl (lv_at hl 1 rfl) ?_
      refine z_get B hW (92) (by omega) m92 rfl inX5 0 (by decide) hw_375 rfl (v := .ref (ad (93))) rfl dX5_firstApart_9 ?_
      refine lv_bipush (v := nI 48) hx hb dX5_firstApart_12 (by decide) ?_
      refine lv_iload_n hx hb dX5_firstApart_14 rfl (lv_at hl 2 rfl) ?_
      refine n_imul hx hb dX5_firstApart_15 ?_
      refine lv_iload_n hx hb dX5_firstApart_16 rfl (lv_at hl 0 rfl) ?_
      refine n_iadd hx hb dX5_firstApart_17 ?_
      refine z_lald B hW (93) (by omega) m93 ((48 * i) + q) (by omega) (by decide) (v := (lN (sE σ i q))) (v93 _ hi _ hq) dX5_firstApart_18 ?_
      refine lv_aload_n hx hb dX5_firstApart_19 rfl (lv_at hl 1 rfl) ?_
      refine z_get B hW (92) (by omega) m92 rfl inX5 0 (by decide) hw_375 rfl (v := .ref (ad (93))) rfl dX5_firstApart_20 ?_
      refine lv_bipush (v := nI 48) hx hb dX5_firstApart_23 (by decide) ?_
      refine lv_iload_n hx hb dX5_firstApart_25 rfl (lv_at hl 3 rfl) ?_
      refine n_imul hx hb dX5_firstApart_26 ?_
      refine lv_iload_n hx hb dX5_firstApart_27 rfl (lv_at hl 0 rfl) ?_
      refine n_iadd hx hb dX5_firstApart_28 ?_
      refine z_lald B hW (93) (by omega) m93 ((48 * k) + q) (by omega) (by decide) (v := (lN (sE σ k q))) (v93 _ hk _ hq) dX5_firstApart_29 ?_
      refine lc_ne (tgt := 40) hx hb dX5_firstApart_30 dX5_firstApart_31 (by decide) (fun hd => ?_) (fun hd => ?_)
      · exact hrest q ls (by omega) (fun _ z => hd (by rw [z])) h1 hl
      · have h0 : sE σ i q = sE σ k q := (lN_inj (ra q) (rb q)).mp hd
        refine lv_iinc (v := (nI (q + 1))) (lv' := [(3, .int (nI (q + 1))), (0, .ref (ad (92))), (1, .int (nI (i))), (2, .int (nI (k)))]) hx hb dX5_firstApart_34 hl (k := 0) rfl (iinc1 _) (by decide) rfl (fun ls hl => ?_)
        refine lv_goto (tgt := 2) hx hb dX5_firstApart_37 (by decide) ?_
        exact ih ls ⟨hl, fun j hj => by
          by_cases z : j = q
          · rw [z]; exact h0
          · exact h1 j (by omega)⟩
  · rintro ls ⟨hl, h1⟩
    refine lv_iload_n hx hb dX5_firstApart_2 rfl (lv_at hl 0 rfl) ?_
    refine lv_bipush (v := nI 48) hx hb dX5_firstApart_3 (by decide) ?_
    refine n_icmp_ge (tgt := 40) hx hb (by omega) (by omega) dX5_firstApart_5 (by decide) (fun hc => ?_) (fun hc => ?_)
    · exact hrest 48 ls (by omega) (fun z => by omega) h1 hl
    · omega
