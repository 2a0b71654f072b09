set_option maxHeartbeats 4000000 in
set_option maxRecDepth 100000 in
theorem k_X4_count (l : Launch) (G : zG) (n : Nat) (ad : Nat → Nat) (w : Nat → va_E) (hn : 92 ≤ n) (σ : zS) (hX : XOK G ad w σ) (hs : SOK σ)  :
    Ci l G yX4_count cdX4_count (zr 5) n ad w [.ref (ad (0))] (postX G ad w (st_count σ)) := by
  obtain ⟨⟨nf, hB⟩, x0, ⟨f1, x1, v1⟩, ⟨f55, x55⟩, ⟨f56, x56⟩, ⟨f57, x57⟩, ⟨f58, x58, v58⟩, ⟨f59, x59, v59⟩, xf⟩ := id hX
  have hsh := hs.1
  refine ent_i (cc := cX4_count) (maxL := 1) (ret := (some .int)) (by decide +kernel) rfl (Nat.le_of_ble_eq_true rfl) ?_
  intro p e s m args below meth c A B hr hlk hA H locs ls hW hl
  have hx := B.1
  have hb := B.2.1
  have hl : lv_has ls 1 [(0, .ref (ad (0)))] := hl
  obtain ⟨b2, -⟩ := id hB
  refine lv_aload_n hx hb dX4_count_0 rfl (lv_at hl 0 rfl) ?_
  refine z_get B hW (0) (by omega) x0 rfl inX4 1 (by decide) hw_116 rfl (v := .int (nI (sH σ))) rfl dX4_count_1 ?_
  exact ret_i B hr hlk hW ⟨rfl, hX, fun _ _ => rfl⟩ dX4_count_4
set_option maxHeartbeats 4000000 in
set_option maxRecDepth 100000 in
theorem k_X4_drop (l : Launch) (G : zG) (n : Nat) (ad : Nat → Nat) (w : Nat → va_E) (hn : 92 ≤ n) (σ : zS) (hX : XOK G ad w σ) (hs : SOK σ)  :
    Ci l G yX4_drop cdX4_drop (zr 5) n ad w [.ref (ad (0))] (postX G ad w (st_drop σ)) := by
  obtain ⟨⟨nf, hB⟩, x0, ⟨f1, x1, v1⟩, ⟨f55, x55⟩, ⟨f56, x56⟩, ⟨f57, x57⟩, ⟨f58, x58, v58⟩, ⟨f59, x59, v59⟩, xf⟩ := id hX
  have hsh := hs.1
  refine ent_i (cc := cX4_drop) (maxL := 1) (ret := (some .int)) (by decide +kernel) rfl (Nat.le_of_ble_eq_true rfl) ?_
  intro p e s m args below meth c A B hr hlk hA H locs ls hW hl
  have hx := B.1
  have hb := B.2.1
  have hl : lv_has ls 1 [(0, .ref (ad (0)))] := hl
  obtain ⟨b2, -⟩ := id hB
  refine lv_aload_n hx hb dX4_drop_0 rfl (lv_at hl 0 rfl) ?_
  refine z_get B hW (0) (by omega) x0 rfl inX4 1 (by decide) hw_116 rfl (v := .int (nI (sH σ))) rfl dX4_drop_1 ?_
  refine n_if_gt (tgt := 14) hx hb (by omega) dX4_drop_4 (by decide) (fun hc => ?_) (fun hc => ?_)
  · have hS : st_drop σ = (nI (sH σ - 1), sH σ - 1, sW σ, sK σ, sT σ, sE σ, sF σ, sR σ, sV σ) := by unfold st_drop; rw [if_neg (by omega)]
    rw [hS]
    refine lv_aload_n hx hb dX4_drop_14 rfl (lv_at hl 0 rfl) ?_
    refine lv_dup hx hb dX4_drop_15 rfl ?_
    refine z_get B hW (0) (by omega) x0 rfl inX4 1 (by decide) hw_116 rfl (v := .int (nI (sH σ))) rfl dX4_drop_16 ?_
    refine lv_iconst (v := nI 1) hx hb dX4_drop_19 (by decide) ?_
    refine n_isub hx hb (by omega) dX4_drop_20 ?_
    refine z_put B hW (0) (by omega) x0 rfl inX4 tyX4 tyX4_ok nmX4 1 (by decide) hw_116 rfl rfl (v := .int (nI ((sH σ) - 1))) rfl rfl (Nat.le_of_ble_eq_true rfl) dX4_drop_21 (fun H locs hW => ?_)
    have x0c : va_up w 0 (eO 2 [.ref (ad 1), .int (nI (sH σ - 1)), .ref (ad 2), .ref (ad 55), .ref (ad 56), .ref (ad 57), .ref (ad 58), .int (rlI (sR σ)), .ref (ad 59)]) 0 = _ := up_s
    refine lv_aload_n hx hb dX4_drop_24 rfl (lv_at hl 0 rfl) ?_
    refine z_get B hW (0) (by omega) x0c rfl inX4 1 (by decide) hw_116 rfl (v := .int (nI (sH σ - 1))) rfl dX4_drop_25 ?_
    refine ret_i B hr hlk hW ⟨rfl, ?_, fun j hj => up_n (by omega)⟩ dX4_drop_28
    refine ⟨⟨nf, hB.keep (fun j q1 q2 => up_n (by omega))⟩, x0c, ⟨f1, (up_n (by decide)).trans x1, v1⟩, ⟨f55, (up_n (by decide)).trans x55⟩, ⟨f56, (up_n (by decide)).trans x56⟩, ⟨f57, (up_n (by decide)).trans x57⟩, ⟨f58, (up_n (by decide)).trans x58, v58⟩, ⟨f59, (up_n (by decide)).trans x59, v59⟩, fun i hi => ?_⟩
    obtain ⟨a1, a2, a3, a4, a5, a6, a7⟩ := xf i hi
    refine ⟨a1, a2, a3, a4, (up_n (by omega)).trans a5, (up_n (by omega)).trans a6, fun hi2 => a7 ?_⟩
    have hi2 : i < sH σ - 1 := hi2
    omega
  · refine lv_aload_n hx hb dX4_drop_7 rfl (lv_at hl 0 rfl) ?_
    refine lv_bipush (v := -2) hx hb dX4_drop_8 (by decide) ?_
    refine call_vi B hA hW (0) (by omega) x0 (r := _) rfl rfl (k_refuse l G n ad w hn σ hX (-2) 2 (by decide) (by decide) (by decide) (by decide) (by decide)) mf_X4_refuse hw_152 rfl ⟨⟨rfl, rfl⟩, by decide, by decide⟩ ⟨Nat.zero_le _, Nat.zero_le _⟩ hl.1 rfl (Nat.le_of_ble_eq_true rfl) dX4_drop_10 (fun r w9 H locs hp hW => ?_)
    exact ret_i B hr hlk hW (by rw [show st_drop σ = ref σ 2 by unfold st_drop; rw [if_pos hc]]; exact hp) dX4_drop_13
set_option maxHeartbeats 4000000 in
set_option maxRecDepth 100000 in
theorem k_X4_size (l : Launch) (G : zG) (n : Nat) (ad : Nat → Nat) (w : Nat → va_E) (hn : 92 ≤ n) (σ : zS) (hX : XOK G ad w σ) (hs : SOK σ) (x : Int32) :
    Ci l G yX4_size cdX4_size (zr 5) n ad w [.ref (ad (0)), .int (x)] (postX G ad w (st_size σ x)) := by
  obtain ⟨⟨nf, hB⟩, x0, ⟨f1, x1, v1⟩, ⟨f55, x55⟩, ⟨f56, x56⟩, ⟨f57, x57⟩, ⟨f58, x58, v58⟩, ⟨f59, x59, v59⟩, xf⟩ := id hX
  have hsh := hs.1
  refine ent_i (cc := cX4_size) (maxL := 2) (ret := (some .int)) (by decide +kernel) rfl (Nat.le_of_ble_eq_true rfl) ?_
  intro p e s m args below meth c A B hr hlk hA H locs ls hW hl
  have hx := B.1
  have hb := B.2.1
  have hl : lv_has ls 2 [(0, .ref (ad (0))), (1, .int (x))] := hl
  obtain ⟨b2, -⟩ := id hB
  refine lv_iload_n hx hb dX4_size_0 rfl (lv_at hl 1 rfl) ?_
  refine call_si B hA hW (k_isWeight l G n ad w x) mf_X4_isWeight hw_267 rfl ⟨⟨rfl, rfl⟩, by decide, by decide⟩ ⟨Nat.zero_le _, Nat.zero_le _⟩ hl.1 rfl (Nat.le_of_ble_eq_true rfl) dX4_size_1 (fun r w9 H locs hp hW => ?_)
  obtain ⟨e1, hp⟩ := hp
  rw [e1] at hW
  rcases hp with ⟨k, hk, hk2, rfl, rfl⟩ | ⟨hnf, rfl⟩
  · refine n_if_eq (tgt := 18) hx hb (by omega) dX4_size_4 (by decide) (fun hz => ?_) (fun hz => ?_)
    · exact absurd hz (by decide)
    · refine lv_aload_n hx hb dX4_size_7 rfl (lv_at hl 0 rfl) ?_
      refine z_get B hW (0) (by omega) x0 rfl inX4 2 (by decide) hw_117 rfl (v := .ref (ad (2))) rfl dX4_size_8 ?_
      refine lv_iload_n hx hb dX4_size_11 rfl (lv_at hl 1 rfl) ?_
      refine call_vi B hA hW (2) (by omega) b2 (r := _) rfl rfl (k_sizeOf l G n ad w k nf nf (by omega) hk hB) mf_X0_sizeOf hw_245 rfl ⟨⟨rfl, rfl⟩, by decide, by decide⟩ ⟨Nat.zero_le _, Nat.zero_le _⟩ hl.1 rfl (Nat.le_of_ble_eq_true rfl) dX4_size_12 (fun r w9 H locs hp hW => ?_)
      obtain ⟨e1, e2⟩ := hp
      rw [e1] at hW
      subst e2
      refine lv_goto (tgt := 24) hx hb dX4_size_15 (by decide) ?_
      exact ret_i B hr hlk hW (by rw [show st_size σ (nI k) = (nI (zs k), σ) by unfold st_size; rw [cif_t ⟨k, hk, hk2, rfl⟩, cN_nI (by omega)]]; exact ⟨rfl, hX, fun _ _ => rfl⟩) dX4_size_24
  · refine n_if_eq (tgt := 18) hx hb (by omega) dX4_size_4 (by decide) (fun hz => ?_) (fun hz => ?_)
    · refine lv_aload_n hx hb dX4_size_18 rfl (lv_at hl 0 rfl) ?_
      refine lv_bipush (v := -7) hx hb dX4_size_19 (by decide) ?_
      refine call_vi B hA hW (0) (by omega) x0 (r := _) rfl rfl (k_refuse l G n ad w hn σ hX (-7) 7 (by decide) (by decide) (by decide) (by decide) (by decide)) mf_X4_refuse hw_152 rfl ⟨⟨rfl, rfl⟩, by decide, by decide⟩ ⟨Nat.zero_le _, Nat.zero_le _⟩ hl.1 rfl (Nat.le_of_ble_eq_true rfl) dX4_size_21 (fun r w9 H locs hp hW => ?_)
      exact ret_i B hr hlk hW (by rw [show st_size σ x = ref σ 7 by unfold st_size; rw [cif_f (P := isW x) hnf]]; exact hp) dX4_size_24
    · exact absurd rfl hz
set_option maxHeartbeats 4000000 in
set_option maxRecDepth 100000 in
theorem k_X4_times (l : Launch) (G : zG) (n : Nat) (ad : Nat → Nat) (w : Nat → va_E) (hn : 92 ≤ n) (σ : zS) (hX : XOK G ad w σ) (hs : SOK σ) (f g : Int32) :
    Ci l G yX4_times cdX4_times (zr 5) n ad w [.ref (ad (0)), .int (f), .int (g)] (postX G ad w (st_times σ f g)) := by
  obtain ⟨⟨nf, hB⟩, x0, ⟨f1, x1, v1⟩, ⟨f55, x55⟩, ⟨f56, x56⟩, ⟨f57, x57⟩, ⟨f58, x58, v58⟩, ⟨f59, x59, v59⟩, xf⟩ := id hX
  have hsh := hs.1
  refine ent_i (cc := cX4_times) (maxL := 4) (ret := (some .int)) (by decide +kernel) rfl (Nat.le_of_ble_eq_true rfl) ?_
  intro p e s m args below meth c A B hr hlk hA H locs ls hW hl
  have hx := B.1
  have hb := B.2.1
  have hl : lv_has ls 4 [(0, .ref (ad (0))), (1, .int (f)), (2, .int (g))] := hl
  obtain ⟨b2, -⟩ := id hB
  refine lv_aload_n hx hb dX4_times_0 rfl (lv_at hl 0 rfl) ?_
  refine lv_iload_n hx hb dX4_times_1 rfl (lv_at hl 1 rfl) ?_
  refine call_vi B hA hW (0) (by omega) x0 (r := _) rfl rfl (k_isForm l G n ad w hn σ hX hs f) mf_X4_isForm hw_187 rfl ⟨⟨rfl, rfl⟩, by decide, by decide⟩ ⟨Nat.zero_le _, Nat.zero_le _⟩ hl.1 rfl (Nat.le_of_ble_eq_true rfl) dX4_times_2 (fun r w9 H locs hp hW => ?_)
  obtain ⟨e1, hp⟩ := hp
  rw [e1] at hW
  rcases hp with ⟨i, hi, rfl, rfl⟩ | ⟨hnf, rfl⟩
  · obtain ⟨w40_i, w2_i, k4_i, t40_i, r_i, s_i⟩ := hs.2.1 i hi
    obtain ⟨o_i, n_i⟩ := hX.form hs hi
    obtain ⟨f_i, e_i, v_i⟩ := id n_i
    refine n_if_eq (tgt := 16) hx hb (by omega) dX4_times_5 (by decide) (fun hz => ?_) (fun hz => ?_)
    · exact absurd hz (by decide)
    · refine lv_aload_n hx hb dX4_times_8 rfl (lv_at hl 0 rfl) ?_
      refine lv_iload_n hx hb dX4_times_9 rfl (lv_at hl 2 rfl) ?_
      refine call_vi B hA hW (0) (by omega) x0 (r := _) rfl rfl (k_isForm l G n ad w hn σ hX hs g) mf_X4_isForm hw_187 rfl ⟨⟨rfl, rfl⟩, by decide, by decide⟩ ⟨Nat.zero_le _, Nat.zero_le _⟩ hl.1 rfl (Nat.le_of_ble_eq_true rfl) dX4_times_10 (fun r w9 H locs hp hW => ?_)
      obtain ⟨e1, hp⟩ := hp
      rw [e1] at hW
      rcases hp with ⟨j, hj, rfl, rfl⟩ | ⟨hnf, rfl⟩
      · obtain ⟨w40_j, w2_j, k4_j, t40_j, r_j, s_j⟩ := hs.2.1 j hj
        obtain ⟨o_j, n_j⟩ := hX.form hs hj
        obtain ⟨f_j, e_j, v_j⟩ := id n_j
        refine n_if_ne (tgt := 23) hx hb (by omega) dX4_times_13 (by decide) (fun hz => ?_) (fun hz => ?_)
        · have hS : st_times σ (nI i) (nI j) = comeO σ (sW σ i + sW σ j) (mulS (sE σ i) (sE σ j)) := by
            unfold st_times
            rw [cif_t ⟨⟨i, hi, rfl⟩, ⟨j, hj, rfl⟩⟩, cN_nI (by omega), cN_nI (by omega)]
          rw [hS]
          refine lv_aload_n hx hb dX4_times_23 rfl (lv_at hl 0 rfl) ?_
          refine z_get B hW (0) (by omega) x0 rfl inX4 0 (by decide) hw_115 rfl (v := .ref (ad (1))) rfl dX4_times_24 ?_
          refine lv_iload_n hx hb dX4_times_27 rfl (lv_at hl 1 rfl) ?_
          refine z_aald B hW (1) (by omega) x1 (i) (by omega) (by decide) (q := ad (60 + 2 * (i))) (v1 _ (by omega)) dX4_times_28 ?_
          refine z_get B hW (60 + 2 * (i)) (by omega) o_i rfl inX1 1 (by decide) hw_103 rfl (v := .int (nI (sW σ i))) rfl dX4_times_29 ?_
          refine lv_aload_n hx hb dX4_times_32 rfl (lv_at hl 0 rfl) ?_
          refine z_get B hW (0) (by omega) x0 rfl inX4 0 (by decide) hw_115 rfl (v := .ref (ad (1))) rfl dX4_times_33 ?_
          refine lv_iload_n hx hb dX4_times_36 rfl (lv_at hl 2 rfl) ?_
          refine z_aald B hW (1) (by omega) x1 (j) (by omega) (by decide) (q := ad (60 + 2 * (j))) (v1 _ (by omega)) dX4_times_37 ?_
          refine z_get B hW (60 + 2 * (j)) (by omega) o_j rfl inX1 1 (by decide) hw_103 rfl (v := .int (nI (sW σ j))) rfl dX4_times_38 ?_
          refine n_iadd hx hb dX4_times_41 ?_
          refine lv_istore_n (lv' := [(3, .int (nI ((sW σ i) + (sW σ j)))), (0, .ref (ad (0))), (1, .int (nI (i))), (2, .int (nI (j)))]) hx hb dX4_times_42 rfl hl (by decide) rfl (fun ls hl => ?_)
          refine lv_aload_n hx hb dX4_times_43 rfl (lv_at hl 1 rfl) ?_
          refine lv_iload_n hx hb dX4_times_44 rfl (lv_at hl 0 rfl) ?_
          refine call_vi B hA hW (0) (by omega) x0 (r := _) rfl rfl (k_hasRoom l G n ad w hn σ hX hs (sW σ i + sW σ j) (by omega)) mf_X4_hasRoom hw_159 rfl ⟨⟨rfl, rfl⟩, by decide, by decide⟩ ⟨Nat.zero_le _, Nat.zero_le _⟩ hl.1 rfl (Nat.le_of_ble_eq_true rfl) dX4_times_45 (fun r w9 H locs hp hW => ?_)
          obtain ⟨e1, hp⟩ := hp
          rw [e1] at hW
          rcases hp with ⟨hh, hk40, rfl⟩ | ⟨hnr, rfl⟩
          · obtain ⟨xa, ya, za, fa, g1, g2⟩ := hX.free hh
            refine n_if_ne (tgt := 58) hx hb (by omega) dX4_times_48 (by decide) (fun hz => ?_) (fun hz => ?_)
            · refine lv_aload_n hx hb dX4_times_58 rfl (lv_at hl 1 rfl) ?_
              refine z_get B hW (0) (by omega) x0 rfl inX4 0 (by decide) hw_115 rfl (v := .ref (ad (1))) rfl dX4_times_59 ?_
              refine lv_iload_n hx hb dX4_times_62 rfl (lv_at hl 2 rfl) ?_
              refine z_aald B hW (1) (by omega) x1 (i) (by omega) (by decide) (q := ad (60 + 2 * (i))) (v1 _ (by omega)) dX4_times_63 ?_
              refine z_get B hW (60 + 2 * (i)) (by omega) o_i rfl inX1 0 (by decide) hw_101 rfl (v := .ref (ad (61 + 2 * (i)))) rfl dX4_times_64 ?_
              refine lv_aload_n hx hb dX4_times_67 rfl (lv_at hl 1 rfl) ?_
              refine z_get B hW (0) (by omega) x0 rfl inX4 0 (by decide) hw_115 rfl (v := .ref (ad (1))) rfl dX4_times_68 ?_
              refine lv_iload_n hx hb dX4_times_71 rfl (lv_at hl 3 rfl) ?_
              refine z_aald B hW (1) (by omega) x1 (j) (by omega) (by decide) (q := ad (60 + 2 * (j))) (v1 _ (by omega)) dX4_times_72 ?_
              refine z_get B hW (60 + 2 * (j)) (by omega) o_j rfl inX1 0 (by decide) hw_101 rfl (v := .ref (ad (61 + 2 * (j)))) rfl dX4_times_73 ?_
              refine lv_aload_n hx hb dX4_times_76 rfl (lv_at hl 1 rfl) ?_
              refine z_get B hW (0) (by omega) x0 rfl inX4 0 (by decide) hw_115 rfl (v := .ref (ad (1))) rfl dX4_times_77 ?_
              refine lv_aload_n hx hb dX4_times_80 rfl (lv_at hl 1 rfl) ?_
              refine z_get B hW (0) (by omega) x0 rfl inX4 1 (by decide) hw_116 rfl (v := .int (nI (sH σ))) rfl dX4_times_81 ?_
              refine z_aald B hW (1) (by omega) x1 (sH σ) (by omega) (by decide) (q := ad (60 + 2 * (sH σ))) (v1 _ (by omega)) dX4_times_84 ?_
              refine z_get B hW (60 + 2 * (sH σ)) (by omega) g1 rfl inX1 0 (by decide) hw_101 rfl (v := .ref (ad (61 + 2 * (sH σ)))) rfl dX4_times_85 ?_
              refine call_sv B hA hW (k_X3_multiply l G n ad w (61 + 2 * i) (61 + 2 * j) (61 + 2 * sH σ) (sE σ i) (sE σ j) (by omega) (by omega) (by omega) n_i n_j ⟨_, g2⟩ r_i.s r_j.s) mf_X3_multiply hw_200 rfl ⟨⟨rfl, rfl⟩, by decide, by decide⟩ ⟨Nat.zero_le _, Nat.zero_le _⟩ hl.1 rfl (Nat.le_of_ble_eq_true rfl) dX4_times_88 (fun w2 H locs hp hW => ?_)
              have hX2 : XOK G ad w2 σ := hX.num ⟨_, hp.2.choose_spec.1⟩ hp.1
              refine lv_aload_n hx hb dX4_times_91 rfl (lv_at hl 1 rfl) ?_
              refine lv_iload_n hx hb dX4_times_92 rfl (lv_at hl 0 rfl) ?_
              refine call_vi B hA hW (0) (by omega) hX2.2.1 (r := _) rfl rfl (k_comeOfOthers l G n ad w2 hn σ hX2 hs hh (sW σ i + sW σ j) hk40 (mulS (sE σ i) (sE σ j)) hp.2 (mulS_lt _ _ _)) mf_X4_comeOfOthers hw_192 rfl ⟨⟨rfl, rfl⟩, by decide, by decide⟩ ⟨Nat.zero_le _, Nat.zero_le _⟩ hl.1 rfl (Nat.le_of_ble_eq_true rfl) dX4_times_93 (fun r w9 H locs hp9 hW => ?_)
              exact ret_i B hr hlk hW ⟨hp9.1, hp9.2.1, fun j hj => (hp9.2.2 j hj).trans (hp.1 j (by omega))⟩ dX4_times_96
            · exact absurd hz (by decide)
          · refine n_if_ne (tgt := 58) hx hb (by omega) dX4_times_48 (by decide) (fun hz => ?_) (fun hz => ?_)
            · exact absurd rfl hz
            · refine lv_aload_n hx hb dX4_times_51 rfl (lv_at hl 1 rfl) ?_
              refine lv_bipush (v := -8) hx hb dX4_times_52 (by decide) ?_
              refine call_vi B hA hW (0) (by omega) x0 (r := _) rfl rfl (k_refuse l G n ad w hn σ hX (-8) 8 (by decide) (by decide) (by decide) (by decide) (by decide)) mf_X4_refuse hw_152 rfl ⟨⟨rfl, rfl⟩, by decide, by decide⟩ ⟨Nat.zero_le _, Nat.zero_le _⟩ hl.1 rfl (Nat.le_of_ble_eq_true rfl) dX4_times_54 (fun r w9 H locs hp hW => ?_)
              exact ret_i B hr hlk hW (by rw [comeO_full hnr]; exact hp) dX4_times_57
        · exact absurd hz (by decide)
      · refine n_if_ne (tgt := 23) hx hb (by omega) dX4_times_13 (by decide) (fun hz => ?_) (fun hz => ?_)
        · exact absurd rfl hz
        · refine lv_aload_n hx hb dX4_times_16 rfl (lv_at hl 0 rfl) ?_
          refine lv_bipush (v := -3) hx hb dX4_times_17 (by decide) ?_
          refine call_vi B hA hW (0) (by omega) x0 (r := _) rfl rfl (k_refuse l G n ad w hn σ hX (-3) 3 (by decide) (by decide) (by decide) (by decide) (by decide)) mf_X4_refuse hw_152 rfl ⟨⟨rfl, rfl⟩, by decide, by decide⟩ ⟨Nat.zero_le _, Nat.zero_le _⟩ hl.1 rfl (Nat.le_of_ble_eq_true rfl) dX4_times_19 (fun r w9 H locs hp hW => ?_)
          exact ret_i B hr hlk hW (by rw [show st_times σ (nI i) g = ref σ 3 by unfold st_times; rw [cif_f (fun q => hnf q.2)]]; exact hp) dX4_times_22
  · refine n_if_eq (tgt := 16) hx hb (by omega) dX4_times_5 (by decide) (fun hz => ?_) (fun hz => ?_)
    · refine lv_aload_n hx hb dX4_times_16 rfl (lv_at hl 0 rfl) ?_
      refine lv_bipush (v := -3) hx hb dX4_times_17 (by decide) ?_
      refine call_vi B hA hW (0) (by omega) x0 (r := _) rfl rfl (k_refuse l G n ad w hn σ hX (-3) 3 (by decide) (by decide) (by decide) (by decide) (by decide)) mf_X4_refuse hw_152 rfl ⟨⟨rfl, rfl⟩, by decide, by decide⟩ ⟨Nat.zero_le _, Nat.zero_le _⟩ hl.1 rfl (Nat.le_of_ble_eq_true rfl) dX4_times_19 (fun r w9 H locs hp hW => ?_)
      exact ret_i B hr hlk hW (by rw [show st_times σ f g = ref σ 3 by unfold st_times; rw [cif_f (fun q => hnf q.1)]]; exact hp) dX4_times_22
    · exact absurd rfl hz
set_option maxHeartbeats 4000000 in
set_option maxRecDepth 100000 in
theorem k_X4_bracket (l : Launch) (G : zG) (n : Nat) (ad : Nat → Nat) (w : Nat → va_E) (hn : 92 ≤ n) (σ : zS) (hX : XOK G ad w σ) (hs : SOK σ) (f g : Int32) :
    Ci l G yX4_bracket cdX4_bracket (zr 5) n ad w [.ref (ad (0)), .int (f), .int (g)] (postX G ad w (st_bracket σ f g)) := by
  obtain ⟨⟨nf, hB⟩, x0, ⟨f1, x1, v1⟩, ⟨f55, x55⟩, ⟨f56, x56⟩, ⟨f57, x57⟩, ⟨f58, x58, v58⟩, ⟨f59, x59, v59⟩, xf⟩ := id hX
  have hsh := hs.1
  refine ent_i (cc := cX4_bracket) (maxL := 4) (ret := (some .int)) (by decide +kernel) rfl (Nat.le_of_ble_eq_true rfl) ?_
  intro p e s m args below meth c A B hr hlk hA H locs ls hW hl
  have hx := B.1
  have hb := B.2.1
  have hl : lv_has ls 4 [(0, .ref (ad (0))), (1, .int (f)), (2, .int (g))] := hl
  obtain ⟨b2, -⟩ := id hB
  refine lv_aload_n hx hb dX4_bracket_0 rfl (lv_at hl 0 rfl) ?_
  refine lv_iload_n hx hb dX4_bracket_1 rfl (lv_at hl 1 rfl) ?_
  refine call_vi B hA hW (0) (by omega) x0 (r := _) rfl rfl (k_isForm l G n ad w hn σ hX hs f) mf_X4_isForm hw_187 rfl ⟨⟨rfl, rfl⟩, by decide, by decide⟩ ⟨Nat.zero_le _, Nat.zero_le _⟩ hl.1 rfl (Nat.le_of_ble_eq_true rfl) dX4_bracket_2 (fun r w9 H locs hp hW => ?_)
  obtain ⟨e1, hp⟩ := hp
  rw [e1] at hW
  rcases hp with ⟨i, hi, rfl, rfl⟩ | ⟨hnf, rfl⟩
  · obtain ⟨w40_i, w2_i, k4_i, t40_i, r_i, s_i⟩ := hs.2.1 i hi
    obtain ⟨o_i, n_i⟩ := hX.form hs hi
    obtain ⟨f_i, e_i, v_i⟩ := id n_i
    refine n_if_eq (tgt := 16) hx hb (by omega) dX4_bracket_5 (by decide) (fun hz => ?_) (fun hz => ?_)
    · exact absurd hz (by decide)
    · refine lv_aload_n hx hb dX4_bracket_8 rfl (lv_at hl 0 rfl) ?_
      refine lv_iload_n hx hb dX4_bracket_9 rfl (lv_at hl 2 rfl) ?_
      refine call_vi B hA hW (0) (by omega) x0 (r := _) rfl rfl (k_isForm l G n ad w hn σ hX hs g) mf_X4_isForm hw_187 rfl ⟨⟨rfl, rfl⟩, by decide, by decide⟩ ⟨Nat.zero_le _, Nat.zero_le _⟩ hl.1 rfl (Nat.le_of_ble_eq_true rfl) dX4_bracket_10 (fun r w9 H locs hp hW => ?_)
      obtain ⟨e1, hp⟩ := hp
      rw [e1] at hW
      rcases hp with ⟨j, hj, rfl, rfl⟩ | ⟨hnf, rfl⟩
      · obtain ⟨w40_j, w2_j, k4_j, t40_j, r_j, s_j⟩ := hs.2.1 j hj
        obtain ⟨o_j, n_j⟩ := hX.form hs hj
        obtain ⟨f_j, e_j, v_j⟩ := id n_j
        refine n_if_ne (tgt := 23) hx hb (by omega) dX4_bracket_13 (by decide) (fun hz => ?_) (fun hz => ?_)
        · have hS : st_bracket σ (nI i) (nI j) = comeO σ (sW σ i + sW σ j + 2) (brS (sW σ i) (sW σ j) (sE σ i) (sE σ j)) := by
            unfold st_bracket
            rw [cif_t ⟨⟨i, hi, rfl⟩, ⟨j, hj, rfl⟩⟩, cN_nI (by omega), cN_nI (by omega)]
          rw [hS]
          refine lv_aload_n hx hb dX4_bracket_23 rfl (lv_at hl 0 rfl) ?_
          refine z_get B hW (0) (by omega) x0 rfl inX4 0 (by decide) hw_115 rfl (v := .ref (ad (1))) rfl dX4_bracket_24 ?_
          refine lv_iload_n hx hb dX4_bracket_27 rfl (lv_at hl 1 rfl) ?_
          refine z_aald B hW (1) (by omega) x1 (i) (by omega) (by decide) (q := ad (60 + 2 * (i))) (v1 _ (by omega)) dX4_bracket_28 ?_
          refine z_get B hW (60 + 2 * (i)) (by omega) o_i rfl inX1 1 (by decide) hw_103 rfl (v := .int (nI (sW σ i))) rfl dX4_bracket_29 ?_
          refine lv_aload_n hx hb dX4_bracket_32 rfl (lv_at hl 0 rfl) ?_
          refine z_get B hW (0) (by omega) x0 rfl inX4 0 (by decide) hw_115 rfl (v := .ref (ad (1))) rfl dX4_bracket_33 ?_
          refine lv_iload_n hx hb dX4_bracket_36 rfl (lv_at hl 2 rfl) ?_
          refine z_aald B hW (1) (by omega) x1 (j) (by omega) (by decide) (q := ad (60 + 2 * (j))) (v1 _ (by omega)) dX4_bracket_37 ?_
          refine z_get B hW (60 + 2 * (j)) (by omega) o_j rfl inX1 1 (by decide) hw_103 rfl (v := .int (nI (sW σ j))) rfl dX4_bracket_38 ?_
          refine n_iadd hx hb dX4_bracket_41 ?_
          refine lv_iconst (v := nI 2) hx hb dX4_bracket_42 (by decide) ?_
          refine n_iadd hx hb dX4_bracket_43 ?_
          refine lv_istore_n (lv' := [(3, .int (nI (((sW σ i) + (sW σ j)) + 2))), (0, .ref (ad (0))), (1, .int (nI (i))), (2, .int (nI (j)))]) hx hb dX4_bracket_44 rfl hl (by decide) rfl (fun ls hl => ?_)
          refine lv_aload_n hx hb dX4_bracket_45 rfl (lv_at hl 1 rfl) ?_
          refine lv_iload_n hx hb dX4_bracket_46 rfl (lv_at hl 0 rfl) ?_
          refine call_vi B hA hW (0) (by omega) x0 (r := _) rfl rfl (k_hasRoom l G n ad w hn σ hX hs (sW σ i + sW σ j + 2) (by omega)) mf_X4_hasRoom hw_159 rfl ⟨⟨rfl, rfl⟩, by decide, by decide⟩ ⟨Nat.zero_le _, Nat.zero_le _⟩ hl.1 rfl (Nat.le_of_ble_eq_true rfl) dX4_bracket_47 (fun r w9 H locs hp hW => ?_)
          obtain ⟨e1, hp⟩ := hp
          rw [e1] at hW
          rcases hp with ⟨hh, hk40, rfl⟩ | ⟨hnr, rfl⟩
          · obtain ⟨xa, ya, za, fa, g1, g2⟩ := hX.free hh
            refine n_if_ne (tgt := 60) hx hb (by omega) dX4_bracket_50 (by decide) (fun hz => ?_) (fun hz => ?_)
            · refine lv_aload_n hx hb dX4_bracket_60 rfl (lv_at hl 1 rfl) ?_
              refine z_get B hW (0) (by omega) x0 rfl inX4 0 (by decide) hw_115 rfl (v := .ref (ad (1))) rfl dX4_bracket_61 ?_
              refine lv_iload_n hx hb dX4_bracket_64 rfl (lv_at hl 2 rfl) ?_
              refine z_aald B hW (1) (by omega) x1 (i) (by omega) (by decide) (q := ad (60 + 2 * (i))) (v1 _ (by omega)) dX4_bracket_65 ?_
              refine lv_aload_n hx hb dX4_bracket_66 rfl (lv_at hl 1 rfl) ?_
              refine z_get B hW (0) (by omega) x0 rfl inX4 0 (by decide) hw_115 rfl (v := .ref (ad (1))) rfl dX4_bracket_67 ?_
              refine lv_iload_n hx hb dX4_bracket_70 rfl (lv_at hl 3 rfl) ?_
              refine z_aald B hW (1) (by omega) x1 (j) (by omega) (by decide) (q := ad (60 + 2 * (j))) (v1 _ (by omega)) dX4_bracket_71 ?_
              refine lv_aload_n hx hb dX4_bracket_72 rfl (lv_at hl 1 rfl) ?_
              refine z_get B hW (0) (by omega) x0 rfl inX4 0 (by decide) hw_115 rfl (v := .ref (ad (1))) rfl dX4_bracket_73 ?_
              refine lv_aload_n hx hb dX4_bracket_76 rfl (lv_at hl 1 rfl) ?_
              refine z_get B hW (0) (by omega) x0 rfl inX4 1 (by decide) hw_116 rfl (v := .int (nI (sH σ))) rfl dX4_bracket_77 ?_
              refine z_aald B hW (1) (by omega) x1 (sH σ) (by omega) (by decide) (q := ad (60 + 2 * (sH σ))) (v1 _ (by omega)) dX4_bracket_80 ?_
              refine z_get B hW (60 + 2 * (sH σ)) (by omega) g1 rfl inX1 0 (by decide) hw_101 rfl (v := .ref (ad (61 + 2 * (sH σ)))) rfl dX4_bracket_81 ?_
              refine call_sv B hA hW (k_putBracket l G n ad w (60 + 2 * i) (60 + 2 * j) (61 + 2 * i) (61 + 2 * j) (61 + 2 * sH σ) (sW σ i) (sW σ j) (nI (sK σ i)) (nI (sT σ i)) (nI (sK σ j)) (nI (sT σ j)) (sE σ i) (sE σ j) (by omega) (by omega) (by omega) (by omega) (by omega) w40_i w40_j o_i o_j n_i n_j r_i.s r_j.s ⟨_, g2⟩ (by omega) (by omega) (by omega) (by omega)) mf_X1_putBracket hw_214 rfl ⟨⟨rfl, rfl⟩, by decide, by decide⟩ ⟨Nat.zero_le _, Nat.zero_le _⟩ hl.1 rfl (Nat.le_of_ble_eq_true rfl) dX4_bracket_84 (fun w2 H locs hp hW => ?_)
              have hX2 : XOK G ad w2 σ := hX.num ⟨_, hp.2.choose_spec.1⟩ hp.1
              refine lv_aload_n hx hb dX4_bracket_87 rfl (lv_at hl 1 rfl) ?_
              refine lv_iload_n hx hb dX4_bracket_88 rfl (lv_at hl 0 rfl) ?_
              refine call_vi B hA hW (0) (by omega) hX2.2.1 (r := _) rfl rfl (k_comeOfOthers l G n ad w2 hn σ hX2 hs hh (sW σ i + sW σ j + 2) hk40 (brS (sW σ i) (sW σ j) (sE σ i) (sE σ j)) hp.2 (Nat.mod_lt _ (by decide))) mf_X4_comeOfOthers hw_192 rfl ⟨⟨rfl, rfl⟩, by decide, by decide⟩ ⟨Nat.zero_le _, Nat.zero_le _⟩ hl.1 rfl (Nat.le_of_ble_eq_true rfl) dX4_bracket_89 (fun r w9 H locs hp9 hW => ?_)
              exact ret_i B hr hlk hW ⟨hp9.1, hp9.2.1, fun j hj => (hp9.2.2 j hj).trans (hp.1 j (by omega))⟩ dX4_bracket_92
            · exact absurd hz (by decide)
          · refine n_if_ne (tgt := 60) hx hb (by omega) dX4_bracket_50 (by decide) (fun hz => ?_) (fun hz => ?_)
            · exact absurd rfl hz
            · refine lv_aload_n hx hb dX4_bracket_53 rfl (lv_at hl 1 rfl) ?_
              refine lv_bipush (v := -8) hx hb dX4_bracket_54 (by decide) ?_
              refine call_vi B hA hW (0) (by omega) x0 (r := _) rfl rfl (k_refuse l G n ad w hn σ hX (-8) 8 (by decide) (by decide) (by decide) (by decide) (by decide)) mf_X4_refuse hw_152 rfl ⟨⟨rfl, rfl⟩, by decide, by decide⟩ ⟨Nat.zero_le _, Nat.zero_le _⟩ hl.1 rfl (Nat.le_of_ble_eq_true rfl) dX4_bracket_56 (fun r w9 H locs hp hW => ?_)
              exact ret_i B hr hlk hW (by rw [comeO_full hnr]; exact hp) dX4_bracket_59
        · exact absurd hz (by decide)
      · refine n_if_ne (tgt := 23) hx hb (by omega) dX4_bracket_13 (by decide) (fun hz => ?_) (fun hz => ?_)
        · exact absurd rfl hz
        · refine lv_aload_n hx hb dX4_bracket_16 rfl (lv_at hl 0 rfl) ?_
          refine lv_bipush (v := -3) hx hb dX4_bracket_17 (by decide) ?_
          refine call_vi B hA hW (0) (by omega) x0 (r := _) rfl rfl (k_refuse l G n ad w hn σ hX (-3) 3 (by decide) (by decide) (by decide) (by decide) (by decide)) mf_X4_refuse hw_152 rfl ⟨⟨rfl, rfl⟩, by decide, by decide⟩ ⟨Nat.zero_le _, Nat.zero_le _⟩ hl.1 rfl (Nat.le_of_ble_eq_true rfl) dX4_bracket_19 (fun r w9 H locs hp hW => ?_)
          exact ret_i B hr hlk hW (by rw [show st_bracket σ (nI i) g = ref σ 3 by unfold st_bracket; rw [cif_f (fun q => hnf q.2)]]; exact hp) dX4_bracket_22
  · refine n_if_eq (tgt := 16) hx hb (by omega) dX4_bracket_5 (by decide) (fun hz => ?_) (fun hz => ?_)
    · refine lv_aload_n hx hb dX4_bracket_16 rfl (lv_at hl 0 rfl) ?_
      refine lv_bipush (v := -3) hx hb dX4_bracket_17 (by decide) ?_
      refine call_vi B hA hW (0) (by omega) x0 (r := _) rfl rfl (k_refuse l G n ad w hn σ hX (-3) 3 (by decide) (by decide) (by decide) (by decide) (by decide)) mf_X4_refuse hw_152 rfl ⟨⟨rfl, rfl⟩, by decide, by decide⟩ ⟨Nat.zero_le _, Nat.zero_le _⟩ hl.1 rfl (Nat.le_of_ble_eq_true rfl) dX4_bracket_19 (fun r w9 H locs hp hW => ?_)
      exact ret_i B hr hlk hW (by rw [show st_bracket σ f g = ref σ 3 by unfold st_bracket; rw [cif_f (fun q => hnf q.1)]]; exact hp) dX4_bracket_22
    · exact absurd rfl hz
set_option maxHeartbeats 4000000 in
set_option maxRecDepth 100000 in
theorem k_X4_power (l : Launch) (G : zG) (n : Nat) (ad : Nat → Nat) (w : Nat → va_E) (hn : 92 ≤ n) (σ : zS) (hX : XOK G ad w σ) (hs : SOK σ) (f x : Int32) :
    Ci l G yX4_power cdX4_power (zr 5) n ad w [.ref (ad (0)), .int (f), .int (x)] (postX G ad w (st_power σ f x)) := by
  obtain ⟨⟨nf, hB⟩, x0, ⟨f1, x1, v1⟩, ⟨f55, x55⟩, ⟨f56, x56⟩, ⟨f57, x57⟩, ⟨f58, x58, v58⟩, ⟨f59, x59, v59⟩, xf⟩ := id hX
  have hsh := hs.1
  refine ent_i (cc := cX4_power) (maxL := 4) (ret := (some .int)) (by decide +kernel) rfl (Nat.le_of_ble_eq_true rfl) ?_
  intro p e s m args below meth c A B hr hlk hA H locs ls hW hl
  have hx := B.1
  have hb := B.2.1
  have hl : lv_has ls 4 [(0, .ref (ad (0))), (1, .int (f)), (2, .int (x))] := hl
  obtain ⟨b2, -⟩ := id hB
  refine lv_aload_n hx hb dX4_power_0 rfl (lv_at hl 0 rfl) ?_
  refine lv_iload_n hx hb dX4_power_1 rfl (lv_at hl 1 rfl) ?_
  refine call_vi B hA hW (0) (by omega) x0 (r := _) rfl rfl (k_isForm l G n ad w hn σ hX hs f) mf_X4_isForm hw_187 rfl ⟨⟨rfl, rfl⟩, by decide, by decide⟩ ⟨Nat.zero_le _, Nat.zero_le _⟩ hl.1 rfl (Nat.le_of_ble_eq_true rfl) dX4_power_2 (fun r w9 H locs hp hW => ?_)
  obtain ⟨e1, hp⟩ := hp
  rw [e1] at hW
  rcases hp with ⟨i, hi, rfl, rfl⟩ | ⟨hnf, rfl⟩
  · obtain ⟨w40_i, w2_i, k4_i, t40_i, r_i, s_i⟩ := hs.2.1 i hi
    obtain ⟨o_i, n_i⟩ := hX.form hs hi
    obtain ⟨f_i, e_i, v_i⟩ := id n_i
    refine n_if_ne (tgt := 15) hx hb (by omega) dX4_power_5 (by decide) (fun hz => ?_) (fun hz => ?_)
    · refine lv_iload_n hx hb dX4_power_15 rfl (lv_at hl 2 rfl) ?_
      refine lv_if_ge (tgt := 26) hx hb dX4_power_16 (by decide) (fun hc => ?_) (fun hc => ?_)
      · have hnl : ¬ x < 0 := Int32.not_lt.mpr hc
        obtain ⟨e9, he9, rfl⟩ := nI_of hnl
        refine lv_iload_n hx hb dX4_power_26 rfl (lv_at hl 2 rfl) ?_
        refine lv_bipush (v := nI 20) hx hb dX4_power_27 (by decide) ?_
        refine n_icmp_le (tgt := 39) hx hb (by omega) (by omega) dX4_power_29 (by decide) (fun hd => ?_) (fun hd => ?_)
        · have hS : st_power σ (nI i) (nI e9) = comeO σ (sW σ i * e9) (powS (sE σ i) e9) := by
            unfold st_power
            rw [cif_t ⟨i, hi, rfl⟩, cif_f hnl, cN_nI he9, cif_f (by omega), cN_nI (by omega)]
          rw [hS]
          have hmu : sW σ i * e9 ≤ 40 * 20 := Nat.mul_le_mul w40_i hd
          refine lv_aload_n hx hb dX4_power_39 rfl (lv_at hl 0 rfl) ?_
          refine z_get B hW (0) (by omega) x0 rfl inX4 0 (by decide) hw_115 rfl (v := .ref (ad (1))) rfl dX4_power_40 ?_
          refine lv_iload_n hx hb dX4_power_43 rfl (lv_at hl 1 rfl) ?_
          refine z_aald B hW (1) (by omega) x1 (i) (by omega) (by decide) (q := ad (60 + 2 * (i))) (v1 _ (by omega)) dX4_power_44 ?_
          refine z_get B hW (60 + 2 * (i)) (by omega) o_i rfl inX1 1 (by decide) hw_103 rfl (v := .int (nI (sW σ i))) rfl dX4_power_45 ?_
          refine lv_iload_n hx hb dX4_power_48 rfl (lv_at hl 2 rfl) ?_
          refine n_imul hx hb dX4_power_49 ?_
          refine lv_istore_n (lv' := [(3, .int (nI ((sW σ i) * e9))), (0, .ref (ad (0))), (1, .int (nI (i))), (2, .int (nI (e9)))]) hx hb dX4_power_50 rfl hl (by decide) rfl (fun ls hl => ?_)
          refine lv_aload_n hx hb dX4_power_51 rfl (lv_at hl 1 rfl) ?_
          refine lv_iload_n hx hb dX4_power_52 rfl (lv_at hl 0 rfl) ?_
          refine call_vi B hA hW (0) (by omega) x0 (r := _) rfl rfl (k_hasRoom l G n ad w hn σ hX hs (sW σ i * e9) (by omega)) mf_X4_hasRoom hw_159 rfl ⟨⟨rfl, rfl⟩, by decide, by decide⟩ ⟨Nat.zero_le _, Nat.zero_le _⟩ hl.1 rfl (Nat.le_of_ble_eq_true rfl) dX4_power_53 (fun r w9 H locs hp hW => ?_)
          obtain ⟨e1, hp⟩ := hp
          rw [e1] at hW
          rcases hp with ⟨hh, hk40, rfl⟩ | ⟨hnr, rfl⟩
          · obtain ⟨xa, ya, za, fa, g1, g2⟩ := hX.free hh
            refine n_if_ne (tgt := 66) hx hb (by omega) dX4_power_56 (by decide) (fun hz => ?_) (fun hz => ?_)
            · refine lv_aload_n hx hb dX4_power_66 rfl (lv_at hl 1 rfl) ?_
              refine z_get B hW (0) (by omega) x0 rfl inX4 0 (by decide) hw_115 rfl (v := .ref (ad (1))) rfl dX4_power_67 ?_
              refine lv_iload_n hx hb dX4_power_70 rfl (lv_at hl 2 rfl) ?_
              refine z_aald B hW (1) (by omega) x1 (i) (by omega) (by decide) (q := ad (60 + 2 * (i))) (v1 _ (by omega)) dX4_power_71 ?_
              refine z_get B hW (60 + 2 * (i)) (by omega) o_i rfl inX1 0 (by decide) hw_101 rfl (v := .ref (ad (61 + 2 * (i)))) rfl dX4_power_72 ?_
              refine lv_iload_n hx hb dX4_power_75 rfl (lv_at hl 3 rfl) ?_
              refine lv_aload_n hx hb dX4_power_76 rfl (lv_at hl 1 rfl) ?_
              refine z_get B hW (0) (by omega) x0 rfl inX4 0 (by decide) hw_115 rfl (v := .ref (ad (1))) rfl dX4_power_77 ?_
              refine lv_aload_n hx hb dX4_power_80 rfl (lv_at hl 1 rfl) ?_
              refine z_get B hW (0) (by omega) x0 rfl inX4 1 (by decide) hw_116 rfl (v := .int (nI (sH σ))) rfl dX4_power_81 ?_
              refine z_aald B hW (1) (by omega) x1 (sH σ) (by omega) (by decide) (q := ad (60 + 2 * (sH σ))) (v1 _ (by omega)) dX4_power_84 ?_
              refine z_get B hW (60 + 2 * (sH σ)) (by omega) g1 rfl inX1 0 (by decide) hw_101 rfl (v := .ref (ad (61 + 2 * (sH σ)))) rfl dX4_power_85 ?_
              refine call_sv B hA hW (k_raise l G n ad w (61 + 2 * i) (61 + 2 * sH σ) e9 (sE σ i) (by omega) (by omega) (by omega) (by omega) n_i r_i ⟨_, g2⟩) mf_X3_raise hw_182 rfl ⟨⟨rfl, rfl⟩, by decide, by decide⟩ ⟨Nat.zero_le _, Nat.zero_le _⟩ hl.1 rfl (Nat.le_of_ble_eq_true rfl) dX4_power_88 (fun w2 H locs hp hW => ?_)
              have hX2 : XOK G ad w2 σ := hX.num ⟨_, hp.2.choose_spec.1⟩ hp.1
              refine lv_aload_n hx hb dX4_power_91 rfl (lv_at hl 1 rfl) ?_
              refine lv_iload_n hx hb dX4_power_92 rfl (lv_at hl 0 rfl) ?_
              refine call_vi B hA hW (0) (by omega) hX2.2.1 (r := _) rfl rfl (k_comeOfOthers l G n ad w2 hn σ hX2 hs hh (sW σ i * e9) hk40 (powS (sE σ i) e9) hp.2 (red_pow _ _ _)) mf_X4_comeOfOthers hw_192 rfl ⟨⟨rfl, rfl⟩, by decide, by decide⟩ ⟨Nat.zero_le _, Nat.zero_le _⟩ hl.1 rfl (Nat.le_of_ble_eq_true rfl) dX4_power_93 (fun r w9 H locs hp9 hW => ?_)
              exact ret_i B hr hlk hW ⟨hp9.1, hp9.2.1, fun j hj => (hp9.2.2 j hj).trans (hp.1 j (by omega))⟩ dX4_power_96
            · exact absurd hz (by decide)
          · refine n_if_ne (tgt := 66) hx hb (by omega) dX4_power_56 (by decide) (fun hz => ?_) (fun hz => ?_)
            · exact absurd rfl hz
            · refine lv_aload_n hx hb dX4_power_59 rfl (lv_at hl 1 rfl) ?_
              refine lv_bipush (v := -8) hx hb dX4_power_60 (by decide) ?_
              refine call_vi B hA hW (0) (by omega) x0 (r := _) rfl rfl (k_refuse l G n ad w hn σ hX (-8) 8 (by decide) (by decide) (by decide) (by decide) (by decide)) mf_X4_refuse hw_152 rfl ⟨⟨rfl, rfl⟩, by decide, by decide⟩ ⟨Nat.zero_le _, Nat.zero_le _⟩ hl.1 rfl (Nat.le_of_ble_eq_true rfl) dX4_power_62 (fun r w9 H locs hp hW => ?_)
              exact ret_i B hr hlk hW (by rw [comeO_full hnr]; exact hp) dX4_power_65
        · refine lv_aload_n hx hb dX4_power_32 rfl (lv_at hl 0 rfl) ?_
          refine lv_bipush (v := -7) hx hb dX4_power_33 (by decide) ?_
          refine call_vi B hA hW (0) (by omega) x0 (r := _) rfl rfl (k_refuse l G n ad w hn σ hX (-7) 7 (by decide) (by decide) (by decide) (by decide) (by decide)) mf_X4_refuse hw_152 rfl ⟨⟨rfl, rfl⟩, by decide, by decide⟩ ⟨Nat.zero_le _, Nat.zero_le _⟩ hl.1 rfl (Nat.le_of_ble_eq_true rfl) dX4_power_35 (fun r w9 H locs hp hW => ?_)
          exact ret_i B hr hlk hW (by rw [show st_power σ (nI i) (nI e9) = ref σ 7 by unfold st_power; rw [cif_t ⟨i, hi, rfl⟩, cif_f hnl, cN_nI he9, cif_t (by omega)]]; exact hp) dX4_power_38
      · refine lv_aload_n hx hb dX4_power_19 rfl (lv_at hl 0 rfl) ?_
        refine lv_bipush (v := -4) hx hb dX4_power_20 (by decide) ?_
        refine call_vi B hA hW (0) (by omega) x0 (r := _) rfl rfl (k_refuse l G n ad w hn σ hX (-4) 4 (by decide) (by decide) (by decide) (by decide) (by decide)) mf_X4_refuse hw_152 rfl ⟨⟨rfl, rfl⟩, by decide, by decide⟩ ⟨Nat.zero_le _, Nat.zero_le _⟩ hl.1 rfl (Nat.le_of_ble_eq_true rfl) dX4_power_22 (fun r w9 H locs hp hW => ?_)
        exact ret_i B hr hlk hW (by rw [show st_power σ (nI i) x = ref σ 4 by unfold st_power; rw [cif_t ⟨i, hi, rfl⟩, cif_t (Int32.not_le.mp hc)]]; exact hp) dX4_power_25
    · exact absurd hz (by decide)
  · refine n_if_ne (tgt := 15) hx hb (by omega) dX4_power_5 (by decide) (fun hz => ?_) (fun hz => ?_)
    · exact absurd rfl hz
    · refine lv_aload_n hx hb dX4_power_8 rfl (lv_at hl 0 rfl) ?_
      refine lv_bipush (v := -3) hx hb dX4_power_9 (by decide) ?_
      refine call_vi B hA hW (0) (by omega) x0 (r := _) rfl rfl (k_refuse l G n ad w hn σ hX (-3) 3 (by decide) (by decide) (by decide) (by decide) (by decide)) mf_X4_refuse hw_152 rfl ⟨⟨rfl, rfl⟩, by decide, by decide⟩ ⟨Nat.zero_le _, Nat.zero_le _⟩ hl.1 rfl (Nat.le_of_ble_eq_true rfl) dX4_power_11 (fun r w9 H locs hp hW => ?_)
      exact ret_i B hr hlk hW (by rw [show st_power σ f x = ref σ 3 by unfold st_power; rw [cif_f hnf]]; exact hp) dX4_power_14
set_option maxHeartbeats 4000000 in
set_option maxRecDepth 100000 in
theorem k_X4_product (l : Launch) (G : zG) (n : Nat) (ad : Nat → Nat) (w : Nat → va_E) (hn : 92 ≤ n) (σ : zS) (hX : XOK G ad w σ) (hs : SOK σ) (x : Int32) :
    Ci l G yX4_product cdX4_product (zr 5) n ad w [.ref (ad (0)), .int (x)] (postX G ad w (st_product σ x)) := by
  obtain ⟨⟨nf, hB⟩, x0, ⟨f1, x1, v1⟩, ⟨f55, x55⟩, ⟨f56, x56⟩, ⟨f57, x57⟩, ⟨f58, x58, v58⟩, ⟨f59, x59, v59⟩, xf⟩ := id hX
  have hsh := hs.1
  refine ent_i (cc := cX4_product) (maxL := 3) (ret := (some .int)) (by decide +kernel) rfl (Nat.le_of_ble_eq_true rfl) ?_
  intro p e s m args below meth c A B hr hlk hA H locs ls hW hl
  have hx := B.1
  have hb := B.2.1
  have hl : lv_has ls 3 [(0, .ref (ad (0))), (1, .int (x))] := hl
  obtain ⟨b2, -⟩ := id hB
  refine lv_iload_n hx hb dX4_product_0 rfl (lv_at hl 1 rfl) ?_
  refine lv_iconst (v := nI 1) hx hb dX4_product_1 (by decide) ?_
  refine lv_icmp_lt (tgt := 10) hx hb dX4_product_2 (by decide) (fun hc => ?_) (fun hc => ?_)
  · refine lv_aload_n hx hb dX4_product_10 rfl (lv_at hl 0 rfl) ?_
    refine lv_bipush (v := -7) hx hb dX4_product_11 (by decide) ?_
    refine call_vi B hA hW (0) (by omega) x0 (r := _) rfl rfl (k_refuse l G n ad w hn σ hX (-7) 7 (by decide) (by decide) (by decide) (by decide) (by decide)) mf_X4_refuse hw_152 rfl ⟨⟨rfl, rfl⟩, by decide, by decide⟩ ⟨Nat.zero_le _, Nat.zero_le _⟩ hl.1 rfl (Nat.le_of_ble_eq_true rfl) dX4_product_13 (fun r w9 H locs hp hW => ?_)
    exact ret_i B hr hlk hW (by rw [show st_product σ x = ref σ 7 by unfold st_product; rw [cif_f (fun ⟨e9, q1, q2, q3⟩ => by rw [q3, nI_ltI (by omega) (by omega)] at hc; omega)]]; exact hp) dX4_product_16
  · have hnl : ¬ x < 0 := fun q => hc (by rw [Int32.lt_iff_toInt_lt] at q ⊢; have e1 : (nI 1).toInt = 1 := rfl; have e0 : (0 : Int32).toInt = 0 := rfl; omega)
    obtain ⟨e9, he9, rfl⟩ := nI_of hnl
    have h1e : 1 ≤ e9 := by rw [nI_ltI he9 (by omega)] at hc; omega
    refine lv_iload_n hx hb dX4_product_5 rfl (lv_at hl 1 rfl) ?_
    refine lv_iconst (v := nI 3) hx hb dX4_product_6 (by decide) ?_
    refine n_icmp_le (tgt := 17) hx hb (by omega) (by omega) dX4_product_7 (by decide) (fun hd => ?_) (fun hd => ?_)
    · have hS : st_product σ (nI e9) = come σ (12 * e9) 2 e9 (powS dS e9) := by
        unfold st_product
        rw [cif_t ⟨e9, h1e, hd, rfl⟩, cN_nI he9]
      rw [hS]
      refine lv_bipush (v := nI 12) hx hb dX4_product_17 (by decide) ?_
      refine lv_iload_n hx hb dX4_product_19 rfl (lv_at hl 1 rfl) ?_
      refine n_imul hx hb dX4_product_20 ?_
      refine lv_istore_n (lv' := [(2, .int (nI (12 * e9))), (0, .ref (ad (0))), (1, .int (nI (e9)))]) hx hb dX4_product_21 rfl hl (by decide) rfl (fun ls hl => ?_)
      refine lv_aload_n hx hb dX4_product_22 rfl (lv_at hl 1 rfl) ?_
      refine lv_iload_n hx hb dX4_product_23 rfl (lv_at hl 0 rfl) ?_
      refine call_vi B hA hW (0) (by omega) x0 (r := _) rfl rfl (k_hasRoom l G n ad w hn σ hX hs (12 * e9) (by omega)) mf_X4_hasRoom hw_159 rfl ⟨⟨rfl, rfl⟩, by decide, by decide⟩ ⟨Nat.zero_le _, Nat.zero_le _⟩ hl.1 rfl (Nat.le_of_ble_eq_true rfl) dX4_product_24 (fun r w9 H locs hp hW => ?_)
      obtain ⟨e1, hp⟩ := hp
      rw [e1] at hW
      rcases hp with ⟨hh, hk40, rfl⟩ | ⟨hnr, rfl⟩
      · obtain ⟨xa, ya, za, fa, g1, g2⟩ := hX.free hh
        refine n_if_ne (tgt := 37) hx hb (by omega) dX4_product_27 (by decide) (fun hz => ?_) (fun hz => ?_)
        · rw [come_ok hh hk40]
          obtain ⟨-, -, hD, -⟩ := id hB
          refine lv_aload_n hx hb dX4_product_37 rfl (lv_at hl 1 rfl) ?_
          refine z_get B hW (0) (by omega) x0 rfl inX4 2 (by decide) hw_117 rfl (v := .ref (ad (2))) rfl dX4_product_38 ?_
          refine z_get B hW (2) (by omega) b2 rfl inX0 1 (by decide) hw_69 rfl (v := .ref (ad (5))) rfl dX4_product_41 ?_
          refine lv_iload_n hx hb dX4_product_44 rfl (lv_at hl 2 rfl) ?_
          refine lv_aload_n hx hb dX4_product_45 rfl (lv_at hl 1 rfl) ?_
          refine z_get B hW (0) (by omega) x0 rfl inX4 0 (by decide) hw_115 rfl (v := .ref (ad (1))) rfl dX4_product_46 ?_
          refine lv_aload_n hx hb dX4_product_49 rfl (lv_at hl 1 rfl) ?_
          refine z_get B hW (0) (by omega) x0 rfl inX4 1 (by decide) hw_116 rfl (v := .int (nI (sH σ))) rfl dX4_product_50 ?_
          refine z_aald B hW (1) (by omega) x1 (sH σ) (by omega) (by decide) (q := ad (60 + 2 * (sH σ))) (v1 _ (by omega)) dX4_product_53 ?_
          refine z_get B hW (60 + 2 * (sH σ)) (by omega) g1 rfl inX1 0 (by decide) hw_101 rfl (v := .ref (ad (61 + 2 * (sH σ)))) rfl dX4_product_54 ?_
          refine call_sv B hA hW (k_raise l G n ad w 5 (61 + 2 * sH σ) e9 dS (by omega) (by omega) (by omega) (by omega) hD (red_mul _ _) ⟨_, g2⟩) mf_X3_raise hw_182 rfl ⟨⟨rfl, rfl⟩, by decide, by decide⟩ ⟨Nat.zero_le _, Nat.zero_le _⟩ hl.1 rfl (Nat.le_of_ble_eq_true rfl) dX4_product_57 (fun w2 H locs hp hW => ?_)
          have hX2 : XOK G ad w2 σ := hX.num ⟨_, hp.2.choose_spec.1⟩ hp.1
          refine lv_aload_n hx hb dX4_product_60 rfl (lv_at hl 1 rfl) ?_
          refine lv_iconst (v := nI 2) hx hb dX4_product_61 (by decide) ?_
          refine lv_iload_n hx hb dX4_product_62 rfl (lv_at hl 0 rfl) ?_
          refine lv_iload_n hx hb dX4_product_63 rfl (lv_at hl 2 rfl) ?_
          refine call_vi B hA hW (0) (by omega) hX2.2.1 (r := _) rfl rfl (k_comeAsTold l G n ad w2 hn σ hX2 hs hh 2 (12 * e9) e9 (powS dS e9) hp.2) mf_X4_comeAsTold hw_174 rfl ⟨⟨rfl, rfl⟩, by decide, by decide⟩ ⟨Nat.zero_le _, Nat.zero_le _⟩ hl.1 rfl (Nat.le_of_ble_eq_true rfl) dX4_product_64 (fun r w9 H locs hp9 hW => ?_)
          exact ret_i B hr hlk hW ⟨hp9.1, hp9.2.1, fun j hj => (hp9.2.2 j hj).trans (hp.1 j (by omega))⟩ dX4_product_67
        · exact absurd hz (by decide)
      · refine n_if_ne (tgt := 37) hx hb (by omega) dX4_product_27 (by decide) (fun hz => ?_) (fun hz => ?_)
        · exact absurd rfl hz
        · refine lv_aload_n hx hb dX4_product_30 rfl (lv_at hl 1 rfl) ?_
          refine lv_bipush (v := -8) hx hb dX4_product_31 (by decide) ?_
          refine call_vi B hA hW (0) (by omega) x0 (r := _) rfl rfl (k_refuse l G n ad w hn σ hX (-8) 8 (by decide) (by decide) (by decide) (by decide) (by decide)) mf_X4_refuse hw_152 rfl ⟨⟨rfl, rfl⟩, by decide, by decide⟩ ⟨Nat.zero_le _, Nat.zero_le _⟩ hl.1 rfl (Nat.le_of_ble_eq_true rfl) dX4_product_33 (fun r w9 H locs hp hW => ?_)
          exact ret_i B hr hlk hW (by rw [come_full hnr]; exact hp) dX4_product_36
    · refine lv_aload_n hx hb dX4_product_10 rfl (lv_at hl 0 rfl) ?_
      refine lv_bipush (v := -7) hx hb dX4_product_11 (by decide) ?_
      refine call_vi B hA hW (0) (by omega) x0 (r := _) rfl rfl (k_refuse l G n ad w hn σ hX (-7) 7 (by decide) (by decide) (by decide) (by decide) (by decide)) mf_X4_refuse hw_152 rfl ⟨⟨rfl, rfl⟩, by decide, by decide⟩ ⟨Nat.zero_le _, Nat.zero_le _⟩ hl.1 rfl (Nat.le_of_ble_eq_true rfl) dX4_product_13 (fun r w9 H locs hp hW => ?_)
      exact ret_i B hr hlk hW (by rw [show st_product σ (nI e9) = ref σ 7 by unfold st_product; rw [cif_f (fun ⟨q, q1, q2, q3⟩ => by have := (nI_eq he9 (by omega)).mp q3; omega)]]; exact hp) dX4_product_16
set_option maxHeartbeats 4000000 in
set_option maxRecDepth 100000 in
theorem k_X4_at (l : Launch) (G : zG) (n : Nat) (ad : Nat → Nat) (w : Nat → va_E) (hn : 92 ≤ n) (σ : zS) (hX : XOK G ad w σ) (hs : SOK σ) (f x : Int32) :
    Ci l G yX4_at cdX4_at (zr 5) n ad w [.ref (ad (0)), .int (f), .int (x)] (postX G ad w (st_at σ f x)) := by
  obtain ⟨⟨nf, hB⟩, x0, ⟨f1, x1, v1⟩, ⟨f55, x55⟩, ⟨f56, x56⟩, ⟨f57, x57⟩, ⟨f58, x58, v58⟩, ⟨f59, x59, v59⟩, xf⟩ := id hX
  have hsh := hs.1
  refine ent_i (cc := cX4_at) (maxL := 3) (ret := (some .int)) (by decide +kernel) rfl (Nat.le_of_ble_eq_true rfl) ?_
  intro p e s m args below meth c A B hr hlk hA H locs ls hW hl
  have hx := B.1
  have hb := B.2.1
  have hl : lv_has ls 3 [(0, .ref (ad (0))), (1, .int (f)), (2, .int (x))] := hl
  obtain ⟨b2, -⟩ := id hB
  refine lv_aload_n hx hb dX4_at_0 rfl (lv_at hl 0 rfl) ?_
  refine lv_iload_n hx hb dX4_at_1 rfl (lv_at hl 1 rfl) ?_
  refine call_vi B hA hW (0) (by omega) x0 (r := _) rfl rfl (k_isForm l G n ad w hn σ hX hs f) mf_X4_isForm hw_187 rfl ⟨⟨rfl, rfl⟩, by decide, by decide⟩ ⟨Nat.zero_le _, Nat.zero_le _⟩ hl.1 rfl (Nat.le_of_ble_eq_true rfl) dX4_at_2 (fun r w9 H locs hp hW => ?_)
  obtain ⟨e1, hp⟩ := hp
  rw [e1] at hW
  rcases hp with ⟨i, hi, rfl, rfl⟩ | ⟨hnf, rfl⟩
  · obtain ⟨w40_i, w2_i, k4_i, t40_i, r_i, s_i⟩ := hs.2.1 i hi
    obtain ⟨o_i, n_i⟩ := hX.form hs hi
    obtain ⟨f_i, e_i, v_i⟩ := id n_i
    refine n_if_eq (tgt := 18) hx hb (by omega) dX4_at_5 (by decide) (fun hz => ?_) (fun hz => ?_)
    · exact absurd hz (by decide)
    · refine lv_iload_n hx hb dX4_at_8 rfl (lv_at hl 2 rfl) ?_
      refine lv_if_lt (tgt := 18) hx hb dX4_at_9 (by decide) (fun hc => ?_) (fun hc => ?_)
      · refine lv_aload_n hx hb dX4_at_18 rfl (lv_at hl 0 rfl) ?_
        refine lv_bipush (v := -3) hx hb dX4_at_19 (by decide) ?_
        refine call_vi B hA hW (0) (by omega) x0 (r := _) rfl rfl (k_refuse l G n ad w hn σ hX (-3) 3 (by decide) (by decide) (by decide) (by decide) (by decide)) mf_X4_refuse hw_152 rfl ⟨⟨rfl, rfl⟩, by decide, by decide⟩ ⟨Nat.zero_le _, Nat.zero_le _⟩ hl.1 rfl (Nat.le_of_ble_eq_true rfl) dX4_at_21 (fun r w9 H locs hp hW => ?_)
        exact ret_i B hr hlk hW (by rw [show st_at σ (nI i) x = ref σ 3 by unfold st_at; rw [cif_f (fun ⟨_, ⟨q, q1, q2⟩⟩ => nI_pos (by omega) (q2 ▸ hc))]]; exact hp) dX4_at_24
      · obtain ⟨q9, hq9, rfl⟩ := nI_of hc
        refine lv_iload_n hx hb dX4_at_12 rfl (lv_at hl 2 rfl) ?_
        refine lv_bipush (v := nI 48) hx hb dX4_at_13 (by decide) ?_
        refine n_icmp_lt (tgt := 25) hx hb (by omega) (by omega) dX4_at_15 (by decide) (fun hd => ?_) (fun hd => ?_)
        · refine lv_aload_n hx hb dX4_at_25 rfl (lv_at hl 0 rfl) ?_
          refine z_get B hW (0) (by omega) x0 rfl inX4 0 (by decide) hw_115 rfl (v := .ref (ad (1))) rfl dX4_at_26 ?_
          refine lv_iload_n hx hb dX4_at_29 rfl (lv_at hl 1 rfl) ?_
          refine z_aald B hW (1) (by omega) x1 (i) (by omega) (by decide) (q := ad (60 + 2 * (i))) (v1 _ (by omega)) dX4_at_30 ?_
          refine z_get B hW (60 + 2 * (i)) (by omega) o_i rfl inX1 0 (by decide) hw_101 rfl (v := .ref (ad (61 + 2 * (i)))) rfl dX4_at_31 ?_
          refine lv_iload_n hx hb dX4_at_34 rfl (lv_at hl 2 rfl) ?_
          refine z_lald B hW (61 + 2 * (i)) (by omega) e_i (q9) (by omega) (by decide) (v := (lN (sE σ i (q9)))) (v_i _ (by omega)) dX4_at_35 ?_
          refine n_l2i hx hb dX4_at_36 ?_
          exact ret_i B hr hlk hW (by rw [show st_at σ (nI i) (nI q9) = (nI (sE σ i q9), σ) by unfold st_at; rw [cif_t ⟨⟨i, hi, rfl⟩, ⟨q9, hd, rfl⟩⟩, cN_nI (by omega), cN_nI (by omega)]]; exact ⟨rfl, hX, fun _ _ => rfl⟩) dX4_at_37
        · refine lv_aload_n hx hb dX4_at_18 rfl (lv_at hl 0 rfl) ?_
          refine lv_bipush (v := -3) hx hb dX4_at_19 (by decide) ?_
          refine call_vi B hA hW (0) (by omega) x0 (r := _) rfl rfl (k_refuse l G n ad w hn σ hX (-3) 3 (by decide) (by decide) (by decide) (by decide) (by decide)) mf_X4_refuse hw_152 rfl ⟨⟨rfl, rfl⟩, by decide, by decide⟩ ⟨Nat.zero_le _, Nat.zero_le _⟩ hl.1 rfl (Nat.le_of_ble_eq_true rfl) dX4_at_21 (fun r w9 H locs hp hW => ?_)
          exact ret_i B hr hlk hW (by rw [show st_at σ (nI i) (nI q9) = ref σ 3 by unfold st_at; rw [cif_f (fun ⟨_, ⟨q, q1, q2⟩⟩ => by have := (nI_eq hq9 (by omega)).mp q2; omega)]]; exact hp) dX4_at_24
  · refine n_if_eq (tgt := 18) hx hb (by omega) dX4_at_5 (by decide) (fun hz => ?_) (fun hz => ?_)
    · refine lv_aload_n hx hb dX4_at_18 rfl (lv_at hl 0 rfl) ?_
      refine lv_bipush (v := -3) hx hb dX4_at_19 (by decide) ?_
      refine call_vi B hA hW (0) (by omega) x0 (r := _) rfl rfl (k_refuse l G n ad w hn σ hX (-3) 3 (by decide) (by decide) (by decide) (by decide) (by decide)) mf_X4_refuse hw_152 rfl ⟨⟨rfl, rfl⟩, by decide, by decide⟩ ⟨Nat.zero_le _, Nat.zero_le _⟩ hl.1 rfl (Nat.le_of_ble_eq_true rfl) dX4_at_21 (fun r w9 H locs hp hW => ?_)
      exact ret_i B hr hlk hW (by rw [show st_at σ f x = ref σ 3 by unfold st_at; rw [cif_f (fun q => hnf q.1)]]; exact hp) dX4_at_24
    · exact absurd rfl hz
set_option maxHeartbeats 4000000 in
set_option maxRecDepth 100000 in
theorem k_X4_apart (l : Launch) (G : zG) (n : Nat) (ad : Nat → Nat) (w : Nat → va_E) (hn : 92 ≤ n) (σ : zS) (hX : XOK G ad w σ) (hs : SOK σ) (f g : Int32) :
    Ci l G yX4_apart cdX4_apart (zr 5) n ad w [.ref (ad (0)), .int (f), .int (g)] (postX G ad w (st_apart σ f g)) := by
  obtain ⟨⟨nf, hB⟩, x0, ⟨f1, x1, v1⟩, ⟨f55, x55⟩, ⟨f56, x56⟩, ⟨f57, x57⟩, ⟨f58, x58, v58⟩, ⟨f59, x59, v59⟩, xf⟩ := id hX
  have hsh := hs.1
  refine ent_i (cc := cX4_apart) (maxL := 3) (ret := (some .int)) (by decide +kernel) rfl (Nat.le_of_ble_eq_true rfl) ?_
  intro p e s m args below meth c A B hr hlk hA H locs ls hW hl
  have hx := B.1
  have hb := B.2.1
  have hl : lv_has ls 3 [(0, .ref (ad (0))), (1, .int (f)), (2, .int (g))] := hl
  obtain ⟨b2, -⟩ := id hB
  refine lv_aload_n hx hb dX4_apart_0 rfl (lv_at hl 0 rfl) ?_
  refine lv_iload_n hx hb dX4_apart_1 rfl (lv_at hl 1 rfl) ?_
  refine call_vi B hA hW (0) (by omega) x0 (r := _) rfl rfl (k_isForm l G n ad w hn σ hX hs f) mf_X4_isForm hw_187 rfl ⟨⟨rfl, rfl⟩, by decide, by decide⟩ ⟨Nat.zero_le _, Nat.zero_le _⟩ hl.1 rfl (Nat.le_of_ble_eq_true rfl) dX4_apart_2 (fun r w9 H locs hp hW => ?_)
  obtain ⟨e1, hp⟩ := hp
  rw [e1] at hW
  rcases hp with ⟨i, hi, rfl, rfl⟩ | ⟨hnf, rfl⟩
  · obtain ⟨w40_i, w2_i, k4_i, t40_i, r_i, s_i⟩ := hs.2.1 i hi
    obtain ⟨o_i, n_i⟩ := hX.form hs hi
    obtain ⟨f_i, e_i, v_i⟩ := id n_i
    refine n_if_eq (tgt := 16) hx hb (by omega) dX4_apart_5 (by decide) (fun hz => ?_) (fun hz => ?_)
    · exact absurd hz (by decide)
    · refine lv_aload_n hx hb dX4_apart_8 rfl (lv_at hl 0 rfl) ?_
      refine lv_iload_n hx hb dX4_apart_9 rfl (lv_at hl 2 rfl) ?_
      refine call_vi B hA hW (0) (by omega) x0 (r := _) rfl rfl (k_isForm l G n ad w hn σ hX hs g) mf_X4_isForm hw_187 rfl ⟨⟨rfl, rfl⟩, by decide, by decide⟩ ⟨Nat.zero_le _, Nat.zero_le _⟩ hl.1 rfl (Nat.le_of_ble_eq_true rfl) dX4_apart_10 (fun r w9 H locs hp hW => ?_)
      obtain ⟨e1, hp⟩ := hp
      rw [e1] at hW
      rcases hp with ⟨j, hj, rfl, rfl⟩ | ⟨hnf, rfl⟩
      · obtain ⟨w40_j, w2_j, k4_j, t40_j, r_j, s_j⟩ := hs.2.1 j hj
        obtain ⟨o_j, n_j⟩ := hX.form hs hj
        obtain ⟨f_j, e_j, v_j⟩ := id n_j
        refine n_if_ne (tgt := 23) hx hb (by omega) dX4_apart_13 (by decide) (fun hz => ?_) (fun hz => ?_)
        · have hS : st_apart σ (nI i) (nI j) = cif (sW σ i = sW σ j) (theI (unlR (sE σ i) (sE σ j)), σ) (ref σ 7) := by
            unfold st_apart
            rw [cif_t ⟨⟨i, hi, rfl⟩, ⟨j, hj, rfl⟩⟩, cN_nI (by omega), cN_nI (by omega)]
          rw [hS]
          refine lv_aload_n hx hb dX4_apart_23 rfl (lv_at hl 0 rfl) ?_
          refine z_get B hW (0) (by omega) x0 rfl inX4 0 (by decide) hw_115 rfl (v := .ref (ad (1))) rfl dX4_apart_24 ?_
          refine lv_iload_n hx hb dX4_apart_27 rfl (lv_at hl 1 rfl) ?_
          refine z_aald B hW (1) (by omega) x1 (i) (by omega) (by decide) (q := ad (60 + 2 * (i))) (v1 _ (by omega)) dX4_apart_28 ?_
          refine z_get B hW (60 + 2 * (i)) (by omega) o_i rfl inX1 1 (by decide) hw_103 rfl (v := .int (nI (sW σ i))) rfl dX4_apart_29 ?_
          refine lv_aload_n hx hb dX4_apart_32 rfl (lv_at hl 0 rfl) ?_
          refine z_get B hW (0) (by omega) x0 rfl inX4 0 (by decide) hw_115 rfl (v := .ref (ad (1))) rfl dX4_apart_33 ?_
          refine lv_iload_n hx hb dX4_apart_36 rfl (lv_at hl 2 rfl) ?_
          refine z_aald B hW (1) (by omega) x1 (j) (by omega) (by decide) (q := ad (60 + 2 * (j))) (v1 _ (by omega)) dX4_apart_37 ?_
          refine z_get B hW (60 + 2 * (j)) (by omega) o_j rfl inX1 1 (by decide) hw_103 rfl (v := .int (nI (sW σ j))) rfl dX4_apart_38 ?_
          refine n_icmp_eq (tgt := 51) hx hb (by omega) (by omega) dX4_apart_41 (by decide) (fun hd => ?_) (fun hd => ?_)
          · refine lv_aload_n hx hb dX4_apart_51 rfl (lv_at hl 0 rfl) ?_
            refine z_get B hW (0) (by omega) x0 rfl inX4 0 (by decide) hw_115 rfl (v := .ref (ad (1))) rfl dX4_apart_52 ?_
            refine lv_iload_n hx hb dX4_apart_55 rfl (lv_at hl 1 rfl) ?_
            refine z_aald B hW (1) (by omega) x1 (i) (by omega) (by decide) (q := ad (60 + 2 * (i))) (v1 _ (by omega)) dX4_apart_56 ?_
            refine z_get B hW (60 + 2 * (i)) (by omega) o_i rfl inX1 0 (by decide) hw_101 rfl (v := .ref (ad (61 + 2 * (i)))) rfl dX4_apart_57 ?_
            refine lv_aload_n hx hb dX4_apart_60 rfl (lv_at hl 0 rfl) ?_
            refine z_get B hW (0) (by omega) x0 rfl inX4 0 (by decide) hw_115 rfl (v := .ref (ad (1))) rfl dX4_apart_61 ?_
            refine lv_iload_n hx hb dX4_apart_64 rfl (lv_at hl 2 rfl) ?_
            refine z_aald B hW (1) (by omega) x1 (j) (by omega) (by decide) (q := ad (60 + 2 * (j))) (v1 _ (by omega)) dX4_apart_65 ?_
            refine z_get B hW (60 + 2 * (j)) (by omega) o_j rfl inX1 0 (by decide) hw_101 rfl (v := .ref (ad (61 + 2 * (j)))) rfl dX4_apart_66 ?_
            refine call_si B hA hW (k_firstUnlike l G n ad w (61 + 2 * i) (61 + 2 * j) (sE σ i) (sE σ j) (by omega) (by omega) n_i n_j r_i.s r_j.s) mf_X3_firstUnlike hw_295 rfl ⟨⟨rfl, rfl⟩, by decide, by decide⟩ ⟨Nat.zero_le _, Nat.zero_le _⟩ hl.1 rfl (Nat.le_of_ble_eq_true rfl) dX4_apart_69 (fun r w9 H locs hp hW => ?_)
            obtain ⟨e1, e2⟩ := hp
            rw [e1] at hW
            exact ret_i B hr hlk hW (by rw [cif_t hd]; exact ⟨theI_eq e2 (fun _ _ => unlR_one), hX, fun _ _ => rfl⟩) dX4_apart_72
          · refine lv_aload_n hx hb dX4_apart_44 rfl (lv_at hl 0 rfl) ?_
            refine lv_bipush (v := -7) hx hb dX4_apart_45 (by decide) ?_
            refine call_vi B hA hW (0) (by omega) x0 (r := _) rfl rfl (k_refuse l G n ad w hn σ hX (-7) 7 (by decide) (by decide) (by decide) (by decide) (by decide)) mf_X4_refuse hw_152 rfl ⟨⟨rfl, rfl⟩, by decide, by decide⟩ ⟨Nat.zero_le _, Nat.zero_le _⟩ hl.1 rfl (Nat.le_of_ble_eq_true rfl) dX4_apart_47 (fun r w9 H locs hp hW => ?_)
            exact ret_i B hr hlk hW (by rw [cif_f hd]; exact hp) dX4_apart_50
        · exact absurd hz (by decide)
      · refine n_if_ne (tgt := 23) hx hb (by omega) dX4_apart_13 (by decide) (fun hz => ?_) (fun hz => ?_)
        · exact absurd rfl hz
        · refine lv_aload_n hx hb dX4_apart_16 rfl (lv_at hl 0 rfl) ?_
          refine lv_bipush (v := -3) hx hb dX4_apart_17 (by decide) ?_
          refine call_vi B hA hW (0) (by omega) x0 (r := _) rfl rfl (k_refuse l G n ad w hn σ hX (-3) 3 (by decide) (by decide) (by decide) (by decide) (by decide)) mf_X4_refuse hw_152 rfl ⟨⟨rfl, rfl⟩, by decide, by decide⟩ ⟨Nat.zero_le _, Nat.zero_le _⟩ hl.1 rfl (Nat.le_of_ble_eq_true rfl) dX4_apart_19 (fun r w9 H locs hp hW => ?_)
          exact ret_i B hr hlk hW (by rw [show st_apart σ (nI i) g = ref σ 3 by unfold st_apart; rw [cif_f (fun q => hnf q.2)]]; exact hp) dX4_apart_22
  · refine n_if_eq (tgt := 16) hx hb (by omega) dX4_apart_5 (by decide) (fun hz => ?_) (fun hz => ?_)
    · refine lv_aload_n hx hb dX4_apart_16 rfl (lv_at hl 0 rfl) ?_
      refine lv_bipush (v := -3) hx hb dX4_apart_17 (by decide) ?_
      refine call_vi B hA hW (0) (by omega) x0 (r := _) rfl rfl (k_refuse l G n ad w hn σ hX (-3) 3 (by decide) (by decide) (by decide) (by decide) (by decide)) mf_X4_refuse hw_152 rfl ⟨⟨rfl, rfl⟩, by decide, by decide⟩ ⟨Nat.zero_le _, Nat.zero_le _⟩ hl.1 rfl (Nat.le_of_ble_eq_true rfl) dX4_apart_19 (fun r w9 H locs hp hW => ?_)
      exact ret_i B hr hlk hW (by rw [show st_apart σ f g = ref σ 3 by unfold st_apart; rw [cif_f (fun q => hnf q.1)]]; exact hp) dX4_apart_22
    · exact absurd rfl hz
set_option maxHeartbeats 4000000 in
set_option maxRecDepth 100000 in
theorem k_X4_same (l : Launch) (G : zG) (n : Nat) (ad : Nat → Nat) (w : Nat → va_E) (hn : 92 ≤ n) (σ : zS) (hX : XOK G ad w σ) (hs : SOK σ) (f g : Int32) :
    Ci l G yX4_same cdX4_same (zr 5) n ad w [.ref (ad (0)), .int (f), .int (g)] (postX G ad w (st_same σ f g)) := by
  obtain ⟨⟨nf, hB⟩, x0, ⟨f1, x1, v1⟩, ⟨f55, x55⟩, ⟨f56, x56⟩, ⟨f57, x57⟩, ⟨f58, x58, v58⟩, ⟨f59, x59, v59⟩, xf⟩ := id hX
  have hsh := hs.1
  refine ent_i (cc := cX4_same) (maxL := 5) (ret := (some .int)) (by decide +kernel) rfl (Nat.le_of_ble_eq_true rfl) ?_
  intro p e s m args below meth c A B hr hlk hA H locs ls hW hl
  have hx := B.1
  have hb := B.2.1
  have hl : lv_has ls 5 [(0, .ref (ad (0))), (1, .int (f)), (2, .int (g))] := hl
  obtain ⟨b2, -⟩ := id hB
  refine lv_aload_n hx hb dX4_same_0 rfl (lv_at hl 0 rfl) ?_
  refine lv_iload_n hx hb dX4_same_1 rfl (lv_at hl 1 rfl) ?_
  refine call_vi B hA hW (0) (by omega) x0 (r := _) rfl rfl (k_isForm l G n ad w hn σ hX hs f) mf_X4_isForm hw_187 rfl ⟨⟨rfl, rfl⟩, by decide, by decide⟩ ⟨Nat.zero_le _, Nat.zero_le _⟩ hl.1 rfl (Nat.le_of_ble_eq_true rfl) dX4_same_2 (fun r w9 H locs hp hW => ?_)
  obtain ⟨e1, hp⟩ := hp
  rw [e1] at hW
  rcases hp with ⟨i, hi, rfl, rfl⟩ | ⟨hnf, rfl⟩
  · obtain ⟨w40_i, w2_i, k4_i, t40_i, r_i, s_i⟩ := hs.2.1 i hi
    obtain ⟨o_i, n_i⟩ := hX.form hs hi
    obtain ⟨f_i, e_i, v_i⟩ := id n_i
    refine n_if_eq (tgt := 16) hx hb (by omega) dX4_same_5 (by decide) (fun hz => ?_) (fun hz => ?_)
    · exact absurd hz (by decide)
    · refine lv_aload_n hx hb dX4_same_8 rfl (lv_at hl 0 rfl) ?_
      refine lv_iload_n hx hb dX4_same_9 rfl (lv_at hl 2 rfl) ?_
      refine call_vi B hA hW (0) (by omega) x0 (r := _) rfl rfl (k_isForm l G n ad w hn σ hX hs g) mf_X4_isForm hw_187 rfl ⟨⟨rfl, rfl⟩, by decide, by decide⟩ ⟨Nat.zero_le _, Nat.zero_le _⟩ hl.1 rfl (Nat.le_of_ble_eq_true rfl) dX4_same_10 (fun r w9 H locs hp hW => ?_)
      obtain ⟨e1, hp⟩ := hp
      rw [e1] at hW
      rcases hp with ⟨j, hj, rfl, rfl⟩ | ⟨hnf, rfl⟩
      · obtain ⟨w40_j, w2_j, k4_j, t40_j, r_j, s_j⟩ := hs.2.1 j hj
        obtain ⟨o_j, n_j⟩ := hX.form hs hj
        obtain ⟨f_j, e_j, v_j⟩ := id n_j
        refine n_if_ne (tgt := 23) hx hb (by omega) dX4_same_13 (by decide) (fun hz => ?_) (fun hz => ?_)
        · have hS : st_same σ (nI i) (nI j) = cif ((sW σ i = sW σ j ∨ ∀ q, q < 48 → sE σ i q = 0) ∧ ∀ q, q < 48 → sE σ i q = sE σ j q) (nI 1, σ) (nI 0, σ) := by
            unfold st_same
            rw [cif_t ⟨⟨i, hi, rfl⟩, ⟨j, hj, rfl⟩⟩, cN_nI (by omega), cN_nI (by omega)]
          rw [hS]
          refine lv_aload_n hx hb dX4_same_23 rfl (lv_at hl 0 rfl) ?_
          refine z_get B hW (0) (by omega) x0 rfl inX4 0 (by decide) hw_115 rfl (v := .ref (ad (1))) rfl dX4_same_24 ?_
          refine lv_iload_n hx hb dX4_same_27 rfl (lv_at hl 1 rfl) ?_
          refine z_aald B hW (1) (by omega) x1 (i) (by omega) (by decide) (q := ad (60 + 2 * (i))) (v1 _ (by omega)) dX4_same_28 ?_
          refine z_get B hW (60 + 2 * (i)) (by omega) o_i rfl inX1 0 (by decide) hw_101 rfl (v := .ref (ad (61 + 2 * (i)))) rfl dX4_same_29 ?_
          refine lv_astore_n (lv' := [(3, .ref (ad (61 + 2 * (i)))), (0, .ref (ad (0))), (1, .int (nI (i))), (2, .int (nI (j)))]) hx hb dX4_same_32 rfl hl (by decide) rfl (fun ls hl => ?_)
          refine lv_aload_n hx hb dX4_same_33 rfl (lv_at hl 1 rfl) ?_
          refine z_get B hW (0) (by omega) x0 rfl inX4 0 (by decide) hw_115 rfl (v := .ref (ad (1))) rfl dX4_same_34 ?_
          refine lv_iload_n hx hb dX4_same_37 rfl (lv_at hl 3 rfl) ?_
          refine z_aald B hW (1) (by omega) x1 (j) (by omega) (by decide) (q := ad (60 + 2 * (j))) (v1 _ (by omega)) dX4_same_38 ?_
          refine z_get B hW (60 + 2 * (j)) (by omega) o_j rfl inX1 0 (by decide) hw_101 rfl (v := .ref (ad (61 + 2 * (j)))) rfl dX4_same_39 ?_
          refine lv_astore (lv' := [(4, .ref (ad (61 + 2 * (j)))), (3, .ref (ad (61 + 2 * (i)))), (0, .ref (ad (0))), (1, .int (nI (i))), (2, .int (nI (j)))]) hx hb dX4_same_42 hl (by decide) rfl (fun ls hl => ?_)
          refine lv_aload_n hx hb dX4_same_44 rfl (lv_at hl 2 rfl) ?_
          refine z_get B hW (0) (by omega) x0 rfl inX4 0 (by decide) hw_115 rfl (v := .ref (ad (1))) rfl dX4_same_45 ?_
          refine lv_iload_n hx hb dX4_same_48 rfl (lv_at hl 3 rfl) ?_
          refine z_aald B hW (1) (by omega) x1 (i) (by omega) (by decide) (q := ad (60 + 2 * (i))) (v1 _ (by omega)) dX4_same_49 ?_
          refine z_get B hW (60 + 2 * (i)) (by omega) o_i rfl inX1 1 (by decide) hw_103 rfl (v := .int (nI (sW σ i))) rfl dX4_same_50 ?_
          refine lv_aload_n hx hb dX4_same_53 rfl (lv_at hl 2 rfl) ?_
          refine z_get B hW (0) (by omega) x0 rfl inX4 0 (by decide) hw_115 rfl (v := .ref (ad (1))) rfl dX4_same_54 ?_
          refine lv_iload_n hx hb dX4_same_57 rfl (lv_at hl 4 rfl) ?_
          refine z_aald B hW (1) (by omega) x1 (j) (by omega) (by decide) (q := ad (60 + 2 * (j))) (v1 _ (by omega)) dX4_same_58 ?_
          refine z_get B hW (60 + 2 * (j)) (by omega) o_j rfl inX1 1 (by decide) hw_103 rfl (v := .int (nI (sW σ j))) rfl dX4_same_59 ?_
          refine n_icmp_ne (tgt := 81) hx hb (by omega) (by omega) dX4_same_62 (by decide) (fun hd => ?_) (fun hd => ?_)
          · refine lv_aload_n hx hb dX4_same_81 rfl (lv_at hl 1 rfl) ?_
            refine call_si B hA hW (k_leastPlace l G n ad w (61 + 2 * i) (sE σ i) (by omega) n_i r_i.s) mf_X3_leastPlace hw_280 rfl ⟨⟨rfl, rfl⟩, by decide, by decide⟩ ⟨Nat.zero_le _, Nat.zero_le _⟩ hl.1 rfl (Nat.le_of_ble_eq_true rfl) dX4_same_82 (fun r w9 H locs hp hW => ?_)
            obtain ⟨e1, hp⟩ := hp
            rw [e1] at hW
            rcases hp with ⟨rfl, hall⟩ | ⟨p9, rfl, hp9⟩
            · refine lv_iconst (v := -1) hx hb dX4_same_85 (by decide) ?_
              refine lv_icmp_ne (tgt := 102) hx hb dX4_same_86 (by decide) (fun hz => ?_) (fun hz => ?_)
              · exact absurd rfl hz
              · refine lv_aload hx hb dX4_same_89 (lv_at hl 0 rfl) ?_
                refine call_si B hA hW (k_leastPlace l G n ad w (61 + 2 * j) (sE σ j) (by omega) n_j r_j.s) mf_X3_leastPlace hw_280 rfl ⟨⟨rfl, rfl⟩, by decide, by decide⟩ ⟨Nat.zero_le _, Nat.zero_le _⟩ hl.1 rfl (Nat.le_of_ble_eq_true rfl) dX4_same_91 (fun r w9 H locs hp hW => ?_)
                obtain ⟨e1, hp⟩ := hp
                rw [e1] at hW
                rcases hp with ⟨rfl, hall2⟩ | ⟨p9, rfl, hp9⟩
                · refine lv_iconst (v := -1) hx hb dX4_same_94 (by decide) ?_
                  refine lv_icmp_ne (tgt := 102) hx hb dX4_same_95 (by decide) (fun hz => ?_) (fun hz => ?_)
                  · exact absurd rfl hz
                  · refine lv_iconst (v := nI 1) hx hb dX4_same_98 (by decide) ?_
                    refine lv_goto (tgt := 103) hx hb dX4_same_99 (by decide) ?_
                    exact ret_i B hr hlk hW (by rw [cif_t ⟨Or.inr hall, fun q hq => by rw [hall q hq, hall2 q hq]⟩]; exact ⟨rfl, hX, fun _ _ => rfl⟩) dX4_same_103
                · have hp948 := hp9.1
                  refine lv_iconst (v := -1) hx hb dX4_same_94 (by decide) ?_
                  refine lv_icmp_ne (tgt := 102) hx hb dX4_same_95 (by decide) (fun hz => ?_) (fun hz => ?_)
                  · refine lv_iconst (v := nI 0) hx hb dX4_same_102 (by decide) ?_
                    exact ret_i B hr hlk hW (by rw [cif_f (fun q => hp9.2.1 (by rw [← q.2 p9 hp9.1]; exact hall p9 hp9.1))]; exact ⟨rfl, hX, fun _ _ => rfl⟩) dX4_same_103
                  · exact absurd hz (nI_m1 (by omega))
            · have hp948 := hp9.1
              refine lv_iconst (v := -1) hx hb dX4_same_85 (by decide) ?_
              refine lv_icmp_ne (tgt := 102) hx hb dX4_same_86 (by decide) (fun hz => ?_) (fun hz => ?_)
              · refine lv_iconst (v := nI 0) hx hb dX4_same_102 (by decide) ?_
                exact ret_i B hr hlk hW (by rw [cif_f (fun q => by rcases q.1 with q1 | q1; exact hd q1; exact hp9.2.1 (q1 p9 hp9.1))]; exact ⟨rfl, hX, fun _ _ => rfl⟩) dX4_same_103
              · exact absurd hz (nI_m1 (by omega))
          · refine lv_aload_n hx hb dX4_same_65 rfl (lv_at hl 1 rfl) ?_
            refine lv_aload hx hb dX4_same_66 (lv_at hl 0 rfl) ?_
            refine call_si B hA hW (k_firstUnlike l G n ad w (61 + 2 * i) (61 + 2 * j) (sE σ i) (sE σ j) (by omega) (by omega) n_i n_j r_i.s r_j.s) mf_X3_firstUnlike hw_295 rfl ⟨⟨rfl, rfl⟩, by decide, by decide⟩ ⟨Nat.zero_le _, Nat.zero_le _⟩ hl.1 rfl (Nat.le_of_ble_eq_true rfl) dX4_same_68 (fun r w9 H locs hp hW => ?_)
            obtain ⟨e1, hp⟩ := hp
            rw [e1] at hW
            rcases hp with ⟨rfl, hall⟩ | ⟨p9, rfl, h48, hne, -⟩
            · refine lv_iconst (v := -1) hx hb dX4_same_71 (by decide) ?_
              refine lv_icmp_ne (tgt := 79) hx hb dX4_same_72 (by decide) (fun hz => ?_) (fun hz => ?_)
              · exact absurd rfl hz
              · refine lv_iconst (v := nI 1) hx hb dX4_same_75 (by decide) ?_
                refine lv_goto (tgt := 80) hx hb dX4_same_76 (by decide) ?_
                exact ret_i B hr hlk hW (by rw [cif_t ⟨Or.inl hd, hall⟩]; exact ⟨rfl, hX, fun _ _ => rfl⟩) dX4_same_80
            · refine lv_iconst (v := -1) hx hb dX4_same_71 (by decide) ?_
              refine lv_icmp_ne (tgt := 79) hx hb dX4_same_72 (by decide) (fun hz => ?_) (fun hz => ?_)
              · refine lv_iconst (v := nI 0) hx hb dX4_same_79 (by decide) ?_
                exact ret_i B hr hlk hW (by rw [cif_f (fun q => hne (q.2 p9 h48))]; exact ⟨rfl, hX, fun _ _ => rfl⟩) dX4_same_80
              · exact absurd hz (nI_m1 (by omega))
        · exact absurd hz (by decide)
      · refine n_if_ne (tgt := 23) hx hb (by omega) dX4_same_13 (by decide) (fun hz => ?_) (fun hz => ?_)
        · exact absurd rfl hz
        · refine lv_aload_n hx hb dX4_same_16 rfl (lv_at hl 0 rfl) ?_
          refine lv_bipush (v := -3) hx hb dX4_same_17 (by decide) ?_
          refine call_vi B hA hW (0) (by omega) x0 (r := _) rfl rfl (k_refuse l G n ad w hn σ hX (-3) 3 (by decide) (by decide) (by decide) (by decide) (by decide)) mf_X4_refuse hw_152 rfl ⟨⟨rfl, rfl⟩, by decide, by decide⟩ ⟨Nat.zero_le _, Nat.zero_le _⟩ hl.1 rfl (Nat.le_of_ble_eq_true rfl) dX4_same_19 (fun r w9 H locs hp hW => ?_)
          exact ret_i B hr hlk hW (by rw [show st_same σ (nI i) g = ref σ 3 by unfold st_same; rw [cif_f (fun q => hnf q.2)]]; exact hp) dX4_same_22
  · refine n_if_eq (tgt := 16) hx hb (by omega) dX4_same_5 (by decide) (fun hz => ?_) (fun hz => ?_)
    · refine lv_aload_n hx hb dX4_same_16 rfl (lv_at hl 0 rfl) ?_
      refine lv_bipush (v := -3) hx hb dX4_same_17 (by decide) ?_
      refine call_vi B hA hW (0) (by omega) x0 (r := _) rfl rfl (k_refuse l G n ad w hn σ hX (-3) 3 (by decide) (by decide) (by decide) (by decide) (by decide)) mf_X4_refuse hw_152 rfl ⟨⟨rfl, rfl⟩, by decide, by decide⟩ ⟨Nat.zero_le _, Nat.zero_le _⟩ hl.1 rfl (Nat.le_of_ble_eq_true rfl) dX4_same_19 (fun r w9 H locs hp hW => ?_)
      exact ret_i B hr hlk hW (by rw [show st_same σ f g = ref σ 3 by unfold st_same; rw [cif_f (fun q => hnf q.1)]]; exact hp) dX4_same_22
    · exact absurd rfl hz
