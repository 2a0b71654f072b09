set_option maxHeartbeats 4000000 in
set_option maxRecDepth 100000 in
theorem k_X4_tear (l : Launch) (G : zG) (n : Nat) (ad : Nat → Nat) (w : Nat → va_E) (hn : 92 ≤ n) (σ : zS) (hX : XOK G ad w σ) (hs : SOK σ)  :
    Ci l G yX4_tear cdX4_tear (zr 5) n ad w [.ref (ad (0))] (postX G ad w (st_tear σ)) := by
  obtain ⟨⟨nf, hB⟩, x0, ⟨f1, x1, v1⟩, ⟨f55, x55⟩, ⟨f56, x56⟩, ⟨f57, x57⟩, ⟨f58, x58, v58⟩, ⟨f59, x59, v59⟩, xf⟩ := id hX
  have hsh := hs.1
  refine ent_i (cc := cX4_tear) (maxL := 2) (ret := (some .int)) (by decide +kernel) rfl (Nat.le_of_ble_eq_true rfl) ?_
  intro p e s m args below meth c A B hr hlk hA H locs ls hW hl
  have hx := B.1
  have hb := B.2.1
  have hl : lv_has ls 2 [(0, .ref (ad (0)))] := hl
  obtain ⟨b2, -⟩ := id hB
  rcases hR : sR σ with _ | m9
  · have x0r : w 0 = eO 2 [.ref (ad 1), .int (nI (sH σ)), .ref (ad 2), .ref (ad 55), .ref (ad 56), .ref (ad 57), .ref (ad 58), .int (-1), .ref (ad 59)] := by rw [x0, hR]; rfl
    refine lv_aload_n hx hb dX4_tear_0 rfl (lv_at hl 0 rfl) ?_
    refine z_get B hW (0) (by omega) x0r rfl inX4 7 (by decide) hw_122 rfl (v := .int (-1)) rfl dX4_tear_1 ?_
    refine lv_iconst (v := -1) hx hb dX4_tear_4 (by decide) ?_
    refine lv_icmp_ne (tgt := 12) hx hb dX4_tear_5 (by decide) (fun hz => ?_) (fun hz => ?_)
    · exact absurd rfl hz
    · refine lv_iconst (v := nI 0) hx hb dX4_tear_8 (by decide) ?_
      refine lv_goto (tgt := 13) hx hb dX4_tear_9 (by decide) ?_
      refine lv_istore_n (lv' := [(1, .int (nI (0))), (0, .ref (ad (0)))]) hx hb dX4_tear_13 rfl hl (by decide) rfl (fun ls hl => ?_)
      refine lv_aload_n hx hb dX4_tear_14 rfl (lv_at hl 1 rfl) ?_
      refine lv_iconst (v := -1) hx hb dX4_tear_15 (by decide) ?_
      refine z_put B hW (0) (by omega) x0r rfl inX4 tyX4 tyX4_ok nmX4 7 (by decide) hw_122 rfl rfl (v := .int (-1)) rfl rfl (Nat.le_of_ble_eq_true rfl) dX4_tear_16 (fun H locs hW => ?_)
      refine lv_iload_n hx hb dX4_tear_19 rfl (lv_at hl 0 rfl) ?_
      refine ret_i B hr hlk hW ⟨by unfold st_tear; rw [cif_t hR], ?_, fun j hj => up_n (by omega)⟩ dX4_tear_20
      refine ⟨⟨nf, hB.keep (fun j q1 q2 => up_n (by omega))⟩, up_s, ⟨f1, (up_n (by decide)).trans x1, v1⟩, ⟨f55, (up_n (by decide)).trans x55⟩, ⟨f56, (up_n (by decide)).trans x56⟩, ⟨f57, (up_n (by decide)).trans x57⟩, ⟨f58, (up_n (by decide)).trans x58, fun i hi => absurd hi (Nat.not_lt_zero i)⟩, ⟨f59, (up_n (by decide)).trans x59, v59⟩, fun i hi => ?_⟩
      obtain ⟨a1, a2, a3, a4, a5, a6, a7⟩ := xf i hi
      exact ⟨a1, a2, a3, a4, (up_n (by omega)).trans a5, (up_n (by omega)).trans a6, a7⟩
  · have x0r : w 0 = eO 2 [.ref (ad 1), .int (nI (sH σ)), .ref (ad 2), .ref (ad 55), .ref (ad 56), .ref (ad 57), .ref (ad 58), .int (nI m9), .ref (ad 59)] := by rw [x0, hR]; rfl
    obtain ⟨hm48, hmv⟩ := hs.2.2 m9 hR
    have v58r : ∀ i, i < m9 → f58 i = lN (sV σ i) := fun i hi => v58 i (by rw [hR]; exact hi)
    have hgd : (sR σ).getD 0 = m9 := by rw [hR]; rfl
    have hnn : ¬ sR σ = none := by rw [hR]; exact fun q => by cases q
    refine lv_aload_n hx hb dX4_tear_0 rfl (lv_at hl 0 rfl) ?_
    refine z_get B hW (0) (by omega) x0r rfl inX4 7 (by decide) hw_122 rfl (v := .int (nI (m9))) rfl dX4_tear_1 ?_
    refine lv_iconst (v := -1) hx hb dX4_tear_4 (by decide) ?_
    refine lv_icmp_ne (tgt := 12) hx hb dX4_tear_5 (by decide) (fun hz => ?_) (fun hz => ?_)
    · refine lv_iconst (v := nI 1) hx hb dX4_tear_12 (by decide) ?_
      refine lv_istore_n (lv' := [(1, .int (nI (1))), (0, .ref (ad (0)))]) hx hb dX4_tear_13 rfl hl (by decide) rfl (fun ls hl => ?_)
      refine lv_aload_n hx hb dX4_tear_14 rfl (lv_at hl 1 rfl) ?_
      refine lv_iconst (v := -1) hx hb dX4_tear_15 (by decide) ?_
      refine z_put B hW (0) (by omega) x0r rfl inX4 tyX4 tyX4_ok nmX4 7 (by decide) hw_122 rfl rfl (v := .int (-1)) rfl rfl (Nat.le_of_ble_eq_true rfl) dX4_tear_16 (fun H locs hW => ?_)
      refine lv_iload_n hx hb dX4_tear_19 rfl (lv_at hl 0 rfl) ?_
      refine ret_i B hr hlk hW ⟨by unfold st_tear; rw [cif_f hnn], ?_, fun j hj => up_n (by omega)⟩ dX4_tear_20
      refine ⟨⟨nf, hB.keep (fun j q1 q2 => up_n (by omega))⟩, up_s, ⟨f1, (up_n (by decide)).trans x1, v1⟩, ⟨f55, (up_n (by decide)).trans x55⟩, ⟨f56, (up_n (by decide)).trans x56⟩, ⟨f57, (up_n (by decide)).trans x57⟩, ⟨f58, (up_n (by decide)).trans x58, fun i hi => absurd hi (Nat.not_lt_zero i)⟩, ⟨f59, (up_n (by decide)).trans x59, v59⟩, fun i hi => ?_⟩
      obtain ⟨a1, a2, a3, a4, a5, a6, a7⟩ := xf i hi
      exact ⟨a1, a2, a3, a4, (up_n (by omega)).trans a5, (up_n (by omega)).trans a6, a7⟩
    · exact absurd hz (nI_m1 (by omega))
set_option maxHeartbeats 4000000 in
set_option maxRecDepth 100000 in
theorem k_X4_row (l : Launch) (G : zG) (n : Nat) (ad : Nat → Nat) (w : Nat → va_E) (hn : 92 ≤ n) (σ : zS) (hX : XOK G ad w σ) (hs : SOK σ) (x : Int32) :
    Ci l G yX4_row cdX4_row (zr 5) n ad w [.ref (ad (0)), .int (x)] (postX G ad w (st_row σ x)) := by
  obtain ⟨⟨nf, hB⟩, x0, ⟨f1, x1, v1⟩, ⟨f55, x55⟩, ⟨f56, x56⟩, ⟨f57, x57⟩, ⟨f58, x58, v58⟩, ⟨f59, x59, v59⟩, xf⟩ := id hX
  have hsh := hs.1
  refine ent_i (cc := cX4_row) (maxL := 2) (ret := (some .int)) (by decide +kernel) rfl (Nat.le_of_ble_eq_true rfl) ?_
  intro p e s m args below meth c A B hr hlk hA H locs ls hW hl
  have hx := B.1
  have hb := B.2.1
  have hl : lv_has ls 2 [(0, .ref (ad (0))), (1, .int (x))] := hl
  obtain ⟨b2, -⟩ := id hB
  rcases hR : sR σ with _ | m9
  · have x0r : w 0 = eO 2 [.ref (ad 1), .int (nI (sH σ)), .ref (ad 2), .ref (ad 55), .ref (ad 56), .ref (ad 57), .ref (ad 58), .int (-1), .ref (ad 59)] := by rw [x0, hR]; rfl
    refine lv_aload_n hx hb dX4_row_0 rfl (lv_at hl 0 rfl) ?_
    refine z_get B hW (0) (by omega) x0r rfl inX4 7 (by decide) hw_122 rfl (v := .int (-1)) rfl dX4_row_1 ?_
    refine lv_iconst (v := -1) hx hb dX4_row_4 (by decide) ?_
    refine lv_icmp_ne (tgt := 15) hx hb dX4_row_5 (by decide) (fun hz => ?_) (fun hz => ?_)
    · exact absurd rfl hz
    · refine lv_aload_n hx hb dX4_row_8 rfl (lv_at hl 0 rfl) ?_
      refine lv_bipush (v := -2) hx hb dX4_row_9 (by decide) ?_
      refine call_vi B hA hW (0) (by omega) x0r (r := _) rfl rfl (k_refuse l G n ad w hn σ hX (-2) 2 (by decide) (by decide) (by decide) (by decide) (by decide)) mf_X4_refuse hw_152 rfl ⟨⟨rfl, rfl⟩, by decide, by decide⟩ ⟨Nat.zero_le _, Nat.zero_le _⟩ hl.1 rfl (Nat.le_of_ble_eq_true rfl) dX4_row_11 (fun r w9 H locs hp hW => ?_)
      exact ret_i B hr hlk hW (by rw [show st_row σ x = ref σ 2 by unfold st_row; rw [cif_t hR]]; exact hp) dX4_row_14
  · have x0r : w 0 = eO 2 [.ref (ad 1), .int (nI (sH σ)), .ref (ad 2), .ref (ad 55), .ref (ad 56), .ref (ad 57), .ref (ad 58), .int (nI m9), .ref (ad 59)] := by rw [x0, hR]; rfl
    obtain ⟨hm48, hmv⟩ := hs.2.2 m9 hR
    have v58r : ∀ i, i < m9 → f58 i = lN (sV σ i) := fun i hi => v58 i (by rw [hR]; exact hi)
    have hgd : (sR σ).getD 0 = m9 := by rw [hR]; rfl
    have hnn : ¬ sR σ = none := by rw [hR]; exact fun q => by cases q
    refine lv_aload_n hx hb dX4_row_0 rfl (lv_at hl 0 rfl) ?_
    refine z_get B hW (0) (by omega) x0r rfl inX4 7 (by decide) hw_122 rfl (v := .int (nI (m9))) rfl dX4_row_1 ?_
    refine lv_iconst (v := -1) hx hb dX4_row_4 (by decide) ?_
    refine lv_icmp_ne (tgt := 15) hx hb dX4_row_5 (by decide) (fun hz => ?_) (fun hz => ?_)
    · have hS : st_row σ x = cif (isF m9 x) (nI (sV σ (cN x)), σ) (ref σ 3) := by unfold st_row; rw [cif_f hnn, hgd]
      rw [hS]
      refine lv_iload_n hx hb dX4_row_15 rfl (lv_at hl 1 rfl) ?_
      refine lv_if_lt (tgt := 27) hx hb dX4_row_16 (by decide) (fun hc => ?_) (fun hc => ?_)
      · refine lv_aload_n hx hb dX4_row_27 rfl (lv_at hl 0 rfl) ?_
        refine lv_bipush (v := -3) hx hb dX4_row_28 (by decide) ?_
        refine call_vi B hA hW (0) (by omega) x0r (r := _) rfl rfl (k_refuse l G n ad w hn σ hX (-3) 3 (by decide) (by decide) (by decide) (by decide) (by decide)) mf_X4_refuse hw_152 rfl ⟨⟨rfl, rfl⟩, by decide, by decide⟩ ⟨Nat.zero_le _, Nat.zero_le _⟩ hl.1 rfl (Nat.le_of_ble_eq_true rfl) dX4_row_30 (fun r w9 H locs hp hW => ?_)
        exact ret_i B hr hlk hW (by rw [cif_f (fun ⟨q, q1, q2⟩ => nI_pos (by omega) (q2 ▸ hc))]; exact hp) dX4_row_33
      · obtain ⟨q9, hq9, rfl⟩ := nI_of hc
        refine lv_iload_n hx hb dX4_row_19 rfl (lv_at hl 1 rfl) ?_
        refine lv_aload_n hx hb dX4_row_20 rfl (lv_at hl 0 rfl) ?_
        refine z_get B hW (0) (by omega) x0r rfl inX4 7 (by decide) hw_122 rfl (v := .int (nI (m9))) rfl dX4_row_21 ?_
        refine n_icmp_lt (tgt := 34) hx hb (by omega) (by omega) dX4_row_24 (by decide) (fun hd => ?_) (fun hd => ?_)
        · refine lv_aload_n hx hb dX4_row_34 rfl (lv_at hl 0 rfl) ?_
          refine z_get B hW (0) (by omega) x0r rfl inX4 6 (by decide) hw_121 rfl (v := .ref (ad (58))) rfl dX4_row_35 ?_
          refine lv_iload_n hx hb dX4_row_38 rfl (lv_at hl 1 rfl) ?_
          refine z_lald B hW (58) (by omega) x58 (q9) (by omega) (by decide) (v := (lN (sV σ (q9)))) (v58r _ (by omega)) dX4_row_39 ?_
          refine n_l2i hx hb dX4_row_40 ?_
          exact ret_i B hr hlk hW (by rw [cif_t ⟨q9, hd, rfl⟩, cN_nI hq9]; exact ⟨rfl, hX, fun _ _ => rfl⟩) dX4_row_41
        · refine lv_aload_n hx hb dX4_row_27 rfl (lv_at hl 0 rfl) ?_
          refine lv_bipush (v := -3) hx hb dX4_row_28 (by decide) ?_
          refine call_vi B hA hW (0) (by omega) x0r (r := _) rfl rfl (k_refuse l G n ad w hn σ hX (-3) 3 (by decide) (by decide) (by decide) (by decide) (by decide)) mf_X4_refuse hw_152 rfl ⟨⟨rfl, rfl⟩, by decide, by decide⟩ ⟨Nat.zero_le _, Nat.zero_le _⟩ hl.1 rfl (Nat.le_of_ble_eq_true rfl) dX4_row_30 (fun r w9 H locs hp hW => ?_)
          exact ret_i B hr hlk hW (by rw [cif_f (fun ⟨q, q1, q2⟩ => by have := (nI_eq hq9 (by omega)).mp q2; omega)]; exact hp) dX4_row_33
    · exact absurd hz (nI_m1 (by omega))
set_option maxHeartbeats 4000000 in
set_option maxRecDepth 100000 in
theorem k_X4_tell (l : Launch) (G : zG) (n : Nat) (ad : Nat → Nat) (w : Nat → va_E) (hn : 92 ≤ n) (σ : zS) (hX : XOK G ad w σ) (hs : SOK σ) (x y : Int32) :
    Ci l G yX4_tell cdX4_tell (zr 5) n ad w [.ref (ad (0)), .int (x), .int (y)] (postX G ad w (st_tell σ x y)) := by
  obtain ⟨⟨nf, hB⟩, x0, ⟨f1, x1, v1⟩, ⟨f55, x55⟩, ⟨f56, x56⟩, ⟨f57, x57⟩, ⟨f58, x58, v58⟩, ⟨f59, x59, v59⟩, xf⟩ := id hX
  have hsh := hs.1
  refine ent_i (cc := cX4_tell) (maxL := 5) (ret := (some .int)) (by decide +kernel) rfl (Nat.le_of_ble_eq_true rfl) ?_
  intro p e s m args below meth c A B hr hlk hA H locs ls hW hl
  have hx := B.1
  have hb := B.2.1
  have hl : lv_has ls 5 [(0, .ref (ad (0))), (1, .int (x)), (2, .int (y))] := hl
  obtain ⟨b2, -⟩ := id hB
  rcases hR : sR σ with _ | m9
  · have x0r : w 0 = eO 2 [.ref (ad 1), .int (nI (sH σ)), .ref (ad 2), .ref (ad 55), .ref (ad 56), .ref (ad 57), .ref (ad 58), .int (-1), .ref (ad 59)] := by rw [x0, hR]; rfl
    refine lv_aload_n hx hb dX4_tell_0 rfl (lv_at hl 0 rfl) ?_
    refine z_get B hW (0) (by omega) x0r rfl inX4 7 (by decide) hw_122 rfl (v := .int (-1)) rfl dX4_tell_1 ?_
    refine lv_iconst (v := -1) hx hb dX4_tell_4 (by decide) ?_
    refine lv_icmp_ne (tgt := 15) hx hb dX4_tell_5 (by decide) (fun hz => ?_) (fun hz => ?_)
    · exact absurd rfl hz
    · refine lv_aload_n hx hb dX4_tell_8 rfl (lv_at hl 0 rfl) ?_
      refine lv_bipush (v := -2) hx hb dX4_tell_9 (by decide) ?_
      refine call_vi B hA hW (0) (by omega) x0r (r := _) rfl rfl (k_refuse l G n ad w hn σ hX (-2) 2 (by decide) (by decide) (by decide) (by decide) (by decide)) mf_X4_refuse hw_152 rfl ⟨⟨rfl, rfl⟩, by decide, by decide⟩ ⟨Nat.zero_le _, Nat.zero_le _⟩ hl.1 rfl (Nat.le_of_ble_eq_true rfl) dX4_tell_11 (fun r w9 H locs hp hW => ?_)
      exact ret_i B hr hlk hW (by rw [show st_tell σ x y = ref σ 2 by unfold st_tell; rw [cif_t hR]]; exact hp) dX4_tell_14
  · have x0r : w 0 = eO 2 [.ref (ad 1), .int (nI (sH σ)), .ref (ad 2), .ref (ad 55), .ref (ad 56), .ref (ad 57), .ref (ad 58), .int (nI m9), .ref (ad 59)] := by rw [x0, hR]; rfl
    obtain ⟨hm48, hmv⟩ := hs.2.2 m9 hR
    have v58r : ∀ i, i < m9 → f58 i = lN (sV σ i) := fun i hi => v58 i (by rw [hR]; exact hi)
    have hgd : (sR σ).getD 0 = m9 := by rw [hR]; rfl
    have hnn : ¬ sR σ = none := by rw [hR]; exact fun q => by cases q
    refine lv_aload_n hx hb dX4_tell_0 rfl (lv_at hl 0 rfl) ?_
    refine z_get B hW (0) (by omega) x0r rfl inX4 7 (by decide) hw_122 rfl (v := .int (nI (m9))) rfl dX4_tell_1 ?_
    refine lv_iconst (v := -1) hx hb dX4_tell_4 (by decide) ?_
    refine lv_icmp_ne (tgt := 15) hx hb dX4_tell_5 (by decide) (fun hz => ?_) (fun hz => ?_)
    · have hS : st_tell σ x y = cif (isF m9 x) (cif (sV σ (cN x) = zm y.toInt) (nI 0) (nI 1), sH σ, sW σ, sK σ, sT σ, sE σ, sF σ, sR σ, va_up (sV σ) (cN x) (zm y.toInt)) (ref σ 3) := by unfold st_tell; rw [cif_f hnn, hgd]
      rw [hS]
      refine lv_iload_n hx hb dX4_tell_15 rfl (lv_at hl 1 rfl) ?_
      refine lv_if_lt (tgt := 27) hx hb dX4_tell_16 (by decide) (fun hc => ?_) (fun hc => ?_)
      · refine lv_aload_n hx hb dX4_tell_27 rfl (lv_at hl 0 rfl) ?_
        refine lv_bipush (v := -3) hx hb dX4_tell_28 (by decide) ?_
        refine call_vi B hA hW (0) (by omega) x0r (r := _) rfl rfl (k_refuse l G n ad w hn σ hX (-3) 3 (by decide) (by decide) (by decide) (by decide) (by decide)) mf_X4_refuse hw_152 rfl ⟨⟨rfl, rfl⟩, by decide, by decide⟩ ⟨Nat.zero_le _, Nat.zero_le _⟩ hl.1 rfl (Nat.le_of_ble_eq_true rfl) dX4_tell_30 (fun r w9 H locs hp hW => ?_)
        exact ret_i B hr hlk hW (by rw [cif_f (fun ⟨q, q1, q2⟩ => nI_pos (by omega) (q2 ▸ hc))]; exact hp) dX4_tell_33
      · obtain ⟨q9, hq9, rfl⟩ := nI_of hc
        refine lv_iload_n hx hb dX4_tell_19 rfl (lv_at hl 1 rfl) ?_
        refine lv_aload_n hx hb dX4_tell_20 rfl (lv_at hl 0 rfl) ?_
        refine z_get B hW (0) (by omega) x0r rfl inX4 7 (by decide) hw_122 rfl (v := .int (nI (m9))) rfl dX4_tell_21 ?_
        refine n_icmp_lt (tgt := 34) hx hb (by omega) (by omega) dX4_tell_24 (by decide) (fun hd => ?_) (fun hd => ?_)
        · rw [cif_t ⟨q9, hd, rfl⟩, cN_nI hq9]
          have hyr := rngI y
          refine lv_aload_n hx hb dX4_tell_34 rfl (lv_at hl 0 rfl) ?_
          refine z_get B hW (0) (by omega) x0r rfl inX4 6 (by decide) hw_121 rfl (v := .ref (ad (58))) rfl dX4_tell_35 ?_
          refine lv_iload_n hx hb dX4_tell_38 rfl (lv_at hl 1 rfl) ?_
          refine z_lald B hW (58) (by omega) x58 (q9) (by omega) (by decide) (v := (lN (sV σ (q9)))) (v58r _ (by omega)) dX4_tell_39 ?_
          refine lv_lstore_n (lv' := [(3, .long (lN (sV σ (q9)))), (0, .ref (ad (0))), (1, .int (nI (q9))), (2, .int (y))]) hx hb dX4_tell_40 rfl hl (by decide) rfl (fun ls hl => ?_)
          refine lv_aload_n hx hb dX4_tell_41 rfl (lv_at hl 1 rfl) ?_
          refine z_get B hW (0) (by omega) x0r rfl inX4 6 (by decide) hw_121 rfl (v := .ref (ad (58))) rfl dX4_tell_42 ?_
          refine lv_iload_n hx hb dX4_tell_45 rfl (lv_at hl 2 rfl) ?_
          refine lv_iload_n hx hb dX4_tell_46 rfl (lv_at hl 3 rfl) ?_
          refine r_i2l hx hb dX4_tell_47 ?_
          refine call_sl B hA hW (k_rest l G n ad w y.toInt (by omega) (by omega)) mf_X2_rest hw_191 rfl ⟨⟨rfl, rfl⟩, by decide, by decide⟩ ⟨Nat.zero_le _, Nat.zero_le _⟩ hl.1 rfl (Nat.le_of_ble_eq_true rfl) dX4_tell_48 (fun r w9 H locs hp hW => ?_)
          obtain ⟨e1, e2⟩ := hp
          rw [e1] at hW
          subst e2
          refine z_last B hW (58) (by omega) x58 (q9) (by omega) (by decide) dX4_tell_51 (fun H locs hW => ?_)
          have hX2 : XOK G ad (va_up w 58 (eL G 48 (vp_updL f58 q9 (lN (zm y.toInt))))) (sH σ, sW σ, sK σ, sT σ, sE σ, sF σ, sR σ, va_up (sV σ) q9 (zm y.toInt)) := by
            refine ⟨⟨nf, hB.keep (fun j q1 q2 => up_n (by omega))⟩, (up_n (by decide)).trans x0, ⟨f1, (up_n (by decide)).trans x1, v1⟩, ⟨f55, (up_n (by decide)).trans x55⟩, ⟨f56, (up_n (by decide)).trans x56⟩, ⟨f57, (up_n (by decide)).trans x57⟩, ⟨_, up_s, fun i hi => ?_⟩, ⟨f59, (up_n (by decide)).trans x59, v59⟩, fun i hi => ?_⟩
            · show vp_updL f58 q9 (lN (zm y.toInt)) i = lN (va_up (sV σ) q9 (zm y.toInt) i)
              by_cases z : i = q9
              · subst z; rw [pk_uLs, up_s]
              · rw [pk_uLn z, up_n z]; exact v58 i hi
            · obtain ⟨a1, a2, a3, a4, a5, a6, a7⟩ := xf i hi
              exact ⟨a1, a2, a3, a4, (up_n (by omega)).trans a5, (up_n (by omega)).trans a6, a7⟩
          have x0s : va_up w 58 (eL G 48 (vp_updL f58 q9 (lN (zm y.toInt)))) 0 = eO 2 [.ref (ad 1), .int (nI (sH σ)), .ref (ad 2), .ref (ad 55), .ref (ad 56), .ref (ad 57), .ref (ad 58), .int (nI m9), .ref (ad 59)] := (up_n (by decide)).trans x0r
          have x58s : va_up w 58 (eL G 48 (vp_updL f58 q9 (lN (zm y.toInt)))) 58 = eL G 48 (vp_updL f58 q9 (lN (zm y.toInt))) := up_s
          have hvl := hmv q9 hd
          refine lv_aload_n hx hb dX4_tell_52 rfl (lv_at hl 1 rfl) ?_
          refine z_get B hW (0) (by omega) x0s rfl inX4 6 (by decide) hw_121 rfl (v := .ref (ad (58))) rfl dX4_tell_53 ?_
          refine lv_iload_n hx hb dX4_tell_56 rfl (lv_at hl 2 rfl) ?_
          refine z_lald B hW (58) (by omega) x58s (q9) (by omega) (by decide) (v := (lN (zm y.toInt))) pk_uLs dX4_tell_57 ?_
          refine lv_lload_n hx hb dX4_tell_58 rfl (lv_at hl 0 rfl) ?_
          refine lc_eq (tgt := 67) hx hb dX4_tell_59 dX4_tell_60 (by decide) (fun he => ?_) (fun he => ?_)
          · refine lv_iconst (v := nI 0) hx hb dX4_tell_67 (by decide) ?_
            exact ret_i B hr hlk hW ⟨by rw [cif_t ((lN_inj hvl (zm_lt _)).mp he.symm)], hX2, fun j hj => up_n (by omega)⟩ dX4_tell_68
          · refine lv_iconst (v := nI 1) hx hb dX4_tell_63 (by decide) ?_
            refine lv_goto (tgt := 68) hx hb dX4_tell_64 (by decide) ?_
            exact ret_i B hr hlk hW ⟨by rw [cif_f (fun z => he (by rw [z]))], hX2, fun j hj => up_n (by omega)⟩ dX4_tell_68
        · refine lv_aload_n hx hb dX4_tell_27 rfl (lv_at hl 0 rfl) ?_
          refine lv_bipush (v := -3) hx hb dX4_tell_28 (by decide) ?_
          refine call_vi B hA hW (0) (by omega) x0r (r := _) rfl rfl (k_refuse l G n ad w hn σ hX (-3) 3 (by decide) (by decide) (by decide) (by decide) (by decide)) mf_X4_refuse hw_152 rfl ⟨⟨rfl, rfl⟩, by decide, by decide⟩ ⟨Nat.zero_le _, Nat.zero_le _⟩ hl.1 rfl (Nat.le_of_ble_eq_true rfl) dX4_tell_30 (fun r w9 H locs hp hW => ?_)
          exact ret_i B hr hlk hW (by rw [cif_f (fun ⟨q, q1, q2⟩ => by have := (nI_eq hq9 (by omega)).mp q2; omega)]; exact hp) dX4_tell_33
    · exact absurd hz (nI_m1 (by omega))
set_option maxHeartbeats 4000000 in
set_option maxRecDepth 100000 in
theorem k_X4_copy (l : Launch) (G : zG) (n : Nat) (ad : Nat → Nat) (w : Nat → va_E) (hn : 92 ≤ n) (σ : zS) (hX : XOK G ad w σ) (hs : SOK σ) (x y z : Int32) :
    Ci l G yX4_copy cdX4_copy (zr 5) n ad w [.ref (ad (0)), .int (x), .int (y), .int (z)] (postX G ad w (st_copy σ x y z)) := by
  obtain ⟨⟨nf, hB⟩, x0, ⟨f1, x1, v1⟩, ⟨f55, x55⟩, ⟨f56, x56⟩, ⟨f57, x57⟩, ⟨f58, x58, v58⟩, ⟨f59, x59, v59⟩, xf⟩ := id hX
  have hsh := hs.1
  refine ent_i (cc := cX4_copy) (maxL := 4) (ret := (some .int)) (by decide +kernel) rfl (Nat.le_of_ble_eq_true rfl) ?_
  intro p e s m args below meth c A B hr hlk hA H locs ls hW hl
  have hx := B.1
  have hb := B.2.1
  have hl : lv_has ls 4 [(0, .ref (ad (0))), (1, .int (x)), (2, .int (y)), (3, .int (z))] := hl
  obtain ⟨b2, -⟩ := id hB
  rcases hR : sR σ with _ | m9
  · have x0r : w 0 = eO 2 [.ref (ad 1), .int (nI (sH σ)), .ref (ad 2), .ref (ad 55), .ref (ad 56), .ref (ad 57), .ref (ad 58), .int (-1), .ref (ad 59)] := by rw [x0, hR]; rfl
    refine lv_aload_n hx hb dX4_copy_0 rfl (lv_at hl 0 rfl) ?_
    refine z_get B hW (0) (by omega) x0r rfl inX4 7 (by decide) hw_122 rfl (v := .int (-1)) rfl dX4_copy_1 ?_
    refine lv_iconst (v := -1) hx hb dX4_copy_4 (by decide) ?_
    refine lv_icmp_ne (tgt := 15) hx hb dX4_copy_5 (by decide) (fun hz => ?_) (fun hz => ?_)
    · exact absurd rfl hz
    · refine lv_aload_n hx hb dX4_copy_8 rfl (lv_at hl 0 rfl) ?_
      refine lv_bipush (v := -2) hx hb dX4_copy_9 (by decide) ?_
      refine call_vi B hA hW (0) (by omega) x0r (r := _) rfl rfl (k_refuse l G n ad w hn σ hX (-2) 2 (by decide) (by decide) (by decide) (by decide) (by decide)) mf_X4_refuse hw_152 rfl ⟨⟨rfl, rfl⟩, by decide, by decide⟩ ⟨Nat.zero_le _, Nat.zero_le _⟩ hl.1 rfl (Nat.le_of_ble_eq_true rfl) dX4_copy_11 (fun r w9 H locs hp hW => ?_)
      exact ret_i B hr hlk hW (by rw [show st_copy σ x y z = ref σ 2 by unfold st_copy; rw [cif_t hR]]; exact hp) dX4_copy_14
  · have x0r : w 0 = eO 2 [.ref (ad 1), .int (nI (sH σ)), .ref (ad 2), .ref (ad 55), .ref (ad 56), .ref (ad 57), .ref (ad 58), .int (nI m9), .ref (ad 59)] := by rw [x0, hR]; rfl
    obtain ⟨hm48, hmv⟩ := hs.2.2 m9 hR
    have v58r : ∀ i, i < m9 → f58 i = lN (sV σ i) := fun i hi => v58 i (by rw [hR]; exact hi)
    have hgd : (sR σ).getD 0 = m9 := by rw [hR]; rfl
    have hnn : ¬ sR σ = none := by rw [hR]; exact fun q => by cases q
    refine lv_aload_n hx hb dX4_copy_0 rfl (lv_at hl 0 rfl) ?_
    refine z_get B hW (0) (by omega) x0r rfl inX4 7 (by decide) hw_122 rfl (v := .int (nI (m9))) rfl dX4_copy_1 ?_
    refine lv_iconst (v := -1) hx hb dX4_copy_4 (by decide) ?_
    refine lv_icmp_ne (tgt := 15) hx hb dX4_copy_5 (by decide) (fun hz => ?_) (fun hz => ?_)
    · have hS : st_copy σ x y z = cif (z < 0) (ref σ 4) (cif (0 ≤ x.toInt ∧ 0 ≤ y.toInt ∧ x.toInt + z.toInt ≤ ((m9 : Nat) : Int) ∧ y.toInt + z.toInt ≤ ((m9 : Nat) : Int)) (z, sH σ, sW σ, sK σ, sT σ, sE σ, sF σ, sR σ, va_cpy (sV σ) (sV σ) (cN x) (cN y) (cN z)) (ref σ 6)) := by unfold st_copy; rw [cif_f hnn, hgd]
      rw [hS]
      refine lv_iload_n hx hb dX4_copy_15 rfl (lv_at hl 3 rfl) ?_
      refine lv_if_ge (tgt := 26) hx hb dX4_copy_16 (by decide) (fun hc => ?_) (fun hc => ?_)
      · have hnl : ¬ z < 0 := Int32.not_lt.mpr hc
        rw [cif_f hnl]
        obtain ⟨t9, ht9, rfl⟩ := nI_of hnl
        have htI := nI_toInt ht9
        refine lv_iload_n hx hb dX4_copy_26 rfl (lv_at hl 1 rfl) ?_
        refine lv_if_lt (tgt := 54) hx hb dX4_copy_27 (by decide) (fun hc1 => ?_) (fun hc1 => ?_)
        · refine lv_aload_n hx hb dX4_copy_54 rfl (lv_at hl 0 rfl) ?_
          refine lv_bipush (v := -6) hx hb dX4_copy_55 (by decide) ?_
          refine call_vi B hA hW (0) (by omega) x0r (r := _) rfl rfl (k_refuse l G n ad w hn σ hX (-6) 6 (by decide) (by decide) (by decide) (by decide) (by decide)) mf_X4_refuse hw_152 rfl ⟨⟨rfl, rfl⟩, by decide, by decide⟩ ⟨Nat.zero_le _, Nat.zero_le _⟩ hl.1 rfl (Nat.le_of_ble_eq_true rfl) dX4_copy_57 (fun r w9 H locs hp hW => ?_)
          exact ret_i B hr hlk hW (by rw [cif_f (fun ⟨q1, _⟩ => by rw [Int32.lt_iff_toInt_lt] at hc1; exact absurd q1 (Int.not_le.mpr hc1))]; exact hp) dX4_copy_60
        · have hx0 : 0 ≤ x.toInt := by have := Int32.not_lt.mp hc1; rw [Int32.le_iff_toInt_le] at this; exact this
          refine lv_iload_n hx hb dX4_copy_30 rfl (lv_at hl 2 rfl) ?_
          refine lv_if_lt (tgt := 54) hx hb dX4_copy_31 (by decide) (fun hc2 => ?_) (fun hc2 => ?_)
          · refine lv_aload_n hx hb dX4_copy_54 rfl (lv_at hl 0 rfl) ?_
            refine lv_bipush (v := -6) hx hb dX4_copy_55 (by decide) ?_
            refine call_vi B hA hW (0) (by omega) x0r (r := _) rfl rfl (k_refuse l G n ad w hn σ hX (-6) 6 (by decide) (by decide) (by decide) (by decide) (by decide)) mf_X4_refuse hw_152 rfl ⟨⟨rfl, rfl⟩, by decide, by decide⟩ ⟨Nat.zero_le _, Nat.zero_le _⟩ hl.1 rfl (Nat.le_of_ble_eq_true rfl) dX4_copy_57 (fun r w9 H locs hp hW => ?_)
            exact ret_i B hr hlk hW (by rw [cif_f (fun ⟨_, q1, _⟩ => by rw [Int32.lt_iff_toInt_lt] at hc2; exact absurd q1 (Int.not_le.mpr hc2))]; exact hp) dX4_copy_60
          · have hy0 : 0 ≤ y.toInt := by have := Int32.not_lt.mp hc2; rw [Int32.le_iff_toInt_le] at this; exact this
            have hdf : nI m9 - nI t9 = iZ ((m9 : Int) - (t9 : Int)) := by rw [nI_Z, nI_Z, iZ_sub]
            have hdI : (iZ ((m9 : Int) - (t9 : Int))).toInt = (m9 : Int) - (t9 : Int) := iZ_toInt (by omega) (by omega)
            refine lv_iload_n hx hb dX4_copy_34 rfl (lv_at hl 1 rfl) ?_
            refine lv_aload_n hx hb dX4_copy_35 rfl (lv_at hl 0 rfl) ?_
            refine z_get B hW (0) (by omega) x0r rfl inX4 7 (by decide) hw_122 rfl (v := .int (nI (m9))) rfl dX4_copy_36 ?_
            refine lv_iload_n hx hb dX4_copy_39 rfl (lv_at hl 3 rfl) ?_
            refine lv_isub hx hb dX4_copy_40 ?_
            refine topi (y := (iZ ((m9 : Int) - (t9 : Int)))) hdf ?_
            refine lv_icmp_gt (tgt := 54) hx hb dX4_copy_41 (by decide) (fun hc3 => ?_) (fun hc3 => ?_)
            · refine lv_aload_n hx hb dX4_copy_54 rfl (lv_at hl 0 rfl) ?_
              refine lv_bipush (v := -6) hx hb dX4_copy_55 (by decide) ?_
              refine call_vi B hA hW (0) (by omega) x0r (r := _) rfl rfl (k_refuse l G n ad w hn σ hX (-6) 6 (by decide) (by decide) (by decide) (by decide) (by decide)) mf_X4_refuse hw_152 rfl ⟨⟨rfl, rfl⟩, by decide, by decide⟩ ⟨Nat.zero_le _, Nat.zero_le _⟩ hl.1 rfl (Nat.le_of_ble_eq_true rfl) dX4_copy_57 (fun r w9 H locs hp hW => ?_)
              exact ret_i B hr hlk hW (by rw [cif_f (fun ⟨_, _, q1, q2⟩ => by rw [Int32.lt_iff_toInt_lt, hdI] at hc3; omega)]; exact hp) dX4_copy_60
            · have h3 : x.toInt + (t9 : Int) ≤ (m9 : Int) := by have := Int32.not_lt.mp hc3; rw [Int32.le_iff_toInt_le, hdI] at this; omega
              refine lv_iload_n hx hb dX4_copy_44 rfl (lv_at hl 2 rfl) ?_
              refine lv_aload_n hx hb dX4_copy_45 rfl (lv_at hl 0 rfl) ?_
              refine z_get B hW (0) (by omega) x0r rfl inX4 7 (by decide) hw_122 rfl (v := .int (nI (m9))) rfl dX4_copy_46 ?_
              refine lv_iload_n hx hb dX4_copy_49 rfl (lv_at hl 3 rfl) ?_
              refine lv_isub hx hb dX4_copy_50 ?_
              refine topi (y := (iZ ((m9 : Int) - (t9 : Int)))) hdf ?_
              refine lv_icmp_le (tgt := 61) hx hb dX4_copy_51 (by decide) (fun hc4 => ?_) (fun hc4 => ?_)
              · have h4 : y.toInt + (t9 : Int) ≤ (m9 : Int) := by rw [Int32.le_iff_toInt_le, hdI] at hc4; omega
                rw [cif_t ⟨hx0, hy0, by omega, by omega⟩]
                obtain ⟨i9, hi9, rfl⟩ := nI_of hc1
                obtain ⟨j9, hj9, rfl⟩ := nI_of hc2
                rw [nI_toInt hi9] at h3
                rw [nI_toInt hj9] at h4
                rw [cN_nI hi9, cN_nI hj9, cN_nI ht9]
                refine lv_aload_n hx hb dX4_copy_61 rfl (lv_at hl 0 rfl) ?_
                refine z_get B hW (0) (by omega) x0r rfl inX4 6 (by decide) hw_121 rfl (v := .ref (ad (58))) rfl dX4_copy_62 ?_
                refine lv_iload_n hx hb dX4_copy_65 rfl (lv_at hl 1 rfl) ?_
                refine lv_aload_n hx hb dX4_copy_66 rfl (lv_at hl 0 rfl) ?_
                refine z_get B hW (0) (by omega) x0r rfl inX4 6 (by decide) hw_121 rfl (v := .ref (ad (58))) rfl dX4_copy_67 ?_
                refine lv_iload_n hx hb dX4_copy_70 rfl (lv_at hl 2 rfl) ?_
                refine lv_iload_n hx hb dX4_copy_71 rfl (lv_at hl 3 rfl) ?_
                refine z_copyl B hW hl.1 hw_271 hw_58 hw_57 hw_6 58 58 (by omega) (by omega) x58 x58 i9 j9 t9 (by omega) (by omega) (by decide) (by decide) (by decide) (by decide) dX4_copy_72 (fun H locs hW => ?_)
                refine lv_iload_n hx hb dX4_copy_75 rfl (lv_at hl 3 rfl) ?_
                refine ret_i B hr hlk hW ⟨rfl, ?_, fun j hj => up_n (by omega)⟩ dX4_copy_76
                refine ⟨⟨nf, hB.keep (fun j q1 q2 => up_n (by omega))⟩, (up_n (by decide)).trans x0, ⟨f1, (up_n (by decide)).trans x1, v1⟩, ⟨f55, (up_n (by decide)).trans x55⟩, ⟨f56, (up_n (by decide)).trans x56⟩, ⟨f57, (up_n (by decide)).trans x57⟩, ⟨_, up_s, fun i hi => ?_⟩, ⟨f59, (up_n (by decide)).trans x59, v59⟩, fun i hi => ?_⟩
                · show va_cpy f58 f58 i9 j9 t9 i = lN (va_cpy (sV σ) (sV σ) i9 j9 t9 i)
                  have hi : i < m9 := by rw [← hgd]; exact hi
                  by_cases z : j9 ≤ i ∧ i < j9 + t9
                  · rw [pk_cpy_in z.1 z.2, pk_cpy_in z.1 z.2]; exact v58r _ (by omega)
                  · rw [pk_cpy_out (by omega), pk_cpy_out (by omega)]; exact v58r _ hi
                · obtain ⟨a1, a2, a3, a4, a5, a6, a7⟩ := xf i hi
                  exact ⟨a1, a2, a3, a4, (up_n (by omega)).trans a5, (up_n (by omega)).trans a6, a7⟩
              · refine lv_aload_n hx hb dX4_copy_54 rfl (lv_at hl 0 rfl) ?_
                refine lv_bipush (v := -6) hx hb dX4_copy_55 (by decide) ?_
                refine call_vi B hA hW (0) (by omega) x0r (r := _) rfl rfl (k_refuse l G n ad w hn σ hX (-6) 6 (by decide) (by decide) (by decide) (by decide) (by decide)) mf_X4_refuse hw_152 rfl ⟨⟨rfl, rfl⟩, by decide, by decide⟩ ⟨Nat.zero_le _, Nat.zero_le _⟩ hl.1 rfl (Nat.le_of_ble_eq_true rfl) dX4_copy_57 (fun r w9 H locs hp hW => ?_)
                exact ret_i B hr hlk hW (by rw [cif_f (fun ⟨_, _, q1, q2⟩ => hc4 (by rw [Int32.le_iff_toInt_le, hdI]; omega))]; exact hp) dX4_copy_60
      · refine lv_aload_n hx hb dX4_copy_19 rfl (lv_at hl 0 rfl) ?_
        refine lv_bipush (v := -4) hx hb dX4_copy_20 (by decide) ?_
        refine call_vi B hA hW (0) (by omega) x0r (r := _) rfl rfl (k_refuse l G n ad w hn σ hX (-4) 4 (by decide) (by decide) (by decide) (by decide) (by decide)) mf_X4_refuse hw_152 rfl ⟨⟨rfl, rfl⟩, by decide, by decide⟩ ⟨Nat.zero_le _, Nat.zero_le _⟩ hl.1 rfl (Nat.le_of_ble_eq_true rfl) dX4_copy_22 (fun r w9 H locs hp hW => ?_)
        exact ret_i B hr hlk hW (by rw [cif_t (Int32.not_le.mp hc)]; exact hp) dX4_copy_25
    · exact absurd hz (nI_m1 (by omega))
set_option maxHeartbeats 4000000 in
set_option maxRecDepth 100000 in
theorem k_X4_give (l : Launch) (G : zG) (n : Nat) (ad : Nat → Nat) (w : Nat → va_E) (hn : 92 ≤ n) (σ : zS) (hX : XOK G ad w σ) (hs : SOK σ) (x : Int32) :
    Ci l G yX4_give cdX4_give (zr 5) n ad w [.ref (ad (0)), .int (x)] (postX G ad w (st_give σ x)) := by
  obtain ⟨⟨nf, hB⟩, x0, ⟨f1, x1, v1⟩, ⟨f55, x55⟩, ⟨f56, x56⟩, ⟨f57, x57⟩, ⟨f58, x58, v58⟩, ⟨f59, x59, v59⟩, xf⟩ := id hX
  have hsh := hs.1
  refine ent_i (cc := cX4_give) (maxL := 2) (ret := (some .int)) (by decide +kernel) rfl (Nat.le_of_ble_eq_true rfl) ?_
  intro p e s m args below meth c A B hr hlk hA H locs ls hW hl
  have hx := B.1
  have hb := B.2.1
  have hl : lv_has ls 2 [(0, .ref (ad (0))), (1, .int (x))] := hl
  obtain ⟨b2, -⟩ := id hB
  rcases hR : sR σ with _ | m9
  · have x0r : w 0 = eO 2 [.ref (ad 1), .int (nI (sH σ)), .ref (ad 2), .ref (ad 55), .ref (ad 56), .ref (ad 57), .ref (ad 58), .int (-1), .ref (ad 59)] := by rw [x0, hR]; rfl
    refine lv_aload_n hx hb dX4_give_0 rfl (lv_at hl 0 rfl) ?_
    refine z_get B hW (0) (by omega) x0r rfl inX4 7 (by decide) hw_122 rfl (v := .int (-1)) rfl dX4_give_1 ?_
    refine lv_iconst (v := -1) hx hb dX4_give_4 (by decide) ?_
    refine lv_icmp_ne (tgt := 15) hx hb dX4_give_5 (by decide) (fun hz => ?_) (fun hz => ?_)
    · exact absurd rfl hz
    · refine lv_aload_n hx hb dX4_give_8 rfl (lv_at hl 0 rfl) ?_
      refine lv_bipush (v := -2) hx hb dX4_give_9 (by decide) ?_
      refine call_vi B hA hW (0) (by omega) x0r (r := _) rfl rfl (k_refuse l G n ad w hn σ hX (-2) 2 (by decide) (by decide) (by decide) (by decide) (by decide)) mf_X4_refuse hw_152 rfl ⟨⟨rfl, rfl⟩, by decide, by decide⟩ ⟨Nat.zero_le _, Nat.zero_le _⟩ hl.1 rfl (Nat.le_of_ble_eq_true rfl) dX4_give_11 (fun r w9 H locs hp hW => ?_)
      exact ret_i B hr hlk hW (by rw [show st_give σ x = ref σ 2 by unfold st_give; rw [cif_t hR]]; exact hp) dX4_give_14
  · have x0r : w 0 = eO 2 [.ref (ad 1), .int (nI (sH σ)), .ref (ad 2), .ref (ad 55), .ref (ad 56), .ref (ad 57), .ref (ad 58), .int (nI m9), .ref (ad 59)] := by rw [x0, hR]; rfl
    obtain ⟨hm48, hmv⟩ := hs.2.2 m9 hR
    have v58r : ∀ i, i < m9 → f58 i = lN (sV σ i) := fun i hi => v58 i (by rw [hR]; exact hi)
    have hgd : (sR σ).getD 0 = m9 := by rw [hR]; rfl
    have hnn : ¬ sR σ = none := by rw [hR]; exact fun q => by cases q
    refine lv_aload_n hx hb dX4_give_0 rfl (lv_at hl 0 rfl) ?_
    refine z_get B hW (0) (by omega) x0r rfl inX4 7 (by decide) hw_122 rfl (v := .int (nI (m9))) rfl dX4_give_1 ?_
    refine lv_iconst (v := -1) hx hb dX4_give_4 (by decide) ?_
    refine lv_icmp_ne (tgt := 15) hx hb dX4_give_5 (by decide) (fun hz => ?_) (fun hz => ?_)
    · have hS : st_give σ x = cif (isW x ∧ zs (cN x) ≤ m9) (comeO σ (cN x) (bld (bas (cN x)) (zs (cN x)) (prt (bas (cN x)) (sV σ)))) (ref σ 7) := by unfold st_give; rw [cif_f hnn, hgd]
      rw [hS]
      refine lv_iload_n hx hb dX4_give_15 rfl (lv_at hl 1 rfl) ?_
      refine call_si B hA hW (k_isWeight l G n ad w x) mf_X4_isWeight hw_267 rfl ⟨⟨rfl, rfl⟩, by decide, by decide⟩ ⟨Nat.zero_le _, Nat.zero_le _⟩ hl.1 rfl (Nat.le_of_ble_eq_true rfl) dX4_give_16 (fun r w9 H locs hp hW => ?_)
      obtain ⟨e1, hp⟩ := hp
      rw [e1] at hW
      rcases hp with ⟨k, hk, hk2, rfl, rfl⟩ | ⟨hnf, rfl⟩
      · rw [cN_nI (show k < 2 ^ 31 by omega)]
        have hzl := zs_le k hk
        refine n_if_eq (tgt := 37) hx hb (by omega) dX4_give_19 (by decide) (fun hz2 => ?_) (fun hz2 => ?_)
        · exact absurd hz2 (by decide)
        · refine lv_aload_n hx hb dX4_give_22 rfl (lv_at hl 0 rfl) ?_
          refine z_get B hW (0) (by omega) x0r rfl inX4 7 (by decide) hw_122 rfl (v := .int (nI (m9))) rfl dX4_give_23 ?_
          refine lv_aload_n hx hb dX4_give_26 rfl (lv_at hl 0 rfl) ?_
          refine z_get B hW (0) (by omega) x0r rfl inX4 2 (by decide) hw_117 rfl (v := .ref (ad (2))) rfl dX4_give_27 ?_
          refine lv_iload_n hx hb dX4_give_30 rfl (lv_at hl 1 rfl) ?_
          refine call_vi B hA hW (2) (by omega) b2 (r := _) rfl rfl (k_sizeOf l G n ad w k nf nf (by omega) hk hB) mf_X0_sizeOf hw_245 rfl ⟨⟨rfl, rfl⟩, by decide, by decide⟩ ⟨Nat.zero_le _, Nat.zero_le _⟩ hl.1 rfl (Nat.le_of_ble_eq_true rfl) dX4_give_31 (fun r w9 H locs hp hW => ?_)
          obtain ⟨e1, e2⟩ := hp
          rw [e1] at hW
          subst e2
          refine n_icmp_ge (tgt := 44) hx hb (by omega) (by omega) dX4_give_34 (by decide) (fun hd => ?_) (fun hd => ?_)
          · rw [cif_t ⟨⟨k, hk, hk2, rfl⟩, hd⟩]
            refine lv_aload_n hx hb dX4_give_44 rfl (lv_at hl 0 rfl) ?_
            refine lv_iload_n hx hb dX4_give_45 rfl (lv_at hl 1 rfl) ?_
            refine call_vi B hA hW (0) (by omega) x0r (r := _) rfl rfl (k_hasRoom l G n ad w hn σ hX hs (k) (by omega)) mf_X4_hasRoom hw_159 rfl ⟨⟨rfl, rfl⟩, by decide, by decide⟩ ⟨Nat.zero_le _, Nat.zero_le _⟩ hl.1 rfl (Nat.le_of_ble_eq_true rfl) dX4_give_46 (fun r w9 H locs hp hW => ?_)
            obtain ⟨e1, hp⟩ := hp
            rw [e1] at hW
            rcases hp with ⟨hh, hk40, rfl⟩ | ⟨hnr, rfl⟩
            · obtain ⟨xa, ya, za, fa, g1, g2⟩ := hX.free hh
              refine n_if_ne (tgt := 59) hx hb (by omega) dX4_give_49 (by decide) (fun hz => ?_) (fun hz => ?_)
              · refine lv_aload_n hx hb dX4_give_59 rfl (lv_at hl 0 rfl) ?_
                refine z_get B hW (0) (by omega) x0r rfl inX4 2 (by decide) hw_117 rfl (v := .ref (ad (2))) rfl dX4_give_60 ?_
                refine lv_iload_n hx hb dX4_give_63 rfl (lv_at hl 1 rfl) ?_
                refine lv_aload_n hx hb dX4_give_64 rfl (lv_at hl 0 rfl) ?_
                refine z_get B hW (0) (by omega) x0r rfl inX4 6 (by decide) hw_121 rfl (v := .ref (ad (58))) rfl dX4_give_65 ?_
                refine lv_aload_n hx hb dX4_give_68 rfl (lv_at hl 0 rfl) ?_
                refine z_get B hW (0) (by omega) x0r rfl inX4 3 (by decide) hw_118 rfl (v := .ref (ad (55))) rfl dX4_give_69 ?_
                refine call_vv B hA hW (2) (by omega) b2 (r := _) rfl rfl (k_findPartsN l G n ad w k nf 58 55 48 (sV σ) (by omega) hk hk2 hB (by omega) (by omega) (by omega) (by omega) (by omega) (by omega) (by decide) f58 x58 (fun i hi => v58r i (by omega)) (fun i hi => hmv i (by omega)) f55 x55) mf_X0_findParts hw_223 rfl ⟨⟨rfl, rfl⟩, by decide, by decide⟩ ⟨Nat.zero_le _, Nat.zero_le _⟩ hl.1 rfl (Nat.le_of_ble_eq_true rfl) dX4_give_72 (fun w2 H locs hp hW => ?_)
                obtain ⟨nf2, hB2, fr2, p2, q2, v2, -⟩ := hp
                have hX2 : XOK G ad w2 σ := hX.parts hB2 fr2 ⟨_, q2⟩
                obtain ⟨b22, -⟩ := id hB2
                obtain ⟨f12, x12, v12⟩ := hX2.2.2.1
                obtain ⟨xa3, ya3, za3, fa3, g13, g23⟩ := hX2.free hh
                refine lv_aload_n hx hb dX4_give_75 rfl (lv_at hl 0 rfl) ?_
                refine z_get B hW (0) (by omega) hX2.2.1 rfl inX4 2 (by decide) hw_117 rfl (v := .ref (ad (2))) rfl dX4_give_76 ?_
                refine lv_iload_n hx hb dX4_give_79 rfl (lv_at hl 1 rfl) ?_
                refine lv_aload_n hx hb dX4_give_80 rfl (lv_at hl 0 rfl) ?_
                refine z_get B hW (0) (by omega) hX2.2.1 rfl inX4 3 (by decide) hw_118 rfl (v := .ref (ad (55))) rfl dX4_give_81 ?_
                refine lv_aload_n hx hb dX4_give_84 rfl (lv_at hl 0 rfl) ?_
                refine z_get B hW (0) (by omega) hX2.2.1 rfl inX4 0 (by decide) hw_115 rfl (v := .ref (ad (1))) rfl dX4_give_85 ?_
                refine lv_aload_n hx hb dX4_give_88 rfl (lv_at hl 0 rfl) ?_
                refine z_get B hW (0) (by omega) hX2.2.1 rfl inX4 1 (by decide) hw_116 rfl (v := .int (nI (sH σ))) rfl dX4_give_89 ?_
                refine z_aald B hW (1) (by omega) x12 (sH σ) (by omega) (by decide) (q := ad (60 + 2 * (sH σ))) (v12 _ (by omega)) dX4_give_92 ?_
                refine z_get B hW (60 + 2 * (sH σ)) (by omega) g13 rfl inX1 0 (by decide) hw_101 rfl (v := .ref (ad (61 + 2 * (sH σ)))) rfl dX4_give_93 ?_
                refine call_vv B hA hW (2) (by omega) b22 (r := _) rfl rfl (k_join l G n ad w2 k nf2 55 (61 + 2 * sH σ) (prt (bas k) (sV σ)) (by omega) hk hk2 hB2 (by omega) (by omega) (by omega) (by omega) (by omega) (fun j hj => prt_lt (hmv j (by omega))) p2 q2 v2 ⟨_, g23⟩) mf_X0_join hw_246 rfl ⟨⟨rfl, rfl⟩, by decide, by decide⟩ ⟨Nat.zero_le _, Nat.zero_le _⟩ hl.1 rfl (Nat.le_of_ble_eq_true rfl) dX4_give_96 (fun w4 H locs hp hW => ?_)
                obtain ⟨nf4, hB4, fr4, hL4⟩ := hp
                have hX2b : XOK G ad w4 σ := hX2.join1 hB4 fr4 ⟨_, hL4.choose_spec.1⟩
                have hX2 := hX2b
                refine lv_aload_n hx hb dX4_give_99 rfl (lv_at hl 0 rfl) ?_
                refine lv_iload_n hx hb dX4_give_100 rfl (lv_at hl 1 rfl) ?_
                refine call_vi B hA hW (0) (by omega) hX2.2.1 (r := _) rfl rfl (k_comeOfOthers l G n ad w4 hn σ hX2 hs hh (k) hk40 (bld (bas k) (zs k) (prt (bas k) (sV σ))) hL4 (bld_lt _ _ _ _)) mf_X4_comeOfOthers hw_192 rfl ⟨⟨rfl, rfl⟩, by decide, by decide⟩ ⟨Nat.zero_le _, Nat.zero_le _⟩ hl.1 rfl (Nat.le_of_ble_eq_true rfl) dX4_give_101 (fun r w9 H locs hp9 hW => ?_)
                exact ret_i B hr hlk hW ⟨hp9.1, hp9.2.1, fun j hj => (hp9.2.2 j hj).trans ((fr4 j (by omega) (by omega) (by omega)).trans (fr2 j (by omega) (by omega) (by omega)))⟩ dX4_give_104
              · exact absurd hz (by decide)
            · refine n_if_ne (tgt := 59) hx hb (by omega) dX4_give_49 (by decide) (fun hz => ?_) (fun hz => ?_)
              · exact absurd rfl hz
              · refine lv_aload_n hx hb dX4_give_52 rfl (lv_at hl 0 rfl) ?_
                refine lv_bipush (v := -8) hx hb dX4_give_53 (by decide) ?_
                refine call_vi B hA hW (0) (by omega) x0r (r := _) rfl rfl (k_refuse l G n ad w hn σ hX (-8) 8 (by decide) (by decide) (by decide) (by decide) (by decide)) mf_X4_refuse hw_152 rfl ⟨⟨rfl, rfl⟩, by decide, by decide⟩ ⟨Nat.zero_le _, Nat.zero_le _⟩ hl.1 rfl (Nat.le_of_ble_eq_true rfl) dX4_give_55 (fun r w9 H locs hp hW => ?_)
                exact ret_i B hr hlk hW (by rw [comeO_full hnr]; exact hp) dX4_give_58
          · refine lv_aload_n hx hb dX4_give_37 rfl (lv_at hl 0 rfl) ?_
            refine lv_bipush (v := -7) hx hb dX4_give_38 (by decide) ?_
            refine call_vi B hA hW (0) (by omega) x0r (r := _) rfl rfl (k_refuse l G n ad w hn σ hX (-7) 7 (by decide) (by decide) (by decide) (by decide) (by decide)) mf_X4_refuse hw_152 rfl ⟨⟨rfl, rfl⟩, by decide, by decide⟩ ⟨Nat.zero_le _, Nat.zero_le _⟩ hl.1 rfl (Nat.le_of_ble_eq_true rfl) dX4_give_40 (fun r w9 H locs hp hW => ?_)
            exact ret_i B hr hlk hW (by rw [cif_f (fun q => by omega)]; exact hp) dX4_give_43
      · refine n_if_eq (tgt := 37) hx hb (by omega) dX4_give_19 (by decide) (fun hz2 => ?_) (fun hz2 => ?_)
        · refine lv_aload_n hx hb dX4_give_37 rfl (lv_at hl 0 rfl) ?_
          refine lv_bipush (v := -7) hx hb dX4_give_38 (by decide) ?_
          refine call_vi B hA hW (0) (by omega) x0r (r := _) rfl rfl (k_refuse l G n ad w hn σ hX (-7) 7 (by decide) (by decide) (by decide) (by decide) (by decide)) mf_X4_refuse hw_152 rfl ⟨⟨rfl, rfl⟩, by decide, by decide⟩ ⟨Nat.zero_le _, Nat.zero_le _⟩ hl.1 rfl (Nat.le_of_ble_eq_true rfl) dX4_give_40 (fun r w9 H locs hp hW => ?_)
          exact ret_i B hr hlk hW (by rw [cif_f (fun q => hnf q.1)]; exact hp) dX4_give_43
        · exact absurd rfl hz2
    · exact absurd hz (nI_m1 (by omega))
set_option maxHeartbeats 4000000 in
set_option maxRecDepth 100000 in
theorem k_X4_lay (l : Launch) (G : zG) (n : Nat) (ad : Nat → Nat) (w : Nat → va_E) (hn : 92 ≤ n) (σ : zS) (hX : XOK G ad w σ) (hs : SOK σ) (f x : Int32) :
    Ci l G yX4_lay cdX4_lay (zr 5) n ad w [.ref (ad (0)), .int (f), .int (x)] (postX G ad w (st_lay σ f x)) := by
  obtain ⟨⟨nf, hB⟩, x0, ⟨f1, x1, v1⟩, ⟨f55, x55⟩, ⟨f56, x56⟩, ⟨f57, x57⟩, ⟨f58, x58, v58⟩, ⟨f59, x59, v59⟩, xf⟩ := id hX
  have hsh := hs.1
  refine ent_i (cc := cX4_lay) (maxL := 3) (ret := (some .int)) (by decide +kernel) rfl (Nat.le_of_ble_eq_true rfl) ?_
  intro p e s m args below meth c A B hr hlk hA H locs ls hW hl
  have hx := B.1
  have hb := B.2.1
  have hl : lv_has ls 3 [(0, .ref (ad (0))), (1, .int (f)), (2, .int (x))] := hl
  obtain ⟨b2, -⟩ := id hB
  refine lv_aload_n hx hb dX4_lay_0 rfl (lv_at hl 0 rfl) ?_
  refine lv_iload_n hx hb dX4_lay_1 rfl (lv_at hl 1 rfl) ?_
  refine call_vi B hA hW (0) (by omega) x0 (r := _) rfl rfl (k_isForm l G n ad w hn σ hX hs f) mf_X4_isForm hw_187 rfl ⟨⟨rfl, rfl⟩, by decide, by decide⟩ ⟨Nat.zero_le _, Nat.zero_le _⟩ hl.1 rfl (Nat.le_of_ble_eq_true rfl) dX4_lay_2 (fun r w9 H locs hp hW => ?_)
  obtain ⟨e1, hp⟩ := hp
  rw [e1] at hW
  rcases hp with ⟨i, hi, rfl, rfl⟩ | ⟨hnf, rfl⟩
  · obtain ⟨w40_i, w2_i, k4_i, t40_i, r_i, s_i⟩ := hs.2.1 i hi
    obtain ⟨o_i, n_i⟩ := hX.form hs hi
    obtain ⟨f_i, e_i, v_i⟩ := id n_i
    refine n_if_ne (tgt := 15) hx hb (by omega) dX4_lay_5 (by decide) (fun hz => ?_) (fun hz => ?_)
    · refine lv_iload_n hx hb dX4_lay_15 rfl (lv_at hl 2 rfl) ?_
      refine lv_if_ge (tgt := 26) hx hb dX4_lay_16 (by decide) (fun hc => ?_) (fun hc => ?_)
      · have hnl : ¬ x < 0 := Int32.not_lt.mpr hc
        obtain ⟨t9, ht9, rfl⟩ := nI_of hnl
        refine lv_iload_n hx hb dX4_lay_26 rfl (lv_at hl 2 rfl) ?_
        refine lv_bipush (v := nI 48) hx hb dX4_lay_27 (by decide) ?_
        refine n_icmp_le (tgt := 39) hx hb (by omega) (by omega) dX4_lay_29 (by decide) (fun hd => ?_) (fun hd => ?_)
        · have hS : st_lay σ (nI i) (nI t9) = (nI t9, sH σ, sW σ, sK σ, sT σ, sE σ, sF σ, some t9, sE σ i) := by
            unfold st_lay
            rw [cif_t ⟨i, hi, rfl⟩, cif_f hnl, cN_nI ht9, cif_f (by omega), cN_nI (by omega)]
          rw [hS]
          refine lv_aload_n hx hb dX4_lay_39 rfl (lv_at hl 0 rfl) ?_
          refine z_get B hW (0) (by omega) x0 rfl inX4 0 (by decide) hw_115 rfl (v := .ref (ad (1))) rfl dX4_lay_40 ?_
          refine lv_iload_n hx hb dX4_lay_43 rfl (lv_at hl 1 rfl) ?_
          refine z_aald B hW (1) (by omega) x1 (i) (by omega) (by decide) (q := ad (60 + 2 * (i))) (v1 _ (by omega)) dX4_lay_44 ?_
          refine z_get B hW (60 + 2 * (i)) (by omega) o_i rfl inX1 0 (by decide) hw_101 rfl (v := .ref (ad (61 + 2 * (i)))) rfl dX4_lay_45 ?_
          refine lv_iconst (v := nI 0) hx hb dX4_lay_48 (by decide) ?_
          refine lv_aload_n hx hb dX4_lay_49 rfl (lv_at hl 0 rfl) ?_
          refine z_get B hW (0) (by omega) x0 rfl inX4 6 (by decide) hw_121 rfl (v := .ref (ad (58))) rfl dX4_lay_50 ?_
          refine lv_iconst (v := nI 0) hx hb dX4_lay_53 (by decide) ?_
          refine lv_iload_n hx hb dX4_lay_54 rfl (lv_at hl 2 rfl) ?_
          refine z_copyl B hW hl.1 hw_271 hw_58 hw_57 hw_6 (61 + 2 * (i)) 58 (by omega) (by omega) e_i x58 0 0 t9 (by omega) (by omega) (by decide) (by decide) (by decide) (by decide) dX4_lay_55 (fun H locs hW => ?_)
          have x0s := (show va_up w 58 (eL G 48 (va_cpy f_i f58 0 0 t9)) 0 = w 0 from up_n (by decide)).trans x0
          refine lv_aload_n hx hb dX4_lay_58 rfl (lv_at hl 0 rfl) ?_
          refine lv_iload_n hx hb dX4_lay_59 rfl (lv_at hl 2 rfl) ?_
          refine z_put B hW (0) (by omega) x0s rfl inX4 tyX4 tyX4_ok nmX4 7 (by decide) hw_122 rfl rfl (v := .int (nI (t9))) rfl rfl (Nat.le_of_ble_eq_true rfl) dX4_lay_60 (fun H locs hW => ?_)
          refine lv_iload_n hx hb dX4_lay_63 rfl (lv_at hl 2 rfl) ?_
          refine ret_i B hr hlk hW ⟨rfl, ?_, fun j hj => by rw [up_n (by omega), up_n (by omega)]⟩ dX4_lay_64
          have hk2 : ∀ j, j ≠ 0 → j ≠ 58 → va_up (va_up w 58 (eL G 48 (va_cpy f_i f58 0 0 t9))) 0 (eO 2 [.ref (ad 1), .int (nI (sH σ)), .ref (ad 2), .ref (ad 55), .ref (ad 56), .ref (ad 57), .ref (ad 58), .int (nI t9), .ref (ad 59)]) j = w j := fun j q1 q2 => by rw [up_n q1, up_n q2]
          refine ⟨⟨nf, hB.keep (fun j q1 q2 => hk2 j (by omega) (by omega))⟩, up_s, ⟨f1, (hk2 1 (by decide) (by decide)).trans x1, v1⟩, ⟨f55, (hk2 55 (by decide) (by decide)).trans x55⟩, ⟨f56, (hk2 56 (by decide) (by decide)).trans x56⟩, ⟨f57, (hk2 57 (by decide) (by decide)).trans x57⟩, ⟨_, (up_n (by decide)).trans up_s, fun q hq => ?_⟩, ⟨f59, (hk2 59 (by decide) (by decide)).trans x59, v59⟩, fun q hq => ?_⟩
          · have hq : q < t9 := hq
            show va_cpy f_i f58 0 0 t9 q = lN (sE σ i q)
            rw [pk_cpy_in (by omega) (by omega), ← v_i q (by omega)]
            congr 1
            omega
          · obtain ⟨a1, a2, a3, a4, a5, a6, a7⟩ := xf q hq
            exact ⟨a1, a2, a3, a4, (hk2 _ (by omega) (by omega)).trans a5, (hk2 _ (by omega) (by omega)).trans a6, a7⟩
        · refine lv_aload_n hx hb dX4_lay_32 rfl (lv_at hl 0 rfl) ?_
          refine lv_bipush (v := -7) hx hb dX4_lay_33 (by decide) ?_
          refine call_vi B hA hW (0) (by omega) x0 (r := _) rfl rfl (k_refuse l G n ad w hn σ hX (-7) 7 (by decide) (by decide) (by decide) (by decide) (by decide)) mf_X4_refuse hw_152 rfl ⟨⟨rfl, rfl⟩, by decide, by decide⟩ ⟨Nat.zero_le _, Nat.zero_le _⟩ hl.1 rfl (Nat.le_of_ble_eq_true rfl) dX4_lay_35 (fun r w9 H locs hp hW => ?_)
          exact ret_i B hr hlk hW (by rw [show st_lay σ (nI i) (nI t9) = ref σ 7 by unfold st_lay; rw [cif_t ⟨i, hi, rfl⟩, cif_f hnl, cN_nI ht9, cif_t (by omega)]]; exact hp) dX4_lay_38
      · refine lv_aload_n hx hb dX4_lay_19 rfl (lv_at hl 0 rfl) ?_
        refine lv_bipush (v := -4) hx hb dX4_lay_20 (by decide) ?_
        refine call_vi B hA hW (0) (by omega) x0 (r := _) rfl rfl (k_refuse l G n ad w hn σ hX (-4) 4 (by decide) (by decide) (by decide) (by decide) (by decide)) mf_X4_refuse hw_152 rfl ⟨⟨rfl, rfl⟩, by decide, by decide⟩ ⟨Nat.zero_le _, Nat.zero_le _⟩ hl.1 rfl (Nat.le_of_ble_eq_true rfl) dX4_lay_22 (fun r w9 H locs hp hW => ?_)
        exact ret_i B hr hlk hW (by rw [show st_lay σ (nI i) x = ref σ 4 by unfold st_lay; rw [cif_t ⟨i, hi, rfl⟩, cif_t (Int32.not_le.mp hc)]]; exact hp) dX4_lay_25
    · exact absurd hz (by decide)
  · refine n_if_ne (tgt := 15) hx hb (by omega) dX4_lay_5 (by decide) (fun hz => ?_) (fun hz => ?_)
    · exact absurd rfl hz
    · refine lv_aload_n hx hb dX4_lay_8 rfl (lv_at hl 0 rfl) ?_
      refine lv_bipush (v := -3) hx hb dX4_lay_9 (by decide) ?_
      refine call_vi B hA hW (0) (by omega) x0 (r := _) rfl rfl (k_refuse l G n ad w hn σ hX (-3) 3 (by decide) (by decide) (by decide) (by decide) (by decide)) mf_X4_refuse hw_152 rfl ⟨⟨rfl, rfl⟩, by decide, by decide⟩ ⟨Nat.zero_le _, Nat.zero_le _⟩ hl.1 rfl (Nat.le_of_ble_eq_true rfl) dX4_lay_11 (fun r w9 H locs hp hW => ?_)
      exact ret_i B hr hlk hW (by rw [show st_lay σ f x = ref σ 3 by unfold st_lay; rw [cif_f hnf]]; exact hp) dX4_lay_14
set_option maxHeartbeats 4000000 in
set_option maxRecDepth 100000 in
theorem k_X4_status (l : Launch) (G : zG) (n : Nat) (ad : Nat → Nat) (w : Nat → va_E) (hn : 92 ≤ n) (σ : zS) (hX : XOK G ad w σ) (hs : SOK σ) (x : Int32) :
    Ci l G yX4_status cdX4_status (zr 5) n ad w [.ref (ad (0)), .int (x)] (postX G ad w (st_status σ x)) := by
  obtain ⟨⟨nf, hB⟩, x0, ⟨f1, x1, v1⟩, ⟨f55, x55⟩, ⟨f56, x56⟩, ⟨f57, x57⟩, ⟨f58, x58, v58⟩, ⟨f59, x59, v59⟩, xf⟩ := id hX
  have hsh := hs.1
  refine ent_i (cc := cX4_status) (maxL := 2) (ret := (some .int)) (by decide +kernel) rfl (Nat.le_of_ble_eq_true rfl) ?_
  intro p e s m args below meth c A B hr hlk hA H locs ls hW hl
  have hx := B.1
  have hb := B.2.1
  have hl : lv_has ls 2 [(0, .ref (ad (0))), (1, .int (x))] := hl
  obtain ⟨b2, -⟩ := id hB
  refine lv_iload_n hx hb dX4_status_0 rfl (lv_at hl 1 rfl) ?_
  refine call_si B hA hW (k_isRefusal l G n ad w x) mf_X4_isRefusal hw_156 rfl ⟨⟨rfl, rfl⟩, by decide, by decide⟩ ⟨Nat.zero_le _, Nat.zero_le _⟩ hl.1 rfl (Nat.le_of_ble_eq_true rfl) dX4_status_1 (fun r w9 H locs hp hW => ?_)
  obtain ⟨e1, hp⟩ := hp
  rw [e1] at hW
  rcases hp with ⟨h1, h2, rfl⟩ | ⟨hno, rfl⟩
  · refine n_if_eq (tgt := 17) hx hb (by omega) dX4_status_4 (by decide) (fun hz => ?_) (fun hz => ?_)
    · exact absurd hz (by decide)
    · obtain ⟨c9, hc1, hc2, hc3⟩ := neg_rng h1 h2
      refine lv_aload_n hx hb dX4_status_7 rfl (lv_at hl 0 rfl) ?_
      refine z_get B hW (0) (by omega) x0 rfl inX4 8 (by decide) hw_123 rfl (v := .ref (ad (59))) rfl dX4_status_8 ?_
      refine lv_iload_n hx hb dX4_status_11 rfl (lv_at hl 1 rfl) ?_
      refine lv_ineg hx hb dX4_status_12 ?_
      refine topi (y := (nI (c9))) hc3 ?_
      refine z_iald B hW (59) (by omega) x59 (c9) (by omega) (by decide) (v := (sF σ c9)) (v59 _ hc1 hc2) dX4_status_13 ?_
      refine lv_goto (tgt := 23) hx hb dX4_status_14 (by decide) ?_
      exact ret_i B hr hlk hW (by rw [show st_status σ x = (sF σ c9, σ) by unfold st_status; rw [cif_t ⟨h1, h2⟩, hc3, cN_nI (by omega)]]; exact ⟨rfl, hX, fun _ _ => rfl⟩) dX4_status_23
  · refine n_if_eq (tgt := 17) hx hb (by omega) dX4_status_4 (by decide) (fun hz => ?_) (fun hz => ?_)
    · refine lv_aload_n hx hb dX4_status_17 rfl (lv_at hl 0 rfl) ?_
      refine lv_bipush (v := -7) hx hb dX4_status_18 (by decide) ?_
      refine call_vi B hA hW (0) (by omega) x0 (r := _) rfl rfl (k_refuse l G n ad w hn σ hX (-7) 7 (by decide) (by decide) (by decide) (by decide) (by decide)) mf_X4_refuse hw_152 rfl ⟨⟨rfl, rfl⟩, by decide, by decide⟩ ⟨Nat.zero_le _, Nat.zero_le _⟩ hl.1 rfl (Nat.le_of_ble_eq_true rfl) dX4_status_20 (fun r w9 H locs hp hW => ?_)
      exact ret_i B hr hlk hW (by rw [show st_status σ x = ref σ 7 by unfold st_status; rw [cif_f hno]]; exact hp) dX4_status_23
    · exact absurd rfl hz
set_option maxHeartbeats 4000000 in
set_option maxRecDepth 100000 in
theorem k_X4_look (l : Launch) (G : zG) (n : Nat) (ad : Nat → Nat) (w : Nat → va_E) (hn : 92 ≤ n) (σ : zS) (hX : XOK G ad w σ) (hs : SOK σ) (f x : Int32) :
    Ci l G yX4_look cdX4_look (zr 5) n ad w [.ref (ad (0)), .int (f), .int (x)] (postX G ad w (st_look σ f x)) := by
  obtain ⟨⟨nf, hB⟩, x0, ⟨f1, x1, v1⟩, ⟨f55, x55⟩, ⟨f56, x56⟩, ⟨f57, x57⟩, ⟨f58, x58, v58⟩, ⟨f59, x59, v59⟩, xf⟩ := id hX
  have hsh := hs.1
  refine ent_i (cc := cX4_look) (maxL := 4) (ret := (some .int)) (by decide +kernel) rfl (Nat.le_of_ble_eq_true rfl) ?_
  intro p e s m args below meth c A B hr hlk hA H locs ls hW hl
  have hx := B.1
  have hb := B.2.1
  have hl : lv_has ls 4 [(0, .ref (ad (0))), (1, .int (f)), (2, .int (x))] := hl
  obtain ⟨b2, -⟩ := id hB
  refine lv_aload_n hx hb dX4_look_0 rfl (lv_at hl 0 rfl) ?_
  refine lv_iload_n hx hb dX4_look_1 rfl (lv_at hl 1 rfl) ?_
  refine call_vi B hA hW (0) (by omega) x0 (r := _) rfl rfl (k_isForm l G n ad w hn σ hX hs f) mf_X4_isForm hw_187 rfl ⟨⟨rfl, rfl⟩, by decide, by decide⟩ ⟨Nat.zero_le _, Nat.zero_le _⟩ hl.1 rfl (Nat.le_of_ble_eq_true rfl) dX4_look_2 (fun r w9 H locs hp hW => ?_)
  obtain ⟨e1, hp⟩ := hp
  rw [e1] at hW
  rcases hp with ⟨i, hi, rfl, rfl⟩ | ⟨hnf, rfl⟩
  · obtain ⟨w40_i, w2_i, k4_i, t40_i, r_i, s_i⟩ := hs.2.1 i hi
    obtain ⟨o_i, n_i⟩ := hX.form hs hi
    obtain ⟨f_i, e_i, v_i⟩ := id n_i
    refine n_if_ne (tgt := 15) hx hb (by omega) dX4_look_5 (by decide) (fun hz => ?_) (fun hz => ?_)
    · have hS : st_look σ (nI i) x = cif (x = nI 0) (nI (sK σ i), σ) (cif (x = nI 1) (nI (sW σ i), σ) (cif (x = nI 2) (theI (lstR (sE σ i)), σ) (cif (x = nI 3) (nI (zs (sW σ i)), σ) (cif (x = nI 4) (cif (sK σ i = 1 ∨ sK σ i = 2) (nI (sT σ i), σ) (ref σ 5)) (ref σ 7))))) := by
        unfold st_look
        rw [cif_t ⟨i, hi, rfl⟩, cN_nI (by omega)]
      rw [hS]
      refine lv_aload_n hx hb dX4_look_15 rfl (lv_at hl 0 rfl) ?_
      refine z_get B hW (0) (by omega) x0 rfl inX4 0 (by decide) hw_115 rfl (v := .ref (ad (1))) rfl dX4_look_16 ?_
      refine lv_iload_n hx hb dX4_look_19 rfl (lv_at hl 1 rfl) ?_
      refine z_aald B hW (1) (by omega) x1 (i) (by omega) (by decide) (q := ad (60 + 2 * (i))) (v1 _ (by omega)) dX4_look_20 ?_
      refine lv_astore_n (lv' := [(3, .ref (ad (60 + 2 * (i)))), (0, .ref (ad (0))), (1, .int (nI (i))), (2, .int (x))]) hx hb dX4_look_21 rfl hl (by decide) rfl (fun ls hl => ?_)
      refine lv_iload_n hx hb dX4_look_22 rfl (lv_at hl 3 rfl) ?_
      by_cases h0 : x = nI 0
      · refine topi h0 ?_
        refine lv_tableIn (tgt := 56) hx hb dX4_look_23 (by decide) (by decide) rfl (by decide) ?_
        refine lv_aload_n hx hb dX4_look_56 rfl (lv_at hl 0 rfl) ?_
        refine z_get B hW (60 + 2 * (i)) (by omega) o_i rfl inX1 2 (by decide) hw_104 rfl (v := .int (nI (sK σ i))) rfl dX4_look_57 ?_
        exact ret_i B hr hlk hW (by rw [cif_t h0]; exact ⟨rfl, hX, fun _ _ => rfl⟩) dX4_look_60
      · by_cases h1 : x = nI 1
        · refine topi h1 ?_
          refine lv_tableIn (tgt := 61) hx hb dX4_look_23 (by decide) (by decide) rfl (by decide) ?_
          refine lv_aload_n hx hb dX4_look_61 rfl (lv_at hl 0 rfl) ?_
          refine z_get B hW (60 + 2 * (i)) (by omega) o_i rfl inX1 1 (by decide) hw_103 rfl (v := .int (nI (sW σ i))) rfl dX4_look_62 ?_
          exact ret_i B hr hlk hW (by rw [cif_f h0, cif_t h1]; exact ⟨rfl, hX, fun _ _ => rfl⟩) dX4_look_65
        · by_cases h2 : x = nI 2
          · refine topi h2 ?_
            refine lv_tableIn (tgt := 66) hx hb dX4_look_23 (by decide) (by decide) rfl (by decide) ?_
            refine lv_aload_n hx hb dX4_look_66 rfl (lv_at hl 0 rfl) ?_
            refine z_get B hW (60 + 2 * (i)) (by omega) o_i rfl inX1 0 (by decide) hw_101 rfl (v := .ref (ad (61 + 2 * (i)))) rfl dX4_look_67 ?_
            refine call_si B hA hW (k_leastPlace l G n ad w (61 + 2 * i) (sE σ i) (by omega) n_i r_i.s) mf_X3_leastPlace hw_280 rfl ⟨⟨rfl, rfl⟩, by decide, by decide⟩ ⟨Nat.zero_le _, Nat.zero_le _⟩ hl.1 rfl (Nat.le_of_ble_eq_true rfl) dX4_look_70 (fun r w9 H locs hp hW => ?_)
            obtain ⟨e1, e2⟩ := hp
            rw [e1] at hW
            exact ret_i B hr hlk hW (by rw [cif_f h0, cif_f h1, cif_t h2]; exact ⟨theI_eq e2 (fun _ _ => lstR_one), hX, fun _ _ => rfl⟩) dX4_look_73
          · by_cases h3 : x = nI 3
            · refine topi h3 ?_
              refine lv_tableIn (tgt := 74) hx hb dX4_look_23 (by decide) (by decide) rfl (by decide) ?_
              refine lv_aload_n hx hb dX4_look_74 rfl (lv_at hl 1 rfl) ?_
              refine z_get B hW (0) (by omega) x0 rfl inX4 2 (by decide) hw_117 rfl (v := .ref (ad (2))) rfl dX4_look_75 ?_
              refine lv_aload_n hx hb dX4_look_78 rfl (lv_at hl 0 rfl) ?_
              refine z_get B hW (60 + 2 * (i)) (by omega) o_i rfl inX1 1 (by decide) hw_103 rfl (v := .int (nI (sW σ i))) rfl dX4_look_79 ?_
              refine call_vi B hA hW (2) (by omega) b2 (r := _) rfl rfl (k_sizeOf l G n ad w (sW σ i) nf nf (by omega) w40_i hB) mf_X0_sizeOf hw_245 rfl ⟨⟨rfl, rfl⟩, by decide, by decide⟩ ⟨Nat.zero_le _, Nat.zero_le _⟩ hl.1 rfl (Nat.le_of_ble_eq_true rfl) dX4_look_82 (fun r w9 H locs hp hW => ?_)
              obtain ⟨e1, e2⟩ := hp
              rw [e1] at hW
              subst e2
              exact ret_i B hr hlk hW (by rw [cif_f h0, cif_f h1, cif_f h2, cif_t h3]; exact ⟨rfl, hX, fun _ _ => rfl⟩) dX4_look_85
            · by_cases h4 : x = nI 4
              · refine topi h4 ?_
                refine lv_tableIn (tgt := 86) hx hb dX4_look_23 (by decide) (by decide) rfl (by decide) ?_
                refine lv_aload_n hx hb dX4_look_86 rfl (lv_at hl 0 rfl) ?_
                refine z_get B hW (60 + 2 * (i)) (by omega) o_i rfl inX1 2 (by decide) hw_104 rfl (v := .int (nI (sK σ i))) rfl dX4_look_87 ?_
                refine lv_iconst (v := nI 1) hx hb dX4_look_90 (by decide) ?_
                refine n_icmp_eq (tgt := 102) hx hb (by omega) (by omega) dX4_look_91 (by decide) (fun hd => ?_) (fun hd => ?_)
                · refine lv_aload_n hx hb dX4_look_102 rfl (lv_at hl 0 rfl) ?_
                  refine z_get B hW (60 + 2 * (i)) (by omega) o_i rfl inX1 3 (by decide) hw_105 rfl (v := .int (nI (sT σ i))) rfl dX4_look_103 ?_
                  refine lv_goto (tgt := 115) hx hb dX4_look_106 (by decide) ?_
                  exact ret_i B hr hlk hW (by rw [cif_f h0, cif_f h1, cif_f h2, cif_f h3, cif_t h4, cif_t (Or.inl hd)]; exact ⟨rfl, hX, fun _ _ => rfl⟩) dX4_look_115
                · refine lv_aload_n hx hb dX4_look_94 rfl (lv_at hl 0 rfl) ?_
                  refine z_get B hW (60 + 2 * (i)) (by omega) o_i rfl inX1 2 (by decide) hw_104 rfl (v := .int (nI (sK σ i))) rfl dX4_look_95 ?_
                  refine lv_iconst (v := nI 2) hx hb dX4_look_98 (by decide) ?_
                  refine n_icmp_ne (tgt := 109) hx hb (by omega) (by omega) dX4_look_99 (by decide) (fun he => ?_) (fun he => ?_)
                  · refine lv_aload_n hx hb dX4_look_109 rfl (lv_at hl 1 rfl) ?_
                    refine lv_bipush (v := -5) hx hb dX4_look_110 (by decide) ?_
                    refine call_vi B hA hW (0) (by omega) x0 (r := _) rfl rfl (k_refuse l G n ad w hn σ hX (-5) 5 (by decide) (by decide) (by decide) (by decide) (by decide)) mf_X4_refuse hw_152 rfl ⟨⟨rfl, rfl⟩, by decide, by decide⟩ ⟨Nat.zero_le _, Nat.zero_le _⟩ hl.1 rfl (Nat.le_of_ble_eq_true rfl) dX4_look_112 (fun r w9 H locs hp hW => ?_)
                    exact ret_i B hr hlk hW (by rw [cif_f h0, cif_f h1, cif_f h2, cif_f h3, cif_t h4, cif_f (fun z => by omega)]; exact hp) dX4_look_115
                  · refine lv_aload_n hx hb dX4_look_102 rfl (lv_at hl 0 rfl) ?_
                    refine z_get B hW (60 + 2 * (i)) (by omega) o_i rfl inX1 3 (by decide) hw_105 rfl (v := .int (nI (sT σ i))) rfl dX4_look_103 ?_
                    refine lv_goto (tgt := 115) hx hb dX4_look_106 (by decide) ?_
                    exact ret_i B hr hlk hW (by rw [cif_f h0, cif_f h1, cif_f h2, cif_f h3, cif_t h4, cif_t (Or.inr he)]; exact ⟨rfl, hX, fun _ _ => rfl⟩) dX4_look_115
              · have hout : x.toInt < 0 ∨ 4 < x.toInt := by
                  rcases Int.lt_or_le x.toInt 0 with q | q
                  · exact Or.inl q
                  · rcases Int.lt_or_le 4 x.toInt with z | z
                    · exact Or.inr z
                    · exfalso
                      have hz : x.toInt = 0 ∨ x.toInt = 1 ∨ x.toInt = 2 ∨ x.toInt = 3 ∨ x.toInt = 4 := by omega
                      have hxx := iZ_of x
                      rcases hz with h | h | h | h | h <;> rw [h] at hxx
                      · exact h0 hxx.symm
                      · exact h1 hxx.symm
                      · exact h2 hxx.symm
                      · exact h3 hxx.symm
                      · exact h4 hxx.symm
                refine lv_tableOut (tgt := 116) hx hb dX4_look_23 hout (by decide) ?_
                refine lv_aload_n hx hb dX4_look_116 rfl (lv_at hl 1 rfl) ?_
                refine lv_bipush (v := -7) hx hb dX4_look_117 (by decide) ?_
                refine call_vi B hA hW (0) (by omega) x0 (r := _) rfl rfl (k_refuse l G n ad w hn σ hX (-7) 7 (by decide) (by decide) (by decide) (by decide) (by decide)) mf_X4_refuse hw_152 rfl ⟨⟨rfl, rfl⟩, by decide, by decide⟩ ⟨Nat.zero_le _, Nat.zero_le _⟩ hl.1 rfl (Nat.le_of_ble_eq_true rfl) dX4_look_119 (fun r w9 H locs hp hW => ?_)
                exact ret_i B hr hlk hW (by rw [cif_f h0, cif_f h1, cif_f h2, cif_f h3, cif_f h4]; exact hp) dX4_look_122
    · exact absurd hz (by decide)
  · refine n_if_ne (tgt := 15) hx hb (by omega) dX4_look_5 (by decide) (fun hz => ?_) (fun hz => ?_)
    · exact absurd rfl hz
    · refine lv_aload_n hx hb dX4_look_8 rfl (lv_at hl 0 rfl) ?_
      refine lv_bipush (v := -3) hx hb dX4_look_9 (by decide) ?_
      refine call_vi B hA hW (0) (by omega) x0 (r := _) rfl rfl (k_refuse l G n ad w hn σ hX (-3) 3 (by decide) (by decide) (by decide) (by decide) (by decide)) mf_X4_refuse hw_152 rfl ⟨⟨rfl, rfl⟩, by decide, by decide⟩ ⟨Nat.zero_le _, Nat.zero_le _⟩ hl.1 rfl (Nat.le_of_ble_eq_true rfl) dX4_look_11 (fun r w9 H locs hp hW => ?_)
      exact ret_i B hr hlk hW (by rw [show st_look σ f x = ref σ 3 by unfold st_look; rw [cif_f hnf]]; exact hp) dX4_look_14
set_option maxHeartbeats 4000000 in
set_option maxRecDepth 100000 in
theorem k_takeMore (l : Launch) (G : zG) (n : Nat) (ad : Nat → Nat) (w : Nat → va_E) (hn : 92 ≤ n) (σ : zS) (x0 : w 0 = eO 2 [.ref (ad (1)), .int (nI (sH σ)), .ref (ad (2)), .ref (ad (55)), .ref (ad (56)), .ref (ad (57)), .ref (ad (58)), .int (rlI (sR σ)), .ref (ad (59))]) (f0 : Nat → Int32) (x57 : w 57 = eI G 100 f0) (t9 s9 : Nat) (ht9 : t9 < 100) (hv : ∀ m, m ≤ t9 → f0 m = nI (sqN s9 m)) :
    Cv l G yX4_takeOneSquareMore cdX4_takeOneSquareMore (zr 0) n ad w [.ref (ad 0), .int (nI t9)] (fun w' => (∀ j, j ≠ 57 → w' j = w j) ∧ ∃ f, w' 57 = eI G 100 f ∧ ∀ m, m ≤ t9 → f m = nI (sqN (s9 + 1) m)) := by
  refine ent_v (cc := cX4_takeOneSquareMore) (maxL := 5) (ret := none) (by decide +kernel) rfl (Nat.le_of_ble_eq_true rfl) ?_
  intro p e s mid9 args below meth c A B hr hlk hA H locs ls hW hl
  have hx := B.1
  have hb := B.2.1
  have hl : lv_has ls 5 [(0, .ref (ad (0))), (1, .int (nI (t9)))] := hl
  refine lv_iload_n hx hb dX4_takeOneSquareMore_0 rfl (lv_at hl 1 rfl) ?_
  refine lv_istore_n (lv' := [(2, .int (nI (t9))), (0, .ref (ad (0))), (1, .int (nI (t9)))]) hx hb dX4_takeOneSquareMore_1 rfl hl (by decide) rfl (fun ls hl => ?_)
  refine z_dn (Wg := fun H locs ls => W p l e (zr 0) s mid9 args below meth c H locs 0 0 _ (F0 mid9 2 ls [])) (I := fun m H locs ls => ∃ (w2 : Nat → va_E) (f : Nat → Int32), Wo G A s.heap n ad w2 H locs ∧ lv_has ls 5 [(2, .int (nI m)), (0, .ref (ad 0)), (1, .int (nI t9))] ∧ m ≤ t9 ∧ (∀ j, j ≠ 57 → w2 j = w j) ∧ w2 57 = eI G 100 f ∧ (∀ q, q ≤ m → f q = nI (sqN s9 q)) ∧ ∀ q, m < q → q ≤ t9 → f q = nI (sqN (s9 + 1) q)) ?_ ?_ t9 H locs ls ⟨w, f0, hW, hl, Nat.le_refl _, fun _ _ => rfl, x57, hv, fun q h1 h2 => by omega⟩
  · rintro H locs ls ⟨w2, f, hW, hl, hm, h1, h2, h3, h4⟩
    refine lv_iload_n hx hb dX4_takeOneSquareMore_2 rfl (lv_at hl 0 rfl) ?_
    refine n_if_le (tgt := 59) hx hb (by omega) dX4_takeOneSquareMore_3 (by decide) (fun hc => ?_) (fun hc => ?_)
    · refine ret_v B hr hlk hW ⟨h1, f, h2, fun q hq => ?_⟩ dX4_takeOneSquareMore_59
      by_cases z : q = 0
      · rw [z, sqN_0]; exact h3 0 (Nat.le_refl 0)
      · exact h4 q (by omega) hq
    · omega
  · rintro m ih H locs ls ⟨w2, f, hW, hl, hm, h1, h2, h3, h4⟩
    have x0b := (h1 0 (by decide)).trans x0
    refine lv_iload_n hx hb dX4_takeOneSquareMore_2 rfl (lv_at hl 0 rfl) ?_
    refine n_if_le (tgt := 59) hx hb (by omega) dX4_takeOneSquareMore_3 (by decide) (fun hc => ?_) (fun hc => ?_)
    · omega
    · refine lv_iconst (v := nI 0) hx hb dX4_takeOneSquareMore_6 (by decide) ?_
      refine lv_istore_n (lv' := [(3, .int (nI (0))), (2, .int (nI (m + 1))), (0, .ref (ad (0))), (1, .int (nI (t9)))]) hx hb dX4_takeOneSquareMore_7 rfl hl (by decide) rfl (fun ls hl => ?_)
      refine lv_iconst (v := nI 1) hx hb dX4_takeOneSquareMore_8 (by decide) ?_
      refine lv_istore (lv' := [(4, .int (nI (1))), (3, .int (nI (0))), (2, .int (nI (m + 1))), (0, .ref (ad (0))), (1, .int (nI (t9)))]) hx hb dX4_takeOneSquareMore_9 hl (by decide) rfl (fun ls hl => ?_)
      have hrest : ∀ (r : Nat) (ls : Array Slot), r ≤ 11 → m + 1 < r * r → lv_has ls 5 [(4, .int (nI r)), (3, .int (nI (pS s9 (m + 1) r))), (2, .int (nI (m + 1))), (0, .ref (ad 0)), (1, .int (nI t9))] → W p l e (zr 0) s mid9 args below meth c H locs 0 0 (MQ below (va_Qv (fun w' => (∀ j, j ≠ 57 → w' j = w j) ∧ ∃ f, w' 57 = eI G 100 f ∧ ∀ m, m ≤ t9 → f m = nI (sqN (s9 + 1) m)) (Kp G n ad A) A) args s 0 0 A) (F0 mid9 41 ls []) := by
        intro r ls hr11 hrr hl
        refine lv_aload_n hx hb dX4_takeOneSquareMore_41 rfl (lv_at hl 3 rfl) ?_
        refine z_get B hW (0) (by omega) x0b rfl inX4 5 (by decide) hw_120 rfl (v := .ref (ad (57))) rfl dX4_takeOneSquareMore_42 ?_
        refine lv_iload_n hx hb dX4_takeOneSquareMore_45 rfl (lv_at hl 2 rfl) ?_
        refine lv_dup2_11 hx hb dX4_takeOneSquareMore_46 rfl rfl ?_
        refine z_iald B hW (57) (by omega) h2 (m + 1) (by omega) (by decide) (v := (nI (sqN s9 (m + 1)))) (h3 _ (by omega)) dX4_takeOneSquareMore_47 ?_
        refine lv_iconst (v := nI 2) hx hb dX4_takeOneSquareMore_48 (by decide) ?_
        refine lv_iload_n hx hb dX4_takeOneSquareMore_49 rfl (lv_at hl 1 rfl) ?_
        refine n_imul hx hb dX4_takeOneSquareMore_50 ?_
        refine n_iadd hx hb dX4_takeOneSquareMore_51 ?_
        refine z_iast B hW (57) (by omega) h2 (m + 1) (by omega) (by decide) dX4_takeOneSquareMore_52 (fun H locs hW => ?_)
        refine lv_iinc (v := (nI (m))) (lv' := [(2, .int (nI (m))), (4, .int (nI (r))), (3, .int (nI (pS s9 (m + 1) r))), (0, .ref (ad (0))), (1, .int (nI (t9)))]) hx hb dX4_takeOneSquareMore_53 hl (k := 2) rfl (by rw [im1, nI_pred]) (by decide) rfl (fun ls hl => ?_)
        refine lv_goto (tgt := 2) hx hb dX4_takeOneSquareMore_56 (by decide) ?_
        refine ih H locs ls ⟨_, _, hW, lv_sub hl [0, 3, 4] rfl, by omega, fun j hj => by rw [up_n hj]; exact h1 j hj, up_s, fun q hq => ?_, fun q hq1 hq2 => ?_⟩
        · rw [pk_un (by omega)]; exact h3 q (by omega)
        · by_cases z : q = m + 1
          · rw [z, pk_us, sqN_succ hrr hr11]
          · rw [pk_un z]; exact h4 q (by omega) hq2
      refine z_up1 (Wg := fun ls => W p l e (zr 0) s mid9 args below meth c H locs 0 0 _ (F0 mid9 11 ls [])) (I := fun r ls => lv_has ls 5 [(4, .int (nI r)), (3, .int (nI (pS s9 (m + 1) r))), (2, .int (nI (m + 1))), (0, .ref (ad 0)), (1, .int (nI t9))]) (a := 1) (b := 11) (by decide) ?_ ?_ ls (by rw [pS_1]; exact hl)
      · rintro r hr1 hr ih2 ls hl
        have hrl : r * r ≤ 10 * 10 := Nat.mul_le_mul (by omega) (by omega)
        refine lv_iload hx hb dX4_takeOneSquareMore_11 (lv_at hl 0 rfl) ?_
        refine lv_iload hx hb dX4_takeOneSquareMore_13 (lv_at hl 0 rfl) ?_
        refine n_imul hx hb dX4_takeOneSquareMore_15 ?_
        refine lv_iload_n hx hb dX4_takeOneSquareMore_16 rfl (lv_at hl 2 rfl) ?_
        refine n_icmp_gt (tgt := 41) hx hb (by omega) (by omega) dX4_takeOneSquareMore_17 (by decide) (fun hc => ?_) (fun hc => ?_)
        · exact hrest r ls (by omega) hc hl
        · refine lv_iload_n hx hb dX4_takeOneSquareMore_20 rfl (lv_at hl 1 rfl) ?_
          refine lv_aload_n hx hb dX4_takeOneSquareMore_21 rfl (lv_at hl 3 rfl) ?_
          refine z_get B hW (0) (by omega) x0b rfl inX4 5 (by decide) hw_120 rfl (v := .ref (ad (57))) rfl dX4_takeOneSquareMore_22 ?_
          refine lv_iload_n hx hb dX4_takeOneSquareMore_25 rfl (lv_at hl 2 rfl) ?_
          refine lv_iload hx hb dX4_takeOneSquareMore_26 (lv_at hl 0 rfl) ?_
          refine lv_iload hx hb dX4_takeOneSquareMore_28 (lv_at hl 0 rfl) ?_
          refine n_imul hx hb dX4_takeOneSquareMore_30 ?_
          refine n_isub hx hb (by omega) dX4_takeOneSquareMore_31 ?_
          refine z_iald B hW (57) (by omega) h2 ((m + 1) - (r * r)) (by omega) (by decide) (v := (nI (sqN s9 (m + 1 - r * r)))) (h3 _ (by omega)) dX4_takeOneSquareMore_32 ?_
          refine n_iadd hx hb dX4_takeOneSquareMore_33 ?_
          refine topi (y := (nI (pS s9 (m + 1) (r + 1)))) (by rw [pS_step hr1 hc]) ?_
          refine lv_istore_n (lv' := [(3, .int (nI (pS s9 (m + 1) (r + 1)))), (4, .int (nI (r))), (2, .int (nI (m + 1))), (0, .ref (ad (0))), (1, .int (nI (t9)))]) hx hb dX4_takeOneSquareMore_34 rfl hl (by decide) rfl (fun ls hl => ?_)
          refine lv_iinc (v := (nI (r + 1))) (lv' := [(4, .int (nI (r + 1))), (3, .int (nI (pS s9 (m + 1) (r + 1)))), (2, .int (nI (m + 1))), (0, .ref (ad (0))), (1, .int (nI (t9)))]) hx hb dX4_takeOneSquareMore_35 hl (k := 1) rfl (iinc1 _) (by decide) rfl (fun ls hl => ?_)
          refine lv_goto (tgt := 11) hx hb dX4_takeOneSquareMore_38 (by decide) ?_
          exact ih2 ls (lv_sub hl [0, 1, 2, 3, 4] rfl)
      · rintro ls hl
        refine lv_iload hx hb dX4_takeOneSquareMore_11 (lv_at hl 0 rfl) ?_
        refine lv_iload hx hb dX4_takeOneSquareMore_13 (lv_at hl 0 rfl) ?_
        refine n_imul hx hb dX4_takeOneSquareMore_15 ?_
        refine lv_iload_n hx hb dX4_takeOneSquareMore_16 rfl (lv_at hl 2 rfl) ?_
        refine n_icmp_gt (tgt := 41) hx hb (by omega) (by omega) dX4_takeOneSquareMore_17 (by decide) (fun hc => ?_) (fun hc => ?_)
        · exact hrest 11 ls (by decide) hc hl
        · omega
set_option maxHeartbeats 4000000 in
set_option maxRecDepth 100000 in
theorem k_X4_squares (l : Launch) (G : zG) (n : Nat) (ad : Nat → Nat) (w : Nat → va_E) (hn : 92 ≤ n) (σ : zS) (hX : XOK G ad w σ) (hs : SOK σ) (x y : Int32) :
    Ci l G yX4_squares cdX4_squares (zr 5) n ad w [.ref (ad (0)), .int (x), .int (y)] (postX G ad w (st_squares σ x y)) := by
  obtain ⟨⟨nf, hB⟩, x0, ⟨f1, x1, v1⟩, ⟨f55, x55⟩, ⟨f56, x56⟩, ⟨f57, x57⟩, ⟨f58, x58, v58⟩, ⟨f59, x59, v59⟩, xf⟩ := id hX
  have hsh := hs.1
  refine ent_i (cc := cX4_squares) (maxL := 4) (ret := (some .int)) (by decide +kernel) rfl (Nat.le_of_ble_eq_true rfl) ?_
  intro p e s m args below meth c A B hr hlk hA H locs ls hW hl
  have hx := B.1
  have hb := B.2.1
  have hl : lv_has ls 4 [(0, .ref (ad (0))), (1, .int (x)), (2, .int (y))] := hl
  obtain ⟨b2, -⟩ := id hB
  refine lv_iload_n hx hb dX4_squares_0 rfl (lv_at hl 1 rfl) ?_
  refine lv_iconst (v := nI 1) hx hb dX4_squares_1 (by decide) ?_
  refine lv_icmp_lt (tgt := 21) hx hb dX4_squares_2 (by decide) (fun hc => ?_) (fun hc => ?_)
  · refine lv_aload_n hx hb dX4_squares_21 rfl (lv_at hl 0 rfl) ?_
    refine lv_bipush (v := -7) hx hb dX4_squares_22 (by decide) ?_
    refine call_vi B hA hW (0) (by omega) x0 (r := _) rfl rfl (k_refuse l G n ad w hn σ hX (-7) 7 (by decide) (by decide) (by decide) (by decide) (by decide)) mf_X4_refuse hw_152 rfl ⟨⟨rfl, rfl⟩, by decide, by decide⟩ ⟨Nat.zero_le _, Nat.zero_le _⟩ hl.1 rfl (Nat.le_of_ble_eq_true rfl) dX4_squares_24 (fun r w9 H locs hp hW => ?_)
    exact ret_i B hr hlk hW (by rw [show st_squares σ x y = ref σ 7 by unfold st_squares; rw [cif_f (fun ⟨⟨k, q1, q2, q3⟩, ⟨j, q4, q5⟩⟩ => by rw [q3, nI_ltI (by omega) (by omega)] at hc; omega)]]; exact hp) dX4_squares_27
  · have hnl : ¬ x < 0 := fun q => hc (by rw [Int32.lt_iff_toInt_lt] at q ⊢; have e1 : (nI 1).toInt = 1 := rfl; have e0 : (0 : Int32).toInt = 0 := rfl; omega)
    obtain ⟨s9, hs9, rfl⟩ := nI_of hnl
    have h1s : 1 ≤ s9 := by rw [nI_ltI hs9 (by omega)] at hc; omega
    refine lv_iload_n hx hb dX4_squares_5 rfl (lv_at hl 1 rfl) ?_
    refine lv_bipush (v := nI 8) hx hb dX4_squares_6 (by decide) ?_
    refine n_icmp_gt (tgt := 21) hx hb (by omega) (by omega) dX4_squares_8 (by decide) (fun hd => ?_) (fun hd => ?_)
    · refine lv_aload_n hx hb dX4_squares_21 rfl (lv_at hl 0 rfl) ?_
      refine lv_bipush (v := -7) hx hb dX4_squares_22 (by decide) ?_
      refine call_vi B hA hW (0) (by omega) x0 (r := _) rfl rfl (k_refuse l G n ad w hn σ hX (-7) 7 (by decide) (by decide) (by decide) (by decide) (by decide)) mf_X4_refuse hw_152 rfl ⟨⟨rfl, rfl⟩, by decide, by decide⟩ ⟨Nat.zero_le _, Nat.zero_le _⟩ hl.1 rfl (Nat.le_of_ble_eq_true rfl) dX4_squares_24 (fun r w9 H locs hp hW => ?_)
      exact ret_i B hr hlk hW (by rw [show st_squares σ (nI s9) y = ref σ 7 by unfold st_squares; rw [cif_f (fun ⟨⟨k, q1, q2, q3⟩, ⟨j, q4, q5⟩⟩ => by have := (nI_eq hs9 (by omega)).mp q3; omega)]]; exact hp) dX4_squares_27
    · refine lv_iload_n hx hb dX4_squares_11 rfl (lv_at hl 2 rfl) ?_
      refine lv_if_lt (tgt := 21) hx hb dX4_squares_12 (by decide) (fun he => ?_) (fun he => ?_)
      · refine lv_aload_n hx hb dX4_squares_21 rfl (lv_at hl 0 rfl) ?_
        refine lv_bipush (v := -7) hx hb dX4_squares_22 (by decide) ?_
        refine call_vi B hA hW (0) (by omega) x0 (r := _) rfl rfl (k_refuse l G n ad w hn σ hX (-7) 7 (by decide) (by decide) (by decide) (by decide) (by decide)) mf_X4_refuse hw_152 rfl ⟨⟨rfl, rfl⟩, by decide, by decide⟩ ⟨Nat.zero_le _, Nat.zero_le _⟩ hl.1 rfl (Nat.le_of_ble_eq_true rfl) dX4_squares_24 (fun r w9 H locs hp hW => ?_)
        exact ret_i B hr hlk hW (by rw [show st_squares σ (nI s9) y = ref σ 7 by unfold st_squares; rw [cif_f (fun ⟨⟨k, q1, q2, q3⟩, ⟨j, q4, q5⟩⟩ => by exact nI_pos (by omega) (q5 ▸ he))]]; exact hp) dX4_squares_27
      · obtain ⟨t9, ht9, rfl⟩ := nI_of he
        refine lv_iload_n hx hb dX4_squares_15 rfl (lv_at hl 2 rfl) ?_
        refine lv_bipush (v := nI 100) hx hb dX4_squares_16 (by decide) ?_
        refine n_icmp_lt (tgt := 28) hx hb (by omega) (by omega) dX4_squares_18 (by decide) (fun hf => ?_) (fun hf => ?_)
        · have hS : st_squares σ (nI s9) (nI t9) = (nI (sqN s9 t9), σ) := by
            unfold st_squares
            rw [cif_t ⟨⟨s9, h1s, hd, rfl⟩, ⟨t9, hf, rfl⟩⟩, cN_nI hs9, cN_nI ht9]
          rw [hS]
          refine lv_iconst (v := nI 0) hx hb dX4_squares_28 (by decide) ?_
          refine lv_istore_n (lv' := [(3, .int (nI (0))), (0, .ref (ad (0))), (1, .int (nI (s9))), (2, .int (nI (t9)))]) hx hb dX4_squares_29 rfl hl (by decide) rfl (fun ls hl => ?_)
          refine z_up (Wg := fun H locs ls => W p l e (zr 5) s m args below meth c H locs 0 0 _ (F0 m 30 ls [])) (I := fun m H locs ls => ∃ (w2 : Nat → va_E) (f : Nat → Int32), Wo G A s.heap n ad w2 H locs ∧ lv_has ls 4 [(3, .int (nI m)), (0, .ref (ad 0)), (1, .int (nI s9)), (2, .int (nI t9))] ∧ (∀ j, j ≠ 57 → w2 j = w j) ∧ w2 57 = eI G 100 f ∧ (∀ q, q < m → f q = nI (sqN 0 q))) (a := 0) (b := t9 + 1) (Nat.zero_le _) ?_ ?_ H locs ls ⟨w, f57, hW, hl, fun _ _ => rfl, x57, fun q h => by omega⟩
          · rintro k9 - hk9 ih H locs ls ⟨w2, f, hW, hl, h1, h2, h3⟩
            have x0b := (h1 0 (by decide)).trans x0
            refine lv_iload_n hx hb dX4_squares_30 rfl (lv_at hl 0 rfl) ?_
            refine lv_iload_n hx hb dX4_squares_31 rfl (lv_at hl 3 rfl) ?_
            refine n_icmp_gt (tgt := 56) hx hb (by omega) (by omega) dX4_squares_32 (by decide) (fun hc => ?_) (fun hc => ?_)
            · omega
            · refine lv_aload_n hx hb dX4_squares_35 rfl (lv_at hl 1 rfl) ?_
              refine z_get B hW (0) (by omega) x0b rfl inX4 5 (by decide) hw_120 rfl (v := .ref (ad (57))) rfl dX4_squares_36 ?_
              refine lv_iload_n hx hb dX4_squares_39 rfl (lv_at hl 0 rfl) ?_
              refine lv_iload_n hx hb dX4_squares_40 rfl (lv_at hl 0 rfl) ?_
              refine n_if_ne (tgt := 48) hx hb (by omega) dX4_squares_41 (by decide) (fun hg => ?_) (fun hg => ?_)
              · refine lv_iconst (v := nI 0) hx hb dX4_squares_48 (by decide) ?_
                refine z_iast B hW (57) (by omega) h2 (k9) (by omega) (by decide) dX4_squares_49 (fun H locs hW => ?_)
                refine lv_iinc (v := (nI (k9 + 1))) (lv' := [(3, .int (nI (k9 + 1))), (0, .ref (ad (0))), (1, .int (nI (s9))), (2, .int (nI (t9)))]) hx hb dX4_squares_50 hl (k := 0) rfl (iinc1 _) (by decide) rfl (fun ls hl => ?_)
                refine lv_goto (tgt := 30) hx hb dX4_squares_53 (by decide) ?_
                refine ih H locs ls ⟨_, _, hW, lv_sub hl [0, 1, 2, 3] rfl, fun j hj => by rw [up_n hj]; exact h1 j hj, up_s, fun q hq => ?_⟩
                by_cases z : q = k9
                · rw [z, pk_us]; show _ = nI (if k9 = 0 then 1 else 0); simp [hg]
                · rw [pk_un z]; exact h3 q (by omega)
              · refine lv_iconst (v := nI 1) hx hb dX4_squares_44 (by decide) ?_
                refine lv_goto (tgt := 49) hx hb dX4_squares_45 (by decide) ?_
                refine z_iast B hW (57) (by omega) h2 (k9) (by omega) (by decide) dX4_squares_49 (fun H locs hW => ?_)
                refine lv_iinc (v := (nI (k9 + 1))) (lv' := [(3, .int (nI (k9 + 1))), (0, .ref (ad (0))), (1, .int (nI (s9))), (2, .int (nI (t9)))]) hx hb dX4_squares_50 hl (k := 0) rfl (iinc1 _) (by decide) rfl (fun ls hl => ?_)
                refine lv_goto (tgt := 30) hx hb dX4_squares_53 (by decide) ?_
                refine ih H locs ls ⟨_, _, hW, lv_sub hl [0, 1, 2, 3] rfl, fun j hj => by rw [up_n hj]; exact h1 j hj, up_s, fun q hq => ?_⟩
                by_cases z : q = k9
                · rw [z, pk_us]; show _ = nI (if k9 = 0 then 1 else 0); simp [hg]
                · rw [pk_un z]; exact h3 q (by omega)
          · rintro H locs ls ⟨w2, f, hW, hl, h1, h2, h3⟩
            refine lv_iload_n hx hb dX4_squares_30 rfl (lv_at hl 0 rfl) ?_
            refine lv_iload_n hx hb dX4_squares_31 rfl (lv_at hl 3 rfl) ?_
            refine n_icmp_gt (tgt := 56) hx hb (by omega) (by omega) dX4_squares_32 (by decide) (fun hc => ?_) (fun hc => ?_)
            · refine lv_iconst (v := nI 0) hx hb dX4_squares_56 (by decide) ?_
              refine lv_istore_n (lv' := [(3, .int (nI (0))), (0, .ref (ad (0))), (1, .int (nI (s9))), (2, .int (nI (t9)))]) hx hb dX4_squares_57 rfl hl (by decide) rfl (fun ls hl => ?_)
              refine z_up (Wg := fun H locs ls => W p l e (zr 5) s m args below meth c H locs 0 0 _ (F0 m 58 ls [])) (I := fun k9 H locs ls => ∃ (w2 : Nat → va_E) (f : Nat → Int32), Wo G A s.heap n ad w2 H locs ∧ lv_has ls 4 [(3, .int (nI k9)), (0, .ref (ad 0)), (1, .int (nI s9)), (2, .int (nI t9))] ∧ (∀ j, j ≠ 57 → w2 j = w j) ∧ w2 57 = eI G 100 f ∧ (∀ q, q ≤ t9 → f q = nI (sqN k9 q))) (a := 0) (b := s9) (Nat.zero_le _) ?_ ?_ H locs ls ⟨w2, f, hW, hl, h1, h2, fun q h => h3 q (by omega)⟩
              · rintro k9 - hk9 ih H locs ls ⟨w2, f, hW, hl, h1, h2, h3⟩
                have x0b := (h1 0 (by decide)).trans x0
                refine lv_iload_n hx hb dX4_squares_58 rfl (lv_at hl 0 rfl) ?_
                refine lv_iload_n hx hb dX4_squares_59 rfl (lv_at hl 2 rfl) ?_
                refine n_icmp_ge (tgt := 74) hx hb (by omega) (by omega) dX4_squares_60 (by decide) (fun hc => ?_) (fun hc => ?_)
                · omega
                · refine lv_aload_n hx hb dX4_squares_63 rfl (lv_at hl 1 rfl) ?_
                  refine lv_iload_n hx hb dX4_squares_64 rfl (lv_at hl 3 rfl) ?_
                  refine call_vv B hA hW (0) (by omega) x0b (r := _) rfl rfl (k_takeMore l G n ad w2 hn σ x0b f h2 t9 k9 hf h3) mf_X4_takeOneSquareMore hw_323 rfl ⟨⟨rfl, rfl⟩, by decide, by decide⟩ ⟨Nat.zero_le _, Nat.zero_le _⟩ hl.1 rfl (Nat.le_of_ble_eq_true rfl) dX4_squares_65 (fun w3 H locs hp hW => ?_)
                  obtain ⟨g1, g, g2, g3⟩ := hp
                  refine lv_iinc (v := (nI (k9 + 1))) (lv' := [(3, .int (nI (k9 + 1))), (0, .ref (ad (0))), (1, .int (nI (s9))), (2, .int (nI (t9)))]) hx hb dX4_squares_68 hl (k := 0) rfl (iinc1 _) (by decide) rfl (fun ls hl => ?_)
                  refine lv_goto (tgt := 58) hx hb dX4_squares_71 (by decide) ?_
                  exact ih H locs ls ⟨w3, g, hW, hl, fun j hj => (g1 j hj).trans (h1 j hj), g2, g3⟩
              · rintro H locs ls ⟨w2, f, hW, hl, h1, h2, h3⟩
                have x0b := (h1 0 (by decide)).trans x0
                refine lv_iload_n hx hb dX4_squares_58 rfl (lv_at hl 0 rfl) ?_
                refine lv_iload_n hx hb dX4_squares_59 rfl (lv_at hl 2 rfl) ?_
                refine n_icmp_ge (tgt := 74) hx hb (by omega) (by omega) dX4_squares_60 (by decide) (fun hc => ?_) (fun hc => ?_)
                · refine lv_aload_n hx hb dX4_squares_74 rfl (lv_at hl 1 rfl) ?_
                  refine z_get B hW (0) (by omega) x0b rfl inX4 5 (by decide) hw_120 rfl (v := .ref (ad (57))) rfl dX4_squares_75 ?_
                  refine lv_iload_n hx hb dX4_squares_78 rfl (lv_at hl 3 rfl) ?_
                  refine z_iald B hW (57) (by omega) h2 (t9) (by omega) (by decide) (v := (nI (sqN s9 t9))) (h3 _ (Nat.le_refl _)) dX4_squares_79 ?_
                  exact ret_i B hr hlk hW ⟨rfl, hX.gen ⟨nf, hB.keep (fun j q1 q2 => h1 j (by omega))⟩ ⟨f55, (h1 55 (by decide)).trans x55⟩ ⟨f56, (h1 56 (by decide)).trans x56⟩ ⟨f, h2⟩ (fun i hi q => by
                    obtain ⟨_, _, _, fz, _, hz⟩ := hX.free hi
                    exact ⟨fz, (h1 _ (by omega)).trans hz⟩) (fun j q1 q2 => h1 j (by omega)), fun j hj => h1 j (by omega)⟩ dX4_squares_80
                · omega
            · omega
        · refine lv_aload_n hx hb dX4_squares_21 rfl (lv_at hl 0 rfl) ?_
          refine lv_bipush (v := -7) hx hb dX4_squares_22 (by decide) ?_
          refine call_vi B hA hW (0) (by omega) x0 (r := _) rfl rfl (k_refuse l G n ad w hn σ hX (-7) 7 (by decide) (by decide) (by decide) (by decide) (by decide)) mf_X4_refuse hw_152 rfl ⟨⟨rfl, rfl⟩, by decide, by decide⟩ ⟨Nat.zero_le _, Nat.zero_le _⟩ hl.1 rfl (Nat.le_of_ble_eq_true rfl) dX4_squares_24 (fun r w9 H locs hp hW => ?_)
          exact ret_i B hr hlk hW (by rw [show st_squares σ (nI s9) (nI t9) = ref σ 7 by unfold st_squares; rw [cif_f (fun ⟨⟨k, q1, q2, q3⟩, ⟨j, q4, q5⟩⟩ => by have := (nI_eq ht9 (by omega)).mp q5; omega)]]; exact hp) dX4_squares_27
